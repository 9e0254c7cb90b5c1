-- X9_requireLength
def KX9_requireLength : List (Nat × Nat × Instr) := [(0, 1, .iload_n 1), (1, 1, .iload_n 2), (2, 3, .if_icmp .lt 11), (5, 1, .iload_n 1), (6, 1, .aload_n 0), (7, 3, .getfield 13), (10, 3, .if_icmp .le 14), (13, 3, .new 289), (16, 1, .dup), (17, 3, .ldc_w 357), (20, 3, .invokespecial 293), (23, 1, .athrow), (24, 1, .return_)]
theorem hX9_requireLength : osDs cX9_requireLength KX9_requireLength := by
  show ∀ q ∈ KX9_requireLength, decode cX9_requireLength q.1 = .ok (q.2.2, q.2.1)
  decide +kernel
def qX9_requireLength_13 (N : Nat) : osM (Nat ⊕ Unit) := osthrow 1
def qX9_requireLength (N : Nat) (l0 : Nat) (l1 : Int32) (l2 : Int32) : osM (Nat ⊕ Unit) := osite (l1 < l2) (qX9_requireLength_13 N ) (osbind (osgI [7] 1 l0) fun x1 => osite (l1 ≤ x1) (osRt (osret ())) (qX9_requireLength_13 N ))
set_option maxRecDepth 100000 in
set_option maxHeartbeats 4000000 in
theorem sX9_requireLength_13 (N : Nat) : osW (osFinT (fun _ : Unit => none) 1 6) yX9_requireLength cX9_requireLength 3 none [] { frames := 6, cells := 1, slots := 6, locals := 90 } 0 0 13 [] [] (qX9_requireLength_13 N) := by
  unfold qX9_requireLength_13
  exact xth293 (j := 1) (jt := 22) (q := ("OrderSettler", 357, "the length is out of range")) rfl rfl rfl rfl (hX9_requireLength.at 7 rfl rfl) (hX9_requireLength.at 8 rfl rfl) (Or.inr (hX9_requireLength.at 9 rfl rfl)) (hX9_requireLength.at 10 rfl rfl) (hX9_requireLength.at 11 rfl rfl) (Nat.le_of_ble_eq_true rfl) (Nat.le_of_ble_eq_true rfl) (Nat.le_of_ble_eq_true rfl) (Nat.le_of_ble_eq_true rfl) (Nat.le_of_ble_eq_true rfl) (Nat.le_of_ble_eq_true rfl)
set_option maxRecDepth 100000 in
set_option maxHeartbeats 4000000 in
theorem sX9_requireLength (N : Nat) (l0 : Nat) (l1 : Int32) (l2 : Int32) : osMetT yX9_requireLength cX9_requireLength 3 none 6 90 1 6 (fun _ : Unit => none) [.ref l0, .int l1, .int l2] (qX9_requireLength N l0 l1 l2) := by
  refine osMetT.of plX9 (Nat.le_of_ble_eq_true rfl) (osW.rw (lv2 := [(0, .ref l0), (1, .int l1), (2, .int l2)]) ?_ rfl rfl rfl)
  unfold qX9_requireLength
  refine os_iload_n (i := 1) (q := 1) (v := l1) 1 rfl rfl (hX9_requireLength.at 0 rfl rfl) ?_
  refine os_iload_n (i := 2) (q := 2) (v := l2) 2 rfl rfl (hX9_requireLength.at 1 rfl rfl) ?_
  refine os_icmp_lt (off := 11) (tgt := 13) rfl (hX9_requireLength.at 2 rfl rfl) ?_ ?_
  · exact osW.sub [] rfl (sX9_requireLength_13 N )
  · refine os_iload_n (i := 1) (q := 1) (v := l1) 1 rfl rfl (hX9_requireLength.at 3 rfl rfl) ?_
    refine os_aload_n (i := 0) (q := 0) (v := l0) 0 rfl rfl (hX9_requireLength.at 4 rfl rfl) ?_
    refine os_getI fX9_13 (hX9_requireLength.at 5 rfl rfl) (fun x1 => ?_)
    refine os_icmp_le (off := 14) (tgt := 24) rfl (hX9_requireLength.at 6 rfl rfl) ?_ ?_
    · exact os_ofM (os_vret (Nat.le_of_ble_eq_true rfl) (Nat.le_of_ble_eq_true rfl) (hX9_requireLength.at 12 rfl rfl).1)
    · exact osW.sub [] rfl (sX9_requireLength_13 N )
-- X9_requireReport
def KX9_requireReport : List (Nat × Nat × Instr) := [(0, 1, .iload_n 1), (1, 3, .ifCond .lt 8), (4, 1, .iload_n 1), (5, 1, .iload_n 2), (6, 3, .if_icmp .lt 14), (9, 3, .new 289), (12, 1, .dup), (13, 3, .ldc_w 359), (16, 3, .invokespecial 293), (19, 1, .athrow), (20, 1, .return_)]
theorem hX9_requireReport : osDs cX9_requireReport KX9_requireReport := by
  show ∀ q ∈ KX9_requireReport, decode cX9_requireReport q.1 = .ok (q.2.2, q.2.1)
  decide +kernel
def qX9_requireReport_9 (N : Nat) : osM (Nat ⊕ Unit) := osthrow 1
def qX9_requireReport (N : Nat) (l0 : Nat) (l1 : Int32) (l2 : Int32) : osM (Nat ⊕ Unit) := osite (l1 < 0) (qX9_requireReport_9 N ) (osite (l1 < l2) (osRt (osret ())) (qX9_requireReport_9 N ))
set_option maxRecDepth 100000 in
set_option maxHeartbeats 4000000 in
theorem sX9_requireReport_9 (N : Nat) : osW (osFinT (fun _ : Unit => none) 1 6) yX9_requireReport cX9_requireReport 3 none [] { frames := 6, cells := 1, slots := 6, locals := 90 } 0 0 9 [] [] (qX9_requireReport_9 N) := by
  unfold qX9_requireReport_9
  exact xth293 (j := 1) (jt := 23) (q := ("OrderSettler", 359, "there is no such report")) rfl rfl rfl rfl (hX9_requireReport.at 5 rfl rfl) (hX9_requireReport.at 6 rfl rfl) (Or.inr (hX9_requireReport.at 7 rfl rfl)) (hX9_requireReport.at 8 rfl rfl) (hX9_requireReport.at 9 rfl rfl) (Nat.le_of_ble_eq_true rfl) (Nat.le_of_ble_eq_true rfl) (Nat.le_of_ble_eq_true rfl) (Nat.le_of_ble_eq_true rfl) (Nat.le_of_ble_eq_true rfl) (Nat.le_of_ble_eq_true rfl)
set_option maxRecDepth 100000 in
set_option maxHeartbeats 4000000 in
theorem sX9_requireReport (N : Nat) (l0 : Nat) (l1 : Int32) (l2 : Int32) : osMetT yX9_requireReport cX9_requireReport 3 none 6 90 1 6 (fun _ : Unit => none) [.ref l0, .int l1, .int l2] (qX9_requireReport N l0 l1 l2) := by
  refine osMetT.of plX9 (Nat.le_of_ble_eq_true rfl) (osW.rw (lv2 := [(0, .ref l0), (1, .int l1), (2, .int l2)]) ?_ rfl rfl rfl)
  unfold qX9_requireReport
  refine os_iload_n (i := 1) (q := 1) (v := l1) 1 rfl rfl (hX9_requireReport.at 0 rfl rfl) ?_
  refine os_if_lt (off := 8) (tgt := 9) rfl (hX9_requireReport.at 1 rfl rfl) ?_ ?_
  · exact osW.sub [] rfl (sX9_requireReport_9 N )
  · refine os_iload_n (i := 1) (q := 1) (v := l1) 1 rfl rfl (hX9_requireReport.at 2 rfl rfl) ?_
    refine os_iload_n (i := 2) (q := 2) (v := l2) 2 rfl rfl (hX9_requireReport.at 3 rfl rfl) ?_
    refine os_icmp_lt (off := 14) (tgt := 20) rfl (hX9_requireReport.at 4 rfl rfl) ?_ ?_
    · exact os_ofM (os_vret (Nat.le_of_ble_eq_true rfl) (Nat.le_of_ble_eq_true rfl) (hX9_requireReport.at 10 rfl rfl).1)
    · exact osW.sub [] rfl (sX9_requireReport_9 N )
-- X9_requireArea
def KX9_requireArea : List (Nat × Nat × Instr) := [(0, 1, .aload_n 0), (1, 3, .getfield 63), (4, 1, .iload_n 1), (5, 3, .invokevirtual 361), (8, 3, .ifCond .ne 14), (11, 3, .new 172), (14, 1, .dup), (15, 3, .ldc_w 364), (18, 3, .invokespecial 176), (21, 1, .athrow), (22, 1, .return_)]
theorem hX9_requireArea : osDs cX9_requireArea KX9_requireArea := by
  show ∀ q ∈ KX9_requireArea, decode cX9_requireArea q.1 = .ok (q.2.2, q.2.1)
  decide +kernel
def qX9_requireArea (N : Nat) (l0 : Nat) (l1 : Int32) : osM (Nat ⊕ Unit) := osbind (osgR [7] 10 l0) fun x1 => osbind (osrecv [0] x1 (qX0_isArea N x1 l1)) fun x2 => osite (x2 = 0) (osthrow 2) (osRt (osret ()))
set_option maxRecDepth 100000 in
set_option maxHeartbeats 4000000 in
theorem sX9_requireArea (N : Nat) (l0 : Nat) (l1 : Int32) : osMetT yX9_requireArea cX9_requireArea 2 none 6 90 1 6 (fun _ : Unit => none) [.ref l0, .int l1] (qX9_requireArea N l0 l1) := by
  refine osMetT.of plX9 (Nat.le_of_ble_eq_true rfl) (osW.rw (lv2 := [(0, .ref l0), (1, .int l1)]) ?_ rfl rfl rfl)
  unfold qX9_requireArea
  refine os_aload_n (i := 0) (q := 0) (v := l0) 0 rfl rfl (hX9_requireArea.at 0 rfl rfl) ?_
  refine os_getR fX9_63 (hX9_requireArea.at 1 rfl rfl) (fun x1 => ?_)
  refine os_iload_n (i := 1) (q := 1) (v := l1) 1 rfl rfl (hX9_requireArea.at 2 rfl rfl) ?_
  refine os_callV (cis := [0]) (b := x1) (As := [.int l1]) (st := []) (st' := (fun r => .int r :: [])) sl0_X0_isArea_X0_isArea mdX0_isArea wd1060 wd756 (sX0_isArea N x1 l1) rfl rfl (fun _ => rfl) (Nat.le_of_ble_eq_true rfl) (Nat.le_of_ble_eq_true rfl) (Nat.le_of_ble_eq_true rfl) rfl (Nat.le_of_ble_eq_true rfl) rfl (Nat.le_of_ble_eq_true rfl) (hX9_requireArea.at 3 rfl rfl) (fun x2 => ?_)
  refine os_if_ne (off := 14) (tgt := 22) rfl (hX9_requireArea.at 4 rfl rfl) ?_ ?_
  · exact os_ofM (os_vret (Nat.le_of_ble_eq_true rfl) (Nat.le_of_ble_eq_true rfl) (hX9_requireArea.at 10 rfl rfl).1)
  · exact xth176 (j := 2) (jt := 24) (q := ("OrderSettler", 364, "there is no such area")) rfl rfl rfl rfl (hX9_requireArea.at 5 rfl rfl) (hX9_requireArea.at 6 rfl rfl) (Or.inr (hX9_requireArea.at 7 rfl rfl)) (hX9_requireArea.at 8 rfl rfl) (hX9_requireArea.at 9 rfl rfl) (Nat.le_of_ble_eq_true rfl) (Nat.le_of_ble_eq_true rfl) (Nat.le_of_ble_eq_true rfl) (Nat.le_of_ble_eq_true rfl) (Nat.le_of_ble_eq_true rfl) (Nat.le_of_ble_eq_true rfl)
-- X9_requirePower
def KX9_requirePower : List (Nat × Nat × Instr) := [(0, 1, .iload_n 1), (1, 3, .ifCond .lt 14), (4, 1, .iload_n 1), (5, 1, .aload_n 0), (6, 3, .getfield 63), (9, 3, .getfield 123), (12, 3, .if_icmp .lt 14), (15, 3, .new 172), (18, 1, .dup), (19, 3, .ldc_w 366), (22, 3, .invokespecial 176), (25, 1, .athrow), (26, 1, .return_)]
theorem hX9_requirePower : osDs cX9_requirePower KX9_requirePower := by
  show ∀ q ∈ KX9_requirePower, decode cX9_requirePower q.1 = .ok (q.2.2, q.2.1)
  decide +kernel
def qX9_requirePower_15 (N : Nat) : osM (Nat ⊕ Unit) := osthrow 2
def qX9_requirePower (N : Nat) (l0 : Nat) (l1 : Int32) : osM (Nat ⊕ Unit) := osite (l1 < 0) (qX9_requirePower_15 N ) (osbind (osgR [7] 10 l0) fun x1 => osbind (osgI [0] 1 x1) fun x2 => osite (l1 < x2) (osRt (osret ())) (qX9_requirePower_15 N ))
set_option maxRecDepth 100000 in
set_option maxHeartbeats 4000000 in
theorem sX9_requirePower_15 (N : Nat) : osW (osFinT (fun _ : Unit => none) 1 6) yX9_requirePower cX9_requirePower 2 none [] { frames := 6, cells := 1, slots := 6, locals := 90 } 0 0 15 [] [] (qX9_requirePower_15 N) := by
  unfold qX9_requirePower_15
  exact xth176 (j := 2) (jt := 25) (q := ("OrderSettler", 366, "there is no such power")) rfl rfl rfl rfl (hX9_requirePower.at 7 rfl rfl) (hX9_requirePower.at 8 rfl rfl) (Or.inr (hX9_requirePower.at 9 rfl rfl)) (hX9_requirePower.at 10 rfl rfl) (hX9_requirePower.at 11 rfl rfl) (Nat.le_of_ble_eq_true rfl) (Nat.le_of_ble_eq_true rfl) (Nat.le_of_ble_eq_true rfl) (Nat.le_of_ble_eq_true rfl) (Nat.le_of_ble_eq_true rfl) (Nat.le_of_ble_eq_true rfl)
set_option maxRecDepth 100000 in
set_option maxHeartbeats 4000000 in
theorem sX9_requirePower (N : Nat) (l0 : Nat) (l1 : Int32) : osMetT yX9_requirePower cX9_requirePower 2 none 6 90 1 6 (fun _ : Unit => none) [.ref l0, .int l1] (qX9_requirePower N l0 l1) := by
  refine osMetT.of plX9 (Nat.le_of_ble_eq_true rfl) (osW.rw (lv2 := [(0, .ref l0), (1, .int l1)]) ?_ rfl rfl rfl)
  unfold qX9_requirePower
  refine os_iload_n (i := 1) (q := 1) (v := l1) 1 rfl rfl (hX9_requirePower.at 0 rfl rfl) ?_
  refine os_if_lt (off := 14) (tgt := 15) rfl (hX9_requirePower.at 1 rfl rfl) ?_ ?_
  · exact osW.sub [] rfl (sX9_requirePower_15 N )
  · refine os_iload_n (i := 1) (q := 1) (v := l1) 1 rfl rfl (hX9_requirePower.at 2 rfl rfl) ?_
    refine os_aload_n (i := 0) (q := 0) (v := l0) 0 rfl rfl (hX9_requirePower.at 3 rfl rfl) ?_
    refine os_getR fX9_63 (hX9_requirePower.at 4 rfl rfl) (fun x1 => ?_)
    refine os_getI fX9_123 (hX9_requirePower.at 5 rfl rfl) (fun x2 => ?_)
    refine os_icmp_lt (off := 14) (tgt := 26) rfl (hX9_requirePower.at 6 rfl rfl) ?_ ?_
    · exact os_ofM (os_vret (Nat.le_of_ble_eq_true rfl) (Nat.le_of_ble_eq_true rfl) (hX9_requirePower.at 12 rfl rfl).1)
    · exact osW.sub [] rfl (sX9_requirePower_15 N )
-- X9_requirePhase
def KX9_requirePhase : List (Nat × Nat × Instr) := [(0, 1, .aload_n 0), (1, 3, .getfield 71), (4, 3, .getfield 201), (7, 1, .iload_n 1), (8, 3, .if_icmp .eq 14), (11, 3, .new 78), (14, 1, .dup), (15, 3, .ldc_w 370), (18, 3, .invokespecial 82), (21, 1, .athrow), (22, 1, .return_)]
theorem hX9_requirePhase : osDs cX9_requirePhase KX9_requirePhase := by
  show ∀ q ∈ KX9_requirePhase, decode cX9_requirePhase q.1 = .ok (q.2.2, q.2.1)
  decide +kernel
def qX9_requirePhase (N : Nat) (l0 : Nat) (l1 : Int32) : osM (Nat ⊕ Unit) := osbind (osgR [7] 12 l0) fun x1 => osbind (osgI [5] 0 x1) fun x2 => osite (x2 = l1) (osRt (osret ())) (osthrow 0)
set_option maxRecDepth 100000 in
set_option maxHeartbeats 4000000 in
theorem sX9_requirePhase (N : Nat) (l0 : Nat) (l1 : Int32) : osMetT yX9_requirePhase cX9_requirePhase 2 none 6 90 1 6 (fun _ : Unit => none) [.ref l0, .int l1] (qX9_requirePhase N l0 l1) := by
  refine osMetT.of plX9 (Nat.le_of_ble_eq_true rfl) (osW.rw (lv2 := [(0, .ref l0), (1, .int l1)]) ?_ rfl rfl rfl)
  unfold qX9_requirePhase
  refine os_aload_n (i := 0) (q := 0) (v := l0) 0 rfl rfl (hX9_requirePhase.at 0 rfl rfl) ?_
  refine os_getR fX9_71 (hX9_requirePhase.at 1 rfl rfl) (fun x1 => ?_)
  refine os_getI fX9_201 (hX9_requirePhase.at 2 rfl rfl) (fun x2 => ?_)
  refine os_iload_n (i := 1) (q := 1) (v := l1) 1 rfl rfl (hX9_requirePhase.at 3 rfl rfl) ?_
  refine os_icmp_eq (off := 14) (tgt := 22) rfl (hX9_requirePhase.at 4 rfl rfl) ?_ ?_
  · exact os_ofM (os_vret (Nat.le_of_ble_eq_true rfl) (Nat.le_of_ble_eq_true rfl) (hX9_requirePhase.at 10 rfl rfl).1)
  · exact xth82 (j := 0) (jt := 27) (q := ("OrderSettler", 370, "the phase is another one")) rfl rfl rfl rfl (hX9_requirePhase.at 5 rfl rfl) (hX9_requirePhase.at 6 rfl rfl) (Or.inr (hX9_requirePhase.at 7 rfl rfl)) (hX9_requirePhase.at 8 rfl rfl) (hX9_requirePhase.at 9 rfl rfl) (Nat.le_of_ble_eq_true rfl) (Nat.le_of_ble_eq_true rfl) (Nat.le_of_ble_eq_true rfl) (Nat.le_of_ble_eq_true rfl) (Nat.le_of_ble_eq_true rfl) (Nat.le_of_ble_eq_true rfl)
-- X9_requireSettled
def KX9_requireSettled : List (Nat × Nat × Instr) := [(0, 1, .aload_n 0), (1, 3, .getfield 71), (4, 3, .getfield 372), (7, 3, .ifCond .ne 14), (10, 3, .new 78), (13, 1, .dup), (14, 3, .ldc_w 376), (17, 3, .invokespecial 82), (20, 1, .athrow), (21, 1, .return_)]
theorem hX9_requireSettled : osDs cX9_requireSettled KX9_requireSettled := by
  show ∀ q ∈ KX9_requireSettled, decode cX9_requireSettled q.1 = .ok (q.2.2, q.2.1)
  decide +kernel
def qX9_requireSettled (N : Nat) (l0 : Nat) : osM (Nat ⊕ Unit) := osbind (osgR [7] 12 l0) fun x1 => osbind (osgI [5] 2 x1) fun x2 => osite (x2 = 0) (osthrow 0) (osRt (osret ()))
set_option maxRecDepth 100000 in
set_option maxHeartbeats 4000000 in
theorem sX9_requireSettled (N : Nat) (l0 : Nat) : osMetT yX9_requireSettled cX9_requireSettled 1 none 6 90 1 6 (fun _ : Unit => none) [.ref l0] (qX9_requireSettled N l0) := by
  refine osMetT.of plX9 (Nat.le_of_ble_eq_true rfl) (osW.rw (lv2 := [(0, .ref l0)]) ?_ rfl rfl rfl)
  unfold qX9_requireSettled
  refine os_aload_n (i := 0) (q := 0) (v := l0) 0 rfl rfl (hX9_requireSettled.at 0 rfl rfl) ?_
  refine os_getR fX9_71 (hX9_requireSettled.at 1 rfl rfl) (fun x1 => ?_)
  refine os_getI fX9_372 (hX9_requireSettled.at 2 rfl rfl) (fun x2 => ?_)
  refine os_if_ne (off := 14) (tgt := 21) rfl (hX9_requireSettled.at 3 rfl rfl) ?_ ?_
  · exact os_ofM (os_vret (Nat.le_of_ble_eq_true rfl) (Nat.le_of_ble_eq_true rfl) (hX9_requireSettled.at 9 rfl rfl).1)
  · exact xth82 (j := 0) (jt := 28) (q := ("OrderSettler", 376, "nothing was settled")) rfl rfl rfl rfl (hX9_requireSettled.at 4 rfl rfl) (hX9_requireSettled.at 5 rfl rfl) (Or.inr (hX9_requireSettled.at 6 rfl rfl)) (hX9_requireSettled.at 7 rfl rfl) (hX9_requireSettled.at 8 rfl rfl) (Nat.le_of_ble_eq_true rfl) (Nat.le_of_ble_eq_true rfl) (Nat.le_of_ble_eq_true rfl) (Nat.le_of_ble_eq_true rfl) (Nat.le_of_ble_eq_true rfl) (Nat.le_of_ble_eq_true rfl)
-- X9_feed
def KX9_feed : List (Nat × Nat × Instr) := [(0, 1, .aload_n 0), (1, 3, .getfield 13), (4, 2, .bipush 20), (6, 1, .iadd), (7, 3, .sipush 1000), (10, 3, .if_icmp .le 13), (13, 3, .new 78), (16, 1, .dup), (17, 2, .ldc 80), (19, 3, .invokespecial 82), (22, 1, .athrow), (23, 1, .aload_n 0), (24, 1, .iload_n 1), (25, 3, .invokevirtual 85), (28, 1, .aload_n 0), (29, 1, .iload_n 2), (30, 3, .invokevirtual 85), (33, 1, .aload_n 0), (34, 1, .iload_n 3), (35, 3, .invokevirtual 85), (38, 1, .aload_n 0), (39, 2, .iload 4), (41, 3, .invokevirtual 85), (44, 1, .aload_n 0), (45, 2, .iload 5), (47, 3, .invokevirtual 85), (50, 1, .aload_n 0), (51, 3, .getfield 13), (54, 1, .ireturn)]
theorem hX9_feed : osDs cX9_feed KX9_feed := by
  show ∀ q ∈ KX9_feed, decode cX9_feed q.1 = .ok (q.2.2, q.2.1)
  decide +kernel
def qX9_feed (N : Nat) (l0 : Nat) (l1 : Int32) (l2 : Int32) (l3 : Int32) (l4 : Int32) (l5 : Int32) : osM (Nat ⊕ Int32) := osbind (osgI [7] 1 l0) fun x1 => osite ((x1 + (20 : Int32)) ≤ (1000 : Int32)) (osbind (osrecv [7] l0 (qX9_append N l0 l1)) fun _ => osbind (osrecv [7] l0 (qX9_append N l0 l2)) fun _ => osbind (osrecv [7] l0 (qX9_append N l0 l3)) fun _ => osbind (osrecv [7] l0 (qX9_append N l0 l4)) fun _ => osbind (osrecv [7] l0 (qX9_append N l0 l5)) fun _ => osbind (osgI [7] 1 l0) fun x2 => osRt (osret x2)) (osthrow 0)
set_option maxRecDepth 100000 in
set_option maxHeartbeats 4000000 in
theorem sX9_feed (N : Nat) (l0 : Nat) (l1 : Int32) (l2 : Int32) (l3 : Int32) (l4 : Int32) (l5 : Int32) : osMetT yX9_feed cX9_feed 6 (some .int) 6 90 1 6 (fun r : Int32 => some (.int r)) [.ref l0, .int l1, .int l2, .int l3, .int l4, .int l5] (qX9_feed N l0 l1 l2 l3 l4 l5) := by
  refine osMetT.of plX9 (Nat.le_of_ble_eq_true rfl) (osW.rw (lv2 := [(0, .ref l0), (1, .int l1), (2, .int l2), (3, .int l3), (4, .int l4), (5, .int l5)]) ?_ rfl rfl rfl)
  unfold qX9_feed
  refine os_aload_n (i := 0) (q := 0) (v := l0) 0 rfl rfl (hX9_feed.at 0 rfl rfl) ?_
  refine os_getI fX9_13 (hX9_feed.at 1 rfl rfl) (fun x1 => ?_)
  refine os_bipush (i := 20) (v := (20 : Int32)) rfl (hX9_feed.at 2 rfl rfl) ?_
  refine os_iadd (hX9_feed.at 3 rfl rfl) ?_
  refine os_sipush (i := 1000) (v := (1000 : Int32)) rfl (hX9_feed.at 4 rfl rfl) ?_
  refine os_icmp_le (off := 13) (tgt := 23) rfl (hX9_feed.at 5 rfl rfl) ?_ ?_
  · refine os_aload_n (i := 0) (q := 0) (v := l0) 0 rfl rfl (hX9_feed.at 11 rfl rfl) ?_
    refine os_iload_n (i := 1) (q := 1) (v := l1) 1 rfl rfl (hX9_feed.at 12 rfl rfl) ?_
    refine os_callV (cis := [7]) (b := l0) (As := [.int l1]) (st := []) (st' := (fun _ => [])) sl7_X9_append_X9_append mdX9_append wd614 wd616 (sX9_append N l0 l1) rfl rfl (fun _ => rfl) (Nat.le_of_ble_eq_true rfl) (Nat.le_of_ble_eq_true rfl) (Nat.le_of_ble_eq_true rfl) rfl (Nat.le_of_ble_eq_true rfl) rfl (Nat.le_of_ble_eq_true rfl) (hX9_feed.at 13 rfl rfl) (fun _ => ?_)
    refine os_aload_n (i := 0) (q := 0) (v := l0) 0 rfl rfl (hX9_feed.at 14 rfl rfl) ?_
    refine os_iload_n (i := 2) (q := 2) (v := l2) 2 rfl rfl (hX9_feed.at 15 rfl rfl) ?_
    refine os_callV (cis := [7]) (b := l0) (As := [.int l2]) (st := []) (st' := (fun _ => [])) sl7_X9_append_X9_append mdX9_append wd614 wd616 (sX9_append N l0 l2) rfl rfl (fun _ => rfl) (Nat.le_of_ble_eq_true rfl) (Nat.le_of_ble_eq_true rfl) (Nat.le_of_ble_eq_true rfl) rfl (Nat.le_of_ble_eq_true rfl) rfl (Nat.le_of_ble_eq_true rfl) (hX9_feed.at 16 rfl rfl) (fun _ => ?_)
    refine os_aload_n (i := 0) (q := 0) (v := l0) 0 rfl rfl (hX9_feed.at 17 rfl rfl) ?_
    refine os_iload_n (i := 3) (q := 3) (v := l3) 3 rfl rfl (hX9_feed.at 18 rfl rfl) ?_
    refine os_callV (cis := [7]) (b := l0) (As := [.int l3]) (st := []) (st' := (fun _ => [])) sl7_X9_append_X9_append mdX9_append wd614 wd616 (sX9_append N l0 l3) rfl rfl (fun _ => rfl) (Nat.le_of_ble_eq_true rfl) (Nat.le_of_ble_eq_true rfl) (Nat.le_of_ble_eq_true rfl) rfl (Nat.le_of_ble_eq_true rfl) rfl (Nat.le_of_ble_eq_true rfl) (hX9_feed.at 19 rfl rfl) (fun _ => ?_)
    refine os_aload_n (i := 0) (q := 0) (v := l0) 0 rfl rfl (hX9_feed.at 20 rfl rfl) ?_
    refine os_iload (v := l4) 4 rfl (hX9_feed.at 21 rfl rfl) ?_
    refine os_callV (cis := [7]) (b := l0) (As := [.int l4]) (st := []) (st' := (fun _ => [])) sl7_X9_append_X9_append mdX9_append wd614 wd616 (sX9_append N l0 l4) rfl rfl (fun _ => rfl) (Nat.le_of_ble_eq_true rfl) (Nat.le_of_ble_eq_true rfl) (Nat.le_of_ble_eq_true rfl) rfl (Nat.le_of_ble_eq_true rfl) rfl (Nat.le_of_ble_eq_true rfl) (hX9_feed.at 22 rfl rfl) (fun _ => ?_)
    refine os_aload_n (i := 0) (q := 0) (v := l0) 0 rfl rfl (hX9_feed.at 23 rfl rfl) ?_
    refine os_iload (v := l5) 5 rfl (hX9_feed.at 24 rfl rfl) ?_
    refine os_callV (cis := [7]) (b := l0) (As := [.int l5]) (st := []) (st' := (fun _ => [])) sl7_X9_append_X9_append mdX9_append wd614 wd616 (sX9_append N l0 l5) rfl rfl (fun _ => rfl) (Nat.le_of_ble_eq_true rfl) (Nat.le_of_ble_eq_true rfl) (Nat.le_of_ble_eq_true rfl) rfl (Nat.le_of_ble_eq_true rfl) rfl (Nat.le_of_ble_eq_true rfl) (hX9_feed.at 25 rfl rfl) (fun _ => ?_)
    refine os_aload_n (i := 0) (q := 0) (v := l0) 0 rfl rfl (hX9_feed.at 26 rfl rfl) ?_
    refine os_getI fX9_13 (hX9_feed.at 27 rfl rfl) (fun x2 => ?_)
    exact os_ofM (os_iret (Nat.le_of_ble_eq_true rfl) (Nat.le_of_ble_eq_true rfl) (hX9_feed.at 28 rfl rfl).1)
  · exact xth82 (j := 0) (jt := 17) (q := ("OrderSettler", 80, "the input buffer is full")) rfl rfl rfl rfl (hX9_feed.at 6 rfl rfl) (hX9_feed.at 7 rfl rfl) (Or.inl ⟨by decide, (hX9_feed.at 8 rfl rfl)⟩) (hX9_feed.at 9 rfl rfl) (hX9_feed.at 10 rfl rfl) (Nat.le_of_ble_eq_true rfl) (Nat.le_of_ble_eq_true rfl) (Nat.le_of_ble_eq_true rfl) (Nat.le_of_ble_eq_true rfl) (Nat.le_of_ble_eq_true rfl) (Nat.le_of_ble_eq_true rfl)
-- X9_area
def KX9_area : List (Nat × Nat × Instr) := [(0, 1, .aload_n 0), (1, 1, .iload_n 1), (2, 3, .invokevirtual 126), (5, 1, .aload_n 0), (6, 1, .iload_n 2), (7, 2, .bipush 8), (9, 3, .invokevirtual 129), (12, 1, .iload_n 2), (13, 43, .tableswitch 132 0 6 #[43, 52, 72, 84, 96, 108, 120]), (56, 1, .aload_n 0), (57, 3, .getfield 63), (60, 1, .iload_n 1), (61, 3, .invokevirtual 132), (64, 1, .ireturn), (65, 1, .aload_n 0), (66, 3, .getfield 63), (69, 3, .getfield 136), (72, 1, .iload_n 1), (73, 3, .invokestatic 139), (76, 3, .ifCond .eq 7), (79, 1, .iconst 1), (80, 3, .goto 4), (83, 1, .iconst 0), (84, 1, .ireturn), (85, 1, .aload_n 0), (86, 3, .getfield 63), (89, 3, .getfield 143), (92, 1, .iload_n 1), (93, 3, .invokestatic 147), (96, 1, .ireturn), (97, 1, .aload_n 0), (98, 3, .getfield 71), (101, 3, .getfield 151), (104, 1, .iload_n 1), (105, 3, .invokestatic 147), (108, 1, .ireturn), (109, 1, .aload_n 0), (110, 3, .getfield 71), (113, 3, .getfield 154), (116, 1, .iload_n 1), (117, 3, .invokestatic 147), (120, 1, .ireturn), (121, 1, .aload_n 0), (122, 3, .getfield 71), (125, 3, .getfield 157), (128, 1, .iload_n 1), (129, 3, .invokestatic 147), (132, 1, .ireturn), (133, 1, .aload_n 0), (134, 3, .getfield 71), (137, 3, .getfield 160), (140, 1, .iload_n 1), (141, 3, .invokestatic 147), (144, 1, .ireturn), (145, 1, .aload_n 0), (146, 3, .getfield 71), (149, 3, .getfield 163), (152, 1, .iload_n 1), (153, 3, .invokestatic 147), (156, 1, .ireturn)]
theorem hX9_area : osDs cX9_area KX9_area := by
  show ∀ q ∈ KX9_area, decode cX9_area q.1 = .ok (q.2.2, q.2.1)
  decide +kernel
def qX9_area_84 (N : Nat) (k0 : Int32) : osM (Nat ⊕ Int32) := osRt (osret k0)
def qX9_area (N : Nat) (l0 : Nat) (l1 : Int32) (l2 : Int32) : osM (Nat ⊕ Int32) := osbindT (osrecv [7] l0 (qX9_requireArea N l0 l1)) fun _ => osbindT (osrecv [7] l0 (qX9_requireReport N l0 l2 (8 : Int32))) fun _ => osswitch l2 0 [osbind (osgR [7] 10 l0) fun x1 => osbind (osrecv [0] x1 (qX0_kindOf N x1 l1)) fun x2 => osRt (osret x2), osbind (osgR [7] 10 l0) fun x3 => osbind (osgI [0] 4 x3) fun x4 => osbind (qX9_has N x4 l1) fun x5 => osite (x5 = 0) (qX9_area_84 N (0 : Int32)) (qX9_area_84 N (1 : Int32)), osbind (osgR [7] 10 l0) fun x6 => osbind (osgR [0] 6 x6) fun x7 => osbind (qX9_entry N x7 l1) fun x8 => osRt (osret x8), osbind (osgR [7] 12 l0) fun x9 => osbind (osgR [5] 5 x9) fun x10 => osbind (qX9_entry N x10 l1) fun x11 => osRt (osret x11), osbind (osgR [7] 12 l0) fun x12 => osbind (osgR [5] 6 x12) fun x13 => osbind (qX9_entry N x13 l1) fun x14 => osRt (osret x14), osbind (osgR [7] 12 l0) fun x15 => osbind (osgR [5] 7 x15) fun x16 => osbind (qX9_entry N x16 l1) fun x17 => osRt (osret x17), osbind (osgR [7] 12 l0) fun x18 => osbind (osgR [5] 8 x18) fun x19 => osbind (qX9_entry N x19 l1) fun x20 => osRt (osret x20)] (osbind (osgR [7] 12 l0) fun x21 => osbind (osgR [5] 9 x21) fun x22 => osbind (qX9_entry N x22 l1) fun x23 => osRt (osret x23))
set_option maxRecDepth 100000 in
set_option maxHeartbeats 4000000 in
theorem sX9_area_84 (N : Nat) (k0 : Int32) : osW (osFinT (fun r : Int32 => some (.int r)) 2 12) yX9_area cX9_area 3 (some .int) [] { frames := 7, cells := 2, slots := 12, locals := 112 } 2 12 84 [] [.int k0] (qX9_area_84 N k0) := by
  unfold qX9_area_84
  exact os_ofM (os_iret (Nat.le_of_ble_eq_true rfl) (Nat.le_of_ble_eq_true rfl) (hX9_area.at 23 rfl rfl).1)
set_option maxRecDepth 100000 in
set_option maxHeartbeats 4000000 in
theorem sX9_area (N : Nat) (l0 : Nat) (l1 : Int32) (l2 : Int32) : osMetT yX9_area cX9_area 3 (some .int) 7 112 2 12 (fun r : Int32 => some (.int r)) [.ref l0, .int l1, .int l2] (qX9_area N l0 l1 l2) := by
  refine osMetT.of plX9 (Nat.le_of_ble_eq_true rfl) (osW.rw (lv2 := [(0, .ref l0), (1, .int l1), (2, .int l2)]) ?_ rfl rfl rfl)
  unfold qX9_area
  refine os_aload_n (i := 0) (q := 0) (v := l0) 0 rfl rfl (hX9_area.at 0 rfl rfl) ?_
  refine os_iload_n (i := 1) (q := 1) (v := l1) 1 rfl rfl (hX9_area.at 1 rfl rfl) ?_
  refine os_callVT (cis := [7]) (b := l0) (As := [.int l1]) (st := []) (st' := (fun _ => [])) sl7_X9_requireArea_X9_requireArea mdX9_requireArea wd1056 wd1058 (sX9_requireArea N l0 l1) rfl rfl (fun _ => rfl) (Nat.le_of_ble_eq_true rfl) (Nat.le_of_ble_eq_true rfl) (Nat.le_of_ble_eq_true rfl) rfl (Nat.le_of_ble_eq_true rfl) rfl (Nat.le_of_ble_eq_true rfl) (Nat.le_of_ble_eq_true rfl) (Nat.le_of_ble_eq_true rfl) (hX9_area.at 2 rfl rfl) (fun _ => ?_)
  refine os_aload_n (i := 0) (q := 0) (v := l0) 0 rfl rfl (hX9_area.at 3 rfl rfl) ?_
  refine os_iload_n (i := 2) (q := 2) (v := l2) 2 rfl rfl (hX9_area.at 4 rfl rfl) ?_
  refine os_bipush (i := 8) (v := (8 : Int32)) rfl (hX9_area.at 5 rfl rfl) ?_
  refine os_callVT (cis := [7]) (b := l0) (As := [.int l2, .int (8 : Int32)]) (st := []) (st' := (fun _ => [])) sl7_X9_requireReport_X9_requireReport mdX9_requireReport wd1077 wd1079 (sX9_requireReport N l0 l2 (8 : Int32)) rfl rfl (fun _ => rfl) (Nat.le_of_ble_eq_true rfl) (Nat.le_of_ble_eq_true rfl) (Nat.le_of_ble_eq_true rfl) rfl (Nat.le_of_ble_eq_true rfl) rfl (Nat.le_of_ble_eq_true rfl) (Nat.le_of_ble_eq_true rfl) (Nat.le_of_ble_eq_true rfl) (hX9_area.at 6 rfl rfl) (fun _ => ?_)
  refine os_iload_n (i := 2) (q := 2) (v := l2) 2 rfl rfl (hX9_area.at 7 rfl rfl) ?_
  refine os_tableswitch (dflt := 132) (lo := 0) (hi := 6) (offs := #[43, 52, 72, 84, 96, 108, 120]) (tgt := 145) rfl rfl (hX9_area.at 8 rfl rfl) ?_ ?_
  · refine ⟨⟨56, rfl, ?_⟩, ⟨65, rfl, ?_⟩, ⟨85, rfl, ?_⟩, ⟨97, rfl, ?_⟩, ⟨109, rfl, ?_⟩, ⟨121, rfl, ?_⟩, ⟨133, rfl, ?_⟩, trivial⟩
    · refine os_aload_n (i := 0) (q := 0) (v := l0) 0 rfl rfl (hX9_area.at 9 rfl rfl) ?_
      refine os_getR fX9_63 (hX9_area.at 10 rfl rfl) (fun x1 => ?_)
      refine os_iload_n (i := 1) (q := 1) (v := l1) 1 rfl rfl (hX9_area.at 11 rfl rfl) ?_
      refine os_callV (cis := [0]) (b := x1) (As := [.int l1]) (st := []) (st' := (fun r => .int r :: [])) sl0_X0_kindOf_X0_kindOf mdX0_kindOf wd1082 wd1083 (sX0_kindOf N x1 l1) rfl rfl (fun _ => rfl) (Nat.le_of_ble_eq_true rfl) (Nat.le_of_ble_eq_true rfl) (Nat.le_of_ble_eq_true rfl) rfl (Nat.le_of_ble_eq_true rfl) rfl (Nat.le_of_ble_eq_true rfl) (hX9_area.at 12 rfl rfl) (fun x2 => ?_)
      exact os_ofM (os_iret (Nat.le_of_ble_eq_true rfl) (Nat.le_of_ble_eq_true rfl) (hX9_area.at 13 rfl rfl).1)
    · refine os_aload_n (i := 0) (q := 0) (v := l0) 0 rfl rfl (hX9_area.at 14 rfl rfl) ?_
      refine os_getR fX9_63 (hX9_area.at 15 rfl rfl) (fun x3 => ?_)
      refine os_getI fX9_136 (hX9_area.at 16 rfl rfl) (fun x4 => ?_)
      refine os_iload_n (i := 1) (q := 1) (v := l1) 1 rfl rfl (hX9_area.at 17 rfl rfl) ?_
      refine os_callS (As := [.int x4, .int l1]) (st := []) (st' := (fun r => .int r :: [])) mdX9_has wd1086 wd749 (sX9_has N x4 l1) rfl rfl (fun _ => rfl) (Nat.le_of_ble_eq_true rfl) (Nat.le_of_ble_eq_true rfl) (Nat.le_of_ble_eq_true rfl) rfl (Nat.le_of_ble_eq_true rfl) rfl (Nat.le_of_ble_eq_true rfl) (hX9_area.at 18 rfl rfl) (fun x5 => ?_)
      refine os_if_eq (off := 7) (tgt := 83) rfl (hX9_area.at 19 rfl rfl) ?_ ?_
      · refine os_iconst (i := 0) (v := (0 : Int32)) rfl (hX9_area.at 22 rfl rfl) ?_
        exact osW.sub [] rfl (sX9_area_84 N (0 : Int32))
      · refine os_iconst (i := 1) (v := (1 : Int32)) rfl (hX9_area.at 20 rfl rfl) ?_
        refine os_goto (off := 4) (tgt := 84) rfl (hX9_area.at 21 rfl rfl) ?_
        exact osW.sub [] rfl (sX9_area_84 N (1 : Int32))
    · refine os_aload_n (i := 0) (q := 0) (v := l0) 0 rfl rfl (hX9_area.at 24 rfl rfl) ?_
      refine os_getR fX9_63 (hX9_area.at 25 rfl rfl) (fun x6 => ?_)
      refine os_getR fX9_143 (hX9_area.at 26 rfl rfl) (fun x7 => ?_)
      refine os_iload_n (i := 1) (q := 1) (v := l1) 1 rfl rfl (hX9_area.at 27 rfl rfl) ?_
      refine os_callS (As := [.ref x7, .int l1]) (st := []) (st' := (fun r => .int r :: [])) mdX9_entry wd1087 wd784 (sX9_entry N x7 l1) rfl rfl (fun _ => rfl) (Nat.le_of_ble_eq_true rfl) (Nat.le_of_ble_eq_true rfl) (Nat.le_of_ble_eq_true rfl) rfl (Nat.le_of_ble_eq_true rfl) rfl (Nat.le_of_ble_eq_true rfl) (hX9_area.at 28 rfl rfl) (fun x8 => ?_)
      exact os_ofM (os_iret (Nat.le_of_ble_eq_true rfl) (Nat.le_of_ble_eq_true rfl) (hX9_area.at 29 rfl rfl).1)
    · refine os_aload_n (i := 0) (q := 0) (v := l0) 0 rfl rfl (hX9_area.at 30 rfl rfl) ?_
      refine os_getR fX9_71 (hX9_area.at 31 rfl rfl) (fun x9 => ?_)
      refine os_getR fX9_151 (hX9_area.at 32 rfl rfl) (fun x10 => ?_)
      refine os_iload_n (i := 1) (q := 1) (v := l1) 1 rfl rfl (hX9_area.at 33 rfl rfl) ?_
      refine os_callS (As := [.ref x10, .int l1]) (st := []) (st' := (fun r => .int r :: [])) mdX9_entry wd1087 wd784 (sX9_entry N x10 l1) rfl rfl (fun _ => rfl) (Nat.le_of_ble_eq_true rfl) (Nat.le_of_ble_eq_true rfl) (Nat.le_of_ble_eq_true rfl) rfl (Nat.le_of_ble_eq_true rfl) rfl (Nat.le_of_ble_eq_true rfl) (hX9_area.at 34 rfl rfl) (fun x11 => ?_)
      exact os_ofM (os_iret (Nat.le_of_ble_eq_true rfl) (Nat.le_of_ble_eq_true rfl) (hX9_area.at 35 rfl rfl).1)
    · refine os_aload_n (i := 0) (q := 0) (v := l0) 0 rfl rfl (hX9_area.at 36 rfl rfl) ?_
      refine os_getR fX9_71 (hX9_area.at 37 rfl rfl) (fun x12 => ?_)
      refine os_getR fX9_154 (hX9_area.at 38 rfl rfl) (fun x13 => ?_)
      refine os_iload_n (i := 1) (q := 1) (v := l1) 1 rfl rfl (hX9_area.at 39 rfl rfl) ?_
      refine os_callS (As := [.ref x13, .int l1]) (st := []) (st' := (fun r => .int r :: [])) mdX9_entry wd1087 wd784 (sX9_entry N x13 l1) rfl rfl (fun _ => rfl) (Nat.le_of_ble_eq_true rfl) (Nat.le_of_ble_eq_true rfl) (Nat.le_of_ble_eq_true rfl) rfl (Nat.le_of_ble_eq_true rfl) rfl (Nat.le_of_ble_eq_true rfl) (hX9_area.at 40 rfl rfl) (fun x14 => ?_)
      exact os_ofM (os_iret (Nat.le_of_ble_eq_true rfl) (Nat.le_of_ble_eq_true rfl) (hX9_area.at 41 rfl rfl).1)
    · refine os_aload_n (i := 0) (q := 0) (v := l0) 0 rfl rfl (hX9_area.at 42 rfl rfl) ?_
      refine os_getR fX9_71 (hX9_area.at 43 rfl rfl) (fun x15 => ?_)
      refine os_getR fX9_157 (hX9_area.at 44 rfl rfl) (fun x16 => ?_)
      refine os_iload_n (i := 1) (q := 1) (v := l1) 1 rfl rfl (hX9_area.at 45 rfl rfl) ?_
      refine os_callS (As := [.ref x16, .int l1]) (st := []) (st' := (fun r => .int r :: [])) mdX9_entry wd1087 wd784 (sX9_entry N x16 l1) rfl rfl (fun _ => rfl) (Nat.le_of_ble_eq_true rfl) (Nat.le_of_ble_eq_true rfl) (Nat.le_of_ble_eq_true rfl) rfl (Nat.le_of_ble_eq_true rfl) rfl (Nat.le_of_ble_eq_true rfl) (hX9_area.at 46 rfl rfl) (fun x17 => ?_)
      exact os_ofM (os_iret (Nat.le_of_ble_eq_true rfl) (Nat.le_of_ble_eq_true rfl) (hX9_area.at 47 rfl rfl).1)
    · refine os_aload_n (i := 0) (q := 0) (v := l0) 0 rfl rfl (hX9_area.at 48 rfl rfl) ?_
      refine os_getR fX9_71 (hX9_area.at 49 rfl rfl) (fun x18 => ?_)
      refine os_getR fX9_160 (hX9_area.at 50 rfl rfl) (fun x19 => ?_)
      refine os_iload_n (i := 1) (q := 1) (v := l1) 1 rfl rfl (hX9_area.at 51 rfl rfl) ?_
      refine os_callS (As := [.ref x19, .int l1]) (st := []) (st' := (fun r => .int r :: [])) mdX9_entry wd1087 wd784 (sX9_entry N x19 l1) rfl rfl (fun _ => rfl) (Nat.le_of_ble_eq_true rfl) (Nat.le_of_ble_eq_true rfl) (Nat.le_of_ble_eq_true rfl) rfl (Nat.le_of_ble_eq_true rfl) rfl (Nat.le_of_ble_eq_true rfl) (hX9_area.at 52 rfl rfl) (fun x20 => ?_)
      exact os_ofM (os_iret (Nat.le_of_ble_eq_true rfl) (Nat.le_of_ble_eq_true rfl) (hX9_area.at 53 rfl rfl).1)
  · refine os_aload_n (i := 0) (q := 0) (v := l0) 0 rfl rfl (hX9_area.at 54 rfl rfl) ?_
    refine os_getR fX9_71 (hX9_area.at 55 rfl rfl) (fun x21 => ?_)
    refine os_getR fX9_163 (hX9_area.at 56 rfl rfl) (fun x22 => ?_)
    refine os_iload_n (i := 1) (q := 1) (v := l1) 1 rfl rfl (hX9_area.at 57 rfl rfl) ?_
    refine os_callS (As := [.ref x22, .int l1]) (st := []) (st' := (fun r => .int r :: [])) mdX9_entry wd1087 wd784 (sX9_entry N x22 l1) rfl rfl (fun _ => rfl) (Nat.le_of_ble_eq_true rfl) (Nat.le_of_ble_eq_true rfl) (Nat.le_of_ble_eq_true rfl) rfl (Nat.le_of_ble_eq_true rfl) rfl (Nat.le_of_ble_eq_true rfl) (hX9_area.at 58 rfl rfl) (fun x23 => ?_)
    exact os_ofM (os_iret (Nat.le_of_ble_eq_true rfl) (Nat.le_of_ble_eq_true rfl) (hX9_area.at 59 rfl rfl).1)
-- X9_passes
def KX9_passes : List (Nat × Nat × Instr) := [(0, 1, .aload_n 0), (1, 1, .iload_n 1), (2, 3, .invokevirtual 126), (5, 1, .aload_n 0), (6, 1, .iload_n 2), (7, 3, .invokevirtual 126), (10, 1, .aload_n 0), (11, 3, .getfield 63), (14, 1, .iload_n 1), (15, 1, .iload_n 2), (16, 1, .iload_n 3), (17, 3, .ifCond .eq 7), (20, 1, .iconst 1), (21, 3, .goto 4), (24, 1, .iconst 0), (25, 3, .invokevirtual 177), (28, 1, .ireturn)]
theorem hX9_passes : osDs cX9_passes KX9_passes := by
  show ∀ q ∈ KX9_passes, decode cX9_passes q.1 = .ok (q.2.2, q.2.1)
  decide +kernel
def qX9_passes_25 (N : Nat) (k0 : Int32) (k1 : Int32) (k2 : Int32) (k3 : Nat) : osM (Nat ⊕ Int32) := osbind (osrecv [0] k3 (qX0_letsPass N k3 k2 k1 k0)) fun x1 => osRt (osretZ x1)
def qX9_passes (N : Nat) (l0 : Nat) (l1 : Int32) (l2 : Int32) (l3 : Int32) : osM (Nat ⊕ Int32) := osbindT (osrecv [7] l0 (qX9_requireArea N l0 l1)) fun _ => osbindT (osrecv [7] l0 (qX9_requireArea N l0 l2)) fun _ => osbind (osgR [7] 10 l0) fun x1 => osite (l3 = 0) (qX9_passes_25 N (0 : Int32) l2 l1 x1) (qX9_passes_25 N (1 : Int32) l2 l1 x1)
set_option maxRecDepth 100000 in
set_option maxHeartbeats 4000000 in
theorem sX9_passes_25 (N : Nat) (k0 : Int32) (k1 : Int32) (k2 : Int32) (k3 : Nat) : osW (osFinT (fun r : Int32 => some (.int r)) 2 12) yX9_passes cX9_passes 4 (some .boolean) [] { frames := 7, cells := 2, slots := 12, locals := 111 } 2 12 25 [] [.int k0, .int k1, .int k2, .ref k3] (qX9_passes_25 N k0 k1 k2 k3) := by
  unfold qX9_passes_25
  refine os_callV (cis := [0]) (b := k3) (As := [.int k2, .int k1, .int k0]) (st := []) (st' := (fun r => .int r :: [])) sl0_X0_letsPass_X0_letsPass mdX0_letsPass wd1470 wd737 (sX0_letsPass N k3 k2 k1 k0) rfl rfl (fun _ => rfl) (Nat.le_of_ble_eq_true rfl) (Nat.le_of_ble_eq_true rfl) (Nat.le_of_ble_eq_true rfl) rfl (Nat.le_of_ble_eq_true rfl) rfl (Nat.le_of_ble_eq_true rfl) (hX9_passes.at 15 rfl rfl) (fun x1 => ?_)
  exact os_ofM (os_zret (Nat.le_of_ble_eq_true rfl) (Nat.le_of_ble_eq_true rfl) (hX9_passes.at 16 rfl rfl).1)
set_option maxRecDepth 100000 in
set_option maxHeartbeats 4000000 in
theorem sX9_passes (N : Nat) (l0 : Nat) (l1 : Int32) (l2 : Int32) (l3 : Int32) : osMetT yX9_passes cX9_passes 4 (some .boolean) 7 111 2 12 (fun r : Int32 => some (.int r)) [.ref l0, .int l1, .int l2, .int l3] (qX9_passes N l0 l1 l2 l3) := by
  refine osMetT.of plX9 (Nat.le_of_ble_eq_true rfl) (osW.rw (lv2 := [(0, .ref l0), (1, .int l1), (2, .int l2), (3, .int l3)]) ?_ rfl rfl rfl)
  unfold qX9_passes
  refine os_aload_n (i := 0) (q := 0) (v := l0) 0 rfl rfl (hX9_passes.at 0 rfl rfl) ?_
  refine os_iload_n (i := 1) (q := 1) (v := l1) 1 rfl rfl (hX9_passes.at 1 rfl rfl) ?_
  refine os_callVT (cis := [7]) (b := l0) (As := [.int l1]) (st := []) (st' := (fun _ => [])) sl7_X9_requireArea_X9_requireArea mdX9_requireArea wd1056 wd1058 (sX9_requireArea N l0 l1) rfl rfl (fun _ => rfl) (Nat.le_of_ble_eq_true rfl) (Nat.le_of_ble_eq_true rfl) (Nat.le_of_ble_eq_true rfl) rfl (Nat.le_of_ble_eq_true rfl) rfl (Nat.le_of_ble_eq_true rfl) (Nat.le_of_ble_eq_true rfl) (Nat.le_of_ble_eq_true rfl) (hX9_passes.at 2 rfl rfl) (fun _ => ?_)
  refine os_aload_n (i := 0) (q := 0) (v := l0) 0 rfl rfl (hX9_passes.at 3 rfl rfl) ?_
  refine os_iload_n (i := 2) (q := 2) (v := l2) 2 rfl rfl (hX9_passes.at 4 rfl rfl) ?_
  refine os_callVT (cis := [7]) (b := l0) (As := [.int l2]) (st := []) (st' := (fun _ => [])) sl7_X9_requireArea_X9_requireArea mdX9_requireArea wd1056 wd1058 (sX9_requireArea N l0 l2) rfl rfl (fun _ => rfl) (Nat.le_of_ble_eq_true rfl) (Nat.le_of_ble_eq_true rfl) (Nat.le_of_ble_eq_true rfl) rfl (Nat.le_of_ble_eq_true rfl) rfl (Nat.le_of_ble_eq_true rfl) (Nat.le_of_ble_eq_true rfl) (Nat.le_of_ble_eq_true rfl) (hX9_passes.at 5 rfl rfl) (fun _ => ?_)
  refine os_aload_n (i := 0) (q := 0) (v := l0) 0 rfl rfl (hX9_passes.at 6 rfl rfl) ?_
  refine os_getR fX9_63 (hX9_passes.at 7 rfl rfl) (fun x1 => ?_)
  refine os_iload_n (i := 1) (q := 1) (v := l1) 1 rfl rfl (hX9_passes.at 8 rfl rfl) ?_
  refine os_iload_n (i := 2) (q := 2) (v := l2) 2 rfl rfl (hX9_passes.at 9 rfl rfl) ?_
  refine os_iload_n (i := 3) (q := 3) (v := l3) 3 rfl rfl (hX9_passes.at 10 rfl rfl) ?_
  refine os_if_eq (off := 7) (tgt := 24) rfl (hX9_passes.at 11 rfl rfl) ?_ ?_
  · refine os_iconst (i := 0) (v := (0 : Int32)) rfl (hX9_passes.at 14 rfl rfl) ?_
    exact osW.sub [] rfl (sX9_passes_25 N (0 : Int32) l2 l1 x1)
  · refine os_iconst (i := 1) (v := (1 : Int32)) rfl (hX9_passes.at 12 rfl rfl) ?_
    refine os_goto (off := 4) (tgt := 25) rfl (hX9_passes.at 13 rfl rfl) ?_
    exact osW.sub [] rfl (sX9_passes_25 N (1 : Int32) l2 l1 x1)
-- X9_power
def KX9_power : List (Nat × Nat × Instr) := [(0, 1, .aload_n 0), (1, 1, .iload_n 1), (2, 3, .invokevirtual 185), (5, 1, .aload_n 0), (6, 1, .iload_n 2), (7, 1, .iconst 4), (8, 3, .invokevirtual 129), (11, 1, .iload_n 2), (12, 28, .tableswitch 55 0 2 #[28, 37, 46]), (40, 1, .aload_n 0), (41, 3, .getfield 71), (44, 1, .iload_n 1), (45, 3, .invokevirtual 188), (48, 1, .ireturn), (49, 1, .aload_n 0), (50, 3, .getfield 71), (53, 1, .iload_n 1), (54, 3, .invokevirtual 191), (57, 1, .ireturn), (58, 1, .aload_n 0), (59, 3, .getfield 63), (62, 1, .iload_n 1), (63, 3, .invokevirtual 194), (66, 1, .ireturn), (67, 1, .aload_n 0), (68, 3, .getfield 71), (71, 1, .aload_n 0), (72, 3, .getfield 63), (75, 1, .iload_n 1), (76, 3, .invokevirtual 197), (79, 1, .ireturn)]
theorem hX9_power : osDs cX9_power KX9_power := by
  show ∀ q ∈ KX9_power, decode cX9_power q.1 = .ok (q.2.2, q.2.1)
  decide +kernel
def qX9_power (N : Nat) (l0 : Nat) (l1 : Int32) (l2 : Int32) : osM (Nat ⊕ Int32) := osbindT (osrecv [7] l0 (qX9_requirePower N l0 l1)) fun _ => osbindT (osrecv [7] l0 (qX9_requireReport N l0 l2 (4 : Int32))) fun _ => osswitch l2 0 [osbind (osgR [7] 12 l0) fun x1 => osbind (osrecv [5] x1 (qX5_countCenters N x1 l1)) fun x2 => osRt (osret x2), osbind (osgR [7] 12 l0) fun x3 => osbind (osrecv [5] x3 (qX5_countUnits N x3 l1)) fun x4 => osRt (osret x4), osbind (osgR [7] 10 l0) fun x5 => osbind (osrecv [0] x5 (qX0_countHomes N x5 l1)) fun x6 => osRt (osret x6)] (osbind (osgR [7] 12 l0) fun x7 => osbind (osgR [7] 10 l0) fun x8 => osbind (osrecv [5] x7 (qX5_countBuilds N x7 x8 l1)) fun x9 => osRt (osret x9))
set_option maxRecDepth 100000 in
set_option maxHeartbeats 4000000 in
theorem sX9_power (N : Nat) (l0 : Nat) (l1 : Int32) (l2 : Int32) : osMetT yX9_power cX9_power 3 (some .int) 7 112 2 12 (fun r : Int32 => some (.int r)) [.ref l0, .int l1, .int l2] (qX9_power N l0 l1 l2) := by
  refine osMetT.of plX9 (Nat.le_of_ble_eq_true rfl) (osW.rw (lv2 := [(0, .ref l0), (1, .int l1), (2, .int l2)]) ?_ rfl rfl rfl)
  unfold qX9_power
  refine os_aload_n (i := 0) (q := 0) (v := l0) 0 rfl rfl (hX9_power.at 0 rfl rfl) ?_
  refine os_iload_n (i := 1) (q := 1) (v := l1) 1 rfl rfl (hX9_power.at 1 rfl rfl) ?_
  refine os_callVT (cis := [7]) (b := l0) (As := [.int l1]) (st := []) (st' := (fun _ => [])) sl7_X9_requirePower_X9_requirePower mdX9_requirePower wd1486 wd1488 (sX9_requirePower N l0 l1) rfl rfl (fun _ => rfl) (Nat.le_of_ble_eq_true rfl) (Nat.le_of_ble_eq_true rfl) (Nat.le_of_ble_eq_true rfl) rfl (Nat.le_of_ble_eq_true rfl) rfl (Nat.le_of_ble_eq_true rfl) (Nat.le_of_ble_eq_true rfl) (Nat.le_of_ble_eq_true rfl) (hX9_power.at 2 rfl rfl) (fun _ => ?_)
  refine os_aload_n (i := 0) (q := 0) (v := l0) 0 rfl rfl (hX9_power.at 3 rfl rfl) ?_
  refine os_iload_n (i := 2) (q := 2) (v := l2) 2 rfl rfl (hX9_power.at 4 rfl rfl) ?_
  refine os_iconst (i := 4) (v := (4 : Int32)) rfl (hX9_power.at 5 rfl rfl) ?_
  refine os_callVT (cis := [7]) (b := l0) (As := [.int l2, .int (4 : Int32)]) (st := []) (st' := (fun _ => [])) sl7_X9_requireReport_X9_requireReport mdX9_requireReport wd1077 wd1079 (sX9_requireReport N l0 l2 (4 : Int32)) rfl rfl (fun _ => rfl) (Nat.le_of_ble_eq_true rfl) (Nat.le_of_ble_eq_true rfl) (Nat.le_of_ble_eq_true rfl) rfl (Nat.le_of_ble_eq_true rfl) rfl (Nat.le_of_ble_eq_true rfl) (Nat.le_of_ble_eq_true rfl) (Nat.le_of_ble_eq_true rfl) (hX9_power.at 6 rfl rfl) (fun _ => ?_)
  refine os_iload_n (i := 2) (q := 2) (v := l2) 2 rfl rfl (hX9_power.at 7 rfl rfl) ?_
  refine os_tableswitch (dflt := 55) (lo := 0) (hi := 2) (offs := #[28, 37, 46]) (tgt := 67) rfl rfl (hX9_power.at 8 rfl rfl) ?_ ?_
  · refine ⟨⟨40, rfl, ?_⟩, ⟨49, rfl, ?_⟩, ⟨58, rfl, ?_⟩, trivial⟩
    · refine os_aload_n (i := 0) (q := 0) (v := l0) 0 rfl rfl (hX9_power.at 9 rfl rfl) ?_
      refine os_getR fX9_71 (hX9_power.at 10 rfl rfl) (fun x1 => ?_)
      refine os_iload_n (i := 1) (q := 1) (v := l1) 1 rfl rfl (hX9_power.at 11 rfl rfl) ?_
      refine os_callV (cis := [5]) (b := x1) (As := [.int l1]) (st := []) (st' := (fun r => .int r :: [])) sl5_X5_countCenters_X5_countCenters mdX5_countCenters wd1491 wd1235 (sX5_countCenters N x1 l1) rfl rfl (fun _ => rfl) (Nat.le_of_ble_eq_true rfl) (Nat.le_of_ble_eq_true rfl) (Nat.le_of_ble_eq_true rfl) rfl (Nat.le_of_ble_eq_true rfl) rfl (Nat.le_of_ble_eq_true rfl) (hX9_power.at 12 rfl rfl) (fun x2 => ?_)
      exact os_ofM (os_iret (Nat.le_of_ble_eq_true rfl) (Nat.le_of_ble_eq_true rfl) (hX9_power.at 13 rfl rfl).1)
    · refine os_aload_n (i := 0) (q := 0) (v := l0) 0 rfl rfl (hX9_power.at 14 rfl rfl) ?_
      refine os_getR fX9_71 (hX9_power.at 15 rfl rfl) (fun x3 => ?_)
      refine os_iload_n (i := 1) (q := 1) (v := l1) 1 rfl rfl (hX9_power.at 16 rfl rfl) ?_
      refine os_callV (cis := [5]) (b := x3) (As := [.int l1]) (st := []) (st' := (fun r => .int r :: [])) sl5_X5_countUnits_X5_countUnits mdX5_countUnits wd1492 wd1239 (sX5_countUnits N x3 l1) rfl rfl (fun _ => rfl) (Nat.le_of_ble_eq_true rfl) (Nat.le_of_ble_eq_true rfl) (Nat.le_of_ble_eq_true rfl) rfl (Nat.le_of_ble_eq_true rfl) rfl (Nat.le_of_ble_eq_true rfl) (hX9_power.at 17 rfl rfl) (fun x4 => ?_)
      exact os_ofM (os_iret (Nat.le_of_ble_eq_true rfl) (Nat.le_of_ble_eq_true rfl) (hX9_power.at 18 rfl rfl).1)
    · refine os_aload_n (i := 0) (q := 0) (v := l0) 0 rfl rfl (hX9_power.at 19 rfl rfl) ?_
      refine os_getR fX9_63 (hX9_power.at 20 rfl rfl) (fun x5 => ?_)
      refine os_iload_n (i := 1) (q := 1) (v := l1) 1 rfl rfl (hX9_power.at 21 rfl rfl) ?_
      refine os_callV (cis := [0]) (b := x5) (As := [.int l1]) (st := []) (st' := (fun r => .int r :: [])) sl0_X0_countHomes_X0_countHomes mdX0_countHomes wd1493 wd1494 (sX0_countHomes N x5 l1) rfl rfl (fun _ => rfl) (Nat.le_of_ble_eq_true rfl) (Nat.le_of_ble_eq_true rfl) (Nat.le_of_ble_eq_true rfl) rfl (Nat.le_of_ble_eq_true rfl) rfl (Nat.le_of_ble_eq_true rfl) (hX9_power.at 22 rfl rfl) (fun x6 => ?_)
      exact os_ofM (os_iret (Nat.le_of_ble_eq_true rfl) (Nat.le_of_ble_eq_true rfl) (hX9_power.at 23 rfl rfl).1)
  · refine os_aload_n (i := 0) (q := 0) (v := l0) 0 rfl rfl (hX9_power.at 24 rfl rfl) ?_
    refine os_getR fX9_71 (hX9_power.at 25 rfl rfl) (fun x7 => ?_)
    refine os_aload_n (i := 0) (q := 0) (v := l0) 0 rfl rfl (hX9_power.at 26 rfl rfl) ?_
    refine os_getR fX9_63 (hX9_power.at 27 rfl rfl) (fun x8 => ?_)
    refine os_iload_n (i := 1) (q := 1) (v := l1) 1 rfl rfl (hX9_power.at 28 rfl rfl) ?_
    refine os_callV (cis := [5]) (b := x7) (As := [.ref x8, .int l1]) (st := []) (st' := (fun r => .int r :: [])) sl5_X5_countBuilds_X5_countBuilds mdX5_countBuilds wd1497 wd1231 (sX5_countBuilds N x7 x8 l1) rfl rfl (fun _ => rfl) (Nat.le_of_ble_eq_true rfl) (Nat.le_of_ble_eq_true rfl) (Nat.le_of_ble_eq_true rfl) rfl (Nat.le_of_ble_eq_true rfl) rfl (Nat.le_of_ble_eq_true rfl) (hX9_power.at 29 rfl rfl) (fun x9 => ?_)
    exact os_ofM (os_iret (Nat.le_of_ble_eq_true rfl) (Nat.le_of_ble_eq_true rfl) (hX9_power.at 30 rfl rfl).1)
-- X9_result
def KX9_result : List (Nat × Nat × Instr) := [(0, 1, .aload_n 0), (1, 1, .iload_n 1), (2, 3, .invokevirtual 126), (5, 1, .aload_n 0), (6, 1, .iload_n 2), (7, 2, .bipush 6), (9, 3, .invokevirtual 129), (12, 1, .aload_n 0), (13, 3, .invokevirtual 248), (16, 1, .aload_n 0), (17, 3, .getfield 71), (20, 3, .getfield 251), (23, 1, .iload_n 1), (24, 2, .bipush 6), (26, 1, .imul), (27, 1, .iload_n 2), (28, 1, .iadd), (29, 3, .invokestatic 147), (32, 1, .ireturn)]
theorem hX9_result : osDs cX9_result KX9_result := by
  show ∀ q ∈ KX9_result, decode cX9_result q.1 = .ok (q.2.2, q.2.1)
  decide +kernel
def qX9_result (N : Nat) (l0 : Nat) (l1 : Int32) (l2 : Int32) : osM (Nat ⊕ Int32) := osbindT (osrecv [7] l0 (qX9_requireArea N l0 l1)) fun _ => osbindT (osrecv [7] l0 (qX9_requireReport N l0 l2 (6 : Int32))) fun _ => osbindT (osrecv [7] l0 (qX9_requireSettled N l0)) fun _ => osbind (osgR [7] 12 l0) fun x1 => osbind (osgR [5] 15 x1) fun x2 => osbind (qX9_entry N x2 ((l1 * (6 : Int32)) + l2)) fun x3 => osRt (osret x3)
set_option maxRecDepth 100000 in
set_option maxHeartbeats 4000000 in
theorem sX9_result (N : Nat) (l0 : Nat) (l1 : Int32) (l2 : Int32) : osMetT yX9_result cX9_result 3 (some .int) 7 112 3 18 (fun r : Int32 => some (.int r)) [.ref l0, .int l1, .int l2] (qX9_result N l0 l1 l2) := by
  refine osMetT.of plX9 (Nat.le_of_ble_eq_true rfl) (osW.rw (lv2 := [(0, .ref l0), (1, .int l1), (2, .int l2)]) ?_ rfl rfl rfl)
  unfold qX9_result
  refine os_aload_n (i := 0) (q := 0) (v := l0) 0 rfl rfl (hX9_result.at 0 rfl rfl) ?_
  refine os_iload_n (i := 1) (q := 1) (v := l1) 1 rfl rfl (hX9_result.at 1 rfl rfl) ?_
  refine os_callVT (cis := [7]) (b := l0) (As := [.int l1]) (st := []) (st' := (fun _ => [])) sl7_X9_requireArea_X9_requireArea mdX9_requireArea wd1056 wd1058 (sX9_requireArea N l0 l1) rfl rfl (fun _ => rfl) (Nat.le_of_ble_eq_true rfl) (Nat.le_of_ble_eq_true rfl) (Nat.le_of_ble_eq_true rfl) rfl (Nat.le_of_ble_eq_true rfl) rfl (Nat.le_of_ble_eq_true rfl) (Nat.le_of_ble_eq_true rfl) (Nat.le_of_ble_eq_true rfl) (hX9_result.at 2 rfl rfl) (fun _ => ?_)
  refine os_aload_n (i := 0) (q := 0) (v := l0) 0 rfl rfl (hX9_result.at 3 rfl rfl) ?_
  refine os_iload_n (i := 2) (q := 2) (v := l2) 2 rfl rfl (hX9_result.at 4 rfl rfl) ?_
  refine os_bipush (i := 6) (v := (6 : Int32)) rfl (hX9_result.at 5 rfl rfl) ?_
  refine os_callVT (cis := [7]) (b := l0) (As := [.int l2, .int (6 : Int32)]) (st := []) (st' := (fun _ => [])) sl7_X9_requireReport_X9_requireReport mdX9_requireReport wd1077 wd1079 (sX9_requireReport N l0 l2 (6 : Int32)) rfl rfl (fun _ => rfl) (Nat.le_of_ble_eq_true rfl) (Nat.le_of_ble_eq_true rfl) (Nat.le_of_ble_eq_true rfl) rfl (Nat.le_of_ble_eq_true rfl) rfl (Nat.le_of_ble_eq_true rfl) (Nat.le_of_ble_eq_true rfl) (Nat.le_of_ble_eq_true rfl) (hX9_result.at 6 rfl rfl) (fun _ => ?_)
  refine os_aload_n (i := 0) (q := 0) (v := l0) 0 rfl rfl (hX9_result.at 7 rfl rfl) ?_
  refine os_callVT (cis := [7]) (b := l0) (As := []) (st := []) (st' := (fun _ => [])) sl7_X9_requireSettled_X9_requireSettled mdX9_requireSettled wd1432 wd1434 (sX9_requireSettled N l0 ) rfl rfl (fun _ => rfl) (Nat.le_of_ble_eq_true rfl) (Nat.le_of_ble_eq_true rfl) (Nat.le_of_ble_eq_true rfl) rfl (Nat.le_of_ble_eq_true rfl) rfl (Nat.le_of_ble_eq_true rfl) (Nat.le_of_ble_eq_true rfl) (Nat.le_of_ble_eq_true rfl) (hX9_result.at 8 rfl rfl) (fun _ => ?_)
  refine os_aload_n (i := 0) (q := 0) (v := l0) 0 rfl rfl (hX9_result.at 9 rfl rfl) ?_
  refine os_getR fX9_71 (hX9_result.at 10 rfl rfl) (fun x1 => ?_)
  refine os_getR fX9_251 (hX9_result.at 11 rfl rfl) (fun x2 => ?_)
  refine os_iload_n (i := 1) (q := 1) (v := l1) 1 rfl rfl (hX9_result.at 12 rfl rfl) ?_
  refine os_bipush (i := 6) (v := (6 : Int32)) rfl (hX9_result.at 13 rfl rfl) ?_
  refine os_imul (hX9_result.at 14 rfl rfl) ?_
  refine os_iload_n (i := 2) (q := 2) (v := l2) 2 rfl rfl (hX9_result.at 15 rfl rfl) ?_
  refine os_iadd (hX9_result.at 16 rfl rfl) ?_
  refine os_callS (As := [.ref x2, .int ((l1 * (6 : Int32)) + l2)]) (st := []) (st' := (fun r => .int r :: [])) mdX9_entry wd1087 wd784 (sX9_entry N x2 ((l1 * (6 : Int32)) + l2)) rfl rfl (fun _ => rfl) (Nat.le_of_ble_eq_true rfl) (Nat.le_of_ble_eq_true rfl) (Nat.le_of_ble_eq_true rfl) rfl (Nat.le_of_ble_eq_true rfl) rfl (Nat.le_of_ble_eq_true rfl) (hX9_result.at 17 rfl rfl) (fun x3 => ?_)
  exact os_ofM (os_iret (Nat.le_of_ble_eq_true rfl) (Nat.le_of_ble_eq_true rfl) (hX9_result.at 18 rfl rfl).1)
-- X9_isContested
def KX9_isContested : List (Nat × Nat × Instr) := [(0, 1, .aload_n 0), (1, 1, .iload_n 1), (2, 3, .invokevirtual 126), (5, 1, .aload_n 0), (6, 3, .invokevirtual 248), (9, 1, .aload_n 0), (10, 3, .getfield 71), (13, 3, .getfield 257), (16, 1, .iload_n 1), (17, 3, .invokestatic 139), (20, 1, .ireturn)]
theorem hX9_isContested : osDs cX9_isContested KX9_isContested := by
  show ∀ q ∈ KX9_isContested, decode cX9_isContested q.1 = .ok (q.2.2, q.2.1)
  decide +kernel
def qX9_isContested (N : Nat) (l0 : Nat) (l1 : Int32) : osM (Nat ⊕ Int32) := osbindT (osrecv [7] l0 (qX9_requireArea N l0 l1)) fun _ => osbindT (osrecv [7] l0 (qX9_requireSettled N l0)) fun _ => osbind (osgR [7] 12 l0) fun x1 => osbind (osgI [5] 4 x1) fun x2 => osbind (qX9_has N x2 l1) fun x3 => osRt (osretZ x3)
set_option maxRecDepth 100000 in
set_option maxHeartbeats 4000000 in
theorem sX9_isContested (N : Nat) (l0 : Nat) (l1 : Int32) : osMetT yX9_isContested cX9_isContested 2 (some .boolean) 7 111 2 12 (fun r : Int32 => some (.int r)) [.ref l0, .int l1] (qX9_isContested N l0 l1) := by
  refine osMetT.of plX9 (Nat.le_of_ble_eq_true rfl) (osW.rw (lv2 := [(0, .ref l0), (1, .int l1)]) ?_ rfl rfl rfl)
  unfold qX9_isContested
  refine os_aload_n (i := 0) (q := 0) (v := l0) 0 rfl rfl (hX9_isContested.at 0 rfl rfl) ?_
  refine os_iload_n (i := 1) (q := 1) (v := l1) 1 rfl rfl (hX9_isContested.at 1 rfl rfl) ?_
  refine os_callVT (cis := [7]) (b := l0) (As := [.int l1]) (st := []) (st' := (fun _ => [])) sl7_X9_requireArea_X9_requireArea mdX9_requireArea wd1056 wd1058 (sX9_requireArea N l0 l1) rfl rfl (fun _ => rfl) (Nat.le_of_ble_eq_true rfl) (Nat.le_of_ble_eq_true rfl) (Nat.le_of_ble_eq_true rfl) rfl (Nat.le_of_ble_eq_true rfl) rfl (Nat.le_of_ble_eq_true rfl) (Nat.le_of_ble_eq_true rfl) (Nat.le_of_ble_eq_true rfl) (hX9_isContested.at 2 rfl rfl) (fun _ => ?_)
  refine os_aload_n (i := 0) (q := 0) (v := l0) 0 rfl rfl (hX9_isContested.at 3 rfl rfl) ?_
  refine os_callVT (cis := [7]) (b := l0) (As := []) (st := []) (st' := (fun _ => [])) sl7_X9_requireSettled_X9_requireSettled mdX9_requireSettled wd1432 wd1434 (sX9_requireSettled N l0 ) rfl rfl (fun _ => rfl) (Nat.le_of_ble_eq_true rfl) (Nat.le_of_ble_eq_true rfl) (Nat.le_of_ble_eq_true rfl) rfl (Nat.le_of_ble_eq_true rfl) rfl (Nat.le_of_ble_eq_true rfl) (Nat.le_of_ble_eq_true rfl) (Nat.le_of_ble_eq_true rfl) (hX9_isContested.at 4 rfl rfl) (fun _ => ?_)
  refine os_aload_n (i := 0) (q := 0) (v := l0) 0 rfl rfl (hX9_isContested.at 5 rfl rfl) ?_
  refine os_getR fX9_71 (hX9_isContested.at 6 rfl rfl) (fun x1 => ?_)
  refine os_getI fX9_257 (hX9_isContested.at 7 rfl rfl) (fun x2 => ?_)
  refine os_iload_n (i := 1) (q := 1) (v := l1) 1 rfl rfl (hX9_isContested.at 8 rfl rfl) ?_
  refine os_callS (As := [.int x2, .int l1]) (st := []) (st' := (fun r => .int r :: [])) mdX9_has wd1086 wd749 (sX9_has N x2 l1) rfl rfl (fun _ => rfl) (Nat.le_of_ble_eq_true rfl) (Nat.le_of_ble_eq_true rfl) (Nat.le_of_ble_eq_true rfl) rfl (Nat.le_of_ble_eq_true rfl) rfl (Nat.le_of_ble_eq_true rfl) (hX9_isContested.at 9 rfl rfl) (fun x3 => ?_)
  exact os_ofM (os_zret (Nat.le_of_ble_eq_true rfl) (Nat.le_of_ble_eq_true rfl) (hX9_isContested.at 10 rfl rfl).1)
-- X9_mayRetreat
def KX9_mayRetreat : List (Nat × Nat × Instr) := [(0, 1, .aload_n 0), (1, 1, .iload_n 1), (2, 3, .invokevirtual 126), (5, 1, .aload_n 0), (6, 1, .iload_n 2), (7, 3, .invokevirtual 126), (10, 1, .aload_n 0), (11, 3, .getfield 71), (14, 1, .iload_n 1), (15, 3, .invokevirtual 260), (18, 3, .ifCond .ne 14), (21, 3, .new 172), (24, 1, .dup), (25, 3, .ldc_w 264), (28, 3, .invokespecial 176), (31, 1, .athrow), (32, 1, .aload_n 0), (33, 3, .getfield 71), (36, 1, .aload_n 0), (37, 3, .getfield 63), (40, 1, .iload_n 1), (41, 1, .iload_n 2), (42, 3, .invokevirtual 266), (45, 1, .ireturn)]
theorem hX9_mayRetreat : osDs cX9_mayRetreat KX9_mayRetreat := by
  show ∀ q ∈ KX9_mayRetreat, decode cX9_mayRetreat q.1 = .ok (q.2.2, q.2.1)
  decide +kernel
def qX9_mayRetreat (N : Nat) (l0 : Nat) (l1 : Int32) (l2 : Int32) : osM (Nat ⊕ Int32) := osbindT (osrecv [7] l0 (qX9_requireArea N l0 l1)) fun _ => osbindT (osrecv [7] l0 (qX9_requireArea N l0 l2)) fun _ => osbind (osgR [7] 12 l0) fun x1 => osbind (osrecv [5] x1 (qX5_hasDislodged N x1 l1)) fun x2 => osite (x2 = 0) (osthrow 2) (osbind (osgR [7] 12 l0) fun x3 => osbind (osgR [7] 10 l0) fun x4 => osbind (osrecv [5] x3 (qX5_allowsRetreat N x3 x4 l1 l2)) fun x5 => osRt (osretZ x5))
set_option maxRecDepth 100000 in
set_option maxHeartbeats 4000000 in
theorem sX9_mayRetreat (N : Nat) (l0 : Nat) (l1 : Int32) (l2 : Int32) : osMetT yX9_mayRetreat cX9_mayRetreat 3 (some .boolean) 7 111 3 18 (fun r : Int32 => some (.int r)) [.ref l0, .int l1, .int l2] (qX9_mayRetreat N l0 l1 l2) := by
  refine osMetT.of plX9 (Nat.le_of_ble_eq_true rfl) (osW.rw (lv2 := [(0, .ref l0), (1, .int l1), (2, .int l2)]) ?_ rfl rfl rfl)
  unfold qX9_mayRetreat
  refine os_aload_n (i := 0) (q := 0) (v := l0) 0 rfl rfl (hX9_mayRetreat.at 0 rfl rfl) ?_
  refine os_iload_n (i := 1) (q := 1) (v := l1) 1 rfl rfl (hX9_mayRetreat.at 1 rfl rfl) ?_
  refine os_callVT (cis := [7]) (b := l0) (As := [.int l1]) (st := []) (st' := (fun _ => [])) sl7_X9_requireArea_X9_requireArea mdX9_requireArea wd1056 wd1058 (sX9_requireArea N l0 l1) rfl rfl (fun _ => rfl) (Nat.le_of_ble_eq_true rfl) (Nat.le_of_ble_eq_true rfl) (Nat.le_of_ble_eq_true rfl) rfl (Nat.le_of_ble_eq_true rfl) rfl (Nat.le_of_ble_eq_true rfl) (Nat.le_of_ble_eq_true rfl) (Nat.le_of_ble_eq_true rfl) (hX9_mayRetreat.at 2 rfl rfl) (fun _ => ?_)
  refine os_aload_n (i := 0) (q := 0) (v := l0) 0 rfl rfl (hX9_mayRetreat.at 3 rfl rfl) ?_
  refine os_iload_n (i := 2) (q := 2) (v := l2) 2 rfl rfl (hX9_mayRetreat.at 4 rfl rfl) ?_
  refine os_callVT (cis := [7]) (b := l0) (As := [.int l2]) (st := []) (st' := (fun _ => [])) sl7_X9_requireArea_X9_requireArea mdX9_requireArea wd1056 wd1058 (sX9_requireArea N l0 l2) rfl rfl (fun _ => rfl) (Nat.le_of_ble_eq_true rfl) (Nat.le_of_ble_eq_true rfl) (Nat.le_of_ble_eq_true rfl) rfl (Nat.le_of_ble_eq_true rfl) rfl (Nat.le_of_ble_eq_true rfl) (Nat.le_of_ble_eq_true rfl) (Nat.le_of_ble_eq_true rfl) (hX9_mayRetreat.at 5 rfl rfl) (fun _ => ?_)
  refine os_aload_n (i := 0) (q := 0) (v := l0) 0 rfl rfl (hX9_mayRetreat.at 6 rfl rfl) ?_
  refine os_getR fX9_71 (hX9_mayRetreat.at 7 rfl rfl) (fun x1 => ?_)
  refine os_iload_n (i := 1) (q := 1) (v := l1) 1 rfl rfl (hX9_mayRetreat.at 8 rfl rfl) ?_
  refine os_callV (cis := [5]) (b := x1) (As := [.int l1]) (st := []) (st' := (fun r => .int r :: [])) sl5_X5_hasDislodged_X5_hasDislodged mdX5_hasDislodged wd1459 wd1202 (sX5_hasDislodged N x1 l1) rfl rfl (fun _ => rfl) (Nat.le_of_ble_eq_true rfl) (Nat.le_of_ble_eq_true rfl) (Nat.le_of_ble_eq_true rfl) rfl (Nat.le_of_ble_eq_true rfl) rfl (Nat.le_of_ble_eq_true rfl) (hX9_mayRetreat.at 9 rfl rfl) (fun x2 => ?_)
  refine os_if_ne (off := 14) (tgt := 32) rfl (hX9_mayRetreat.at 10 rfl rfl) ?_ ?_
  · refine os_aload_n (i := 0) (q := 0) (v := l0) 0 rfl rfl (hX9_mayRetreat.at 16 rfl rfl) ?_
    refine os_getR fX9_71 (hX9_mayRetreat.at 17 rfl rfl) (fun x3 => ?_)
    refine os_aload_n (i := 0) (q := 0) (v := l0) 0 rfl rfl (hX9_mayRetreat.at 18 rfl rfl) ?_
    refine os_getR fX9_63 (hX9_mayRetreat.at 19 rfl rfl) (fun x4 => ?_)
    refine os_iload_n (i := 1) (q := 1) (v := l1) 1 rfl rfl (hX9_mayRetreat.at 20 rfl rfl) ?_
    refine os_iload_n (i := 2) (q := 2) (v := l2) 2 rfl rfl (hX9_mayRetreat.at 21 rfl rfl) ?_
    refine os_callV (cis := [5]) (b := x3) (As := [.ref x4, .int l1, .int l2]) (st := []) (st' := (fun r => .int r :: [])) sl5_X5_allowsRetreat_X5_allowsRetreat mdX5_allowsRetreat wd1461 wd1212 (sX5_allowsRetreat N x3 x4 l1 l2) rfl rfl (fun _ => rfl) (Nat.le_of_ble_eq_true rfl) (Nat.le_of_ble_eq_true rfl) (Nat.le_of_ble_eq_true rfl) rfl (Nat.le_of_ble_eq_true rfl) rfl (Nat.le_of_ble_eq_true rfl) (hX9_mayRetreat.at 22 rfl rfl) (fun x5 => ?_)
    exact os_ofM (os_zret (Nat.le_of_ble_eq_true rfl) (Nat.le_of_ble_eq_true rfl) (hX9_mayRetreat.at 23 rfl rfl).1)
  · exact xth176 (j := 2) (jt := 20) (q := ("OrderSettler", 264, "no dislodged unit is there")) rfl rfl rfl rfl (hX9_mayRetreat.at 11 rfl rfl) (hX9_mayRetreat.at 12 rfl rfl) (Or.inr (hX9_mayRetreat.at 13 rfl rfl)) (hX9_mayRetreat.at 14 rfl rfl) (hX9_mayRetreat.at 15 rfl rfl) (Nat.le_of_ble_eq_true rfl) (Nat.le_of_ble_eq_true rfl) (Nat.le_of_ble_eq_true rfl) (Nat.le_of_ble_eq_true rfl) (Nat.le_of_ble_eq_true rfl) (Nat.le_of_ble_eq_true rfl)
-- X9_undo
def KX9_undo : List (Nat × Nat × Instr) := [(0, 1, .aload_n 0), (1, 3, .getfield 57), (4, 1, .iconst 1), (5, 3, .if_icmp .lt 12), (8, 1, .aload_n 0), (9, 3, .getfield 57), (12, 2, .bipush 6), (14, 3, .if_icmp .le 14), (17, 3, .new 78), (20, 1, .dup), (21, 3, .ldc_w 280), (24, 3, .invokespecial 82), (27, 1, .athrow), (28, 1, .aload_n 0), (29, 1, .dup), (30, 3, .getfield 57), (33, 1, .iconst 1), (34, 1, .isub), (35, 3, .putfield 57), (38, 1, .aload_n 0), (39, 3, .getfield 71), (42, 1, .aload_n 0), (43, 3, .getfield 53), (46, 1, .aload_n 0), (47, 3, .getfield 57), (50, 1, .aaload), (51, 3, .invokevirtual 110), (54, 1, .aload_n 0), (55, 3, .getfield 57), (58, 1, .ireturn)]
theorem hX9_undo : osDs cX9_undo KX9_undo := by
  show ∀ q ∈ KX9_undo, decode cX9_undo q.1 = .ok (q.2.2, q.2.1)
  decide +kernel
def qX9_undo_17 (N : Nat) : osM (Nat ⊕ Int32) := osthrow 0
def qX9_undo (N : Nat) (l0 : Nat) : osM (Nat ⊕ Int32) := osbind (osgI [7] 9 l0) fun x1 => osite (x1 < (1 : Int32)) (qX9_undo_17 N ) (osbind (osgI [7] 9 l0) fun x2 => osite (x2 ≤ (6 : Int32)) (osbind (osgI [7] 9 l0) fun x3 => osbind (osput [7] 9 l0 (.int (x3 - (1 : Int32)))) fun _ => osbind (osgR [7] 12 l0) fun x4 => osbind (osgR [7] 8 l0) fun x5 => osbind (osgI [7] 9 l0) fun x6 => osbind (osaR 5 x5 x6) fun x7 => osbind (osrecv [5] x4 (qX5_copyFrom N x4 x7)) fun _ => osbind (osgI [7] 9 l0) fun x8 => osRt (osret x8)) (qX9_undo_17 N ))
set_option maxRecDepth 100000 in
set_option maxHeartbeats 4000000 in
theorem sX9_undo_17 (N : Nat) : osW (osFinT (fun r : Int32 => some (.int r)) 1 6) yX9_undo cX9_undo 1 (some .int) [] { frames := 6, cells := 1, slots := 6, locals := 102 } 0 0 17 [] [] (qX9_undo_17 N) := by
  unfold qX9_undo_17
  exact xth82 (j := 0) (jt := 21) (q := ("OrderSettler", 280, "nothing can be undone")) rfl rfl rfl rfl (hX9_undo.at 8 rfl rfl) (hX9_undo.at 9 rfl rfl) (Or.inr (hX9_undo.at 10 rfl rfl)) (hX9_undo.at 11 rfl rfl) (hX9_undo.at 12 rfl rfl) (Nat.le_of_ble_eq_true rfl) (Nat.le_of_ble_eq_true rfl) (Nat.le_of_ble_eq_true rfl) (Nat.le_of_ble_eq_true rfl) (Nat.le_of_ble_eq_true rfl) (Nat.le_of_ble_eq_true rfl)
set_option maxRecDepth 100000 in
set_option maxHeartbeats 4000000 in
theorem sX9_undo (N : Nat) (l0 : Nat) : osMetT yX9_undo cX9_undo 1 (some .int) 6 102 1 6 (fun r : Int32 => some (.int r)) [.ref l0] (qX9_undo N l0) := by
  refine osMetT.of plX9 (Nat.le_of_ble_eq_true rfl) (osW.rw (lv2 := [(0, .ref l0)]) ?_ rfl rfl rfl)
  unfold qX9_undo
  refine os_aload_n (i := 0) (q := 0) (v := l0) 0 rfl rfl (hX9_undo.at 0 rfl rfl) ?_
  refine os_getI fX9_57 (hX9_undo.at 1 rfl rfl) (fun x1 => ?_)
  refine os_iconst (i := 1) (v := (1 : Int32)) rfl (hX9_undo.at 2 rfl rfl) ?_
  refine os_icmp_lt (off := 12) (tgt := 17) rfl (hX9_undo.at 3 rfl rfl) ?_ ?_
  · exact osW.sub [] rfl (sX9_undo_17 N )
  · refine os_aload_n (i := 0) (q := 0) (v := l0) 0 rfl rfl (hX9_undo.at 4 rfl rfl) ?_
    refine os_getI fX9_57 (hX9_undo.at 5 rfl rfl) (fun x2 => ?_)
    refine os_bipush (i := 6) (v := (6 : Int32)) rfl (hX9_undo.at 6 rfl rfl) ?_
    refine os_icmp_le (off := 14) (tgt := 28) rfl (hX9_undo.at 7 rfl rfl) ?_ ?_
    · refine os_aload_n (i := 0) (q := 0) (v := l0) 0 rfl rfl (hX9_undo.at 13 rfl rfl) ?_
      refine os_dup rfl (hX9_undo.at 14 rfl rfl) ?_
      refine os_getI fX9_57 (hX9_undo.at 15 rfl rfl) (fun x3 => ?_)
      refine os_iconst (i := 1) (v := (1 : Int32)) rfl (hX9_undo.at 16 rfl rfl) ?_
      refine os_isub (hX9_undo.at 17 rfl rfl) ?_
      refine os_put fX9_57 rfl rfl (hX9_undo.at 18 rfl rfl) ?_
      refine os_aload_n (i := 0) (q := 0) (v := l0) 0 rfl rfl (hX9_undo.at 19 rfl rfl) ?_
      refine os_getR fX9_71 (hX9_undo.at 20 rfl rfl) (fun x4 => ?_)
      refine os_aload_n (i := 0) (q := 0) (v := l0) 0 rfl rfl (hX9_undo.at 21 rfl rfl) ?_
      refine os_getR fX9_53 (hX9_undo.at 22 rfl rfl) (fun x5 => ?_)
      refine os_aload_n (i := 0) (q := 0) (v := l0) 0 rfl rfl (hX9_undo.at 23 rfl rfl) ?_
      refine os_getI fX9_57 (hX9_undo.at 24 rfl rfl) (fun x6 => ?_)
      refine os_aaload (t := 5) (C := "OrderSettler$State") rfl (hX9_undo.at 25 rfl rfl) (fun x7 => ?_)
      refine os_callV (cis := [5]) (b := x4) (As := [.ref x7]) (st := []) (st' := (fun _ => [])) sl5_X5_copyFrom_X5_copyFrom mdX5_copyFrom wd1102 wd1103 (sX5_copyFrom N x4 x7) rfl rfl (fun _ => rfl) (Nat.le_of_ble_eq_true rfl) (Nat.le_of_ble_eq_true rfl) (Nat.le_of_ble_eq_true rfl) rfl (Nat.le_of_ble_eq_true rfl) rfl (Nat.le_of_ble_eq_true rfl) (hX9_undo.at 26 rfl rfl) (fun _ => ?_)
      refine os_aload_n (i := 0) (q := 0) (v := l0) 0 rfl rfl (hX9_undo.at 27 rfl rfl) ?_
      refine os_getI fX9_57 (hX9_undo.at 28 rfl rfl) (fun x8 => ?_)
      exact os_ofM (os_iret (Nat.le_of_ble_eq_true rfl) (Nat.le_of_ble_eq_true rfl) (hX9_undo.at 29 rfl rfl).1)
    · exact osW.sub [] rfl (sX9_undo_17 N )
-- X9_requireUnit
def KX9_requireUnit : List (Nat × Nat × Instr) := [(0, 1, .aload_n 0), (1, 3, .getfield 63), (4, 1, .iload_n 1), (5, 3, .invokevirtual 361), (8, 3, .ifCond .eq 14), (11, 1, .aload_n 0), (12, 3, .getfield 71), (15, 1, .iload_n 1), (16, 3, .invokevirtual 323), (19, 3, .ifCond .ne 14), (22, 3, .new 172), (25, 1, .dup), (26, 3, .ldc_w 368), (29, 3, .invokespecial 176), (32, 1, .athrow), (33, 1, .return_)]
theorem hX9_requireUnit : osDs cX9_requireUnit KX9_requireUnit := by
  show ∀ q ∈ KX9_requireUnit, decode cX9_requireUnit q.1 = .ok (q.2.2, q.2.1)
  decide +kernel
def qX9_requireUnit_22 (N : Nat) : osM (Nat ⊕ Unit) := osthrow 2
def qX9_requireUnit (N : Nat) (l0 : Nat) (l1 : Int32) : osM (Nat ⊕ Unit) := osbind (osgR [7] 10 l0) fun x1 => osbind (osrecv [0] x1 (qX0_isArea N x1 l1)) fun x2 => osite (x2 = 0) (qX9_requireUnit_22 N ) (osbind (osgR [7] 12 l0) fun x3 => osbind (osrecv [5] x3 (qX5_hasUnit N x3 l1)) fun x4 => osite (x4 = 0) (qX9_requireUnit_22 N ) (osRt (osret ())))
set_option maxRecDepth 100000 in
set_option maxHeartbeats 4000000 in
theorem sX9_requireUnit_22 (N : Nat) : osW (osFinT (fun _ : Unit => none) 1 6) yX9_requireUnit cX9_requireUnit 2 none [] { frames := 6, cells := 1, slots := 6, locals := 90 } 0 0 22 [] [] (qX9_requireUnit_22 N) := by
  unfold qX9_requireUnit_22
  exact xth176 (j := 2) (jt := 26) (q := ("OrderSettler", 368, "there is no unit at such an area")) rfl rfl rfl rfl (hX9_requireUnit.at 10 rfl rfl) (hX9_requireUnit.at 11 rfl rfl) (Or.inr (hX9_requireUnit.at 12 rfl rfl)) (hX9_requireUnit.at 13 rfl rfl) (hX9_requireUnit.at 14 rfl rfl) (Nat.le_of_ble_eq_true rfl) (Nat.le_of_ble_eq_true rfl) (Nat.le_of_ble_eq_true rfl) (Nat.le_of_ble_eq_true rfl) (Nat.le_of_ble_eq_true rfl) (Nat.le_of_ble_eq_true rfl)
set_option maxRecDepth 100000 in
set_option maxHeartbeats 4000000 in
theorem sX9_requireUnit (N : Nat) (l0 : Nat) (l1 : Int32) : osMetT yX9_requireUnit cX9_requireUnit 2 none 6 90 1 6 (fun _ : Unit => none) [.ref l0, .int l1] (qX9_requireUnit N l0 l1) := by
  refine osMetT.of plX9 (Nat.le_of_ble_eq_true rfl) (osW.rw (lv2 := [(0, .ref l0), (1, .int l1)]) ?_ rfl rfl rfl)
  unfold qX9_requireUnit
  refine os_aload_n (i := 0) (q := 0) (v := l0) 0 rfl rfl (hX9_requireUnit.at 0 rfl rfl) ?_
  refine os_getR fX9_63 (hX9_requireUnit.at 1 rfl rfl) (fun x1 => ?_)
  refine os_iload_n (i := 1) (q := 1) (v := l1) 1 rfl rfl (hX9_requireUnit.at 2 rfl rfl) ?_
  refine os_callV (cis := [0]) (b := x1) (As := [.int l1]) (st := []) (st' := (fun r => .int r :: [])) sl0_X0_isArea_X0_isArea mdX0_isArea wd1060 wd756 (sX0_isArea N x1 l1) rfl rfl (fun _ => rfl) (Nat.le_of_ble_eq_true rfl) (Nat.le_of_ble_eq_true rfl) (Nat.le_of_ble_eq_true rfl) rfl (Nat.le_of_ble_eq_true rfl) rfl (Nat.le_of_ble_eq_true rfl) (hX9_requireUnit.at 3 rfl rfl) (fun x2 => ?_)
  refine os_if_eq (off := 14) (tgt := 22) rfl (hX9_requireUnit.at 4 rfl rfl) ?_ ?_
  · exact osW.sub [] rfl (sX9_requireUnit_22 N )
  · refine os_aload_n (i := 0) (q := 0) (v := l0) 0 rfl rfl (hX9_requireUnit.at 5 rfl rfl) ?_
    refine os_getR fX9_71 (hX9_requireUnit.at 6 rfl rfl) (fun x3 => ?_)
    refine os_iload_n (i := 1) (q := 1) (v := l1) 1 rfl rfl (hX9_requireUnit.at 7 rfl rfl) ?_
    refine os_callV (cis := [5]) (b := x3) (As := [.int l1]) (st := []) (st' := (fun r => .int r :: [])) sl5_X5_hasUnit_X5_hasUnit mdX5_hasUnit wd1279 wd807 (sX5_hasUnit N x3 l1) rfl rfl (fun _ => rfl) (Nat.le_of_ble_eq_true rfl) (Nat.le_of_ble_eq_true rfl) (Nat.le_of_ble_eq_true rfl) rfl (Nat.le_of_ble_eq_true rfl) rfl (Nat.le_of_ble_eq_true rfl) (hX9_requireUnit.at 8 rfl rfl) (fun x4 => ?_)
    refine os_if_ne (off := 14) (tgt := 33) rfl (hX9_requireUnit.at 9 rfl rfl) ?_ ?_
    · exact os_ofM (os_vret (Nat.le_of_ble_eq_true rfl) (Nat.le_of_ble_eq_true rfl) (hX9_requireUnit.at 15 rfl rfl).1)
    · exact osW.sub [] rfl (sX9_requireUnit_22 N )
-- X9_order
def KX9_order : List (Nat × Nat × Instr) := [(0, 1, .aload_n 0), (1, 1, .iload_n 1), (2, 3, .invokevirtual 207), (5, 1, .aload_n 0), (6, 1, .iload_n 2), (7, 1, .iconst 3), (8, 3, .invokevirtual 129), (11, 1, .aload_n 0), (12, 1, .iconst 0), (13, 3, .invokevirtual 210), (16, 1, .iload_n 2), (17, 27, .lookupswitch 51 #[(0, 27), (1, 39)]), (44, 1, .aload_n 0), (45, 3, .getfield 71), (48, 3, .getfield 213), (51, 1, .iload_n 1), (52, 3, .invokestatic 147), (55, 1, .ireturn), (56, 1, .aload_n 0), (57, 3, .getfield 71), (60, 3, .getfield 216), (63, 1, .iload_n 1), (64, 3, .invokestatic 147), (67, 1, .ireturn), (68, 1, .aload_n 0), (69, 3, .getfield 71), (72, 3, .getfield 219), (75, 1, .iload_n 1), (76, 3, .invokestatic 147), (79, 1, .ireturn)]
theorem hX9_order : osDs cX9_order KX9_order := by
  show ∀ q ∈ KX9_order, decode cX9_order q.1 = .ok (q.2.2, q.2.1)
  decide +kernel
def qX9_order (N : Nat) (l0 : Nat) (l1 : Int32) (l2 : Int32) : osM (Nat ⊕ Int32) := osbindT (osrecv [7] l0 (qX9_requireUnit N l0 l1)) fun _ => osbindT (osrecv [7] l0 (qX9_requireReport N l0 l2 (3 : Int32))) fun _ => osbindT (osrecv [7] l0 (qX9_requirePhase N l0 (0 : Int32))) fun _ => osite (l2.toInt = 0) (osbind (osgR [7] 12 l0) fun x1 => osbind (osgR [5] 12 x1) fun x2 => osbind (qX9_entry N x2 l1) fun x3 => osRt (osret x3)) (osite (l2.toInt = 1) (osbind (osgR [7] 12 l0) fun x4 => osbind (osgR [5] 13 x4) fun x5 => osbind (qX9_entry N x5 l1) fun x6 => osRt (osret x6)) (osbind (osgR [7] 12 l0) fun x7 => osbind (osgR [5] 14 x7) fun x8 => osbind (qX9_entry N x8 l1) fun x9 => osRt (osret x9)))
set_option maxRecDepth 100000 in
set_option maxHeartbeats 4000000 in
theorem sX9_order (N : Nat) (l0 : Nat) (l1 : Int32) (l2 : Int32) : osMetT yX9_order cX9_order 3 (some .int) 7 112 3 18 (fun r : Int32 => some (.int r)) [.ref l0, .int l1, .int l2] (qX9_order N l0 l1 l2) := by
  refine osMetT.of plX9 (Nat.le_of_ble_eq_true rfl) (osW.rw (lv2 := [(0, .ref l0), (1, .int l1), (2, .int l2)]) ?_ rfl rfl rfl)
  unfold qX9_order
  refine os_aload_n (i := 0) (q := 0) (v := l0) 0 rfl rfl (hX9_order.at 0 rfl rfl) ?_
  refine os_iload_n (i := 1) (q := 1) (v := l1) 1 rfl rfl (hX9_order.at 1 rfl rfl) ?_
  refine os_callVT (cis := [7]) (b := l0) (As := [.int l1]) (st := []) (st' := (fun _ => [])) sl7_X9_requireUnit_X9_requireUnit mdX9_requireUnit wd1275 wd1277 (sX9_requireUnit N l0 l1) rfl rfl (fun _ => rfl) (Nat.le_of_ble_eq_true rfl) (Nat.le_of_ble_eq_true rfl) (Nat.le_of_ble_eq_true rfl) rfl (Nat.le_of_ble_eq_true rfl) rfl (Nat.le_of_ble_eq_true rfl) (Nat.le_of_ble_eq_true rfl) (Nat.le_of_ble_eq_true rfl) (hX9_order.at 2 rfl rfl) (fun _ => ?_)
  refine os_aload_n (i := 0) (q := 0) (v := l0) 0 rfl rfl (hX9_order.at 3 rfl rfl) ?_
  refine os_iload_n (i := 2) (q := 2) (v := l2) 2 rfl rfl (hX9_order.at 4 rfl rfl) ?_
  refine os_iconst (i := 3) (v := (3 : Int32)) rfl (hX9_order.at 5 rfl rfl) ?_
  refine os_callVT (cis := [7]) (b := l0) (As := [.int l2, .int (3 : Int32)]) (st := []) (st' := (fun _ => [])) sl7_X9_requireReport_X9_requireReport mdX9_requireReport wd1077 wd1079 (sX9_requireReport N l0 l2 (3 : Int32)) rfl rfl (fun _ => rfl) (Nat.le_of_ble_eq_true rfl) (Nat.le_of_ble_eq_true rfl) (Nat.le_of_ble_eq_true rfl) rfl (Nat.le_of_ble_eq_true rfl) rfl (Nat.le_of_ble_eq_true rfl) (Nat.le_of_ble_eq_true rfl) (Nat.le_of_ble_eq_true rfl) (hX9_order.at 6 rfl rfl) (fun _ => ?_)
  refine os_aload_n (i := 0) (q := 0) (v := l0) 0 rfl rfl (hX9_order.at 7 rfl rfl) ?_
  refine os_iconst (i := 0) (v := (0 : Int32)) rfl (hX9_order.at 8 rfl rfl) ?_
  refine os_callVT (cis := [7]) (b := l0) (As := [.int (0 : Int32)]) (st := []) (st' := (fun _ => [])) sl7_X9_requirePhase_X9_requirePhase mdX9_requirePhase wd1281 wd1283 (sX9_requirePhase N l0 (0 : Int32)) rfl rfl (fun _ => rfl) (Nat.le_of_ble_eq_true rfl) (Nat.le_of_ble_eq_true rfl) (Nat.le_of_ble_eq_true rfl) rfl (Nat.le_of_ble_eq_true rfl) rfl (Nat.le_of_ble_eq_true rfl) (Nat.le_of_ble_eq_true rfl) (Nat.le_of_ble_eq_true rfl) (hX9_order.at 9 rfl rfl) (fun _ => ?_)
  refine os_iload_n (i := 2) (q := 2) (v := l2) 2 rfl rfl (hX9_order.at 10 rfl rfl) ?_
  refine os_lookup2 (a := 0) (b := 1) (oa := 27) (ob := 39) (dflt := 51) (ta := 44) (tb := 56) (td := 68) (by decide) rfl rfl rfl (hX9_order.at 11 rfl rfl) ?_ ?_ ?_
  · refine os_aload_n (i := 0) (q := 0) (v := l0) 0 rfl rfl (hX9_order.at 12 rfl rfl) ?_
    refine os_getR fX9_71 (hX9_order.at 13 rfl rfl) (fun x1 => ?_)
    refine os_getR fX9_213 (hX9_order.at 14 rfl rfl) (fun x2 => ?_)
    refine os_iload_n (i := 1) (q := 1) (v := l1) 1 rfl rfl (hX9_order.at 15 rfl rfl) ?_
    refine os_callS (As := [.ref x2, .int l1]) (st := []) (st' := (fun r => .int r :: [])) mdX9_entry wd1087 wd784 (sX9_entry N x2 l1) rfl rfl (fun _ => rfl) (Nat.le_of_ble_eq_true rfl) (Nat.le_of_ble_eq_true rfl) (Nat.le_of_ble_eq_true rfl) rfl (Nat.le_of_ble_eq_true rfl) rfl (Nat.le_of_ble_eq_true rfl) (hX9_order.at 16 rfl rfl) (fun x3 => ?_)
    exact os_ofM (os_iret (Nat.le_of_ble_eq_true rfl) (Nat.le_of_ble_eq_true rfl) (hX9_order.at 17 rfl rfl).1)
  · refine os_aload_n (i := 0) (q := 0) (v := l0) 0 rfl rfl (hX9_order.at 18 rfl rfl) ?_
    refine os_getR fX9_71 (hX9_order.at 19 rfl rfl) (fun x4 => ?_)
    refine os_getR fX9_216 (hX9_order.at 20 rfl rfl) (fun x5 => ?_)
    refine os_iload_n (i := 1) (q := 1) (v := l1) 1 rfl rfl (hX9_order.at 21 rfl rfl) ?_
    refine os_callS (As := [.ref x5, .int l1]) (st := []) (st' := (fun r => .int r :: [])) mdX9_entry wd1087 wd784 (sX9_entry N x5 l1) rfl rfl (fun _ => rfl) (Nat.le_of_ble_eq_true rfl) (Nat.le_of_ble_eq_true rfl) (Nat.le_of_ble_eq_true rfl) rfl (Nat.le_of_ble_eq_true rfl) rfl (Nat.le_of_ble_eq_true rfl) (hX9_order.at 22 rfl rfl) (fun x6 => ?_)
    exact os_ofM (os_iret (Nat.le_of_ble_eq_true rfl) (Nat.le_of_ble_eq_true rfl) (hX9_order.at 23 rfl rfl).1)
  · refine os_aload_n (i := 0) (q := 0) (v := l0) 0 rfl rfl (hX9_order.at 24 rfl rfl) ?_
    refine os_getR fX9_71 (hX9_order.at 25 rfl rfl) (fun x7 => ?_)
    refine os_getR fX9_219 (hX9_order.at 26 rfl rfl) (fun x8 => ?_)
    refine os_iload_n (i := 1) (q := 1) (v := l1) 1 rfl rfl (hX9_order.at 27 rfl rfl) ?_
    refine os_callS (As := [.ref x8, .int l1]) (st := []) (st' := (fun r => .int r :: [])) mdX9_entry wd1087 wd784 (sX9_entry N x8 l1) rfl rfl (fun _ => rfl) (Nat.le_of_ble_eq_true rfl) (Nat.le_of_ble_eq_true rfl) (Nat.le_of_ble_eq_true rfl) rfl (Nat.le_of_ble_eq_true rfl) rfl (Nat.le_of_ble_eq_true rfl) (hX9_order.at 28 rfl rfl) (fun x9 => ?_)
    exact os_ofM (os_iret (Nat.le_of_ble_eq_true rfl) (Nat.le_of_ble_eq_true rfl) (hX9_order.at 29 rfl rfl).1)
-- X9_endRetreats
def KX9_endRetreats : List (Nat × Nat × Instr) := [(0, 1, .aload_n 0), (1, 1, .iconst 1), (2, 3, .invokevirtual 210), (5, 1, .aload_n 0), (6, 3, .invokevirtual 222), (9, 1, .aload_n 0), (10, 3, .getfield 75), (13, 1, .aload_n 0), (14, 3, .getfield 71), (17, 3, .invokevirtual 110), (20, 1, .aload_n 0), (21, 3, .getfield 71), (24, 1, .aload_n 0), (25, 3, .getfield 75), (28, 3, .invokevirtual 270), (31, 1, .istore_n 1), (32, 1, .aload_n 0), (33, 3, .getfield 71), (36, 1, .aload_n 0), (37, 3, .getfield 63), (40, 3, .invokevirtual 236), (43, 1, .iload_n 1), (44, 1, .ireturn)]
theorem hX9_endRetreats : osDs cX9_endRetreats KX9_endRetreats := by
  show ∀ q ∈ KX9_endRetreats, decode cX9_endRetreats q.1 = .ok (q.2.2, q.2.1)
  decide +kernel
def qX9_endRetreats (N : Nat) (l0 : Nat) : osM (Nat ⊕ Int32) := osbindT (osrecv [7] l0 (qX9_requirePhase N l0 (1 : Int32))) fun _ => osbind (osrecv [7] l0 (qX9_remember N l0)) fun _ => osbind (osgR [7] 13 l0) fun x1 => osbind (osgR [7] 12 l0) fun x2 => osbind (osrecv [5] x1 (qX5_copyFrom N x1 x2)) fun _ => osbind (osgR [7] 12 l0) fun x3 => osbind (osgR [7] 13 l0) fun x4 => osbind (osrecv [5] x3 (qX5_carryOutRetreats N x3 x4)) fun x5 => osbind (osgR [7] 12 l0) fun x6 => osbind (osgR [7] 10 l0) fun x7 => osbind (osrecv [5] x6 (qX5_closeTurn N x6 x7)) fun _ => osRt (osret x5)
set_option maxRecDepth 100000 in
set_option maxHeartbeats 4000000 in
theorem sX9_endRetreats (N : Nat) (l0 : Nat) : osMetT yX9_endRetreats cX9_endRetreats 2 (some .int) 7 124 1 6 (fun r : Int32 => some (.int r)) [.ref l0] (qX9_endRetreats N l0) := by
  refine osMetT.of plX9 (Nat.le_of_ble_eq_true rfl) (osW.rw (lv2 := [(0, .ref l0)]) ?_ rfl rfl rfl)
  unfold qX9_endRetreats
  refine os_aload_n (i := 0) (q := 0) (v := l0) 0 rfl rfl (hX9_endRetreats.at 0 rfl rfl) ?_
  refine os_iconst (i := 1) (v := (1 : Int32)) rfl (hX9_endRetreats.at 1 rfl rfl) ?_
  refine os_callVT (cis := [7]) (b := l0) (As := [.int (1 : Int32)]) (st := []) (st' := (fun _ => [])) sl7_X9_requirePhase_X9_requirePhase mdX9_requirePhase wd1281 wd1283 (sX9_requirePhase N l0 (1 : Int32)) rfl rfl (fun _ => rfl) (Nat.le_of_ble_eq_true rfl) (Nat.le_of_ble_eq_true rfl) (Nat.le_of_ble_eq_true rfl) rfl (Nat.le_of_ble_eq_true rfl) rfl (Nat.le_of_ble_eq_true rfl) (Nat.le_of_ble_eq_true rfl) (Nat.le_of_ble_eq_true rfl) (hX9_endRetreats.at 2 rfl rfl) (fun _ => ?_)
  refine os_aload_n (i := 0) (q := 0) (v := l0) 0 rfl rfl (hX9_endRetreats.at 3 rfl rfl) ?_
  refine os_callV (cis := [7]) (b := l0) (As := []) (st := []) (st' := (fun _ => [])) sl7_X9_remember_X9_remember mdX9_remember wd1395 wd1397 (sX9_remember N l0 ) rfl rfl (fun _ => rfl) (Nat.le_of_ble_eq_true rfl) (Nat.le_of_ble_eq_true rfl) (Nat.le_of_ble_eq_true rfl) rfl (Nat.le_of_ble_eq_true rfl) rfl (Nat.le_of_ble_eq_true rfl) (hX9_endRetreats.at 4 rfl rfl) (fun _ => ?_)
  refine os_aload_n (i := 0) (q := 0) (v := l0) 0 rfl rfl (hX9_endRetreats.at 5 rfl rfl) ?_
  refine os_getR fX9_75 (hX9_endRetreats.at 6 rfl rfl) (fun x1 => ?_)
  refine os_aload_n (i := 0) (q := 0) (v := l0) 0 rfl rfl (hX9_endRetreats.at 7 rfl rfl) ?_
  refine os_getR fX9_71 (hX9_endRetreats.at 8 rfl rfl) (fun x2 => ?_)
  refine os_callV (cis := [5]) (b := x1) (As := [.ref x2]) (st := []) (st' := (fun _ => [])) sl5_X5_copyFrom_X5_copyFrom mdX5_copyFrom wd1102 wd1103 (sX5_copyFrom N x1 x2) rfl rfl (fun _ => rfl) (Nat.le_of_ble_eq_true rfl) (Nat.le_of_ble_eq_true rfl) (Nat.le_of_ble_eq_true rfl) rfl (Nat.le_of_ble_eq_true rfl) rfl (Nat.le_of_ble_eq_true rfl) (hX9_endRetreats.at 9 rfl rfl) (fun _ => ?_)
  refine os_aload_n (i := 0) (q := 0) (v := l0) 0 rfl rfl (hX9_endRetreats.at 10 rfl rfl) ?_
  refine os_getR fX9_71 (hX9_endRetreats.at 11 rfl rfl) (fun x3 => ?_)
  refine os_aload_n (i := 0) (q := 0) (v := l0) 0 rfl rfl (hX9_endRetreats.at 12 rfl rfl) ?_
  refine os_getR fX9_75 (hX9_endRetreats.at 13 rfl rfl) (fun x4 => ?_)
  refine os_callV (cis := [5]) (b := x3) (As := [.ref x4]) (st := []) (st' := (fun r => .int r :: [])) sl5_X5_carryOutRetreats_X5_carryOutRetreats mdX5_carryOutRetreats wd1475 wd1476 (sX5_carryOutRetreats N x3 x4) rfl rfl (fun _ => rfl) (Nat.le_of_ble_eq_true rfl) (Nat.le_of_ble_eq_true rfl) (Nat.le_of_ble_eq_true rfl) rfl (Nat.le_of_ble_eq_true rfl) rfl (Nat.le_of_ble_eq_true rfl) (hX9_endRetreats.at 14 rfl rfl) (fun x5 => ?_)
  refine os_istore_n (i := 1) (q := 1) rfl (lv' := [(1, .int x5), (0, .ref l0)]) (Nat.le_of_ble_eq_true rfl) rfl (hX9_endRetreats.at 15 rfl rfl) ?_
  refine os_aload_n (i := 0) (q := 0) (v := l0) 1 rfl rfl (hX9_endRetreats.at 16 rfl rfl) ?_
  refine os_getR fX9_71 (hX9_endRetreats.at 17 rfl rfl) (fun x6 => ?_)
  refine os_aload_n (i := 0) (q := 0) (v := l0) 1 rfl rfl (hX9_endRetreats.at 18 rfl rfl) ?_
  refine os_getR fX9_63 (hX9_endRetreats.at 19 rfl rfl) (fun x7 => ?_)
  refine os_callV (cis := [5]) (b := x6) (As := [.ref x7]) (st := []) (st' := (fun _ => [])) sl5_X5_closeTurn_X5_closeTurn mdX5_closeTurn wd1418 wd1419 (sX5_closeTurn N x6 x7) rfl rfl (fun _ => rfl) (Nat.le_of_ble_eq_true rfl) (Nat.le_of_ble_eq_true rfl) (Nat.le_of_ble_eq_true rfl) rfl (Nat.le_of_ble_eq_true rfl) rfl (Nat.le_of_ble_eq_true rfl) (hX9_endRetreats.at 20 rfl rfl) (fun _ => ?_)
  refine os_iload_n (i := 1) (q := 1) (v := x5) 0 rfl rfl (hX9_endRetreats.at 21 rfl rfl) ?_
  exact os_ofM (os_iret (Nat.le_of_ble_eq_true rfl) (Nat.le_of_ble_eq_true rfl) (hX9_endRetreats.at 22 rfl rfl).1)
-- X9_endBuilds
def KX9_endBuilds : List (Nat × Nat × Instr) := [(0, 1, .aload_n 0), (1, 1, .iconst 2), (2, 3, .invokevirtual 210), (5, 1, .aload_n 0), (6, 3, .invokevirtual 222), (9, 1, .iconst 0), (10, 1, .istore_n 1), (11, 1, .iconst 0), (12, 1, .istore_n 2), (13, 1, .iload_n 2), (14, 1, .aload_n 0), (15, 3, .getfield 63), (18, 3, .getfield 123), (21, 3, .if_icmp .ge 20), (24, 1, .iload_n 1), (25, 1, .aload_n 0), (26, 3, .getfield 71), (29, 1, .iload_n 2), (30, 3, .invokevirtual 274), (33, 1, .iadd), (34, 1, .istore_n 1), (35, 3, .iinc 2 1), (38, 3, .goto (-25)), (41, 1, .aload_n 0), (42, 3, .getfield 71), (45, 3, .invokevirtual 277), (48, 1, .iload_n 1), (49, 1, .ireturn)]
theorem hX9_endBuilds : osDs cX9_endBuilds KX9_endBuilds := by
  show ∀ q ∈ KX9_endBuilds, decode cX9_endBuilds q.1 = .ok (q.2.2, q.2.1)
  decide +kernel
def bX9_endBuilds_13 (N : Nat) (c13 : Nat × Int32 × Int32 → osM (Nat ⊕ Int32)) (l0 : Nat) (l1 : Int32) (l2 : Int32) : osM (Nat ⊕ Int32) := osbind (osgR [7] 10 l0) fun x1 => osbind (osgI [0] 1 x1) fun x2 => osite (x2 ≤ l2) (osbind (osgR [7] 12 l0) fun x3 => osbind (osrecv [5] x3 (qX5_beginTurn N x3)) fun _ => osRt (osret l1)) (osbind (osgR [7] 12 l0) fun x4 => osbind (osrecv [5] x4 (qX5_disbandSurplus N x4 l2)) fun x5 => c13 (l0, (l1 + x5), (l2 + (1 : Int32))))
def qX9_endBuilds_13 (N : Nat) : Nat × Int32 × Int32 → osM (Nat ⊕ Int32) := osloop (fun ih p => bX9_endBuilds_13 N ih p.1 p.2.1 p.2.2) N
def qX9_endBuilds (N : Nat) (l0 : Nat) : osM (Nat ⊕ Int32) := osbindT (osrecv [7] l0 (qX9_requirePhase N l0 (2 : Int32))) fun _ => osbind (osrecv [7] l0 (qX9_remember N l0)) fun _ => qX9_endBuilds_13 N (l0, (0 : Int32), (0 : Int32))
set_option maxRecDepth 100000 in
set_option maxHeartbeats 4000000 in
theorem tX9_endBuilds_13 (N : Nat) (c13 : Nat × Int32 × Int32 → osM (Nat ⊕ Int32)) (g13 : ∀ (l0 : Nat) (l1 : Int32) (l2 : Int32), osW (osFinT (fun r : Int32 => some (.int r)) 1 6) yX9_endBuilds cX9_endBuilds 3 (some .int) [] { frames := 7, cells := 1, slots := 6, locals := 124 } 1 6 13 [(0, .ref l0), (1, .int l1), (2, .int l2)] [] (c13 (l0, l1, l2))) (l0 : Nat) (l1 : Int32) (l2 : Int32) : osW (osFinT (fun r : Int32 => some (.int r)) 1 6) yX9_endBuilds cX9_endBuilds 3 (some .int) [] { frames := 7, cells := 1, slots := 6, locals := 124 } 1 6 13 [(0, .ref l0), (1, .int l1), (2, .int l2)] [] (bX9_endBuilds_13 N c13 l0 l1 l2) := by
  unfold bX9_endBuilds_13
  refine os_iload_n (i := 2) (q := 2) (v := l2) 2 rfl rfl (hX9_endBuilds.at 9 rfl rfl) ?_
  refine os_aload_n (i := 0) (q := 0) (v := l0) 0 rfl rfl (hX9_endBuilds.at 10 rfl rfl) ?_
  refine os_getR fX9_63 (hX9_endBuilds.at 11 rfl rfl) (fun x1 => ?_)
  refine os_getI fX9_123 (hX9_endBuilds.at 12 rfl rfl) (fun x2 => ?_)
  refine os_icmp_ge (off := 20) (tgt := 41) rfl (hX9_endBuilds.at 13 rfl rfl) ?_ ?_
  · refine os_aload_n (i := 0) (q := 0) (v := l0) 0 rfl rfl (hX9_endBuilds.at 23 rfl rfl) ?_
    refine os_getR fX9_71 (hX9_endBuilds.at 24 rfl rfl) (fun x3 => ?_)
    refine os_callV (cis := [5]) (b := x3) (As := []) (st := []) (st' := (fun _ => [])) sl5_X5_beginTurn_X5_beginTurn mdX5_beginTurn wd1514 wd1423 (sX5_beginTurn N x3 ) rfl rfl (fun _ => rfl) (Nat.le_of_ble_eq_true rfl) (Nat.le_of_ble_eq_true rfl) (Nat.le_of_ble_eq_true rfl) rfl (Nat.le_of_ble_eq_true rfl) rfl (Nat.le_of_ble_eq_true rfl) (hX9_endBuilds.at 25 rfl rfl) (fun _ => ?_)
    refine os_iload_n (i := 1) (q := 1) (v := l1) 1 rfl rfl (hX9_endBuilds.at 26 rfl rfl) ?_
    exact os_ofM (os_iret (Nat.le_of_ble_eq_true rfl) (Nat.le_of_ble_eq_true rfl) (hX9_endBuilds.at 27 rfl rfl).1)
  · refine os_iload_n (i := 1) (q := 1) (v := l1) 1 rfl rfl (hX9_endBuilds.at 14 rfl rfl) ?_
    refine os_aload_n (i := 0) (q := 0) (v := l0) 0 rfl rfl (hX9_endBuilds.at 15 rfl rfl) ?_
    refine os_getR fX9_71 (hX9_endBuilds.at 16 rfl rfl) (fun x4 => ?_)
    refine os_iload_n (i := 2) (q := 2) (v := l2) 2 rfl rfl (hX9_endBuilds.at 17 rfl rfl) ?_
    refine os_callV (cis := [5]) (b := x4) (As := [.int l2]) (st := [.int l1]) (st' := (fun r => .int r :: [.int l1])) sl5_X5_disbandSurplus_X5_disbandSurplus mdX5_disbandSurplus wd1509 wd1510 (sX5_disbandSurplus N x4 l2) rfl rfl (fun _ => rfl) (Nat.le_of_ble_eq_true rfl) (Nat.le_of_ble_eq_true rfl) (Nat.le_of_ble_eq_true rfl) rfl (Nat.le_of_ble_eq_true rfl) rfl (Nat.le_of_ble_eq_true rfl) (hX9_endBuilds.at 18 rfl rfl) (fun x5 => ?_)
    refine os_iadd (hX9_endBuilds.at 19 rfl rfl) ?_
    refine os_istore_n (i := 1) (q := 1) rfl (lv' := [(1, .int (l1 + x5)), (0, .ref l0), (2, .int l2)]) (Nat.le_of_ble_eq_true rfl) rfl (hX9_endBuilds.at 20 rfl rfl) ?_
    refine os_iinc (i := 2) (d := 1) (x := l2) (v := (1 : Int32)) (lv' := [(2, .int (l2 + (1 : Int32))), (1, .int (l1 + x5)), (0, .ref l0)]) 2 rfl rfl (Nat.le_of_ble_eq_true rfl) rfl (hX9_endBuilds.at 21 rfl rfl) ?_
    refine os_goto (off := (-25)) (tgt := 13) rfl (hX9_endBuilds.at 22 rfl rfl) ?_
    exact osW.sub [2, 1, 0] rfl (g13 l0 (l1 + x5) (l2 + (1 : Int32)))
set_option maxRecDepth 100000 in
set_option maxHeartbeats 4000000 in
theorem sX9_endBuilds_13 (N : Nat) (l0 : Nat) (l1 : Int32) (l2 : Int32) : osW (osFinT (fun r : Int32 => some (.int r)) 1 6) yX9_endBuilds cX9_endBuilds 3 (some .int) [] { frames := 7, cells := 1, slots := 6, locals := 124 } 1 6 13 [(0, .ref l0), (1, .int l1), (2, .int l2)] [] (qX9_endBuilds_13 N (l0, l1, l2)) :=
  osloop_W (lvf := fun p => [(0, .ref p.1), (1, .int p.2.1), (2, .int p.2.2)]) (stf := fun p => []) (fun ih g p => tX9_endBuilds_13 N ih (fun l0 l1 l2 => g (l0, l1, l2)) p.1 p.2.1 p.2.2) N (l0, l1, l2)
set_option maxRecDepth 100000 in
set_option maxHeartbeats 4000000 in
theorem sX9_endBuilds (N : Nat) (l0 : Nat) : osMetT yX9_endBuilds cX9_endBuilds 3 (some .int) 7 124 1 6 (fun r : Int32 => some (.int r)) [.ref l0] (qX9_endBuilds N l0) := by
  refine osMetT.of plX9 (Nat.le_of_ble_eq_true rfl) (osW.rw (lv2 := [(0, .ref l0)]) ?_ rfl rfl rfl)
  unfold qX9_endBuilds
  refine os_aload_n (i := 0) (q := 0) (v := l0) 0 rfl rfl (hX9_endBuilds.at 0 rfl rfl) ?_
  refine os_iconst (i := 2) (v := (2 : Int32)) rfl (hX9_endBuilds.at 1 rfl rfl) ?_
  refine os_callVT (cis := [7]) (b := l0) (As := [.int (2 : Int32)]) (st := []) (st' := (fun _ => [])) sl7_X9_requirePhase_X9_requirePhase mdX9_requirePhase wd1281 wd1283 (sX9_requirePhase N l0 (2 : Int32)) rfl rfl (fun _ => rfl) (Nat.le_of_ble_eq_true rfl) (Nat.le_of_ble_eq_true rfl) (Nat.le_of_ble_eq_true rfl) rfl (Nat.le_of_ble_eq_true rfl) rfl (Nat.le_of_ble_eq_true rfl) (Nat.le_of_ble_eq_true rfl) (Nat.le_of_ble_eq_true rfl) (hX9_endBuilds.at 2 rfl rfl) (fun _ => ?_)
  refine os_aload_n (i := 0) (q := 0) (v := l0) 0 rfl rfl (hX9_endBuilds.at 3 rfl rfl) ?_
  refine os_callV (cis := [7]) (b := l0) (As := []) (st := []) (st' := (fun _ => [])) sl7_X9_remember_X9_remember mdX9_remember wd1395 wd1397 (sX9_remember N l0 ) rfl rfl (fun _ => rfl) (Nat.le_of_ble_eq_true rfl) (Nat.le_of_ble_eq_true rfl) (Nat.le_of_ble_eq_true rfl) rfl (Nat.le_of_ble_eq_true rfl) rfl (Nat.le_of_ble_eq_true rfl) (hX9_endBuilds.at 4 rfl rfl) (fun _ => ?_)
  refine os_iconst (i := 0) (v := (0 : Int32)) rfl (hX9_endBuilds.at 5 rfl rfl) ?_
  refine os_istore_n (i := 1) (q := 1) rfl (lv' := [(1, .int (0 : Int32)), (0, .ref l0)]) (Nat.le_of_ble_eq_true rfl) rfl (hX9_endBuilds.at 6 rfl rfl) ?_
  refine os_iconst (i := 0) (v := (0 : Int32)) rfl (hX9_endBuilds.at 7 rfl rfl) ?_
  refine os_istore_n (i := 2) (q := 2) rfl (lv' := [(2, .int (0 : Int32)), (1, .int (0 : Int32)), (0, .ref l0)]) (Nat.le_of_ble_eq_true rfl) rfl (hX9_endBuilds.at 8 rfl rfl) ?_
  exact osW.sub [2, 1, 0] rfl (sX9_endBuilds_13 N l0 (0 : Int32) (0 : Int32))
-- X9_load
def KX9_load : List (Nat × Nat × Instr) := [(0, 1, .aload_n 0), (1, 1, .iload_n 1), (2, 1, .iconst 0), (3, 3, .invokevirtual 89), (6, 1, .aload_n 0), (7, 1, .iconst 0), (8, 3, .putfield 13), (11, 1, .aload_n 0), (12, 3, .getfield 33), (15, 1, .aload_n 0), (16, 3, .getfield 9), (19, 1, .iload_n 1), (20, 1, .aload_n 0), (21, 3, .getfield 67), (24, 1, .aload_n 0), (25, 3, .getfield 75), (28, 3, .invokevirtual 93), (31, 1, .istore_n 2), (32, 1, .aload_n 0), (33, 1, .aload_n 0), (34, 3, .getfield 33), (37, 3, .invokevirtual 97), (40, 1, .iload_n 2), (41, 3, .ifCond .ne 13), (44, 3, .new 78), (47, 1, .dup), (48, 2, .ldc 101), (50, 3, .invokespecial 82), (53, 1, .athrow), (54, 1, .aload_n 0), (55, 3, .getfield 67), (58, 1, .astore_n 3), (59, 1, .aload_n 0), (60, 1, .aload_n 0), (61, 3, .getfield 63), (64, 3, .putfield 67), (67, 1, .aload_n 0), (68, 1, .aload_n 3), (69, 3, .putfield 63), (72, 1, .aload_n 0), (73, 3, .invokevirtual 103), (76, 1, .aload_n 0), (77, 1, .iconst 0), (78, 3, .putfield 57), (81, 1, .aload_n 0), (82, 3, .getfield 71), (85, 3, .invokevirtual 106), (88, 1, .ireturn)]
theorem hX9_load : osDs cX9_load KX9_load := by
  show ∀ q ∈ KX9_load, decode cX9_load q.1 = .ok (q.2.2, q.2.1)
  decide +kernel
def qX9_load (N : Nat) (l0 : Nat) (l1 : Int32) : osM (Nat ⊕ Int32) := osbindT (osrecv [7] l0 (qX9_requireLength N l0 l1 (0 : Int32))) fun _ => osbind (osput [7] 1 l0 (.int (0 : Int32))) fun _ => osbind (osgR [7] 5 l0) fun x1 => osbind (osgR [7] 0 l0) fun x2 => osbind (osgR [7] 11 l0) fun x3 => osbind (osgR [7] 13 l0) fun x4 => osbind (osrecv [3] x1 (qX3_readMap N x1 x2 l1 x3 x4)) fun x5 => osbind (osgR [7] 5 l0) fun x6 => osbind (osrecv [7] l0 (qX9_noteError N l0 x6)) fun _ => osite (x5 = 0) (osthrow 0) (osbind (osgR [7] 11 l0) fun x7 => osbind (osgR [7] 10 l0) fun x8 => osbind (osput [7] 11 l0 (.ref x8)) fun _ => osbind (osput [7] 10 l0 (.ref x7)) fun _ => osbind (osrecv [7] l0 (qX9_adoptDraft N l0)) fun _ => osbind (osput [7] 9 l0 (.int (0 : Int32))) fun _ => osbind (osgR [7] 12 l0) fun x9 => osbind (osrecv [5] x9 (qX5_countAllUnits N x9)) fun x10 => osRt (osret x10))
set_option maxRecDepth 100000 in
set_option maxHeartbeats 4000000 in
theorem sX9_load (N : Nat) (l0 : Nat) (l1 : Int32) : osMetT yX9_load cX9_load 4 (some .int) 7 164 2 12 (fun r : Int32 => some (.int r)) [.ref l0, .int l1] (qX9_load N l0 l1) := by
  refine osMetT.of plX9 (Nat.le_of_ble_eq_true rfl) (osW.rw (lv2 := [(0, .ref l0), (1, .int l1)]) ?_ rfl rfl rfl)
  unfold qX9_load
  refine os_aload_n (i := 0) (q := 0) (v := l0) 0 rfl rfl (hX9_load.at 0 rfl rfl) ?_
  refine os_iload_n (i := 1) (q := 1) (v := l1) 1 rfl rfl (hX9_load.at 1 rfl rfl) ?_
  refine os_iconst (i := 0) (v := (0 : Int32)) rfl (hX9_load.at 2 rfl rfl) ?_
  refine os_callVT (cis := [7]) (b := l0) (As := [.int l1, .int (0 : Int32)]) (st := []) (st' := (fun _ => [])) sl7_X9_requireLength_X9_requireLength mdX9_requireLength wd622 wd624 (sX9_requireLength N l0 l1 (0 : Int32)) rfl rfl (fun _ => rfl) (Nat.le_of_ble_eq_true rfl) (Nat.le_of_ble_eq_true rfl) (Nat.le_of_ble_eq_true rfl) rfl (Nat.le_of_ble_eq_true rfl) rfl (Nat.le_of_ble_eq_true rfl) (Nat.le_of_ble_eq_true rfl) (Nat.le_of_ble_eq_true rfl) (hX9_load.at 3 rfl rfl) (fun _ => ?_)
  refine os_aload_n (i := 0) (q := 0) (v := l0) 0 rfl rfl (hX9_load.at 4 rfl rfl) ?_
  refine os_iconst (i := 0) (v := (0 : Int32)) rfl (hX9_load.at 5 rfl rfl) ?_
  refine os_put fX9_13 rfl rfl (hX9_load.at 6 rfl rfl) ?_
  refine os_aload_n (i := 0) (q := 0) (v := l0) 0 rfl rfl (hX9_load.at 7 rfl rfl) ?_
  refine os_getR fX9_33 (hX9_load.at 8 rfl rfl) (fun x1 => ?_)
  refine os_aload_n (i := 0) (q := 0) (v := l0) 0 rfl rfl (hX9_load.at 9 rfl rfl) ?_
  refine os_getR fX9_9 (hX9_load.at 10 rfl rfl) (fun x2 => ?_)
  refine os_iload_n (i := 1) (q := 1) (v := l1) 1 rfl rfl (hX9_load.at 11 rfl rfl) ?_
  refine os_aload_n (i := 0) (q := 0) (v := l0) 0 rfl rfl (hX9_load.at 12 rfl rfl) ?_
  refine os_getR fX9_67 (hX9_load.at 13 rfl rfl) (fun x3 => ?_)
  refine os_aload_n (i := 0) (q := 0) (v := l0) 0 rfl rfl (hX9_load.at 14 rfl rfl) ?_
  refine os_getR fX9_75 (hX9_load.at 15 rfl rfl) (fun x4 => ?_)
  refine os_callV (cis := [3]) (b := x1) (As := [.ref x2, .int l1, .ref x3, .ref x4]) (st := []) (st' := (fun r => .int r :: [])) sl3_X3_readMap_X3_readMap mdX3_readMap wd642 wd643 (sX3_readMap N x1 x2 l1 x3 x4) rfl rfl (fun _ => rfl) (Nat.le_of_ble_eq_true rfl) (Nat.le_of_ble_eq_true rfl) (Nat.le_of_ble_eq_true rfl) rfl (Nat.le_of_ble_eq_true rfl) rfl (Nat.le_of_ble_eq_true rfl) (hX9_load.at 16 rfl rfl) (fun x5 => ?_)
  refine os_istore_n (i := 2) (q := 2) rfl (lv' := [(2, .int x5), (0, .ref l0), (1, .int l1)]) (Nat.le_of_ble_eq_true rfl) rfl (hX9_load.at 17 rfl rfl) ?_
  refine os_aload_n (i := 0) (q := 0) (v := l0) 1 rfl rfl (hX9_load.at 18 rfl rfl) ?_
  refine os_aload_n (i := 0) (q := 0) (v := l0) 1 rfl rfl (hX9_load.at 19 rfl rfl) ?_
  refine os_getR fX9_33 (hX9_load.at 20 rfl rfl) (fun x6 => ?_)
  refine os_callV (cis := [7]) (b := l0) (As := [.ref x6]) (st := []) (st' := (fun _ => [])) sl7_X9_noteError_X9_noteError mdX9_noteError wd821 wd823 (sX9_noteError N l0 x6) rfl rfl (fun _ => rfl) (Nat.le_of_ble_eq_true rfl) (Nat.le_of_ble_eq_true rfl) (Nat.le_of_ble_eq_true rfl) rfl (Nat.le_of_ble_eq_true rfl) rfl (Nat.le_of_ble_eq_true rfl) (hX9_load.at 21 rfl rfl) (fun _ => ?_)
  refine os_iload_n (i := 2) (q := 2) (v := x5) 0 rfl rfl (hX9_load.at 22 rfl rfl) ?_
  refine os_if_ne (off := 13) (tgt := 54) rfl (hX9_load.at 23 rfl rfl) ?_ ?_
  · refine os_aload_n (i := 0) (q := 0) (v := l0) 1 rfl rfl (hX9_load.at 29 rfl rfl) ?_
    refine os_getR fX9_67 (hX9_load.at 30 rfl rfl) (fun x7 => ?_)
    refine os_astore_n (i := 3) (q := 3) rfl (lv' := [(3, .ref x7), (2, .int x5), (0, .ref l0), (1, .int l1)]) (Nat.le_of_ble_eq_true rfl) rfl (hX9_load.at 31 rfl rfl) ?_
    refine os_aload_n (i := 0) (q := 0) (v := l0) 2 rfl rfl (hX9_load.at 32 rfl rfl) ?_
    refine os_aload_n (i := 0) (q := 0) (v := l0) 2 rfl rfl (hX9_load.at 33 rfl rfl) ?_
    refine os_getR fX9_63 (hX9_load.at 34 rfl rfl) (fun x8 => ?_)
    refine os_put fX9_67 rfl rfl (hX9_load.at 35 rfl rfl) ?_
    refine os_aload_n (i := 0) (q := 0) (v := l0) 2 rfl rfl (hX9_load.at 36 rfl rfl) ?_
    refine os_aload_n (i := 3) (q := 3) (v := x7) 0 rfl rfl (hX9_load.at 37 rfl rfl) ?_
    refine os_put fX9_63 rfl rfl (hX9_load.at 38 rfl rfl) ?_
    refine os_aload_n (i := 0) (q := 0) (v := l0) 2 rfl rfl (hX9_load.at 39 rfl rfl) ?_
    refine os_callV (cis := [7]) (b := l0) (As := []) (st := []) (st' := (fun _ => [])) sl7_X9_adoptDraft_X9_adoptDraft mdX9_adoptDraft wd826 wd828 (sX9_adoptDraft N l0 ) rfl rfl (fun _ => rfl) (Nat.le_of_ble_eq_true rfl) (Nat.le_of_ble_eq_true rfl) (Nat.le_of_ble_eq_true rfl) rfl (Nat.le_of_ble_eq_true rfl) rfl (Nat.le_of_ble_eq_true rfl) (hX9_load.at 40 rfl rfl) (fun _ => ?_)
    refine os_aload_n (i := 0) (q := 0) (v := l0) 2 rfl rfl (hX9_load.at 41 rfl rfl) ?_
    refine os_iconst (i := 0) (v := (0 : Int32)) rfl (hX9_load.at 42 rfl rfl) ?_
    refine os_put fX9_57 rfl rfl (hX9_load.at 43 rfl rfl) ?_
    refine os_aload_n (i := 0) (q := 0) (v := l0) 2 rfl rfl (hX9_load.at 44 rfl rfl) ?_
    refine os_getR fX9_71 (hX9_load.at 45 rfl rfl) (fun x9 => ?_)
    refine os_callV (cis := [5]) (b := x9) (As := []) (st := []) (st' := (fun r => .int r :: [])) sl5_X5_countAllUnits_X5_countAllUnits mdX5_countAllUnits wd830 wd800 (sX5_countAllUnits N x9 ) rfl rfl (fun _ => rfl) (Nat.le_of_ble_eq_true rfl) (Nat.le_of_ble_eq_true rfl) (Nat.le_of_ble_eq_true rfl) rfl (Nat.le_of_ble_eq_true rfl) rfl (Nat.le_of_ble_eq_true rfl) (hX9_load.at 46 rfl rfl) (fun x10 => ?_)
    exact os_ofM (os_iret (Nat.le_of_ble_eq_true rfl) (Nat.le_of_ble_eq_true rfl) (hX9_load.at 47 rfl rfl).1)
  · exact xth82 (j := 0) (jt := 18) (q := ("OrderSettler", 101, "the map has an error")) rfl rfl rfl rfl (hX9_load.at 24 rfl rfl) (hX9_load.at 25 rfl rfl) (Or.inl ⟨by decide, (hX9_load.at 26 rfl rfl)⟩) (hX9_load.at 27 rfl rfl) (hX9_load.at 28 rfl rfl) (Nat.le_of_ble_eq_true rfl) (Nat.le_of_ble_eq_true rfl) (Nat.le_of_ble_eq_true rfl) (Nat.le_of_ble_eq_true rfl) (Nat.le_of_ble_eq_true rfl) (Nat.le_of_ble_eq_true rfl)
-- X9_tell
def KX9_tell : List (Nat × Nat × Instr) := [(0, 1, .aload_n 0), (1, 1, .iload_n 1), (2, 1, .iconst 0), (3, 3, .invokevirtual 89), (6, 1, .aload_n 0), (7, 1, .iconst 0), (8, 3, .putfield 13), (11, 1, .aload_n 0), (12, 3, .getfield 75), (15, 1, .aload_n 0), (16, 3, .getfield 71), (19, 3, .invokevirtual 110), (22, 1, .aload_n 0), (23, 3, .getfield 40), (26, 1, .aload_n 0), (27, 3, .getfield 9), (30, 1, .iload_n 1), (31, 1, .aload_n 0), (32, 3, .getfield 63), (35, 1, .aload_n 0), (36, 3, .getfield 75), (39, 3, .invokevirtual 114), (42, 1, .istore_n 2), (43, 1, .aload_n 0), (44, 1, .aload_n 0), (45, 3, .getfield 40), (48, 3, .invokevirtual 97), (51, 1, .iload_n 2), (52, 1, .iconst (-1)), (53, 3, .if_icmp .ne 13), (56, 3, .new 78), (59, 1, .dup), (60, 2, .ldc 118), (62, 3, .invokespecial 82), (65, 1, .athrow), (66, 1, .aload_n 0), (67, 3, .invokevirtual 103), (70, 1, .iload_n 2), (71, 1, .ireturn)]
theorem hX9_tell : osDs cX9_tell KX9_tell := by
  show ∀ q ∈ KX9_tell, decode cX9_tell q.1 = .ok (q.2.2, q.2.1)
  decide +kernel
def qX9_tell (N : Nat) (l0 : Nat) (l1 : Int32) : osM (Nat ⊕ Int32) := osbindT (osrecv [7] l0 (qX9_requireLength N l0 l1 (0 : Int32))) fun _ => osbind (osput [7] 1 l0 (.int (0 : Int32))) fun _ => osbind (osgR [7] 13 l0) fun x1 => osbind (osgR [7] 12 l0) fun x2 => osbind (osrecv [5] x1 (qX5_copyFrom N x1 x2)) fun _ => osbind (osgR [7] 6 l0) fun x3 => osbind (osgR [7] 0 l0) fun x4 => osbind (osgR [7] 10 l0) fun x5 => osbind (osgR [7] 13 l0) fun x6 => osbind (osrecv [6] x3 (qX7_readAll N x3 x4 l1 x5 x6)) fun x7 => osbind (osgR [7] 6 l0) fun x8 => osbind (osrecv [7] l0 (qX9_noteError N l0 x8)) fun _ => osite (x7 = (-1 : Int32)) (osthrow 0) (osbind (osrecv [7] l0 (qX9_adoptDraft N l0)) fun _ => osRt (osret x7))
set_option maxRecDepth 100000 in
set_option maxHeartbeats 4000000 in
theorem sX9_tell (N : Nat) (l0 : Nat) (l1 : Int32) : osMetT yX9_tell cX9_tell 3 (some .int) 7 167 2 12 (fun r : Int32 => some (.int r)) [.ref l0, .int l1] (qX9_tell N l0 l1) := by
  refine osMetT.of plX9 (Nat.le_of_ble_eq_true rfl) (osW.rw (lv2 := [(0, .ref l0), (1, .int l1)]) ?_ rfl rfl rfl)
  unfold qX9_tell
  refine os_aload_n (i := 0) (q := 0) (v := l0) 0 rfl rfl (hX9_tell.at 0 rfl rfl) ?_
  refine os_iload_n (i := 1) (q := 1) (v := l1) 1 rfl rfl (hX9_tell.at 1 rfl rfl) ?_
  refine os_iconst (i := 0) (v := (0 : Int32)) rfl (hX9_tell.at 2 rfl rfl) ?_
  refine os_callVT (cis := [7]) (b := l0) (As := [.int l1, .int (0 : Int32)]) (st := []) (st' := (fun _ => [])) sl7_X9_requireLength_X9_requireLength mdX9_requireLength wd622 wd624 (sX9_requireLength N l0 l1 (0 : Int32)) rfl rfl (fun _ => rfl) (Nat.le_of_ble_eq_true rfl) (Nat.le_of_ble_eq_true rfl) (Nat.le_of_ble_eq_true rfl) rfl (Nat.le_of_ble_eq_true rfl) rfl (Nat.le_of_ble_eq_true rfl) (Nat.le_of_ble_eq_true rfl) (Nat.le_of_ble_eq_true rfl) (hX9_tell.at 3 rfl rfl) (fun _ => ?_)
  refine os_aload_n (i := 0) (q := 0) (v := l0) 0 rfl rfl (hX9_tell.at 4 rfl rfl) ?_
  refine os_iconst (i := 0) (v := (0 : Int32)) rfl (hX9_tell.at 5 rfl rfl) ?_
  refine os_put fX9_13 rfl rfl (hX9_tell.at 6 rfl rfl) ?_
  refine os_aload_n (i := 0) (q := 0) (v := l0) 0 rfl rfl (hX9_tell.at 7 rfl rfl) ?_
  refine os_getR fX9_75 (hX9_tell.at 8 rfl rfl) (fun x1 => ?_)
  refine os_aload_n (i := 0) (q := 0) (v := l0) 0 rfl rfl (hX9_tell.at 9 rfl rfl) ?_
  refine os_getR fX9_71 (hX9_tell.at 10 rfl rfl) (fun x2 => ?_)
  refine os_callV (cis := [5]) (b := x1) (As := [.ref x2]) (st := []) (st' := (fun _ => [])) sl5_X5_copyFrom_X5_copyFrom mdX5_copyFrom wd1102 wd1103 (sX5_copyFrom N x1 x2) rfl rfl (fun _ => rfl) (Nat.le_of_ble_eq_true rfl) (Nat.le_of_ble_eq_true rfl) (Nat.le_of_ble_eq_true rfl) rfl (Nat.le_of_ble_eq_true rfl) rfl (Nat.le_of_ble_eq_true rfl) (hX9_tell.at 11 rfl rfl) (fun _ => ?_)
  refine os_aload_n (i := 0) (q := 0) (v := l0) 0 rfl rfl (hX9_tell.at 12 rfl rfl) ?_
  refine os_getR fX9_40 (hX9_tell.at 13 rfl rfl) (fun x3 => ?_)
  refine os_aload_n (i := 0) (q := 0) (v := l0) 0 rfl rfl (hX9_tell.at 14 rfl rfl) ?_
  refine os_getR fX9_9 (hX9_tell.at 15 rfl rfl) (fun x4 => ?_)
  refine os_iload_n (i := 1) (q := 1) (v := l1) 1 rfl rfl (hX9_tell.at 16 rfl rfl) ?_
  refine os_aload_n (i := 0) (q := 0) (v := l0) 0 rfl rfl (hX9_tell.at 17 rfl rfl) ?_
  refine os_getR fX9_63 (hX9_tell.at 18 rfl rfl) (fun x5 => ?_)
  refine os_aload_n (i := 0) (q := 0) (v := l0) 0 rfl rfl (hX9_tell.at 19 rfl rfl) ?_
  refine os_getR fX9_75 (hX9_tell.at 20 rfl rfl) (fun x6 => ?_)
  refine os_callV (cis := [6]) (b := x3) (As := [.ref x4, .int l1, .ref x5, .ref x6]) (st := []) (st' := (fun r => .int r :: [])) sl6_X7_readAll_X7_readAll mdX7_readAll wd1111 wd1112 (sX7_readAll N x3 x4 l1 x5 x6) rfl rfl (fun _ => rfl) (Nat.le_of_ble_eq_true rfl) (Nat.le_of_ble_eq_true rfl) (Nat.le_of_ble_eq_true rfl) rfl (Nat.le_of_ble_eq_true rfl) rfl (Nat.le_of_ble_eq_true rfl) (hX9_tell.at 21 rfl rfl) (fun x7 => ?_)
  refine os_istore_n (i := 2) (q := 2) rfl (lv' := [(2, .int x7), (0, .ref l0), (1, .int l1)]) (Nat.le_of_ble_eq_true rfl) rfl (hX9_tell.at 22 rfl rfl) ?_
  refine os_aload_n (i := 0) (q := 0) (v := l0) 1 rfl rfl (hX9_tell.at 23 rfl rfl) ?_
  refine os_aload_n (i := 0) (q := 0) (v := l0) 1 rfl rfl (hX9_tell.at 24 rfl rfl) ?_
  refine os_getR fX9_40 (hX9_tell.at 25 rfl rfl) (fun x8 => ?_)
  refine os_callV (cis := [7]) (b := l0) (As := [.ref x8]) (st := []) (st' := (fun _ => [])) sl7_X9_noteError_X9_noteError mdX9_noteError wd821 wd823 (sX9_noteError N l0 x8) rfl rfl (fun _ => rfl) (Nat.le_of_ble_eq_true rfl) (Nat.le_of_ble_eq_true rfl) (Nat.le_of_ble_eq_true rfl) rfl (Nat.le_of_ble_eq_true rfl) rfl (Nat.le_of_ble_eq_true rfl) (hX9_tell.at 26 rfl rfl) (fun _ => ?_)
  refine os_iload_n (i := 2) (q := 2) (v := x7) 0 rfl rfl (hX9_tell.at 27 rfl rfl) ?_
  refine os_iconst (i := (-1)) (v := (-1 : Int32)) rfl (hX9_tell.at 28 rfl rfl) ?_
  refine os_icmp_ne (off := 13) (tgt := 66) rfl (hX9_tell.at 29 rfl rfl) ?_ ?_
  · refine os_aload_n (i := 0) (q := 0) (v := l0) 1 rfl rfl (hX9_tell.at 35 rfl rfl) ?_
    refine os_callV (cis := [7]) (b := l0) (As := []) (st := []) (st' := (fun _ => [])) sl7_X9_adoptDraft_X9_adoptDraft mdX9_adoptDraft wd826 wd828 (sX9_adoptDraft N l0 ) rfl rfl (fun _ => rfl) (Nat.le_of_ble_eq_true rfl) (Nat.le_of_ble_eq_true rfl) (Nat.le_of_ble_eq_true rfl) rfl (Nat.le_of_ble_eq_true rfl) rfl (Nat.le_of_ble_eq_true rfl) (hX9_tell.at 36 rfl rfl) (fun _ => ?_)
    refine os_iload_n (i := 2) (q := 2) (v := x7) 0 rfl rfl (hX9_tell.at 37 rfl rfl) ?_
    exact os_ofM (os_iret (Nat.le_of_ble_eq_true rfl) (Nat.le_of_ble_eq_true rfl) (hX9_tell.at 38 rfl rfl).1)
  · exact xth82 (j := 0) (jt := 19) (q := ("OrderSettler", 118, "the text has an error")) rfl rfl rfl rfl (hX9_tell.at 30 rfl rfl) (hX9_tell.at 31 rfl rfl) (Or.inl ⟨by decide, (hX9_tell.at 32 rfl rfl)⟩) (hX9_tell.at 33 rfl rfl) (hX9_tell.at 34 rfl rfl) (Nat.le_of_ble_eq_true rfl) (Nat.le_of_ble_eq_true rfl) (Nat.le_of_ble_eq_true rfl) (Nat.le_of_ble_eq_true rfl) (Nat.le_of_ble_eq_true rfl) (Nat.le_of_ble_eq_true rfl)
-- X9_settle
def KX9_settle : List (Nat × Nat × Instr) := [(0, 1, .aload_n 0), (1, 1, .iconst 0), (2, 3, .invokevirtual 210), (5, 1, .aload_n 0), (6, 3, .invokevirtual 222), (9, 1, .aload_n 0), (10, 3, .getfield 47), (13, 1, .aload_n 0), (14, 3, .getfield 63), (17, 1, .aload_n 0), (18, 3, .getfield 71), (21, 3, .invokevirtual 225), (24, 1, .aload_n 0), (25, 3, .getfield 75), (28, 1, .aload_n 0), (29, 3, .getfield 71), (32, 3, .invokevirtual 110), (35, 1, .aload_n 0), (36, 3, .getfield 71), (39, 1, .aload_n 0), (40, 3, .getfield 75), (43, 1, .aload_n 0), (44, 3, .getfield 47), (47, 3, .invokevirtual 229), (50, 1, .aload_n 0), (51, 3, .getfield 47), (54, 3, .getfield 233), (57, 3, .ifCond .ne 17), (60, 1, .aload_n 0), (61, 3, .getfield 71), (64, 1, .aload_n 0), (65, 3, .getfield 63), (68, 3, .invokevirtual 236), (71, 3, .goto 11), (74, 1, .aload_n 0), (75, 3, .getfield 71), (78, 1, .iconst 1), (79, 3, .putfield 201), (82, 1, .aload_n 0), (83, 3, .getfield 47), (86, 3, .getfield 240), (89, 3, .invokestatic 243), (92, 1, .ireturn)]
theorem hX9_settle : osDs cX9_settle KX9_settle := by
  show ∀ q ∈ KX9_settle, decode cX9_settle q.1 = .ok (q.2.2, q.2.1)
  decide +kernel
def qX9_settle_82 (N : Nat) (l0 : Nat) : osM (Nat ⊕ Int32) := osbind (osgR [7] 7 l0) fun x1 => osbind (osgI [1] 5 x1) fun x2 => osbind (qJ6_bitCount_0f7a4 N x2) fun x3 => osRt (osret x3)
def qX9_settle (N : Nat) (l0 : Nat) : osM (Nat ⊕ Int32) := osbindT (osrecv [7] l0 (qX9_requirePhase N l0 (0 : Int32))) fun _ => osbind (osrecv [7] l0 (qX9_remember N l0)) fun _ => osbind (osgR [7] 7 l0) fun x1 => osbind (osgR [7] 10 l0) fun x2 => osbind (osgR [7] 12 l0) fun x3 => osbind (osrecv [1] x1 (qX1_decide N x1 x2 x3)) fun _ => osbind (osgR [7] 13 l0) fun x4 => osbind (osgR [7] 12 l0) fun x5 => osbind (osrecv [5] x4 (qX5_copyFrom N x4 x5)) fun _ => osbind (osgR [7] 12 l0) fun x6 => osbind (osgR [7] 13 l0) fun x7 => osbind (osgR [7] 7 l0) fun x8 => osbind (osrecv [5] x6 (qX5_carryOut N x6 x7 x8)) fun _ => osbind (osgR [7] 7 l0) fun x9 => osbind (osgI [1] 6 x9) fun x10 => osite (x10 = 0) (osbind (osgR [7] 12 l0) fun x12 => osbind (osgR [7] 10 l0) fun x13 => osbind (osrecv [5] x12 (qX5_closeTurn N x12 x13)) fun _ => qX9_settle_82 N l0) (osbind (osgR [7] 12 l0) fun x11 => osbind (osput [5] 0 x11 (.int (1 : Int32))) fun _ => qX9_settle_82 N l0)
set_option maxRecDepth 100000 in
set_option maxHeartbeats 4000000 in
theorem sX9_settle_82 (N : Nat) (l0 : Nat) : osW (osFinT (fun r : Int32 => some (.int r)) 1 6) yX9_settle cX9_settle 1 (some .int) [] { frames := 7, cells := 1, slots := 6, locals := 160 } 1 6 82 [(0, .ref l0)] [] (qX9_settle_82 N l0) := by
  unfold qX9_settle_82
  refine os_aload_n (i := 0) (q := 0) (v := l0) 0 rfl rfl (hX9_settle.at 38 rfl rfl) ?_
  refine os_getR fX9_47 (hX9_settle.at 39 rfl rfl) (fun x1 => ?_)
  refine os_getI fX9_240 (hX9_settle.at 40 rfl rfl) (fun x2 => ?_)
  refine os_callS (As := [.int x2]) (st := []) (st' := (fun r => .int r :: [])) mdJ6_bitCount_0f7a4 wd1426 wd1243 (sJ6_bitCount_0f7a4 N x2) rfl rfl (fun _ => rfl) (Nat.le_of_ble_eq_true rfl) (Nat.le_of_ble_eq_true rfl) (Nat.le_of_ble_eq_true rfl) rfl (Nat.le_of_ble_eq_true rfl) rfl (Nat.le_of_ble_eq_true rfl) (hX9_settle.at 41 rfl rfl) (fun x3 => ?_)
  exact os_ofM (os_iret (Nat.le_of_ble_eq_true rfl) (Nat.le_of_ble_eq_true rfl) (hX9_settle.at 42 rfl rfl).1)
set_option maxRecDepth 100000 in
set_option maxHeartbeats 4000000 in
theorem sX9_settle (N : Nat) (l0 : Nat) : osMetT yX9_settle cX9_settle 1 (some .int) 7 160 1 6 (fun r : Int32 => some (.int r)) [.ref l0] (qX9_settle N l0) := by
  refine osMetT.of plX9 (Nat.le_of_ble_eq_true rfl) (osW.rw (lv2 := [(0, .ref l0)]) ?_ rfl rfl rfl)
  unfold qX9_settle
  refine os_aload_n (i := 0) (q := 0) (v := l0) 0 rfl rfl (hX9_settle.at 0 rfl rfl) ?_
  refine os_iconst (i := 0) (v := (0 : Int32)) rfl (hX9_settle.at 1 rfl rfl) ?_
  refine os_callVT (cis := [7]) (b := l0) (As := [.int (0 : Int32)]) (st := []) (st' := (fun _ => [])) sl7_X9_requirePhase_X9_requirePhase mdX9_requirePhase wd1281 wd1283 (sX9_requirePhase N l0 (0 : Int32)) rfl rfl (fun _ => rfl) (Nat.le_of_ble_eq_true rfl) (Nat.le_of_ble_eq_true rfl) (Nat.le_of_ble_eq_true rfl) rfl (Nat.le_of_ble_eq_true rfl) rfl (Nat.le_of_ble_eq_true rfl) (Nat.le_of_ble_eq_true rfl) (Nat.le_of_ble_eq_true rfl) (hX9_settle.at 2 rfl rfl) (fun _ => ?_)
  refine os_aload_n (i := 0) (q := 0) (v := l0) 0 rfl rfl (hX9_settle.at 3 rfl rfl) ?_
  refine os_callV (cis := [7]) (b := l0) (As := []) (st := []) (st' := (fun _ => [])) sl7_X9_remember_X9_remember mdX9_remember wd1395 wd1397 (sX9_remember N l0 ) rfl rfl (fun _ => rfl) (Nat.le_of_ble_eq_true rfl) (Nat.le_of_ble_eq_true rfl) (Nat.le_of_ble_eq_true rfl) rfl (Nat.le_of_ble_eq_true rfl) rfl (Nat.le_of_ble_eq_true rfl) (hX9_settle.at 4 rfl rfl) (fun _ => ?_)
  refine os_aload_n (i := 0) (q := 0) (v := l0) 0 rfl rfl (hX9_settle.at 5 rfl rfl) ?_
  refine os_getR fX9_47 (hX9_settle.at 6 rfl rfl) (fun x1 => ?_)
  refine os_aload_n (i := 0) (q := 0) (v := l0) 0 rfl rfl (hX9_settle.at 7 rfl rfl) ?_
  refine os_getR fX9_63 (hX9_settle.at 8 rfl rfl) (fun x2 => ?_)
  refine os_aload_n (i := 0) (q := 0) (v := l0) 0 rfl rfl (hX9_settle.at 9 rfl rfl) ?_
  refine os_getR fX9_71 (hX9_settle.at 10 rfl rfl) (fun x3 => ?_)
  refine os_callV (cis := [1]) (b := x1) (As := [.ref x2, .ref x3]) (st := []) (st' := (fun _ => [])) sl1_X1_decide_X1_decide mdX1_decide wd1290 wd1291 (sX1_decide N x1 x2 x3) rfl rfl (fun _ => rfl) (Nat.le_of_ble_eq_true rfl) (Nat.le_of_ble_eq_true rfl) (Nat.le_of_ble_eq_true rfl) rfl (Nat.le_of_ble_eq_true rfl) rfl (Nat.le_of_ble_eq_true rfl) (hX9_settle.at 11 rfl rfl) (fun _ => ?_)
  refine os_aload_n (i := 0) (q := 0) (v := l0) 0 rfl rfl (hX9_settle.at 12 rfl rfl) ?_
  refine os_getR fX9_75 (hX9_settle.at 13 rfl rfl) (fun x4 => ?_)
  refine os_aload_n (i := 0) (q := 0) (v := l0) 0 rfl rfl (hX9_settle.at 14 rfl rfl) ?_
  refine os_getR fX9_71 (hX9_settle.at 15 rfl rfl) (fun x5 => ?_)
  refine os_callV (cis := [5]) (b := x4) (As := [.ref x5]) (st := []) (st' := (fun _ => [])) sl5_X5_copyFrom_X5_copyFrom mdX5_copyFrom wd1102 wd1103 (sX5_copyFrom N x4 x5) rfl rfl (fun _ => rfl) (Nat.le_of_ble_eq_true rfl) (Nat.le_of_ble_eq_true rfl) (Nat.le_of_ble_eq_true rfl) rfl (Nat.le_of_ble_eq_true rfl) rfl (Nat.le_of_ble_eq_true rfl) (hX9_settle.at 16 rfl rfl) (fun _ => ?_)
  refine os_aload_n (i := 0) (q := 0) (v := l0) 0 rfl rfl (hX9_settle.at 17 rfl rfl) ?_
  refine os_getR fX9_71 (hX9_settle.at 18 rfl rfl) (fun x6 => ?_)
  refine os_aload_n (i := 0) (q := 0) (v := l0) 0 rfl rfl (hX9_settle.at 19 rfl rfl) ?_
  refine os_getR fX9_75 (hX9_settle.at 20 rfl rfl) (fun x7 => ?_)
  refine os_aload_n (i := 0) (q := 0) (v := l0) 0 rfl rfl (hX9_settle.at 21 rfl rfl) ?_
  refine os_getR fX9_47 (hX9_settle.at 22 rfl rfl) (fun x8 => ?_)
  refine os_callV (cis := [5]) (b := x6) (As := [.ref x7, .ref x8]) (st := []) (st' := (fun _ => [])) sl5_X5_carryOut_X5_carryOut mdX5_carryOut wd1399 wd1400 (sX5_carryOut N x6 x7 x8) rfl rfl (fun _ => rfl) (Nat.le_of_ble_eq_true rfl) (Nat.le_of_ble_eq_true rfl) (Nat.le_of_ble_eq_true rfl) rfl (Nat.le_of_ble_eq_true rfl) rfl (Nat.le_of_ble_eq_true rfl) (hX9_settle.at 23 rfl rfl) (fun _ => ?_)
  refine os_aload_n (i := 0) (q := 0) (v := l0) 0 rfl rfl (hX9_settle.at 24 rfl rfl) ?_
  refine os_getR fX9_47 (hX9_settle.at 25 rfl rfl) (fun x9 => ?_)
  refine os_getI fX9_233 (hX9_settle.at 26 rfl rfl) (fun x10 => ?_)
  refine os_if_ne (off := 17) (tgt := 74) rfl (hX9_settle.at 27 rfl rfl) ?_ ?_
  · refine os_aload_n (i := 0) (q := 0) (v := l0) 0 rfl rfl (hX9_settle.at 34 rfl rfl) ?_
    refine os_getR fX9_71 (hX9_settle.at 35 rfl rfl) (fun x11 => ?_)
    refine os_iconst (i := 1) (v := (1 : Int32)) rfl (hX9_settle.at 36 rfl rfl) ?_
    refine os_put fX9_201 rfl rfl (hX9_settle.at 37 rfl rfl) ?_
    exact osW.sub [0] rfl (sX9_settle_82 N l0)
  · refine os_aload_n (i := 0) (q := 0) (v := l0) 0 rfl rfl (hX9_settle.at 28 rfl rfl) ?_
    refine os_getR fX9_71 (hX9_settle.at 29 rfl rfl) (fun x12 => ?_)
    refine os_aload_n (i := 0) (q := 0) (v := l0) 0 rfl rfl (hX9_settle.at 30 rfl rfl) ?_
    refine os_getR fX9_63 (hX9_settle.at 31 rfl rfl) (fun x13 => ?_)
    refine os_callV (cis := [5]) (b := x12) (As := [.ref x13]) (st := []) (st' := (fun _ => [])) sl5_X5_closeTurn_X5_closeTurn mdX5_closeTurn wd1418 wd1419 (sX5_closeTurn N x12 x13) rfl rfl (fun _ => rfl) (Nat.le_of_ble_eq_true rfl) (Nat.le_of_ble_eq_true rfl) (Nat.le_of_ble_eq_true rfl) rfl (Nat.le_of_ble_eq_true rfl) rfl (Nat.le_of_ble_eq_true rfl) (hX9_settle.at 32 rfl rfl) (fun _ => ?_)
    refine os_goto (off := 11) (tgt := 82) rfl (hX9_settle.at 33 rfl rfl) ?_
    exact osW.sub [0] rfl (sX9_settle_82 N l0)
-- X9_foresee
def KX9_foresee : List (Nat × Nat × Instr) := [(0, 1, .aload_n 0), (1, 1, .iload_n 1), (2, 3, .invokevirtual 126), (5, 1, .aload_n 0), (6, 1, .iload_n 2), (7, 2, .bipush 6), (9, 3, .invokevirtual 129), (12, 1, .aload_n 0), (13, 1, .iconst 0), (14, 3, .invokevirtual 210), (17, 1, .aload_n 0), (18, 3, .getfield 47), (21, 1, .aload_n 0), (22, 3, .getfield 63), (25, 1, .aload_n 0), (26, 3, .getfield 71), (29, 3, .invokevirtual 225), (32, 1, .aload_n 0), (33, 3, .getfield 47), (36, 1, .iload_n 1), (37, 1, .iload_n 2), (38, 3, .invokevirtual 282), (41, 1, .ireturn)]
theorem hX9_foresee : osDs cX9_foresee KX9_foresee := by
  show ∀ q ∈ KX9_foresee, decode cX9_foresee q.1 = .ok (q.2.2, q.2.1)
  decide +kernel
def qX9_foresee (N : Nat) (l0 : Nat) (l1 : Int32) (l2 : Int32) : osM (Nat ⊕ Int32) := osbindT (osrecv [7] l0 (qX9_requireArea N l0 l1)) fun _ => osbindT (osrecv [7] l0 (qX9_requireReport N l0 l2 (6 : Int32))) fun _ => osbindT (osrecv [7] l0 (qX9_requirePhase N l0 (0 : Int32))) fun _ => osbind (osgR [7] 7 l0) fun x1 => osbind (osgR [7] 10 l0) fun x2 => osbind (osgR [7] 12 l0) fun x3 => osbind (osrecv [1] x1 (qX1_decide N x1 x2 x3)) fun _ => osbind (osgR [7] 7 l0) fun x4 => osbind (osrecv [1] x4 (qX1_explain N x4 l1 l2)) fun x5 => osRt (osret x5)
set_option maxRecDepth 100000 in
set_option maxHeartbeats 4000000 in
theorem sX9_foresee (N : Nat) (l0 : Nat) (l1 : Int32) (l2 : Int32) : osMetT yX9_foresee cX9_foresee 3 (some .int) 7 160 3 18 (fun r : Int32 => some (.int r)) [.ref l0, .int l1, .int l2] (qX9_foresee N l0 l1 l2) := by
  refine osMetT.of plX9 (Nat.le_of_ble_eq_true rfl) (osW.rw (lv2 := [(0, .ref l0), (1, .int l1), (2, .int l2)]) ?_ rfl rfl rfl)
  unfold qX9_foresee
  refine os_aload_n (i := 0) (q := 0) (v := l0) 0 rfl rfl (hX9_foresee.at 0 rfl rfl) ?_
  refine os_iload_n (i := 1) (q := 1) (v := l1) 1 rfl rfl (hX9_foresee.at 1 rfl rfl) ?_
  refine os_callVT (cis := [7]) (b := l0) (As := [.int l1]) (st := []) (st' := (fun _ => [])) sl7_X9_requireArea_X9_requireArea mdX9_requireArea wd1056 wd1058 (sX9_requireArea N l0 l1) rfl rfl (fun _ => rfl) (Nat.le_of_ble_eq_true rfl) (Nat.le_of_ble_eq_true rfl) (Nat.le_of_ble_eq_true rfl) rfl (Nat.le_of_ble_eq_true rfl) rfl (Nat.le_of_ble_eq_true rfl) (Nat.le_of_ble_eq_true rfl) (Nat.le_of_ble_eq_true rfl) (hX9_foresee.at 2 rfl rfl) (fun _ => ?_)
  refine os_aload_n (i := 0) (q := 0) (v := l0) 0 rfl rfl (hX9_foresee.at 3 rfl rfl) ?_
  refine os_iload_n (i := 2) (q := 2) (v := l2) 2 rfl rfl (hX9_foresee.at 4 rfl rfl) ?_
  refine os_bipush (i := 6) (v := (6 : Int32)) rfl (hX9_foresee.at 5 rfl rfl) ?_
  refine os_callVT (cis := [7]) (b := l0) (As := [.int l2, .int (6 : Int32)]) (st := []) (st' := (fun _ => [])) sl7_X9_requireReport_X9_requireReport mdX9_requireReport wd1077 wd1079 (sX9_requireReport N l0 l2 (6 : Int32)) rfl rfl (fun _ => rfl) (Nat.le_of_ble_eq_true rfl) (Nat.le_of_ble_eq_true rfl) (Nat.le_of_ble_eq_true rfl) rfl (Nat.le_of_ble_eq_true rfl) rfl (Nat.le_of_ble_eq_true rfl) (Nat.le_of_ble_eq_true rfl) (Nat.le_of_ble_eq_true rfl) (hX9_foresee.at 6 rfl rfl) (fun _ => ?_)
  refine os_aload_n (i := 0) (q := 0) (v := l0) 0 rfl rfl (hX9_foresee.at 7 rfl rfl) ?_
  refine os_iconst (i := 0) (v := (0 : Int32)) rfl (hX9_foresee.at 8 rfl rfl) ?_
  refine os_callVT (cis := [7]) (b := l0) (As := [.int (0 : Int32)]) (st := []) (st' := (fun _ => [])) sl7_X9_requirePhase_X9_requirePhase mdX9_requirePhase wd1281 wd1283 (sX9_requirePhase N l0 (0 : Int32)) rfl rfl (fun _ => rfl) (Nat.le_of_ble_eq_true rfl) (Nat.le_of_ble_eq_true rfl) (Nat.le_of_ble_eq_true rfl) rfl (Nat.le_of_ble_eq_true rfl) rfl (Nat.le_of_ble_eq_true rfl) (Nat.le_of_ble_eq_true rfl) (Nat.le_of_ble_eq_true rfl) (hX9_foresee.at 9 rfl rfl) (fun _ => ?_)
  refine os_aload_n (i := 0) (q := 0) (v := l0) 0 rfl rfl (hX9_foresee.at 10 rfl rfl) ?_
  refine os_getR fX9_47 (hX9_foresee.at 11 rfl rfl) (fun x1 => ?_)
  refine os_aload_n (i := 0) (q := 0) (v := l0) 0 rfl rfl (hX9_foresee.at 12 rfl rfl) ?_
  refine os_getR fX9_63 (hX9_foresee.at 13 rfl rfl) (fun x2 => ?_)
  refine os_aload_n (i := 0) (q := 0) (v := l0) 0 rfl rfl (hX9_foresee.at 14 rfl rfl) ?_
  refine os_getR fX9_71 (hX9_foresee.at 15 rfl rfl) (fun x3 => ?_)
  refine os_callV (cis := [1]) (b := x1) (As := [.ref x2, .ref x3]) (st := []) (st' := (fun _ => [])) sl1_X1_decide_X1_decide mdX1_decide wd1290 wd1291 (sX1_decide N x1 x2 x3) rfl rfl (fun _ => rfl) (Nat.le_of_ble_eq_true rfl) (Nat.le_of_ble_eq_true rfl) (Nat.le_of_ble_eq_true rfl) rfl (Nat.le_of_ble_eq_true rfl) rfl (Nat.le_of_ble_eq_true rfl) (hX9_foresee.at 16 rfl rfl) (fun _ => ?_)
  refine os_aload_n (i := 0) (q := 0) (v := l0) 0 rfl rfl (hX9_foresee.at 17 rfl rfl) ?_
  refine os_getR fX9_47 (hX9_foresee.at 18 rfl rfl) (fun x4 => ?_)
  refine os_iload_n (i := 1) (q := 1) (v := l1) 1 rfl rfl (hX9_foresee.at 19 rfl rfl) ?_
  refine os_iload_n (i := 2) (q := 2) (v := l2) 2 rfl rfl (hX9_foresee.at 20 rfl rfl) ?_
  refine os_callV (cis := [1]) (b := x4) (As := [.int l1, .int l2]) (st := []) (st' := (fun r => .int r :: [])) sl1_X1_explain_X1_explain mdX1_explain wd1369 wd1370 (sX1_explain N x4 l1 l2) rfl rfl (fun _ => rfl) (Nat.le_of_ble_eq_true rfl) (Nat.le_of_ble_eq_true rfl) (Nat.le_of_ble_eq_true rfl) rfl (Nat.le_of_ble_eq_true rfl) rfl (Nat.le_of_ble_eq_true rfl) (hX9_foresee.at 21 rfl rfl) (fun x5 => ?_)
  exact os_ofM (os_iret (Nat.le_of_ble_eq_true rfl) (Nat.le_of_ble_eq_true rfl) (hX9_foresee.at 22 rfl rfl).1)
