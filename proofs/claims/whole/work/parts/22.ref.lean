-- X10_distance
def KX10_distance : List (Nat × Nat × Instr) := [(0, 1, .aload_n 0), (1, 1, .aload_n 0), (2, 1, .iload_n 1), (3, 3, .invokevirtual 99), (6, 3, .ifCond .eq 15), (9, 1, .aload_n 0), (10, 1, .iload_n 2), (11, 3, .invokevirtual 99), (14, 3, .ifCond .eq 7), (17, 1, .iconst 0), (18, 3, .goto 4), (21, 1, .iconst 1), (22, 3, .invokevirtual 354), (25, 3, .ifCond .eq 5), (28, 1, .iconst 0), (29, 1, .ireturn), (30, 1, .iconst 1), (31, 1, .iload_n 1), (32, 1, .ishl), (33, 2, .istore 4), (35, 1, .iconst 0), (36, 2, .istore 5), (38, 2, .iload 5), (40, 2, .bipush 16), (42, 3, .if_icmp .ge 38), (45, 2, .iload 4), (47, 1, .iload_n 2), (48, 3, .invokestatic 111), (51, 3, .ifCond .eq 6), (54, 2, .iload 5), (56, 1, .ireturn), (57, 1, .aload_n 0), (58, 2, .iload 4), (60, 1, .iload_n 3), (61, 3, .ifCond .eq 7), (64, 1, .iconst 1), (65, 3, .goto 4), (68, 1, .iconst 0), (69, 3, .invokevirtual 359), (72, 2, .istore 4), (74, 3, .iinc 5 1), (77, 3, .goto (-39)), (80, 1, .iconst (-1)), (81, 1, .ireturn)]
theorem hX10_distance : osDs cX10_distance KX10_distance := by
  show ∀ q ∈ KX10_distance, decode cX10_distance q.1 = .ok (q.2.2, q.2.1)
  decide +kernel
def qX10_distance_69 (N : Nat) (c38 : Nat × Int32 × Int32 × Int32 × Int32 → osM Int32) (l0 : Nat) (l2 : Int32) (l3 : Int32) (l5 : Int32) (k0 : Int32) (k1 : Int32) (k2 : Nat) : osM Int32 := osbind (osrecv [8] k2 (qX10_widened N k2 k1 k0)) fun x1 => c38 (l0, l2, l3, x1, (l5 + (1 : Int32)))
def bX10_distance_38 (N : Nat) (c38 : Nat × Int32 × Int32 × Int32 × Int32 → osM Int32) (l0 : Nat) (l2 : Int32) (l3 : Int32) (l4 : Int32) (l5 : Int32) : osM Int32 := osite ((16 : Int32) ≤ l5) (osret (-1 : Int32)) (osbind (qX10_has N l4 l2) fun x1 => osite (x1 = 0) (osite (l3 = 0) (qX10_distance_69 N c38 l0 l2 l3 l5 (0 : Int32) l4 l0) (qX10_distance_69 N c38 l0 l2 l3 l5 (1 : Int32) l4 l0)) (osret l5))
def qX10_distance_38 (N : Nat) : Nat × Int32 × Int32 × Int32 × Int32 → osM Int32 := osloop (fun ih p => bX10_distance_38 N ih p.1 p.2.1 p.2.2.1 p.2.2.2.1 p.2.2.2.2) N
def qX10_distance_22 (N : Nat) (l0 : Nat) (l1 : Int32) (l2 : Int32) (l3 : Int32) (k0 : Int32) (k1 : Nat) : osM Int32 := osbind (osrecv [8] k1 (qX10_isRefused N k1 k0)) fun x1 => osite (x1 = 0) (qX10_distance_38 N (l0, l2, l3, (osshl (1 : Int32) l1), (0 : Int32))) (osret (0 : Int32))
def qX10_distance_21 (N : Nat) (l0 : Nat) (l1 : Int32) (l2 : Int32) (l3 : Int32) (k0 : Nat) : osM Int32 := qX10_distance_22 N l0 l1 l2 l3 (1 : Int32) k0
def qX10_distance (N : Nat) (l0 : Nat) (l1 : Int32) (l2 : Int32) (l3 : Int32) : osM Int32 := osbind (osrecv [8] l0 (qX10_isArea N l0 l1)) fun x1 => osite (x1 = 0) (qX10_distance_21 N l0 l1 l2 l3 l0) (osbind (osrecv [8] l0 (qX10_isArea N l0 l2)) fun x2 => osite (x2 = 0) (qX10_distance_21 N l0 l1 l2 l3 l0) (qX10_distance_22 N l0 l1 l2 l3 (0 : Int32) l0))
set_option maxRecDepth 100000 in
set_option maxHeartbeats 4000000 in
theorem sX10_distance_69 (N : Nat) (c38 : Nat × Int32 × Int32 × Int32 × Int32 → osM Int32) (g38 : ∀ (l0 : Nat) (l2 : Int32) (l3 : Int32) (l4 : Int32) (l5 : Int32), osW (osFinM (fun r : Int32 => some (.int r)) 0 0) yX10_distance cX10_distance 6 (some .int) [] { frames := 2, cells := 0, slots := 0, locals := 46 } 0 0 38 [(0, .ref l0), (2, .int l2), (3, .int l3), (4, .int l4), (5, .int l5)] [] (c38 (l0, l2, l3, l4, l5))) (l0 : Nat) (l2 : Int32) (l3 : Int32) (l5 : Int32) (k0 : Int32) (k1 : Int32) (k2 : Nat) : osW (osFinM (fun r : Int32 => some (.int r)) 0 0) yX10_distance cX10_distance 6 (some .int) [] { frames := 2, cells := 0, slots := 0, locals := 46 } 0 0 69 [(0, .ref l0), (2, .int l2), (3, .int l3), (5, .int l5)] [.int k0, .int k1, .ref k2] (qX10_distance_69 N c38 l0 l2 l3 l5 k0 k1 k2) := by
  unfold qX10_distance_69
  refine os_callV (cis := [8]) (b := k2) (As := [.int k1, .int k0]) (st := []) (st' := (fun r => .int r :: [])) sl8_X10_widened_X10_widened mdX10_widened wd2034 wd2036 (sX10_widened N k2 k1 k0) rfl rfl (fun _ => rfl) (Nat.le_of_ble_eq_true rfl) (Nat.le_of_ble_eq_true rfl) (Nat.le_of_ble_eq_true rfl) rfl (Nat.le_of_ble_eq_true rfl) rfl (Nat.le_of_ble_eq_true rfl) (hX10_distance.at 38 rfl rfl) (fun x1 => ?_)
  refine os_istore (i := 4) (lv' := [(4, .int x1), (0, .ref l0), (2, .int l2), (3, .int l3), (5, .int l5)]) (Nat.le_of_ble_eq_true rfl) rfl (hX10_distance.at 39 rfl rfl) ?_
  refine os_iinc (i := 5) (d := 1) (x := l5) (v := (1 : Int32)) (lv' := [(5, .int (l5 + (1 : Int32))), (4, .int x1), (0, .ref l0), (2, .int l2), (3, .int l3)]) 4 rfl rfl (Nat.le_of_ble_eq_true rfl) rfl (hX10_distance.at 40 rfl rfl) ?_
  refine os_goto (off := (-39)) (tgt := 38) rfl (hX10_distance.at 41 rfl rfl) ?_
  exact osW.sub [2, 3, 4, 1, 0] rfl (g38 l0 l2 l3 x1 (l5 + (1 : Int32)))
set_option maxRecDepth 100000 in
set_option maxHeartbeats 4000000 in
theorem tX10_distance_38 (N : Nat) (c38 : Nat × Int32 × Int32 × Int32 × Int32 → osM Int32) (g38 : ∀ (l0 : Nat) (l2 : Int32) (l3 : Int32) (l4 : Int32) (l5 : Int32), osW (osFinM (fun r : Int32 => some (.int r)) 0 0) yX10_distance cX10_distance 6 (some .int) [] { frames := 2, cells := 0, slots := 0, locals := 46 } 0 0 38 [(0, .ref l0), (2, .int l2), (3, .int l3), (4, .int l4), (5, .int l5)] [] (c38 (l0, l2, l3, l4, l5))) (l0 : Nat) (l2 : Int32) (l3 : Int32) (l4 : Int32) (l5 : Int32) : osW (osFinM (fun r : Int32 => some (.int r)) 0 0) yX10_distance cX10_distance 6 (some .int) [] { frames := 2, cells := 0, slots := 0, locals := 46 } 0 0 38 [(0, .ref l0), (2, .int l2), (3, .int l3), (4, .int l4), (5, .int l5)] [] (bX10_distance_38 N c38 l0 l2 l3 l4 l5) := by
  unfold bX10_distance_38
  refine os_iload (v := l5) 4 rfl (hX10_distance.at 22 rfl rfl) ?_
  refine os_bipush (i := 16) (v := (16 : Int32)) rfl (hX10_distance.at 23 rfl rfl) ?_
  refine os_icmp_ge (off := 38) (tgt := 80) rfl (hX10_distance.at 24 rfl rfl) ?_ ?_
  · refine os_iconst (i := (-1)) (v := (-1 : Int32)) rfl (hX10_distance.at 42 rfl rfl) ?_
    exact os_iret (Nat.le_of_ble_eq_true rfl) (Nat.le_of_ble_eq_true rfl) (hX10_distance.at 43 rfl rfl).1
  · refine os_iload (v := l4) 3 rfl (hX10_distance.at 25 rfl rfl) ?_
    refine os_iload_n (i := 2) (q := 2) (v := l2) 1 rfl rfl (hX10_distance.at 26 rfl rfl) ?_
    refine os_callS (As := [.int l4, .int l2]) (st := []) (st' := (fun r => .int r :: [])) mdX10_has wd1860 wd1861 (sX10_has N l4 l2) rfl rfl (fun _ => rfl) (Nat.le_of_ble_eq_true rfl) (Nat.le_of_ble_eq_true rfl) (Nat.le_of_ble_eq_true rfl) rfl (Nat.le_of_ble_eq_true rfl) rfl (Nat.le_of_ble_eq_true rfl) (hX10_distance.at 27 rfl rfl) (fun x1 => ?_)
    refine os_if_eq (off := 6) (tgt := 57) rfl (hX10_distance.at 28 rfl rfl) ?_ ?_
    · refine os_aload_n (i := 0) (q := 0) (v := l0) 0 rfl rfl (hX10_distance.at 31 rfl rfl) ?_
      refine os_iload (v := l4) 3 rfl (hX10_distance.at 32 rfl rfl) ?_
      refine os_iload_n (i := 3) (q := 3) (v := l3) 2 rfl rfl (hX10_distance.at 33 rfl rfl) ?_
      refine os_if_eq (off := 7) (tgt := 68) rfl (hX10_distance.at 34 rfl rfl) ?_ ?_
      · refine os_iconst (i := 0) (v := (0 : Int32)) rfl (hX10_distance.at 37 rfl rfl) ?_
        exact osW.sub [0, 1, 2, 4] rfl (sX10_distance_69 N c38 g38 l0 l2 l3 l5 (0 : Int32) l4 l0)
      · refine os_iconst (i := 1) (v := (1 : Int32)) rfl (hX10_distance.at 35 rfl rfl) ?_
        refine os_goto (off := 4) (tgt := 69) rfl (hX10_distance.at 36 rfl rfl) ?_
        exact osW.sub [0, 1, 2, 4] rfl (sX10_distance_69 N c38 g38 l0 l2 l3 l5 (1 : Int32) l4 l0)
    · refine os_iload (v := l5) 4 rfl (hX10_distance.at 29 rfl rfl) ?_
      exact os_iret (Nat.le_of_ble_eq_true rfl) (Nat.le_of_ble_eq_true rfl) (hX10_distance.at 30 rfl rfl).1
set_option maxRecDepth 100000 in
set_option maxHeartbeats 4000000 in
theorem sX10_distance_38 (N : Nat) (l0 : Nat) (l2 : Int32) (l3 : Int32) (l4 : Int32) (l5 : Int32) : osW (osFinM (fun r : Int32 => some (.int r)) 0 0) yX10_distance cX10_distance 6 (some .int) [] { frames := 2, cells := 0, slots := 0, locals := 46 } 0 0 38 [(0, .ref l0), (2, .int l2), (3, .int l3), (4, .int l4), (5, .int l5)] [] (qX10_distance_38 N (l0, l2, l3, l4, l5)) :=
  osloop_W (lvf := fun p => [(0, .ref p.1), (2, .int p.2.1), (3, .int p.2.2.1), (4, .int p.2.2.2.1), (5, .int p.2.2.2.2)]) (stf := fun p => []) (fun ih g p => tX10_distance_38 N ih (fun l0 l2 l3 l4 l5 => g (l0, l2, l3, l4, l5)) p.1 p.2.1 p.2.2.1 p.2.2.2.1 p.2.2.2.2) N (l0, l2, l3, l4, l5)
set_option maxRecDepth 100000 in
set_option maxHeartbeats 4000000 in
theorem sX10_distance_22 (N : Nat) (l0 : Nat) (l1 : Int32) (l2 : Int32) (l3 : Int32) (k0 : Int32) (k1 : Nat) : osW (osFinM (fun r : Int32 => some (.int r)) 0 0) yX10_distance cX10_distance 6 (some .int) [] { frames := 2, cells := 0, slots := 0, locals := 46 } 0 0 22 [(0, .ref l0), (1, .int l1), (2, .int l2), (3, .int l3)] [.int k0, .ref k1] (qX10_distance_22 N l0 l1 l2 l3 k0 k1) := by
  unfold qX10_distance_22
  refine os_callV (cis := [8]) (b := k1) (As := [.int k0]) (st := []) (st' := (fun r => .int r :: [])) sl8_X10_isRefused_X10_isRefused mdX10_isRefused wd2017 wd2019 (sX10_isRefused N k1 k0) rfl rfl (fun _ => rfl) (Nat.le_of_ble_eq_true rfl) (Nat.le_of_ble_eq_true rfl) (Nat.le_of_ble_eq_true rfl) rfl (Nat.le_of_ble_eq_true rfl) rfl (Nat.le_of_ble_eq_true rfl) (hX10_distance.at 12 rfl rfl) (fun x1 => ?_)
  refine os_if_eq (off := 5) (tgt := 30) rfl (hX10_distance.at 13 rfl rfl) ?_ ?_
  · refine os_iconst (i := 1) (v := (1 : Int32)) rfl (hX10_distance.at 16 rfl rfl) ?_
    refine os_iload_n (i := 1) (q := 1) (v := l1) 1 rfl rfl (hX10_distance.at 17 rfl rfl) ?_
    refine os_ishl (hX10_distance.at 18 rfl rfl) ?_
    refine os_istore (i := 4) (lv' := [(4, .int (osshl (1 : Int32) l1)), (0, .ref l0), (1, .int l1), (2, .int l2), (3, .int l3)]) (Nat.le_of_ble_eq_true rfl) rfl (hX10_distance.at 19 rfl rfl) ?_
    refine os_iconst (i := 0) (v := (0 : Int32)) rfl (hX10_distance.at 20 rfl rfl) ?_
    refine os_istore (i := 5) (lv' := [(5, .int (0 : Int32)), (4, .int (osshl (1 : Int32) l1)), (0, .ref l0), (1, .int l1), (2, .int l2), (3, .int l3)]) (Nat.le_of_ble_eq_true rfl) rfl (hX10_distance.at 21 rfl rfl) ?_
    exact osW.sub [2, 4, 5, 1, 0] rfl (sX10_distance_38 N l0 l2 l3 (osshl (1 : Int32) l1) (0 : Int32))
  · refine os_iconst (i := 0) (v := (0 : Int32)) rfl (hX10_distance.at 14 rfl rfl) ?_
    exact os_iret (Nat.le_of_ble_eq_true rfl) (Nat.le_of_ble_eq_true rfl) (hX10_distance.at 15 rfl rfl).1
set_option maxRecDepth 100000 in
set_option maxHeartbeats 4000000 in
theorem sX10_distance_21 (N : Nat) (l0 : Nat) (l1 : Int32) (l2 : Int32) (l3 : Int32) (k0 : Nat) : osW (osFinM (fun r : Int32 => some (.int r)) 0 0) yX10_distance cX10_distance 6 (some .int) [] { frames := 2, cells := 0, slots := 0, locals := 46 } 0 0 21 [(0, .ref l0), (1, .int l1), (2, .int l2), (3, .int l3)] [.ref k0] (qX10_distance_21 N l0 l1 l2 l3 k0) := by
  unfold qX10_distance_21
  refine os_iconst (i := 1) (v := (1 : Int32)) rfl (hX10_distance.at 11 rfl rfl) ?_
  exact osW.sub [0, 1, 2, 3] rfl (sX10_distance_22 N l0 l1 l2 l3 (1 : Int32) k0)
set_option maxRecDepth 100000 in
set_option maxHeartbeats 4000000 in
theorem sX10_distance (N : Nat) (l0 : Nat) (l1 : Int32) (l2 : Int32) (l3 : Int32) : osMet yX10_distance cX10_distance 6 (some .int) 2 46 0 0 (fun r : Int32 => some (.int r)) [.ref l0, .int l1, .int l2, .int l3] (qX10_distance N l0 l1 l2 l3) := by
  refine osMet.of plX10 (Nat.le_of_ble_eq_true rfl) (osW.rw (lv2 := [(0, .ref l0), (1, .int l1), (2, .int l2), (3, .int l3)]) ?_ rfl rfl rfl)
  unfold qX10_distance
  refine os_aload_n (i := 0) (q := 0) (v := l0) 0 rfl rfl (hX10_distance.at 0 rfl rfl) ?_
  refine os_aload_n (i := 0) (q := 0) (v := l0) 0 rfl rfl (hX10_distance.at 1 rfl rfl) ?_
  refine os_iload_n (i := 1) (q := 1) (v := l1) 1 rfl rfl (hX10_distance.at 2 rfl rfl) ?_
  refine os_callV (cis := [8]) (b := l0) (As := [.int l1]) (st := [.ref l0]) (st' := (fun r => .int r :: [.ref l0])) sl8_X10_isArea_X10_isArea mdX10_isArea wd2013 wd2015 (sX10_isArea N l0 l1) rfl rfl (fun _ => rfl) (Nat.le_of_ble_eq_true rfl) (Nat.le_of_ble_eq_true rfl) (Nat.le_of_ble_eq_true rfl) rfl (Nat.le_of_ble_eq_true rfl) rfl (Nat.le_of_ble_eq_true rfl) (hX10_distance.at 3 rfl rfl) (fun x1 => ?_)
  refine os_if_eq (off := 15) (tgt := 21) rfl (hX10_distance.at 4 rfl rfl) ?_ ?_
  · exact osW.sub [0, 1, 2, 3] rfl (sX10_distance_21 N l0 l1 l2 l3 l0)
  · refine os_aload_n (i := 0) (q := 0) (v := l0) 0 rfl rfl (hX10_distance.at 5 rfl rfl) ?_
    refine os_iload_n (i := 2) (q := 2) (v := l2) 2 rfl rfl (hX10_distance.at 6 rfl rfl) ?_
    refine os_callV (cis := [8]) (b := l0) (As := [.int l2]) (st := [.ref l0]) (st' := (fun r => .int r :: [.ref l0])) sl8_X10_isArea_X10_isArea mdX10_isArea wd2013 wd2015 (sX10_isArea N l0 l2) rfl rfl (fun _ => rfl) (Nat.le_of_ble_eq_true rfl) (Nat.le_of_ble_eq_true rfl) (Nat.le_of_ble_eq_true rfl) rfl (Nat.le_of_ble_eq_true rfl) rfl (Nat.le_of_ble_eq_true rfl) (hX10_distance.at 7 rfl rfl) (fun x2 => ?_)
    refine os_if_eq (off := 7) (tgt := 21) rfl (hX10_distance.at 8 rfl rfl) ?_ ?_
    · exact osW.sub [0, 1, 2, 3] rfl (sX10_distance_21 N l0 l1 l2 l3 l0)
    · refine os_iconst (i := 0) (v := (0 : Int32)) rfl (hX10_distance.at 9 rfl rfl) ?_
      refine os_goto (off := 4) (tgt := 22) rfl (hX10_distance.at 10 rfl rfl) ?_
      exact osW.sub [0, 1, 2, 3] rfl (sX10_distance_22 N l0 l1 l2 l3 (0 : Int32) l0)
-- X10_power
def KX10_power : List (Nat × Nat × Instr) := [(0, 1, .aload_n 0), (1, 1, .aload_n 0), (2, 1, .iload_n 1), (3, 3, .invokevirtual 362), (6, 3, .ifCond .ne 7), (9, 1, .iconst 1), (10, 3, .goto 17), (13, 1, .iload_n 2), (14, 1, .iconst 0), (15, 1, .iconst 3), (16, 3, .invokestatic 95), (19, 3, .ifCond .ne 7), (22, 1, .iconst 2), (23, 3, .goto 4), (26, 1, .iconst 0), (27, 3, .invokevirtual 354), (30, 3, .ifCond .eq 5), (33, 1, .iconst 0), (34, 1, .ireturn), (35, 1, .iload_n 2), (36, 28, .tableswitch 54 0 2 #[28, 38, 48]), (64, 1, .aload_n 0), (65, 1, .aload_n 0), (66, 3, .getfield 16), (69, 1, .iload_n 1), (70, 3, .invokevirtual 124), (73, 1, .ireturn), (74, 1, .aload_n 0), (75, 1, .aload_n 0), (76, 3, .getfield 16), (79, 1, .iload_n 1), (80, 3, .invokevirtual 128), (83, 1, .ireturn), (84, 1, .aload_n 0), (85, 1, .iload_n 1), (86, 3, .invokevirtual 365), (89, 1, .ireturn), (90, 1, .aload_n 0), (91, 1, .aload_n 0), (92, 3, .getfield 16), (95, 1, .iload_n 1), (96, 3, .invokevirtual 324), (99, 1, .ireturn)]
theorem hX10_power : osDs cX10_power KX10_power := by
  show ∀ q ∈ KX10_power, decode cX10_power q.1 = .ok (q.2.2, q.2.1)
  decide +kernel
def qX10_power_27 (N : Nat) (l0 : Nat) (l1 : Int32) (l2 : Int32) (k0 : Int32) (k1 : Nat) : osM Int32 := osbind (osrecv [8] k1 (qX10_isRefused N k1 k0)) fun x1 => osite (x1 = 0) (osswitch l2 0 [osbind (osgR [8] 3 l0) fun x2 => osbind (osrecv [8] l0 (qX10_centersOf N l0 x2 l1)) fun x3 => osret x3, osbind (osgR [8] 3 l0) fun x4 => osbind (osrecv [8] l0 (qX10_unitsOf N l0 x4 l1)) fun x5 => osret x5, osbind (osrecv [8] l0 (qX10_homesOf N l0 l1)) fun x6 => osret x6] (osbind (osgR [8] 3 l0) fun x7 => osbind (osrecv [8] l0 (qX10_buildsOf N l0 x7 l1)) fun x8 => osret x8)) (osret (0 : Int32))
def qX10_power (N : Nat) (l0 : Nat) (l1 : Int32) (l2 : Int32) : osM Int32 := osbind (osrecv [8] l0 (qX10_isPower N l0 l1)) fun x1 => osite (x1 = 0) (qX10_power_27 N l0 l1 l2 (1 : Int32) l0) (osbind (qX10_in N l2 (0 : Int32) (3 : Int32)) fun x2 => osite (x2 = 0) (qX10_power_27 N l0 l1 l2 (2 : Int32) l0) (qX10_power_27 N l0 l1 l2 (0 : Int32) l0))
set_option maxRecDepth 100000 in
set_option maxHeartbeats 4000000 in
theorem sX10_power_27 (N : Nat) (l0 : Nat) (l1 : Int32) (l2 : Int32) (k0 : Int32) (k1 : Nat) : osW (osFinM (fun r : Int32 => some (.int r)) 0 0) yX10_power cX10_power 3 (some .int) [] { frames := 3, cells := 0, slots := 0, locals := 70 } 0 0 27 [(0, .ref l0), (1, .int l1), (2, .int l2)] [.int k0, .ref k1] (qX10_power_27 N l0 l1 l2 k0 k1) := by
  unfold qX10_power_27
  refine os_callV (cis := [8]) (b := k1) (As := [.int k0]) (st := []) (st' := (fun r => .int r :: [])) sl8_X10_isRefused_X10_isRefused mdX10_isRefused wd2017 wd2019 (sX10_isRefused N k1 k0) rfl rfl (fun _ => rfl) (Nat.le_of_ble_eq_true rfl) (Nat.le_of_ble_eq_true rfl) (Nat.le_of_ble_eq_true rfl) rfl (Nat.le_of_ble_eq_true rfl) rfl (Nat.le_of_ble_eq_true rfl) (hX10_power.at 15 rfl rfl) (fun x1 => ?_)
  refine os_if_eq (off := 5) (tgt := 35) rfl (hX10_power.at 16 rfl rfl) ?_ ?_
  · refine os_iload_n (i := 2) (q := 2) (v := l2) 2 rfl rfl (hX10_power.at 19 rfl rfl) ?_
    refine os_tableswitch (dflt := 54) (lo := 0) (hi := 2) (offs := #[28, 38, 48]) (tgt := 90) rfl rfl (hX10_power.at 20 rfl rfl) ?_ ?_
    · refine ⟨⟨64, rfl, ?_⟩, ⟨74, rfl, ?_⟩, ⟨84, rfl, ?_⟩, trivial⟩
      · refine os_aload_n (i := 0) (q := 0) (v := l0) 0 rfl rfl (hX10_power.at 21 rfl rfl) ?_
        refine os_aload_n (i := 0) (q := 0) (v := l0) 0 rfl rfl (hX10_power.at 22 rfl rfl) ?_
        refine os_getR fX10_16 (hX10_power.at 23 rfl rfl) (fun x2 => ?_)
        refine os_iload_n (i := 1) (q := 1) (v := l1) 1 rfl rfl (hX10_power.at 24 rfl rfl) ?_
        refine os_callV (cis := [8]) (b := l0) (As := [.ref x2, .int l1]) (st := []) (st' := (fun r => .int r :: [])) sl8_X10_centersOf_X10_centersOf mdX10_centersOf wd1990 wd1992 (sX10_centersOf N l0 x2 l1) rfl rfl (fun _ => rfl) (Nat.le_of_ble_eq_true rfl) (Nat.le_of_ble_eq_true rfl) (Nat.le_of_ble_eq_true rfl) rfl (Nat.le_of_ble_eq_true rfl) rfl (Nat.le_of_ble_eq_true rfl) (hX10_power.at 25 rfl rfl) (fun x3 => ?_)
        exact os_iret (Nat.le_of_ble_eq_true rfl) (Nat.le_of_ble_eq_true rfl) (hX10_power.at 26 rfl rfl).1
      · refine os_aload_n (i := 0) (q := 0) (v := l0) 0 rfl rfl (hX10_power.at 27 rfl rfl) ?_
        refine os_aload_n (i := 0) (q := 0) (v := l0) 0 rfl rfl (hX10_power.at 28 rfl rfl) ?_
        refine os_getR fX10_16 (hX10_power.at 29 rfl rfl) (fun x4 => ?_)
        refine os_iload_n (i := 1) (q := 1) (v := l1) 1 rfl rfl (hX10_power.at 30 rfl rfl) ?_
        refine os_callV (cis := [8]) (b := l0) (As := [.ref x4, .int l1]) (st := []) (st' := (fun r => .int r :: [])) sl8_X10_unitsOf_X10_unitsOf mdX10_unitsOf wd1890 wd1892 (sX10_unitsOf N l0 x4 l1) rfl rfl (fun _ => rfl) (Nat.le_of_ble_eq_true rfl) (Nat.le_of_ble_eq_true rfl) (Nat.le_of_ble_eq_true rfl) rfl (Nat.le_of_ble_eq_true rfl) rfl (Nat.le_of_ble_eq_true rfl) (hX10_power.at 31 rfl rfl) (fun x5 => ?_)
        exact os_iret (Nat.le_of_ble_eq_true rfl) (Nat.le_of_ble_eq_true rfl) (hX10_power.at 32 rfl rfl).1
      · refine os_aload_n (i := 0) (q := 0) (v := l0) 0 rfl rfl (hX10_power.at 33 rfl rfl) ?_
        refine os_iload_n (i := 1) (q := 1) (v := l1) 1 rfl rfl (hX10_power.at 34 rfl rfl) ?_
        refine os_callV (cis := [8]) (b := l0) (As := [.int l1]) (st := []) (st' := (fun r => .int r :: [])) sl8_X10_homesOf_X10_homesOf mdX10_homesOf wd2046 wd2048 (sX10_homesOf N l0 l1) rfl rfl (fun _ => rfl) (Nat.le_of_ble_eq_true rfl) (Nat.le_of_ble_eq_true rfl) (Nat.le_of_ble_eq_true rfl) rfl (Nat.le_of_ble_eq_true rfl) rfl (Nat.le_of_ble_eq_true rfl) (hX10_power.at 35 rfl rfl) (fun x6 => ?_)
        exact os_iret (Nat.le_of_ble_eq_true rfl) (Nat.le_of_ble_eq_true rfl) (hX10_power.at 36 rfl rfl).1
    · refine os_aload_n (i := 0) (q := 0) (v := l0) 0 rfl rfl (hX10_power.at 37 rfl rfl) ?_
      refine os_aload_n (i := 0) (q := 0) (v := l0) 0 rfl rfl (hX10_power.at 38 rfl rfl) ?_
      refine os_getR fX10_16 (hX10_power.at 39 rfl rfl) (fun x7 => ?_)
      refine os_iload_n (i := 1) (q := 1) (v := l1) 1 rfl rfl (hX10_power.at 40 rfl rfl) ?_
      refine os_callV (cis := [8]) (b := l0) (As := [.ref x7, .int l1]) (st := []) (st' := (fun r => .int r :: [])) sl8_X10_buildsOf_X10_buildsOf mdX10_buildsOf wd1986 wd1988 (sX10_buildsOf N l0 x7 l1) rfl rfl (fun _ => rfl) (Nat.le_of_ble_eq_true rfl) (Nat.le_of_ble_eq_true rfl) (Nat.le_of_ble_eq_true rfl) rfl (Nat.le_of_ble_eq_true rfl) rfl (Nat.le_of_ble_eq_true rfl) (hX10_power.at 41 rfl rfl) (fun x8 => ?_)
      exact os_iret (Nat.le_of_ble_eq_true rfl) (Nat.le_of_ble_eq_true rfl) (hX10_power.at 42 rfl rfl).1
  · refine os_iconst (i := 0) (v := (0 : Int32)) rfl (hX10_power.at 17 rfl rfl) ?_
    exact os_iret (Nat.le_of_ble_eq_true rfl) (Nat.le_of_ble_eq_true rfl) (hX10_power.at 18 rfl rfl).1
set_option maxRecDepth 100000 in
set_option maxHeartbeats 4000000 in
theorem sX10_power (N : Nat) (l0 : Nat) (l1 : Int32) (l2 : Int32) : osMet yX10_power cX10_power 3 (some .int) 3 70 0 0 (fun r : Int32 => some (.int r)) [.ref l0, .int l1, .int l2] (qX10_power N l0 l1 l2) := by
  refine osMet.of plX10 (Nat.le_of_ble_eq_true rfl) (osW.rw (lv2 := [(0, .ref l0), (1, .int l1), (2, .int l2)]) ?_ rfl rfl rfl)
  unfold qX10_power
  refine os_aload_n (i := 0) (q := 0) (v := l0) 0 rfl rfl (hX10_power.at 0 rfl rfl) ?_
  refine os_aload_n (i := 0) (q := 0) (v := l0) 0 rfl rfl (hX10_power.at 1 rfl rfl) ?_
  refine os_iload_n (i := 1) (q := 1) (v := l1) 1 rfl rfl (hX10_power.at 2 rfl rfl) ?_
  refine os_callV (cis := [8]) (b := l0) (As := [.int l1]) (st := [.ref l0]) (st' := (fun r => .int r :: [.ref l0])) sl8_X10_isPower_X10_isPower mdX10_isPower wd2042 wd2044 (sX10_isPower N l0 l1) rfl rfl (fun _ => rfl) (Nat.le_of_ble_eq_true rfl) (Nat.le_of_ble_eq_true rfl) (Nat.le_of_ble_eq_true rfl) rfl (Nat.le_of_ble_eq_true rfl) rfl (Nat.le_of_ble_eq_true rfl) (hX10_power.at 3 rfl rfl) (fun x1 => ?_)
  refine os_if_ne (off := 7) (tgt := 13) rfl (hX10_power.at 4 rfl rfl) ?_ ?_
  · refine os_iload_n (i := 2) (q := 2) (v := l2) 2 rfl rfl (hX10_power.at 7 rfl rfl) ?_
    refine os_iconst (i := 0) (v := (0 : Int32)) rfl (hX10_power.at 8 rfl rfl) ?_
    refine os_iconst (i := 3) (v := (3 : Int32)) rfl (hX10_power.at 9 rfl rfl) ?_
    refine os_callS (As := [.int l2, .int (0 : Int32), .int (3 : Int32)]) (st := [.ref l0]) (st' := (fun r => .int r :: [.ref l0])) mdX10_in wd1770 wd1771 (sX10_in N l2 (0 : Int32) (3 : Int32)) rfl rfl (fun _ => rfl) (Nat.le_of_ble_eq_true rfl) (Nat.le_of_ble_eq_true rfl) (Nat.le_of_ble_eq_true rfl) rfl (Nat.le_of_ble_eq_true rfl) rfl (Nat.le_of_ble_eq_true rfl) (hX10_power.at 10 rfl rfl) (fun x2 => ?_)
    refine os_if_ne (off := 7) (tgt := 26) rfl (hX10_power.at 11 rfl rfl) ?_ ?_
    · refine os_iconst (i := 0) (v := (0 : Int32)) rfl (hX10_power.at 14 rfl rfl) ?_
      exact osW.sub [0, 1, 2] rfl (sX10_power_27 N l0 l1 l2 (0 : Int32) l0)
    · refine os_iconst (i := 2) (v := (2 : Int32)) rfl (hX10_power.at 12 rfl rfl) ?_
      refine os_goto (off := 4) (tgt := 27) rfl (hX10_power.at 13 rfl rfl) ?_
      exact osW.sub [0, 1, 2] rfl (sX10_power_27 N l0 l1 l2 (2 : Int32) l0)
  · refine os_iconst (i := 1) (v := (1 : Int32)) rfl (hX10_power.at 5 rfl rfl) ?_
    refine os_goto (off := 17) (tgt := 27) rfl (hX10_power.at 6 rfl rfl) ?_
    exact osW.sub [0, 1, 2] rfl (sX10_power_27 N l0 l1 l2 (1 : Int32) l0)
-- X10_phase
def KX10_phase : List (Nat × Nat × Instr) := [(0, 1, .aload_n 0), (1, 1, .aload_n 0), (2, 3, .getfield 16), (5, 1, .iconst 0), (6, 1, .iaload), (7, 3, .invokevirtual 152), (10, 1, .ireturn)]
theorem hX10_phase : osDs cX10_phase KX10_phase := by
  show ∀ q ∈ KX10_phase, decode cX10_phase q.1 = .ok (q.2.2, q.2.1)
  decide +kernel
def qX10_phase (N : Nat) (l0 : Nat) : osM Int32 := osbind (osgR [8] 3 l0) fun x1 => osbind (osaI 0 x1 (0 : Int32)) fun x2 => osbind (osrecv [8] l0 (qX10_told N l0 x2)) fun x3 => osret x3
set_option maxRecDepth 100000 in
set_option maxHeartbeats 4000000 in
theorem sX10_phase (N : Nat) (l0 : Nat) : osMet yX10_phase cX10_phase 1 (some .int) 1 21 0 0 (fun r : Int32 => some (.int r)) [.ref l0] (qX10_phase N l0) := by
  refine osMet.of plX10 (Nat.le_of_ble_eq_true rfl) (osW.rw (lv2 := [(0, .ref l0)]) ?_ rfl rfl rfl)
  unfold qX10_phase
  refine os_aload_n (i := 0) (q := 0) (v := l0) 0 rfl rfl (hX10_phase.at 0 rfl rfl) ?_
  refine os_aload_n (i := 0) (q := 0) (v := l0) 0 rfl rfl (hX10_phase.at 1 rfl rfl) ?_
  refine os_getR fX10_16 (hX10_phase.at 2 rfl rfl) (fun x1 => ?_)
  refine os_iconst (i := 0) (v := (0 : Int32)) rfl (hX10_phase.at 3 rfl rfl) ?_
  refine os_iaload (hX10_phase.at 4 rfl rfl) (fun x2 => ?_)
  refine os_callV (cis := [8]) (b := l0) (As := [.int x2]) (st := []) (st' := (fun r => .int r :: [])) sl8_X10_told_X10_told mdX10_told wd1754 wd1756 (sX10_told N l0 x2) rfl rfl (fun _ => rfl) (Nat.le_of_ble_eq_true rfl) (Nat.le_of_ble_eq_true rfl) (Nat.le_of_ble_eq_true rfl) rfl (Nat.le_of_ble_eq_true rfl) rfl (Nat.le_of_ble_eq_true rfl) (hX10_phase.at 5 rfl rfl) (fun x3 => ?_)
  exact os_iret (Nat.le_of_ble_eq_true rfl) (Nat.le_of_ble_eq_true rfl) (hX10_phase.at 6 rfl rfl).1
-- X10_turn
def KX10_turn : List (Nat × Nat × Instr) := [(0, 1, .aload_n 0), (1, 1, .aload_n 0), (2, 3, .getfield 16), (5, 1, .iconst 1), (6, 1, .iaload), (7, 3, .invokevirtual 152), (10, 1, .ireturn)]
theorem hX10_turn : osDs cX10_turn KX10_turn := by
  show ∀ q ∈ KX10_turn, decode cX10_turn q.1 = .ok (q.2.2, q.2.1)
  decide +kernel
def qX10_turn (N : Nat) (l0 : Nat) : osM Int32 := osbind (osgR [8] 3 l0) fun x1 => osbind (osaI 0 x1 (1 : Int32)) fun x2 => osbind (osrecv [8] l0 (qX10_told N l0 x2)) fun x3 => osret x3
set_option maxRecDepth 100000 in
set_option maxHeartbeats 4000000 in
theorem sX10_turn (N : Nat) (l0 : Nat) : osMet yX10_turn cX10_turn 1 (some .int) 1 21 0 0 (fun r : Int32 => some (.int r)) [.ref l0] (qX10_turn N l0) := by
  refine osMet.of plX10 (Nat.le_of_ble_eq_true rfl) (osW.rw (lv2 := [(0, .ref l0)]) ?_ rfl rfl rfl)
  unfold qX10_turn
  refine os_aload_n (i := 0) (q := 0) (v := l0) 0 rfl rfl (hX10_turn.at 0 rfl rfl) ?_
  refine os_aload_n (i := 0) (q := 0) (v := l0) 0 rfl rfl (hX10_turn.at 1 rfl rfl) ?_
  refine os_getR fX10_16 (hX10_turn.at 2 rfl rfl) (fun x1 => ?_)
  refine os_iconst (i := 1) (v := (1 : Int32)) rfl (hX10_turn.at 3 rfl rfl) ?_
  refine os_iaload (hX10_turn.at 4 rfl rfl) (fun x2 => ?_)
  refine os_callV (cis := [8]) (b := l0) (As := [.int x2]) (st := []) (st' := (fun r => .int r :: [])) sl8_X10_told_X10_told mdX10_told wd1754 wd1756 (sX10_told N l0 x2) rfl rfl (fun _ => rfl) (Nat.le_of_ble_eq_true rfl) (Nat.le_of_ble_eq_true rfl) (Nat.le_of_ble_eq_true rfl) rfl (Nat.le_of_ble_eq_true rfl) rfl (Nat.le_of_ble_eq_true rfl) (hX10_turn.at 5 rfl rfl) (fun x3 => ?_)
  exact os_iret (Nat.le_of_ble_eq_true rfl) (Nat.le_of_ble_eq_true rfl) (hX10_turn.at 6 rfl rfl).1
-- X10_order
def KX10_order : List (Nat × Nat × Instr) := [(0, 1, .aload_n 0), (1, 1, .aload_n 0), (2, 1, .iload_n 1), (3, 3, .invokevirtual 368), (6, 3, .ifCond .ne 7), (9, 1, .iconst 1), (10, 3, .goto 30), (13, 1, .iload_n 2), (14, 1, .iconst 0), (15, 1, .iconst 2), (16, 3, .invokestatic 95), (19, 3, .ifCond .ne 7), (22, 1, .iconst 2), (23, 3, .goto 17), (26, 1, .aload_n 0), (27, 3, .getfield 16), (30, 1, .iconst 0), (31, 1, .iaload), (32, 3, .ifCond .eq 7), (35, 1, .iconst 3), (36, 3, .goto 4), (39, 1, .iconst 0), (40, 3, .invokevirtual 354), (43, 3, .ifCond .eq 5), (46, 1, .iconst 0), (47, 1, .ireturn), (48, 1, .aload_n 0), (49, 3, .getfield 16), (52, 1, .iload_n 2), (53, 3, .ifCond .ne 10), (56, 2, .bipush 117), (58, 1, .iload_n 1), (59, 1, .iadd), (60, 3, .goto 21), (63, 1, .iload_n 2), (64, 1, .iconst 1), (65, 3, .if_icmp .ne 11), (68, 3, .sipush 133), (71, 1, .iload_n 1), (72, 1, .iadd), (73, 3, .goto 8), (76, 3, .sipush 149), (79, 1, .iload_n 1), (80, 1, .iadd), (81, 1, .iaload), (82, 1, .ireturn)]
theorem hX10_order : osDs cX10_order KX10_order := by
  show ∀ q ∈ KX10_order, decode cX10_order q.1 = .ok (q.2.2, q.2.1)
  decide +kernel
def qX10_order_81 (N : Nat) (k0 : Int32) (k1 : Nat) : osM Int32 := osbind (osaI 0 k1 k0) fun x1 => osret x1
def qX10_order_40 (N : Nat) (l0 : Nat) (l1 : Int32) (l2 : Int32) (k0 : Int32) (k1 : Nat) : osM Int32 := osbind (osrecv [8] k1 (qX10_isRefused N k1 k0)) fun x1 => osite (x1 = 0) (osbind (osgR [8] 3 l0) fun x2 => osite (l2 = 0) (qX10_order_81 N ((117 : Int32) + l1) x2) (osite (l2 = (1 : Int32)) (qX10_order_81 N ((133 : Int32) + l1) x2) (qX10_order_81 N ((149 : Int32) + l1) x2))) (osret (0 : Int32))
def qX10_order (N : Nat) (l0 : Nat) (l1 : Int32) (l2 : Int32) : osM Int32 := osbind (osrecv [8] l0 (qX10_hasUnit N l0 l1)) fun x1 => osite (x1 = 0) (qX10_order_40 N l0 l1 l2 (1 : Int32) l0) (osbind (qX10_in N l2 (0 : Int32) (2 : Int32)) fun x2 => osite (x2 = 0) (qX10_order_40 N l0 l1 l2 (2 : Int32) l0) (osbind (osgR [8] 3 l0) fun x3 => osbind (osaI 0 x3 (0 : Int32)) fun x4 => osite (x4 = 0) (qX10_order_40 N l0 l1 l2 (0 : Int32) l0) (qX10_order_40 N l0 l1 l2 (3 : Int32) l0)))
set_option maxRecDepth 100000 in
set_option maxHeartbeats 4000000 in
theorem sX10_order_81 (N : Nat) (k0 : Int32) (k1 : Nat) : osW (osFinM (fun r : Int32 => some (.int r)) 0 0) yX10_order cX10_order 3 (some .int) [] { frames := 3, cells := 0, slots := 0, locals := 64 } 0 0 81 [] [.int k0, .ref k1] (qX10_order_81 N k0 k1) := by
  unfold qX10_order_81
  refine os_iaload (hX10_order.at 44 rfl rfl) (fun x1 => ?_)
  exact os_iret (Nat.le_of_ble_eq_true rfl) (Nat.le_of_ble_eq_true rfl) (hX10_order.at 45 rfl rfl).1
set_option maxRecDepth 100000 in
set_option maxHeartbeats 4000000 in
theorem sX10_order_40 (N : Nat) (l0 : Nat) (l1 : Int32) (l2 : Int32) (k0 : Int32) (k1 : Nat) : osW (osFinM (fun r : Int32 => some (.int r)) 0 0) yX10_order cX10_order 3 (some .int) [] { frames := 3, cells := 0, slots := 0, locals := 64 } 0 0 40 [(0, .ref l0), (1, .int l1), (2, .int l2)] [.int k0, .ref k1] (qX10_order_40 N l0 l1 l2 k0 k1) := by
  unfold qX10_order_40
  refine os_callV (cis := [8]) (b := k1) (As := [.int k0]) (st := []) (st' := (fun r => .int r :: [])) sl8_X10_isRefused_X10_isRefused mdX10_isRefused wd2017 wd2019 (sX10_isRefused N k1 k0) rfl rfl (fun _ => rfl) (Nat.le_of_ble_eq_true rfl) (Nat.le_of_ble_eq_true rfl) (Nat.le_of_ble_eq_true rfl) rfl (Nat.le_of_ble_eq_true rfl) rfl (Nat.le_of_ble_eq_true rfl) (hX10_order.at 22 rfl rfl) (fun x1 => ?_)
  refine os_if_eq (off := 5) (tgt := 48) rfl (hX10_order.at 23 rfl rfl) ?_ ?_
  · refine os_aload_n (i := 0) (q := 0) (v := l0) 0 rfl rfl (hX10_order.at 26 rfl rfl) ?_
    refine os_getR fX10_16 (hX10_order.at 27 rfl rfl) (fun x2 => ?_)
    refine os_iload_n (i := 2) (q := 2) (v := l2) 2 rfl rfl (hX10_order.at 28 rfl rfl) ?_
    refine os_if_ne (off := 10) (tgt := 63) rfl (hX10_order.at 29 rfl rfl) ?_ ?_
    · refine os_iload_n (i := 2) (q := 2) (v := l2) 2 rfl rfl (hX10_order.at 34 rfl rfl) ?_
      refine os_iconst (i := 1) (v := (1 : Int32)) rfl (hX10_order.at 35 rfl rfl) ?_
      refine os_icmp_ne (off := 11) (tgt := 76) rfl (hX10_order.at 36 rfl rfl) ?_ ?_
      · refine os_sipush (i := 149) (v := (149 : Int32)) rfl (hX10_order.at 41 rfl rfl) ?_
        refine os_iload_n (i := 1) (q := 1) (v := l1) 1 rfl rfl (hX10_order.at 42 rfl rfl) ?_
        refine os_iadd (hX10_order.at 43 rfl rfl) ?_
        exact osW.sub [] rfl (sX10_order_81 N ((149 : Int32) + l1) x2)
      · refine os_sipush (i := 133) (v := (133 : Int32)) rfl (hX10_order.at 37 rfl rfl) ?_
        refine os_iload_n (i := 1) (q := 1) (v := l1) 1 rfl rfl (hX10_order.at 38 rfl rfl) ?_
        refine os_iadd (hX10_order.at 39 rfl rfl) ?_
        refine os_goto (off := 8) (tgt := 81) rfl (hX10_order.at 40 rfl rfl) ?_
        exact osW.sub [] rfl (sX10_order_81 N ((133 : Int32) + l1) x2)
    · refine os_bipush (i := 117) (v := (117 : Int32)) rfl (hX10_order.at 30 rfl rfl) ?_
      refine os_iload_n (i := 1) (q := 1) (v := l1) 1 rfl rfl (hX10_order.at 31 rfl rfl) ?_
      refine os_iadd (hX10_order.at 32 rfl rfl) ?_
      refine os_goto (off := 21) (tgt := 81) rfl (hX10_order.at 33 rfl rfl) ?_
      exact osW.sub [] rfl (sX10_order_81 N ((117 : Int32) + l1) x2)
  · refine os_iconst (i := 0) (v := (0 : Int32)) rfl (hX10_order.at 24 rfl rfl) ?_
    exact os_iret (Nat.le_of_ble_eq_true rfl) (Nat.le_of_ble_eq_true rfl) (hX10_order.at 25 rfl rfl).1
set_option maxRecDepth 100000 in
set_option maxHeartbeats 4000000 in
theorem sX10_order (N : Nat) (l0 : Nat) (l1 : Int32) (l2 : Int32) : osMet yX10_order cX10_order 3 (some .int) 3 64 0 0 (fun r : Int32 => some (.int r)) [.ref l0, .int l1, .int l2] (qX10_order N l0 l1 l2) := by
  refine osMet.of plX10 (Nat.le_of_ble_eq_true rfl) (osW.rw (lv2 := [(0, .ref l0), (1, .int l1), (2, .int l2)]) ?_ rfl rfl rfl)
  unfold qX10_order
  refine os_aload_n (i := 0) (q := 0) (v := l0) 0 rfl rfl (hX10_order.at 0 rfl rfl) ?_
  refine os_aload_n (i := 0) (q := 0) (v := l0) 0 rfl rfl (hX10_order.at 1 rfl rfl) ?_
  refine os_iload_n (i := 1) (q := 1) (v := l1) 1 rfl rfl (hX10_order.at 2 rfl rfl) ?_
  refine os_callV (cis := [8]) (b := l0) (As := [.int l1]) (st := [.ref l0]) (st' := (fun r => .int r :: [.ref l0])) sl8_X10_hasUnit_X10_hasUnit mdX10_hasUnit wd2062 wd2064 (sX10_hasUnit N l0 l1) rfl rfl (fun _ => rfl) (Nat.le_of_ble_eq_true rfl) (Nat.le_of_ble_eq_true rfl) (Nat.le_of_ble_eq_true rfl) rfl (Nat.le_of_ble_eq_true rfl) rfl (Nat.le_of_ble_eq_true rfl) (hX10_order.at 3 rfl rfl) (fun x1 => ?_)
  refine os_if_ne (off := 7) (tgt := 13) rfl (hX10_order.at 4 rfl rfl) ?_ ?_
  · refine os_iload_n (i := 2) (q := 2) (v := l2) 2 rfl rfl (hX10_order.at 7 rfl rfl) ?_
    refine os_iconst (i := 0) (v := (0 : Int32)) rfl (hX10_order.at 8 rfl rfl) ?_
    refine os_iconst (i := 2) (v := (2 : Int32)) rfl (hX10_order.at 9 rfl rfl) ?_
    refine os_callS (As := [.int l2, .int (0 : Int32), .int (2 : Int32)]) (st := [.ref l0]) (st' := (fun r => .int r :: [.ref l0])) mdX10_in wd1770 wd1771 (sX10_in N l2 (0 : Int32) (2 : Int32)) rfl rfl (fun _ => rfl) (Nat.le_of_ble_eq_true rfl) (Nat.le_of_ble_eq_true rfl) (Nat.le_of_ble_eq_true rfl) rfl (Nat.le_of_ble_eq_true rfl) rfl (Nat.le_of_ble_eq_true rfl) (hX10_order.at 10 rfl rfl) (fun x2 => ?_)
    refine os_if_ne (off := 7) (tgt := 26) rfl (hX10_order.at 11 rfl rfl) ?_ ?_
    · refine os_aload_n (i := 0) (q := 0) (v := l0) 0 rfl rfl (hX10_order.at 14 rfl rfl) ?_
      refine os_getR fX10_16 (hX10_order.at 15 rfl rfl) (fun x3 => ?_)
      refine os_iconst (i := 0) (v := (0 : Int32)) rfl (hX10_order.at 16 rfl rfl) ?_
      refine os_iaload (hX10_order.at 17 rfl rfl) (fun x4 => ?_)
      refine os_if_eq (off := 7) (tgt := 39) rfl (hX10_order.at 18 rfl rfl) ?_ ?_
      · refine os_iconst (i := 0) (v := (0 : Int32)) rfl (hX10_order.at 21 rfl rfl) ?_
        exact osW.sub [0, 1, 2] rfl (sX10_order_40 N l0 l1 l2 (0 : Int32) l0)
      · refine os_iconst (i := 3) (v := (3 : Int32)) rfl (hX10_order.at 19 rfl rfl) ?_
        refine os_goto (off := 4) (tgt := 40) rfl (hX10_order.at 20 rfl rfl) ?_
        exact osW.sub [0, 1, 2] rfl (sX10_order_40 N l0 l1 l2 (3 : Int32) l0)
    · refine os_iconst (i := 2) (v := (2 : Int32)) rfl (hX10_order.at 12 rfl rfl) ?_
      refine os_goto (off := 17) (tgt := 40) rfl (hX10_order.at 13 rfl rfl) ?_
      exact osW.sub [0, 1, 2] rfl (sX10_order_40 N l0 l1 l2 (2 : Int32) l0)
  · refine os_iconst (i := 1) (v := (1 : Int32)) rfl (hX10_order.at 5 rfl rfl) ?_
    refine os_goto (off := 30) (tgt := 40) rfl (hX10_order.at 6 rfl rfl) ?_
    exact osW.sub [0, 1, 2] rfl (sX10_order_40 N l0 l1 l2 (1 : Int32) l0)
-- X10_laysMoves
def KX10_laysMoves : List (Nat × Nat × Instr) := [(0, 1, .aload_n 0), (1, 1, .iconst 0), (2, 3, .putfield 371), (5, 1, .iconst 0), (6, 1, .istore_n 1), (7, 1, .iload_n 1), (8, 2, .bipush 16), (10, 3, .if_icmp .ge 120), (13, 1, .aload_n 0), (14, 3, .getfield 48), (17, 1, .iload_n 1), (18, 1, .iconst (-1)), (19, 1, .iastore), (20, 1, .aload_n 0), (21, 3, .getfield 16), (24, 1, .iload_n 1), (25, 3, .invokestatic 103), (28, 3, .ifCond .eq 96), (31, 1, .aload_n 0), (32, 3, .getfield 16), (35, 2, .bipush 117), (37, 1, .iload_n 1), (38, 1, .iadd), (39, 1, .iaload), (40, 1, .iconst 1), (41, 3, .if_icmp .ne 83), (44, 1, .aload_n 0), (45, 3, .getfield 48), (48, 1, .iload_n 1), (49, 1, .aload_n 0), (50, 3, .getfield 371), (53, 1, .iastore), (54, 1, .aload_n 0), (55, 3, .getfield 39), (58, 1, .aload_n 0), (59, 3, .getfield 371), (62, 1, .iload_n 1), (63, 1, .iastore), (64, 1, .aload_n 0), (65, 3, .getfield 42), (68, 1, .aload_n 0), (69, 3, .getfield 371), (72, 1, .aload_n 0), (73, 3, .getfield 16), (76, 3, .sipush 133), (79, 1, .iload_n 1), (80, 1, .iadd), (81, 1, .iaload), (82, 1, .iastore), (83, 1, .aload_n 0), (84, 3, .getfield 51), (87, 1, .aload_n 0), (88, 3, .getfield 371), (91, 1, .aload_n 0), (92, 1, .iload_n 1), (93, 1, .aload_n 0), (94, 3, .getfield 42), (97, 1, .aload_n 0), (98, 3, .getfield 371), (101, 1, .iaload), (102, 3, .invokevirtual 118), (105, 3, .ifCond .ne 7), (108, 1, .iconst 1), (109, 3, .goto 4), (112, 1, .iconst 0), (113, 1, .bastore), (114, 1, .aload_n 0), (115, 1, .aload_n 0), (116, 3, .getfield 371), (119, 1, .iconst 1), (120, 1, .iadd), (121, 3, .putfield 371), (124, 3, .iinc 1 1), (127, 3, .goto (-120)), (130, 1, .iconst 0), (131, 1, .istore_n 1), (132, 1, .iload_n 1), (133, 1, .aload_n 0), (134, 3, .getfield 371), (137, 3, .if_icmp .ge 80), (140, 1, .aload_n 0), (141, 3, .getfield 48), (144, 1, .aload_n 0), (145, 3, .getfield 42), (148, 1, .iload_n 1), (149, 1, .iaload), (150, 1, .iaload), (151, 1, .istore_n 2), (152, 1, .iload_n 2), (153, 1, .iconst (-1)), (154, 3, .if_icmp .eq 40), (157, 1, .aload_n 0), (158, 3, .getfield 42), (161, 1, .iload_n 2), (162, 1, .iaload), (163, 1, .aload_n 0), (164, 3, .getfield 39), (167, 1, .iload_n 1), (168, 1, .iaload), (169, 3, .if_icmp .ne 25), (172, 1, .aload_n 0), (173, 3, .getfield 51), (176, 1, .iload_n 1), (177, 1, .baload), (178, 3, .ifCond .ne 16), (181, 1, .aload_n 0), (182, 3, .getfield 51), (185, 1, .iload_n 2), (186, 1, .baload), (187, 3, .ifCond .ne 7), (190, 1, .iconst 1), (191, 3, .goto 4), (194, 1, .iconst 0), (195, 1, .istore_n 3), (196, 1, .aload_n 0), (197, 3, .getfield 45), (200, 1, .iload_n 1), (201, 1, .iload_n 3), (202, 3, .ifCond .eq 7), (205, 1, .iload_n 2), (206, 3, .goto 4), (209, 1, .iconst (-1)), (210, 1, .iastore), (211, 3, .iinc 1 1), (214, 3, .goto (-82)), (217, 1, .return_)]
theorem hX10_laysMoves : osDs cX10_laysMoves KX10_laysMoves := by
  show ∀ q ∈ KX10_laysMoves, decode cX10_laysMoves q.1 = .ok (q.2.2, q.2.1)
  decide +kernel
def qX10_laysMoves_210 (N : Nat) (c132 : Nat × Int32 → osM Unit) (l0 : Nat) (l1 : Int32) (k0 : Int32) (k1 : Int32) (k2 : Nat) : osM Unit := osbind (ossI 0 k2 k1 k0) fun _ => c132 (l0, (l1 + (1 : Int32)))
def qX10_laysMoves_195 (N : Nat) (c132 : Nat × Int32 → osM Unit) (l0 : Nat) (l1 : Int32) (l2 : Int32) (k0 : Int32) : osM Unit := osbind (osgR [8] 23 l0) fun x1 => osite (k0 = 0) (qX10_laysMoves_210 N c132 l0 l1 (-1 : Int32) l1 x1) (qX10_laysMoves_210 N c132 l0 l1 l2 l1 x1)
def qX10_laysMoves_194 (N : Nat) (c132 : Nat × Int32 → osM Unit) (l0 : Nat) (l1 : Int32) (l2 : Int32) : osM Unit := qX10_laysMoves_195 N c132 l0 l1 l2 (0 : Int32)
def bX10_laysMoves_132 (N : Nat) (c132 : Nat × Int32 → osM Unit) (l0 : Nat) (l1 : Int32) : osM Unit := osbind (osgI [8] 26 l0) fun x1 => osite (x1 ≤ l1) (osret ()) (osbind (osgR [8] 24 l0) fun x2 => osbind (osgR [8] 22 l0) fun x3 => osbind (osaI 0 x3 l1) fun x4 => osbind (osaI 0 x2 x4) fun x5 => osite (x5 = (-1 : Int32)) (qX10_laysMoves_194 N c132 l0 l1 x5) (osbind (osgR [8] 22 l0) fun x6 => osbind (osaI 0 x6 x5) fun x7 => osbind (osgR [8] 21 l0) fun x8 => osbind (osaI 0 x8 l1) fun x9 => osite (x7 = x9) (osbind (osgR [8] 25 l0) fun x10 => osbind (osaI 3 x10 l1) fun x11 => osite (x11 = 0) (osbind (osgR [8] 25 l0) fun x12 => osbind (osaI 3 x12 x5) fun x13 => osite (x13 = 0) (qX10_laysMoves_195 N c132 l0 l1 x5 (1 : Int32)) (qX10_laysMoves_194 N c132 l0 l1 x5)) (qX10_laysMoves_194 N c132 l0 l1 x5)) (qX10_laysMoves_194 N c132 l0 l1 x5)))
def qX10_laysMoves_132 (N : Nat) : Nat × Int32 → osM Unit := osloop (fun ih p => bX10_laysMoves_132 N ih p.1 p.2) N
def qX10_laysMoves_124 (N : Nat) (c7 : Nat × Int32 → osM Unit) (l0 : Nat) (l1 : Int32) : osM Unit := c7 (l0, (l1 + (1 : Int32)))
def qX10_laysMoves_113 (N : Nat) (c7 : Nat × Int32 → osM Unit) (l0 : Nat) (l1 : Int32) (k0 : Int32) (k1 : Int32) (k2 : Nat) : osM Unit := osbind (ossI 3 k2 k1 (vp_nar .boolean k0)) fun _ => osbind (osgI [8] 26 l0) fun x1 => osbind (osput [8] 26 l0 (.int (x1 + (1 : Int32)))) fun _ => qX10_laysMoves_124 N c7 l0 l1
def bX10_laysMoves_7 (N : Nat) (c7 : Nat × Int32 → osM Unit) (l0 : Nat) (l1 : Int32) : osM Unit := osite ((16 : Int32) ≤ l1) (qX10_laysMoves_132 N (l0, (0 : Int32))) (osbind (osgR [8] 24 l0) fun x1 => osbind (ossI 0 x1 l1 (-1 : Int32)) fun _ => osbind (osgR [8] 3 l0) fun x2 => osbind (qX10_isUnit N x2 l1) fun x3 => osite (x3 = 0) (qX10_laysMoves_124 N c7 l0 l1) (osbind (osgR [8] 3 l0) fun x4 => osbind (osaI 0 x4 ((117 : Int32) + l1)) fun x5 => osite (x5 = (1 : Int32)) (osbind (osgR [8] 24 l0) fun x6 => osbind (osgI [8] 26 l0) fun x7 => osbind (ossI 0 x6 l1 x7) fun _ => osbind (osgR [8] 21 l0) fun x8 => osbind (osgI [8] 26 l0) fun x9 => osbind (ossI 0 x8 x9 l1) fun _ => osbind (osgR [8] 22 l0) fun x10 => osbind (osgI [8] 26 l0) fun x11 => osbind (osgR [8] 3 l0) fun x12 => osbind (osaI 0 x12 ((133 : Int32) + l1)) fun x13 => osbind (ossI 0 x10 x11 x13) fun _ => osbind (osgR [8] 25 l0) fun x14 => osbind (osgI [8] 26 l0) fun x15 => osbind (osgR [8] 22 l0) fun x16 => osbind (osgI [8] 26 l0) fun x17 => osbind (osaI 0 x16 x17) fun x18 => osbind (osrecv [8] l0 (qX10_isDirect N l0 l1 x18)) fun x19 => osite (x19 = 0) (qX10_laysMoves_113 N c7 l0 l1 (1 : Int32) x15 x14) (qX10_laysMoves_113 N c7 l0 l1 (0 : Int32) x15 x14)) (qX10_laysMoves_124 N c7 l0 l1)))
def qX10_laysMoves_7 (N : Nat) : Nat × Int32 → osM Unit := osloop (fun ih p => bX10_laysMoves_7 N ih p.1 p.2) N
def qX10_laysMoves (N : Nat) (l0 : Nat) : osM Unit := osbind (osput [8] 26 l0 (.int (0 : Int32))) fun _ => qX10_laysMoves_7 N (l0, (0 : Int32))
set_option maxRecDepth 100000 in
set_option maxHeartbeats 4000000 in
theorem sX10_laysMoves_210 (N : Nat) (c132 : Nat × Int32 → osM Unit) (g132 : ∀ (l0 : Nat) (l1 : Int32), osW (osFinM (fun _ : Unit => none) 0 0) yX10_laysMoves cX10_laysMoves 4 none [] { frames := 3, cells := 0, slots := 0, locals := 67 } 0 0 132 [(0, .ref l0), (1, .int l1)] [] (c132 (l0, l1))) (l0 : Nat) (l1 : Int32) (k0 : Int32) (k1 : Int32) (k2 : Nat) : osW (osFinM (fun _ : Unit => none) 0 0) yX10_laysMoves cX10_laysMoves 4 none [] { frames := 3, cells := 0, slots := 0, locals := 67 } 0 0 210 [(0, .ref l0), (1, .int l1)] [.int k0, .int k1, .ref k2] (qX10_laysMoves_210 N c132 l0 l1 k0 k1 k2) := by
  unfold qX10_laysMoves_210
  refine os_iastore (hX10_laysMoves.at 122 rfl rfl) ?_
  refine os_iinc (i := 1) (d := 1) (x := l1) (v := (1 : Int32)) (lv' := [(1, .int (l1 + (1 : Int32))), (0, .ref l0)]) 1 rfl rfl (Nat.le_of_ble_eq_true rfl) rfl (hX10_laysMoves.at 123 rfl rfl) ?_
  refine os_goto (off := (-82)) (tgt := 132) rfl (hX10_laysMoves.at 124 rfl rfl) ?_
  exact osW.sub [1, 0] rfl (g132 l0 (l1 + (1 : Int32)))
set_option maxRecDepth 100000 in
set_option maxHeartbeats 4000000 in
theorem sX10_laysMoves_195 (N : Nat) (c132 : Nat × Int32 → osM Unit) (g132 : ∀ (l0 : Nat) (l1 : Int32), osW (osFinM (fun _ : Unit => none) 0 0) yX10_laysMoves cX10_laysMoves 4 none [] { frames := 3, cells := 0, slots := 0, locals := 67 } 0 0 132 [(0, .ref l0), (1, .int l1)] [] (c132 (l0, l1))) (l0 : Nat) (l1 : Int32) (l2 : Int32) (k0 : Int32) : osW (osFinM (fun _ : Unit => none) 0 0) yX10_laysMoves cX10_laysMoves 4 none [] { frames := 3, cells := 0, slots := 0, locals := 67 } 0 0 195 [(0, .ref l0), (1, .int l1), (2, .int l2)] [.int k0] (qX10_laysMoves_195 N c132 l0 l1 l2 k0) := by
  unfold qX10_laysMoves_195
  refine os_istore_n (i := 3) (q := 3) rfl (lv' := [(3, .int k0), (0, .ref l0), (1, .int l1), (2, .int l2)]) (Nat.le_of_ble_eq_true rfl) rfl (hX10_laysMoves.at 113 rfl rfl) ?_
  refine os_aload_n (i := 0) (q := 0) (v := l0) 1 rfl rfl (hX10_laysMoves.at 114 rfl rfl) ?_
  refine os_getR fX10_45 (hX10_laysMoves.at 115 rfl rfl) (fun x1 => ?_)
  refine os_iload_n (i := 1) (q := 1) (v := l1) 2 rfl rfl (hX10_laysMoves.at 116 rfl rfl) ?_
  refine os_iload_n (i := 3) (q := 3) (v := k0) 0 rfl rfl (hX10_laysMoves.at 117 rfl rfl) ?_
  refine os_if_eq (off := 7) (tgt := 209) rfl (hX10_laysMoves.at 118 rfl rfl) ?_ ?_
  · refine os_iconst (i := (-1)) (v := (-1 : Int32)) rfl (hX10_laysMoves.at 121 rfl rfl) ?_
    exact osW.sub [1, 2] rfl (sX10_laysMoves_210 N c132 g132 l0 l1 (-1 : Int32) l1 x1)
  · refine os_iload_n (i := 2) (q := 2) (v := l2) 3 rfl rfl (hX10_laysMoves.at 119 rfl rfl) ?_
    refine os_goto (off := 4) (tgt := 210) rfl (hX10_laysMoves.at 120 rfl rfl) ?_
    exact osW.sub [1, 2] rfl (sX10_laysMoves_210 N c132 g132 l0 l1 l2 l1 x1)
set_option maxRecDepth 100000 in
set_option maxHeartbeats 4000000 in
theorem sX10_laysMoves_194 (N : Nat) (c132 : Nat × Int32 → osM Unit) (g132 : ∀ (l0 : Nat) (l1 : Int32), osW (osFinM (fun _ : Unit => none) 0 0) yX10_laysMoves cX10_laysMoves 4 none [] { frames := 3, cells := 0, slots := 0, locals := 67 } 0 0 132 [(0, .ref l0), (1, .int l1)] [] (c132 (l0, l1))) (l0 : Nat) (l1 : Int32) (l2 : Int32) : osW (osFinM (fun _ : Unit => none) 0 0) yX10_laysMoves cX10_laysMoves 4 none [] { frames := 3, cells := 0, slots := 0, locals := 67 } 0 0 194 [(0, .ref l0), (1, .int l1), (2, .int l2)] [] (qX10_laysMoves_194 N c132 l0 l1 l2) := by
  unfold qX10_laysMoves_194
  refine os_iconst (i := 0) (v := (0 : Int32)) rfl (hX10_laysMoves.at 112 rfl rfl) ?_
  exact osW.sub [0, 1, 2] rfl (sX10_laysMoves_195 N c132 g132 l0 l1 l2 (0 : Int32))
set_option maxRecDepth 100000 in
set_option maxHeartbeats 4000000 in
theorem tX10_laysMoves_132 (N : Nat) (c132 : Nat × Int32 → osM Unit) (g132 : ∀ (l0 : Nat) (l1 : Int32), osW (osFinM (fun _ : Unit => none) 0 0) yX10_laysMoves cX10_laysMoves 4 none [] { frames := 3, cells := 0, slots := 0, locals := 67 } 0 0 132 [(0, .ref l0), (1, .int l1)] [] (c132 (l0, l1))) (l0 : Nat) (l1 : Int32) : osW (osFinM (fun _ : Unit => none) 0 0) yX10_laysMoves cX10_laysMoves 4 none [] { frames := 3, cells := 0, slots := 0, locals := 67 } 0 0 132 [(0, .ref l0), (1, .int l1)] [] (bX10_laysMoves_132 N c132 l0 l1) := by
  unfold bX10_laysMoves_132
  refine os_iload_n (i := 1) (q := 1) (v := l1) 1 rfl rfl (hX10_laysMoves.at 76 rfl rfl) ?_
  refine os_aload_n (i := 0) (q := 0) (v := l0) 0 rfl rfl (hX10_laysMoves.at 77 rfl rfl) ?_
  refine os_getI fX10_371 (hX10_laysMoves.at 78 rfl rfl) (fun x1 => ?_)
  refine os_icmp_ge (off := 80) (tgt := 217) rfl (hX10_laysMoves.at 79 rfl rfl) ?_ ?_
  · exact os_vret (Nat.le_of_ble_eq_true rfl) (Nat.le_of_ble_eq_true rfl) (hX10_laysMoves.at 125 rfl rfl).1
  · refine os_aload_n (i := 0) (q := 0) (v := l0) 0 rfl rfl (hX10_laysMoves.at 80 rfl rfl) ?_
    refine os_getR fX10_48 (hX10_laysMoves.at 81 rfl rfl) (fun x2 => ?_)
    refine os_aload_n (i := 0) (q := 0) (v := l0) 0 rfl rfl (hX10_laysMoves.at 82 rfl rfl) ?_
    refine os_getR fX10_42 (hX10_laysMoves.at 83 rfl rfl) (fun x3 => ?_)
    refine os_iload_n (i := 1) (q := 1) (v := l1) 1 rfl rfl (hX10_laysMoves.at 84 rfl rfl) ?_
    refine os_iaload (hX10_laysMoves.at 85 rfl rfl) (fun x4 => ?_)
    refine os_iaload (hX10_laysMoves.at 86 rfl rfl) (fun x5 => ?_)
    refine os_istore_n (i := 2) (q := 2) rfl (lv' := [(2, .int x5), (0, .ref l0), (1, .int l1)]) (Nat.le_of_ble_eq_true rfl) rfl (hX10_laysMoves.at 87 rfl rfl) ?_
    refine os_iload_n (i := 2) (q := 2) (v := x5) 0 rfl rfl (hX10_laysMoves.at 88 rfl rfl) ?_
    refine os_iconst (i := (-1)) (v := (-1 : Int32)) rfl (hX10_laysMoves.at 89 rfl rfl) ?_
    refine os_icmp_eq (off := 40) (tgt := 194) rfl (hX10_laysMoves.at 90 rfl rfl) ?_ ?_
    · exact osW.sub [1, 2, 0] rfl (sX10_laysMoves_194 N c132 g132 l0 l1 x5)
    · refine os_aload_n (i := 0) (q := 0) (v := l0) 1 rfl rfl (hX10_laysMoves.at 91 rfl rfl) ?_
      refine os_getR fX10_42 (hX10_laysMoves.at 92 rfl rfl) (fun x6 => ?_)
      refine os_iload_n (i := 2) (q := 2) (v := x5) 0 rfl rfl (hX10_laysMoves.at 93 rfl rfl) ?_
      refine os_iaload (hX10_laysMoves.at 94 rfl rfl) (fun x7 => ?_)
      refine os_aload_n (i := 0) (q := 0) (v := l0) 1 rfl rfl (hX10_laysMoves.at 95 rfl rfl) ?_
      refine os_getR fX10_39 (hX10_laysMoves.at 96 rfl rfl) (fun x8 => ?_)
      refine os_iload_n (i := 1) (q := 1) (v := l1) 2 rfl rfl (hX10_laysMoves.at 97 rfl rfl) ?_
      refine os_iaload (hX10_laysMoves.at 98 rfl rfl) (fun x9 => ?_)
      refine os_icmp_ne (off := 25) (tgt := 194) rfl (hX10_laysMoves.at 99 rfl rfl) ?_ ?_
      · exact osW.sub [1, 2, 0] rfl (sX10_laysMoves_194 N c132 g132 l0 l1 x5)
      · refine os_aload_n (i := 0) (q := 0) (v := l0) 1 rfl rfl (hX10_laysMoves.at 100 rfl rfl) ?_
        refine os_getR fX10_51 (hX10_laysMoves.at 101 rfl rfl) (fun x10 => ?_)
        refine os_iload_n (i := 1) (q := 1) (v := l1) 2 rfl rfl (hX10_laysMoves.at 102 rfl rfl) ?_
        refine os_zaload (hX10_laysMoves.at 103 rfl rfl) (fun x11 => ?_)
        refine os_if_ne (off := 16) (tgt := 194) rfl (hX10_laysMoves.at 104 rfl rfl) ?_ ?_
        · exact osW.sub [1, 2, 0] rfl (sX10_laysMoves_194 N c132 g132 l0 l1 x5)
        · refine os_aload_n (i := 0) (q := 0) (v := l0) 1 rfl rfl (hX10_laysMoves.at 105 rfl rfl) ?_
          refine os_getR fX10_51 (hX10_laysMoves.at 106 rfl rfl) (fun x12 => ?_)
          refine os_iload_n (i := 2) (q := 2) (v := x5) 0 rfl rfl (hX10_laysMoves.at 107 rfl rfl) ?_
          refine os_zaload (hX10_laysMoves.at 108 rfl rfl) (fun x13 => ?_)
          refine os_if_ne (off := 7) (tgt := 194) rfl (hX10_laysMoves.at 109 rfl rfl) ?_ ?_
          · exact osW.sub [1, 2, 0] rfl (sX10_laysMoves_194 N c132 g132 l0 l1 x5)
          · refine os_iconst (i := 1) (v := (1 : Int32)) rfl (hX10_laysMoves.at 110 rfl rfl) ?_
            refine os_goto (off := 4) (tgt := 195) rfl (hX10_laysMoves.at 111 rfl rfl) ?_
            exact osW.sub [1, 2, 0] rfl (sX10_laysMoves_195 N c132 g132 l0 l1 x5 (1 : Int32))
set_option maxRecDepth 100000 in
set_option maxHeartbeats 4000000 in
theorem sX10_laysMoves_132 (N : Nat) (l0 : Nat) (l1 : Int32) : osW (osFinM (fun _ : Unit => none) 0 0) yX10_laysMoves cX10_laysMoves 4 none [] { frames := 3, cells := 0, slots := 0, locals := 67 } 0 0 132 [(0, .ref l0), (1, .int l1)] [] (qX10_laysMoves_132 N (l0, l1)) :=
  osloop_W (lvf := fun p => [(0, .ref p.1), (1, .int p.2)]) (stf := fun p => []) (fun ih g p => tX10_laysMoves_132 N ih (fun l0 l1 => g (l0, l1)) p.1 p.2) N (l0, l1)
set_option maxRecDepth 100000 in
set_option maxHeartbeats 4000000 in
theorem sX10_laysMoves_124 (N : Nat) (c7 : Nat × Int32 → osM Unit) (g7 : ∀ (l0 : Nat) (l1 : Int32), osW (osFinM (fun _ : Unit => none) 0 0) yX10_laysMoves cX10_laysMoves 4 none [] { frames := 3, cells := 0, slots := 0, locals := 67 } 0 0 7 [(0, .ref l0), (1, .int l1)] [] (c7 (l0, l1))) (l0 : Nat) (l1 : Int32) : osW (osFinM (fun _ : Unit => none) 0 0) yX10_laysMoves cX10_laysMoves 4 none [] { frames := 3, cells := 0, slots := 0, locals := 67 } 0 0 124 [(0, .ref l0), (1, .int l1)] [] (qX10_laysMoves_124 N c7 l0 l1) := by
  unfold qX10_laysMoves_124
  refine os_iinc (i := 1) (d := 1) (x := l1) (v := (1 : Int32)) (lv' := [(1, .int (l1 + (1 : Int32))), (0, .ref l0)]) 1 rfl rfl (Nat.le_of_ble_eq_true rfl) rfl (hX10_laysMoves.at 72 rfl rfl) ?_
  refine os_goto (off := (-120)) (tgt := 7) rfl (hX10_laysMoves.at 73 rfl rfl) ?_
  exact osW.sub [1, 0] rfl (g7 l0 (l1 + (1 : Int32)))
set_option maxRecDepth 100000 in
set_option maxHeartbeats 4000000 in
theorem sX10_laysMoves_113 (N : Nat) (c7 : Nat × Int32 → osM Unit) (g7 : ∀ (l0 : Nat) (l1 : Int32), osW (osFinM (fun _ : Unit => none) 0 0) yX10_laysMoves cX10_laysMoves 4 none [] { frames := 3, cells := 0, slots := 0, locals := 67 } 0 0 7 [(0, .ref l0), (1, .int l1)] [] (c7 (l0, l1))) (l0 : Nat) (l1 : Int32) (k0 : Int32) (k1 : Int32) (k2 : Nat) : osW (osFinM (fun _ : Unit => none) 0 0) yX10_laysMoves cX10_laysMoves 4 none [] { frames := 3, cells := 0, slots := 0, locals := 67 } 0 0 113 [(0, .ref l0), (1, .int l1)] [.int k0, .int k1, .ref k2] (qX10_laysMoves_113 N c7 l0 l1 k0 k1 k2) := by
  unfold qX10_laysMoves_113
  refine os_zastore (hX10_laysMoves.at 65 rfl rfl) ?_
  refine os_aload_n (i := 0) (q := 0) (v := l0) 0 rfl rfl (hX10_laysMoves.at 66 rfl rfl) ?_
  refine os_aload_n (i := 0) (q := 0) (v := l0) 0 rfl rfl (hX10_laysMoves.at 67 rfl rfl) ?_
  refine os_getI fX10_371 (hX10_laysMoves.at 68 rfl rfl) (fun x1 => ?_)
  refine os_iconst (i := 1) (v := (1 : Int32)) rfl (hX10_laysMoves.at 69 rfl rfl) ?_
  refine os_iadd (hX10_laysMoves.at 70 rfl rfl) ?_
  refine os_put fX10_371 rfl rfl (hX10_laysMoves.at 71 rfl rfl) ?_
  exact osW.sub [0, 1] rfl (sX10_laysMoves_124 N c7 g7 l0 l1)
set_option maxRecDepth 100000 in
set_option maxHeartbeats 4000000 in
theorem tX10_laysMoves_7 (N : Nat) (c7 : Nat × Int32 → osM Unit) (g7 : ∀ (l0 : Nat) (l1 : Int32), osW (osFinM (fun _ : Unit => none) 0 0) yX10_laysMoves cX10_laysMoves 4 none [] { frames := 3, cells := 0, slots := 0, locals := 67 } 0 0 7 [(0, .ref l0), (1, .int l1)] [] (c7 (l0, l1))) (l0 : Nat) (l1 : Int32) : osW (osFinM (fun _ : Unit => none) 0 0) yX10_laysMoves cX10_laysMoves 4 none [] { frames := 3, cells := 0, slots := 0, locals := 67 } 0 0 7 [(0, .ref l0), (1, .int l1)] [] (bX10_laysMoves_7 N c7 l0 l1) := by
  unfold bX10_laysMoves_7
  refine os_iload_n (i := 1) (q := 1) (v := l1) 1 rfl rfl (hX10_laysMoves.at 5 rfl rfl) ?_
  refine os_bipush (i := 16) (v := (16 : Int32)) rfl (hX10_laysMoves.at 6 rfl rfl) ?_
  refine os_icmp_ge (off := 120) (tgt := 130) rfl (hX10_laysMoves.at 7 rfl rfl) ?_ ?_
  · refine os_iconst (i := 0) (v := (0 : Int32)) rfl (hX10_laysMoves.at 74 rfl rfl) ?_
    refine os_istore_n (i := 1) (q := 1) rfl (lv' := [(1, .int (0 : Int32)), (0, .ref l0)]) (Nat.le_of_ble_eq_true rfl) rfl (hX10_laysMoves.at 75 rfl rfl) ?_
    exact osW.sub [1, 0] rfl (sX10_laysMoves_132 N l0 (0 : Int32))
  · refine os_aload_n (i := 0) (q := 0) (v := l0) 0 rfl rfl (hX10_laysMoves.at 8 rfl rfl) ?_
    refine os_getR fX10_48 (hX10_laysMoves.at 9 rfl rfl) (fun x1 => ?_)
    refine os_iload_n (i := 1) (q := 1) (v := l1) 1 rfl rfl (hX10_laysMoves.at 10 rfl rfl) ?_
    refine os_iconst (i := (-1)) (v := (-1 : Int32)) rfl (hX10_laysMoves.at 11 rfl rfl) ?_
    refine os_iastore (hX10_laysMoves.at 12 rfl rfl) ?_
    refine os_aload_n (i := 0) (q := 0) (v := l0) 0 rfl rfl (hX10_laysMoves.at 13 rfl rfl) ?_
    refine os_getR fX10_16 (hX10_laysMoves.at 14 rfl rfl) (fun x2 => ?_)
    refine os_iload_n (i := 1) (q := 1) (v := l1) 1 rfl rfl (hX10_laysMoves.at 15 rfl rfl) ?_
    refine os_callS (As := [.ref x2, .int l1]) (st := []) (st' := (fun r => .int r :: [])) mdX10_isUnit wd1879 wd1880 (sX10_isUnit N x2 l1) rfl rfl (fun _ => rfl) (Nat.le_of_ble_eq_true rfl) (Nat.le_of_ble_eq_true rfl) (Nat.le_of_ble_eq_true rfl) rfl (Nat.le_of_ble_eq_true rfl) rfl (Nat.le_of_ble_eq_true rfl) (hX10_laysMoves.at 16 rfl rfl) (fun x3 => ?_)
    refine os_if_eq (off := 96) (tgt := 124) rfl (hX10_laysMoves.at 17 rfl rfl) ?_ ?_
    · exact osW.sub [0, 1] rfl (sX10_laysMoves_124 N c7 g7 l0 l1)
    · refine os_aload_n (i := 0) (q := 0) (v := l0) 0 rfl rfl (hX10_laysMoves.at 18 rfl rfl) ?_
      refine os_getR fX10_16 (hX10_laysMoves.at 19 rfl rfl) (fun x4 => ?_)
      refine os_bipush (i := 117) (v := (117 : Int32)) rfl (hX10_laysMoves.at 20 rfl rfl) ?_
      refine os_iload_n (i := 1) (q := 1) (v := l1) 1 rfl rfl (hX10_laysMoves.at 21 rfl rfl) ?_
      refine os_iadd (hX10_laysMoves.at 22 rfl rfl) ?_
      refine os_iaload (hX10_laysMoves.at 23 rfl rfl) (fun x5 => ?_)
      refine os_iconst (i := 1) (v := (1 : Int32)) rfl (hX10_laysMoves.at 24 rfl rfl) ?_
      refine os_icmp_ne (off := 83) (tgt := 124) rfl (hX10_laysMoves.at 25 rfl rfl) ?_ ?_
      · exact osW.sub [0, 1] rfl (sX10_laysMoves_124 N c7 g7 l0 l1)
      · refine os_aload_n (i := 0) (q := 0) (v := l0) 0 rfl rfl (hX10_laysMoves.at 26 rfl rfl) ?_
        refine os_getR fX10_48 (hX10_laysMoves.at 27 rfl rfl) (fun x6 => ?_)
        refine os_iload_n (i := 1) (q := 1) (v := l1) 1 rfl rfl (hX10_laysMoves.at 28 rfl rfl) ?_
        refine os_aload_n (i := 0) (q := 0) (v := l0) 0 rfl rfl (hX10_laysMoves.at 29 rfl rfl) ?_
        refine os_getI fX10_371 (hX10_laysMoves.at 30 rfl rfl) (fun x7 => ?_)
        refine os_iastore (hX10_laysMoves.at 31 rfl rfl) ?_
        refine os_aload_n (i := 0) (q := 0) (v := l0) 0 rfl rfl (hX10_laysMoves.at 32 rfl rfl) ?_
        refine os_getR fX10_39 (hX10_laysMoves.at 33 rfl rfl) (fun x8 => ?_)
        refine os_aload_n (i := 0) (q := 0) (v := l0) 0 rfl rfl (hX10_laysMoves.at 34 rfl rfl) ?_
        refine os_getI fX10_371 (hX10_laysMoves.at 35 rfl rfl) (fun x9 => ?_)
        refine os_iload_n (i := 1) (q := 1) (v := l1) 1 rfl rfl (hX10_laysMoves.at 36 rfl rfl) ?_
        refine os_iastore (hX10_laysMoves.at 37 rfl rfl) ?_
        refine os_aload_n (i := 0) (q := 0) (v := l0) 0 rfl rfl (hX10_laysMoves.at 38 rfl rfl) ?_
        refine os_getR fX10_42 (hX10_laysMoves.at 39 rfl rfl) (fun x10 => ?_)
        refine os_aload_n (i := 0) (q := 0) (v := l0) 0 rfl rfl (hX10_laysMoves.at 40 rfl rfl) ?_
        refine os_getI fX10_371 (hX10_laysMoves.at 41 rfl rfl) (fun x11 => ?_)
        refine os_aload_n (i := 0) (q := 0) (v := l0) 0 rfl rfl (hX10_laysMoves.at 42 rfl rfl) ?_
        refine os_getR fX10_16 (hX10_laysMoves.at 43 rfl rfl) (fun x12 => ?_)
        refine os_sipush (i := 133) (v := (133 : Int32)) rfl (hX10_laysMoves.at 44 rfl rfl) ?_
        refine os_iload_n (i := 1) (q := 1) (v := l1) 1 rfl rfl (hX10_laysMoves.at 45 rfl rfl) ?_
        refine os_iadd (hX10_laysMoves.at 46 rfl rfl) ?_
        refine os_iaload (hX10_laysMoves.at 47 rfl rfl) (fun x13 => ?_)
        refine os_iastore (hX10_laysMoves.at 48 rfl rfl) ?_
        refine os_aload_n (i := 0) (q := 0) (v := l0) 0 rfl rfl (hX10_laysMoves.at 49 rfl rfl) ?_
        refine os_getR fX10_51 (hX10_laysMoves.at 50 rfl rfl) (fun x14 => ?_)
        refine os_aload_n (i := 0) (q := 0) (v := l0) 0 rfl rfl (hX10_laysMoves.at 51 rfl rfl) ?_
        refine os_getI fX10_371 (hX10_laysMoves.at 52 rfl rfl) (fun x15 => ?_)
        refine os_aload_n (i := 0) (q := 0) (v := l0) 0 rfl rfl (hX10_laysMoves.at 53 rfl rfl) ?_
        refine os_iload_n (i := 1) (q := 1) (v := l1) 1 rfl rfl (hX10_laysMoves.at 54 rfl rfl) ?_
        refine os_aload_n (i := 0) (q := 0) (v := l0) 0 rfl rfl (hX10_laysMoves.at 55 rfl rfl) ?_
        refine os_getR fX10_42 (hX10_laysMoves.at 56 rfl rfl) (fun x16 => ?_)
        refine os_aload_n (i := 0) (q := 0) (v := l0) 0 rfl rfl (hX10_laysMoves.at 57 rfl rfl) ?_
        refine os_getI fX10_371 (hX10_laysMoves.at 58 rfl rfl) (fun x17 => ?_)
        refine os_iaload (hX10_laysMoves.at 59 rfl rfl) (fun x18 => ?_)
        refine os_callV (cis := [8]) (b := l0) (As := [.int l1, .int x18]) (st := [.int x15, .ref x14]) (st' := (fun r => .int r :: [.int x15, .ref x14])) sl8_X10_isDirect_X10_isDirect mdX10_isDirect wd1926 wd1928 (sX10_isDirect N l0 l1 x18) rfl rfl (fun _ => rfl) (Nat.le_of_ble_eq_true rfl) (Nat.le_of_ble_eq_true rfl) (Nat.le_of_ble_eq_true rfl) rfl (Nat.le_of_ble_eq_true rfl) rfl (Nat.le_of_ble_eq_true rfl) (hX10_laysMoves.at 60 rfl rfl) (fun x19 => ?_)
        refine os_if_ne (off := 7) (tgt := 112) rfl (hX10_laysMoves.at 61 rfl rfl) ?_ ?_
        · refine os_iconst (i := 0) (v := (0 : Int32)) rfl (hX10_laysMoves.at 64 rfl rfl) ?_
          exact osW.sub [0, 1] rfl (sX10_laysMoves_113 N c7 g7 l0 l1 (0 : Int32) x15 x14)
        · refine os_iconst (i := 1) (v := (1 : Int32)) rfl (hX10_laysMoves.at 62 rfl rfl) ?_
          refine os_goto (off := 4) (tgt := 113) rfl (hX10_laysMoves.at 63 rfl rfl) ?_
          exact osW.sub [0, 1] rfl (sX10_laysMoves_113 N c7 g7 l0 l1 (1 : Int32) x15 x14)
set_option maxRecDepth 100000 in
set_option maxHeartbeats 4000000 in
theorem sX10_laysMoves_7 (N : Nat) (l0 : Nat) (l1 : Int32) : osW (osFinM (fun _ : Unit => none) 0 0) yX10_laysMoves cX10_laysMoves 4 none [] { frames := 3, cells := 0, slots := 0, locals := 67 } 0 0 7 [(0, .ref l0), (1, .int l1)] [] (qX10_laysMoves_7 N (l0, l1)) :=
  osloop_W (lvf := fun p => [(0, .ref p.1), (1, .int p.2)]) (stf := fun p => []) (fun ih g p => tX10_laysMoves_7 N ih (fun l0 l1 => g (l0, l1)) p.1 p.2) N (l0, l1)
set_option maxRecDepth 100000 in
set_option maxHeartbeats 4000000 in
theorem sX10_laysMoves (N : Nat) (l0 : Nat) : osMet yX10_laysMoves cX10_laysMoves 4 none 3 67 0 0 (fun _ : Unit => none) [.ref l0] (qX10_laysMoves N l0) := by
  refine osMet.of plX10 (Nat.le_of_ble_eq_true rfl) (osW.rw (lv2 := [(0, .ref l0)]) ?_ rfl rfl rfl)
  unfold qX10_laysMoves
  refine os_aload_n (i := 0) (q := 0) (v := l0) 0 rfl rfl (hX10_laysMoves.at 0 rfl rfl) ?_
  refine os_iconst (i := 0) (v := (0 : Int32)) rfl (hX10_laysMoves.at 1 rfl rfl) ?_
  refine os_put fX10_371 rfl rfl (hX10_laysMoves.at 2 rfl rfl) ?_
  refine os_iconst (i := 0) (v := (0 : Int32)) rfl (hX10_laysMoves.at 3 rfl rfl) ?_
  refine os_istore_n (i := 1) (q := 1) rfl (lv' := [(1, .int (0 : Int32)), (0, .ref l0)]) (Nat.le_of_ble_eq_true rfl) rfl (hX10_laysMoves.at 4 rfl rfl) ?_
  exact osW.sub [1, 0] rfl (sX10_laysMoves_7 N l0 (0 : Int32))
-- X10_succeeds
def KX10_succeeds : List (Nat × Nat × Instr) := [(0, 1, .iload_n 1), (1, 1, .iconst (-1)), (2, 3, .if_icmp .eq 18), (5, 1, .aload_n 0), (6, 3, .getfield 374), (9, 1, .iload_n 1), (10, 3, .invokestatic 111), (13, 3, .ifCond .eq 7), (16, 1, .iconst 1), (17, 3, .goto 4), (20, 1, .iconst 0), (21, 1, .ireturn)]
theorem hX10_succeeds : osDs cX10_succeeds KX10_succeeds := by
  show ∀ q ∈ KX10_succeeds, decode cX10_succeeds q.1 = .ok (q.2.2, q.2.1)
  decide +kernel
def qX10_succeeds_21 (N : Nat) (k0 : Int32) : osM Int32 := osretZ k0
def qX10_succeeds_20 (N : Nat) : osM Int32 := qX10_succeeds_21 N (0 : Int32)
def qX10_succeeds (N : Nat) (l0 : Nat) (l1 : Int32) : osM Int32 := osite (l1 = (-1 : Int32)) (qX10_succeeds_20 N ) (osbind (osgI [8] 28 l0) fun x1 => osbind (qX10_has N x1 l1) fun x2 => osite (x2 = 0) (qX10_succeeds_20 N ) (qX10_succeeds_21 N (1 : Int32)))
set_option maxRecDepth 100000 in
set_option maxHeartbeats 4000000 in
theorem sX10_succeeds_21 (N : Nat) (k0 : Int32) : osW (osFinM (fun r : Int32 => some (.int r)) 0 0) yX10_succeeds cX10_succeeds 2 (some .boolean) [] { frames := 1, cells := 0, slots := 0, locals := 21 } 0 0 21 [] [.int k0] (qX10_succeeds_21 N k0) := by
  unfold qX10_succeeds_21
  exact os_zret (Nat.le_of_ble_eq_true rfl) (Nat.le_of_ble_eq_true rfl) (hX10_succeeds.at 11 rfl rfl).1
set_option maxRecDepth 100000 in
set_option maxHeartbeats 4000000 in
theorem sX10_succeeds_20 (N : Nat) : osW (osFinM (fun r : Int32 => some (.int r)) 0 0) yX10_succeeds cX10_succeeds 2 (some .boolean) [] { frames := 1, cells := 0, slots := 0, locals := 21 } 0 0 20 [] [] (qX10_succeeds_20 N) := by
  unfold qX10_succeeds_20
  refine os_iconst (i := 0) (v := (0 : Int32)) rfl (hX10_succeeds.at 10 rfl rfl) ?_
  exact osW.sub [] rfl (sX10_succeeds_21 N (0 : Int32))
set_option maxRecDepth 100000 in
set_option maxHeartbeats 4000000 in
theorem sX10_succeeds (N : Nat) (l0 : Nat) (l1 : Int32) : osMet yX10_succeeds cX10_succeeds 2 (some .boolean) 1 21 0 0 (fun r : Int32 => some (.int r)) [.ref l0, .int l1] (qX10_succeeds N l0 l1) := by
  refine osMet.of plX10 (Nat.le_of_ble_eq_true rfl) (osW.rw (lv2 := [(0, .ref l0), (1, .int l1)]) ?_ rfl rfl rfl)
  unfold qX10_succeeds
  refine os_iload_n (i := 1) (q := 1) (v := l1) 1 rfl rfl (hX10_succeeds.at 0 rfl rfl) ?_
  refine os_iconst (i := (-1)) (v := (-1 : Int32)) rfl (hX10_succeeds.at 1 rfl rfl) ?_
  refine os_icmp_eq (off := 18) (tgt := 20) rfl (hX10_succeeds.at 2 rfl rfl) ?_ ?_
  · exact osW.sub [] rfl (sX10_succeeds_20 N )
  · refine os_aload_n (i := 0) (q := 0) (v := l0) 0 rfl rfl (hX10_succeeds.at 3 rfl rfl) ?_
    refine os_getI fX10_374 (hX10_succeeds.at 4 rfl rfl) (fun x1 => ?_)
    refine os_iload_n (i := 1) (q := 1) (v := l1) 1 rfl rfl (hX10_succeeds.at 5 rfl rfl) ?_
    refine os_callS (As := [.int x1, .int l1]) (st := []) (st' := (fun r => .int r :: [])) mdX10_has wd1860 wd1861 (sX10_has N x1 l1) rfl rfl (fun _ => rfl) (Nat.le_of_ble_eq_true rfl) (Nat.le_of_ble_eq_true rfl) (Nat.le_of_ble_eq_true rfl) rfl (Nat.le_of_ble_eq_true rfl) rfl (Nat.le_of_ble_eq_true rfl) (hX10_succeeds.at 6 rfl rfl) (fun x2 => ?_)
    refine os_if_eq (off := 7) (tgt := 20) rfl (hX10_succeeds.at 7 rfl rfl) ?_ ?_
    · exact osW.sub [] rfl (sX10_succeeds_20 N )
    · refine os_iconst (i := 1) (v := (1 : Int32)) rfl (hX10_succeeds.at 8 rfl rfl) ?_
      refine os_goto (off := 4) (tgt := 21) rfl (hX10_succeeds.at 9 rfl rfl) ?_
      exact osW.sub [] rfl (sX10_succeeds_21 N (1 : Int32))
-- X10_goals
def KX10_goals : List (Nat × Nat × Instr) := [(0, 1, .iconst 0), (1, 1, .istore_n 1), (2, 1, .iconst 0), (3, 1, .istore_n 2), (4, 1, .iload_n 2), (5, 1, .aload_n 0), (6, 3, .getfield 371), (9, 3, .if_icmp .ge 35), (12, 1, .aload_n 0), (13, 3, .getfield 374), (16, 1, .iload_n 2), (17, 3, .invokestatic 111), (20, 3, .ifCond .eq 16), (23, 1, .iload_n 1), (24, 1, .iconst 1), (25, 1, .aload_n 0), (26, 3, .getfield 42), (29, 1, .iload_n 2), (30, 1, .iaload), (31, 1, .ishl), (32, 1, .ior), (33, 3, .goto 4), (36, 1, .iload_n 1), (37, 1, .istore_n 1), (38, 3, .iinc 2 1), (41, 3, .goto (-37)), (44, 1, .iload_n 1), (45, 1, .ireturn)]
theorem hX10_goals : osDs cX10_goals KX10_goals := by
  show ∀ q ∈ KX10_goals, decode cX10_goals q.1 = .ok (q.2.2, q.2.1)
  decide +kernel
def qX10_goals_37 (N : Nat) (c4 : Nat × Int32 × Int32 → osM Int32) (l0 : Nat) (l2 : Int32) (k0 : Int32) : osM Int32 := c4 (l0, k0, (l2 + (1 : Int32)))
def bX10_goals_4 (N : Nat) (c4 : Nat × Int32 × Int32 → osM Int32) (l0 : Nat) (l1 : Int32) (l2 : Int32) : osM Int32 := osbind (osgI [8] 26 l0) fun x1 => osite (x1 ≤ l2) (osret l1) (osbind (osgI [8] 28 l0) fun x2 => osbind (qX10_has N x2 l2) fun x3 => osite (x3 = 0) (qX10_goals_37 N c4 l0 l2 l1) (osbind (osgR [8] 22 l0) fun x4 => osbind (osaI 0 x4 l2) fun x5 => qX10_goals_37 N c4 l0 l2 (l1 ||| (osshl (1 : Int32) x5))))
def qX10_goals_4 (N : Nat) : Nat × Int32 × Int32 → osM Int32 := osloop (fun ih p => bX10_goals_4 N ih p.1 p.2.1 p.2.2) N
def qX10_goals (N : Nat) (l0 : Nat) : osM Int32 := qX10_goals_4 N (l0, (0 : Int32), (0 : Int32))
set_option maxRecDepth 100000 in
set_option maxHeartbeats 4000000 in
theorem sX10_goals_37 (N : Nat) (c4 : Nat × Int32 × Int32 → osM Int32) (g4 : ∀ (l0 : Nat) (l1 : Int32) (l2 : Int32), osW (osFinM (fun r : Int32 => some (.int r)) 0 0) yX10_goals cX10_goals 3 (some .int) [] { frames := 1, cells := 0, slots := 0, locals := 21 } 0 0 4 [(0, .ref l0), (1, .int l1), (2, .int l2)] [] (c4 (l0, l1, l2))) (l0 : Nat) (l2 : Int32) (k0 : Int32) : osW (osFinM (fun r : Int32 => some (.int r)) 0 0) yX10_goals cX10_goals 3 (some .int) [] { frames := 1, cells := 0, slots := 0, locals := 21 } 0 0 37 [(0, .ref l0), (2, .int l2)] [.int k0] (qX10_goals_37 N c4 l0 l2 k0) := by
  unfold qX10_goals_37
  refine os_istore_n (i := 1) (q := 1) rfl (lv' := [(1, .int k0), (0, .ref l0), (2, .int l2)]) (Nat.le_of_ble_eq_true rfl) rfl (hX10_goals.at 23 rfl rfl) ?_
  refine os_iinc (i := 2) (d := 1) (x := l2) (v := (1 : Int32)) (lv' := [(2, .int (l2 + (1 : Int32))), (1, .int k0), (0, .ref l0)]) 2 rfl rfl (Nat.le_of_ble_eq_true rfl) rfl (hX10_goals.at 24 rfl rfl) ?_
  refine os_goto (off := (-37)) (tgt := 4) rfl (hX10_goals.at 25 rfl rfl) ?_
  exact osW.sub [2, 1, 0] rfl (g4 l0 k0 (l2 + (1 : Int32)))
set_option maxRecDepth 100000 in
set_option maxHeartbeats 4000000 in
theorem tX10_goals_4 (N : Nat) (c4 : Nat × Int32 × Int32 → osM Int32) (g4 : ∀ (l0 : Nat) (l1 : Int32) (l2 : Int32), osW (osFinM (fun r : Int32 => some (.int r)) 0 0) yX10_goals cX10_goals 3 (some .int) [] { frames := 1, cells := 0, slots := 0, locals := 21 } 0 0 4 [(0, .ref l0), (1, .int l1), (2, .int l2)] [] (c4 (l0, l1, l2))) (l0 : Nat) (l1 : Int32) (l2 : Int32) : osW (osFinM (fun r : Int32 => some (.int r)) 0 0) yX10_goals cX10_goals 3 (some .int) [] { frames := 1, cells := 0, slots := 0, locals := 21 } 0 0 4 [(0, .ref l0), (1, .int l1), (2, .int l2)] [] (bX10_goals_4 N c4 l0 l1 l2) := by
  unfold bX10_goals_4
  refine os_iload_n (i := 2) (q := 2) (v := l2) 2 rfl rfl (hX10_goals.at 4 rfl rfl) ?_
  refine os_aload_n (i := 0) (q := 0) (v := l0) 0 rfl rfl (hX10_goals.at 5 rfl rfl) ?_
  refine os_getI fX10_371 (hX10_goals.at 6 rfl rfl) (fun x1 => ?_)
  refine os_icmp_ge (off := 35) (tgt := 44) rfl (hX10_goals.at 7 rfl rfl) ?_ ?_
  · refine os_iload_n (i := 1) (q := 1) (v := l1) 1 rfl rfl (hX10_goals.at 26 rfl rfl) ?_
    exact os_iret (Nat.le_of_ble_eq_true rfl) (Nat.le_of_ble_eq_true rfl) (hX10_goals.at 27 rfl rfl).1
  · refine os_aload_n (i := 0) (q := 0) (v := l0) 0 rfl rfl (hX10_goals.at 8 rfl rfl) ?_
    refine os_getI fX10_374 (hX10_goals.at 9 rfl rfl) (fun x2 => ?_)
    refine os_iload_n (i := 2) (q := 2) (v := l2) 2 rfl rfl (hX10_goals.at 10 rfl rfl) ?_
    refine os_callS (As := [.int x2, .int l2]) (st := []) (st' := (fun r => .int r :: [])) mdX10_has wd1860 wd1861 (sX10_has N x2 l2) rfl rfl (fun _ => rfl) (Nat.le_of_ble_eq_true rfl) (Nat.le_of_ble_eq_true rfl) (Nat.le_of_ble_eq_true rfl) rfl (Nat.le_of_ble_eq_true rfl) rfl (Nat.le_of_ble_eq_true rfl) (hX10_goals.at 11 rfl rfl) (fun x3 => ?_)
    refine os_if_eq (off := 16) (tgt := 36) rfl (hX10_goals.at 12 rfl rfl) ?_ ?_
    · refine os_iload_n (i := 1) (q := 1) (v := l1) 1 rfl rfl (hX10_goals.at 22 rfl rfl) ?_
      exact osW.sub [0, 2] rfl (sX10_goals_37 N c4 g4 l0 l2 l1)
    · refine os_iload_n (i := 1) (q := 1) (v := l1) 1 rfl rfl (hX10_goals.at 13 rfl rfl) ?_
      refine os_iconst (i := 1) (v := (1 : Int32)) rfl (hX10_goals.at 14 rfl rfl) ?_
      refine os_aload_n (i := 0) (q := 0) (v := l0) 0 rfl rfl (hX10_goals.at 15 rfl rfl) ?_
      refine os_getR fX10_42 (hX10_goals.at 16 rfl rfl) (fun x4 => ?_)
      refine os_iload_n (i := 2) (q := 2) (v := l2) 2 rfl rfl (hX10_goals.at 17 rfl rfl) ?_
      refine os_iaload (hX10_goals.at 18 rfl rfl) (fun x5 => ?_)
      refine os_ishl (hX10_goals.at 19 rfl rfl) ?_
      refine os_ior (hX10_goals.at 20 rfl rfl) ?_
      refine os_goto (off := 4) (tgt := 37) rfl (hX10_goals.at 21 rfl rfl) ?_
      exact osW.sub [0, 2] rfl (sX10_goals_37 N c4 g4 l0 l2 (l1 ||| (osshl (1 : Int32) x5)))
set_option maxRecDepth 100000 in
set_option maxHeartbeats 4000000 in
theorem sX10_goals_4 (N : Nat) (l0 : Nat) (l1 : Int32) (l2 : Int32) : osW (osFinM (fun r : Int32 => some (.int r)) 0 0) yX10_goals cX10_goals 3 (some .int) [] { frames := 1, cells := 0, slots := 0, locals := 21 } 0 0 4 [(0, .ref l0), (1, .int l1), (2, .int l2)] [] (qX10_goals_4 N (l0, l1, l2)) :=
  osloop_W (lvf := fun p => [(0, .ref p.1), (1, .int p.2.1), (2, .int p.2.2)]) (stf := fun p => []) (fun ih g p => tX10_goals_4 N ih (fun l0 l1 l2 => g (l0, l1, l2)) p.1 p.2.1 p.2.2) N (l0, l1, l2)
set_option maxRecDepth 100000 in
set_option maxHeartbeats 4000000 in
theorem sX10_goals (N : Nat) (l0 : Nat) : osMet yX10_goals cX10_goals 3 (some .int) 1 21 0 0 (fun r : Int32 => some (.int r)) [.ref l0] (qX10_goals N l0) := by
  refine osMet.of plX10 (Nat.le_of_ble_eq_true rfl) (osW.rw (lv2 := [(0, .ref l0)]) ?_ rfl rfl rfl)
  unfold qX10_goals
  refine os_iconst (i := 0) (v := (0 : Int32)) rfl (hX10_goals.at 0 rfl rfl) ?_
  refine os_istore_n (i := 1) (q := 1) rfl (lv' := [(1, .int (0 : Int32)), (0, .ref l0)]) (Nat.le_of_ble_eq_true rfl) rfl (hX10_goals.at 1 rfl rfl) ?_
  refine os_iconst (i := 0) (v := (0 : Int32)) rfl (hX10_goals.at 2 rfl rfl) ?_
  refine os_istore_n (i := 2) (q := 2) rfl (lv' := [(2, .int (0 : Int32)), (1, .int (0 : Int32)), (0, .ref l0)]) (Nat.le_of_ble_eq_true rfl) rfl (hX10_goals.at 3 rfl rfl) ?_
  exact osW.sub [2, 1, 0] rfl (sX10_goals_4 N l0 (0 : Int32) (0 : Int32))
-- X10_laysDislodged
def KX10_laysDislodged : List (Nat × Nat × Instr) := [(0, 1, .aload_n 0), (1, 3, .invokevirtual 377), (4, 1, .istore_n 1), (5, 1, .aload_n 0), (6, 1, .iconst 0), (7, 3, .putfield 380), (10, 1, .iconst 0), (11, 1, .istore_n 2), (12, 1, .iload_n 2), (13, 1, .aload_n 0), (14, 3, .getfield 7), (17, 1, .iconst 0), (18, 1, .iaload), (19, 3, .if_icmp .ge 70), (22, 1, .aload_n 0), (23, 3, .getfield 16), (26, 1, .iload_n 2), (27, 3, .invokestatic 103), (30, 3, .ifCond .eq 28), (33, 1, .iload_n 1), (34, 1, .iload_n 2), (35, 3, .invokestatic 111), (38, 3, .ifCond .eq 20), (41, 1, .aload_n 0), (42, 1, .aload_n 0), (43, 3, .getfield 48), (46, 1, .iload_n 2), (47, 1, .iaload), (48, 3, .invokevirtual 383), (51, 3, .ifCond .ne 7), (54, 1, .iconst 1), (55, 3, .goto 4), (58, 1, .iconst 0), (59, 1, .istore_n 3), (60, 1, .aload_n 0), (61, 1, .iload_n 3), (62, 3, .ifCond .eq 14), (65, 1, .aload_n 0), (66, 3, .getfield 380), (69, 1, .iconst 1), (70, 1, .iload_n 2), (71, 1, .ishl), (72, 1, .ior), (73, 3, .goto 7), (76, 1, .aload_n 0), (77, 3, .getfield 380), (80, 3, .putfield 380), (83, 3, .iinc 2 1), (86, 3, .goto (-74)), (89, 1, .return_)]
theorem hX10_laysDislodged : osDs cX10_laysDislodged KX10_laysDislodged := by
  show ∀ q ∈ KX10_laysDislodged, decode cX10_laysDislodged q.1 = .ok (q.2.2, q.2.1)
  decide +kernel
def qX10_laysDislodged_80 (N : Nat) (c12 : Nat × Int32 × Int32 → osM Unit) (l0 : Nat) (l1 : Int32) (l2 : Int32) (k0 : Int32) (k1 : Nat) : osM Unit := osbind (osput [8] 29 k1 (.int k0)) fun _ => c12 (l0, l1, (l2 + (1 : Int32)))
def qX10_laysDislodged_59 (N : Nat) (c12 : Nat × Int32 × Int32 → osM Unit) (l0 : Nat) (l1 : Int32) (l2 : Int32) (k0 : Int32) : osM Unit := osite (k0 = 0) (osbind (osgI [8] 29 l0) fun x1 => qX10_laysDislodged_80 N c12 l0 l1 l2 x1 l0) (osbind (osgI [8] 29 l0) fun x2 => qX10_laysDislodged_80 N c12 l0 l1 l2 (x2 ||| (osshl (1 : Int32) l2)) l0)
def qX10_laysDislodged_58 (N : Nat) (c12 : Nat × Int32 × Int32 → osM Unit) (l0 : Nat) (l1 : Int32) (l2 : Int32) : osM Unit := qX10_laysDislodged_59 N c12 l0 l1 l2 (0 : Int32)
def bX10_laysDislodged_12 (N : Nat) (c12 : Nat × Int32 × Int32 → osM Unit) (l0 : Nat) (l1 : Int32) (l2 : Int32) : osM Unit := osbind (osgR [8] 1 l0) fun x1 => osbind (osaI 0 x1 (0 : Int32)) fun x2 => osite (x2 ≤ l2) (osret ()) (osbind (osgR [8] 3 l0) fun x3 => osbind (qX10_isUnit N x3 l2) fun x4 => osite (x4 = 0) (qX10_laysDislodged_58 N c12 l0 l1 l2) (osbind (qX10_has N l1 l2) fun x5 => osite (x5 = 0) (qX10_laysDislodged_58 N c12 l0 l1 l2) (osbind (osgR [8] 24 l0) fun x6 => osbind (osaI 0 x6 l2) fun x7 => osbind (osrecv [8] l0 (qX10_succeeds N l0 x7)) fun x8 => osite (x8 = 0) (qX10_laysDislodged_59 N c12 l0 l1 l2 (1 : Int32)) (qX10_laysDislodged_58 N c12 l0 l1 l2))))
def qX10_laysDislodged_12 (N : Nat) : Nat × Int32 × Int32 → osM Unit := osloop (fun ih p => bX10_laysDislodged_12 N ih p.1 p.2.1 p.2.2) N
def qX10_laysDislodged (N : Nat) (l0 : Nat) : osM Unit := osbind (osrecv [8] l0 (qX10_goals N l0)) fun x1 => osbind (osput [8] 29 l0 (.int (0 : Int32))) fun _ => qX10_laysDislodged_12 N (l0, x1, (0 : Int32))
set_option maxRecDepth 100000 in
set_option maxHeartbeats 4000000 in
theorem sX10_laysDislodged_80 (N : Nat) (c12 : Nat × Int32 × Int32 → osM Unit) (g12 : ∀ (l0 : Nat) (l1 : Int32) (l2 : Int32), osW (osFinM (fun _ : Unit => none) 0 0) yX10_laysDislodged cX10_laysDislodged 4 none [] { frames := 2, cells := 0, slots := 0, locals := 43 } 0 0 12 [(0, .ref l0), (1, .int l1), (2, .int l2)] [] (c12 (l0, l1, l2))) (l0 : Nat) (l1 : Int32) (l2 : Int32) (k0 : Int32) (k1 : Nat) : osW (osFinM (fun _ : Unit => none) 0 0) yX10_laysDislodged cX10_laysDislodged 4 none [] { frames := 2, cells := 0, slots := 0, locals := 43 } 0 0 80 [(0, .ref l0), (1, .int l1), (2, .int l2)] [.int k0, .ref k1] (qX10_laysDislodged_80 N c12 l0 l1 l2 k0 k1) := by
  unfold qX10_laysDislodged_80
  refine os_put fX10_380 rfl rfl (hX10_laysDislodged.at 46 rfl rfl) ?_
  refine os_iinc (i := 2) (d := 1) (x := l2) (v := (1 : Int32)) (lv' := [(2, .int (l2 + (1 : Int32))), (0, .ref l0), (1, .int l1)]) 2 rfl rfl (Nat.le_of_ble_eq_true rfl) rfl (hX10_laysDislodged.at 47 rfl rfl) ?_
  refine os_goto (off := (-74)) (tgt := 12) rfl (hX10_laysDislodged.at 48 rfl rfl) ?_
  exact osW.sub [1, 2, 0] rfl (g12 l0 l1 (l2 + (1 : Int32)))
set_option maxRecDepth 100000 in
set_option maxHeartbeats 4000000 in
theorem sX10_laysDislodged_59 (N : Nat) (c12 : Nat × Int32 × Int32 → osM Unit) (g12 : ∀ (l0 : Nat) (l1 : Int32) (l2 : Int32), osW (osFinM (fun _ : Unit => none) 0 0) yX10_laysDislodged cX10_laysDislodged 4 none [] { frames := 2, cells := 0, slots := 0, locals := 43 } 0 0 12 [(0, .ref l0), (1, .int l1), (2, .int l2)] [] (c12 (l0, l1, l2))) (l0 : Nat) (l1 : Int32) (l2 : Int32) (k0 : Int32) : osW (osFinM (fun _ : Unit => none) 0 0) yX10_laysDislodged cX10_laysDislodged 4 none [] { frames := 2, cells := 0, slots := 0, locals := 43 } 0 0 59 [(0, .ref l0), (1, .int l1), (2, .int l2)] [.int k0] (qX10_laysDislodged_59 N c12 l0 l1 l2 k0) := by
  unfold qX10_laysDislodged_59
  refine os_istore_n (i := 3) (q := 3) rfl (lv' := [(3, .int k0), (0, .ref l0), (1, .int l1), (2, .int l2)]) (Nat.le_of_ble_eq_true rfl) rfl (hX10_laysDislodged.at 33 rfl rfl) ?_
  refine os_aload_n (i := 0) (q := 0) (v := l0) 1 rfl rfl (hX10_laysDislodged.at 34 rfl rfl) ?_
  refine os_iload_n (i := 3) (q := 3) (v := k0) 0 rfl rfl (hX10_laysDislodged.at 35 rfl rfl) ?_
  refine os_if_eq (off := 14) (tgt := 76) rfl (hX10_laysDislodged.at 36 rfl rfl) ?_ ?_
  · refine os_aload_n (i := 0) (q := 0) (v := l0) 1 rfl rfl (hX10_laysDislodged.at 44 rfl rfl) ?_
    refine os_getI fX10_380 (hX10_laysDislodged.at 45 rfl rfl) (fun x1 => ?_)
    exact osW.sub [1, 2, 3] rfl (sX10_laysDislodged_80 N c12 g12 l0 l1 l2 x1 l0)
  · refine os_aload_n (i := 0) (q := 0) (v := l0) 1 rfl rfl (hX10_laysDislodged.at 37 rfl rfl) ?_
    refine os_getI fX10_380 (hX10_laysDislodged.at 38 rfl rfl) (fun x2 => ?_)
    refine os_iconst (i := 1) (v := (1 : Int32)) rfl (hX10_laysDislodged.at 39 rfl rfl) ?_
    refine os_iload_n (i := 2) (q := 2) (v := l2) 3 rfl rfl (hX10_laysDislodged.at 40 rfl rfl) ?_
    refine os_ishl (hX10_laysDislodged.at 41 rfl rfl) ?_
    refine os_ior (hX10_laysDislodged.at 42 rfl rfl) ?_
    refine os_goto (off := 7) (tgt := 80) rfl (hX10_laysDislodged.at 43 rfl rfl) ?_
    exact osW.sub [1, 2, 3] rfl (sX10_laysDislodged_80 N c12 g12 l0 l1 l2 (x2 ||| (osshl (1 : Int32) l2)) l0)
set_option maxRecDepth 100000 in
set_option maxHeartbeats 4000000 in
theorem sX10_laysDislodged_58 (N : Nat) (c12 : Nat × Int32 × Int32 → osM Unit) (g12 : ∀ (l0 : Nat) (l1 : Int32) (l2 : Int32), osW (osFinM (fun _ : Unit => none) 0 0) yX10_laysDislodged cX10_laysDislodged 4 none [] { frames := 2, cells := 0, slots := 0, locals := 43 } 0 0 12 [(0, .ref l0), (1, .int l1), (2, .int l2)] [] (c12 (l0, l1, l2))) (l0 : Nat) (l1 : Int32) (l2 : Int32) : osW (osFinM (fun _ : Unit => none) 0 0) yX10_laysDislodged cX10_laysDislodged 4 none [] { frames := 2, cells := 0, slots := 0, locals := 43 } 0 0 58 [(0, .ref l0), (1, .int l1), (2, .int l2)] [] (qX10_laysDislodged_58 N c12 l0 l1 l2) := by
  unfold qX10_laysDislodged_58
  refine os_iconst (i := 0) (v := (0 : Int32)) rfl (hX10_laysDislodged.at 32 rfl rfl) ?_
  exact osW.sub [0, 1, 2] rfl (sX10_laysDislodged_59 N c12 g12 l0 l1 l2 (0 : Int32))
set_option maxRecDepth 100000 in
set_option maxHeartbeats 4000000 in
theorem tX10_laysDislodged_12 (N : Nat) (c12 : Nat × Int32 × Int32 → osM Unit) (g12 : ∀ (l0 : Nat) (l1 : Int32) (l2 : Int32), osW (osFinM (fun _ : Unit => none) 0 0) yX10_laysDislodged cX10_laysDislodged 4 none [] { frames := 2, cells := 0, slots := 0, locals := 43 } 0 0 12 [(0, .ref l0), (1, .int l1), (2, .int l2)] [] (c12 (l0, l1, l2))) (l0 : Nat) (l1 : Int32) (l2 : Int32) : osW (osFinM (fun _ : Unit => none) 0 0) yX10_laysDislodged cX10_laysDislodged 4 none [] { frames := 2, cells := 0, slots := 0, locals := 43 } 0 0 12 [(0, .ref l0), (1, .int l1), (2, .int l2)] [] (bX10_laysDislodged_12 N c12 l0 l1 l2) := by
  unfold bX10_laysDislodged_12
  refine os_iload_n (i := 2) (q := 2) (v := l2) 2 rfl rfl (hX10_laysDislodged.at 8 rfl rfl) ?_
  refine os_aload_n (i := 0) (q := 0) (v := l0) 0 rfl rfl (hX10_laysDislodged.at 9 rfl rfl) ?_
  refine os_getR fX10_7 (hX10_laysDislodged.at 10 rfl rfl) (fun x1 => ?_)
  refine os_iconst (i := 0) (v := (0 : Int32)) rfl (hX10_laysDislodged.at 11 rfl rfl) ?_
  refine os_iaload (hX10_laysDislodged.at 12 rfl rfl) (fun x2 => ?_)
  refine os_icmp_ge (off := 70) (tgt := 89) rfl (hX10_laysDislodged.at 13 rfl rfl) ?_ ?_
  · exact os_vret (Nat.le_of_ble_eq_true rfl) (Nat.le_of_ble_eq_true rfl) (hX10_laysDislodged.at 49 rfl rfl).1
  · refine os_aload_n (i := 0) (q := 0) (v := l0) 0 rfl rfl (hX10_laysDislodged.at 14 rfl rfl) ?_
    refine os_getR fX10_16 (hX10_laysDislodged.at 15 rfl rfl) (fun x3 => ?_)
    refine os_iload_n (i := 2) (q := 2) (v := l2) 2 rfl rfl (hX10_laysDislodged.at 16 rfl rfl) ?_
    refine os_callS (As := [.ref x3, .int l2]) (st := []) (st' := (fun r => .int r :: [])) mdX10_isUnit wd1879 wd1880 (sX10_isUnit N x3 l2) rfl rfl (fun _ => rfl) (Nat.le_of_ble_eq_true rfl) (Nat.le_of_ble_eq_true rfl) (Nat.le_of_ble_eq_true rfl) rfl (Nat.le_of_ble_eq_true rfl) rfl (Nat.le_of_ble_eq_true rfl) (hX10_laysDislodged.at 17 rfl rfl) (fun x4 => ?_)
    refine os_if_eq (off := 28) (tgt := 58) rfl (hX10_laysDislodged.at 18 rfl rfl) ?_ ?_
    · exact osW.sub [0, 1, 2] rfl (sX10_laysDislodged_58 N c12 g12 l0 l1 l2)
    · refine os_iload_n (i := 1) (q := 1) (v := l1) 1 rfl rfl (hX10_laysDislodged.at 19 rfl rfl) ?_
      refine os_iload_n (i := 2) (q := 2) (v := l2) 2 rfl rfl (hX10_laysDislodged.at 20 rfl rfl) ?_
      refine os_callS (As := [.int l1, .int l2]) (st := []) (st' := (fun r => .int r :: [])) mdX10_has wd1860 wd1861 (sX10_has N l1 l2) rfl rfl (fun _ => rfl) (Nat.le_of_ble_eq_true rfl) (Nat.le_of_ble_eq_true rfl) (Nat.le_of_ble_eq_true rfl) rfl (Nat.le_of_ble_eq_true rfl) rfl (Nat.le_of_ble_eq_true rfl) (hX10_laysDislodged.at 21 rfl rfl) (fun x5 => ?_)
      refine os_if_eq (off := 20) (tgt := 58) rfl (hX10_laysDislodged.at 22 rfl rfl) ?_ ?_
      · exact osW.sub [0, 1, 2] rfl (sX10_laysDislodged_58 N c12 g12 l0 l1 l2)
      · refine os_aload_n (i := 0) (q := 0) (v := l0) 0 rfl rfl (hX10_laysDislodged.at 23 rfl rfl) ?_
        refine os_aload_n (i := 0) (q := 0) (v := l0) 0 rfl rfl (hX10_laysDislodged.at 24 rfl rfl) ?_
        refine os_getR fX10_48 (hX10_laysDislodged.at 25 rfl rfl) (fun x6 => ?_)
        refine os_iload_n (i := 2) (q := 2) (v := l2) 2 rfl rfl (hX10_laysDislodged.at 26 rfl rfl) ?_
        refine os_iaload (hX10_laysDislodged.at 27 rfl rfl) (fun x7 => ?_)
        refine os_callV (cis := [8]) (b := l0) (As := [.int x7]) (st := []) (st' := (fun r => .int r :: [])) sl8_X10_succeeds_X10_succeeds mdX10_succeeds wd2106 wd2108 (sX10_succeeds N l0 x7) rfl rfl (fun _ => rfl) (Nat.le_of_ble_eq_true rfl) (Nat.le_of_ble_eq_true rfl) (Nat.le_of_ble_eq_true rfl) rfl (Nat.le_of_ble_eq_true rfl) rfl (Nat.le_of_ble_eq_true rfl) (hX10_laysDislodged.at 28 rfl rfl) (fun x8 => ?_)
        refine os_if_ne (off := 7) (tgt := 58) rfl (hX10_laysDislodged.at 29 rfl rfl) ?_ ?_
        · exact osW.sub [0, 1, 2] rfl (sX10_laysDislodged_58 N c12 g12 l0 l1 l2)
        · refine os_iconst (i := 1) (v := (1 : Int32)) rfl (hX10_laysDislodged.at 30 rfl rfl) ?_
          refine os_goto (off := 4) (tgt := 59) rfl (hX10_laysDislodged.at 31 rfl rfl) ?_
          exact osW.sub [0, 1, 2] rfl (sX10_laysDislodged_59 N c12 g12 l0 l1 l2 (1 : Int32))
set_option maxRecDepth 100000 in
set_option maxHeartbeats 4000000 in
theorem sX10_laysDislodged_12 (N : Nat) (l0 : Nat) (l1 : Int32) (l2 : Int32) : osW (osFinM (fun _ : Unit => none) 0 0) yX10_laysDislodged cX10_laysDislodged 4 none [] { frames := 2, cells := 0, slots := 0, locals := 43 } 0 0 12 [(0, .ref l0), (1, .int l1), (2, .int l2)] [] (qX10_laysDislodged_12 N (l0, l1, l2)) :=
  osloop_W (lvf := fun p => [(0, .ref p.1), (1, .int p.2.1), (2, .int p.2.2)]) (stf := fun p => []) (fun ih g p => tX10_laysDislodged_12 N ih (fun l0 l1 l2 => g (l0, l1, l2)) p.1 p.2.1 p.2.2) N (l0, l1, l2)
set_option maxRecDepth 100000 in
set_option maxHeartbeats 4000000 in
theorem sX10_laysDislodged (N : Nat) (l0 : Nat) : osMet yX10_laysDislodged cX10_laysDislodged 4 none 2 43 0 0 (fun _ : Unit => none) [.ref l0] (qX10_laysDislodged N l0) := by
  refine osMet.of plX10 (Nat.le_of_ble_eq_true rfl) (osW.rw (lv2 := [(0, .ref l0)]) ?_ rfl rfl rfl)
  unfold qX10_laysDislodged
  refine os_aload_n (i := 0) (q := 0) (v := l0) 0 rfl rfl (hX10_laysDislodged.at 0 rfl rfl) ?_
  refine os_callV (cis := [8]) (b := l0) (As := []) (st := []) (st' := (fun r => .int r :: [])) sl8_X10_goals_X10_goals mdX10_goals wd2102 wd2104 (sX10_goals N l0 ) rfl rfl (fun _ => rfl) (Nat.le_of_ble_eq_true rfl) (Nat.le_of_ble_eq_true rfl) (Nat.le_of_ble_eq_true rfl) rfl (Nat.le_of_ble_eq_true rfl) rfl (Nat.le_of_ble_eq_true rfl) (hX10_laysDislodged.at 1 rfl rfl) (fun x1 => ?_)
  refine os_istore_n (i := 1) (q := 1) rfl (lv' := [(1, .int x1), (0, .ref l0)]) (Nat.le_of_ble_eq_true rfl) rfl (hX10_laysDislodged.at 2 rfl rfl) ?_
  refine os_aload_n (i := 0) (q := 0) (v := l0) 1 rfl rfl (hX10_laysDislodged.at 3 rfl rfl) ?_
  refine os_iconst (i := 0) (v := (0 : Int32)) rfl (hX10_laysDislodged.at 4 rfl rfl) ?_
  refine os_put fX10_380 rfl rfl (hX10_laysDislodged.at 5 rfl rfl) ?_
  refine os_iconst (i := 0) (v := (0 : Int32)) rfl (hX10_laysDislodged.at 6 rfl rfl) ?_
  refine os_istore_n (i := 2) (q := 2) rfl (lv' := [(2, .int (0 : Int32)), (1, .int x1), (0, .ref l0)]) (Nat.le_of_ble_eq_true rfl) rfl (hX10_laysDislodged.at 7 rfl rfl) ?_
  exact osW.sub [2, 1, 0] rfl (sX10_laysDislodged_12 N l0 x1 (0 : Int32))
-- X10_isConvoyed
def KX10_isConvoyed : List (Nat × Nat × Instr) := [(0, 1, .iconst 0), (1, 1, .istore_n 3), (2, 1, .iconst 0), (3, 2, .istore 4), (5, 2, .iload 4), (7, 1, .aload_n 0), (8, 3, .getfield 7), (11, 1, .iconst 0), (12, 1, .iaload), (13, 3, .if_icmp .ge 100), (16, 1, .aload_n 0), (17, 3, .getfield 16), (20, 2, .iload 4), (22, 3, .invokestatic 103), (25, 3, .ifCond .eq 63), (28, 1, .aload_n 0), (29, 3, .getfield 16), (32, 2, .bipush 117), (34, 2, .iload 4), (36, 1, .iadd), (37, 1, .iaload), (38, 1, .iconst 4), (39, 3, .if_icmp .ne 49), (42, 1, .aload_n 0), (43, 3, .getfield 16), (46, 3, .sipush 133), (49, 2, .iload 4), (51, 1, .iadd), (52, 1, .iaload), (53, 1, .iload_n 1), (54, 3, .if_icmp .ne 34), (57, 1, .aload_n 0), (58, 3, .getfield 16), (61, 3, .sipush 149), (64, 2, .iload 4), (66, 1, .iadd), (67, 1, .iaload), (68, 1, .iload_n 2), (69, 3, .if_icmp .ne 19), (72, 1, .aload_n 0), (73, 3, .getfield 380), (76, 2, .iload 4), (78, 3, .invokestatic 111), (81, 3, .ifCond .ne 7), (84, 1, .iconst 1), (85, 3, .goto 4), (88, 1, .iconst 0), (89, 2, .istore 5), (91, 2, .iload 5), (93, 3, .ifCond .eq 12), (96, 1, .iload_n 3), (97, 1, .iconst 1), (98, 2, .iload 4), (100, 1, .ishl), (101, 1, .ior), (102, 3, .goto 4), (105, 1, .iload_n 3), (106, 1, .istore_n 3), (107, 3, .iinc 4 1), (110, 3, .goto (-105)), (113, 1, .aload_n 0), (114, 3, .getfield 7), (117, 2, .bipush 82), (119, 1, .iload_n 1), (120, 1, .iadd), (121, 1, .iaload), (122, 1, .iload_n 3), (123, 1, .iand), (124, 2, .istore 4), (126, 1, .iconst 0), (127, 2, .istore 5), (129, 2, .iload 4), (131, 2, .iload 5), (133, 3, .if_icmp .eq 21), (136, 2, .iload 4), (138, 2, .istore 5), (140, 1, .aload_n 0), (141, 2, .iload 4), (143, 1, .iconst 1), (144, 3, .invokevirtual 359), (147, 1, .iload_n 3), (148, 1, .iand), (149, 2, .istore 4), (151, 3, .goto (-22)), (154, 2, .iload 4), (156, 1, .aload_n 0), (157, 3, .getfield 7), (160, 2, .bipush 82), (162, 1, .iload_n 2), (163, 1, .iadd), (164, 1, .iaload), (165, 1, .iand), (166, 3, .ifCond .eq 7), (169, 1, .iconst 1), (170, 3, .goto 4), (173, 1, .iconst 0), (174, 1, .ireturn)]
theorem hX10_isConvoyed : osDs cX10_isConvoyed KX10_isConvoyed := by
  show ∀ q ∈ KX10_isConvoyed, decode cX10_isConvoyed q.1 = .ok (q.2.2, q.2.1)
  decide +kernel
def qX10_isConvoyed_174 (N : Nat) (k0 : Int32) : osM Int32 := osretZ k0
def bX10_isConvoyed_129 (N : Nat) (c129 : Nat × Int32 × Int32 × Int32 × Int32 → osM Int32) (l0 : Nat) (l2 : Int32) (l3 : Int32) (l4 : Int32) (l5 : Int32) : osM Int32 := osite (l4 = l5) (osbind (osgR [8] 1 l0) fun x1 => osbind (osaI 0 x1 ((82 : Int32) + l2)) fun x2 => osite ((l4 &&& x2) = 0) (qX10_isConvoyed_174 N (0 : Int32)) (qX10_isConvoyed_174 N (1 : Int32))) (osbind (osrecv [8] l0 (qX10_widened N l0 l4 (1 : Int32))) fun x3 => c129 (l0, l2, l3, (x3 &&& l3), l4))
def qX10_isConvoyed_129 (N : Nat) : Nat × Int32 × Int32 × Int32 × Int32 → osM Int32 := osloop (fun ih p => bX10_isConvoyed_129 N ih p.1 p.2.1 p.2.2.1 p.2.2.2.1 p.2.2.2.2) N
def qX10_isConvoyed_106 (N : Nat) (c5 : Nat × Int32 × Int32 × Int32 × Int32 → osM Int32) (l0 : Nat) (l1 : Int32) (l2 : Int32) (l4 : Int32) (k0 : Int32) : osM Int32 := c5 (l0, l1, l2, k0, (l4 + (1 : Int32)))
def qX10_isConvoyed_89 (N : Nat) (c5 : Nat × Int32 × Int32 × Int32 × Int32 → osM Int32) (l0 : Nat) (l1 : Int32) (l2 : Int32) (l3 : Int32) (l4 : Int32) (k0 : Int32) : osM Int32 := osite (k0 = 0) (qX10_isConvoyed_106 N c5 l0 l1 l2 l4 l3) (qX10_isConvoyed_106 N c5 l0 l1 l2 l4 (l3 ||| (osshl (1 : Int32) l4)))
def qX10_isConvoyed_88 (N : Nat) (c5 : Nat × Int32 × Int32 × Int32 × Int32 → osM Int32) (l0 : Nat) (l1 : Int32) (l2 : Int32) (l3 : Int32) (l4 : Int32) : osM Int32 := qX10_isConvoyed_89 N c5 l0 l1 l2 l3 l4 (0 : Int32)
def bX10_isConvoyed_5 (N : Nat) (c5 : Nat × Int32 × Int32 × Int32 × Int32 → osM Int32) (l0 : Nat) (l1 : Int32) (l2 : Int32) (l3 : Int32) (l4 : Int32) : osM Int32 := osbind (osgR [8] 1 l0) fun x1 => osbind (osaI 0 x1 (0 : Int32)) fun x2 => osite (x2 ≤ l4) (osbind (osgR [8] 1 l0) fun x3 => osbind (osaI 0 x3 ((82 : Int32) + l1)) fun x4 => qX10_isConvoyed_129 N (l0, l2, l3, (x4 &&& l3), (0 : Int32))) (osbind (osgR [8] 3 l0) fun x5 => osbind (qX10_isUnit N x5 l4) fun x6 => osite (x6 = 0) (qX10_isConvoyed_88 N c5 l0 l1 l2 l3 l4) (osbind (osgR [8] 3 l0) fun x7 => osbind (osaI 0 x7 ((117 : Int32) + l4)) fun x8 => osite (x8 = (4 : Int32)) (osbind (osgR [8] 3 l0) fun x9 => osbind (osaI 0 x9 ((133 : Int32) + l4)) fun x10 => osite (x10 = l1) (osbind (osgR [8] 3 l0) fun x11 => osbind (osaI 0 x11 ((149 : Int32) + l4)) fun x12 => osite (x12 = l2) (osbind (osgI [8] 29 l0) fun x13 => osbind (qX10_has N x13 l4) fun x14 => osite (x14 = 0) (qX10_isConvoyed_89 N c5 l0 l1 l2 l3 l4 (1 : Int32)) (qX10_isConvoyed_88 N c5 l0 l1 l2 l3 l4)) (qX10_isConvoyed_88 N c5 l0 l1 l2 l3 l4)) (qX10_isConvoyed_88 N c5 l0 l1 l2 l3 l4)) (qX10_isConvoyed_88 N c5 l0 l1 l2 l3 l4)))
def qX10_isConvoyed_5 (N : Nat) : Nat × Int32 × Int32 × Int32 × Int32 → osM Int32 := osloop (fun ih p => bX10_isConvoyed_5 N ih p.1 p.2.1 p.2.2.1 p.2.2.2.1 p.2.2.2.2) N
def qX10_isConvoyed (N : Nat) (l0 : Nat) (l1 : Int32) (l2 : Int32) : osM Int32 := qX10_isConvoyed_5 N (l0, l1, l2, (0 : Int32), (0 : Int32))
set_option maxRecDepth 100000 in
set_option maxHeartbeats 4000000 in
theorem sX10_isConvoyed_174 (N : Nat) (k0 : Int32) : osW (osFinM (fun r : Int32 => some (.int r)) 0 0) yX10_isConvoyed cX10_isConvoyed 6 (some .boolean) [] { frames := 2, cells := 0, slots := 0, locals := 46 } 0 0 174 [] [.int k0] (qX10_isConvoyed_174 N k0) := by
  unfold qX10_isConvoyed_174
  exact os_zret (Nat.le_of_ble_eq_true rfl) (Nat.le_of_ble_eq_true rfl) (hX10_isConvoyed.at 96 rfl rfl).1
set_option maxRecDepth 100000 in
set_option maxHeartbeats 4000000 in
theorem tX10_isConvoyed_129 (N : Nat) (c129 : Nat × Int32 × Int32 × Int32 × Int32 → osM Int32) (g129 : ∀ (l0 : Nat) (l2 : Int32) (l3 : Int32) (l4 : Int32) (l5 : Int32), osW (osFinM (fun r : Int32 => some (.int r)) 0 0) yX10_isConvoyed cX10_isConvoyed 6 (some .boolean) [] { frames := 2, cells := 0, slots := 0, locals := 46 } 0 0 129 [(0, .ref l0), (2, .int l2), (3, .int l3), (4, .int l4), (5, .int l5)] [] (c129 (l0, l2, l3, l4, l5))) (l0 : Nat) (l2 : Int32) (l3 : Int32) (l4 : Int32) (l5 : Int32) : osW (osFinM (fun r : Int32 => some (.int r)) 0 0) yX10_isConvoyed cX10_isConvoyed 6 (some .boolean) [] { frames := 2, cells := 0, slots := 0, locals := 46 } 0 0 129 [(0, .ref l0), (2, .int l2), (3, .int l3), (4, .int l4), (5, .int l5)] [] (bX10_isConvoyed_129 N c129 l0 l2 l3 l4 l5) := by
  unfold bX10_isConvoyed_129
  refine os_iload (v := l4) 3 rfl (hX10_isConvoyed.at 71 rfl rfl) ?_
  refine os_iload (v := l5) 4 rfl (hX10_isConvoyed.at 72 rfl rfl) ?_
  refine os_icmp_eq (off := 21) (tgt := 154) rfl (hX10_isConvoyed.at 73 rfl rfl) ?_ ?_
  · refine os_iload (v := l4) 3 rfl (hX10_isConvoyed.at 84 rfl rfl) ?_
    refine os_aload_n (i := 0) (q := 0) (v := l0) 0 rfl rfl (hX10_isConvoyed.at 85 rfl rfl) ?_
    refine os_getR fX10_7 (hX10_isConvoyed.at 86 rfl rfl) (fun x1 => ?_)
    refine os_bipush (i := 82) (v := (82 : Int32)) rfl (hX10_isConvoyed.at 87 rfl rfl) ?_
    refine os_iload_n (i := 2) (q := 2) (v := l2) 1 rfl rfl (hX10_isConvoyed.at 88 rfl rfl) ?_
    refine os_iadd (hX10_isConvoyed.at 89 rfl rfl) ?_
    refine os_iaload (hX10_isConvoyed.at 90 rfl rfl) (fun x2 => ?_)
    refine os_iand (hX10_isConvoyed.at 91 rfl rfl) ?_
    refine os_if_eq (off := 7) (tgt := 173) rfl (hX10_isConvoyed.at 92 rfl rfl) ?_ ?_
    · refine os_iconst (i := 0) (v := (0 : Int32)) rfl (hX10_isConvoyed.at 95 rfl rfl) ?_
      exact osW.sub [] rfl (sX10_isConvoyed_174 N (0 : Int32))
    · refine os_iconst (i := 1) (v := (1 : Int32)) rfl (hX10_isConvoyed.at 93 rfl rfl) ?_
      refine os_goto (off := 4) (tgt := 174) rfl (hX10_isConvoyed.at 94 rfl rfl) ?_
      exact osW.sub [] rfl (sX10_isConvoyed_174 N (1 : Int32))
  · refine os_iload (v := l4) 3 rfl (hX10_isConvoyed.at 74 rfl rfl) ?_
    refine os_istore (i := 5) (lv' := [(5, .int l4), (0, .ref l0), (2, .int l2), (3, .int l3), (4, .int l4)]) (Nat.le_of_ble_eq_true rfl) rfl (hX10_isConvoyed.at 75 rfl rfl) ?_
    refine os_aload_n (i := 0) (q := 0) (v := l0) 1 rfl rfl (hX10_isConvoyed.at 76 rfl rfl) ?_
    refine os_iload (v := l4) 4 rfl (hX10_isConvoyed.at 77 rfl rfl) ?_
    refine os_iconst (i := 1) (v := (1 : Int32)) rfl (hX10_isConvoyed.at 78 rfl rfl) ?_
    refine os_callV (cis := [8]) (b := l0) (As := [.int l4, .int (1 : Int32)]) (st := []) (st' := (fun r => .int r :: [])) sl8_X10_widened_X10_widened mdX10_widened wd2034 wd2036 (sX10_widened N l0 l4 (1 : Int32)) rfl rfl (fun _ => rfl) (Nat.le_of_ble_eq_true rfl) (Nat.le_of_ble_eq_true rfl) (Nat.le_of_ble_eq_true rfl) rfl (Nat.le_of_ble_eq_true rfl) rfl (Nat.le_of_ble_eq_true rfl) (hX10_isConvoyed.at 79 rfl rfl) (fun x3 => ?_)
    refine os_iload_n (i := 3) (q := 3) (v := l3) 3 rfl rfl (hX10_isConvoyed.at 80 rfl rfl) ?_
    refine os_iand (hX10_isConvoyed.at 81 rfl rfl) ?_
    refine os_istore (i := 4) (lv' := [(4, .int (x3 &&& l3)), (5, .int l4), (0, .ref l0), (2, .int l2), (3, .int l3)]) (Nat.le_of_ble_eq_true rfl) rfl (hX10_isConvoyed.at 82 rfl rfl) ?_
    refine os_goto (off := (-22)) (tgt := 129) rfl (hX10_isConvoyed.at 83 rfl rfl) ?_
    exact osW.sub [2, 3, 4, 0, 1] rfl (g129 l0 l2 l3 (x3 &&& l3) l4)
set_option maxRecDepth 100000 in
set_option maxHeartbeats 4000000 in
theorem sX10_isConvoyed_129 (N : Nat) (l0 : Nat) (l2 : Int32) (l3 : Int32) (l4 : Int32) (l5 : Int32) : osW (osFinM (fun r : Int32 => some (.int r)) 0 0) yX10_isConvoyed cX10_isConvoyed 6 (some .boolean) [] { frames := 2, cells := 0, slots := 0, locals := 46 } 0 0 129 [(0, .ref l0), (2, .int l2), (3, .int l3), (4, .int l4), (5, .int l5)] [] (qX10_isConvoyed_129 N (l0, l2, l3, l4, l5)) :=
  osloop_W (lvf := fun p => [(0, .ref p.1), (2, .int p.2.1), (3, .int p.2.2.1), (4, .int p.2.2.2.1), (5, .int p.2.2.2.2)]) (stf := fun p => []) (fun ih g p => tX10_isConvoyed_129 N ih (fun l0 l2 l3 l4 l5 => g (l0, l2, l3, l4, l5)) p.1 p.2.1 p.2.2.1 p.2.2.2.1 p.2.2.2.2) N (l0, l2, l3, l4, l5)
set_option maxRecDepth 100000 in
set_option maxHeartbeats 4000000 in
theorem sX10_isConvoyed_106 (N : Nat) (c5 : Nat × Int32 × Int32 × Int32 × Int32 → osM Int32) (g5 : ∀ (l0 : Nat) (l1 : Int32) (l2 : Int32) (l3 : Int32) (l4 : Int32), osW (osFinM (fun r : Int32 => some (.int r)) 0 0) yX10_isConvoyed cX10_isConvoyed 6 (some .boolean) [] { frames := 2, cells := 0, slots := 0, locals := 46 } 0 0 5 [(0, .ref l0), (1, .int l1), (2, .int l2), (3, .int l3), (4, .int l4)] [] (c5 (l0, l1, l2, l3, l4))) (l0 : Nat) (l1 : Int32) (l2 : Int32) (l4 : Int32) (k0 : Int32) : osW (osFinM (fun r : Int32 => some (.int r)) 0 0) yX10_isConvoyed cX10_isConvoyed 6 (some .boolean) [] { frames := 2, cells := 0, slots := 0, locals := 46 } 0 0 106 [(0, .ref l0), (1, .int l1), (2, .int l2), (4, .int l4)] [.int k0] (qX10_isConvoyed_106 N c5 l0 l1 l2 l4 k0) := by
  unfold qX10_isConvoyed_106
  refine os_istore_n (i := 3) (q := 3) rfl (lv' := [(3, .int k0), (0, .ref l0), (1, .int l1), (2, .int l2), (4, .int l4)]) (Nat.le_of_ble_eq_true rfl) rfl (hX10_isConvoyed.at 57 rfl rfl) ?_
  refine os_iinc (i := 4) (d := 1) (x := l4) (v := (1 : Int32)) (lv' := [(4, .int (l4 + (1 : Int32))), (3, .int k0), (0, .ref l0), (1, .int l1), (2, .int l2)]) 4 rfl rfl (Nat.le_of_ble_eq_true rfl) rfl (hX10_isConvoyed.at 58 rfl rfl) ?_
  refine os_goto (off := (-105)) (tgt := 5) rfl (hX10_isConvoyed.at 59 rfl rfl) ?_
  exact osW.sub [2, 3, 4, 1, 0] rfl (g5 l0 l1 l2 k0 (l4 + (1 : Int32)))
set_option maxRecDepth 100000 in
set_option maxHeartbeats 4000000 in
theorem sX10_isConvoyed_89 (N : Nat) (c5 : Nat × Int32 × Int32 × Int32 × Int32 → osM Int32) (g5 : ∀ (l0 : Nat) (l1 : Int32) (l2 : Int32) (l3 : Int32) (l4 : Int32), osW (osFinM (fun r : Int32 => some (.int r)) 0 0) yX10_isConvoyed cX10_isConvoyed 6 (some .boolean) [] { frames := 2, cells := 0, slots := 0, locals := 46 } 0 0 5 [(0, .ref l0), (1, .int l1), (2, .int l2), (3, .int l3), (4, .int l4)] [] (c5 (l0, l1, l2, l3, l4))) (l0 : Nat) (l1 : Int32) (l2 : Int32) (l3 : Int32) (l4 : Int32) (k0 : Int32) : osW (osFinM (fun r : Int32 => some (.int r)) 0 0) yX10_isConvoyed cX10_isConvoyed 6 (some .boolean) [] { frames := 2, cells := 0, slots := 0, locals := 46 } 0 0 89 [(0, .ref l0), (1, .int l1), (2, .int l2), (3, .int l3), (4, .int l4)] [.int k0] (qX10_isConvoyed_89 N c5 l0 l1 l2 l3 l4 k0) := by
  unfold qX10_isConvoyed_89
  refine os_istore (i := 5) (lv' := [(5, .int k0), (0, .ref l0), (1, .int l1), (2, .int l2), (3, .int l3), (4, .int l4)]) (Nat.le_of_ble_eq_true rfl) rfl (hX10_isConvoyed.at 47 rfl rfl) ?_
  refine os_iload (v := k0) 0 rfl (hX10_isConvoyed.at 48 rfl rfl) ?_
  refine os_if_eq (off := 12) (tgt := 105) rfl (hX10_isConvoyed.at 49 rfl rfl) ?_ ?_
  · refine os_iload_n (i := 3) (q := 3) (v := l3) 4 rfl rfl (hX10_isConvoyed.at 56 rfl rfl) ?_
    exact osW.sub [1, 2, 3, 5] rfl (sX10_isConvoyed_106 N c5 g5 l0 l1 l2 l4 l3)
  · refine os_iload_n (i := 3) (q := 3) (v := l3) 4 rfl rfl (hX10_isConvoyed.at 50 rfl rfl) ?_
    refine os_iconst (i := 1) (v := (1 : Int32)) rfl (hX10_isConvoyed.at 51 rfl rfl) ?_
    refine os_iload (v := l4) 5 rfl (hX10_isConvoyed.at 52 rfl rfl) ?_
    refine os_ishl (hX10_isConvoyed.at 53 rfl rfl) ?_
    refine os_ior (hX10_isConvoyed.at 54 rfl rfl) ?_
    refine os_goto (off := 4) (tgt := 106) rfl (hX10_isConvoyed.at 55 rfl rfl) ?_
    exact osW.sub [1, 2, 3, 5] rfl (sX10_isConvoyed_106 N c5 g5 l0 l1 l2 l4 (l3 ||| (osshl (1 : Int32) l4)))
set_option maxRecDepth 100000 in
set_option maxHeartbeats 4000000 in
theorem sX10_isConvoyed_88 (N : Nat) (c5 : Nat × Int32 × Int32 × Int32 × Int32 → osM Int32) (g5 : ∀ (l0 : Nat) (l1 : Int32) (l2 : Int32) (l3 : Int32) (l4 : Int32), osW (osFinM (fun r : Int32 => some (.int r)) 0 0) yX10_isConvoyed cX10_isConvoyed 6 (some .boolean) [] { frames := 2, cells := 0, slots := 0, locals := 46 } 0 0 5 [(0, .ref l0), (1, .int l1), (2, .int l2), (3, .int l3), (4, .int l4)] [] (c5 (l0, l1, l2, l3, l4))) (l0 : Nat) (l1 : Int32) (l2 : Int32) (l3 : Int32) (l4 : Int32) : osW (osFinM (fun r : Int32 => some (.int r)) 0 0) yX10_isConvoyed cX10_isConvoyed 6 (some .boolean) [] { frames := 2, cells := 0, slots := 0, locals := 46 } 0 0 88 [(0, .ref l0), (1, .int l1), (2, .int l2), (3, .int l3), (4, .int l4)] [] (qX10_isConvoyed_88 N c5 l0 l1 l2 l3 l4) := by
  unfold qX10_isConvoyed_88
  refine os_iconst (i := 0) (v := (0 : Int32)) rfl (hX10_isConvoyed.at 46 rfl rfl) ?_
  exact osW.sub [0, 1, 2, 3, 4] rfl (sX10_isConvoyed_89 N c5 g5 l0 l1 l2 l3 l4 (0 : Int32))
set_option maxRecDepth 100000 in
set_option maxHeartbeats 4000000 in
theorem tX10_isConvoyed_5 (N : Nat) (c5 : Nat × Int32 × Int32 × Int32 × Int32 → osM Int32) (g5 : ∀ (l0 : Nat) (l1 : Int32) (l2 : Int32) (l3 : Int32) (l4 : Int32), osW (osFinM (fun r : Int32 => some (.int r)) 0 0) yX10_isConvoyed cX10_isConvoyed 6 (some .boolean) [] { frames := 2, cells := 0, slots := 0, locals := 46 } 0 0 5 [(0, .ref l0), (1, .int l1), (2, .int l2), (3, .int l3), (4, .int l4)] [] (c5 (l0, l1, l2, l3, l4))) (l0 : Nat) (l1 : Int32) (l2 : Int32) (l3 : Int32) (l4 : Int32) : osW (osFinM (fun r : Int32 => some (.int r)) 0 0) yX10_isConvoyed cX10_isConvoyed 6 (some .boolean) [] { frames := 2, cells := 0, slots := 0, locals := 46 } 0 0 5 [(0, .ref l0), (1, .int l1), (2, .int l2), (3, .int l3), (4, .int l4)] [] (bX10_isConvoyed_5 N c5 l0 l1 l2 l3 l4) := by
  unfold bX10_isConvoyed_5
  refine os_iload (v := l4) 4 rfl (hX10_isConvoyed.at 4 rfl rfl) ?_
  refine os_aload_n (i := 0) (q := 0) (v := l0) 0 rfl rfl (hX10_isConvoyed.at 5 rfl rfl) ?_
  refine os_getR fX10_7 (hX10_isConvoyed.at 6 rfl rfl) (fun x1 => ?_)
  refine os_iconst (i := 0) (v := (0 : Int32)) rfl (hX10_isConvoyed.at 7 rfl rfl) ?_
  refine os_iaload (hX10_isConvoyed.at 8 rfl rfl) (fun x2 => ?_)
  refine os_icmp_ge (off := 100) (tgt := 113) rfl (hX10_isConvoyed.at 9 rfl rfl) ?_ ?_
  · refine os_aload_n (i := 0) (q := 0) (v := l0) 0 rfl rfl (hX10_isConvoyed.at 60 rfl rfl) ?_
    refine os_getR fX10_7 (hX10_isConvoyed.at 61 rfl rfl) (fun x3 => ?_)
    refine os_bipush (i := 82) (v := (82 : Int32)) rfl (hX10_isConvoyed.at 62 rfl rfl) ?_
    refine os_iload_n (i := 1) (q := 1) (v := l1) 1 rfl rfl (hX10_isConvoyed.at 63 rfl rfl) ?_
    refine os_iadd (hX10_isConvoyed.at 64 rfl rfl) ?_
    refine os_iaload (hX10_isConvoyed.at 65 rfl rfl) (fun x4 => ?_)
    refine os_iload_n (i := 3) (q := 3) (v := l3) 3 rfl rfl (hX10_isConvoyed.at 66 rfl rfl) ?_
    refine os_iand (hX10_isConvoyed.at 67 rfl rfl) ?_
    refine os_istore (i := 4) (lv' := [(4, .int (x4 &&& l3)), (0, .ref l0), (1, .int l1), (2, .int l2), (3, .int l3)]) (Nat.le_of_ble_eq_true rfl) rfl (hX10_isConvoyed.at 68 rfl rfl) ?_
    refine os_iconst (i := 0) (v := (0 : Int32)) rfl (hX10_isConvoyed.at 69 rfl rfl) ?_
    refine os_istore (i := 5) (lv' := [(5, .int (0 : Int32)), (4, .int (x4 &&& l3)), (0, .ref l0), (1, .int l1), (2, .int l2), (3, .int l3)]) (Nat.le_of_ble_eq_true rfl) rfl (hX10_isConvoyed.at 70 rfl rfl) ?_
    exact osW.sub [2, 4, 5, 1, 0] rfl (sX10_isConvoyed_129 N l0 l2 l3 (x4 &&& l3) (0 : Int32))
  · refine os_aload_n (i := 0) (q := 0) (v := l0) 0 rfl rfl (hX10_isConvoyed.at 10 rfl rfl) ?_
    refine os_getR fX10_16 (hX10_isConvoyed.at 11 rfl rfl) (fun x5 => ?_)
    refine os_iload (v := l4) 4 rfl (hX10_isConvoyed.at 12 rfl rfl) ?_
    refine os_callS (As := [.ref x5, .int l4]) (st := []) (st' := (fun r => .int r :: [])) mdX10_isUnit wd1879 wd1880 (sX10_isUnit N x5 l4) rfl rfl (fun _ => rfl) (Nat.le_of_ble_eq_true rfl) (Nat.le_of_ble_eq_true rfl) (Nat.le_of_ble_eq_true rfl) rfl (Nat.le_of_ble_eq_true rfl) rfl (Nat.le_of_ble_eq_true rfl) (hX10_isConvoyed.at 13 rfl rfl) (fun x6 => ?_)
    refine os_if_eq (off := 63) (tgt := 88) rfl (hX10_isConvoyed.at 14 rfl rfl) ?_ ?_
    · exact osW.sub [0, 1, 2, 3, 4] rfl (sX10_isConvoyed_88 N c5 g5 l0 l1 l2 l3 l4)
    · refine os_aload_n (i := 0) (q := 0) (v := l0) 0 rfl rfl (hX10_isConvoyed.at 15 rfl rfl) ?_
      refine os_getR fX10_16 (hX10_isConvoyed.at 16 rfl rfl) (fun x7 => ?_)
      refine os_bipush (i := 117) (v := (117 : Int32)) rfl (hX10_isConvoyed.at 17 rfl rfl) ?_
      refine os_iload (v := l4) 4 rfl (hX10_isConvoyed.at 18 rfl rfl) ?_
      refine os_iadd (hX10_isConvoyed.at 19 rfl rfl) ?_
      refine os_iaload (hX10_isConvoyed.at 20 rfl rfl) (fun x8 => ?_)
      refine os_iconst (i := 4) (v := (4 : Int32)) rfl (hX10_isConvoyed.at 21 rfl rfl) ?_
      refine os_icmp_ne (off := 49) (tgt := 88) rfl (hX10_isConvoyed.at 22 rfl rfl) ?_ ?_
      · exact osW.sub [0, 1, 2, 3, 4] rfl (sX10_isConvoyed_88 N c5 g5 l0 l1 l2 l3 l4)
      · refine os_aload_n (i := 0) (q := 0) (v := l0) 0 rfl rfl (hX10_isConvoyed.at 23 rfl rfl) ?_
        refine os_getR fX10_16 (hX10_isConvoyed.at 24 rfl rfl) (fun x9 => ?_)
        refine os_sipush (i := 133) (v := (133 : Int32)) rfl (hX10_isConvoyed.at 25 rfl rfl) ?_
        refine os_iload (v := l4) 4 rfl (hX10_isConvoyed.at 26 rfl rfl) ?_
        refine os_iadd (hX10_isConvoyed.at 27 rfl rfl) ?_
        refine os_iaload (hX10_isConvoyed.at 28 rfl rfl) (fun x10 => ?_)
        refine os_iload_n (i := 1) (q := 1) (v := l1) 1 rfl rfl (hX10_isConvoyed.at 29 rfl rfl) ?_
        refine os_icmp_ne (off := 34) (tgt := 88) rfl (hX10_isConvoyed.at 30 rfl rfl) ?_ ?_
        · exact osW.sub [0, 1, 2, 3, 4] rfl (sX10_isConvoyed_88 N c5 g5 l0 l1 l2 l3 l4)
        · refine os_aload_n (i := 0) (q := 0) (v := l0) 0 rfl rfl (hX10_isConvoyed.at 31 rfl rfl) ?_
          refine os_getR fX10_16 (hX10_isConvoyed.at 32 rfl rfl) (fun x11 => ?_)
          refine os_sipush (i := 149) (v := (149 : Int32)) rfl (hX10_isConvoyed.at 33 rfl rfl) ?_
          refine os_iload (v := l4) 4 rfl (hX10_isConvoyed.at 34 rfl rfl) ?_
          refine os_iadd (hX10_isConvoyed.at 35 rfl rfl) ?_
          refine os_iaload (hX10_isConvoyed.at 36 rfl rfl) (fun x12 => ?_)
          refine os_iload_n (i := 2) (q := 2) (v := l2) 2 rfl rfl (hX10_isConvoyed.at 37 rfl rfl) ?_
          refine os_icmp_ne (off := 19) (tgt := 88) rfl (hX10_isConvoyed.at 38 rfl rfl) ?_ ?_
          · exact osW.sub [0, 1, 2, 3, 4] rfl (sX10_isConvoyed_88 N c5 g5 l0 l1 l2 l3 l4)
          · refine os_aload_n (i := 0) (q := 0) (v := l0) 0 rfl rfl (hX10_isConvoyed.at 39 rfl rfl) ?_
            refine os_getI fX10_380 (hX10_isConvoyed.at 40 rfl rfl) (fun x13 => ?_)
            refine os_iload (v := l4) 4 rfl (hX10_isConvoyed.at 41 rfl rfl) ?_
            refine os_callS (As := [.int x13, .int l4]) (st := []) (st' := (fun r => .int r :: [])) mdX10_has wd1860 wd1861 (sX10_has N x13 l4) rfl rfl (fun _ => rfl) (Nat.le_of_ble_eq_true rfl) (Nat.le_of_ble_eq_true rfl) (Nat.le_of_ble_eq_true rfl) rfl (Nat.le_of_ble_eq_true rfl) rfl (Nat.le_of_ble_eq_true rfl) (hX10_isConvoyed.at 42 rfl rfl) (fun x14 => ?_)
            refine os_if_ne (off := 7) (tgt := 88) rfl (hX10_isConvoyed.at 43 rfl rfl) ?_ ?_
            · exact osW.sub [0, 1, 2, 3, 4] rfl (sX10_isConvoyed_88 N c5 g5 l0 l1 l2 l3 l4)
            · refine os_iconst (i := 1) (v := (1 : Int32)) rfl (hX10_isConvoyed.at 44 rfl rfl) ?_
              refine os_goto (off := 4) (tgt := 89) rfl (hX10_isConvoyed.at 45 rfl rfl) ?_
              exact osW.sub [0, 1, 2, 3, 4] rfl (sX10_isConvoyed_89 N c5 g5 l0 l1 l2 l3 l4 (1 : Int32))
set_option maxRecDepth 100000 in
set_option maxHeartbeats 4000000 in
theorem sX10_isConvoyed_5 (N : Nat) (l0 : Nat) (l1 : Int32) (l2 : Int32) (l3 : Int32) (l4 : Int32) : osW (osFinM (fun r : Int32 => some (.int r)) 0 0) yX10_isConvoyed cX10_isConvoyed 6 (some .boolean) [] { frames := 2, cells := 0, slots := 0, locals := 46 } 0 0 5 [(0, .ref l0), (1, .int l1), (2, .int l2), (3, .int l3), (4, .int l4)] [] (qX10_isConvoyed_5 N (l0, l1, l2, l3, l4)) :=
  osloop_W (lvf := fun p => [(0, .ref p.1), (1, .int p.2.1), (2, .int p.2.2.1), (3, .int p.2.2.2.1), (4, .int p.2.2.2.2)]) (stf := fun p => []) (fun ih g p => tX10_isConvoyed_5 N ih (fun l0 l1 l2 l3 l4 => g (l0, l1, l2, l3, l4)) p.1 p.2.1 p.2.2.1 p.2.2.2.1 p.2.2.2.2) N (l0, l1, l2, l3, l4)
set_option maxRecDepth 100000 in
set_option maxHeartbeats 4000000 in
theorem sX10_isConvoyed (N : Nat) (l0 : Nat) (l1 : Int32) (l2 : Int32) : osMet yX10_isConvoyed cX10_isConvoyed 6 (some .boolean) 2 46 0 0 (fun r : Int32 => some (.int r)) [.ref l0, .int l1, .int l2] (qX10_isConvoyed N l0 l1 l2) := by
  refine osMet.of plX10 (Nat.le_of_ble_eq_true rfl) (osW.rw (lv2 := [(0, .ref l0), (1, .int l1), (2, .int l2)]) ?_ rfl rfl rfl)
  unfold qX10_isConvoyed
  refine os_iconst (i := 0) (v := (0 : Int32)) rfl (hX10_isConvoyed.at 0 rfl rfl) ?_
  refine os_istore_n (i := 3) (q := 3) rfl (lv' := [(3, .int (0 : Int32)), (0, .ref l0), (1, .int l1), (2, .int l2)]) (Nat.le_of_ble_eq_true rfl) rfl (hX10_isConvoyed.at 1 rfl rfl) ?_
  refine os_iconst (i := 0) (v := (0 : Int32)) rfl (hX10_isConvoyed.at 2 rfl rfl) ?_
  refine os_istore (i := 4) (lv' := [(4, .int (0 : Int32)), (3, .int (0 : Int32)), (0, .ref l0), (1, .int l1), (2, .int l2)]) (Nat.le_of_ble_eq_true rfl) rfl (hX10_isConvoyed.at 3 rfl rfl) ?_
  exact osW.sub [2, 3, 4, 1, 0] rfl (sX10_isConvoyed_5 N l0 l1 l2 (0 : Int32) (0 : Int32))
-- X10_laysPaths
def KX10_laysPaths : List (Nat × Nat × Instr) := [(0, 1, .aload_n 0), (1, 1, .iconst 0), (2, 3, .putfield 386), (5, 1, .iconst 0), (6, 1, .istore_n 1), (7, 1, .iload_n 1), (8, 1, .aload_n 0), (9, 3, .getfield 371), (12, 3, .if_icmp .ge 73), (15, 1, .aload_n 0), (16, 3, .getfield 51), (19, 1, .iload_n 1), (20, 1, .baload), (21, 3, .ifCond .eq 29), (24, 1, .aload_n 0), (25, 3, .getfield 389), (28, 3, .ifCond .ne 26), (31, 1, .aload_n 0), (32, 1, .aload_n 0), (33, 3, .getfield 39), (36, 1, .iload_n 1), (37, 1, .iaload), (38, 1, .aload_n 0), (39, 3, .getfield 42), (42, 1, .iload_n 1), (43, 1, .iaload), (44, 3, .invokevirtual 393), (47, 3, .ifCond .eq 7), (50, 1, .iconst 1), (51, 3, .goto 4), (54, 1, .iconst 0), (55, 1, .istore_n 2), (56, 1, .aload_n 0), (57, 1, .iload_n 2), (58, 3, .ifCond .eq 14), (61, 1, .aload_n 0), (62, 3, .getfield 386), (65, 1, .iconst 1), (66, 1, .iload_n 1), (67, 1, .ishl), (68, 1, .ior), (69, 3, .goto 7), (72, 1, .aload_n 0), (73, 3, .getfield 386), (76, 3, .putfield 386), (79, 3, .iinc 1 1), (82, 3, .goto (-75)), (85, 1, .return_)]
theorem hX10_laysPaths : osDs cX10_laysPaths KX10_laysPaths := by
  show ∀ q ∈ KX10_laysPaths, decode cX10_laysPaths q.1 = .ok (q.2.2, q.2.1)
  decide +kernel
def qX10_laysPaths_76 (N : Nat) (c7 : Nat × Int32 → osM Unit) (l0 : Nat) (l1 : Int32) (k0 : Int32) (k1 : Nat) : osM Unit := osbind (osput [8] 30 k1 (.int k0)) fun _ => c7 (l0, (l1 + (1 : Int32)))
def qX10_laysPaths_55 (N : Nat) (c7 : Nat × Int32 → osM Unit) (l0 : Nat) (l1 : Int32) (k0 : Int32) : osM Unit := osite (k0 = 0) (osbind (osgI [8] 30 l0) fun x1 => qX10_laysPaths_76 N c7 l0 l1 x1 l0) (osbind (osgI [8] 30 l0) fun x2 => qX10_laysPaths_76 N c7 l0 l1 (x2 ||| (osshl (1 : Int32) l1)) l0)
def qX10_laysPaths_50 (N : Nat) (c7 : Nat × Int32 → osM Unit) (l0 : Nat) (l1 : Int32) : osM Unit := qX10_laysPaths_55 N c7 l0 l1 (1 : Int32)
def qX10_laysPaths_54 (N : Nat) (c7 : Nat × Int32 → osM Unit) (l0 : Nat) (l1 : Int32) : osM Unit := qX10_laysPaths_55 N c7 l0 l1 (0 : Int32)
def bX10_laysPaths_7 (N : Nat) (c7 : Nat × Int32 → osM Unit) (l0 : Nat) (l1 : Int32) : osM Unit := osbind (osgI [8] 26 l0) fun x1 => osite (x1 ≤ l1) (osret ()) (osbind (osgR [8] 25 l0) fun x2 => osbind (osaI 3 x2 l1) fun x3 => osite (x3 = 0) (qX10_laysPaths_50 N c7 l0 l1) (osbind (osgI [8] 27 l0) fun x4 => osite (x4 = 0) (osbind (osgR [8] 21 l0) fun x5 => osbind (osaI 0 x5 l1) fun x6 => osbind (osgR [8] 22 l0) fun x7 => osbind (osaI 0 x7 l1) fun x8 => osbind (osrecv [8] l0 (qX10_isConvoyed N l0 x6 x8)) fun x9 => osite (x9 = 0) (qX10_laysPaths_54 N c7 l0 l1) (qX10_laysPaths_50 N c7 l0 l1)) (qX10_laysPaths_54 N c7 l0 l1)))
def qX10_laysPaths_7 (N : Nat) : Nat × Int32 → osM Unit := osloop (fun ih p => bX10_laysPaths_7 N ih p.1 p.2) N
def qX10_laysPaths (N : Nat) (l0 : Nat) : osM Unit := osbind (osput [8] 30 l0 (.int (0 : Int32))) fun _ => qX10_laysPaths_7 N (l0, (0 : Int32))
set_option maxRecDepth 100000 in
set_option maxHeartbeats 4000000 in
theorem sX10_laysPaths_76 (N : Nat) (c7 : Nat × Int32 → osM Unit) (g7 : ∀ (l0 : Nat) (l1 : Int32), osW (osFinM (fun _ : Unit => none) 0 0) yX10_laysPaths cX10_laysPaths 3 none [] { frames := 3, cells := 0, slots := 0, locals := 71 } 0 0 7 [(0, .ref l0), (1, .int l1)] [] (c7 (l0, l1))) (l0 : Nat) (l1 : Int32) (k0 : Int32) (k1 : Nat) : osW (osFinM (fun _ : Unit => none) 0 0) yX10_laysPaths cX10_laysPaths 3 none [] { frames := 3, cells := 0, slots := 0, locals := 71 } 0 0 76 [(0, .ref l0), (1, .int l1)] [.int k0, .ref k1] (qX10_laysPaths_76 N c7 l0 l1 k0 k1) := by
  unfold qX10_laysPaths_76
  refine os_put fX10_386 rfl rfl (hX10_laysPaths.at 44 rfl rfl) ?_
  refine os_iinc (i := 1) (d := 1) (x := l1) (v := (1 : Int32)) (lv' := [(1, .int (l1 + (1 : Int32))), (0, .ref l0)]) 1 rfl rfl (Nat.le_of_ble_eq_true rfl) rfl (hX10_laysPaths.at 45 rfl rfl) ?_
  refine os_goto (off := (-75)) (tgt := 7) rfl (hX10_laysPaths.at 46 rfl rfl) ?_
  exact osW.sub [1, 0] rfl (g7 l0 (l1 + (1 : Int32)))
set_option maxRecDepth 100000 in
set_option maxHeartbeats 4000000 in
theorem sX10_laysPaths_55 (N : Nat) (c7 : Nat × Int32 → osM Unit) (g7 : ∀ (l0 : Nat) (l1 : Int32), osW (osFinM (fun _ : Unit => none) 0 0) yX10_laysPaths cX10_laysPaths 3 none [] { frames := 3, cells := 0, slots := 0, locals := 71 } 0 0 7 [(0, .ref l0), (1, .int l1)] [] (c7 (l0, l1))) (l0 : Nat) (l1 : Int32) (k0 : Int32) : osW (osFinM (fun _ : Unit => none) 0 0) yX10_laysPaths cX10_laysPaths 3 none [] { frames := 3, cells := 0, slots := 0, locals := 71 } 0 0 55 [(0, .ref l0), (1, .int l1)] [.int k0] (qX10_laysPaths_55 N c7 l0 l1 k0) := by
  unfold qX10_laysPaths_55
  refine os_istore_n (i := 2) (q := 2) rfl (lv' := [(2, .int k0), (0, .ref l0), (1, .int l1)]) (Nat.le_of_ble_eq_true rfl) rfl (hX10_laysPaths.at 31 rfl rfl) ?_
  refine os_aload_n (i := 0) (q := 0) (v := l0) 1 rfl rfl (hX10_laysPaths.at 32 rfl rfl) ?_
  refine os_iload_n (i := 2) (q := 2) (v := k0) 0 rfl rfl (hX10_laysPaths.at 33 rfl rfl) ?_
  refine os_if_eq (off := 14) (tgt := 72) rfl (hX10_laysPaths.at 34 rfl rfl) ?_ ?_
  · refine os_aload_n (i := 0) (q := 0) (v := l0) 1 rfl rfl (hX10_laysPaths.at 42 rfl rfl) ?_
    refine os_getI fX10_386 (hX10_laysPaths.at 43 rfl rfl) (fun x1 => ?_)
    exact osW.sub [1, 2] rfl (sX10_laysPaths_76 N c7 g7 l0 l1 x1 l0)
  · refine os_aload_n (i := 0) (q := 0) (v := l0) 1 rfl rfl (hX10_laysPaths.at 35 rfl rfl) ?_
    refine os_getI fX10_386 (hX10_laysPaths.at 36 rfl rfl) (fun x2 => ?_)
    refine os_iconst (i := 1) (v := (1 : Int32)) rfl (hX10_laysPaths.at 37 rfl rfl) ?_
    refine os_iload_n (i := 1) (q := 1) (v := l1) 2 rfl rfl (hX10_laysPaths.at 38 rfl rfl) ?_
    refine os_ishl (hX10_laysPaths.at 39 rfl rfl) ?_
    refine os_ior (hX10_laysPaths.at 40 rfl rfl) ?_
    refine os_goto (off := 7) (tgt := 76) rfl (hX10_laysPaths.at 41 rfl rfl) ?_
    exact osW.sub [1, 2] rfl (sX10_laysPaths_76 N c7 g7 l0 l1 (x2 ||| (osshl (1 : Int32) l1)) l0)
set_option maxRecDepth 100000 in
set_option maxHeartbeats 4000000 in
theorem sX10_laysPaths_50 (N : Nat) (c7 : Nat × Int32 → osM Unit) (g7 : ∀ (l0 : Nat) (l1 : Int32), osW (osFinM (fun _ : Unit => none) 0 0) yX10_laysPaths cX10_laysPaths 3 none [] { frames := 3, cells := 0, slots := 0, locals := 71 } 0 0 7 [(0, .ref l0), (1, .int l1)] [] (c7 (l0, l1))) (l0 : Nat) (l1 : Int32) : osW (osFinM (fun _ : Unit => none) 0 0) yX10_laysPaths cX10_laysPaths 3 none [] { frames := 3, cells := 0, slots := 0, locals := 71 } 0 0 50 [(0, .ref l0), (1, .int l1)] [] (qX10_laysPaths_50 N c7 l0 l1) := by
  unfold qX10_laysPaths_50
  refine os_iconst (i := 1) (v := (1 : Int32)) rfl (hX10_laysPaths.at 28 rfl rfl) ?_
  refine os_goto (off := 4) (tgt := 55) rfl (hX10_laysPaths.at 29 rfl rfl) ?_
  exact osW.sub [0, 1] rfl (sX10_laysPaths_55 N c7 g7 l0 l1 (1 : Int32))
set_option maxRecDepth 100000 in
set_option maxHeartbeats 4000000 in
theorem sX10_laysPaths_54 (N : Nat) (c7 : Nat × Int32 → osM Unit) (g7 : ∀ (l0 : Nat) (l1 : Int32), osW (osFinM (fun _ : Unit => none) 0 0) yX10_laysPaths cX10_laysPaths 3 none [] { frames := 3, cells := 0, slots := 0, locals := 71 } 0 0 7 [(0, .ref l0), (1, .int l1)] [] (c7 (l0, l1))) (l0 : Nat) (l1 : Int32) : osW (osFinM (fun _ : Unit => none) 0 0) yX10_laysPaths cX10_laysPaths 3 none [] { frames := 3, cells := 0, slots := 0, locals := 71 } 0 0 54 [(0, .ref l0), (1, .int l1)] [] (qX10_laysPaths_54 N c7 l0 l1) := by
  unfold qX10_laysPaths_54
  refine os_iconst (i := 0) (v := (0 : Int32)) rfl (hX10_laysPaths.at 30 rfl rfl) ?_
  exact osW.sub [0, 1] rfl (sX10_laysPaths_55 N c7 g7 l0 l1 (0 : Int32))
set_option maxRecDepth 100000 in
set_option maxHeartbeats 4000000 in
theorem tX10_laysPaths_7 (N : Nat) (c7 : Nat × Int32 → osM Unit) (g7 : ∀ (l0 : Nat) (l1 : Int32), osW (osFinM (fun _ : Unit => none) 0 0) yX10_laysPaths cX10_laysPaths 3 none [] { frames := 3, cells := 0, slots := 0, locals := 71 } 0 0 7 [(0, .ref l0), (1, .int l1)] [] (c7 (l0, l1))) (l0 : Nat) (l1 : Int32) : osW (osFinM (fun _ : Unit => none) 0 0) yX10_laysPaths cX10_laysPaths 3 none [] { frames := 3, cells := 0, slots := 0, locals := 71 } 0 0 7 [(0, .ref l0), (1, .int l1)] [] (bX10_laysPaths_7 N c7 l0 l1) := by
  unfold bX10_laysPaths_7
  refine os_iload_n (i := 1) (q := 1) (v := l1) 1 rfl rfl (hX10_laysPaths.at 5 rfl rfl) ?_
  refine os_aload_n (i := 0) (q := 0) (v := l0) 0 rfl rfl (hX10_laysPaths.at 6 rfl rfl) ?_
  refine os_getI fX10_371 (hX10_laysPaths.at 7 rfl rfl) (fun x1 => ?_)
  refine os_icmp_ge (off := 73) (tgt := 85) rfl (hX10_laysPaths.at 8 rfl rfl) ?_ ?_
  · exact os_vret (Nat.le_of_ble_eq_true rfl) (Nat.le_of_ble_eq_true rfl) (hX10_laysPaths.at 47 rfl rfl).1
  · refine os_aload_n (i := 0) (q := 0) (v := l0) 0 rfl rfl (hX10_laysPaths.at 9 rfl rfl) ?_
    refine os_getR fX10_51 (hX10_laysPaths.at 10 rfl rfl) (fun x2 => ?_)
    refine os_iload_n (i := 1) (q := 1) (v := l1) 1 rfl rfl (hX10_laysPaths.at 11 rfl rfl) ?_
    refine os_zaload (hX10_laysPaths.at 12 rfl rfl) (fun x3 => ?_)
    refine os_if_eq (off := 29) (tgt := 50) rfl (hX10_laysPaths.at 13 rfl rfl) ?_ ?_
    · exact osW.sub [0, 1] rfl (sX10_laysPaths_50 N c7 g7 l0 l1)
    · refine os_aload_n (i := 0) (q := 0) (v := l0) 0 rfl rfl (hX10_laysPaths.at 14 rfl rfl) ?_
      refine os_getI fX10_389 (hX10_laysPaths.at 15 rfl rfl) (fun x4 => ?_)
      refine os_if_ne (off := 26) (tgt := 54) rfl (hX10_laysPaths.at 16 rfl rfl) ?_ ?_
      · exact osW.sub [0, 1] rfl (sX10_laysPaths_54 N c7 g7 l0 l1)
      · refine os_aload_n (i := 0) (q := 0) (v := l0) 0 rfl rfl (hX10_laysPaths.at 17 rfl rfl) ?_
        refine os_aload_n (i := 0) (q := 0) (v := l0) 0 rfl rfl (hX10_laysPaths.at 18 rfl rfl) ?_
        refine os_getR fX10_39 (hX10_laysPaths.at 19 rfl rfl) (fun x5 => ?_)
        refine os_iload_n (i := 1) (q := 1) (v := l1) 1 rfl rfl (hX10_laysPaths.at 20 rfl rfl) ?_
        refine os_iaload (hX10_laysPaths.at 21 rfl rfl) (fun x6 => ?_)
        refine os_aload_n (i := 0) (q := 0) (v := l0) 0 rfl rfl (hX10_laysPaths.at 22 rfl rfl) ?_
        refine os_getR fX10_42 (hX10_laysPaths.at 23 rfl rfl) (fun x7 => ?_)
        refine os_iload_n (i := 1) (q := 1) (v := l1) 1 rfl rfl (hX10_laysPaths.at 24 rfl rfl) ?_
        refine os_iaload (hX10_laysPaths.at 25 rfl rfl) (fun x8 => ?_)
        refine os_callV (cis := [8]) (b := l0) (As := [.int x6, .int x8]) (st := []) (st' := (fun r => .int r :: [])) sl8_X10_isConvoyed_X10_isConvoyed mdX10_isConvoyed wd2114 wd2116 (sX10_isConvoyed N l0 x6 x8) rfl rfl (fun _ => rfl) (Nat.le_of_ble_eq_true rfl) (Nat.le_of_ble_eq_true rfl) (Nat.le_of_ble_eq_true rfl) rfl (Nat.le_of_ble_eq_true rfl) rfl (Nat.le_of_ble_eq_true rfl) (hX10_laysPaths.at 26 rfl rfl) (fun x9 => ?_)
        refine os_if_eq (off := 7) (tgt := 54) rfl (hX10_laysPaths.at 27 rfl rfl) ?_ ?_
        · exact osW.sub [0, 1] rfl (sX10_laysPaths_54 N c7 g7 l0 l1)
        · exact osW.sub [0, 1] rfl (sX10_laysPaths_50 N c7 g7 l0 l1)
set_option maxRecDepth 100000 in
set_option maxHeartbeats 4000000 in
theorem sX10_laysPaths_7 (N : Nat) (l0 : Nat) (l1 : Int32) : osW (osFinM (fun _ : Unit => none) 0 0) yX10_laysPaths cX10_laysPaths 3 none [] { frames := 3, cells := 0, slots := 0, locals := 71 } 0 0 7 [(0, .ref l0), (1, .int l1)] [] (qX10_laysPaths_7 N (l0, l1)) :=
  osloop_W (lvf := fun p => [(0, .ref p.1), (1, .int p.2)]) (stf := fun p => []) (fun ih g p => tX10_laysPaths_7 N ih (fun l0 l1 => g (l0, l1)) p.1 p.2) N (l0, l1)
set_option maxRecDepth 100000 in
set_option maxHeartbeats 4000000 in
theorem sX10_laysPaths (N : Nat) (l0 : Nat) : osMet yX10_laysPaths cX10_laysPaths 3 none 3 71 0 0 (fun _ : Unit => none) [.ref l0] (qX10_laysPaths N l0) := by
  refine osMet.of plX10 (Nat.le_of_ble_eq_true rfl) (osW.rw (lv2 := [(0, .ref l0)]) ?_ rfl rfl rfl)
  unfold qX10_laysPaths
  refine os_aload_n (i := 0) (q := 0) (v := l0) 0 rfl rfl (hX10_laysPaths.at 0 rfl rfl) ?_
  refine os_iconst (i := 0) (v := (0 : Int32)) rfl (hX10_laysPaths.at 1 rfl rfl) ?_
  refine os_put fX10_386 rfl rfl (hX10_laysPaths.at 2 rfl rfl) ?_
  refine os_iconst (i := 0) (v := (0 : Int32)) rfl (hX10_laysPaths.at 3 rfl rfl) ?_
  refine os_istore_n (i := 1) (q := 1) rfl (lv' := [(1, .int (0 : Int32)), (0, .ref l0)]) (Nat.le_of_ble_eq_true rfl) rfl (hX10_laysPaths.at 4 rfl rfl) ?_
  exact osW.sub [1, 0] rfl (sX10_laysPaths_7 N l0 (0 : Int32))
-- X10_belongs
def KX10_belongs : List (Nat × Nat × Instr) := [(0, 1, .aload_n 0), (1, 3, .getfield 16), (4, 3, .sipush 133), (7, 1, .iload_n 1), (8, 1, .iadd), (9, 1, .iaload), (10, 1, .istore_n 2), (11, 1, .aload_n 0), (12, 3, .getfield 16), (15, 2, .bipush 117), (17, 1, .iload_n 1), (18, 1, .iadd), (19, 1, .iaload), (20, 1, .iconst 2), (21, 3, .if_icmp .ne 19), (24, 1, .aload_n 0), (25, 3, .getfield 48), (28, 1, .iload_n 2), (29, 1, .iaload), (30, 1, .iconst (-1)), (31, 3, .if_icmp .ne 7), (34, 1, .iconst 1), (35, 3, .goto 4), (38, 1, .iconst 0), (39, 1, .ireturn), (40, 1, .aload_n 0), (41, 3, .getfield 16), (44, 2, .bipush 117), (46, 1, .iload_n 1), (47, 1, .iadd), (48, 1, .iaload), (49, 1, .iconst 3), (50, 3, .if_icmp .ne 41), (53, 1, .aload_n 0), (54, 3, .getfield 48), (57, 1, .iload_n 2), (58, 1, .iaload), (59, 1, .iconst (-1)), (60, 3, .if_icmp .eq 31), (63, 1, .aload_n 0), (64, 3, .getfield 42), (67, 1, .aload_n 0), (68, 3, .getfield 48), (71, 1, .iload_n 2), (72, 1, .iaload), (73, 1, .iaload), (74, 1, .aload_n 0), (75, 3, .getfield 16), (78, 3, .sipush 149), (81, 1, .iload_n 1), (82, 1, .iadd), (83, 1, .iaload), (84, 3, .if_icmp .ne 7), (87, 1, .iconst 1), (88, 3, .goto 4), (91, 1, .iconst 0), (92, 1, .ireturn)]
theorem hX10_belongs : osDs cX10_belongs KX10_belongs := by
  show ∀ q ∈ KX10_belongs, decode cX10_belongs q.1 = .ok (q.2.2, q.2.1)
  decide +kernel
def qX10_belongs_92 (N : Nat) (k0 : Int32) : osM Int32 := osretZ k0
def qX10_belongs_91 (N : Nat) : osM Int32 := qX10_belongs_92 N (0 : Int32)
def qX10_belongs_39 (N : Nat) (k0 : Int32) : osM Int32 := osretZ k0
def qX10_belongs (N : Nat) (l0 : Nat) (l1 : Int32) : osM Int32 := osbind (osgR [8] 3 l0) fun x1 => osbind (osaI 0 x1 ((133 : Int32) + l1)) fun x2 => osbind (osgR [8] 3 l0) fun x3 => osbind (osaI 0 x3 ((117 : Int32) + l1)) fun x4 => osite (x4 = (2 : Int32)) (osbind (osgR [8] 24 l0) fun x15 => osbind (osaI 0 x15 x2) fun x16 => osite (x16 = (-1 : Int32)) (qX10_belongs_39 N (1 : Int32)) (qX10_belongs_39 N (0 : Int32))) (osbind (osgR [8] 3 l0) fun x5 => osbind (osaI 0 x5 ((117 : Int32) + l1)) fun x6 => osite (x6 = (3 : Int32)) (osbind (osgR [8] 24 l0) fun x7 => osbind (osaI 0 x7 x2) fun x8 => osite (x8 = (-1 : Int32)) (qX10_belongs_91 N ) (osbind (osgR [8] 22 l0) fun x9 => osbind (osgR [8] 24 l0) fun x10 => osbind (osaI 0 x10 x2) fun x11 => osbind (osaI 0 x9 x11) fun x12 => osbind (osgR [8] 3 l0) fun x13 => osbind (osaI 0 x13 ((149 : Int32) + l1)) fun x14 => osite (x12 = x14) (qX10_belongs_92 N (1 : Int32)) (qX10_belongs_91 N ))) (qX10_belongs_91 N ))
set_option maxRecDepth 100000 in
set_option maxHeartbeats 4000000 in
theorem sX10_belongs_92 (N : Nat) (k0 : Int32) : osW (osFinM (fun r : Int32 => some (.int r)) 0 0) yX10_belongs cX10_belongs 3 (some .boolean) [] { frames := 0, cells := 0, slots := 0, locals := 0 } 0 0 92 [] [.int k0] (qX10_belongs_92 N k0) := by
  unfold qX10_belongs_92
  exact os_zret (Nat.le_of_ble_eq_true rfl) (Nat.le_of_ble_eq_true rfl) (hX10_belongs.at 56 rfl rfl).1
set_option maxRecDepth 100000 in
set_option maxHeartbeats 4000000 in
theorem sX10_belongs_91 (N : Nat) : osW (osFinM (fun r : Int32 => some (.int r)) 0 0) yX10_belongs cX10_belongs 3 (some .boolean) [] { frames := 0, cells := 0, slots := 0, locals := 0 } 0 0 91 [] [] (qX10_belongs_91 N) := by
  unfold qX10_belongs_91
  refine os_iconst (i := 0) (v := (0 : Int32)) rfl (hX10_belongs.at 55 rfl rfl) ?_
  exact osW.sub [] rfl (sX10_belongs_92 N (0 : Int32))
set_option maxRecDepth 100000 in
set_option maxHeartbeats 4000000 in
theorem sX10_belongs_39 (N : Nat) (k0 : Int32) : osW (osFinM (fun r : Int32 => some (.int r)) 0 0) yX10_belongs cX10_belongs 3 (some .boolean) [] { frames := 0, cells := 0, slots := 0, locals := 0 } 0 0 39 [] [.int k0] (qX10_belongs_39 N k0) := by
  unfold qX10_belongs_39
  exact os_zret (Nat.le_of_ble_eq_true rfl) (Nat.le_of_ble_eq_true rfl) (hX10_belongs.at 24 rfl rfl).1
set_option maxRecDepth 100000 in
set_option maxHeartbeats 4000000 in
theorem sX10_belongs (N : Nat) (l0 : Nat) (l1 : Int32) : osMet yX10_belongs cX10_belongs 3 (some .boolean) 0 0 0 0 (fun r : Int32 => some (.int r)) [.ref l0, .int l1] (qX10_belongs N l0 l1) := by
  refine osMet.of plX10 (Nat.le_of_ble_eq_true rfl) (osW.rw (lv2 := [(0, .ref l0), (1, .int l1)]) ?_ rfl rfl rfl)
  unfold qX10_belongs
  refine os_aload_n (i := 0) (q := 0) (v := l0) 0 rfl rfl (hX10_belongs.at 0 rfl rfl) ?_
  refine os_getR fX10_16 (hX10_belongs.at 1 rfl rfl) (fun x1 => ?_)
  refine os_sipush (i := 133) (v := (133 : Int32)) rfl (hX10_belongs.at 2 rfl rfl) ?_
  refine os_iload_n (i := 1) (q := 1) (v := l1) 1 rfl rfl (hX10_belongs.at 3 rfl rfl) ?_
  refine os_iadd (hX10_belongs.at 4 rfl rfl) ?_
  refine os_iaload (hX10_belongs.at 5 rfl rfl) (fun x2 => ?_)
  refine os_istore_n (i := 2) (q := 2) rfl (lv' := [(2, .int x2), (0, .ref l0), (1, .int l1)]) (Nat.le_of_ble_eq_true rfl) rfl (hX10_belongs.at 6 rfl rfl) ?_
  refine os_aload_n (i := 0) (q := 0) (v := l0) 1 rfl rfl (hX10_belongs.at 7 rfl rfl) ?_
  refine os_getR fX10_16 (hX10_belongs.at 8 rfl rfl) (fun x3 => ?_)
  refine os_bipush (i := 117) (v := (117 : Int32)) rfl (hX10_belongs.at 9 rfl rfl) ?_
  refine os_iload_n (i := 1) (q := 1) (v := l1) 2 rfl rfl (hX10_belongs.at 10 rfl rfl) ?_
  refine os_iadd (hX10_belongs.at 11 rfl rfl) ?_
  refine os_iaload (hX10_belongs.at 12 rfl rfl) (fun x4 => ?_)
  refine os_iconst (i := 2) (v := (2 : Int32)) rfl (hX10_belongs.at 13 rfl rfl) ?_
  refine os_icmp_ne (off := 19) (tgt := 40) rfl (hX10_belongs.at 14 rfl rfl) ?_ ?_
  · refine os_aload_n (i := 0) (q := 0) (v := l0) 1 rfl rfl (hX10_belongs.at 25 rfl rfl) ?_
    refine os_getR fX10_16 (hX10_belongs.at 26 rfl rfl) (fun x5 => ?_)
    refine os_bipush (i := 117) (v := (117 : Int32)) rfl (hX10_belongs.at 27 rfl rfl) ?_
    refine os_iload_n (i := 1) (q := 1) (v := l1) 2 rfl rfl (hX10_belongs.at 28 rfl rfl) ?_
    refine os_iadd (hX10_belongs.at 29 rfl rfl) ?_
    refine os_iaload (hX10_belongs.at 30 rfl rfl) (fun x6 => ?_)
    refine os_iconst (i := 3) (v := (3 : Int32)) rfl (hX10_belongs.at 31 rfl rfl) ?_
    refine os_icmp_ne (off := 41) (tgt := 91) rfl (hX10_belongs.at 32 rfl rfl) ?_ ?_
    · exact osW.sub [] rfl (sX10_belongs_91 N )
    · refine os_aload_n (i := 0) (q := 0) (v := l0) 1 rfl rfl (hX10_belongs.at 33 rfl rfl) ?_
      refine os_getR fX10_48 (hX10_belongs.at 34 rfl rfl) (fun x7 => ?_)
      refine os_iload_n (i := 2) (q := 2) (v := x2) 0 rfl rfl (hX10_belongs.at 35 rfl rfl) ?_
      refine os_iaload (hX10_belongs.at 36 rfl rfl) (fun x8 => ?_)
      refine os_iconst (i := (-1)) (v := (-1 : Int32)) rfl (hX10_belongs.at 37 rfl rfl) ?_
      refine os_icmp_eq (off := 31) (tgt := 91) rfl (hX10_belongs.at 38 rfl rfl) ?_ ?_
      · exact osW.sub [] rfl (sX10_belongs_91 N )
      · refine os_aload_n (i := 0) (q := 0) (v := l0) 1 rfl rfl (hX10_belongs.at 39 rfl rfl) ?_
        refine os_getR fX10_42 (hX10_belongs.at 40 rfl rfl) (fun x9 => ?_)
        refine os_aload_n (i := 0) (q := 0) (v := l0) 1 rfl rfl (hX10_belongs.at 41 rfl rfl) ?_
        refine os_getR fX10_48 (hX10_belongs.at 42 rfl rfl) (fun x10 => ?_)
        refine os_iload_n (i := 2) (q := 2) (v := x2) 0 rfl rfl (hX10_belongs.at 43 rfl rfl) ?_
        refine os_iaload (hX10_belongs.at 44 rfl rfl) (fun x11 => ?_)
        refine os_iaload (hX10_belongs.at 45 rfl rfl) (fun x12 => ?_)
        refine os_aload_n (i := 0) (q := 0) (v := l0) 1 rfl rfl (hX10_belongs.at 46 rfl rfl) ?_
        refine os_getR fX10_16 (hX10_belongs.at 47 rfl rfl) (fun x13 => ?_)
        refine os_sipush (i := 149) (v := (149 : Int32)) rfl (hX10_belongs.at 48 rfl rfl) ?_
        refine os_iload_n (i := 1) (q := 1) (v := l1) 2 rfl rfl (hX10_belongs.at 49 rfl rfl) ?_
        refine os_iadd (hX10_belongs.at 50 rfl rfl) ?_
        refine os_iaload (hX10_belongs.at 51 rfl rfl) (fun x14 => ?_)
        refine os_icmp_ne (off := 7) (tgt := 91) rfl (hX10_belongs.at 52 rfl rfl) ?_ ?_
        · exact osW.sub [] rfl (sX10_belongs_91 N )
        · refine os_iconst (i := 1) (v := (1 : Int32)) rfl (hX10_belongs.at 53 rfl rfl) ?_
          refine os_goto (off := 4) (tgt := 92) rfl (hX10_belongs.at 54 rfl rfl) ?_
          exact osW.sub [] rfl (sX10_belongs_92 N (1 : Int32))
  · refine os_aload_n (i := 0) (q := 0) (v := l0) 1 rfl rfl (hX10_belongs.at 15 rfl rfl) ?_
    refine os_getR fX10_48 (hX10_belongs.at 16 rfl rfl) (fun x15 => ?_)
    refine os_iload_n (i := 2) (q := 2) (v := x2) 0 rfl rfl (hX10_belongs.at 17 rfl rfl) ?_
    refine os_iaload (hX10_belongs.at 18 rfl rfl) (fun x16 => ?_)
    refine os_iconst (i := (-1)) (v := (-1 : Int32)) rfl (hX10_belongs.at 19 rfl rfl) ?_
    refine os_icmp_ne (off := 7) (tgt := 38) rfl (hX10_belongs.at 20 rfl rfl) ?_ ?_
    · refine os_iconst (i := 0) (v := (0 : Int32)) rfl (hX10_belongs.at 23 rfl rfl) ?_
      exact osW.sub [] rfl (sX10_belongs_39 N (0 : Int32))
    · refine os_iconst (i := 1) (v := (1 : Int32)) rfl (hX10_belongs.at 21 rfl rfl) ?_
      refine os_goto (off := 4) (tgt := 39) rfl (hX10_belongs.at 22 rfl rfl) ?_
      exact osW.sub [] rfl (sX10_belongs_39 N (1 : Int32))
-- X10_isCut
def KX10_isCut : List (Nat × Nat × Instr) := [(0, 1, .aload_n 0), (1, 3, .getfield 16), (4, 2, .bipush 117), (6, 1, .iload_n 1), (7, 1, .iadd), (8, 1, .iaload), (9, 1, .iconst 2), (10, 3, .if_icmp .ne 16), (13, 1, .aload_n 0), (14, 3, .getfield 16), (17, 3, .sipush 133), (20, 1, .iload_n 1), (21, 1, .iadd), (22, 1, .iaload), (23, 3, .goto 13), (26, 1, .aload_n 0), (27, 3, .getfield 16), (30, 3, .sipush 149), (33, 1, .iload_n 1), (34, 1, .iadd), (35, 1, .iaload), (36, 1, .istore_n 2), (37, 1, .iconst 0), (38, 1, .istore_n 3), (39, 1, .iload_n 3), (40, 1, .aload_n 0), (41, 3, .getfield 371), (44, 3, .if_icmp .ge 68), (47, 1, .aload_n 0), (48, 3, .getfield 42), (51, 1, .iload_n 3), (52, 1, .iaload), (53, 1, .iload_n 1), (54, 3, .if_icmp .ne 52), (57, 1, .aload_n 0), (58, 3, .getfield 386), (61, 1, .iload_n 3), (62, 3, .invokestatic 111), (65, 3, .ifCond .eq 41), (68, 1, .aload_n 0), (69, 3, .getfield 39), (72, 1, .iload_n 3), (73, 1, .iaload), (74, 1, .iload_n 2), (75, 3, .if_icmp .eq 31), (78, 1, .aload_n 0), (79, 3, .getfield 16), (82, 2, .bipush 21), (84, 1, .aload_n 0), (85, 3, .getfield 39), (88, 1, .iload_n 3), (89, 1, .iaload), (90, 1, .iadd), (91, 1, .iaload), (92, 1, .aload_n 0), (93, 3, .getfield 16), (96, 2, .bipush 21), (98, 1, .iload_n 1), (99, 1, .iadd), (100, 1, .iaload), (101, 3, .if_icmp .eq 5), (104, 1, .iconst 1), (105, 1, .ireturn), (106, 3, .iinc 3 1), (109, 3, .goto (-70)), (112, 1, .iconst 0), (113, 1, .ireturn)]
theorem hX10_isCut : osDs cX10_isCut KX10_isCut := by
  show ∀ q ∈ KX10_isCut, decode cX10_isCut q.1 = .ok (q.2.2, q.2.1)
  decide +kernel
def qX10_isCut_106 (N : Nat) (c39 : Nat × Int32 × Int32 × Int32 → osM Int32) (l0 : Nat) (l1 : Int32) (l2 : Int32) (l3 : Int32) : osM Int32 := c39 (l0, l1, l2, (l3 + (1 : Int32)))
def bX10_isCut_39 (N : Nat) (c39 : Nat × Int32 × Int32 × Int32 → osM Int32) (l0 : Nat) (l1 : Int32) (l2 : Int32) (l3 : Int32) : osM Int32 := osbind (osgI [8] 26 l0) fun x1 => osite (x1 ≤ l3) (osretZ (0 : Int32)) (osbind (osgR [8] 22 l0) fun x2 => osbind (osaI 0 x2 l3) fun x3 => osite (x3 = l1) (osbind (osgI [8] 30 l0) fun x4 => osbind (qX10_has N x4 l3) fun x5 => osite (x5 = 0) (qX10_isCut_106 N c39 l0 l1 l2 l3) (osbind (osgR [8] 21 l0) fun x6 => osbind (osaI 0 x6 l3) fun x7 => osite (x7 = l2) (qX10_isCut_106 N c39 l0 l1 l2 l3) (osbind (osgR [8] 3 l0) fun x8 => osbind (osgR [8] 21 l0) fun x9 => osbind (osaI 0 x9 l3) fun x10 => osbind (osaI 0 x8 ((21 : Int32) + x10)) fun x11 => osbind (osgR [8] 3 l0) fun x12 => osbind (osaI 0 x12 ((21 : Int32) + l1)) fun x13 => osite (x11 = x13) (qX10_isCut_106 N c39 l0 l1 l2 l3) (osretZ (1 : Int32))))) (qX10_isCut_106 N c39 l0 l1 l2 l3))
def qX10_isCut_39 (N : Nat) : Nat × Int32 × Int32 × Int32 → osM Int32 := osloop (fun ih p => bX10_isCut_39 N ih p.1 p.2.1 p.2.2.1 p.2.2.2) N
def qX10_isCut_36 (N : Nat) (l0 : Nat) (l1 : Int32) (k0 : Int32) : osM Int32 := qX10_isCut_39 N (l0, l1, k0, (0 : Int32))
def qX10_isCut (N : Nat) (l0 : Nat) (l1 : Int32) : osM Int32 := osbind (osgR [8] 3 l0) fun x1 => osbind (osaI 0 x1 ((117 : Int32) + l1)) fun x2 => osite (x2 = (2 : Int32)) (osbind (osgR [8] 3 l0) fun x5 => osbind (osaI 0 x5 ((133 : Int32) + l1)) fun x6 => qX10_isCut_36 N l0 l1 x6) (osbind (osgR [8] 3 l0) fun x3 => osbind (osaI 0 x3 ((149 : Int32) + l1)) fun x4 => qX10_isCut_36 N l0 l1 x4)
set_option maxRecDepth 100000 in
set_option maxHeartbeats 4000000 in
theorem sX10_isCut_106 (N : Nat) (c39 : Nat × Int32 × Int32 × Int32 → osM Int32) (g39 : ∀ (l0 : Nat) (l1 : Int32) (l2 : Int32) (l3 : Int32), osW (osFinM (fun r : Int32 => some (.int r)) 0 0) yX10_isCut cX10_isCut 4 (some .boolean) [] { frames := 1, cells := 0, slots := 0, locals := 21 } 0 0 39 [(0, .ref l0), (1, .int l1), (2, .int l2), (3, .int l3)] [] (c39 (l0, l1, l2, l3))) (l0 : Nat) (l1 : Int32) (l2 : Int32) (l3 : Int32) : osW (osFinM (fun r : Int32 => some (.int r)) 0 0) yX10_isCut cX10_isCut 4 (some .boolean) [] { frames := 1, cells := 0, slots := 0, locals := 21 } 0 0 106 [(0, .ref l0), (1, .int l1), (2, .int l2), (3, .int l3)] [] (qX10_isCut_106 N c39 l0 l1 l2 l3) := by
  unfold qX10_isCut_106
  refine os_iinc (i := 3) (d := 1) (x := l3) (v := (1 : Int32)) (lv' := [(3, .int (l3 + (1 : Int32))), (0, .ref l0), (1, .int l1), (2, .int l2)]) 3 rfl rfl (Nat.le_of_ble_eq_true rfl) rfl (hX10_isCut.at 63 rfl rfl) ?_
  refine os_goto (off := (-70)) (tgt := 39) rfl (hX10_isCut.at 64 rfl rfl) ?_
  exact osW.sub [1, 2, 3, 0] rfl (g39 l0 l1 l2 (l3 + (1 : Int32)))
set_option maxRecDepth 100000 in
set_option maxHeartbeats 4000000 in
theorem tX10_isCut_39 (N : Nat) (c39 : Nat × Int32 × Int32 × Int32 → osM Int32) (g39 : ∀ (l0 : Nat) (l1 : Int32) (l2 : Int32) (l3 : Int32), osW (osFinM (fun r : Int32 => some (.int r)) 0 0) yX10_isCut cX10_isCut 4 (some .boolean) [] { frames := 1, cells := 0, slots := 0, locals := 21 } 0 0 39 [(0, .ref l0), (1, .int l1), (2, .int l2), (3, .int l3)] [] (c39 (l0, l1, l2, l3))) (l0 : Nat) (l1 : Int32) (l2 : Int32) (l3 : Int32) : osW (osFinM (fun r : Int32 => some (.int r)) 0 0) yX10_isCut cX10_isCut 4 (some .boolean) [] { frames := 1, cells := 0, slots := 0, locals := 21 } 0 0 39 [(0, .ref l0), (1, .int l1), (2, .int l2), (3, .int l3)] [] (bX10_isCut_39 N c39 l0 l1 l2 l3) := by
  unfold bX10_isCut_39
  refine os_iload_n (i := 3) (q := 3) (v := l3) 3 rfl rfl (hX10_isCut.at 24 rfl rfl) ?_
  refine os_aload_n (i := 0) (q := 0) (v := l0) 0 rfl rfl (hX10_isCut.at 25 rfl rfl) ?_
  refine os_getI fX10_371 (hX10_isCut.at 26 rfl rfl) (fun x1 => ?_)
  refine os_icmp_ge (off := 68) (tgt := 112) rfl (hX10_isCut.at 27 rfl rfl) ?_ ?_
  · refine os_iconst (i := 0) (v := (0 : Int32)) rfl (hX10_isCut.at 65 rfl rfl) ?_
    exact os_zret (Nat.le_of_ble_eq_true rfl) (Nat.le_of_ble_eq_true rfl) (hX10_isCut.at 66 rfl rfl).1
  · refine os_aload_n (i := 0) (q := 0) (v := l0) 0 rfl rfl (hX10_isCut.at 28 rfl rfl) ?_
    refine os_getR fX10_42 (hX10_isCut.at 29 rfl rfl) (fun x2 => ?_)
    refine os_iload_n (i := 3) (q := 3) (v := l3) 3 rfl rfl (hX10_isCut.at 30 rfl rfl) ?_
    refine os_iaload (hX10_isCut.at 31 rfl rfl) (fun x3 => ?_)
    refine os_iload_n (i := 1) (q := 1) (v := l1) 1 rfl rfl (hX10_isCut.at 32 rfl rfl) ?_
    refine os_icmp_ne (off := 52) (tgt := 106) rfl (hX10_isCut.at 33 rfl rfl) ?_ ?_
    · exact osW.sub [0, 1, 2, 3] rfl (sX10_isCut_106 N c39 g39 l0 l1 l2 l3)
    · refine os_aload_n (i := 0) (q := 0) (v := l0) 0 rfl rfl (hX10_isCut.at 34 rfl rfl) ?_
      refine os_getI fX10_386 (hX10_isCut.at 35 rfl rfl) (fun x4 => ?_)
      refine os_iload_n (i := 3) (q := 3) (v := l3) 3 rfl rfl (hX10_isCut.at 36 rfl rfl) ?_
      refine os_callS (As := [.int x4, .int l3]) (st := []) (st' := (fun r => .int r :: [])) mdX10_has wd1860 wd1861 (sX10_has N x4 l3) rfl rfl (fun _ => rfl) (Nat.le_of_ble_eq_true rfl) (Nat.le_of_ble_eq_true rfl) (Nat.le_of_ble_eq_true rfl) rfl (Nat.le_of_ble_eq_true rfl) rfl (Nat.le_of_ble_eq_true rfl) (hX10_isCut.at 37 rfl rfl) (fun x5 => ?_)
      refine os_if_eq (off := 41) (tgt := 106) rfl (hX10_isCut.at 38 rfl rfl) ?_ ?_
      · exact osW.sub [0, 1, 2, 3] rfl (sX10_isCut_106 N c39 g39 l0 l1 l2 l3)
      · refine os_aload_n (i := 0) (q := 0) (v := l0) 0 rfl rfl (hX10_isCut.at 39 rfl rfl) ?_
        refine os_getR fX10_39 (hX10_isCut.at 40 rfl rfl) (fun x6 => ?_)
        refine os_iload_n (i := 3) (q := 3) (v := l3) 3 rfl rfl (hX10_isCut.at 41 rfl rfl) ?_
        refine os_iaload (hX10_isCut.at 42 rfl rfl) (fun x7 => ?_)
        refine os_iload_n (i := 2) (q := 2) (v := l2) 2 rfl rfl (hX10_isCut.at 43 rfl rfl) ?_
        refine os_icmp_eq (off := 31) (tgt := 106) rfl (hX10_isCut.at 44 rfl rfl) ?_ ?_
        · exact osW.sub [0, 1, 2, 3] rfl (sX10_isCut_106 N c39 g39 l0 l1 l2 l3)
        · refine os_aload_n (i := 0) (q := 0) (v := l0) 0 rfl rfl (hX10_isCut.at 45 rfl rfl) ?_
          refine os_getR fX10_16 (hX10_isCut.at 46 rfl rfl) (fun x8 => ?_)
          refine os_bipush (i := 21) (v := (21 : Int32)) rfl (hX10_isCut.at 47 rfl rfl) ?_
          refine os_aload_n (i := 0) (q := 0) (v := l0) 0 rfl rfl (hX10_isCut.at 48 rfl rfl) ?_
          refine os_getR fX10_39 (hX10_isCut.at 49 rfl rfl) (fun x9 => ?_)
          refine os_iload_n (i := 3) (q := 3) (v := l3) 3 rfl rfl (hX10_isCut.at 50 rfl rfl) ?_
          refine os_iaload (hX10_isCut.at 51 rfl rfl) (fun x10 => ?_)
          refine os_iadd (hX10_isCut.at 52 rfl rfl) ?_
          refine os_iaload (hX10_isCut.at 53 rfl rfl) (fun x11 => ?_)
          refine os_aload_n (i := 0) (q := 0) (v := l0) 0 rfl rfl (hX10_isCut.at 54 rfl rfl) ?_
          refine os_getR fX10_16 (hX10_isCut.at 55 rfl rfl) (fun x12 => ?_)
          refine os_bipush (i := 21) (v := (21 : Int32)) rfl (hX10_isCut.at 56 rfl rfl) ?_
          refine os_iload_n (i := 1) (q := 1) (v := l1) 1 rfl rfl (hX10_isCut.at 57 rfl rfl) ?_
          refine os_iadd (hX10_isCut.at 58 rfl rfl) ?_
          refine os_iaload (hX10_isCut.at 59 rfl rfl) (fun x13 => ?_)
          refine os_icmp_eq (off := 5) (tgt := 106) rfl (hX10_isCut.at 60 rfl rfl) ?_ ?_
          · exact osW.sub [0, 1, 2, 3] rfl (sX10_isCut_106 N c39 g39 l0 l1 l2 l3)
          · refine os_iconst (i := 1) (v := (1 : Int32)) rfl (hX10_isCut.at 61 rfl rfl) ?_
            exact os_zret (Nat.le_of_ble_eq_true rfl) (Nat.le_of_ble_eq_true rfl) (hX10_isCut.at 62 rfl rfl).1
set_option maxRecDepth 100000 in
set_option maxHeartbeats 4000000 in
theorem sX10_isCut_39 (N : Nat) (l0 : Nat) (l1 : Int32) (l2 : Int32) (l3 : Int32) : osW (osFinM (fun r : Int32 => some (.int r)) 0 0) yX10_isCut cX10_isCut 4 (some .boolean) [] { frames := 1, cells := 0, slots := 0, locals := 21 } 0 0 39 [(0, .ref l0), (1, .int l1), (2, .int l2), (3, .int l3)] [] (qX10_isCut_39 N (l0, l1, l2, l3)) :=
  osloop_W (lvf := fun p => [(0, .ref p.1), (1, .int p.2.1), (2, .int p.2.2.1), (3, .int p.2.2.2)]) (stf := fun p => []) (fun ih g p => tX10_isCut_39 N ih (fun l0 l1 l2 l3 => g (l0, l1, l2, l3)) p.1 p.2.1 p.2.2.1 p.2.2.2) N (l0, l1, l2, l3)
set_option maxRecDepth 100000 in
set_option maxHeartbeats 4000000 in
theorem sX10_isCut_36 (N : Nat) (l0 : Nat) (l1 : Int32) (k0 : Int32) : osW (osFinM (fun r : Int32 => some (.int r)) 0 0) yX10_isCut cX10_isCut 4 (some .boolean) [] { frames := 1, cells := 0, slots := 0, locals := 21 } 0 0 36 [(0, .ref l0), (1, .int l1)] [.int k0] (qX10_isCut_36 N l0 l1 k0) := by
  unfold qX10_isCut_36
  refine os_istore_n (i := 2) (q := 2) rfl (lv' := [(2, .int k0), (0, .ref l0), (1, .int l1)]) (Nat.le_of_ble_eq_true rfl) rfl (hX10_isCut.at 21 rfl rfl) ?_
  refine os_iconst (i := 0) (v := (0 : Int32)) rfl (hX10_isCut.at 22 rfl rfl) ?_
  refine os_istore_n (i := 3) (q := 3) rfl (lv' := [(3, .int (0 : Int32)), (2, .int k0), (0, .ref l0), (1, .int l1)]) (Nat.le_of_ble_eq_true rfl) rfl (hX10_isCut.at 23 rfl rfl) ?_
  exact osW.sub [2, 3, 1, 0] rfl (sX10_isCut_39 N l0 l1 k0 (0 : Int32))
set_option maxRecDepth 100000 in
set_option maxHeartbeats 4000000 in
theorem sX10_isCut (N : Nat) (l0 : Nat) (l1 : Int32) : osMet yX10_isCut cX10_isCut 4 (some .boolean) 1 21 0 0 (fun r : Int32 => some (.int r)) [.ref l0, .int l1] (qX10_isCut N l0 l1) := by
  refine osMet.of plX10 (Nat.le_of_ble_eq_true rfl) (osW.rw (lv2 := [(0, .ref l0), (1, .int l1)]) ?_ rfl rfl rfl)
  unfold qX10_isCut
  refine os_aload_n (i := 0) (q := 0) (v := l0) 0 rfl rfl (hX10_isCut.at 0 rfl rfl) ?_
  refine os_getR fX10_16 (hX10_isCut.at 1 rfl rfl) (fun x1 => ?_)
  refine os_bipush (i := 117) (v := (117 : Int32)) rfl (hX10_isCut.at 2 rfl rfl) ?_
  refine os_iload_n (i := 1) (q := 1) (v := l1) 1 rfl rfl (hX10_isCut.at 3 rfl rfl) ?_
  refine os_iadd (hX10_isCut.at 4 rfl rfl) ?_
  refine os_iaload (hX10_isCut.at 5 rfl rfl) (fun x2 => ?_)
  refine os_iconst (i := 2) (v := (2 : Int32)) rfl (hX10_isCut.at 6 rfl rfl) ?_
  refine os_icmp_ne (off := 16) (tgt := 26) rfl (hX10_isCut.at 7 rfl rfl) ?_ ?_
  · refine os_aload_n (i := 0) (q := 0) (v := l0) 0 rfl rfl (hX10_isCut.at 15 rfl rfl) ?_
    refine os_getR fX10_16 (hX10_isCut.at 16 rfl rfl) (fun x3 => ?_)
    refine os_sipush (i := 149) (v := (149 : Int32)) rfl (hX10_isCut.at 17 rfl rfl) ?_
    refine os_iload_n (i := 1) (q := 1) (v := l1) 1 rfl rfl (hX10_isCut.at 18 rfl rfl) ?_
    refine os_iadd (hX10_isCut.at 19 rfl rfl) ?_
    refine os_iaload (hX10_isCut.at 20 rfl rfl) (fun x4 => ?_)
    exact osW.sub [0, 1] rfl (sX10_isCut_36 N l0 l1 x4)
  · refine os_aload_n (i := 0) (q := 0) (v := l0) 0 rfl rfl (hX10_isCut.at 8 rfl rfl) ?_
    refine os_getR fX10_16 (hX10_isCut.at 9 rfl rfl) (fun x5 => ?_)
    refine os_sipush (i := 133) (v := (133 : Int32)) rfl (hX10_isCut.at 10 rfl rfl) ?_
    refine os_iload_n (i := 1) (q := 1) (v := l1) 1 rfl rfl (hX10_isCut.at 11 rfl rfl) ?_
    refine os_iadd (hX10_isCut.at 12 rfl rfl) ?_
    refine os_iaload (hX10_isCut.at 13 rfl rfl) (fun x6 => ?_)
    refine os_goto (off := 13) (tgt := 36) rfl (hX10_isCut.at 14 rfl rfl) ?_
    exact osW.sub [0, 1] rfl (sX10_isCut_36 N l0 l1 x6)
-- X10_laysGiven
def KX10_laysGiven : List (Nat × Nat × Instr) := [(0, 1, .aload_n 0), (1, 1, .iconst 0), (2, 3, .putfield 396), (5, 1, .iconst 0), (6, 1, .istore_n 1), (7, 1, .iload_n 1), (8, 1, .aload_n 0), (9, 3, .getfield 7), (12, 1, .iconst 0), (13, 1, .iaload), (14, 3, .if_icmp .ge 76), (17, 1, .aload_n 0), (18, 3, .getfield 16), (21, 1, .iload_n 1), (22, 3, .invokestatic 103), (25, 3, .ifCond .eq 34), (28, 1, .aload_n 0), (29, 1, .iload_n 1), (30, 3, .invokevirtual 399), (33, 3, .ifCond .eq 26), (36, 1, .aload_n 0), (37, 3, .getfield 380), (40, 1, .iload_n 1), (41, 3, .invokestatic 111), (44, 3, .ifCond .ne 15), (47, 1, .aload_n 0), (48, 1, .iload_n 1), (49, 3, .invokevirtual 402), (52, 3, .ifCond .ne 7), (55, 1, .iconst 1), (56, 3, .goto 4), (59, 1, .iconst 0), (60, 1, .istore_n 2), (61, 1, .aload_n 0), (62, 1, .iload_n 2), (63, 3, .ifCond .eq 14), (66, 1, .aload_n 0), (67, 3, .getfield 396), (70, 1, .iconst 1), (71, 1, .iload_n 1), (72, 1, .ishl), (73, 1, .ior), (74, 3, .goto 7), (77, 1, .aload_n 0), (78, 3, .getfield 396), (81, 3, .putfield 396), (84, 3, .iinc 1 1), (87, 3, .goto (-80)), (90, 1, .return_)]
theorem hX10_laysGiven : osDs cX10_laysGiven KX10_laysGiven := by
  show ∀ q ∈ KX10_laysGiven, decode cX10_laysGiven q.1 = .ok (q.2.2, q.2.1)
  decide +kernel
def qX10_laysGiven_81 (N : Nat) (c7 : Nat × Int32 → osM Unit) (l0 : Nat) (l1 : Int32) (k0 : Int32) (k1 : Nat) : osM Unit := osbind (osput [8] 31 k1 (.int k0)) fun _ => c7 (l0, (l1 + (1 : Int32)))
def qX10_laysGiven_60 (N : Nat) (c7 : Nat × Int32 → osM Unit) (l0 : Nat) (l1 : Int32) (k0 : Int32) : osM Unit := osite (k0 = 0) (osbind (osgI [8] 31 l0) fun x1 => qX10_laysGiven_81 N c7 l0 l1 x1 l0) (osbind (osgI [8] 31 l0) fun x2 => qX10_laysGiven_81 N c7 l0 l1 (x2 ||| (osshl (1 : Int32) l1)) l0)
def qX10_laysGiven_59 (N : Nat) (c7 : Nat × Int32 → osM Unit) (l0 : Nat) (l1 : Int32) : osM Unit := qX10_laysGiven_60 N c7 l0 l1 (0 : Int32)
def bX10_laysGiven_7 (N : Nat) (c7 : Nat × Int32 → osM Unit) (l0 : Nat) (l1 : Int32) : osM Unit := osbind (osgR [8] 1 l0) fun x1 => osbind (osaI 0 x1 (0 : Int32)) fun x2 => osite (x2 ≤ l1) (osret ()) (osbind (osgR [8] 3 l0) fun x3 => osbind (qX10_isUnit N x3 l1) fun x4 => osite (x4 = 0) (qX10_laysGiven_59 N c7 l0 l1) (osbind (osrecv [8] l0 (qX10_belongs N l0 l1)) fun x5 => osite (x5 = 0) (qX10_laysGiven_59 N c7 l0 l1) (osbind (osgI [8] 29 l0) fun x6 => osbind (qX10_has N x6 l1) fun x7 => osite (x7 = 0) (osbind (osrecv [8] l0 (qX10_isCut N l0 l1)) fun x8 => osite (x8 = 0) (qX10_laysGiven_60 N c7 l0 l1 (1 : Int32)) (qX10_laysGiven_59 N c7 l0 l1)) (qX10_laysGiven_59 N c7 l0 l1))))
def qX10_laysGiven_7 (N : Nat) : Nat × Int32 → osM Unit := osloop (fun ih p => bX10_laysGiven_7 N ih p.1 p.2) N
def qX10_laysGiven (N : Nat) (l0 : Nat) : osM Unit := osbind (osput [8] 31 l0 (.int (0 : Int32))) fun _ => qX10_laysGiven_7 N (l0, (0 : Int32))
set_option maxRecDepth 100000 in
set_option maxHeartbeats 4000000 in
theorem sX10_laysGiven_81 (N : Nat) (c7 : Nat × Int32 → osM Unit) (g7 : ∀ (l0 : Nat) (l1 : Int32), osW (osFinM (fun _ : Unit => none) 0 0) yX10_laysGiven cX10_laysGiven 3 none [] { frames := 2, cells := 0, slots := 0, locals := 44 } 0 0 7 [(0, .ref l0), (1, .int l1)] [] (c7 (l0, l1))) (l0 : Nat) (l1 : Int32) (k0 : Int32) (k1 : Nat) : osW (osFinM (fun _ : Unit => none) 0 0) yX10_laysGiven cX10_laysGiven 3 none [] { frames := 2, cells := 0, slots := 0, locals := 44 } 0 0 81 [(0, .ref l0), (1, .int l1)] [.int k0, .ref k1] (qX10_laysGiven_81 N c7 l0 l1 k0 k1) := by
  unfold qX10_laysGiven_81
  refine os_put fX10_396 rfl rfl (hX10_laysGiven.at 45 rfl rfl) ?_
  refine os_iinc (i := 1) (d := 1) (x := l1) (v := (1 : Int32)) (lv' := [(1, .int (l1 + (1 : Int32))), (0, .ref l0)]) 1 rfl rfl (Nat.le_of_ble_eq_true rfl) rfl (hX10_laysGiven.at 46 rfl rfl) ?_
  refine os_goto (off := (-80)) (tgt := 7) rfl (hX10_laysGiven.at 47 rfl rfl) ?_
  exact osW.sub [1, 0] rfl (g7 l0 (l1 + (1 : Int32)))
set_option maxRecDepth 100000 in
set_option maxHeartbeats 4000000 in
theorem sX10_laysGiven_60 (N : Nat) (c7 : Nat × Int32 → osM Unit) (g7 : ∀ (l0 : Nat) (l1 : Int32), osW (osFinM (fun _ : Unit => none) 0 0) yX10_laysGiven cX10_laysGiven 3 none [] { frames := 2, cells := 0, slots := 0, locals := 44 } 0 0 7 [(0, .ref l0), (1, .int l1)] [] (c7 (l0, l1))) (l0 : Nat) (l1 : Int32) (k0 : Int32) : osW (osFinM (fun _ : Unit => none) 0 0) yX10_laysGiven cX10_laysGiven 3 none [] { frames := 2, cells := 0, slots := 0, locals := 44 } 0 0 60 [(0, .ref l0), (1, .int l1)] [.int k0] (qX10_laysGiven_60 N c7 l0 l1 k0) := by
  unfold qX10_laysGiven_60
  refine os_istore_n (i := 2) (q := 2) rfl (lv' := [(2, .int k0), (0, .ref l0), (1, .int l1)]) (Nat.le_of_ble_eq_true rfl) rfl (hX10_laysGiven.at 32 rfl rfl) ?_
  refine os_aload_n (i := 0) (q := 0) (v := l0) 1 rfl rfl (hX10_laysGiven.at 33 rfl rfl) ?_
  refine os_iload_n (i := 2) (q := 2) (v := k0) 0 rfl rfl (hX10_laysGiven.at 34 rfl rfl) ?_
  refine os_if_eq (off := 14) (tgt := 77) rfl (hX10_laysGiven.at 35 rfl rfl) ?_ ?_
  · refine os_aload_n (i := 0) (q := 0) (v := l0) 1 rfl rfl (hX10_laysGiven.at 43 rfl rfl) ?_
    refine os_getI fX10_396 (hX10_laysGiven.at 44 rfl rfl) (fun x1 => ?_)
    exact osW.sub [1, 2] rfl (sX10_laysGiven_81 N c7 g7 l0 l1 x1 l0)
  · refine os_aload_n (i := 0) (q := 0) (v := l0) 1 rfl rfl (hX10_laysGiven.at 36 rfl rfl) ?_
    refine os_getI fX10_396 (hX10_laysGiven.at 37 rfl rfl) (fun x2 => ?_)
    refine os_iconst (i := 1) (v := (1 : Int32)) rfl (hX10_laysGiven.at 38 rfl rfl) ?_
    refine os_iload_n (i := 1) (q := 1) (v := l1) 2 rfl rfl (hX10_laysGiven.at 39 rfl rfl) ?_
    refine os_ishl (hX10_laysGiven.at 40 rfl rfl) ?_
    refine os_ior (hX10_laysGiven.at 41 rfl rfl) ?_
    refine os_goto (off := 7) (tgt := 81) rfl (hX10_laysGiven.at 42 rfl rfl) ?_
    exact osW.sub [1, 2] rfl (sX10_laysGiven_81 N c7 g7 l0 l1 (x2 ||| (osshl (1 : Int32) l1)) l0)
set_option maxRecDepth 100000 in
set_option maxHeartbeats 4000000 in
theorem sX10_laysGiven_59 (N : Nat) (c7 : Nat × Int32 → osM Unit) (g7 : ∀ (l0 : Nat) (l1 : Int32), osW (osFinM (fun _ : Unit => none) 0 0) yX10_laysGiven cX10_laysGiven 3 none [] { frames := 2, cells := 0, slots := 0, locals := 44 } 0 0 7 [(0, .ref l0), (1, .int l1)] [] (c7 (l0, l1))) (l0 : Nat) (l1 : Int32) : osW (osFinM (fun _ : Unit => none) 0 0) yX10_laysGiven cX10_laysGiven 3 none [] { frames := 2, cells := 0, slots := 0, locals := 44 } 0 0 59 [(0, .ref l0), (1, .int l1)] [] (qX10_laysGiven_59 N c7 l0 l1) := by
  unfold qX10_laysGiven_59
  refine os_iconst (i := 0) (v := (0 : Int32)) rfl (hX10_laysGiven.at 31 rfl rfl) ?_
  exact osW.sub [0, 1] rfl (sX10_laysGiven_60 N c7 g7 l0 l1 (0 : Int32))
set_option maxRecDepth 100000 in
set_option maxHeartbeats 4000000 in
theorem tX10_laysGiven_7 (N : Nat) (c7 : Nat × Int32 → osM Unit) (g7 : ∀ (l0 : Nat) (l1 : Int32), osW (osFinM (fun _ : Unit => none) 0 0) yX10_laysGiven cX10_laysGiven 3 none [] { frames := 2, cells := 0, slots := 0, locals := 44 } 0 0 7 [(0, .ref l0), (1, .int l1)] [] (c7 (l0, l1))) (l0 : Nat) (l1 : Int32) : osW (osFinM (fun _ : Unit => none) 0 0) yX10_laysGiven cX10_laysGiven 3 none [] { frames := 2, cells := 0, slots := 0, locals := 44 } 0 0 7 [(0, .ref l0), (1, .int l1)] [] (bX10_laysGiven_7 N c7 l0 l1) := by
  unfold bX10_laysGiven_7
  refine os_iload_n (i := 1) (q := 1) (v := l1) 1 rfl rfl (hX10_laysGiven.at 5 rfl rfl) ?_
  refine os_aload_n (i := 0) (q := 0) (v := l0) 0 rfl rfl (hX10_laysGiven.at 6 rfl rfl) ?_
  refine os_getR fX10_7 (hX10_laysGiven.at 7 rfl rfl) (fun x1 => ?_)
  refine os_iconst (i := 0) (v := (0 : Int32)) rfl (hX10_laysGiven.at 8 rfl rfl) ?_
  refine os_iaload (hX10_laysGiven.at 9 rfl rfl) (fun x2 => ?_)
  refine os_icmp_ge (off := 76) (tgt := 90) rfl (hX10_laysGiven.at 10 rfl rfl) ?_ ?_
  · exact os_vret (Nat.le_of_ble_eq_true rfl) (Nat.le_of_ble_eq_true rfl) (hX10_laysGiven.at 48 rfl rfl).1
  · refine os_aload_n (i := 0) (q := 0) (v := l0) 0 rfl rfl (hX10_laysGiven.at 11 rfl rfl) ?_
    refine os_getR fX10_16 (hX10_laysGiven.at 12 rfl rfl) (fun x3 => ?_)
    refine os_iload_n (i := 1) (q := 1) (v := l1) 1 rfl rfl (hX10_laysGiven.at 13 rfl rfl) ?_
    refine os_callS (As := [.ref x3, .int l1]) (st := []) (st' := (fun r => .int r :: [])) mdX10_isUnit wd1879 wd1880 (sX10_isUnit N x3 l1) rfl rfl (fun _ => rfl) (Nat.le_of_ble_eq_true rfl) (Nat.le_of_ble_eq_true rfl) (Nat.le_of_ble_eq_true rfl) rfl (Nat.le_of_ble_eq_true rfl) rfl (Nat.le_of_ble_eq_true rfl) (hX10_laysGiven.at 14 rfl rfl) (fun x4 => ?_)
    refine os_if_eq (off := 34) (tgt := 59) rfl (hX10_laysGiven.at 15 rfl rfl) ?_ ?_
    · exact osW.sub [0, 1] rfl (sX10_laysGiven_59 N c7 g7 l0 l1)
    · refine os_aload_n (i := 0) (q := 0) (v := l0) 0 rfl rfl (hX10_laysGiven.at 16 rfl rfl) ?_
      refine os_iload_n (i := 1) (q := 1) (v := l1) 1 rfl rfl (hX10_laysGiven.at 17 rfl rfl) ?_
      refine os_callV (cis := [8]) (b := l0) (As := [.int l1]) (st := []) (st' := (fun r => .int r :: [])) sl8_X10_belongs_X10_belongs mdX10_belongs wd2122 wd2124 (sX10_belongs N l0 l1) rfl rfl (fun _ => rfl) (Nat.le_of_ble_eq_true rfl) (Nat.le_of_ble_eq_true rfl) (Nat.le_of_ble_eq_true rfl) rfl (Nat.le_of_ble_eq_true rfl) rfl (Nat.le_of_ble_eq_true rfl) (hX10_laysGiven.at 18 rfl rfl) (fun x5 => ?_)
      refine os_if_eq (off := 26) (tgt := 59) rfl (hX10_laysGiven.at 19 rfl rfl) ?_ ?_
      · exact osW.sub [0, 1] rfl (sX10_laysGiven_59 N c7 g7 l0 l1)
      · refine os_aload_n (i := 0) (q := 0) (v := l0) 0 rfl rfl (hX10_laysGiven.at 20 rfl rfl) ?_
        refine os_getI fX10_380 (hX10_laysGiven.at 21 rfl rfl) (fun x6 => ?_)
        refine os_iload_n (i := 1) (q := 1) (v := l1) 1 rfl rfl (hX10_laysGiven.at 22 rfl rfl) ?_
        refine os_callS (As := [.int x6, .int l1]) (st := []) (st' := (fun r => .int r :: [])) mdX10_has wd1860 wd1861 (sX10_has N x6 l1) rfl rfl (fun _ => rfl) (Nat.le_of_ble_eq_true rfl) (Nat.le_of_ble_eq_true rfl) (Nat.le_of_ble_eq_true rfl) rfl (Nat.le_of_ble_eq_true rfl) rfl (Nat.le_of_ble_eq_true rfl) (hX10_laysGiven.at 23 rfl rfl) (fun x7 => ?_)
        refine os_if_ne (off := 15) (tgt := 59) rfl (hX10_laysGiven.at 24 rfl rfl) ?_ ?_
        · exact osW.sub [0, 1] rfl (sX10_laysGiven_59 N c7 g7 l0 l1)
        · refine os_aload_n (i := 0) (q := 0) (v := l0) 0 rfl rfl (hX10_laysGiven.at 25 rfl rfl) ?_
          refine os_iload_n (i := 1) (q := 1) (v := l1) 1 rfl rfl (hX10_laysGiven.at 26 rfl rfl) ?_
          refine os_callV (cis := [8]) (b := l0) (As := [.int l1]) (st := []) (st' := (fun r => .int r :: [])) sl8_X10_isCut_X10_isCut mdX10_isCut wd2126 wd2128 (sX10_isCut N l0 l1) rfl rfl (fun _ => rfl) (Nat.le_of_ble_eq_true rfl) (Nat.le_of_ble_eq_true rfl) (Nat.le_of_ble_eq_true rfl) rfl (Nat.le_of_ble_eq_true rfl) rfl (Nat.le_of_ble_eq_true rfl) (hX10_laysGiven.at 27 rfl rfl) (fun x8 => ?_)
          refine os_if_ne (off := 7) (tgt := 59) rfl (hX10_laysGiven.at 28 rfl rfl) ?_ ?_
          · exact osW.sub [0, 1] rfl (sX10_laysGiven_59 N c7 g7 l0 l1)
          · refine os_iconst (i := 1) (v := (1 : Int32)) rfl (hX10_laysGiven.at 29 rfl rfl) ?_
            refine os_goto (off := 4) (tgt := 60) rfl (hX10_laysGiven.at 30 rfl rfl) ?_
            exact osW.sub [0, 1] rfl (sX10_laysGiven_60 N c7 g7 l0 l1 (1 : Int32))
set_option maxRecDepth 100000 in
set_option maxHeartbeats 4000000 in
theorem sX10_laysGiven_7 (N : Nat) (l0 : Nat) (l1 : Int32) : osW (osFinM (fun _ : Unit => none) 0 0) yX10_laysGiven cX10_laysGiven 3 none [] { frames := 2, cells := 0, slots := 0, locals := 44 } 0 0 7 [(0, .ref l0), (1, .int l1)] [] (qX10_laysGiven_7 N (l0, l1)) :=
  osloop_W (lvf := fun p => [(0, .ref p.1), (1, .int p.2)]) (stf := fun p => []) (fun ih g p => tX10_laysGiven_7 N ih (fun l0 l1 => g (l0, l1)) p.1 p.2) N (l0, l1)
set_option maxRecDepth 100000 in
set_option maxHeartbeats 4000000 in
theorem sX10_laysGiven (N : Nat) (l0 : Nat) : osMet yX10_laysGiven cX10_laysGiven 3 none 2 44 0 0 (fun _ : Unit => none) [.ref l0] (qX10_laysGiven N l0) := by
  refine osMet.of plX10 (Nat.le_of_ble_eq_true rfl) (osW.rw (lv2 := [(0, .ref l0)]) ?_ rfl rfl rfl)
  unfold qX10_laysGiven
  refine os_aload_n (i := 0) (q := 0) (v := l0) 0 rfl rfl (hX10_laysGiven.at 0 rfl rfl) ?_
  refine os_iconst (i := 0) (v := (0 : Int32)) rfl (hX10_laysGiven.at 1 rfl rfl) ?_
  refine os_put fX10_396 rfl rfl (hX10_laysGiven.at 2 rfl rfl) ?_
  refine os_iconst (i := 0) (v := (0 : Int32)) rfl (hX10_laysGiven.at 3 rfl rfl) ?_
  refine os_istore_n (i := 1) (q := 1) rfl (lv' := [(1, .int (0 : Int32)), (0, .ref l0)]) (Nat.le_of_ble_eq_true rfl) rfl (hX10_laysGiven.at 4 rfl rfl) ?_
  exact osW.sub [1, 0] rfl (sX10_laysGiven_7 N l0 (0 : Int32))
-- X10_supports
def KX10_supports : List (Nat × Nat × Instr) := [(0, 1, .iconst 0), (1, 1, .istore_n 3), (2, 1, .iconst 0), (3, 2, .istore 4), (5, 2, .iload 4), (7, 1, .aload_n 0), (8, 3, .getfield 7), (11, 1, .iconst 0), (12, 1, .iaload), (13, 3, .if_icmp .ge 58), (16, 1, .aload_n 0), (17, 3, .getfield 396), (20, 2, .iload 4), (22, 3, .invokestatic 111), (25, 3, .ifCond .eq 38), (28, 1, .aload_n 0), (29, 3, .getfield 16), (32, 3, .sipush 133), (35, 2, .iload 4), (37, 1, .iadd), (38, 1, .iaload), (39, 1, .iload_n 1), (40, 3, .if_icmp .ne 23), (43, 1, .aload_n 0), (44, 3, .getfield 16), (47, 2, .bipush 21), (49, 2, .iload 4), (51, 1, .iadd), (52, 1, .iaload), (53, 1, .iload_n 2), (54, 3, .if_icmp .eq 9), (57, 1, .iload_n 3), (58, 1, .iconst 1), (59, 1, .iadd), (60, 3, .goto 4), (63, 1, .iload_n 3), (64, 1, .istore_n 3), (65, 3, .iinc 4 1), (68, 3, .goto (-63)), (71, 1, .iload_n 3), (72, 1, .ireturn)]
theorem hX10_supports : osDs cX10_supports KX10_supports := by
  show ∀ q ∈ KX10_supports, decode cX10_supports q.1 = .ok (q.2.2, q.2.1)
  decide +kernel
def qX10_supports_64 (N : Nat) (c5 : Nat × Int32 × Int32 × Int32 × Int32 → osM Int32) (l0 : Nat) (l1 : Int32) (l2 : Int32) (l4 : Int32) (k0 : Int32) : osM Int32 := c5 (l0, l1, l2, k0, (l4 + (1 : Int32)))
def qX10_supports_63 (N : Nat) (c5 : Nat × Int32 × Int32 × Int32 × Int32 → osM Int32) (l0 : Nat) (l1 : Int32) (l2 : Int32) (l3 : Int32) (l4 : Int32) : osM Int32 := qX10_supports_64 N c5 l0 l1 l2 l4 l3
def bX10_supports_5 (N : Nat) (c5 : Nat × Int32 × Int32 × Int32 × Int32 → osM Int32) (l0 : Nat) (l1 : Int32) (l2 : Int32) (l3 : Int32) (l4 : Int32) : osM Int32 := osbind (osgR [8] 1 l0) fun x1 => osbind (osaI 0 x1 (0 : Int32)) fun x2 => osite (x2 ≤ l4) (osret l3) (osbind (osgI [8] 31 l0) fun x3 => osbind (qX10_has N x3 l4) fun x4 => osite (x4 = 0) (qX10_supports_63 N c5 l0 l1 l2 l3 l4) (osbind (osgR [8] 3 l0) fun x5 => osbind (osaI 0 x5 ((133 : Int32) + l4)) fun x6 => osite (x6 = l1) (osbind (osgR [8] 3 l0) fun x7 => osbind (osaI 0 x7 ((21 : Int32) + l4)) fun x8 => osite (x8 = l2) (qX10_supports_63 N c5 l0 l1 l2 l3 l4) (qX10_supports_64 N c5 l0 l1 l2 l4 (l3 + (1 : Int32)))) (qX10_supports_63 N c5 l0 l1 l2 l3 l4)))
def qX10_supports_5 (N : Nat) : Nat × Int32 × Int32 × Int32 × Int32 → osM Int32 := osloop (fun ih p => bX10_supports_5 N ih p.1 p.2.1 p.2.2.1 p.2.2.2.1 p.2.2.2.2) N
def qX10_supports (N : Nat) (l0 : Nat) (l1 : Int32) (l2 : Int32) : osM Int32 := qX10_supports_5 N (l0, l1, l2, (0 : Int32), (0 : Int32))
set_option maxRecDepth 100000 in
set_option maxHeartbeats 4000000 in
theorem sX10_supports_64 (N : Nat) (c5 : Nat × Int32 × Int32 × Int32 × Int32 → osM Int32) (g5 : ∀ (l0 : Nat) (l1 : Int32) (l2 : Int32) (l3 : Int32) (l4 : Int32), osW (osFinM (fun r : Int32 => some (.int r)) 0 0) yX10_supports cX10_supports 5 (some .int) [] { frames := 1, cells := 0, slots := 0, locals := 21 } 0 0 5 [(0, .ref l0), (1, .int l1), (2, .int l2), (3, .int l3), (4, .int l4)] [] (c5 (l0, l1, l2, l3, l4))) (l0 : Nat) (l1 : Int32) (l2 : Int32) (l4 : Int32) (k0 : Int32) : osW (osFinM (fun r : Int32 => some (.int r)) 0 0) yX10_supports cX10_supports 5 (some .int) [] { frames := 1, cells := 0, slots := 0, locals := 21 } 0 0 64 [(0, .ref l0), (1, .int l1), (2, .int l2), (4, .int l4)] [.int k0] (qX10_supports_64 N c5 l0 l1 l2 l4 k0) := by
  unfold qX10_supports_64
  refine os_istore_n (i := 3) (q := 3) rfl (lv' := [(3, .int k0), (0, .ref l0), (1, .int l1), (2, .int l2), (4, .int l4)]) (Nat.le_of_ble_eq_true rfl) rfl (hX10_supports.at 36 rfl rfl) ?_
  refine os_iinc (i := 4) (d := 1) (x := l4) (v := (1 : Int32)) (lv' := [(4, .int (l4 + (1 : Int32))), (3, .int k0), (0, .ref l0), (1, .int l1), (2, .int l2)]) 4 rfl rfl (Nat.le_of_ble_eq_true rfl) rfl (hX10_supports.at 37 rfl rfl) ?_
  refine os_goto (off := (-63)) (tgt := 5) rfl (hX10_supports.at 38 rfl rfl) ?_
  exact osW.sub [2, 3, 4, 1, 0] rfl (g5 l0 l1 l2 k0 (l4 + (1 : Int32)))
set_option maxRecDepth 100000 in
set_option maxHeartbeats 4000000 in
theorem sX10_supports_63 (N : Nat) (c5 : Nat × Int32 × Int32 × Int32 × Int32 → osM Int32) (g5 : ∀ (l0 : Nat) (l1 : Int32) (l2 : Int32) (l3 : Int32) (l4 : Int32), osW (osFinM (fun r : Int32 => some (.int r)) 0 0) yX10_supports cX10_supports 5 (some .int) [] { frames := 1, cells := 0, slots := 0, locals := 21 } 0 0 5 [(0, .ref l0), (1, .int l1), (2, .int l2), (3, .int l3), (4, .int l4)] [] (c5 (l0, l1, l2, l3, l4))) (l0 : Nat) (l1 : Int32) (l2 : Int32) (l3 : Int32) (l4 : Int32) : osW (osFinM (fun r : Int32 => some (.int r)) 0 0) yX10_supports cX10_supports 5 (some .int) [] { frames := 1, cells := 0, slots := 0, locals := 21 } 0 0 63 [(0, .ref l0), (1, .int l1), (2, .int l2), (3, .int l3), (4, .int l4)] [] (qX10_supports_63 N c5 l0 l1 l2 l3 l4) := by
  unfold qX10_supports_63
  refine os_iload_n (i := 3) (q := 3) (v := l3) 3 rfl rfl (hX10_supports.at 35 rfl rfl) ?_
  exact osW.sub [0, 1, 2, 4] rfl (sX10_supports_64 N c5 g5 l0 l1 l2 l4 l3)
set_option maxRecDepth 100000 in
set_option maxHeartbeats 4000000 in
theorem tX10_supports_5 (N : Nat) (c5 : Nat × Int32 × Int32 × Int32 × Int32 → osM Int32) (g5 : ∀ (l0 : Nat) (l1 : Int32) (l2 : Int32) (l3 : Int32) (l4 : Int32), osW (osFinM (fun r : Int32 => some (.int r)) 0 0) yX10_supports cX10_supports 5 (some .int) [] { frames := 1, cells := 0, slots := 0, locals := 21 } 0 0 5 [(0, .ref l0), (1, .int l1), (2, .int l2), (3, .int l3), (4, .int l4)] [] (c5 (l0, l1, l2, l3, l4))) (l0 : Nat) (l1 : Int32) (l2 : Int32) (l3 : Int32) (l4 : Int32) : osW (osFinM (fun r : Int32 => some (.int r)) 0 0) yX10_supports cX10_supports 5 (some .int) [] { frames := 1, cells := 0, slots := 0, locals := 21 } 0 0 5 [(0, .ref l0), (1, .int l1), (2, .int l2), (3, .int l3), (4, .int l4)] [] (bX10_supports_5 N c5 l0 l1 l2 l3 l4) := by
  unfold bX10_supports_5
  refine os_iload (v := l4) 4 rfl (hX10_supports.at 4 rfl rfl) ?_
  refine os_aload_n (i := 0) (q := 0) (v := l0) 0 rfl rfl (hX10_supports.at 5 rfl rfl) ?_
  refine os_getR fX10_7 (hX10_supports.at 6 rfl rfl) (fun x1 => ?_)
  refine os_iconst (i := 0) (v := (0 : Int32)) rfl (hX10_supports.at 7 rfl rfl) ?_
  refine os_iaload (hX10_supports.at 8 rfl rfl) (fun x2 => ?_)
  refine os_icmp_ge (off := 58) (tgt := 71) rfl (hX10_supports.at 9 rfl rfl) ?_ ?_
  · refine os_iload_n (i := 3) (q := 3) (v := l3) 3 rfl rfl (hX10_supports.at 39 rfl rfl) ?_
    exact os_iret (Nat.le_of_ble_eq_true rfl) (Nat.le_of_ble_eq_true rfl) (hX10_supports.at 40 rfl rfl).1
  · refine os_aload_n (i := 0) (q := 0) (v := l0) 0 rfl rfl (hX10_supports.at 10 rfl rfl) ?_
    refine os_getI fX10_396 (hX10_supports.at 11 rfl rfl) (fun x3 => ?_)
    refine os_iload (v := l4) 4 rfl (hX10_supports.at 12 rfl rfl) ?_
    refine os_callS (As := [.int x3, .int l4]) (st := []) (st' := (fun r => .int r :: [])) mdX10_has wd1860 wd1861 (sX10_has N x3 l4) rfl rfl (fun _ => rfl) (Nat.le_of_ble_eq_true rfl) (Nat.le_of_ble_eq_true rfl) (Nat.le_of_ble_eq_true rfl) rfl (Nat.le_of_ble_eq_true rfl) rfl (Nat.le_of_ble_eq_true rfl) (hX10_supports.at 13 rfl rfl) (fun x4 => ?_)
    refine os_if_eq (off := 38) (tgt := 63) rfl (hX10_supports.at 14 rfl rfl) ?_ ?_
    · exact osW.sub [0, 1, 2, 3, 4] rfl (sX10_supports_63 N c5 g5 l0 l1 l2 l3 l4)
    · refine os_aload_n (i := 0) (q := 0) (v := l0) 0 rfl rfl (hX10_supports.at 15 rfl rfl) ?_
      refine os_getR fX10_16 (hX10_supports.at 16 rfl rfl) (fun x5 => ?_)
      refine os_sipush (i := 133) (v := (133 : Int32)) rfl (hX10_supports.at 17 rfl rfl) ?_
      refine os_iload (v := l4) 4 rfl (hX10_supports.at 18 rfl rfl) ?_
      refine os_iadd (hX10_supports.at 19 rfl rfl) ?_
      refine os_iaload (hX10_supports.at 20 rfl rfl) (fun x6 => ?_)
      refine os_iload_n (i := 1) (q := 1) (v := l1) 1 rfl rfl (hX10_supports.at 21 rfl rfl) ?_
      refine os_icmp_ne (off := 23) (tgt := 63) rfl (hX10_supports.at 22 rfl rfl) ?_ ?_
      · exact osW.sub [0, 1, 2, 3, 4] rfl (sX10_supports_63 N c5 g5 l0 l1 l2 l3 l4)
      · refine os_aload_n (i := 0) (q := 0) (v := l0) 0 rfl rfl (hX10_supports.at 23 rfl rfl) ?_
        refine os_getR fX10_16 (hX10_supports.at 24 rfl rfl) (fun x7 => ?_)
        refine os_bipush (i := 21) (v := (21 : Int32)) rfl (hX10_supports.at 25 rfl rfl) ?_
        refine os_iload (v := l4) 4 rfl (hX10_supports.at 26 rfl rfl) ?_
        refine os_iadd (hX10_supports.at 27 rfl rfl) ?_
        refine os_iaload (hX10_supports.at 28 rfl rfl) (fun x8 => ?_)
        refine os_iload_n (i := 2) (q := 2) (v := l2) 2 rfl rfl (hX10_supports.at 29 rfl rfl) ?_
        refine os_icmp_eq (off := 9) (tgt := 63) rfl (hX10_supports.at 30 rfl rfl) ?_ ?_
        · exact osW.sub [0, 1, 2, 3, 4] rfl (sX10_supports_63 N c5 g5 l0 l1 l2 l3 l4)
        · refine os_iload_n (i := 3) (q := 3) (v := l3) 3 rfl rfl (hX10_supports.at 31 rfl rfl) ?_
          refine os_iconst (i := 1) (v := (1 : Int32)) rfl (hX10_supports.at 32 rfl rfl) ?_
          refine os_iadd (hX10_supports.at 33 rfl rfl) ?_
          refine os_goto (off := 4) (tgt := 64) rfl (hX10_supports.at 34 rfl rfl) ?_
          exact osW.sub [0, 1, 2, 4] rfl (sX10_supports_64 N c5 g5 l0 l1 l2 l4 (l3 + (1 : Int32)))
set_option maxRecDepth 100000 in
set_option maxHeartbeats 4000000 in
theorem sX10_supports_5 (N : Nat) (l0 : Nat) (l1 : Int32) (l2 : Int32) (l3 : Int32) (l4 : Int32) : osW (osFinM (fun r : Int32 => some (.int r)) 0 0) yX10_supports cX10_supports 5 (some .int) [] { frames := 1, cells := 0, slots := 0, locals := 21 } 0 0 5 [(0, .ref l0), (1, .int l1), (2, .int l2), (3, .int l3), (4, .int l4)] [] (qX10_supports_5 N (l0, l1, l2, l3, l4)) :=
  osloop_W (lvf := fun p => [(0, .ref p.1), (1, .int p.2.1), (2, .int p.2.2.1), (3, .int p.2.2.2.1), (4, .int p.2.2.2.2)]) (stf := fun p => []) (fun ih g p => tX10_supports_5 N ih (fun l0 l1 l2 l3 l4 => g (l0, l1, l2, l3, l4)) p.1 p.2.1 p.2.2.1 p.2.2.2.1 p.2.2.2.2) N (l0, l1, l2, l3, l4)
set_option maxRecDepth 100000 in
set_option maxHeartbeats 4000000 in
theorem sX10_supports (N : Nat) (l0 : Nat) (l1 : Int32) (l2 : Int32) : osMet yX10_supports cX10_supports 5 (some .int) 1 21 0 0 (fun r : Int32 => some (.int r)) [.ref l0, .int l1, .int l2] (qX10_supports N l0 l1 l2) := by
  refine osMet.of plX10 (Nat.le_of_ble_eq_true rfl) (osW.rw (lv2 := [(0, .ref l0), (1, .int l1), (2, .int l2)]) ?_ rfl rfl rfl)
  unfold qX10_supports
  refine os_iconst (i := 0) (v := (0 : Int32)) rfl (hX10_supports.at 0 rfl rfl) ?_
  refine os_istore_n (i := 3) (q := 3) rfl (lv' := [(3, .int (0 : Int32)), (0, .ref l0), (1, .int l1), (2, .int l2)]) (Nat.le_of_ble_eq_true rfl) rfl (hX10_supports.at 1 rfl rfl) ?_
  refine os_iconst (i := 0) (v := (0 : Int32)) rfl (hX10_supports.at 2 rfl rfl) ?_
  refine os_istore (i := 4) (lv' := [(4, .int (0 : Int32)), (3, .int (0 : Int32)), (0, .ref l0), (1, .int l1), (2, .int l2)]) (Nat.le_of_ble_eq_true rfl) rfl (hX10_supports.at 3 rfl rfl) ?_
  exact osW.sub [2, 3, 4, 1, 0] rfl (sX10_supports_5 N l0 l1 l2 (0 : Int32) (0 : Int32))
-- X10_attackOf
def KX10_attackOf : List (Nat × Nat × Instr) := [(0, 1, .aload_n 0), (1, 3, .getfield 386), (4, 1, .iload_n 1), (5, 3, .invokestatic 111), (8, 3, .ifCond .ne 5), (11, 1, .iconst 0), (12, 1, .ireturn), (13, 1, .aload_n 0), (14, 3, .getfield 42), (17, 1, .iload_n 1), (18, 1, .iaload), (19, 1, .istore_n 2), (20, 1, .aload_n 0), (21, 1, .aload_n 0), (22, 3, .getfield 48), (25, 1, .iload_n 2), (26, 1, .iaload), (27, 3, .invokevirtual 383), (30, 3, .ifCond .eq 17), (33, 1, .aload_n 0), (34, 3, .getfield 45), (37, 1, .iload_n 1), (38, 1, .iaload), (39, 1, .iconst (-1)), (40, 3, .if_icmp .ne 7), (43, 1, .iconst 1), (44, 3, .goto 4), (47, 1, .iconst 0), (48, 1, .istore_n 3), (49, 1, .aload_n 0), (50, 3, .getfield 16), (53, 1, .iload_n 2), (54, 3, .invokestatic 103), (57, 3, .ifCond .eq 7), (60, 1, .iload_n 3), (61, 3, .ifCond .eq 10), (64, 1, .aload_n 0), (65, 3, .getfield 55), (68, 1, .iload_n 1), (69, 1, .iaload), (70, 1, .ireturn), (71, 1, .aload_n 0), (72, 3, .getfield 16), (75, 2, .bipush 21), (77, 1, .iload_n 2), (78, 1, .iadd), (79, 1, .iaload), (80, 2, .istore 4), (82, 2, .iload 4), (84, 1, .aload_n 0), (85, 3, .getfield 16), (88, 2, .bipush 21), (90, 1, .aload_n 0), (91, 3, .getfield 39), (94, 1, .iload_n 1), (95, 1, .iaload), (96, 1, .iadd), (97, 1, .iaload), (98, 3, .if_icmp .ne 7), (101, 1, .iconst 0), (102, 3, .goto 17), (105, 1, .iconst 1), (106, 1, .aload_n 0), (107, 1, .aload_n 0), (108, 3, .getfield 39), (111, 1, .iload_n 1), (112, 1, .iaload), (113, 2, .iload 4), (115, 3, .invokevirtual 405), (118, 1, .iadd), (119, 1, .ireturn)]
theorem hX10_attackOf : osDs cX10_attackOf KX10_attackOf := by
  show ∀ q ∈ KX10_attackOf, decode cX10_attackOf q.1 = .ok (q.2.2, q.2.1)
  decide +kernel
def qX10_attackOf_64 (N : Nat) (l0 : Nat) (l1 : Int32) : osM Int32 := osbind (osgR [8] 32 l0) fun x1 => osbind (osaI 0 x1 l1) fun x2 => osret x2
def qX10_attackOf_119 (N : Nat) (k0 : Int32) : osM Int32 := osret k0
def qX10_attackOf_48 (N : Nat) (l0 : Nat) (l1 : Int32) (l2 : Int32) (k0 : Int32) : osM Int32 := osbind (osgR [8] 3 l0) fun x1 => osbind (qX10_isUnit N x1 l2) fun x2 => osite (x2 = 0) (qX10_attackOf_64 N l0 l1) (osite (k0 = 0) (osbind (osgR [8] 3 l0) fun x3 => osbind (osaI 0 x3 ((21 : Int32) + l2)) fun x4 => osbind (osgR [8] 3 l0) fun x5 => osbind (osgR [8] 21 l0) fun x6 => osbind (osaI 0 x6 l1) fun x7 => osbind (osaI 0 x5 ((21 : Int32) + x7)) fun x8 => osite (x4 = x8) (qX10_attackOf_119 N (0 : Int32)) (osbind (osgR [8] 21 l0) fun x9 => osbind (osaI 0 x9 l1) fun x10 => osbind (osrecv [8] l0 (qX10_supports N l0 x10 x4)) fun x11 => qX10_attackOf_119 N ((1 : Int32) + x11))) (qX10_attackOf_64 N l0 l1))
def qX10_attackOf_47 (N : Nat) (l0 : Nat) (l1 : Int32) (l2 : Int32) : osM Int32 := qX10_attackOf_48 N l0 l1 l2 (0 : Int32)
def qX10_attackOf (N : Nat) (l0 : Nat) (l1 : Int32) : osM Int32 := osbind (osgI [8] 30 l0) fun x1 => osbind (qX10_has N x1 l1) fun x2 => osite (x2 = 0) (osret (0 : Int32)) (osbind (osgR [8] 22 l0) fun x3 => osbind (osaI 0 x3 l1) fun x4 => osbind (osgR [8] 24 l0) fun x5 => osbind (osaI 0 x5 x4) fun x6 => osbind (osrecv [8] l0 (qX10_succeeds N l0 x6)) fun x7 => osite (x7 = 0) (qX10_attackOf_47 N l0 l1 x4) (osbind (osgR [8] 23 l0) fun x8 => osbind (osaI 0 x8 l1) fun x9 => osite (x9 = (-1 : Int32)) (qX10_attackOf_48 N l0 l1 x4 (1 : Int32)) (qX10_attackOf_47 N l0 l1 x4)))
set_option maxRecDepth 100000 in
set_option maxHeartbeats 4000000 in
theorem sX10_attackOf_64 (N : Nat) (l0 : Nat) (l1 : Int32) : osW (osFinM (fun r : Int32 => some (.int r)) 0 0) yX10_attackOf cX10_attackOf 5 (some .int) [] { frames := 2, cells := 0, slots := 0, locals := 45 } 0 0 64 [(0, .ref l0), (1, .int l1)] [] (qX10_attackOf_64 N l0 l1) := by
  unfold qX10_attackOf_64
  refine os_aload_n (i := 0) (q := 0) (v := l0) 0 rfl rfl (hX10_attackOf.at 36 rfl rfl) ?_
  refine os_getR fX10_55 (hX10_attackOf.at 37 rfl rfl) (fun x1 => ?_)
  refine os_iload_n (i := 1) (q := 1) (v := l1) 1 rfl rfl (hX10_attackOf.at 38 rfl rfl) ?_
  refine os_iaload (hX10_attackOf.at 39 rfl rfl) (fun x2 => ?_)
  exact os_iret (Nat.le_of_ble_eq_true rfl) (Nat.le_of_ble_eq_true rfl) (hX10_attackOf.at 40 rfl rfl).1
set_option maxRecDepth 100000 in
set_option maxHeartbeats 4000000 in
theorem sX10_attackOf_119 (N : Nat) (k0 : Int32) : osW (osFinM (fun r : Int32 => some (.int r)) 0 0) yX10_attackOf cX10_attackOf 5 (some .int) [] { frames := 2, cells := 0, slots := 0, locals := 45 } 0 0 119 [] [.int k0] (qX10_attackOf_119 N k0) := by
  unfold qX10_attackOf_119
  exact os_iret (Nat.le_of_ble_eq_true rfl) (Nat.le_of_ble_eq_true rfl) (hX10_attackOf.at 70 rfl rfl).1
set_option maxRecDepth 100000 in
set_option maxHeartbeats 4000000 in
theorem sX10_attackOf_48 (N : Nat) (l0 : Nat) (l1 : Int32) (l2 : Int32) (k0 : Int32) : osW (osFinM (fun r : Int32 => some (.int r)) 0 0) yX10_attackOf cX10_attackOf 5 (some .int) [] { frames := 2, cells := 0, slots := 0, locals := 45 } 0 0 48 [(0, .ref l0), (1, .int l1), (2, .int l2)] [.int k0] (qX10_attackOf_48 N l0 l1 l2 k0) := by
  unfold qX10_attackOf_48
  refine os_istore_n (i := 3) (q := 3) rfl (lv' := [(3, .int k0), (0, .ref l0), (1, .int l1), (2, .int l2)]) (Nat.le_of_ble_eq_true rfl) rfl (hX10_attackOf.at 28 rfl rfl) ?_
  refine os_aload_n (i := 0) (q := 0) (v := l0) 1 rfl rfl (hX10_attackOf.at 29 rfl rfl) ?_
  refine os_getR fX10_16 (hX10_attackOf.at 30 rfl rfl) (fun x1 => ?_)
  refine os_iload_n (i := 2) (q := 2) (v := l2) 3 rfl rfl (hX10_attackOf.at 31 rfl rfl) ?_
  refine os_callS (As := [.ref x1, .int l2]) (st := []) (st' := (fun r => .int r :: [])) mdX10_isUnit wd1879 wd1880 (sX10_isUnit N x1 l2) rfl rfl (fun _ => rfl) (Nat.le_of_ble_eq_true rfl) (Nat.le_of_ble_eq_true rfl) (Nat.le_of_ble_eq_true rfl) rfl (Nat.le_of_ble_eq_true rfl) rfl (Nat.le_of_ble_eq_true rfl) (hX10_attackOf.at 32 rfl rfl) (fun x2 => ?_)
  refine os_if_eq (off := 7) (tgt := 64) rfl (hX10_attackOf.at 33 rfl rfl) ?_ ?_
  · exact osW.sub [1, 2] rfl (sX10_attackOf_64 N l0 l1)
  · refine os_iload_n (i := 3) (q := 3) (v := k0) 0 rfl rfl (hX10_attackOf.at 34 rfl rfl) ?_
    refine os_if_eq (off := 10) (tgt := 71) rfl (hX10_attackOf.at 35 rfl rfl) ?_ ?_
    · refine os_aload_n (i := 0) (q := 0) (v := l0) 1 rfl rfl (hX10_attackOf.at 41 rfl rfl) ?_
      refine os_getR fX10_16 (hX10_attackOf.at 42 rfl rfl) (fun x3 => ?_)
      refine os_bipush (i := 21) (v := (21 : Int32)) rfl (hX10_attackOf.at 43 rfl rfl) ?_
      refine os_iload_n (i := 2) (q := 2) (v := l2) 3 rfl rfl (hX10_attackOf.at 44 rfl rfl) ?_
      refine os_iadd (hX10_attackOf.at 45 rfl rfl) ?_
      refine os_iaload (hX10_attackOf.at 46 rfl rfl) (fun x4 => ?_)
      refine os_istore (i := 4) (lv' := [(4, .int x4), (3, .int k0), (0, .ref l0), (1, .int l1), (2, .int l2)]) (Nat.le_of_ble_eq_true rfl) rfl (hX10_attackOf.at 47 rfl rfl) ?_
      refine os_iload (v := x4) 0 rfl (hX10_attackOf.at 48 rfl rfl) ?_
      refine os_aload_n (i := 0) (q := 0) (v := l0) 2 rfl rfl (hX10_attackOf.at 49 rfl rfl) ?_
      refine os_getR fX10_16 (hX10_attackOf.at 50 rfl rfl) (fun x5 => ?_)
      refine os_bipush (i := 21) (v := (21 : Int32)) rfl (hX10_attackOf.at 51 rfl rfl) ?_
      refine os_aload_n (i := 0) (q := 0) (v := l0) 2 rfl rfl (hX10_attackOf.at 52 rfl rfl) ?_
      refine os_getR fX10_39 (hX10_attackOf.at 53 rfl rfl) (fun x6 => ?_)
      refine os_iload_n (i := 1) (q := 1) (v := l1) 3 rfl rfl (hX10_attackOf.at 54 rfl rfl) ?_
      refine os_iaload (hX10_attackOf.at 55 rfl rfl) (fun x7 => ?_)
      refine os_iadd (hX10_attackOf.at 56 rfl rfl) ?_
      refine os_iaload (hX10_attackOf.at 57 rfl rfl) (fun x8 => ?_)
      refine os_icmp_ne (off := 7) (tgt := 105) rfl (hX10_attackOf.at 58 rfl rfl) ?_ ?_
      · refine os_iconst (i := 1) (v := (1 : Int32)) rfl (hX10_attackOf.at 61 rfl rfl) ?_
        refine os_aload_n (i := 0) (q := 0) (v := l0) 2 rfl rfl (hX10_attackOf.at 62 rfl rfl) ?_
        refine os_aload_n (i := 0) (q := 0) (v := l0) 2 rfl rfl (hX10_attackOf.at 63 rfl rfl) ?_
        refine os_getR fX10_39 (hX10_attackOf.at 64 rfl rfl) (fun x9 => ?_)
        refine os_iload_n (i := 1) (q := 1) (v := l1) 3 rfl rfl (hX10_attackOf.at 65 rfl rfl) ?_
        refine os_iaload (hX10_attackOf.at 66 rfl rfl) (fun x10 => ?_)
        refine os_iload (v := x4) 0 rfl (hX10_attackOf.at 67 rfl rfl) ?_
        refine os_callV (cis := [8]) (b := l0) (As := [.int x10, .int x4]) (st := [.int (1 : Int32)]) (st' := (fun r => .int r :: [.int (1 : Int32)])) sl8_X10_supports_X10_supports mdX10_supports wd2130 wd2132 (sX10_supports N l0 x10 x4) rfl rfl (fun _ => rfl) (Nat.le_of_ble_eq_true rfl) (Nat.le_of_ble_eq_true rfl) (Nat.le_of_ble_eq_true rfl) rfl (Nat.le_of_ble_eq_true rfl) rfl (Nat.le_of_ble_eq_true rfl) (hX10_attackOf.at 68 rfl rfl) (fun x11 => ?_)
        refine os_iadd (hX10_attackOf.at 69 rfl rfl) ?_
        exact osW.sub [] rfl (sX10_attackOf_119 N ((1 : Int32) + x11))
      · refine os_iconst (i := 0) (v := (0 : Int32)) rfl (hX10_attackOf.at 59 rfl rfl) ?_
        refine os_goto (off := 17) (tgt := 119) rfl (hX10_attackOf.at 60 rfl rfl) ?_
        exact osW.sub [] rfl (sX10_attackOf_119 N (0 : Int32))
    · exact osW.sub [1, 2] rfl (sX10_attackOf_64 N l0 l1)
set_option maxRecDepth 100000 in
set_option maxHeartbeats 4000000 in
theorem sX10_attackOf_47 (N : Nat) (l0 : Nat) (l1 : Int32) (l2 : Int32) : osW (osFinM (fun r : Int32 => some (.int r)) 0 0) yX10_attackOf cX10_attackOf 5 (some .int) [] { frames := 2, cells := 0, slots := 0, locals := 45 } 0 0 47 [(0, .ref l0), (1, .int l1), (2, .int l2)] [] (qX10_attackOf_47 N l0 l1 l2) := by
  unfold qX10_attackOf_47
  refine os_iconst (i := 0) (v := (0 : Int32)) rfl (hX10_attackOf.at 27 rfl rfl) ?_
  exact osW.sub [0, 1, 2] rfl (sX10_attackOf_48 N l0 l1 l2 (0 : Int32))
set_option maxRecDepth 100000 in
set_option maxHeartbeats 4000000 in
theorem sX10_attackOf (N : Nat) (l0 : Nat) (l1 : Int32) : osMet yX10_attackOf cX10_attackOf 5 (some .int) 2 45 0 0 (fun r : Int32 => some (.int r)) [.ref l0, .int l1] (qX10_attackOf N l0 l1) := by
  refine osMet.of plX10 (Nat.le_of_ble_eq_true rfl) (osW.rw (lv2 := [(0, .ref l0), (1, .int l1)]) ?_ rfl rfl rfl)
  unfold qX10_attackOf
  refine os_aload_n (i := 0) (q := 0) (v := l0) 0 rfl rfl (hX10_attackOf.at 0 rfl rfl) ?_
  refine os_getI fX10_386 (hX10_attackOf.at 1 rfl rfl) (fun x1 => ?_)
  refine os_iload_n (i := 1) (q := 1) (v := l1) 1 rfl rfl (hX10_attackOf.at 2 rfl rfl) ?_
  refine os_callS (As := [.int x1, .int l1]) (st := []) (st' := (fun r => .int r :: [])) mdX10_has wd1860 wd1861 (sX10_has N x1 l1) rfl rfl (fun _ => rfl) (Nat.le_of_ble_eq_true rfl) (Nat.le_of_ble_eq_true rfl) (Nat.le_of_ble_eq_true rfl) rfl (Nat.le_of_ble_eq_true rfl) rfl (Nat.le_of_ble_eq_true rfl) (hX10_attackOf.at 3 rfl rfl) (fun x2 => ?_)
  refine os_if_ne (off := 5) (tgt := 13) rfl (hX10_attackOf.at 4 rfl rfl) ?_ ?_
  · refine os_aload_n (i := 0) (q := 0) (v := l0) 0 rfl rfl (hX10_attackOf.at 7 rfl rfl) ?_
    refine os_getR fX10_42 (hX10_attackOf.at 8 rfl rfl) (fun x3 => ?_)
    refine os_iload_n (i := 1) (q := 1) (v := l1) 1 rfl rfl (hX10_attackOf.at 9 rfl rfl) ?_
    refine os_iaload (hX10_attackOf.at 10 rfl rfl) (fun x4 => ?_)
    refine os_istore_n (i := 2) (q := 2) rfl (lv' := [(2, .int x4), (0, .ref l0), (1, .int l1)]) (Nat.le_of_ble_eq_true rfl) rfl (hX10_attackOf.at 11 rfl rfl) ?_
    refine os_aload_n (i := 0) (q := 0) (v := l0) 1 rfl rfl (hX10_attackOf.at 12 rfl rfl) ?_
    refine os_aload_n (i := 0) (q := 0) (v := l0) 1 rfl rfl (hX10_attackOf.at 13 rfl rfl) ?_
    refine os_getR fX10_48 (hX10_attackOf.at 14 rfl rfl) (fun x5 => ?_)
    refine os_iload_n (i := 2) (q := 2) (v := x4) 0 rfl rfl (hX10_attackOf.at 15 rfl rfl) ?_
    refine os_iaload (hX10_attackOf.at 16 rfl rfl) (fun x6 => ?_)
    refine os_callV (cis := [8]) (b := l0) (As := [.int x6]) (st := []) (st' := (fun r => .int r :: [])) sl8_X10_succeeds_X10_succeeds mdX10_succeeds wd2106 wd2108 (sX10_succeeds N l0 x6) rfl rfl (fun _ => rfl) (Nat.le_of_ble_eq_true rfl) (Nat.le_of_ble_eq_true rfl) (Nat.le_of_ble_eq_true rfl) rfl (Nat.le_of_ble_eq_true rfl) rfl (Nat.le_of_ble_eq_true rfl) (hX10_attackOf.at 17 rfl rfl) (fun x7 => ?_)
    refine os_if_eq (off := 17) (tgt := 47) rfl (hX10_attackOf.at 18 rfl rfl) ?_ ?_
    · exact osW.sub [1, 2, 0] rfl (sX10_attackOf_47 N l0 l1 x4)
    · refine os_aload_n (i := 0) (q := 0) (v := l0) 1 rfl rfl (hX10_attackOf.at 19 rfl rfl) ?_
      refine os_getR fX10_45 (hX10_attackOf.at 20 rfl rfl) (fun x8 => ?_)
      refine os_iload_n (i := 1) (q := 1) (v := l1) 2 rfl rfl (hX10_attackOf.at 21 rfl rfl) ?_
      refine os_iaload (hX10_attackOf.at 22 rfl rfl) (fun x9 => ?_)
      refine os_iconst (i := (-1)) (v := (-1 : Int32)) rfl (hX10_attackOf.at 23 rfl rfl) ?_
      refine os_icmp_ne (off := 7) (tgt := 47) rfl (hX10_attackOf.at 24 rfl rfl) ?_ ?_
      · exact osW.sub [1, 2, 0] rfl (sX10_attackOf_47 N l0 l1 x4)
      · refine os_iconst (i := 1) (v := (1 : Int32)) rfl (hX10_attackOf.at 25 rfl rfl) ?_
        refine os_goto (off := 4) (tgt := 48) rfl (hX10_attackOf.at 26 rfl rfl) ?_
        exact osW.sub [1, 2, 0] rfl (sX10_attackOf_48 N l0 l1 x4 (1 : Int32))
  · refine os_iconst (i := 0) (v := (0 : Int32)) rfl (hX10_attackOf.at 5 rfl rfl) ?_
    exact os_iret (Nat.le_of_ble_eq_true rfl) (Nat.le_of_ble_eq_true rfl) (hX10_attackOf.at 6 rfl rfl).1
-- X10_holdOf
def KX10_holdOf : List (Nat × Nat × Instr) := [(0, 1, .aload_n 0), (1, 3, .getfield 16), (4, 1, .iload_n 1), (5, 3, .invokestatic 103), (8, 3, .ifCond .ne 5), (11, 1, .iconst 0), (12, 1, .ireturn), (13, 1, .aload_n 0), (14, 3, .getfield 48), (17, 1, .iload_n 1), (18, 1, .iaload), (19, 1, .iconst (-1)), (20, 3, .if_icmp .eq 22), (23, 1, .aload_n 0), (24, 1, .aload_n 0), (25, 3, .getfield 48), (28, 1, .iload_n 1), (29, 1, .iaload), (30, 3, .invokevirtual 383), (33, 3, .ifCond .eq 7), (36, 1, .iconst 0), (37, 3, .goto 4), (40, 1, .iconst 1), (41, 1, .ireturn), (42, 1, .iconst 1), (43, 1, .aload_n 0), (44, 1, .iload_n 1), (45, 1, .iconst (-1)), (46, 3, .invokevirtual 405), (49, 1, .iadd), (50, 1, .ireturn)]
theorem hX10_holdOf : osDs cX10_holdOf KX10_holdOf := by
  show ∀ q ∈ KX10_holdOf, decode cX10_holdOf q.1 = .ok (q.2.2, q.2.1)
  decide +kernel
def qX10_holdOf_41 (N : Nat) (k0 : Int32) : osM Int32 := osret k0
def qX10_holdOf (N : Nat) (l0 : Nat) (l1 : Int32) : osM Int32 := osbind (osgR [8] 3 l0) fun x1 => osbind (qX10_isUnit N x1 l1) fun x2 => osite (x2 = 0) (osret (0 : Int32)) (osbind (osgR [8] 24 l0) fun x3 => osbind (osaI 0 x3 l1) fun x4 => osite (x4 = (-1 : Int32)) (osbind (osrecv [8] l0 (qX10_supports N l0 l1 (-1 : Int32))) fun x5 => osret ((1 : Int32) + x5)) (osbind (osgR [8] 24 l0) fun x6 => osbind (osaI 0 x6 l1) fun x7 => osbind (osrecv [8] l0 (qX10_succeeds N l0 x7)) fun x8 => osite (x8 = 0) (qX10_holdOf_41 N (1 : Int32)) (qX10_holdOf_41 N (0 : Int32))))
set_option maxRecDepth 100000 in
set_option maxHeartbeats 4000000 in
theorem sX10_holdOf_41 (N : Nat) (k0 : Int32) : osW (osFinM (fun r : Int32 => some (.int r)) 0 0) yX10_holdOf cX10_holdOf 2 (some .int) [] { frames := 2, cells := 0, slots := 0, locals := 45 } 0 0 41 [] [.int k0] (qX10_holdOf_41 N k0) := by
  unfold qX10_holdOf_41
  exact os_iret (Nat.le_of_ble_eq_true rfl) (Nat.le_of_ble_eq_true rfl) (hX10_holdOf.at 23 rfl rfl).1
set_option maxRecDepth 100000 in
set_option maxHeartbeats 4000000 in
theorem sX10_holdOf (N : Nat) (l0 : Nat) (l1 : Int32) : osMet yX10_holdOf cX10_holdOf 2 (some .int) 2 45 0 0 (fun r : Int32 => some (.int r)) [.ref l0, .int l1] (qX10_holdOf N l0 l1) := by
  refine osMet.of plX10 (Nat.le_of_ble_eq_true rfl) (osW.rw (lv2 := [(0, .ref l0), (1, .int l1)]) ?_ rfl rfl rfl)
  unfold qX10_holdOf
  refine os_aload_n (i := 0) (q := 0) (v := l0) 0 rfl rfl (hX10_holdOf.at 0 rfl rfl) ?_
  refine os_getR fX10_16 (hX10_holdOf.at 1 rfl rfl) (fun x1 => ?_)
  refine os_iload_n (i := 1) (q := 1) (v := l1) 1 rfl rfl (hX10_holdOf.at 2 rfl rfl) ?_
  refine os_callS (As := [.ref x1, .int l1]) (st := []) (st' := (fun r => .int r :: [])) mdX10_isUnit wd1879 wd1880 (sX10_isUnit N x1 l1) rfl rfl (fun _ => rfl) (Nat.le_of_ble_eq_true rfl) (Nat.le_of_ble_eq_true rfl) (Nat.le_of_ble_eq_true rfl) rfl (Nat.le_of_ble_eq_true rfl) rfl (Nat.le_of_ble_eq_true rfl) (hX10_holdOf.at 3 rfl rfl) (fun x2 => ?_)
  refine os_if_ne (off := 5) (tgt := 13) rfl (hX10_holdOf.at 4 rfl rfl) ?_ ?_
  · refine os_aload_n (i := 0) (q := 0) (v := l0) 0 rfl rfl (hX10_holdOf.at 7 rfl rfl) ?_
    refine os_getR fX10_48 (hX10_holdOf.at 8 rfl rfl) (fun x3 => ?_)
    refine os_iload_n (i := 1) (q := 1) (v := l1) 1 rfl rfl (hX10_holdOf.at 9 rfl rfl) ?_
    refine os_iaload (hX10_holdOf.at 10 rfl rfl) (fun x4 => ?_)
    refine os_iconst (i := (-1)) (v := (-1 : Int32)) rfl (hX10_holdOf.at 11 rfl rfl) ?_
    refine os_icmp_eq (off := 22) (tgt := 42) rfl (hX10_holdOf.at 12 rfl rfl) ?_ ?_
    · refine os_iconst (i := 1) (v := (1 : Int32)) rfl (hX10_holdOf.at 24 rfl rfl) ?_
      refine os_aload_n (i := 0) (q := 0) (v := l0) 0 rfl rfl (hX10_holdOf.at 25 rfl rfl) ?_
      refine os_iload_n (i := 1) (q := 1) (v := l1) 1 rfl rfl (hX10_holdOf.at 26 rfl rfl) ?_
      refine os_iconst (i := (-1)) (v := (-1 : Int32)) rfl (hX10_holdOf.at 27 rfl rfl) ?_
      refine os_callV (cis := [8]) (b := l0) (As := [.int l1, .int (-1 : Int32)]) (st := [.int (1 : Int32)]) (st' := (fun r => .int r :: [.int (1 : Int32)])) sl8_X10_supports_X10_supports mdX10_supports wd2130 wd2132 (sX10_supports N l0 l1 (-1 : Int32)) rfl rfl (fun _ => rfl) (Nat.le_of_ble_eq_true rfl) (Nat.le_of_ble_eq_true rfl) (Nat.le_of_ble_eq_true rfl) rfl (Nat.le_of_ble_eq_true rfl) rfl (Nat.le_of_ble_eq_true rfl) (hX10_holdOf.at 28 rfl rfl) (fun x5 => ?_)
      refine os_iadd (hX10_holdOf.at 29 rfl rfl) ?_
      exact os_iret (Nat.le_of_ble_eq_true rfl) (Nat.le_of_ble_eq_true rfl) (hX10_holdOf.at 30 rfl rfl).1
    · refine os_aload_n (i := 0) (q := 0) (v := l0) 0 rfl rfl (hX10_holdOf.at 13 rfl rfl) ?_
      refine os_aload_n (i := 0) (q := 0) (v := l0) 0 rfl rfl (hX10_holdOf.at 14 rfl rfl) ?_
      refine os_getR fX10_48 (hX10_holdOf.at 15 rfl rfl) (fun x6 => ?_)
      refine os_iload_n (i := 1) (q := 1) (v := l1) 1 rfl rfl (hX10_holdOf.at 16 rfl rfl) ?_
      refine os_iaload (hX10_holdOf.at 17 rfl rfl) (fun x7 => ?_)
      refine os_callV (cis := [8]) (b := l0) (As := [.int x7]) (st := []) (st' := (fun r => .int r :: [])) sl8_X10_succeeds_X10_succeeds mdX10_succeeds wd2106 wd2108 (sX10_succeeds N l0 x7) rfl rfl (fun _ => rfl) (Nat.le_of_ble_eq_true rfl) (Nat.le_of_ble_eq_true rfl) (Nat.le_of_ble_eq_true rfl) rfl (Nat.le_of_ble_eq_true rfl) rfl (Nat.le_of_ble_eq_true rfl) (hX10_holdOf.at 18 rfl rfl) (fun x8 => ?_)
      refine os_if_eq (off := 7) (tgt := 40) rfl (hX10_holdOf.at 19 rfl rfl) ?_ ?_
      · refine os_iconst (i := 1) (v := (1 : Int32)) rfl (hX10_holdOf.at 22 rfl rfl) ?_
        exact osW.sub [] rfl (sX10_holdOf_41 N (1 : Int32))
      · refine os_iconst (i := 0) (v := (0 : Int32)) rfl (hX10_holdOf.at 20 rfl rfl) ?_
        refine os_goto (off := 4) (tgt := 41) rfl (hX10_holdOf.at 21 rfl rfl) ?_
        exact osW.sub [] rfl (sX10_holdOf_41 N (0 : Int32))
  · refine os_iconst (i := 0) (v := (0 : Int32)) rfl (hX10_holdOf.at 5 rfl rfl) ?_
    exact os_iret (Nat.le_of_ble_eq_true rfl) (Nat.le_of_ble_eq_true rfl) (hX10_holdOf.at 6 rfl rfl).1
-- X10_says
def KX10_says : List (Nat × Nat × Instr) := [(0, 1, .aload_n 0), (1, 1, .iload_n 1), (2, 3, .putfield 374), (5, 1, .aload_n 0), (6, 3, .invokevirtual 408), (9, 1, .aload_n 0), (10, 3, .invokevirtual 411), (13, 1, .aload_n 0), (14, 3, .invokevirtual 414), (17, 1, .iconst 0), (18, 1, .istore_n 2), (19, 1, .iload_n 2), (20, 1, .aload_n 0), (21, 3, .getfield 371), (24, 3, .if_icmp .ge 28), (27, 1, .aload_n 0), (28, 3, .getfield 55), (31, 1, .iload_n 2), (32, 1, .iconst 1), (33, 1, .aload_n 0), (34, 1, .aload_n 0), (35, 3, .getfield 39), (38, 1, .iload_n 2), (39, 1, .iaload), (40, 1, .iconst (-1)), (41, 3, .invokevirtual 405), (44, 1, .iadd), (45, 1, .iastore), (46, 3, .iinc 2 1), (49, 3, .goto (-30)), (52, 1, .iconst 0), (53, 1, .istore_n 2), (54, 1, .iload_n 2), (55, 1, .aload_n 0), (56, 3, .getfield 371), (59, 3, .if_icmp .ge 60), (62, 1, .aload_n 0), (63, 3, .getfield 58), (66, 1, .iload_n 2), (67, 1, .aload_n 0), (68, 1, .iload_n 2), (69, 3, .invokevirtual 417), (72, 1, .iastore), (73, 1, .aload_n 0), (74, 3, .getfield 61), (77, 1, .iload_n 2), (78, 1, .aload_n 0), (79, 3, .getfield 386), (82, 1, .iload_n 2), (83, 3, .invokestatic 111), (86, 3, .ifCond .eq 25), (89, 1, .aload_n 0), (90, 1, .aload_n 0), (91, 3, .getfield 45), (94, 1, .iload_n 2), (95, 1, .iaload), (96, 3, .invokevirtual 383), (99, 3, .ifCond .ne 12), (102, 1, .aload_n 0), (103, 3, .getfield 55), (106, 1, .iload_n 2), (107, 1, .iaload), (108, 3, .goto 4), (111, 1, .iconst 0), (112, 1, .iastore), (113, 3, .iinc 2 1), (116, 3, .goto (-62)), (119, 1, .iconst 0), (120, 1, .istore_n 2), (121, 1, .iload_n 2), (122, 1, .aload_n 0), (123, 3, .getfield 7), (126, 1, .iconst 0), (127, 1, .iaload), (128, 3, .if_icmp .ge 20), (131, 1, .aload_n 0), (132, 3, .getfield 64), (135, 1, .iload_n 2), (136, 1, .aload_n 0), (137, 1, .iload_n 2), (138, 3, .invokevirtual 420), (141, 1, .iastore), (142, 3, .iinc 2 1), (145, 3, .goto (-24)), (148, 1, .return_)]
theorem hX10_says : osDs cX10_says KX10_says := by
  show ∀ q ∈ KX10_says, decode cX10_says q.1 = .ok (q.2.2, q.2.1)
  decide +kernel
def bX10_says_121 (N : Nat) (c121 : Nat × Int32 → osM Unit) (l0 : Nat) (l2 : Int32) : osM Unit := osbind (osgR [8] 1 l0) fun x1 => osbind (osaI 0 x1 (0 : Int32)) fun x2 => osite (x2 ≤ l2) (osret ()) (osbind (osgR [8] 35 l0) fun x3 => osbind (osrecv [8] l0 (qX10_holdOf N l0 l2)) fun x4 => osbind (ossI 0 x3 l2 x4) fun _ => c121 (l0, (l2 + (1 : Int32))))
def qX10_says_121 (N : Nat) : Nat × Int32 → osM Unit := osloop (fun ih p => bX10_says_121 N ih p.1 p.2) N
def qX10_says_112 (N : Nat) (c54 : Nat × Int32 → osM Unit) (l0 : Nat) (l2 : Int32) (k0 : Int32) (k1 : Int32) (k2 : Nat) : osM Unit := osbind (ossI 0 k2 k1 k0) fun _ => c54 (l0, (l2 + (1 : Int32)))
def qX10_says_111 (N : Nat) (c54 : Nat × Int32 → osM Unit) (l0 : Nat) (l2 : Int32) (k0 : Int32) (k1 : Nat) : osM Unit := qX10_says_112 N c54 l0 l2 (0 : Int32) k0 k1
def bX10_says_54 (N : Nat) (c54 : Nat × Int32 → osM Unit) (l0 : Nat) (l2 : Int32) : osM Unit := osbind (osgI [8] 26 l0) fun x1 => osite (x1 ≤ l2) (qX10_says_121 N (l0, (0 : Int32))) (osbind (osgR [8] 33 l0) fun x2 => osbind (osrecv [8] l0 (qX10_attackOf N l0 l2)) fun x3 => osbind (ossI 0 x2 l2 x3) fun _ => osbind (osgR [8] 34 l0) fun x4 => osbind (osgI [8] 30 l0) fun x5 => osbind (qX10_has N x5 l2) fun x6 => osite (x6 = 0) (qX10_says_111 N c54 l0 l2 l2 x4) (osbind (osgR [8] 23 l0) fun x7 => osbind (osaI 0 x7 l2) fun x8 => osbind (osrecv [8] l0 (qX10_succeeds N l0 x8)) fun x9 => osite (x9 = 0) (osbind (osgR [8] 32 l0) fun x10 => osbind (osaI 0 x10 l2) fun x11 => qX10_says_112 N c54 l0 l2 x11 l2 x4) (qX10_says_111 N c54 l0 l2 l2 x4)))
def qX10_says_54 (N : Nat) : Nat × Int32 → osM Unit := osloop (fun ih p => bX10_says_54 N ih p.1 p.2) N
def bX10_says_19 (N : Nat) (c19 : Nat × Int32 → osM Unit) (l0 : Nat) (l2 : Int32) : osM Unit := osbind (osgI [8] 26 l0) fun x1 => osite (x1 ≤ l2) (qX10_says_54 N (l0, (0 : Int32))) (osbind (osgR [8] 32 l0) fun x2 => osbind (osgR [8] 21 l0) fun x3 => osbind (osaI 0 x3 l2) fun x4 => osbind (osrecv [8] l0 (qX10_supports N l0 x4 (-1 : Int32))) fun x5 => osbind (ossI 0 x2 l2 ((1 : Int32) + x5)) fun _ => c19 (l0, (l2 + (1 : Int32))))
def qX10_says_19 (N : Nat) : Nat × Int32 → osM Unit := osloop (fun ih p => bX10_says_19 N ih p.1 p.2) N
def qX10_says (N : Nat) (l0 : Nat) (l1 : Int32) : osM Unit := osbind (osput [8] 28 l0 (.int l1)) fun _ => osbind (osrecv [8] l0 (qX10_laysDislodged N l0)) fun _ => osbind (osrecv [8] l0 (qX10_laysPaths N l0)) fun _ => osbind (osrecv [8] l0 (qX10_laysGiven N l0)) fun _ => qX10_says_19 N (l0, (0 : Int32))
set_option maxRecDepth 100000 in
set_option maxHeartbeats 4000000 in
theorem tX10_says_121 (N : Nat) (c121 : Nat × Int32 → osM Unit) (g121 : ∀ (l0 : Nat) (l2 : Int32), osW (osFinM (fun _ : Unit => none) 0 0) yX10_says cX10_says 3 none [] { frames := 4, cells := 0, slots := 0, locals := 93 } 0 0 121 [(0, .ref l0), (2, .int l2)] [] (c121 (l0, l2))) (l0 : Nat) (l2 : Int32) : osW (osFinM (fun _ : Unit => none) 0 0) yX10_says cX10_says 3 none [] { frames := 4, cells := 0, slots := 0, locals := 93 } 0 0 121 [(0, .ref l0), (2, .int l2)] [] (bX10_says_121 N c121 l0 l2) := by
  unfold bX10_says_121
  refine os_iload_n (i := 2) (q := 2) (v := l2) 1 rfl rfl (hX10_says.at 69 rfl rfl) ?_
  refine os_aload_n (i := 0) (q := 0) (v := l0) 0 rfl rfl (hX10_says.at 70 rfl rfl) ?_
  refine os_getR fX10_7 (hX10_says.at 71 rfl rfl) (fun x1 => ?_)
  refine os_iconst (i := 0) (v := (0 : Int32)) rfl (hX10_says.at 72 rfl rfl) ?_
  refine os_iaload (hX10_says.at 73 rfl rfl) (fun x2 => ?_)
  refine os_icmp_ge (off := 20) (tgt := 148) rfl (hX10_says.at 74 rfl rfl) ?_ ?_
  · exact os_vret (Nat.le_of_ble_eq_true rfl) (Nat.le_of_ble_eq_true rfl) (hX10_says.at 84 rfl rfl).1
  · refine os_aload_n (i := 0) (q := 0) (v := l0) 0 rfl rfl (hX10_says.at 75 rfl rfl) ?_
    refine os_getR fX10_64 (hX10_says.at 76 rfl rfl) (fun x3 => ?_)
    refine os_iload_n (i := 2) (q := 2) (v := l2) 1 rfl rfl (hX10_says.at 77 rfl rfl) ?_
    refine os_aload_n (i := 0) (q := 0) (v := l0) 0 rfl rfl (hX10_says.at 78 rfl rfl) ?_
    refine os_iload_n (i := 2) (q := 2) (v := l2) 1 rfl rfl (hX10_says.at 79 rfl rfl) ?_
    refine os_callV (cis := [8]) (b := l0) (As := [.int l2]) (st := [.int l2, .ref x3]) (st' := (fun r => .int r :: [.int l2, .ref x3])) sl8_X10_holdOf_X10_holdOf mdX10_holdOf wd2138 wd2140 (sX10_holdOf N l0 l2) rfl rfl (fun _ => rfl) (Nat.le_of_ble_eq_true rfl) (Nat.le_of_ble_eq_true rfl) (Nat.le_of_ble_eq_true rfl) rfl (Nat.le_of_ble_eq_true rfl) rfl (Nat.le_of_ble_eq_true rfl) (hX10_says.at 80 rfl rfl) (fun x4 => ?_)
    refine os_iastore (hX10_says.at 81 rfl rfl) ?_
    refine os_iinc (i := 2) (d := 1) (x := l2) (v := (1 : Int32)) (lv' := [(2, .int (l2 + (1 : Int32))), (0, .ref l0)]) 1 rfl rfl (Nat.le_of_ble_eq_true rfl) rfl (hX10_says.at 82 rfl rfl) ?_
    refine os_goto (off := (-24)) (tgt := 121) rfl (hX10_says.at 83 rfl rfl) ?_
    exact osW.sub [1, 0] rfl (g121 l0 (l2 + (1 : Int32)))
set_option maxRecDepth 100000 in
set_option maxHeartbeats 4000000 in
theorem sX10_says_121 (N : Nat) (l0 : Nat) (l2 : Int32) : osW (osFinM (fun _ : Unit => none) 0 0) yX10_says cX10_says 3 none [] { frames := 4, cells := 0, slots := 0, locals := 93 } 0 0 121 [(0, .ref l0), (2, .int l2)] [] (qX10_says_121 N (l0, l2)) :=
  osloop_W (lvf := fun p => [(0, .ref p.1), (2, .int p.2)]) (stf := fun p => []) (fun ih g p => tX10_says_121 N ih (fun l0 l2 => g (l0, l2)) p.1 p.2) N (l0, l2)
set_option maxRecDepth 100000 in
set_option maxHeartbeats 4000000 in
theorem sX10_says_112 (N : Nat) (c54 : Nat × Int32 → osM Unit) (g54 : ∀ (l0 : Nat) (l2 : Int32), osW (osFinM (fun _ : Unit => none) 0 0) yX10_says cX10_says 3 none [] { frames := 4, cells := 0, slots := 0, locals := 93 } 0 0 54 [(0, .ref l0), (2, .int l2)] [] (c54 (l0, l2))) (l0 : Nat) (l2 : Int32) (k0 : Int32) (k1 : Int32) (k2 : Nat) : osW (osFinM (fun _ : Unit => none) 0 0) yX10_says cX10_says 3 none [] { frames := 4, cells := 0, slots := 0, locals := 93 } 0 0 112 [(0, .ref l0), (2, .int l2)] [.int k0, .int k1, .ref k2] (qX10_says_112 N c54 l0 l2 k0 k1 k2) := by
  unfold qX10_says_112
  refine os_iastore (hX10_says.at 64 rfl rfl) ?_
  refine os_iinc (i := 2) (d := 1) (x := l2) (v := (1 : Int32)) (lv' := [(2, .int (l2 + (1 : Int32))), (0, .ref l0)]) 1 rfl rfl (Nat.le_of_ble_eq_true rfl) rfl (hX10_says.at 65 rfl rfl) ?_
  refine os_goto (off := (-62)) (tgt := 54) rfl (hX10_says.at 66 rfl rfl) ?_
  exact osW.sub [1, 0] rfl (g54 l0 (l2 + (1 : Int32)))
set_option maxRecDepth 100000 in
set_option maxHeartbeats 4000000 in
theorem sX10_says_111 (N : Nat) (c54 : Nat × Int32 → osM Unit) (g54 : ∀ (l0 : Nat) (l2 : Int32), osW (osFinM (fun _ : Unit => none) 0 0) yX10_says cX10_says 3 none [] { frames := 4, cells := 0, slots := 0, locals := 93 } 0 0 54 [(0, .ref l0), (2, .int l2)] [] (c54 (l0, l2))) (l0 : Nat) (l2 : Int32) (k0 : Int32) (k1 : Nat) : osW (osFinM (fun _ : Unit => none) 0 0) yX10_says cX10_says 3 none [] { frames := 4, cells := 0, slots := 0, locals := 93 } 0 0 111 [(0, .ref l0), (2, .int l2)] [.int k0, .ref k1] (qX10_says_111 N c54 l0 l2 k0 k1) := by
  unfold qX10_says_111
  refine os_iconst (i := 0) (v := (0 : Int32)) rfl (hX10_says.at 63 rfl rfl) ?_
  exact osW.sub [0, 1] rfl (sX10_says_112 N c54 g54 l0 l2 (0 : Int32) k0 k1)
set_option maxRecDepth 100000 in
set_option maxHeartbeats 4000000 in
theorem tX10_says_54 (N : Nat) (c54 : Nat × Int32 → osM Unit) (g54 : ∀ (l0 : Nat) (l2 : Int32), osW (osFinM (fun _ : Unit => none) 0 0) yX10_says cX10_says 3 none [] { frames := 4, cells := 0, slots := 0, locals := 93 } 0 0 54 [(0, .ref l0), (2, .int l2)] [] (c54 (l0, l2))) (l0 : Nat) (l2 : Int32) : osW (osFinM (fun _ : Unit => none) 0 0) yX10_says cX10_says 3 none [] { frames := 4, cells := 0, slots := 0, locals := 93 } 0 0 54 [(0, .ref l0), (2, .int l2)] [] (bX10_says_54 N c54 l0 l2) := by
  unfold bX10_says_54
  refine os_iload_n (i := 2) (q := 2) (v := l2) 1 rfl rfl (hX10_says.at 32 rfl rfl) ?_
  refine os_aload_n (i := 0) (q := 0) (v := l0) 0 rfl rfl (hX10_says.at 33 rfl rfl) ?_
  refine os_getI fX10_371 (hX10_says.at 34 rfl rfl) (fun x1 => ?_)
  refine os_icmp_ge (off := 60) (tgt := 119) rfl (hX10_says.at 35 rfl rfl) ?_ ?_
  · refine os_iconst (i := 0) (v := (0 : Int32)) rfl (hX10_says.at 67 rfl rfl) ?_
    refine os_istore_n (i := 2) (q := 2) rfl (lv' := [(2, .int (0 : Int32)), (0, .ref l0)]) (Nat.le_of_ble_eq_true rfl) rfl (hX10_says.at 68 rfl rfl) ?_
    exact osW.sub [1, 0] rfl (sX10_says_121 N l0 (0 : Int32))
  · refine os_aload_n (i := 0) (q := 0) (v := l0) 0 rfl rfl (hX10_says.at 36 rfl rfl) ?_
    refine os_getR fX10_58 (hX10_says.at 37 rfl rfl) (fun x2 => ?_)
    refine os_iload_n (i := 2) (q := 2) (v := l2) 1 rfl rfl (hX10_says.at 38 rfl rfl) ?_
    refine os_aload_n (i := 0) (q := 0) (v := l0) 0 rfl rfl (hX10_says.at 39 rfl rfl) ?_
    refine os_iload_n (i := 2) (q := 2) (v := l2) 1 rfl rfl (hX10_says.at 40 rfl rfl) ?_
    refine os_callV (cis := [8]) (b := l0) (As := [.int l2]) (st := [.int l2, .ref x2]) (st' := (fun r => .int r :: [.int l2, .ref x2])) sl8_X10_attackOf_X10_attackOf mdX10_attackOf wd2134 wd2136 (sX10_attackOf N l0 l2) rfl rfl (fun _ => rfl) (Nat.le_of_ble_eq_true rfl) (Nat.le_of_ble_eq_true rfl) (Nat.le_of_ble_eq_true rfl) rfl (Nat.le_of_ble_eq_true rfl) rfl (Nat.le_of_ble_eq_true rfl) (hX10_says.at 41 rfl rfl) (fun x3 => ?_)
    refine os_iastore (hX10_says.at 42 rfl rfl) ?_
    refine os_aload_n (i := 0) (q := 0) (v := l0) 0 rfl rfl (hX10_says.at 43 rfl rfl) ?_
    refine os_getR fX10_61 (hX10_says.at 44 rfl rfl) (fun x4 => ?_)
    refine os_iload_n (i := 2) (q := 2) (v := l2) 1 rfl rfl (hX10_says.at 45 rfl rfl) ?_
    refine os_aload_n (i := 0) (q := 0) (v := l0) 0 rfl rfl (hX10_says.at 46 rfl rfl) ?_
    refine os_getI fX10_386 (hX10_says.at 47 rfl rfl) (fun x5 => ?_)
    refine os_iload_n (i := 2) (q := 2) (v := l2) 1 rfl rfl (hX10_says.at 48 rfl rfl) ?_
    refine os_callS (As := [.int x5, .int l2]) (st := [.int l2, .ref x4]) (st' := (fun r => .int r :: [.int l2, .ref x4])) mdX10_has wd1860 wd1861 (sX10_has N x5 l2) rfl rfl (fun _ => rfl) (Nat.le_of_ble_eq_true rfl) (Nat.le_of_ble_eq_true rfl) (Nat.le_of_ble_eq_true rfl) rfl (Nat.le_of_ble_eq_true rfl) rfl (Nat.le_of_ble_eq_true rfl) (hX10_says.at 49 rfl rfl) (fun x6 => ?_)
    refine os_if_eq (off := 25) (tgt := 111) rfl (hX10_says.at 50 rfl rfl) ?_ ?_
    · exact osW.sub [0, 1] rfl (sX10_says_111 N c54 g54 l0 l2 l2 x4)
    · refine os_aload_n (i := 0) (q := 0) (v := l0) 0 rfl rfl (hX10_says.at 51 rfl rfl) ?_
      refine os_aload_n (i := 0) (q := 0) (v := l0) 0 rfl rfl (hX10_says.at 52 rfl rfl) ?_
      refine os_getR fX10_45 (hX10_says.at 53 rfl rfl) (fun x7 => ?_)
      refine os_iload_n (i := 2) (q := 2) (v := l2) 1 rfl rfl (hX10_says.at 54 rfl rfl) ?_
      refine os_iaload (hX10_says.at 55 rfl rfl) (fun x8 => ?_)
      refine os_callV (cis := [8]) (b := l0) (As := [.int x8]) (st := [.int l2, .ref x4]) (st' := (fun r => .int r :: [.int l2, .ref x4])) sl8_X10_succeeds_X10_succeeds mdX10_succeeds wd2106 wd2108 (sX10_succeeds N l0 x8) rfl rfl (fun _ => rfl) (Nat.le_of_ble_eq_true rfl) (Nat.le_of_ble_eq_true rfl) (Nat.le_of_ble_eq_true rfl) rfl (Nat.le_of_ble_eq_true rfl) rfl (Nat.le_of_ble_eq_true rfl) (hX10_says.at 56 rfl rfl) (fun x9 => ?_)
      refine os_if_ne (off := 12) (tgt := 111) rfl (hX10_says.at 57 rfl rfl) ?_ ?_
      · exact osW.sub [0, 1] rfl (sX10_says_111 N c54 g54 l0 l2 l2 x4)
      · refine os_aload_n (i := 0) (q := 0) (v := l0) 0 rfl rfl (hX10_says.at 58 rfl rfl) ?_
        refine os_getR fX10_55 (hX10_says.at 59 rfl rfl) (fun x10 => ?_)
        refine os_iload_n (i := 2) (q := 2) (v := l2) 1 rfl rfl (hX10_says.at 60 rfl rfl) ?_
        refine os_iaload (hX10_says.at 61 rfl rfl) (fun x11 => ?_)
        refine os_goto (off := 4) (tgt := 112) rfl (hX10_says.at 62 rfl rfl) ?_
        exact osW.sub [0, 1] rfl (sX10_says_112 N c54 g54 l0 l2 x11 l2 x4)
set_option maxRecDepth 100000 in
set_option maxHeartbeats 4000000 in
theorem sX10_says_54 (N : Nat) (l0 : Nat) (l2 : Int32) : osW (osFinM (fun _ : Unit => none) 0 0) yX10_says cX10_says 3 none [] { frames := 4, cells := 0, slots := 0, locals := 93 } 0 0 54 [(0, .ref l0), (2, .int l2)] [] (qX10_says_54 N (l0, l2)) :=
  osloop_W (lvf := fun p => [(0, .ref p.1), (2, .int p.2)]) (stf := fun p => []) (fun ih g p => tX10_says_54 N ih (fun l0 l2 => g (l0, l2)) p.1 p.2) N (l0, l2)
set_option maxRecDepth 100000 in
set_option maxHeartbeats 4000000 in
theorem tX10_says_19 (N : Nat) (c19 : Nat × Int32 → osM Unit) (g19 : ∀ (l0 : Nat) (l2 : Int32), osW (osFinM (fun _ : Unit => none) 0 0) yX10_says cX10_says 3 none [] { frames := 4, cells := 0, slots := 0, locals := 93 } 0 0 19 [(0, .ref l0), (2, .int l2)] [] (c19 (l0, l2))) (l0 : Nat) (l2 : Int32) : osW (osFinM (fun _ : Unit => none) 0 0) yX10_says cX10_says 3 none [] { frames := 4, cells := 0, slots := 0, locals := 93 } 0 0 19 [(0, .ref l0), (2, .int l2)] [] (bX10_says_19 N c19 l0 l2) := by
  unfold bX10_says_19
  refine os_iload_n (i := 2) (q := 2) (v := l2) 1 rfl rfl (hX10_says.at 11 rfl rfl) ?_
  refine os_aload_n (i := 0) (q := 0) (v := l0) 0 rfl rfl (hX10_says.at 12 rfl rfl) ?_
  refine os_getI fX10_371 (hX10_says.at 13 rfl rfl) (fun x1 => ?_)
  refine os_icmp_ge (off := 28) (tgt := 52) rfl (hX10_says.at 14 rfl rfl) ?_ ?_
  · refine os_iconst (i := 0) (v := (0 : Int32)) rfl (hX10_says.at 30 rfl rfl) ?_
    refine os_istore_n (i := 2) (q := 2) rfl (lv' := [(2, .int (0 : Int32)), (0, .ref l0)]) (Nat.le_of_ble_eq_true rfl) rfl (hX10_says.at 31 rfl rfl) ?_
    exact osW.sub [1, 0] rfl (sX10_says_54 N l0 (0 : Int32))
  · refine os_aload_n (i := 0) (q := 0) (v := l0) 0 rfl rfl (hX10_says.at 15 rfl rfl) ?_
    refine os_getR fX10_55 (hX10_says.at 16 rfl rfl) (fun x2 => ?_)
    refine os_iload_n (i := 2) (q := 2) (v := l2) 1 rfl rfl (hX10_says.at 17 rfl rfl) ?_
    refine os_iconst (i := 1) (v := (1 : Int32)) rfl (hX10_says.at 18 rfl rfl) ?_
    refine os_aload_n (i := 0) (q := 0) (v := l0) 0 rfl rfl (hX10_says.at 19 rfl rfl) ?_
    refine os_aload_n (i := 0) (q := 0) (v := l0) 0 rfl rfl (hX10_says.at 20 rfl rfl) ?_
    refine os_getR fX10_39 (hX10_says.at 21 rfl rfl) (fun x3 => ?_)
    refine os_iload_n (i := 2) (q := 2) (v := l2) 1 rfl rfl (hX10_says.at 22 rfl rfl) ?_
    refine os_iaload (hX10_says.at 23 rfl rfl) (fun x4 => ?_)
    refine os_iconst (i := (-1)) (v := (-1 : Int32)) rfl (hX10_says.at 24 rfl rfl) ?_
    refine os_callV (cis := [8]) (b := l0) (As := [.int x4, .int (-1 : Int32)]) (st := [.int (1 : Int32), .int l2, .ref x2]) (st' := (fun r => .int r :: [.int (1 : Int32), .int l2, .ref x2])) sl8_X10_supports_X10_supports mdX10_supports wd2130 wd2132 (sX10_supports N l0 x4 (-1 : Int32)) rfl rfl (fun _ => rfl) (Nat.le_of_ble_eq_true rfl) (Nat.le_of_ble_eq_true rfl) (Nat.le_of_ble_eq_true rfl) rfl (Nat.le_of_ble_eq_true rfl) rfl (Nat.le_of_ble_eq_true rfl) (hX10_says.at 25 rfl rfl) (fun x5 => ?_)
    refine os_iadd (hX10_says.at 26 rfl rfl) ?_
    refine os_iastore (hX10_says.at 27 rfl rfl) ?_
    refine os_iinc (i := 2) (d := 1) (x := l2) (v := (1 : Int32)) (lv' := [(2, .int (l2 + (1 : Int32))), (0, .ref l0)]) 1 rfl rfl (Nat.le_of_ble_eq_true rfl) rfl (hX10_says.at 28 rfl rfl) ?_
    refine os_goto (off := (-30)) (tgt := 19) rfl (hX10_says.at 29 rfl rfl) ?_
    exact osW.sub [1, 0] rfl (g19 l0 (l2 + (1 : Int32)))
set_option maxRecDepth 100000 in
set_option maxHeartbeats 4000000 in
theorem sX10_says_19 (N : Nat) (l0 : Nat) (l2 : Int32) : osW (osFinM (fun _ : Unit => none) 0 0) yX10_says cX10_says 3 none [] { frames := 4, cells := 0, slots := 0, locals := 93 } 0 0 19 [(0, .ref l0), (2, .int l2)] [] (qX10_says_19 N (l0, l2)) :=
  osloop_W (lvf := fun p => [(0, .ref p.1), (2, .int p.2)]) (stf := fun p => []) (fun ih g p => tX10_says_19 N ih (fun l0 l2 => g (l0, l2)) p.1 p.2) N (l0, l2)
set_option maxRecDepth 100000 in
set_option maxHeartbeats 4000000 in
theorem sX10_says (N : Nat) (l0 : Nat) (l1 : Int32) : osMet yX10_says cX10_says 3 none 4 93 0 0 (fun _ : Unit => none) [.ref l0, .int l1] (qX10_says N l0 l1) := by
  refine osMet.of plX10 (Nat.le_of_ble_eq_true rfl) (osW.rw (lv2 := [(0, .ref l0), (1, .int l1)]) ?_ rfl rfl rfl)
  unfold qX10_says
  refine os_aload_n (i := 0) (q := 0) (v := l0) 0 rfl rfl (hX10_says.at 0 rfl rfl) ?_
  refine os_iload_n (i := 1) (q := 1) (v := l1) 1 rfl rfl (hX10_says.at 1 rfl rfl) ?_
  refine os_put fX10_374 rfl rfl (hX10_says.at 2 rfl rfl) ?_
  refine os_aload_n (i := 0) (q := 0) (v := l0) 0 rfl rfl (hX10_says.at 3 rfl rfl) ?_
  refine os_callV (cis := [8]) (b := l0) (As := []) (st := []) (st' := (fun _ => [])) sl8_X10_laysDislodged_X10_laysDislodged mdX10_laysDislodged wd2098 wd2100 (sX10_laysDislodged N l0 ) rfl rfl (fun _ => rfl) (Nat.le_of_ble_eq_true rfl) (Nat.le_of_ble_eq_true rfl) (Nat.le_of_ble_eq_true rfl) rfl (Nat.le_of_ble_eq_true rfl) rfl (Nat.le_of_ble_eq_true rfl) (hX10_says.at 4 rfl rfl) (fun _ => ?_)
  refine os_aload_n (i := 0) (q := 0) (v := l0) 0 rfl rfl (hX10_says.at 5 rfl rfl) ?_
  refine os_callV (cis := [8]) (b := l0) (As := []) (st := []) (st' := (fun _ => [])) sl8_X10_laysPaths_X10_laysPaths mdX10_laysPaths wd2110 wd2112 (sX10_laysPaths N l0 ) rfl rfl (fun _ => rfl) (Nat.le_of_ble_eq_true rfl) (Nat.le_of_ble_eq_true rfl) (Nat.le_of_ble_eq_true rfl) rfl (Nat.le_of_ble_eq_true rfl) rfl (Nat.le_of_ble_eq_true rfl) (hX10_says.at 6 rfl rfl) (fun _ => ?_)
  refine os_aload_n (i := 0) (q := 0) (v := l0) 0 rfl rfl (hX10_says.at 7 rfl rfl) ?_
  refine os_callV (cis := [8]) (b := l0) (As := []) (st := []) (st' := (fun _ => [])) sl8_X10_laysGiven_X10_laysGiven mdX10_laysGiven wd2118 wd2120 (sX10_laysGiven N l0 ) rfl rfl (fun _ => rfl) (Nat.le_of_ble_eq_true rfl) (Nat.le_of_ble_eq_true rfl) (Nat.le_of_ble_eq_true rfl) rfl (Nat.le_of_ble_eq_true rfl) rfl (Nat.le_of_ble_eq_true rfl) (hX10_says.at 8 rfl rfl) (fun _ => ?_)
  refine os_iconst (i := 0) (v := (0 : Int32)) rfl (hX10_says.at 9 rfl rfl) ?_
  refine os_istore_n (i := 2) (q := 2) rfl (lv' := [(2, .int (0 : Int32)), (0, .ref l0), (1, .int l1)]) (Nat.le_of_ble_eq_true rfl) rfl (hX10_says.at 10 rfl rfl) ?_
  exact osW.sub [1, 0] rfl (sX10_says_19 N l0 (0 : Int32))
-- X10_isStronger
def KX10_isStronger : List (Nat × Nat × Instr) := [(0, 1, .aload_n 0), (1, 3, .getfield 58), (4, 1, .iload_n 1), (5, 1, .iaload), (6, 1, .aload_n 0), (7, 3, .getfield 45), (10, 1, .iload_n 1), (11, 1, .iaload), (12, 1, .iconst (-1)), (13, 3, .if_icmp .eq 17), (16, 1, .aload_n 0), (17, 3, .getfield 55), (20, 1, .aload_n 0), (21, 3, .getfield 45), (24, 1, .iload_n 1), (25, 1, .iaload), (26, 1, .iaload), (27, 3, .goto 14), (30, 1, .aload_n 0), (31, 3, .getfield 64), (34, 1, .aload_n 0), (35, 3, .getfield 42), (38, 1, .iload_n 1), (39, 1, .iaload), (40, 1, .iaload), (41, 3, .if_icmp .le 7), (44, 1, .iconst 1), (45, 3, .goto 4), (48, 1, .iconst 0), (49, 1, .ireturn)]
theorem hX10_isStronger : osDs cX10_isStronger KX10_isStronger := by
  show ∀ q ∈ KX10_isStronger, decode cX10_isStronger q.1 = .ok (q.2.2, q.2.1)
  decide +kernel
def qX10_isStronger_49 (N : Nat) (k0 : Int32) : osM Int32 := osretZ k0
def qX10_isStronger_41 (N : Nat) (k0 : Int32) (k1 : Int32) : osM Int32 := osite (k1 ≤ k0) (qX10_isStronger_49 N (0 : Int32)) (qX10_isStronger_49 N (1 : Int32))
def qX10_isStronger (N : Nat) (l0 : Nat) (l1 : Int32) : osM Int32 := osbind (osgR [8] 33 l0) fun x1 => osbind (osaI 0 x1 l1) fun x2 => osbind (osgR [8] 23 l0) fun x3 => osbind (osaI 0 x3 l1) fun x4 => osite (x4 = (-1 : Int32)) (osbind (osgR [8] 35 l0) fun x5 => osbind (osgR [8] 22 l0) fun x6 => osbind (osaI 0 x6 l1) fun x7 => osbind (osaI 0 x5 x7) fun x8 => qX10_isStronger_41 N x8 x2) (osbind (osgR [8] 32 l0) fun x9 => osbind (osgR [8] 23 l0) fun x10 => osbind (osaI 0 x10 l1) fun x11 => osbind (osaI 0 x9 x11) fun x12 => qX10_isStronger_41 N x12 x2)
set_option maxRecDepth 100000 in
set_option maxHeartbeats 4000000 in
theorem sX10_isStronger_49 (N : Nat) (k0 : Int32) : osW (osFinM (fun r : Int32 => some (.int r)) 0 0) yX10_isStronger cX10_isStronger 2 (some .boolean) [] { frames := 0, cells := 0, slots := 0, locals := 0 } 0 0 49 [] [.int k0] (qX10_isStronger_49 N k0) := by
  unfold qX10_isStronger_49
  exact os_zret (Nat.le_of_ble_eq_true rfl) (Nat.le_of_ble_eq_true rfl) (hX10_isStronger.at 29 rfl rfl).1
set_option maxRecDepth 100000 in
set_option maxHeartbeats 4000000 in
theorem sX10_isStronger_41 (N : Nat) (k0 : Int32) (k1 : Int32) : osW (osFinM (fun r : Int32 => some (.int r)) 0 0) yX10_isStronger cX10_isStronger 2 (some .boolean) [] { frames := 0, cells := 0, slots := 0, locals := 0 } 0 0 41 [] [.int k0, .int k1] (qX10_isStronger_41 N k0 k1) := by
  unfold qX10_isStronger_41
  refine os_icmp_le (off := 7) (tgt := 48) rfl (hX10_isStronger.at 25 rfl rfl) ?_ ?_
  · refine os_iconst (i := 0) (v := (0 : Int32)) rfl (hX10_isStronger.at 28 rfl rfl) ?_
    exact osW.sub [] rfl (sX10_isStronger_49 N (0 : Int32))
  · refine os_iconst (i := 1) (v := (1 : Int32)) rfl (hX10_isStronger.at 26 rfl rfl) ?_
    refine os_goto (off := 4) (tgt := 49) rfl (hX10_isStronger.at 27 rfl rfl) ?_
    exact osW.sub [] rfl (sX10_isStronger_49 N (1 : Int32))
set_option maxRecDepth 100000 in
set_option maxHeartbeats 4000000 in
theorem sX10_isStronger (N : Nat) (l0 : Nat) (l1 : Int32) : osMet yX10_isStronger cX10_isStronger 2 (some .boolean) 0 0 0 0 (fun r : Int32 => some (.int r)) [.ref l0, .int l1] (qX10_isStronger N l0 l1) := by
  refine osMet.of plX10 (Nat.le_of_ble_eq_true rfl) (osW.rw (lv2 := [(0, .ref l0), (1, .int l1)]) ?_ rfl rfl rfl)
  unfold qX10_isStronger
  refine os_aload_n (i := 0) (q := 0) (v := l0) 0 rfl rfl (hX10_isStronger.at 0 rfl rfl) ?_
  refine os_getR fX10_58 (hX10_isStronger.at 1 rfl rfl) (fun x1 => ?_)
  refine os_iload_n (i := 1) (q := 1) (v := l1) 1 rfl rfl (hX10_isStronger.at 2 rfl rfl) ?_
  refine os_iaload (hX10_isStronger.at 3 rfl rfl) (fun x2 => ?_)
  refine os_aload_n (i := 0) (q := 0) (v := l0) 0 rfl rfl (hX10_isStronger.at 4 rfl rfl) ?_
  refine os_getR fX10_45 (hX10_isStronger.at 5 rfl rfl) (fun x3 => ?_)
  refine os_iload_n (i := 1) (q := 1) (v := l1) 1 rfl rfl (hX10_isStronger.at 6 rfl rfl) ?_
  refine os_iaload (hX10_isStronger.at 7 rfl rfl) (fun x4 => ?_)
  refine os_iconst (i := (-1)) (v := (-1 : Int32)) rfl (hX10_isStronger.at 8 rfl rfl) ?_
  refine os_icmp_eq (off := 17) (tgt := 30) rfl (hX10_isStronger.at 9 rfl rfl) ?_ ?_
  · refine os_aload_n (i := 0) (q := 0) (v := l0) 0 rfl rfl (hX10_isStronger.at 18 rfl rfl) ?_
    refine os_getR fX10_64 (hX10_isStronger.at 19 rfl rfl) (fun x5 => ?_)
    refine os_aload_n (i := 0) (q := 0) (v := l0) 0 rfl rfl (hX10_isStronger.at 20 rfl rfl) ?_
    refine os_getR fX10_42 (hX10_isStronger.at 21 rfl rfl) (fun x6 => ?_)
    refine os_iload_n (i := 1) (q := 1) (v := l1) 1 rfl rfl (hX10_isStronger.at 22 rfl rfl) ?_
    refine os_iaload (hX10_isStronger.at 23 rfl rfl) (fun x7 => ?_)
    refine os_iaload (hX10_isStronger.at 24 rfl rfl) (fun x8 => ?_)
    exact osW.sub [] rfl (sX10_isStronger_41 N x8 x2)
  · refine os_aload_n (i := 0) (q := 0) (v := l0) 0 rfl rfl (hX10_isStronger.at 10 rfl rfl) ?_
    refine os_getR fX10_55 (hX10_isStronger.at 11 rfl rfl) (fun x9 => ?_)
    refine os_aload_n (i := 0) (q := 0) (v := l0) 0 rfl rfl (hX10_isStronger.at 12 rfl rfl) ?_
    refine os_getR fX10_45 (hX10_isStronger.at 13 rfl rfl) (fun x10 => ?_)
    refine os_iload_n (i := 1) (q := 1) (v := l1) 1 rfl rfl (hX10_isStronger.at 14 rfl rfl) ?_
    refine os_iaload (hX10_isStronger.at 15 rfl rfl) (fun x11 => ?_)
    refine os_iaload (hX10_isStronger.at 16 rfl rfl) (fun x12 => ?_)
    refine os_goto (off := 14) (tgt := 41) rfl (hX10_isStronger.at 17 rfl rfl) ?_
    exact osW.sub [] rfl (sX10_isStronger_41 N x12 x2)
-- X10_should
def KX10_should : List (Nat × Nat × Instr) := [(0, 1, .aload_n 0), (1, 1, .iload_n 1), (2, 3, .invokevirtual 423), (5, 3, .ifCond .ne 5), (8, 1, .iconst 0), (9, 1, .ireturn), (10, 1, .iconst 0), (11, 1, .istore_n 2), (12, 1, .iload_n 2), (13, 1, .aload_n 0), (14, 3, .getfield 371), (17, 3, .if_icmp .ge 46), (20, 1, .iload_n 2), (21, 1, .iload_n 1), (22, 3, .if_icmp .eq 35), (25, 1, .aload_n 0), (26, 3, .getfield 42), (29, 1, .iload_n 2), (30, 1, .iaload), (31, 1, .aload_n 0), (32, 3, .getfield 42), (35, 1, .iload_n 1), (36, 1, .iaload), (37, 3, .if_icmp .ne 20), (40, 1, .aload_n 0), (41, 3, .getfield 58), (44, 1, .iload_n 1), (45, 1, .iaload), (46, 1, .aload_n 0), (47, 3, .getfield 61), (50, 1, .iload_n 2), (51, 1, .iaload), (52, 3, .if_icmp .gt 5), (55, 1, .iconst 0), (56, 1, .ireturn), (57, 3, .iinc 2 1), (60, 3, .goto (-48)), (63, 1, .iconst 1), (64, 1, .ireturn)]
theorem hX10_should : osDs cX10_should KX10_should := by
  show ∀ q ∈ KX10_should, decode cX10_should q.1 = .ok (q.2.2, q.2.1)
  decide +kernel
def qX10_should_57 (N : Nat) (c12 : Nat × Int32 × Int32 → osM Int32) (l0 : Nat) (l1 : Int32) (l2 : Int32) : osM Int32 := c12 (l0, l1, (l2 + (1 : Int32)))
def bX10_should_12 (N : Nat) (c12 : Nat × Int32 × Int32 → osM Int32) (l0 : Nat) (l1 : Int32) (l2 : Int32) : osM Int32 := osbind (osgI [8] 26 l0) fun x1 => osite (x1 ≤ l2) (osretZ (1 : Int32)) (osite (l2 = l1) (qX10_should_57 N c12 l0 l1 l2) (osbind (osgR [8] 22 l0) fun x2 => osbind (osaI 0 x2 l2) fun x3 => osbind (osgR [8] 22 l0) fun x4 => osbind (osaI 0 x4 l1) fun x5 => osite (x3 = x5) (osbind (osgR [8] 33 l0) fun x6 => osbind (osaI 0 x6 l1) fun x7 => osbind (osgR [8] 34 l0) fun x8 => osbind (osaI 0 x8 l2) fun x9 => osite (x9 < x7) (qX10_should_57 N c12 l0 l1 l2) (osretZ (0 : Int32))) (qX10_should_57 N c12 l0 l1 l2)))
def qX10_should_12 (N : Nat) : Nat × Int32 × Int32 → osM Int32 := osloop (fun ih p => bX10_should_12 N ih p.1 p.2.1 p.2.2) N
def qX10_should (N : Nat) (l0 : Nat) (l1 : Int32) : osM Int32 := osbind (osrecv [8] l0 (qX10_isStronger N l0 l1)) fun x1 => osite (x1 = 0) (osretZ (0 : Int32)) (qX10_should_12 N (l0, l1, (0 : Int32)))
set_option maxRecDepth 100000 in
set_option maxHeartbeats 4000000 in
theorem sX10_should_57 (N : Nat) (c12 : Nat × Int32 × Int32 → osM Int32) (g12 : ∀ (l0 : Nat) (l1 : Int32) (l2 : Int32), osW (osFinM (fun r : Int32 => some (.int r)) 0 0) yX10_should cX10_should 3 (some .boolean) [] { frames := 1, cells := 0, slots := 0, locals := 21 } 0 0 12 [(0, .ref l0), (1, .int l1), (2, .int l2)] [] (c12 (l0, l1, l2))) (l0 : Nat) (l1 : Int32) (l2 : Int32) : osW (osFinM (fun r : Int32 => some (.int r)) 0 0) yX10_should cX10_should 3 (some .boolean) [] { frames := 1, cells := 0, slots := 0, locals := 21 } 0 0 57 [(0, .ref l0), (1, .int l1), (2, .int l2)] [] (qX10_should_57 N c12 l0 l1 l2) := by
  unfold qX10_should_57
  refine os_iinc (i := 2) (d := 1) (x := l2) (v := (1 : Int32)) (lv' := [(2, .int (l2 + (1 : Int32))), (0, .ref l0), (1, .int l1)]) 2 rfl rfl (Nat.le_of_ble_eq_true rfl) rfl (hX10_should.at 35 rfl rfl) ?_
  refine os_goto (off := (-48)) (tgt := 12) rfl (hX10_should.at 36 rfl rfl) ?_
  exact osW.sub [1, 2, 0] rfl (g12 l0 l1 (l2 + (1 : Int32)))
set_option maxRecDepth 100000 in
set_option maxHeartbeats 4000000 in
theorem tX10_should_12 (N : Nat) (c12 : Nat × Int32 × Int32 → osM Int32) (g12 : ∀ (l0 : Nat) (l1 : Int32) (l2 : Int32), osW (osFinM (fun r : Int32 => some (.int r)) 0 0) yX10_should cX10_should 3 (some .boolean) [] { frames := 1, cells := 0, slots := 0, locals := 21 } 0 0 12 [(0, .ref l0), (1, .int l1), (2, .int l2)] [] (c12 (l0, l1, l2))) (l0 : Nat) (l1 : Int32) (l2 : Int32) : osW (osFinM (fun r : Int32 => some (.int r)) 0 0) yX10_should cX10_should 3 (some .boolean) [] { frames := 1, cells := 0, slots := 0, locals := 21 } 0 0 12 [(0, .ref l0), (1, .int l1), (2, .int l2)] [] (bX10_should_12 N c12 l0 l1 l2) := by
  unfold bX10_should_12
  refine os_iload_n (i := 2) (q := 2) (v := l2) 2 rfl rfl (hX10_should.at 8 rfl rfl) ?_
  refine os_aload_n (i := 0) (q := 0) (v := l0) 0 rfl rfl (hX10_should.at 9 rfl rfl) ?_
  refine os_getI fX10_371 (hX10_should.at 10 rfl rfl) (fun x1 => ?_)
  refine os_icmp_ge (off := 46) (tgt := 63) rfl (hX10_should.at 11 rfl rfl) ?_ ?_
  · refine os_iconst (i := 1) (v := (1 : Int32)) rfl (hX10_should.at 37 rfl rfl) ?_
    exact os_zret (Nat.le_of_ble_eq_true rfl) (Nat.le_of_ble_eq_true rfl) (hX10_should.at 38 rfl rfl).1
  · refine os_iload_n (i := 2) (q := 2) (v := l2) 2 rfl rfl (hX10_should.at 12 rfl rfl) ?_
    refine os_iload_n (i := 1) (q := 1) (v := l1) 1 rfl rfl (hX10_should.at 13 rfl rfl) ?_
    refine os_icmp_eq (off := 35) (tgt := 57) rfl (hX10_should.at 14 rfl rfl) ?_ ?_
    · exact osW.sub [0, 1, 2] rfl (sX10_should_57 N c12 g12 l0 l1 l2)
    · refine os_aload_n (i := 0) (q := 0) (v := l0) 0 rfl rfl (hX10_should.at 15 rfl rfl) ?_
      refine os_getR fX10_42 (hX10_should.at 16 rfl rfl) (fun x2 => ?_)
      refine os_iload_n (i := 2) (q := 2) (v := l2) 2 rfl rfl (hX10_should.at 17 rfl rfl) ?_
      refine os_iaload (hX10_should.at 18 rfl rfl) (fun x3 => ?_)
      refine os_aload_n (i := 0) (q := 0) (v := l0) 0 rfl rfl (hX10_should.at 19 rfl rfl) ?_
      refine os_getR fX10_42 (hX10_should.at 20 rfl rfl) (fun x4 => ?_)
      refine os_iload_n (i := 1) (q := 1) (v := l1) 1 rfl rfl (hX10_should.at 21 rfl rfl) ?_
      refine os_iaload (hX10_should.at 22 rfl rfl) (fun x5 => ?_)
      refine os_icmp_ne (off := 20) (tgt := 57) rfl (hX10_should.at 23 rfl rfl) ?_ ?_
      · exact osW.sub [0, 1, 2] rfl (sX10_should_57 N c12 g12 l0 l1 l2)
      · refine os_aload_n (i := 0) (q := 0) (v := l0) 0 rfl rfl (hX10_should.at 24 rfl rfl) ?_
        refine os_getR fX10_58 (hX10_should.at 25 rfl rfl) (fun x6 => ?_)
        refine os_iload_n (i := 1) (q := 1) (v := l1) 1 rfl rfl (hX10_should.at 26 rfl rfl) ?_
        refine os_iaload (hX10_should.at 27 rfl rfl) (fun x7 => ?_)
        refine os_aload_n (i := 0) (q := 0) (v := l0) 0 rfl rfl (hX10_should.at 28 rfl rfl) ?_
        refine os_getR fX10_61 (hX10_should.at 29 rfl rfl) (fun x8 => ?_)
        refine os_iload_n (i := 2) (q := 2) (v := l2) 2 rfl rfl (hX10_should.at 30 rfl rfl) ?_
        refine os_iaload (hX10_should.at 31 rfl rfl) (fun x9 => ?_)
        refine os_icmp_gt (off := 5) (tgt := 57) rfl (hX10_should.at 32 rfl rfl) ?_ ?_
        · exact osW.sub [0, 1, 2] rfl (sX10_should_57 N c12 g12 l0 l1 l2)
        · refine os_iconst (i := 0) (v := (0 : Int32)) rfl (hX10_should.at 33 rfl rfl) ?_
          exact os_zret (Nat.le_of_ble_eq_true rfl) (Nat.le_of_ble_eq_true rfl) (hX10_should.at 34 rfl rfl).1
set_option maxRecDepth 100000 in
set_option maxHeartbeats 4000000 in
theorem sX10_should_12 (N : Nat) (l0 : Nat) (l1 : Int32) (l2 : Int32) : osW (osFinM (fun r : Int32 => some (.int r)) 0 0) yX10_should cX10_should 3 (some .boolean) [] { frames := 1, cells := 0, slots := 0, locals := 21 } 0 0 12 [(0, .ref l0), (1, .int l1), (2, .int l2)] [] (qX10_should_12 N (l0, l1, l2)) :=
  osloop_W (lvf := fun p => [(0, .ref p.1), (1, .int p.2.1), (2, .int p.2.2)]) (stf := fun p => []) (fun ih g p => tX10_should_12 N ih (fun l0 l1 l2 => g (l0, l1, l2)) p.1 p.2.1 p.2.2) N (l0, l1, l2)
set_option maxRecDepth 100000 in
set_option maxHeartbeats 4000000 in
theorem sX10_should (N : Nat) (l0 : Nat) (l1 : Int32) : osMet yX10_should cX10_should 3 (some .boolean) 1 21 0 0 (fun r : Int32 => some (.int r)) [.ref l0, .int l1] (qX10_should N l0 l1) := by
  refine osMet.of plX10 (Nat.le_of_ble_eq_true rfl) (osW.rw (lv2 := [(0, .ref l0), (1, .int l1)]) ?_ rfl rfl rfl)
  unfold qX10_should
  refine os_aload_n (i := 0) (q := 0) (v := l0) 0 rfl rfl (hX10_should.at 0 rfl rfl) ?_
  refine os_iload_n (i := 1) (q := 1) (v := l1) 1 rfl rfl (hX10_should.at 1 rfl rfl) ?_
  refine os_callV (cis := [8]) (b := l0) (As := [.int l1]) (st := []) (st' := (fun r => .int r :: [])) sl8_X10_isStronger_X10_isStronger mdX10_isStronger wd2150 wd2152 (sX10_isStronger N l0 l1) rfl rfl (fun _ => rfl) (Nat.le_of_ble_eq_true rfl) (Nat.le_of_ble_eq_true rfl) (Nat.le_of_ble_eq_true rfl) rfl (Nat.le_of_ble_eq_true rfl) rfl (Nat.le_of_ble_eq_true rfl) (hX10_should.at 2 rfl rfl) (fun x1 => ?_)
  refine os_if_ne (off := 5) (tgt := 10) rfl (hX10_should.at 3 rfl rfl) ?_ ?_
  · refine os_iconst (i := 0) (v := (0 : Int32)) rfl (hX10_should.at 6 rfl rfl) ?_
    refine os_istore_n (i := 2) (q := 2) rfl (lv' := [(2, .int (0 : Int32)), (0, .ref l0), (1, .int l1)]) (Nat.le_of_ble_eq_true rfl) rfl (hX10_should.at 7 rfl rfl) ?_
    exact osW.sub [1, 2, 0] rfl (sX10_should_12 N l0 l1 (0 : Int32))
  · refine os_iconst (i := 0) (v := (0 : Int32)) rfl (hX10_should.at 4 rfl rfl) ?_
    exact os_zret (Nat.le_of_ble_eq_true rfl) (Nat.le_of_ble_eq_true rfl) (hX10_should.at 5 rfl rfl).1
-- X10_isConsistent
def KX10_isConsistent : List (Nat × Nat × Instr) := [(0, 1, .iconst 0), (1, 1, .istore_n 1), (2, 1, .iload_n 1), (3, 1, .aload_n 0), (4, 3, .getfield 371), (7, 3, .if_icmp .ge 27), (10, 1, .aload_n 0), (11, 1, .iload_n 1), (12, 3, .invokevirtual 426), (15, 1, .aload_n 0), (16, 3, .getfield 374), (19, 1, .iload_n 1), (20, 3, .invokestatic 111), (23, 3, .if_icmp .eq 5), (26, 1, .iconst 0), (27, 1, .ireturn), (28, 3, .iinc 1 1), (31, 3, .goto (-29)), (34, 1, .iconst 1), (35, 1, .ireturn)]
theorem hX10_isConsistent : osDs cX10_isConsistent KX10_isConsistent := by
  show ∀ q ∈ KX10_isConsistent, decode cX10_isConsistent q.1 = .ok (q.2.2, q.2.1)
  decide +kernel
def bX10_isConsistent_2 (N : Nat) (c2 : Nat × Int32 → osM Int32) (l0 : Nat) (l1 : Int32) : osM Int32 := osbind (osgI [8] 26 l0) fun x1 => osite (x1 ≤ l1) (osretZ (1 : Int32)) (osbind (osrecv [8] l0 (qX10_should N l0 l1)) fun x2 => osbind (osgI [8] 28 l0) fun x3 => osbind (qX10_has N x3 l1) fun x4 => osite (x2 = x4) (c2 (l0, (l1 + (1 : Int32)))) (osretZ (0 : Int32)))
def qX10_isConsistent_2 (N : Nat) : Nat × Int32 → osM Int32 := osloop (fun ih p => bX10_isConsistent_2 N ih p.1 p.2) N
def qX10_isConsistent (N : Nat) (l0 : Nat) : osM Int32 := qX10_isConsistent_2 N (l0, (0 : Int32))
set_option maxRecDepth 100000 in
set_option maxHeartbeats 4000000 in
theorem tX10_isConsistent_2 (N : Nat) (c2 : Nat × Int32 → osM Int32) (g2 : ∀ (l0 : Nat) (l1 : Int32), osW (osFinM (fun r : Int32 => some (.int r)) 0 0) yX10_isConsistent cX10_isConsistent 2 (some .boolean) [] { frames := 2, cells := 0, slots := 0, locals := 43 } 0 0 2 [(0, .ref l0), (1, .int l1)] [] (c2 (l0, l1))) (l0 : Nat) (l1 : Int32) : osW (osFinM (fun r : Int32 => some (.int r)) 0 0) yX10_isConsistent cX10_isConsistent 2 (some .boolean) [] { frames := 2, cells := 0, slots := 0, locals := 43 } 0 0 2 [(0, .ref l0), (1, .int l1)] [] (bX10_isConsistent_2 N c2 l0 l1) := by
  unfold bX10_isConsistent_2
  refine os_iload_n (i := 1) (q := 1) (v := l1) 1 rfl rfl (hX10_isConsistent.at 2 rfl rfl) ?_
  refine os_aload_n (i := 0) (q := 0) (v := l0) 0 rfl rfl (hX10_isConsistent.at 3 rfl rfl) ?_
  refine os_getI fX10_371 (hX10_isConsistent.at 4 rfl rfl) (fun x1 => ?_)
  refine os_icmp_ge (off := 27) (tgt := 34) rfl (hX10_isConsistent.at 5 rfl rfl) ?_ ?_
  · refine os_iconst (i := 1) (v := (1 : Int32)) rfl (hX10_isConsistent.at 18 rfl rfl) ?_
    exact os_zret (Nat.le_of_ble_eq_true rfl) (Nat.le_of_ble_eq_true rfl) (hX10_isConsistent.at 19 rfl rfl).1
  · refine os_aload_n (i := 0) (q := 0) (v := l0) 0 rfl rfl (hX10_isConsistent.at 6 rfl rfl) ?_
    refine os_iload_n (i := 1) (q := 1) (v := l1) 1 rfl rfl (hX10_isConsistent.at 7 rfl rfl) ?_
    refine os_callV (cis := [8]) (b := l0) (As := [.int l1]) (st := []) (st' := (fun r => .int r :: [])) sl8_X10_should_X10_should mdX10_should wd2146 wd2148 (sX10_should N l0 l1) rfl rfl (fun _ => rfl) (Nat.le_of_ble_eq_true rfl) (Nat.le_of_ble_eq_true rfl) (Nat.le_of_ble_eq_true rfl) rfl (Nat.le_of_ble_eq_true rfl) rfl (Nat.le_of_ble_eq_true rfl) (hX10_isConsistent.at 8 rfl rfl) (fun x2 => ?_)
    refine os_aload_n (i := 0) (q := 0) (v := l0) 0 rfl rfl (hX10_isConsistent.at 9 rfl rfl) ?_
    refine os_getI fX10_374 (hX10_isConsistent.at 10 rfl rfl) (fun x3 => ?_)
    refine os_iload_n (i := 1) (q := 1) (v := l1) 1 rfl rfl (hX10_isConsistent.at 11 rfl rfl) ?_
    refine os_callS (As := [.int x3, .int l1]) (st := [.int x2]) (st' := (fun r => .int r :: [.int x2])) mdX10_has wd1860 wd1861 (sX10_has N x3 l1) rfl rfl (fun _ => rfl) (Nat.le_of_ble_eq_true rfl) (Nat.le_of_ble_eq_true rfl) (Nat.le_of_ble_eq_true rfl) rfl (Nat.le_of_ble_eq_true rfl) rfl (Nat.le_of_ble_eq_true rfl) (hX10_isConsistent.at 12 rfl rfl) (fun x4 => ?_)
    refine os_icmp_eq (off := 5) (tgt := 28) rfl (hX10_isConsistent.at 13 rfl rfl) ?_ ?_
    · refine os_iinc (i := 1) (d := 1) (x := l1) (v := (1 : Int32)) (lv' := [(1, .int (l1 + (1 : Int32))), (0, .ref l0)]) 1 rfl rfl (Nat.le_of_ble_eq_true rfl) rfl (hX10_isConsistent.at 16 rfl rfl) ?_
      refine os_goto (off := (-29)) (tgt := 2) rfl (hX10_isConsistent.at 17 rfl rfl) ?_
      exact osW.sub [1, 0] rfl (g2 l0 (l1 + (1 : Int32)))
    · refine os_iconst (i := 0) (v := (0 : Int32)) rfl (hX10_isConsistent.at 14 rfl rfl) ?_
      exact os_zret (Nat.le_of_ble_eq_true rfl) (Nat.le_of_ble_eq_true rfl) (hX10_isConsistent.at 15 rfl rfl).1
set_option maxRecDepth 100000 in
set_option maxHeartbeats 4000000 in
theorem sX10_isConsistent_2 (N : Nat) (l0 : Nat) (l1 : Int32) : osW (osFinM (fun r : Int32 => some (.int r)) 0 0) yX10_isConsistent cX10_isConsistent 2 (some .boolean) [] { frames := 2, cells := 0, slots := 0, locals := 43 } 0 0 2 [(0, .ref l0), (1, .int l1)] [] (qX10_isConsistent_2 N (l0, l1)) :=
  osloop_W (lvf := fun p => [(0, .ref p.1), (1, .int p.2)]) (stf := fun p => []) (fun ih g p => tX10_isConsistent_2 N ih (fun l0 l1 => g (l0, l1)) p.1 p.2) N (l0, l1)
set_option maxRecDepth 100000 in
set_option maxHeartbeats 4000000 in
theorem sX10_isConsistent (N : Nat) (l0 : Nat) : osMet yX10_isConsistent cX10_isConsistent 2 (some .boolean) 2 43 0 0 (fun r : Int32 => some (.int r)) [.ref l0] (qX10_isConsistent N l0) := by
  refine osMet.of plX10 (Nat.le_of_ble_eq_true rfl) (osW.rw (lv2 := [(0, .ref l0)]) ?_ rfl rfl rfl)
  unfold qX10_isConsistent
  refine os_iconst (i := 0) (v := (0 : Int32)) rfl (hX10_isConsistent.at 0 rfl rfl) ?_
  refine os_istore_n (i := 1) (q := 1) rfl (lv' := [(1, .int (0 : Int32)), (0, .ref l0)]) (Nat.le_of_ble_eq_true rfl) rfl (hX10_isConsistent.at 1 rfl rfl) ?_
  exact osW.sub [1, 0] rfl (sX10_isConsistent_2 N l0 (0 : Int32))
-- X10_ones
def KX10_ones : List (Nat × Nat × Instr) := [(0, 1, .iconst 0), (1, 1, .istore_n 1), (2, 1, .iload_n 0), (3, 1, .istore_n 2), (4, 1, .iload_n 2), (5, 3, .ifCond .eq 16), (8, 1, .iload_n 1), (9, 1, .iconst 1), (10, 1, .iadd), (11, 1, .istore_n 1), (12, 1, .iload_n 2), (13, 1, .iload_n 2), (14, 1, .iconst 1), (15, 1, .isub), (16, 1, .iand), (17, 1, .istore_n 2), (18, 3, .goto (-14)), (21, 1, .iload_n 1), (22, 1, .ireturn)]
theorem hX10_ones : osDs cX10_ones KX10_ones := by
  show ∀ q ∈ KX10_ones, decode cX10_ones q.1 = .ok (q.2.2, q.2.1)
  decide +kernel
def bX10_ones_4 (N : Nat) (c4 : Int32 × Int32 → osM Int32) (l1 : Int32) (l2 : Int32) : osM Int32 := osite (l2 = 0) (osret l1) (osbind (osret ((l2 &&& (l2 - (1 : Int32))) : Int32)) fun x1 => c4 ((l1 + (1 : Int32)), x1))
def qX10_ones_4 (N : Nat) : Int32 × Int32 → osM Int32 := osloop (fun ih p => bX10_ones_4 N ih p.1 p.2) N
def qX10_ones (N : Nat) (l0 : Int32) : osM Int32 := qX10_ones_4 N ((0 : Int32), l0)
set_option maxRecDepth 100000 in
set_option maxHeartbeats 4000000 in
theorem tX10_ones_4 (N : Nat) (c4 : Int32 × Int32 → osM Int32) (g4 : ∀ (l1 : Int32) (l2 : Int32), osW (osFinM (fun r : Int32 => some (.int r)) 0 0) yX10_ones cX10_ones 3 (some .int) [] { frames := 0, cells := 0, slots := 0, locals := 0 } 0 0 4 [(1, .int l1), (2, .int l2)] [] (c4 (l1, l2))) (l1 : Int32) (l2 : Int32) : osW (osFinM (fun r : Int32 => some (.int r)) 0 0) yX10_ones cX10_ones 3 (some .int) [] { frames := 0, cells := 0, slots := 0, locals := 0 } 0 0 4 [(1, .int l1), (2, .int l2)] [] (bX10_ones_4 N c4 l1 l2) := by
  unfold bX10_ones_4
  refine os_iload_n (i := 2) (q := 2) (v := l2) 1 rfl rfl (hX10_ones.at 4 rfl rfl) ?_
  refine os_if_eq (off := 16) (tgt := 21) rfl (hX10_ones.at 5 rfl rfl) ?_ ?_
  · refine os_iload_n (i := 1) (q := 1) (v := l1) 0 rfl rfl (hX10_ones.at 17 rfl rfl) ?_
    exact os_iret (Nat.le_of_ble_eq_true rfl) (Nat.le_of_ble_eq_true rfl) (hX10_ones.at 18 rfl rfl).1
  · refine os_iload_n (i := 1) (q := 1) (v := l1) 0 rfl rfl (hX10_ones.at 6 rfl rfl) ?_
    refine os_iconst (i := 1) (v := (1 : Int32)) rfl (hX10_ones.at 7 rfl rfl) ?_
    refine os_iadd (hX10_ones.at 8 rfl rfl) ?_
    refine os_istore_n (i := 1) (q := 1) rfl (lv' := [(1, .int (l1 + (1 : Int32))), (2, .int l2)]) (Nat.le_of_ble_eq_true rfl) rfl (hX10_ones.at 9 rfl rfl) ?_
    refine os_iload_n (i := 2) (q := 2) (v := l2) 1 rfl rfl (hX10_ones.at 10 rfl rfl) ?_
    refine os_iload_n (i := 2) (q := 2) (v := l2) 1 rfl rfl (hX10_ones.at 11 rfl rfl) ?_
    refine os_iconst (i := 1) (v := (1 : Int32)) rfl (hX10_ones.at 12 rfl rfl) ?_
    refine os_isub (hX10_ones.at 13 rfl rfl) ?_
    refine os_iand (hX10_ones.at 14 rfl rfl) ?_
    refine os_nameI (fun x1 => ?_)
    refine os_istore_n (i := 2) (q := 2) rfl (lv' := [(2, .int x1), (1, .int (l1 + (1 : Int32)))]) (Nat.le_of_ble_eq_true rfl) rfl (hX10_ones.at 15 rfl rfl) ?_
    refine os_goto (off := (-14)) (tgt := 4) rfl (hX10_ones.at 16 rfl rfl) ?_
    exact osW.sub [1, 0] rfl (g4 (l1 + (1 : Int32)) x1)
set_option maxRecDepth 100000 in
set_option maxHeartbeats 4000000 in
theorem sX10_ones_4 (N : Nat) (l1 : Int32) (l2 : Int32) : osW (osFinM (fun r : Int32 => some (.int r)) 0 0) yX10_ones cX10_ones 3 (some .int) [] { frames := 0, cells := 0, slots := 0, locals := 0 } 0 0 4 [(1, .int l1), (2, .int l2)] [] (qX10_ones_4 N (l1, l2)) :=
  osloop_W (lvf := fun p => [(1, .int p.1), (2, .int p.2)]) (stf := fun p => []) (fun ih g p => tX10_ones_4 N ih (fun l1 l2 => g (l1, l2)) p.1 p.2) N (l1, l2)
set_option maxRecDepth 100000 in
set_option maxHeartbeats 4000000 in
theorem sX10_ones (N : Nat) (l0 : Int32) : osMet yX10_ones cX10_ones 3 (some .int) 0 0 0 0 (fun r : Int32 => some (.int r)) [.int l0] (qX10_ones N l0) := by
  refine osMet.of plX10 (Nat.le_of_ble_eq_true rfl) (osW.rw (lv2 := [(0, .int l0)]) ?_ rfl rfl rfl)
  unfold qX10_ones
  refine os_iconst (i := 0) (v := (0 : Int32)) rfl (hX10_ones.at 0 rfl rfl) ?_
  refine os_istore_n (i := 1) (q := 1) rfl (lv' := [(1, .int (0 : Int32)), (0, .int l0)]) (Nat.le_of_ble_eq_true rfl) rfl (hX10_ones.at 1 rfl rfl) ?_
  refine os_iload_n (i := 0) (q := 0) (v := l0) 1 rfl rfl (hX10_ones.at 2 rfl rfl) ?_
  refine os_istore_n (i := 2) (q := 2) rfl (lv' := [(2, .int l0), (1, .int (0 : Int32)), (0, .int l0)]) (Nat.le_of_ble_eq_true rfl) rfl (hX10_ones.at 3 rfl rfl) ?_
  exact osW.sub [1, 0] rfl (sX10_ones_4 N (0 : Int32) l0)
-- X10_goesThrough
def KX10_goesThrough : List (Nat × Nat × Instr) := [(0, 1, .aload_n 0), (1, 1, .iconst (-1)), (2, 3, .putfield 429), (5, 1, .aload_n 0), (6, 1, .iconst 0), (7, 3, .putfield 432), (10, 1, .iconst (-1)), (11, 1, .istore_n 1), (12, 1, .iconst 0), (13, 1, .istore_n 2), (14, 1, .iload_n 2), (15, 1, .iconst 1), (16, 1, .aload_n 0), (17, 3, .getfield 371), (20, 1, .ishl), (21, 3, .if_icmp .ge 62), (24, 1, .aload_n 0), (25, 1, .iload_n 2), (26, 3, .invokevirtual 435), (29, 1, .aload_n 0), (30, 3, .invokevirtual 438), (33, 3, .ifCond .ne 6), (36, 3, .goto 41), (39, 1, .aload_n 0), (40, 1, .aload_n 0), (41, 3, .getfield 432), (44, 1, .iconst 1), (45, 1, .iadd), (46, 3, .putfield 432), (49, 2, .bipush 32), (51, 1, .iload_n 2), (52, 3, .invokestatic 441), (55, 1, .imul), (56, 1, .aload_n 0), (57, 3, .getfield 396), (60, 3, .invokestatic 441), (63, 1, .iadd), (64, 1, .istore_n 3), (65, 1, .iload_n 3), (66, 1, .iload_n 1), (67, 3, .if_icmp .lt 10), (70, 1, .iload_n 3), (71, 1, .istore_n 1), (72, 1, .aload_n 0), (73, 1, .iload_n 2), (74, 3, .putfield 429), (77, 3, .iinc 2 1), (80, 3, .goto (-66)), (83, 1, .return_)]
theorem hX10_goesThrough : osDs cX10_goesThrough KX10_goesThrough := by
  show ∀ q ∈ KX10_goesThrough, decode cX10_goesThrough q.1 = .ok (q.2.2, q.2.1)
  decide +kernel
def qX10_goesThrough_77 (N : Nat) (c14 : Nat × Int32 × Int32 → osM Unit) (l0 : Nat) (l1 : Int32) (l2 : Int32) : osM Unit := c14 (l0, l1, (l2 + (1 : Int32)))
def bX10_goesThrough_14 (N : Nat) (c14 : Nat × Int32 × Int32 → osM Unit) (l0 : Nat) (l1 : Int32) (l2 : Int32) : osM Unit := osbind (osgI [8] 26 l0) fun x1 => osite ((osshl (1 : Int32) x1) ≤ l2) (osret ()) (osbind (osrecv [8] l0 (qX10_says N l0 l2)) fun _ => osbind (osrecv [8] l0 (qX10_isConsistent N l0)) fun x2 => osite (x2 = 0) (qX10_goesThrough_77 N c14 l0 l1 l2) (osbind (osgI [8] 37 l0) fun x3 => osbind (osput [8] 37 l0 (.int (x3 + (1 : Int32)))) fun _ => osbind (qX10_ones N l2) fun x4 => osbind (osgI [8] 31 l0) fun x5 => osbind (qX10_ones N x5) fun x6 => osbind (osret ((((32 : Int32) * x4) + x6) : Int32)) fun x7 => osite (x7 < l1) (qX10_goesThrough_77 N c14 l0 l1 l2) (osbind (osput [8] 36 l0 (.int l2)) fun _ => qX10_goesThrough_77 N c14 l0 x7 l2)))
def qX10_goesThrough_14 (N : Nat) : Nat × Int32 × Int32 → osM Unit := osloop (fun ih p => bX10_goesThrough_14 N ih p.1 p.2.1 p.2.2) N
def qX10_goesThrough (N : Nat) (l0 : Nat) : osM Unit := osbind (osput [8] 36 l0 (.int (-1 : Int32))) fun _ => osbind (osput [8] 37 l0 (.int (0 : Int32))) fun _ => qX10_goesThrough_14 N (l0, (-1 : Int32), (0 : Int32))
set_option maxRecDepth 100000 in
set_option maxHeartbeats 4000000 in
theorem sX10_goesThrough_77 (N : Nat) (c14 : Nat × Int32 × Int32 → osM Unit) (g14 : ∀ (l0 : Nat) (l1 : Int32) (l2 : Int32), osW (osFinM (fun _ : Unit => none) 0 0) yX10_goesThrough cX10_goesThrough 4 none [] { frames := 5, cells := 0, slots := 0, locals := 115 } 0 0 14 [(0, .ref l0), (1, .int l1), (2, .int l2)] [] (c14 (l0, l1, l2))) (l0 : Nat) (l1 : Int32) (l2 : Int32) : osW (osFinM (fun _ : Unit => none) 0 0) yX10_goesThrough cX10_goesThrough 4 none [] { frames := 5, cells := 0, slots := 0, locals := 115 } 0 0 77 [(0, .ref l0), (1, .int l1), (2, .int l2)] [] (qX10_goesThrough_77 N c14 l0 l1 l2) := by
  unfold qX10_goesThrough_77
  refine os_iinc (i := 2) (d := 1) (x := l2) (v := (1 : Int32)) (lv' := [(2, .int (l2 + (1 : Int32))), (0, .ref l0), (1, .int l1)]) 2 rfl rfl (Nat.le_of_ble_eq_true rfl) rfl (hX10_goesThrough.at 46 rfl rfl) ?_
  refine os_goto (off := (-66)) (tgt := 14) rfl (hX10_goesThrough.at 47 rfl rfl) ?_
  exact osW.sub [1, 2, 0] rfl (g14 l0 l1 (l2 + (1 : Int32)))
set_option maxRecDepth 100000 in
set_option maxHeartbeats 4000000 in
theorem tX10_goesThrough_14 (N : Nat) (c14 : Nat × Int32 × Int32 → osM Unit) (g14 : ∀ (l0 : Nat) (l1 : Int32) (l2 : Int32), osW (osFinM (fun _ : Unit => none) 0 0) yX10_goesThrough cX10_goesThrough 4 none [] { frames := 5, cells := 0, slots := 0, locals := 115 } 0 0 14 [(0, .ref l0), (1, .int l1), (2, .int l2)] [] (c14 (l0, l1, l2))) (l0 : Nat) (l1 : Int32) (l2 : Int32) : osW (osFinM (fun _ : Unit => none) 0 0) yX10_goesThrough cX10_goesThrough 4 none [] { frames := 5, cells := 0, slots := 0, locals := 115 } 0 0 14 [(0, .ref l0), (1, .int l1), (2, .int l2)] [] (bX10_goesThrough_14 N c14 l0 l1 l2) := by
  unfold bX10_goesThrough_14
  refine os_iload_n (i := 2) (q := 2) (v := l2) 2 rfl rfl (hX10_goesThrough.at 10 rfl rfl) ?_
  refine os_iconst (i := 1) (v := (1 : Int32)) rfl (hX10_goesThrough.at 11 rfl rfl) ?_
  refine os_aload_n (i := 0) (q := 0) (v := l0) 0 rfl rfl (hX10_goesThrough.at 12 rfl rfl) ?_
  refine os_getI fX10_371 (hX10_goesThrough.at 13 rfl rfl) (fun x1 => ?_)
  refine os_ishl (hX10_goesThrough.at 14 rfl rfl) ?_
  refine os_icmp_ge (off := 62) (tgt := 83) rfl (hX10_goesThrough.at 15 rfl rfl) ?_ ?_
  · exact os_vret (Nat.le_of_ble_eq_true rfl) (Nat.le_of_ble_eq_true rfl) (hX10_goesThrough.at 48 rfl rfl).1
  · refine os_aload_n (i := 0) (q := 0) (v := l0) 0 rfl rfl (hX10_goesThrough.at 16 rfl rfl) ?_
    refine os_iload_n (i := 2) (q := 2) (v := l2) 2 rfl rfl (hX10_goesThrough.at 17 rfl rfl) ?_
    refine os_callV (cis := [8]) (b := l0) (As := [.int l2]) (st := []) (st' := (fun _ => [])) sl8_X10_says_X10_says mdX10_says wd2094 wd2096 (sX10_says N l0 l2) rfl rfl (fun _ => rfl) (Nat.le_of_ble_eq_true rfl) (Nat.le_of_ble_eq_true rfl) (Nat.le_of_ble_eq_true rfl) rfl (Nat.le_of_ble_eq_true rfl) rfl (Nat.le_of_ble_eq_true rfl) (hX10_goesThrough.at 18 rfl rfl) (fun _ => ?_)
    refine os_aload_n (i := 0) (q := 0) (v := l0) 0 rfl rfl (hX10_goesThrough.at 19 rfl rfl) ?_
    refine os_callV (cis := [8]) (b := l0) (As := []) (st := []) (st' := (fun r => .int r :: [])) sl8_X10_isConsistent_X10_isConsistent mdX10_isConsistent wd2142 wd2144 (sX10_isConsistent N l0 ) rfl rfl (fun _ => rfl) (Nat.le_of_ble_eq_true rfl) (Nat.le_of_ble_eq_true rfl) (Nat.le_of_ble_eq_true rfl) rfl (Nat.le_of_ble_eq_true rfl) rfl (Nat.le_of_ble_eq_true rfl) (hX10_goesThrough.at 20 rfl rfl) (fun x2 => ?_)
    refine os_if_ne (off := 6) (tgt := 39) rfl (hX10_goesThrough.at 21 rfl rfl) ?_ ?_
    · refine os_aload_n (i := 0) (q := 0) (v := l0) 0 rfl rfl (hX10_goesThrough.at 23 rfl rfl) ?_
      refine os_aload_n (i := 0) (q := 0) (v := l0) 0 rfl rfl (hX10_goesThrough.at 24 rfl rfl) ?_
      refine os_getI fX10_432 (hX10_goesThrough.at 25 rfl rfl) (fun x3 => ?_)
      refine os_iconst (i := 1) (v := (1 : Int32)) rfl (hX10_goesThrough.at 26 rfl rfl) ?_
      refine os_iadd (hX10_goesThrough.at 27 rfl rfl) ?_
      refine os_put fX10_432 rfl rfl (hX10_goesThrough.at 28 rfl rfl) ?_
      refine os_bipush (i := 32) (v := (32 : Int32)) rfl (hX10_goesThrough.at 29 rfl rfl) ?_
      refine os_iload_n (i := 2) (q := 2) (v := l2) 2 rfl rfl (hX10_goesThrough.at 30 rfl rfl) ?_
      refine os_callS (As := [.int l2]) (st := [.int (32 : Int32)]) (st' := (fun r => .int r :: [.int (32 : Int32)])) mdX10_ones wd2154 wd2155 (sX10_ones N l2) rfl rfl (fun _ => rfl) (Nat.le_of_ble_eq_true rfl) (Nat.le_of_ble_eq_true rfl) (Nat.le_of_ble_eq_true rfl) rfl (Nat.le_of_ble_eq_true rfl) rfl (Nat.le_of_ble_eq_true rfl) (hX10_goesThrough.at 31 rfl rfl) (fun x4 => ?_)
      refine os_imul (hX10_goesThrough.at 32 rfl rfl) ?_
      refine os_aload_n (i := 0) (q := 0) (v := l0) 0 rfl rfl (hX10_goesThrough.at 33 rfl rfl) ?_
      refine os_getI fX10_396 (hX10_goesThrough.at 34 rfl rfl) (fun x5 => ?_)
      refine os_callS (As := [.int x5]) (st := [.int ((32 : Int32) * x4)]) (st' := (fun r => .int r :: [.int ((32 : Int32) * x4)])) mdX10_ones wd2154 wd2155 (sX10_ones N x5) rfl rfl (fun _ => rfl) (Nat.le_of_ble_eq_true rfl) (Nat.le_of_ble_eq_true rfl) (Nat.le_of_ble_eq_true rfl) rfl (Nat.le_of_ble_eq_true rfl) rfl (Nat.le_of_ble_eq_true rfl) (hX10_goesThrough.at 35 rfl rfl) (fun x6 => ?_)
      refine os_iadd (hX10_goesThrough.at 36 rfl rfl) ?_
      refine os_nameI (fun x7 => ?_)
      refine os_istore_n (i := 3) (q := 3) rfl (lv' := [(3, .int x7), (0, .ref l0), (1, .int l1), (2, .int l2)]) (Nat.le_of_ble_eq_true rfl) rfl (hX10_goesThrough.at 37 rfl rfl) ?_
      refine os_iload_n (i := 3) (q := 3) (v := x7) 0 rfl rfl (hX10_goesThrough.at 38 rfl rfl) ?_
      refine os_iload_n (i := 1) (q := 1) (v := l1) 2 rfl rfl (hX10_goesThrough.at 39 rfl rfl) ?_
      refine os_icmp_lt (off := 10) (tgt := 77) rfl (hX10_goesThrough.at 40 rfl rfl) ?_ ?_
      · exact osW.sub [1, 2, 3] rfl (sX10_goesThrough_77 N c14 g14 l0 l1 l2)
      · refine os_iload_n (i := 3) (q := 3) (v := x7) 0 rfl rfl (hX10_goesThrough.at 41 rfl rfl) ?_
        refine os_istore_n (i := 1) (q := 1) rfl (lv' := [(1, .int x7), (3, .int x7), (0, .ref l0), (2, .int l2)]) (Nat.le_of_ble_eq_true rfl) rfl (hX10_goesThrough.at 42 rfl rfl) ?_
        refine os_aload_n (i := 0) (q := 0) (v := l0) 2 rfl rfl (hX10_goesThrough.at 43 rfl rfl) ?_
        refine os_iload_n (i := 2) (q := 2) (v := l2) 3 rfl rfl (hX10_goesThrough.at 44 rfl rfl) ?_
        refine os_put fX10_429 rfl rfl (hX10_goesThrough.at 45 rfl rfl) ?_
        exact osW.sub [2, 0, 3] rfl (sX10_goesThrough_77 N c14 g14 l0 x7 l2)
    · refine os_goto (off := 41) (tgt := 77) rfl (hX10_goesThrough.at 22 rfl rfl) ?_
      exact osW.sub [0, 1, 2] rfl (sX10_goesThrough_77 N c14 g14 l0 l1 l2)
set_option maxRecDepth 100000 in
set_option maxHeartbeats 4000000 in
theorem sX10_goesThrough_14 (N : Nat) (l0 : Nat) (l1 : Int32) (l2 : Int32) : osW (osFinM (fun _ : Unit => none) 0 0) yX10_goesThrough cX10_goesThrough 4 none [] { frames := 5, cells := 0, slots := 0, locals := 115 } 0 0 14 [(0, .ref l0), (1, .int l1), (2, .int l2)] [] (qX10_goesThrough_14 N (l0, l1, l2)) :=
  osloop_W (lvf := fun p => [(0, .ref p.1), (1, .int p.2.1), (2, .int p.2.2)]) (stf := fun p => []) (fun ih g p => tX10_goesThrough_14 N ih (fun l0 l1 l2 => g (l0, l1, l2)) p.1 p.2.1 p.2.2) N (l0, l1, l2)
set_option maxRecDepth 100000 in
set_option maxHeartbeats 4000000 in
theorem sX10_goesThrough (N : Nat) (l0 : Nat) : osMet yX10_goesThrough cX10_goesThrough 4 none 5 115 0 0 (fun _ : Unit => none) [.ref l0] (qX10_goesThrough N l0) := by
  refine osMet.of plX10 (Nat.le_of_ble_eq_true rfl) (osW.rw (lv2 := [(0, .ref l0)]) ?_ rfl rfl rfl)
  unfold qX10_goesThrough
  refine os_aload_n (i := 0) (q := 0) (v := l0) 0 rfl rfl (hX10_goesThrough.at 0 rfl rfl) ?_
  refine os_iconst (i := (-1)) (v := (-1 : Int32)) rfl (hX10_goesThrough.at 1 rfl rfl) ?_
  refine os_put fX10_429 rfl rfl (hX10_goesThrough.at 2 rfl rfl) ?_
  refine os_aload_n (i := 0) (q := 0) (v := l0) 0 rfl rfl (hX10_goesThrough.at 3 rfl rfl) ?_
  refine os_iconst (i := 0) (v := (0 : Int32)) rfl (hX10_goesThrough.at 4 rfl rfl) ?_
  refine os_put fX10_432 rfl rfl (hX10_goesThrough.at 5 rfl rfl) ?_
  refine os_iconst (i := (-1)) (v := (-1 : Int32)) rfl (hX10_goesThrough.at 6 rfl rfl) ?_
  refine os_istore_n (i := 1) (q := 1) rfl (lv' := [(1, .int (-1 : Int32)), (0, .ref l0)]) (Nat.le_of_ble_eq_true rfl) rfl (hX10_goesThrough.at 7 rfl rfl) ?_
  refine os_iconst (i := 0) (v := (0 : Int32)) rfl (hX10_goesThrough.at 8 rfl rfl) ?_
  refine os_istore_n (i := 2) (q := 2) rfl (lv' := [(2, .int (0 : Int32)), (1, .int (-1 : Int32)), (0, .ref l0)]) (Nat.le_of_ble_eq_true rfl) rfl (hX10_goesThrough.at 9 rfl rfl) ?_
  exact osW.sub [2, 1, 0] rfl (sX10_goesThrough_14 N l0 (-1 : Int32) (0 : Int32))
-- X10_decides
def KX10_decides : List (Nat × Nat × Instr) := [(0, 1, .aload_n 0), (1, 3, .invokevirtual 444), (4, 1, .aload_n 0), (5, 1, .iconst 0), (6, 3, .putfield 389), (9, 1, .aload_n 0), (10, 3, .invokevirtual 447), (13, 1, .aload_n 0), (14, 1, .aload_n 0), (15, 3, .getfield 432), (18, 3, .putfield 450), (21, 1, .aload_n 0), (22, 3, .getfield 429), (25, 1, .iconst (-1)), (26, 3, .if_icmp .ne 12), (29, 1, .aload_n 0), (30, 1, .iconst 1), (31, 3, .putfield 389), (34, 1, .aload_n 0), (35, 3, .invokevirtual 447), (38, 1, .aload_n 0), (39, 1, .aload_n 0), (40, 3, .getfield 429), (43, 1, .iconst (-1)), (44, 3, .if_icmp .ne 7), (47, 1, .iconst 0), (48, 3, .goto 7), (51, 1, .aload_n 0), (52, 3, .getfield 429), (55, 3, .invokevirtual 435), (58, 1, .return_)]
theorem hX10_decides : osDs cX10_decides KX10_decides := by
  show ∀ q ∈ KX10_decides, decode cX10_decides q.1 = .ok (q.2.2, q.2.1)
  decide +kernel
def qX10_decides_55 (N : Nat) (k0 : Int32) (k1 : Nat) : osM Unit := osbind (osrecv [8] k1 (qX10_says N k1 k0)) fun _ => osret ()
def qX10_decides_38 (N : Nat) (l0 : Nat) : osM Unit := osbind (osgI [8] 36 l0) fun x1 => osite (x1 = (-1 : Int32)) (qX10_decides_55 N (0 : Int32) l0) (osbind (osgI [8] 36 l0) fun x2 => qX10_decides_55 N x2 l0)
def qX10_decides (N : Nat) (l0 : Nat) : osM Unit := osbind (osrecv [8] l0 (qX10_laysMoves N l0)) fun _ => osguard ((0 : Int32) = 0 ∨ (0 : Int32) = 1) (osbind (osput [8] 27 l0 (.int (0 : Int32))) fun _ => osbind (osrecv [8] l0 (qX10_goesThrough N l0)) fun _ => osbind (osgI [8] 37 l0) fun x2 => osbind (osput [8] 38 l0 (.int x2)) fun _ => osbind (osgI [8] 36 l0) fun x3 => osite (x3 = (-1 : Int32)) (osguard ((1 : Int32) = 0 ∨ (1 : Int32) = 1) (osbind (osput [8] 27 l0 (.int (1 : Int32))) fun _ => osbind (osrecv [8] l0 (qX10_goesThrough N l0)) fun _ => qX10_decides_38 N l0)) (qX10_decides_38 N l0))
set_option maxRecDepth 100000 in
set_option maxHeartbeats 4000000 in
theorem sX10_decides_55 (N : Nat) (k0 : Int32) (k1 : Nat) : osW (osFinM (fun _ : Unit => none) 0 0) yX10_decides cX10_decides 1 none [] { frames := 6, cells := 0, slots := 0, locals := 138 } 0 0 55 [] [.int k0, .ref k1] (qX10_decides_55 N k0 k1) := by
  unfold qX10_decides_55
  refine os_callV (cis := [8]) (b := k1) (As := [.int k0]) (st := []) (st' := (fun _ => [])) sl8_X10_says_X10_says mdX10_says wd2094 wd2096 (sX10_says N k1 k0) rfl rfl (fun _ => rfl) (Nat.le_of_ble_eq_true rfl) (Nat.le_of_ble_eq_true rfl) (Nat.le_of_ble_eq_true rfl) rfl (Nat.le_of_ble_eq_true rfl) rfl (Nat.le_of_ble_eq_true rfl) (hX10_decides.at 29 rfl rfl) (fun _ => ?_)
  exact os_vret (Nat.le_of_ble_eq_true rfl) (Nat.le_of_ble_eq_true rfl) (hX10_decides.at 30 rfl rfl).1
set_option maxRecDepth 100000 in
set_option maxHeartbeats 4000000 in
theorem sX10_decides_38 (N : Nat) (l0 : Nat) : osW (osFinM (fun _ : Unit => none) 0 0) yX10_decides cX10_decides 1 none [] { frames := 6, cells := 0, slots := 0, locals := 138 } 0 0 38 [(0, .ref l0)] [] (qX10_decides_38 N l0) := by
  unfold qX10_decides_38
  refine os_aload_n (i := 0) (q := 0) (v := l0) 0 rfl rfl (hX10_decides.at 20 rfl rfl) ?_
  refine os_aload_n (i := 0) (q := 0) (v := l0) 0 rfl rfl (hX10_decides.at 21 rfl rfl) ?_
  refine os_getI fX10_429 (hX10_decides.at 22 rfl rfl) (fun x1 => ?_)
  refine os_iconst (i := (-1)) (v := (-1 : Int32)) rfl (hX10_decides.at 23 rfl rfl) ?_
  refine os_icmp_ne (off := 7) (tgt := 51) rfl (hX10_decides.at 24 rfl rfl) ?_ ?_
  · refine os_aload_n (i := 0) (q := 0) (v := l0) 0 rfl rfl (hX10_decides.at 27 rfl rfl) ?_
    refine os_getI fX10_429 (hX10_decides.at 28 rfl rfl) (fun x2 => ?_)
    exact osW.sub [] rfl (sX10_decides_55 N x2 l0)
  · refine os_iconst (i := 0) (v := (0 : Int32)) rfl (hX10_decides.at 25 rfl rfl) ?_
    refine os_goto (off := 7) (tgt := 55) rfl (hX10_decides.at 26 rfl rfl) ?_
    exact osW.sub [] rfl (sX10_decides_55 N (0 : Int32) l0)
set_option maxRecDepth 100000 in
set_option maxHeartbeats 4000000 in
theorem sX10_decides (N : Nat) (l0 : Nat) : osMet yX10_decides cX10_decides 1 none 6 138 0 0 (fun _ : Unit => none) [.ref l0] (qX10_decides N l0) := by
  refine osMet.of plX10 (Nat.le_of_ble_eq_true rfl) (osW.rw (lv2 := [(0, .ref l0)]) ?_ rfl rfl rfl)
  unfold qX10_decides
  refine os_aload_n (i := 0) (q := 0) (v := l0) 0 rfl rfl (hX10_decides.at 0 rfl rfl) ?_
  refine os_callV (cis := [8]) (b := l0) (As := []) (st := []) (st' := (fun _ => [])) sl8_X10_laysMoves_X10_laysMoves mdX10_laysMoves wd2086 wd2088 (sX10_laysMoves N l0 ) rfl rfl (fun _ => rfl) (Nat.le_of_ble_eq_true rfl) (Nat.le_of_ble_eq_true rfl) (Nat.le_of_ble_eq_true rfl) rfl (Nat.le_of_ble_eq_true rfl) rfl (Nat.le_of_ble_eq_true rfl) (hX10_decides.at 1 rfl rfl) (fun _ => ?_)
  refine os_aload_n (i := 0) (q := 0) (v := l0) 0 rfl rfl (hX10_decides.at 2 rfl rfl) ?_
  refine os_iconst (i := 0) (v := (0 : Int32)) rfl (hX10_decides.at 3 rfl rfl) ?_
  refine os_guard (fun h1 => ?_)
  refine os_put fX10_389 (osz_narrow h1) (osz_fits h1) (hX10_decides.at 4 rfl rfl) ?_
  refine os_aload_n (i := 0) (q := 0) (v := l0) 0 rfl rfl (hX10_decides.at 5 rfl rfl) ?_
  refine os_callV (cis := [8]) (b := l0) (As := []) (st := []) (st' := (fun _ => [])) sl8_X10_goesThrough_X10_goesThrough mdX10_goesThrough wd2090 wd2092 (sX10_goesThrough N l0 ) rfl rfl (fun _ => rfl) (Nat.le_of_ble_eq_true rfl) (Nat.le_of_ble_eq_true rfl) (Nat.le_of_ble_eq_true rfl) rfl (Nat.le_of_ble_eq_true rfl) rfl (Nat.le_of_ble_eq_true rfl) (hX10_decides.at 6 rfl rfl) (fun _ => ?_)
  refine os_aload_n (i := 0) (q := 0) (v := l0) 0 rfl rfl (hX10_decides.at 7 rfl rfl) ?_
  refine os_aload_n (i := 0) (q := 0) (v := l0) 0 rfl rfl (hX10_decides.at 8 rfl rfl) ?_
  refine os_getI fX10_432 (hX10_decides.at 9 rfl rfl) (fun x2 => ?_)
  refine os_put fX10_450 rfl rfl (hX10_decides.at 10 rfl rfl) ?_
  refine os_aload_n (i := 0) (q := 0) (v := l0) 0 rfl rfl (hX10_decides.at 11 rfl rfl) ?_
  refine os_getI fX10_429 (hX10_decides.at 12 rfl rfl) (fun x3 => ?_)
  refine os_iconst (i := (-1)) (v := (-1 : Int32)) rfl (hX10_decides.at 13 rfl rfl) ?_
  refine os_icmp_ne (off := 12) (tgt := 38) rfl (hX10_decides.at 14 rfl rfl) ?_ ?_
  · exact osW.sub [0] rfl (sX10_decides_38 N l0)
  · refine os_aload_n (i := 0) (q := 0) (v := l0) 0 rfl rfl (hX10_decides.at 15 rfl rfl) ?_
    refine os_iconst (i := 1) (v := (1 : Int32)) rfl (hX10_decides.at 16 rfl rfl) ?_
    refine os_guard (fun h4 => ?_)
    refine os_put fX10_389 (osz_narrow h4) (osz_fits h4) (hX10_decides.at 17 rfl rfl) ?_
    refine os_aload_n (i := 0) (q := 0) (v := l0) 0 rfl rfl (hX10_decides.at 18 rfl rfl) ?_
    refine os_callV (cis := [8]) (b := l0) (As := []) (st := []) (st' := (fun _ => [])) sl8_X10_goesThrough_X10_goesThrough mdX10_goesThrough wd2090 wd2092 (sX10_goesThrough N l0 ) rfl rfl (fun _ => rfl) (Nat.le_of_ble_eq_true rfl) (Nat.le_of_ble_eq_true rfl) (Nat.le_of_ble_eq_true rfl) rfl (Nat.le_of_ble_eq_true rfl) rfl (Nat.le_of_ble_eq_true rfl) (hX10_decides.at 19 rfl rfl) (fun _ => ?_)
    exact osW.sub [0] rfl (sX10_decides_38 N l0)
-- X10_reasonOf
def KX10_reasonOf : List (Nat × Nat × Instr) := [(0, 1, .aload_n 0), (1, 3, .getfield 386), (4, 1, .iload_n 1), (5, 3, .invokestatic 111), (8, 3, .ifCond .ne 5), (11, 1, .iconst 1), (12, 1, .ireturn), (13, 1, .aload_n 0), (14, 1, .iload_n 1), (15, 3, .invokevirtual 423), (18, 3, .ifCond .eq 7), (21, 1, .iconst 3), (22, 3, .goto 4), (25, 1, .iconst 2), (26, 1, .ireturn)]
theorem hX10_reasonOf : osDs cX10_reasonOf KX10_reasonOf := by
  show ∀ q ∈ KX10_reasonOf, decode cX10_reasonOf q.1 = .ok (q.2.2, q.2.1)
  decide +kernel
def qX10_reasonOf_26 (N : Nat) (k0 : Int32) : osM Int32 := osret k0
def qX10_reasonOf (N : Nat) (l0 : Nat) (l1 : Int32) : osM Int32 := osbind (osgI [8] 30 l0) fun x1 => osbind (qX10_has N x1 l1) fun x2 => osite (x2 = 0) (osret (1 : Int32)) (osbind (osrecv [8] l0 (qX10_isStronger N l0 l1)) fun x3 => osite (x3 = 0) (qX10_reasonOf_26 N (2 : Int32)) (qX10_reasonOf_26 N (3 : Int32)))
set_option maxRecDepth 100000 in
set_option maxHeartbeats 4000000 in
theorem sX10_reasonOf_26 (N : Nat) (k0 : Int32) : osW (osFinM (fun r : Int32 => some (.int r)) 0 0) yX10_reasonOf cX10_reasonOf 2 (some .int) [] { frames := 1, cells := 0, slots := 0, locals := 21 } 0 0 26 [] [.int k0] (qX10_reasonOf_26 N k0) := by
  unfold qX10_reasonOf_26
  exact os_iret (Nat.le_of_ble_eq_true rfl) (Nat.le_of_ble_eq_true rfl) (hX10_reasonOf.at 14 rfl rfl).1
set_option maxRecDepth 100000 in
set_option maxHeartbeats 4000000 in
theorem sX10_reasonOf (N : Nat) (l0 : Nat) (l1 : Int32) : osMet yX10_reasonOf cX10_reasonOf 2 (some .int) 1 21 0 0 (fun r : Int32 => some (.int r)) [.ref l0, .int l1] (qX10_reasonOf N l0 l1) := by
  refine osMet.of plX10 (Nat.le_of_ble_eq_true rfl) (osW.rw (lv2 := [(0, .ref l0), (1, .int l1)]) ?_ rfl rfl rfl)
  unfold qX10_reasonOf
  refine os_aload_n (i := 0) (q := 0) (v := l0) 0 rfl rfl (hX10_reasonOf.at 0 rfl rfl) ?_
  refine os_getI fX10_386 (hX10_reasonOf.at 1 rfl rfl) (fun x1 => ?_)
  refine os_iload_n (i := 1) (q := 1) (v := l1) 1 rfl rfl (hX10_reasonOf.at 2 rfl rfl) ?_
  refine os_callS (As := [.int x1, .int l1]) (st := []) (st' := (fun r => .int r :: [])) mdX10_has wd1860 wd1861 (sX10_has N x1 l1) rfl rfl (fun _ => rfl) (Nat.le_of_ble_eq_true rfl) (Nat.le_of_ble_eq_true rfl) (Nat.le_of_ble_eq_true rfl) rfl (Nat.le_of_ble_eq_true rfl) rfl (Nat.le_of_ble_eq_true rfl) (hX10_reasonOf.at 3 rfl rfl) (fun x2 => ?_)
  refine os_if_ne (off := 5) (tgt := 13) rfl (hX10_reasonOf.at 4 rfl rfl) ?_ ?_
  · refine os_aload_n (i := 0) (q := 0) (v := l0) 0 rfl rfl (hX10_reasonOf.at 7 rfl rfl) ?_
    refine os_iload_n (i := 1) (q := 1) (v := l1) 1 rfl rfl (hX10_reasonOf.at 8 rfl rfl) ?_
    refine os_callV (cis := [8]) (b := l0) (As := [.int l1]) (st := []) (st' := (fun r => .int r :: [])) sl8_X10_isStronger_X10_isStronger mdX10_isStronger wd2150 wd2152 (sX10_isStronger N l0 l1) rfl rfl (fun _ => rfl) (Nat.le_of_ble_eq_true rfl) (Nat.le_of_ble_eq_true rfl) (Nat.le_of_ble_eq_true rfl) rfl (Nat.le_of_ble_eq_true rfl) rfl (Nat.le_of_ble_eq_true rfl) (hX10_reasonOf.at 9 rfl rfl) (fun x3 => ?_)
    refine os_if_eq (off := 7) (tgt := 25) rfl (hX10_reasonOf.at 10 rfl rfl) ?_ ?_
    · refine os_iconst (i := 2) (v := (2 : Int32)) rfl (hX10_reasonOf.at 13 rfl rfl) ?_
      exact osW.sub [] rfl (sX10_reasonOf_26 N (2 : Int32))
    · refine os_iconst (i := 3) (v := (3 : Int32)) rfl (hX10_reasonOf.at 11 rfl rfl) ?_
      refine os_goto (off := 4) (tgt := 26) rfl (hX10_reasonOf.at 12 rfl rfl) ?_
      exact osW.sub [] rfl (sX10_reasonOf_26 N (3 : Int32))
  · refine os_iconst (i := 1) (v := (1 : Int32)) rfl (hX10_reasonOf.at 5 rfl rfl) ?_
    exact os_iret (Nat.le_of_ble_eq_true rfl) (Nat.le_of_ble_eq_true rfl) (hX10_reasonOf.at 6 rfl rfl).1
-- X10_said
def KX10_said : List (Nat × Nat × Instr) := [(0, 1, .aload_n 0), (1, 3, .getfield 48), (4, 1, .iload_n 1), (5, 1, .iaload), (6, 1, .istore_n 3), (7, 1, .aload_n 0), (8, 3, .getfield 16), (11, 1, .iload_n 1), (12, 3, .invokestatic 103), (15, 2, .istore 4), (17, 2, .iload 4), (19, 3, .ifCond .eq 33), (22, 1, .aload_n 0), (23, 3, .getfield 16), (26, 2, .bipush 117), (28, 1, .iload_n 1), (29, 1, .iadd), (30, 1, .iaload), (31, 1, .iconst 2), (32, 3, .if_icmp .eq 16), (35, 1, .aload_n 0), (36, 3, .getfield 16), (39, 2, .bipush 117), (41, 1, .iload_n 1), (42, 1, .iadd), (43, 1, .iaload), (44, 1, .iconst 3), (45, 3, .if_icmp .ne 7), (48, 1, .iconst 1), (49, 3, .goto 4), (52, 1, .iconst 0), (53, 2, .istore 5), (55, 1, .iload_n 2), (56, 36, .tableswitch 173 0 4 #[36, 93, 110, 131, 147]), (92, 1, .iload_n 3), (93, 1, .iconst (-1)), (94, 3, .if_icmp .eq 20), (97, 1, .aload_n 0), (98, 3, .getfield 374), (101, 1, .iload_n 3), (102, 3, .invokestatic 111), (105, 3, .ifCond .eq 7), (108, 1, .iconst 1), (109, 3, .goto 4), (112, 1, .iconst 2), (113, 1, .ireturn), (114, 2, .iload 4), (116, 3, .ifCond .ne 7), (119, 1, .iconst 0), (120, 3, .goto 28), (123, 2, .iload 5), (125, 3, .ifCond .ne 7), (128, 1, .iconst 5), (129, 3, .goto 19), (132, 1, .aload_n 0), (133, 3, .getfield 396), (136, 1, .iload_n 1), (137, 3, .invokestatic 111), (140, 3, .ifCond .eq 7), (143, 1, .iconst 3), (144, 3, .goto 4), (147, 1, .iconst 4), (148, 1, .ireturn), (149, 1, .aload_n 0), (150, 3, .getfield 380), (153, 1, .iload_n 1), (154, 3, .invokestatic 111), (157, 3, .ifCond .eq 7), (160, 1, .iconst 1), (161, 3, .goto 4), (164, 1, .iconst 0), (165, 1, .ireturn), (166, 1, .iload_n 3), (167, 1, .iconst (-1)), (168, 3, .if_icmp .eq 12), (171, 1, .aload_n 0), (172, 3, .getfield 55), (175, 1, .iload_n 3), (176, 1, .iaload), (177, 3, .goto 9), (180, 1, .aload_n 0), (181, 3, .getfield 64), (184, 1, .iload_n 1), (185, 1, .iaload), (186, 1, .ireturn), (187, 1, .iload_n 3), (188, 1, .iconst (-1)), (189, 3, .if_icmp .eq 12), (192, 1, .aload_n 0), (193, 3, .getfield 58), (196, 1, .iload_n 3), (197, 1, .iaload), (198, 3, .goto 4), (201, 1, .iconst 0), (202, 1, .ireturn), (203, 1, .iload_n 3), (204, 1, .iconst (-1)), (205, 3, .if_icmp .eq 14), (208, 1, .aload_n 0), (209, 3, .getfield 374), (212, 1, .iload_n 3), (213, 3, .invokestatic 111), (216, 3, .ifCond .eq 7), (219, 1, .iconst 0), (220, 3, .goto 8), (223, 1, .aload_n 0), (224, 1, .iload_n 3), (225, 3, .invokevirtual 453), (228, 1, .ireturn), (229, 1, .iload_n 3), (230, 1, .iconst (-1)), (231, 3, .if_icmp .eq 27), (234, 1, .aload_n 0), (235, 3, .getfield 51), (238, 1, .iload_n 3), (239, 1, .baload), (240, 3, .ifCond .eq 18), (243, 1, .aload_n 0), (244, 3, .getfield 386), (247, 1, .iload_n 3), (248, 3, .invokestatic 111), (251, 3, .ifCond .eq 7), (254, 1, .iconst 1), (255, 3, .goto 4), (258, 1, .iconst 0), (259, 1, .ireturn)]
theorem hX10_said : osDs cX10_said KX10_said := by
  show ∀ q ∈ KX10_said, decode cX10_said q.1 = .ok (q.2.2, q.2.1)
  decide +kernel
def qX10_said_148 (N : Nat) (k0 : Int32) : osM Int32 := osret k0
def qX10_said_113 (N : Nat) (k0 : Int32) : osM Int32 := osret k0
def qX10_said_165 (N : Nat) (k0 : Int32) : osM Int32 := osret k0
def qX10_said_186 (N : Nat) (k0 : Int32) : osM Int32 := osret k0
def qX10_said_202 (N : Nat) (k0 : Int32) : osM Int32 := osret k0
def qX10_said_228 (N : Nat) (k0 : Int32) : osM Int32 := osret k0
def qX10_said_219 (N : Nat) : osM Int32 := qX10_said_228 N (0 : Int32)
def qX10_said_259 (N : Nat) (k0 : Int32) : osM Int32 := osret k0
def qX10_said_258 (N : Nat) : osM Int32 := qX10_said_259 N (0 : Int32)
def qX10_said_53 (N : Nat) (l0 : Nat) (l1 : Int32) (l2 : Int32) (l3 : Int32) (l4 : Int32) (k0 : Int32) : osM Int32 := osswitch l2 0 [osite (l3 = (-1 : Int32)) (osite (l4 = 0) (qX10_said_148 N (0 : Int32)) (osite (k0 = 0) (qX10_said_148 N (5 : Int32)) (osbind (osgI [8] 31 l0) fun x1 => osbind (qX10_has N x1 l1) fun x2 => osite (x2 = 0) (qX10_said_148 N (4 : Int32)) (qX10_said_148 N (3 : Int32))))) (osbind (osgI [8] 28 l0) fun x3 => osbind (qX10_has N x3 l3) fun x4 => osite (x4 = 0) (qX10_said_113 N (2 : Int32)) (qX10_said_113 N (1 : Int32))), osbind (osgI [8] 29 l0) fun x5 => osbind (qX10_has N x5 l1) fun x6 => osite (x6 = 0) (qX10_said_165 N (0 : Int32)) (qX10_said_165 N (1 : Int32)), osite (l3 = (-1 : Int32)) (osbind (osgR [8] 35 l0) fun x7 => osbind (osaI 0 x7 l1) fun x8 => qX10_said_186 N x8) (osbind (osgR [8] 32 l0) fun x9 => osbind (osaI 0 x9 l3) fun x10 => qX10_said_186 N x10), osite (l3 = (-1 : Int32)) (qX10_said_202 N (0 : Int32)) (osbind (osgR [8] 33 l0) fun x11 => osbind (osaI 0 x11 l3) fun x12 => qX10_said_202 N x12), osite (l3 = (-1 : Int32)) (qX10_said_219 N ) (osbind (osgI [8] 28 l0) fun x13 => osbind (qX10_has N x13 l3) fun x14 => osite (x14 = 0) (osbind (osrecv [8] l0 (qX10_reasonOf N l0 l3)) fun x15 => qX10_said_228 N x15) (qX10_said_219 N ))] (osite (l3 = (-1 : Int32)) (qX10_said_258 N ) (osbind (osgR [8] 25 l0) fun x16 => osbind (osaI 3 x16 l3) fun x17 => osite (x17 = 0) (qX10_said_258 N ) (osbind (osgI [8] 30 l0) fun x18 => osbind (qX10_has N x18 l3) fun x19 => osite (x19 = 0) (qX10_said_258 N ) (qX10_said_259 N (1 : Int32)))))
def qX10_said_52 (N : Nat) (l0 : Nat) (l1 : Int32) (l2 : Int32) (l3 : Int32) (l4 : Int32) : osM Int32 := qX10_said_53 N l0 l1 l2 l3 l4 (0 : Int32)
def qX10_said_48 (N : Nat) (l0 : Nat) (l1 : Int32) (l2 : Int32) (l3 : Int32) (l4 : Int32) : osM Int32 := qX10_said_53 N l0 l1 l2 l3 l4 (1 : Int32)
def qX10_said (N : Nat) (l0 : Nat) (l1 : Int32) (l2 : Int32) : osM Int32 := osbind (osgR [8] 24 l0) fun x1 => osbind (osaI 0 x1 l1) fun x2 => osbind (osgR [8] 3 l0) fun x3 => osbind (qX10_isUnit N x3 l1) fun x4 => osite (x4 = 0) (qX10_said_52 N l0 l1 l2 x2 x4) (osbind (osgR [8] 3 l0) fun x5 => osbind (osaI 0 x5 ((117 : Int32) + l1)) fun x6 => osite (x6 = (2 : Int32)) (qX10_said_48 N l0 l1 l2 x2 x4) (osbind (osgR [8] 3 l0) fun x7 => osbind (osaI 0 x7 ((117 : Int32) + l1)) fun x8 => osite (x8 = (3 : Int32)) (qX10_said_48 N l0 l1 l2 x2 x4) (qX10_said_52 N l0 l1 l2 x2 x4)))
set_option maxRecDepth 100000 in
set_option maxHeartbeats 4000000 in
theorem sX10_said_148 (N : Nat) (k0 : Int32) : osW (osFinM (fun r : Int32 => some (.int r)) 0 0) yX10_said cX10_said 6 (some .int) [] { frames := 2, cells := 0, slots := 0, locals := 42 } 0 0 148 [] [.int k0] (qX10_said_148 N k0) := by
  unfold qX10_said_148
  exact os_iret (Nat.le_of_ble_eq_true rfl) (Nat.le_of_ble_eq_true rfl) (hX10_said.at 62 rfl rfl).1
set_option maxRecDepth 100000 in
set_option maxHeartbeats 4000000 in
theorem sX10_said_113 (N : Nat) (k0 : Int32) : osW (osFinM (fun r : Int32 => some (.int r)) 0 0) yX10_said cX10_said 6 (some .int) [] { frames := 2, cells := 0, slots := 0, locals := 42 } 0 0 113 [] [.int k0] (qX10_said_113 N k0) := by
  unfold qX10_said_113
  exact os_iret (Nat.le_of_ble_eq_true rfl) (Nat.le_of_ble_eq_true rfl) (hX10_said.at 45 rfl rfl).1
set_option maxRecDepth 100000 in
set_option maxHeartbeats 4000000 in
theorem sX10_said_165 (N : Nat) (k0 : Int32) : osW (osFinM (fun r : Int32 => some (.int r)) 0 0) yX10_said cX10_said 6 (some .int) [] { frames := 2, cells := 0, slots := 0, locals := 42 } 0 0 165 [] [.int k0] (qX10_said_165 N k0) := by
  unfold qX10_said_165
  exact os_iret (Nat.le_of_ble_eq_true rfl) (Nat.le_of_ble_eq_true rfl) (hX10_said.at 71 rfl rfl).1
set_option maxRecDepth 100000 in
set_option maxHeartbeats 4000000 in
theorem sX10_said_186 (N : Nat) (k0 : Int32) : osW (osFinM (fun r : Int32 => some (.int r)) 0 0) yX10_said cX10_said 6 (some .int) [] { frames := 2, cells := 0, slots := 0, locals := 42 } 0 0 186 [] [.int k0] (qX10_said_186 N k0) := by
  unfold qX10_said_186
  exact os_iret (Nat.le_of_ble_eq_true rfl) (Nat.le_of_ble_eq_true rfl) (hX10_said.at 84 rfl rfl).1
set_option maxRecDepth 100000 in
set_option maxHeartbeats 4000000 in
theorem sX10_said_202 (N : Nat) (k0 : Int32) : osW (osFinM (fun r : Int32 => some (.int r)) 0 0) yX10_said cX10_said 6 (some .int) [] { frames := 2, cells := 0, slots := 0, locals := 42 } 0 0 202 [] [.int k0] (qX10_said_202 N k0) := by
  unfold qX10_said_202
  exact os_iret (Nat.le_of_ble_eq_true rfl) (Nat.le_of_ble_eq_true rfl) (hX10_said.at 94 rfl rfl).1
set_option maxRecDepth 100000 in
set_option maxHeartbeats 4000000 in
theorem sX10_said_228 (N : Nat) (k0 : Int32) : osW (osFinM (fun r : Int32 => some (.int r)) 0 0) yX10_said cX10_said 6 (some .int) [] { frames := 2, cells := 0, slots := 0, locals := 42 } 0 0 228 [] [.int k0] (qX10_said_228 N k0) := by
  unfold qX10_said_228
  exact os_iret (Nat.le_of_ble_eq_true rfl) (Nat.le_of_ble_eq_true rfl) (hX10_said.at 108 rfl rfl).1
set_option maxRecDepth 100000 in
set_option maxHeartbeats 4000000 in
theorem sX10_said_219 (N : Nat) : osW (osFinM (fun r : Int32 => some (.int r)) 0 0) yX10_said cX10_said 6 (some .int) [] { frames := 2, cells := 0, slots := 0, locals := 42 } 0 0 219 [] [] (qX10_said_219 N) := by
  unfold qX10_said_219
  refine os_iconst (i := 0) (v := (0 : Int32)) rfl (hX10_said.at 103 rfl rfl) ?_
  refine os_goto (off := 8) (tgt := 228) rfl (hX10_said.at 104 rfl rfl) ?_
  exact osW.sub [] rfl (sX10_said_228 N (0 : Int32))
set_option maxRecDepth 100000 in
set_option maxHeartbeats 4000000 in
theorem sX10_said_259 (N : Nat) (k0 : Int32) : osW (osFinM (fun r : Int32 => some (.int r)) 0 0) yX10_said cX10_said 6 (some .int) [] { frames := 2, cells := 0, slots := 0, locals := 42 } 0 0 259 [] [.int k0] (qX10_said_259 N k0) := by
  unfold qX10_said_259
  exact os_iret (Nat.le_of_ble_eq_true rfl) (Nat.le_of_ble_eq_true rfl) (hX10_said.at 125 rfl rfl).1
set_option maxRecDepth 100000 in
set_option maxHeartbeats 4000000 in
theorem sX10_said_258 (N : Nat) : osW (osFinM (fun r : Int32 => some (.int r)) 0 0) yX10_said cX10_said 6 (some .int) [] { frames := 2, cells := 0, slots := 0, locals := 42 } 0 0 258 [] [] (qX10_said_258 N) := by
  unfold qX10_said_258
  refine os_iconst (i := 0) (v := (0 : Int32)) rfl (hX10_said.at 124 rfl rfl) ?_
  exact osW.sub [] rfl (sX10_said_259 N (0 : Int32))
set_option maxRecDepth 100000 in
set_option maxHeartbeats 4000000 in
theorem sX10_said_53 (N : Nat) (l0 : Nat) (l1 : Int32) (l2 : Int32) (l3 : Int32) (l4 : Int32) (k0 : Int32) : osW (osFinM (fun r : Int32 => some (.int r)) 0 0) yX10_said cX10_said 6 (some .int) [] { frames := 2, cells := 0, slots := 0, locals := 42 } 0 0 53 [(0, .ref l0), (1, .int l1), (2, .int l2), (3, .int l3), (4, .int l4)] [.int k0] (qX10_said_53 N l0 l1 l2 l3 l4 k0) := by
  unfold qX10_said_53
  refine os_istore (i := 5) (lv' := [(5, .int k0), (0, .ref l0), (1, .int l1), (2, .int l2), (3, .int l3), (4, .int l4)]) (Nat.le_of_ble_eq_true rfl) rfl (hX10_said.at 31 rfl rfl) ?_
  refine os_iload_n (i := 2) (q := 2) (v := l2) 3 rfl rfl (hX10_said.at 32 rfl rfl) ?_
  refine os_tableswitch (dflt := 173) (lo := 0) (hi := 4) (offs := #[36, 93, 110, 131, 147]) (tgt := 229) rfl rfl (hX10_said.at 33 rfl rfl) ?_ ?_
  · refine ⟨⟨92, rfl, ?_⟩, ⟨149, rfl, ?_⟩, ⟨166, rfl, ?_⟩, ⟨187, rfl, ?_⟩, ⟨203, rfl, ?_⟩, trivial⟩
    · refine os_iload_n (i := 3) (q := 3) (v := l3) 4 rfl rfl (hX10_said.at 34 rfl rfl) ?_
      refine os_iconst (i := (-1)) (v := (-1 : Int32)) rfl (hX10_said.at 35 rfl rfl) ?_
      refine os_icmp_eq (off := 20) (tgt := 114) rfl (hX10_said.at 36 rfl rfl) ?_ ?_
      · refine os_iload (v := l4) 5 rfl (hX10_said.at 46 rfl rfl) ?_
        refine os_if_ne (off := 7) (tgt := 123) rfl (hX10_said.at 47 rfl rfl) ?_ ?_
        · refine os_iload (v := k0) 0 rfl (hX10_said.at 50 rfl rfl) ?_
          refine os_if_ne (off := 7) (tgt := 132) rfl (hX10_said.at 51 rfl rfl) ?_ ?_
          · refine os_aload_n (i := 0) (q := 0) (v := l0) 1 rfl rfl (hX10_said.at 54 rfl rfl) ?_
            refine os_getI fX10_396 (hX10_said.at 55 rfl rfl) (fun x1 => ?_)
            refine os_iload_n (i := 1) (q := 1) (v := l1) 2 rfl rfl (hX10_said.at 56 rfl rfl) ?_
            refine os_callS (As := [.int x1, .int l1]) (st := []) (st' := (fun r => .int r :: [])) mdX10_has wd1860 wd1861 (sX10_has N x1 l1) rfl rfl (fun _ => rfl) (Nat.le_of_ble_eq_true rfl) (Nat.le_of_ble_eq_true rfl) (Nat.le_of_ble_eq_true rfl) rfl (Nat.le_of_ble_eq_true rfl) rfl (Nat.le_of_ble_eq_true rfl) (hX10_said.at 57 rfl rfl) (fun x2 => ?_)
            refine os_if_eq (off := 7) (tgt := 147) rfl (hX10_said.at 58 rfl rfl) ?_ ?_
            · refine os_iconst (i := 4) (v := (4 : Int32)) rfl (hX10_said.at 61 rfl rfl) ?_
              exact osW.sub [] rfl (sX10_said_148 N (4 : Int32))
            · refine os_iconst (i := 3) (v := (3 : Int32)) rfl (hX10_said.at 59 rfl rfl) ?_
              refine os_goto (off := 4) (tgt := 148) rfl (hX10_said.at 60 rfl rfl) ?_
              exact osW.sub [] rfl (sX10_said_148 N (3 : Int32))
          · refine os_iconst (i := 5) (v := (5 : Int32)) rfl (hX10_said.at 52 rfl rfl) ?_
            refine os_goto (off := 19) (tgt := 148) rfl (hX10_said.at 53 rfl rfl) ?_
            exact osW.sub [] rfl (sX10_said_148 N (5 : Int32))
        · refine os_iconst (i := 0) (v := (0 : Int32)) rfl (hX10_said.at 48 rfl rfl) ?_
          refine os_goto (off := 28) (tgt := 148) rfl (hX10_said.at 49 rfl rfl) ?_
          exact osW.sub [] rfl (sX10_said_148 N (0 : Int32))
      · refine os_aload_n (i := 0) (q := 0) (v := l0) 1 rfl rfl (hX10_said.at 37 rfl rfl) ?_
        refine os_getI fX10_374 (hX10_said.at 38 rfl rfl) (fun x3 => ?_)
        refine os_iload_n (i := 3) (q := 3) (v := l3) 4 rfl rfl (hX10_said.at 39 rfl rfl) ?_
        refine os_callS (As := [.int x3, .int l3]) (st := []) (st' := (fun r => .int r :: [])) mdX10_has wd1860 wd1861 (sX10_has N x3 l3) rfl rfl (fun _ => rfl) (Nat.le_of_ble_eq_true rfl) (Nat.le_of_ble_eq_true rfl) (Nat.le_of_ble_eq_true rfl) rfl (Nat.le_of_ble_eq_true rfl) rfl (Nat.le_of_ble_eq_true rfl) (hX10_said.at 40 rfl rfl) (fun x4 => ?_)
        refine os_if_eq (off := 7) (tgt := 112) rfl (hX10_said.at 41 rfl rfl) ?_ ?_
        · refine os_iconst (i := 2) (v := (2 : Int32)) rfl (hX10_said.at 44 rfl rfl) ?_
          exact osW.sub [] rfl (sX10_said_113 N (2 : Int32))
        · refine os_iconst (i := 1) (v := (1 : Int32)) rfl (hX10_said.at 42 rfl rfl) ?_
          refine os_goto (off := 4) (tgt := 113) rfl (hX10_said.at 43 rfl rfl) ?_
          exact osW.sub [] rfl (sX10_said_113 N (1 : Int32))
    · refine os_aload_n (i := 0) (q := 0) (v := l0) 1 rfl rfl (hX10_said.at 63 rfl rfl) ?_
      refine os_getI fX10_380 (hX10_said.at 64 rfl rfl) (fun x5 => ?_)
      refine os_iload_n (i := 1) (q := 1) (v := l1) 2 rfl rfl (hX10_said.at 65 rfl rfl) ?_
      refine os_callS (As := [.int x5, .int l1]) (st := []) (st' := (fun r => .int r :: [])) mdX10_has wd1860 wd1861 (sX10_has N x5 l1) rfl rfl (fun _ => rfl) (Nat.le_of_ble_eq_true rfl) (Nat.le_of_ble_eq_true rfl) (Nat.le_of_ble_eq_true rfl) rfl (Nat.le_of_ble_eq_true rfl) rfl (Nat.le_of_ble_eq_true rfl) (hX10_said.at 66 rfl rfl) (fun x6 => ?_)
      refine os_if_eq (off := 7) (tgt := 164) rfl (hX10_said.at 67 rfl rfl) ?_ ?_
      · refine os_iconst (i := 0) (v := (0 : Int32)) rfl (hX10_said.at 70 rfl rfl) ?_
        exact osW.sub [] rfl (sX10_said_165 N (0 : Int32))
      · refine os_iconst (i := 1) (v := (1 : Int32)) rfl (hX10_said.at 68 rfl rfl) ?_
        refine os_goto (off := 4) (tgt := 165) rfl (hX10_said.at 69 rfl rfl) ?_
        exact osW.sub [] rfl (sX10_said_165 N (1 : Int32))
    · refine os_iload_n (i := 3) (q := 3) (v := l3) 4 rfl rfl (hX10_said.at 72 rfl rfl) ?_
      refine os_iconst (i := (-1)) (v := (-1 : Int32)) rfl (hX10_said.at 73 rfl rfl) ?_
      refine os_icmp_eq (off := 12) (tgt := 180) rfl (hX10_said.at 74 rfl rfl) ?_ ?_
      · refine os_aload_n (i := 0) (q := 0) (v := l0) 1 rfl rfl (hX10_said.at 80 rfl rfl) ?_
        refine os_getR fX10_64 (hX10_said.at 81 rfl rfl) (fun x7 => ?_)
        refine os_iload_n (i := 1) (q := 1) (v := l1) 2 rfl rfl (hX10_said.at 82 rfl rfl) ?_
        refine os_iaload (hX10_said.at 83 rfl rfl) (fun x8 => ?_)
        exact osW.sub [] rfl (sX10_said_186 N x8)
      · refine os_aload_n (i := 0) (q := 0) (v := l0) 1 rfl rfl (hX10_said.at 75 rfl rfl) ?_
        refine os_getR fX10_55 (hX10_said.at 76 rfl rfl) (fun x9 => ?_)
        refine os_iload_n (i := 3) (q := 3) (v := l3) 4 rfl rfl (hX10_said.at 77 rfl rfl) ?_
        refine os_iaload (hX10_said.at 78 rfl rfl) (fun x10 => ?_)
        refine os_goto (off := 9) (tgt := 186) rfl (hX10_said.at 79 rfl rfl) ?_
        exact osW.sub [] rfl (sX10_said_186 N x10)
    · refine os_iload_n (i := 3) (q := 3) (v := l3) 4 rfl rfl (hX10_said.at 85 rfl rfl) ?_
      refine os_iconst (i := (-1)) (v := (-1 : Int32)) rfl (hX10_said.at 86 rfl rfl) ?_
      refine os_icmp_eq (off := 12) (tgt := 201) rfl (hX10_said.at 87 rfl rfl) ?_ ?_
      · refine os_iconst (i := 0) (v := (0 : Int32)) rfl (hX10_said.at 93 rfl rfl) ?_
        exact osW.sub [] rfl (sX10_said_202 N (0 : Int32))
      · refine os_aload_n (i := 0) (q := 0) (v := l0) 1 rfl rfl (hX10_said.at 88 rfl rfl) ?_
        refine os_getR fX10_58 (hX10_said.at 89 rfl rfl) (fun x11 => ?_)
        refine os_iload_n (i := 3) (q := 3) (v := l3) 4 rfl rfl (hX10_said.at 90 rfl rfl) ?_
        refine os_iaload (hX10_said.at 91 rfl rfl) (fun x12 => ?_)
        refine os_goto (off := 4) (tgt := 202) rfl (hX10_said.at 92 rfl rfl) ?_
        exact osW.sub [] rfl (sX10_said_202 N x12)
    · refine os_iload_n (i := 3) (q := 3) (v := l3) 4 rfl rfl (hX10_said.at 95 rfl rfl) ?_
      refine os_iconst (i := (-1)) (v := (-1 : Int32)) rfl (hX10_said.at 96 rfl rfl) ?_
      refine os_icmp_eq (off := 14) (tgt := 219) rfl (hX10_said.at 97 rfl rfl) ?_ ?_
      · exact osW.sub [] rfl (sX10_said_219 N )
      · refine os_aload_n (i := 0) (q := 0) (v := l0) 1 rfl rfl (hX10_said.at 98 rfl rfl) ?_
        refine os_getI fX10_374 (hX10_said.at 99 rfl rfl) (fun x13 => ?_)
        refine os_iload_n (i := 3) (q := 3) (v := l3) 4 rfl rfl (hX10_said.at 100 rfl rfl) ?_
        refine os_callS (As := [.int x13, .int l3]) (st := []) (st' := (fun r => .int r :: [])) mdX10_has wd1860 wd1861 (sX10_has N x13 l3) rfl rfl (fun _ => rfl) (Nat.le_of_ble_eq_true rfl) (Nat.le_of_ble_eq_true rfl) (Nat.le_of_ble_eq_true rfl) rfl (Nat.le_of_ble_eq_true rfl) rfl (Nat.le_of_ble_eq_true rfl) (hX10_said.at 101 rfl rfl) (fun x14 => ?_)
        refine os_if_eq (off := 7) (tgt := 223) rfl (hX10_said.at 102 rfl rfl) ?_ ?_
        · refine os_aload_n (i := 0) (q := 0) (v := l0) 1 rfl rfl (hX10_said.at 105 rfl rfl) ?_
          refine os_iload_n (i := 3) (q := 3) (v := l3) 4 rfl rfl (hX10_said.at 106 rfl rfl) ?_
          refine os_callV (cis := [8]) (b := l0) (As := [.int l3]) (st := []) (st' := (fun r => .int r :: [])) sl8_X10_reasonOf_X10_reasonOf mdX10_reasonOf wd2161 wd2163 (sX10_reasonOf N l0 l3) rfl rfl (fun _ => rfl) (Nat.le_of_ble_eq_true rfl) (Nat.le_of_ble_eq_true rfl) (Nat.le_of_ble_eq_true rfl) rfl (Nat.le_of_ble_eq_true rfl) rfl (Nat.le_of_ble_eq_true rfl) (hX10_said.at 107 rfl rfl) (fun x15 => ?_)
          exact osW.sub [] rfl (sX10_said_228 N x15)
        · exact osW.sub [] rfl (sX10_said_219 N )
  · refine os_iload_n (i := 3) (q := 3) (v := l3) 4 rfl rfl (hX10_said.at 109 rfl rfl) ?_
    refine os_iconst (i := (-1)) (v := (-1 : Int32)) rfl (hX10_said.at 110 rfl rfl) ?_
    refine os_icmp_eq (off := 27) (tgt := 258) rfl (hX10_said.at 111 rfl rfl) ?_ ?_
    · exact osW.sub [] rfl (sX10_said_258 N )
    · refine os_aload_n (i := 0) (q := 0) (v := l0) 1 rfl rfl (hX10_said.at 112 rfl rfl) ?_
      refine os_getR fX10_51 (hX10_said.at 113 rfl rfl) (fun x16 => ?_)
      refine os_iload_n (i := 3) (q := 3) (v := l3) 4 rfl rfl (hX10_said.at 114 rfl rfl) ?_
      refine os_zaload (hX10_said.at 115 rfl rfl) (fun x17 => ?_)
      refine os_if_eq (off := 18) (tgt := 258) rfl (hX10_said.at 116 rfl rfl) ?_ ?_
      · exact osW.sub [] rfl (sX10_said_258 N )
      · refine os_aload_n (i := 0) (q := 0) (v := l0) 1 rfl rfl (hX10_said.at 117 rfl rfl) ?_
        refine os_getI fX10_386 (hX10_said.at 118 rfl rfl) (fun x18 => ?_)
        refine os_iload_n (i := 3) (q := 3) (v := l3) 4 rfl rfl (hX10_said.at 119 rfl rfl) ?_
        refine os_callS (As := [.int x18, .int l3]) (st := []) (st' := (fun r => .int r :: [])) mdX10_has wd1860 wd1861 (sX10_has N x18 l3) rfl rfl (fun _ => rfl) (Nat.le_of_ble_eq_true rfl) (Nat.le_of_ble_eq_true rfl) (Nat.le_of_ble_eq_true rfl) rfl (Nat.le_of_ble_eq_true rfl) rfl (Nat.le_of_ble_eq_true rfl) (hX10_said.at 120 rfl rfl) (fun x19 => ?_)
        refine os_if_eq (off := 7) (tgt := 258) rfl (hX10_said.at 121 rfl rfl) ?_ ?_
        · exact osW.sub [] rfl (sX10_said_258 N )
        · refine os_iconst (i := 1) (v := (1 : Int32)) rfl (hX10_said.at 122 rfl rfl) ?_
          refine os_goto (off := 4) (tgt := 259) rfl (hX10_said.at 123 rfl rfl) ?_
          exact osW.sub [] rfl (sX10_said_259 N (1 : Int32))
set_option maxRecDepth 100000 in
set_option maxHeartbeats 4000000 in
theorem sX10_said_52 (N : Nat) (l0 : Nat) (l1 : Int32) (l2 : Int32) (l3 : Int32) (l4 : Int32) : osW (osFinM (fun r : Int32 => some (.int r)) 0 0) yX10_said cX10_said 6 (some .int) [] { frames := 2, cells := 0, slots := 0, locals := 42 } 0 0 52 [(0, .ref l0), (1, .int l1), (2, .int l2), (3, .int l3), (4, .int l4)] [] (qX10_said_52 N l0 l1 l2 l3 l4) := by
  unfold qX10_said_52
  refine os_iconst (i := 0) (v := (0 : Int32)) rfl (hX10_said.at 30 rfl rfl) ?_
  exact osW.sub [0, 1, 2, 3, 4] rfl (sX10_said_53 N l0 l1 l2 l3 l4 (0 : Int32))
set_option maxRecDepth 100000 in
set_option maxHeartbeats 4000000 in
theorem sX10_said_48 (N : Nat) (l0 : Nat) (l1 : Int32) (l2 : Int32) (l3 : Int32) (l4 : Int32) : osW (osFinM (fun r : Int32 => some (.int r)) 0 0) yX10_said cX10_said 6 (some .int) [] { frames := 2, cells := 0, slots := 0, locals := 42 } 0 0 48 [(0, .ref l0), (1, .int l1), (2, .int l2), (3, .int l3), (4, .int l4)] [] (qX10_said_48 N l0 l1 l2 l3 l4) := by
  unfold qX10_said_48
  refine os_iconst (i := 1) (v := (1 : Int32)) rfl (hX10_said.at 28 rfl rfl) ?_
  refine os_goto (off := 4) (tgt := 53) rfl (hX10_said.at 29 rfl rfl) ?_
  exact osW.sub [0, 1, 2, 3, 4] rfl (sX10_said_53 N l0 l1 l2 l3 l4 (1 : Int32))
set_option maxRecDepth 100000 in
set_option maxHeartbeats 4000000 in
theorem sX10_said (N : Nat) (l0 : Nat) (l1 : Int32) (l2 : Int32) : osMet yX10_said cX10_said 6 (some .int) 2 42 0 0 (fun r : Int32 => some (.int r)) [.ref l0, .int l1, .int l2] (qX10_said N l0 l1 l2) := by
  refine osMet.of plX10 (Nat.le_of_ble_eq_true rfl) (osW.rw (lv2 := [(0, .ref l0), (1, .int l1), (2, .int l2)]) ?_ rfl rfl rfl)
  unfold qX10_said
  refine os_aload_n (i := 0) (q := 0) (v := l0) 0 rfl rfl (hX10_said.at 0 rfl rfl) ?_
  refine os_getR fX10_48 (hX10_said.at 1 rfl rfl) (fun x1 => ?_)
  refine os_iload_n (i := 1) (q := 1) (v := l1) 1 rfl rfl (hX10_said.at 2 rfl rfl) ?_
  refine os_iaload (hX10_said.at 3 rfl rfl) (fun x2 => ?_)
  refine os_istore_n (i := 3) (q := 3) rfl (lv' := [(3, .int x2), (0, .ref l0), (1, .int l1), (2, .int l2)]) (Nat.le_of_ble_eq_true rfl) rfl (hX10_said.at 4 rfl rfl) ?_
  refine os_aload_n (i := 0) (q := 0) (v := l0) 1 rfl rfl (hX10_said.at 5 rfl rfl) ?_
  refine os_getR fX10_16 (hX10_said.at 6 rfl rfl) (fun x3 => ?_)
  refine os_iload_n (i := 1) (q := 1) (v := l1) 2 rfl rfl (hX10_said.at 7 rfl rfl) ?_
  refine os_callS (As := [.ref x3, .int l1]) (st := []) (st' := (fun r => .int r :: [])) mdX10_isUnit wd1879 wd1880 (sX10_isUnit N x3 l1) rfl rfl (fun _ => rfl) (Nat.le_of_ble_eq_true rfl) (Nat.le_of_ble_eq_true rfl) (Nat.le_of_ble_eq_true rfl) rfl (Nat.le_of_ble_eq_true rfl) rfl (Nat.le_of_ble_eq_true rfl) (hX10_said.at 8 rfl rfl) (fun x4 => ?_)
  refine os_istore (i := 4) (lv' := [(4, .int x4), (3, .int x2), (0, .ref l0), (1, .int l1), (2, .int l2)]) (Nat.le_of_ble_eq_true rfl) rfl (hX10_said.at 9 rfl rfl) ?_
  refine os_iload (v := x4) 0 rfl (hX10_said.at 10 rfl rfl) ?_
  refine os_if_eq (off := 33) (tgt := 52) rfl (hX10_said.at 11 rfl rfl) ?_ ?_
  · exact osW.sub [2, 3, 4, 1, 0] rfl (sX10_said_52 N l0 l1 l2 x2 x4)
  · refine os_aload_n (i := 0) (q := 0) (v := l0) 2 rfl rfl (hX10_said.at 12 rfl rfl) ?_
    refine os_getR fX10_16 (hX10_said.at 13 rfl rfl) (fun x5 => ?_)
    refine os_bipush (i := 117) (v := (117 : Int32)) rfl (hX10_said.at 14 rfl rfl) ?_
    refine os_iload_n (i := 1) (q := 1) (v := l1) 3 rfl rfl (hX10_said.at 15 rfl rfl) ?_
    refine os_iadd (hX10_said.at 16 rfl rfl) ?_
    refine os_iaload (hX10_said.at 17 rfl rfl) (fun x6 => ?_)
    refine os_iconst (i := 2) (v := (2 : Int32)) rfl (hX10_said.at 18 rfl rfl) ?_
    refine os_icmp_eq (off := 16) (tgt := 48) rfl (hX10_said.at 19 rfl rfl) ?_ ?_
    · exact osW.sub [2, 3, 4, 1, 0] rfl (sX10_said_48 N l0 l1 l2 x2 x4)
    · refine os_aload_n (i := 0) (q := 0) (v := l0) 2 rfl rfl (hX10_said.at 20 rfl rfl) ?_
      refine os_getR fX10_16 (hX10_said.at 21 rfl rfl) (fun x7 => ?_)
      refine os_bipush (i := 117) (v := (117 : Int32)) rfl (hX10_said.at 22 rfl rfl) ?_
      refine os_iload_n (i := 1) (q := 1) (v := l1) 3 rfl rfl (hX10_said.at 23 rfl rfl) ?_
      refine os_iadd (hX10_said.at 24 rfl rfl) ?_
      refine os_iaload (hX10_said.at 25 rfl rfl) (fun x8 => ?_)
      refine os_iconst (i := 3) (v := (3 : Int32)) rfl (hX10_said.at 26 rfl rfl) ?_
      refine os_icmp_ne (off := 7) (tgt := 52) rfl (hX10_said.at 27 rfl rfl) ?_ ?_
      · exact osW.sub [2, 3, 4, 1, 0] rfl (sX10_said_52 N l0 l1 l2 x2 x4)
      · exact osW.sub [2, 3, 4, 1, 0] rfl (sX10_said_48 N l0 l1 l2 x2 x4)
-- X10_remembers
def KX10_remembers : List (Nat × Nat × Instr) := [(0, 1, .aload_n 0), (1, 3, .getfield 92), (4, 2, .bipush 6), (6, 3, .if_icmp .ne 46), (9, 3, .sipush 261), (12, 1, .istore_n 1), (13, 1, .iload_n 1), (14, 3, .sipush 1566), (17, 3, .if_icmp .ge 25), (20, 1, .aload_n 0), (21, 3, .getfield 22), (24, 1, .iload_n 1), (25, 3, .sipush 261), (28, 1, .isub), (29, 1, .aload_n 0), (30, 3, .getfield 22), (33, 1, .iload_n 1), (34, 1, .iaload), (35, 1, .iastore), (36, 3, .iinc 1 1), (39, 3, .goto (-26)), (42, 1, .aload_n 0), (43, 1, .aload_n 0), (44, 3, .getfield 92), (47, 1, .iconst 1), (48, 1, .isub), (49, 3, .putfield 92), (52, 1, .iconst 0), (53, 1, .istore_n 1), (54, 1, .iload_n 1), (55, 3, .sipush 261), (58, 3, .if_icmp .ge 30), (61, 1, .aload_n 0), (62, 3, .getfield 22), (65, 3, .sipush 261), (68, 1, .aload_n 0), (69, 3, .getfield 92), (72, 1, .imul), (73, 1, .iload_n 1), (74, 1, .iadd), (75, 1, .aload_n 0), (76, 3, .getfield 16), (79, 1, .iload_n 1), (80, 1, .iaload), (81, 1, .iastore), (82, 3, .iinc 1 1), (85, 3, .goto (-31)), (88, 1, .aload_n 0), (89, 1, .aload_n 0), (90, 3, .getfield 92), (93, 1, .iconst 1), (94, 1, .iadd), (95, 3, .putfield 92), (98, 1, .return_)]
theorem hX10_remembers : osDs cX10_remembers KX10_remembers := by
  show ∀ q ∈ KX10_remembers, decode cX10_remembers q.1 = .ok (q.2.2, q.2.1)
  decide +kernel
def bX10_remembers_54 (N : Nat) (c54 : Nat × Int32 → osM Unit) (l0 : Nat) (l1 : Int32) : osM Unit := osite ((261 : Int32) ≤ l1) (osbind (osgI [8] 8 l0) fun x1 => osbind (osput [8] 8 l0 (.int (x1 + (1 : Int32)))) fun _ => osret ()) (osbind (osgR [8] 5 l0) fun x2 => osbind (osgI [8] 8 l0) fun x3 => osbind (osgR [8] 3 l0) fun x4 => osbind (osaI 0 x4 l1) fun x5 => osbind (ossI 0 x2 (((261 : Int32) * x3) + l1) x5) fun _ => c54 (l0, (l1 + (1 : Int32))))
def qX10_remembers_54 (N : Nat) : Nat × Int32 → osM Unit := osloop (fun ih p => bX10_remembers_54 N ih p.1 p.2) N
def qX10_remembers_52 (N : Nat) (l0 : Nat) : osM Unit := qX10_remembers_54 N (l0, (0 : Int32))
def bX10_remembers_13 (N : Nat) (c13 : Nat × Int32 → osM Unit) (l0 : Nat) (l1 : Int32) : osM Unit := osite ((1566 : Int32) ≤ l1) (osbind (osgI [8] 8 l0) fun x1 => osbind (osput [8] 8 l0 (.int (x1 - (1 : Int32)))) fun _ => qX10_remembers_52 N l0) (osbind (osgR [8] 5 l0) fun x2 => osbind (osgR [8] 5 l0) fun x3 => osbind (osaI 0 x3 l1) fun x4 => osbind (ossI 0 x2 (l1 - (261 : Int32)) x4) fun _ => c13 (l0, (l1 + (1 : Int32))))
def qX10_remembers_13 (N : Nat) : Nat × Int32 → osM Unit := osloop (fun ih p => bX10_remembers_13 N ih p.1 p.2) N
def qX10_remembers (N : Nat) (l0 : Nat) : osM Unit := osbind (osgI [8] 8 l0) fun x1 => osite (x1 = (6 : Int32)) (qX10_remembers_13 N (l0, (261 : Int32))) (qX10_remembers_52 N l0)
set_option maxRecDepth 100000 in
set_option maxHeartbeats 4000000 in
theorem tX10_remembers_54 (N : Nat) (c54 : Nat × Int32 → osM Unit) (g54 : ∀ (l0 : Nat) (l1 : Int32), osW (osFinM (fun _ : Unit => none) 0 0) yX10_remembers cX10_remembers 2 none [] { frames := 0, cells := 0, slots := 0, locals := 0 } 0 0 54 [(0, .ref l0), (1, .int l1)] [] (c54 (l0, l1))) (l0 : Nat) (l1 : Int32) : osW (osFinM (fun _ : Unit => none) 0 0) yX10_remembers cX10_remembers 2 none [] { frames := 0, cells := 0, slots := 0, locals := 0 } 0 0 54 [(0, .ref l0), (1, .int l1)] [] (bX10_remembers_54 N c54 l0 l1) := by
  unfold bX10_remembers_54
  refine os_iload_n (i := 1) (q := 1) (v := l1) 1 rfl rfl (hX10_remembers.at 29 rfl rfl) ?_
  refine os_sipush (i := 261) (v := (261 : Int32)) rfl (hX10_remembers.at 30 rfl rfl) ?_
  refine os_icmp_ge (off := 30) (tgt := 88) rfl (hX10_remembers.at 31 rfl rfl) ?_ ?_
  · refine os_aload_n (i := 0) (q := 0) (v := l0) 0 rfl rfl (hX10_remembers.at 47 rfl rfl) ?_
    refine os_aload_n (i := 0) (q := 0) (v := l0) 0 rfl rfl (hX10_remembers.at 48 rfl rfl) ?_
    refine os_getI fX10_92 (hX10_remembers.at 49 rfl rfl) (fun x1 => ?_)
    refine os_iconst (i := 1) (v := (1 : Int32)) rfl (hX10_remembers.at 50 rfl rfl) ?_
    refine os_iadd (hX10_remembers.at 51 rfl rfl) ?_
    refine os_put fX10_92 rfl rfl (hX10_remembers.at 52 rfl rfl) ?_
    exact os_vret (Nat.le_of_ble_eq_true rfl) (Nat.le_of_ble_eq_true rfl) (hX10_remembers.at 53 rfl rfl).1
  · refine os_aload_n (i := 0) (q := 0) (v := l0) 0 rfl rfl (hX10_remembers.at 32 rfl rfl) ?_
    refine os_getR fX10_22 (hX10_remembers.at 33 rfl rfl) (fun x2 => ?_)
    refine os_sipush (i := 261) (v := (261 : Int32)) rfl (hX10_remembers.at 34 rfl rfl) ?_
    refine os_aload_n (i := 0) (q := 0) (v := l0) 0 rfl rfl (hX10_remembers.at 35 rfl rfl) ?_
    refine os_getI fX10_92 (hX10_remembers.at 36 rfl rfl) (fun x3 => ?_)
    refine os_imul (hX10_remembers.at 37 rfl rfl) ?_
    refine os_iload_n (i := 1) (q := 1) (v := l1) 1 rfl rfl (hX10_remembers.at 38 rfl rfl) ?_
    refine os_iadd (hX10_remembers.at 39 rfl rfl) ?_
    refine os_aload_n (i := 0) (q := 0) (v := l0) 0 rfl rfl (hX10_remembers.at 40 rfl rfl) ?_
    refine os_getR fX10_16 (hX10_remembers.at 41 rfl rfl) (fun x4 => ?_)
    refine os_iload_n (i := 1) (q := 1) (v := l1) 1 rfl rfl (hX10_remembers.at 42 rfl rfl) ?_
    refine os_iaload (hX10_remembers.at 43 rfl rfl) (fun x5 => ?_)
    refine os_iastore (hX10_remembers.at 44 rfl rfl) ?_
    refine os_iinc (i := 1) (d := 1) (x := l1) (v := (1 : Int32)) (lv' := [(1, .int (l1 + (1 : Int32))), (0, .ref l0)]) 1 rfl rfl (Nat.le_of_ble_eq_true rfl) rfl (hX10_remembers.at 45 rfl rfl) ?_
    refine os_goto (off := (-31)) (tgt := 54) rfl (hX10_remembers.at 46 rfl rfl) ?_
    exact osW.sub [1, 0] rfl (g54 l0 (l1 + (1 : Int32)))
set_option maxRecDepth 100000 in
set_option maxHeartbeats 4000000 in
theorem sX10_remembers_54 (N : Nat) (l0 : Nat) (l1 : Int32) : osW (osFinM (fun _ : Unit => none) 0 0) yX10_remembers cX10_remembers 2 none [] { frames := 0, cells := 0, slots := 0, locals := 0 } 0 0 54 [(0, .ref l0), (1, .int l1)] [] (qX10_remembers_54 N (l0, l1)) :=
  osloop_W (lvf := fun p => [(0, .ref p.1), (1, .int p.2)]) (stf := fun p => []) (fun ih g p => tX10_remembers_54 N ih (fun l0 l1 => g (l0, l1)) p.1 p.2) N (l0, l1)
set_option maxRecDepth 100000 in
set_option maxHeartbeats 4000000 in
theorem sX10_remembers_52 (N : Nat) (l0 : Nat) : osW (osFinM (fun _ : Unit => none) 0 0) yX10_remembers cX10_remembers 2 none [] { frames := 0, cells := 0, slots := 0, locals := 0 } 0 0 52 [(0, .ref l0)] [] (qX10_remembers_52 N l0) := by
  unfold qX10_remembers_52
  refine os_iconst (i := 0) (v := (0 : Int32)) rfl (hX10_remembers.at 27 rfl rfl) ?_
  refine os_istore_n (i := 1) (q := 1) rfl (lv' := [(1, .int (0 : Int32)), (0, .ref l0)]) (Nat.le_of_ble_eq_true rfl) rfl (hX10_remembers.at 28 rfl rfl) ?_
  exact osW.sub [1, 0] rfl (sX10_remembers_54 N l0 (0 : Int32))
set_option maxRecDepth 100000 in
set_option maxHeartbeats 4000000 in
theorem tX10_remembers_13 (N : Nat) (c13 : Nat × Int32 → osM Unit) (g13 : ∀ (l0 : Nat) (l1 : Int32), osW (osFinM (fun _ : Unit => none) 0 0) yX10_remembers cX10_remembers 2 none [] { frames := 0, cells := 0, slots := 0, locals := 0 } 0 0 13 [(0, .ref l0), (1, .int l1)] [] (c13 (l0, l1))) (l0 : Nat) (l1 : Int32) : osW (osFinM (fun _ : Unit => none) 0 0) yX10_remembers cX10_remembers 2 none [] { frames := 0, cells := 0, slots := 0, locals := 0 } 0 0 13 [(0, .ref l0), (1, .int l1)] [] (bX10_remembers_13 N c13 l0 l1) := by
  unfold bX10_remembers_13
  refine os_iload_n (i := 1) (q := 1) (v := l1) 1 rfl rfl (hX10_remembers.at 6 rfl rfl) ?_
  refine os_sipush (i := 1566) (v := (1566 : Int32)) rfl (hX10_remembers.at 7 rfl rfl) ?_
  refine os_icmp_ge (off := 25) (tgt := 42) rfl (hX10_remembers.at 8 rfl rfl) ?_ ?_
  · refine os_aload_n (i := 0) (q := 0) (v := l0) 0 rfl rfl (hX10_remembers.at 21 rfl rfl) ?_
    refine os_aload_n (i := 0) (q := 0) (v := l0) 0 rfl rfl (hX10_remembers.at 22 rfl rfl) ?_
    refine os_getI fX10_92 (hX10_remembers.at 23 rfl rfl) (fun x1 => ?_)
    refine os_iconst (i := 1) (v := (1 : Int32)) rfl (hX10_remembers.at 24 rfl rfl) ?_
    refine os_isub (hX10_remembers.at 25 rfl rfl) ?_
    refine os_put fX10_92 rfl rfl (hX10_remembers.at 26 rfl rfl) ?_
    exact osW.sub [0] rfl (sX10_remembers_52 N l0)
  · refine os_aload_n (i := 0) (q := 0) (v := l0) 0 rfl rfl (hX10_remembers.at 9 rfl rfl) ?_
    refine os_getR fX10_22 (hX10_remembers.at 10 rfl rfl) (fun x2 => ?_)
    refine os_iload_n (i := 1) (q := 1) (v := l1) 1 rfl rfl (hX10_remembers.at 11 rfl rfl) ?_
    refine os_sipush (i := 261) (v := (261 : Int32)) rfl (hX10_remembers.at 12 rfl rfl) ?_
    refine os_isub (hX10_remembers.at 13 rfl rfl) ?_
    refine os_aload_n (i := 0) (q := 0) (v := l0) 0 rfl rfl (hX10_remembers.at 14 rfl rfl) ?_
    refine os_getR fX10_22 (hX10_remembers.at 15 rfl rfl) (fun x3 => ?_)
    refine os_iload_n (i := 1) (q := 1) (v := l1) 1 rfl rfl (hX10_remembers.at 16 rfl rfl) ?_
    refine os_iaload (hX10_remembers.at 17 rfl rfl) (fun x4 => ?_)
    refine os_iastore (hX10_remembers.at 18 rfl rfl) ?_
    refine os_iinc (i := 1) (d := 1) (x := l1) (v := (1 : Int32)) (lv' := [(1, .int (l1 + (1 : Int32))), (0, .ref l0)]) 1 rfl rfl (Nat.le_of_ble_eq_true rfl) rfl (hX10_remembers.at 19 rfl rfl) ?_
    refine os_goto (off := (-26)) (tgt := 13) rfl (hX10_remembers.at 20 rfl rfl) ?_
    exact osW.sub [1, 0] rfl (g13 l0 (l1 + (1 : Int32)))
set_option maxRecDepth 100000 in
set_option maxHeartbeats 4000000 in
theorem sX10_remembers_13 (N : Nat) (l0 : Nat) (l1 : Int32) : osW (osFinM (fun _ : Unit => none) 0 0) yX10_remembers cX10_remembers 2 none [] { frames := 0, cells := 0, slots := 0, locals := 0 } 0 0 13 [(0, .ref l0), (1, .int l1)] [] (qX10_remembers_13 N (l0, l1)) :=
  osloop_W (lvf := fun p => [(0, .ref p.1), (1, .int p.2)]) (stf := fun p => []) (fun ih g p => tX10_remembers_13 N ih (fun l0 l1 => g (l0, l1)) p.1 p.2) N (l0, l1)
set_option maxRecDepth 100000 in
set_option maxHeartbeats 4000000 in
theorem sX10_remembers (N : Nat) (l0 : Nat) : osMet yX10_remembers cX10_remembers 2 none 0 0 0 0 (fun _ : Unit => none) [.ref l0] (qX10_remembers N l0) := by
  refine osMet.of plX10 (Nat.le_of_ble_eq_true rfl) (osW.rw (lv2 := [(0, .ref l0)]) ?_ rfl rfl rfl)
  unfold qX10_remembers
  refine os_aload_n (i := 0) (q := 0) (v := l0) 0 rfl rfl (hX10_remembers.at 0 rfl rfl) ?_
  refine os_getI fX10_92 (hX10_remembers.at 1 rfl rfl) (fun x1 => ?_)
  refine os_bipush (i := 6) (v := (6 : Int32)) rfl (hX10_remembers.at 2 rfl rfl) ?_
  refine os_icmp_ne (off := 46) (tgt := 52) rfl (hX10_remembers.at 3 rfl rfl) ?_ ?_
  · exact osW.sub [0] rfl (sX10_remembers_52 N l0)
  · refine os_sipush (i := 261) (v := (261 : Int32)) rfl (hX10_remembers.at 4 rfl rfl) ?_
    refine os_istore_n (i := 1) (q := 1) rfl (lv' := [(1, .int (261 : Int32)), (0, .ref l0)]) (Nat.le_of_ble_eq_true rfl) rfl (hX10_remembers.at 5 rfl rfl) ?_
    exact osW.sub [1, 0] rfl (sX10_remembers_13 N l0 (261 : Int32))
-- X10_undo
def KX10_undo : List (Nat × Nat × Instr) := [(0, 1, .aload_n 0), (1, 1, .aload_n 0), (2, 3, .getfield 92), (5, 3, .ifCond .ne 7), (8, 1, .iconst 1), (9, 3, .goto 4), (12, 1, .iconst 0), (13, 3, .invokevirtual 354), (16, 3, .ifCond .eq 5), (19, 1, .iconst 0), (20, 1, .ireturn), (21, 1, .aload_n 0), (22, 1, .aload_n 0), (23, 3, .getfield 92), (26, 1, .iconst 1), (27, 1, .isub), (28, 3, .putfield 92), (31, 1, .iconst 0), (32, 1, .istore_n 1), (33, 1, .iload_n 1), (34, 3, .sipush 261), (37, 3, .if_icmp .ge 30), (40, 1, .aload_n 0), (41, 3, .getfield 16), (44, 1, .iload_n 1), (45, 1, .aload_n 0), (46, 3, .getfield 22), (49, 3, .sipush 261), (52, 1, .aload_n 0), (53, 3, .getfield 92), (56, 1, .imul), (57, 1, .iload_n 1), (58, 1, .iadd), (59, 1, .iaload), (60, 1, .iastore), (61, 3, .iinc 1 1), (64, 3, .goto (-31)), (67, 1, .aload_n 0), (68, 3, .getfield 92), (71, 1, .ireturn)]
theorem hX10_undo : osDs cX10_undo KX10_undo := by
  show ∀ q ∈ KX10_undo, decode cX10_undo q.1 = .ok (q.2.2, q.2.1)
  decide +kernel
def bX10_undo_33 (N : Nat) (c33 : Nat × Int32 → osM Int32) (l0 : Nat) (l1 : Int32) : osM Int32 := osite ((261 : Int32) ≤ l1) (osbind (osgI [8] 8 l0) fun x1 => osret x1) (osbind (osgR [8] 3 l0) fun x2 => osbind (osgR [8] 5 l0) fun x3 => osbind (osgI [8] 8 l0) fun x4 => osbind (osaI 0 x3 (((261 : Int32) * x4) + l1)) fun x5 => osbind (ossI 0 x2 l1 x5) fun _ => c33 (l0, (l1 + (1 : Int32))))
def qX10_undo_33 (N : Nat) : Nat × Int32 → osM Int32 := osloop (fun ih p => bX10_undo_33 N ih p.1 p.2) N
def qX10_undo_13 (N : Nat) (l0 : Nat) (k0 : Int32) (k1 : Nat) : osM Int32 := osbind (osrecv [8] k1 (qX10_isRefused N k1 k0)) fun x1 => osite (x1 = 0) (osbind (osgI [8] 8 l0) fun x2 => osbind (osput [8] 8 l0 (.int (x2 - (1 : Int32)))) fun _ => qX10_undo_33 N (l0, (0 : Int32))) (osret (0 : Int32))
def qX10_undo (N : Nat) (l0 : Nat) : osM Int32 := osbind (osgI [8] 8 l0) fun x1 => osite (x1 = 0) (qX10_undo_13 N l0 (1 : Int32) l0) (qX10_undo_13 N l0 (0 : Int32) l0)
set_option maxRecDepth 100000 in
set_option maxHeartbeats 4000000 in
theorem tX10_undo_33 (N : Nat) (c33 : Nat × Int32 → osM Int32) (g33 : ∀ (l0 : Nat) (l1 : Int32), osW (osFinM (fun r : Int32 => some (.int r)) 0 0) yX10_undo cX10_undo 2 (some .int) [] { frames := 1, cells := 0, slots := 0, locals := 21 } 0 0 33 [(0, .ref l0), (1, .int l1)] [] (c33 (l0, l1))) (l0 : Nat) (l1 : Int32) : osW (osFinM (fun r : Int32 => some (.int r)) 0 0) yX10_undo cX10_undo 2 (some .int) [] { frames := 1, cells := 0, slots := 0, locals := 21 } 0 0 33 [(0, .ref l0), (1, .int l1)] [] (bX10_undo_33 N c33 l0 l1) := by
  unfold bX10_undo_33
  refine os_iload_n (i := 1) (q := 1) (v := l1) 1 rfl rfl (hX10_undo.at 19 rfl rfl) ?_
  refine os_sipush (i := 261) (v := (261 : Int32)) rfl (hX10_undo.at 20 rfl rfl) ?_
  refine os_icmp_ge (off := 30) (tgt := 67) rfl (hX10_undo.at 21 rfl rfl) ?_ ?_
  · refine os_aload_n (i := 0) (q := 0) (v := l0) 0 rfl rfl (hX10_undo.at 37 rfl rfl) ?_
    refine os_getI fX10_92 (hX10_undo.at 38 rfl rfl) (fun x1 => ?_)
    exact os_iret (Nat.le_of_ble_eq_true rfl) (Nat.le_of_ble_eq_true rfl) (hX10_undo.at 39 rfl rfl).1
  · refine os_aload_n (i := 0) (q := 0) (v := l0) 0 rfl rfl (hX10_undo.at 22 rfl rfl) ?_
    refine os_getR fX10_16 (hX10_undo.at 23 rfl rfl) (fun x2 => ?_)
    refine os_iload_n (i := 1) (q := 1) (v := l1) 1 rfl rfl (hX10_undo.at 24 rfl rfl) ?_
    refine os_aload_n (i := 0) (q := 0) (v := l0) 0 rfl rfl (hX10_undo.at 25 rfl rfl) ?_
    refine os_getR fX10_22 (hX10_undo.at 26 rfl rfl) (fun x3 => ?_)
    refine os_sipush (i := 261) (v := (261 : Int32)) rfl (hX10_undo.at 27 rfl rfl) ?_
    refine os_aload_n (i := 0) (q := 0) (v := l0) 0 rfl rfl (hX10_undo.at 28 rfl rfl) ?_
    refine os_getI fX10_92 (hX10_undo.at 29 rfl rfl) (fun x4 => ?_)
    refine os_imul (hX10_undo.at 30 rfl rfl) ?_
    refine os_iload_n (i := 1) (q := 1) (v := l1) 1 rfl rfl (hX10_undo.at 31 rfl rfl) ?_
    refine os_iadd (hX10_undo.at 32 rfl rfl) ?_
    refine os_iaload (hX10_undo.at 33 rfl rfl) (fun x5 => ?_)
    refine os_iastore (hX10_undo.at 34 rfl rfl) ?_
    refine os_iinc (i := 1) (d := 1) (x := l1) (v := (1 : Int32)) (lv' := [(1, .int (l1 + (1 : Int32))), (0, .ref l0)]) 1 rfl rfl (Nat.le_of_ble_eq_true rfl) rfl (hX10_undo.at 35 rfl rfl) ?_
    refine os_goto (off := (-31)) (tgt := 33) rfl (hX10_undo.at 36 rfl rfl) ?_
    exact osW.sub [1, 0] rfl (g33 l0 (l1 + (1 : Int32)))
set_option maxRecDepth 100000 in
set_option maxHeartbeats 4000000 in
theorem sX10_undo_33 (N : Nat) (l0 : Nat) (l1 : Int32) : osW (osFinM (fun r : Int32 => some (.int r)) 0 0) yX10_undo cX10_undo 2 (some .int) [] { frames := 1, cells := 0, slots := 0, locals := 21 } 0 0 33 [(0, .ref l0), (1, .int l1)] [] (qX10_undo_33 N (l0, l1)) :=
  osloop_W (lvf := fun p => [(0, .ref p.1), (1, .int p.2)]) (stf := fun p => []) (fun ih g p => tX10_undo_33 N ih (fun l0 l1 => g (l0, l1)) p.1 p.2) N (l0, l1)
set_option maxRecDepth 100000 in
set_option maxHeartbeats 4000000 in
theorem sX10_undo_13 (N : Nat) (l0 : Nat) (k0 : Int32) (k1 : Nat) : osW (osFinM (fun r : Int32 => some (.int r)) 0 0) yX10_undo cX10_undo 2 (some .int) [] { frames := 1, cells := 0, slots := 0, locals := 21 } 0 0 13 [(0, .ref l0)] [.int k0, .ref k1] (qX10_undo_13 N l0 k0 k1) := by
  unfold qX10_undo_13
  refine os_callV (cis := [8]) (b := k1) (As := [.int k0]) (st := []) (st' := (fun r => .int r :: [])) sl8_X10_isRefused_X10_isRefused mdX10_isRefused wd2017 wd2019 (sX10_isRefused N k1 k0) rfl rfl (fun _ => rfl) (Nat.le_of_ble_eq_true rfl) (Nat.le_of_ble_eq_true rfl) (Nat.le_of_ble_eq_true rfl) rfl (Nat.le_of_ble_eq_true rfl) rfl (Nat.le_of_ble_eq_true rfl) (hX10_undo.at 7 rfl rfl) (fun x1 => ?_)
  refine os_if_eq (off := 5) (tgt := 21) rfl (hX10_undo.at 8 rfl rfl) ?_ ?_
  · refine os_aload_n (i := 0) (q := 0) (v := l0) 0 rfl rfl (hX10_undo.at 11 rfl rfl) ?_
    refine os_aload_n (i := 0) (q := 0) (v := l0) 0 rfl rfl (hX10_undo.at 12 rfl rfl) ?_
    refine os_getI fX10_92 (hX10_undo.at 13 rfl rfl) (fun x2 => ?_)
    refine os_iconst (i := 1) (v := (1 : Int32)) rfl (hX10_undo.at 14 rfl rfl) ?_
    refine os_isub (hX10_undo.at 15 rfl rfl) ?_
    refine os_put fX10_92 rfl rfl (hX10_undo.at 16 rfl rfl) ?_
    refine os_iconst (i := 0) (v := (0 : Int32)) rfl (hX10_undo.at 17 rfl rfl) ?_
    refine os_istore_n (i := 1) (q := 1) rfl (lv' := [(1, .int (0 : Int32)), (0, .ref l0)]) (Nat.le_of_ble_eq_true rfl) rfl (hX10_undo.at 18 rfl rfl) ?_
    exact osW.sub [1, 0] rfl (sX10_undo_33 N l0 (0 : Int32))
  · refine os_iconst (i := 0) (v := (0 : Int32)) rfl (hX10_undo.at 9 rfl rfl) ?_
    exact os_iret (Nat.le_of_ble_eq_true rfl) (Nat.le_of_ble_eq_true rfl) (hX10_undo.at 10 rfl rfl).1
set_option maxRecDepth 100000 in
set_option maxHeartbeats 4000000 in
theorem sX10_undo (N : Nat) (l0 : Nat) : osMet yX10_undo cX10_undo 2 (some .int) 1 21 0 0 (fun r : Int32 => some (.int r)) [.ref l0] (qX10_undo N l0) := by
  refine osMet.of plX10 (Nat.le_of_ble_eq_true rfl) (osW.rw (lv2 := [(0, .ref l0)]) ?_ rfl rfl rfl)
  unfold qX10_undo
  refine os_aload_n (i := 0) (q := 0) (v := l0) 0 rfl rfl (hX10_undo.at 0 rfl rfl) ?_
  refine os_aload_n (i := 0) (q := 0) (v := l0) 0 rfl rfl (hX10_undo.at 1 rfl rfl) ?_
  refine os_getI fX10_92 (hX10_undo.at 2 rfl rfl) (fun x1 => ?_)
  refine os_if_ne (off := 7) (tgt := 12) rfl (hX10_undo.at 3 rfl rfl) ?_ ?_
  · refine os_iconst (i := 0) (v := (0 : Int32)) rfl (hX10_undo.at 6 rfl rfl) ?_
    exact osW.sub [0] rfl (sX10_undo_13 N l0 (0 : Int32) l0)
  · refine os_iconst (i := 1) (v := (1 : Int32)) rfl (hX10_undo.at 4 rfl rfl) ?_
    refine os_goto (off := 4) (tgt := 13) rfl (hX10_undo.at 5 rfl rfl) ?_
    exact osW.sub [0] rfl (sX10_undo_13 N l0 (1 : Int32) l0)
-- X10_undoCount
def KX10_undoCount : List (Nat × Nat × Instr) := [(0, 1, .aload_n 0), (1, 1, .aload_n 0), (2, 3, .getfield 92), (5, 3, .invokevirtual 152), (8, 1, .ireturn)]
theorem hX10_undoCount : osDs cX10_undoCount KX10_undoCount := by
  show ∀ q ∈ KX10_undoCount, decode cX10_undoCount q.1 = .ok (q.2.2, q.2.1)
  decide +kernel
def qX10_undoCount (N : Nat) (l0 : Nat) : osM Int32 := osbind (osgI [8] 8 l0) fun x1 => osbind (osrecv [8] l0 (qX10_told N l0 x1)) fun x2 => osret x2
set_option maxRecDepth 100000 in
set_option maxHeartbeats 4000000 in
theorem sX10_undoCount (N : Nat) (l0 : Nat) : osMet yX10_undoCount cX10_undoCount 1 (some .int) 1 21 0 0 (fun r : Int32 => some (.int r)) [.ref l0] (qX10_undoCount N l0) := by
  refine osMet.of plX10 (Nat.le_of_ble_eq_true rfl) (osW.rw (lv2 := [(0, .ref l0)]) ?_ rfl rfl rfl)
  unfold qX10_undoCount
  refine os_aload_n (i := 0) (q := 0) (v := l0) 0 rfl rfl (hX10_undoCount.at 0 rfl rfl) ?_
  refine os_aload_n (i := 0) (q := 0) (v := l0) 0 rfl rfl (hX10_undoCount.at 1 rfl rfl) ?_
  refine os_getI fX10_92 (hX10_undoCount.at 2 rfl rfl) (fun x1 => ?_)
  refine os_callV (cis := [8]) (b := l0) (As := [.int x1]) (st := []) (st' := (fun r => .int r :: [])) sl8_X10_told_X10_told mdX10_told wd1754 wd1756 (sX10_told N l0 x1) rfl rfl (fun _ => rfl) (Nat.le_of_ble_eq_true rfl) (Nat.le_of_ble_eq_true rfl) (Nat.le_of_ble_eq_true rfl) rfl (Nat.le_of_ble_eq_true rfl) rfl (Nat.le_of_ble_eq_true rfl) (hX10_undoCount.at 3 rfl rfl) (fun x2 => ?_)
  exact os_iret (Nat.le_of_ble_eq_true rfl) (Nat.le_of_ble_eq_true rfl) (hX10_undoCount.at 4 rfl rfl).1
-- X10_goesOn
def KX10_goesOn : List (Nat × Nat × Instr) := [(0, 1, .aload_n 0), (1, 3, .getfield 16), (4, 1, .iconst 0), (5, 1, .iconst 0), (6, 1, .iastore), (7, 1, .aload_n 0), (8, 3, .getfield 16), (11, 1, .iconst 1), (12, 1, .aload_n 0), (13, 3, .getfield 16), (16, 1, .iconst 1), (17, 1, .iaload), (18, 1, .iconst 1), (19, 1, .iadd), (20, 1, .iastore), (21, 1, .aload_n 0), (22, 3, .getfield 16), (25, 3, .invokestatic 85), (28, 1, .return_)]
theorem hX10_goesOn : osDs cX10_goesOn KX10_goesOn := by
  show ∀ q ∈ KX10_goesOn, decode cX10_goesOn q.1 = .ok (q.2.2, q.2.1)
  decide +kernel
def qX10_goesOn (N : Nat) (l0 : Nat) : osM Unit := osbind (osgR [8] 3 l0) fun x1 => osbind (ossI 0 x1 (0 : Int32) (0 : Int32)) fun _ => osbind (osgR [8] 3 l0) fun x2 => osbind (osgR [8] 3 l0) fun x3 => osbind (osaI 0 x3 (1 : Int32)) fun x4 => osbind (ossI 0 x2 (1 : Int32) (x4 + (1 : Int32))) fun _ => osbind (osgR [8] 3 l0) fun x5 => osbind (qX10_allHold N x5) fun _ => osret ()
set_option maxRecDepth 100000 in
set_option maxHeartbeats 4000000 in
theorem sX10_goesOn (N : Nat) (l0 : Nat) : osMet yX10_goesOn cX10_goesOn 1 none 1 21 0 0 (fun _ : Unit => none) [.ref l0] (qX10_goesOn N l0) := by
  refine osMet.of plX10 (Nat.le_of_ble_eq_true rfl) (osW.rw (lv2 := [(0, .ref l0)]) ?_ rfl rfl rfl)
  unfold qX10_goesOn
  refine os_aload_n (i := 0) (q := 0) (v := l0) 0 rfl rfl (hX10_goesOn.at 0 rfl rfl) ?_
  refine os_getR fX10_16 (hX10_goesOn.at 1 rfl rfl) (fun x1 => ?_)
  refine os_iconst (i := 0) (v := (0 : Int32)) rfl (hX10_goesOn.at 2 rfl rfl) ?_
  refine os_iconst (i := 0) (v := (0 : Int32)) rfl (hX10_goesOn.at 3 rfl rfl) ?_
  refine os_iastore (hX10_goesOn.at 4 rfl rfl) ?_
  refine os_aload_n (i := 0) (q := 0) (v := l0) 0 rfl rfl (hX10_goesOn.at 5 rfl rfl) ?_
  refine os_getR fX10_16 (hX10_goesOn.at 6 rfl rfl) (fun x2 => ?_)
  refine os_iconst (i := 1) (v := (1 : Int32)) rfl (hX10_goesOn.at 7 rfl rfl) ?_
  refine os_aload_n (i := 0) (q := 0) (v := l0) 0 rfl rfl (hX10_goesOn.at 8 rfl rfl) ?_
  refine os_getR fX10_16 (hX10_goesOn.at 9 rfl rfl) (fun x3 => ?_)
  refine os_iconst (i := 1) (v := (1 : Int32)) rfl (hX10_goesOn.at 10 rfl rfl) ?_
  refine os_iaload (hX10_goesOn.at 11 rfl rfl) (fun x4 => ?_)
  refine os_iconst (i := 1) (v := (1 : Int32)) rfl (hX10_goesOn.at 12 rfl rfl) ?_
  refine os_iadd (hX10_goesOn.at 13 rfl rfl) ?_
  refine os_iastore (hX10_goesOn.at 14 rfl rfl) ?_
  refine os_aload_n (i := 0) (q := 0) (v := l0) 0 rfl rfl (hX10_goesOn.at 15 rfl rfl) ?_
  refine os_getR fX10_16 (hX10_goesOn.at 16 rfl rfl) (fun x5 => ?_)
  refine os_callS (As := [.ref x5]) (st := []) (st' := (fun _ => [])) mdX10_allHold wd1591 wd1592 (sX10_allHold N x5) rfl rfl (fun _ => rfl) (Nat.le_of_ble_eq_true rfl) (Nat.le_of_ble_eq_true rfl) (Nat.le_of_ble_eq_true rfl) rfl (Nat.le_of_ble_eq_true rfl) rfl (Nat.le_of_ble_eq_true rfl) (hX10_goesOn.at 17 rfl rfl) (fun _ => ?_)
  exact os_vret (Nat.le_of_ble_eq_true rfl) (Nat.le_of_ble_eq_true rfl) (hX10_goesOn.at 18 rfl rfl).1
-- X10_endsTurn
def KX10_endsTurn : List (Nat × Nat × Instr) := [(0, 1, .aload_n 0), (1, 3, .getfield 16), (4, 1, .iconst 1), (5, 1, .iaload), (6, 1, .iconst 2), (7, 1, .irem), (8, 1, .iconst 1), (9, 3, .if_icmp .ne 8), (12, 1, .aload_n 0), (13, 3, .invokevirtual 456), (16, 1, .return_), (17, 1, .iconst 0), (18, 1, .istore_n 1), (19, 1, .iload_n 1), (20, 1, .aload_n 0), (21, 3, .getfield 7), (24, 1, .iconst 0), (25, 1, .iaload), (26, 3, .if_icmp .ge 61), (29, 1, .aload_n 0), (30, 3, .getfield 16), (33, 1, .iconst 5), (34, 1, .iload_n 1), (35, 1, .iadd), (36, 1, .aload_n 0), (37, 3, .getfield 7), (40, 2, .bipush 18), (42, 1, .iload_n 1), (43, 1, .iadd), (44, 1, .iaload), (45, 1, .iconst 1), (46, 3, .if_icmp .ne 26), (49, 1, .aload_n 0), (50, 3, .getfield 16), (53, 1, .iload_n 1), (54, 3, .invokestatic 103), (57, 3, .ifCond .eq 15), (60, 1, .aload_n 0), (61, 3, .getfield 16), (64, 2, .bipush 21), (66, 1, .iload_n 1), (67, 1, .iadd), (68, 1, .iaload), (69, 3, .goto 11), (72, 1, .aload_n 0), (73, 3, .getfield 16), (76, 1, .iconst 5), (77, 1, .iload_n 1), (78, 1, .iadd), (79, 1, .iaload), (80, 1, .iastore), (81, 3, .iinc 1 1), (84, 3, .goto (-65)), (87, 1, .iconst 0), (88, 1, .istore_n 1), (89, 1, .iconst 0), (90, 1, .istore_n 2), (91, 1, .iload_n 2), (92, 1, .aload_n 0), (93, 3, .getfield 7), (96, 1, .iconst 1), (97, 1, .iaload), (98, 3, .if_icmp .ge 31), (101, 1, .iload_n 1), (102, 3, .ifCond .ne 15), (105, 1, .aload_n 0), (106, 1, .aload_n 0), (107, 3, .getfield 16), (110, 1, .iload_n 2), (111, 3, .invokevirtual 324), (114, 3, .ifCond .eq 7), (117, 1, .iconst 1), (118, 3, .goto 4), (121, 1, .iconst 0), (122, 1, .istore_n 1), (123, 3, .iinc 2 1), (126, 3, .goto (-35)), (129, 1, .iload_n 1), (130, 3, .ifCond .eq 13), (133, 1, .aload_n 0), (134, 3, .getfield 16), (137, 1, .iconst 0), (138, 1, .iconst 2), (139, 1, .iastore), (140, 3, .goto 7), (143, 1, .aload_n 0), (144, 3, .invokevirtual 456), (147, 1, .return_)]
theorem hX10_endsTurn : osDs cX10_endsTurn KX10_endsTurn := by
  show ∀ q ∈ KX10_endsTurn, decode cX10_endsTurn q.1 = .ok (q.2.2, q.2.1)
  decide +kernel
def qX10_endsTurn_147 (N : Nat) : osM Unit := osret ()
def qX10_endsTurn_122 (N : Nat) (c91 : Nat × Int32 × Int32 → osM Unit) (l0 : Nat) (l2 : Int32) (k0 : Int32) : osM Unit := c91 (l0, k0, (l2 + (1 : Int32)))
def qX10_endsTurn_117 (N : Nat) (c91 : Nat × Int32 × Int32 → osM Unit) (l0 : Nat) (l2 : Int32) : osM Unit := qX10_endsTurn_122 N c91 l0 l2 (1 : Int32)
def bX10_endsTurn_91 (N : Nat) (c91 : Nat × Int32 × Int32 → osM Unit) (l0 : Nat) (l1 : Int32) (l2 : Int32) : osM Unit := osbind (osgR [8] 1 l0) fun x1 => osbind (osaI 0 x1 (1 : Int32)) fun x2 => osite (x2 ≤ l2) (osite (l1 = 0) (osbind (osrecv [8] l0 (qX10_goesOn N l0)) fun _ => qX10_endsTurn_147 N ) (osbind (osgR [8] 3 l0) fun x3 => osbind (ossI 0 x3 (0 : Int32) (2 : Int32)) fun _ => qX10_endsTurn_147 N )) (osite (l1 = 0) (osbind (osgR [8] 3 l0) fun x4 => osbind (osrecv [8] l0 (qX10_buildsOf N l0 x4 l2)) fun x5 => osite (x5 = 0) (qX10_endsTurn_122 N c91 l0 l2 (0 : Int32)) (qX10_endsTurn_117 N c91 l0 l2)) (qX10_endsTurn_117 N c91 l0 l2))
def qX10_endsTurn_91 (N : Nat) : Nat × Int32 × Int32 → osM Unit := osloop (fun ih p => bX10_endsTurn_91 N ih p.1 p.2.1 p.2.2) N
def qX10_endsTurn_80 (N : Nat) (c19 : Nat × Int32 → osM Unit) (l0 : Nat) (l1 : Int32) (k0 : Int32) (k1 : Int32) (k2 : Nat) : osM Unit := osbind (ossI 0 k2 k1 k0) fun _ => c19 (l0, (l1 + (1 : Int32)))
def qX10_endsTurn_72 (N : Nat) (c19 : Nat × Int32 → osM Unit) (l0 : Nat) (l1 : Int32) (k0 : Int32) (k1 : Nat) : osM Unit := osbind (osgR [8] 3 l0) fun x1 => osbind (osaI 0 x1 ((5 : Int32) + l1)) fun x2 => qX10_endsTurn_80 N c19 l0 l1 x2 k0 k1
def bX10_endsTurn_19 (N : Nat) (c19 : Nat × Int32 → osM Unit) (l0 : Nat) (l1 : Int32) : osM Unit := osbind (osgR [8] 1 l0) fun x1 => osbind (osaI 0 x1 (0 : Int32)) fun x2 => osite (x2 ≤ l1) (qX10_endsTurn_91 N (l0, (0 : Int32), (0 : Int32))) (osbind (osgR [8] 3 l0) fun x3 => osbind (osgR [8] 1 l0) fun x4 => osbind (osaI 0 x4 ((18 : Int32) + l1)) fun x5 => osite (x5 = (1 : Int32)) (osbind (osgR [8] 3 l0) fun x6 => osbind (qX10_isUnit N x6 l1) fun x7 => osite (x7 = 0) (qX10_endsTurn_72 N c19 l0 l1 ((5 : Int32) + l1) x3) (osbind (osgR [8] 3 l0) fun x8 => osbind (osaI 0 x8 ((21 : Int32) + l1)) fun x9 => qX10_endsTurn_80 N c19 l0 l1 x9 ((5 : Int32) + l1) x3)) (qX10_endsTurn_72 N c19 l0 l1 ((5 : Int32) + l1) x3))
def qX10_endsTurn_19 (N : Nat) : Nat × Int32 → osM Unit := osloop (fun ih p => bX10_endsTurn_19 N ih p.1 p.2) N
def qX10_endsTurn (N : Nat) (l0 : Nat) : osM Unit := osbind (osgR [8] 3 l0) fun x1 => osbind (osaI 0 x1 (1 : Int32)) fun x2 => osguard (¬ (2 : Int32) = 0) (osite ((x2 - x2 / (2 : Int32) * (2 : Int32)) = (1 : Int32)) (osbind (osrecv [8] l0 (qX10_goesOn N l0)) fun _ => osret ()) (qX10_endsTurn_19 N (l0, (0 : Int32))))
set_option maxRecDepth 100000 in
set_option maxHeartbeats 4000000 in
theorem sX10_endsTurn_147 (N : Nat) : osW (osFinM (fun _ : Unit => none) 0 0) yX10_endsTurn cX10_endsTurn 3 none [] { frames := 3, cells := 0, slots := 0, locals := 70 } 0 0 147 [] [] (qX10_endsTurn_147 N) := by
  unfold qX10_endsTurn_147
  exact os_vret (Nat.le_of_ble_eq_true rfl) (Nat.le_of_ble_eq_true rfl) (hX10_endsTurn.at 87 rfl rfl).1
set_option maxRecDepth 100000 in
set_option maxHeartbeats 4000000 in
theorem sX10_endsTurn_122 (N : Nat) (c91 : Nat × Int32 × Int32 → osM Unit) (g91 : ∀ (l0 : Nat) (l1 : Int32) (l2 : Int32), osW (osFinM (fun _ : Unit => none) 0 0) yX10_endsTurn cX10_endsTurn 3 none [] { frames := 3, cells := 0, slots := 0, locals := 70 } 0 0 91 [(0, .ref l0), (1, .int l1), (2, .int l2)] [] (c91 (l0, l1, l2))) (l0 : Nat) (l2 : Int32) (k0 : Int32) : osW (osFinM (fun _ : Unit => none) 0 0) yX10_endsTurn cX10_endsTurn 3 none [] { frames := 3, cells := 0, slots := 0, locals := 70 } 0 0 122 [(0, .ref l0), (2, .int l2)] [.int k0] (qX10_endsTurn_122 N c91 l0 l2 k0) := by
  unfold qX10_endsTurn_122
  refine os_istore_n (i := 1) (q := 1) rfl (lv' := [(1, .int k0), (0, .ref l0), (2, .int l2)]) (Nat.le_of_ble_eq_true rfl) rfl (hX10_endsTurn.at 74 rfl rfl) ?_
  refine os_iinc (i := 2) (d := 1) (x := l2) (v := (1 : Int32)) (lv' := [(2, .int (l2 + (1 : Int32))), (1, .int k0), (0, .ref l0)]) 2 rfl rfl (Nat.le_of_ble_eq_true rfl) rfl (hX10_endsTurn.at 75 rfl rfl) ?_
  refine os_goto (off := (-35)) (tgt := 91) rfl (hX10_endsTurn.at 76 rfl rfl) ?_
  exact osW.sub [2, 1, 0] rfl (g91 l0 k0 (l2 + (1 : Int32)))
set_option maxRecDepth 100000 in
set_option maxHeartbeats 4000000 in
theorem sX10_endsTurn_117 (N : Nat) (c91 : Nat × Int32 × Int32 → osM Unit) (g91 : ∀ (l0 : Nat) (l1 : Int32) (l2 : Int32), osW (osFinM (fun _ : Unit => none) 0 0) yX10_endsTurn cX10_endsTurn 3 none [] { frames := 3, cells := 0, slots := 0, locals := 70 } 0 0 91 [(0, .ref l0), (1, .int l1), (2, .int l2)] [] (c91 (l0, l1, l2))) (l0 : Nat) (l2 : Int32) : osW (osFinM (fun _ : Unit => none) 0 0) yX10_endsTurn cX10_endsTurn 3 none [] { frames := 3, cells := 0, slots := 0, locals := 70 } 0 0 117 [(0, .ref l0), (2, .int l2)] [] (qX10_endsTurn_117 N c91 l0 l2) := by
  unfold qX10_endsTurn_117
  refine os_iconst (i := 1) (v := (1 : Int32)) rfl (hX10_endsTurn.at 71 rfl rfl) ?_
  refine os_goto (off := 4) (tgt := 122) rfl (hX10_endsTurn.at 72 rfl rfl) ?_
  exact osW.sub [0, 1] rfl (sX10_endsTurn_122 N c91 g91 l0 l2 (1 : Int32))
set_option maxRecDepth 100000 in
set_option maxHeartbeats 4000000 in
theorem tX10_endsTurn_91 (N : Nat) (c91 : Nat × Int32 × Int32 → osM Unit) (g91 : ∀ (l0 : Nat) (l1 : Int32) (l2 : Int32), osW (osFinM (fun _ : Unit => none) 0 0) yX10_endsTurn cX10_endsTurn 3 none [] { frames := 3, cells := 0, slots := 0, locals := 70 } 0 0 91 [(0, .ref l0), (1, .int l1), (2, .int l2)] [] (c91 (l0, l1, l2))) (l0 : Nat) (l1 : Int32) (l2 : Int32) : osW (osFinM (fun _ : Unit => none) 0 0) yX10_endsTurn cX10_endsTurn 3 none [] { frames := 3, cells := 0, slots := 0, locals := 70 } 0 0 91 [(0, .ref l0), (1, .int l1), (2, .int l2)] [] (bX10_endsTurn_91 N c91 l0 l1 l2) := by
  unfold bX10_endsTurn_91
  refine os_iload_n (i := 2) (q := 2) (v := l2) 2 rfl rfl (hX10_endsTurn.at 57 rfl rfl) ?_
  refine os_aload_n (i := 0) (q := 0) (v := l0) 0 rfl rfl (hX10_endsTurn.at 58 rfl rfl) ?_
  refine os_getR fX10_7 (hX10_endsTurn.at 59 rfl rfl) (fun x1 => ?_)
  refine os_iconst (i := 1) (v := (1 : Int32)) rfl (hX10_endsTurn.at 60 rfl rfl) ?_
  refine os_iaload (hX10_endsTurn.at 61 rfl rfl) (fun x2 => ?_)
  refine os_icmp_ge (off := 31) (tgt := 129) rfl (hX10_endsTurn.at 62 rfl rfl) ?_ ?_
  · refine os_iload_n (i := 1) (q := 1) (v := l1) 1 rfl rfl (hX10_endsTurn.at 77 rfl rfl) ?_
    refine os_if_eq (off := 13) (tgt := 143) rfl (hX10_endsTurn.at 78 rfl rfl) ?_ ?_
    · refine os_aload_n (i := 0) (q := 0) (v := l0) 0 rfl rfl (hX10_endsTurn.at 85 rfl rfl) ?_
      refine os_callV (cis := [8]) (b := l0) (As := []) (st := []) (st' := (fun _ => [])) sl8_X10_goesOn_X10_goesOn mdX10_goesOn wd2177 wd2179 (sX10_goesOn N l0 ) rfl rfl (fun _ => rfl) (Nat.le_of_ble_eq_true rfl) (Nat.le_of_ble_eq_true rfl) (Nat.le_of_ble_eq_true rfl) rfl (Nat.le_of_ble_eq_true rfl) rfl (Nat.le_of_ble_eq_true rfl) (hX10_endsTurn.at 86 rfl rfl) (fun _ => ?_)
      exact osW.sub [] rfl (sX10_endsTurn_147 N )
    · refine os_aload_n (i := 0) (q := 0) (v := l0) 0 rfl rfl (hX10_endsTurn.at 79 rfl rfl) ?_
      refine os_getR fX10_16 (hX10_endsTurn.at 80 rfl rfl) (fun x3 => ?_)
      refine os_iconst (i := 0) (v := (0 : Int32)) rfl (hX10_endsTurn.at 81 rfl rfl) ?_
      refine os_iconst (i := 2) (v := (2 : Int32)) rfl (hX10_endsTurn.at 82 rfl rfl) ?_
      refine os_iastore (hX10_endsTurn.at 83 rfl rfl) ?_
      refine os_goto (off := 7) (tgt := 147) rfl (hX10_endsTurn.at 84 rfl rfl) ?_
      exact osW.sub [] rfl (sX10_endsTurn_147 N )
  · refine os_iload_n (i := 1) (q := 1) (v := l1) 1 rfl rfl (hX10_endsTurn.at 63 rfl rfl) ?_
    refine os_if_ne (off := 15) (tgt := 117) rfl (hX10_endsTurn.at 64 rfl rfl) ?_ ?_
    · exact osW.sub [0, 2] rfl (sX10_endsTurn_117 N c91 g91 l0 l2)
    · refine os_aload_n (i := 0) (q := 0) (v := l0) 0 rfl rfl (hX10_endsTurn.at 65 rfl rfl) ?_
      refine os_aload_n (i := 0) (q := 0) (v := l0) 0 rfl rfl (hX10_endsTurn.at 66 rfl rfl) ?_
      refine os_getR fX10_16 (hX10_endsTurn.at 67 rfl rfl) (fun x4 => ?_)
      refine os_iload_n (i := 2) (q := 2) (v := l2) 2 rfl rfl (hX10_endsTurn.at 68 rfl rfl) ?_
      refine os_callV (cis := [8]) (b := l0) (As := [.ref x4, .int l2]) (st := []) (st' := (fun r => .int r :: [])) sl8_X10_buildsOf_X10_buildsOf mdX10_buildsOf wd1986 wd1988 (sX10_buildsOf N l0 x4 l2) rfl rfl (fun _ => rfl) (Nat.le_of_ble_eq_true rfl) (Nat.le_of_ble_eq_true rfl) (Nat.le_of_ble_eq_true rfl) rfl (Nat.le_of_ble_eq_true rfl) rfl (Nat.le_of_ble_eq_true rfl) (hX10_endsTurn.at 69 rfl rfl) (fun x5 => ?_)
      refine os_if_eq (off := 7) (tgt := 121) rfl (hX10_endsTurn.at 70 rfl rfl) ?_ ?_
      · refine os_iconst (i := 0) (v := (0 : Int32)) rfl (hX10_endsTurn.at 73 rfl rfl) ?_
        exact osW.sub [0, 2] rfl (sX10_endsTurn_122 N c91 g91 l0 l2 (0 : Int32))
      · exact osW.sub [0, 2] rfl (sX10_endsTurn_117 N c91 g91 l0 l2)
set_option maxRecDepth 100000 in
set_option maxHeartbeats 4000000 in
theorem sX10_endsTurn_91 (N : Nat) (l0 : Nat) (l1 : Int32) (l2 : Int32) : osW (osFinM (fun _ : Unit => none) 0 0) yX10_endsTurn cX10_endsTurn 3 none [] { frames := 3, cells := 0, slots := 0, locals := 70 } 0 0 91 [(0, .ref l0), (1, .int l1), (2, .int l2)] [] (qX10_endsTurn_91 N (l0, l1, l2)) :=
  osloop_W (lvf := fun p => [(0, .ref p.1), (1, .int p.2.1), (2, .int p.2.2)]) (stf := fun p => []) (fun ih g p => tX10_endsTurn_91 N ih (fun l0 l1 l2 => g (l0, l1, l2)) p.1 p.2.1 p.2.2) N (l0, l1, l2)
set_option maxRecDepth 100000 in
set_option maxHeartbeats 4000000 in
theorem sX10_endsTurn_80 (N : Nat) (c19 : Nat × Int32 → osM Unit) (g19 : ∀ (l0 : Nat) (l1 : Int32), osW (osFinM (fun _ : Unit => none) 0 0) yX10_endsTurn cX10_endsTurn 3 none [] { frames := 3, cells := 0, slots := 0, locals := 70 } 0 0 19 [(0, .ref l0), (1, .int l1)] [] (c19 (l0, l1))) (l0 : Nat) (l1 : Int32) (k0 : Int32) (k1 : Int32) (k2 : Nat) : osW (osFinM (fun _ : Unit => none) 0 0) yX10_endsTurn cX10_endsTurn 3 none [] { frames := 3, cells := 0, slots := 0, locals := 70 } 0 0 80 [(0, .ref l0), (1, .int l1)] [.int k0, .int k1, .ref k2] (qX10_endsTurn_80 N c19 l0 l1 k0 k1 k2) := by
  unfold qX10_endsTurn_80
  refine os_iastore (hX10_endsTurn.at 50 rfl rfl) ?_
  refine os_iinc (i := 1) (d := 1) (x := l1) (v := (1 : Int32)) (lv' := [(1, .int (l1 + (1 : Int32))), (0, .ref l0)]) 1 rfl rfl (Nat.le_of_ble_eq_true rfl) rfl (hX10_endsTurn.at 51 rfl rfl) ?_
  refine os_goto (off := (-65)) (tgt := 19) rfl (hX10_endsTurn.at 52 rfl rfl) ?_
  exact osW.sub [1, 0] rfl (g19 l0 (l1 + (1 : Int32)))
set_option maxRecDepth 100000 in
set_option maxHeartbeats 4000000 in
theorem sX10_endsTurn_72 (N : Nat) (c19 : Nat × Int32 → osM Unit) (g19 : ∀ (l0 : Nat) (l1 : Int32), osW (osFinM (fun _ : Unit => none) 0 0) yX10_endsTurn cX10_endsTurn 3 none [] { frames := 3, cells := 0, slots := 0, locals := 70 } 0 0 19 [(0, .ref l0), (1, .int l1)] [] (c19 (l0, l1))) (l0 : Nat) (l1 : Int32) (k0 : Int32) (k1 : Nat) : osW (osFinM (fun _ : Unit => none) 0 0) yX10_endsTurn cX10_endsTurn 3 none [] { frames := 3, cells := 0, slots := 0, locals := 70 } 0 0 72 [(0, .ref l0), (1, .int l1)] [.int k0, .ref k1] (qX10_endsTurn_72 N c19 l0 l1 k0 k1) := by
  unfold qX10_endsTurn_72
  refine os_aload_n (i := 0) (q := 0) (v := l0) 0 rfl rfl (hX10_endsTurn.at 44 rfl rfl) ?_
  refine os_getR fX10_16 (hX10_endsTurn.at 45 rfl rfl) (fun x1 => ?_)
  refine os_iconst (i := 5) (v := (5 : Int32)) rfl (hX10_endsTurn.at 46 rfl rfl) ?_
  refine os_iload_n (i := 1) (q := 1) (v := l1) 1 rfl rfl (hX10_endsTurn.at 47 rfl rfl) ?_
  refine os_iadd (hX10_endsTurn.at 48 rfl rfl) ?_
  refine os_iaload (hX10_endsTurn.at 49 rfl rfl) (fun x2 => ?_)
  exact osW.sub [0, 1] rfl (sX10_endsTurn_80 N c19 g19 l0 l1 x2 k0 k1)
set_option maxRecDepth 100000 in
set_option maxHeartbeats 4000000 in
theorem tX10_endsTurn_19 (N : Nat) (c19 : Nat × Int32 → osM Unit) (g19 : ∀ (l0 : Nat) (l1 : Int32), osW (osFinM (fun _ : Unit => none) 0 0) yX10_endsTurn cX10_endsTurn 3 none [] { frames := 3, cells := 0, slots := 0, locals := 70 } 0 0 19 [(0, .ref l0), (1, .int l1)] [] (c19 (l0, l1))) (l0 : Nat) (l1 : Int32) : osW (osFinM (fun _ : Unit => none) 0 0) yX10_endsTurn cX10_endsTurn 3 none [] { frames := 3, cells := 0, slots := 0, locals := 70 } 0 0 19 [(0, .ref l0), (1, .int l1)] [] (bX10_endsTurn_19 N c19 l0 l1) := by
  unfold bX10_endsTurn_19
  refine os_iload_n (i := 1) (q := 1) (v := l1) 1 rfl rfl (hX10_endsTurn.at 13 rfl rfl) ?_
  refine os_aload_n (i := 0) (q := 0) (v := l0) 0 rfl rfl (hX10_endsTurn.at 14 rfl rfl) ?_
  refine os_getR fX10_7 (hX10_endsTurn.at 15 rfl rfl) (fun x1 => ?_)
  refine os_iconst (i := 0) (v := (0 : Int32)) rfl (hX10_endsTurn.at 16 rfl rfl) ?_
  refine os_iaload (hX10_endsTurn.at 17 rfl rfl) (fun x2 => ?_)
  refine os_icmp_ge (off := 61) (tgt := 87) rfl (hX10_endsTurn.at 18 rfl rfl) ?_ ?_
  · refine os_iconst (i := 0) (v := (0 : Int32)) rfl (hX10_endsTurn.at 53 rfl rfl) ?_
    refine os_istore_n (i := 1) (q := 1) rfl (lv' := [(1, .int (0 : Int32)), (0, .ref l0)]) (Nat.le_of_ble_eq_true rfl) rfl (hX10_endsTurn.at 54 rfl rfl) ?_
    refine os_iconst (i := 0) (v := (0 : Int32)) rfl (hX10_endsTurn.at 55 rfl rfl) ?_
    refine os_istore_n (i := 2) (q := 2) rfl (lv' := [(2, .int (0 : Int32)), (1, .int (0 : Int32)), (0, .ref l0)]) (Nat.le_of_ble_eq_true rfl) rfl (hX10_endsTurn.at 56 rfl rfl) ?_
    exact osW.sub [2, 1, 0] rfl (sX10_endsTurn_91 N l0 (0 : Int32) (0 : Int32))
  · refine os_aload_n (i := 0) (q := 0) (v := l0) 0 rfl rfl (hX10_endsTurn.at 19 rfl rfl) ?_
    refine os_getR fX10_16 (hX10_endsTurn.at 20 rfl rfl) (fun x3 => ?_)
    refine os_iconst (i := 5) (v := (5 : Int32)) rfl (hX10_endsTurn.at 21 rfl rfl) ?_
    refine os_iload_n (i := 1) (q := 1) (v := l1) 1 rfl rfl (hX10_endsTurn.at 22 rfl rfl) ?_
    refine os_iadd (hX10_endsTurn.at 23 rfl rfl) ?_
    refine os_aload_n (i := 0) (q := 0) (v := l0) 0 rfl rfl (hX10_endsTurn.at 24 rfl rfl) ?_
    refine os_getR fX10_7 (hX10_endsTurn.at 25 rfl rfl) (fun x4 => ?_)
    refine os_bipush (i := 18) (v := (18 : Int32)) rfl (hX10_endsTurn.at 26 rfl rfl) ?_
    refine os_iload_n (i := 1) (q := 1) (v := l1) 1 rfl rfl (hX10_endsTurn.at 27 rfl rfl) ?_
    refine os_iadd (hX10_endsTurn.at 28 rfl rfl) ?_
    refine os_iaload (hX10_endsTurn.at 29 rfl rfl) (fun x5 => ?_)
    refine os_iconst (i := 1) (v := (1 : Int32)) rfl (hX10_endsTurn.at 30 rfl rfl) ?_
    refine os_icmp_ne (off := 26) (tgt := 72) rfl (hX10_endsTurn.at 31 rfl rfl) ?_ ?_
    · exact osW.sub [0, 1] rfl (sX10_endsTurn_72 N c19 g19 l0 l1 ((5 : Int32) + l1) x3)
    · refine os_aload_n (i := 0) (q := 0) (v := l0) 0 rfl rfl (hX10_endsTurn.at 32 rfl rfl) ?_
      refine os_getR fX10_16 (hX10_endsTurn.at 33 rfl rfl) (fun x6 => ?_)
      refine os_iload_n (i := 1) (q := 1) (v := l1) 1 rfl rfl (hX10_endsTurn.at 34 rfl rfl) ?_
      refine os_callS (As := [.ref x6, .int l1]) (st := [.int ((5 : Int32) + l1), .ref x3]) (st' := (fun r => .int r :: [.int ((5 : Int32) + l1), .ref x3])) mdX10_isUnit wd1879 wd1880 (sX10_isUnit N x6 l1) rfl rfl (fun _ => rfl) (Nat.le_of_ble_eq_true rfl) (Nat.le_of_ble_eq_true rfl) (Nat.le_of_ble_eq_true rfl) rfl (Nat.le_of_ble_eq_true rfl) rfl (Nat.le_of_ble_eq_true rfl) (hX10_endsTurn.at 35 rfl rfl) (fun x7 => ?_)
      refine os_if_eq (off := 15) (tgt := 72) rfl (hX10_endsTurn.at 36 rfl rfl) ?_ ?_
      · exact osW.sub [0, 1] rfl (sX10_endsTurn_72 N c19 g19 l0 l1 ((5 : Int32) + l1) x3)
      · refine os_aload_n (i := 0) (q := 0) (v := l0) 0 rfl rfl (hX10_endsTurn.at 37 rfl rfl) ?_
        refine os_getR fX10_16 (hX10_endsTurn.at 38 rfl rfl) (fun x8 => ?_)
        refine os_bipush (i := 21) (v := (21 : Int32)) rfl (hX10_endsTurn.at 39 rfl rfl) ?_
        refine os_iload_n (i := 1) (q := 1) (v := l1) 1 rfl rfl (hX10_endsTurn.at 40 rfl rfl) ?_
        refine os_iadd (hX10_endsTurn.at 41 rfl rfl) ?_
        refine os_iaload (hX10_endsTurn.at 42 rfl rfl) (fun x9 => ?_)
        refine os_goto (off := 11) (tgt := 80) rfl (hX10_endsTurn.at 43 rfl rfl) ?_
        exact osW.sub [0, 1] rfl (sX10_endsTurn_80 N c19 g19 l0 l1 x9 ((5 : Int32) + l1) x3)
set_option maxRecDepth 100000 in
set_option maxHeartbeats 4000000 in
theorem sX10_endsTurn_19 (N : Nat) (l0 : Nat) (l1 : Int32) : osW (osFinM (fun _ : Unit => none) 0 0) yX10_endsTurn cX10_endsTurn 3 none [] { frames := 3, cells := 0, slots := 0, locals := 70 } 0 0 19 [(0, .ref l0), (1, .int l1)] [] (qX10_endsTurn_19 N (l0, l1)) :=
  osloop_W (lvf := fun p => [(0, .ref p.1), (1, .int p.2)]) (stf := fun p => []) (fun ih g p => tX10_endsTurn_19 N ih (fun l0 l1 => g (l0, l1)) p.1 p.2) N (l0, l1)
set_option maxRecDepth 100000 in
set_option maxHeartbeats 4000000 in
theorem sX10_endsTurn (N : Nat) (l0 : Nat) : osMet yX10_endsTurn cX10_endsTurn 3 none 3 70 0 0 (fun _ : Unit => none) [.ref l0] (qX10_endsTurn N l0) := by
  refine osMet.of plX10 (Nat.le_of_ble_eq_true rfl) (osW.rw (lv2 := [(0, .ref l0)]) ?_ rfl rfl rfl)
  unfold qX10_endsTurn
  refine os_aload_n (i := 0) (q := 0) (v := l0) 0 rfl rfl (hX10_endsTurn.at 0 rfl rfl) ?_
  refine os_getR fX10_16 (hX10_endsTurn.at 1 rfl rfl) (fun x1 => ?_)
  refine os_iconst (i := 1) (v := (1 : Int32)) rfl (hX10_endsTurn.at 2 rfl rfl) ?_
  refine os_iaload (hX10_endsTurn.at 3 rfl rfl) (fun x2 => ?_)
  refine os_iconst (i := 2) (v := (2 : Int32)) rfl (hX10_endsTurn.at 4 rfl rfl) ?_
  refine os_guard (fun h3 => ?_)
  refine os_irem h3 (hX10_endsTurn.at 5 rfl rfl) ?_
  refine os_iconst (i := 1) (v := (1 : Int32)) rfl (hX10_endsTurn.at 6 rfl rfl) ?_
  refine os_icmp_ne (off := 8) (tgt := 17) rfl (hX10_endsTurn.at 7 rfl rfl) ?_ ?_
  · refine os_iconst (i := 0) (v := (0 : Int32)) rfl (hX10_endsTurn.at 11 rfl rfl) ?_
    refine os_istore_n (i := 1) (q := 1) rfl (lv' := [(1, .int (0 : Int32)), (0, .ref l0)]) (Nat.le_of_ble_eq_true rfl) rfl (hX10_endsTurn.at 12 rfl rfl) ?_
    exact osW.sub [1, 0] rfl (sX10_endsTurn_19 N l0 (0 : Int32))
  · refine os_aload_n (i := 0) (q := 0) (v := l0) 0 rfl rfl (hX10_endsTurn.at 8 rfl rfl) ?_
    refine os_callV (cis := [8]) (b := l0) (As := []) (st := []) (st' := (fun _ => [])) sl8_X10_goesOn_X10_goesOn mdX10_goesOn wd2177 wd2179 (sX10_goesOn N l0 ) rfl rfl (fun _ => rfl) (Nat.le_of_ble_eq_true rfl) (Nat.le_of_ble_eq_true rfl) (Nat.le_of_ble_eq_true rfl) rfl (Nat.le_of_ble_eq_true rfl) rfl (Nat.le_of_ble_eq_true rfl) (hX10_endsTurn.at 9 rfl rfl) (fun _ => ?_)
    exact os_vret (Nat.le_of_ble_eq_true rfl) (Nat.le_of_ble_eq_true rfl) (hX10_endsTurn.at 10 rfl rfl).1
-- X10_leads
def KX10_leads : List (Nat × Nat × Instr) := [(0, 1, .iconst 0), (1, 1, .istore_n 1), (2, 1, .iload_n 1), (3, 2, .bipush 16), (5, 3, .if_icmp .ge 149), (8, 1, .aload_n 0), (9, 3, .getfield 67), (12, 1, .iload_n 1), (13, 1, .aload_n 0), (14, 3, .getfield 16), (17, 1, .iload_n 1), (18, 3, .invokestatic 103), (21, 3, .ifCond .eq 39), (24, 1, .aload_n 0), (25, 3, .getfield 380), (28, 1, .iload_n 1), (29, 3, .invokestatic 111), (32, 3, .ifCond .ne 28), (35, 1, .aload_n 0), (36, 1, .aload_n 0), (37, 3, .getfield 48), (40, 1, .iload_n 1), (41, 1, .iaload), (42, 3, .invokevirtual 383), (45, 3, .ifCond .ne 15), (48, 1, .aload_n 0), (49, 3, .getfield 16), (52, 2, .bipush 21), (54, 1, .iload_n 1), (55, 1, .iadd), (56, 1, .iaload), (57, 3, .goto 4), (60, 1, .iconst (-1)), (61, 1, .iastore), (62, 1, .aload_n 0), (63, 3, .getfield 70), (66, 1, .iload_n 1), (67, 1, .aload_n 0), (68, 3, .getfield 16), (71, 2, .bipush 37), (73, 1, .iload_n 1), (74, 1, .iadd), (75, 1, .iaload), (76, 1, .iastore), (77, 1, .aload_n 0), (78, 3, .getfield 16), (81, 2, .bipush 53), (83, 1, .iload_n 1), (84, 1, .iadd), (85, 1, .aload_n 0), (86, 3, .getfield 380), (89, 1, .iload_n 1), (90, 3, .invokestatic 111), (93, 3, .ifCond .eq 15), (96, 1, .aload_n 0), (97, 3, .getfield 16), (100, 2, .bipush 21), (102, 1, .iload_n 1), (103, 1, .iadd), (104, 1, .iaload), (105, 3, .goto 4), (108, 1, .iconst (-1)), (109, 1, .iastore), (110, 1, .aload_n 0), (111, 3, .getfield 16), (114, 2, .bipush 69), (116, 1, .iload_n 1), (117, 1, .iadd), (118, 1, .aload_n 0), (119, 3, .getfield 16), (122, 2, .bipush 37), (124, 1, .iload_n 1), (125, 1, .iadd), (126, 1, .iaload), (127, 1, .iastore), (128, 1, .aload_n 0), (129, 3, .getfield 16), (132, 2, .bipush 85), (134, 1, .iload_n 1), (135, 1, .iadd), (136, 1, .iconst (-1)), (137, 1, .iastore), (138, 1, .aload_n 0), (139, 3, .getfield 16), (142, 2, .bipush 101), (144, 1, .iload_n 1), (145, 1, .iadd), (146, 1, .iconst (-1)), (147, 1, .iastore), (148, 3, .iinc 1 1), (151, 3, .goto (-149)), (154, 1, .iconst 0), (155, 1, .istore_n 1), (156, 1, .iload_n 1), (157, 1, .aload_n 0), (158, 3, .getfield 371), (161, 3, .if_icmp .ge 106), (164, 1, .aload_n 0), (165, 3, .getfield 374), (168, 1, .iload_n 1), (169, 3, .invokestatic 111), (172, 3, .ifCond .ne 6), (175, 3, .goto 86), (178, 1, .aload_n 0), (179, 3, .getfield 67), (182, 1, .aload_n 0), (183, 3, .getfield 42), (186, 1, .iload_n 1), (187, 1, .iaload), (188, 1, .aload_n 0), (189, 3, .getfield 16), (192, 2, .bipush 21), (194, 1, .aload_n 0), (195, 3, .getfield 39), (198, 1, .iload_n 1), (199, 1, .iaload), (200, 1, .iadd), (201, 1, .iaload), (202, 1, .iastore), (203, 1, .aload_n 0), (204, 3, .getfield 70), (207, 1, .aload_n 0), (208, 3, .getfield 42), (211, 1, .iload_n 1), (212, 1, .iaload), (213, 1, .aload_n 0), (214, 3, .getfield 16), (217, 2, .bipush 37), (219, 1, .aload_n 0), (220, 3, .getfield 39), (223, 1, .iload_n 1), (224, 1, .iaload), (225, 1, .iadd), (226, 1, .iaload), (227, 1, .iastore), (228, 1, .aload_n 0), (229, 3, .getfield 16), (232, 2, .bipush 85), (234, 1, .aload_n 0), (235, 3, .getfield 42), (238, 1, .iload_n 1), (239, 1, .iaload), (240, 1, .iadd), (241, 1, .aload_n 0), (242, 3, .getfield 51), (245, 1, .iload_n 1), (246, 1, .baload), (247, 3, .ifCond .eq 7), (250, 1, .iconst (-1)), (251, 3, .goto 9), (254, 1, .aload_n 0), (255, 3, .getfield 39), (258, 1, .iload_n 1), (259, 1, .iaload), (260, 1, .iastore), (261, 3, .iinc 1 1), (264, 3, .goto (-108)), (267, 1, .iconst 0), (268, 1, .istore_n 1), (269, 1, .iload_n 1), (270, 2, .bipush 16), (272, 3, .if_icmp .ge 39), (275, 1, .aload_n 0), (276, 3, .getfield 16), (279, 2, .bipush 21), (281, 1, .iload_n 1), (282, 1, .iadd), (283, 1, .aload_n 0), (284, 3, .getfield 67), (287, 1, .iload_n 1), (288, 1, .iaload), (289, 1, .iastore), (290, 1, .aload_n 0), (291, 3, .getfield 16), (294, 2, .bipush 37), (296, 1, .iload_n 1), (297, 1, .iadd), (298, 1, .aload_n 0), (299, 3, .getfield 70), (302, 1, .iload_n 1), (303, 1, .iaload), (304, 1, .iastore), (305, 3, .iinc 1 1), (308, 3, .goto (-39)), (311, 1, .return_)]
theorem hX10_leads : osDs cX10_leads KX10_leads := by
  show ∀ q ∈ KX10_leads, decode cX10_leads q.1 = .ok (q.2.2, q.2.1)
  decide +kernel
def bX10_leads_269 (N : Nat) (c269 : Nat × Int32 → osM Unit) (l0 : Nat) (l1 : Int32) : osM Unit := osite ((16 : Int32) ≤ l1) (osret ()) (osbind (osgR [8] 3 l0) fun x1 => osbind (osgR [8] 39 l0) fun x2 => osbind (osaI 0 x2 l1) fun x3 => osbind (ossI 0 x1 ((21 : Int32) + l1) x3) fun _ => osbind (osgR [8] 3 l0) fun x4 => osbind (osgR [8] 40 l0) fun x5 => osbind (osaI 0 x5 l1) fun x6 => osbind (ossI 0 x4 ((37 : Int32) + l1) x6) fun _ => c269 (l0, (l1 + (1 : Int32))))
def qX10_leads_269 (N : Nat) : Nat × Int32 → osM Unit := osloop (fun ih p => bX10_leads_269 N ih p.1 p.2) N
def qX10_leads_261 (N : Nat) (c156 : Nat × Int32 → osM Unit) (l0 : Nat) (l1 : Int32) : osM Unit := c156 (l0, (l1 + (1 : Int32)))
def qX10_leads_260 (N : Nat) (c156 : Nat × Int32 → osM Unit) (l0 : Nat) (l1 : Int32) (k0 : Int32) (k1 : Int32) (k2 : Nat) : osM Unit := osbind (ossI 0 k2 k1 k0) fun _ => qX10_leads_261 N c156 l0 l1
def bX10_leads_156 (N : Nat) (c156 : Nat × Int32 → osM Unit) (l0 : Nat) (l1 : Int32) : osM Unit := osbind (osgI [8] 26 l0) fun x1 => osite (x1 ≤ l1) (qX10_leads_269 N (l0, (0 : Int32))) (osbind (osgI [8] 28 l0) fun x2 => osbind (qX10_has N x2 l1) fun x3 => osite (x3 = 0) (qX10_leads_261 N c156 l0 l1) (osbind (osgR [8] 39 l0) fun x4 => osbind (osgR [8] 22 l0) fun x5 => osbind (osaI 0 x5 l1) fun x6 => osbind (osgR [8] 3 l0) fun x7 => osbind (osgR [8] 21 l0) fun x8 => osbind (osaI 0 x8 l1) fun x9 => osbind (osaI 0 x7 ((21 : Int32) + x9)) fun x10 => osbind (ossI 0 x4 x6 x10) fun _ => osbind (osgR [8] 40 l0) fun x11 => osbind (osgR [8] 22 l0) fun x12 => osbind (osaI 0 x12 l1) fun x13 => osbind (osgR [8] 3 l0) fun x14 => osbind (osgR [8] 21 l0) fun x15 => osbind (osaI 0 x15 l1) fun x16 => osbind (osaI 0 x14 ((37 : Int32) + x16)) fun x17 => osbind (ossI 0 x11 x13 x17) fun _ => osbind (osgR [8] 3 l0) fun x18 => osbind (osgR [8] 22 l0) fun x19 => osbind (osaI 0 x19 l1) fun x20 => osbind (osgR [8] 25 l0) fun x21 => osbind (osaI 3 x21 l1) fun x22 => osite (x22 = 0) (osbind (osgR [8] 21 l0) fun x23 => osbind (osaI 0 x23 l1) fun x24 => qX10_leads_260 N c156 l0 l1 x24 ((85 : Int32) + x20) x18) (qX10_leads_260 N c156 l0 l1 (-1 : Int32) ((85 : Int32) + x20) x18)))
def qX10_leads_156 (N : Nat) : Nat × Int32 → osM Unit := osloop (fun ih p => bX10_leads_156 N ih p.1 p.2) N
def qX10_leads_109 (N : Nat) (c2 : Nat × Int32 → osM Unit) (l0 : Nat) (l1 : Int32) (k0 : Int32) (k1 : Int32) (k2 : Nat) : osM Unit := osbind (ossI 0 k2 k1 k0) fun _ => osbind (osgR [8] 3 l0) fun x1 => osbind (osgR [8] 3 l0) fun x2 => osbind (osaI 0 x2 ((37 : Int32) + l1)) fun x3 => osbind (ossI 0 x1 ((69 : Int32) + l1) x3) fun _ => osbind (osgR [8] 3 l0) fun x4 => osbind (ossI 0 x4 ((85 : Int32) + l1) (-1 : Int32)) fun _ => osbind (osgR [8] 3 l0) fun x5 => osbind (ossI 0 x5 ((101 : Int32) + l1) (-1 : Int32)) fun _ => c2 (l0, (l1 + (1 : Int32)))
def qX10_leads_61 (N : Nat) (c2 : Nat × Int32 → osM Unit) (l0 : Nat) (l1 : Int32) (k0 : Int32) (k1 : Int32) (k2 : Nat) : osM Unit := osbind (ossI 0 k2 k1 k0) fun _ => osbind (osgR [8] 40 l0) fun x1 => osbind (osgR [8] 3 l0) fun x2 => osbind (osaI 0 x2 ((37 : Int32) + l1)) fun x3 => osbind (ossI 0 x1 l1 x3) fun _ => osbind (osgR [8] 3 l0) fun x4 => osbind (osgI [8] 29 l0) fun x5 => osbind (qX10_has N x5 l1) fun x6 => osite (x6 = 0) (qX10_leads_109 N c2 l0 l1 (-1 : Int32) ((53 : Int32) + l1) x4) (osbind (osgR [8] 3 l0) fun x7 => osbind (osaI 0 x7 ((21 : Int32) + l1)) fun x8 => qX10_leads_109 N c2 l0 l1 x8 ((53 : Int32) + l1) x4)
def qX10_leads_60 (N : Nat) (c2 : Nat × Int32 → osM Unit) (l0 : Nat) (l1 : Int32) (k0 : Int32) (k1 : Nat) : osM Unit := qX10_leads_61 N c2 l0 l1 (-1 : Int32) k0 k1
def bX10_leads_2 (N : Nat) (c2 : Nat × Int32 → osM Unit) (l0 : Nat) (l1 : Int32) : osM Unit := osite ((16 : Int32) ≤ l1) (qX10_leads_156 N (l0, (0 : Int32))) (osbind (osgR [8] 39 l0) fun x1 => osbind (osgR [8] 3 l0) fun x2 => osbind (qX10_isUnit N x2 l1) fun x3 => osite (x3 = 0) (qX10_leads_60 N c2 l0 l1 l1 x1) (osbind (osgI [8] 29 l0) fun x4 => osbind (qX10_has N x4 l1) fun x5 => osite (x5 = 0) (osbind (osgR [8] 24 l0) fun x6 => osbind (osaI 0 x6 l1) fun x7 => osbind (osrecv [8] l0 (qX10_succeeds N l0 x7)) fun x8 => osite (x8 = 0) (osbind (osgR [8] 3 l0) fun x9 => osbind (osaI 0 x9 ((21 : Int32) + l1)) fun x10 => qX10_leads_61 N c2 l0 l1 x10 l1 x1) (qX10_leads_60 N c2 l0 l1 l1 x1)) (qX10_leads_60 N c2 l0 l1 l1 x1)))
def qX10_leads_2 (N : Nat) : Nat × Int32 → osM Unit := osloop (fun ih p => bX10_leads_2 N ih p.1 p.2) N
def qX10_leads (N : Nat) (l0 : Nat) : osM Unit := qX10_leads_2 N (l0, (0 : Int32))
set_option maxRecDepth 100000 in
set_option maxHeartbeats 4000000 in
theorem tX10_leads_269 (N : Nat) (c269 : Nat × Int32 → osM Unit) (g269 : ∀ (l0 : Nat) (l1 : Int32), osW (osFinM (fun _ : Unit => none) 0 0) yX10_leads cX10_leads 2 none [] { frames := 2, cells := 0, slots := 0, locals := 42 } 0 0 269 [(0, .ref l0), (1, .int l1)] [] (c269 (l0, l1))) (l0 : Nat) (l1 : Int32) : osW (osFinM (fun _ : Unit => none) 0 0) yX10_leads cX10_leads 2 none [] { frames := 2, cells := 0, slots := 0, locals := 42 } 0 0 269 [(0, .ref l0), (1, .int l1)] [] (bX10_leads_269 N c269 l0 l1) := by
  unfold bX10_leads_269
  refine os_iload_n (i := 1) (q := 1) (v := l1) 1 rfl rfl (hX10_leads.at 159 rfl rfl) ?_
  refine os_bipush (i := 16) (v := (16 : Int32)) rfl (hX10_leads.at 160 rfl rfl) ?_
  refine os_icmp_ge (off := 39) (tgt := 311) rfl (hX10_leads.at 161 rfl rfl) ?_ ?_
  · exact os_vret (Nat.le_of_ble_eq_true rfl) (Nat.le_of_ble_eq_true rfl) (hX10_leads.at 184 rfl rfl).1
  · refine os_aload_n (i := 0) (q := 0) (v := l0) 0 rfl rfl (hX10_leads.at 162 rfl rfl) ?_
    refine os_getR fX10_16 (hX10_leads.at 163 rfl rfl) (fun x1 => ?_)
    refine os_bipush (i := 21) (v := (21 : Int32)) rfl (hX10_leads.at 164 rfl rfl) ?_
    refine os_iload_n (i := 1) (q := 1) (v := l1) 1 rfl rfl (hX10_leads.at 165 rfl rfl) ?_
    refine os_iadd (hX10_leads.at 166 rfl rfl) ?_
    refine os_aload_n (i := 0) (q := 0) (v := l0) 0 rfl rfl (hX10_leads.at 167 rfl rfl) ?_
    refine os_getR fX10_67 (hX10_leads.at 168 rfl rfl) (fun x2 => ?_)
    refine os_iload_n (i := 1) (q := 1) (v := l1) 1 rfl rfl (hX10_leads.at 169 rfl rfl) ?_
    refine os_iaload (hX10_leads.at 170 rfl rfl) (fun x3 => ?_)
    refine os_iastore (hX10_leads.at 171 rfl rfl) ?_
    refine os_aload_n (i := 0) (q := 0) (v := l0) 0 rfl rfl (hX10_leads.at 172 rfl rfl) ?_
    refine os_getR fX10_16 (hX10_leads.at 173 rfl rfl) (fun x4 => ?_)
    refine os_bipush (i := 37) (v := (37 : Int32)) rfl (hX10_leads.at 174 rfl rfl) ?_
    refine os_iload_n (i := 1) (q := 1) (v := l1) 1 rfl rfl (hX10_leads.at 175 rfl rfl) ?_
    refine os_iadd (hX10_leads.at 176 rfl rfl) ?_
    refine os_aload_n (i := 0) (q := 0) (v := l0) 0 rfl rfl (hX10_leads.at 177 rfl rfl) ?_
    refine os_getR fX10_70 (hX10_leads.at 178 rfl rfl) (fun x5 => ?_)
    refine os_iload_n (i := 1) (q := 1) (v := l1) 1 rfl rfl (hX10_leads.at 179 rfl rfl) ?_
    refine os_iaload (hX10_leads.at 180 rfl rfl) (fun x6 => ?_)
    refine os_iastore (hX10_leads.at 181 rfl rfl) ?_
    refine os_iinc (i := 1) (d := 1) (x := l1) (v := (1 : Int32)) (lv' := [(1, .int (l1 + (1 : Int32))), (0, .ref l0)]) 1 rfl rfl (Nat.le_of_ble_eq_true rfl) rfl (hX10_leads.at 182 rfl rfl) ?_
    refine os_goto (off := (-39)) (tgt := 269) rfl (hX10_leads.at 183 rfl rfl) ?_
    exact osW.sub [1, 0] rfl (g269 l0 (l1 + (1 : Int32)))
set_option maxRecDepth 100000 in
set_option maxHeartbeats 4000000 in
theorem sX10_leads_269 (N : Nat) (l0 : Nat) (l1 : Int32) : osW (osFinM (fun _ : Unit => none) 0 0) yX10_leads cX10_leads 2 none [] { frames := 2, cells := 0, slots := 0, locals := 42 } 0 0 269 [(0, .ref l0), (1, .int l1)] [] (qX10_leads_269 N (l0, l1)) :=
  osloop_W (lvf := fun p => [(0, .ref p.1), (1, .int p.2)]) (stf := fun p => []) (fun ih g p => tX10_leads_269 N ih (fun l0 l1 => g (l0, l1)) p.1 p.2) N (l0, l1)
set_option maxRecDepth 100000 in
set_option maxHeartbeats 4000000 in
theorem sX10_leads_261 (N : Nat) (c156 : Nat × Int32 → osM Unit) (g156 : ∀ (l0 : Nat) (l1 : Int32), osW (osFinM (fun _ : Unit => none) 0 0) yX10_leads cX10_leads 2 none [] { frames := 2, cells := 0, slots := 0, locals := 42 } 0 0 156 [(0, .ref l0), (1, .int l1)] [] (c156 (l0, l1))) (l0 : Nat) (l1 : Int32) : osW (osFinM (fun _ : Unit => none) 0 0) yX10_leads cX10_leads 2 none [] { frames := 2, cells := 0, slots := 0, locals := 42 } 0 0 261 [(0, .ref l0), (1, .int l1)] [] (qX10_leads_261 N c156 l0 l1) := by
  unfold qX10_leads_261
  refine os_iinc (i := 1) (d := 1) (x := l1) (v := (1 : Int32)) (lv' := [(1, .int (l1 + (1 : Int32))), (0, .ref l0)]) 1 rfl rfl (Nat.le_of_ble_eq_true rfl) rfl (hX10_leads.at 155 rfl rfl) ?_
  refine os_goto (off := (-108)) (tgt := 156) rfl (hX10_leads.at 156 rfl rfl) ?_
  exact osW.sub [1, 0] rfl (g156 l0 (l1 + (1 : Int32)))
set_option maxRecDepth 100000 in
set_option maxHeartbeats 4000000 in
theorem sX10_leads_260 (N : Nat) (c156 : Nat × Int32 → osM Unit) (g156 : ∀ (l0 : Nat) (l1 : Int32), osW (osFinM (fun _ : Unit => none) 0 0) yX10_leads cX10_leads 2 none [] { frames := 2, cells := 0, slots := 0, locals := 42 } 0 0 156 [(0, .ref l0), (1, .int l1)] [] (c156 (l0, l1))) (l0 : Nat) (l1 : Int32) (k0 : Int32) (k1 : Int32) (k2 : Nat) : osW (osFinM (fun _ : Unit => none) 0 0) yX10_leads cX10_leads 2 none [] { frames := 2, cells := 0, slots := 0, locals := 42 } 0 0 260 [(0, .ref l0), (1, .int l1)] [.int k0, .int k1, .ref k2] (qX10_leads_260 N c156 l0 l1 k0 k1 k2) := by
  unfold qX10_leads_260
  refine os_iastore (hX10_leads.at 154 rfl rfl) ?_
  exact osW.sub [0, 1] rfl (sX10_leads_261 N c156 g156 l0 l1)
set_option maxRecDepth 100000 in
set_option maxHeartbeats 4000000 in
theorem tX10_leads_156 (N : Nat) (c156 : Nat × Int32 → osM Unit) (g156 : ∀ (l0 : Nat) (l1 : Int32), osW (osFinM (fun _ : Unit => none) 0 0) yX10_leads cX10_leads 2 none [] { frames := 2, cells := 0, slots := 0, locals := 42 } 0 0 156 [(0, .ref l0), (1, .int l1)] [] (c156 (l0, l1))) (l0 : Nat) (l1 : Int32) : osW (osFinM (fun _ : Unit => none) 0 0) yX10_leads cX10_leads 2 none [] { frames := 2, cells := 0, slots := 0, locals := 42 } 0 0 156 [(0, .ref l0), (1, .int l1)] [] (bX10_leads_156 N c156 l0 l1) := by
  unfold bX10_leads_156
  refine os_iload_n (i := 1) (q := 1) (v := l1) 1 rfl rfl (hX10_leads.at 93 rfl rfl) ?_
  refine os_aload_n (i := 0) (q := 0) (v := l0) 0 rfl rfl (hX10_leads.at 94 rfl rfl) ?_
  refine os_getI fX10_371 (hX10_leads.at 95 rfl rfl) (fun x1 => ?_)
  refine os_icmp_ge (off := 106) (tgt := 267) rfl (hX10_leads.at 96 rfl rfl) ?_ ?_
  · refine os_iconst (i := 0) (v := (0 : Int32)) rfl (hX10_leads.at 157 rfl rfl) ?_
    refine os_istore_n (i := 1) (q := 1) rfl (lv' := [(1, .int (0 : Int32)), (0, .ref l0)]) (Nat.le_of_ble_eq_true rfl) rfl (hX10_leads.at 158 rfl rfl) ?_
    exact osW.sub [1, 0] rfl (sX10_leads_269 N l0 (0 : Int32))
  · refine os_aload_n (i := 0) (q := 0) (v := l0) 0 rfl rfl (hX10_leads.at 97 rfl rfl) ?_
    refine os_getI fX10_374 (hX10_leads.at 98 rfl rfl) (fun x2 => ?_)
    refine os_iload_n (i := 1) (q := 1) (v := l1) 1 rfl rfl (hX10_leads.at 99 rfl rfl) ?_
    refine os_callS (As := [.int x2, .int l1]) (st := []) (st' := (fun r => .int r :: [])) mdX10_has wd1860 wd1861 (sX10_has N x2 l1) rfl rfl (fun _ => rfl) (Nat.le_of_ble_eq_true rfl) (Nat.le_of_ble_eq_true rfl) (Nat.le_of_ble_eq_true rfl) rfl (Nat.le_of_ble_eq_true rfl) rfl (Nat.le_of_ble_eq_true rfl) (hX10_leads.at 100 rfl rfl) (fun x3 => ?_)
    refine os_if_ne (off := 6) (tgt := 178) rfl (hX10_leads.at 101 rfl rfl) ?_ ?_
    · refine os_aload_n (i := 0) (q := 0) (v := l0) 0 rfl rfl (hX10_leads.at 103 rfl rfl) ?_
      refine os_getR fX10_67 (hX10_leads.at 104 rfl rfl) (fun x4 => ?_)
      refine os_aload_n (i := 0) (q := 0) (v := l0) 0 rfl rfl (hX10_leads.at 105 rfl rfl) ?_
      refine os_getR fX10_42 (hX10_leads.at 106 rfl rfl) (fun x5 => ?_)
      refine os_iload_n (i := 1) (q := 1) (v := l1) 1 rfl rfl (hX10_leads.at 107 rfl rfl) ?_
      refine os_iaload (hX10_leads.at 108 rfl rfl) (fun x6 => ?_)
      refine os_aload_n (i := 0) (q := 0) (v := l0) 0 rfl rfl (hX10_leads.at 109 rfl rfl) ?_
      refine os_getR fX10_16 (hX10_leads.at 110 rfl rfl) (fun x7 => ?_)
      refine os_bipush (i := 21) (v := (21 : Int32)) rfl (hX10_leads.at 111 rfl rfl) ?_
      refine os_aload_n (i := 0) (q := 0) (v := l0) 0 rfl rfl (hX10_leads.at 112 rfl rfl) ?_
      refine os_getR fX10_39 (hX10_leads.at 113 rfl rfl) (fun x8 => ?_)
      refine os_iload_n (i := 1) (q := 1) (v := l1) 1 rfl rfl (hX10_leads.at 114 rfl rfl) ?_
      refine os_iaload (hX10_leads.at 115 rfl rfl) (fun x9 => ?_)
      refine os_iadd (hX10_leads.at 116 rfl rfl) ?_
      refine os_iaload (hX10_leads.at 117 rfl rfl) (fun x10 => ?_)
      refine os_iastore (hX10_leads.at 118 rfl rfl) ?_
      refine os_aload_n (i := 0) (q := 0) (v := l0) 0 rfl rfl (hX10_leads.at 119 rfl rfl) ?_
      refine os_getR fX10_70 (hX10_leads.at 120 rfl rfl) (fun x11 => ?_)
      refine os_aload_n (i := 0) (q := 0) (v := l0) 0 rfl rfl (hX10_leads.at 121 rfl rfl) ?_
      refine os_getR fX10_42 (hX10_leads.at 122 rfl rfl) (fun x12 => ?_)
      refine os_iload_n (i := 1) (q := 1) (v := l1) 1 rfl rfl (hX10_leads.at 123 rfl rfl) ?_
      refine os_iaload (hX10_leads.at 124 rfl rfl) (fun x13 => ?_)
      refine os_aload_n (i := 0) (q := 0) (v := l0) 0 rfl rfl (hX10_leads.at 125 rfl rfl) ?_
      refine os_getR fX10_16 (hX10_leads.at 126 rfl rfl) (fun x14 => ?_)
      refine os_bipush (i := 37) (v := (37 : Int32)) rfl (hX10_leads.at 127 rfl rfl) ?_
      refine os_aload_n (i := 0) (q := 0) (v := l0) 0 rfl rfl (hX10_leads.at 128 rfl rfl) ?_
      refine os_getR fX10_39 (hX10_leads.at 129 rfl rfl) (fun x15 => ?_)
      refine os_iload_n (i := 1) (q := 1) (v := l1) 1 rfl rfl (hX10_leads.at 130 rfl rfl) ?_
      refine os_iaload (hX10_leads.at 131 rfl rfl) (fun x16 => ?_)
      refine os_iadd (hX10_leads.at 132 rfl rfl) ?_
      refine os_iaload (hX10_leads.at 133 rfl rfl) (fun x17 => ?_)
      refine os_iastore (hX10_leads.at 134 rfl rfl) ?_
      refine os_aload_n (i := 0) (q := 0) (v := l0) 0 rfl rfl (hX10_leads.at 135 rfl rfl) ?_
      refine os_getR fX10_16 (hX10_leads.at 136 rfl rfl) (fun x18 => ?_)
      refine os_bipush (i := 85) (v := (85 : Int32)) rfl (hX10_leads.at 137 rfl rfl) ?_
      refine os_aload_n (i := 0) (q := 0) (v := l0) 0 rfl rfl (hX10_leads.at 138 rfl rfl) ?_
      refine os_getR fX10_42 (hX10_leads.at 139 rfl rfl) (fun x19 => ?_)
      refine os_iload_n (i := 1) (q := 1) (v := l1) 1 rfl rfl (hX10_leads.at 140 rfl rfl) ?_
      refine os_iaload (hX10_leads.at 141 rfl rfl) (fun x20 => ?_)
      refine os_iadd (hX10_leads.at 142 rfl rfl) ?_
      refine os_aload_n (i := 0) (q := 0) (v := l0) 0 rfl rfl (hX10_leads.at 143 rfl rfl) ?_
      refine os_getR fX10_51 (hX10_leads.at 144 rfl rfl) (fun x21 => ?_)
      refine os_iload_n (i := 1) (q := 1) (v := l1) 1 rfl rfl (hX10_leads.at 145 rfl rfl) ?_
      refine os_zaload (hX10_leads.at 146 rfl rfl) (fun x22 => ?_)
      refine os_if_eq (off := 7) (tgt := 254) rfl (hX10_leads.at 147 rfl rfl) ?_ ?_
      · refine os_aload_n (i := 0) (q := 0) (v := l0) 0 rfl rfl (hX10_leads.at 150 rfl rfl) ?_
        refine os_getR fX10_39 (hX10_leads.at 151 rfl rfl) (fun x23 => ?_)
        refine os_iload_n (i := 1) (q := 1) (v := l1) 1 rfl rfl (hX10_leads.at 152 rfl rfl) ?_
        refine os_iaload (hX10_leads.at 153 rfl rfl) (fun x24 => ?_)
        exact osW.sub [0, 1] rfl (sX10_leads_260 N c156 g156 l0 l1 x24 ((85 : Int32) + x20) x18)
      · refine os_iconst (i := (-1)) (v := (-1 : Int32)) rfl (hX10_leads.at 148 rfl rfl) ?_
        refine os_goto (off := 9) (tgt := 260) rfl (hX10_leads.at 149 rfl rfl) ?_
        exact osW.sub [0, 1] rfl (sX10_leads_260 N c156 g156 l0 l1 (-1 : Int32) ((85 : Int32) + x20) x18)
    · refine os_goto (off := 86) (tgt := 261) rfl (hX10_leads.at 102 rfl rfl) ?_
      exact osW.sub [0, 1] rfl (sX10_leads_261 N c156 g156 l0 l1)
set_option maxRecDepth 100000 in
set_option maxHeartbeats 4000000 in
theorem sX10_leads_156 (N : Nat) (l0 : Nat) (l1 : Int32) : osW (osFinM (fun _ : Unit => none) 0 0) yX10_leads cX10_leads 2 none [] { frames := 2, cells := 0, slots := 0, locals := 42 } 0 0 156 [(0, .ref l0), (1, .int l1)] [] (qX10_leads_156 N (l0, l1)) :=
  osloop_W (lvf := fun p => [(0, .ref p.1), (1, .int p.2)]) (stf := fun p => []) (fun ih g p => tX10_leads_156 N ih (fun l0 l1 => g (l0, l1)) p.1 p.2) N (l0, l1)
set_option maxRecDepth 100000 in
set_option maxHeartbeats 4000000 in
theorem sX10_leads_109 (N : Nat) (c2 : Nat × Int32 → osM Unit) (g2 : ∀ (l0 : Nat) (l1 : Int32), osW (osFinM (fun _ : Unit => none) 0 0) yX10_leads cX10_leads 2 none [] { frames := 2, cells := 0, slots := 0, locals := 42 } 0 0 2 [(0, .ref l0), (1, .int l1)] [] (c2 (l0, l1))) (l0 : Nat) (l1 : Int32) (k0 : Int32) (k1 : Int32) (k2 : Nat) : osW (osFinM (fun _ : Unit => none) 0 0) yX10_leads cX10_leads 2 none [] { frames := 2, cells := 0, slots := 0, locals := 42 } 0 0 109 [(0, .ref l0), (1, .int l1)] [.int k0, .int k1, .ref k2] (qX10_leads_109 N c2 l0 l1 k0 k1 k2) := by
  unfold qX10_leads_109
  refine os_iastore (hX10_leads.at 62 rfl rfl) ?_
  refine os_aload_n (i := 0) (q := 0) (v := l0) 0 rfl rfl (hX10_leads.at 63 rfl rfl) ?_
  refine os_getR fX10_16 (hX10_leads.at 64 rfl rfl) (fun x1 => ?_)
  refine os_bipush (i := 69) (v := (69 : Int32)) rfl (hX10_leads.at 65 rfl rfl) ?_
  refine os_iload_n (i := 1) (q := 1) (v := l1) 1 rfl rfl (hX10_leads.at 66 rfl rfl) ?_
  refine os_iadd (hX10_leads.at 67 rfl rfl) ?_
  refine os_aload_n (i := 0) (q := 0) (v := l0) 0 rfl rfl (hX10_leads.at 68 rfl rfl) ?_
  refine os_getR fX10_16 (hX10_leads.at 69 rfl rfl) (fun x2 => ?_)
  refine os_bipush (i := 37) (v := (37 : Int32)) rfl (hX10_leads.at 70 rfl rfl) ?_
  refine os_iload_n (i := 1) (q := 1) (v := l1) 1 rfl rfl (hX10_leads.at 71 rfl rfl) ?_
  refine os_iadd (hX10_leads.at 72 rfl rfl) ?_
  refine os_iaload (hX10_leads.at 73 rfl rfl) (fun x3 => ?_)
  refine os_iastore (hX10_leads.at 74 rfl rfl) ?_
  refine os_aload_n (i := 0) (q := 0) (v := l0) 0 rfl rfl (hX10_leads.at 75 rfl rfl) ?_
  refine os_getR fX10_16 (hX10_leads.at 76 rfl rfl) (fun x4 => ?_)
  refine os_bipush (i := 85) (v := (85 : Int32)) rfl (hX10_leads.at 77 rfl rfl) ?_
  refine os_iload_n (i := 1) (q := 1) (v := l1) 1 rfl rfl (hX10_leads.at 78 rfl rfl) ?_
  refine os_iadd (hX10_leads.at 79 rfl rfl) ?_
  refine os_iconst (i := (-1)) (v := (-1 : Int32)) rfl (hX10_leads.at 80 rfl rfl) ?_
  refine os_iastore (hX10_leads.at 81 rfl rfl) ?_
  refine os_aload_n (i := 0) (q := 0) (v := l0) 0 rfl rfl (hX10_leads.at 82 rfl rfl) ?_
  refine os_getR fX10_16 (hX10_leads.at 83 rfl rfl) (fun x5 => ?_)
  refine os_bipush (i := 101) (v := (101 : Int32)) rfl (hX10_leads.at 84 rfl rfl) ?_
  refine os_iload_n (i := 1) (q := 1) (v := l1) 1 rfl rfl (hX10_leads.at 85 rfl rfl) ?_
  refine os_iadd (hX10_leads.at 86 rfl rfl) ?_
  refine os_iconst (i := (-1)) (v := (-1 : Int32)) rfl (hX10_leads.at 87 rfl rfl) ?_
  refine os_iastore (hX10_leads.at 88 rfl rfl) ?_
  refine os_iinc (i := 1) (d := 1) (x := l1) (v := (1 : Int32)) (lv' := [(1, .int (l1 + (1 : Int32))), (0, .ref l0)]) 1 rfl rfl (Nat.le_of_ble_eq_true rfl) rfl (hX10_leads.at 89 rfl rfl) ?_
  refine os_goto (off := (-149)) (tgt := 2) rfl (hX10_leads.at 90 rfl rfl) ?_
  exact osW.sub [1, 0] rfl (g2 l0 (l1 + (1 : Int32)))
set_option maxRecDepth 100000 in
set_option maxHeartbeats 4000000 in
theorem sX10_leads_61 (N : Nat) (c2 : Nat × Int32 → osM Unit) (g2 : ∀ (l0 : Nat) (l1 : Int32), osW (osFinM (fun _ : Unit => none) 0 0) yX10_leads cX10_leads 2 none [] { frames := 2, cells := 0, slots := 0, locals := 42 } 0 0 2 [(0, .ref l0), (1, .int l1)] [] (c2 (l0, l1))) (l0 : Nat) (l1 : Int32) (k0 : Int32) (k1 : Int32) (k2 : Nat) : osW (osFinM (fun _ : Unit => none) 0 0) yX10_leads cX10_leads 2 none [] { frames := 2, cells := 0, slots := 0, locals := 42 } 0 0 61 [(0, .ref l0), (1, .int l1)] [.int k0, .int k1, .ref k2] (qX10_leads_61 N c2 l0 l1 k0 k1 k2) := by
  unfold qX10_leads_61
  refine os_iastore (hX10_leads.at 33 rfl rfl) ?_
  refine os_aload_n (i := 0) (q := 0) (v := l0) 0 rfl rfl (hX10_leads.at 34 rfl rfl) ?_
  refine os_getR fX10_70 (hX10_leads.at 35 rfl rfl) (fun x1 => ?_)
  refine os_iload_n (i := 1) (q := 1) (v := l1) 1 rfl rfl (hX10_leads.at 36 rfl rfl) ?_
  refine os_aload_n (i := 0) (q := 0) (v := l0) 0 rfl rfl (hX10_leads.at 37 rfl rfl) ?_
  refine os_getR fX10_16 (hX10_leads.at 38 rfl rfl) (fun x2 => ?_)
  refine os_bipush (i := 37) (v := (37 : Int32)) rfl (hX10_leads.at 39 rfl rfl) ?_
  refine os_iload_n (i := 1) (q := 1) (v := l1) 1 rfl rfl (hX10_leads.at 40 rfl rfl) ?_
  refine os_iadd (hX10_leads.at 41 rfl rfl) ?_
  refine os_iaload (hX10_leads.at 42 rfl rfl) (fun x3 => ?_)
  refine os_iastore (hX10_leads.at 43 rfl rfl) ?_
  refine os_aload_n (i := 0) (q := 0) (v := l0) 0 rfl rfl (hX10_leads.at 44 rfl rfl) ?_
  refine os_getR fX10_16 (hX10_leads.at 45 rfl rfl) (fun x4 => ?_)
  refine os_bipush (i := 53) (v := (53 : Int32)) rfl (hX10_leads.at 46 rfl rfl) ?_
  refine os_iload_n (i := 1) (q := 1) (v := l1) 1 rfl rfl (hX10_leads.at 47 rfl rfl) ?_
  refine os_iadd (hX10_leads.at 48 rfl rfl) ?_
  refine os_aload_n (i := 0) (q := 0) (v := l0) 0 rfl rfl (hX10_leads.at 49 rfl rfl) ?_
  refine os_getI fX10_380 (hX10_leads.at 50 rfl rfl) (fun x5 => ?_)
  refine os_iload_n (i := 1) (q := 1) (v := l1) 1 rfl rfl (hX10_leads.at 51 rfl rfl) ?_
  refine os_callS (As := [.int x5, .int l1]) (st := [.int ((53 : Int32) + l1), .ref x4]) (st' := (fun r => .int r :: [.int ((53 : Int32) + l1), .ref x4])) mdX10_has wd1860 wd1861 (sX10_has N x5 l1) rfl rfl (fun _ => rfl) (Nat.le_of_ble_eq_true rfl) (Nat.le_of_ble_eq_true rfl) (Nat.le_of_ble_eq_true rfl) rfl (Nat.le_of_ble_eq_true rfl) rfl (Nat.le_of_ble_eq_true rfl) (hX10_leads.at 52 rfl rfl) (fun x6 => ?_)
  refine os_if_eq (off := 15) (tgt := 108) rfl (hX10_leads.at 53 rfl rfl) ?_ ?_
  · refine os_iconst (i := (-1)) (v := (-1 : Int32)) rfl (hX10_leads.at 61 rfl rfl) ?_
    exact osW.sub [0, 1] rfl (sX10_leads_109 N c2 g2 l0 l1 (-1 : Int32) ((53 : Int32) + l1) x4)
  · refine os_aload_n (i := 0) (q := 0) (v := l0) 0 rfl rfl (hX10_leads.at 54 rfl rfl) ?_
    refine os_getR fX10_16 (hX10_leads.at 55 rfl rfl) (fun x7 => ?_)
    refine os_bipush (i := 21) (v := (21 : Int32)) rfl (hX10_leads.at 56 rfl rfl) ?_
    refine os_iload_n (i := 1) (q := 1) (v := l1) 1 rfl rfl (hX10_leads.at 57 rfl rfl) ?_
    refine os_iadd (hX10_leads.at 58 rfl rfl) ?_
    refine os_iaload (hX10_leads.at 59 rfl rfl) (fun x8 => ?_)
    refine os_goto (off := 4) (tgt := 109) rfl (hX10_leads.at 60 rfl rfl) ?_
    exact osW.sub [0, 1] rfl (sX10_leads_109 N c2 g2 l0 l1 x8 ((53 : Int32) + l1) x4)
set_option maxRecDepth 100000 in
set_option maxHeartbeats 4000000 in
theorem sX10_leads_60 (N : Nat) (c2 : Nat × Int32 → osM Unit) (g2 : ∀ (l0 : Nat) (l1 : Int32), osW (osFinM (fun _ : Unit => none) 0 0) yX10_leads cX10_leads 2 none [] { frames := 2, cells := 0, slots := 0, locals := 42 } 0 0 2 [(0, .ref l0), (1, .int l1)] [] (c2 (l0, l1))) (l0 : Nat) (l1 : Int32) (k0 : Int32) (k1 : Nat) : osW (osFinM (fun _ : Unit => none) 0 0) yX10_leads cX10_leads 2 none [] { frames := 2, cells := 0, slots := 0, locals := 42 } 0 0 60 [(0, .ref l0), (1, .int l1)] [.int k0, .ref k1] (qX10_leads_60 N c2 l0 l1 k0 k1) := by
  unfold qX10_leads_60
  refine os_iconst (i := (-1)) (v := (-1 : Int32)) rfl (hX10_leads.at 32 rfl rfl) ?_
  exact osW.sub [0, 1] rfl (sX10_leads_61 N c2 g2 l0 l1 (-1 : Int32) k0 k1)
set_option maxRecDepth 100000 in
set_option maxHeartbeats 4000000 in
theorem tX10_leads_2 (N : Nat) (c2 : Nat × Int32 → osM Unit) (g2 : ∀ (l0 : Nat) (l1 : Int32), osW (osFinM (fun _ : Unit => none) 0 0) yX10_leads cX10_leads 2 none [] { frames := 2, cells := 0, slots := 0, locals := 42 } 0 0 2 [(0, .ref l0), (1, .int l1)] [] (c2 (l0, l1))) (l0 : Nat) (l1 : Int32) : osW (osFinM (fun _ : Unit => none) 0 0) yX10_leads cX10_leads 2 none [] { frames := 2, cells := 0, slots := 0, locals := 42 } 0 0 2 [(0, .ref l0), (1, .int l1)] [] (bX10_leads_2 N c2 l0 l1) := by
  unfold bX10_leads_2
  refine os_iload_n (i := 1) (q := 1) (v := l1) 1 rfl rfl (hX10_leads.at 2 rfl rfl) ?_
  refine os_bipush (i := 16) (v := (16 : Int32)) rfl (hX10_leads.at 3 rfl rfl) ?_
  refine os_icmp_ge (off := 149) (tgt := 154) rfl (hX10_leads.at 4 rfl rfl) ?_ ?_
  · refine os_iconst (i := 0) (v := (0 : Int32)) rfl (hX10_leads.at 91 rfl rfl) ?_
    refine os_istore_n (i := 1) (q := 1) rfl (lv' := [(1, .int (0 : Int32)), (0, .ref l0)]) (Nat.le_of_ble_eq_true rfl) rfl (hX10_leads.at 92 rfl rfl) ?_
    exact osW.sub [1, 0] rfl (sX10_leads_156 N l0 (0 : Int32))
  · refine os_aload_n (i := 0) (q := 0) (v := l0) 0 rfl rfl (hX10_leads.at 5 rfl rfl) ?_
    refine os_getR fX10_67 (hX10_leads.at 6 rfl rfl) (fun x1 => ?_)
    refine os_iload_n (i := 1) (q := 1) (v := l1) 1 rfl rfl (hX10_leads.at 7 rfl rfl) ?_
    refine os_aload_n (i := 0) (q := 0) (v := l0) 0 rfl rfl (hX10_leads.at 8 rfl rfl) ?_
    refine os_getR fX10_16 (hX10_leads.at 9 rfl rfl) (fun x2 => ?_)
    refine os_iload_n (i := 1) (q := 1) (v := l1) 1 rfl rfl (hX10_leads.at 10 rfl rfl) ?_
    refine os_callS (As := [.ref x2, .int l1]) (st := [.int l1, .ref x1]) (st' := (fun r => .int r :: [.int l1, .ref x1])) mdX10_isUnit wd1879 wd1880 (sX10_isUnit N x2 l1) rfl rfl (fun _ => rfl) (Nat.le_of_ble_eq_true rfl) (Nat.le_of_ble_eq_true rfl) (Nat.le_of_ble_eq_true rfl) rfl (Nat.le_of_ble_eq_true rfl) rfl (Nat.le_of_ble_eq_true rfl) (hX10_leads.at 11 rfl rfl) (fun x3 => ?_)
    refine os_if_eq (off := 39) (tgt := 60) rfl (hX10_leads.at 12 rfl rfl) ?_ ?_
    · exact osW.sub [0, 1] rfl (sX10_leads_60 N c2 g2 l0 l1 l1 x1)
    · refine os_aload_n (i := 0) (q := 0) (v := l0) 0 rfl rfl (hX10_leads.at 13 rfl rfl) ?_
      refine os_getI fX10_380 (hX10_leads.at 14 rfl rfl) (fun x4 => ?_)
      refine os_iload_n (i := 1) (q := 1) (v := l1) 1 rfl rfl (hX10_leads.at 15 rfl rfl) ?_
      refine os_callS (As := [.int x4, .int l1]) (st := [.int l1, .ref x1]) (st' := (fun r => .int r :: [.int l1, .ref x1])) mdX10_has wd1860 wd1861 (sX10_has N x4 l1) rfl rfl (fun _ => rfl) (Nat.le_of_ble_eq_true rfl) (Nat.le_of_ble_eq_true rfl) (Nat.le_of_ble_eq_true rfl) rfl (Nat.le_of_ble_eq_true rfl) rfl (Nat.le_of_ble_eq_true rfl) (hX10_leads.at 16 rfl rfl) (fun x5 => ?_)
      refine os_if_ne (off := 28) (tgt := 60) rfl (hX10_leads.at 17 rfl rfl) ?_ ?_
      · exact osW.sub [0, 1] rfl (sX10_leads_60 N c2 g2 l0 l1 l1 x1)
      · refine os_aload_n (i := 0) (q := 0) (v := l0) 0 rfl rfl (hX10_leads.at 18 rfl rfl) ?_
        refine os_aload_n (i := 0) (q := 0) (v := l0) 0 rfl rfl (hX10_leads.at 19 rfl rfl) ?_
        refine os_getR fX10_48 (hX10_leads.at 20 rfl rfl) (fun x6 => ?_)
        refine os_iload_n (i := 1) (q := 1) (v := l1) 1 rfl rfl (hX10_leads.at 21 rfl rfl) ?_
        refine os_iaload (hX10_leads.at 22 rfl rfl) (fun x7 => ?_)
        refine os_callV (cis := [8]) (b := l0) (As := [.int x7]) (st := [.int l1, .ref x1]) (st' := (fun r => .int r :: [.int l1, .ref x1])) sl8_X10_succeeds_X10_succeeds mdX10_succeeds wd2106 wd2108 (sX10_succeeds N l0 x7) rfl rfl (fun _ => rfl) (Nat.le_of_ble_eq_true rfl) (Nat.le_of_ble_eq_true rfl) (Nat.le_of_ble_eq_true rfl) rfl (Nat.le_of_ble_eq_true rfl) rfl (Nat.le_of_ble_eq_true rfl) (hX10_leads.at 23 rfl rfl) (fun x8 => ?_)
        refine os_if_ne (off := 15) (tgt := 60) rfl (hX10_leads.at 24 rfl rfl) ?_ ?_
        · exact osW.sub [0, 1] rfl (sX10_leads_60 N c2 g2 l0 l1 l1 x1)
        · refine os_aload_n (i := 0) (q := 0) (v := l0) 0 rfl rfl (hX10_leads.at 25 rfl rfl) ?_
          refine os_getR fX10_16 (hX10_leads.at 26 rfl rfl) (fun x9 => ?_)
          refine os_bipush (i := 21) (v := (21 : Int32)) rfl (hX10_leads.at 27 rfl rfl) ?_
          refine os_iload_n (i := 1) (q := 1) (v := l1) 1 rfl rfl (hX10_leads.at 28 rfl rfl) ?_
          refine os_iadd (hX10_leads.at 29 rfl rfl) ?_
          refine os_iaload (hX10_leads.at 30 rfl rfl) (fun x10 => ?_)
          refine os_goto (off := 4) (tgt := 61) rfl (hX10_leads.at 31 rfl rfl) ?_
          exact osW.sub [0, 1] rfl (sX10_leads_61 N c2 g2 l0 l1 x10 l1 x1)
set_option maxRecDepth 100000 in
set_option maxHeartbeats 4000000 in
theorem sX10_leads_2 (N : Nat) (l0 : Nat) (l1 : Int32) : osW (osFinM (fun _ : Unit => none) 0 0) yX10_leads cX10_leads 2 none [] { frames := 2, cells := 0, slots := 0, locals := 42 } 0 0 2 [(0, .ref l0), (1, .int l1)] [] (qX10_leads_2 N (l0, l1)) :=
  osloop_W (lvf := fun p => [(0, .ref p.1), (1, .int p.2)]) (stf := fun p => []) (fun ih g p => tX10_leads_2 N ih (fun l0 l1 => g (l0, l1)) p.1 p.2) N (l0, l1)
set_option maxRecDepth 100000 in
set_option maxHeartbeats 4000000 in
theorem sX10_leads (N : Nat) (l0 : Nat) : osMet yX10_leads cX10_leads 2 none 2 42 0 0 (fun _ : Unit => none) [.ref l0] (qX10_leads N l0) := by
  refine osMet.of plX10 (Nat.le_of_ble_eq_true rfl) (osW.rw (lv2 := [(0, .ref l0)]) ?_ rfl rfl rfl)
  unfold qX10_leads
  refine os_iconst (i := 0) (v := (0 : Int32)) rfl (hX10_leads.at 0 rfl rfl) ?_
  refine os_istore_n (i := 1) (q := 1) rfl (lv' := [(1, .int (0 : Int32)), (0, .ref l0)]) (Nat.le_of_ble_eq_true rfl) rfl (hX10_leads.at 1 rfl rfl) ?_
  exact osW.sub [1, 0] rfl (sX10_leads_2 N l0 (0 : Int32))
-- X10_contestedNow
def KX10_contestedNow : List (Nat × Nat × Instr) := [(0, 1, .iconst 0), (1, 1, .istore_n 1), (2, 1, .iconst 0), (3, 1, .istore_n 2), (4, 1, .iload_n 2), (5, 1, .aload_n 0), (6, 3, .getfield 371), (9, 3, .if_icmp .ge 72), (12, 1, .aload_n 0), (13, 3, .getfield 386), (16, 1, .iload_n 2), (17, 3, .invokestatic 111), (20, 3, .ifCond .eq 34), (23, 1, .aload_n 0), (24, 3, .getfield 374), (27, 1, .iload_n 2), (28, 3, .invokestatic 111), (31, 3, .ifCond .ne 23), (34, 1, .aload_n 0), (35, 3, .getfield 16), (38, 1, .aload_n 0), (39, 3, .getfield 42), (42, 1, .iload_n 2), (43, 1, .iaload), (44, 3, .invokestatic 103), (47, 3, .ifCond .ne 7), (50, 1, .iconst 1), (51, 3, .goto 4), (54, 1, .iconst 0), (55, 1, .istore_n 3), (56, 1, .iload_n 3), (57, 3, .ifCond .eq 16), (60, 1, .iload_n 1), (61, 1, .iconst 1), (62, 1, .aload_n 0), (63, 3, .getfield 42), (66, 1, .iload_n 2), (67, 1, .iaload), (68, 1, .ishl), (69, 1, .ior), (70, 3, .goto 4), (73, 1, .iload_n 1), (74, 1, .istore_n 1), (75, 3, .iinc 2 1), (78, 3, .goto (-74)), (81, 1, .iload_n 1), (82, 1, .ireturn)]
theorem hX10_contestedNow : osDs cX10_contestedNow KX10_contestedNow := by
  show ∀ q ∈ KX10_contestedNow, decode cX10_contestedNow q.1 = .ok (q.2.2, q.2.1)
  decide +kernel
def qX10_contestedNow_74 (N : Nat) (c4 : Nat × Int32 × Int32 → osM Int32) (l0 : Nat) (l2 : Int32) (k0 : Int32) : osM Int32 := c4 (l0, k0, (l2 + (1 : Int32)))
def qX10_contestedNow_55 (N : Nat) (c4 : Nat × Int32 × Int32 → osM Int32) (l0 : Nat) (l1 : Int32) (l2 : Int32) (k0 : Int32) : osM Int32 := osite (k0 = 0) (qX10_contestedNow_74 N c4 l0 l2 l1) (osbind (osgR [8] 22 l0) fun x1 => osbind (osaI 0 x1 l2) fun x2 => qX10_contestedNow_74 N c4 l0 l2 (l1 ||| (osshl (1 : Int32) x2)))
def qX10_contestedNow_54 (N : Nat) (c4 : Nat × Int32 × Int32 → osM Int32) (l0 : Nat) (l1 : Int32) (l2 : Int32) : osM Int32 := qX10_contestedNow_55 N c4 l0 l1 l2 (0 : Int32)
def bX10_contestedNow_4 (N : Nat) (c4 : Nat × Int32 × Int32 → osM Int32) (l0 : Nat) (l1 : Int32) (l2 : Int32) : osM Int32 := osbind (osgI [8] 26 l0) fun x1 => osite (x1 ≤ l2) (osret l1) (osbind (osgI [8] 30 l0) fun x2 => osbind (qX10_has N x2 l2) fun x3 => osite (x3 = 0) (qX10_contestedNow_54 N c4 l0 l1 l2) (osbind (osgI [8] 28 l0) fun x4 => osbind (qX10_has N x4 l2) fun x5 => osite (x5 = 0) (osbind (osgR [8] 3 l0) fun x6 => osbind (osgR [8] 22 l0) fun x7 => osbind (osaI 0 x7 l2) fun x8 => osbind (qX10_isUnit N x6 x8) fun x9 => osite (x9 = 0) (qX10_contestedNow_55 N c4 l0 l1 l2 (1 : Int32)) (qX10_contestedNow_54 N c4 l0 l1 l2)) (qX10_contestedNow_54 N c4 l0 l1 l2)))
def qX10_contestedNow_4 (N : Nat) : Nat × Int32 × Int32 → osM Int32 := osloop (fun ih p => bX10_contestedNow_4 N ih p.1 p.2.1 p.2.2) N
def qX10_contestedNow (N : Nat) (l0 : Nat) : osM Int32 := qX10_contestedNow_4 N (l0, (0 : Int32), (0 : Int32))
set_option maxRecDepth 100000 in
set_option maxHeartbeats 4000000 in
theorem sX10_contestedNow_74 (N : Nat) (c4 : Nat × Int32 × Int32 → osM Int32) (g4 : ∀ (l0 : Nat) (l1 : Int32) (l2 : Int32), osW (osFinM (fun r : Int32 => some (.int r)) 0 0) yX10_contestedNow cX10_contestedNow 4 (some .int) [] { frames := 1, cells := 0, slots := 0, locals := 21 } 0 0 4 [(0, .ref l0), (1, .int l1), (2, .int l2)] [] (c4 (l0, l1, l2))) (l0 : Nat) (l2 : Int32) (k0 : Int32) : osW (osFinM (fun r : Int32 => some (.int r)) 0 0) yX10_contestedNow cX10_contestedNow 4 (some .int) [] { frames := 1, cells := 0, slots := 0, locals := 21 } 0 0 74 [(0, .ref l0), (2, .int l2)] [.int k0] (qX10_contestedNow_74 N c4 l0 l2 k0) := by
  unfold qX10_contestedNow_74
  refine os_istore_n (i := 1) (q := 1) rfl (lv' := [(1, .int k0), (0, .ref l0), (2, .int l2)]) (Nat.le_of_ble_eq_true rfl) rfl (hX10_contestedNow.at 42 rfl rfl) ?_
  refine os_iinc (i := 2) (d := 1) (x := l2) (v := (1 : Int32)) (lv' := [(2, .int (l2 + (1 : Int32))), (1, .int k0), (0, .ref l0)]) 2 rfl rfl (Nat.le_of_ble_eq_true rfl) rfl (hX10_contestedNow.at 43 rfl rfl) ?_
  refine os_goto (off := (-74)) (tgt := 4) rfl (hX10_contestedNow.at 44 rfl rfl) ?_
  exact osW.sub [2, 1, 0] rfl (g4 l0 k0 (l2 + (1 : Int32)))
set_option maxRecDepth 100000 in
set_option maxHeartbeats 4000000 in
theorem sX10_contestedNow_55 (N : Nat) (c4 : Nat × Int32 × Int32 → osM Int32) (g4 : ∀ (l0 : Nat) (l1 : Int32) (l2 : Int32), osW (osFinM (fun r : Int32 => some (.int r)) 0 0) yX10_contestedNow cX10_contestedNow 4 (some .int) [] { frames := 1, cells := 0, slots := 0, locals := 21 } 0 0 4 [(0, .ref l0), (1, .int l1), (2, .int l2)] [] (c4 (l0, l1, l2))) (l0 : Nat) (l1 : Int32) (l2 : Int32) (k0 : Int32) : osW (osFinM (fun r : Int32 => some (.int r)) 0 0) yX10_contestedNow cX10_contestedNow 4 (some .int) [] { frames := 1, cells := 0, slots := 0, locals := 21 } 0 0 55 [(0, .ref l0), (1, .int l1), (2, .int l2)] [.int k0] (qX10_contestedNow_55 N c4 l0 l1 l2 k0) := by
  unfold qX10_contestedNow_55
  refine os_istore_n (i := 3) (q := 3) rfl (lv' := [(3, .int k0), (0, .ref l0), (1, .int l1), (2, .int l2)]) (Nat.le_of_ble_eq_true rfl) rfl (hX10_contestedNow.at 29 rfl rfl) ?_
  refine os_iload_n (i := 3) (q := 3) (v := k0) 0 rfl rfl (hX10_contestedNow.at 30 rfl rfl) ?_
  refine os_if_eq (off := 16) (tgt := 73) rfl (hX10_contestedNow.at 31 rfl rfl) ?_ ?_
  · refine os_iload_n (i := 1) (q := 1) (v := l1) 2 rfl rfl (hX10_contestedNow.at 41 rfl rfl) ?_
    exact osW.sub [1, 3] rfl (sX10_contestedNow_74 N c4 g4 l0 l2 l1)
  · refine os_iload_n (i := 1) (q := 1) (v := l1) 2 rfl rfl (hX10_contestedNow.at 32 rfl rfl) ?_
    refine os_iconst (i := 1) (v := (1 : Int32)) rfl (hX10_contestedNow.at 33 rfl rfl) ?_
    refine os_aload_n (i := 0) (q := 0) (v := l0) 1 rfl rfl (hX10_contestedNow.at 34 rfl rfl) ?_
    refine os_getR fX10_42 (hX10_contestedNow.at 35 rfl rfl) (fun x1 => ?_)
    refine os_iload_n (i := 2) (q := 2) (v := l2) 3 rfl rfl (hX10_contestedNow.at 36 rfl rfl) ?_
    refine os_iaload (hX10_contestedNow.at 37 rfl rfl) (fun x2 => ?_)
    refine os_ishl (hX10_contestedNow.at 38 rfl rfl) ?_
    refine os_ior (hX10_contestedNow.at 39 rfl rfl) ?_
    refine os_goto (off := 4) (tgt := 74) rfl (hX10_contestedNow.at 40 rfl rfl) ?_
    exact osW.sub [1, 3] rfl (sX10_contestedNow_74 N c4 g4 l0 l2 (l1 ||| (osshl (1 : Int32) x2)))
set_option maxRecDepth 100000 in
set_option maxHeartbeats 4000000 in
theorem sX10_contestedNow_54 (N : Nat) (c4 : Nat × Int32 × Int32 → osM Int32) (g4 : ∀ (l0 : Nat) (l1 : Int32) (l2 : Int32), osW (osFinM (fun r : Int32 => some (.int r)) 0 0) yX10_contestedNow cX10_contestedNow 4 (some .int) [] { frames := 1, cells := 0, slots := 0, locals := 21 } 0 0 4 [(0, .ref l0), (1, .int l1), (2, .int l2)] [] (c4 (l0, l1, l2))) (l0 : Nat) (l1 : Int32) (l2 : Int32) : osW (osFinM (fun r : Int32 => some (.int r)) 0 0) yX10_contestedNow cX10_contestedNow 4 (some .int) [] { frames := 1, cells := 0, slots := 0, locals := 21 } 0 0 54 [(0, .ref l0), (1, .int l1), (2, .int l2)] [] (qX10_contestedNow_54 N c4 l0 l1 l2) := by
  unfold qX10_contestedNow_54
  refine os_iconst (i := 0) (v := (0 : Int32)) rfl (hX10_contestedNow.at 28 rfl rfl) ?_
  exact osW.sub [0, 1, 2] rfl (sX10_contestedNow_55 N c4 g4 l0 l1 l2 (0 : Int32))
set_option maxRecDepth 100000 in
set_option maxHeartbeats 4000000 in
theorem tX10_contestedNow_4 (N : Nat) (c4 : Nat × Int32 × Int32 → osM Int32) (g4 : ∀ (l0 : Nat) (l1 : Int32) (l2 : Int32), osW (osFinM (fun r : Int32 => some (.int r)) 0 0) yX10_contestedNow cX10_contestedNow 4 (some .int) [] { frames := 1, cells := 0, slots := 0, locals := 21 } 0 0 4 [(0, .ref l0), (1, .int l1), (2, .int l2)] [] (c4 (l0, l1, l2))) (l0 : Nat) (l1 : Int32) (l2 : Int32) : osW (osFinM (fun r : Int32 => some (.int r)) 0 0) yX10_contestedNow cX10_contestedNow 4 (some .int) [] { frames := 1, cells := 0, slots := 0, locals := 21 } 0 0 4 [(0, .ref l0), (1, .int l1), (2, .int l2)] [] (bX10_contestedNow_4 N c4 l0 l1 l2) := by
  unfold bX10_contestedNow_4
  refine os_iload_n (i := 2) (q := 2) (v := l2) 2 rfl rfl (hX10_contestedNow.at 4 rfl rfl) ?_
  refine os_aload_n (i := 0) (q := 0) (v := l0) 0 rfl rfl (hX10_contestedNow.at 5 rfl rfl) ?_
  refine os_getI fX10_371 (hX10_contestedNow.at 6 rfl rfl) (fun x1 => ?_)
  refine os_icmp_ge (off := 72) (tgt := 81) rfl (hX10_contestedNow.at 7 rfl rfl) ?_ ?_
  · refine os_iload_n (i := 1) (q := 1) (v := l1) 1 rfl rfl (hX10_contestedNow.at 45 rfl rfl) ?_
    exact os_iret (Nat.le_of_ble_eq_true rfl) (Nat.le_of_ble_eq_true rfl) (hX10_contestedNow.at 46 rfl rfl).1
  · refine os_aload_n (i := 0) (q := 0) (v := l0) 0 rfl rfl (hX10_contestedNow.at 8 rfl rfl) ?_
    refine os_getI fX10_386 (hX10_contestedNow.at 9 rfl rfl) (fun x2 => ?_)
    refine os_iload_n (i := 2) (q := 2) (v := l2) 2 rfl rfl (hX10_contestedNow.at 10 rfl rfl) ?_
    refine os_callS (As := [.int x2, .int l2]) (st := []) (st' := (fun r => .int r :: [])) mdX10_has wd1860 wd1861 (sX10_has N x2 l2) rfl rfl (fun _ => rfl) (Nat.le_of_ble_eq_true rfl) (Nat.le_of_ble_eq_true rfl) (Nat.le_of_ble_eq_true rfl) rfl (Nat.le_of_ble_eq_true rfl) rfl (Nat.le_of_ble_eq_true rfl) (hX10_contestedNow.at 11 rfl rfl) (fun x3 => ?_)
    refine os_if_eq (off := 34) (tgt := 54) rfl (hX10_contestedNow.at 12 rfl rfl) ?_ ?_
    · exact osW.sub [0, 1, 2] rfl (sX10_contestedNow_54 N c4 g4 l0 l1 l2)
    · refine os_aload_n (i := 0) (q := 0) (v := l0) 0 rfl rfl (hX10_contestedNow.at 13 rfl rfl) ?_
      refine os_getI fX10_374 (hX10_contestedNow.at 14 rfl rfl) (fun x4 => ?_)
      refine os_iload_n (i := 2) (q := 2) (v := l2) 2 rfl rfl (hX10_contestedNow.at 15 rfl rfl) ?_
      refine os_callS (As := [.int x4, .int l2]) (st := []) (st' := (fun r => .int r :: [])) mdX10_has wd1860 wd1861 (sX10_has N x4 l2) rfl rfl (fun _ => rfl) (Nat.le_of_ble_eq_true rfl) (Nat.le_of_ble_eq_true rfl) (Nat.le_of_ble_eq_true rfl) rfl (Nat.le_of_ble_eq_true rfl) rfl (Nat.le_of_ble_eq_true rfl) (hX10_contestedNow.at 16 rfl rfl) (fun x5 => ?_)
      refine os_if_ne (off := 23) (tgt := 54) rfl (hX10_contestedNow.at 17 rfl rfl) ?_ ?_
      · exact osW.sub [0, 1, 2] rfl (sX10_contestedNow_54 N c4 g4 l0 l1 l2)
      · refine os_aload_n (i := 0) (q := 0) (v := l0) 0 rfl rfl (hX10_contestedNow.at 18 rfl rfl) ?_
        refine os_getR fX10_16 (hX10_contestedNow.at 19 rfl rfl) (fun x6 => ?_)
        refine os_aload_n (i := 0) (q := 0) (v := l0) 0 rfl rfl (hX10_contestedNow.at 20 rfl rfl) ?_
        refine os_getR fX10_42 (hX10_contestedNow.at 21 rfl rfl) (fun x7 => ?_)
        refine os_iload_n (i := 2) (q := 2) (v := l2) 2 rfl rfl (hX10_contestedNow.at 22 rfl rfl) ?_
        refine os_iaload (hX10_contestedNow.at 23 rfl rfl) (fun x8 => ?_)
        refine os_callS (As := [.ref x6, .int x8]) (st := []) (st' := (fun r => .int r :: [])) mdX10_isUnit wd1879 wd1880 (sX10_isUnit N x6 x8) rfl rfl (fun _ => rfl) (Nat.le_of_ble_eq_true rfl) (Nat.le_of_ble_eq_true rfl) (Nat.le_of_ble_eq_true rfl) rfl (Nat.le_of_ble_eq_true rfl) rfl (Nat.le_of_ble_eq_true rfl) (hX10_contestedNow.at 24 rfl rfl) (fun x9 => ?_)
        refine os_if_ne (off := 7) (tgt := 54) rfl (hX10_contestedNow.at 25 rfl rfl) ?_ ?_
        · exact osW.sub [0, 1, 2] rfl (sX10_contestedNow_54 N c4 g4 l0 l1 l2)
        · refine os_iconst (i := 1) (v := (1 : Int32)) rfl (hX10_contestedNow.at 26 rfl rfl) ?_
          refine os_goto (off := 4) (tgt := 55) rfl (hX10_contestedNow.at 27 rfl rfl) ?_
          exact osW.sub [0, 1, 2] rfl (sX10_contestedNow_55 N c4 g4 l0 l1 l2 (1 : Int32))
set_option maxRecDepth 100000 in
set_option maxHeartbeats 4000000 in
theorem sX10_contestedNow_4 (N : Nat) (l0 : Nat) (l1 : Int32) (l2 : Int32) : osW (osFinM (fun r : Int32 => some (.int r)) 0 0) yX10_contestedNow cX10_contestedNow 4 (some .int) [] { frames := 1, cells := 0, slots := 0, locals := 21 } 0 0 4 [(0, .ref l0), (1, .int l1), (2, .int l2)] [] (qX10_contestedNow_4 N (l0, l1, l2)) :=
  osloop_W (lvf := fun p => [(0, .ref p.1), (1, .int p.2.1), (2, .int p.2.2)]) (stf := fun p => []) (fun ih g p => tX10_contestedNow_4 N ih (fun l0 l1 l2 => g (l0, l1, l2)) p.1 p.2.1 p.2.2) N (l0, l1, l2)
set_option maxRecDepth 100000 in
set_option maxHeartbeats 4000000 in
theorem sX10_contestedNow (N : Nat) (l0 : Nat) : osMet yX10_contestedNow cX10_contestedNow 4 (some .int) 1 21 0 0 (fun r : Int32 => some (.int r)) [.ref l0] (qX10_contestedNow N l0) := by
  refine osMet.of plX10 (Nat.le_of_ble_eq_true rfl) (osW.rw (lv2 := [(0, .ref l0)]) ?_ rfl rfl rfl)
  unfold qX10_contestedNow
  refine os_iconst (i := 0) (v := (0 : Int32)) rfl (hX10_contestedNow.at 0 rfl rfl) ?_
  refine os_istore_n (i := 1) (q := 1) rfl (lv' := [(1, .int (0 : Int32)), (0, .ref l0)]) (Nat.le_of_ble_eq_true rfl) rfl (hX10_contestedNow.at 1 rfl rfl) ?_
  refine os_iconst (i := 0) (v := (0 : Int32)) rfl (hX10_contestedNow.at 2 rfl rfl) ?_
  refine os_istore_n (i := 2) (q := 2) rfl (lv' := [(2, .int (0 : Int32)), (1, .int (0 : Int32)), (0, .ref l0)]) (Nat.le_of_ble_eq_true rfl) rfl (hX10_contestedNow.at 3 rfl rfl) ?_
  exact osW.sub [2, 1, 0] rfl (sX10_contestedNow_4 N l0 (0 : Int32) (0 : Int32))
-- X10_settle
def KX10_settle : List (Nat × Nat × Instr) := [(0, 1, .aload_n 0), (1, 1, .aload_n 0), (2, 3, .getfield 16), (5, 1, .iconst 0), (6, 1, .iaload), (7, 3, .ifCond .eq 7), (10, 1, .iconst 1), (11, 3, .goto 4), (14, 1, .iconst 0), (15, 3, .invokevirtual 354), (18, 3, .ifCond .eq 5), (21, 1, .iconst 0), (22, 1, .ireturn), (23, 1, .aload_n 0), (24, 3, .invokevirtual 459), (27, 1, .aload_n 0), (28, 3, .invokevirtual 462), (31, 1, .iconst 0), (32, 1, .istore_n 1), (33, 1, .iload_n 1), (34, 2, .bipush 16), (36, 3, .if_icmp .ge 58), (39, 1, .iconst 0), (40, 1, .istore_n 2), (41, 1, .iload_n 2), (42, 2, .bipush 6), (44, 3, .if_icmp .ge 44), (47, 1, .aload_n 0), (48, 3, .getfield 16), (51, 3, .sipush 165), (54, 2, .bipush 6), (56, 1, .iload_n 1), (57, 1, .imul), (58, 1, .iadd), (59, 1, .iload_n 2), (60, 1, .iadd), (61, 1, .iload_n 1), (62, 1, .aload_n 0), (63, 3, .getfield 7), (66, 1, .iconst 0), (67, 1, .iaload), (68, 3, .if_icmp .ge 12), (71, 1, .aload_n 0), (72, 1, .iload_n 1), (73, 1, .iload_n 2), (74, 3, .invokevirtual 465), (77, 3, .goto 4), (80, 1, .iconst 0), (81, 1, .iastore), (82, 3, .iinc 2 1), (85, 3, .goto (-44)), (88, 3, .iinc 1 1), (91, 3, .goto (-58)), (94, 1, .aload_n 0), (95, 3, .getfield 16), (98, 1, .iconst 2), (99, 1, .iconst 1), (100, 1, .iastore), (101, 1, .aload_n 0), (102, 3, .getfield 16), (105, 1, .iconst 3), (106, 1, .aload_n 0), (107, 3, .getfield 450), (110, 1, .iastore), (111, 1, .aload_n 0), (112, 3, .invokevirtual 468), (115, 1, .aload_n 0), (116, 3, .getfield 16), (119, 1, .iconst 4), (120, 1, .aload_n 0), (121, 3, .invokevirtual 471), (124, 1, .iastore), (125, 1, .aload_n 0), (126, 3, .getfield 380), (129, 3, .ifCond .eq 13), (132, 1, .aload_n 0), (133, 3, .getfield 16), (136, 1, .iconst 0), (137, 1, .iconst 1), (138, 1, .iastore), (139, 3, .goto 7), (142, 1, .aload_n 0), (143, 3, .invokevirtual 474), (146, 1, .aload_n 0), (147, 3, .getfield 374), (150, 3, .invokestatic 441), (153, 1, .ireturn)]
theorem hX10_settle : osDs cX10_settle KX10_settle := by
  show ∀ q ∈ KX10_settle, decode cX10_settle q.1 = .ok (q.2.2, q.2.1)
  decide +kernel
def qX10_settle_146 (N : Nat) (l0 : Nat) : osM Int32 := osbind (osgI [8] 28 l0) fun x1 => osbind (qX10_ones N x1) fun x2 => osret x2
def qX10_settle_81 (N : Nat) (c33 : Nat × Int32 → osM Int32) (c41 : Nat × Int32 × Int32 → osM Int32) (l0 : Nat) (l1 : Int32) (l2 : Int32) (k0 : Int32) (k1 : Int32) (k2 : Nat) : osM Int32 := osbind (ossI 0 k2 k1 k0) fun _ => c41 (l0, l1, (l2 + (1 : Int32)))
def bX10_settle_41 (N : Nat) (c33 : Nat × Int32 → osM Int32) (c41 : Nat × Int32 × Int32 → osM Int32) (l0 : Nat) (l1 : Int32) (l2 : Int32) : osM Int32 := osite ((6 : Int32) ≤ l2) (c33 (l0, (l1 + (1 : Int32)))) (osbind (osgR [8] 3 l0) fun x1 => osbind (osgR [8] 1 l0) fun x2 => osbind (osaI 0 x2 (0 : Int32)) fun x3 => osite (x3 ≤ l1) (qX10_settle_81 N c33 c41 l0 l1 l2 (0 : Int32) (((165 : Int32) + ((6 : Int32) * l1)) + l2) x1) (osbind (osrecv [8] l0 (qX10_said N l0 l1 l2)) fun x4 => qX10_settle_81 N c33 c41 l0 l1 l2 x4 (((165 : Int32) + ((6 : Int32) * l1)) + l2) x1))
def qX10_settle_41 (N : Nat) (c33 : Nat × Int32 → osM Int32) : Nat × Int32 × Int32 → osM Int32 := osloop (fun ih p => bX10_settle_41 N c33 ih p.1 p.2.1 p.2.2) N
def bX10_settle_33 (N : Nat) (c33 : Nat × Int32 → osM Int32) (l0 : Nat) (l1 : Int32) : osM Int32 := osite ((16 : Int32) ≤ l1) (osbind (osgR [8] 3 l0) fun x1 => osbind (ossI 0 x1 (2 : Int32) (1 : Int32)) fun _ => osbind (osgR [8] 3 l0) fun x2 => osbind (osgI [8] 38 l0) fun x3 => osbind (ossI 0 x2 (3 : Int32) x3) fun _ => osbind (osrecv [8] l0 (qX10_leads N l0)) fun _ => osbind (osgR [8] 3 l0) fun x4 => osbind (osrecv [8] l0 (qX10_contestedNow N l0)) fun x5 => osbind (ossI 0 x4 (4 : Int32) x5) fun _ => osbind (osgI [8] 29 l0) fun x6 => osite (x6 = 0) (osbind (osrecv [8] l0 (qX10_endsTurn N l0)) fun _ => qX10_settle_146 N l0) (osbind (osgR [8] 3 l0) fun x7 => osbind (ossI 0 x7 (0 : Int32) (1 : Int32)) fun _ => qX10_settle_146 N l0)) (qX10_settle_41 N c33 (l0, l1, (0 : Int32)))
def qX10_settle_33 (N : Nat) : Nat × Int32 → osM Int32 := osloop (fun ih p => bX10_settle_33 N ih p.1 p.2) N
def qX10_settle_15 (N : Nat) (l0 : Nat) (k0 : Int32) (k1 : Nat) : osM Int32 := osbind (osrecv [8] k1 (qX10_isRefused N k1 k0)) fun x1 => osite (x1 = 0) (osbind (osrecv [8] l0 (qX10_remembers N l0)) fun _ => osbind (osrecv [8] l0 (qX10_decides N l0)) fun _ => qX10_settle_33 N (l0, (0 : Int32))) (osret (0 : Int32))
def qX10_settle (N : Nat) (l0 : Nat) : osM Int32 := osbind (osgR [8] 3 l0) fun x1 => osbind (osaI 0 x1 (0 : Int32)) fun x2 => osite (x2 = 0) (qX10_settle_15 N l0 (0 : Int32) l0) (qX10_settle_15 N l0 (1 : Int32) l0)
set_option maxRecDepth 100000 in
set_option maxHeartbeats 4000000 in
theorem sX10_settle_146 (N : Nat) (l0 : Nat) : osW (osFinM (fun r : Int32 => some (.int r)) 0 0) yX10_settle cX10_settle 3 (some .int) [] { frames := 7, cells := 0, slots := 0, locals := 158 } 0 0 146 [(0, .ref l0)] [] (qX10_settle_146 N l0) := by
  unfold qX10_settle_146
  refine os_aload_n (i := 0) (q := 0) (v := l0) 0 rfl rfl (hX10_settle.at 83 rfl rfl) ?_
  refine os_getI fX10_374 (hX10_settle.at 84 rfl rfl) (fun x1 => ?_)
  refine os_callS (As := [.int x1]) (st := []) (st' := (fun r => .int r :: [])) mdX10_ones wd2154 wd2155 (sX10_ones N x1) rfl rfl (fun _ => rfl) (Nat.le_of_ble_eq_true rfl) (Nat.le_of_ble_eq_true rfl) (Nat.le_of_ble_eq_true rfl) rfl (Nat.le_of_ble_eq_true rfl) rfl (Nat.le_of_ble_eq_true rfl) (hX10_settle.at 85 rfl rfl) (fun x2 => ?_)
  exact os_iret (Nat.le_of_ble_eq_true rfl) (Nat.le_of_ble_eq_true rfl) (hX10_settle.at 86 rfl rfl).1
set_option maxRecDepth 100000 in
set_option maxHeartbeats 4000000 in
theorem sX10_settle_81 (N : Nat) (c33 : Nat × Int32 → osM Int32) (c41 : Nat × Int32 × Int32 → osM Int32) (g33 : ∀ (l0 : Nat) (l1 : Int32), osW (osFinM (fun r : Int32 => some (.int r)) 0 0) yX10_settle cX10_settle 3 (some .int) [] { frames := 7, cells := 0, slots := 0, locals := 158 } 0 0 33 [(0, .ref l0), (1, .int l1)] [] (c33 (l0, l1))) (g41 : ∀ (l0 : Nat) (l1 : Int32) (l2 : Int32), osW (osFinM (fun r : Int32 => some (.int r)) 0 0) yX10_settle cX10_settle 3 (some .int) [] { frames := 7, cells := 0, slots := 0, locals := 158 } 0 0 41 [(0, .ref l0), (1, .int l1), (2, .int l2)] [] (c41 (l0, l1, l2))) (l0 : Nat) (l1 : Int32) (l2 : Int32) (k0 : Int32) (k1 : Int32) (k2 : Nat) : osW (osFinM (fun r : Int32 => some (.int r)) 0 0) yX10_settle cX10_settle 3 (some .int) [] { frames := 7, cells := 0, slots := 0, locals := 158 } 0 0 81 [(0, .ref l0), (1, .int l1), (2, .int l2)] [.int k0, .int k1, .ref k2] (qX10_settle_81 N c33 c41 l0 l1 l2 k0 k1 k2) := by
  unfold qX10_settle_81
  refine os_iastore (hX10_settle.at 48 rfl rfl) ?_
  refine os_iinc (i := 2) (d := 1) (x := l2) (v := (1 : Int32)) (lv' := [(2, .int (l2 + (1 : Int32))), (0, .ref l0), (1, .int l1)]) 2 rfl rfl (Nat.le_of_ble_eq_true rfl) rfl (hX10_settle.at 49 rfl rfl) ?_
  refine os_goto (off := (-44)) (tgt := 41) rfl (hX10_settle.at 50 rfl rfl) ?_
  exact osW.sub [1, 2, 0] rfl (g41 l0 l1 (l2 + (1 : Int32)))
set_option maxRecDepth 100000 in
set_option maxHeartbeats 4000000 in
theorem tX10_settle_41 (N : Nat) (c33 : Nat × Int32 → osM Int32) (c41 : Nat × Int32 × Int32 → osM Int32) (g33 : ∀ (l0 : Nat) (l1 : Int32), osW (osFinM (fun r : Int32 => some (.int r)) 0 0) yX10_settle cX10_settle 3 (some .int) [] { frames := 7, cells := 0, slots := 0, locals := 158 } 0 0 33 [(0, .ref l0), (1, .int l1)] [] (c33 (l0, l1))) (g41 : ∀ (l0 : Nat) (l1 : Int32) (l2 : Int32), osW (osFinM (fun r : Int32 => some (.int r)) 0 0) yX10_settle cX10_settle 3 (some .int) [] { frames := 7, cells := 0, slots := 0, locals := 158 } 0 0 41 [(0, .ref l0), (1, .int l1), (2, .int l2)] [] (c41 (l0, l1, l2))) (l0 : Nat) (l1 : Int32) (l2 : Int32) : osW (osFinM (fun r : Int32 => some (.int r)) 0 0) yX10_settle cX10_settle 3 (some .int) [] { frames := 7, cells := 0, slots := 0, locals := 158 } 0 0 41 [(0, .ref l0), (1, .int l1), (2, .int l2)] [] (bX10_settle_41 N c33 c41 l0 l1 l2) := by
  unfold bX10_settle_41
  refine os_iload_n (i := 2) (q := 2) (v := l2) 2 rfl rfl (hX10_settle.at 24 rfl rfl) ?_
  refine os_bipush (i := 6) (v := (6 : Int32)) rfl (hX10_settle.at 25 rfl rfl) ?_
  refine os_icmp_ge (off := 44) (tgt := 88) rfl (hX10_settle.at 26 rfl rfl) ?_ ?_
  · refine os_iinc (i := 1) (d := 1) (x := l1) (v := (1 : Int32)) (lv' := [(1, .int (l1 + (1 : Int32))), (0, .ref l0), (2, .int l2)]) 1 rfl rfl (Nat.le_of_ble_eq_true rfl) rfl (hX10_settle.at 51 rfl rfl) ?_
    refine os_goto (off := (-58)) (tgt := 33) rfl (hX10_settle.at 52 rfl rfl) ?_
    exact osW.sub [1, 0] rfl (g33 l0 (l1 + (1 : Int32)))
  · refine os_aload_n (i := 0) (q := 0) (v := l0) 0 rfl rfl (hX10_settle.at 27 rfl rfl) ?_
    refine os_getR fX10_16 (hX10_settle.at 28 rfl rfl) (fun x1 => ?_)
    refine os_sipush (i := 165) (v := (165 : Int32)) rfl (hX10_settle.at 29 rfl rfl) ?_
    refine os_bipush (i := 6) (v := (6 : Int32)) rfl (hX10_settle.at 30 rfl rfl) ?_
    refine os_iload_n (i := 1) (q := 1) (v := l1) 1 rfl rfl (hX10_settle.at 31 rfl rfl) ?_
    refine os_imul (hX10_settle.at 32 rfl rfl) ?_
    refine os_iadd (hX10_settle.at 33 rfl rfl) ?_
    refine os_iload_n (i := 2) (q := 2) (v := l2) 2 rfl rfl (hX10_settle.at 34 rfl rfl) ?_
    refine os_iadd (hX10_settle.at 35 rfl rfl) ?_
    refine os_iload_n (i := 1) (q := 1) (v := l1) 1 rfl rfl (hX10_settle.at 36 rfl rfl) ?_
    refine os_aload_n (i := 0) (q := 0) (v := l0) 0 rfl rfl (hX10_settle.at 37 rfl rfl) ?_
    refine os_getR fX10_7 (hX10_settle.at 38 rfl rfl) (fun x2 => ?_)
    refine os_iconst (i := 0) (v := (0 : Int32)) rfl (hX10_settle.at 39 rfl rfl) ?_
    refine os_iaload (hX10_settle.at 40 rfl rfl) (fun x3 => ?_)
    refine os_icmp_ge (off := 12) (tgt := 80) rfl (hX10_settle.at 41 rfl rfl) ?_ ?_
    · refine os_iconst (i := 0) (v := (0 : Int32)) rfl (hX10_settle.at 47 rfl rfl) ?_
      exact osW.sub [0, 1, 2] rfl (sX10_settle_81 N c33 c41 g33 g41 l0 l1 l2 (0 : Int32) (((165 : Int32) + ((6 : Int32) * l1)) + l2) x1)
    · refine os_aload_n (i := 0) (q := 0) (v := l0) 0 rfl rfl (hX10_settle.at 42 rfl rfl) ?_
      refine os_iload_n (i := 1) (q := 1) (v := l1) 1 rfl rfl (hX10_settle.at 43 rfl rfl) ?_
      refine os_iload_n (i := 2) (q := 2) (v := l2) 2 rfl rfl (hX10_settle.at 44 rfl rfl) ?_
      refine os_callV (cis := [8]) (b := l0) (As := [.int l1, .int l2]) (st := [.int (((165 : Int32) + ((6 : Int32) * l1)) + l2), .ref x1]) (st' := (fun r => .int r :: [.int (((165 : Int32) + ((6 : Int32) * l1)) + l2), .ref x1])) sl8_X10_said_X10_said mdX10_said wd2157 wd2159 (sX10_said N l0 l1 l2) rfl rfl (fun _ => rfl) (Nat.le_of_ble_eq_true rfl) (Nat.le_of_ble_eq_true rfl) (Nat.le_of_ble_eq_true rfl) rfl (Nat.le_of_ble_eq_true rfl) rfl (Nat.le_of_ble_eq_true rfl) (hX10_settle.at 45 rfl rfl) (fun x4 => ?_)
      refine os_goto (off := 4) (tgt := 81) rfl (hX10_settle.at 46 rfl rfl) ?_
      exact osW.sub [0, 1, 2] rfl (sX10_settle_81 N c33 c41 g33 g41 l0 l1 l2 x4 (((165 : Int32) + ((6 : Int32) * l1)) + l2) x1)
set_option maxRecDepth 100000 in
set_option maxHeartbeats 4000000 in
theorem sX10_settle_41 (N : Nat) (c33 : Nat × Int32 → osM Int32) (g33 : ∀ (l0 : Nat) (l1 : Int32), osW (osFinM (fun r : Int32 => some (.int r)) 0 0) yX10_settle cX10_settle 3 (some .int) [] { frames := 7, cells := 0, slots := 0, locals := 158 } 0 0 33 [(0, .ref l0), (1, .int l1)] [] (c33 (l0, l1))) (l0 : Nat) (l1 : Int32) (l2 : Int32) : osW (osFinM (fun r : Int32 => some (.int r)) 0 0) yX10_settle cX10_settle 3 (some .int) [] { frames := 7, cells := 0, slots := 0, locals := 158 } 0 0 41 [(0, .ref l0), (1, .int l1), (2, .int l2)] [] (qX10_settle_41 N c33 (l0, l1, l2)) :=
  osloop_W (lvf := fun p => [(0, .ref p.1), (1, .int p.2.1), (2, .int p.2.2)]) (stf := fun p => []) (fun ih g p => tX10_settle_41 N c33 ih g33 (fun l0 l1 l2 => g (l0, l1, l2)) p.1 p.2.1 p.2.2) N (l0, l1, l2)
set_option maxRecDepth 100000 in
set_option maxHeartbeats 4000000 in
theorem tX10_settle_33 (N : Nat) (c33 : Nat × Int32 → osM Int32) (g33 : ∀ (l0 : Nat) (l1 : Int32), osW (osFinM (fun r : Int32 => some (.int r)) 0 0) yX10_settle cX10_settle 3 (some .int) [] { frames := 7, cells := 0, slots := 0, locals := 158 } 0 0 33 [(0, .ref l0), (1, .int l1)] [] (c33 (l0, l1))) (l0 : Nat) (l1 : Int32) : osW (osFinM (fun r : Int32 => some (.int r)) 0 0) yX10_settle cX10_settle 3 (some .int) [] { frames := 7, cells := 0, slots := 0, locals := 158 } 0 0 33 [(0, .ref l0), (1, .int l1)] [] (bX10_settle_33 N c33 l0 l1) := by
  unfold bX10_settle_33
  refine os_iload_n (i := 1) (q := 1) (v := l1) 1 rfl rfl (hX10_settle.at 19 rfl rfl) ?_
  refine os_bipush (i := 16) (v := (16 : Int32)) rfl (hX10_settle.at 20 rfl rfl) ?_
  refine os_icmp_ge (off := 58) (tgt := 94) rfl (hX10_settle.at 21 rfl rfl) ?_ ?_
  · refine os_aload_n (i := 0) (q := 0) (v := l0) 0 rfl rfl (hX10_settle.at 53 rfl rfl) ?_
    refine os_getR fX10_16 (hX10_settle.at 54 rfl rfl) (fun x1 => ?_)
    refine os_iconst (i := 2) (v := (2 : Int32)) rfl (hX10_settle.at 55 rfl rfl) ?_
    refine os_iconst (i := 1) (v := (1 : Int32)) rfl (hX10_settle.at 56 rfl rfl) ?_
    refine os_iastore (hX10_settle.at 57 rfl rfl) ?_
    refine os_aload_n (i := 0) (q := 0) (v := l0) 0 rfl rfl (hX10_settle.at 58 rfl rfl) ?_
    refine os_getR fX10_16 (hX10_settle.at 59 rfl rfl) (fun x2 => ?_)
    refine os_iconst (i := 3) (v := (3 : Int32)) rfl (hX10_settle.at 60 rfl rfl) ?_
    refine os_aload_n (i := 0) (q := 0) (v := l0) 0 rfl rfl (hX10_settle.at 61 rfl rfl) ?_
    refine os_getI fX10_450 (hX10_settle.at 62 rfl rfl) (fun x3 => ?_)
    refine os_iastore (hX10_settle.at 63 rfl rfl) ?_
    refine os_aload_n (i := 0) (q := 0) (v := l0) 0 rfl rfl (hX10_settle.at 64 rfl rfl) ?_
    refine os_callV (cis := [8]) (b := l0) (As := []) (st := []) (st' := (fun _ => [])) sl8_X10_leads_X10_leads mdX10_leads wd2165 wd2167 (sX10_leads N l0 ) rfl rfl (fun _ => rfl) (Nat.le_of_ble_eq_true rfl) (Nat.le_of_ble_eq_true rfl) (Nat.le_of_ble_eq_true rfl) rfl (Nat.le_of_ble_eq_true rfl) rfl (Nat.le_of_ble_eq_true rfl) (hX10_settle.at 65 rfl rfl) (fun _ => ?_)
    refine os_aload_n (i := 0) (q := 0) (v := l0) 0 rfl rfl (hX10_settle.at 66 rfl rfl) ?_
    refine os_getR fX10_16 (hX10_settle.at 67 rfl rfl) (fun x4 => ?_)
    refine os_iconst (i := 4) (v := (4 : Int32)) rfl (hX10_settle.at 68 rfl rfl) ?_
    refine os_aload_n (i := 0) (q := 0) (v := l0) 0 rfl rfl (hX10_settle.at 69 rfl rfl) ?_
    refine os_callV (cis := [8]) (b := l0) (As := []) (st := [.int (4 : Int32), .ref x4]) (st' := (fun r => .int r :: [.int (4 : Int32), .ref x4])) sl8_X10_contestedNow_X10_contestedNow mdX10_contestedNow wd2169 wd2171 (sX10_contestedNow N l0 ) rfl rfl (fun _ => rfl) (Nat.le_of_ble_eq_true rfl) (Nat.le_of_ble_eq_true rfl) (Nat.le_of_ble_eq_true rfl) rfl (Nat.le_of_ble_eq_true rfl) rfl (Nat.le_of_ble_eq_true rfl) (hX10_settle.at 70 rfl rfl) (fun x5 => ?_)
    refine os_iastore (hX10_settle.at 71 rfl rfl) ?_
    refine os_aload_n (i := 0) (q := 0) (v := l0) 0 rfl rfl (hX10_settle.at 72 rfl rfl) ?_
    refine os_getI fX10_380 (hX10_settle.at 73 rfl rfl) (fun x6 => ?_)
    refine os_if_eq (off := 13) (tgt := 142) rfl (hX10_settle.at 74 rfl rfl) ?_ ?_
    · refine os_aload_n (i := 0) (q := 0) (v := l0) 0 rfl rfl (hX10_settle.at 81 rfl rfl) ?_
      refine os_callV (cis := [8]) (b := l0) (As := []) (st := []) (st' := (fun _ => [])) sl8_X10_endsTurn_X10_endsTurn mdX10_endsTurn wd2173 wd2175 (sX10_endsTurn N l0 ) rfl rfl (fun _ => rfl) (Nat.le_of_ble_eq_true rfl) (Nat.le_of_ble_eq_true rfl) (Nat.le_of_ble_eq_true rfl) rfl (Nat.le_of_ble_eq_true rfl) rfl (Nat.le_of_ble_eq_true rfl) (hX10_settle.at 82 rfl rfl) (fun _ => ?_)
      exact osW.sub [0] rfl (sX10_settle_146 N l0)
    · refine os_aload_n (i := 0) (q := 0) (v := l0) 0 rfl rfl (hX10_settle.at 75 rfl rfl) ?_
      refine os_getR fX10_16 (hX10_settle.at 76 rfl rfl) (fun x7 => ?_)
      refine os_iconst (i := 0) (v := (0 : Int32)) rfl (hX10_settle.at 77 rfl rfl) ?_
      refine os_iconst (i := 1) (v := (1 : Int32)) rfl (hX10_settle.at 78 rfl rfl) ?_
      refine os_iastore (hX10_settle.at 79 rfl rfl) ?_
      refine os_goto (off := 7) (tgt := 146) rfl (hX10_settle.at 80 rfl rfl) ?_
      exact osW.sub [0] rfl (sX10_settle_146 N l0)
  · refine os_iconst (i := 0) (v := (0 : Int32)) rfl (hX10_settle.at 22 rfl rfl) ?_
    refine os_istore_n (i := 2) (q := 2) rfl (lv' := [(2, .int (0 : Int32)), (0, .ref l0), (1, .int l1)]) (Nat.le_of_ble_eq_true rfl) rfl (hX10_settle.at 23 rfl rfl) ?_
    exact osW.sub [1, 2, 0] rfl (sX10_settle_41 N c33 g33 l0 l1 (0 : Int32))
set_option maxRecDepth 100000 in
set_option maxHeartbeats 4000000 in
theorem sX10_settle_33 (N : Nat) (l0 : Nat) (l1 : Int32) : osW (osFinM (fun r : Int32 => some (.int r)) 0 0) yX10_settle cX10_settle 3 (some .int) [] { frames := 7, cells := 0, slots := 0, locals := 158 } 0 0 33 [(0, .ref l0), (1, .int l1)] [] (qX10_settle_33 N (l0, l1)) :=
  osloop_W (lvf := fun p => [(0, .ref p.1), (1, .int p.2)]) (stf := fun p => []) (fun ih g p => tX10_settle_33 N ih (fun l0 l1 => g (l0, l1)) p.1 p.2) N (l0, l1)
set_option maxRecDepth 100000 in
set_option maxHeartbeats 4000000 in
theorem sX10_settle_15 (N : Nat) (l0 : Nat) (k0 : Int32) (k1 : Nat) : osW (osFinM (fun r : Int32 => some (.int r)) 0 0) yX10_settle cX10_settle 3 (some .int) [] { frames := 7, cells := 0, slots := 0, locals := 158 } 0 0 15 [(0, .ref l0)] [.int k0, .ref k1] (qX10_settle_15 N l0 k0 k1) := by
  unfold qX10_settle_15
  refine os_callV (cis := [8]) (b := k1) (As := [.int k0]) (st := []) (st' := (fun r => .int r :: [])) sl8_X10_isRefused_X10_isRefused mdX10_isRefused wd2017 wd2019 (sX10_isRefused N k1 k0) rfl rfl (fun _ => rfl) (Nat.le_of_ble_eq_true rfl) (Nat.le_of_ble_eq_true rfl) (Nat.le_of_ble_eq_true rfl) rfl (Nat.le_of_ble_eq_true rfl) rfl (Nat.le_of_ble_eq_true rfl) (hX10_settle.at 9 rfl rfl) (fun x1 => ?_)
  refine os_if_eq (off := 5) (tgt := 23) rfl (hX10_settle.at 10 rfl rfl) ?_ ?_
  · refine os_aload_n (i := 0) (q := 0) (v := l0) 0 rfl rfl (hX10_settle.at 13 rfl rfl) ?_
    refine os_callV (cis := [8]) (b := l0) (As := []) (st := []) (st' := (fun _ => [])) sl8_X10_remembers_X10_remembers mdX10_remembers wd2078 wd2080 (sX10_remembers N l0 ) rfl rfl (fun _ => rfl) (Nat.le_of_ble_eq_true rfl) (Nat.le_of_ble_eq_true rfl) (Nat.le_of_ble_eq_true rfl) rfl (Nat.le_of_ble_eq_true rfl) rfl (Nat.le_of_ble_eq_true rfl) (hX10_settle.at 14 rfl rfl) (fun _ => ?_)
    refine os_aload_n (i := 0) (q := 0) (v := l0) 0 rfl rfl (hX10_settle.at 15 rfl rfl) ?_
    refine os_callV (cis := [8]) (b := l0) (As := []) (st := []) (st' := (fun _ => [])) sl8_X10_decides_X10_decides mdX10_decides wd2082 wd2084 (sX10_decides N l0 ) rfl rfl (fun _ => rfl) (Nat.le_of_ble_eq_true rfl) (Nat.le_of_ble_eq_true rfl) (Nat.le_of_ble_eq_true rfl) rfl (Nat.le_of_ble_eq_true rfl) rfl (Nat.le_of_ble_eq_true rfl) (hX10_settle.at 16 rfl rfl) (fun _ => ?_)
    refine os_iconst (i := 0) (v := (0 : Int32)) rfl (hX10_settle.at 17 rfl rfl) ?_
    refine os_istore_n (i := 1) (q := 1) rfl (lv' := [(1, .int (0 : Int32)), (0, .ref l0)]) (Nat.le_of_ble_eq_true rfl) rfl (hX10_settle.at 18 rfl rfl) ?_
    exact osW.sub [1, 0] rfl (sX10_settle_33 N l0 (0 : Int32))
  · refine os_iconst (i := 0) (v := (0 : Int32)) rfl (hX10_settle.at 11 rfl rfl) ?_
    exact os_iret (Nat.le_of_ble_eq_true rfl) (Nat.le_of_ble_eq_true rfl) (hX10_settle.at 12 rfl rfl).1
set_option maxRecDepth 100000 in
set_option maxHeartbeats 4000000 in
theorem sX10_settle (N : Nat) (l0 : Nat) : osMet yX10_settle cX10_settle 3 (some .int) 7 158 0 0 (fun r : Int32 => some (.int r)) [.ref l0] (qX10_settle N l0) := by
  refine osMet.of plX10 (Nat.le_of_ble_eq_true rfl) (osW.rw (lv2 := [(0, .ref l0)]) ?_ rfl rfl rfl)
  unfold qX10_settle
  refine os_aload_n (i := 0) (q := 0) (v := l0) 0 rfl rfl (hX10_settle.at 0 rfl rfl) ?_
  refine os_aload_n (i := 0) (q := 0) (v := l0) 0 rfl rfl (hX10_settle.at 1 rfl rfl) ?_
  refine os_getR fX10_16 (hX10_settle.at 2 rfl rfl) (fun x1 => ?_)
  refine os_iconst (i := 0) (v := (0 : Int32)) rfl (hX10_settle.at 3 rfl rfl) ?_
  refine os_iaload (hX10_settle.at 4 rfl rfl) (fun x2 => ?_)
  refine os_if_eq (off := 7) (tgt := 14) rfl (hX10_settle.at 5 rfl rfl) ?_ ?_
  · refine os_iconst (i := 0) (v := (0 : Int32)) rfl (hX10_settle.at 8 rfl rfl) ?_
    exact osW.sub [0] rfl (sX10_settle_15 N l0 (0 : Int32) l0)
  · refine os_iconst (i := 1) (v := (1 : Int32)) rfl (hX10_settle.at 6 rfl rfl) ?_
    refine os_goto (off := 4) (tgt := 15) rfl (hX10_settle.at 7 rfl rfl) ?_
    exact osW.sub [0] rfl (sX10_settle_15 N l0 (1 : Int32) l0)
-- X10_result
def KX10_result : List (Nat × Nat × Instr) := [(0, 1, .aload_n 0), (1, 1, .aload_n 0), (2, 1, .iload_n 1), (3, 3, .invokevirtual 99), (6, 3, .ifCond .ne 7), (9, 1, .iconst 1), (10, 3, .goto 30), (13, 1, .iload_n 2), (14, 1, .iconst 0), (15, 1, .iconst 5), (16, 3, .invokestatic 95), (19, 3, .ifCond .ne 7), (22, 1, .iconst 2), (23, 3, .goto 17), (26, 1, .aload_n 0), (27, 3, .getfield 16), (30, 1, .iconst 2), (31, 1, .iaload), (32, 3, .ifCond .ne 7), (35, 1, .iconst 3), (36, 3, .goto 4), (39, 1, .iconst 0), (40, 3, .invokevirtual 354), (43, 3, .ifCond .eq 5), (46, 1, .iconst 0), (47, 1, .ireturn), (48, 1, .aload_n 0), (49, 3, .getfield 16), (52, 3, .sipush 165), (55, 2, .bipush 6), (57, 1, .iload_n 1), (58, 1, .imul), (59, 1, .iadd), (60, 1, .iload_n 2), (61, 1, .iadd), (62, 1, .iaload), (63, 1, .ireturn)]
theorem hX10_result : osDs cX10_result KX10_result := by
  show ∀ q ∈ KX10_result, decode cX10_result q.1 = .ok (q.2.2, q.2.1)
  decide +kernel
def qX10_result_40 (N : Nat) (l0 : Nat) (l1 : Int32) (l2 : Int32) (k0 : Int32) (k1 : Nat) : osM Int32 := osbind (osrecv [8] k1 (qX10_isRefused N k1 k0)) fun x1 => osite (x1 = 0) (osbind (osgR [8] 3 l0) fun x2 => osbind (osaI 0 x2 (((165 : Int32) + ((6 : Int32) * l1)) + l2)) fun x3 => osret x3) (osret (0 : Int32))
def qX10_result (N : Nat) (l0 : Nat) (l1 : Int32) (l2 : Int32) : osM Int32 := osbind (osrecv [8] l0 (qX10_isArea N l0 l1)) fun x1 => osite (x1 = 0) (qX10_result_40 N l0 l1 l2 (1 : Int32) l0) (osbind (qX10_in N l2 (0 : Int32) (5 : Int32)) fun x2 => osite (x2 = 0) (qX10_result_40 N l0 l1 l2 (2 : Int32) l0) (osbind (osgR [8] 3 l0) fun x3 => osbind (osaI 0 x3 (2 : Int32)) fun x4 => osite (x4 = 0) (qX10_result_40 N l0 l1 l2 (3 : Int32) l0) (qX10_result_40 N l0 l1 l2 (0 : Int32) l0)))
set_option maxRecDepth 100000 in
set_option maxHeartbeats 4000000 in
theorem sX10_result_40 (N : Nat) (l0 : Nat) (l1 : Int32) (l2 : Int32) (k0 : Int32) (k1 : Nat) : osW (osFinM (fun r : Int32 => some (.int r)) 0 0) yX10_result cX10_result 3 (some .int) [] { frames := 2, cells := 0, slots := 0, locals := 43 } 0 0 40 [(0, .ref l0), (1, .int l1), (2, .int l2)] [.int k0, .ref k1] (qX10_result_40 N l0 l1 l2 k0 k1) := by
  unfold qX10_result_40
  refine os_callV (cis := [8]) (b := k1) (As := [.int k0]) (st := []) (st' := (fun r => .int r :: [])) sl8_X10_isRefused_X10_isRefused mdX10_isRefused wd2017 wd2019 (sX10_isRefused N k1 k0) rfl rfl (fun _ => rfl) (Nat.le_of_ble_eq_true rfl) (Nat.le_of_ble_eq_true rfl) (Nat.le_of_ble_eq_true rfl) rfl (Nat.le_of_ble_eq_true rfl) rfl (Nat.le_of_ble_eq_true rfl) (hX10_result.at 22 rfl rfl) (fun x1 => ?_)
  refine os_if_eq (off := 5) (tgt := 48) rfl (hX10_result.at 23 rfl rfl) ?_ ?_
  · refine os_aload_n (i := 0) (q := 0) (v := l0) 0 rfl rfl (hX10_result.at 26 rfl rfl) ?_
    refine os_getR fX10_16 (hX10_result.at 27 rfl rfl) (fun x2 => ?_)
    refine os_sipush (i := 165) (v := (165 : Int32)) rfl (hX10_result.at 28 rfl rfl) ?_
    refine os_bipush (i := 6) (v := (6 : Int32)) rfl (hX10_result.at 29 rfl rfl) ?_
    refine os_iload_n (i := 1) (q := 1) (v := l1) 1 rfl rfl (hX10_result.at 30 rfl rfl) ?_
    refine os_imul (hX10_result.at 31 rfl rfl) ?_
    refine os_iadd (hX10_result.at 32 rfl rfl) ?_
    refine os_iload_n (i := 2) (q := 2) (v := l2) 2 rfl rfl (hX10_result.at 33 rfl rfl) ?_
    refine os_iadd (hX10_result.at 34 rfl rfl) ?_
    refine os_iaload (hX10_result.at 35 rfl rfl) (fun x3 => ?_)
    exact os_iret (Nat.le_of_ble_eq_true rfl) (Nat.le_of_ble_eq_true rfl) (hX10_result.at 36 rfl rfl).1
  · refine os_iconst (i := 0) (v := (0 : Int32)) rfl (hX10_result.at 24 rfl rfl) ?_
    exact os_iret (Nat.le_of_ble_eq_true rfl) (Nat.le_of_ble_eq_true rfl) (hX10_result.at 25 rfl rfl).1
set_option maxRecDepth 100000 in
set_option maxHeartbeats 4000000 in
theorem sX10_result (N : Nat) (l0 : Nat) (l1 : Int32) (l2 : Int32) : osMet yX10_result cX10_result 3 (some .int) 2 43 0 0 (fun r : Int32 => some (.int r)) [.ref l0, .int l1, .int l2] (qX10_result N l0 l1 l2) := by
  refine osMet.of plX10 (Nat.le_of_ble_eq_true rfl) (osW.rw (lv2 := [(0, .ref l0), (1, .int l1), (2, .int l2)]) ?_ rfl rfl rfl)
  unfold qX10_result
  refine os_aload_n (i := 0) (q := 0) (v := l0) 0 rfl rfl (hX10_result.at 0 rfl rfl) ?_
  refine os_aload_n (i := 0) (q := 0) (v := l0) 0 rfl rfl (hX10_result.at 1 rfl rfl) ?_
  refine os_iload_n (i := 1) (q := 1) (v := l1) 1 rfl rfl (hX10_result.at 2 rfl rfl) ?_
  refine os_callV (cis := [8]) (b := l0) (As := [.int l1]) (st := [.ref l0]) (st' := (fun r => .int r :: [.ref l0])) sl8_X10_isArea_X10_isArea mdX10_isArea wd2013 wd2015 (sX10_isArea N l0 l1) rfl rfl (fun _ => rfl) (Nat.le_of_ble_eq_true rfl) (Nat.le_of_ble_eq_true rfl) (Nat.le_of_ble_eq_true rfl) rfl (Nat.le_of_ble_eq_true rfl) rfl (Nat.le_of_ble_eq_true rfl) (hX10_result.at 3 rfl rfl) (fun x1 => ?_)
  refine os_if_ne (off := 7) (tgt := 13) rfl (hX10_result.at 4 rfl rfl) ?_ ?_
  · refine os_iload_n (i := 2) (q := 2) (v := l2) 2 rfl rfl (hX10_result.at 7 rfl rfl) ?_
    refine os_iconst (i := 0) (v := (0 : Int32)) rfl (hX10_result.at 8 rfl rfl) ?_
    refine os_iconst (i := 5) (v := (5 : Int32)) rfl (hX10_result.at 9 rfl rfl) ?_
    refine os_callS (As := [.int l2, .int (0 : Int32), .int (5 : Int32)]) (st := [.ref l0]) (st' := (fun r => .int r :: [.ref l0])) mdX10_in wd1770 wd1771 (sX10_in N l2 (0 : Int32) (5 : Int32)) rfl rfl (fun _ => rfl) (Nat.le_of_ble_eq_true rfl) (Nat.le_of_ble_eq_true rfl) (Nat.le_of_ble_eq_true rfl) rfl (Nat.le_of_ble_eq_true rfl) rfl (Nat.le_of_ble_eq_true rfl) (hX10_result.at 10 rfl rfl) (fun x2 => ?_)
    refine os_if_ne (off := 7) (tgt := 26) rfl (hX10_result.at 11 rfl rfl) ?_ ?_
    · refine os_aload_n (i := 0) (q := 0) (v := l0) 0 rfl rfl (hX10_result.at 14 rfl rfl) ?_
      refine os_getR fX10_16 (hX10_result.at 15 rfl rfl) (fun x3 => ?_)
      refine os_iconst (i := 2) (v := (2 : Int32)) rfl (hX10_result.at 16 rfl rfl) ?_
      refine os_iaload (hX10_result.at 17 rfl rfl) (fun x4 => ?_)
      refine os_if_ne (off := 7) (tgt := 39) rfl (hX10_result.at 18 rfl rfl) ?_ ?_
      · refine os_iconst (i := 0) (v := (0 : Int32)) rfl (hX10_result.at 21 rfl rfl) ?_
        exact osW.sub [0, 1, 2] rfl (sX10_result_40 N l0 l1 l2 (0 : Int32) l0)
      · refine os_iconst (i := 3) (v := (3 : Int32)) rfl (hX10_result.at 19 rfl rfl) ?_
        refine os_goto (off := 4) (tgt := 40) rfl (hX10_result.at 20 rfl rfl) ?_
        exact osW.sub [0, 1, 2] rfl (sX10_result_40 N l0 l1 l2 (3 : Int32) l0)
    · refine os_iconst (i := 2) (v := (2 : Int32)) rfl (hX10_result.at 12 rfl rfl) ?_
      refine os_goto (off := 17) (tgt := 40) rfl (hX10_result.at 13 rfl rfl) ?_
      exact osW.sub [0, 1, 2] rfl (sX10_result_40 N l0 l1 l2 (2 : Int32) l0)
  · refine os_iconst (i := 1) (v := (1 : Int32)) rfl (hX10_result.at 5 rfl rfl) ?_
    refine os_goto (off := 30) (tgt := 40) rfl (hX10_result.at 6 rfl rfl) ?_
    exact osW.sub [0, 1, 2] rfl (sX10_result_40 N l0 l1 l2 (1 : Int32) l0)
-- X10_outcomes
def KX10_outcomes : List (Nat × Nat × Instr) := [(0, 1, .aload_n 0), (1, 1, .aload_n 0), (2, 3, .getfield 16), (5, 1, .iconst 2), (6, 1, .iaload), (7, 3, .ifCond .ne 7), (10, 1, .iconst 1), (11, 3, .goto 4), (14, 1, .iconst 0), (15, 3, .invokevirtual 354), (18, 3, .ifCond .eq 7), (21, 1, .iconst 0), (22, 3, .goto 9), (25, 1, .aload_n 0), (26, 3, .getfield 16), (29, 1, .iconst 3), (30, 1, .iaload), (31, 1, .ireturn)]
theorem hX10_outcomes : osDs cX10_outcomes KX10_outcomes := by
  show ∀ q ∈ KX10_outcomes, decode cX10_outcomes q.1 = .ok (q.2.2, q.2.1)
  decide +kernel
def qX10_outcomes_31 (N : Nat) (k0 : Int32) : osM Int32 := osret k0
def qX10_outcomes_15 (N : Nat) (l0 : Nat) (k0 : Int32) (k1 : Nat) : osM Int32 := osbind (osrecv [8] k1 (qX10_isRefused N k1 k0)) fun x1 => osite (x1 = 0) (osbind (osgR [8] 3 l0) fun x2 => osbind (osaI 0 x2 (3 : Int32)) fun x3 => qX10_outcomes_31 N x3) (qX10_outcomes_31 N (0 : Int32))
def qX10_outcomes (N : Nat) (l0 : Nat) : osM Int32 := osbind (osgR [8] 3 l0) fun x1 => osbind (osaI 0 x1 (2 : Int32)) fun x2 => osite (x2 = 0) (qX10_outcomes_15 N l0 (1 : Int32) l0) (qX10_outcomes_15 N l0 (0 : Int32) l0)
set_option maxRecDepth 100000 in
set_option maxHeartbeats 4000000 in
theorem sX10_outcomes_31 (N : Nat) (k0 : Int32) : osW (osFinM (fun r : Int32 => some (.int r)) 0 0) yX10_outcomes cX10_outcomes 1 (some .int) [] { frames := 1, cells := 0, slots := 0, locals := 21 } 0 0 31 [] [.int k0] (qX10_outcomes_31 N k0) := by
  unfold qX10_outcomes_31
  exact os_iret (Nat.le_of_ble_eq_true rfl) (Nat.le_of_ble_eq_true rfl) (hX10_outcomes.at 17 rfl rfl).1
set_option maxRecDepth 100000 in
set_option maxHeartbeats 4000000 in
theorem sX10_outcomes_15 (N : Nat) (l0 : Nat) (k0 : Int32) (k1 : Nat) : osW (osFinM (fun r : Int32 => some (.int r)) 0 0) yX10_outcomes cX10_outcomes 1 (some .int) [] { frames := 1, cells := 0, slots := 0, locals := 21 } 0 0 15 [(0, .ref l0)] [.int k0, .ref k1] (qX10_outcomes_15 N l0 k0 k1) := by
  unfold qX10_outcomes_15
  refine os_callV (cis := [8]) (b := k1) (As := [.int k0]) (st := []) (st' := (fun r => .int r :: [])) sl8_X10_isRefused_X10_isRefused mdX10_isRefused wd2017 wd2019 (sX10_isRefused N k1 k0) rfl rfl (fun _ => rfl) (Nat.le_of_ble_eq_true rfl) (Nat.le_of_ble_eq_true rfl) (Nat.le_of_ble_eq_true rfl) rfl (Nat.le_of_ble_eq_true rfl) rfl (Nat.le_of_ble_eq_true rfl) (hX10_outcomes.at 9 rfl rfl) (fun x1 => ?_)
  refine os_if_eq (off := 7) (tgt := 25) rfl (hX10_outcomes.at 10 rfl rfl) ?_ ?_
  · refine os_aload_n (i := 0) (q := 0) (v := l0) 0 rfl rfl (hX10_outcomes.at 13 rfl rfl) ?_
    refine os_getR fX10_16 (hX10_outcomes.at 14 rfl rfl) (fun x2 => ?_)
    refine os_iconst (i := 3) (v := (3 : Int32)) rfl (hX10_outcomes.at 15 rfl rfl) ?_
    refine os_iaload (hX10_outcomes.at 16 rfl rfl) (fun x3 => ?_)
    exact osW.sub [] rfl (sX10_outcomes_31 N x3)
  · refine os_iconst (i := 0) (v := (0 : Int32)) rfl (hX10_outcomes.at 11 rfl rfl) ?_
    refine os_goto (off := 9) (tgt := 31) rfl (hX10_outcomes.at 12 rfl rfl) ?_
    exact osW.sub [] rfl (sX10_outcomes_31 N (0 : Int32))
set_option maxRecDepth 100000 in
set_option maxHeartbeats 4000000 in
theorem sX10_outcomes (N : Nat) (l0 : Nat) : osMet yX10_outcomes cX10_outcomes 1 (some .int) 1 21 0 0 (fun r : Int32 => some (.int r)) [.ref l0] (qX10_outcomes N l0) := by
  refine osMet.of plX10 (Nat.le_of_ble_eq_true rfl) (osW.rw (lv2 := [(0, .ref l0)]) ?_ rfl rfl rfl)
  unfold qX10_outcomes
  refine os_aload_n (i := 0) (q := 0) (v := l0) 0 rfl rfl (hX10_outcomes.at 0 rfl rfl) ?_
  refine os_aload_n (i := 0) (q := 0) (v := l0) 0 rfl rfl (hX10_outcomes.at 1 rfl rfl) ?_
  refine os_getR fX10_16 (hX10_outcomes.at 2 rfl rfl) (fun x1 => ?_)
  refine os_iconst (i := 2) (v := (2 : Int32)) rfl (hX10_outcomes.at 3 rfl rfl) ?_
  refine os_iaload (hX10_outcomes.at 4 rfl rfl) (fun x2 => ?_)
  refine os_if_ne (off := 7) (tgt := 14) rfl (hX10_outcomes.at 5 rfl rfl) ?_ ?_
  · refine os_iconst (i := 0) (v := (0 : Int32)) rfl (hX10_outcomes.at 8 rfl rfl) ?_
    exact osW.sub [0] rfl (sX10_outcomes_15 N l0 (0 : Int32) l0)
  · refine os_iconst (i := 1) (v := (1 : Int32)) rfl (hX10_outcomes.at 6 rfl rfl) ?_
    refine os_goto (off := 4) (tgt := 15) rfl (hX10_outcomes.at 7 rfl rfl) ?_
    exact osW.sub [0] rfl (sX10_outcomes_15 N l0 (1 : Int32) l0)
