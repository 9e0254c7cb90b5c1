-- X1_init
def KX1_init : List (Nat × Nat × Instr) := [(0, 1, .aload_n 0), (1, 3, .invokespecial 3), (4, 1, .aload_n 0), (5, 3, .new 9), (8, 1, .dup), (9, 3, .invokespecial 11), (12, 3, .putfield 12), (15, 1, .aload_n 0), (16, 1, .iconst 1), (17, 3, .putfield 18), (20, 1, .aload_n 0), (21, 1, .iconst 0), (22, 3, .putfield 22), (25, 1, .aload_n 0), (26, 1, .iconst 0), (27, 3, .putfield 26), (30, 1, .aload_n 0), (31, 1, .iconst 0), (32, 3, .putfield 29), (35, 1, .aload_n 0), (36, 1, .iconst 0), (37, 3, .putfield 32), (40, 1, .aload_n 0), (41, 1, .iconst 0), (42, 3, .putfield 35), (45, 1, .aload_n 0), (46, 1, .iconst 0), (47, 3, .putfield 38), (50, 1, .return_)]
theorem hX1_init : osDs cX1_init KX1_init := by
  show ∀ q ∈ KX1_init, decode cX1_init q.1 = .ok (q.2.2, q.2.1)
  decide +kernel
def qX1_init (N : Nat) (l0 : Nat) : osM Unit := osbind (osnew (.inr (2, [.int 0, .int 0, .int 0, .int 0, .int 0, .int 0, .null, .null, .null, .null, .null, .null, .null, .null, .null, .null]))) fun x1 => osbind (qX2_init N x1) fun _ => osbind (osput [1] 0 l0 (.ref x1)) fun _ => osguard ((1 : Int32) = 0 ∨ (1 : Int32) = 1) (osbind (osput [1] 1 l0 (.int (1 : Int32))) fun _ => osbind (osput [1] 2 l0 (.int (0 : Int32))) fun _ => osbind (osput [1] 3 l0 (.int (0 : Int32))) fun _ => osbind (osput [1] 4 l0 (.int (0 : Int32))) fun _ => osbind (osput [1] 5 l0 (.int (0 : Int32))) fun _ => osbind (osput [1] 6 l0 (.int (0 : Int32))) fun _ => osbind (osput [1] 7 l0 (.int (0 : Int32))) fun _ => osret ())
set_option maxRecDepth 100000 in
set_option maxHeartbeats 4000000 in
theorem sX1_init (N : Nat) (l0 : Nat) : osMet yX1_init cX1_init 1 none 2 40 11 176 (fun _ : Unit => none) [.ref l0] (qX1_init N l0) := by
  refine osMet.of plX1 (Nat.le_of_ble_eq_true rfl) (osW.rw (lv2 := [(0, .ref l0)]) ?_ rfl rfl rfl)
  unfold qX1_init
  refine os_aload_n (i := 0) (q := 0) (v := l0) 0 rfl rfl (hX1_init.at 0 rfl rfl) ?_
  refine os_objInit wd176 wd88 wd89 (Nat.le_of_ble_eq_true rfl) (Nat.le_of_ble_eq_true rfl) (Nat.le_of_ble_eq_true rfl) (hX1_init.at 1 rfl rfl) ?_
  refine os_aload_n (i := 0) (q := 0) (v := l0) 0 rfl rfl (hX1_init.at 2 rfl rfl) ?_
  refine os_new (C := RX2) (T := TX2) (N := 16) (ci := 2) (ty0 := tyX2) rfl tyX2_ok osinX2 wd177 wd178 wd60 dfX2 (Nat.le_of_ble_eq_true rfl) (Nat.le_of_ble_eq_true rfl) (hX1_init.at 3 rfl rfl) (fun x1 => ?_)
  refine os_dup rfl (hX1_init.at 4 rfl rfl) ?_
  refine os_callIN (host := "OrderSettler") (b := x1) (As := []) (st := [.ref x1, .ref l0]) (st' := (fun _ => [.ref x1, .ref l0])) mdX2_init rfl wd179 wd180 (sX2_init N x1 ) rfl rfl (fun _ => rfl) (Nat.le_of_ble_eq_true rfl) (Nat.le_of_ble_eq_true rfl) (Nat.le_of_ble_eq_true rfl) rfl (Nat.le_of_ble_eq_true rfl) rfl (Nat.le_of_ble_eq_true rfl) (hX1_init.at 5 rfl rfl) (fun _ => ?_)
  refine os_putF fX1_12 rfl (osHd1 rfl rfl) rfl rfl (hX1_init.at 6 rfl rfl) ?_
  refine os_aload_n (i := 0) (q := 0) (v := l0) 0 rfl rfl (hX1_init.at 7 rfl rfl) ?_
  refine os_iconst (i := 1) (v := (1 : Int32)) rfl (hX1_init.at 8 rfl rfl) ?_
  refine os_guard (fun h2 => ?_)
  refine os_put fX1_18 (osz_narrow h2) (osz_fits h2) (hX1_init.at 9 rfl rfl) ?_
  refine os_aload_n (i := 0) (q := 0) (v := l0) 0 rfl rfl (hX1_init.at 10 rfl rfl) ?_
  refine os_iconst (i := 0) (v := (0 : Int32)) rfl (hX1_init.at 11 rfl rfl) ?_
  refine os_put fX1_22 rfl rfl (hX1_init.at 12 rfl rfl) ?_
  refine os_aload_n (i := 0) (q := 0) (v := l0) 0 rfl rfl (hX1_init.at 13 rfl rfl) ?_
  refine os_iconst (i := 0) (v := (0 : Int32)) rfl (hX1_init.at 14 rfl rfl) ?_
  refine os_put fX1_26 rfl rfl (hX1_init.at 15 rfl rfl) ?_
  refine os_aload_n (i := 0) (q := 0) (v := l0) 0 rfl rfl (hX1_init.at 16 rfl rfl) ?_
  refine os_iconst (i := 0) (v := (0 : Int32)) rfl (hX1_init.at 17 rfl rfl) ?_
  refine os_put fX1_29 rfl rfl (hX1_init.at 18 rfl rfl) ?_
  refine os_aload_n (i := 0) (q := 0) (v := l0) 0 rfl rfl (hX1_init.at 19 rfl rfl) ?_
  refine os_iconst (i := 0) (v := (0 : Int32)) rfl (hX1_init.at 20 rfl rfl) ?_
  refine os_put fX1_32 rfl rfl (hX1_init.at 21 rfl rfl) ?_
  refine os_aload_n (i := 0) (q := 0) (v := l0) 0 rfl rfl (hX1_init.at 22 rfl rfl) ?_
  refine os_iconst (i := 0) (v := (0 : Int32)) rfl (hX1_init.at 23 rfl rfl) ?_
  refine os_put fX1_35 rfl rfl (hX1_init.at 24 rfl rfl) ?_
  refine os_aload_n (i := 0) (q := 0) (v := l0) 0 rfl rfl (hX1_init.at 25 rfl rfl) ?_
  refine os_iconst (i := 0) (v := (0 : Int32)) rfl (hX1_init.at 26 rfl rfl) ?_
  refine os_put fX1_38 rfl rfl (hX1_init.at 27 rfl rfl) ?_
  exact os_vret (Nat.le_of_ble_eq_true rfl) (Nat.le_of_ble_eq_true rfl) (hX1_init.at 28 rfl rfl).1
-- X1_isCarried
def KX1_isCarried : List (Nat × Nat × Instr) := [(0, 1, .aload_n 0), (1, 3, .getfield 12), (4, 3, .getfield 86), (7, 1, .iload_n 1), (8, 3, .invokestatic 102), (11, 1, .aload_n 0), (12, 3, .getfield 35), (15, 1, .iconst (-1)), (16, 1, .ixor), (17, 1, .iand), (18, 1, .istore_n 2), (19, 1, .iload_n 2), (20, 1, .aload_n 0), (21, 3, .getfield 12), (24, 3, .getfield 106), (27, 1, .iload_n 1), (28, 3, .invokestatic 102), (31, 1, .iand), (32, 1, .istore_n 3), (33, 1, .iconst 0), (34, 2, .istore 4), (36, 2, .iload 4), (38, 2, .bipush 16), (40, 3, .if_icmp .ge 66), (43, 1, .iload_n 3), (44, 2, .istore 5), (46, 1, .iconst 0), (47, 2, .istore 6), (49, 2, .iload 6), (51, 2, .bipush 16), (53, 3, .if_icmp .ge 35), (56, 1, .iload_n 3), (57, 2, .iload 6), (59, 3, .invokestatic 72), (62, 3, .ifCond .eq 20), (65, 2, .iload 5), (67, 1, .aload_n 0), (68, 3, .getfield 12), (71, 3, .getfield 109), (74, 2, .iload 6), (76, 1, .iaload), (77, 1, .iload_n 2), (78, 1, .iand), (79, 1, .ior), (80, 2, .istore 5), (82, 3, .iinc 6 1), (85, 3, .goto (-36)), (88, 2, .iload 5), (90, 1, .iload_n 3), (91, 3, .if_icmp .ne 6), (94, 3, .goto 12), (97, 2, .iload 5), (99, 1, .istore_n 3), (100, 3, .iinc 4 1), (103, 3, .goto (-67)), (106, 1, .iload_n 3), (107, 1, .aload_n 0), (108, 3, .getfield 12), (111, 3, .getfield 112), (114, 1, .iload_n 1), (115, 3, .invokestatic 102), (118, 1, .iand), (119, 3, .ifCond .eq 7), (122, 1, .iconst 1), (123, 3, .goto 4), (126, 1, .iconst 0), (127, 1, .ireturn)]
theorem hX1_isCarried : osDs cX1_isCarried KX1_isCarried := by
  show ∀ q ∈ KX1_isCarried, decode cX1_isCarried q.1 = .ok (q.2.2, q.2.1)
  decide +kernel
def qX1_isCarried_127 (N : Nat) (k0 : Int32) : osM Int32 := osretZ k0
def qX1_isCarried_106 (N : Nat) (l0 : Nat) (l1 : Int32) (l3 : Int32) : osM Int32 := osbind (osgR [1] 0 l0) fun x1 => osbind (osgR [2] 14 x1) fun x2 => osbind (qX9_entry N x2 l1) fun x3 => osite ((l3 &&& x3) = 0) (qX1_isCarried_127 N (0 : Int32)) (qX1_isCarried_127 N (1 : Int32))
def qX1_isCarried_82 (N : Nat) (c36 : Nat × Int32 × Int32 × Int32 × Int32 → osM Int32) (c49 : Nat × Int32 × Int32 × Int32 × Int32 × Int32 × Int32 → osM Int32) (l0 : Nat) (l1 : Int32) (l2 : Int32) (l3 : Int32) (l4 : Int32) (l5 : Int32) (l6 : Int32) : osM Int32 := c49 (l0, l1, l2, l3, l4, l5, (l6 + (1 : Int32)))
def bX1_isCarried_49 (N : Nat) (c36 : Nat × Int32 × Int32 × Int32 × Int32 → osM Int32) (c49 : Nat × Int32 × Int32 × Int32 × Int32 × Int32 × Int32 → osM Int32) (l0 : Nat) (l1 : Int32) (l2 : Int32) (l3 : Int32) (l4 : Int32) (l5 : Int32) (l6 : Int32) : osM Int32 := osite ((16 : Int32) ≤ l6) (osite (l5 = l3) (qX1_isCarried_106 N l0 l1 l3) (c36 (l0, l1, l2, l5, (l4 + (1 : Int32))))) (osbind (qX9_has N l3 l6) fun x1 => osite (x1 = 0) (qX1_isCarried_82 N c36 c49 l0 l1 l2 l3 l4 l5 l6) (osbind (osgR [1] 0 l0) fun x2 => osbind (osgR [2] 15 x2) fun x3 => osbind (osaI 0 x3 l6) fun x4 => qX1_isCarried_82 N c36 c49 l0 l1 l2 l3 l4 (l5 ||| (x4 &&& l2)) l6))
def qX1_isCarried_49 (N : Nat) (c36 : Nat × Int32 × Int32 × Int32 × Int32 → osM Int32) : Nat × Int32 × Int32 × Int32 × Int32 × Int32 × Int32 → osM Int32 := osloop (fun ih p => bX1_isCarried_49 N c36 ih p.1 p.2.1 p.2.2.1 p.2.2.2.1 p.2.2.2.2.1 p.2.2.2.2.2.1 p.2.2.2.2.2.2) N
def bX1_isCarried_36 (N : Nat) (c36 : Nat × Int32 × Int32 × Int32 × Int32 → osM Int32) (l0 : Nat) (l1 : Int32) (l2 : Int32) (l3 : Int32) (l4 : Int32) : osM Int32 := osite ((16 : Int32) ≤ l4) (qX1_isCarried_106 N l0 l1 l3) (qX1_isCarried_49 N c36 (l0, l1, l2, l3, l4, l3, (0 : Int32)))
def qX1_isCarried_36 (N : Nat) : Nat × Int32 × Int32 × Int32 × Int32 → osM Int32 := osloop (fun ih p => bX1_isCarried_36 N ih p.1 p.2.1 p.2.2.1 p.2.2.2.1 p.2.2.2.2) N
def qX1_isCarried (N : Nat) (l0 : Nat) (l1 : Int32) : osM Int32 := osbind (osgR [1] 0 l0) fun x1 => osbind (osgR [2] 12 x1) fun x2 => osbind (qX9_entry N x2 l1) fun x3 => osbind (osgI [1] 6 l0) fun x4 => osbind (osret ((x3 &&& (x4 ^^^ (-1 : Int32))) : Int32)) fun x5 => osbind (osgR [1] 0 l0) fun x6 => osbind (osgR [2] 13 x6) fun x7 => osbind (qX9_entry N x7 l1) fun x8 => qX1_isCarried_36 N (l0, l1, x5, (x5 &&& x8), (0 : Int32))
set_option maxRecDepth 100000 in
set_option maxHeartbeats 4000000 in
theorem sX1_isCarried_127 (N : Nat) (k0 : Int32) : osW (osFinM (fun r : Int32 => some (.int r)) 0 0) yX1_isCarried cX1_isCarried 7 (some .boolean) [] { frames := 1, cells := 0, slots := 0, locals := 21 } 0 0 127 [] [.int k0] (qX1_isCarried_127 N k0) := by
  unfold qX1_isCarried_127
  exact os_zret (Nat.le_of_ble_eq_true rfl) (Nat.le_of_ble_eq_true rfl) (hX1_isCarried.at 66 rfl rfl).1
set_option maxRecDepth 100000 in
set_option maxHeartbeats 4000000 in
theorem sX1_isCarried_106 (N : Nat) (l0 : Nat) (l1 : Int32) (l3 : Int32) : osW (osFinM (fun r : Int32 => some (.int r)) 0 0) yX1_isCarried cX1_isCarried 7 (some .boolean) [] { frames := 1, cells := 0, slots := 0, locals := 21 } 0 0 106 [(0, .ref l0), (1, .int l1), (3, .int l3)] [] (qX1_isCarried_106 N l0 l1 l3) := by
  unfold qX1_isCarried_106
  refine os_iload_n (i := 3) (q := 3) (v := l3) 2 rfl rfl (hX1_isCarried.at 55 rfl rfl) ?_
  refine os_aload_n (i := 0) (q := 0) (v := l0) 0 rfl rfl (hX1_isCarried.at 56 rfl rfl) ?_
  refine os_getR fX1_12 (hX1_isCarried.at 57 rfl rfl) (fun x1 => ?_)
  refine os_getR fX1_112 (hX1_isCarried.at 58 rfl rfl) (fun x2 => ?_)
  refine os_iload_n (i := 1) (q := 1) (v := l1) 1 rfl rfl (hX1_isCarried.at 59 rfl rfl) ?_
  refine os_callSN (host := "OrderSettler") (As := [.ref x2, .int l1]) (st := [.int l3]) (st' := (fun r => .int r :: [.int l3])) mdX9_entry wd1342 wd784 (sX9_entry N x2 l1) rfl rfl (fun _ => rfl) (Nat.le_of_ble_eq_true rfl) (Nat.le_of_ble_eq_true rfl) (Nat.le_of_ble_eq_true rfl) rfl (Nat.le_of_ble_eq_true rfl) rfl (Nat.le_of_ble_eq_true rfl) (hX1_isCarried.at 60 rfl rfl) (fun x3 => ?_)
  refine os_iand (hX1_isCarried.at 61 rfl rfl) ?_
  refine os_if_eq (off := 7) (tgt := 126) rfl (hX1_isCarried.at 62 rfl rfl) ?_ ?_
  · refine os_iconst (i := 0) (v := (0 : Int32)) rfl (hX1_isCarried.at 65 rfl rfl) ?_
    exact osW.sub [] rfl (sX1_isCarried_127 N (0 : Int32))
  · refine os_iconst (i := 1) (v := (1 : Int32)) rfl (hX1_isCarried.at 63 rfl rfl) ?_
    refine os_goto (off := 4) (tgt := 127) rfl (hX1_isCarried.at 64 rfl rfl) ?_
    exact osW.sub [] rfl (sX1_isCarried_127 N (1 : Int32))
set_option maxRecDepth 100000 in
set_option maxHeartbeats 4000000 in
theorem sX1_isCarried_82 (N : Nat) (c36 : Nat × Int32 × Int32 × Int32 × Int32 → osM Int32) (c49 : Nat × Int32 × Int32 × Int32 × Int32 × Int32 × Int32 → osM Int32) (g36 : ∀ (l0 : Nat) (l1 : Int32) (l2 : Int32) (l3 : Int32) (l4 : Int32), osW (osFinM (fun r : Int32 => some (.int r)) 0 0) yX1_isCarried cX1_isCarried 7 (some .boolean) [] { frames := 1, cells := 0, slots := 0, locals := 21 } 0 0 36 [(0, .ref l0), (1, .int l1), (2, .int l2), (3, .int l3), (4, .int l4)] [] (c36 (l0, l1, l2, l3, l4))) (g49 : ∀ (l0 : Nat) (l1 : Int32) (l2 : Int32) (l3 : Int32) (l4 : Int32) (l5 : Int32) (l6 : Int32), osW (osFinM (fun r : Int32 => some (.int r)) 0 0) yX1_isCarried cX1_isCarried 7 (some .boolean) [] { frames := 1, cells := 0, slots := 0, locals := 21 } 0 0 49 [(0, .ref l0), (1, .int l1), (2, .int l2), (3, .int l3), (4, .int l4), (5, .int l5), (6, .int l6)] [] (c49 (l0, l1, l2, l3, l4, l5, l6))) (l0 : Nat) (l1 : Int32) (l2 : Int32) (l3 : Int32) (l4 : Int32) (l5 : Int32) (l6 : Int32) : osW (osFinM (fun r : Int32 => some (.int r)) 0 0) yX1_isCarried cX1_isCarried 7 (some .boolean) [] { frames := 1, cells := 0, slots := 0, locals := 21 } 0 0 82 [(0, .ref l0), (1, .int l1), (2, .int l2), (3, .int l3), (4, .int l4), (5, .int l5), (6, .int l6)] [] (qX1_isCarried_82 N c36 c49 l0 l1 l2 l3 l4 l5 l6) := by
  unfold qX1_isCarried_82
  refine os_iinc (i := 6) (d := 1) (x := l6) (v := (1 : Int32)) (lv' := [(6, .int (l6 + (1 : Int32))), (0, .ref l0), (1, .int l1), (2, .int l2), (3, .int l3), (4, .int l4), (5, .int l5)]) 6 rfl rfl (Nat.le_of_ble_eq_true rfl) rfl (hX1_isCarried.at 45 rfl rfl) ?_
  refine os_goto (off := (-36)) (tgt := 49) rfl (hX1_isCarried.at 46 rfl rfl) ?_
  exact osW.sub [1, 2, 3, 4, 5, 6, 0] rfl (g49 l0 l1 l2 l3 l4 l5 (l6 + (1 : Int32)))
set_option maxRecDepth 100000 in
set_option maxHeartbeats 4000000 in
theorem tX1_isCarried_49 (N : Nat) (c36 : Nat × Int32 × Int32 × Int32 × Int32 → osM Int32) (c49 : Nat × Int32 × Int32 × Int32 × Int32 × Int32 × Int32 → osM Int32) (g36 : ∀ (l0 : Nat) (l1 : Int32) (l2 : Int32) (l3 : Int32) (l4 : Int32), osW (osFinM (fun r : Int32 => some (.int r)) 0 0) yX1_isCarried cX1_isCarried 7 (some .boolean) [] { frames := 1, cells := 0, slots := 0, locals := 21 } 0 0 36 [(0, .ref l0), (1, .int l1), (2, .int l2), (3, .int l3), (4, .int l4)] [] (c36 (l0, l1, l2, l3, l4))) (g49 : ∀ (l0 : Nat) (l1 : Int32) (l2 : Int32) (l3 : Int32) (l4 : Int32) (l5 : Int32) (l6 : Int32), osW (osFinM (fun r : Int32 => some (.int r)) 0 0) yX1_isCarried cX1_isCarried 7 (some .boolean) [] { frames := 1, cells := 0, slots := 0, locals := 21 } 0 0 49 [(0, .ref l0), (1, .int l1), (2, .int l2), (3, .int l3), (4, .int l4), (5, .int l5), (6, .int l6)] [] (c49 (l0, l1, l2, l3, l4, l5, l6))) (l0 : Nat) (l1 : Int32) (l2 : Int32) (l3 : Int32) (l4 : Int32) (l5 : Int32) (l6 : Int32) : osW (osFinM (fun r : Int32 => some (.int r)) 0 0) yX1_isCarried cX1_isCarried 7 (some .boolean) [] { frames := 1, cells := 0, slots := 0, locals := 21 } 0 0 49 [(0, .ref l0), (1, .int l1), (2, .int l2), (3, .int l3), (4, .int l4), (5, .int l5), (6, .int l6)] [] (bX1_isCarried_49 N c36 c49 l0 l1 l2 l3 l4 l5 l6) := by
  unfold bX1_isCarried_49
  refine os_iload (v := l6) 6 rfl (hX1_isCarried.at 28 rfl rfl) ?_
  refine os_bipush (i := 16) (v := (16 : Int32)) rfl (hX1_isCarried.at 29 rfl rfl) ?_
  refine os_icmp_ge (off := 35) (tgt := 88) rfl (hX1_isCarried.at 30 rfl rfl) ?_ ?_
  · refine os_iload (v := l5) 5 rfl (hX1_isCarried.at 47 rfl rfl) ?_
    refine os_iload_n (i := 3) (q := 3) (v := l3) 3 rfl rfl (hX1_isCarried.at 48 rfl rfl) ?_
    refine os_icmp_ne (off := 6) (tgt := 97) rfl (hX1_isCarried.at 49 rfl rfl) ?_ ?_
    · refine os_iload (v := l5) 5 rfl (hX1_isCarried.at 51 rfl rfl) ?_
      refine os_istore_n (i := 3) (q := 3) rfl (lv' := [(3, .int l5), (0, .ref l0), (1, .int l1), (2, .int l2), (4, .int l4), (5, .int l5), (6, .int l6)]) (Nat.le_of_ble_eq_true rfl) rfl (hX1_isCarried.at 52 rfl rfl) ?_
      refine os_iinc (i := 4) (d := 1) (x := l4) (v := (1 : Int32)) (lv' := [(4, .int (l4 + (1 : Int32))), (3, .int l5), (0, .ref l0), (1, .int l1), (2, .int l2), (5, .int l5), (6, .int l6)]) 4 rfl rfl (Nat.le_of_ble_eq_true rfl) rfl (hX1_isCarried.at 53 rfl rfl) ?_
      refine os_goto (off := (-67)) (tgt := 36) rfl (hX1_isCarried.at 54 rfl rfl) ?_
      exact osW.sub [2, 3, 4, 1, 0] rfl (g36 l0 l1 l2 l5 (l4 + (1 : Int32)))
    · refine os_goto (off := 12) (tgt := 106) rfl (hX1_isCarried.at 50 rfl rfl) ?_
      exact osW.sub [0, 1, 3] rfl (sX1_isCarried_106 N l0 l1 l3)
  · refine os_iload_n (i := 3) (q := 3) (v := l3) 3 rfl rfl (hX1_isCarried.at 31 rfl rfl) ?_
    refine os_iload (v := l6) 6 rfl (hX1_isCarried.at 32 rfl rfl) ?_
    refine os_callSN (host := "OrderSettler") (As := [.int l3, .int l6]) (st := []) (st' := (fun r => .int r :: [])) mdX9_has wd1337 wd749 (sX9_has N l3 l6) rfl rfl (fun _ => rfl) (Nat.le_of_ble_eq_true rfl) (Nat.le_of_ble_eq_true rfl) (Nat.le_of_ble_eq_true rfl) rfl (Nat.le_of_ble_eq_true rfl) rfl (Nat.le_of_ble_eq_true rfl) (hX1_isCarried.at 33 rfl rfl) (fun x1 => ?_)
    refine os_if_eq (off := 20) (tgt := 82) rfl (hX1_isCarried.at 34 rfl rfl) ?_ ?_
    · exact osW.sub [0, 1, 2, 3, 4, 5, 6] rfl (sX1_isCarried_82 N c36 c49 g36 g49 l0 l1 l2 l3 l4 l5 l6)
    · refine os_iload (v := l5) 5 rfl (hX1_isCarried.at 35 rfl rfl) ?_
      refine os_aload_n (i := 0) (q := 0) (v := l0) 0 rfl rfl (hX1_isCarried.at 36 rfl rfl) ?_
      refine os_getR fX1_12 (hX1_isCarried.at 37 rfl rfl) (fun x2 => ?_)
      refine os_getR fX1_109 (hX1_isCarried.at 38 rfl rfl) (fun x3 => ?_)
      refine os_iload (v := l6) 6 rfl (hX1_isCarried.at 39 rfl rfl) ?_
      refine os_iaload (hX1_isCarried.at 40 rfl rfl) (fun x4 => ?_)
      refine os_iload_n (i := 2) (q := 2) (v := l2) 2 rfl rfl (hX1_isCarried.at 41 rfl rfl) ?_
      refine os_iand (hX1_isCarried.at 42 rfl rfl) ?_
      refine os_ior (hX1_isCarried.at 43 rfl rfl) ?_
      refine os_istore (i := 5) (lv' := [(5, .int (l5 ||| (x4 &&& l2))), (0, .ref l0), (1, .int l1), (2, .int l2), (3, .int l3), (4, .int l4), (6, .int l6)]) (Nat.le_of_ble_eq_true rfl) rfl (hX1_isCarried.at 44 rfl rfl) ?_
      exact osW.sub [1, 2, 3, 4, 5, 0, 6] rfl (sX1_isCarried_82 N c36 c49 g36 g49 l0 l1 l2 l3 l4 (l5 ||| (x4 &&& l2)) l6)
set_option maxRecDepth 100000 in
set_option maxHeartbeats 4000000 in
theorem sX1_isCarried_49 (N : Nat) (c36 : Nat × Int32 × Int32 × Int32 × Int32 → osM Int32) (g36 : ∀ (l0 : Nat) (l1 : Int32) (l2 : Int32) (l3 : Int32) (l4 : Int32), osW (osFinM (fun r : Int32 => some (.int r)) 0 0) yX1_isCarried cX1_isCarried 7 (some .boolean) [] { frames := 1, cells := 0, slots := 0, locals := 21 } 0 0 36 [(0, .ref l0), (1, .int l1), (2, .int l2), (3, .int l3), (4, .int l4)] [] (c36 (l0, l1, l2, l3, l4))) (l0 : Nat) (l1 : Int32) (l2 : Int32) (l3 : Int32) (l4 : Int32) (l5 : Int32) (l6 : Int32) : osW (osFinM (fun r : Int32 => some (.int r)) 0 0) yX1_isCarried cX1_isCarried 7 (some .boolean) [] { frames := 1, cells := 0, slots := 0, locals := 21 } 0 0 49 [(0, .ref l0), (1, .int l1), (2, .int l2), (3, .int l3), (4, .int l4), (5, .int l5), (6, .int l6)] [] (qX1_isCarried_49 N c36 (l0, l1, l2, l3, l4, l5, l6)) :=
  osloop_W (lvf := fun p => [(0, .ref p.1), (1, .int p.2.1), (2, .int p.2.2.1), (3, .int p.2.2.2.1), (4, .int p.2.2.2.2.1), (5, .int p.2.2.2.2.2.1), (6, .int p.2.2.2.2.2.2)]) (stf := fun p => []) (fun ih g p => tX1_isCarried_49 N c36 ih g36 (fun l0 l1 l2 l3 l4 l5 l6 => g (l0, l1, l2, l3, l4, l5, l6)) p.1 p.2.1 p.2.2.1 p.2.2.2.1 p.2.2.2.2.1 p.2.2.2.2.2.1 p.2.2.2.2.2.2) N (l0, l1, l2, l3, l4, l5, l6)
set_option maxRecDepth 100000 in
set_option maxHeartbeats 4000000 in
theorem tX1_isCarried_36 (N : Nat) (c36 : Nat × Int32 × Int32 × Int32 × Int32 → osM Int32) (g36 : ∀ (l0 : Nat) (l1 : Int32) (l2 : Int32) (l3 : Int32) (l4 : Int32), osW (osFinM (fun r : Int32 => some (.int r)) 0 0) yX1_isCarried cX1_isCarried 7 (some .boolean) [] { frames := 1, cells := 0, slots := 0, locals := 21 } 0 0 36 [(0, .ref l0), (1, .int l1), (2, .int l2), (3, .int l3), (4, .int l4)] [] (c36 (l0, l1, l2, l3, l4))) (l0 : Nat) (l1 : Int32) (l2 : Int32) (l3 : Int32) (l4 : Int32) : osW (osFinM (fun r : Int32 => some (.int r)) 0 0) yX1_isCarried cX1_isCarried 7 (some .boolean) [] { frames := 1, cells := 0, slots := 0, locals := 21 } 0 0 36 [(0, .ref l0), (1, .int l1), (2, .int l2), (3, .int l3), (4, .int l4)] [] (bX1_isCarried_36 N c36 l0 l1 l2 l3 l4) := by
  unfold bX1_isCarried_36
  refine os_iload (v := l4) 4 rfl (hX1_isCarried.at 21 rfl rfl) ?_
  refine os_bipush (i := 16) (v := (16 : Int32)) rfl (hX1_isCarried.at 22 rfl rfl) ?_
  refine os_icmp_ge (off := 66) (tgt := 106) rfl (hX1_isCarried.at 23 rfl rfl) ?_ ?_
  · exact osW.sub [0, 1, 3] rfl (sX1_isCarried_106 N l0 l1 l3)
  · refine os_iload_n (i := 3) (q := 3) (v := l3) 3 rfl rfl (hX1_isCarried.at 24 rfl rfl) ?_
    refine os_istore (i := 5) (lv' := [(5, .int l3), (0, .ref l0), (1, .int l1), (2, .int l2), (3, .int l3), (4, .int l4)]) (Nat.le_of_ble_eq_true rfl) rfl (hX1_isCarried.at 25 rfl rfl) ?_
    refine os_iconst (i := 0) (v := (0 : Int32)) rfl (hX1_isCarried.at 26 rfl rfl) ?_
    refine os_istore (i := 6) (lv' := [(6, .int (0 : Int32)), (5, .int l3), (0, .ref l0), (1, .int l1), (2, .int l2), (3, .int l3), (4, .int l4)]) (Nat.le_of_ble_eq_true rfl) rfl (hX1_isCarried.at 27 rfl rfl) ?_
    exact osW.sub [2, 3, 4, 5, 6, 1, 0] rfl (sX1_isCarried_49 N c36 g36 l0 l1 l2 l3 l4 l3 (0 : Int32))
set_option maxRecDepth 100000 in
set_option maxHeartbeats 4000000 in
theorem sX1_isCarried_36 (N : Nat) (l0 : Nat) (l1 : Int32) (l2 : Int32) (l3 : Int32) (l4 : Int32) : osW (osFinM (fun r : Int32 => some (.int r)) 0 0) yX1_isCarried cX1_isCarried 7 (some .boolean) [] { frames := 1, cells := 0, slots := 0, locals := 21 } 0 0 36 [(0, .ref l0), (1, .int l1), (2, .int l2), (3, .int l3), (4, .int l4)] [] (qX1_isCarried_36 N (l0, l1, l2, l3, l4)) :=
  osloop_W (lvf := fun p => [(0, .ref p.1), (1, .int p.2.1), (2, .int p.2.2.1), (3, .int p.2.2.2.1), (4, .int p.2.2.2.2)]) (stf := fun p => []) (fun ih g p => tX1_isCarried_36 N ih (fun l0 l1 l2 l3 l4 => g (l0, l1, l2, l3, l4)) p.1 p.2.1 p.2.2.1 p.2.2.2.1 p.2.2.2.2) N (l0, l1, l2, l3, l4)
set_option maxRecDepth 100000 in
set_option maxHeartbeats 4000000 in
theorem sX1_isCarried (N : Nat) (l0 : Nat) (l1 : Int32) : osMet yX1_isCarried cX1_isCarried 7 (some .boolean) 1 21 0 0 (fun r : Int32 => some (.int r)) [.ref l0, .int l1] (qX1_isCarried N l0 l1) := by
  refine osMet.of plX1 (Nat.le_of_ble_eq_true rfl) (osW.rw (lv2 := [(0, .ref l0), (1, .int l1)]) ?_ rfl rfl rfl)
  unfold qX1_isCarried
  refine os_aload_n (i := 0) (q := 0) (v := l0) 0 rfl rfl (hX1_isCarried.at 0 rfl rfl) ?_
  refine os_getR fX1_12 (hX1_isCarried.at 1 rfl rfl) (fun x1 => ?_)
  refine os_getR fX1_86 (hX1_isCarried.at 2 rfl rfl) (fun x2 => ?_)
  refine os_iload_n (i := 1) (q := 1) (v := l1) 1 rfl rfl (hX1_isCarried.at 3 rfl rfl) ?_
  refine os_callSN (host := "OrderSettler") (As := [.ref x2, .int l1]) (st := []) (st' := (fun r => .int r :: [])) mdX9_entry wd1342 wd784 (sX9_entry N x2 l1) rfl rfl (fun _ => rfl) (Nat.le_of_ble_eq_true rfl) (Nat.le_of_ble_eq_true rfl) (Nat.le_of_ble_eq_true rfl) rfl (Nat.le_of_ble_eq_true rfl) rfl (Nat.le_of_ble_eq_true rfl) (hX1_isCarried.at 4 rfl rfl) (fun x3 => ?_)
  refine os_aload_n (i := 0) (q := 0) (v := l0) 0 rfl rfl (hX1_isCarried.at 5 rfl rfl) ?_
  refine os_getI fX1_35 (hX1_isCarried.at 6 rfl rfl) (fun x4 => ?_)
  refine os_iconst (i := (-1)) (v := (-1 : Int32)) rfl (hX1_isCarried.at 7 rfl rfl) ?_
  refine os_ixor (hX1_isCarried.at 8 rfl rfl) ?_
  refine os_iand (hX1_isCarried.at 9 rfl rfl) ?_
  refine os_nameI (fun x5 => ?_)
  refine os_istore_n (i := 2) (q := 2) rfl (lv' := [(2, .int x5), (0, .ref l0), (1, .int l1)]) (Nat.le_of_ble_eq_true rfl) rfl (hX1_isCarried.at 10 rfl rfl) ?_
  refine os_iload_n (i := 2) (q := 2) (v := x5) 0 rfl rfl (hX1_isCarried.at 11 rfl rfl) ?_
  refine os_aload_n (i := 0) (q := 0) (v := l0) 1 rfl rfl (hX1_isCarried.at 12 rfl rfl) ?_
  refine os_getR fX1_12 (hX1_isCarried.at 13 rfl rfl) (fun x6 => ?_)
  refine os_getR fX1_106 (hX1_isCarried.at 14 rfl rfl) (fun x7 => ?_)
  refine os_iload_n (i := 1) (q := 1) (v := l1) 2 rfl rfl (hX1_isCarried.at 15 rfl rfl) ?_
  refine os_callSN (host := "OrderSettler") (As := [.ref x7, .int l1]) (st := [.int x5]) (st' := (fun r => .int r :: [.int x5])) mdX9_entry wd1342 wd784 (sX9_entry N x7 l1) rfl rfl (fun _ => rfl) (Nat.le_of_ble_eq_true rfl) (Nat.le_of_ble_eq_true rfl) (Nat.le_of_ble_eq_true rfl) rfl (Nat.le_of_ble_eq_true rfl) rfl (Nat.le_of_ble_eq_true rfl) (hX1_isCarried.at 16 rfl rfl) (fun x8 => ?_)
  refine os_iand (hX1_isCarried.at 17 rfl rfl) ?_
  refine os_istore_n (i := 3) (q := 3) rfl (lv' := [(3, .int (x5 &&& x8)), (2, .int x5), (0, .ref l0), (1, .int l1)]) (Nat.le_of_ble_eq_true rfl) rfl (hX1_isCarried.at 18 rfl rfl) ?_
  refine os_iconst (i := 0) (v := (0 : Int32)) rfl (hX1_isCarried.at 19 rfl rfl) ?_
  refine os_istore (i := 4) (lv' := [(4, .int (0 : Int32)), (3, .int (x5 &&& x8)), (2, .int x5), (0, .ref l0), (1, .int l1)]) (Nat.le_of_ble_eq_true rfl) rfl (hX1_isCarried.at 20 rfl rfl) ?_
  exact osW.sub [3, 4, 2, 1, 0] rfl (sX1_isCarried_36 N l0 l1 x5 (x5 &&& x8) (0 : Int32))
-- X1_strengthOf
def KX1_strengthOf : List (Nat × Nat × Instr) := [(0, 1, .iconst 1), (1, 1, .aload_n 0), (2, 3, .getfield 12), (5, 3, .getfield 127), (8, 1, .iload_n 1), (9, 3, .invokestatic 102), (12, 1, .aload_n 0), (13, 3, .getfield 26), (16, 1, .iand), (17, 3, .invokestatic 56), (20, 1, .iadd), (21, 1, .ireturn)]
theorem hX1_strengthOf : osDs cX1_strengthOf KX1_strengthOf := by
  show ∀ q ∈ KX1_strengthOf, decode cX1_strengthOf q.1 = .ok (q.2.2, q.2.1)
  decide +kernel
def qX1_strengthOf (N : Nat) (l0 : Nat) (l1 : Int32) : osM Int32 := osbind (osgR [1] 0 l0) fun x1 => osbind (osgR [2] 8 x1) fun x2 => osbind (qX9_entry N x2 l1) fun x3 => osbind (osgI [1] 3 l0) fun x4 => osbind (qJ6_bitCount_0f7a4 N (x3 &&& x4)) fun x5 => osret ((1 : Int32) + x5)
set_option maxRecDepth 100000 in
set_option maxHeartbeats 4000000 in
theorem sX1_strengthOf (N : Nat) (l0 : Nat) (l1 : Int32) : osMet yX1_strengthOf cX1_strengthOf 2 (some .int) 1 21 0 0 (fun r : Int32 => some (.int r)) [.ref l0, .int l1] (qX1_strengthOf N l0 l1) := by
  refine osMet.of plX1 (Nat.le_of_ble_eq_true rfl) (osW.rw (lv2 := [(0, .ref l0), (1, .int l1)]) ?_ rfl rfl rfl)
  unfold qX1_strengthOf
  refine os_iconst (i := 1) (v := (1 : Int32)) rfl (hX1_strengthOf.at 0 rfl rfl) ?_
  refine os_aload_n (i := 0) (q := 0) (v := l0) 0 rfl rfl (hX1_strengthOf.at 1 rfl rfl) ?_
  refine os_getR fX1_12 (hX1_strengthOf.at 2 rfl rfl) (fun x1 => ?_)
  refine os_getR fX1_127 (hX1_strengthOf.at 3 rfl rfl) (fun x2 => ?_)
  refine os_iload_n (i := 1) (q := 1) (v := l1) 1 rfl rfl (hX1_strengthOf.at 4 rfl rfl) ?_
  refine os_callSN (host := "OrderSettler") (As := [.ref x2, .int l1]) (st := [.int (1 : Int32)]) (st' := (fun r => .int r :: [.int (1 : Int32)])) mdX9_entry wd1342 wd784 (sX9_entry N x2 l1) rfl rfl (fun _ => rfl) (Nat.le_of_ble_eq_true rfl) (Nat.le_of_ble_eq_true rfl) (Nat.le_of_ble_eq_true rfl) rfl (Nat.le_of_ble_eq_true rfl) rfl (Nat.le_of_ble_eq_true rfl) (hX1_strengthOf.at 5 rfl rfl) (fun x3 => ?_)
  refine os_aload_n (i := 0) (q := 0) (v := l0) 0 rfl rfl (hX1_strengthOf.at 6 rfl rfl) ?_
  refine os_getI fX1_26 (hX1_strengthOf.at 7 rfl rfl) (fun x4 => ?_)
  refine os_iand (hX1_strengthOf.at 8 rfl rfl) ?_
  refine os_callS (As := [.int (x3 &&& x4)]) (st := [.int (1 : Int32)]) (st' := (fun r => .int r :: [.int (1 : Int32)])) mdJ6_bitCount_0f7a4 wd1331 wd1243 (sJ6_bitCount_0f7a4 N (x3 &&& x4)) rfl rfl (fun _ => rfl) (Nat.le_of_ble_eq_true rfl) (Nat.le_of_ble_eq_true rfl) (Nat.le_of_ble_eq_true rfl) rfl (Nat.le_of_ble_eq_true rfl) rfl (Nat.le_of_ble_eq_true rfl) (hX1_strengthOf.at 9 rfl rfl) (fun x5 => ?_)
  refine os_iadd (hX1_strengthOf.at 10 rfl rfl) ?_
  exact os_iret (Nat.le_of_ble_eq_true rfl) (Nat.le_of_ble_eq_true rfl) (hX1_strengthOf.at 11 rfl rfl).1
-- X1_attackOf
def KX1_attackOf : List (Nat × Nat × Instr) := [(0, 1, .aload_n 0), (1, 3, .getfield 22), (4, 1, .iload_n 1), (5, 3, .invokestatic 72), (8, 3, .ifCond .ne 5), (11, 1, .iconst 0), (12, 1, .ireturn), (13, 1, .aload_n 0), (14, 3, .getfield 12), (17, 3, .getfield 76), (20, 1, .iload_n 1), (21, 3, .invokestatic 102), (24, 1, .istore_n 2), (25, 1, .iload_n 2), (26, 1, .aload_n 0), (27, 3, .getfield 32), (30, 1, .iand), (31, 3, .ifCond .eq 21), (34, 1, .aload_n 0), (35, 3, .getfield 12), (38, 3, .getfield 130), (41, 1, .iload_n 1), (42, 3, .invokestatic 72), (45, 3, .ifCond .ne 7), (48, 1, .iconst 1), (49, 3, .goto 4), (52, 1, .iconst 0), (53, 1, .istore_n 3), (54, 1, .iload_n 3), (55, 3, .ifCond .eq 7), (58, 1, .iconst 0), (59, 3, .goto 14), (62, 1, .aload_n 0), (63, 3, .getfield 12), (66, 3, .getfield 133), (69, 1, .iload_n 1), (70, 3, .invokestatic 102), (73, 2, .istore 4), (75, 2, .iload 4), (77, 1, .iload_n 1), (78, 3, .invokestatic 72), (81, 3, .ifCond .eq 5), (84, 1, .iconst 0), (85, 1, .ireturn), (86, 1, .iconst 1), (87, 1, .aload_n 0), (88, 3, .getfield 12), (91, 3, .getfield 127), (94, 1, .iload_n 1), (95, 3, .invokestatic 102), (98, 1, .aload_n 0), (99, 3, .getfield 26), (102, 1, .iand), (103, 2, .iload 4), (105, 1, .iconst (-1)), (106, 1, .ixor), (107, 1, .iand), (108, 3, .invokestatic 56), (111, 1, .iadd), (112, 1, .ireturn)]
theorem hX1_attackOf : osDs cX1_attackOf KX1_attackOf := by
  show ∀ q ∈ KX1_attackOf, decode cX1_attackOf q.1 = .ok (q.2.2, q.2.1)
  decide +kernel
def qX1_attackOf_73 (N : Nat) (l0 : Nat) (l1 : Int32) (k0 : Int32) : osM Int32 := osbind (qX9_has N k0 l1) fun x1 => osite (x1 = 0) (osbind (osgR [1] 0 l0) fun x2 => osbind (osgR [2] 8 x2) fun x3 => osbind (qX9_entry N x3 l1) fun x4 => osbind (osgI [1] 3 l0) fun x5 => osbind (qJ6_bitCount_0f7a4 N ((x4 &&& x5) &&& (k0 ^^^ (-1 : Int32)))) fun x6 => osret ((1 : Int32) + x6)) (osret (0 : Int32))
def qX1_attackOf_53 (N : Nat) (l0 : Nat) (l1 : Int32) (k0 : Int32) : osM Int32 := osite (k0 = 0) (osbind (osgR [1] 0 l0) fun x1 => osbind (osgR [2] 9 x1) fun x2 => osbind (qX9_entry N x2 l1) fun x3 => qX1_attackOf_73 N l0 l1 x3) (qX1_attackOf_73 N l0 l1 (0 : Int32))
def qX1_attackOf_52 (N : Nat) (l0 : Nat) (l1 : Int32) : osM Int32 := qX1_attackOf_53 N l0 l1 (0 : Int32)
def qX1_attackOf (N : Nat) (l0 : Nat) (l1 : Int32) : osM Int32 := osbind (osgI [1] 2 l0) fun x1 => osbind (qX9_has N x1 l1) fun x2 => osite (x2 = 0) (osret (0 : Int32)) (osbind (osgR [1] 0 l0) fun x3 => osbind (osgR [2] 6 x3) fun x4 => osbind (qX9_entry N x4 l1) fun x5 => osbind (osgI [1] 5 l0) fun x6 => osite ((x5 &&& x6) = 0) (qX1_attackOf_52 N l0 l1) (osbind (osgR [1] 0 l0) fun x7 => osbind (osgI [2] 3 x7) fun x8 => osbind (qX9_has N x8 l1) fun x9 => osite (x9 = 0) (qX1_attackOf_53 N l0 l1 (1 : Int32)) (qX1_attackOf_52 N l0 l1)))
set_option maxRecDepth 100000 in
set_option maxHeartbeats 4000000 in
theorem sX1_attackOf_73 (N : Nat) (l0 : Nat) (l1 : Int32) (k0 : Int32) : osW (osFinM (fun r : Int32 => some (.int r)) 0 0) yX1_attackOf cX1_attackOf 5 (some .int) [] { frames := 1, cells := 0, slots := 0, locals := 21 } 0 0 73 [(0, .ref l0), (1, .int l1)] [.int k0] (qX1_attackOf_73 N l0 l1 k0) := by
  unfold qX1_attackOf_73
  refine os_istore (i := 4) (lv' := [(4, .int k0), (0, .ref l0), (1, .int l1)]) (Nat.le_of_ble_eq_true rfl) rfl (hX1_attackOf.at 37 rfl rfl) ?_
  refine os_iload (v := k0) 0 rfl (hX1_attackOf.at 38 rfl rfl) ?_
  refine os_iload_n (i := 1) (q := 1) (v := l1) 2 rfl rfl (hX1_attackOf.at 39 rfl rfl) ?_
  refine os_callSN (host := "OrderSettler") (As := [.int k0, .int l1]) (st := []) (st' := (fun r => .int r :: [])) mdX9_has wd1337 wd749 (sX9_has N k0 l1) rfl rfl (fun _ => rfl) (Nat.le_of_ble_eq_true rfl) (Nat.le_of_ble_eq_true rfl) (Nat.le_of_ble_eq_true rfl) rfl (Nat.le_of_ble_eq_true rfl) rfl (Nat.le_of_ble_eq_true rfl) (hX1_attackOf.at 40 rfl rfl) (fun x1 => ?_)
  refine os_if_eq (off := 5) (tgt := 86) rfl (hX1_attackOf.at 41 rfl rfl) ?_ ?_
  · refine os_iconst (i := 1) (v := (1 : Int32)) rfl (hX1_attackOf.at 44 rfl rfl) ?_
    refine os_aload_n (i := 0) (q := 0) (v := l0) 1 rfl rfl (hX1_attackOf.at 45 rfl rfl) ?_
    refine os_getR fX1_12 (hX1_attackOf.at 46 rfl rfl) (fun x2 => ?_)
    refine os_getR fX1_127 (hX1_attackOf.at 47 rfl rfl) (fun x3 => ?_)
    refine os_iload_n (i := 1) (q := 1) (v := l1) 2 rfl rfl (hX1_attackOf.at 48 rfl rfl) ?_
    refine os_callSN (host := "OrderSettler") (As := [.ref x3, .int l1]) (st := [.int (1 : Int32)]) (st' := (fun r => .int r :: [.int (1 : Int32)])) mdX9_entry wd1342 wd784 (sX9_entry N x3 l1) rfl rfl (fun _ => rfl) (Nat.le_of_ble_eq_true rfl) (Nat.le_of_ble_eq_true rfl) (Nat.le_of_ble_eq_true rfl) rfl (Nat.le_of_ble_eq_true rfl) rfl (Nat.le_of_ble_eq_true rfl) (hX1_attackOf.at 49 rfl rfl) (fun x4 => ?_)
    refine os_aload_n (i := 0) (q := 0) (v := l0) 1 rfl rfl (hX1_attackOf.at 50 rfl rfl) ?_
    refine os_getI fX1_26 (hX1_attackOf.at 51 rfl rfl) (fun x5 => ?_)
    refine os_iand (hX1_attackOf.at 52 rfl rfl) ?_
    refine os_iload (v := k0) 0 rfl (hX1_attackOf.at 53 rfl rfl) ?_
    refine os_iconst (i := (-1)) (v := (-1 : Int32)) rfl (hX1_attackOf.at 54 rfl rfl) ?_
    refine os_ixor (hX1_attackOf.at 55 rfl rfl) ?_
    refine os_iand (hX1_attackOf.at 56 rfl rfl) ?_
    refine os_callS (As := [.int ((x4 &&& x5) &&& (k0 ^^^ (-1 : Int32)))]) (st := [.int (1 : Int32)]) (st' := (fun r => .int r :: [.int (1 : Int32)])) mdJ6_bitCount_0f7a4 wd1331 wd1243 (sJ6_bitCount_0f7a4 N ((x4 &&& x5) &&& (k0 ^^^ (-1 : Int32)))) rfl rfl (fun _ => rfl) (Nat.le_of_ble_eq_true rfl) (Nat.le_of_ble_eq_true rfl) (Nat.le_of_ble_eq_true rfl) rfl (Nat.le_of_ble_eq_true rfl) rfl (Nat.le_of_ble_eq_true rfl) (hX1_attackOf.at 57 rfl rfl) (fun x6 => ?_)
    refine os_iadd (hX1_attackOf.at 58 rfl rfl) ?_
    exact os_iret (Nat.le_of_ble_eq_true rfl) (Nat.le_of_ble_eq_true rfl) (hX1_attackOf.at 59 rfl rfl).1
  · refine os_iconst (i := 0) (v := (0 : Int32)) rfl (hX1_attackOf.at 42 rfl rfl) ?_
    exact os_iret (Nat.le_of_ble_eq_true rfl) (Nat.le_of_ble_eq_true rfl) (hX1_attackOf.at 43 rfl rfl).1
set_option maxRecDepth 100000 in
set_option maxHeartbeats 4000000 in
theorem sX1_attackOf_53 (N : Nat) (l0 : Nat) (l1 : Int32) (k0 : Int32) : osW (osFinM (fun r : Int32 => some (.int r)) 0 0) yX1_attackOf cX1_attackOf 5 (some .int) [] { frames := 1, cells := 0, slots := 0, locals := 21 } 0 0 53 [(0, .ref l0), (1, .int l1)] [.int k0] (qX1_attackOf_53 N l0 l1 k0) := by
  unfold qX1_attackOf_53
  refine os_istore_n (i := 3) (q := 3) rfl (lv' := [(3, .int k0), (0, .ref l0), (1, .int l1)]) (Nat.le_of_ble_eq_true rfl) rfl (hX1_attackOf.at 27 rfl rfl) ?_
  refine os_iload_n (i := 3) (q := 3) (v := k0) 0 rfl rfl (hX1_attackOf.at 28 rfl rfl) ?_
  refine os_if_eq (off := 7) (tgt := 62) rfl (hX1_attackOf.at 29 rfl rfl) ?_ ?_
  · refine os_aload_n (i := 0) (q := 0) (v := l0) 1 rfl rfl (hX1_attackOf.at 32 rfl rfl) ?_
    refine os_getR fX1_12 (hX1_attackOf.at 33 rfl rfl) (fun x1 => ?_)
    refine os_getR fX1_133 (hX1_attackOf.at 34 rfl rfl) (fun x2 => ?_)
    refine os_iload_n (i := 1) (q := 1) (v := l1) 2 rfl rfl (hX1_attackOf.at 35 rfl rfl) ?_
    refine os_callSN (host := "OrderSettler") (As := [.ref x2, .int l1]) (st := []) (st' := (fun r => .int r :: [])) mdX9_entry wd1342 wd784 (sX9_entry N x2 l1) rfl rfl (fun _ => rfl) (Nat.le_of_ble_eq_true rfl) (Nat.le_of_ble_eq_true rfl) (Nat.le_of_ble_eq_true rfl) rfl (Nat.le_of_ble_eq_true rfl) rfl (Nat.le_of_ble_eq_true rfl) (hX1_attackOf.at 36 rfl rfl) (fun x3 => ?_)
    exact osW.sub [1, 2] rfl (sX1_attackOf_73 N l0 l1 x3)
  · refine os_iconst (i := 0) (v := (0 : Int32)) rfl (hX1_attackOf.at 30 rfl rfl) ?_
    refine os_goto (off := 14) (tgt := 73) rfl (hX1_attackOf.at 31 rfl rfl) ?_
    exact osW.sub [1, 2] rfl (sX1_attackOf_73 N l0 l1 (0 : Int32))
set_option maxRecDepth 100000 in
set_option maxHeartbeats 4000000 in
theorem sX1_attackOf_52 (N : Nat) (l0 : Nat) (l1 : Int32) : osW (osFinM (fun r : Int32 => some (.int r)) 0 0) yX1_attackOf cX1_attackOf 5 (some .int) [] { frames := 1, cells := 0, slots := 0, locals := 21 } 0 0 52 [(0, .ref l0), (1, .int l1)] [] (qX1_attackOf_52 N l0 l1) := by
  unfold qX1_attackOf_52
  refine os_iconst (i := 0) (v := (0 : Int32)) rfl (hX1_attackOf.at 26 rfl rfl) ?_
  exact osW.sub [0, 1] rfl (sX1_attackOf_53 N l0 l1 (0 : Int32))
set_option maxRecDepth 100000 in
set_option maxHeartbeats 4000000 in
theorem sX1_attackOf (N : Nat) (l0 : Nat) (l1 : Int32) : osMet yX1_attackOf cX1_attackOf 5 (some .int) 1 21 0 0 (fun r : Int32 => some (.int r)) [.ref l0, .int l1] (qX1_attackOf N l0 l1) := by
  refine osMet.of plX1 (Nat.le_of_ble_eq_true rfl) (osW.rw (lv2 := [(0, .ref l0), (1, .int l1)]) ?_ rfl rfl rfl)
  unfold qX1_attackOf
  refine os_aload_n (i := 0) (q := 0) (v := l0) 0 rfl rfl (hX1_attackOf.at 0 rfl rfl) ?_
  refine os_getI fX1_22 (hX1_attackOf.at 1 rfl rfl) (fun x1 => ?_)
  refine os_iload_n (i := 1) (q := 1) (v := l1) 1 rfl rfl (hX1_attackOf.at 2 rfl rfl) ?_
  refine os_callSN (host := "OrderSettler") (As := [.int x1, .int l1]) (st := []) (st' := (fun r => .int r :: [])) mdX9_has wd1337 wd749 (sX9_has N x1 l1) rfl rfl (fun _ => rfl) (Nat.le_of_ble_eq_true rfl) (Nat.le_of_ble_eq_true rfl) (Nat.le_of_ble_eq_true rfl) rfl (Nat.le_of_ble_eq_true rfl) rfl (Nat.le_of_ble_eq_true rfl) (hX1_attackOf.at 3 rfl rfl) (fun x2 => ?_)
  refine os_if_ne (off := 5) (tgt := 13) rfl (hX1_attackOf.at 4 rfl rfl) ?_ ?_
  · refine os_aload_n (i := 0) (q := 0) (v := l0) 0 rfl rfl (hX1_attackOf.at 7 rfl rfl) ?_
    refine os_getR fX1_12 (hX1_attackOf.at 8 rfl rfl) (fun x3 => ?_)
    refine os_getR fX1_76 (hX1_attackOf.at 9 rfl rfl) (fun x4 => ?_)
    refine os_iload_n (i := 1) (q := 1) (v := l1) 1 rfl rfl (hX1_attackOf.at 10 rfl rfl) ?_
    refine os_callSN (host := "OrderSettler") (As := [.ref x4, .int l1]) (st := []) (st' := (fun r => .int r :: [])) mdX9_entry wd1342 wd784 (sX9_entry N x4 l1) rfl rfl (fun _ => rfl) (Nat.le_of_ble_eq_true rfl) (Nat.le_of_ble_eq_true rfl) (Nat.le_of_ble_eq_true rfl) rfl (Nat.le_of_ble_eq_true rfl) rfl (Nat.le_of_ble_eq_true rfl) (hX1_attackOf.at 11 rfl rfl) (fun x5 => ?_)
    refine os_istore_n (i := 2) (q := 2) rfl (lv' := [(2, .int x5), (0, .ref l0), (1, .int l1)]) (Nat.le_of_ble_eq_true rfl) rfl (hX1_attackOf.at 12 rfl rfl) ?_
    refine os_iload_n (i := 2) (q := 2) (v := x5) 0 rfl rfl (hX1_attackOf.at 13 rfl rfl) ?_
    refine os_aload_n (i := 0) (q := 0) (v := l0) 1 rfl rfl (hX1_attackOf.at 14 rfl rfl) ?_
    refine os_getI fX1_32 (hX1_attackOf.at 15 rfl rfl) (fun x6 => ?_)
    refine os_iand (hX1_attackOf.at 16 rfl rfl) ?_
    refine os_if_eq (off := 21) (tgt := 52) rfl (hX1_attackOf.at 17 rfl rfl) ?_ ?_
    · exact osW.sub [1, 2] rfl (sX1_attackOf_52 N l0 l1)
    · refine os_aload_n (i := 0) (q := 0) (v := l0) 1 rfl rfl (hX1_attackOf.at 18 rfl rfl) ?_
      refine os_getR fX1_12 (hX1_attackOf.at 19 rfl rfl) (fun x7 => ?_)
      refine os_getI fX1_130 (hX1_attackOf.at 20 rfl rfl) (fun x8 => ?_)
      refine os_iload_n (i := 1) (q := 1) (v := l1) 2 rfl rfl (hX1_attackOf.at 21 rfl rfl) ?_
      refine os_callSN (host := "OrderSettler") (As := [.int x8, .int l1]) (st := []) (st' := (fun r => .int r :: [])) mdX9_has wd1337 wd749 (sX9_has N x8 l1) rfl rfl (fun _ => rfl) (Nat.le_of_ble_eq_true rfl) (Nat.le_of_ble_eq_true rfl) (Nat.le_of_ble_eq_true rfl) rfl (Nat.le_of_ble_eq_true rfl) rfl (Nat.le_of_ble_eq_true rfl) (hX1_attackOf.at 22 rfl rfl) (fun x9 => ?_)
      refine os_if_ne (off := 7) (tgt := 52) rfl (hX1_attackOf.at 23 rfl rfl) ?_ ?_
      · exact osW.sub [1, 2] rfl (sX1_attackOf_52 N l0 l1)
      · refine os_iconst (i := 1) (v := (1 : Int32)) rfl (hX1_attackOf.at 24 rfl rfl) ?_
        refine os_goto (off := 4) (tgt := 53) rfl (hX1_attackOf.at 25 rfl rfl) ?_
        exact osW.sub [1, 2] rfl (sX1_attackOf_53 N l0 l1 (1 : Int32))
  · refine os_iconst (i := 0) (v := (0 : Int32)) rfl (hX1_attackOf.at 5 rfl rfl) ?_
    exact os_iret (Nat.le_of_ble_eq_true rfl) (Nat.le_of_ble_eq_true rfl) (hX1_attackOf.at 6 rfl rfl).1
-- X1_resistanceTo
def KX1_resistanceTo : List (Nat × Nat × Instr) := [(0, 1, .aload_n 0), (1, 3, .getfield 12), (4, 3, .getfield 76), (7, 1, .iload_n 1), (8, 3, .invokestatic 102), (11, 1, .istore_n 2), (12, 1, .iload_n 2), (13, 1, .aload_n 0), (14, 3, .getfield 12), (17, 3, .getfield 80), (20, 1, .iand), (21, 3, .ifCond .ne 5), (24, 1, .iconst 0), (25, 1, .ireturn), (26, 1, .iload_n 2), (27, 1, .aload_n 0), (28, 3, .getfield 12), (31, 3, .getfield 53), (34, 1, .iand), (35, 3, .ifCond .eq 32), (38, 1, .aload_n 0), (39, 3, .getfield 12), (42, 3, .getfield 130), (45, 1, .iload_n 1), (46, 3, .invokestatic 72), (49, 3, .ifCond .ne 18), (52, 1, .iload_n 2), (53, 1, .aload_n 0), (54, 3, .getfield 32), (57, 1, .iand), (58, 3, .ifCond .eq 7), (61, 1, .iconst 0), (62, 3, .goto 4), (65, 1, .iconst 1), (66, 1, .ireturn), (67, 1, .iconst 1), (68, 1, .aload_n 0), (69, 3, .getfield 12), (72, 3, .getfield 136), (75, 1, .iload_n 1), (76, 3, .invokestatic 102), (79, 1, .aload_n 0), (80, 3, .getfield 26), (83, 1, .iand), (84, 3, .invokestatic 56), (87, 1, .iadd), (88, 1, .ireturn)]
theorem hX1_resistanceTo : osDs cX1_resistanceTo KX1_resistanceTo := by
  show ∀ q ∈ KX1_resistanceTo, decode cX1_resistanceTo q.1 = .ok (q.2.2, q.2.1)
  decide +kernel
def qX1_resistanceTo_67 (N : Nat) (l0 : Nat) (l1 : Int32) : osM Int32 := osbind (osgR [1] 0 l0) fun x1 => osbind (osgR [2] 10 x1) fun x2 => osbind (qX9_entry N x2 l1) fun x3 => osbind (osgI [1] 3 l0) fun x4 => osbind (qJ6_bitCount_0f7a4 N (x3 &&& x4)) fun x5 => osret ((1 : Int32) + x5)
def qX1_resistanceTo_66 (N : Nat) (k0 : Int32) : osM Int32 := osret k0
def qX1_resistanceTo (N : Nat) (l0 : Nat) (l1 : Int32) : osM Int32 := osbind (osgR [1] 0 l0) fun x1 => osbind (osgR [2] 6 x1) fun x2 => osbind (qX9_entry N x2 l1) fun x3 => osbind (osgR [1] 0 l0) fun x4 => osbind (osgI [2] 0 x4) fun x5 => osite ((x3 &&& x5) = 0) (osret (0 : Int32)) (osbind (osgR [1] 0 l0) fun x6 => osbind (osgI [2] 1 x6) fun x7 => osite ((x3 &&& x7) = 0) (qX1_resistanceTo_67 N l0 l1) (osbind (osgR [1] 0 l0) fun x8 => osbind (osgI [2] 3 x8) fun x9 => osbind (qX9_has N x9 l1) fun x10 => osite (x10 = 0) (osbind (osgI [1] 5 l0) fun x11 => osite ((x3 &&& x11) = 0) (qX1_resistanceTo_66 N (1 : Int32)) (qX1_resistanceTo_66 N (0 : Int32))) (qX1_resistanceTo_67 N l0 l1)))
set_option maxRecDepth 100000 in
set_option maxHeartbeats 4000000 in
theorem sX1_resistanceTo_67 (N : Nat) (l0 : Nat) (l1 : Int32) : osW (osFinM (fun r : Int32 => some (.int r)) 0 0) yX1_resistanceTo cX1_resistanceTo 3 (some .int) [] { frames := 1, cells := 0, slots := 0, locals := 21 } 0 0 67 [(0, .ref l0), (1, .int l1)] [] (qX1_resistanceTo_67 N l0 l1) := by
  unfold qX1_resistanceTo_67
  refine os_iconst (i := 1) (v := (1 : Int32)) rfl (hX1_resistanceTo.at 35 rfl rfl) ?_
  refine os_aload_n (i := 0) (q := 0) (v := l0) 0 rfl rfl (hX1_resistanceTo.at 36 rfl rfl) ?_
  refine os_getR fX1_12 (hX1_resistanceTo.at 37 rfl rfl) (fun x1 => ?_)
  refine os_getR fX1_136 (hX1_resistanceTo.at 38 rfl rfl) (fun x2 => ?_)
  refine os_iload_n (i := 1) (q := 1) (v := l1) 1 rfl rfl (hX1_resistanceTo.at 39 rfl rfl) ?_
  refine os_callSN (host := "OrderSettler") (As := [.ref x2, .int l1]) (st := [.int (1 : Int32)]) (st' := (fun r => .int r :: [.int (1 : Int32)])) mdX9_entry wd1342 wd784 (sX9_entry N x2 l1) rfl rfl (fun _ => rfl) (Nat.le_of_ble_eq_true rfl) (Nat.le_of_ble_eq_true rfl) (Nat.le_of_ble_eq_true rfl) rfl (Nat.le_of_ble_eq_true rfl) rfl (Nat.le_of_ble_eq_true rfl) (hX1_resistanceTo.at 40 rfl rfl) (fun x3 => ?_)
  refine os_aload_n (i := 0) (q := 0) (v := l0) 0 rfl rfl (hX1_resistanceTo.at 41 rfl rfl) ?_
  refine os_getI fX1_26 (hX1_resistanceTo.at 42 rfl rfl) (fun x4 => ?_)
  refine os_iand (hX1_resistanceTo.at 43 rfl rfl) ?_
  refine os_callS (As := [.int (x3 &&& x4)]) (st := [.int (1 : Int32)]) (st' := (fun r => .int r :: [.int (1 : Int32)])) mdJ6_bitCount_0f7a4 wd1331 wd1243 (sJ6_bitCount_0f7a4 N (x3 &&& x4)) rfl rfl (fun _ => rfl) (Nat.le_of_ble_eq_true rfl) (Nat.le_of_ble_eq_true rfl) (Nat.le_of_ble_eq_true rfl) rfl (Nat.le_of_ble_eq_true rfl) rfl (Nat.le_of_ble_eq_true rfl) (hX1_resistanceTo.at 44 rfl rfl) (fun x5 => ?_)
  refine os_iadd (hX1_resistanceTo.at 45 rfl rfl) ?_
  exact os_iret (Nat.le_of_ble_eq_true rfl) (Nat.le_of_ble_eq_true rfl) (hX1_resistanceTo.at 46 rfl rfl).1
set_option maxRecDepth 100000 in
set_option maxHeartbeats 4000000 in
theorem sX1_resistanceTo_66 (N : Nat) (k0 : Int32) : osW (osFinM (fun r : Int32 => some (.int r)) 0 0) yX1_resistanceTo cX1_resistanceTo 3 (some .int) [] { frames := 1, cells := 0, slots := 0, locals := 21 } 0 0 66 [] [.int k0] (qX1_resistanceTo_66 N k0) := by
  unfold qX1_resistanceTo_66
  exact os_iret (Nat.le_of_ble_eq_true rfl) (Nat.le_of_ble_eq_true rfl) (hX1_resistanceTo.at 34 rfl rfl).1
set_option maxRecDepth 100000 in
set_option maxHeartbeats 4000000 in
theorem sX1_resistanceTo (N : Nat) (l0 : Nat) (l1 : Int32) : osMet yX1_resistanceTo cX1_resistanceTo 3 (some .int) 1 21 0 0 (fun r : Int32 => some (.int r)) [.ref l0, .int l1] (qX1_resistanceTo N l0 l1) := by
  refine osMet.of plX1 (Nat.le_of_ble_eq_true rfl) (osW.rw (lv2 := [(0, .ref l0), (1, .int l1)]) ?_ rfl rfl rfl)
  unfold qX1_resistanceTo
  refine os_aload_n (i := 0) (q := 0) (v := l0) 0 rfl rfl (hX1_resistanceTo.at 0 rfl rfl) ?_
  refine os_getR fX1_12 (hX1_resistanceTo.at 1 rfl rfl) (fun x1 => ?_)
  refine os_getR fX1_76 (hX1_resistanceTo.at 2 rfl rfl) (fun x2 => ?_)
  refine os_iload_n (i := 1) (q := 1) (v := l1) 1 rfl rfl (hX1_resistanceTo.at 3 rfl rfl) ?_
  refine os_callSN (host := "OrderSettler") (As := [.ref x2, .int l1]) (st := []) (st' := (fun r => .int r :: [])) mdX9_entry wd1342 wd784 (sX9_entry N x2 l1) rfl rfl (fun _ => rfl) (Nat.le_of_ble_eq_true rfl) (Nat.le_of_ble_eq_true rfl) (Nat.le_of_ble_eq_true rfl) rfl (Nat.le_of_ble_eq_true rfl) rfl (Nat.le_of_ble_eq_true rfl) (hX1_resistanceTo.at 4 rfl rfl) (fun x3 => ?_)
  refine os_istore_n (i := 2) (q := 2) rfl (lv' := [(2, .int x3), (0, .ref l0), (1, .int l1)]) (Nat.le_of_ble_eq_true rfl) rfl (hX1_resistanceTo.at 5 rfl rfl) ?_
  refine os_iload_n (i := 2) (q := 2) (v := x3) 0 rfl rfl (hX1_resistanceTo.at 6 rfl rfl) ?_
  refine os_aload_n (i := 0) (q := 0) (v := l0) 1 rfl rfl (hX1_resistanceTo.at 7 rfl rfl) ?_
  refine os_getR fX1_12 (hX1_resistanceTo.at 8 rfl rfl) (fun x4 => ?_)
  refine os_getI fX1_80 (hX1_resistanceTo.at 9 rfl rfl) (fun x5 => ?_)
  refine os_iand (hX1_resistanceTo.at 10 rfl rfl) ?_
  refine os_if_ne (off := 5) (tgt := 26) rfl (hX1_resistanceTo.at 11 rfl rfl) ?_ ?_
  · refine os_iload_n (i := 2) (q := 2) (v := x3) 0 rfl rfl (hX1_resistanceTo.at 14 rfl rfl) ?_
    refine os_aload_n (i := 0) (q := 0) (v := l0) 1 rfl rfl (hX1_resistanceTo.at 15 rfl rfl) ?_
    refine os_getR fX1_12 (hX1_resistanceTo.at 16 rfl rfl) (fun x6 => ?_)
    refine os_getI fX1_53 (hX1_resistanceTo.at 17 rfl rfl) (fun x7 => ?_)
    refine os_iand (hX1_resistanceTo.at 18 rfl rfl) ?_
    refine os_if_eq (off := 32) (tgt := 67) rfl (hX1_resistanceTo.at 19 rfl rfl) ?_ ?_
    · exact osW.sub [1, 2] rfl (sX1_resistanceTo_67 N l0 l1)
    · refine os_aload_n (i := 0) (q := 0) (v := l0) 1 rfl rfl (hX1_resistanceTo.at 20 rfl rfl) ?_
      refine os_getR fX1_12 (hX1_resistanceTo.at 21 rfl rfl) (fun x8 => ?_)
      refine os_getI fX1_130 (hX1_resistanceTo.at 22 rfl rfl) (fun x9 => ?_)
      refine os_iload_n (i := 1) (q := 1) (v := l1) 2 rfl rfl (hX1_resistanceTo.at 23 rfl rfl) ?_
      refine os_callSN (host := "OrderSettler") (As := [.int x9, .int l1]) (st := []) (st' := (fun r => .int r :: [])) mdX9_has wd1337 wd749 (sX9_has N x9 l1) rfl rfl (fun _ => rfl) (Nat.le_of_ble_eq_true rfl) (Nat.le_of_ble_eq_true rfl) (Nat.le_of_ble_eq_true rfl) rfl (Nat.le_of_ble_eq_true rfl) rfl (Nat.le_of_ble_eq_true rfl) (hX1_resistanceTo.at 24 rfl rfl) (fun x10 => ?_)
      refine os_if_ne (off := 18) (tgt := 67) rfl (hX1_resistanceTo.at 25 rfl rfl) ?_ ?_
      · exact osW.sub [1, 2] rfl (sX1_resistanceTo_67 N l0 l1)
      · refine os_iload_n (i := 2) (q := 2) (v := x3) 0 rfl rfl (hX1_resistanceTo.at 26 rfl rfl) ?_
        refine os_aload_n (i := 0) (q := 0) (v := l0) 1 rfl rfl (hX1_resistanceTo.at 27 rfl rfl) ?_
        refine os_getI fX1_32 (hX1_resistanceTo.at 28 rfl rfl) (fun x11 => ?_)
        refine os_iand (hX1_resistanceTo.at 29 rfl rfl) ?_
        refine os_if_eq (off := 7) (tgt := 65) rfl (hX1_resistanceTo.at 30 rfl rfl) ?_ ?_
        · refine os_iconst (i := 1) (v := (1 : Int32)) rfl (hX1_resistanceTo.at 33 rfl rfl) ?_
          exact osW.sub [] rfl (sX1_resistanceTo_66 N (1 : Int32))
        · refine os_iconst (i := 0) (v := (0 : Int32)) rfl (hX1_resistanceTo.at 31 rfl rfl) ?_
          refine os_goto (off := 4) (tgt := 66) rfl (hX1_resistanceTo.at 32 rfl rfl) ?_
          exact osW.sub [] rfl (sX1_resistanceTo_66 N (0 : Int32))
  · refine os_iconst (i := 0) (v := (0 : Int32)) rfl (hX1_resistanceTo.at 12 rfl rfl) ?_
    exact os_iret (Nat.le_of_ble_eq_true rfl) (Nat.le_of_ble_eq_true rfl) (hX1_resistanceTo.at 13 rfl rfl).1
-- X1_preventionOf
def KX1_preventionOf : List (Nat × Nat × Instr) := [(0, 1, .aload_n 0), (1, 3, .getfield 12), (4, 3, .getfield 139), (7, 1, .iload_n 1), (8, 3, .invokestatic 102), (11, 1, .aload_n 0), (12, 3, .getfield 22), (15, 1, .iand), (16, 1, .istore_n 2), (17, 1, .iconst 0), (18, 1, .istore_n 3), (19, 1, .iconst 0), (20, 2, .istore 4), (22, 2, .iload 4), (24, 2, .bipush 16), (26, 3, .if_icmp .ge 74), (29, 1, .aload_n 0), (30, 3, .getfield 12), (33, 3, .getfield 130), (36, 2, .iload 4), (38, 3, .invokestatic 72), (41, 3, .ifCond .eq 25), (44, 1, .aload_n 0), (45, 3, .getfield 12), (48, 3, .getfield 76), (51, 2, .iload 4), (53, 1, .iaload), (54, 1, .aload_n 0), (55, 3, .getfield 32), (58, 1, .iand), (59, 3, .ifCond .eq 7), (62, 1, .iconst 1), (63, 3, .goto 4), (66, 1, .iconst 0), (67, 2, .istore 5), (69, 1, .iload_n 2), (70, 2, .iload 4), (72, 3, .invokestatic 72), (75, 3, .ifCond .eq 19), (78, 2, .iload 5), (80, 3, .ifCond .ne 14), (83, 1, .iload_n 3), (84, 1, .aload_n 0), (85, 2, .iload 4), (87, 3, .invokevirtual 142), (90, 3, .invokestatic 145), (93, 1, .istore_n 3), (94, 3, .iinc 4 1), (97, 3, .goto (-75)), (100, 1, .iload_n 3), (101, 1, .ireturn)]
theorem hX1_preventionOf : osDs cX1_preventionOf KX1_preventionOf := by
  show ∀ q ∈ KX1_preventionOf, decode cX1_preventionOf q.1 = .ok (q.2.2, q.2.1)
  decide +kernel
def qX1_preventionOf_94 (N : Nat) (c22 : Nat × Int32 × Int32 × Int32 → osM Int32) (l0 : Nat) (l2 : Int32) (l3 : Int32) (l4 : Int32) : osM Int32 := c22 (l0, l2, l3, (l4 + (1 : Int32)))
def qX1_preventionOf_67 (N : Nat) (c22 : Nat × Int32 × Int32 × Int32 → osM Int32) (l0 : Nat) (l2 : Int32) (l3 : Int32) (l4 : Int32) (k0 : Int32) : osM Int32 := osbind (qX9_has N l2 l4) fun x1 => osite (x1 = 0) (qX1_preventionOf_94 N c22 l0 l2 l3 l4) (osite (k0 = 0) (osbind (osrecv [1] l0 (qX1_strengthOf N l0 l4)) fun x2 => qX1_preventionOf_94 N c22 l0 l2 (osmax l3 x2) l4) (qX1_preventionOf_94 N c22 l0 l2 l3 l4))
def qX1_preventionOf_66 (N : Nat) (c22 : Nat × Int32 × Int32 × Int32 → osM Int32) (l0 : Nat) (l2 : Int32) (l3 : Int32) (l4 : Int32) : osM Int32 := qX1_preventionOf_67 N c22 l0 l2 l3 l4 (0 : Int32)
def bX1_preventionOf_22 (N : Nat) (c22 : Nat × Int32 × Int32 × Int32 → osM Int32) (l0 : Nat) (l2 : Int32) (l3 : Int32) (l4 : Int32) : osM Int32 := osite ((16 : Int32) ≤ l4) (osret l3) (osbind (osgR [1] 0 l0) fun x1 => osbind (osgI [2] 3 x1) fun x2 => osbind (qX9_has N x2 l4) fun x3 => osite (x3 = 0) (qX1_preventionOf_66 N c22 l0 l2 l3 l4) (osbind (osgR [1] 0 l0) fun x4 => osbind (osgR [2] 6 x4) fun x5 => osbind (osaI 0 x5 l4) fun x6 => osbind (osgI [1] 5 l0) fun x7 => osite ((x6 &&& x7) = 0) (qX1_preventionOf_66 N c22 l0 l2 l3 l4) (qX1_preventionOf_67 N c22 l0 l2 l3 l4 (1 : Int32))))
def qX1_preventionOf_22 (N : Nat) : Nat × Int32 × Int32 × Int32 → osM Int32 := osloop (fun ih p => bX1_preventionOf_22 N ih p.1 p.2.1 p.2.2.1 p.2.2.2) N
def qX1_preventionOf (N : Nat) (l0 : Nat) (l1 : Int32) : osM Int32 := osbind (osgR [1] 0 l0) fun x1 => osbind (osgR [2] 7 x1) fun x2 => osbind (qX9_entry N x2 l1) fun x3 => osbind (osgI [1] 2 l0) fun x4 => qX1_preventionOf_22 N (l0, (x3 &&& x4), (0 : Int32), (0 : Int32))
set_option maxRecDepth 100000 in
set_option maxHeartbeats 4000000 in
theorem sX1_preventionOf_94 (N : Nat) (c22 : Nat × Int32 × Int32 × Int32 → osM Int32) (g22 : ∀ (l0 : Nat) (l2 : Int32) (l3 : Int32) (l4 : Int32), osW (osFinM (fun r : Int32 => some (.int r)) 0 0) yX1_preventionOf cX1_preventionOf 6 (some .int) [] { frames := 2, cells := 0, slots := 0, locals := 42 } 0 0 22 [(0, .ref l0), (2, .int l2), (3, .int l3), (4, .int l4)] [] (c22 (l0, l2, l3, l4))) (l0 : Nat) (l2 : Int32) (l3 : Int32) (l4 : Int32) : osW (osFinM (fun r : Int32 => some (.int r)) 0 0) yX1_preventionOf cX1_preventionOf 6 (some .int) [] { frames := 2, cells := 0, slots := 0, locals := 42 } 0 0 94 [(0, .ref l0), (2, .int l2), (3, .int l3), (4, .int l4)] [] (qX1_preventionOf_94 N c22 l0 l2 l3 l4) := by
  unfold qX1_preventionOf_94
  refine os_iinc (i := 4) (d := 1) (x := l4) (v := (1 : Int32)) (lv' := [(4, .int (l4 + (1 : Int32))), (0, .ref l0), (2, .int l2), (3, .int l3)]) 3 rfl rfl (Nat.le_of_ble_eq_true rfl) rfl (hX1_preventionOf.at 47 rfl rfl) ?_
  refine os_goto (off := (-75)) (tgt := 22) rfl (hX1_preventionOf.at 48 rfl rfl) ?_
  exact osW.sub [1, 2, 3, 0] rfl (g22 l0 l2 l3 (l4 + (1 : Int32)))
set_option maxRecDepth 100000 in
set_option maxHeartbeats 4000000 in
theorem sX1_preventionOf_67 (N : Nat) (c22 : Nat × Int32 × Int32 × Int32 → osM Int32) (g22 : ∀ (l0 : Nat) (l2 : Int32) (l3 : Int32) (l4 : Int32), osW (osFinM (fun r : Int32 => some (.int r)) 0 0) yX1_preventionOf cX1_preventionOf 6 (some .int) [] { frames := 2, cells := 0, slots := 0, locals := 42 } 0 0 22 [(0, .ref l0), (2, .int l2), (3, .int l3), (4, .int l4)] [] (c22 (l0, l2, l3, l4))) (l0 : Nat) (l2 : Int32) (l3 : Int32) (l4 : Int32) (k0 : Int32) : osW (osFinM (fun r : Int32 => some (.int r)) 0 0) yX1_preventionOf cX1_preventionOf 6 (some .int) [] { frames := 2, cells := 0, slots := 0, locals := 42 } 0 0 67 [(0, .ref l0), (2, .int l2), (3, .int l3), (4, .int l4)] [.int k0] (qX1_preventionOf_67 N c22 l0 l2 l3 l4 k0) := by
  unfold qX1_preventionOf_67
  refine os_istore (i := 5) (lv' := [(5, .int k0), (0, .ref l0), (2, .int l2), (3, .int l3), (4, .int l4)]) (Nat.le_of_ble_eq_true rfl) rfl (hX1_preventionOf.at 34 rfl rfl) ?_
  refine os_iload_n (i := 2) (q := 2) (v := l2) 2 rfl rfl (hX1_preventionOf.at 35 rfl rfl) ?_
  refine os_iload (v := l4) 4 rfl (hX1_preventionOf.at 36 rfl rfl) ?_
  refine os_callSN (host := "OrderSettler") (As := [.int l2, .int l4]) (st := []) (st' := (fun r => .int r :: [])) mdX9_has wd1337 wd749 (sX9_has N l2 l4) rfl rfl (fun _ => rfl) (Nat.le_of_ble_eq_true rfl) (Nat.le_of_ble_eq_true rfl) (Nat.le_of_ble_eq_true rfl) rfl (Nat.le_of_ble_eq_true rfl) rfl (Nat.le_of_ble_eq_true rfl) (hX1_preventionOf.at 37 rfl rfl) (fun x1 => ?_)
  refine os_if_eq (off := 19) (tgt := 94) rfl (hX1_preventionOf.at 38 rfl rfl) ?_ ?_
  · exact osW.sub [1, 2, 3, 4] rfl (sX1_preventionOf_94 N c22 g22 l0 l2 l3 l4)
  · refine os_iload (v := k0) 0 rfl (hX1_preventionOf.at 39 rfl rfl) ?_
    refine os_if_ne (off := 14) (tgt := 94) rfl (hX1_preventionOf.at 40 rfl rfl) ?_ ?_
    · exact osW.sub [1, 2, 3, 4] rfl (sX1_preventionOf_94 N c22 g22 l0 l2 l3 l4)
    · refine os_iload_n (i := 3) (q := 3) (v := l3) 3 rfl rfl (hX1_preventionOf.at 41 rfl rfl) ?_
      refine os_aload_n (i := 0) (q := 0) (v := l0) 1 rfl rfl (hX1_preventionOf.at 42 rfl rfl) ?_
      refine os_iload (v := l4) 4 rfl (hX1_preventionOf.at 43 rfl rfl) ?_
      refine os_callV (cis := [1]) (b := l0) (As := [.int l4]) (st := [.int l3]) (st' := (fun r => .int r :: [.int l3])) sl1_X1_strengthOf_X1_strengthOf mdX1_strengthOf wd1364 wd1366 (sX1_strengthOf N l0 l4) rfl rfl (fun _ => rfl) (Nat.le_of_ble_eq_true rfl) (Nat.le_of_ble_eq_true rfl) (Nat.le_of_ble_eq_true rfl) rfl (Nat.le_of_ble_eq_true rfl) rfl (Nat.le_of_ble_eq_true rfl) (hX1_preventionOf.at 44 rfl rfl) (fun x2 => ?_)
      refine os_max wd1368 wd890 wd68 wmax (Nat.le_of_ble_eq_true rfl) (Nat.le_of_ble_eq_true rfl) (Nat.le_of_ble_eq_true rfl) (Nat.le_of_ble_eq_true rfl) (Nat.le_of_ble_eq_true rfl) (hX1_preventionOf.at 45 rfl rfl) ?_
      refine os_istore_n (i := 3) (q := 3) rfl (lv' := [(3, .int (osmax l3 x2)), (5, .int k0), (0, .ref l0), (2, .int l2), (4, .int l4)]) (Nat.le_of_ble_eq_true rfl) rfl (hX1_preventionOf.at 46 rfl rfl) ?_
      exact osW.sub [2, 3, 0, 4] rfl (sX1_preventionOf_94 N c22 g22 l0 l2 (osmax l3 x2) l4)
set_option maxRecDepth 100000 in
set_option maxHeartbeats 4000000 in
theorem sX1_preventionOf_66 (N : Nat) (c22 : Nat × Int32 × Int32 × Int32 → osM Int32) (g22 : ∀ (l0 : Nat) (l2 : Int32) (l3 : Int32) (l4 : Int32), osW (osFinM (fun r : Int32 => some (.int r)) 0 0) yX1_preventionOf cX1_preventionOf 6 (some .int) [] { frames := 2, cells := 0, slots := 0, locals := 42 } 0 0 22 [(0, .ref l0), (2, .int l2), (3, .int l3), (4, .int l4)] [] (c22 (l0, l2, l3, l4))) (l0 : Nat) (l2 : Int32) (l3 : Int32) (l4 : Int32) : osW (osFinM (fun r : Int32 => some (.int r)) 0 0) yX1_preventionOf cX1_preventionOf 6 (some .int) [] { frames := 2, cells := 0, slots := 0, locals := 42 } 0 0 66 [(0, .ref l0), (2, .int l2), (3, .int l3), (4, .int l4)] [] (qX1_preventionOf_66 N c22 l0 l2 l3 l4) := by
  unfold qX1_preventionOf_66
  refine os_iconst (i := 0) (v := (0 : Int32)) rfl (hX1_preventionOf.at 33 rfl rfl) ?_
  exact osW.sub [0, 1, 2, 3] rfl (sX1_preventionOf_67 N c22 g22 l0 l2 l3 l4 (0 : Int32))
set_option maxRecDepth 100000 in
set_option maxHeartbeats 4000000 in
theorem tX1_preventionOf_22 (N : Nat) (c22 : Nat × Int32 × Int32 × Int32 → osM Int32) (g22 : ∀ (l0 : Nat) (l2 : Int32) (l3 : Int32) (l4 : Int32), osW (osFinM (fun r : Int32 => some (.int r)) 0 0) yX1_preventionOf cX1_preventionOf 6 (some .int) [] { frames := 2, cells := 0, slots := 0, locals := 42 } 0 0 22 [(0, .ref l0), (2, .int l2), (3, .int l3), (4, .int l4)] [] (c22 (l0, l2, l3, l4))) (l0 : Nat) (l2 : Int32) (l3 : Int32) (l4 : Int32) : osW (osFinM (fun r : Int32 => some (.int r)) 0 0) yX1_preventionOf cX1_preventionOf 6 (some .int) [] { frames := 2, cells := 0, slots := 0, locals := 42 } 0 0 22 [(0, .ref l0), (2, .int l2), (3, .int l3), (4, .int l4)] [] (bX1_preventionOf_22 N c22 l0 l2 l3 l4) := by
  unfold bX1_preventionOf_22
  refine os_iload (v := l4) 3 rfl (hX1_preventionOf.at 13 rfl rfl) ?_
  refine os_bipush (i := 16) (v := (16 : Int32)) rfl (hX1_preventionOf.at 14 rfl rfl) ?_
  refine os_icmp_ge (off := 74) (tgt := 100) rfl (hX1_preventionOf.at 15 rfl rfl) ?_ ?_
  · refine os_iload_n (i := 3) (q := 3) (v := l3) 2 rfl rfl (hX1_preventionOf.at 49 rfl rfl) ?_
    exact os_iret (Nat.le_of_ble_eq_true rfl) (Nat.le_of_ble_eq_true rfl) (hX1_preventionOf.at 50 rfl rfl).1
  · refine os_aload_n (i := 0) (q := 0) (v := l0) 0 rfl rfl (hX1_preventionOf.at 16 rfl rfl) ?_
    refine os_getR fX1_12 (hX1_preventionOf.at 17 rfl rfl) (fun x1 => ?_)
    refine os_getI fX1_130 (hX1_preventionOf.at 18 rfl rfl) (fun x2 => ?_)
    refine os_iload (v := l4) 3 rfl (hX1_preventionOf.at 19 rfl rfl) ?_
    refine os_callSN (host := "OrderSettler") (As := [.int x2, .int l4]) (st := []) (st' := (fun r => .int r :: [])) mdX9_has wd1337 wd749 (sX9_has N x2 l4) rfl rfl (fun _ => rfl) (Nat.le_of_ble_eq_true rfl) (Nat.le_of_ble_eq_true rfl) (Nat.le_of_ble_eq_true rfl) rfl (Nat.le_of_ble_eq_true rfl) rfl (Nat.le_of_ble_eq_true rfl) (hX1_preventionOf.at 20 rfl rfl) (fun x3 => ?_)
    refine os_if_eq (off := 25) (tgt := 66) rfl (hX1_preventionOf.at 21 rfl rfl) ?_ ?_
    · exact osW.sub [0, 1, 2, 3] rfl (sX1_preventionOf_66 N c22 g22 l0 l2 l3 l4)
    · refine os_aload_n (i := 0) (q := 0) (v := l0) 0 rfl rfl (hX1_preventionOf.at 22 rfl rfl) ?_
      refine os_getR fX1_12 (hX1_preventionOf.at 23 rfl rfl) (fun x4 => ?_)
      refine os_getR fX1_76 (hX1_preventionOf.at 24 rfl rfl) (fun x5 => ?_)
      refine os_iload (v := l4) 3 rfl (hX1_preventionOf.at 25 rfl rfl) ?_
      refine os_iaload (hX1_preventionOf.at 26 rfl rfl) (fun x6 => ?_)
      refine os_aload_n (i := 0) (q := 0) (v := l0) 0 rfl rfl (hX1_preventionOf.at 27 rfl rfl) ?_
      refine os_getI fX1_32 (hX1_preventionOf.at 28 rfl rfl) (fun x7 => ?_)
      refine os_iand (hX1_preventionOf.at 29 rfl rfl) ?_
      refine os_if_eq (off := 7) (tgt := 66) rfl (hX1_preventionOf.at 30 rfl rfl) ?_ ?_
      · exact osW.sub [0, 1, 2, 3] rfl (sX1_preventionOf_66 N c22 g22 l0 l2 l3 l4)
      · refine os_iconst (i := 1) (v := (1 : Int32)) rfl (hX1_preventionOf.at 31 rfl rfl) ?_
        refine os_goto (off := 4) (tgt := 67) rfl (hX1_preventionOf.at 32 rfl rfl) ?_
        exact osW.sub [0, 1, 2, 3] rfl (sX1_preventionOf_67 N c22 g22 l0 l2 l3 l4 (1 : Int32))
set_option maxRecDepth 100000 in
set_option maxHeartbeats 4000000 in
theorem sX1_preventionOf_22 (N : Nat) (l0 : Nat) (l2 : Int32) (l3 : Int32) (l4 : Int32) : osW (osFinM (fun r : Int32 => some (.int r)) 0 0) yX1_preventionOf cX1_preventionOf 6 (some .int) [] { frames := 2, cells := 0, slots := 0, locals := 42 } 0 0 22 [(0, .ref l0), (2, .int l2), (3, .int l3), (4, .int l4)] [] (qX1_preventionOf_22 N (l0, l2, l3, l4)) :=
  osloop_W (lvf := fun p => [(0, .ref p.1), (2, .int p.2.1), (3, .int p.2.2.1), (4, .int p.2.2.2)]) (stf := fun p => []) (fun ih g p => tX1_preventionOf_22 N ih (fun l0 l2 l3 l4 => g (l0, l2, l3, l4)) p.1 p.2.1 p.2.2.1 p.2.2.2) N (l0, l2, l3, l4)
set_option maxRecDepth 100000 in
set_option maxHeartbeats 4000000 in
theorem sX1_preventionOf (N : Nat) (l0 : Nat) (l1 : Int32) : osMet yX1_preventionOf cX1_preventionOf 6 (some .int) 2 42 0 0 (fun r : Int32 => some (.int r)) [.ref l0, .int l1] (qX1_preventionOf N l0 l1) := by
  refine osMet.of plX1 (Nat.le_of_ble_eq_true rfl) (osW.rw (lv2 := [(0, .ref l0), (1, .int l1)]) ?_ rfl rfl rfl)
  unfold qX1_preventionOf
  refine os_aload_n (i := 0) (q := 0) (v := l0) 0 rfl rfl (hX1_preventionOf.at 0 rfl rfl) ?_
  refine os_getR fX1_12 (hX1_preventionOf.at 1 rfl rfl) (fun x1 => ?_)
  refine os_getR fX1_139 (hX1_preventionOf.at 2 rfl rfl) (fun x2 => ?_)
  refine os_iload_n (i := 1) (q := 1) (v := l1) 1 rfl rfl (hX1_preventionOf.at 3 rfl rfl) ?_
  refine os_callSN (host := "OrderSettler") (As := [.ref x2, .int l1]) (st := []) (st' := (fun r => .int r :: [])) mdX9_entry wd1342 wd784 (sX9_entry N x2 l1) rfl rfl (fun _ => rfl) (Nat.le_of_ble_eq_true rfl) (Nat.le_of_ble_eq_true rfl) (Nat.le_of_ble_eq_true rfl) rfl (Nat.le_of_ble_eq_true rfl) rfl (Nat.le_of_ble_eq_true rfl) (hX1_preventionOf.at 4 rfl rfl) (fun x3 => ?_)
  refine os_aload_n (i := 0) (q := 0) (v := l0) 0 rfl rfl (hX1_preventionOf.at 5 rfl rfl) ?_
  refine os_getI fX1_22 (hX1_preventionOf.at 6 rfl rfl) (fun x4 => ?_)
  refine os_iand (hX1_preventionOf.at 7 rfl rfl) ?_
  refine os_istore_n (i := 2) (q := 2) rfl (lv' := [(2, .int (x3 &&& x4)), (0, .ref l0), (1, .int l1)]) (Nat.le_of_ble_eq_true rfl) rfl (hX1_preventionOf.at 8 rfl rfl) ?_
  refine os_iconst (i := 0) (v := (0 : Int32)) rfl (hX1_preventionOf.at 9 rfl rfl) ?_
  refine os_istore_n (i := 3) (q := 3) rfl (lv' := [(3, .int (0 : Int32)), (2, .int (x3 &&& x4)), (0, .ref l0), (1, .int l1)]) (Nat.le_of_ble_eq_true rfl) rfl (hX1_preventionOf.at 10 rfl rfl) ?_
  refine os_iconst (i := 0) (v := (0 : Int32)) rfl (hX1_preventionOf.at 11 rfl rfl) ?_
  refine os_istore (i := 4) (lv' := [(4, .int (0 : Int32)), (3, .int (0 : Int32)), (2, .int (x3 &&& x4)), (0, .ref l0), (1, .int l1)]) (Nat.le_of_ble_eq_true rfl) rfl (hX1_preventionOf.at 12 rfl rfl) ?_
  exact osW.sub [3, 2, 1, 0] rfl (sX1_preventionOf_22 N l0 (x3 &&& x4) (0 : Int32) (0 : Int32))
-- X1_findAttacker
def KX1_findAttacker : List (Nat × Nat × Instr) := [(0, 1, .iconst 0), (1, 1, .istore_n 2), (2, 1, .iload_n 2), (3, 2, .bipush 16), (5, 3, .if_icmp .ge 46), (8, 1, .aload_n 0), (9, 3, .getfield 32), (12, 1, .aload_n 0), (13, 3, .getfield 12), (16, 3, .getfield 83), (19, 1, .iand), (20, 1, .iload_n 2), (21, 3, .invokestatic 72), (24, 3, .ifCond .eq 21), (27, 1, .aload_n 0), (28, 3, .getfield 12), (31, 3, .getfield 76), (34, 1, .iload_n 2), (35, 1, .iaload), (36, 1, .iload_n 1), (37, 3, .invokestatic 93), (40, 3, .if_icmp .ne 5), (43, 1, .iload_n 2), (44, 1, .ireturn), (45, 3, .iinc 2 1), (48, 3, .goto (-46)), (51, 1, .iconst (-1)), (52, 1, .ireturn)]
theorem hX1_findAttacker : osDs cX1_findAttacker KX1_findAttacker := by
  show ∀ q ∈ KX1_findAttacker, decode cX1_findAttacker q.1 = .ok (q.2.2, q.2.1)
  decide +kernel
def qX1_findAttacker_45 (N : Nat) (c2 : Nat × Int32 × Int32 → osM Int32) (l0 : Nat) (l1 : Int32) (l2 : Int32) : osM Int32 := c2 (l0, l1, (l2 + (1 : Int32)))
def bX1_findAttacker_2 (N : Nat) (c2 : Nat × Int32 × Int32 → osM Int32) (l0 : Nat) (l1 : Int32) (l2 : Int32) : osM Int32 := osite ((16 : Int32) ≤ l2) (osret (-1 : Int32)) (osbind (osgI [1] 5 l0) fun x1 => osbind (osgR [1] 0 l0) fun x2 => osbind (osgI [2] 2 x2) fun x3 => osbind (qX9_has N (x1 &&& x3) l2) fun x4 => osite (x4 = 0) (qX1_findAttacker_45 N c2 l0 l1 l2) (osbind (osgR [1] 0 l0) fun x5 => osbind (osgR [2] 6 x5) fun x6 => osbind (osaI 0 x6 l2) fun x7 => osbind (qX9_bit N l1) fun x8 => osite (x7 = x8) (osret l2) (qX1_findAttacker_45 N c2 l0 l1 l2)))
def qX1_findAttacker_2 (N : Nat) : Nat × Int32 × Int32 → osM Int32 := osloop (fun ih p => bX1_findAttacker_2 N ih p.1 p.2.1 p.2.2) N
def qX1_findAttacker (N : Nat) (l0 : Nat) (l1 : Int32) : osM Int32 := qX1_findAttacker_2 N (l0, l1, (0 : Int32))
set_option maxRecDepth 100000 in
set_option maxHeartbeats 4000000 in
theorem sX1_findAttacker_45 (N : Nat) (c2 : Nat × Int32 × Int32 → osM Int32) (g2 : ∀ (l0 : Nat) (l1 : Int32) (l2 : Int32), osW (osFinM (fun r : Int32 => some (.int r)) 0 0) yX1_findAttacker cX1_findAttacker 3 (some .int) [] { frames := 1, cells := 0, slots := 0, locals := 21 } 0 0 2 [(0, .ref l0), (1, .int l1), (2, .int l2)] [] (c2 (l0, l1, l2))) (l0 : Nat) (l1 : Int32) (l2 : Int32) : osW (osFinM (fun r : Int32 => some (.int r)) 0 0) yX1_findAttacker cX1_findAttacker 3 (some .int) [] { frames := 1, cells := 0, slots := 0, locals := 21 } 0 0 45 [(0, .ref l0), (1, .int l1), (2, .int l2)] [] (qX1_findAttacker_45 N c2 l0 l1 l2) := by
  unfold qX1_findAttacker_45
  refine os_iinc (i := 2) (d := 1) (x := l2) (v := (1 : Int32)) (lv' := [(2, .int (l2 + (1 : Int32))), (0, .ref l0), (1, .int l1)]) 2 rfl rfl (Nat.le_of_ble_eq_true rfl) rfl (hX1_findAttacker.at 24 rfl rfl) ?_
  refine os_goto (off := (-46)) (tgt := 2) rfl (hX1_findAttacker.at 25 rfl rfl) ?_
  exact osW.sub [1, 2, 0] rfl (g2 l0 l1 (l2 + (1 : Int32)))
set_option maxRecDepth 100000 in
set_option maxHeartbeats 4000000 in
theorem tX1_findAttacker_2 (N : Nat) (c2 : Nat × Int32 × Int32 → osM Int32) (g2 : ∀ (l0 : Nat) (l1 : Int32) (l2 : Int32), osW (osFinM (fun r : Int32 => some (.int r)) 0 0) yX1_findAttacker cX1_findAttacker 3 (some .int) [] { frames := 1, cells := 0, slots := 0, locals := 21 } 0 0 2 [(0, .ref l0), (1, .int l1), (2, .int l2)] [] (c2 (l0, l1, l2))) (l0 : Nat) (l1 : Int32) (l2 : Int32) : osW (osFinM (fun r : Int32 => some (.int r)) 0 0) yX1_findAttacker cX1_findAttacker 3 (some .int) [] { frames := 1, cells := 0, slots := 0, locals := 21 } 0 0 2 [(0, .ref l0), (1, .int l1), (2, .int l2)] [] (bX1_findAttacker_2 N c2 l0 l1 l2) := by
  unfold bX1_findAttacker_2
  refine os_iload_n (i := 2) (q := 2) (v := l2) 2 rfl rfl (hX1_findAttacker.at 2 rfl rfl) ?_
  refine os_bipush (i := 16) (v := (16 : Int32)) rfl (hX1_findAttacker.at 3 rfl rfl) ?_
  refine os_icmp_ge (off := 46) (tgt := 51) rfl (hX1_findAttacker.at 4 rfl rfl) ?_ ?_
  · refine os_iconst (i := (-1)) (v := (-1 : Int32)) rfl (hX1_findAttacker.at 26 rfl rfl) ?_
    exact os_iret (Nat.le_of_ble_eq_true rfl) (Nat.le_of_ble_eq_true rfl) (hX1_findAttacker.at 27 rfl rfl).1
  · refine os_aload_n (i := 0) (q := 0) (v := l0) 0 rfl rfl (hX1_findAttacker.at 5 rfl rfl) ?_
    refine os_getI fX1_32 (hX1_findAttacker.at 6 rfl rfl) (fun x1 => ?_)
    refine os_aload_n (i := 0) (q := 0) (v := l0) 0 rfl rfl (hX1_findAttacker.at 7 rfl rfl) ?_
    refine os_getR fX1_12 (hX1_findAttacker.at 8 rfl rfl) (fun x2 => ?_)
    refine os_getI fX1_83 (hX1_findAttacker.at 9 rfl rfl) (fun x3 => ?_)
    refine os_iand (hX1_findAttacker.at 10 rfl rfl) ?_
    refine os_iload_n (i := 2) (q := 2) (v := l2) 2 rfl rfl (hX1_findAttacker.at 11 rfl rfl) ?_
    refine os_callSN (host := "OrderSettler") (As := [.int (x1 &&& x3), .int l2]) (st := []) (st' := (fun r => .int r :: [])) mdX9_has wd1337 wd749 (sX9_has N (x1 &&& x3) l2) rfl rfl (fun _ => rfl) (Nat.le_of_ble_eq_true rfl) (Nat.le_of_ble_eq_true rfl) (Nat.le_of_ble_eq_true rfl) rfl (Nat.le_of_ble_eq_true rfl) rfl (Nat.le_of_ble_eq_true rfl) (hX1_findAttacker.at 12 rfl rfl) (fun x4 => ?_)
    refine os_if_eq (off := 21) (tgt := 45) rfl (hX1_findAttacker.at 13 rfl rfl) ?_ ?_
    · exact osW.sub [0, 1, 2] rfl (sX1_findAttacker_45 N c2 g2 l0 l1 l2)
    · refine os_aload_n (i := 0) (q := 0) (v := l0) 0 rfl rfl (hX1_findAttacker.at 14 rfl rfl) ?_
      refine os_getR fX1_12 (hX1_findAttacker.at 15 rfl rfl) (fun x5 => ?_)
      refine os_getR fX1_76 (hX1_findAttacker.at 16 rfl rfl) (fun x6 => ?_)
      refine os_iload_n (i := 2) (q := 2) (v := l2) 2 rfl rfl (hX1_findAttacker.at 17 rfl rfl) ?_
      refine os_iaload (hX1_findAttacker.at 18 rfl rfl) (fun x7 => ?_)
      refine os_iload_n (i := 1) (q := 1) (v := l1) 1 rfl rfl (hX1_findAttacker.at 19 rfl rfl) ?_
      refine os_callSN (host := "OrderSettler") (As := [.int l1]) (st := [.int x7]) (st' := (fun r => .int r :: [.int x7])) mdX9_bit wd1343 wd712 (sX9_bit N l1) rfl rfl (fun _ => rfl) (Nat.le_of_ble_eq_true rfl) (Nat.le_of_ble_eq_true rfl) (Nat.le_of_ble_eq_true rfl) rfl (Nat.le_of_ble_eq_true rfl) rfl (Nat.le_of_ble_eq_true rfl) (hX1_findAttacker.at 20 rfl rfl) (fun x8 => ?_)
      refine os_icmp_ne (off := 5) (tgt := 45) rfl (hX1_findAttacker.at 21 rfl rfl) ?_ ?_
      · exact osW.sub [0, 1, 2] rfl (sX1_findAttacker_45 N c2 g2 l0 l1 l2)
      · refine os_iload_n (i := 2) (q := 2) (v := l2) 2 rfl rfl (hX1_findAttacker.at 22 rfl rfl) ?_
        exact os_iret (Nat.le_of_ble_eq_true rfl) (Nat.le_of_ble_eq_true rfl) (hX1_findAttacker.at 23 rfl rfl).1
set_option maxRecDepth 100000 in
set_option maxHeartbeats 4000000 in
theorem sX1_findAttacker_2 (N : Nat) (l0 : Nat) (l1 : Int32) (l2 : Int32) : osW (osFinM (fun r : Int32 => some (.int r)) 0 0) yX1_findAttacker cX1_findAttacker 3 (some .int) [] { frames := 1, cells := 0, slots := 0, locals := 21 } 0 0 2 [(0, .ref l0), (1, .int l1), (2, .int l2)] [] (qX1_findAttacker_2 N (l0, l1, l2)) :=
  osloop_W (lvf := fun p => [(0, .ref p.1), (1, .int p.2.1), (2, .int p.2.2)]) (stf := fun p => []) (fun ih g p => tX1_findAttacker_2 N ih (fun l0 l1 l2 => g (l0, l1, l2)) p.1 p.2.1 p.2.2) N (l0, l1, l2)
set_option maxRecDepth 100000 in
set_option maxHeartbeats 4000000 in
theorem sX1_findAttacker (N : Nat) (l0 : Nat) (l1 : Int32) : osMet yX1_findAttacker cX1_findAttacker 3 (some .int) 1 21 0 0 (fun r : Int32 => some (.int r)) [.ref l0, .int l1] (qX1_findAttacker N l0 l1) := by
  refine osMet.of plX1 (Nat.le_of_ble_eq_true rfl) (osW.rw (lv2 := [(0, .ref l0), (1, .int l1)]) ?_ rfl rfl rfl)
  unfold qX1_findAttacker
  refine os_iconst (i := 0) (v := (0 : Int32)) rfl (hX1_findAttacker.at 0 rfl rfl) ?_
  refine os_istore_n (i := 2) (q := 2) rfl (lv' := [(2, .int (0 : Int32)), (0, .ref l0), (1, .int l1)]) (Nat.le_of_ble_eq_true rfl) rfl (hX1_findAttacker.at 1 rfl rfl) ?_
  exact osW.sub [1, 2, 0] rfl (sX1_findAttacker_2 N l0 l1 (0 : Int32))
-- X1_findFailedGoals
def KX1_findFailedGoals : List (Nat × Nat × Instr) := [(0, 1, .iconst 0), (1, 1, .istore_n 1), (2, 1, .iconst 0), (3, 1, .istore_n 2), (4, 1, .iload_n 2), (5, 2, .bipush 16), (7, 3, .if_icmp .ge 39), (10, 1, .aload_n 0), (11, 3, .getfield 22), (14, 1, .aload_n 0), (15, 3, .getfield 32), (18, 1, .iconst (-1)), (19, 1, .ixor), (20, 1, .iand), (21, 1, .iload_n 2), (22, 3, .invokestatic 72), (25, 3, .ifCond .eq 15), (28, 1, .iload_n 1), (29, 1, .aload_n 0), (30, 3, .getfield 12), (33, 3, .getfield 76), (36, 1, .iload_n 2), (37, 1, .iaload), (38, 1, .ior), (39, 1, .istore_n 1), (40, 3, .iinc 2 1), (43, 3, .goto (-39)), (46, 1, .iload_n 1), (47, 1, .ireturn)]
theorem hX1_findFailedGoals : osDs cX1_findFailedGoals KX1_findFailedGoals := by
  show ∀ q ∈ KX1_findFailedGoals, decode cX1_findFailedGoals q.1 = .ok (q.2.2, q.2.1)
  decide +kernel
def qX1_findFailedGoals_40 (N : Nat) (c4 : Nat × Int32 × Int32 → osM Int32) (l0 : Nat) (l1 : Int32) (l2 : Int32) : osM Int32 := c4 (l0, l1, (l2 + (1 : Int32)))
def bX1_findFailedGoals_4 (N : Nat) (c4 : Nat × Int32 × Int32 → osM Int32) (l0 : Nat) (l1 : Int32) (l2 : Int32) : osM Int32 := osite ((16 : Int32) ≤ l2) (osret l1) (osbind (osgI [1] 2 l0) fun x1 => osbind (osgI [1] 5 l0) fun x2 => osbind (qX9_has N (x1 &&& (x2 ^^^ (-1 : Int32))) l2) fun x3 => osite (x3 = 0) (qX1_findFailedGoals_40 N c4 l0 l1 l2) (osbind (osgR [1] 0 l0) fun x4 => osbind (osgR [2] 6 x4) fun x5 => osbind (osaI 0 x5 l2) fun x6 => qX1_findFailedGoals_40 N c4 l0 (l1 ||| x6) l2))
def qX1_findFailedGoals_4 (N : Nat) : Nat × Int32 × Int32 → osM Int32 := osloop (fun ih p => bX1_findFailedGoals_4 N ih p.1 p.2.1 p.2.2) N
def qX1_findFailedGoals (N : Nat) (l0 : Nat) : osM Int32 := qX1_findFailedGoals_4 N (l0, (0 : Int32), (0 : Int32))
set_option maxRecDepth 100000 in
set_option maxHeartbeats 4000000 in
theorem sX1_findFailedGoals_40 (N : Nat) (c4 : Nat × Int32 × Int32 → osM Int32) (g4 : ∀ (l0 : Nat) (l1 : Int32) (l2 : Int32), osW (osFinM (fun r : Int32 => some (.int r)) 0 0) yX1_findFailedGoals cX1_findFailedGoals 3 (some .int) [] { frames := 1, cells := 0, slots := 0, locals := 21 } 0 0 4 [(0, .ref l0), (1, .int l1), (2, .int l2)] [] (c4 (l0, l1, l2))) (l0 : Nat) (l1 : Int32) (l2 : Int32) : osW (osFinM (fun r : Int32 => some (.int r)) 0 0) yX1_findFailedGoals cX1_findFailedGoals 3 (some .int) [] { frames := 1, cells := 0, slots := 0, locals := 21 } 0 0 40 [(0, .ref l0), (1, .int l1), (2, .int l2)] [] (qX1_findFailedGoals_40 N c4 l0 l1 l2) := by
  unfold qX1_findFailedGoals_40
  refine os_iinc (i := 2) (d := 1) (x := l2) (v := (1 : Int32)) (lv' := [(2, .int (l2 + (1 : Int32))), (0, .ref l0), (1, .int l1)]) 2 rfl rfl (Nat.le_of_ble_eq_true rfl) rfl (hX1_findFailedGoals.at 25 rfl rfl) ?_
  refine os_goto (off := (-39)) (tgt := 4) rfl (hX1_findFailedGoals.at 26 rfl rfl) ?_
  exact osW.sub [1, 2, 0] rfl (g4 l0 l1 (l2 + (1 : Int32)))
set_option maxRecDepth 100000 in
set_option maxHeartbeats 4000000 in
theorem tX1_findFailedGoals_4 (N : Nat) (c4 : Nat × Int32 × Int32 → osM Int32) (g4 : ∀ (l0 : Nat) (l1 : Int32) (l2 : Int32), osW (osFinM (fun r : Int32 => some (.int r)) 0 0) yX1_findFailedGoals cX1_findFailedGoals 3 (some .int) [] { frames := 1, cells := 0, slots := 0, locals := 21 } 0 0 4 [(0, .ref l0), (1, .int l1), (2, .int l2)] [] (c4 (l0, l1, l2))) (l0 : Nat) (l1 : Int32) (l2 : Int32) : osW (osFinM (fun r : Int32 => some (.int r)) 0 0) yX1_findFailedGoals cX1_findFailedGoals 3 (some .int) [] { frames := 1, cells := 0, slots := 0, locals := 21 } 0 0 4 [(0, .ref l0), (1, .int l1), (2, .int l2)] [] (bX1_findFailedGoals_4 N c4 l0 l1 l2) := by
  unfold bX1_findFailedGoals_4
  refine os_iload_n (i := 2) (q := 2) (v := l2) 2 rfl rfl (hX1_findFailedGoals.at 4 rfl rfl) ?_
  refine os_bipush (i := 16) (v := (16 : Int32)) rfl (hX1_findFailedGoals.at 5 rfl rfl) ?_
  refine os_icmp_ge (off := 39) (tgt := 46) rfl (hX1_findFailedGoals.at 6 rfl rfl) ?_ ?_
  · refine os_iload_n (i := 1) (q := 1) (v := l1) 1 rfl rfl (hX1_findFailedGoals.at 27 rfl rfl) ?_
    exact os_iret (Nat.le_of_ble_eq_true rfl) (Nat.le_of_ble_eq_true rfl) (hX1_findFailedGoals.at 28 rfl rfl).1
  · refine os_aload_n (i := 0) (q := 0) (v := l0) 0 rfl rfl (hX1_findFailedGoals.at 7 rfl rfl) ?_
    refine os_getI fX1_22 (hX1_findFailedGoals.at 8 rfl rfl) (fun x1 => ?_)
    refine os_aload_n (i := 0) (q := 0) (v := l0) 0 rfl rfl (hX1_findFailedGoals.at 9 rfl rfl) ?_
    refine os_getI fX1_32 (hX1_findFailedGoals.at 10 rfl rfl) (fun x2 => ?_)
    refine os_iconst (i := (-1)) (v := (-1 : Int32)) rfl (hX1_findFailedGoals.at 11 rfl rfl) ?_
    refine os_ixor (hX1_findFailedGoals.at 12 rfl rfl) ?_
    refine os_iand (hX1_findFailedGoals.at 13 rfl rfl) ?_
    refine os_iload_n (i := 2) (q := 2) (v := l2) 2 rfl rfl (hX1_findFailedGoals.at 14 rfl rfl) ?_
    refine os_callSN (host := "OrderSettler") (As := [.int (x1 &&& (x2 ^^^ (-1 : Int32))), .int l2]) (st := []) (st' := (fun r => .int r :: [])) mdX9_has wd1337 wd749 (sX9_has N (x1 &&& (x2 ^^^ (-1 : Int32))) l2) rfl rfl (fun _ => rfl) (Nat.le_of_ble_eq_true rfl) (Nat.le_of_ble_eq_true rfl) (Nat.le_of_ble_eq_true rfl) rfl (Nat.le_of_ble_eq_true rfl) rfl (Nat.le_of_ble_eq_true rfl) (hX1_findFailedGoals.at 15 rfl rfl) (fun x3 => ?_)
    refine os_if_eq (off := 15) (tgt := 40) rfl (hX1_findFailedGoals.at 16 rfl rfl) ?_ ?_
    · exact osW.sub [0, 1, 2] rfl (sX1_findFailedGoals_40 N c4 g4 l0 l1 l2)
    · refine os_iload_n (i := 1) (q := 1) (v := l1) 1 rfl rfl (hX1_findFailedGoals.at 17 rfl rfl) ?_
      refine os_aload_n (i := 0) (q := 0) (v := l0) 0 rfl rfl (hX1_findFailedGoals.at 18 rfl rfl) ?_
      refine os_getR fX1_12 (hX1_findFailedGoals.at 19 rfl rfl) (fun x4 => ?_)
      refine os_getR fX1_76 (hX1_findFailedGoals.at 20 rfl rfl) (fun x5 => ?_)
      refine os_iload_n (i := 2) (q := 2) (v := l2) 2 rfl rfl (hX1_findFailedGoals.at 21 rfl rfl) ?_
      refine os_iaload (hX1_findFailedGoals.at 22 rfl rfl) (fun x6 => ?_)
      refine os_ior (hX1_findFailedGoals.at 23 rfl rfl) ?_
      refine os_istore_n (i := 1) (q := 1) rfl (lv' := [(1, .int (l1 ||| x6)), (0, .ref l0), (2, .int l2)]) (Nat.le_of_ble_eq_true rfl) rfl (hX1_findFailedGoals.at 24 rfl rfl) ?_
      exact osW.sub [1, 0, 2] rfl (sX1_findFailedGoals_40 N c4 g4 l0 (l1 ||| x6) l2)
set_option maxRecDepth 100000 in
set_option maxHeartbeats 4000000 in
theorem sX1_findFailedGoals_4 (N : Nat) (l0 : Nat) (l1 : Int32) (l2 : Int32) : osW (osFinM (fun r : Int32 => some (.int r)) 0 0) yX1_findFailedGoals cX1_findFailedGoals 3 (some .int) [] { frames := 1, cells := 0, slots := 0, locals := 21 } 0 0 4 [(0, .ref l0), (1, .int l1), (2, .int l2)] [] (qX1_findFailedGoals_4 N (l0, l1, l2)) :=
  osloop_W (lvf := fun p => [(0, .ref p.1), (1, .int p.2.1), (2, .int p.2.2)]) (stf := fun p => []) (fun ih g p => tX1_findFailedGoals_4 N ih (fun l0 l1 l2 => g (l0, l1, l2)) p.1 p.2.1 p.2.2) N (l0, l1, l2)
set_option maxRecDepth 100000 in
set_option maxHeartbeats 4000000 in
theorem sX1_findFailedGoals (N : Nat) (l0 : Nat) : osMet yX1_findFailedGoals cX1_findFailedGoals 3 (some .int) 1 21 0 0 (fun r : Int32 => some (.int r)) [.ref l0] (qX1_findFailedGoals N l0) := by
  refine osMet.of plX1 (Nat.le_of_ble_eq_true rfl) (osW.rw (lv2 := [(0, .ref l0)]) ?_ rfl rfl rfl)
  unfold qX1_findFailedGoals
  refine os_iconst (i := 0) (v := (0 : Int32)) rfl (hX1_findFailedGoals.at 0 rfl rfl) ?_
  refine os_istore_n (i := 1) (q := 1) rfl (lv' := [(1, .int (0 : Int32)), (0, .ref l0)]) (Nat.le_of_ble_eq_true rfl) rfl (hX1_findFailedGoals.at 1 rfl rfl) ?_
  refine os_iconst (i := 0) (v := (0 : Int32)) rfl (hX1_findFailedGoals.at 2 rfl rfl) ?_
  refine os_istore_n (i := 2) (q := 2) rfl (lv' := [(2, .int (0 : Int32)), (1, .int (0 : Int32)), (0, .ref l0)]) (Nat.le_of_ble_eq_true rfl) rfl (hX1_findFailedGoals.at 3 rfl rfl) ?_
  exact osW.sub [2, 1, 0] rfl (sX1_findFailedGoals_4 N l0 (0 : Int32) (0 : Int32))
-- X1_summaryOf
def KX1_summaryOf : List (Nat × Nat × Instr) := [(0, 1, .aload_n 0), (1, 3, .getfield 12), (4, 3, .getfield 80), (7, 1, .iload_n 1), (8, 3, .invokestatic 72), (11, 3, .ifCond .ne 5), (14, 1, .iconst 0), (15, 1, .ireturn), (16, 1, .aload_n 0), (17, 3, .getfield 12), (20, 3, .getfield 53), (23, 1, .iload_n 1), (24, 3, .invokestatic 72), (27, 3, .ifCond .eq 20), (30, 1, .aload_n 0), (31, 3, .getfield 32), (34, 1, .iload_n 1), (35, 3, .invokestatic 72), (38, 3, .ifCond .eq 7), (41, 1, .iconst 1), (42, 3, .goto 4), (45, 1, .iconst 2), (46, 1, .ireturn), (47, 1, .aload_n 0), (48, 3, .getfield 12), (51, 3, .getfield 157), (54, 1, .iload_n 1), (55, 3, .invokestatic 72), (58, 3, .ifCond .eq 20), (61, 1, .aload_n 0), (62, 3, .getfield 26), (65, 1, .iload_n 1), (66, 3, .invokestatic 72), (69, 3, .ifCond .eq 7), (72, 1, .iconst 3), (73, 3, .goto 4), (76, 1, .iconst 4), (77, 1, .ireturn), (78, 1, .iconst 5), (79, 1, .ireturn)]
theorem hX1_summaryOf : osDs cX1_summaryOf KX1_summaryOf := by
  show ∀ q ∈ KX1_summaryOf, decode cX1_summaryOf q.1 = .ok (q.2.2, q.2.1)
  decide +kernel
def qX1_summaryOf_77 (N : Nat) (k0 : Int32) : osM Int32 := osret k0
def qX1_summaryOf_46 (N : Nat) (k0 : Int32) : osM Int32 := osret k0
def qX1_summaryOf (N : Nat) (l0 : Nat) (l1 : Int32) : osM Int32 := osbind (osgR [1] 0 l0) fun x1 => osbind (osgI [2] 0 x1) fun x2 => osbind (qX9_has N x2 l1) fun x3 => osite (x3 = 0) (osret (0 : Int32)) (osbind (osgR [1] 0 l0) fun x4 => osbind (osgI [2] 1 x4) fun x5 => osbind (qX9_has N x5 l1) fun x6 => osite (x6 = 0) (osbind (osgR [1] 0 l0) fun x7 => osbind (osgI [2] 4 x7) fun x8 => osbind (qX9_has N x8 l1) fun x9 => osite (x9 = 0) (osret (5 : Int32)) (osbind (osgI [1] 3 l0) fun x10 => osbind (qX9_has N x10 l1) fun x11 => osite (x11 = 0) (qX1_summaryOf_77 N (4 : Int32)) (qX1_summaryOf_77 N (3 : Int32)))) (osbind (osgI [1] 5 l0) fun x12 => osbind (qX9_has N x12 l1) fun x13 => osite (x13 = 0) (qX1_summaryOf_46 N (2 : Int32)) (qX1_summaryOf_46 N (1 : Int32))))
set_option maxRecDepth 100000 in
set_option maxHeartbeats 4000000 in
theorem sX1_summaryOf_77 (N : Nat) (k0 : Int32) : osW (osFinM (fun r : Int32 => some (.int r)) 0 0) yX1_summaryOf cX1_summaryOf 2 (some .int) [] { frames := 1, cells := 0, slots := 0, locals := 21 } 0 0 77 [] [.int k0] (qX1_summaryOf_77 N k0) := by
  unfold qX1_summaryOf_77
  exact os_iret (Nat.le_of_ble_eq_true rfl) (Nat.le_of_ble_eq_true rfl) (hX1_summaryOf.at 37 rfl rfl).1
set_option maxRecDepth 100000 in
set_option maxHeartbeats 4000000 in
theorem sX1_summaryOf_46 (N : Nat) (k0 : Int32) : osW (osFinM (fun r : Int32 => some (.int r)) 0 0) yX1_summaryOf cX1_summaryOf 2 (some .int) [] { frames := 1, cells := 0, slots := 0, locals := 21 } 0 0 46 [] [.int k0] (qX1_summaryOf_46 N k0) := by
  unfold qX1_summaryOf_46
  exact os_iret (Nat.le_of_ble_eq_true rfl) (Nat.le_of_ble_eq_true rfl) (hX1_summaryOf.at 22 rfl rfl).1
set_option maxRecDepth 100000 in
set_option maxHeartbeats 4000000 in
theorem sX1_summaryOf (N : Nat) (l0 : Nat) (l1 : Int32) : osMet yX1_summaryOf cX1_summaryOf 2 (some .int) 1 21 0 0 (fun r : Int32 => some (.int r)) [.ref l0, .int l1] (qX1_summaryOf N l0 l1) := by
  refine osMet.of plX1 (Nat.le_of_ble_eq_true rfl) (osW.rw (lv2 := [(0, .ref l0), (1, .int l1)]) ?_ rfl rfl rfl)
  unfold qX1_summaryOf
  refine os_aload_n (i := 0) (q := 0) (v := l0) 0 rfl rfl (hX1_summaryOf.at 0 rfl rfl) ?_
  refine os_getR fX1_12 (hX1_summaryOf.at 1 rfl rfl) (fun x1 => ?_)
  refine os_getI fX1_80 (hX1_summaryOf.at 2 rfl rfl) (fun x2 => ?_)
  refine os_iload_n (i := 1) (q := 1) (v := l1) 1 rfl rfl (hX1_summaryOf.at 3 rfl rfl) ?_
  refine os_callSN (host := "OrderSettler") (As := [.int x2, .int l1]) (st := []) (st' := (fun r => .int r :: [])) mdX9_has wd1337 wd749 (sX9_has N x2 l1) rfl rfl (fun _ => rfl) (Nat.le_of_ble_eq_true rfl) (Nat.le_of_ble_eq_true rfl) (Nat.le_of_ble_eq_true rfl) rfl (Nat.le_of_ble_eq_true rfl) rfl (Nat.le_of_ble_eq_true rfl) (hX1_summaryOf.at 4 rfl rfl) (fun x3 => ?_)
  refine os_if_ne (off := 5) (tgt := 16) rfl (hX1_summaryOf.at 5 rfl rfl) ?_ ?_
  · refine os_aload_n (i := 0) (q := 0) (v := l0) 0 rfl rfl (hX1_summaryOf.at 8 rfl rfl) ?_
    refine os_getR fX1_12 (hX1_summaryOf.at 9 rfl rfl) (fun x4 => ?_)
    refine os_getI fX1_53 (hX1_summaryOf.at 10 rfl rfl) (fun x5 => ?_)
    refine os_iload_n (i := 1) (q := 1) (v := l1) 1 rfl rfl (hX1_summaryOf.at 11 rfl rfl) ?_
    refine os_callSN (host := "OrderSettler") (As := [.int x5, .int l1]) (st := []) (st' := (fun r => .int r :: [])) mdX9_has wd1337 wd749 (sX9_has N x5 l1) rfl rfl (fun _ => rfl) (Nat.le_of_ble_eq_true rfl) (Nat.le_of_ble_eq_true rfl) (Nat.le_of_ble_eq_true rfl) rfl (Nat.le_of_ble_eq_true rfl) rfl (Nat.le_of_ble_eq_true rfl) (hX1_summaryOf.at 12 rfl rfl) (fun x6 => ?_)
    refine os_if_eq (off := 20) (tgt := 47) rfl (hX1_summaryOf.at 13 rfl rfl) ?_ ?_
    · refine os_aload_n (i := 0) (q := 0) (v := l0) 0 rfl rfl (hX1_summaryOf.at 23 rfl rfl) ?_
      refine os_getR fX1_12 (hX1_summaryOf.at 24 rfl rfl) (fun x7 => ?_)
      refine os_getI fX1_157 (hX1_summaryOf.at 25 rfl rfl) (fun x8 => ?_)
      refine os_iload_n (i := 1) (q := 1) (v := l1) 1 rfl rfl (hX1_summaryOf.at 26 rfl rfl) ?_
      refine os_callSN (host := "OrderSettler") (As := [.int x8, .int l1]) (st := []) (st' := (fun r => .int r :: [])) mdX9_has wd1337 wd749 (sX9_has N x8 l1) rfl rfl (fun _ => rfl) (Nat.le_of_ble_eq_true rfl) (Nat.le_of_ble_eq_true rfl) (Nat.le_of_ble_eq_true rfl) rfl (Nat.le_of_ble_eq_true rfl) rfl (Nat.le_of_ble_eq_true rfl) (hX1_summaryOf.at 27 rfl rfl) (fun x9 => ?_)
      refine os_if_eq (off := 20) (tgt := 78) rfl (hX1_summaryOf.at 28 rfl rfl) ?_ ?_
      · refine os_iconst (i := 5) (v := (5 : Int32)) rfl (hX1_summaryOf.at 38 rfl rfl) ?_
        exact os_iret (Nat.le_of_ble_eq_true rfl) (Nat.le_of_ble_eq_true rfl) (hX1_summaryOf.at 39 rfl rfl).1
      · refine os_aload_n (i := 0) (q := 0) (v := l0) 0 rfl rfl (hX1_summaryOf.at 29 rfl rfl) ?_
        refine os_getI fX1_26 (hX1_summaryOf.at 30 rfl rfl) (fun x10 => ?_)
        refine os_iload_n (i := 1) (q := 1) (v := l1) 1 rfl rfl (hX1_summaryOf.at 31 rfl rfl) ?_
        refine os_callSN (host := "OrderSettler") (As := [.int x10, .int l1]) (st := []) (st' := (fun r => .int r :: [])) mdX9_has wd1337 wd749 (sX9_has N x10 l1) rfl rfl (fun _ => rfl) (Nat.le_of_ble_eq_true rfl) (Nat.le_of_ble_eq_true rfl) (Nat.le_of_ble_eq_true rfl) rfl (Nat.le_of_ble_eq_true rfl) rfl (Nat.le_of_ble_eq_true rfl) (hX1_summaryOf.at 32 rfl rfl) (fun x11 => ?_)
        refine os_if_eq (off := 7) (tgt := 76) rfl (hX1_summaryOf.at 33 rfl rfl) ?_ ?_
        · refine os_iconst (i := 4) (v := (4 : Int32)) rfl (hX1_summaryOf.at 36 rfl rfl) ?_
          exact osW.sub [] rfl (sX1_summaryOf_77 N (4 : Int32))
        · refine os_iconst (i := 3) (v := (3 : Int32)) rfl (hX1_summaryOf.at 34 rfl rfl) ?_
          refine os_goto (off := 4) (tgt := 77) rfl (hX1_summaryOf.at 35 rfl rfl) ?_
          exact osW.sub [] rfl (sX1_summaryOf_77 N (3 : Int32))
    · refine os_aload_n (i := 0) (q := 0) (v := l0) 0 rfl rfl (hX1_summaryOf.at 14 rfl rfl) ?_
      refine os_getI fX1_32 (hX1_summaryOf.at 15 rfl rfl) (fun x12 => ?_)
      refine os_iload_n (i := 1) (q := 1) (v := l1) 1 rfl rfl (hX1_summaryOf.at 16 rfl rfl) ?_
      refine os_callSN (host := "OrderSettler") (As := [.int x12, .int l1]) (st := []) (st' := (fun r => .int r :: [])) mdX9_has wd1337 wd749 (sX9_has N x12 l1) rfl rfl (fun _ => rfl) (Nat.le_of_ble_eq_true rfl) (Nat.le_of_ble_eq_true rfl) (Nat.le_of_ble_eq_true rfl) rfl (Nat.le_of_ble_eq_true rfl) rfl (Nat.le_of_ble_eq_true rfl) (hX1_summaryOf.at 17 rfl rfl) (fun x13 => ?_)
      refine os_if_eq (off := 7) (tgt := 45) rfl (hX1_summaryOf.at 18 rfl rfl) ?_ ?_
      · refine os_iconst (i := 2) (v := (2 : Int32)) rfl (hX1_summaryOf.at 21 rfl rfl) ?_
        exact osW.sub [] rfl (sX1_summaryOf_46 N (2 : Int32))
      · refine os_iconst (i := 1) (v := (1 : Int32)) rfl (hX1_summaryOf.at 19 rfl rfl) ?_
        refine os_goto (off := 4) (tgt := 46) rfl (hX1_summaryOf.at 20 rfl rfl) ?_
        exact osW.sub [] rfl (sX1_summaryOf_46 N (1 : Int32))
  · refine os_iconst (i := 0) (v := (0 : Int32)) rfl (hX1_summaryOf.at 6 rfl rfl) ?_
    exact os_iret (Nat.le_of_ble_eq_true rfl) (Nat.le_of_ble_eq_true rfl) (hX1_summaryOf.at 7 rfl rfl).1
-- X1_reasonFor
def KX1_reasonFor : List (Nat × Nat × Instr) := [(0, 1, .aload_n 0), (1, 3, .getfield 22), (4, 1, .iload_n 1), (5, 3, .invokestatic 72), (8, 3, .ifCond .ne 5), (11, 1, .iconst 1), (12, 1, .ireturn), (13, 1, .aload_n 0), (14, 1, .iload_n 1), (15, 3, .invokevirtual 118), (18, 1, .aload_n 0), (19, 1, .iload_n 1), (20, 3, .invokevirtual 121), (23, 3, .if_icmp .le 7), (26, 1, .iconst 3), (27, 3, .goto 4), (30, 1, .iconst 2), (31, 1, .ireturn)]
theorem hX1_reasonFor : osDs cX1_reasonFor KX1_reasonFor := by
  show ∀ q ∈ KX1_reasonFor, decode cX1_reasonFor q.1 = .ok (q.2.2, q.2.1)
  decide +kernel
def qX1_reasonFor_31 (N : Nat) (k0 : Int32) : osM Int32 := osret k0
def qX1_reasonFor (N : Nat) (l0 : Nat) (l1 : Int32) : osM Int32 := osbind (osgI [1] 2 l0) fun x1 => osbind (qX9_has N x1 l1) fun x2 => osite (x2 = 0) (osret (1 : Int32)) (osbind (osrecv [1] l0 (qX1_attackOf N l0 l1)) fun x3 => osbind (osrecv [1] l0 (qX1_resistanceTo N l0 l1)) fun x4 => osite (x3 ≤ x4) (qX1_reasonFor_31 N (2 : Int32)) (qX1_reasonFor_31 N (3 : Int32)))
set_option maxRecDepth 100000 in
set_option maxHeartbeats 4000000 in
theorem sX1_reasonFor_31 (N : Nat) (k0 : Int32) : osW (osFinM (fun r : Int32 => some (.int r)) 0 0) yX1_reasonFor cX1_reasonFor 2 (some .int) [] { frames := 2, cells := 0, slots := 0, locals := 45 } 0 0 31 [] [.int k0] (qX1_reasonFor_31 N k0) := by
  unfold qX1_reasonFor_31
  exact os_iret (Nat.le_of_ble_eq_true rfl) (Nat.le_of_ble_eq_true rfl) (hX1_reasonFor.at 17 rfl rfl).1
set_option maxRecDepth 100000 in
set_option maxHeartbeats 4000000 in
theorem sX1_reasonFor (N : Nat) (l0 : Nat) (l1 : Int32) : osMet yX1_reasonFor cX1_reasonFor 2 (some .int) 2 45 0 0 (fun r : Int32 => some (.int r)) [.ref l0, .int l1] (qX1_reasonFor N l0 l1) := by
  refine osMet.of plX1 (Nat.le_of_ble_eq_true rfl) (osW.rw (lv2 := [(0, .ref l0), (1, .int l1)]) ?_ rfl rfl rfl)
  unfold qX1_reasonFor
  refine os_aload_n (i := 0) (q := 0) (v := l0) 0 rfl rfl (hX1_reasonFor.at 0 rfl rfl) ?_
  refine os_getI fX1_22 (hX1_reasonFor.at 1 rfl rfl) (fun x1 => ?_)
  refine os_iload_n (i := 1) (q := 1) (v := l1) 1 rfl rfl (hX1_reasonFor.at 2 rfl rfl) ?_
  refine os_callSN (host := "OrderSettler") (As := [.int x1, .int l1]) (st := []) (st' := (fun r => .int r :: [])) mdX9_has wd1337 wd749 (sX9_has N x1 l1) rfl rfl (fun _ => rfl) (Nat.le_of_ble_eq_true rfl) (Nat.le_of_ble_eq_true rfl) (Nat.le_of_ble_eq_true rfl) rfl (Nat.le_of_ble_eq_true rfl) rfl (Nat.le_of_ble_eq_true rfl) (hX1_reasonFor.at 3 rfl rfl) (fun x2 => ?_)
  refine os_if_ne (off := 5) (tgt := 13) rfl (hX1_reasonFor.at 4 rfl rfl) ?_ ?_
  · refine os_aload_n (i := 0) (q := 0) (v := l0) 0 rfl rfl (hX1_reasonFor.at 7 rfl rfl) ?_
    refine os_iload_n (i := 1) (q := 1) (v := l1) 1 rfl rfl (hX1_reasonFor.at 8 rfl rfl) ?_
    refine os_callV (cis := [1]) (b := l0) (As := [.int l1]) (st := []) (st' := (fun r => .int r :: [])) sl1_X1_attackOf_X1_attackOf mdX1_attackOf wd1352 wd1354 (sX1_attackOf N l0 l1) rfl rfl (fun _ => rfl) (Nat.le_of_ble_eq_true rfl) (Nat.le_of_ble_eq_true rfl) (Nat.le_of_ble_eq_true rfl) rfl (Nat.le_of_ble_eq_true rfl) rfl (Nat.le_of_ble_eq_true rfl) (hX1_reasonFor.at 9 rfl rfl) (fun x3 => ?_)
    refine os_aload_n (i := 0) (q := 0) (v := l0) 0 rfl rfl (hX1_reasonFor.at 10 rfl rfl) ?_
    refine os_iload_n (i := 1) (q := 1) (v := l1) 1 rfl rfl (hX1_reasonFor.at 11 rfl rfl) ?_
    refine os_callV (cis := [1]) (b := l0) (As := [.int l1]) (st := [.int x3]) (st' := (fun r => .int r :: [.int x3])) sl1_X1_resistanceTo_X1_resistanceTo mdX1_resistanceTo wd1356 wd1358 (sX1_resistanceTo N l0 l1) rfl rfl (fun _ => rfl) (Nat.le_of_ble_eq_true rfl) (Nat.le_of_ble_eq_true rfl) (Nat.le_of_ble_eq_true rfl) rfl (Nat.le_of_ble_eq_true rfl) rfl (Nat.le_of_ble_eq_true rfl) (hX1_reasonFor.at 12 rfl rfl) (fun x4 => ?_)
    refine os_icmp_le (off := 7) (tgt := 30) rfl (hX1_reasonFor.at 13 rfl rfl) ?_ ?_
    · refine os_iconst (i := 2) (v := (2 : Int32)) rfl (hX1_reasonFor.at 16 rfl rfl) ?_
      exact osW.sub [] rfl (sX1_reasonFor_31 N (2 : Int32))
    · refine os_iconst (i := 3) (v := (3 : Int32)) rfl (hX1_reasonFor.at 14 rfl rfl) ?_
      refine os_goto (off := 4) (tgt := 31) rfl (hX1_reasonFor.at 15 rfl rfl) ?_
      exact osW.sub [] rfl (sX1_reasonFor_31 N (3 : Int32))
  · refine os_iconst (i := 1) (v := (1 : Int32)) rfl (hX1_reasonFor.at 5 rfl rfl) ?_
    exact os_iret (Nat.le_of_ble_eq_true rfl) (Nat.le_of_ble_eq_true rfl) (hX1_reasonFor.at 6 rfl rfl).1
-- X1_weigh
def KX1_weigh : List (Nat × Nat × Instr) := [(0, 1, .aload_n 0), (1, 1, .iload_n 1), (2, 3, .putfield 32), (5, 1, .iconst 0), (6, 1, .istore_n 2), (7, 1, .iconst 0), (8, 1, .istore_n 3), (9, 1, .iload_n 3), (10, 2, .bipush 16), (12, 3, .if_icmp .ge 29), (15, 1, .iload_n 1), (16, 1, .iload_n 3), (17, 3, .invokestatic 72), (20, 3, .ifCond .eq 15), (23, 1, .iload_n 2), (24, 1, .aload_n 0), (25, 3, .getfield 12), (28, 3, .getfield 76), (31, 1, .iload_n 3), (32, 1, .iaload), (33, 1, .ior), (34, 1, .istore_n 2), (35, 3, .iinc 3 1), (38, 3, .goto (-29)), (41, 1, .aload_n 0), (42, 1, .iload_n 2), (43, 1, .aload_n 0), (44, 3, .getfield 12), (47, 3, .getfield 80), (50, 1, .iand), (51, 1, .iload_n 1), (52, 1, .iconst (-1)), (53, 1, .ixor), (54, 1, .iand), (55, 3, .putfield 35), (58, 1, .aload_n 0), (59, 1, .aload_n 0), (60, 3, .getfield 12), (63, 3, .getfield 83), (66, 3, .putfield 22), (69, 1, .aload_n 0), (70, 1, .iconst 0), (71, 3, .putfield 26), (74, 1, .iconst 0), (75, 1, .istore_n 3), (76, 1, .iload_n 3), (77, 2, .bipush 16), (79, 3, .if_icmp .ge 49), (82, 1, .aload_n 0), (83, 3, .getfield 18), (86, 3, .ifCond .eq 36), (89, 1, .aload_n 0), (90, 3, .getfield 12), (93, 3, .getfield 86), (96, 1, .iload_n 3), (97, 1, .iaload), (98, 3, .ifCond .eq 24), (101, 1, .aload_n 0), (102, 1, .iload_n 3), (103, 3, .invokevirtual 89), (106, 3, .ifCond .eq 16), (109, 1, .aload_n 0), (110, 1, .dup), (111, 3, .getfield 22), (114, 1, .iload_n 3), (115, 3, .invokestatic 93), (118, 1, .ior), (119, 3, .putfield 22), (122, 3, .iinc 3 1), (125, 3, .goto (-49)), (128, 1, .iconst 0), (129, 1, .istore_n 3), (130, 1, .iload_n 3), (131, 2, .bipush 16), (133, 3, .if_icmp .ge 60), (136, 1, .aload_n 0), (137, 3, .getfield 12), (140, 3, .getfield 96), (143, 1, .aload_n 0), (144, 3, .getfield 35), (147, 1, .iconst (-1)), (148, 1, .ixor), (149, 1, .iand), (150, 1, .iload_n 3), (151, 3, .invokestatic 72), (154, 3, .ifCond .eq 33), (157, 1, .aload_n 0), (158, 3, .getfield 12), (161, 3, .getfield 99), (164, 1, .iload_n 3), (165, 1, .iaload), (166, 1, .aload_n 0), (167, 3, .getfield 22), (170, 1, .iand), (171, 3, .ifCond .ne 16), (174, 1, .aload_n 0), (175, 1, .dup), (176, 3, .getfield 26), (179, 1, .iload_n 3), (180, 3, .invokestatic 93), (183, 1, .ior), (184, 3, .putfield 26), (187, 3, .iinc 3 1), (190, 3, .goto (-60)), (193, 1, .return_)]
theorem hX1_weigh : osDs cX1_weigh KX1_weigh := by
  show ∀ q ∈ KX1_weigh, decode cX1_weigh q.1 = .ok (q.2.2, q.2.1)
  decide +kernel
def qX1_weigh_187 (N : Nat) (c130 : Nat × Int32 → osM Unit) (l0 : Nat) (l3 : Int32) : osM Unit := c130 (l0, (l3 + (1 : Int32)))
def bX1_weigh_130 (N : Nat) (c130 : Nat × Int32 → osM Unit) (l0 : Nat) (l3 : Int32) : osM Unit := osite ((16 : Int32) ≤ l3) (osret ()) (osbind (osgR [1] 0 l0) fun x1 => osbind (osgI [2] 5 x1) fun x2 => osbind (osgI [1] 6 l0) fun x3 => osbind (qX9_has N (x2 &&& (x3 ^^^ (-1 : Int32))) l3) fun x4 => osite (x4 = 0) (qX1_weigh_187 N c130 l0 l3) (osbind (osgR [1] 0 l0) fun x5 => osbind (osgR [2] 11 x5) fun x6 => osbind (osaI 0 x6 l3) fun x7 => osbind (osgI [1] 2 l0) fun x8 => osite ((x7 &&& x8) = 0) (osbind (osgI [1] 3 l0) fun x9 => osbind (qX9_bit N l3) fun x10 => osbind (osput [1] 3 l0 (.int (x9 ||| x10))) fun _ => qX1_weigh_187 N c130 l0 l3) (qX1_weigh_187 N c130 l0 l3)))
def qX1_weigh_130 (N : Nat) : Nat × Int32 → osM Unit := osloop (fun ih p => bX1_weigh_130 N ih p.1 p.2) N
def qX1_weigh_122 (N : Nat) (c76 : Nat × Int32 → osM Unit) (l0 : Nat) (l3 : Int32) : osM Unit := c76 (l0, (l3 + (1 : Int32)))
def bX1_weigh_76 (N : Nat) (c76 : Nat × Int32 → osM Unit) (l0 : Nat) (l3 : Int32) : osM Unit := osite ((16 : Int32) ≤ l3) (qX1_weigh_130 N (l0, (0 : Int32))) (osbind (osgI [1] 1 l0) fun x1 => osite (x1 = 0) (qX1_weigh_122 N c76 l0 l3) (osbind (osgR [1] 0 l0) fun x2 => osbind (osgR [2] 12 x2) fun x3 => osbind (osaI 0 x3 l3) fun x4 => osite (x4 = 0) (qX1_weigh_122 N c76 l0 l3) (osbind (osrecv [1] l0 (qX1_isCarried N l0 l3)) fun x5 => osite (x5 = 0) (qX1_weigh_122 N c76 l0 l3) (osbind (osgI [1] 2 l0) fun x6 => osbind (qX9_bit N l3) fun x7 => osbind (osput [1] 2 l0 (.int (x6 ||| x7))) fun _ => qX1_weigh_122 N c76 l0 l3))))
def qX1_weigh_76 (N : Nat) : Nat × Int32 → osM Unit := osloop (fun ih p => bX1_weigh_76 N ih p.1 p.2) N
def qX1_weigh_35 (N : Nat) (c9 : Nat × Int32 × Int32 × Int32 → osM Unit) (l0 : Nat) (l1 : Int32) (l2 : Int32) (l3 : Int32) : osM Unit := c9 (l0, l1, l2, (l3 + (1 : Int32)))
def bX1_weigh_9 (N : Nat) (c9 : Nat × Int32 × Int32 × Int32 → osM Unit) (l0 : Nat) (l1 : Int32) (l2 : Int32) (l3 : Int32) : osM Unit := osite ((16 : Int32) ≤ l3) (osbind (osgR [1] 0 l0) fun x1 => osbind (osgI [2] 0 x1) fun x2 => osbind (osput [1] 6 l0 (.int ((l2 &&& x2) &&& (l1 ^^^ (-1 : Int32))))) fun _ => osbind (osgR [1] 0 l0) fun x3 => osbind (osgI [2] 2 x3) fun x4 => osbind (osput [1] 2 l0 (.int x4)) fun _ => osbind (osput [1] 3 l0 (.int (0 : Int32))) fun _ => qX1_weigh_76 N (l0, (0 : Int32))) (osbind (qX9_has N l1 l3) fun x5 => osite (x5 = 0) (qX1_weigh_35 N c9 l0 l1 l2 l3) (osbind (osgR [1] 0 l0) fun x6 => osbind (osgR [2] 6 x6) fun x7 => osbind (osaI 0 x7 l3) fun x8 => qX1_weigh_35 N c9 l0 l1 (l2 ||| x8) l3))
def qX1_weigh_9 (N : Nat) : Nat × Int32 × Int32 × Int32 → osM Unit := osloop (fun ih p => bX1_weigh_9 N ih p.1 p.2.1 p.2.2.1 p.2.2.2) N
def qX1_weigh (N : Nat) (l0 : Nat) (l1 : Int32) : osM Unit := osbind (osput [1] 5 l0 (.int l1)) fun _ => qX1_weigh_9 N (l0, l1, (0 : Int32), (0 : Int32))
set_option maxRecDepth 100000 in
set_option maxHeartbeats 4000000 in
theorem sX1_weigh_187 (N : Nat) (c130 : Nat × Int32 → osM Unit) (g130 : ∀ (l0 : Nat) (l3 : Int32), osW (osFinM (fun _ : Unit => none) 0 0) yX1_weigh cX1_weigh 4 none [] { frames := 2, cells := 0, slots := 0, locals := 47 } 0 0 130 [(0, .ref l0), (3, .int l3)] [] (c130 (l0, l3))) (l0 : Nat) (l3 : Int32) : osW (osFinM (fun _ : Unit => none) 0 0) yX1_weigh cX1_weigh 4 none [] { frames := 2, cells := 0, slots := 0, locals := 47 } 0 0 187 [(0, .ref l0), (3, .int l3)] [] (qX1_weigh_187 N c130 l0 l3) := by
  unfold qX1_weigh_187
  refine os_iinc (i := 3) (d := 1) (x := l3) (v := (1 : Int32)) (lv' := [(3, .int (l3 + (1 : Int32))), (0, .ref l0)]) 1 rfl rfl (Nat.le_of_ble_eq_true rfl) rfl (hX1_weigh.at 102 rfl rfl) ?_
  refine os_goto (off := (-60)) (tgt := 130) rfl (hX1_weigh.at 103 rfl rfl) ?_
  exact osW.sub [1, 0] rfl (g130 l0 (l3 + (1 : Int32)))
set_option maxRecDepth 100000 in
set_option maxHeartbeats 4000000 in
theorem tX1_weigh_130 (N : Nat) (c130 : Nat × Int32 → osM Unit) (g130 : ∀ (l0 : Nat) (l3 : Int32), osW (osFinM (fun _ : Unit => none) 0 0) yX1_weigh cX1_weigh 4 none [] { frames := 2, cells := 0, slots := 0, locals := 47 } 0 0 130 [(0, .ref l0), (3, .int l3)] [] (c130 (l0, l3))) (l0 : Nat) (l3 : Int32) : osW (osFinM (fun _ : Unit => none) 0 0) yX1_weigh cX1_weigh 4 none [] { frames := 2, cells := 0, slots := 0, locals := 47 } 0 0 130 [(0, .ref l0), (3, .int l3)] [] (bX1_weigh_130 N c130 l0 l3) := by
  unfold bX1_weigh_130
  refine os_iload_n (i := 3) (q := 3) (v := l3) 1 rfl rfl (hX1_weigh.at 72 rfl rfl) ?_
  refine os_bipush (i := 16) (v := (16 : Int32)) rfl (hX1_weigh.at 73 rfl rfl) ?_
  refine os_icmp_ge (off := 60) (tgt := 193) rfl (hX1_weigh.at 74 rfl rfl) ?_ ?_
  · exact os_vret (Nat.le_of_ble_eq_true rfl) (Nat.le_of_ble_eq_true rfl) (hX1_weigh.at 104 rfl rfl).1
  · refine os_aload_n (i := 0) (q := 0) (v := l0) 0 rfl rfl (hX1_weigh.at 75 rfl rfl) ?_
    refine os_getR fX1_12 (hX1_weigh.at 76 rfl rfl) (fun x1 => ?_)
    refine os_getI fX1_96 (hX1_weigh.at 77 rfl rfl) (fun x2 => ?_)
    refine os_aload_n (i := 0) (q := 0) (v := l0) 0 rfl rfl (hX1_weigh.at 78 rfl rfl) ?_
    refine os_getI fX1_35 (hX1_weigh.at 79 rfl rfl) (fun x3 => ?_)
    refine os_iconst (i := (-1)) (v := (-1 : Int32)) rfl (hX1_weigh.at 80 rfl rfl) ?_
    refine os_ixor (hX1_weigh.at 81 rfl rfl) ?_
    refine os_iand (hX1_weigh.at 82 rfl rfl) ?_
    refine os_iload_n (i := 3) (q := 3) (v := l3) 1 rfl rfl (hX1_weigh.at 83 rfl rfl) ?_
    refine os_callSN (host := "OrderSettler") (As := [.int (x2 &&& (x3 ^^^ (-1 : Int32))), .int l3]) (st := []) (st' := (fun r => .int r :: [])) mdX9_has wd1337 wd749 (sX9_has N (x2 &&& (x3 ^^^ (-1 : Int32))) l3) rfl rfl (fun _ => rfl) (Nat.le_of_ble_eq_true rfl) (Nat.le_of_ble_eq_true rfl) (Nat.le_of_ble_eq_true rfl) rfl (Nat.le_of_ble_eq_true rfl) rfl (Nat.le_of_ble_eq_true rfl) (hX1_weigh.at 84 rfl rfl) (fun x4 => ?_)
    refine os_if_eq (off := 33) (tgt := 187) rfl (hX1_weigh.at 85 rfl rfl) ?_ ?_
    · exact osW.sub [0, 1] rfl (sX1_weigh_187 N c130 g130 l0 l3)
    · refine os_aload_n (i := 0) (q := 0) (v := l0) 0 rfl rfl (hX1_weigh.at 86 rfl rfl) ?_
      refine os_getR fX1_12 (hX1_weigh.at 87 rfl rfl) (fun x5 => ?_)
      refine os_getR fX1_99 (hX1_weigh.at 88 rfl rfl) (fun x6 => ?_)
      refine os_iload_n (i := 3) (q := 3) (v := l3) 1 rfl rfl (hX1_weigh.at 89 rfl rfl) ?_
      refine os_iaload (hX1_weigh.at 90 rfl rfl) (fun x7 => ?_)
      refine os_aload_n (i := 0) (q := 0) (v := l0) 0 rfl rfl (hX1_weigh.at 91 rfl rfl) ?_
      refine os_getI fX1_22 (hX1_weigh.at 92 rfl rfl) (fun x8 => ?_)
      refine os_iand (hX1_weigh.at 93 rfl rfl) ?_
      refine os_if_ne (off := 16) (tgt := 187) rfl (hX1_weigh.at 94 rfl rfl) ?_ ?_
      · exact osW.sub [0, 1] rfl (sX1_weigh_187 N c130 g130 l0 l3)
      · refine os_aload_n (i := 0) (q := 0) (v := l0) 0 rfl rfl (hX1_weigh.at 95 rfl rfl) ?_
        refine os_dup rfl (hX1_weigh.at 96 rfl rfl) ?_
        refine os_getI fX1_26 (hX1_weigh.at 97 rfl rfl) (fun x9 => ?_)
        refine os_iload_n (i := 3) (q := 3) (v := l3) 1 rfl rfl (hX1_weigh.at 98 rfl rfl) ?_
        refine os_callSN (host := "OrderSettler") (As := [.int l3]) (st := [.int x9, .ref l0]) (st' := (fun r => .int r :: [.int x9, .ref l0])) mdX9_bit wd1343 wd712 (sX9_bit N l3) rfl rfl (fun _ => rfl) (Nat.le_of_ble_eq_true rfl) (Nat.le_of_ble_eq_true rfl) (Nat.le_of_ble_eq_true rfl) rfl (Nat.le_of_ble_eq_true rfl) rfl (Nat.le_of_ble_eq_true rfl) (hX1_weigh.at 99 rfl rfl) (fun x10 => ?_)
        refine os_ior (hX1_weigh.at 100 rfl rfl) ?_
        refine os_put fX1_26 rfl rfl (hX1_weigh.at 101 rfl rfl) ?_
        exact osW.sub [0, 1] rfl (sX1_weigh_187 N c130 g130 l0 l3)
set_option maxRecDepth 100000 in
set_option maxHeartbeats 4000000 in
theorem sX1_weigh_130 (N : Nat) (l0 : Nat) (l3 : Int32) : osW (osFinM (fun _ : Unit => none) 0 0) yX1_weigh cX1_weigh 4 none [] { frames := 2, cells := 0, slots := 0, locals := 47 } 0 0 130 [(0, .ref l0), (3, .int l3)] [] (qX1_weigh_130 N (l0, l3)) :=
  osloop_W (lvf := fun p => [(0, .ref p.1), (3, .int p.2)]) (stf := fun p => []) (fun ih g p => tX1_weigh_130 N ih (fun l0 l3 => g (l0, l3)) p.1 p.2) N (l0, l3)
set_option maxRecDepth 100000 in
set_option maxHeartbeats 4000000 in
theorem sX1_weigh_122 (N : Nat) (c76 : Nat × Int32 → osM Unit) (g76 : ∀ (l0 : Nat) (l3 : Int32), osW (osFinM (fun _ : Unit => none) 0 0) yX1_weigh cX1_weigh 4 none [] { frames := 2, cells := 0, slots := 0, locals := 47 } 0 0 76 [(0, .ref l0), (3, .int l3)] [] (c76 (l0, l3))) (l0 : Nat) (l3 : Int32) : osW (osFinM (fun _ : Unit => none) 0 0) yX1_weigh cX1_weigh 4 none [] { frames := 2, cells := 0, slots := 0, locals := 47 } 0 0 122 [(0, .ref l0), (3, .int l3)] [] (qX1_weigh_122 N c76 l0 l3) := by
  unfold qX1_weigh_122
  refine os_iinc (i := 3) (d := 1) (x := l3) (v := (1 : Int32)) (lv' := [(3, .int (l3 + (1 : Int32))), (0, .ref l0)]) 1 rfl rfl (Nat.le_of_ble_eq_true rfl) rfl (hX1_weigh.at 68 rfl rfl) ?_
  refine os_goto (off := (-49)) (tgt := 76) rfl (hX1_weigh.at 69 rfl rfl) ?_
  exact osW.sub [1, 0] rfl (g76 l0 (l3 + (1 : Int32)))
set_option maxRecDepth 100000 in
set_option maxHeartbeats 4000000 in
theorem tX1_weigh_76 (N : Nat) (c76 : Nat × Int32 → osM Unit) (g76 : ∀ (l0 : Nat) (l3 : Int32), osW (osFinM (fun _ : Unit => none) 0 0) yX1_weigh cX1_weigh 4 none [] { frames := 2, cells := 0, slots := 0, locals := 47 } 0 0 76 [(0, .ref l0), (3, .int l3)] [] (c76 (l0, l3))) (l0 : Nat) (l3 : Int32) : osW (osFinM (fun _ : Unit => none) 0 0) yX1_weigh cX1_weigh 4 none [] { frames := 2, cells := 0, slots := 0, locals := 47 } 0 0 76 [(0, .ref l0), (3, .int l3)] [] (bX1_weigh_76 N c76 l0 l3) := by
  unfold bX1_weigh_76
  refine os_iload_n (i := 3) (q := 3) (v := l3) 1 rfl rfl (hX1_weigh.at 45 rfl rfl) ?_
  refine os_bipush (i := 16) (v := (16 : Int32)) rfl (hX1_weigh.at 46 rfl rfl) ?_
  refine os_icmp_ge (off := 49) (tgt := 128) rfl (hX1_weigh.at 47 rfl rfl) ?_ ?_
  · refine os_iconst (i := 0) (v := (0 : Int32)) rfl (hX1_weigh.at 70 rfl rfl) ?_
    refine os_istore_n (i := 3) (q := 3) rfl (lv' := [(3, .int (0 : Int32)), (0, .ref l0)]) (Nat.le_of_ble_eq_true rfl) rfl (hX1_weigh.at 71 rfl rfl) ?_
    exact osW.sub [1, 0] rfl (sX1_weigh_130 N l0 (0 : Int32))
  · refine os_aload_n (i := 0) (q := 0) (v := l0) 0 rfl rfl (hX1_weigh.at 48 rfl rfl) ?_
    refine os_getI fX1_18 (hX1_weigh.at 49 rfl rfl) (fun x1 => ?_)
    refine os_if_eq (off := 36) (tgt := 122) rfl (hX1_weigh.at 50 rfl rfl) ?_ ?_
    · exact osW.sub [0, 1] rfl (sX1_weigh_122 N c76 g76 l0 l3)
    · refine os_aload_n (i := 0) (q := 0) (v := l0) 0 rfl rfl (hX1_weigh.at 51 rfl rfl) ?_
      refine os_getR fX1_12 (hX1_weigh.at 52 rfl rfl) (fun x2 => ?_)
      refine os_getR fX1_86 (hX1_weigh.at 53 rfl rfl) (fun x3 => ?_)
      refine os_iload_n (i := 3) (q := 3) (v := l3) 1 rfl rfl (hX1_weigh.at 54 rfl rfl) ?_
      refine os_iaload (hX1_weigh.at 55 rfl rfl) (fun x4 => ?_)
      refine os_if_eq (off := 24) (tgt := 122) rfl (hX1_weigh.at 56 rfl rfl) ?_ ?_
      · exact osW.sub [0, 1] rfl (sX1_weigh_122 N c76 g76 l0 l3)
      · refine os_aload_n (i := 0) (q := 0) (v := l0) 0 rfl rfl (hX1_weigh.at 57 rfl rfl) ?_
        refine os_iload_n (i := 3) (q := 3) (v := l3) 1 rfl rfl (hX1_weigh.at 58 rfl rfl) ?_
        refine os_callV (cis := [1]) (b := l0) (As := [.int l3]) (st := []) (st' := (fun r => .int r :: [])) sl1_X1_isCarried_X1_isCarried mdX1_isCarried wd1338 wd1340 (sX1_isCarried N l0 l3) rfl rfl (fun _ => rfl) (Nat.le_of_ble_eq_true rfl) (Nat.le_of_ble_eq_true rfl) (Nat.le_of_ble_eq_true rfl) rfl (Nat.le_of_ble_eq_true rfl) rfl (Nat.le_of_ble_eq_true rfl) (hX1_weigh.at 59 rfl rfl) (fun x5 => ?_)
        refine os_if_eq (off := 16) (tgt := 122) rfl (hX1_weigh.at 60 rfl rfl) ?_ ?_
        · exact osW.sub [0, 1] rfl (sX1_weigh_122 N c76 g76 l0 l3)
        · refine os_aload_n (i := 0) (q := 0) (v := l0) 0 rfl rfl (hX1_weigh.at 61 rfl rfl) ?_
          refine os_dup rfl (hX1_weigh.at 62 rfl rfl) ?_
          refine os_getI fX1_22 (hX1_weigh.at 63 rfl rfl) (fun x6 => ?_)
          refine os_iload_n (i := 3) (q := 3) (v := l3) 1 rfl rfl (hX1_weigh.at 64 rfl rfl) ?_
          refine os_callSN (host := "OrderSettler") (As := [.int l3]) (st := [.int x6, .ref l0]) (st' := (fun r => .int r :: [.int x6, .ref l0])) mdX9_bit wd1343 wd712 (sX9_bit N l3) rfl rfl (fun _ => rfl) (Nat.le_of_ble_eq_true rfl) (Nat.le_of_ble_eq_true rfl) (Nat.le_of_ble_eq_true rfl) rfl (Nat.le_of_ble_eq_true rfl) rfl (Nat.le_of_ble_eq_true rfl) (hX1_weigh.at 65 rfl rfl) (fun x7 => ?_)
          refine os_ior (hX1_weigh.at 66 rfl rfl) ?_
          refine os_put fX1_22 rfl rfl (hX1_weigh.at 67 rfl rfl) ?_
          exact osW.sub [0, 1] rfl (sX1_weigh_122 N c76 g76 l0 l3)
set_option maxRecDepth 100000 in
set_option maxHeartbeats 4000000 in
theorem sX1_weigh_76 (N : Nat) (l0 : Nat) (l3 : Int32) : osW (osFinM (fun _ : Unit => none) 0 0) yX1_weigh cX1_weigh 4 none [] { frames := 2, cells := 0, slots := 0, locals := 47 } 0 0 76 [(0, .ref l0), (3, .int l3)] [] (qX1_weigh_76 N (l0, l3)) :=
  osloop_W (lvf := fun p => [(0, .ref p.1), (3, .int p.2)]) (stf := fun p => []) (fun ih g p => tX1_weigh_76 N ih (fun l0 l3 => g (l0, l3)) p.1 p.2) N (l0, l3)
set_option maxRecDepth 100000 in
set_option maxHeartbeats 4000000 in
theorem sX1_weigh_35 (N : Nat) (c9 : Nat × Int32 × Int32 × Int32 → osM Unit) (g9 : ∀ (l0 : Nat) (l1 : Int32) (l2 : Int32) (l3 : Int32), osW (osFinM (fun _ : Unit => none) 0 0) yX1_weigh cX1_weigh 4 none [] { frames := 2, cells := 0, slots := 0, locals := 47 } 0 0 9 [(0, .ref l0), (1, .int l1), (2, .int l2), (3, .int l3)] [] (c9 (l0, l1, l2, l3))) (l0 : Nat) (l1 : Int32) (l2 : Int32) (l3 : Int32) : osW (osFinM (fun _ : Unit => none) 0 0) yX1_weigh cX1_weigh 4 none [] { frames := 2, cells := 0, slots := 0, locals := 47 } 0 0 35 [(0, .ref l0), (1, .int l1), (2, .int l2), (3, .int l3)] [] (qX1_weigh_35 N c9 l0 l1 l2 l3) := by
  unfold qX1_weigh_35
  refine os_iinc (i := 3) (d := 1) (x := l3) (v := (1 : Int32)) (lv' := [(3, .int (l3 + (1 : Int32))), (0, .ref l0), (1, .int l1), (2, .int l2)]) 3 rfl rfl (Nat.le_of_ble_eq_true rfl) rfl (hX1_weigh.at 22 rfl rfl) ?_
  refine os_goto (off := (-29)) (tgt := 9) rfl (hX1_weigh.at 23 rfl rfl) ?_
  exact osW.sub [1, 2, 3, 0] rfl (g9 l0 l1 l2 (l3 + (1 : Int32)))
set_option maxRecDepth 100000 in
set_option maxHeartbeats 4000000 in
theorem tX1_weigh_9 (N : Nat) (c9 : Nat × Int32 × Int32 × Int32 → osM Unit) (g9 : ∀ (l0 : Nat) (l1 : Int32) (l2 : Int32) (l3 : Int32), osW (osFinM (fun _ : Unit => none) 0 0) yX1_weigh cX1_weigh 4 none [] { frames := 2, cells := 0, slots := 0, locals := 47 } 0 0 9 [(0, .ref l0), (1, .int l1), (2, .int l2), (3, .int l3)] [] (c9 (l0, l1, l2, l3))) (l0 : Nat) (l1 : Int32) (l2 : Int32) (l3 : Int32) : osW (osFinM (fun _ : Unit => none) 0 0) yX1_weigh cX1_weigh 4 none [] { frames := 2, cells := 0, slots := 0, locals := 47 } 0 0 9 [(0, .ref l0), (1, .int l1), (2, .int l2), (3, .int l3)] [] (bX1_weigh_9 N c9 l0 l1 l2 l3) := by
  unfold bX1_weigh_9
  refine os_iload_n (i := 3) (q := 3) (v := l3) 3 rfl rfl (hX1_weigh.at 7 rfl rfl) ?_
  refine os_bipush (i := 16) (v := (16 : Int32)) rfl (hX1_weigh.at 8 rfl rfl) ?_
  refine os_icmp_ge (off := 29) (tgt := 41) rfl (hX1_weigh.at 9 rfl rfl) ?_ ?_
  · refine os_aload_n (i := 0) (q := 0) (v := l0) 0 rfl rfl (hX1_weigh.at 24 rfl rfl) ?_
    refine os_iload_n (i := 2) (q := 2) (v := l2) 2 rfl rfl (hX1_weigh.at 25 rfl rfl) ?_
    refine os_aload_n (i := 0) (q := 0) (v := l0) 0 rfl rfl (hX1_weigh.at 26 rfl rfl) ?_
    refine os_getR fX1_12 (hX1_weigh.at 27 rfl rfl) (fun x1 => ?_)
    refine os_getI fX1_80 (hX1_weigh.at 28 rfl rfl) (fun x2 => ?_)
    refine os_iand (hX1_weigh.at 29 rfl rfl) ?_
    refine os_iload_n (i := 1) (q := 1) (v := l1) 1 rfl rfl (hX1_weigh.at 30 rfl rfl) ?_
    refine os_iconst (i := (-1)) (v := (-1 : Int32)) rfl (hX1_weigh.at 31 rfl rfl) ?_
    refine os_ixor (hX1_weigh.at 32 rfl rfl) ?_
    refine os_iand (hX1_weigh.at 33 rfl rfl) ?_
    refine os_put fX1_35 rfl rfl (hX1_weigh.at 34 rfl rfl) ?_
    refine os_aload_n (i := 0) (q := 0) (v := l0) 0 rfl rfl (hX1_weigh.at 35 rfl rfl) ?_
    refine os_aload_n (i := 0) (q := 0) (v := l0) 0 rfl rfl (hX1_weigh.at 36 rfl rfl) ?_
    refine os_getR fX1_12 (hX1_weigh.at 37 rfl rfl) (fun x3 => ?_)
    refine os_getI fX1_83 (hX1_weigh.at 38 rfl rfl) (fun x4 => ?_)
    refine os_put fX1_22 rfl rfl (hX1_weigh.at 39 rfl rfl) ?_
    refine os_aload_n (i := 0) (q := 0) (v := l0) 0 rfl rfl (hX1_weigh.at 40 rfl rfl) ?_
    refine os_iconst (i := 0) (v := (0 : Int32)) rfl (hX1_weigh.at 41 rfl rfl) ?_
    refine os_put fX1_26 rfl rfl (hX1_weigh.at 42 rfl rfl) ?_
    refine os_iconst (i := 0) (v := (0 : Int32)) rfl (hX1_weigh.at 43 rfl rfl) ?_
    refine os_istore_n (i := 3) (q := 3) rfl (lv' := [(3, .int (0 : Int32)), (0, .ref l0), (1, .int l1), (2, .int l2)]) (Nat.le_of_ble_eq_true rfl) rfl (hX1_weigh.at 44 rfl rfl) ?_
    exact osW.sub [1, 0] rfl (sX1_weigh_76 N l0 (0 : Int32))
  · refine os_iload_n (i := 1) (q := 1) (v := l1) 1 rfl rfl (hX1_weigh.at 10 rfl rfl) ?_
    refine os_iload_n (i := 3) (q := 3) (v := l3) 3 rfl rfl (hX1_weigh.at 11 rfl rfl) ?_
    refine os_callSN (host := "OrderSettler") (As := [.int l1, .int l3]) (st := []) (st' := (fun r => .int r :: [])) mdX9_has wd1337 wd749 (sX9_has N l1 l3) rfl rfl (fun _ => rfl) (Nat.le_of_ble_eq_true rfl) (Nat.le_of_ble_eq_true rfl) (Nat.le_of_ble_eq_true rfl) rfl (Nat.le_of_ble_eq_true rfl) rfl (Nat.le_of_ble_eq_true rfl) (hX1_weigh.at 12 rfl rfl) (fun x5 => ?_)
    refine os_if_eq (off := 15) (tgt := 35) rfl (hX1_weigh.at 13 rfl rfl) ?_ ?_
    · exact osW.sub [0, 1, 2, 3] rfl (sX1_weigh_35 N c9 g9 l0 l1 l2 l3)
    · refine os_iload_n (i := 2) (q := 2) (v := l2) 2 rfl rfl (hX1_weigh.at 14 rfl rfl) ?_
      refine os_aload_n (i := 0) (q := 0) (v := l0) 0 rfl rfl (hX1_weigh.at 15 rfl rfl) ?_
      refine os_getR fX1_12 (hX1_weigh.at 16 rfl rfl) (fun x6 => ?_)
      refine os_getR fX1_76 (hX1_weigh.at 17 rfl rfl) (fun x7 => ?_)
      refine os_iload_n (i := 3) (q := 3) (v := l3) 3 rfl rfl (hX1_weigh.at 18 rfl rfl) ?_
      refine os_iaload (hX1_weigh.at 19 rfl rfl) (fun x8 => ?_)
      refine os_ior (hX1_weigh.at 20 rfl rfl) ?_
      refine os_istore_n (i := 2) (q := 2) rfl (lv' := [(2, .int (l2 ||| x8)), (0, .ref l0), (1, .int l1), (3, .int l3)]) (Nat.le_of_ble_eq_true rfl) rfl (hX1_weigh.at 21 rfl rfl) ?_
      exact osW.sub [1, 2, 0, 3] rfl (sX1_weigh_35 N c9 g9 l0 l1 (l2 ||| x8) l3)
set_option maxRecDepth 100000 in
set_option maxHeartbeats 4000000 in
theorem sX1_weigh_9 (N : Nat) (l0 : Nat) (l1 : Int32) (l2 : Int32) (l3 : Int32) : osW (osFinM (fun _ : Unit => none) 0 0) yX1_weigh cX1_weigh 4 none [] { frames := 2, cells := 0, slots := 0, locals := 47 } 0 0 9 [(0, .ref l0), (1, .int l1), (2, .int l2), (3, .int l3)] [] (qX1_weigh_9 N (l0, l1, l2, l3)) :=
  osloop_W (lvf := fun p => [(0, .ref p.1), (1, .int p.2.1), (2, .int p.2.2.1), (3, .int p.2.2.2)]) (stf := fun p => []) (fun ih g p => tX1_weigh_9 N ih (fun l0 l1 l2 l3 => g (l0, l1, l2, l3)) p.1 p.2.1 p.2.2.1 p.2.2.2) N (l0, l1, l2, l3)
set_option maxRecDepth 100000 in
set_option maxHeartbeats 4000000 in
theorem sX1_weigh (N : Nat) (l0 : Nat) (l1 : Int32) : osMet yX1_weigh cX1_weigh 4 none 2 47 0 0 (fun _ : Unit => none) [.ref l0, .int l1] (qX1_weigh N l0 l1) := by
  refine osMet.of plX1 (Nat.le_of_ble_eq_true rfl) (osW.rw (lv2 := [(0, .ref l0), (1, .int l1)]) ?_ rfl rfl rfl)
  unfold qX1_weigh
  refine os_aload_n (i := 0) (q := 0) (v := l0) 0 rfl rfl (hX1_weigh.at 0 rfl rfl) ?_
  refine os_iload_n (i := 1) (q := 1) (v := l1) 1 rfl rfl (hX1_weigh.at 1 rfl rfl) ?_
  refine os_put fX1_32 rfl rfl (hX1_weigh.at 2 rfl rfl) ?_
  refine os_iconst (i := 0) (v := (0 : Int32)) rfl (hX1_weigh.at 3 rfl rfl) ?_
  refine os_istore_n (i := 2) (q := 2) rfl (lv' := [(2, .int (0 : Int32)), (0, .ref l0), (1, .int l1)]) (Nat.le_of_ble_eq_true rfl) rfl (hX1_weigh.at 4 rfl rfl) ?_
  refine os_iconst (i := 0) (v := (0 : Int32)) rfl (hX1_weigh.at 5 rfl rfl) ?_
  refine os_istore_n (i := 3) (q := 3) rfl (lv' := [(3, .int (0 : Int32)), (2, .int (0 : Int32)), (0, .ref l0), (1, .int l1)]) (Nat.le_of_ble_eq_true rfl) rfl (hX1_weigh.at 6 rfl rfl) ?_
  exact osW.sub [2, 3, 1, 0] rfl (sX1_weigh_9 N l0 l1 (0 : Int32) (0 : Int32))
-- X1_shouldSucceed
def KX1_shouldSucceed : List (Nat × Nat × Instr) := [(0, 1, .aload_n 0), (1, 1, .iload_n 1), (2, 3, .invokevirtual 118), (5, 1, .istore_n 2), (6, 1, .iload_n 2), (7, 1, .aload_n 0), (8, 1, .iload_n 1), (9, 3, .invokevirtual 121), (12, 3, .if_icmp .le 16), (15, 1, .iload_n 2), (16, 1, .aload_n 0), (17, 1, .iload_n 1), (18, 3, .invokevirtual 124), (21, 3, .if_icmp .le 7), (24, 1, .iconst 1), (25, 3, .goto 4), (28, 1, .iconst 0), (29, 1, .ireturn)]
theorem hX1_shouldSucceed : osDs cX1_shouldSucceed KX1_shouldSucceed := by
  show ∀ q ∈ KX1_shouldSucceed, decode cX1_shouldSucceed q.1 = .ok (q.2.2, q.2.1)
  decide +kernel
def qX1_shouldSucceed_29 (N : Nat) (k0 : Int32) : osM Int32 := osretZ k0
def qX1_shouldSucceed_28 (N : Nat) : osM Int32 := qX1_shouldSucceed_29 N (0 : Int32)
def qX1_shouldSucceed (N : Nat) (l0 : Nat) (l1 : Int32) : osM Int32 := osbind (osrecv [1] l0 (qX1_attackOf N l0 l1)) fun x1 => osbind (osrecv [1] l0 (qX1_resistanceTo N l0 l1)) fun x2 => osite (x1 ≤ x2) (qX1_shouldSucceed_28 N ) (osbind (osrecv [1] l0 (qX1_preventionOf N l0 l1)) fun x3 => osite (x1 ≤ x3) (qX1_shouldSucceed_28 N ) (qX1_shouldSucceed_29 N (1 : Int32)))
set_option maxRecDepth 100000 in
set_option maxHeartbeats 4000000 in
theorem sX1_shouldSucceed_29 (N : Nat) (k0 : Int32) : osW (osFinM (fun r : Int32 => some (.int r)) 0 0) yX1_shouldSucceed cX1_shouldSucceed 3 (some .boolean) [] { frames := 3, cells := 0, slots := 0, locals := 67 } 0 0 29 [] [.int k0] (qX1_shouldSucceed_29 N k0) := by
  unfold qX1_shouldSucceed_29
  exact os_zret (Nat.le_of_ble_eq_true rfl) (Nat.le_of_ble_eq_true rfl) (hX1_shouldSucceed.at 17 rfl rfl).1
set_option maxRecDepth 100000 in
set_option maxHeartbeats 4000000 in
theorem sX1_shouldSucceed_28 (N : Nat) : osW (osFinM (fun r : Int32 => some (.int r)) 0 0) yX1_shouldSucceed cX1_shouldSucceed 3 (some .boolean) [] { frames := 3, cells := 0, slots := 0, locals := 67 } 0 0 28 [] [] (qX1_shouldSucceed_28 N) := by
  unfold qX1_shouldSucceed_28
  refine os_iconst (i := 0) (v := (0 : Int32)) rfl (hX1_shouldSucceed.at 16 rfl rfl) ?_
  exact osW.sub [] rfl (sX1_shouldSucceed_29 N (0 : Int32))
set_option maxRecDepth 100000 in
set_option maxHeartbeats 4000000 in
theorem sX1_shouldSucceed (N : Nat) (l0 : Nat) (l1 : Int32) : osMet yX1_shouldSucceed cX1_shouldSucceed 3 (some .boolean) 3 67 0 0 (fun r : Int32 => some (.int r)) [.ref l0, .int l1] (qX1_shouldSucceed N l0 l1) := by
  refine osMet.of plX1 (Nat.le_of_ble_eq_true rfl) (osW.rw (lv2 := [(0, .ref l0), (1, .int l1)]) ?_ rfl rfl rfl)
  unfold qX1_shouldSucceed
  refine os_aload_n (i := 0) (q := 0) (v := l0) 0 rfl rfl (hX1_shouldSucceed.at 0 rfl rfl) ?_
  refine os_iload_n (i := 1) (q := 1) (v := l1) 1 rfl rfl (hX1_shouldSucceed.at 1 rfl rfl) ?_
  refine os_callV (cis := [1]) (b := l0) (As := [.int l1]) (st := []) (st' := (fun r => .int r :: [])) sl1_X1_attackOf_X1_attackOf mdX1_attackOf wd1352 wd1354 (sX1_attackOf N l0 l1) rfl rfl (fun _ => rfl) (Nat.le_of_ble_eq_true rfl) (Nat.le_of_ble_eq_true rfl) (Nat.le_of_ble_eq_true rfl) rfl (Nat.le_of_ble_eq_true rfl) rfl (Nat.le_of_ble_eq_true rfl) (hX1_shouldSucceed.at 2 rfl rfl) (fun x1 => ?_)
  refine os_istore_n (i := 2) (q := 2) rfl (lv' := [(2, .int x1), (0, .ref l0), (1, .int l1)]) (Nat.le_of_ble_eq_true rfl) rfl (hX1_shouldSucceed.at 3 rfl rfl) ?_
  refine os_iload_n (i := 2) (q := 2) (v := x1) 0 rfl rfl (hX1_shouldSucceed.at 4 rfl rfl) ?_
  refine os_aload_n (i := 0) (q := 0) (v := l0) 1 rfl rfl (hX1_shouldSucceed.at 5 rfl rfl) ?_
  refine os_iload_n (i := 1) (q := 1) (v := l1) 2 rfl rfl (hX1_shouldSucceed.at 6 rfl rfl) ?_
  refine os_callV (cis := [1]) (b := l0) (As := [.int l1]) (st := [.int x1]) (st' := (fun r => .int r :: [.int x1])) sl1_X1_resistanceTo_X1_resistanceTo mdX1_resistanceTo wd1356 wd1358 (sX1_resistanceTo N l0 l1) rfl rfl (fun _ => rfl) (Nat.le_of_ble_eq_true rfl) (Nat.le_of_ble_eq_true rfl) (Nat.le_of_ble_eq_true rfl) rfl (Nat.le_of_ble_eq_true rfl) rfl (Nat.le_of_ble_eq_true rfl) (hX1_shouldSucceed.at 7 rfl rfl) (fun x2 => ?_)
  refine os_icmp_le (off := 16) (tgt := 28) rfl (hX1_shouldSucceed.at 8 rfl rfl) ?_ ?_
  · exact osW.sub [] rfl (sX1_shouldSucceed_28 N )
  · refine os_iload_n (i := 2) (q := 2) (v := x1) 0 rfl rfl (hX1_shouldSucceed.at 9 rfl rfl) ?_
    refine os_aload_n (i := 0) (q := 0) (v := l0) 1 rfl rfl (hX1_shouldSucceed.at 10 rfl rfl) ?_
    refine os_iload_n (i := 1) (q := 1) (v := l1) 2 rfl rfl (hX1_shouldSucceed.at 11 rfl rfl) ?_
    refine os_callV (cis := [1]) (b := l0) (As := [.int l1]) (st := [.int x1]) (st' := (fun r => .int r :: [.int x1])) sl1_X1_preventionOf_X1_preventionOf mdX1_preventionOf wd1360 wd1362 (sX1_preventionOf N l0 l1) rfl rfl (fun _ => rfl) (Nat.le_of_ble_eq_true rfl) (Nat.le_of_ble_eq_true rfl) (Nat.le_of_ble_eq_true rfl) rfl (Nat.le_of_ble_eq_true rfl) rfl (Nat.le_of_ble_eq_true rfl) (hX1_shouldSucceed.at 12 rfl rfl) (fun x3 => ?_)
    refine os_icmp_le (off := 7) (tgt := 28) rfl (hX1_shouldSucceed.at 13 rfl rfl) ?_ ?_
    · exact osW.sub [] rfl (sX1_shouldSucceed_28 N )
    · refine os_iconst (i := 1) (v := (1 : Int32)) rfl (hX1_shouldSucceed.at 14 rfl rfl) ?_
      refine os_goto (off := 4) (tgt := 29) rfl (hX1_shouldSucceed.at 15 rfl rfl) ?_
      exact osW.sub [] rfl (sX1_shouldSucceed_29 N (1 : Int32))
-- X1_explain
def KX1_explain : List (Nat × Nat × Instr) := [(0, 1, .aload_n 0), (1, 3, .getfield 12), (4, 3, .getfield 53), (7, 1, .iload_n 1), (8, 3, .invokestatic 72), (11, 1, .istore_n 3), (12, 1, .iload_n 2), (13, 35, .tableswitch 121 0 4 #[35, 41, 58, 82, 96]), (48, 1, .aload_n 0), (49, 1, .iload_n 1), (50, 3, .invokevirtual 151), (53, 1, .ireturn), (54, 1, .aload_n 0), (55, 3, .getfield 35), (58, 1, .iload_n 1), (59, 3, .invokestatic 72), (62, 3, .ifCond .eq 7), (65, 1, .iconst 1), (66, 3, .goto 4), (69, 1, .iconst 0), (70, 1, .ireturn), (71, 1, .aload_n 0), (72, 3, .getfield 12), (75, 3, .getfield 80), (78, 1, .iload_n 1), (79, 3, .invokestatic 72), (82, 3, .ifCond .eq 11), (85, 1, .aload_n 0), (86, 1, .iload_n 1), (87, 3, .invokevirtual 142), (90, 3, .goto 4), (93, 1, .iconst 0), (94, 1, .ireturn), (95, 1, .iload_n 3), (96, 3, .ifCond .eq 11), (99, 1, .aload_n 0), (100, 1, .iload_n 1), (101, 3, .invokevirtual 118), (104, 3, .goto 4), (107, 1, .iconst 0), (108, 1, .ireturn), (109, 1, .iload_n 3), (110, 3, .ifCond .eq 22), (113, 1, .aload_n 0), (114, 3, .getfield 32), (117, 1, .iload_n 1), (118, 3, .invokestatic 72), (121, 3, .ifCond .ne 11), (124, 1, .aload_n 0), (125, 1, .iload_n 1), (126, 3, .invokevirtual 154), (129, 3, .goto 4), (132, 1, .iconst 0), (133, 1, .ireturn), (134, 1, .aload_n 0), (135, 3, .getfield 22), (138, 1, .aload_n 0), (139, 3, .getfield 12), (142, 3, .getfield 83), (145, 1, .iconst (-1)), (146, 1, .ixor), (147, 1, .iand), (148, 1, .iload_n 1), (149, 3, .invokestatic 72), (152, 3, .ifCond .eq 7), (155, 1, .iconst 1), (156, 3, .goto 4), (159, 1, .iconst 0), (160, 1, .ireturn)]
theorem hX1_explain : osDs cX1_explain KX1_explain := by
  show ∀ q ∈ KX1_explain, decode cX1_explain q.1 = .ok (q.2.2, q.2.1)
  decide +kernel
def qX1_explain_70 (N : Nat) (k0 : Int32) : osM Int32 := osret k0
def qX1_explain_94 (N : Nat) (k0 : Int32) : osM Int32 := osret k0
def qX1_explain_108 (N : Nat) (k0 : Int32) : osM Int32 := osret k0
def qX1_explain_133 (N : Nat) (k0 : Int32) : osM Int32 := osret k0
def qX1_explain_132 (N : Nat) : osM Int32 := qX1_explain_133 N (0 : Int32)
def qX1_explain_160 (N : Nat) (k0 : Int32) : osM Int32 := osret k0
def qX1_explain (N : Nat) (l0 : Nat) (l1 : Int32) (l2 : Int32) : osM Int32 := osbind (osgR [1] 0 l0) fun x1 => osbind (osgI [2] 1 x1) fun x2 => osbind (qX9_has N x2 l1) fun x3 => osswitch l2 0 [osbind (osrecv [1] l0 (qX1_summaryOf N l0 l1)) fun x4 => osret x4, osbind (osgI [1] 6 l0) fun x5 => osbind (qX9_has N x5 l1) fun x6 => osite (x6 = 0) (qX1_explain_70 N (0 : Int32)) (qX1_explain_70 N (1 : Int32)), osbind (osgR [1] 0 l0) fun x7 => osbind (osgI [2] 0 x7) fun x8 => osbind (qX9_has N x8 l1) fun x9 => osite (x9 = 0) (qX1_explain_94 N (0 : Int32)) (osbind (osrecv [1] l0 (qX1_strengthOf N l0 l1)) fun x10 => qX1_explain_94 N x10), osite (x3 = 0) (qX1_explain_108 N (0 : Int32)) (osbind (osrecv [1] l0 (qX1_attackOf N l0 l1)) fun x11 => qX1_explain_108 N x11), osite (x3 = 0) (qX1_explain_132 N ) (osbind (osgI [1] 5 l0) fun x12 => osbind (qX9_has N x12 l1) fun x13 => osite (x13 = 0) (osbind (osrecv [1] l0 (qX1_reasonFor N l0 l1)) fun x14 => qX1_explain_133 N x14) (qX1_explain_132 N ))] (osbind (osgI [1] 2 l0) fun x15 => osbind (osgR [1] 0 l0) fun x16 => osbind (osgI [2] 2 x16) fun x17 => osbind (qX9_has N (x15 &&& (x17 ^^^ (-1 : Int32))) l1) fun x18 => osite (x18 = 0) (qX1_explain_160 N (0 : Int32)) (qX1_explain_160 N (1 : Int32)))
set_option maxRecDepth 100000 in
set_option maxHeartbeats 4000000 in
theorem sX1_explain_70 (N : Nat) (k0 : Int32) : osW (osFinM (fun r : Int32 => some (.int r)) 0 0) yX1_explain cX1_explain 4 (some .int) [] { frames := 3, cells := 0, slots := 0, locals := 66 } 0 0 70 [] [.int k0] (qX1_explain_70 N k0) := by
  unfold qX1_explain_70
  exact os_iret (Nat.le_of_ble_eq_true rfl) (Nat.le_of_ble_eq_true rfl) (hX1_explain.at 20 rfl rfl).1
set_option maxRecDepth 100000 in
set_option maxHeartbeats 4000000 in
theorem sX1_explain_94 (N : Nat) (k0 : Int32) : osW (osFinM (fun r : Int32 => some (.int r)) 0 0) yX1_explain cX1_explain 4 (some .int) [] { frames := 3, cells := 0, slots := 0, locals := 66 } 0 0 94 [] [.int k0] (qX1_explain_94 N k0) := by
  unfold qX1_explain_94
  exact os_iret (Nat.le_of_ble_eq_true rfl) (Nat.le_of_ble_eq_true rfl) (hX1_explain.at 32 rfl rfl).1
set_option maxRecDepth 100000 in
set_option maxHeartbeats 4000000 in
theorem sX1_explain_108 (N : Nat) (k0 : Int32) : osW (osFinM (fun r : Int32 => some (.int r)) 0 0) yX1_explain cX1_explain 4 (some .int) [] { frames := 3, cells := 0, slots := 0, locals := 66 } 0 0 108 [] [.int k0] (qX1_explain_108 N k0) := by
  unfold qX1_explain_108
  exact os_iret (Nat.le_of_ble_eq_true rfl) (Nat.le_of_ble_eq_true rfl) (hX1_explain.at 40 rfl rfl).1
set_option maxRecDepth 100000 in
set_option maxHeartbeats 4000000 in
theorem sX1_explain_133 (N : Nat) (k0 : Int32) : osW (osFinM (fun r : Int32 => some (.int r)) 0 0) yX1_explain cX1_explain 4 (some .int) [] { frames := 3, cells := 0, slots := 0, locals := 66 } 0 0 133 [] [.int k0] (qX1_explain_133 N k0) := by
  unfold qX1_explain_133
  exact os_iret (Nat.le_of_ble_eq_true rfl) (Nat.le_of_ble_eq_true rfl) (hX1_explain.at 53 rfl rfl).1
set_option maxRecDepth 100000 in
set_option maxHeartbeats 4000000 in
theorem sX1_explain_132 (N : Nat) : osW (osFinM (fun r : Int32 => some (.int r)) 0 0) yX1_explain cX1_explain 4 (some .int) [] { frames := 3, cells := 0, slots := 0, locals := 66 } 0 0 132 [] [] (qX1_explain_132 N) := by
  unfold qX1_explain_132
  refine os_iconst (i := 0) (v := (0 : Int32)) rfl (hX1_explain.at 52 rfl rfl) ?_
  exact osW.sub [] rfl (sX1_explain_133 N (0 : Int32))
set_option maxRecDepth 100000 in
set_option maxHeartbeats 4000000 in
theorem sX1_explain_160 (N : Nat) (k0 : Int32) : osW (osFinM (fun r : Int32 => some (.int r)) 0 0) yX1_explain cX1_explain 4 (some .int) [] { frames := 3, cells := 0, slots := 0, locals := 66 } 0 0 160 [] [.int k0] (qX1_explain_160 N k0) := by
  unfold qX1_explain_160
  exact os_iret (Nat.le_of_ble_eq_true rfl) (Nat.le_of_ble_eq_true rfl) (hX1_explain.at 68 rfl rfl).1
set_option maxRecDepth 100000 in
set_option maxHeartbeats 4000000 in
theorem sX1_explain (N : Nat) (l0 : Nat) (l1 : Int32) (l2 : Int32) : osMet yX1_explain cX1_explain 4 (some .int) 3 66 0 0 (fun r : Int32 => some (.int r)) [.ref l0, .int l1, .int l2] (qX1_explain N l0 l1 l2) := by
  refine osMet.of plX1 (Nat.le_of_ble_eq_true rfl) (osW.rw (lv2 := [(0, .ref l0), (1, .int l1), (2, .int l2)]) ?_ rfl rfl rfl)
  unfold qX1_explain
  refine os_aload_n (i := 0) (q := 0) (v := l0) 0 rfl rfl (hX1_explain.at 0 rfl rfl) ?_
  refine os_getR fX1_12 (hX1_explain.at 1 rfl rfl) (fun x1 => ?_)
  refine os_getI fX1_53 (hX1_explain.at 2 rfl rfl) (fun x2 => ?_)
  refine os_iload_n (i := 1) (q := 1) (v := l1) 1 rfl rfl (hX1_explain.at 3 rfl rfl) ?_
  refine os_callSN (host := "OrderSettler") (As := [.int x2, .int l1]) (st := []) (st' := (fun r => .int r :: [])) mdX9_has wd1337 wd749 (sX9_has N x2 l1) rfl rfl (fun _ => rfl) (Nat.le_of_ble_eq_true rfl) (Nat.le_of_ble_eq_true rfl) (Nat.le_of_ble_eq_true rfl) rfl (Nat.le_of_ble_eq_true rfl) rfl (Nat.le_of_ble_eq_true rfl) (hX1_explain.at 4 rfl rfl) (fun x3 => ?_)
  refine os_istore_n (i := 3) (q := 3) rfl (lv' := [(3, .int x3), (0, .ref l0), (1, .int l1), (2, .int l2)]) (Nat.le_of_ble_eq_true rfl) rfl (hX1_explain.at 5 rfl rfl) ?_
  refine os_iload_n (i := 2) (q := 2) (v := l2) 3 rfl rfl (hX1_explain.at 6 rfl rfl) ?_
  refine os_tableswitch (dflt := 121) (lo := 0) (hi := 4) (offs := #[35, 41, 58, 82, 96]) (tgt := 134) rfl rfl (hX1_explain.at 7 rfl rfl) ?_ ?_
  · refine ⟨⟨48, rfl, ?_⟩, ⟨54, rfl, ?_⟩, ⟨71, rfl, ?_⟩, ⟨95, rfl, ?_⟩, ⟨109, rfl, ?_⟩, trivial⟩
    · refine os_aload_n (i := 0) (q := 0) (v := l0) 1 rfl rfl (hX1_explain.at 8 rfl rfl) ?_
      refine os_iload_n (i := 1) (q := 1) (v := l1) 2 rfl rfl (hX1_explain.at 9 rfl rfl) ?_
      refine os_callV (cis := [1]) (b := l0) (As := [.int l1]) (st := []) (st' := (fun r => .int r :: [])) sl1_X1_summaryOf_X1_summaryOf mdX1_summaryOf wd1373 wd1375 (sX1_summaryOf N l0 l1) rfl rfl (fun _ => rfl) (Nat.le_of_ble_eq_true rfl) (Nat.le_of_ble_eq_true rfl) (Nat.le_of_ble_eq_true rfl) rfl (Nat.le_of_ble_eq_true rfl) rfl (Nat.le_of_ble_eq_true rfl) (hX1_explain.at 10 rfl rfl) (fun x4 => ?_)
      exact os_iret (Nat.le_of_ble_eq_true rfl) (Nat.le_of_ble_eq_true rfl) (hX1_explain.at 11 rfl rfl).1
    · refine os_aload_n (i := 0) (q := 0) (v := l0) 1 rfl rfl (hX1_explain.at 12 rfl rfl) ?_
      refine os_getI fX1_35 (hX1_explain.at 13 rfl rfl) (fun x5 => ?_)
      refine os_iload_n (i := 1) (q := 1) (v := l1) 2 rfl rfl (hX1_explain.at 14 rfl rfl) ?_
      refine os_callSN (host := "OrderSettler") (As := [.int x5, .int l1]) (st := []) (st' := (fun r => .int r :: [])) mdX9_has wd1337 wd749 (sX9_has N x5 l1) rfl rfl (fun _ => rfl) (Nat.le_of_ble_eq_true rfl) (Nat.le_of_ble_eq_true rfl) (Nat.le_of_ble_eq_true rfl) rfl (Nat.le_of_ble_eq_true rfl) rfl (Nat.le_of_ble_eq_true rfl) (hX1_explain.at 15 rfl rfl) (fun x6 => ?_)
      refine os_if_eq (off := 7) (tgt := 69) rfl (hX1_explain.at 16 rfl rfl) ?_ ?_
      · refine os_iconst (i := 0) (v := (0 : Int32)) rfl (hX1_explain.at 19 rfl rfl) ?_
        exact osW.sub [] rfl (sX1_explain_70 N (0 : Int32))
      · refine os_iconst (i := 1) (v := (1 : Int32)) rfl (hX1_explain.at 17 rfl rfl) ?_
        refine os_goto (off := 4) (tgt := 70) rfl (hX1_explain.at 18 rfl rfl) ?_
        exact osW.sub [] rfl (sX1_explain_70 N (1 : Int32))
    · refine os_aload_n (i := 0) (q := 0) (v := l0) 1 rfl rfl (hX1_explain.at 21 rfl rfl) ?_
      refine os_getR fX1_12 (hX1_explain.at 22 rfl rfl) (fun x7 => ?_)
      refine os_getI fX1_80 (hX1_explain.at 23 rfl rfl) (fun x8 => ?_)
      refine os_iload_n (i := 1) (q := 1) (v := l1) 2 rfl rfl (hX1_explain.at 24 rfl rfl) ?_
      refine os_callSN (host := "OrderSettler") (As := [.int x8, .int l1]) (st := []) (st' := (fun r => .int r :: [])) mdX9_has wd1337 wd749 (sX9_has N x8 l1) rfl rfl (fun _ => rfl) (Nat.le_of_ble_eq_true rfl) (Nat.le_of_ble_eq_true rfl) (Nat.le_of_ble_eq_true rfl) rfl (Nat.le_of_ble_eq_true rfl) rfl (Nat.le_of_ble_eq_true rfl) (hX1_explain.at 25 rfl rfl) (fun x9 => ?_)
      refine os_if_eq (off := 11) (tgt := 93) rfl (hX1_explain.at 26 rfl rfl) ?_ ?_
      · refine os_iconst (i := 0) (v := (0 : Int32)) rfl (hX1_explain.at 31 rfl rfl) ?_
        exact osW.sub [] rfl (sX1_explain_94 N (0 : Int32))
      · refine os_aload_n (i := 0) (q := 0) (v := l0) 1 rfl rfl (hX1_explain.at 27 rfl rfl) ?_
        refine os_iload_n (i := 1) (q := 1) (v := l1) 2 rfl rfl (hX1_explain.at 28 rfl rfl) ?_
        refine os_callV (cis := [1]) (b := l0) (As := [.int l1]) (st := []) (st' := (fun r => .int r :: [])) sl1_X1_strengthOf_X1_strengthOf mdX1_strengthOf wd1364 wd1366 (sX1_strengthOf N l0 l1) rfl rfl (fun _ => rfl) (Nat.le_of_ble_eq_true rfl) (Nat.le_of_ble_eq_true rfl) (Nat.le_of_ble_eq_true rfl) rfl (Nat.le_of_ble_eq_true rfl) rfl (Nat.le_of_ble_eq_true rfl) (hX1_explain.at 29 rfl rfl) (fun x10 => ?_)
        refine os_goto (off := 4) (tgt := 94) rfl (hX1_explain.at 30 rfl rfl) ?_
        exact osW.sub [] rfl (sX1_explain_94 N x10)
    · refine os_iload_n (i := 3) (q := 3) (v := x3) 0 rfl rfl (hX1_explain.at 33 rfl rfl) ?_
      refine os_if_eq (off := 11) (tgt := 107) rfl (hX1_explain.at 34 rfl rfl) ?_ ?_
      · refine os_iconst (i := 0) (v := (0 : Int32)) rfl (hX1_explain.at 39 rfl rfl) ?_
        exact osW.sub [] rfl (sX1_explain_108 N (0 : Int32))
      · refine os_aload_n (i := 0) (q := 0) (v := l0) 1 rfl rfl (hX1_explain.at 35 rfl rfl) ?_
        refine os_iload_n (i := 1) (q := 1) (v := l1) 2 rfl rfl (hX1_explain.at 36 rfl rfl) ?_
        refine os_callV (cis := [1]) (b := l0) (As := [.int l1]) (st := []) (st' := (fun r => .int r :: [])) sl1_X1_attackOf_X1_attackOf mdX1_attackOf wd1352 wd1354 (sX1_attackOf N l0 l1) rfl rfl (fun _ => rfl) (Nat.le_of_ble_eq_true rfl) (Nat.le_of_ble_eq_true rfl) (Nat.le_of_ble_eq_true rfl) rfl (Nat.le_of_ble_eq_true rfl) rfl (Nat.le_of_ble_eq_true rfl) (hX1_explain.at 37 rfl rfl) (fun x11 => ?_)
        refine os_goto (off := 4) (tgt := 108) rfl (hX1_explain.at 38 rfl rfl) ?_
        exact osW.sub [] rfl (sX1_explain_108 N x11)
    · refine os_iload_n (i := 3) (q := 3) (v := x3) 0 rfl rfl (hX1_explain.at 41 rfl rfl) ?_
      refine os_if_eq (off := 22) (tgt := 132) rfl (hX1_explain.at 42 rfl rfl) ?_ ?_
      · exact osW.sub [] rfl (sX1_explain_132 N )
      · refine os_aload_n (i := 0) (q := 0) (v := l0) 1 rfl rfl (hX1_explain.at 43 rfl rfl) ?_
        refine os_getI fX1_32 (hX1_explain.at 44 rfl rfl) (fun x12 => ?_)
        refine os_iload_n (i := 1) (q := 1) (v := l1) 2 rfl rfl (hX1_explain.at 45 rfl rfl) ?_
        refine os_callSN (host := "OrderSettler") (As := [.int x12, .int l1]) (st := []) (st' := (fun r => .int r :: [])) mdX9_has wd1337 wd749 (sX9_has N x12 l1) rfl rfl (fun _ => rfl) (Nat.le_of_ble_eq_true rfl) (Nat.le_of_ble_eq_true rfl) (Nat.le_of_ble_eq_true rfl) rfl (Nat.le_of_ble_eq_true rfl) rfl (Nat.le_of_ble_eq_true rfl) (hX1_explain.at 46 rfl rfl) (fun x13 => ?_)
        refine os_if_ne (off := 11) (tgt := 132) rfl (hX1_explain.at 47 rfl rfl) ?_ ?_
        · exact osW.sub [] rfl (sX1_explain_132 N )
        · refine os_aload_n (i := 0) (q := 0) (v := l0) 1 rfl rfl (hX1_explain.at 48 rfl rfl) ?_
          refine os_iload_n (i := 1) (q := 1) (v := l1) 2 rfl rfl (hX1_explain.at 49 rfl rfl) ?_
          refine os_callV (cis := [1]) (b := l0) (As := [.int l1]) (st := []) (st' := (fun r => .int r :: [])) sl1_X1_reasonFor_X1_reasonFor mdX1_reasonFor wd1377 wd1379 (sX1_reasonFor N l0 l1) rfl rfl (fun _ => rfl) (Nat.le_of_ble_eq_true rfl) (Nat.le_of_ble_eq_true rfl) (Nat.le_of_ble_eq_true rfl) rfl (Nat.le_of_ble_eq_true rfl) rfl (Nat.le_of_ble_eq_true rfl) (hX1_explain.at 50 rfl rfl) (fun x14 => ?_)
          refine os_goto (off := 4) (tgt := 133) rfl (hX1_explain.at 51 rfl rfl) ?_
          exact osW.sub [] rfl (sX1_explain_133 N x14)
  · refine os_aload_n (i := 0) (q := 0) (v := l0) 1 rfl rfl (hX1_explain.at 54 rfl rfl) ?_
    refine os_getI fX1_22 (hX1_explain.at 55 rfl rfl) (fun x15 => ?_)
    refine os_aload_n (i := 0) (q := 0) (v := l0) 1 rfl rfl (hX1_explain.at 56 rfl rfl) ?_
    refine os_getR fX1_12 (hX1_explain.at 57 rfl rfl) (fun x16 => ?_)
    refine os_getI fX1_83 (hX1_explain.at 58 rfl rfl) (fun x17 => ?_)
    refine os_iconst (i := (-1)) (v := (-1 : Int32)) rfl (hX1_explain.at 59 rfl rfl) ?_
    refine os_ixor (hX1_explain.at 60 rfl rfl) ?_
    refine os_iand (hX1_explain.at 61 rfl rfl) ?_
    refine os_iload_n (i := 1) (q := 1) (v := l1) 2 rfl rfl (hX1_explain.at 62 rfl rfl) ?_
    refine os_callSN (host := "OrderSettler") (As := [.int (x15 &&& (x17 ^^^ (-1 : Int32))), .int l1]) (st := []) (st' := (fun r => .int r :: [])) mdX9_has wd1337 wd749 (sX9_has N (x15 &&& (x17 ^^^ (-1 : Int32))) l1) rfl rfl (fun _ => rfl) (Nat.le_of_ble_eq_true rfl) (Nat.le_of_ble_eq_true rfl) (Nat.le_of_ble_eq_true rfl) rfl (Nat.le_of_ble_eq_true rfl) rfl (Nat.le_of_ble_eq_true rfl) (hX1_explain.at 63 rfl rfl) (fun x18 => ?_)
    refine os_if_eq (off := 7) (tgt := 159) rfl (hX1_explain.at 64 rfl rfl) ?_ ?_
    · refine os_iconst (i := 0) (v := (0 : Int32)) rfl (hX1_explain.at 67 rfl rfl) ?_
      exact osW.sub [] rfl (sX1_explain_160 N (0 : Int32))
    · refine os_iconst (i := 1) (v := (1 : Int32)) rfl (hX1_explain.at 65 rfl rfl) ?_
      refine os_goto (off := 4) (tgt := 160) rfl (hX1_explain.at 66 rfl rfl) ?_
      exact osW.sub [] rfl (sX1_explain_160 N (1 : Int32))
-- X1_isConsistent
def KX1_isConsistent : List (Nat × Nat × Instr) := [(0, 1, .iconst 0), (1, 1, .istore_n 1), (2, 1, .iload_n 1), (3, 2, .bipush 16), (5, 3, .if_icmp .ge 41), (8, 1, .aload_n 0), (9, 3, .getfield 12), (12, 3, .getfield 53), (15, 1, .iload_n 1), (16, 3, .invokestatic 72), (19, 3, .ifCond .eq 21), (22, 1, .aload_n 0), (23, 1, .iload_n 1), (24, 3, .invokevirtual 115), (27, 1, .aload_n 0), (28, 3, .getfield 32), (31, 1, .iload_n 1), (32, 3, .invokestatic 72), (35, 3, .if_icmp .eq 5), (38, 1, .iconst 0), (39, 1, .ireturn), (40, 3, .iinc 1 1), (43, 3, .goto (-41)), (46, 1, .iconst 1), (47, 1, .ireturn)]
theorem hX1_isConsistent : osDs cX1_isConsistent KX1_isConsistent := by
  show ∀ q ∈ KX1_isConsistent, decode cX1_isConsistent q.1 = .ok (q.2.2, q.2.1)
  decide +kernel
def qX1_isConsistent_40 (N : Nat) (c2 : Nat × Int32 → osM Int32) (l0 : Nat) (l1 : Int32) : osM Int32 := c2 (l0, (l1 + (1 : Int32)))
def bX1_isConsistent_2 (N : Nat) (c2 : Nat × Int32 → osM Int32) (l0 : Nat) (l1 : Int32) : osM Int32 := osite ((16 : Int32) ≤ l1) (osretZ (1 : Int32)) (osbind (osgR [1] 0 l0) fun x1 => osbind (osgI [2] 1 x1) fun x2 => osbind (qX9_has N x2 l1) fun x3 => osite (x3 = 0) (qX1_isConsistent_40 N c2 l0 l1) (osbind (osrecv [1] l0 (qX1_shouldSucceed N l0 l1)) fun x4 => osbind (osgI [1] 5 l0) fun x5 => osbind (qX9_has N x5 l1) fun x6 => osite (x4 = x6) (qX1_isConsistent_40 N c2 l0 l1) (osretZ (0 : Int32))))
def qX1_isConsistent_2 (N : Nat) : Nat × Int32 → osM Int32 := osloop (fun ih p => bX1_isConsistent_2 N ih p.1 p.2) N
def qX1_isConsistent (N : Nat) (l0 : Nat) : osM Int32 := qX1_isConsistent_2 N (l0, (0 : Int32))
set_option maxRecDepth 100000 in
set_option maxHeartbeats 4000000 in
theorem sX1_isConsistent_40 (N : Nat) (c2 : Nat × Int32 → osM Int32) (g2 : ∀ (l0 : Nat) (l1 : Int32), osW (osFinM (fun r : Int32 => some (.int r)) 0 0) yX1_isConsistent cX1_isConsistent 2 (some .boolean) [] { frames := 4, cells := 0, slots := 0, locals := 89 } 0 0 2 [(0, .ref l0), (1, .int l1)] [] (c2 (l0, l1))) (l0 : Nat) (l1 : Int32) : osW (osFinM (fun r : Int32 => some (.int r)) 0 0) yX1_isConsistent cX1_isConsistent 2 (some .boolean) [] { frames := 4, cells := 0, slots := 0, locals := 89 } 0 0 40 [(0, .ref l0), (1, .int l1)] [] (qX1_isConsistent_40 N c2 l0 l1) := by
  unfold qX1_isConsistent_40
  refine os_iinc (i := 1) (d := 1) (x := l1) (v := (1 : Int32)) (lv' := [(1, .int (l1 + (1 : Int32))), (0, .ref l0)]) 1 rfl rfl (Nat.le_of_ble_eq_true rfl) rfl (hX1_isConsistent.at 21 rfl rfl) ?_
  refine os_goto (off := (-41)) (tgt := 2) rfl (hX1_isConsistent.at 22 rfl rfl) ?_
  exact osW.sub [1, 0] rfl (g2 l0 (l1 + (1 : Int32)))
set_option maxRecDepth 100000 in
set_option maxHeartbeats 4000000 in
theorem tX1_isConsistent_2 (N : Nat) (c2 : Nat × Int32 → osM Int32) (g2 : ∀ (l0 : Nat) (l1 : Int32), osW (osFinM (fun r : Int32 => some (.int r)) 0 0) yX1_isConsistent cX1_isConsistent 2 (some .boolean) [] { frames := 4, cells := 0, slots := 0, locals := 89 } 0 0 2 [(0, .ref l0), (1, .int l1)] [] (c2 (l0, l1))) (l0 : Nat) (l1 : Int32) : osW (osFinM (fun r : Int32 => some (.int r)) 0 0) yX1_isConsistent cX1_isConsistent 2 (some .boolean) [] { frames := 4, cells := 0, slots := 0, locals := 89 } 0 0 2 [(0, .ref l0), (1, .int l1)] [] (bX1_isConsistent_2 N c2 l0 l1) := by
  unfold bX1_isConsistent_2
  refine os_iload_n (i := 1) (q := 1) (v := l1) 1 rfl rfl (hX1_isConsistent.at 2 rfl rfl) ?_
  refine os_bipush (i := 16) (v := (16 : Int32)) rfl (hX1_isConsistent.at 3 rfl rfl) ?_
  refine os_icmp_ge (off := 41) (tgt := 46) rfl (hX1_isConsistent.at 4 rfl rfl) ?_ ?_
  · refine os_iconst (i := 1) (v := (1 : Int32)) rfl (hX1_isConsistent.at 23 rfl rfl) ?_
    exact os_zret (Nat.le_of_ble_eq_true rfl) (Nat.le_of_ble_eq_true rfl) (hX1_isConsistent.at 24 rfl rfl).1
  · refine os_aload_n (i := 0) (q := 0) (v := l0) 0 rfl rfl (hX1_isConsistent.at 5 rfl rfl) ?_
    refine os_getR fX1_12 (hX1_isConsistent.at 6 rfl rfl) (fun x1 => ?_)
    refine os_getI fX1_53 (hX1_isConsistent.at 7 rfl rfl) (fun x2 => ?_)
    refine os_iload_n (i := 1) (q := 1) (v := l1) 1 rfl rfl (hX1_isConsistent.at 8 rfl rfl) ?_
    refine os_callSN (host := "OrderSettler") (As := [.int x2, .int l1]) (st := []) (st' := (fun r => .int r :: [])) mdX9_has wd1337 wd749 (sX9_has N x2 l1) rfl rfl (fun _ => rfl) (Nat.le_of_ble_eq_true rfl) (Nat.le_of_ble_eq_true rfl) (Nat.le_of_ble_eq_true rfl) rfl (Nat.le_of_ble_eq_true rfl) rfl (Nat.le_of_ble_eq_true rfl) (hX1_isConsistent.at 9 rfl rfl) (fun x3 => ?_)
    refine os_if_eq (off := 21) (tgt := 40) rfl (hX1_isConsistent.at 10 rfl rfl) ?_ ?_
    · exact osW.sub [0, 1] rfl (sX1_isConsistent_40 N c2 g2 l0 l1)
    · refine os_aload_n (i := 0) (q := 0) (v := l0) 0 rfl rfl (hX1_isConsistent.at 11 rfl rfl) ?_
      refine os_iload_n (i := 1) (q := 1) (v := l1) 1 rfl rfl (hX1_isConsistent.at 12 rfl rfl) ?_
      refine os_callV (cis := [1]) (b := l0) (As := [.int l1]) (st := []) (st' := (fun r => .int r :: [])) sl1_X1_shouldSucceed_X1_shouldSucceed mdX1_shouldSucceed wd1348 wd1350 (sX1_shouldSucceed N l0 l1) rfl rfl (fun _ => rfl) (Nat.le_of_ble_eq_true rfl) (Nat.le_of_ble_eq_true rfl) (Nat.le_of_ble_eq_true rfl) rfl (Nat.le_of_ble_eq_true rfl) rfl (Nat.le_of_ble_eq_true rfl) (hX1_isConsistent.at 13 rfl rfl) (fun x4 => ?_)
      refine os_aload_n (i := 0) (q := 0) (v := l0) 0 rfl rfl (hX1_isConsistent.at 14 rfl rfl) ?_
      refine os_getI fX1_32 (hX1_isConsistent.at 15 rfl rfl) (fun x5 => ?_)
      refine os_iload_n (i := 1) (q := 1) (v := l1) 1 rfl rfl (hX1_isConsistent.at 16 rfl rfl) ?_
      refine os_callSN (host := "OrderSettler") (As := [.int x5, .int l1]) (st := [.int x4]) (st' := (fun r => .int r :: [.int x4])) mdX9_has wd1337 wd749 (sX9_has N x5 l1) rfl rfl (fun _ => rfl) (Nat.le_of_ble_eq_true rfl) (Nat.le_of_ble_eq_true rfl) (Nat.le_of_ble_eq_true rfl) rfl (Nat.le_of_ble_eq_true rfl) rfl (Nat.le_of_ble_eq_true rfl) (hX1_isConsistent.at 17 rfl rfl) (fun x6 => ?_)
      refine os_icmp_eq (off := 5) (tgt := 40) rfl (hX1_isConsistent.at 18 rfl rfl) ?_ ?_
      · exact osW.sub [0, 1] rfl (sX1_isConsistent_40 N c2 g2 l0 l1)
      · refine os_iconst (i := 0) (v := (0 : Int32)) rfl (hX1_isConsistent.at 19 rfl rfl) ?_
        exact os_zret (Nat.le_of_ble_eq_true rfl) (Nat.le_of_ble_eq_true rfl) (hX1_isConsistent.at 20 rfl rfl).1
set_option maxRecDepth 100000 in
set_option maxHeartbeats 4000000 in
theorem sX1_isConsistent_2 (N : Nat) (l0 : Nat) (l1 : Int32) : osW (osFinM (fun r : Int32 => some (.int r)) 0 0) yX1_isConsistent cX1_isConsistent 2 (some .boolean) [] { frames := 4, cells := 0, slots := 0, locals := 89 } 0 0 2 [(0, .ref l0), (1, .int l1)] [] (qX1_isConsistent_2 N (l0, l1)) :=
  osloop_W (lvf := fun p => [(0, .ref p.1), (1, .int p.2)]) (stf := fun p => []) (fun ih g p => tX1_isConsistent_2 N ih (fun l0 l1 => g (l0, l1)) p.1 p.2) N (l0, l1)
set_option maxRecDepth 100000 in
set_option maxHeartbeats 4000000 in
theorem sX1_isConsistent (N : Nat) (l0 : Nat) : osMet yX1_isConsistent cX1_isConsistent 2 (some .boolean) 4 89 0 0 (fun r : Int32 => some (.int r)) [.ref l0] (qX1_isConsistent N l0) := by
  refine osMet.of plX1 (Nat.le_of_ble_eq_true rfl) (osW.rw (lv2 := [(0, .ref l0)]) ?_ rfl rfl rfl)
  unfold qX1_isConsistent
  refine os_iconst (i := 0) (v := (0 : Int32)) rfl (hX1_isConsistent.at 0 rfl rfl) ?_
  refine os_istore_n (i := 1) (q := 1) rfl (lv' := [(1, .int (0 : Int32)), (0, .ref l0)]) (Nat.le_of_ble_eq_true rfl) rfl (hX1_isConsistent.at 1 rfl rfl) ?_
  exact osW.sub [1, 0] rfl (sX1_isConsistent_2 N l0 (0 : Int32))
-- X1_explainAll
def KX1_explainAll : List (Nat × Nat × Instr) := [(0, 1, .iconst 0), (1, 1, .istore_n 2), (2, 1, .iload_n 2), (3, 1, .aload_n 1), (4, 1, .arraylength), (5, 3, .if_icmp .ge 24), (8, 1, .aload_n 1), (9, 1, .iload_n 2), (10, 1, .aload_n 0), (11, 1, .iload_n 2), (12, 2, .bipush 6), (14, 1, .idiv), (15, 1, .iload_n 2), (16, 2, .bipush 6), (18, 1, .irem), (19, 3, .invokevirtual 148), (22, 1, .iastore), (23, 3, .iinc 2 1), (26, 3, .goto (-24)), (29, 1, .return_)]
theorem hX1_explainAll : osDs cX1_explainAll KX1_explainAll := by
  show ∀ q ∈ KX1_explainAll, decode cX1_explainAll q.1 = .ok (q.2.2, q.2.1)
  decide +kernel
def bX1_explainAll_2 (N : Nat) (c2 : Nat × Nat × Int32 → osM Unit) (l0 : Nat) (l1 : Nat) (l2 : Int32) : osM Unit := osbind (oslen l1) fun x1 => osite (x1 ≤ l2) (osret ()) (osguard (¬ (6 : Int32) = 0) (osguard (¬ (6 : Int32) = 0) (osbind (osrecv [1] l0 (qX1_explain N l0 (l2 / (6 : Int32)) (l2 - l2 / (6 : Int32) * (6 : Int32)))) fun x4 => osbind (ossI 0 l1 l2 x4) fun _ => c2 (l0, l1, (l2 + (1 : Int32))))))
def qX1_explainAll_2 (N : Nat) : Nat × Nat × Int32 → osM Unit := osloop (fun ih p => bX1_explainAll_2 N ih p.1 p.2.1 p.2.2) N
def qX1_explainAll (N : Nat) (l0 : Nat) (l1 : Nat) : osM Unit := qX1_explainAll_2 N (l0, l1, (0 : Int32))
set_option maxRecDepth 100000 in
set_option maxHeartbeats 4000000 in
theorem tX1_explainAll_2 (N : Nat) (c2 : Nat × Nat × Int32 → osM Unit) (g2 : ∀ (l0 : Nat) (l1 : Nat) (l2 : Int32), osW (osFinM (fun _ : Unit => none) 0 0) yX1_explainAll cX1_explainAll 3 none [] { frames := 4, cells := 0, slots := 0, locals := 89 } 0 0 2 [(0, .ref l0), (1, .ref l1), (2, .int l2)] [] (c2 (l0, l1, l2))) (l0 : Nat) (l1 : Nat) (l2 : Int32) : osW (osFinM (fun _ : Unit => none) 0 0) yX1_explainAll cX1_explainAll 3 none [] { frames := 4, cells := 0, slots := 0, locals := 89 } 0 0 2 [(0, .ref l0), (1, .ref l1), (2, .int l2)] [] (bX1_explainAll_2 N c2 l0 l1 l2) := by
  unfold bX1_explainAll_2
  refine os_iload_n (i := 2) (q := 2) (v := l2) 2 rfl rfl (hX1_explainAll.at 2 rfl rfl) ?_
  refine os_aload_n (i := 1) (q := 1) (v := l1) 1 rfl rfl (hX1_explainAll.at 3 rfl rfl) ?_
  refine os_arraylength (hX1_explainAll.at 4 rfl rfl) (fun x1 => ?_)
  refine os_icmp_ge (off := 24) (tgt := 29) rfl (hX1_explainAll.at 5 rfl rfl) ?_ ?_
  · exact os_vret (Nat.le_of_ble_eq_true rfl) (Nat.le_of_ble_eq_true rfl) (hX1_explainAll.at 19 rfl rfl).1
  · refine os_aload_n (i := 1) (q := 1) (v := l1) 1 rfl rfl (hX1_explainAll.at 6 rfl rfl) ?_
    refine os_iload_n (i := 2) (q := 2) (v := l2) 2 rfl rfl (hX1_explainAll.at 7 rfl rfl) ?_
    refine os_aload_n (i := 0) (q := 0) (v := l0) 0 rfl rfl (hX1_explainAll.at 8 rfl rfl) ?_
    refine os_iload_n (i := 2) (q := 2) (v := l2) 2 rfl rfl (hX1_explainAll.at 9 rfl rfl) ?_
    refine os_bipush (i := 6) (v := (6 : Int32)) rfl (hX1_explainAll.at 10 rfl rfl) ?_
    refine os_guard (fun h2 => ?_)
    refine os_idiv h2 (hX1_explainAll.at 11 rfl rfl) ?_
    refine os_iload_n (i := 2) (q := 2) (v := l2) 2 rfl rfl (hX1_explainAll.at 12 rfl rfl) ?_
    refine os_bipush (i := 6) (v := (6 : Int32)) rfl (hX1_explainAll.at 13 rfl rfl) ?_
    refine os_guard (fun h3 => ?_)
    refine os_irem h3 (hX1_explainAll.at 14 rfl rfl) ?_
    refine os_callV (cis := [1]) (b := l0) (As := [.int (l2 / (6 : Int32)), .int (l2 - l2 / (6 : Int32) * (6 : Int32))]) (st := [.int l2, .ref l1]) (st' := (fun r => .int r :: [.int l2, .ref l1])) sl1_X1_explain_X1_explain mdX1_explain wd1417 wd1370 (sX1_explain N l0 (l2 / (6 : Int32)) (l2 - l2 / (6 : Int32) * (6 : Int32))) rfl rfl (fun _ => rfl) (Nat.le_of_ble_eq_true rfl) (Nat.le_of_ble_eq_true rfl) (Nat.le_of_ble_eq_true rfl) rfl (Nat.le_of_ble_eq_true rfl) rfl (Nat.le_of_ble_eq_true rfl) (hX1_explainAll.at 15 rfl rfl) (fun x4 => ?_)
    refine os_iastore (hX1_explainAll.at 16 rfl rfl) ?_
    refine os_iinc (i := 2) (d := 1) (x := l2) (v := (1 : Int32)) (lv' := [(2, .int (l2 + (1 : Int32))), (0, .ref l0), (1, .ref l1)]) 2 rfl rfl (Nat.le_of_ble_eq_true rfl) rfl (hX1_explainAll.at 17 rfl rfl) ?_
    refine os_goto (off := (-24)) (tgt := 2) rfl (hX1_explainAll.at 18 rfl rfl) ?_
    exact osW.sub [1, 2, 0] rfl (g2 l0 l1 (l2 + (1 : Int32)))
set_option maxRecDepth 100000 in
set_option maxHeartbeats 4000000 in
theorem sX1_explainAll_2 (N : Nat) (l0 : Nat) (l1 : Nat) (l2 : Int32) : osW (osFinM (fun _ : Unit => none) 0 0) yX1_explainAll cX1_explainAll 3 none [] { frames := 4, cells := 0, slots := 0, locals := 89 } 0 0 2 [(0, .ref l0), (1, .ref l1), (2, .int l2)] [] (qX1_explainAll_2 N (l0, l1, l2)) :=
  osloop_W (lvf := fun p => [(0, .ref p.1), (1, .ref p.2.1), (2, .int p.2.2)]) (stf := fun p => []) (fun ih g p => tX1_explainAll_2 N ih (fun l0 l1 l2 => g (l0, l1, l2)) p.1 p.2.1 p.2.2) N (l0, l1, l2)
set_option maxRecDepth 100000 in
set_option maxHeartbeats 4000000 in
theorem sX1_explainAll (N : Nat) (l0 : Nat) (l1 : Nat) : osMet yX1_explainAll cX1_explainAll 3 none 4 89 0 0 (fun _ : Unit => none) [.ref l0, .ref l1] (qX1_explainAll N l0 l1) := by
  refine osMet.of plX1 (Nat.le_of_ble_eq_true rfl) (osW.rw (lv2 := [(0, .ref l0), (1, .ref l1)]) ?_ rfl rfl rfl)
  unfold qX1_explainAll
  refine os_iconst (i := 0) (v := (0 : Int32)) rfl (hX1_explainAll.at 0 rfl rfl) ?_
  refine os_istore_n (i := 2) (q := 2) rfl (lv' := [(2, .int (0 : Int32)), (0, .ref l0), (1, .ref l1)]) (Nat.le_of_ble_eq_true rfl) rfl (hX1_explainAll.at 1 rfl rfl) ?_
  exact osW.sub [1, 2, 0] rfl (sX1_explainAll_2 N l0 l1 (0 : Int32))
-- X5_carryOut
def KX5_carryOut : List (Nat × Nat × Instr) := [(0, 1, .aload_n 0), (1, 3, .invokevirtual 65), (4, 1, .aload_n 0), (5, 3, .invokevirtual 68), (8, 1, .iconst 0), (9, 1, .istore_n 3), (10, 1, .iload_n 3), (11, 2, .bipush 16), (13, 3, .if_icmp .ge 109), (16, 1, .aload_n 1), (17, 3, .getfield 32), (20, 1, .iload_n 3), (21, 1, .iaload), (22, 2, .istore 4), (24, 1, .aload_n 1), (25, 3, .getfield 35), (28, 1, .iload_n 3), (29, 1, .iaload), (30, 2, .istore 5), (32, 1, .aload_n 2), (33, 3, .getfield 160), (36, 1, .iload_n 3), (37, 3, .invokestatic 147), (40, 3, .ifCond .eq 20), (43, 1, .aload_n 0), (44, 1, .aload_n 1), (45, 3, .getfield 53), (48, 1, .iload_n 3), (49, 1, .iaload), (50, 2, .iload 4), (52, 2, .iload 5), (54, 3, .invokevirtual 165), (57, 3, .goto 59), (60, 1, .aload_n 2), (61, 3, .getfield 169), (64, 1, .iload_n 3), (65, 3, .invokestatic 147), (68, 3, .ifCond .eq 33), (71, 1, .aload_n 0), (72, 3, .getfield 38), (75, 1, .iload_n 3), (76, 2, .iload 4), (78, 1, .iastore), (79, 1, .aload_n 0), (80, 3, .getfield 41), (83, 1, .iload_n 3), (84, 2, .iload 5), (86, 1, .iastore), (87, 1, .aload_n 0), (88, 3, .getfield 44), (91, 1, .iload_n 3), (92, 1, .aload_n 2), (93, 1, .iload_n 3), (94, 3, .invokevirtual 172), (97, 1, .iastore), (98, 3, .goto 18), (101, 2, .iload 4), (103, 1, .iconst (-1)), (104, 3, .if_icmp .eq 12), (107, 1, .aload_n 0), (108, 1, .iload_n 3), (109, 2, .iload 4), (111, 2, .iload 5), (113, 3, .invokevirtual 165), (116, 3, .iinc 3 1), (119, 3, .goto (-109)), (122, 1, .aload_n 0), (123, 1, .iconst 0), (124, 3, .putfield 25), (127, 1, .aload_n 2), (128, 3, .invokevirtual 175), (131, 1, .istore_n 3), (132, 1, .iconst 0), (133, 2, .istore 4), (135, 2, .iload 4), (137, 2, .bipush 16), (139, 3, .if_icmp .ge 41), (142, 1, .iload_n 3), (143, 2, .iload 4), (145, 3, .invokestatic 147), (148, 3, .ifCond .eq 26), (151, 1, .aload_n 0), (152, 2, .iload 4), (154, 3, .invokevirtual 126), (157, 3, .ifCond .ne 17), (160, 1, .aload_n 0), (161, 1, .dup), (162, 3, .getfield 25), (165, 2, .iload 4), (167, 3, .invokestatic 178), (170, 1, .ior), (171, 3, .putfield 25), (174, 3, .iinc 4 1), (177, 3, .goto (-42)), (180, 1, .aload_n 0), (181, 1, .iconst 1), (182, 3, .putfield 18), (185, 1, .aload_n 0), (186, 1, .aload_n 2), (187, 3, .getfield 181), (190, 3, .putfield 22), (193, 1, .aload_n 2), (194, 1, .aload_n 0), (195, 3, .getfield 59), (198, 3, .invokevirtual 182), (201, 1, .return_)]
theorem hX5_carryOut : osDs cX5_carryOut KX5_carryOut := by
  show ∀ q ∈ KX5_carryOut, decode cX5_carryOut q.1 = .ok (q.2.2, q.2.1)
  decide +kernel
def qX5_carryOut_174 (N : Nat) (c135 : Nat × Nat × Int32 × Int32 → osM Unit) (l0 : Nat) (l2 : Nat) (l3 : Int32) (l4 : Int32) : osM Unit := c135 (l0, l2, l3, (l4 + (1 : Int32)))
def bX5_carryOut_135 (N : Nat) (c135 : Nat × Nat × Int32 × Int32 → osM Unit) (l0 : Nat) (l2 : Nat) (l3 : Int32) (l4 : Int32) : osM Unit := osite ((16 : Int32) ≤ l4) (osguard ((1 : Int32) = 0 ∨ (1 : Int32) = 1) (osbind (osput [5] 2 l0 (.int (1 : Int32))) fun _ => osbind (osgI [1] 7 l2) fun x2 => osbind (osput [5] 3 l0 (.int x2)) fun _ => osbind (osgR [5] 15 l0) fun x3 => osbind (osrecv [1] l2 (qX1_explainAll N l2 x3)) fun _ => osret ())) (osbind (qX9_has N l3 l4) fun x4 => osite (x4 = 0) (qX5_carryOut_174 N c135 l0 l2 l3 l4) (osbind (osrecv [5] l0 (qX5_hasUnit N l0 l4)) fun x5 => osite (x5 = 0) (osbind (osgI [5] 4 l0) fun x6 => osbind (qX9_bit N l4) fun x7 => osbind (osput [5] 4 l0 (.int (x6 ||| x7))) fun _ => qX5_carryOut_174 N c135 l0 l2 l3 l4) (qX5_carryOut_174 N c135 l0 l2 l3 l4)))
def qX5_carryOut_135 (N : Nat) : Nat × Nat × Int32 × Int32 → osM Unit := osloop (fun ih p => bX5_carryOut_135 N ih p.1 p.2.1 p.2.2.1 p.2.2.2) N
def qX5_carryOut_116 (N : Nat) (c10 : Nat × Nat × Nat × Int32 → osM Unit) (l0 : Nat) (l1 : Nat) (l2 : Nat) (l3 : Int32) : osM Unit := c10 (l0, l1, l2, (l3 + (1 : Int32)))
def bX5_carryOut_10 (N : Nat) (c10 : Nat × Nat × Nat × Int32 → osM Unit) (l0 : Nat) (l1 : Nat) (l2 : Nat) (l3 : Int32) : osM Unit := osite ((16 : Int32) ≤ l3) (osbind (osput [5] 4 l0 (.int (0 : Int32))) fun _ => osbind (osrecv [1] l2 (qX1_findFailedGoals N l2)) fun x1 => qX5_carryOut_135 N (l0, l2, x1, (0 : Int32))) (osbind (osgR [5] 6 l1) fun x2 => osbind (osaI 0 x2 l3) fun x3 => osbind (osgR [5] 7 l1) fun x4 => osbind (osaI 0 x4 l3) fun x5 => osbind (osgI [1] 5 l2) fun x6 => osbind (qX9_has N x6 l3) fun x7 => osite (x7 = 0) (osbind (osgI [1] 6 l2) fun x8 => osbind (qX9_has N x8 l3) fun x9 => osite (x9 = 0) (osite (x3 = (-1 : Int32)) (qX5_carryOut_116 N c10 l0 l1 l2 l3) (osbind (osrecv [5] l0 (qX5_placeUnit N l0 l3 x3 x5)) fun _ => qX5_carryOut_116 N c10 l0 l1 l2 l3)) (osbind (osgR [5] 8 l0) fun x10 => osbind (ossI 0 x10 l3 x3) fun _ => osbind (osgR [5] 9 l0) fun x11 => osbind (ossI 0 x11 l3 x5) fun _ => osbind (osgR [5] 10 l0) fun x12 => osbind (osrecv [1] l2 (qX1_findAttacker N l2 l3)) fun x13 => osbind (ossI 0 x12 l3 x13) fun _ => qX5_carryOut_116 N c10 l0 l1 l2 l3)) (osbind (osgR [5] 13 l1) fun x14 => osbind (osaI 0 x14 l3) fun x15 => osbind (osrecv [5] l0 (qX5_placeUnit N l0 x15 x3 x5)) fun _ => qX5_carryOut_116 N c10 l0 l1 l2 l3))
def qX5_carryOut_10 (N : Nat) : Nat × Nat × Nat × Int32 → osM Unit := osloop (fun ih p => bX5_carryOut_10 N ih p.1 p.2.1 p.2.2.1 p.2.2.2) N
def qX5_carryOut (N : Nat) (l0 : Nat) (l1 : Nat) (l2 : Nat) : osM Unit := osbind (osrecv [5] l0 (qX5_clearUnits N l0)) fun _ => osbind (osrecv [5] l0 (qX5_clearDislodged N l0)) fun _ => qX5_carryOut_10 N (l0, l1, l2, (0 : Int32))
set_option maxRecDepth 100000 in
set_option maxHeartbeats 4000000 in
theorem sX5_carryOut_174 (N : Nat) (c135 : Nat × Nat × Int32 × Int32 → osM Unit) (g135 : ∀ (l0 : Nat) (l2 : Nat) (l3 : Int32) (l4 : Int32), osW (osFinM (fun _ : Unit => none) 0 0) yX5_carryOut cX5_carryOut 6 none [] { frames := 5, cells := 0, slots := 0, locals := 111 } 0 0 135 [(0, .ref l0), (2, .ref l2), (3, .int l3), (4, .int l4)] [] (c135 (l0, l2, l3, l4))) (l0 : Nat) (l2 : Nat) (l3 : Int32) (l4 : Int32) : osW (osFinM (fun _ : Unit => none) 0 0) yX5_carryOut cX5_carryOut 6 none [] { frames := 5, cells := 0, slots := 0, locals := 111 } 0 0 174 [(0, .ref l0), (2, .ref l2), (3, .int l3), (4, .int l4)] [] (qX5_carryOut_174 N c135 l0 l2 l3 l4) := by
  unfold qX5_carryOut_174
  refine os_iinc (i := 4) (d := 1) (x := l4) (v := (1 : Int32)) (lv' := [(4, .int (l4 + (1 : Int32))), (0, .ref l0), (2, .ref l2), (3, .int l3)]) 3 rfl rfl (Nat.le_of_ble_eq_true rfl) rfl (hX5_carryOut.at 92 rfl rfl) ?_
  refine os_goto (off := (-42)) (tgt := 135) rfl (hX5_carryOut.at 93 rfl rfl) ?_
  exact osW.sub [1, 2, 3, 0] rfl (g135 l0 l2 l3 (l4 + (1 : Int32)))
set_option maxRecDepth 100000 in
set_option maxHeartbeats 4000000 in
theorem tX5_carryOut_135 (N : Nat) (c135 : Nat × Nat × Int32 × Int32 → osM Unit) (g135 : ∀ (l0 : Nat) (l2 : Nat) (l3 : Int32) (l4 : Int32), osW (osFinM (fun _ : Unit => none) 0 0) yX5_carryOut cX5_carryOut 6 none [] { frames := 5, cells := 0, slots := 0, locals := 111 } 0 0 135 [(0, .ref l0), (2, .ref l2), (3, .int l3), (4, .int l4)] [] (c135 (l0, l2, l3, l4))) (l0 : Nat) (l2 : Nat) (l3 : Int32) (l4 : Int32) : osW (osFinM (fun _ : Unit => none) 0 0) yX5_carryOut cX5_carryOut 6 none [] { frames := 5, cells := 0, slots := 0, locals := 111 } 0 0 135 [(0, .ref l0), (2, .ref l2), (3, .int l3), (4, .int l4)] [] (bX5_carryOut_135 N c135 l0 l2 l3 l4) := by
  unfold bX5_carryOut_135
  refine os_iload (v := l4) 3 rfl (hX5_carryOut.at 74 rfl rfl) ?_
  refine os_bipush (i := 16) (v := (16 : Int32)) rfl (hX5_carryOut.at 75 rfl rfl) ?_
  refine os_icmp_ge (off := 41) (tgt := 180) rfl (hX5_carryOut.at 76 rfl rfl) ?_ ?_
  · refine os_aload_n (i := 0) (q := 0) (v := l0) 0 rfl rfl (hX5_carryOut.at 94 rfl rfl) ?_
    refine os_iconst (i := 1) (v := (1 : Int32)) rfl (hX5_carryOut.at 95 rfl rfl) ?_
    refine os_guard (fun h1 => ?_)
    refine os_put fX5_18 (osz_narrow h1) (osz_fits h1) (hX5_carryOut.at 96 rfl rfl) ?_
    refine os_aload_n (i := 0) (q := 0) (v := l0) 0 rfl rfl (hX5_carryOut.at 97 rfl rfl) ?_
    refine os_aload_n (i := 2) (q := 2) (v := l2) 1 rfl rfl (hX5_carryOut.at 98 rfl rfl) ?_
    refine os_getI fX5_181 (hX5_carryOut.at 99 rfl rfl) (fun x2 => ?_)
    refine os_put fX5_22 rfl rfl (hX5_carryOut.at 100 rfl rfl) ?_
    refine os_aload_n (i := 2) (q := 2) (v := l2) 1 rfl rfl (hX5_carryOut.at 101 rfl rfl) ?_
    refine os_aload_n (i := 0) (q := 0) (v := l0) 0 rfl rfl (hX5_carryOut.at 102 rfl rfl) ?_
    refine os_getR fX5_59 (hX5_carryOut.at 103 rfl rfl) (fun x3 => ?_)
    refine os_callV (cis := [1]) (b := l2) (As := [.ref x3]) (st := []) (st' := (fun _ => [])) sl1_X1_explainAll_X1_explainAll mdX1_explainAll wd1413 wd1414 (sX1_explainAll N l2 x3) rfl rfl (fun _ => rfl) (Nat.le_of_ble_eq_true rfl) (Nat.le_of_ble_eq_true rfl) (Nat.le_of_ble_eq_true rfl) rfl (Nat.le_of_ble_eq_true rfl) rfl (Nat.le_of_ble_eq_true rfl) (hX5_carryOut.at 104 rfl rfl) (fun _ => ?_)
    exact os_vret (Nat.le_of_ble_eq_true rfl) (Nat.le_of_ble_eq_true rfl) (hX5_carryOut.at 105 rfl rfl).1
  · refine os_iload_n (i := 3) (q := 3) (v := l3) 2 rfl rfl (hX5_carryOut.at 77 rfl rfl) ?_
    refine os_iload (v := l4) 3 rfl (hX5_carryOut.at 78 rfl rfl) ?_
    refine os_callSN (host := "OrderSettler") (As := [.int l3, .int l4]) (st := []) (st' := (fun r => .int r :: [])) mdX9_has wd1164 wd749 (sX9_has N l3 l4) rfl rfl (fun _ => rfl) (Nat.le_of_ble_eq_true rfl) (Nat.le_of_ble_eq_true rfl) (Nat.le_of_ble_eq_true rfl) rfl (Nat.le_of_ble_eq_true rfl) rfl (Nat.le_of_ble_eq_true rfl) (hX5_carryOut.at 79 rfl rfl) (fun x4 => ?_)
    refine os_if_eq (off := 26) (tgt := 174) rfl (hX5_carryOut.at 80 rfl rfl) ?_ ?_
    · exact osW.sub [0, 1, 2, 3] rfl (sX5_carryOut_174 N c135 g135 l0 l2 l3 l4)
    · refine os_aload_n (i := 0) (q := 0) (v := l0) 0 rfl rfl (hX5_carryOut.at 81 rfl rfl) ?_
      refine os_iload (v := l4) 3 rfl (hX5_carryOut.at 82 rfl rfl) ?_
      refine os_callV (cis := [5]) (b := l0) (As := [.int l4]) (st := []) (st' := (fun r => .int r :: [])) sl5_X5_hasUnit_X5_hasUnit mdX5_hasUnit wd1175 wd807 (sX5_hasUnit N l0 l4) rfl rfl (fun _ => rfl) (Nat.le_of_ble_eq_true rfl) (Nat.le_of_ble_eq_true rfl) (Nat.le_of_ble_eq_true rfl) rfl (Nat.le_of_ble_eq_true rfl) rfl (Nat.le_of_ble_eq_true rfl) (hX5_carryOut.at 83 rfl rfl) (fun x5 => ?_)
      refine os_if_ne (off := 17) (tgt := 174) rfl (hX5_carryOut.at 84 rfl rfl) ?_ ?_
      · exact osW.sub [0, 1, 2, 3] rfl (sX5_carryOut_174 N c135 g135 l0 l2 l3 l4)
      · refine os_aload_n (i := 0) (q := 0) (v := l0) 0 rfl rfl (hX5_carryOut.at 85 rfl rfl) ?_
        refine os_dup rfl (hX5_carryOut.at 86 rfl rfl) ?_
        refine os_getI fX5_25 (hX5_carryOut.at 87 rfl rfl) (fun x6 => ?_)
        refine os_iload (v := l4) 3 rfl (hX5_carryOut.at 88 rfl rfl) ?_
        refine os_callSN (host := "OrderSettler") (As := [.int l4]) (st := [.int x6, .ref l0]) (st' := (fun r => .int r :: [.int x6, .ref l0])) mdX9_bit wd1412 wd712 (sX9_bit N l4) rfl rfl (fun _ => rfl) (Nat.le_of_ble_eq_true rfl) (Nat.le_of_ble_eq_true rfl) (Nat.le_of_ble_eq_true rfl) rfl (Nat.le_of_ble_eq_true rfl) rfl (Nat.le_of_ble_eq_true rfl) (hX5_carryOut.at 89 rfl rfl) (fun x7 => ?_)
        refine os_ior (hX5_carryOut.at 90 rfl rfl) ?_
        refine os_put fX5_25 rfl rfl (hX5_carryOut.at 91 rfl rfl) ?_
        exact osW.sub [0, 1, 2, 3] rfl (sX5_carryOut_174 N c135 g135 l0 l2 l3 l4)
set_option maxRecDepth 100000 in
set_option maxHeartbeats 4000000 in
theorem sX5_carryOut_135 (N : Nat) (l0 : Nat) (l2 : Nat) (l3 : Int32) (l4 : Int32) : osW (osFinM (fun _ : Unit => none) 0 0) yX5_carryOut cX5_carryOut 6 none [] { frames := 5, cells := 0, slots := 0, locals := 111 } 0 0 135 [(0, .ref l0), (2, .ref l2), (3, .int l3), (4, .int l4)] [] (qX5_carryOut_135 N (l0, l2, l3, l4)) :=
  osloop_W (lvf := fun p => [(0, .ref p.1), (2, .ref p.2.1), (3, .int p.2.2.1), (4, .int p.2.2.2)]) (stf := fun p => []) (fun ih g p => tX5_carryOut_135 N ih (fun l0 l2 l3 l4 => g (l0, l2, l3, l4)) p.1 p.2.1 p.2.2.1 p.2.2.2) N (l0, l2, l3, l4)
set_option maxRecDepth 100000 in
set_option maxHeartbeats 4000000 in
theorem sX5_carryOut_116 (N : Nat) (c10 : Nat × Nat × Nat × Int32 → osM Unit) (g10 : ∀ (l0 : Nat) (l1 : Nat) (l2 : Nat) (l3 : Int32), osW (osFinM (fun _ : Unit => none) 0 0) yX5_carryOut cX5_carryOut 6 none [] { frames := 5, cells := 0, slots := 0, locals := 111 } 0 0 10 [(0, .ref l0), (1, .ref l1), (2, .ref l2), (3, .int l3)] [] (c10 (l0, l1, l2, l3))) (l0 : Nat) (l1 : Nat) (l2 : Nat) (l3 : Int32) : osW (osFinM (fun _ : Unit => none) 0 0) yX5_carryOut cX5_carryOut 6 none [] { frames := 5, cells := 0, slots := 0, locals := 111 } 0 0 116 [(0, .ref l0), (1, .ref l1), (2, .ref l2), (3, .int l3)] [] (qX5_carryOut_116 N c10 l0 l1 l2 l3) := by
  unfold qX5_carryOut_116
  refine os_iinc (i := 3) (d := 1) (x := l3) (v := (1 : Int32)) (lv' := [(3, .int (l3 + (1 : Int32))), (0, .ref l0), (1, .ref l1), (2, .ref l2)]) 3 rfl rfl (Nat.le_of_ble_eq_true rfl) rfl (hX5_carryOut.at 64 rfl rfl) ?_
  refine os_goto (off := (-109)) (tgt := 10) rfl (hX5_carryOut.at 65 rfl rfl) ?_
  exact osW.sub [1, 2, 3, 0] rfl (g10 l0 l1 l2 (l3 + (1 : Int32)))
set_option maxRecDepth 100000 in
set_option maxHeartbeats 4000000 in
theorem tX5_carryOut_10 (N : Nat) (c10 : Nat × Nat × Nat × Int32 → osM Unit) (g10 : ∀ (l0 : Nat) (l1 : Nat) (l2 : Nat) (l3 : Int32), osW (osFinM (fun _ : Unit => none) 0 0) yX5_carryOut cX5_carryOut 6 none [] { frames := 5, cells := 0, slots := 0, locals := 111 } 0 0 10 [(0, .ref l0), (1, .ref l1), (2, .ref l2), (3, .int l3)] [] (c10 (l0, l1, l2, l3))) (l0 : Nat) (l1 : Nat) (l2 : Nat) (l3 : Int32) : osW (osFinM (fun _ : Unit => none) 0 0) yX5_carryOut cX5_carryOut 6 none [] { frames := 5, cells := 0, slots := 0, locals := 111 } 0 0 10 [(0, .ref l0), (1, .ref l1), (2, .ref l2), (3, .int l3)] [] (bX5_carryOut_10 N c10 l0 l1 l2 l3) := by
  unfold bX5_carryOut_10
  refine os_iload_n (i := 3) (q := 3) (v := l3) 3 rfl rfl (hX5_carryOut.at 6 rfl rfl) ?_
  refine os_bipush (i := 16) (v := (16 : Int32)) rfl (hX5_carryOut.at 7 rfl rfl) ?_
  refine os_icmp_ge (off := 109) (tgt := 122) rfl (hX5_carryOut.at 8 rfl rfl) ?_ ?_
  · refine os_aload_n (i := 0) (q := 0) (v := l0) 0 rfl rfl (hX5_carryOut.at 66 rfl rfl) ?_
    refine os_iconst (i := 0) (v := (0 : Int32)) rfl (hX5_carryOut.at 67 rfl rfl) ?_
    refine os_put fX5_25 rfl rfl (hX5_carryOut.at 68 rfl rfl) ?_
    refine os_aload_n (i := 2) (q := 2) (v := l2) 2 rfl rfl (hX5_carryOut.at 69 rfl rfl) ?_
    refine os_callV (cis := [1]) (b := l2) (As := []) (st := []) (st' := (fun r => .int r :: [])) sl1_X1_findFailedGoals_X1_findFailedGoals mdX1_findFailedGoals wd1408 wd1409 (sX1_findFailedGoals N l2 ) rfl rfl (fun _ => rfl) (Nat.le_of_ble_eq_true rfl) (Nat.le_of_ble_eq_true rfl) (Nat.le_of_ble_eq_true rfl) rfl (Nat.le_of_ble_eq_true rfl) rfl (Nat.le_of_ble_eq_true rfl) (hX5_carryOut.at 70 rfl rfl) (fun x1 => ?_)
    refine os_istore_n (i := 3) (q := 3) rfl (lv' := [(3, .int x1), (0, .ref l0), (1, .ref l1), (2, .ref l2)]) (Nat.le_of_ble_eq_true rfl) rfl (hX5_carryOut.at 71 rfl rfl) ?_
    refine os_iconst (i := 0) (v := (0 : Int32)) rfl (hX5_carryOut.at 72 rfl rfl) ?_
    refine os_istore (i := 4) (lv' := [(4, .int (0 : Int32)), (3, .int x1), (0, .ref l0), (1, .ref l1), (2, .ref l2)]) (Nat.le_of_ble_eq_true rfl) rfl (hX5_carryOut.at 73 rfl rfl) ?_
    exact osW.sub [2, 4, 1, 0] rfl (sX5_carryOut_135 N l0 l2 x1 (0 : Int32))
  · refine os_aload_n (i := 1) (q := 1) (v := l1) 1 rfl rfl (hX5_carryOut.at 9 rfl rfl) ?_
    refine os_getR fX5_32 (hX5_carryOut.at 10 rfl rfl) (fun x2 => ?_)
    refine os_iload_n (i := 3) (q := 3) (v := l3) 3 rfl rfl (hX5_carryOut.at 11 rfl rfl) ?_
    refine os_iaload (hX5_carryOut.at 12 rfl rfl) (fun x3 => ?_)
    refine os_istore (i := 4) (lv' := [(4, .int x3), (0, .ref l0), (1, .ref l1), (2, .ref l2), (3, .int l3)]) (Nat.le_of_ble_eq_true rfl) rfl (hX5_carryOut.at 13 rfl rfl) ?_
    refine os_aload_n (i := 1) (q := 1) (v := l1) 2 rfl rfl (hX5_carryOut.at 14 rfl rfl) ?_
    refine os_getR fX5_35 (hX5_carryOut.at 15 rfl rfl) (fun x4 => ?_)
    refine os_iload_n (i := 3) (q := 3) (v := l3) 4 rfl rfl (hX5_carryOut.at 16 rfl rfl) ?_
    refine os_iaload (hX5_carryOut.at 17 rfl rfl) (fun x5 => ?_)
    refine os_istore (i := 5) (lv' := [(5, .int x5), (4, .int x3), (0, .ref l0), (1, .ref l1), (2, .ref l2), (3, .int l3)]) (Nat.le_of_ble_eq_true rfl) rfl (hX5_carryOut.at 18 rfl rfl) ?_
    refine os_aload_n (i := 2) (q := 2) (v := l2) 4 rfl rfl (hX5_carryOut.at 19 rfl rfl) ?_
    refine os_getI fX5_160 (hX5_carryOut.at 20 rfl rfl) (fun x6 => ?_)
    refine os_iload_n (i := 3) (q := 3) (v := l3) 5 rfl rfl (hX5_carryOut.at 21 rfl rfl) ?_
    refine os_callSN (host := "OrderSettler") (As := [.int x6, .int l3]) (st := []) (st' := (fun r => .int r :: [])) mdX9_has wd1164 wd749 (sX9_has N x6 l3) rfl rfl (fun _ => rfl) (Nat.le_of_ble_eq_true rfl) (Nat.le_of_ble_eq_true rfl) (Nat.le_of_ble_eq_true rfl) rfl (Nat.le_of_ble_eq_true rfl) rfl (Nat.le_of_ble_eq_true rfl) (hX5_carryOut.at 22 rfl rfl) (fun x7 => ?_)
    refine os_if_eq (off := 20) (tgt := 60) rfl (hX5_carryOut.at 23 rfl rfl) ?_ ?_
    · refine os_aload_n (i := 2) (q := 2) (v := l2) 4 rfl rfl (hX5_carryOut.at 33 rfl rfl) ?_
      refine os_getI fX5_169 (hX5_carryOut.at 34 rfl rfl) (fun x8 => ?_)
      refine os_iload_n (i := 3) (q := 3) (v := l3) 5 rfl rfl (hX5_carryOut.at 35 rfl rfl) ?_
      refine os_callSN (host := "OrderSettler") (As := [.int x8, .int l3]) (st := []) (st' := (fun r => .int r :: [])) mdX9_has wd1164 wd749 (sX9_has N x8 l3) rfl rfl (fun _ => rfl) (Nat.le_of_ble_eq_true rfl) (Nat.le_of_ble_eq_true rfl) (Nat.le_of_ble_eq_true rfl) rfl (Nat.le_of_ble_eq_true rfl) rfl (Nat.le_of_ble_eq_true rfl) (hX5_carryOut.at 36 rfl rfl) (fun x9 => ?_)
      refine os_if_eq (off := 33) (tgt := 101) rfl (hX5_carryOut.at 37 rfl rfl) ?_ ?_
      · refine os_iload (v := x3) 1 rfl (hX5_carryOut.at 56 rfl rfl) ?_
        refine os_iconst (i := (-1)) (v := (-1 : Int32)) rfl (hX5_carryOut.at 57 rfl rfl) ?_
        refine os_icmp_eq (off := 12) (tgt := 116) rfl (hX5_carryOut.at 58 rfl rfl) ?_ ?_
        · exact osW.sub [2, 3, 4, 5] rfl (sX5_carryOut_116 N c10 g10 l0 l1 l2 l3)
        · refine os_aload_n (i := 0) (q := 0) (v := l0) 2 rfl rfl (hX5_carryOut.at 59 rfl rfl) ?_
          refine os_iload_n (i := 3) (q := 3) (v := l3) 5 rfl rfl (hX5_carryOut.at 60 rfl rfl) ?_
          refine os_iload (v := x3) 1 rfl (hX5_carryOut.at 61 rfl rfl) ?_
          refine os_iload (v := x5) 0 rfl (hX5_carryOut.at 62 rfl rfl) ?_
          refine os_callV (cis := [5]) (b := l0) (As := [.int l3, .int x3, .int x5]) (st := []) (st' := (fun _ => [])) sl5_X5_placeUnit_X5_placeUnit mdX5_placeUnit wd1403 wd812 (sX5_placeUnit N l0 l3 x3 x5) rfl rfl (fun _ => rfl) (Nat.le_of_ble_eq_true rfl) (Nat.le_of_ble_eq_true rfl) (Nat.le_of_ble_eq_true rfl) rfl (Nat.le_of_ble_eq_true rfl) rfl (Nat.le_of_ble_eq_true rfl) (hX5_carryOut.at 63 rfl rfl) (fun _ => ?_)
          exact osW.sub [2, 3, 4, 5] rfl (sX5_carryOut_116 N c10 g10 l0 l1 l2 l3)
      · refine os_aload_n (i := 0) (q := 0) (v := l0) 2 rfl rfl (hX5_carryOut.at 38 rfl rfl) ?_
        refine os_getR fX5_38 (hX5_carryOut.at 39 rfl rfl) (fun x10 => ?_)
        refine os_iload_n (i := 3) (q := 3) (v := l3) 5 rfl rfl (hX5_carryOut.at 40 rfl rfl) ?_
        refine os_iload (v := x3) 1 rfl (hX5_carryOut.at 41 rfl rfl) ?_
        refine os_iastore (hX5_carryOut.at 42 rfl rfl) ?_
        refine os_aload_n (i := 0) (q := 0) (v := l0) 2 rfl rfl (hX5_carryOut.at 43 rfl rfl) ?_
        refine os_getR fX5_41 (hX5_carryOut.at 44 rfl rfl) (fun x11 => ?_)
        refine os_iload_n (i := 3) (q := 3) (v := l3) 5 rfl rfl (hX5_carryOut.at 45 rfl rfl) ?_
        refine os_iload (v := x5) 0 rfl (hX5_carryOut.at 46 rfl rfl) ?_
        refine os_iastore (hX5_carryOut.at 47 rfl rfl) ?_
        refine os_aload_n (i := 0) (q := 0) (v := l0) 2 rfl rfl (hX5_carryOut.at 48 rfl rfl) ?_
        refine os_getR fX5_44 (hX5_carryOut.at 49 rfl rfl) (fun x12 => ?_)
        refine os_iload_n (i := 3) (q := 3) (v := l3) 5 rfl rfl (hX5_carryOut.at 50 rfl rfl) ?_
        refine os_aload_n (i := 2) (q := 2) (v := l2) 4 rfl rfl (hX5_carryOut.at 51 rfl rfl) ?_
        refine os_iload_n (i := 3) (q := 3) (v := l3) 5 rfl rfl (hX5_carryOut.at 52 rfl rfl) ?_
        refine os_callV (cis := [1]) (b := l2) (As := [.int l3]) (st := [.int l3, .ref x12]) (st' := (fun r => .int r :: [.int l3, .ref x12])) sl1_X1_findAttacker_X1_findAttacker mdX1_findAttacker wd1404 wd1405 (sX1_findAttacker N l2 l3) rfl rfl (fun _ => rfl) (Nat.le_of_ble_eq_true rfl) (Nat.le_of_ble_eq_true rfl) (Nat.le_of_ble_eq_true rfl) rfl (Nat.le_of_ble_eq_true rfl) rfl (Nat.le_of_ble_eq_true rfl) (hX5_carryOut.at 53 rfl rfl) (fun x13 => ?_)
        refine os_iastore (hX5_carryOut.at 54 rfl rfl) ?_
        refine os_goto (off := 18) (tgt := 116) rfl (hX5_carryOut.at 55 rfl rfl) ?_
        exact osW.sub [2, 3, 4, 5] rfl (sX5_carryOut_116 N c10 g10 l0 l1 l2 l3)
    · refine os_aload_n (i := 0) (q := 0) (v := l0) 2 rfl rfl (hX5_carryOut.at 24 rfl rfl) ?_
      refine os_aload_n (i := 1) (q := 1) (v := l1) 3 rfl rfl (hX5_carryOut.at 25 rfl rfl) ?_
      refine os_getR fX5_53 (hX5_carryOut.at 26 rfl rfl) (fun x14 => ?_)
      refine os_iload_n (i := 3) (q := 3) (v := l3) 5 rfl rfl (hX5_carryOut.at 27 rfl rfl) ?_
      refine os_iaload (hX5_carryOut.at 28 rfl rfl) (fun x15 => ?_)
      refine os_iload (v := x3) 1 rfl (hX5_carryOut.at 29 rfl rfl) ?_
      refine os_iload (v := x5) 0 rfl (hX5_carryOut.at 30 rfl rfl) ?_
      refine os_callV (cis := [5]) (b := l0) (As := [.int x15, .int x3, .int x5]) (st := []) (st' := (fun _ => [])) sl5_X5_placeUnit_X5_placeUnit mdX5_placeUnit wd1403 wd812 (sX5_placeUnit N l0 x15 x3 x5) rfl rfl (fun _ => rfl) (Nat.le_of_ble_eq_true rfl) (Nat.le_of_ble_eq_true rfl) (Nat.le_of_ble_eq_true rfl) rfl (Nat.le_of_ble_eq_true rfl) rfl (Nat.le_of_ble_eq_true rfl) (hX5_carryOut.at 31 rfl rfl) (fun _ => ?_)
      refine os_goto (off := 59) (tgt := 116) rfl (hX5_carryOut.at 32 rfl rfl) ?_
      exact osW.sub [2, 3, 4, 5] rfl (sX5_carryOut_116 N c10 g10 l0 l1 l2 l3)
set_option maxRecDepth 100000 in
set_option maxHeartbeats 4000000 in
theorem sX5_carryOut_10 (N : Nat) (l0 : Nat) (l1 : Nat) (l2 : Nat) (l3 : Int32) : osW (osFinM (fun _ : Unit => none) 0 0) yX5_carryOut cX5_carryOut 6 none [] { frames := 5, cells := 0, slots := 0, locals := 111 } 0 0 10 [(0, .ref l0), (1, .ref l1), (2, .ref l2), (3, .int l3)] [] (qX5_carryOut_10 N (l0, l1, l2, l3)) :=
  osloop_W (lvf := fun p => [(0, .ref p.1), (1, .ref p.2.1), (2, .ref p.2.2.1), (3, .int p.2.2.2)]) (stf := fun p => []) (fun ih g p => tX5_carryOut_10 N ih (fun l0 l1 l2 l3 => g (l0, l1, l2, l3)) p.1 p.2.1 p.2.2.1 p.2.2.2) N (l0, l1, l2, l3)
set_option maxRecDepth 100000 in
set_option maxHeartbeats 4000000 in
theorem sX5_carryOut (N : Nat) (l0 : Nat) (l1 : Nat) (l2 : Nat) : osMet yX5_carryOut cX5_carryOut 6 none 5 111 0 0 (fun _ : Unit => none) [.ref l0, .ref l1, .ref l2] (qX5_carryOut N l0 l1 l2) := by
  refine osMet.of plX5 (Nat.le_of_ble_eq_true rfl) (osW.rw (lv2 := [(0, .ref l0), (1, .ref l1), (2, .ref l2)]) ?_ rfl rfl rfl)
  unfold qX5_carryOut
  refine os_aload_n (i := 0) (q := 0) (v := l0) 0 rfl rfl (hX5_carryOut.at 0 rfl rfl) ?_
  refine os_callV (cis := [5]) (b := l0) (As := []) (st := []) (st' := (fun _ => [])) sl5_X5_clearUnits_X5_clearUnits mdX5_clearUnits wd345 wd347 (sX5_clearUnits N l0 ) rfl rfl (fun _ => rfl) (Nat.le_of_ble_eq_true rfl) (Nat.le_of_ble_eq_true rfl) (Nat.le_of_ble_eq_true rfl) rfl (Nat.le_of_ble_eq_true rfl) rfl (Nat.le_of_ble_eq_true rfl) (hX5_carryOut.at 1 rfl rfl) (fun _ => ?_)
  refine os_aload_n (i := 0) (q := 0) (v := l0) 0 rfl rfl (hX5_carryOut.at 2 rfl rfl) ?_
  refine os_callV (cis := [5]) (b := l0) (As := []) (st := []) (st' := (fun _ => [])) sl5_X5_clearDislodged_X5_clearDislodged mdX5_clearDislodged wd349 wd351 (sX5_clearDislodged N l0 ) rfl rfl (fun _ => rfl) (Nat.le_of_ble_eq_true rfl) (Nat.le_of_ble_eq_true rfl) (Nat.le_of_ble_eq_true rfl) rfl (Nat.le_of_ble_eq_true rfl) rfl (Nat.le_of_ble_eq_true rfl) (hX5_carryOut.at 3 rfl rfl) (fun _ => ?_)
  refine os_iconst (i := 0) (v := (0 : Int32)) rfl (hX5_carryOut.at 4 rfl rfl) ?_
  refine os_istore_n (i := 3) (q := 3) rfl (lv' := [(3, .int (0 : Int32)), (0, .ref l0), (1, .ref l1), (2, .ref l2)]) (Nat.le_of_ble_eq_true rfl) rfl (hX5_carryOut.at 5 rfl rfl) ?_
  exact osW.sub [1, 2, 3, 0] rfl (sX5_carryOut_10 N l0 l1 l2 (0 : Int32))
-- X1_search
def KX1_search : List (Nat × Nat × Instr) := [(0, 1, .iconst 0), (1, 1, .istore_n 1), (2, 1, .iconst 0), (3, 1, .istore_n 2), (4, 1, .iconst 0), (5, 1, .istore_n 3), (6, 1, .iconst 0), (7, 2, .istore 4), (9, 1, .aload_n 0), (10, 1, .iconst 0), (11, 3, .putfield 29), (14, 1, .iconst 1), (15, 1, .aload_n 0), (16, 3, .getfield 12), (19, 3, .getfield 53), (22, 3, .invokestatic 56), (25, 2, .bipush 12), (27, 3, .invokestatic 62), (30, 1, .ishl), (31, 2, .istore 5), (33, 1, .iconst 0), (34, 2, .istore 6), (36, 2, .iload 6), (38, 2, .iload 5), (40, 3, .if_icmp .ge 95), (43, 1, .aload_n 0), (44, 1, .iload_n 1), (45, 3, .invokevirtual 49), (48, 1, .aload_n 0), (49, 3, .invokevirtual 68), (52, 3, .ifCond .eq 59), (55, 1, .aload_n 0), (56, 3, .getfield 32), (59, 3, .invokestatic 56), (62, 2, .istore 7), (64, 1, .aload_n 0), (65, 3, .getfield 26), (68, 3, .invokestatic 56), (71, 2, .istore 8), (73, 1, .iload_n 2), (74, 3, .ifCond .eq 22), (77, 2, .iload 7), (79, 1, .iload_n 3), (80, 3, .if_icmp .gt 16), (83, 2, .iload 7), (85, 1, .iload_n 3), (86, 3, .if_icmp .ne 22), (89, 2, .iload 8), (91, 2, .iload 4), (93, 3, .if_icmp .lt 15), (96, 1, .aload_n 0), (97, 1, .iload_n 1), (98, 3, .putfield 29), (101, 2, .iload 7), (103, 1, .istore_n 3), (104, 2, .iload 8), (106, 2, .istore 4), (108, 3, .iinc 2 1), (111, 1, .iload_n 1), (112, 1, .aload_n 0), (113, 3, .getfield 12), (116, 3, .getfield 53), (119, 1, .isub), (120, 1, .aload_n 0), (121, 3, .getfield 12), (124, 3, .getfield 53), (127, 1, .iand), (128, 1, .istore_n 1), (129, 3, .iinc 6 1), (132, 3, .goto (-96)), (135, 1, .iload_n 2), (136, 1, .ireturn)]
theorem hX1_search : osDs cX1_search KX1_search := by
  show ∀ q ∈ KX1_search, decode cX1_search q.1 = .ok (q.2.2, q.2.1)
  decide +kernel
def qX1_search_111 (N : Nat) (c36 : Nat × Int32 × Int32 × Int32 × Int32 × Int32 × Int32 → osM Int32) (l0 : Nat) (l1 : Int32) (l2 : Int32) (l3 : Int32) (l4 : Int32) (l5 : Int32) (l6 : Int32) : osM Int32 := osbind (osgR [1] 0 l0) fun x1 => osbind (osgI [2] 1 x1) fun x2 => osbind (osgR [1] 0 l0) fun x3 => osbind (osgI [2] 1 x3) fun x4 => c36 (l0, ((l1 - x2) &&& x4), l2, l3, l4, l5, (l6 + (1 : Int32)))
def qX1_search_108 (N : Nat) (c36 : Nat × Int32 × Int32 × Int32 × Int32 × Int32 × Int32 → osM Int32) (l0 : Nat) (l1 : Int32) (l2 : Int32) (l3 : Int32) (l4 : Int32) (l5 : Int32) (l6 : Int32) : osM Int32 := qX1_search_111 N c36 l0 l1 (l2 + (1 : Int32)) l3 l4 l5 l6
def qX1_search_96 (N : Nat) (c36 : Nat × Int32 × Int32 × Int32 × Int32 × Int32 × Int32 → osM Int32) (l0 : Nat) (l1 : Int32) (l2 : Int32) (l5 : Int32) (l6 : Int32) (l7 : Int32) (l8 : Int32) : osM Int32 := osbind (osput [1] 4 l0 (.int l1)) fun _ => qX1_search_108 N c36 l0 l1 l2 l7 l8 l5 l6
def bX1_search_36 (N : Nat) (c36 : Nat × Int32 × Int32 × Int32 × Int32 × Int32 × Int32 → osM Int32) (l0 : Nat) (l1 : Int32) (l2 : Int32) (l3 : Int32) (l4 : Int32) (l5 : Int32) (l6 : Int32) : osM Int32 := osite (l5 ≤ l6) (osret l2) (osbind (osrecv [1] l0 (qX1_weigh N l0 l1)) fun _ => osbind (osrecv [1] l0 (qX1_isConsistent N l0)) fun x1 => osite (x1 = 0) (qX1_search_111 N c36 l0 l1 l2 l3 l4 l5 l6) (osbind (osgI [1] 5 l0) fun x2 => osbind (qJ6_bitCount_0f7a4 N x2) fun x3 => osbind (osgI [1] 3 l0) fun x4 => osbind (qJ6_bitCount_0f7a4 N x4) fun x5 => osite (l2 = 0) (qX1_search_96 N c36 l0 l1 l2 l5 l6 x3 x5) (osite (l3 < x3) (qX1_search_96 N c36 l0 l1 l2 l5 l6 x3 x5) (osite (x3 = l3) (osite (x5 < l4) (qX1_search_108 N c36 l0 l1 l2 l3 l4 l5 l6) (qX1_search_96 N c36 l0 l1 l2 l5 l6 x3 x5)) (qX1_search_108 N c36 l0 l1 l2 l3 l4 l5 l6)))))
def qX1_search_36 (N : Nat) : Nat × Int32 × Int32 × Int32 × Int32 × Int32 × Int32 → osM Int32 := osloop (fun ih p => bX1_search_36 N ih p.1 p.2.1 p.2.2.1 p.2.2.2.1 p.2.2.2.2.1 p.2.2.2.2.2.1 p.2.2.2.2.2.2) N
def qX1_search (N : Nat) (l0 : Nat) : osM Int32 := osbind (osput [1] 4 l0 (.int (0 : Int32))) fun _ => osbind (osgR [1] 0 l0) fun x1 => osbind (osgI [2] 1 x1) fun x2 => osbind (qJ6_bitCount_0f7a4 N x2) fun x3 => osbind (osret ((osshl (1 : Int32) (osmin x3 (12 : Int32))) : Int32)) fun x4 => qX1_search_36 N (l0, (0 : Int32), (0 : Int32), (0 : Int32), (0 : Int32), x4, (0 : Int32))
set_option maxRecDepth 100000 in
set_option maxHeartbeats 4000000 in
theorem sX1_search_111 (N : Nat) (c36 : Nat × Int32 × Int32 × Int32 × Int32 × Int32 × Int32 → osM Int32) (g36 : ∀ (l0 : Nat) (l1 : Int32) (l2 : Int32) (l3 : Int32) (l4 : Int32) (l5 : Int32) (l6 : Int32), osW (osFinM (fun r : Int32 => some (.int r)) 0 0) yX1_search cX1_search 9 (some .int) [] { frames := 5, cells := 0, slots := 0, locals := 110 } 0 0 36 [(0, .ref l0), (1, .int l1), (2, .int l2), (3, .int l3), (4, .int l4), (5, .int l5), (6, .int l6)] [] (c36 (l0, l1, l2, l3, l4, l5, l6))) (l0 : Nat) (l1 : Int32) (l2 : Int32) (l3 : Int32) (l4 : Int32) (l5 : Int32) (l6 : Int32) : osW (osFinM (fun r : Int32 => some (.int r)) 0 0) yX1_search cX1_search 9 (some .int) [] { frames := 5, cells := 0, slots := 0, locals := 110 } 0 0 111 [(0, .ref l0), (1, .int l1), (2, .int l2), (3, .int l3), (4, .int l4), (5, .int l5), (6, .int l6)] [] (qX1_search_111 N c36 l0 l1 l2 l3 l4 l5 l6) := by
  unfold qX1_search_111
  refine os_iload_n (i := 1) (q := 1) (v := l1) 1 rfl rfl (hX1_search.at 58 rfl rfl) ?_
  refine os_aload_n (i := 0) (q := 0) (v := l0) 0 rfl rfl (hX1_search.at 59 rfl rfl) ?_
  refine os_getR fX1_12 (hX1_search.at 60 rfl rfl) (fun x1 => ?_)
  refine os_getI fX1_53 (hX1_search.at 61 rfl rfl) (fun x2 => ?_)
  refine os_isub (hX1_search.at 62 rfl rfl) ?_
  refine os_aload_n (i := 0) (q := 0) (v := l0) 0 rfl rfl (hX1_search.at 63 rfl rfl) ?_
  refine os_getR fX1_12 (hX1_search.at 64 rfl rfl) (fun x3 => ?_)
  refine os_getI fX1_53 (hX1_search.at 65 rfl rfl) (fun x4 => ?_)
  refine os_iand (hX1_search.at 66 rfl rfl) ?_
  refine os_istore_n (i := 1) (q := 1) rfl (lv' := [(1, .int ((l1 - x2) &&& x4)), (0, .ref l0), (2, .int l2), (3, .int l3), (4, .int l4), (5, .int l5), (6, .int l6)]) (Nat.le_of_ble_eq_true rfl) rfl (hX1_search.at 67 rfl rfl) ?_
  refine os_iinc (i := 6) (d := 1) (x := l6) (v := (1 : Int32)) (lv' := [(6, .int (l6 + (1 : Int32))), (1, .int ((l1 - x2) &&& x4)), (0, .ref l0), (2, .int l2), (3, .int l3), (4, .int l4), (5, .int l5)]) 6 rfl rfl (Nat.le_of_ble_eq_true rfl) rfl (hX1_search.at 68 rfl rfl) ?_
  refine os_goto (off := (-96)) (tgt := 36) rfl (hX1_search.at 69 rfl rfl) ?_
  exact osW.sub [2, 1, 3, 4, 5, 6, 0] rfl (g36 l0 ((l1 - x2) &&& x4) l2 l3 l4 l5 (l6 + (1 : Int32)))
set_option maxRecDepth 100000 in
set_option maxHeartbeats 4000000 in
theorem sX1_search_108 (N : Nat) (c36 : Nat × Int32 × Int32 × Int32 × Int32 × Int32 × Int32 → osM Int32) (g36 : ∀ (l0 : Nat) (l1 : Int32) (l2 : Int32) (l3 : Int32) (l4 : Int32) (l5 : Int32) (l6 : Int32), osW (osFinM (fun r : Int32 => some (.int r)) 0 0) yX1_search cX1_search 9 (some .int) [] { frames := 5, cells := 0, slots := 0, locals := 110 } 0 0 36 [(0, .ref l0), (1, .int l1), (2, .int l2), (3, .int l3), (4, .int l4), (5, .int l5), (6, .int l6)] [] (c36 (l0, l1, l2, l3, l4, l5, l6))) (l0 : Nat) (l1 : Int32) (l2 : Int32) (l3 : Int32) (l4 : Int32) (l5 : Int32) (l6 : Int32) : osW (osFinM (fun r : Int32 => some (.int r)) 0 0) yX1_search cX1_search 9 (some .int) [] { frames := 5, cells := 0, slots := 0, locals := 110 } 0 0 108 [(0, .ref l0), (1, .int l1), (2, .int l2), (3, .int l3), (4, .int l4), (5, .int l5), (6, .int l6)] [] (qX1_search_108 N c36 l0 l1 l2 l3 l4 l5 l6) := by
  unfold qX1_search_108
  refine os_iinc (i := 2) (d := 1) (x := l2) (v := (1 : Int32)) (lv' := [(2, .int (l2 + (1 : Int32))), (0, .ref l0), (1, .int l1), (3, .int l3), (4, .int l4), (5, .int l5), (6, .int l6)]) 2 rfl rfl (Nat.le_of_ble_eq_true rfl) rfl (hX1_search.at 57 rfl rfl) ?_
  exact osW.sub [1, 2, 0, 3, 4, 5, 6] rfl (sX1_search_111 N c36 g36 l0 l1 (l2 + (1 : Int32)) l3 l4 l5 l6)
set_option maxRecDepth 100000 in
set_option maxHeartbeats 4000000 in
theorem sX1_search_96 (N : Nat) (c36 : Nat × Int32 × Int32 × Int32 × Int32 × Int32 × Int32 → osM Int32) (g36 : ∀ (l0 : Nat) (l1 : Int32) (l2 : Int32) (l3 : Int32) (l4 : Int32) (l5 : Int32) (l6 : Int32), osW (osFinM (fun r : Int32 => some (.int r)) 0 0) yX1_search cX1_search 9 (some .int) [] { frames := 5, cells := 0, slots := 0, locals := 110 } 0 0 36 [(0, .ref l0), (1, .int l1), (2, .int l2), (3, .int l3), (4, .int l4), (5, .int l5), (6, .int l6)] [] (c36 (l0, l1, l2, l3, l4, l5, l6))) (l0 : Nat) (l1 : Int32) (l2 : Int32) (l5 : Int32) (l6 : Int32) (l7 : Int32) (l8 : Int32) : osW (osFinM (fun r : Int32 => some (.int r)) 0 0) yX1_search cX1_search 9 (some .int) [] { frames := 5, cells := 0, slots := 0, locals := 110 } 0 0 96 [(0, .ref l0), (1, .int l1), (2, .int l2), (5, .int l5), (6, .int l6), (7, .int l7), (8, .int l8)] [] (qX1_search_96 N c36 l0 l1 l2 l5 l6 l7 l8) := by
  unfold qX1_search_96
  refine os_aload_n (i := 0) (q := 0) (v := l0) 0 rfl rfl (hX1_search.at 50 rfl rfl) ?_
  refine os_iload_n (i := 1) (q := 1) (v := l1) 1 rfl rfl (hX1_search.at 51 rfl rfl) ?_
  refine os_put fX1_29 rfl rfl (hX1_search.at 52 rfl rfl) ?_
  refine os_iload (v := l7) 5 rfl (hX1_search.at 53 rfl rfl) ?_
  refine os_istore_n (i := 3) (q := 3) rfl (lv' := [(3, .int l7), (0, .ref l0), (1, .int l1), (2, .int l2), (5, .int l5), (6, .int l6), (7, .int l7), (8, .int l8)]) (Nat.le_of_ble_eq_true rfl) rfl (hX1_search.at 54 rfl rfl) ?_
  refine os_iload (v := l8) 7 rfl (hX1_search.at 55 rfl rfl) ?_
  refine os_istore (i := 4) (lv' := [(4, .int l8), (3, .int l7), (0, .ref l0), (1, .int l1), (2, .int l2), (5, .int l5), (6, .int l6), (7, .int l7), (8, .int l8)]) (Nat.le_of_ble_eq_true rfl) rfl (hX1_search.at 56 rfl rfl) ?_
  exact osW.sub [2, 3, 4, 1, 0, 5, 6] rfl (sX1_search_108 N c36 g36 l0 l1 l2 l7 l8 l5 l6)
set_option maxRecDepth 100000 in
set_option maxHeartbeats 4000000 in
theorem tX1_search_36 (N : Nat) (c36 : Nat × Int32 × Int32 × Int32 × Int32 × Int32 × Int32 → osM Int32) (g36 : ∀ (l0 : Nat) (l1 : Int32) (l2 : Int32) (l3 : Int32) (l4 : Int32) (l5 : Int32) (l6 : Int32), osW (osFinM (fun r : Int32 => some (.int r)) 0 0) yX1_search cX1_search 9 (some .int) [] { frames := 5, cells := 0, slots := 0, locals := 110 } 0 0 36 [(0, .ref l0), (1, .int l1), (2, .int l2), (3, .int l3), (4, .int l4), (5, .int l5), (6, .int l6)] [] (c36 (l0, l1, l2, l3, l4, l5, l6))) (l0 : Nat) (l1 : Int32) (l2 : Int32) (l3 : Int32) (l4 : Int32) (l5 : Int32) (l6 : Int32) : osW (osFinM (fun r : Int32 => some (.int r)) 0 0) yX1_search cX1_search 9 (some .int) [] { frames := 5, cells := 0, slots := 0, locals := 110 } 0 0 36 [(0, .ref l0), (1, .int l1), (2, .int l2), (3, .int l3), (4, .int l4), (5, .int l5), (6, .int l6)] [] (bX1_search_36 N c36 l0 l1 l2 l3 l4 l5 l6) := by
  unfold bX1_search_36
  refine os_iload (v := l6) 6 rfl (hX1_search.at 22 rfl rfl) ?_
  refine os_iload (v := l5) 5 rfl (hX1_search.at 23 rfl rfl) ?_
  refine os_icmp_ge (off := 95) (tgt := 135) rfl (hX1_search.at 24 rfl rfl) ?_ ?_
  · refine os_iload_n (i := 2) (q := 2) (v := l2) 2 rfl rfl (hX1_search.at 70 rfl rfl) ?_
    exact os_iret (Nat.le_of_ble_eq_true rfl) (Nat.le_of_ble_eq_true rfl) (hX1_search.at 71 rfl rfl).1
  · refine os_aload_n (i := 0) (q := 0) (v := l0) 0 rfl rfl (hX1_search.at 25 rfl rfl) ?_
    refine os_iload_n (i := 1) (q := 1) (v := l1) 1 rfl rfl (hX1_search.at 26 rfl rfl) ?_
    refine os_callV (cis := [1]) (b := l0) (As := [.int l1]) (st := []) (st' := (fun _ => [])) sl1_X1_weigh_X1_weigh mdX1_weigh wd1333 wd1335 (sX1_weigh N l0 l1) rfl rfl (fun _ => rfl) (Nat.le_of_ble_eq_true rfl) (Nat.le_of_ble_eq_true rfl) (Nat.le_of_ble_eq_true rfl) rfl (Nat.le_of_ble_eq_true rfl) rfl (Nat.le_of_ble_eq_true rfl) (hX1_search.at 27 rfl rfl) (fun _ => ?_)
    refine os_aload_n (i := 0) (q := 0) (v := l0) 0 rfl rfl (hX1_search.at 28 rfl rfl) ?_
    refine os_callV (cis := [1]) (b := l0) (As := []) (st := []) (st' := (fun r => .int r :: [])) sl1_X1_isConsistent_X1_isConsistent mdX1_isConsistent wd1344 wd1346 (sX1_isConsistent N l0 ) rfl rfl (fun _ => rfl) (Nat.le_of_ble_eq_true rfl) (Nat.le_of_ble_eq_true rfl) (Nat.le_of_ble_eq_true rfl) rfl (Nat.le_of_ble_eq_true rfl) rfl (Nat.le_of_ble_eq_true rfl) (hX1_search.at 29 rfl rfl) (fun x1 => ?_)
    refine os_if_eq (off := 59) (tgt := 111) rfl (hX1_search.at 30 rfl rfl) ?_ ?_
    · exact osW.sub [0, 1, 2, 3, 4, 5, 6] rfl (sX1_search_111 N c36 g36 l0 l1 l2 l3 l4 l5 l6)
    · refine os_aload_n (i := 0) (q := 0) (v := l0) 0 rfl rfl (hX1_search.at 31 rfl rfl) ?_
      refine os_getI fX1_32 (hX1_search.at 32 rfl rfl) (fun x2 => ?_)
      refine os_callS (As := [.int x2]) (st := []) (st' := (fun r => .int r :: [])) mdJ6_bitCount_0f7a4 wd1331 wd1243 (sJ6_bitCount_0f7a4 N x2) rfl rfl (fun _ => rfl) (Nat.le_of_ble_eq_true rfl) (Nat.le_of_ble_eq_true rfl) (Nat.le_of_ble_eq_true rfl) rfl (Nat.le_of_ble_eq_true rfl) rfl (Nat.le_of_ble_eq_true rfl) (hX1_search.at 33 rfl rfl) (fun x3 => ?_)
      refine os_istore (i := 7) (lv' := [(7, .int x3), (0, .ref l0), (1, .int l1), (2, .int l2), (3, .int l3), (4, .int l4), (5, .int l5), (6, .int l6)]) (Nat.le_of_ble_eq_true rfl) rfl (hX1_search.at 34 rfl rfl) ?_
      refine os_aload_n (i := 0) (q := 0) (v := l0) 1 rfl rfl (hX1_search.at 35 rfl rfl) ?_
      refine os_getI fX1_26 (hX1_search.at 36 rfl rfl) (fun x4 => ?_)
      refine os_callS (As := [.int x4]) (st := []) (st' := (fun r => .int r :: [])) mdJ6_bitCount_0f7a4 wd1331 wd1243 (sJ6_bitCount_0f7a4 N x4) rfl rfl (fun _ => rfl) (Nat.le_of_ble_eq_true rfl) (Nat.le_of_ble_eq_true rfl) (Nat.le_of_ble_eq_true rfl) rfl (Nat.le_of_ble_eq_true rfl) rfl (Nat.le_of_ble_eq_true rfl) (hX1_search.at 37 rfl rfl) (fun x5 => ?_)
      refine os_istore (i := 8) (lv' := [(8, .int x5), (7, .int x3), (0, .ref l0), (1, .int l1), (2, .int l2), (3, .int l3), (4, .int l4), (5, .int l5), (6, .int l6)]) (Nat.le_of_ble_eq_true rfl) rfl (hX1_search.at 38 rfl rfl) ?_
      refine os_iload_n (i := 2) (q := 2) (v := l2) 4 rfl rfl (hX1_search.at 39 rfl rfl) ?_
      refine os_if_eq (off := 22) (tgt := 96) rfl (hX1_search.at 40 rfl rfl) ?_ ?_
      · exact osW.sub [2, 3, 4, 7, 8, 1, 0] rfl (sX1_search_96 N c36 g36 l0 l1 l2 l5 l6 x3 x5)
      · refine os_iload (v := x3) 1 rfl (hX1_search.at 41 rfl rfl) ?_
        refine os_iload_n (i := 3) (q := 3) (v := l3) 5 rfl rfl (hX1_search.at 42 rfl rfl) ?_
        refine os_icmp_gt (off := 16) (tgt := 96) rfl (hX1_search.at 43 rfl rfl) ?_ ?_
        · exact osW.sub [2, 3, 4, 7, 8, 1, 0] rfl (sX1_search_96 N c36 g36 l0 l1 l2 l5 l6 x3 x5)
        · refine os_iload (v := x3) 1 rfl (hX1_search.at 44 rfl rfl) ?_
          refine os_iload_n (i := 3) (q := 3) (v := l3) 5 rfl rfl (hX1_search.at 45 rfl rfl) ?_
          refine os_icmp_ne (off := 22) (tgt := 108) rfl (hX1_search.at 46 rfl rfl) ?_ ?_
          · exact osW.sub [2, 3, 4, 5, 6, 7, 8] rfl (sX1_search_108 N c36 g36 l0 l1 l2 l3 l4 l5 l6)
          · refine os_iload (v := x5) 0 rfl (hX1_search.at 47 rfl rfl) ?_
            refine os_iload (v := l4) 6 rfl (hX1_search.at 48 rfl rfl) ?_
            refine os_icmp_lt (off := 15) (tgt := 108) rfl (hX1_search.at 49 rfl rfl) ?_ ?_
            · exact osW.sub [2, 3, 4, 5, 6, 7, 8] rfl (sX1_search_108 N c36 g36 l0 l1 l2 l3 l4 l5 l6)
            · exact osW.sub [2, 3, 4, 7, 8, 1, 0] rfl (sX1_search_96 N c36 g36 l0 l1 l2 l5 l6 x3 x5)
set_option maxRecDepth 100000 in
set_option maxHeartbeats 4000000 in
theorem sX1_search_36 (N : Nat) (l0 : Nat) (l1 : Int32) (l2 : Int32) (l3 : Int32) (l4 : Int32) (l5 : Int32) (l6 : Int32) : osW (osFinM (fun r : Int32 => some (.int r)) 0 0) yX1_search cX1_search 9 (some .int) [] { frames := 5, cells := 0, slots := 0, locals := 110 } 0 0 36 [(0, .ref l0), (1, .int l1), (2, .int l2), (3, .int l3), (4, .int l4), (5, .int l5), (6, .int l6)] [] (qX1_search_36 N (l0, l1, l2, l3, l4, l5, l6)) :=
  osloop_W (lvf := fun p => [(0, .ref p.1), (1, .int p.2.1), (2, .int p.2.2.1), (3, .int p.2.2.2.1), (4, .int p.2.2.2.2.1), (5, .int p.2.2.2.2.2.1), (6, .int p.2.2.2.2.2.2)]) (stf := fun p => []) (fun ih g p => tX1_search_36 N ih (fun l0 l1 l2 l3 l4 l5 l6 => g (l0, l1, l2, l3, l4, l5, l6)) p.1 p.2.1 p.2.2.1 p.2.2.2.1 p.2.2.2.2.1 p.2.2.2.2.2.1 p.2.2.2.2.2.2) N (l0, l1, l2, l3, l4, l5, l6)
set_option maxRecDepth 100000 in
set_option maxHeartbeats 4000000 in
theorem sX1_search (N : Nat) (l0 : Nat) : osMet yX1_search cX1_search 9 (some .int) 5 110 0 0 (fun r : Int32 => some (.int r)) [.ref l0] (qX1_search N l0) := by
  refine osMet.of plX1 (Nat.le_of_ble_eq_true rfl) (osW.rw (lv2 := [(0, .ref l0)]) ?_ rfl rfl rfl)
  unfold qX1_search
  refine os_iconst (i := 0) (v := (0 : Int32)) rfl (hX1_search.at 0 rfl rfl) ?_
  refine os_istore_n (i := 1) (q := 1) rfl (lv' := [(1, .int (0 : Int32)), (0, .ref l0)]) (Nat.le_of_ble_eq_true rfl) rfl (hX1_search.at 1 rfl rfl) ?_
  refine os_iconst (i := 0) (v := (0 : Int32)) rfl (hX1_search.at 2 rfl rfl) ?_
  refine os_istore_n (i := 2) (q := 2) rfl (lv' := [(2, .int (0 : Int32)), (1, .int (0 : Int32)), (0, .ref l0)]) (Nat.le_of_ble_eq_true rfl) rfl (hX1_search.at 3 rfl rfl) ?_
  refine os_iconst (i := 0) (v := (0 : Int32)) rfl (hX1_search.at 4 rfl rfl) ?_
  refine os_istore_n (i := 3) (q := 3) rfl (lv' := [(3, .int (0 : Int32)), (2, .int (0 : Int32)), (1, .int (0 : Int32)), (0, .ref l0)]) (Nat.le_of_ble_eq_true rfl) rfl (hX1_search.at 5 rfl rfl) ?_
  refine os_iconst (i := 0) (v := (0 : Int32)) rfl (hX1_search.at 6 rfl rfl) ?_
  refine os_istore (i := 4) (lv' := [(4, .int (0 : Int32)), (3, .int (0 : Int32)), (2, .int (0 : Int32)), (1, .int (0 : Int32)), (0, .ref l0)]) (Nat.le_of_ble_eq_true rfl) rfl (hX1_search.at 7 rfl rfl) ?_
  refine os_aload_n (i := 0) (q := 0) (v := l0) 4 rfl rfl (hX1_search.at 8 rfl rfl) ?_
  refine os_iconst (i := 0) (v := (0 : Int32)) rfl (hX1_search.at 9 rfl rfl) ?_
  refine os_put fX1_29 rfl rfl (hX1_search.at 10 rfl rfl) ?_
  refine os_iconst (i := 1) (v := (1 : Int32)) rfl (hX1_search.at 11 rfl rfl) ?_
  refine os_aload_n (i := 0) (q := 0) (v := l0) 4 rfl rfl (hX1_search.at 12 rfl rfl) ?_
  refine os_getR fX1_12 (hX1_search.at 13 rfl rfl) (fun x1 => ?_)
  refine os_getI fX1_53 (hX1_search.at 14 rfl rfl) (fun x2 => ?_)
  refine os_callS (As := [.int x2]) (st := [.int (1 : Int32)]) (st' := (fun r => .int r :: [.int (1 : Int32)])) mdJ6_bitCount_0f7a4 wd1331 wd1243 (sJ6_bitCount_0f7a4 N x2) rfl rfl (fun _ => rfl) (Nat.le_of_ble_eq_true rfl) (Nat.le_of_ble_eq_true rfl) (Nat.le_of_ble_eq_true rfl) rfl (Nat.le_of_ble_eq_true rfl) rfl (Nat.le_of_ble_eq_true rfl) (hX1_search.at 15 rfl rfl) (fun x3 => ?_)
  refine os_bipush (i := 12) (v := (12 : Int32)) rfl (hX1_search.at 16 rfl rfl) ?_
  refine os_min wd1332 wd655 wd68 wmin (Nat.le_of_ble_eq_true rfl) (Nat.le_of_ble_eq_true rfl) (Nat.le_of_ble_eq_true rfl) (Nat.le_of_ble_eq_true rfl) (Nat.le_of_ble_eq_true rfl) (hX1_search.at 17 rfl rfl) ?_
  refine os_ishl (hX1_search.at 18 rfl rfl) ?_
  refine os_nameI (fun x4 => ?_)
  refine os_istore (i := 5) (lv' := [(5, .int x4), (4, .int (0 : Int32)), (3, .int (0 : Int32)), (2, .int (0 : Int32)), (1, .int (0 : Int32)), (0, .ref l0)]) (Nat.le_of_ble_eq_true rfl) rfl (hX1_search.at 19 rfl rfl) ?_
  refine os_iconst (i := 0) (v := (0 : Int32)) rfl (hX1_search.at 20 rfl rfl) ?_
  refine os_istore (i := 6) (lv' := [(6, .int (0 : Int32)), (5, .int x4), (4, .int (0 : Int32)), (3, .int (0 : Int32)), (2, .int (0 : Int32)), (1, .int (0 : Int32)), (0, .ref l0)]) (Nat.le_of_ble_eq_true rfl) rfl (hX1_search.at 21 rfl rfl) ?_
  exact osW.sub [6, 5, 4, 3, 2, 1, 0] rfl (sX1_search_36 N l0 (0 : Int32) (0 : Int32) (0 : Int32) (0 : Int32) x4 (0 : Int32))
-- X1_decide
def KX1_decide : List (Nat × Nat × Instr) := [(0, 1, .aload_n 0), (1, 3, .getfield 12), (4, 1, .aload_n 1), (5, 1, .aload_n 2), (6, 3, .invokevirtual 41), (9, 1, .aload_n 0), (10, 1, .iconst 1), (11, 3, .putfield 18), (14, 1, .aload_n 0), (15, 1, .aload_n 0), (16, 3, .invokevirtual 45), (19, 3, .putfield 38), (22, 1, .aload_n 0), (23, 3, .getfield 38), (26, 3, .ifCond .ne 13), (29, 1, .aload_n 0), (30, 1, .iconst 0), (31, 3, .putfield 18), (34, 1, .aload_n 0), (35, 3, .invokevirtual 45), (38, 1, .pop), (39, 1, .aload_n 0), (40, 1, .aload_n 0), (41, 3, .getfield 29), (44, 3, .invokevirtual 49), (47, 1, .return_)]
theorem hX1_decide : osDs cX1_decide KX1_decide := by
  show ∀ q ∈ KX1_decide, decode cX1_decide q.1 = .ok (q.2.2, q.2.1)
  decide +kernel
def qX1_decide_39 (N : Nat) (l0 : Nat) : osM Unit := osbind (osgI [1] 4 l0) fun x1 => osbind (osrecv [1] l0 (qX1_weigh N l0 x1)) fun _ => osret ()
def qX1_decide (N : Nat) (l0 : Nat) (l1 : Nat) (l2 : Nat) : osM Unit := osbind (osgR [1] 0 l0) fun x1 => osbind (osrecv [2] x1 (qX2_prepare N x1 l1 l2)) fun _ => osguard ((1 : Int32) = 0 ∨ (1 : Int32) = 1) (osbind (osput [1] 1 l0 (.int (1 : Int32))) fun _ => osbind (osrecv [1] l0 (qX1_search N l0)) fun x3 => osbind (osput [1] 7 l0 (.int x3)) fun _ => osbind (osgI [1] 7 l0) fun x4 => osite (x4 = 0) (osguard ((0 : Int32) = 0 ∨ (0 : Int32) = 1) (osbind (osput [1] 1 l0 (.int (0 : Int32))) fun _ => osbind (osrecv [1] l0 (qX1_search N l0)) fun x6 => qX1_decide_39 N l0)) (qX1_decide_39 N l0))
set_option maxRecDepth 100000 in
set_option maxHeartbeats 4000000 in
theorem sX1_decide_39 (N : Nat) (l0 : Nat) : osW (osFinM (fun _ : Unit => none) 0 0) yX1_decide cX1_decide 3 none [] { frames := 6, cells := 0, slots := 0, locals := 138 } 0 0 39 [(0, .ref l0)] [] (qX1_decide_39 N l0) := by
  unfold qX1_decide_39
  refine os_aload_n (i := 0) (q := 0) (v := l0) 0 rfl rfl (hX1_decide.at 21 rfl rfl) ?_
  refine os_aload_n (i := 0) (q := 0) (v := l0) 0 rfl rfl (hX1_decide.at 22 rfl rfl) ?_
  refine os_getI fX1_29 (hX1_decide.at 23 rfl rfl) (fun x1 => ?_)
  refine os_callV (cis := [1]) (b := l0) (As := [.int x1]) (st := []) (st' := (fun _ => [])) sl1_X1_weigh_X1_weigh mdX1_weigh wd1333 wd1335 (sX1_weigh N l0 x1) rfl rfl (fun _ => rfl) (Nat.le_of_ble_eq_true rfl) (Nat.le_of_ble_eq_true rfl) (Nat.le_of_ble_eq_true rfl) rfl (Nat.le_of_ble_eq_true rfl) rfl (Nat.le_of_ble_eq_true rfl) (hX1_decide.at 24 rfl rfl) (fun _ => ?_)
  exact os_vret (Nat.le_of_ble_eq_true rfl) (Nat.le_of_ble_eq_true rfl) (hX1_decide.at 25 rfl rfl).1
set_option maxRecDepth 100000 in
set_option maxHeartbeats 4000000 in
theorem sX1_decide (N : Nat) (l0 : Nat) (l1 : Nat) (l2 : Nat) : osMet yX1_decide cX1_decide 3 none 6 138 0 0 (fun _ : Unit => none) [.ref l0, .ref l1, .ref l2] (qX1_decide N l0 l1 l2) := by
  refine osMet.of plX1 (Nat.le_of_ble_eq_true rfl) (osW.rw (lv2 := [(0, .ref l0), (1, .ref l1), (2, .ref l2)]) ?_ rfl rfl rfl)
  unfold qX1_decide
  refine os_aload_n (i := 0) (q := 0) (v := l0) 0 rfl rfl (hX1_decide.at 0 rfl rfl) ?_
  refine os_getR fX1_12 (hX1_decide.at 1 rfl rfl) (fun x1 => ?_)
  refine os_aload_n (i := 1) (q := 1) (v := l1) 1 rfl rfl (hX1_decide.at 2 rfl rfl) ?_
  refine os_aload_n (i := 2) (q := 2) (v := l2) 2 rfl rfl (hX1_decide.at 3 rfl rfl) ?_
  refine os_callV (cis := [2]) (b := x1) (As := [.ref l1, .ref l2]) (st := []) (st' := (fun _ => [])) sl2_X2_prepare_X2_prepare mdX2_prepare wd1294 wd1295 (sX2_prepare N x1 l1 l2) rfl rfl (fun _ => rfl) (Nat.le_of_ble_eq_true rfl) (Nat.le_of_ble_eq_true rfl) (Nat.le_of_ble_eq_true rfl) rfl (Nat.le_of_ble_eq_true rfl) rfl (Nat.le_of_ble_eq_true rfl) (hX1_decide.at 4 rfl rfl) (fun _ => ?_)
  refine os_aload_n (i := 0) (q := 0) (v := l0) 0 rfl rfl (hX1_decide.at 5 rfl rfl) ?_
  refine os_iconst (i := 1) (v := (1 : Int32)) rfl (hX1_decide.at 6 rfl rfl) ?_
  refine os_guard (fun h2 => ?_)
  refine os_put fX1_18 (osz_narrow h2) (osz_fits h2) (hX1_decide.at 7 rfl rfl) ?_
  refine os_aload_n (i := 0) (q := 0) (v := l0) 0 rfl rfl (hX1_decide.at 8 rfl rfl) ?_
  refine os_aload_n (i := 0) (q := 0) (v := l0) 0 rfl rfl (hX1_decide.at 9 rfl rfl) ?_
  refine os_callV (cis := [1]) (b := l0) (As := []) (st := [.ref l0]) (st' := (fun r => .int r :: [.ref l0])) sl1_X1_search_X1_search mdX1_search wd1327 wd1329 (sX1_search N l0 ) rfl rfl (fun _ => rfl) (Nat.le_of_ble_eq_true rfl) (Nat.le_of_ble_eq_true rfl) (Nat.le_of_ble_eq_true rfl) rfl (Nat.le_of_ble_eq_true rfl) rfl (Nat.le_of_ble_eq_true rfl) (hX1_decide.at 10 rfl rfl) (fun x3 => ?_)
  refine os_put fX1_38 rfl rfl (hX1_decide.at 11 rfl rfl) ?_
  refine os_aload_n (i := 0) (q := 0) (v := l0) 0 rfl rfl (hX1_decide.at 12 rfl rfl) ?_
  refine os_getI fX1_38 (hX1_decide.at 13 rfl rfl) (fun x4 => ?_)
  refine os_if_ne (off := 13) (tgt := 39) rfl (hX1_decide.at 14 rfl rfl) ?_ ?_
  · exact osW.sub [0] rfl (sX1_decide_39 N l0)
  · refine os_aload_n (i := 0) (q := 0) (v := l0) 0 rfl rfl (hX1_decide.at 15 rfl rfl) ?_
    refine os_iconst (i := 0) (v := (0 : Int32)) rfl (hX1_decide.at 16 rfl rfl) ?_
    refine os_guard (fun h5 => ?_)
    refine os_put fX1_18 (osz_narrow h5) (osz_fits h5) (hX1_decide.at 17 rfl rfl) ?_
    refine os_aload_n (i := 0) (q := 0) (v := l0) 0 rfl rfl (hX1_decide.at 18 rfl rfl) ?_
    refine os_callV (cis := [1]) (b := l0) (As := []) (st := []) (st' := (fun r => .int r :: [])) sl1_X1_search_X1_search mdX1_search wd1327 wd1329 (sX1_search N l0 ) rfl rfl (fun _ => rfl) (Nat.le_of_ble_eq_true rfl) (Nat.le_of_ble_eq_true rfl) (Nat.le_of_ble_eq_true rfl) rfl (Nat.le_of_ble_eq_true rfl) rfl (Nat.le_of_ble_eq_true rfl) (hX1_decide.at 19 rfl rfl) (fun x6 => ?_)
    refine os_pop rfl (hX1_decide.at 20 rfl rfl) ?_
    exact osW.sub [0] rfl (sX1_decide_39 N l0)
