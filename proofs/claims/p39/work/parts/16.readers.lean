-- X6_init
def KX6_init : List (Nat × Nat × Instr) := [(0, 1, .aload_n 0), (1, 3, .invokespecial 3), (4, 1, .aload_n 0), (5, 1, .iconst 0), (6, 2, .newarray .byte), (8, 3, .putfield 9), (11, 1, .aload_n 0), (12, 1, .iconst 0), (13, 3, .putfield 15), (16, 1, .aload_n 0), (17, 1, .iconst 0), (18, 3, .putfield 19), (21, 1, .aload_n 0), (22, 1, .iconst 0), (23, 3, .putfield 22), (26, 1, .aload_n 0), (27, 1, .iconst 0), (28, 3, .putfield 25), (31, 1, .aload_n 0), (32, 1, .lconst 0), (33, 3, .putfield 28), (36, 1, .aload_n 0), (37, 1, .iconst 0), (38, 3, .putfield 32), (41, 1, .aload_n 0), (42, 1, .iconst 0), (43, 3, .putfield 35), (46, 1, .aload_n 0), (47, 1, .iconst 0), (48, 3, .putfield 38), (51, 1, .aload_n 0), (52, 1, .iconst (-1)), (53, 3, .putfield 41), (56, 1, .return_)]
theorem hX6_init : osDs cX6_init KX6_init := by
  show ∀ q ∈ KX6_init, decode cX6_init q.1 = .ok (q.2.2, q.2.1)
  decide +kernel
def qX6_init (N : Nat) (l0 : Nat) : osM Unit := osbind (osnew (.inl (1, (0, .inl fun _ => 0)))) fun x1 => osbind (osput [3, 6] 0 l0 (.ref x1)) fun _ => osbind (osput [3, 6] 1 l0 (.int (0 : Int32))) fun _ => osbind (osput [3, 6] 2 l0 (.int (0 : Int32))) fun _ => osbind (osput [3, 6] 3 l0 (.int (0 : Int32))) fun _ => osbind (osput [3, 6] 4 l0 (.int (0 : Int32))) fun _ => osbind (osput [3, 6] 5 l0 (.long (0 : Int64))) fun _ => osbind (osput [3, 6] 6 l0 (.int (0 : Int32))) fun _ => osbind (osput [3, 6] 7 l0 (.int (0 : Int32))) fun _ => osbind (osput [3, 6] 8 l0 (.int (0 : Int32))) fun _ => osbind (osput [3, 6] 9 l0 (.int (-1 : Int32))) fun _ => osret ()
set_option maxRecDepth 100000 in
set_option maxHeartbeats 4000000 in
theorem sX6_init (N : Nat) (l0 : Nat) : osMet yX6_init cX6_init 1 none 1 20 1 0 (fun _ : Unit => none) [.ref l0] (qX6_init N l0) := by
  refine osMet.of plX6 (Nat.le_of_ble_eq_true rfl) (osW.rw (lv2 := [(0, .ref l0)]) ?_ rfl rfl rfl)
  unfold qX6_init
  refine os_aload_n (i := 0) (q := 0) (v := l0) 0 rfl rfl (hX6_init.at 0 rfl rfl) ?_
  refine os_objInit wd112 wd88 wd89 (Nat.le_of_ble_eq_true rfl) (Nat.le_of_ble_eq_true rfl) (Nat.le_of_ble_eq_true rfl) (hX6_init.at 1 rfl rfl) ?_
  refine os_aload_n (i := 0) (q := 0) (v := l0) 0 rfl rfl (hX6_init.at 2 rfl rfl) ?_
  refine os_iconst (i := 0) (v := (0 : Int32)) rfl (hX6_init.at 3 rfl rfl) ?_
  refine os_newarray (at9 := .byte) (ty := .byte) (t := 1) (N := 0) rfl rfl rfl wd103 (fun _ => rfl) (by decide) rfl (Nat.le_of_ble_eq_true rfl) (Nat.le_of_ble_eq_true rfl) (Nat.le_of_ble_eq_true rfl) (hX6_init.at 4 rfl rfl) (fun x1 => ?_)
  refine os_put fX6_9 rfl rfl (hX6_init.at 5 rfl rfl) ?_
  refine os_aload_n (i := 0) (q := 0) (v := l0) 0 rfl rfl (hX6_init.at 6 rfl rfl) ?_
  refine os_iconst (i := 0) (v := (0 : Int32)) rfl (hX6_init.at 7 rfl rfl) ?_
  refine os_put fX6_15 rfl rfl (hX6_init.at 8 rfl rfl) ?_
  refine os_aload_n (i := 0) (q := 0) (v := l0) 0 rfl rfl (hX6_init.at 9 rfl rfl) ?_
  refine os_iconst (i := 0) (v := (0 : Int32)) rfl (hX6_init.at 10 rfl rfl) ?_
  refine os_put fX6_19 rfl rfl (hX6_init.at 11 rfl rfl) ?_
  refine os_aload_n (i := 0) (q := 0) (v := l0) 0 rfl rfl (hX6_init.at 12 rfl rfl) ?_
  refine os_iconst (i := 0) (v := (0 : Int32)) rfl (hX6_init.at 13 rfl rfl) ?_
  refine os_put fX6_22 rfl rfl (hX6_init.at 14 rfl rfl) ?_
  refine os_aload_n (i := 0) (q := 0) (v := l0) 0 rfl rfl (hX6_init.at 15 rfl rfl) ?_
  refine os_iconst (i := 0) (v := (0 : Int32)) rfl (hX6_init.at 16 rfl rfl) ?_
  refine os_put fX6_25 rfl rfl (hX6_init.at 17 rfl rfl) ?_
  refine os_aload_n (i := 0) (q := 0) (v := l0) 0 rfl rfl (hX6_init.at 18 rfl rfl) ?_
  refine os_lconst (i := 0) (v := 0) rfl (hX6_init.at 19 rfl rfl) ?_
  refine os_put fX6_28 rfl rfl (hX6_init.at 20 rfl rfl) ?_
  refine os_aload_n (i := 0) (q := 0) (v := l0) 0 rfl rfl (hX6_init.at 21 rfl rfl) ?_
  refine os_iconst (i := 0) (v := (0 : Int32)) rfl (hX6_init.at 22 rfl rfl) ?_
  refine os_put fX6_32 rfl rfl (hX6_init.at 23 rfl rfl) ?_
  refine os_aload_n (i := 0) (q := 0) (v := l0) 0 rfl rfl (hX6_init.at 24 rfl rfl) ?_
  refine os_iconst (i := 0) (v := (0 : Int32)) rfl (hX6_init.at 25 rfl rfl) ?_
  refine os_put fX6_35 rfl rfl (hX6_init.at 26 rfl rfl) ?_
  refine os_aload_n (i := 0) (q := 0) (v := l0) 0 rfl rfl (hX6_init.at 27 rfl rfl) ?_
  refine os_iconst (i := 0) (v := (0 : Int32)) rfl (hX6_init.at 28 rfl rfl) ?_
  refine os_put fX6_38 rfl rfl (hX6_init.at 29 rfl rfl) ?_
  refine os_aload_n (i := 0) (q := 0) (v := l0) 0 rfl rfl (hX6_init.at 30 rfl rfl) ?_
  refine os_iconst (i := (-1)) (v := (-1 : Int32)) rfl (hX6_init.at 31 rfl rfl) ?_
  refine os_put fX6_41 rfl rfl (hX6_init.at 32 rfl rfl) ?_
  exact os_vret (Nat.le_of_ble_eq_true rfl) (Nat.le_of_ble_eq_true rfl) (hX6_init.at 33 rfl rfl).1
-- X6_isAtEnd
def KX6_isAtEnd : List (Nat × Nat × Instr) := [(0, 1, .aload_n 0), (1, 3, .getfield 19), (4, 3, .ifCond .ne 7), (7, 1, .iconst 1), (8, 3, .goto 4), (11, 1, .iconst 0), (12, 1, .ireturn)]
theorem hX6_isAtEnd : osDs cX6_isAtEnd KX6_isAtEnd := by
  show ∀ q ∈ KX6_isAtEnd, decode cX6_isAtEnd q.1 = .ok (q.2.2, q.2.1)
  decide +kernel
def qX6_isAtEnd_12 (N : Nat) (k0 : Int32) : osM Int32 := osretZ k0
def qX6_isAtEnd (N : Nat) (l0 : Nat) : osM Int32 := osbind (osgI [3, 6] 2 l0) fun x1 => osite (x1 = 0) (qX6_isAtEnd_12 N (1 : Int32)) (qX6_isAtEnd_12 N (0 : Int32))
set_option maxRecDepth 100000 in
set_option maxHeartbeats 4000000 in
theorem sX6_isAtEnd_12 (N : Nat) (k0 : Int32) : osW (osFinM (fun r : Int32 => some (.int r)) 0 0) yX6_isAtEnd cX6_isAtEnd 1 (some .boolean) [] { frames := 0, cells := 0, slots := 0, locals := 0 } 0 0 12 [] [.int k0] (qX6_isAtEnd_12 N k0) := by
  unfold qX6_isAtEnd_12
  exact os_zret (Nat.le_of_ble_eq_true rfl) (Nat.le_of_ble_eq_true rfl) (hX6_isAtEnd.at 6 rfl rfl).1
set_option maxRecDepth 100000 in
set_option maxHeartbeats 4000000 in
theorem sX6_isAtEnd (N : Nat) (l0 : Nat) : osMet yX6_isAtEnd cX6_isAtEnd 1 (some .boolean) 0 0 0 0 (fun r : Int32 => some (.int r)) [.ref l0] (qX6_isAtEnd N l0) := by
  refine osMet.of plX6 (Nat.le_of_ble_eq_true rfl) (osW.rw (lv2 := [(0, .ref l0)]) ?_ rfl rfl rfl)
  unfold qX6_isAtEnd
  refine os_aload_n (i := 0) (q := 0) (v := l0) 0 rfl rfl (hX6_isAtEnd.at 0 rfl rfl) ?_
  refine os_getI fX6_19 (hX6_isAtEnd.at 1 rfl rfl) (fun x1 => ?_)
  refine os_if_ne (off := 7) (tgt := 11) rfl (hX6_isAtEnd.at 2 rfl rfl) ?_ ?_
  · refine os_iconst (i := 0) (v := (0 : Int32)) rfl (hX6_isAtEnd.at 5 rfl rfl) ?_
    exact osW.sub [] rfl (sX6_isAtEnd_12 N (0 : Int32))
  · refine os_iconst (i := 1) (v := (1 : Int32)) rfl (hX6_isAtEnd.at 3 rfl rfl) ?_
    refine os_goto (off := 4) (tgt := 12) rfl (hX6_isAtEnd.at 4 rfl rfl) ?_
    exact osW.sub [] rfl (sX6_isAtEnd_12 N (1 : Int32))
-- X6_isAtWord
def KX6_isAtWord : List (Nat × Nat × Instr) := [(0, 1, .aload_n 0), (1, 3, .getfield 19), (4, 1, .iconst 1), (5, 3, .if_icmp .ne 7), (8, 1, .iconst 1), (9, 3, .goto 4), (12, 1, .iconst 0), (13, 1, .ireturn)]
theorem hX6_isAtWord : osDs cX6_isAtWord KX6_isAtWord := by
  show ∀ q ∈ KX6_isAtWord, decode cX6_isAtWord q.1 = .ok (q.2.2, q.2.1)
  decide +kernel
def qX6_isAtWord_13 (N : Nat) (k0 : Int32) : osM Int32 := osretZ k0
def qX6_isAtWord (N : Nat) (l0 : Nat) : osM Int32 := osbind (osgI [3, 6] 2 l0) fun x1 => osite (x1 = (1 : Int32)) (qX6_isAtWord_13 N (1 : Int32)) (qX6_isAtWord_13 N (0 : Int32))
set_option maxRecDepth 100000 in
set_option maxHeartbeats 4000000 in
theorem sX6_isAtWord_13 (N : Nat) (k0 : Int32) : osW (osFinM (fun r : Int32 => some (.int r)) 0 0) yX6_isAtWord cX6_isAtWord 1 (some .boolean) [] { frames := 0, cells := 0, slots := 0, locals := 0 } 0 0 13 [] [.int k0] (qX6_isAtWord_13 N k0) := by
  unfold qX6_isAtWord_13
  exact os_zret (Nat.le_of_ble_eq_true rfl) (Nat.le_of_ble_eq_true rfl) (hX6_isAtWord.at 7 rfl rfl).1
set_option maxRecDepth 100000 in
set_option maxHeartbeats 4000000 in
theorem sX6_isAtWord (N : Nat) (l0 : Nat) : osMet yX6_isAtWord cX6_isAtWord 1 (some .boolean) 0 0 0 0 (fun r : Int32 => some (.int r)) [.ref l0] (qX6_isAtWord N l0) := by
  refine osMet.of plX6 (Nat.le_of_ble_eq_true rfl) (osW.rw (lv2 := [(0, .ref l0)]) ?_ rfl rfl rfl)
  unfold qX6_isAtWord
  refine os_aload_n (i := 0) (q := 0) (v := l0) 0 rfl rfl (hX6_isAtWord.at 0 rfl rfl) ?_
  refine os_getI fX6_19 (hX6_isAtWord.at 1 rfl rfl) (fun x1 => ?_)
  refine os_iconst (i := 1) (v := (1 : Int32)) rfl (hX6_isAtWord.at 2 rfl rfl) ?_
  refine os_icmp_ne (off := 7) (tgt := 12) rfl (hX6_isAtWord.at 3 rfl rfl) ?_ ?_
  · refine os_iconst (i := 0) (v := (0 : Int32)) rfl (hX6_isAtWord.at 6 rfl rfl) ?_
    exact osW.sub [] rfl (sX6_isAtWord_13 N (0 : Int32))
  · refine os_iconst (i := 1) (v := (1 : Int32)) rfl (hX6_isAtWord.at 4 rfl rfl) ?_
    refine os_goto (off := 4) (tgt := 13) rfl (hX6_isAtWord.at 5 rfl rfl) ?_
    exact osW.sub [] rfl (sX6_isAtWord_13 N (1 : Int32))
-- X6_fail
def KX6_fail : List (Nat × Nat × Instr) := [(0, 1, .aload_n 0), (1, 1, .iload_n 1), (2, 3, .putfield 38), (5, 1, .aload_n 0), (6, 1, .iload_n 2), (7, 3, .putfield 41), (10, 1, .iconst 0), (11, 1, .ireturn)]
theorem hX6_fail : osDs cX6_fail KX6_fail := by
  show ∀ q ∈ KX6_fail, decode cX6_fail q.1 = .ok (q.2.2, q.2.1)
  decide +kernel
def qX6_fail (N : Nat) (l0 : Nat) (l1 : Int32) (l2 : Int32) : osM Int32 := osbind (osput [3, 6] 8 l0 (.int l1)) fun _ => osbind (osput [3, 6] 9 l0 (.int l2)) fun _ => osretZ (0 : Int32)
set_option maxRecDepth 100000 in
set_option maxHeartbeats 4000000 in
theorem sX6_fail (N : Nat) (l0 : Nat) (l1 : Int32) (l2 : Int32) : osMet yX6_fail cX6_fail 3 (some .boolean) 0 0 0 0 (fun r : Int32 => some (.int r)) [.ref l0, .int l1, .int l2] (qX6_fail N l0 l1 l2) := by
  refine osMet.of plX6 (Nat.le_of_ble_eq_true rfl) (osW.rw (lv2 := [(0, .ref l0), (1, .int l1), (2, .int l2)]) ?_ rfl rfl rfl)
  unfold qX6_fail
  refine os_aload_n (i := 0) (q := 0) (v := l0) 0 rfl rfl (hX6_fail.at 0 rfl rfl) ?_
  refine os_iload_n (i := 1) (q := 1) (v := l1) 1 rfl rfl (hX6_fail.at 1 rfl rfl) ?_
  refine os_put fX6_38 rfl rfl (hX6_fail.at 2 rfl rfl) ?_
  refine os_aload_n (i := 0) (q := 0) (v := l0) 0 rfl rfl (hX6_fail.at 3 rfl rfl) ?_
  refine os_iload_n (i := 2) (q := 2) (v := l2) 2 rfl rfl (hX6_fail.at 4 rfl rfl) ?_
  refine os_put fX6_41 rfl rfl (hX6_fail.at 5 rfl rfl) ?_
  refine os_iconst (i := 0) (v := (0 : Int32)) rfl (hX6_fail.at 6 rfl rfl) ?_
  exact os_zret (Nat.le_of_ble_eq_true rfl) (Nat.le_of_ble_eq_true rfl) (hX6_fail.at 7 rfl rfl).1
-- X6_advance
def KX6_advance : List (Nat × Nat × Instr) := [(0, 1, .aload_n 0), (1, 3, .getfield 22), (4, 1, .istore_n 1), (5, 1, .iload_n 1), (6, 1, .aload_n 0), (7, 3, .getfield 15), (10, 3, .if_icmp .ge 31), (13, 1, .aload_n 0), (14, 3, .getfield 9), (17, 1, .iload_n 1), (18, 1, .baload), (19, 2, .bipush 32), (21, 3, .if_icmp .eq 14), (24, 1, .aload_n 0), (25, 3, .getfield 9), (28, 1, .iload_n 1), (29, 1, .baload), (30, 2, .bipush 10), (32, 3, .if_icmp .ne 9), (35, 3, .iinc 1 1), (38, 3, .goto (-33)), (41, 1, .aload_n 0), (42, 1, .iload_n 1), (43, 3, .putfield 32), (46, 1, .aload_n 0), (47, 1, .iconst 0), (48, 3, .putfield 25), (51, 1, .aload_n 0), (52, 1, .lconst 0), (53, 3, .putfield 28), (56, 1, .iload_n 1), (57, 1, .aload_n 0), (58, 3, .getfield 15), (61, 3, .if_icmp .ge 73), (64, 1, .aload_n 0), (65, 3, .getfield 9), (68, 1, .iload_n 1), (69, 1, .baload), (70, 2, .bipush 97), (72, 3, .if_icmp .lt 62), (75, 1, .aload_n 0), (76, 3, .getfield 9), (79, 1, .iload_n 1), (80, 1, .baload), (81, 2, .bipush 122), (83, 3, .if_icmp .gt 51), (86, 1, .aload_n 0), (87, 3, .getfield 25), (90, 2, .bipush 8), (92, 3, .if_icmp .ge 26), (95, 1, .aload_n 0), (96, 1, .aload_n 0), (97, 3, .getfield 28), (100, 1, .iconst 5), (101, 1, .lshl), (102, 1, .aload_n 0), (103, 3, .getfield 9), (106, 1, .iload_n 1), (107, 1, .baload), (108, 2, .bipush 97), (110, 1, .isub), (111, 1, .iconst 1), (112, 1, .iadd), (113, 1, .i2l), (114, 1, .ladd), (115, 3, .putfield 28), (118, 1, .aload_n 0), (119, 1, .dup), (120, 3, .getfield 25), (123, 1, .iconst 1), (124, 1, .iadd), (125, 3, .putfield 25), (128, 3, .iinc 1 1), (131, 3, .goto (-75)), (134, 1, .aload_n 0), (135, 1, .iload_n 1), (136, 3, .putfield 22), (139, 1, .aload_n 0), (140, 3, .getfield 25), (143, 3, .ifCond .le 11), (146, 1, .aload_n 0), (147, 1, .iconst 1), (148, 3, .putfield 19), (151, 3, .goto 46), (154, 1, .iload_n 1), (155, 1, .aload_n 0), (156, 3, .getfield 15), (159, 3, .if_icmp .lt 11), (162, 1, .aload_n 0), (163, 1, .iconst 0), (164, 3, .putfield 19), (167, 3, .goto 30), (170, 1, .aload_n 0), (171, 1, .aload_n 0), (172, 3, .getfield 9), (175, 1, .iload_n 1), (176, 1, .baload), (177, 2, .bipush 59), (179, 3, .if_icmp .ne 7), (182, 1, .iconst 2), (183, 3, .goto 4), (186, 1, .iconst 3), (187, 3, .putfield 19), (190, 1, .aload_n 0), (191, 1, .iload_n 1), (192, 1, .iconst 1), (193, 1, .iadd), (194, 3, .putfield 22), (197, 1, .return_)]
theorem hX6_advance : osDs cX6_advance KX6_advance := by
  show ∀ q ∈ KX6_advance, decode cX6_advance q.1 = .ok (q.2.2, q.2.1)
  decide +kernel
def qX6_advance_197 (N : Nat) : osM Unit := osret ()
def qX6_advance_187 (N : Nat) (l0 : Nat) (l1 : Int32) (k0 : Int32) (k1 : Nat) : osM Unit := osbind (osput [3, 6] 2 k1 (.int k0)) fun _ => osbind (osput [3, 6] 3 l0 (.int (l1 + (1 : Int32)))) fun _ => qX6_advance_197 N 
def qX6_advance_134 (N : Nat) (l0 : Nat) (l1 : Int32) : osM Unit := osbind (osput [3, 6] 3 l0 (.int l1)) fun _ => osbind (osgI [3, 6] 4 l0) fun x1 => osite (x1 ≤ 0) (osbind (osgI [3, 6] 1 l0) fun x2 => osite (l1 < x2) (osbind (osgR [3, 6] 0 l0) fun x3 => osbind (osaI 1 x3 l1) fun x4 => osite (x4 = (59 : Int32)) (qX6_advance_187 N l0 l1 (2 : Int32) l0) (qX6_advance_187 N l0 l1 (3 : Int32) l0)) (osbind (osput [3, 6] 2 l0 (.int (0 : Int32))) fun _ => qX6_advance_197 N )) (osbind (osput [3, 6] 2 l0 (.int (1 : Int32))) fun _ => qX6_advance_197 N )
def qX6_advance_118 (N : Nat) (c56 : Nat × Int32 → osM Unit) (l0 : Nat) (l1 : Int32) : osM Unit := osbind (osgI [3, 6] 4 l0) fun x1 => osbind (osput [3, 6] 4 l0 (.int (x1 + (1 : Int32)))) fun _ => c56 (l0, (l1 + (1 : Int32)))
def bX6_advance_56 (N : Nat) (c56 : Nat × Int32 → osM Unit) (l0 : Nat) (l1 : Int32) : osM Unit := osbind (osgI [3, 6] 1 l0) fun x1 => osite (x1 ≤ l1) (qX6_advance_134 N l0 l1) (osbind (osgR [3, 6] 0 l0) fun x2 => osbind (osaI 1 x2 l1) fun x3 => osite (x3 < (97 : Int32)) (qX6_advance_134 N l0 l1) (osbind (osgR [3, 6] 0 l0) fun x4 => osbind (osaI 1 x4 l1) fun x5 => osite ((122 : Int32) < x5) (qX6_advance_134 N l0 l1) (osbind (osgI [3, 6] 4 l0) fun x6 => osite ((8 : Int32) ≤ x6) (qX6_advance_118 N c56 l0 l1) (osbind (osgJ [3, 6] 5 l0) fun x7 => osbind (osgR [3, 6] 0 l0) fun x8 => osbind (osaI 1 x8 l1) fun x9 => osbind (osput [3, 6] 5 l0 (.long ((oslshl x7 (5 : Int32)) + (((x9 - (97 : Int32)) + (1 : Int32)).toInt64)))) fun _ => qX6_advance_118 N c56 l0 l1))))
def qX6_advance_56 (N : Nat) : Nat × Int32 → osM Unit := osloop (fun ih p => bX6_advance_56 N ih p.1 p.2) N
def qX6_advance_41 (N : Nat) (l0 : Nat) (l1 : Int32) : osM Unit := osbind (osput [3, 6] 6 l0 (.int l1)) fun _ => osbind (osput [3, 6] 4 l0 (.int (0 : Int32))) fun _ => osbind (osput [3, 6] 5 l0 (.long (0 : Int64))) fun _ => qX6_advance_56 N (l0, l1)
def qX6_advance_35 (N : Nat) (c5 : Nat × Int32 → osM Unit) (l0 : Nat) (l1 : Int32) : osM Unit := c5 (l0, (l1 + (1 : Int32)))
def bX6_advance_5 (N : Nat) (c5 : Nat × Int32 → osM Unit) (l0 : Nat) (l1 : Int32) : osM Unit := osbind (osgI [3, 6] 1 l0) fun x1 => osite (x1 ≤ l1) (qX6_advance_41 N l0 l1) (osbind (osgR [3, 6] 0 l0) fun x2 => osbind (osaI 1 x2 l1) fun x3 => osite (x3 = (32 : Int32)) (qX6_advance_35 N c5 l0 l1) (osbind (osgR [3, 6] 0 l0) fun x4 => osbind (osaI 1 x4 l1) fun x5 => osite (x5 = (10 : Int32)) (qX6_advance_35 N c5 l0 l1) (qX6_advance_41 N l0 l1)))
def qX6_advance_5 (N : Nat) : Nat × Int32 → osM Unit := osloop (fun ih p => bX6_advance_5 N ih p.1 p.2) N
def qX6_advance (N : Nat) (l0 : Nat) : osM Unit := osbind (osgI [3, 6] 3 l0) fun x1 => qX6_advance_5 N (l0, x1)
set_option maxRecDepth 100000 in
set_option maxHeartbeats 4000000 in
theorem sX6_advance_197 (N : Nat) : osW (osFinM (fun _ : Unit => none) 0 0) yX6_advance cX6_advance 2 none [] { frames := 0, cells := 0, slots := 0, locals := 0 } 0 0 197 [] [] (qX6_advance_197 N) := by
  unfold qX6_advance_197
  exact os_vret (Nat.le_of_ble_eq_true rfl) (Nat.le_of_ble_eq_true rfl) (hX6_advance.at 108 rfl rfl).1
set_option maxRecDepth 100000 in
set_option maxHeartbeats 4000000 in
theorem sX6_advance_187 (N : Nat) (l0 : Nat) (l1 : Int32) (k0 : Int32) (k1 : Nat) : osW (osFinM (fun _ : Unit => none) 0 0) yX6_advance cX6_advance 2 none [] { frames := 0, cells := 0, slots := 0, locals := 0 } 0 0 187 [(0, .ref l0), (1, .int l1)] [.int k0, .ref k1] (qX6_advance_187 N l0 l1 k0 k1) := by
  unfold qX6_advance_187
  refine os_put fX6_19 rfl rfl (hX6_advance.at 102 rfl rfl) ?_
  refine os_aload_n (i := 0) (q := 0) (v := l0) 0 rfl rfl (hX6_advance.at 103 rfl rfl) ?_
  refine os_iload_n (i := 1) (q := 1) (v := l1) 1 rfl rfl (hX6_advance.at 104 rfl rfl) ?_
  refine os_iconst (i := 1) (v := (1 : Int32)) rfl (hX6_advance.at 105 rfl rfl) ?_
  refine os_iadd (hX6_advance.at 106 rfl rfl) ?_
  refine os_put fX6_22 rfl rfl (hX6_advance.at 107 rfl rfl) ?_
  exact osW.sub [] rfl (sX6_advance_197 N )
set_option maxRecDepth 100000 in
set_option maxHeartbeats 4000000 in
theorem sX6_advance_134 (N : Nat) (l0 : Nat) (l1 : Int32) : osW (osFinM (fun _ : Unit => none) 0 0) yX6_advance cX6_advance 2 none [] { frames := 0, cells := 0, slots := 0, locals := 0 } 0 0 134 [(0, .ref l0), (1, .int l1)] [] (qX6_advance_134 N l0 l1) := by
  unfold qX6_advance_134
  refine os_aload_n (i := 0) (q := 0) (v := l0) 0 rfl rfl (hX6_advance.at 74 rfl rfl) ?_
  refine os_iload_n (i := 1) (q := 1) (v := l1) 1 rfl rfl (hX6_advance.at 75 rfl rfl) ?_
  refine os_put fX6_22 rfl rfl (hX6_advance.at 76 rfl rfl) ?_
  refine os_aload_n (i := 0) (q := 0) (v := l0) 0 rfl rfl (hX6_advance.at 77 rfl rfl) ?_
  refine os_getI fX6_25 (hX6_advance.at 78 rfl rfl) (fun x1 => ?_)
  refine os_if_le (off := 11) (tgt := 154) rfl (hX6_advance.at 79 rfl rfl) ?_ ?_
  · refine os_iload_n (i := 1) (q := 1) (v := l1) 1 rfl rfl (hX6_advance.at 84 rfl rfl) ?_
    refine os_aload_n (i := 0) (q := 0) (v := l0) 0 rfl rfl (hX6_advance.at 85 rfl rfl) ?_
    refine os_getI fX6_15 (hX6_advance.at 86 rfl rfl) (fun x2 => ?_)
    refine os_icmp_lt (off := 11) (tgt := 170) rfl (hX6_advance.at 87 rfl rfl) ?_ ?_
    · refine os_aload_n (i := 0) (q := 0) (v := l0) 0 rfl rfl (hX6_advance.at 92 rfl rfl) ?_
      refine os_aload_n (i := 0) (q := 0) (v := l0) 0 rfl rfl (hX6_advance.at 93 rfl rfl) ?_
      refine os_getR fX6_9 (hX6_advance.at 94 rfl rfl) (fun x3 => ?_)
      refine os_iload_n (i := 1) (q := 1) (v := l1) 1 rfl rfl (hX6_advance.at 95 rfl rfl) ?_
      refine os_baload (hX6_advance.at 96 rfl rfl) (fun x4 => ?_)
      refine os_bipush (i := 59) (v := (59 : Int32)) rfl (hX6_advance.at 97 rfl rfl) ?_
      refine os_icmp_ne (off := 7) (tgt := 186) rfl (hX6_advance.at 98 rfl rfl) ?_ ?_
      · refine os_iconst (i := 3) (v := (3 : Int32)) rfl (hX6_advance.at 101 rfl rfl) ?_
        exact osW.sub [0, 1] rfl (sX6_advance_187 N l0 l1 (3 : Int32) l0)
      · refine os_iconst (i := 2) (v := (2 : Int32)) rfl (hX6_advance.at 99 rfl rfl) ?_
        refine os_goto (off := 4) (tgt := 187) rfl (hX6_advance.at 100 rfl rfl) ?_
        exact osW.sub [0, 1] rfl (sX6_advance_187 N l0 l1 (2 : Int32) l0)
    · refine os_aload_n (i := 0) (q := 0) (v := l0) 0 rfl rfl (hX6_advance.at 88 rfl rfl) ?_
      refine os_iconst (i := 0) (v := (0 : Int32)) rfl (hX6_advance.at 89 rfl rfl) ?_
      refine os_put fX6_19 rfl rfl (hX6_advance.at 90 rfl rfl) ?_
      refine os_goto (off := 30) (tgt := 197) rfl (hX6_advance.at 91 rfl rfl) ?_
      exact osW.sub [] rfl (sX6_advance_197 N )
  · refine os_aload_n (i := 0) (q := 0) (v := l0) 0 rfl rfl (hX6_advance.at 80 rfl rfl) ?_
    refine os_iconst (i := 1) (v := (1 : Int32)) rfl (hX6_advance.at 81 rfl rfl) ?_
    refine os_put fX6_19 rfl rfl (hX6_advance.at 82 rfl rfl) ?_
    refine os_goto (off := 46) (tgt := 197) rfl (hX6_advance.at 83 rfl rfl) ?_
    exact osW.sub [] rfl (sX6_advance_197 N )
set_option maxRecDepth 100000 in
set_option maxHeartbeats 4000000 in
theorem sX6_advance_118 (N : Nat) (c56 : Nat × Int32 → osM Unit) (g56 : ∀ (l0 : Nat) (l1 : Int32), osW (osFinM (fun _ : Unit => none) 0 0) yX6_advance cX6_advance 2 none [] { frames := 0, cells := 0, slots := 0, locals := 0 } 0 0 56 [(0, .ref l0), (1, .int l1)] [] (c56 (l0, l1))) (l0 : Nat) (l1 : Int32) : osW (osFinM (fun _ : Unit => none) 0 0) yX6_advance cX6_advance 2 none [] { frames := 0, cells := 0, slots := 0, locals := 0 } 0 0 118 [(0, .ref l0), (1, .int l1)] [] (qX6_advance_118 N c56 l0 l1) := by
  unfold qX6_advance_118
  refine os_aload_n (i := 0) (q := 0) (v := l0) 0 rfl rfl (hX6_advance.at 66 rfl rfl) ?_
  refine os_dup rfl (hX6_advance.at 67 rfl rfl) ?_
  refine os_getI fX6_25 (hX6_advance.at 68 rfl rfl) (fun x1 => ?_)
  refine os_iconst (i := 1) (v := (1 : Int32)) rfl (hX6_advance.at 69 rfl rfl) ?_
  refine os_iadd (hX6_advance.at 70 rfl rfl) ?_
  refine os_put fX6_25 rfl rfl (hX6_advance.at 71 rfl rfl) ?_
  refine os_iinc (i := 1) (d := 1) (x := l1) (v := (1 : Int32)) (lv' := [(1, .int (l1 + (1 : Int32))), (0, .ref l0)]) 1 rfl rfl (Nat.le_of_ble_eq_true rfl) rfl (hX6_advance.at 72 rfl rfl) ?_
  refine os_goto (off := (-75)) (tgt := 56) rfl (hX6_advance.at 73 rfl rfl) ?_
  exact osW.sub [1, 0] rfl (g56 l0 (l1 + (1 : Int32)))
set_option maxRecDepth 100000 in
set_option maxHeartbeats 4000000 in
theorem tX6_advance_56 (N : Nat) (c56 : Nat × Int32 → osM Unit) (g56 : ∀ (l0 : Nat) (l1 : Int32), osW (osFinM (fun _ : Unit => none) 0 0) yX6_advance cX6_advance 2 none [] { frames := 0, cells := 0, slots := 0, locals := 0 } 0 0 56 [(0, .ref l0), (1, .int l1)] [] (c56 (l0, l1))) (l0 : Nat) (l1 : Int32) : osW (osFinM (fun _ : Unit => none) 0 0) yX6_advance cX6_advance 2 none [] { frames := 0, cells := 0, slots := 0, locals := 0 } 0 0 56 [(0, .ref l0), (1, .int l1)] [] (bX6_advance_56 N c56 l0 l1) := by
  unfold bX6_advance_56
  refine os_iload_n (i := 1) (q := 1) (v := l1) 1 rfl rfl (hX6_advance.at 30 rfl rfl) ?_
  refine os_aload_n (i := 0) (q := 0) (v := l0) 0 rfl rfl (hX6_advance.at 31 rfl rfl) ?_
  refine os_getI fX6_15 (hX6_advance.at 32 rfl rfl) (fun x1 => ?_)
  refine os_icmp_ge (off := 73) (tgt := 134) rfl (hX6_advance.at 33 rfl rfl) ?_ ?_
  · exact osW.sub [0, 1] rfl (sX6_advance_134 N l0 l1)
  · refine os_aload_n (i := 0) (q := 0) (v := l0) 0 rfl rfl (hX6_advance.at 34 rfl rfl) ?_
    refine os_getR fX6_9 (hX6_advance.at 35 rfl rfl) (fun x2 => ?_)
    refine os_iload_n (i := 1) (q := 1) (v := l1) 1 rfl rfl (hX6_advance.at 36 rfl rfl) ?_
    refine os_baload (hX6_advance.at 37 rfl rfl) (fun x3 => ?_)
    refine os_bipush (i := 97) (v := (97 : Int32)) rfl (hX6_advance.at 38 rfl rfl) ?_
    refine os_icmp_lt (off := 62) (tgt := 134) rfl (hX6_advance.at 39 rfl rfl) ?_ ?_
    · exact osW.sub [0, 1] rfl (sX6_advance_134 N l0 l1)
    · refine os_aload_n (i := 0) (q := 0) (v := l0) 0 rfl rfl (hX6_advance.at 40 rfl rfl) ?_
      refine os_getR fX6_9 (hX6_advance.at 41 rfl rfl) (fun x4 => ?_)
      refine os_iload_n (i := 1) (q := 1) (v := l1) 1 rfl rfl (hX6_advance.at 42 rfl rfl) ?_
      refine os_baload (hX6_advance.at 43 rfl rfl) (fun x5 => ?_)
      refine os_bipush (i := 122) (v := (122 : Int32)) rfl (hX6_advance.at 44 rfl rfl) ?_
      refine os_icmp_gt (off := 51) (tgt := 134) rfl (hX6_advance.at 45 rfl rfl) ?_ ?_
      · exact osW.sub [0, 1] rfl (sX6_advance_134 N l0 l1)
      · refine os_aload_n (i := 0) (q := 0) (v := l0) 0 rfl rfl (hX6_advance.at 46 rfl rfl) ?_
        refine os_getI fX6_25 (hX6_advance.at 47 rfl rfl) (fun x6 => ?_)
        refine os_bipush (i := 8) (v := (8 : Int32)) rfl (hX6_advance.at 48 rfl rfl) ?_
        refine os_icmp_ge (off := 26) (tgt := 118) rfl (hX6_advance.at 49 rfl rfl) ?_ ?_
        · exact osW.sub [0, 1] rfl (sX6_advance_118 N c56 g56 l0 l1)
        · refine os_aload_n (i := 0) (q := 0) (v := l0) 0 rfl rfl (hX6_advance.at 50 rfl rfl) ?_
          refine os_aload_n (i := 0) (q := 0) (v := l0) 0 rfl rfl (hX6_advance.at 51 rfl rfl) ?_
          refine os_getJ fX6_28 (hX6_advance.at 52 rfl rfl) (fun x7 => ?_)
          refine os_iconst (i := 5) (v := (5 : Int32)) rfl (hX6_advance.at 53 rfl rfl) ?_
          refine os_lshl (hX6_advance.at 54 rfl rfl) ?_
          refine os_aload_n (i := 0) (q := 0) (v := l0) 0 rfl rfl (hX6_advance.at 55 rfl rfl) ?_
          refine os_getR fX6_9 (hX6_advance.at 56 rfl rfl) (fun x8 => ?_)
          refine os_iload_n (i := 1) (q := 1) (v := l1) 1 rfl rfl (hX6_advance.at 57 rfl rfl) ?_
          refine os_baload (hX6_advance.at 58 rfl rfl) (fun x9 => ?_)
          refine os_bipush (i := 97) (v := (97 : Int32)) rfl (hX6_advance.at 59 rfl rfl) ?_
          refine os_isub (hX6_advance.at 60 rfl rfl) ?_
          refine os_iconst (i := 1) (v := (1 : Int32)) rfl (hX6_advance.at 61 rfl rfl) ?_
          refine os_iadd (hX6_advance.at 62 rfl rfl) ?_
          refine os_i2l (hX6_advance.at 63 rfl rfl) ?_
          refine os_ladd (hX6_advance.at 64 rfl rfl) ?_
          refine os_put fX6_28 rfl rfl (hX6_advance.at 65 rfl rfl) ?_
          exact osW.sub [0, 1] rfl (sX6_advance_118 N c56 g56 l0 l1)
set_option maxRecDepth 100000 in
set_option maxHeartbeats 4000000 in
theorem sX6_advance_56 (N : Nat) (l0 : Nat) (l1 : Int32) : osW (osFinM (fun _ : Unit => none) 0 0) yX6_advance cX6_advance 2 none [] { frames := 0, cells := 0, slots := 0, locals := 0 } 0 0 56 [(0, .ref l0), (1, .int l1)] [] (qX6_advance_56 N (l0, l1)) :=
  osloop_W (lvf := fun p => [(0, .ref p.1), (1, .int p.2)]) (stf := fun p => []) (fun ih g p => tX6_advance_56 N ih (fun l0 l1 => g (l0, l1)) p.1 p.2) N (l0, l1)
set_option maxRecDepth 100000 in
set_option maxHeartbeats 4000000 in
theorem sX6_advance_41 (N : Nat) (l0 : Nat) (l1 : Int32) : osW (osFinM (fun _ : Unit => none) 0 0) yX6_advance cX6_advance 2 none [] { frames := 0, cells := 0, slots := 0, locals := 0 } 0 0 41 [(0, .ref l0), (1, .int l1)] [] (qX6_advance_41 N l0 l1) := by
  unfold qX6_advance_41
  refine os_aload_n (i := 0) (q := 0) (v := l0) 0 rfl rfl (hX6_advance.at 21 rfl rfl) ?_
  refine os_iload_n (i := 1) (q := 1) (v := l1) 1 rfl rfl (hX6_advance.at 22 rfl rfl) ?_
  refine os_put fX6_32 rfl rfl (hX6_advance.at 23 rfl rfl) ?_
  refine os_aload_n (i := 0) (q := 0) (v := l0) 0 rfl rfl (hX6_advance.at 24 rfl rfl) ?_
  refine os_iconst (i := 0) (v := (0 : Int32)) rfl (hX6_advance.at 25 rfl rfl) ?_
  refine os_put fX6_25 rfl rfl (hX6_advance.at 26 rfl rfl) ?_
  refine os_aload_n (i := 0) (q := 0) (v := l0) 0 rfl rfl (hX6_advance.at 27 rfl rfl) ?_
  refine os_lconst (i := 0) (v := 0) rfl (hX6_advance.at 28 rfl rfl) ?_
  refine os_put fX6_28 rfl rfl (hX6_advance.at 29 rfl rfl) ?_
  exact osW.sub [0, 1] rfl (sX6_advance_56 N l0 l1)
set_option maxRecDepth 100000 in
set_option maxHeartbeats 4000000 in
theorem sX6_advance_35 (N : Nat) (c5 : Nat × Int32 → osM Unit) (g5 : ∀ (l0 : Nat) (l1 : Int32), osW (osFinM (fun _ : Unit => none) 0 0) yX6_advance cX6_advance 2 none [] { frames := 0, cells := 0, slots := 0, locals := 0 } 0 0 5 [(0, .ref l0), (1, .int l1)] [] (c5 (l0, l1))) (l0 : Nat) (l1 : Int32) : osW (osFinM (fun _ : Unit => none) 0 0) yX6_advance cX6_advance 2 none [] { frames := 0, cells := 0, slots := 0, locals := 0 } 0 0 35 [(0, .ref l0), (1, .int l1)] [] (qX6_advance_35 N c5 l0 l1) := by
  unfold qX6_advance_35
  refine os_iinc (i := 1) (d := 1) (x := l1) (v := (1 : Int32)) (lv' := [(1, .int (l1 + (1 : Int32))), (0, .ref l0)]) 1 rfl rfl (Nat.le_of_ble_eq_true rfl) rfl (hX6_advance.at 19 rfl rfl) ?_
  refine os_goto (off := (-33)) (tgt := 5) rfl (hX6_advance.at 20 rfl rfl) ?_
  exact osW.sub [1, 0] rfl (g5 l0 (l1 + (1 : Int32)))
set_option maxRecDepth 100000 in
set_option maxHeartbeats 4000000 in
theorem tX6_advance_5 (N : Nat) (c5 : Nat × Int32 → osM Unit) (g5 : ∀ (l0 : Nat) (l1 : Int32), osW (osFinM (fun _ : Unit => none) 0 0) yX6_advance cX6_advance 2 none [] { frames := 0, cells := 0, slots := 0, locals := 0 } 0 0 5 [(0, .ref l0), (1, .int l1)] [] (c5 (l0, l1))) (l0 : Nat) (l1 : Int32) : osW (osFinM (fun _ : Unit => none) 0 0) yX6_advance cX6_advance 2 none [] { frames := 0, cells := 0, slots := 0, locals := 0 } 0 0 5 [(0, .ref l0), (1, .int l1)] [] (bX6_advance_5 N c5 l0 l1) := by
  unfold bX6_advance_5
  refine os_iload_n (i := 1) (q := 1) (v := l1) 1 rfl rfl (hX6_advance.at 3 rfl rfl) ?_
  refine os_aload_n (i := 0) (q := 0) (v := l0) 0 rfl rfl (hX6_advance.at 4 rfl rfl) ?_
  refine os_getI fX6_15 (hX6_advance.at 5 rfl rfl) (fun x1 => ?_)
  refine os_icmp_ge (off := 31) (tgt := 41) rfl (hX6_advance.at 6 rfl rfl) ?_ ?_
  · exact osW.sub [0, 1] rfl (sX6_advance_41 N l0 l1)
  · refine os_aload_n (i := 0) (q := 0) (v := l0) 0 rfl rfl (hX6_advance.at 7 rfl rfl) ?_
    refine os_getR fX6_9 (hX6_advance.at 8 rfl rfl) (fun x2 => ?_)
    refine os_iload_n (i := 1) (q := 1) (v := l1) 1 rfl rfl (hX6_advance.at 9 rfl rfl) ?_
    refine os_baload (hX6_advance.at 10 rfl rfl) (fun x3 => ?_)
    refine os_bipush (i := 32) (v := (32 : Int32)) rfl (hX6_advance.at 11 rfl rfl) ?_
    refine os_icmp_eq (off := 14) (tgt := 35) rfl (hX6_advance.at 12 rfl rfl) ?_ ?_
    · exact osW.sub [0, 1] rfl (sX6_advance_35 N c5 g5 l0 l1)
    · refine os_aload_n (i := 0) (q := 0) (v := l0) 0 rfl rfl (hX6_advance.at 13 rfl rfl) ?_
      refine os_getR fX6_9 (hX6_advance.at 14 rfl rfl) (fun x4 => ?_)
      refine os_iload_n (i := 1) (q := 1) (v := l1) 1 rfl rfl (hX6_advance.at 15 rfl rfl) ?_
      refine os_baload (hX6_advance.at 16 rfl rfl) (fun x5 => ?_)
      refine os_bipush (i := 10) (v := (10 : Int32)) rfl (hX6_advance.at 17 rfl rfl) ?_
      refine os_icmp_ne (off := 9) (tgt := 41) rfl (hX6_advance.at 18 rfl rfl) ?_ ?_
      · exact osW.sub [0, 1] rfl (sX6_advance_41 N l0 l1)
      · exact osW.sub [0, 1] rfl (sX6_advance_35 N c5 g5 l0 l1)
set_option maxRecDepth 100000 in
set_option maxHeartbeats 4000000 in
theorem sX6_advance_5 (N : Nat) (l0 : Nat) (l1 : Int32) : osW (osFinM (fun _ : Unit => none) 0 0) yX6_advance cX6_advance 2 none [] { frames := 0, cells := 0, slots := 0, locals := 0 } 0 0 5 [(0, .ref l0), (1, .int l1)] [] (qX6_advance_5 N (l0, l1)) :=
  osloop_W (lvf := fun p => [(0, .ref p.1), (1, .int p.2)]) (stf := fun p => []) (fun ih g p => tX6_advance_5 N ih (fun l0 l1 => g (l0, l1)) p.1 p.2) N (l0, l1)
set_option maxRecDepth 100000 in
set_option maxHeartbeats 4000000 in
theorem sX6_advance (N : Nat) (l0 : Nat) : osMet yX6_advance cX6_advance 2 none 0 0 0 0 (fun _ : Unit => none) [.ref l0] (qX6_advance N l0) := by
  refine osMet.of plX6 (Nat.le_of_ble_eq_true rfl) (osW.rw (lv2 := [(0, .ref l0)]) ?_ rfl rfl rfl)
  unfold qX6_advance
  refine os_aload_n (i := 0) (q := 0) (v := l0) 0 rfl rfl (hX6_advance.at 0 rfl rfl) ?_
  refine os_getI fX6_22 (hX6_advance.at 1 rfl rfl) (fun x1 => ?_)
  refine os_istore_n (i := 1) (q := 1) rfl (lv' := [(1, .int x1), (0, .ref l0)]) (Nat.le_of_ble_eq_true rfl) rfl (hX6_advance.at 2 rfl rfl) ?_
  exact osW.sub [1, 0] rfl (sX6_advance_5 N l0 x1)
-- X7_init
def KX7_init : List (Nat × Nat × Instr) := [(0, 1, .aload_n 0), (1, 3, .invokespecial 3), (4, 1, .return_)]
theorem hX7_init : osDs cX7_init KX7_init := by
  show ∀ q ∈ KX7_init, decode cX7_init q.1 = .ok (q.2.2, q.2.1)
  decide +kernel
def qX7_init (N : Nat) (l0 : Nat) : osM Unit := osbind (qX6_init N l0) fun _ => osret ()
set_option maxRecDepth 100000 in
set_option maxHeartbeats 4000000 in
theorem sX7_init (N : Nat) (l0 : Nat) : osMet yX7_init cX7_init 1 none 2 40 1 0 (fun _ : Unit => none) [.ref l0] (qX7_init N l0) := by
  refine osMet.of plX7 (Nat.le_of_ble_eq_true rfl) (osW.rw (lv2 := [(0, .ref l0)]) ?_ rfl rfl rfl)
  unfold qX7_init
  refine os_aload_n (i := 0) (q := 0) (v := l0) 0 rfl rfl (hX7_init.at 0 rfl rfl) ?_
  refine os_callIN (host := "OrderSettler") (b := l0) (As := []) (st := []) (st' := (fun _ => [])) mdX6_init rfl wd159 wd110 (sX6_init N l0 ) rfl rfl (fun _ => rfl) (Nat.le_of_ble_eq_true rfl) (Nat.le_of_ble_eq_true rfl) (Nat.le_of_ble_eq_true rfl) rfl (Nat.le_of_ble_eq_true rfl) rfl (Nat.le_of_ble_eq_true rfl) (hX7_init.at 1 rfl rfl) (fun _ => ?_)
  exact os_vret (Nat.le_of_ble_eq_true rfl) (Nat.le_of_ble_eq_true rfl) (hX7_init.at 2 rfl rfl).1
-- X8_isKeyword
def KX8_isKeyword : List (Nat × Nat × Instr) := [(0, 1, .iconst 0), (1, 1, .istore_n 2), (2, 1, .iload_n 2), (3, 3, .getstatic 88), (6, 1, .arraylength), (7, 3, .if_icmp .ge 24), (10, 3, .getstatic 88), (13, 1, .iload_n 2), (14, 1, .aaload), (15, 3, .getfield 84), (18, 1, .lload_n 0), (19, 1, .lcmp), (20, 3, .ifCond .ne 5), (23, 1, .iconst 1), (24, 1, .ireturn), (25, 3, .iinc 2 1), (28, 3, .goto (-26)), (31, 1, .iconst 0), (32, 1, .ireturn)]
theorem hX8_isKeyword : osDs cX8_isKeyword KX8_isKeyword := by
  show ∀ q ∈ KX8_isKeyword, decode cX8_isKeyword q.1 = .ok (q.2.2, q.2.1)
  decide +kernel
def bX8_isKeyword_2 (N : Nat) (c2 : Int64 × Int32 → osM Int32) (l0 : Int64) (l2 : Int32) : osM Int32 := osbind (osstat 15) fun x1 => osbind (oswlen x1) fun x2 => osite (x2 ≤ l2) (osretZ (0 : Int32)) (osbind (osstat 15) fun x3 => osbind (oswld x3 l2) fun x4 => osbind (oswp x4) fun x5 => osite ((lg_cmp x5 l0) = 0) (osretZ (1 : Int32)) (c2 (l0, (l2 + (1 : Int32)))))
def qX8_isKeyword_2 (N : Nat) : Int64 × Int32 → osM Int32 := osloop (fun ih p => bX8_isKeyword_2 N ih p.1 p.2) N
def qX8_isKeyword (N : Nat) (l0 : Int64) : osM Int32 := qX8_isKeyword_2 N (l0, (0 : Int32))
set_option maxRecDepth 100000 in
set_option maxHeartbeats 4000000 in
theorem tX8_isKeyword_2 (N : Nat) (c2 : Int64 × Int32 → osM Int32) (g2 : ∀ (l0 : Int64) (l2 : Int32), osW (osFinM (fun r : Int32 => some (.int r)) 0 0) yX8_isKeyword cX8_isKeyword 3 (some .boolean) [] { frames := 0, cells := 0, slots := 0, locals := 0 } 0 0 2 [(0, .long l0), (2, .int l2)] [] (c2 (l0, l2))) (l0 : Int64) (l2 : Int32) : osW (osFinM (fun r : Int32 => some (.int r)) 0 0) yX8_isKeyword cX8_isKeyword 3 (some .boolean) [] { frames := 0, cells := 0, slots := 0, locals := 0 } 0 0 2 [(0, .long l0), (2, .int l2)] [] (bX8_isKeyword_2 N c2 l0 l2) := by
  unfold bX8_isKeyword_2
  refine os_iload_n (i := 2) (q := 2) (v := l2) 1 rfl rfl (hX8_isKeyword.at 2 rfl rfl) ?_
  refine os_getstatic (j := 15) wd698 ⟨rfl, Or.inr ⟨rfl, rfl, rfl⟩⟩ (hX8_isKeyword.at 3 rfl rfl) (fun x1 => ?_)
  refine os_wlen (hX8_isKeyword.at 4 rfl rfl) (fun x2 => ?_)
  refine os_icmp_ge (off := 24) (tgt := 31) rfl (hX8_isKeyword.at 5 rfl rfl) ?_ ?_
  · refine os_iconst (i := 0) (v := (0 : Int32)) rfl (hX8_isKeyword.at 17 rfl rfl) ?_
    exact os_zret (Nat.le_of_ble_eq_true rfl) (Nat.le_of_ble_eq_true rfl) (hX8_isKeyword.at 18 rfl rfl).1
  · refine os_getstatic (j := 15) wd698 ⟨rfl, Or.inr ⟨rfl, rfl, rfl⟩⟩ (hX8_isKeyword.at 6 rfl rfl) (fun x3 => ?_)
    refine os_iload_n (i := 2) (q := 2) (v := l2) 1 rfl rfl (hX8_isKeyword.at 7 rfl rfl) ?_
    refine os_wld (hX8_isKeyword.at 8 rfl rfl) (fun x4 => ?_)
    refine os_wordPackedOwn wd1550 (hX8_isKeyword.at 9 rfl rfl) (fun x5 => ?_)
    refine os_lload_n (i := 0) (q := 0) (v := l0) 0 rfl rfl (hX8_isKeyword.at 10 rfl rfl) ?_
    refine os_lcmp (hX8_isKeyword.at 11 rfl rfl) ?_
    refine os_if_ne (off := 5) (tgt := 25) rfl (hX8_isKeyword.at 12 rfl rfl) ?_ ?_
    · refine os_iinc (i := 2) (d := 1) (x := l2) (v := (1 : Int32)) (lv' := [(2, .int (l2 + (1 : Int32))), (0, .long l0)]) 1 rfl rfl (Nat.le_of_ble_eq_true rfl) rfl (hX8_isKeyword.at 15 rfl rfl) ?_
      refine os_goto (off := (-26)) (tgt := 2) rfl (hX8_isKeyword.at 16 rfl rfl) ?_
      exact osW.sub [1, 0] rfl (g2 l0 (l2 + (1 : Int32)))
    · refine os_iconst (i := 1) (v := (1 : Int32)) rfl (hX8_isKeyword.at 13 rfl rfl) ?_
      exact os_zret (Nat.le_of_ble_eq_true rfl) (Nat.le_of_ble_eq_true rfl) (hX8_isKeyword.at 14 rfl rfl).1
set_option maxRecDepth 100000 in
set_option maxHeartbeats 4000000 in
theorem sX8_isKeyword_2 (N : Nat) (l0 : Int64) (l2 : Int32) : osW (osFinM (fun r : Int32 => some (.int r)) 0 0) yX8_isKeyword cX8_isKeyword 3 (some .boolean) [] { frames := 0, cells := 0, slots := 0, locals := 0 } 0 0 2 [(0, .long l0), (2, .int l2)] [] (qX8_isKeyword_2 N (l0, l2)) :=
  osloop_W (lvf := fun p => [(0, .long p.1), (2, .int p.2)]) (stf := fun p => []) (fun ih g p => tX8_isKeyword_2 N ih (fun l0 l2 => g (l0, l2)) p.1 p.2) N (l0, l2)
set_option maxRecDepth 100000 in
set_option maxHeartbeats 4000000 in
theorem sX8_isKeyword (N : Nat) (l0 : Int64) : osMet yX8_isKeyword cX8_isKeyword 3 (some .boolean) 0 0 0 0 (fun r : Int32 => some (.int r)) [.long l0] (qX8_isKeyword N l0) := by
  refine osMet.of plX8 (Nat.le_of_ble_eq_true rfl) (osW.rw (lv2 := [(0, .long l0)]) ?_ rfl rfl rfl)
  unfold qX8_isKeyword
  refine os_iconst (i := 0) (v := (0 : Int32)) rfl (hX8_isKeyword.at 0 rfl rfl) ?_
  refine os_istore_n (i := 2) (q := 2) rfl (lv' := [(2, .int (0 : Int32)), (0, .long l0)]) (Nat.le_of_ble_eq_true rfl) rfl (hX8_isKeyword.at 1 rfl rfl) ?_
  exact osW.sub [1, 0] rfl (sX8_isKeyword_2 N l0 (0 : Int32))
-- X3_init
def KX3_init : List (Nat × Nat × Instr) := [(0, 1, .aload_n 0), (1, 3, .invokespecial 3), (4, 1, .return_)]
theorem hX3_init : osDs cX3_init KX3_init := by
  show ∀ q ∈ KX3_init, decode cX3_init q.1 = .ok (q.2.2, q.2.1)
  decide +kernel
def qX3_init (N : Nat) (l0 : Nat) : osM Unit := osbind (qX6_init N l0) fun _ => osret ()
set_option maxRecDepth 100000 in
set_option maxHeartbeats 4000000 in
theorem sX3_init (N : Nat) (l0 : Nat) : osMet yX3_init cX3_init 1 none 2 40 1 0 (fun _ : Unit => none) [.ref l0] (qX3_init N l0) := by
  refine osMet.of plX3 (Nat.le_of_ble_eq_true rfl) (osW.rw (lv2 := [(0, .ref l0)]) ?_ rfl rfl rfl)
  unfold qX3_init
  refine os_aload_n (i := 0) (q := 0) (v := l0) 0 rfl rfl (hX3_init.at 0 rfl rfl) ?_
  refine os_callIN (host := "OrderSettler") (b := l0) (As := []) (st := []) (st' := (fun _ => [])) mdX6_init rfl wd109 wd110 (sX6_init N l0 ) rfl rfl (fun _ => rfl) (Nat.le_of_ble_eq_true rfl) (Nat.le_of_ble_eq_true rfl) (Nat.le_of_ble_eq_true rfl) rfl (Nat.le_of_ble_eq_true rfl) rfl (Nat.le_of_ble_eq_true rfl) (hX3_init.at 1 rfl rfl) (fun _ => ?_)
  exact os_vret (Nat.le_of_ble_eq_true rfl) (Nat.le_of_ble_eq_true rfl) (hX3_init.at 2 rfl rfl).1
-- X6_begin
def KX6_begin : List (Nat × Nat × Instr) := [(0, 1, .aload_n 0), (1, 1, .aload_n 1), (2, 3, .putfield 9), (5, 1, .aload_n 0), (6, 1, .iload_n 2), (7, 1, .aload_n 1), (8, 1, .arraylength), (9, 3, .invokestatic 44), (12, 3, .putfield 15), (15, 1, .aload_n 0), (16, 1, .iconst 0), (17, 3, .putfield 22), (20, 1, .aload_n 0), (21, 1, .iconst 0), (22, 3, .putfield 38), (25, 1, .aload_n 0), (26, 1, .iconst (-1)), (27, 3, .putfield 41), (30, 1, .aload_n 0), (31, 3, .invokevirtual 50), (34, 1, .return_)]
theorem hX6_begin : osDs cX6_begin KX6_begin := by
  show ∀ q ∈ KX6_begin, decode cX6_begin q.1 = .ok (q.2.2, q.2.1)
  decide +kernel
def qX6_begin (N : Nat) (l0 : Nat) (l1 : Nat) (l2 : Int32) : osM Unit := osbind (osput [3, 6] 0 l0 (.ref l1)) fun _ => osbind (oslen l1) fun x1 => osbind (osput [3, 6] 1 l0 (.int (osmin l2 x1))) fun _ => osbind (osput [3, 6] 3 l0 (.int (0 : Int32))) fun _ => osbind (osput [3, 6] 8 l0 (.int (0 : Int32))) fun _ => osbind (osput [3, 6] 9 l0 (.int (-1 : Int32))) fun _ => osbind (osrecv [3, 6] l0 (qX6_advance N l0)) fun _ => osret ()
set_option maxRecDepth 100000 in
set_option maxHeartbeats 4000000 in
theorem sX6_begin (N : Nat) (l0 : Nat) (l1 : Nat) (l2 : Int32) : osMet yX6_begin cX6_begin 3 none 1 21 0 0 (fun _ : Unit => none) [.ref l0, .ref l1, .int l2] (qX6_begin N l0 l1 l2) := by
  refine osMet.of plX6 (Nat.le_of_ble_eq_true rfl) (osW.rw (lv2 := [(0, .ref l0), (1, .ref l1), (2, .int l2)]) ?_ rfl rfl rfl)
  unfold qX6_begin
  refine os_aload_n (i := 0) (q := 0) (v := l0) 0 rfl rfl (hX6_begin.at 0 rfl rfl) ?_
  refine os_aload_n (i := 1) (q := 1) (v := l1) 1 rfl rfl (hX6_begin.at 1 rfl rfl) ?_
  refine os_put fX6_9 rfl rfl (hX6_begin.at 2 rfl rfl) ?_
  refine os_aload_n (i := 0) (q := 0) (v := l0) 0 rfl rfl (hX6_begin.at 3 rfl rfl) ?_
  refine os_iload_n (i := 2) (q := 2) (v := l2) 2 rfl rfl (hX6_begin.at 4 rfl rfl) ?_
  refine os_aload_n (i := 1) (q := 1) (v := l1) 1 rfl rfl (hX6_begin.at 5 rfl rfl) ?_
  refine os_arraylength (hX6_begin.at 6 rfl rfl) (fun x1 => ?_)
  refine os_min wd654 wd655 wd68 wmin (Nat.le_of_ble_eq_true rfl) (Nat.le_of_ble_eq_true rfl) (Nat.le_of_ble_eq_true rfl) (Nat.le_of_ble_eq_true rfl) (Nat.le_of_ble_eq_true rfl) (hX6_begin.at 7 rfl rfl) ?_
  refine os_put fX6_15 rfl rfl (hX6_begin.at 8 rfl rfl) ?_
  refine os_aload_n (i := 0) (q := 0) (v := l0) 0 rfl rfl (hX6_begin.at 9 rfl rfl) ?_
  refine os_iconst (i := 0) (v := (0 : Int32)) rfl (hX6_begin.at 10 rfl rfl) ?_
  refine os_put fX6_22 rfl rfl (hX6_begin.at 11 rfl rfl) ?_
  refine os_aload_n (i := 0) (q := 0) (v := l0) 0 rfl rfl (hX6_begin.at 12 rfl rfl) ?_
  refine os_iconst (i := 0) (v := (0 : Int32)) rfl (hX6_begin.at 13 rfl rfl) ?_
  refine os_put fX6_38 rfl rfl (hX6_begin.at 14 rfl rfl) ?_
  refine os_aload_n (i := 0) (q := 0) (v := l0) 0 rfl rfl (hX6_begin.at 15 rfl rfl) ?_
  refine os_iconst (i := (-1)) (v := (-1 : Int32)) rfl (hX6_begin.at 16 rfl rfl) ?_
  refine os_put fX6_41 rfl rfl (hX6_begin.at 17 rfl rfl) ?_
  refine os_aload_n (i := 0) (q := 0) (v := l0) 0 rfl rfl (hX6_begin.at 18 rfl rfl) ?_
  refine os_callV (cis := [3, 6]) (b := l0) (As := []) (st := []) (st' := (fun _ => [])) sl3_6_X6_advance_X6_advance mdX6_advance wd657 wd659 (sX6_advance N l0 ) rfl rfl (fun _ => rfl) (Nat.le_of_ble_eq_true rfl) (Nat.le_of_ble_eq_true rfl) (Nat.le_of_ble_eq_true rfl) rfl (Nat.le_of_ble_eq_true rfl) rfl (Nat.le_of_ble_eq_true rfl) (hX6_begin.at 19 rfl rfl) (fun _ => ?_)
  exact os_vret (Nat.le_of_ble_eq_true rfl) (Nat.le_of_ble_eq_true rfl) (hX6_begin.at 20 rfl rfl).1
-- X6_take
def KX6_take : List (Nat × Nat × Instr) := [(0, 1, .aload_n 0), (1, 3, .getfield 19), (4, 1, .iconst 1), (5, 3, .if_icmp .ne 15), (8, 1, .aload_n 0), (9, 3, .getfield 28), (12, 1, .aload_n 1), (13, 3, .getfield 53), (16, 1, .lcmp), (17, 3, .ifCond .eq 5), (20, 1, .iconst 0), (21, 1, .ireturn), (22, 1, .aload_n 0), (23, 3, .invokevirtual 50), (26, 1, .iconst 1), (27, 1, .ireturn)]
theorem hX6_take : osDs cX6_take KX6_take := by
  show ∀ q ∈ KX6_take, decode cX6_take q.1 = .ok (q.2.2, q.2.1)
  decide +kernel
def qX6_take_20 (N : Nat) : osM Int32 := osretZ (0 : Int32)
def qX6_take (N : Nat) (l0 : Nat) (l1 : Nat) : osM Int32 := osbind (osgI [3, 6] 2 l0) fun x1 => osite (x1 = (1 : Int32)) (osbind (osgJ [3, 6] 5 l0) fun x2 => osbind (oswp l1) fun x3 => osite ((lg_cmp x2 x3) = 0) (osbind (osrecv [3, 6] l0 (qX6_advance N l0)) fun _ => osretZ (1 : Int32)) (qX6_take_20 N )) (qX6_take_20 N )
set_option maxRecDepth 100000 in
set_option maxHeartbeats 4000000 in
theorem sX6_take_20 (N : Nat) : osW (osFinM (fun r : Int32 => some (.int r)) 0 0) yX6_take cX6_take 2 (some .boolean) [] { frames := 1, cells := 0, slots := 0, locals := 21 } 0 0 20 [] [] (qX6_take_20 N) := by
  unfold qX6_take_20
  refine os_iconst (i := 0) (v := (0 : Int32)) rfl (hX6_take.at 10 rfl rfl) ?_
  exact os_zret (Nat.le_of_ble_eq_true rfl) (Nat.le_of_ble_eq_true rfl) (hX6_take.at 11 rfl rfl).1
set_option maxRecDepth 100000 in
set_option maxHeartbeats 4000000 in
theorem sX6_take (N : Nat) (l0 : Nat) (l1 : Nat) : osMet yX6_take cX6_take 2 (some .boolean) 1 21 0 0 (fun r : Int32 => some (.int r)) [.ref l0, .ref l1] (qX6_take N l0 l1) := by
  refine osMet.of plX6 (Nat.le_of_ble_eq_true rfl) (osW.rw (lv2 := [(0, .ref l0), (1, .ref l1)]) ?_ rfl rfl rfl)
  unfold qX6_take
  refine os_aload_n (i := 0) (q := 0) (v := l0) 0 rfl rfl (hX6_take.at 0 rfl rfl) ?_
  refine os_getI fX6_19 (hX6_take.at 1 rfl rfl) (fun x1 => ?_)
  refine os_iconst (i := 1) (v := (1 : Int32)) rfl (hX6_take.at 2 rfl rfl) ?_
  refine os_icmp_ne (off := 15) (tgt := 20) rfl (hX6_take.at 3 rfl rfl) ?_ ?_
  · exact osW.sub [] rfl (sX6_take_20 N )
  · refine os_aload_n (i := 0) (q := 0) (v := l0) 0 rfl rfl (hX6_take.at 4 rfl rfl) ?_
    refine os_getJ fX6_28 (hX6_take.at 5 rfl rfl) (fun x2 => ?_)
    refine os_aload_n (i := 1) (q := 1) (v := l1) 1 rfl rfl (hX6_take.at 6 rfl rfl) ?_
    refine os_wordPacked (host := "OrderSettler") wd1549 (hX6_take.at 7 rfl rfl) (fun x3 => ?_)
    refine os_lcmp (hX6_take.at 8 rfl rfl) ?_
    refine os_if_eq (off := 5) (tgt := 22) rfl (hX6_take.at 9 rfl rfl) ?_ ?_
    · refine os_aload_n (i := 0) (q := 0) (v := l0) 0 rfl rfl (hX6_take.at 12 rfl rfl) ?_
      refine os_callV (cis := [3, 6]) (b := l0) (As := []) (st := []) (st' := (fun _ => [])) sl3_6_X6_advance_X6_advance mdX6_advance wd657 wd659 (sX6_advance N l0 ) rfl rfl (fun _ => rfl) (Nat.le_of_ble_eq_true rfl) (Nat.le_of_ble_eq_true rfl) (Nat.le_of_ble_eq_true rfl) rfl (Nat.le_of_ble_eq_true rfl) rfl (Nat.le_of_ble_eq_true rfl) (hX6_take.at 13 rfl rfl) (fun _ => ?_)
      refine os_iconst (i := 1) (v := (1 : Int32)) rfl (hX6_take.at 14 rfl rfl) ?_
      exact os_zret (Nat.le_of_ble_eq_true rfl) (Nat.le_of_ble_eq_true rfl) (hX6_take.at 15 rfl rfl).1
    · exact osW.sub [] rfl (sX6_take_20 N )
-- X6_takeOrFail
def KX6_takeOrFail : List (Nat × Nat × Instr) := [(0, 1, .aload_n 0), (1, 1, .aload_n 1), (2, 3, .invokevirtual 56), (5, 3, .ifCond .ne 15), (8, 1, .aload_n 0), (9, 1, .iconst 1), (10, 1, .aload_n 0), (11, 3, .getfield 32), (14, 3, .invokevirtual 60), (17, 3, .ifCond .eq 7), (20, 1, .iconst 1), (21, 3, .goto 4), (24, 1, .iconst 0), (25, 1, .ireturn)]
theorem hX6_takeOrFail : osDs cX6_takeOrFail KX6_takeOrFail := by
  show ∀ q ∈ KX6_takeOrFail, decode cX6_takeOrFail q.1 = .ok (q.2.2, q.2.1)
  decide +kernel
def qX6_takeOrFail_25 (N : Nat) (k0 : Int32) : osM Int32 := osretZ k0
def qX6_takeOrFail_20 (N : Nat) : osM Int32 := qX6_takeOrFail_25 N (1 : Int32)
def qX6_takeOrFail (N : Nat) (l0 : Nat) (l1 : Nat) : osM Int32 := osbind (osrecv [3, 6] l0 (qX6_take N l0 l1)) fun x1 => osite (x1 = 0) (osbind (osgI [3, 6] 6 l0) fun x2 => osbind (osrecv [3, 6] l0 (qX6_fail N l0 (1 : Int32) x2)) fun x3 => osite (x3 = 0) (qX6_takeOrFail_25 N (0 : Int32)) (qX6_takeOrFail_20 N )) (qX6_takeOrFail_20 N )
set_option maxRecDepth 100000 in
set_option maxHeartbeats 4000000 in
theorem sX6_takeOrFail_25 (N : Nat) (k0 : Int32) : osW (osFinM (fun r : Int32 => some (.int r)) 0 0) yX6_takeOrFail cX6_takeOrFail 2 (some .boolean) [] { frames := 2, cells := 0, slots := 0, locals := 42 } 0 0 25 [] [.int k0] (qX6_takeOrFail_25 N k0) := by
  unfold qX6_takeOrFail_25
  exact os_zret (Nat.le_of_ble_eq_true rfl) (Nat.le_of_ble_eq_true rfl) (hX6_takeOrFail.at 13 rfl rfl).1
set_option maxRecDepth 100000 in
set_option maxHeartbeats 4000000 in
theorem sX6_takeOrFail_20 (N : Nat) : osW (osFinM (fun r : Int32 => some (.int r)) 0 0) yX6_takeOrFail cX6_takeOrFail 2 (some .boolean) [] { frames := 2, cells := 0, slots := 0, locals := 42 } 0 0 20 [] [] (qX6_takeOrFail_20 N) := by
  unfold qX6_takeOrFail_20
  refine os_iconst (i := 1) (v := (1 : Int32)) rfl (hX6_takeOrFail.at 10 rfl rfl) ?_
  refine os_goto (off := 4) (tgt := 25) rfl (hX6_takeOrFail.at 11 rfl rfl) ?_
  exact osW.sub [] rfl (sX6_takeOrFail_25 N (1 : Int32))
set_option maxRecDepth 100000 in
set_option maxHeartbeats 4000000 in
theorem sX6_takeOrFail (N : Nat) (l0 : Nat) (l1 : Nat) : osMet yX6_takeOrFail cX6_takeOrFail 2 (some .boolean) 2 42 0 0 (fun r : Int32 => some (.int r)) [.ref l0, .ref l1] (qX6_takeOrFail N l0 l1) := by
  refine osMet.of plX6 (Nat.le_of_ble_eq_true rfl) (osW.rw (lv2 := [(0, .ref l0), (1, .ref l1)]) ?_ rfl rfl rfl)
  unfold qX6_takeOrFail
  refine os_aload_n (i := 0) (q := 0) (v := l0) 0 rfl rfl (hX6_takeOrFail.at 0 rfl rfl) ?_
  refine os_aload_n (i := 1) (q := 1) (v := l1) 1 rfl rfl (hX6_takeOrFail.at 1 rfl rfl) ?_
  refine os_callV (cis := [3, 6]) (b := l0) (As := [.ref l1]) (st := []) (st' := (fun r => .int r :: [])) sl3_6_X6_take_X6_take mdX6_take wd1188 wd677 (sX6_take N l0 l1) rfl rfl (fun _ => rfl) (Nat.le_of_ble_eq_true rfl) (Nat.le_of_ble_eq_true rfl) (Nat.le_of_ble_eq_true rfl) rfl (Nat.le_of_ble_eq_true rfl) rfl (Nat.le_of_ble_eq_true rfl) (hX6_takeOrFail.at 2 rfl rfl) (fun x1 => ?_)
  refine os_if_ne (off := 15) (tgt := 20) rfl (hX6_takeOrFail.at 3 rfl rfl) ?_ ?_
  · exact osW.sub [] rfl (sX6_takeOrFail_20 N )
  · refine os_aload_n (i := 0) (q := 0) (v := l0) 0 rfl rfl (hX6_takeOrFail.at 4 rfl rfl) ?_
    refine os_iconst (i := 1) (v := (1 : Int32)) rfl (hX6_takeOrFail.at 5 rfl rfl) ?_
    refine os_aload_n (i := 0) (q := 0) (v := l0) 0 rfl rfl (hX6_takeOrFail.at 6 rfl rfl) ?_
    refine os_getI fX6_32 (hX6_takeOrFail.at 7 rfl rfl) (fun x2 => ?_)
    refine os_callV (cis := [3, 6]) (b := l0) (As := [.int (1 : Int32), .int x2]) (st := []) (st' := (fun r => .int r :: [])) sl3_6_X6_fail_X6_fail mdX6_fail wd700 wd687 (sX6_fail N l0 (1 : Int32) x2) rfl rfl (fun _ => rfl) (Nat.le_of_ble_eq_true rfl) (Nat.le_of_ble_eq_true rfl) (Nat.le_of_ble_eq_true rfl) rfl (Nat.le_of_ble_eq_true rfl) rfl (Nat.le_of_ble_eq_true rfl) (hX6_takeOrFail.at 8 rfl rfl) (fun x3 => ?_)
    refine os_if_eq (off := 7) (tgt := 24) rfl (hX6_takeOrFail.at 9 rfl rfl) ?_ ?_
    · refine os_iconst (i := 0) (v := (0 : Int32)) rfl (hX6_takeOrFail.at 12 rfl rfl) ?_
      exact osW.sub [] rfl (sX6_takeOrFail_25 N (0 : Int32))
    · exact osW.sub [] rfl (sX6_takeOrFail_20 N )
-- X6_takeSemicolon
def KX6_takeSemicolon : List (Nat × Nat × Instr) := [(0, 1, .aload_n 0), (1, 3, .getfield 19), (4, 1, .iconst 2), (5, 3, .if_icmp .eq 13), (8, 1, .aload_n 0), (9, 1, .iconst 1), (10, 1, .aload_n 0), (11, 3, .getfield 32), (14, 3, .invokevirtual 60), (17, 1, .ireturn), (18, 1, .aload_n 0), (19, 3, .invokevirtual 50), (22, 1, .iconst 1), (23, 1, .ireturn)]
theorem hX6_takeSemicolon : osDs cX6_takeSemicolon KX6_takeSemicolon := by
  show ∀ q ∈ KX6_takeSemicolon, decode cX6_takeSemicolon q.1 = .ok (q.2.2, q.2.1)
  decide +kernel
def qX6_takeSemicolon (N : Nat) (l0 : Nat) : osM Int32 := osbind (osgI [3, 6] 2 l0) fun x1 => osite (x1 = (2 : Int32)) (osbind (osrecv [3, 6] l0 (qX6_advance N l0)) fun _ => osretZ (1 : Int32)) (osbind (osgI [3, 6] 6 l0) fun x2 => osbind (osrecv [3, 6] l0 (qX6_fail N l0 (1 : Int32) x2)) fun x3 => osretZ x3)
set_option maxRecDepth 100000 in
set_option maxHeartbeats 4000000 in
theorem sX6_takeSemicolon (N : Nat) (l0 : Nat) : osMet yX6_takeSemicolon cX6_takeSemicolon 1 (some .boolean) 1 22 0 0 (fun r : Int32 => some (.int r)) [.ref l0] (qX6_takeSemicolon N l0) := by
  refine osMet.of plX6 (Nat.le_of_ble_eq_true rfl) (osW.rw (lv2 := [(0, .ref l0)]) ?_ rfl rfl rfl)
  unfold qX6_takeSemicolon
  refine os_aload_n (i := 0) (q := 0) (v := l0) 0 rfl rfl (hX6_takeSemicolon.at 0 rfl rfl) ?_
  refine os_getI fX6_19 (hX6_takeSemicolon.at 1 rfl rfl) (fun x1 => ?_)
  refine os_iconst (i := 2) (v := (2 : Int32)) rfl (hX6_takeSemicolon.at 2 rfl rfl) ?_
  refine os_icmp_eq (off := 13) (tgt := 18) rfl (hX6_takeSemicolon.at 3 rfl rfl) ?_ ?_
  · refine os_aload_n (i := 0) (q := 0) (v := l0) 0 rfl rfl (hX6_takeSemicolon.at 10 rfl rfl) ?_
    refine os_callV (cis := [3, 6]) (b := l0) (As := []) (st := []) (st' := (fun _ => [])) sl3_6_X6_advance_X6_advance mdX6_advance wd657 wd659 (sX6_advance N l0 ) rfl rfl (fun _ => rfl) (Nat.le_of_ble_eq_true rfl) (Nat.le_of_ble_eq_true rfl) (Nat.le_of_ble_eq_true rfl) rfl (Nat.le_of_ble_eq_true rfl) rfl (Nat.le_of_ble_eq_true rfl) (hX6_takeSemicolon.at 11 rfl rfl) (fun _ => ?_)
    refine os_iconst (i := 1) (v := (1 : Int32)) rfl (hX6_takeSemicolon.at 12 rfl rfl) ?_
    exact os_zret (Nat.le_of_ble_eq_true rfl) (Nat.le_of_ble_eq_true rfl) (hX6_takeSemicolon.at 13 rfl rfl).1
  · refine os_aload_n (i := 0) (q := 0) (v := l0) 0 rfl rfl (hX6_takeSemicolon.at 4 rfl rfl) ?_
    refine os_iconst (i := 1) (v := (1 : Int32)) rfl (hX6_takeSemicolon.at 5 rfl rfl) ?_
    refine os_aload_n (i := 0) (q := 0) (v := l0) 0 rfl rfl (hX6_takeSemicolon.at 6 rfl rfl) ?_
    refine os_getI fX6_32 (hX6_takeSemicolon.at 7 rfl rfl) (fun x2 => ?_)
    refine os_callV (cis := [3, 6]) (b := l0) (As := [.int (1 : Int32), .int x2]) (st := []) (st' := (fun r => .int r :: [])) sl3_6_X6_fail_X6_fail mdX6_fail wd700 wd687 (sX6_fail N l0 (1 : Int32) x2) rfl rfl (fun _ => rfl) (Nat.le_of_ble_eq_true rfl) (Nat.le_of_ble_eq_true rfl) (Nat.le_of_ble_eq_true rfl) rfl (Nat.le_of_ble_eq_true rfl) rfl (Nat.le_of_ble_eq_true rfl) (hX6_takeSemicolon.at 8 rfl rfl) (fun x3 => ?_)
    exact os_zret (Nat.le_of_ble_eq_true rfl) (Nat.le_of_ble_eq_true rfl) (hX6_takeSemicolon.at 9 rfl rfl).1
-- X6_takeName
def KX6_takeName : List (Nat × Nat × Instr) := [(0, 1, .aload_n 0), (1, 1, .aload_n 0), (2, 3, .getfield 32), (5, 3, .putfield 35), (8, 1, .aload_n 0), (9, 3, .getfield 19), (12, 1, .iconst 1), (13, 3, .if_icmp .ne 21), (16, 1, .aload_n 0), (17, 3, .getfield 25), (20, 1, .iconst 5), (21, 3, .if_icmp .gt 13), (24, 1, .aload_n 0), (25, 3, .getfield 28), (28, 3, .invokestatic 64), (31, 3, .ifCond .eq 15), (34, 1, .aload_n 0), (35, 1, .iconst 1), (36, 1, .aload_n 0), (37, 3, .getfield 32), (40, 3, .invokevirtual 60), (43, 1, .pop), (44, 1, .iconst 0), (45, 1, .ireturn), (46, 1, .aload_n 0), (47, 3, .getfield 28), (50, 1, .l2i), (51, 1, .istore_n 1), (52, 1, .aload_n 0), (53, 3, .invokevirtual 50), (56, 1, .iload_n 1), (57, 1, .ireturn)]
theorem hX6_takeName : osDs cX6_takeName KX6_takeName := by
  show ∀ q ∈ KX6_takeName, decode cX6_takeName q.1 = .ok (q.2.2, q.2.1)
  decide +kernel
def qX6_takeName_34 (N : Nat) (l0 : Nat) : osM Int32 := osbind (osgI [3, 6] 6 l0) fun x1 => osbind (osrecv [3, 6] l0 (qX6_fail N l0 (1 : Int32) x1)) fun x2 => osret (0 : Int32)
def qX6_takeName (N : Nat) (l0 : Nat) : osM Int32 := osbind (osgI [3, 6] 6 l0) fun x1 => osbind (osput [3, 6] 7 l0 (.int x1)) fun _ => osbind (osgI [3, 6] 2 l0) fun x2 => osite (x2 = (1 : Int32)) (osbind (osgI [3, 6] 4 l0) fun x3 => osite ((5 : Int32) < x3) (qX6_takeName_34 N l0) (osbind (osgJ [3, 6] 5 l0) fun x4 => osbind (qX8_isKeyword N x4) fun x5 => osite (x5 = 0) (osbind (osgJ [3, 6] 5 l0) fun x6 => osbind (osrecv [3, 6] l0 (qX6_advance N l0)) fun _ => osret (x6.toInt32)) (qX6_takeName_34 N l0))) (qX6_takeName_34 N l0)
set_option maxRecDepth 100000 in
set_option maxHeartbeats 4000000 in
theorem sX6_takeName_34 (N : Nat) (l0 : Nat) : osW (osFinM (fun r : Int32 => some (.int r)) 0 0) yX6_takeName cX6_takeName 2 (some .int) [] { frames := 1, cells := 0, slots := 0, locals := 22 } 0 0 34 [(0, .ref l0)] [] (qX6_takeName_34 N l0) := by
  unfold qX6_takeName_34
  refine os_aload_n (i := 0) (q := 0) (v := l0) 0 rfl rfl (hX6_takeName.at 16 rfl rfl) ?_
  refine os_iconst (i := 1) (v := (1 : Int32)) rfl (hX6_takeName.at 17 rfl rfl) ?_
  refine os_aload_n (i := 0) (q := 0) (v := l0) 0 rfl rfl (hX6_takeName.at 18 rfl rfl) ?_
  refine os_getI fX6_32 (hX6_takeName.at 19 rfl rfl) (fun x1 => ?_)
  refine os_callV (cis := [3, 6]) (b := l0) (As := [.int (1 : Int32), .int x1]) (st := []) (st' := (fun r => .int r :: [])) sl3_6_X6_fail_X6_fail mdX6_fail wd700 wd687 (sX6_fail N l0 (1 : Int32) x1) rfl rfl (fun _ => rfl) (Nat.le_of_ble_eq_true rfl) (Nat.le_of_ble_eq_true rfl) (Nat.le_of_ble_eq_true rfl) rfl (Nat.le_of_ble_eq_true rfl) rfl (Nat.le_of_ble_eq_true rfl) (hX6_takeName.at 20 rfl rfl) (fun x2 => ?_)
  refine os_pop rfl (hX6_takeName.at 21 rfl rfl) ?_
  refine os_iconst (i := 0) (v := (0 : Int32)) rfl (hX6_takeName.at 22 rfl rfl) ?_
  exact os_iret (Nat.le_of_ble_eq_true rfl) (Nat.le_of_ble_eq_true rfl) (hX6_takeName.at 23 rfl rfl).1
set_option maxRecDepth 100000 in
set_option maxHeartbeats 4000000 in
theorem sX6_takeName (N : Nat) (l0 : Nat) : osMet yX6_takeName cX6_takeName 2 (some .int) 1 22 0 0 (fun r : Int32 => some (.int r)) [.ref l0] (qX6_takeName N l0) := by
  refine osMet.of plX6 (Nat.le_of_ble_eq_true rfl) (osW.rw (lv2 := [(0, .ref l0)]) ?_ rfl rfl rfl)
  unfold qX6_takeName
  refine os_aload_n (i := 0) (q := 0) (v := l0) 0 rfl rfl (hX6_takeName.at 0 rfl rfl) ?_
  refine os_aload_n (i := 0) (q := 0) (v := l0) 0 rfl rfl (hX6_takeName.at 1 rfl rfl) ?_
  refine os_getI fX6_32 (hX6_takeName.at 2 rfl rfl) (fun x1 => ?_)
  refine os_put fX6_35 rfl rfl (hX6_takeName.at 3 rfl rfl) ?_
  refine os_aload_n (i := 0) (q := 0) (v := l0) 0 rfl rfl (hX6_takeName.at 4 rfl rfl) ?_
  refine os_getI fX6_19 (hX6_takeName.at 5 rfl rfl) (fun x2 => ?_)
  refine os_iconst (i := 1) (v := (1 : Int32)) rfl (hX6_takeName.at 6 rfl rfl) ?_
  refine os_icmp_ne (off := 21) (tgt := 34) rfl (hX6_takeName.at 7 rfl rfl) ?_ ?_
  · exact osW.sub [0] rfl (sX6_takeName_34 N l0)
  · refine os_aload_n (i := 0) (q := 0) (v := l0) 0 rfl rfl (hX6_takeName.at 8 rfl rfl) ?_
    refine os_getI fX6_25 (hX6_takeName.at 9 rfl rfl) (fun x3 => ?_)
    refine os_iconst (i := 5) (v := (5 : Int32)) rfl (hX6_takeName.at 10 rfl rfl) ?_
    refine os_icmp_gt (off := 13) (tgt := 34) rfl (hX6_takeName.at 11 rfl rfl) ?_ ?_
    · exact osW.sub [0] rfl (sX6_takeName_34 N l0)
    · refine os_aload_n (i := 0) (q := 0) (v := l0) 0 rfl rfl (hX6_takeName.at 12 rfl rfl) ?_
      refine os_getJ fX6_28 (hX6_takeName.at 13 rfl rfl) (fun x4 => ?_)
      refine os_callS (As := [.long x4]) (st := []) (st' := (fun r => .int r :: [])) mdX8_isKeyword wd695 wd696 (sX8_isKeyword N x4) rfl rfl (fun _ => rfl) (Nat.le_of_ble_eq_true rfl) (Nat.le_of_ble_eq_true rfl) (Nat.le_of_ble_eq_true rfl) rfl (Nat.le_of_ble_eq_true rfl) rfl (Nat.le_of_ble_eq_true rfl) (hX6_takeName.at 14 rfl rfl) (fun x5 => ?_)
      refine os_if_eq (off := 15) (tgt := 46) rfl (hX6_takeName.at 15 rfl rfl) ?_ ?_
      · refine os_aload_n (i := 0) (q := 0) (v := l0) 0 rfl rfl (hX6_takeName.at 24 rfl rfl) ?_
        refine os_getJ fX6_28 (hX6_takeName.at 25 rfl rfl) (fun x6 => ?_)
        refine os_l2i (hX6_takeName.at 26 rfl rfl) ?_
        refine os_istore_n (i := 1) (q := 1) rfl (lv' := [(1, .int (x6.toInt32)), (0, .ref l0)]) (Nat.le_of_ble_eq_true rfl) rfl (hX6_takeName.at 27 rfl rfl) ?_
        refine os_aload_n (i := 0) (q := 0) (v := l0) 1 rfl rfl (hX6_takeName.at 28 rfl rfl) ?_
        refine os_callV (cis := [3, 6]) (b := l0) (As := []) (st := []) (st' := (fun _ => [])) sl3_6_X6_advance_X6_advance mdX6_advance wd657 wd659 (sX6_advance N l0 ) rfl rfl (fun _ => rfl) (Nat.le_of_ble_eq_true rfl) (Nat.le_of_ble_eq_true rfl) (Nat.le_of_ble_eq_true rfl) rfl (Nat.le_of_ble_eq_true rfl) rfl (Nat.le_of_ble_eq_true rfl) (hX6_takeName.at 29 rfl rfl) (fun _ => ?_)
        refine os_iload_n (i := 1) (q := 1) (v := (x6.toInt32)) 0 rfl rfl (hX6_takeName.at 30 rfl rfl) ?_
        exact os_iret (Nat.le_of_ble_eq_true rfl) (Nat.le_of_ble_eq_true rfl) (hX6_takeName.at 31 rfl rfl).1
      · exact osW.sub [0] rfl (sX6_takeName_34 N l0)
-- X6_takeArea
def KX6_takeArea : List (Nat × Nat × Instr) := [(0, 1, .aload_n 0), (1, 3, .invokevirtual 68), (4, 1, .istore_n 2), (5, 1, .iload_n 2), (6, 3, .ifCond .ne 5), (9, 1, .iconst (-1)), (10, 1, .ireturn), (11, 1, .aload_n 1), (12, 1, .iload_n 2), (13, 3, .invokevirtual 72), (16, 1, .istore_n 3), (17, 1, .iload_n 3), (18, 1, .iconst (-1)), (19, 3, .if_icmp .ne 13), (22, 1, .aload_n 0), (23, 1, .iconst 2), (24, 1, .aload_n 0), (25, 3, .getfield 35), (28, 3, .invokevirtual 60), (31, 1, .pop), (32, 1, .iload_n 3), (33, 1, .ireturn)]
theorem hX6_takeArea : osDs cX6_takeArea KX6_takeArea := by
  show ∀ q ∈ KX6_takeArea, decode cX6_takeArea q.1 = .ok (q.2.2, q.2.1)
  decide +kernel
def qX6_takeArea_32 (N : Nat) (l3 : Int32) : osM Int32 := osret l3
def qX6_takeArea (N : Nat) (l0 : Nat) (l1 : Nat) : osM Int32 := osbind (osrecv [3, 6] l0 (qX6_takeName N l0)) fun x1 => osite (x1 = 0) (osret (-1 : Int32)) (osbind (osrecv [0] l1 (qX0_findArea N l1 x1)) fun x2 => osite (x2 = (-1 : Int32)) (osbind (osgI [3, 6] 7 l0) fun x3 => osbind (osrecv [3, 6] l0 (qX6_fail N l0 (2 : Int32) x3)) fun x4 => qX6_takeArea_32 N x2) (qX6_takeArea_32 N x2))
set_option maxRecDepth 100000 in
set_option maxHeartbeats 4000000 in
theorem sX6_takeArea_32 (N : Nat) (l3 : Int32) : osW (osFinM (fun r : Int32 => some (.int r)) 0 0) yX6_takeArea cX6_takeArea 4 (some .int) [] { frames := 2, cells := 0, slots := 0, locals := 43 } 0 0 32 [(3, .int l3)] [] (qX6_takeArea_32 N l3) := by
  unfold qX6_takeArea_32
  refine os_iload_n (i := 3) (q := 3) (v := l3) 0 rfl rfl (hX6_takeArea.at 20 rfl rfl) ?_
  exact os_iret (Nat.le_of_ble_eq_true rfl) (Nat.le_of_ble_eq_true rfl) (hX6_takeArea.at 21 rfl rfl).1
set_option maxRecDepth 100000 in
set_option maxHeartbeats 4000000 in
theorem sX6_takeArea (N : Nat) (l0 : Nat) (l1 : Nat) : osMet yX6_takeArea cX6_takeArea 4 (some .int) 2 43 0 0 (fun r : Int32 => some (.int r)) [.ref l0, .ref l1] (qX6_takeArea N l0 l1) := by
  refine osMet.of plX6 (Nat.le_of_ble_eq_true rfl) (osW.rw (lv2 := [(0, .ref l0), (1, .ref l1)]) ?_ rfl rfl rfl)
  unfold qX6_takeArea
  refine os_aload_n (i := 0) (q := 0) (v := l0) 0 rfl rfl (hX6_takeArea.at 0 rfl rfl) ?_
  refine os_callV (cis := [3, 6]) (b := l0) (As := []) (st := []) (st' := (fun r => .int r :: [])) sl3_6_X6_takeName_X6_takeName mdX6_takeName wd730 wd693 (sX6_takeName N l0 ) rfl rfl (fun _ => rfl) (Nat.le_of_ble_eq_true rfl) (Nat.le_of_ble_eq_true rfl) (Nat.le_of_ble_eq_true rfl) rfl (Nat.le_of_ble_eq_true rfl) rfl (Nat.le_of_ble_eq_true rfl) (hX6_takeArea.at 1 rfl rfl) (fun x1 => ?_)
  refine os_istore_n (i := 2) (q := 2) rfl (lv' := [(2, .int x1), (0, .ref l0), (1, .ref l1)]) (Nat.le_of_ble_eq_true rfl) rfl (hX6_takeArea.at 2 rfl rfl) ?_
  refine os_iload_n (i := 2) (q := 2) (v := x1) 0 rfl rfl (hX6_takeArea.at 3 rfl rfl) ?_
  refine os_if_ne (off := 5) (tgt := 11) rfl (hX6_takeArea.at 4 rfl rfl) ?_ ?_
  · refine os_aload_n (i := 1) (q := 1) (v := l1) 2 rfl rfl (hX6_takeArea.at 7 rfl rfl) ?_
    refine os_iload_n (i := 2) (q := 2) (v := x1) 0 rfl rfl (hX6_takeArea.at 8 rfl rfl) ?_
    refine os_callV (cis := [0]) (b := l1) (As := [.int x1]) (st := []) (st' := (fun r => .int r :: [])) sl0_X0_findArea_X0_findArea mdX0_findArea wd731 wd702 (sX0_findArea N l1 x1) rfl rfl (fun _ => rfl) (Nat.le_of_ble_eq_true rfl) (Nat.le_of_ble_eq_true rfl) (Nat.le_of_ble_eq_true rfl) rfl (Nat.le_of_ble_eq_true rfl) rfl (Nat.le_of_ble_eq_true rfl) (hX6_takeArea.at 9 rfl rfl) (fun x2 => ?_)
    refine os_istore_n (i := 3) (q := 3) rfl (lv' := [(3, .int x2), (2, .int x1), (0, .ref l0), (1, .ref l1)]) (Nat.le_of_ble_eq_true rfl) rfl (hX6_takeArea.at 10 rfl rfl) ?_
    refine os_iload_n (i := 3) (q := 3) (v := x2) 0 rfl rfl (hX6_takeArea.at 11 rfl rfl) ?_
    refine os_iconst (i := (-1)) (v := (-1 : Int32)) rfl (hX6_takeArea.at 12 rfl rfl) ?_
    refine os_icmp_ne (off := 13) (tgt := 32) rfl (hX6_takeArea.at 13 rfl rfl) ?_ ?_
    · exact osW.sub [0] rfl (sX6_takeArea_32 N x2)
    · refine os_aload_n (i := 0) (q := 0) (v := l0) 2 rfl rfl (hX6_takeArea.at 14 rfl rfl) ?_
      refine os_iconst (i := 2) (v := (2 : Int32)) rfl (hX6_takeArea.at 15 rfl rfl) ?_
      refine os_aload_n (i := 0) (q := 0) (v := l0) 2 rfl rfl (hX6_takeArea.at 16 rfl rfl) ?_
      refine os_getI fX6_35 (hX6_takeArea.at 17 rfl rfl) (fun x3 => ?_)
      refine os_callV (cis := [3, 6]) (b := l0) (As := [.int (2 : Int32), .int x3]) (st := []) (st' := (fun r => .int r :: [])) sl3_6_X6_fail_X6_fail mdX6_fail wd700 wd687 (sX6_fail N l0 (2 : Int32) x3) rfl rfl (fun _ => rfl) (Nat.le_of_ble_eq_true rfl) (Nat.le_of_ble_eq_true rfl) (Nat.le_of_ble_eq_true rfl) rfl (Nat.le_of_ble_eq_true rfl) rfl (Nat.le_of_ble_eq_true rfl) (hX6_takeArea.at 18 rfl rfl) (fun x4 => ?_)
      refine os_pop rfl (hX6_takeArea.at 19 rfl rfl) ?_
      exact osW.sub [0] rfl (sX6_takeArea_32 N x2)
  · refine os_iconst (i := (-1)) (v := (-1 : Int32)) rfl (hX6_takeArea.at 5 rfl rfl) ?_
    exact os_iret (Nat.le_of_ble_eq_true rfl) (Nat.le_of_ble_eq_true rfl) (hX6_takeArea.at 6 rfl rfl).1
-- X7_readSupport
def KX7_readSupport : List (Nat × Nat × Instr) := [(0, 1, .aload_n 0), (1, 1, .aload_n 1), (2, 3, .invokevirtual 60), (5, 2, .istore 4), (7, 2, .iload 4), (9, 1, .iconst (-1)), (10, 3, .if_icmp .ne 5), (13, 1, .iconst 0), (14, 1, .ireturn), (15, 1, .aload_n 0), (16, 3, .getstatic 82), (19, 3, .invokevirtual 44), (22, 3, .ifCond .ne 35), (25, 1, .aload_n 2), (26, 1, .aload_n 1), (27, 1, .iload_n 3), (28, 2, .iload 4), (30, 3, .invokevirtual 105), (33, 3, .ifCond .ne 13), (36, 1, .aload_n 0), (37, 1, .iconst 4), (38, 1, .aload_n 0), (39, 3, .getfield 68), (42, 3, .invokevirtual 71), (45, 1, .ireturn), (46, 1, .aload_n 2), (47, 1, .iload_n 3), (48, 1, .iconst 2), (49, 2, .iload 4), (51, 1, .iconst (-1)), (52, 3, .invokevirtual 78), (55, 1, .iconst 1), (56, 1, .ireturn), (57, 1, .aload_n 0), (58, 1, .aload_n 1), (59, 3, .invokevirtual 60), (62, 2, .istore 5), (64, 2, .iload 5), (66, 1, .iconst (-1)), (67, 3, .if_icmp .ne 5), (70, 1, .iconst 0), (71, 1, .ireturn), (72, 1, .aload_n 2), (73, 1, .aload_n 1), (74, 1, .iload_n 3), (75, 2, .iload 4), (77, 2, .iload 5), (79, 3, .invokevirtual 108), (82, 3, .ifCond .ne 13), (85, 1, .aload_n 0), (86, 1, .iconst 4), (87, 1, .aload_n 0), (88, 3, .getfield 68), (91, 3, .invokevirtual 71), (94, 1, .ireturn), (95, 1, .aload_n 2), (96, 1, .iload_n 3), (97, 1, .iconst 3), (98, 2, .iload 4), (100, 2, .iload 5), (102, 3, .invokevirtual 78), (105, 1, .iconst 1), (106, 1, .ireturn)]
theorem hX7_readSupport : osDs cX7_readSupport KX7_readSupport := by
  show ∀ q ∈ KX7_readSupport, decode cX7_readSupport q.1 = .ok (q.2.2, q.2.1)
  decide +kernel
def qX7_readSupport (N : Nat) (l0 : Nat) (l1 : Nat) (l2 : Nat) (l3 : Int32) : osM Int32 := osbind (osrecv [6] l0 (qX6_takeArea N l0 l1)) fun x1 => osite (x1 = (-1 : Int32)) (osretZ (0 : Int32)) (osbind (osstat 9) fun x2 => osbind (osrecv [6] l0 (qX6_take N l0 x2)) fun x3 => osite (x3 = 0) (osbind (osrecv [5] l2 (qX5_allowsUnitSupport N l2 l1 l3 x1)) fun x8 => osite (x8 = 0) (osbind (osgI [6] 7 l0) fun x9 => osbind (osrecv [6] l0 (qX6_fail N l0 (4 : Int32) x9)) fun x10 => osretZ x10) (osbind (osrecv [5] l2 (qX5_giveOrder N l2 l3 (2 : Int32) x1 (-1 : Int32))) fun _ => osretZ (1 : Int32))) (osbind (osrecv [6] l0 (qX6_takeArea N l0 l1)) fun x4 => osite (x4 = (-1 : Int32)) (osretZ (0 : Int32)) (osbind (osrecv [5] l2 (qX5_allowsMoveSupport N l2 l1 l3 x1 x4)) fun x5 => osite (x5 = 0) (osbind (osgI [6] 7 l0) fun x6 => osbind (osrecv [6] l0 (qX6_fail N l0 (4 : Int32) x6)) fun x7 => osretZ x7) (osbind (osrecv [5] l2 (qX5_giveOrder N l2 l3 (3 : Int32) x1 x4)) fun _ => osretZ (1 : Int32)))))
set_option maxRecDepth 100000 in
set_option maxHeartbeats 4000000 in
theorem sX7_readSupport (N : Nat) (l0 : Nat) (l1 : Nat) (l2 : Nat) (l3 : Int32) : osMet yX7_readSupport cX7_readSupport 6 (some .boolean) 3 72 0 0 (fun r : Int32 => some (.int r)) [.ref l0, .ref l1, .ref l2, .int l3] (qX7_readSupport N l0 l1 l2 l3) := by
  refine osMet.of plX7 (Nat.le_of_ble_eq_true rfl) (osW.rw (lv2 := [(0, .ref l0), (1, .ref l1), (2, .ref l2), (3, .int l3)]) ?_ rfl rfl rfl)
  unfold qX7_readSupport
  refine os_aload_n (i := 0) (q := 0) (v := l0) 0 rfl rfl (hX7_readSupport.at 0 rfl rfl) ?_
  refine os_aload_n (i := 1) (q := 1) (v := l1) 1 rfl rfl (hX7_readSupport.at 1 rfl rfl) ?_
  refine os_callU (cis := [6]) (x := (⟨RX7, "takeArea", "(LOrderSettler$Board;)I"⟩ : MethodName)) (owner := RX6) (b := l0) (As := [.ref l1]) (st := []) (st' := (fun r => .int r :: [])) sl6_X7itakeArea_X6_takeArea mdX6_takeArea rfl wd1129 wd1130 wd728 (sX6_takeArea N l0 l1) rfl rfl (fun _ => rfl) (Nat.le_of_ble_eq_true rfl) (Nat.le_of_ble_eq_true rfl) (Nat.le_of_ble_eq_true rfl) rfl (Nat.le_of_ble_eq_true rfl) rfl (Nat.le_of_ble_eq_true rfl) (hX7_readSupport.at 2 rfl rfl) (fun x1 => ?_)
  refine os_istore (i := 4) (lv' := [(4, .int x1), (0, .ref l0), (1, .ref l1), (2, .ref l2), (3, .int l3)]) (Nat.le_of_ble_eq_true rfl) rfl (hX7_readSupport.at 3 rfl rfl) ?_
  refine os_iload (v := x1) 0 rfl (hX7_readSupport.at 4 rfl rfl) ?_
  refine os_iconst (i := (-1)) (v := (-1 : Int32)) rfl (hX7_readSupport.at 5 rfl rfl) ?_
  refine os_icmp_ne (off := 5) (tgt := 15) rfl (hX7_readSupport.at 6 rfl rfl) ?_ ?_
  · refine os_aload_n (i := 0) (q := 0) (v := l0) 1 rfl rfl (hX7_readSupport.at 9 rfl rfl) ?_
    refine os_getstatic (j := 9) wd1142 ⟨rfl, Or.inl ⟨rfl, rfl⟩⟩ (hX7_readSupport.at 10 rfl rfl) (fun x2 => ?_)
    refine os_callU (cis := [6]) (x := (⟨RX7, "take", "(LOrderSettler$Word;)Z"⟩ : MethodName)) (owner := RX6) (b := l0) (As := [.ref x2]) (st := []) (st' := (fun r => .int r :: [])) sl6_X7itake_X6_take mdX6_take rfl wd1138 wd1139 wd677 (sX6_take N l0 x2) rfl rfl (fun _ => rfl) (Nat.le_of_ble_eq_true rfl) (Nat.le_of_ble_eq_true rfl) (Nat.le_of_ble_eq_true rfl) rfl (Nat.le_of_ble_eq_true rfl) rfl (Nat.le_of_ble_eq_true rfl) (hX7_readSupport.at 11 rfl rfl) (fun x3 => ?_)
    refine os_if_ne (off := 35) (tgt := 57) rfl (hX7_readSupport.at 12 rfl rfl) ?_ ?_
    · refine os_aload_n (i := 0) (q := 0) (v := l0) 1 rfl rfl (hX7_readSupport.at 33 rfl rfl) ?_
      refine os_aload_n (i := 1) (q := 1) (v := l1) 2 rfl rfl (hX7_readSupport.at 34 rfl rfl) ?_
      refine os_callU (cis := [6]) (x := (⟨RX7, "takeArea", "(LOrderSettler$Board;)I"⟩ : MethodName)) (owner := RX6) (b := l0) (As := [.ref l1]) (st := []) (st' := (fun r => .int r :: [])) sl6_X7itakeArea_X6_takeArea mdX6_takeArea rfl wd1129 wd1130 wd728 (sX6_takeArea N l0 l1) rfl rfl (fun _ => rfl) (Nat.le_of_ble_eq_true rfl) (Nat.le_of_ble_eq_true rfl) (Nat.le_of_ble_eq_true rfl) rfl (Nat.le_of_ble_eq_true rfl) rfl (Nat.le_of_ble_eq_true rfl) (hX7_readSupport.at 35 rfl rfl) (fun x4 => ?_)
      refine os_istore (i := 5) (lv' := [(5, .int x4), (4, .int x1), (0, .ref l0), (1, .ref l1), (2, .ref l2), (3, .int l3)]) (Nat.le_of_ble_eq_true rfl) rfl (hX7_readSupport.at 36 rfl rfl) ?_
      refine os_iload (v := x4) 0 rfl (hX7_readSupport.at 37 rfl rfl) ?_
      refine os_iconst (i := (-1)) (v := (-1 : Int32)) rfl (hX7_readSupport.at 38 rfl rfl) ?_
      refine os_icmp_ne (off := 5) (tgt := 72) rfl (hX7_readSupport.at 39 rfl rfl) ?_ ?_
      · refine os_aload_n (i := 2) (q := 2) (v := l2) 4 rfl rfl (hX7_readSupport.at 42 rfl rfl) ?_
        refine os_aload_n (i := 1) (q := 1) (v := l1) 3 rfl rfl (hX7_readSupport.at 43 rfl rfl) ?_
        refine os_iload_n (i := 3) (q := 3) (v := l3) 5 rfl rfl (hX7_readSupport.at 44 rfl rfl) ?_
        refine os_iload (v := x1) 1 rfl (hX7_readSupport.at 45 rfl rfl) ?_
        refine os_iload (v := x4) 0 rfl (hX7_readSupport.at 46 rfl rfl) ?_
        refine os_callV (cis := [5]) (b := l2) (As := [.ref l1, .int l3, .int x1, .int x4]) (st := []) (st' := (fun r => .int r :: [])) sl5_X5_allowsMoveSupport_X5_allowsMoveSupport mdX5_allowsMoveSupport wd1176 wd1177 (sX5_allowsMoveSupport N l2 l1 l3 x1 x4) rfl rfl (fun _ => rfl) (Nat.le_of_ble_eq_true rfl) (Nat.le_of_ble_eq_true rfl) (Nat.le_of_ble_eq_true rfl) rfl (Nat.le_of_ble_eq_true rfl) rfl (Nat.le_of_ble_eq_true rfl) (hX7_readSupport.at 47 rfl rfl) (fun x5 => ?_)
        refine os_if_ne (off := 13) (tgt := 95) rfl (hX7_readSupport.at 48 rfl rfl) ?_ ?_
        · refine os_aload_n (i := 2) (q := 2) (v := l2) 4 rfl rfl (hX7_readSupport.at 55 rfl rfl) ?_
          refine os_iload_n (i := 3) (q := 3) (v := l3) 5 rfl rfl (hX7_readSupport.at 56 rfl rfl) ?_
          refine os_iconst (i := 3) (v := (3 : Int32)) rfl (hX7_readSupport.at 57 rfl rfl) ?_
          refine os_iload (v := x1) 1 rfl (hX7_readSupport.at 58 rfl rfl) ?_
          refine os_iload (v := x4) 0 rfl (hX7_readSupport.at 59 rfl rfl) ?_
          refine os_callV (cis := [5]) (b := l2) (As := [.int l3, .int (3 : Int32), .int x1, .int x4]) (st := []) (st' := (fun _ => [])) sl5_X5_giveOrder_X5_giveOrder mdX5_giveOrder wd1141 wd358 (sX5_giveOrder N l2 l3 (3 : Int32) x1 x4) rfl rfl (fun _ => rfl) (Nat.le_of_ble_eq_true rfl) (Nat.le_of_ble_eq_true rfl) (Nat.le_of_ble_eq_true rfl) rfl (Nat.le_of_ble_eq_true rfl) rfl (Nat.le_of_ble_eq_true rfl) (hX7_readSupport.at 60 rfl rfl) (fun _ => ?_)
          refine os_iconst (i := 1) (v := (1 : Int32)) rfl (hX7_readSupport.at 61 rfl rfl) ?_
          exact os_zret (Nat.le_of_ble_eq_true rfl) (Nat.le_of_ble_eq_true rfl) (hX7_readSupport.at 62 rfl rfl).1
        · refine os_aload_n (i := 0) (q := 0) (v := l0) 2 rfl rfl (hX7_readSupport.at 49 rfl rfl) ?_
          refine os_iconst (i := 4) (v := (4 : Int32)) rfl (hX7_readSupport.at 50 rfl rfl) ?_
          refine os_aload_n (i := 0) (q := 0) (v := l0) 2 rfl rfl (hX7_readSupport.at 51 rfl rfl) ?_
          refine os_getI fX7_68 (hX7_readSupport.at 52 rfl rfl) (fun x6 => ?_)
          refine os_callU (cis := [6]) (x := (⟨RX7, "fail", "(II)Z"⟩ : MethodName)) (owner := RX6) (b := l0) (As := [.int (4 : Int32), .int x6]) (st := []) (st' := (fun r => .int r :: [])) sl6_X7ifail_X6_fail mdX6_fail rfl wd1133 wd1134 wd687 (sX6_fail N l0 (4 : Int32) x6) rfl rfl (fun _ => rfl) (Nat.le_of_ble_eq_true rfl) (Nat.le_of_ble_eq_true rfl) (Nat.le_of_ble_eq_true rfl) rfl (Nat.le_of_ble_eq_true rfl) rfl (Nat.le_of_ble_eq_true rfl) (hX7_readSupport.at 53 rfl rfl) (fun x7 => ?_)
          exact os_zret (Nat.le_of_ble_eq_true rfl) (Nat.le_of_ble_eq_true rfl) (hX7_readSupport.at 54 rfl rfl).1
      · refine os_iconst (i := 0) (v := (0 : Int32)) rfl (hX7_readSupport.at 40 rfl rfl) ?_
        exact os_zret (Nat.le_of_ble_eq_true rfl) (Nat.le_of_ble_eq_true rfl) (hX7_readSupport.at 41 rfl rfl).1
    · refine os_aload_n (i := 2) (q := 2) (v := l2) 3 rfl rfl (hX7_readSupport.at 13 rfl rfl) ?_
      refine os_aload_n (i := 1) (q := 1) (v := l1) 2 rfl rfl (hX7_readSupport.at 14 rfl rfl) ?_
      refine os_iload_n (i := 3) (q := 3) (v := l3) 4 rfl rfl (hX7_readSupport.at 15 rfl rfl) ?_
      refine os_iload (v := x1) 0 rfl (hX7_readSupport.at 16 rfl rfl) ?_
      refine os_callV (cis := [5]) (b := l2) (As := [.ref l1, .int l3, .int x1]) (st := []) (st' := (fun r => .int r :: [])) sl5_X5_allowsUnitSupport_X5_allowsUnitSupport mdX5_allowsUnitSupport wd1171 wd1172 (sX5_allowsUnitSupport N l2 l1 l3 x1) rfl rfl (fun _ => rfl) (Nat.le_of_ble_eq_true rfl) (Nat.le_of_ble_eq_true rfl) (Nat.le_of_ble_eq_true rfl) rfl (Nat.le_of_ble_eq_true rfl) rfl (Nat.le_of_ble_eq_true rfl) (hX7_readSupport.at 17 rfl rfl) (fun x8 => ?_)
      refine os_if_ne (off := 13) (tgt := 46) rfl (hX7_readSupport.at 18 rfl rfl) ?_ ?_
      · refine os_aload_n (i := 2) (q := 2) (v := l2) 3 rfl rfl (hX7_readSupport.at 25 rfl rfl) ?_
        refine os_iload_n (i := 3) (q := 3) (v := l3) 4 rfl rfl (hX7_readSupport.at 26 rfl rfl) ?_
        refine os_iconst (i := 2) (v := (2 : Int32)) rfl (hX7_readSupport.at 27 rfl rfl) ?_
        refine os_iload (v := x1) 0 rfl (hX7_readSupport.at 28 rfl rfl) ?_
        refine os_iconst (i := (-1)) (v := (-1 : Int32)) rfl (hX7_readSupport.at 29 rfl rfl) ?_
        refine os_callV (cis := [5]) (b := l2) (As := [.int l3, .int (2 : Int32), .int x1, .int (-1 : Int32)]) (st := []) (st' := (fun _ => [])) sl5_X5_giveOrder_X5_giveOrder mdX5_giveOrder wd1141 wd358 (sX5_giveOrder N l2 l3 (2 : Int32) x1 (-1 : Int32)) rfl rfl (fun _ => rfl) (Nat.le_of_ble_eq_true rfl) (Nat.le_of_ble_eq_true rfl) (Nat.le_of_ble_eq_true rfl) rfl (Nat.le_of_ble_eq_true rfl) rfl (Nat.le_of_ble_eq_true rfl) (hX7_readSupport.at 30 rfl rfl) (fun _ => ?_)
        refine os_iconst (i := 1) (v := (1 : Int32)) rfl (hX7_readSupport.at 31 rfl rfl) ?_
        exact os_zret (Nat.le_of_ble_eq_true rfl) (Nat.le_of_ble_eq_true rfl) (hX7_readSupport.at 32 rfl rfl).1
      · refine os_aload_n (i := 0) (q := 0) (v := l0) 1 rfl rfl (hX7_readSupport.at 19 rfl rfl) ?_
        refine os_iconst (i := 4) (v := (4 : Int32)) rfl (hX7_readSupport.at 20 rfl rfl) ?_
        refine os_aload_n (i := 0) (q := 0) (v := l0) 1 rfl rfl (hX7_readSupport.at 21 rfl rfl) ?_
        refine os_getI fX7_68 (hX7_readSupport.at 22 rfl rfl) (fun x9 => ?_)
        refine os_callU (cis := [6]) (x := (⟨RX7, "fail", "(II)Z"⟩ : MethodName)) (owner := RX6) (b := l0) (As := [.int (4 : Int32), .int x9]) (st := []) (st' := (fun r => .int r :: [])) sl6_X7ifail_X6_fail mdX6_fail rfl wd1133 wd1134 wd687 (sX6_fail N l0 (4 : Int32) x9) rfl rfl (fun _ => rfl) (Nat.le_of_ble_eq_true rfl) (Nat.le_of_ble_eq_true rfl) (Nat.le_of_ble_eq_true rfl) rfl (Nat.le_of_ble_eq_true rfl) rfl (Nat.le_of_ble_eq_true rfl) (hX7_readSupport.at 23 rfl rfl) (fun x10 => ?_)
        exact os_zret (Nat.le_of_ble_eq_true rfl) (Nat.le_of_ble_eq_true rfl) (hX7_readSupport.at 24 rfl rfl).1
  · refine os_iconst (i := 0) (v := (0 : Int32)) rfl (hX7_readSupport.at 7 rfl rfl) ?_
    exact os_zret (Nat.le_of_ble_eq_true rfl) (Nat.le_of_ble_eq_true rfl) (hX7_readSupport.at 8 rfl rfl).1
-- X7_readRetreat
def KX7_readRetreat : List (Nat × Nat × Instr) := [(0, 1, .aload_n 0), (1, 1, .aload_n 1), (2, 3, .invokevirtual 60), (5, 1, .istore_n 3), (6, 1, .iload_n 3), (7, 1, .iconst (-1)), (8, 3, .if_icmp .ne 5), (11, 1, .iconst 0), (12, 1, .ireturn), (13, 1, .aload_n 2), (14, 1, .iload_n 3), (15, 3, .invokevirtual 115), (18, 3, .ifCond .ne 13), (21, 1, .aload_n 0), (22, 1, .iconst 2), (23, 1, .aload_n 0), (24, 3, .getfield 68), (27, 3, .invokevirtual 71), (30, 1, .ireturn), (31, 1, .aload_n 0), (32, 3, .getstatic 118), (35, 3, .invokevirtual 44), (38, 3, .ifCond .eq 11), (41, 1, .aload_n 2), (42, 1, .iload_n 3), (43, 1, .iconst (-1)), (44, 3, .invokevirtual 121), (47, 1, .iconst 1), (48, 1, .ireturn), (49, 1, .aload_n 0), (50, 3, .getstatic 82), (53, 3, .invokevirtual 54), (56, 3, .ifCond .ne 5), (59, 1, .iconst 0), (60, 1, .ireturn), (61, 1, .aload_n 0), (62, 1, .aload_n 1), (63, 3, .invokevirtual 60), (66, 2, .istore 4), (68, 2, .iload 4), (70, 1, .iconst (-1)), (71, 3, .if_icmp .ne 5), (74, 1, .iconst 0), (75, 1, .ireturn), (76, 1, .aload_n 2), (77, 1, .aload_n 1), (78, 1, .iload_n 3), (79, 2, .iload 4), (81, 3, .invokevirtual 125), (84, 3, .ifCond .ne 13), (87, 1, .aload_n 0), (88, 1, .iconst 4), (89, 1, .aload_n 0), (90, 3, .getfield 68), (93, 3, .invokevirtual 71), (96, 1, .ireturn), (97, 1, .aload_n 2), (98, 1, .iload_n 3), (99, 2, .iload 4), (101, 3, .invokevirtual 121), (104, 1, .iconst 1), (105, 1, .ireturn)]
theorem hX7_readRetreat : osDs cX7_readRetreat KX7_readRetreat := by
  show ∀ q ∈ KX7_readRetreat, decode cX7_readRetreat q.1 = .ok (q.2.2, q.2.1)
  decide +kernel
def qX7_readRetreat (N : Nat) (l0 : Nat) (l1 : Nat) (l2 : Nat) : osM Int32 := osbind (osrecv [6] l0 (qX6_takeArea N l0 l1)) fun x1 => osite (x1 = (-1 : Int32)) (osretZ (0 : Int32)) (osbind (osrecv [5] l2 (qX5_hasDislodged N l2 x1)) fun x2 => osite (x2 = 0) (osbind (osgI [6] 7 l0) fun x11 => osbind (osrecv [6] l0 (qX6_fail N l0 (2 : Int32) x11)) fun x12 => osretZ x12) (osbind (osstat 12) fun x3 => osbind (osrecv [6] l0 (qX6_take N l0 x3)) fun x4 => osite (x4 = 0) (osbind (osstat 9) fun x5 => osbind (osrecv [6] l0 (qX6_takeOrFail N l0 x5)) fun x6 => osite (x6 = 0) (osretZ (0 : Int32)) (osbind (osrecv [6] l0 (qX6_takeArea N l0 l1)) fun x7 => osite (x7 = (-1 : Int32)) (osretZ (0 : Int32)) (osbind (osrecv [5] l2 (qX5_allowsRetreat N l2 l1 x1 x7)) fun x8 => osite (x8 = 0) (osbind (osgI [6] 7 l0) fun x9 => osbind (osrecv [6] l0 (qX6_fail N l0 (4 : Int32) x9)) fun x10 => osretZ x10) (osbind (osrecv [5] l2 (qX5_giveRetreat N l2 x1 x7)) fun _ => osretZ (1 : Int32))))) (osbind (osrecv [5] l2 (qX5_giveRetreat N l2 x1 (-1 : Int32))) fun _ => osretZ (1 : Int32))))
set_option maxRecDepth 100000 in
set_option maxHeartbeats 4000000 in
theorem sX7_readRetreat (N : Nat) (l0 : Nat) (l1 : Nat) (l2 : Nat) : osMet yX7_readRetreat cX7_readRetreat 5 (some .boolean) 3 66 0 0 (fun r : Int32 => some (.int r)) [.ref l0, .ref l1, .ref l2] (qX7_readRetreat N l0 l1 l2) := by
  refine osMet.of plX7 (Nat.le_of_ble_eq_true rfl) (osW.rw (lv2 := [(0, .ref l0), (1, .ref l1), (2, .ref l2)]) ?_ rfl rfl rfl)
  unfold qX7_readRetreat
  refine os_aload_n (i := 0) (q := 0) (v := l0) 0 rfl rfl (hX7_readRetreat.at 0 rfl rfl) ?_
  refine os_aload_n (i := 1) (q := 1) (v := l1) 1 rfl rfl (hX7_readRetreat.at 1 rfl rfl) ?_
  refine os_callU (cis := [6]) (x := (⟨RX7, "takeArea", "(LOrderSettler$Board;)I"⟩ : MethodName)) (owner := RX6) (b := l0) (As := [.ref l1]) (st := []) (st' := (fun r => .int r :: [])) sl6_X7itakeArea_X6_takeArea mdX6_takeArea rfl wd1129 wd1130 wd728 (sX6_takeArea N l0 l1) rfl rfl (fun _ => rfl) (Nat.le_of_ble_eq_true rfl) (Nat.le_of_ble_eq_true rfl) (Nat.le_of_ble_eq_true rfl) rfl (Nat.le_of_ble_eq_true rfl) rfl (Nat.le_of_ble_eq_true rfl) (hX7_readRetreat.at 2 rfl rfl) (fun x1 => ?_)
  refine os_istore_n (i := 3) (q := 3) rfl (lv' := [(3, .int x1), (0, .ref l0), (1, .ref l1), (2, .ref l2)]) (Nat.le_of_ble_eq_true rfl) rfl (hX7_readRetreat.at 3 rfl rfl) ?_
  refine os_iload_n (i := 3) (q := 3) (v := x1) 0 rfl rfl (hX7_readRetreat.at 4 rfl rfl) ?_
  refine os_iconst (i := (-1)) (v := (-1 : Int32)) rfl (hX7_readRetreat.at 5 rfl rfl) ?_
  refine os_icmp_ne (off := 5) (tgt := 13) rfl (hX7_readRetreat.at 6 rfl rfl) ?_ ?_
  · refine os_aload_n (i := 2) (q := 2) (v := l2) 3 rfl rfl (hX7_readRetreat.at 9 rfl rfl) ?_
    refine os_iload_n (i := 3) (q := 3) (v := x1) 0 rfl rfl (hX7_readRetreat.at 10 rfl rfl) ?_
    refine os_callV (cis := [5]) (b := l2) (As := [.int x1]) (st := []) (st' := (fun r => .int r :: [])) sl5_X5_hasDislodged_X5_hasDislodged mdX5_hasDislodged wd1201 wd1202 (sX5_hasDislodged N l2 x1) rfl rfl (fun _ => rfl) (Nat.le_of_ble_eq_true rfl) (Nat.le_of_ble_eq_true rfl) (Nat.le_of_ble_eq_true rfl) rfl (Nat.le_of_ble_eq_true rfl) rfl (Nat.le_of_ble_eq_true rfl) (hX7_readRetreat.at 11 rfl rfl) (fun x2 => ?_)
    refine os_if_ne (off := 13) (tgt := 31) rfl (hX7_readRetreat.at 12 rfl rfl) ?_ ?_
    · refine os_aload_n (i := 0) (q := 0) (v := l0) 1 rfl rfl (hX7_readRetreat.at 19 rfl rfl) ?_
      refine os_getstatic (j := 12) wd1205 ⟨rfl, Or.inl ⟨rfl, rfl⟩⟩ (hX7_readRetreat.at 20 rfl rfl) (fun x3 => ?_)
      refine os_callU (cis := [6]) (x := (⟨RX7, "take", "(LOrderSettler$Word;)Z"⟩ : MethodName)) (owner := RX6) (b := l0) (As := [.ref x3]) (st := []) (st' := (fun r => .int r :: [])) sl6_X7itake_X6_take mdX6_take rfl wd1138 wd1139 wd677 (sX6_take N l0 x3) rfl rfl (fun _ => rfl) (Nat.le_of_ble_eq_true rfl) (Nat.le_of_ble_eq_true rfl) (Nat.le_of_ble_eq_true rfl) rfl (Nat.le_of_ble_eq_true rfl) rfl (Nat.le_of_ble_eq_true rfl) (hX7_readRetreat.at 21 rfl rfl) (fun x4 => ?_)
      refine os_if_eq (off := 11) (tgt := 49) rfl (hX7_readRetreat.at 22 rfl rfl) ?_ ?_
      · refine os_aload_n (i := 0) (q := 0) (v := l0) 1 rfl rfl (hX7_readRetreat.at 29 rfl rfl) ?_
        refine os_getstatic (j := 9) wd1142 ⟨rfl, Or.inl ⟨rfl, rfl⟩⟩ (hX7_readRetreat.at 30 rfl rfl) (fun x5 => ?_)
        refine os_callU (cis := [6]) (x := (⟨RX7, "takeOrFail", "(LOrderSettler$Word;)Z"⟩ : MethodName)) (owner := RX6) (b := l0) (As := [.ref x5]) (st := []) (st' := (fun r => .int r :: [])) sl6_X7itakeOrFail_X6_takeOrFail mdX6_takeOrFail rfl wd1182 wd1183 wd1186 (sX6_takeOrFail N l0 x5) rfl rfl (fun _ => rfl) (Nat.le_of_ble_eq_true rfl) (Nat.le_of_ble_eq_true rfl) (Nat.le_of_ble_eq_true rfl) rfl (Nat.le_of_ble_eq_true rfl) rfl (Nat.le_of_ble_eq_true rfl) (hX7_readRetreat.at 31 rfl rfl) (fun x6 => ?_)
        refine os_if_ne (off := 5) (tgt := 61) rfl (hX7_readRetreat.at 32 rfl rfl) ?_ ?_
        · refine os_aload_n (i := 0) (q := 0) (v := l0) 1 rfl rfl (hX7_readRetreat.at 35 rfl rfl) ?_
          refine os_aload_n (i := 1) (q := 1) (v := l1) 2 rfl rfl (hX7_readRetreat.at 36 rfl rfl) ?_
          refine os_callU (cis := [6]) (x := (⟨RX7, "takeArea", "(LOrderSettler$Board;)I"⟩ : MethodName)) (owner := RX6) (b := l0) (As := [.ref l1]) (st := []) (st' := (fun r => .int r :: [])) sl6_X7itakeArea_X6_takeArea mdX6_takeArea rfl wd1129 wd1130 wd728 (sX6_takeArea N l0 l1) rfl rfl (fun _ => rfl) (Nat.le_of_ble_eq_true rfl) (Nat.le_of_ble_eq_true rfl) (Nat.le_of_ble_eq_true rfl) rfl (Nat.le_of_ble_eq_true rfl) rfl (Nat.le_of_ble_eq_true rfl) (hX7_readRetreat.at 37 rfl rfl) (fun x7 => ?_)
          refine os_istore (i := 4) (lv' := [(4, .int x7), (3, .int x1), (0, .ref l0), (1, .ref l1), (2, .ref l2)]) (Nat.le_of_ble_eq_true rfl) rfl (hX7_readRetreat.at 38 rfl rfl) ?_
          refine os_iload (v := x7) 0 rfl (hX7_readRetreat.at 39 rfl rfl) ?_
          refine os_iconst (i := (-1)) (v := (-1 : Int32)) rfl (hX7_readRetreat.at 40 rfl rfl) ?_
          refine os_icmp_ne (off := 5) (tgt := 76) rfl (hX7_readRetreat.at 41 rfl rfl) ?_ ?_
          · refine os_aload_n (i := 2) (q := 2) (v := l2) 4 rfl rfl (hX7_readRetreat.at 44 rfl rfl) ?_
            refine os_aload_n (i := 1) (q := 1) (v := l1) 3 rfl rfl (hX7_readRetreat.at 45 rfl rfl) ?_
            refine os_iload_n (i := 3) (q := 3) (v := x1) 1 rfl rfl (hX7_readRetreat.at 46 rfl rfl) ?_
            refine os_iload (v := x7) 0 rfl (hX7_readRetreat.at 47 rfl rfl) ?_
            refine os_callV (cis := [5]) (b := l2) (As := [.ref l1, .int x1, .int x7]) (st := []) (st' := (fun r => .int r :: [])) sl5_X5_allowsRetreat_X5_allowsRetreat mdX5_allowsRetreat wd1211 wd1212 (sX5_allowsRetreat N l2 l1 x1 x7) rfl rfl (fun _ => rfl) (Nat.le_of_ble_eq_true rfl) (Nat.le_of_ble_eq_true rfl) (Nat.le_of_ble_eq_true rfl) rfl (Nat.le_of_ble_eq_true rfl) rfl (Nat.le_of_ble_eq_true rfl) (hX7_readRetreat.at 48 rfl rfl) (fun x8 => ?_)
            refine os_if_ne (off := 13) (tgt := 97) rfl (hX7_readRetreat.at 49 rfl rfl) ?_ ?_
            · refine os_aload_n (i := 2) (q := 2) (v := l2) 4 rfl rfl (hX7_readRetreat.at 56 rfl rfl) ?_
              refine os_iload_n (i := 3) (q := 3) (v := x1) 1 rfl rfl (hX7_readRetreat.at 57 rfl rfl) ?_
              refine os_iload (v := x7) 0 rfl (hX7_readRetreat.at 58 rfl rfl) ?_
              refine os_callV (cis := [5]) (b := l2) (As := [.int x1, .int x7]) (st := []) (st' := (fun _ => [])) sl5_X5_giveRetreat_X5_giveRetreat mdX5_giveRetreat wd1207 wd1208 (sX5_giveRetreat N l2 x1 x7) rfl rfl (fun _ => rfl) (Nat.le_of_ble_eq_true rfl) (Nat.le_of_ble_eq_true rfl) (Nat.le_of_ble_eq_true rfl) rfl (Nat.le_of_ble_eq_true rfl) rfl (Nat.le_of_ble_eq_true rfl) (hX7_readRetreat.at 59 rfl rfl) (fun _ => ?_)
              refine os_iconst (i := 1) (v := (1 : Int32)) rfl (hX7_readRetreat.at 60 rfl rfl) ?_
              exact os_zret (Nat.le_of_ble_eq_true rfl) (Nat.le_of_ble_eq_true rfl) (hX7_readRetreat.at 61 rfl rfl).1
            · refine os_aload_n (i := 0) (q := 0) (v := l0) 2 rfl rfl (hX7_readRetreat.at 50 rfl rfl) ?_
              refine os_iconst (i := 4) (v := (4 : Int32)) rfl (hX7_readRetreat.at 51 rfl rfl) ?_
              refine os_aload_n (i := 0) (q := 0) (v := l0) 2 rfl rfl (hX7_readRetreat.at 52 rfl rfl) ?_
              refine os_getI fX7_68 (hX7_readRetreat.at 53 rfl rfl) (fun x9 => ?_)
              refine os_callU (cis := [6]) (x := (⟨RX7, "fail", "(II)Z"⟩ : MethodName)) (owner := RX6) (b := l0) (As := [.int (4 : Int32), .int x9]) (st := []) (st' := (fun r => .int r :: [])) sl6_X7ifail_X6_fail mdX6_fail rfl wd1133 wd1134 wd687 (sX6_fail N l0 (4 : Int32) x9) rfl rfl (fun _ => rfl) (Nat.le_of_ble_eq_true rfl) (Nat.le_of_ble_eq_true rfl) (Nat.le_of_ble_eq_true rfl) rfl (Nat.le_of_ble_eq_true rfl) rfl (Nat.le_of_ble_eq_true rfl) (hX7_readRetreat.at 54 rfl rfl) (fun x10 => ?_)
              exact os_zret (Nat.le_of_ble_eq_true rfl) (Nat.le_of_ble_eq_true rfl) (hX7_readRetreat.at 55 rfl rfl).1
          · refine os_iconst (i := 0) (v := (0 : Int32)) rfl (hX7_readRetreat.at 42 rfl rfl) ?_
            exact os_zret (Nat.le_of_ble_eq_true rfl) (Nat.le_of_ble_eq_true rfl) (hX7_readRetreat.at 43 rfl rfl).1
        · refine os_iconst (i := 0) (v := (0 : Int32)) rfl (hX7_readRetreat.at 33 rfl rfl) ?_
          exact os_zret (Nat.le_of_ble_eq_true rfl) (Nat.le_of_ble_eq_true rfl) (hX7_readRetreat.at 34 rfl rfl).1
      · refine os_aload_n (i := 2) (q := 2) (v := l2) 3 rfl rfl (hX7_readRetreat.at 23 rfl rfl) ?_
        refine os_iload_n (i := 3) (q := 3) (v := x1) 0 rfl rfl (hX7_readRetreat.at 24 rfl rfl) ?_
        refine os_iconst (i := (-1)) (v := (-1 : Int32)) rfl (hX7_readRetreat.at 25 rfl rfl) ?_
        refine os_callV (cis := [5]) (b := l2) (As := [.int x1, .int (-1 : Int32)]) (st := []) (st' := (fun _ => [])) sl5_X5_giveRetreat_X5_giveRetreat mdX5_giveRetreat wd1207 wd1208 (sX5_giveRetreat N l2 x1 (-1 : Int32)) rfl rfl (fun _ => rfl) (Nat.le_of_ble_eq_true rfl) (Nat.le_of_ble_eq_true rfl) (Nat.le_of_ble_eq_true rfl) rfl (Nat.le_of_ble_eq_true rfl) rfl (Nat.le_of_ble_eq_true rfl) (hX7_readRetreat.at 26 rfl rfl) (fun _ => ?_)
        refine os_iconst (i := 1) (v := (1 : Int32)) rfl (hX7_readRetreat.at 27 rfl rfl) ?_
        exact os_zret (Nat.le_of_ble_eq_true rfl) (Nat.le_of_ble_eq_true rfl) (hX7_readRetreat.at 28 rfl rfl).1
    · refine os_aload_n (i := 0) (q := 0) (v := l0) 1 rfl rfl (hX7_readRetreat.at 13 rfl rfl) ?_
      refine os_iconst (i := 2) (v := (2 : Int32)) rfl (hX7_readRetreat.at 14 rfl rfl) ?_
      refine os_aload_n (i := 0) (q := 0) (v := l0) 1 rfl rfl (hX7_readRetreat.at 15 rfl rfl) ?_
      refine os_getI fX7_68 (hX7_readRetreat.at 16 rfl rfl) (fun x11 => ?_)
      refine os_callU (cis := [6]) (x := (⟨RX7, "fail", "(II)Z"⟩ : MethodName)) (owner := RX6) (b := l0) (As := [.int (2 : Int32), .int x11]) (st := []) (st' := (fun r => .int r :: [])) sl6_X7ifail_X6_fail mdX6_fail rfl wd1133 wd1134 wd687 (sX6_fail N l0 (2 : Int32) x11) rfl rfl (fun _ => rfl) (Nat.le_of_ble_eq_true rfl) (Nat.le_of_ble_eq_true rfl) (Nat.le_of_ble_eq_true rfl) rfl (Nat.le_of_ble_eq_true rfl) rfl (Nat.le_of_ble_eq_true rfl) (hX7_readRetreat.at 17 rfl rfl) (fun x12 => ?_)
      exact os_zret (Nat.le_of_ble_eq_true rfl) (Nat.le_of_ble_eq_true rfl) (hX7_readRetreat.at 18 rfl rfl).1
  · refine os_iconst (i := 0) (v := (0 : Int32)) rfl (hX7_readRetreat.at 7 rfl rfl) ?_
    exact os_zret (Nat.le_of_ble_eq_true rfl) (Nat.le_of_ble_eq_true rfl) (hX7_readRetreat.at 8 rfl rfl).1
-- X7_readBuild
def KX7_readBuild : List (Nat × Nat × Instr) := [(0, 1, .aload_n 0), (1, 1, .aload_n 1), (2, 3, .invokevirtual 60), (5, 1, .istore_n 3), (6, 1, .iload_n 3), (7, 1, .iconst (-1)), (8, 3, .if_icmp .ne 5), (11, 1, .iconst 0), (12, 1, .ireturn), (13, 1, .aload_n 2), (14, 1, .iload_n 3), (15, 3, .invokevirtual 64), (18, 3, .ifCond .eq 13), (21, 1, .aload_n 0), (22, 1, .iconst 3), (23, 1, .aload_n 0), (24, 3, .getfield 68), (27, 3, .invokevirtual 71), (30, 1, .ireturn), (31, 1, .aload_n 2), (32, 1, .aload_n 1), (33, 1, .iload_n 3), (34, 3, .invokevirtual 128), (37, 3, .ifCond .ne 13), (40, 1, .aload_n 0), (41, 1, .iconst 4), (42, 1, .aload_n 0), (43, 3, .getfield 68), (46, 3, .invokevirtual 71), (49, 1, .ireturn), (50, 1, .aload_n 0), (51, 3, .getfield 132), (54, 2, .istore 4), (56, 1, .aload_n 0), (57, 3, .getstatic 135), (60, 3, .invokevirtual 44), (63, 2, .istore 5), (65, 2, .iload 5), (67, 3, .ifCond .ne 15), (70, 1, .aload_n 0), (71, 3, .getstatic 138), (74, 3, .invokevirtual 54), (77, 3, .ifCond .ne 5), (80, 1, .iconst 0), (81, 1, .ireturn), (82, 2, .iload 5), (84, 3, .ifCond .eq 7), (87, 1, .iconst 1), (88, 3, .goto 4), (91, 1, .iconst 0), (92, 2, .istore 6), (94, 1, .aload_n 1), (95, 1, .iload_n 3), (96, 2, .iload 6), (98, 3, .invokevirtual 141), (101, 3, .ifCond .ne 11), (104, 1, .aload_n 0), (105, 1, .iconst 4), (106, 2, .iload 4), (108, 3, .invokevirtual 71), (111, 1, .ireturn), (112, 1, .aload_n 2), (113, 1, .iload_n 3), (114, 1, .aload_n 1), (115, 3, .getfield 146), (118, 1, .iload_n 3), (119, 3, .invokestatic 150), (122, 2, .iload 6), (124, 3, .invokevirtual 154), (127, 1, .iconst 1), (128, 1, .ireturn)]
theorem hX7_readBuild : osDs cX7_readBuild KX7_readBuild := by
  show ∀ q ∈ KX7_readBuild, decode cX7_readBuild q.1 = .ok (q.2.2, q.2.1)
  decide +kernel
def qX7_readBuild_92 (N : Nat) (l0 : Nat) (l1 : Nat) (l2 : Nat) (l3 : Int32) (l4 : Int32) (k0 : Int32) : osM Int32 := osbind (osrecv [0] l1 (qX0_suits N l1 l3 k0)) fun x1 => osite (x1 = 0) (osbind (osrecv [6] l0 (qX6_fail N l0 (4 : Int32) l4)) fun x4 => osretZ x4) (osbind (osgR [0] 6 l1) fun x2 => osbind (qX9_entry N x2 l3) fun x3 => osbind (osrecv [5] l2 (qX5_placeUnit N l2 l3 x3 k0)) fun _ => osretZ (1 : Int32))
def qX7_readBuild_82 (N : Nat) (l0 : Nat) (l1 : Nat) (l2 : Nat) (l3 : Int32) (l4 : Int32) (l5 : Int32) : osM Int32 := osite (l5 = 0) (qX7_readBuild_92 N l0 l1 l2 l3 l4 (0 : Int32)) (qX7_readBuild_92 N l0 l1 l2 l3 l4 (1 : Int32))
def qX7_readBuild (N : Nat) (l0 : Nat) (l1 : Nat) (l2 : Nat) : osM Int32 := osbind (osrecv [6] l0 (qX6_takeArea N l0 l1)) fun x1 => osite (x1 = (-1 : Int32)) (osretZ (0 : Int32)) (osbind (osrecv [5] l2 (qX5_hasUnit N l2 x1)) fun x2 => osite (x2 = 0) (osbind (osrecv [5] l2 (qX5_allowsBuild N l2 l1 x1)) fun x3 => osite (x3 = 0) (osbind (osgI [6] 7 l0) fun x9 => osbind (osrecv [6] l0 (qX6_fail N l0 (4 : Int32) x9)) fun x10 => osretZ x10) (osbind (osgI [6] 6 l0) fun x4 => osbind (osstat 6) fun x5 => osbind (osrecv [6] l0 (qX6_take N l0 x5)) fun x6 => osite (x6 = 0) (osbind (osstat 5) fun x7 => osbind (osrecv [6] l0 (qX6_takeOrFail N l0 x7)) fun x8 => osite (x8 = 0) (osretZ (0 : Int32)) (qX7_readBuild_82 N l0 l1 l2 x1 x4 x6)) (qX7_readBuild_82 N l0 l1 l2 x1 x4 x6))) (osbind (osgI [6] 7 l0) fun x11 => osbind (osrecv [6] l0 (qX6_fail N l0 (3 : Int32) x11)) fun x12 => osretZ x12))
set_option maxRecDepth 100000 in
set_option maxHeartbeats 4000000 in
theorem sX7_readBuild_92 (N : Nat) (l0 : Nat) (l1 : Nat) (l2 : Nat) (l3 : Int32) (l4 : Int32) (k0 : Int32) : osW (osFinM (fun r : Int32 => some (.int r)) 0 0) yX7_readBuild cX7_readBuild 7 (some .boolean) [] { frames := 4, cells := 0, slots := 0, locals := 91 } 0 0 92 [(0, .ref l0), (1, .ref l1), (2, .ref l2), (3, .int l3), (4, .int l4)] [.int k0] (qX7_readBuild_92 N l0 l1 l2 l3 l4 k0) := by
  unfold qX7_readBuild_92
  refine os_istore (i := 6) (lv' := [(6, .int k0), (0, .ref l0), (1, .ref l1), (2, .ref l2), (3, .int l3), (4, .int l4)]) (Nat.le_of_ble_eq_true rfl) rfl (hX7_readBuild.at 50 rfl rfl) ?_
  refine os_aload_n (i := 1) (q := 1) (v := l1) 2 rfl rfl (hX7_readBuild.at 51 rfl rfl) ?_
  refine os_iload_n (i := 3) (q := 3) (v := l3) 4 rfl rfl (hX7_readBuild.at 52 rfl rfl) ?_
  refine os_iload (v := k0) 0 rfl (hX7_readBuild.at 53 rfl rfl) ?_
  refine os_callV (cis := [0]) (b := l1) (As := [.int l3, .int k0]) (st := []) (st' := (fun r => .int r :: [])) sl0_X0_suits_X0_suits mdX0_suits wd1251 wd745 (sX0_suits N l1 l3 k0) rfl rfl (fun _ => rfl) (Nat.le_of_ble_eq_true rfl) (Nat.le_of_ble_eq_true rfl) (Nat.le_of_ble_eq_true rfl) rfl (Nat.le_of_ble_eq_true rfl) rfl (Nat.le_of_ble_eq_true rfl) (hX7_readBuild.at 54 rfl rfl) (fun x1 => ?_)
  refine os_if_ne (off := 11) (tgt := 112) rfl (hX7_readBuild.at 55 rfl rfl) ?_ ?_
  · refine os_aload_n (i := 2) (q := 2) (v := l2) 3 rfl rfl (hX7_readBuild.at 61 rfl rfl) ?_
    refine os_iload_n (i := 3) (q := 3) (v := l3) 4 rfl rfl (hX7_readBuild.at 62 rfl rfl) ?_
    refine os_aload_n (i := 1) (q := 1) (v := l1) 2 rfl rfl (hX7_readBuild.at 63 rfl rfl) ?_
    refine os_getR fX7_146 (hX7_readBuild.at 64 rfl rfl) (fun x2 => ?_)
    refine os_iload_n (i := 3) (q := 3) (v := l3) 4 rfl rfl (hX7_readBuild.at 65 rfl rfl) ?_
    refine os_callSN (host := "OrderSettler") (As := [.ref x2, .int l3]) (st := [.int l3, .ref l2]) (st' := (fun r => .int r :: [.int l3, .ref l2])) mdX9_entry wd1252 wd784 (sX9_entry N x2 l3) rfl rfl (fun _ => rfl) (Nat.le_of_ble_eq_true rfl) (Nat.le_of_ble_eq_true rfl) (Nat.le_of_ble_eq_true rfl) rfl (Nat.le_of_ble_eq_true rfl) rfl (Nat.le_of_ble_eq_true rfl) (hX7_readBuild.at 66 rfl rfl) (fun x3 => ?_)
    refine os_iload (v := k0) 0 rfl (hX7_readBuild.at 67 rfl rfl) ?_
    refine os_callV (cis := [5]) (b := l2) (As := [.int l3, .int x3, .int k0]) (st := []) (st' := (fun _ => [])) sl5_X5_placeUnit_X5_placeUnit mdX5_placeUnit wd1253 wd812 (sX5_placeUnit N l2 l3 x3 k0) rfl rfl (fun _ => rfl) (Nat.le_of_ble_eq_true rfl) (Nat.le_of_ble_eq_true rfl) (Nat.le_of_ble_eq_true rfl) rfl (Nat.le_of_ble_eq_true rfl) rfl (Nat.le_of_ble_eq_true rfl) (hX7_readBuild.at 68 rfl rfl) (fun _ => ?_)
    refine os_iconst (i := 1) (v := (1 : Int32)) rfl (hX7_readBuild.at 69 rfl rfl) ?_
    exact os_zret (Nat.le_of_ble_eq_true rfl) (Nat.le_of_ble_eq_true rfl) (hX7_readBuild.at 70 rfl rfl).1
  · refine os_aload_n (i := 0) (q := 0) (v := l0) 1 rfl rfl (hX7_readBuild.at 56 rfl rfl) ?_
    refine os_iconst (i := 4) (v := (4 : Int32)) rfl (hX7_readBuild.at 57 rfl rfl) ?_
    refine os_iload (v := l4) 5 rfl (hX7_readBuild.at 58 rfl rfl) ?_
    refine os_callU (cis := [6]) (x := (⟨RX7, "fail", "(II)Z"⟩ : MethodName)) (owner := RX6) (b := l0) (As := [.int (4 : Int32), .int l4]) (st := []) (st' := (fun r => .int r :: [])) sl6_X7ifail_X6_fail mdX6_fail rfl wd1133 wd1134 wd687 (sX6_fail N l0 (4 : Int32) l4) rfl rfl (fun _ => rfl) (Nat.le_of_ble_eq_true rfl) (Nat.le_of_ble_eq_true rfl) (Nat.le_of_ble_eq_true rfl) rfl (Nat.le_of_ble_eq_true rfl) rfl (Nat.le_of_ble_eq_true rfl) (hX7_readBuild.at 59 rfl rfl) (fun x4 => ?_)
    exact os_zret (Nat.le_of_ble_eq_true rfl) (Nat.le_of_ble_eq_true rfl) (hX7_readBuild.at 60 rfl rfl).1
set_option maxRecDepth 100000 in
set_option maxHeartbeats 4000000 in
theorem sX7_readBuild_82 (N : Nat) (l0 : Nat) (l1 : Nat) (l2 : Nat) (l3 : Int32) (l4 : Int32) (l5 : Int32) : osW (osFinM (fun r : Int32 => some (.int r)) 0 0) yX7_readBuild cX7_readBuild 7 (some .boolean) [] { frames := 4, cells := 0, slots := 0, locals := 91 } 0 0 82 [(0, .ref l0), (1, .ref l1), (2, .ref l2), (3, .int l3), (4, .int l4), (5, .int l5)] [] (qX7_readBuild_82 N l0 l1 l2 l3 l4 l5) := by
  unfold qX7_readBuild_82
  refine os_iload (v := l5) 5 rfl (hX7_readBuild.at 45 rfl rfl) ?_
  refine os_if_eq (off := 7) (tgt := 91) rfl (hX7_readBuild.at 46 rfl rfl) ?_ ?_
  · refine os_iconst (i := 0) (v := (0 : Int32)) rfl (hX7_readBuild.at 49 rfl rfl) ?_
    exact osW.sub [0, 1, 2, 3, 4] rfl (sX7_readBuild_92 N l0 l1 l2 l3 l4 (0 : Int32))
  · refine os_iconst (i := 1) (v := (1 : Int32)) rfl (hX7_readBuild.at 47 rfl rfl) ?_
    refine os_goto (off := 4) (tgt := 92) rfl (hX7_readBuild.at 48 rfl rfl) ?_
    exact osW.sub [0, 1, 2, 3, 4] rfl (sX7_readBuild_92 N l0 l1 l2 l3 l4 (1 : Int32))
set_option maxRecDepth 100000 in
set_option maxHeartbeats 4000000 in
theorem sX7_readBuild (N : Nat) (l0 : Nat) (l1 : Nat) (l2 : Nat) : osMet yX7_readBuild cX7_readBuild 7 (some .boolean) 4 91 0 0 (fun r : Int32 => some (.int r)) [.ref l0, .ref l1, .ref l2] (qX7_readBuild N l0 l1 l2) := by
  refine osMet.of plX7 (Nat.le_of_ble_eq_true rfl) (osW.rw (lv2 := [(0, .ref l0), (1, .ref l1), (2, .ref l2)]) ?_ rfl rfl rfl)
  unfold qX7_readBuild
  refine os_aload_n (i := 0) (q := 0) (v := l0) 0 rfl rfl (hX7_readBuild.at 0 rfl rfl) ?_
  refine os_aload_n (i := 1) (q := 1) (v := l1) 1 rfl rfl (hX7_readBuild.at 1 rfl rfl) ?_
  refine os_callU (cis := [6]) (x := (⟨RX7, "takeArea", "(LOrderSettler$Board;)I"⟩ : MethodName)) (owner := RX6) (b := l0) (As := [.ref l1]) (st := []) (st' := (fun r => .int r :: [])) sl6_X7itakeArea_X6_takeArea mdX6_takeArea rfl wd1129 wd1130 wd728 (sX6_takeArea N l0 l1) rfl rfl (fun _ => rfl) (Nat.le_of_ble_eq_true rfl) (Nat.le_of_ble_eq_true rfl) (Nat.le_of_ble_eq_true rfl) rfl (Nat.le_of_ble_eq_true rfl) rfl (Nat.le_of_ble_eq_true rfl) (hX7_readBuild.at 2 rfl rfl) (fun x1 => ?_)
  refine os_istore_n (i := 3) (q := 3) rfl (lv' := [(3, .int x1), (0, .ref l0), (1, .ref l1), (2, .ref l2)]) (Nat.le_of_ble_eq_true rfl) rfl (hX7_readBuild.at 3 rfl rfl) ?_
  refine os_iload_n (i := 3) (q := 3) (v := x1) 0 rfl rfl (hX7_readBuild.at 4 rfl rfl) ?_
  refine os_iconst (i := (-1)) (v := (-1 : Int32)) rfl (hX7_readBuild.at 5 rfl rfl) ?_
  refine os_icmp_ne (off := 5) (tgt := 13) rfl (hX7_readBuild.at 6 rfl rfl) ?_ ?_
  · refine os_aload_n (i := 2) (q := 2) (v := l2) 3 rfl rfl (hX7_readBuild.at 9 rfl rfl) ?_
    refine os_iload_n (i := 3) (q := 3) (v := x1) 0 rfl rfl (hX7_readBuild.at 10 rfl rfl) ?_
    refine os_callV (cis := [5]) (b := l2) (As := [.int x1]) (st := []) (st' := (fun r => .int r :: [])) sl5_X5_hasUnit_X5_hasUnit mdX5_hasUnit wd1132 wd807 (sX5_hasUnit N l2 x1) rfl rfl (fun _ => rfl) (Nat.le_of_ble_eq_true rfl) (Nat.le_of_ble_eq_true rfl) (Nat.le_of_ble_eq_true rfl) rfl (Nat.le_of_ble_eq_true rfl) rfl (Nat.le_of_ble_eq_true rfl) (hX7_readBuild.at 11 rfl rfl) (fun x2 => ?_)
    refine os_if_eq (off := 13) (tgt := 31) rfl (hX7_readBuild.at 12 rfl rfl) ?_ ?_
    · refine os_aload_n (i := 2) (q := 2) (v := l2) 3 rfl rfl (hX7_readBuild.at 19 rfl rfl) ?_
      refine os_aload_n (i := 1) (q := 1) (v := l1) 2 rfl rfl (hX7_readBuild.at 20 rfl rfl) ?_
      refine os_iload_n (i := 3) (q := 3) (v := x1) 0 rfl rfl (hX7_readBuild.at 21 rfl rfl) ?_
      refine os_callV (cis := [5]) (b := l2) (As := [.ref l1, .int x1]) (st := []) (st' := (fun r => .int r :: [])) sl5_X5_allowsBuild_X5_allowsBuild mdX5_allowsBuild wd1222 wd1223 (sX5_allowsBuild N l2 l1 x1) rfl rfl (fun _ => rfl) (Nat.le_of_ble_eq_true rfl) (Nat.le_of_ble_eq_true rfl) (Nat.le_of_ble_eq_true rfl) rfl (Nat.le_of_ble_eq_true rfl) rfl (Nat.le_of_ble_eq_true rfl) (hX7_readBuild.at 22 rfl rfl) (fun x3 => ?_)
      refine os_if_ne (off := 13) (tgt := 50) rfl (hX7_readBuild.at 23 rfl rfl) ?_ ?_
      · refine os_aload_n (i := 0) (q := 0) (v := l0) 1 rfl rfl (hX7_readBuild.at 30 rfl rfl) ?_
        refine os_getI fX7_132 (hX7_readBuild.at 31 rfl rfl) (fun x4 => ?_)
        refine os_istore (i := 4) (lv' := [(4, .int x4), (3, .int x1), (0, .ref l0), (1, .ref l1), (2, .ref l2)]) (Nat.le_of_ble_eq_true rfl) rfl (hX7_readBuild.at 32 rfl rfl) ?_
        refine os_aload_n (i := 0) (q := 0) (v := l0) 2 rfl rfl (hX7_readBuild.at 33 rfl rfl) ?_
        refine os_getstatic (j := 6) wd1249 ⟨rfl, Or.inl ⟨rfl, rfl⟩⟩ (hX7_readBuild.at 34 rfl rfl) (fun x5 => ?_)
        refine os_callU (cis := [6]) (x := (⟨RX7, "take", "(LOrderSettler$Word;)Z"⟩ : MethodName)) (owner := RX6) (b := l0) (As := [.ref x5]) (st := []) (st' := (fun r => .int r :: [])) sl6_X7itake_X6_take mdX6_take rfl wd1138 wd1139 wd677 (sX6_take N l0 x5) rfl rfl (fun _ => rfl) (Nat.le_of_ble_eq_true rfl) (Nat.le_of_ble_eq_true rfl) (Nat.le_of_ble_eq_true rfl) rfl (Nat.le_of_ble_eq_true rfl) rfl (Nat.le_of_ble_eq_true rfl) (hX7_readBuild.at 35 rfl rfl) (fun x6 => ?_)
        refine os_istore (i := 5) (lv' := [(5, .int x6), (4, .int x4), (3, .int x1), (0, .ref l0), (1, .ref l1), (2, .ref l2)]) (Nat.le_of_ble_eq_true rfl) rfl (hX7_readBuild.at 36 rfl rfl) ?_
        refine os_iload (v := x6) 0 rfl (hX7_readBuild.at 37 rfl rfl) ?_
        refine os_if_ne (off := 15) (tgt := 82) rfl (hX7_readBuild.at 38 rfl rfl) ?_ ?_
        · exact osW.sub [3, 4, 5, 2, 1, 0] rfl (sX7_readBuild_82 N l0 l1 l2 x1 x4 x6)
        · refine os_aload_n (i := 0) (q := 0) (v := l0) 3 rfl rfl (hX7_readBuild.at 39 rfl rfl) ?_
          refine os_getstatic (j := 5) wd1250 ⟨rfl, Or.inl ⟨rfl, rfl⟩⟩ (hX7_readBuild.at 40 rfl rfl) (fun x7 => ?_)
          refine os_callU (cis := [6]) (x := (⟨RX7, "takeOrFail", "(LOrderSettler$Word;)Z"⟩ : MethodName)) (owner := RX6) (b := l0) (As := [.ref x7]) (st := []) (st' := (fun r => .int r :: [])) sl6_X7itakeOrFail_X6_takeOrFail mdX6_takeOrFail rfl wd1182 wd1183 wd1186 (sX6_takeOrFail N l0 x7) rfl rfl (fun _ => rfl) (Nat.le_of_ble_eq_true rfl) (Nat.le_of_ble_eq_true rfl) (Nat.le_of_ble_eq_true rfl) rfl (Nat.le_of_ble_eq_true rfl) rfl (Nat.le_of_ble_eq_true rfl) (hX7_readBuild.at 41 rfl rfl) (fun x8 => ?_)
          refine os_if_ne (off := 5) (tgt := 82) rfl (hX7_readBuild.at 42 rfl rfl) ?_ ?_
          · exact osW.sub [3, 4, 5, 2, 1, 0] rfl (sX7_readBuild_82 N l0 l1 l2 x1 x4 x6)
          · refine os_iconst (i := 0) (v := (0 : Int32)) rfl (hX7_readBuild.at 43 rfl rfl) ?_
            exact os_zret (Nat.le_of_ble_eq_true rfl) (Nat.le_of_ble_eq_true rfl) (hX7_readBuild.at 44 rfl rfl).1
      · refine os_aload_n (i := 0) (q := 0) (v := l0) 1 rfl rfl (hX7_readBuild.at 24 rfl rfl) ?_
        refine os_iconst (i := 4) (v := (4 : Int32)) rfl (hX7_readBuild.at 25 rfl rfl) ?_
        refine os_aload_n (i := 0) (q := 0) (v := l0) 1 rfl rfl (hX7_readBuild.at 26 rfl rfl) ?_
        refine os_getI fX7_68 (hX7_readBuild.at 27 rfl rfl) (fun x9 => ?_)
        refine os_callU (cis := [6]) (x := (⟨RX7, "fail", "(II)Z"⟩ : MethodName)) (owner := RX6) (b := l0) (As := [.int (4 : Int32), .int x9]) (st := []) (st' := (fun r => .int r :: [])) sl6_X7ifail_X6_fail mdX6_fail rfl wd1133 wd1134 wd687 (sX6_fail N l0 (4 : Int32) x9) rfl rfl (fun _ => rfl) (Nat.le_of_ble_eq_true rfl) (Nat.le_of_ble_eq_true rfl) (Nat.le_of_ble_eq_true rfl) rfl (Nat.le_of_ble_eq_true rfl) rfl (Nat.le_of_ble_eq_true rfl) (hX7_readBuild.at 28 rfl rfl) (fun x10 => ?_)
        exact os_zret (Nat.le_of_ble_eq_true rfl) (Nat.le_of_ble_eq_true rfl) (hX7_readBuild.at 29 rfl rfl).1
    · refine os_aload_n (i := 0) (q := 0) (v := l0) 1 rfl rfl (hX7_readBuild.at 13 rfl rfl) ?_
      refine os_iconst (i := 3) (v := (3 : Int32)) rfl (hX7_readBuild.at 14 rfl rfl) ?_
      refine os_aload_n (i := 0) (q := 0) (v := l0) 1 rfl rfl (hX7_readBuild.at 15 rfl rfl) ?_
      refine os_getI fX7_68 (hX7_readBuild.at 16 rfl rfl) (fun x11 => ?_)
      refine os_callU (cis := [6]) (x := (⟨RX7, "fail", "(II)Z"⟩ : MethodName)) (owner := RX6) (b := l0) (As := [.int (3 : Int32), .int x11]) (st := []) (st' := (fun r => .int r :: [])) sl6_X7ifail_X6_fail mdX6_fail rfl wd1133 wd1134 wd687 (sX6_fail N l0 (3 : Int32) x11) rfl rfl (fun _ => rfl) (Nat.le_of_ble_eq_true rfl) (Nat.le_of_ble_eq_true rfl) (Nat.le_of_ble_eq_true rfl) rfl (Nat.le_of_ble_eq_true rfl) rfl (Nat.le_of_ble_eq_true rfl) (hX7_readBuild.at 17 rfl rfl) (fun x12 => ?_)
      exact os_zret (Nat.le_of_ble_eq_true rfl) (Nat.le_of_ble_eq_true rfl) (hX7_readBuild.at 18 rfl rfl).1
  · refine os_iconst (i := 0) (v := (0 : Int32)) rfl (hX7_readBuild.at 7 rfl rfl) ?_
    exact os_zret (Nat.le_of_ble_eq_true rfl) (Nat.le_of_ble_eq_true rfl) (hX7_readBuild.at 8 rfl rfl).1
-- X7_readRemoval
def KX7_readRemoval : List (Nat × Nat × Instr) := [(0, 1, .aload_n 0), (1, 1, .aload_n 1), (2, 3, .invokevirtual 60), (5, 1, .istore_n 3), (6, 1, .iload_n 3), (7, 1, .iconst (-1)), (8, 3, .if_icmp .ne 5), (11, 1, .iconst 0), (12, 1, .ireturn), (13, 1, .aload_n 2), (14, 1, .iload_n 3), (15, 3, .invokevirtual 64), (18, 3, .ifCond .ne 13), (21, 1, .aload_n 0), (22, 1, .iconst 2), (23, 1, .aload_n 0), (24, 3, .getfield 68), (27, 3, .invokevirtual 71), (30, 1, .ireturn), (31, 1, .aload_n 2), (32, 1, .aload_n 2), (33, 3, .getfield 158), (36, 1, .iload_n 3), (37, 3, .invokestatic 150), (40, 3, .invokevirtual 161), (43, 3, .ifCond .ne 13), (46, 1, .aload_n 0), (47, 1, .iconst 4), (48, 1, .aload_n 0), (49, 3, .getfield 68), (52, 3, .invokevirtual 71), (55, 1, .ireturn), (56, 1, .aload_n 2), (57, 1, .iload_n 3), (58, 1, .iconst (-1)), (59, 1, .iconst (-1)), (60, 3, .invokevirtual 154), (63, 1, .iconst 1), (64, 1, .ireturn)]
theorem hX7_readRemoval : osDs cX7_readRemoval KX7_readRemoval := by
  show ∀ q ∈ KX7_readRemoval, decode cX7_readRemoval q.1 = .ok (q.2.2, q.2.1)
  decide +kernel
def qX7_readRemoval (N : Nat) (l0 : Nat) (l1 : Nat) (l2 : Nat) : osM Int32 := osbind (osrecv [6] l0 (qX6_takeArea N l0 l1)) fun x1 => osite (x1 = (-1 : Int32)) (osretZ (0 : Int32)) (osbind (osrecv [5] l2 (qX5_hasUnit N l2 x1)) fun x2 => osite (x2 = 0) (osbind (osgI [6] 7 l0) fun x8 => osbind (osrecv [6] l0 (qX6_fail N l0 (2 : Int32) x8)) fun x9 => osretZ x9) (osbind (osgR [5] 6 l2) fun x3 => osbind (qX9_entry N x3 x1) fun x4 => osbind (osrecv [5] l2 (qX5_needsRemoval N l2 x4)) fun x5 => osite (x5 = 0) (osbind (osgI [6] 7 l0) fun x6 => osbind (osrecv [6] l0 (qX6_fail N l0 (4 : Int32) x6)) fun x7 => osretZ x7) (osbind (osrecv [5] l2 (qX5_placeUnit N l2 x1 (-1 : Int32) (-1 : Int32))) fun _ => osretZ (1 : Int32))))
set_option maxRecDepth 100000 in
set_option maxHeartbeats 4000000 in
theorem sX7_readRemoval (N : Nat) (l0 : Nat) (l1 : Nat) (l2 : Nat) : osMet yX7_readRemoval cX7_readRemoval 4 (some .boolean) 3 66 0 0 (fun r : Int32 => some (.int r)) [.ref l0, .ref l1, .ref l2] (qX7_readRemoval N l0 l1 l2) := by
  refine osMet.of plX7 (Nat.le_of_ble_eq_true rfl) (osW.rw (lv2 := [(0, .ref l0), (1, .ref l1), (2, .ref l2)]) ?_ rfl rfl rfl)
  unfold qX7_readRemoval
  refine os_aload_n (i := 0) (q := 0) (v := l0) 0 rfl rfl (hX7_readRemoval.at 0 rfl rfl) ?_
  refine os_aload_n (i := 1) (q := 1) (v := l1) 1 rfl rfl (hX7_readRemoval.at 1 rfl rfl) ?_
  refine os_callU (cis := [6]) (x := (⟨RX7, "takeArea", "(LOrderSettler$Board;)I"⟩ : MethodName)) (owner := RX6) (b := l0) (As := [.ref l1]) (st := []) (st' := (fun r => .int r :: [])) sl6_X7itakeArea_X6_takeArea mdX6_takeArea rfl wd1129 wd1130 wd728 (sX6_takeArea N l0 l1) rfl rfl (fun _ => rfl) (Nat.le_of_ble_eq_true rfl) (Nat.le_of_ble_eq_true rfl) (Nat.le_of_ble_eq_true rfl) rfl (Nat.le_of_ble_eq_true rfl) rfl (Nat.le_of_ble_eq_true rfl) (hX7_readRemoval.at 2 rfl rfl) (fun x1 => ?_)
  refine os_istore_n (i := 3) (q := 3) rfl (lv' := [(3, .int x1), (0, .ref l0), (1, .ref l1), (2, .ref l2)]) (Nat.le_of_ble_eq_true rfl) rfl (hX7_readRemoval.at 3 rfl rfl) ?_
  refine os_iload_n (i := 3) (q := 3) (v := x1) 0 rfl rfl (hX7_readRemoval.at 4 rfl rfl) ?_
  refine os_iconst (i := (-1)) (v := (-1 : Int32)) rfl (hX7_readRemoval.at 5 rfl rfl) ?_
  refine os_icmp_ne (off := 5) (tgt := 13) rfl (hX7_readRemoval.at 6 rfl rfl) ?_ ?_
  · refine os_aload_n (i := 2) (q := 2) (v := l2) 3 rfl rfl (hX7_readRemoval.at 9 rfl rfl) ?_
    refine os_iload_n (i := 3) (q := 3) (v := x1) 0 rfl rfl (hX7_readRemoval.at 10 rfl rfl) ?_
    refine os_callV (cis := [5]) (b := l2) (As := [.int x1]) (st := []) (st' := (fun r => .int r :: [])) sl5_X5_hasUnit_X5_hasUnit mdX5_hasUnit wd1132 wd807 (sX5_hasUnit N l2 x1) rfl rfl (fun _ => rfl) (Nat.le_of_ble_eq_true rfl) (Nat.le_of_ble_eq_true rfl) (Nat.le_of_ble_eq_true rfl) rfl (Nat.le_of_ble_eq_true rfl) rfl (Nat.le_of_ble_eq_true rfl) (hX7_readRemoval.at 11 rfl rfl) (fun x2 => ?_)
    refine os_if_ne (off := 13) (tgt := 31) rfl (hX7_readRemoval.at 12 rfl rfl) ?_ ?_
    · refine os_aload_n (i := 2) (q := 2) (v := l2) 3 rfl rfl (hX7_readRemoval.at 19 rfl rfl) ?_
      refine os_aload_n (i := 2) (q := 2) (v := l2) 3 rfl rfl (hX7_readRemoval.at 20 rfl rfl) ?_
      refine os_getR fX7_158 (hX7_readRemoval.at 21 rfl rfl) (fun x3 => ?_)
      refine os_iload_n (i := 3) (q := 3) (v := x1) 0 rfl rfl (hX7_readRemoval.at 22 rfl rfl) ?_
      refine os_callSN (host := "OrderSettler") (As := [.ref x3, .int x1]) (st := [.ref l2]) (st' := (fun r => .int r :: [.ref l2])) mdX9_entry wd1252 wd784 (sX9_entry N x3 x1) rfl rfl (fun _ => rfl) (Nat.le_of_ble_eq_true rfl) (Nat.le_of_ble_eq_true rfl) (Nat.le_of_ble_eq_true rfl) rfl (Nat.le_of_ble_eq_true rfl) rfl (Nat.le_of_ble_eq_true rfl) (hX7_readRemoval.at 23 rfl rfl) (fun x4 => ?_)
      refine os_callV (cis := [5]) (b := l2) (As := [.int x4]) (st := []) (st' := (fun r => .int r :: [])) sl5_X5_needsRemoval_X5_needsRemoval mdX5_needsRemoval wd1260 wd1261 (sX5_needsRemoval N l2 x4) rfl rfl (fun _ => rfl) (Nat.le_of_ble_eq_true rfl) (Nat.le_of_ble_eq_true rfl) (Nat.le_of_ble_eq_true rfl) rfl (Nat.le_of_ble_eq_true rfl) rfl (Nat.le_of_ble_eq_true rfl) (hX7_readRemoval.at 24 rfl rfl) (fun x5 => ?_)
      refine os_if_ne (off := 13) (tgt := 56) rfl (hX7_readRemoval.at 25 rfl rfl) ?_ ?_
      · refine os_aload_n (i := 2) (q := 2) (v := l2) 3 rfl rfl (hX7_readRemoval.at 32 rfl rfl) ?_
        refine os_iload_n (i := 3) (q := 3) (v := x1) 0 rfl rfl (hX7_readRemoval.at 33 rfl rfl) ?_
        refine os_iconst (i := (-1)) (v := (-1 : Int32)) rfl (hX7_readRemoval.at 34 rfl rfl) ?_
        refine os_iconst (i := (-1)) (v := (-1 : Int32)) rfl (hX7_readRemoval.at 35 rfl rfl) ?_
        refine os_callV (cis := [5]) (b := l2) (As := [.int x1, .int (-1 : Int32), .int (-1 : Int32)]) (st := []) (st' := (fun _ => [])) sl5_X5_placeUnit_X5_placeUnit mdX5_placeUnit wd1253 wd812 (sX5_placeUnit N l2 x1 (-1 : Int32) (-1 : Int32)) rfl rfl (fun _ => rfl) (Nat.le_of_ble_eq_true rfl) (Nat.le_of_ble_eq_true rfl) (Nat.le_of_ble_eq_true rfl) rfl (Nat.le_of_ble_eq_true rfl) rfl (Nat.le_of_ble_eq_true rfl) (hX7_readRemoval.at 36 rfl rfl) (fun _ => ?_)
        refine os_iconst (i := 1) (v := (1 : Int32)) rfl (hX7_readRemoval.at 37 rfl rfl) ?_
        exact os_zret (Nat.le_of_ble_eq_true rfl) (Nat.le_of_ble_eq_true rfl) (hX7_readRemoval.at 38 rfl rfl).1
      · refine os_aload_n (i := 0) (q := 0) (v := l0) 1 rfl rfl (hX7_readRemoval.at 26 rfl rfl) ?_
        refine os_iconst (i := 4) (v := (4 : Int32)) rfl (hX7_readRemoval.at 27 rfl rfl) ?_
        refine os_aload_n (i := 0) (q := 0) (v := l0) 1 rfl rfl (hX7_readRemoval.at 28 rfl rfl) ?_
        refine os_getI fX7_68 (hX7_readRemoval.at 29 rfl rfl) (fun x6 => ?_)
        refine os_callU (cis := [6]) (x := (⟨RX7, "fail", "(II)Z"⟩ : MethodName)) (owner := RX6) (b := l0) (As := [.int (4 : Int32), .int x6]) (st := []) (st' := (fun r => .int r :: [])) sl6_X7ifail_X6_fail mdX6_fail rfl wd1133 wd1134 wd687 (sX6_fail N l0 (4 : Int32) x6) rfl rfl (fun _ => rfl) (Nat.le_of_ble_eq_true rfl) (Nat.le_of_ble_eq_true rfl) (Nat.le_of_ble_eq_true rfl) rfl (Nat.le_of_ble_eq_true rfl) rfl (Nat.le_of_ble_eq_true rfl) (hX7_readRemoval.at 30 rfl rfl) (fun x7 => ?_)
        exact os_zret (Nat.le_of_ble_eq_true rfl) (Nat.le_of_ble_eq_true rfl) (hX7_readRemoval.at 31 rfl rfl).1
    · refine os_aload_n (i := 0) (q := 0) (v := l0) 1 rfl rfl (hX7_readRemoval.at 13 rfl rfl) ?_
      refine os_iconst (i := 2) (v := (2 : Int32)) rfl (hX7_readRemoval.at 14 rfl rfl) ?_
      refine os_aload_n (i := 0) (q := 0) (v := l0) 1 rfl rfl (hX7_readRemoval.at 15 rfl rfl) ?_
      refine os_getI fX7_68 (hX7_readRemoval.at 16 rfl rfl) (fun x8 => ?_)
      refine os_callU (cis := [6]) (x := (⟨RX7, "fail", "(II)Z"⟩ : MethodName)) (owner := RX6) (b := l0) (As := [.int (2 : Int32), .int x8]) (st := []) (st' := (fun r => .int r :: [])) sl6_X7ifail_X6_fail mdX6_fail rfl wd1133 wd1134 wd687 (sX6_fail N l0 (2 : Int32) x8) rfl rfl (fun _ => rfl) (Nat.le_of_ble_eq_true rfl) (Nat.le_of_ble_eq_true rfl) (Nat.le_of_ble_eq_true rfl) rfl (Nat.le_of_ble_eq_true rfl) rfl (Nat.le_of_ble_eq_true rfl) (hX7_readRemoval.at 17 rfl rfl) (fun x9 => ?_)
      exact os_zret (Nat.le_of_ble_eq_true rfl) (Nat.le_of_ble_eq_true rfl) (hX7_readRemoval.at 18 rfl rfl).1
  · refine os_iconst (i := 0) (v := (0 : Int32)) rfl (hX7_readRemoval.at 7 rfl rfl) ?_
    exact os_zret (Nat.le_of_ble_eq_true rfl) (Nat.le_of_ble_eq_true rfl) (hX7_readRemoval.at 8 rfl rfl).1
-- X3_readArea
def KX3_readArea : List (Nat × Nat × Instr) := [(0, 1, .aload_n 1), (1, 3, .getfield 86), (4, 2, .bipush 16), (6, 3, .if_icmp .lt 10), (9, 1, .aload_n 0), (10, 1, .iconst 5), (11, 1, .iload_n 2), (12, 3, .invokevirtual 82), (15, 1, .ireturn), (16, 1, .aload_n 0), (17, 3, .invokevirtual 89), (20, 2, .istore 4), (22, 2, .iload 4), (24, 3, .ifCond .ne 5), (27, 1, .iconst 0), (28, 1, .ireturn), (29, 1, .aload_n 1), (30, 2, .iload 4), (32, 3, .invokevirtual 93), (35, 1, .iconst (-1)), (36, 3, .if_icmp .eq 13), (39, 1, .aload_n 0), (40, 1, .iconst 3), (41, 1, .aload_n 0), (42, 3, .getfield 97), (45, 3, .invokevirtual 82), (48, 1, .ireturn), (49, 1, .aload_n 0), (50, 3, .getfield 34), (53, 2, .istore 5), (55, 1, .aload_n 0), (56, 3, .getstatic 100), (59, 3, .invokevirtual 44), (62, 2, .istore 6), (64, 2, .iload 6), (66, 3, .ifCond .eq 16), (69, 1, .iload_n 3), (70, 1, .iconst 2), (71, 3, .if_icmp .ne 11), (74, 1, .aload_n 0), (75, 1, .iconst 4), (76, 2, .iload 5), (78, 3, .invokevirtual 82), (81, 1, .ireturn), (82, 1, .aload_n 1), (83, 2, .iload 4), (85, 1, .iload_n 3), (86, 2, .iload 6), (88, 3, .invokevirtual 103), (91, 1, .iconst 1), (92, 1, .ireturn)]
theorem hX3_readArea : osDs cX3_readArea KX3_readArea := by
  show ∀ q ∈ KX3_readArea, decode cX3_readArea q.1 = .ok (q.2.2, q.2.1)
  decide +kernel
def qX3_readArea_82 (N : Nat) (l1 : Nat) (l3 : Int32) (l4 : Int32) (l6 : Int32) : osM Int32 := osbind (osrecv [0] l1 (qX0_addArea N l1 l4 l3 l6)) fun _ => osretZ (1 : Int32)
def qX3_readArea (N : Nat) (l0 : Nat) (l1 : Nat) (l2 : Int32) (l3 : Int32) : osM Int32 := osbind (osgI [0] 0 l1) fun x1 => osite (x1 < (16 : Int32)) (osbind (osrecv [3] l0 (qX6_takeName N l0)) fun x2 => osite (x2 = 0) (osretZ (0 : Int32)) (osbind (osrecv [0] l1 (qX0_findArea N l1 x2)) fun x3 => osite (x3 = (-1 : Int32)) (osbind (osgI [3] 6 l0) fun x4 => osbind (osstat 3) fun x5 => osbind (osrecv [3] l0 (qX6_take N l0 x5)) fun x6 => osite (x6 = 0) (qX3_readArea_82 N l1 l3 x2 x6) (osite (l3 = (2 : Int32)) (osbind (osrecv [3] l0 (qX6_fail N l0 (4 : Int32) x4)) fun x7 => osretZ x7) (qX3_readArea_82 N l1 l3 x2 x6))) (osbind (osgI [3] 7 l0) fun x8 => osbind (osrecv [3] l0 (qX6_fail N l0 (3 : Int32) x8)) fun x9 => osretZ x9))) (osbind (osrecv [3] l0 (qX6_fail N l0 (5 : Int32) l2)) fun x10 => osretZ x10)
set_option maxRecDepth 100000 in
set_option maxHeartbeats 4000000 in
theorem sX3_readArea_82 (N : Nat) (l1 : Nat) (l3 : Int32) (l4 : Int32) (l6 : Int32) : osW (osFinM (fun r : Int32 => some (.int r)) 0 0) yX3_readArea cX3_readArea 7 (some .boolean) [] { frames := 2, cells := 0, slots := 0, locals := 44 } 0 0 82 [(1, .ref l1), (3, .int l3), (4, .int l4), (6, .int l6)] [] (qX3_readArea_82 N l1 l3 l4 l6) := by
  unfold qX3_readArea_82
  refine os_aload_n (i := 1) (q := 1) (v := l1) 0 rfl rfl (hX3_readArea.at 44 rfl rfl) ?_
  refine os_iload (v := l4) 2 rfl (hX3_readArea.at 45 rfl rfl) ?_
  refine os_iload_n (i := 3) (q := 3) (v := l3) 1 rfl rfl (hX3_readArea.at 46 rfl rfl) ?_
  refine os_iload (v := l6) 3 rfl (hX3_readArea.at 47 rfl rfl) ?_
  refine os_callV (cis := [0]) (b := l1) (As := [.int l4, .int l3, .int l6]) (st := []) (st' := (fun _ => [])) sl0_X0_addArea_X0_addArea mdX0_addArea wd707 wd708 (sX0_addArea N l1 l4 l3 l6) rfl rfl (fun _ => rfl) (Nat.le_of_ble_eq_true rfl) (Nat.le_of_ble_eq_true rfl) (Nat.le_of_ble_eq_true rfl) rfl (Nat.le_of_ble_eq_true rfl) rfl (Nat.le_of_ble_eq_true rfl) (hX3_readArea.at 48 rfl rfl) (fun _ => ?_)
  refine os_iconst (i := 1) (v := (1 : Int32)) rfl (hX3_readArea.at 49 rfl rfl) ?_
  exact os_zret (Nat.le_of_ble_eq_true rfl) (Nat.le_of_ble_eq_true rfl) (hX3_readArea.at 50 rfl rfl).1
set_option maxRecDepth 100000 in
set_option maxHeartbeats 4000000 in
theorem sX3_readArea (N : Nat) (l0 : Nat) (l1 : Nat) (l2 : Int32) (l3 : Int32) : osMet yX3_readArea cX3_readArea 7 (some .boolean) 2 44 0 0 (fun r : Int32 => some (.int r)) [.ref l0, .ref l1, .int l2, .int l3] (qX3_readArea N l0 l1 l2 l3) := by
  refine osMet.of plX3 (Nat.le_of_ble_eq_true rfl) (osW.rw (lv2 := [(0, .ref l0), (1, .ref l1), (2, .int l2), (3, .int l3)]) ?_ rfl rfl rfl)
  unfold qX3_readArea
  refine os_aload_n (i := 1) (q := 1) (v := l1) 1 rfl rfl (hX3_readArea.at 0 rfl rfl) ?_
  refine os_getI fX3_86 (hX3_readArea.at 1 rfl rfl) (fun x1 => ?_)
  refine os_bipush (i := 16) (v := (16 : Int32)) rfl (hX3_readArea.at 2 rfl rfl) ?_
  refine os_icmp_lt (off := 10) (tgt := 16) rfl (hX3_readArea.at 3 rfl rfl) ?_ ?_
  · refine os_aload_n (i := 0) (q := 0) (v := l0) 0 rfl rfl (hX3_readArea.at 9 rfl rfl) ?_
    refine os_callU (cis := [3]) (x := (⟨RX3, "takeName", "()I"⟩ : MethodName)) (owner := RX6) (b := l0) (As := []) (st := []) (st' := (fun r => .int r :: [])) sl3_X3itakeName_X6_takeName mdX6_takeName rfl wd689 wd690 wd693 (sX6_takeName N l0 ) rfl rfl (fun _ => rfl) (Nat.le_of_ble_eq_true rfl) (Nat.le_of_ble_eq_true rfl) (Nat.le_of_ble_eq_true rfl) rfl (Nat.le_of_ble_eq_true rfl) rfl (Nat.le_of_ble_eq_true rfl) (hX3_readArea.at 10 rfl rfl) (fun x2 => ?_)
    refine os_istore (i := 4) (lv' := [(4, .int x2), (0, .ref l0), (1, .ref l1), (2, .int l2), (3, .int l3)]) (Nat.le_of_ble_eq_true rfl) rfl (hX3_readArea.at 11 rfl rfl) ?_
    refine os_iload (v := x2) 0 rfl (hX3_readArea.at 12 rfl rfl) ?_
    refine os_if_ne (off := 5) (tgt := 29) rfl (hX3_readArea.at 13 rfl rfl) ?_ ?_
    · refine os_aload_n (i := 1) (q := 1) (v := l1) 2 rfl rfl (hX3_readArea.at 16 rfl rfl) ?_
      refine os_iload (v := x2) 0 rfl (hX3_readArea.at 17 rfl rfl) ?_
      refine os_callV (cis := [0]) (b := l1) (As := [.int x2]) (st := []) (st' := (fun r => .int r :: [])) sl0_X0_findArea_X0_findArea mdX0_findArea wd701 wd702 (sX0_findArea N l1 x2) rfl rfl (fun _ => rfl) (Nat.le_of_ble_eq_true rfl) (Nat.le_of_ble_eq_true rfl) (Nat.le_of_ble_eq_true rfl) rfl (Nat.le_of_ble_eq_true rfl) rfl (Nat.le_of_ble_eq_true rfl) (hX3_readArea.at 18 rfl rfl) (fun x3 => ?_)
      refine os_iconst (i := (-1)) (v := (-1 : Int32)) rfl (hX3_readArea.at 19 rfl rfl) ?_
      refine os_icmp_eq (off := 13) (tgt := 49) rfl (hX3_readArea.at 20 rfl rfl) ?_ ?_
      · refine os_aload_n (i := 0) (q := 0) (v := l0) 1 rfl rfl (hX3_readArea.at 27 rfl rfl) ?_
        refine os_getI fX3_34 (hX3_readArea.at 28 rfl rfl) (fun x4 => ?_)
        refine os_istore (i := 5) (lv' := [(5, .int x4), (4, .int x2), (0, .ref l0), (1, .ref l1), (2, .int l2), (3, .int l3)]) (Nat.le_of_ble_eq_true rfl) rfl (hX3_readArea.at 29 rfl rfl) ?_
        refine os_aload_n (i := 0) (q := 0) (v := l0) 2 rfl rfl (hX3_readArea.at 30 rfl rfl) ?_
        refine os_getstatic (j := 3) wd705 ⟨rfl, Or.inl ⟨rfl, rfl⟩⟩ (hX3_readArea.at 31 rfl rfl) (fun x5 => ?_)
        refine os_callU (cis := [3]) (x := (⟨RX3, "take", "(LOrderSettler$Word;)Z"⟩ : MethodName)) (owner := RX6) (b := l0) (As := [.ref x5]) (st := []) (st' := (fun r => .int r :: [])) sl3_X3itake_X6_take mdX6_take rfl wd673 wd674 wd677 (sX6_take N l0 x5) rfl rfl (fun _ => rfl) (Nat.le_of_ble_eq_true rfl) (Nat.le_of_ble_eq_true rfl) (Nat.le_of_ble_eq_true rfl) rfl (Nat.le_of_ble_eq_true rfl) rfl (Nat.le_of_ble_eq_true rfl) (hX3_readArea.at 32 rfl rfl) (fun x6 => ?_)
        refine os_istore (i := 6) (lv' := [(6, .int x6), (5, .int x4), (4, .int x2), (0, .ref l0), (1, .ref l1), (2, .int l2), (3, .int l3)]) (Nat.le_of_ble_eq_true rfl) rfl (hX3_readArea.at 33 rfl rfl) ?_
        refine os_iload (v := x6) 0 rfl (hX3_readArea.at 34 rfl rfl) ?_
        refine os_if_eq (off := 16) (tgt := 82) rfl (hX3_readArea.at 35 rfl rfl) ?_ ?_
        · exact osW.sub [4, 6, 2, 0] rfl (sX3_readArea_82 N l1 l3 x2 x6)
        · refine os_iload_n (i := 3) (q := 3) (v := l3) 6 rfl rfl (hX3_readArea.at 36 rfl rfl) ?_
          refine os_iconst (i := 2) (v := (2 : Int32)) rfl (hX3_readArea.at 37 rfl rfl) ?_
          refine os_icmp_ne (off := 11) (tgt := 82) rfl (hX3_readArea.at 38 rfl rfl) ?_ ?_
          · exact osW.sub [4, 6, 2, 0] rfl (sX3_readArea_82 N l1 l3 x2 x6)
          · refine os_aload_n (i := 0) (q := 0) (v := l0) 3 rfl rfl (hX3_readArea.at 39 rfl rfl) ?_
            refine os_iconst (i := 4) (v := (4 : Int32)) rfl (hX3_readArea.at 40 rfl rfl) ?_
            refine os_iload (v := x4) 1 rfl (hX3_readArea.at 41 rfl rfl) ?_
            refine os_callU (cis := [3]) (x := (⟨RX3, "fail", "(II)Z"⟩ : MethodName)) (owner := RX6) (b := l0) (As := [.int (4 : Int32), .int x4]) (st := []) (st' := (fun r => .int r :: [])) sl3_X3ifail_X6_fail mdX6_fail rfl wd683 wd684 wd687 (sX6_fail N l0 (4 : Int32) x4) rfl rfl (fun _ => rfl) (Nat.le_of_ble_eq_true rfl) (Nat.le_of_ble_eq_true rfl) (Nat.le_of_ble_eq_true rfl) rfl (Nat.le_of_ble_eq_true rfl) rfl (Nat.le_of_ble_eq_true rfl) (hX3_readArea.at 42 rfl rfl) (fun x7 => ?_)
            exact os_zret (Nat.le_of_ble_eq_true rfl) (Nat.le_of_ble_eq_true rfl) (hX3_readArea.at 43 rfl rfl).1
      · refine os_aload_n (i := 0) (q := 0) (v := l0) 1 rfl rfl (hX3_readArea.at 21 rfl rfl) ?_
        refine os_iconst (i := 3) (v := (3 : Int32)) rfl (hX3_readArea.at 22 rfl rfl) ?_
        refine os_aload_n (i := 0) (q := 0) (v := l0) 1 rfl rfl (hX3_readArea.at 23 rfl rfl) ?_
        refine os_getI fX3_97 (hX3_readArea.at 24 rfl rfl) (fun x8 => ?_)
        refine os_callU (cis := [3]) (x := (⟨RX3, "fail", "(II)Z"⟩ : MethodName)) (owner := RX6) (b := l0) (As := [.int (3 : Int32), .int x8]) (st := []) (st' := (fun r => .int r :: [])) sl3_X3ifail_X6_fail mdX6_fail rfl wd683 wd684 wd687 (sX6_fail N l0 (3 : Int32) x8) rfl rfl (fun _ => rfl) (Nat.le_of_ble_eq_true rfl) (Nat.le_of_ble_eq_true rfl) (Nat.le_of_ble_eq_true rfl) rfl (Nat.le_of_ble_eq_true rfl) rfl (Nat.le_of_ble_eq_true rfl) (hX3_readArea.at 25 rfl rfl) (fun x9 => ?_)
        exact os_zret (Nat.le_of_ble_eq_true rfl) (Nat.le_of_ble_eq_true rfl) (hX3_readArea.at 26 rfl rfl).1
    · refine os_iconst (i := 0) (v := (0 : Int32)) rfl (hX3_readArea.at 14 rfl rfl) ?_
      exact os_zret (Nat.le_of_ble_eq_true rfl) (Nat.le_of_ble_eq_true rfl) (hX3_readArea.at 15 rfl rfl).1
  · refine os_aload_n (i := 0) (q := 0) (v := l0) 0 rfl rfl (hX3_readArea.at 4 rfl rfl) ?_
    refine os_iconst (i := 5) (v := (5 : Int32)) rfl (hX3_readArea.at 5 rfl rfl) ?_
    refine os_iload_n (i := 2) (q := 2) (v := l2) 2 rfl rfl (hX3_readArea.at 6 rfl rfl) ?_
    refine os_callU (cis := [3]) (x := (⟨RX3, "fail", "(II)Z"⟩ : MethodName)) (owner := RX6) (b := l0) (As := [.int (5 : Int32), .int l2]) (st := []) (st' := (fun r => .int r :: [])) sl3_X3ifail_X6_fail mdX6_fail rfl wd683 wd684 wd687 (sX6_fail N l0 (5 : Int32) l2) rfl rfl (fun _ => rfl) (Nat.le_of_ble_eq_true rfl) (Nat.le_of_ble_eq_true rfl) (Nat.le_of_ble_eq_true rfl) rfl (Nat.le_of_ble_eq_true rfl) rfl (Nat.le_of_ble_eq_true rfl) (hX3_readArea.at 7 rfl rfl) (fun x10 => ?_)
    exact os_zret (Nat.le_of_ble_eq_true rfl) (Nat.le_of_ble_eq_true rfl) (hX3_readArea.at 8 rfl rfl).1
-- X3_readBorder
def KX3_readBorder : List (Nat × Nat × Instr) := [(0, 1, .aload_n 0), (1, 1, .aload_n 1), (2, 3, .invokevirtual 107), (5, 1, .istore_n 2), (6, 1, .iload_n 2), (7, 1, .iconst (-1)), (8, 3, .if_icmp .ne 5), (11, 1, .iconst 0), (12, 1, .ireturn), (13, 1, .aload_n 0), (14, 1, .aload_n 1), (15, 3, .invokevirtual 107), (18, 1, .istore_n 3), (19, 1, .iload_n 3), (20, 1, .iconst (-1)), (21, 3, .if_icmp .ne 5), (24, 1, .iconst 0), (25, 1, .ireturn), (26, 1, .iload_n 2), (27, 1, .iload_n 3), (28, 3, .if_icmp .eq 12), (31, 1, .aload_n 1), (32, 1, .iload_n 2), (33, 1, .iload_n 3), (34, 3, .invokevirtual 111), (37, 3, .ifCond .eq 13), (40, 1, .aload_n 0), (41, 1, .iconst 3), (42, 1, .aload_n 0), (43, 3, .getfield 97), (46, 3, .invokevirtual 82), (49, 1, .ireturn), (50, 1, .aload_n 0), (51, 3, .getfield 34), (54, 2, .istore 4), (56, 1, .aload_n 0), (57, 3, .getstatic 72), (60, 3, .invokevirtual 44), (63, 2, .istore 5), (65, 2, .iload 5), (67, 3, .ifCond .ne 17), (70, 1, .aload_n 0), (71, 3, .getstatic 79), (74, 3, .invokevirtual 44), (77, 3, .ifCond .eq 7), (80, 1, .iconst 1), (81, 3, .goto 4), (84, 1, .iconst 0), (85, 2, .istore 6), (87, 2, .iload 6), (89, 3, .ifCond .ne 25), (92, 1, .aload_n 1), (93, 1, .iload_n 2), (94, 1, .iconst 0), (95, 3, .invokevirtual 114), (98, 3, .ifCond .eq 16), (101, 1, .aload_n 1), (102, 1, .iload_n 3), (103, 1, .iconst 0), (104, 3, .invokevirtual 114), (107, 3, .ifCond .eq 7), (110, 1, .iconst 1), (111, 3, .goto 4), (114, 1, .iconst 0), (115, 2, .istore 7), (117, 2, .iload 5), (119, 3, .ifCond .ne 25), (122, 1, .aload_n 1), (123, 1, .iload_n 2), (124, 1, .iconst 1), (125, 3, .invokevirtual 114), (128, 3, .ifCond .eq 16), (131, 1, .aload_n 1), (132, 1, .iload_n 3), (133, 1, .iconst 1), (134, 3, .invokevirtual 114), (137, 3, .ifCond .eq 7), (140, 1, .iconst 1), (141, 3, .goto 4), (144, 1, .iconst 0), (145, 2, .istore 8), (147, 2, .iload 7), (149, 3, .ifCond .ne 33), (152, 2, .iload 8), (154, 3, .ifCond .ne 28), (157, 1, .aload_n 0), (158, 1, .iconst 4), (159, 2, .iload 5), (161, 3, .ifCond .ne 8), (164, 2, .iload 6), (166, 3, .ifCond .eq 8), (169, 2, .iload 4), (171, 3, .goto 7), (174, 1, .aload_n 0), (175, 3, .getfield 97), (178, 3, .invokevirtual 82), (181, 1, .ireturn), (182, 1, .aload_n 1), (183, 1, .iload_n 2), (184, 1, .iload_n 3), (185, 2, .iload 7), (187, 2, .iload 8), (189, 3, .invokevirtual 117), (192, 1, .iconst 1), (193, 1, .ireturn)]
theorem hX3_readBorder : osDs cX3_readBorder KX3_readBorder := by
  show ∀ q ∈ KX3_readBorder, decode cX3_readBorder q.1 = .ok (q.2.2, q.2.1)
  decide +kernel
def qX3_readBorder_40 (N : Nat) (l0 : Nat) : osM Int32 := osbind (osgI [3] 7 l0) fun x1 => osbind (osrecv [3] l0 (qX6_fail N l0 (3 : Int32) x1)) fun x2 => osretZ x2
def qX3_readBorder_182 (N : Nat) (l1 : Nat) (l2 : Int32) (l3 : Int32) (l7 : Int32) (l8 : Int32) : osM Int32 := osbind (osrecv [0] l1 (qX0_addBorder N l1 l2 l3 l7 l8)) fun _ => osretZ (1 : Int32)
def qX3_readBorder_178 (N : Nat) (k0 : Int32) (k1 : Int32) (k2 : Nat) : osM Int32 := osbind (osrecv [3] k2 (qX6_fail N k2 k1 k0)) fun x1 => osretZ x1
def qX3_readBorder_169 (N : Nat) (l4 : Int32) (k0 : Int32) (k1 : Nat) : osM Int32 := qX3_readBorder_178 N l4 k0 k1
def qX3_readBorder_145 (N : Nat) (l0 : Nat) (l1 : Nat) (l2 : Int32) (l3 : Int32) (l4 : Int32) (l5 : Int32) (l6 : Int32) (l7 : Int32) (k0 : Int32) : osM Int32 := osite (l7 = 0) (osite (k0 = 0) (osite (l5 = 0) (osite (l6 = 0) (osbind (osgI [3] 7 l0) fun x1 => qX3_readBorder_178 N x1 (4 : Int32) l0) (qX3_readBorder_169 N l4 (4 : Int32) l0)) (qX3_readBorder_169 N l4 (4 : Int32) l0)) (qX3_readBorder_182 N l1 l2 l3 l7 k0)) (qX3_readBorder_182 N l1 l2 l3 l7 k0)
def qX3_readBorder_144 (N : Nat) (l0 : Nat) (l1 : Nat) (l2 : Int32) (l3 : Int32) (l4 : Int32) (l5 : Int32) (l6 : Int32) (l7 : Int32) : osM Int32 := qX3_readBorder_145 N l0 l1 l2 l3 l4 l5 l6 l7 (0 : Int32)
def qX3_readBorder_115 (N : Nat) (l0 : Nat) (l1 : Nat) (l2 : Int32) (l3 : Int32) (l4 : Int32) (l5 : Int32) (l6 : Int32) (k0 : Int32) : osM Int32 := osite (l5 = 0) (osbind (osrecv [0] l1 (qX0_suits N l1 l2 (1 : Int32))) fun x1 => osite (x1 = 0) (qX3_readBorder_144 N l0 l1 l2 l3 l4 l5 l6 k0) (osbind (osrecv [0] l1 (qX0_suits N l1 l3 (1 : Int32))) fun x2 => osite (x2 = 0) (qX3_readBorder_144 N l0 l1 l2 l3 l4 l5 l6 k0) (qX3_readBorder_145 N l0 l1 l2 l3 l4 l5 l6 k0 (1 : Int32)))) (qX3_readBorder_144 N l0 l1 l2 l3 l4 l5 l6 k0)
def qX3_readBorder_114 (N : Nat) (l0 : Nat) (l1 : Nat) (l2 : Int32) (l3 : Int32) (l4 : Int32) (l5 : Int32) (l6 : Int32) : osM Int32 := qX3_readBorder_115 N l0 l1 l2 l3 l4 l5 l6 (0 : Int32)
def qX3_readBorder_85 (N : Nat) (l0 : Nat) (l1 : Nat) (l2 : Int32) (l3 : Int32) (l4 : Int32) (l5 : Int32) (k0 : Int32) : osM Int32 := osite (k0 = 0) (osbind (osrecv [0] l1 (qX0_suits N l1 l2 (0 : Int32))) fun x1 => osite (x1 = 0) (qX3_readBorder_114 N l0 l1 l2 l3 l4 l5 k0) (osbind (osrecv [0] l1 (qX0_suits N l1 l3 (0 : Int32))) fun x2 => osite (x2 = 0) (qX3_readBorder_114 N l0 l1 l2 l3 l4 l5 k0) (qX3_readBorder_115 N l0 l1 l2 l3 l4 l5 k0 (1 : Int32)))) (qX3_readBorder_114 N l0 l1 l2 l3 l4 l5 k0)
def qX3_readBorder_84 (N : Nat) (l0 : Nat) (l1 : Nat) (l2 : Int32) (l3 : Int32) (l4 : Int32) (l5 : Int32) : osM Int32 := qX3_readBorder_85 N l0 l1 l2 l3 l4 l5 (0 : Int32)
def qX3_readBorder (N : Nat) (l0 : Nat) (l1 : Nat) : osM Int32 := osbind (osrecv [3] l0 (qX6_takeArea N l0 l1)) fun x1 => osite (x1 = (-1 : Int32)) (osretZ (0 : Int32)) (osbind (osrecv [3] l0 (qX6_takeArea N l0 l1)) fun x2 => osite (x2 = (-1 : Int32)) (osretZ (0 : Int32)) (osite (x1 = x2) (qX3_readBorder_40 N l0) (osbind (osrecv [0] l1 (qX0_hasBorder N l1 x1 x2)) fun x3 => osite (x3 = 0) (osbind (osgI [3] 6 l0) fun x4 => osbind (osstat 5) fun x5 => osbind (osrecv [3] l0 (qX6_take N l0 x5)) fun x6 => osite (x6 = 0) (osbind (osstat 6) fun x7 => osbind (osrecv [3] l0 (qX6_take N l0 x7)) fun x8 => osite (x8 = 0) (qX3_readBorder_84 N l0 l1 x1 x2 x4 x6) (qX3_readBorder_85 N l0 l1 x1 x2 x4 x6 (1 : Int32))) (qX3_readBorder_84 N l0 l1 x1 x2 x4 x6)) (qX3_readBorder_40 N l0))))
set_option maxRecDepth 100000 in
set_option maxHeartbeats 4000000 in
theorem sX3_readBorder_40 (N : Nat) (l0 : Nat) : osW (osFinM (fun r : Int32 => some (.int r)) 0 0) yX3_readBorder cX3_readBorder 9 (some .boolean) [] { frames := 3, cells := 0, slots := 0, locals := 66 } 0 0 40 [(0, .ref l0)] [] (qX3_readBorder_40 N l0) := by
  unfold qX3_readBorder_40
  refine os_aload_n (i := 0) (q := 0) (v := l0) 0 rfl rfl (hX3_readBorder.at 26 rfl rfl) ?_
  refine os_iconst (i := 3) (v := (3 : Int32)) rfl (hX3_readBorder.at 27 rfl rfl) ?_
  refine os_aload_n (i := 0) (q := 0) (v := l0) 0 rfl rfl (hX3_readBorder.at 28 rfl rfl) ?_
  refine os_getI fX3_97 (hX3_readBorder.at 29 rfl rfl) (fun x1 => ?_)
  refine os_callU (cis := [3]) (x := (⟨RX3, "fail", "(II)Z"⟩ : MethodName)) (owner := RX6) (b := l0) (As := [.int (3 : Int32), .int x1]) (st := []) (st' := (fun r => .int r :: [])) sl3_X3ifail_X6_fail mdX6_fail rfl wd683 wd684 wd687 (sX6_fail N l0 (3 : Int32) x1) rfl rfl (fun _ => rfl) (Nat.le_of_ble_eq_true rfl) (Nat.le_of_ble_eq_true rfl) (Nat.le_of_ble_eq_true rfl) rfl (Nat.le_of_ble_eq_true rfl) rfl (Nat.le_of_ble_eq_true rfl) (hX3_readBorder.at 30 rfl rfl) (fun x2 => ?_)
  exact os_zret (Nat.le_of_ble_eq_true rfl) (Nat.le_of_ble_eq_true rfl) (hX3_readBorder.at 31 rfl rfl).1
set_option maxRecDepth 100000 in
set_option maxHeartbeats 4000000 in
theorem sX3_readBorder_182 (N : Nat) (l1 : Nat) (l2 : Int32) (l3 : Int32) (l7 : Int32) (l8 : Int32) : osW (osFinM (fun r : Int32 => some (.int r)) 0 0) yX3_readBorder cX3_readBorder 9 (some .boolean) [] { frames := 3, cells := 0, slots := 0, locals := 66 } 0 0 182 [(1, .ref l1), (2, .int l2), (3, .int l3), (7, .int l7), (8, .int l8)] [] (qX3_readBorder_182 N l1 l2 l3 l7 l8) := by
  unfold qX3_readBorder_182
  refine os_aload_n (i := 1) (q := 1) (v := l1) 0 rfl rfl (hX3_readBorder.at 97 rfl rfl) ?_
  refine os_iload_n (i := 2) (q := 2) (v := l2) 1 rfl rfl (hX3_readBorder.at 98 rfl rfl) ?_
  refine os_iload_n (i := 3) (q := 3) (v := l3) 2 rfl rfl (hX3_readBorder.at 99 rfl rfl) ?_
  refine os_iload (v := l7) 3 rfl (hX3_readBorder.at 100 rfl rfl) ?_
  refine os_iload (v := l8) 4 rfl (hX3_readBorder.at 101 rfl rfl) ?_
  refine os_callV (cis := [0]) (b := l1) (As := [.int l2, .int l3, .int l7, .int l8]) (st := []) (st' := (fun _ => [])) sl0_X0_addBorder_X0_addBorder mdX0_addBorder wd751 wd752 (sX0_addBorder N l1 l2 l3 l7 l8) rfl rfl (fun _ => rfl) (Nat.le_of_ble_eq_true rfl) (Nat.le_of_ble_eq_true rfl) (Nat.le_of_ble_eq_true rfl) rfl (Nat.le_of_ble_eq_true rfl) rfl (Nat.le_of_ble_eq_true rfl) (hX3_readBorder.at 102 rfl rfl) (fun _ => ?_)
  refine os_iconst (i := 1) (v := (1 : Int32)) rfl (hX3_readBorder.at 103 rfl rfl) ?_
  exact os_zret (Nat.le_of_ble_eq_true rfl) (Nat.le_of_ble_eq_true rfl) (hX3_readBorder.at 104 rfl rfl).1
set_option maxRecDepth 100000 in
set_option maxHeartbeats 4000000 in
theorem sX3_readBorder_178 (N : Nat) (k0 : Int32) (k1 : Int32) (k2 : Nat) : osW (osFinM (fun r : Int32 => some (.int r)) 0 0) yX3_readBorder cX3_readBorder 9 (some .boolean) [] { frames := 3, cells := 0, slots := 0, locals := 66 } 0 0 178 [] [.int k0, .int k1, .ref k2] (qX3_readBorder_178 N k0 k1 k2) := by
  unfold qX3_readBorder_178
  refine os_callU (cis := [3]) (x := (⟨RX3, "fail", "(II)Z"⟩ : MethodName)) (owner := RX6) (b := k2) (As := [.int k1, .int k0]) (st := []) (st' := (fun r => .int r :: [])) sl3_X3ifail_X6_fail mdX6_fail rfl wd683 wd684 wd687 (sX6_fail N k2 k1 k0) rfl rfl (fun _ => rfl) (Nat.le_of_ble_eq_true rfl) (Nat.le_of_ble_eq_true rfl) (Nat.le_of_ble_eq_true rfl) rfl (Nat.le_of_ble_eq_true rfl) rfl (Nat.le_of_ble_eq_true rfl) (hX3_readBorder.at 95 rfl rfl) (fun x1 => ?_)
  exact os_zret (Nat.le_of_ble_eq_true rfl) (Nat.le_of_ble_eq_true rfl) (hX3_readBorder.at 96 rfl rfl).1
set_option maxRecDepth 100000 in
set_option maxHeartbeats 4000000 in
theorem sX3_readBorder_169 (N : Nat) (l4 : Int32) (k0 : Int32) (k1 : Nat) : osW (osFinM (fun r : Int32 => some (.int r)) 0 0) yX3_readBorder cX3_readBorder 9 (some .boolean) [] { frames := 3, cells := 0, slots := 0, locals := 66 } 0 0 169 [(4, .int l4)] [.int k0, .ref k1] (qX3_readBorder_169 N l4 k0 k1) := by
  unfold qX3_readBorder_169
  refine os_iload (v := l4) 0 rfl (hX3_readBorder.at 91 rfl rfl) ?_
  refine os_goto (off := 7) (tgt := 178) rfl (hX3_readBorder.at 92 rfl rfl) ?_
  exact osW.sub [] rfl (sX3_readBorder_178 N l4 k0 k1)
set_option maxRecDepth 100000 in
set_option maxHeartbeats 4000000 in
theorem sX3_readBorder_145 (N : Nat) (l0 : Nat) (l1 : Nat) (l2 : Int32) (l3 : Int32) (l4 : Int32) (l5 : Int32) (l6 : Int32) (l7 : Int32) (k0 : Int32) : osW (osFinM (fun r : Int32 => some (.int r)) 0 0) yX3_readBorder cX3_readBorder 9 (some .boolean) [] { frames := 3, cells := 0, slots := 0, locals := 66 } 0 0 145 [(0, .ref l0), (1, .ref l1), (2, .int l2), (3, .int l3), (4, .int l4), (5, .int l5), (6, .int l6), (7, .int l7)] [.int k0] (qX3_readBorder_145 N l0 l1 l2 l3 l4 l5 l6 l7 k0) := by
  unfold qX3_readBorder_145
  refine os_istore (i := 8) (lv' := [(8, .int k0), (0, .ref l0), (1, .ref l1), (2, .int l2), (3, .int l3), (4, .int l4), (5, .int l5), (6, .int l6), (7, .int l7)]) (Nat.le_of_ble_eq_true rfl) rfl (hX3_readBorder.at 80 rfl rfl) ?_
  refine os_iload (v := l7) 8 rfl (hX3_readBorder.at 81 rfl rfl) ?_
  refine os_if_ne (off := 33) (tgt := 182) rfl (hX3_readBorder.at 82 rfl rfl) ?_ ?_
  · exact osW.sub [2, 3, 4, 8, 0] rfl (sX3_readBorder_182 N l1 l2 l3 l7 k0)
  · refine os_iload (v := k0) 0 rfl (hX3_readBorder.at 83 rfl rfl) ?_
    refine os_if_ne (off := 28) (tgt := 182) rfl (hX3_readBorder.at 84 rfl rfl) ?_ ?_
    · exact osW.sub [2, 3, 4, 8, 0] rfl (sX3_readBorder_182 N l1 l2 l3 l7 k0)
    · refine os_aload_n (i := 0) (q := 0) (v := l0) 1 rfl rfl (hX3_readBorder.at 85 rfl rfl) ?_
      refine os_iconst (i := 4) (v := (4 : Int32)) rfl (hX3_readBorder.at 86 rfl rfl) ?_
      refine os_iload (v := l5) 6 rfl (hX3_readBorder.at 87 rfl rfl) ?_
      refine os_if_ne (off := 8) (tgt := 169) rfl (hX3_readBorder.at 88 rfl rfl) ?_ ?_
      · exact osW.sub [5] rfl (sX3_readBorder_169 N l4 (4 : Int32) l0)
      · refine os_iload (v := l6) 7 rfl (hX3_readBorder.at 89 rfl rfl) ?_
        refine os_if_eq (off := 8) (tgt := 174) rfl (hX3_readBorder.at 90 rfl rfl) ?_ ?_
        · refine os_aload_n (i := 0) (q := 0) (v := l0) 1 rfl rfl (hX3_readBorder.at 93 rfl rfl) ?_
          refine os_getI fX3_97 (hX3_readBorder.at 94 rfl rfl) (fun x1 => ?_)
          exact osW.sub [] rfl (sX3_readBorder_178 N x1 (4 : Int32) l0)
        · exact osW.sub [5] rfl (sX3_readBorder_169 N l4 (4 : Int32) l0)
set_option maxRecDepth 100000 in
set_option maxHeartbeats 4000000 in
theorem sX3_readBorder_144 (N : Nat) (l0 : Nat) (l1 : Nat) (l2 : Int32) (l3 : Int32) (l4 : Int32) (l5 : Int32) (l6 : Int32) (l7 : Int32) : osW (osFinM (fun r : Int32 => some (.int r)) 0 0) yX3_readBorder cX3_readBorder 9 (some .boolean) [] { frames := 3, cells := 0, slots := 0, locals := 66 } 0 0 144 [(0, .ref l0), (1, .ref l1), (2, .int l2), (3, .int l3), (4, .int l4), (5, .int l5), (6, .int l6), (7, .int l7)] [] (qX3_readBorder_144 N l0 l1 l2 l3 l4 l5 l6 l7) := by
  unfold qX3_readBorder_144
  refine os_iconst (i := 0) (v := (0 : Int32)) rfl (hX3_readBorder.at 79 rfl rfl) ?_
  exact osW.sub [0, 1, 2, 3, 4, 5, 6, 7] rfl (sX3_readBorder_145 N l0 l1 l2 l3 l4 l5 l6 l7 (0 : Int32))
set_option maxRecDepth 100000 in
set_option maxHeartbeats 4000000 in
theorem sX3_readBorder_115 (N : Nat) (l0 : Nat) (l1 : Nat) (l2 : Int32) (l3 : Int32) (l4 : Int32) (l5 : Int32) (l6 : Int32) (k0 : Int32) : osW (osFinM (fun r : Int32 => some (.int r)) 0 0) yX3_readBorder cX3_readBorder 9 (some .boolean) [] { frames := 3, cells := 0, slots := 0, locals := 66 } 0 0 115 [(0, .ref l0), (1, .ref l1), (2, .int l2), (3, .int l3), (4, .int l4), (5, .int l5), (6, .int l6)] [.int k0] (qX3_readBorder_115 N l0 l1 l2 l3 l4 l5 l6 k0) := by
  unfold qX3_readBorder_115
  refine os_istore (i := 7) (lv' := [(7, .int k0), (0, .ref l0), (1, .ref l1), (2, .int l2), (3, .int l3), (4, .int l4), (5, .int l5), (6, .int l6)]) (Nat.le_of_ble_eq_true rfl) rfl (hX3_readBorder.at 64 rfl rfl) ?_
  refine os_iload (v := l5) 6 rfl (hX3_readBorder.at 65 rfl rfl) ?_
  refine os_if_ne (off := 25) (tgt := 144) rfl (hX3_readBorder.at 66 rfl rfl) ?_ ?_
  · exact osW.sub [1, 2, 3, 4, 5, 6, 7, 0] rfl (sX3_readBorder_144 N l0 l1 l2 l3 l4 l5 l6 k0)
  · refine os_aload_n (i := 1) (q := 1) (v := l1) 2 rfl rfl (hX3_readBorder.at 67 rfl rfl) ?_
    refine os_iload_n (i := 2) (q := 2) (v := l2) 3 rfl rfl (hX3_readBorder.at 68 rfl rfl) ?_
    refine os_iconst (i := 1) (v := (1 : Int32)) rfl (hX3_readBorder.at 69 rfl rfl) ?_
    refine os_callV (cis := [0]) (b := l1) (As := [.int l2, .int (1 : Int32)]) (st := []) (st' := (fun r => .int r :: [])) sl0_X0_suits_X0_suits mdX0_suits wd744 wd745 (sX0_suits N l1 l2 (1 : Int32)) rfl rfl (fun _ => rfl) (Nat.le_of_ble_eq_true rfl) (Nat.le_of_ble_eq_true rfl) (Nat.le_of_ble_eq_true rfl) rfl (Nat.le_of_ble_eq_true rfl) rfl (Nat.le_of_ble_eq_true rfl) (hX3_readBorder.at 70 rfl rfl) (fun x1 => ?_)
    refine os_if_eq (off := 16) (tgt := 144) rfl (hX3_readBorder.at 71 rfl rfl) ?_ ?_
    · exact osW.sub [1, 2, 3, 4, 5, 6, 7, 0] rfl (sX3_readBorder_144 N l0 l1 l2 l3 l4 l5 l6 k0)
    · refine os_aload_n (i := 1) (q := 1) (v := l1) 2 rfl rfl (hX3_readBorder.at 72 rfl rfl) ?_
      refine os_iload_n (i := 3) (q := 3) (v := l3) 4 rfl rfl (hX3_readBorder.at 73 rfl rfl) ?_
      refine os_iconst (i := 1) (v := (1 : Int32)) rfl (hX3_readBorder.at 74 rfl rfl) ?_
      refine os_callV (cis := [0]) (b := l1) (As := [.int l3, .int (1 : Int32)]) (st := []) (st' := (fun r => .int r :: [])) sl0_X0_suits_X0_suits mdX0_suits wd744 wd745 (sX0_suits N l1 l3 (1 : Int32)) rfl rfl (fun _ => rfl) (Nat.le_of_ble_eq_true rfl) (Nat.le_of_ble_eq_true rfl) (Nat.le_of_ble_eq_true rfl) rfl (Nat.le_of_ble_eq_true rfl) rfl (Nat.le_of_ble_eq_true rfl) (hX3_readBorder.at 75 rfl rfl) (fun x2 => ?_)
      refine os_if_eq (off := 7) (tgt := 144) rfl (hX3_readBorder.at 76 rfl rfl) ?_ ?_
      · exact osW.sub [1, 2, 3, 4, 5, 6, 7, 0] rfl (sX3_readBorder_144 N l0 l1 l2 l3 l4 l5 l6 k0)
      · refine os_iconst (i := 1) (v := (1 : Int32)) rfl (hX3_readBorder.at 77 rfl rfl) ?_
        refine os_goto (off := 4) (tgt := 145) rfl (hX3_readBorder.at 78 rfl rfl) ?_
        exact osW.sub [1, 2, 3, 4, 5, 6, 7, 0] rfl (sX3_readBorder_145 N l0 l1 l2 l3 l4 l5 l6 k0 (1 : Int32))
set_option maxRecDepth 100000 in
set_option maxHeartbeats 4000000 in
theorem sX3_readBorder_114 (N : Nat) (l0 : Nat) (l1 : Nat) (l2 : Int32) (l3 : Int32) (l4 : Int32) (l5 : Int32) (l6 : Int32) : osW (osFinM (fun r : Int32 => some (.int r)) 0 0) yX3_readBorder cX3_readBorder 9 (some .boolean) [] { frames := 3, cells := 0, slots := 0, locals := 66 } 0 0 114 [(0, .ref l0), (1, .ref l1), (2, .int l2), (3, .int l3), (4, .int l4), (5, .int l5), (6, .int l6)] [] (qX3_readBorder_114 N l0 l1 l2 l3 l4 l5 l6) := by
  unfold qX3_readBorder_114
  refine os_iconst (i := 0) (v := (0 : Int32)) rfl (hX3_readBorder.at 63 rfl rfl) ?_
  exact osW.sub [0, 1, 2, 3, 4, 5, 6] rfl (sX3_readBorder_115 N l0 l1 l2 l3 l4 l5 l6 (0 : Int32))
set_option maxRecDepth 100000 in
set_option maxHeartbeats 4000000 in
theorem sX3_readBorder_85 (N : Nat) (l0 : Nat) (l1 : Nat) (l2 : Int32) (l3 : Int32) (l4 : Int32) (l5 : Int32) (k0 : Int32) : osW (osFinM (fun r : Int32 => some (.int r)) 0 0) yX3_readBorder cX3_readBorder 9 (some .boolean) [] { frames := 3, cells := 0, slots := 0, locals := 66 } 0 0 85 [(0, .ref l0), (1, .ref l1), (2, .int l2), (3, .int l3), (4, .int l4), (5, .int l5)] [.int k0] (qX3_readBorder_85 N l0 l1 l2 l3 l4 l5 k0) := by
  unfold qX3_readBorder_85
  refine os_istore (i := 6) (lv' := [(6, .int k0), (0, .ref l0), (1, .ref l1), (2, .int l2), (3, .int l3), (4, .int l4), (5, .int l5)]) (Nat.le_of_ble_eq_true rfl) rfl (hX3_readBorder.at 48 rfl rfl) ?_
  refine os_iload (v := k0) 0 rfl (hX3_readBorder.at 49 rfl rfl) ?_
  refine os_if_ne (off := 25) (tgt := 114) rfl (hX3_readBorder.at 50 rfl rfl) ?_ ?_
  · exact osW.sub [1, 2, 3, 4, 5, 6, 0] rfl (sX3_readBorder_114 N l0 l1 l2 l3 l4 l5 k0)
  · refine os_aload_n (i := 1) (q := 1) (v := l1) 2 rfl rfl (hX3_readBorder.at 51 rfl rfl) ?_
    refine os_iload_n (i := 2) (q := 2) (v := l2) 3 rfl rfl (hX3_readBorder.at 52 rfl rfl) ?_
    refine os_iconst (i := 0) (v := (0 : Int32)) rfl (hX3_readBorder.at 53 rfl rfl) ?_
    refine os_callV (cis := [0]) (b := l1) (As := [.int l2, .int (0 : Int32)]) (st := []) (st' := (fun r => .int r :: [])) sl0_X0_suits_X0_suits mdX0_suits wd744 wd745 (sX0_suits N l1 l2 (0 : Int32)) rfl rfl (fun _ => rfl) (Nat.le_of_ble_eq_true rfl) (Nat.le_of_ble_eq_true rfl) (Nat.le_of_ble_eq_true rfl) rfl (Nat.le_of_ble_eq_true rfl) rfl (Nat.le_of_ble_eq_true rfl) (hX3_readBorder.at 54 rfl rfl) (fun x1 => ?_)
    refine os_if_eq (off := 16) (tgt := 114) rfl (hX3_readBorder.at 55 rfl rfl) ?_ ?_
    · exact osW.sub [1, 2, 3, 4, 5, 6, 0] rfl (sX3_readBorder_114 N l0 l1 l2 l3 l4 l5 k0)
    · refine os_aload_n (i := 1) (q := 1) (v := l1) 2 rfl rfl (hX3_readBorder.at 56 rfl rfl) ?_
      refine os_iload_n (i := 3) (q := 3) (v := l3) 4 rfl rfl (hX3_readBorder.at 57 rfl rfl) ?_
      refine os_iconst (i := 0) (v := (0 : Int32)) rfl (hX3_readBorder.at 58 rfl rfl) ?_
      refine os_callV (cis := [0]) (b := l1) (As := [.int l3, .int (0 : Int32)]) (st := []) (st' := (fun r => .int r :: [])) sl0_X0_suits_X0_suits mdX0_suits wd744 wd745 (sX0_suits N l1 l3 (0 : Int32)) rfl rfl (fun _ => rfl) (Nat.le_of_ble_eq_true rfl) (Nat.le_of_ble_eq_true rfl) (Nat.le_of_ble_eq_true rfl) rfl (Nat.le_of_ble_eq_true rfl) rfl (Nat.le_of_ble_eq_true rfl) (hX3_readBorder.at 59 rfl rfl) (fun x2 => ?_)
      refine os_if_eq (off := 7) (tgt := 114) rfl (hX3_readBorder.at 60 rfl rfl) ?_ ?_
      · exact osW.sub [1, 2, 3, 4, 5, 6, 0] rfl (sX3_readBorder_114 N l0 l1 l2 l3 l4 l5 k0)
      · refine os_iconst (i := 1) (v := (1 : Int32)) rfl (hX3_readBorder.at 61 rfl rfl) ?_
        refine os_goto (off := 4) (tgt := 115) rfl (hX3_readBorder.at 62 rfl rfl) ?_
        exact osW.sub [1, 2, 3, 4, 5, 6, 0] rfl (sX3_readBorder_115 N l0 l1 l2 l3 l4 l5 k0 (1 : Int32))
set_option maxRecDepth 100000 in
set_option maxHeartbeats 4000000 in
theorem sX3_readBorder_84 (N : Nat) (l0 : Nat) (l1 : Nat) (l2 : Int32) (l3 : Int32) (l4 : Int32) (l5 : Int32) : osW (osFinM (fun r : Int32 => some (.int r)) 0 0) yX3_readBorder cX3_readBorder 9 (some .boolean) [] { frames := 3, cells := 0, slots := 0, locals := 66 } 0 0 84 [(0, .ref l0), (1, .ref l1), (2, .int l2), (3, .int l3), (4, .int l4), (5, .int l5)] [] (qX3_readBorder_84 N l0 l1 l2 l3 l4 l5) := by
  unfold qX3_readBorder_84
  refine os_iconst (i := 0) (v := (0 : Int32)) rfl (hX3_readBorder.at 47 rfl rfl) ?_
  exact osW.sub [0, 1, 2, 3, 4, 5] rfl (sX3_readBorder_85 N l0 l1 l2 l3 l4 l5 (0 : Int32))
set_option maxRecDepth 100000 in
set_option maxHeartbeats 4000000 in
theorem sX3_readBorder (N : Nat) (l0 : Nat) (l1 : Nat) : osMet yX3_readBorder cX3_readBorder 9 (some .boolean) 3 66 0 0 (fun r : Int32 => some (.int r)) [.ref l0, .ref l1] (qX3_readBorder N l0 l1) := by
  refine osMet.of plX3 (Nat.le_of_ble_eq_true rfl) (osW.rw (lv2 := [(0, .ref l0), (1, .ref l1)]) ?_ rfl rfl rfl)
  unfold qX3_readBorder
  refine os_aload_n (i := 0) (q := 0) (v := l0) 0 rfl rfl (hX3_readBorder.at 0 rfl rfl) ?_
  refine os_aload_n (i := 1) (q := 1) (v := l1) 1 rfl rfl (hX3_readBorder.at 1 rfl rfl) ?_
  refine os_callU (cis := [3]) (x := (⟨RX3, "takeArea", "(LOrderSettler$Board;)I"⟩ : MethodName)) (owner := RX6) (b := l0) (As := [.ref l1]) (st := []) (st' := (fun r => .int r :: [])) sl3_X3itakeArea_X6_takeArea mdX6_takeArea rfl wd724 wd725 wd728 (sX6_takeArea N l0 l1) rfl rfl (fun _ => rfl) (Nat.le_of_ble_eq_true rfl) (Nat.le_of_ble_eq_true rfl) (Nat.le_of_ble_eq_true rfl) rfl (Nat.le_of_ble_eq_true rfl) rfl (Nat.le_of_ble_eq_true rfl) (hX3_readBorder.at 2 rfl rfl) (fun x1 => ?_)
  refine os_istore_n (i := 2) (q := 2) rfl (lv' := [(2, .int x1), (0, .ref l0), (1, .ref l1)]) (Nat.le_of_ble_eq_true rfl) rfl (hX3_readBorder.at 3 rfl rfl) ?_
  refine os_iload_n (i := 2) (q := 2) (v := x1) 0 rfl rfl (hX3_readBorder.at 4 rfl rfl) ?_
  refine os_iconst (i := (-1)) (v := (-1 : Int32)) rfl (hX3_readBorder.at 5 rfl rfl) ?_
  refine os_icmp_ne (off := 5) (tgt := 13) rfl (hX3_readBorder.at 6 rfl rfl) ?_ ?_
  · refine os_aload_n (i := 0) (q := 0) (v := l0) 1 rfl rfl (hX3_readBorder.at 9 rfl rfl) ?_
    refine os_aload_n (i := 1) (q := 1) (v := l1) 2 rfl rfl (hX3_readBorder.at 10 rfl rfl) ?_
    refine os_callU (cis := [3]) (x := (⟨RX3, "takeArea", "(LOrderSettler$Board;)I"⟩ : MethodName)) (owner := RX6) (b := l0) (As := [.ref l1]) (st := []) (st' := (fun r => .int r :: [])) sl3_X3itakeArea_X6_takeArea mdX6_takeArea rfl wd724 wd725 wd728 (sX6_takeArea N l0 l1) rfl rfl (fun _ => rfl) (Nat.le_of_ble_eq_true rfl) (Nat.le_of_ble_eq_true rfl) (Nat.le_of_ble_eq_true rfl) rfl (Nat.le_of_ble_eq_true rfl) rfl (Nat.le_of_ble_eq_true rfl) (hX3_readBorder.at 11 rfl rfl) (fun x2 => ?_)
    refine os_istore_n (i := 3) (q := 3) rfl (lv' := [(3, .int x2), (2, .int x1), (0, .ref l0), (1, .ref l1)]) (Nat.le_of_ble_eq_true rfl) rfl (hX3_readBorder.at 12 rfl rfl) ?_
    refine os_iload_n (i := 3) (q := 3) (v := x2) 0 rfl rfl (hX3_readBorder.at 13 rfl rfl) ?_
    refine os_iconst (i := (-1)) (v := (-1 : Int32)) rfl (hX3_readBorder.at 14 rfl rfl) ?_
    refine os_icmp_ne (off := 5) (tgt := 26) rfl (hX3_readBorder.at 15 rfl rfl) ?_ ?_
    · refine os_iload_n (i := 2) (q := 2) (v := x1) 1 rfl rfl (hX3_readBorder.at 18 rfl rfl) ?_
      refine os_iload_n (i := 3) (q := 3) (v := x2) 0 rfl rfl (hX3_readBorder.at 19 rfl rfl) ?_
      refine os_icmp_eq (off := 12) (tgt := 40) rfl (hX3_readBorder.at 20 rfl rfl) ?_ ?_
      · exact osW.sub [2] rfl (sX3_readBorder_40 N l0)
      · refine os_aload_n (i := 1) (q := 1) (v := l1) 3 rfl rfl (hX3_readBorder.at 21 rfl rfl) ?_
        refine os_iload_n (i := 2) (q := 2) (v := x1) 1 rfl rfl (hX3_readBorder.at 22 rfl rfl) ?_
        refine os_iload_n (i := 3) (q := 3) (v := x2) 0 rfl rfl (hX3_readBorder.at 23 rfl rfl) ?_
        refine os_callV (cis := [0]) (b := l1) (As := [.int x1, .int x2]) (st := []) (st' := (fun r => .int r :: [])) sl0_X0_hasBorder_X0_hasBorder mdX0_hasBorder wd732 wd733 (sX0_hasBorder N l1 x1 x2) rfl rfl (fun _ => rfl) (Nat.le_of_ble_eq_true rfl) (Nat.le_of_ble_eq_true rfl) (Nat.le_of_ble_eq_true rfl) rfl (Nat.le_of_ble_eq_true rfl) rfl (Nat.le_of_ble_eq_true rfl) (hX3_readBorder.at 24 rfl rfl) (fun x3 => ?_)
        refine os_if_eq (off := 13) (tgt := 50) rfl (hX3_readBorder.at 25 rfl rfl) ?_ ?_
        · refine os_aload_n (i := 0) (q := 0) (v := l0) 2 rfl rfl (hX3_readBorder.at 32 rfl rfl) ?_
          refine os_getI fX3_34 (hX3_readBorder.at 33 rfl rfl) (fun x4 => ?_)
          refine os_istore (i := 4) (lv' := [(4, .int x4), (3, .int x2), (2, .int x1), (0, .ref l0), (1, .ref l1)]) (Nat.le_of_ble_eq_true rfl) rfl (hX3_readBorder.at 34 rfl rfl) ?_
          refine os_aload_n (i := 0) (q := 0) (v := l0) 3 rfl rfl (hX3_readBorder.at 35 rfl rfl) ?_
          refine os_getstatic (j := 5) wd740 ⟨rfl, Or.inl ⟨rfl, rfl⟩⟩ (hX3_readBorder.at 36 rfl rfl) (fun x5 => ?_)
          refine os_callU (cis := [3]) (x := (⟨RX3, "take", "(LOrderSettler$Word;)Z"⟩ : MethodName)) (owner := RX6) (b := l0) (As := [.ref x5]) (st := []) (st' := (fun r => .int r :: [])) sl3_X3itake_X6_take mdX6_take rfl wd673 wd674 wd677 (sX6_take N l0 x5) rfl rfl (fun _ => rfl) (Nat.le_of_ble_eq_true rfl) (Nat.le_of_ble_eq_true rfl) (Nat.le_of_ble_eq_true rfl) rfl (Nat.le_of_ble_eq_true rfl) rfl (Nat.le_of_ble_eq_true rfl) (hX3_readBorder.at 37 rfl rfl) (fun x6 => ?_)
          refine os_istore (i := 5) (lv' := [(5, .int x6), (4, .int x4), (3, .int x2), (2, .int x1), (0, .ref l0), (1, .ref l1)]) (Nat.le_of_ble_eq_true rfl) rfl (hX3_readBorder.at 38 rfl rfl) ?_
          refine os_iload (v := x6) 0 rfl (hX3_readBorder.at 39 rfl rfl) ?_
          refine os_if_ne (off := 17) (tgt := 84) rfl (hX3_readBorder.at 40 rfl rfl) ?_ ?_
          · exact osW.sub [4, 5, 3, 2, 1, 0] rfl (sX3_readBorder_84 N l0 l1 x1 x2 x4 x6)
          · refine os_aload_n (i := 0) (q := 0) (v := l0) 4 rfl rfl (hX3_readBorder.at 41 rfl rfl) ?_
            refine os_getstatic (j := 6) wd742 ⟨rfl, Or.inl ⟨rfl, rfl⟩⟩ (hX3_readBorder.at 42 rfl rfl) (fun x7 => ?_)
            refine os_callU (cis := [3]) (x := (⟨RX3, "take", "(LOrderSettler$Word;)Z"⟩ : MethodName)) (owner := RX6) (b := l0) (As := [.ref x7]) (st := []) (st' := (fun r => .int r :: [])) sl3_X3itake_X6_take mdX6_take rfl wd673 wd674 wd677 (sX6_take N l0 x7) rfl rfl (fun _ => rfl) (Nat.le_of_ble_eq_true rfl) (Nat.le_of_ble_eq_true rfl) (Nat.le_of_ble_eq_true rfl) rfl (Nat.le_of_ble_eq_true rfl) rfl (Nat.le_of_ble_eq_true rfl) (hX3_readBorder.at 43 rfl rfl) (fun x8 => ?_)
            refine os_if_eq (off := 7) (tgt := 84) rfl (hX3_readBorder.at 44 rfl rfl) ?_ ?_
            · exact osW.sub [4, 5, 3, 2, 1, 0] rfl (sX3_readBorder_84 N l0 l1 x1 x2 x4 x6)
            · refine os_iconst (i := 1) (v := (1 : Int32)) rfl (hX3_readBorder.at 45 rfl rfl) ?_
              refine os_goto (off := 4) (tgt := 85) rfl (hX3_readBorder.at 46 rfl rfl) ?_
              exact osW.sub [4, 5, 3, 2, 1, 0] rfl (sX3_readBorder_85 N l0 l1 x1 x2 x4 x6 (1 : Int32))
        · exact osW.sub [2] rfl (sX3_readBorder_40 N l0)
    · refine os_iconst (i := 0) (v := (0 : Int32)) rfl (hX3_readBorder.at 16 rfl rfl) ?_
      exact os_zret (Nat.le_of_ble_eq_true rfl) (Nat.le_of_ble_eq_true rfl) (hX3_readBorder.at 17 rfl rfl).1
  · refine os_iconst (i := 0) (v := (0 : Int32)) rfl (hX3_readBorder.at 7 rfl rfl) ?_
    exact os_zret (Nat.le_of_ble_eq_true rfl) (Nat.le_of_ble_eq_true rfl) (hX3_readBorder.at 8 rfl rfl).1
-- X3_readHome
def KX3_readHome : List (Nat × Nat × Instr) := [(0, 1, .aload_n 0), (1, 1, .aload_n 1), (2, 3, .invokevirtual 107), (5, 2, .istore 4), (7, 2, .iload 4), (9, 1, .iconst (-1)), (10, 3, .if_icmp .ne 5), (13, 1, .iconst 0), (14, 1, .ireturn), (15, 1, .aload_n 1), (16, 3, .getfield 136), (19, 2, .iload 4), (21, 3, .invokestatic 140), (24, 1, .iconst (-1)), (25, 3, .if_icmp .eq 13), (28, 1, .aload_n 0), (29, 1, .iconst 3), (30, 1, .aload_n 0), (31, 3, .getfield 97), (34, 3, .invokevirtual 82), (37, 1, .ireturn), (38, 1, .aload_n 1), (39, 3, .getfield 144), (42, 2, .iload 4), (44, 3, .invokestatic 147), (47, 3, .ifCond .ne 13), (50, 1, .aload_n 0), (51, 1, .iconst 4), (52, 1, .aload_n 0), (53, 3, .getfield 97), (56, 3, .invokevirtual 82), (59, 1, .ireturn), (60, 1, .aload_n 1), (61, 2, .iload 4), (63, 1, .iload_n 3), (64, 3, .invokevirtual 150), (67, 1, .aload_n 2), (68, 2, .iload 4), (70, 1, .iload_n 3), (71, 3, .invokevirtual 154), (74, 1, .iconst 1), (75, 1, .ireturn)]
theorem hX3_readHome : osDs cX3_readHome KX3_readHome := by
  show ∀ q ∈ KX3_readHome, decode cX3_readHome q.1 = .ok (q.2.2, q.2.1)
  decide +kernel
def qX3_readHome (N : Nat) (l0 : Nat) (l1 : Nat) (l2 : Nat) (l3 : Int32) : osM Int32 := osbind (osrecv [3] l0 (qX6_takeArea N l0 l1)) fun x1 => osite (x1 = (-1 : Int32)) (osretZ (0 : Int32)) (osbind (osgR [0] 6 l1) fun x2 => osbind (qX9_entry N x2 x1) fun x3 => osite (x3 = (-1 : Int32)) (osbind (osgI [0] 4 l1) fun x4 => osbind (qX9_has N x4 x1) fun x5 => osite (x5 = 0) (osbind (osgI [3] 7 l0) fun x6 => osbind (osrecv [3] l0 (qX6_fail N l0 (4 : Int32) x6)) fun x7 => osretZ x7) (osbind (osrecv [0] l1 (qX0_makeHome N l1 x1 l3)) fun _ => osbind (osrecv [5] l2 (qX5_giveCenter N l2 x1 l3)) fun _ => osretZ (1 : Int32))) (osbind (osgI [3] 7 l0) fun x8 => osbind (osrecv [3] l0 (qX6_fail N l0 (3 : Int32) x8)) fun x9 => osretZ x9))
set_option maxRecDepth 100000 in
set_option maxHeartbeats 4000000 in
theorem sX3_readHome (N : Nat) (l0 : Nat) (l1 : Nat) (l2 : Nat) (l3 : Int32) : osMet yX3_readHome cX3_readHome 5 (some .boolean) 3 66 0 0 (fun r : Int32 => some (.int r)) [.ref l0, .ref l1, .ref l2, .int l3] (qX3_readHome N l0 l1 l2 l3) := by
  refine osMet.of plX3 (Nat.le_of_ble_eq_true rfl) (osW.rw (lv2 := [(0, .ref l0), (1, .ref l1), (2, .ref l2), (3, .int l3)]) ?_ rfl rfl rfl)
  unfold qX3_readHome
  refine os_aload_n (i := 0) (q := 0) (v := l0) 0 rfl rfl (hX3_readHome.at 0 rfl rfl) ?_
  refine os_aload_n (i := 1) (q := 1) (v := l1) 1 rfl rfl (hX3_readHome.at 1 rfl rfl) ?_
  refine os_callU (cis := [3]) (x := (⟨RX3, "takeArea", "(LOrderSettler$Board;)I"⟩ : MethodName)) (owner := RX6) (b := l0) (As := [.ref l1]) (st := []) (st' := (fun r => .int r :: [])) sl3_X3itakeArea_X6_takeArea mdX6_takeArea rfl wd724 wd725 wd728 (sX6_takeArea N l0 l1) rfl rfl (fun _ => rfl) (Nat.le_of_ble_eq_true rfl) (Nat.le_of_ble_eq_true rfl) (Nat.le_of_ble_eq_true rfl) rfl (Nat.le_of_ble_eq_true rfl) rfl (Nat.le_of_ble_eq_true rfl) (hX3_readHome.at 2 rfl rfl) (fun x1 => ?_)
  refine os_istore (i := 4) (lv' := [(4, .int x1), (0, .ref l0), (1, .ref l1), (2, .ref l2), (3, .int l3)]) (Nat.le_of_ble_eq_true rfl) rfl (hX3_readHome.at 3 rfl rfl) ?_
  refine os_iload (v := x1) 0 rfl (hX3_readHome.at 4 rfl rfl) ?_
  refine os_iconst (i := (-1)) (v := (-1 : Int32)) rfl (hX3_readHome.at 5 rfl rfl) ?_
  refine os_icmp_ne (off := 5) (tgt := 15) rfl (hX3_readHome.at 6 rfl rfl) ?_ ?_
  · refine os_aload_n (i := 1) (q := 1) (v := l1) 2 rfl rfl (hX3_readHome.at 9 rfl rfl) ?_
    refine os_getR fX3_136 (hX3_readHome.at 10 rfl rfl) (fun x2 => ?_)
    refine os_iload (v := x1) 0 rfl (hX3_readHome.at 11 rfl rfl) ?_
    refine os_callSN (host := "OrderSettler") (As := [.ref x2, .int x1]) (st := []) (st' := (fun r => .int r :: [])) mdX9_entry wd783 wd784 (sX9_entry N x2 x1) rfl rfl (fun _ => rfl) (Nat.le_of_ble_eq_true rfl) (Nat.le_of_ble_eq_true rfl) (Nat.le_of_ble_eq_true rfl) rfl (Nat.le_of_ble_eq_true rfl) rfl (Nat.le_of_ble_eq_true rfl) (hX3_readHome.at 12 rfl rfl) (fun x3 => ?_)
    refine os_iconst (i := (-1)) (v := (-1 : Int32)) rfl (hX3_readHome.at 13 rfl rfl) ?_
    refine os_icmp_eq (off := 13) (tgt := 38) rfl (hX3_readHome.at 14 rfl rfl) ?_ ?_
    · refine os_aload_n (i := 1) (q := 1) (v := l1) 2 rfl rfl (hX3_readHome.at 21 rfl rfl) ?_
      refine os_getI fX3_144 (hX3_readHome.at 22 rfl rfl) (fun x4 => ?_)
      refine os_iload (v := x1) 0 rfl (hX3_readHome.at 23 rfl rfl) ?_
      refine os_callSN (host := "OrderSettler") (As := [.int x4, .int x1]) (st := []) (st' := (fun r => .int r :: [])) mdX9_has wd786 wd749 (sX9_has N x4 x1) rfl rfl (fun _ => rfl) (Nat.le_of_ble_eq_true rfl) (Nat.le_of_ble_eq_true rfl) (Nat.le_of_ble_eq_true rfl) rfl (Nat.le_of_ble_eq_true rfl) rfl (Nat.le_of_ble_eq_true rfl) (hX3_readHome.at 24 rfl rfl) (fun x5 => ?_)
      refine os_if_ne (off := 13) (tgt := 60) rfl (hX3_readHome.at 25 rfl rfl) ?_ ?_
      · refine os_aload_n (i := 1) (q := 1) (v := l1) 2 rfl rfl (hX3_readHome.at 32 rfl rfl) ?_
        refine os_iload (v := x1) 0 rfl (hX3_readHome.at 33 rfl rfl) ?_
        refine os_iload_n (i := 3) (q := 3) (v := l3) 4 rfl rfl (hX3_readHome.at 34 rfl rfl) ?_
        refine os_callV (cis := [0]) (b := l1) (As := [.int x1, .int l3]) (st := []) (st' := (fun _ => [])) sl0_X0_makeHome_X0_makeHome mdX0_makeHome wd787 wd788 (sX0_makeHome N l1 x1 l3) rfl rfl (fun _ => rfl) (Nat.le_of_ble_eq_true rfl) (Nat.le_of_ble_eq_true rfl) (Nat.le_of_ble_eq_true rfl) rfl (Nat.le_of_ble_eq_true rfl) rfl (Nat.le_of_ble_eq_true rfl) (hX3_readHome.at 35 rfl rfl) (fun _ => ?_)
        refine os_aload_n (i := 2) (q := 2) (v := l2) 3 rfl rfl (hX3_readHome.at 36 rfl rfl) ?_
        refine os_iload (v := x1) 0 rfl (hX3_readHome.at 37 rfl rfl) ?_
        refine os_iload_n (i := 3) (q := 3) (v := l3) 4 rfl rfl (hX3_readHome.at 38 rfl rfl) ?_
        refine os_callV (cis := [5]) (b := l2) (As := [.int x1, .int l3]) (st := []) (st' := (fun _ => [])) sl5_X5_giveCenter_X5_giveCenter mdX5_giveCenter wd791 wd792 (sX5_giveCenter N l2 x1 l3) rfl rfl (fun _ => rfl) (Nat.le_of_ble_eq_true rfl) (Nat.le_of_ble_eq_true rfl) (Nat.le_of_ble_eq_true rfl) rfl (Nat.le_of_ble_eq_true rfl) rfl (Nat.le_of_ble_eq_true rfl) (hX3_readHome.at 39 rfl rfl) (fun _ => ?_)
        refine os_iconst (i := 1) (v := (1 : Int32)) rfl (hX3_readHome.at 40 rfl rfl) ?_
        exact os_zret (Nat.le_of_ble_eq_true rfl) (Nat.le_of_ble_eq_true rfl) (hX3_readHome.at 41 rfl rfl).1
      · refine os_aload_n (i := 0) (q := 0) (v := l0) 1 rfl rfl (hX3_readHome.at 26 rfl rfl) ?_
        refine os_iconst (i := 4) (v := (4 : Int32)) rfl (hX3_readHome.at 27 rfl rfl) ?_
        refine os_aload_n (i := 0) (q := 0) (v := l0) 1 rfl rfl (hX3_readHome.at 28 rfl rfl) ?_
        refine os_getI fX3_97 (hX3_readHome.at 29 rfl rfl) (fun x6 => ?_)
        refine os_callU (cis := [3]) (x := (⟨RX3, "fail", "(II)Z"⟩ : MethodName)) (owner := RX6) (b := l0) (As := [.int (4 : Int32), .int x6]) (st := []) (st' := (fun r => .int r :: [])) sl3_X3ifail_X6_fail mdX6_fail rfl wd683 wd684 wd687 (sX6_fail N l0 (4 : Int32) x6) rfl rfl (fun _ => rfl) (Nat.le_of_ble_eq_true rfl) (Nat.le_of_ble_eq_true rfl) (Nat.le_of_ble_eq_true rfl) rfl (Nat.le_of_ble_eq_true rfl) rfl (Nat.le_of_ble_eq_true rfl) (hX3_readHome.at 30 rfl rfl) (fun x7 => ?_)
        exact os_zret (Nat.le_of_ble_eq_true rfl) (Nat.le_of_ble_eq_true rfl) (hX3_readHome.at 31 rfl rfl).1
    · refine os_aload_n (i := 0) (q := 0) (v := l0) 1 rfl rfl (hX3_readHome.at 15 rfl rfl) ?_
      refine os_iconst (i := 3) (v := (3 : Int32)) rfl (hX3_readHome.at 16 rfl rfl) ?_
      refine os_aload_n (i := 0) (q := 0) (v := l0) 1 rfl rfl (hX3_readHome.at 17 rfl rfl) ?_
      refine os_getI fX3_97 (hX3_readHome.at 18 rfl rfl) (fun x8 => ?_)
      refine os_callU (cis := [3]) (x := (⟨RX3, "fail", "(II)Z"⟩ : MethodName)) (owner := RX6) (b := l0) (As := [.int (3 : Int32), .int x8]) (st := []) (st' := (fun r => .int r :: [])) sl3_X3ifail_X6_fail mdX6_fail rfl wd683 wd684 wd687 (sX6_fail N l0 (3 : Int32) x8) rfl rfl (fun _ => rfl) (Nat.le_of_ble_eq_true rfl) (Nat.le_of_ble_eq_true rfl) (Nat.le_of_ble_eq_true rfl) rfl (Nat.le_of_ble_eq_true rfl) rfl (Nat.le_of_ble_eq_true rfl) (hX3_readHome.at 19 rfl rfl) (fun x9 => ?_)
      exact os_zret (Nat.le_of_ble_eq_true rfl) (Nat.le_of_ble_eq_true rfl) (hX3_readHome.at 20 rfl rfl).1
  · refine os_iconst (i := 0) (v := (0 : Int32)) rfl (hX3_readHome.at 7 rfl rfl) ?_
    exact os_zret (Nat.le_of_ble_eq_true rfl) (Nat.le_of_ble_eq_true rfl) (hX3_readHome.at 8 rfl rfl).1
-- X3_readUnit
def KX3_readUnit : List (Nat × Nat × Instr) := [(0, 1, .aload_n 2), (1, 3, .invokevirtual 157), (4, 2, .bipush 12), (6, 3, .if_icmp .lt 10), (9, 1, .aload_n 0), (10, 1, .iconst 5), (11, 1, .iload_n 3), (12, 3, .invokevirtual 82), (15, 1, .ireturn), (16, 1, .aload_n 0), (17, 3, .invokevirtual 89), (20, 2, .istore 5), (22, 2, .iload 5), (24, 3, .ifCond .ne 5), (27, 1, .iconst 0), (28, 1, .ireturn), (29, 1, .aload_n 1), (30, 2, .iload 5), (32, 3, .invokevirtual 124), (35, 2, .istore 6), (37, 2, .iload 6), (39, 1, .iconst (-1)), (40, 3, .if_icmp .ne 13), (43, 1, .aload_n 0), (44, 1, .iconst 2), (45, 1, .aload_n 0), (46, 3, .getfield 97), (49, 3, .invokevirtual 82), (52, 1, .ireturn), (53, 1, .aload_n 0), (54, 1, .aload_n 1), (55, 3, .invokevirtual 107), (58, 2, .istore 7), (60, 2, .iload 7), (62, 1, .iconst (-1)), (63, 3, .if_icmp .ne 5), (66, 1, .iconst 0), (67, 1, .ireturn), (68, 1, .aload_n 2), (69, 2, .iload 7), (71, 3, .invokevirtual 160), (74, 3, .ifCond .eq 13), (77, 1, .aload_n 0), (78, 1, .iconst 3), (79, 1, .aload_n 0), (80, 3, .getfield 97), (83, 3, .invokevirtual 82), (86, 1, .ireturn), (87, 1, .aload_n 1), (88, 2, .iload 7), (90, 2, .iload 4), (92, 3, .invokevirtual 114), (95, 3, .ifCond .ne 13), (98, 1, .aload_n 0), (99, 1, .iconst 4), (100, 1, .aload_n 0), (101, 3, .getfield 97), (104, 3, .invokevirtual 82), (107, 1, .ireturn), (108, 1, .aload_n 2), (109, 2, .iload 7), (111, 2, .iload 6), (113, 2, .iload 4), (115, 3, .invokevirtual 164), (118, 1, .iconst 1), (119, 1, .ireturn)]
theorem hX3_readUnit : osDs cX3_readUnit KX3_readUnit := by
  show ∀ q ∈ KX3_readUnit, decode cX3_readUnit q.1 = .ok (q.2.2, q.2.1)
  decide +kernel
def qX3_readUnit (N : Nat) (l0 : Nat) (l1 : Nat) (l2 : Nat) (l3 : Int32) (l4 : Int32) : osM Int32 := osbind (osrecv [5] l2 (qX5_countAllUnits N l2)) fun x1 => osite (x1 < (12 : Int32)) (osbind (osrecv [3] l0 (qX6_takeName N l0)) fun x2 => osite (x2 = 0) (osretZ (0 : Int32)) (osbind (osrecv [0] l1 (qX0_findPower N l1 x2)) fun x3 => osite (x3 = (-1 : Int32)) (osbind (osgI [3] 7 l0) fun x11 => osbind (osrecv [3] l0 (qX6_fail N l0 (2 : Int32) x11)) fun x12 => osretZ x12) (osbind (osrecv [3] l0 (qX6_takeArea N l0 l1)) fun x4 => osite (x4 = (-1 : Int32)) (osretZ (0 : Int32)) (osbind (osrecv [5] l2 (qX5_hasUnit N l2 x4)) fun x5 => osite (x5 = 0) (osbind (osrecv [0] l1 (qX0_suits N l1 x4 l4)) fun x6 => osite (x6 = 0) (osbind (osgI [3] 7 l0) fun x7 => osbind (osrecv [3] l0 (qX6_fail N l0 (4 : Int32) x7)) fun x8 => osretZ x8) (osbind (osrecv [5] l2 (qX5_placeUnit N l2 x4 x3 l4)) fun _ => osretZ (1 : Int32))) (osbind (osgI [3] 7 l0) fun x9 => osbind (osrecv [3] l0 (qX6_fail N l0 (3 : Int32) x9)) fun x10 => osretZ x10))))) (osbind (osrecv [3] l0 (qX6_fail N l0 (5 : Int32) l3)) fun x13 => osretZ x13)
set_option maxRecDepth 100000 in
set_option maxHeartbeats 4000000 in
theorem sX3_readUnit (N : Nat) (l0 : Nat) (l1 : Nat) (l2 : Nat) (l3 : Int32) (l4 : Int32) : osMet yX3_readUnit cX3_readUnit 8 (some .boolean) 3 66 0 0 (fun r : Int32 => some (.int r)) [.ref l0, .ref l1, .ref l2, .int l3, .int l4] (qX3_readUnit N l0 l1 l2 l3 l4) := by
  refine osMet.of plX3 (Nat.le_of_ble_eq_true rfl) (osW.rw (lv2 := [(0, .ref l0), (1, .ref l1), (2, .ref l2), (3, .int l3), (4, .int l4)]) ?_ rfl rfl rfl)
  unfold qX3_readUnit
  refine os_aload_n (i := 2) (q := 2) (v := l2) 2 rfl rfl (hX3_readUnit.at 0 rfl rfl) ?_
  refine os_callV (cis := [5]) (b := l2) (As := []) (st := []) (st' := (fun r => .int r :: [])) sl5_X5_countAllUnits_X5_countAllUnits mdX5_countAllUnits wd799 wd800 (sX5_countAllUnits N l2 ) rfl rfl (fun _ => rfl) (Nat.le_of_ble_eq_true rfl) (Nat.le_of_ble_eq_true rfl) (Nat.le_of_ble_eq_true rfl) rfl (Nat.le_of_ble_eq_true rfl) rfl (Nat.le_of_ble_eq_true rfl) (hX3_readUnit.at 1 rfl rfl) (fun x1 => ?_)
  refine os_bipush (i := 12) (v := (12 : Int32)) rfl (hX3_readUnit.at 2 rfl rfl) ?_
  refine os_icmp_lt (off := 10) (tgt := 16) rfl (hX3_readUnit.at 3 rfl rfl) ?_ ?_
  · refine os_aload_n (i := 0) (q := 0) (v := l0) 0 rfl rfl (hX3_readUnit.at 9 rfl rfl) ?_
    refine os_callU (cis := [3]) (x := (⟨RX3, "takeName", "()I"⟩ : MethodName)) (owner := RX6) (b := l0) (As := []) (st := []) (st' := (fun r => .int r :: [])) sl3_X3itakeName_X6_takeName mdX6_takeName rfl wd689 wd690 wd693 (sX6_takeName N l0 ) rfl rfl (fun _ => rfl) (Nat.le_of_ble_eq_true rfl) (Nat.le_of_ble_eq_true rfl) (Nat.le_of_ble_eq_true rfl) rfl (Nat.le_of_ble_eq_true rfl) rfl (Nat.le_of_ble_eq_true rfl) (hX3_readUnit.at 10 rfl rfl) (fun x2 => ?_)
    refine os_istore (i := 5) (lv' := [(5, .int x2), (0, .ref l0), (1, .ref l1), (2, .ref l2), (3, .int l3), (4, .int l4)]) (Nat.le_of_ble_eq_true rfl) rfl (hX3_readUnit.at 11 rfl rfl) ?_
    refine os_iload (v := x2) 0 rfl (hX3_readUnit.at 12 rfl rfl) ?_
    refine os_if_ne (off := 5) (tgt := 29) rfl (hX3_readUnit.at 13 rfl rfl) ?_ ?_
    · refine os_aload_n (i := 1) (q := 1) (v := l1) 2 rfl rfl (hX3_readUnit.at 16 rfl rfl) ?_
      refine os_iload (v := x2) 0 rfl (hX3_readUnit.at 17 rfl rfl) ?_
      refine os_callV (cis := [0]) (b := l1) (As := [.int x2]) (st := []) (st' := (fun r => .int r :: [])) sl0_X0_findPower_X0_findPower mdX0_findPower wd765 wd766 (sX0_findPower N l1 x2) rfl rfl (fun _ => rfl) (Nat.le_of_ble_eq_true rfl) (Nat.le_of_ble_eq_true rfl) (Nat.le_of_ble_eq_true rfl) rfl (Nat.le_of_ble_eq_true rfl) rfl (Nat.le_of_ble_eq_true rfl) (hX3_readUnit.at 18 rfl rfl) (fun x3 => ?_)
      refine os_istore (i := 6) (lv' := [(6, .int x3), (5, .int x2), (0, .ref l0), (1, .ref l1), (2, .ref l2), (3, .int l3), (4, .int l4)]) (Nat.le_of_ble_eq_true rfl) rfl (hX3_readUnit.at 19 rfl rfl) ?_
      refine os_iload (v := x3) 0 rfl (hX3_readUnit.at 20 rfl rfl) ?_
      refine os_iconst (i := (-1)) (v := (-1 : Int32)) rfl (hX3_readUnit.at 21 rfl rfl) ?_
      refine os_icmp_ne (off := 13) (tgt := 53) rfl (hX3_readUnit.at 22 rfl rfl) ?_ ?_
      · refine os_aload_n (i := 0) (q := 0) (v := l0) 2 rfl rfl (hX3_readUnit.at 29 rfl rfl) ?_
        refine os_aload_n (i := 1) (q := 1) (v := l1) 3 rfl rfl (hX3_readUnit.at 30 rfl rfl) ?_
        refine os_callU (cis := [3]) (x := (⟨RX3, "takeArea", "(LOrderSettler$Board;)I"⟩ : MethodName)) (owner := RX6) (b := l0) (As := [.ref l1]) (st := []) (st' := (fun r => .int r :: [])) sl3_X3itakeArea_X6_takeArea mdX6_takeArea rfl wd724 wd725 wd728 (sX6_takeArea N l0 l1) rfl rfl (fun _ => rfl) (Nat.le_of_ble_eq_true rfl) (Nat.le_of_ble_eq_true rfl) (Nat.le_of_ble_eq_true rfl) rfl (Nat.le_of_ble_eq_true rfl) rfl (Nat.le_of_ble_eq_true rfl) (hX3_readUnit.at 31 rfl rfl) (fun x4 => ?_)
        refine os_istore (i := 7) (lv' := [(7, .int x4), (6, .int x3), (5, .int x2), (0, .ref l0), (1, .ref l1), (2, .ref l2), (3, .int l3), (4, .int l4)]) (Nat.le_of_ble_eq_true rfl) rfl (hX3_readUnit.at 32 rfl rfl) ?_
        refine os_iload (v := x4) 0 rfl (hX3_readUnit.at 33 rfl rfl) ?_
        refine os_iconst (i := (-1)) (v := (-1 : Int32)) rfl (hX3_readUnit.at 34 rfl rfl) ?_
        refine os_icmp_ne (off := 5) (tgt := 68) rfl (hX3_readUnit.at 35 rfl rfl) ?_ ?_
        · refine os_aload_n (i := 2) (q := 2) (v := l2) 5 rfl rfl (hX3_readUnit.at 38 rfl rfl) ?_
          refine os_iload (v := x4) 0 rfl (hX3_readUnit.at 39 rfl rfl) ?_
          refine os_callV (cis := [5]) (b := l2) (As := [.int x4]) (st := []) (st' := (fun r => .int r :: [])) sl5_X5_hasUnit_X5_hasUnit mdX5_hasUnit wd806 wd807 (sX5_hasUnit N l2 x4) rfl rfl (fun _ => rfl) (Nat.le_of_ble_eq_true rfl) (Nat.le_of_ble_eq_true rfl) (Nat.le_of_ble_eq_true rfl) rfl (Nat.le_of_ble_eq_true rfl) rfl (Nat.le_of_ble_eq_true rfl) (hX3_readUnit.at 40 rfl rfl) (fun x5 => ?_)
          refine os_if_eq (off := 13) (tgt := 87) rfl (hX3_readUnit.at 41 rfl rfl) ?_ ?_
          · refine os_aload_n (i := 1) (q := 1) (v := l1) 4 rfl rfl (hX3_readUnit.at 48 rfl rfl) ?_
            refine os_iload (v := x4) 0 rfl (hX3_readUnit.at 49 rfl rfl) ?_
            refine os_iload (v := l4) 7 rfl (hX3_readUnit.at 50 rfl rfl) ?_
            refine os_callV (cis := [0]) (b := l1) (As := [.int x4, .int l4]) (st := []) (st' := (fun r => .int r :: [])) sl0_X0_suits_X0_suits mdX0_suits wd744 wd745 (sX0_suits N l1 x4 l4) rfl rfl (fun _ => rfl) (Nat.le_of_ble_eq_true rfl) (Nat.le_of_ble_eq_true rfl) (Nat.le_of_ble_eq_true rfl) rfl (Nat.le_of_ble_eq_true rfl) rfl (Nat.le_of_ble_eq_true rfl) (hX3_readUnit.at 51 rfl rfl) (fun x6 => ?_)
            refine os_if_ne (off := 13) (tgt := 108) rfl (hX3_readUnit.at 52 rfl rfl) ?_ ?_
            · refine os_aload_n (i := 2) (q := 2) (v := l2) 5 rfl rfl (hX3_readUnit.at 59 rfl rfl) ?_
              refine os_iload (v := x4) 0 rfl (hX3_readUnit.at 60 rfl rfl) ?_
              refine os_iload (v := x3) 1 rfl (hX3_readUnit.at 61 rfl rfl) ?_
              refine os_iload (v := l4) 7 rfl (hX3_readUnit.at 62 rfl rfl) ?_
              refine os_callV (cis := [5]) (b := l2) (As := [.int x4, .int x3, .int l4]) (st := []) (st' := (fun _ => [])) sl5_X5_placeUnit_X5_placeUnit mdX5_placeUnit wd811 wd812 (sX5_placeUnit N l2 x4 x3 l4) rfl rfl (fun _ => rfl) (Nat.le_of_ble_eq_true rfl) (Nat.le_of_ble_eq_true rfl) (Nat.le_of_ble_eq_true rfl) rfl (Nat.le_of_ble_eq_true rfl) rfl (Nat.le_of_ble_eq_true rfl) (hX3_readUnit.at 63 rfl rfl) (fun _ => ?_)
              refine os_iconst (i := 1) (v := (1 : Int32)) rfl (hX3_readUnit.at 64 rfl rfl) ?_
              exact os_zret (Nat.le_of_ble_eq_true rfl) (Nat.le_of_ble_eq_true rfl) (hX3_readUnit.at 65 rfl rfl).1
            · refine os_aload_n (i := 0) (q := 0) (v := l0) 3 rfl rfl (hX3_readUnit.at 53 rfl rfl) ?_
              refine os_iconst (i := 4) (v := (4 : Int32)) rfl (hX3_readUnit.at 54 rfl rfl) ?_
              refine os_aload_n (i := 0) (q := 0) (v := l0) 3 rfl rfl (hX3_readUnit.at 55 rfl rfl) ?_
              refine os_getI fX3_97 (hX3_readUnit.at 56 rfl rfl) (fun x7 => ?_)
              refine os_callU (cis := [3]) (x := (⟨RX3, "fail", "(II)Z"⟩ : MethodName)) (owner := RX6) (b := l0) (As := [.int (4 : Int32), .int x7]) (st := []) (st' := (fun r => .int r :: [])) sl3_X3ifail_X6_fail mdX6_fail rfl wd683 wd684 wd687 (sX6_fail N l0 (4 : Int32) x7) rfl rfl (fun _ => rfl) (Nat.le_of_ble_eq_true rfl) (Nat.le_of_ble_eq_true rfl) (Nat.le_of_ble_eq_true rfl) rfl (Nat.le_of_ble_eq_true rfl) rfl (Nat.le_of_ble_eq_true rfl) (hX3_readUnit.at 57 rfl rfl) (fun x8 => ?_)
              exact os_zret (Nat.le_of_ble_eq_true rfl) (Nat.le_of_ble_eq_true rfl) (hX3_readUnit.at 58 rfl rfl).1
          · refine os_aload_n (i := 0) (q := 0) (v := l0) 3 rfl rfl (hX3_readUnit.at 42 rfl rfl) ?_
            refine os_iconst (i := 3) (v := (3 : Int32)) rfl (hX3_readUnit.at 43 rfl rfl) ?_
            refine os_aload_n (i := 0) (q := 0) (v := l0) 3 rfl rfl (hX3_readUnit.at 44 rfl rfl) ?_
            refine os_getI fX3_97 (hX3_readUnit.at 45 rfl rfl) (fun x9 => ?_)
            refine os_callU (cis := [3]) (x := (⟨RX3, "fail", "(II)Z"⟩ : MethodName)) (owner := RX6) (b := l0) (As := [.int (3 : Int32), .int x9]) (st := []) (st' := (fun r => .int r :: [])) sl3_X3ifail_X6_fail mdX6_fail rfl wd683 wd684 wd687 (sX6_fail N l0 (3 : Int32) x9) rfl rfl (fun _ => rfl) (Nat.le_of_ble_eq_true rfl) (Nat.le_of_ble_eq_true rfl) (Nat.le_of_ble_eq_true rfl) rfl (Nat.le_of_ble_eq_true rfl) rfl (Nat.le_of_ble_eq_true rfl) (hX3_readUnit.at 46 rfl rfl) (fun x10 => ?_)
            exact os_zret (Nat.le_of_ble_eq_true rfl) (Nat.le_of_ble_eq_true rfl) (hX3_readUnit.at 47 rfl rfl).1
        · refine os_iconst (i := 0) (v := (0 : Int32)) rfl (hX3_readUnit.at 36 rfl rfl) ?_
          exact os_zret (Nat.le_of_ble_eq_true rfl) (Nat.le_of_ble_eq_true rfl) (hX3_readUnit.at 37 rfl rfl).1
      · refine os_aload_n (i := 0) (q := 0) (v := l0) 2 rfl rfl (hX3_readUnit.at 23 rfl rfl) ?_
        refine os_iconst (i := 2) (v := (2 : Int32)) rfl (hX3_readUnit.at 24 rfl rfl) ?_
        refine os_aload_n (i := 0) (q := 0) (v := l0) 2 rfl rfl (hX3_readUnit.at 25 rfl rfl) ?_
        refine os_getI fX3_97 (hX3_readUnit.at 26 rfl rfl) (fun x11 => ?_)
        refine os_callU (cis := [3]) (x := (⟨RX3, "fail", "(II)Z"⟩ : MethodName)) (owner := RX6) (b := l0) (As := [.int (2 : Int32), .int x11]) (st := []) (st' := (fun r => .int r :: [])) sl3_X3ifail_X6_fail mdX6_fail rfl wd683 wd684 wd687 (sX6_fail N l0 (2 : Int32) x11) rfl rfl (fun _ => rfl) (Nat.le_of_ble_eq_true rfl) (Nat.le_of_ble_eq_true rfl) (Nat.le_of_ble_eq_true rfl) rfl (Nat.le_of_ble_eq_true rfl) rfl (Nat.le_of_ble_eq_true rfl) (hX3_readUnit.at 27 rfl rfl) (fun x12 => ?_)
        exact os_zret (Nat.le_of_ble_eq_true rfl) (Nat.le_of_ble_eq_true rfl) (hX3_readUnit.at 28 rfl rfl).1
    · refine os_iconst (i := 0) (v := (0 : Int32)) rfl (hX3_readUnit.at 14 rfl rfl) ?_
      exact os_zret (Nat.le_of_ble_eq_true rfl) (Nat.le_of_ble_eq_true rfl) (hX3_readUnit.at 15 rfl rfl).1
  · refine os_aload_n (i := 0) (q := 0) (v := l0) 0 rfl rfl (hX3_readUnit.at 4 rfl rfl) ?_
    refine os_iconst (i := 5) (v := (5 : Int32)) rfl (hX3_readUnit.at 5 rfl rfl) ?_
    refine os_iload_n (i := 3) (q := 3) (v := l3) 3 rfl rfl (hX3_readUnit.at 6 rfl rfl) ?_
    refine os_callU (cis := [3]) (x := (⟨RX3, "fail", "(II)Z"⟩ : MethodName)) (owner := RX6) (b := l0) (As := [.int (5 : Int32), .int l3]) (st := []) (st' := (fun r => .int r :: [])) sl3_X3ifail_X6_fail mdX6_fail rfl wd683 wd684 wd687 (sX6_fail N l0 (5 : Int32) l3) rfl rfl (fun _ => rfl) (Nat.le_of_ble_eq_true rfl) (Nat.le_of_ble_eq_true rfl) (Nat.le_of_ble_eq_true rfl) rfl (Nat.le_of_ble_eq_true rfl) rfl (Nat.le_of_ble_eq_true rfl) (hX3_readUnit.at 7 rfl rfl) (fun x13 => ?_)
    exact os_zret (Nat.le_of_ble_eq_true rfl) (Nat.le_of_ble_eq_true rfl) (hX3_readUnit.at 8 rfl rfl).1
-- X7_readMove
def KX7_readMove : List (Nat × Nat × Instr) := [(0, 1, .aload_n 0), (1, 1, .aload_n 1), (2, 3, .invokevirtual 60), (5, 2, .istore 4), (7, 2, .iload 4), (9, 1, .iconst (-1)), (10, 3, .if_icmp .ne 5), (13, 1, .iconst 0), (14, 1, .ireturn), (15, 1, .aload_n 2), (16, 1, .aload_n 1), (17, 1, .iload_n 3), (18, 2, .iload 4), (20, 3, .invokevirtual 101), (23, 3, .ifCond .ne 13), (26, 1, .aload_n 0), (27, 1, .iconst 4), (28, 1, .aload_n 0), (29, 3, .getfield 68), (32, 3, .invokevirtual 71), (35, 1, .ireturn), (36, 1, .aload_n 2), (37, 1, .iload_n 3), (38, 1, .iconst 1), (39, 2, .iload 4), (41, 1, .iconst (-1)), (42, 3, .invokevirtual 78), (45, 1, .iconst 1), (46, 1, .ireturn)]
theorem hX7_readMove : osDs cX7_readMove KX7_readMove := by
  show ∀ q ∈ KX7_readMove, decode cX7_readMove q.1 = .ok (q.2.2, q.2.1)
  decide +kernel
def qX7_readMove (N : Nat) (l0 : Nat) (l1 : Nat) (l2 : Nat) (l3 : Int32) : osM Int32 := osbind (osrecv [6] l0 (qX6_takeArea N l0 l1)) fun x1 => osite (x1 = (-1 : Int32)) (osretZ (0 : Int32)) (osbind (osrecv [5] l2 (qX5_allowsMove N l2 l1 l3 x1)) fun x2 => osite (x2 = 0) (osbind (osgI [6] 7 l0) fun x3 => osbind (osrecv [6] l0 (qX6_fail N l0 (4 : Int32) x3)) fun x4 => osretZ x4) (osbind (osrecv [5] l2 (qX5_giveOrder N l2 l3 (1 : Int32) x1 (-1 : Int32))) fun _ => osretZ (1 : Int32)))
set_option maxRecDepth 100000 in
set_option maxHeartbeats 4000000 in
theorem sX7_readMove (N : Nat) (l0 : Nat) (l1 : Nat) (l2 : Nat) (l3 : Int32) : osMet yX7_readMove cX7_readMove 5 (some .boolean) 3 71 0 0 (fun r : Int32 => some (.int r)) [.ref l0, .ref l1, .ref l2, .int l3] (qX7_readMove N l0 l1 l2 l3) := by
  refine osMet.of plX7 (Nat.le_of_ble_eq_true rfl) (osW.rw (lv2 := [(0, .ref l0), (1, .ref l1), (2, .ref l2), (3, .int l3)]) ?_ rfl rfl rfl)
  unfold qX7_readMove
  refine os_aload_n (i := 0) (q := 0) (v := l0) 0 rfl rfl (hX7_readMove.at 0 rfl rfl) ?_
  refine os_aload_n (i := 1) (q := 1) (v := l1) 1 rfl rfl (hX7_readMove.at 1 rfl rfl) ?_
  refine os_callU (cis := [6]) (x := (⟨RX7, "takeArea", "(LOrderSettler$Board;)I"⟩ : MethodName)) (owner := RX6) (b := l0) (As := [.ref l1]) (st := []) (st' := (fun r => .int r :: [])) sl6_X7itakeArea_X6_takeArea mdX6_takeArea rfl wd1129 wd1130 wd728 (sX6_takeArea N l0 l1) rfl rfl (fun _ => rfl) (Nat.le_of_ble_eq_true rfl) (Nat.le_of_ble_eq_true rfl) (Nat.le_of_ble_eq_true rfl) rfl (Nat.le_of_ble_eq_true rfl) rfl (Nat.le_of_ble_eq_true rfl) (hX7_readMove.at 2 rfl rfl) (fun x1 => ?_)
  refine os_istore (i := 4) (lv' := [(4, .int x1), (0, .ref l0), (1, .ref l1), (2, .ref l2), (3, .int l3)]) (Nat.le_of_ble_eq_true rfl) rfl (hX7_readMove.at 3 rfl rfl) ?_
  refine os_iload (v := x1) 0 rfl (hX7_readMove.at 4 rfl rfl) ?_
  refine os_iconst (i := (-1)) (v := (-1 : Int32)) rfl (hX7_readMove.at 5 rfl rfl) ?_
  refine os_icmp_ne (off := 5) (tgt := 15) rfl (hX7_readMove.at 6 rfl rfl) ?_ ?_
  · refine os_aload_n (i := 2) (q := 2) (v := l2) 3 rfl rfl (hX7_readMove.at 9 rfl rfl) ?_
    refine os_aload_n (i := 1) (q := 1) (v := l1) 2 rfl rfl (hX7_readMove.at 10 rfl rfl) ?_
    refine os_iload_n (i := 3) (q := 3) (v := l3) 4 rfl rfl (hX7_readMove.at 11 rfl rfl) ?_
    refine os_iload (v := x1) 0 rfl (hX7_readMove.at 12 rfl rfl) ?_
    refine os_callV (cis := [5]) (b := l2) (As := [.ref l1, .int l3, .int x1]) (st := []) (st' := (fun r => .int r :: [])) sl5_X5_allowsMove_X5_allowsMove mdX5_allowsMove wd1148 wd1149 (sX5_allowsMove N l2 l1 l3 x1) rfl rfl (fun _ => rfl) (Nat.le_of_ble_eq_true rfl) (Nat.le_of_ble_eq_true rfl) (Nat.le_of_ble_eq_true rfl) rfl (Nat.le_of_ble_eq_true rfl) rfl (Nat.le_of_ble_eq_true rfl) (hX7_readMove.at 13 rfl rfl) (fun x2 => ?_)
    refine os_if_ne (off := 13) (tgt := 36) rfl (hX7_readMove.at 14 rfl rfl) ?_ ?_
    · refine os_aload_n (i := 2) (q := 2) (v := l2) 3 rfl rfl (hX7_readMove.at 21 rfl rfl) ?_
      refine os_iload_n (i := 3) (q := 3) (v := l3) 4 rfl rfl (hX7_readMove.at 22 rfl rfl) ?_
      refine os_iconst (i := 1) (v := (1 : Int32)) rfl (hX7_readMove.at 23 rfl rfl) ?_
      refine os_iload (v := x1) 0 rfl (hX7_readMove.at 24 rfl rfl) ?_
      refine os_iconst (i := (-1)) (v := (-1 : Int32)) rfl (hX7_readMove.at 25 rfl rfl) ?_
      refine os_callV (cis := [5]) (b := l2) (As := [.int l3, .int (1 : Int32), .int x1, .int (-1 : Int32)]) (st := []) (st' := (fun _ => [])) sl5_X5_giveOrder_X5_giveOrder mdX5_giveOrder wd1141 wd358 (sX5_giveOrder N l2 l3 (1 : Int32) x1 (-1 : Int32)) rfl rfl (fun _ => rfl) (Nat.le_of_ble_eq_true rfl) (Nat.le_of_ble_eq_true rfl) (Nat.le_of_ble_eq_true rfl) rfl (Nat.le_of_ble_eq_true rfl) rfl (Nat.le_of_ble_eq_true rfl) (hX7_readMove.at 26 rfl rfl) (fun _ => ?_)
      refine os_iconst (i := 1) (v := (1 : Int32)) rfl (hX7_readMove.at 27 rfl rfl) ?_
      exact os_zret (Nat.le_of_ble_eq_true rfl) (Nat.le_of_ble_eq_true rfl) (hX7_readMove.at 28 rfl rfl).1
    · refine os_aload_n (i := 0) (q := 0) (v := l0) 1 rfl rfl (hX7_readMove.at 15 rfl rfl) ?_
      refine os_iconst (i := 4) (v := (4 : Int32)) rfl (hX7_readMove.at 16 rfl rfl) ?_
      refine os_aload_n (i := 0) (q := 0) (v := l0) 1 rfl rfl (hX7_readMove.at 17 rfl rfl) ?_
      refine os_getI fX7_68 (hX7_readMove.at 18 rfl rfl) (fun x3 => ?_)
      refine os_callU (cis := [6]) (x := (⟨RX7, "fail", "(II)Z"⟩ : MethodName)) (owner := RX6) (b := l0) (As := [.int (4 : Int32), .int x3]) (st := []) (st' := (fun r => .int r :: [])) sl6_X7ifail_X6_fail mdX6_fail rfl wd1133 wd1134 wd687 (sX6_fail N l0 (4 : Int32) x3) rfl rfl (fun _ => rfl) (Nat.le_of_ble_eq_true rfl) (Nat.le_of_ble_eq_true rfl) (Nat.le_of_ble_eq_true rfl) rfl (Nat.le_of_ble_eq_true rfl) rfl (Nat.le_of_ble_eq_true rfl) (hX7_readMove.at 19 rfl rfl) (fun x4 => ?_)
      exact os_zret (Nat.le_of_ble_eq_true rfl) (Nat.le_of_ble_eq_true rfl) (hX7_readMove.at 20 rfl rfl).1
  · refine os_iconst (i := 0) (v := (0 : Int32)) rfl (hX7_readMove.at 7 rfl rfl) ?_
    exact os_zret (Nat.le_of_ble_eq_true rfl) (Nat.le_of_ble_eq_true rfl) (hX7_readMove.at 8 rfl rfl).1
-- X7_readConvoy
def KX7_readConvoy : List (Nat × Nat × Instr) := [(0, 1, .aload_n 0), (1, 1, .aload_n 1), (2, 3, .invokevirtual 60), (5, 2, .istore 4), (7, 2, .iload 4), (9, 1, .iconst (-1)), (10, 3, .if_icmp .eq 13), (13, 1, .aload_n 0), (14, 3, .getstatic 82), (17, 3, .invokevirtual 54), (20, 3, .ifCond .ne 5), (23, 1, .iconst 0), (24, 1, .ireturn), (25, 1, .aload_n 0), (26, 1, .aload_n 1), (27, 3, .invokevirtual 60), (30, 2, .istore 5), (32, 2, .iload 5), (34, 1, .iconst (-1)), (35, 3, .if_icmp .ne 5), (38, 1, .iconst 0), (39, 1, .ireturn), (40, 1, .aload_n 2), (41, 1, .aload_n 1), (42, 1, .iload_n 3), (43, 2, .iload 4), (45, 2, .iload 5), (47, 3, .invokevirtual 112), (50, 3, .ifCond .ne 13), (53, 1, .aload_n 0), (54, 1, .iconst 4), (55, 1, .aload_n 0), (56, 3, .getfield 68), (59, 3, .invokevirtual 71), (62, 1, .ireturn), (63, 1, .aload_n 2), (64, 1, .iload_n 3), (65, 1, .iconst 4), (66, 2, .iload 4), (68, 2, .iload 5), (70, 3, .invokevirtual 78), (73, 1, .iconst 1), (74, 1, .ireturn)]
theorem hX7_readConvoy : osDs cX7_readConvoy KX7_readConvoy := by
  show ∀ q ∈ KX7_readConvoy, decode cX7_readConvoy q.1 = .ok (q.2.2, q.2.1)
  decide +kernel
def qX7_readConvoy_23 (N : Nat) : osM Int32 := osretZ (0 : Int32)
def qX7_readConvoy (N : Nat) (l0 : Nat) (l1 : Nat) (l2 : Nat) (l3 : Int32) : osM Int32 := osbind (osrecv [6] l0 (qX6_takeArea N l0 l1)) fun x1 => osite (x1 = (-1 : Int32)) (qX7_readConvoy_23 N ) (osbind (osstat 9) fun x2 => osbind (osrecv [6] l0 (qX6_takeOrFail N l0 x2)) fun x3 => osite (x3 = 0) (qX7_readConvoy_23 N ) (osbind (osrecv [6] l0 (qX6_takeArea N l0 l1)) fun x4 => osite (x4 = (-1 : Int32)) (osretZ (0 : Int32)) (osbind (osrecv [5] l2 (qX5_allowsConvoy N l2 l1 l3 x1 x4)) fun x5 => osite (x5 = 0) (osbind (osgI [6] 7 l0) fun x6 => osbind (osrecv [6] l0 (qX6_fail N l0 (4 : Int32) x6)) fun x7 => osretZ x7) (osbind (osrecv [5] l2 (qX5_giveOrder N l2 l3 (4 : Int32) x1 x4)) fun _ => osretZ (1 : Int32)))))
set_option maxRecDepth 100000 in
set_option maxHeartbeats 4000000 in
theorem sX7_readConvoy_23 (N : Nat) : osW (osFinM (fun r : Int32 => some (.int r)) 0 0) yX7_readConvoy cX7_readConvoy 6 (some .boolean) [] { frames := 3, cells := 0, slots := 0, locals := 67 } 0 0 23 [] [] (qX7_readConvoy_23 N) := by
  unfold qX7_readConvoy_23
  refine os_iconst (i := 0) (v := (0 : Int32)) rfl (hX7_readConvoy.at 11 rfl rfl) ?_
  exact os_zret (Nat.le_of_ble_eq_true rfl) (Nat.le_of_ble_eq_true rfl) (hX7_readConvoy.at 12 rfl rfl).1
set_option maxRecDepth 100000 in
set_option maxHeartbeats 4000000 in
theorem sX7_readConvoy (N : Nat) (l0 : Nat) (l1 : Nat) (l2 : Nat) (l3 : Int32) : osMet yX7_readConvoy cX7_readConvoy 6 (some .boolean) 3 67 0 0 (fun r : Int32 => some (.int r)) [.ref l0, .ref l1, .ref l2, .int l3] (qX7_readConvoy N l0 l1 l2 l3) := by
  refine osMet.of plX7 (Nat.le_of_ble_eq_true rfl) (osW.rw (lv2 := [(0, .ref l0), (1, .ref l1), (2, .ref l2), (3, .int l3)]) ?_ rfl rfl rfl)
  unfold qX7_readConvoy
  refine os_aload_n (i := 0) (q := 0) (v := l0) 0 rfl rfl (hX7_readConvoy.at 0 rfl rfl) ?_
  refine os_aload_n (i := 1) (q := 1) (v := l1) 1 rfl rfl (hX7_readConvoy.at 1 rfl rfl) ?_
  refine os_callU (cis := [6]) (x := (⟨RX7, "takeArea", "(LOrderSettler$Board;)I"⟩ : MethodName)) (owner := RX6) (b := l0) (As := [.ref l1]) (st := []) (st' := (fun r => .int r :: [])) sl6_X7itakeArea_X6_takeArea mdX6_takeArea rfl wd1129 wd1130 wd728 (sX6_takeArea N l0 l1) rfl rfl (fun _ => rfl) (Nat.le_of_ble_eq_true rfl) (Nat.le_of_ble_eq_true rfl) (Nat.le_of_ble_eq_true rfl) rfl (Nat.le_of_ble_eq_true rfl) rfl (Nat.le_of_ble_eq_true rfl) (hX7_readConvoy.at 2 rfl rfl) (fun x1 => ?_)
  refine os_istore (i := 4) (lv' := [(4, .int x1), (0, .ref l0), (1, .ref l1), (2, .ref l2), (3, .int l3)]) (Nat.le_of_ble_eq_true rfl) rfl (hX7_readConvoy.at 3 rfl rfl) ?_
  refine os_iload (v := x1) 0 rfl (hX7_readConvoy.at 4 rfl rfl) ?_
  refine os_iconst (i := (-1)) (v := (-1 : Int32)) rfl (hX7_readConvoy.at 5 rfl rfl) ?_
  refine os_icmp_eq (off := 13) (tgt := 23) rfl (hX7_readConvoy.at 6 rfl rfl) ?_ ?_
  · exact osW.sub [] rfl (sX7_readConvoy_23 N )
  · refine os_aload_n (i := 0) (q := 0) (v := l0) 1 rfl rfl (hX7_readConvoy.at 7 rfl rfl) ?_
    refine os_getstatic (j := 9) wd1142 ⟨rfl, Or.inl ⟨rfl, rfl⟩⟩ (hX7_readConvoy.at 8 rfl rfl) (fun x2 => ?_)
    refine os_callU (cis := [6]) (x := (⟨RX7, "takeOrFail", "(LOrderSettler$Word;)Z"⟩ : MethodName)) (owner := RX6) (b := l0) (As := [.ref x2]) (st := []) (st' := (fun r => .int r :: [])) sl6_X7itakeOrFail_X6_takeOrFail mdX6_takeOrFail rfl wd1182 wd1183 wd1186 (sX6_takeOrFail N l0 x2) rfl rfl (fun _ => rfl) (Nat.le_of_ble_eq_true rfl) (Nat.le_of_ble_eq_true rfl) (Nat.le_of_ble_eq_true rfl) rfl (Nat.le_of_ble_eq_true rfl) rfl (Nat.le_of_ble_eq_true rfl) (hX7_readConvoy.at 9 rfl rfl) (fun x3 => ?_)
    refine os_if_ne (off := 5) (tgt := 25) rfl (hX7_readConvoy.at 10 rfl rfl) ?_ ?_
    · refine os_aload_n (i := 0) (q := 0) (v := l0) 1 rfl rfl (hX7_readConvoy.at 13 rfl rfl) ?_
      refine os_aload_n (i := 1) (q := 1) (v := l1) 2 rfl rfl (hX7_readConvoy.at 14 rfl rfl) ?_
      refine os_callU (cis := [6]) (x := (⟨RX7, "takeArea", "(LOrderSettler$Board;)I"⟩ : MethodName)) (owner := RX6) (b := l0) (As := [.ref l1]) (st := []) (st' := (fun r => .int r :: [])) sl6_X7itakeArea_X6_takeArea mdX6_takeArea rfl wd1129 wd1130 wd728 (sX6_takeArea N l0 l1) rfl rfl (fun _ => rfl) (Nat.le_of_ble_eq_true rfl) (Nat.le_of_ble_eq_true rfl) (Nat.le_of_ble_eq_true rfl) rfl (Nat.le_of_ble_eq_true rfl) rfl (Nat.le_of_ble_eq_true rfl) (hX7_readConvoy.at 15 rfl rfl) (fun x4 => ?_)
      refine os_istore (i := 5) (lv' := [(5, .int x4), (4, .int x1), (0, .ref l0), (1, .ref l1), (2, .ref l2), (3, .int l3)]) (Nat.le_of_ble_eq_true rfl) rfl (hX7_readConvoy.at 16 rfl rfl) ?_
      refine os_iload (v := x4) 0 rfl (hX7_readConvoy.at 17 rfl rfl) ?_
      refine os_iconst (i := (-1)) (v := (-1 : Int32)) rfl (hX7_readConvoy.at 18 rfl rfl) ?_
      refine os_icmp_ne (off := 5) (tgt := 40) rfl (hX7_readConvoy.at 19 rfl rfl) ?_ ?_
      · refine os_aload_n (i := 2) (q := 2) (v := l2) 4 rfl rfl (hX7_readConvoy.at 22 rfl rfl) ?_
        refine os_aload_n (i := 1) (q := 1) (v := l1) 3 rfl rfl (hX7_readConvoy.at 23 rfl rfl) ?_
        refine os_iload_n (i := 3) (q := 3) (v := l3) 5 rfl rfl (hX7_readConvoy.at 24 rfl rfl) ?_
        refine os_iload (v := x1) 1 rfl (hX7_readConvoy.at 25 rfl rfl) ?_
        refine os_iload (v := x4) 0 rfl (hX7_readConvoy.at 26 rfl rfl) ?_
        refine os_callV (cis := [5]) (b := l2) (As := [.ref l1, .int l3, .int x1, .int x4]) (st := []) (st' := (fun r => .int r :: [])) sl5_X5_allowsConvoy_X5_allowsConvoy mdX5_allowsConvoy wd1193 wd1194 (sX5_allowsConvoy N l2 l1 l3 x1 x4) rfl rfl (fun _ => rfl) (Nat.le_of_ble_eq_true rfl) (Nat.le_of_ble_eq_true rfl) (Nat.le_of_ble_eq_true rfl) rfl (Nat.le_of_ble_eq_true rfl) rfl (Nat.le_of_ble_eq_true rfl) (hX7_readConvoy.at 27 rfl rfl) (fun x5 => ?_)
        refine os_if_ne (off := 13) (tgt := 63) rfl (hX7_readConvoy.at 28 rfl rfl) ?_ ?_
        · refine os_aload_n (i := 2) (q := 2) (v := l2) 4 rfl rfl (hX7_readConvoy.at 35 rfl rfl) ?_
          refine os_iload_n (i := 3) (q := 3) (v := l3) 5 rfl rfl (hX7_readConvoy.at 36 rfl rfl) ?_
          refine os_iconst (i := 4) (v := (4 : Int32)) rfl (hX7_readConvoy.at 37 rfl rfl) ?_
          refine os_iload (v := x1) 1 rfl (hX7_readConvoy.at 38 rfl rfl) ?_
          refine os_iload (v := x4) 0 rfl (hX7_readConvoy.at 39 rfl rfl) ?_
          refine os_callV (cis := [5]) (b := l2) (As := [.int l3, .int (4 : Int32), .int x1, .int x4]) (st := []) (st' := (fun _ => [])) sl5_X5_giveOrder_X5_giveOrder mdX5_giveOrder wd1141 wd358 (sX5_giveOrder N l2 l3 (4 : Int32) x1 x4) rfl rfl (fun _ => rfl) (Nat.le_of_ble_eq_true rfl) (Nat.le_of_ble_eq_true rfl) (Nat.le_of_ble_eq_true rfl) rfl (Nat.le_of_ble_eq_true rfl) rfl (Nat.le_of_ble_eq_true rfl) (hX7_readConvoy.at 40 rfl rfl) (fun _ => ?_)
          refine os_iconst (i := 1) (v := (1 : Int32)) rfl (hX7_readConvoy.at 41 rfl rfl) ?_
          exact os_zret (Nat.le_of_ble_eq_true rfl) (Nat.le_of_ble_eq_true rfl) (hX7_readConvoy.at 42 rfl rfl).1
        · refine os_aload_n (i := 0) (q := 0) (v := l0) 2 rfl rfl (hX7_readConvoy.at 29 rfl rfl) ?_
          refine os_iconst (i := 4) (v := (4 : Int32)) rfl (hX7_readConvoy.at 30 rfl rfl) ?_
          refine os_aload_n (i := 0) (q := 0) (v := l0) 2 rfl rfl (hX7_readConvoy.at 31 rfl rfl) ?_
          refine os_getI fX7_68 (hX7_readConvoy.at 32 rfl rfl) (fun x6 => ?_)
          refine os_callU (cis := [6]) (x := (⟨RX7, "fail", "(II)Z"⟩ : MethodName)) (owner := RX6) (b := l0) (As := [.int (4 : Int32), .int x6]) (st := []) (st' := (fun r => .int r :: [])) sl6_X7ifail_X6_fail mdX6_fail rfl wd1133 wd1134 wd687 (sX6_fail N l0 (4 : Int32) x6) rfl rfl (fun _ => rfl) (Nat.le_of_ble_eq_true rfl) (Nat.le_of_ble_eq_true rfl) (Nat.le_of_ble_eq_true rfl) rfl (Nat.le_of_ble_eq_true rfl) rfl (Nat.le_of_ble_eq_true rfl) (hX7_readConvoy.at 33 rfl rfl) (fun x7 => ?_)
          exact os_zret (Nat.le_of_ble_eq_true rfl) (Nat.le_of_ble_eq_true rfl) (hX7_readConvoy.at 34 rfl rfl).1
      · refine os_iconst (i := 0) (v := (0 : Int32)) rfl (hX7_readConvoy.at 20 rfl rfl) ?_
        exact os_zret (Nat.le_of_ble_eq_true rfl) (Nat.le_of_ble_eq_true rfl) (hX7_readConvoy.at 21 rfl rfl).1
    · exact osW.sub [] rfl (sX7_readConvoy_23 N )
-- X3_readPower
def KX3_readPower : List (Nat × Nat × Instr) := [(0, 1, .aload_n 1), (1, 3, .getfield 121), (4, 1, .iconst 4), (5, 3, .if_icmp .lt 10), (8, 1, .aload_n 0), (9, 1, .iconst 5), (10, 1, .iload_n 3), (11, 3, .invokevirtual 82), (14, 1, .ireturn), (15, 1, .aload_n 0), (16, 3, .invokevirtual 89), (19, 2, .istore 4), (21, 2, .iload 4), (23, 3, .ifCond .ne 5), (26, 1, .iconst 0), (27, 1, .ireturn), (28, 1, .aload_n 1), (29, 2, .iload 4), (31, 3, .invokevirtual 124), (34, 1, .iconst (-1)), (35, 3, .if_icmp .eq 13), (38, 1, .aload_n 0), (39, 1, .iconst 3), (40, 1, .aload_n 0), (41, 3, .getfield 97), (44, 3, .invokevirtual 82), (47, 1, .ireturn), (48, 1, .aload_n 1), (49, 2, .iload 4), (51, 3, .invokevirtual 127), (54, 2, .istore 5), (56, 1, .iconst 0), (57, 2, .istore 6), (59, 2, .iload 6), (61, 2, .bipush 16), (63, 3, .if_icmp .gt 29), (66, 1, .aload_n 0), (67, 3, .invokevirtual 130), (70, 3, .ifCond .eq 22), (73, 1, .aload_n 0), (74, 1, .aload_n 1), (75, 1, .aload_n 2), (76, 2, .iload 5), (78, 3, .invokevirtual 133), (81, 3, .ifCond .ne 5), (84, 1, .iconst 0), (85, 1, .ireturn), (86, 3, .iinc 6 1), (89, 3, .goto (-30)), (92, 1, .iconst 1), (93, 1, .ireturn)]
theorem hX3_readPower : osDs cX3_readPower KX3_readPower := by
  show ∀ q ∈ KX3_readPower, decode cX3_readPower q.1 = .ok (q.2.2, q.2.1)
  decide +kernel
def qX3_readPower_92 (N : Nat) : osM Int32 := osretZ (1 : Int32)
def bX3_readPower_59 (N : Nat) (c59 : Nat × Nat × Nat × Int32 × Int32 → osM Int32) (l0 : Nat) (l1 : Nat) (l2 : Nat) (l5 : Int32) (l6 : Int32) : osM Int32 := osite ((16 : Int32) < l6) (qX3_readPower_92 N ) (osbind (osrecv [3] l0 (qX6_isAtWord N l0)) fun x1 => osite (x1 = 0) (qX3_readPower_92 N ) (osbind (osrecv [3] l0 (qX3_readHome N l0 l1 l2 l5)) fun x2 => osite (x2 = 0) (osretZ (0 : Int32)) (c59 (l0, l1, l2, l5, (l6 + (1 : Int32))))))
def qX3_readPower_59 (N : Nat) : Nat × Nat × Nat × Int32 × Int32 → osM Int32 := osloop (fun ih p => bX3_readPower_59 N ih p.1 p.2.1 p.2.2.1 p.2.2.2.1 p.2.2.2.2) N
def qX3_readPower (N : Nat) (l0 : Nat) (l1 : Nat) (l2 : Nat) (l3 : Int32) : osM Int32 := osbind (osgI [0] 1 l1) fun x1 => osite (x1 < (4 : Int32)) (osbind (osrecv [3] l0 (qX6_takeName N l0)) fun x2 => osite (x2 = 0) (osretZ (0 : Int32)) (osbind (osrecv [0] l1 (qX0_findPower N l1 x2)) fun x3 => osite (x3 = (-1 : Int32)) (osbind (osrecv [0] l1 (qX0_addPower N l1 x2)) fun x4 => qX3_readPower_59 N (l0, l1, l2, x4, (0 : Int32))) (osbind (osgI [3] 7 l0) fun x5 => osbind (osrecv [3] l0 (qX6_fail N l0 (3 : Int32) x5)) fun x6 => osretZ x6))) (osbind (osrecv [3] l0 (qX6_fail N l0 (5 : Int32) l3)) fun x7 => osretZ x7)
set_option maxRecDepth 100000 in
set_option maxHeartbeats 4000000 in
theorem sX3_readPower_92 (N : Nat) : osW (osFinM (fun r : Int32 => some (.int r)) 0 0) yX3_readPower cX3_readPower 7 (some .boolean) [] { frames := 4, cells := 0, slots := 0, locals := 90 } 0 0 92 [] [] (qX3_readPower_92 N) := by
  unfold qX3_readPower_92
  refine os_iconst (i := 1) (v := (1 : Int32)) rfl (hX3_readPower.at 49 rfl rfl) ?_
  exact os_zret (Nat.le_of_ble_eq_true rfl) (Nat.le_of_ble_eq_true rfl) (hX3_readPower.at 50 rfl rfl).1
set_option maxRecDepth 100000 in
set_option maxHeartbeats 4000000 in
theorem tX3_readPower_59 (N : Nat) (c59 : Nat × Nat × Nat × Int32 × Int32 → osM Int32) (g59 : ∀ (l0 : Nat) (l1 : Nat) (l2 : Nat) (l5 : Int32) (l6 : Int32), osW (osFinM (fun r : Int32 => some (.int r)) 0 0) yX3_readPower cX3_readPower 7 (some .boolean) [] { frames := 4, cells := 0, slots := 0, locals := 90 } 0 0 59 [(0, .ref l0), (1, .ref l1), (2, .ref l2), (5, .int l5), (6, .int l6)] [] (c59 (l0, l1, l2, l5, l6))) (l0 : Nat) (l1 : Nat) (l2 : Nat) (l5 : Int32) (l6 : Int32) : osW (osFinM (fun r : Int32 => some (.int r)) 0 0) yX3_readPower cX3_readPower 7 (some .boolean) [] { frames := 4, cells := 0, slots := 0, locals := 90 } 0 0 59 [(0, .ref l0), (1, .ref l1), (2, .ref l2), (5, .int l5), (6, .int l6)] [] (bX3_readPower_59 N c59 l0 l1 l2 l5 l6) := by
  unfold bX3_readPower_59
  refine os_iload (v := l6) 4 rfl (hX3_readPower.at 33 rfl rfl) ?_
  refine os_bipush (i := 16) (v := (16 : Int32)) rfl (hX3_readPower.at 34 rfl rfl) ?_
  refine os_icmp_gt (off := 29) (tgt := 92) rfl (hX3_readPower.at 35 rfl rfl) ?_ ?_
  · exact osW.sub [] rfl (sX3_readPower_92 N )
  · refine os_aload_n (i := 0) (q := 0) (v := l0) 0 rfl rfl (hX3_readPower.at 36 rfl rfl) ?_
    refine os_callU (cis := [3]) (x := (⟨RX3, "isAtWord", "()Z"⟩ : MethodName)) (owner := RX6) (b := l0) (As := []) (st := []) (st' := (fun r => .int r :: [])) sl3_X3iisAtWord_X6_isAtWord mdX6_isAtWord rfl wd773 wd774 wd777 (sX6_isAtWord N l0 ) rfl rfl (fun _ => rfl) (Nat.le_of_ble_eq_true rfl) (Nat.le_of_ble_eq_true rfl) (Nat.le_of_ble_eq_true rfl) rfl (Nat.le_of_ble_eq_true rfl) rfl (Nat.le_of_ble_eq_true rfl) (hX3_readPower.at 37 rfl rfl) (fun x1 => ?_)
    refine os_if_eq (off := 22) (tgt := 92) rfl (hX3_readPower.at 38 rfl rfl) ?_ ?_
    · exact osW.sub [] rfl (sX3_readPower_92 N )
    · refine os_aload_n (i := 0) (q := 0) (v := l0) 0 rfl rfl (hX3_readPower.at 39 rfl rfl) ?_
      refine os_aload_n (i := 1) (q := 1) (v := l1) 1 rfl rfl (hX3_readPower.at 40 rfl rfl) ?_
      refine os_aload_n (i := 2) (q := 2) (v := l2) 2 rfl rfl (hX3_readPower.at 41 rfl rfl) ?_
      refine os_iload (v := l5) 3 rfl (hX3_readPower.at 42 rfl rfl) ?_
      refine os_callV (cis := [3]) (b := l0) (As := [.ref l1, .ref l2, .int l5]) (st := []) (st' := (fun r => .int r :: [])) sl3_X3_readHome_X3_readHome mdX3_readHome wd779 wd781 (sX3_readHome N l0 l1 l2 l5) rfl rfl (fun _ => rfl) (Nat.le_of_ble_eq_true rfl) (Nat.le_of_ble_eq_true rfl) (Nat.le_of_ble_eq_true rfl) rfl (Nat.le_of_ble_eq_true rfl) rfl (Nat.le_of_ble_eq_true rfl) (hX3_readPower.at 43 rfl rfl) (fun x2 => ?_)
      refine os_if_ne (off := 5) (tgt := 86) rfl (hX3_readPower.at 44 rfl rfl) ?_ ?_
      · refine os_iinc (i := 6) (d := 1) (x := l6) (v := (1 : Int32)) (lv' := [(6, .int (l6 + (1 : Int32))), (0, .ref l0), (1, .ref l1), (2, .ref l2), (5, .int l5)]) 4 rfl rfl (Nat.le_of_ble_eq_true rfl) rfl (hX3_readPower.at 47 rfl rfl) ?_
        refine os_goto (off := (-30)) (tgt := 59) rfl (hX3_readPower.at 48 rfl rfl) ?_
        exact osW.sub [1, 2, 3, 4, 0] rfl (g59 l0 l1 l2 l5 (l6 + (1 : Int32)))
      · refine os_iconst (i := 0) (v := (0 : Int32)) rfl (hX3_readPower.at 45 rfl rfl) ?_
        exact os_zret (Nat.le_of_ble_eq_true rfl) (Nat.le_of_ble_eq_true rfl) (hX3_readPower.at 46 rfl rfl).1
set_option maxRecDepth 100000 in
set_option maxHeartbeats 4000000 in
theorem sX3_readPower_59 (N : Nat) (l0 : Nat) (l1 : Nat) (l2 : Nat) (l5 : Int32) (l6 : Int32) : osW (osFinM (fun r : Int32 => some (.int r)) 0 0) yX3_readPower cX3_readPower 7 (some .boolean) [] { frames := 4, cells := 0, slots := 0, locals := 90 } 0 0 59 [(0, .ref l0), (1, .ref l1), (2, .ref l2), (5, .int l5), (6, .int l6)] [] (qX3_readPower_59 N (l0, l1, l2, l5, l6)) :=
  osloop_W (lvf := fun p => [(0, .ref p.1), (1, .ref p.2.1), (2, .ref p.2.2.1), (5, .int p.2.2.2.1), (6, .int p.2.2.2.2)]) (stf := fun p => []) (fun ih g p => tX3_readPower_59 N ih (fun l0 l1 l2 l5 l6 => g (l0, l1, l2, l5, l6)) p.1 p.2.1 p.2.2.1 p.2.2.2.1 p.2.2.2.2) N (l0, l1, l2, l5, l6)
set_option maxRecDepth 100000 in
set_option maxHeartbeats 4000000 in
theorem sX3_readPower (N : Nat) (l0 : Nat) (l1 : Nat) (l2 : Nat) (l3 : Int32) : osMet yX3_readPower cX3_readPower 7 (some .boolean) 4 90 0 0 (fun r : Int32 => some (.int r)) [.ref l0, .ref l1, .ref l2, .int l3] (qX3_readPower N l0 l1 l2 l3) := by
  refine osMet.of plX3 (Nat.le_of_ble_eq_true rfl) (osW.rw (lv2 := [(0, .ref l0), (1, .ref l1), (2, .ref l2), (3, .int l3)]) ?_ rfl rfl rfl)
  unfold qX3_readPower
  refine os_aload_n (i := 1) (q := 1) (v := l1) 1 rfl rfl (hX3_readPower.at 0 rfl rfl) ?_
  refine os_getI fX3_121 (hX3_readPower.at 1 rfl rfl) (fun x1 => ?_)
  refine os_iconst (i := 4) (v := (4 : Int32)) rfl (hX3_readPower.at 2 rfl rfl) ?_
  refine os_icmp_lt (off := 10) (tgt := 15) rfl (hX3_readPower.at 3 rfl rfl) ?_ ?_
  · refine os_aload_n (i := 0) (q := 0) (v := l0) 0 rfl rfl (hX3_readPower.at 9 rfl rfl) ?_
    refine os_callU (cis := [3]) (x := (⟨RX3, "takeName", "()I"⟩ : MethodName)) (owner := RX6) (b := l0) (As := []) (st := []) (st' := (fun r => .int r :: [])) sl3_X3itakeName_X6_takeName mdX6_takeName rfl wd689 wd690 wd693 (sX6_takeName N l0 ) rfl rfl (fun _ => rfl) (Nat.le_of_ble_eq_true rfl) (Nat.le_of_ble_eq_true rfl) (Nat.le_of_ble_eq_true rfl) rfl (Nat.le_of_ble_eq_true rfl) rfl (Nat.le_of_ble_eq_true rfl) (hX3_readPower.at 10 rfl rfl) (fun x2 => ?_)
    refine os_istore (i := 4) (lv' := [(4, .int x2), (0, .ref l0), (1, .ref l1), (2, .ref l2), (3, .int l3)]) (Nat.le_of_ble_eq_true rfl) rfl (hX3_readPower.at 11 rfl rfl) ?_
    refine os_iload (v := x2) 0 rfl (hX3_readPower.at 12 rfl rfl) ?_
    refine os_if_ne (off := 5) (tgt := 28) rfl (hX3_readPower.at 13 rfl rfl) ?_ ?_
    · refine os_aload_n (i := 1) (q := 1) (v := l1) 2 rfl rfl (hX3_readPower.at 16 rfl rfl) ?_
      refine os_iload (v := x2) 0 rfl (hX3_readPower.at 17 rfl rfl) ?_
      refine os_callV (cis := [0]) (b := l1) (As := [.int x2]) (st := []) (st' := (fun r => .int r :: [])) sl0_X0_findPower_X0_findPower mdX0_findPower wd765 wd766 (sX0_findPower N l1 x2) rfl rfl (fun _ => rfl) (Nat.le_of_ble_eq_true rfl) (Nat.le_of_ble_eq_true rfl) (Nat.le_of_ble_eq_true rfl) rfl (Nat.le_of_ble_eq_true rfl) rfl (Nat.le_of_ble_eq_true rfl) (hX3_readPower.at 18 rfl rfl) (fun x3 => ?_)
      refine os_iconst (i := (-1)) (v := (-1 : Int32)) rfl (hX3_readPower.at 19 rfl rfl) ?_
      refine os_icmp_eq (off := 13) (tgt := 48) rfl (hX3_readPower.at 20 rfl rfl) ?_ ?_
      · refine os_aload_n (i := 1) (q := 1) (v := l1) 2 rfl rfl (hX3_readPower.at 27 rfl rfl) ?_
        refine os_iload (v := x2) 0 rfl (hX3_readPower.at 28 rfl rfl) ?_
        refine os_callV (cis := [0]) (b := l1) (As := [.int x2]) (st := []) (st' := (fun r => .int r :: [])) sl0_X0_addPower_X0_addPower mdX0_addPower wd769 wd770 (sX0_addPower N l1 x2) rfl rfl (fun _ => rfl) (Nat.le_of_ble_eq_true rfl) (Nat.le_of_ble_eq_true rfl) (Nat.le_of_ble_eq_true rfl) rfl (Nat.le_of_ble_eq_true rfl) rfl (Nat.le_of_ble_eq_true rfl) (hX3_readPower.at 29 rfl rfl) (fun x4 => ?_)
        refine os_istore (i := 5) (lv' := [(5, .int x4), (4, .int x2), (0, .ref l0), (1, .ref l1), (2, .ref l2), (3, .int l3)]) (Nat.le_of_ble_eq_true rfl) rfl (hX3_readPower.at 30 rfl rfl) ?_
        refine os_iconst (i := 0) (v := (0 : Int32)) rfl (hX3_readPower.at 31 rfl rfl) ?_
        refine os_istore (i := 6) (lv' := [(6, .int (0 : Int32)), (5, .int x4), (4, .int x2), (0, .ref l0), (1, .ref l1), (2, .ref l2), (3, .int l3)]) (Nat.le_of_ble_eq_true rfl) rfl (hX3_readPower.at 32 rfl rfl) ?_
        exact osW.sub [3, 4, 5, 1, 0] rfl (sX3_readPower_59 N l0 l1 l2 x4 (0 : Int32))
      · refine os_aload_n (i := 0) (q := 0) (v := l0) 1 rfl rfl (hX3_readPower.at 21 rfl rfl) ?_
        refine os_iconst (i := 3) (v := (3 : Int32)) rfl (hX3_readPower.at 22 rfl rfl) ?_
        refine os_aload_n (i := 0) (q := 0) (v := l0) 1 rfl rfl (hX3_readPower.at 23 rfl rfl) ?_
        refine os_getI fX3_97 (hX3_readPower.at 24 rfl rfl) (fun x5 => ?_)
        refine os_callU (cis := [3]) (x := (⟨RX3, "fail", "(II)Z"⟩ : MethodName)) (owner := RX6) (b := l0) (As := [.int (3 : Int32), .int x5]) (st := []) (st' := (fun r => .int r :: [])) sl3_X3ifail_X6_fail mdX6_fail rfl wd683 wd684 wd687 (sX6_fail N l0 (3 : Int32) x5) rfl rfl (fun _ => rfl) (Nat.le_of_ble_eq_true rfl) (Nat.le_of_ble_eq_true rfl) (Nat.le_of_ble_eq_true rfl) rfl (Nat.le_of_ble_eq_true rfl) rfl (Nat.le_of_ble_eq_true rfl) (hX3_readPower.at 25 rfl rfl) (fun x6 => ?_)
        exact os_zret (Nat.le_of_ble_eq_true rfl) (Nat.le_of_ble_eq_true rfl) (hX3_readPower.at 26 rfl rfl).1
    · refine os_iconst (i := 0) (v := (0 : Int32)) rfl (hX3_readPower.at 14 rfl rfl) ?_
      exact os_zret (Nat.le_of_ble_eq_true rfl) (Nat.le_of_ble_eq_true rfl) (hX3_readPower.at 15 rfl rfl).1
  · refine os_aload_n (i := 0) (q := 0) (v := l0) 0 rfl rfl (hX3_readPower.at 4 rfl rfl) ?_
    refine os_iconst (i := 5) (v := (5 : Int32)) rfl (hX3_readPower.at 5 rfl rfl) ?_
    refine os_iload_n (i := 3) (q := 3) (v := l3) 3 rfl rfl (hX3_readPower.at 6 rfl rfl) ?_
    refine os_callU (cis := [3]) (x := (⟨RX3, "fail", "(II)Z"⟩ : MethodName)) (owner := RX6) (b := l0) (As := [.int (5 : Int32), .int l3]) (st := []) (st' := (fun r => .int r :: [])) sl3_X3ifail_X6_fail mdX6_fail rfl wd683 wd684 wd687 (sX6_fail N l0 (5 : Int32) l3) rfl rfl (fun _ => rfl) (Nat.le_of_ble_eq_true rfl) (Nat.le_of_ble_eq_true rfl) (Nat.le_of_ble_eq_true rfl) rfl (Nat.le_of_ble_eq_true rfl) rfl (Nat.le_of_ble_eq_true rfl) (hX3_readPower.at 7 rfl rfl) (fun x7 => ?_)
    exact os_zret (Nat.le_of_ble_eq_true rfl) (Nat.le_of_ble_eq_true rfl) (hX3_readPower.at 8 rfl rfl).1
-- X7_readOrder
def KX7_readOrder : List (Nat × Nat × Instr) := [(0, 1, .aload_n 0), (1, 1, .aload_n 1), (2, 3, .invokevirtual 60), (5, 1, .istore_n 3), (6, 1, .iload_n 3), (7, 1, .iconst (-1)), (8, 3, .if_icmp .ne 5), (11, 1, .iconst 0), (12, 1, .ireturn), (13, 1, .aload_n 2), (14, 1, .iload_n 3), (15, 3, .invokevirtual 64), (18, 3, .ifCond .ne 13), (21, 1, .aload_n 0), (22, 1, .iconst 2), (23, 1, .aload_n 0), (24, 3, .getfield 68), (27, 3, .invokevirtual 71), (30, 1, .ireturn), (31, 1, .aload_n 0), (32, 3, .getstatic 75), (35, 3, .invokevirtual 44), (38, 3, .ifCond .eq 13), (41, 1, .aload_n 2), (42, 1, .iload_n 3), (43, 1, .iconst 0), (44, 1, .iconst (-1)), (45, 1, .iconst (-1)), (46, 3, .invokevirtual 78), (49, 1, .iconst 1), (50, 1, .ireturn), (51, 1, .aload_n 0), (52, 3, .getstatic 82), (55, 3, .invokevirtual 44), (58, 3, .ifCond .eq 11), (61, 1, .aload_n 0), (62, 1, .aload_n 1), (63, 1, .aload_n 2), (64, 1, .iload_n 3), (65, 3, .invokevirtual 85), (68, 1, .ireturn), (69, 1, .aload_n 0), (70, 3, .getstatic 89), (73, 3, .invokevirtual 44), (76, 3, .ifCond .eq 11), (79, 1, .aload_n 0), (80, 1, .aload_n 1), (81, 1, .aload_n 2), (82, 1, .iload_n 3), (83, 3, .invokevirtual 92), (86, 1, .ireturn), (87, 1, .aload_n 0), (88, 3, .getstatic 95), (91, 3, .invokevirtual 54), (94, 3, .ifCond .eq 17), (97, 1, .aload_n 0), (98, 1, .aload_n 1), (99, 1, .aload_n 2), (100, 1, .iload_n 3), (101, 3, .invokevirtual 98), (104, 3, .ifCond .eq 7), (107, 1, .iconst 1), (108, 3, .goto 4), (111, 1, .iconst 0), (112, 1, .ireturn)]
theorem hX7_readOrder : osDs cX7_readOrder KX7_readOrder := by
  show ∀ q ∈ KX7_readOrder, decode cX7_readOrder q.1 = .ok (q.2.2, q.2.1)
  decide +kernel
def qX7_readOrder_112 (N : Nat) (k0 : Int32) : osM Int32 := osretZ k0
def qX7_readOrder_111 (N : Nat) : osM Int32 := qX7_readOrder_112 N (0 : Int32)
def qX7_readOrder (N : Nat) (l0 : Nat) (l1 : Nat) (l2 : Nat) : osM Int32 := osbind (osrecv [6] l0 (qX6_takeArea N l0 l1)) fun x1 => osite (x1 = (-1 : Int32)) (osretZ (0 : Int32)) (osbind (osrecv [5] l2 (qX5_hasUnit N l2 x1)) fun x2 => osite (x2 = 0) (osbind (osgI [6] 7 l0) fun x14 => osbind (osrecv [6] l0 (qX6_fail N l0 (2 : Int32) x14)) fun x15 => osretZ x15) (osbind (osstat 8) fun x3 => osbind (osrecv [6] l0 (qX6_take N l0 x3)) fun x4 => osite (x4 = 0) (osbind (osstat 9) fun x5 => osbind (osrecv [6] l0 (qX6_take N l0 x5)) fun x6 => osite (x6 = 0) (osbind (osstat 10) fun x7 => osbind (osrecv [6] l0 (qX6_take N l0 x7)) fun x8 => osite (x8 = 0) (osbind (osstat 11) fun x9 => osbind (osrecv [6] l0 (qX6_takeOrFail N l0 x9)) fun x10 => osite (x10 = 0) (qX7_readOrder_111 N ) (osbind (osrecv [6] l0 (qX7_readConvoy N l0 l1 l2 x1)) fun x11 => osite (x11 = 0) (qX7_readOrder_111 N ) (qX7_readOrder_112 N (1 : Int32)))) (osbind (osrecv [6] l0 (qX7_readSupport N l0 l1 l2 x1)) fun x12 => osretZ x12)) (osbind (osrecv [6] l0 (qX7_readMove N l0 l1 l2 x1)) fun x13 => osretZ x13)) (osbind (osrecv [5] l2 (qX5_giveOrder N l2 x1 (0 : Int32) (-1 : Int32) (-1 : Int32))) fun _ => osretZ (1 : Int32))))
set_option maxRecDepth 100000 in
set_option maxHeartbeats 4000000 in
theorem sX7_readOrder_112 (N : Nat) (k0 : Int32) : osW (osFinM (fun r : Int32 => some (.int r)) 0 0) yX7_readOrder cX7_readOrder 4 (some .boolean) [] { frames := 4, cells := 0, slots := 0, locals := 97 } 0 0 112 [] [.int k0] (qX7_readOrder_112 N k0) := by
  unfold qX7_readOrder_112
  exact os_zret (Nat.le_of_ble_eq_true rfl) (Nat.le_of_ble_eq_true rfl) (hX7_readOrder.at 64 rfl rfl).1
set_option maxRecDepth 100000 in
set_option maxHeartbeats 4000000 in
theorem sX7_readOrder_111 (N : Nat) : osW (osFinM (fun r : Int32 => some (.int r)) 0 0) yX7_readOrder cX7_readOrder 4 (some .boolean) [] { frames := 4, cells := 0, slots := 0, locals := 97 } 0 0 111 [] [] (qX7_readOrder_111 N) := by
  unfold qX7_readOrder_111
  refine os_iconst (i := 0) (v := (0 : Int32)) rfl (hX7_readOrder.at 63 rfl rfl) ?_
  exact osW.sub [] rfl (sX7_readOrder_112 N (0 : Int32))
set_option maxRecDepth 100000 in
set_option maxHeartbeats 4000000 in
theorem sX7_readOrder (N : Nat) (l0 : Nat) (l1 : Nat) (l2 : Nat) : osMet yX7_readOrder cX7_readOrder 4 (some .boolean) 4 97 0 0 (fun r : Int32 => some (.int r)) [.ref l0, .ref l1, .ref l2] (qX7_readOrder N l0 l1 l2) := by
  refine osMet.of plX7 (Nat.le_of_ble_eq_true rfl) (osW.rw (lv2 := [(0, .ref l0), (1, .ref l1), (2, .ref l2)]) ?_ rfl rfl rfl)
  unfold qX7_readOrder
  refine os_aload_n (i := 0) (q := 0) (v := l0) 0 rfl rfl (hX7_readOrder.at 0 rfl rfl) ?_
  refine os_aload_n (i := 1) (q := 1) (v := l1) 1 rfl rfl (hX7_readOrder.at 1 rfl rfl) ?_
  refine os_callU (cis := [6]) (x := (⟨RX7, "takeArea", "(LOrderSettler$Board;)I"⟩ : MethodName)) (owner := RX6) (b := l0) (As := [.ref l1]) (st := []) (st' := (fun r => .int r :: [])) sl6_X7itakeArea_X6_takeArea mdX6_takeArea rfl wd1129 wd1130 wd728 (sX6_takeArea N l0 l1) rfl rfl (fun _ => rfl) (Nat.le_of_ble_eq_true rfl) (Nat.le_of_ble_eq_true rfl) (Nat.le_of_ble_eq_true rfl) rfl (Nat.le_of_ble_eq_true rfl) rfl (Nat.le_of_ble_eq_true rfl) (hX7_readOrder.at 2 rfl rfl) (fun x1 => ?_)
  refine os_istore_n (i := 3) (q := 3) rfl (lv' := [(3, .int x1), (0, .ref l0), (1, .ref l1), (2, .ref l2)]) (Nat.le_of_ble_eq_true rfl) rfl (hX7_readOrder.at 3 rfl rfl) ?_
  refine os_iload_n (i := 3) (q := 3) (v := x1) 0 rfl rfl (hX7_readOrder.at 4 rfl rfl) ?_
  refine os_iconst (i := (-1)) (v := (-1 : Int32)) rfl (hX7_readOrder.at 5 rfl rfl) ?_
  refine os_icmp_ne (off := 5) (tgt := 13) rfl (hX7_readOrder.at 6 rfl rfl) ?_ ?_
  · refine os_aload_n (i := 2) (q := 2) (v := l2) 3 rfl rfl (hX7_readOrder.at 9 rfl rfl) ?_
    refine os_iload_n (i := 3) (q := 3) (v := x1) 0 rfl rfl (hX7_readOrder.at 10 rfl rfl) ?_
    refine os_callV (cis := [5]) (b := l2) (As := [.int x1]) (st := []) (st' := (fun r => .int r :: [])) sl5_X5_hasUnit_X5_hasUnit mdX5_hasUnit wd1132 wd807 (sX5_hasUnit N l2 x1) rfl rfl (fun _ => rfl) (Nat.le_of_ble_eq_true rfl) (Nat.le_of_ble_eq_true rfl) (Nat.le_of_ble_eq_true rfl) rfl (Nat.le_of_ble_eq_true rfl) rfl (Nat.le_of_ble_eq_true rfl) (hX7_readOrder.at 11 rfl rfl) (fun x2 => ?_)
    refine os_if_ne (off := 13) (tgt := 31) rfl (hX7_readOrder.at 12 rfl rfl) ?_ ?_
    · refine os_aload_n (i := 0) (q := 0) (v := l0) 1 rfl rfl (hX7_readOrder.at 19 rfl rfl) ?_
      refine os_getstatic (j := 8) wd1136 ⟨rfl, Or.inl ⟨rfl, rfl⟩⟩ (hX7_readOrder.at 20 rfl rfl) (fun x3 => ?_)
      refine os_callU (cis := [6]) (x := (⟨RX7, "take", "(LOrderSettler$Word;)Z"⟩ : MethodName)) (owner := RX6) (b := l0) (As := [.ref x3]) (st := []) (st' := (fun r => .int r :: [])) sl6_X7itake_X6_take mdX6_take rfl wd1138 wd1139 wd677 (sX6_take N l0 x3) rfl rfl (fun _ => rfl) (Nat.le_of_ble_eq_true rfl) (Nat.le_of_ble_eq_true rfl) (Nat.le_of_ble_eq_true rfl) rfl (Nat.le_of_ble_eq_true rfl) rfl (Nat.le_of_ble_eq_true rfl) (hX7_readOrder.at 21 rfl rfl) (fun x4 => ?_)
      refine os_if_eq (off := 13) (tgt := 51) rfl (hX7_readOrder.at 22 rfl rfl) ?_ ?_
      · refine os_aload_n (i := 0) (q := 0) (v := l0) 1 rfl rfl (hX7_readOrder.at 31 rfl rfl) ?_
        refine os_getstatic (j := 9) wd1142 ⟨rfl, Or.inl ⟨rfl, rfl⟩⟩ (hX7_readOrder.at 32 rfl rfl) (fun x5 => ?_)
        refine os_callU (cis := [6]) (x := (⟨RX7, "take", "(LOrderSettler$Word;)Z"⟩ : MethodName)) (owner := RX6) (b := l0) (As := [.ref x5]) (st := []) (st' := (fun r => .int r :: [])) sl6_X7itake_X6_take mdX6_take rfl wd1138 wd1139 wd677 (sX6_take N l0 x5) rfl rfl (fun _ => rfl) (Nat.le_of_ble_eq_true rfl) (Nat.le_of_ble_eq_true rfl) (Nat.le_of_ble_eq_true rfl) rfl (Nat.le_of_ble_eq_true rfl) rfl (Nat.le_of_ble_eq_true rfl) (hX7_readOrder.at 33 rfl rfl) (fun x6 => ?_)
        refine os_if_eq (off := 11) (tgt := 69) rfl (hX7_readOrder.at 34 rfl rfl) ?_ ?_
        · refine os_aload_n (i := 0) (q := 0) (v := l0) 1 rfl rfl (hX7_readOrder.at 41 rfl rfl) ?_
          refine os_getstatic (j := 10) wd1165 ⟨rfl, Or.inl ⟨rfl, rfl⟩⟩ (hX7_readOrder.at 42 rfl rfl) (fun x7 => ?_)
          refine os_callU (cis := [6]) (x := (⟨RX7, "take", "(LOrderSettler$Word;)Z"⟩ : MethodName)) (owner := RX6) (b := l0) (As := [.ref x7]) (st := []) (st' := (fun r => .int r :: [])) sl6_X7itake_X6_take mdX6_take rfl wd1138 wd1139 wd677 (sX6_take N l0 x7) rfl rfl (fun _ => rfl) (Nat.le_of_ble_eq_true rfl) (Nat.le_of_ble_eq_true rfl) (Nat.le_of_ble_eq_true rfl) rfl (Nat.le_of_ble_eq_true rfl) rfl (Nat.le_of_ble_eq_true rfl) (hX7_readOrder.at 43 rfl rfl) (fun x8 => ?_)
          refine os_if_eq (off := 11) (tgt := 87) rfl (hX7_readOrder.at 44 rfl rfl) ?_ ?_
          · refine os_aload_n (i := 0) (q := 0) (v := l0) 1 rfl rfl (hX7_readOrder.at 51 rfl rfl) ?_
            refine os_getstatic (j := 11) wd1180 ⟨rfl, Or.inl ⟨rfl, rfl⟩⟩ (hX7_readOrder.at 52 rfl rfl) (fun x9 => ?_)
            refine os_callU (cis := [6]) (x := (⟨RX7, "takeOrFail", "(LOrderSettler$Word;)Z"⟩ : MethodName)) (owner := RX6) (b := l0) (As := [.ref x9]) (st := []) (st' := (fun r => .int r :: [])) sl6_X7itakeOrFail_X6_takeOrFail mdX6_takeOrFail rfl wd1182 wd1183 wd1186 (sX6_takeOrFail N l0 x9) rfl rfl (fun _ => rfl) (Nat.le_of_ble_eq_true rfl) (Nat.le_of_ble_eq_true rfl) (Nat.le_of_ble_eq_true rfl) rfl (Nat.le_of_ble_eq_true rfl) rfl (Nat.le_of_ble_eq_true rfl) (hX7_readOrder.at 53 rfl rfl) (fun x10 => ?_)
            refine os_if_eq (off := 17) (tgt := 111) rfl (hX7_readOrder.at 54 rfl rfl) ?_ ?_
            · exact osW.sub [] rfl (sX7_readOrder_111 N )
            · refine os_aload_n (i := 0) (q := 0) (v := l0) 1 rfl rfl (hX7_readOrder.at 55 rfl rfl) ?_
              refine os_aload_n (i := 1) (q := 1) (v := l1) 2 rfl rfl (hX7_readOrder.at 56 rfl rfl) ?_
              refine os_aload_n (i := 2) (q := 2) (v := l2) 3 rfl rfl (hX7_readOrder.at 57 rfl rfl) ?_
              refine os_iload_n (i := 3) (q := 3) (v := x1) 0 rfl rfl (hX7_readOrder.at 58 rfl rfl) ?_
              refine os_callV (cis := [6]) (b := l0) (As := [.ref l1, .ref l2, .int x1]) (st := []) (st' := (fun r => .int r :: [])) sl6_X7_readConvoy_X7_readConvoy mdX7_readConvoy wd1189 wd1191 (sX7_readConvoy N l0 l1 l2 x1) rfl rfl (fun _ => rfl) (Nat.le_of_ble_eq_true rfl) (Nat.le_of_ble_eq_true rfl) (Nat.le_of_ble_eq_true rfl) rfl (Nat.le_of_ble_eq_true rfl) rfl (Nat.le_of_ble_eq_true rfl) (hX7_readOrder.at 59 rfl rfl) (fun x11 => ?_)
              refine os_if_eq (off := 7) (tgt := 111) rfl (hX7_readOrder.at 60 rfl rfl) ?_ ?_
              · exact osW.sub [] rfl (sX7_readOrder_111 N )
              · refine os_iconst (i := 1) (v := (1 : Int32)) rfl (hX7_readOrder.at 61 rfl rfl) ?_
                refine os_goto (off := 4) (tgt := 112) rfl (hX7_readOrder.at 62 rfl rfl) ?_
                exact osW.sub [] rfl (sX7_readOrder_112 N (1 : Int32))
          · refine os_aload_n (i := 0) (q := 0) (v := l0) 1 rfl rfl (hX7_readOrder.at 45 rfl rfl) ?_
            refine os_aload_n (i := 1) (q := 1) (v := l1) 2 rfl rfl (hX7_readOrder.at 46 rfl rfl) ?_
            refine os_aload_n (i := 2) (q := 2) (v := l2) 3 rfl rfl (hX7_readOrder.at 47 rfl rfl) ?_
            refine os_iload_n (i := 3) (q := 3) (v := x1) 0 rfl rfl (hX7_readOrder.at 48 rfl rfl) ?_
            refine os_callV (cis := [6]) (b := l0) (As := [.ref l1, .ref l2, .int x1]) (st := []) (st' := (fun r => .int r :: [])) sl6_X7_readSupport_X7_readSupport mdX7_readSupport wd1167 wd1169 (sX7_readSupport N l0 l1 l2 x1) rfl rfl (fun _ => rfl) (Nat.le_of_ble_eq_true rfl) (Nat.le_of_ble_eq_true rfl) (Nat.le_of_ble_eq_true rfl) rfl (Nat.le_of_ble_eq_true rfl) rfl (Nat.le_of_ble_eq_true rfl) (hX7_readOrder.at 49 rfl rfl) (fun x12 => ?_)
            exact os_zret (Nat.le_of_ble_eq_true rfl) (Nat.le_of_ble_eq_true rfl) (hX7_readOrder.at 50 rfl rfl).1
        · refine os_aload_n (i := 0) (q := 0) (v := l0) 1 rfl rfl (hX7_readOrder.at 35 rfl rfl) ?_
          refine os_aload_n (i := 1) (q := 1) (v := l1) 2 rfl rfl (hX7_readOrder.at 36 rfl rfl) ?_
          refine os_aload_n (i := 2) (q := 2) (v := l2) 3 rfl rfl (hX7_readOrder.at 37 rfl rfl) ?_
          refine os_iload_n (i := 3) (q := 3) (v := x1) 0 rfl rfl (hX7_readOrder.at 38 rfl rfl) ?_
          refine os_callV (cis := [6]) (b := l0) (As := [.ref l1, .ref l2, .int x1]) (st := []) (st' := (fun r => .int r :: [])) sl6_X7_readMove_X7_readMove mdX7_readMove wd1144 wd1146 (sX7_readMove N l0 l1 l2 x1) rfl rfl (fun _ => rfl) (Nat.le_of_ble_eq_true rfl) (Nat.le_of_ble_eq_true rfl) (Nat.le_of_ble_eq_true rfl) rfl (Nat.le_of_ble_eq_true rfl) rfl (Nat.le_of_ble_eq_true rfl) (hX7_readOrder.at 39 rfl rfl) (fun x13 => ?_)
          exact os_zret (Nat.le_of_ble_eq_true rfl) (Nat.le_of_ble_eq_true rfl) (hX7_readOrder.at 40 rfl rfl).1
      · refine os_aload_n (i := 2) (q := 2) (v := l2) 3 rfl rfl (hX7_readOrder.at 23 rfl rfl) ?_
        refine os_iload_n (i := 3) (q := 3) (v := x1) 0 rfl rfl (hX7_readOrder.at 24 rfl rfl) ?_
        refine os_iconst (i := 0) (v := (0 : Int32)) rfl (hX7_readOrder.at 25 rfl rfl) ?_
        refine os_iconst (i := (-1)) (v := (-1 : Int32)) rfl (hX7_readOrder.at 26 rfl rfl) ?_
        refine os_iconst (i := (-1)) (v := (-1 : Int32)) rfl (hX7_readOrder.at 27 rfl rfl) ?_
        refine os_callV (cis := [5]) (b := l2) (As := [.int x1, .int (0 : Int32), .int (-1 : Int32), .int (-1 : Int32)]) (st := []) (st' := (fun _ => [])) sl5_X5_giveOrder_X5_giveOrder mdX5_giveOrder wd1141 wd358 (sX5_giveOrder N l2 x1 (0 : Int32) (-1 : Int32) (-1 : Int32)) rfl rfl (fun _ => rfl) (Nat.le_of_ble_eq_true rfl) (Nat.le_of_ble_eq_true rfl) (Nat.le_of_ble_eq_true rfl) rfl (Nat.le_of_ble_eq_true rfl) rfl (Nat.le_of_ble_eq_true rfl) (hX7_readOrder.at 28 rfl rfl) (fun _ => ?_)
        refine os_iconst (i := 1) (v := (1 : Int32)) rfl (hX7_readOrder.at 29 rfl rfl) ?_
        exact os_zret (Nat.le_of_ble_eq_true rfl) (Nat.le_of_ble_eq_true rfl) (hX7_readOrder.at 30 rfl rfl).1
    · refine os_aload_n (i := 0) (q := 0) (v := l0) 1 rfl rfl (hX7_readOrder.at 13 rfl rfl) ?_
      refine os_iconst (i := 2) (v := (2 : Int32)) rfl (hX7_readOrder.at 14 rfl rfl) ?_
      refine os_aload_n (i := 0) (q := 0) (v := l0) 1 rfl rfl (hX7_readOrder.at 15 rfl rfl) ?_
      refine os_getI fX7_68 (hX7_readOrder.at 16 rfl rfl) (fun x14 => ?_)
      refine os_callU (cis := [6]) (x := (⟨RX7, "fail", "(II)Z"⟩ : MethodName)) (owner := RX6) (b := l0) (As := [.int (2 : Int32), .int x14]) (st := []) (st' := (fun r => .int r :: [])) sl6_X7ifail_X6_fail mdX6_fail rfl wd1133 wd1134 wd687 (sX6_fail N l0 (2 : Int32) x14) rfl rfl (fun _ => rfl) (Nat.le_of_ble_eq_true rfl) (Nat.le_of_ble_eq_true rfl) (Nat.le_of_ble_eq_true rfl) rfl (Nat.le_of_ble_eq_true rfl) rfl (Nat.le_of_ble_eq_true rfl) (hX7_readOrder.at 17 rfl rfl) (fun x15 => ?_)
      exact os_zret (Nat.le_of_ble_eq_true rfl) (Nat.le_of_ble_eq_true rfl) (hX7_readOrder.at 18 rfl rfl).1
  · refine os_iconst (i := 0) (v := (0 : Int32)) rfl (hX7_readOrder.at 7 rfl rfl) ?_
    exact os_zret (Nat.le_of_ble_eq_true rfl) (Nat.le_of_ble_eq_true rfl) (hX7_readOrder.at 8 rfl rfl).1
-- X3_readStatement
def KX3_readStatement : List (Nat × Nat × Instr) := [(0, 1, .aload_n 0), (1, 3, .getfield 34), (4, 1, .istore_n 3), (5, 1, .aload_n 0), (6, 3, .getstatic 38), (9, 3, .invokevirtual 44), (12, 3, .ifCond .eq 11), (15, 1, .aload_n 0), (16, 1, .aload_n 1), (17, 1, .iload_n 3), (18, 1, .iconst 0), (19, 3, .invokevirtual 48), (22, 1, .ireturn), (23, 1, .aload_n 0), (24, 3, .getstatic 52), (27, 3, .invokevirtual 44), (30, 3, .ifCond .eq 11), (33, 1, .aload_n 0), (34, 1, .aload_n 1), (35, 1, .iload_n 3), (36, 1, .iconst 1), (37, 3, .invokevirtual 48), (40, 1, .ireturn), (41, 1, .aload_n 0), (42, 3, .getstatic 55), (45, 3, .invokevirtual 44), (48, 3, .ifCond .eq 11), (51, 1, .aload_n 0), (52, 1, .aload_n 1), (53, 1, .iload_n 3), (54, 1, .iconst 2), (55, 3, .invokevirtual 48), (58, 1, .ireturn), (59, 1, .aload_n 0), (60, 3, .getstatic 58), (63, 3, .invokevirtual 44), (66, 3, .ifCond .eq 9), (69, 1, .aload_n 0), (70, 1, .aload_n 1), (71, 3, .invokevirtual 61), (74, 1, .ireturn), (75, 1, .aload_n 0), (76, 3, .getstatic 65), (79, 3, .invokevirtual 44), (82, 3, .ifCond .eq 11), (85, 1, .aload_n 0), (86, 1, .aload_n 1), (87, 1, .aload_n 2), (88, 1, .iload_n 3), (89, 3, .invokevirtual 68), (92, 1, .ireturn), (93, 1, .aload_n 0), (94, 3, .getstatic 72), (97, 3, .invokevirtual 44), (100, 3, .ifCond .eq 12), (103, 1, .aload_n 0), (104, 1, .aload_n 1), (105, 1, .aload_n 2), (106, 1, .iload_n 3), (107, 1, .iconst 0), (108, 3, .invokevirtual 75), (111, 1, .ireturn), (112, 1, .aload_n 0), (113, 3, .getstatic 79), (116, 3, .invokevirtual 44), (119, 3, .ifCond .eq 12), (122, 1, .aload_n 0), (123, 1, .aload_n 1), (124, 1, .aload_n 2), (125, 1, .iload_n 3), (126, 1, .iconst 1), (127, 3, .invokevirtual 75), (130, 1, .ireturn), (131, 1, .aload_n 0), (132, 1, .iconst 1), (133, 1, .iload_n 3), (134, 3, .invokevirtual 82), (137, 1, .ireturn)]
theorem hX3_readStatement : osDs cX3_readStatement KX3_readStatement := by
  show ∀ q ∈ KX3_readStatement, decode cX3_readStatement q.1 = .ok (q.2.2, q.2.1)
  decide +kernel
def qX3_readStatement (N : Nat) (l0 : Nat) (l1 : Nat) (l2 : Nat) : osM Int32 := osbind (osgI [3] 6 l0) fun x1 => osbind (osstat 0) fun x2 => osbind (osrecv [3] l0 (qX6_take N l0 x2)) fun x3 => osite (x3 = 0) (osbind (osstat 1) fun x4 => osbind (osrecv [3] l0 (qX6_take N l0 x4)) fun x5 => osite (x5 = 0) (osbind (osstat 2) fun x6 => osbind (osrecv [3] l0 (qX6_take N l0 x6)) fun x7 => osite (x7 = 0) (osbind (osstat 4) fun x8 => osbind (osrecv [3] l0 (qX6_take N l0 x8)) fun x9 => osite (x9 = 0) (osbind (osstat 7) fun x10 => osbind (osrecv [3] l0 (qX6_take N l0 x10)) fun x11 => osite (x11 = 0) (osbind (osstat 5) fun x12 => osbind (osrecv [3] l0 (qX6_take N l0 x12)) fun x13 => osite (x13 = 0) (osbind (osstat 6) fun x14 => osbind (osrecv [3] l0 (qX6_take N l0 x14)) fun x15 => osite (x15 = 0) (osbind (osrecv [3] l0 (qX6_fail N l0 (1 : Int32) x1)) fun x16 => osretZ x16) (osbind (osrecv [3] l0 (qX3_readUnit N l0 l1 l2 x1 (1 : Int32))) fun x17 => osretZ x17)) (osbind (osrecv [3] l0 (qX3_readUnit N l0 l1 l2 x1 (0 : Int32))) fun x18 => osretZ x18)) (osbind (osrecv [3] l0 (qX3_readPower N l0 l1 l2 x1)) fun x19 => osretZ x19)) (osbind (osrecv [3] l0 (qX3_readBorder N l0 l1)) fun x20 => osretZ x20)) (osbind (osrecv [3] l0 (qX3_readArea N l0 l1 x1 (2 : Int32))) fun x21 => osretZ x21)) (osbind (osrecv [3] l0 (qX3_readArea N l0 l1 x1 (1 : Int32))) fun x22 => osretZ x22)) (osbind (osrecv [3] l0 (qX3_readArea N l0 l1 x1 (0 : Int32))) fun x23 => osretZ x23)
set_option maxRecDepth 100000 in
set_option maxHeartbeats 4000000 in
theorem sX3_readStatement (N : Nat) (l0 : Nat) (l1 : Nat) (l2 : Nat) : osMet yX3_readStatement cX3_readStatement 4 (some .boolean) 5 116 0 0 (fun r : Int32 => some (.int r)) [.ref l0, .ref l1, .ref l2] (qX3_readStatement N l0 l1 l2) := by
  refine osMet.of plX3 (Nat.le_of_ble_eq_true rfl) (osW.rw (lv2 := [(0, .ref l0), (1, .ref l1), (2, .ref l2)]) ?_ rfl rfl rfl)
  unfold qX3_readStatement
  refine os_aload_n (i := 0) (q := 0) (v := l0) 0 rfl rfl (hX3_readStatement.at 0 rfl rfl) ?_
  refine os_getI fX3_34 (hX3_readStatement.at 1 rfl rfl) (fun x1 => ?_)
  refine os_istore_n (i := 3) (q := 3) rfl (lv' := [(3, .int x1), (0, .ref l0), (1, .ref l1), (2, .ref l2)]) (Nat.le_of_ble_eq_true rfl) rfl (hX3_readStatement.at 2 rfl rfl) ?_
  refine os_aload_n (i := 0) (q := 0) (v := l0) 1 rfl rfl (hX3_readStatement.at 3 rfl rfl) ?_
  refine os_getstatic (j := 0) wd671 ⟨rfl, Or.inl ⟨rfl, rfl⟩⟩ (hX3_readStatement.at 4 rfl rfl) (fun x2 => ?_)
  refine os_callU (cis := [3]) (x := (⟨RX3, "take", "(LOrderSettler$Word;)Z"⟩ : MethodName)) (owner := RX6) (b := l0) (As := [.ref x2]) (st := []) (st' := (fun r => .int r :: [])) sl3_X3itake_X6_take mdX6_take rfl wd673 wd674 wd677 (sX6_take N l0 x2) rfl rfl (fun _ => rfl) (Nat.le_of_ble_eq_true rfl) (Nat.le_of_ble_eq_true rfl) (Nat.le_of_ble_eq_true rfl) rfl (Nat.le_of_ble_eq_true rfl) rfl (Nat.le_of_ble_eq_true rfl) (hX3_readStatement.at 5 rfl rfl) (fun x3 => ?_)
  refine os_if_eq (off := 11) (tgt := 23) rfl (hX3_readStatement.at 6 rfl rfl) ?_ ?_
  · refine os_aload_n (i := 0) (q := 0) (v := l0) 1 rfl rfl (hX3_readStatement.at 13 rfl rfl) ?_
    refine os_getstatic (j := 1) wd714 ⟨rfl, Or.inl ⟨rfl, rfl⟩⟩ (hX3_readStatement.at 14 rfl rfl) (fun x4 => ?_)
    refine os_callU (cis := [3]) (x := (⟨RX3, "take", "(LOrderSettler$Word;)Z"⟩ : MethodName)) (owner := RX6) (b := l0) (As := [.ref x4]) (st := []) (st' := (fun r => .int r :: [])) sl3_X3itake_X6_take mdX6_take rfl wd673 wd674 wd677 (sX6_take N l0 x4) rfl rfl (fun _ => rfl) (Nat.le_of_ble_eq_true rfl) (Nat.le_of_ble_eq_true rfl) (Nat.le_of_ble_eq_true rfl) rfl (Nat.le_of_ble_eq_true rfl) rfl (Nat.le_of_ble_eq_true rfl) (hX3_readStatement.at 15 rfl rfl) (fun x5 => ?_)
    refine os_if_eq (off := 11) (tgt := 41) rfl (hX3_readStatement.at 16 rfl rfl) ?_ ?_
    · refine os_aload_n (i := 0) (q := 0) (v := l0) 1 rfl rfl (hX3_readStatement.at 23 rfl rfl) ?_
      refine os_getstatic (j := 2) wd716 ⟨rfl, Or.inl ⟨rfl, rfl⟩⟩ (hX3_readStatement.at 24 rfl rfl) (fun x6 => ?_)
      refine os_callU (cis := [3]) (x := (⟨RX3, "take", "(LOrderSettler$Word;)Z"⟩ : MethodName)) (owner := RX6) (b := l0) (As := [.ref x6]) (st := []) (st' := (fun r => .int r :: [])) sl3_X3itake_X6_take mdX6_take rfl wd673 wd674 wd677 (sX6_take N l0 x6) rfl rfl (fun _ => rfl) (Nat.le_of_ble_eq_true rfl) (Nat.le_of_ble_eq_true rfl) (Nat.le_of_ble_eq_true rfl) rfl (Nat.le_of_ble_eq_true rfl) rfl (Nat.le_of_ble_eq_true rfl) (hX3_readStatement.at 25 rfl rfl) (fun x7 => ?_)
      refine os_if_eq (off := 11) (tgt := 59) rfl (hX3_readStatement.at 26 rfl rfl) ?_ ?_
      · refine os_aload_n (i := 0) (q := 0) (v := l0) 1 rfl rfl (hX3_readStatement.at 33 rfl rfl) ?_
        refine os_getstatic (j := 4) wd718 ⟨rfl, Or.inl ⟨rfl, rfl⟩⟩ (hX3_readStatement.at 34 rfl rfl) (fun x8 => ?_)
        refine os_callU (cis := [3]) (x := (⟨RX3, "take", "(LOrderSettler$Word;)Z"⟩ : MethodName)) (owner := RX6) (b := l0) (As := [.ref x8]) (st := []) (st' := (fun r => .int r :: [])) sl3_X3itake_X6_take mdX6_take rfl wd673 wd674 wd677 (sX6_take N l0 x8) rfl rfl (fun _ => rfl) (Nat.le_of_ble_eq_true rfl) (Nat.le_of_ble_eq_true rfl) (Nat.le_of_ble_eq_true rfl) rfl (Nat.le_of_ble_eq_true rfl) rfl (Nat.le_of_ble_eq_true rfl) (hX3_readStatement.at 35 rfl rfl) (fun x9 => ?_)
        refine os_if_eq (off := 9) (tgt := 75) rfl (hX3_readStatement.at 36 rfl rfl) ?_ ?_
        · refine os_aload_n (i := 0) (q := 0) (v := l0) 1 rfl rfl (hX3_readStatement.at 41 rfl rfl) ?_
          refine os_getstatic (j := 7) wd759 ⟨rfl, Or.inl ⟨rfl, rfl⟩⟩ (hX3_readStatement.at 42 rfl rfl) (fun x10 => ?_)
          refine os_callU (cis := [3]) (x := (⟨RX3, "take", "(LOrderSettler$Word;)Z"⟩ : MethodName)) (owner := RX6) (b := l0) (As := [.ref x10]) (st := []) (st' := (fun r => .int r :: [])) sl3_X3itake_X6_take mdX6_take rfl wd673 wd674 wd677 (sX6_take N l0 x10) rfl rfl (fun _ => rfl) (Nat.le_of_ble_eq_true rfl) (Nat.le_of_ble_eq_true rfl) (Nat.le_of_ble_eq_true rfl) rfl (Nat.le_of_ble_eq_true rfl) rfl (Nat.le_of_ble_eq_true rfl) (hX3_readStatement.at 43 rfl rfl) (fun x11 => ?_)
          refine os_if_eq (off := 11) (tgt := 93) rfl (hX3_readStatement.at 44 rfl rfl) ?_ ?_
          · refine os_aload_n (i := 0) (q := 0) (v := l0) 1 rfl rfl (hX3_readStatement.at 51 rfl rfl) ?_
            refine os_getstatic (j := 5) wd740 ⟨rfl, Or.inl ⟨rfl, rfl⟩⟩ (hX3_readStatement.at 52 rfl rfl) (fun x12 => ?_)
            refine os_callU (cis := [3]) (x := (⟨RX3, "take", "(LOrderSettler$Word;)Z"⟩ : MethodName)) (owner := RX6) (b := l0) (As := [.ref x12]) (st := []) (st' := (fun r => .int r :: [])) sl3_X3itake_X6_take mdX6_take rfl wd673 wd674 wd677 (sX6_take N l0 x12) rfl rfl (fun _ => rfl) (Nat.le_of_ble_eq_true rfl) (Nat.le_of_ble_eq_true rfl) (Nat.le_of_ble_eq_true rfl) rfl (Nat.le_of_ble_eq_true rfl) rfl (Nat.le_of_ble_eq_true rfl) (hX3_readStatement.at 53 rfl rfl) (fun x13 => ?_)
            refine os_if_eq (off := 12) (tgt := 112) rfl (hX3_readStatement.at 54 rfl rfl) ?_ ?_
            · refine os_aload_n (i := 0) (q := 0) (v := l0) 1 rfl rfl (hX3_readStatement.at 62 rfl rfl) ?_
              refine os_getstatic (j := 6) wd742 ⟨rfl, Or.inl ⟨rfl, rfl⟩⟩ (hX3_readStatement.at 63 rfl rfl) (fun x14 => ?_)
              refine os_callU (cis := [3]) (x := (⟨RX3, "take", "(LOrderSettler$Word;)Z"⟩ : MethodName)) (owner := RX6) (b := l0) (As := [.ref x14]) (st := []) (st' := (fun r => .int r :: [])) sl3_X3itake_X6_take mdX6_take rfl wd673 wd674 wd677 (sX6_take N l0 x14) rfl rfl (fun _ => rfl) (Nat.le_of_ble_eq_true rfl) (Nat.le_of_ble_eq_true rfl) (Nat.le_of_ble_eq_true rfl) rfl (Nat.le_of_ble_eq_true rfl) rfl (Nat.le_of_ble_eq_true rfl) (hX3_readStatement.at 64 rfl rfl) (fun x15 => ?_)
              refine os_if_eq (off := 12) (tgt := 131) rfl (hX3_readStatement.at 65 rfl rfl) ?_ ?_
              · refine os_aload_n (i := 0) (q := 0) (v := l0) 1 rfl rfl (hX3_readStatement.at 73 rfl rfl) ?_
                refine os_iconst (i := 1) (v := (1 : Int32)) rfl (hX3_readStatement.at 74 rfl rfl) ?_
                refine os_iload_n (i := 3) (q := 3) (v := x1) 0 rfl rfl (hX3_readStatement.at 75 rfl rfl) ?_
                refine os_callU (cis := [3]) (x := (⟨RX3, "fail", "(II)Z"⟩ : MethodName)) (owner := RX6) (b := l0) (As := [.int (1 : Int32), .int x1]) (st := []) (st' := (fun r => .int r :: [])) sl3_X3ifail_X6_fail mdX6_fail rfl wd683 wd684 wd687 (sX6_fail N l0 (1 : Int32) x1) rfl rfl (fun _ => rfl) (Nat.le_of_ble_eq_true rfl) (Nat.le_of_ble_eq_true rfl) (Nat.le_of_ble_eq_true rfl) rfl (Nat.le_of_ble_eq_true rfl) rfl (Nat.le_of_ble_eq_true rfl) (hX3_readStatement.at 76 rfl rfl) (fun x16 => ?_)
                exact os_zret (Nat.le_of_ble_eq_true rfl) (Nat.le_of_ble_eq_true rfl) (hX3_readStatement.at 77 rfl rfl).1
              · refine os_aload_n (i := 0) (q := 0) (v := l0) 1 rfl rfl (hX3_readStatement.at 66 rfl rfl) ?_
                refine os_aload_n (i := 1) (q := 1) (v := l1) 2 rfl rfl (hX3_readStatement.at 67 rfl rfl) ?_
                refine os_aload_n (i := 2) (q := 2) (v := l2) 3 rfl rfl (hX3_readStatement.at 68 rfl rfl) ?_
                refine os_iload_n (i := 3) (q := 3) (v := x1) 0 rfl rfl (hX3_readStatement.at 69 rfl rfl) ?_
                refine os_iconst (i := 1) (v := (1 : Int32)) rfl (hX3_readStatement.at 70 rfl rfl) ?_
                refine os_callV (cis := [3]) (b := l0) (As := [.ref l1, .ref l2, .int x1, .int (1 : Int32)]) (st := []) (st' := (fun r => .int r :: [])) sl3_X3_readUnit_X3_readUnit mdX3_readUnit wd795 wd797 (sX3_readUnit N l0 l1 l2 x1 (1 : Int32)) rfl rfl (fun _ => rfl) (Nat.le_of_ble_eq_true rfl) (Nat.le_of_ble_eq_true rfl) (Nat.le_of_ble_eq_true rfl) rfl (Nat.le_of_ble_eq_true rfl) rfl (Nat.le_of_ble_eq_true rfl) (hX3_readStatement.at 71 rfl rfl) (fun x17 => ?_)
                exact os_zret (Nat.le_of_ble_eq_true rfl) (Nat.le_of_ble_eq_true rfl) (hX3_readStatement.at 72 rfl rfl).1
            · refine os_aload_n (i := 0) (q := 0) (v := l0) 1 rfl rfl (hX3_readStatement.at 55 rfl rfl) ?_
              refine os_aload_n (i := 1) (q := 1) (v := l1) 2 rfl rfl (hX3_readStatement.at 56 rfl rfl) ?_
              refine os_aload_n (i := 2) (q := 2) (v := l2) 3 rfl rfl (hX3_readStatement.at 57 rfl rfl) ?_
              refine os_iload_n (i := 3) (q := 3) (v := x1) 0 rfl rfl (hX3_readStatement.at 58 rfl rfl) ?_
              refine os_iconst (i := 0) (v := (0 : Int32)) rfl (hX3_readStatement.at 59 rfl rfl) ?_
              refine os_callV (cis := [3]) (b := l0) (As := [.ref l1, .ref l2, .int x1, .int (0 : Int32)]) (st := []) (st' := (fun r => .int r :: [])) sl3_X3_readUnit_X3_readUnit mdX3_readUnit wd795 wd797 (sX3_readUnit N l0 l1 l2 x1 (0 : Int32)) rfl rfl (fun _ => rfl) (Nat.le_of_ble_eq_true rfl) (Nat.le_of_ble_eq_true rfl) (Nat.le_of_ble_eq_true rfl) rfl (Nat.le_of_ble_eq_true rfl) rfl (Nat.le_of_ble_eq_true rfl) (hX3_readStatement.at 60 rfl rfl) (fun x18 => ?_)
              exact os_zret (Nat.le_of_ble_eq_true rfl) (Nat.le_of_ble_eq_true rfl) (hX3_readStatement.at 61 rfl rfl).1
          · refine os_aload_n (i := 0) (q := 0) (v := l0) 1 rfl rfl (hX3_readStatement.at 45 rfl rfl) ?_
            refine os_aload_n (i := 1) (q := 1) (v := l1) 2 rfl rfl (hX3_readStatement.at 46 rfl rfl) ?_
            refine os_aload_n (i := 2) (q := 2) (v := l2) 3 rfl rfl (hX3_readStatement.at 47 rfl rfl) ?_
            refine os_iload_n (i := 3) (q := 3) (v := x1) 0 rfl rfl (hX3_readStatement.at 48 rfl rfl) ?_
            refine os_callV (cis := [3]) (b := l0) (As := [.ref l1, .ref l2, .int x1]) (st := []) (st' := (fun r => .int r :: [])) sl3_X3_readPower_X3_readPower mdX3_readPower wd761 wd763 (sX3_readPower N l0 l1 l2 x1) rfl rfl (fun _ => rfl) (Nat.le_of_ble_eq_true rfl) (Nat.le_of_ble_eq_true rfl) (Nat.le_of_ble_eq_true rfl) rfl (Nat.le_of_ble_eq_true rfl) rfl (Nat.le_of_ble_eq_true rfl) (hX3_readStatement.at 49 rfl rfl) (fun x19 => ?_)
            exact os_zret (Nat.le_of_ble_eq_true rfl) (Nat.le_of_ble_eq_true rfl) (hX3_readStatement.at 50 rfl rfl).1
        · refine os_aload_n (i := 0) (q := 0) (v := l0) 1 rfl rfl (hX3_readStatement.at 37 rfl rfl) ?_
          refine os_aload_n (i := 1) (q := 1) (v := l1) 2 rfl rfl (hX3_readStatement.at 38 rfl rfl) ?_
          refine os_callV (cis := [3]) (b := l0) (As := [.ref l1]) (st := []) (st' := (fun r => .int r :: [])) sl3_X3_readBorder_X3_readBorder mdX3_readBorder wd720 wd722 (sX3_readBorder N l0 l1) rfl rfl (fun _ => rfl) (Nat.le_of_ble_eq_true rfl) (Nat.le_of_ble_eq_true rfl) (Nat.le_of_ble_eq_true rfl) rfl (Nat.le_of_ble_eq_true rfl) rfl (Nat.le_of_ble_eq_true rfl) (hX3_readStatement.at 39 rfl rfl) (fun x20 => ?_)
          exact os_zret (Nat.le_of_ble_eq_true rfl) (Nat.le_of_ble_eq_true rfl) (hX3_readStatement.at 40 rfl rfl).1
      · refine os_aload_n (i := 0) (q := 0) (v := l0) 1 rfl rfl (hX3_readStatement.at 27 rfl rfl) ?_
        refine os_aload_n (i := 1) (q := 1) (v := l1) 2 rfl rfl (hX3_readStatement.at 28 rfl rfl) ?_
        refine os_iload_n (i := 3) (q := 3) (v := x1) 0 rfl rfl (hX3_readStatement.at 29 rfl rfl) ?_
        refine os_iconst (i := 2) (v := (2 : Int32)) rfl (hX3_readStatement.at 30 rfl rfl) ?_
        refine os_callV (cis := [3]) (b := l0) (As := [.ref l1, .int x1, .int (2 : Int32)]) (st := []) (st' := (fun r => .int r :: [])) sl3_X3_readArea_X3_readArea mdX3_readArea wd679 wd681 (sX3_readArea N l0 l1 x1 (2 : Int32)) rfl rfl (fun _ => rfl) (Nat.le_of_ble_eq_true rfl) (Nat.le_of_ble_eq_true rfl) (Nat.le_of_ble_eq_true rfl) rfl (Nat.le_of_ble_eq_true rfl) rfl (Nat.le_of_ble_eq_true rfl) (hX3_readStatement.at 31 rfl rfl) (fun x21 => ?_)
        exact os_zret (Nat.le_of_ble_eq_true rfl) (Nat.le_of_ble_eq_true rfl) (hX3_readStatement.at 32 rfl rfl).1
    · refine os_aload_n (i := 0) (q := 0) (v := l0) 1 rfl rfl (hX3_readStatement.at 17 rfl rfl) ?_
      refine os_aload_n (i := 1) (q := 1) (v := l1) 2 rfl rfl (hX3_readStatement.at 18 rfl rfl) ?_
      refine os_iload_n (i := 3) (q := 3) (v := x1) 0 rfl rfl (hX3_readStatement.at 19 rfl rfl) ?_
      refine os_iconst (i := 1) (v := (1 : Int32)) rfl (hX3_readStatement.at 20 rfl rfl) ?_
      refine os_callV (cis := [3]) (b := l0) (As := [.ref l1, .int x1, .int (1 : Int32)]) (st := []) (st' := (fun r => .int r :: [])) sl3_X3_readArea_X3_readArea mdX3_readArea wd679 wd681 (sX3_readArea N l0 l1 x1 (1 : Int32)) rfl rfl (fun _ => rfl) (Nat.le_of_ble_eq_true rfl) (Nat.le_of_ble_eq_true rfl) (Nat.le_of_ble_eq_true rfl) rfl (Nat.le_of_ble_eq_true rfl) rfl (Nat.le_of_ble_eq_true rfl) (hX3_readStatement.at 21 rfl rfl) (fun x22 => ?_)
      exact os_zret (Nat.le_of_ble_eq_true rfl) (Nat.le_of_ble_eq_true rfl) (hX3_readStatement.at 22 rfl rfl).1
  · refine os_aload_n (i := 0) (q := 0) (v := l0) 1 rfl rfl (hX3_readStatement.at 7 rfl rfl) ?_
    refine os_aload_n (i := 1) (q := 1) (v := l1) 2 rfl rfl (hX3_readStatement.at 8 rfl rfl) ?_
    refine os_iload_n (i := 3) (q := 3) (v := x1) 0 rfl rfl (hX3_readStatement.at 9 rfl rfl) ?_
    refine os_iconst (i := 0) (v := (0 : Int32)) rfl (hX3_readStatement.at 10 rfl rfl) ?_
    refine os_callV (cis := [3]) (b := l0) (As := [.ref l1, .int x1, .int (0 : Int32)]) (st := []) (st' := (fun r => .int r :: [])) sl3_X3_readArea_X3_readArea mdX3_readArea wd679 wd681 (sX3_readArea N l0 l1 x1 (0 : Int32)) rfl rfl (fun _ => rfl) (Nat.le_of_ble_eq_true rfl) (Nat.le_of_ble_eq_true rfl) (Nat.le_of_ble_eq_true rfl) rfl (Nat.le_of_ble_eq_true rfl) rfl (Nat.le_of_ble_eq_true rfl) (hX3_readStatement.at 11 rfl rfl) (fun x23 => ?_)
    exact os_zret (Nat.le_of_ble_eq_true rfl) (Nat.le_of_ble_eq_true rfl) (hX3_readStatement.at 12 rfl rfl).1
-- X7_readOne
def KX7_readOne : List (Nat × Nat × Instr) := [(0, 1, .aload_n 2), (1, 3, .getfield 26), (4, 3, .ifCond .ne 10), (7, 1, .aload_n 0), (8, 1, .aload_n 1), (9, 1, .aload_n 2), (10, 3, .invokevirtual 32), (13, 1, .ireturn), (14, 1, .aload_n 2), (15, 3, .getfield 26), (18, 1, .iconst 1), (19, 3, .if_icmp .ne 10), (22, 1, .aload_n 0), (23, 1, .aload_n 1), (24, 1, .aload_n 2), (25, 3, .invokevirtual 35), (28, 1, .ireturn), (29, 1, .aload_n 0), (30, 3, .getstatic 38), (33, 3, .invokevirtual 44), (36, 3, .ifCond .eq 10), (39, 1, .aload_n 0), (40, 1, .aload_n 1), (41, 1, .aload_n 2), (42, 3, .invokevirtual 48), (45, 1, .ireturn), (46, 1, .aload_n 0), (47, 3, .getstatic 51), (50, 3, .invokevirtual 54), (53, 3, .ifCond .eq 16), (56, 1, .aload_n 0), (57, 1, .aload_n 1), (58, 1, .aload_n 2), (59, 3, .invokevirtual 57), (62, 3, .ifCond .eq 7), (65, 1, .iconst 1), (66, 3, .goto 4), (69, 1, .iconst 0), (70, 1, .ireturn)]
theorem hX7_readOne : osDs cX7_readOne KX7_readOne := by
  show ∀ q ∈ KX7_readOne, decode cX7_readOne q.1 = .ok (q.2.2, q.2.1)
  decide +kernel
def qX7_readOne_70 (N : Nat) (k0 : Int32) : osM Int32 := osretZ k0
def qX7_readOne_69 (N : Nat) : osM Int32 := qX7_readOne_70 N (0 : Int32)
def qX7_readOne (N : Nat) (l0 : Nat) (l1 : Nat) (l2 : Nat) : osM Int32 := osbind (osgI [5] 0 l2) fun x1 => osite (x1 = 0) (osbind (osrecv [6] l0 (qX7_readOrder N l0 l1 l2)) fun x10 => osretZ x10) (osbind (osgI [5] 0 l2) fun x2 => osite (x2 = (1 : Int32)) (osbind (osrecv [6] l0 (qX7_readRetreat N l0 l1 l2)) fun x9 => osretZ x9) (osbind (osstat 13) fun x3 => osbind (osrecv [6] l0 (qX6_take N l0 x3)) fun x4 => osite (x4 = 0) (osbind (osstat 14) fun x5 => osbind (osrecv [6] l0 (qX6_takeOrFail N l0 x5)) fun x6 => osite (x6 = 0) (qX7_readOne_69 N ) (osbind (osrecv [6] l0 (qX7_readRemoval N l0 l1 l2)) fun x7 => osite (x7 = 0) (qX7_readOne_69 N ) (qX7_readOne_70 N (1 : Int32)))) (osbind (osrecv [6] l0 (qX7_readBuild N l0 l1 l2)) fun x8 => osretZ x8)))
set_option maxRecDepth 100000 in
set_option maxHeartbeats 4000000 in
theorem sX7_readOne_70 (N : Nat) (k0 : Int32) : osW (osFinM (fun r : Int32 => some (.int r)) 0 0) yX7_readOne cX7_readOne 3 (some .boolean) [] { frames := 5, cells := 0, slots := 0, locals := 120 } 0 0 70 [] [.int k0] (qX7_readOne_70 N k0) := by
  unfold qX7_readOne_70
  exact os_zret (Nat.le_of_ble_eq_true rfl) (Nat.le_of_ble_eq_true rfl) (hX7_readOne.at 38 rfl rfl).1
set_option maxRecDepth 100000 in
set_option maxHeartbeats 4000000 in
theorem sX7_readOne_69 (N : Nat) : osW (osFinM (fun r : Int32 => some (.int r)) 0 0) yX7_readOne cX7_readOne 3 (some .boolean) [] { frames := 5, cells := 0, slots := 0, locals := 120 } 0 0 69 [] [] (qX7_readOne_69 N) := by
  unfold qX7_readOne_69
  refine os_iconst (i := 0) (v := (0 : Int32)) rfl (hX7_readOne.at 37 rfl rfl) ?_
  exact osW.sub [] rfl (sX7_readOne_70 N (0 : Int32))
set_option maxRecDepth 100000 in
set_option maxHeartbeats 4000000 in
theorem sX7_readOne (N : Nat) (l0 : Nat) (l1 : Nat) (l2 : Nat) : osMet yX7_readOne cX7_readOne 3 (some .boolean) 5 120 0 0 (fun r : Int32 => some (.int r)) [.ref l0, .ref l1, .ref l2] (qX7_readOne N l0 l1 l2) := by
  refine osMet.of plX7 (Nat.le_of_ble_eq_true rfl) (osW.rw (lv2 := [(0, .ref l0), (1, .ref l1), (2, .ref l2)]) ?_ rfl rfl rfl)
  unfold qX7_readOne
  refine os_aload_n (i := 2) (q := 2) (v := l2) 2 rfl rfl (hX7_readOne.at 0 rfl rfl) ?_
  refine os_getI fX7_26 (hX7_readOne.at 1 rfl rfl) (fun x1 => ?_)
  refine os_if_ne (off := 10) (tgt := 14) rfl (hX7_readOne.at 2 rfl rfl) ?_ ?_
  · refine os_aload_n (i := 2) (q := 2) (v := l2) 2 rfl rfl (hX7_readOne.at 8 rfl rfl) ?_
    refine os_getI fX7_26 (hX7_readOne.at 9 rfl rfl) (fun x2 => ?_)
    refine os_iconst (i := 1) (v := (1 : Int32)) rfl (hX7_readOne.at 10 rfl rfl) ?_
    refine os_icmp_ne (off := 10) (tgt := 29) rfl (hX7_readOne.at 11 rfl rfl) ?_ ?_
    · refine os_aload_n (i := 0) (q := 0) (v := l0) 0 rfl rfl (hX7_readOne.at 17 rfl rfl) ?_
      refine os_getstatic (j := 13) wd1216 ⟨rfl, Or.inl ⟨rfl, rfl⟩⟩ (hX7_readOne.at 18 rfl rfl) (fun x3 => ?_)
      refine os_callU (cis := [6]) (x := (⟨RX7, "take", "(LOrderSettler$Word;)Z"⟩ : MethodName)) (owner := RX6) (b := l0) (As := [.ref x3]) (st := []) (st' := (fun r => .int r :: [])) sl6_X7itake_X6_take mdX6_take rfl wd1138 wd1139 wd677 (sX6_take N l0 x3) rfl rfl (fun _ => rfl) (Nat.le_of_ble_eq_true rfl) (Nat.le_of_ble_eq_true rfl) (Nat.le_of_ble_eq_true rfl) rfl (Nat.le_of_ble_eq_true rfl) rfl (Nat.le_of_ble_eq_true rfl) (hX7_readOne.at 19 rfl rfl) (fun x4 => ?_)
      refine os_if_eq (off := 10) (tgt := 46) rfl (hX7_readOne.at 20 rfl rfl) ?_ ?_
      · refine os_aload_n (i := 0) (q := 0) (v := l0) 0 rfl rfl (hX7_readOne.at 26 rfl rfl) ?_
        refine os_getstatic (j := 14) wd1254 ⟨rfl, Or.inl ⟨rfl, rfl⟩⟩ (hX7_readOne.at 27 rfl rfl) (fun x5 => ?_)
        refine os_callU (cis := [6]) (x := (⟨RX7, "takeOrFail", "(LOrderSettler$Word;)Z"⟩ : MethodName)) (owner := RX6) (b := l0) (As := [.ref x5]) (st := []) (st' := (fun r => .int r :: [])) sl6_X7itakeOrFail_X6_takeOrFail mdX6_takeOrFail rfl wd1182 wd1183 wd1186 (sX6_takeOrFail N l0 x5) rfl rfl (fun _ => rfl) (Nat.le_of_ble_eq_true rfl) (Nat.le_of_ble_eq_true rfl) (Nat.le_of_ble_eq_true rfl) rfl (Nat.le_of_ble_eq_true rfl) rfl (Nat.le_of_ble_eq_true rfl) (hX7_readOne.at 28 rfl rfl) (fun x6 => ?_)
        refine os_if_eq (off := 16) (tgt := 69) rfl (hX7_readOne.at 29 rfl rfl) ?_ ?_
        · exact osW.sub [] rfl (sX7_readOne_69 N )
        · refine os_aload_n (i := 0) (q := 0) (v := l0) 0 rfl rfl (hX7_readOne.at 30 rfl rfl) ?_
          refine os_aload_n (i := 1) (q := 1) (v := l1) 1 rfl rfl (hX7_readOne.at 31 rfl rfl) ?_
          refine os_aload_n (i := 2) (q := 2) (v := l2) 2 rfl rfl (hX7_readOne.at 32 rfl rfl) ?_
          refine os_callV (cis := [6]) (b := l0) (As := [.ref l1, .ref l2]) (st := []) (st' := (fun r => .int r :: [])) sl6_X7_readRemoval_X7_readRemoval mdX7_readRemoval wd1256 wd1258 (sX7_readRemoval N l0 l1 l2) rfl rfl (fun _ => rfl) (Nat.le_of_ble_eq_true rfl) (Nat.le_of_ble_eq_true rfl) (Nat.le_of_ble_eq_true rfl) rfl (Nat.le_of_ble_eq_true rfl) rfl (Nat.le_of_ble_eq_true rfl) (hX7_readOne.at 33 rfl rfl) (fun x7 => ?_)
          refine os_if_eq (off := 7) (tgt := 69) rfl (hX7_readOne.at 34 rfl rfl) ?_ ?_
          · exact osW.sub [] rfl (sX7_readOne_69 N )
          · refine os_iconst (i := 1) (v := (1 : Int32)) rfl (hX7_readOne.at 35 rfl rfl) ?_
            refine os_goto (off := 4) (tgt := 70) rfl (hX7_readOne.at 36 rfl rfl) ?_
            exact osW.sub [] rfl (sX7_readOne_70 N (1 : Int32))
      · refine os_aload_n (i := 0) (q := 0) (v := l0) 0 rfl rfl (hX7_readOne.at 21 rfl rfl) ?_
        refine os_aload_n (i := 1) (q := 1) (v := l1) 1 rfl rfl (hX7_readOne.at 22 rfl rfl) ?_
        refine os_aload_n (i := 2) (q := 2) (v := l2) 2 rfl rfl (hX7_readOne.at 23 rfl rfl) ?_
        refine os_callV (cis := [6]) (b := l0) (As := [.ref l1, .ref l2]) (st := []) (st' := (fun r => .int r :: [])) sl6_X7_readBuild_X7_readBuild mdX7_readBuild wd1218 wd1220 (sX7_readBuild N l0 l1 l2) rfl rfl (fun _ => rfl) (Nat.le_of_ble_eq_true rfl) (Nat.le_of_ble_eq_true rfl) (Nat.le_of_ble_eq_true rfl) rfl (Nat.le_of_ble_eq_true rfl) rfl (Nat.le_of_ble_eq_true rfl) (hX7_readOne.at 24 rfl rfl) (fun x8 => ?_)
        exact os_zret (Nat.le_of_ble_eq_true rfl) (Nat.le_of_ble_eq_true rfl) (hX7_readOne.at 25 rfl rfl).1
    · refine os_aload_n (i := 0) (q := 0) (v := l0) 0 rfl rfl (hX7_readOne.at 12 rfl rfl) ?_
      refine os_aload_n (i := 1) (q := 1) (v := l1) 1 rfl rfl (hX7_readOne.at 13 rfl rfl) ?_
      refine os_aload_n (i := 2) (q := 2) (v := l2) 2 rfl rfl (hX7_readOne.at 14 rfl rfl) ?_
      refine os_callV (cis := [6]) (b := l0) (As := [.ref l1, .ref l2]) (st := []) (st' := (fun r => .int r :: [])) sl6_X7_readRetreat_X7_readRetreat mdX7_readRetreat wd1197 wd1199 (sX7_readRetreat N l0 l1 l2) rfl rfl (fun _ => rfl) (Nat.le_of_ble_eq_true rfl) (Nat.le_of_ble_eq_true rfl) (Nat.le_of_ble_eq_true rfl) rfl (Nat.le_of_ble_eq_true rfl) rfl (Nat.le_of_ble_eq_true rfl) (hX7_readOne.at 15 rfl rfl) (fun x9 => ?_)
      exact os_zret (Nat.le_of_ble_eq_true rfl) (Nat.le_of_ble_eq_true rfl) (hX7_readOne.at 16 rfl rfl).1
  · refine os_aload_n (i := 0) (q := 0) (v := l0) 0 rfl rfl (hX7_readOne.at 3 rfl rfl) ?_
    refine os_aload_n (i := 1) (q := 1) (v := l1) 1 rfl rfl (hX7_readOne.at 4 rfl rfl) ?_
    refine os_aload_n (i := 2) (q := 2) (v := l2) 2 rfl rfl (hX7_readOne.at 5 rfl rfl) ?_
    refine os_callV (cis := [6]) (b := l0) (As := [.ref l1, .ref l2]) (st := []) (st' := (fun r => .int r :: [])) sl6_X7_readOrder_X7_readOrder mdX7_readOrder wd1125 wd1127 (sX7_readOrder N l0 l1 l2) rfl rfl (fun _ => rfl) (Nat.le_of_ble_eq_true rfl) (Nat.le_of_ble_eq_true rfl) (Nat.le_of_ble_eq_true rfl) rfl (Nat.le_of_ble_eq_true rfl) rfl (Nat.le_of_ble_eq_true rfl) (hX7_readOne.at 6 rfl rfl) (fun x10 => ?_)
    exact os_zret (Nat.le_of_ble_eq_true rfl) (Nat.le_of_ble_eq_true rfl) (hX7_readOne.at 7 rfl rfl).1
-- X3_readMap
def KX3_readMap : List (Nat × Nat × Instr) := [(0, 1, .aload_n 3), (1, 3, .invokevirtual 9), (4, 2, .aload 4), (6, 3, .invokevirtual 14), (9, 1, .aload_n 0), (10, 1, .aload_n 1), (11, 1, .iload_n 2), (12, 3, .invokevirtual 17), (15, 1, .iconst 0), (16, 2, .istore 5), (18, 2, .iload 5), (20, 1, .iload_n 2), (21, 3, .if_icmp .gt 37), (24, 1, .aload_n 0), (25, 3, .invokevirtual 23), (28, 3, .ifCond .eq 5), (31, 1, .iconst 1), (32, 1, .ireturn), (33, 1, .aload_n 0), (34, 1, .aload_n 3), (35, 2, .aload 4), (37, 3, .invokevirtual 27), (40, 3, .ifCond .eq 10), (43, 1, .aload_n 0), (44, 3, .invokevirtual 31), (47, 3, .ifCond .ne 5), (50, 1, .iconst 0), (51, 1, .ireturn), (52, 3, .iinc 5 1), (55, 3, .goto (-37)), (58, 1, .iconst 0), (59, 1, .ireturn)]
theorem hX3_readMap : osDs cX3_readMap KX3_readMap := by
  show ∀ q ∈ KX3_readMap, decode cX3_readMap q.1 = .ok (q.2.2, q.2.1)
  decide +kernel
def qX3_readMap_50 (N : Nat) : osM Int32 := osretZ (0 : Int32)
def bX3_readMap_18 (N : Nat) (c18 : Nat × Int32 × Nat × Nat × Int32 → osM Int32) (l0 : Nat) (l2 : Int32) (l3 : Nat) (l4 : Nat) (l5 : Int32) : osM Int32 := osite (l2 < l5) (osretZ (0 : Int32)) (osbind (osrecv [3] l0 (qX6_isAtEnd N l0)) fun x1 => osite (x1 = 0) (osbind (osrecv [3] l0 (qX3_readStatement N l0 l3 l4)) fun x2 => osite (x2 = 0) (qX3_readMap_50 N ) (osbind (osrecv [3] l0 (qX6_takeSemicolon N l0)) fun x3 => osite (x3 = 0) (qX3_readMap_50 N ) (c18 (l0, l2, l3, l4, (l5 + (1 : Int32)))))) (osretZ (1 : Int32)))
def qX3_readMap_18 (N : Nat) : Nat × Int32 × Nat × Nat × Int32 → osM Int32 := osloop (fun ih p => bX3_readMap_18 N ih p.1 p.2.1 p.2.2.1 p.2.2.2.1 p.2.2.2.2) N
def qX3_readMap (N : Nat) (l0 : Nat) (l1 : Nat) (l2 : Int32) (l3 : Nat) (l4 : Nat) : osM Int32 := osbind (osrecv [0] l3 (qX0_clear N l3)) fun _ => osbind (osrecv [5] l4 (qX5_clear N l4)) fun _ => osbind (osrecv [3] l0 (qX6_begin N l0 l1 l2)) fun _ => qX3_readMap_18 N (l0, l2, l3, l4, (0 : Int32))
set_option maxRecDepth 100000 in
set_option maxHeartbeats 4000000 in
theorem sX3_readMap_50 (N : Nat) : osW (osFinM (fun r : Int32 => some (.int r)) 0 0) yX3_readMap cX3_readMap 6 (some .boolean) [] { frames := 6, cells := 0, slots := 0, locals := 139 } 0 0 50 [] [] (qX3_readMap_50 N) := by
  unfold qX3_readMap_50
  refine os_iconst (i := 0) (v := (0 : Int32)) rfl (hX3_readMap.at 26 rfl rfl) ?_
  exact os_zret (Nat.le_of_ble_eq_true rfl) (Nat.le_of_ble_eq_true rfl) (hX3_readMap.at 27 rfl rfl).1
set_option maxRecDepth 100000 in
set_option maxHeartbeats 4000000 in
theorem tX3_readMap_18 (N : Nat) (c18 : Nat × Int32 × Nat × Nat × Int32 → osM Int32) (g18 : ∀ (l0 : Nat) (l2 : Int32) (l3 : Nat) (l4 : Nat) (l5 : Int32), osW (osFinM (fun r : Int32 => some (.int r)) 0 0) yX3_readMap cX3_readMap 6 (some .boolean) [] { frames := 6, cells := 0, slots := 0, locals := 139 } 0 0 18 [(0, .ref l0), (2, .int l2), (3, .ref l3), (4, .ref l4), (5, .int l5)] [] (c18 (l0, l2, l3, l4, l5))) (l0 : Nat) (l2 : Int32) (l3 : Nat) (l4 : Nat) (l5 : Int32) : osW (osFinM (fun r : Int32 => some (.int r)) 0 0) yX3_readMap cX3_readMap 6 (some .boolean) [] { frames := 6, cells := 0, slots := 0, locals := 139 } 0 0 18 [(0, .ref l0), (2, .int l2), (3, .ref l3), (4, .ref l4), (5, .int l5)] [] (bX3_readMap_18 N c18 l0 l2 l3 l4 l5) := by
  unfold bX3_readMap_18
  refine os_iload (v := l5) 4 rfl (hX3_readMap.at 10 rfl rfl) ?_
  refine os_iload_n (i := 2) (q := 2) (v := l2) 1 rfl rfl (hX3_readMap.at 11 rfl rfl) ?_
  refine os_icmp_gt (off := 37) (tgt := 58) rfl (hX3_readMap.at 12 rfl rfl) ?_ ?_
  · refine os_iconst (i := 0) (v := (0 : Int32)) rfl (hX3_readMap.at 30 rfl rfl) ?_
    exact os_zret (Nat.le_of_ble_eq_true rfl) (Nat.le_of_ble_eq_true rfl) (hX3_readMap.at 31 rfl rfl).1
  · refine os_aload_n (i := 0) (q := 0) (v := l0) 0 rfl rfl (hX3_readMap.at 13 rfl rfl) ?_
    refine os_callU (cis := [3]) (x := (⟨RX3, "isAtEnd", "()Z"⟩ : MethodName)) (owner := RX6) (b := l0) (As := []) (st := []) (st' := (fun r => .int r :: [])) sl3_X3iisAtEnd_X6_isAtEnd mdX6_isAtEnd rfl wd661 wd662 wd665 (sX6_isAtEnd N l0 ) rfl rfl (fun _ => rfl) (Nat.le_of_ble_eq_true rfl) (Nat.le_of_ble_eq_true rfl) (Nat.le_of_ble_eq_true rfl) rfl (Nat.le_of_ble_eq_true rfl) rfl (Nat.le_of_ble_eq_true rfl) (hX3_readMap.at 14 rfl rfl) (fun x1 => ?_)
    refine os_if_eq (off := 5) (tgt := 33) rfl (hX3_readMap.at 15 rfl rfl) ?_ ?_
    · refine os_aload_n (i := 0) (q := 0) (v := l0) 0 rfl rfl (hX3_readMap.at 18 rfl rfl) ?_
      refine os_aload_n (i := 3) (q := 3) (v := l3) 2 rfl rfl (hX3_readMap.at 19 rfl rfl) ?_
      refine os_aload (v := l4) 3 rfl (hX3_readMap.at 20 rfl rfl) ?_
      refine os_callV (cis := [3]) (b := l0) (As := [.ref l3, .ref l4]) (st := []) (st' := (fun r => .int r :: [])) sl3_X3_readStatement_X3_readStatement mdX3_readStatement wd667 wd669 (sX3_readStatement N l0 l3 l4) rfl rfl (fun _ => rfl) (Nat.le_of_ble_eq_true rfl) (Nat.le_of_ble_eq_true rfl) (Nat.le_of_ble_eq_true rfl) rfl (Nat.le_of_ble_eq_true rfl) rfl (Nat.le_of_ble_eq_true rfl) (hX3_readMap.at 21 rfl rfl) (fun x2 => ?_)
      refine os_if_eq (off := 10) (tgt := 50) rfl (hX3_readMap.at 22 rfl rfl) ?_ ?_
      · exact osW.sub [] rfl (sX3_readMap_50 N )
      · refine os_aload_n (i := 0) (q := 0) (v := l0) 0 rfl rfl (hX3_readMap.at 23 rfl rfl) ?_
        refine os_callU (cis := [3]) (x := (⟨RX3, "takeSemicolon", "()Z"⟩ : MethodName)) (owner := RX6) (b := l0) (As := []) (st := []) (st' := (fun r => .int r :: [])) sl3_X3itakeSemicolon_X6_takeSemicolon mdX6_takeSemicolon rfl wd815 wd816 wd819 (sX6_takeSemicolon N l0 ) rfl rfl (fun _ => rfl) (Nat.le_of_ble_eq_true rfl) (Nat.le_of_ble_eq_true rfl) (Nat.le_of_ble_eq_true rfl) rfl (Nat.le_of_ble_eq_true rfl) rfl (Nat.le_of_ble_eq_true rfl) (hX3_readMap.at 24 rfl rfl) (fun x3 => ?_)
        refine os_if_ne (off := 5) (tgt := 52) rfl (hX3_readMap.at 25 rfl rfl) ?_ ?_
        · refine os_iinc (i := 5) (d := 1) (x := l5) (v := (1 : Int32)) (lv' := [(5, .int (l5 + (1 : Int32))), (0, .ref l0), (2, .int l2), (3, .ref l3), (4, .ref l4)]) 4 rfl rfl (Nat.le_of_ble_eq_true rfl) rfl (hX3_readMap.at 28 rfl rfl) ?_
          refine os_goto (off := (-37)) (tgt := 18) rfl (hX3_readMap.at 29 rfl rfl) ?_
          exact osW.sub [1, 2, 3, 4, 0] rfl (g18 l0 l2 l3 l4 (l5 + (1 : Int32)))
        · exact osW.sub [] rfl (sX3_readMap_50 N )
    · refine os_iconst (i := 1) (v := (1 : Int32)) rfl (hX3_readMap.at 16 rfl rfl) ?_
      exact os_zret (Nat.le_of_ble_eq_true rfl) (Nat.le_of_ble_eq_true rfl) (hX3_readMap.at 17 rfl rfl).1
set_option maxRecDepth 100000 in
set_option maxHeartbeats 4000000 in
theorem sX3_readMap_18 (N : Nat) (l0 : Nat) (l2 : Int32) (l3 : Nat) (l4 : Nat) (l5 : Int32) : osW (osFinM (fun r : Int32 => some (.int r)) 0 0) yX3_readMap cX3_readMap 6 (some .boolean) [] { frames := 6, cells := 0, slots := 0, locals := 139 } 0 0 18 [(0, .ref l0), (2, .int l2), (3, .ref l3), (4, .ref l4), (5, .int l5)] [] (qX3_readMap_18 N (l0, l2, l3, l4, l5)) :=
  osloop_W (lvf := fun p => [(0, .ref p.1), (2, .int p.2.1), (3, .ref p.2.2.1), (4, .ref p.2.2.2.1), (5, .int p.2.2.2.2)]) (stf := fun p => []) (fun ih g p => tX3_readMap_18 N ih (fun l0 l2 l3 l4 l5 => g (l0, l2, l3, l4, l5)) p.1 p.2.1 p.2.2.1 p.2.2.2.1 p.2.2.2.2) N (l0, l2, l3, l4, l5)
set_option maxRecDepth 100000 in
set_option maxHeartbeats 4000000 in
theorem sX3_readMap (N : Nat) (l0 : Nat) (l1 : Nat) (l2 : Int32) (l3 : Nat) (l4 : Nat) : osMet yX3_readMap cX3_readMap 6 (some .boolean) 6 139 0 0 (fun r : Int32 => some (.int r)) [.ref l0, .ref l1, .int l2, .ref l3, .ref l4] (qX3_readMap N l0 l1 l2 l3 l4) := by
  refine osMet.of plX3 (Nat.le_of_ble_eq_true rfl) (osW.rw (lv2 := [(0, .ref l0), (1, .ref l1), (2, .int l2), (3, .ref l3), (4, .ref l4)]) ?_ rfl rfl rfl)
  unfold qX3_readMap
  refine os_aload_n (i := 3) (q := 3) (v := l3) 3 rfl rfl (hX3_readMap.at 0 rfl rfl) ?_
  refine os_callV (cis := [0]) (b := l3) (As := []) (st := []) (st' := (fun _ => [])) sl0_X0_clear_X0_clear mdX0_clear wd646 wd288 (sX0_clear N l3 ) rfl rfl (fun _ => rfl) (Nat.le_of_ble_eq_true rfl) (Nat.le_of_ble_eq_true rfl) (Nat.le_of_ble_eq_true rfl) rfl (Nat.le_of_ble_eq_true rfl) rfl (Nat.le_of_ble_eq_true rfl) (hX3_readMap.at 1 rfl rfl) (fun _ => ?_)
  refine os_aload (v := l4) 4 rfl (hX3_readMap.at 2 rfl rfl) ?_
  refine os_callV (cis := [5]) (b := l4) (As := []) (st := []) (st' := (fun _ => [])) sl5_X5_clear_X5_clear mdX5_clear wd647 wd342 (sX5_clear N l4 ) rfl rfl (fun _ => rfl) (Nat.le_of_ble_eq_true rfl) (Nat.le_of_ble_eq_true rfl) (Nat.le_of_ble_eq_true rfl) rfl (Nat.le_of_ble_eq_true rfl) rfl (Nat.le_of_ble_eq_true rfl) (hX3_readMap.at 3 rfl rfl) (fun _ => ?_)
  refine os_aload_n (i := 0) (q := 0) (v := l0) 0 rfl rfl (hX3_readMap.at 4 rfl rfl) ?_
  refine os_aload_n (i := 1) (q := 1) (v := l1) 1 rfl rfl (hX3_readMap.at 5 rfl rfl) ?_
  refine os_iload_n (i := 2) (q := 2) (v := l2) 2 rfl rfl (hX3_readMap.at 6 rfl rfl) ?_
  refine os_callU (cis := [3]) (x := (⟨RX3, "begin", "([BI)V"⟩ : MethodName)) (owner := RX6) (b := l0) (As := [.ref l1, .int l2]) (st := []) (st' := (fun _ => [])) sl3_X3ibegin_X6_begin mdX6_begin rfl wd648 wd649 wd652 (sX6_begin N l0 l1 l2) rfl rfl (fun _ => rfl) (Nat.le_of_ble_eq_true rfl) (Nat.le_of_ble_eq_true rfl) (Nat.le_of_ble_eq_true rfl) rfl (Nat.le_of_ble_eq_true rfl) rfl (Nat.le_of_ble_eq_true rfl) (hX3_readMap.at 7 rfl rfl) (fun _ => ?_)
  refine os_iconst (i := 0) (v := (0 : Int32)) rfl (hX3_readMap.at 8 rfl rfl) ?_
  refine os_istore (i := 5) (lv' := [(5, .int (0 : Int32)), (0, .ref l0), (1, .ref l1), (2, .int l2), (3, .ref l3), (4, .ref l4)]) (Nat.le_of_ble_eq_true rfl) rfl (hX3_readMap.at 9 rfl rfl) ?_
  exact osW.sub [1, 3, 4, 5, 0] rfl (sX3_readMap_18 N l0 l2 l3 l4 (0 : Int32))
-- X7_readAll
def KX7_readAll : List (Nat × Nat × Instr) := [(0, 1, .aload_n 0), (1, 1, .aload_n 1), (2, 1, .iload_n 2), (3, 3, .invokevirtual 9), (6, 1, .iconst 0), (7, 2, .istore 5), (9, 2, .iload 5), (11, 1, .iload_n 2), (12, 3, .if_icmp .gt 38), (15, 1, .aload_n 0), (16, 3, .invokevirtual 15), (19, 3, .ifCond .eq 6), (22, 2, .iload 5), (24, 1, .ireturn), (25, 1, .aload_n 0), (26, 1, .aload_n 3), (27, 2, .aload 4), (29, 3, .invokevirtual 19), (32, 3, .ifCond .eq 10), (35, 1, .aload_n 0), (36, 3, .invokevirtual 23), (39, 3, .ifCond .ne 5), (42, 1, .iconst (-1)), (43, 1, .ireturn), (44, 3, .iinc 5 1), (47, 3, .goto (-38)), (50, 1, .iconst (-1)), (51, 1, .ireturn)]
theorem hX7_readAll : osDs cX7_readAll KX7_readAll := by
  show ∀ q ∈ KX7_readAll, decode cX7_readAll q.1 = .ok (q.2.2, q.2.1)
  decide +kernel
def qX7_readAll_42 (N : Nat) : osM Int32 := osret (-1 : Int32)
def bX7_readAll_9 (N : Nat) (c9 : Nat × Int32 × Nat × Nat × Int32 → osM Int32) (l0 : Nat) (l2 : Int32) (l3 : Nat) (l4 : Nat) (l5 : Int32) : osM Int32 := osite (l2 < l5) (osret (-1 : Int32)) (osbind (osrecv [6] l0 (qX6_isAtEnd N l0)) fun x1 => osite (x1 = 0) (osbind (osrecv [6] l0 (qX7_readOne N l0 l3 l4)) fun x2 => osite (x2 = 0) (qX7_readAll_42 N ) (osbind (osrecv [6] l0 (qX6_takeSemicolon N l0)) fun x3 => osite (x3 = 0) (qX7_readAll_42 N ) (c9 (l0, l2, l3, l4, (l5 + (1 : Int32)))))) (osret l5))
def qX7_readAll_9 (N : Nat) : Nat × Int32 × Nat × Nat × Int32 → osM Int32 := osloop (fun ih p => bX7_readAll_9 N ih p.1 p.2.1 p.2.2.1 p.2.2.2.1 p.2.2.2.2) N
def qX7_readAll (N : Nat) (l0 : Nat) (l1 : Nat) (l2 : Int32) (l3 : Nat) (l4 : Nat) : osM Int32 := osbind (osrecv [6] l0 (qX6_begin N l0 l1 l2)) fun _ => qX7_readAll_9 N (l0, l2, l3, l4, (0 : Int32))
set_option maxRecDepth 100000 in
set_option maxHeartbeats 4000000 in
theorem sX7_readAll_42 (N : Nat) : osW (osFinM (fun r : Int32 => some (.int r)) 0 0) yX7_readAll cX7_readAll 6 (some .int) [] { frames := 6, cells := 0, slots := 0, locals := 142 } 0 0 42 [] [] (qX7_readAll_42 N) := by
  unfold qX7_readAll_42
  refine os_iconst (i := (-1)) (v := (-1 : Int32)) rfl (hX7_readAll.at 22 rfl rfl) ?_
  exact os_iret (Nat.le_of_ble_eq_true rfl) (Nat.le_of_ble_eq_true rfl) (hX7_readAll.at 23 rfl rfl).1
set_option maxRecDepth 100000 in
set_option maxHeartbeats 4000000 in
theorem tX7_readAll_9 (N : Nat) (c9 : Nat × Int32 × Nat × Nat × Int32 → osM Int32) (g9 : ∀ (l0 : Nat) (l2 : Int32) (l3 : Nat) (l4 : Nat) (l5 : Int32), osW (osFinM (fun r : Int32 => some (.int r)) 0 0) yX7_readAll cX7_readAll 6 (some .int) [] { frames := 6, cells := 0, slots := 0, locals := 142 } 0 0 9 [(0, .ref l0), (2, .int l2), (3, .ref l3), (4, .ref l4), (5, .int l5)] [] (c9 (l0, l2, l3, l4, l5))) (l0 : Nat) (l2 : Int32) (l3 : Nat) (l4 : Nat) (l5 : Int32) : osW (osFinM (fun r : Int32 => some (.int r)) 0 0) yX7_readAll cX7_readAll 6 (some .int) [] { frames := 6, cells := 0, slots := 0, locals := 142 } 0 0 9 [(0, .ref l0), (2, .int l2), (3, .ref l3), (4, .ref l4), (5, .int l5)] [] (bX7_readAll_9 N c9 l0 l2 l3 l4 l5) := by
  unfold bX7_readAll_9
  refine os_iload (v := l5) 4 rfl (hX7_readAll.at 6 rfl rfl) ?_
  refine os_iload_n (i := 2) (q := 2) (v := l2) 1 rfl rfl (hX7_readAll.at 7 rfl rfl) ?_
  refine os_icmp_gt (off := 38) (tgt := 50) rfl (hX7_readAll.at 8 rfl rfl) ?_ ?_
  · refine os_iconst (i := (-1)) (v := (-1 : Int32)) rfl (hX7_readAll.at 26 rfl rfl) ?_
    exact os_iret (Nat.le_of_ble_eq_true rfl) (Nat.le_of_ble_eq_true rfl) (hX7_readAll.at 27 rfl rfl).1
  · refine os_aload_n (i := 0) (q := 0) (v := l0) 0 rfl rfl (hX7_readAll.at 9 rfl rfl) ?_
    refine os_callU (cis := [6]) (x := (⟨RX7, "isAtEnd", "()Z"⟩ : MethodName)) (owner := RX6) (b := l0) (As := []) (st := []) (st' := (fun r => .int r :: [])) sl6_X7iisAtEnd_X6_isAtEnd mdX6_isAtEnd rfl wd1118 wd1119 wd665 (sX6_isAtEnd N l0 ) rfl rfl (fun _ => rfl) (Nat.le_of_ble_eq_true rfl) (Nat.le_of_ble_eq_true rfl) (Nat.le_of_ble_eq_true rfl) rfl (Nat.le_of_ble_eq_true rfl) rfl (Nat.le_of_ble_eq_true rfl) (hX7_readAll.at 10 rfl rfl) (fun x1 => ?_)
    refine os_if_eq (off := 6) (tgt := 25) rfl (hX7_readAll.at 11 rfl rfl) ?_ ?_
    · refine os_aload_n (i := 0) (q := 0) (v := l0) 0 rfl rfl (hX7_readAll.at 14 rfl rfl) ?_
      refine os_aload_n (i := 3) (q := 3) (v := l3) 2 rfl rfl (hX7_readAll.at 15 rfl rfl) ?_
      refine os_aload (v := l4) 3 rfl (hX7_readAll.at 16 rfl rfl) ?_
      refine os_callV (cis := [6]) (b := l0) (As := [.ref l3, .ref l4]) (st := []) (st' := (fun r => .int r :: [])) sl6_X7_readOne_X7_readOne mdX7_readOne wd1121 wd1123 (sX7_readOne N l0 l3 l4) rfl rfl (fun _ => rfl) (Nat.le_of_ble_eq_true rfl) (Nat.le_of_ble_eq_true rfl) (Nat.le_of_ble_eq_true rfl) rfl (Nat.le_of_ble_eq_true rfl) rfl (Nat.le_of_ble_eq_true rfl) (hX7_readAll.at 17 rfl rfl) (fun x2 => ?_)
      refine os_if_eq (off := 10) (tgt := 42) rfl (hX7_readAll.at 18 rfl rfl) ?_ ?_
      · exact osW.sub [] rfl (sX7_readAll_42 N )
      · refine os_aload_n (i := 0) (q := 0) (v := l0) 0 rfl rfl (hX7_readAll.at 19 rfl rfl) ?_
        refine os_callU (cis := [6]) (x := (⟨RX7, "takeSemicolon", "()Z"⟩ : MethodName)) (owner := RX6) (b := l0) (As := []) (st := []) (st' := (fun r => .int r :: [])) sl6_X7itakeSemicolon_X6_takeSemicolon mdX6_takeSemicolon rfl wd1264 wd1265 wd819 (sX6_takeSemicolon N l0 ) rfl rfl (fun _ => rfl) (Nat.le_of_ble_eq_true rfl) (Nat.le_of_ble_eq_true rfl) (Nat.le_of_ble_eq_true rfl) rfl (Nat.le_of_ble_eq_true rfl) rfl (Nat.le_of_ble_eq_true rfl) (hX7_readAll.at 20 rfl rfl) (fun x3 => ?_)
        refine os_if_ne (off := 5) (tgt := 44) rfl (hX7_readAll.at 21 rfl rfl) ?_ ?_
        · refine os_iinc (i := 5) (d := 1) (x := l5) (v := (1 : Int32)) (lv' := [(5, .int (l5 + (1 : Int32))), (0, .ref l0), (2, .int l2), (3, .ref l3), (4, .ref l4)]) 4 rfl rfl (Nat.le_of_ble_eq_true rfl) rfl (hX7_readAll.at 24 rfl rfl) ?_
          refine os_goto (off := (-38)) (tgt := 9) rfl (hX7_readAll.at 25 rfl rfl) ?_
          exact osW.sub [1, 2, 3, 4, 0] rfl (g9 l0 l2 l3 l4 (l5 + (1 : Int32)))
        · exact osW.sub [] rfl (sX7_readAll_42 N )
    · refine os_iload (v := l5) 4 rfl (hX7_readAll.at 12 rfl rfl) ?_
      exact os_iret (Nat.le_of_ble_eq_true rfl) (Nat.le_of_ble_eq_true rfl) (hX7_readAll.at 13 rfl rfl).1
set_option maxRecDepth 100000 in
set_option maxHeartbeats 4000000 in
theorem sX7_readAll_9 (N : Nat) (l0 : Nat) (l2 : Int32) (l3 : Nat) (l4 : Nat) (l5 : Int32) : osW (osFinM (fun r : Int32 => some (.int r)) 0 0) yX7_readAll cX7_readAll 6 (some .int) [] { frames := 6, cells := 0, slots := 0, locals := 142 } 0 0 9 [(0, .ref l0), (2, .int l2), (3, .ref l3), (4, .ref l4), (5, .int l5)] [] (qX7_readAll_9 N (l0, l2, l3, l4, l5)) :=
  osloop_W (lvf := fun p => [(0, .ref p.1), (2, .int p.2.1), (3, .ref p.2.2.1), (4, .ref p.2.2.2.1), (5, .int p.2.2.2.2)]) (stf := fun p => []) (fun ih g p => tX7_readAll_9 N ih (fun l0 l2 l3 l4 l5 => g (l0, l2, l3, l4, l5)) p.1 p.2.1 p.2.2.1 p.2.2.2.1 p.2.2.2.2) N (l0, l2, l3, l4, l5)
set_option maxRecDepth 100000 in
set_option maxHeartbeats 4000000 in
theorem sX7_readAll (N : Nat) (l0 : Nat) (l1 : Nat) (l2 : Int32) (l3 : Nat) (l4 : Nat) : osMet yX7_readAll cX7_readAll 6 (some .int) 6 142 0 0 (fun r : Int32 => some (.int r)) [.ref l0, .ref l1, .int l2, .ref l3, .ref l4] (qX7_readAll N l0 l1 l2 l3 l4) := by
  refine osMet.of plX7 (Nat.le_of_ble_eq_true rfl) (osW.rw (lv2 := [(0, .ref l0), (1, .ref l1), (2, .int l2), (3, .ref l3), (4, .ref l4)]) ?_ rfl rfl rfl)
  unfold qX7_readAll
  refine os_aload_n (i := 0) (q := 0) (v := l0) 0 rfl rfl (hX7_readAll.at 0 rfl rfl) ?_
  refine os_aload_n (i := 1) (q := 1) (v := l1) 1 rfl rfl (hX7_readAll.at 1 rfl rfl) ?_
  refine os_iload_n (i := 2) (q := 2) (v := l2) 2 rfl rfl (hX7_readAll.at 2 rfl rfl) ?_
  refine os_callU (cis := [6]) (x := (⟨RX7, "begin", "([BI)V"⟩ : MethodName)) (owner := RX6) (b := l0) (As := [.ref l1, .int l2]) (st := []) (st' := (fun _ => [])) sl6_X7ibegin_X6_begin mdX6_begin rfl wd1115 wd1116 wd652 (sX6_begin N l0 l1 l2) rfl rfl (fun _ => rfl) (Nat.le_of_ble_eq_true rfl) (Nat.le_of_ble_eq_true rfl) (Nat.le_of_ble_eq_true rfl) rfl (Nat.le_of_ble_eq_true rfl) rfl (Nat.le_of_ble_eq_true rfl) (hX7_readAll.at 3 rfl rfl) (fun _ => ?_)
  refine os_iconst (i := 0) (v := (0 : Int32)) rfl (hX7_readAll.at 4 rfl rfl) ?_
  refine os_istore (i := 5) (lv' := [(5, .int (0 : Int32)), (0, .ref l0), (1, .ref l1), (2, .int l2), (3, .ref l3), (4, .ref l4)]) (Nat.le_of_ble_eq_true rfl) rfl (hX7_readAll.at 5 rfl rfl) ?_
  exact osW.sub [1, 3, 4, 5, 0] rfl (sX7_readAll_9 N l0 l2 l3 l4 (0 : Int32))
