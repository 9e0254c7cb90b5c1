-- L_next
def KL_next : List (Nat × Nat × Instr) := [(0, 1, .aload_n 0), (1, 1, .iconst 0), (2, 1, .aload_n 0), (3, 1, .iconst 0), (4, 1, .iaload), (5, 2, .ldc 7), (7, 1, .imul), (8, 3, .sipush 12345), (11, 1, .iadd), (12, 1, .iastore), (13, 1, .aload_n 0), (14, 1, .iconst 0), (15, 1, .dup2), (16, 1, .iaload), (17, 1, .aload_n 0), (18, 1, .iconst 0), (19, 1, .iaload), (20, 2, .bipush 15), (22, 1, .iushr), (23, 1, .ixor), (24, 1, .iastore), (25, 1, .aload_n 0), (26, 1, .iconst 0), (27, 1, .iaload), (28, 2, .bipush 9), (30, 1, .iushr), (31, 1, .ireturn)]
theorem hL_next : osDs cL_next KL_next := by
  show ∀ q ∈ KL_next, decode cL_next q.1 = .ok (q.2.2, q.2.1)
  decide +kernel
def qL_next (N : Nat) (l0 : Nat) : osM Int32 := osbind (osaI 0 l0 (0 : Int32)) fun x1 => osbind (ossI 0 l0 (0 : Int32) ((x1 * (1103515245 : Int32)) + (12345 : Int32))) fun _ => osbind (osaI 0 l0 (0 : Int32)) fun x2 => osbind (osaI 0 l0 (0 : Int32)) fun x3 => osbind (ossI 0 l0 (0 : Int32) (x2 ^^^ (osushr x3 (15 : Int32)))) fun _ => osbind (osaI 0 l0 (0 : Int32)) fun x4 => osret (osushr x4 (9 : Int32))
set_option maxRecDepth 100000 in
set_option maxHeartbeats 4000000 in
theorem sL_next (N : Nat) (l0 : Nat) : osMet yL_next cL_next 1 (some .int) 0 0 0 0 (fun r : Int32 => some (.int r)) [.ref l0] (qL_next N l0) := by
  refine osMet.of plL (Nat.le_of_ble_eq_true rfl) (osW.rw (lv2 := [(0, .ref l0)]) ?_ rfl rfl rfl)
  unfold qL_next
  refine os_aload_n (i := 0) (q := 0) (v := l0) 0 rfl rfl (hL_next.at 0 rfl rfl) ?_
  refine os_iconst (i := 0) (v := (0 : Int32)) rfl (hL_next.at 1 rfl rfl) ?_
  refine os_aload_n (i := 0) (q := 0) (v := l0) 0 rfl rfl (hL_next.at 2 rfl rfl) ?_
  refine os_iconst (i := 0) (v := (0 : Int32)) rfl (hL_next.at 3 rfl rfl) ?_
  refine os_iaload (hL_next.at 4 rfl rfl) (fun x1 => ?_)
  refine os_ldc (v := (1103515245 : Int32)) wd487 (hL_next.at 5 rfl rfl) ?_
  refine os_imul (hL_next.at 6 rfl rfl) ?_
  refine os_sipush (i := 12345) (v := (12345 : Int32)) rfl (hL_next.at 7 rfl rfl) ?_
  refine os_iadd (hL_next.at 8 rfl rfl) ?_
  refine os_iastore (hL_next.at 9 rfl rfl) ?_
  refine os_aload_n (i := 0) (q := 0) (v := l0) 0 rfl rfl (hL_next.at 10 rfl rfl) ?_
  refine os_iconst (i := 0) (v := (0 : Int32)) rfl (hL_next.at 11 rfl rfl) ?_
  refine os_dup2_11 rfl rfl (hL_next.at 12 rfl rfl) ?_
  refine os_iaload (hL_next.at 13 rfl rfl) (fun x2 => ?_)
  refine os_aload_n (i := 0) (q := 0) (v := l0) 0 rfl rfl (hL_next.at 14 rfl rfl) ?_
  refine os_iconst (i := 0) (v := (0 : Int32)) rfl (hL_next.at 15 rfl rfl) ?_
  refine os_iaload (hL_next.at 16 rfl rfl) (fun x3 => ?_)
  refine os_bipush (i := 15) (v := (15 : Int32)) rfl (hL_next.at 17 rfl rfl) ?_
  refine os_iushr (hL_next.at 18 rfl rfl) ?_
  refine os_ixor (hL_next.at 19 rfl rfl) ?_
  refine os_iastore (hL_next.at 20 rfl rfl) ?_
  refine os_aload_n (i := 0) (q := 0) (v := l0) 0 rfl rfl (hL_next.at 21 rfl rfl) ?_
  refine os_iconst (i := 0) (v := (0 : Int32)) rfl (hL_next.at 22 rfl rfl) ?_
  refine os_iaload (hL_next.at 23 rfl rfl) (fun x4 => ?_)
  refine os_bipush (i := 9) (v := (9 : Int32)) rfl (hL_next.at 24 rfl rfl) ?_
  refine os_iushr (hL_next.at 25 rfl rfl) ?_
  exact os_iret (by omega) (by omega) (hL_next.at 26 rfl rfl).1
-- L_border
def KL_border : List (Nat × Nat × Instr) := [(0, 3, .new 39), (3, 1, .dup), (4, 3, .invokespecial 41), (7, 2, .ldc 73), (9, 3, .invokevirtual 52), (12, 2, .bipush 97), (14, 1, .iload_n 0), (15, 1, .iadd), (16, 1, .i2c), (17, 3, .invokevirtual 56), (20, 2, .ldc 75), (22, 3, .invokevirtual 52), (25, 2, .bipush 97), (27, 1, .iload_n 1), (28, 1, .iadd), (29, 1, .i2c), (30, 3, .invokevirtual 56), (33, 2, .ldc 61), (35, 3, .invokevirtual 52), (38, 3, .invokevirtual 69), (41, 1, .areturn)]
theorem hL_border : osDs cL_border KL_border := by
  show ∀ q ∈ KL_border, decode cL_border q.1 = .ok (q.2.2, q.2.1)
  decide +kernel
def qL_border (N : Nat) (l0 : Int32) (l1 : Int32) : osM Nat := osbind (osnew (.inr (9, [.null, .int 0, .int 0, .int 0]))) fun x1 => osbind (qJ4_init_da8c8 N x1) fun _ => osbind (ostext 5) fun x2 => osbind (osrecv [9] x1 (qJ4_append_15ec4 N x1 x2)) fun x3 => osbind (osrecv [9] x3 (qJ4_append_cf468 N x3 ((((97 : Int32) + l0).toUInt32 % 65536).toInt32))) fun x4 => osbind (ostext 6) fun x5 => osbind (osrecv [9] x4 (qJ4_append_15ec4 N x4 x5)) fun x6 => osbind (osrecv [9] x6 (qJ4_append_cf468 N x6 ((((97 : Int32) + l1).toUInt32 % 65536).toInt32))) fun x7 => osbind (ostext 4) fun x8 => osbind (osrecv [9] x7 (qJ4_append_15ec4 N x7 x8)) fun x9 => osbind (osrecv [9] x9 (qJ4_toString_0e30d N x9)) fun x10 => osret x10
set_option maxRecDepth 100000 in
set_option maxHeartbeats 4000000 in
theorem sL_border (N : Nat) (l0 : Int32) (l1 : Int32) : osMet yL_border cL_border 2 (some (.object "java/lang/String")) 6 171 9 456 (fun r : Nat => some (.ref r)) [.int l0, .int l1] (qL_border N l0 l1) := by
  refine osMet.of plL (Nat.le_of_ble_eq_true rfl) (osW.rw (lv2 := [(0, .int l0), (1, .int l1)]) ?_ rfl rfl rfl)
  unfold qL_border
  refine os_new (C := RJ4) (T := TJ4) (N := 4) (ci := 9) (ty0 := tyJ4) rfl tyJ4_ok osinJ4 wd834 wd835 wd64 dfJ4 (by show _ ≤ 9; omega) (by show _ ≤ 456; omega) (hL_border.at 0 rfl rfl) (fun x1 => ?_)
  refine os_dup rfl (hL_border.at 1 rfl rfl) ?_
  refine os_callI (b := x1) (As := []) (st := [.ref x1]) (st' := (fun _ => [.ref x1])) mdJ4_init_da8c8 rfl wd836 wd837 (sJ4_init_da8c8 N x1 ) rfl rfl (fun _ => rfl) (Nat.le_of_ble_eq_true rfl) (Nat.le_of_ble_eq_true rfl) (Nat.le_of_ble_eq_true rfl) rfl (by show _ ≤ 9; omega) rfl (by show _ ≤ 456; omega) (hL_border.at 2 rfl rfl) (fun _ => ?_)
  refine os_text (j := 5) (q := ("OrderSettlerLaw", 73, "border ")) rfl rfl (hL_border.at 3 rfl rfl) (fun x2 => ?_)
  refine os_callV (cis := [9]) (b := x1) (As := [.ref x2]) (st := []) (st' := (fun r => .ref r :: [])) sl9_J4_append_15ec4_J4_append_15ec4 mdJ4_append_15ec4 wd867 wd868 (sJ4_append_15ec4 N x1 x2) rfl rfl (fun _ => rfl) (Nat.le_of_ble_eq_true rfl) (Nat.le_of_ble_eq_true rfl) (Nat.le_of_ble_eq_true rfl) rfl (by show _ ≤ 9; omega) rfl (by show _ ≤ 456; omega) (hL_border.at 4 rfl rfl) (fun x3 => ?_)
  refine os_bipush (i := 97) (v := (97 : Int32)) rfl (hL_border.at 5 rfl rfl) ?_
  refine os_iload_n (i := 0) (q := 0) (v := l0) 0 rfl rfl (hL_border.at 6 rfl rfl) ?_
  refine os_iadd (hL_border.at 7 rfl rfl) ?_
  refine os_i2c (hL_border.at 8 rfl rfl) ?_
  refine os_callV (cis := [9]) (b := x3) (As := [.int ((((97 : Int32) + l0).toUInt32 % 65536).toInt32)]) (st := []) (st' := (fun r => .ref r :: [])) sl9_J4_append_cf468_J4_append_cf468 mdJ4_append_cf468 wd966 wd967 (sJ4_append_cf468 N x3 ((((97 : Int32) + l0).toUInt32 % 65536).toInt32)) rfl rfl (fun _ => rfl) (Nat.le_of_ble_eq_true rfl) (Nat.le_of_ble_eq_true rfl) (Nat.le_of_ble_eq_true rfl) rfl (by show _ ≤ 9; omega) rfl (by show _ ≤ 456; omega) (hL_border.at 9 rfl rfl) (fun x4 => ?_)
  refine os_text (j := 6) (q := ("OrderSettlerLaw", 75, " ")) rfl rfl (hL_border.at 10 rfl rfl) (fun x5 => ?_)
  refine os_callV (cis := [9]) (b := x4) (As := [.ref x5]) (st := []) (st' := (fun r => .ref r :: [])) sl9_J4_append_15ec4_J4_append_15ec4 mdJ4_append_15ec4 wd867 wd868 (sJ4_append_15ec4 N x4 x5) rfl rfl (fun _ => rfl) (Nat.le_of_ble_eq_true rfl) (Nat.le_of_ble_eq_true rfl) (Nat.le_of_ble_eq_true rfl) rfl (by show _ ≤ 9; omega) rfl (by show _ ≤ 456; omega) (hL_border.at 11 rfl rfl) (fun x6 => ?_)
  refine os_bipush (i := 97) (v := (97 : Int32)) rfl (hL_border.at 12 rfl rfl) ?_
  refine os_iload_n (i := 1) (q := 1) (v := l1) 1 rfl rfl (hL_border.at 13 rfl rfl) ?_
  refine os_iadd (hL_border.at 14 rfl rfl) ?_
  refine os_i2c (hL_border.at 15 rfl rfl) ?_
  refine os_callV (cis := [9]) (b := x6) (As := [.int ((((97 : Int32) + l1).toUInt32 % 65536).toInt32)]) (st := []) (st' := (fun r => .ref r :: [])) sl9_J4_append_cf468_J4_append_cf468 mdJ4_append_cf468 wd966 wd967 (sJ4_append_cf468 N x6 ((((97 : Int32) + l1).toUInt32 % 65536).toInt32)) rfl rfl (fun _ => rfl) (Nat.le_of_ble_eq_true rfl) (Nat.le_of_ble_eq_true rfl) (Nat.le_of_ble_eq_true rfl) rfl (by show _ ≤ 9; omega) rfl (by show _ ≤ 456; omega) (hL_border.at 16 rfl rfl) (fun x7 => ?_)
  refine os_text (j := 4) (q := ("OrderSettlerLaw", 61, ";")) rfl rfl (hL_border.at 17 rfl rfl) (fun x8 => ?_)
  refine os_callV (cis := [9]) (b := x7) (As := [.ref x8]) (st := []) (st' := (fun r => .ref r :: [])) sl9_J4_append_15ec4_J4_append_15ec4 mdJ4_append_15ec4 wd867 wd868 (sJ4_append_15ec4 N x7 x8) rfl rfl (fun _ => rfl) (Nat.le_of_ble_eq_true rfl) (Nat.le_of_ble_eq_true rfl) (Nat.le_of_ble_eq_true rfl) rfl (by show _ ≤ 9; omega) rfl (by show _ ≤ 456; omega) (hL_border.at 18 rfl rfl) (fun x9 => ?_)
  refine os_callV (cis := [9]) (b := x9) (As := []) (st := []) (st' := (fun r => .ref r :: [])) sl9_J4_toString_0e30d_J4_toString_0e30d mdJ4_toString_0e30d wd986 wd987 (sJ4_toString_0e30d N x9 ) rfl rfl (fun _ => rfl) (Nat.le_of_ble_eq_true rfl) (Nat.le_of_ble_eq_true rfl) (Nat.le_of_ble_eq_true rfl) rfl (by show _ ≤ 9; omega) rfl (by show _ ≤ 456; omega) (hL_border.at 19 rfl rfl) (fun x10 => ?_)
  exact os_aret (Or.inl ⟨_, rfl⟩) (by omega) (by omega) (hL_border.at 20 rfl rfl).1
-- L_units
def KL_units : List (Nat × Nat × Instr) := [(0, 3, .new 39), (3, 1, .dup), (4, 3, .invokespecial 41), (7, 1, .astore_n 3), (8, 1, .iconst 0), (9, 2, .istore 4), (11, 1, .iconst 0), (12, 2, .istore 5), (14, 2, .iload 5), (16, 1, .iload_n 1), (17, 3, .if_icmp .ge 109), (20, 2, .iload 4), (22, 2, .bipush 9), (24, 3, .if_icmp .ge 102), (27, 1, .aload_n 0), (28, 3, .invokestatic 42), (31, 1, .iconst 4), (32, 1, .irem), (33, 3, .ifCond .ne 6), (36, 3, .goto 84), (39, 2, .iload 5), (41, 1, .iconst 3), (42, 3, .if_icmp .lt 19), (45, 2, .iload 5), (47, 2, .bipush 6), (49, 3, .if_icmp .ge 16), (52, 1, .aload_n 0), (53, 3, .invokestatic 42), (56, 1, .iconst 4), (57, 1, .irem), (58, 3, .ifCond .ne 7), (61, 1, .iconst 1), (62, 3, .goto 4), (65, 1, .iconst 0), (66, 2, .istore 6), (68, 1, .aload_n 3), (69, 2, .iload 6), (71, 3, .ifCond .eq 8), (74, 2, .ldc 77), (76, 3, .goto 5), (79, 2, .ldc 79), (81, 3, .invokevirtual 52), (84, 2, .bipush 112), (86, 1, .aload_n 0), (87, 3, .invokestatic 42), (90, 1, .iload_n 2), (91, 1, .irem), (92, 1, .iadd), (93, 1, .i2c), (94, 3, .invokevirtual 56), (97, 2, .bipush 32), (99, 3, .invokevirtual 56), (102, 2, .bipush 97), (104, 2, .iload 5), (106, 1, .iadd), (107, 1, .i2c), (108, 3, .invokevirtual 56), (111, 2, .bipush 59), (113, 3, .invokevirtual 56), (116, 1, .pop), (117, 3, .iinc 4 1), (120, 3, .iinc 5 1), (123, 3, .goto (-109)), (126, 1, .aload_n 3), (127, 3, .invokevirtual 69), (130, 1, .areturn)]
theorem hL_units : osDs cL_units KL_units := by
  show ∀ q ∈ KL_units, decode cL_units q.1 = .ok (q.2.2, q.2.1)
  decide +kernel
def qL_units_126 (N : Nat) (l3 : Nat) : osM Nat := osbind (osrecv [9] l3 (qBJ4_toString_0e30d N l3)) fun x1 => osret x1
def qL_units_120 (N : Nat) (c14 : Nat × Int32 × Int32 × Nat × Int32 × Int32 → osM Nat) (l0 : Nat) (l1 : Int32) (l2 : Int32) (l3 : Nat) (l4 : Int32) (l5 : Int32) : osM Nat := c14 (l0, l1, l2, l3, l4, (l5 + (1 : Int32)))
def qL_units_81 (N : Nat) (c14 : Nat × Int32 × Int32 × Nat × Int32 × Int32 → osM Nat) (l0 : Nat) (l1 : Int32) (l2 : Int32) (l3 : Nat) (l4 : Int32) (l5 : Int32) (k0 : Nat) (k1 : Nat) : osM Nat := osbind (osrecv [9] k1 (qBJ4_append_15ec4 N k1 k0)) fun x1 => osbind (qL_next N l0) fun x2 => osguard (¬ l2 = 0) (osbind (osrecv [9] x1 (qBJ4_append_cf468 N x1 ((((112 : Int32) + (x2 - x2 / l2 * l2)).toUInt32 % 65536).toInt32))) fun x4 => osbind (osrecv [9] x4 (qBJ4_append_cf468 N x4 (32 : Int32))) fun x5 => osbind (osrecv [9] x5 (qBJ4_append_cf468 N x5 ((((97 : Int32) + l5).toUInt32 % 65536).toInt32))) fun x6 => osbind (osrecv [9] x6 (qBJ4_append_cf468 N x6 (59 : Int32))) fun x7 => qL_units_120 N c14 l0 l1 l2 l3 (l4 + (1 : Int32)) l5)
def qL_units_66 (N : Nat) (c14 : Nat × Int32 × Int32 × Nat × Int32 × Int32 → osM Nat) (l0 : Nat) (l1 : Int32) (l2 : Int32) (l3 : Nat) (l4 : Int32) (l5 : Int32) (k0 : Int32) : osM Nat := osite (k0 = 0) (osbind (ostext 9) fun x1 => qL_units_81 N c14 l0 l1 l2 l3 l4 l5 x1 l3) (osbind (ostext 8) fun x2 => qL_units_81 N c14 l0 l1 l2 l3 l4 l5 x2 l3)
def qL_units_61 (N : Nat) (c14 : Nat × Int32 × Int32 × Nat × Int32 × Int32 → osM Nat) (l0 : Nat) (l1 : Int32) (l2 : Int32) (l3 : Nat) (l4 : Int32) (l5 : Int32) : osM Nat := qL_units_66 N c14 l0 l1 l2 l3 l4 l5 (1 : Int32)
def qL_units_65 (N : Nat) (c14 : Nat × Int32 × Int32 × Nat × Int32 × Int32 → osM Nat) (l0 : Nat) (l1 : Int32) (l2 : Int32) (l3 : Nat) (l4 : Int32) (l5 : Int32) : osM Nat := qL_units_66 N c14 l0 l1 l2 l3 l4 l5 (0 : Int32)
def bL_units_14 (N : Nat) (c14 : Nat × Int32 × Int32 × Nat × Int32 × Int32 → osM Nat) (l0 : Nat) (l1 : Int32) (l2 : Int32) (l3 : Nat) (l4 : Int32) (l5 : Int32) : osM Nat := osite (l1 ≤ l5) (qL_units_126 N l3) (osite ((9 : Int32) ≤ l4) (qL_units_126 N l3) (osbind (qL_next N l0) fun x1 => osguard (¬ (4 : Int32) = 0) (osite ((x1 - x1 / (4 : Int32) * (4 : Int32)) = 0) (qL_units_120 N c14 l0 l1 l2 l3 l4 l5) (osite (l5 < (3 : Int32)) (qL_units_61 N c14 l0 l1 l2 l3 l4 l5) (osite ((6 : Int32) ≤ l5) (qL_units_65 N c14 l0 l1 l2 l3 l4 l5) (osbind (qL_next N l0) fun x3 => osguard (¬ (4 : Int32) = 0) (osite ((x3 - x3 / (4 : Int32) * (4 : Int32)) = 0) (qL_units_61 N c14 l0 l1 l2 l3 l4 l5) (qL_units_65 N c14 l0 l1 l2 l3 l4 l5))))))))
def qL_units_14 (N : Nat) : Nat × Int32 × Int32 × Nat × Int32 × Int32 → osM Nat := osloop (fun ih p => bL_units_14 N ih p.1 p.2.1 p.2.2.1 p.2.2.2.1 p.2.2.2.2.1 p.2.2.2.2.2) 13
def qL_units (N : Nat) (l0 : Nat) (l1 : Int32) (l2 : Int32) : osM Nat := osbind (osnew (.inr (9, [.null, .int 0, .int 0, .int 0]))) fun x1 => osbind (qBJ4_init_da8c8 N x1) fun _ => qL_units_14 N (l0, l1, l2, x1, (0 : Int32), (0 : Int32))
set_option maxRecDepth 100000 in
set_option maxHeartbeats 4000000 in
theorem sL_units_126 (N : Nat) (l3 : Nat) : osW (osFinM (fun r : Nat => some (.ref r)) 69 80408) yL_units cL_units 7 (some (.object "java/lang/String")) [] { frames := 6, cells := 69, slots := 80408, locals := 171 } (67) (79204) 126 [(3, .ref l3)] [] (qL_units_126 N l3) := by
  unfold qL_units_126
  refine os_aload_n (i := 3) (q := 3) (v := l3) 0 rfl rfl (hL_units.at 63 rfl rfl) ?_
  refine os_callV (cis := [9]) (b := l3) (As := []) (st := []) (st' := (fun r => .ref r :: [])) sl9_J4_toString_0e30d_J4_toString_0e30d mdJ4_toString_0e30d wd986 wd987 (sBJ4_toString_0e30d N l3 ) rfl rfl (fun _ => rfl) (Nat.le_of_ble_eq_true rfl) (Nat.le_of_ble_eq_true rfl) (Nat.le_of_ble_eq_true rfl) rfl (by show _ ≤ 69; omega) rfl (by show _ ≤ 80408; omega) (hL_units.at 64 rfl rfl) (fun x1 => ?_)
  exact os_aret (Or.inl ⟨_, rfl⟩) (by omega) (by omega) (hL_units.at 65 rfl rfl).1
set_option maxRecDepth 100000 in
set_option maxHeartbeats 4000000 in
theorem sL_units_120 (N : Nat) (k14 n14 : Nat) (hx14 : k14 + 5 ≤ 67 ∧ n14 + 6000 ≤ 79204) (c14 : Nat × Int32 × Int32 × Nat × Int32 × Int32 → osM Nat) (g14 : ∀ (l0 : Nat) (l1 : Int32) (l2 : Int32) (l3 : Nat) (l4 : Int32) (l5 : Int32), osW (osFinM (fun r : Nat => some (.ref r)) 69 80408) yL_units cL_units 7 (some (.object "java/lang/String")) [] { frames := 6, cells := 69, slots := 80408, locals := 171 } (k14 + 5) (n14 + 6000) 14 [(0, .ref l0), (1, .int l1), (2, .int l2), (3, .ref l3), (4, .int l4), (5, .int l5)] [] (c14 (l0, l1, l2, l3, l4, l5))) (l0 : Nat) (l1 : Int32) (l2 : Int32) (l3 : Nat) (l4 : Int32) (l5 : Int32) : osW (osFinM (fun r : Nat => some (.ref r)) 69 80408) yL_units cL_units 7 (some (.object "java/lang/String")) [] { frames := 6, cells := 69, slots := 80408, locals := 171 } (k14 + 5) (n14 + 6000) 120 [(0, .ref l0), (1, .int l1), (2, .int l2), (3, .ref l3), (4, .int l4), (5, .int l5)] [] (qL_units_120 N c14 l0 l1 l2 l3 l4 l5) := by
  unfold qL_units_120
  refine os_iinc (i := 5) (d := 1) (x := l5) (v := (1 : Int32)) (lv' := [(5, .int (l5 + (1 : Int32))), (0, .ref l0), (1, .int l1), (2, .int l2), (3, .ref l3), (4, .int l4)]) 5 rfl rfl (Nat.le_of_ble_eq_true rfl) rfl (hL_units.at 61 rfl rfl) ?_
  refine os_goto (off := (-109)) (tgt := 14) rfl (hL_units.at 62 rfl rfl) ?_
  exact osW.widen (k' := k14 + 5) (n' := n14 + 6000) (by omega) (by omega) (osW.sub [1, 2, 3, 4, 5, 0] rfl (g14 l0 l1 l2 l3 l4 (l5 + (1 : Int32))))
set_option maxRecDepth 100000 in
set_option maxHeartbeats 4000000 in
theorem sL_units_81 (N : Nat) (k14 n14 : Nat) (hx14 : k14 + 5 ≤ 67 ∧ n14 + 6000 ≤ 79204) (c14 : Nat × Int32 × Int32 × Nat × Int32 × Int32 → osM Nat) (g14 : ∀ (l0 : Nat) (l1 : Int32) (l2 : Int32) (l3 : Nat) (l4 : Int32) (l5 : Int32), osW (osFinM (fun r : Nat => some (.ref r)) 69 80408) yL_units cL_units 7 (some (.object "java/lang/String")) [] { frames := 6, cells := 69, slots := 80408, locals := 171 } (k14 + 5) (n14 + 6000) 14 [(0, .ref l0), (1, .int l1), (2, .int l2), (3, .ref l3), (4, .int l4), (5, .int l5)] [] (c14 (l0, l1, l2, l3, l4, l5))) (l0 : Nat) (l1 : Int32) (l2 : Int32) (l3 : Nat) (l4 : Int32) (l5 : Int32) (k0 : Nat) (k1 : Nat) : osW (osFinM (fun r : Nat => some (.ref r)) 69 80408) yL_units cL_units 7 (some (.object "java/lang/String")) [] { frames := 6, cells := 69, slots := 80408, locals := 171 } (k14) (n14) 81 [(0, .ref l0), (1, .int l1), (2, .int l2), (3, .ref l3), (4, .int l4), (5, .int l5)] [.ref k0, .ref k1] (qL_units_81 N c14 l0 l1 l2 l3 l4 l5 k0 k1) := by
  unfold qL_units_81
  refine os_callV (cis := [9]) (b := k1) (As := [.ref k0]) (st := []) (st' := (fun r => .ref r :: [])) sl9_J4_append_15ec4_J4_append_15ec4 mdJ4_append_15ec4 wd867 wd868 (sBJ4_append_15ec4 N k1 k0) rfl rfl (fun _ => rfl) (Nat.le_of_ble_eq_true rfl) (Nat.le_of_ble_eq_true rfl) (Nat.le_of_ble_eq_true rfl) rfl (by show _ ≤ 69; omega) rfl (by show _ ≤ 80408; omega) (hL_units.at 41 rfl rfl) (fun x1 => ?_)
  refine os_bipush (i := 112) (v := (112 : Int32)) rfl (hL_units.at 42 rfl rfl) ?_
  refine os_aload_n (i := 0) (q := 0) (v := l0) 0 rfl rfl (hL_units.at 43 rfl rfl) ?_
  refine os_callS (As := [.ref l0]) (st := [.int (112 : Int32), .ref x1]) (st' := (fun r => .int r :: [.int (112 : Int32), .ref x1])) mdL_next wd484 wd485 (sL_next N l0) rfl rfl (fun _ => rfl) (Nat.le_of_ble_eq_true rfl) (Nat.le_of_ble_eq_true rfl) (Nat.le_of_ble_eq_true rfl) rfl (by show _ ≤ 69; omega) rfl (by show _ ≤ 80408; omega) (hL_units.at 44 rfl rfl) (fun x2 => ?_)
  refine os_iload_n (i := 2) (q := 2) (v := l2) 2 rfl rfl (hL_units.at 45 rfl rfl) ?_
  refine os_guard (fun h3 => ?_)
  refine os_irem h3 (hL_units.at 46 rfl rfl) ?_
  refine os_iadd (hL_units.at 47 rfl rfl) ?_
  refine os_i2c (hL_units.at 48 rfl rfl) ?_
  refine os_callV (cis := [9]) (b := x1) (As := [.int ((((112 : Int32) + (x2 - x2 / l2 * l2)).toUInt32 % 65536).toInt32)]) (st := []) (st' := (fun r => .ref r :: [])) sl9_J4_append_cf468_J4_append_cf468 mdJ4_append_cf468 wd966 wd967 (sBJ4_append_cf468 N x1 ((((112 : Int32) + (x2 - x2 / l2 * l2)).toUInt32 % 65536).toInt32)) rfl rfl (fun _ => rfl) (Nat.le_of_ble_eq_true rfl) (Nat.le_of_ble_eq_true rfl) (Nat.le_of_ble_eq_true rfl) rfl (by show _ ≤ 69; omega) rfl (by show _ ≤ 80408; omega) (hL_units.at 49 rfl rfl) (fun x4 => ?_)
  refine os_bipush (i := 32) (v := (32 : Int32)) rfl (hL_units.at 50 rfl rfl) ?_
  refine os_callV (cis := [9]) (b := x4) (As := [.int (32 : Int32)]) (st := []) (st' := (fun r => .ref r :: [])) sl9_J4_append_cf468_J4_append_cf468 mdJ4_append_cf468 wd966 wd967 (sBJ4_append_cf468 N x4 (32 : Int32)) rfl rfl (fun _ => rfl) (Nat.le_of_ble_eq_true rfl) (Nat.le_of_ble_eq_true rfl) (Nat.le_of_ble_eq_true rfl) rfl (by show _ ≤ 69; omega) rfl (by show _ ≤ 80408; omega) (hL_units.at 51 rfl rfl) (fun x5 => ?_)
  refine os_bipush (i := 97) (v := (97 : Int32)) rfl (hL_units.at 52 rfl rfl) ?_
  refine os_iload (v := l5) 5 rfl (hL_units.at 53 rfl rfl) ?_
  refine os_iadd (hL_units.at 54 rfl rfl) ?_
  refine os_i2c (hL_units.at 55 rfl rfl) ?_
  refine os_callV (cis := [9]) (b := x5) (As := [.int ((((97 : Int32) + l5).toUInt32 % 65536).toInt32)]) (st := []) (st' := (fun r => .ref r :: [])) sl9_J4_append_cf468_J4_append_cf468 mdJ4_append_cf468 wd966 wd967 (sBJ4_append_cf468 N x5 ((((97 : Int32) + l5).toUInt32 % 65536).toInt32)) rfl rfl (fun _ => rfl) (Nat.le_of_ble_eq_true rfl) (Nat.le_of_ble_eq_true rfl) (Nat.le_of_ble_eq_true rfl) rfl (by show _ ≤ 69; omega) rfl (by show _ ≤ 80408; omega) (hL_units.at 56 rfl rfl) (fun x6 => ?_)
  refine os_bipush (i := 59) (v := (59 : Int32)) rfl (hL_units.at 57 rfl rfl) ?_
  refine os_callV (cis := [9]) (b := x6) (As := [.int (59 : Int32)]) (st := []) (st' := (fun r => .ref r :: [])) sl9_J4_append_cf468_J4_append_cf468 mdJ4_append_cf468 wd966 wd967 (sBJ4_append_cf468 N x6 (59 : Int32)) rfl rfl (fun _ => rfl) (Nat.le_of_ble_eq_true rfl) (Nat.le_of_ble_eq_true rfl) (Nat.le_of_ble_eq_true rfl) rfl (by show _ ≤ 69; omega) rfl (by show _ ≤ 80408; omega) (hL_units.at 58 rfl rfl) (fun x7 => ?_)
  refine os_pop rfl (hL_units.at 59 rfl rfl) ?_
  refine os_iinc (i := 4) (d := 1) (x := l4) (v := (1 : Int32)) (lv' := [(4, .int (l4 + (1 : Int32))), (0, .ref l0), (1, .int l1), (2, .int l2), (3, .ref l3), (5, .int l5)]) 4 rfl rfl (Nat.le_of_ble_eq_true rfl) rfl (hL_units.at 60 rfl rfl) ?_
  exact osW.widen (k' := k14 + 5) (n' := n14 + 6000) (by omega) (by omega) (osW.sub [1, 2, 3, 4, 0, 5] rfl (sL_units_120 N k14 n14 hx14 c14 g14 l0 l1 l2 l3 (l4 + (1 : Int32)) l5))
set_option maxRecDepth 100000 in
set_option maxHeartbeats 4000000 in
theorem sL_units_66 (N : Nat) (k14 n14 : Nat) (hx14 : k14 + 5 ≤ 67 ∧ n14 + 6000 ≤ 79204) (c14 : Nat × Int32 × Int32 × Nat × Int32 × Int32 → osM Nat) (g14 : ∀ (l0 : Nat) (l1 : Int32) (l2 : Int32) (l3 : Nat) (l4 : Int32) (l5 : Int32), osW (osFinM (fun r : Nat => some (.ref r)) 69 80408) yL_units cL_units 7 (some (.object "java/lang/String")) [] { frames := 6, cells := 69, slots := 80408, locals := 171 } (k14 + 5) (n14 + 6000) 14 [(0, .ref l0), (1, .int l1), (2, .int l2), (3, .ref l3), (4, .int l4), (5, .int l5)] [] (c14 (l0, l1, l2, l3, l4, l5))) (l0 : Nat) (l1 : Int32) (l2 : Int32) (l3 : Nat) (l4 : Int32) (l5 : Int32) (k0 : Int32) : osW (osFinM (fun r : Nat => some (.ref r)) 69 80408) yL_units cL_units 7 (some (.object "java/lang/String")) [] { frames := 6, cells := 69, slots := 80408, locals := 171 } (k14) (n14) 66 [(0, .ref l0), (1, .int l1), (2, .int l2), (3, .ref l3), (4, .int l4), (5, .int l5)] [.int k0] (qL_units_66 N c14 l0 l1 l2 l3 l4 l5 k0) := by
  unfold qL_units_66
  refine os_istore (i := 6) (lv' := [(6, .int k0), (0, .ref l0), (1, .int l1), (2, .int l2), (3, .ref l3), (4, .int l4), (5, .int l5)]) (Nat.le_of_ble_eq_true rfl) rfl (hL_units.at 34 rfl rfl) ?_
  refine os_aload_n (i := 3) (q := 3) (v := l3) 4 rfl rfl (hL_units.at 35 rfl rfl) ?_
  refine os_iload (v := k0) 0 rfl (hL_units.at 36 rfl rfl) ?_
  refine os_if_eq (off := 8) (tgt := 79) rfl (hL_units.at 37 rfl rfl) ?_ ?_
  · refine os_text (j := 9) (q := ("OrderSettlerLaw", 79, "army ")) rfl rfl (hL_units.at 40 rfl rfl) (fun x1 => ?_)
    exact osW.widen (k' := k14) (n' := n14) (by omega) (by omega) (osW.sub [1, 2, 3, 4, 5, 6] rfl (sL_units_81 N k14 n14 hx14 c14 g14 l0 l1 l2 l3 l4 l5 x1 l3))
  · refine os_text (j := 8) (q := ("OrderSettlerLaw", 77, "fleet ")) rfl rfl (hL_units.at 38 rfl rfl) (fun x2 => ?_)
    refine os_goto (off := 5) (tgt := 81) rfl (hL_units.at 39 rfl rfl) ?_
    exact osW.widen (k' := k14) (n' := n14) (by omega) (by omega) (osW.sub [1, 2, 3, 4, 5, 6] rfl (sL_units_81 N k14 n14 hx14 c14 g14 l0 l1 l2 l3 l4 l5 x2 l3))
set_option maxRecDepth 100000 in
set_option maxHeartbeats 4000000 in
theorem sL_units_61 (N : Nat) (k14 n14 : Nat) (hx14 : k14 + 5 ≤ 67 ∧ n14 + 6000 ≤ 79204) (c14 : Nat × Int32 × Int32 × Nat × Int32 × Int32 → osM Nat) (g14 : ∀ (l0 : Nat) (l1 : Int32) (l2 : Int32) (l3 : Nat) (l4 : Int32) (l5 : Int32), osW (osFinM (fun r : Nat => some (.ref r)) 69 80408) yL_units cL_units 7 (some (.object "java/lang/String")) [] { frames := 6, cells := 69, slots := 80408, locals := 171 } (k14 + 5) (n14 + 6000) 14 [(0, .ref l0), (1, .int l1), (2, .int l2), (3, .ref l3), (4, .int l4), (5, .int l5)] [] (c14 (l0, l1, l2, l3, l4, l5))) (l0 : Nat) (l1 : Int32) (l2 : Int32) (l3 : Nat) (l4 : Int32) (l5 : Int32) : osW (osFinM (fun r : Nat => some (.ref r)) 69 80408) yL_units cL_units 7 (some (.object "java/lang/String")) [] { frames := 6, cells := 69, slots := 80408, locals := 171 } (k14) (n14) 61 [(0, .ref l0), (1, .int l1), (2, .int l2), (3, .ref l3), (4, .int l4), (5, .int l5)] [] (qL_units_61 N c14 l0 l1 l2 l3 l4 l5) := by
  unfold qL_units_61
  refine os_iconst (i := 1) (v := (1 : Int32)) rfl (hL_units.at 31 rfl rfl) ?_
  refine os_goto (off := 4) (tgt := 66) rfl (hL_units.at 32 rfl rfl) ?_
  exact osW.widen (k' := k14) (n' := n14) (by omega) (by omega) (osW.sub [0, 1, 2, 3, 4, 5] rfl (sL_units_66 N k14 n14 hx14 c14 g14 l0 l1 l2 l3 l4 l5 (1 : Int32)))
set_option maxRecDepth 100000 in
set_option maxHeartbeats 4000000 in
theorem sL_units_65 (N : Nat) (k14 n14 : Nat) (hx14 : k14 + 5 ≤ 67 ∧ n14 + 6000 ≤ 79204) (c14 : Nat × Int32 × Int32 × Nat × Int32 × Int32 → osM Nat) (g14 : ∀ (l0 : Nat) (l1 : Int32) (l2 : Int32) (l3 : Nat) (l4 : Int32) (l5 : Int32), osW (osFinM (fun r : Nat => some (.ref r)) 69 80408) yL_units cL_units 7 (some (.object "java/lang/String")) [] { frames := 6, cells := 69, slots := 80408, locals := 171 } (k14 + 5) (n14 + 6000) 14 [(0, .ref l0), (1, .int l1), (2, .int l2), (3, .ref l3), (4, .int l4), (5, .int l5)] [] (c14 (l0, l1, l2, l3, l4, l5))) (l0 : Nat) (l1 : Int32) (l2 : Int32) (l3 : Nat) (l4 : Int32) (l5 : Int32) : osW (osFinM (fun r : Nat => some (.ref r)) 69 80408) yL_units cL_units 7 (some (.object "java/lang/String")) [] { frames := 6, cells := 69, slots := 80408, locals := 171 } (k14) (n14) 65 [(0, .ref l0), (1, .int l1), (2, .int l2), (3, .ref l3), (4, .int l4), (5, .int l5)] [] (qL_units_65 N c14 l0 l1 l2 l3 l4 l5) := by
  unfold qL_units_65
  refine os_iconst (i := 0) (v := (0 : Int32)) rfl (hL_units.at 33 rfl rfl) ?_
  exact osW.widen (k' := k14) (n' := n14) (by omega) (by omega) (osW.sub [0, 1, 2, 3, 4, 5] rfl (sL_units_66 N k14 n14 hx14 c14 g14 l0 l1 l2 l3 l4 l5 (0 : Int32)))
set_option maxRecDepth 100000 in
set_option maxHeartbeats 4000000 in
theorem tL_units_14 (N : Nat) (k14 n14 : Nat) (hx14 : k14 + 5 ≤ 67 ∧ n14 + 6000 ≤ 79204) (c14 : Nat × Int32 × Int32 × Nat × Int32 × Int32 → osM Nat) (g14 : ∀ (l0 : Nat) (l1 : Int32) (l2 : Int32) (l3 : Nat) (l4 : Int32) (l5 : Int32), osW (osFinM (fun r : Nat => some (.ref r)) 69 80408) yL_units cL_units 7 (some (.object "java/lang/String")) [] { frames := 6, cells := 69, slots := 80408, locals := 171 } (k14 + 5) (n14 + 6000) 14 [(0, .ref l0), (1, .int l1), (2, .int l2), (3, .ref l3), (4, .int l4), (5, .int l5)] [] (c14 (l0, l1, l2, l3, l4, l5))) (l0 : Nat) (l1 : Int32) (l2 : Int32) (l3 : Nat) (l4 : Int32) (l5 : Int32) : osW (osFinM (fun r : Nat => some (.ref r)) 69 80408) yL_units cL_units 7 (some (.object "java/lang/String")) [] { frames := 6, cells := 69, slots := 80408, locals := 171 } (k14) (n14) 14 [(0, .ref l0), (1, .int l1), (2, .int l2), (3, .ref l3), (4, .int l4), (5, .int l5)] [] (bL_units_14 N c14 l0 l1 l2 l3 l4 l5) := by
  unfold bL_units_14
  refine os_iload (v := l5) 5 rfl (hL_units.at 8 rfl rfl) ?_
  refine os_iload_n (i := 1) (q := 1) (v := l1) 1 rfl rfl (hL_units.at 9 rfl rfl) ?_
  refine os_icmp_ge (off := 109) (tgt := 126) rfl (hL_units.at 10 rfl rfl) ?_ ?_
  · exact osW.widen (k' := 67) (n' := 79204) (by omega) (by omega) (osW.sub [3] rfl (sL_units_126 N l3))
  · refine os_iload (v := l4) 4 rfl (hL_units.at 11 rfl rfl) ?_
    refine os_bipush (i := 9) (v := (9 : Int32)) rfl (hL_units.at 12 rfl rfl) ?_
    refine os_icmp_ge (off := 102) (tgt := 126) rfl (hL_units.at 13 rfl rfl) ?_ ?_
    · exact osW.widen (k' := 67) (n' := 79204) (by omega) (by omega) (osW.sub [3] rfl (sL_units_126 N l3))
    · refine os_aload_n (i := 0) (q := 0) (v := l0) 0 rfl rfl (hL_units.at 14 rfl rfl) ?_
      refine os_callS (As := [.ref l0]) (st := []) (st' := (fun r => .int r :: [])) mdL_next wd484 wd485 (sL_next N l0) rfl rfl (fun _ => rfl) (Nat.le_of_ble_eq_true rfl) (Nat.le_of_ble_eq_true rfl) (Nat.le_of_ble_eq_true rfl) rfl (by show _ ≤ 69; omega) rfl (by show _ ≤ 80408; omega) (hL_units.at 15 rfl rfl) (fun x1 => ?_)
      refine os_iconst (i := 4) (v := (4 : Int32)) rfl (hL_units.at 16 rfl rfl) ?_
      refine os_guard (fun h2 => ?_)
      refine os_irem h2 (hL_units.at 17 rfl rfl) ?_
      refine os_if_ne (off := 6) (tgt := 39) rfl (hL_units.at 18 rfl rfl) ?_ ?_
      · refine os_iload (v := l5) 5 rfl (hL_units.at 20 rfl rfl) ?_
        refine os_iconst (i := 3) (v := (3 : Int32)) rfl (hL_units.at 21 rfl rfl) ?_
        refine os_icmp_lt (off := 19) (tgt := 61) rfl (hL_units.at 22 rfl rfl) ?_ ?_
        · exact osW.widen (k' := k14) (n' := n14) (by omega) (by omega) (osW.sub [0, 1, 2, 3, 4, 5] rfl (sL_units_61 N k14 n14 hx14 c14 g14 l0 l1 l2 l3 l4 l5))
        · refine os_iload (v := l5) 5 rfl (hL_units.at 23 rfl rfl) ?_
          refine os_bipush (i := 6) (v := (6 : Int32)) rfl (hL_units.at 24 rfl rfl) ?_
          refine os_icmp_ge (off := 16) (tgt := 65) rfl (hL_units.at 25 rfl rfl) ?_ ?_
          · exact osW.widen (k' := k14) (n' := n14) (by omega) (by omega) (osW.sub [0, 1, 2, 3, 4, 5] rfl (sL_units_65 N k14 n14 hx14 c14 g14 l0 l1 l2 l3 l4 l5))
          · refine os_aload_n (i := 0) (q := 0) (v := l0) 0 rfl rfl (hL_units.at 26 rfl rfl) ?_
            refine os_callS (As := [.ref l0]) (st := []) (st' := (fun r => .int r :: [])) mdL_next wd484 wd485 (sL_next N l0) rfl rfl (fun _ => rfl) (Nat.le_of_ble_eq_true rfl) (Nat.le_of_ble_eq_true rfl) (Nat.le_of_ble_eq_true rfl) rfl (by show _ ≤ 69; omega) rfl (by show _ ≤ 80408; omega) (hL_units.at 27 rfl rfl) (fun x3 => ?_)
            refine os_iconst (i := 4) (v := (4 : Int32)) rfl (hL_units.at 28 rfl rfl) ?_
            refine os_guard (fun h4 => ?_)
            refine os_irem h4 (hL_units.at 29 rfl rfl) ?_
            refine os_if_ne (off := 7) (tgt := 65) rfl (hL_units.at 30 rfl rfl) ?_ ?_
            · exact osW.widen (k' := k14) (n' := n14) (by omega) (by omega) (osW.sub [0, 1, 2, 3, 4, 5] rfl (sL_units_65 N k14 n14 hx14 c14 g14 l0 l1 l2 l3 l4 l5))
            · exact osW.widen (k' := k14) (n' := n14) (by omega) (by omega) (osW.sub [0, 1, 2, 3, 4, 5] rfl (sL_units_61 N k14 n14 hx14 c14 g14 l0 l1 l2 l3 l4 l5))
      · refine os_goto (off := 84) (tgt := 120) rfl (hL_units.at 19 rfl rfl) ?_
        exact osW.widen (k' := k14 + 5) (n' := n14 + 6000) (by omega) (by omega) (osW.sub [0, 1, 2, 3, 4, 5] rfl (sL_units_120 N k14 n14 hx14 c14 g14 l0 l1 l2 l3 l4 l5))
set_option maxRecDepth 100000 in
set_option maxHeartbeats 4000000 in
theorem sL_units_14 (N : Nat) (l0 : Nat) (l1 : Int32) (l2 : Int32) (l3 : Nat) (l4 : Int32) (l5 : Int32) : osW (osFinM (fun r : Nat => some (.ref r)) 69 80408) yL_units cL_units 7 (some (.object "java/lang/String")) [] { frames := 6, cells := 69, slots := 80408, locals := 171 } (2) (1204) 14 [(0, .ref l0), (1, .int l1), (2, .int l2), (3, .ref l3), (4, .int l4), (5, .int l5)] [] (qL_units_14 N (l0, l1, l2, l3, l4, l5)) := by
  refine osW.widen (k' := (2) + 5 * (13 - 13)) (n' := (1204) + 6000 * (13 - 13)) (by omega) (by omega) ?_
  exact osloop_K (lvf := fun p => [(0, .ref p.1), (1, .int p.2.1), (2, .int p.2.2.1), (3, .ref p.2.2.2.1), (4, .int p.2.2.2.2.1), (5, .int p.2.2.2.2.2)]) (stf := fun p => []) 13 5 6000 (2) (1204) (fun f hf ih g p => tL_units_14 N ((2) + 5 * (13 - (f + 1))) ((1204) + 6000 * (13 - (f + 1))) (by omega) ih (fun l0 l1 l2 l3 l4 l5 => osW.widen (by omega) (by omega) (g (l0, l1, l2, l3, l4, l5))) p.1 p.2.1 p.2.2.1 p.2.2.2.1 p.2.2.2.2.1 p.2.2.2.2.2) 13 (Nat.le_refl _) (l0, l1, l2, l3, l4, l5)
set_option maxRecDepth 100000 in
set_option maxHeartbeats 4000000 in
theorem sL_units (N : Nat) (l0 : Nat) (l1 : Int32) (l2 : Int32) : osMet yL_units cL_units 7 (some (.object "java/lang/String")) 6 171 69 80408 (fun r : Nat => some (.ref r)) [.ref l0, .int l1, .int l2] (qL_units N l0 l1 l2) := by
  refine osMet.of plL (Nat.le_of_ble_eq_true rfl) (osW.rw (lv2 := [(0, .ref l0), (1, .int l1), (2, .int l2)]) ?_ rfl rfl rfl)
  unfold qL_units
  refine os_new (C := RJ4) (T := TJ4) (N := 4) (ci := 9) (ty0 := tyJ4) rfl tyJ4_ok osinJ4 wd834 wd835 wd64 dfJ4 (by show _ ≤ 69; omega) (by show _ ≤ 80408; omega) (hL_units.at 0 rfl rfl) (fun x1 => ?_)
  refine os_dup rfl (hL_units.at 1 rfl rfl) ?_
  refine os_callI (b := x1) (As := []) (st := [.ref x1]) (st' := (fun _ => [.ref x1])) mdJ4_init_da8c8 rfl wd836 wd837 (sBJ4_init_da8c8 N x1 ) rfl rfl (fun _ => rfl) (Nat.le_of_ble_eq_true rfl) (Nat.le_of_ble_eq_true rfl) (Nat.le_of_ble_eq_true rfl) rfl (by show _ ≤ 69; omega) rfl (by show _ ≤ 80408; omega) (hL_units.at 2 rfl rfl) (fun _ => ?_)
  refine os_astore_n (i := 3) (q := 3) rfl (lv' := [(3, .ref x1), (0, .ref l0), (1, .int l1), (2, .int l2)]) (Nat.le_of_ble_eq_true rfl) rfl (hL_units.at 3 rfl rfl) ?_
  refine os_iconst (i := 0) (v := (0 : Int32)) rfl (hL_units.at 4 rfl rfl) ?_
  refine os_istore (i := 4) (lv' := [(4, .int (0 : Int32)), (3, .ref x1), (0, .ref l0), (1, .int l1), (2, .int l2)]) (Nat.le_of_ble_eq_true rfl) rfl (hL_units.at 5 rfl rfl) ?_
  refine os_iconst (i := 0) (v := (0 : Int32)) rfl (hL_units.at 6 rfl rfl) ?_
  refine os_istore (i := 5) (lv' := [(5, .int (0 : Int32)), (4, .int (0 : Int32)), (3, .ref x1), (0, .ref l0), (1, .int l1), (2, .int l2)]) (Nat.le_of_ble_eq_true rfl) rfl (hL_units.at 7 rfl rfl) ?_
  exact osW.widen (k' := 2) (n' := 1204) (by omega) (by omega) (osW.sub [3, 4, 5, 2, 1, 0] rfl (sL_units_14 N l0 l1 l2 x1 (0 : Int32) (0 : Int32)))
-- L_order
def qL_order (N : Nat) (l0 : Nat) (l1 : Int32) (l2 : Int32) : osM Nat := osbind (qL_next N l0) fun x1 => osguard (¬ l2 = 0) (osbind (osret (((((97 : Int32) + (x1 - x1 / l2 * l2)).toUInt32 % 65536).toInt32) : Int32)) fun x3 => osbind (qL_next N l0) fun x4 => osguard (¬ l2 = 0) (osbind (osret (((((97 : Int32) + (x4 - x4 / l2 * l2)).toUInt32 % 65536).toInt32) : Int32)) fun x6 => osbind (qL_next N l0) fun x7 => osguard (¬ (6 : Int32) = 0) (osswitch (x7 - x7 / (6 : Int32) * (6 : Int32)) 0 [osbind (osnew (.inr (9, [.null, .int 0, .int 0, .int 0]))) fun x9 => osbind (qJ4_init_da8c8 N x9) fun _ => osbind (osrecv [9] x9 (qJ4_append_cf468 N x9 ((((97 : Int32) + l1).toUInt32 % 65536).toInt32))) fun x10 => osbind (ostext 10) fun x11 => osbind (osrecv [9] x10 (qJ4_append_15ec4 N x10 x11)) fun x12 => osbind (osrecv [9] x12 (qJ4_append_cf468 N x12 x3)) fun x13 => osbind (ostext 4) fun x14 => osbind (osrecv [9] x13 (qJ4_append_15ec4 N x13 x14)) fun x15 => osbind (osrecv [9] x15 (qJ4_toString_0e30d N x15)) fun x16 => osret x16, osbind (osnew (.inr (9, [.null, .int 0, .int 0, .int 0]))) fun x17 => osbind (qJ4_init_da8c8 N x17) fun _ => osbind (osrecv [9] x17 (qJ4_append_cf468 N x17 ((((97 : Int32) + l1).toUInt32 % 65536).toInt32))) fun x18 => osbind (ostext 10) fun x19 => osbind (osrecv [9] x18 (qJ4_append_15ec4 N x18 x19)) fun x20 => osbind (osrecv [9] x20 (qJ4_append_cf468 N x20 x3)) fun x21 => osbind (ostext 11) fun x22 => osbind (osrecv [9] x21 (qJ4_append_15ec4 N x21 x22)) fun x23 => osbind (osrecv [9] x23 (qJ4_append_cf468 N x23 x6)) fun x24 => osbind (ostext 4) fun x25 => osbind (osrecv [9] x24 (qJ4_append_15ec4 N x24 x25)) fun x26 => osbind (osrecv [9] x26 (qJ4_toString_0e30d N x26)) fun x27 => osret x27, osbind (osnew (.inr (9, [.null, .int 0, .int 0, .int 0]))) fun x28 => osbind (qJ4_init_da8c8 N x28) fun _ => osbind (osrecv [9] x28 (qJ4_append_cf468 N x28 ((((97 : Int32) + l1).toUInt32 % 65536).toInt32))) fun x29 => osbind (ostext 12) fun x30 => osbind (osrecv [9] x29 (qJ4_append_15ec4 N x29 x30)) fun x31 => osbind (osrecv [9] x31 (qJ4_append_cf468 N x31 x3)) fun x32 => osbind (ostext 11) fun x33 => osbind (osrecv [9] x32 (qJ4_append_15ec4 N x32 x33)) fun x34 => osbind (osrecv [9] x34 (qJ4_append_cf468 N x34 x6)) fun x35 => osbind (ostext 4) fun x36 => osbind (osrecv [9] x35 (qJ4_append_15ec4 N x35 x36)) fun x37 => osbind (osrecv [9] x37 (qJ4_toString_0e30d N x37)) fun x38 => osret x38, osbind (osnew (.inr (9, [.null, .int 0, .int 0, .int 0]))) fun x39 => osbind (qJ4_init_da8c8 N x39) fun _ => osbind (osrecv [9] x39 (qJ4_append_cf468 N x39 ((((97 : Int32) + l1).toUInt32 % 65536).toInt32))) fun x40 => osbind (ostext 13) fun x41 => osbind (osrecv [9] x40 (qJ4_append_15ec4 N x40 x41)) fun x42 => osbind (osrecv [9] x42 (qJ4_toString_0e30d N x42)) fun x43 => osret x43] (osbind (osnew (.inr (9, [.null, .int 0, .int 0, .int 0]))) fun x44 => osbind (qJ4_init_da8c8 N x44) fun _ => osbind (osrecv [9] x44 (qJ4_append_cf468 N x44 ((((97 : Int32) + l1).toUInt32 % 65536).toInt32))) fun x45 => osbind (ostext 11) fun x46 => osbind (osrecv [9] x45 (qJ4_append_15ec4 N x45 x46)) fun x47 => osbind (osrecv [9] x47 (qJ4_append_cf468 N x47 x6)) fun x48 => osbind (ostext 4) fun x49 => osbind (osrecv [9] x48 (qJ4_append_15ec4 N x48 x49)) fun x50 => osbind (osrecv [9] x50 (qJ4_toString_0e30d N x50)) fun x51 => osret x51))))
set_option maxRecDepth 100000 in
set_option maxHeartbeats 4000000 in
theorem sL_order (N : Nat) (l0 : Nat) (l1 : Int32) (l2 : Int32) : osMet yL_order cL_order 5 (some (.object "java/lang/String")) 6 171 10 520 (fun r : Nat => some (.ref r)) [.ref l0, .int l1, .int l2] (qL_order N l0 l1 l2) := by
  refine osMet.of plL (Nat.le_of_ble_eq_true rfl) (osW.rw (lv2 := [(0, .ref l0), (1, .int l1), (2, .int l2)]) ?_ rfl rfl rfl)
  unfold qL_order
  refine os_bipush (i := 97) (v := (97 : Int32)) rfl (hL_order_0.at 0 rfl rfl) ?_
  refine os_aload_n (i := 0) (q := 0) (v := l0) 0 rfl rfl (hL_order_0.at 1 rfl rfl) ?_
  refine os_callS (As := [.ref l0]) (st := [.int (97 : Int32)]) (st' := (fun r => .int r :: [.int (97 : Int32)])) mdL_next wd484 wd485 (sL_next N l0) rfl rfl (fun _ => rfl) (Nat.le_of_ble_eq_true rfl) (Nat.le_of_ble_eq_true rfl) (Nat.le_of_ble_eq_true rfl) rfl (by show _ ≤ 10; omega) rfl (by show _ ≤ 520; omega) (hL_order_0.at 2 rfl rfl) (fun x1 => ?_)
  refine os_iload_n (i := 2) (q := 2) (v := l2) 2 rfl rfl (hL_order_0.at 3 rfl rfl) ?_
  refine os_guard (fun h2 => ?_)
  refine os_irem h2 (hL_order_0.at 4 rfl rfl) ?_
  refine os_iadd (hL_order_0.at 5 rfl rfl) ?_
  refine os_i2c (hL_order_0.at 6 rfl rfl) ?_
  refine os_nameI (fun x3 => ?_)
  refine os_istore_n (i := 3) (q := 3) rfl (lv' := [(3, .int x3), (0, .ref l0), (1, .int l1), (2, .int l2)]) (Nat.le_of_ble_eq_true rfl) rfl (hL_order_0.at 7 rfl rfl) ?_
  refine os_bipush (i := 97) (v := (97 : Int32)) rfl (hL_order_0.at 8 rfl rfl) ?_
  refine os_aload_n (i := 0) (q := 0) (v := l0) 1 rfl rfl (hL_order_0.at 9 rfl rfl) ?_
  refine os_callS (As := [.ref l0]) (st := [.int (97 : Int32)]) (st' := (fun r => .int r :: [.int (97 : Int32)])) mdL_next wd484 wd485 (sL_next N l0) rfl rfl (fun _ => rfl) (Nat.le_of_ble_eq_true rfl) (Nat.le_of_ble_eq_true rfl) (Nat.le_of_ble_eq_true rfl) rfl (by show _ ≤ 10; omega) rfl (by show _ ≤ 520; omega) (hL_order_0.at 10 rfl rfl) (fun x4 => ?_)
  refine os_iload_n (i := 2) (q := 2) (v := l2) 3 rfl rfl (hL_order_0.at 11 rfl rfl) ?_
  refine os_guard (fun h5 => ?_)
  refine os_irem h5 (hL_order_0.at 12 rfl rfl) ?_
  refine os_iadd (hL_order_0.at 13 rfl rfl) ?_
  refine os_i2c (hL_order_0.at 14 rfl rfl) ?_
  refine os_nameI (fun x6 => ?_)
  refine os_istore (i := 4) (lv' := [(4, .int x6), (3, .int x3), (0, .ref l0), (1, .int l1), (2, .int l2)]) (Nat.le_of_ble_eq_true rfl) rfl (hL_order_0.at 15 rfl rfl) ?_
  refine os_aload_n (i := 0) (q := 0) (v := l0) 2 rfl rfl (hL_order_0.at 16 rfl rfl) ?_
  refine os_callS (As := [.ref l0]) (st := []) (st' := (fun r => .int r :: [])) mdL_next wd484 wd485 (sL_next N l0) rfl rfl (fun _ => rfl) (Nat.le_of_ble_eq_true rfl) (Nat.le_of_ble_eq_true rfl) (Nat.le_of_ble_eq_true rfl) rfl (by show _ ≤ 10; omega) rfl (by show _ ≤ 520; omega) (hL_order_0.at 17 rfl rfl) (fun x7 => ?_)
  refine os_bipush (i := 6) (v := (6 : Int32)) rfl (hL_order_0.at 18 rfl rfl) ?_
  refine os_guard (fun h8 => ?_)
  refine os_irem h8 (hL_order_0.at 19 rfl rfl) ?_
  refine os_tableswitch (dflt := 173) (lo := 0) (hi := 3) (offs := #[30, 63, 106, 149]) (tgt := 203) rfl rfl (hL_order_0.at 20 rfl rfl) ?_ ?_
  · refine ⟨⟨60, rfl, ?_⟩, ⟨93, rfl, ?_⟩, ⟨136, rfl, ?_⟩, ⟨179, rfl, ?_⟩, trivial⟩
    · refine os_new (C := RJ4) (T := TJ4) (N := 4) (ci := 9) (ty0 := tyJ4) rfl tyJ4_ok osinJ4 wd834 wd835 wd64 dfJ4 (by show _ ≤ 10; omega) (by show _ ≤ 520; omega) (hL_order_0.at 21 rfl rfl) (fun x9 => ?_)
      refine os_dup rfl (hL_order_0.at 22 rfl rfl) ?_
      refine os_callI (b := x9) (As := []) (st := [.ref x9]) (st' := (fun _ => [.ref x9])) mdJ4_init_da8c8 rfl wd836 wd837 (sJ4_init_da8c8 N x9 ) rfl rfl (fun _ => rfl) (Nat.le_of_ble_eq_true rfl) (Nat.le_of_ble_eq_true rfl) (Nat.le_of_ble_eq_true rfl) rfl (by show _ ≤ 10; omega) rfl (by show _ ≤ 520; omega) (hL_order_0.at 23 rfl rfl) (fun _ => ?_)
      refine os_bipush (i := 97) (v := (97 : Int32)) rfl (hL_order_0.at 24 rfl rfl) ?_
      refine os_iload_n (i := 1) (q := 1) (v := l1) 3 rfl rfl (hL_order_0.at 25 rfl rfl) ?_
      refine os_iadd (hL_order_0.at 26 rfl rfl) ?_
      refine os_i2c (hL_order_0.at 27 rfl rfl) ?_
      refine os_callV (cis := [9]) (b := x9) (As := [.int ((((97 : Int32) + l1).toUInt32 % 65536).toInt32)]) (st := []) (st' := (fun r => .ref r :: [])) sl9_J4_append_cf468_J4_append_cf468 mdJ4_append_cf468 wd966 wd967 (sJ4_append_cf468 N x9 ((((97 : Int32) + l1).toUInt32 % 65536).toInt32)) rfl rfl (fun _ => rfl) (Nat.le_of_ble_eq_true rfl) (Nat.le_of_ble_eq_true rfl) (Nat.le_of_ble_eq_true rfl) rfl (by show _ ≤ 10; omega) rfl (by show _ ≤ 520; omega) (hL_order_0.at 28 rfl rfl) (fun x10 => ?_)
      refine os_text (j := 10) (q := ("OrderSettlerLaw", 81, " support ")) rfl rfl (hL_order_0.at 29 rfl rfl) (fun x11 => ?_)
      refine os_callV (cis := [9]) (b := x10) (As := [.ref x11]) (st := []) (st' := (fun r => .ref r :: [])) sl9_J4_append_15ec4_J4_append_15ec4 mdJ4_append_15ec4 wd867 wd868 (sJ4_append_15ec4 N x10 x11) rfl rfl (fun _ => rfl) (Nat.le_of_ble_eq_true rfl) (Nat.le_of_ble_eq_true rfl) (Nat.le_of_ble_eq_true rfl) rfl (by show _ ≤ 10; omega) rfl (by show _ ≤ 520; omega) (hL_order_0.at 30 rfl rfl) (fun x12 => ?_)
      refine os_iload_n (i := 3) (q := 3) (v := x3) 1 rfl rfl (hL_order_0.at 31 rfl rfl) ?_
      refine os_callV (cis := [9]) (b := x12) (As := [.int x3]) (st := []) (st' := (fun r => .ref r :: [])) sl9_J4_append_cf468_J4_append_cf468 mdJ4_append_cf468 wd966 wd967 (sJ4_append_cf468 N x12 x3) rfl rfl (fun _ => rfl) (Nat.le_of_ble_eq_true rfl) (Nat.le_of_ble_eq_true rfl) (Nat.le_of_ble_eq_true rfl) rfl (by show _ ≤ 10; omega) rfl (by show _ ≤ 520; omega) (hL_order_0.at 32 rfl rfl) (fun x13 => ?_)
      refine os_text (j := 4) (q := ("OrderSettlerLaw", 61, ";")) rfl rfl (hL_order_0.at 33 rfl rfl) (fun x14 => ?_)
      refine os_callV (cis := [9]) (b := x13) (As := [.ref x14]) (st := []) (st' := (fun r => .ref r :: [])) sl9_J4_append_15ec4_J4_append_15ec4 mdJ4_append_15ec4 wd867 wd868 (sJ4_append_15ec4 N x13 x14) rfl rfl (fun _ => rfl) (Nat.le_of_ble_eq_true rfl) (Nat.le_of_ble_eq_true rfl) (Nat.le_of_ble_eq_true rfl) rfl (by show _ ≤ 10; omega) rfl (by show _ ≤ 520; omega) (hL_order_0.at 34 rfl rfl) (fun x15 => ?_)
      refine os_callV (cis := [9]) (b := x15) (As := []) (st := []) (st' := (fun r => .ref r :: [])) sl9_J4_toString_0e30d_J4_toString_0e30d mdJ4_toString_0e30d wd986 wd987 (sJ4_toString_0e30d N x15 ) rfl rfl (fun _ => rfl) (Nat.le_of_ble_eq_true rfl) (Nat.le_of_ble_eq_true rfl) (Nat.le_of_ble_eq_true rfl) rfl (by show _ ≤ 10; omega) rfl (by show _ ≤ 520; omega) (hL_order_0.at 35 rfl rfl) (fun x16 => ?_)
      exact os_aret (Or.inl ⟨_, rfl⟩) (by omega) (by omega) (hL_order_0.at 36 rfl rfl).1
    · refine os_new (C := RJ4) (T := TJ4) (N := 4) (ci := 9) (ty0 := tyJ4) rfl tyJ4_ok osinJ4 wd834 wd835 wd64 dfJ4 (by show _ ≤ 10; omega) (by show _ ≤ 520; omega) (hL_order_0.at 37 rfl rfl) (fun x17 => ?_)
      refine os_dup rfl (hL_order_0.at 38 rfl rfl) ?_
      refine os_callI (b := x17) (As := []) (st := [.ref x17]) (st' := (fun _ => [.ref x17])) mdJ4_init_da8c8 rfl wd836 wd837 (sJ4_init_da8c8 N x17 ) rfl rfl (fun _ => rfl) (Nat.le_of_ble_eq_true rfl) (Nat.le_of_ble_eq_true rfl) (Nat.le_of_ble_eq_true rfl) rfl (by show _ ≤ 10; omega) rfl (by show _ ≤ 520; omega) (hL_order_0.at 39 rfl rfl) (fun _ => ?_)
      refine os_bipush (i := 97) (v := (97 : Int32)) rfl (hL_order_0.at 40 rfl rfl) ?_
      refine os_iload_n (i := 1) (q := 1) (v := l1) 3 rfl rfl (hL_order_0.at 41 rfl rfl) ?_
      refine os_iadd (hL_order_0.at 42 rfl rfl) ?_
      refine os_i2c (hL_order_0.at 43 rfl rfl) ?_
      refine os_callV (cis := [9]) (b := x17) (As := [.int ((((97 : Int32) + l1).toUInt32 % 65536).toInt32)]) (st := []) (st' := (fun r => .ref r :: [])) sl9_J4_append_cf468_J4_append_cf468 mdJ4_append_cf468 wd966 wd967 (sJ4_append_cf468 N x17 ((((97 : Int32) + l1).toUInt32 % 65536).toInt32)) rfl rfl (fun _ => rfl) (Nat.le_of_ble_eq_true rfl) (Nat.le_of_ble_eq_true rfl) (Nat.le_of_ble_eq_true rfl) rfl (by show _ ≤ 10; omega) rfl (by show _ ≤ 520; omega) (hL_order_0.at 44 rfl rfl) (fun x18 => ?_)
      refine os_text (j := 10) (q := ("OrderSettlerLaw", 81, " support ")) rfl rfl (hL_order_0.at 45 rfl rfl) (fun x19 => ?_)
      refine os_callV (cis := [9]) (b := x18) (As := [.ref x19]) (st := []) (st' := (fun r => .ref r :: [])) sl9_J4_append_15ec4_J4_append_15ec4 mdJ4_append_15ec4 wd867 wd868 (sJ4_append_15ec4 N x18 x19) rfl rfl (fun _ => rfl) (Nat.le_of_ble_eq_true rfl) (Nat.le_of_ble_eq_true rfl) (Nat.le_of_ble_eq_true rfl) rfl (by show _ ≤ 10; omega) rfl (by show _ ≤ 520; omega) (hL_order_0.at 46 rfl rfl) (fun x20 => ?_)
      refine os_iload_n (i := 3) (q := 3) (v := x3) 1 rfl rfl (hL_order_0.at 47 rfl rfl) ?_
      refine os_callV (cis := [9]) (b := x20) (As := [.int x3]) (st := []) (st' := (fun r => .ref r :: [])) sl9_J4_append_cf468_J4_append_cf468 mdJ4_append_cf468 wd966 wd967 (sJ4_append_cf468 N x20 x3) rfl rfl (fun _ => rfl) (Nat.le_of_ble_eq_true rfl) (Nat.le_of_ble_eq_true rfl) (Nat.le_of_ble_eq_true rfl) rfl (by show _ ≤ 10; omega) rfl (by show _ ≤ 520; omega) (hL_order_0.at 48 rfl rfl) (fun x21 => ?_)
      refine os_text (j := 11) (q := ("OrderSettlerLaw", 83, " to ")) rfl rfl (hL_order_0.at 49 rfl rfl) (fun x22 => ?_)
      refine os_callV (cis := [9]) (b := x21) (As := [.ref x22]) (st := []) (st' := (fun r => .ref r :: [])) sl9_J4_append_15ec4_J4_append_15ec4 mdJ4_append_15ec4 wd867 wd868 (sJ4_append_15ec4 N x21 x22) rfl rfl (fun _ => rfl) (Nat.le_of_ble_eq_true rfl) (Nat.le_of_ble_eq_true rfl) (Nat.le_of_ble_eq_true rfl) rfl (by show _ ≤ 10; omega) rfl (by show _ ≤ 520; omega) (hL_order_1.at 0 rfl rfl) (fun x23 => ?_)
      refine os_iload (v := x6) 0 rfl (hL_order_1.at 1 rfl rfl) ?_
      refine os_callV (cis := [9]) (b := x23) (As := [.int x6]) (st := []) (st' := (fun r => .ref r :: [])) sl9_J4_append_cf468_J4_append_cf468 mdJ4_append_cf468 wd966 wd967 (sJ4_append_cf468 N x23 x6) rfl rfl (fun _ => rfl) (Nat.le_of_ble_eq_true rfl) (Nat.le_of_ble_eq_true rfl) (Nat.le_of_ble_eq_true rfl) rfl (by show _ ≤ 10; omega) rfl (by show _ ≤ 520; omega) (hL_order_1.at 2 rfl rfl) (fun x24 => ?_)
      refine os_text (j := 4) (q := ("OrderSettlerLaw", 61, ";")) rfl rfl (hL_order_1.at 3 rfl rfl) (fun x25 => ?_)
      refine os_callV (cis := [9]) (b := x24) (As := [.ref x25]) (st := []) (st' := (fun r => .ref r :: [])) sl9_J4_append_15ec4_J4_append_15ec4 mdJ4_append_15ec4 wd867 wd868 (sJ4_append_15ec4 N x24 x25) rfl rfl (fun _ => rfl) (Nat.le_of_ble_eq_true rfl) (Nat.le_of_ble_eq_true rfl) (Nat.le_of_ble_eq_true rfl) rfl (by show _ ≤ 10; omega) rfl (by show _ ≤ 520; omega) (hL_order_1.at 4 rfl rfl) (fun x26 => ?_)
      refine os_callV (cis := [9]) (b := x26) (As := []) (st := []) (st' := (fun r => .ref r :: [])) sl9_J4_toString_0e30d_J4_toString_0e30d mdJ4_toString_0e30d wd986 wd987 (sJ4_toString_0e30d N x26 ) rfl rfl (fun _ => rfl) (Nat.le_of_ble_eq_true rfl) (Nat.le_of_ble_eq_true rfl) (Nat.le_of_ble_eq_true rfl) rfl (by show _ ≤ 10; omega) rfl (by show _ ≤ 520; omega) (hL_order_1.at 5 rfl rfl) (fun x27 => ?_)
      exact os_aret (Or.inl ⟨_, rfl⟩) (by omega) (by omega) (hL_order_1.at 6 rfl rfl).1
    · refine os_new (C := RJ4) (T := TJ4) (N := 4) (ci := 9) (ty0 := tyJ4) rfl tyJ4_ok osinJ4 wd834 wd835 wd64 dfJ4 (by show _ ≤ 10; omega) (by show _ ≤ 520; omega) (hL_order_1.at 7 rfl rfl) (fun x28 => ?_)
      refine os_dup rfl (hL_order_1.at 8 rfl rfl) ?_
      refine os_callI (b := x28) (As := []) (st := [.ref x28]) (st' := (fun _ => [.ref x28])) mdJ4_init_da8c8 rfl wd836 wd837 (sJ4_init_da8c8 N x28 ) rfl rfl (fun _ => rfl) (Nat.le_of_ble_eq_true rfl) (Nat.le_of_ble_eq_true rfl) (Nat.le_of_ble_eq_true rfl) rfl (by show _ ≤ 10; omega) rfl (by show _ ≤ 520; omega) (hL_order_1.at 9 rfl rfl) (fun _ => ?_)
      refine os_bipush (i := 97) (v := (97 : Int32)) rfl (hL_order_1.at 10 rfl rfl) ?_
      refine os_iload_n (i := 1) (q := 1) (v := l1) 3 rfl rfl (hL_order_1.at 11 rfl rfl) ?_
      refine os_iadd (hL_order_1.at 12 rfl rfl) ?_
      refine os_i2c (hL_order_1.at 13 rfl rfl) ?_
      refine os_callV (cis := [9]) (b := x28) (As := [.int ((((97 : Int32) + l1).toUInt32 % 65536).toInt32)]) (st := []) (st' := (fun r => .ref r :: [])) sl9_J4_append_cf468_J4_append_cf468 mdJ4_append_cf468 wd966 wd967 (sJ4_append_cf468 N x28 ((((97 : Int32) + l1).toUInt32 % 65536).toInt32)) rfl rfl (fun _ => rfl) (Nat.le_of_ble_eq_true rfl) (Nat.le_of_ble_eq_true rfl) (Nat.le_of_ble_eq_true rfl) rfl (by show _ ≤ 10; omega) rfl (by show _ ≤ 520; omega) (hL_order_1.at 14 rfl rfl) (fun x29 => ?_)
      refine os_text (j := 12) (q := ("OrderSettlerLaw", 85, " convoy ")) rfl rfl (hL_order_1.at 15 rfl rfl) (fun x30 => ?_)
      refine os_callV (cis := [9]) (b := x29) (As := [.ref x30]) (st := []) (st' := (fun r => .ref r :: [])) sl9_J4_append_15ec4_J4_append_15ec4 mdJ4_append_15ec4 wd867 wd868 (sJ4_append_15ec4 N x29 x30) rfl rfl (fun _ => rfl) (Nat.le_of_ble_eq_true rfl) (Nat.le_of_ble_eq_true rfl) (Nat.le_of_ble_eq_true rfl) rfl (by show _ ≤ 10; omega) rfl (by show _ ≤ 520; omega) (hL_order_1.at 16 rfl rfl) (fun x31 => ?_)
      refine os_iload_n (i := 3) (q := 3) (v := x3) 1 rfl rfl (hL_order_1.at 17 rfl rfl) ?_
      refine os_callV (cis := [9]) (b := x31) (As := [.int x3]) (st := []) (st' := (fun r => .ref r :: [])) sl9_J4_append_cf468_J4_append_cf468 mdJ4_append_cf468 wd966 wd967 (sJ4_append_cf468 N x31 x3) rfl rfl (fun _ => rfl) (Nat.le_of_ble_eq_true rfl) (Nat.le_of_ble_eq_true rfl) (Nat.le_of_ble_eq_true rfl) rfl (by show _ ≤ 10; omega) rfl (by show _ ≤ 520; omega) (hL_order_1.at 18 rfl rfl) (fun x32 => ?_)
      refine os_text (j := 11) (q := ("OrderSettlerLaw", 83, " to ")) rfl rfl (hL_order_1.at 19 rfl rfl) (fun x33 => ?_)
      refine os_callV (cis := [9]) (b := x32) (As := [.ref x33]) (st := []) (st' := (fun r => .ref r :: [])) sl9_J4_append_15ec4_J4_append_15ec4 mdJ4_append_15ec4 wd867 wd868 (sJ4_append_15ec4 N x32 x33) rfl rfl (fun _ => rfl) (Nat.le_of_ble_eq_true rfl) (Nat.le_of_ble_eq_true rfl) (Nat.le_of_ble_eq_true rfl) rfl (by show _ ≤ 10; omega) rfl (by show _ ≤ 520; omega) (hL_order_1.at 20 rfl rfl) (fun x34 => ?_)
      refine os_iload (v := x6) 0 rfl (hL_order_1.at 21 rfl rfl) ?_
      refine os_callV (cis := [9]) (b := x34) (As := [.int x6]) (st := []) (st' := (fun r => .ref r :: [])) sl9_J4_append_cf468_J4_append_cf468 mdJ4_append_cf468 wd966 wd967 (sJ4_append_cf468 N x34 x6) rfl rfl (fun _ => rfl) (Nat.le_of_ble_eq_true rfl) (Nat.le_of_ble_eq_true rfl) (Nat.le_of_ble_eq_true rfl) rfl (by show _ ≤ 10; omega) rfl (by show _ ≤ 520; omega) (hL_order_1.at 22 rfl rfl) (fun x35 => ?_)
      refine os_text (j := 4) (q := ("OrderSettlerLaw", 61, ";")) rfl rfl (hL_order_1.at 23 rfl rfl) (fun x36 => ?_)
      refine os_callV (cis := [9]) (b := x35) (As := [.ref x36]) (st := []) (st' := (fun r => .ref r :: [])) sl9_J4_append_15ec4_J4_append_15ec4 mdJ4_append_15ec4 wd867 wd868 (sJ4_append_15ec4 N x35 x36) rfl rfl (fun _ => rfl) (Nat.le_of_ble_eq_true rfl) (Nat.le_of_ble_eq_true rfl) (Nat.le_of_ble_eq_true rfl) rfl (by show _ ≤ 10; omega) rfl (by show _ ≤ 520; omega) (hL_order_1.at 24 rfl rfl) (fun x37 => ?_)
      refine os_callV (cis := [9]) (b := x37) (As := []) (st := []) (st' := (fun r => .ref r :: [])) sl9_J4_toString_0e30d_J4_toString_0e30d mdJ4_toString_0e30d wd986 wd987 (sJ4_toString_0e30d N x37 ) rfl rfl (fun _ => rfl) (Nat.le_of_ble_eq_true rfl) (Nat.le_of_ble_eq_true rfl) (Nat.le_of_ble_eq_true rfl) rfl (by show _ ≤ 10; omega) rfl (by show _ ≤ 520; omega) (hL_order_1.at 25 rfl rfl) (fun x38 => ?_)
      exact os_aret (Or.inl ⟨_, rfl⟩) (by omega) (by omega) (hL_order_1.at 26 rfl rfl).1
    · refine os_new (C := RJ4) (T := TJ4) (N := 4) (ci := 9) (ty0 := tyJ4) rfl tyJ4_ok osinJ4 wd834 wd835 wd64 dfJ4 (by show _ ≤ 10; omega) (by show _ ≤ 520; omega) (hL_order_1.at 27 rfl rfl) (fun x39 => ?_)
      refine os_dup rfl (hL_order_1.at 28 rfl rfl) ?_
      refine os_callI (b := x39) (As := []) (st := [.ref x39]) (st' := (fun _ => [.ref x39])) mdJ4_init_da8c8 rfl wd836 wd837 (sJ4_init_da8c8 N x39 ) rfl rfl (fun _ => rfl) (Nat.le_of_ble_eq_true rfl) (Nat.le_of_ble_eq_true rfl) (Nat.le_of_ble_eq_true rfl) rfl (by show _ ≤ 10; omega) rfl (by show _ ≤ 520; omega) (hL_order_1.at 29 rfl rfl) (fun _ => ?_)
      refine os_bipush (i := 97) (v := (97 : Int32)) rfl (hL_order_1.at 30 rfl rfl) ?_
      refine os_iload_n (i := 1) (q := 1) (v := l1) 3 rfl rfl (hL_order_1.at 31 rfl rfl) ?_
      refine os_iadd (hL_order_1.at 32 rfl rfl) ?_
      refine os_i2c (hL_order_1.at 33 rfl rfl) ?_
      refine os_callV (cis := [9]) (b := x39) (As := [.int ((((97 : Int32) + l1).toUInt32 % 65536).toInt32)]) (st := []) (st' := (fun r => .ref r :: [])) sl9_J4_append_cf468_J4_append_cf468 mdJ4_append_cf468 wd966 wd967 (sJ4_append_cf468 N x39 ((((97 : Int32) + l1).toUInt32 % 65536).toInt32)) rfl rfl (fun _ => rfl) (Nat.le_of_ble_eq_true rfl) (Nat.le_of_ble_eq_true rfl) (Nat.le_of_ble_eq_true rfl) rfl (by show _ ≤ 10; omega) rfl (by show _ ≤ 520; omega) (hL_order_1.at 34 rfl rfl) (fun x40 => ?_)
      refine os_text (j := 13) (q := ("OrderSettlerLaw", 87, " hold;")) rfl rfl (hL_order_1.at 35 rfl rfl) (fun x41 => ?_)
      refine os_callV (cis := [9]) (b := x40) (As := [.ref x41]) (st := []) (st' := (fun r => .ref r :: [])) sl9_J4_append_15ec4_J4_append_15ec4 mdJ4_append_15ec4 wd867 wd868 (sJ4_append_15ec4 N x40 x41) rfl rfl (fun _ => rfl) (Nat.le_of_ble_eq_true rfl) (Nat.le_of_ble_eq_true rfl) (Nat.le_of_ble_eq_true rfl) rfl (by show _ ≤ 10; omega) rfl (by show _ ≤ 520; omega) (hL_order_1.at 36 rfl rfl) (fun x42 => ?_)
      refine os_callV (cis := [9]) (b := x42) (As := []) (st := []) (st' := (fun r => .ref r :: [])) sl9_J4_toString_0e30d_J4_toString_0e30d mdJ4_toString_0e30d wd986 wd987 (sJ4_toString_0e30d N x42 ) rfl rfl (fun _ => rfl) (Nat.le_of_ble_eq_true rfl) (Nat.le_of_ble_eq_true rfl) (Nat.le_of_ble_eq_true rfl) rfl (by show _ ≤ 10; omega) rfl (by show _ ≤ 520; omega) (hL_order_1.at 37 rfl rfl) (fun x43 => ?_)
      exact os_aret (Or.inl ⟨_, rfl⟩) (by omega) (by omega) (hL_order_1.at 38 rfl rfl).1
  · refine os_new (C := RJ4) (T := TJ4) (N := 4) (ci := 9) (ty0 := tyJ4) rfl tyJ4_ok osinJ4 wd834 wd835 wd64 dfJ4 (by show _ ≤ 10; omega) (by show _ ≤ 520; omega) (hL_order_1.at 39 rfl rfl) (fun x44 => ?_)
    refine os_dup rfl (hL_order_1.at 40 rfl rfl) ?_
    refine os_callI (b := x44) (As := []) (st := [.ref x44]) (st' := (fun _ => [.ref x44])) mdJ4_init_da8c8 rfl wd836 wd837 (sJ4_init_da8c8 N x44 ) rfl rfl (fun _ => rfl) (Nat.le_of_ble_eq_true rfl) (Nat.le_of_ble_eq_true rfl) (Nat.le_of_ble_eq_true rfl) rfl (by show _ ≤ 10; omega) rfl (by show _ ≤ 520; omega) (hL_order_1.at 41 rfl rfl) (fun _ => ?_)
    refine os_bipush (i := 97) (v := (97 : Int32)) rfl (hL_order_1.at 42 rfl rfl) ?_
    refine os_iload_n (i := 1) (q := 1) (v := l1) 3 rfl rfl (hL_order_1.at 43 rfl rfl) ?_
    refine os_iadd (hL_order_1.at 44 rfl rfl) ?_
    refine os_i2c (hL_order_1.at 45 rfl rfl) ?_
    refine os_callV (cis := [9]) (b := x44) (As := [.int ((((97 : Int32) + l1).toUInt32 % 65536).toInt32)]) (st := []) (st' := (fun r => .ref r :: [])) sl9_J4_append_cf468_J4_append_cf468 mdJ4_append_cf468 wd966 wd967 (sJ4_append_cf468 N x44 ((((97 : Int32) + l1).toUInt32 % 65536).toInt32)) rfl rfl (fun _ => rfl) (Nat.le_of_ble_eq_true rfl) (Nat.le_of_ble_eq_true rfl) (Nat.le_of_ble_eq_true rfl) rfl (by show _ ≤ 10; omega) rfl (by show _ ≤ 520; omega) (hL_order_1.at 46 rfl rfl) (fun x45 => ?_)
    refine os_text (j := 11) (q := ("OrderSettlerLaw", 83, " to ")) rfl rfl (hL_order_1.at 47 rfl rfl) (fun x46 => ?_)
    refine os_callV (cis := [9]) (b := x45) (As := [.ref x46]) (st := []) (st' := (fun r => .ref r :: [])) sl9_J4_append_15ec4_J4_append_15ec4 mdJ4_append_15ec4 wd867 wd868 (sJ4_append_15ec4 N x45 x46) rfl rfl (fun _ => rfl) (Nat.le_of_ble_eq_true rfl) (Nat.le_of_ble_eq_true rfl) (Nat.le_of_ble_eq_true rfl) rfl (by show _ ≤ 10; omega) rfl (by show _ ≤ 520; omega) (hL_order_1.at 48 rfl rfl) (fun x47 => ?_)
    refine os_iload (v := x6) 0 rfl (hL_order_1.at 49 rfl rfl) ?_
    refine os_callV (cis := [9]) (b := x47) (As := [.int x6]) (st := []) (st' := (fun r => .ref r :: [])) sl9_J4_append_cf468_J4_append_cf468 mdJ4_append_cf468 wd966 wd967 (sJ4_append_cf468 N x47 x6) rfl rfl (fun _ => rfl) (Nat.le_of_ble_eq_true rfl) (Nat.le_of_ble_eq_true rfl) (Nat.le_of_ble_eq_true rfl) rfl (by show _ ≤ 10; omega) rfl (by show _ ≤ 520; omega) (hL_order_2.at 0 rfl rfl) (fun x48 => ?_)
    refine os_text (j := 4) (q := ("OrderSettlerLaw", 61, ";")) rfl rfl (hL_order_2.at 1 rfl rfl) (fun x49 => ?_)
    refine os_callV (cis := [9]) (b := x48) (As := [.ref x49]) (st := []) (st' := (fun r => .ref r :: [])) sl9_J4_append_15ec4_J4_append_15ec4 mdJ4_append_15ec4 wd867 wd868 (sJ4_append_15ec4 N x48 x49) rfl rfl (fun _ => rfl) (Nat.le_of_ble_eq_true rfl) (Nat.le_of_ble_eq_true rfl) (Nat.le_of_ble_eq_true rfl) rfl (by show _ ≤ 10; omega) rfl (by show _ ≤ 520; omega) (hL_order_2.at 2 rfl rfl) (fun x50 => ?_)
    refine os_callV (cis := [9]) (b := x50) (As := []) (st := []) (st' := (fun r => .ref r :: [])) sl9_J4_toString_0e30d_J4_toString_0e30d mdJ4_toString_0e30d wd986 wd987 (sJ4_toString_0e30d N x50 ) rfl rfl (fun _ => rfl) (Nat.le_of_ble_eq_true rfl) (Nat.le_of_ble_eq_true rfl) (Nat.le_of_ble_eq_true rfl) rfl (by show _ ≤ 10; omega) rfl (by show _ ≤ 520; omega) (hL_order_2.at 3 rfl rfl) (fun x51 => ?_)
    exact os_aret (Or.inl ⟨_, rfl⟩) (by omega) (by omega) (hL_order_2.at 4 rfl rfl).1
-- L_type
def KL_type : List (Nat × Nat × Instr) := [(0, 1, .iconst 0), (1, 1, .istore_n 2), (2, 1, .iload_n 2), (3, 1, .aload_n 1), (4, 3, .invokevirtual 8), (7, 3, .if_icmp .ge 109), (10, 1, .iconst 5), (11, 2, .newarray .int), (13, 1, .dup), (14, 1, .iconst 0), (15, 1, .iconst 0), (16, 1, .iastore), (17, 1, .dup), (18, 1, .iconst 1), (19, 1, .iconst 0), (20, 1, .iastore), (21, 1, .dup), (22, 1, .iconst 2), (23, 1, .iconst 0), (24, 1, .iastore), (25, 1, .dup), (26, 1, .iconst 3), (27, 1, .iconst 0), (28, 1, .iastore), (29, 1, .dup), (30, 1, .iconst 4), (31, 1, .iconst 0), (32, 1, .iastore), (33, 1, .astore_n 3), (34, 1, .iconst 0), (35, 2, .istore 4), (37, 2, .iload 4), (39, 2, .bipush 20), (41, 3, .if_icmp .ge 49), (44, 1, .aload_n 3), (45, 2, .iload 4), (47, 1, .iconst 4), (48, 1, .idiv), (49, 1, .aload_n 3), (50, 2, .iload 4), (52, 1, .iconst 4), (53, 1, .idiv), (54, 1, .iaload), (55, 2, .bipush 8), (57, 1, .ishl), (58, 1, .iload_n 2), (59, 2, .iload 4), (61, 1, .iadd), (62, 1, .aload_n 1), (63, 3, .invokevirtual 8), (66, 3, .if_icmp .ge 14), (69, 1, .aload_n 1), (70, 1, .iload_n 2), (71, 2, .iload 4), (73, 1, .iadd), (74, 3, .invokevirtual 14), (77, 3, .goto 5), (80, 2, .bipush 32), (82, 1, .ior), (83, 1, .iastore), (84, 3, .iinc 4 1), (87, 3, .goto (-50)), (90, 1, .aload_n 0), (91, 1, .aload_n 3), (92, 1, .iconst 0), (93, 1, .iaload), (94, 1, .aload_n 3), (95, 1, .iconst 1), (96, 1, .iaload), (97, 1, .aload_n 3), (98, 1, .iconst 2), (99, 1, .iaload), (100, 1, .aload_n 3), (101, 1, .iconst 3), (102, 1, .iaload), (103, 1, .aload_n 3), (104, 1, .iconst 4), (105, 1, .iaload), (106, 3, .invokevirtual 18), (109, 1, .pop), (110, 3, .iinc 2 20), (113, 3, .goto (-111)), (116, 1, .return_)]
theorem hL_type : osDs cL_type KL_type := by
  show ∀ q ∈ KL_type, decode cL_type q.1 = .ok (q.2.2, q.2.1)
  decide +kernel
def qL_type_82 (N : Nat) (c2 : Nat × Nat × Int32 → osM Unit) (c37 : Nat × Nat × Int32 × Nat × Int32 → osM Unit) (l0 : Nat) (l1 : Nat) (l2 : Int32) (l3 : Nat) (l4 : Int32) (k0 : Int32) (k1 : Int32) (k2 : Int32) (k3 : Nat) : osM Unit := osbind (ossI 0 k3 k2 (k1 ||| k0)) fun _ => c37 (l0, l1, l2, l3, (l4 + (1 : Int32)))
def bL_type_37 (N : Nat) (c2 : Nat × Nat × Int32 → osM Unit) (c37 : Nat × Nat × Int32 × Nat × Int32 → osM Unit) (l0 : Nat) (l1 : Nat) (l2 : Int32) (l3 : Nat) (l4 : Int32) : osM Unit := osite ((20 : Int32) ≤ l4) (osbind (osaI 0 l3 (0 : Int32)) fun x1 => osbind (osaI 0 l3 (1 : Int32)) fun x2 => osbind (osaI 0 l3 (2 : Int32)) fun x3 => osbind (osaI 0 l3 (3 : Int32)) fun x4 => osbind (osaI 0 l3 (4 : Int32)) fun x5 => osbind (osrecv [7] l0 (osRV (qX9_feed N l0 x1 x2 x3 x4 x5))) fun x6 => c2 (l0, l1, (l2 + (20 : Int32)))) (osguard (¬ (4 : Int32) = 0) (osguard (¬ (4 : Int32) = 0) (osbind (osaI 0 l3 (l4 / (4 : Int32))) fun x9 => osbind (osonstr l1 (qJ0_length_8abf5 N l1)) fun x10 => osite (x10 ≤ (l2 + l4)) (qL_type_82 N c2 c37 l0 l1 l2 l3 l4 (32 : Int32) (osshl x9 (8 : Int32)) (l4 / (4 : Int32)) l3) (osbind (osonstr l1 (qJ0_charAt_5068e N l1 (l2 + l4))) fun x11 => qL_type_82 N c2 c37 l0 l1 l2 l3 l4 x11 (osshl x9 (8 : Int32)) (l4 / (4 : Int32)) l3))))
def qL_type_37 (N : Nat) (c2 : Nat × Nat × Int32 → osM Unit) : Nat × Nat × Int32 × Nat × Int32 → osM Unit := osloop (fun ih p => bL_type_37 N c2 ih p.1 p.2.1 p.2.2.1 p.2.2.2.1 p.2.2.2.2) 21
def bL_type_2 (N : Nat) (c2 : Nat × Nat × Int32 → osM Unit) (l0 : Nat) (l1 : Nat) (l2 : Int32) : osM Unit := osbind (osonstr l1 (qJ0_length_8abf5 N l1)) fun x1 => osite (x1 ≤ l2) (osret ()) (osbind (osnew (.inl (0, (5, .inl fun _ => 0)))) fun x2 => osbind (ossI 0 x2 (0 : Int32) (0 : Int32)) fun _ => osbind (ossI 0 x2 (1 : Int32) (0 : Int32)) fun _ => osbind (ossI 0 x2 (2 : Int32) (0 : Int32)) fun _ => osbind (ossI 0 x2 (3 : Int32) (0 : Int32)) fun _ => osbind (ossI 0 x2 (4 : Int32) (0 : Int32)) fun _ => qL_type_37 N c2 (l0, l1, l2, x2, (0 : Int32)))
def qL_type_2 (N : Nat) : Nat × Nat × Int32 → osM Unit := osloop (fun ih p => bL_type_2 N ih p.1 p.2.1 p.2.2) 51
def qL_type (N : Nat) (l0 : Nat) (l1 : Nat) : osM Unit := qL_type_2 N (l0, l1, (0 : Int32))
set_option maxRecDepth 100000 in
set_option maxHeartbeats 4000000 in
theorem sL_type_82 (N : Nat) (k2 n2 : Nat) (hx2 : k2 + 2 ≤ 102 ∧ n2 + 11 ≤ 561) (k37 n37 : Nat) (hx37 : k37 + 0 ≤ k2 + 1 ∧ n37 + 0 ≤ n2 + 5) (c2 : Nat × Nat × Int32 → osM Unit) (c37 : Nat × Nat × Int32 × Nat × Int32 → osM Unit) (g2 : ∀ (l0 : Nat) (l1 : Nat) (l2 : Int32), osW (osFinM (fun _ : Unit => none) 102 561) yL_type cL_type 5 none [] { frames := 7, cells := 102, slots := 561, locals := 115 } (k2 + 2) (n2 + 11) 2 [(0, .ref l0), (1, .ref l1), (2, .int l2)] [] (c2 (l0, l1, l2))) (g37 : ∀ (l0 : Nat) (l1 : Nat) (l2 : Int32) (l3 : Nat) (l4 : Int32), osW (osFinM (fun _ : Unit => none) 102 561) yL_type cL_type 5 none [] { frames := 7, cells := 102, slots := 561, locals := 115 } (k37) (n37) 37 [(0, .ref l0), (1, .ref l1), (2, .int l2), (3, .ref l3), (4, .int l4)] [] (c37 (l0, l1, l2, l3, l4))) (l0 : Nat) (l1 : Nat) (l2 : Int32) (l3 : Nat) (l4 : Int32) (k0 : Int32) (k1 : Int32) (k2 : Int32) (k3 : Nat) : osW (osFinM (fun _ : Unit => none) 102 561) yL_type cL_type 5 none [] { frames := 7, cells := 102, slots := 561, locals := 115 } (k37) (n37) 82 [(0, .ref l0), (1, .ref l1), (2, .int l2), (3, .ref l3), (4, .int l4)] [.int k0, .int k1, .int k2, .ref k3] (qL_type_82 N c2 c37 l0 l1 l2 l3 l4 k0 k1 k2 k3) := by
  unfold qL_type_82
  refine os_ior (hL_type.at 58 rfl rfl) ?_
  refine os_iastore (hL_type.at 59 rfl rfl) ?_
  refine os_iinc (i := 4) (d := 1) (x := l4) (v := (1 : Int32)) (lv' := [(4, .int (l4 + (1 : Int32))), (0, .ref l0), (1, .ref l1), (2, .int l2), (3, .ref l3)]) 4 rfl rfl (Nat.le_of_ble_eq_true rfl) rfl (hL_type.at 60 rfl rfl) ?_
  refine os_goto (off := (-50)) (tgt := 37) rfl (hL_type.at 61 rfl rfl) ?_
  exact osW.widen (k' := k37) (n' := n37) (by omega) (by omega) (osW.sub [1, 2, 3, 4, 0] rfl (g37 l0 l1 l2 l3 (l4 + (1 : Int32))))
set_option maxRecDepth 100000 in
set_option maxHeartbeats 4000000 in
theorem tL_type_37 (N : Nat) (k2 n2 : Nat) (hx2 : k2 + 2 ≤ 102 ∧ n2 + 11 ≤ 561) (k37 n37 : Nat) (hx37 : k37 + 0 ≤ k2 + 1 ∧ n37 + 0 ≤ n2 + 5) (c2 : Nat × Nat × Int32 → osM Unit) (c37 : Nat × Nat × Int32 × Nat × Int32 → osM Unit) (g2 : ∀ (l0 : Nat) (l1 : Nat) (l2 : Int32), osW (osFinM (fun _ : Unit => none) 102 561) yL_type cL_type 5 none [] { frames := 7, cells := 102, slots := 561, locals := 115 } (k2 + 2) (n2 + 11) 2 [(0, .ref l0), (1, .ref l1), (2, .int l2)] [] (c2 (l0, l1, l2))) (g37 : ∀ (l0 : Nat) (l1 : Nat) (l2 : Int32) (l3 : Nat) (l4 : Int32), osW (osFinM (fun _ : Unit => none) 102 561) yL_type cL_type 5 none [] { frames := 7, cells := 102, slots := 561, locals := 115 } (k37) (n37) 37 [(0, .ref l0), (1, .ref l1), (2, .int l2), (3, .ref l3), (4, .int l4)] [] (c37 (l0, l1, l2, l3, l4))) (l0 : Nat) (l1 : Nat) (l2 : Int32) (l3 : Nat) (l4 : Int32) : osW (osFinM (fun _ : Unit => none) 102 561) yL_type cL_type 5 none [] { frames := 7, cells := 102, slots := 561, locals := 115 } (k37) (n37) 37 [(0, .ref l0), (1, .ref l1), (2, .int l2), (3, .ref l3), (4, .int l4)] [] (bL_type_37 N c2 c37 l0 l1 l2 l3 l4) := by
  unfold bL_type_37
  refine os_iload (v := l4) 4 rfl (hL_type.at 31 rfl rfl) ?_
  refine os_bipush (i := 20) (v := (20 : Int32)) rfl (hL_type.at 32 rfl rfl) ?_
  refine os_icmp_ge (off := 49) (tgt := 90) rfl (hL_type.at 33 rfl rfl) ?_ ?_
  · refine os_aload_n (i := 0) (q := 0) (v := l0) 0 rfl rfl (hL_type.at 62 rfl rfl) ?_
    refine os_aload_n (i := 3) (q := 3) (v := l3) 3 rfl rfl (hL_type.at 63 rfl rfl) ?_
    refine os_iconst (i := 0) (v := (0 : Int32)) rfl (hL_type.at 64 rfl rfl) ?_
    refine os_iaload (hL_type.at 65 rfl rfl) (fun x1 => ?_)
    refine os_aload_n (i := 3) (q := 3) (v := l3) 3 rfl rfl (hL_type.at 66 rfl rfl) ?_
    refine os_iconst (i := 1) (v := (1 : Int32)) rfl (hL_type.at 67 rfl rfl) ?_
    refine os_iaload (hL_type.at 68 rfl rfl) (fun x2 => ?_)
    refine os_aload_n (i := 3) (q := 3) (v := l3) 3 rfl rfl (hL_type.at 69 rfl rfl) ?_
    refine os_iconst (i := 2) (v := (2 : Int32)) rfl (hL_type.at 70 rfl rfl) ?_
    refine os_iaload (hL_type.at 71 rfl rfl) (fun x3 => ?_)
    refine os_aload_n (i := 3) (q := 3) (v := l3) 3 rfl rfl (hL_type.at 72 rfl rfl) ?_
    refine os_iconst (i := 3) (v := (3 : Int32)) rfl (hL_type.at 73 rfl rfl) ?_
    refine os_iaload (hL_type.at 74 rfl rfl) (fun x4 => ?_)
    refine os_aload_n (i := 3) (q := 3) (v := l3) 3 rfl rfl (hL_type.at 75 rfl rfl) ?_
    refine os_iconst (i := 4) (v := (4 : Int32)) rfl (hL_type.at 76 rfl rfl) ?_
    refine os_iaload (hL_type.at 77 rfl rfl) (fun x5 => ?_)
    refine os_callV (cis := [7]) (b := l0) (As := [.int x1, .int x2, .int x3, .int x4, .int x5]) (st := []) (st' := (fun r => .int r :: [])) sl7_X9_feed_X9_feed mdX9_feed wd543 wd544 (osMetT.sure (sX9_feed N l0 x1 x2 x3 x4 x5)) rfl rfl (fun _ => rfl) (Nat.le_of_ble_eq_true rfl) (Nat.le_of_ble_eq_true rfl) (Nat.le_of_ble_eq_true rfl) rfl (by show _ ≤ 102; omega) rfl (by show _ ≤ 561; omega) (hL_type.at 78 rfl rfl) (fun x6 => ?_)
    refine os_pop rfl (hL_type.at 79 rfl rfl) ?_
    refine os_iinc (i := 2) (d := 20) (x := l2) (v := (20 : Int32)) (lv' := [(2, .int (l2 + (20 : Int32))), (0, .ref l0), (1, .ref l1), (3, .ref l3), (4, .int l4)]) 2 rfl rfl (Nat.le_of_ble_eq_true rfl) rfl (hL_type.at 80 rfl rfl) ?_
    refine os_goto (off := (-111)) (tgt := 2) rfl (hL_type.at 81 rfl rfl) ?_
    exact osW.widen (k' := k2 + 2) (n' := n2 + 11) (by omega) (by omega) (osW.sub [1, 2, 0] rfl (g2 l0 l1 (l2 + (20 : Int32))))
  · refine os_aload_n (i := 3) (q := 3) (v := l3) 3 rfl rfl (hL_type.at 34 rfl rfl) ?_
    refine os_iload (v := l4) 4 rfl (hL_type.at 35 rfl rfl) ?_
    refine os_iconst (i := 4) (v := (4 : Int32)) rfl (hL_type.at 36 rfl rfl) ?_
    refine os_guard (fun h7 => ?_)
    refine os_idiv h7 (hL_type.at 37 rfl rfl) ?_
    refine os_aload_n (i := 3) (q := 3) (v := l3) 3 rfl rfl (hL_type.at 38 rfl rfl) ?_
    refine os_iload (v := l4) 4 rfl (hL_type.at 39 rfl rfl) ?_
    refine os_iconst (i := 4) (v := (4 : Int32)) rfl (hL_type.at 40 rfl rfl) ?_
    refine os_guard (fun h8 => ?_)
    refine os_idiv h8 (hL_type.at 41 rfl rfl) ?_
    refine os_iaload (hL_type.at 42 rfl rfl) (fun x9 => ?_)
    refine os_bipush (i := 8) (v := (8 : Int32)) rfl (hL_type.at 43 rfl rfl) ?_
    refine os_ishl (hL_type.at 44 rfl rfl) ?_
    refine os_iload_n (i := 2) (q := 2) (v := l2) 2 rfl rfl (hL_type.at 45 rfl rfl) ?_
    refine os_iload (v := l4) 4 rfl (hL_type.at 46 rfl rfl) ?_
    refine os_iadd (hL_type.at 47 rfl rfl) ?_
    refine os_aload_n (i := 1) (q := 1) (v := l1) 1 rfl rfl (hL_type.at 48 rfl rfl) ?_
    refine os_callStr (b := l1) (As := []) (st := [.int (l2 + l4), .int (osshl x9 (8 : Int32)), .int (l4 / (4 : Int32)), .ref l3]) (st' := (fun r => .int r :: [.int (l2 + l4), .int (osshl x9 (8 : Int32)), .int (l4 / (4 : Int32)), .ref l3])) wd497 mdJ0_length_8abf5 wd495 wd496 (sJ0_length_8abf5 N l1 ) rfl rfl (fun _ => rfl) (Nat.le_of_ble_eq_true rfl) (Nat.le_of_ble_eq_true rfl) (Nat.le_of_ble_eq_true rfl) rfl (by show _ ≤ 102; omega) rfl (by show _ ≤ 561; omega) (hL_type.at 49 rfl rfl) (fun x10 => ?_)
    refine os_icmp_ge (off := 14) (tgt := 80) rfl (hL_type.at 50 rfl rfl) ?_ ?_
    · refine os_bipush (i := 32) (v := (32 : Int32)) rfl (hL_type.at 57 rfl rfl) ?_
      exact osW.widen (k' := k37) (n' := n37) (by omega) (by omega) (osW.sub [0, 1, 2, 3, 4] rfl (sL_type_82 N k2 n2 hx2 k37 n37 hx37 c2 c37 g2 g37 l0 l1 l2 l3 l4 (32 : Int32) (osshl x9 (8 : Int32)) (l4 / (4 : Int32)) l3))
    · refine os_aload_n (i := 1) (q := 1) (v := l1) 1 rfl rfl (hL_type.at 51 rfl rfl) ?_
      refine os_iload_n (i := 2) (q := 2) (v := l2) 2 rfl rfl (hL_type.at 52 rfl rfl) ?_
      refine os_iload (v := l4) 4 rfl (hL_type.at 53 rfl rfl) ?_
      refine os_iadd (hL_type.at 54 rfl rfl) ?_
      refine os_callStr (b := l1) (As := [.int (l2 + l4)]) (st := [.int (osshl x9 (8 : Int32)), .int (l4 / (4 : Int32)), .ref l3]) (st' := (fun r => .int r :: [.int (osshl x9 (8 : Int32)), .int (l4 / (4 : Int32)), .ref l3])) wd507 mdJ0_charAt_5068e wd505 wd506 (sJ0_charAt_5068e N l1 (l2 + l4)) rfl rfl (fun _ => rfl) (Nat.le_of_ble_eq_true rfl) (Nat.le_of_ble_eq_true rfl) (Nat.le_of_ble_eq_true rfl) rfl (by show _ ≤ 102; omega) rfl (by show _ ≤ 561; omega) (hL_type.at 55 rfl rfl) (fun x11 => ?_)
      refine os_goto (off := 5) (tgt := 82) rfl (hL_type.at 56 rfl rfl) ?_
      exact osW.widen (k' := k37) (n' := n37) (by omega) (by omega) (osW.sub [0, 1, 2, 3, 4] rfl (sL_type_82 N k2 n2 hx2 k37 n37 hx37 c2 c37 g2 g37 l0 l1 l2 l3 l4 x11 (osshl x9 (8 : Int32)) (l4 / (4 : Int32)) l3))
set_option maxRecDepth 100000 in
set_option maxHeartbeats 4000000 in
theorem sL_type_37 (N : Nat) (k2 n2 : Nat) (hx2 : k2 + 2 ≤ 102 ∧ n2 + 11 ≤ 561) (c2 : Nat × Nat × Int32 → osM Unit) (g2 : ∀ (l0 : Nat) (l1 : Nat) (l2 : Int32), osW (osFinM (fun _ : Unit => none) 102 561) yL_type cL_type 5 none [] { frames := 7, cells := 102, slots := 561, locals := 115 } (k2 + 2) (n2 + 11) 2 [(0, .ref l0), (1, .ref l1), (2, .int l2)] [] (c2 (l0, l1, l2))) (l0 : Nat) (l1 : Nat) (l2 : Int32) (l3 : Nat) (l4 : Int32) : osW (osFinM (fun _ : Unit => none) 102 561) yL_type cL_type 5 none [] { frames := 7, cells := 102, slots := 561, locals := 115 } (k2 + 1) (n2 + 5) 37 [(0, .ref l0), (1, .ref l1), (2, .int l2), (3, .ref l3), (4, .int l4)] [] (qL_type_37 N c2 (l0, l1, l2, l3, l4)) := by
  refine osW.widen (k' := (k2 + 1) + 0 * (21 - 21)) (n' := (n2 + 5) + 0 * (21 - 21)) (by omega) (by omega) ?_
  exact osloop_K (lvf := fun p => [(0, .ref p.1), (1, .ref p.2.1), (2, .int p.2.2.1), (3, .ref p.2.2.2.1), (4, .int p.2.2.2.2)]) (stf := fun p => []) 21 0 0 (k2 + 1) (n2 + 5) (fun f hf ih g p => tL_type_37 N k2 n2 hx2 ((k2 + 1) + 0 * (21 - (f + 1))) ((n2 + 5) + 0 * (21 - (f + 1))) (by omega) c2 ih g2 (fun l0 l1 l2 l3 l4 => osW.widen (by omega) (by omega) (g (l0, l1, l2, l3, l4))) p.1 p.2.1 p.2.2.1 p.2.2.2.1 p.2.2.2.2) 21 (Nat.le_refl _) (l0, l1, l2, l3, l4)
set_option maxRecDepth 100000 in
set_option maxHeartbeats 4000000 in
theorem tL_type_2 (N : Nat) (k2 n2 : Nat) (hx2 : k2 + 2 ≤ 102 ∧ n2 + 11 ≤ 561) (c2 : Nat × Nat × Int32 → osM Unit) (g2 : ∀ (l0 : Nat) (l1 : Nat) (l2 : Int32), osW (osFinM (fun _ : Unit => none) 102 561) yL_type cL_type 5 none [] { frames := 7, cells := 102, slots := 561, locals := 115 } (k2 + 2) (n2 + 11) 2 [(0, .ref l0), (1, .ref l1), (2, .int l2)] [] (c2 (l0, l1, l2))) (l0 : Nat) (l1 : Nat) (l2 : Int32) : osW (osFinM (fun _ : Unit => none) 102 561) yL_type cL_type 5 none [] { frames := 7, cells := 102, slots := 561, locals := 115 } (k2) (n2) 2 [(0, .ref l0), (1, .ref l1), (2, .int l2)] [] (bL_type_2 N c2 l0 l1 l2) := by
  unfold bL_type_2
  refine os_iload_n (i := 2) (q := 2) (v := l2) 2 rfl rfl (hL_type.at 2 rfl rfl) ?_
  refine os_aload_n (i := 1) (q := 1) (v := l1) 1 rfl rfl (hL_type.at 3 rfl rfl) ?_
  refine os_callStr (b := l1) (As := []) (st := [.int l2]) (st' := (fun r => .int r :: [.int l2])) wd497 mdJ0_length_8abf5 wd495 wd496 (sJ0_length_8abf5 N l1 ) rfl rfl (fun _ => rfl) (Nat.le_of_ble_eq_true rfl) (Nat.le_of_ble_eq_true rfl) (Nat.le_of_ble_eq_true rfl) rfl (by show _ ≤ 102; omega) rfl (by show _ ≤ 561; omega) (hL_type.at 4 rfl rfl) (fun x1 => ?_)
  refine os_icmp_ge (off := 109) (tgt := 116) rfl (hL_type.at 5 rfl rfl) ?_ ?_
  · exact os_vret (by omega) (by omega) (hL_type.at 82 rfl rfl).1
  · refine os_iconst (i := 5) (v := (5 : Int32)) rfl (hL_type.at 6 rfl rfl) ?_
    refine os_newarray (at9 := .int) (ty := .int) (t := 0) (N := 5) rfl rfl rfl wd248 (fun _ => rfl) (by decide) rfl (Nat.le_of_ble_eq_true rfl) (by show _ ≤ 102; omega) (by show _ ≤ 561; omega) (hL_type.at 7 rfl rfl) (fun x2 => ?_)
    refine os_dup rfl (hL_type.at 8 rfl rfl) ?_
    refine os_iconst (i := 0) (v := (0 : Int32)) rfl (hL_type.at 9 rfl rfl) ?_
    refine os_iconst (i := 0) (v := (0 : Int32)) rfl (hL_type.at 10 rfl rfl) ?_
    refine os_iastore (hL_type.at 11 rfl rfl) ?_
    refine os_dup rfl (hL_type.at 12 rfl rfl) ?_
    refine os_iconst (i := 1) (v := (1 : Int32)) rfl (hL_type.at 13 rfl rfl) ?_
    refine os_iconst (i := 0) (v := (0 : Int32)) rfl (hL_type.at 14 rfl rfl) ?_
    refine os_iastore (hL_type.at 15 rfl rfl) ?_
    refine os_dup rfl (hL_type.at 16 rfl rfl) ?_
    refine os_iconst (i := 2) (v := (2 : Int32)) rfl (hL_type.at 17 rfl rfl) ?_
    refine os_iconst (i := 0) (v := (0 : Int32)) rfl (hL_type.at 18 rfl rfl) ?_
    refine os_iastore (hL_type.at 19 rfl rfl) ?_
    refine os_dup rfl (hL_type.at 20 rfl rfl) ?_
    refine os_iconst (i := 3) (v := (3 : Int32)) rfl (hL_type.at 21 rfl rfl) ?_
    refine os_iconst (i := 0) (v := (0 : Int32)) rfl (hL_type.at 22 rfl rfl) ?_
    refine os_iastore (hL_type.at 23 rfl rfl) ?_
    refine os_dup rfl (hL_type.at 24 rfl rfl) ?_
    refine os_iconst (i := 4) (v := (4 : Int32)) rfl (hL_type.at 25 rfl rfl) ?_
    refine os_iconst (i := 0) (v := (0 : Int32)) rfl (hL_type.at 26 rfl rfl) ?_
    refine os_iastore (hL_type.at 27 rfl rfl) ?_
    refine os_astore_n (i := 3) (q := 3) rfl (lv' := [(3, .ref x2), (0, .ref l0), (1, .ref l1), (2, .int l2)]) (Nat.le_of_ble_eq_true rfl) rfl (hL_type.at 28 rfl rfl) ?_
    refine os_iconst (i := 0) (v := (0 : Int32)) rfl (hL_type.at 29 rfl rfl) ?_
    refine os_istore (i := 4) (lv' := [(4, .int (0 : Int32)), (3, .ref x2), (0, .ref l0), (1, .ref l1), (2, .int l2)]) (Nat.le_of_ble_eq_true rfl) rfl (hL_type.at 30 rfl rfl) ?_
    exact osW.widen (k' := k2 + 1) (n' := n2 + 5) (by omega) (by omega) (osW.sub [2, 3, 4, 1, 0] rfl (sL_type_37 N k2 n2 hx2 c2 g2 l0 l1 l2 x2 (0 : Int32)))
set_option maxRecDepth 100000 in
set_option maxHeartbeats 4000000 in
theorem sL_type_2 (N : Nat) (l0 : Nat) (l1 : Nat) (l2 : Int32) : osW (osFinM (fun _ : Unit => none) 102 561) yL_type cL_type 5 none [] { frames := 7, cells := 102, slots := 561, locals := 115 } (0) (0) 2 [(0, .ref l0), (1, .ref l1), (2, .int l2)] [] (qL_type_2 N (l0, l1, l2)) := by
  refine osW.widen (k' := (0) + 2 * (51 - 51)) (n' := (0) + 11 * (51 - 51)) (by omega) (by omega) ?_
  exact osloop_K (lvf := fun p => [(0, .ref p.1), (1, .ref p.2.1), (2, .int p.2.2)]) (stf := fun p => []) 51 2 11 (0) (0) (fun f hf ih g p => tL_type_2 N ((0) + 2 * (51 - (f + 1))) ((0) + 11 * (51 - (f + 1))) (by omega) ih (fun l0 l1 l2 => osW.widen (by omega) (by omega) (g (l0, l1, l2))) p.1 p.2.1 p.2.2) 51 (Nat.le_refl _) (l0, l1, l2)
set_option maxRecDepth 100000 in
set_option maxHeartbeats 4000000 in
theorem sL_type (N : Nat) (l0 : Nat) (l1 : Nat) : osMet yL_type cL_type 5 none 7 115 102 561 (fun _ : Unit => none) [.ref l0, .ref l1] (qL_type N l0 l1) := by
  refine osMet.of plL (Nat.le_of_ble_eq_true rfl) (osW.rw (lv2 := [(0, .ref l0), (1, .ref l1)]) ?_ rfl rfl rfl)
  unfold qL_type
  refine os_iconst (i := 0) (v := (0 : Int32)) rfl (hL_type.at 0 rfl rfl) ?_
  refine os_istore_n (i := 2) (q := 2) rfl (lv' := [(2, .int (0 : Int32)), (0, .ref l0), (1, .ref l1)]) (Nat.le_of_ble_eq_true rfl) rfl (hL_type.at 1 rfl rfl) ?_
  exact osW.widen (k' := 0) (n' := 0) (by omega) (by omega) (osW.sub [1, 2, 0] rfl (sL_type_2 N l0 l1 (0 : Int32)))
-- L_map
def bL_map_222 (N : Nat) (c222 : Int32 × Nat × Int32 → osM Nat) (l2 : Int32) (l3 : Nat) (l5 : Int32) : osM Nat := osite (l2 ≤ l5) (osbind (osrecv [9] l3 (qBJ4_toString_0e30d N l3)) fun x1 => osret x1) (osbind (ostext 7) fun x2 => osbind (osrecv [9] l3 (qBJ4_append_15ec4 N l3 x2)) fun x3 => osbind (osrecv [9] x3 (qBJ4_append_cf468 N x3 ((((112 : Int32) + l5).toUInt32 % 65536).toInt32))) fun x4 => osbind (osrecv [9] x4 (qBJ4_append_cf468 N x4 (59 : Int32))) fun x5 => c222 (l2, l3, (l5 + (1 : Int32))))
def qL_map_222 (N : Nat) : Int32 × Nat × Int32 → osM Nat := osloop (fun ih p => bL_map_222 N ih p.1 p.2.1 p.2.2) 4
def qL_map_213 (N : Nat) (c124 : Int32 × Nat × Int32 × Int32 → osM Nat) (l2 : Int32) (l3 : Nat) (l4 : Int32) (l5 : Int32) : osM Nat := c124 (l2, l3, l4, (l5 + (1 : Int32)))
def qL_map_176 (N : Nat) (c124 : Int32 × Nat × Int32 × Int32 → osM Nat) (l2 : Int32) (l3 : Nat) (l4 : Int32) (l5 : Int32) : osM Nat := osguard (¬ (3 : Int32) = 0) (osite ((2 : Int32) ≤ (l5 - l5 / (3 : Int32) * (3 : Int32))) (qL_map_213 N c124 l2 l3 l4 l5) (osite (l5 ≤ (2 : Int32)) (qL_map_213 N c124 l2 l3 l4 l5) (osite (l4 ≤ (l5 + (4 : Int32))) (qL_map_213 N c124 l2 l3 l4 l5) (osbind (qL_border N l5 (l5 + (4 : Int32))) fun x2 => osbind (osrecv [9] l3 (qBJ4_append_15ec4 N l3 x2)) fun x3 => qL_map_213 N c124 l2 l3 l4 l5))))
def qL_map_153 (N : Nat) (c124 : Int32 × Nat × Int32 × Int32 → osM Nat) (l2 : Int32) (l3 : Nat) (l4 : Int32) (l5 : Int32) : osM Nat := osite (l4 ≤ (l5 + (3 : Int32))) (qL_map_176 N c124 l2 l3 l4 l5) (osbind (qL_border N l5 (l5 + (3 : Int32))) fun x1 => osbind (osrecv [9] l3 (qBJ4_append_15ec4 N l3 x1)) fun x2 => qL_map_176 N c124 l2 l3 l4 l5)
def bL_map_124 (N : Nat) (c124 : Int32 × Nat × Int32 × Int32 → osM Nat) (l2 : Int32) (l3 : Nat) (l4 : Int32) (l5 : Int32) : osM Nat := osite (l4 ≤ l5) (qL_map_222 N (l2, l3, (0 : Int32))) (osguard (¬ (3 : Int32) = 0) (osite ((2 : Int32) ≤ (l5 - l5 / (3 : Int32) * (3 : Int32))) (qL_map_153 N c124 l2 l3 l4 l5) (osbind (qL_border N l5 (l5 + (1 : Int32))) fun x2 => osbind (osrecv [9] l3 (qBJ4_append_15ec4 N l3 x2)) fun x3 => qL_map_153 N c124 l2 l3 l4 l5)))
def qL_map_124 (N : Nat) : Int32 × Nat × Int32 × Int32 → osM Nat := osloop (fun ih p => bL_map_124 N ih p.1 p.2.1 p.2.2.1 p.2.2.2) 13
def qL_map_111 (N : Nat) (c16 : Nat × Int32 × Nat × Int32 × Int32 → osM Nat) (l0 : Nat) (l2 : Int32) (l3 : Nat) (l4 : Int32) (l5 : Int32) (k0 : Nat) (k1 : Nat) : osM Nat := osbind (osrecv [9] k1 (qBJ4_append_15ec4 N k1 k0)) fun x1 => c16 (l0, l2, l3, l4, (l5 + (1 : Int32)))
def qL_map_109 (N : Nat) (c16 : Nat × Int32 × Nat × Int32 × Int32 → osM Nat) (l0 : Nat) (l2 : Int32) (l3 : Nat) (l4 : Int32) (l5 : Int32) (k0 : Nat) : osM Nat := osbind (ostext 4) fun x1 => qL_map_111 N c16 l0 l2 l3 l4 l5 x1 k0
def qL_map_77 (N : Nat) (c16 : Nat × Int32 × Nat × Int32 × Int32 → osM Nat) (l0 : Nat) (l2 : Int32) (l3 : Nat) (l4 : Int32) (l5 : Int32) (l6 : Int32) (k0 : Nat) (k1 : Nat) : osM Nat := osbind (osrecv [9] k1 (qBJ4_append_15ec4 N k1 k0)) fun x1 => osbind (osrecv [9] x1 (qBJ4_append_cf468 N x1 ((((97 : Int32) + l5).toUInt32 % 65536).toInt32))) fun x2 => osite (l6 = (2 : Int32)) (qL_map_109 N c16 l0 l2 l3 l4 l5 x2) (osbind (qL_next N l0) fun x3 => osguard (¬ (2 : Int32) = 0) (osite ((x3 - x3 / (2 : Int32) * (2 : Int32)) = 0) (osbind (ostext 3) fun x5 => qL_map_111 N c16 l0 l2 l3 l4 l5 x5 x2) (qL_map_109 N c16 l0 l2 l3 l4 l5 x2)))
def qL_map_50 (N : Nat) (c16 : Nat × Int32 × Nat × Int32 × Int32 → osM Nat) (l0 : Nat) (l2 : Int32) (l3 : Nat) (l4 : Int32) (l5 : Int32) (k0 : Int32) : osM Nat := osite (k0 = (2 : Int32)) (osbind (ostext 0) fun x3 => qL_map_77 N c16 l0 l2 l3 l4 l5 k0 x3 l3) (osite (k0 = (1 : Int32)) (osbind (ostext 1) fun x2 => qL_map_77 N c16 l0 l2 l3 l4 l5 k0 x2 l3) (osbind (ostext 2) fun x1 => qL_map_77 N c16 l0 l2 l3 l4 l5 k0 x1 l3))
def bL_map_16 (N : Nat) (c16 : Nat × Int32 × Nat × Int32 × Int32 → osM Nat) (l0 : Nat) (l2 : Int32) (l3 : Nat) (l4 : Int32) (l5 : Int32) : osM Nat := osite (l4 ≤ l5) (qL_map_124 N (l2, l3, l4, (0 : Int32))) (osite ((3 : Int32) ≤ l5) (osite ((6 : Int32) ≤ l5) (osbind (qL_next N l0) fun x1 => osguard (¬ (2 : Int32) = 0) (qL_map_50 N c16 l0 l2 l3 l4 l5 (x1 - x1 / (2 : Int32) * (2 : Int32)))) (qL_map_50 N c16 l0 l2 l3 l4 l5 (1 : Int32))) (qL_map_50 N c16 l0 l2 l3 l4 l5 (2 : Int32)))
def qL_map_16 (N : Nat) : Nat × Int32 × Nat × Int32 × Int32 → osM Nat := osloop (fun ih p => bL_map_16 N ih p.1 p.2.1 p.2.2.1 p.2.2.2.1 p.2.2.2.2) 13
def qL_map (N : Nat) (l0 : Nat) (l1 : Int32) (l2 : Int32) : osM Nat := osbind (osnew (.inr (9, [.null, .int 0, .int 0, .int 0]))) fun x1 => osbind (qBJ4_init_da8c8 N x1) fun _ => qL_map_16 N (l0, l2, x1, ((3 : Int32) * l1), (0 : Int32))
set_option maxRecDepth 100000 in
set_option maxHeartbeats 4000000 in
theorem tL_map_222 (N : Nat) (k222 n222 : Nat) (hx222 : k222 + 3 ≤ 443 ∧ n222 + 3600 ≤ 126988) (c222 : Int32 × Nat × Int32 → osM Nat) (g222 : ∀ (l2 : Int32) (l3 : Nat) (l5 : Int32), osW (osFinM (fun r : Nat => some (.ref r)) 445 128192) yL_map cL_map 7 (some (.object "java/lang/String")) [] { frames := 7, cells := 445, slots := 128192, locals := 192 } (k222 + 3) (n222 + 3600) 222 [(2, .int l2), (3, .ref l3), (5, .int l5)] [] (c222 (l2, l3, l5))) (l2 : Int32) (l3 : Nat) (l5 : Int32) : osW (osFinM (fun r : Nat => some (.ref r)) 445 128192) yL_map cL_map 7 (some (.object "java/lang/String")) [] { frames := 7, cells := 445, slots := 128192, locals := 192 } (k222) (n222) 222 [(2, .int l2), (3, .ref l3), (5, .int l5)] [] (bL_map_222 N c222 l2 l3 l5) := by
  unfold bL_map_222
  refine os_iload (v := l5) 2 rfl (hL_map_2.at 17 rfl rfl) ?_
  refine os_iload_n (i := 2) (q := 2) (v := l2) 0 rfl rfl (hL_map_2.at 18 rfl rfl) ?_
  refine os_icmp_ge (off := 30) (tgt := 255) rfl (hL_map_2.at 19 rfl rfl) ?_ ?_
  · refine os_aload_n (i := 3) (q := 3) (v := l3) 1 rfl rfl (hL_map_2.at 33 rfl rfl) ?_
    refine os_callV (cis := [9]) (b := l3) (As := []) (st := []) (st' := (fun r => .ref r :: [])) sl9_J4_toString_0e30d_J4_toString_0e30d mdJ4_toString_0e30d wd986 wd987 (sBJ4_toString_0e30d N l3 ) rfl rfl (fun _ => rfl) (Nat.le_of_ble_eq_true rfl) (Nat.le_of_ble_eq_true rfl) (Nat.le_of_ble_eq_true rfl) rfl (by show _ ≤ 445; omega) rfl (by show _ ≤ 128192; omega) (hL_map_2.at 34 rfl rfl) (fun x1 => ?_)
    exact os_aret (Or.inl ⟨_, rfl⟩) (by omega) (by omega) (hL_map_2.at 35 rfl rfl).1
  · refine os_aload_n (i := 3) (q := 3) (v := l3) 1 rfl rfl (hL_map_2.at 20 rfl rfl) ?_
    refine os_text (j := 7) (q := ("OrderSettlerLaw", 67, "power ")) rfl rfl (hL_map_2.at 21 rfl rfl) (fun x2 => ?_)
    refine os_callV (cis := [9]) (b := l3) (As := [.ref x2]) (st := []) (st' := (fun r => .ref r :: [])) sl9_J4_append_15ec4_J4_append_15ec4 mdJ4_append_15ec4 wd867 wd868 (sBJ4_append_15ec4 N l3 x2) rfl rfl (fun _ => rfl) (Nat.le_of_ble_eq_true rfl) (Nat.le_of_ble_eq_true rfl) (Nat.le_of_ble_eq_true rfl) rfl (by show _ ≤ 445; omega) rfl (by show _ ≤ 128192; omega) (hL_map_2.at 22 rfl rfl) (fun x3 => ?_)
    refine os_bipush (i := 112) (v := (112 : Int32)) rfl (hL_map_2.at 23 rfl rfl) ?_
    refine os_iload (v := l5) 2 rfl (hL_map_2.at 24 rfl rfl) ?_
    refine os_iadd (hL_map_2.at 25 rfl rfl) ?_
    refine os_i2c (hL_map_2.at 26 rfl rfl) ?_
    refine os_callV (cis := [9]) (b := x3) (As := [.int ((((112 : Int32) + l5).toUInt32 % 65536).toInt32)]) (st := []) (st' := (fun r => .ref r :: [])) sl9_J4_append_cf468_J4_append_cf468 mdJ4_append_cf468 wd966 wd967 (sBJ4_append_cf468 N x3 ((((112 : Int32) + l5).toUInt32 % 65536).toInt32)) rfl rfl (fun _ => rfl) (Nat.le_of_ble_eq_true rfl) (Nat.le_of_ble_eq_true rfl) (Nat.le_of_ble_eq_true rfl) rfl (by show _ ≤ 445; omega) rfl (by show _ ≤ 128192; omega) (hL_map_2.at 27 rfl rfl) (fun x4 => ?_)
    refine os_bipush (i := 59) (v := (59 : Int32)) rfl (hL_map_2.at 28 rfl rfl) ?_
    refine os_callV (cis := [9]) (b := x4) (As := [.int (59 : Int32)]) (st := []) (st' := (fun r => .ref r :: [])) sl9_J4_append_cf468_J4_append_cf468 mdJ4_append_cf468 wd966 wd967 (sBJ4_append_cf468 N x4 (59 : Int32)) rfl rfl (fun _ => rfl) (Nat.le_of_ble_eq_true rfl) (Nat.le_of_ble_eq_true rfl) (Nat.le_of_ble_eq_true rfl) rfl (by show _ ≤ 445; omega) rfl (by show _ ≤ 128192; omega) (hL_map_2.at 29 rfl rfl) (fun x5 => ?_)
    refine os_pop rfl (hL_map_2.at 30 rfl rfl) ?_
    refine os_iinc (i := 5) (d := 1) (x := l5) (v := (1 : Int32)) (lv' := [(5, .int (l5 + (1 : Int32))), (2, .int l2), (3, .ref l3)]) 2 rfl rfl (Nat.le_of_ble_eq_true rfl) rfl (hL_map_2.at 31 rfl rfl) ?_
    refine os_goto (off := (-30)) (tgt := 222) rfl (hL_map_2.at 32 rfl rfl) ?_
    exact osW.widen (k' := k222 + 3) (n' := n222 + 3600) (by omega) (by omega) (osW.sub [1, 2, 0] rfl (g222 l2 l3 (l5 + (1 : Int32))))
set_option maxRecDepth 100000 in
set_option maxHeartbeats 4000000 in
theorem sL_map_222 (N : Nat) (l2 : Int32) (l3 : Nat) (l5 : Int32) : osW (osFinM (fun r : Nat => some (.ref r)) 445 128192) yL_map cL_map 7 (some (.object "java/lang/String")) [] { frames := 7, cells := 445, slots := 128192, locals := 192 } (431) (112588) 222 [(2, .int l2), (3, .ref l3), (5, .int l5)] [] (qL_map_222 N (l2, l3, l5)) := by
  refine osW.widen (k' := (431) + 3 * (4 - 4)) (n' := (112588) + 3600 * (4 - 4)) (by omega) (by omega) ?_
  exact osloop_K (lvf := fun p => [(2, .int p.1), (3, .ref p.2.1), (5, .int p.2.2)]) (stf := fun p => []) 4 3 3600 (431) (112588) (fun f hf ih g p => tL_map_222 N ((431) + 3 * (4 - (f + 1))) ((112588) + 3600 * (4 - (f + 1))) (by omega) ih (fun l2 l3 l5 => osW.widen (by omega) (by omega) (g (l2, l3, l5))) p.1 p.2.1 p.2.2) 4 (Nat.le_refl _) (l2, l3, l5)
set_option maxRecDepth 100000 in
set_option maxHeartbeats 4000000 in
theorem sL_map_213 (N : Nat) (k124 n124 : Nat) (hx124 : k124 + 30 ≤ 431 ∧ n124 + 4968 ≤ 112588) (c124 : Int32 × Nat × Int32 × Int32 → osM Nat) (g124 : ∀ (l2 : Int32) (l3 : Nat) (l4 : Int32) (l5 : Int32), osW (osFinM (fun r : Nat => some (.ref r)) 445 128192) yL_map cL_map 7 (some (.object "java/lang/String")) [] { frames := 7, cells := 445, slots := 128192, locals := 192 } (k124 + 30) (n124 + 4968) 124 [(2, .int l2), (3, .ref l3), (4, .int l4), (5, .int l5)] [] (c124 (l2, l3, l4, l5))) (l2 : Int32) (l3 : Nat) (l4 : Int32) (l5 : Int32) : osW (osFinM (fun r : Nat => some (.ref r)) 445 128192) yL_map cL_map 7 (some (.object "java/lang/String")) [] { frames := 7, cells := 445, slots := 128192, locals := 192 } (k124 + 30) (n124 + 4968) 213 [(2, .int l2), (3, .ref l3), (4, .int l4), (5, .int l5)] [] (qL_map_213 N c124 l2 l3 l4 l5) := by
  unfold qL_map_213
  refine os_iinc (i := 5) (d := 1) (x := l5) (v := (1 : Int32)) (lv' := [(5, .int (l5 + (1 : Int32))), (2, .int l2), (3, .ref l3), (4, .int l4)]) 3 rfl rfl (Nat.le_of_ble_eq_true rfl) rfl (hL_map_2.at 13 rfl rfl) ?_
  refine os_goto (off := (-92)) (tgt := 124) rfl (hL_map_2.at 14 rfl rfl) ?_
  exact osW.widen (k' := k124 + 30) (n' := n124 + 4968) (by omega) (by omega) (osW.sub [1, 2, 3, 0] rfl (g124 l2 l3 l4 (l5 + (1 : Int32))))
set_option maxRecDepth 100000 in
set_option maxHeartbeats 4000000 in
theorem sL_map_176 (N : Nat) (k124 n124 : Nat) (hx124 : k124 + 30 ≤ 431 ∧ n124 + 4968 ≤ 112588) (c124 : Int32 × Nat × Int32 × Int32 → osM Nat) (g124 : ∀ (l2 : Int32) (l3 : Nat) (l4 : Int32) (l5 : Int32), osW (osFinM (fun r : Nat => some (.ref r)) 445 128192) yL_map cL_map 7 (some (.object "java/lang/String")) [] { frames := 7, cells := 445, slots := 128192, locals := 192 } (k124 + 30) (n124 + 4968) 124 [(2, .int l2), (3, .ref l3), (4, .int l4), (5, .int l5)] [] (c124 (l2, l3, l4, l5))) (l2 : Int32) (l3 : Nat) (l4 : Int32) (l5 : Int32) : osW (osFinM (fun r : Nat => some (.ref r)) 445 128192) yL_map cL_map 7 (some (.object "java/lang/String")) [] { frames := 7, cells := 445, slots := 128192, locals := 192 } (k124 + 20) (n124 + 3312) 176 [(2, .int l2), (3, .ref l3), (4, .int l4), (5, .int l5)] [] (qL_map_176 N c124 l2 l3 l4 l5) := by
  unfold qL_map_176
  refine os_iload (v := l5) 3 rfl (hL_map_1.at 42 rfl rfl) ?_
  refine os_iconst (i := 3) (v := (3 : Int32)) rfl (hL_map_1.at 43 rfl rfl) ?_
  refine os_guard (fun h1 => ?_)
  refine os_irem h1 (hL_map_1.at 44 rfl rfl) ?_
  refine os_iconst (i := 2) (v := (2 : Int32)) rfl (hL_map_1.at 45 rfl rfl) ?_
  refine os_icmp_ge (off := 32) (tgt := 213) rfl (hL_map_1.at 46 rfl rfl) ?_ ?_
  · exact osW.widen (k' := k124 + 30) (n' := n124 + 4968) (by omega) (by omega) (osW.sub [0, 1, 2, 3] rfl (sL_map_213 N k124 n124 hx124 c124 g124 l2 l3 l4 l5))
  · refine os_iload (v := l5) 3 rfl (hL_map_1.at 47 rfl rfl) ?_
    refine os_iconst (i := 2) (v := (2 : Int32)) rfl (hL_map_1.at 48 rfl rfl) ?_
    refine os_icmp_le (off := 26) (tgt := 213) rfl (hL_map_1.at 49 rfl rfl) ?_ ?_
    · exact osW.widen (k' := k124 + 30) (n' := n124 + 4968) (by omega) (by omega) (osW.sub [0, 1, 2, 3] rfl (sL_map_213 N k124 n124 hx124 c124 g124 l2 l3 l4 l5))
    · refine os_iload (v := l5) 3 rfl (hL_map_2.at 0 rfl rfl) ?_
      refine os_iconst (i := 4) (v := (4 : Int32)) rfl (hL_map_2.at 1 rfl rfl) ?_
      refine os_iadd (hL_map_2.at 2 rfl rfl) ?_
      refine os_iload (v := l4) 2 rfl (hL_map_2.at 3 rfl rfl) ?_
      refine os_icmp_ge (off := 17) (tgt := 213) rfl (hL_map_2.at 4 rfl rfl) ?_ ?_
      · exact osW.widen (k' := k124 + 30) (n' := n124 + 4968) (by omega) (by omega) (osW.sub [0, 1, 2, 3] rfl (sL_map_213 N k124 n124 hx124 c124 g124 l2 l3 l4 l5))
      · refine os_aload_n (i := 3) (q := 3) (v := l3) 1 rfl rfl (hL_map_2.at 5 rfl rfl) ?_
        refine os_iload (v := l5) 3 rfl (hL_map_2.at 6 rfl rfl) ?_
        refine os_iload (v := l5) 3 rfl (hL_map_2.at 7 rfl rfl) ?_
        refine os_iconst (i := 4) (v := (4 : Int32)) rfl (hL_map_2.at 8 rfl rfl) ?_
        refine os_iadd (hL_map_2.at 9 rfl rfl) ?_
        refine os_callS (As := [.int l5, .int (l5 + (4 : Int32))]) (st := [.ref l3]) (st' := (fun r => .ref r :: [.ref l3])) mdL_border wd981 wd982 (sL_border N l5 (l5 + (4 : Int32))) rfl rfl (fun _ => rfl) (Nat.le_of_ble_eq_true rfl) (Nat.le_of_ble_eq_true rfl) (Nat.le_of_ble_eq_true rfl) rfl (by show _ ≤ 445; omega) rfl (by show _ ≤ 128192; omega) (hL_map_2.at 10 rfl rfl) (fun x2 => ?_)
        refine os_callV (cis := [9]) (b := l3) (As := [.ref x2]) (st := []) (st' := (fun r => .ref r :: [])) sl9_J4_append_15ec4_J4_append_15ec4 mdJ4_append_15ec4 wd867 wd868 (sBJ4_append_15ec4 N l3 x2) rfl rfl (fun _ => rfl) (Nat.le_of_ble_eq_true rfl) (Nat.le_of_ble_eq_true rfl) (Nat.le_of_ble_eq_true rfl) rfl (by show _ ≤ 445; omega) rfl (by show _ ≤ 128192; omega) (hL_map_2.at 11 rfl rfl) (fun x3 => ?_)
        refine os_pop rfl (hL_map_2.at 12 rfl rfl) ?_
        exact osW.widen (k' := k124 + 30) (n' := n124 + 4968) (by omega) (by omega) (osW.sub [0, 1, 2, 3] rfl (sL_map_213 N k124 n124 hx124 c124 g124 l2 l3 l4 l5))
set_option maxRecDepth 100000 in
set_option maxHeartbeats 4000000 in
theorem sL_map_153 (N : Nat) (k124 n124 : Nat) (hx124 : k124 + 30 ≤ 431 ∧ n124 + 4968 ≤ 112588) (c124 : Int32 × Nat × Int32 × Int32 → osM Nat) (g124 : ∀ (l2 : Int32) (l3 : Nat) (l4 : Int32) (l5 : Int32), osW (osFinM (fun r : Nat => some (.ref r)) 445 128192) yL_map cL_map 7 (some (.object "java/lang/String")) [] { frames := 7, cells := 445, slots := 128192, locals := 192 } (k124 + 30) (n124 + 4968) 124 [(2, .int l2), (3, .ref l3), (4, .int l4), (5, .int l5)] [] (c124 (l2, l3, l4, l5))) (l2 : Int32) (l3 : Nat) (l4 : Int32) (l5 : Int32) : osW (osFinM (fun r : Nat => some (.ref r)) 445 128192) yL_map cL_map 7 (some (.object "java/lang/String")) [] { frames := 7, cells := 445, slots := 128192, locals := 192 } (k124 + 10) (n124 + 1656) 153 [(2, .int l2), (3, .ref l3), (4, .int l4), (5, .int l5)] [] (qL_map_153 N c124 l2 l3 l4 l5) := by
  unfold qL_map_153
  refine os_iload (v := l5) 3 rfl (hL_map_1.at 29 rfl rfl) ?_
  refine os_iconst (i := 3) (v := (3 : Int32)) rfl (hL_map_1.at 30 rfl rfl) ?_
  refine os_iadd (hL_map_1.at 31 rfl rfl) ?_
  refine os_iload (v := l4) 2 rfl (hL_map_1.at 32 rfl rfl) ?_
  refine os_icmp_ge (off := 17) (tgt := 176) rfl (hL_map_1.at 33 rfl rfl) ?_ ?_
  · exact osW.widen (k' := k124 + 20) (n' := n124 + 3312) (by omega) (by omega) (osW.sub [0, 1, 2, 3] rfl (sL_map_176 N k124 n124 hx124 c124 g124 l2 l3 l4 l5))
  · refine os_aload_n (i := 3) (q := 3) (v := l3) 1 rfl rfl (hL_map_1.at 34 rfl rfl) ?_
    refine os_iload (v := l5) 3 rfl (hL_map_1.at 35 rfl rfl) ?_
    refine os_iload (v := l5) 3 rfl (hL_map_1.at 36 rfl rfl) ?_
    refine os_iconst (i := 3) (v := (3 : Int32)) rfl (hL_map_1.at 37 rfl rfl) ?_
    refine os_iadd (hL_map_1.at 38 rfl rfl) ?_
    refine os_callS (As := [.int l5, .int (l5 + (3 : Int32))]) (st := [.ref l3]) (st' := (fun r => .ref r :: [.ref l3])) mdL_border wd981 wd982 (sL_border N l5 (l5 + (3 : Int32))) rfl rfl (fun _ => rfl) (Nat.le_of_ble_eq_true rfl) (Nat.le_of_ble_eq_true rfl) (Nat.le_of_ble_eq_true rfl) rfl (by show _ ≤ 445; omega) rfl (by show _ ≤ 128192; omega) (hL_map_1.at 39 rfl rfl) (fun x1 => ?_)
    refine os_callV (cis := [9]) (b := l3) (As := [.ref x1]) (st := []) (st' := (fun r => .ref r :: [])) sl9_J4_append_15ec4_J4_append_15ec4 mdJ4_append_15ec4 wd867 wd868 (sBJ4_append_15ec4 N l3 x1) rfl rfl (fun _ => rfl) (Nat.le_of_ble_eq_true rfl) (Nat.le_of_ble_eq_true rfl) (Nat.le_of_ble_eq_true rfl) rfl (by show _ ≤ 445; omega) rfl (by show _ ≤ 128192; omega) (hL_map_1.at 40 rfl rfl) (fun x2 => ?_)
    refine os_pop rfl (hL_map_1.at 41 rfl rfl) ?_
    exact osW.widen (k' := k124 + 20) (n' := n124 + 3312) (by omega) (by omega) (osW.sub [0, 1, 2, 3] rfl (sL_map_176 N k124 n124 hx124 c124 g124 l2 l3 l4 l5))
set_option maxRecDepth 100000 in
set_option maxHeartbeats 4000000 in
theorem tL_map_124 (N : Nat) (k124 n124 : Nat) (hx124 : k124 + 30 ≤ 431 ∧ n124 + 4968 ≤ 112588) (c124 : Int32 × Nat × Int32 × Int32 → osM Nat) (g124 : ∀ (l2 : Int32) (l3 : Nat) (l4 : Int32) (l5 : Int32), osW (osFinM (fun r : Nat => some (.ref r)) 445 128192) yL_map cL_map 7 (some (.object "java/lang/String")) [] { frames := 7, cells := 445, slots := 128192, locals := 192 } (k124 + 30) (n124 + 4968) 124 [(2, .int l2), (3, .ref l3), (4, .int l4), (5, .int l5)] [] (c124 (l2, l3, l4, l5))) (l2 : Int32) (l3 : Nat) (l4 : Int32) (l5 : Int32) : osW (osFinM (fun r : Nat => some (.ref r)) 445 128192) yL_map cL_map 7 (some (.object "java/lang/String")) [] { frames := 7, cells := 445, slots := 128192, locals := 192 } (k124) (n124) 124 [(2, .int l2), (3, .ref l3), (4, .int l4), (5, .int l5)] [] (bL_map_124 N c124 l2 l3 l4 l5) := by
  unfold bL_map_124
  refine os_iload (v := l5) 3 rfl (hL_map_1.at 13 rfl rfl) ?_
  refine os_iload (v := l4) 2 rfl (hL_map_1.at 14 rfl rfl) ?_
  refine os_icmp_ge (off := 91) (tgt := 219) rfl (hL_map_1.at 15 rfl rfl) ?_ ?_
  · refine os_iconst (i := 0) (v := (0 : Int32)) rfl (hL_map_2.at 15 rfl rfl) ?_
    refine os_istore (i := 5) (lv' := [(5, .int (0 : Int32)), (2, .int l2), (3, .ref l3), (4, .int l4)]) (Nat.le_of_ble_eq_true rfl) rfl (hL_map_2.at 16 rfl rfl) ?_
    exact osW.widen (k' := 431) (n' := 112588) (by omega) (by omega) (osW.sub [1, 2, 0] rfl (sL_map_222 N l2 l3 (0 : Int32)))
  · refine os_iload (v := l5) 3 rfl (hL_map_1.at 16 rfl rfl) ?_
    refine os_iconst (i := 3) (v := (3 : Int32)) rfl (hL_map_1.at 17 rfl rfl) ?_
    refine os_guard (fun h1 => ?_)
    refine os_irem h1 (hL_map_1.at 18 rfl rfl) ?_
    refine os_iconst (i := 2) (v := (2 : Int32)) rfl (hL_map_1.at 19 rfl rfl) ?_
    refine os_icmp_ge (off := 17) (tgt := 153) rfl (hL_map_1.at 20 rfl rfl) ?_ ?_
    · exact osW.widen (k' := k124 + 10) (n' := n124 + 1656) (by omega) (by omega) (osW.sub [0, 1, 2, 3] rfl (sL_map_153 N k124 n124 hx124 c124 g124 l2 l3 l4 l5))
    · refine os_aload_n (i := 3) (q := 3) (v := l3) 1 rfl rfl (hL_map_1.at 21 rfl rfl) ?_
      refine os_iload (v := l5) 3 rfl (hL_map_1.at 22 rfl rfl) ?_
      refine os_iload (v := l5) 3 rfl (hL_map_1.at 23 rfl rfl) ?_
      refine os_iconst (i := 1) (v := (1 : Int32)) rfl (hL_map_1.at 24 rfl rfl) ?_
      refine os_iadd (hL_map_1.at 25 rfl rfl) ?_
      refine os_callS (As := [.int l5, .int (l5 + (1 : Int32))]) (st := [.ref l3]) (st' := (fun r => .ref r :: [.ref l3])) mdL_border wd981 wd982 (sL_border N l5 (l5 + (1 : Int32))) rfl rfl (fun _ => rfl) (Nat.le_of_ble_eq_true rfl) (Nat.le_of_ble_eq_true rfl) (Nat.le_of_ble_eq_true rfl) rfl (by show _ ≤ 445; omega) rfl (by show _ ≤ 128192; omega) (hL_map_1.at 26 rfl rfl) (fun x2 => ?_)
      refine os_callV (cis := [9]) (b := l3) (As := [.ref x2]) (st := []) (st' := (fun r => .ref r :: [])) sl9_J4_append_15ec4_J4_append_15ec4 mdJ4_append_15ec4 wd867 wd868 (sBJ4_append_15ec4 N l3 x2) rfl rfl (fun _ => rfl) (Nat.le_of_ble_eq_true rfl) (Nat.le_of_ble_eq_true rfl) (Nat.le_of_ble_eq_true rfl) rfl (by show _ ≤ 445; omega) rfl (by show _ ≤ 128192; omega) (hL_map_1.at 27 rfl rfl) (fun x3 => ?_)
      refine os_pop rfl (hL_map_1.at 28 rfl rfl) ?_
      exact osW.widen (k' := k124 + 10) (n' := n124 + 1656) (by omega) (by omega) (osW.sub [0, 1, 2, 3] rfl (sL_map_153 N k124 n124 hx124 c124 g124 l2 l3 l4 l5))
set_option maxRecDepth 100000 in
set_option maxHeartbeats 4000000 in
theorem sL_map_124 (N : Nat) (l2 : Int32) (l3 : Nat) (l4 : Int32) (l5 : Int32) : osW (osFinM (fun r : Nat => some (.ref r)) 445 128192) yL_map cL_map 7 (some (.object "java/lang/String")) [] { frames := 7, cells := 445, slots := 128192, locals := 192 } (41) (48004) 124 [(2, .int l2), (3, .ref l3), (4, .int l4), (5, .int l5)] [] (qL_map_124 N (l2, l3, l4, l5)) := by
  refine osW.widen (k' := (41) + 30 * (13 - 13)) (n' := (48004) + 4968 * (13 - 13)) (by omega) (by omega) ?_
  exact osloop_K (lvf := fun p => [(2, .int p.1), (3, .ref p.2.1), (4, .int p.2.2.1), (5, .int p.2.2.2)]) (stf := fun p => []) 13 30 4968 (41) (48004) (fun f hf ih g p => tL_map_124 N ((41) + 30 * (13 - (f + 1))) ((48004) + 4968 * (13 - (f + 1))) (by omega) ih (fun l2 l3 l4 l5 => osW.widen (by omega) (by omega) (g (l2, l3, l4, l5))) p.1 p.2.1 p.2.2.1 p.2.2.2) 13 (Nat.le_refl _) (l2, l3, l4, l5)
set_option maxRecDepth 100000 in
set_option maxHeartbeats 4000000 in
theorem sL_map_111 (N : Nat) (k16 n16 : Nat) (hx16 : k16 + 3 ≤ 41 ∧ n16 + 3600 ≤ 48004) (c16 : Nat × Int32 × Nat × Int32 × Int32 → osM Nat) (g16 : ∀ (l0 : Nat) (l2 : Int32) (l3 : Nat) (l4 : Int32) (l5 : Int32), osW (osFinM (fun r : Nat => some (.ref r)) 445 128192) yL_map cL_map 7 (some (.object "java/lang/String")) [] { frames := 7, cells := 445, slots := 128192, locals := 192 } (k16 + 3) (n16 + 3600) 16 [(0, .ref l0), (2, .int l2), (3, .ref l3), (4, .int l4), (5, .int l5)] [] (c16 (l0, l2, l3, l4, l5))) (l0 : Nat) (l2 : Int32) (l3 : Nat) (l4 : Int32) (l5 : Int32) (k0 : Nat) (k1 : Nat) : osW (osFinM (fun r : Nat => some (.ref r)) 445 128192) yL_map cL_map 7 (some (.object "java/lang/String")) [] { frames := 7, cells := 445, slots := 128192, locals := 192 } (k16 + 2) (n16 + 2400) 111 [(0, .ref l0), (2, .int l2), (3, .ref l3), (4, .int l4), (5, .int l5)] [.ref k0, .ref k1] (qL_map_111 N c16 l0 l2 l3 l4 l5 k0 k1) := by
  unfold qL_map_111
  refine os_callV (cis := [9]) (b := k1) (As := [.ref k0]) (st := []) (st' := (fun r => .ref r :: [])) sl9_J4_append_15ec4_J4_append_15ec4 mdJ4_append_15ec4 wd867 wd868 (sBJ4_append_15ec4 N k1 k0) rfl rfl (fun _ => rfl) (Nat.le_of_ble_eq_true rfl) (Nat.le_of_ble_eq_true rfl) (Nat.le_of_ble_eq_true rfl) rfl (by show _ ≤ 445; omega) rfl (by show _ ≤ 128192; omega) (hL_map_1.at 7 rfl rfl) (fun x1 => ?_)
  refine os_pop rfl (hL_map_1.at 8 rfl rfl) ?_
  refine os_iinc (i := 5) (d := 1) (x := l5) (v := (1 : Int32)) (lv' := [(5, .int (l5 + (1 : Int32))), (0, .ref l0), (2, .int l2), (3, .ref l3), (4, .int l4)]) 4 rfl rfl (Nat.le_of_ble_eq_true rfl) rfl (hL_map_1.at 9 rfl rfl) ?_
  refine os_goto (off := (-102)) (tgt := 16) rfl (hL_map_1.at 10 rfl rfl) ?_
  exact osW.widen (k' := k16 + 3) (n' := n16 + 3600) (by omega) (by omega) (osW.sub [1, 2, 3, 4, 0] rfl (g16 l0 l2 l3 l4 (l5 + (1 : Int32))))
set_option maxRecDepth 100000 in
set_option maxHeartbeats 4000000 in
theorem sL_map_109 (N : Nat) (k16 n16 : Nat) (hx16 : k16 + 3 ≤ 41 ∧ n16 + 3600 ≤ 48004) (c16 : Nat × Int32 × Nat × Int32 × Int32 → osM Nat) (g16 : ∀ (l0 : Nat) (l2 : Int32) (l3 : Nat) (l4 : Int32) (l5 : Int32), osW (osFinM (fun r : Nat => some (.ref r)) 445 128192) yL_map cL_map 7 (some (.object "java/lang/String")) [] { frames := 7, cells := 445, slots := 128192, locals := 192 } (k16 + 3) (n16 + 3600) 16 [(0, .ref l0), (2, .int l2), (3, .ref l3), (4, .int l4), (5, .int l5)] [] (c16 (l0, l2, l3, l4, l5))) (l0 : Nat) (l2 : Int32) (l3 : Nat) (l4 : Int32) (l5 : Int32) (k0 : Nat) : osW (osFinM (fun r : Nat => some (.ref r)) 445 128192) yL_map cL_map 7 (some (.object "java/lang/String")) [] { frames := 7, cells := 445, slots := 128192, locals := 192 } (k16 + 2) (n16 + 2400) 109 [(0, .ref l0), (2, .int l2), (3, .ref l3), (4, .int l4), (5, .int l5)] [.ref k0] (qL_map_109 N c16 l0 l2 l3 l4 l5 k0) := by
  unfold qL_map_109
  refine os_text (j := 4) (q := ("OrderSettlerLaw", 61, ";")) rfl rfl (hL_map_1.at 6 rfl rfl) (fun x1 => ?_)
  exact osW.widen (k' := k16 + 2) (n' := n16 + 2400) (by omega) (by omega) (osW.sub [0, 1, 2, 3, 4] rfl (sL_map_111 N k16 n16 hx16 c16 g16 l0 l2 l3 l4 l5 x1 k0))
set_option maxRecDepth 100000 in
set_option maxHeartbeats 4000000 in
theorem sL_map_77 (N : Nat) (k16 n16 : Nat) (hx16 : k16 + 3 ≤ 41 ∧ n16 + 3600 ≤ 48004) (c16 : Nat × Int32 × Nat × Int32 × Int32 → osM Nat) (g16 : ∀ (l0 : Nat) (l2 : Int32) (l3 : Nat) (l4 : Int32) (l5 : Int32), osW (osFinM (fun r : Nat => some (.ref r)) 445 128192) yL_map cL_map 7 (some (.object "java/lang/String")) [] { frames := 7, cells := 445, slots := 128192, locals := 192 } (k16 + 3) (n16 + 3600) 16 [(0, .ref l0), (2, .int l2), (3, .ref l3), (4, .int l4), (5, .int l5)] [] (c16 (l0, l2, l3, l4, l5))) (l0 : Nat) (l2 : Int32) (l3 : Nat) (l4 : Int32) (l5 : Int32) (l6 : Int32) (k0 : Nat) (k1 : Nat) : osW (osFinM (fun r : Nat => some (.ref r)) 445 128192) yL_map cL_map 7 (some (.object "java/lang/String")) [] { frames := 7, cells := 445, slots := 128192, locals := 192 } (k16) (n16) 77 [(0, .ref l0), (2, .int l2), (3, .ref l3), (4, .int l4), (5, .int l5), (6, .int l6)] [.ref k0, .ref k1] (qL_map_77 N c16 l0 l2 l3 l4 l5 l6 k0 k1) := by
  unfold qL_map_77
  refine os_callV (cis := [9]) (b := k1) (As := [.ref k0]) (st := []) (st' := (fun r => .ref r :: [])) sl9_J4_append_15ec4_J4_append_15ec4 mdJ4_append_15ec4 wd867 wd868 (sBJ4_append_15ec4 N k1 k0) rfl rfl (fun _ => rfl) (Nat.le_of_ble_eq_true rfl) (Nat.le_of_ble_eq_true rfl) (Nat.le_of_ble_eq_true rfl) rfl (by show _ ≤ 445; omega) rfl (by show _ ≤ 128192; omega) (hL_map_0.at 40 rfl rfl) (fun x1 => ?_)
  refine os_bipush (i := 97) (v := (97 : Int32)) rfl (hL_map_0.at 41 rfl rfl) ?_
  refine os_iload (v := l5) 4 rfl (hL_map_0.at 42 rfl rfl) ?_
  refine os_iadd (hL_map_0.at 43 rfl rfl) ?_
  refine os_i2c (hL_map_0.at 44 rfl rfl) ?_
  refine os_callV (cis := [9]) (b := x1) (As := [.int ((((97 : Int32) + l5).toUInt32 % 65536).toInt32)]) (st := []) (st' := (fun r => .ref r :: [])) sl9_J4_append_cf468_J4_append_cf468 mdJ4_append_cf468 wd966 wd967 (sBJ4_append_cf468 N x1 ((((97 : Int32) + l5).toUInt32 % 65536).toInt32)) rfl rfl (fun _ => rfl) (Nat.le_of_ble_eq_true rfl) (Nat.le_of_ble_eq_true rfl) (Nat.le_of_ble_eq_true rfl) rfl (by show _ ≤ 445; omega) rfl (by show _ ≤ 128192; omega) (hL_map_0.at 45 rfl rfl) (fun x2 => ?_)
  refine os_iload (v := l6) 5 rfl (hL_map_0.at 46 rfl rfl) ?_
  refine os_iconst (i := 2) (v := (2 : Int32)) rfl (hL_map_0.at 47 rfl rfl) ?_
  refine os_icmp_eq (off := 17) (tgt := 109) rfl (hL_map_0.at 48 rfl rfl) ?_ ?_
  · exact osW.widen (k' := k16 + 2) (n' := n16 + 2400) (by omega) (by omega) (osW.sub [0, 1, 2, 3, 4] rfl (sL_map_109 N k16 n16 hx16 c16 g16 l0 l2 l3 l4 l5 x2))
  · refine os_aload_n (i := 0) (q := 0) (v := l0) 0 rfl rfl (hL_map_0.at 49 rfl rfl) ?_
    refine os_callS (As := [.ref l0]) (st := [.ref x2]) (st' := (fun r => .int r :: [.ref x2])) mdL_next wd484 wd485 (sL_next N l0) rfl rfl (fun _ => rfl) (Nat.le_of_ble_eq_true rfl) (Nat.le_of_ble_eq_true rfl) (Nat.le_of_ble_eq_true rfl) rfl (by show _ ≤ 445; omega) rfl (by show _ ≤ 128192; omega) (hL_map_1.at 0 rfl rfl) (fun x3 => ?_)
    refine os_iconst (i := 2) (v := (2 : Int32)) rfl (hL_map_1.at 1 rfl rfl) ?_
    refine os_guard (fun h4 => ?_)
    refine os_irem h4 (hL_map_1.at 2 rfl rfl) ?_
    refine os_if_ne (off := 8) (tgt := 109) rfl (hL_map_1.at 3 rfl rfl) ?_ ?_
    · exact osW.widen (k' := k16 + 2) (n' := n16 + 2400) (by omega) (by omega) (osW.sub [0, 1, 2, 3, 4] rfl (sL_map_109 N k16 n16 hx16 c16 g16 l0 l2 l3 l4 l5 x2))
    · refine os_text (j := 3) (q := ("OrderSettlerLaw", 59, " center;")) rfl rfl (hL_map_1.at 4 rfl rfl) (fun x5 => ?_)
      refine os_goto (off := 5) (tgt := 111) rfl (hL_map_1.at 5 rfl rfl) ?_
      exact osW.widen (k' := k16 + 2) (n' := n16 + 2400) (by omega) (by omega) (osW.sub [0, 1, 2, 3, 4] rfl (sL_map_111 N k16 n16 hx16 c16 g16 l0 l2 l3 l4 l5 x5 x2))
set_option maxRecDepth 100000 in
set_option maxHeartbeats 4000000 in
theorem sL_map_50 (N : Nat) (k16 n16 : Nat) (hx16 : k16 + 3 ≤ 41 ∧ n16 + 3600 ≤ 48004) (c16 : Nat × Int32 × Nat × Int32 × Int32 → osM Nat) (g16 : ∀ (l0 : Nat) (l2 : Int32) (l3 : Nat) (l4 : Int32) (l5 : Int32), osW (osFinM (fun r : Nat => some (.ref r)) 445 128192) yL_map cL_map 7 (some (.object "java/lang/String")) [] { frames := 7, cells := 445, slots := 128192, locals := 192 } (k16 + 3) (n16 + 3600) 16 [(0, .ref l0), (2, .int l2), (3, .ref l3), (4, .int l4), (5, .int l5)] [] (c16 (l0, l2, l3, l4, l5))) (l0 : Nat) (l2 : Int32) (l3 : Nat) (l4 : Int32) (l5 : Int32) (k0 : Int32) : osW (osFinM (fun r : Nat => some (.ref r)) 445 128192) yL_map cL_map 7 (some (.object "java/lang/String")) [] { frames := 7, cells := 445, slots := 128192, locals := 192 } (k16) (n16) 50 [(0, .ref l0), (2, .int l2), (3, .ref l3), (4, .int l4), (5, .int l5)] [.int k0] (qL_map_50 N c16 l0 l2 l3 l4 l5 k0) := by
  unfold qL_map_50
  refine os_istore (i := 6) (lv' := [(6, .int k0), (0, .ref l0), (2, .int l2), (3, .ref l3), (4, .int l4), (5, .int l5)]) (Nat.le_of_ble_eq_true rfl) rfl (hL_map_0.at 27 rfl rfl) ?_
  refine os_aload_n (i := 3) (q := 3) (v := l3) 3 rfl rfl (hL_map_0.at 28 rfl rfl) ?_
  refine os_iload (v := k0) 0 rfl (hL_map_0.at 29 rfl rfl) ?_
  refine os_iconst (i := 2) (v := (2 : Int32)) rfl (hL_map_0.at 30 rfl rfl) ?_
  refine os_icmp_ne (off := 8) (tgt := 64) rfl (hL_map_0.at 31 rfl rfl) ?_ ?_
  · refine os_iload (v := k0) 0 rfl (hL_map_0.at 34 rfl rfl) ?_
    refine os_iconst (i := 1) (v := (1 : Int32)) rfl (hL_map_0.at 35 rfl rfl) ?_
    refine os_icmp_ne (off := 8) (tgt := 75) rfl (hL_map_0.at 36 rfl rfl) ?_ ?_
    · refine os_text (j := 2) (q := ("OrderSettlerLaw", 50, "land ")) rfl rfl (hL_map_0.at 39 rfl rfl) (fun x1 => ?_)
      exact osW.widen (k' := k16) (n' := n16) (by omega) (by omega) (osW.sub [1, 2, 3, 4, 5, 0] rfl (sL_map_77 N k16 n16 hx16 c16 g16 l0 l2 l3 l4 l5 k0 x1 l3))
    · refine os_text (j := 1) (q := ("OrderSettlerLaw", 48, "coast ")) rfl rfl (hL_map_0.at 37 rfl rfl) (fun x2 => ?_)
      refine os_goto (off := 5) (tgt := 77) rfl (hL_map_0.at 38 rfl rfl) ?_
      exact osW.widen (k' := k16) (n' := n16) (by omega) (by omega) (osW.sub [1, 2, 3, 4, 5, 0] rfl (sL_map_77 N k16 n16 hx16 c16 g16 l0 l2 l3 l4 l5 k0 x2 l3))
  · refine os_text (j := 0) (q := ("OrderSettlerLaw", 46, "sea ")) rfl rfl (hL_map_0.at 32 rfl rfl) (fun x3 => ?_)
    refine os_goto (off := 16) (tgt := 77) rfl (hL_map_0.at 33 rfl rfl) ?_
    exact osW.widen (k' := k16) (n' := n16) (by omega) (by omega) (osW.sub [1, 2, 3, 4, 5, 0] rfl (sL_map_77 N k16 n16 hx16 c16 g16 l0 l2 l3 l4 l5 k0 x3 l3))
set_option maxRecDepth 100000 in
set_option maxHeartbeats 4000000 in
theorem tL_map_16 (N : Nat) (k16 n16 : Nat) (hx16 : k16 + 3 ≤ 41 ∧ n16 + 3600 ≤ 48004) (c16 : Nat × Int32 × Nat × Int32 × Int32 → osM Nat) (g16 : ∀ (l0 : Nat) (l2 : Int32) (l3 : Nat) (l4 : Int32) (l5 : Int32), osW (osFinM (fun r : Nat => some (.ref r)) 445 128192) yL_map cL_map 7 (some (.object "java/lang/String")) [] { frames := 7, cells := 445, slots := 128192, locals := 192 } (k16 + 3) (n16 + 3600) 16 [(0, .ref l0), (2, .int l2), (3, .ref l3), (4, .int l4), (5, .int l5)] [] (c16 (l0, l2, l3, l4, l5))) (l0 : Nat) (l2 : Int32) (l3 : Nat) (l4 : Int32) (l5 : Int32) : osW (osFinM (fun r : Nat => some (.ref r)) 445 128192) yL_map cL_map 7 (some (.object "java/lang/String")) [] { frames := 7, cells := 445, slots := 128192, locals := 192 } (k16) (n16) 16 [(0, .ref l0), (2, .int l2), (3, .ref l3), (4, .int l4), (5, .int l5)] [] (bL_map_16 N c16 l0 l2 l3 l4 l5) := by
  unfold bL_map_16
  refine os_iload (v := l5) 4 rfl (hL_map_0.at 10 rfl rfl) ?_
  refine os_iload (v := l4) 3 rfl (hL_map_0.at 11 rfl rfl) ?_
  refine os_icmp_ge (off := 101) (tgt := 121) rfl (hL_map_0.at 12 rfl rfl) ?_ ?_
  · refine os_iconst (i := 0) (v := (0 : Int32)) rfl (hL_map_1.at 11 rfl rfl) ?_
    refine os_istore (i := 5) (lv' := [(5, .int (0 : Int32)), (0, .ref l0), (2, .int l2), (3, .ref l3), (4, .int l4)]) (Nat.le_of_ble_eq_true rfl) rfl (hL_map_1.at 12 rfl rfl) ?_
    exact osW.widen (k' := 41) (n' := 48004) (by omega) (by omega) (osW.sub [2, 3, 4, 0] rfl (sL_map_124 N l2 l3 l4 (0 : Int32)))
  · refine os_iload (v := l5) 4 rfl (hL_map_0.at 13 rfl rfl) ?_
    refine os_iconst (i := 3) (v := (3 : Int32)) rfl (hL_map_0.at 14 rfl rfl) ?_
    refine os_icmp_ge (off := 7) (tgt := 33) rfl (hL_map_0.at 15 rfl rfl) ?_ ?_
    · refine os_iload (v := l5) 4 rfl (hL_map_0.at 18 rfl rfl) ?_
      refine os_bipush (i := 6) (v := (6 : Int32)) rfl (hL_map_0.at 19 rfl rfl) ?_
      refine os_icmp_ge (off := 7) (tgt := 44) rfl (hL_map_0.at 20 rfl rfl) ?_ ?_
      · refine os_aload_n (i := 0) (q := 0) (v := l0) 0 rfl rfl (hL_map_0.at 23 rfl rfl) ?_
        refine os_callS (As := [.ref l0]) (st := []) (st' := (fun r => .int r :: [])) mdL_next wd484 wd485 (sL_next N l0) rfl rfl (fun _ => rfl) (Nat.le_of_ble_eq_true rfl) (Nat.le_of_ble_eq_true rfl) (Nat.le_of_ble_eq_true rfl) rfl (by show _ ≤ 445; omega) rfl (by show _ ≤ 128192; omega) (hL_map_0.at 24 rfl rfl) (fun x1 => ?_)
        refine os_iconst (i := 2) (v := (2 : Int32)) rfl (hL_map_0.at 25 rfl rfl) ?_
        refine os_guard (fun h2 => ?_)
        refine os_irem h2 (hL_map_0.at 26 rfl rfl) ?_
        exact osW.widen (k' := k16) (n' := n16) (by omega) (by omega) (osW.sub [0, 1, 2, 3, 4] rfl (sL_map_50 N k16 n16 hx16 c16 g16 l0 l2 l3 l4 l5 (x1 - x1 / (2 : Int32) * (2 : Int32))))
      · refine os_iconst (i := 1) (v := (1 : Int32)) rfl (hL_map_0.at 21 rfl rfl) ?_
        refine os_goto (off := 9) (tgt := 50) rfl (hL_map_0.at 22 rfl rfl) ?_
        exact osW.widen (k' := k16) (n' := n16) (by omega) (by omega) (osW.sub [0, 1, 2, 3, 4] rfl (sL_map_50 N k16 n16 hx16 c16 g16 l0 l2 l3 l4 l5 (1 : Int32)))
    · refine os_iconst (i := 2) (v := (2 : Int32)) rfl (hL_map_0.at 16 rfl rfl) ?_
      refine os_goto (off := 20) (tgt := 50) rfl (hL_map_0.at 17 rfl rfl) ?_
      exact osW.widen (k' := k16) (n' := n16) (by omega) (by omega) (osW.sub [0, 1, 2, 3, 4] rfl (sL_map_50 N k16 n16 hx16 c16 g16 l0 l2 l3 l4 l5 (2 : Int32)))
set_option maxRecDepth 100000 in
set_option maxHeartbeats 4000000 in
theorem sL_map_16 (N : Nat) (l0 : Nat) (l2 : Int32) (l3 : Nat) (l4 : Int32) (l5 : Int32) : osW (osFinM (fun r : Nat => some (.ref r)) 445 128192) yL_map cL_map 7 (some (.object "java/lang/String")) [] { frames := 7, cells := 445, slots := 128192, locals := 192 } (2) (1204) 16 [(0, .ref l0), (2, .int l2), (3, .ref l3), (4, .int l4), (5, .int l5)] [] (qL_map_16 N (l0, l2, l3, l4, l5)) := by
  refine osW.widen (k' := (2) + 3 * (13 - 13)) (n' := (1204) + 3600 * (13 - 13)) (by omega) (by omega) ?_
  exact osloop_K (lvf := fun p => [(0, .ref p.1), (2, .int p.2.1), (3, .ref p.2.2.1), (4, .int p.2.2.2.1), (5, .int p.2.2.2.2)]) (stf := fun p => []) 13 3 3600 (2) (1204) (fun f hf ih g p => tL_map_16 N ((2) + 3 * (13 - (f + 1))) ((1204) + 3600 * (13 - (f + 1))) (by omega) ih (fun l0 l2 l3 l4 l5 => osW.widen (by omega) (by omega) (g (l0, l2, l3, l4, l5))) p.1 p.2.1 p.2.2.1 p.2.2.2.1 p.2.2.2.2) 13 (Nat.le_refl _) (l0, l2, l3, l4, l5)
set_option maxRecDepth 100000 in
set_option maxHeartbeats 4000000 in
theorem sL_map (N : Nat) (l0 : Nat) (l1 : Int32) (l2 : Int32) : osMet yL_map cL_map 7 (some (.object "java/lang/String")) 7 192 445 128192 (fun r : Nat => some (.ref r)) [.ref l0, .int l1, .int l2] (qL_map N l0 l1 l2) := by
  refine osMet.of plL (Nat.le_of_ble_eq_true rfl) (osW.rw (lv2 := [(0, .ref l0), (1, .int l1), (2, .int l2)]) ?_ rfl rfl rfl)
  unfold qL_map
  refine os_new (C := RJ4) (T := TJ4) (N := 4) (ci := 9) (ty0 := tyJ4) rfl tyJ4_ok osinJ4 wd834 wd835 wd64 dfJ4 (by show _ ≤ 445; omega) (by show _ ≤ 128192; omega) (hL_map_0.at 0 rfl rfl) (fun x1 => ?_)
  refine os_dup rfl (hL_map_0.at 1 rfl rfl) ?_
  refine os_callI (b := x1) (As := []) (st := [.ref x1]) (st' := (fun _ => [.ref x1])) mdJ4_init_da8c8 rfl wd836 wd837 (sBJ4_init_da8c8 N x1 ) rfl rfl (fun _ => rfl) (Nat.le_of_ble_eq_true rfl) (Nat.le_of_ble_eq_true rfl) (Nat.le_of_ble_eq_true rfl) rfl (by show _ ≤ 445; omega) rfl (by show _ ≤ 128192; omega) (hL_map_0.at 2 rfl rfl) (fun _ => ?_)
  refine os_astore_n (i := 3) (q := 3) rfl (lv' := [(3, .ref x1), (0, .ref l0), (1, .int l1), (2, .int l2)]) (Nat.le_of_ble_eq_true rfl) rfl (hL_map_0.at 3 rfl rfl) ?_
  refine os_iconst (i := 3) (v := (3 : Int32)) rfl (hL_map_0.at 4 rfl rfl) ?_
  refine os_iload_n (i := 1) (q := 1) (v := l1) 2 rfl rfl (hL_map_0.at 5 rfl rfl) ?_
  refine os_imul (hL_map_0.at 6 rfl rfl) ?_
  refine os_istore (i := 4) (lv' := [(4, .int ((3 : Int32) * l1)), (3, .ref x1), (0, .ref l0), (1, .int l1), (2, .int l2)]) (Nat.le_of_ble_eq_true rfl) rfl (hL_map_0.at 7 rfl rfl) ?_
  refine os_iconst (i := 0) (v := (0 : Int32)) rfl (hL_map_0.at 8 rfl rfl) ?_
  refine os_istore (i := 5) (lv' := [(5, .int (0 : Int32)), (4, .int ((3 : Int32) * l1)), (3, .ref x1), (0, .ref l0), (1, .int l1), (2, .int l2)]) (Nat.le_of_ble_eq_true rfl) rfl (hL_map_0.at 9 rfl rfl) ?_
  exact osW.widen (k' := 2) (n' := 1204) (by omega) (by omega) (osW.sub [3, 5, 2, 1, 0] rfl (sL_map_16 N l0 l2 x1 ((3 : Int32) * l1) (0 : Int32)))
-- L_may
def KL_may : List (Nat × Nat × Instr) := [(0, 1, .aload_n 0), (1, 1, .iload_n 1), (2, 1, .iload_n 2), (3, 3, .invokevirtual 103), (6, 1, .ireturn), (7, 1, .astore_n 3), (8, 1, .iconst 0), (9, 1, .ireturn)]
theorem hL_may : osDs cL_may KL_may := by
  show ∀ q ∈ KL_may, decode cL_may q.1 = .ok (q.2.2, q.2.1)
  decide +kernel
def qL_may (N : Nat) (l0 : Nat) (l1 : Int32) (l2 : Int32) : osM Int32 := osbindC (osrecv [7] l0 (qX9_mayRetreat N l0 l1 l2)) (oshand [(2, (0 : Int32))]) fun x1 => osretZ x1
set_option maxRecDepth 100000 in
set_option maxHeartbeats 4000000 in
theorem sL_may_7 (N : Nat) (v0 : Nat) (v1 : Int32) (v2 : Int32) (q : Nat) : osW (osFinM (fun r : Int32 => some (.int r)) 3 18) yL_may cL_may 4 (some .boolean) [(0, 6, 7, 107)] { frames := 8, cells := 3, slots := 18, locals := 133 } 3 18 7 [(0, .ref v0), (1, .int v1), (2, .int v2)] [.ref q] (osret (0 : Int32)) := by
  refine os_astore_n (i := 3) (q := 3) rfl (lv' := [(3, .ref q), (0, .ref v0), (1, .int v1), (2, .int v2)]) (Nat.le_of_ble_eq_true rfl) rfl (hL_may.at 5 rfl rfl) ?_
  refine os_iconst (i := 0) (v := (0 : Int32)) rfl (hL_may.at 6 rfl rfl) ?_
  exact os_zretC (by decide) (Nat.le_of_ble_eq_true rfl) (Nat.le_of_ble_eq_true rfl) (hL_may.at 7 rfl rfl).1
set_option maxRecDepth 100000 in
set_option maxHeartbeats 4000000 in
theorem sL_may (N : Nat) (l0 : Nat) (l1 : Int32) (l2 : Int32) : osMetH yL_may cL_may 4 (some .boolean) [(0, 6, 7, 107)] 8 133 3 18 (fun r : Int32 => some (.int r)) [.ref l0, .int l1, .int l2] (qL_may N l0 l1 l2) := by
  refine osMetH.of plL (Nat.le_of_ble_eq_true rfl) (osW.rw (lv2 := [(0, .ref l0), (1, .int l1), (2, .int l2)]) ?_ rfl rfl rfl)
  unfold qL_may
  refine os_aload_n (i := 0) (q := 0) (v := l0) 0 rfl rfl (hL_may.at 0 rfl rfl) ?_
  refine os_iload_n (i := 1) (q := 1) (v := l1) 1 rfl rfl (hL_may.at 1 rfl rfl) ?_
  refine os_iload_n (i := 2) (q := 2) (v := l2) 2 rfl rfl (hL_may.at 2 rfl rfl) ?_
  refine os_callVC (cis := [7]) (L := [(2, (0, 6, 7, 107))]) (h0 := (oshand [(2, (0 : Int32))])) (b := l0) (As := [.int l1, .int l2]) (st := []) (st' := (fun r => .int r :: [])) rfl rfl (List.forall_mem_cons.mpr ⟨⟨by decide, by decide, "java/util/NoSuchElementException", rfl, wd1454, wd1063⟩, fun _ h => absurd h List.not_mem_nil⟩) (oshand_no2 _ rfl) sl7_X9_mayRetreat_X9_mayRetreat mdX9_mayRetreat wd1455 wd1456 (sX9_mayRetreat N l0 l1 l2) rfl rfl (fun _ => rfl) (Nat.le_of_ble_eq_true rfl) (Nat.le_of_ble_eq_true rfl) (Nat.le_of_ble_eq_true rfl) rfl (by show _ ≤ 3; omega) rfl (by show _ ≤ 18; omega) (hL_may.at 3 rfl rfl) (fun x1 => ?_) (List.forall_mem_cons.mpr ⟨fun q => osW.toF (F9 := osret (0 : Int32)) rfl (sL_may_7 N l0 l1 l2 q), fun _ h => absurd h List.not_mem_nil⟩)
  exact os_zret (by omega) (by omega) (hL_may.at 4 rfl rfl).1
-- L_undone
def KL_undone : List (Nat × Nat × Instr) := [(0, 1, .aload_n 0), (1, 3, .invokevirtual 109), (4, 1, .ireturn), (5, 1, .astore_n 1), (6, 1, .iconst (-1)), (7, 1, .ireturn)]
theorem hL_undone : osDs cL_undone KL_undone := by
  show ∀ q ∈ KL_undone, decode cL_undone q.1 = .ok (q.2.2, q.2.1)
  decide +kernel
def qL_undone (N : Nat) (l0 : Nat) : osM Int32 := osbindC (osrecv [7] l0 (qX9_undo N l0)) (oshand [(0, (-1 : Int32))]) fun x1 => osret x1
set_option maxRecDepth 100000 in
set_option maxHeartbeats 4000000 in
theorem sL_undone_5 (N : Nat) (v0 : Nat) (q : Nat) : osW (osFinM (fun r : Int32 => some (.int r)) 1 6) yL_undone cL_undone 2 (some .int) [(0, 4, 5, 34)] { frames := 7, cells := 1, slots := 6, locals := 122 } 1 6 5 [(0, .ref v0)] [.ref q] (osret (-1 : Int32)) := by
  refine os_astore_n (i := 1) (q := 1) rfl (lv' := [(1, .ref q), (0, .ref v0)]) (Nat.le_of_ble_eq_true rfl) rfl (hL_undone.at 3 rfl rfl) ?_
  refine os_iconst (i := (-1)) (v := (-1 : Int32)) rfl (hL_undone.at 4 rfl rfl) ?_
  exact os_iret (Nat.le_of_ble_eq_true rfl) (Nat.le_of_ble_eq_true rfl) (hL_undone.at 5 rfl rfl).1
set_option maxRecDepth 100000 in
set_option maxHeartbeats 4000000 in
theorem sL_undone (N : Nat) (l0 : Nat) : osMetH yL_undone cL_undone 2 (some .int) [(0, 4, 5, 34)] 7 122 1 6 (fun r : Int32 => some (.int r)) [.ref l0] (qL_undone N l0) := by
  refine osMetH.of plL (Nat.le_of_ble_eq_true rfl) (osW.rw (lv2 := [(0, .ref l0)]) ?_ rfl rfl rfl)
  unfold qL_undone
  refine os_aload_n (i := 0) (q := 0) (v := l0) 0 rfl rfl (hL_undone.at 0 rfl rfl) ?_
  refine os_callVC (cis := [7]) (L := [(0, (0, 4, 5, 34))]) (h0 := (oshand [(0, (-1 : Int32))])) (b := l0) (As := []) (st := []) (st' := (fun r => .int r :: [])) rfl rfl (List.forall_mem_cons.mpr ⟨⟨by decide, by decide, "java/lang/IllegalStateException", rfl, wd491, wd549⟩, fun _ h => absurd h List.not_mem_nil⟩) (oshand_no2 _ rfl) sl7_X9_undo_X9_undo mdX9_undo wd1443 wd1444 (sX9_undo N l0 ) rfl rfl (fun _ => rfl) (Nat.le_of_ble_eq_true rfl) (Nat.le_of_ble_eq_true rfl) (Nat.le_of_ble_eq_true rfl) rfl (by show _ ≤ 1; omega) rfl (by show _ ≤ 6; omega) (hL_undone.at 1 rfl rfl) (fun x1 => ?_) (List.forall_mem_cons.mpr ⟨fun q => osW.toF (F9 := osret (-1 : Int32)) rfl (sL_undone_5 N l0 q), fun _ h => absurd h List.not_mem_nil⟩)
  exact os_iret (by omega) (by omega) (hL_undone.at 2 rfl rfl).1
-- L_units_
def KL_units_ : List (Nat × Nat × Instr) := [(0, 1, .iconst 0), (1, 1, .istore_n 1), (2, 1, .iconst 0), (3, 1, .istore_n 2), (4, 1, .iload_n 2), (5, 1, .aload_n 0), (6, 3, .invokevirtual 89), (9, 3, .if_icmp .ge 27), (12, 1, .iload_n 1), (13, 1, .aload_n 0), (14, 1, .iload_n 2), (15, 1, .iconst 4), (16, 3, .invokevirtual 92), (19, 1, .iconst (-1)), (20, 3, .if_icmp .eq 7), (23, 1, .iconst 1), (24, 3, .goto 4), (27, 1, .iconst 0), (28, 1, .iadd), (29, 1, .istore_n 1), (30, 3, .iinc 2 1), (33, 3, .goto (-29)), (36, 1, .iload_n 1), (37, 1, .ireturn)]
theorem hL_units_ : osDs cL_units_ KL_units_ := by
  show ∀ q ∈ KL_units_, decode cL_units_ q.1 = .ok (q.2.2, q.2.1)
  decide +kernel
def qL_units__28 (N : Nat) (c4 : Nat × Int32 × Int32 → osM Int32) (l0 : Nat) (l2 : Int32) (k0 : Int32) (k1 : Int32) : osM Int32 := c4 (l0, (k1 + k0), (l2 + (1 : Int32)))
def bL_units__4 (N : Nat) (c4 : Nat × Int32 × Int32 → osM Int32) (l0 : Nat) (l1 : Int32) (l2 : Int32) : osM Int32 := osbind (osrecv [7] l0 (qX9_areas N l0)) fun x1 => osite (x1 ≤ l2) (osret l1) (osbind (osrecv [7] l0 (osRV (qX9_area N l0 l2 (4 : Int32)))) fun x2 => osite (x2 = (-1 : Int32)) (qL_units__28 N c4 l0 l2 (0 : Int32) l1) (qL_units__28 N c4 l0 l2 (1 : Int32) l1))
def qL_units__4 (N : Nat) : Nat × Int32 × Int32 → osM Int32 := osloop (fun ih p => bL_units__4 N ih p.1 p.2.1 p.2.2) 13
def qL_units_ (N : Nat) (l0 : Nat) : osM Int32 := qL_units__4 N (l0, (0 : Int32), (0 : Int32))
set_option maxRecDepth 100000 in
set_option maxHeartbeats 4000000 in
theorem sL_units__28 (N : Nat) (k4 n4 : Nat) (hx4 : k4 + 2 ≤ 26 ∧ n4 + 12 ≤ 156) (c4 : Nat × Int32 × Int32 → osM Int32) (g4 : ∀ (l0 : Nat) (l1 : Int32) (l2 : Int32), osW (osFinM (fun r : Int32 => some (.int r)) 26 156) yL_units_ cL_units_ 3 (some .int) [] { frames := 8, cells := 26, slots := 156, locals := 134 } (k4 + 2) (n4 + 12) 4 [(0, .ref l0), (1, .int l1), (2, .int l2)] [] (c4 (l0, l1, l2))) (l0 : Nat) (l2 : Int32) (k0 : Int32) (k1 : Int32) : osW (osFinM (fun r : Int32 => some (.int r)) 26 156) yL_units_ cL_units_ 3 (some .int) [] { frames := 8, cells := 26, slots := 156, locals := 134 } (k4 + 2) (n4 + 12) 28 [(0, .ref l0), (2, .int l2)] [.int k0, .int k1] (qL_units__28 N c4 l0 l2 k0 k1) := by
  unfold qL_units__28
  refine os_iadd (hL_units_.at 18 rfl rfl) ?_
  refine os_istore_n (i := 1) (q := 1) rfl (lv' := [(1, .int (k1 + k0)), (0, .ref l0), (2, .int l2)]) (Nat.le_of_ble_eq_true rfl) rfl (hL_units_.at 19 rfl rfl) ?_
  refine os_iinc (i := 2) (d := 1) (x := l2) (v := (1 : Int32)) (lv' := [(2, .int (l2 + (1 : Int32))), (1, .int (k1 + k0)), (0, .ref l0)]) 2 rfl rfl (Nat.le_of_ble_eq_true rfl) rfl (hL_units_.at 20 rfl rfl) ?_
  refine os_goto (off := (-29)) (tgt := 4) rfl (hL_units_.at 21 rfl rfl) ?_
  exact osW.widen (k' := k4 + 2) (n' := n4 + 12) (by omega) (by omega) (osW.sub [2, 1, 0] rfl (g4 l0 (k1 + k0) (l2 + (1 : Int32))))
set_option maxRecDepth 100000 in
set_option maxHeartbeats 4000000 in
theorem tL_units__4 (N : Nat) (k4 n4 : Nat) (hx4 : k4 + 2 ≤ 26 ∧ n4 + 12 ≤ 156) (c4 : Nat × Int32 × Int32 → osM Int32) (g4 : ∀ (l0 : Nat) (l1 : Int32) (l2 : Int32), osW (osFinM (fun r : Int32 => some (.int r)) 26 156) yL_units_ cL_units_ 3 (some .int) [] { frames := 8, cells := 26, slots := 156, locals := 134 } (k4 + 2) (n4 + 12) 4 [(0, .ref l0), (1, .int l1), (2, .int l2)] [] (c4 (l0, l1, l2))) (l0 : Nat) (l1 : Int32) (l2 : Int32) : osW (osFinM (fun r : Int32 => some (.int r)) 26 156) yL_units_ cL_units_ 3 (some .int) [] { frames := 8, cells := 26, slots := 156, locals := 134 } (k4) (n4) 4 [(0, .ref l0), (1, .int l1), (2, .int l2)] [] (bL_units__4 N c4 l0 l1 l2) := by
  unfold bL_units__4
  refine os_iload_n (i := 2) (q := 2) (v := l2) 2 rfl rfl (hL_units_.at 4 rfl rfl) ?_
  refine os_aload_n (i := 0) (q := 0) (v := l0) 0 rfl rfl (hL_units_.at 5 rfl rfl) ?_
  refine os_callV (cis := [7]) (b := l0) (As := []) (st := [.int l2]) (st' := (fun r => .int r :: [.int l2])) sl7_X9_areas_X9_areas mdX9_areas wd472 wd473 (sX9_areas N l0 ) rfl rfl (fun _ => rfl) (Nat.le_of_ble_eq_true rfl) (Nat.le_of_ble_eq_true rfl) (Nat.le_of_ble_eq_true rfl) rfl (by show _ ≤ 26; omega) rfl (by show _ ≤ 156; omega) (hL_units_.at 6 rfl rfl) (fun x1 => ?_)
  refine os_icmp_ge (off := 27) (tgt := 36) rfl (hL_units_.at 7 rfl rfl) ?_ ?_
  · refine os_iload_n (i := 1) (q := 1) (v := l1) 1 rfl rfl (hL_units_.at 22 rfl rfl) ?_
    exact os_iret (by omega) (by omega) (hL_units_.at 23 rfl rfl).1
  · refine os_iload_n (i := 1) (q := 1) (v := l1) 1 rfl rfl (hL_units_.at 8 rfl rfl) ?_
    refine os_aload_n (i := 0) (q := 0) (v := l0) 0 rfl rfl (hL_units_.at 9 rfl rfl) ?_
    refine os_iload_n (i := 2) (q := 2) (v := l2) 2 rfl rfl (hL_units_.at 10 rfl rfl) ?_
    refine os_iconst (i := 4) (v := (4 : Int32)) rfl (hL_units_.at 11 rfl rfl) ?_
    refine os_callV (cis := [7]) (b := l0) (As := [.int l2, .int (4 : Int32)]) (st := [.int l1]) (st' := (fun r => .int r :: [.int l1])) sl7_X9_area_X9_area mdX9_area wd1052 wd1053 (osMetT.sure (sX9_area N l0 l2 (4 : Int32))) rfl rfl (fun _ => rfl) (Nat.le_of_ble_eq_true rfl) (Nat.le_of_ble_eq_true rfl) (Nat.le_of_ble_eq_true rfl) rfl (by show _ ≤ 26; omega) rfl (by show _ ≤ 156; omega) (hL_units_.at 12 rfl rfl) (fun x2 => ?_)
    refine os_iconst (i := (-1)) (v := (-1 : Int32)) rfl (hL_units_.at 13 rfl rfl) ?_
    refine os_icmp_eq (off := 7) (tgt := 27) rfl (hL_units_.at 14 rfl rfl) ?_ ?_
    · refine os_iconst (i := 0) (v := (0 : Int32)) rfl (hL_units_.at 17 rfl rfl) ?_
      exact osW.widen (k' := k4 + 2) (n' := n4 + 12) (by omega) (by omega) (osW.sub [0, 2] rfl (sL_units__28 N k4 n4 hx4 c4 g4 l0 l2 (0 : Int32) l1))
    · refine os_iconst (i := 1) (v := (1 : Int32)) rfl (hL_units_.at 15 rfl rfl) ?_
      refine os_goto (off := 4) (tgt := 28) rfl (hL_units_.at 16 rfl rfl) ?_
      exact osW.widen (k' := k4 + 2) (n' := n4 + 12) (by omega) (by omega) (osW.sub [0, 2] rfl (sL_units__28 N k4 n4 hx4 c4 g4 l0 l2 (1 : Int32) l1))
set_option maxRecDepth 100000 in
set_option maxHeartbeats 4000000 in
theorem sL_units__4 (N : Nat) (l0 : Nat) (l1 : Int32) (l2 : Int32) : osW (osFinM (fun r : Int32 => some (.int r)) 26 156) yL_units_ cL_units_ 3 (some .int) [] { frames := 8, cells := 26, slots := 156, locals := 134 } (0) (0) 4 [(0, .ref l0), (1, .int l1), (2, .int l2)] [] (qL_units__4 N (l0, l1, l2)) := by
  refine osW.widen (k' := (0) + 2 * (13 - 13)) (n' := (0) + 12 * (13 - 13)) (by omega) (by omega) ?_
  exact osloop_K (lvf := fun p => [(0, .ref p.1), (1, .int p.2.1), (2, .int p.2.2)]) (stf := fun p => []) 13 2 12 (0) (0) (fun f hf ih g p => tL_units__4 N ((0) + 2 * (13 - (f + 1))) ((0) + 12 * (13 - (f + 1))) (by omega) ih (fun l0 l1 l2 => osW.widen (by omega) (by omega) (g (l0, l1, l2))) p.1 p.2.1 p.2.2) 13 (Nat.le_refl _) (l0, l1, l2)
set_option maxRecDepth 100000 in
set_option maxHeartbeats 4000000 in
theorem sL_units_ (N : Nat) (l0 : Nat) : osMet yL_units_ cL_units_ 3 (some .int) 8 134 26 156 (fun r : Int32 => some (.int r)) [.ref l0] (qL_units_ N l0) := by
  refine osMet.of plL (Nat.le_of_ble_eq_true rfl) (osW.rw (lv2 := [(0, .ref l0)]) ?_ rfl rfl rfl)
  unfold qL_units_
  refine os_iconst (i := 0) (v := (0 : Int32)) rfl (hL_units_.at 0 rfl rfl) ?_
  refine os_istore_n (i := 1) (q := 1) rfl (lv' := [(1, .int (0 : Int32)), (0, .ref l0)]) (Nat.le_of_ble_eq_true rfl) rfl (hL_units_.at 1 rfl rfl) ?_
  refine os_iconst (i := 0) (v := (0 : Int32)) rfl (hL_units_.at 2 rfl rfl) ?_
  refine os_istore_n (i := 2) (q := 2) rfl (lv' := [(2, .int (0 : Int32)), (1, .int (0 : Int32)), (0, .ref l0)]) (Nat.le_of_ble_eq_true rfl) rfl (hL_units_.at 3 rfl rfl) ?_
  exact osW.widen (k' := 0) (n' := 0) (by omega) (by omega) (osW.sub [2, 1, 0] rfl (sL_units__4 N l0 (0 : Int32) (0 : Int32)))
-- L_aside
def KL_aside : List (Nat × Nat × Instr) := [(0, 1, .iconst 0), (1, 1, .istore_n 1), (2, 1, .iconst 0), (3, 1, .istore_n 2), (4, 1, .iload_n 2), (5, 1, .aload_n 0), (6, 3, .invokevirtual 89), (9, 3, .if_icmp .ge 28), (12, 1, .iload_n 1), (13, 1, .aload_n 0), (14, 1, .iload_n 2), (15, 2, .bipush 6), (17, 3, .invokevirtual 92), (20, 1, .iconst (-1)), (21, 3, .if_icmp .eq 7), (24, 1, .iconst 1), (25, 3, .goto 4), (28, 1, .iconst 0), (29, 1, .iadd), (30, 1, .istore_n 1), (31, 3, .iinc 2 1), (34, 3, .goto (-30)), (37, 1, .iload_n 1), (38, 1, .ireturn)]
theorem hL_aside : osDs cL_aside KL_aside := by
  show ∀ q ∈ KL_aside, decode cL_aside q.1 = .ok (q.2.2, q.2.1)
  decide +kernel
def qL_aside_29 (N : Nat) (c4 : Nat × Int32 × Int32 → osM Int32) (l0 : Nat) (l2 : Int32) (k0 : Int32) (k1 : Int32) : osM Int32 := c4 (l0, (k1 + k0), (l2 + (1 : Int32)))
def bL_aside_4 (N : Nat) (c4 : Nat × Int32 × Int32 → osM Int32) (l0 : Nat) (l1 : Int32) (l2 : Int32) : osM Int32 := osbind (osrecv [7] l0 (qX9_areas N l0)) fun x1 => osite (x1 ≤ l2) (osret l1) (osbind (osrecv [7] l0 (osRV (qX9_area N l0 l2 (6 : Int32)))) fun x2 => osite (x2 = (-1 : Int32)) (qL_aside_29 N c4 l0 l2 (0 : Int32) l1) (qL_aside_29 N c4 l0 l2 (1 : Int32) l1))
def qL_aside_4 (N : Nat) : Nat × Int32 × Int32 → osM Int32 := osloop (fun ih p => bL_aside_4 N ih p.1 p.2.1 p.2.2) 13
def qL_aside (N : Nat) (l0 : Nat) : osM Int32 := qL_aside_4 N (l0, (0 : Int32), (0 : Int32))
set_option maxRecDepth 100000 in
set_option maxHeartbeats 4000000 in
theorem sL_aside_29 (N : Nat) (k4 n4 : Nat) (hx4 : k4 + 2 ≤ 26 ∧ n4 + 12 ≤ 156) (c4 : Nat × Int32 × Int32 → osM Int32) (g4 : ∀ (l0 : Nat) (l1 : Int32) (l2 : Int32), osW (osFinM (fun r : Int32 => some (.int r)) 26 156) yL_aside cL_aside 3 (some .int) [] { frames := 8, cells := 26, slots := 156, locals := 134 } (k4 + 2) (n4 + 12) 4 [(0, .ref l0), (1, .int l1), (2, .int l2)] [] (c4 (l0, l1, l2))) (l0 : Nat) (l2 : Int32) (k0 : Int32) (k1 : Int32) : osW (osFinM (fun r : Int32 => some (.int r)) 26 156) yL_aside cL_aside 3 (some .int) [] { frames := 8, cells := 26, slots := 156, locals := 134 } (k4 + 2) (n4 + 12) 29 [(0, .ref l0), (2, .int l2)] [.int k0, .int k1] (qL_aside_29 N c4 l0 l2 k0 k1) := by
  unfold qL_aside_29
  refine os_iadd (hL_aside.at 18 rfl rfl) ?_
  refine os_istore_n (i := 1) (q := 1) rfl (lv' := [(1, .int (k1 + k0)), (0, .ref l0), (2, .int l2)]) (Nat.le_of_ble_eq_true rfl) rfl (hL_aside.at 19 rfl rfl) ?_
  refine os_iinc (i := 2) (d := 1) (x := l2) (v := (1 : Int32)) (lv' := [(2, .int (l2 + (1 : Int32))), (1, .int (k1 + k0)), (0, .ref l0)]) 2 rfl rfl (Nat.le_of_ble_eq_true rfl) rfl (hL_aside.at 20 rfl rfl) ?_
  refine os_goto (off := (-30)) (tgt := 4) rfl (hL_aside.at 21 rfl rfl) ?_
  exact osW.widen (k' := k4 + 2) (n' := n4 + 12) (by omega) (by omega) (osW.sub [2, 1, 0] rfl (g4 l0 (k1 + k0) (l2 + (1 : Int32))))
set_option maxRecDepth 100000 in
set_option maxHeartbeats 4000000 in
theorem tL_aside_4 (N : Nat) (k4 n4 : Nat) (hx4 : k4 + 2 ≤ 26 ∧ n4 + 12 ≤ 156) (c4 : Nat × Int32 × Int32 → osM Int32) (g4 : ∀ (l0 : Nat) (l1 : Int32) (l2 : Int32), osW (osFinM (fun r : Int32 => some (.int r)) 26 156) yL_aside cL_aside 3 (some .int) [] { frames := 8, cells := 26, slots := 156, locals := 134 } (k4 + 2) (n4 + 12) 4 [(0, .ref l0), (1, .int l1), (2, .int l2)] [] (c4 (l0, l1, l2))) (l0 : Nat) (l1 : Int32) (l2 : Int32) : osW (osFinM (fun r : Int32 => some (.int r)) 26 156) yL_aside cL_aside 3 (some .int) [] { frames := 8, cells := 26, slots := 156, locals := 134 } (k4) (n4) 4 [(0, .ref l0), (1, .int l1), (2, .int l2)] [] (bL_aside_4 N c4 l0 l1 l2) := by
  unfold bL_aside_4
  refine os_iload_n (i := 2) (q := 2) (v := l2) 2 rfl rfl (hL_aside.at 4 rfl rfl) ?_
  refine os_aload_n (i := 0) (q := 0) (v := l0) 0 rfl rfl (hL_aside.at 5 rfl rfl) ?_
  refine os_callV (cis := [7]) (b := l0) (As := []) (st := [.int l2]) (st' := (fun r => .int r :: [.int l2])) sl7_X9_areas_X9_areas mdX9_areas wd472 wd473 (sX9_areas N l0 ) rfl rfl (fun _ => rfl) (Nat.le_of_ble_eq_true rfl) (Nat.le_of_ble_eq_true rfl) (Nat.le_of_ble_eq_true rfl) rfl (by show _ ≤ 26; omega) rfl (by show _ ≤ 156; omega) (hL_aside.at 6 rfl rfl) (fun x1 => ?_)
  refine os_icmp_ge (off := 28) (tgt := 37) rfl (hL_aside.at 7 rfl rfl) ?_ ?_
  · refine os_iload_n (i := 1) (q := 1) (v := l1) 1 rfl rfl (hL_aside.at 22 rfl rfl) ?_
    exact os_iret (by omega) (by omega) (hL_aside.at 23 rfl rfl).1
  · refine os_iload_n (i := 1) (q := 1) (v := l1) 1 rfl rfl (hL_aside.at 8 rfl rfl) ?_
    refine os_aload_n (i := 0) (q := 0) (v := l0) 0 rfl rfl (hL_aside.at 9 rfl rfl) ?_
    refine os_iload_n (i := 2) (q := 2) (v := l2) 2 rfl rfl (hL_aside.at 10 rfl rfl) ?_
    refine os_bipush (i := 6) (v := (6 : Int32)) rfl (hL_aside.at 11 rfl rfl) ?_
    refine os_callV (cis := [7]) (b := l0) (As := [.int l2, .int (6 : Int32)]) (st := [.int l1]) (st' := (fun r => .int r :: [.int l1])) sl7_X9_area_X9_area mdX9_area wd1052 wd1053 (osMetT.sure (sX9_area N l0 l2 (6 : Int32))) rfl rfl (fun _ => rfl) (Nat.le_of_ble_eq_true rfl) (Nat.le_of_ble_eq_true rfl) (Nat.le_of_ble_eq_true rfl) rfl (by show _ ≤ 26; omega) rfl (by show _ ≤ 156; omega) (hL_aside.at 12 rfl rfl) (fun x2 => ?_)
    refine os_iconst (i := (-1)) (v := (-1 : Int32)) rfl (hL_aside.at 13 rfl rfl) ?_
    refine os_icmp_eq (off := 7) (tgt := 28) rfl (hL_aside.at 14 rfl rfl) ?_ ?_
    · refine os_iconst (i := 0) (v := (0 : Int32)) rfl (hL_aside.at 17 rfl rfl) ?_
      exact osW.widen (k' := k4 + 2) (n' := n4 + 12) (by omega) (by omega) (osW.sub [0, 2] rfl (sL_aside_29 N k4 n4 hx4 c4 g4 l0 l2 (0 : Int32) l1))
    · refine os_iconst (i := 1) (v := (1 : Int32)) rfl (hL_aside.at 15 rfl rfl) ?_
      refine os_goto (off := 4) (tgt := 29) rfl (hL_aside.at 16 rfl rfl) ?_
      exact osW.widen (k' := k4 + 2) (n' := n4 + 12) (by omega) (by omega) (osW.sub [0, 2] rfl (sL_aside_29 N k4 n4 hx4 c4 g4 l0 l2 (1 : Int32) l1))
set_option maxRecDepth 100000 in
set_option maxHeartbeats 4000000 in
theorem sL_aside_4 (N : Nat) (l0 : Nat) (l1 : Int32) (l2 : Int32) : osW (osFinM (fun r : Int32 => some (.int r)) 26 156) yL_aside cL_aside 3 (some .int) [] { frames := 8, cells := 26, slots := 156, locals := 134 } (0) (0) 4 [(0, .ref l0), (1, .int l1), (2, .int l2)] [] (qL_aside_4 N (l0, l1, l2)) := by
  refine osW.widen (k' := (0) + 2 * (13 - 13)) (n' := (0) + 12 * (13 - 13)) (by omega) (by omega) ?_
  exact osloop_K (lvf := fun p => [(0, .ref p.1), (1, .int p.2.1), (2, .int p.2.2)]) (stf := fun p => []) 13 2 12 (0) (0) (fun f hf ih g p => tL_aside_4 N ((0) + 2 * (13 - (f + 1))) ((0) + 12 * (13 - (f + 1))) (by omega) ih (fun l0 l1 l2 => osW.widen (by omega) (by omega) (g (l0, l1, l2))) p.1 p.2.1 p.2.2) 13 (Nat.le_refl _) (l0, l1, l2)
set_option maxRecDepth 100000 in
set_option maxHeartbeats 4000000 in
theorem sL_aside (N : Nat) (l0 : Nat) : osMet yL_aside cL_aside 3 (some .int) 8 134 26 156 (fun r : Int32 => some (.int r)) [.ref l0] (qL_aside N l0) := by
  refine osMet.of plL (Nat.le_of_ble_eq_true rfl) (osW.rw (lv2 := [(0, .ref l0)]) ?_ rfl rfl rfl)
  unfold qL_aside
  refine os_iconst (i := 0) (v := (0 : Int32)) rfl (hL_aside.at 0 rfl rfl) ?_
  refine os_istore_n (i := 1) (q := 1) rfl (lv' := [(1, .int (0 : Int32)), (0, .ref l0)]) (Nat.le_of_ble_eq_true rfl) rfl (hL_aside.at 1 rfl rfl) ?_
  refine os_iconst (i := 0) (v := (0 : Int32)) rfl (hL_aside.at 2 rfl rfl) ?_
  refine os_istore_n (i := 2) (q := 2) rfl (lv' := [(2, .int (0 : Int32)), (1, .int (0 : Int32)), (0, .ref l0)]) (Nat.le_of_ble_eq_true rfl) rfl (hL_aside.at 3 rfl rfl) ?_
  exact osW.widen (k' := 0) (n' := 0) (by omega) (by omega) (osW.sub [2, 1, 0] rfl (sL_aside_4 N l0 (0 : Int32) (0 : Int32)))
-- L_sum
def KL_sum : List (Nat × Nat × Instr) := [(0, 2, .bipush 7), (2, 1, .aload_n 0), (3, 3, .invokevirtual 112), (6, 1, .imul), (7, 2, .bipush 31), (9, 1, .aload_n 0), (10, 3, .invokevirtual 115), (13, 1, .imul), (14, 1, .iadd), (15, 1, .istore_n 1), (16, 1, .iconst 0), (17, 1, .istore_n 2), (18, 1, .iload_n 2), (19, 1, .aload_n 0), (20, 3, .invokevirtual 89), (23, 3, .if_icmp .ge 35), (26, 1, .iconst 2), (27, 1, .istore_n 3), (28, 1, .iload_n 3), (29, 2, .bipush 8), (31, 3, .if_icmp .ge 21), (34, 2, .bipush 31), (36, 1, .iload_n 1), (37, 1, .imul), (38, 1, .aload_n 0), (39, 1, .iload_n 2), (40, 1, .iload_n 3), (41, 3, .invokevirtual 92), (44, 1, .iadd), (45, 1, .istore_n 1), (46, 3, .iinc 3 1), (49, 3, .goto (-21)), (52, 3, .iinc 2 1), (55, 3, .goto (-37)), (58, 1, .iload_n 1), (59, 1, .ireturn)]
theorem hL_sum : osDs cL_sum KL_sum := by
  show ∀ q ∈ KL_sum, decode cL_sum q.1 = .ok (q.2.2, q.2.1)
  decide +kernel
def bL_sum_28 (N : Nat) (c18 : Nat × Int32 × Int32 → osM Int32) (c28 : Nat × Int32 × Int32 × Int32 → osM Int32) (l0 : Nat) (l1 : Int32) (l2 : Int32) (l3 : Int32) : osM Int32 := osite ((8 : Int32) ≤ l3) (c18 (l0, l1, (l2 + (1 : Int32)))) (osbind (osrecv [7] l0 (osRV (qX9_area N l0 l2 l3))) fun x1 => osbind (osret ((((31 : Int32) * l1) + x1) : Int32)) fun x2 => c28 (l0, x2, l2, (l3 + (1 : Int32))))
def qL_sum_28 (N : Nat) (c18 : Nat × Int32 × Int32 → osM Int32) : Nat × Int32 × Int32 × Int32 → osM Int32 := osloop (fun ih p => bL_sum_28 N c18 ih p.1 p.2.1 p.2.2.1 p.2.2.2) 7
def bL_sum_18 (N : Nat) (c18 : Nat × Int32 × Int32 → osM Int32) (l0 : Nat) (l1 : Int32) (l2 : Int32) : osM Int32 := osbind (osrecv [7] l0 (qX9_areas N l0)) fun x1 => osite (x1 ≤ l2) (osret l1) (qL_sum_28 N c18 (l0, l1, l2, (2 : Int32)))
def qL_sum_18 (N : Nat) : Nat × Int32 × Int32 → osM Int32 := osloop (fun ih p => bL_sum_18 N ih p.1 p.2.1 p.2.2) 13
def qL_sum (N : Nat) (l0 : Nat) : osM Int32 := osbind (osrecv [7] l0 (qX9_phase N l0)) fun x1 => osbind (osrecv [7] l0 (qX9_turn N l0)) fun x2 => osbind (osret ((((7 : Int32) * x1) + ((31 : Int32) * x2)) : Int32)) fun x3 => qL_sum_18 N (l0, x3, (0 : Int32))
set_option maxRecDepth 100000 in
set_option maxHeartbeats 4000000 in
theorem tL_sum_28 (N : Nat) (k18 n18 : Nat) (hx18 : k18 + 14 ≤ 182 ∧ n18 + 84 ≤ 1092) (k28 n28 : Nat) (hx28 : k28 + 2 ≤ k18 + 14 ∧ n28 + 12 ≤ n18 + 84) (c18 : Nat × Int32 × Int32 → osM Int32) (c28 : Nat × Int32 × Int32 × Int32 → osM Int32) (g18 : ∀ (l0 : Nat) (l1 : Int32) (l2 : Int32), osW (osFinM (fun r : Int32 => some (.int r)) 182 1092) yL_sum cL_sum 4 (some .int) [] { frames := 8, cells := 182, slots := 1092, locals := 134 } (k18 + 14) (n18 + 84) 18 [(0, .ref l0), (1, .int l1), (2, .int l2)] [] (c18 (l0, l1, l2))) (g28 : ∀ (l0 : Nat) (l1 : Int32) (l2 : Int32) (l3 : Int32), osW (osFinM (fun r : Int32 => some (.int r)) 182 1092) yL_sum cL_sum 4 (some .int) [] { frames := 8, cells := 182, slots := 1092, locals := 134 } (k28 + 2) (n28 + 12) 28 [(0, .ref l0), (1, .int l1), (2, .int l2), (3, .int l3)] [] (c28 (l0, l1, l2, l3))) (l0 : Nat) (l1 : Int32) (l2 : Int32) (l3 : Int32) : osW (osFinM (fun r : Int32 => some (.int r)) 182 1092) yL_sum cL_sum 4 (some .int) [] { frames := 8, cells := 182, slots := 1092, locals := 134 } (k28) (n28) 28 [(0, .ref l0), (1, .int l1), (2, .int l2), (3, .int l3)] [] (bL_sum_28 N c18 c28 l0 l1 l2 l3) := by
  unfold bL_sum_28
  refine os_iload_n (i := 3) (q := 3) (v := l3) 3 rfl rfl (hL_sum.at 18 rfl rfl) ?_
  refine os_bipush (i := 8) (v := (8 : Int32)) rfl (hL_sum.at 19 rfl rfl) ?_
  refine os_icmp_ge (off := 21) (tgt := 52) rfl (hL_sum.at 20 rfl rfl) ?_ ?_
  · refine os_iinc (i := 2) (d := 1) (x := l2) (v := (1 : Int32)) (lv' := [(2, .int (l2 + (1 : Int32))), (0, .ref l0), (1, .int l1), (3, .int l3)]) 2 rfl rfl (Nat.le_of_ble_eq_true rfl) rfl (hL_sum.at 32 rfl rfl) ?_
    refine os_goto (off := (-37)) (tgt := 18) rfl (hL_sum.at 33 rfl rfl) ?_
    exact osW.widen (k' := k18 + 14) (n' := n18 + 84) (by omega) (by omega) (osW.sub [1, 2, 0] rfl (g18 l0 l1 (l2 + (1 : Int32))))
  · refine os_bipush (i := 31) (v := (31 : Int32)) rfl (hL_sum.at 21 rfl rfl) ?_
    refine os_iload_n (i := 1) (q := 1) (v := l1) 1 rfl rfl (hL_sum.at 22 rfl rfl) ?_
    refine os_imul (hL_sum.at 23 rfl rfl) ?_
    refine os_aload_n (i := 0) (q := 0) (v := l0) 0 rfl rfl (hL_sum.at 24 rfl rfl) ?_
    refine os_iload_n (i := 2) (q := 2) (v := l2) 2 rfl rfl (hL_sum.at 25 rfl rfl) ?_
    refine os_iload_n (i := 3) (q := 3) (v := l3) 3 rfl rfl (hL_sum.at 26 rfl rfl) ?_
    refine os_callV (cis := [7]) (b := l0) (As := [.int l2, .int l3]) (st := [.int ((31 : Int32) * l1)]) (st' := (fun r => .int r :: [.int ((31 : Int32) * l1)])) sl7_X9_area_X9_area mdX9_area wd1052 wd1053 (osMetT.sure (sX9_area N l0 l2 l3)) rfl rfl (fun _ => rfl) (Nat.le_of_ble_eq_true rfl) (Nat.le_of_ble_eq_true rfl) (Nat.le_of_ble_eq_true rfl) rfl (by show _ ≤ 182; omega) rfl (by show _ ≤ 1092; omega) (hL_sum.at 27 rfl rfl) (fun x1 => ?_)
    refine os_iadd (hL_sum.at 28 rfl rfl) ?_
    refine os_nameI (fun x2 => ?_)
    refine os_istore_n (i := 1) (q := 1) rfl (lv' := [(1, .int x2), (0, .ref l0), (2, .int l2), (3, .int l3)]) (Nat.le_of_ble_eq_true rfl) rfl (hL_sum.at 29 rfl rfl) ?_
    refine os_iinc (i := 3) (d := 1) (x := l3) (v := (1 : Int32)) (lv' := [(3, .int (l3 + (1 : Int32))), (1, .int x2), (0, .ref l0), (2, .int l2)]) 3 rfl rfl (Nat.le_of_ble_eq_true rfl) rfl (hL_sum.at 30 rfl rfl) ?_
    refine os_goto (off := (-21)) (tgt := 28) rfl (hL_sum.at 31 rfl rfl) ?_
    exact osW.widen (k' := k28 + 2) (n' := n28 + 12) (by omega) (by omega) (osW.sub [2, 1, 3, 0] rfl (g28 l0 x2 l2 (l3 + (1 : Int32))))
set_option maxRecDepth 100000 in
set_option maxHeartbeats 4000000 in
theorem sL_sum_28 (N : Nat) (k18 n18 : Nat) (hx18 : k18 + 14 ≤ 182 ∧ n18 + 84 ≤ 1092) (c18 : Nat × Int32 × Int32 → osM Int32) (g18 : ∀ (l0 : Nat) (l1 : Int32) (l2 : Int32), osW (osFinM (fun r : Int32 => some (.int r)) 182 1092) yL_sum cL_sum 4 (some .int) [] { frames := 8, cells := 182, slots := 1092, locals := 134 } (k18 + 14) (n18 + 84) 18 [(0, .ref l0), (1, .int l1), (2, .int l2)] [] (c18 (l0, l1, l2))) (l0 : Nat) (l1 : Int32) (l2 : Int32) (l3 : Int32) : osW (osFinM (fun r : Int32 => some (.int r)) 182 1092) yL_sum cL_sum 4 (some .int) [] { frames := 8, cells := 182, slots := 1092, locals := 134 } (k18) (n18) 28 [(0, .ref l0), (1, .int l1), (2, .int l2), (3, .int l3)] [] (qL_sum_28 N c18 (l0, l1, l2, l3)) := by
  refine osW.widen (k' := (k18) + 2 * (7 - 7)) (n' := (n18) + 12 * (7 - 7)) (by omega) (by omega) ?_
  exact osloop_K (lvf := fun p => [(0, .ref p.1), (1, .int p.2.1), (2, .int p.2.2.1), (3, .int p.2.2.2)]) (stf := fun p => []) 7 2 12 (k18) (n18) (fun f hf ih g p => tL_sum_28 N k18 n18 hx18 ((k18) + 2 * (7 - (f + 1))) ((n18) + 12 * (7 - (f + 1))) (by omega) c18 ih g18 (fun l0 l1 l2 l3 => osW.widen (by omega) (by omega) (g (l0, l1, l2, l3))) p.1 p.2.1 p.2.2.1 p.2.2.2) 7 (Nat.le_refl _) (l0, l1, l2, l3)
set_option maxRecDepth 100000 in
set_option maxHeartbeats 4000000 in
theorem tL_sum_18 (N : Nat) (k18 n18 : Nat) (hx18 : k18 + 14 ≤ 182 ∧ n18 + 84 ≤ 1092) (c18 : Nat × Int32 × Int32 → osM Int32) (g18 : ∀ (l0 : Nat) (l1 : Int32) (l2 : Int32), osW (osFinM (fun r : Int32 => some (.int r)) 182 1092) yL_sum cL_sum 4 (some .int) [] { frames := 8, cells := 182, slots := 1092, locals := 134 } (k18 + 14) (n18 + 84) 18 [(0, .ref l0), (1, .int l1), (2, .int l2)] [] (c18 (l0, l1, l2))) (l0 : Nat) (l1 : Int32) (l2 : Int32) : osW (osFinM (fun r : Int32 => some (.int r)) 182 1092) yL_sum cL_sum 4 (some .int) [] { frames := 8, cells := 182, slots := 1092, locals := 134 } (k18) (n18) 18 [(0, .ref l0), (1, .int l1), (2, .int l2)] [] (bL_sum_18 N c18 l0 l1 l2) := by
  unfold bL_sum_18
  refine os_iload_n (i := 2) (q := 2) (v := l2) 2 rfl rfl (hL_sum.at 12 rfl rfl) ?_
  refine os_aload_n (i := 0) (q := 0) (v := l0) 0 rfl rfl (hL_sum.at 13 rfl rfl) ?_
  refine os_callV (cis := [7]) (b := l0) (As := []) (st := [.int l2]) (st' := (fun r => .int r :: [.int l2])) sl7_X9_areas_X9_areas mdX9_areas wd472 wd473 (sX9_areas N l0 ) rfl rfl (fun _ => rfl) (Nat.le_of_ble_eq_true rfl) (Nat.le_of_ble_eq_true rfl) (Nat.le_of_ble_eq_true rfl) rfl (by show _ ≤ 182; omega) rfl (by show _ ≤ 1092; omega) (hL_sum.at 14 rfl rfl) (fun x1 => ?_)
  refine os_icmp_ge (off := 35) (tgt := 58) rfl (hL_sum.at 15 rfl rfl) ?_ ?_
  · refine os_iload_n (i := 1) (q := 1) (v := l1) 1 rfl rfl (hL_sum.at 34 rfl rfl) ?_
    exact os_iret (by omega) (by omega) (hL_sum.at 35 rfl rfl).1
  · refine os_iconst (i := 2) (v := (2 : Int32)) rfl (hL_sum.at 16 rfl rfl) ?_
    refine os_istore_n (i := 3) (q := 3) rfl (lv' := [(3, .int (2 : Int32)), (0, .ref l0), (1, .int l1), (2, .int l2)]) (Nat.le_of_ble_eq_true rfl) rfl (hL_sum.at 17 rfl rfl) ?_
    exact osW.widen (k' := k18) (n' := n18) (by omega) (by omega) (osW.sub [1, 2, 3, 0] rfl (sL_sum_28 N k18 n18 hx18 c18 g18 l0 l1 l2 (2 : Int32)))
set_option maxRecDepth 100000 in
set_option maxHeartbeats 4000000 in
theorem sL_sum_18 (N : Nat) (l0 : Nat) (l1 : Int32) (l2 : Int32) : osW (osFinM (fun r : Int32 => some (.int r)) 182 1092) yL_sum cL_sum 4 (some .int) [] { frames := 8, cells := 182, slots := 1092, locals := 134 } (0) (0) 18 [(0, .ref l0), (1, .int l1), (2, .int l2)] [] (qL_sum_18 N (l0, l1, l2)) := by
  refine osW.widen (k' := (0) + 14 * (13 - 13)) (n' := (0) + 84 * (13 - 13)) (by omega) (by omega) ?_
  exact osloop_K (lvf := fun p => [(0, .ref p.1), (1, .int p.2.1), (2, .int p.2.2)]) (stf := fun p => []) 13 14 84 (0) (0) (fun f hf ih g p => tL_sum_18 N ((0) + 14 * (13 - (f + 1))) ((0) + 84 * (13 - (f + 1))) (by omega) ih (fun l0 l1 l2 => osW.widen (by omega) (by omega) (g (l0, l1, l2))) p.1 p.2.1 p.2.2) 13 (Nat.le_refl _) (l0, l1, l2)
set_option maxRecDepth 100000 in
set_option maxHeartbeats 4000000 in
theorem sL_sum (N : Nat) (l0 : Nat) : osMet yL_sum cL_sum 4 (some .int) 8 134 182 1092 (fun r : Int32 => some (.int r)) [.ref l0] (qL_sum N l0) := by
  refine osMet.of plL (Nat.le_of_ble_eq_true rfl) (osW.rw (lv2 := [(0, .ref l0)]) ?_ rfl rfl rfl)
  unfold qL_sum
  refine os_bipush (i := 7) (v := (7 : Int32)) rfl (hL_sum.at 0 rfl rfl) ?_
  refine os_aload_n (i := 0) (q := 0) (v := l0) 0 rfl rfl (hL_sum.at 1 rfl rfl) ?_
  refine os_callV (cis := [7]) (b := l0) (As := []) (st := [.int (7 : Int32)]) (st' := (fun r => .int r :: [.int (7 : Int32)])) sl7_X9_phase_X9_phase mdX9_phase wd476 wd477 (sX9_phase N l0 ) rfl rfl (fun _ => rfl) (Nat.le_of_ble_eq_true rfl) (Nat.le_of_ble_eq_true rfl) (Nat.le_of_ble_eq_true rfl) rfl (by show _ ≤ 182; omega) rfl (by show _ ≤ 1092; omega) (hL_sum.at 2 rfl rfl) (fun x1 => ?_)
  refine os_imul (hL_sum.at 3 rfl rfl) ?_
  refine os_bipush (i := 31) (v := (31 : Int32)) rfl (hL_sum.at 4 rfl rfl) ?_
  refine os_aload_n (i := 0) (q := 0) (v := l0) 0 rfl rfl (hL_sum.at 5 rfl rfl) ?_
  refine os_callV (cis := [7]) (b := l0) (As := []) (st := [.int (31 : Int32), .int ((7 : Int32) * x1)]) (st' := (fun r => .int r :: [.int (31 : Int32), .int ((7 : Int32) * x1)])) sl7_X9_turn_X9_turn mdX9_turn wd1384 wd1385 (sX9_turn N l0 ) rfl rfl (fun _ => rfl) (Nat.le_of_ble_eq_true rfl) (Nat.le_of_ble_eq_true rfl) (Nat.le_of_ble_eq_true rfl) rfl (by show _ ≤ 182; omega) rfl (by show _ ≤ 1092; omega) (hL_sum.at 6 rfl rfl) (fun x2 => ?_)
  refine os_imul (hL_sum.at 7 rfl rfl) ?_
  refine os_iadd (hL_sum.at 8 rfl rfl) ?_
  refine os_nameI (fun x3 => ?_)
  refine os_istore_n (i := 1) (q := 1) rfl (lv' := [(1, .int x3), (0, .ref l0)]) (Nat.le_of_ble_eq_true rfl) rfl (hL_sum.at 9 rfl rfl) ?_
  refine os_iconst (i := 0) (v := (0 : Int32)) rfl (hL_sum.at 10 rfl rfl) ?_
  refine os_istore_n (i := 2) (q := 2) rfl (lv' := [(2, .int (0 : Int32)), (1, .int x3), (0, .ref l0)]) (Nat.le_of_ble_eq_true rfl) rfl (hL_sum.at 11 rfl rfl) ?_
  exact osW.widen (k' := 0) (n' := 0) (by omega) (by omega) (osW.sub [2, 1, 0] rfl (sL_sum_18 N l0 x3 (0 : Int32)))
-- L_load
def KL_load : List (Nat × Nat × Instr) := [(0, 1, .aload_n 0), (1, 1, .aload_n 1), (2, 3, .invokestatic 24), (5, 1, .aload_n 1), (6, 3, .invokevirtual 8), (9, 1, .istore_n 2), (10, 1, .aload_n 0), (11, 1, .iload_n 2), (12, 3, .invokevirtual 30), (15, 1, .ireturn), (16, 1, .astore_n 3), (17, 1, .iconst (-1)), (18, 1, .ireturn)]
theorem hL_load : osDs cL_load KL_load := by
  show ∀ q ∈ KL_load, decode cL_load q.1 = .ok (q.2.2, q.2.1)
  decide +kernel
def qL_load (N : Nat) (l0 : Nat) (l1 : Nat) : osM Int32 := osbind (qL_type N l0 l1) fun _ => osbind (osonstr l1 (qJ0_length_8abf5 N l1)) fun x1 => osbindC (osrecv [7] l0 (qX9_load N l0 x1)) (oshand [(0, (-1 : Int32))]) fun x2 => osret x2
set_option maxRecDepth 100000 in
set_option maxHeartbeats 4000000 in
theorem sL_load_16 (N : Nat) (v2 : Int32) (v0 : Nat) (v1 : Nat) (q : Nat) : osW (osFinM (fun r : Int32 => some (.int r)) 104 573) yL_load cL_load 4 (some .int) [(10, 15, 16, 34)] { frames := 8, cells := 104, slots := 573, locals := 187 } 104 573 16 [(2, .int v2), (0, .ref v0), (1, .ref v1)] [.ref q] (osret (-1 : Int32)) := by
  refine os_astore_n (i := 3) (q := 3) rfl (lv' := [(3, .ref q), (2, .int v2), (0, .ref v0), (1, .ref v1)]) (Nat.le_of_ble_eq_true rfl) rfl (hL_load.at 10 rfl rfl) ?_
  refine os_iconst (i := (-1)) (v := (-1 : Int32)) rfl (hL_load.at 11 rfl rfl) ?_
  exact os_iret (Nat.le_of_ble_eq_true rfl) (Nat.le_of_ble_eq_true rfl) (hL_load.at 12 rfl rfl).1
set_option maxRecDepth 100000 in
set_option maxHeartbeats 4000000 in
theorem sL_load (N : Nat) (l0 : Nat) (l1 : Nat) : osMetH yL_load cL_load 4 (some .int) [(10, 15, 16, 34)] 8 187 104 573 (fun r : Int32 => some (.int r)) [.ref l0, .ref l1] (qL_load N l0 l1) := by
  refine osMetH.of plL (Nat.le_of_ble_eq_true rfl) (osW.rw (lv2 := [(0, .ref l0), (1, .ref l1)]) ?_ rfl rfl rfl)
  unfold qL_load
  refine os_aload_n (i := 0) (q := 0) (v := l0) 0 rfl rfl (hL_load.at 0 rfl rfl) ?_
  refine os_aload_n (i := 1) (q := 1) (v := l1) 1 rfl rfl (hL_load.at 1 rfl rfl) ?_
  refine os_callS (As := [.ref l0, .ref l1]) (st := []) (st' := (fun _ => [])) mdL_type wd492 wd493 (sL_type N l0 l1) rfl rfl (fun _ => rfl) (Nat.le_of_ble_eq_true rfl) (Nat.le_of_ble_eq_true rfl) (Nat.le_of_ble_eq_true rfl) rfl (by show _ ≤ 104; omega) rfl (by show _ ≤ 573; omega) (hL_load.at 2 rfl rfl) (fun _ => ?_)
  refine os_aload_n (i := 1) (q := 1) (v := l1) 1 rfl rfl (hL_load.at 3 rfl rfl) ?_
  refine os_callStr (b := l1) (As := []) (st := []) (st' := (fun r => .int r :: [])) wd497 mdJ0_length_8abf5 wd495 wd496 (sJ0_length_8abf5 N l1 ) rfl rfl (fun _ => rfl) (Nat.le_of_ble_eq_true rfl) (Nat.le_of_ble_eq_true rfl) (Nat.le_of_ble_eq_true rfl) rfl (by show _ ≤ 104; omega) rfl (by show _ ≤ 573; omega) (hL_load.at 4 rfl rfl) (fun x1 => ?_)
  refine os_istore_n (i := 2) (q := 2) rfl (lv' := [(2, .int x1), (0, .ref l0), (1, .ref l1)]) (Nat.le_of_ble_eq_true rfl) rfl (hL_load.at 5 rfl rfl) ?_
  refine os_aload_n (i := 0) (q := 0) (v := l0) 1 rfl rfl (hL_load.at 6 rfl rfl) ?_
  refine os_iload_n (i := 2) (q := 2) (v := x1) 0 rfl rfl (hL_load.at 7 rfl rfl) ?_
  refine os_callVC (cis := [7]) (L := [(0, (10, 15, 16, 34))]) (h0 := (oshand [(0, (-1 : Int32))])) (b := l0) (As := [.int x1]) (st := []) (st' := (fun r => .int r :: [])) rfl rfl (List.forall_mem_cons.mpr ⟨⟨by decide, by decide, "java/lang/IllegalStateException", rfl, wd491, wd549⟩, fun _ h => absurd h List.not_mem_nil⟩) (oshand_no2 _ rfl) sl7_X9_load_X9_load mdX9_load wd618 wd619 (sX9_load N l0 x1) rfl rfl (fun _ => rfl) (Nat.le_of_ble_eq_true rfl) (Nat.le_of_ble_eq_true rfl) (Nat.le_of_ble_eq_true rfl) rfl (by show _ ≤ 104; omega) rfl (by show _ ≤ 573; omega) (hL_load.at 8 rfl rfl) (fun x2 => ?_) (List.forall_mem_cons.mpr ⟨fun q => osW.toF (F9 := osret (-1 : Int32)) rfl (sL_load_16 N x1 l0 l1 q), fun _ h => absurd h List.not_mem_nil⟩)
  exact os_iret (by omega) (by omega) (hL_load.at 9 rfl rfl).1
-- L_tell
def KL_tell : List (Nat × Nat × Instr) := [(0, 1, .aload_n 0), (1, 1, .aload_n 1), (2, 3, .invokestatic 24), (5, 1, .aload_n 1), (6, 3, .invokevirtual 8), (9, 1, .istore_n 2), (10, 1, .aload_n 0), (11, 1, .iload_n 2), (12, 3, .invokevirtual 36), (15, 1, .ireturn), (16, 1, .astore_n 3), (17, 1, .iconst (-1)), (18, 1, .ireturn)]
theorem hL_tell : osDs cL_tell KL_tell := by
  show ∀ q ∈ KL_tell, decode cL_tell q.1 = .ok (q.2.2, q.2.1)
  decide +kernel
def qL_tell (N : Nat) (l0 : Nat) (l1 : Nat) : osM Int32 := osbind (qL_type N l0 l1) fun _ => osbind (osonstr l1 (qJ0_length_8abf5 N l1)) fun x1 => osbindC (osrecv [7] l0 (qX9_tell N l0 x1)) (oshand [(0, (-1 : Int32))]) fun x2 => osret x2
set_option maxRecDepth 100000 in
set_option maxHeartbeats 4000000 in
theorem sL_tell_16 (N : Nat) (v2 : Int32) (v0 : Nat) (v1 : Nat) (q : Nat) : osW (osFinM (fun r : Int32 => some (.int r)) 104 573) yL_tell cL_tell 4 (some .int) [(10, 15, 16, 34)] { frames := 8, cells := 104, slots := 573, locals := 189 } 104 573 16 [(2, .int v2), (0, .ref v0), (1, .ref v1)] [.ref q] (osret (-1 : Int32)) := by
  refine os_astore_n (i := 3) (q := 3) rfl (lv' := [(3, .ref q), (2, .int v2), (0, .ref v0), (1, .ref v1)]) (Nat.le_of_ble_eq_true rfl) rfl (hL_tell.at 10 rfl rfl) ?_
  refine os_iconst (i := (-1)) (v := (-1 : Int32)) rfl (hL_tell.at 11 rfl rfl) ?_
  exact os_iret (Nat.le_of_ble_eq_true rfl) (Nat.le_of_ble_eq_true rfl) (hL_tell.at 12 rfl rfl).1
set_option maxRecDepth 100000 in
set_option maxHeartbeats 4000000 in
theorem sL_tell (N : Nat) (l0 : Nat) (l1 : Nat) : osMetH yL_tell cL_tell 4 (some .int) [(10, 15, 16, 34)] 8 189 104 573 (fun r : Int32 => some (.int r)) [.ref l0, .ref l1] (qL_tell N l0 l1) := by
  refine osMetH.of plL (Nat.le_of_ble_eq_true rfl) (osW.rw (lv2 := [(0, .ref l0), (1, .ref l1)]) ?_ rfl rfl rfl)
  unfold qL_tell
  refine os_aload_n (i := 0) (q := 0) (v := l0) 0 rfl rfl (hL_tell.at 0 rfl rfl) ?_
  refine os_aload_n (i := 1) (q := 1) (v := l1) 1 rfl rfl (hL_tell.at 1 rfl rfl) ?_
  refine os_callS (As := [.ref l0, .ref l1]) (st := []) (st' := (fun _ => [])) mdL_type wd492 wd493 (sL_type N l0 l1) rfl rfl (fun _ => rfl) (Nat.le_of_ble_eq_true rfl) (Nat.le_of_ble_eq_true rfl) (Nat.le_of_ble_eq_true rfl) rfl (by show _ ≤ 104; omega) rfl (by show _ ≤ 573; omega) (hL_tell.at 2 rfl rfl) (fun _ => ?_)
  refine os_aload_n (i := 1) (q := 1) (v := l1) 1 rfl rfl (hL_tell.at 3 rfl rfl) ?_
  refine os_callStr (b := l1) (As := []) (st := []) (st' := (fun r => .int r :: [])) wd497 mdJ0_length_8abf5 wd495 wd496 (sJ0_length_8abf5 N l1 ) rfl rfl (fun _ => rfl) (Nat.le_of_ble_eq_true rfl) (Nat.le_of_ble_eq_true rfl) (Nat.le_of_ble_eq_true rfl) rfl (by show _ ≤ 104; omega) rfl (by show _ ≤ 573; omega) (hL_tell.at 4 rfl rfl) (fun x1 => ?_)
  refine os_istore_n (i := 2) (q := 2) rfl (lv' := [(2, .int x1), (0, .ref l0), (1, .ref l1)]) (Nat.le_of_ble_eq_true rfl) rfl (hL_tell.at 5 rfl rfl) ?_
  refine os_aload_n (i := 0) (q := 0) (v := l0) 1 rfl rfl (hL_tell.at 6 rfl rfl) ?_
  refine os_iload_n (i := 2) (q := 2) (v := x1) 0 rfl rfl (hL_tell.at 7 rfl rfl) ?_
  refine os_callVC (cis := [7]) (L := [(0, (10, 15, 16, 34))]) (h0 := (oshand [(0, (-1 : Int32))])) (b := l0) (As := [.int x1]) (st := []) (st' := (fun r => .int r :: [])) rfl rfl (List.forall_mem_cons.mpr ⟨⟨by decide, by decide, "java/lang/IllegalStateException", rfl, wd491, wd549⟩, fun _ h => absurd h List.not_mem_nil⟩) (oshand_no2 _ rfl) sl7_X9_tell_X9_tell mdX9_tell wd1098 wd1099 (sX9_tell N l0 x1) rfl rfl (fun _ => rfl) (Nat.le_of_ble_eq_true rfl) (Nat.le_of_ble_eq_true rfl) (Nat.le_of_ble_eq_true rfl) rfl (by show _ ≤ 104; omega) rfl (by show _ ≤ 573; omega) (hL_tell.at 8 rfl rfl) (fun x2 => ?_) (List.forall_mem_cons.mpr ⟨fun q => osW.toF (F9 := osret (-1 : Int32)) rfl (sL_tell_16 N x1 l0 l1 q), fun _ h => absurd h List.not_mem_nil⟩)
  exact os_iret (by omega) (by omega) (hL_tell.at 9 rfl rfl).1
