-- X2_init
def KX2_init : List (Nat × Nat × Instr) := [(0, 1, .aload_n 0), (1, 3, .invokespecial 3), (4, 1, .aload_n 0), (5, 1, .iconst 0), (6, 3, .putfield 9), (9, 1, .aload_n 0), (10, 1, .iconst 0), (11, 3, .putfield 15), (14, 1, .aload_n 0), (15, 1, .iconst 0), (16, 3, .putfield 18), (19, 1, .aload_n 0), (20, 1, .iconst 0), (21, 3, .putfield 21), (24, 1, .aload_n 0), (25, 1, .iconst 0), (26, 3, .putfield 24), (29, 1, .aload_n 0), (30, 1, .iconst 0), (31, 3, .putfield 27), (34, 1, .aload_n 0), (35, 2, .bipush 16), (37, 2, .newarray .int), (39, 3, .putfield 30), (42, 1, .aload_n 0), (43, 2, .bipush 16), (45, 2, .newarray .int), (47, 3, .putfield 34), (50, 1, .aload_n 0), (51, 2, .bipush 16), (53, 2, .newarray .int), (55, 3, .putfield 37), (58, 1, .aload_n 0), (59, 2, .bipush 16), (61, 2, .newarray .int), (63, 3, .putfield 40), (66, 1, .aload_n 0), (67, 2, .bipush 16), (69, 2, .newarray .int), (71, 3, .putfield 43), (74, 1, .aload_n 0), (75, 2, .bipush 16), (77, 2, .newarray .int), (79, 3, .putfield 46), (82, 1, .aload_n 0), (83, 2, .bipush 16), (85, 2, .newarray .int), (87, 3, .putfield 49), (90, 1, .aload_n 0), (91, 2, .bipush 16), (93, 2, .newarray .int), (95, 3, .putfield 52), (98, 1, .aload_n 0), (99, 2, .bipush 16), (101, 2, .newarray .int), (103, 3, .putfield 55), (106, 1, .aload_n 0), (107, 2, .bipush 16), (109, 2, .newarray .int), (111, 3, .putfield 58), (114, 1, .return_)]
theorem hX2_init : osDs cX2_init KX2_init := by
  show ∀ q ∈ KX2_init, decode cX2_init q.1 = .ok (q.2.2, q.2.1)
  decide +kernel
def qX2_init (N : Nat) (l0 : Nat) : osM Unit := osbind (osput [2] 0 l0 (.int (0 : Int32))) fun _ => osbind (osput [2] 1 l0 (.int (0 : Int32))) fun _ => osbind (osput [2] 2 l0 (.int (0 : Int32))) fun _ => osbind (osput [2] 3 l0 (.int (0 : Int32))) fun _ => osbind (osput [2] 4 l0 (.int (0 : Int32))) fun _ => osbind (osput [2] 5 l0 (.int (0 : Int32))) fun _ => osbind (osnew (.inl (0, (16, .inl fun _ => 0)))) fun x1 => osbind (osput [2] 6 l0 (.ref x1)) fun _ => osbind (osnew (.inl (0, (16, .inl fun _ => 0)))) fun x2 => osbind (osput [2] 7 l0 (.ref x2)) fun _ => osbind (osnew (.inl (0, (16, .inl fun _ => 0)))) fun x3 => osbind (osput [2] 8 l0 (.ref x3)) fun _ => osbind (osnew (.inl (0, (16, .inl fun _ => 0)))) fun x4 => osbind (osput [2] 9 l0 (.ref x4)) fun _ => osbind (osnew (.inl (0, (16, .inl fun _ => 0)))) fun x5 => osbind (osput [2] 10 l0 (.ref x5)) fun _ => osbind (osnew (.inl (0, (16, .inl fun _ => 0)))) fun x6 => osbind (osput [2] 11 l0 (.ref x6)) fun _ => osbind (osnew (.inl (0, (16, .inl fun _ => 0)))) fun x7 => osbind (osput [2] 12 l0 (.ref x7)) fun _ => osbind (osnew (.inl (0, (16, .inl fun _ => 0)))) fun x8 => osbind (osput [2] 13 l0 (.ref x8)) fun _ => osbind (osnew (.inl (0, (16, .inl fun _ => 0)))) fun x9 => osbind (osput [2] 14 l0 (.ref x9)) fun _ => osbind (osnew (.inl (0, (16, .inl fun _ => 0)))) fun x10 => osbind (osput [2] 15 l0 (.ref x10)) fun _ => osret ()
set_option maxRecDepth 100000 in
set_option maxHeartbeats 4000000 in
theorem sX2_init (N : Nat) (l0 : Nat) : osMet yX2_init cX2_init 1 none 1 20 10 160 (fun _ : Unit => none) [.ref l0] (qX2_init N l0) := by
  refine osMet.of plX2 (Nat.le_of_ble_eq_true rfl) (osW.rw (lv2 := [(0, .ref l0)]) ?_ rfl rfl rfl)
  unfold qX2_init
  refine os_aload_n (i := 0) (q := 0) (v := l0) 0 rfl rfl (hX2_init.at 0 rfl rfl) ?_
  refine os_objInit wd182 wd88 wd89 (Nat.le_of_ble_eq_true rfl) (Nat.le_of_ble_eq_true rfl) (Nat.le_of_ble_eq_true rfl) (hX2_init.at 1 rfl rfl) ?_
  refine os_aload_n (i := 0) (q := 0) (v := l0) 0 rfl rfl (hX2_init.at 2 rfl rfl) ?_
  refine os_iconst (i := 0) (v := (0 : Int32)) rfl (hX2_init.at 3 rfl rfl) ?_
  refine os_put fX2_9 rfl rfl (hX2_init.at 4 rfl rfl) ?_
  refine os_aload_n (i := 0) (q := 0) (v := l0) 0 rfl rfl (hX2_init.at 5 rfl rfl) ?_
  refine os_iconst (i := 0) (v := (0 : Int32)) rfl (hX2_init.at 6 rfl rfl) ?_
  refine os_put fX2_15 rfl rfl (hX2_init.at 7 rfl rfl) ?_
  refine os_aload_n (i := 0) (q := 0) (v := l0) 0 rfl rfl (hX2_init.at 8 rfl rfl) ?_
  refine os_iconst (i := 0) (v := (0 : Int32)) rfl (hX2_init.at 9 rfl rfl) ?_
  refine os_put fX2_18 rfl rfl (hX2_init.at 10 rfl rfl) ?_
  refine os_aload_n (i := 0) (q := 0) (v := l0) 0 rfl rfl (hX2_init.at 11 rfl rfl) ?_
  refine os_iconst (i := 0) (v := (0 : Int32)) rfl (hX2_init.at 12 rfl rfl) ?_
  refine os_put fX2_21 rfl rfl (hX2_init.at 13 rfl rfl) ?_
  refine os_aload_n (i := 0) (q := 0) (v := l0) 0 rfl rfl (hX2_init.at 14 rfl rfl) ?_
  refine os_iconst (i := 0) (v := (0 : Int32)) rfl (hX2_init.at 15 rfl rfl) ?_
  refine os_put fX2_24 rfl rfl (hX2_init.at 16 rfl rfl) ?_
  refine os_aload_n (i := 0) (q := 0) (v := l0) 0 rfl rfl (hX2_init.at 17 rfl rfl) ?_
  refine os_iconst (i := 0) (v := (0 : Int32)) rfl (hX2_init.at 18 rfl rfl) ?_
  refine os_put fX2_27 rfl rfl (hX2_init.at 19 rfl rfl) ?_
  refine os_aload_n (i := 0) (q := 0) (v := l0) 0 rfl rfl (hX2_init.at 20 rfl rfl) ?_
  refine os_bipush (i := 16) (v := (16 : Int32)) rfl (hX2_init.at 21 rfl rfl) ?_
  refine os_newarray (at9 := .int) (ty := .int) (t := 0) (N := 16) rfl rfl rfl wd248 (fun _ => rfl) (by decide) rfl (Nat.le_of_ble_eq_true rfl) (Nat.le_of_ble_eq_true rfl) (Nat.le_of_ble_eq_true rfl) (hX2_init.at 22 rfl rfl) (fun x1 => ?_)
  refine os_putF fX2_30 rfl (osHd1 rfl rfl) rfl rfl (hX2_init.at 23 rfl rfl) ?_
  refine os_aload_n (i := 0) (q := 0) (v := l0) 0 rfl rfl (hX2_init.at 24 rfl rfl) ?_
  refine os_bipush (i := 16) (v := (16 : Int32)) rfl (hX2_init.at 25 rfl rfl) ?_
  refine os_newarray (at9 := .int) (ty := .int) (t := 0) (N := 16) rfl rfl rfl wd248 (fun _ => rfl) (by decide) rfl (Nat.le_of_ble_eq_true rfl) (Nat.le_of_ble_eq_true rfl) (Nat.le_of_ble_eq_true rfl) (hX2_init.at 26 rfl rfl) (fun x2 => ?_)
  refine os_putF fX2_34 rfl (osHd1 rfl rfl) rfl rfl (hX2_init.at 27 rfl rfl) ?_
  refine os_aload_n (i := 0) (q := 0) (v := l0) 0 rfl rfl (hX2_init.at 28 rfl rfl) ?_
  refine os_bipush (i := 16) (v := (16 : Int32)) rfl (hX2_init.at 29 rfl rfl) ?_
  refine os_newarray (at9 := .int) (ty := .int) (t := 0) (N := 16) rfl rfl rfl wd248 (fun _ => rfl) (by decide) rfl (Nat.le_of_ble_eq_true rfl) (Nat.le_of_ble_eq_true rfl) (Nat.le_of_ble_eq_true rfl) (hX2_init.at 30 rfl rfl) (fun x3 => ?_)
  refine os_putF fX2_37 rfl (osHd1 rfl rfl) rfl rfl (hX2_init.at 31 rfl rfl) ?_
  refine os_aload_n (i := 0) (q := 0) (v := l0) 0 rfl rfl (hX2_init.at 32 rfl rfl) ?_
  refine os_bipush (i := 16) (v := (16 : Int32)) rfl (hX2_init.at 33 rfl rfl) ?_
  refine os_newarray (at9 := .int) (ty := .int) (t := 0) (N := 16) rfl rfl rfl wd248 (fun _ => rfl) (by decide) rfl (Nat.le_of_ble_eq_true rfl) (Nat.le_of_ble_eq_true rfl) (Nat.le_of_ble_eq_true rfl) (hX2_init.at 34 rfl rfl) (fun x4 => ?_)
  refine os_putF fX2_40 rfl (osHd1 rfl rfl) rfl rfl (hX2_init.at 35 rfl rfl) ?_
  refine os_aload_n (i := 0) (q := 0) (v := l0) 0 rfl rfl (hX2_init.at 36 rfl rfl) ?_
  refine os_bipush (i := 16) (v := (16 : Int32)) rfl (hX2_init.at 37 rfl rfl) ?_
  refine os_newarray (at9 := .int) (ty := .int) (t := 0) (N := 16) rfl rfl rfl wd248 (fun _ => rfl) (by decide) rfl (Nat.le_of_ble_eq_true rfl) (Nat.le_of_ble_eq_true rfl) (Nat.le_of_ble_eq_true rfl) (hX2_init.at 38 rfl rfl) (fun x5 => ?_)
  refine os_putF fX2_43 rfl (osHd1 rfl rfl) rfl rfl (hX2_init.at 39 rfl rfl) ?_
  refine os_aload_n (i := 0) (q := 0) (v := l0) 0 rfl rfl (hX2_init.at 40 rfl rfl) ?_
  refine os_bipush (i := 16) (v := (16 : Int32)) rfl (hX2_init.at 41 rfl rfl) ?_
  refine os_newarray (at9 := .int) (ty := .int) (t := 0) (N := 16) rfl rfl rfl wd248 (fun _ => rfl) (by decide) rfl (Nat.le_of_ble_eq_true rfl) (Nat.le_of_ble_eq_true rfl) (Nat.le_of_ble_eq_true rfl) (hX2_init.at 42 rfl rfl) (fun x6 => ?_)
  refine os_putF fX2_46 rfl (osHd1 rfl rfl) rfl rfl (hX2_init.at 43 rfl rfl) ?_
  refine os_aload_n (i := 0) (q := 0) (v := l0) 0 rfl rfl (hX2_init.at 44 rfl rfl) ?_
  refine os_bipush (i := 16) (v := (16 : Int32)) rfl (hX2_init.at 45 rfl rfl) ?_
  refine os_newarray (at9 := .int) (ty := .int) (t := 0) (N := 16) rfl rfl rfl wd248 (fun _ => rfl) (by decide) rfl (Nat.le_of_ble_eq_true rfl) (Nat.le_of_ble_eq_true rfl) (Nat.le_of_ble_eq_true rfl) (hX2_init.at 46 rfl rfl) (fun x7 => ?_)
  refine os_putF fX2_49 rfl (osHd1 rfl rfl) rfl rfl (hX2_init.at 47 rfl rfl) ?_
  refine os_aload_n (i := 0) (q := 0) (v := l0) 0 rfl rfl (hX2_init.at 48 rfl rfl) ?_
  refine os_bipush (i := 16) (v := (16 : Int32)) rfl (hX2_init.at 49 rfl rfl) ?_
  refine os_newarray (at9 := .int) (ty := .int) (t := 0) (N := 16) rfl rfl rfl wd248 (fun _ => rfl) (by decide) rfl (Nat.le_of_ble_eq_true rfl) (Nat.le_of_ble_eq_true rfl) (Nat.le_of_ble_eq_true rfl) (hX2_init.at 50 rfl rfl) (fun x8 => ?_)
  refine os_putF fX2_52 rfl (osHd1 rfl rfl) rfl rfl (hX2_init.at 51 rfl rfl) ?_
  refine os_aload_n (i := 0) (q := 0) (v := l0) 0 rfl rfl (hX2_init.at 52 rfl rfl) ?_
  refine os_bipush (i := 16) (v := (16 : Int32)) rfl (hX2_init.at 53 rfl rfl) ?_
  refine os_newarray (at9 := .int) (ty := .int) (t := 0) (N := 16) rfl rfl rfl wd248 (fun _ => rfl) (by decide) rfl (Nat.le_of_ble_eq_true rfl) (Nat.le_of_ble_eq_true rfl) (Nat.le_of_ble_eq_true rfl) (hX2_init.at 54 rfl rfl) (fun x9 => ?_)
  refine os_putF fX2_55 rfl (osHd1 rfl rfl) rfl rfl (hX2_init.at 55 rfl rfl) ?_
  refine os_aload_n (i := 0) (q := 0) (v := l0) 0 rfl rfl (hX2_init.at 56 rfl rfl) ?_
  refine os_bipush (i := 16) (v := (16 : Int32)) rfl (hX2_init.at 57 rfl rfl) ?_
  refine os_newarray (at9 := .int) (ty := .int) (t := 0) (N := 16) rfl rfl rfl wd248 (fun _ => rfl) (by decide) rfl (Nat.le_of_ble_eq_true rfl) (Nat.le_of_ble_eq_true rfl) (Nat.le_of_ble_eq_true rfl) (hX2_init.at 58 rfl rfl) (fun x10 => ?_)
  refine os_putF fX2_58 rfl (osHd1 rfl rfl) rfl rfl (hX2_init.at 59 rfl rfl) ?_
  exact os_vret (Nat.le_of_ble_eq_true rfl) (Nat.le_of_ble_eq_true rfl) (hX2_init.at 60 rfl rfl).1
-- X2_clear
def KX2_clear : List (Nat × Nat × Instr) := [(0, 1, .aload_n 0), (1, 1, .iconst 0), (2, 3, .putfield 9), (5, 1, .aload_n 0), (6, 1, .iconst 0), (7, 3, .putfield 15), (10, 1, .aload_n 0), (11, 1, .iconst 0), (12, 3, .putfield 18), (15, 1, .aload_n 0), (16, 1, .iconst 0), (17, 3, .putfield 21), (20, 1, .aload_n 0), (21, 1, .iconst 0), (22, 3, .putfield 24), (25, 1, .aload_n 0), (26, 1, .iconst 0), (27, 3, .putfield 27), (30, 1, .iconst 0), (31, 1, .istore_n 1), (32, 1, .iload_n 1), (33, 2, .bipush 16), (35, 3, .if_icmp .ge 72), (38, 1, .aload_n 0), (39, 3, .getfield 30), (42, 1, .iload_n 1), (43, 1, .iconst 0), (44, 1, .iastore), (45, 1, .aload_n 0), (46, 3, .getfield 34), (49, 1, .iload_n 1), (50, 1, .iconst 0), (51, 1, .iastore), (52, 1, .aload_n 0), (53, 3, .getfield 37), (56, 1, .iload_n 1), (57, 1, .iconst 0), (58, 1, .iastore), (59, 1, .aload_n 0), (60, 3, .getfield 40), (63, 1, .iload_n 1), (64, 1, .iconst 0), (65, 1, .iastore), (66, 1, .aload_n 0), (67, 3, .getfield 43), (70, 1, .iload_n 1), (71, 1, .iconst 0), (72, 1, .iastore), (73, 1, .aload_n 0), (74, 3, .getfield 46), (77, 1, .iload_n 1), (78, 1, .iconst 0), (79, 1, .iastore), (80, 1, .aload_n 0), (81, 3, .getfield 49), (84, 1, .iload_n 1), (85, 1, .iconst 0), (86, 1, .iastore), (87, 1, .aload_n 0), (88, 3, .getfield 52), (91, 1, .iload_n 1), (92, 1, .iconst 0), (93, 1, .iastore), (94, 1, .aload_n 0), (95, 3, .getfield 55), (98, 1, .iload_n 1), (99, 1, .iconst 0), (100, 1, .iastore), (101, 3, .iinc 1 1), (104, 3, .goto (-72)), (107, 1, .return_)]
theorem hX2_clear : osDs cX2_clear KX2_clear := by
  show ∀ q ∈ KX2_clear, decode cX2_clear q.1 = .ok (q.2.2, q.2.1)
  decide +kernel
def bX2_clear_32 (N : Nat) (c32 : Nat × Int32 → osM Unit) (l0 : Nat) (l1 : Int32) : osM Unit := osite ((16 : Int32) ≤ l1) (osret ()) (osbind (osgR [2] 6 l0) fun x1 => osbind (ossI 0 x1 l1 (0 : Int32)) fun _ => osbind (osgR [2] 7 l0) fun x2 => osbind (ossI 0 x2 l1 (0 : Int32)) fun _ => osbind (osgR [2] 8 l0) fun x3 => osbind (ossI 0 x3 l1 (0 : Int32)) fun _ => osbind (osgR [2] 9 l0) fun x4 => osbind (ossI 0 x4 l1 (0 : Int32)) fun _ => osbind (osgR [2] 10 l0) fun x5 => osbind (ossI 0 x5 l1 (0 : Int32)) fun _ => osbind (osgR [2] 11 l0) fun x6 => osbind (ossI 0 x6 l1 (0 : Int32)) fun _ => osbind (osgR [2] 12 l0) fun x7 => osbind (ossI 0 x7 l1 (0 : Int32)) fun _ => osbind (osgR [2] 13 l0) fun x8 => osbind (ossI 0 x8 l1 (0 : Int32)) fun _ => osbind (osgR [2] 14 l0) fun x9 => osbind (ossI 0 x9 l1 (0 : Int32)) fun _ => c32 (l0, (l1 + (1 : Int32))))
def qX2_clear_32 (N : Nat) : Nat × Int32 → osM Unit := osloop (fun ih p => bX2_clear_32 N ih p.1 p.2) N
def qX2_clear (N : Nat) (l0 : Nat) : osM Unit := osbind (osput [2] 0 l0 (.int (0 : Int32))) fun _ => osbind (osput [2] 1 l0 (.int (0 : Int32))) fun _ => osbind (osput [2] 2 l0 (.int (0 : Int32))) fun _ => osbind (osput [2] 3 l0 (.int (0 : Int32))) fun _ => osbind (osput [2] 4 l0 (.int (0 : Int32))) fun _ => osbind (osput [2] 5 l0 (.int (0 : Int32))) fun _ => qX2_clear_32 N (l0, (0 : Int32))
set_option maxRecDepth 100000 in
set_option maxHeartbeats 4000000 in
theorem tX2_clear_32 (N : Nat) (c32 : Nat × Int32 → osM Unit) (g32 : ∀ (l0 : Nat) (l1 : Int32), osW (osFinM (fun _ : Unit => none) 0 0) yX2_clear cX2_clear 2 none [] { frames := 0, cells := 0, slots := 0, locals := 0 } 0 0 32 [(0, .ref l0), (1, .int l1)] [] (c32 (l0, l1))) (l0 : Nat) (l1 : Int32) : osW (osFinM (fun _ : Unit => none) 0 0) yX2_clear cX2_clear 2 none [] { frames := 0, cells := 0, slots := 0, locals := 0 } 0 0 32 [(0, .ref l0), (1, .int l1)] [] (bX2_clear_32 N c32 l0 l1) := by
  unfold bX2_clear_32
  refine os_iload_n (i := 1) (q := 1) (v := l1) 1 rfl rfl (hX2_clear.at 20 rfl rfl) ?_
  refine os_bipush (i := 16) (v := (16 : Int32)) rfl (hX2_clear.at 21 rfl rfl) ?_
  refine os_icmp_ge (off := 72) (tgt := 107) rfl (hX2_clear.at 22 rfl rfl) ?_ ?_
  · exact os_vret (Nat.le_of_ble_eq_true rfl) (Nat.le_of_ble_eq_true rfl) (hX2_clear.at 70 rfl rfl).1
  · refine os_aload_n (i := 0) (q := 0) (v := l0) 0 rfl rfl (hX2_clear.at 23 rfl rfl) ?_
    refine os_getR fX2_30 (hX2_clear.at 24 rfl rfl) (fun x1 => ?_)
    refine os_iload_n (i := 1) (q := 1) (v := l1) 1 rfl rfl (hX2_clear.at 25 rfl rfl) ?_
    refine os_iconst (i := 0) (v := (0 : Int32)) rfl (hX2_clear.at 26 rfl rfl) ?_
    refine os_iastore (hX2_clear.at 27 rfl rfl) ?_
    refine os_aload_n (i := 0) (q := 0) (v := l0) 0 rfl rfl (hX2_clear.at 28 rfl rfl) ?_
    refine os_getR fX2_34 (hX2_clear.at 29 rfl rfl) (fun x2 => ?_)
    refine os_iload_n (i := 1) (q := 1) (v := l1) 1 rfl rfl (hX2_clear.at 30 rfl rfl) ?_
    refine os_iconst (i := 0) (v := (0 : Int32)) rfl (hX2_clear.at 31 rfl rfl) ?_
    refine os_iastore (hX2_clear.at 32 rfl rfl) ?_
    refine os_aload_n (i := 0) (q := 0) (v := l0) 0 rfl rfl (hX2_clear.at 33 rfl rfl) ?_
    refine os_getR fX2_37 (hX2_clear.at 34 rfl rfl) (fun x3 => ?_)
    refine os_iload_n (i := 1) (q := 1) (v := l1) 1 rfl rfl (hX2_clear.at 35 rfl rfl) ?_
    refine os_iconst (i := 0) (v := (0 : Int32)) rfl (hX2_clear.at 36 rfl rfl) ?_
    refine os_iastore (hX2_clear.at 37 rfl rfl) ?_
    refine os_aload_n (i := 0) (q := 0) (v := l0) 0 rfl rfl (hX2_clear.at 38 rfl rfl) ?_
    refine os_getR fX2_40 (hX2_clear.at 39 rfl rfl) (fun x4 => ?_)
    refine os_iload_n (i := 1) (q := 1) (v := l1) 1 rfl rfl (hX2_clear.at 40 rfl rfl) ?_
    refine os_iconst (i := 0) (v := (0 : Int32)) rfl (hX2_clear.at 41 rfl rfl) ?_
    refine os_iastore (hX2_clear.at 42 rfl rfl) ?_
    refine os_aload_n (i := 0) (q := 0) (v := l0) 0 rfl rfl (hX2_clear.at 43 rfl rfl) ?_
    refine os_getR fX2_43 (hX2_clear.at 44 rfl rfl) (fun x5 => ?_)
    refine os_iload_n (i := 1) (q := 1) (v := l1) 1 rfl rfl (hX2_clear.at 45 rfl rfl) ?_
    refine os_iconst (i := 0) (v := (0 : Int32)) rfl (hX2_clear.at 46 rfl rfl) ?_
    refine os_iastore (hX2_clear.at 47 rfl rfl) ?_
    refine os_aload_n (i := 0) (q := 0) (v := l0) 0 rfl rfl (hX2_clear.at 48 rfl rfl) ?_
    refine os_getR fX2_46 (hX2_clear.at 49 rfl rfl) (fun x6 => ?_)
    refine os_iload_n (i := 1) (q := 1) (v := l1) 1 rfl rfl (hX2_clear.at 50 rfl rfl) ?_
    refine os_iconst (i := 0) (v := (0 : Int32)) rfl (hX2_clear.at 51 rfl rfl) ?_
    refine os_iastore (hX2_clear.at 52 rfl rfl) ?_
    refine os_aload_n (i := 0) (q := 0) (v := l0) 0 rfl rfl (hX2_clear.at 53 rfl rfl) ?_
    refine os_getR fX2_49 (hX2_clear.at 54 rfl rfl) (fun x7 => ?_)
    refine os_iload_n (i := 1) (q := 1) (v := l1) 1 rfl rfl (hX2_clear.at 55 rfl rfl) ?_
    refine os_iconst (i := 0) (v := (0 : Int32)) rfl (hX2_clear.at 56 rfl rfl) ?_
    refine os_iastore (hX2_clear.at 57 rfl rfl) ?_
    refine os_aload_n (i := 0) (q := 0) (v := l0) 0 rfl rfl (hX2_clear.at 58 rfl rfl) ?_
    refine os_getR fX2_52 (hX2_clear.at 59 rfl rfl) (fun x8 => ?_)
    refine os_iload_n (i := 1) (q := 1) (v := l1) 1 rfl rfl (hX2_clear.at 60 rfl rfl) ?_
    refine os_iconst (i := 0) (v := (0 : Int32)) rfl (hX2_clear.at 61 rfl rfl) ?_
    refine os_iastore (hX2_clear.at 62 rfl rfl) ?_
    refine os_aload_n (i := 0) (q := 0) (v := l0) 0 rfl rfl (hX2_clear.at 63 rfl rfl) ?_
    refine os_getR fX2_55 (hX2_clear.at 64 rfl rfl) (fun x9 => ?_)
    refine os_iload_n (i := 1) (q := 1) (v := l1) 1 rfl rfl (hX2_clear.at 65 rfl rfl) ?_
    refine os_iconst (i := 0) (v := (0 : Int32)) rfl (hX2_clear.at 66 rfl rfl) ?_
    refine os_iastore (hX2_clear.at 67 rfl rfl) ?_
    refine os_iinc (i := 1) (d := 1) (x := l1) (v := (1 : Int32)) (lv' := [(1, .int (l1 + (1 : Int32))), (0, .ref l0)]) 1 rfl rfl (Nat.le_of_ble_eq_true rfl) rfl (hX2_clear.at 68 rfl rfl) ?_
    refine os_goto (off := (-72)) (tgt := 32) rfl (hX2_clear.at 69 rfl rfl) ?_
    exact osW.sub [1, 0] rfl (g32 l0 (l1 + (1 : Int32)))
set_option maxRecDepth 100000 in
set_option maxHeartbeats 4000000 in
theorem sX2_clear_32 (N : Nat) (l0 : Nat) (l1 : Int32) : osW (osFinM (fun _ : Unit => none) 0 0) yX2_clear cX2_clear 2 none [] { frames := 0, cells := 0, slots := 0, locals := 0 } 0 0 32 [(0, .ref l0), (1, .int l1)] [] (qX2_clear_32 N (l0, l1)) :=
  osloop_W (lvf := fun p => [(0, .ref p.1), (1, .int p.2)]) (stf := fun p => []) (fun ih g p => tX2_clear_32 N ih (fun l0 l1 => g (l0, l1)) p.1 p.2) N (l0, l1)
set_option maxRecDepth 100000 in
set_option maxHeartbeats 4000000 in
theorem sX2_clear (N : Nat) (l0 : Nat) : osMet yX2_clear cX2_clear 2 none 0 0 0 0 (fun _ : Unit => none) [.ref l0] (qX2_clear N l0) := by
  refine osMet.of plX2 (Nat.le_of_ble_eq_true rfl) (osW.rw (lv2 := [(0, .ref l0)]) ?_ rfl rfl rfl)
  unfold qX2_clear
  refine os_aload_n (i := 0) (q := 0) (v := l0) 0 rfl rfl (hX2_clear.at 0 rfl rfl) ?_
  refine os_iconst (i := 0) (v := (0 : Int32)) rfl (hX2_clear.at 1 rfl rfl) ?_
  refine os_put fX2_9 rfl rfl (hX2_clear.at 2 rfl rfl) ?_
  refine os_aload_n (i := 0) (q := 0) (v := l0) 0 rfl rfl (hX2_clear.at 3 rfl rfl) ?_
  refine os_iconst (i := 0) (v := (0 : Int32)) rfl (hX2_clear.at 4 rfl rfl) ?_
  refine os_put fX2_15 rfl rfl (hX2_clear.at 5 rfl rfl) ?_
  refine os_aload_n (i := 0) (q := 0) (v := l0) 0 rfl rfl (hX2_clear.at 6 rfl rfl) ?_
  refine os_iconst (i := 0) (v := (0 : Int32)) rfl (hX2_clear.at 7 rfl rfl) ?_
  refine os_put fX2_18 rfl rfl (hX2_clear.at 8 rfl rfl) ?_
  refine os_aload_n (i := 0) (q := 0) (v := l0) 0 rfl rfl (hX2_clear.at 9 rfl rfl) ?_
  refine os_iconst (i := 0) (v := (0 : Int32)) rfl (hX2_clear.at 10 rfl rfl) ?_
  refine os_put fX2_21 rfl rfl (hX2_clear.at 11 rfl rfl) ?_
  refine os_aload_n (i := 0) (q := 0) (v := l0) 0 rfl rfl (hX2_clear.at 12 rfl rfl) ?_
  refine os_iconst (i := 0) (v := (0 : Int32)) rfl (hX2_clear.at 13 rfl rfl) ?_
  refine os_put fX2_24 rfl rfl (hX2_clear.at 14 rfl rfl) ?_
  refine os_aload_n (i := 0) (q := 0) (v := l0) 0 rfl rfl (hX2_clear.at 15 rfl rfl) ?_
  refine os_iconst (i := 0) (v := (0 : Int32)) rfl (hX2_clear.at 16 rfl rfl) ?_
  refine os_put fX2_27 rfl rfl (hX2_clear.at 17 rfl rfl) ?_
  refine os_iconst (i := 0) (v := (0 : Int32)) rfl (hX2_clear.at 18 rfl rfl) ?_
  refine os_istore_n (i := 1) (q := 1) rfl (lv' := [(1, .int (0 : Int32)), (0, .ref l0)]) (Nat.le_of_ble_eq_true rfl) rfl (hX2_clear.at 19 rfl rfl) ?_
  exact osW.sub [1, 0] rfl (sX2_clear_32 N l0 (0 : Int32))
-- X2_linkSupport
def KX2_linkSupport : List (Nat × Nat × Instr) := [(0, 1, .aload_n 1), (1, 3, .getfield 80), (4, 1, .iload_n 2), (5, 3, .invokestatic 104), (8, 1, .istore_n 3), (9, 1, .aload_n 1), (10, 3, .getfield 101), (13, 1, .iload_n 2), (14, 3, .invokestatic 104), (17, 2, .istore 4), (19, 1, .aload_n 1), (20, 3, .getfield 112), (23, 1, .iload_n 2), (24, 3, .invokestatic 104), (27, 2, .istore 5), (29, 1, .iload_n 3), (30, 1, .iconst 2), (31, 3, .if_icmp .eq 9), (34, 1, .iload_n 3), (35, 1, .iconst 3), (36, 3, .if_icmp .eq 4), (39, 1, .return_), (40, 1, .aload_n 0), (41, 1, .dup), (42, 3, .getfield 24), (45, 1, .iload_n 2), (46, 3, .invokestatic 76), (49, 1, .ior), (50, 3, .putfield 24), (53, 1, .iload_n 3), (54, 1, .iconst 3), (55, 3, .if_icmp .ne 40), (58, 1, .aload_n 0), (59, 3, .getfield 15), (62, 2, .iload 4), (64, 3, .invokestatic 87), (67, 3, .ifCond .eq 24), (70, 1, .aload_n 0), (71, 3, .getfield 30), (74, 2, .iload 4), (76, 3, .invokestatic 104), (79, 2, .iload 5), (81, 3, .invokestatic 76), (84, 3, .if_icmp .ne 7), (87, 1, .iconst 1), (88, 3, .goto 36), (91, 1, .iconst 0), (92, 3, .goto 32), (95, 1, .aload_n 0), (96, 3, .getfield 9), (99, 2, .iload 4), (101, 3, .invokestatic 87), (104, 3, .ifCond .eq 19), (107, 1, .aload_n 0), (108, 3, .getfield 15), (111, 2, .iload 4), (113, 3, .invokestatic 87), (116, 3, .ifCond .ne 7), (119, 1, .iconst 1), (120, 3, .goto 4), (123, 1, .iconst 0), (124, 2, .istore 6), (126, 2, .iload 6), (128, 3, .ifCond .eq 25), (131, 2, .iload 4), (133, 3, .ifCond .lt 20), (136, 2, .iload 4), (138, 2, .bipush 16), (140, 3, .if_icmp .ge 13), (143, 1, .iload_n 2), (144, 3, .ifCond .lt 9), (147, 1, .iload_n 2), (148, 2, .bipush 16), (150, 3, .if_icmp .lt 4), (153, 1, .return_), (154, 1, .aload_n 0), (155, 1, .dup), (156, 3, .getfield 27), (159, 1, .iload_n 2), (160, 3, .invokestatic 76), (163, 1, .ior), (164, 3, .putfield 27), (167, 1, .aload_n 0), (168, 3, .getfield 37), (171, 2, .iload 4), (173, 1, .dup2), (174, 1, .iaload), (175, 1, .iload_n 2), (176, 3, .invokestatic 76), (179, 1, .ior), (180, 1, .iastore), (181, 1, .iload_n 3), (182, 1, .iconst 3), (183, 3, .if_icmp .ne 8), (186, 2, .iload 5), (188, 3, .goto 5), (191, 2, .iload 4), (193, 2, .istore 7), (195, 1, .iconst 0), (196, 2, .istore 8), (198, 2, .iload 8), (200, 2, .bipush 16), (202, 3, .if_icmp .ge 62), (205, 1, .aload_n 0), (206, 3, .getfield 30), (209, 2, .iload 8), (211, 1, .iaload), (212, 1, .iload_n 2), (213, 3, .invokestatic 76), (216, 3, .if_icmp .ne 42), (219, 2, .iload 8), (221, 2, .iload 7), (223, 3, .if_icmp .eq 35), (226, 1, .aload_n 1), (227, 3, .getfield 115), (230, 2, .iload 8), (232, 1, .iaload), (233, 1, .aload_n 1), (234, 3, .getfield 115), (237, 1, .iload_n 2), (238, 3, .invokestatic 104), (241, 3, .if_icmp .eq 17), (244, 1, .aload_n 0), (245, 3, .getfield 46), (248, 1, .iload_n 2), (249, 1, .dup2), (250, 1, .iaload), (251, 2, .iload 8), (253, 3, .invokestatic 76), (256, 1, .ior), (257, 1, .iastore), (258, 3, .iinc 8 1), (261, 3, .goto (-63)), (264, 1, .return_)]
theorem hX2_linkSupport : osDs cX2_linkSupport KX2_linkSupport := by
  show ∀ q ∈ KX2_linkSupport, decode cX2_linkSupport q.1 = .ok (q.2.2, q.2.1)
  decide +kernel
def qX2_linkSupport_153 (N : Nat) : osM Unit := osret ()
def qX2_linkSupport_258 (N : Nat) (c198 : Nat × Nat × Int32 × Int32 × Int32 → osM Unit) (l0 : Nat) (l1 : Nat) (l2 : Int32) (l7 : Int32) (l8 : Int32) : osM Unit := c198 (l0, l1, l2, l7, (l8 + (1 : Int32)))
def bX2_linkSupport_198 (N : Nat) (c198 : Nat × Nat × Int32 × Int32 × Int32 → osM Unit) (l0 : Nat) (l1 : Nat) (l2 : Int32) (l7 : Int32) (l8 : Int32) : osM Unit := osite ((16 : Int32) ≤ l8) (osret ()) (osbind (osgR [2] 6 l0) fun x1 => osbind (osaI 0 x1 l8) fun x2 => osbind (qX9_bit N l2) fun x3 => osite (x2 = x3) (osite (l8 = l7) (qX2_linkSupport_258 N c198 l0 l1 l2 l7 l8) (osbind (osgR [5] 6 l1) fun x4 => osbind (osaI 0 x4 l8) fun x5 => osbind (osgR [5] 6 l1) fun x6 => osbind (qX9_entry N x6 l2) fun x7 => osite (x5 = x7) (qX2_linkSupport_258 N c198 l0 l1 l2 l7 l8) (osbind (osgR [2] 11 l0) fun x8 => osbind (osaI 0 x8 l2) fun x9 => osbind (qX9_bit N l8) fun x10 => osbind (ossI 0 x8 l2 (x9 ||| x10)) fun _ => qX2_linkSupport_258 N c198 l0 l1 l2 l7 l8))) (qX2_linkSupport_258 N c198 l0 l1 l2 l7 l8))
def qX2_linkSupport_198 (N : Nat) : Nat × Nat × Int32 × Int32 × Int32 → osM Unit := osloop (fun ih p => bX2_linkSupport_198 N ih p.1 p.2.1 p.2.2.1 p.2.2.2.1 p.2.2.2.2) N
def qX2_linkSupport_193 (N : Nat) (l0 : Nat) (l1 : Nat) (l2 : Int32) (k0 : Int32) : osM Unit := qX2_linkSupport_198 N (l0, l1, l2, k0, (0 : Int32))
def qX2_linkSupport_124 (N : Nat) (l0 : Nat) (l1 : Nat) (l2 : Int32) (l3 : Int32) (l4 : Int32) (l5 : Int32) (k0 : Int32) : osM Unit := osite (k0 = 0) (qX2_linkSupport_153 N ) (osite (l4 < 0) (qX2_linkSupport_153 N ) (osite ((16 : Int32) ≤ l4) (qX2_linkSupport_153 N ) (osite (l2 < 0) (qX2_linkSupport_153 N ) (osite (l2 < (16 : Int32)) (osbind (osgI [2] 5 l0) fun x1 => osbind (qX9_bit N l2) fun x2 => osbind (osput [2] 5 l0 (.int (x1 ||| x2))) fun _ => osbind (osgR [2] 8 l0) fun x3 => osbind (osaI 0 x3 l4) fun x4 => osbind (qX9_bit N l2) fun x5 => osbind (ossI 0 x3 l4 (x4 ||| x5)) fun _ => osite (l3 = (3 : Int32)) (qX2_linkSupport_193 N l0 l1 l2 l5) (qX2_linkSupport_193 N l0 l1 l2 l4)) (qX2_linkSupport_153 N )))))
def qX2_linkSupport_123 (N : Nat) (l0 : Nat) (l1 : Nat) (l2 : Int32) (l3 : Int32) (l4 : Int32) (l5 : Int32) : osM Unit := qX2_linkSupport_124 N l0 l1 l2 l3 l4 l5 (0 : Int32)
def qX2_linkSupport_91 (N : Nat) (l0 : Nat) (l1 : Nat) (l2 : Int32) (l3 : Int32) (l4 : Int32) (l5 : Int32) : osM Unit := qX2_linkSupport_124 N l0 l1 l2 l3 l4 l5 (0 : Int32)
def qX2_linkSupport_40 (N : Nat) (l0 : Nat) (l1 : Nat) (l2 : Int32) (l3 : Int32) (l4 : Int32) (l5 : Int32) : osM Unit := osbind (osgI [2] 4 l0) fun x1 => osbind (qX9_bit N l2) fun x2 => osbind (osput [2] 4 l0 (.int (x1 ||| x2))) fun _ => osite (l3 = (3 : Int32)) (osbind (osgI [2] 1 l0) fun x7 => osbind (qX9_has N x7 l4) fun x8 => osite (x8 = 0) (qX2_linkSupport_91 N l0 l1 l2 l3 l4 l5) (osbind (osgR [2] 6 l0) fun x9 => osbind (qX9_entry N x9 l4) fun x10 => osbind (qX9_bit N l5) fun x11 => osite (x10 = x11) (qX2_linkSupport_124 N l0 l1 l2 l3 l4 l5 (1 : Int32)) (qX2_linkSupport_91 N l0 l1 l2 l3 l4 l5))) (osbind (osgI [2] 0 l0) fun x3 => osbind (qX9_has N x3 l4) fun x4 => osite (x4 = 0) (qX2_linkSupport_123 N l0 l1 l2 l3 l4 l5) (osbind (osgI [2] 1 l0) fun x5 => osbind (qX9_has N x5 l4) fun x6 => osite (x6 = 0) (qX2_linkSupport_124 N l0 l1 l2 l3 l4 l5 (1 : Int32)) (qX2_linkSupport_123 N l0 l1 l2 l3 l4 l5)))
def qX2_linkSupport (N : Nat) (l0 : Nat) (l1 : Nat) (l2 : Int32) : osM Unit := osbind (osgR [5] 12 l1) fun x1 => osbind (qX9_entry N x1 l2) fun x2 => osbind (osgR [5] 13 l1) fun x3 => osbind (qX9_entry N x3 l2) fun x4 => osbind (osgR [5] 14 l1) fun x5 => osbind (qX9_entry N x5 l2) fun x6 => osite (x2 = (2 : Int32)) (qX2_linkSupport_40 N l0 l1 l2 x2 x4 x6) (osite (x2 = (3 : Int32)) (qX2_linkSupport_40 N l0 l1 l2 x2 x4 x6) (osret ()))
set_option maxRecDepth 100000 in
set_option maxHeartbeats 4000000 in
theorem sX2_linkSupport_153 (N : Nat) : osW (osFinM (fun _ : Unit => none) 0 0) yX2_linkSupport cX2_linkSupport 9 none [] { frames := 1, cells := 0, slots := 0, locals := 21 } 0 0 153 [] [] (qX2_linkSupport_153 N) := by
  unfold qX2_linkSupport_153
  exact os_vret (Nat.le_of_ble_eq_true rfl) (Nat.le_of_ble_eq_true rfl) (hX2_linkSupport.at 74 rfl rfl).1
set_option maxRecDepth 100000 in
set_option maxHeartbeats 4000000 in
theorem sX2_linkSupport_258 (N : Nat) (c198 : Nat × Nat × Int32 × Int32 × Int32 → osM Unit) (g198 : ∀ (l0 : Nat) (l1 : Nat) (l2 : Int32) (l7 : Int32) (l8 : Int32), osW (osFinM (fun _ : Unit => none) 0 0) yX2_linkSupport cX2_linkSupport 9 none [] { frames := 1, cells := 0, slots := 0, locals := 21 } 0 0 198 [(0, .ref l0), (1, .ref l1), (2, .int l2), (7, .int l7), (8, .int l8)] [] (c198 (l0, l1, l2, l7, l8))) (l0 : Nat) (l1 : Nat) (l2 : Int32) (l7 : Int32) (l8 : Int32) : osW (osFinM (fun _ : Unit => none) 0 0) yX2_linkSupport cX2_linkSupport 9 none [] { frames := 1, cells := 0, slots := 0, locals := 21 } 0 0 258 [(0, .ref l0), (1, .ref l1), (2, .int l2), (7, .int l7), (8, .int l8)] [] (qX2_linkSupport_258 N c198 l0 l1 l2 l7 l8) := by
  unfold qX2_linkSupport_258
  refine os_iinc (i := 8) (d := 1) (x := l8) (v := (1 : Int32)) (lv' := [(8, .int (l8 + (1 : Int32))), (0, .ref l0), (1, .ref l1), (2, .int l2), (7, .int l7)]) 4 rfl rfl (Nat.le_of_ble_eq_true rfl) rfl (hX2_linkSupport.at 131 rfl rfl) ?_
  refine os_goto (off := (-63)) (tgt := 198) rfl (hX2_linkSupport.at 132 rfl rfl) ?_
  exact osW.sub [1, 2, 3, 4, 0] rfl (g198 l0 l1 l2 l7 (l8 + (1 : Int32)))
set_option maxRecDepth 100000 in
set_option maxHeartbeats 4000000 in
theorem tX2_linkSupport_198 (N : Nat) (c198 : Nat × Nat × Int32 × Int32 × Int32 → osM Unit) (g198 : ∀ (l0 : Nat) (l1 : Nat) (l2 : Int32) (l7 : Int32) (l8 : Int32), osW (osFinM (fun _ : Unit => none) 0 0) yX2_linkSupport cX2_linkSupport 9 none [] { frames := 1, cells := 0, slots := 0, locals := 21 } 0 0 198 [(0, .ref l0), (1, .ref l1), (2, .int l2), (7, .int l7), (8, .int l8)] [] (c198 (l0, l1, l2, l7, l8))) (l0 : Nat) (l1 : Nat) (l2 : Int32) (l7 : Int32) (l8 : Int32) : osW (osFinM (fun _ : Unit => none) 0 0) yX2_linkSupport cX2_linkSupport 9 none [] { frames := 1, cells := 0, slots := 0, locals := 21 } 0 0 198 [(0, .ref l0), (1, .ref l1), (2, .int l2), (7, .int l7), (8, .int l8)] [] (bX2_linkSupport_198 N c198 l0 l1 l2 l7 l8) := by
  unfold bX2_linkSupport_198
  refine os_iload (v := l8) 4 rfl (hX2_linkSupport.at 100 rfl rfl) ?_
  refine os_bipush (i := 16) (v := (16 : Int32)) rfl (hX2_linkSupport.at 101 rfl rfl) ?_
  refine os_icmp_ge (off := 62) (tgt := 264) rfl (hX2_linkSupport.at 102 rfl rfl) ?_ ?_
  · exact os_vret (Nat.le_of_ble_eq_true rfl) (Nat.le_of_ble_eq_true rfl) (hX2_linkSupport.at 133 rfl rfl).1
  · refine os_aload_n (i := 0) (q := 0) (v := l0) 0 rfl rfl (hX2_linkSupport.at 103 rfl rfl) ?_
    refine os_getR fX2_30 (hX2_linkSupport.at 104 rfl rfl) (fun x1 => ?_)
    refine os_iload (v := l8) 4 rfl (hX2_linkSupport.at 105 rfl rfl) ?_
    refine os_iaload (hX2_linkSupport.at 106 rfl rfl) (fun x2 => ?_)
    refine os_iload_n (i := 2) (q := 2) (v := l2) 2 rfl rfl (hX2_linkSupport.at 107 rfl rfl) ?_
    refine os_callSN (host := "OrderSettler") (As := [.int l2]) (st := [.int x2]) (st' := (fun r => .int r :: [.int x2])) mdX9_bit wd1307 wd712 (sX9_bit N l2) rfl rfl (fun _ => rfl) (Nat.le_of_ble_eq_true rfl) (Nat.le_of_ble_eq_true rfl) (Nat.le_of_ble_eq_true rfl) rfl (Nat.le_of_ble_eq_true rfl) rfl (Nat.le_of_ble_eq_true rfl) (hX2_linkSupport.at 108 rfl rfl) (fun x3 => ?_)
    refine os_icmp_ne (off := 42) (tgt := 258) rfl (hX2_linkSupport.at 109 rfl rfl) ?_ ?_
    · exact osW.sub [0, 1, 2, 3, 4] rfl (sX2_linkSupport_258 N c198 g198 l0 l1 l2 l7 l8)
    · refine os_iload (v := l8) 4 rfl (hX2_linkSupport.at 110 rfl rfl) ?_
      refine os_iload (v := l7) 3 rfl (hX2_linkSupport.at 111 rfl rfl) ?_
      refine os_icmp_eq (off := 35) (tgt := 258) rfl (hX2_linkSupport.at 112 rfl rfl) ?_ ?_
      · exact osW.sub [0, 1, 2, 3, 4] rfl (sX2_linkSupport_258 N c198 g198 l0 l1 l2 l7 l8)
      · refine os_aload_n (i := 1) (q := 1) (v := l1) 1 rfl rfl (hX2_linkSupport.at 113 rfl rfl) ?_
        refine os_getR fX2_115 (hX2_linkSupport.at 114 rfl rfl) (fun x4 => ?_)
        refine os_iload (v := l8) 4 rfl (hX2_linkSupport.at 115 rfl rfl) ?_
        refine os_iaload (hX2_linkSupport.at 116 rfl rfl) (fun x5 => ?_)
        refine os_aload_n (i := 1) (q := 1) (v := l1) 1 rfl rfl (hX2_linkSupport.at 117 rfl rfl) ?_
        refine os_getR fX2_115 (hX2_linkSupport.at 118 rfl rfl) (fun x6 => ?_)
        refine os_iload_n (i := 2) (q := 2) (v := l2) 2 rfl rfl (hX2_linkSupport.at 119 rfl rfl) ?_
        refine os_callSN (host := "OrderSettler") (As := [.ref x6, .int l2]) (st := [.int x5]) (st' := (fun r => .int r :: [.int x5])) mdX9_entry wd1312 wd784 (sX9_entry N x6 l2) rfl rfl (fun _ => rfl) (Nat.le_of_ble_eq_true rfl) (Nat.le_of_ble_eq_true rfl) (Nat.le_of_ble_eq_true rfl) rfl (Nat.le_of_ble_eq_true rfl) rfl (Nat.le_of_ble_eq_true rfl) (hX2_linkSupport.at 120 rfl rfl) (fun x7 => ?_)
        refine os_icmp_eq (off := 17) (tgt := 258) rfl (hX2_linkSupport.at 121 rfl rfl) ?_ ?_
        · exact osW.sub [0, 1, 2, 3, 4] rfl (sX2_linkSupport_258 N c198 g198 l0 l1 l2 l7 l8)
        · refine os_aload_n (i := 0) (q := 0) (v := l0) 0 rfl rfl (hX2_linkSupport.at 122 rfl rfl) ?_
          refine os_getR fX2_46 (hX2_linkSupport.at 123 rfl rfl) (fun x8 => ?_)
          refine os_iload_n (i := 2) (q := 2) (v := l2) 2 rfl rfl (hX2_linkSupport.at 124 rfl rfl) ?_
          refine os_dup2_11 rfl rfl (hX2_linkSupport.at 125 rfl rfl) ?_
          refine os_iaload (hX2_linkSupport.at 126 rfl rfl) (fun x9 => ?_)
          refine os_iload (v := l8) 4 rfl (hX2_linkSupport.at 127 rfl rfl) ?_
          refine os_callSN (host := "OrderSettler") (As := [.int l8]) (st := [.int x9, .int l2, .ref x8]) (st' := (fun r => .int r :: [.int x9, .int l2, .ref x8])) mdX9_bit wd1307 wd712 (sX9_bit N l8) rfl rfl (fun _ => rfl) (Nat.le_of_ble_eq_true rfl) (Nat.le_of_ble_eq_true rfl) (Nat.le_of_ble_eq_true rfl) rfl (Nat.le_of_ble_eq_true rfl) rfl (Nat.le_of_ble_eq_true rfl) (hX2_linkSupport.at 128 rfl rfl) (fun x10 => ?_)
          refine os_ior (hX2_linkSupport.at 129 rfl rfl) ?_
          refine os_iastore (hX2_linkSupport.at 130 rfl rfl) ?_
          exact osW.sub [0, 1, 2, 3, 4] rfl (sX2_linkSupport_258 N c198 g198 l0 l1 l2 l7 l8)
set_option maxRecDepth 100000 in
set_option maxHeartbeats 4000000 in
theorem sX2_linkSupport_198 (N : Nat) (l0 : Nat) (l1 : Nat) (l2 : Int32) (l7 : Int32) (l8 : Int32) : osW (osFinM (fun _ : Unit => none) 0 0) yX2_linkSupport cX2_linkSupport 9 none [] { frames := 1, cells := 0, slots := 0, locals := 21 } 0 0 198 [(0, .ref l0), (1, .ref l1), (2, .int l2), (7, .int l7), (8, .int l8)] [] (qX2_linkSupport_198 N (l0, l1, l2, l7, l8)) :=
  osloop_W (lvf := fun p => [(0, .ref p.1), (1, .ref p.2.1), (2, .int p.2.2.1), (7, .int p.2.2.2.1), (8, .int p.2.2.2.2)]) (stf := fun p => []) (fun ih g p => tX2_linkSupport_198 N ih (fun l0 l1 l2 l7 l8 => g (l0, l1, l2, l7, l8)) p.1 p.2.1 p.2.2.1 p.2.2.2.1 p.2.2.2.2) N (l0, l1, l2, l7, l8)
set_option maxRecDepth 100000 in
set_option maxHeartbeats 4000000 in
theorem sX2_linkSupport_193 (N : Nat) (l0 : Nat) (l1 : Nat) (l2 : Int32) (k0 : Int32) : osW (osFinM (fun _ : Unit => none) 0 0) yX2_linkSupport cX2_linkSupport 9 none [] { frames := 1, cells := 0, slots := 0, locals := 21 } 0 0 193 [(0, .ref l0), (1, .ref l1), (2, .int l2)] [.int k0] (qX2_linkSupport_193 N l0 l1 l2 k0) := by
  unfold qX2_linkSupport_193
  refine os_istore (i := 7) (lv' := [(7, .int k0), (0, .ref l0), (1, .ref l1), (2, .int l2)]) (Nat.le_of_ble_eq_true rfl) rfl (hX2_linkSupport.at 97 rfl rfl) ?_
  refine os_iconst (i := 0) (v := (0 : Int32)) rfl (hX2_linkSupport.at 98 rfl rfl) ?_
  refine os_istore (i := 8) (lv' := [(8, .int (0 : Int32)), (7, .int k0), (0, .ref l0), (1, .ref l1), (2, .int l2)]) (Nat.le_of_ble_eq_true rfl) rfl (hX2_linkSupport.at 99 rfl rfl) ?_
  exact osW.sub [2, 3, 4, 1, 0] rfl (sX2_linkSupport_198 N l0 l1 l2 k0 (0 : Int32))
set_option maxRecDepth 100000 in
set_option maxHeartbeats 4000000 in
theorem sX2_linkSupport_124 (N : Nat) (l0 : Nat) (l1 : Nat) (l2 : Int32) (l3 : Int32) (l4 : Int32) (l5 : Int32) (k0 : Int32) : osW (osFinM (fun _ : Unit => none) 0 0) yX2_linkSupport cX2_linkSupport 9 none [] { frames := 1, cells := 0, slots := 0, locals := 21 } 0 0 124 [(0, .ref l0), (1, .ref l1), (2, .int l2), (3, .int l3), (4, .int l4), (5, .int l5)] [.int k0] (qX2_linkSupport_124 N l0 l1 l2 l3 l4 l5 k0) := by
  unfold qX2_linkSupport_124
  refine os_istore (i := 6) (lv' := [(6, .int k0), (0, .ref l0), (1, .ref l1), (2, .int l2), (3, .int l3), (4, .int l4), (5, .int l5)]) (Nat.le_of_ble_eq_true rfl) rfl (hX2_linkSupport.at 61 rfl rfl) ?_
  refine os_iload (v := k0) 0 rfl (hX2_linkSupport.at 62 rfl rfl) ?_
  refine os_if_eq (off := 25) (tgt := 153) rfl (hX2_linkSupport.at 63 rfl rfl) ?_ ?_
  · exact osW.sub [] rfl (sX2_linkSupport_153 N )
  · refine os_iload (v := l4) 5 rfl (hX2_linkSupport.at 64 rfl rfl) ?_
    refine os_if_lt (off := 20) (tgt := 153) rfl (hX2_linkSupport.at 65 rfl rfl) ?_ ?_
    · exact osW.sub [] rfl (sX2_linkSupport_153 N )
    · refine os_iload (v := l4) 5 rfl (hX2_linkSupport.at 66 rfl rfl) ?_
      refine os_bipush (i := 16) (v := (16 : Int32)) rfl (hX2_linkSupport.at 67 rfl rfl) ?_
      refine os_icmp_ge (off := 13) (tgt := 153) rfl (hX2_linkSupport.at 68 rfl rfl) ?_ ?_
      · exact osW.sub [] rfl (sX2_linkSupport_153 N )
      · refine os_iload_n (i := 2) (q := 2) (v := l2) 3 rfl rfl (hX2_linkSupport.at 69 rfl rfl) ?_
        refine os_if_lt (off := 9) (tgt := 153) rfl (hX2_linkSupport.at 70 rfl rfl) ?_ ?_
        · exact osW.sub [] rfl (sX2_linkSupport_153 N )
        · refine os_iload_n (i := 2) (q := 2) (v := l2) 3 rfl rfl (hX2_linkSupport.at 71 rfl rfl) ?_
          refine os_bipush (i := 16) (v := (16 : Int32)) rfl (hX2_linkSupport.at 72 rfl rfl) ?_
          refine os_icmp_lt (off := 4) (tgt := 154) rfl (hX2_linkSupport.at 73 rfl rfl) ?_ ?_
          · refine os_aload_n (i := 0) (q := 0) (v := l0) 1 rfl rfl (hX2_linkSupport.at 75 rfl rfl) ?_
            refine os_dup rfl (hX2_linkSupport.at 76 rfl rfl) ?_
            refine os_getI fX2_27 (hX2_linkSupport.at 77 rfl rfl) (fun x1 => ?_)
            refine os_iload_n (i := 2) (q := 2) (v := l2) 3 rfl rfl (hX2_linkSupport.at 78 rfl rfl) ?_
            refine os_callSN (host := "OrderSettler") (As := [.int l2]) (st := [.int x1, .ref l0]) (st' := (fun r => .int r :: [.int x1, .ref l0])) mdX9_bit wd1307 wd712 (sX9_bit N l2) rfl rfl (fun _ => rfl) (Nat.le_of_ble_eq_true rfl) (Nat.le_of_ble_eq_true rfl) (Nat.le_of_ble_eq_true rfl) rfl (Nat.le_of_ble_eq_true rfl) rfl (Nat.le_of_ble_eq_true rfl) (hX2_linkSupport.at 79 rfl rfl) (fun x2 => ?_)
            refine os_ior (hX2_linkSupport.at 80 rfl rfl) ?_
            refine os_put fX2_27 rfl rfl (hX2_linkSupport.at 81 rfl rfl) ?_
            refine os_aload_n (i := 0) (q := 0) (v := l0) 1 rfl rfl (hX2_linkSupport.at 82 rfl rfl) ?_
            refine os_getR fX2_37 (hX2_linkSupport.at 83 rfl rfl) (fun x3 => ?_)
            refine os_iload (v := l4) 5 rfl (hX2_linkSupport.at 84 rfl rfl) ?_
            refine os_dup2_11 rfl rfl (hX2_linkSupport.at 85 rfl rfl) ?_
            refine os_iaload (hX2_linkSupport.at 86 rfl rfl) (fun x4 => ?_)
            refine os_iload_n (i := 2) (q := 2) (v := l2) 3 rfl rfl (hX2_linkSupport.at 87 rfl rfl) ?_
            refine os_callSN (host := "OrderSettler") (As := [.int l2]) (st := [.int x4, .int l4, .ref x3]) (st' := (fun r => .int r :: [.int x4, .int l4, .ref x3])) mdX9_bit wd1307 wd712 (sX9_bit N l2) rfl rfl (fun _ => rfl) (Nat.le_of_ble_eq_true rfl) (Nat.le_of_ble_eq_true rfl) (Nat.le_of_ble_eq_true rfl) rfl (Nat.le_of_ble_eq_true rfl) rfl (Nat.le_of_ble_eq_true rfl) (hX2_linkSupport.at 88 rfl rfl) (fun x5 => ?_)
            refine os_ior (hX2_linkSupport.at 89 rfl rfl) ?_
            refine os_iastore (hX2_linkSupport.at 90 rfl rfl) ?_
            refine os_iload_n (i := 3) (q := 3) (v := l3) 4 rfl rfl (hX2_linkSupport.at 91 rfl rfl) ?_
            refine os_iconst (i := 3) (v := (3 : Int32)) rfl (hX2_linkSupport.at 92 rfl rfl) ?_
            refine os_icmp_ne (off := 8) (tgt := 191) rfl (hX2_linkSupport.at 93 rfl rfl) ?_ ?_
            · refine os_iload (v := l4) 5 rfl (hX2_linkSupport.at 96 rfl rfl) ?_
              exact osW.sub [1, 2, 3] rfl (sX2_linkSupport_193 N l0 l1 l2 l4)
            · refine os_iload (v := l5) 6 rfl (hX2_linkSupport.at 94 rfl rfl) ?_
              refine os_goto (off := 5) (tgt := 193) rfl (hX2_linkSupport.at 95 rfl rfl) ?_
              exact osW.sub [1, 2, 3] rfl (sX2_linkSupport_193 N l0 l1 l2 l5)
          · exact osW.sub [] rfl (sX2_linkSupport_153 N )
set_option maxRecDepth 100000 in
set_option maxHeartbeats 4000000 in
theorem sX2_linkSupport_123 (N : Nat) (l0 : Nat) (l1 : Nat) (l2 : Int32) (l3 : Int32) (l4 : Int32) (l5 : Int32) : osW (osFinM (fun _ : Unit => none) 0 0) yX2_linkSupport cX2_linkSupport 9 none [] { frames := 1, cells := 0, slots := 0, locals := 21 } 0 0 123 [(0, .ref l0), (1, .ref l1), (2, .int l2), (3, .int l3), (4, .int l4), (5, .int l5)] [] (qX2_linkSupport_123 N l0 l1 l2 l3 l4 l5) := by
  unfold qX2_linkSupport_123
  refine os_iconst (i := 0) (v := (0 : Int32)) rfl (hX2_linkSupport.at 60 rfl rfl) ?_
  exact osW.sub [0, 1, 2, 3, 4, 5] rfl (sX2_linkSupport_124 N l0 l1 l2 l3 l4 l5 (0 : Int32))
set_option maxRecDepth 100000 in
set_option maxHeartbeats 4000000 in
theorem sX2_linkSupport_91 (N : Nat) (l0 : Nat) (l1 : Nat) (l2 : Int32) (l3 : Int32) (l4 : Int32) (l5 : Int32) : osW (osFinM (fun _ : Unit => none) 0 0) yX2_linkSupport cX2_linkSupport 9 none [] { frames := 1, cells := 0, slots := 0, locals := 21 } 0 0 91 [(0, .ref l0), (1, .ref l1), (2, .int l2), (3, .int l3), (4, .int l4), (5, .int l5)] [] (qX2_linkSupport_91 N l0 l1 l2 l3 l4 l5) := by
  unfold qX2_linkSupport_91
  refine os_iconst (i := 0) (v := (0 : Int32)) rfl (hX2_linkSupport.at 46 rfl rfl) ?_
  refine os_goto (off := 32) (tgt := 124) rfl (hX2_linkSupport.at 47 rfl rfl) ?_
  exact osW.sub [0, 1, 2, 3, 4, 5] rfl (sX2_linkSupport_124 N l0 l1 l2 l3 l4 l5 (0 : Int32))
set_option maxRecDepth 100000 in
set_option maxHeartbeats 4000000 in
theorem sX2_linkSupport_40 (N : Nat) (l0 : Nat) (l1 : Nat) (l2 : Int32) (l3 : Int32) (l4 : Int32) (l5 : Int32) : osW (osFinM (fun _ : Unit => none) 0 0) yX2_linkSupport cX2_linkSupport 9 none [] { frames := 1, cells := 0, slots := 0, locals := 21 } 0 0 40 [(0, .ref l0), (1, .ref l1), (2, .int l2), (3, .int l3), (4, .int l4), (5, .int l5)] [] (qX2_linkSupport_40 N l0 l1 l2 l3 l4 l5) := by
  unfold qX2_linkSupport_40
  refine os_aload_n (i := 0) (q := 0) (v := l0) 0 rfl rfl (hX2_linkSupport.at 22 rfl rfl) ?_
  refine os_dup rfl (hX2_linkSupport.at 23 rfl rfl) ?_
  refine os_getI fX2_24 (hX2_linkSupport.at 24 rfl rfl) (fun x1 => ?_)
  refine os_iload_n (i := 2) (q := 2) (v := l2) 2 rfl rfl (hX2_linkSupport.at 25 rfl rfl) ?_
  refine os_callSN (host := "OrderSettler") (As := [.int l2]) (st := [.int x1, .ref l0]) (st' := (fun r => .int r :: [.int x1, .ref l0])) mdX9_bit wd1307 wd712 (sX9_bit N l2) rfl rfl (fun _ => rfl) (Nat.le_of_ble_eq_true rfl) (Nat.le_of_ble_eq_true rfl) (Nat.le_of_ble_eq_true rfl) rfl (Nat.le_of_ble_eq_true rfl) rfl (Nat.le_of_ble_eq_true rfl) (hX2_linkSupport.at 26 rfl rfl) (fun x2 => ?_)
  refine os_ior (hX2_linkSupport.at 27 rfl rfl) ?_
  refine os_put fX2_24 rfl rfl (hX2_linkSupport.at 28 rfl rfl) ?_
  refine os_iload_n (i := 3) (q := 3) (v := l3) 3 rfl rfl (hX2_linkSupport.at 29 rfl rfl) ?_
  refine os_iconst (i := 3) (v := (3 : Int32)) rfl (hX2_linkSupport.at 30 rfl rfl) ?_
  refine os_icmp_ne (off := 40) (tgt := 95) rfl (hX2_linkSupport.at 31 rfl rfl) ?_ ?_
  · refine os_aload_n (i := 0) (q := 0) (v := l0) 0 rfl rfl (hX2_linkSupport.at 48 rfl rfl) ?_
    refine os_getI fX2_9 (hX2_linkSupport.at 49 rfl rfl) (fun x3 => ?_)
    refine os_iload (v := l4) 4 rfl (hX2_linkSupport.at 50 rfl rfl) ?_
    refine os_callSN (host := "OrderSettler") (As := [.int x3, .int l4]) (st := []) (st' := (fun r => .int r :: [])) mdX9_has wd1314 wd749 (sX9_has N x3 l4) rfl rfl (fun _ => rfl) (Nat.le_of_ble_eq_true rfl) (Nat.le_of_ble_eq_true rfl) (Nat.le_of_ble_eq_true rfl) rfl (Nat.le_of_ble_eq_true rfl) rfl (Nat.le_of_ble_eq_true rfl) (hX2_linkSupport.at 51 rfl rfl) (fun x4 => ?_)
    refine os_if_eq (off := 19) (tgt := 123) rfl (hX2_linkSupport.at 52 rfl rfl) ?_ ?_
    · exact osW.sub [0, 1, 2, 3, 4, 5] rfl (sX2_linkSupport_123 N l0 l1 l2 l3 l4 l5)
    · refine os_aload_n (i := 0) (q := 0) (v := l0) 0 rfl rfl (hX2_linkSupport.at 53 rfl rfl) ?_
      refine os_getI fX2_15 (hX2_linkSupport.at 54 rfl rfl) (fun x5 => ?_)
      refine os_iload (v := l4) 4 rfl (hX2_linkSupport.at 55 rfl rfl) ?_
      refine os_callSN (host := "OrderSettler") (As := [.int x5, .int l4]) (st := []) (st' := (fun r => .int r :: [])) mdX9_has wd1314 wd749 (sX9_has N x5 l4) rfl rfl (fun _ => rfl) (Nat.le_of_ble_eq_true rfl) (Nat.le_of_ble_eq_true rfl) (Nat.le_of_ble_eq_true rfl) rfl (Nat.le_of_ble_eq_true rfl) rfl (Nat.le_of_ble_eq_true rfl) (hX2_linkSupport.at 56 rfl rfl) (fun x6 => ?_)
      refine os_if_ne (off := 7) (tgt := 123) rfl (hX2_linkSupport.at 57 rfl rfl) ?_ ?_
      · exact osW.sub [0, 1, 2, 3, 4, 5] rfl (sX2_linkSupport_123 N l0 l1 l2 l3 l4 l5)
      · refine os_iconst (i := 1) (v := (1 : Int32)) rfl (hX2_linkSupport.at 58 rfl rfl) ?_
        refine os_goto (off := 4) (tgt := 124) rfl (hX2_linkSupport.at 59 rfl rfl) ?_
        exact osW.sub [0, 1, 2, 3, 4, 5] rfl (sX2_linkSupport_124 N l0 l1 l2 l3 l4 l5 (1 : Int32))
  · refine os_aload_n (i := 0) (q := 0) (v := l0) 0 rfl rfl (hX2_linkSupport.at 32 rfl rfl) ?_
    refine os_getI fX2_15 (hX2_linkSupport.at 33 rfl rfl) (fun x7 => ?_)
    refine os_iload (v := l4) 4 rfl (hX2_linkSupport.at 34 rfl rfl) ?_
    refine os_callSN (host := "OrderSettler") (As := [.int x7, .int l4]) (st := []) (st' := (fun r => .int r :: [])) mdX9_has wd1314 wd749 (sX9_has N x7 l4) rfl rfl (fun _ => rfl) (Nat.le_of_ble_eq_true rfl) (Nat.le_of_ble_eq_true rfl) (Nat.le_of_ble_eq_true rfl) rfl (Nat.le_of_ble_eq_true rfl) rfl (Nat.le_of_ble_eq_true rfl) (hX2_linkSupport.at 35 rfl rfl) (fun x8 => ?_)
    refine os_if_eq (off := 24) (tgt := 91) rfl (hX2_linkSupport.at 36 rfl rfl) ?_ ?_
    · exact osW.sub [0, 1, 2, 3, 4, 5] rfl (sX2_linkSupport_91 N l0 l1 l2 l3 l4 l5)
    · refine os_aload_n (i := 0) (q := 0) (v := l0) 0 rfl rfl (hX2_linkSupport.at 37 rfl rfl) ?_
      refine os_getR fX2_30 (hX2_linkSupport.at 38 rfl rfl) (fun x9 => ?_)
      refine os_iload (v := l4) 4 rfl (hX2_linkSupport.at 39 rfl rfl) ?_
      refine os_callSN (host := "OrderSettler") (As := [.ref x9, .int l4]) (st := []) (st' := (fun r => .int r :: [])) mdX9_entry wd1312 wd784 (sX9_entry N x9 l4) rfl rfl (fun _ => rfl) (Nat.le_of_ble_eq_true rfl) (Nat.le_of_ble_eq_true rfl) (Nat.le_of_ble_eq_true rfl) rfl (Nat.le_of_ble_eq_true rfl) rfl (Nat.le_of_ble_eq_true rfl) (hX2_linkSupport.at 40 rfl rfl) (fun x10 => ?_)
      refine os_iload (v := l5) 5 rfl (hX2_linkSupport.at 41 rfl rfl) ?_
      refine os_callSN (host := "OrderSettler") (As := [.int l5]) (st := [.int x10]) (st' := (fun r => .int r :: [.int x10])) mdX9_bit wd1307 wd712 (sX9_bit N l5) rfl rfl (fun _ => rfl) (Nat.le_of_ble_eq_true rfl) (Nat.le_of_ble_eq_true rfl) (Nat.le_of_ble_eq_true rfl) rfl (Nat.le_of_ble_eq_true rfl) rfl (Nat.le_of_ble_eq_true rfl) (hX2_linkSupport.at 42 rfl rfl) (fun x11 => ?_)
      refine os_icmp_ne (off := 7) (tgt := 91) rfl (hX2_linkSupport.at 43 rfl rfl) ?_ ?_
      · exact osW.sub [0, 1, 2, 3, 4, 5] rfl (sX2_linkSupport_91 N l0 l1 l2 l3 l4 l5)
      · refine os_iconst (i := 1) (v := (1 : Int32)) rfl (hX2_linkSupport.at 44 rfl rfl) ?_
        refine os_goto (off := 36) (tgt := 124) rfl (hX2_linkSupport.at 45 rfl rfl) ?_
        exact osW.sub [0, 1, 2, 3, 4, 5] rfl (sX2_linkSupport_124 N l0 l1 l2 l3 l4 l5 (1 : Int32))
set_option maxRecDepth 100000 in
set_option maxHeartbeats 4000000 in
theorem sX2_linkSupport (N : Nat) (l0 : Nat) (l1 : Nat) (l2 : Int32) : osMet yX2_linkSupport cX2_linkSupport 9 none 1 21 0 0 (fun _ : Unit => none) [.ref l0, .ref l1, .int l2] (qX2_linkSupport N l0 l1 l2) := by
  refine osMet.of plX2 (Nat.le_of_ble_eq_true rfl) (osW.rw (lv2 := [(0, .ref l0), (1, .ref l1), (2, .int l2)]) ?_ rfl rfl rfl)
  unfold qX2_linkSupport
  refine os_aload_n (i := 1) (q := 1) (v := l1) 1 rfl rfl (hX2_linkSupport.at 0 rfl rfl) ?_
  refine os_getR fX2_80 (hX2_linkSupport.at 1 rfl rfl) (fun x1 => ?_)
  refine os_iload_n (i := 2) (q := 2) (v := l2) 2 rfl rfl (hX2_linkSupport.at 2 rfl rfl) ?_
  refine os_callSN (host := "OrderSettler") (As := [.ref x1, .int l2]) (st := []) (st' := (fun r => .int r :: [])) mdX9_entry wd1312 wd784 (sX9_entry N x1 l2) rfl rfl (fun _ => rfl) (Nat.le_of_ble_eq_true rfl) (Nat.le_of_ble_eq_true rfl) (Nat.le_of_ble_eq_true rfl) rfl (Nat.le_of_ble_eq_true rfl) rfl (Nat.le_of_ble_eq_true rfl) (hX2_linkSupport.at 3 rfl rfl) (fun x2 => ?_)
  refine os_istore_n (i := 3) (q := 3) rfl (lv' := [(3, .int x2), (0, .ref l0), (1, .ref l1), (2, .int l2)]) (Nat.le_of_ble_eq_true rfl) rfl (hX2_linkSupport.at 4 rfl rfl) ?_
  refine os_aload_n (i := 1) (q := 1) (v := l1) 2 rfl rfl (hX2_linkSupport.at 5 rfl rfl) ?_
  refine os_getR fX2_101 (hX2_linkSupport.at 6 rfl rfl) (fun x3 => ?_)
  refine os_iload_n (i := 2) (q := 2) (v := l2) 3 rfl rfl (hX2_linkSupport.at 7 rfl rfl) ?_
  refine os_callSN (host := "OrderSettler") (As := [.ref x3, .int l2]) (st := []) (st' := (fun r => .int r :: [])) mdX9_entry wd1312 wd784 (sX9_entry N x3 l2) rfl rfl (fun _ => rfl) (Nat.le_of_ble_eq_true rfl) (Nat.le_of_ble_eq_true rfl) (Nat.le_of_ble_eq_true rfl) rfl (Nat.le_of_ble_eq_true rfl) rfl (Nat.le_of_ble_eq_true rfl) (hX2_linkSupport.at 8 rfl rfl) (fun x4 => ?_)
  refine os_istore (i := 4) (lv' := [(4, .int x4), (3, .int x2), (0, .ref l0), (1, .ref l1), (2, .int l2)]) (Nat.le_of_ble_eq_true rfl) rfl (hX2_linkSupport.at 9 rfl rfl) ?_
  refine os_aload_n (i := 1) (q := 1) (v := l1) 3 rfl rfl (hX2_linkSupport.at 10 rfl rfl) ?_
  refine os_getR fX2_112 (hX2_linkSupport.at 11 rfl rfl) (fun x5 => ?_)
  refine os_iload_n (i := 2) (q := 2) (v := l2) 4 rfl rfl (hX2_linkSupport.at 12 rfl rfl) ?_
  refine os_callSN (host := "OrderSettler") (As := [.ref x5, .int l2]) (st := []) (st' := (fun r => .int r :: [])) mdX9_entry wd1312 wd784 (sX9_entry N x5 l2) rfl rfl (fun _ => rfl) (Nat.le_of_ble_eq_true rfl) (Nat.le_of_ble_eq_true rfl) (Nat.le_of_ble_eq_true rfl) rfl (Nat.le_of_ble_eq_true rfl) rfl (Nat.le_of_ble_eq_true rfl) (hX2_linkSupport.at 13 rfl rfl) (fun x6 => ?_)
  refine os_istore (i := 5) (lv' := [(5, .int x6), (4, .int x4), (3, .int x2), (0, .ref l0), (1, .ref l1), (2, .int l2)]) (Nat.le_of_ble_eq_true rfl) rfl (hX2_linkSupport.at 14 rfl rfl) ?_
  refine os_iload_n (i := 3) (q := 3) (v := x2) 2 rfl rfl (hX2_linkSupport.at 15 rfl rfl) ?_
  refine os_iconst (i := 2) (v := (2 : Int32)) rfl (hX2_linkSupport.at 16 rfl rfl) ?_
  refine os_icmp_eq (off := 9) (tgt := 40) rfl (hX2_linkSupport.at 17 rfl rfl) ?_ ?_
  · exact osW.sub [3, 4, 5, 2, 1, 0] rfl (sX2_linkSupport_40 N l0 l1 l2 x2 x4 x6)
  · refine os_iload_n (i := 3) (q := 3) (v := x2) 2 rfl rfl (hX2_linkSupport.at 18 rfl rfl) ?_
    refine os_iconst (i := 3) (v := (3 : Int32)) rfl (hX2_linkSupport.at 19 rfl rfl) ?_
    refine os_icmp_eq (off := 4) (tgt := 40) rfl (hX2_linkSupport.at 20 rfl rfl) ?_ ?_
    · exact osW.sub [3, 4, 5, 2, 1, 0] rfl (sX2_linkSupport_40 N l0 l1 l2 x2 x4 x6)
    · exact os_vret (Nat.le_of_ble_eq_true rfl) (Nat.le_of_ble_eq_true rfl) (hX2_linkSupport.at 21 rfl rfl).1
-- X2_linkConvoy
def KX2_linkConvoy : List (Nat × Nat × Instr) := [(0, 1, .aload_n 1), (1, 3, .getfield 101), (4, 1, .iload_n 2), (5, 3, .invokestatic 104), (8, 1, .istore_n 3), (9, 1, .aload_n 1), (10, 3, .getfield 112), (13, 1, .iload_n 2), (14, 3, .invokestatic 104), (17, 2, .istore 4), (19, 1, .aload_n 1), (20, 3, .getfield 80), (23, 1, .iload_n 2), (24, 3, .invokestatic 104), (27, 1, .iconst 4), (28, 3, .if_icmp .ne 13), (31, 1, .iload_n 3), (32, 3, .ifCond .lt 9), (35, 1, .iload_n 3), (36, 2, .bipush 16), (38, 3, .if_icmp .lt 4), (41, 1, .return_), (42, 1, .aload_n 0), (43, 3, .getfield 15), (46, 1, .aload_n 0), (47, 3, .getfield 18), (50, 1, .iconst (-1)), (51, 1, .ixor), (52, 1, .iand), (53, 1, .iload_n 3), (54, 3, .invokestatic 87), (57, 3, .ifCond .eq 30), (60, 1, .aload_n 0), (61, 3, .getfield 30), (64, 1, .iload_n 3), (65, 1, .iaload), (66, 2, .iload 4), (68, 3, .invokestatic 76), (71, 3, .if_icmp .ne 16), (74, 1, .aload_n 0), (75, 3, .getfield 49), (78, 1, .iload_n 3), (79, 1, .dup2), (80, 1, .iaload), (81, 1, .iload_n 2), (82, 3, .invokestatic 76), (85, 1, .ior), (86, 1, .iastore), (87, 1, .return_)]
theorem hX2_linkConvoy : osDs cX2_linkConvoy KX2_linkConvoy := by
  show ∀ q ∈ KX2_linkConvoy, decode cX2_linkConvoy q.1 = .ok (q.2.2, q.2.1)
  decide +kernel
def qX2_linkConvoy_41 (N : Nat) : osM Unit := osret ()
def qX2_linkConvoy_87 (N : Nat) : osM Unit := osret ()
def qX2_linkConvoy (N : Nat) (l0 : Nat) (l1 : Nat) (l2 : Int32) : osM Unit := osbind (osgR [5] 13 l1) fun x1 => osbind (qX9_entry N x1 l2) fun x2 => osbind (osgR [5] 14 l1) fun x3 => osbind (qX9_entry N x3 l2) fun x4 => osbind (osgR [5] 12 l1) fun x5 => osbind (qX9_entry N x5 l2) fun x6 => osite (x6 = (4 : Int32)) (osite (x2 < 0) (qX2_linkConvoy_41 N ) (osite (x2 < (16 : Int32)) (osbind (osgI [2] 1 l0) fun x7 => osbind (osgI [2] 2 l0) fun x8 => osbind (qX9_has N (x7 &&& (x8 ^^^ (-1 : Int32))) x2) fun x9 => osite (x9 = 0) (qX2_linkConvoy_87 N ) (osbind (osgR [2] 6 l0) fun x10 => osbind (osaI 0 x10 x2) fun x11 => osbind (qX9_bit N x4) fun x12 => osite (x11 = x12) (osbind (osgR [2] 12 l0) fun x13 => osbind (osaI 0 x13 x2) fun x14 => osbind (qX9_bit N l2) fun x15 => osbind (ossI 0 x13 x2 (x14 ||| x15)) fun _ => qX2_linkConvoy_87 N ) (qX2_linkConvoy_87 N ))) (qX2_linkConvoy_41 N ))) (qX2_linkConvoy_41 N )
set_option maxRecDepth 100000 in
set_option maxHeartbeats 4000000 in
theorem sX2_linkConvoy_41 (N : Nat) : osW (osFinM (fun _ : Unit => none) 0 0) yX2_linkConvoy cX2_linkConvoy 5 none [] { frames := 1, cells := 0, slots := 0, locals := 21 } 0 0 41 [] [] (qX2_linkConvoy_41 N) := by
  unfold qX2_linkConvoy_41
  exact os_vret (Nat.le_of_ble_eq_true rfl) (Nat.le_of_ble_eq_true rfl) (hX2_linkConvoy.at 21 rfl rfl).1
set_option maxRecDepth 100000 in
set_option maxHeartbeats 4000000 in
theorem sX2_linkConvoy_87 (N : Nat) : osW (osFinM (fun _ : Unit => none) 0 0) yX2_linkConvoy cX2_linkConvoy 5 none [] { frames := 1, cells := 0, slots := 0, locals := 21 } 0 0 87 [] [] (qX2_linkConvoy_87 N) := by
  unfold qX2_linkConvoy_87
  exact os_vret (Nat.le_of_ble_eq_true rfl) (Nat.le_of_ble_eq_true rfl) (hX2_linkConvoy.at 48 rfl rfl).1
set_option maxRecDepth 100000 in
set_option maxHeartbeats 4000000 in
theorem sX2_linkConvoy (N : Nat) (l0 : Nat) (l1 : Nat) (l2 : Int32) : osMet yX2_linkConvoy cX2_linkConvoy 5 none 1 21 0 0 (fun _ : Unit => none) [.ref l0, .ref l1, .int l2] (qX2_linkConvoy N l0 l1 l2) := by
  refine osMet.of plX2 (Nat.le_of_ble_eq_true rfl) (osW.rw (lv2 := [(0, .ref l0), (1, .ref l1), (2, .int l2)]) ?_ rfl rfl rfl)
  unfold qX2_linkConvoy
  refine os_aload_n (i := 1) (q := 1) (v := l1) 1 rfl rfl (hX2_linkConvoy.at 0 rfl rfl) ?_
  refine os_getR fX2_101 (hX2_linkConvoy.at 1 rfl rfl) (fun x1 => ?_)
  refine os_iload_n (i := 2) (q := 2) (v := l2) 2 rfl rfl (hX2_linkConvoy.at 2 rfl rfl) ?_
  refine os_callSN (host := "OrderSettler") (As := [.ref x1, .int l2]) (st := []) (st' := (fun r => .int r :: [])) mdX9_entry wd1312 wd784 (sX9_entry N x1 l2) rfl rfl (fun _ => rfl) (Nat.le_of_ble_eq_true rfl) (Nat.le_of_ble_eq_true rfl) (Nat.le_of_ble_eq_true rfl) rfl (Nat.le_of_ble_eq_true rfl) rfl (Nat.le_of_ble_eq_true rfl) (hX2_linkConvoy.at 3 rfl rfl) (fun x2 => ?_)
  refine os_istore_n (i := 3) (q := 3) rfl (lv' := [(3, .int x2), (0, .ref l0), (1, .ref l1), (2, .int l2)]) (Nat.le_of_ble_eq_true rfl) rfl (hX2_linkConvoy.at 4 rfl rfl) ?_
  refine os_aload_n (i := 1) (q := 1) (v := l1) 2 rfl rfl (hX2_linkConvoy.at 5 rfl rfl) ?_
  refine os_getR fX2_112 (hX2_linkConvoy.at 6 rfl rfl) (fun x3 => ?_)
  refine os_iload_n (i := 2) (q := 2) (v := l2) 3 rfl rfl (hX2_linkConvoy.at 7 rfl rfl) ?_
  refine os_callSN (host := "OrderSettler") (As := [.ref x3, .int l2]) (st := []) (st' := (fun r => .int r :: [])) mdX9_entry wd1312 wd784 (sX9_entry N x3 l2) rfl rfl (fun _ => rfl) (Nat.le_of_ble_eq_true rfl) (Nat.le_of_ble_eq_true rfl) (Nat.le_of_ble_eq_true rfl) rfl (Nat.le_of_ble_eq_true rfl) rfl (Nat.le_of_ble_eq_true rfl) (hX2_linkConvoy.at 8 rfl rfl) (fun x4 => ?_)
  refine os_istore (i := 4) (lv' := [(4, .int x4), (3, .int x2), (0, .ref l0), (1, .ref l1), (2, .int l2)]) (Nat.le_of_ble_eq_true rfl) rfl (hX2_linkConvoy.at 9 rfl rfl) ?_
  refine os_aload_n (i := 1) (q := 1) (v := l1) 3 rfl rfl (hX2_linkConvoy.at 10 rfl rfl) ?_
  refine os_getR fX2_80 (hX2_linkConvoy.at 11 rfl rfl) (fun x5 => ?_)
  refine os_iload_n (i := 2) (q := 2) (v := l2) 4 rfl rfl (hX2_linkConvoy.at 12 rfl rfl) ?_
  refine os_callSN (host := "OrderSettler") (As := [.ref x5, .int l2]) (st := []) (st' := (fun r => .int r :: [])) mdX9_entry wd1312 wd784 (sX9_entry N x5 l2) rfl rfl (fun _ => rfl) (Nat.le_of_ble_eq_true rfl) (Nat.le_of_ble_eq_true rfl) (Nat.le_of_ble_eq_true rfl) rfl (Nat.le_of_ble_eq_true rfl) rfl (Nat.le_of_ble_eq_true rfl) (hX2_linkConvoy.at 13 rfl rfl) (fun x6 => ?_)
  refine os_iconst (i := 4) (v := (4 : Int32)) rfl (hX2_linkConvoy.at 14 rfl rfl) ?_
  refine os_icmp_ne (off := 13) (tgt := 41) rfl (hX2_linkConvoy.at 15 rfl rfl) ?_ ?_
  · exact osW.sub [] rfl (sX2_linkConvoy_41 N )
  · refine os_iload_n (i := 3) (q := 3) (v := x2) 1 rfl rfl (hX2_linkConvoy.at 16 rfl rfl) ?_
    refine os_if_lt (off := 9) (tgt := 41) rfl (hX2_linkConvoy.at 17 rfl rfl) ?_ ?_
    · exact osW.sub [] rfl (sX2_linkConvoy_41 N )
    · refine os_iload_n (i := 3) (q := 3) (v := x2) 1 rfl rfl (hX2_linkConvoy.at 18 rfl rfl) ?_
      refine os_bipush (i := 16) (v := (16 : Int32)) rfl (hX2_linkConvoy.at 19 rfl rfl) ?_
      refine os_icmp_lt (off := 4) (tgt := 42) rfl (hX2_linkConvoy.at 20 rfl rfl) ?_ ?_
      · refine os_aload_n (i := 0) (q := 0) (v := l0) 2 rfl rfl (hX2_linkConvoy.at 22 rfl rfl) ?_
        refine os_getI fX2_15 (hX2_linkConvoy.at 23 rfl rfl) (fun x7 => ?_)
        refine os_aload_n (i := 0) (q := 0) (v := l0) 2 rfl rfl (hX2_linkConvoy.at 24 rfl rfl) ?_
        refine os_getI fX2_18 (hX2_linkConvoy.at 25 rfl rfl) (fun x8 => ?_)
        refine os_iconst (i := (-1)) (v := (-1 : Int32)) rfl (hX2_linkConvoy.at 26 rfl rfl) ?_
        refine os_ixor (hX2_linkConvoy.at 27 rfl rfl) ?_
        refine os_iand (hX2_linkConvoy.at 28 rfl rfl) ?_
        refine os_iload_n (i := 3) (q := 3) (v := x2) 1 rfl rfl (hX2_linkConvoy.at 29 rfl rfl) ?_
        refine os_callSN (host := "OrderSettler") (As := [.int (x7 &&& (x8 ^^^ (-1 : Int32))), .int x2]) (st := []) (st' := (fun r => .int r :: [])) mdX9_has wd1314 wd749 (sX9_has N (x7 &&& (x8 ^^^ (-1 : Int32))) x2) rfl rfl (fun _ => rfl) (Nat.le_of_ble_eq_true rfl) (Nat.le_of_ble_eq_true rfl) (Nat.le_of_ble_eq_true rfl) rfl (Nat.le_of_ble_eq_true rfl) rfl (Nat.le_of_ble_eq_true rfl) (hX2_linkConvoy.at 30 rfl rfl) (fun x9 => ?_)
        refine os_if_eq (off := 30) (tgt := 87) rfl (hX2_linkConvoy.at 31 rfl rfl) ?_ ?_
        · exact osW.sub [] rfl (sX2_linkConvoy_87 N )
        · refine os_aload_n (i := 0) (q := 0) (v := l0) 2 rfl rfl (hX2_linkConvoy.at 32 rfl rfl) ?_
          refine os_getR fX2_30 (hX2_linkConvoy.at 33 rfl rfl) (fun x10 => ?_)
          refine os_iload_n (i := 3) (q := 3) (v := x2) 1 rfl rfl (hX2_linkConvoy.at 34 rfl rfl) ?_
          refine os_iaload (hX2_linkConvoy.at 35 rfl rfl) (fun x11 => ?_)
          refine os_iload (v := x4) 0 rfl (hX2_linkConvoy.at 36 rfl rfl) ?_
          refine os_callSN (host := "OrderSettler") (As := [.int x4]) (st := [.int x11]) (st' := (fun r => .int r :: [.int x11])) mdX9_bit wd1307 wd712 (sX9_bit N x4) rfl rfl (fun _ => rfl) (Nat.le_of_ble_eq_true rfl) (Nat.le_of_ble_eq_true rfl) (Nat.le_of_ble_eq_true rfl) rfl (Nat.le_of_ble_eq_true rfl) rfl (Nat.le_of_ble_eq_true rfl) (hX2_linkConvoy.at 37 rfl rfl) (fun x12 => ?_)
          refine os_icmp_ne (off := 16) (tgt := 87) rfl (hX2_linkConvoy.at 38 rfl rfl) ?_ ?_
          · exact osW.sub [] rfl (sX2_linkConvoy_87 N )
          · refine os_aload_n (i := 0) (q := 0) (v := l0) 2 rfl rfl (hX2_linkConvoy.at 39 rfl rfl) ?_
            refine os_getR fX2_49 (hX2_linkConvoy.at 40 rfl rfl) (fun x13 => ?_)
            refine os_iload_n (i := 3) (q := 3) (v := x2) 1 rfl rfl (hX2_linkConvoy.at 41 rfl rfl) ?_
            refine os_dup2_11 rfl rfl (hX2_linkConvoy.at 42 rfl rfl) ?_
            refine os_iaload (hX2_linkConvoy.at 43 rfl rfl) (fun x14 => ?_)
            refine os_iload_n (i := 2) (q := 2) (v := l2) 4 rfl rfl (hX2_linkConvoy.at 44 rfl rfl) ?_
            refine os_callSN (host := "OrderSettler") (As := [.int l2]) (st := [.int x14, .int x2, .ref x13]) (st' := (fun r => .int r :: [.int x14, .int x2, .ref x13])) mdX9_bit wd1307 wd712 (sX9_bit N l2) rfl rfl (fun _ => rfl) (Nat.le_of_ble_eq_true rfl) (Nat.le_of_ble_eq_true rfl) (Nat.le_of_ble_eq_true rfl) rfl (Nat.le_of_ble_eq_true rfl) rfl (Nat.le_of_ble_eq_true rfl) (hX2_linkConvoy.at 45 rfl rfl) (fun x15 => ?_)
            refine os_ior (hX2_linkConvoy.at 46 rfl rfl) ?_
            refine os_iastore (hX2_linkConvoy.at 47 rfl rfl) ?_
            exact osW.sub [] rfl (sX2_linkConvoy_87 N )
      · exact osW.sub [] rfl (sX2_linkConvoy_41 N )
-- X2_noteMove
def KX2_noteMove : List (Nat × Nat × Instr) := [(0, 1, .aload_n 2), (1, 3, .getfield 101), (4, 1, .iload_n 3), (5, 3, .invokestatic 104), (8, 2, .istore 4), (10, 1, .iload_n 3), (11, 3, .ifCond .lt 9), (14, 1, .iload_n 3), (15, 2, .bipush 16), (17, 3, .if_icmp .lt 4), (20, 1, .return_), (21, 1, .aload_n 0), (22, 1, .dup), (23, 3, .getfield 15), (26, 1, .iload_n 3), (27, 3, .invokestatic 76), (30, 1, .ior), (31, 3, .putfield 15), (34, 1, .aload_n 0), (35, 3, .getfield 30), (38, 1, .iload_n 3), (39, 2, .iload 4), (41, 3, .invokestatic 76), (44, 1, .iastore), (45, 1, .aload_n 0), (46, 3, .getfield 52), (49, 1, .iload_n 3), (50, 1, .aload_n 1), (51, 1, .iload_n 3), (52, 1, .iconst 1), (53, 3, .invokevirtual 64), (56, 1, .iastore), (57, 1, .aload_n 0), (58, 3, .getfield 55), (61, 1, .iload_n 3), (62, 1, .aload_n 1), (63, 2, .iload 4), (65, 1, .iconst 1), (66, 3, .invokevirtual 64), (69, 1, .iastore), (70, 1, .aload_n 2), (71, 1, .aload_n 1), (72, 1, .iload_n 3), (73, 2, .iload 4), (75, 3, .invokevirtual 108), (78, 3, .ifCond .eq 16), (81, 1, .aload_n 0), (82, 1, .dup), (83, 3, .getfield 18), (86, 1, .iload_n 3), (87, 3, .invokestatic 76), (90, 1, .ior), (91, 3, .putfield 18), (94, 1, .return_)]
theorem hX2_noteMove : osDs cX2_noteMove KX2_noteMove := by
  show ∀ q ∈ KX2_noteMove, decode cX2_noteMove q.1 = .ok (q.2.2, q.2.1)
  decide +kernel
def qX2_noteMove_20 (N : Nat) : osM Unit := osret ()
def qX2_noteMove_94 (N : Nat) : osM Unit := osret ()
def qX2_noteMove (N : Nat) (l0 : Nat) (l1 : Nat) (l2 : Nat) (l3 : Int32) : osM Unit := osbind (osgR [5] 13 l2) fun x1 => osbind (qX9_entry N x1 l3) fun x2 => osite (l3 < 0) (qX2_noteMove_20 N ) (osite (l3 < (16 : Int32)) (osbind (osgI [2] 1 l0) fun x3 => osbind (qX9_bit N l3) fun x4 => osbind (osput [2] 1 l0 (.int (x3 ||| x4))) fun _ => osbind (osgR [2] 6 l0) fun x5 => osbind (qX9_bit N x2) fun x6 => osbind (ossI 0 x5 l3 x6) fun _ => osbind (osgR [2] 13 l0) fun x7 => osbind (osrecv [0] l1 (qX0_bordersOf N l1 l3 (1 : Int32))) fun x8 => osbind (ossI 0 x7 l3 x8) fun _ => osbind (osgR [2] 14 l0) fun x9 => osbind (osrecv [0] l1 (qX0_bordersOf N l1 x2 (1 : Int32))) fun x10 => osbind (ossI 0 x9 l3 x10) fun _ => osbind (osrecv [5] l2 (qX5_canGo N l2 l1 l3 x2)) fun x11 => osite (x11 = 0) (qX2_noteMove_94 N ) (osbind (osgI [2] 2 l0) fun x12 => osbind (qX9_bit N l3) fun x13 => osbind (osput [2] 2 l0 (.int (x12 ||| x13))) fun _ => qX2_noteMove_94 N )) (qX2_noteMove_20 N ))
set_option maxRecDepth 100000 in
set_option maxHeartbeats 4000000 in
theorem sX2_noteMove_20 (N : Nat) : osW (osFinM (fun _ : Unit => none) 0 0) yX2_noteMove cX2_noteMove 5 none [] { frames := 2, cells := 0, slots := 0, locals := 48 } 0 0 20 [] [] (qX2_noteMove_20 N) := by
  unfold qX2_noteMove_20
  exact os_vret (Nat.le_of_ble_eq_true rfl) (Nat.le_of_ble_eq_true rfl) (hX2_noteMove.at 10 rfl rfl).1
set_option maxRecDepth 100000 in
set_option maxHeartbeats 4000000 in
theorem sX2_noteMove_94 (N : Nat) : osW (osFinM (fun _ : Unit => none) 0 0) yX2_noteMove cX2_noteMove 5 none [] { frames := 2, cells := 0, slots := 0, locals := 48 } 0 0 94 [] [] (qX2_noteMove_94 N) := by
  unfold qX2_noteMove_94
  exact os_vret (Nat.le_of_ble_eq_true rfl) (Nat.le_of_ble_eq_true rfl) (hX2_noteMove.at 53 rfl rfl).1
set_option maxRecDepth 100000 in
set_option maxHeartbeats 4000000 in
theorem sX2_noteMove (N : Nat) (l0 : Nat) (l1 : Nat) (l2 : Nat) (l3 : Int32) : osMet yX2_noteMove cX2_noteMove 5 none 2 48 0 0 (fun _ : Unit => none) [.ref l0, .ref l1, .ref l2, .int l3] (qX2_noteMove N l0 l1 l2 l3) := by
  refine osMet.of plX2 (Nat.le_of_ble_eq_true rfl) (osW.rw (lv2 := [(0, .ref l0), (1, .ref l1), (2, .ref l2), (3, .int l3)]) ?_ rfl rfl rfl)
  unfold qX2_noteMove
  refine os_aload_n (i := 2) (q := 2) (v := l2) 2 rfl rfl (hX2_noteMove.at 0 rfl rfl) ?_
  refine os_getR fX2_101 (hX2_noteMove.at 1 rfl rfl) (fun x1 => ?_)
  refine os_iload_n (i := 3) (q := 3) (v := l3) 3 rfl rfl (hX2_noteMove.at 2 rfl rfl) ?_
  refine os_callSN (host := "OrderSettler") (As := [.ref x1, .int l3]) (st := []) (st' := (fun r => .int r :: [])) mdX9_entry wd1312 wd784 (sX9_entry N x1 l3) rfl rfl (fun _ => rfl) (Nat.le_of_ble_eq_true rfl) (Nat.le_of_ble_eq_true rfl) (Nat.le_of_ble_eq_true rfl) rfl (Nat.le_of_ble_eq_true rfl) rfl (Nat.le_of_ble_eq_true rfl) (hX2_noteMove.at 3 rfl rfl) (fun x2 => ?_)
  refine os_istore (i := 4) (lv' := [(4, .int x2), (0, .ref l0), (1, .ref l1), (2, .ref l2), (3, .int l3)]) (Nat.le_of_ble_eq_true rfl) rfl (hX2_noteMove.at 4 rfl rfl) ?_
  refine os_iload_n (i := 3) (q := 3) (v := l3) 4 rfl rfl (hX2_noteMove.at 5 rfl rfl) ?_
  refine os_if_lt (off := 9) (tgt := 20) rfl (hX2_noteMove.at 6 rfl rfl) ?_ ?_
  · exact osW.sub [] rfl (sX2_noteMove_20 N )
  · refine os_iload_n (i := 3) (q := 3) (v := l3) 4 rfl rfl (hX2_noteMove.at 7 rfl rfl) ?_
    refine os_bipush (i := 16) (v := (16 : Int32)) rfl (hX2_noteMove.at 8 rfl rfl) ?_
    refine os_icmp_lt (off := 4) (tgt := 21) rfl (hX2_noteMove.at 9 rfl rfl) ?_ ?_
    · refine os_aload_n (i := 0) (q := 0) (v := l0) 1 rfl rfl (hX2_noteMove.at 11 rfl rfl) ?_
      refine os_dup rfl (hX2_noteMove.at 12 rfl rfl) ?_
      refine os_getI fX2_15 (hX2_noteMove.at 13 rfl rfl) (fun x3 => ?_)
      refine os_iload_n (i := 3) (q := 3) (v := l3) 4 rfl rfl (hX2_noteMove.at 14 rfl rfl) ?_
      refine os_callSN (host := "OrderSettler") (As := [.int l3]) (st := [.int x3, .ref l0]) (st' := (fun r => .int r :: [.int x3, .ref l0])) mdX9_bit wd1307 wd712 (sX9_bit N l3) rfl rfl (fun _ => rfl) (Nat.le_of_ble_eq_true rfl) (Nat.le_of_ble_eq_true rfl) (Nat.le_of_ble_eq_true rfl) rfl (Nat.le_of_ble_eq_true rfl) rfl (Nat.le_of_ble_eq_true rfl) (hX2_noteMove.at 15 rfl rfl) (fun x4 => ?_)
      refine os_ior (hX2_noteMove.at 16 rfl rfl) ?_
      refine os_put fX2_15 rfl rfl (hX2_noteMove.at 17 rfl rfl) ?_
      refine os_aload_n (i := 0) (q := 0) (v := l0) 1 rfl rfl (hX2_noteMove.at 18 rfl rfl) ?_
      refine os_getR fX2_30 (hX2_noteMove.at 19 rfl rfl) (fun x5 => ?_)
      refine os_iload_n (i := 3) (q := 3) (v := l3) 4 rfl rfl (hX2_noteMove.at 20 rfl rfl) ?_
      refine os_iload (v := x2) 0 rfl (hX2_noteMove.at 21 rfl rfl) ?_
      refine os_callSN (host := "OrderSettler") (As := [.int x2]) (st := [.int l3, .ref x5]) (st' := (fun r => .int r :: [.int l3, .ref x5])) mdX9_bit wd1307 wd712 (sX9_bit N x2) rfl rfl (fun _ => rfl) (Nat.le_of_ble_eq_true rfl) (Nat.le_of_ble_eq_true rfl) (Nat.le_of_ble_eq_true rfl) rfl (Nat.le_of_ble_eq_true rfl) rfl (Nat.le_of_ble_eq_true rfl) (hX2_noteMove.at 22 rfl rfl) (fun x6 => ?_)
      refine os_iastore (hX2_noteMove.at 23 rfl rfl) ?_
      refine os_aload_n (i := 0) (q := 0) (v := l0) 1 rfl rfl (hX2_noteMove.at 24 rfl rfl) ?_
      refine os_getR fX2_52 (hX2_noteMove.at 25 rfl rfl) (fun x7 => ?_)
      refine os_iload_n (i := 3) (q := 3) (v := l3) 4 rfl rfl (hX2_noteMove.at 26 rfl rfl) ?_
      refine os_aload_n (i := 1) (q := 1) (v := l1) 2 rfl rfl (hX2_noteMove.at 27 rfl rfl) ?_
      refine os_iload_n (i := 3) (q := 3) (v := l3) 4 rfl rfl (hX2_noteMove.at 28 rfl rfl) ?_
      refine os_iconst (i := 1) (v := (1 : Int32)) rfl (hX2_noteMove.at 29 rfl rfl) ?_
      refine os_callV (cis := [0]) (b := l1) (As := [.int l3, .int (1 : Int32)]) (st := [.int l3, .ref x7]) (st' := (fun r => .int r :: [.int l3, .ref x7])) sl0_X0_bordersOf_X0_bordersOf mdX0_bordersOf wd1302 wd1303 (sX0_bordersOf N l1 l3 (1 : Int32)) rfl rfl (fun _ => rfl) (Nat.le_of_ble_eq_true rfl) (Nat.le_of_ble_eq_true rfl) (Nat.le_of_ble_eq_true rfl) rfl (Nat.le_of_ble_eq_true rfl) rfl (Nat.le_of_ble_eq_true rfl) (hX2_noteMove.at 30 rfl rfl) (fun x8 => ?_)
      refine os_iastore (hX2_noteMove.at 31 rfl rfl) ?_
      refine os_aload_n (i := 0) (q := 0) (v := l0) 1 rfl rfl (hX2_noteMove.at 32 rfl rfl) ?_
      refine os_getR fX2_55 (hX2_noteMove.at 33 rfl rfl) (fun x9 => ?_)
      refine os_iload_n (i := 3) (q := 3) (v := l3) 4 rfl rfl (hX2_noteMove.at 34 rfl rfl) ?_
      refine os_aload_n (i := 1) (q := 1) (v := l1) 2 rfl rfl (hX2_noteMove.at 35 rfl rfl) ?_
      refine os_iload (v := x2) 0 rfl (hX2_noteMove.at 36 rfl rfl) ?_
      refine os_iconst (i := 1) (v := (1 : Int32)) rfl (hX2_noteMove.at 37 rfl rfl) ?_
      refine os_callV (cis := [0]) (b := l1) (As := [.int x2, .int (1 : Int32)]) (st := [.int l3, .ref x9]) (st' := (fun r => .int r :: [.int l3, .ref x9])) sl0_X0_bordersOf_X0_bordersOf mdX0_bordersOf wd1302 wd1303 (sX0_bordersOf N l1 x2 (1 : Int32)) rfl rfl (fun _ => rfl) (Nat.le_of_ble_eq_true rfl) (Nat.le_of_ble_eq_true rfl) (Nat.le_of_ble_eq_true rfl) rfl (Nat.le_of_ble_eq_true rfl) rfl (Nat.le_of_ble_eq_true rfl) (hX2_noteMove.at 38 rfl rfl) (fun x10 => ?_)
      refine os_iastore (hX2_noteMove.at 39 rfl rfl) ?_
      refine os_aload_n (i := 2) (q := 2) (v := l2) 3 rfl rfl (hX2_noteMove.at 40 rfl rfl) ?_
      refine os_aload_n (i := 1) (q := 1) (v := l1) 2 rfl rfl (hX2_noteMove.at 41 rfl rfl) ?_
      refine os_iload_n (i := 3) (q := 3) (v := l3) 4 rfl rfl (hX2_noteMove.at 42 rfl rfl) ?_
      refine os_iload (v := x2) 0 rfl (hX2_noteMove.at 43 rfl rfl) ?_
      refine os_callV (cis := [5]) (b := l2) (As := [.ref l1, .int l3, .int x2]) (st := []) (st' := (fun r => .int r :: [])) sl5_X5_canGo_X5_canGo mdX5_canGo wd1313 wd1153 (sX5_canGo N l2 l1 l3 x2) rfl rfl (fun _ => rfl) (Nat.le_of_ble_eq_true rfl) (Nat.le_of_ble_eq_true rfl) (Nat.le_of_ble_eq_true rfl) rfl (Nat.le_of_ble_eq_true rfl) rfl (Nat.le_of_ble_eq_true rfl) (hX2_noteMove.at 44 rfl rfl) (fun x11 => ?_)
      refine os_if_eq (off := 16) (tgt := 94) rfl (hX2_noteMove.at 45 rfl rfl) ?_ ?_
      · exact osW.sub [] rfl (sX2_noteMove_94 N )
      · refine os_aload_n (i := 0) (q := 0) (v := l0) 1 rfl rfl (hX2_noteMove.at 46 rfl rfl) ?_
        refine os_dup rfl (hX2_noteMove.at 47 rfl rfl) ?_
        refine os_getI fX2_18 (hX2_noteMove.at 48 rfl rfl) (fun x12 => ?_)
        refine os_iload_n (i := 3) (q := 3) (v := l3) 4 rfl rfl (hX2_noteMove.at 49 rfl rfl) ?_
        refine os_callSN (host := "OrderSettler") (As := [.int l3]) (st := [.int x12, .ref l0]) (st' := (fun r => .int r :: [.int x12, .ref l0])) mdX9_bit wd1307 wd712 (sX9_bit N l3) rfl rfl (fun _ => rfl) (Nat.le_of_ble_eq_true rfl) (Nat.le_of_ble_eq_true rfl) (Nat.le_of_ble_eq_true rfl) rfl (Nat.le_of_ble_eq_true rfl) rfl (Nat.le_of_ble_eq_true rfl) (hX2_noteMove.at 50 rfl rfl) (fun x13 => ?_)
        refine os_ior (hX2_noteMove.at 51 rfl rfl) ?_
        refine os_put fX2_18 rfl rfl (hX2_noteMove.at 52 rfl rfl) ?_
        exact osW.sub [] rfl (sX2_noteMove_94 N )
    · exact osW.sub [] rfl (sX2_noteMove_20 N )
-- X2_linkMove
def KX2_linkMove : List (Nat × Nat × Instr) := [(0, 1, .aload_n 1), (1, 3, .getfield 101), (4, 1, .iload_n 2), (5, 3, .invokestatic 104), (8, 1, .istore_n 3), (9, 1, .iload_n 2), (10, 3, .ifCond .lt 9), (13, 1, .iload_n 2), (14, 2, .bipush 16), (16, 3, .if_icmp .lt 4), (19, 1, .return_), (20, 1, .iconst 0), (21, 2, .istore 4), (23, 2, .iload 4), (25, 2, .bipush 16), (27, 3, .if_icmp .ge 86), (30, 2, .iload 4), (32, 1, .iload_n 2), (33, 3, .if_icmp .eq 33), (36, 1, .aload_n 0), (37, 3, .getfield 30), (40, 2, .iload 4), (42, 1, .iaload), (43, 1, .aload_n 0), (44, 3, .getfield 30), (47, 1, .iload_n 2), (48, 1, .iaload), (49, 3, .if_icmp .ne 17), (52, 1, .aload_n 0), (53, 3, .getfield 34), (56, 1, .iload_n 2), (57, 1, .dup2), (58, 1, .iaload), (59, 2, .iload 4), (61, 3, .invokestatic 76), (64, 1, .ior), (65, 1, .iastore), (66, 1, .aload_n 1), (67, 2, .iload 4), (69, 3, .invokevirtual 70), (72, 3, .ifCond .eq 35), (75, 1, .aload_n 1), (76, 3, .getfield 115), (79, 2, .iload 4), (81, 1, .iaload), (82, 1, .aload_n 1), (83, 3, .getfield 115), (86, 1, .iload_n 3), (87, 3, .invokestatic 104), (90, 3, .if_icmp .ne 17), (93, 1, .aload_n 0), (94, 3, .getfield 40), (97, 1, .iload_n 2), (98, 1, .dup2), (99, 1, .iaload), (100, 2, .iload 4), (102, 3, .invokestatic 76), (105, 1, .ior), (106, 1, .iastore), (107, 3, .iinc 4 1), (110, 3, .goto (-87)), (113, 1, .aload_n 0), (114, 3, .getfield 9), (117, 1, .iload_n 3), (118, 3, .invokestatic 87), (121, 3, .ifCond .eq 17), (124, 1, .aload_n 0), (125, 3, .getfield 43), (128, 1, .iload_n 2), (129, 1, .aload_n 0), (130, 3, .getfield 37), (133, 1, .iload_n 3), (134, 3, .invokestatic 104), (137, 1, .iastore), (138, 1, .aload_n 0), (139, 3, .getfield 18), (142, 1, .iload_n 2), (143, 3, .invokestatic 87), (146, 3, .ifCond .eq 42), (149, 1, .aload_n 0), (150, 3, .getfield 18), (153, 1, .iload_n 3), (154, 3, .invokestatic 87), (157, 3, .ifCond .eq 31), (160, 1, .aload_n 0), (161, 3, .getfield 30), (164, 1, .iload_n 3), (165, 3, .invokestatic 104), (168, 1, .iload_n 2), (169, 3, .invokestatic 76), (172, 3, .if_icmp .ne 16), (175, 1, .aload_n 0), (176, 1, .dup), (177, 3, .getfield 21), (180, 1, .iload_n 2), (181, 3, .invokestatic 76), (184, 1, .ior), (185, 3, .putfield 21), (188, 1, .return_)]
theorem hX2_linkMove : osDs cX2_linkMove KX2_linkMove := by
  show ∀ q ∈ KX2_linkMove, decode cX2_linkMove q.1 = .ok (q.2.2, q.2.1)
  decide +kernel
def qX2_linkMove_19 (N : Nat) : osM Unit := osret ()
def qX2_linkMove_188 (N : Nat) : osM Unit := osret ()
def qX2_linkMove_138 (N : Nat) (l0 : Nat) (l2 : Int32) (l3 : Int32) : osM Unit := osbind (osgI [2] 2 l0) fun x1 => osbind (qX9_has N x1 l2) fun x2 => osite (x2 = 0) (qX2_linkMove_188 N ) (osbind (osgI [2] 2 l0) fun x3 => osbind (qX9_has N x3 l3) fun x4 => osite (x4 = 0) (qX2_linkMove_188 N ) (osbind (osgR [2] 6 l0) fun x5 => osbind (qX9_entry N x5 l3) fun x6 => osbind (qX9_bit N l2) fun x7 => osite (x6 = x7) (osbind (osgI [2] 3 l0) fun x8 => osbind (qX9_bit N l2) fun x9 => osbind (osput [2] 3 l0 (.int (x8 ||| x9))) fun _ => qX2_linkMove_188 N ) (qX2_linkMove_188 N )))
def qX2_linkMove_107 (N : Nat) (c23 : Nat × Nat × Int32 × Int32 × Int32 → osM Unit) (l0 : Nat) (l1 : Nat) (l2 : Int32) (l3 : Int32) (l4 : Int32) : osM Unit := c23 (l0, l1, l2, l3, (l4 + (1 : Int32)))
def qX2_linkMove_66 (N : Nat) (c23 : Nat × Nat × Int32 × Int32 × Int32 → osM Unit) (l0 : Nat) (l1 : Nat) (l2 : Int32) (l3 : Int32) (l4 : Int32) : osM Unit := osbind (osrecv [5] l1 (qX5_hasUnit N l1 l4)) fun x1 => osite (x1 = 0) (qX2_linkMove_107 N c23 l0 l1 l2 l3 l4) (osbind (osgR [5] 6 l1) fun x2 => osbind (osaI 0 x2 l4) fun x3 => osbind (osgR [5] 6 l1) fun x4 => osbind (qX9_entry N x4 l3) fun x5 => osite (x3 = x5) (osbind (osgR [2] 9 l0) fun x6 => osbind (osaI 0 x6 l2) fun x7 => osbind (qX9_bit N l4) fun x8 => osbind (ossI 0 x6 l2 (x7 ||| x8)) fun _ => qX2_linkMove_107 N c23 l0 l1 l2 l3 l4) (qX2_linkMove_107 N c23 l0 l1 l2 l3 l4))
def bX2_linkMove_23 (N : Nat) (c23 : Nat × Nat × Int32 × Int32 × Int32 → osM Unit) (l0 : Nat) (l1 : Nat) (l2 : Int32) (l3 : Int32) (l4 : Int32) : osM Unit := osite ((16 : Int32) ≤ l4) (osbind (osgI [2] 0 l0) fun x1 => osbind (qX9_has N x1 l3) fun x2 => osite (x2 = 0) (qX2_linkMove_138 N l0 l2 l3) (osbind (osgR [2] 10 l0) fun x3 => osbind (osgR [2] 8 l0) fun x4 => osbind (qX9_entry N x4 l3) fun x5 => osbind (ossI 0 x3 l2 x5) fun _ => qX2_linkMove_138 N l0 l2 l3)) (osite (l4 = l2) (qX2_linkMove_66 N c23 l0 l1 l2 l3 l4) (osbind (osgR [2] 6 l0) fun x6 => osbind (osaI 0 x6 l4) fun x7 => osbind (osgR [2] 6 l0) fun x8 => osbind (osaI 0 x8 l2) fun x9 => osite (x7 = x9) (osbind (osgR [2] 7 l0) fun x10 => osbind (osaI 0 x10 l2) fun x11 => osbind (qX9_bit N l4) fun x12 => osbind (ossI 0 x10 l2 (x11 ||| x12)) fun _ => qX2_linkMove_66 N c23 l0 l1 l2 l3 l4) (qX2_linkMove_66 N c23 l0 l1 l2 l3 l4)))
def qX2_linkMove_23 (N : Nat) : Nat × Nat × Int32 × Int32 × Int32 → osM Unit := osloop (fun ih p => bX2_linkMove_23 N ih p.1 p.2.1 p.2.2.1 p.2.2.2.1 p.2.2.2.2) N
def qX2_linkMove (N : Nat) (l0 : Nat) (l1 : Nat) (l2 : Int32) : osM Unit := osbind (osgR [5] 13 l1) fun x1 => osbind (qX9_entry N x1 l2) fun x2 => osite (l2 < 0) (qX2_linkMove_19 N ) (osite (l2 < (16 : Int32)) (qX2_linkMove_23 N (l0, l1, l2, x2, (0 : Int32))) (qX2_linkMove_19 N ))
set_option maxRecDepth 100000 in
set_option maxHeartbeats 4000000 in
theorem sX2_linkMove_19 (N : Nat) : osW (osFinM (fun _ : Unit => none) 0 0) yX2_linkMove cX2_linkMove 5 none [] { frames := 2, cells := 0, slots := 0, locals := 42 } 0 0 19 [] [] (qX2_linkMove_19 N) := by
  unfold qX2_linkMove_19
  exact os_vret (Nat.le_of_ble_eq_true rfl) (Nat.le_of_ble_eq_true rfl) (hX2_linkMove.at 10 rfl rfl).1
set_option maxRecDepth 100000 in
set_option maxHeartbeats 4000000 in
theorem sX2_linkMove_188 (N : Nat) : osW (osFinM (fun _ : Unit => none) 0 0) yX2_linkMove cX2_linkMove 5 none [] { frames := 2, cells := 0, slots := 0, locals := 42 } 0 0 188 [] [] (qX2_linkMove_188 N) := by
  unfold qX2_linkMove_188
  exact os_vret (Nat.le_of_ble_eq_true rfl) (Nat.le_of_ble_eq_true rfl) (hX2_linkMove.at 98 rfl rfl).1
set_option maxRecDepth 100000 in
set_option maxHeartbeats 4000000 in
theorem sX2_linkMove_138 (N : Nat) (l0 : Nat) (l2 : Int32) (l3 : Int32) : osW (osFinM (fun _ : Unit => none) 0 0) yX2_linkMove cX2_linkMove 5 none [] { frames := 2, cells := 0, slots := 0, locals := 42 } 0 0 138 [(0, .ref l0), (2, .int l2), (3, .int l3)] [] (qX2_linkMove_138 N l0 l2 l3) := by
  unfold qX2_linkMove_138
  refine os_aload_n (i := 0) (q := 0) (v := l0) 0 rfl rfl (hX2_linkMove.at 74 rfl rfl) ?_
  refine os_getI fX2_18 (hX2_linkMove.at 75 rfl rfl) (fun x1 => ?_)
  refine os_iload_n (i := 2) (q := 2) (v := l2) 1 rfl rfl (hX2_linkMove.at 76 rfl rfl) ?_
  refine os_callSN (host := "OrderSettler") (As := [.int x1, .int l2]) (st := []) (st' := (fun r => .int r :: [])) mdX9_has wd1314 wd749 (sX9_has N x1 l2) rfl rfl (fun _ => rfl) (Nat.le_of_ble_eq_true rfl) (Nat.le_of_ble_eq_true rfl) (Nat.le_of_ble_eq_true rfl) rfl (Nat.le_of_ble_eq_true rfl) rfl (Nat.le_of_ble_eq_true rfl) (hX2_linkMove.at 77 rfl rfl) (fun x2 => ?_)
  refine os_if_eq (off := 42) (tgt := 188) rfl (hX2_linkMove.at 78 rfl rfl) ?_ ?_
  · exact osW.sub [] rfl (sX2_linkMove_188 N )
  · refine os_aload_n (i := 0) (q := 0) (v := l0) 0 rfl rfl (hX2_linkMove.at 79 rfl rfl) ?_
    refine os_getI fX2_18 (hX2_linkMove.at 80 rfl rfl) (fun x3 => ?_)
    refine os_iload_n (i := 3) (q := 3) (v := l3) 2 rfl rfl (hX2_linkMove.at 81 rfl rfl) ?_
    refine os_callSN (host := "OrderSettler") (As := [.int x3, .int l3]) (st := []) (st' := (fun r => .int r :: [])) mdX9_has wd1314 wd749 (sX9_has N x3 l3) rfl rfl (fun _ => rfl) (Nat.le_of_ble_eq_true rfl) (Nat.le_of_ble_eq_true rfl) (Nat.le_of_ble_eq_true rfl) rfl (Nat.le_of_ble_eq_true rfl) rfl (Nat.le_of_ble_eq_true rfl) (hX2_linkMove.at 82 rfl rfl) (fun x4 => ?_)
    refine os_if_eq (off := 31) (tgt := 188) rfl (hX2_linkMove.at 83 rfl rfl) ?_ ?_
    · exact osW.sub [] rfl (sX2_linkMove_188 N )
    · refine os_aload_n (i := 0) (q := 0) (v := l0) 0 rfl rfl (hX2_linkMove.at 84 rfl rfl) ?_
      refine os_getR fX2_30 (hX2_linkMove.at 85 rfl rfl) (fun x5 => ?_)
      refine os_iload_n (i := 3) (q := 3) (v := l3) 2 rfl rfl (hX2_linkMove.at 86 rfl rfl) ?_
      refine os_callSN (host := "OrderSettler") (As := [.ref x5, .int l3]) (st := []) (st' := (fun r => .int r :: [])) mdX9_entry wd1312 wd784 (sX9_entry N x5 l3) rfl rfl (fun _ => rfl) (Nat.le_of_ble_eq_true rfl) (Nat.le_of_ble_eq_true rfl) (Nat.le_of_ble_eq_true rfl) rfl (Nat.le_of_ble_eq_true rfl) rfl (Nat.le_of_ble_eq_true rfl) (hX2_linkMove.at 87 rfl rfl) (fun x6 => ?_)
      refine os_iload_n (i := 2) (q := 2) (v := l2) 1 rfl rfl (hX2_linkMove.at 88 rfl rfl) ?_
      refine os_callSN (host := "OrderSettler") (As := [.int l2]) (st := [.int x6]) (st' := (fun r => .int r :: [.int x6])) mdX9_bit wd1307 wd712 (sX9_bit N l2) rfl rfl (fun _ => rfl) (Nat.le_of_ble_eq_true rfl) (Nat.le_of_ble_eq_true rfl) (Nat.le_of_ble_eq_true rfl) rfl (Nat.le_of_ble_eq_true rfl) rfl (Nat.le_of_ble_eq_true rfl) (hX2_linkMove.at 89 rfl rfl) (fun x7 => ?_)
      refine os_icmp_ne (off := 16) (tgt := 188) rfl (hX2_linkMove.at 90 rfl rfl) ?_ ?_
      · exact osW.sub [] rfl (sX2_linkMove_188 N )
      · refine os_aload_n (i := 0) (q := 0) (v := l0) 0 rfl rfl (hX2_linkMove.at 91 rfl rfl) ?_
        refine os_dup rfl (hX2_linkMove.at 92 rfl rfl) ?_
        refine os_getI fX2_21 (hX2_linkMove.at 93 rfl rfl) (fun x8 => ?_)
        refine os_iload_n (i := 2) (q := 2) (v := l2) 1 rfl rfl (hX2_linkMove.at 94 rfl rfl) ?_
        refine os_callSN (host := "OrderSettler") (As := [.int l2]) (st := [.int x8, .ref l0]) (st' := (fun r => .int r :: [.int x8, .ref l0])) mdX9_bit wd1307 wd712 (sX9_bit N l2) rfl rfl (fun _ => rfl) (Nat.le_of_ble_eq_true rfl) (Nat.le_of_ble_eq_true rfl) (Nat.le_of_ble_eq_true rfl) rfl (Nat.le_of_ble_eq_true rfl) rfl (Nat.le_of_ble_eq_true rfl) (hX2_linkMove.at 95 rfl rfl) (fun x9 => ?_)
        refine os_ior (hX2_linkMove.at 96 rfl rfl) ?_
        refine os_put fX2_21 rfl rfl (hX2_linkMove.at 97 rfl rfl) ?_
        exact osW.sub [] rfl (sX2_linkMove_188 N )
set_option maxRecDepth 100000 in
set_option maxHeartbeats 4000000 in
theorem sX2_linkMove_107 (N : Nat) (c23 : Nat × Nat × Int32 × Int32 × Int32 → osM Unit) (g23 : ∀ (l0 : Nat) (l1 : Nat) (l2 : Int32) (l3 : Int32) (l4 : Int32), osW (osFinM (fun _ : Unit => none) 0 0) yX2_linkMove cX2_linkMove 5 none [] { frames := 2, cells := 0, slots := 0, locals := 42 } 0 0 23 [(0, .ref l0), (1, .ref l1), (2, .int l2), (3, .int l3), (4, .int l4)] [] (c23 (l0, l1, l2, l3, l4))) (l0 : Nat) (l1 : Nat) (l2 : Int32) (l3 : Int32) (l4 : Int32) : osW (osFinM (fun _ : Unit => none) 0 0) yX2_linkMove cX2_linkMove 5 none [] { frames := 2, cells := 0, slots := 0, locals := 42 } 0 0 107 [(0, .ref l0), (1, .ref l1), (2, .int l2), (3, .int l3), (4, .int l4)] [] (qX2_linkMove_107 N c23 l0 l1 l2 l3 l4) := by
  unfold qX2_linkMove_107
  refine os_iinc (i := 4) (d := 1) (x := l4) (v := (1 : Int32)) (lv' := [(4, .int (l4 + (1 : Int32))), (0, .ref l0), (1, .ref l1), (2, .int l2), (3, .int l3)]) 4 rfl rfl (Nat.le_of_ble_eq_true rfl) rfl (hX2_linkMove.at 59 rfl rfl) ?_
  refine os_goto (off := (-87)) (tgt := 23) rfl (hX2_linkMove.at 60 rfl rfl) ?_
  exact osW.sub [1, 2, 3, 4, 0] rfl (g23 l0 l1 l2 l3 (l4 + (1 : Int32)))
set_option maxRecDepth 100000 in
set_option maxHeartbeats 4000000 in
theorem sX2_linkMove_66 (N : Nat) (c23 : Nat × Nat × Int32 × Int32 × Int32 → osM Unit) (g23 : ∀ (l0 : Nat) (l1 : Nat) (l2 : Int32) (l3 : Int32) (l4 : Int32), osW (osFinM (fun _ : Unit => none) 0 0) yX2_linkMove cX2_linkMove 5 none [] { frames := 2, cells := 0, slots := 0, locals := 42 } 0 0 23 [(0, .ref l0), (1, .ref l1), (2, .int l2), (3, .int l3), (4, .int l4)] [] (c23 (l0, l1, l2, l3, l4))) (l0 : Nat) (l1 : Nat) (l2 : Int32) (l3 : Int32) (l4 : Int32) : osW (osFinM (fun _ : Unit => none) 0 0) yX2_linkMove cX2_linkMove 5 none [] { frames := 2, cells := 0, slots := 0, locals := 42 } 0 0 66 [(0, .ref l0), (1, .ref l1), (2, .int l2), (3, .int l3), (4, .int l4)] [] (qX2_linkMove_66 N c23 l0 l1 l2 l3 l4) := by
  unfold qX2_linkMove_66
  refine os_aload_n (i := 1) (q := 1) (v := l1) 1 rfl rfl (hX2_linkMove.at 37 rfl rfl) ?_
  refine os_iload (v := l4) 4 rfl (hX2_linkMove.at 38 rfl rfl) ?_
  refine os_callV (cis := [5]) (b := l1) (As := [.int l4]) (st := []) (st' := (fun r => .int r :: [])) sl5_X5_hasUnit_X5_hasUnit mdX5_hasUnit wd1306 wd807 (sX5_hasUnit N l1 l4) rfl rfl (fun _ => rfl) (Nat.le_of_ble_eq_true rfl) (Nat.le_of_ble_eq_true rfl) (Nat.le_of_ble_eq_true rfl) rfl (Nat.le_of_ble_eq_true rfl) rfl (Nat.le_of_ble_eq_true rfl) (hX2_linkMove.at 39 rfl rfl) (fun x1 => ?_)
  refine os_if_eq (off := 35) (tgt := 107) rfl (hX2_linkMove.at 40 rfl rfl) ?_ ?_
  · exact osW.sub [0, 1, 2, 3, 4] rfl (sX2_linkMove_107 N c23 g23 l0 l1 l2 l3 l4)
  · refine os_aload_n (i := 1) (q := 1) (v := l1) 1 rfl rfl (hX2_linkMove.at 41 rfl rfl) ?_
    refine os_getR fX2_115 (hX2_linkMove.at 42 rfl rfl) (fun x2 => ?_)
    refine os_iload (v := l4) 4 rfl (hX2_linkMove.at 43 rfl rfl) ?_
    refine os_iaload (hX2_linkMove.at 44 rfl rfl) (fun x3 => ?_)
    refine os_aload_n (i := 1) (q := 1) (v := l1) 1 rfl rfl (hX2_linkMove.at 45 rfl rfl) ?_
    refine os_getR fX2_115 (hX2_linkMove.at 46 rfl rfl) (fun x4 => ?_)
    refine os_iload_n (i := 3) (q := 3) (v := l3) 3 rfl rfl (hX2_linkMove.at 47 rfl rfl) ?_
    refine os_callSN (host := "OrderSettler") (As := [.ref x4, .int l3]) (st := [.int x3]) (st' := (fun r => .int r :: [.int x3])) mdX9_entry wd1312 wd784 (sX9_entry N x4 l3) rfl rfl (fun _ => rfl) (Nat.le_of_ble_eq_true rfl) (Nat.le_of_ble_eq_true rfl) (Nat.le_of_ble_eq_true rfl) rfl (Nat.le_of_ble_eq_true rfl) rfl (Nat.le_of_ble_eq_true rfl) (hX2_linkMove.at 48 rfl rfl) (fun x5 => ?_)
    refine os_icmp_ne (off := 17) (tgt := 107) rfl (hX2_linkMove.at 49 rfl rfl) ?_ ?_
    · exact osW.sub [0, 1, 2, 3, 4] rfl (sX2_linkMove_107 N c23 g23 l0 l1 l2 l3 l4)
    · refine os_aload_n (i := 0) (q := 0) (v := l0) 0 rfl rfl (hX2_linkMove.at 50 rfl rfl) ?_
      refine os_getR fX2_40 (hX2_linkMove.at 51 rfl rfl) (fun x6 => ?_)
      refine os_iload_n (i := 2) (q := 2) (v := l2) 2 rfl rfl (hX2_linkMove.at 52 rfl rfl) ?_
      refine os_dup2_11 rfl rfl (hX2_linkMove.at 53 rfl rfl) ?_
      refine os_iaload (hX2_linkMove.at 54 rfl rfl) (fun x7 => ?_)
      refine os_iload (v := l4) 4 rfl (hX2_linkMove.at 55 rfl rfl) ?_
      refine os_callSN (host := "OrderSettler") (As := [.int l4]) (st := [.int x7, .int l2, .ref x6]) (st' := (fun r => .int r :: [.int x7, .int l2, .ref x6])) mdX9_bit wd1307 wd712 (sX9_bit N l4) rfl rfl (fun _ => rfl) (Nat.le_of_ble_eq_true rfl) (Nat.le_of_ble_eq_true rfl) (Nat.le_of_ble_eq_true rfl) rfl (Nat.le_of_ble_eq_true rfl) rfl (Nat.le_of_ble_eq_true rfl) (hX2_linkMove.at 56 rfl rfl) (fun x8 => ?_)
      refine os_ior (hX2_linkMove.at 57 rfl rfl) ?_
      refine os_iastore (hX2_linkMove.at 58 rfl rfl) ?_
      exact osW.sub [0, 1, 2, 3, 4] rfl (sX2_linkMove_107 N c23 g23 l0 l1 l2 l3 l4)
set_option maxRecDepth 100000 in
set_option maxHeartbeats 4000000 in
theorem tX2_linkMove_23 (N : Nat) (c23 : Nat × Nat × Int32 × Int32 × Int32 → osM Unit) (g23 : ∀ (l0 : Nat) (l1 : Nat) (l2 : Int32) (l3 : Int32) (l4 : Int32), osW (osFinM (fun _ : Unit => none) 0 0) yX2_linkMove cX2_linkMove 5 none [] { frames := 2, cells := 0, slots := 0, locals := 42 } 0 0 23 [(0, .ref l0), (1, .ref l1), (2, .int l2), (3, .int l3), (4, .int l4)] [] (c23 (l0, l1, l2, l3, l4))) (l0 : Nat) (l1 : Nat) (l2 : Int32) (l3 : Int32) (l4 : Int32) : osW (osFinM (fun _ : Unit => none) 0 0) yX2_linkMove cX2_linkMove 5 none [] { frames := 2, cells := 0, slots := 0, locals := 42 } 0 0 23 [(0, .ref l0), (1, .ref l1), (2, .int l2), (3, .int l3), (4, .int l4)] [] (bX2_linkMove_23 N c23 l0 l1 l2 l3 l4) := by
  unfold bX2_linkMove_23
  refine os_iload (v := l4) 4 rfl (hX2_linkMove.at 13 rfl rfl) ?_
  refine os_bipush (i := 16) (v := (16 : Int32)) rfl (hX2_linkMove.at 14 rfl rfl) ?_
  refine os_icmp_ge (off := 86) (tgt := 113) rfl (hX2_linkMove.at 15 rfl rfl) ?_ ?_
  · refine os_aload_n (i := 0) (q := 0) (v := l0) 0 rfl rfl (hX2_linkMove.at 61 rfl rfl) ?_
    refine os_getI fX2_9 (hX2_linkMove.at 62 rfl rfl) (fun x1 => ?_)
    refine os_iload_n (i := 3) (q := 3) (v := l3) 3 rfl rfl (hX2_linkMove.at 63 rfl rfl) ?_
    refine os_callSN (host := "OrderSettler") (As := [.int x1, .int l3]) (st := []) (st' := (fun r => .int r :: [])) mdX9_has wd1314 wd749 (sX9_has N x1 l3) rfl rfl (fun _ => rfl) (Nat.le_of_ble_eq_true rfl) (Nat.le_of_ble_eq_true rfl) (Nat.le_of_ble_eq_true rfl) rfl (Nat.le_of_ble_eq_true rfl) rfl (Nat.le_of_ble_eq_true rfl) (hX2_linkMove.at 64 rfl rfl) (fun x2 => ?_)
    refine os_if_eq (off := 17) (tgt := 138) rfl (hX2_linkMove.at 65 rfl rfl) ?_ ?_
    · exact osW.sub [0, 2, 3] rfl (sX2_linkMove_138 N l0 l2 l3)
    · refine os_aload_n (i := 0) (q := 0) (v := l0) 0 rfl rfl (hX2_linkMove.at 66 rfl rfl) ?_
      refine os_getR fX2_43 (hX2_linkMove.at 67 rfl rfl) (fun x3 => ?_)
      refine os_iload_n (i := 2) (q := 2) (v := l2) 2 rfl rfl (hX2_linkMove.at 68 rfl rfl) ?_
      refine os_aload_n (i := 0) (q := 0) (v := l0) 0 rfl rfl (hX2_linkMove.at 69 rfl rfl) ?_
      refine os_getR fX2_37 (hX2_linkMove.at 70 rfl rfl) (fun x4 => ?_)
      refine os_iload_n (i := 3) (q := 3) (v := l3) 3 rfl rfl (hX2_linkMove.at 71 rfl rfl) ?_
      refine os_callSN (host := "OrderSettler") (As := [.ref x4, .int l3]) (st := [.int l2, .ref x3]) (st' := (fun r => .int r :: [.int l2, .ref x3])) mdX9_entry wd1312 wd784 (sX9_entry N x4 l3) rfl rfl (fun _ => rfl) (Nat.le_of_ble_eq_true rfl) (Nat.le_of_ble_eq_true rfl) (Nat.le_of_ble_eq_true rfl) rfl (Nat.le_of_ble_eq_true rfl) rfl (Nat.le_of_ble_eq_true rfl) (hX2_linkMove.at 72 rfl rfl) (fun x5 => ?_)
      refine os_iastore (hX2_linkMove.at 73 rfl rfl) ?_
      exact osW.sub [0, 2, 3] rfl (sX2_linkMove_138 N l0 l2 l3)
  · refine os_iload (v := l4) 4 rfl (hX2_linkMove.at 16 rfl rfl) ?_
    refine os_iload_n (i := 2) (q := 2) (v := l2) 2 rfl rfl (hX2_linkMove.at 17 rfl rfl) ?_
    refine os_icmp_eq (off := 33) (tgt := 66) rfl (hX2_linkMove.at 18 rfl rfl) ?_ ?_
    · exact osW.sub [0, 1, 2, 3, 4] rfl (sX2_linkMove_66 N c23 g23 l0 l1 l2 l3 l4)
    · refine os_aload_n (i := 0) (q := 0) (v := l0) 0 rfl rfl (hX2_linkMove.at 19 rfl rfl) ?_
      refine os_getR fX2_30 (hX2_linkMove.at 20 rfl rfl) (fun x6 => ?_)
      refine os_iload (v := l4) 4 rfl (hX2_linkMove.at 21 rfl rfl) ?_
      refine os_iaload (hX2_linkMove.at 22 rfl rfl) (fun x7 => ?_)
      refine os_aload_n (i := 0) (q := 0) (v := l0) 0 rfl rfl (hX2_linkMove.at 23 rfl rfl) ?_
      refine os_getR fX2_30 (hX2_linkMove.at 24 rfl rfl) (fun x8 => ?_)
      refine os_iload_n (i := 2) (q := 2) (v := l2) 2 rfl rfl (hX2_linkMove.at 25 rfl rfl) ?_
      refine os_iaload (hX2_linkMove.at 26 rfl rfl) (fun x9 => ?_)
      refine os_icmp_ne (off := 17) (tgt := 66) rfl (hX2_linkMove.at 27 rfl rfl) ?_ ?_
      · exact osW.sub [0, 1, 2, 3, 4] rfl (sX2_linkMove_66 N c23 g23 l0 l1 l2 l3 l4)
      · refine os_aload_n (i := 0) (q := 0) (v := l0) 0 rfl rfl (hX2_linkMove.at 28 rfl rfl) ?_
        refine os_getR fX2_34 (hX2_linkMove.at 29 rfl rfl) (fun x10 => ?_)
        refine os_iload_n (i := 2) (q := 2) (v := l2) 2 rfl rfl (hX2_linkMove.at 30 rfl rfl) ?_
        refine os_dup2_11 rfl rfl (hX2_linkMove.at 31 rfl rfl) ?_
        refine os_iaload (hX2_linkMove.at 32 rfl rfl) (fun x11 => ?_)
        refine os_iload (v := l4) 4 rfl (hX2_linkMove.at 33 rfl rfl) ?_
        refine os_callSN (host := "OrderSettler") (As := [.int l4]) (st := [.int x11, .int l2, .ref x10]) (st' := (fun r => .int r :: [.int x11, .int l2, .ref x10])) mdX9_bit wd1307 wd712 (sX9_bit N l4) rfl rfl (fun _ => rfl) (Nat.le_of_ble_eq_true rfl) (Nat.le_of_ble_eq_true rfl) (Nat.le_of_ble_eq_true rfl) rfl (Nat.le_of_ble_eq_true rfl) rfl (Nat.le_of_ble_eq_true rfl) (hX2_linkMove.at 34 rfl rfl) (fun x12 => ?_)
        refine os_ior (hX2_linkMove.at 35 rfl rfl) ?_
        refine os_iastore (hX2_linkMove.at 36 rfl rfl) ?_
        exact osW.sub [0, 1, 2, 3, 4] rfl (sX2_linkMove_66 N c23 g23 l0 l1 l2 l3 l4)
set_option maxRecDepth 100000 in
set_option maxHeartbeats 4000000 in
theorem sX2_linkMove_23 (N : Nat) (l0 : Nat) (l1 : Nat) (l2 : Int32) (l3 : Int32) (l4 : Int32) : osW (osFinM (fun _ : Unit => none) 0 0) yX2_linkMove cX2_linkMove 5 none [] { frames := 2, cells := 0, slots := 0, locals := 42 } 0 0 23 [(0, .ref l0), (1, .ref l1), (2, .int l2), (3, .int l3), (4, .int l4)] [] (qX2_linkMove_23 N (l0, l1, l2, l3, l4)) :=
  osloop_W (lvf := fun p => [(0, .ref p.1), (1, .ref p.2.1), (2, .int p.2.2.1), (3, .int p.2.2.2.1), (4, .int p.2.2.2.2)]) (stf := fun p => []) (fun ih g p => tX2_linkMove_23 N ih (fun l0 l1 l2 l3 l4 => g (l0, l1, l2, l3, l4)) p.1 p.2.1 p.2.2.1 p.2.2.2.1 p.2.2.2.2) N (l0, l1, l2, l3, l4)
set_option maxRecDepth 100000 in
set_option maxHeartbeats 4000000 in
theorem sX2_linkMove (N : Nat) (l0 : Nat) (l1 : Nat) (l2 : Int32) : osMet yX2_linkMove cX2_linkMove 5 none 2 42 0 0 (fun _ : Unit => none) [.ref l0, .ref l1, .int l2] (qX2_linkMove N l0 l1 l2) := by
  refine osMet.of plX2 (Nat.le_of_ble_eq_true rfl) (osW.rw (lv2 := [(0, .ref l0), (1, .ref l1), (2, .int l2)]) ?_ rfl rfl rfl)
  unfold qX2_linkMove
  refine os_aload_n (i := 1) (q := 1) (v := l1) 1 rfl rfl (hX2_linkMove.at 0 rfl rfl) ?_
  refine os_getR fX2_101 (hX2_linkMove.at 1 rfl rfl) (fun x1 => ?_)
  refine os_iload_n (i := 2) (q := 2) (v := l2) 2 rfl rfl (hX2_linkMove.at 2 rfl rfl) ?_
  refine os_callSN (host := "OrderSettler") (As := [.ref x1, .int l2]) (st := []) (st' := (fun r => .int r :: [])) mdX9_entry wd1312 wd784 (sX9_entry N x1 l2) rfl rfl (fun _ => rfl) (Nat.le_of_ble_eq_true rfl) (Nat.le_of_ble_eq_true rfl) (Nat.le_of_ble_eq_true rfl) rfl (Nat.le_of_ble_eq_true rfl) rfl (Nat.le_of_ble_eq_true rfl) (hX2_linkMove.at 3 rfl rfl) (fun x2 => ?_)
  refine os_istore_n (i := 3) (q := 3) rfl (lv' := [(3, .int x2), (0, .ref l0), (1, .ref l1), (2, .int l2)]) (Nat.le_of_ble_eq_true rfl) rfl (hX2_linkMove.at 4 rfl rfl) ?_
  refine os_iload_n (i := 2) (q := 2) (v := l2) 3 rfl rfl (hX2_linkMove.at 5 rfl rfl) ?_
  refine os_if_lt (off := 9) (tgt := 19) rfl (hX2_linkMove.at 6 rfl rfl) ?_ ?_
  · exact osW.sub [] rfl (sX2_linkMove_19 N )
  · refine os_iload_n (i := 2) (q := 2) (v := l2) 3 rfl rfl (hX2_linkMove.at 7 rfl rfl) ?_
    refine os_bipush (i := 16) (v := (16 : Int32)) rfl (hX2_linkMove.at 8 rfl rfl) ?_
    refine os_icmp_lt (off := 4) (tgt := 20) rfl (hX2_linkMove.at 9 rfl rfl) ?_ ?_
    · refine os_iconst (i := 0) (v := (0 : Int32)) rfl (hX2_linkMove.at 11 rfl rfl) ?_
      refine os_istore (i := 4) (lv' := [(4, .int (0 : Int32)), (3, .int x2), (0, .ref l0), (1, .ref l1), (2, .int l2)]) (Nat.le_of_ble_eq_true rfl) rfl (hX2_linkMove.at 12 rfl rfl) ?_
      exact osW.sub [2, 3, 4, 1, 0] rfl (sX2_linkMove_23 N l0 l1 l2 x2 (0 : Int32))
    · exact osW.sub [] rfl (sX2_linkMove_19 N )
-- X2_prepare
def KX2_prepare : List (Nat × Nat × Instr) := [(0, 1, .aload_n 0), (1, 3, .invokevirtual 61), (4, 1, .iconst 0), (5, 1, .istore_n 3), (6, 1, .iload_n 3), (7, 2, .bipush 16), (9, 3, .if_icmp .ge 67), (12, 1, .aload_n 0), (13, 3, .getfield 58), (16, 1, .iload_n 3), (17, 1, .aload_n 1), (18, 1, .iload_n 3), (19, 1, .iconst 1), (20, 3, .invokevirtual 64), (23, 1, .iastore), (24, 1, .aload_n 2), (25, 1, .iload_n 3), (26, 3, .invokevirtual 70), (29, 3, .ifCond .eq 16), (32, 1, .aload_n 0), (33, 1, .dup), (34, 3, .getfield 9), (37, 1, .iload_n 3), (38, 3, .invokestatic 76), (41, 1, .ior), (42, 3, .putfield 9), (45, 1, .aload_n 2), (46, 1, .iload_n 3), (47, 3, .invokevirtual 70), (50, 3, .ifCond .eq 20), (53, 1, .aload_n 2), (54, 3, .getfield 80), (57, 1, .iload_n 3), (58, 1, .iaload), (59, 1, .iconst 1), (60, 3, .if_icmp .ne 10), (63, 1, .aload_n 0), (64, 1, .aload_n 1), (65, 1, .aload_n 2), (66, 1, .iload_n 3), (67, 3, .invokevirtual 83), (70, 3, .iinc 3 1), (73, 3, .goto (-67)), (76, 1, .iconst 0), (77, 1, .istore_n 3), (78, 1, .iload_n 3), (79, 2, .bipush 16), (81, 3, .if_icmp .ge 32), (84, 1, .aload_n 0), (85, 3, .getfield 9), (88, 1, .iload_n 3), (89, 3, .invokestatic 87), (92, 3, .ifCond .eq 15), (95, 1, .aload_n 0), (96, 1, .aload_n 2), (97, 1, .iload_n 3), (98, 3, .invokevirtual 91), (101, 1, .aload_n 0), (102, 1, .aload_n 2), (103, 1, .iload_n 3), (104, 3, .invokevirtual 95), (107, 3, .iinc 3 1), (110, 3, .goto (-32)), (113, 1, .iconst 0), (114, 1, .istore_n 3), (115, 1, .iload_n 3), (116, 2, .bipush 16), (118, 3, .if_icmp .ge 26), (121, 1, .aload_n 0), (122, 3, .getfield 15), (125, 1, .iload_n 3), (126, 3, .invokestatic 87), (129, 3, .ifCond .eq 9), (132, 1, .aload_n 0), (133, 1, .aload_n 2), (134, 1, .iload_n 3), (135, 3, .invokevirtual 98), (138, 3, .iinc 3 1), (141, 3, .goto (-26)), (144, 1, .return_)]
theorem hX2_prepare : osDs cX2_prepare KX2_prepare := by
  show ∀ q ∈ KX2_prepare, decode cX2_prepare q.1 = .ok (q.2.2, q.2.1)
  decide +kernel
def qX2_prepare_138 (N : Nat) (c115 : Nat × Nat × Int32 → osM Unit) (l0 : Nat) (l2 : Nat) (l3 : Int32) : osM Unit := c115 (l0, l2, (l3 + (1 : Int32)))
def bX2_prepare_115 (N : Nat) (c115 : Nat × Nat × Int32 → osM Unit) (l0 : Nat) (l2 : Nat) (l3 : Int32) : osM Unit := osite ((16 : Int32) ≤ l3) (osret ()) (osbind (osgI [2] 1 l0) fun x1 => osbind (qX9_has N x1 l3) fun x2 => osite (x2 = 0) (qX2_prepare_138 N c115 l0 l2 l3) (osbind (osrecv [2] l0 (qX2_linkMove N l0 l2 l3)) fun _ => qX2_prepare_138 N c115 l0 l2 l3))
def qX2_prepare_115 (N : Nat) : Nat × Nat × Int32 → osM Unit := osloop (fun ih p => bX2_prepare_115 N ih p.1 p.2.1 p.2.2) N
def qX2_prepare_107 (N : Nat) (c78 : Nat × Nat × Int32 → osM Unit) (l0 : Nat) (l2 : Nat) (l3 : Int32) : osM Unit := c78 (l0, l2, (l3 + (1 : Int32)))
def bX2_prepare_78 (N : Nat) (c78 : Nat × Nat × Int32 → osM Unit) (l0 : Nat) (l2 : Nat) (l3 : Int32) : osM Unit := osite ((16 : Int32) ≤ l3) (qX2_prepare_115 N (l0, l2, (0 : Int32))) (osbind (osgI [2] 0 l0) fun x1 => osbind (qX9_has N x1 l3) fun x2 => osite (x2 = 0) (qX2_prepare_107 N c78 l0 l2 l3) (osbind (osrecv [2] l0 (qX2_linkSupport N l0 l2 l3)) fun _ => osbind (osrecv [2] l0 (qX2_linkConvoy N l0 l2 l3)) fun _ => qX2_prepare_107 N c78 l0 l2 l3))
def qX2_prepare_78 (N : Nat) : Nat × Nat × Int32 → osM Unit := osloop (fun ih p => bX2_prepare_78 N ih p.1 p.2.1 p.2.2) N
def qX2_prepare_70 (N : Nat) (c6 : Nat × Nat × Nat × Int32 → osM Unit) (l0 : Nat) (l1 : Nat) (l2 : Nat) (l3 : Int32) : osM Unit := c6 (l0, l1, l2, (l3 + (1 : Int32)))
def qX2_prepare_45 (N : Nat) (c6 : Nat × Nat × Nat × Int32 → osM Unit) (l0 : Nat) (l1 : Nat) (l2 : Nat) (l3 : Int32) : osM Unit := osbind (osrecv [5] l2 (qX5_hasUnit N l2 l3)) fun x1 => osite (x1 = 0) (qX2_prepare_70 N c6 l0 l1 l2 l3) (osbind (osgR [5] 12 l2) fun x2 => osbind (osaI 0 x2 l3) fun x3 => osite (x3 = (1 : Int32)) (osbind (osrecv [2] l0 (qX2_noteMove N l0 l1 l2 l3)) fun _ => qX2_prepare_70 N c6 l0 l1 l2 l3) (qX2_prepare_70 N c6 l0 l1 l2 l3))
def bX2_prepare_6 (N : Nat) (c6 : Nat × Nat × Nat × Int32 → osM Unit) (l0 : Nat) (l1 : Nat) (l2 : Nat) (l3 : Int32) : osM Unit := osite ((16 : Int32) ≤ l3) (qX2_prepare_78 N (l0, l2, (0 : Int32))) (osbind (osgR [2] 15 l0) fun x1 => osbind (osrecv [0] l1 (qX0_bordersOf N l1 l3 (1 : Int32))) fun x2 => osbind (ossI 0 x1 l3 x2) fun _ => osbind (osrecv [5] l2 (qX5_hasUnit N l2 l3)) fun x3 => osite (x3 = 0) (qX2_prepare_45 N c6 l0 l1 l2 l3) (osbind (osgI [2] 0 l0) fun x4 => osbind (qX9_bit N l3) fun x5 => osbind (osput [2] 0 l0 (.int (x4 ||| x5))) fun _ => qX2_prepare_45 N c6 l0 l1 l2 l3))
def qX2_prepare_6 (N : Nat) : Nat × Nat × Nat × Int32 → osM Unit := osloop (fun ih p => bX2_prepare_6 N ih p.1 p.2.1 p.2.2.1 p.2.2.2) N
def qX2_prepare (N : Nat) (l0 : Nat) (l1 : Nat) (l2 : Nat) : osM Unit := osbind (osrecv [2] l0 (qX2_clear N l0)) fun _ => qX2_prepare_6 N (l0, l1, l2, (0 : Int32))
set_option maxRecDepth 100000 in
set_option maxHeartbeats 4000000 in
theorem sX2_prepare_138 (N : Nat) (c115 : Nat × Nat × Int32 → osM Unit) (g115 : ∀ (l0 : Nat) (l2 : Nat) (l3 : Int32), osW (osFinM (fun _ : Unit => none) 0 0) yX2_prepare cX2_prepare 4 none [] { frames := 3, cells := 0, slots := 0, locals := 72 } 0 0 115 [(0, .ref l0), (2, .ref l2), (3, .int l3)] [] (c115 (l0, l2, l3))) (l0 : Nat) (l2 : Nat) (l3 : Int32) : osW (osFinM (fun _ : Unit => none) 0 0) yX2_prepare cX2_prepare 4 none [] { frames := 3, cells := 0, slots := 0, locals := 72 } 0 0 138 [(0, .ref l0), (2, .ref l2), (3, .int l3)] [] (qX2_prepare_138 N c115 l0 l2 l3) := by
  unfold qX2_prepare_138
  refine os_iinc (i := 3) (d := 1) (x := l3) (v := (1 : Int32)) (lv' := [(3, .int (l3 + (1 : Int32))), (0, .ref l0), (2, .ref l2)]) 2 rfl rfl (Nat.le_of_ble_eq_true rfl) rfl (hX2_prepare.at 77 rfl rfl) ?_
  refine os_goto (off := (-26)) (tgt := 115) rfl (hX2_prepare.at 78 rfl rfl) ?_
  exact osW.sub [1, 2, 0] rfl (g115 l0 l2 (l3 + (1 : Int32)))
set_option maxRecDepth 100000 in
set_option maxHeartbeats 4000000 in
theorem tX2_prepare_115 (N : Nat) (c115 : Nat × Nat × Int32 → osM Unit) (g115 : ∀ (l0 : Nat) (l2 : Nat) (l3 : Int32), osW (osFinM (fun _ : Unit => none) 0 0) yX2_prepare cX2_prepare 4 none [] { frames := 3, cells := 0, slots := 0, locals := 72 } 0 0 115 [(0, .ref l0), (2, .ref l2), (3, .int l3)] [] (c115 (l0, l2, l3))) (l0 : Nat) (l2 : Nat) (l3 : Int32) : osW (osFinM (fun _ : Unit => none) 0 0) yX2_prepare cX2_prepare 4 none [] { frames := 3, cells := 0, slots := 0, locals := 72 } 0 0 115 [(0, .ref l0), (2, .ref l2), (3, .int l3)] [] (bX2_prepare_115 N c115 l0 l2 l3) := by
  unfold bX2_prepare_115
  refine os_iload_n (i := 3) (q := 3) (v := l3) 2 rfl rfl (hX2_prepare.at 65 rfl rfl) ?_
  refine os_bipush (i := 16) (v := (16 : Int32)) rfl (hX2_prepare.at 66 rfl rfl) ?_
  refine os_icmp_ge (off := 26) (tgt := 144) rfl (hX2_prepare.at 67 rfl rfl) ?_ ?_
  · exact os_vret (Nat.le_of_ble_eq_true rfl) (Nat.le_of_ble_eq_true rfl) (hX2_prepare.at 79 rfl rfl).1
  · refine os_aload_n (i := 0) (q := 0) (v := l0) 0 rfl rfl (hX2_prepare.at 68 rfl rfl) ?_
    refine os_getI fX2_15 (hX2_prepare.at 69 rfl rfl) (fun x1 => ?_)
    refine os_iload_n (i := 3) (q := 3) (v := l3) 2 rfl rfl (hX2_prepare.at 70 rfl rfl) ?_
    refine os_callSN (host := "OrderSettler") (As := [.int x1, .int l3]) (st := []) (st' := (fun r => .int r :: [])) mdX9_has wd1314 wd749 (sX9_has N x1 l3) rfl rfl (fun _ => rfl) (Nat.le_of_ble_eq_true rfl) (Nat.le_of_ble_eq_true rfl) (Nat.le_of_ble_eq_true rfl) rfl (Nat.le_of_ble_eq_true rfl) rfl (Nat.le_of_ble_eq_true rfl) (hX2_prepare.at 71 rfl rfl) (fun x2 => ?_)
    refine os_if_eq (off := 9) (tgt := 138) rfl (hX2_prepare.at 72 rfl rfl) ?_ ?_
    · exact osW.sub [0, 1, 2] rfl (sX2_prepare_138 N c115 g115 l0 l2 l3)
    · refine os_aload_n (i := 0) (q := 0) (v := l0) 0 rfl rfl (hX2_prepare.at 73 rfl rfl) ?_
      refine os_aload_n (i := 2) (q := 2) (v := l2) 1 rfl rfl (hX2_prepare.at 74 rfl rfl) ?_
      refine os_iload_n (i := 3) (q := 3) (v := l3) 2 rfl rfl (hX2_prepare.at 75 rfl rfl) ?_
      refine os_callV (cis := [2]) (b := l0) (As := [.ref l2, .int l3]) (st := []) (st' := (fun _ => [])) sl2_X2_linkMove_X2_linkMove mdX2_linkMove wd1323 wd1325 (sX2_linkMove N l0 l2 l3) rfl rfl (fun _ => rfl) (Nat.le_of_ble_eq_true rfl) (Nat.le_of_ble_eq_true rfl) (Nat.le_of_ble_eq_true rfl) rfl (Nat.le_of_ble_eq_true rfl) rfl (Nat.le_of_ble_eq_true rfl) (hX2_prepare.at 76 rfl rfl) (fun _ => ?_)
      exact osW.sub [0, 1, 2] rfl (sX2_prepare_138 N c115 g115 l0 l2 l3)
set_option maxRecDepth 100000 in
set_option maxHeartbeats 4000000 in
theorem sX2_prepare_115 (N : Nat) (l0 : Nat) (l2 : Nat) (l3 : Int32) : osW (osFinM (fun _ : Unit => none) 0 0) yX2_prepare cX2_prepare 4 none [] { frames := 3, cells := 0, slots := 0, locals := 72 } 0 0 115 [(0, .ref l0), (2, .ref l2), (3, .int l3)] [] (qX2_prepare_115 N (l0, l2, l3)) :=
  osloop_W (lvf := fun p => [(0, .ref p.1), (2, .ref p.2.1), (3, .int p.2.2)]) (stf := fun p => []) (fun ih g p => tX2_prepare_115 N ih (fun l0 l2 l3 => g (l0, l2, l3)) p.1 p.2.1 p.2.2) N (l0, l2, l3)
set_option maxRecDepth 100000 in
set_option maxHeartbeats 4000000 in
theorem sX2_prepare_107 (N : Nat) (c78 : Nat × Nat × Int32 → osM Unit) (g78 : ∀ (l0 : Nat) (l2 : Nat) (l3 : Int32), osW (osFinM (fun _ : Unit => none) 0 0) yX2_prepare cX2_prepare 4 none [] { frames := 3, cells := 0, slots := 0, locals := 72 } 0 0 78 [(0, .ref l0), (2, .ref l2), (3, .int l3)] [] (c78 (l0, l2, l3))) (l0 : Nat) (l2 : Nat) (l3 : Int32) : osW (osFinM (fun _ : Unit => none) 0 0) yX2_prepare cX2_prepare 4 none [] { frames := 3, cells := 0, slots := 0, locals := 72 } 0 0 107 [(0, .ref l0), (2, .ref l2), (3, .int l3)] [] (qX2_prepare_107 N c78 l0 l2 l3) := by
  unfold qX2_prepare_107
  refine os_iinc (i := 3) (d := 1) (x := l3) (v := (1 : Int32)) (lv' := [(3, .int (l3 + (1 : Int32))), (0, .ref l0), (2, .ref l2)]) 2 rfl rfl (Nat.le_of_ble_eq_true rfl) rfl (hX2_prepare.at 61 rfl rfl) ?_
  refine os_goto (off := (-32)) (tgt := 78) rfl (hX2_prepare.at 62 rfl rfl) ?_
  exact osW.sub [1, 2, 0] rfl (g78 l0 l2 (l3 + (1 : Int32)))
set_option maxRecDepth 100000 in
set_option maxHeartbeats 4000000 in
theorem tX2_prepare_78 (N : Nat) (c78 : Nat × Nat × Int32 → osM Unit) (g78 : ∀ (l0 : Nat) (l2 : Nat) (l3 : Int32), osW (osFinM (fun _ : Unit => none) 0 0) yX2_prepare cX2_prepare 4 none [] { frames := 3, cells := 0, slots := 0, locals := 72 } 0 0 78 [(0, .ref l0), (2, .ref l2), (3, .int l3)] [] (c78 (l0, l2, l3))) (l0 : Nat) (l2 : Nat) (l3 : Int32) : osW (osFinM (fun _ : Unit => none) 0 0) yX2_prepare cX2_prepare 4 none [] { frames := 3, cells := 0, slots := 0, locals := 72 } 0 0 78 [(0, .ref l0), (2, .ref l2), (3, .int l3)] [] (bX2_prepare_78 N c78 l0 l2 l3) := by
  unfold bX2_prepare_78
  refine os_iload_n (i := 3) (q := 3) (v := l3) 2 rfl rfl (hX2_prepare.at 45 rfl rfl) ?_
  refine os_bipush (i := 16) (v := (16 : Int32)) rfl (hX2_prepare.at 46 rfl rfl) ?_
  refine os_icmp_ge (off := 32) (tgt := 113) rfl (hX2_prepare.at 47 rfl rfl) ?_ ?_
  · refine os_iconst (i := 0) (v := (0 : Int32)) rfl (hX2_prepare.at 63 rfl rfl) ?_
    refine os_istore_n (i := 3) (q := 3) rfl (lv' := [(3, .int (0 : Int32)), (0, .ref l0), (2, .ref l2)]) (Nat.le_of_ble_eq_true rfl) rfl (hX2_prepare.at 64 rfl rfl) ?_
    exact osW.sub [1, 2, 0] rfl (sX2_prepare_115 N l0 l2 (0 : Int32))
  · refine os_aload_n (i := 0) (q := 0) (v := l0) 0 rfl rfl (hX2_prepare.at 48 rfl rfl) ?_
    refine os_getI fX2_9 (hX2_prepare.at 49 rfl rfl) (fun x1 => ?_)
    refine os_iload_n (i := 3) (q := 3) (v := l3) 2 rfl rfl (hX2_prepare.at 50 rfl rfl) ?_
    refine os_callSN (host := "OrderSettler") (As := [.int x1, .int l3]) (st := []) (st' := (fun r => .int r :: [])) mdX9_has wd1314 wd749 (sX9_has N x1 l3) rfl rfl (fun _ => rfl) (Nat.le_of_ble_eq_true rfl) (Nat.le_of_ble_eq_true rfl) (Nat.le_of_ble_eq_true rfl) rfl (Nat.le_of_ble_eq_true rfl) rfl (Nat.le_of_ble_eq_true rfl) (hX2_prepare.at 51 rfl rfl) (fun x2 => ?_)
    refine os_if_eq (off := 15) (tgt := 107) rfl (hX2_prepare.at 52 rfl rfl) ?_ ?_
    · exact osW.sub [0, 1, 2] rfl (sX2_prepare_107 N c78 g78 l0 l2 l3)
    · refine os_aload_n (i := 0) (q := 0) (v := l0) 0 rfl rfl (hX2_prepare.at 53 rfl rfl) ?_
      refine os_aload_n (i := 2) (q := 2) (v := l2) 1 rfl rfl (hX2_prepare.at 54 rfl rfl) ?_
      refine os_iload_n (i := 3) (q := 3) (v := l3) 2 rfl rfl (hX2_prepare.at 55 rfl rfl) ?_
      refine os_callV (cis := [2]) (b := l0) (As := [.ref l2, .int l3]) (st := []) (st' := (fun _ => [])) sl2_X2_linkSupport_X2_linkSupport mdX2_linkSupport wd1315 wd1317 (sX2_linkSupport N l0 l2 l3) rfl rfl (fun _ => rfl) (Nat.le_of_ble_eq_true rfl) (Nat.le_of_ble_eq_true rfl) (Nat.le_of_ble_eq_true rfl) rfl (Nat.le_of_ble_eq_true rfl) rfl (Nat.le_of_ble_eq_true rfl) (hX2_prepare.at 56 rfl rfl) (fun _ => ?_)
      refine os_aload_n (i := 0) (q := 0) (v := l0) 0 rfl rfl (hX2_prepare.at 57 rfl rfl) ?_
      refine os_aload_n (i := 2) (q := 2) (v := l2) 1 rfl rfl (hX2_prepare.at 58 rfl rfl) ?_
      refine os_iload_n (i := 3) (q := 3) (v := l3) 2 rfl rfl (hX2_prepare.at 59 rfl rfl) ?_
      refine os_callV (cis := [2]) (b := l0) (As := [.ref l2, .int l3]) (st := []) (st' := (fun _ => [])) sl2_X2_linkConvoy_X2_linkConvoy mdX2_linkConvoy wd1319 wd1321 (sX2_linkConvoy N l0 l2 l3) rfl rfl (fun _ => rfl) (Nat.le_of_ble_eq_true rfl) (Nat.le_of_ble_eq_true rfl) (Nat.le_of_ble_eq_true rfl) rfl (Nat.le_of_ble_eq_true rfl) rfl (Nat.le_of_ble_eq_true rfl) (hX2_prepare.at 60 rfl rfl) (fun _ => ?_)
      exact osW.sub [0, 1, 2] rfl (sX2_prepare_107 N c78 g78 l0 l2 l3)
set_option maxRecDepth 100000 in
set_option maxHeartbeats 4000000 in
theorem sX2_prepare_78 (N : Nat) (l0 : Nat) (l2 : Nat) (l3 : Int32) : osW (osFinM (fun _ : Unit => none) 0 0) yX2_prepare cX2_prepare 4 none [] { frames := 3, cells := 0, slots := 0, locals := 72 } 0 0 78 [(0, .ref l0), (2, .ref l2), (3, .int l3)] [] (qX2_prepare_78 N (l0, l2, l3)) :=
  osloop_W (lvf := fun p => [(0, .ref p.1), (2, .ref p.2.1), (3, .int p.2.2)]) (stf := fun p => []) (fun ih g p => tX2_prepare_78 N ih (fun l0 l2 l3 => g (l0, l2, l3)) p.1 p.2.1 p.2.2) N (l0, l2, l3)
set_option maxRecDepth 100000 in
set_option maxHeartbeats 4000000 in
theorem sX2_prepare_70 (N : Nat) (c6 : Nat × Nat × Nat × Int32 → osM Unit) (g6 : ∀ (l0 : Nat) (l1 : Nat) (l2 : Nat) (l3 : Int32), osW (osFinM (fun _ : Unit => none) 0 0) yX2_prepare cX2_prepare 4 none [] { frames := 3, cells := 0, slots := 0, locals := 72 } 0 0 6 [(0, .ref l0), (1, .ref l1), (2, .ref l2), (3, .int l3)] [] (c6 (l0, l1, l2, l3))) (l0 : Nat) (l1 : Nat) (l2 : Nat) (l3 : Int32) : osW (osFinM (fun _ : Unit => none) 0 0) yX2_prepare cX2_prepare 4 none [] { frames := 3, cells := 0, slots := 0, locals := 72 } 0 0 70 [(0, .ref l0), (1, .ref l1), (2, .ref l2), (3, .int l3)] [] (qX2_prepare_70 N c6 l0 l1 l2 l3) := by
  unfold qX2_prepare_70
  refine os_iinc (i := 3) (d := 1) (x := l3) (v := (1 : Int32)) (lv' := [(3, .int (l3 + (1 : Int32))), (0, .ref l0), (1, .ref l1), (2, .ref l2)]) 3 rfl rfl (Nat.le_of_ble_eq_true rfl) rfl (hX2_prepare.at 41 rfl rfl) ?_
  refine os_goto (off := (-67)) (tgt := 6) rfl (hX2_prepare.at 42 rfl rfl) ?_
  exact osW.sub [1, 2, 3, 0] rfl (g6 l0 l1 l2 (l3 + (1 : Int32)))
set_option maxRecDepth 100000 in
set_option maxHeartbeats 4000000 in
theorem sX2_prepare_45 (N : Nat) (c6 : Nat × Nat × Nat × Int32 → osM Unit) (g6 : ∀ (l0 : Nat) (l1 : Nat) (l2 : Nat) (l3 : Int32), osW (osFinM (fun _ : Unit => none) 0 0) yX2_prepare cX2_prepare 4 none [] { frames := 3, cells := 0, slots := 0, locals := 72 } 0 0 6 [(0, .ref l0), (1, .ref l1), (2, .ref l2), (3, .int l3)] [] (c6 (l0, l1, l2, l3))) (l0 : Nat) (l1 : Nat) (l2 : Nat) (l3 : Int32) : osW (osFinM (fun _ : Unit => none) 0 0) yX2_prepare cX2_prepare 4 none [] { frames := 3, cells := 0, slots := 0, locals := 72 } 0 0 45 [(0, .ref l0), (1, .ref l1), (2, .ref l2), (3, .int l3)] [] (qX2_prepare_45 N c6 l0 l1 l2 l3) := by
  unfold qX2_prepare_45
  refine os_aload_n (i := 2) (q := 2) (v := l2) 2 rfl rfl (hX2_prepare.at 26 rfl rfl) ?_
  refine os_iload_n (i := 3) (q := 3) (v := l3) 3 rfl rfl (hX2_prepare.at 27 rfl rfl) ?_
  refine os_callV (cis := [5]) (b := l2) (As := [.int l3]) (st := []) (st' := (fun r => .int r :: [])) sl5_X5_hasUnit_X5_hasUnit mdX5_hasUnit wd1306 wd807 (sX5_hasUnit N l2 l3) rfl rfl (fun _ => rfl) (Nat.le_of_ble_eq_true rfl) (Nat.le_of_ble_eq_true rfl) (Nat.le_of_ble_eq_true rfl) rfl (Nat.le_of_ble_eq_true rfl) rfl (Nat.le_of_ble_eq_true rfl) (hX2_prepare.at 28 rfl rfl) (fun x1 => ?_)
  refine os_if_eq (off := 20) (tgt := 70) rfl (hX2_prepare.at 29 rfl rfl) ?_ ?_
  · exact osW.sub [0, 1, 2, 3] rfl (sX2_prepare_70 N c6 g6 l0 l1 l2 l3)
  · refine os_aload_n (i := 2) (q := 2) (v := l2) 2 rfl rfl (hX2_prepare.at 30 rfl rfl) ?_
    refine os_getR fX2_80 (hX2_prepare.at 31 rfl rfl) (fun x2 => ?_)
    refine os_iload_n (i := 3) (q := 3) (v := l3) 3 rfl rfl (hX2_prepare.at 32 rfl rfl) ?_
    refine os_iaload (hX2_prepare.at 33 rfl rfl) (fun x3 => ?_)
    refine os_iconst (i := 1) (v := (1 : Int32)) rfl (hX2_prepare.at 34 rfl rfl) ?_
    refine os_icmp_ne (off := 10) (tgt := 70) rfl (hX2_prepare.at 35 rfl rfl) ?_ ?_
    · exact osW.sub [0, 1, 2, 3] rfl (sX2_prepare_70 N c6 g6 l0 l1 l2 l3)
    · refine os_aload_n (i := 0) (q := 0) (v := l0) 0 rfl rfl (hX2_prepare.at 36 rfl rfl) ?_
      refine os_aload_n (i := 1) (q := 1) (v := l1) 1 rfl rfl (hX2_prepare.at 37 rfl rfl) ?_
      refine os_aload_n (i := 2) (q := 2) (v := l2) 2 rfl rfl (hX2_prepare.at 38 rfl rfl) ?_
      refine os_iload_n (i := 3) (q := 3) (v := l3) 3 rfl rfl (hX2_prepare.at 39 rfl rfl) ?_
      refine os_callV (cis := [2]) (b := l0) (As := [.ref l1, .ref l2, .int l3]) (st := []) (st' := (fun _ => [])) sl2_X2_noteMove_X2_noteMove mdX2_noteMove wd1308 wd1310 (sX2_noteMove N l0 l1 l2 l3) rfl rfl (fun _ => rfl) (Nat.le_of_ble_eq_true rfl) (Nat.le_of_ble_eq_true rfl) (Nat.le_of_ble_eq_true rfl) rfl (Nat.le_of_ble_eq_true rfl) rfl (Nat.le_of_ble_eq_true rfl) (hX2_prepare.at 40 rfl rfl) (fun _ => ?_)
      exact osW.sub [0, 1, 2, 3] rfl (sX2_prepare_70 N c6 g6 l0 l1 l2 l3)
set_option maxRecDepth 100000 in
set_option maxHeartbeats 4000000 in
theorem tX2_prepare_6 (N : Nat) (c6 : Nat × Nat × Nat × Int32 → osM Unit) (g6 : ∀ (l0 : Nat) (l1 : Nat) (l2 : Nat) (l3 : Int32), osW (osFinM (fun _ : Unit => none) 0 0) yX2_prepare cX2_prepare 4 none [] { frames := 3, cells := 0, slots := 0, locals := 72 } 0 0 6 [(0, .ref l0), (1, .ref l1), (2, .ref l2), (3, .int l3)] [] (c6 (l0, l1, l2, l3))) (l0 : Nat) (l1 : Nat) (l2 : Nat) (l3 : Int32) : osW (osFinM (fun _ : Unit => none) 0 0) yX2_prepare cX2_prepare 4 none [] { frames := 3, cells := 0, slots := 0, locals := 72 } 0 0 6 [(0, .ref l0), (1, .ref l1), (2, .ref l2), (3, .int l3)] [] (bX2_prepare_6 N c6 l0 l1 l2 l3) := by
  unfold bX2_prepare_6
  refine os_iload_n (i := 3) (q := 3) (v := l3) 3 rfl rfl (hX2_prepare.at 4 rfl rfl) ?_
  refine os_bipush (i := 16) (v := (16 : Int32)) rfl (hX2_prepare.at 5 rfl rfl) ?_
  refine os_icmp_ge (off := 67) (tgt := 76) rfl (hX2_prepare.at 6 rfl rfl) ?_ ?_
  · refine os_iconst (i := 0) (v := (0 : Int32)) rfl (hX2_prepare.at 43 rfl rfl) ?_
    refine os_istore_n (i := 3) (q := 3) rfl (lv' := [(3, .int (0 : Int32)), (0, .ref l0), (1, .ref l1), (2, .ref l2)]) (Nat.le_of_ble_eq_true rfl) rfl (hX2_prepare.at 44 rfl rfl) ?_
    exact osW.sub [1, 3, 0] rfl (sX2_prepare_78 N l0 l2 (0 : Int32))
  · refine os_aload_n (i := 0) (q := 0) (v := l0) 0 rfl rfl (hX2_prepare.at 7 rfl rfl) ?_
    refine os_getR fX2_58 (hX2_prepare.at 8 rfl rfl) (fun x1 => ?_)
    refine os_iload_n (i := 3) (q := 3) (v := l3) 3 rfl rfl (hX2_prepare.at 9 rfl rfl) ?_
    refine os_aload_n (i := 1) (q := 1) (v := l1) 1 rfl rfl (hX2_prepare.at 10 rfl rfl) ?_
    refine os_iload_n (i := 3) (q := 3) (v := l3) 3 rfl rfl (hX2_prepare.at 11 rfl rfl) ?_
    refine os_iconst (i := 1) (v := (1 : Int32)) rfl (hX2_prepare.at 12 rfl rfl) ?_
    refine os_callV (cis := [0]) (b := l1) (As := [.int l3, .int (1 : Int32)]) (st := [.int l3, .ref x1]) (st' := (fun r => .int r :: [.int l3, .ref x1])) sl0_X0_bordersOf_X0_bordersOf mdX0_bordersOf wd1302 wd1303 (sX0_bordersOf N l1 l3 (1 : Int32)) rfl rfl (fun _ => rfl) (Nat.le_of_ble_eq_true rfl) (Nat.le_of_ble_eq_true rfl) (Nat.le_of_ble_eq_true rfl) rfl (Nat.le_of_ble_eq_true rfl) rfl (Nat.le_of_ble_eq_true rfl) (hX2_prepare.at 13 rfl rfl) (fun x2 => ?_)
    refine os_iastore (hX2_prepare.at 14 rfl rfl) ?_
    refine os_aload_n (i := 2) (q := 2) (v := l2) 2 rfl rfl (hX2_prepare.at 15 rfl rfl) ?_
    refine os_iload_n (i := 3) (q := 3) (v := l3) 3 rfl rfl (hX2_prepare.at 16 rfl rfl) ?_
    refine os_callV (cis := [5]) (b := l2) (As := [.int l3]) (st := []) (st' := (fun r => .int r :: [])) sl5_X5_hasUnit_X5_hasUnit mdX5_hasUnit wd1306 wd807 (sX5_hasUnit N l2 l3) rfl rfl (fun _ => rfl) (Nat.le_of_ble_eq_true rfl) (Nat.le_of_ble_eq_true rfl) (Nat.le_of_ble_eq_true rfl) rfl (Nat.le_of_ble_eq_true rfl) rfl (Nat.le_of_ble_eq_true rfl) (hX2_prepare.at 17 rfl rfl) (fun x3 => ?_)
    refine os_if_eq (off := 16) (tgt := 45) rfl (hX2_prepare.at 18 rfl rfl) ?_ ?_
    · exact osW.sub [0, 1, 2, 3] rfl (sX2_prepare_45 N c6 g6 l0 l1 l2 l3)
    · refine os_aload_n (i := 0) (q := 0) (v := l0) 0 rfl rfl (hX2_prepare.at 19 rfl rfl) ?_
      refine os_dup rfl (hX2_prepare.at 20 rfl rfl) ?_
      refine os_getI fX2_9 (hX2_prepare.at 21 rfl rfl) (fun x4 => ?_)
      refine os_iload_n (i := 3) (q := 3) (v := l3) 3 rfl rfl (hX2_prepare.at 22 rfl rfl) ?_
      refine os_callSN (host := "OrderSettler") (As := [.int l3]) (st := [.int x4, .ref l0]) (st' := (fun r => .int r :: [.int x4, .ref l0])) mdX9_bit wd1307 wd712 (sX9_bit N l3) rfl rfl (fun _ => rfl) (Nat.le_of_ble_eq_true rfl) (Nat.le_of_ble_eq_true rfl) (Nat.le_of_ble_eq_true rfl) rfl (Nat.le_of_ble_eq_true rfl) rfl (Nat.le_of_ble_eq_true rfl) (hX2_prepare.at 23 rfl rfl) (fun x5 => ?_)
      refine os_ior (hX2_prepare.at 24 rfl rfl) ?_
      refine os_put fX2_9 rfl rfl (hX2_prepare.at 25 rfl rfl) ?_
      exact osW.sub [0, 1, 2, 3] rfl (sX2_prepare_45 N c6 g6 l0 l1 l2 l3)
set_option maxRecDepth 100000 in
set_option maxHeartbeats 4000000 in
theorem sX2_prepare_6 (N : Nat) (l0 : Nat) (l1 : Nat) (l2 : Nat) (l3 : Int32) : osW (osFinM (fun _ : Unit => none) 0 0) yX2_prepare cX2_prepare 4 none [] { frames := 3, cells := 0, slots := 0, locals := 72 } 0 0 6 [(0, .ref l0), (1, .ref l1), (2, .ref l2), (3, .int l3)] [] (qX2_prepare_6 N (l0, l1, l2, l3)) :=
  osloop_W (lvf := fun p => [(0, .ref p.1), (1, .ref p.2.1), (2, .ref p.2.2.1), (3, .int p.2.2.2)]) (stf := fun p => []) (fun ih g p => tX2_prepare_6 N ih (fun l0 l1 l2 l3 => g (l0, l1, l2, l3)) p.1 p.2.1 p.2.2.1 p.2.2.2) N (l0, l1, l2, l3)
set_option maxRecDepth 100000 in
set_option maxHeartbeats 4000000 in
theorem sX2_prepare (N : Nat) (l0 : Nat) (l1 : Nat) (l2 : Nat) : osMet yX2_prepare cX2_prepare 4 none 3 72 0 0 (fun _ : Unit => none) [.ref l0, .ref l1, .ref l2] (qX2_prepare N l0 l1 l2) := by
  refine osMet.of plX2 (Nat.le_of_ble_eq_true rfl) (osW.rw (lv2 := [(0, .ref l0), (1, .ref l1), (2, .ref l2)]) ?_ rfl rfl rfl)
  unfold qX2_prepare
  refine os_aload_n (i := 0) (q := 0) (v := l0) 0 rfl rfl (hX2_prepare.at 0 rfl rfl) ?_
  refine os_callV (cis := [2]) (b := l0) (As := []) (st := []) (st' := (fun _ => [])) sl2_X2_clear_X2_clear mdX2_clear wd1298 wd1300 (sX2_clear N l0 ) rfl rfl (fun _ => rfl) (Nat.le_of_ble_eq_true rfl) (Nat.le_of_ble_eq_true rfl) (Nat.le_of_ble_eq_true rfl) rfl (Nat.le_of_ble_eq_true rfl) rfl (Nat.le_of_ble_eq_true rfl) (hX2_prepare.at 1 rfl rfl) (fun _ => ?_)
  refine os_iconst (i := 0) (v := (0 : Int32)) rfl (hX2_prepare.at 2 rfl rfl) ?_
  refine os_istore_n (i := 3) (q := 3) rfl (lv' := [(3, .int (0 : Int32)), (0, .ref l0), (1, .ref l1), (2, .ref l2)]) (Nat.le_of_ble_eq_true rfl) rfl (hX2_prepare.at 3 rfl rfl) ?_
  exact osW.sub [1, 2, 3, 0] rfl (sX2_prepare_6 N l0 l1 l2 (0 : Int32))
