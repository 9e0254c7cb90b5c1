-- J6_bitCount_0f7a4
def KJ6_bitCount_0f7a4 : List (Nat × Nat × Instr) := [(0, 1, .iload_n 0), (1, 1, .iload_n 0), (2, 1, .iconst 1), (3, 1, .iushr), (4, 3, .ldc_w 265), (7, 1, .iand), (8, 1, .isub), (9, 1, .istore_n 0), (10, 1, .iload_n 0), (11, 3, .ldc_w 266), (14, 1, .iand), (15, 1, .iload_n 0), (16, 1, .iconst 2), (17, 1, .iushr), (18, 3, .ldc_w 266), (21, 1, .iand), (22, 1, .iadd), (23, 1, .istore_n 0), (24, 1, .iload_n 0), (25, 1, .iload_n 0), (26, 1, .iconst 4), (27, 1, .iushr), (28, 1, .iadd), (29, 3, .ldc_w 267), (32, 1, .iand), (33, 1, .istore_n 0), (34, 1, .iload_n 0), (35, 1, .iload_n 0), (36, 2, .bipush 8), (38, 1, .iushr), (39, 1, .iadd), (40, 1, .istore_n 0), (41, 1, .iload_n 0), (42, 1, .iload_n 0), (43, 2, .bipush 16), (45, 1, .iushr), (46, 1, .iadd), (47, 1, .istore_n 0), (48, 1, .iload_n 0), (49, 2, .bipush 63), (51, 1, .iand), (52, 1, .ireturn)]
theorem hJ6_bitCount_0f7a4 : osDs cJ6_bitCount_0f7a4 KJ6_bitCount_0f7a4 := by
  show ∀ q ∈ KJ6_bitCount_0f7a4, decode cJ6_bitCount_0f7a4 q.1 = .ok (q.2.2, q.2.1)
  decide +kernel
def qJ6_bitCount_0f7a4 (N : Nat) (l0 : Int32) : osM Int32 := osbind (osret ((l0 - ((osushr l0 (1 : Int32)) &&& (1431655765 : Int32))) : Int32)) fun x1 => osbind (osret (((x1 &&& (858993459 : Int32)) + ((osushr x1 (2 : Int32)) &&& (858993459 : Int32))) : Int32)) fun x2 => osbind (osret (((x2 + (osushr x2 (4 : Int32))) &&& (252645135 : Int32)) : Int32)) fun x3 => osbind (osret ((x3 + (osushr x3 (8 : Int32))) : Int32)) fun x4 => osbind (osret ((x4 + (osushr x4 (16 : Int32))) : Int32)) fun x5 => osret (x5 &&& (63 : Int32))
set_option maxRecDepth 100000 in
set_option maxHeartbeats 4000000 in
theorem sJ6_bitCount_0f7a4 (N : Nat) (l0 : Int32) : osMet yJ6_bitCount_0f7a4 cJ6_bitCount_0f7a4 1 (some .int) 0 0 0 0 (fun r : Int32 => some (.int r)) [.int l0] (qJ6_bitCount_0f7a4 N l0) := by
  refine osMet.of plJ6 (Nat.le_of_ble_eq_true rfl) (osW.rw (lv2 := [(0, .int l0)]) ?_ rfl rfl rfl)
  unfold qJ6_bitCount_0f7a4
  refine os_iload_n (i := 0) (q := 0) (v := l0) 0 rfl rfl (hJ6_bitCount_0f7a4.at 0 rfl rfl) ?_
  refine os_iload_n (i := 0) (q := 0) (v := l0) 0 rfl rfl (hJ6_bitCount_0f7a4.at 1 rfl rfl) ?_
  refine os_iconst (i := 1) (v := (1 : Int32)) rfl (hJ6_bitCount_0f7a4.at 2 rfl rfl) ?_
  refine os_iushr (hJ6_bitCount_0f7a4.at 3 rfl rfl) ?_
  refine os_ldcw (v := (1431655765 : Int32)) wd611 (hJ6_bitCount_0f7a4.at 4 rfl rfl) ?_
  refine os_iand (hJ6_bitCount_0f7a4.at 5 rfl rfl) ?_
  refine os_isub (hJ6_bitCount_0f7a4.at 6 rfl rfl) ?_
  refine os_nameI (fun x1 => ?_)
  refine os_istore_n (i := 0) (q := 0) rfl (lv' := [(0, .int x1)]) (Nat.le_of_ble_eq_true rfl) rfl (hJ6_bitCount_0f7a4.at 7 rfl rfl) ?_
  refine os_iload_n (i := 0) (q := 0) (v := x1) 0 rfl rfl (hJ6_bitCount_0f7a4.at 8 rfl rfl) ?_
  refine os_ldcw (v := (858993459 : Int32)) wd612 (hJ6_bitCount_0f7a4.at 9 rfl rfl) ?_
  refine os_iand (hJ6_bitCount_0f7a4.at 10 rfl rfl) ?_
  refine os_iload_n (i := 0) (q := 0) (v := x1) 0 rfl rfl (hJ6_bitCount_0f7a4.at 11 rfl rfl) ?_
  refine os_iconst (i := 2) (v := (2 : Int32)) rfl (hJ6_bitCount_0f7a4.at 12 rfl rfl) ?_
  refine os_iushr (hJ6_bitCount_0f7a4.at 13 rfl rfl) ?_
  refine os_ldcw (v := (858993459 : Int32)) wd612 (hJ6_bitCount_0f7a4.at 14 rfl rfl) ?_
  refine os_iand (hJ6_bitCount_0f7a4.at 15 rfl rfl) ?_
  refine os_iadd (hJ6_bitCount_0f7a4.at 16 rfl rfl) ?_
  refine os_nameI (fun x2 => ?_)
  refine os_istore_n (i := 0) (q := 0) rfl (lv' := [(0, .int x2)]) (Nat.le_of_ble_eq_true rfl) rfl (hJ6_bitCount_0f7a4.at 17 rfl rfl) ?_
  refine os_iload_n (i := 0) (q := 0) (v := x2) 0 rfl rfl (hJ6_bitCount_0f7a4.at 18 rfl rfl) ?_
  refine os_iload_n (i := 0) (q := 0) (v := x2) 0 rfl rfl (hJ6_bitCount_0f7a4.at 19 rfl rfl) ?_
  refine os_iconst (i := 4) (v := (4 : Int32)) rfl (hJ6_bitCount_0f7a4.at 20 rfl rfl) ?_
  refine os_iushr (hJ6_bitCount_0f7a4.at 21 rfl rfl) ?_
  refine os_iadd (hJ6_bitCount_0f7a4.at 22 rfl rfl) ?_
  refine os_ldcw (v := (252645135 : Int32)) wd613 (hJ6_bitCount_0f7a4.at 23 rfl rfl) ?_
  refine os_iand (hJ6_bitCount_0f7a4.at 24 rfl rfl) ?_
  refine os_nameI (fun x3 => ?_)
  refine os_istore_n (i := 0) (q := 0) rfl (lv' := [(0, .int x3)]) (Nat.le_of_ble_eq_true rfl) rfl (hJ6_bitCount_0f7a4.at 25 rfl rfl) ?_
  refine os_iload_n (i := 0) (q := 0) (v := x3) 0 rfl rfl (hJ6_bitCount_0f7a4.at 26 rfl rfl) ?_
  refine os_iload_n (i := 0) (q := 0) (v := x3) 0 rfl rfl (hJ6_bitCount_0f7a4.at 27 rfl rfl) ?_
  refine os_bipush (i := 8) (v := (8 : Int32)) rfl (hJ6_bitCount_0f7a4.at 28 rfl rfl) ?_
  refine os_iushr (hJ6_bitCount_0f7a4.at 29 rfl rfl) ?_
  refine os_iadd (hJ6_bitCount_0f7a4.at 30 rfl rfl) ?_
  refine os_nameI (fun x4 => ?_)
  refine os_istore_n (i := 0) (q := 0) rfl (lv' := [(0, .int x4)]) (Nat.le_of_ble_eq_true rfl) rfl (hJ6_bitCount_0f7a4.at 31 rfl rfl) ?_
  refine os_iload_n (i := 0) (q := 0) (v := x4) 0 rfl rfl (hJ6_bitCount_0f7a4.at 32 rfl rfl) ?_
  refine os_iload_n (i := 0) (q := 0) (v := x4) 0 rfl rfl (hJ6_bitCount_0f7a4.at 33 rfl rfl) ?_
  refine os_bipush (i := 16) (v := (16 : Int32)) rfl (hJ6_bitCount_0f7a4.at 34 rfl rfl) ?_
  refine os_iushr (hJ6_bitCount_0f7a4.at 35 rfl rfl) ?_
  refine os_iadd (hJ6_bitCount_0f7a4.at 36 rfl rfl) ?_
  refine os_nameI (fun x5 => ?_)
  refine os_istore_n (i := 0) (q := 0) rfl (lv' := [(0, .int x5)]) (Nat.le_of_ble_eq_true rfl) rfl (hJ6_bitCount_0f7a4.at 37 rfl rfl) ?_
  refine os_iload_n (i := 0) (q := 0) (v := x5) 0 rfl rfl (hJ6_bitCount_0f7a4.at 38 rfl rfl) ?_
  refine os_bipush (i := 63) (v := (63 : Int32)) rfl (hJ6_bitCount_0f7a4.at 39 rfl rfl) ?_
  refine os_iand (hJ6_bitCount_0f7a4.at 40 rfl rfl) ?_
  exact os_iret (Nat.le_of_ble_eq_true rfl) (Nat.le_of_ble_eq_true rfl) (hJ6_bitCount_0f7a4.at 41 rfl rfl).1
