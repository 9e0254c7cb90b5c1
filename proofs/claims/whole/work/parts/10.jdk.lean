-- J3_checkIndex, J0_checkIndex
def KJ3_checkIndex_8e157 : List (Nat × Nat × Instr) := [(0, 1, .iload_n 0), (1, 3, .ifCond .lt 8), (4, 1, .iload_n 0), (5, 1, .iload_n 1), (6, 3, .if_icmp .lt 10), (16, 1, .iload_n 0), (17, 1, .ireturn)]
theorem hJ3_checkIndex_8e157 : osDs cJ3_checkIndex_8e157 KJ3_checkIndex_8e157 := by
  show ∀ q ∈ KJ3_checkIndex_8e157, decode cJ3_checkIndex_8e157 q.1 = .ok (q.2.2, q.2.1)
  decide +kernel
def qJ3_checkIndex_8e157 (N : Nat) (l0 l1 : Int32) : osM Int32 := osite (l0 < 0) osno (osite (l0 < l1) (osret l0) osno)
theorem sJ3_checkIndex_8e157 (N : Nat) (l0 l1 : Int32) (v : Value) (hv : v = .null ∨ ∃ t : Nat, v = .ref t) : osMet yJ3_checkIndex_8e157 cJ3_checkIndex_8e157 3 (some .int) 0 0 0 0 (fun r : Int32 => some (.int r)) [.int l0, .int l1, v] (qJ3_checkIndex_8e157 N l0 l1) := by
  unfold qJ3_checkIndex_8e157
  rcases hv with rfl | ⟨t, rfl⟩
  · refine osMet.of plJ3 (Nat.le_of_ble_eq_true rfl) (osW.rw (lv2 := [(0, .int l0), (1, .int l1), (2, .null)]) ?_ rfl rfl rfl)
    refine os_iload_n (i := 0) (q := 0) (v := l0) 0 rfl rfl (hJ3_checkIndex_8e157.at 0 rfl rfl) ?_
    refine os_if_lt (off := 8) (tgt := 9) rfl (hJ3_checkIndex_8e157.at 1 rfl rfl) (os_no rfl) ?_
    refine os_iload_n (i := 0) (q := 0) (v := l0) 0 rfl rfl (hJ3_checkIndex_8e157.at 2 rfl rfl) ?_
    refine os_iload_n (i := 1) (q := 1) (v := l1) 1 rfl rfl (hJ3_checkIndex_8e157.at 3 rfl rfl) ?_
    refine os_icmp_lt (off := 10) (tgt := 16) rfl (hJ3_checkIndex_8e157.at 4 rfl rfl) ?_ (os_no rfl)
    refine os_iload_n (i := 0) (q := 0) (v := l0) 0 rfl rfl (hJ3_checkIndex_8e157.at 5 rfl rfl) ?_
    exact os_iret (Nat.le_of_ble_eq_true rfl) (Nat.le_of_ble_eq_true rfl) (hJ3_checkIndex_8e157.at 6 rfl rfl).1
  · refine osMet.of plJ3 (Nat.le_of_ble_eq_true rfl) (osW.rw (lv2 := [(0, .int l0), (1, .int l1), (2, .ref t)]) ?_ rfl rfl rfl)
    refine os_iload_n (i := 0) (q := 0) (v := l0) 0 rfl rfl (hJ3_checkIndex_8e157.at 0 rfl rfl) ?_
    refine os_if_lt (off := 8) (tgt := 9) rfl (hJ3_checkIndex_8e157.at 1 rfl rfl) (os_no rfl) ?_
    refine os_iload_n (i := 0) (q := 0) (v := l0) 0 rfl rfl (hJ3_checkIndex_8e157.at 2 rfl rfl) ?_
    refine os_iload_n (i := 1) (q := 1) (v := l1) 1 rfl rfl (hJ3_checkIndex_8e157.at 3 rfl rfl) ?_
    refine os_icmp_lt (off := 10) (tgt := 16) rfl (hJ3_checkIndex_8e157.at 4 rfl rfl) ?_ (os_no rfl)
    refine os_iload_n (i := 0) (q := 0) (v := l0) 0 rfl rfl (hJ3_checkIndex_8e157.at 5 rfl rfl) ?_
    exact os_iret (Nat.le_of_ble_eq_true rfl) (Nat.le_of_ble_eq_true rfl) (hJ3_checkIndex_8e157.at 6 rfl rfl).1
def KJ0_checkIndex_df160 : List (Nat × Nat × Instr) := [(0, 1, .iload_n 0), (1, 1, .iload_n 1), (2, 3, .getstatic 1053), (5, 3, .invokestatic 1059), (8, 1, .pop), (9, 1, .return_)]
theorem hJ0_checkIndex_df160 : osDs cJ0_checkIndex_df160 KJ0_checkIndex_df160 := by
  show ∀ q ∈ KJ0_checkIndex_df160, decode cJ0_checkIndex_df160 q.1 = .ok (q.2.2, q.2.1)
  decide +kernel
def qJ0_checkIndex_df160 (N : Nat) (l0 l1 : Int32) : osM Unit := osbind (qJ3_checkIndex_8e157 N l0 l1) fun _ => osret ()
theorem sJ0_checkIndex_df160 (N : Nat) (l0 l1 : Int32) : osMet yJ0_checkIndex_df160 cJ0_checkIndex_df160 2 none 1 22 0 0 (fun _ : Unit => none) [.int l0, .int l1] (qJ0_checkIndex_df160 N l0 l1) := by
  unfold qJ0_checkIndex_df160
  refine osMet.of plJ0 (Nat.le_of_ble_eq_true rfl) (osW.rw (lv2 := [(0, .int l0), (1, .int l1)]) ?_ rfl rfl rfl)
  refine os_iload_n (i := 0) (q := 0) (v := l0) 0 rfl rfl (hJ0_checkIndex_df160.at 0 rfl rfl) ?_
  refine os_iload_n (i := 1) (q := 1) (v := l1) 1 rfl rfl (hJ0_checkIndex_df160.at 1 rfl rfl) ?_
  refine os_sioobe wd681 (hJ0_checkIndex_df160.at 2 rfl rfl) (fun v hv => ?_)
  refine os_callS (As := [.int l0, .int l1, v]) (st := []) (st' := (fun r => .int r :: [])) mdJ3_checkIndex_8e157 wd683 wd684 (sJ3_checkIndex_8e157 N l0 l1 v hv) rfl rfl (fun _ => rfl) (Nat.le_of_ble_eq_true rfl) (Nat.le_of_ble_eq_true rfl) (Nat.le_of_ble_eq_true rfl) rfl (Nat.le_of_ble_eq_true rfl) rfl (Nat.le_of_ble_eq_true rfl) (hJ0_checkIndex_df160.at 3 rfl rfl) (fun x1 => ?_)
  refine os_pop rfl (hJ0_checkIndex_df160.at 4 rfl rfl) ?_
  exact os_vret (Nat.le_of_ble_eq_true rfl) (Nat.le_of_ble_eq_true rfl) (hJ0_checkIndex_df160.at 5 rfl rfl).1
-- J6_bitCount_0f7a4
def KJ6_bitCount_0f7a4 : List (Nat × Nat × Instr) := [(0, 1, .iload_n 0), (1, 1, .iload_n 0), (2, 1, .iconst 1), (3, 1, .iushr), (4, 3, .ldc_w 265), (7, 1, .iand), (8, 1, .isub), (9, 1, .istore_n 0), (10, 1, .iload_n 0), (11, 3, .ldc_w 266), (14, 1, .iand), (15, 1, .iload_n 0), (16, 1, .iconst 2), (17, 1, .iushr), (18, 3, .ldc_w 266), (21, 1, .iand), (22, 1, .iadd), (23, 1, .istore_n 0), (24, 1, .iload_n 0), (25, 1, .iload_n 0), (26, 1, .iconst 4), (27, 1, .iushr), (28, 1, .iadd), (29, 3, .ldc_w 267), (32, 1, .iand), (33, 1, .istore_n 0), (34, 1, .iload_n 0), (35, 1, .iload_n 0), (36, 2, .bipush 8), (38, 1, .iushr), (39, 1, .iadd), (40, 1, .istore_n 0), (41, 1, .iload_n 0), (42, 1, .iload_n 0), (43, 2, .bipush 16), (45, 1, .iushr), (46, 1, .iadd), (47, 1, .istore_n 0), (48, 1, .iload_n 0), (49, 2, .bipush 63), (51, 1, .iand), (52, 1, .ireturn)]
theorem hJ6_bitCount_0f7a4 : osDs cJ6_bitCount_0f7a4 KJ6_bitCount_0f7a4 := by
  show ∀ q ∈ KJ6_bitCount_0f7a4, decode cJ6_bitCount_0f7a4 q.1 = .ok (q.2.2, q.2.1)
  decide +kernel
def qJ6_bitCount_0f7a4 (N : Nat) (l0 : Int32) : osM Int32 := osbind (osret ((l0 - ((osushr l0 (1 : Int32)) &&& (1431655765 : Int32))) : Int32)) fun x1 => osbind (osret (((x1 &&& (858993459 : Int32)) + ((osushr x1 (2 : Int32)) &&& (858993459 : Int32))) : Int32)) fun x2 => osbind (osret (((x2 + (osushr x2 (4 : Int32))) &&& (252645135 : Int32)) : Int32)) fun x3 => osbind (osret ((x3 + (osushr x3 (8 : Int32))) : Int32)) fun x4 => osbind (osret ((x4 + (osushr x4 (16 : Int32))) : Int32)) fun x5 => osret (x5 &&& (63 : Int32))
set_option maxRecDepth 100000 in
set_option maxHeartbeats 4000000 in
theorem sJ6_bitCount_0f7a4 (N : Nat) (l0 : Int32) : osMet yJ6_bitCount_0f7a4 cJ6_bitCount_0f7a4 1 (some .int) 0 0 0 0 (fun r : Int32 => some (.int r)) [.int l0] (qJ6_bitCount_0f7a4 N l0) := by
  refine osMet.of plJ6 (Nat.le_of_ble_eq_true rfl) (osW.rw (lv2 := [(0, .int l0)]) ?_ rfl rfl rfl)
  unfold qJ6_bitCount_0f7a4
  refine os_iload_n (i := 0) (q := 0) (v := l0) 0 rfl rfl (hJ6_bitCount_0f7a4.at 0 rfl rfl) ?_
  refine os_iload_n (i := 0) (q := 0) (v := l0) 0 rfl rfl (hJ6_bitCount_0f7a4.at 1 rfl rfl) ?_
  refine os_iconst (i := 1) (v := (1 : Int32)) rfl (hJ6_bitCount_0f7a4.at 2 rfl rfl) ?_
  refine os_iushr (hJ6_bitCount_0f7a4.at 3 rfl rfl) ?_
  refine os_ldcw (v := (1431655765 : Int32)) wd611 (hJ6_bitCount_0f7a4.at 4 rfl rfl) ?_
  refine os_iand (hJ6_bitCount_0f7a4.at 5 rfl rfl) ?_
  refine os_isub (hJ6_bitCount_0f7a4.at 6 rfl rfl) ?_
  refine os_nameI (fun x1 => ?_)
  refine os_istore_n (i := 0) (q := 0) rfl (lv' := [(0, .int x1)]) (Nat.le_of_ble_eq_true rfl) rfl (hJ6_bitCount_0f7a4.at 7 rfl rfl) ?_
  refine os_iload_n (i := 0) (q := 0) (v := x1) 0 rfl rfl (hJ6_bitCount_0f7a4.at 8 rfl rfl) ?_
  refine os_ldcw (v := (858993459 : Int32)) wd612 (hJ6_bitCount_0f7a4.at 9 rfl rfl) ?_
  refine os_iand (hJ6_bitCount_0f7a4.at 10 rfl rfl) ?_
  refine os_iload_n (i := 0) (q := 0) (v := x1) 0 rfl rfl (hJ6_bitCount_0f7a4.at 11 rfl rfl) ?_
  refine os_iconst (i := 2) (v := (2 : Int32)) rfl (hJ6_bitCount_0f7a4.at 12 rfl rfl) ?_
  refine os_iushr (hJ6_bitCount_0f7a4.at 13 rfl rfl) ?_
  refine os_ldcw (v := (858993459 : Int32)) wd612 (hJ6_bitCount_0f7a4.at 14 rfl rfl) ?_
  refine os_iand (hJ6_bitCount_0f7a4.at 15 rfl rfl) ?_
  refine os_iadd (hJ6_bitCount_0f7a4.at 16 rfl rfl) ?_
  refine os_nameI (fun x2 => ?_)
  refine os_istore_n (i := 0) (q := 0) rfl (lv' := [(0, .int x2)]) (Nat.le_of_ble_eq_true rfl) rfl (hJ6_bitCount_0f7a4.at 17 rfl rfl) ?_
  refine os_iload_n (i := 0) (q := 0) (v := x2) 0 rfl rfl (hJ6_bitCount_0f7a4.at 18 rfl rfl) ?_
  refine os_iload_n (i := 0) (q := 0) (v := x2) 0 rfl rfl (hJ6_bitCount_0f7a4.at 19 rfl rfl) ?_
  refine os_iconst (i := 4) (v := (4 : Int32)) rfl (hJ6_bitCount_0f7a4.at 20 rfl rfl) ?_
  refine os_iushr (hJ6_bitCount_0f7a4.at 21 rfl rfl) ?_
  refine os_iadd (hJ6_bitCount_0f7a4.at 22 rfl rfl) ?_
  refine os_ldcw (v := (252645135 : Int32)) wd613 (hJ6_bitCount_0f7a4.at 23 rfl rfl) ?_
  refine os_iand (hJ6_bitCount_0f7a4.at 24 rfl rfl) ?_
  refine os_nameI (fun x3 => ?_)
  refine os_istore_n (i := 0) (q := 0) rfl (lv' := [(0, .int x3)]) (Nat.le_of_ble_eq_true rfl) rfl (hJ6_bitCount_0f7a4.at 25 rfl rfl) ?_
  refine os_iload_n (i := 0) (q := 0) (v := x3) 0 rfl rfl (hJ6_bitCount_0f7a4.at 26 rfl rfl) ?_
  refine os_iload_n (i := 0) (q := 0) (v := x3) 0 rfl rfl (hJ6_bitCount_0f7a4.at 27 rfl rfl) ?_
  refine os_bipush (i := 8) (v := (8 : Int32)) rfl (hJ6_bitCount_0f7a4.at 28 rfl rfl) ?_
  refine os_iushr (hJ6_bitCount_0f7a4.at 29 rfl rfl) ?_
  refine os_iadd (hJ6_bitCount_0f7a4.at 30 rfl rfl) ?_
  refine os_nameI (fun x4 => ?_)
  refine os_istore_n (i := 0) (q := 0) rfl (lv' := [(0, .int x4)]) (Nat.le_of_ble_eq_true rfl) rfl (hJ6_bitCount_0f7a4.at 31 rfl rfl) ?_
  refine os_iload_n (i := 0) (q := 0) (v := x4) 0 rfl rfl (hJ6_bitCount_0f7a4.at 32 rfl rfl) ?_
  refine os_iload_n (i := 0) (q := 0) (v := x4) 0 rfl rfl (hJ6_bitCount_0f7a4.at 33 rfl rfl) ?_
  refine os_bipush (i := 16) (v := (16 : Int32)) rfl (hJ6_bitCount_0f7a4.at 34 rfl rfl) ?_
  refine os_iushr (hJ6_bitCount_0f7a4.at 35 rfl rfl) ?_
  refine os_iadd (hJ6_bitCount_0f7a4.at 36 rfl rfl) ?_
  refine os_nameI (fun x5 => ?_)
  refine os_istore_n (i := 0) (q := 0) rfl (lv' := [(0, .int x5)]) (Nat.le_of_ble_eq_true rfl) rfl (hJ6_bitCount_0f7a4.at 37 rfl rfl) ?_
  refine os_iload_n (i := 0) (q := 0) (v := x5) 0 rfl rfl (hJ6_bitCount_0f7a4.at 38 rfl rfl) ?_
  refine os_bipush (i := 63) (v := (63 : Int32)) rfl (hJ6_bitCount_0f7a4.at 39 rfl rfl) ?_
  refine os_iand (hJ6_bitCount_0f7a4.at 40 rfl rfl) ?_
  exact os_iret (Nat.le_of_ble_eq_true rfl) (Nat.le_of_ble_eq_true rfl) (hJ6_bitCount_0f7a4.at 41 rfl rfl).1
-- J0_coder_7d493
def KJ0_coder_7d493 : List (Nat × Nat × Instr) := [(0, 3, .getstatic 38), (3, 3, .ifCond .eq 10), (6, 1, .aload_n 0), (7, 3, .getfield 15), (10, 3, .goto 4), (13, 1, .iconst 1), (14, 1, .ireturn)]
theorem hJ0_coder_7d493 : osDs cJ0_coder_7d493 KJ0_coder_7d493 := by
  show ∀ q ∈ KJ0_coder_7d493, decode cJ0_coder_7d493 q.1 = .ok (q.2.2, q.2.1)
  decide +kernel
def qJ0_coder_7d493_14 (N : Nat) (k0 : Int32) : osM Int32 := osretB k0
def qJ0_coder_7d493 (N : Nat) (l0 : Nat) : osM Int32 := osite ((1 : Int32) = 0) (qJ0_coder_7d493_14 N (1 : Int32)) (osbind (osscod l0) fun x1 => qJ0_coder_7d493_14 N x1)
set_option maxRecDepth 100000 in
set_option maxHeartbeats 4000000 in
theorem sJ0_coder_7d493_14 (N : Nat) (k0 : Int32) : osW (osFinM (fun r : Int32 => some (.int r)) 0 0) yJ0_coder_7d493 cJ0_coder_7d493 1 (some .byte) [] { frames := 0, cells := 0, slots := 0, locals := 0 } 0 0 14 [] [.int k0] (qJ0_coder_7d493_14 N k0) := by
  unfold qJ0_coder_7d493_14
  exact os_bret (Nat.le_of_ble_eq_true rfl) (Nat.le_of_ble_eq_true rfl) (hJ0_coder_7d493.at 6 rfl rfl).1
set_option maxRecDepth 100000 in
set_option maxHeartbeats 4000000 in
theorem sJ0_coder_7d493 (N : Nat) (l0 : Nat) : osMet yJ0_coder_7d493 cJ0_coder_7d493 1 (some .byte) 0 0 0 0 (fun r : Int32 => some (.int r)) [.ref l0] (qJ0_coder_7d493 N l0) := by
  refine osMet.of plJ0 (Nat.le_of_ble_eq_true rfl) (osW.rw (lv2 := [(0, .ref l0)]) ?_ rfl rfl rfl)
  unfold qJ0_coder_7d493
  refine os_compact wd665 (hJ0_coder_7d493.at 0 rfl rfl) ?_
  refine os_if_eq (off := 10) (tgt := 13) rfl (hJ0_coder_7d493.at 1 rfl rfl) ?_ ?_
  · refine os_iconst (i := 1) (v := (1 : Int32)) rfl (hJ0_coder_7d493.at 5 rfl rfl) ?_
    exact osW.sub [] rfl (sJ0_coder_7d493_14 N (1 : Int32))
  · refine os_aload_n (i := 0) (q := 0) (v := l0) 0 rfl rfl (hJ0_coder_7d493.at 2 rfl rfl) ?_
    refine os_scod wd2329 (hJ0_coder_7d493.at 3 rfl rfl) (fun x1 => ?_)
    refine os_goto (off := 4) (tgt := 14) rfl (hJ0_coder_7d493.at 4 rfl rfl) ?_
    exact osW.sub [] rfl (sJ0_coder_7d493_14 N x1)
-- J0_isLatin1_aae02
def KJ0_isLatin1_aae02 : List (Nat × Nat × Instr) := [(0, 3, .getstatic 38), (3, 3, .ifCond .eq 14), (6, 1, .aload_n 0), (7, 3, .getfield 15), (10, 3, .ifCond .ne 7), (13, 1, .iconst 1), (14, 3, .goto 4), (17, 1, .iconst 0), (18, 1, .ireturn)]
theorem hJ0_isLatin1_aae02 : osDs cJ0_isLatin1_aae02 KJ0_isLatin1_aae02 := by
  show ∀ q ∈ KJ0_isLatin1_aae02, decode cJ0_isLatin1_aae02 q.1 = .ok (q.2.2, q.2.1)
  decide +kernel
def qJ0_isLatin1_aae02_18 (N : Nat) (k0 : Int32) : osM Int32 := osretZ k0
def qJ0_isLatin1_aae02_17 (N : Nat) : osM Int32 := qJ0_isLatin1_aae02_18 N (0 : Int32)
def qJ0_isLatin1_aae02 (N : Nat) (l0 : Nat) : osM Int32 := osite ((1 : Int32) = 0) (qJ0_isLatin1_aae02_17 N ) (osbind (osscod l0) fun x1 => osite (x1 = 0) (qJ0_isLatin1_aae02_18 N (1 : Int32)) (qJ0_isLatin1_aae02_17 N ))
set_option maxRecDepth 100000 in
set_option maxHeartbeats 4000000 in
theorem sJ0_isLatin1_aae02_18 (N : Nat) (k0 : Int32) : osW (osFinM (fun r : Int32 => some (.int r)) 0 0) yJ0_isLatin1_aae02 cJ0_isLatin1_aae02 1 (some .boolean) [] { frames := 0, cells := 0, slots := 0, locals := 0 } 0 0 18 [] [.int k0] (qJ0_isLatin1_aae02_18 N k0) := by
  unfold qJ0_isLatin1_aae02_18
  exact os_zret (Nat.le_of_ble_eq_true rfl) (Nat.le_of_ble_eq_true rfl) (hJ0_isLatin1_aae02.at 8 rfl rfl).1
set_option maxRecDepth 100000 in
set_option maxHeartbeats 4000000 in
theorem sJ0_isLatin1_aae02_17 (N : Nat) : osW (osFinM (fun r : Int32 => some (.int r)) 0 0) yJ0_isLatin1_aae02 cJ0_isLatin1_aae02 1 (some .boolean) [] { frames := 0, cells := 0, slots := 0, locals := 0 } 0 0 17 [] [] (qJ0_isLatin1_aae02_17 N) := by
  unfold qJ0_isLatin1_aae02_17
  refine os_iconst (i := 0) (v := (0 : Int32)) rfl (hJ0_isLatin1_aae02.at 7 rfl rfl) ?_
  exact osW.sub [] rfl (sJ0_isLatin1_aae02_18 N (0 : Int32))
set_option maxRecDepth 100000 in
set_option maxHeartbeats 4000000 in
theorem sJ0_isLatin1_aae02 (N : Nat) (l0 : Nat) : osMet yJ0_isLatin1_aae02 cJ0_isLatin1_aae02 1 (some .boolean) 0 0 0 0 (fun r : Int32 => some (.int r)) [.ref l0] (qJ0_isLatin1_aae02 N l0) := by
  refine osMet.of plJ0 (Nat.le_of_ble_eq_true rfl) (osW.rw (lv2 := [(0, .ref l0)]) ?_ rfl rfl rfl)
  unfold qJ0_isLatin1_aae02
  refine os_compact wd665 (hJ0_isLatin1_aae02.at 0 rfl rfl) ?_
  refine os_if_eq (off := 14) (tgt := 17) rfl (hJ0_isLatin1_aae02.at 1 rfl rfl) ?_ ?_
  · exact osW.sub [] rfl (sJ0_isLatin1_aae02_17 N )
  · refine os_aload_n (i := 0) (q := 0) (v := l0) 0 rfl rfl (hJ0_isLatin1_aae02.at 2 rfl rfl) ?_
    refine os_scod wd2329 (hJ0_isLatin1_aae02.at 3 rfl rfl) (fun x1 => ?_)
    refine os_if_ne (off := 7) (tgt := 17) rfl (hJ0_isLatin1_aae02.at 4 rfl rfl) ?_ ?_
    · exact osW.sub [] rfl (sJ0_isLatin1_aae02_17 N )
    · refine os_iconst (i := 1) (v := (1 : Int32)) rfl (hJ0_isLatin1_aae02.at 5 rfl rfl) ?_
      refine os_goto (off := 4) (tgt := 18) rfl (hJ0_isLatin1_aae02.at 6 rfl rfl) ?_
      exact osW.sub [] rfl (sJ0_isLatin1_aae02_18 N (1 : Int32))
-- J1_charAt_3b067
def KJ1_charAt_3b067 : List (Nat × Nat × Instr) := [(0, 1, .iload_n 1), (1, 1, .aload_n 0), (2, 1, .arraylength), (3, 3, .invokestatic 9), (6, 1, .aload_n 0), (7, 1, .iload_n 1), (8, 1, .baload), (9, 3, .sipush 255), (12, 1, .iand), (13, 1, .i2c), (14, 1, .ireturn)]
theorem hJ1_charAt_3b067 : osDs cJ1_charAt_3b067 KJ1_charAt_3b067 := by
  show ∀ q ∈ KJ1_charAt_3b067, decode cJ1_charAt_3b067 q.1 = .ok (q.2.2, q.2.1)
  decide +kernel
def qJ1_charAt_3b067 (N : Nat) (l0 : Nat) (l1 : Int32) : osM Int32 := osbind (osblen l0) fun x1 => osbind (qJ0_checkIndex_df160 N l1 x1) fun _ => osbind (osbld l0 l1) fun x2 => osretC (((x2 &&& (255 : Int32)).toUInt32 % 65536).toInt32)
set_option maxRecDepth 100000 in
set_option maxHeartbeats 4000000 in
theorem sJ1_charAt_3b067 (N : Nat) (l0 : Nat) (l1 : Int32) : osMet yJ1_charAt_3b067 cJ1_charAt_3b067 2 (some .char) 2 43 0 0 (fun r : Int32 => some (.int r)) [.ref l0, .int l1] (qJ1_charAt_3b067 N l0 l1) := by
  refine osMet.of plJ1 (Nat.le_of_ble_eq_true rfl) (osW.rw (lv2 := [(0, .ref l0), (1, .int l1)]) ?_ rfl rfl rfl)
  unfold qJ1_charAt_3b067
  refine os_iload_n (i := 1) (q := 1) (v := l1) 1 rfl rfl (hJ1_charAt_3b067.at 0 rfl rfl) ?_
  refine os_aload_n (i := 0) (q := 0) (v := l0) 0 rfl rfl (hJ1_charAt_3b067.at 1 rfl rfl) ?_
  refine os_blen (hJ1_charAt_3b067.at 2 rfl rfl) (fun x1 => ?_)
  refine os_callS (As := [.int l1, .int x1]) (st := []) (st' := (fun _ => [])) mdJ0_checkIndex_df160 wd678 wd679 (sJ0_checkIndex_df160 N l1 x1) rfl rfl (fun _ => rfl) (Nat.le_of_ble_eq_true rfl) (Nat.le_of_ble_eq_true rfl) (Nat.le_of_ble_eq_true rfl) rfl (Nat.le_of_ble_eq_true rfl) rfl (Nat.le_of_ble_eq_true rfl) (hJ1_charAt_3b067.at 3 rfl rfl) (fun _ => ?_)
  refine os_aload_n (i := 0) (q := 0) (v := l0) 0 rfl rfl (hJ1_charAt_3b067.at 4 rfl rfl) ?_
  refine os_iload_n (i := 1) (q := 1) (v := l1) 1 rfl rfl (hJ1_charAt_3b067.at 5 rfl rfl) ?_
  refine os_bld (hJ1_charAt_3b067.at 6 rfl rfl) (fun x2 => ?_)
  refine os_sipush (i := 255) (v := (255 : Int32)) rfl (hJ1_charAt_3b067.at 7 rfl rfl) ?_
  refine os_iand (hJ1_charAt_3b067.at 8 rfl rfl) ?_
  refine os_i2c (hJ1_charAt_3b067.at 9 rfl rfl) ?_
  exact os_cret (Nat.le_of_ble_eq_true rfl) (Nat.le_of_ble_eq_true rfl) (hJ1_charAt_3b067.at 10 rfl rfl).1
-- J0_length_8abf5
def KJ0_length_8abf5 : List (Nat × Nat × Instr) := [(0, 1, .aload_n 0), (1, 3, .getfield 9), (4, 1, .arraylength), (5, 1, .aload_n 0), (6, 3, .invokevirtual 335), (9, 1, .ishr), (10, 1, .ireturn)]
theorem hJ0_length_8abf5 : osDs cJ0_length_8abf5 KJ0_length_8abf5 := by
  show ∀ q ∈ KJ0_length_8abf5, decode cJ0_length_8abf5 q.1 = .ok (q.2.2, q.2.1)
  decide +kernel
def qJ0_length_8abf5 (N : Nat) (l0 : Nat) : osM Int32 := osbind (ossval l0) fun x1 => osbind (osblen x1) fun x2 => osbind (osonstr l0 (qJ0_coder_7d493 N l0)) fun x3 => osret (osshr x2 x3)
set_option maxRecDepth 100000 in
set_option maxHeartbeats 4000000 in
theorem sJ0_length_8abf5 (N : Nat) (l0 : Nat) : osMet yJ0_length_8abf5 cJ0_length_8abf5 1 (some .int) 1 20 0 0 (fun r : Int32 => some (.int r)) [.ref l0] (qJ0_length_8abf5 N l0) := by
  refine osMet.of plJ0 (Nat.le_of_ble_eq_true rfl) (osW.rw (lv2 := [(0, .ref l0)]) ?_ rfl rfl rfl)
  unfold qJ0_length_8abf5
  refine os_aload_n (i := 0) (q := 0) (v := l0) 0 rfl rfl (hJ0_length_8abf5.at 0 rfl rfl) ?_
  refine os_sval wd2328 (hJ0_length_8abf5.at 1 rfl rfl) (fun x1 => ?_)
  refine os_blen (hJ0_length_8abf5.at 2 rfl rfl) (fun x2 => ?_)
  refine os_aload_n (i := 0) (q := 0) (v := l0) 0 rfl rfl (hJ0_length_8abf5.at 3 rfl rfl) ?_
  refine os_callStr (b := l0) (As := []) (st := [.int x2]) (st' := (fun r => .int r :: [.int x2])) wd663 mdJ0_coder_7d493 wd661 wd662 (sJ0_coder_7d493 N l0 ) rfl rfl (fun _ => rfl) (Nat.le_of_ble_eq_true rfl) (Nat.le_of_ble_eq_true rfl) (Nat.le_of_ble_eq_true rfl) rfl (Nat.le_of_ble_eq_true rfl) rfl (Nat.le_of_ble_eq_true rfl) (hJ0_length_8abf5.at 4 rfl rfl) (fun x3 => ?_)
  refine os_ishr (hJ0_length_8abf5.at 5 rfl rfl) ?_
  exact os_iret (Nat.le_of_ble_eq_true rfl) (Nat.le_of_ble_eq_true rfl) (hJ0_length_8abf5.at 6 rfl rfl).1
-- J0_charAt_5068e
def KJ0_charAt_5068e : List (Nat × Nat × Instr) := [(0, 1, .aload_n 0), (1, 3, .invokevirtual 492), (4, 3, .ifCond .eq 12), (7, 1, .aload_n 0), (8, 3, .getfield 9), (11, 1, .iload_n 1), (12, 3, .invokestatic 495), (15, 1, .ireturn), (16, 1, .aload_n 0), (17, 3, .getfield 9), (20, 1, .iload_n 1), (21, 3, .invokestatic 498), (24, 1, .ireturn)]
theorem hJ0_charAt_5068e : osDs cJ0_charAt_5068e KJ0_charAt_5068e := by
  show ∀ q ∈ KJ0_charAt_5068e, decode cJ0_charAt_5068e q.1 = .ok (q.2.2, q.2.1)
  decide +kernel
def qJ0_charAt_5068e (N : Nat) (l0 : Nat) (l1 : Int32) : osM Int32 := osbind (osonstr l0 (qJ0_isLatin1_aae02 N l0)) fun x1 => osite (x1 = 0) (osbind (ossval l0) fun x2 => osno) (osbind (ossval l0) fun x3 => osbind (qJ1_charAt_3b067 N x3 l1) fun x4 => osretC x4)
set_option maxRecDepth 100000 in
set_option maxHeartbeats 4000000 in
theorem sJ0_charAt_5068e (N : Nat) (l0 : Nat) (l1 : Int32) : osMet yJ0_charAt_5068e cJ0_charAt_5068e 2 (some .char) 3 64 0 0 (fun r : Int32 => some (.int r)) [.ref l0, .int l1] (qJ0_charAt_5068e N l0 l1) := by
  refine osMet.of plJ0 (Nat.le_of_ble_eq_true rfl) (osW.rw (lv2 := [(0, .ref l0), (1, .int l1)]) ?_ rfl rfl rfl)
  unfold qJ0_charAt_5068e
  refine os_aload_n (i := 0) (q := 0) (v := l0) 0 rfl rfl (hJ0_charAt_5068e.at 0 rfl rfl) ?_
  refine os_callStr (b := l0) (As := []) (st := []) (st' := (fun r => .int r :: [])) wd673 mdJ0_isLatin1_aae02 wd671 wd672 (sJ0_isLatin1_aae02 N l0 ) rfl rfl (fun _ => rfl) (Nat.le_of_ble_eq_true rfl) (Nat.le_of_ble_eq_true rfl) (Nat.le_of_ble_eq_true rfl) rfl (Nat.le_of_ble_eq_true rfl) rfl (Nat.le_of_ble_eq_true rfl) (hJ0_charAt_5068e.at 1 rfl rfl) (fun x1 => ?_)
  refine os_if_eq (off := 12) (tgt := 16) rfl (hJ0_charAt_5068e.at 2 rfl rfl) ?_ ?_
  · refine os_aload_n (i := 0) (q := 0) (v := l0) 0 rfl rfl (hJ0_charAt_5068e.at 8 rfl rfl) ?_
    refine os_sval wd2328 (hJ0_charAt_5068e.at 9 rfl rfl) (fun x2 => ?_)
    refine os_iload_n (i := 1) (q := 1) (v := l1) 1 rfl rfl (hJ0_charAt_5068e.at 10 rfl rfl) ?_
    exact os_no rfl
  · refine os_aload_n (i := 0) (q := 0) (v := l0) 0 rfl rfl (hJ0_charAt_5068e.at 3 rfl rfl) ?_
    refine os_sval wd2328 (hJ0_charAt_5068e.at 4 rfl rfl) (fun x3 => ?_)
    refine os_iload_n (i := 1) (q := 1) (v := l1) 1 rfl rfl (hJ0_charAt_5068e.at 5 rfl rfl) ?_
    refine os_callS (As := [.ref x3, .int l1]) (st := []) (st' := (fun r => .int r :: [])) mdJ1_charAt_3b067 wd675 wd676 (sJ1_charAt_3b067 N x3 l1) rfl rfl (fun _ => rfl) (Nat.le_of_ble_eq_true rfl) (Nat.le_of_ble_eq_true rfl) (Nat.le_of_ble_eq_true rfl) rfl (Nat.le_of_ble_eq_true rfl) rfl (Nat.le_of_ble_eq_true rfl) (hJ0_charAt_5068e.at 6 rfl rfl) (fun x4 => ?_)
    exact os_cret (Nat.le_of_ble_eq_true rfl) (Nat.le_of_ble_eq_true rfl) (hJ0_charAt_5068e.at 7 rfl rfl).1
