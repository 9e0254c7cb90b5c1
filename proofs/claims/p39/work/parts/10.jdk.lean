-- J3_checkIndex, J0_checkIndex
def KJ3_checkIndex_8e157 : List (Nat × Nat × Instr) := [(0, 1, .iload_n 0), (1, 3, .ifCond .lt 8), (4, 1, .iload_n 0), (5, 1, .iload_n 1), (6, 3, .if_icmp .lt 10), (16, 1, .iload_n 0), (17, 1, .ireturn)]
theorem hJ3_checkIndex_8e157 : osDs cJ3_checkIndex_8e157 KJ3_checkIndex_8e157 := by
  show ∀ q ∈ KJ3_checkIndex_8e157, decode cJ3_checkIndex_8e157 q.1 = .ok (q.2.2, q.2.1)
  decide +kernel
def qJ3_checkIndex_8e157 (N : Nat) (l0 l1 : Int32) : osM Int32 := osite (l0 < 0) osno (osite (l0 < l1) (osret l0) osno)
theorem sJ3_checkIndex_8e157 (N : Nat) (l0 l1 : Int32) (v : Value) (hv : v = .null ∨ ∃ t : Nat, v = .ref t) : osMet yJ3_checkIndex_8e157 cJ3_checkIndex_8e157 3 (some .int) 0 0 0 0 (fun r : Int32 => some (.int r)) [.int l0, .int l1, v] (qJ3_checkIndex_8e157 N l0 l1) := by
  unfold qJ3_checkIndex_8e157
  rcases hv with rfl | ⟨t, rfl⟩
  · refine osMet.of plJ3 (Nat.le_of_ble_eq_true rfl) (osW.rw (lv2 := [(0, .int l0), (1, .int l1), (2, .null)]) ?_ rfl rfl rfl)
    refine os_iload_n (i := 0) (q := 0) (v := l0) 0 rfl rfl (hJ3_checkIndex_8e157.at 0 rfl rfl) ?_
    refine os_if_lt (off := 8) (tgt := 9) rfl (hJ3_checkIndex_8e157.at 1 rfl rfl) (os_no rfl) ?_
    refine os_iload_n (i := 0) (q := 0) (v := l0) 0 rfl rfl (hJ3_checkIndex_8e157.at 2 rfl rfl) ?_
    refine os_iload_n (i := 1) (q := 1) (v := l1) 1 rfl rfl (hJ3_checkIndex_8e157.at 3 rfl rfl) ?_
    refine os_icmp_lt (off := 10) (tgt := 16) rfl (hJ3_checkIndex_8e157.at 4 rfl rfl) ?_ (os_no rfl)
    refine os_iload_n (i := 0) (q := 0) (v := l0) 0 rfl rfl (hJ3_checkIndex_8e157.at 5 rfl rfl) ?_
    exact os_iret (Nat.le_of_ble_eq_true rfl) (Nat.le_of_ble_eq_true rfl) (hJ3_checkIndex_8e157.at 6 rfl rfl).1
  · refine osMet.of plJ3 (Nat.le_of_ble_eq_true rfl) (osW.rw (lv2 := [(0, .int l0), (1, .int l1), (2, .ref t)]) ?_ rfl rfl rfl)
    refine os_iload_n (i := 0) (q := 0) (v := l0) 0 rfl rfl (hJ3_checkIndex_8e157.at 0 rfl rfl) ?_
    refine os_if_lt (off := 8) (tgt := 9) rfl (hJ3_checkIndex_8e157.at 1 rfl rfl) (os_no rfl) ?_
    refine os_iload_n (i := 0) (q := 0) (v := l0) 0 rfl rfl (hJ3_checkIndex_8e157.at 2 rfl rfl) ?_
    refine os_iload_n (i := 1) (q := 1) (v := l1) 1 rfl rfl (hJ3_checkIndex_8e157.at 3 rfl rfl) ?_
    refine os_icmp_lt (off := 10) (tgt := 16) rfl (hJ3_checkIndex_8e157.at 4 rfl rfl) ?_ (os_no rfl)
    refine os_iload_n (i := 0) (q := 0) (v := l0) 0 rfl rfl (hJ3_checkIndex_8e157.at 5 rfl rfl) ?_
    exact os_iret (Nat.le_of_ble_eq_true rfl) (Nat.le_of_ble_eq_true rfl) (hJ3_checkIndex_8e157.at 6 rfl rfl).1
def KJ0_checkIndex_df160 : List (Nat × Nat × Instr) := [(0, 1, .iload_n 0), (1, 1, .iload_n 1), (2, 3, .getstatic 1053), (5, 3, .invokestatic 1059), (8, 1, .pop), (9, 1, .return_)]
theorem hJ0_checkIndex_df160 : osDs cJ0_checkIndex_df160 KJ0_checkIndex_df160 := by
  show ∀ q ∈ KJ0_checkIndex_df160, decode cJ0_checkIndex_df160 q.1 = .ok (q.2.2, q.2.1)
  decide +kernel
def qJ0_checkIndex_df160 (N : Nat) (l0 l1 : Int32) : osM Unit := osbind (qJ3_checkIndex_8e157 N l0 l1) fun _ => osret ()
theorem sJ0_checkIndex_df160 (N : Nat) (l0 l1 : Int32) : osMet yJ0_checkIndex_df160 cJ0_checkIndex_df160 2 none 1 22 0 0 (fun _ : Unit => none) [.int l0, .int l1] (qJ0_checkIndex_df160 N l0 l1) := by
  unfold qJ0_checkIndex_df160
  refine osMet.of plJ0 (Nat.le_of_ble_eq_true rfl) (osW.rw (lv2 := [(0, .int l0), (1, .int l1)]) ?_ rfl rfl rfl)
  refine os_iload_n (i := 0) (q := 0) (v := l0) 0 rfl rfl (hJ0_checkIndex_df160.at 0 rfl rfl) ?_
  refine os_iload_n (i := 1) (q := 1) (v := l1) 1 rfl rfl (hJ0_checkIndex_df160.at 1 rfl rfl) ?_
  refine os_sioobe wd519 (hJ0_checkIndex_df160.at 2 rfl rfl) (fun v hv => ?_)
  refine os_callS (As := [.int l0, .int l1, v]) (st := []) (st' := (fun r => .int r :: [])) mdJ3_checkIndex_8e157 wd521 wd522 (sJ3_checkIndex_8e157 N l0 l1 v hv) rfl rfl (fun _ => rfl) (Nat.le_of_ble_eq_true rfl) (Nat.le_of_ble_eq_true rfl) (Nat.le_of_ble_eq_true rfl) rfl (Nat.le_of_ble_eq_true rfl) rfl (Nat.le_of_ble_eq_true rfl) (hJ0_checkIndex_df160.at 3 rfl rfl) (fun x1 => ?_)
  refine os_pop rfl (hJ0_checkIndex_df160.at 4 rfl rfl) ?_
  exact os_vret (Nat.le_of_ble_eq_true rfl) (Nat.le_of_ble_eq_true rfl) (hJ0_checkIndex_df160.at 5 rfl rfl).1
-- J5_init_d00df
def KJ5_init_d00df : List (Nat × Nat × Instr) := [(0, 1, .aload_n 0), (1, 3, .invokespecial 3), (4, 3, .getstatic 18), (7, 3, .ifCond .eq 18), (10, 1, .aload_n 0), (11, 1, .iload_n 1), (12, 2, .newarray .byte), (14, 3, .putfield 15), (17, 1, .aload_n 0), (18, 1, .iconst 0), (19, 3, .putfield 22), (22, 3, .goto 16), (25, 1, .aload_n 0), (26, 1, .iload_n 1), (27, 3, .invokestatic 26), (30, 3, .putfield 15), (33, 1, .aload_n 0), (34, 1, .iconst 1), (35, 3, .putfield 22), (38, 1, .return_)]
theorem hJ5_init_d00df : osDs cJ5_init_d00df KJ5_init_d00df := by
  show ∀ q ∈ KJ5_init_d00df, decode cJ5_init_d00df q.1 = .ok (q.2.2, q.2.1)
  decide +kernel
def qJ5_init_d00df (N : Nat) (l0 : Nat) (l1 : Int32) : osM Unit := osite ((1 : Int32) = 0) (osno) (osbind (osnewB 64 l1) fun x1 => osbind (osput [9] 0 l0 (.ref x1)) fun _ => osbind (osput [9] 1 l0 (.int (0 : Int32))) fun _ => osret ())
set_option maxRecDepth 100000 in
set_option maxHeartbeats 4000000 in
theorem sJ5_init_d00df (N : Nat) (l0 : Nat) (l1 : Int32) : osMet yJ5_init_d00df cJ5_init_d00df 2 none 1 20 1 64 (fun _ : Unit => none) [.ref l0, .int l1] (qJ5_init_d00df N l0 l1) := by
  refine osMet.of plJ5 (Nat.le_of_ble_eq_true rfl) (osW.rw (lv2 := [(0, .ref l0), (1, .int l1)]) ?_ rfl rfl rfl)
  unfold qJ5_init_d00df
  refine os_aload_n (i := 0) (q := 0) (v := l0) 0 rfl rfl (hJ5_init_d00df.at 0 rfl rfl) ?_
  refine os_objInit wd842 wd88 wd89 (Nat.le_of_ble_eq_true rfl) (Nat.le_of_ble_eq_true rfl) (Nat.le_of_ble_eq_true rfl) (hJ5_init_d00df.at 1 rfl rfl) ?_
  refine os_compact wd843 (hJ5_init_d00df.at 2 rfl rfl) ?_
  refine os_if_eq (off := 18) (tgt := 25) rfl (hJ5_init_d00df.at 3 rfl rfl) ?_ ?_
  · refine os_aload_n (i := 0) (q := 0) (v := l0) 0 rfl rfl (hJ5_init_d00df.at 12 rfl rfl) ?_
    refine os_iload_n (i := 1) (q := 1) (v := l1) 1 rfl rfl (hJ5_init_d00df.at 13 rfl rfl) ?_
    exact os_no rfl
  · refine os_aload_n (i := 0) (q := 0) (v := l0) 0 rfl rfl (hJ5_init_d00df.at 4 rfl rfl) ?_
    refine os_iload_n (i := 1) (q := 1) (v := l1) 1 rfl rfl (hJ5_init_d00df.at 5 rfl rfl) ?_
    refine os_newB (B9 := 64) wd103 (by show _ ≤ 1; omega) (by show _ ≤ 64; omega) (hJ5_init_d00df.at 6 rfl rfl) (fun x1 => ?_)
    refine os_put fJ5_15 rfl rfl (hJ5_init_d00df.at 7 rfl rfl) ?_
    refine os_aload_n (i := 0) (q := 0) (v := l0) 0 rfl rfl (hJ5_init_d00df.at 8 rfl rfl) ?_
    refine os_iconst (i := 0) (v := (0 : Int32)) rfl (hJ5_init_d00df.at 9 rfl rfl) ?_
    refine os_put fJ5_22 rfl rfl (hJ5_init_d00df.at 10 rfl rfl) ?_
    refine os_goto (off := 16) (tgt := 38) rfl (hJ5_init_d00df.at 11 rfl rfl) ?_
    exact os_vret (by omega) (by omega) (hJ5_init_d00df.at 19 rfl rfl).1
-- J5_length_8abf5
def KJ5_length_8abf5 : List (Nat × Nat × Instr) := [(0, 1, .aload_n 0), (1, 3, .getfield 79), (4, 1, .ireturn)]
theorem hJ5_length_8abf5 : osDs cJ5_length_8abf5 KJ5_length_8abf5 := by
  show ∀ q ∈ KJ5_length_8abf5, decode cJ5_length_8abf5 q.1 = .ok (q.2.2, q.2.1)
  decide +kernel
def qJ5_length_8abf5 (N : Nat) (l0 : Nat) : osM Int32 := osbind (osgI [9] 3 l0) fun x1 => osret x1
set_option maxRecDepth 100000 in
set_option maxHeartbeats 4000000 in
theorem sJ5_length_8abf5 (N : Nat) (l0 : Nat) : osMet yJ5_length_8abf5 cJ5_length_8abf5 1 (some .int) 0 0 0 0 (fun r : Int32 => some (.int r)) [.ref l0] (qJ5_length_8abf5 N l0) := by
  refine osMet.of plJ5 (Nat.le_of_ble_eq_true rfl) (osW.rw (lv2 := [(0, .ref l0)]) ?_ rfl rfl rfl)
  unfold qJ5_length_8abf5
  refine os_aload_n (i := 0) (q := 0) (v := l0) 0 rfl rfl (hJ5_length_8abf5.at 0 rfl rfl) ?_
  refine os_getI fJ5_79 (hJ5_length_8abf5.at 1 rfl rfl) (fun x1 => ?_)
  exact os_iret (by omega) (by omega) (hJ5_length_8abf5.at 2 rfl rfl).1
-- J5_getValue_6d5f1
def KJ5_getValue_6d5f1 : List (Nat × Nat × Instr) := [(0, 1, .aload_n 0), (1, 3, .getfield 15), (4, 1, .areturn)]
theorem hJ5_getValue_6d5f1 : osDs cJ5_getValue_6d5f1 KJ5_getValue_6d5f1 := by
  show ∀ q ∈ KJ5_getValue_6d5f1, decode cJ5_getValue_6d5f1 q.1 = .ok (q.2.2, q.2.1)
  decide +kernel
def qJ5_getValue_6d5f1 (N : Nat) (l0 : Nat) : osM Nat := osbind (osgR [9] 0 l0) fun x1 => osret x1
set_option maxRecDepth 100000 in
set_option maxHeartbeats 4000000 in
theorem sJ5_getValue_6d5f1 (N : Nat) (l0 : Nat) : osMet yJ5_getValue_6d5f1 cJ5_getValue_6d5f1 1 (some (.array .byte)) 0 0 0 0 (fun r : Nat => some (.ref r)) [.ref l0] (qJ5_getValue_6d5f1 N l0) := by
  refine osMet.of plJ5 (Nat.le_of_ble_eq_true rfl) (osW.rw (lv2 := [(0, .ref l0)]) ?_ rfl rfl rfl)
  unfold qJ5_getValue_6d5f1
  refine os_aload_n (i := 0) (q := 0) (v := l0) 0 rfl rfl (hJ5_getValue_6d5f1.at 0 rfl rfl) ?_
  refine os_getR fJ5_15 (hJ5_getValue_6d5f1.at 1 rfl rfl) (fun x1 => ?_)
  exact os_aret (Or.inr ⟨_, rfl⟩) (by omega) (by omega) (hJ5_getValue_6d5f1.at 2 rfl rfl).1
-- J5_isLatin1_aae02
def KJ5_isLatin1_aae02 : List (Nat × Nat × Instr) := [(0, 3, .getstatic 18), (3, 3, .ifCond .eq 14), (6, 1, .aload_n 0), (7, 3, .getfield 22), (10, 3, .ifCond .ne 7), (13, 1, .iconst 1), (14, 3, .goto 4), (17, 1, .iconst 0), (18, 1, .ireturn)]
theorem hJ5_isLatin1_aae02 : osDs cJ5_isLatin1_aae02 KJ5_isLatin1_aae02 := by
  show ∀ q ∈ KJ5_isLatin1_aae02, decode cJ5_isLatin1_aae02 q.1 = .ok (q.2.2, q.2.1)
  decide +kernel
def qJ5_isLatin1_aae02_18 (N : Nat) (k0 : Int32) : osM Int32 := osretZ k0
def qJ5_isLatin1_aae02_17 (N : Nat) : osM Int32 := qJ5_isLatin1_aae02_18 N (0 : Int32)
def qJ5_isLatin1_aae02 (N : Nat) (l0 : Nat) : osM Int32 := osite ((1 : Int32) = 0) (qJ5_isLatin1_aae02_17 N ) (osbind (osgI [9] 1 l0) fun x1 => osite (x1 = 0) (qJ5_isLatin1_aae02_18 N (1 : Int32)) (qJ5_isLatin1_aae02_17 N ))
set_option maxRecDepth 100000 in
set_option maxHeartbeats 4000000 in
theorem sJ5_isLatin1_aae02_18 (N : Nat) (k0 : Int32) : osW (osFinM (fun r : Int32 => some (.int r)) 0 0) yJ5_isLatin1_aae02 cJ5_isLatin1_aae02 1 (some .boolean) [] { frames := 0, cells := 0, slots := 0, locals := 0 } (0) (0) 18 [] [.int k0] (qJ5_isLatin1_aae02_18 N k0) := by
  unfold qJ5_isLatin1_aae02_18
  exact os_zret (by omega) (by omega) (hJ5_isLatin1_aae02.at 8 rfl rfl).1
set_option maxRecDepth 100000 in
set_option maxHeartbeats 4000000 in
theorem sJ5_isLatin1_aae02_17 (N : Nat) : osW (osFinM (fun r : Int32 => some (.int r)) 0 0) yJ5_isLatin1_aae02 cJ5_isLatin1_aae02 1 (some .boolean) [] { frames := 0, cells := 0, slots := 0, locals := 0 } (0) (0) 17 [] [] (qJ5_isLatin1_aae02_17 N) := by
  unfold qJ5_isLatin1_aae02_17
  refine os_iconst (i := 0) (v := (0 : Int32)) rfl (hJ5_isLatin1_aae02.at 7 rfl rfl) ?_
  exact osW.widen (k' := 0) (n' := 0) (by omega) (by omega) (osW.sub [] rfl (sJ5_isLatin1_aae02_18 N (0 : Int32)))
set_option maxRecDepth 100000 in
set_option maxHeartbeats 4000000 in
theorem sJ5_isLatin1_aae02 (N : Nat) (l0 : Nat) : osMet yJ5_isLatin1_aae02 cJ5_isLatin1_aae02 1 (some .boolean) 0 0 0 0 (fun r : Int32 => some (.int r)) [.ref l0] (qJ5_isLatin1_aae02 N l0) := by
  refine osMet.of plJ5 (Nat.le_of_ble_eq_true rfl) (osW.rw (lv2 := [(0, .ref l0)]) ?_ rfl rfl rfl)
  unfold qJ5_isLatin1_aae02
  refine os_compact wd843 (hJ5_isLatin1_aae02.at 0 rfl rfl) ?_
  refine os_if_eq (off := 14) (tgt := 17) rfl (hJ5_isLatin1_aae02.at 1 rfl rfl) ?_ ?_
  · exact osW.widen (k' := 0) (n' := 0) (by omega) (by omega) (osW.sub [] rfl (sJ5_isLatin1_aae02_17 N ))
  · refine os_aload_n (i := 0) (q := 0) (v := l0) 0 rfl rfl (hJ5_isLatin1_aae02.at 2 rfl rfl) ?_
    refine os_getI fJ5_22 (hJ5_isLatin1_aae02.at 3 rfl rfl) (fun x1 => ?_)
    refine os_if_ne (off := 7) (tgt := 17) rfl (hJ5_isLatin1_aae02.at 4 rfl rfl) ?_ ?_
    · exact osW.widen (k' := 0) (n' := 0) (by omega) (by omega) (osW.sub [] rfl (sJ5_isLatin1_aae02_17 N ))
    · refine os_iconst (i := 1) (v := (1 : Int32)) rfl (hJ5_isLatin1_aae02.at 5 rfl rfl) ?_
      refine os_goto (off := 4) (tgt := 18) rfl (hJ5_isLatin1_aae02.at 6 rfl rfl) ?_
      exact osW.widen (k' := 0) (n' := 0) (by omega) (by omega) (osW.sub [] rfl (sJ5_isLatin1_aae02_18 N (1 : Int32)))
-- J6_bitCount_0f7a4
def KJ6_bitCount_0f7a4 : List (Nat × Nat × Instr) := [(0, 1, .iload_n 0), (1, 1, .iload_n 0), (2, 1, .iconst 1), (3, 1, .iushr), (4, 3, .ldc_w 265), (7, 1, .iand), (8, 1, .isub), (9, 1, .istore_n 0), (10, 1, .iload_n 0), (11, 3, .ldc_w 266), (14, 1, .iand), (15, 1, .iload_n 0), (16, 1, .iconst 2), (17, 1, .iushr), (18, 3, .ldc_w 266), (21, 1, .iand), (22, 1, .iadd), (23, 1, .istore_n 0), (24, 1, .iload_n 0), (25, 1, .iload_n 0), (26, 1, .iconst 4), (27, 1, .iushr), (28, 1, .iadd), (29, 3, .ldc_w 267), (32, 1, .iand), (33, 1, .istore_n 0), (34, 1, .iload_n 0), (35, 1, .iload_n 0), (36, 2, .bipush 8), (38, 1, .iushr), (39, 1, .iadd), (40, 1, .istore_n 0), (41, 1, .iload_n 0), (42, 1, .iload_n 0), (43, 2, .bipush 16), (45, 1, .iushr), (46, 1, .iadd), (47, 1, .istore_n 0), (48, 1, .iload_n 0), (49, 2, .bipush 63), (51, 1, .iand), (52, 1, .ireturn)]
theorem hJ6_bitCount_0f7a4 : osDs cJ6_bitCount_0f7a4 KJ6_bitCount_0f7a4 := by
  show ∀ q ∈ KJ6_bitCount_0f7a4, decode cJ6_bitCount_0f7a4 q.1 = .ok (q.2.2, q.2.1)
  decide +kernel
def qJ6_bitCount_0f7a4 (N : Nat) (l0 : Int32) : osM Int32 := osbind (osret ((l0 - ((osushr l0 (1 : Int32)) &&& (1431655765 : Int32))) : Int32)) fun x1 => osbind (osret (((x1 &&& (858993459 : Int32)) + ((osushr x1 (2 : Int32)) &&& (858993459 : Int32))) : Int32)) fun x2 => osbind (osret (((x2 + (osushr x2 (4 : Int32))) &&& (252645135 : Int32)) : Int32)) fun x3 => osbind (osret ((x3 + (osushr x3 (8 : Int32))) : Int32)) fun x4 => osbind (osret ((x4 + (osushr x4 (16 : Int32))) : Int32)) fun x5 => osret (x5 &&& (63 : Int32))
set_option maxRecDepth 100000 in
set_option maxHeartbeats 4000000 in
theorem sJ6_bitCount_0f7a4 (N : Nat) (l0 : Int32) : osMet yJ6_bitCount_0f7a4 cJ6_bitCount_0f7a4 1 (some .int) 0 0 0 0 (fun r : Int32 => some (.int r)) [.int l0] (qJ6_bitCount_0f7a4 N l0) := by
  refine osMet.of plJ6 (Nat.le_of_ble_eq_true rfl) (osW.rw (lv2 := [(0, .int l0)]) ?_ rfl rfl rfl)
  unfold qJ6_bitCount_0f7a4
  refine os_iload_n (i := 0) (q := 0) (v := l0) 0 rfl rfl (hJ6_bitCount_0f7a4.at 0 rfl rfl) ?_
  refine os_iload_n (i := 0) (q := 0) (v := l0) 0 rfl rfl (hJ6_bitCount_0f7a4.at 1 rfl rfl) ?_
  refine os_iconst (i := 1) (v := (1 : Int32)) rfl (hJ6_bitCount_0f7a4.at 2 rfl rfl) ?_
  refine os_iushr (hJ6_bitCount_0f7a4.at 3 rfl rfl) ?_
  refine os_ldcw (v := (1431655765 : Int32)) wd1245 (hJ6_bitCount_0f7a4.at 4 rfl rfl) ?_
  refine os_iand (hJ6_bitCount_0f7a4.at 5 rfl rfl) ?_
  refine os_isub (hJ6_bitCount_0f7a4.at 6 rfl rfl) ?_
  refine os_nameI (fun x1 => ?_)
  refine os_istore_n (i := 0) (q := 0) rfl (lv' := [(0, .int x1)]) (Nat.le_of_ble_eq_true rfl) rfl (hJ6_bitCount_0f7a4.at 7 rfl rfl) ?_
  refine os_iload_n (i := 0) (q := 0) (v := x1) 0 rfl rfl (hJ6_bitCount_0f7a4.at 8 rfl rfl) ?_
  refine os_ldcw (v := (858993459 : Int32)) wd1246 (hJ6_bitCount_0f7a4.at 9 rfl rfl) ?_
  refine os_iand (hJ6_bitCount_0f7a4.at 10 rfl rfl) ?_
  refine os_iload_n (i := 0) (q := 0) (v := x1) 0 rfl rfl (hJ6_bitCount_0f7a4.at 11 rfl rfl) ?_
  refine os_iconst (i := 2) (v := (2 : Int32)) rfl (hJ6_bitCount_0f7a4.at 12 rfl rfl) ?_
  refine os_iushr (hJ6_bitCount_0f7a4.at 13 rfl rfl) ?_
  refine os_ldcw (v := (858993459 : Int32)) wd1246 (hJ6_bitCount_0f7a4.at 14 rfl rfl) ?_
  refine os_iand (hJ6_bitCount_0f7a4.at 15 rfl rfl) ?_
  refine os_iadd (hJ6_bitCount_0f7a4.at 16 rfl rfl) ?_
  refine os_nameI (fun x2 => ?_)
  refine os_istore_n (i := 0) (q := 0) rfl (lv' := [(0, .int x2)]) (Nat.le_of_ble_eq_true rfl) rfl (hJ6_bitCount_0f7a4.at 17 rfl rfl) ?_
  refine os_iload_n (i := 0) (q := 0) (v := x2) 0 rfl rfl (hJ6_bitCount_0f7a4.at 18 rfl rfl) ?_
  refine os_iload_n (i := 0) (q := 0) (v := x2) 0 rfl rfl (hJ6_bitCount_0f7a4.at 19 rfl rfl) ?_
  refine os_iconst (i := 4) (v := (4 : Int32)) rfl (hJ6_bitCount_0f7a4.at 20 rfl rfl) ?_
  refine os_iushr (hJ6_bitCount_0f7a4.at 21 rfl rfl) ?_
  refine os_iadd (hJ6_bitCount_0f7a4.at 22 rfl rfl) ?_
  refine os_ldcw (v := (252645135 : Int32)) wd1247 (hJ6_bitCount_0f7a4.at 23 rfl rfl) ?_
  refine os_iand (hJ6_bitCount_0f7a4.at 24 rfl rfl) ?_
  refine os_nameI (fun x3 => ?_)
  refine os_istore_n (i := 0) (q := 0) rfl (lv' := [(0, .int x3)]) (Nat.le_of_ble_eq_true rfl) rfl (hJ6_bitCount_0f7a4.at 25 rfl rfl) ?_
  refine os_iload_n (i := 0) (q := 0) (v := x3) 0 rfl rfl (hJ6_bitCount_0f7a4.at 26 rfl rfl) ?_
  refine os_iload_n (i := 0) (q := 0) (v := x3) 0 rfl rfl (hJ6_bitCount_0f7a4.at 27 rfl rfl) ?_
  refine os_bipush (i := 8) (v := (8 : Int32)) rfl (hJ6_bitCount_0f7a4.at 28 rfl rfl) ?_
  refine os_iushr (hJ6_bitCount_0f7a4.at 29 rfl rfl) ?_
  refine os_iadd (hJ6_bitCount_0f7a4.at 30 rfl rfl) ?_
  refine os_nameI (fun x4 => ?_)
  refine os_istore_n (i := 0) (q := 0) rfl (lv' := [(0, .int x4)]) (Nat.le_of_ble_eq_true rfl) rfl (hJ6_bitCount_0f7a4.at 31 rfl rfl) ?_
  refine os_iload_n (i := 0) (q := 0) (v := x4) 0 rfl rfl (hJ6_bitCount_0f7a4.at 32 rfl rfl) ?_
  refine os_iload_n (i := 0) (q := 0) (v := x4) 0 rfl rfl (hJ6_bitCount_0f7a4.at 33 rfl rfl) ?_
  refine os_bipush (i := 16) (v := (16 : Int32)) rfl (hJ6_bitCount_0f7a4.at 34 rfl rfl) ?_
  refine os_iushr (hJ6_bitCount_0f7a4.at 35 rfl rfl) ?_
  refine os_iadd (hJ6_bitCount_0f7a4.at 36 rfl rfl) ?_
  refine os_nameI (fun x5 => ?_)
  refine os_istore_n (i := 0) (q := 0) rfl (lv' := [(0, .int x5)]) (Nat.le_of_ble_eq_true rfl) rfl (hJ6_bitCount_0f7a4.at 37 rfl rfl) ?_
  refine os_iload_n (i := 0) (q := 0) (v := x5) 0 rfl rfl (hJ6_bitCount_0f7a4.at 38 rfl rfl) ?_
  refine os_bipush (i := 63) (v := (63 : Int32)) rfl (hJ6_bitCount_0f7a4.at 39 rfl rfl) ?_
  refine os_iand (hJ6_bitCount_0f7a4.at 40 rfl rfl) ?_
  exact os_iret (Nat.le_of_ble_eq_true rfl) (Nat.le_of_ble_eq_true rfl) (hJ6_bitCount_0f7a4.at 41 rfl rfl).1
-- J0_coder_7d493
def KJ0_coder_7d493 : List (Nat × Nat × Instr) := [(0, 3, .getstatic 38), (3, 3, .ifCond .eq 10), (6, 1, .aload_n 0), (7, 3, .getfield 15), (10, 3, .goto 4), (13, 1, .iconst 1), (14, 1, .ireturn)]
theorem hJ0_coder_7d493 : osDs cJ0_coder_7d493 KJ0_coder_7d493 := by
  show ∀ q ∈ KJ0_coder_7d493, decode cJ0_coder_7d493 q.1 = .ok (q.2.2, q.2.1)
  decide +kernel
def qJ0_coder_7d493_14 (N : Nat) (k0 : Int32) : osM Int32 := osretB k0
def qJ0_coder_7d493 (N : Nat) (l0 : Nat) : osM Int32 := osite ((1 : Int32) = 0) (qJ0_coder_7d493_14 N (1 : Int32)) (osbind (osscod l0) fun x1 => qJ0_coder_7d493_14 N x1)
set_option maxRecDepth 100000 in
set_option maxHeartbeats 4000000 in
theorem sJ0_coder_7d493_14 (N : Nat) (k0 : Int32) : osW (osFinM (fun r : Int32 => some (.int r)) 0 0) yJ0_coder_7d493 cJ0_coder_7d493 1 (some .byte) [] { frames := 0, cells := 0, slots := 0, locals := 0 } (0) (0) 14 [] [.int k0] (qJ0_coder_7d493_14 N k0) := by
  unfold qJ0_coder_7d493_14
  exact os_bret (by omega) (by omega) (hJ0_coder_7d493.at 6 rfl rfl).1
set_option maxRecDepth 100000 in
set_option maxHeartbeats 4000000 in
theorem sJ0_coder_7d493 (N : Nat) (l0 : Nat) : osMet yJ0_coder_7d493 cJ0_coder_7d493 1 (some .byte) 0 0 0 0 (fun r : Int32 => some (.int r)) [.ref l0] (qJ0_coder_7d493 N l0) := by
  refine osMet.of plJ0 (Nat.le_of_ble_eq_true rfl) (osW.rw (lv2 := [(0, .ref l0)]) ?_ rfl rfl rfl)
  unfold qJ0_coder_7d493
  refine os_compact wd503 (hJ0_coder_7d493.at 0 rfl rfl) ?_
  refine os_if_eq (off := 10) (tgt := 13) rfl (hJ0_coder_7d493.at 1 rfl rfl) ?_ ?_
  · refine os_iconst (i := 1) (v := (1 : Int32)) rfl (hJ0_coder_7d493.at 5 rfl rfl) ?_
    exact osW.widen (k' := 0) (n' := 0) (by omega) (by omega) (osW.sub [] rfl (sJ0_coder_7d493_14 N (1 : Int32)))
  · refine os_aload_n (i := 0) (q := 0) (v := l0) 0 rfl rfl (hJ0_coder_7d493.at 2 rfl rfl) ?_
    refine os_scod wd1033 fJ0_15 (hJ0_coder_7d493.at 3 rfl rfl) (fun x1 => ?_)
    refine os_goto (off := 4) (tgt := 14) rfl (hJ0_coder_7d493.at 4 rfl rfl) ?_
    exact osW.widen (k' := 0) (n' := 0) (by omega) (by omega) (osW.sub [] rfl (sJ0_coder_7d493_14 N x1))
-- J0_isLatin1_aae02
def KJ0_isLatin1_aae02 : List (Nat × Nat × Instr) := [(0, 3, .getstatic 38), (3, 3, .ifCond .eq 14), (6, 1, .aload_n 0), (7, 3, .getfield 15), (10, 3, .ifCond .ne 7), (13, 1, .iconst 1), (14, 3, .goto 4), (17, 1, .iconst 0), (18, 1, .ireturn)]
theorem hJ0_isLatin1_aae02 : osDs cJ0_isLatin1_aae02 KJ0_isLatin1_aae02 := by
  show ∀ q ∈ KJ0_isLatin1_aae02, decode cJ0_isLatin1_aae02 q.1 = .ok (q.2.2, q.2.1)
  decide +kernel
def qJ0_isLatin1_aae02_18 (N : Nat) (k0 : Int32) : osM Int32 := osretZ k0
def qJ0_isLatin1_aae02_17 (N : Nat) : osM Int32 := qJ0_isLatin1_aae02_18 N (0 : Int32)
def qJ0_isLatin1_aae02 (N : Nat) (l0 : Nat) : osM Int32 := osite ((1 : Int32) = 0) (qJ0_isLatin1_aae02_17 N ) (osbind (osscod l0) fun x1 => osite (x1 = 0) (qJ0_isLatin1_aae02_18 N (1 : Int32)) (qJ0_isLatin1_aae02_17 N ))
set_option maxRecDepth 100000 in
set_option maxHeartbeats 4000000 in
theorem sJ0_isLatin1_aae02_18 (N : Nat) (k0 : Int32) : osW (osFinM (fun r : Int32 => some (.int r)) 0 0) yJ0_isLatin1_aae02 cJ0_isLatin1_aae02 1 (some .boolean) [] { frames := 0, cells := 0, slots := 0, locals := 0 } (0) (0) 18 [] [.int k0] (qJ0_isLatin1_aae02_18 N k0) := by
  unfold qJ0_isLatin1_aae02_18
  exact os_zret (by omega) (by omega) (hJ0_isLatin1_aae02.at 8 rfl rfl).1
set_option maxRecDepth 100000 in
set_option maxHeartbeats 4000000 in
theorem sJ0_isLatin1_aae02_17 (N : Nat) : osW (osFinM (fun r : Int32 => some (.int r)) 0 0) yJ0_isLatin1_aae02 cJ0_isLatin1_aae02 1 (some .boolean) [] { frames := 0, cells := 0, slots := 0, locals := 0 } (0) (0) 17 [] [] (qJ0_isLatin1_aae02_17 N) := by
  unfold qJ0_isLatin1_aae02_17
  refine os_iconst (i := 0) (v := (0 : Int32)) rfl (hJ0_isLatin1_aae02.at 7 rfl rfl) ?_
  exact osW.widen (k' := 0) (n' := 0) (by omega) (by omega) (osW.sub [] rfl (sJ0_isLatin1_aae02_18 N (0 : Int32)))
set_option maxRecDepth 100000 in
set_option maxHeartbeats 4000000 in
theorem sJ0_isLatin1_aae02 (N : Nat) (l0 : Nat) : osMet yJ0_isLatin1_aae02 cJ0_isLatin1_aae02 1 (some .boolean) 0 0 0 0 (fun r : Int32 => some (.int r)) [.ref l0] (qJ0_isLatin1_aae02 N l0) := by
  refine osMet.of plJ0 (Nat.le_of_ble_eq_true rfl) (osW.rw (lv2 := [(0, .ref l0)]) ?_ rfl rfl rfl)
  unfold qJ0_isLatin1_aae02
  refine os_compact wd503 (hJ0_isLatin1_aae02.at 0 rfl rfl) ?_
  refine os_if_eq (off := 14) (tgt := 17) rfl (hJ0_isLatin1_aae02.at 1 rfl rfl) ?_ ?_
  · exact osW.widen (k' := 0) (n' := 0) (by omega) (by omega) (osW.sub [] rfl (sJ0_isLatin1_aae02_17 N ))
  · refine os_aload_n (i := 0) (q := 0) (v := l0) 0 rfl rfl (hJ0_isLatin1_aae02.at 2 rfl rfl) ?_
    refine os_scod wd1033 fJ0_15 (hJ0_isLatin1_aae02.at 3 rfl rfl) (fun x1 => ?_)
    refine os_if_ne (off := 7) (tgt := 17) rfl (hJ0_isLatin1_aae02.at 4 rfl rfl) ?_ ?_
    · exact osW.widen (k' := 0) (n' := 0) (by omega) (by omega) (osW.sub [] rfl (sJ0_isLatin1_aae02_17 N ))
    · refine os_iconst (i := 1) (v := (1 : Int32)) rfl (hJ0_isLatin1_aae02.at 5 rfl rfl) ?_
      refine os_goto (off := 4) (tgt := 18) rfl (hJ0_isLatin1_aae02.at 6 rfl rfl) ?_
      exact osW.widen (k' := 0) (n' := 0) (by omega) (by omega) (osW.sub [] rfl (sJ0_isLatin1_aae02_18 N (1 : Int32)))
-- J4_init_da8c8
def KJ4_init_da8c8 : List (Nat × Nat × Instr) := [(0, 1, .aload_n 0), (1, 2, .bipush 16), (3, 3, .invokespecial 1), (6, 1, .return_)]
theorem hJ4_init_da8c8 : osDs cJ4_init_da8c8 KJ4_init_da8c8 := by
  show ∀ q ∈ KJ4_init_da8c8, decode cJ4_init_da8c8 q.1 = .ok (q.2.2, q.2.1)
  decide +kernel
def qJ4_init_da8c8 (N : Nat) (l0 : Nat) : osM Unit := osbind (qJ5_init_d00df N l0 (16 : Int32)) fun _ => osret ()
set_option maxRecDepth 100000 in
set_option maxHeartbeats 4000000 in
theorem sJ4_init_da8c8 (N : Nat) (l0 : Nat) : osMet yJ4_init_da8c8 cJ4_init_da8c8 1 none 2 41 1 64 (fun _ : Unit => none) [.ref l0] (qJ4_init_da8c8 N l0) := by
  refine osMet.of plJ4 (Nat.le_of_ble_eq_true rfl) (osW.rw (lv2 := [(0, .ref l0)]) ?_ rfl rfl rfl)
  unfold qJ4_init_da8c8
  refine os_aload_n (i := 0) (q := 0) (v := l0) 0 rfl rfl (hJ4_init_da8c8.at 0 rfl rfl) ?_
  refine os_bipush (i := 16) (v := (16 : Int32)) rfl (hJ4_init_da8c8.at 1 rfl rfl) ?_
  refine os_callI (b := l0) (As := [.int (16 : Int32)]) (st := []) (st' := (fun _ => [])) mdJ5_init_d00df rfl wd839 wd840 (sJ5_init_d00df N l0 (16 : Int32)) rfl rfl (fun _ => rfl) (Nat.le_of_ble_eq_true rfl) (Nat.le_of_ble_eq_true rfl) (Nat.le_of_ble_eq_true rfl) rfl (by show _ ≤ 1; omega) rfl (by show _ ≤ 64; omega) (hJ4_init_da8c8.at 2 rfl rfl) (fun _ => ?_)
  exact os_vret (by omega) (by omega) (hJ4_init_da8c8.at 3 rfl rfl).1
-- J4_length_8abf5
def KJ4_length_8abf5 : List (Nat × Nat × Instr) := [(0, 1, .aload_n 0), (1, 3, .invokespecial 343), (4, 1, .ireturn)]
theorem hJ4_length_8abf5 : osDs cJ4_length_8abf5 KJ4_length_8abf5 := by
  show ∀ q ∈ KJ4_length_8abf5, decode cJ4_length_8abf5 q.1 = .ok (q.2.2, q.2.1)
  decide +kernel
def qJ4_length_8abf5 (N : Nat) (l0 : Nat) : osM Int32 := osbind (osrecv [9] l0 (qJ5_length_8abf5 N l0)) fun x1 => osret x1
set_option maxRecDepth 100000 in
set_option maxHeartbeats 4000000 in
theorem sJ4_length_8abf5 (N : Nat) (l0 : Nat) : osMet yJ4_length_8abf5 cJ4_length_8abf5 1 (some .int) 1 20 0 0 (fun r : Int32 => some (.int r)) [.ref l0] (qJ4_length_8abf5 N l0) := by
  refine osMet.of plJ4 (Nat.le_of_ble_eq_true rfl) (osW.rw (lv2 := [(0, .ref l0)]) ?_ rfl rfl rfl)
  unfold qJ4_length_8abf5
  refine os_aload_n (i := 0) (q := 0) (v := l0) 0 rfl rfl (hJ4_length_8abf5.at 0 rfl rfl) ?_
  refine os_callSU (cis := [9]) (b := l0) (As := []) (st := []) (st' := (fun r => .int r :: [])) mdJ5_length_8abf5 wd1010 wd1006 wd863 wd1005 (by decide) (sJ5_length_8abf5 N l0 ) rfl rfl (fun _ => rfl) (Nat.le_of_ble_eq_true rfl) (Nat.le_of_ble_eq_true rfl) (Nat.le_of_ble_eq_true rfl) rfl (by show _ ≤ 0; omega) rfl (by show _ ≤ 0; omega) (hJ4_length_8abf5.at 1 rfl rfl) (fun x1 => ?_)
  exact os_iret (by omega) (by omega) (hJ4_length_8abf5.at 2 rfl rfl).1
-- J1_charAt_3b067
def KJ1_charAt_3b067 : List (Nat × Nat × Instr) := [(0, 1, .iload_n 1), (1, 1, .aload_n 0), (2, 1, .arraylength), (3, 3, .invokestatic 9), (6, 1, .aload_n 0), (7, 1, .iload_n 1), (8, 1, .baload), (9, 3, .sipush 255), (12, 1, .iand), (13, 1, .i2c), (14, 1, .ireturn)]
theorem hJ1_charAt_3b067 : osDs cJ1_charAt_3b067 KJ1_charAt_3b067 := by
  show ∀ q ∈ KJ1_charAt_3b067, decode cJ1_charAt_3b067 q.1 = .ok (q.2.2, q.2.1)
  decide +kernel
def qJ1_charAt_3b067 (N : Nat) (l0 : Nat) (l1 : Int32) : osM Int32 := osbind (osblen l0) fun x1 => osbind (qJ0_checkIndex_df160 N l1 x1) fun _ => osbind (osbld l0 l1) fun x2 => osretC (((x2 &&& (255 : Int32)).toUInt32 % 65536).toInt32)
set_option maxRecDepth 100000 in
set_option maxHeartbeats 4000000 in
theorem sJ1_charAt_3b067 (N : Nat) (l0 : Nat) (l1 : Int32) : osMet yJ1_charAt_3b067 cJ1_charAt_3b067 2 (some .char) 2 43 0 0 (fun r : Int32 => some (.int r)) [.ref l0, .int l1] (qJ1_charAt_3b067 N l0 l1) := by
  refine osMet.of plJ1 (Nat.le_of_ble_eq_true rfl) (osW.rw (lv2 := [(0, .ref l0), (1, .int l1)]) ?_ rfl rfl rfl)
  unfold qJ1_charAt_3b067
  refine os_iload_n (i := 1) (q := 1) (v := l1) 1 rfl rfl (hJ1_charAt_3b067.at 0 rfl rfl) ?_
  refine os_aload_n (i := 0) (q := 0) (v := l0) 0 rfl rfl (hJ1_charAt_3b067.at 1 rfl rfl) ?_
  refine os_blen (hJ1_charAt_3b067.at 2 rfl rfl) (fun x1 => ?_)
  refine os_callS (As := [.int l1, .int x1]) (st := []) (st' := (fun _ => [])) mdJ0_checkIndex_df160 wd516 wd517 (sJ0_checkIndex_df160 N l1 x1) rfl rfl (fun _ => rfl) (Nat.le_of_ble_eq_true rfl) (Nat.le_of_ble_eq_true rfl) (Nat.le_of_ble_eq_true rfl) rfl (by show _ ≤ 0; omega) rfl (by show _ ≤ 0; omega) (hJ1_charAt_3b067.at 3 rfl rfl) (fun _ => ?_)
  refine os_aload_n (i := 0) (q := 0) (v := l0) 0 rfl rfl (hJ1_charAt_3b067.at 4 rfl rfl) ?_
  refine os_iload_n (i := 1) (q := 1) (v := l1) 1 rfl rfl (hJ1_charAt_3b067.at 5 rfl rfl) ?_
  refine os_bld (hJ1_charAt_3b067.at 6 rfl rfl) (fun x2 => ?_)
  refine os_sipush (i := 255) (v := (255 : Int32)) rfl (hJ1_charAt_3b067.at 7 rfl rfl) ?_
  refine os_iand (hJ1_charAt_3b067.at 8 rfl rfl) ?_
  refine os_i2c (hJ1_charAt_3b067.at 9 rfl rfl) ?_
  exact os_cret (by omega) (by omega) (hJ1_charAt_3b067.at 10 rfl rfl).1
-- J1_canEncode_fc78d
def KJ1_canEncode_fc78d : List (Nat × Nat × Instr) := [(0, 1, .iload_n 0), (1, 3, .sipush 255), (4, 3, .if_icmp .gt 7), (7, 1, .iconst 1), (8, 3, .goto 4), (11, 1, .iconst 0), (12, 1, .ireturn)]
theorem hJ1_canEncode_fc78d : osDs cJ1_canEncode_fc78d KJ1_canEncode_fc78d := by
  show ∀ q ∈ KJ1_canEncode_fc78d, decode cJ1_canEncode_fc78d q.1 = .ok (q.2.2, q.2.1)
  decide +kernel
def qJ1_canEncode_fc78d_12 (N : Nat) (k0 : Int32) : osM Int32 := osretZ k0
def qJ1_canEncode_fc78d (N : Nat) (l0 : Int32) : osM Int32 := osite ((255 : Int32) < l0) (qJ1_canEncode_fc78d_12 N (0 : Int32)) (qJ1_canEncode_fc78d_12 N (1 : Int32))
set_option maxRecDepth 100000 in
set_option maxHeartbeats 4000000 in
theorem sJ1_canEncode_fc78d_12 (N : Nat) (k0 : Int32) : osW (osFinM (fun r : Int32 => some (.int r)) 0 0) yJ1_canEncode_fc78d cJ1_canEncode_fc78d 1 (some .boolean) [] { frames := 0, cells := 0, slots := 0, locals := 0 } (0) (0) 12 [] [.int k0] (qJ1_canEncode_fc78d_12 N k0) := by
  unfold qJ1_canEncode_fc78d_12
  exact os_zret (by omega) (by omega) (hJ1_canEncode_fc78d.at 6 rfl rfl).1
set_option maxRecDepth 100000 in
set_option maxHeartbeats 4000000 in
theorem sJ1_canEncode_fc78d (N : Nat) (l0 : Int32) : osMet yJ1_canEncode_fc78d cJ1_canEncode_fc78d 1 (some .boolean) 0 0 0 0 (fun r : Int32 => some (.int r)) [.int l0] (qJ1_canEncode_fc78d N l0) := by
  refine osMet.of plJ1 (Nat.le_of_ble_eq_true rfl) (osW.rw (lv2 := [(0, .int l0)]) ?_ rfl rfl rfl)
  unfold qJ1_canEncode_fc78d
  refine os_iload_n (i := 0) (q := 0) (v := l0) 0 rfl rfl (hJ1_canEncode_fc78d.at 0 rfl rfl) ?_
  refine os_sipush (i := 255) (v := (255 : Int32)) rfl (hJ1_canEncode_fc78d.at 1 rfl rfl) ?_
  refine os_icmp_gt (off := 7) (tgt := 11) rfl (hJ1_canEncode_fc78d.at 2 rfl rfl) ?_ ?_
  · refine os_iconst (i := 0) (v := (0 : Int32)) rfl (hJ1_canEncode_fc78d.at 5 rfl rfl) ?_
    exact osW.widen (k' := 0) (n' := 0) (by omega) (by omega) (osW.sub [] rfl (sJ1_canEncode_fc78d_12 N (0 : Int32)))
  · refine os_iconst (i := 1) (v := (1 : Int32)) rfl (hJ1_canEncode_fc78d.at 3 rfl rfl) ?_
    refine os_goto (off := 4) (tgt := 12) rfl (hJ1_canEncode_fc78d.at 4 rfl rfl) ?_
    exact osW.widen (k' := 0) (n' := 0) (by omega) (by omega) (osW.sub [] rfl (sJ1_canEncode_fc78d_12 N (1 : Int32)))
-- J7_copyOf_9075b
def KJ7_copyOf_9075b : List (Nat × Nat × Instr) := [(0, 1, .iload_n 1), (1, 1, .aload_n 0), (2, 1, .arraylength), (3, 3, .if_icmp .ne 11), (6, 1, .aload_n 0), (7, 3, .invokevirtual 310), (10, 3, .checkcast 311), (13, 1, .areturn), (14, 1, .iload_n 1), (15, 2, .newarray .byte), (17, 1, .astore_n 2), (18, 1, .aload_n 0), (19, 1, .iconst 0), (20, 1, .aload_n 2), (21, 1, .iconst 0), (22, 1, .aload_n 0), (23, 1, .arraylength), (24, 1, .iload_n 1), (25, 3, .invokestatic 304), (28, 3, .invokestatic 150), (31, 1, .aload_n 2), (32, 1, .areturn)]
theorem hJ7_copyOf_9075b : osDs cJ7_copyOf_9075b KJ7_copyOf_9075b := by
  show ∀ q ∈ KJ7_copyOf_9075b, decode cJ7_copyOf_9075b q.1 = .ok (q.2.2, q.2.1)
  decide +kernel
def qJ7_copyOf_9075b (N : Nat) (l0 : Nat) (l1 : Int32) : osM Nat := osbind (oslen l0) fun x1 => osite (l1 = x1) (osno) (osbind (osnewB 64 l1) fun x2 => osbind (oslen l0) fun x3 => osbind (osbcopy l0 (0 : Int32) x2 (0 : Int32) (osmin x3 l1)) fun _ => osret x2)
set_option maxRecDepth 100000 in
set_option maxHeartbeats 4000000 in
theorem sJ7_copyOf_9075b (N : Nat) (l0 : Nat) (l1 : Int32) : osMet yJ7_copyOf_9075b cJ7_copyOf_9075b 3 (some (.array .byte)) 1 60 1 64 (fun r : Nat => some (.ref r)) [.ref l0, .int l1] (qJ7_copyOf_9075b N l0 l1) := by
  refine osMet.of plJ7 (Nat.le_of_ble_eq_true rfl) (osW.rw (lv2 := [(0, .ref l0), (1, .int l1)]) ?_ rfl rfl rfl)
  unfold qJ7_copyOf_9075b
  refine os_iload_n (i := 1) (q := 1) (v := l1) 1 rfl rfl (hJ7_copyOf_9075b.at 0 rfl rfl) ?_
  refine os_aload_n (i := 0) (q := 0) (v := l0) 0 rfl rfl (hJ7_copyOf_9075b.at 1 rfl rfl) ?_
  refine os_arraylength (hJ7_copyOf_9075b.at 2 rfl rfl) (fun x1 => ?_)
  refine os_icmp_ne (off := 11) (tgt := 14) rfl (hJ7_copyOf_9075b.at 3 rfl rfl) ?_ ?_
  · refine os_iload_n (i := 1) (q := 1) (v := l1) 1 rfl rfl (hJ7_copyOf_9075b.at 8 rfl rfl) ?_
    refine os_newB (B9 := 64) wd103 (by show _ ≤ 1; omega) (by show _ ≤ 64; omega) (hJ7_copyOf_9075b.at 9 rfl rfl) (fun x2 => ?_)
    refine os_astore_n (i := 2) (q := 2) rfl (lv' := [(2, .ref x2), (0, .ref l0), (1, .int l1)]) (Nat.le_of_ble_eq_true rfl) rfl (hJ7_copyOf_9075b.at 10 rfl rfl) ?_
    refine os_aload_n (i := 0) (q := 0) (v := l0) 1 rfl rfl (hJ7_copyOf_9075b.at 11 rfl rfl) ?_
    refine os_iconst (i := 0) (v := (0 : Int32)) rfl (hJ7_copyOf_9075b.at 12 rfl rfl) ?_
    refine os_aload_n (i := 2) (q := 2) (v := x2) 0 rfl rfl (hJ7_copyOf_9075b.at 13 rfl rfl) ?_
    refine os_iconst (i := 0) (v := (0 : Int32)) rfl (hJ7_copyOf_9075b.at 14 rfl rfl) ?_
    refine os_aload_n (i := 0) (q := 0) (v := l0) 1 rfl rfl (hJ7_copyOf_9075b.at 15 rfl rfl) ?_
    refine os_arraylength (hJ7_copyOf_9075b.at 16 rfl rfl) (fun x3 => ?_)
    refine os_iload_n (i := 1) (q := 1) (v := l1) 2 rfl rfl (hJ7_copyOf_9075b.at 17 rfl rfl) ?_
    refine os_min wd907 wd655 wd68 wmin (Nat.le_of_ble_eq_true rfl) (Nat.le_of_ble_eq_true rfl) (Nat.le_of_ble_eq_true rfl) (by show _ ≤ 1; omega) (by show _ ≤ 64; omega) (hJ7_copyOf_9075b.at 18 rfl rfl) ?_
    refine os_bcopy wd908 wd910 wd909 wd70 (Nat.le_of_ble_eq_true rfl) (Nat.le_of_ble_eq_true rfl) (Nat.le_of_ble_eq_true rfl) (hJ7_copyOf_9075b.at 19 rfl rfl) ?_
    refine os_aload_n (i := 2) (q := 2) (v := x2) 0 rfl rfl (hJ7_copyOf_9075b.at 20 rfl rfl) ?_
    exact os_aret (Or.inr ⟨_, rfl⟩) (by omega) (by omega) (hJ7_copyOf_9075b.at 21 rfl rfl).1
  · refine os_aload_n (i := 0) (q := 0) (v := l0) 0 rfl rfl (hJ7_copyOf_9075b.at 4 rfl rfl) ?_
    exact os_no rfl
-- J7_checkLength_df160
def KJ7_checkLength_df160 : List (Nat × Nat × Instr) := [(0, 1, .iload_n 1), (1, 1, .iload_n 0), (2, 3, .if_icmp .ge 35), (5, 3, .new 43), (8, 1, .dup), (9, 3, .new 45), (12, 1, .dup), (13, 3, .invokespecial 47), (16, 1, .iload_n 0), (17, 3, .invokevirtual 54), (20, 3, .ldc_w 337), (23, 3, .invokevirtual 50), (26, 1, .iload_n 1), (27, 3, .invokevirtual 54), (30, 3, .invokevirtual 61), (33, 3, .invokespecial 65), (36, 1, .athrow), (37, 1, .return_)]
theorem hJ7_checkLength_df160 : osDs cJ7_checkLength_df160 KJ7_checkLength_df160 := by
  show ∀ q ∈ KJ7_checkLength_df160, decode cJ7_checkLength_df160 q.1 = .ok (q.2.2, q.2.1)
  decide +kernel
def qJ7_checkLength_df160 (N : Nat) (l0 : Int32) (l1 : Int32) : osM Unit := osite (l0 ≤ l1) (osret ()) (osno)
set_option maxRecDepth 100000 in
set_option maxHeartbeats 4000000 in
theorem sJ7_checkLength_df160 (N : Nat) (l0 : Int32) (l1 : Int32) : osMet yJ7_checkLength_df160 cJ7_checkLength_df160 2 none 0 0 0 0 (fun _ : Unit => none) [.int l0, .int l1] (qJ7_checkLength_df160 N l0 l1) := by
  refine osMet.of plJ7 (Nat.le_of_ble_eq_true rfl) (osW.rw (lv2 := [(0, .int l0), (1, .int l1)]) ?_ rfl rfl rfl)
  unfold qJ7_checkLength_df160
  refine os_iload_n (i := 1) (q := 1) (v := l1) 1 rfl rfl (hJ7_checkLength_df160.at 0 rfl rfl) ?_
  refine os_iload_n (i := 0) (q := 0) (v := l0) 0 rfl rfl (hJ7_checkLength_df160.at 1 rfl rfl) ?_
  refine os_icmp_ge (off := 35) (tgt := 37) rfl (hJ7_checkLength_df160.at 2 rfl rfl) ?_ ?_
  · exact os_vret (by omega) (by omega) (hJ7_checkLength_df160.at 17 rfl rfl).1
  · exact os_no rfl
-- J7_copyOfRangeByte_39247
def KJ7_copyOfRangeByte_39247 : List (Nat × Nat × Instr) := [(0, 1, .iload_n 1), (1, 1, .iload_n 2), (2, 3, .invokestatic 343), (5, 1, .iload_n 2), (6, 1, .iload_n 1), (7, 1, .isub), (8, 1, .istore_n 3), (9, 1, .iload_n 3), (10, 2, .newarray .byte), (12, 2, .astore 4), (14, 1, .aload_n 0), (15, 1, .iload_n 1), (16, 2, .aload 4), (18, 1, .iconst 0), (19, 1, .aload_n 0), (20, 1, .arraylength), (21, 1, .iload_n 1), (22, 1, .isub), (23, 1, .iload_n 3), (24, 3, .invokestatic 304), (27, 3, .invokestatic 150), (30, 2, .aload 4), (32, 1, .areturn)]
theorem hJ7_copyOfRangeByte_39247 : osDs cJ7_copyOfRangeByte_39247 KJ7_copyOfRangeByte_39247 := by
  show ∀ q ∈ KJ7_copyOfRangeByte_39247, decode cJ7_copyOfRangeByte_39247 q.1 = .ok (q.2.2, q.2.1)
  decide +kernel
def qJ7_copyOfRangeByte_39247 (N : Nat) (l0 : Nat) (l1 : Int32) (l2 : Int32) : osM Nat := osbind (qJ7_checkLength_df160 N l1 l2) fun _ => osbind (osnewB 64 (l2 - l1)) fun x1 => osbind (oslen l0) fun x2 => osbind (osbcopy l0 l1 x1 (0 : Int32) (osmin (x2 - l1) (l2 - l1))) fun _ => osret x1
set_option maxRecDepth 100000 in
set_option maxHeartbeats 4000000 in
theorem sJ7_copyOfRangeByte_39247 (N : Nat) (l0 : Nat) (l1 : Int32) (l2 : Int32) : osMet yJ7_copyOfRangeByte_39247 cJ7_copyOfRangeByte_39247 5 (some (.array .byte)) 1 60 1 64 (fun r : Nat => some (.ref r)) [.ref l0, .int l1, .int l2] (qJ7_copyOfRangeByte_39247 N l0 l1 l2) := by
  refine osMet.of plJ7 (Nat.le_of_ble_eq_true rfl) (osW.rw (lv2 := [(0, .ref l0), (1, .int l1), (2, .int l2)]) ?_ rfl rfl rfl)
  unfold qJ7_copyOfRangeByte_39247
  refine os_iload_n (i := 1) (q := 1) (v := l1) 1 rfl rfl (hJ7_copyOfRangeByte_39247.at 0 rfl rfl) ?_
  refine os_iload_n (i := 2) (q := 2) (v := l2) 2 rfl rfl (hJ7_copyOfRangeByte_39247.at 1 rfl rfl) ?_
  refine os_callS (As := [.int l1, .int l2]) (st := []) (st' := (fun _ => [])) mdJ7_checkLength_df160 wd1019 wd1020 (sJ7_checkLength_df160 N l1 l2) rfl rfl (fun _ => rfl) (Nat.le_of_ble_eq_true rfl) (Nat.le_of_ble_eq_true rfl) (Nat.le_of_ble_eq_true rfl) rfl (by show _ ≤ 1; omega) rfl (by show _ ≤ 64; omega) (hJ7_copyOfRangeByte_39247.at 2 rfl rfl) (fun _ => ?_)
  refine os_iload_n (i := 2) (q := 2) (v := l2) 2 rfl rfl (hJ7_copyOfRangeByte_39247.at 3 rfl rfl) ?_
  refine os_iload_n (i := 1) (q := 1) (v := l1) 1 rfl rfl (hJ7_copyOfRangeByte_39247.at 4 rfl rfl) ?_
  refine os_isub (hJ7_copyOfRangeByte_39247.at 5 rfl rfl) ?_
  refine os_istore_n (i := 3) (q := 3) rfl (lv' := [(3, .int (l2 - l1)), (0, .ref l0), (1, .int l1), (2, .int l2)]) (Nat.le_of_ble_eq_true rfl) rfl (hJ7_copyOfRangeByte_39247.at 6 rfl rfl) ?_
  refine os_iload_n (i := 3) (q := 3) (v := (l2 - l1)) 0 rfl rfl (hJ7_copyOfRangeByte_39247.at 7 rfl rfl) ?_
  refine os_newB (B9 := 64) wd103 (by show _ ≤ 1; omega) (by show _ ≤ 64; omega) (hJ7_copyOfRangeByte_39247.at 8 rfl rfl) (fun x1 => ?_)
  refine os_astore (i := 4) (lv' := [(4, .ref x1), (3, .int (l2 - l1)), (0, .ref l0), (1, .int l1), (2, .int l2)]) (Nat.le_of_ble_eq_true rfl) rfl (hJ7_copyOfRangeByte_39247.at 9 rfl rfl) ?_
  refine os_aload_n (i := 0) (q := 0) (v := l0) 2 rfl rfl (hJ7_copyOfRangeByte_39247.at 10 rfl rfl) ?_
  refine os_iload_n (i := 1) (q := 1) (v := l1) 3 rfl rfl (hJ7_copyOfRangeByte_39247.at 11 rfl rfl) ?_
  refine os_aload (v := x1) 0 rfl (hJ7_copyOfRangeByte_39247.at 12 rfl rfl) ?_
  refine os_iconst (i := 0) (v := (0 : Int32)) rfl (hJ7_copyOfRangeByte_39247.at 13 rfl rfl) ?_
  refine os_aload_n (i := 0) (q := 0) (v := l0) 2 rfl rfl (hJ7_copyOfRangeByte_39247.at 14 rfl rfl) ?_
  refine os_arraylength (hJ7_copyOfRangeByte_39247.at 15 rfl rfl) (fun x2 => ?_)
  refine os_iload_n (i := 1) (q := 1) (v := l1) 3 rfl rfl (hJ7_copyOfRangeByte_39247.at 16 rfl rfl) ?_
  refine os_isub (hJ7_copyOfRangeByte_39247.at 17 rfl rfl) ?_
  refine os_iload_n (i := 3) (q := 3) (v := (l2 - l1)) 1 rfl rfl (hJ7_copyOfRangeByte_39247.at 18 rfl rfl) ?_
  refine os_min wd907 wd655 wd68 wmin (Nat.le_of_ble_eq_true rfl) (Nat.le_of_ble_eq_true rfl) (Nat.le_of_ble_eq_true rfl) (by show _ ≤ 1; omega) (by show _ ≤ 64; omega) (hJ7_copyOfRangeByte_39247.at 19 rfl rfl) ?_
  refine os_bcopy wd908 wd910 wd909 wd70 (Nat.le_of_ble_eq_true rfl) (Nat.le_of_ble_eq_true rfl) (Nat.le_of_ble_eq_true rfl) (hJ7_copyOfRangeByte_39247.at 20 rfl rfl) ?_
  refine os_aload (v := x1) 0 rfl (hJ7_copyOfRangeByte_39247.at 21 rfl rfl) ?_
  exact os_aret (Or.inr ⟨_, rfl⟩) (by omega) (by omega) (hJ7_copyOfRangeByte_39247.at 22 rfl rfl).1
-- J8_newLength_cabcc
def KJ8_newLength_cabcc : List (Nat × Nat × Instr) := [(0, 1, .iload_n 0), (1, 1, .iload_n 1), (2, 1, .iload_n 2), (3, 3, .invokestatic 194), (6, 1, .iadd), (7, 1, .istore_n 3), (8, 1, .iconst 0), (9, 1, .iload_n 3), (10, 3, .if_icmp .ge 11), (13, 1, .iload_n 3), (14, 2, .ldc 200), (16, 3, .if_icmp .gt 5), (19, 1, .iload_n 3), (20, 1, .ireturn), (21, 1, .iload_n 0), (22, 1, .iload_n 1), (23, 3, .invokestatic 201), (26, 1, .ireturn)]
theorem hJ8_newLength_cabcc : osDs cJ8_newLength_cabcc KJ8_newLength_cabcc := by
  show ∀ q ∈ KJ8_newLength_cabcc, decode cJ8_newLength_cabcc q.1 = .ok (q.2.2, q.2.1)
  decide +kernel
def qJ8_newLength_cabcc_21 (N : Nat) (l0 : Int32) (l1 : Int32) : osM Int32 := osno
def qJ8_newLength_cabcc (N : Nat) (l0 : Int32) (l1 : Int32) (l2 : Int32) : osM Int32 := osite ((l0 + (osmax l1 l2)) ≤ (0 : Int32)) (qJ8_newLength_cabcc_21 N l0 l1) (osite ((2147483639 : Int32) < (l0 + (osmax l1 l2))) (qJ8_newLength_cabcc_21 N l0 l1) (osret (l0 + (osmax l1 l2))))
set_option maxRecDepth 100000 in
set_option maxHeartbeats 4000000 in
theorem sJ8_newLength_cabcc_21 (N : Nat) (l0 : Int32) (l1 : Int32) : osW (osFinM (fun r : Int32 => some (.int r)) 0 0) yJ8_newLength_cabcc cJ8_newLength_cabcc 4 (some .int) [] { frames := 1, cells := 0, slots := 0, locals := 21 } (0) (0) 21 [(0, .int l0), (1, .int l1)] [] (qJ8_newLength_cabcc_21 N l0 l1) := by
  unfold qJ8_newLength_cabcc_21
  refine os_iload_n (i := 0) (q := 0) (v := l0) 0 rfl rfl (hJ8_newLength_cabcc.at 14 rfl rfl) ?_
  refine os_iload_n (i := 1) (q := 1) (v := l1) 1 rfl rfl (hJ8_newLength_cabcc.at 15 rfl rfl) ?_
  exact os_no rfl
set_option maxRecDepth 100000 in
set_option maxHeartbeats 4000000 in
theorem sJ8_newLength_cabcc (N : Nat) (l0 : Int32) (l1 : Int32) (l2 : Int32) : osMet yJ8_newLength_cabcc cJ8_newLength_cabcc 4 (some .int) 1 21 0 0 (fun r : Int32 => some (.int r)) [.int l0, .int l1, .int l2] (qJ8_newLength_cabcc N l0 l1 l2) := by
  refine osMet.of plJ8 (Nat.le_of_ble_eq_true rfl) (osW.rw (lv2 := [(0, .int l0), (1, .int l1), (2, .int l2)]) ?_ rfl rfl rfl)
  unfold qJ8_newLength_cabcc
  refine os_iload_n (i := 0) (q := 0) (v := l0) 0 rfl rfl (hJ8_newLength_cabcc.at 0 rfl rfl) ?_
  refine os_iload_n (i := 1) (q := 1) (v := l1) 1 rfl rfl (hJ8_newLength_cabcc.at 1 rfl rfl) ?_
  refine os_iload_n (i := 2) (q := 2) (v := l2) 2 rfl rfl (hJ8_newLength_cabcc.at 2 rfl rfl) ?_
  refine os_max wd889 wd890 wd68 wmax (Nat.le_of_ble_eq_true rfl) (Nat.le_of_ble_eq_true rfl) (Nat.le_of_ble_eq_true rfl) (by show _ ≤ 0; omega) (by show _ ≤ 0; omega) (hJ8_newLength_cabcc.at 3 rfl rfl) ?_
  refine os_iadd (hJ8_newLength_cabcc.at 4 rfl rfl) ?_
  refine os_istore_n (i := 3) (q := 3) rfl (lv' := [(3, .int (l0 + (osmax l1 l2))), (0, .int l0), (1, .int l1), (2, .int l2)]) (Nat.le_of_ble_eq_true rfl) rfl (hJ8_newLength_cabcc.at 5 rfl rfl) ?_
  refine os_iconst (i := 0) (v := (0 : Int32)) rfl (hJ8_newLength_cabcc.at 6 rfl rfl) ?_
  refine os_iload_n (i := 3) (q := 3) (v := (l0 + (osmax l1 l2))) 0 rfl rfl (hJ8_newLength_cabcc.at 7 rfl rfl) ?_
  refine os_icmp_ge (off := 11) (tgt := 21) rfl (hJ8_newLength_cabcc.at 8 rfl rfl) ?_ ?_
  · exact osW.widen (k' := 0) (n' := 0) (by omega) (by omega) (osW.sub [1, 2] rfl (sJ8_newLength_cabcc_21 N l0 l1))
  · refine os_iload_n (i := 3) (q := 3) (v := (l0 + (osmax l1 l2))) 0 rfl rfl (hJ8_newLength_cabcc.at 9 rfl rfl) ?_
    refine os_ldc (v := (2147483639 : Int32)) wd892 (hJ8_newLength_cabcc.at 10 rfl rfl) ?_
    refine os_icmp_gt (off := 5) (tgt := 21) rfl (hJ8_newLength_cabcc.at 11 rfl rfl) ?_ ?_
    · exact osW.widen (k' := 0) (n' := 0) (by omega) (by omega) (osW.sub [1, 2] rfl (sJ8_newLength_cabcc_21 N l0 l1))
    · refine os_iload_n (i := 3) (q := 3) (v := (l0 + (osmax l1 l2))) 0 rfl rfl (hJ8_newLength_cabcc.at 12 rfl rfl) ?_
      exact os_iret (by omega) (by omega) (hJ8_newLength_cabcc.at 13 rfl rfl).1
-- J5_newCapacity_0f7a4
def KJ5_newCapacity_0f7a4 : List (Nat × Nat × Instr) := [(0, 1, .aload_n 0), (1, 3, .getfield 15), (4, 1, .arraylength), (5, 1, .istore_n 2), (6, 1, .iload_n 1), (7, 1, .aload_n 0), (8, 3, .getfield 22), (11, 1, .ishl), (12, 1, .istore_n 3), (13, 1, .iload_n 3), (14, 1, .iload_n 2), (15, 1, .isub), (16, 2, .istore 4), (18, 1, .iload_n 2), (19, 2, .iload 4), (21, 1, .iload_n 2), (22, 1, .iconst 2), (23, 1, .aload_n 0), (24, 3, .getfield 22), (27, 1, .ishl), (28, 1, .iadd), (29, 3, .invokestatic 114), (32, 2, .istore 5), (34, 2, .iload 5), (36, 2, .ldc 39), (38, 3, .if_icmp .ne 13), (41, 3, .new 120), (44, 1, .dup), (45, 2, .ldc 122), (47, 3, .invokespecial 124), (50, 1, .athrow), (51, 2, .iload 5), (53, 1, .aload_n 0), (54, 3, .getfield 22), (57, 1, .ishr), (58, 1, .ireturn)]
theorem hJ5_newCapacity_0f7a4 : osDs cJ5_newCapacity_0f7a4 KJ5_newCapacity_0f7a4 := by
  show ∀ q ∈ KJ5_newCapacity_0f7a4, decode cJ5_newCapacity_0f7a4 q.1 = .ok (q.2.2, q.2.1)
  decide +kernel
def qJ5_newCapacity_0f7a4 (N : Nat) (l0 : Nat) (l1 : Int32) : osM Int32 := osbind (osgR [9] 0 l0) fun x1 => osbind (oslen x1) fun x2 => osbind (osgI [9] 1 l0) fun x3 => osbind (osgI [9] 1 l0) fun x4 => osbind (qJ8_newLength_cabcc N x2 ((osshl l1 x3) - x2) (x2 + (osshl (2 : Int32) x4))) fun x5 => osite (x5 = (2147483647 : Int32)) (osno) (osbind (osgI [9] 1 l0) fun x6 => osret (osshr x5 x6))
set_option maxRecDepth 100000 in
set_option maxHeartbeats 4000000 in
theorem sJ5_newCapacity_0f7a4 (N : Nat) (l0 : Nat) (l1 : Int32) : osMet yJ5_newCapacity_0f7a4 cJ5_newCapacity_0f7a4 6 (some .int) 2 44 0 0 (fun r : Int32 => some (.int r)) [.ref l0, .int l1] (qJ5_newCapacity_0f7a4 N l0 l1) := by
  refine osMet.of plJ5 (Nat.le_of_ble_eq_true rfl) (osW.rw (lv2 := [(0, .ref l0), (1, .int l1)]) ?_ rfl rfl rfl)
  unfold qJ5_newCapacity_0f7a4
  refine os_aload_n (i := 0) (q := 0) (v := l0) 0 rfl rfl (hJ5_newCapacity_0f7a4.at 0 rfl rfl) ?_
  refine os_getR fJ5_15 (hJ5_newCapacity_0f7a4.at 1 rfl rfl) (fun x1 => ?_)
  refine os_arraylength (hJ5_newCapacity_0f7a4.at 2 rfl rfl) (fun x2 => ?_)
  refine os_istore_n (i := 2) (q := 2) rfl (lv' := [(2, .int x2), (0, .ref l0), (1, .int l1)]) (Nat.le_of_ble_eq_true rfl) rfl (hJ5_newCapacity_0f7a4.at 3 rfl rfl) ?_
  refine os_iload_n (i := 1) (q := 1) (v := l1) 2 rfl rfl (hJ5_newCapacity_0f7a4.at 4 rfl rfl) ?_
  refine os_aload_n (i := 0) (q := 0) (v := l0) 1 rfl rfl (hJ5_newCapacity_0f7a4.at 5 rfl rfl) ?_
  refine os_getI fJ5_22 (hJ5_newCapacity_0f7a4.at 6 rfl rfl) (fun x3 => ?_)
  refine os_ishl (hJ5_newCapacity_0f7a4.at 7 rfl rfl) ?_
  refine os_istore_n (i := 3) (q := 3) rfl (lv' := [(3, .int (osshl l1 x3)), (2, .int x2), (0, .ref l0), (1, .int l1)]) (Nat.le_of_ble_eq_true rfl) rfl (hJ5_newCapacity_0f7a4.at 8 rfl rfl) ?_
  refine os_iload_n (i := 3) (q := 3) (v := (osshl l1 x3)) 0 rfl rfl (hJ5_newCapacity_0f7a4.at 9 rfl rfl) ?_
  refine os_iload_n (i := 2) (q := 2) (v := x2) 1 rfl rfl (hJ5_newCapacity_0f7a4.at 10 rfl rfl) ?_
  refine os_isub (hJ5_newCapacity_0f7a4.at 11 rfl rfl) ?_
  refine os_istore (i := 4) (lv' := [(4, .int ((osshl l1 x3) - x2)), (3, .int (osshl l1 x3)), (2, .int x2), (0, .ref l0), (1, .int l1)]) (Nat.le_of_ble_eq_true rfl) rfl (hJ5_newCapacity_0f7a4.at 12 rfl rfl) ?_
  refine os_iload_n (i := 2) (q := 2) (v := x2) 2 rfl rfl (hJ5_newCapacity_0f7a4.at 13 rfl rfl) ?_
  refine os_iload (v := ((osshl l1 x3) - x2)) 0 rfl (hJ5_newCapacity_0f7a4.at 14 rfl rfl) ?_
  refine os_iload_n (i := 2) (q := 2) (v := x2) 2 rfl rfl (hJ5_newCapacity_0f7a4.at 15 rfl rfl) ?_
  refine os_iconst (i := 2) (v := (2 : Int32)) rfl (hJ5_newCapacity_0f7a4.at 16 rfl rfl) ?_
  refine os_aload_n (i := 0) (q := 0) (v := l0) 3 rfl rfl (hJ5_newCapacity_0f7a4.at 17 rfl rfl) ?_
  refine os_getI fJ5_22 (hJ5_newCapacity_0f7a4.at 18 rfl rfl) (fun x4 => ?_)
  refine os_ishl (hJ5_newCapacity_0f7a4.at 19 rfl rfl) ?_
  refine os_iadd (hJ5_newCapacity_0f7a4.at 20 rfl rfl) ?_
  refine os_callS (As := [.int x2, .int ((osshl l1 x3) - x2), .int (x2 + (osshl (2 : Int32) x4))]) (st := []) (st' := (fun r => .int r :: [])) mdJ8_newLength_cabcc wd886 wd887 (sJ8_newLength_cabcc N x2 ((osshl l1 x3) - x2) (x2 + (osshl (2 : Int32) x4))) rfl rfl (fun _ => rfl) (Nat.le_of_ble_eq_true rfl) (Nat.le_of_ble_eq_true rfl) (Nat.le_of_ble_eq_true rfl) rfl (by show _ ≤ 0; omega) rfl (by show _ ≤ 0; omega) (hJ5_newCapacity_0f7a4.at 21 rfl rfl) (fun x5 => ?_)
  refine os_istore (i := 5) (lv' := [(5, .int x5), (4, .int ((osshl l1 x3) - x2)), (3, .int (osshl l1 x3)), (2, .int x2), (0, .ref l0), (1, .int l1)]) (Nat.le_of_ble_eq_true rfl) rfl (hJ5_newCapacity_0f7a4.at 22 rfl rfl) ?_
  refine os_iload (v := x5) 0 rfl (hJ5_newCapacity_0f7a4.at 23 rfl rfl) ?_
  refine os_ldc (v := (2147483647 : Int32)) wd896 (hJ5_newCapacity_0f7a4.at 24 rfl rfl) ?_
  refine os_icmp_ne (off := 13) (tgt := 51) rfl (hJ5_newCapacity_0f7a4.at 25 rfl rfl) ?_ ?_
  · refine os_iload (v := x5) 0 rfl (hJ5_newCapacity_0f7a4.at 31 rfl rfl) ?_
    refine os_aload_n (i := 0) (q := 0) (v := l0) 4 rfl rfl (hJ5_newCapacity_0f7a4.at 32 rfl rfl) ?_
    refine os_getI fJ5_22 (hJ5_newCapacity_0f7a4.at 33 rfl rfl) (fun x6 => ?_)
    refine os_ishr (hJ5_newCapacity_0f7a4.at 34 rfl rfl) ?_
    exact os_iret (by omega) (by omega) (hJ5_newCapacity_0f7a4.at 35 rfl rfl).1
  · exact os_no rfl
-- J5_inflateIfNeededFor_a7421
def KJ5_inflateIfNeededFor_a7421 : List (Nat × Nat × Instr) := [(0, 3, .getstatic 18), (3, 3, .ifCond .eq 18), (6, 1, .aload_n 0), (7, 3, .getfield 22), (10, 1, .aload_n 1), (11, 3, .invokevirtual 40), (14, 3, .if_icmp .eq 7), (17, 1, .aload_n 0), (18, 3, .invokevirtual 195), (21, 1, .return_)]
theorem hJ5_inflateIfNeededFor_a7421 : osDs cJ5_inflateIfNeededFor_a7421 KJ5_inflateIfNeededFor_a7421 := by
  show ∀ q ∈ KJ5_inflateIfNeededFor_a7421, decode cJ5_inflateIfNeededFor_a7421 q.1 = .ok (q.2.2, q.2.1)
  decide +kernel
def qJ5_inflateIfNeededFor_a7421_21 (N : Nat) : osM Unit := osret ()
def qJ5_inflateIfNeededFor_a7421 (N : Nat) (l0 : Nat) (l1 : Nat) : osM Unit := osite ((1 : Int32) = 0) (qJ5_inflateIfNeededFor_a7421_21 N ) (osbind (osgI [9] 1 l0) fun x1 => osbind (osonstr l1 (qJ0_coder_7d493 N l1)) fun x2 => osite (x1 = x2) (qJ5_inflateIfNeededFor_a7421_21 N ) (osno))
set_option maxRecDepth 100000 in
set_option maxHeartbeats 4000000 in
theorem sJ5_inflateIfNeededFor_a7421_21 (N : Nat) : osW (osFinM (fun _ : Unit => none) 0 0) yJ5_inflateIfNeededFor_a7421 cJ5_inflateIfNeededFor_a7421 2 none [] { frames := 1, cells := 0, slots := 0, locals := 20 } (0) (0) 21 [] [] (qJ5_inflateIfNeededFor_a7421_21 N) := by
  unfold qJ5_inflateIfNeededFor_a7421_21
  exact os_vret (by omega) (by omega) (hJ5_inflateIfNeededFor_a7421.at 9 rfl rfl).1
set_option maxRecDepth 100000 in
set_option maxHeartbeats 4000000 in
theorem sJ5_inflateIfNeededFor_a7421 (N : Nat) (l0 : Nat) (l1 : Nat) : osMet yJ5_inflateIfNeededFor_a7421 cJ5_inflateIfNeededFor_a7421 2 none 1 20 0 0 (fun _ : Unit => none) [.ref l0, .ref l1] (qJ5_inflateIfNeededFor_a7421 N l0 l1) := by
  refine osMet.of plJ5 (Nat.le_of_ble_eq_true rfl) (osW.rw (lv2 := [(0, .ref l0), (1, .ref l1)]) ?_ rfl rfl rfl)
  unfold qJ5_inflateIfNeededFor_a7421
  refine os_compact wd843 (hJ5_inflateIfNeededFor_a7421.at 0 rfl rfl) ?_
  refine os_if_eq (off := 18) (tgt := 21) rfl (hJ5_inflateIfNeededFor_a7421.at 1 rfl rfl) ?_ ?_
  · exact osW.widen (k' := 0) (n' := 0) (by omega) (by omega) (osW.sub [] rfl (sJ5_inflateIfNeededFor_a7421_21 N ))
  · refine os_aload_n (i := 0) (q := 0) (v := l0) 0 rfl rfl (hJ5_inflateIfNeededFor_a7421.at 2 rfl rfl) ?_
    refine os_getI fJ5_22 (hJ5_inflateIfNeededFor_a7421.at 3 rfl rfl) (fun x1 => ?_)
    refine os_aload_n (i := 1) (q := 1) (v := l1) 1 rfl rfl (hJ5_inflateIfNeededFor_a7421.at 4 rfl rfl) ?_
    refine os_callStr (b := l1) (As := []) (st := [.int x1]) (st' := (fun r => .int r :: [.int x1])) wd501 mdJ0_coder_7d493 wd940 wd500 (sJ0_coder_7d493 N l1 ) rfl rfl (fun _ => rfl) (Nat.le_of_ble_eq_true rfl) (Nat.le_of_ble_eq_true rfl) (Nat.le_of_ble_eq_true rfl) rfl (by show _ ≤ 0; omega) rfl (by show _ ≤ 0; omega) (hJ5_inflateIfNeededFor_a7421.at 5 rfl rfl) (fun x2 => ?_)
    refine os_icmp_eq (off := 7) (tgt := 21) rfl (hJ5_inflateIfNeededFor_a7421.at 6 rfl rfl) ?_ ?_
    · exact osW.widen (k' := 0) (n' := 0) (by omega) (by omega) (osW.sub [] rfl (sJ5_inflateIfNeededFor_a7421_21 N ))
    · refine os_aload_n (i := 0) (q := 0) (v := l0) 0 rfl rfl (hJ5_inflateIfNeededFor_a7421.at 7 rfl rfl) ?_
      exact os_no rfl
-- J0_length_8abf5
def KJ0_length_8abf5 : List (Nat × Nat × Instr) := [(0, 1, .aload_n 0), (1, 3, .getfield 9), (4, 1, .arraylength), (5, 1, .aload_n 0), (6, 3, .invokevirtual 335), (9, 1, .ishr), (10, 1, .ireturn)]
theorem hJ0_length_8abf5 : osDs cJ0_length_8abf5 KJ0_length_8abf5 := by
  show ∀ q ∈ KJ0_length_8abf5, decode cJ0_length_8abf5 q.1 = .ok (q.2.2, q.2.1)
  decide +kernel
def qJ0_length_8abf5 (N : Nat) (l0 : Nat) : osM Int32 := osbind (ossval l0) fun x1 => osbind (osblen x1) fun x2 => osbind (osonstr l0 (qJ0_coder_7d493 N l0)) fun x3 => osret (osshr x2 x3)
set_option maxRecDepth 100000 in
set_option maxHeartbeats 4000000 in
theorem sJ0_length_8abf5 (N : Nat) (l0 : Nat) : osMet yJ0_length_8abf5 cJ0_length_8abf5 1 (some .int) 1 20 0 0 (fun r : Int32 => some (.int r)) [.ref l0] (qJ0_length_8abf5 N l0) := by
  refine osMet.of plJ0 (Nat.le_of_ble_eq_true rfl) (osW.rw (lv2 := [(0, .ref l0)]) ?_ rfl rfl rfl)
  unfold qJ0_length_8abf5
  refine os_aload_n (i := 0) (q := 0) (v := l0) 0 rfl rfl (hJ0_length_8abf5.at 0 rfl rfl) ?_
  refine os_sval wd1032 fJ0_9 (hJ0_length_8abf5.at 1 rfl rfl) (fun x1 => ?_)
  refine os_blen (hJ0_length_8abf5.at 2 rfl rfl) (fun x2 => ?_)
  refine os_aload_n (i := 0) (q := 0) (v := l0) 0 rfl rfl (hJ0_length_8abf5.at 3 rfl rfl) ?_
  refine os_callStr (b := l0) (As := []) (st := [.int x2]) (st' := (fun r => .int r :: [.int x2])) wd501 mdJ0_coder_7d493 wd499 wd500 (sJ0_coder_7d493 N l0 ) rfl rfl (fun _ => rfl) (Nat.le_of_ble_eq_true rfl) (Nat.le_of_ble_eq_true rfl) (Nat.le_of_ble_eq_true rfl) rfl (by show _ ≤ 0; omega) rfl (by show _ ≤ 0; omega) (hJ0_length_8abf5.at 4 rfl rfl) (fun x3 => ?_)
  refine os_ishr (hJ0_length_8abf5.at 5 rfl rfl) ?_
  exact os_iret (by omega) (by omega) (hJ0_length_8abf5.at 6 rfl rfl).1
-- J0_charAt_5068e
def KJ0_charAt_5068e : List (Nat × Nat × Instr) := [(0, 1, .aload_n 0), (1, 3, .invokevirtual 492), (4, 3, .ifCond .eq 12), (7, 1, .aload_n 0), (8, 3, .getfield 9), (11, 1, .iload_n 1), (12, 3, .invokestatic 495), (15, 1, .ireturn), (16, 1, .aload_n 0), (17, 3, .getfield 9), (20, 1, .iload_n 1), (21, 3, .invokestatic 498), (24, 1, .ireturn)]
theorem hJ0_charAt_5068e : osDs cJ0_charAt_5068e KJ0_charAt_5068e := by
  show ∀ q ∈ KJ0_charAt_5068e, decode cJ0_charAt_5068e q.1 = .ok (q.2.2, q.2.1)
  decide +kernel
def qJ0_charAt_5068e (N : Nat) (l0 : Nat) (l1 : Int32) : osM Int32 := osbind (osonstr l0 (qJ0_isLatin1_aae02 N l0)) fun x1 => osite (x1 = 0) (osbind (ossval l0) fun x2 => osno) (osbind (ossval l0) fun x3 => osbind (qJ1_charAt_3b067 N x3 l1) fun x4 => osretC x4)
set_option maxRecDepth 100000 in
set_option maxHeartbeats 4000000 in
theorem sJ0_charAt_5068e (N : Nat) (l0 : Nat) (l1 : Int32) : osMet yJ0_charAt_5068e cJ0_charAt_5068e 2 (some .char) 3 64 0 0 (fun r : Int32 => some (.int r)) [.ref l0, .int l1] (qJ0_charAt_5068e N l0 l1) := by
  refine osMet.of plJ0 (Nat.le_of_ble_eq_true rfl) (osW.rw (lv2 := [(0, .ref l0), (1, .int l1)]) ?_ rfl rfl rfl)
  unfold qJ0_charAt_5068e
  refine os_aload_n (i := 0) (q := 0) (v := l0) 0 rfl rfl (hJ0_charAt_5068e.at 0 rfl rfl) ?_
  refine os_callStr (b := l0) (As := []) (st := []) (st' := (fun r => .int r :: [])) wd511 mdJ0_isLatin1_aae02 wd509 wd510 (sJ0_isLatin1_aae02 N l0 ) rfl rfl (fun _ => rfl) (Nat.le_of_ble_eq_true rfl) (Nat.le_of_ble_eq_true rfl) (Nat.le_of_ble_eq_true rfl) rfl (by show _ ≤ 0; omega) rfl (by show _ ≤ 0; omega) (hJ0_charAt_5068e.at 1 rfl rfl) (fun x1 => ?_)
  refine os_if_eq (off := 12) (tgt := 16) rfl (hJ0_charAt_5068e.at 2 rfl rfl) ?_ ?_
  · refine os_aload_n (i := 0) (q := 0) (v := l0) 0 rfl rfl (hJ0_charAt_5068e.at 8 rfl rfl) ?_
    refine os_sval wd1032 fJ0_9 (hJ0_charAt_5068e.at 9 rfl rfl) (fun x2 => ?_)
    refine os_iload_n (i := 1) (q := 1) (v := l1) 1 rfl rfl (hJ0_charAt_5068e.at 10 rfl rfl) ?_
    exact os_no rfl
  · refine os_aload_n (i := 0) (q := 0) (v := l0) 0 rfl rfl (hJ0_charAt_5068e.at 3 rfl rfl) ?_
    refine os_sval wd1032 fJ0_9 (hJ0_charAt_5068e.at 4 rfl rfl) (fun x3 => ?_)
    refine os_iload_n (i := 1) (q := 1) (v := l1) 1 rfl rfl (hJ0_charAt_5068e.at 5 rfl rfl) ?_
    refine os_callS (As := [.ref x3, .int l1]) (st := []) (st' := (fun r => .int r :: [])) mdJ1_charAt_3b067 wd513 wd514 (sJ1_charAt_3b067 N x3 l1) rfl rfl (fun _ => rfl) (Nat.le_of_ble_eq_true rfl) (Nat.le_of_ble_eq_true rfl) (Nat.le_of_ble_eq_true rfl) rfl (by show _ ≤ 0; omega) rfl (by show _ ≤ 0; omega) (hJ0_charAt_5068e.at 6 rfl rfl) (fun x4 => ?_)
    exact os_cret (by omega) (by omega) (hJ0_charAt_5068e.at 7 rfl rfl).1
-- J0_getBytes_840e7
def KJ0_getBytes_840e7 : List (Nat × Nat × Instr) := [(0, 1, .aload_n 0), (1, 3, .invokevirtual 335), (4, 1, .iload_n 3), (5, 3, .if_icmp .ne 23), (8, 1, .aload_n 0), (9, 3, .getfield 9), (12, 1, .iconst 0), (13, 1, .aload_n 1), (14, 1, .iload_n 2), (15, 1, .iload_n 3), (16, 1, .ishl), (17, 1, .aload_n 0), (18, 3, .getfield 9), (21, 1, .arraylength), (22, 3, .invokestatic 212), (25, 3, .goto 18), (28, 1, .aload_n 0), (29, 3, .getfield 9), (32, 1, .iconst 0), (33, 1, .aload_n 1), (34, 1, .iload_n 2), (35, 1, .aload_n 0), (36, 3, .getfield 9), (39, 1, .arraylength), (40, 3, .invokestatic 106), (43, 1, .return_)]
theorem hJ0_getBytes_840e7 : osDs cJ0_getBytes_840e7 KJ0_getBytes_840e7 := by
  show ∀ q ∈ KJ0_getBytes_840e7, decode cJ0_getBytes_840e7 q.1 = .ok (q.2.2, q.2.1)
  decide +kernel
def qJ0_getBytes_840e7 (N : Nat) (l0 : Nat) (l1 : Nat) (l2 : Int32) (l3 : Int32) : osM Unit := osbind (osonstr l0 (qJ0_coder_7d493 N l0)) fun x1 => osite (x1 = l3) (osbind (ossval l0) fun x5 => osbind (ossval l0) fun x6 => osbind (osblen x6) fun x7 => osbind (osbcopy x5 (0 : Int32) l1 (osshl l2 l3) x7) fun _ => osret ()) (osbind (ossval l0) fun x2 => osbind (ossval l0) fun x3 => osbind (osblen x3) fun x4 => osno)
set_option maxRecDepth 100000 in
set_option maxHeartbeats 4000000 in
theorem sJ0_getBytes_840e7 (N : Nat) (l0 : Nat) (l1 : Nat) (l2 : Int32) (l3 : Int32) : osMet yJ0_getBytes_840e7 cJ0_getBytes_840e7 4 none 1 60 0 0 (fun _ : Unit => none) [.ref l0, .ref l1, .int l2, .int l3] (qJ0_getBytes_840e7 N l0 l1 l2 l3) := by
  refine osMet.of plJ0 (Nat.le_of_ble_eq_true rfl) (osW.rw (lv2 := [(0, .ref l0), (1, .ref l1), (2, .int l2), (3, .int l3)]) ?_ rfl rfl rfl)
  unfold qJ0_getBytes_840e7
  refine os_aload_n (i := 0) (q := 0) (v := l0) 0 rfl rfl (hJ0_getBytes_840e7.at 0 rfl rfl) ?_
  refine os_callStr (b := l0) (As := []) (st := []) (st' := (fun r => .int r :: [])) wd501 mdJ0_coder_7d493 wd499 wd500 (sJ0_coder_7d493 N l0 ) rfl rfl (fun _ => rfl) (Nat.le_of_ble_eq_true rfl) (Nat.le_of_ble_eq_true rfl) (Nat.le_of_ble_eq_true rfl) rfl (by show _ ≤ 0; omega) rfl (by show _ ≤ 0; omega) (hJ0_getBytes_840e7.at 1 rfl rfl) (fun x1 => ?_)
  refine os_iload_n (i := 3) (q := 3) (v := l3) 3 rfl rfl (hJ0_getBytes_840e7.at 2 rfl rfl) ?_
  refine os_icmp_ne (off := 23) (tgt := 28) rfl (hJ0_getBytes_840e7.at 3 rfl rfl) ?_ ?_
  · refine os_aload_n (i := 0) (q := 0) (v := l0) 0 rfl rfl (hJ0_getBytes_840e7.at 16 rfl rfl) ?_
    refine os_sval wd1032 fJ0_9 (hJ0_getBytes_840e7.at 17 rfl rfl) (fun x2 => ?_)
    refine os_iconst (i := 0) (v := (0 : Int32)) rfl (hJ0_getBytes_840e7.at 18 rfl rfl) ?_
    refine os_aload_n (i := 1) (q := 1) (v := l1) 1 rfl rfl (hJ0_getBytes_840e7.at 19 rfl rfl) ?_
    refine os_iload_n (i := 2) (q := 2) (v := l2) 2 rfl rfl (hJ0_getBytes_840e7.at 20 rfl rfl) ?_
    refine os_aload_n (i := 0) (q := 0) (v := l0) 0 rfl rfl (hJ0_getBytes_840e7.at 21 rfl rfl) ?_
    refine os_sval wd1032 fJ0_9 (hJ0_getBytes_840e7.at 22 rfl rfl) (fun x3 => ?_)
    refine os_blen (hJ0_getBytes_840e7.at 23 rfl rfl) (fun x4 => ?_)
    exact os_no rfl
  · refine os_aload_n (i := 0) (q := 0) (v := l0) 0 rfl rfl (hJ0_getBytes_840e7.at 4 rfl rfl) ?_
    refine os_sval wd1032 fJ0_9 (hJ0_getBytes_840e7.at 5 rfl rfl) (fun x5 => ?_)
    refine os_iconst (i := 0) (v := (0 : Int32)) rfl (hJ0_getBytes_840e7.at 6 rfl rfl) ?_
    refine os_aload_n (i := 1) (q := 1) (v := l1) 1 rfl rfl (hJ0_getBytes_840e7.at 7 rfl rfl) ?_
    refine os_iload_n (i := 2) (q := 2) (v := l2) 2 rfl rfl (hJ0_getBytes_840e7.at 8 rfl rfl) ?_
    refine os_iload_n (i := 3) (q := 3) (v := l3) 3 rfl rfl (hJ0_getBytes_840e7.at 9 rfl rfl) ?_
    refine os_ishl (hJ0_getBytes_840e7.at 10 rfl rfl) ?_
    refine os_aload_n (i := 0) (q := 0) (v := l0) 0 rfl rfl (hJ0_getBytes_840e7.at 11 rfl rfl) ?_
    refine os_sval wd1032 fJ0_9 (hJ0_getBytes_840e7.at 12 rfl rfl) (fun x6 => ?_)
    refine os_blen (hJ0_getBytes_840e7.at 13 rfl rfl) (fun x7 => ?_)
    refine os_bcopy wd964 wd910 wd909 wd70 (Nat.le_of_ble_eq_true rfl) (Nat.le_of_ble_eq_true rfl) (Nat.le_of_ble_eq_true rfl) (hJ0_getBytes_840e7.at 14 rfl rfl) ?_
    refine os_goto (off := 18) (tgt := 43) rfl (hJ0_getBytes_840e7.at 15 rfl rfl) ?_
    exact os_vret (by omega) (by omega) (hJ0_getBytes_840e7.at 25 rfl rfl).1
-- J7_copyOfRange_39247
def KJ7_copyOfRange_39247 : List (Nat × Nat × Instr) := [(0, 1, .iload_n 1), (1, 3, .ifCond .ne 9), (4, 1, .iload_n 2), (5, 1, .aload_n 0), (6, 1, .arraylength), (7, 3, .if_icmp .eq 10), (10, 1, .aload_n 0), (11, 1, .iload_n 1), (12, 1, .iload_n 2), (13, 3, .invokestatic 339), (16, 1, .areturn), (17, 1, .aload_n 0), (18, 3, .invokevirtual 310), (21, 3, .checkcast 311), (24, 1, .areturn)]
theorem hJ7_copyOfRange_39247 : osDs cJ7_copyOfRange_39247 KJ7_copyOfRange_39247 := by
  show ∀ q ∈ KJ7_copyOfRange_39247, decode cJ7_copyOfRange_39247 q.1 = .ok (q.2.2, q.2.1)
  decide +kernel
def qJ7_copyOfRange_39247_10 (N : Nat) (l0 : Nat) (l1 : Int32) (l2 : Int32) : osM Nat := osbind (qJ7_copyOfRangeByte_39247 N l0 l1 l2) fun x1 => osret x1
def qJ7_copyOfRange_39247 (N : Nat) (l0 : Nat) (l1 : Int32) (l2 : Int32) : osM Nat := osite (l1 = 0) (osbind (oslen l0) fun x1 => osite (l2 = x1) (osbind (osbclone 64 l0) fun x2 => osbind (osbcast x2) fun _ => osret x2) (qJ7_copyOfRange_39247_10 N l0 l1 l2)) (qJ7_copyOfRange_39247_10 N l0 l1 l2)
set_option maxRecDepth 100000 in
set_option maxHeartbeats 4000000 in
theorem sJ7_copyOfRange_39247_10 (N : Nat) (l0 : Nat) (l1 : Int32) (l2 : Int32) : osW (osFinM (fun r : Nat => some (.ref r)) 1 64) yJ7_copyOfRange_39247 cJ7_copyOfRange_39247 3 (some (.array .byte)) [] { frames := 2, cells := 1, slots := 64, locals := 84 } (0) (0) 10 [(0, .ref l0), (1, .int l1), (2, .int l2)] [] (qJ7_copyOfRange_39247_10 N l0 l1 l2) := by
  unfold qJ7_copyOfRange_39247_10
  refine os_aload_n (i := 0) (q := 0) (v := l0) 0 rfl rfl (hJ7_copyOfRange_39247.at 6 rfl rfl) ?_
  refine os_iload_n (i := 1) (q := 1) (v := l1) 1 rfl rfl (hJ7_copyOfRange_39247.at 7 rfl rfl) ?_
  refine os_iload_n (i := 2) (q := 2) (v := l2) 2 rfl rfl (hJ7_copyOfRange_39247.at 8 rfl rfl) ?_
  refine os_callS (As := [.ref l0, .int l1, .int l2]) (st := []) (st' := (fun r => .ref r :: [])) mdJ7_copyOfRangeByte_39247 wd1016 wd1017 (sJ7_copyOfRangeByte_39247 N l0 l1 l2) rfl rfl (fun _ => rfl) (Nat.le_of_ble_eq_true rfl) (Nat.le_of_ble_eq_true rfl) (Nat.le_of_ble_eq_true rfl) rfl (by show _ ≤ 1; omega) rfl (by show _ ≤ 64; omega) (hJ7_copyOfRange_39247.at 9 rfl rfl) (fun x1 => ?_)
  exact os_aret (Or.inr ⟨_, rfl⟩) (by omega) (by omega) (hJ7_copyOfRange_39247.at 10 rfl rfl).1
set_option maxRecDepth 100000 in
set_option maxHeartbeats 4000000 in
theorem sJ7_copyOfRange_39247 (N : Nat) (l0 : Nat) (l1 : Int32) (l2 : Int32) : osMet yJ7_copyOfRange_39247 cJ7_copyOfRange_39247 3 (some (.array .byte)) 2 84 1 64 (fun r : Nat => some (.ref r)) [.ref l0, .int l1, .int l2] (qJ7_copyOfRange_39247 N l0 l1 l2) := by
  refine osMet.of plJ7 (Nat.le_of_ble_eq_true rfl) (osW.rw (lv2 := [(0, .ref l0), (1, .int l1), (2, .int l2)]) ?_ rfl rfl rfl)
  unfold qJ7_copyOfRange_39247
  refine os_iload_n (i := 1) (q := 1) (v := l1) 1 rfl rfl (hJ7_copyOfRange_39247.at 0 rfl rfl) ?_
  refine os_if_ne (off := 9) (tgt := 10) rfl (hJ7_copyOfRange_39247.at 1 rfl rfl) ?_ ?_
  · exact osW.widen (k' := 0) (n' := 0) (by omega) (by omega) (osW.sub [0, 1, 2] rfl (sJ7_copyOfRange_39247_10 N l0 l1 l2))
  · refine os_iload_n (i := 2) (q := 2) (v := l2) 2 rfl rfl (hJ7_copyOfRange_39247.at 2 rfl rfl) ?_
    refine os_aload_n (i := 0) (q := 0) (v := l0) 0 rfl rfl (hJ7_copyOfRange_39247.at 3 rfl rfl) ?_
    refine os_arraylength (hJ7_copyOfRange_39247.at 4 rfl rfl) (fun x1 => ?_)
    refine os_icmp_eq (off := 10) (tgt := 17) rfl (hJ7_copyOfRange_39247.at 5 rfl rfl) ?_ ?_
    · refine os_aload_n (i := 0) (q := 0) (v := l0) 0 rfl rfl (hJ7_copyOfRange_39247.at 11 rfl rfl) ?_
      refine os_bclone (B9 := 64) wd900 wd901 wd902 wd903 wd904 wd905 (Nat.le_of_ble_eq_true rfl) (Nat.le_of_ble_eq_true rfl) (Nat.le_of_ble_eq_true rfl) (by show _ ≤ 1; omega) (by show _ ≤ 64; omega) (hJ7_copyOfRange_39247.at 12 rfl rfl) (fun x2 => ?_)
      refine os_bcast wd906 (hJ7_copyOfRange_39247.at 13 rfl rfl) ?_
      exact os_aret (Or.inr ⟨_, rfl⟩) (by omega) (by omega) (hJ7_copyOfRange_39247.at 14 rfl rfl).1
    · exact osW.widen (k' := 0) (n' := 0) (by omega) (by omega) (osW.sub [0, 1, 2] rfl (sJ7_copyOfRange_39247_10 N l0 l1 l2))
-- J5_ensureCapacityInternal_d00df
def KJ5_ensureCapacityInternal_d00df : List (Nat × Nat × Instr) := [(0, 1, .aload_n 0), (1, 3, .getfield 15), (4, 1, .arraylength), (5, 1, .aload_n 0), (6, 3, .getfield 22), (9, 1, .ishr), (10, 1, .istore_n 2), (11, 1, .iload_n 1), (12, 1, .iload_n 2), (13, 1, .isub), (14, 3, .ifCond .le 24), (17, 1, .aload_n 0), (18, 1, .aload_n 0), (19, 3, .getfield 15), (22, 1, .aload_n 0), (23, 1, .iload_n 1), (24, 3, .invokevirtual 104), (27, 1, .aload_n 0), (28, 3, .getfield 22), (31, 1, .ishl), (32, 3, .invokestatic 108), (35, 3, .putfield 15), (38, 1, .return_)]
theorem hJ5_ensureCapacityInternal_d00df : osDs cJ5_ensureCapacityInternal_d00df KJ5_ensureCapacityInternal_d00df := by
  show ∀ q ∈ KJ5_ensureCapacityInternal_d00df, decode cJ5_ensureCapacityInternal_d00df q.1 = .ok (q.2.2, q.2.1)
  decide +kernel
def qJ5_ensureCapacityInternal_d00df_38 (N : Nat) : osM Unit := osret ()
def qJ5_ensureCapacityInternal_d00df (N : Nat) (l0 : Nat) (l1 : Int32) : osM Unit := osbind (osgR [9] 0 l0) fun x1 => osbind (oslen x1) fun x2 => osbind (osgI [9] 1 l0) fun x3 => osite ((l1 - (osshr x2 x3)) ≤ 0) (qJ5_ensureCapacityInternal_d00df_38 N ) (osbind (osgR [9] 0 l0) fun x4 => osbind (osrecv [9] l0 (qJ5_newCapacity_0f7a4 N l0 l1)) fun x5 => osbind (osgI [9] 1 l0) fun x6 => osbind (qJ7_copyOf_9075b N x4 (osshl x5 x6)) fun x7 => osbind (osput [9] 0 l0 (.ref x7)) fun _ => qJ5_ensureCapacityInternal_d00df_38 N )
set_option maxRecDepth 100000 in
set_option maxHeartbeats 4000000 in
theorem sJ5_ensureCapacityInternal_d00df_38 (N : Nat) : osW (osFinM (fun _ : Unit => none) 1 64) yJ5_ensureCapacityInternal_d00df cJ5_ensureCapacityInternal_d00df 3 none [] { frames := 3, cells := 1, slots := 64, locals := 82 } (1) (64) 38 [] [] (qJ5_ensureCapacityInternal_d00df_38 N) := by
  unfold qJ5_ensureCapacityInternal_d00df_38
  exact os_vret (by omega) (by omega) (hJ5_ensureCapacityInternal_d00df.at 22 rfl rfl).1
set_option maxRecDepth 100000 in
set_option maxHeartbeats 4000000 in
theorem sJ5_ensureCapacityInternal_d00df (N : Nat) (l0 : Nat) (l1 : Int32) : osMet yJ5_ensureCapacityInternal_d00df cJ5_ensureCapacityInternal_d00df 3 none 3 82 1 64 (fun _ : Unit => none) [.ref l0, .int l1] (qJ5_ensureCapacityInternal_d00df N l0 l1) := by
  refine osMet.of plJ5 (Nat.le_of_ble_eq_true rfl) (osW.rw (lv2 := [(0, .ref l0), (1, .int l1)]) ?_ rfl rfl rfl)
  unfold qJ5_ensureCapacityInternal_d00df
  refine os_aload_n (i := 0) (q := 0) (v := l0) 0 rfl rfl (hJ5_ensureCapacityInternal_d00df.at 0 rfl rfl) ?_
  refine os_getR fJ5_15 (hJ5_ensureCapacityInternal_d00df.at 1 rfl rfl) (fun x1 => ?_)
  refine os_arraylength (hJ5_ensureCapacityInternal_d00df.at 2 rfl rfl) (fun x2 => ?_)
  refine os_aload_n (i := 0) (q := 0) (v := l0) 0 rfl rfl (hJ5_ensureCapacityInternal_d00df.at 3 rfl rfl) ?_
  refine os_getI fJ5_22 (hJ5_ensureCapacityInternal_d00df.at 4 rfl rfl) (fun x3 => ?_)
  refine os_ishr (hJ5_ensureCapacityInternal_d00df.at 5 rfl rfl) ?_
  refine os_istore_n (i := 2) (q := 2) rfl (lv' := [(2, .int (osshr x2 x3)), (0, .ref l0), (1, .int l1)]) (Nat.le_of_ble_eq_true rfl) rfl (hJ5_ensureCapacityInternal_d00df.at 6 rfl rfl) ?_
  refine os_iload_n (i := 1) (q := 1) (v := l1) 2 rfl rfl (hJ5_ensureCapacityInternal_d00df.at 7 rfl rfl) ?_
  refine os_iload_n (i := 2) (q := 2) (v := (osshr x2 x3)) 0 rfl rfl (hJ5_ensureCapacityInternal_d00df.at 8 rfl rfl) ?_
  refine os_isub (hJ5_ensureCapacityInternal_d00df.at 9 rfl rfl) ?_
  refine os_if_le (off := 24) (tgt := 38) rfl (hJ5_ensureCapacityInternal_d00df.at 10 rfl rfl) ?_ ?_
  · exact osW.widen (k' := 1) (n' := 64) (by omega) (by omega) (osW.sub [] rfl (sJ5_ensureCapacityInternal_d00df_38 N ))
  · refine os_aload_n (i := 0) (q := 0) (v := l0) 1 rfl rfl (hJ5_ensureCapacityInternal_d00df.at 11 rfl rfl) ?_
    refine os_aload_n (i := 0) (q := 0) (v := l0) 1 rfl rfl (hJ5_ensureCapacityInternal_d00df.at 12 rfl rfl) ?_
    refine os_getR fJ5_15 (hJ5_ensureCapacityInternal_d00df.at 13 rfl rfl) (fun x4 => ?_)
    refine os_aload_n (i := 0) (q := 0) (v := l0) 1 rfl rfl (hJ5_ensureCapacityInternal_d00df.at 14 rfl rfl) ?_
    refine os_iload_n (i := 1) (q := 1) (v := l1) 2 rfl rfl (hJ5_ensureCapacityInternal_d00df.at 15 rfl rfl) ?_
    refine os_callV (cis := [9]) (b := l0) (As := [.int l1]) (st := [.ref x4, .ref l0]) (st' := (fun r => .int r :: [.ref x4, .ref l0])) sl9_J5_newCapacity_0f7a4_J5_newCapacity_0f7a4 mdJ5_newCapacity_0f7a4 wd882 wd884 (sJ5_newCapacity_0f7a4 N l0 l1) rfl rfl (fun _ => rfl) (Nat.le_of_ble_eq_true rfl) (Nat.le_of_ble_eq_true rfl) (Nat.le_of_ble_eq_true rfl) rfl (by show _ ≤ 1; omega) rfl (by show _ ≤ 64; omega) (hJ5_ensureCapacityInternal_d00df.at 16 rfl rfl) (fun x5 => ?_)
    refine os_aload_n (i := 0) (q := 0) (v := l0) 1 rfl rfl (hJ5_ensureCapacityInternal_d00df.at 17 rfl rfl) ?_
    refine os_getI fJ5_22 (hJ5_ensureCapacityInternal_d00df.at 18 rfl rfl) (fun x6 => ?_)
    refine os_ishl (hJ5_ensureCapacityInternal_d00df.at 19 rfl rfl) ?_
    refine os_callS (As := [.ref x4, .int (osshl x5 x6)]) (st := [.ref l0]) (st' := (fun r => .ref r :: [.ref l0])) mdJ7_copyOf_9075b wd897 wd898 (sJ7_copyOf_9075b N x4 (osshl x5 x6)) rfl rfl (fun _ => rfl) (Nat.le_of_ble_eq_true rfl) (Nat.le_of_ble_eq_true rfl) (Nat.le_of_ble_eq_true rfl) rfl (by show _ ≤ 1; omega) rfl (by show _ ≤ 64; omega) (hJ5_ensureCapacityInternal_d00df.at 20 rfl rfl) (fun x7 => ?_)
    refine os_put fJ5_15 rfl rfl (hJ5_ensureCapacityInternal_d00df.at 21 rfl rfl) ?_
    exact osW.widen (k' := 1) (n' := 64) (by omega) (by omega) (osW.sub [] rfl (sJ5_ensureCapacityInternal_d00df_38 N ))
-- J5_append_3fe6f
def KJ5_append_3fe6f : List (Nat × Nat × Instr) := [(0, 1, .aload_n 0), (1, 1, .aload_n 0), (2, 3, .getfield 79), (5, 1, .iconst 1), (6, 1, .iadd), (7, 3, .invokevirtual 100), (10, 1, .aload_n 0), (11, 3, .invokevirtual 83), (14, 3, .ifCond .eq 31), (17, 1, .iload_n 1), (18, 3, .invokestatic 191), (21, 3, .ifCond .eq 24), (24, 1, .aload_n 0), (25, 3, .getfield 15), (28, 1, .aload_n 0), (29, 1, .dup), (30, 3, .getfield 79), (33, 1, .dup_x1), (34, 1, .iconst 1), (35, 1, .iadd), (36, 3, .putfield 79), (39, 1, .iload_n 1), (40, 1, .i2b), (41, 1, .bastore), (42, 3, .goto 33), (45, 1, .aload_n 0), (46, 3, .invokevirtual 83), (49, 3, .ifCond .eq 7), (52, 1, .aload_n 0), (53, 3, .invokevirtual 195), (56, 1, .aload_n 0), (57, 3, .getfield 15), (60, 1, .aload_n 0), (61, 1, .dup), (62, 3, .getfield 79), (65, 1, .dup_x1), (66, 1, .iconst 1), (67, 1, .iadd), (68, 3, .putfield 79), (71, 1, .iload_n 1), (72, 3, .invokestatic 197), (75, 1, .aload_n 0), (76, 1, .areturn)]
theorem hJ5_append_3fe6f : osDs cJ5_append_3fe6f KJ5_append_3fe6f := by
  show ∀ q ∈ KJ5_append_3fe6f, decode cJ5_append_3fe6f q.1 = .ok (q.2.2, q.2.1)
  decide +kernel
def qJ5_append_3fe6f_45 (N : Nat) (l0 : Nat) (l1 : Int32) : osM Nat := osbind (osrecv [9] l0 (qJ5_isLatin1_aae02 N l0)) fun x1 => osite (x1 = 0) (osbind (osgR [9] 0 l0) fun x2 => osbind (osgI [9] 3 l0) fun x3 => osbind (osput [9] 3 l0 (.int (x3 + (1 : Int32)))) fun _ => osno) (osno)
def qJ5_append_3fe6f (N : Nat) (l0 : Nat) (l1 : Int32) : osM Nat := osbind (osgI [9] 3 l0) fun x1 => osbind (osrecv [9] l0 (qJ5_ensureCapacityInternal_d00df N l0 (x1 + (1 : Int32)))) fun _ => osbind (osrecv [9] l0 (qJ5_isLatin1_aae02 N l0)) fun x2 => osite (x2 = 0) (qJ5_append_3fe6f_45 N l0 l1) (osbind (qJ1_canEncode_fc78d N l1) fun x3 => osite (x3 = 0) (qJ5_append_3fe6f_45 N l0 l1) (osbind (osgR [9] 0 l0) fun x4 => osbind (osgI [9] 3 l0) fun x5 => osbind (osput [9] 3 l0 (.int (x5 + (1 : Int32)))) fun _ => osbind (ossI 1 x4 x5 (vp_nar .byte (l1.toInt8.toInt32))) fun _ => osret l0))
set_option maxRecDepth 100000 in
set_option maxHeartbeats 4000000 in
theorem sJ5_append_3fe6f_45 (N : Nat) (l0 : Nat) (l1 : Int32) : osW (osFinM (fun r : Nat => some (.ref r)) 1 64) yJ5_append_3fe6f cJ5_append_3fe6f 2 (some (.object "java/lang/AbstractStringBuilder")) [] { frames := 4, cells := 1, slots := 64, locals := 104 } (1) (64) 45 [(0, .ref l0), (1, .int l1)] [] (qJ5_append_3fe6f_45 N l0 l1) := by
  unfold qJ5_append_3fe6f_45
  refine os_aload_n (i := 0) (q := 0) (v := l0) 0 rfl rfl (hJ5_append_3fe6f.at 25 rfl rfl) ?_
  refine os_callV (cis := [9]) (b := l0) (As := []) (st := []) (st' := (fun r => .int r :: [])) sl9_J5_isLatin1_aae02_J5_isLatin1_aae02 mdJ5_isLatin1_aae02 wd911 wd912 (sJ5_isLatin1_aae02 N l0 ) rfl rfl (fun _ => rfl) (Nat.le_of_ble_eq_true rfl) (Nat.le_of_ble_eq_true rfl) (Nat.le_of_ble_eq_true rfl) rfl (by show _ ≤ 1; omega) rfl (by show _ ≤ 64; omega) (hJ5_append_3fe6f.at 26 rfl rfl) (fun x1 => ?_)
  refine os_if_eq (off := 7) (tgt := 56) rfl (hJ5_append_3fe6f.at 27 rfl rfl) ?_ ?_
  · refine os_aload_n (i := 0) (q := 0) (v := l0) 0 rfl rfl (hJ5_append_3fe6f.at 30 rfl rfl) ?_
    refine os_getR fJ5_15 (hJ5_append_3fe6f.at 31 rfl rfl) (fun x2 => ?_)
    refine os_aload_n (i := 0) (q := 0) (v := l0) 0 rfl rfl (hJ5_append_3fe6f.at 32 rfl rfl) ?_
    refine os_dup rfl (hJ5_append_3fe6f.at 33 rfl rfl) ?_
    refine os_getI fJ5_79 (hJ5_append_3fe6f.at 34 rfl rfl) (fun x3 => ?_)
    refine os_dup_x1 rfl rfl (hJ5_append_3fe6f.at 35 rfl rfl) ?_
    refine os_iconst (i := 1) (v := (1 : Int32)) rfl (hJ5_append_3fe6f.at 36 rfl rfl) ?_
    refine os_iadd (hJ5_append_3fe6f.at 37 rfl rfl) ?_
    refine os_put fJ5_79 rfl rfl (hJ5_append_3fe6f.at 38 rfl rfl) ?_
    refine os_iload_n (i := 1) (q := 1) (v := l1) 1 rfl rfl (hJ5_append_3fe6f.at 39 rfl rfl) ?_
    exact os_no rfl
  · refine os_aload_n (i := 0) (q := 0) (v := l0) 0 rfl rfl (hJ5_append_3fe6f.at 28 rfl rfl) ?_
    exact os_no rfl
set_option maxRecDepth 100000 in
set_option maxHeartbeats 4000000 in
theorem sJ5_append_3fe6f (N : Nat) (l0 : Nat) (l1 : Int32) : osMet yJ5_append_3fe6f cJ5_append_3fe6f 2 (some (.object "java/lang/AbstractStringBuilder")) 4 104 1 64 (fun r : Nat => some (.ref r)) [.ref l0, .int l1] (qJ5_append_3fe6f N l0 l1) := by
  refine osMet.of plJ5 (Nat.le_of_ble_eq_true rfl) (osW.rw (lv2 := [(0, .ref l0), (1, .int l1)]) ?_ rfl rfl rfl)
  unfold qJ5_append_3fe6f
  refine os_aload_n (i := 0) (q := 0) (v := l0) 0 rfl rfl (hJ5_append_3fe6f.at 0 rfl rfl) ?_
  refine os_aload_n (i := 0) (q := 0) (v := l0) 0 rfl rfl (hJ5_append_3fe6f.at 1 rfl rfl) ?_
  refine os_getI fJ5_79 (hJ5_append_3fe6f.at 2 rfl rfl) (fun x1 => ?_)
  refine os_iconst (i := 1) (v := (1 : Int32)) rfl (hJ5_append_3fe6f.at 3 rfl rfl) ?_
  refine os_iadd (hJ5_append_3fe6f.at 4 rfl rfl) ?_
  refine os_callV (cis := [9]) (b := l0) (As := [.int (x1 + (1 : Int32))]) (st := []) (st' := (fun _ => [])) sl9_J5_ensureCapacityInternal_d00df_J5_ensureCapacityInternal_d00df mdJ5_ensureCapacityInternal_d00df wd878 wd880 (sJ5_ensureCapacityInternal_d00df N l0 (x1 + (1 : Int32))) rfl rfl (fun _ => rfl) (Nat.le_of_ble_eq_true rfl) (Nat.le_of_ble_eq_true rfl) (Nat.le_of_ble_eq_true rfl) rfl (by show _ ≤ 1; omega) rfl (by show _ ≤ 64; omega) (hJ5_append_3fe6f.at 5 rfl rfl) (fun _ => ?_)
  refine os_aload_n (i := 0) (q := 0) (v := l0) 0 rfl rfl (hJ5_append_3fe6f.at 6 rfl rfl) ?_
  refine os_callV (cis := [9]) (b := l0) (As := []) (st := []) (st' := (fun r => .int r :: [])) sl9_J5_isLatin1_aae02_J5_isLatin1_aae02 mdJ5_isLatin1_aae02 wd911 wd912 (sJ5_isLatin1_aae02 N l0 ) rfl rfl (fun _ => rfl) (Nat.le_of_ble_eq_true rfl) (Nat.le_of_ble_eq_true rfl) (Nat.le_of_ble_eq_true rfl) rfl (by show _ ≤ 1; omega) rfl (by show _ ≤ 64; omega) (hJ5_append_3fe6f.at 7 rfl rfl) (fun x2 => ?_)
  refine os_if_eq (off := 31) (tgt := 45) rfl (hJ5_append_3fe6f.at 8 rfl rfl) ?_ ?_
  · exact osW.widen (k' := 1) (n' := 64) (by omega) (by omega) (osW.sub [0, 1] rfl (sJ5_append_3fe6f_45 N l0 l1))
  · refine os_iload_n (i := 1) (q := 1) (v := l1) 1 rfl rfl (hJ5_append_3fe6f.at 9 rfl rfl) ?_
    refine os_callS (As := [.int l1]) (st := []) (st' := (fun r => .int r :: [])) mdJ1_canEncode_fc78d wd973 wd974 (sJ1_canEncode_fc78d N l1) rfl rfl (fun _ => rfl) (Nat.le_of_ble_eq_true rfl) (Nat.le_of_ble_eq_true rfl) (Nat.le_of_ble_eq_true rfl) rfl (by show _ ≤ 1; omega) rfl (by show _ ≤ 64; omega) (hJ5_append_3fe6f.at 10 rfl rfl) (fun x3 => ?_)
    refine os_if_eq (off := 24) (tgt := 45) rfl (hJ5_append_3fe6f.at 11 rfl rfl) ?_ ?_
    · exact osW.widen (k' := 1) (n' := 64) (by omega) (by omega) (osW.sub [0, 1] rfl (sJ5_append_3fe6f_45 N l0 l1))
    · refine os_aload_n (i := 0) (q := 0) (v := l0) 0 rfl rfl (hJ5_append_3fe6f.at 12 rfl rfl) ?_
      refine os_getR fJ5_15 (hJ5_append_3fe6f.at 13 rfl rfl) (fun x4 => ?_)
      refine os_aload_n (i := 0) (q := 0) (v := l0) 0 rfl rfl (hJ5_append_3fe6f.at 14 rfl rfl) ?_
      refine os_dup rfl (hJ5_append_3fe6f.at 15 rfl rfl) ?_
      refine os_getI fJ5_79 (hJ5_append_3fe6f.at 16 rfl rfl) (fun x5 => ?_)
      refine os_dup_x1 rfl rfl (hJ5_append_3fe6f.at 17 rfl rfl) ?_
      refine os_iconst (i := 1) (v := (1 : Int32)) rfl (hJ5_append_3fe6f.at 18 rfl rfl) ?_
      refine os_iadd (hJ5_append_3fe6f.at 19 rfl rfl) ?_
      refine os_put fJ5_79 rfl rfl (hJ5_append_3fe6f.at 20 rfl rfl) ?_
      refine os_iload_n (i := 1) (q := 1) (v := l1) 1 rfl rfl (hJ5_append_3fe6f.at 21 rfl rfl) ?_
      refine os_i2b (hJ5_append_3fe6f.at 22 rfl rfl) ?_
      refine os_bastore (hJ5_append_3fe6f.at 23 rfl rfl) ?_
      refine os_goto (off := 33) (tgt := 75) rfl (hJ5_append_3fe6f.at 24 rfl rfl) ?_
      refine os_aload_n (i := 0) (q := 0) (v := l0) 0 rfl rfl (hJ5_append_3fe6f.at 41 rfl rfl) ?_
      exact os_aret (Or.inl ⟨_, rfl⟩) (by omega) (by omega) (hJ5_append_3fe6f.at 42 rfl rfl).1
-- J5_putStringAt_47b60
def KJ5_putStringAt_47b60 : List (Nat × Nat × Instr) := [(0, 1, .aload_n 0), (1, 1, .aload_n 2), (2, 3, .invokevirtual 397), (5, 1, .aload_n 2), (6, 1, .aload_n 0), (7, 3, .getfield 15), (10, 1, .iload_n 1), (11, 1, .aload_n 0), (12, 3, .getfield 22), (15, 3, .invokevirtual 399), (18, 1, .return_)]
theorem hJ5_putStringAt_47b60 : osDs cJ5_putStringAt_47b60 KJ5_putStringAt_47b60 := by
  show ∀ q ∈ KJ5_putStringAt_47b60, decode cJ5_putStringAt_47b60 q.1 = .ok (q.2.2, q.2.1)
  decide +kernel
def qJ5_putStringAt_47b60 (N : Nat) (l0 : Nat) (l1 : Int32) (l2 : Nat) : osM Unit := osbind (osrecv [9] l0 (qJ5_inflateIfNeededFor_a7421 N l0 l2)) fun _ => osbind (osgR [9] 0 l0) fun x1 => osbind (osgI [9] 1 l0) fun x2 => osbind (osonstr l2 (qJ0_getBytes_840e7 N l2 x1 l1 x2)) fun _ => osret ()
set_option maxRecDepth 100000 in
set_option maxHeartbeats 4000000 in
theorem sJ5_putStringAt_47b60 (N : Nat) (l0 : Nat) (l1 : Int32) (l2 : Nat) : osMet yJ5_putStringAt_47b60 cJ5_putStringAt_47b60 3 none 2 83 0 0 (fun _ : Unit => none) [.ref l0, .int l1, .ref l2] (qJ5_putStringAt_47b60 N l0 l1 l2) := by
  refine osMet.of plJ5 (Nat.le_of_ble_eq_true rfl) (osW.rw (lv2 := [(0, .ref l0), (1, .int l1), (2, .ref l2)]) ?_ rfl rfl rfl)
  unfold qJ5_putStringAt_47b60
  refine os_aload_n (i := 0) (q := 0) (v := l0) 0 rfl rfl (hJ5_putStringAt_47b60.at 0 rfl rfl) ?_
  refine os_aload_n (i := 2) (q := 2) (v := l2) 2 rfl rfl (hJ5_putStringAt_47b60.at 1 rfl rfl) ?_
  refine os_callV (cis := [9]) (b := l0) (As := [.ref l2]) (st := []) (st' := (fun _ => [])) sl9_J5_inflateIfNeededFor_a7421_J5_inflateIfNeededFor_a7421 mdJ5_inflateIfNeededFor_a7421 wd936 wd938 (sJ5_inflateIfNeededFor_a7421 N l0 l2) rfl rfl (fun _ => rfl) (Nat.le_of_ble_eq_true rfl) (Nat.le_of_ble_eq_true rfl) (Nat.le_of_ble_eq_true rfl) rfl (by show _ ≤ 0; omega) rfl (by show _ ≤ 0; omega) (hJ5_putStringAt_47b60.at 2 rfl rfl) (fun _ => ?_)
  refine os_aload_n (i := 2) (q := 2) (v := l2) 2 rfl rfl (hJ5_putStringAt_47b60.at 3 rfl rfl) ?_
  refine os_aload_n (i := 0) (q := 0) (v := l0) 0 rfl rfl (hJ5_putStringAt_47b60.at 4 rfl rfl) ?_
  refine os_getR fJ5_15 (hJ5_putStringAt_47b60.at 5 rfl rfl) (fun x1 => ?_)
  refine os_iload_n (i := 1) (q := 1) (v := l1) 1 rfl rfl (hJ5_putStringAt_47b60.at 6 rfl rfl) ?_
  refine os_aload_n (i := 0) (q := 0) (v := l0) 0 rfl rfl (hJ5_putStringAt_47b60.at 7 rfl rfl) ?_
  refine os_getI fJ5_22 (hJ5_putStringAt_47b60.at 8 rfl rfl) (fun x2 => ?_)
  refine os_callStr (b := l2) (As := [.ref x1, .int l1, .int x2]) (st := []) (st' := (fun _ => [])) wd962 mdJ0_getBytes_840e7 wd960 wd961 (sJ0_getBytes_840e7 N l2 x1 l1 x2) rfl rfl (fun _ => rfl) (Nat.le_of_ble_eq_true rfl) (Nat.le_of_ble_eq_true rfl) (Nat.le_of_ble_eq_true rfl) rfl (by show _ ≤ 0; omega) rfl (by show _ ≤ 0; omega) (hJ5_putStringAt_47b60.at 9 rfl rfl) (fun _ => ?_)
  exact os_vret (by omega) (by omega) (hJ5_putStringAt_47b60.at 10 rfl rfl).1
-- J0_init_db425
def KJ0_init_db425 : List (Nat × Nat × Instr) := [(0, 1, .aload_n 0), (1, 3, .invokespecial 1), (4, 1, .aload_n 1), (5, 3, .invokevirtual 552), (8, 1, .astore_n 3), (9, 1, .aload_n 1), (10, 3, .invokevirtual 549), (13, 2, .istore 4), (15, 1, .aload_n 1), (16, 3, .invokevirtual 1047), (19, 3, .ifCond .eq 22), (22, 1, .aload_n 0), (23, 1, .iconst 0), (24, 3, .putfield 15), (27, 1, .aload_n 0), (28, 1, .aload_n 3), (29, 1, .iconst 0), (30, 2, .iload 4), (32, 3, .invokestatic 54), (35, 3, .putfield 9), (38, 3, .goto 59), (41, 3, .getstatic 38), (44, 3, .ifCond .eq 35), (47, 1, .aload_n 1), (48, 3, .getfield 1048), (51, 3, .ifCond .eq 28), (54, 1, .aload_n 0), (55, 1, .aload_n 3), (56, 1, .iconst 0), (57, 2, .iload 4), (59, 3, .invokestatic 1051), (62, 3, .putfield 9), (65, 1, .aload_n 0), (66, 1, .aload_n 0), (67, 3, .getfield 9), (70, 2, .iload 4), (72, 3, .invokestatic 47), (75, 3, .putfield 15), (78, 1, .return_), (79, 1, .aload_n 0), (80, 1, .iconst 1), (81, 3, .putfield 15), (84, 1, .aload_n 0), (85, 1, .aload_n 3), (86, 1, .iconst 0), (87, 2, .iload 4), (89, 1, .iconst 1), (90, 1, .ishl), (91, 3, .invokestatic 54), (94, 3, .putfield 9), (97, 1, .return_)]
theorem hJ0_init_db425 : osDs cJ0_init_db425 KJ0_init_db425 := by
  show ∀ q ∈ KJ0_init_db425, decode cJ0_init_db425 q.1 = .ok (q.2.2, q.2.1)
  decide +kernel
def qJ0_init_db425_97 (N : Nat) : osM Unit := osret ()
def qJ0_init_db425_79 (N : Nat) (l0 : Nat) (l3 : Nat) (l4 : Int32) : osM Unit := osbind (osput [8] 1 l0 (.int (1 : Int32))) fun _ => osbind (qJ7_copyOfRange_39247 N l3 (0 : Int32) (osshl l4 (1 : Int32))) fun x1 => osbind (osput [8] 0 l0 (.ref x1)) fun _ => qJ0_init_db425_97 N 
def qJ0_init_db425 (N : Nat) (l0 : Nat) (l1 : Nat) : osM Unit := osbind (osrecv [9] l1 (qJ5_getValue_6d5f1 N l1)) fun x1 => osbind (osrecv [9] l1 (qJ4_length_8abf5 N l1)) fun x2 => osbind (osrecv [9] l1 (qJ5_isLatin1_aae02 N l1)) fun x3 => osite (x3 = 0) (osite ((1 : Int32) = 0) (qJ0_init_db425_79 N l0 x1 x2) (osbind (osgI [9] 2 l1) fun x4 => osite (x4 = 0) (qJ0_init_db425_79 N l0 x1 x2) (osno))) (osbind (osput [8] 1 l0 (.int (0 : Int32))) fun _ => osbind (qJ7_copyOfRange_39247 N x1 (0 : Int32) x2) fun x5 => osbind (osput [8] 0 l0 (.ref x5)) fun _ => qJ0_init_db425_97 N )
set_option maxRecDepth 100000 in
set_option maxHeartbeats 4000000 in
theorem sJ0_init_db425_97 (N : Nat) : osW (osFinM (fun _ : Unit => none) 1 64) yJ0_init_db425 cJ0_init_db425 5 none [] { frames := 3, cells := 1, slots := 64, locals := 106 } (1) (64) 97 [] [] (qJ0_init_db425_97 N) := by
  unfold qJ0_init_db425_97
  exact os_vret (by omega) (by omega) (hJ0_init_db425.at 50 rfl rfl).1
set_option maxRecDepth 100000 in
set_option maxHeartbeats 4000000 in
theorem sJ0_init_db425_79 (N : Nat) (l0 : Nat) (l3 : Nat) (l4 : Int32) : osW (osFinM (fun _ : Unit => none) 1 64) yJ0_init_db425 cJ0_init_db425 5 none [] { frames := 3, cells := 1, slots := 64, locals := 106 } (0) (0) 79 [(0, .ref l0), (3, .ref l3), (4, .int l4)] [] (qJ0_init_db425_79 N l0 l3 l4) := by
  unfold qJ0_init_db425_79
  refine os_aload_n (i := 0) (q := 0) (v := l0) 0 rfl rfl (hJ0_init_db425.at 39 rfl rfl) ?_
  refine os_iconst (i := 1) (v := (1 : Int32)) rfl (hJ0_init_db425.at 40 rfl rfl) ?_
  refine os_putF fJ0_15 rfl (osHd1 rfl rfl) rfl rfl (hJ0_init_db425.at 41 rfl rfl) ?_
  refine os_aload_n (i := 0) (q := 0) (v := l0) 0 rfl rfl (hJ0_init_db425.at 42 rfl rfl) ?_
  refine os_aload_n (i := 3) (q := 3) (v := l3) 1 rfl rfl (hJ0_init_db425.at 43 rfl rfl) ?_
  refine os_iconst (i := 0) (v := (0 : Int32)) rfl (hJ0_init_db425.at 44 rfl rfl) ?_
  refine os_iload (v := l4) 2 rfl (hJ0_init_db425.at 45 rfl rfl) ?_
  refine os_iconst (i := 1) (v := (1 : Int32)) rfl (hJ0_init_db425.at 46 rfl rfl) ?_
  refine os_ishl (hJ0_init_db425.at 47 rfl rfl) ?_
  refine os_callS (As := [.ref l3, .int (0 : Int32), .int (osshl l4 (1 : Int32))]) (st := [.ref l0]) (st' := (fun r => .ref r :: [.ref l0])) mdJ7_copyOfRange_39247 wd1013 wd1014 (sJ7_copyOfRange_39247 N l3 (0 : Int32) (osshl l4 (1 : Int32))) rfl rfl (fun _ => rfl) (Nat.le_of_ble_eq_true rfl) (Nat.le_of_ble_eq_true rfl) (Nat.le_of_ble_eq_true rfl) rfl (by show _ ≤ 1; omega) rfl (by show _ ≤ 64; omega) (hJ0_init_db425.at 48 rfl rfl) (fun x1 => ?_)
  refine os_putF fJ0_9 rfl (osHd1 rfl rfl) rfl rfl (hJ0_init_db425.at 49 rfl rfl) ?_
  exact osW.widen (k' := 1) (n' := 64) (by omega) (by omega) (osW.sub [] rfl (sJ0_init_db425_97 N ))
set_option maxRecDepth 100000 in
set_option maxHeartbeats 4000000 in
theorem sJ0_init_db425 (N : Nat) (l0 : Nat) (l1 : Nat) : osMet yJ0_init_db425 cJ0_init_db425 5 none 3 106 1 64 (fun _ : Unit => none) [.ref l0, .ref l1, .null] (qJ0_init_db425 N l0 l1) := by
  refine osMet.of plJ0 (Nat.le_of_ble_eq_true rfl) (osW.rw (lv2 := [(0, .ref l0), (1, .ref l1), (2, .null )]) ?_ rfl rfl rfl)
  unfold qJ0_init_db425
  refine os_aload_n (i := 0) (q := 0) (v := l0) 0 rfl rfl (hJ0_init_db425.at 0 rfl rfl) ?_
  refine os_objInit wd998 wd88 wd89 (Nat.le_of_ble_eq_true rfl) (Nat.le_of_ble_eq_true rfl) (Nat.le_of_ble_eq_true rfl) (hJ0_init_db425.at 1 rfl rfl) ?_
  refine os_aload_n (i := 1) (q := 1) (v := l1) 1 rfl rfl (hJ0_init_db425.at 2 rfl rfl) ?_
  refine os_callV (cis := [9]) (b := l1) (As := []) (st := []) (st' := (fun r => .ref r :: [])) sl9_J5_getValue_6d5f1_J5_getValue_6d5f1 mdJ5_getValue_6d5f1 wd999 wd1000 (sJ5_getValue_6d5f1 N l1 ) rfl rfl (fun _ => rfl) (Nat.le_of_ble_eq_true rfl) (Nat.le_of_ble_eq_true rfl) (Nat.le_of_ble_eq_true rfl) rfl (by show _ ≤ 1; omega) rfl (by show _ ≤ 64; omega) (hJ0_init_db425.at 3 rfl rfl) (fun x1 => ?_)
  refine os_astore_n (i := 3) (q := 3) rfl (lv' := [(3, .ref x1), (0, .ref l0), (1, .ref l1), (2, .null )]) (Nat.le_of_ble_eq_true rfl) rfl (hJ0_init_db425.at 4 rfl rfl) ?_
  refine os_aload_n (i := 1) (q := 1) (v := l1) 2 rfl rfl (hJ0_init_db425.at 5 rfl rfl) ?_
  refine os_callO (cis := [9]) (x := yJ5_length_8abf5) (owner := RJ5) (b := l1) (As := []) (st := []) (st' := (fun r => .int r :: [])) sl9_O mdJ4_length_8abf5 wd1011 wd1005 ⟨by decide +kernel, by decide +kernel⟩ rfl wd1004 wd1006 wd1008 (sJ4_length_8abf5 N l1 ) rfl rfl (fun _ => rfl) (Nat.le_of_ble_eq_true rfl) (Nat.le_of_ble_eq_true rfl) (Nat.le_of_ble_eq_true rfl) rfl (by show _ ≤ 1; omega) rfl (by show _ ≤ 64; omega) (hJ0_init_db425.at 6 rfl rfl) (fun x2 => ?_)
  refine os_istore (i := 4) (lv' := [(4, .int x2), (3, .ref x1), (0, .ref l0), (1, .ref l1), (2, .null )]) (Nat.le_of_ble_eq_true rfl) rfl (hJ0_init_db425.at 7 rfl rfl) ?_
  refine os_aload_n (i := 1) (q := 1) (v := l1) 3 rfl rfl (hJ0_init_db425.at 8 rfl rfl) ?_
  refine os_callV (cis := [9]) (b := l1) (As := []) (st := []) (st' := (fun r => .int r :: [])) sl9_J5_isLatin1_aae02_J5_isLatin1_aae02 mdJ5_isLatin1_aae02 wd1012 wd912 (sJ5_isLatin1_aae02 N l1 ) rfl rfl (fun _ => rfl) (Nat.le_of_ble_eq_true rfl) (Nat.le_of_ble_eq_true rfl) (Nat.le_of_ble_eq_true rfl) rfl (by show _ ≤ 1; omega) rfl (by show _ ≤ 64; omega) (hJ0_init_db425.at 9 rfl rfl) (fun x3 => ?_)
  refine os_if_eq (off := 22) (tgt := 41) rfl (hJ0_init_db425.at 10 rfl rfl) ?_ ?_
  · refine os_compact wd503 (hJ0_init_db425.at 21 rfl rfl) ?_
    refine os_if_eq (off := 35) (tgt := 79) rfl (hJ0_init_db425.at 22 rfl rfl) ?_ ?_
    · exact osW.widen (k' := 0) (n' := 0) (by omega) (by omega) (osW.sub [2, 1, 0] rfl (sJ0_init_db425_79 N l0 x1 x2))
    · refine os_aload_n (i := 1) (q := 1) (v := l1) 3 rfl rfl (hJ0_init_db425.at 23 rfl rfl) ?_
      refine os_getI fJ0_1048 (hJ0_init_db425.at 24 rfl rfl) (fun x4 => ?_)
      refine os_if_eq (off := 28) (tgt := 79) rfl (hJ0_init_db425.at 25 rfl rfl) ?_ ?_
      · exact osW.widen (k' := 0) (n' := 0) (by omega) (by omega) (osW.sub [2, 1, 0] rfl (sJ0_init_db425_79 N l0 x1 x2))
      · refine os_aload_n (i := 0) (q := 0) (v := l0) 2 rfl rfl (hJ0_init_db425.at 26 rfl rfl) ?_
        refine os_aload_n (i := 3) (q := 3) (v := x1) 1 rfl rfl (hJ0_init_db425.at 27 rfl rfl) ?_
        refine os_iconst (i := 0) (v := (0 : Int32)) rfl (hJ0_init_db425.at 28 rfl rfl) ?_
        refine os_iload (v := x2) 0 rfl (hJ0_init_db425.at 29 rfl rfl) ?_
        exact os_no rfl
  · refine os_aload_n (i := 0) (q := 0) (v := l0) 2 rfl rfl (hJ0_init_db425.at 11 rfl rfl) ?_
    refine os_iconst (i := 0) (v := (0 : Int32)) rfl (hJ0_init_db425.at 12 rfl rfl) ?_
    refine os_putF fJ0_15 rfl (osHd1 rfl rfl) rfl rfl (hJ0_init_db425.at 13 rfl rfl) ?_
    refine os_aload_n (i := 0) (q := 0) (v := l0) 2 rfl rfl (hJ0_init_db425.at 14 rfl rfl) ?_
    refine os_aload_n (i := 3) (q := 3) (v := x1) 1 rfl rfl (hJ0_init_db425.at 15 rfl rfl) ?_
    refine os_iconst (i := 0) (v := (0 : Int32)) rfl (hJ0_init_db425.at 16 rfl rfl) ?_
    refine os_iload (v := x2) 0 rfl (hJ0_init_db425.at 17 rfl rfl) ?_
    refine os_callS (As := [.ref x1, .int (0 : Int32), .int x2]) (st := [.ref l0]) (st' := (fun r => .ref r :: [.ref l0])) mdJ7_copyOfRange_39247 wd1013 wd1014 (sJ7_copyOfRange_39247 N x1 (0 : Int32) x2) rfl rfl (fun _ => rfl) (Nat.le_of_ble_eq_true rfl) (Nat.le_of_ble_eq_true rfl) (Nat.le_of_ble_eq_true rfl) rfl (by show _ ≤ 1; omega) rfl (by show _ ≤ 64; omega) (hJ0_init_db425.at 18 rfl rfl) (fun x5 => ?_)
    refine os_putF fJ0_9 rfl (osHd1 rfl rfl) rfl rfl (hJ0_init_db425.at 19 rfl rfl) ?_
    refine os_goto (off := 59) (tgt := 97) rfl (hJ0_init_db425.at 20 rfl rfl) ?_
    exact osW.widen (k' := 1) (n' := 64) (by omega) (by omega) (osW.sub [] rfl (sJ0_init_db425_97 N ))
-- J4_append_cf468
def KJ4_append_cf468 : List (Nat × Nat × Instr) := [(0, 1, .aload_n 0), (1, 1, .iload_n 1), (2, 3, .invokespecial 50), (5, 1, .pop), (6, 1, .aload_n 0), (7, 1, .areturn)]
theorem hJ4_append_cf468 : osDs cJ4_append_cf468 KJ4_append_cf468 := by
  show ∀ q ∈ KJ4_append_cf468, decode cJ4_append_cf468 q.1 = .ok (q.2.2, q.2.1)
  decide +kernel
def qJ4_append_cf468 (N : Nat) (l0 : Nat) (l1 : Int32) : osM Nat := osbind (osrecv [9] l0 (qJ5_append_3fe6f N l0 l1)) fun x1 => osret l0
set_option maxRecDepth 100000 in
set_option maxHeartbeats 4000000 in
theorem sJ4_append_cf468 (N : Nat) (l0 : Nat) (l1 : Int32) : osMet yJ4_append_cf468 cJ4_append_cf468 2 (some (.object "java/lang/StringBuilder")) 5 125 1 64 (fun r : Nat => some (.ref r)) [.ref l0, .int l1] (qJ4_append_cf468 N l0 l1) := by
  refine osMet.of plJ4 (Nat.le_of_ble_eq_true rfl) (osW.rw (lv2 := [(0, .ref l0), (1, .int l1)]) ?_ rfl rfl rfl)
  unfold qJ4_append_cf468
  refine os_aload_n (i := 0) (q := 0) (v := l0) 0 rfl rfl (hJ4_append_cf468.at 0 rfl rfl) ?_
  refine os_iload_n (i := 1) (q := 1) (v := l1) 1 rfl rfl (hJ4_append_cf468.at 1 rfl rfl) ?_
  refine os_callSU (cis := [9]) (b := l0) (As := [.int l1]) (st := []) (st' := (fun r => .ref r :: [])) mdJ5_append_3fe6f wd970 wd1530 wd863 wd971 (by decide) (sJ5_append_3fe6f N l0 l1) rfl rfl (fun _ => rfl) (Nat.le_of_ble_eq_true rfl) (Nat.le_of_ble_eq_true rfl) (Nat.le_of_ble_eq_true rfl) rfl (by show _ ≤ 1; omega) rfl (by show _ ≤ 64; omega) (hJ4_append_cf468.at 2 rfl rfl) (fun x1 => ?_)
  refine os_pop rfl (hJ4_append_cf468.at 3 rfl rfl) ?_
  refine os_aload_n (i := 0) (q := 0) (v := l0) 0 rfl rfl (hJ4_append_cf468.at 4 rfl rfl) ?_
  exact os_aret (Or.inl ⟨_, rfl⟩) (by omega) (by omega) (hJ4_append_cf468.at 5 rfl rfl).1
-- J5_append_cf1ce
def KJ5_append_cf1ce : List (Nat × Nat × Instr) := [(0, 1, .aload_n 1), (1, 3, .ifnonnull 8), (4, 1, .aload_n 0), (5, 3, .invokevirtual 204), (8, 1, .areturn), (9, 1, .aload_n 1), (10, 3, .invokevirtual 32), (13, 1, .istore_n 2), (14, 1, .aload_n 0), (15, 1, .aload_n 0), (16, 3, .getfield 79), (19, 1, .iload_n 2), (20, 1, .iadd), (21, 3, .invokevirtual 100), (24, 1, .aload_n 0), (25, 1, .aload_n 0), (26, 3, .getfield 79), (29, 1, .aload_n 1), (30, 3, .invokevirtual 208), (33, 1, .aload_n 0), (34, 1, .dup), (35, 3, .getfield 79), (38, 1, .iload_n 2), (39, 1, .iadd), (40, 3, .putfield 79), (43, 1, .aload_n 0), (44, 1, .areturn)]
theorem hJ5_append_cf1ce : osDs cJ5_append_cf1ce KJ5_append_cf1ce := by
  show ∀ q ∈ KJ5_append_cf1ce, decode cJ5_append_cf1ce q.1 = .ok (q.2.2, q.2.1)
  decide +kernel
def qJ5_append_cf1ce (N : Nat) (l0 : Nat) (l1 : Nat) : osM Nat := osbind (osonstr l1 (qJ0_length_8abf5 N l1)) fun x1 => osbind (osgI [9] 3 l0) fun x2 => osbind (osrecv [9] l0 (qJ5_ensureCapacityInternal_d00df N l0 (x2 + x1))) fun _ => osbind (osgI [9] 3 l0) fun x3 => osbind (osrecv [9] l0 (qJ5_putStringAt_47b60 N l0 x3 l1)) fun _ => osbind (osgI [9] 3 l0) fun x4 => osbind (osput [9] 3 l0 (.int (x4 + x1))) fun _ => osret l0
set_option maxRecDepth 100000 in
set_option maxHeartbeats 4000000 in
theorem sJ5_append_cf1ce (N : Nat) (l0 : Nat) (l1 : Nat) : osMet yJ5_append_cf1ce cJ5_append_cf1ce 3 (some (.object "java/lang/AbstractStringBuilder")) 4 105 1 64 (fun r : Nat => some (.ref r)) [.ref l0, .ref l1] (qJ5_append_cf1ce N l0 l1) := by
  refine osMet.of plJ5 (Nat.le_of_ble_eq_true rfl) (osW.rw (lv2 := [(0, .ref l0), (1, .ref l1)]) ?_ rfl rfl rfl)
  unfold qJ5_append_cf1ce
  refine os_aload_n (i := 1) (q := 1) (v := l1) 1 rfl rfl (hJ5_append_cf1ce.at 0 rfl rfl) ?_
  refine os_nonnull (off := 8) (tgt := 9) rfl (hJ5_append_cf1ce.at 1 rfl rfl) ?_
  refine os_aload_n (i := 1) (q := 1) (v := l1) 1 rfl rfl (hJ5_append_cf1ce.at 5 rfl rfl) ?_
  refine os_callStr (b := l1) (As := []) (st := []) (st' := (fun r => .int r :: [])) wd497 mdJ0_length_8abf5 wd931 wd496 (sJ0_length_8abf5 N l1 ) rfl rfl (fun _ => rfl) (Nat.le_of_ble_eq_true rfl) (Nat.le_of_ble_eq_true rfl) (Nat.le_of_ble_eq_true rfl) rfl (by show _ ≤ 1; omega) rfl (by show _ ≤ 64; omega) (hJ5_append_cf1ce.at 6 rfl rfl) (fun x1 => ?_)
  refine os_istore_n (i := 2) (q := 2) rfl (lv' := [(2, .int x1), (0, .ref l0), (1, .ref l1)]) (Nat.le_of_ble_eq_true rfl) rfl (hJ5_append_cf1ce.at 7 rfl rfl) ?_
  refine os_aload_n (i := 0) (q := 0) (v := l0) 1 rfl rfl (hJ5_append_cf1ce.at 8 rfl rfl) ?_
  refine os_aload_n (i := 0) (q := 0) (v := l0) 1 rfl rfl (hJ5_append_cf1ce.at 9 rfl rfl) ?_
  refine os_getI fJ5_79 (hJ5_append_cf1ce.at 10 rfl rfl) (fun x2 => ?_)
  refine os_iload_n (i := 2) (q := 2) (v := x1) 0 rfl rfl (hJ5_append_cf1ce.at 11 rfl rfl) ?_
  refine os_iadd (hJ5_append_cf1ce.at 12 rfl rfl) ?_
  refine os_callV (cis := [9]) (b := l0) (As := [.int (x2 + x1)]) (st := []) (st' := (fun _ => [])) sl9_J5_ensureCapacityInternal_d00df_J5_ensureCapacityInternal_d00df mdJ5_ensureCapacityInternal_d00df wd878 wd880 (sJ5_ensureCapacityInternal_d00df N l0 (x2 + x1)) rfl rfl (fun _ => rfl) (Nat.le_of_ble_eq_true rfl) (Nat.le_of_ble_eq_true rfl) (Nat.le_of_ble_eq_true rfl) rfl (by show _ ≤ 1; omega) rfl (by show _ ≤ 64; omega) (hJ5_append_cf1ce.at 13 rfl rfl) (fun _ => ?_)
  refine os_aload_n (i := 0) (q := 0) (v := l0) 1 rfl rfl (hJ5_append_cf1ce.at 14 rfl rfl) ?_
  refine os_aload_n (i := 0) (q := 0) (v := l0) 1 rfl rfl (hJ5_append_cf1ce.at 15 rfl rfl) ?_
  refine os_getI fJ5_79 (hJ5_append_cf1ce.at 16 rfl rfl) (fun x3 => ?_)
  refine os_aload_n (i := 1) (q := 1) (v := l1) 2 rfl rfl (hJ5_append_cf1ce.at 17 rfl rfl) ?_
  refine os_callV (cis := [9]) (b := l0) (As := [.int x3, .ref l1]) (st := []) (st' := (fun _ => [])) sl9_J5_putStringAt_47b60_J5_putStringAt_47b60 mdJ5_putStringAt_47b60 wd932 wd934 (sJ5_putStringAt_47b60 N l0 x3 l1) rfl rfl (fun _ => rfl) (Nat.le_of_ble_eq_true rfl) (Nat.le_of_ble_eq_true rfl) (Nat.le_of_ble_eq_true rfl) rfl (by show _ ≤ 1; omega) rfl (by show _ ≤ 64; omega) (hJ5_append_cf1ce.at 18 rfl rfl) (fun _ => ?_)
  refine os_aload_n (i := 0) (q := 0) (v := l0) 1 rfl rfl (hJ5_append_cf1ce.at 19 rfl rfl) ?_
  refine os_dup rfl (hJ5_append_cf1ce.at 20 rfl rfl) ?_
  refine os_getI fJ5_79 (hJ5_append_cf1ce.at 21 rfl rfl) (fun x4 => ?_)
  refine os_iload_n (i := 2) (q := 2) (v := x1) 0 rfl rfl (hJ5_append_cf1ce.at 22 rfl rfl) ?_
  refine os_iadd (hJ5_append_cf1ce.at 23 rfl rfl) ?_
  refine os_put fJ5_79 rfl rfl (hJ5_append_cf1ce.at 24 rfl rfl) ?_
  refine os_aload_n (i := 0) (q := 0) (v := l0) 1 rfl rfl (hJ5_append_cf1ce.at 25 rfl rfl) ?_
  exact os_aret (Or.inl ⟨_, rfl⟩) (by omega) (by omega) (hJ5_append_cf1ce.at 26 rfl rfl).1
-- J0_init_81219
def KJ0_init_81219 : List (Nat × Nat × Instr) := [(0, 1, .aload_n 0), (1, 1, .aload_n 1), (2, 1, .aconst_null), (3, 3, .invokespecial 489), (6, 1, .return_)]
theorem hJ0_init_81219 : osDs cJ0_init_81219 KJ0_init_81219 := by
  show ∀ q ∈ KJ0_init_81219, decode cJ0_init_81219 q.1 = .ok (q.2.2, q.2.1)
  decide +kernel
def qJ0_init_81219 (N : Nat) (l0 : Nat) (l1 : Nat) : osM Unit := osbind (qJ0_init_db425 N l0 l1) fun _ => osret ()
set_option maxRecDepth 100000 in
set_option maxHeartbeats 4000000 in
theorem sJ0_init_81219 (N : Nat) (l0 : Nat) (l1 : Nat) : osMet yJ0_init_81219 cJ0_init_81219 2 none 4 130 1 64 (fun _ : Unit => none) [.ref l0, .ref l1] (qJ0_init_81219 N l0 l1) := by
  refine osMet.of plJ0 (Nat.le_of_ble_eq_true rfl) (osW.rw (lv2 := [(0, .ref l0), (1, .ref l1)]) ?_ rfl rfl rfl)
  unfold qJ0_init_81219
  refine os_aload_n (i := 0) (q := 0) (v := l0) 0 rfl rfl (hJ0_init_81219.at 0 rfl rfl) ?_
  refine os_aload_n (i := 1) (q := 1) (v := l1) 1 rfl rfl (hJ0_init_81219.at 1 rfl rfl) ?_
  refine os_null (hJ0_init_81219.at 2 rfl rfl) ?_
  refine os_callI (b := l0) (As := [.ref l1, .null ]) (st := []) (st' := (fun _ => [])) mdJ0_init_db425 rfl wd995 wd996 (sJ0_init_db425 N l0 l1) rfl rfl (fun _ => rfl) (Nat.le_of_ble_eq_true rfl) (Nat.le_of_ble_eq_true rfl) (Nat.le_of_ble_eq_true rfl) rfl (by show _ ≤ 1; omega) rfl (by show _ ≤ 64; omega) (hJ0_init_81219.at 3 rfl rfl) (fun _ => ?_)
  exact os_vret (by omega) (by omega) (hJ0_init_81219.at 4 rfl rfl).1
-- J4_append_15ec4
def KJ4_append_15ec4 : List (Nat × Nat × Instr) := [(0, 1, .aload_n 0), (1, 1, .aload_n 1), (2, 3, .invokespecial 29), (5, 1, .pop), (6, 1, .aload_n 0), (7, 1, .areturn)]
theorem hJ4_append_15ec4 : osDs cJ4_append_15ec4 KJ4_append_15ec4 := by
  show ∀ q ∈ KJ4_append_15ec4, decode cJ4_append_15ec4 q.1 = .ok (q.2.2, q.2.1)
  decide +kernel
def qJ4_append_15ec4 (N : Nat) (l0 : Nat) (l1 : Nat) : osM Nat := osbind (osrecv [9] l0 (qJ5_append_cf1ce N l0 l1)) fun x1 => osret l0
set_option maxRecDepth 100000 in
set_option maxHeartbeats 4000000 in
theorem sJ4_append_15ec4 (N : Nat) (l0 : Nat) (l1 : Nat) : osMet yJ4_append_15ec4 cJ4_append_15ec4 2 (some (.object "java/lang/StringBuilder")) 5 127 1 64 (fun r : Nat => some (.ref r)) [.ref l0, .ref l1] (qJ4_append_15ec4 N l0 l1) := by
  refine osMet.of plJ4 (Nat.le_of_ble_eq_true rfl) (osW.rw (lv2 := [(0, .ref l0), (1, .ref l1)]) ?_ rfl rfl rfl)
  unfold qJ4_append_15ec4
  refine os_aload_n (i := 0) (q := 0) (v := l0) 0 rfl rfl (hJ4_append_15ec4.at 0 rfl rfl) ?_
  refine os_aload_n (i := 1) (q := 1) (v := l1) 1 rfl rfl (hJ4_append_15ec4.at 1 rfl rfl) ?_
  refine os_callSU (cis := [9]) (b := l0) (As := [.ref l1]) (st := []) (st' := (fun r => .ref r :: [])) mdJ5_append_cf1ce wd871 wd1523 wd863 wd872 (by decide) (sJ5_append_cf1ce N l0 l1) rfl rfl (fun _ => rfl) (Nat.le_of_ble_eq_true rfl) (Nat.le_of_ble_eq_true rfl) (Nat.le_of_ble_eq_true rfl) rfl (by show _ ≤ 1; omega) rfl (by show _ ≤ 64; omega) (hJ4_append_15ec4.at 2 rfl rfl) (fun x1 => ?_)
  refine os_pop rfl (hJ4_append_15ec4.at 3 rfl rfl) ?_
  refine os_aload_n (i := 0) (q := 0) (v := l0) 0 rfl rfl (hJ4_append_15ec4.at 4 rfl rfl) ?_
  exact os_aret (Or.inl ⟨_, rfl⟩) (by omega) (by omega) (hJ4_append_15ec4.at 5 rfl rfl).1
-- J4_toString_0e30d
def KJ4_toString_0e30d : List (Nat × Nat × Instr) := [(0, 3, .new 18), (3, 1, .dup), (4, 1, .aload_n 0), (5, 3, .invokespecial 137), (8, 1, .areturn)]
theorem hJ4_toString_0e30d : osDs cJ4_toString_0e30d KJ4_toString_0e30d := by
  show ∀ q ∈ KJ4_toString_0e30d, decode cJ4_toString_0e30d q.1 = .ok (q.2.2, q.2.1)
  decide +kernel
def qJ4_toString_0e30d (N : Nat) (l0 : Nat) : osM Nat := osbind (osnew (.inr (8, [.null, .int 0, .int 0, .int 0]))) fun x1 => osbind (qJ0_init_81219 N x1 l0) fun _ => osret x1
set_option maxRecDepth 100000 in
set_option maxHeartbeats 4000000 in
theorem sJ4_toString_0e30d (N : Nat) (l0 : Nat) : osMet yJ4_toString_0e30d cJ4_toString_0e30d 1 (some (.object "java/lang/String")) 5 151 2 68 (fun r : Nat => some (.ref r)) [.ref l0] (qJ4_toString_0e30d N l0) := by
  refine osMet.of plJ4 (Nat.le_of_ble_eq_true rfl) (osW.rw (lv2 := [(0, .ref l0)]) ?_ rfl rfl rfl)
  unfold qJ4_toString_0e30d
  refine os_new (C := RJ0) (T := TJ0) (N := 4) (ci := 8) (ty0 := tyJ0) rfl tyJ0_ok osinJ0 wd990 wd991 wd65 dfJ0 (by show _ ≤ 2; omega) (by show _ ≤ 68; omega) (hJ4_toString_0e30d.at 0 rfl rfl) (fun x1 => ?_)
  refine os_dup rfl (hJ4_toString_0e30d.at 1 rfl rfl) ?_
  refine os_aload_n (i := 0) (q := 0) (v := l0) 0 rfl rfl (hJ4_toString_0e30d.at 2 rfl rfl) ?_
  refine os_callI (b := x1) (As := [.ref l0]) (st := [.ref x1]) (st' := (fun _ => [.ref x1])) mdJ0_init_81219 rfl wd992 wd993 (sJ0_init_81219 N x1 l0) rfl rfl (fun _ => rfl) (Nat.le_of_ble_eq_true rfl) (Nat.le_of_ble_eq_true rfl) (Nat.le_of_ble_eq_true rfl) rfl (by show _ ≤ 2; omega) rfl (by show _ ≤ 68; omega) (hJ4_toString_0e30d.at 3 rfl rfl) (fun _ => ?_)
  exact os_aret (Or.inl ⟨_, rfl⟩) (by omega) (by omega) (hJ4_toString_0e30d.at 4 rfl rfl).1
