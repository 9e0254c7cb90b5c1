-- BJ5_init_d00df
def qBJ5_init_d00df (N : Nat) (l0 : Nat) (l1 : Int32) : osM Unit := osite ((1 : Int32) = 0) (osno) (osbind (osnewB 1200 l1) fun x1 => osbind (osput [9] 0 l0 (.ref x1)) fun _ => osbind (osput [9] 1 l0 (.int (0 : Int32))) fun _ => osret ())
set_option maxRecDepth 100000 in
set_option maxHeartbeats 4000000 in
theorem sBJ5_init_d00df (N : Nat) (l0 : Nat) (l1 : Int32) : osMet yJ5_init_d00df cJ5_init_d00df 2 none 1 20 1 1200 (fun _ : Unit => none) [.ref l0, .int l1] (qBJ5_init_d00df N l0 l1) := by
  refine osMet.of plJ5 (Nat.le_of_ble_eq_true rfl) (osW.rw (lv2 := [(0, .ref l0), (1, .int l1)]) ?_ rfl rfl rfl)
  unfold qBJ5_init_d00df
  refine os_aload_n (i := 0) (q := 0) (v := l0) 0 rfl rfl (hJ5_init_d00df.at 0 rfl rfl) ?_
  refine os_objInit wd842 wd88 wd89 (Nat.le_of_ble_eq_true rfl) (Nat.le_of_ble_eq_true rfl) (Nat.le_of_ble_eq_true rfl) (hJ5_init_d00df.at 1 rfl rfl) ?_
  refine os_compact wd843 (hJ5_init_d00df.at 2 rfl rfl) ?_
  refine os_if_eq (off := 18) (tgt := 25) rfl (hJ5_init_d00df.at 3 rfl rfl) ?_ ?_
  · refine os_aload_n (i := 0) (q := 0) (v := l0) 0 rfl rfl (hJ5_init_d00df.at 12 rfl rfl) ?_
    refine os_iload_n (i := 1) (q := 1) (v := l1) 1 rfl rfl (hJ5_init_d00df.at 13 rfl rfl) ?_
    exact os_no rfl
  · refine os_aload_n (i := 0) (q := 0) (v := l0) 0 rfl rfl (hJ5_init_d00df.at 4 rfl rfl) ?_
    refine os_iload_n (i := 1) (q := 1) (v := l1) 1 rfl rfl (hJ5_init_d00df.at 5 rfl rfl) ?_
    refine os_newB (B9 := 1200) wd103 (by show _ ≤ 1; omega) (by show _ ≤ 1200; omega) (hJ5_init_d00df.at 6 rfl rfl) (fun x1 => ?_)
    refine os_put fJ5_15 rfl rfl (hJ5_init_d00df.at 7 rfl rfl) ?_
    refine os_aload_n (i := 0) (q := 0) (v := l0) 0 rfl rfl (hJ5_init_d00df.at 8 rfl rfl) ?_
    refine os_iconst (i := 0) (v := (0 : Int32)) rfl (hJ5_init_d00df.at 9 rfl rfl) ?_
    refine os_put fJ5_22 rfl rfl (hJ5_init_d00df.at 10 rfl rfl) ?_
    refine os_goto (off := 16) (tgt := 38) rfl (hJ5_init_d00df.at 11 rfl rfl) ?_
    exact os_vret (by omega) (by omega) (hJ5_init_d00df.at 19 rfl rfl).1
-- BJ5_length_8abf5
def qBJ5_length_8abf5 (N : Nat) (l0 : Nat) : osM Int32 := osbind (osgI [9] 3 l0) fun x1 => osret x1
set_option maxRecDepth 100000 in
set_option maxHeartbeats 4000000 in
theorem sBJ5_length_8abf5 (N : Nat) (l0 : Nat) : osMet yJ5_length_8abf5 cJ5_length_8abf5 1 (some .int) 0 0 0 0 (fun r : Int32 => some (.int r)) [.ref l0] (qBJ5_length_8abf5 N l0) := by
  refine osMet.of plJ5 (Nat.le_of_ble_eq_true rfl) (osW.rw (lv2 := [(0, .ref l0)]) ?_ rfl rfl rfl)
  unfold qBJ5_length_8abf5
  refine os_aload_n (i := 0) (q := 0) (v := l0) 0 rfl rfl (hJ5_length_8abf5.at 0 rfl rfl) ?_
  refine os_getI fJ5_79 (hJ5_length_8abf5.at 1 rfl rfl) (fun x1 => ?_)
  exact os_iret (by omega) (by omega) (hJ5_length_8abf5.at 2 rfl rfl).1
-- BJ5_getValue_6d5f1
def qBJ5_getValue_6d5f1 (N : Nat) (l0 : Nat) : osM Nat := osbind (osgR [9] 0 l0) fun x1 => osret x1
set_option maxRecDepth 100000 in
set_option maxHeartbeats 4000000 in
theorem sBJ5_getValue_6d5f1 (N : Nat) (l0 : Nat) : osMet yJ5_getValue_6d5f1 cJ5_getValue_6d5f1 1 (some (.array .byte)) 0 0 0 0 (fun r : Nat => some (.ref r)) [.ref l0] (qBJ5_getValue_6d5f1 N l0) := by
  refine osMet.of plJ5 (Nat.le_of_ble_eq_true rfl) (osW.rw (lv2 := [(0, .ref l0)]) ?_ rfl rfl rfl)
  unfold qBJ5_getValue_6d5f1
  refine os_aload_n (i := 0) (q := 0) (v := l0) 0 rfl rfl (hJ5_getValue_6d5f1.at 0 rfl rfl) ?_
  refine os_getR fJ5_15 (hJ5_getValue_6d5f1.at 1 rfl rfl) (fun x1 => ?_)
  exact os_aret (Or.inr ⟨_, rfl⟩) (by omega) (by omega) (hJ5_getValue_6d5f1.at 2 rfl rfl).1
-- BJ5_isLatin1_aae02
def qBJ5_isLatin1_aae02_18 (N : Nat) (k0 : Int32) : osM Int32 := osretZ k0
def qBJ5_isLatin1_aae02_17 (N : Nat) : osM Int32 := qBJ5_isLatin1_aae02_18 N (0 : Int32)
def qBJ5_isLatin1_aae02 (N : Nat) (l0 : Nat) : osM Int32 := osite ((1 : Int32) = 0) (qBJ5_isLatin1_aae02_17 N ) (osbind (osgI [9] 1 l0) fun x1 => osite (x1 = 0) (qBJ5_isLatin1_aae02_18 N (1 : Int32)) (qBJ5_isLatin1_aae02_17 N ))
set_option maxRecDepth 100000 in
set_option maxHeartbeats 4000000 in
theorem sBJ5_isLatin1_aae02_18 (N : Nat) (k0 : Int32) : osW (osFinM (fun r : Int32 => some (.int r)) 0 0) yJ5_isLatin1_aae02 cJ5_isLatin1_aae02 1 (some .boolean) [] { frames := 0, cells := 0, slots := 0, locals := 0 } (0) (0) 18 [] [.int k0] (qBJ5_isLatin1_aae02_18 N k0) := by
  unfold qBJ5_isLatin1_aae02_18
  exact os_zret (by omega) (by omega) (hJ5_isLatin1_aae02.at 8 rfl rfl).1
set_option maxRecDepth 100000 in
set_option maxHeartbeats 4000000 in
theorem sBJ5_isLatin1_aae02_17 (N : Nat) : osW (osFinM (fun r : Int32 => some (.int r)) 0 0) yJ5_isLatin1_aae02 cJ5_isLatin1_aae02 1 (some .boolean) [] { frames := 0, cells := 0, slots := 0, locals := 0 } (0) (0) 17 [] [] (qBJ5_isLatin1_aae02_17 N) := by
  unfold qBJ5_isLatin1_aae02_17
  refine os_iconst (i := 0) (v := (0 : Int32)) rfl (hJ5_isLatin1_aae02.at 7 rfl rfl) ?_
  exact osW.widen (k' := 0) (n' := 0) (by omega) (by omega) (osW.sub [] rfl (sBJ5_isLatin1_aae02_18 N (0 : Int32)))
set_option maxRecDepth 100000 in
set_option maxHeartbeats 4000000 in
theorem sBJ5_isLatin1_aae02 (N : Nat) (l0 : Nat) : osMet yJ5_isLatin1_aae02 cJ5_isLatin1_aae02 1 (some .boolean) 0 0 0 0 (fun r : Int32 => some (.int r)) [.ref l0] (qBJ5_isLatin1_aae02 N l0) := by
  refine osMet.of plJ5 (Nat.le_of_ble_eq_true rfl) (osW.rw (lv2 := [(0, .ref l0)]) ?_ rfl rfl rfl)
  unfold qBJ5_isLatin1_aae02
  refine os_compact wd843 (hJ5_isLatin1_aae02.at 0 rfl rfl) ?_
  refine os_if_eq (off := 14) (tgt := 17) rfl (hJ5_isLatin1_aae02.at 1 rfl rfl) ?_ ?_
  · exact osW.widen (k' := 0) (n' := 0) (by omega) (by omega) (osW.sub [] rfl (sBJ5_isLatin1_aae02_17 N ))
  · refine os_aload_n (i := 0) (q := 0) (v := l0) 0 rfl rfl (hJ5_isLatin1_aae02.at 2 rfl rfl) ?_
    refine os_getI fJ5_22 (hJ5_isLatin1_aae02.at 3 rfl rfl) (fun x1 => ?_)
    refine os_if_ne (off := 7) (tgt := 17) rfl (hJ5_isLatin1_aae02.at 4 rfl rfl) ?_ ?_
    · exact osW.widen (k' := 0) (n' := 0) (by omega) (by omega) (osW.sub [] rfl (sBJ5_isLatin1_aae02_17 N ))
    · refine os_iconst (i := 1) (v := (1 : Int32)) rfl (hJ5_isLatin1_aae02.at 5 rfl rfl) ?_
      refine os_goto (off := 4) (tgt := 18) rfl (hJ5_isLatin1_aae02.at 6 rfl rfl) ?_
      exact osW.widen (k' := 0) (n' := 0) (by omega) (by omega) (osW.sub [] rfl (sBJ5_isLatin1_aae02_18 N (1 : Int32)))
-- BJ0_coder_7d493
def qBJ0_coder_7d493_14 (N : Nat) (k0 : Int32) : osM Int32 := osretB k0
def qBJ0_coder_7d493 (N : Nat) (l0 : Nat) : osM Int32 := osite ((1 : Int32) = 0) (qBJ0_coder_7d493_14 N (1 : Int32)) (osbind (osscod l0) fun x1 => qBJ0_coder_7d493_14 N x1)
set_option maxRecDepth 100000 in
set_option maxHeartbeats 4000000 in
theorem sBJ0_coder_7d493_14 (N : Nat) (k0 : Int32) : osW (osFinM (fun r : Int32 => some (.int r)) 0 0) yJ0_coder_7d493 cJ0_coder_7d493 1 (some .byte) [] { frames := 0, cells := 0, slots := 0, locals := 0 } (0) (0) 14 [] [.int k0] (qBJ0_coder_7d493_14 N k0) := by
  unfold qBJ0_coder_7d493_14
  exact os_bret (by omega) (by omega) (hJ0_coder_7d493.at 6 rfl rfl).1
set_option maxRecDepth 100000 in
set_option maxHeartbeats 4000000 in
theorem sBJ0_coder_7d493 (N : Nat) (l0 : Nat) : osMet yJ0_coder_7d493 cJ0_coder_7d493 1 (some .byte) 0 0 0 0 (fun r : Int32 => some (.int r)) [.ref l0] (qBJ0_coder_7d493 N l0) := by
  refine osMet.of plJ0 (Nat.le_of_ble_eq_true rfl) (osW.rw (lv2 := [(0, .ref l0)]) ?_ rfl rfl rfl)
  unfold qBJ0_coder_7d493
  refine os_compact wd503 (hJ0_coder_7d493.at 0 rfl rfl) ?_
  refine os_if_eq (off := 10) (tgt := 13) rfl (hJ0_coder_7d493.at 1 rfl rfl) ?_ ?_
  · refine os_iconst (i := 1) (v := (1 : Int32)) rfl (hJ0_coder_7d493.at 5 rfl rfl) ?_
    exact osW.widen (k' := 0) (n' := 0) (by omega) (by omega) (osW.sub [] rfl (sBJ0_coder_7d493_14 N (1 : Int32)))
  · refine os_aload_n (i := 0) (q := 0) (v := l0) 0 rfl rfl (hJ0_coder_7d493.at 2 rfl rfl) ?_
    refine os_scod wd1033 fJ0_15 (hJ0_coder_7d493.at 3 rfl rfl) (fun x1 => ?_)
    refine os_goto (off := 4) (tgt := 14) rfl (hJ0_coder_7d493.at 4 rfl rfl) ?_
    exact osW.widen (k' := 0) (n' := 0) (by omega) (by omega) (osW.sub [] rfl (sBJ0_coder_7d493_14 N x1))
-- BJ0_isLatin1_aae02
def qBJ0_isLatin1_aae02_18 (N : Nat) (k0 : Int32) : osM Int32 := osretZ k0
def qBJ0_isLatin1_aae02_17 (N : Nat) : osM Int32 := qBJ0_isLatin1_aae02_18 N (0 : Int32)
def qBJ0_isLatin1_aae02 (N : Nat) (l0 : Nat) : osM Int32 := osite ((1 : Int32) = 0) (qBJ0_isLatin1_aae02_17 N ) (osbind (osscod l0) fun x1 => osite (x1 = 0) (qBJ0_isLatin1_aae02_18 N (1 : Int32)) (qBJ0_isLatin1_aae02_17 N ))
set_option maxRecDepth 100000 in
set_option maxHeartbeats 4000000 in
theorem sBJ0_isLatin1_aae02_18 (N : Nat) (k0 : Int32) : osW (osFinM (fun r : Int32 => some (.int r)) 0 0) yJ0_isLatin1_aae02 cJ0_isLatin1_aae02 1 (some .boolean) [] { frames := 0, cells := 0, slots := 0, locals := 0 } (0) (0) 18 [] [.int k0] (qBJ0_isLatin1_aae02_18 N k0) := by
  unfold qBJ0_isLatin1_aae02_18
  exact os_zret (by omega) (by omega) (hJ0_isLatin1_aae02.at 8 rfl rfl).1
set_option maxRecDepth 100000 in
set_option maxHeartbeats 4000000 in
theorem sBJ0_isLatin1_aae02_17 (N : Nat) : osW (osFinM (fun r : Int32 => some (.int r)) 0 0) yJ0_isLatin1_aae02 cJ0_isLatin1_aae02 1 (some .boolean) [] { frames := 0, cells := 0, slots := 0, locals := 0 } (0) (0) 17 [] [] (qBJ0_isLatin1_aae02_17 N) := by
  unfold qBJ0_isLatin1_aae02_17
  refine os_iconst (i := 0) (v := (0 : Int32)) rfl (hJ0_isLatin1_aae02.at 7 rfl rfl) ?_
  exact osW.widen (k' := 0) (n' := 0) (by omega) (by omega) (osW.sub [] rfl (sBJ0_isLatin1_aae02_18 N (0 : Int32)))
set_option maxRecDepth 100000 in
set_option maxHeartbeats 4000000 in
theorem sBJ0_isLatin1_aae02 (N : Nat) (l0 : Nat) : osMet yJ0_isLatin1_aae02 cJ0_isLatin1_aae02 1 (some .boolean) 0 0 0 0 (fun r : Int32 => some (.int r)) [.ref l0] (qBJ0_isLatin1_aae02 N l0) := by
  refine osMet.of plJ0 (Nat.le_of_ble_eq_true rfl) (osW.rw (lv2 := [(0, .ref l0)]) ?_ rfl rfl rfl)
  unfold qBJ0_isLatin1_aae02
  refine os_compact wd503 (hJ0_isLatin1_aae02.at 0 rfl rfl) ?_
  refine os_if_eq (off := 14) (tgt := 17) rfl (hJ0_isLatin1_aae02.at 1 rfl rfl) ?_ ?_
  · exact osW.widen (k' := 0) (n' := 0) (by omega) (by omega) (osW.sub [] rfl (sBJ0_isLatin1_aae02_17 N ))
  · refine os_aload_n (i := 0) (q := 0) (v := l0) 0 rfl rfl (hJ0_isLatin1_aae02.at 2 rfl rfl) ?_
    refine os_scod wd1033 fJ0_15 (hJ0_isLatin1_aae02.at 3 rfl rfl) (fun x1 => ?_)
    refine os_if_ne (off := 7) (tgt := 17) rfl (hJ0_isLatin1_aae02.at 4 rfl rfl) ?_ ?_
    · exact osW.widen (k' := 0) (n' := 0) (by omega) (by omega) (osW.sub [] rfl (sBJ0_isLatin1_aae02_17 N ))
    · refine os_iconst (i := 1) (v := (1 : Int32)) rfl (hJ0_isLatin1_aae02.at 5 rfl rfl) ?_
      refine os_goto (off := 4) (tgt := 18) rfl (hJ0_isLatin1_aae02.at 6 rfl rfl) ?_
      exact osW.widen (k' := 0) (n' := 0) (by omega) (by omega) (osW.sub [] rfl (sBJ0_isLatin1_aae02_18 N (1 : Int32)))
-- BJ4_init_da8c8
def qBJ4_init_da8c8 (N : Nat) (l0 : Nat) : osM Unit := osbind (qBJ5_init_d00df N l0 (16 : Int32)) fun _ => osret ()
set_option maxRecDepth 100000 in
set_option maxHeartbeats 4000000 in
theorem sBJ4_init_da8c8 (N : Nat) (l0 : Nat) : osMet yJ4_init_da8c8 cJ4_init_da8c8 1 none 2 41 1 1200 (fun _ : Unit => none) [.ref l0] (qBJ4_init_da8c8 N l0) := by
  refine osMet.of plJ4 (Nat.le_of_ble_eq_true rfl) (osW.rw (lv2 := [(0, .ref l0)]) ?_ rfl rfl rfl)
  unfold qBJ4_init_da8c8
  refine os_aload_n (i := 0) (q := 0) (v := l0) 0 rfl rfl (hJ4_init_da8c8.at 0 rfl rfl) ?_
  refine os_bipush (i := 16) (v := (16 : Int32)) rfl (hJ4_init_da8c8.at 1 rfl rfl) ?_
  refine os_callI (b := l0) (As := [.int (16 : Int32)]) (st := []) (st' := (fun _ => [])) mdJ5_init_d00df rfl wd839 wd840 (sBJ5_init_d00df N l0 (16 : Int32)) rfl rfl (fun _ => rfl) (Nat.le_of_ble_eq_true rfl) (Nat.le_of_ble_eq_true rfl) (Nat.le_of_ble_eq_true rfl) rfl (by show _ ≤ 1; omega) rfl (by show _ ≤ 1200; omega) (hJ4_init_da8c8.at 2 rfl rfl) (fun _ => ?_)
  exact os_vret (by omega) (by omega) (hJ4_init_da8c8.at 3 rfl rfl).1
-- BJ4_length_8abf5
def qBJ4_length_8abf5 (N : Nat) (l0 : Nat) : osM Int32 := osbind (osrecv [9] l0 (qBJ5_length_8abf5 N l0)) fun x1 => osret x1
set_option maxRecDepth 100000 in
set_option maxHeartbeats 4000000 in
theorem sBJ4_length_8abf5 (N : Nat) (l0 : Nat) : osMet yJ4_length_8abf5 cJ4_length_8abf5 1 (some .int) 1 20 0 0 (fun r : Int32 => some (.int r)) [.ref l0] (qBJ4_length_8abf5 N l0) := by
  refine osMet.of plJ4 (Nat.le_of_ble_eq_true rfl) (osW.rw (lv2 := [(0, .ref l0)]) ?_ rfl rfl rfl)
  unfold qBJ4_length_8abf5
  refine os_aload_n (i := 0) (q := 0) (v := l0) 0 rfl rfl (hJ4_length_8abf5.at 0 rfl rfl) ?_
  refine os_callSU (cis := [9]) (b := l0) (As := []) (st := []) (st' := (fun r => .int r :: [])) mdJ5_length_8abf5 wd1010 wd1006 wd863 wd1005 (by decide) (sBJ5_length_8abf5 N l0 ) rfl rfl (fun _ => rfl) (Nat.le_of_ble_eq_true rfl) (Nat.le_of_ble_eq_true rfl) (Nat.le_of_ble_eq_true rfl) rfl (by show _ ≤ 0; omega) rfl (by show _ ≤ 0; omega) (hJ4_length_8abf5.at 1 rfl rfl) (fun x1 => ?_)
  exact os_iret (by omega) (by omega) (hJ4_length_8abf5.at 2 rfl rfl).1
-- BJ1_charAt_3b067
def qBJ1_charAt_3b067 (N : Nat) (l0 : Nat) (l1 : Int32) : osM Int32 := osbind (osblen l0) fun x1 => osbind (qJ0_checkIndex_df160 N l1 x1) fun _ => osbind (osbld l0 l1) fun x2 => osretC (((x2 &&& (255 : Int32)).toUInt32 % 65536).toInt32)
set_option maxRecDepth 100000 in
set_option maxHeartbeats 4000000 in
theorem sBJ1_charAt_3b067 (N : Nat) (l0 : Nat) (l1 : Int32) : osMet yJ1_charAt_3b067 cJ1_charAt_3b067 2 (some .char) 2 43 0 0 (fun r : Int32 => some (.int r)) [.ref l0, .int l1] (qBJ1_charAt_3b067 N l0 l1) := by
  refine osMet.of plJ1 (Nat.le_of_ble_eq_true rfl) (osW.rw (lv2 := [(0, .ref l0), (1, .int l1)]) ?_ rfl rfl rfl)
  unfold qBJ1_charAt_3b067
  refine os_iload_n (i := 1) (q := 1) (v := l1) 1 rfl rfl (hJ1_charAt_3b067.at 0 rfl rfl) ?_
  refine os_aload_n (i := 0) (q := 0) (v := l0) 0 rfl rfl (hJ1_charAt_3b067.at 1 rfl rfl) ?_
  refine os_blen (hJ1_charAt_3b067.at 2 rfl rfl) (fun x1 => ?_)
  refine os_callS (As := [.int l1, .int x1]) (st := []) (st' := (fun _ => [])) mdJ0_checkIndex_df160 wd516 wd517 (sJ0_checkIndex_df160 N l1 x1) rfl rfl (fun _ => rfl) (Nat.le_of_ble_eq_true rfl) (Nat.le_of_ble_eq_true rfl) (Nat.le_of_ble_eq_true rfl) rfl (by show _ ≤ 0; omega) rfl (by show _ ≤ 0; omega) (hJ1_charAt_3b067.at 3 rfl rfl) (fun _ => ?_)
  refine os_aload_n (i := 0) (q := 0) (v := l0) 0 rfl rfl (hJ1_charAt_3b067.at 4 rfl rfl) ?_
  refine os_iload_n (i := 1) (q := 1) (v := l1) 1 rfl rfl (hJ1_charAt_3b067.at 5 rfl rfl) ?_
  refine os_bld (hJ1_charAt_3b067.at 6 rfl rfl) (fun x2 => ?_)
  refine os_sipush (i := 255) (v := (255 : Int32)) rfl (hJ1_charAt_3b067.at 7 rfl rfl) ?_
  refine os_iand (hJ1_charAt_3b067.at 8 rfl rfl) ?_
  refine os_i2c (hJ1_charAt_3b067.at 9 rfl rfl) ?_
  exact os_cret (by omega) (by omega) (hJ1_charAt_3b067.at 10 rfl rfl).1
-- BJ1_canEncode_fc78d
def qBJ1_canEncode_fc78d_12 (N : Nat) (k0 : Int32) : osM Int32 := osretZ k0
def qBJ1_canEncode_fc78d (N : Nat) (l0 : Int32) : osM Int32 := osite ((255 : Int32) < l0) (qBJ1_canEncode_fc78d_12 N (0 : Int32)) (qBJ1_canEncode_fc78d_12 N (1 : Int32))
set_option maxRecDepth 100000 in
set_option maxHeartbeats 4000000 in
theorem sBJ1_canEncode_fc78d_12 (N : Nat) (k0 : Int32) : osW (osFinM (fun r : Int32 => some (.int r)) 0 0) yJ1_canEncode_fc78d cJ1_canEncode_fc78d 1 (some .boolean) [] { frames := 0, cells := 0, slots := 0, locals := 0 } (0) (0) 12 [] [.int k0] (qBJ1_canEncode_fc78d_12 N k0) := by
  unfold qBJ1_canEncode_fc78d_12
  exact os_zret (by omega) (by omega) (hJ1_canEncode_fc78d.at 6 rfl rfl).1
set_option maxRecDepth 100000 in
set_option maxHeartbeats 4000000 in
theorem sBJ1_canEncode_fc78d (N : Nat) (l0 : Int32) : osMet yJ1_canEncode_fc78d cJ1_canEncode_fc78d 1 (some .boolean) 0 0 0 0 (fun r : Int32 => some (.int r)) [.int l0] (qBJ1_canEncode_fc78d N l0) := by
  refine osMet.of plJ1 (Nat.le_of_ble_eq_true rfl) (osW.rw (lv2 := [(0, .int l0)]) ?_ rfl rfl rfl)
  unfold qBJ1_canEncode_fc78d
  refine os_iload_n (i := 0) (q := 0) (v := l0) 0 rfl rfl (hJ1_canEncode_fc78d.at 0 rfl rfl) ?_
  refine os_sipush (i := 255) (v := (255 : Int32)) rfl (hJ1_canEncode_fc78d.at 1 rfl rfl) ?_
  refine os_icmp_gt (off := 7) (tgt := 11) rfl (hJ1_canEncode_fc78d.at 2 rfl rfl) ?_ ?_
  · refine os_iconst (i := 0) (v := (0 : Int32)) rfl (hJ1_canEncode_fc78d.at 5 rfl rfl) ?_
    exact osW.widen (k' := 0) (n' := 0) (by omega) (by omega) (osW.sub [] rfl (sBJ1_canEncode_fc78d_12 N (0 : Int32)))
  · refine os_iconst (i := 1) (v := (1 : Int32)) rfl (hJ1_canEncode_fc78d.at 3 rfl rfl) ?_
    refine os_goto (off := 4) (tgt := 12) rfl (hJ1_canEncode_fc78d.at 4 rfl rfl) ?_
    exact osW.widen (k' := 0) (n' := 0) (by omega) (by omega) (osW.sub [] rfl (sBJ1_canEncode_fc78d_12 N (1 : Int32)))
-- BJ7_copyOf_9075b
def qBJ7_copyOf_9075b (N : Nat) (l0 : Nat) (l1 : Int32) : osM Nat := osbind (oslen l0) fun x1 => osite (l1 = x1) (osno) (osbind (osnewB 1200 l1) fun x2 => osbind (oslen l0) fun x3 => osbind (osbcopy l0 (0 : Int32) x2 (0 : Int32) (osmin x3 l1)) fun _ => osret x2)
set_option maxRecDepth 100000 in
set_option maxHeartbeats 4000000 in
theorem sBJ7_copyOf_9075b (N : Nat) (l0 : Nat) (l1 : Int32) : osMet yJ7_copyOf_9075b cJ7_copyOf_9075b 3 (some (.array .byte)) 1 60 1 1200 (fun r : Nat => some (.ref r)) [.ref l0, .int l1] (qBJ7_copyOf_9075b N l0 l1) := by
  refine osMet.of plJ7 (Nat.le_of_ble_eq_true rfl) (osW.rw (lv2 := [(0, .ref l0), (1, .int l1)]) ?_ rfl rfl rfl)
  unfold qBJ7_copyOf_9075b
  refine os_iload_n (i := 1) (q := 1) (v := l1) 1 rfl rfl (hJ7_copyOf_9075b.at 0 rfl rfl) ?_
  refine os_aload_n (i := 0) (q := 0) (v := l0) 0 rfl rfl (hJ7_copyOf_9075b.at 1 rfl rfl) ?_
  refine os_arraylength (hJ7_copyOf_9075b.at 2 rfl rfl) (fun x1 => ?_)
  refine os_icmp_ne (off := 11) (tgt := 14) rfl (hJ7_copyOf_9075b.at 3 rfl rfl) ?_ ?_
  · refine os_iload_n (i := 1) (q := 1) (v := l1) 1 rfl rfl (hJ7_copyOf_9075b.at 8 rfl rfl) ?_
    refine os_newB (B9 := 1200) wd103 (by show _ ≤ 1; omega) (by show _ ≤ 1200; omega) (hJ7_copyOf_9075b.at 9 rfl rfl) (fun x2 => ?_)
    refine os_astore_n (i := 2) (q := 2) rfl (lv' := [(2, .ref x2), (0, .ref l0), (1, .int l1)]) (Nat.le_of_ble_eq_true rfl) rfl (hJ7_copyOf_9075b.at 10 rfl rfl) ?_
    refine os_aload_n (i := 0) (q := 0) (v := l0) 1 rfl rfl (hJ7_copyOf_9075b.at 11 rfl rfl) ?_
    refine os_iconst (i := 0) (v := (0 : Int32)) rfl (hJ7_copyOf_9075b.at 12 rfl rfl) ?_
    refine os_aload_n (i := 2) (q := 2) (v := x2) 0 rfl rfl (hJ7_copyOf_9075b.at 13 rfl rfl) ?_
    refine os_iconst (i := 0) (v := (0 : Int32)) rfl (hJ7_copyOf_9075b.at 14 rfl rfl) ?_
    refine os_aload_n (i := 0) (q := 0) (v := l0) 1 rfl rfl (hJ7_copyOf_9075b.at 15 rfl rfl) ?_
    refine os_arraylength (hJ7_copyOf_9075b.at 16 rfl rfl) (fun x3 => ?_)
    refine os_iload_n (i := 1) (q := 1) (v := l1) 2 rfl rfl (hJ7_copyOf_9075b.at 17 rfl rfl) ?_
    refine os_min wd907 wd655 wd68 wmin (Nat.le_of_ble_eq_true rfl) (Nat.le_of_ble_eq_true rfl) (Nat.le_of_ble_eq_true rfl) (by show _ ≤ 1; omega) (by show _ ≤ 1200; omega) (hJ7_copyOf_9075b.at 18 rfl rfl) ?_
    refine os_bcopy wd908 wd910 wd909 wd70 (Nat.le_of_ble_eq_true rfl) (Nat.le_of_ble_eq_true rfl) (Nat.le_of_ble_eq_true rfl) (hJ7_copyOf_9075b.at 19 rfl rfl) ?_
    refine os_aload_n (i := 2) (q := 2) (v := x2) 0 rfl rfl (hJ7_copyOf_9075b.at 20 rfl rfl) ?_
    exact os_aret (Or.inr ⟨_, rfl⟩) (by omega) (by omega) (hJ7_copyOf_9075b.at 21 rfl rfl).1
  · refine os_aload_n (i := 0) (q := 0) (v := l0) 0 rfl rfl (hJ7_copyOf_9075b.at 4 rfl rfl) ?_
    exact os_no rfl
-- BJ7_checkLength_df160
def qBJ7_checkLength_df160 (N : Nat) (l0 : Int32) (l1 : Int32) : osM Unit := osite (l0 ≤ l1) (osret ()) (osno)
set_option maxRecDepth 100000 in
set_option maxHeartbeats 4000000 in
theorem sBJ7_checkLength_df160 (N : Nat) (l0 : Int32) (l1 : Int32) : osMet yJ7_checkLength_df160 cJ7_checkLength_df160 2 none 0 0 0 0 (fun _ : Unit => none) [.int l0, .int l1] (qBJ7_checkLength_df160 N l0 l1) := by
  refine osMet.of plJ7 (Nat.le_of_ble_eq_true rfl) (osW.rw (lv2 := [(0, .int l0), (1, .int l1)]) ?_ rfl rfl rfl)
  unfold qBJ7_checkLength_df160
  refine os_iload_n (i := 1) (q := 1) (v := l1) 1 rfl rfl (hJ7_checkLength_df160.at 0 rfl rfl) ?_
  refine os_iload_n (i := 0) (q := 0) (v := l0) 0 rfl rfl (hJ7_checkLength_df160.at 1 rfl rfl) ?_
  refine os_icmp_ge (off := 35) (tgt := 37) rfl (hJ7_checkLength_df160.at 2 rfl rfl) ?_ ?_
  · exact os_vret (by omega) (by omega) (hJ7_checkLength_df160.at 17 rfl rfl).1
  · exact os_no rfl
-- BJ7_copyOfRangeByte_39247
def qBJ7_copyOfRangeByte_39247 (N : Nat) (l0 : Nat) (l1 : Int32) (l2 : Int32) : osM Nat := osbind (qBJ7_checkLength_df160 N l1 l2) fun _ => osbind (osnewB 1200 (l2 - l1)) fun x1 => osbind (oslen l0) fun x2 => osbind (osbcopy l0 l1 x1 (0 : Int32) (osmin (x2 - l1) (l2 - l1))) fun _ => osret x1
set_option maxRecDepth 100000 in
set_option maxHeartbeats 4000000 in
theorem sBJ7_copyOfRangeByte_39247 (N : Nat) (l0 : Nat) (l1 : Int32) (l2 : Int32) : osMet yJ7_copyOfRangeByte_39247 cJ7_copyOfRangeByte_39247 5 (some (.array .byte)) 1 60 1 1200 (fun r : Nat => some (.ref r)) [.ref l0, .int l1, .int l2] (qBJ7_copyOfRangeByte_39247 N l0 l1 l2) := by
  refine osMet.of plJ7 (Nat.le_of_ble_eq_true rfl) (osW.rw (lv2 := [(0, .ref l0), (1, .int l1), (2, .int l2)]) ?_ rfl rfl rfl)
  unfold qBJ7_copyOfRangeByte_39247
  refine os_iload_n (i := 1) (q := 1) (v := l1) 1 rfl rfl (hJ7_copyOfRangeByte_39247.at 0 rfl rfl) ?_
  refine os_iload_n (i := 2) (q := 2) (v := l2) 2 rfl rfl (hJ7_copyOfRangeByte_39247.at 1 rfl rfl) ?_
  refine os_callS (As := [.int l1, .int l2]) (st := []) (st' := (fun _ => [])) mdJ7_checkLength_df160 wd1019 wd1020 (sBJ7_checkLength_df160 N l1 l2) rfl rfl (fun _ => rfl) (Nat.le_of_ble_eq_true rfl) (Nat.le_of_ble_eq_true rfl) (Nat.le_of_ble_eq_true rfl) rfl (by show _ ≤ 1; omega) rfl (by show _ ≤ 1200; omega) (hJ7_copyOfRangeByte_39247.at 2 rfl rfl) (fun _ => ?_)
  refine os_iload_n (i := 2) (q := 2) (v := l2) 2 rfl rfl (hJ7_copyOfRangeByte_39247.at 3 rfl rfl) ?_
  refine os_iload_n (i := 1) (q := 1) (v := l1) 1 rfl rfl (hJ7_copyOfRangeByte_39247.at 4 rfl rfl) ?_
  refine os_isub (hJ7_copyOfRangeByte_39247.at 5 rfl rfl) ?_
  refine os_istore_n (i := 3) (q := 3) rfl (lv' := [(3, .int (l2 - l1)), (0, .ref l0), (1, .int l1), (2, .int l2)]) (Nat.le_of_ble_eq_true rfl) rfl (hJ7_copyOfRangeByte_39247.at 6 rfl rfl) ?_
  refine os_iload_n (i := 3) (q := 3) (v := (l2 - l1)) 0 rfl rfl (hJ7_copyOfRangeByte_39247.at 7 rfl rfl) ?_
  refine os_newB (B9 := 1200) wd103 (by show _ ≤ 1; omega) (by show _ ≤ 1200; omega) (hJ7_copyOfRangeByte_39247.at 8 rfl rfl) (fun x1 => ?_)
  refine os_astore (i := 4) (lv' := [(4, .ref x1), (3, .int (l2 - l1)), (0, .ref l0), (1, .int l1), (2, .int l2)]) (Nat.le_of_ble_eq_true rfl) rfl (hJ7_copyOfRangeByte_39247.at 9 rfl rfl) ?_
  refine os_aload_n (i := 0) (q := 0) (v := l0) 2 rfl rfl (hJ7_copyOfRangeByte_39247.at 10 rfl rfl) ?_
  refine os_iload_n (i := 1) (q := 1) (v := l1) 3 rfl rfl (hJ7_copyOfRangeByte_39247.at 11 rfl rfl) ?_
  refine os_aload (v := x1) 0 rfl (hJ7_copyOfRangeByte_39247.at 12 rfl rfl) ?_
  refine os_iconst (i := 0) (v := (0 : Int32)) rfl (hJ7_copyOfRangeByte_39247.at 13 rfl rfl) ?_
  refine os_aload_n (i := 0) (q := 0) (v := l0) 2 rfl rfl (hJ7_copyOfRangeByte_39247.at 14 rfl rfl) ?_
  refine os_arraylength (hJ7_copyOfRangeByte_39247.at 15 rfl rfl) (fun x2 => ?_)
  refine os_iload_n (i := 1) (q := 1) (v := l1) 3 rfl rfl (hJ7_copyOfRangeByte_39247.at 16 rfl rfl) ?_
  refine os_isub (hJ7_copyOfRangeByte_39247.at 17 rfl rfl) ?_
  refine os_iload_n (i := 3) (q := 3) (v := (l2 - l1)) 1 rfl rfl (hJ7_copyOfRangeByte_39247.at 18 rfl rfl) ?_
  refine os_min wd907 wd655 wd68 wmin (Nat.le_of_ble_eq_true rfl) (Nat.le_of_ble_eq_true rfl) (Nat.le_of_ble_eq_true rfl) (by show _ ≤ 1; omega) (by show _ ≤ 1200; omega) (hJ7_copyOfRangeByte_39247.at 19 rfl rfl) ?_
  refine os_bcopy wd908 wd910 wd909 wd70 (Nat.le_of_ble_eq_true rfl) (Nat.le_of_ble_eq_true rfl) (Nat.le_of_ble_eq_true rfl) (hJ7_copyOfRangeByte_39247.at 20 rfl rfl) ?_
  refine os_aload (v := x1) 0 rfl (hJ7_copyOfRangeByte_39247.at 21 rfl rfl) ?_
  exact os_aret (Or.inr ⟨_, rfl⟩) (by omega) (by omega) (hJ7_copyOfRangeByte_39247.at 22 rfl rfl).1
-- BJ8_newLength_cabcc
def qBJ8_newLength_cabcc_21 (N : Nat) (l0 : Int32) (l1 : Int32) : osM Int32 := osno
def qBJ8_newLength_cabcc (N : Nat) (l0 : Int32) (l1 : Int32) (l2 : Int32) : osM Int32 := osite ((l0 + (osmax l1 l2)) ≤ (0 : Int32)) (qBJ8_newLength_cabcc_21 N l0 l1) (osite ((2147483639 : Int32) < (l0 + (osmax l1 l2))) (qBJ8_newLength_cabcc_21 N l0 l1) (osret (l0 + (osmax l1 l2))))
set_option maxRecDepth 100000 in
set_option maxHeartbeats 4000000 in
theorem sBJ8_newLength_cabcc_21 (N : Nat) (l0 : Int32) (l1 : Int32) : osW (osFinM (fun r : Int32 => some (.int r)) 0 0) yJ8_newLength_cabcc cJ8_newLength_cabcc 4 (some .int) [] { frames := 1, cells := 0, slots := 0, locals := 21 } (0) (0) 21 [(0, .int l0), (1, .int l1)] [] (qBJ8_newLength_cabcc_21 N l0 l1) := by
  unfold qBJ8_newLength_cabcc_21
  refine os_iload_n (i := 0) (q := 0) (v := l0) 0 rfl rfl (hJ8_newLength_cabcc.at 14 rfl rfl) ?_
  refine os_iload_n (i := 1) (q := 1) (v := l1) 1 rfl rfl (hJ8_newLength_cabcc.at 15 rfl rfl) ?_
  exact os_no rfl
set_option maxRecDepth 100000 in
set_option maxHeartbeats 4000000 in
theorem sBJ8_newLength_cabcc (N : Nat) (l0 : Int32) (l1 : Int32) (l2 : Int32) : osMet yJ8_newLength_cabcc cJ8_newLength_cabcc 4 (some .int) 1 21 0 0 (fun r : Int32 => some (.int r)) [.int l0, .int l1, .int l2] (qBJ8_newLength_cabcc N l0 l1 l2) := by
  refine osMet.of plJ8 (Nat.le_of_ble_eq_true rfl) (osW.rw (lv2 := [(0, .int l0), (1, .int l1), (2, .int l2)]) ?_ rfl rfl rfl)
  unfold qBJ8_newLength_cabcc
  refine os_iload_n (i := 0) (q := 0) (v := l0) 0 rfl rfl (hJ8_newLength_cabcc.at 0 rfl rfl) ?_
  refine os_iload_n (i := 1) (q := 1) (v := l1) 1 rfl rfl (hJ8_newLength_cabcc.at 1 rfl rfl) ?_
  refine os_iload_n (i := 2) (q := 2) (v := l2) 2 rfl rfl (hJ8_newLength_cabcc.at 2 rfl rfl) ?_
  refine os_max wd889 wd890 wd68 wmax (Nat.le_of_ble_eq_true rfl) (Nat.le_of_ble_eq_true rfl) (Nat.le_of_ble_eq_true rfl) (by show _ ≤ 0; omega) (by show _ ≤ 0; omega) (hJ8_newLength_cabcc.at 3 rfl rfl) ?_
  refine os_iadd (hJ8_newLength_cabcc.at 4 rfl rfl) ?_
  refine os_istore_n (i := 3) (q := 3) rfl (lv' := [(3, .int (l0 + (osmax l1 l2))), (0, .int l0), (1, .int l1), (2, .int l2)]) (Nat.le_of_ble_eq_true rfl) rfl (hJ8_newLength_cabcc.at 5 rfl rfl) ?_
  refine os_iconst (i := 0) (v := (0 : Int32)) rfl (hJ8_newLength_cabcc.at 6 rfl rfl) ?_
  refine os_iload_n (i := 3) (q := 3) (v := (l0 + (osmax l1 l2))) 0 rfl rfl (hJ8_newLength_cabcc.at 7 rfl rfl) ?_
  refine os_icmp_ge (off := 11) (tgt := 21) rfl (hJ8_newLength_cabcc.at 8 rfl rfl) ?_ ?_
  · exact osW.widen (k' := 0) (n' := 0) (by omega) (by omega) (osW.sub [1, 2] rfl (sBJ8_newLength_cabcc_21 N l0 l1))
  · refine os_iload_n (i := 3) (q := 3) (v := (l0 + (osmax l1 l2))) 0 rfl rfl (hJ8_newLength_cabcc.at 9 rfl rfl) ?_
    refine os_ldc (v := (2147483639 : Int32)) wd892 (hJ8_newLength_cabcc.at 10 rfl rfl) ?_
    refine os_icmp_gt (off := 5) (tgt := 21) rfl (hJ8_newLength_cabcc.at 11 rfl rfl) ?_ ?_
    · exact osW.widen (k' := 0) (n' := 0) (by omega) (by omega) (osW.sub [1, 2] rfl (sBJ8_newLength_cabcc_21 N l0 l1))
    · refine os_iload_n (i := 3) (q := 3) (v := (l0 + (osmax l1 l2))) 0 rfl rfl (hJ8_newLength_cabcc.at 12 rfl rfl) ?_
      exact os_iret (by omega) (by omega) (hJ8_newLength_cabcc.at 13 rfl rfl).1
-- BJ5_newCapacity_0f7a4
def qBJ5_newCapacity_0f7a4 (N : Nat) (l0 : Nat) (l1 : Int32) : osM Int32 := osbind (osgR [9] 0 l0) fun x1 => osbind (oslen x1) fun x2 => osbind (osgI [9] 1 l0) fun x3 => osbind (osgI [9] 1 l0) fun x4 => osbind (qBJ8_newLength_cabcc N x2 ((osshl l1 x3) - x2) (x2 + (osshl (2 : Int32) x4))) fun x5 => osite (x5 = (2147483647 : Int32)) (osno) (osbind (osgI [9] 1 l0) fun x6 => osret (osshr x5 x6))
set_option maxRecDepth 100000 in
set_option maxHeartbeats 4000000 in
theorem sBJ5_newCapacity_0f7a4 (N : Nat) (l0 : Nat) (l1 : Int32) : osMet yJ5_newCapacity_0f7a4 cJ5_newCapacity_0f7a4 6 (some .int) 2 44 0 0 (fun r : Int32 => some (.int r)) [.ref l0, .int l1] (qBJ5_newCapacity_0f7a4 N l0 l1) := by
  refine osMet.of plJ5 (Nat.le_of_ble_eq_true rfl) (osW.rw (lv2 := [(0, .ref l0), (1, .int l1)]) ?_ rfl rfl rfl)
  unfold qBJ5_newCapacity_0f7a4
  refine os_aload_n (i := 0) (q := 0) (v := l0) 0 rfl rfl (hJ5_newCapacity_0f7a4.at 0 rfl rfl) ?_
  refine os_getR fJ5_15 (hJ5_newCapacity_0f7a4.at 1 rfl rfl) (fun x1 => ?_)
  refine os_arraylength (hJ5_newCapacity_0f7a4.at 2 rfl rfl) (fun x2 => ?_)
  refine os_istore_n (i := 2) (q := 2) rfl (lv' := [(2, .int x2), (0, .ref l0), (1, .int l1)]) (Nat.le_of_ble_eq_true rfl) rfl (hJ5_newCapacity_0f7a4.at 3 rfl rfl) ?_
  refine os_iload_n (i := 1) (q := 1) (v := l1) 2 rfl rfl (hJ5_newCapacity_0f7a4.at 4 rfl rfl) ?_
  refine os_aload_n (i := 0) (q := 0) (v := l0) 1 rfl rfl (hJ5_newCapacity_0f7a4.at 5 rfl rfl) ?_
  refine os_getI fJ5_22 (hJ5_newCapacity_0f7a4.at 6 rfl rfl) (fun x3 => ?_)
  refine os_ishl (hJ5_newCapacity_0f7a4.at 7 rfl rfl) ?_
  refine os_istore_n (i := 3) (q := 3) rfl (lv' := [(3, .int (osshl l1 x3)), (2, .int x2), (0, .ref l0), (1, .int l1)]) (Nat.le_of_ble_eq_true rfl) rfl (hJ5_newCapacity_0f7a4.at 8 rfl rfl) ?_
  refine os_iload_n (i := 3) (q := 3) (v := (osshl l1 x3)) 0 rfl rfl (hJ5_newCapacity_0f7a4.at 9 rfl rfl) ?_
  refine os_iload_n (i := 2) (q := 2) (v := x2) 1 rfl rfl (hJ5_newCapacity_0f7a4.at 10 rfl rfl) ?_
  refine os_isub (hJ5_newCapacity_0f7a4.at 11 rfl rfl) ?_
  refine os_istore (i := 4) (lv' := [(4, .int ((osshl l1 x3) - x2)), (3, .int (osshl l1 x3)), (2, .int x2), (0, .ref l0), (1, .int l1)]) (Nat.le_of_ble_eq_true rfl) rfl (hJ5_newCapacity_0f7a4.at 12 rfl rfl) ?_
  refine os_iload_n (i := 2) (q := 2) (v := x2) 2 rfl rfl (hJ5_newCapacity_0f7a4.at 13 rfl rfl) ?_
  refine os_iload (v := ((osshl l1 x3) - x2)) 0 rfl (hJ5_newCapacity_0f7a4.at 14 rfl rfl) ?_
  refine os_iload_n (i := 2) (q := 2) (v := x2) 2 rfl rfl (hJ5_newCapacity_0f7a4.at 15 rfl rfl) ?_
  refine os_iconst (i := 2) (v := (2 : Int32)) rfl (hJ5_newCapacity_0f7a4.at 16 rfl rfl) ?_
  refine os_aload_n (i := 0) (q := 0) (v := l0) 3 rfl rfl (hJ5_newCapacity_0f7a4.at 17 rfl rfl) ?_
  refine os_getI fJ5_22 (hJ5_newCapacity_0f7a4.at 18 rfl rfl) (fun x4 => ?_)
  refine os_ishl (hJ5_newCapacity_0f7a4.at 19 rfl rfl) ?_
  refine os_iadd (hJ5_newCapacity_0f7a4.at 20 rfl rfl) ?_
  refine os_callS (As := [.int x2, .int ((osshl l1 x3) - x2), .int (x2 + (osshl (2 : Int32) x4))]) (st := []) (st' := (fun r => .int r :: [])) mdJ8_newLength_cabcc wd886 wd887 (sBJ8_newLength_cabcc N x2 ((osshl l1 x3) - x2) (x2 + (osshl (2 : Int32) x4))) rfl rfl (fun _ => rfl) (Nat.le_of_ble_eq_true rfl) (Nat.le_of_ble_eq_true rfl) (Nat.le_of_ble_eq_true rfl) rfl (by show _ ≤ 0; omega) rfl (by show _ ≤ 0; omega) (hJ5_newCapacity_0f7a4.at 21 rfl rfl) (fun x5 => ?_)
  refine os_istore (i := 5) (lv' := [(5, .int x5), (4, .int ((osshl l1 x3) - x2)), (3, .int (osshl l1 x3)), (2, .int x2), (0, .ref l0), (1, .int l1)]) (Nat.le_of_ble_eq_true rfl) rfl (hJ5_newCapacity_0f7a4.at 22 rfl rfl) ?_
  refine os_iload (v := x5) 0 rfl (hJ5_newCapacity_0f7a4.at 23 rfl rfl) ?_
  refine os_ldc (v := (2147483647 : Int32)) wd896 (hJ5_newCapacity_0f7a4.at 24 rfl rfl) ?_
  refine os_icmp_ne (off := 13) (tgt := 51) rfl (hJ5_newCapacity_0f7a4.at 25 rfl rfl) ?_ ?_
  · refine os_iload (v := x5) 0 rfl (hJ5_newCapacity_0f7a4.at 31 rfl rfl) ?_
    refine os_aload_n (i := 0) (q := 0) (v := l0) 4 rfl rfl (hJ5_newCapacity_0f7a4.at 32 rfl rfl) ?_
    refine os_getI fJ5_22 (hJ5_newCapacity_0f7a4.at 33 rfl rfl) (fun x6 => ?_)
    refine os_ishr (hJ5_newCapacity_0f7a4.at 34 rfl rfl) ?_
    exact os_iret (by omega) (by omega) (hJ5_newCapacity_0f7a4.at 35 rfl rfl).1
  · exact os_no rfl
-- BJ5_inflateIfNeededFor_a7421
def qBJ5_inflateIfNeededFor_a7421_21 (N : Nat) : osM Unit := osret ()
def qBJ5_inflateIfNeededFor_a7421 (N : Nat) (l0 : Nat) (l1 : Nat) : osM Unit := osite ((1 : Int32) = 0) (qBJ5_inflateIfNeededFor_a7421_21 N ) (osbind (osgI [9] 1 l0) fun x1 => osbind (osonstr l1 (qBJ0_coder_7d493 N l1)) fun x2 => osite (x1 = x2) (qBJ5_inflateIfNeededFor_a7421_21 N ) (osno))
set_option maxRecDepth 100000 in
set_option maxHeartbeats 4000000 in
theorem sBJ5_inflateIfNeededFor_a7421_21 (N : Nat) : osW (osFinM (fun _ : Unit => none) 0 0) yJ5_inflateIfNeededFor_a7421 cJ5_inflateIfNeededFor_a7421 2 none [] { frames := 1, cells := 0, slots := 0, locals := 20 } (0) (0) 21 [] [] (qBJ5_inflateIfNeededFor_a7421_21 N) := by
  unfold qBJ5_inflateIfNeededFor_a7421_21
  exact os_vret (by omega) (by omega) (hJ5_inflateIfNeededFor_a7421.at 9 rfl rfl).1
set_option maxRecDepth 100000 in
set_option maxHeartbeats 4000000 in
theorem sBJ5_inflateIfNeededFor_a7421 (N : Nat) (l0 : Nat) (l1 : Nat) : osMet yJ5_inflateIfNeededFor_a7421 cJ5_inflateIfNeededFor_a7421 2 none 1 20 0 0 (fun _ : Unit => none) [.ref l0, .ref l1] (qBJ5_inflateIfNeededFor_a7421 N l0 l1) := by
  refine osMet.of plJ5 (Nat.le_of_ble_eq_true rfl) (osW.rw (lv2 := [(0, .ref l0), (1, .ref l1)]) ?_ rfl rfl rfl)
  unfold qBJ5_inflateIfNeededFor_a7421
  refine os_compact wd843 (hJ5_inflateIfNeededFor_a7421.at 0 rfl rfl) ?_
  refine os_if_eq (off := 18) (tgt := 21) rfl (hJ5_inflateIfNeededFor_a7421.at 1 rfl rfl) ?_ ?_
  · exact osW.widen (k' := 0) (n' := 0) (by omega) (by omega) (osW.sub [] rfl (sBJ5_inflateIfNeededFor_a7421_21 N ))
  · refine os_aload_n (i := 0) (q := 0) (v := l0) 0 rfl rfl (hJ5_inflateIfNeededFor_a7421.at 2 rfl rfl) ?_
    refine os_getI fJ5_22 (hJ5_inflateIfNeededFor_a7421.at 3 rfl rfl) (fun x1 => ?_)
    refine os_aload_n (i := 1) (q := 1) (v := l1) 1 rfl rfl (hJ5_inflateIfNeededFor_a7421.at 4 rfl rfl) ?_
    refine os_callStr (b := l1) (As := []) (st := [.int x1]) (st' := (fun r => .int r :: [.int x1])) wd501 mdJ0_coder_7d493 wd940 wd500 (sBJ0_coder_7d493 N l1 ) rfl rfl (fun _ => rfl) (Nat.le_of_ble_eq_true rfl) (Nat.le_of_ble_eq_true rfl) (Nat.le_of_ble_eq_true rfl) rfl (by show _ ≤ 0; omega) rfl (by show _ ≤ 0; omega) (hJ5_inflateIfNeededFor_a7421.at 5 rfl rfl) (fun x2 => ?_)
    refine os_icmp_eq (off := 7) (tgt := 21) rfl (hJ5_inflateIfNeededFor_a7421.at 6 rfl rfl) ?_ ?_
    · exact osW.widen (k' := 0) (n' := 0) (by omega) (by omega) (osW.sub [] rfl (sBJ5_inflateIfNeededFor_a7421_21 N ))
    · refine os_aload_n (i := 0) (q := 0) (v := l0) 0 rfl rfl (hJ5_inflateIfNeededFor_a7421.at 7 rfl rfl) ?_
      exact os_no rfl
-- BJ0_length_8abf5
def qBJ0_length_8abf5 (N : Nat) (l0 : Nat) : osM Int32 := osbind (ossval l0) fun x1 => osbind (osblen x1) fun x2 => osbind (osonstr l0 (qBJ0_coder_7d493 N l0)) fun x3 => osret (osshr x2 x3)
set_option maxRecDepth 100000 in
set_option maxHeartbeats 4000000 in
theorem sBJ0_length_8abf5 (N : Nat) (l0 : Nat) : osMet yJ0_length_8abf5 cJ0_length_8abf5 1 (some .int) 1 20 0 0 (fun r : Int32 => some (.int r)) [.ref l0] (qBJ0_length_8abf5 N l0) := by
  refine osMet.of plJ0 (Nat.le_of_ble_eq_true rfl) (osW.rw (lv2 := [(0, .ref l0)]) ?_ rfl rfl rfl)
  unfold qBJ0_length_8abf5
  refine os_aload_n (i := 0) (q := 0) (v := l0) 0 rfl rfl (hJ0_length_8abf5.at 0 rfl rfl) ?_
  refine os_sval wd1032 fJ0_9 (hJ0_length_8abf5.at 1 rfl rfl) (fun x1 => ?_)
  refine os_blen (hJ0_length_8abf5.at 2 rfl rfl) (fun x2 => ?_)
  refine os_aload_n (i := 0) (q := 0) (v := l0) 0 rfl rfl (hJ0_length_8abf5.at 3 rfl rfl) ?_
  refine os_callStr (b := l0) (As := []) (st := [.int x2]) (st' := (fun r => .int r :: [.int x2])) wd501 mdJ0_coder_7d493 wd499 wd500 (sBJ0_coder_7d493 N l0 ) rfl rfl (fun _ => rfl) (Nat.le_of_ble_eq_true rfl) (Nat.le_of_ble_eq_true rfl) (Nat.le_of_ble_eq_true rfl) rfl (by show _ ≤ 0; omega) rfl (by show _ ≤ 0; omega) (hJ0_length_8abf5.at 4 rfl rfl) (fun x3 => ?_)
  refine os_ishr (hJ0_length_8abf5.at 5 rfl rfl) ?_
  exact os_iret (by omega) (by omega) (hJ0_length_8abf5.at 6 rfl rfl).1
-- BJ0_charAt_5068e
def qBJ0_charAt_5068e (N : Nat) (l0 : Nat) (l1 : Int32) : osM Int32 := osbind (osonstr l0 (qBJ0_isLatin1_aae02 N l0)) fun x1 => osite (x1 = 0) (osbind (ossval l0) fun x2 => osno) (osbind (ossval l0) fun x3 => osbind (qBJ1_charAt_3b067 N x3 l1) fun x4 => osretC x4)
set_option maxRecDepth 100000 in
set_option maxHeartbeats 4000000 in
theorem sBJ0_charAt_5068e (N : Nat) (l0 : Nat) (l1 : Int32) : osMet yJ0_charAt_5068e cJ0_charAt_5068e 2 (some .char) 3 64 0 0 (fun r : Int32 => some (.int r)) [.ref l0, .int l1] (qBJ0_charAt_5068e N l0 l1) := by
  refine osMet.of plJ0 (Nat.le_of_ble_eq_true rfl) (osW.rw (lv2 := [(0, .ref l0), (1, .int l1)]) ?_ rfl rfl rfl)
  unfold qBJ0_charAt_5068e
  refine os_aload_n (i := 0) (q := 0) (v := l0) 0 rfl rfl (hJ0_charAt_5068e.at 0 rfl rfl) ?_
  refine os_callStr (b := l0) (As := []) (st := []) (st' := (fun r => .int r :: [])) wd511 mdJ0_isLatin1_aae02 wd509 wd510 (sBJ0_isLatin1_aae02 N l0 ) rfl rfl (fun _ => rfl) (Nat.le_of_ble_eq_true rfl) (Nat.le_of_ble_eq_true rfl) (Nat.le_of_ble_eq_true rfl) rfl (by show _ ≤ 0; omega) rfl (by show _ ≤ 0; omega) (hJ0_charAt_5068e.at 1 rfl rfl) (fun x1 => ?_)
  refine os_if_eq (off := 12) (tgt := 16) rfl (hJ0_charAt_5068e.at 2 rfl rfl) ?_ ?_
  · refine os_aload_n (i := 0) (q := 0) (v := l0) 0 rfl rfl (hJ0_charAt_5068e.at 8 rfl rfl) ?_
    refine os_sval wd1032 fJ0_9 (hJ0_charAt_5068e.at 9 rfl rfl) (fun x2 => ?_)
    refine os_iload_n (i := 1) (q := 1) (v := l1) 1 rfl rfl (hJ0_charAt_5068e.at 10 rfl rfl) ?_
    exact os_no rfl
  · refine os_aload_n (i := 0) (q := 0) (v := l0) 0 rfl rfl (hJ0_charAt_5068e.at 3 rfl rfl) ?_
    refine os_sval wd1032 fJ0_9 (hJ0_charAt_5068e.at 4 rfl rfl) (fun x3 => ?_)
    refine os_iload_n (i := 1) (q := 1) (v := l1) 1 rfl rfl (hJ0_charAt_5068e.at 5 rfl rfl) ?_
    refine os_callS (As := [.ref x3, .int l1]) (st := []) (st' := (fun r => .int r :: [])) mdJ1_charAt_3b067 wd513 wd514 (sBJ1_charAt_3b067 N x3 l1) rfl rfl (fun _ => rfl) (Nat.le_of_ble_eq_true rfl) (Nat.le_of_ble_eq_true rfl) (Nat.le_of_ble_eq_true rfl) rfl (by show _ ≤ 0; omega) rfl (by show _ ≤ 0; omega) (hJ0_charAt_5068e.at 6 rfl rfl) (fun x4 => ?_)
    exact os_cret (by omega) (by omega) (hJ0_charAt_5068e.at 7 rfl rfl).1
-- BJ0_getBytes_840e7
def qBJ0_getBytes_840e7 (N : Nat) (l0 : Nat) (l1 : Nat) (l2 : Int32) (l3 : Int32) : osM Unit := osbind (osonstr l0 (qBJ0_coder_7d493 N l0)) fun x1 => osite (x1 = l3) (osbind (ossval l0) fun x5 => osbind (ossval l0) fun x6 => osbind (osblen x6) fun x7 => osbind (osbcopy x5 (0 : Int32) l1 (osshl l2 l3) x7) fun _ => osret ()) (osbind (ossval l0) fun x2 => osbind (ossval l0) fun x3 => osbind (osblen x3) fun x4 => osno)
set_option maxRecDepth 100000 in
set_option maxHeartbeats 4000000 in
theorem sBJ0_getBytes_840e7 (N : Nat) (l0 : Nat) (l1 : Nat) (l2 : Int32) (l3 : Int32) : osMet yJ0_getBytes_840e7 cJ0_getBytes_840e7 4 none 1 60 0 0 (fun _ : Unit => none) [.ref l0, .ref l1, .int l2, .int l3] (qBJ0_getBytes_840e7 N l0 l1 l2 l3) := by
  refine osMet.of plJ0 (Nat.le_of_ble_eq_true rfl) (osW.rw (lv2 := [(0, .ref l0), (1, .ref l1), (2, .int l2), (3, .int l3)]) ?_ rfl rfl rfl)
  unfold qBJ0_getBytes_840e7
  refine os_aload_n (i := 0) (q := 0) (v := l0) 0 rfl rfl (hJ0_getBytes_840e7.at 0 rfl rfl) ?_
  refine os_callStr (b := l0) (As := []) (st := []) (st' := (fun r => .int r :: [])) wd501 mdJ0_coder_7d493 wd499 wd500 (sBJ0_coder_7d493 N l0 ) rfl rfl (fun _ => rfl) (Nat.le_of_ble_eq_true rfl) (Nat.le_of_ble_eq_true rfl) (Nat.le_of_ble_eq_true rfl) rfl (by show _ ≤ 0; omega) rfl (by show _ ≤ 0; omega) (hJ0_getBytes_840e7.at 1 rfl rfl) (fun x1 => ?_)
  refine os_iload_n (i := 3) (q := 3) (v := l3) 3 rfl rfl (hJ0_getBytes_840e7.at 2 rfl rfl) ?_
  refine os_icmp_ne (off := 23) (tgt := 28) rfl (hJ0_getBytes_840e7.at 3 rfl rfl) ?_ ?_
  · refine os_aload_n (i := 0) (q := 0) (v := l0) 0 rfl rfl (hJ0_getBytes_840e7.at 16 rfl rfl) ?_
    refine os_sval wd1032 fJ0_9 (hJ0_getBytes_840e7.at 17 rfl rfl) (fun x2 => ?_)
    refine os_iconst (i := 0) (v := (0 : Int32)) rfl (hJ0_getBytes_840e7.at 18 rfl rfl) ?_
    refine os_aload_n (i := 1) (q := 1) (v := l1) 1 rfl rfl (hJ0_getBytes_840e7.at 19 rfl rfl) ?_
    refine os_iload_n (i := 2) (q := 2) (v := l2) 2 rfl rfl (hJ0_getBytes_840e7.at 20 rfl rfl) ?_
    refine os_aload_n (i := 0) (q := 0) (v := l0) 0 rfl rfl (hJ0_getBytes_840e7.at 21 rfl rfl) ?_
    refine os_sval wd1032 fJ0_9 (hJ0_getBytes_840e7.at 22 rfl rfl) (fun x3 => ?_)
    refine os_blen (hJ0_getBytes_840e7.at 23 rfl rfl) (fun x4 => ?_)
    exact os_no rfl
  · refine os_aload_n (i := 0) (q := 0) (v := l0) 0 rfl rfl (hJ0_getBytes_840e7.at 4 rfl rfl) ?_
    refine os_sval wd1032 fJ0_9 (hJ0_getBytes_840e7.at 5 rfl rfl) (fun x5 => ?_)
    refine os_iconst (i := 0) (v := (0 : Int32)) rfl (hJ0_getBytes_840e7.at 6 rfl rfl) ?_
    refine os_aload_n (i := 1) (q := 1) (v := l1) 1 rfl rfl (hJ0_getBytes_840e7.at 7 rfl rfl) ?_
    refine os_iload_n (i := 2) (q := 2) (v := l2) 2 rfl rfl (hJ0_getBytes_840e7.at 8 rfl rfl) ?_
    refine os_iload_n (i := 3) (q := 3) (v := l3) 3 rfl rfl (hJ0_getBytes_840e7.at 9 rfl rfl) ?_
    refine os_ishl (hJ0_getBytes_840e7.at 10 rfl rfl) ?_
    refine os_aload_n (i := 0) (q := 0) (v := l0) 0 rfl rfl (hJ0_getBytes_840e7.at 11 rfl rfl) ?_
    refine os_sval wd1032 fJ0_9 (hJ0_getBytes_840e7.at 12 rfl rfl) (fun x6 => ?_)
    refine os_blen (hJ0_getBytes_840e7.at 13 rfl rfl) (fun x7 => ?_)
    refine os_bcopy wd964 wd910 wd909 wd70 (Nat.le_of_ble_eq_true rfl) (Nat.le_of_ble_eq_true rfl) (Nat.le_of_ble_eq_true rfl) (hJ0_getBytes_840e7.at 14 rfl rfl) ?_
    refine os_goto (off := 18) (tgt := 43) rfl (hJ0_getBytes_840e7.at 15 rfl rfl) ?_
    exact os_vret (by omega) (by omega) (hJ0_getBytes_840e7.at 25 rfl rfl).1
-- BJ7_copyOfRange_39247
def qBJ7_copyOfRange_39247_10 (N : Nat) (l0 : Nat) (l1 : Int32) (l2 : Int32) : osM Nat := osbind (qBJ7_copyOfRangeByte_39247 N l0 l1 l2) fun x1 => osret x1
def qBJ7_copyOfRange_39247 (N : Nat) (l0 : Nat) (l1 : Int32) (l2 : Int32) : osM Nat := osite (l1 = 0) (osbind (oslen l0) fun x1 => osite (l2 = x1) (osbind (osbclone 1200 l0) fun x2 => osbind (osbcast x2) fun _ => osret x2) (qBJ7_copyOfRange_39247_10 N l0 l1 l2)) (qBJ7_copyOfRange_39247_10 N l0 l1 l2)
set_option maxRecDepth 100000 in
set_option maxHeartbeats 4000000 in
theorem sBJ7_copyOfRange_39247_10 (N : Nat) (l0 : Nat) (l1 : Int32) (l2 : Int32) : osW (osFinM (fun r : Nat => some (.ref r)) 1 1200) yJ7_copyOfRange_39247 cJ7_copyOfRange_39247 3 (some (.array .byte)) [] { frames := 2, cells := 1, slots := 1200, locals := 84 } (0) (0) 10 [(0, .ref l0), (1, .int l1), (2, .int l2)] [] (qBJ7_copyOfRange_39247_10 N l0 l1 l2) := by
  unfold qBJ7_copyOfRange_39247_10
  refine os_aload_n (i := 0) (q := 0) (v := l0) 0 rfl rfl (hJ7_copyOfRange_39247.at 6 rfl rfl) ?_
  refine os_iload_n (i := 1) (q := 1) (v := l1) 1 rfl rfl (hJ7_copyOfRange_39247.at 7 rfl rfl) ?_
  refine os_iload_n (i := 2) (q := 2) (v := l2) 2 rfl rfl (hJ7_copyOfRange_39247.at 8 rfl rfl) ?_
  refine os_callS (As := [.ref l0, .int l1, .int l2]) (st := []) (st' := (fun r => .ref r :: [])) mdJ7_copyOfRangeByte_39247 wd1016 wd1017 (sBJ7_copyOfRangeByte_39247 N l0 l1 l2) rfl rfl (fun _ => rfl) (Nat.le_of_ble_eq_true rfl) (Nat.le_of_ble_eq_true rfl) (Nat.le_of_ble_eq_true rfl) rfl (by show _ ≤ 1; omega) rfl (by show _ ≤ 1200; omega) (hJ7_copyOfRange_39247.at 9 rfl rfl) (fun x1 => ?_)
  exact os_aret (Or.inr ⟨_, rfl⟩) (by omega) (by omega) (hJ7_copyOfRange_39247.at 10 rfl rfl).1
set_option maxRecDepth 100000 in
set_option maxHeartbeats 4000000 in
theorem sBJ7_copyOfRange_39247 (N : Nat) (l0 : Nat) (l1 : Int32) (l2 : Int32) : osMet yJ7_copyOfRange_39247 cJ7_copyOfRange_39247 3 (some (.array .byte)) 2 84 1 1200 (fun r : Nat => some (.ref r)) [.ref l0, .int l1, .int l2] (qBJ7_copyOfRange_39247 N l0 l1 l2) := by
  refine osMet.of plJ7 (Nat.le_of_ble_eq_true rfl) (osW.rw (lv2 := [(0, .ref l0), (1, .int l1), (2, .int l2)]) ?_ rfl rfl rfl)
  unfold qBJ7_copyOfRange_39247
  refine os_iload_n (i := 1) (q := 1) (v := l1) 1 rfl rfl (hJ7_copyOfRange_39247.at 0 rfl rfl) ?_
  refine os_if_ne (off := 9) (tgt := 10) rfl (hJ7_copyOfRange_39247.at 1 rfl rfl) ?_ ?_
  · exact osW.widen (k' := 0) (n' := 0) (by omega) (by omega) (osW.sub [0, 1, 2] rfl (sBJ7_copyOfRange_39247_10 N l0 l1 l2))
  · refine os_iload_n (i := 2) (q := 2) (v := l2) 2 rfl rfl (hJ7_copyOfRange_39247.at 2 rfl rfl) ?_
    refine os_aload_n (i := 0) (q := 0) (v := l0) 0 rfl rfl (hJ7_copyOfRange_39247.at 3 rfl rfl) ?_
    refine os_arraylength (hJ7_copyOfRange_39247.at 4 rfl rfl) (fun x1 => ?_)
    refine os_icmp_eq (off := 10) (tgt := 17) rfl (hJ7_copyOfRange_39247.at 5 rfl rfl) ?_ ?_
    · refine os_aload_n (i := 0) (q := 0) (v := l0) 0 rfl rfl (hJ7_copyOfRange_39247.at 11 rfl rfl) ?_
      refine os_bclone (B9 := 1200) wd900 wd901 wd902 wd903 wd904 wd905 (Nat.le_of_ble_eq_true rfl) (Nat.le_of_ble_eq_true rfl) (Nat.le_of_ble_eq_true rfl) (by show _ ≤ 1; omega) (by show _ ≤ 1200; omega) (hJ7_copyOfRange_39247.at 12 rfl rfl) (fun x2 => ?_)
      refine os_bcast wd906 (hJ7_copyOfRange_39247.at 13 rfl rfl) ?_
      exact os_aret (Or.inr ⟨_, rfl⟩) (by omega) (by omega) (hJ7_copyOfRange_39247.at 14 rfl rfl).1
    · exact osW.widen (k' := 0) (n' := 0) (by omega) (by omega) (osW.sub [0, 1, 2] rfl (sBJ7_copyOfRange_39247_10 N l0 l1 l2))
-- BJ5_ensureCapacityInternal_d00df
def qBJ5_ensureCapacityInternal_d00df_38 (N : Nat) : osM Unit := osret ()
def qBJ5_ensureCapacityInternal_d00df (N : Nat) (l0 : Nat) (l1 : Int32) : osM Unit := osbind (osgR [9] 0 l0) fun x1 => osbind (oslen x1) fun x2 => osbind (osgI [9] 1 l0) fun x3 => osite ((l1 - (osshr x2 x3)) ≤ 0) (qBJ5_ensureCapacityInternal_d00df_38 N ) (osbind (osgR [9] 0 l0) fun x4 => osbind (osrecv [9] l0 (qBJ5_newCapacity_0f7a4 N l0 l1)) fun x5 => osbind (osgI [9] 1 l0) fun x6 => osbind (qBJ7_copyOf_9075b N x4 (osshl x5 x6)) fun x7 => osbind (osput [9] 0 l0 (.ref x7)) fun _ => qBJ5_ensureCapacityInternal_d00df_38 N )
set_option maxRecDepth 100000 in
set_option maxHeartbeats 4000000 in
theorem sBJ5_ensureCapacityInternal_d00df_38 (N : Nat) : osW (osFinM (fun _ : Unit => none) 1 1200) yJ5_ensureCapacityInternal_d00df cJ5_ensureCapacityInternal_d00df 3 none [] { frames := 3, cells := 1, slots := 1200, locals := 82 } (1) (1200) 38 [] [] (qBJ5_ensureCapacityInternal_d00df_38 N) := by
  unfold qBJ5_ensureCapacityInternal_d00df_38
  exact os_vret (by omega) (by omega) (hJ5_ensureCapacityInternal_d00df.at 22 rfl rfl).1
set_option maxRecDepth 100000 in
set_option maxHeartbeats 4000000 in
theorem sBJ5_ensureCapacityInternal_d00df (N : Nat) (l0 : Nat) (l1 : Int32) : osMet yJ5_ensureCapacityInternal_d00df cJ5_ensureCapacityInternal_d00df 3 none 3 82 1 1200 (fun _ : Unit => none) [.ref l0, .int l1] (qBJ5_ensureCapacityInternal_d00df N l0 l1) := by
  refine osMet.of plJ5 (Nat.le_of_ble_eq_true rfl) (osW.rw (lv2 := [(0, .ref l0), (1, .int l1)]) ?_ rfl rfl rfl)
  unfold qBJ5_ensureCapacityInternal_d00df
  refine os_aload_n (i := 0) (q := 0) (v := l0) 0 rfl rfl (hJ5_ensureCapacityInternal_d00df.at 0 rfl rfl) ?_
  refine os_getR fJ5_15 (hJ5_ensureCapacityInternal_d00df.at 1 rfl rfl) (fun x1 => ?_)
  refine os_arraylength (hJ5_ensureCapacityInternal_d00df.at 2 rfl rfl) (fun x2 => ?_)
  refine os_aload_n (i := 0) (q := 0) (v := l0) 0 rfl rfl (hJ5_ensureCapacityInternal_d00df.at 3 rfl rfl) ?_
  refine os_getI fJ5_22 (hJ5_ensureCapacityInternal_d00df.at 4 rfl rfl) (fun x3 => ?_)
  refine os_ishr (hJ5_ensureCapacityInternal_d00df.at 5 rfl rfl) ?_
  refine os_istore_n (i := 2) (q := 2) rfl (lv' := [(2, .int (osshr x2 x3)), (0, .ref l0), (1, .int l1)]) (Nat.le_of_ble_eq_true rfl) rfl (hJ5_ensureCapacityInternal_d00df.at 6 rfl rfl) ?_
  refine os_iload_n (i := 1) (q := 1) (v := l1) 2 rfl rfl (hJ5_ensureCapacityInternal_d00df.at 7 rfl rfl) ?_
  refine os_iload_n (i := 2) (q := 2) (v := (osshr x2 x3)) 0 rfl rfl (hJ5_ensureCapacityInternal_d00df.at 8 rfl rfl) ?_
  refine os_isub (hJ5_ensureCapacityInternal_d00df.at 9 rfl rfl) ?_
  refine os_if_le (off := 24) (tgt := 38) rfl (hJ5_ensureCapacityInternal_d00df.at 10 rfl rfl) ?_ ?_
  · exact osW.widen (k' := 1) (n' := 1200) (by omega) (by omega) (osW.sub [] rfl (sBJ5_ensureCapacityInternal_d00df_38 N ))
  · refine os_aload_n (i := 0) (q := 0) (v := l0) 1 rfl rfl (hJ5_ensureCapacityInternal_d00df.at 11 rfl rfl) ?_
    refine os_aload_n (i := 0) (q := 0) (v := l0) 1 rfl rfl (hJ5_ensureCapacityInternal_d00df.at 12 rfl rfl) ?_
    refine os_getR fJ5_15 (hJ5_ensureCapacityInternal_d00df.at 13 rfl rfl) (fun x4 => ?_)
    refine os_aload_n (i := 0) (q := 0) (v := l0) 1 rfl rfl (hJ5_ensureCapacityInternal_d00df.at 14 rfl rfl) ?_
    refine os_iload_n (i := 1) (q := 1) (v := l1) 2 rfl rfl (hJ5_ensureCapacityInternal_d00df.at 15 rfl rfl) ?_
    refine os_callV (cis := [9]) (b := l0) (As := [.int l1]) (st := [.ref x4, .ref l0]) (st' := (fun r => .int r :: [.ref x4, .ref l0])) sl9_J5_newCapacity_0f7a4_J5_newCapacity_0f7a4 mdJ5_newCapacity_0f7a4 wd882 wd884 (sBJ5_newCapacity_0f7a4 N l0 l1) rfl rfl (fun _ => rfl) (Nat.le_of_ble_eq_true rfl) (Nat.le_of_ble_eq_true rfl) (Nat.le_of_ble_eq_true rfl) rfl (by show _ ≤ 1; omega) rfl (by show _ ≤ 1200; omega) (hJ5_ensureCapacityInternal_d00df.at 16 rfl rfl) (fun x5 => ?_)
    refine os_aload_n (i := 0) (q := 0) (v := l0) 1 rfl rfl (hJ5_ensureCapacityInternal_d00df.at 17 rfl rfl) ?_
    refine os_getI fJ5_22 (hJ5_ensureCapacityInternal_d00df.at 18 rfl rfl) (fun x6 => ?_)
    refine os_ishl (hJ5_ensureCapacityInternal_d00df.at 19 rfl rfl) ?_
    refine os_callS (As := [.ref x4, .int (osshl x5 x6)]) (st := [.ref l0]) (st' := (fun r => .ref r :: [.ref l0])) mdJ7_copyOf_9075b wd897 wd898 (sBJ7_copyOf_9075b N x4 (osshl x5 x6)) rfl rfl (fun _ => rfl) (Nat.le_of_ble_eq_true rfl) (Nat.le_of_ble_eq_true rfl) (Nat.le_of_ble_eq_true rfl) rfl (by show _ ≤ 1; omega) rfl (by show _ ≤ 1200; omega) (hJ5_ensureCapacityInternal_d00df.at 20 rfl rfl) (fun x7 => ?_)
    refine os_put fJ5_15 rfl rfl (hJ5_ensureCapacityInternal_d00df.at 21 rfl rfl) ?_
    exact osW.widen (k' := 1) (n' := 1200) (by omega) (by omega) (osW.sub [] rfl (sBJ5_ensureCapacityInternal_d00df_38 N ))
-- BJ5_append_3fe6f
def qBJ5_append_3fe6f_45 (N : Nat) (l0 : Nat) (l1 : Int32) : osM Nat := osbind (osrecv [9] l0 (qBJ5_isLatin1_aae02 N l0)) fun x1 => osite (x1 = 0) (osbind (osgR [9] 0 l0) fun x2 => osbind (osgI [9] 3 l0) fun x3 => osbind (osput [9] 3 l0 (.int (x3 + (1 : Int32)))) fun _ => osno) (osno)
def qBJ5_append_3fe6f (N : Nat) (l0 : Nat) (l1 : Int32) : osM Nat := osbind (osgI [9] 3 l0) fun x1 => osbind (osrecv [9] l0 (qBJ5_ensureCapacityInternal_d00df N l0 (x1 + (1 : Int32)))) fun _ => osbind (osrecv [9] l0 (qBJ5_isLatin1_aae02 N l0)) fun x2 => osite (x2 = 0) (qBJ5_append_3fe6f_45 N l0 l1) (osbind (qBJ1_canEncode_fc78d N l1) fun x3 => osite (x3 = 0) (qBJ5_append_3fe6f_45 N l0 l1) (osbind (osgR [9] 0 l0) fun x4 => osbind (osgI [9] 3 l0) fun x5 => osbind (osput [9] 3 l0 (.int (x5 + (1 : Int32)))) fun _ => osbind (ossI 1 x4 x5 (vp_nar .byte (l1.toInt8.toInt32))) fun _ => osret l0))
set_option maxRecDepth 100000 in
set_option maxHeartbeats 4000000 in
theorem sBJ5_append_3fe6f_45 (N : Nat) (l0 : Nat) (l1 : Int32) : osW (osFinM (fun r : Nat => some (.ref r)) 1 1200) yJ5_append_3fe6f cJ5_append_3fe6f 2 (some (.object "java/lang/AbstractStringBuilder")) [] { frames := 4, cells := 1, slots := 1200, locals := 104 } (1) (1200) 45 [(0, .ref l0), (1, .int l1)] [] (qBJ5_append_3fe6f_45 N l0 l1) := by
  unfold qBJ5_append_3fe6f_45
  refine os_aload_n (i := 0) (q := 0) (v := l0) 0 rfl rfl (hJ5_append_3fe6f.at 25 rfl rfl) ?_
  refine os_callV (cis := [9]) (b := l0) (As := []) (st := []) (st' := (fun r => .int r :: [])) sl9_J5_isLatin1_aae02_J5_isLatin1_aae02 mdJ5_isLatin1_aae02 wd911 wd912 (sBJ5_isLatin1_aae02 N l0 ) rfl rfl (fun _ => rfl) (Nat.le_of_ble_eq_true rfl) (Nat.le_of_ble_eq_true rfl) (Nat.le_of_ble_eq_true rfl) rfl (by show _ ≤ 1; omega) rfl (by show _ ≤ 1200; omega) (hJ5_append_3fe6f.at 26 rfl rfl) (fun x1 => ?_)
  refine os_if_eq (off := 7) (tgt := 56) rfl (hJ5_append_3fe6f.at 27 rfl rfl) ?_ ?_
  · refine os_aload_n (i := 0) (q := 0) (v := l0) 0 rfl rfl (hJ5_append_3fe6f.at 30 rfl rfl) ?_
    refine os_getR fJ5_15 (hJ5_append_3fe6f.at 31 rfl rfl) (fun x2 => ?_)
    refine os_aload_n (i := 0) (q := 0) (v := l0) 0 rfl rfl (hJ5_append_3fe6f.at 32 rfl rfl) ?_
    refine os_dup rfl (hJ5_append_3fe6f.at 33 rfl rfl) ?_
    refine os_getI fJ5_79 (hJ5_append_3fe6f.at 34 rfl rfl) (fun x3 => ?_)
    refine os_dup_x1 rfl rfl (hJ5_append_3fe6f.at 35 rfl rfl) ?_
    refine os_iconst (i := 1) (v := (1 : Int32)) rfl (hJ5_append_3fe6f.at 36 rfl rfl) ?_
    refine os_iadd (hJ5_append_3fe6f.at 37 rfl rfl) ?_
    refine os_put fJ5_79 rfl rfl (hJ5_append_3fe6f.at 38 rfl rfl) ?_
    refine os_iload_n (i := 1) (q := 1) (v := l1) 1 rfl rfl (hJ5_append_3fe6f.at 39 rfl rfl) ?_
    exact os_no rfl
  · refine os_aload_n (i := 0) (q := 0) (v := l0) 0 rfl rfl (hJ5_append_3fe6f.at 28 rfl rfl) ?_
    exact os_no rfl
set_option maxRecDepth 100000 in
set_option maxHeartbeats 4000000 in
theorem sBJ5_append_3fe6f (N : Nat) (l0 : Nat) (l1 : Int32) : osMet yJ5_append_3fe6f cJ5_append_3fe6f 2 (some (.object "java/lang/AbstractStringBuilder")) 4 104 1 1200 (fun r : Nat => some (.ref r)) [.ref l0, .int l1] (qBJ5_append_3fe6f N l0 l1) := by
  refine osMet.of plJ5 (Nat.le_of_ble_eq_true rfl) (osW.rw (lv2 := [(0, .ref l0), (1, .int l1)]) ?_ rfl rfl rfl)
  unfold qBJ5_append_3fe6f
  refine os_aload_n (i := 0) (q := 0) (v := l0) 0 rfl rfl (hJ5_append_3fe6f.at 0 rfl rfl) ?_
  refine os_aload_n (i := 0) (q := 0) (v := l0) 0 rfl rfl (hJ5_append_3fe6f.at 1 rfl rfl) ?_
  refine os_getI fJ5_79 (hJ5_append_3fe6f.at 2 rfl rfl) (fun x1 => ?_)
  refine os_iconst (i := 1) (v := (1 : Int32)) rfl (hJ5_append_3fe6f.at 3 rfl rfl) ?_
  refine os_iadd (hJ5_append_3fe6f.at 4 rfl rfl) ?_
  refine os_callV (cis := [9]) (b := l0) (As := [.int (x1 + (1 : Int32))]) (st := []) (st' := (fun _ => [])) sl9_J5_ensureCapacityInternal_d00df_J5_ensureCapacityInternal_d00df mdJ5_ensureCapacityInternal_d00df wd878 wd880 (sBJ5_ensureCapacityInternal_d00df N l0 (x1 + (1 : Int32))) rfl rfl (fun _ => rfl) (Nat.le_of_ble_eq_true rfl) (Nat.le_of_ble_eq_true rfl) (Nat.le_of_ble_eq_true rfl) rfl (by show _ ≤ 1; omega) rfl (by show _ ≤ 1200; omega) (hJ5_append_3fe6f.at 5 rfl rfl) (fun _ => ?_)
  refine os_aload_n (i := 0) (q := 0) (v := l0) 0 rfl rfl (hJ5_append_3fe6f.at 6 rfl rfl) ?_
  refine os_callV (cis := [9]) (b := l0) (As := []) (st := []) (st' := (fun r => .int r :: [])) sl9_J5_isLatin1_aae02_J5_isLatin1_aae02 mdJ5_isLatin1_aae02 wd911 wd912 (sBJ5_isLatin1_aae02 N l0 ) rfl rfl (fun _ => rfl) (Nat.le_of_ble_eq_true rfl) (Nat.le_of_ble_eq_true rfl) (Nat.le_of_ble_eq_true rfl) rfl (by show _ ≤ 1; omega) rfl (by show _ ≤ 1200; omega) (hJ5_append_3fe6f.at 7 rfl rfl) (fun x2 => ?_)
  refine os_if_eq (off := 31) (tgt := 45) rfl (hJ5_append_3fe6f.at 8 rfl rfl) ?_ ?_
  · exact osW.widen (k' := 1) (n' := 1200) (by omega) (by omega) (osW.sub [0, 1] rfl (sBJ5_append_3fe6f_45 N l0 l1))
  · refine os_iload_n (i := 1) (q := 1) (v := l1) 1 rfl rfl (hJ5_append_3fe6f.at 9 rfl rfl) ?_
    refine os_callS (As := [.int l1]) (st := []) (st' := (fun r => .int r :: [])) mdJ1_canEncode_fc78d wd973 wd974 (sBJ1_canEncode_fc78d N l1) rfl rfl (fun _ => rfl) (Nat.le_of_ble_eq_true rfl) (Nat.le_of_ble_eq_true rfl) (Nat.le_of_ble_eq_true rfl) rfl (by show _ ≤ 1; omega) rfl (by show _ ≤ 1200; omega) (hJ5_append_3fe6f.at 10 rfl rfl) (fun x3 => ?_)
    refine os_if_eq (off := 24) (tgt := 45) rfl (hJ5_append_3fe6f.at 11 rfl rfl) ?_ ?_
    · exact osW.widen (k' := 1) (n' := 1200) (by omega) (by omega) (osW.sub [0, 1] rfl (sBJ5_append_3fe6f_45 N l0 l1))
    · refine os_aload_n (i := 0) (q := 0) (v := l0) 0 rfl rfl (hJ5_append_3fe6f.at 12 rfl rfl) ?_
      refine os_getR fJ5_15 (hJ5_append_3fe6f.at 13 rfl rfl) (fun x4 => ?_)
      refine os_aload_n (i := 0) (q := 0) (v := l0) 0 rfl rfl (hJ5_append_3fe6f.at 14 rfl rfl) ?_
      refine os_dup rfl (hJ5_append_3fe6f.at 15 rfl rfl) ?_
      refine os_getI fJ5_79 (hJ5_append_3fe6f.at 16 rfl rfl) (fun x5 => ?_)
      refine os_dup_x1 rfl rfl (hJ5_append_3fe6f.at 17 rfl rfl) ?_
      refine os_iconst (i := 1) (v := (1 : Int32)) rfl (hJ5_append_3fe6f.at 18 rfl rfl) ?_
      refine os_iadd (hJ5_append_3fe6f.at 19 rfl rfl) ?_
      refine os_put fJ5_79 rfl rfl (hJ5_append_3fe6f.at 20 rfl rfl) ?_
      refine os_iload_n (i := 1) (q := 1) (v := l1) 1 rfl rfl (hJ5_append_3fe6f.at 21 rfl rfl) ?_
      refine os_i2b (hJ5_append_3fe6f.at 22 rfl rfl) ?_
      refine os_bastore (hJ5_append_3fe6f.at 23 rfl rfl) ?_
      refine os_goto (off := 33) (tgt := 75) rfl (hJ5_append_3fe6f.at 24 rfl rfl) ?_
      refine os_aload_n (i := 0) (q := 0) (v := l0) 0 rfl rfl (hJ5_append_3fe6f.at 41 rfl rfl) ?_
      exact os_aret (Or.inl ⟨_, rfl⟩) (by omega) (by omega) (hJ5_append_3fe6f.at 42 rfl rfl).1
-- BJ5_putStringAt_47b60
def qBJ5_putStringAt_47b60 (N : Nat) (l0 : Nat) (l1 : Int32) (l2 : Nat) : osM Unit := osbind (osrecv [9] l0 (qBJ5_inflateIfNeededFor_a7421 N l0 l2)) fun _ => osbind (osgR [9] 0 l0) fun x1 => osbind (osgI [9] 1 l0) fun x2 => osbind (osonstr l2 (qBJ0_getBytes_840e7 N l2 x1 l1 x2)) fun _ => osret ()
set_option maxRecDepth 100000 in
set_option maxHeartbeats 4000000 in
theorem sBJ5_putStringAt_47b60 (N : Nat) (l0 : Nat) (l1 : Int32) (l2 : Nat) : osMet yJ5_putStringAt_47b60 cJ5_putStringAt_47b60 3 none 2 83 0 0 (fun _ : Unit => none) [.ref l0, .int l1, .ref l2] (qBJ5_putStringAt_47b60 N l0 l1 l2) := by
  refine osMet.of plJ5 (Nat.le_of_ble_eq_true rfl) (osW.rw (lv2 := [(0, .ref l0), (1, .int l1), (2, .ref l2)]) ?_ rfl rfl rfl)
  unfold qBJ5_putStringAt_47b60
  refine os_aload_n (i := 0) (q := 0) (v := l0) 0 rfl rfl (hJ5_putStringAt_47b60.at 0 rfl rfl) ?_
  refine os_aload_n (i := 2) (q := 2) (v := l2) 2 rfl rfl (hJ5_putStringAt_47b60.at 1 rfl rfl) ?_
  refine os_callV (cis := [9]) (b := l0) (As := [.ref l2]) (st := []) (st' := (fun _ => [])) sl9_J5_inflateIfNeededFor_a7421_J5_inflateIfNeededFor_a7421 mdJ5_inflateIfNeededFor_a7421 wd936 wd938 (sBJ5_inflateIfNeededFor_a7421 N l0 l2) rfl rfl (fun _ => rfl) (Nat.le_of_ble_eq_true rfl) (Nat.le_of_ble_eq_true rfl) (Nat.le_of_ble_eq_true rfl) rfl (by show _ ≤ 0; omega) rfl (by show _ ≤ 0; omega) (hJ5_putStringAt_47b60.at 2 rfl rfl) (fun _ => ?_)
  refine os_aload_n (i := 2) (q := 2) (v := l2) 2 rfl rfl (hJ5_putStringAt_47b60.at 3 rfl rfl) ?_
  refine os_aload_n (i := 0) (q := 0) (v := l0) 0 rfl rfl (hJ5_putStringAt_47b60.at 4 rfl rfl) ?_
  refine os_getR fJ5_15 (hJ5_putStringAt_47b60.at 5 rfl rfl) (fun x1 => ?_)
  refine os_iload_n (i := 1) (q := 1) (v := l1) 1 rfl rfl (hJ5_putStringAt_47b60.at 6 rfl rfl) ?_
  refine os_aload_n (i := 0) (q := 0) (v := l0) 0 rfl rfl (hJ5_putStringAt_47b60.at 7 rfl rfl) ?_
  refine os_getI fJ5_22 (hJ5_putStringAt_47b60.at 8 rfl rfl) (fun x2 => ?_)
  refine os_callStr (b := l2) (As := [.ref x1, .int l1, .int x2]) (st := []) (st' := (fun _ => [])) wd962 mdJ0_getBytes_840e7 wd960 wd961 (sBJ0_getBytes_840e7 N l2 x1 l1 x2) rfl rfl (fun _ => rfl) (Nat.le_of_ble_eq_true rfl) (Nat.le_of_ble_eq_true rfl) (Nat.le_of_ble_eq_true rfl) rfl (by show _ ≤ 0; omega) rfl (by show _ ≤ 0; omega) (hJ5_putStringAt_47b60.at 9 rfl rfl) (fun _ => ?_)
  exact os_vret (by omega) (by omega) (hJ5_putStringAt_47b60.at 10 rfl rfl).1
-- BJ0_init_db425
def qBJ0_init_db425_97 (N : Nat) : osM Unit := osret ()
def qBJ0_init_db425_79 (N : Nat) (l0 : Nat) (l3 : Nat) (l4 : Int32) : osM Unit := osbind (osput [8] 1 l0 (.int (1 : Int32))) fun _ => osbind (qBJ7_copyOfRange_39247 N l3 (0 : Int32) (osshl l4 (1 : Int32))) fun x1 => osbind (osput [8] 0 l0 (.ref x1)) fun _ => qBJ0_init_db425_97 N 
def qBJ0_init_db425 (N : Nat) (l0 : Nat) (l1 : Nat) : osM Unit := osbind (osrecv [9] l1 (qBJ5_getValue_6d5f1 N l1)) fun x1 => osbind (osrecv [9] l1 (qBJ4_length_8abf5 N l1)) fun x2 => osbind (osrecv [9] l1 (qBJ5_isLatin1_aae02 N l1)) fun x3 => osite (x3 = 0) (osite ((1 : Int32) = 0) (qBJ0_init_db425_79 N l0 x1 x2) (osbind (osgI [9] 2 l1) fun x4 => osite (x4 = 0) (qBJ0_init_db425_79 N l0 x1 x2) (osno))) (osbind (osput [8] 1 l0 (.int (0 : Int32))) fun _ => osbind (qBJ7_copyOfRange_39247 N x1 (0 : Int32) x2) fun x5 => osbind (osput [8] 0 l0 (.ref x5)) fun _ => qBJ0_init_db425_97 N )
set_option maxRecDepth 100000 in
set_option maxHeartbeats 4000000 in
theorem sBJ0_init_db425_97 (N : Nat) : osW (osFinM (fun _ : Unit => none) 1 1200) yJ0_init_db425 cJ0_init_db425 5 none [] { frames := 3, cells := 1, slots := 1200, locals := 106 } (1) (1200) 97 [] [] (qBJ0_init_db425_97 N) := by
  unfold qBJ0_init_db425_97
  exact os_vret (by omega) (by omega) (hJ0_init_db425.at 50 rfl rfl).1
set_option maxRecDepth 100000 in
set_option maxHeartbeats 4000000 in
theorem sBJ0_init_db425_79 (N : Nat) (l0 : Nat) (l3 : Nat) (l4 : Int32) : osW (osFinM (fun _ : Unit => none) 1 1200) yJ0_init_db425 cJ0_init_db425 5 none [] { frames := 3, cells := 1, slots := 1200, locals := 106 } (0) (0) 79 [(0, .ref l0), (3, .ref l3), (4, .int l4)] [] (qBJ0_init_db425_79 N l0 l3 l4) := by
  unfold qBJ0_init_db425_79
  refine os_aload_n (i := 0) (q := 0) (v := l0) 0 rfl rfl (hJ0_init_db425.at 39 rfl rfl) ?_
  refine os_iconst (i := 1) (v := (1 : Int32)) rfl (hJ0_init_db425.at 40 rfl rfl) ?_
  refine os_putF fJ0_15 rfl (osHd1 rfl rfl) rfl rfl (hJ0_init_db425.at 41 rfl rfl) ?_
  refine os_aload_n (i := 0) (q := 0) (v := l0) 0 rfl rfl (hJ0_init_db425.at 42 rfl rfl) ?_
  refine os_aload_n (i := 3) (q := 3) (v := l3) 1 rfl rfl (hJ0_init_db425.at 43 rfl rfl) ?_
  refine os_iconst (i := 0) (v := (0 : Int32)) rfl (hJ0_init_db425.at 44 rfl rfl) ?_
  refine os_iload (v := l4) 2 rfl (hJ0_init_db425.at 45 rfl rfl) ?_
  refine os_iconst (i := 1) (v := (1 : Int32)) rfl (hJ0_init_db425.at 46 rfl rfl) ?_
  refine os_ishl (hJ0_init_db425.at 47 rfl rfl) ?_
  refine os_callS (As := [.ref l3, .int (0 : Int32), .int (osshl l4 (1 : Int32))]) (st := [.ref l0]) (st' := (fun r => .ref r :: [.ref l0])) mdJ7_copyOfRange_39247 wd1013 wd1014 (sBJ7_copyOfRange_39247 N l3 (0 : Int32) (osshl l4 (1 : Int32))) rfl rfl (fun _ => rfl) (Nat.le_of_ble_eq_true rfl) (Nat.le_of_ble_eq_true rfl) (Nat.le_of_ble_eq_true rfl) rfl (by show _ ≤ 1; omega) rfl (by show _ ≤ 1200; omega) (hJ0_init_db425.at 48 rfl rfl) (fun x1 => ?_)
  refine os_putF fJ0_9 rfl (osHd1 rfl rfl) rfl rfl (hJ0_init_db425.at 49 rfl rfl) ?_
  exact osW.widen (k' := 1) (n' := 1200) (by omega) (by omega) (osW.sub [] rfl (sBJ0_init_db425_97 N ))
set_option maxRecDepth 100000 in
set_option maxHeartbeats 4000000 in
theorem sBJ0_init_db425 (N : Nat) (l0 : Nat) (l1 : Nat) : osMet yJ0_init_db425 cJ0_init_db425 5 none 3 106 1 1200 (fun _ : Unit => none) [.ref l0, .ref l1, .null] (qBJ0_init_db425 N l0 l1) := by
  refine osMet.of plJ0 (Nat.le_of_ble_eq_true rfl) (osW.rw (lv2 := [(0, .ref l0), (1, .ref l1), (2, .null )]) ?_ rfl rfl rfl)
  unfold qBJ0_init_db425
  refine os_aload_n (i := 0) (q := 0) (v := l0) 0 rfl rfl (hJ0_init_db425.at 0 rfl rfl) ?_
  refine os_objInit wd998 wd88 wd89 (Nat.le_of_ble_eq_true rfl) (Nat.le_of_ble_eq_true rfl) (Nat.le_of_ble_eq_true rfl) (hJ0_init_db425.at 1 rfl rfl) ?_
  refine os_aload_n (i := 1) (q := 1) (v := l1) 1 rfl rfl (hJ0_init_db425.at 2 rfl rfl) ?_
  refine os_callV (cis := [9]) (b := l1) (As := []) (st := []) (st' := (fun r => .ref r :: [])) sl9_J5_getValue_6d5f1_J5_getValue_6d5f1 mdJ5_getValue_6d5f1 wd999 wd1000 (sBJ5_getValue_6d5f1 N l1 ) rfl rfl (fun _ => rfl) (Nat.le_of_ble_eq_true rfl) (Nat.le_of_ble_eq_true rfl) (Nat.le_of_ble_eq_true rfl) rfl (by show _ ≤ 1; omega) rfl (by show _ ≤ 1200; omega) (hJ0_init_db425.at 3 rfl rfl) (fun x1 => ?_)
  refine os_astore_n (i := 3) (q := 3) rfl (lv' := [(3, .ref x1), (0, .ref l0), (1, .ref l1), (2, .null )]) (Nat.le_of_ble_eq_true rfl) rfl (hJ0_init_db425.at 4 rfl rfl) ?_
  refine os_aload_n (i := 1) (q := 1) (v := l1) 2 rfl rfl (hJ0_init_db425.at 5 rfl rfl) ?_
  refine os_callO (cis := [9]) (x := yJ5_length_8abf5) (owner := RJ5) (b := l1) (As := []) (st := []) (st' := (fun r => .int r :: [])) sl9_O mdJ4_length_8abf5 wd1011 wd1005 ⟨by decide +kernel, by decide +kernel⟩ rfl wd1004 wd1006 wd1008 (sBJ4_length_8abf5 N l1 ) rfl rfl (fun _ => rfl) (Nat.le_of_ble_eq_true rfl) (Nat.le_of_ble_eq_true rfl) (Nat.le_of_ble_eq_true rfl) rfl (by show _ ≤ 1; omega) rfl (by show _ ≤ 1200; omega) (hJ0_init_db425.at 6 rfl rfl) (fun x2 => ?_)
  refine os_istore (i := 4) (lv' := [(4, .int x2), (3, .ref x1), (0, .ref l0), (1, .ref l1), (2, .null )]) (Nat.le_of_ble_eq_true rfl) rfl (hJ0_init_db425.at 7 rfl rfl) ?_
  refine os_aload_n (i := 1) (q := 1) (v := l1) 3 rfl rfl (hJ0_init_db425.at 8 rfl rfl) ?_
  refine os_callV (cis := [9]) (b := l1) (As := []) (st := []) (st' := (fun r => .int r :: [])) sl9_J5_isLatin1_aae02_J5_isLatin1_aae02 mdJ5_isLatin1_aae02 wd1012 wd912 (sBJ5_isLatin1_aae02 N l1 ) rfl rfl (fun _ => rfl) (Nat.le_of_ble_eq_true rfl) (Nat.le_of_ble_eq_true rfl) (Nat.le_of_ble_eq_true rfl) rfl (by show _ ≤ 1; omega) rfl (by show _ ≤ 1200; omega) (hJ0_init_db425.at 9 rfl rfl) (fun x3 => ?_)
  refine os_if_eq (off := 22) (tgt := 41) rfl (hJ0_init_db425.at 10 rfl rfl) ?_ ?_
  · refine os_compact wd503 (hJ0_init_db425.at 21 rfl rfl) ?_
    refine os_if_eq (off := 35) (tgt := 79) rfl (hJ0_init_db425.at 22 rfl rfl) ?_ ?_
    · exact osW.widen (k' := 0) (n' := 0) (by omega) (by omega) (osW.sub [2, 1, 0] rfl (sBJ0_init_db425_79 N l0 x1 x2))
    · refine os_aload_n (i := 1) (q := 1) (v := l1) 3 rfl rfl (hJ0_init_db425.at 23 rfl rfl) ?_
      refine os_getI fJ0_1048 (hJ0_init_db425.at 24 rfl rfl) (fun x4 => ?_)
      refine os_if_eq (off := 28) (tgt := 79) rfl (hJ0_init_db425.at 25 rfl rfl) ?_ ?_
      · exact osW.widen (k' := 0) (n' := 0) (by omega) (by omega) (osW.sub [2, 1, 0] rfl (sBJ0_init_db425_79 N l0 x1 x2))
      · refine os_aload_n (i := 0) (q := 0) (v := l0) 2 rfl rfl (hJ0_init_db425.at 26 rfl rfl) ?_
        refine os_aload_n (i := 3) (q := 3) (v := x1) 1 rfl rfl (hJ0_init_db425.at 27 rfl rfl) ?_
        refine os_iconst (i := 0) (v := (0 : Int32)) rfl (hJ0_init_db425.at 28 rfl rfl) ?_
        refine os_iload (v := x2) 0 rfl (hJ0_init_db425.at 29 rfl rfl) ?_
        exact os_no rfl
  · refine os_aload_n (i := 0) (q := 0) (v := l0) 2 rfl rfl (hJ0_init_db425.at 11 rfl rfl) ?_
    refine os_iconst (i := 0) (v := (0 : Int32)) rfl (hJ0_init_db425.at 12 rfl rfl) ?_
    refine os_putF fJ0_15 rfl (osHd1 rfl rfl) rfl rfl (hJ0_init_db425.at 13 rfl rfl) ?_
    refine os_aload_n (i := 0) (q := 0) (v := l0) 2 rfl rfl (hJ0_init_db425.at 14 rfl rfl) ?_
    refine os_aload_n (i := 3) (q := 3) (v := x1) 1 rfl rfl (hJ0_init_db425.at 15 rfl rfl) ?_
    refine os_iconst (i := 0) (v := (0 : Int32)) rfl (hJ0_init_db425.at 16 rfl rfl) ?_
    refine os_iload (v := x2) 0 rfl (hJ0_init_db425.at 17 rfl rfl) ?_
    refine os_callS (As := [.ref x1, .int (0 : Int32), .int x2]) (st := [.ref l0]) (st' := (fun r => .ref r :: [.ref l0])) mdJ7_copyOfRange_39247 wd1013 wd1014 (sBJ7_copyOfRange_39247 N x1 (0 : Int32) x2) rfl rfl (fun _ => rfl) (Nat.le_of_ble_eq_true rfl) (Nat.le_of_ble_eq_true rfl) (Nat.le_of_ble_eq_true rfl) rfl (by show _ ≤ 1; omega) rfl (by show _ ≤ 1200; omega) (hJ0_init_db425.at 18 rfl rfl) (fun x5 => ?_)
    refine os_putF fJ0_9 rfl (osHd1 rfl rfl) rfl rfl (hJ0_init_db425.at 19 rfl rfl) ?_
    refine os_goto (off := 59) (tgt := 97) rfl (hJ0_init_db425.at 20 rfl rfl) ?_
    exact osW.widen (k' := 1) (n' := 1200) (by omega) (by omega) (osW.sub [] rfl (sBJ0_init_db425_97 N ))
-- BJ4_append_cf468
def qBJ4_append_cf468 (N : Nat) (l0 : Nat) (l1 : Int32) : osM Nat := osbind (osrecv [9] l0 (qBJ5_append_3fe6f N l0 l1)) fun x1 => osret l0
set_option maxRecDepth 100000 in
set_option maxHeartbeats 4000000 in
theorem sBJ4_append_cf468 (N : Nat) (l0 : Nat) (l1 : Int32) : osMet yJ4_append_cf468 cJ4_append_cf468 2 (some (.object "java/lang/StringBuilder")) 5 125 1 1200 (fun r : Nat => some (.ref r)) [.ref l0, .int l1] (qBJ4_append_cf468 N l0 l1) := by
  refine osMet.of plJ4 (Nat.le_of_ble_eq_true rfl) (osW.rw (lv2 := [(0, .ref l0), (1, .int l1)]) ?_ rfl rfl rfl)
  unfold qBJ4_append_cf468
  refine os_aload_n (i := 0) (q := 0) (v := l0) 0 rfl rfl (hJ4_append_cf468.at 0 rfl rfl) ?_
  refine os_iload_n (i := 1) (q := 1) (v := l1) 1 rfl rfl (hJ4_append_cf468.at 1 rfl rfl) ?_
  refine os_callSU (cis := [9]) (b := l0) (As := [.int l1]) (st := []) (st' := (fun r => .ref r :: [])) mdJ5_append_3fe6f wd970 wd1530 wd863 wd971 (by decide) (sBJ5_append_3fe6f N l0 l1) rfl rfl (fun _ => rfl) (Nat.le_of_ble_eq_true rfl) (Nat.le_of_ble_eq_true rfl) (Nat.le_of_ble_eq_true rfl) rfl (by show _ ≤ 1; omega) rfl (by show _ ≤ 1200; omega) (hJ4_append_cf468.at 2 rfl rfl) (fun x1 => ?_)
  refine os_pop rfl (hJ4_append_cf468.at 3 rfl rfl) ?_
  refine os_aload_n (i := 0) (q := 0) (v := l0) 0 rfl rfl (hJ4_append_cf468.at 4 rfl rfl) ?_
  exact os_aret (Or.inl ⟨_, rfl⟩) (by omega) (by omega) (hJ4_append_cf468.at 5 rfl rfl).1
-- BJ5_append_cf1ce
def qBJ5_append_cf1ce (N : Nat) (l0 : Nat) (l1 : Nat) : osM Nat := osbind (osonstr l1 (qBJ0_length_8abf5 N l1)) fun x1 => osbind (osgI [9] 3 l0) fun x2 => osbind (osrecv [9] l0 (qBJ5_ensureCapacityInternal_d00df N l0 (x2 + x1))) fun _ => osbind (osgI [9] 3 l0) fun x3 => osbind (osrecv [9] l0 (qBJ5_putStringAt_47b60 N l0 x3 l1)) fun _ => osbind (osgI [9] 3 l0) fun x4 => osbind (osput [9] 3 l0 (.int (x4 + x1))) fun _ => osret l0
set_option maxRecDepth 100000 in
set_option maxHeartbeats 4000000 in
theorem sBJ5_append_cf1ce (N : Nat) (l0 : Nat) (l1 : Nat) : osMet yJ5_append_cf1ce cJ5_append_cf1ce 3 (some (.object "java/lang/AbstractStringBuilder")) 4 105 1 1200 (fun r : Nat => some (.ref r)) [.ref l0, .ref l1] (qBJ5_append_cf1ce N l0 l1) := by
  refine osMet.of plJ5 (Nat.le_of_ble_eq_true rfl) (osW.rw (lv2 := [(0, .ref l0), (1, .ref l1)]) ?_ rfl rfl rfl)
  unfold qBJ5_append_cf1ce
  refine os_aload_n (i := 1) (q := 1) (v := l1) 1 rfl rfl (hJ5_append_cf1ce.at 0 rfl rfl) ?_
  refine os_nonnull (off := 8) (tgt := 9) rfl (hJ5_append_cf1ce.at 1 rfl rfl) ?_
  refine os_aload_n (i := 1) (q := 1) (v := l1) 1 rfl rfl (hJ5_append_cf1ce.at 5 rfl rfl) ?_
  refine os_callStr (b := l1) (As := []) (st := []) (st' := (fun r => .int r :: [])) wd497 mdJ0_length_8abf5 wd931 wd496 (sBJ0_length_8abf5 N l1 ) rfl rfl (fun _ => rfl) (Nat.le_of_ble_eq_true rfl) (Nat.le_of_ble_eq_true rfl) (Nat.le_of_ble_eq_true rfl) rfl (by show _ ≤ 1; omega) rfl (by show _ ≤ 1200; omega) (hJ5_append_cf1ce.at 6 rfl rfl) (fun x1 => ?_)
  refine os_istore_n (i := 2) (q := 2) rfl (lv' := [(2, .int x1), (0, .ref l0), (1, .ref l1)]) (Nat.le_of_ble_eq_true rfl) rfl (hJ5_append_cf1ce.at 7 rfl rfl) ?_
  refine os_aload_n (i := 0) (q := 0) (v := l0) 1 rfl rfl (hJ5_append_cf1ce.at 8 rfl rfl) ?_
  refine os_aload_n (i := 0) (q := 0) (v := l0) 1 rfl rfl (hJ5_append_cf1ce.at 9 rfl rfl) ?_
  refine os_getI fJ5_79 (hJ5_append_cf1ce.at 10 rfl rfl) (fun x2 => ?_)
  refine os_iload_n (i := 2) (q := 2) (v := x1) 0 rfl rfl (hJ5_append_cf1ce.at 11 rfl rfl) ?_
  refine os_iadd (hJ5_append_cf1ce.at 12 rfl rfl) ?_
  refine os_callV (cis := [9]) (b := l0) (As := [.int (x2 + x1)]) (st := []) (st' := (fun _ => [])) sl9_J5_ensureCapacityInternal_d00df_J5_ensureCapacityInternal_d00df mdJ5_ensureCapacityInternal_d00df wd878 wd880 (sBJ5_ensureCapacityInternal_d00df N l0 (x2 + x1)) rfl rfl (fun _ => rfl) (Nat.le_of_ble_eq_true rfl) (Nat.le_of_ble_eq_true rfl) (Nat.le_of_ble_eq_true rfl) rfl (by show _ ≤ 1; omega) rfl (by show _ ≤ 1200; omega) (hJ5_append_cf1ce.at 13 rfl rfl) (fun _ => ?_)
  refine os_aload_n (i := 0) (q := 0) (v := l0) 1 rfl rfl (hJ5_append_cf1ce.at 14 rfl rfl) ?_
  refine os_aload_n (i := 0) (q := 0) (v := l0) 1 rfl rfl (hJ5_append_cf1ce.at 15 rfl rfl) ?_
  refine os_getI fJ5_79 (hJ5_append_cf1ce.at 16 rfl rfl) (fun x3 => ?_)
  refine os_aload_n (i := 1) (q := 1) (v := l1) 2 rfl rfl (hJ5_append_cf1ce.at 17 rfl rfl) ?_
  refine os_callV (cis := [9]) (b := l0) (As := [.int x3, .ref l1]) (st := []) (st' := (fun _ => [])) sl9_J5_putStringAt_47b60_J5_putStringAt_47b60 mdJ5_putStringAt_47b60 wd932 wd934 (sBJ5_putStringAt_47b60 N l0 x3 l1) rfl rfl (fun _ => rfl) (Nat.le_of_ble_eq_true rfl) (Nat.le_of_ble_eq_true rfl) (Nat.le_of_ble_eq_true rfl) rfl (by show _ ≤ 1; omega) rfl (by show _ ≤ 1200; omega) (hJ5_append_cf1ce.at 18 rfl rfl) (fun _ => ?_)
  refine os_aload_n (i := 0) (q := 0) (v := l0) 1 rfl rfl (hJ5_append_cf1ce.at 19 rfl rfl) ?_
  refine os_dup rfl (hJ5_append_cf1ce.at 20 rfl rfl) ?_
  refine os_getI fJ5_79 (hJ5_append_cf1ce.at 21 rfl rfl) (fun x4 => ?_)
  refine os_iload_n (i := 2) (q := 2) (v := x1) 0 rfl rfl (hJ5_append_cf1ce.at 22 rfl rfl) ?_
  refine os_iadd (hJ5_append_cf1ce.at 23 rfl rfl) ?_
  refine os_put fJ5_79 rfl rfl (hJ5_append_cf1ce.at 24 rfl rfl) ?_
  refine os_aload_n (i := 0) (q := 0) (v := l0) 1 rfl rfl (hJ5_append_cf1ce.at 25 rfl rfl) ?_
  exact os_aret (Or.inl ⟨_, rfl⟩) (by omega) (by omega) (hJ5_append_cf1ce.at 26 rfl rfl).1
-- BJ0_init_81219
def qBJ0_init_81219 (N : Nat) (l0 : Nat) (l1 : Nat) : osM Unit := osbind (qBJ0_init_db425 N l0 l1) fun _ => osret ()
set_option maxRecDepth 100000 in
set_option maxHeartbeats 4000000 in
theorem sBJ0_init_81219 (N : Nat) (l0 : Nat) (l1 : Nat) : osMet yJ0_init_81219 cJ0_init_81219 2 none 4 130 1 1200 (fun _ : Unit => none) [.ref l0, .ref l1] (qBJ0_init_81219 N l0 l1) := by
  refine osMet.of plJ0 (Nat.le_of_ble_eq_true rfl) (osW.rw (lv2 := [(0, .ref l0), (1, .ref l1)]) ?_ rfl rfl rfl)
  unfold qBJ0_init_81219
  refine os_aload_n (i := 0) (q := 0) (v := l0) 0 rfl rfl (hJ0_init_81219.at 0 rfl rfl) ?_
  refine os_aload_n (i := 1) (q := 1) (v := l1) 1 rfl rfl (hJ0_init_81219.at 1 rfl rfl) ?_
  refine os_null (hJ0_init_81219.at 2 rfl rfl) ?_
  refine os_callI (b := l0) (As := [.ref l1, .null ]) (st := []) (st' := (fun _ => [])) mdJ0_init_db425 rfl wd995 wd996 (sBJ0_init_db425 N l0 l1) rfl rfl (fun _ => rfl) (Nat.le_of_ble_eq_true rfl) (Nat.le_of_ble_eq_true rfl) (Nat.le_of_ble_eq_true rfl) rfl (by show _ ≤ 1; omega) rfl (by show _ ≤ 1200; omega) (hJ0_init_81219.at 3 rfl rfl) (fun _ => ?_)
  exact os_vret (by omega) (by omega) (hJ0_init_81219.at 4 rfl rfl).1
-- BJ4_append_15ec4
def qBJ4_append_15ec4 (N : Nat) (l0 : Nat) (l1 : Nat) : osM Nat := osbind (osrecv [9] l0 (qBJ5_append_cf1ce N l0 l1)) fun x1 => osret l0
set_option maxRecDepth 100000 in
set_option maxHeartbeats 4000000 in
theorem sBJ4_append_15ec4 (N : Nat) (l0 : Nat) (l1 : Nat) : osMet yJ4_append_15ec4 cJ4_append_15ec4 2 (some (.object "java/lang/StringBuilder")) 5 127 1 1200 (fun r : Nat => some (.ref r)) [.ref l0, .ref l1] (qBJ4_append_15ec4 N l0 l1) := by
  refine osMet.of plJ4 (Nat.le_of_ble_eq_true rfl) (osW.rw (lv2 := [(0, .ref l0), (1, .ref l1)]) ?_ rfl rfl rfl)
  unfold qBJ4_append_15ec4
  refine os_aload_n (i := 0) (q := 0) (v := l0) 0 rfl rfl (hJ4_append_15ec4.at 0 rfl rfl) ?_
  refine os_aload_n (i := 1) (q := 1) (v := l1) 1 rfl rfl (hJ4_append_15ec4.at 1 rfl rfl) ?_
  refine os_callSU (cis := [9]) (b := l0) (As := [.ref l1]) (st := []) (st' := (fun r => .ref r :: [])) mdJ5_append_cf1ce wd871 wd1523 wd863 wd872 (by decide) (sBJ5_append_cf1ce N l0 l1) rfl rfl (fun _ => rfl) (Nat.le_of_ble_eq_true rfl) (Nat.le_of_ble_eq_true rfl) (Nat.le_of_ble_eq_true rfl) rfl (by show _ ≤ 1; omega) rfl (by show _ ≤ 1200; omega) (hJ4_append_15ec4.at 2 rfl rfl) (fun x1 => ?_)
  refine os_pop rfl (hJ4_append_15ec4.at 3 rfl rfl) ?_
  refine os_aload_n (i := 0) (q := 0) (v := l0) 0 rfl rfl (hJ4_append_15ec4.at 4 rfl rfl) ?_
  exact os_aret (Or.inl ⟨_, rfl⟩) (by omega) (by omega) (hJ4_append_15ec4.at 5 rfl rfl).1
-- BJ4_toString_0e30d
def qBJ4_toString_0e30d (N : Nat) (l0 : Nat) : osM Nat := osbind (osnew (.inr (8, [.null, .int 0, .int 0, .int 0]))) fun x1 => osbind (qBJ0_init_81219 N x1 l0) fun _ => osret x1
set_option maxRecDepth 100000 in
set_option maxHeartbeats 4000000 in
theorem sBJ4_toString_0e30d (N : Nat) (l0 : Nat) : osMet yJ4_toString_0e30d cJ4_toString_0e30d 1 (some (.object "java/lang/String")) 5 151 2 1204 (fun r : Nat => some (.ref r)) [.ref l0] (qBJ4_toString_0e30d N l0) := by
  refine osMet.of plJ4 (Nat.le_of_ble_eq_true rfl) (osW.rw (lv2 := [(0, .ref l0)]) ?_ rfl rfl rfl)
  unfold qBJ4_toString_0e30d
  refine os_new (C := RJ0) (T := TJ0) (N := 4) (ci := 8) (ty0 := tyJ0) rfl tyJ0_ok osinJ0 wd990 wd991 wd65 dfJ0 (by show _ ≤ 2; omega) (by show _ ≤ 1204; omega) (hJ4_toString_0e30d.at 0 rfl rfl) (fun x1 => ?_)
  refine os_dup rfl (hJ4_toString_0e30d.at 1 rfl rfl) ?_
  refine os_aload_n (i := 0) (q := 0) (v := l0) 0 rfl rfl (hJ4_toString_0e30d.at 2 rfl rfl) ?_
  refine os_callI (b := x1) (As := [.ref l0]) (st := [.ref x1]) (st' := (fun _ => [.ref x1])) mdJ0_init_81219 rfl wd992 wd993 (sBJ0_init_81219 N x1 l0) rfl rfl (fun _ => rfl) (Nat.le_of_ble_eq_true rfl) (Nat.le_of_ble_eq_true rfl) (Nat.le_of_ble_eq_true rfl) rfl (by show _ ≤ 2; omega) rfl (by show _ ≤ 1204; omega) (hJ4_toString_0e30d.at 3 rfl rfl) (fun _ => ?_)
  exact os_aret (Or.inl ⟨_, rfl⟩) (by omega) (by omega) (hJ4_toString_0e30d.at 4 rfl rfl).1
