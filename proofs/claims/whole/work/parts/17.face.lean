-- X4_init
def KX4_init : List (Nat × Nat × Instr) := [(0, 1, .aload_n 0), (1, 3, .invokespecial 3), (4, 1, .aload_n 0), (5, 3, .sipush 360), (8, 2, .newarray .byte), (10, 3, .putfield 9), (13, 1, .aload_n 0), (14, 1, .iconst 0), (15, 3, .putfield 15), (18, 1, .return_)]
theorem hX4_init : osDs cX4_init KX4_init := by
  show ∀ q ∈ KX4_init, decode cX4_init q.1 = .ok (q.2.2, q.2.1)
  decide +kernel
def qX4_init (N : Nat) (l0 : Nat) : osM Unit := osbind (osnew (.inl (1, (360, .inl fun _ => 0)))) fun x1 => osbind (osput [4] 0 l0 (.ref x1)) fun _ => osbind (osput [4] 1 l0 (.int (0 : Int32))) fun _ => osret ()
set_option maxRecDepth 100000 in
set_option maxHeartbeats 4000000 in
theorem sX4_init (N : Nat) (l0 : Nat) : osMet yX4_init cX4_init 1 none 1 20 1 360 (fun _ : Unit => none) [.ref l0] (qX4_init N l0) := by
  refine osMet.of plX4 (Nat.le_of_ble_eq_true rfl) (osW.rw (lv2 := [(0, .ref l0)]) ?_ rfl rfl rfl)
  unfold qX4_init
  refine os_aload_n (i := 0) (q := 0) (v := l0) 0 rfl rfl (hX4_init.at 0 rfl rfl) ?_
  refine os_objInit wd190 wd183 wd184 (Nat.le_of_ble_eq_true rfl) (Nat.le_of_ble_eq_true rfl) (Nat.le_of_ble_eq_true rfl) (hX4_init.at 1 rfl rfl) ?_
  refine os_aload_n (i := 0) (q := 0) (v := l0) 0 rfl rfl (hX4_init.at 2 rfl rfl) ?_
  refine os_sipush (i := 360) (v := (360 : Int32)) rfl (hX4_init.at 3 rfl rfl) ?_
  refine os_newarray (at9 := .byte) (ty := .byte) (t := 1) (N := 360) rfl rfl rfl wd200 (fun _ => rfl) (by decide) rfl (Nat.le_of_ble_eq_true rfl) (Nat.le_of_ble_eq_true rfl) (Nat.le_of_ble_eq_true rfl) (hX4_init.at 4 rfl rfl) (fun x1 => ?_)
  refine os_putF fX4_9 rfl (osHd1 rfl rfl) rfl rfl (hX4_init.at 5 rfl rfl) ?_
  refine os_aload_n (i := 0) (q := 0) (v := l0) 0 rfl rfl (hX4_init.at 6 rfl rfl) ?_
  refine os_iconst (i := 0) (v := (0 : Int32)) rfl (hX4_init.at 7 rfl rfl) ?_
  refine os_put fX4_15 rfl rfl (hX4_init.at 8 rfl rfl) ?_
  exact os_vret (Nat.le_of_ble_eq_true rfl) (Nat.le_of_ble_eq_true rfl) (hX4_init.at 9 rfl rfl).1
-- X4_putByte
def KX4_putByte : List (Nat × Nat × Instr) := [(0, 1, .aload_n 0), (1, 3, .getfield 15), (4, 3, .ifCond .lt 34), (7, 1, .aload_n 0), (8, 3, .getfield 15), (11, 3, .sipush 360), (14, 3, .if_icmp .ge 24), (17, 1, .aload_n 0), (18, 3, .getfield 9), (21, 1, .aload_n 0), (22, 3, .getfield 15), (25, 1, .iload_n 1), (26, 1, .i2b), (27, 1, .bastore), (28, 1, .aload_n 0), (29, 1, .dup), (30, 3, .getfield 15), (33, 1, .iconst 1), (34, 1, .iadd), (35, 3, .putfield 15), (38, 1, .return_)]
theorem hX4_putByte : osDs cX4_putByte KX4_putByte := by
  show ∀ q ∈ KX4_putByte, decode cX4_putByte q.1 = .ok (q.2.2, q.2.1)
  decide +kernel
def qX4_putByte_38 (N : Nat) : osM Unit := osret ()
def qX4_putByte (N : Nat) (l0 : Nat) (l1 : Int32) : osM Unit := osbind (osgI [4] 1 l0) fun x1 => osite (x1 < 0) (qX4_putByte_38 N ) (osbind (osgI [4] 1 l0) fun x2 => osite ((360 : Int32) ≤ x2) (qX4_putByte_38 N ) (osbind (osgR [4] 0 l0) fun x3 => osbind (osgI [4] 1 l0) fun x4 => osbind (ossI 1 x3 x4 (vp_nar .byte (l1.toInt8.toInt32))) fun _ => osbind (osgI [4] 1 l0) fun x5 => osbind (osput [4] 1 l0 (.int (x5 + (1 : Int32)))) fun _ => qX4_putByte_38 N ))
set_option maxRecDepth 100000 in
set_option maxHeartbeats 4000000 in
theorem sX4_putByte_38 (N : Nat) : osW (osFinM (fun _ : Unit => none) 0 0) yX4_putByte cX4_putByte 2 none [] { frames := 0, cells := 0, slots := 0, locals := 0 } 0 0 38 [] [] (qX4_putByte_38 N) := by
  unfold qX4_putByte_38
  exact os_vret (Nat.le_of_ble_eq_true rfl) (Nat.le_of_ble_eq_true rfl) (hX4_putByte.at 20 rfl rfl).1
set_option maxRecDepth 100000 in
set_option maxHeartbeats 4000000 in
theorem sX4_putByte (N : Nat) (l0 : Nat) (l1 : Int32) : osMet yX4_putByte cX4_putByte 2 none 0 0 0 0 (fun _ : Unit => none) [.ref l0, .int l1] (qX4_putByte N l0 l1) := by
  refine osMet.of plX4 (Nat.le_of_ble_eq_true rfl) (osW.rw (lv2 := [(0, .ref l0), (1, .int l1)]) ?_ rfl rfl rfl)
  unfold qX4_putByte
  refine os_aload_n (i := 0) (q := 0) (v := l0) 0 rfl rfl (hX4_putByte.at 0 rfl rfl) ?_
  refine os_getI fX4_15 (hX4_putByte.at 1 rfl rfl) (fun x1 => ?_)
  refine os_if_lt (off := 34) (tgt := 38) rfl (hX4_putByte.at 2 rfl rfl) ?_ ?_
  · exact osW.sub [] rfl (sX4_putByte_38 N )
  · refine os_aload_n (i := 0) (q := 0) (v := l0) 0 rfl rfl (hX4_putByte.at 3 rfl rfl) ?_
    refine os_getI fX4_15 (hX4_putByte.at 4 rfl rfl) (fun x2 => ?_)
    refine os_sipush (i := 360) (v := (360 : Int32)) rfl (hX4_putByte.at 5 rfl rfl) ?_
    refine os_icmp_ge (off := 24) (tgt := 38) rfl (hX4_putByte.at 6 rfl rfl) ?_ ?_
    · exact osW.sub [] rfl (sX4_putByte_38 N )
    · refine os_aload_n (i := 0) (q := 0) (v := l0) 0 rfl rfl (hX4_putByte.at 7 rfl rfl) ?_
      refine os_getR fX4_9 (hX4_putByte.at 8 rfl rfl) (fun x3 => ?_)
      refine os_aload_n (i := 0) (q := 0) (v := l0) 0 rfl rfl (hX4_putByte.at 9 rfl rfl) ?_
      refine os_getI fX4_15 (hX4_putByte.at 10 rfl rfl) (fun x4 => ?_)
      refine os_iload_n (i := 1) (q := 1) (v := l1) 1 rfl rfl (hX4_putByte.at 11 rfl rfl) ?_
      refine os_i2b (hX4_putByte.at 12 rfl rfl) ?_
      refine os_bastore (hX4_putByte.at 13 rfl rfl) ?_
      refine os_aload_n (i := 0) (q := 0) (v := l0) 0 rfl rfl (hX4_putByte.at 14 rfl rfl) ?_
      refine os_dup rfl (hX4_putByte.at 15 rfl rfl) ?_
      refine os_getI fX4_15 (hX4_putByte.at 16 rfl rfl) (fun x5 => ?_)
      refine os_iconst (i := 1) (v := (1 : Int32)) rfl (hX4_putByte.at 17 rfl rfl) ?_
      refine os_iadd (hX4_putByte.at 18 rfl rfl) ?_
      refine os_put fX4_15 rfl rfl (hX4_putByte.at 19 rfl rfl) ?_
      exact osW.sub [] rfl (sX4_putByte_38 N )
-- X4_putName
def KX4_putName : List (Nat × Nat × Instr) := [(0, 2, .bipush 20), (2, 1, .istore_n 2), (3, 1, .iload_n 2), (4, 3, .ifCond .lt 30), (7, 1, .iload_n 1), (8, 1, .iload_n 2), (9, 1, .ishr), (10, 2, .bipush 31), (12, 1, .iand), (13, 1, .istore_n 3), (14, 1, .iload_n 3), (15, 3, .ifCond .eq 13), (18, 1, .aload_n 0), (19, 2, .bipush 97), (21, 1, .iload_n 3), (22, 1, .iadd), (23, 1, .iconst 1), (24, 1, .isub), (25, 3, .invokevirtual 28), (28, 3, .iinc 2 (-5)), (31, 3, .goto (-28)), (34, 1, .return_)]
theorem hX4_putName : osDs cX4_putName KX4_putName := by
  show ∀ q ∈ KX4_putName, decode cX4_putName q.1 = .ok (q.2.2, q.2.1)
  decide +kernel
def qX4_putName_28 (N : Nat) (c3 : Nat × Int32 × Int32 → osM Unit) (l0 : Nat) (l1 : Int32) (l2 : Int32) : osM Unit := c3 (l0, l1, (l2 + (-5 : Int32)))
def bX4_putName_3 (N : Nat) (c3 : Nat × Int32 × Int32 → osM Unit) (l0 : Nat) (l1 : Int32) (l2 : Int32) : osM Unit := osite (l2 < 0) (osret ()) (osbind (osret (((osshr l1 l2) &&& (31 : Int32)) : Int32)) fun x1 => osite (x1 = 0) (qX4_putName_28 N c3 l0 l1 l2) (osbind (osrecv [4] l0 (qX4_putByte N l0 (((97 : Int32) + x1) - (1 : Int32)))) fun _ => qX4_putName_28 N c3 l0 l1 l2))
def qX4_putName_3 (N : Nat) : Nat × Int32 × Int32 → osM Unit := osloop (fun ih p => bX4_putName_3 N ih p.1 p.2.1 p.2.2) N
def qX4_putName (N : Nat) (l0 : Nat) (l1 : Int32) : osM Unit := qX4_putName_3 N (l0, l1, (20 : Int32))
set_option maxRecDepth 100000 in
set_option maxHeartbeats 4000000 in
theorem sX4_putName_28 (N : Nat) (c3 : Nat × Int32 × Int32 → osM Unit) (g3 : ∀ (l0 : Nat) (l1 : Int32) (l2 : Int32), osW (osFinM (fun _ : Unit => none) 0 0) yX4_putName cX4_putName 4 none [] { frames := 1, cells := 0, slots := 0, locals := 21 } 0 0 3 [(0, .ref l0), (1, .int l1), (2, .int l2)] [] (c3 (l0, l1, l2))) (l0 : Nat) (l1 : Int32) (l2 : Int32) : osW (osFinM (fun _ : Unit => none) 0 0) yX4_putName cX4_putName 4 none [] { frames := 1, cells := 0, slots := 0, locals := 21 } 0 0 28 [(0, .ref l0), (1, .int l1), (2, .int l2)] [] (qX4_putName_28 N c3 l0 l1 l2) := by
  unfold qX4_putName_28
  refine os_iinc (i := 2) (d := (-5)) (x := l2) (v := (-5 : Int32)) (lv' := [(2, .int (l2 + (-5 : Int32))), (0, .ref l0), (1, .int l1)]) 2 rfl rfl (Nat.le_of_ble_eq_true rfl) rfl (hX4_putName.at 19 rfl rfl) ?_
  refine os_goto (off := (-28)) (tgt := 3) rfl (hX4_putName.at 20 rfl rfl) ?_
  exact osW.sub [1, 2, 0] rfl (g3 l0 l1 (l2 + (-5 : Int32)))
set_option maxRecDepth 100000 in
set_option maxHeartbeats 4000000 in
theorem tX4_putName_3 (N : Nat) (c3 : Nat × Int32 × Int32 → osM Unit) (g3 : ∀ (l0 : Nat) (l1 : Int32) (l2 : Int32), osW (osFinM (fun _ : Unit => none) 0 0) yX4_putName cX4_putName 4 none [] { frames := 1, cells := 0, slots := 0, locals := 21 } 0 0 3 [(0, .ref l0), (1, .int l1), (2, .int l2)] [] (c3 (l0, l1, l2))) (l0 : Nat) (l1 : Int32) (l2 : Int32) : osW (osFinM (fun _ : Unit => none) 0 0) yX4_putName cX4_putName 4 none [] { frames := 1, cells := 0, slots := 0, locals := 21 } 0 0 3 [(0, .ref l0), (1, .int l1), (2, .int l2)] [] (bX4_putName_3 N c3 l0 l1 l2) := by
  unfold bX4_putName_3
  refine os_iload_n (i := 2) (q := 2) (v := l2) 2 rfl rfl (hX4_putName.at 2 rfl rfl) ?_
  refine os_if_lt (off := 30) (tgt := 34) rfl (hX4_putName.at 3 rfl rfl) ?_ ?_
  · exact os_vret (Nat.le_of_ble_eq_true rfl) (Nat.le_of_ble_eq_true rfl) (hX4_putName.at 21 rfl rfl).1
  · refine os_iload_n (i := 1) (q := 1) (v := l1) 1 rfl rfl (hX4_putName.at 4 rfl rfl) ?_
    refine os_iload_n (i := 2) (q := 2) (v := l2) 2 rfl rfl (hX4_putName.at 5 rfl rfl) ?_
    refine os_ishr (hX4_putName.at 6 rfl rfl) ?_
    refine os_bipush (i := 31) (v := (31 : Int32)) rfl (hX4_putName.at 7 rfl rfl) ?_
    refine os_iand (hX4_putName.at 8 rfl rfl) ?_
    refine os_nameI (fun x1 => ?_)
    refine os_istore_n (i := 3) (q := 3) rfl (lv' := [(3, .int x1), (0, .ref l0), (1, .int l1), (2, .int l2)]) (Nat.le_of_ble_eq_true rfl) rfl (hX4_putName.at 9 rfl rfl) ?_
    refine os_iload_n (i := 3) (q := 3) (v := x1) 0 rfl rfl (hX4_putName.at 10 rfl rfl) ?_
    refine os_if_eq (off := 13) (tgt := 28) rfl (hX4_putName.at 11 rfl rfl) ?_ ?_
    · exact osW.sub [1, 2, 3] rfl (sX4_putName_28 N c3 g3 l0 l1 l2)
    · refine os_aload_n (i := 0) (q := 0) (v := l0) 1 rfl rfl (hX4_putName.at 12 rfl rfl) ?_
      refine os_bipush (i := 97) (v := (97 : Int32)) rfl (hX4_putName.at 13 rfl rfl) ?_
      refine os_iload_n (i := 3) (q := 3) (v := x1) 0 rfl rfl (hX4_putName.at 14 rfl rfl) ?_
      refine os_iadd (hX4_putName.at 15 rfl rfl) ?_
      refine os_iconst (i := 1) (v := (1 : Int32)) rfl (hX4_putName.at 16 rfl rfl) ?_
      refine os_isub (hX4_putName.at 17 rfl rfl) ?_
      refine os_callV (cis := [4]) (b := l0) (As := [.int (((97 : Int32) + x1) - (1 : Int32))]) (st := []) (st' := (fun _ => [])) sl4_X4_putByte_X4_putByte mdX4_putByte wd647 wd648 (sX4_putByte N l0 (((97 : Int32) + x1) - (1 : Int32))) rfl rfl (fun _ => rfl) (Nat.le_of_ble_eq_true rfl) (Nat.le_of_ble_eq_true rfl) (Nat.le_of_ble_eq_true rfl) rfl (Nat.le_of_ble_eq_true rfl) rfl (Nat.le_of_ble_eq_true rfl) (hX4_putName.at 18 rfl rfl) (fun _ => ?_)
      exact osW.sub [1, 2, 3] rfl (sX4_putName_28 N c3 g3 l0 l1 l2)
set_option maxRecDepth 100000 in
set_option maxHeartbeats 4000000 in
theorem sX4_putName_3 (N : Nat) (l0 : Nat) (l1 : Int32) (l2 : Int32) : osW (osFinM (fun _ : Unit => none) 0 0) yX4_putName cX4_putName 4 none [] { frames := 1, cells := 0, slots := 0, locals := 21 } 0 0 3 [(0, .ref l0), (1, .int l1), (2, .int l2)] [] (qX4_putName_3 N (l0, l1, l2)) :=
  osloop_W (lvf := fun p => [(0, .ref p.1), (1, .int p.2.1), (2, .int p.2.2)]) (stf := fun p => []) (fun ih g p => tX4_putName_3 N ih (fun l0 l1 l2 => g (l0, l1, l2)) p.1 p.2.1 p.2.2) N (l0, l1, l2)
set_option maxRecDepth 100000 in
set_option maxHeartbeats 4000000 in
theorem sX4_putName (N : Nat) (l0 : Nat) (l1 : Int32) : osMet yX4_putName cX4_putName 4 none 1 21 0 0 (fun _ : Unit => none) [.ref l0, .int l1] (qX4_putName N l0 l1) := by
  refine osMet.of plX4 (Nat.le_of_ble_eq_true rfl) (osW.rw (lv2 := [(0, .ref l0), (1, .int l1)]) ?_ rfl rfl rfl)
  unfold qX4_putName
  refine os_bipush (i := 20) (v := (20 : Int32)) rfl (hX4_putName.at 0 rfl rfl) ?_
  refine os_istore_n (i := 2) (q := 2) rfl (lv' := [(2, .int (20 : Int32)), (0, .ref l0), (1, .int l1)]) (Nat.le_of_ble_eq_true rfl) rfl (hX4_putName.at 1 rfl rfl) ?_
  exact osW.sub [1, 2, 0] rfl (sX4_putName_3 N l0 l1 (20 : Int32))
-- X9_errorCode
def KX9_errorCode : List (Nat × Nat × Instr) := [(0, 1, .aload_n 0), (1, 3, .getfield 24), (4, 1, .ireturn)]
theorem hX9_errorCode : osDs cX9_errorCode KX9_errorCode := by
  show ∀ q ∈ KX9_errorCode, decode cX9_errorCode q.1 = .ok (q.2.2, q.2.1)
  decide +kernel
def qX9_errorCode (N : Nat) (l0 : Nat) : osM Int32 := osbind (osgI [7] 3 l0) fun x1 => osret x1
set_option maxRecDepth 100000 in
set_option maxHeartbeats 4000000 in
theorem sX9_errorCode (N : Nat) (l0 : Nat) : osMet yX9_errorCode cX9_errorCode 1 (some .int) 0 0 0 0 (fun r : Int32 => some (.int r)) [.ref l0] (qX9_errorCode N l0) := by
  refine osMet.of plX9 (Nat.le_of_ble_eq_true rfl) (osW.rw (lv2 := [(0, .ref l0)]) ?_ rfl rfl rfl)
  unfold qX9_errorCode
  refine os_aload_n (i := 0) (q := 0) (v := l0) 0 rfl rfl (hX9_errorCode.at 0 rfl rfl) ?_
  refine os_getI fX9_24 (hX9_errorCode.at 1 rfl rfl) (fun x1 => ?_)
  exact os_iret (Nat.le_of_ble_eq_true rfl) (Nat.le_of_ble_eq_true rfl) (hX9_errorCode.at 2 rfl rfl).1
-- X9_errorPosition
def KX9_errorPosition : List (Nat × Nat × Instr) := [(0, 1, .aload_n 0), (1, 3, .getfield 27), (4, 1, .ireturn)]
theorem hX9_errorPosition : osDs cX9_errorPosition KX9_errorPosition := by
  show ∀ q ∈ KX9_errorPosition, decode cX9_errorPosition q.1 = .ok (q.2.2, q.2.1)
  decide +kernel
def qX9_errorPosition (N : Nat) (l0 : Nat) : osM Int32 := osbind (osgI [7] 4 l0) fun x1 => osret x1
set_option maxRecDepth 100000 in
set_option maxHeartbeats 4000000 in
theorem sX9_errorPosition (N : Nat) (l0 : Nat) : osMet yX9_errorPosition cX9_errorPosition 1 (some .int) 0 0 0 0 (fun r : Int32 => some (.int r)) [.ref l0] (qX9_errorPosition N l0) := by
  refine osMet.of plX9 (Nat.le_of_ble_eq_true rfl) (osW.rw (lv2 := [(0, .ref l0)]) ?_ rfl rfl rfl)
  unfold qX9_errorPosition
  refine os_aload_n (i := 0) (q := 0) (v := l0) 0 rfl rfl (hX9_errorPosition.at 0 rfl rfl) ?_
  refine os_getI fX9_27 (hX9_errorPosition.at 1 rfl rfl) (fun x1 => ?_)
  exact os_iret (Nat.le_of_ble_eq_true rfl) (Nat.le_of_ble_eq_true rfl) (hX9_errorPosition.at 2 rfl rfl).1
-- X9_areas
def KX9_areas : List (Nat × Nat × Instr) := [(0, 1, .aload_n 0), (1, 3, .getfield 63), (4, 3, .getfield 120), (7, 1, .ireturn)]
theorem hX9_areas : osDs cX9_areas KX9_areas := by
  show ∀ q ∈ KX9_areas, decode cX9_areas q.1 = .ok (q.2.2, q.2.1)
  decide +kernel
def qX9_areas (N : Nat) (l0 : Nat) : osM Int32 := osbind (osgR [7] 10 l0) fun x1 => osbind (osgI [0] 0 x1) fun x2 => osret x2
set_option maxRecDepth 100000 in
set_option maxHeartbeats 4000000 in
theorem sX9_areas (N : Nat) (l0 : Nat) : osMet yX9_areas cX9_areas 1 (some .int) 0 0 0 0 (fun r : Int32 => some (.int r)) [.ref l0] (qX9_areas N l0) := by
  refine osMet.of plX9 (Nat.le_of_ble_eq_true rfl) (osW.rw (lv2 := [(0, .ref l0)]) ?_ rfl rfl rfl)
  unfold qX9_areas
  refine os_aload_n (i := 0) (q := 0) (v := l0) 0 rfl rfl (hX9_areas.at 0 rfl rfl) ?_
  refine os_getR fX9_63 (hX9_areas.at 1 rfl rfl) (fun x1 => ?_)
  refine os_getI fX9_120 (hX9_areas.at 2 rfl rfl) (fun x2 => ?_)
  exact os_iret (Nat.le_of_ble_eq_true rfl) (Nat.le_of_ble_eq_true rfl) (hX9_areas.at 3 rfl rfl).1
-- X9_powers
def KX9_powers : List (Nat × Nat × Instr) := [(0, 1, .aload_n 0), (1, 3, .getfield 63), (4, 3, .getfield 123), (7, 1, .ireturn)]
theorem hX9_powers : osDs cX9_powers KX9_powers := by
  show ∀ q ∈ KX9_powers, decode cX9_powers q.1 = .ok (q.2.2, q.2.1)
  decide +kernel
def qX9_powers (N : Nat) (l0 : Nat) : osM Int32 := osbind (osgR [7] 10 l0) fun x1 => osbind (osgI [0] 1 x1) fun x2 => osret x2
set_option maxRecDepth 100000 in
set_option maxHeartbeats 4000000 in
theorem sX9_powers (N : Nat) (l0 : Nat) : osMet yX9_powers cX9_powers 1 (some .int) 0 0 0 0 (fun r : Int32 => some (.int r)) [.ref l0] (qX9_powers N l0) := by
  refine osMet.of plX9 (Nat.le_of_ble_eq_true rfl) (osW.rw (lv2 := [(0, .ref l0)]) ?_ rfl rfl rfl)
  unfold qX9_powers
  refine os_aload_n (i := 0) (q := 0) (v := l0) 0 rfl rfl (hX9_powers.at 0 rfl rfl) ?_
  refine os_getR fX9_63 (hX9_powers.at 1 rfl rfl) (fun x1 => ?_)
  refine os_getI fX9_123 (hX9_powers.at 2 rfl rfl) (fun x2 => ?_)
  exact os_iret (Nat.le_of_ble_eq_true rfl) (Nat.le_of_ble_eq_true rfl) (hX9_powers.at 3 rfl rfl).1
-- X9_phase
def KX9_phase : List (Nat × Nat × Instr) := [(0, 1, .aload_n 0), (1, 3, .getfield 71), (4, 3, .getfield 201), (7, 1, .ireturn)]
theorem hX9_phase : osDs cX9_phase KX9_phase := by
  show ∀ q ∈ KX9_phase, decode cX9_phase q.1 = .ok (q.2.2, q.2.1)
  decide +kernel
def qX9_phase (N : Nat) (l0 : Nat) : osM Int32 := osbind (osgR [7] 12 l0) fun x1 => osbind (osgI [5] 0 x1) fun x2 => osret x2
set_option maxRecDepth 100000 in
set_option maxHeartbeats 4000000 in
theorem sX9_phase (N : Nat) (l0 : Nat) : osMet yX9_phase cX9_phase 1 (some .int) 0 0 0 0 (fun r : Int32 => some (.int r)) [.ref l0] (qX9_phase N l0) := by
  refine osMet.of plX9 (Nat.le_of_ble_eq_true rfl) (osW.rw (lv2 := [(0, .ref l0)]) ?_ rfl rfl rfl)
  unfold qX9_phase
  refine os_aload_n (i := 0) (q := 0) (v := l0) 0 rfl rfl (hX9_phase.at 0 rfl rfl) ?_
  refine os_getR fX9_71 (hX9_phase.at 1 rfl rfl) (fun x1 => ?_)
  refine os_getI fX9_201 (hX9_phase.at 2 rfl rfl) (fun x2 => ?_)
  exact os_iret (Nat.le_of_ble_eq_true rfl) (Nat.le_of_ble_eq_true rfl) (hX9_phase.at 3 rfl rfl).1
-- X9_turn
def KX9_turn : List (Nat × Nat × Instr) := [(0, 1, .aload_n 0), (1, 3, .getfield 71), (4, 3, .getfield 204), (7, 1, .ireturn)]
theorem hX9_turn : osDs cX9_turn KX9_turn := by
  show ∀ q ∈ KX9_turn, decode cX9_turn q.1 = .ok (q.2.2, q.2.1)
  decide +kernel
def qX9_turn (N : Nat) (l0 : Nat) : osM Int32 := osbind (osgR [7] 12 l0) fun x1 => osbind (osgI [5] 1 x1) fun x2 => osret x2
set_option maxRecDepth 100000 in
set_option maxHeartbeats 4000000 in
theorem sX9_turn (N : Nat) (l0 : Nat) : osMet yX9_turn cX9_turn 1 (some .int) 0 0 0 0 (fun r : Int32 => some (.int r)) [.ref l0] (qX9_turn N l0) := by
  refine osMet.of plX9 (Nat.le_of_ble_eq_true rfl) (osW.rw (lv2 := [(0, .ref l0)]) ?_ rfl rfl rfl)
  unfold qX9_turn
  refine os_aload_n (i := 0) (q := 0) (v := l0) 0 rfl rfl (hX9_turn.at 0 rfl rfl) ?_
  refine os_getR fX9_71 (hX9_turn.at 1 rfl rfl) (fun x1 => ?_)
  refine os_getI fX9_204 (hX9_turn.at 2 rfl rfl) (fun x2 => ?_)
  exact os_iret (Nat.le_of_ble_eq_true rfl) (Nat.le_of_ble_eq_true rfl) (hX9_turn.at 3 rfl rfl).1
-- X9_undoCount
def KX9_undoCount : List (Nat × Nat × Instr) := [(0, 1, .aload_n 0), (1, 3, .getfield 57), (4, 1, .ireturn)]
theorem hX9_undoCount : osDs cX9_undoCount KX9_undoCount := by
  show ∀ q ∈ KX9_undoCount, decode cX9_undoCount q.1 = .ok (q.2.2, q.2.1)
  decide +kernel
def qX9_undoCount (N : Nat) (l0 : Nat) : osM Int32 := osbind (osgI [7] 9 l0) fun x1 => osret x1
set_option maxRecDepth 100000 in
set_option maxHeartbeats 4000000 in
theorem sX9_undoCount (N : Nat) (l0 : Nat) : osMet yX9_undoCount cX9_undoCount 1 (some .int) 0 0 0 0 (fun r : Int32 => some (.int r)) [.ref l0] (qX9_undoCount N l0) := by
  refine osMet.of plX9 (Nat.le_of_ble_eq_true rfl) (osW.rw (lv2 := [(0, .ref l0)]) ?_ rfl rfl rfl)
  unfold qX9_undoCount
  refine os_aload_n (i := 0) (q := 0) (v := l0) 0 rfl rfl (hX9_undoCount.at 0 rfl rfl) ?_
  refine os_getI fX9_57 (hX9_undoCount.at 1 rfl rfl) (fun x1 => ?_)
  exact os_iret (Nat.le_of_ble_eq_true rfl) (Nat.le_of_ble_eq_true rfl) (hX9_undoCount.at 2 rfl rfl).1
-- X9_append
def KX9_append : List (Nat × Nat × Instr) := [(0, 2, .bipush 24), (2, 1, .istore_n 2), (3, 1, .iload_n 2), (4, 3, .ifCond .lt 42), (7, 1, .aload_n 0), (8, 3, .getfield 13), (11, 3, .sipush 1000), (14, 3, .if_icmp .ge 26), (17, 1, .aload_n 0), (18, 3, .getfield 9), (21, 1, .aload_n 0), (22, 3, .getfield 13), (25, 1, .iload_n 1), (26, 1, .iload_n 2), (27, 1, .ishr), (28, 1, .i2b), (29, 1, .bastore), (30, 1, .aload_n 0), (31, 1, .dup), (32, 3, .getfield 13), (35, 1, .iconst 1), (36, 1, .iadd), (37, 3, .putfield 13), (40, 3, .iinc 2 (-8)), (43, 3, .goto (-40)), (46, 1, .return_)]
theorem hX9_append : osDs cX9_append KX9_append := by
  show ∀ q ∈ KX9_append, decode cX9_append q.1 = .ok (q.2.2, q.2.1)
  decide +kernel
def qX9_append_40 (N : Nat) (c3 : Nat × Int32 × Int32 → osM Unit) (l0 : Nat) (l1 : Int32) (l2 : Int32) : osM Unit := c3 (l0, l1, (l2 + (-8 : Int32)))
def bX9_append_3 (N : Nat) (c3 : Nat × Int32 × Int32 → osM Unit) (l0 : Nat) (l1 : Int32) (l2 : Int32) : osM Unit := osite (l2 < 0) (osret ()) (osbind (osgI [7] 1 l0) fun x1 => osite ((1000 : Int32) ≤ x1) (qX9_append_40 N c3 l0 l1 l2) (osbind (osgR [7] 0 l0) fun x2 => osbind (osgI [7] 1 l0) fun x3 => osbind (ossI 1 x2 x3 (vp_nar .byte ((osshr l1 l2).toInt8.toInt32))) fun _ => osbind (osgI [7] 1 l0) fun x4 => osbind (osput [7] 1 l0 (.int (x4 + (1 : Int32)))) fun _ => qX9_append_40 N c3 l0 l1 l2))
def qX9_append_3 (N : Nat) : Nat × Int32 × Int32 → osM Unit := osloop (fun ih p => bX9_append_3 N ih p.1 p.2.1 p.2.2) N
def qX9_append (N : Nat) (l0 : Nat) (l1 : Int32) : osM Unit := qX9_append_3 N (l0, l1, (24 : Int32))
set_option maxRecDepth 100000 in
set_option maxHeartbeats 4000000 in
theorem sX9_append_40 (N : Nat) (c3 : Nat × Int32 × Int32 → osM Unit) (g3 : ∀ (l0 : Nat) (l1 : Int32) (l2 : Int32), osW (osFinM (fun _ : Unit => none) 0 0) yX9_append cX9_append 3 none [] { frames := 0, cells := 0, slots := 0, locals := 0 } 0 0 3 [(0, .ref l0), (1, .int l1), (2, .int l2)] [] (c3 (l0, l1, l2))) (l0 : Nat) (l1 : Int32) (l2 : Int32) : osW (osFinM (fun _ : Unit => none) 0 0) yX9_append cX9_append 3 none [] { frames := 0, cells := 0, slots := 0, locals := 0 } 0 0 40 [(0, .ref l0), (1, .int l1), (2, .int l2)] [] (qX9_append_40 N c3 l0 l1 l2) := by
  unfold qX9_append_40
  refine os_iinc (i := 2) (d := (-8)) (x := l2) (v := (-8 : Int32)) (lv' := [(2, .int (l2 + (-8 : Int32))), (0, .ref l0), (1, .int l1)]) 2 rfl rfl (Nat.le_of_ble_eq_true rfl) rfl (hX9_append.at 23 rfl rfl) ?_
  refine os_goto (off := (-40)) (tgt := 3) rfl (hX9_append.at 24 rfl rfl) ?_
  exact osW.sub [1, 2, 0] rfl (g3 l0 l1 (l2 + (-8 : Int32)))
set_option maxRecDepth 100000 in
set_option maxHeartbeats 4000000 in
theorem tX9_append_3 (N : Nat) (c3 : Nat × Int32 × Int32 → osM Unit) (g3 : ∀ (l0 : Nat) (l1 : Int32) (l2 : Int32), osW (osFinM (fun _ : Unit => none) 0 0) yX9_append cX9_append 3 none [] { frames := 0, cells := 0, slots := 0, locals := 0 } 0 0 3 [(0, .ref l0), (1, .int l1), (2, .int l2)] [] (c3 (l0, l1, l2))) (l0 : Nat) (l1 : Int32) (l2 : Int32) : osW (osFinM (fun _ : Unit => none) 0 0) yX9_append cX9_append 3 none [] { frames := 0, cells := 0, slots := 0, locals := 0 } 0 0 3 [(0, .ref l0), (1, .int l1), (2, .int l2)] [] (bX9_append_3 N c3 l0 l1 l2) := by
  unfold bX9_append_3
  refine os_iload_n (i := 2) (q := 2) (v := l2) 2 rfl rfl (hX9_append.at 2 rfl rfl) ?_
  refine os_if_lt (off := 42) (tgt := 46) rfl (hX9_append.at 3 rfl rfl) ?_ ?_
  · exact os_vret (Nat.le_of_ble_eq_true rfl) (Nat.le_of_ble_eq_true rfl) (hX9_append.at 25 rfl rfl).1
  · refine os_aload_n (i := 0) (q := 0) (v := l0) 0 rfl rfl (hX9_append.at 4 rfl rfl) ?_
    refine os_getI fX9_13 (hX9_append.at 5 rfl rfl) (fun x1 => ?_)
    refine os_sipush (i := 1000) (v := (1000 : Int32)) rfl (hX9_append.at 6 rfl rfl) ?_
    refine os_icmp_ge (off := 26) (tgt := 40) rfl (hX9_append.at 7 rfl rfl) ?_ ?_
    · exact osW.sub [0, 1, 2] rfl (sX9_append_40 N c3 g3 l0 l1 l2)
    · refine os_aload_n (i := 0) (q := 0) (v := l0) 0 rfl rfl (hX9_append.at 8 rfl rfl) ?_
      refine os_getR fX9_9 (hX9_append.at 9 rfl rfl) (fun x2 => ?_)
      refine os_aload_n (i := 0) (q := 0) (v := l0) 0 rfl rfl (hX9_append.at 10 rfl rfl) ?_
      refine os_getI fX9_13 (hX9_append.at 11 rfl rfl) (fun x3 => ?_)
      refine os_iload_n (i := 1) (q := 1) (v := l1) 1 rfl rfl (hX9_append.at 12 rfl rfl) ?_
      refine os_iload_n (i := 2) (q := 2) (v := l2) 2 rfl rfl (hX9_append.at 13 rfl rfl) ?_
      refine os_ishr (hX9_append.at 14 rfl rfl) ?_
      refine os_i2b (hX9_append.at 15 rfl rfl) ?_
      refine os_bastore (hX9_append.at 16 rfl rfl) ?_
      refine os_aload_n (i := 0) (q := 0) (v := l0) 0 rfl rfl (hX9_append.at 17 rfl rfl) ?_
      refine os_dup rfl (hX9_append.at 18 rfl rfl) ?_
      refine os_getI fX9_13 (hX9_append.at 19 rfl rfl) (fun x4 => ?_)
      refine os_iconst (i := 1) (v := (1 : Int32)) rfl (hX9_append.at 20 rfl rfl) ?_
      refine os_iadd (hX9_append.at 21 rfl rfl) ?_
      refine os_put fX9_13 rfl rfl (hX9_append.at 22 rfl rfl) ?_
      exact osW.sub [0, 1, 2] rfl (sX9_append_40 N c3 g3 l0 l1 l2)
set_option maxRecDepth 100000 in
set_option maxHeartbeats 4000000 in
theorem sX9_append_3 (N : Nat) (l0 : Nat) (l1 : Int32) (l2 : Int32) : osW (osFinM (fun _ : Unit => none) 0 0) yX9_append cX9_append 3 none [] { frames := 0, cells := 0, slots := 0, locals := 0 } 0 0 3 [(0, .ref l0), (1, .int l1), (2, .int l2)] [] (qX9_append_3 N (l0, l1, l2)) :=
  osloop_W (lvf := fun p => [(0, .ref p.1), (1, .int p.2.1), (2, .int p.2.2)]) (stf := fun p => []) (fun ih g p => tX9_append_3 N ih (fun l0 l1 l2 => g (l0, l1, l2)) p.1 p.2.1 p.2.2) N (l0, l1, l2)
set_option maxRecDepth 100000 in
set_option maxHeartbeats 4000000 in
theorem sX9_append (N : Nat) (l0 : Nat) (l1 : Int32) : osMet yX9_append cX9_append 3 none 0 0 0 0 (fun _ : Unit => none) [.ref l0, .int l1] (qX9_append N l0 l1) := by
  refine osMet.of plX9 (Nat.le_of_ble_eq_true rfl) (osW.rw (lv2 := [(0, .ref l0), (1, .int l1)]) ?_ rfl rfl rfl)
  unfold qX9_append
  refine os_bipush (i := 24) (v := (24 : Int32)) rfl (hX9_append.at 0 rfl rfl) ?_
  refine os_istore_n (i := 2) (q := 2) rfl (lv' := [(2, .int (24 : Int32)), (0, .ref l0), (1, .int l1)]) (Nat.le_of_ble_eq_true rfl) rfl (hX9_append.at 1 rfl rfl) ?_
  exact osW.sub [1, 2, 0] rfl (sX9_append_3 N l0 l1 (24 : Int32))
-- X9_noteError
def KX9_noteError : List (Nat × Nat × Instr) := [(0, 1, .aload_n 0), (1, 1, .aload_n 1), (2, 3, .getfield 384), (5, 3, .putfield 24), (8, 1, .aload_n 0), (9, 1, .aload_n 1), (10, 3, .getfield 389), (13, 3, .putfield 27), (16, 1, .return_)]
theorem hX9_noteError : osDs cX9_noteError KX9_noteError := by
  show ∀ q ∈ KX9_noteError, decode cX9_noteError q.1 = .ok (q.2.2, q.2.1)
  decide +kernel
def qX9_noteError (N : Nat) (l0 : Nat) (l1 : Nat) : osM Unit := osbind (osgI [3, 6] 8 l1) fun x1 => osbind (osput [7] 3 l0 (.int x1)) fun _ => osbind (osgI [3, 6] 9 l1) fun x2 => osbind (osput [7] 4 l0 (.int x2)) fun _ => osret ()
set_option maxRecDepth 100000 in
set_option maxHeartbeats 4000000 in
theorem sX9_noteError (N : Nat) (l0 : Nat) (l1 : Nat) : osMet yX9_noteError cX9_noteError 2 none 0 0 0 0 (fun _ : Unit => none) [.ref l0, .ref l1] (qX9_noteError N l0 l1) := by
  refine osMet.of plX9 (Nat.le_of_ble_eq_true rfl) (osW.rw (lv2 := [(0, .ref l0), (1, .ref l1)]) ?_ rfl rfl rfl)
  unfold qX9_noteError
  refine os_aload_n (i := 0) (q := 0) (v := l0) 0 rfl rfl (hX9_noteError.at 0 rfl rfl) ?_
  refine os_aload_n (i := 1) (q := 1) (v := l1) 1 rfl rfl (hX9_noteError.at 1 rfl rfl) ?_
  refine os_getI fX9_384 (hX9_noteError.at 2 rfl rfl) (fun x1 => ?_)
  refine os_put fX9_24 rfl rfl (hX9_noteError.at 3 rfl rfl) ?_
  refine os_aload_n (i := 0) (q := 0) (v := l0) 0 rfl rfl (hX9_noteError.at 4 rfl rfl) ?_
  refine os_aload_n (i := 1) (q := 1) (v := l1) 1 rfl rfl (hX9_noteError.at 5 rfl rfl) ?_
  refine os_getI fX9_389 (hX9_noteError.at 6 rfl rfl) (fun x2 => ?_)
  refine os_put fX9_27 rfl rfl (hX9_noteError.at 7 rfl rfl) ?_
  exact os_vret (Nat.le_of_ble_eq_true rfl) (Nat.le_of_ble_eq_true rfl) (hX9_noteError.at 8 rfl rfl).1
-- X9_adoptDraft
def KX9_adoptDraft : List (Nat × Nat × Instr) := [(0, 1, .aload_n 0), (1, 3, .getfield 75), (4, 1, .astore_n 1), (5, 1, .aload_n 0), (6, 1, .aload_n 0), (7, 3, .getfield 71), (10, 3, .putfield 75), (13, 1, .aload_n 0), (14, 1, .aload_n 1), (15, 3, .putfield 71), (18, 1, .return_)]
theorem hX9_adoptDraft : osDs cX9_adoptDraft KX9_adoptDraft := by
  show ∀ q ∈ KX9_adoptDraft, decode cX9_adoptDraft q.1 = .ok (q.2.2, q.2.1)
  decide +kernel
def qX9_adoptDraft (N : Nat) (l0 : Nat) : osM Unit := osbind (osgR [7] 13 l0) fun x1 => osbind (osgR [7] 12 l0) fun x2 => osbind (osput [7] 13 l0 (.ref x2)) fun _ => osbind (osput [7] 12 l0 (.ref x1)) fun _ => osret ()
set_option maxRecDepth 100000 in
set_option maxHeartbeats 4000000 in
theorem sX9_adoptDraft (N : Nat) (l0 : Nat) : osMet yX9_adoptDraft cX9_adoptDraft 2 none 0 0 0 0 (fun _ : Unit => none) [.ref l0] (qX9_adoptDraft N l0) := by
  refine osMet.of plX9 (Nat.le_of_ble_eq_true rfl) (osW.rw (lv2 := [(0, .ref l0)]) ?_ rfl rfl rfl)
  unfold qX9_adoptDraft
  refine os_aload_n (i := 0) (q := 0) (v := l0) 0 rfl rfl (hX9_adoptDraft.at 0 rfl rfl) ?_
  refine os_getR fX9_75 (hX9_adoptDraft.at 1 rfl rfl) (fun x1 => ?_)
  refine os_astore_n (i := 1) (q := 1) rfl (lv' := [(1, .ref x1), (0, .ref l0)]) (Nat.le_of_ble_eq_true rfl) rfl (hX9_adoptDraft.at 2 rfl rfl) ?_
  refine os_aload_n (i := 0) (q := 0) (v := l0) 1 rfl rfl (hX9_adoptDraft.at 3 rfl rfl) ?_
  refine os_aload_n (i := 0) (q := 0) (v := l0) 1 rfl rfl (hX9_adoptDraft.at 4 rfl rfl) ?_
  refine os_getR fX9_71 (hX9_adoptDraft.at 5 rfl rfl) (fun x2 => ?_)
  refine os_put fX9_75 rfl rfl (hX9_adoptDraft.at 6 rfl rfl) ?_
  refine os_aload_n (i := 0) (q := 0) (v := l0) 1 rfl rfl (hX9_adoptDraft.at 7 rfl rfl) ?_
  refine os_aload_n (i := 1) (q := 1) (v := x1) 0 rfl rfl (hX9_adoptDraft.at 8 rfl rfl) ?_
  refine os_put fX9_71 rfl rfl (hX9_adoptDraft.at 9 rfl rfl) ?_
  exact os_vret (Nat.le_of_ble_eq_true rfl) (Nat.le_of_ble_eq_true rfl) (hX9_adoptDraft.at 10 rfl rfl).1
-- X9_floatBits
def KX9_floatBits : List (Nat × Nat × Instr) := [(0, 1, .fload_n 0), (1, 1, .fconst 0), (2, 1, .fcmp .l), (3, 3, .ifCond .gt 5), (6, 1, .iconst 0), (7, 1, .ireturn), (8, 1, .fload_n 0), (9, 1, .fstore_n 1), (10, 2, .bipush 127), (12, 1, .istore_n 2), (13, 1, .iconst 0), (14, 1, .istore_n 3), (15, 1, .iload_n 3), (16, 2, .bipush 126), (18, 3, .if_icmp .ge 22), (21, 1, .fload_n 1), (22, 1, .fconst 1), (23, 1, .fcmp .g), (24, 3, .ifCond .ge 16), (27, 1, .fload_n 1), (28, 1, .fconst 2), (29, 1, .fmul), (30, 1, .fstore_n 1), (31, 3, .iinc 2 (-1)), (34, 3, .iinc 3 1), (37, 3, .goto (-22)), (40, 1, .iload_n 2), (41, 2, .bipush 23), (43, 1, .ishl), (44, 1, .fload_n 1), (45, 1, .fconst 1), (46, 1, .fsub), (47, 3, .ldc_w 403), (50, 1, .fmul), (51, 1, .f2i), (52, 1, .iadd), (53, 1, .ireturn)]
theorem hX9_floatBits : osDs cX9_floatBits KX9_floatBits := by
  show ∀ q ∈ KX9_floatBits, decode cX9_floatBits q.1 = .ok (q.2.2, q.2.1)
  decide +kernel
def qX9_floatBits_40 (N : Nat) (l1 : UInt32) (l2 : Int32) : osM Int32 := osguard (osn32 (FP.fsub l1 (1065353216 : UInt32))) (osguard (osn32 (FP.fmul (FP.fsub l1 (1065353216 : UInt32)) (1258291200 : UInt32))) (osret ((osshl l2 (23 : Int32)) + (FP.f2i (FP.fmul (FP.fsub l1 (1065353216 : UInt32)) (1258291200 : UInt32))))))
def bX9_floatBits_15 (N : Nat) (c15 : UInt32 × Int32 × Int32 → osM Int32) (l1 : UInt32) (l2 : Int32) (l3 : Int32) : osM Int32 := osite ((126 : Int32) ≤ l3) (qX9_floatBits_40 N l1 l2) (osite (0 ≤ (Op.cmpValue (FP.fcmp l1 (1065353216 : UInt32)) .g)) (qX9_floatBits_40 N l1 l2) (osguard (osn32 (FP.fmul l1 (1073741824 : UInt32))) (osbind (osret ((FP.fmul l1 (1073741824 : UInt32)) : UInt32)) fun x2 => c15 (x2, (l2 + (-1 : Int32)), (l3 + (1 : Int32))))))
def qX9_floatBits_15 (N : Nat) : UInt32 × Int32 × Int32 → osM Int32 := osloop (fun ih p => bX9_floatBits_15 N ih p.1 p.2.1 p.2.2) N
def qX9_floatBits (N : Nat) (l0 : UInt32) : osM Int32 := osite (0 < (Op.cmpValue (FP.fcmp l0 (0 : UInt32)) .l)) (qX9_floatBits_15 N (l0, (127 : Int32), (0 : Int32))) (osret (0 : Int32))
set_option maxRecDepth 100000 in
set_option maxHeartbeats 4000000 in
theorem sX9_floatBits_40 (N : Nat) (l1 : UInt32) (l2 : Int32) : osW (osFinM (fun r : Int32 => some (.int r)) 0 0) yX9_floatBits cX9_floatBits 4 (some .int) [] { frames := 0, cells := 0, slots := 0, locals := 0 } 0 0 40 [(1, .float l1), (2, .int l2)] [] (qX9_floatBits_40 N l1 l2) := by
  unfold qX9_floatBits_40
  refine os_iload_n (i := 2) (q := 2) (v := l2) 1 rfl rfl (hX9_floatBits.at 26 rfl rfl) ?_
  refine os_bipush (i := 23) (v := (23 : Int32)) rfl (hX9_floatBits.at 27 rfl rfl) ?_
  refine os_ishl (hX9_floatBits.at 28 rfl rfl) ?_
  refine os_fload_n (i := 1) (q := 1) (v := l1) 0 rfl rfl (hX9_floatBits.at 29 rfl rfl) ?_
  refine os_fconst1 (hX9_floatBits.at 30 rfl rfl) ?_
  refine os_guard (fun h1 => ?_)
  refine os_fsub (osn32_ok h1) (hX9_floatBits.at 31 rfl rfl) ?_
  refine os_ldcwf (v := (1258291200 : UInt32)) wd1529 (hX9_floatBits.at 32 rfl rfl) ?_
  refine os_guard (fun h2 => ?_)
  refine os_fmul (osn32_ok h2) (hX9_floatBits.at 33 rfl rfl) ?_
  refine os_f2i (hX9_floatBits.at 34 rfl rfl) ?_
  refine os_iadd (hX9_floatBits.at 35 rfl rfl) ?_
  exact os_iret (Nat.le_of_ble_eq_true rfl) (Nat.le_of_ble_eq_true rfl) (hX9_floatBits.at 36 rfl rfl).1
set_option maxRecDepth 100000 in
set_option maxHeartbeats 4000000 in
theorem tX9_floatBits_15 (N : Nat) (c15 : UInt32 × Int32 × Int32 → osM Int32) (g15 : ∀ (l1 : UInt32) (l2 : Int32) (l3 : Int32), osW (osFinM (fun r : Int32 => some (.int r)) 0 0) yX9_floatBits cX9_floatBits 4 (some .int) [] { frames := 0, cells := 0, slots := 0, locals := 0 } 0 0 15 [(1, .float l1), (2, .int l2), (3, .int l3)] [] (c15 (l1, l2, l3))) (l1 : UInt32) (l2 : Int32) (l3 : Int32) : osW (osFinM (fun r : Int32 => some (.int r)) 0 0) yX9_floatBits cX9_floatBits 4 (some .int) [] { frames := 0, cells := 0, slots := 0, locals := 0 } 0 0 15 [(1, .float l1), (2, .int l2), (3, .int l3)] [] (bX9_floatBits_15 N c15 l1 l2 l3) := by
  unfold bX9_floatBits_15
  refine os_iload_n (i := 3) (q := 3) (v := l3) 2 rfl rfl (hX9_floatBits.at 12 rfl rfl) ?_
  refine os_bipush (i := 126) (v := (126 : Int32)) rfl (hX9_floatBits.at 13 rfl rfl) ?_
  refine os_icmp_ge (off := 22) (tgt := 40) rfl (hX9_floatBits.at 14 rfl rfl) ?_ ?_
  · exact osW.sub [0, 1] rfl (sX9_floatBits_40 N l1 l2)
  · refine os_fload_n (i := 1) (q := 1) (v := l1) 0 rfl rfl (hX9_floatBits.at 15 rfl rfl) ?_
    refine os_fconst1 (hX9_floatBits.at 16 rfl rfl) ?_
    refine os_fcmp (op := .g) (hX9_floatBits.at 17 rfl rfl) ?_
    refine os_if_ge (off := 16) (tgt := 40) rfl (hX9_floatBits.at 18 rfl rfl) ?_ ?_
    · exact osW.sub [0, 1] rfl (sX9_floatBits_40 N l1 l2)
    · refine os_fload_n (i := 1) (q := 1) (v := l1) 0 rfl rfl (hX9_floatBits.at 19 rfl rfl) ?_
      refine os_fconst2 (hX9_floatBits.at 20 rfl rfl) ?_
      refine os_guard (fun h1 => ?_)
      refine os_fmul (osn32_ok h1) (hX9_floatBits.at 21 rfl rfl) ?_
      refine os_nameF (fun x2 => ?_)
      refine os_fstore_n (i := 1) (q := 1) rfl (lv' := [(1, .float x2), (2, .int l2), (3, .int l3)]) (Nat.le_of_ble_eq_true rfl) rfl (hX9_floatBits.at 22 rfl rfl) ?_
      refine os_iinc (i := 2) (d := (-1)) (x := l2) (v := (-1 : Int32)) (lv' := [(2, .int (l2 + (-1 : Int32))), (1, .float x2), (3, .int l3)]) 1 rfl rfl (Nat.le_of_ble_eq_true rfl) rfl (hX9_floatBits.at 23 rfl rfl) ?_
      refine os_iinc (i := 3) (d := 1) (x := l3) (v := (1 : Int32)) (lv' := [(3, .int (l3 + (1 : Int32))), (2, .int (l2 + (-1 : Int32))), (1, .float x2)]) 2 rfl rfl (Nat.le_of_ble_eq_true rfl) rfl (hX9_floatBits.at 24 rfl rfl) ?_
      refine os_goto (off := (-22)) (tgt := 15) rfl (hX9_floatBits.at 25 rfl rfl) ?_
      exact osW.sub [2, 1, 0] rfl (g15 x2 (l2 + (-1 : Int32)) (l3 + (1 : Int32)))
set_option maxRecDepth 100000 in
set_option maxHeartbeats 4000000 in
theorem sX9_floatBits_15 (N : Nat) (l1 : UInt32) (l2 : Int32) (l3 : Int32) : osW (osFinM (fun r : Int32 => some (.int r)) 0 0) yX9_floatBits cX9_floatBits 4 (some .int) [] { frames := 0, cells := 0, slots := 0, locals := 0 } 0 0 15 [(1, .float l1), (2, .int l2), (3, .int l3)] [] (qX9_floatBits_15 N (l1, l2, l3)) :=
  osloop_W (lvf := fun p => [(1, .float p.1), (2, .int p.2.1), (3, .int p.2.2)]) (stf := fun p => []) (fun ih g p => tX9_floatBits_15 N ih (fun l1 l2 l3 => g (l1, l2, l3)) p.1 p.2.1 p.2.2) N (l1, l2, l3)
set_option maxRecDepth 100000 in
set_option maxHeartbeats 4000000 in
theorem sX9_floatBits (N : Nat) (l0 : UInt32) : osMet yX9_floatBits cX9_floatBits 4 (some .int) 0 0 0 0 (fun r : Int32 => some (.int r)) [.float l0] (qX9_floatBits N l0) := by
  refine osMet.of plX9 (Nat.le_of_ble_eq_true rfl) (osW.rw (lv2 := [(0, .float l0)]) ?_ rfl rfl rfl)
  unfold qX9_floatBits
  refine os_fload_n (i := 0) (q := 0) (v := l0) 0 rfl rfl (hX9_floatBits.at 0 rfl rfl) ?_
  refine os_fconst0 (hX9_floatBits.at 1 rfl rfl) ?_
  refine os_fcmp (op := .l) (hX9_floatBits.at 2 rfl rfl) ?_
  refine os_if_gt (off := 5) (tgt := 8) rfl (hX9_floatBits.at 3 rfl rfl) ?_ ?_
  · refine os_fload_n (i := 0) (q := 0) (v := l0) 0 rfl rfl (hX9_floatBits.at 6 rfl rfl) ?_
    refine os_fstore_n (i := 1) (q := 1) rfl (lv' := [(1, .float l0), (0, .float l0)]) (Nat.le_of_ble_eq_true rfl) rfl (hX9_floatBits.at 7 rfl rfl) ?_
    refine os_bipush (i := 127) (v := (127 : Int32)) rfl (hX9_floatBits.at 8 rfl rfl) ?_
    refine os_istore_n (i := 2) (q := 2) rfl (lv' := [(2, .int (127 : Int32)), (1, .float l0), (0, .float l0)]) (Nat.le_of_ble_eq_true rfl) rfl (hX9_floatBits.at 9 rfl rfl) ?_
    refine os_iconst (i := 0) (v := (0 : Int32)) rfl (hX9_floatBits.at 10 rfl rfl) ?_
    refine os_istore_n (i := 3) (q := 3) rfl (lv' := [(3, .int (0 : Int32)), (2, .int (127 : Int32)), (1, .float l0), (0, .float l0)]) (Nat.le_of_ble_eq_true rfl) rfl (hX9_floatBits.at 11 rfl rfl) ?_
    exact osW.sub [2, 1, 0] rfl (sX9_floatBits_15 N l0 (127 : Int32) (0 : Int32))
  · refine os_iconst (i := 0) (v := (0 : Int32)) rfl (hX9_floatBits.at 4 rfl rfl) ?_
    exact os_iret (Nat.le_of_ble_eq_true rfl) (Nat.le_of_ble_eq_true rfl) (hX9_floatBits.at 5 rfl rfl).1
-- X9_doubleBits
def KX9_doubleBits : List (Nat × Nat × Instr) := [(0, 1, .dload_n 0), (1, 1, .dconst 0), (2, 1, .dcmp .l), (3, 3, .ifCond .gt 5), (6, 1, .lconst 0), (7, 1, .lreturn), (8, 1, .dload_n 0), (9, 1, .dstore_n 2), (10, 3, .ldc2_w 404), (13, 2, .lstore 4), (15, 1, .iconst 0), (16, 2, .istore 6), (18, 2, .iload 6), (20, 3, .sipush 1022), (23, 3, .if_icmp .ge 27), (26, 1, .dload_n 2), (27, 1, .dconst 1), (28, 1, .dcmp .g), (29, 3, .ifCond .ge 21), (32, 1, .dload_n 2), (33, 3, .ldc2_w 406), (36, 1, .dmul), (37, 1, .dstore_n 2), (38, 2, .lload 4), (40, 1, .lconst 1), (41, 1, .lsub), (42, 2, .lstore 4), (44, 3, .iinc 6 1), (47, 3, .goto (-29)), (50, 2, .lload 4), (52, 2, .bipush 52), (54, 1, .lshl), (55, 1, .dload_n 2), (56, 1, .dconst 1), (57, 1, .dsub), (58, 3, .ldc2_w 408), (61, 1, .dmul), (62, 1, .d2l), (63, 1, .ladd), (64, 1, .lreturn)]
theorem hX9_doubleBits : osDs cX9_doubleBits KX9_doubleBits := by
  show ∀ q ∈ KX9_doubleBits, decode cX9_doubleBits q.1 = .ok (q.2.2, q.2.1)
  decide +kernel
def qX9_doubleBits_50 (N : Nat) (l2 : UInt64) (l4 : Int64) : osM Int64 := osguard (osn64 (FP.dsub l2 (4607182418800017408 : UInt64))) (osguard (osn64 (FP.dmul (FP.dsub l2 (4607182418800017408 : UInt64)) (4841369599423283200 : UInt64))) (osret ((oslshl l4 (52 : Int32)) + (FP.d2l (FP.dmul (FP.dsub l2 (4607182418800017408 : UInt64)) (4841369599423283200 : UInt64))))))
def bX9_doubleBits_18 (N : Nat) (c18 : UInt64 × Int64 × Int32 → osM Int64) (l2 : UInt64) (l4 : Int64) (l6 : Int32) : osM Int64 := osite ((1022 : Int32) ≤ l6) (qX9_doubleBits_50 N l2 l4) (osite (0 ≤ (Op.cmpValue (FP.dcmp l2 (4607182418800017408 : UInt64)) .g)) (qX9_doubleBits_50 N l2 l4) (osguard (osn64 (FP.dmul l2 (4611686018427387904 : UInt64))) (osbind (osret ((FP.dmul l2 (4611686018427387904 : UInt64)) : UInt64)) fun x2 => c18 (x2, (l4 - (1 : Int64)), (l6 + (1 : Int32))))))
def qX9_doubleBits_18 (N : Nat) : UInt64 × Int64 × Int32 → osM Int64 := osloop (fun ih p => bX9_doubleBits_18 N ih p.1 p.2.1 p.2.2) N
def qX9_doubleBits (N : Nat) (l0 : UInt64) : osM Int64 := osite (0 < (Op.cmpValue (FP.dcmp l0 (0 : UInt64)) .l)) (qX9_doubleBits_18 N (l0, (1023 : Int64), (0 : Int32))) (osret (0 : Int64))
set_option maxRecDepth 100000 in
set_option maxHeartbeats 4000000 in
theorem sX9_doubleBits_50 (N : Nat) (l2 : UInt64) (l4 : Int64) : osW (osFinM (fun r : Int64 => some (.long r)) 0 0) yX9_doubleBits cX9_doubleBits 7 (some .long) [] { frames := 0, cells := 0, slots := 0, locals := 0 } 0 0 50 [(2, .double l2), (4, .long l4)] [] (qX9_doubleBits_50 N l2 l4) := by
  unfold qX9_doubleBits_50
  refine os_lload (v := l4) 1 rfl (hX9_doubleBits.at 29 rfl rfl) ?_
  refine os_bipush (i := 52) (v := (52 : Int32)) rfl (hX9_doubleBits.at 30 rfl rfl) ?_
  refine os_lshl (hX9_doubleBits.at 31 rfl rfl) ?_
  refine os_dload_n (i := 2) (q := 2) (v := l2) 0 rfl rfl (hX9_doubleBits.at 32 rfl rfl) ?_
  refine os_dconst1 (hX9_doubleBits.at 33 rfl rfl) ?_
  refine os_guard (fun h1 => ?_)
  refine os_dsub (osn64_ok h1) (hX9_doubleBits.at 34 rfl rfl) ?_
  refine os_ldc2d (v := (4841369599423283200 : UInt64)) wd630 (hX9_doubleBits.at 35 rfl rfl) ?_
  refine os_guard (fun h2 => ?_)
  refine os_dmul (osn64_ok h2) (hX9_doubleBits.at 36 rfl rfl) ?_
  refine os_d2l (hX9_doubleBits.at 37 rfl rfl) ?_
  refine os_ladd (hX9_doubleBits.at 38 rfl rfl) ?_
  exact os_lret (Nat.le_of_ble_eq_true rfl) (Nat.le_of_ble_eq_true rfl) (hX9_doubleBits.at 39 rfl rfl).1
set_option maxRecDepth 100000 in
set_option maxHeartbeats 4000000 in
theorem tX9_doubleBits_18 (N : Nat) (c18 : UInt64 × Int64 × Int32 → osM Int64) (g18 : ∀ (l2 : UInt64) (l4 : Int64) (l6 : Int32), osW (osFinM (fun r : Int64 => some (.long r)) 0 0) yX9_doubleBits cX9_doubleBits 7 (some .long) [] { frames := 0, cells := 0, slots := 0, locals := 0 } 0 0 18 [(2, .double l2), (4, .long l4), (6, .int l6)] [] (c18 (l2, l4, l6))) (l2 : UInt64) (l4 : Int64) (l6 : Int32) : osW (osFinM (fun r : Int64 => some (.long r)) 0 0) yX9_doubleBits cX9_doubleBits 7 (some .long) [] { frames := 0, cells := 0, slots := 0, locals := 0 } 0 0 18 [(2, .double l2), (4, .long l4), (6, .int l6)] [] (bX9_doubleBits_18 N c18 l2 l4 l6) := by
  unfold bX9_doubleBits_18
  refine os_iload (v := l6) 2 rfl (hX9_doubleBits.at 12 rfl rfl) ?_
  refine os_sipush (i := 1022) (v := (1022 : Int32)) rfl (hX9_doubleBits.at 13 rfl rfl) ?_
  refine os_icmp_ge (off := 27) (tgt := 50) rfl (hX9_doubleBits.at 14 rfl rfl) ?_ ?_
  · exact osW.sub [0, 1] rfl (sX9_doubleBits_50 N l2 l4)
  · refine os_dload_n (i := 2) (q := 2) (v := l2) 0 rfl rfl (hX9_doubleBits.at 15 rfl rfl) ?_
    refine os_dconst1 (hX9_doubleBits.at 16 rfl rfl) ?_
    refine os_dcmp (op := .g) (hX9_doubleBits.at 17 rfl rfl) ?_
    refine os_if_ge (off := 21) (tgt := 50) rfl (hX9_doubleBits.at 18 rfl rfl) ?_ ?_
    · exact osW.sub [0, 1] rfl (sX9_doubleBits_50 N l2 l4)
    · refine os_dload_n (i := 2) (q := 2) (v := l2) 0 rfl rfl (hX9_doubleBits.at 19 rfl rfl) ?_
      refine os_ldc2d (v := (4611686018427387904 : UInt64)) wd629 (hX9_doubleBits.at 20 rfl rfl) ?_
      refine os_guard (fun h1 => ?_)
      refine os_dmul (osn64_ok h1) (hX9_doubleBits.at 21 rfl rfl) ?_
      refine os_nameD (fun x2 => ?_)
      refine os_dstore_n (i := 2) (q := 2) rfl (lv' := [(2, .double x2), (4, .long l4), (6, .int l6)]) (Nat.le_of_ble_eq_true rfl) rfl (hX9_doubleBits.at 22 rfl rfl) ?_
      refine os_lload (v := l4) 1 rfl (hX9_doubleBits.at 23 rfl rfl) ?_
      refine os_lconst (i := 1) (v := 1) rfl (hX9_doubleBits.at 24 rfl rfl) ?_
      refine os_lsub (hX9_doubleBits.at 25 rfl rfl) ?_
      refine os_lstore (i := 4) (lv' := [(4, .long (l4 - (1 : Int64))), (2, .double x2), (6, .int l6)]) (Nat.le_of_ble_eq_true rfl) rfl (hX9_doubleBits.at 26 rfl rfl) ?_
      refine os_iinc (i := 6) (d := 1) (x := l6) (v := (1 : Int32)) (lv' := [(6, .int (l6 + (1 : Int32))), (4, .long (l4 - (1 : Int64))), (2, .double x2)]) 2 rfl rfl (Nat.le_of_ble_eq_true rfl) rfl (hX9_doubleBits.at 27 rfl rfl) ?_
      refine os_goto (off := (-29)) (tgt := 18) rfl (hX9_doubleBits.at 28 rfl rfl) ?_
      exact osW.sub [2, 1, 0] rfl (g18 x2 (l4 - (1 : Int64)) (l6 + (1 : Int32)))
set_option maxRecDepth 100000 in
set_option maxHeartbeats 4000000 in
theorem sX9_doubleBits_18 (N : Nat) (l2 : UInt64) (l4 : Int64) (l6 : Int32) : osW (osFinM (fun r : Int64 => some (.long r)) 0 0) yX9_doubleBits cX9_doubleBits 7 (some .long) [] { frames := 0, cells := 0, slots := 0, locals := 0 } 0 0 18 [(2, .double l2), (4, .long l4), (6, .int l6)] [] (qX9_doubleBits_18 N (l2, l4, l6)) :=
  osloop_W (lvf := fun p => [(2, .double p.1), (4, .long p.2.1), (6, .int p.2.2)]) (stf := fun p => []) (fun ih g p => tX9_doubleBits_18 N ih (fun l2 l4 l6 => g (l2, l4, l6)) p.1 p.2.1 p.2.2) N (l2, l4, l6)
set_option maxRecDepth 100000 in
set_option maxHeartbeats 4000000 in
theorem sX9_doubleBits (N : Nat) (l0 : UInt64) : osMet yX9_doubleBits cX9_doubleBits 7 (some .long) 0 0 0 0 (fun r : Int64 => some (.long r)) [.double l0] (qX9_doubleBits N l0) := by
  refine osMet.of plX9 (Nat.le_of_ble_eq_true rfl) (osW.rw (lv2 := [(0, .double l0)]) ?_ rfl rfl rfl)
  unfold qX9_doubleBits
  refine os_dload_n (i := 0) (q := 0) (v := l0) 0 rfl rfl (hX9_doubleBits.at 0 rfl rfl) ?_
  refine os_dconst0 (hX9_doubleBits.at 1 rfl rfl) ?_
  refine os_dcmp (op := .l) (hX9_doubleBits.at 2 rfl rfl) ?_
  refine os_if_gt (off := 5) (tgt := 8) rfl (hX9_doubleBits.at 3 rfl rfl) ?_ ?_
  · refine os_dload_n (i := 0) (q := 0) (v := l0) 0 rfl rfl (hX9_doubleBits.at 6 rfl rfl) ?_
    refine os_dstore_n (i := 2) (q := 2) rfl (lv' := [(2, .double l0), (0, .double l0)]) (Nat.le_of_ble_eq_true rfl) rfl (hX9_doubleBits.at 7 rfl rfl) ?_
    refine os_ldc2 (v := (1023 : Int64)) wd628 (hX9_doubleBits.at 8 rfl rfl) ?_
    refine os_lstore (i := 4) (lv' := [(4, .long (1023 : Int64)), (2, .double l0), (0, .double l0)]) (Nat.le_of_ble_eq_true rfl) rfl (hX9_doubleBits.at 9 rfl rfl) ?_
    refine os_iconst (i := 0) (v := (0 : Int32)) rfl (hX9_doubleBits.at 10 rfl rfl) ?_
    refine os_istore (i := 6) (lv' := [(6, .int (0 : Int32)), (4, .long (1023 : Int64)), (2, .double l0), (0, .double l0)]) (Nat.le_of_ble_eq_true rfl) rfl (hX9_doubleBits.at 11 rfl rfl) ?_
    exact osW.sub [2, 1, 0] rfl (sX9_doubleBits_18 N l0 (1023 : Int64) (0 : Int32))
  · refine os_lconst (i := 0) (v := 0) rfl (hX9_doubleBits.at 4 rfl rfl) ?_
    exact os_lret (Nat.le_of_ble_eq_true rfl) (Nat.le_of_ble_eq_true rfl) (hX9_doubleBits.at 5 rfl rfl).1
-- X9_packedInput
def KX9_packedInput : List (Nat × Nat × Instr) := [(0, 1, .iload_n 1), (1, 1, .iconst 5), (2, 3, .if_icmp .le 5), (5, 1, .iconst 0), (6, 1, .ireturn), (7, 1, .iconst 0), (8, 1, .istore_n 2), (9, 1, .iconst 0), (10, 1, .istore_n 3), (11, 1, .iload_n 3), (12, 1, .iload_n 1), (13, 3, .if_icmp .ge 44), (16, 1, .iload_n 3), (17, 3, .sipush 1000), (20, 3, .if_icmp .ge 37), (23, 1, .aload_n 0), (24, 3, .getfield 9), (27, 1, .iload_n 3), (28, 1, .baload), (29, 3, .invokestatic 378), (32, 3, .ifCond .ne 5), (35, 1, .iconst 0), (36, 1, .ireturn), (37, 1, .iload_n 2), (38, 1, .iconst 5), (39, 1, .ishl), (40, 1, .aload_n 0), (41, 3, .getfield 9), (44, 1, .iload_n 3), (45, 1, .baload), (46, 3, .invokestatic 381), (49, 1, .iadd), (50, 1, .istore_n 2), (51, 3, .iinc 3 1), (54, 3, .goto (-43)), (57, 1, .iload_n 2), (58, 1, .ireturn)]
theorem hX9_packedInput : osDs cX9_packedInput KX9_packedInput := by
  show ∀ q ∈ KX9_packedInput, decode cX9_packedInput q.1 = .ok (q.2.2, q.2.1)
  decide +kernel
def qX9_packedInput_57 (N : Nat) (l2 : Int32) : osM Int32 := osret l2
def bX9_packedInput_11 (N : Nat) (c11 : Nat × Int32 × Int32 × Int32 → osM Int32) (l0 : Nat) (l1 : Int32) (l2 : Int32) (l3 : Int32) : osM Int32 := osite (l1 ≤ l3) (qX9_packedInput_57 N l2) (osite ((1000 : Int32) ≤ l3) (qX9_packedInput_57 N l2) (osbind (osgR [7] 0 l0) fun x1 => osbind (osaI 1 x1 l3) fun x2 => osbind (qX9_isLetter N x2) fun x3 => osite (x3 = 0) (osret (0 : Int32)) (osbind (osgR [7] 0 l0) fun x4 => osbind (osaI 1 x4 l3) fun x5 => osbind (qX9_letterNumber N x5) fun x6 => osbind (osret (((osshl l2 (5 : Int32)) + x6) : Int32)) fun x7 => c11 (l0, l1, x7, (l3 + (1 : Int32))))))
def qX9_packedInput_11 (N : Nat) : Nat × Int32 × Int32 × Int32 → osM Int32 := osloop (fun ih p => bX9_packedInput_11 N ih p.1 p.2.1 p.2.2.1 p.2.2.2) N
def qX9_packedInput (N : Nat) (l0 : Nat) (l1 : Int32) : osM Int32 := osite (l1 ≤ (5 : Int32)) (qX9_packedInput_11 N (l0, l1, (0 : Int32), (0 : Int32))) (osret (0 : Int32))
set_option maxRecDepth 100000 in
set_option maxHeartbeats 4000000 in
theorem sX9_packedInput_57 (N : Nat) (l2 : Int32) : osW (osFinM (fun r : Int32 => some (.int r)) 0 0) yX9_packedInput cX9_packedInput 4 (some .int) [] { frames := 1, cells := 0, slots := 0, locals := 20 } 0 0 57 [(2, .int l2)] [] (qX9_packedInput_57 N l2) := by
  unfold qX9_packedInput_57
  refine os_iload_n (i := 2) (q := 2) (v := l2) 0 rfl rfl (hX9_packedInput.at 35 rfl rfl) ?_
  exact os_iret (Nat.le_of_ble_eq_true rfl) (Nat.le_of_ble_eq_true rfl) (hX9_packedInput.at 36 rfl rfl).1
set_option maxRecDepth 100000 in
set_option maxHeartbeats 4000000 in
theorem tX9_packedInput_11 (N : Nat) (c11 : Nat × Int32 × Int32 × Int32 → osM Int32) (g11 : ∀ (l0 : Nat) (l1 : Int32) (l2 : Int32) (l3 : Int32), osW (osFinM (fun r : Int32 => some (.int r)) 0 0) yX9_packedInput cX9_packedInput 4 (some .int) [] { frames := 1, cells := 0, slots := 0, locals := 20 } 0 0 11 [(0, .ref l0), (1, .int l1), (2, .int l2), (3, .int l3)] [] (c11 (l0, l1, l2, l3))) (l0 : Nat) (l1 : Int32) (l2 : Int32) (l3 : Int32) : osW (osFinM (fun r : Int32 => some (.int r)) 0 0) yX9_packedInput cX9_packedInput 4 (some .int) [] { frames := 1, cells := 0, slots := 0, locals := 20 } 0 0 11 [(0, .ref l0), (1, .int l1), (2, .int l2), (3, .int l3)] [] (bX9_packedInput_11 N c11 l0 l1 l2 l3) := by
  unfold bX9_packedInput_11
  refine os_iload_n (i := 3) (q := 3) (v := l3) 3 rfl rfl (hX9_packedInput.at 9 rfl rfl) ?_
  refine os_iload_n (i := 1) (q := 1) (v := l1) 1 rfl rfl (hX9_packedInput.at 10 rfl rfl) ?_
  refine os_icmp_ge (off := 44) (tgt := 57) rfl (hX9_packedInput.at 11 rfl rfl) ?_ ?_
  · exact osW.sub [2] rfl (sX9_packedInput_57 N l2)
  · refine os_iload_n (i := 3) (q := 3) (v := l3) 3 rfl rfl (hX9_packedInput.at 12 rfl rfl) ?_
    refine os_sipush (i := 1000) (v := (1000 : Int32)) rfl (hX9_packedInput.at 13 rfl rfl) ?_
    refine os_icmp_ge (off := 37) (tgt := 57) rfl (hX9_packedInput.at 14 rfl rfl) ?_ ?_
    · exact osW.sub [2] rfl (sX9_packedInput_57 N l2)
    · refine os_aload_n (i := 0) (q := 0) (v := l0) 0 rfl rfl (hX9_packedInput.at 15 rfl rfl) ?_
      refine os_getR fX9_9 (hX9_packedInput.at 16 rfl rfl) (fun x1 => ?_)
      refine os_iload_n (i := 3) (q := 3) (v := l3) 3 rfl rfl (hX9_packedInput.at 17 rfl rfl) ?_
      refine os_baload (hX9_packedInput.at 18 rfl rfl) (fun x2 => ?_)
      refine os_callS (As := [.int x2]) (st := []) (st' := (fun r => .int r :: [])) mdX9_isLetter wd1211 wd1212 (sX9_isLetter N x2) rfl rfl (fun _ => rfl) (Nat.le_of_ble_eq_true rfl) (Nat.le_of_ble_eq_true rfl) (Nat.le_of_ble_eq_true rfl) rfl (Nat.le_of_ble_eq_true rfl) rfl (Nat.le_of_ble_eq_true rfl) (hX9_packedInput.at 19 rfl rfl) (fun x3 => ?_)
      refine os_if_ne (off := 5) (tgt := 37) rfl (hX9_packedInput.at 20 rfl rfl) ?_ ?_
      · refine os_iload_n (i := 2) (q := 2) (v := l2) 2 rfl rfl (hX9_packedInput.at 23 rfl rfl) ?_
        refine os_iconst (i := 5) (v := (5 : Int32)) rfl (hX9_packedInput.at 24 rfl rfl) ?_
        refine os_ishl (hX9_packedInput.at 25 rfl rfl) ?_
        refine os_aload_n (i := 0) (q := 0) (v := l0) 0 rfl rfl (hX9_packedInput.at 26 rfl rfl) ?_
        refine os_getR fX9_9 (hX9_packedInput.at 27 rfl rfl) (fun x4 => ?_)
        refine os_iload_n (i := 3) (q := 3) (v := l3) 3 rfl rfl (hX9_packedInput.at 28 rfl rfl) ?_
        refine os_baload (hX9_packedInput.at 29 rfl rfl) (fun x5 => ?_)
        refine os_callS (As := [.int x5]) (st := [.int (osshl l2 (5 : Int32))]) (st' := (fun r => .int r :: [.int (osshl l2 (5 : Int32))])) mdX9_letterNumber wd1214 wd1215 (sX9_letterNumber N x5) rfl rfl (fun _ => rfl) (Nat.le_of_ble_eq_true rfl) (Nat.le_of_ble_eq_true rfl) (Nat.le_of_ble_eq_true rfl) rfl (Nat.le_of_ble_eq_true rfl) rfl (Nat.le_of_ble_eq_true rfl) (hX9_packedInput.at 30 rfl rfl) (fun x6 => ?_)
        refine os_iadd (hX9_packedInput.at 31 rfl rfl) ?_
        refine os_nameI (fun x7 => ?_)
        refine os_istore_n (i := 2) (q := 2) rfl (lv' := [(2, .int x7), (0, .ref l0), (1, .int l1), (3, .int l3)]) (Nat.le_of_ble_eq_true rfl) rfl (hX9_packedInput.at 32 rfl rfl) ?_
        refine os_iinc (i := 3) (d := 1) (x := l3) (v := (1 : Int32)) (lv' := [(3, .int (l3 + (1 : Int32))), (2, .int x7), (0, .ref l0), (1, .int l1)]) 3 rfl rfl (Nat.le_of_ble_eq_true rfl) rfl (hX9_packedInput.at 33 rfl rfl) ?_
        refine os_goto (off := (-43)) (tgt := 11) rfl (hX9_packedInput.at 34 rfl rfl) ?_
        exact osW.sub [2, 3, 1, 0] rfl (g11 l0 l1 x7 (l3 + (1 : Int32)))
      · refine os_iconst (i := 0) (v := (0 : Int32)) rfl (hX9_packedInput.at 21 rfl rfl) ?_
        exact os_iret (Nat.le_of_ble_eq_true rfl) (Nat.le_of_ble_eq_true rfl) (hX9_packedInput.at 22 rfl rfl).1
set_option maxRecDepth 100000 in
set_option maxHeartbeats 4000000 in
theorem sX9_packedInput_11 (N : Nat) (l0 : Nat) (l1 : Int32) (l2 : Int32) (l3 : Int32) : osW (osFinM (fun r : Int32 => some (.int r)) 0 0) yX9_packedInput cX9_packedInput 4 (some .int) [] { frames := 1, cells := 0, slots := 0, locals := 20 } 0 0 11 [(0, .ref l0), (1, .int l1), (2, .int l2), (3, .int l3)] [] (qX9_packedInput_11 N (l0, l1, l2, l3)) :=
  osloop_W (lvf := fun p => [(0, .ref p.1), (1, .int p.2.1), (2, .int p.2.2.1), (3, .int p.2.2.2)]) (stf := fun p => []) (fun ih g p => tX9_packedInput_11 N ih (fun l0 l1 l2 l3 => g (l0, l1, l2, l3)) p.1 p.2.1 p.2.2.1 p.2.2.2) N (l0, l1, l2, l3)
set_option maxRecDepth 100000 in
set_option maxHeartbeats 4000000 in
theorem sX9_packedInput (N : Nat) (l0 : Nat) (l1 : Int32) : osMet yX9_packedInput cX9_packedInput 4 (some .int) 1 20 0 0 (fun r : Int32 => some (.int r)) [.ref l0, .int l1] (qX9_packedInput N l0 l1) := by
  refine osMet.of plX9 (Nat.le_of_ble_eq_true rfl) (osW.rw (lv2 := [(0, .ref l0), (1, .int l1)]) ?_ rfl rfl rfl)
  unfold qX9_packedInput
  refine os_iload_n (i := 1) (q := 1) (v := l1) 1 rfl rfl (hX9_packedInput.at 0 rfl rfl) ?_
  refine os_iconst (i := 5) (v := (5 : Int32)) rfl (hX9_packedInput.at 1 rfl rfl) ?_
  refine os_icmp_le (off := 5) (tgt := 7) rfl (hX9_packedInput.at 2 rfl rfl) ?_ ?_
  · refine os_iconst (i := 0) (v := (0 : Int32)) rfl (hX9_packedInput.at 5 rfl rfl) ?_
    refine os_istore_n (i := 2) (q := 2) rfl (lv' := [(2, .int (0 : Int32)), (0, .ref l0), (1, .int l1)]) (Nat.le_of_ble_eq_true rfl) rfl (hX9_packedInput.at 6 rfl rfl) ?_
    refine os_iconst (i := 0) (v := (0 : Int32)) rfl (hX9_packedInput.at 7 rfl rfl) ?_
    refine os_istore_n (i := 3) (q := 3) rfl (lv' := [(3, .int (0 : Int32)), (2, .int (0 : Int32)), (0, .ref l0), (1, .int l1)]) (Nat.le_of_ble_eq_true rfl) rfl (hX9_packedInput.at 8 rfl rfl) ?_
    exact osW.sub [2, 3, 1, 0] rfl (sX9_packedInput_11 N l0 l1 (0 : Int32) (0 : Int32))
  · refine os_iconst (i := 0) (v := (0 : Int32)) rfl (hX9_packedInput.at 3 rfl rfl) ?_
    exact os_iret (Nat.le_of_ble_eq_true rfl) (Nat.le_of_ble_eq_true rfl) (hX9_packedInput.at 4 rfl rfl).1
-- X9_remember
def KX9_remember : List (Nat × Nat × Instr) := [(0, 1, .aload_n 0), (1, 3, .getfield 57), (4, 2, .bipush 6), (6, 3, .if_icmp .lt 50), (9, 1, .aload_n 0), (10, 3, .getfield 53), (13, 1, .iconst 0), (14, 1, .aaload), (15, 1, .astore_n 1), (16, 1, .iconst 1), (17, 1, .istore_n 2), (18, 1, .iload_n 2), (19, 2, .bipush 6), (21, 3, .if_icmp .ge 23), (24, 1, .aload_n 0), (25, 3, .getfield 53), (28, 1, .iload_n 2), (29, 1, .iconst 1), (30, 1, .isub), (31, 1, .aload_n 0), (32, 3, .getfield 53), (35, 1, .iload_n 2), (36, 1, .aaload), (37, 1, .aastore), (38, 3, .iinc 2 1), (41, 3, .goto (-23)), (44, 1, .aload_n 0), (45, 3, .getfield 53), (48, 1, .iconst 5), (49, 1, .aload_n 1), (50, 1, .aastore), (51, 1, .aload_n 0), (52, 1, .iconst 5), (53, 3, .putfield 57), (56, 1, .aload_n 0), (57, 3, .getfield 57), (60, 3, .ifCond .lt 29), (63, 1, .aload_n 0), (64, 3, .getfield 53), (67, 1, .aload_n 0), (68, 3, .getfield 57), (71, 1, .aaload), (72, 1, .aload_n 0), (73, 3, .getfield 71), (76, 3, .invokevirtual 110), (79, 1, .aload_n 0), (80, 1, .dup), (81, 3, .getfield 57), (84, 1, .iconst 1), (85, 1, .iadd), (86, 3, .putfield 57), (89, 1, .return_)]
theorem hX9_remember : osDs cX9_remember KX9_remember := by
  show ∀ q ∈ KX9_remember, decode cX9_remember q.1 = .ok (q.2.2, q.2.1)
  decide +kernel
def qX9_remember_89 (N : Nat) : osM Unit := osret ()
def qX9_remember_56 (N : Nat) (l0 : Nat) : osM Unit := osbind (osgI [7] 9 l0) fun x1 => osite (x1 < 0) (qX9_remember_89 N ) (osbind (osgR [7] 8 l0) fun x2 => osbind (osgI [7] 9 l0) fun x3 => osbind (osaR 5 x2 x3) fun x4 => osbind (osgR [7] 12 l0) fun x5 => osbind (osrecv [5] x4 (qX5_copyFrom N x4 x5)) fun _ => osbind (osgI [7] 9 l0) fun x6 => osbind (osput [7] 9 l0 (.int (x6 + (1 : Int32)))) fun _ => qX9_remember_89 N )
def bX9_remember_18 (N : Nat) (c18 : Nat × Nat × Int32 → osM Unit) (l0 : Nat) (l1 : Nat) (l2 : Int32) : osM Unit := osite ((6 : Int32) ≤ l2) (osbind (osgR [7] 8 l0) fun x1 => osbind (ossQ 5 5 x1 (5 : Int32) l1) fun _ => osbind (osput [7] 9 l0 (.int (5 : Int32))) fun _ => qX9_remember_56 N l0) (osbind (osgR [7] 8 l0) fun x2 => osbind (osgR [7] 8 l0) fun x3 => osbind (osaR 5 x3 l2) fun x4 => osbind (ossQ 5 5 x2 (l2 - (1 : Int32)) x4) fun _ => c18 (l0, l1, (l2 + (1 : Int32))))
def qX9_remember_18 (N : Nat) : Nat × Nat × Int32 → osM Unit := osloop (fun ih p => bX9_remember_18 N ih p.1 p.2.1 p.2.2) N
def qX9_remember (N : Nat) (l0 : Nat) : osM Unit := osbind (osgI [7] 9 l0) fun x1 => osite (x1 < (6 : Int32)) (qX9_remember_56 N l0) (osbind (osgR [7] 8 l0) fun x2 => osbind (osaR 5 x2 (0 : Int32)) fun x3 => qX9_remember_18 N (l0, x3, (1 : Int32)))
set_option maxRecDepth 100000 in
set_option maxHeartbeats 4000000 in
theorem sX9_remember_89 (N : Nat) : osW (osFinM (fun _ : Unit => none) 0 0) yX9_remember cX9_remember 3 none [] { frames := 3, cells := 0, slots := 0, locals := 102 } 0 0 89 [] [] (qX9_remember_89 N) := by
  unfold qX9_remember_89
  exact os_vret (Nat.le_of_ble_eq_true rfl) (Nat.le_of_ble_eq_true rfl) (hX9_remember.at 51 rfl rfl).1
set_option maxRecDepth 100000 in
set_option maxHeartbeats 4000000 in
theorem sX9_remember_56 (N : Nat) (l0 : Nat) : osW (osFinM (fun _ : Unit => none) 0 0) yX9_remember cX9_remember 3 none [] { frames := 3, cells := 0, slots := 0, locals := 102 } 0 0 56 [(0, .ref l0)] [] (qX9_remember_56 N l0) := by
  unfold qX9_remember_56
  refine os_aload_n (i := 0) (q := 0) (v := l0) 0 rfl rfl (hX9_remember.at 34 rfl rfl) ?_
  refine os_getI fX9_57 (hX9_remember.at 35 rfl rfl) (fun x1 => ?_)
  refine os_if_lt (off := 29) (tgt := 89) rfl (hX9_remember.at 36 rfl rfl) ?_ ?_
  · exact osW.sub [] rfl (sX9_remember_89 N )
  · refine os_aload_n (i := 0) (q := 0) (v := l0) 0 rfl rfl (hX9_remember.at 37 rfl rfl) ?_
    refine os_getR fX9_53 (hX9_remember.at 38 rfl rfl) (fun x2 => ?_)
    refine os_aload_n (i := 0) (q := 0) (v := l0) 0 rfl rfl (hX9_remember.at 39 rfl rfl) ?_
    refine os_getI fX9_57 (hX9_remember.at 40 rfl rfl) (fun x3 => ?_)
    refine os_aaload (t := 5) (C := "OrderSettler$State") rfl (hX9_remember.at 41 rfl rfl) (fun x4 => ?_)
    refine os_aload_n (i := 0) (q := 0) (v := l0) 0 rfl rfl (hX9_remember.at 42 rfl rfl) ?_
    refine os_getR fX9_71 (hX9_remember.at 43 rfl rfl) (fun x5 => ?_)
    refine os_callV (cis := [5]) (b := x4) (As := [.ref x5]) (st := []) (st' := (fun _ => [])) sl5_X5_copyFrom_X5_copyFrom mdX5_copyFrom wd1001 wd1002 (sX5_copyFrom N x4 x5) rfl rfl (fun _ => rfl) (Nat.le_of_ble_eq_true rfl) (Nat.le_of_ble_eq_true rfl) (Nat.le_of_ble_eq_true rfl) rfl (Nat.le_of_ble_eq_true rfl) rfl (Nat.le_of_ble_eq_true rfl) (hX9_remember.at 44 rfl rfl) (fun _ => ?_)
    refine os_aload_n (i := 0) (q := 0) (v := l0) 0 rfl rfl (hX9_remember.at 45 rfl rfl) ?_
    refine os_dup rfl (hX9_remember.at 46 rfl rfl) ?_
    refine os_getI fX9_57 (hX9_remember.at 47 rfl rfl) (fun x6 => ?_)
    refine os_iconst (i := 1) (v := (1 : Int32)) rfl (hX9_remember.at 48 rfl rfl) ?_
    refine os_iadd (hX9_remember.at 49 rfl rfl) ?_
    refine os_put fX9_57 rfl rfl (hX9_remember.at 50 rfl rfl) ?_
    exact osW.sub [] rfl (sX9_remember_89 N )
set_option maxRecDepth 100000 in
set_option maxHeartbeats 4000000 in
theorem tX9_remember_18 (N : Nat) (c18 : Nat × Nat × Int32 → osM Unit) (g18 : ∀ (l0 : Nat) (l1 : Nat) (l2 : Int32), osW (osFinM (fun _ : Unit => none) 0 0) yX9_remember cX9_remember 3 none [] { frames := 3, cells := 0, slots := 0, locals := 102 } 0 0 18 [(0, .ref l0), (1, .ref l1), (2, .int l2)] [] (c18 (l0, l1, l2))) (l0 : Nat) (l1 : Nat) (l2 : Int32) : osW (osFinM (fun _ : Unit => none) 0 0) yX9_remember cX9_remember 3 none [] { frames := 3, cells := 0, slots := 0, locals := 102 } 0 0 18 [(0, .ref l0), (1, .ref l1), (2, .int l2)] [] (bX9_remember_18 N c18 l0 l1 l2) := by
  unfold bX9_remember_18
  refine os_iload_n (i := 2) (q := 2) (v := l2) 2 rfl rfl (hX9_remember.at 11 rfl rfl) ?_
  refine os_bipush (i := 6) (v := (6 : Int32)) rfl (hX9_remember.at 12 rfl rfl) ?_
  refine os_icmp_ge (off := 23) (tgt := 44) rfl (hX9_remember.at 13 rfl rfl) ?_ ?_
  · refine os_aload_n (i := 0) (q := 0) (v := l0) 0 rfl rfl (hX9_remember.at 26 rfl rfl) ?_
    refine os_getR fX9_53 (hX9_remember.at 27 rfl rfl) (fun x1 => ?_)
    refine os_iconst (i := 5) (v := (5 : Int32)) rfl (hX9_remember.at 28 rfl rfl) ?_
    refine os_aload_n (i := 1) (q := 1) (v := l1) 1 rfl rfl (hX9_remember.at 29 rfl rfl) ?_
    refine os_aastore (t := 5) (ci := 5) rfl rfl (hX9_remember.at 30 rfl rfl) ?_
    refine os_aload_n (i := 0) (q := 0) (v := l0) 0 rfl rfl (hX9_remember.at 31 rfl rfl) ?_
    refine os_iconst (i := 5) (v := (5 : Int32)) rfl (hX9_remember.at 32 rfl rfl) ?_
    refine os_put fX9_57 rfl rfl (hX9_remember.at 33 rfl rfl) ?_
    exact osW.sub [0] rfl (sX9_remember_56 N l0)
  · refine os_aload_n (i := 0) (q := 0) (v := l0) 0 rfl rfl (hX9_remember.at 14 rfl rfl) ?_
    refine os_getR fX9_53 (hX9_remember.at 15 rfl rfl) (fun x2 => ?_)
    refine os_iload_n (i := 2) (q := 2) (v := l2) 2 rfl rfl (hX9_remember.at 16 rfl rfl) ?_
    refine os_iconst (i := 1) (v := (1 : Int32)) rfl (hX9_remember.at 17 rfl rfl) ?_
    refine os_isub (hX9_remember.at 18 rfl rfl) ?_
    refine os_aload_n (i := 0) (q := 0) (v := l0) 0 rfl rfl (hX9_remember.at 19 rfl rfl) ?_
    refine os_getR fX9_53 (hX9_remember.at 20 rfl rfl) (fun x3 => ?_)
    refine os_iload_n (i := 2) (q := 2) (v := l2) 2 rfl rfl (hX9_remember.at 21 rfl rfl) ?_
    refine os_aaload (t := 5) (C := "OrderSettler$State") rfl (hX9_remember.at 22 rfl rfl) (fun x4 => ?_)
    refine os_aastore (t := 5) (ci := 5) rfl rfl (hX9_remember.at 23 rfl rfl) ?_
    refine os_iinc (i := 2) (d := 1) (x := l2) (v := (1 : Int32)) (lv' := [(2, .int (l2 + (1 : Int32))), (0, .ref l0), (1, .ref l1)]) 2 rfl rfl (Nat.le_of_ble_eq_true rfl) rfl (hX9_remember.at 24 rfl rfl) ?_
    refine os_goto (off := (-23)) (tgt := 18) rfl (hX9_remember.at 25 rfl rfl) ?_
    exact osW.sub [1, 2, 0] rfl (g18 l0 l1 (l2 + (1 : Int32)))
set_option maxRecDepth 100000 in
set_option maxHeartbeats 4000000 in
theorem sX9_remember_18 (N : Nat) (l0 : Nat) (l1 : Nat) (l2 : Int32) : osW (osFinM (fun _ : Unit => none) 0 0) yX9_remember cX9_remember 3 none [] { frames := 3, cells := 0, slots := 0, locals := 102 } 0 0 18 [(0, .ref l0), (1, .ref l1), (2, .int l2)] [] (qX9_remember_18 N (l0, l1, l2)) :=
  osloop_W (lvf := fun p => [(0, .ref p.1), (1, .ref p.2.1), (2, .int p.2.2)]) (stf := fun p => []) (fun ih g p => tX9_remember_18 N ih (fun l0 l1 l2 => g (l0, l1, l2)) p.1 p.2.1 p.2.2) N (l0, l1, l2)
set_option maxRecDepth 100000 in
set_option maxHeartbeats 4000000 in
theorem sX9_remember (N : Nat) (l0 : Nat) : osMet yX9_remember cX9_remember 3 none 3 102 0 0 (fun _ : Unit => none) [.ref l0] (qX9_remember N l0) := by
  refine osMet.of plX9 (Nat.le_of_ble_eq_true rfl) (osW.rw (lv2 := [(0, .ref l0)]) ?_ rfl rfl rfl)
  unfold qX9_remember
  refine os_aload_n (i := 0) (q := 0) (v := l0) 0 rfl rfl (hX9_remember.at 0 rfl rfl) ?_
  refine os_getI fX9_57 (hX9_remember.at 1 rfl rfl) (fun x1 => ?_)
  refine os_bipush (i := 6) (v := (6 : Int32)) rfl (hX9_remember.at 2 rfl rfl) ?_
  refine os_icmp_lt (off := 50) (tgt := 56) rfl (hX9_remember.at 3 rfl rfl) ?_ ?_
  · exact osW.sub [0] rfl (sX9_remember_56 N l0)
  · refine os_aload_n (i := 0) (q := 0) (v := l0) 0 rfl rfl (hX9_remember.at 4 rfl rfl) ?_
    refine os_getR fX9_53 (hX9_remember.at 5 rfl rfl) (fun x2 => ?_)
    refine os_iconst (i := 0) (v := (0 : Int32)) rfl (hX9_remember.at 6 rfl rfl) ?_
    refine os_aaload (t := 5) (C := "OrderSettler$State") rfl (hX9_remember.at 7 rfl rfl) (fun x3 => ?_)
    refine os_astore_n (i := 1) (q := 1) rfl (lv' := [(1, .ref x3), (0, .ref l0)]) (Nat.le_of_ble_eq_true rfl) rfl (hX9_remember.at 8 rfl rfl) ?_
    refine os_iconst (i := 1) (v := (1 : Int32)) rfl (hX9_remember.at 9 rfl rfl) ?_
    refine os_istore_n (i := 2) (q := 2) rfl (lv' := [(2, .int (1 : Int32)), (1, .ref x3), (0, .ref l0)]) (Nat.le_of_ble_eq_true rfl) rfl (hX9_remember.at 10 rfl rfl) ?_
    exact osW.sub [2, 1, 0] rfl (sX9_remember_18 N l0 x3 (1 : Int32))
-- X9_shareOf
def KX9_shareOf : List (Nat × Nat × Instr) := [(0, 1, .aload_n 0), (1, 3, .getfield 63), (4, 3, .getfield 136), (7, 3, .invokestatic 243), (10, 1, .istore_n 2), (11, 1, .iload_n 2), (12, 3, .ifCond .ne 5), (15, 1, .fconst 0), (16, 1, .freturn), (17, 1, .aload_n 0), (18, 3, .getfield 71), (21, 1, .iload_n 1), (22, 3, .invokevirtual 188), (25, 1, .i2f), (26, 1, .iload_n 2), (27, 1, .i2f), (28, 1, .fdiv), (29, 1, .freturn)]
theorem hX9_shareOf : osDs cX9_shareOf KX9_shareOf := by
  show ∀ q ∈ KX9_shareOf, decode cX9_shareOf q.1 = .ok (q.2.2, q.2.1)
  decide +kernel
def qX9_shareOf (N : Nat) (l0 : Nat) (l1 : Int32) : osM UInt32 := osbind (osgR [7] 10 l0) fun x1 => osbind (osgI [0] 4 x1) fun x2 => osbind (qJ6_bitCount_0f7a4 N x2) fun x3 => osite (x3 = 0) (osret (0 : UInt32)) (osbind (osgR [7] 12 l0) fun x4 => osbind (osrecv [5] x4 (qX5_countCenters N x4 l1)) fun x5 => osguard (osn32 (FP.fdiv (FP.i2f x5) (FP.i2f x3))) (osret (FP.fdiv (FP.i2f x5) (FP.i2f x3))))
set_option maxRecDepth 100000 in
set_option maxHeartbeats 4000000 in
theorem sX9_shareOf (N : Nat) (l0 : Nat) (l1 : Int32) : osMet yX9_shareOf cX9_shareOf 3 (some .float) 2 44 0 0 (fun r : UInt32 => some (.float r)) [.ref l0, .int l1] (qX9_shareOf N l0 l1) := by
  refine osMet.of plX9 (Nat.le_of_ble_eq_true rfl) (osW.rw (lv2 := [(0, .ref l0), (1, .int l1)]) ?_ rfl rfl rfl)
  unfold qX9_shareOf
  refine os_aload_n (i := 0) (q := 0) (v := l0) 0 rfl rfl (hX9_shareOf.at 0 rfl rfl) ?_
  refine os_getR fX9_63 (hX9_shareOf.at 1 rfl rfl) (fun x1 => ?_)
  refine os_getI fX9_136 (hX9_shareOf.at 2 rfl rfl) (fun x2 => ?_)
  refine os_callS (As := [.int x2]) (st := []) (st' := (fun r => .int r :: [])) mdJ6_bitCount_0f7a4 wd608 wd609 (sJ6_bitCount_0f7a4 N x2) rfl rfl (fun _ => rfl) (Nat.le_of_ble_eq_true rfl) (Nat.le_of_ble_eq_true rfl) (Nat.le_of_ble_eq_true rfl) rfl (Nat.le_of_ble_eq_true rfl) rfl (Nat.le_of_ble_eq_true rfl) (hX9_shareOf.at 3 rfl rfl) (fun x3 => ?_)
  refine os_istore_n (i := 2) (q := 2) rfl (lv' := [(2, .int x3), (0, .ref l0), (1, .int l1)]) (Nat.le_of_ble_eq_true rfl) rfl (hX9_shareOf.at 4 rfl rfl) ?_
  refine os_iload_n (i := 2) (q := 2) (v := x3) 0 rfl rfl (hX9_shareOf.at 5 rfl rfl) ?_
  refine os_if_ne (off := 5) (tgt := 17) rfl (hX9_shareOf.at 6 rfl rfl) ?_ ?_
  · refine os_aload_n (i := 0) (q := 0) (v := l0) 1 rfl rfl (hX9_shareOf.at 9 rfl rfl) ?_
    refine os_getR fX9_71 (hX9_shareOf.at 10 rfl rfl) (fun x4 => ?_)
    refine os_iload_n (i := 1) (q := 1) (v := l1) 2 rfl rfl (hX9_shareOf.at 11 rfl rfl) ?_
    refine os_callV (cis := [5]) (b := x4) (As := [.int l1]) (st := []) (st' := (fun r => .int r :: [])) sl5_X5_countCenters_X5_countCenters mdX5_countCenters wd614 wd615 (sX5_countCenters N x4 l1) rfl rfl (fun _ => rfl) (Nat.le_of_ble_eq_true rfl) (Nat.le_of_ble_eq_true rfl) (Nat.le_of_ble_eq_true rfl) rfl (Nat.le_of_ble_eq_true rfl) rfl (Nat.le_of_ble_eq_true rfl) (hX9_shareOf.at 12 rfl rfl) (fun x5 => ?_)
    refine os_i2f (hX9_shareOf.at 13 rfl rfl) ?_
    refine os_iload_n (i := 2) (q := 2) (v := x3) 0 rfl rfl (hX9_shareOf.at 14 rfl rfl) ?_
    refine os_i2f (hX9_shareOf.at 15 rfl rfl) ?_
    refine os_guard (fun h6 => ?_)
    refine os_fdiv (osn32_ok h6) (hX9_shareOf.at 16 rfl rfl) ?_
    exact os_fret (Nat.le_of_ble_eq_true rfl) (Nat.le_of_ble_eq_true rfl) (hX9_shareOf.at 17 rfl rfl).1
  · refine os_fconst0 (hX9_shareOf.at 7 rfl rfl) ?_
    exact os_fret (Nat.le_of_ble_eq_true rfl) (Nat.le_of_ble_eq_true rfl) (hX9_shareOf.at 8 rfl rfl).1
-- X9_sumOfSquares
def KX9_sumOfSquares : List (Nat × Nat × Instr) := [(0, 1, .aload_n 0), (1, 3, .getfield 63), (4, 3, .getfield 136), (7, 3, .invokestatic 243), (10, 1, .istore_n 1), (11, 1, .iload_n 1), (12, 3, .ifCond .ne 5), (15, 1, .dconst 0), (16, 1, .dreturn), (17, 1, .dconst 0), (18, 1, .dstore_n 2), (19, 1, .iconst 0), (20, 2, .istore 4), (22, 2, .iload 4), (24, 1, .aload_n 0), (25, 3, .getfield 63), (28, 3, .getfield 123), (31, 3, .if_icmp .ge 32), (34, 1, .aload_n 0), (35, 3, .getfield 71), (38, 2, .iload 4), (40, 3, .invokevirtual 188), (43, 1, .i2d), (44, 1, .iload_n 1), (45, 1, .i2d), (46, 1, .ddiv), (47, 2, .dstore 5), (49, 1, .dload_n 2), (50, 2, .dload 5), (52, 2, .dload 5), (54, 1, .dmul), (55, 1, .dadd), (56, 1, .dstore_n 2), (57, 3, .iinc 4 1), (60, 3, .goto (-38)), (63, 1, .dload_n 2), (64, 1, .dreturn)]
theorem hX9_sumOfSquares : osDs cX9_sumOfSquares KX9_sumOfSquares := by
  show ∀ q ∈ KX9_sumOfSquares, decode cX9_sumOfSquares q.1 = .ok (q.2.2, q.2.1)
  decide +kernel
def bX9_sumOfSquares_22 (N : Nat) (c22 : Nat × Int32 × UInt64 × Int32 → osM UInt64) (l0 : Nat) (l1 : Int32) (l2 : UInt64) (l4 : Int32) : osM UInt64 := osbind (osgR [7] 10 l0) fun x1 => osbind (osgI [0] 1 x1) fun x2 => osite (x2 ≤ l4) (osret l2) (osbind (osgR [7] 12 l0) fun x3 => osbind (osrecv [5] x3 (qX5_countCenters N x3 l4)) fun x4 => osguard (osn64 (FP.ddiv (FP.i2d x4) (FP.i2d l1))) (osbind (osret ((FP.ddiv (FP.i2d x4) (FP.i2d l1)) : UInt64)) fun x6 => osguard (osn64 (FP.dmul x6 x6)) (osguard (osn64 (FP.dadd l2 (FP.dmul x6 x6))) (osbind (osret ((FP.dadd l2 (FP.dmul x6 x6)) : UInt64)) fun x9 => c22 (l0, l1, x9, (l4 + (1 : Int32)))))))
def qX9_sumOfSquares_22 (N : Nat) : Nat × Int32 × UInt64 × Int32 → osM UInt64 := osloop (fun ih p => bX9_sumOfSquares_22 N ih p.1 p.2.1 p.2.2.1 p.2.2.2) N
def qX9_sumOfSquares (N : Nat) (l0 : Nat) : osM UInt64 := osbind (osgR [7] 10 l0) fun x1 => osbind (osgI [0] 4 x1) fun x2 => osbind (qJ6_bitCount_0f7a4 N x2) fun x3 => osite (x3 = 0) (osret (0 : UInt64)) (qX9_sumOfSquares_22 N (l0, x3, (0 : UInt64), (0 : Int32)))
set_option maxRecDepth 100000 in
set_option maxHeartbeats 4000000 in
theorem tX9_sumOfSquares_22 (N : Nat) (c22 : Nat × Int32 × UInt64 × Int32 → osM UInt64) (g22 : ∀ (l0 : Nat) (l1 : Int32) (l2 : UInt64) (l4 : Int32), osW (osFinM (fun r : UInt64 => some (.double r)) 0 0) yX9_sumOfSquares cX9_sumOfSquares 7 (some .double) [] { frames := 2, cells := 0, slots := 0, locals := 44 } 0 0 22 [(0, .ref l0), (1, .int l1), (2, .double l2), (4, .int l4)] [] (c22 (l0, l1, l2, l4))) (l0 : Nat) (l1 : Int32) (l2 : UInt64) (l4 : Int32) : osW (osFinM (fun r : UInt64 => some (.double r)) 0 0) yX9_sumOfSquares cX9_sumOfSquares 7 (some .double) [] { frames := 2, cells := 0, slots := 0, locals := 44 } 0 0 22 [(0, .ref l0), (1, .int l1), (2, .double l2), (4, .int l4)] [] (bX9_sumOfSquares_22 N c22 l0 l1 l2 l4) := by
  unfold bX9_sumOfSquares_22
  refine os_iload (v := l4) 3 rfl (hX9_sumOfSquares.at 13 rfl rfl) ?_
  refine os_aload_n (i := 0) (q := 0) (v := l0) 0 rfl rfl (hX9_sumOfSquares.at 14 rfl rfl) ?_
  refine os_getR fX9_63 (hX9_sumOfSquares.at 15 rfl rfl) (fun x1 => ?_)
  refine os_getI fX9_123 (hX9_sumOfSquares.at 16 rfl rfl) (fun x2 => ?_)
  refine os_icmp_ge (off := 32) (tgt := 63) rfl (hX9_sumOfSquares.at 17 rfl rfl) ?_ ?_
  · refine os_dload_n (i := 2) (q := 2) (v := l2) 2 rfl rfl (hX9_sumOfSquares.at 35 rfl rfl) ?_
    exact os_dret (Nat.le_of_ble_eq_true rfl) (Nat.le_of_ble_eq_true rfl) (hX9_sumOfSquares.at 36 rfl rfl).1
  · refine os_aload_n (i := 0) (q := 0) (v := l0) 0 rfl rfl (hX9_sumOfSquares.at 18 rfl rfl) ?_
    refine os_getR fX9_71 (hX9_sumOfSquares.at 19 rfl rfl) (fun x3 => ?_)
    refine os_iload (v := l4) 3 rfl (hX9_sumOfSquares.at 20 rfl rfl) ?_
    refine os_callV (cis := [5]) (b := x3) (As := [.int l4]) (st := []) (st' := (fun r => .int r :: [])) sl5_X5_countCenters_X5_countCenters mdX5_countCenters wd614 wd615 (sX5_countCenters N x3 l4) rfl rfl (fun _ => rfl) (Nat.le_of_ble_eq_true rfl) (Nat.le_of_ble_eq_true rfl) (Nat.le_of_ble_eq_true rfl) rfl (Nat.le_of_ble_eq_true rfl) rfl (Nat.le_of_ble_eq_true rfl) (hX9_sumOfSquares.at 21 rfl rfl) (fun x4 => ?_)
    refine os_i2d (hX9_sumOfSquares.at 22 rfl rfl) ?_
    refine os_iload_n (i := 1) (q := 1) (v := l1) 1 rfl rfl (hX9_sumOfSquares.at 23 rfl rfl) ?_
    refine os_i2d (hX9_sumOfSquares.at 24 rfl rfl) ?_
    refine os_guard (fun h5 => ?_)
    refine os_ddiv (osn64_ok h5) (hX9_sumOfSquares.at 25 rfl rfl) ?_
    refine os_nameD (fun x6 => ?_)
    refine os_dstore (i := 5) (lv' := [(5, .double x6), (0, .ref l0), (1, .int l1), (2, .double l2), (4, .int l4)]) (Nat.le_of_ble_eq_true rfl) rfl (hX9_sumOfSquares.at 26 rfl rfl) ?_
    refine os_dload_n (i := 2) (q := 2) (v := l2) 3 rfl rfl (hX9_sumOfSquares.at 27 rfl rfl) ?_
    refine os_dload (v := x6) 0 rfl (hX9_sumOfSquares.at 28 rfl rfl) ?_
    refine os_dload (v := x6) 0 rfl (hX9_sumOfSquares.at 29 rfl rfl) ?_
    refine os_guard (fun h7 => ?_)
    refine os_dmul (osn64_ok h7) (hX9_sumOfSquares.at 30 rfl rfl) ?_
    refine os_guard (fun h8 => ?_)
    refine os_dadd (osn64_ok h8) (hX9_sumOfSquares.at 31 rfl rfl) ?_
    refine os_nameD (fun x9 => ?_)
    refine os_dstore_n (i := 2) (q := 2) rfl (lv' := [(2, .double x9), (5, .double x6), (0, .ref l0), (1, .int l1), (4, .int l4)]) (Nat.le_of_ble_eq_true rfl) rfl (hX9_sumOfSquares.at 32 rfl rfl) ?_
    refine os_iinc (i := 4) (d := 1) (x := l4) (v := (1 : Int32)) (lv' := [(4, .int (l4 + (1 : Int32))), (2, .double x9), (5, .double x6), (0, .ref l0), (1, .int l1)]) 4 rfl rfl (Nat.le_of_ble_eq_true rfl) rfl (hX9_sumOfSquares.at 33 rfl rfl) ?_
    refine os_goto (off := (-38)) (tgt := 22) rfl (hX9_sumOfSquares.at 34 rfl rfl) ?_
    exact osW.sub [3, 4, 1, 0] rfl (g22 l0 l1 x9 (l4 + (1 : Int32)))
set_option maxRecDepth 100000 in
set_option maxHeartbeats 4000000 in
theorem sX9_sumOfSquares_22 (N : Nat) (l0 : Nat) (l1 : Int32) (l2 : UInt64) (l4 : Int32) : osW (osFinM (fun r : UInt64 => some (.double r)) 0 0) yX9_sumOfSquares cX9_sumOfSquares 7 (some .double) [] { frames := 2, cells := 0, slots := 0, locals := 44 } 0 0 22 [(0, .ref l0), (1, .int l1), (2, .double l2), (4, .int l4)] [] (qX9_sumOfSquares_22 N (l0, l1, l2, l4)) :=
  osloop_W (lvf := fun p => [(0, .ref p.1), (1, .int p.2.1), (2, .double p.2.2.1), (4, .int p.2.2.2)]) (stf := fun p => []) (fun ih g p => tX9_sumOfSquares_22 N ih (fun l0 l1 l2 l4 => g (l0, l1, l2, l4)) p.1 p.2.1 p.2.2.1 p.2.2.2) N (l0, l1, l2, l4)
set_option maxRecDepth 100000 in
set_option maxHeartbeats 4000000 in
theorem sX9_sumOfSquares (N : Nat) (l0 : Nat) : osMet yX9_sumOfSquares cX9_sumOfSquares 7 (some .double) 2 44 0 0 (fun r : UInt64 => some (.double r)) [.ref l0] (qX9_sumOfSquares N l0) := by
  refine osMet.of plX9 (Nat.le_of_ble_eq_true rfl) (osW.rw (lv2 := [(0, .ref l0)]) ?_ rfl rfl rfl)
  unfold qX9_sumOfSquares
  refine os_aload_n (i := 0) (q := 0) (v := l0) 0 rfl rfl (hX9_sumOfSquares.at 0 rfl rfl) ?_
  refine os_getR fX9_63 (hX9_sumOfSquares.at 1 rfl rfl) (fun x1 => ?_)
  refine os_getI fX9_136 (hX9_sumOfSquares.at 2 rfl rfl) (fun x2 => ?_)
  refine os_callS (As := [.int x2]) (st := []) (st' := (fun r => .int r :: [])) mdJ6_bitCount_0f7a4 wd608 wd609 (sJ6_bitCount_0f7a4 N x2) rfl rfl (fun _ => rfl) (Nat.le_of_ble_eq_true rfl) (Nat.le_of_ble_eq_true rfl) (Nat.le_of_ble_eq_true rfl) rfl (Nat.le_of_ble_eq_true rfl) rfl (Nat.le_of_ble_eq_true rfl) (hX9_sumOfSquares.at 3 rfl rfl) (fun x3 => ?_)
  refine os_istore_n (i := 1) (q := 1) rfl (lv' := [(1, .int x3), (0, .ref l0)]) (Nat.le_of_ble_eq_true rfl) rfl (hX9_sumOfSquares.at 4 rfl rfl) ?_
  refine os_iload_n (i := 1) (q := 1) (v := x3) 0 rfl rfl (hX9_sumOfSquares.at 5 rfl rfl) ?_
  refine os_if_ne (off := 5) (tgt := 17) rfl (hX9_sumOfSquares.at 6 rfl rfl) ?_ ?_
  · refine os_dconst0 (hX9_sumOfSquares.at 9 rfl rfl) ?_
    refine os_dstore_n (i := 2) (q := 2) rfl (lv' := [(2, .double (0 : UInt64)), (1, .int x3), (0, .ref l0)]) (Nat.le_of_ble_eq_true rfl) rfl (hX9_sumOfSquares.at 10 rfl rfl) ?_
    refine os_iconst (i := 0) (v := (0 : Int32)) rfl (hX9_sumOfSquares.at 11 rfl rfl) ?_
    refine os_istore (i := 4) (lv' := [(4, .int (0 : Int32)), (2, .double (0 : UInt64)), (1, .int x3), (0, .ref l0)]) (Nat.le_of_ble_eq_true rfl) rfl (hX9_sumOfSquares.at 12 rfl rfl) ?_
    exact osW.sub [3, 2, 1, 0] rfl (sX9_sumOfSquares_22 N l0 x3 (0 : UInt64) (0 : Int32))
  · refine os_dconst0 (hX9_sumOfSquares.at 7 rfl rfl) ?_
    exact os_dret (Nat.le_of_ble_eq_true rfl) (Nat.le_of_ble_eq_true rfl) (hX9_sumOfSquares.at 8 rfl rfl).1
-- X4_putText
def KX4_putText : List (Nat × Nat × Instr) := [(0, 1, .iconst 0), (1, 1, .istore_n 2), (2, 1, .iload_n 2), (3, 1, .aload_n 1), (4, 3, .invokevirtual 19), (7, 3, .if_icmp .ge 18), (10, 1, .aload_n 0), (11, 1, .aload_n 1), (12, 1, .iload_n 2), (13, 3, .invokevirtual 24), (16, 3, .invokevirtual 28), (19, 3, .iinc 2 1), (22, 3, .goto (-20)), (25, 1, .return_)]
theorem hX4_putText : osDs cX4_putText KX4_putText := by
  show ∀ q ∈ KX4_putText, decode cX4_putText q.1 = .ok (q.2.2, q.2.1)
  decide +kernel
def bX4_putText_2 (N : Nat) (c2 : Nat × Nat × Int32 → osM Unit) (l0 : Nat) (l1 : Nat) (l2 : Int32) : osM Unit := osbind (osonstr l1 (qJ0_length_8abf5 N l1)) fun x1 => osite (x1 ≤ l2) (osret ()) (osbind (osonstr l1 (qJ0_charAt_5068e N l1 l2)) fun x2 => osbind (osrecv [4] l0 (qX4_putByte N l0 x2)) fun _ => c2 (l0, l1, (l2 + (1 : Int32))))
def qX4_putText_2 (N : Nat) : Nat × Nat × Int32 → osM Unit := osloop (fun ih p => bX4_putText_2 N ih p.1 p.2.1 p.2.2) N
def qX4_putText (N : Nat) (l0 : Nat) (l1 : Nat) : osM Unit := qX4_putText_2 N (l0, l1, (0 : Int32))
set_option maxRecDepth 100000 in
set_option maxHeartbeats 4000000 in
theorem tX4_putText_2 (N : Nat) (c2 : Nat × Nat × Int32 → osM Unit) (g2 : ∀ (l0 : Nat) (l1 : Nat) (l2 : Int32), osW (osFinM (fun _ : Unit => none) 0 0) yX4_putText cX4_putText 3 none [] { frames := 4, cells := 0, slots := 0, locals := 85 } 0 0 2 [(0, .ref l0), (1, .ref l1), (2, .int l2)] [] (c2 (l0, l1, l2))) (l0 : Nat) (l1 : Nat) (l2 : Int32) : osW (osFinM (fun _ : Unit => none) 0 0) yX4_putText cX4_putText 3 none [] { frames := 4, cells := 0, slots := 0, locals := 85 } 0 0 2 [(0, .ref l0), (1, .ref l1), (2, .int l2)] [] (bX4_putText_2 N c2 l0 l1 l2) := by
  unfold bX4_putText_2
  refine os_iload_n (i := 2) (q := 2) (v := l2) 2 rfl rfl (hX4_putText.at 2 rfl rfl) ?_
  refine os_aload_n (i := 1) (q := 1) (v := l1) 1 rfl rfl (hX4_putText.at 3 rfl rfl) ?_
  refine os_callStr (b := l1) (As := []) (st := [.int l2]) (st' := (fun r => .int r :: [.int l2])) wd659 mdJ0_length_8abf5 wd657 wd658 (sJ0_length_8abf5 N l1 ) rfl rfl (fun _ => rfl) (Nat.le_of_ble_eq_true rfl) (Nat.le_of_ble_eq_true rfl) (Nat.le_of_ble_eq_true rfl) rfl (Nat.le_of_ble_eq_true rfl) rfl (Nat.le_of_ble_eq_true rfl) (hX4_putText.at 4 rfl rfl) (fun x1 => ?_)
  refine os_icmp_ge (off := 18) (tgt := 25) rfl (hX4_putText.at 5 rfl rfl) ?_ ?_
  · exact os_vret (Nat.le_of_ble_eq_true rfl) (Nat.le_of_ble_eq_true rfl) (hX4_putText.at 13 rfl rfl).1
  · refine os_aload_n (i := 0) (q := 0) (v := l0) 0 rfl rfl (hX4_putText.at 6 rfl rfl) ?_
    refine os_aload_n (i := 1) (q := 1) (v := l1) 1 rfl rfl (hX4_putText.at 7 rfl rfl) ?_
    refine os_iload_n (i := 2) (q := 2) (v := l2) 2 rfl rfl (hX4_putText.at 8 rfl rfl) ?_
    refine os_callStr (b := l1) (As := [.int l2]) (st := [.ref l0]) (st' := (fun r => .int r :: [.ref l0])) wd669 mdJ0_charAt_5068e wd667 wd668 (sJ0_charAt_5068e N l1 l2) rfl rfl (fun _ => rfl) (Nat.le_of_ble_eq_true rfl) (Nat.le_of_ble_eq_true rfl) (Nat.le_of_ble_eq_true rfl) rfl (Nat.le_of_ble_eq_true rfl) rfl (Nat.le_of_ble_eq_true rfl) (hX4_putText.at 9 rfl rfl) (fun x2 => ?_)
    refine os_callV (cis := [4]) (b := l0) (As := [.int x2]) (st := []) (st' := (fun _ => [])) sl4_X4_putByte_X4_putByte mdX4_putByte wd647 wd648 (sX4_putByte N l0 x2) rfl rfl (fun _ => rfl) (Nat.le_of_ble_eq_true rfl) (Nat.le_of_ble_eq_true rfl) (Nat.le_of_ble_eq_true rfl) rfl (Nat.le_of_ble_eq_true rfl) rfl (Nat.le_of_ble_eq_true rfl) (hX4_putText.at 10 rfl rfl) (fun _ => ?_)
    refine os_iinc (i := 2) (d := 1) (x := l2) (v := (1 : Int32)) (lv' := [(2, .int (l2 + (1 : Int32))), (0, .ref l0), (1, .ref l1)]) 2 rfl rfl (Nat.le_of_ble_eq_true rfl) rfl (hX4_putText.at 11 rfl rfl) ?_
    refine os_goto (off := (-20)) (tgt := 2) rfl (hX4_putText.at 12 rfl rfl) ?_
    exact osW.sub [1, 2, 0] rfl (g2 l0 l1 (l2 + (1 : Int32)))
set_option maxRecDepth 100000 in
set_option maxHeartbeats 4000000 in
theorem sX4_putText_2 (N : Nat) (l0 : Nat) (l1 : Nat) (l2 : Int32) : osW (osFinM (fun _ : Unit => none) 0 0) yX4_putText cX4_putText 3 none [] { frames := 4, cells := 0, slots := 0, locals := 85 } 0 0 2 [(0, .ref l0), (1, .ref l1), (2, .int l2)] [] (qX4_putText_2 N (l0, l1, l2)) :=
  osloop_W (lvf := fun p => [(0, .ref p.1), (1, .ref p.2.1), (2, .int p.2.2)]) (stf := fun p => []) (fun ih g p => tX4_putText_2 N ih (fun l0 l1 l2 => g (l0, l1, l2)) p.1 p.2.1 p.2.2) N (l0, l1, l2)
set_option maxRecDepth 100000 in
set_option maxHeartbeats 4000000 in
theorem sX4_putText (N : Nat) (l0 : Nat) (l1 : Nat) : osMet yX4_putText cX4_putText 3 none 4 85 0 0 (fun _ : Unit => none) [.ref l0, .ref l1] (qX4_putText N l0 l1) := by
  refine osMet.of plX4 (Nat.le_of_ble_eq_true rfl) (osW.rw (lv2 := [(0, .ref l0), (1, .ref l1)]) ?_ rfl rfl rfl)
  unfold qX4_putText
  refine os_iconst (i := 0) (v := (0 : Int32)) rfl (hX4_putText.at 0 rfl rfl) ?_
  refine os_istore_n (i := 2) (q := 2) rfl (lv' := [(2, .int (0 : Int32)), (0, .ref l0), (1, .ref l1)]) (Nat.le_of_ble_eq_true rfl) rfl (hX4_putText.at 1 rfl rfl) ?_
  exact osW.sub [1, 2, 0] rfl (sX4_putText_2 N l0 l1 (0 : Int32))
-- X9_unevenness
def KX9_unevenness : List (Nat × Nat × Instr) := [(0, 1, .aload_n 0), (1, 3, .invokevirtual 310), (4, 1, .dreturn)]
theorem hX9_unevenness : osDs cX9_unevenness KX9_unevenness := by
  show ∀ q ∈ KX9_unevenness, decode cX9_unevenness q.1 = .ok (q.2.2, q.2.1)
  decide +kernel
def qX9_unevenness (N : Nat) (l0 : Nat) : osM UInt64 := osbind (osrecv [7] l0 (qX9_sumOfSquares N l0)) fun x1 => osret x1
set_option maxRecDepth 100000 in
set_option maxHeartbeats 4000000 in
theorem sX9_unevenness (N : Nat) (l0 : Nat) : osMet yX9_unevenness cX9_unevenness 1 (some .double) 3 70 0 0 (fun r : UInt64 => some (.double r)) [.ref l0] (qX9_unevenness N l0) := by
  refine osMet.of plX9 (Nat.le_of_ble_eq_true rfl) (osW.rw (lv2 := [(0, .ref l0)]) ?_ rfl rfl rfl)
  unfold qX9_unevenness
  refine os_aload_n (i := 0) (q := 0) (v := l0) 0 rfl rfl (hX9_unevenness.at 0 rfl rfl) ?_
  refine os_callV (cis := [7]) (b := l0) (As := []) (st := []) (st' := (fun r => .double r :: [])) sl7_X9_sumOfSquares_X9_sumOfSquares mdX9_sumOfSquares wd604 wd606 (sX9_sumOfSquares N l0 ) rfl rfl (fun _ => rfl) (Nat.le_of_ble_eq_true rfl) (Nat.le_of_ble_eq_true rfl) (Nat.le_of_ble_eq_true rfl) rfl (Nat.le_of_ble_eq_true rfl) rfl (Nat.le_of_ble_eq_true rfl) (hX9_unevenness.at 1 rfl rfl) (fun x1 => ?_)
  exact os_dret (Nat.le_of_ble_eq_true rfl) (Nat.le_of_ble_eq_true rfl) (hX9_unevenness.at 2 rfl rfl).1
-- X9_unevennessBits
def KX9_unevennessBits : List (Nat × Nat × Instr) := [(0, 1, .aload_n 0), (1, 3, .invokevirtual 310), (4, 3, .invokestatic 314), (7, 1, .lreturn)]
theorem hX9_unevennessBits : osDs cX9_unevennessBits KX9_unevennessBits := by
  show ∀ q ∈ KX9_unevennessBits, decode cX9_unevennessBits q.1 = .ok (q.2.2, q.2.1)
  decide +kernel
def qX9_unevennessBits (N : Nat) (l0 : Nat) : osM Int64 := osbind (osrecv [7] l0 (qX9_sumOfSquares N l0)) fun x1 => osbind (qX9_doubleBits N x1) fun x2 => osret x2
set_option maxRecDepth 100000 in
set_option maxHeartbeats 4000000 in
theorem sX9_unevennessBits (N : Nat) (l0 : Nat) : osMet yX9_unevennessBits cX9_unevennessBits 1 (some .long) 3 70 0 0 (fun r : Int64 => some (.long r)) [.ref l0] (qX9_unevennessBits N l0) := by
  refine osMet.of plX9 (Nat.le_of_ble_eq_true rfl) (osW.rw (lv2 := [(0, .ref l0)]) ?_ rfl rfl rfl)
  unfold qX9_unevennessBits
  refine os_aload_n (i := 0) (q := 0) (v := l0) 0 rfl rfl (hX9_unevennessBits.at 0 rfl rfl) ?_
  refine os_callV (cis := [7]) (b := l0) (As := []) (st := []) (st' := (fun r => .double r :: [])) sl7_X9_sumOfSquares_X9_sumOfSquares mdX9_sumOfSquares wd604 wd606 (sX9_sumOfSquares N l0 ) rfl rfl (fun _ => rfl) (Nat.le_of_ble_eq_true rfl) (Nat.le_of_ble_eq_true rfl) (Nat.le_of_ble_eq_true rfl) rfl (Nat.le_of_ble_eq_true rfl) rfl (Nat.le_of_ble_eq_true rfl) (hX9_unevennessBits.at 1 rfl rfl) (fun x1 => ?_)
  refine os_callS (As := [.double x1]) (st := []) (st' := (fun r => .long r :: [])) mdX9_doubleBits wd625 wd626 (sX9_doubleBits N x1) rfl rfl (fun _ => rfl) (Nat.le_of_ble_eq_true rfl) (Nat.le_of_ble_eq_true rfl) (Nat.le_of_ble_eq_true rfl) rfl (Nat.le_of_ble_eq_true rfl) rfl (Nat.le_of_ble_eq_true rfl) (hX9_unevennessBits.at 2 rfl rfl) (fun x2 => ?_)
  exact os_lret (Nat.le_of_ble_eq_true rfl) (Nat.le_of_ble_eq_true rfl) (hX9_unevennessBits.at 3 rfl rfl).1
-- X9_writeUnits
def KX9_writeUnits : List (Nat × Nat × Instr) := [(0, 1, .aload_n 0), (1, 3, .getfield 20), (4, 1, .iconst 0), (5, 3, .putfield 320), (8, 1, .iconst 0), (9, 1, .istore_n 1), (10, 1, .iload_n 1), (11, 2, .bipush 16), (13, 3, .if_icmp .ge 100), (16, 1, .aload_n 0), (17, 3, .getfield 71), (20, 1, .iload_n 1), (21, 3, .invokevirtual 323), (24, 3, .ifCond .eq 83), (27, 1, .aload_n 0), (28, 3, .getfield 20), (31, 1, .aload_n 0), (32, 3, .getfield 63), (35, 3, .getfield 326), (38, 1, .aload_n 0), (39, 3, .getfield 71), (42, 3, .getfield 154), (45, 1, .iload_n 1), (46, 1, .iaload), (47, 3, .invokestatic 147), (50, 3, .invokevirtual 329), (53, 1, .aload_n 0), (54, 3, .getfield 20), (57, 1, .aload_n 0), (58, 3, .getfield 71), (61, 3, .getfield 157), (64, 1, .iload_n 1), (65, 1, .iaload), (66, 1, .iconst 1), (67, 3, .if_icmp .ne 9), (70, 3, .ldc_w 332), (73, 3, .goto 6), (76, 3, .ldc_w 334), (79, 3, .invokevirtual 336), (82, 1, .aload_n 0), (83, 3, .getfield 20), (86, 1, .aload_n 0), (87, 3, .getfield 63), (90, 3, .getfield 339), (93, 1, .iload_n 1), (94, 1, .iaload), (95, 3, .invokevirtual 329), (98, 1, .aload_n 0), (99, 3, .getfield 20), (102, 2, .bipush 10), (104, 3, .invokevirtual 342), (107, 3, .iinc 1 1), (110, 3, .goto (-100)), (113, 1, .aload_n 0), (114, 3, .getfield 20), (117, 3, .getfield 320), (120, 1, .ireturn)]
theorem hX9_writeUnits : osDs cX9_writeUnits KX9_writeUnits := by
  show ∀ q ∈ KX9_writeUnits, decode cX9_writeUnits q.1 = .ok (q.2.2, q.2.1)
  decide +kernel
def qX9_writeUnits_107 (N : Nat) (c10 : Nat × Int32 → osM Int32) (l0 : Nat) (l1 : Int32) : osM Int32 := c10 (l0, (l1 + (1 : Int32)))
def qX9_writeUnits_79 (N : Nat) (c10 : Nat × Int32 → osM Int32) (l0 : Nat) (l1 : Int32) (k0 : Nat) (k1 : Nat) : osM Int32 := osbind (osrecv [4] k1 (qX4_putText N k1 k0)) fun _ => osbind (osgR [7] 2 l0) fun x1 => osbind (osgR [7] 10 l0) fun x2 => osbind (osgR [0] 5 x2) fun x3 => osbind (osaI 0 x3 l1) fun x4 => osbind (osrecv [4] x1 (qX4_putName N x1 x4)) fun _ => osbind (osgR [7] 2 l0) fun x5 => osbind (osrecv [4] x5 (qX4_putByte N x5 (10 : Int32))) fun _ => qX9_writeUnits_107 N c10 l0 l1
def bX9_writeUnits_10 (N : Nat) (c10 : Nat × Int32 → osM Int32) (l0 : Nat) (l1 : Int32) : osM Int32 := osite ((16 : Int32) ≤ l1) (osbind (osgR [7] 2 l0) fun x1 => osbind (osgI [4] 1 x1) fun x2 => osret x2) (osbind (osgR [7] 12 l0) fun x3 => osbind (osrecv [5] x3 (qX5_hasUnit N x3 l1)) fun x4 => osite (x4 = 0) (qX9_writeUnits_107 N c10 l0 l1) (osbind (osgR [7] 2 l0) fun x5 => osbind (osgR [7] 10 l0) fun x6 => osbind (osgR [0] 9 x6) fun x7 => osbind (osgR [7] 12 l0) fun x8 => osbind (osgR [5] 6 x8) fun x9 => osbind (osaI 0 x9 l1) fun x10 => osbind (qX9_entry N x7 x10) fun x11 => osbind (osrecv [4] x5 (qX4_putName N x5 x11)) fun _ => osbind (osgR [7] 2 l0) fun x12 => osbind (osgR [7] 12 l0) fun x13 => osbind (osgR [5] 7 x13) fun x14 => osbind (osaI 0 x14 l1) fun x15 => osite (x15 = (1 : Int32)) (osbind (ostext 0) fun x17 => qX9_writeUnits_79 N c10 l0 l1 x17 x12) (osbind (ostext 1) fun x16 => qX9_writeUnits_79 N c10 l0 l1 x16 x12)))
def qX9_writeUnits_10 (N : Nat) : Nat × Int32 → osM Int32 := osloop (fun ih p => bX9_writeUnits_10 N ih p.1 p.2) N
def qX9_writeUnits (N : Nat) (l0 : Nat) : osM Int32 := osbind (osgR [7] 2 l0) fun x1 => osbind (osput [4] 1 x1 (.int (0 : Int32))) fun _ => qX9_writeUnits_10 N (l0, (0 : Int32))
set_option maxRecDepth 100000 in
set_option maxHeartbeats 4000000 in
theorem sX9_writeUnits_107 (N : Nat) (c10 : Nat × Int32 → osM Int32) (g10 : ∀ (l0 : Nat) (l1 : Int32), osW (osFinM (fun r : Int32 => some (.int r)) 0 0) yX9_writeUnits cX9_writeUnits 2 (some .int) [] { frames := 5, cells := 0, slots := 0, locals := 107 } 0 0 10 [(0, .ref l0), (1, .int l1)] [] (c10 (l0, l1))) (l0 : Nat) (l1 : Int32) : osW (osFinM (fun r : Int32 => some (.int r)) 0 0) yX9_writeUnits cX9_writeUnits 2 (some .int) [] { frames := 5, cells := 0, slots := 0, locals := 107 } 0 0 107 [(0, .ref l0), (1, .int l1)] [] (qX9_writeUnits_107 N c10 l0 l1) := by
  unfold qX9_writeUnits_107
  refine os_iinc (i := 1) (d := 1) (x := l1) (v := (1 : Int32)) (lv' := [(1, .int (l1 + (1 : Int32))), (0, .ref l0)]) 1 rfl rfl (Nat.le_of_ble_eq_true rfl) rfl (hX9_writeUnits.at 51 rfl rfl) ?_
  refine os_goto (off := (-100)) (tgt := 10) rfl (hX9_writeUnits.at 52 rfl rfl) ?_
  exact osW.sub [1, 0] rfl (g10 l0 (l1 + (1 : Int32)))
set_option maxRecDepth 100000 in
set_option maxHeartbeats 4000000 in
theorem sX9_writeUnits_79 (N : Nat) (c10 : Nat × Int32 → osM Int32) (g10 : ∀ (l0 : Nat) (l1 : Int32), osW (osFinM (fun r : Int32 => some (.int r)) 0 0) yX9_writeUnits cX9_writeUnits 2 (some .int) [] { frames := 5, cells := 0, slots := 0, locals := 107 } 0 0 10 [(0, .ref l0), (1, .int l1)] [] (c10 (l0, l1))) (l0 : Nat) (l1 : Int32) (k0 : Nat) (k1 : Nat) : osW (osFinM (fun r : Int32 => some (.int r)) 0 0) yX9_writeUnits cX9_writeUnits 2 (some .int) [] { frames := 5, cells := 0, slots := 0, locals := 107 } 0 0 79 [(0, .ref l0), (1, .int l1)] [.ref k0, .ref k1] (qX9_writeUnits_79 N c10 l0 l1 k0 k1) := by
  unfold qX9_writeUnits_79
  refine os_callV (cis := [4]) (b := k1) (As := [.ref k0]) (st := []) (st' := (fun _ => [])) sl4_X4_putText_X4_putText mdX4_putText wd653 wd654 (sX4_putText N k1 k0) rfl rfl (fun _ => rfl) (Nat.le_of_ble_eq_true rfl) (Nat.le_of_ble_eq_true rfl) (Nat.le_of_ble_eq_true rfl) rfl (Nat.le_of_ble_eq_true rfl) rfl (Nat.le_of_ble_eq_true rfl) (hX9_writeUnits.at 38 rfl rfl) (fun _ => ?_)
  refine os_aload_n (i := 0) (q := 0) (v := l0) 0 rfl rfl (hX9_writeUnits.at 39 rfl rfl) ?_
  refine os_getR fX9_20 (hX9_writeUnits.at 40 rfl rfl) (fun x1 => ?_)
  refine os_aload_n (i := 0) (q := 0) (v := l0) 0 rfl rfl (hX9_writeUnits.at 41 rfl rfl) ?_
  refine os_getR fX9_63 (hX9_writeUnits.at 42 rfl rfl) (fun x2 => ?_)
  refine os_getR fX9_339 (hX9_writeUnits.at 43 rfl rfl) (fun x3 => ?_)
  refine os_iload_n (i := 1) (q := 1) (v := l1) 1 rfl rfl (hX9_writeUnits.at 44 rfl rfl) ?_
  refine os_iaload (hX9_writeUnits.at 45 rfl rfl) (fun x4 => ?_)
  refine os_callV (cis := [4]) (b := x1) (As := [.int x4]) (st := []) (st' := (fun _ => [])) sl4_X4_putName_X4_putName mdX4_putName wd643 wd644 (sX4_putName N x1 x4) rfl rfl (fun _ => rfl) (Nat.le_of_ble_eq_true rfl) (Nat.le_of_ble_eq_true rfl) (Nat.le_of_ble_eq_true rfl) rfl (Nat.le_of_ble_eq_true rfl) rfl (Nat.le_of_ble_eq_true rfl) (hX9_writeUnits.at 46 rfl rfl) (fun _ => ?_)
  refine os_aload_n (i := 0) (q := 0) (v := l0) 0 rfl rfl (hX9_writeUnits.at 47 rfl rfl) ?_
  refine os_getR fX9_20 (hX9_writeUnits.at 48 rfl rfl) (fun x5 => ?_)
  refine os_bipush (i := 10) (v := (10 : Int32)) rfl (hX9_writeUnits.at 49 rfl rfl) ?_
  refine os_callV (cis := [4]) (b := x5) (As := [.int (10 : Int32)]) (st := []) (st' := (fun _ => [])) sl4_X4_putByte_X4_putByte mdX4_putByte wd705 wd648 (sX4_putByte N x5 (10 : Int32)) rfl rfl (fun _ => rfl) (Nat.le_of_ble_eq_true rfl) (Nat.le_of_ble_eq_true rfl) (Nat.le_of_ble_eq_true rfl) rfl (Nat.le_of_ble_eq_true rfl) rfl (Nat.le_of_ble_eq_true rfl) (hX9_writeUnits.at 50 rfl rfl) (fun _ => ?_)
  exact osW.sub [0, 1] rfl (sX9_writeUnits_107 N c10 g10 l0 l1)
set_option maxRecDepth 100000 in
set_option maxHeartbeats 4000000 in
theorem tX9_writeUnits_10 (N : Nat) (c10 : Nat × Int32 → osM Int32) (g10 : ∀ (l0 : Nat) (l1 : Int32), osW (osFinM (fun r : Int32 => some (.int r)) 0 0) yX9_writeUnits cX9_writeUnits 2 (some .int) [] { frames := 5, cells := 0, slots := 0, locals := 107 } 0 0 10 [(0, .ref l0), (1, .int l1)] [] (c10 (l0, l1))) (l0 : Nat) (l1 : Int32) : osW (osFinM (fun r : Int32 => some (.int r)) 0 0) yX9_writeUnits cX9_writeUnits 2 (some .int) [] { frames := 5, cells := 0, slots := 0, locals := 107 } 0 0 10 [(0, .ref l0), (1, .int l1)] [] (bX9_writeUnits_10 N c10 l0 l1) := by
  unfold bX9_writeUnits_10
  refine os_iload_n (i := 1) (q := 1) (v := l1) 1 rfl rfl (hX9_writeUnits.at 6 rfl rfl) ?_
  refine os_bipush (i := 16) (v := (16 : Int32)) rfl (hX9_writeUnits.at 7 rfl rfl) ?_
  refine os_icmp_ge (off := 100) (tgt := 113) rfl (hX9_writeUnits.at 8 rfl rfl) ?_ ?_
  · refine os_aload_n (i := 0) (q := 0) (v := l0) 0 rfl rfl (hX9_writeUnits.at 53 rfl rfl) ?_
    refine os_getR fX9_20 (hX9_writeUnits.at 54 rfl rfl) (fun x1 => ?_)
    refine os_getI fX9_320 (hX9_writeUnits.at 55 rfl rfl) (fun x2 => ?_)
    exact os_iret (Nat.le_of_ble_eq_true rfl) (Nat.le_of_ble_eq_true rfl) (hX9_writeUnits.at 56 rfl rfl).1
  · refine os_aload_n (i := 0) (q := 0) (v := l0) 0 rfl rfl (hX9_writeUnits.at 9 rfl rfl) ?_
    refine os_getR fX9_71 (hX9_writeUnits.at 10 rfl rfl) (fun x3 => ?_)
    refine os_iload_n (i := 1) (q := 1) (v := l1) 1 rfl rfl (hX9_writeUnits.at 11 rfl rfl) ?_
    refine os_callV (cis := [5]) (b := x3) (As := [.int l1]) (st := []) (st' := (fun r => .int r :: [])) sl5_X5_hasUnit_X5_hasUnit mdX5_hasUnit wd635 wd636 (sX5_hasUnit N x3 l1) rfl rfl (fun _ => rfl) (Nat.le_of_ble_eq_true rfl) (Nat.le_of_ble_eq_true rfl) (Nat.le_of_ble_eq_true rfl) rfl (Nat.le_of_ble_eq_true rfl) rfl (Nat.le_of_ble_eq_true rfl) (hX9_writeUnits.at 12 rfl rfl) (fun x4 => ?_)
    refine os_if_eq (off := 83) (tgt := 107) rfl (hX9_writeUnits.at 13 rfl rfl) ?_ ?_
    · exact osW.sub [0, 1] rfl (sX9_writeUnits_107 N c10 g10 l0 l1)
    · refine os_aload_n (i := 0) (q := 0) (v := l0) 0 rfl rfl (hX9_writeUnits.at 14 rfl rfl) ?_
      refine os_getR fX9_20 (hX9_writeUnits.at 15 rfl rfl) (fun x5 => ?_)
      refine os_aload_n (i := 0) (q := 0) (v := l0) 0 rfl rfl (hX9_writeUnits.at 16 rfl rfl) ?_
      refine os_getR fX9_63 (hX9_writeUnits.at 17 rfl rfl) (fun x6 => ?_)
      refine os_getR fX9_326 (hX9_writeUnits.at 18 rfl rfl) (fun x7 => ?_)
      refine os_aload_n (i := 0) (q := 0) (v := l0) 0 rfl rfl (hX9_writeUnits.at 19 rfl rfl) ?_
      refine os_getR fX9_71 (hX9_writeUnits.at 20 rfl rfl) (fun x8 => ?_)
      refine os_getR fX9_154 (hX9_writeUnits.at 21 rfl rfl) (fun x9 => ?_)
      refine os_iload_n (i := 1) (q := 1) (v := l1) 1 rfl rfl (hX9_writeUnits.at 22 rfl rfl) ?_
      refine os_iaload (hX9_writeUnits.at 23 rfl rfl) (fun x10 => ?_)
      refine os_callS (As := [.ref x7, .int x10]) (st := [.ref x5]) (st' := (fun r => .int r :: [.ref x5])) mdX9_entry wd642 wd640 (sX9_entry N x7 x10) rfl rfl (fun _ => rfl) (Nat.le_of_ble_eq_true rfl) (Nat.le_of_ble_eq_true rfl) (Nat.le_of_ble_eq_true rfl) rfl (Nat.le_of_ble_eq_true rfl) rfl (Nat.le_of_ble_eq_true rfl) (hX9_writeUnits.at 24 rfl rfl) (fun x11 => ?_)
      refine os_callV (cis := [4]) (b := x5) (As := [.int x11]) (st := []) (st' := (fun _ => [])) sl4_X4_putName_X4_putName mdX4_putName wd643 wd644 (sX4_putName N x5 x11) rfl rfl (fun _ => rfl) (Nat.le_of_ble_eq_true rfl) (Nat.le_of_ble_eq_true rfl) (Nat.le_of_ble_eq_true rfl) rfl (Nat.le_of_ble_eq_true rfl) rfl (Nat.le_of_ble_eq_true rfl) (hX9_writeUnits.at 25 rfl rfl) (fun _ => ?_)
      refine os_aload_n (i := 0) (q := 0) (v := l0) 0 rfl rfl (hX9_writeUnits.at 26 rfl rfl) ?_
      refine os_getR fX9_20 (hX9_writeUnits.at 27 rfl rfl) (fun x12 => ?_)
      refine os_aload_n (i := 0) (q := 0) (v := l0) 0 rfl rfl (hX9_writeUnits.at 28 rfl rfl) ?_
      refine os_getR fX9_71 (hX9_writeUnits.at 29 rfl rfl) (fun x13 => ?_)
      refine os_getR fX9_157 (hX9_writeUnits.at 30 rfl rfl) (fun x14 => ?_)
      refine os_iload_n (i := 1) (q := 1) (v := l1) 1 rfl rfl (hX9_writeUnits.at 31 rfl rfl) ?_
      refine os_iaload (hX9_writeUnits.at 32 rfl rfl) (fun x15 => ?_)
      refine os_iconst (i := 1) (v := (1 : Int32)) rfl (hX9_writeUnits.at 33 rfl rfl) ?_
      refine os_icmp_ne (off := 9) (tgt := 76) rfl (hX9_writeUnits.at 34 rfl rfl) ?_ ?_
      · refine os_text (j := 1) (q := (334, " A ")) rfl rfl (hX9_writeUnits.at 37 rfl rfl) (fun x16 => ?_)
        exact osW.sub [0, 1] rfl (sX9_writeUnits_79 N c10 g10 l0 l1 x16 x12)
      · refine os_text (j := 0) (q := (332, " F ")) rfl rfl (hX9_writeUnits.at 35 rfl rfl) (fun x17 => ?_)
        refine os_goto (off := 6) (tgt := 79) rfl (hX9_writeUnits.at 36 rfl rfl) ?_
        exact osW.sub [0, 1] rfl (sX9_writeUnits_79 N c10 g10 l0 l1 x17 x12)
set_option maxRecDepth 100000 in
set_option maxHeartbeats 4000000 in
theorem sX9_writeUnits_10 (N : Nat) (l0 : Nat) (l1 : Int32) : osW (osFinM (fun r : Int32 => some (.int r)) 0 0) yX9_writeUnits cX9_writeUnits 2 (some .int) [] { frames := 5, cells := 0, slots := 0, locals := 107 } 0 0 10 [(0, .ref l0), (1, .int l1)] [] (qX9_writeUnits_10 N (l0, l1)) :=
  osloop_W (lvf := fun p => [(0, .ref p.1), (1, .int p.2)]) (stf := fun p => []) (fun ih g p => tX9_writeUnits_10 N ih (fun l0 l1 => g (l0, l1)) p.1 p.2) N (l0, l1)
set_option maxRecDepth 100000 in
set_option maxHeartbeats 4000000 in
theorem sX9_writeUnits (N : Nat) (l0 : Nat) : osMet yX9_writeUnits cX9_writeUnits 2 (some .int) 5 107 0 0 (fun r : Int32 => some (.int r)) [.ref l0] (qX9_writeUnits N l0) := by
  refine osMet.of plX9 (Nat.le_of_ble_eq_true rfl) (osW.rw (lv2 := [(0, .ref l0)]) ?_ rfl rfl rfl)
  unfold qX9_writeUnits
  refine os_aload_n (i := 0) (q := 0) (v := l0) 0 rfl rfl (hX9_writeUnits.at 0 rfl rfl) ?_
  refine os_getR fX9_20 (hX9_writeUnits.at 1 rfl rfl) (fun x1 => ?_)
  refine os_iconst (i := 0) (v := (0 : Int32)) rfl (hX9_writeUnits.at 2 rfl rfl) ?_
  refine os_put fX9_320 rfl rfl (hX9_writeUnits.at 3 rfl rfl) ?_
  refine os_iconst (i := 0) (v := (0 : Int32)) rfl (hX9_writeUnits.at 4 rfl rfl) ?_
  refine os_istore_n (i := 1) (q := 1) rfl (lv' := [(1, .int (0 : Int32)), (0, .ref l0)]) (Nat.le_of_ble_eq_true rfl) rfl (hX9_writeUnits.at 5 rfl rfl) ?_
  exact osW.sub [1, 0] rfl (sX9_writeUnits_10 N l0 (0 : Int32))
-- X9_putRoute
def KX9_putRoute : List (Nat × Nat × Instr) := [(0, 1, .aload_n 0), (1, 3, .getfield 20), (4, 1, .aload_n 0), (5, 3, .getfield 63), (8, 3, .getfield 339), (11, 1, .iload_n 1), (12, 3, .invokestatic 147), (15, 3, .invokevirtual 329), (18, 1, .aload_n 0), (19, 3, .getfield 20), (22, 3, .ldc_w 392), (25, 3, .invokevirtual 336), (28, 1, .aload_n 0), (29, 3, .getfield 20), (32, 1, .aload_n 0), (33, 3, .getfield 63), (36, 3, .getfield 339), (39, 1, .iload_n 2), (40, 3, .invokestatic 147), (43, 3, .invokevirtual 329), (46, 1, .return_)]
theorem hX9_putRoute : osDs cX9_putRoute KX9_putRoute := by
  show ∀ q ∈ KX9_putRoute, decode cX9_putRoute q.1 = .ok (q.2.2, q.2.1)
  decide +kernel
def qX9_putRoute (N : Nat) (l0 : Nat) (l1 : Int32) (l2 : Int32) : osM Unit := osbind (osgR [7] 2 l0) fun x1 => osbind (osgR [7] 10 l0) fun x2 => osbind (osgR [0] 5 x2) fun x3 => osbind (qX9_entry N x3 l1) fun x4 => osbind (osrecv [4] x1 (qX4_putName N x1 x4)) fun _ => osbind (osgR [7] 2 l0) fun x5 => osbind (ostext 2) fun x6 => osbind (osrecv [4] x5 (qX4_putText N x5 x6)) fun _ => osbind (osgR [7] 2 l0) fun x7 => osbind (osgR [7] 10 l0) fun x8 => osbind (osgR [0] 5 x8) fun x9 => osbind (qX9_entry N x9 l2) fun x10 => osbind (osrecv [4] x7 (qX4_putName N x7 x10)) fun _ => osret ()
set_option maxRecDepth 100000 in
set_option maxHeartbeats 4000000 in
theorem sX9_putRoute (N : Nat) (l0 : Nat) (l1 : Int32) (l2 : Int32) : osMet yX9_putRoute cX9_putRoute 3 none 5 107 0 0 (fun _ : Unit => none) [.ref l0, .int l1, .int l2] (qX9_putRoute N l0 l1 l2) := by
  refine osMet.of plX9 (Nat.le_of_ble_eq_true rfl) (osW.rw (lv2 := [(0, .ref l0), (1, .int l1), (2, .int l2)]) ?_ rfl rfl rfl)
  unfold qX9_putRoute
  refine os_aload_n (i := 0) (q := 0) (v := l0) 0 rfl rfl (hX9_putRoute.at 0 rfl rfl) ?_
  refine os_getR fX9_20 (hX9_putRoute.at 1 rfl rfl) (fun x1 => ?_)
  refine os_aload_n (i := 0) (q := 0) (v := l0) 0 rfl rfl (hX9_putRoute.at 2 rfl rfl) ?_
  refine os_getR fX9_63 (hX9_putRoute.at 3 rfl rfl) (fun x2 => ?_)
  refine os_getR fX9_339 (hX9_putRoute.at 4 rfl rfl) (fun x3 => ?_)
  refine os_iload_n (i := 1) (q := 1) (v := l1) 1 rfl rfl (hX9_putRoute.at 5 rfl rfl) ?_
  refine os_callS (As := [.ref x3, .int l1]) (st := [.ref x1]) (st' := (fun r => .int r :: [.ref x1])) mdX9_entry wd642 wd640 (sX9_entry N x3 l1) rfl rfl (fun _ => rfl) (Nat.le_of_ble_eq_true rfl) (Nat.le_of_ble_eq_true rfl) (Nat.le_of_ble_eq_true rfl) rfl (Nat.le_of_ble_eq_true rfl) rfl (Nat.le_of_ble_eq_true rfl) (hX9_putRoute.at 6 rfl rfl) (fun x4 => ?_)
  refine os_callV (cis := [4]) (b := x1) (As := [.int x4]) (st := []) (st' := (fun _ => [])) sl4_X4_putName_X4_putName mdX4_putName wd643 wd644 (sX4_putName N x1 x4) rfl rfl (fun _ => rfl) (Nat.le_of_ble_eq_true rfl) (Nat.le_of_ble_eq_true rfl) (Nat.le_of_ble_eq_true rfl) rfl (Nat.le_of_ble_eq_true rfl) rfl (Nat.le_of_ble_eq_true rfl) (hX9_putRoute.at 7 rfl rfl) (fun _ => ?_)
  refine os_aload_n (i := 0) (q := 0) (v := l0) 0 rfl rfl (hX9_putRoute.at 8 rfl rfl) ?_
  refine os_getR fX9_20 (hX9_putRoute.at 9 rfl rfl) (fun x5 => ?_)
  refine os_text (j := 2) (q := (392, " to ")) rfl rfl (hX9_putRoute.at 10 rfl rfl) (fun x6 => ?_)
  refine os_callV (cis := [4]) (b := x5) (As := [.ref x6]) (st := []) (st' := (fun _ => [])) sl4_X4_putText_X4_putText mdX4_putText wd653 wd654 (sX4_putText N x5 x6) rfl rfl (fun _ => rfl) (Nat.le_of_ble_eq_true rfl) (Nat.le_of_ble_eq_true rfl) (Nat.le_of_ble_eq_true rfl) rfl (Nat.le_of_ble_eq_true rfl) rfl (Nat.le_of_ble_eq_true rfl) (hX9_putRoute.at 11 rfl rfl) (fun _ => ?_)
  refine os_aload_n (i := 0) (q := 0) (v := l0) 0 rfl rfl (hX9_putRoute.at 12 rfl rfl) ?_
  refine os_getR fX9_20 (hX9_putRoute.at 13 rfl rfl) (fun x7 => ?_)
  refine os_aload_n (i := 0) (q := 0) (v := l0) 0 rfl rfl (hX9_putRoute.at 14 rfl rfl) ?_
  refine os_getR fX9_63 (hX9_putRoute.at 15 rfl rfl) (fun x8 => ?_)
  refine os_getR fX9_339 (hX9_putRoute.at 16 rfl rfl) (fun x9 => ?_)
  refine os_iload_n (i := 2) (q := 2) (v := l2) 2 rfl rfl (hX9_putRoute.at 17 rfl rfl) ?_
  refine os_callS (As := [.ref x9, .int l2]) (st := [.ref x7]) (st' := (fun r => .int r :: [.ref x7])) mdX9_entry wd642 wd640 (sX9_entry N x9 l2) rfl rfl (fun _ => rfl) (Nat.le_of_ble_eq_true rfl) (Nat.le_of_ble_eq_true rfl) (Nat.le_of_ble_eq_true rfl) rfl (Nat.le_of_ble_eq_true rfl) rfl (Nat.le_of_ble_eq_true rfl) (hX9_putRoute.at 18 rfl rfl) (fun x10 => ?_)
  refine os_callV (cis := [4]) (b := x7) (As := [.int x10]) (st := []) (st' := (fun _ => [])) sl4_X4_putName_X4_putName mdX4_putName wd643 wd644 (sX4_putName N x7 x10) rfl rfl (fun _ => rfl) (Nat.le_of_ble_eq_true rfl) (Nat.le_of_ble_eq_true rfl) (Nat.le_of_ble_eq_true rfl) rfl (Nat.le_of_ble_eq_true rfl) rfl (Nat.le_of_ble_eq_true rfl) (hX9_putRoute.at 19 rfl rfl) (fun _ => ?_)
  exact os_vret (Nat.le_of_ble_eq_true rfl) (Nat.le_of_ble_eq_true rfl) (hX9_putRoute.at 20 rfl rfl).1
-- X9_init
def KX9_init : List (Nat × Nat × Instr) := [(0, 1, .aload_n 0), (1, 3, .invokespecial 1), (4, 1, .aload_n 0), (5, 3, .sipush 1000), (8, 2, .newarray .byte), (10, 3, .putfield 9), (13, 1, .aload_n 0), (14, 1, .iconst 0), (15, 3, .putfield 13), (18, 1, .aload_n 0), (19, 3, .new 17), (22, 1, .dup), (23, 3, .invokespecial 19), (26, 3, .putfield 20), (29, 1, .aload_n 0), (30, 1, .iconst 0), (31, 3, .putfield 24), (34, 1, .aload_n 0), (35, 1, .iconst (-1)), (36, 3, .putfield 27), (39, 1, .aload_n 0), (40, 3, .new 30), (43, 1, .dup), (44, 3, .invokespecial 32), (47, 3, .putfield 33), (50, 1, .aload_n 0), (51, 3, .new 37), (54, 1, .dup), (55, 3, .invokespecial 39), (58, 3, .putfield 40), (61, 1, .aload_n 0), (62, 3, .new 44), (65, 1, .dup), (66, 3, .invokespecial 46), (69, 3, .putfield 47), (72, 1, .aload_n 0), (73, 2, .bipush 6), (75, 3, .anewarray 51), (78, 3, .putfield 53), (81, 1, .aload_n 0), (82, 1, .iconst 0), (83, 3, .putfield 57), (86, 1, .aload_n 0), (87, 3, .new 60), (90, 1, .dup), (91, 3, .invokespecial 62), (94, 3, .putfield 63), (97, 1, .aload_n 0), (98, 3, .new 60), (101, 1, .dup), (102, 3, .invokespecial 62), (105, 3, .putfield 67), (108, 1, .aload_n 0), (109, 3, .new 51), (112, 1, .dup), (113, 3, .invokespecial 70), (116, 3, .putfield 71), (119, 1, .aload_n 0), (120, 3, .new 51), (123, 1, .dup), (124, 3, .invokespecial 70), (127, 3, .putfield 75), (130, 1, .iconst 0), (131, 1, .istore_n 1), (132, 1, .iload_n 1), (133, 2, .bipush 6), (135, 3, .if_icmp .ge 22), (138, 1, .aload_n 0), (139, 3, .getfield 53), (142, 1, .iload_n 1), (143, 3, .new 51), (146, 1, .dup), (147, 3, .invokespecial 70), (150, 1, .aastore), (151, 3, .iinc 1 1), (154, 3, .goto (-22)), (157, 1, .return_)]
theorem hX9_init : osDs cX9_init KX9_init := by
  show ∀ q ∈ KX9_init, decode cX9_init q.1 = .ok (q.2.2, q.2.1)
  decide +kernel
def qX9_init (N : Nat) (l0 : Nat) : osM Unit := osbind (osnew (.inl (1, (1000, .inl fun _ => 0)))) fun x1 => osbind (osput [7] 0 l0 (.ref x1)) fun _ => osbind (osput [7] 1 l0 (.int (0 : Int32))) fun _ => osbind (osnew (.inr (4, [.null, .int 0]))) fun x2 => osbind (qX4_init N x2) fun _ => osbind (osput [7] 2 l0 (.ref x2)) fun _ => osbind (osput [7] 3 l0 (.int (0 : Int32))) fun _ => osbind (osput [7] 4 l0 (.int (-1 : Int32))) fun _ => osbind (osnew (.inr (3, [.null, .int 0, .int 0, .int 0, .int 0, .long 0, .int 0, .int 0, .int 0, .int 0]))) fun x3 => osbind (qX3_init N x3) fun _ => osbind (osput [7] 5 l0 (.ref x3)) fun _ => osbind (osnew (.inr (6, [.null, .int 0, .int 0, .int 0, .int 0, .long 0, .int 0, .int 0, .int 0, .int 0]))) fun x4 => osbind (qX7_init N x4) fun _ => osbind (osput [7] 6 l0 (.ref x4)) fun _ => osbind (osnew (.inr (1, [.null, .int 0, .int 0, .int 0, .int 0, .int 0, .int 0, .int 0]))) fun x5 => osbind (qX1_init N x5) fun _ => osbind (osput [7] 7 l0 (.ref x5)) fun _ => osbind (osnew (.inl (5, (6, .inr (.inr (.inr (.inr fun _ => none))))))) fun x6 => osbind (osput [7] 8 l0 (.ref x6)) fun _ => osbind (osput [7] 9 l0 (.int (0 : Int32))) fun _ => osbind (osnew (.inr (0, [.int 0, .int 0, .int 0, .int 0, .int 0, .null, .null, .null, .null, .null]))) fun x7 => osbind (qX0_init N x7) fun _ => osbind (osput [7] 10 l0 (.ref x7)) fun _ => osbind (osnew (.inr (0, [.int 0, .int 0, .int 0, .int 0, .int 0, .null, .null, .null, .null, .null]))) fun x8 => osbind (qX0_init N x8) fun _ => osbind (osput [7] 11 l0 (.ref x8)) fun _ => osbind (osnew (.inr (5, [.int 0, .int 0, .int 0, .int 0, .int 0, .null, .null, .null, .null, .null, .null, .null, .null, .null, .null, .null]))) fun x9 => osbind (qX5_init N x9) fun _ => osbind (osput [7] 12 l0 (.ref x9)) fun _ => osbind (osnew (.inr (5, [.int 0, .int 0, .int 0, .int 0, .int 0, .null, .null, .null, .null, .null, .null, .null, .null, .null, .null, .null]))) fun x10 => osbind (qX5_init N x10) fun _ => osbind (osput [7] 13 l0 (.ref x10)) fun _ => osite ((6 : Int32) ≤ (0 : Int32)) (osret ()) (osbind (osgR [7] 8 l0) fun x11 => osbind (osnew (.inr (5, [.int 0, .int 0, .int 0, .int 0, .int 0, .null, .null, .null, .null, .null, .null, .null, .null, .null, .null, .null]))) fun x12 => osbind (qX5_init N x12) fun _ => osbind (ossQ 5 5 x11 (0 : Int32) x12) fun _ => osite ((6 : Int32) ≤ ((0 : Int32) + (1 : Int32))) (osret ()) (osbind (osgR [7] 8 l0) fun x13 => osbind (osnew (.inr (5, [.int 0, .int 0, .int 0, .int 0, .int 0, .null, .null, .null, .null, .null, .null, .null, .null, .null, .null, .null]))) fun x14 => osbind (qX5_init N x14) fun _ => osbind (ossQ 5 5 x13 ((0 : Int32) + (1 : Int32)) x14) fun _ => osite ((6 : Int32) ≤ (((0 : Int32) + (1 : Int32)) + (1 : Int32))) (osret ()) (osbind (osgR [7] 8 l0) fun x15 => osbind (osnew (.inr (5, [.int 0, .int 0, .int 0, .int 0, .int 0, .null, .null, .null, .null, .null, .null, .null, .null, .null, .null, .null]))) fun x16 => osbind (qX5_init N x16) fun _ => osbind (ossQ 5 5 x15 (((0 : Int32) + (1 : Int32)) + (1 : Int32)) x16) fun _ => osite ((6 : Int32) ≤ ((((0 : Int32) + (1 : Int32)) + (1 : Int32)) + (1 : Int32))) (osret ()) (osbind (osgR [7] 8 l0) fun x17 => osbind (osnew (.inr (5, [.int 0, .int 0, .int 0, .int 0, .int 0, .null, .null, .null, .null, .null, .null, .null, .null, .null, .null, .null]))) fun x18 => osbind (qX5_init N x18) fun _ => osbind (ossQ 5 5 x17 ((((0 : Int32) + (1 : Int32)) + (1 : Int32)) + (1 : Int32)) x18) fun _ => osite ((6 : Int32) ≤ (((((0 : Int32) + (1 : Int32)) + (1 : Int32)) + (1 : Int32)) + (1 : Int32))) (osret ()) (osbind (osgR [7] 8 l0) fun x19 => osbind (osnew (.inr (5, [.int 0, .int 0, .int 0, .int 0, .int 0, .null, .null, .null, .null, .null, .null, .null, .null, .null, .null, .null]))) fun x20 => osbind (qX5_init N x20) fun _ => osbind (ossQ 5 5 x19 (((((0 : Int32) + (1 : Int32)) + (1 : Int32)) + (1 : Int32)) + (1 : Int32)) x20) fun _ => osite ((6 : Int32) ≤ ((((((0 : Int32) + (1 : Int32)) + (1 : Int32)) + (1 : Int32)) + (1 : Int32)) + (1 : Int32))) (osret ()) (osbind (osgR [7] 8 l0) fun x21 => osbind (osnew (.inr (5, [.int 0, .int 0, .int 0, .int 0, .int 0, .null, .null, .null, .null, .null, .null, .null, .null, .null, .null, .null]))) fun x22 => osbind (qX5_init N x22) fun _ => osbind (ossQ 5 5 x21 ((((((0 : Int32) + (1 : Int32)) + (1 : Int32)) + (1 : Int32)) + (1 : Int32)) + (1 : Int32)) x22) fun _ => osite ((6 : Int32) ≤ (((((((0 : Int32) + (1 : Int32)) + (1 : Int32)) + (1 : Int32)) + (1 : Int32)) + (1 : Int32)) + (1 : Int32))) (osret ()) (osbind (osgR [7] 8 l0) fun x23 => osbind (osnew (.inr (5, [.int 0, .int 0, .int 0, .int 0, .int 0, .null, .null, .null, .null, .null, .null, .null, .null, .null, .null, .null]))) fun x24 => osbind (qX5_init N x24) fun _ => osbind (ossQ 5 5 x23 (((((((0 : Int32) + (1 : Int32)) + (1 : Int32)) + (1 : Int32)) + (1 : Int32)) + (1 : Int32)) + (1 : Int32)) x24) fun _ => osno)))))))
set_option maxRecDepth 100000 in
set_option maxHeartbeats 4000000 in
theorem sX9_init (N : Nat) (l0 : Nat) : osMet yX9_init cX9_init 2 none 4 86 140 4176 (fun _ : Unit => none) [.ref l0] (qX9_init N l0) := by
  refine osMet.of plX9 (Nat.le_of_ble_eq_true rfl) (osW.rw (lv2 := [(0, .ref l0)]) ?_ rfl rfl rfl)
  unfold qX9_init
  refine os_aload_n (i := 0) (q := 0) (v := l0) 0 rfl rfl (hX9_init.at 0 rfl rfl) ?_
  refine os_objInit wd182 wd183 wd184 (Nat.le_of_ble_eq_true rfl) (Nat.le_of_ble_eq_true rfl) (Nat.le_of_ble_eq_true rfl) (hX9_init.at 1 rfl rfl) ?_
  refine os_aload_n (i := 0) (q := 0) (v := l0) 0 rfl rfl (hX9_init.at 2 rfl rfl) ?_
  refine os_sipush (i := 1000) (v := (1000 : Int32)) rfl (hX9_init.at 3 rfl rfl) ?_
  refine os_newarray (at9 := .byte) (ty := .byte) (t := 1) (N := 1000) rfl rfl rfl wd200 (fun _ => rfl) (by decide) rfl (Nat.le_of_ble_eq_true rfl) (Nat.le_of_ble_eq_true rfl) (Nat.le_of_ble_eq_true rfl) (hX9_init.at 4 rfl rfl) (fun x1 => ?_)
  refine os_putF fX9_9 rfl (osHd1 rfl rfl) rfl rfl (hX9_init.at 5 rfl rfl) ?_
  refine os_aload_n (i := 0) (q := 0) (v := l0) 0 rfl rfl (hX9_init.at 6 rfl rfl) ?_
  refine os_iconst (i := 0) (v := (0 : Int32)) rfl (hX9_init.at 7 rfl rfl) ?_
  refine os_put fX9_13 rfl rfl (hX9_init.at 8 rfl rfl) ?_
  refine os_aload_n (i := 0) (q := 0) (v := l0) 0 rfl rfl (hX9_init.at 9 rfl rfl) ?_
  refine os_new (C := RX4) (T := TX4) (N := 2) (ci := 4) (ty0 := tyX4) rfl tyX4_ok osinX4 wd185 wd186 wd152 dfX4 (Nat.le_of_ble_eq_true rfl) (Nat.le_of_ble_eq_true rfl) (hX9_init.at 10 rfl rfl) (fun x2 => ?_)
  refine os_dup rfl (hX9_init.at 11 rfl rfl) ?_
  refine os_callIN (host := "OrderSettler") (b := x2) (As := []) (st := [.ref x2, .ref l0]) (st' := (fun _ => [.ref x2, .ref l0])) mdX4_init rfl wd187 wd188 (sX4_init N x2 ) rfl rfl (fun _ => rfl) (Nat.le_of_ble_eq_true rfl) (Nat.le_of_ble_eq_true rfl) (Nat.le_of_ble_eq_true rfl) rfl (Nat.le_of_ble_eq_true rfl) rfl (Nat.le_of_ble_eq_true rfl) (hX9_init.at 12 rfl rfl) (fun _ => ?_)
  refine os_putF fX9_20 rfl (osHd1 rfl rfl) rfl rfl (hX9_init.at 13 rfl rfl) ?_
  refine os_aload_n (i := 0) (q := 0) (v := l0) 0 rfl rfl (hX9_init.at 14 rfl rfl) ?_
  refine os_iconst (i := 0) (v := (0 : Int32)) rfl (hX9_init.at 15 rfl rfl) ?_
  refine os_put fX9_24 rfl rfl (hX9_init.at 16 rfl rfl) ?_
  refine os_aload_n (i := 0) (q := 0) (v := l0) 0 rfl rfl (hX9_init.at 17 rfl rfl) ?_
  refine os_iconst (i := (-1)) (v := (-1 : Int32)) rfl (hX9_init.at 18 rfl rfl) ?_
  refine os_put fX9_27 rfl rfl (hX9_init.at 19 rfl rfl) ?_
  refine os_aload_n (i := 0) (q := 0) (v := l0) 0 rfl rfl (hX9_init.at 20 rfl rfl) ?_
  refine os_new (C := RX3) (T := TX3) (N := 10) (ci := 3) (ty0 := tyX3) rfl tyX3_ok osinX3 wd201 wd202 wd154 dfX3 (Nat.le_of_ble_eq_true rfl) (Nat.le_of_ble_eq_true rfl) (hX9_init.at 21 rfl rfl) (fun x3 => ?_)
  refine os_dup rfl (hX9_init.at 22 rfl rfl) ?_
  refine os_callIN (host := "OrderSettler") (b := x3) (As := []) (st := [.ref x3, .ref l0]) (st' := (fun _ => [.ref x3, .ref l0])) mdX3_init rfl wd203 wd204 (sX3_init N x3 ) rfl rfl (fun _ => rfl) (Nat.le_of_ble_eq_true rfl) (Nat.le_of_ble_eq_true rfl) (Nat.le_of_ble_eq_true rfl) rfl (Nat.le_of_ble_eq_true rfl) rfl (Nat.le_of_ble_eq_true rfl) (hX9_init.at 23 rfl rfl) (fun _ => ?_)
  refine os_putF fX9_33 rfl (osHd1 rfl rfl) rfl rfl (hX9_init.at 24 rfl rfl) ?_
  refine os_aload_n (i := 0) (q := 0) (v := l0) 0 rfl rfl (hX9_init.at 25 rfl rfl) ?_
  refine os_new (C := RX7) (T := TX7) (N := 10) (ci := 6) (ty0 := tyX7) rfl tyX7_ok osinX7 wd251 wd252 wd155 dfX7 (Nat.le_of_ble_eq_true rfl) (Nat.le_of_ble_eq_true rfl) (hX9_init.at 26 rfl rfl) (fun x4 => ?_)
  refine os_dup rfl (hX9_init.at 27 rfl rfl) ?_
  refine os_callIN (host := "OrderSettler") (b := x4) (As := []) (st := [.ref x4, .ref l0]) (st' := (fun _ => [.ref x4, .ref l0])) mdX7_init rfl wd253 wd254 (sX7_init N x4 ) rfl rfl (fun _ => rfl) (Nat.le_of_ble_eq_true rfl) (Nat.le_of_ble_eq_true rfl) (Nat.le_of_ble_eq_true rfl) rfl (Nat.le_of_ble_eq_true rfl) rfl (Nat.le_of_ble_eq_true rfl) (hX9_init.at 28 rfl rfl) (fun _ => ?_)
  refine os_putF fX9_40 rfl (osHd1 rfl rfl) rfl rfl (hX9_init.at 29 rfl rfl) ?_
  refine os_aload_n (i := 0) (q := 0) (v := l0) 0 rfl rfl (hX9_init.at 30 rfl rfl) ?_
  refine os_new (C := RX1) (T := TX1) (N := 8) (ci := 1) (ty0 := tyX1) rfl tyX1_ok osinX1 wd268 wd269 wd156 dfX1 (Nat.le_of_ble_eq_true rfl) (Nat.le_of_ble_eq_true rfl) (hX9_init.at 31 rfl rfl) (fun x5 => ?_)
  refine os_dup rfl (hX9_init.at 32 rfl rfl) ?_
  refine os_callIN (host := "OrderSettler") (b := x5) (As := []) (st := [.ref x5, .ref l0]) (st' := (fun _ => [.ref x5, .ref l0])) mdX1_init rfl wd270 wd271 (sX1_init N x5 ) rfl rfl (fun _ => rfl) (Nat.le_of_ble_eq_true rfl) (Nat.le_of_ble_eq_true rfl) (Nat.le_of_ble_eq_true rfl) rfl (Nat.le_of_ble_eq_true rfl) rfl (Nat.le_of_ble_eq_true rfl) (hX9_init.at 33 rfl rfl) (fun _ => ?_)
  refine os_putF fX9_47 rfl (osHd1 rfl rfl) rfl rfl (hX9_init.at 34 rfl rfl) ?_
  refine os_aload_n (i := 0) (q := 0) (v := l0) 0 rfl rfl (hX9_init.at 35 rfl rfl) ?_
  refine os_bipush (i := 6) (v := (6 : Int32)) rfl (hX9_init.at 36 rfl rfl) ?_
  refine os_anewarray (t := 5) (N := 6) (C := "OrderSettler$State") rfl rfl wd376 (by decide) rfl (Nat.le_of_ble_eq_true rfl) (Nat.le_of_ble_eq_true rfl) (Nat.le_of_ble_eq_true rfl) (hX9_init.at 37 rfl rfl) (fun x6 => ?_)
  refine os_putF fX9_53 rfl (osHd1 rfl rfl) rfl rfl (hX9_init.at 38 rfl rfl) ?_
  refine os_aload_n (i := 0) (q := 0) (v := l0) 0 rfl rfl (hX9_init.at 39 rfl rfl) ?_
  refine os_iconst (i := 0) (v := (0 : Int32)) rfl (hX9_init.at 40 rfl rfl) ?_
  refine os_put fX9_57 rfl rfl (hX9_init.at 41 rfl rfl) ?_
  refine os_aload_n (i := 0) (q := 0) (v := l0) 0 rfl rfl (hX9_init.at 42 rfl rfl) ?_
  refine os_new (C := RX0) (T := TX0) (N := 10) (ci := 0) (ty0 := tyX0) rfl tyX0_ok osinX0 wd378 wd379 wd158 dfX0 (Nat.le_of_ble_eq_true rfl) (Nat.le_of_ble_eq_true rfl) (hX9_init.at 43 rfl rfl) (fun x7 => ?_)
  refine os_dup rfl (hX9_init.at 44 rfl rfl) ?_
  refine os_callI (b := x7) (As := []) (st := [.ref x7, .ref l0]) (st' := (fun _ => [.ref x7, .ref l0])) mdX0_init rfl wd380 wd381 (sX0_init N x7 ) rfl rfl (fun _ => rfl) (Nat.le_of_ble_eq_true rfl) (Nat.le_of_ble_eq_true rfl) (Nat.le_of_ble_eq_true rfl) rfl (Nat.le_of_ble_eq_true rfl) rfl (Nat.le_of_ble_eq_true rfl) (hX9_init.at 45 rfl rfl) (fun _ => ?_)
  refine os_put fX9_63 rfl rfl (hX9_init.at 46 rfl rfl) ?_
  refine os_aload_n (i := 0) (q := 0) (v := l0) 0 rfl rfl (hX9_init.at 47 rfl rfl) ?_
  refine os_new (C := RX0) (T := TX0) (N := 10) (ci := 0) (ty0 := tyX0) rfl tyX0_ok osinX0 wd378 wd379 wd158 dfX0 (Nat.le_of_ble_eq_true rfl) (Nat.le_of_ble_eq_true rfl) (hX9_init.at 48 rfl rfl) (fun x8 => ?_)
  refine os_dup rfl (hX9_init.at 49 rfl rfl) ?_
  refine os_callI (b := x8) (As := []) (st := [.ref x8, .ref l0]) (st' := (fun _ => [.ref x8, .ref l0])) mdX0_init rfl wd380 wd381 (sX0_init N x8 ) rfl rfl (fun _ => rfl) (Nat.le_of_ble_eq_true rfl) (Nat.le_of_ble_eq_true rfl) (Nat.le_of_ble_eq_true rfl) rfl (Nat.le_of_ble_eq_true rfl) rfl (Nat.le_of_ble_eq_true rfl) (hX9_init.at 50 rfl rfl) (fun _ => ?_)
  refine os_put fX9_67 rfl rfl (hX9_init.at 51 rfl rfl) ?_
  refine os_aload_n (i := 0) (q := 0) (v := l0) 0 rfl rfl (hX9_init.at 52 rfl rfl) ?_
  refine os_new (C := RX5) (T := TX5) (N := 16) (ci := 5) (ty0 := tyX5) rfl tyX5_ok osinX5 wd376 wd435 wd159 dfX5 (Nat.le_of_ble_eq_true rfl) (Nat.le_of_ble_eq_true rfl) (hX9_init.at 53 rfl rfl) (fun x9 => ?_)
  refine os_dup rfl (hX9_init.at 54 rfl rfl) ?_
  refine os_callI (b := x9) (As := []) (st := [.ref x9, .ref l0]) (st' := (fun _ => [.ref x9, .ref l0])) mdX5_init rfl wd436 wd437 (sX5_init N x9 ) rfl rfl (fun _ => rfl) (Nat.le_of_ble_eq_true rfl) (Nat.le_of_ble_eq_true rfl) (Nat.le_of_ble_eq_true rfl) rfl (Nat.le_of_ble_eq_true rfl) rfl (Nat.le_of_ble_eq_true rfl) (hX9_init.at 55 rfl rfl) (fun _ => ?_)
  refine os_put fX9_71 rfl rfl (hX9_init.at 56 rfl rfl) ?_
  refine os_aload_n (i := 0) (q := 0) (v := l0) 0 rfl rfl (hX9_init.at 57 rfl rfl) ?_
  refine os_new (C := RX5) (T := TX5) (N := 16) (ci := 5) (ty0 := tyX5) rfl tyX5_ok osinX5 wd376 wd435 wd159 dfX5 (Nat.le_of_ble_eq_true rfl) (Nat.le_of_ble_eq_true rfl) (hX9_init.at 58 rfl rfl) (fun x10 => ?_)
  refine os_dup rfl (hX9_init.at 59 rfl rfl) ?_
  refine os_callI (b := x10) (As := []) (st := [.ref x10, .ref l0]) (st' := (fun _ => [.ref x10, .ref l0])) mdX5_init rfl wd436 wd437 (sX5_init N x10 ) rfl rfl (fun _ => rfl) (Nat.le_of_ble_eq_true rfl) (Nat.le_of_ble_eq_true rfl) (Nat.le_of_ble_eq_true rfl) rfl (Nat.le_of_ble_eq_true rfl) rfl (Nat.le_of_ble_eq_true rfl) (hX9_init.at 60 rfl rfl) (fun _ => ?_)
  refine os_put fX9_75 rfl rfl (hX9_init.at 61 rfl rfl) ?_
  refine os_iconst (i := 0) (v := (0 : Int32)) rfl (hX9_init.at 62 rfl rfl) ?_
  refine os_istore_n (i := 1) (q := 1) rfl (lv' := [(1, .int (0 : Int32)), (0, .ref l0)]) (Nat.le_of_ble_eq_true rfl) rfl (hX9_init.at 63 rfl rfl) ?_
  refine os_iload_n (i := 1) (q := 1) (v := (0 : Int32)) 0 rfl rfl (hX9_init.at 64 rfl rfl) ?_
  refine os_bipush (i := 6) (v := (6 : Int32)) rfl (hX9_init.at 65 rfl rfl) ?_
  refine os_icmp_ge (off := 22) (tgt := 157) rfl (hX9_init.at 66 rfl rfl) ?_ ?_
  · exact os_vret (Nat.le_of_ble_eq_true rfl) (Nat.le_of_ble_eq_true rfl) (hX9_init.at 76 rfl rfl).1
  · refine os_aload_n (i := 0) (q := 0) (v := l0) 1 rfl rfl (hX9_init.at 67 rfl rfl) ?_
    refine os_getR fX9_53 (hX9_init.at 68 rfl rfl) (fun x11 => ?_)
    refine os_iload_n (i := 1) (q := 1) (v := (0 : Int32)) 0 rfl rfl (hX9_init.at 69 rfl rfl) ?_
    refine os_new (C := RX5) (T := TX5) (N := 16) (ci := 5) (ty0 := tyX5) rfl tyX5_ok osinX5 wd376 wd435 wd159 dfX5 (Nat.le_of_ble_eq_true rfl) (Nat.le_of_ble_eq_true rfl) (hX9_init.at 70 rfl rfl) (fun x12 => ?_)
    refine os_dup rfl (hX9_init.at 71 rfl rfl) ?_
    refine os_callI (b := x12) (As := []) (st := [.ref x12, .int (0 : Int32), .ref x11]) (st' := (fun _ => [.ref x12, .int (0 : Int32), .ref x11])) mdX5_init rfl wd436 wd437 (sX5_init N x12 ) rfl rfl (fun _ => rfl) (Nat.le_of_ble_eq_true rfl) (Nat.le_of_ble_eq_true rfl) (Nat.le_of_ble_eq_true rfl) rfl (Nat.le_of_ble_eq_true rfl) rfl (Nat.le_of_ble_eq_true rfl) (hX9_init.at 72 rfl rfl) (fun _ => ?_)
    refine os_aastore (t := 5) (ci := 5) rfl rfl (hX9_init.at 73 rfl rfl) ?_
    refine os_iinc (i := 1) (d := 1) (x := (0 : Int32)) (v := (1 : Int32)) (lv' := [(1, .int ((0 : Int32) + (1 : Int32))), (0, .ref l0)]) 0 rfl rfl (Nat.le_of_ble_eq_true rfl) rfl (hX9_init.at 74 rfl rfl) ?_
    refine os_goto (off := (-22)) (tgt := 132) rfl (hX9_init.at 75 rfl rfl) ?_
    refine os_iload_n (i := 1) (q := 1) (v := ((0 : Int32) + (1 : Int32))) 0 rfl rfl (hX9_init.at 64 rfl rfl) ?_
    refine os_bipush (i := 6) (v := (6 : Int32)) rfl (hX9_init.at 65 rfl rfl) ?_
    refine os_icmp_ge (off := 22) (tgt := 157) rfl (hX9_init.at 66 rfl rfl) ?_ ?_
    · exact os_vret (Nat.le_of_ble_eq_true rfl) (Nat.le_of_ble_eq_true rfl) (hX9_init.at 76 rfl rfl).1
    · refine os_aload_n (i := 0) (q := 0) (v := l0) 1 rfl rfl (hX9_init.at 67 rfl rfl) ?_
      refine os_getR fX9_53 (hX9_init.at 68 rfl rfl) (fun x13 => ?_)
      refine os_iload_n (i := 1) (q := 1) (v := ((0 : Int32) + (1 : Int32))) 0 rfl rfl (hX9_init.at 69 rfl rfl) ?_
      refine os_new (C := RX5) (T := TX5) (N := 16) (ci := 5) (ty0 := tyX5) rfl tyX5_ok osinX5 wd376 wd435 wd159 dfX5 (Nat.le_of_ble_eq_true rfl) (Nat.le_of_ble_eq_true rfl) (hX9_init.at 70 rfl rfl) (fun x14 => ?_)
      refine os_dup rfl (hX9_init.at 71 rfl rfl) ?_
      refine os_callI (b := x14) (As := []) (st := [.ref x14, .int ((0 : Int32) + (1 : Int32)), .ref x13]) (st' := (fun _ => [.ref x14, .int ((0 : Int32) + (1 : Int32)), .ref x13])) mdX5_init rfl wd436 wd437 (sX5_init N x14 ) rfl rfl (fun _ => rfl) (Nat.le_of_ble_eq_true rfl) (Nat.le_of_ble_eq_true rfl) (Nat.le_of_ble_eq_true rfl) rfl (Nat.le_of_ble_eq_true rfl) rfl (Nat.le_of_ble_eq_true rfl) (hX9_init.at 72 rfl rfl) (fun _ => ?_)
      refine os_aastore (t := 5) (ci := 5) rfl rfl (hX9_init.at 73 rfl rfl) ?_
      refine os_iinc (i := 1) (d := 1) (x := ((0 : Int32) + (1 : Int32))) (v := (1 : Int32)) (lv' := [(1, .int (((0 : Int32) + (1 : Int32)) + (1 : Int32))), (0, .ref l0)]) 0 rfl rfl (Nat.le_of_ble_eq_true rfl) rfl (hX9_init.at 74 rfl rfl) ?_
      refine os_goto (off := (-22)) (tgt := 132) rfl (hX9_init.at 75 rfl rfl) ?_
      refine os_iload_n (i := 1) (q := 1) (v := (((0 : Int32) + (1 : Int32)) + (1 : Int32))) 0 rfl rfl (hX9_init.at 64 rfl rfl) ?_
      refine os_bipush (i := 6) (v := (6 : Int32)) rfl (hX9_init.at 65 rfl rfl) ?_
      refine os_icmp_ge (off := 22) (tgt := 157) rfl (hX9_init.at 66 rfl rfl) ?_ ?_
      · exact os_vret (Nat.le_of_ble_eq_true rfl) (Nat.le_of_ble_eq_true rfl) (hX9_init.at 76 rfl rfl).1
      · refine os_aload_n (i := 0) (q := 0) (v := l0) 1 rfl rfl (hX9_init.at 67 rfl rfl) ?_
        refine os_getR fX9_53 (hX9_init.at 68 rfl rfl) (fun x15 => ?_)
        refine os_iload_n (i := 1) (q := 1) (v := (((0 : Int32) + (1 : Int32)) + (1 : Int32))) 0 rfl rfl (hX9_init.at 69 rfl rfl) ?_
        refine os_new (C := RX5) (T := TX5) (N := 16) (ci := 5) (ty0 := tyX5) rfl tyX5_ok osinX5 wd376 wd435 wd159 dfX5 (Nat.le_of_ble_eq_true rfl) (Nat.le_of_ble_eq_true rfl) (hX9_init.at 70 rfl rfl) (fun x16 => ?_)
        refine os_dup rfl (hX9_init.at 71 rfl rfl) ?_
        refine os_callI (b := x16) (As := []) (st := [.ref x16, .int (((0 : Int32) + (1 : Int32)) + (1 : Int32)), .ref x15]) (st' := (fun _ => [.ref x16, .int (((0 : Int32) + (1 : Int32)) + (1 : Int32)), .ref x15])) mdX5_init rfl wd436 wd437 (sX5_init N x16 ) rfl rfl (fun _ => rfl) (Nat.le_of_ble_eq_true rfl) (Nat.le_of_ble_eq_true rfl) (Nat.le_of_ble_eq_true rfl) rfl (Nat.le_of_ble_eq_true rfl) rfl (Nat.le_of_ble_eq_true rfl) (hX9_init.at 72 rfl rfl) (fun _ => ?_)
        refine os_aastore (t := 5) (ci := 5) rfl rfl (hX9_init.at 73 rfl rfl) ?_
        refine os_iinc (i := 1) (d := 1) (x := (((0 : Int32) + (1 : Int32)) + (1 : Int32))) (v := (1 : Int32)) (lv' := [(1, .int ((((0 : Int32) + (1 : Int32)) + (1 : Int32)) + (1 : Int32))), (0, .ref l0)]) 0 rfl rfl (Nat.le_of_ble_eq_true rfl) rfl (hX9_init.at 74 rfl rfl) ?_
        refine os_goto (off := (-22)) (tgt := 132) rfl (hX9_init.at 75 rfl rfl) ?_
        refine os_iload_n (i := 1) (q := 1) (v := ((((0 : Int32) + (1 : Int32)) + (1 : Int32)) + (1 : Int32))) 0 rfl rfl (hX9_init.at 64 rfl rfl) ?_
        refine os_bipush (i := 6) (v := (6 : Int32)) rfl (hX9_init.at 65 rfl rfl) ?_
        refine os_icmp_ge (off := 22) (tgt := 157) rfl (hX9_init.at 66 rfl rfl) ?_ ?_
        · exact os_vret (Nat.le_of_ble_eq_true rfl) (Nat.le_of_ble_eq_true rfl) (hX9_init.at 76 rfl rfl).1
        · refine os_aload_n (i := 0) (q := 0) (v := l0) 1 rfl rfl (hX9_init.at 67 rfl rfl) ?_
          refine os_getR fX9_53 (hX9_init.at 68 rfl rfl) (fun x17 => ?_)
          refine os_iload_n (i := 1) (q := 1) (v := ((((0 : Int32) + (1 : Int32)) + (1 : Int32)) + (1 : Int32))) 0 rfl rfl (hX9_init.at 69 rfl rfl) ?_
          refine os_new (C := RX5) (T := TX5) (N := 16) (ci := 5) (ty0 := tyX5) rfl tyX5_ok osinX5 wd376 wd435 wd159 dfX5 (Nat.le_of_ble_eq_true rfl) (Nat.le_of_ble_eq_true rfl) (hX9_init.at 70 rfl rfl) (fun x18 => ?_)
          refine os_dup rfl (hX9_init.at 71 rfl rfl) ?_
          refine os_callI (b := x18) (As := []) (st := [.ref x18, .int ((((0 : Int32) + (1 : Int32)) + (1 : Int32)) + (1 : Int32)), .ref x17]) (st' := (fun _ => [.ref x18, .int ((((0 : Int32) + (1 : Int32)) + (1 : Int32)) + (1 : Int32)), .ref x17])) mdX5_init rfl wd436 wd437 (sX5_init N x18 ) rfl rfl (fun _ => rfl) (Nat.le_of_ble_eq_true rfl) (Nat.le_of_ble_eq_true rfl) (Nat.le_of_ble_eq_true rfl) rfl (Nat.le_of_ble_eq_true rfl) rfl (Nat.le_of_ble_eq_true rfl) (hX9_init.at 72 rfl rfl) (fun _ => ?_)
          refine os_aastore (t := 5) (ci := 5) rfl rfl (hX9_init.at 73 rfl rfl) ?_
          refine os_iinc (i := 1) (d := 1) (x := ((((0 : Int32) + (1 : Int32)) + (1 : Int32)) + (1 : Int32))) (v := (1 : Int32)) (lv' := [(1, .int (((((0 : Int32) + (1 : Int32)) + (1 : Int32)) + (1 : Int32)) + (1 : Int32))), (0, .ref l0)]) 0 rfl rfl (Nat.le_of_ble_eq_true rfl) rfl (hX9_init.at 74 rfl rfl) ?_
          refine os_goto (off := (-22)) (tgt := 132) rfl (hX9_init.at 75 rfl rfl) ?_
          refine os_iload_n (i := 1) (q := 1) (v := (((((0 : Int32) + (1 : Int32)) + (1 : Int32)) + (1 : Int32)) + (1 : Int32))) 0 rfl rfl (hX9_init.at 64 rfl rfl) ?_
          refine os_bipush (i := 6) (v := (6 : Int32)) rfl (hX9_init.at 65 rfl rfl) ?_
          refine os_icmp_ge (off := 22) (tgt := 157) rfl (hX9_init.at 66 rfl rfl) ?_ ?_
          · exact os_vret (Nat.le_of_ble_eq_true rfl) (Nat.le_of_ble_eq_true rfl) (hX9_init.at 76 rfl rfl).1
          · refine os_aload_n (i := 0) (q := 0) (v := l0) 1 rfl rfl (hX9_init.at 67 rfl rfl) ?_
            refine os_getR fX9_53 (hX9_init.at 68 rfl rfl) (fun x19 => ?_)
            refine os_iload_n (i := 1) (q := 1) (v := (((((0 : Int32) + (1 : Int32)) + (1 : Int32)) + (1 : Int32)) + (1 : Int32))) 0 rfl rfl (hX9_init.at 69 rfl rfl) ?_
            refine os_new (C := RX5) (T := TX5) (N := 16) (ci := 5) (ty0 := tyX5) rfl tyX5_ok osinX5 wd376 wd435 wd159 dfX5 (Nat.le_of_ble_eq_true rfl) (Nat.le_of_ble_eq_true rfl) (hX9_init.at 70 rfl rfl) (fun x20 => ?_)
            refine os_dup rfl (hX9_init.at 71 rfl rfl) ?_
            refine os_callI (b := x20) (As := []) (st := [.ref x20, .int (((((0 : Int32) + (1 : Int32)) + (1 : Int32)) + (1 : Int32)) + (1 : Int32)), .ref x19]) (st' := (fun _ => [.ref x20, .int (((((0 : Int32) + (1 : Int32)) + (1 : Int32)) + (1 : Int32)) + (1 : Int32)), .ref x19])) mdX5_init rfl wd436 wd437 (sX5_init N x20 ) rfl rfl (fun _ => rfl) (Nat.le_of_ble_eq_true rfl) (Nat.le_of_ble_eq_true rfl) (Nat.le_of_ble_eq_true rfl) rfl (Nat.le_of_ble_eq_true rfl) rfl (Nat.le_of_ble_eq_true rfl) (hX9_init.at 72 rfl rfl) (fun _ => ?_)
            refine os_aastore (t := 5) (ci := 5) rfl rfl (hX9_init.at 73 rfl rfl) ?_
            refine os_iinc (i := 1) (d := 1) (x := (((((0 : Int32) + (1 : Int32)) + (1 : Int32)) + (1 : Int32)) + (1 : Int32))) (v := (1 : Int32)) (lv' := [(1, .int ((((((0 : Int32) + (1 : Int32)) + (1 : Int32)) + (1 : Int32)) + (1 : Int32)) + (1 : Int32))), (0, .ref l0)]) 0 rfl rfl (Nat.le_of_ble_eq_true rfl) rfl (hX9_init.at 74 rfl rfl) ?_
            refine os_goto (off := (-22)) (tgt := 132) rfl (hX9_init.at 75 rfl rfl) ?_
            refine os_iload_n (i := 1) (q := 1) (v := ((((((0 : Int32) + (1 : Int32)) + (1 : Int32)) + (1 : Int32)) + (1 : Int32)) + (1 : Int32))) 0 rfl rfl (hX9_init.at 64 rfl rfl) ?_
            refine os_bipush (i := 6) (v := (6 : Int32)) rfl (hX9_init.at 65 rfl rfl) ?_
            refine os_icmp_ge (off := 22) (tgt := 157) rfl (hX9_init.at 66 rfl rfl) ?_ ?_
            · exact os_vret (Nat.le_of_ble_eq_true rfl) (Nat.le_of_ble_eq_true rfl) (hX9_init.at 76 rfl rfl).1
            · refine os_aload_n (i := 0) (q := 0) (v := l0) 1 rfl rfl (hX9_init.at 67 rfl rfl) ?_
              refine os_getR fX9_53 (hX9_init.at 68 rfl rfl) (fun x21 => ?_)
              refine os_iload_n (i := 1) (q := 1) (v := ((((((0 : Int32) + (1 : Int32)) + (1 : Int32)) + (1 : Int32)) + (1 : Int32)) + (1 : Int32))) 0 rfl rfl (hX9_init.at 69 rfl rfl) ?_
              refine os_new (C := RX5) (T := TX5) (N := 16) (ci := 5) (ty0 := tyX5) rfl tyX5_ok osinX5 wd376 wd435 wd159 dfX5 (Nat.le_of_ble_eq_true rfl) (Nat.le_of_ble_eq_true rfl) (hX9_init.at 70 rfl rfl) (fun x22 => ?_)
              refine os_dup rfl (hX9_init.at 71 rfl rfl) ?_
              refine os_callI (b := x22) (As := []) (st := [.ref x22, .int ((((((0 : Int32) + (1 : Int32)) + (1 : Int32)) + (1 : Int32)) + (1 : Int32)) + (1 : Int32)), .ref x21]) (st' := (fun _ => [.ref x22, .int ((((((0 : Int32) + (1 : Int32)) + (1 : Int32)) + (1 : Int32)) + (1 : Int32)) + (1 : Int32)), .ref x21])) mdX5_init rfl wd436 wd437 (sX5_init N x22 ) rfl rfl (fun _ => rfl) (Nat.le_of_ble_eq_true rfl) (Nat.le_of_ble_eq_true rfl) (Nat.le_of_ble_eq_true rfl) rfl (Nat.le_of_ble_eq_true rfl) rfl (Nat.le_of_ble_eq_true rfl) (hX9_init.at 72 rfl rfl) (fun _ => ?_)
              refine os_aastore (t := 5) (ci := 5) rfl rfl (hX9_init.at 73 rfl rfl) ?_
              refine os_iinc (i := 1) (d := 1) (x := ((((((0 : Int32) + (1 : Int32)) + (1 : Int32)) + (1 : Int32)) + (1 : Int32)) + (1 : Int32))) (v := (1 : Int32)) (lv' := [(1, .int (((((((0 : Int32) + (1 : Int32)) + (1 : Int32)) + (1 : Int32)) + (1 : Int32)) + (1 : Int32)) + (1 : Int32))), (0, .ref l0)]) 0 rfl rfl (Nat.le_of_ble_eq_true rfl) rfl (hX9_init.at 74 rfl rfl) ?_
              refine os_goto (off := (-22)) (tgt := 132) rfl (hX9_init.at 75 rfl rfl) ?_
              refine os_iload_n (i := 1) (q := 1) (v := (((((((0 : Int32) + (1 : Int32)) + (1 : Int32)) + (1 : Int32)) + (1 : Int32)) + (1 : Int32)) + (1 : Int32))) 0 rfl rfl (hX9_init.at 64 rfl rfl) ?_
              refine os_bipush (i := 6) (v := (6 : Int32)) rfl (hX9_init.at 65 rfl rfl) ?_
              refine os_icmp_ge (off := 22) (tgt := 157) rfl (hX9_init.at 66 rfl rfl) ?_ ?_
              · exact os_vret (Nat.le_of_ble_eq_true rfl) (Nat.le_of_ble_eq_true rfl) (hX9_init.at 76 rfl rfl).1
              · refine os_aload_n (i := 0) (q := 0) (v := l0) 1 rfl rfl (hX9_init.at 67 rfl rfl) ?_
                refine os_getR fX9_53 (hX9_init.at 68 rfl rfl) (fun x23 => ?_)
                refine os_iload_n (i := 1) (q := 1) (v := (((((((0 : Int32) + (1 : Int32)) + (1 : Int32)) + (1 : Int32)) + (1 : Int32)) + (1 : Int32)) + (1 : Int32))) 0 rfl rfl (hX9_init.at 69 rfl rfl) ?_
                refine os_new (C := RX5) (T := TX5) (N := 16) (ci := 5) (ty0 := tyX5) rfl tyX5_ok osinX5 wd376 wd435 wd159 dfX5 (Nat.le_of_ble_eq_true rfl) (Nat.le_of_ble_eq_true rfl) (hX9_init.at 70 rfl rfl) (fun x24 => ?_)
                refine os_dup rfl (hX9_init.at 71 rfl rfl) ?_
                refine os_callI (b := x24) (As := []) (st := [.ref x24, .int (((((((0 : Int32) + (1 : Int32)) + (1 : Int32)) + (1 : Int32)) + (1 : Int32)) + (1 : Int32)) + (1 : Int32)), .ref x23]) (st' := (fun _ => [.ref x24, .int (((((((0 : Int32) + (1 : Int32)) + (1 : Int32)) + (1 : Int32)) + (1 : Int32)) + (1 : Int32)) + (1 : Int32)), .ref x23])) mdX5_init rfl wd436 wd437 (sX5_init N x24 ) rfl rfl (fun _ => rfl) (Nat.le_of_ble_eq_true rfl) (Nat.le_of_ble_eq_true rfl) (Nat.le_of_ble_eq_true rfl) rfl (Nat.le_of_ble_eq_true rfl) rfl (Nat.le_of_ble_eq_true rfl) (hX9_init.at 72 rfl rfl) (fun _ => ?_)
                refine os_aastore (t := 5) (ci := 5) rfl rfl (hX9_init.at 73 rfl rfl) ?_
                refine os_iinc (i := 1) (d := 1) (x := (((((((0 : Int32) + (1 : Int32)) + (1 : Int32)) + (1 : Int32)) + (1 : Int32)) + (1 : Int32)) + (1 : Int32))) (v := (1 : Int32)) (lv' := [(1, .int ((((((((0 : Int32) + (1 : Int32)) + (1 : Int32)) + (1 : Int32)) + (1 : Int32)) + (1 : Int32)) + (1 : Int32)) + (1 : Int32))), (0, .ref l0)]) 0 rfl rfl (Nat.le_of_ble_eq_true rfl) rfl (hX9_init.at 74 rfl rfl) ?_
                refine os_goto (off := (-22)) (tgt := 132) rfl (hX9_init.at 75 rfl rfl) ?_
                exact os_no rfl
-- X9_putOrder
def KX9_putOrder : List (Nat × Nat × Instr) := [(0, 1, .iload_n 1), (1, 31, .tableswitch 131 1 4 #[31, 62, 93, 112]), (32, 1, .aload_n 0), (33, 3, .getfield 20), (36, 3, .ldc_w 392), (39, 3, .invokevirtual 336), (42, 1, .aload_n 0), (43, 3, .getfield 20), (46, 1, .aload_n 0), (47, 3, .getfield 63), (50, 3, .getfield 339), (53, 1, .iload_n 2), (54, 3, .invokestatic 147), (57, 3, .invokevirtual 329), (60, 3, .goto 82), (63, 1, .aload_n 0), (64, 3, .getfield 20), (67, 3, .ldc_w 394), (70, 3, .invokevirtual 336), (73, 1, .aload_n 0), (74, 3, .getfield 20), (77, 1, .aload_n 0), (78, 3, .getfield 63), (81, 3, .getfield 339), (84, 1, .iload_n 2), (85, 3, .invokestatic 147), (88, 3, .invokevirtual 329), (91, 3, .goto 51), (94, 1, .aload_n 0), (95, 3, .getfield 20), (98, 3, .ldc_w 394), (101, 3, .invokevirtual 336), (104, 1, .aload_n 0), (105, 1, .iload_n 2), (106, 1, .iload_n 3), (107, 3, .invokevirtual 396), (110, 3, .goto 32), (113, 1, .aload_n 0), (114, 3, .getfield 20), (117, 3, .ldc_w 399), (120, 3, .invokevirtual 336), (123, 1, .aload_n 0), (124, 1, .iload_n 2), (125, 1, .iload_n 3), (126, 3, .invokevirtual 396), (129, 3, .goto 13), (132, 1, .aload_n 0), (133, 3, .getfield 20), (136, 3, .ldc_w 401), (139, 3, .invokevirtual 336), (142, 1, .return_)]
theorem hX9_putOrder : osDs cX9_putOrder KX9_putOrder := by
  show ∀ q ∈ KX9_putOrder, decode cX9_putOrder q.1 = .ok (q.2.2, q.2.1)
  decide +kernel
def qX9_putOrder_142 (N : Nat) : osM Unit := osret ()
def qX9_putOrder (N : Nat) (l0 : Nat) (l1 : Int32) (l2 : Int32) (l3 : Int32) : osM Unit := osswitch l1 1 [osbind (osgR [7] 2 l0) fun x1 => osbind (ostext 2) fun x2 => osbind (osrecv [4] x1 (qX4_putText N x1 x2)) fun _ => osbind (osgR [7] 2 l0) fun x3 => osbind (osgR [7] 10 l0) fun x4 => osbind (osgR [0] 5 x4) fun x5 => osbind (qX9_entry N x5 l2) fun x6 => osbind (osrecv [4] x3 (qX4_putName N x3 x6)) fun _ => qX9_putOrder_142 N , osbind (osgR [7] 2 l0) fun x7 => osbind (ostext 3) fun x8 => osbind (osrecv [4] x7 (qX4_putText N x7 x8)) fun _ => osbind (osgR [7] 2 l0) fun x9 => osbind (osgR [7] 10 l0) fun x10 => osbind (osgR [0] 5 x10) fun x11 => osbind (qX9_entry N x11 l2) fun x12 => osbind (osrecv [4] x9 (qX4_putName N x9 x12)) fun _ => qX9_putOrder_142 N , osbind (osgR [7] 2 l0) fun x13 => osbind (ostext 3) fun x14 => osbind (osrecv [4] x13 (qX4_putText N x13 x14)) fun _ => osbind (osrecv [7] l0 (qX9_putRoute N l0 l2 l3)) fun _ => qX9_putOrder_142 N , osbind (osgR [7] 2 l0) fun x15 => osbind (ostext 4) fun x16 => osbind (osrecv [4] x15 (qX4_putText N x15 x16)) fun _ => osbind (osrecv [7] l0 (qX9_putRoute N l0 l2 l3)) fun _ => qX9_putOrder_142 N ] (osbind (osgR [7] 2 l0) fun x17 => osbind (ostext 5) fun x18 => osbind (osrecv [4] x17 (qX4_putText N x17 x18)) fun _ => qX9_putOrder_142 N )
set_option maxRecDepth 100000 in
set_option maxHeartbeats 4000000 in
theorem sX9_putOrder_142 (N : Nat) : osW (osFinM (fun _ : Unit => none) 0 0) yX9_putOrder cX9_putOrder 4 none [] { frames := 6, cells := 0, slots := 0, locals := 129 } 0 0 142 [] [] (qX9_putOrder_142 N) := by
  unfold qX9_putOrder_142
  exact os_vret (Nat.le_of_ble_eq_true rfl) (Nat.le_of_ble_eq_true rfl) (hX9_putOrder.at 50 rfl rfl).1
set_option maxRecDepth 100000 in
set_option maxHeartbeats 4000000 in
theorem sX9_putOrder (N : Nat) (l0 : Nat) (l1 : Int32) (l2 : Int32) (l3 : Int32) : osMet yX9_putOrder cX9_putOrder 4 none 6 129 0 0 (fun _ : Unit => none) [.ref l0, .int l1, .int l2, .int l3] (qX9_putOrder N l0 l1 l2 l3) := by
  refine osMet.of plX9 (Nat.le_of_ble_eq_true rfl) (osW.rw (lv2 := [(0, .ref l0), (1, .int l1), (2, .int l2), (3, .int l3)]) ?_ rfl rfl rfl)
  unfold qX9_putOrder
  refine os_iload_n (i := 1) (q := 1) (v := l1) 1 rfl rfl (hX9_putOrder.at 0 rfl rfl) ?_
  refine os_tableswitch (dflt := 131) (lo := 1) (hi := 4) (offs := #[31, 62, 93, 112]) (tgt := 132) rfl rfl (hX9_putOrder.at 1 rfl rfl) ?_ ?_
  · refine ⟨⟨32, rfl, ?_⟩, ⟨63, rfl, ?_⟩, ⟨94, rfl, ?_⟩, ⟨113, rfl, ?_⟩, trivial⟩
    · refine os_aload_n (i := 0) (q := 0) (v := l0) 0 rfl rfl (hX9_putOrder.at 2 rfl rfl) ?_
      refine os_getR fX9_20 (hX9_putOrder.at 3 rfl rfl) (fun x1 => ?_)
      refine os_text (j := 2) (q := (392, " to ")) rfl rfl (hX9_putOrder.at 4 rfl rfl) (fun x2 => ?_)
      refine os_callV (cis := [4]) (b := x1) (As := [.ref x2]) (st := []) (st' := (fun _ => [])) sl4_X4_putText_X4_putText mdX4_putText wd653 wd654 (sX4_putText N x1 x2) rfl rfl (fun _ => rfl) (Nat.le_of_ble_eq_true rfl) (Nat.le_of_ble_eq_true rfl) (Nat.le_of_ble_eq_true rfl) rfl (Nat.le_of_ble_eq_true rfl) rfl (Nat.le_of_ble_eq_true rfl) (hX9_putOrder.at 5 rfl rfl) (fun _ => ?_)
      refine os_aload_n (i := 0) (q := 0) (v := l0) 0 rfl rfl (hX9_putOrder.at 6 rfl rfl) ?_
      refine os_getR fX9_20 (hX9_putOrder.at 7 rfl rfl) (fun x3 => ?_)
      refine os_aload_n (i := 0) (q := 0) (v := l0) 0 rfl rfl (hX9_putOrder.at 8 rfl rfl) ?_
      refine os_getR fX9_63 (hX9_putOrder.at 9 rfl rfl) (fun x4 => ?_)
      refine os_getR fX9_339 (hX9_putOrder.at 10 rfl rfl) (fun x5 => ?_)
      refine os_iload_n (i := 2) (q := 2) (v := l2) 2 rfl rfl (hX9_putOrder.at 11 rfl rfl) ?_
      refine os_callS (As := [.ref x5, .int l2]) (st := [.ref x3]) (st' := (fun r => .int r :: [.ref x3])) mdX9_entry wd642 wd640 (sX9_entry N x5 l2) rfl rfl (fun _ => rfl) (Nat.le_of_ble_eq_true rfl) (Nat.le_of_ble_eq_true rfl) (Nat.le_of_ble_eq_true rfl) rfl (Nat.le_of_ble_eq_true rfl) rfl (Nat.le_of_ble_eq_true rfl) (hX9_putOrder.at 12 rfl rfl) (fun x6 => ?_)
      refine os_callV (cis := [4]) (b := x3) (As := [.int x6]) (st := []) (st' := (fun _ => [])) sl4_X4_putName_X4_putName mdX4_putName wd643 wd644 (sX4_putName N x3 x6) rfl rfl (fun _ => rfl) (Nat.le_of_ble_eq_true rfl) (Nat.le_of_ble_eq_true rfl) (Nat.le_of_ble_eq_true rfl) rfl (Nat.le_of_ble_eq_true rfl) rfl (Nat.le_of_ble_eq_true rfl) (hX9_putOrder.at 13 rfl rfl) (fun _ => ?_)
      refine os_goto (off := 82) (tgt := 142) rfl (hX9_putOrder.at 14 rfl rfl) ?_
      exact osW.sub [] rfl (sX9_putOrder_142 N )
    · refine os_aload_n (i := 0) (q := 0) (v := l0) 0 rfl rfl (hX9_putOrder.at 15 rfl rfl) ?_
      refine os_getR fX9_20 (hX9_putOrder.at 16 rfl rfl) (fun x7 => ?_)
      refine os_text (j := 3) (q := (394, " support ")) rfl rfl (hX9_putOrder.at 17 rfl rfl) (fun x8 => ?_)
      refine os_callV (cis := [4]) (b := x7) (As := [.ref x8]) (st := []) (st' := (fun _ => [])) sl4_X4_putText_X4_putText mdX4_putText wd653 wd654 (sX4_putText N x7 x8) rfl rfl (fun _ => rfl) (Nat.le_of_ble_eq_true rfl) (Nat.le_of_ble_eq_true rfl) (Nat.le_of_ble_eq_true rfl) rfl (Nat.le_of_ble_eq_true rfl) rfl (Nat.le_of_ble_eq_true rfl) (hX9_putOrder.at 18 rfl rfl) (fun _ => ?_)
      refine os_aload_n (i := 0) (q := 0) (v := l0) 0 rfl rfl (hX9_putOrder.at 19 rfl rfl) ?_
      refine os_getR fX9_20 (hX9_putOrder.at 20 rfl rfl) (fun x9 => ?_)
      refine os_aload_n (i := 0) (q := 0) (v := l0) 0 rfl rfl (hX9_putOrder.at 21 rfl rfl) ?_
      refine os_getR fX9_63 (hX9_putOrder.at 22 rfl rfl) (fun x10 => ?_)
      refine os_getR fX9_339 (hX9_putOrder.at 23 rfl rfl) (fun x11 => ?_)
      refine os_iload_n (i := 2) (q := 2) (v := l2) 2 rfl rfl (hX9_putOrder.at 24 rfl rfl) ?_
      refine os_callS (As := [.ref x11, .int l2]) (st := [.ref x9]) (st' := (fun r => .int r :: [.ref x9])) mdX9_entry wd642 wd640 (sX9_entry N x11 l2) rfl rfl (fun _ => rfl) (Nat.le_of_ble_eq_true rfl) (Nat.le_of_ble_eq_true rfl) (Nat.le_of_ble_eq_true rfl) rfl (Nat.le_of_ble_eq_true rfl) rfl (Nat.le_of_ble_eq_true rfl) (hX9_putOrder.at 25 rfl rfl) (fun x12 => ?_)
      refine os_callV (cis := [4]) (b := x9) (As := [.int x12]) (st := []) (st' := (fun _ => [])) sl4_X4_putName_X4_putName mdX4_putName wd643 wd644 (sX4_putName N x9 x12) rfl rfl (fun _ => rfl) (Nat.le_of_ble_eq_true rfl) (Nat.le_of_ble_eq_true rfl) (Nat.le_of_ble_eq_true rfl) rfl (Nat.le_of_ble_eq_true rfl) rfl (Nat.le_of_ble_eq_true rfl) (hX9_putOrder.at 26 rfl rfl) (fun _ => ?_)
      refine os_goto (off := 51) (tgt := 142) rfl (hX9_putOrder.at 27 rfl rfl) ?_
      exact osW.sub [] rfl (sX9_putOrder_142 N )
    · refine os_aload_n (i := 0) (q := 0) (v := l0) 0 rfl rfl (hX9_putOrder.at 28 rfl rfl) ?_
      refine os_getR fX9_20 (hX9_putOrder.at 29 rfl rfl) (fun x13 => ?_)
      refine os_text (j := 3) (q := (394, " support ")) rfl rfl (hX9_putOrder.at 30 rfl rfl) (fun x14 => ?_)
      refine os_callV (cis := [4]) (b := x13) (As := [.ref x14]) (st := []) (st' := (fun _ => [])) sl4_X4_putText_X4_putText mdX4_putText wd653 wd654 (sX4_putText N x13 x14) rfl rfl (fun _ => rfl) (Nat.le_of_ble_eq_true rfl) (Nat.le_of_ble_eq_true rfl) (Nat.le_of_ble_eq_true rfl) rfl (Nat.le_of_ble_eq_true rfl) rfl (Nat.le_of_ble_eq_true rfl) (hX9_putOrder.at 31 rfl rfl) (fun _ => ?_)
      refine os_aload_n (i := 0) (q := 0) (v := l0) 0 rfl rfl (hX9_putOrder.at 32 rfl rfl) ?_
      refine os_iload_n (i := 2) (q := 2) (v := l2) 2 rfl rfl (hX9_putOrder.at 33 rfl rfl) ?_
      refine os_iload_n (i := 3) (q := 3) (v := l3) 3 rfl rfl (hX9_putOrder.at 34 rfl rfl) ?_
      refine os_callV (cis := [7]) (b := l0) (As := [.int l2, .int l3]) (st := []) (st' := (fun _ => [])) sl7_X9_putRoute_X9_putRoute mdX9_putRoute wd1551 wd1553 (sX9_putRoute N l0 l2 l3) rfl rfl (fun _ => rfl) (Nat.le_of_ble_eq_true rfl) (Nat.le_of_ble_eq_true rfl) (Nat.le_of_ble_eq_true rfl) rfl (Nat.le_of_ble_eq_true rfl) rfl (Nat.le_of_ble_eq_true rfl) (hX9_putOrder.at 35 rfl rfl) (fun _ => ?_)
      refine os_goto (off := 32) (tgt := 142) rfl (hX9_putOrder.at 36 rfl rfl) ?_
      exact osW.sub [] rfl (sX9_putOrder_142 N )
    · refine os_aload_n (i := 0) (q := 0) (v := l0) 0 rfl rfl (hX9_putOrder.at 37 rfl rfl) ?_
      refine os_getR fX9_20 (hX9_putOrder.at 38 rfl rfl) (fun x15 => ?_)
      refine os_text (j := 4) (q := (399, " convoy ")) rfl rfl (hX9_putOrder.at 39 rfl rfl) (fun x16 => ?_)
      refine os_callV (cis := [4]) (b := x15) (As := [.ref x16]) (st := []) (st' := (fun _ => [])) sl4_X4_putText_X4_putText mdX4_putText wd653 wd654 (sX4_putText N x15 x16) rfl rfl (fun _ => rfl) (Nat.le_of_ble_eq_true rfl) (Nat.le_of_ble_eq_true rfl) (Nat.le_of_ble_eq_true rfl) rfl (Nat.le_of_ble_eq_true rfl) rfl (Nat.le_of_ble_eq_true rfl) (hX9_putOrder.at 40 rfl rfl) (fun _ => ?_)
      refine os_aload_n (i := 0) (q := 0) (v := l0) 0 rfl rfl (hX9_putOrder.at 41 rfl rfl) ?_
      refine os_iload_n (i := 2) (q := 2) (v := l2) 2 rfl rfl (hX9_putOrder.at 42 rfl rfl) ?_
      refine os_iload_n (i := 3) (q := 3) (v := l3) 3 rfl rfl (hX9_putOrder.at 43 rfl rfl) ?_
      refine os_callV (cis := [7]) (b := l0) (As := [.int l2, .int l3]) (st := []) (st' := (fun _ => [])) sl7_X9_putRoute_X9_putRoute mdX9_putRoute wd1551 wd1553 (sX9_putRoute N l0 l2 l3) rfl rfl (fun _ => rfl) (Nat.le_of_ble_eq_true rfl) (Nat.le_of_ble_eq_true rfl) (Nat.le_of_ble_eq_true rfl) rfl (Nat.le_of_ble_eq_true rfl) rfl (Nat.le_of_ble_eq_true rfl) (hX9_putOrder.at 44 rfl rfl) (fun _ => ?_)
      refine os_goto (off := 13) (tgt := 142) rfl (hX9_putOrder.at 45 rfl rfl) ?_
      exact osW.sub [] rfl (sX9_putOrder_142 N )
  · refine os_aload_n (i := 0) (q := 0) (v := l0) 0 rfl rfl (hX9_putOrder.at 46 rfl rfl) ?_
    refine os_getR fX9_20 (hX9_putOrder.at 47 rfl rfl) (fun x17 => ?_)
    refine os_text (j := 5) (q := (401, " hold")) rfl rfl (hX9_putOrder.at 48 rfl rfl) (fun x18 => ?_)
    refine os_callV (cis := [4]) (b := x17) (As := [.ref x18]) (st := []) (st' := (fun _ => [])) sl4_X4_putText_X4_putText mdX4_putText wd653 wd654 (sX4_putText N x17 x18) rfl rfl (fun _ => rfl) (Nat.le_of_ble_eq_true rfl) (Nat.le_of_ble_eq_true rfl) (Nat.le_of_ble_eq_true rfl) rfl (Nat.le_of_ble_eq_true rfl) rfl (Nat.le_of_ble_eq_true rfl) (hX9_putOrder.at 49 rfl rfl) (fun _ => ?_)
    exact osW.sub [] rfl (sX9_putOrder_142 N )
