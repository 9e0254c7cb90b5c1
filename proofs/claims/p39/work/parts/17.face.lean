-- X4_init
def KX4_init : List (Nat × Nat × Instr) := [(0, 1, .aload_n 0), (1, 3, .invokespecial 3), (4, 1, .aload_n 0), (5, 3, .sipush 360), (8, 2, .newarray .byte), (10, 3, .putfield 9), (13, 1, .aload_n 0), (14, 1, .iconst 0), (15, 3, .putfield 15), (18, 1, .return_)]
theorem hX4_init : osDs cX4_init KX4_init := by
  show ∀ q ∈ KX4_init, decode cX4_init q.1 = .ok (q.2.2, q.2.1)
  decide +kernel
def qX4_init (N : Nat) (l0 : Nat) : osM Unit := osbind (osnew (.inl (1, (360, .inl fun _ => 0)))) fun x1 => osbind (osput [4] 0 l0 (.ref x1)) fun _ => osbind (osput [4] 1 l0 (.int (0 : Int32))) fun _ => osret ()
set_option maxRecDepth 100000 in
set_option maxHeartbeats 4000000 in
theorem sX4_init (N : Nat) (l0 : Nat) : osMet yX4_init cX4_init 1 none 1 20 1 360 (fun _ : Unit => none) [.ref l0] (qX4_init N l0) := by
  refine osMet.of plX4 (Nat.le_of_ble_eq_true rfl) (osW.rw (lv2 := [(0, .ref l0)]) ?_ rfl rfl rfl)
  unfold qX4_init
  refine os_aload_n (i := 0) (q := 0) (v := l0) 0 rfl rfl (hX4_init.at 0 rfl rfl) ?_
  refine os_objInit wd95 wd88 wd89 (Nat.le_of_ble_eq_true rfl) (Nat.le_of_ble_eq_true rfl) (Nat.le_of_ble_eq_true rfl) (hX4_init.at 1 rfl rfl) ?_
  refine os_aload_n (i := 0) (q := 0) (v := l0) 0 rfl rfl (hX4_init.at 2 rfl rfl) ?_
  refine os_sipush (i := 360) (v := (360 : Int32)) rfl (hX4_init.at 3 rfl rfl) ?_
  refine os_newarray (at9 := .byte) (ty := .byte) (t := 1) (N := 360) rfl rfl rfl wd103 (fun _ => rfl) (by decide) rfl (Nat.le_of_ble_eq_true rfl) (Nat.le_of_ble_eq_true rfl) (Nat.le_of_ble_eq_true rfl) (hX4_init.at 4 rfl rfl) (fun x1 => ?_)
  refine os_putF fX4_9 rfl (osHd1 rfl rfl) rfl rfl (hX4_init.at 5 rfl rfl) ?_
  refine os_aload_n (i := 0) (q := 0) (v := l0) 0 rfl rfl (hX4_init.at 6 rfl rfl) ?_
  refine os_iconst (i := 0) (v := (0 : Int32)) rfl (hX4_init.at 7 rfl rfl) ?_
  refine os_put fX4_15 rfl rfl (hX4_init.at 8 rfl rfl) ?_
  exact os_vret (Nat.le_of_ble_eq_true rfl) (Nat.le_of_ble_eq_true rfl) (hX4_init.at 9 rfl rfl).1
-- X9_areas
def KX9_areas : List (Nat × Nat × Instr) := [(0, 1, .aload_n 0), (1, 3, .getfield 63), (4, 3, .getfield 120), (7, 1, .ireturn)]
theorem hX9_areas : osDs cX9_areas KX9_areas := by
  show ∀ q ∈ KX9_areas, decode cX9_areas q.1 = .ok (q.2.2, q.2.1)
  decide +kernel
def qX9_areas (N : Nat) (l0 : Nat) : osM Int32 := osbind (osgR [7] 10 l0) fun x1 => osbind (osgI [0] 0 x1) fun x2 => osret x2
set_option maxRecDepth 100000 in
set_option maxHeartbeats 4000000 in
theorem sX9_areas (N : Nat) (l0 : Nat) : osMet yX9_areas cX9_areas 1 (some .int) 0 0 0 0 (fun r : Int32 => some (.int r)) [.ref l0] (qX9_areas N l0) := by
  refine osMet.of plX9 (Nat.le_of_ble_eq_true rfl) (osW.rw (lv2 := [(0, .ref l0)]) ?_ rfl rfl rfl)
  unfold qX9_areas
  refine os_aload_n (i := 0) (q := 0) (v := l0) 0 rfl rfl (hX9_areas.at 0 rfl rfl) ?_
  refine os_getR fX9_63 (hX9_areas.at 1 rfl rfl) (fun x1 => ?_)
  refine os_getI fX9_120 (hX9_areas.at 2 rfl rfl) (fun x2 => ?_)
  exact os_iret (Nat.le_of_ble_eq_true rfl) (Nat.le_of_ble_eq_true rfl) (hX9_areas.at 3 rfl rfl).1
-- X9_powers
def KX9_powers : List (Nat × Nat × Instr) := [(0, 1, .aload_n 0), (1, 3, .getfield 63), (4, 3, .getfield 123), (7, 1, .ireturn)]
theorem hX9_powers : osDs cX9_powers KX9_powers := by
  show ∀ q ∈ KX9_powers, decode cX9_powers q.1 = .ok (q.2.2, q.2.1)
  decide +kernel
def qX9_powers (N : Nat) (l0 : Nat) : osM Int32 := osbind (osgR [7] 10 l0) fun x1 => osbind (osgI [0] 1 x1) fun x2 => osret x2
set_option maxRecDepth 100000 in
set_option maxHeartbeats 4000000 in
theorem sX9_powers (N : Nat) (l0 : Nat) : osMet yX9_powers cX9_powers 1 (some .int) 0 0 0 0 (fun r : Int32 => some (.int r)) [.ref l0] (qX9_powers N l0) := by
  refine osMet.of plX9 (Nat.le_of_ble_eq_true rfl) (osW.rw (lv2 := [(0, .ref l0)]) ?_ rfl rfl rfl)
  unfold qX9_powers
  refine os_aload_n (i := 0) (q := 0) (v := l0) 0 rfl rfl (hX9_powers.at 0 rfl rfl) ?_
  refine os_getR fX9_63 (hX9_powers.at 1 rfl rfl) (fun x1 => ?_)
  refine os_getI fX9_123 (hX9_powers.at 2 rfl rfl) (fun x2 => ?_)
  exact os_iret (Nat.le_of_ble_eq_true rfl) (Nat.le_of_ble_eq_true rfl) (hX9_powers.at 3 rfl rfl).1
-- X9_phase
def KX9_phase : List (Nat × Nat × Instr) := [(0, 1, .aload_n 0), (1, 3, .getfield 71), (4, 3, .getfield 201), (7, 1, .ireturn)]
theorem hX9_phase : osDs cX9_phase KX9_phase := by
  show ∀ q ∈ KX9_phase, decode cX9_phase q.1 = .ok (q.2.2, q.2.1)
  decide +kernel
def qX9_phase (N : Nat) (l0 : Nat) : osM Int32 := osbind (osgR [7] 12 l0) fun x1 => osbind (osgI [5] 0 x1) fun x2 => osret x2
set_option maxRecDepth 100000 in
set_option maxHeartbeats 4000000 in
theorem sX9_phase (N : Nat) (l0 : Nat) : osMet yX9_phase cX9_phase 1 (some .int) 0 0 0 0 (fun r : Int32 => some (.int r)) [.ref l0] (qX9_phase N l0) := by
  refine osMet.of plX9 (Nat.le_of_ble_eq_true rfl) (osW.rw (lv2 := [(0, .ref l0)]) ?_ rfl rfl rfl)
  unfold qX9_phase
  refine os_aload_n (i := 0) (q := 0) (v := l0) 0 rfl rfl (hX9_phase.at 0 rfl rfl) ?_
  refine os_getR fX9_71 (hX9_phase.at 1 rfl rfl) (fun x1 => ?_)
  refine os_getI fX9_201 (hX9_phase.at 2 rfl rfl) (fun x2 => ?_)
  exact os_iret (Nat.le_of_ble_eq_true rfl) (Nat.le_of_ble_eq_true rfl) (hX9_phase.at 3 rfl rfl).1
-- X9_turn
def KX9_turn : List (Nat × Nat × Instr) := [(0, 1, .aload_n 0), (1, 3, .getfield 71), (4, 3, .getfield 204), (7, 1, .ireturn)]
theorem hX9_turn : osDs cX9_turn KX9_turn := by
  show ∀ q ∈ KX9_turn, decode cX9_turn q.1 = .ok (q.2.2, q.2.1)
  decide +kernel
def qX9_turn (N : Nat) (l0 : Nat) : osM Int32 := osbind (osgR [7] 12 l0) fun x1 => osbind (osgI [5] 1 x1) fun x2 => osret x2
set_option maxRecDepth 100000 in
set_option maxHeartbeats 4000000 in
theorem sX9_turn (N : Nat) (l0 : Nat) : osMet yX9_turn cX9_turn 1 (some .int) 0 0 0 0 (fun r : Int32 => some (.int r)) [.ref l0] (qX9_turn N l0) := by
  refine osMet.of plX9 (Nat.le_of_ble_eq_true rfl) (osW.rw (lv2 := [(0, .ref l0)]) ?_ rfl rfl rfl)
  unfold qX9_turn
  refine os_aload_n (i := 0) (q := 0) (v := l0) 0 rfl rfl (hX9_turn.at 0 rfl rfl) ?_
  refine os_getR fX9_71 (hX9_turn.at 1 rfl rfl) (fun x1 => ?_)
  refine os_getI fX9_204 (hX9_turn.at 2 rfl rfl) (fun x2 => ?_)
  exact os_iret (Nat.le_of_ble_eq_true rfl) (Nat.le_of_ble_eq_true rfl) (hX9_turn.at 3 rfl rfl).1
-- X9_undoCount
def KX9_undoCount : List (Nat × Nat × Instr) := [(0, 1, .aload_n 0), (1, 3, .getfield 57), (4, 1, .ireturn)]
theorem hX9_undoCount : osDs cX9_undoCount KX9_undoCount := by
  show ∀ q ∈ KX9_undoCount, decode cX9_undoCount q.1 = .ok (q.2.2, q.2.1)
  decide +kernel
def qX9_undoCount (N : Nat) (l0 : Nat) : osM Int32 := osbind (osgI [7] 9 l0) fun x1 => osret x1
set_option maxRecDepth 100000 in
set_option maxHeartbeats 4000000 in
theorem sX9_undoCount (N : Nat) (l0 : Nat) : osMet yX9_undoCount cX9_undoCount 1 (some .int) 0 0 0 0 (fun r : Int32 => some (.int r)) [.ref l0] (qX9_undoCount N l0) := by
  refine osMet.of plX9 (Nat.le_of_ble_eq_true rfl) (osW.rw (lv2 := [(0, .ref l0)]) ?_ rfl rfl rfl)
  unfold qX9_undoCount
  refine os_aload_n (i := 0) (q := 0) (v := l0) 0 rfl rfl (hX9_undoCount.at 0 rfl rfl) ?_
  refine os_getI fX9_57 (hX9_undoCount.at 1 rfl rfl) (fun x1 => ?_)
  exact os_iret (Nat.le_of_ble_eq_true rfl) (Nat.le_of_ble_eq_true rfl) (hX9_undoCount.at 2 rfl rfl).1
-- X9_append
def KX9_append : List (Nat × Nat × Instr) := [(0, 2, .bipush 24), (2, 1, .istore_n 2), (3, 1, .iload_n 2), (4, 3, .ifCond .lt 42), (7, 1, .aload_n 0), (8, 3, .getfield 13), (11, 3, .sipush 1000), (14, 3, .if_icmp .ge 26), (17, 1, .aload_n 0), (18, 3, .getfield 9), (21, 1, .aload_n 0), (22, 3, .getfield 13), (25, 1, .iload_n 1), (26, 1, .iload_n 2), (27, 1, .ishr), (28, 1, .i2b), (29, 1, .bastore), (30, 1, .aload_n 0), (31, 1, .dup), (32, 3, .getfield 13), (35, 1, .iconst 1), (36, 1, .iadd), (37, 3, .putfield 13), (40, 3, .iinc 2 (-8)), (43, 3, .goto (-40)), (46, 1, .return_)]
theorem hX9_append : osDs cX9_append KX9_append := by
  show ∀ q ∈ KX9_append, decode cX9_append q.1 = .ok (q.2.2, q.2.1)
  decide +kernel
def qX9_append_40 (N : Nat) (c3 : Nat × Int32 × Int32 → osM Unit) (l0 : Nat) (l1 : Int32) (l2 : Int32) : osM Unit := c3 (l0, l1, (l2 + (-8 : Int32)))
def bX9_append_3 (N : Nat) (c3 : Nat × Int32 × Int32 → osM Unit) (l0 : Nat) (l1 : Int32) (l2 : Int32) : osM Unit := osite (l2 < 0) (osret ()) (osbind (osgI [7] 1 l0) fun x1 => osite ((1000 : Int32) ≤ x1) (qX9_append_40 N c3 l0 l1 l2) (osbind (osgR [7] 0 l0) fun x2 => osbind (osgI [7] 1 l0) fun x3 => osbind (ossI 1 x2 x3 (vp_nar .byte ((osshr l1 l2).toInt8.toInt32))) fun _ => osbind (osgI [7] 1 l0) fun x4 => osbind (osput [7] 1 l0 (.int (x4 + (1 : Int32)))) fun _ => qX9_append_40 N c3 l0 l1 l2))
def qX9_append_3 (N : Nat) : Nat × Int32 × Int32 → osM Unit := osloop (fun ih p => bX9_append_3 N ih p.1 p.2.1 p.2.2) N
def qX9_append (N : Nat) (l0 : Nat) (l1 : Int32) : osM Unit := qX9_append_3 N (l0, l1, (24 : Int32))
set_option maxRecDepth 100000 in
set_option maxHeartbeats 4000000 in
theorem sX9_append_40 (N : Nat) (c3 : Nat × Int32 × Int32 → osM Unit) (g3 : ∀ (l0 : Nat) (l1 : Int32) (l2 : Int32), osW (osFinM (fun _ : Unit => none) 0 0) yX9_append cX9_append 3 none [] { frames := 0, cells := 0, slots := 0, locals := 0 } 0 0 3 [(0, .ref l0), (1, .int l1), (2, .int l2)] [] (c3 (l0, l1, l2))) (l0 : Nat) (l1 : Int32) (l2 : Int32) : osW (osFinM (fun _ : Unit => none) 0 0) yX9_append cX9_append 3 none [] { frames := 0, cells := 0, slots := 0, locals := 0 } 0 0 40 [(0, .ref l0), (1, .int l1), (2, .int l2)] [] (qX9_append_40 N c3 l0 l1 l2) := by
  unfold qX9_append_40
  refine os_iinc (i := 2) (d := (-8)) (x := l2) (v := (-8 : Int32)) (lv' := [(2, .int (l2 + (-8 : Int32))), (0, .ref l0), (1, .int l1)]) 2 rfl rfl (Nat.le_of_ble_eq_true rfl) rfl (hX9_append.at 23 rfl rfl) ?_
  refine os_goto (off := (-40)) (tgt := 3) rfl (hX9_append.at 24 rfl rfl) ?_
  exact osW.sub [1, 2, 0] rfl (g3 l0 l1 (l2 + (-8 : Int32)))
set_option maxRecDepth 100000 in
set_option maxHeartbeats 4000000 in
theorem tX9_append_3 (N : Nat) (c3 : Nat × Int32 × Int32 → osM Unit) (g3 : ∀ (l0 : Nat) (l1 : Int32) (l2 : Int32), osW (osFinM (fun _ : Unit => none) 0 0) yX9_append cX9_append 3 none [] { frames := 0, cells := 0, slots := 0, locals := 0 } 0 0 3 [(0, .ref l0), (1, .int l1), (2, .int l2)] [] (c3 (l0, l1, l2))) (l0 : Nat) (l1 : Int32) (l2 : Int32) : osW (osFinM (fun _ : Unit => none) 0 0) yX9_append cX9_append 3 none [] { frames := 0, cells := 0, slots := 0, locals := 0 } 0 0 3 [(0, .ref l0), (1, .int l1), (2, .int l2)] [] (bX9_append_3 N c3 l0 l1 l2) := by
  unfold bX9_append_3
  refine os_iload_n (i := 2) (q := 2) (v := l2) 2 rfl rfl (hX9_append.at 2 rfl rfl) ?_
  refine os_if_lt (off := 42) (tgt := 46) rfl (hX9_append.at 3 rfl rfl) ?_ ?_
  · exact os_vret (Nat.le_of_ble_eq_true rfl) (Nat.le_of_ble_eq_true rfl) (hX9_append.at 25 rfl rfl).1
  · refine os_aload_n (i := 0) (q := 0) (v := l0) 0 rfl rfl (hX9_append.at 4 rfl rfl) ?_
    refine os_getI fX9_13 (hX9_append.at 5 rfl rfl) (fun x1 => ?_)
    refine os_sipush (i := 1000) (v := (1000 : Int32)) rfl (hX9_append.at 6 rfl rfl) ?_
    refine os_icmp_ge (off := 26) (tgt := 40) rfl (hX9_append.at 7 rfl rfl) ?_ ?_
    · exact osW.sub [0, 1, 2] rfl (sX9_append_40 N c3 g3 l0 l1 l2)
    · refine os_aload_n (i := 0) (q := 0) (v := l0) 0 rfl rfl (hX9_append.at 8 rfl rfl) ?_
      refine os_getR fX9_9 (hX9_append.at 9 rfl rfl) (fun x2 => ?_)
      refine os_aload_n (i := 0) (q := 0) (v := l0) 0 rfl rfl (hX9_append.at 10 rfl rfl) ?_
      refine os_getI fX9_13 (hX9_append.at 11 rfl rfl) (fun x3 => ?_)
      refine os_iload_n (i := 1) (q := 1) (v := l1) 1 rfl rfl (hX9_append.at 12 rfl rfl) ?_
      refine os_iload_n (i := 2) (q := 2) (v := l2) 2 rfl rfl (hX9_append.at 13 rfl rfl) ?_
      refine os_ishr (hX9_append.at 14 rfl rfl) ?_
      refine os_i2b (hX9_append.at 15 rfl rfl) ?_
      refine os_bastore (hX9_append.at 16 rfl rfl) ?_
      refine os_aload_n (i := 0) (q := 0) (v := l0) 0 rfl rfl (hX9_append.at 17 rfl rfl) ?_
      refine os_dup rfl (hX9_append.at 18 rfl rfl) ?_
      refine os_getI fX9_13 (hX9_append.at 19 rfl rfl) (fun x4 => ?_)
      refine os_iconst (i := 1) (v := (1 : Int32)) rfl (hX9_append.at 20 rfl rfl) ?_
      refine os_iadd (hX9_append.at 21 rfl rfl) ?_
      refine os_put fX9_13 rfl rfl (hX9_append.at 22 rfl rfl) ?_
      exact osW.sub [0, 1, 2] rfl (sX9_append_40 N c3 g3 l0 l1 l2)
set_option maxRecDepth 100000 in
set_option maxHeartbeats 4000000 in
theorem sX9_append_3 (N : Nat) (l0 : Nat) (l1 : Int32) (l2 : Int32) : osW (osFinM (fun _ : Unit => none) 0 0) yX9_append cX9_append 3 none [] { frames := 0, cells := 0, slots := 0, locals := 0 } 0 0 3 [(0, .ref l0), (1, .int l1), (2, .int l2)] [] (qX9_append_3 N (l0, l1, l2)) :=
  osloop_W (lvf := fun p => [(0, .ref p.1), (1, .int p.2.1), (2, .int p.2.2)]) (stf := fun p => []) (fun ih g p => tX9_append_3 N ih (fun l0 l1 l2 => g (l0, l1, l2)) p.1 p.2.1 p.2.2) N (l0, l1, l2)
set_option maxRecDepth 100000 in
set_option maxHeartbeats 4000000 in
theorem sX9_append (N : Nat) (l0 : Nat) (l1 : Int32) : osMet yX9_append cX9_append 3 none 0 0 0 0 (fun _ : Unit => none) [.ref l0, .int l1] (qX9_append N l0 l1) := by
  refine osMet.of plX9 (Nat.le_of_ble_eq_true rfl) (osW.rw (lv2 := [(0, .ref l0), (1, .int l1)]) ?_ rfl rfl rfl)
  unfold qX9_append
  refine os_bipush (i := 24) (v := (24 : Int32)) rfl (hX9_append.at 0 rfl rfl) ?_
  refine os_istore_n (i := 2) (q := 2) rfl (lv' := [(2, .int (24 : Int32)), (0, .ref l0), (1, .int l1)]) (Nat.le_of_ble_eq_true rfl) rfl (hX9_append.at 1 rfl rfl) ?_
  exact osW.sub [1, 2, 0] rfl (sX9_append_3 N l0 l1 (24 : Int32))
-- X9_noteError
def KX9_noteError : List (Nat × Nat × Instr) := [(0, 1, .aload_n 0), (1, 1, .aload_n 1), (2, 3, .getfield 384), (5, 3, .putfield 24), (8, 1, .aload_n 0), (9, 1, .aload_n 1), (10, 3, .getfield 389), (13, 3, .putfield 27), (16, 1, .return_)]
theorem hX9_noteError : osDs cX9_noteError KX9_noteError := by
  show ∀ q ∈ KX9_noteError, decode cX9_noteError q.1 = .ok (q.2.2, q.2.1)
  decide +kernel
def qX9_noteError (N : Nat) (l0 : Nat) (l1 : Nat) : osM Unit := osbind (osgI [3, 6] 8 l1) fun x1 => osbind (osput [7] 3 l0 (.int x1)) fun _ => osbind (osgI [3, 6] 9 l1) fun x2 => osbind (osput [7] 4 l0 (.int x2)) fun _ => osret ()
set_option maxRecDepth 100000 in
set_option maxHeartbeats 4000000 in
theorem sX9_noteError (N : Nat) (l0 : Nat) (l1 : Nat) : osMet yX9_noteError cX9_noteError 2 none 0 0 0 0 (fun _ : Unit => none) [.ref l0, .ref l1] (qX9_noteError N l0 l1) := by
  refine osMet.of plX9 (Nat.le_of_ble_eq_true rfl) (osW.rw (lv2 := [(0, .ref l0), (1, .ref l1)]) ?_ rfl rfl rfl)
  unfold qX9_noteError
  refine os_aload_n (i := 0) (q := 0) (v := l0) 0 rfl rfl (hX9_noteError.at 0 rfl rfl) ?_
  refine os_aload_n (i := 1) (q := 1) (v := l1) 1 rfl rfl (hX9_noteError.at 1 rfl rfl) ?_
  refine os_getI fX9_384 (hX9_noteError.at 2 rfl rfl) (fun x1 => ?_)
  refine os_put fX9_24 rfl rfl (hX9_noteError.at 3 rfl rfl) ?_
  refine os_aload_n (i := 0) (q := 0) (v := l0) 0 rfl rfl (hX9_noteError.at 4 rfl rfl) ?_
  refine os_aload_n (i := 1) (q := 1) (v := l1) 1 rfl rfl (hX9_noteError.at 5 rfl rfl) ?_
  refine os_getI fX9_389 (hX9_noteError.at 6 rfl rfl) (fun x2 => ?_)
  refine os_put fX9_27 rfl rfl (hX9_noteError.at 7 rfl rfl) ?_
  exact os_vret (Nat.le_of_ble_eq_true rfl) (Nat.le_of_ble_eq_true rfl) (hX9_noteError.at 8 rfl rfl).1
-- X9_adoptDraft
def KX9_adoptDraft : List (Nat × Nat × Instr) := [(0, 1, .aload_n 0), (1, 3, .getfield 75), (4, 1, .astore_n 1), (5, 1, .aload_n 0), (6, 1, .aload_n 0), (7, 3, .getfield 71), (10, 3, .putfield 75), (13, 1, .aload_n 0), (14, 1, .aload_n 1), (15, 3, .putfield 71), (18, 1, .return_)]
theorem hX9_adoptDraft : osDs cX9_adoptDraft KX9_adoptDraft := by
  show ∀ q ∈ KX9_adoptDraft, decode cX9_adoptDraft q.1 = .ok (q.2.2, q.2.1)
  decide +kernel
def qX9_adoptDraft (N : Nat) (l0 : Nat) : osM Unit := osbind (osgR [7] 13 l0) fun x1 => osbind (osgR [7] 12 l0) fun x2 => osbind (osput [7] 13 l0 (.ref x2)) fun _ => osbind (osput [7] 12 l0 (.ref x1)) fun _ => osret ()
set_option maxRecDepth 100000 in
set_option maxHeartbeats 4000000 in
theorem sX9_adoptDraft (N : Nat) (l0 : Nat) : osMet yX9_adoptDraft cX9_adoptDraft 2 none 0 0 0 0 (fun _ : Unit => none) [.ref l0] (qX9_adoptDraft N l0) := by
  refine osMet.of plX9 (Nat.le_of_ble_eq_true rfl) (osW.rw (lv2 := [(0, .ref l0)]) ?_ rfl rfl rfl)
  unfold qX9_adoptDraft
  refine os_aload_n (i := 0) (q := 0) (v := l0) 0 rfl rfl (hX9_adoptDraft.at 0 rfl rfl) ?_
  refine os_getR fX9_75 (hX9_adoptDraft.at 1 rfl rfl) (fun x1 => ?_)
  refine os_astore_n (i := 1) (q := 1) rfl (lv' := [(1, .ref x1), (0, .ref l0)]) (Nat.le_of_ble_eq_true rfl) rfl (hX9_adoptDraft.at 2 rfl rfl) ?_
  refine os_aload_n (i := 0) (q := 0) (v := l0) 1 rfl rfl (hX9_adoptDraft.at 3 rfl rfl) ?_
  refine os_aload_n (i := 0) (q := 0) (v := l0) 1 rfl rfl (hX9_adoptDraft.at 4 rfl rfl) ?_
  refine os_getR fX9_71 (hX9_adoptDraft.at 5 rfl rfl) (fun x2 => ?_)
  refine os_put fX9_75 rfl rfl (hX9_adoptDraft.at 6 rfl rfl) ?_
  refine os_aload_n (i := 0) (q := 0) (v := l0) 1 rfl rfl (hX9_adoptDraft.at 7 rfl rfl) ?_
  refine os_aload_n (i := 1) (q := 1) (v := x1) 0 rfl rfl (hX9_adoptDraft.at 8 rfl rfl) ?_
  refine os_put fX9_71 rfl rfl (hX9_adoptDraft.at 9 rfl rfl) ?_
  exact os_vret (Nat.le_of_ble_eq_true rfl) (Nat.le_of_ble_eq_true rfl) (hX9_adoptDraft.at 10 rfl rfl).1
-- X9_remember
def KX9_remember : List (Nat × Nat × Instr) := [(0, 1, .aload_n 0), (1, 3, .getfield 57), (4, 2, .bipush 6), (6, 3, .if_icmp .lt 50), (9, 1, .aload_n 0), (10, 3, .getfield 53), (13, 1, .iconst 0), (14, 1, .aaload), (15, 1, .astore_n 1), (16, 1, .iconst 1), (17, 1, .istore_n 2), (18, 1, .iload_n 2), (19, 2, .bipush 6), (21, 3, .if_icmp .ge 23), (24, 1, .aload_n 0), (25, 3, .getfield 53), (28, 1, .iload_n 2), (29, 1, .iconst 1), (30, 1, .isub), (31, 1, .aload_n 0), (32, 3, .getfield 53), (35, 1, .iload_n 2), (36, 1, .aaload), (37, 1, .aastore), (38, 3, .iinc 2 1), (41, 3, .goto (-23)), (44, 1, .aload_n 0), (45, 3, .getfield 53), (48, 1, .iconst 5), (49, 1, .aload_n 1), (50, 1, .aastore), (51, 1, .aload_n 0), (52, 1, .iconst 5), (53, 3, .putfield 57), (56, 1, .aload_n 0), (57, 3, .getfield 57), (60, 3, .ifCond .lt 29), (63, 1, .aload_n 0), (64, 3, .getfield 53), (67, 1, .aload_n 0), (68, 3, .getfield 57), (71, 1, .aaload), (72, 1, .aload_n 0), (73, 3, .getfield 71), (76, 3, .invokevirtual 110), (79, 1, .aload_n 0), (80, 1, .dup), (81, 3, .getfield 57), (84, 1, .iconst 1), (85, 1, .iadd), (86, 3, .putfield 57), (89, 1, .return_)]
theorem hX9_remember : osDs cX9_remember KX9_remember := by
  show ∀ q ∈ KX9_remember, decode cX9_remember q.1 = .ok (q.2.2, q.2.1)
  decide +kernel
def qX9_remember_89 (N : Nat) : osM Unit := osret ()
def qX9_remember_56 (N : Nat) (l0 : Nat) : osM Unit := osbind (osgI [7] 9 l0) fun x1 => osite (x1 < 0) (qX9_remember_89 N ) (osbind (osgR [7] 8 l0) fun x2 => osbind (osgI [7] 9 l0) fun x3 => osbind (osaR 5 x2 x3) fun x4 => osbind (osgR [7] 12 l0) fun x5 => osbind (osrecv [5] x4 (qX5_copyFrom N x4 x5)) fun _ => osbind (osgI [7] 9 l0) fun x6 => osbind (osput [7] 9 l0 (.int (x6 + (1 : Int32)))) fun _ => qX9_remember_89 N )
def bX9_remember_18 (N : Nat) (c18 : Nat × Nat × Int32 → osM Unit) (l0 : Nat) (l1 : Nat) (l2 : Int32) : osM Unit := osite ((6 : Int32) ≤ l2) (osbind (osgR [7] 8 l0) fun x1 => osbind (ossQ 5 5 x1 (5 : Int32) l1) fun _ => osbind (osput [7] 9 l0 (.int (5 : Int32))) fun _ => qX9_remember_56 N l0) (osbind (osgR [7] 8 l0) fun x2 => osbind (osgR [7] 8 l0) fun x3 => osbind (osaR 5 x3 l2) fun x4 => osbind (ossQ 5 5 x2 (l2 - (1 : Int32)) x4) fun _ => c18 (l0, l1, (l2 + (1 : Int32))))
def qX9_remember_18 (N : Nat) : Nat × Nat × Int32 → osM Unit := osloop (fun ih p => bX9_remember_18 N ih p.1 p.2.1 p.2.2) N
def qX9_remember (N : Nat) (l0 : Nat) : osM Unit := osbind (osgI [7] 9 l0) fun x1 => osite (x1 < (6 : Int32)) (qX9_remember_56 N l0) (osbind (osgR [7] 8 l0) fun x2 => osbind (osaR 5 x2 (0 : Int32)) fun x3 => qX9_remember_18 N (l0, x3, (1 : Int32)))
set_option maxRecDepth 100000 in
set_option maxHeartbeats 4000000 in
theorem sX9_remember_89 (N : Nat) : osW (osFinM (fun _ : Unit => none) 0 0) yX9_remember cX9_remember 3 none [] { frames := 3, cells := 0, slots := 0, locals := 102 } 0 0 89 [] [] (qX9_remember_89 N) := by
  unfold qX9_remember_89
  exact os_vret (Nat.le_of_ble_eq_true rfl) (Nat.le_of_ble_eq_true rfl) (hX9_remember.at 51 rfl rfl).1
set_option maxRecDepth 100000 in
set_option maxHeartbeats 4000000 in
theorem sX9_remember_56 (N : Nat) (l0 : Nat) : osW (osFinM (fun _ : Unit => none) 0 0) yX9_remember cX9_remember 3 none [] { frames := 3, cells := 0, slots := 0, locals := 102 } 0 0 56 [(0, .ref l0)] [] (qX9_remember_56 N l0) := by
  unfold qX9_remember_56
  refine os_aload_n (i := 0) (q := 0) (v := l0) 0 rfl rfl (hX9_remember.at 34 rfl rfl) ?_
  refine os_getI fX9_57 (hX9_remember.at 35 rfl rfl) (fun x1 => ?_)
  refine os_if_lt (off := 29) (tgt := 89) rfl (hX9_remember.at 36 rfl rfl) ?_ ?_
  · exact osW.sub [] rfl (sX9_remember_89 N )
  · refine os_aload_n (i := 0) (q := 0) (v := l0) 0 rfl rfl (hX9_remember.at 37 rfl rfl) ?_
    refine os_getR fX9_53 (hX9_remember.at 38 rfl rfl) (fun x2 => ?_)
    refine os_aload_n (i := 0) (q := 0) (v := l0) 0 rfl rfl (hX9_remember.at 39 rfl rfl) ?_
    refine os_getI fX9_57 (hX9_remember.at 40 rfl rfl) (fun x3 => ?_)
    refine os_aaload (t := 5) (C := "OrderSettler$State") rfl (hX9_remember.at 41 rfl rfl) (fun x4 => ?_)
    refine os_aload_n (i := 0) (q := 0) (v := l0) 0 rfl rfl (hX9_remember.at 42 rfl rfl) ?_
    refine os_getR fX9_71 (hX9_remember.at 43 rfl rfl) (fun x5 => ?_)
    refine os_callV (cis := [5]) (b := x4) (As := [.ref x5]) (st := []) (st' := (fun _ => [])) sl5_X5_copyFrom_X5_copyFrom mdX5_copyFrom wd1102 wd1103 (sX5_copyFrom N x4 x5) rfl rfl (fun _ => rfl) (Nat.le_of_ble_eq_true rfl) (Nat.le_of_ble_eq_true rfl) (Nat.le_of_ble_eq_true rfl) rfl (Nat.le_of_ble_eq_true rfl) rfl (Nat.le_of_ble_eq_true rfl) (hX9_remember.at 44 rfl rfl) (fun _ => ?_)
    refine os_aload_n (i := 0) (q := 0) (v := l0) 0 rfl rfl (hX9_remember.at 45 rfl rfl) ?_
    refine os_dup rfl (hX9_remember.at 46 rfl rfl) ?_
    refine os_getI fX9_57 (hX9_remember.at 47 rfl rfl) (fun x6 => ?_)
    refine os_iconst (i := 1) (v := (1 : Int32)) rfl (hX9_remember.at 48 rfl rfl) ?_
    refine os_iadd (hX9_remember.at 49 rfl rfl) ?_
    refine os_put fX9_57 rfl rfl (hX9_remember.at 50 rfl rfl) ?_
    exact osW.sub [] rfl (sX9_remember_89 N )
set_option maxRecDepth 100000 in
set_option maxHeartbeats 4000000 in
theorem tX9_remember_18 (N : Nat) (c18 : Nat × Nat × Int32 → osM Unit) (g18 : ∀ (l0 : Nat) (l1 : Nat) (l2 : Int32), osW (osFinM (fun _ : Unit => none) 0 0) yX9_remember cX9_remember 3 none [] { frames := 3, cells := 0, slots := 0, locals := 102 } 0 0 18 [(0, .ref l0), (1, .ref l1), (2, .int l2)] [] (c18 (l0, l1, l2))) (l0 : Nat) (l1 : Nat) (l2 : Int32) : osW (osFinM (fun _ : Unit => none) 0 0) yX9_remember cX9_remember 3 none [] { frames := 3, cells := 0, slots := 0, locals := 102 } 0 0 18 [(0, .ref l0), (1, .ref l1), (2, .int l2)] [] (bX9_remember_18 N c18 l0 l1 l2) := by
  unfold bX9_remember_18
  refine os_iload_n (i := 2) (q := 2) (v := l2) 2 rfl rfl (hX9_remember.at 11 rfl rfl) ?_
  refine os_bipush (i := 6) (v := (6 : Int32)) rfl (hX9_remember.at 12 rfl rfl) ?_
  refine os_icmp_ge (off := 23) (tgt := 44) rfl (hX9_remember.at 13 rfl rfl) ?_ ?_
  · refine os_aload_n (i := 0) (q := 0) (v := l0) 0 rfl rfl (hX9_remember.at 26 rfl rfl) ?_
    refine os_getR fX9_53 (hX9_remember.at 27 rfl rfl) (fun x1 => ?_)
    refine os_iconst (i := 5) (v := (5 : Int32)) rfl (hX9_remember.at 28 rfl rfl) ?_
    refine os_aload_n (i := 1) (q := 1) (v := l1) 1 rfl rfl (hX9_remember.at 29 rfl rfl) ?_
    refine os_aastore (t := 5) (ci := 5) rfl rfl (hX9_remember.at 30 rfl rfl) ?_
    refine os_aload_n (i := 0) (q := 0) (v := l0) 0 rfl rfl (hX9_remember.at 31 rfl rfl) ?_
    refine os_iconst (i := 5) (v := (5 : Int32)) rfl (hX9_remember.at 32 rfl rfl) ?_
    refine os_put fX9_57 rfl rfl (hX9_remember.at 33 rfl rfl) ?_
    exact osW.sub [0] rfl (sX9_remember_56 N l0)
  · refine os_aload_n (i := 0) (q := 0) (v := l0) 0 rfl rfl (hX9_remember.at 14 rfl rfl) ?_
    refine os_getR fX9_53 (hX9_remember.at 15 rfl rfl) (fun x2 => ?_)
    refine os_iload_n (i := 2) (q := 2) (v := l2) 2 rfl rfl (hX9_remember.at 16 rfl rfl) ?_
    refine os_iconst (i := 1) (v := (1 : Int32)) rfl (hX9_remember.at 17 rfl rfl) ?_
    refine os_isub (hX9_remember.at 18 rfl rfl) ?_
    refine os_aload_n (i := 0) (q := 0) (v := l0) 0 rfl rfl (hX9_remember.at 19 rfl rfl) ?_
    refine os_getR fX9_53 (hX9_remember.at 20 rfl rfl) (fun x3 => ?_)
    refine os_iload_n (i := 2) (q := 2) (v := l2) 2 rfl rfl (hX9_remember.at 21 rfl rfl) ?_
    refine os_aaload (t := 5) (C := "OrderSettler$State") rfl (hX9_remember.at 22 rfl rfl) (fun x4 => ?_)
    refine os_aastore (t := 5) (ci := 5) rfl rfl (hX9_remember.at 23 rfl rfl) ?_
    refine os_iinc (i := 2) (d := 1) (x := l2) (v := (1 : Int32)) (lv' := [(2, .int (l2 + (1 : Int32))), (0, .ref l0), (1, .ref l1)]) 2 rfl rfl (Nat.le_of_ble_eq_true rfl) rfl (hX9_remember.at 24 rfl rfl) ?_
    refine os_goto (off := (-23)) (tgt := 18) rfl (hX9_remember.at 25 rfl rfl) ?_
    exact osW.sub [1, 2, 0] rfl (g18 l0 l1 (l2 + (1 : Int32)))
set_option maxRecDepth 100000 in
set_option maxHeartbeats 4000000 in
theorem sX9_remember_18 (N : Nat) (l0 : Nat) (l1 : Nat) (l2 : Int32) : osW (osFinM (fun _ : Unit => none) 0 0) yX9_remember cX9_remember 3 none [] { frames := 3, cells := 0, slots := 0, locals := 102 } 0 0 18 [(0, .ref l0), (1, .ref l1), (2, .int l2)] [] (qX9_remember_18 N (l0, l1, l2)) :=
  osloop_W (lvf := fun p => [(0, .ref p.1), (1, .ref p.2.1), (2, .int p.2.2)]) (stf := fun p => []) (fun ih g p => tX9_remember_18 N ih (fun l0 l1 l2 => g (l0, l1, l2)) p.1 p.2.1 p.2.2) N (l0, l1, l2)
set_option maxRecDepth 100000 in
set_option maxHeartbeats 4000000 in
theorem sX9_remember (N : Nat) (l0 : Nat) : osMet yX9_remember cX9_remember 3 none 3 102 0 0 (fun _ : Unit => none) [.ref l0] (qX9_remember N l0) := by
  refine osMet.of plX9 (Nat.le_of_ble_eq_true rfl) (osW.rw (lv2 := [(0, .ref l0)]) ?_ rfl rfl rfl)
  unfold qX9_remember
  refine os_aload_n (i := 0) (q := 0) (v := l0) 0 rfl rfl (hX9_remember.at 0 rfl rfl) ?_
  refine os_getI fX9_57 (hX9_remember.at 1 rfl rfl) (fun x1 => ?_)
  refine os_bipush (i := 6) (v := (6 : Int32)) rfl (hX9_remember.at 2 rfl rfl) ?_
  refine os_icmp_lt (off := 50) (tgt := 56) rfl (hX9_remember.at 3 rfl rfl) ?_ ?_
  · exact osW.sub [0] rfl (sX9_remember_56 N l0)
  · refine os_aload_n (i := 0) (q := 0) (v := l0) 0 rfl rfl (hX9_remember.at 4 rfl rfl) ?_
    refine os_getR fX9_53 (hX9_remember.at 5 rfl rfl) (fun x2 => ?_)
    refine os_iconst (i := 0) (v := (0 : Int32)) rfl (hX9_remember.at 6 rfl rfl) ?_
    refine os_aaload (t := 5) (C := "OrderSettler$State") rfl (hX9_remember.at 7 rfl rfl) (fun x3 => ?_)
    refine os_astore_n (i := 1) (q := 1) rfl (lv' := [(1, .ref x3), (0, .ref l0)]) (Nat.le_of_ble_eq_true rfl) rfl (hX9_remember.at 8 rfl rfl) ?_
    refine os_iconst (i := 1) (v := (1 : Int32)) rfl (hX9_remember.at 9 rfl rfl) ?_
    refine os_istore_n (i := 2) (q := 2) rfl (lv' := [(2, .int (1 : Int32)), (1, .ref x3), (0, .ref l0)]) (Nat.le_of_ble_eq_true rfl) rfl (hX9_remember.at 10 rfl rfl) ?_
    exact osW.sub [2, 1, 0] rfl (sX9_remember_18 N l0 x3 (1 : Int32))
-- X9_init
def KX9_init : List (Nat × Nat × Instr) := [(0, 1, .aload_n 0), (1, 3, .invokespecial 1), (4, 1, .aload_n 0), (5, 3, .sipush 1000), (8, 2, .newarray .byte), (10, 3, .putfield 9), (13, 1, .aload_n 0), (14, 1, .iconst 0), (15, 3, .putfield 13), (18, 1, .aload_n 0), (19, 3, .new 17), (22, 1, .dup), (23, 3, .invokespecial 19), (26, 3, .putfield 20), (29, 1, .aload_n 0), (30, 1, .iconst 0), (31, 3, .putfield 24), (34, 1, .aload_n 0), (35, 1, .iconst (-1)), (36, 3, .putfield 27), (39, 1, .aload_n 0), (40, 3, .new 30), (43, 1, .dup), (44, 3, .invokespecial 32), (47, 3, .putfield 33), (50, 1, .aload_n 0), (51, 3, .new 37), (54, 1, .dup), (55, 3, .invokespecial 39), (58, 3, .putfield 40), (61, 1, .aload_n 0), (62, 3, .new 44), (65, 1, .dup), (66, 3, .invokespecial 46), (69, 3, .putfield 47), (72, 1, .aload_n 0), (73, 2, .bipush 6), (75, 3, .anewarray 51), (78, 3, .putfield 53), (81, 1, .aload_n 0), (82, 1, .iconst 0), (83, 3, .putfield 57), (86, 1, .aload_n 0), (87, 3, .new 60), (90, 1, .dup), (91, 3, .invokespecial 62), (94, 3, .putfield 63), (97, 1, .aload_n 0), (98, 3, .new 60), (101, 1, .dup), (102, 3, .invokespecial 62), (105, 3, .putfield 67), (108, 1, .aload_n 0), (109, 3, .new 51), (112, 1, .dup), (113, 3, .invokespecial 70), (116, 3, .putfield 71), (119, 1, .aload_n 0), (120, 3, .new 51), (123, 1, .dup), (124, 3, .invokespecial 70), (127, 3, .putfield 75), (130, 1, .iconst 0), (131, 1, .istore_n 1), (132, 1, .iload_n 1), (133, 2, .bipush 6), (135, 3, .if_icmp .ge 22), (138, 1, .aload_n 0), (139, 3, .getfield 53), (142, 1, .iload_n 1), (143, 3, .new 51), (146, 1, .dup), (147, 3, .invokespecial 70), (150, 1, .aastore), (151, 3, .iinc 1 1), (154, 3, .goto (-22)), (157, 1, .return_)]
theorem hX9_init : osDs cX9_init KX9_init := by
  show ∀ q ∈ KX9_init, decode cX9_init q.1 = .ok (q.2.2, q.2.1)
  decide +kernel
def qX9_init (N : Nat) (l0 : Nat) : osM Unit := osbind (osnew (.inl (1, (1000, .inl fun _ => 0)))) fun x1 => osbind (osput [7] 0 l0 (.ref x1)) fun _ => osbind (osput [7] 1 l0 (.int (0 : Int32))) fun _ => osbind (osnew (.inr (4, [.null, .int 0]))) fun x2 => osbind (qX4_init N x2) fun _ => osbind (osput [7] 2 l0 (.ref x2)) fun _ => osbind (osput [7] 3 l0 (.int (0 : Int32))) fun _ => osbind (osput [7] 4 l0 (.int (-1 : Int32))) fun _ => osbind (osnew (.inr (3, [.null, .int 0, .int 0, .int 0, .int 0, .long 0, .int 0, .int 0, .int 0, .int 0]))) fun x3 => osbind (qX3_init N x3) fun _ => osbind (osput [7] 5 l0 (.ref x3)) fun _ => osbind (osnew (.inr (6, [.null, .int 0, .int 0, .int 0, .int 0, .long 0, .int 0, .int 0, .int 0, .int 0]))) fun x4 => osbind (qX7_init N x4) fun _ => osbind (osput [7] 6 l0 (.ref x4)) fun _ => osbind (osnew (.inr (1, [.null, .int 0, .int 0, .int 0, .int 0, .int 0, .int 0, .int 0]))) fun x5 => osbind (qX1_init N x5) fun _ => osbind (osput [7] 7 l0 (.ref x5)) fun _ => osbind (osnew (.inl (5, (6, .inr (.inr (.inr (.inr fun _ => none))))))) fun x6 => osbind (osput [7] 8 l0 (.ref x6)) fun _ => osbind (osput [7] 9 l0 (.int (0 : Int32))) fun _ => osbind (osnew (.inr (0, [.int 0, .int 0, .int 0, .int 0, .int 0, .null, .null, .null, .null, .null]))) fun x7 => osbind (qX0_init N x7) fun _ => osbind (osput [7] 10 l0 (.ref x7)) fun _ => osbind (osnew (.inr (0, [.int 0, .int 0, .int 0, .int 0, .int 0, .null, .null, .null, .null, .null]))) fun x8 => osbind (qX0_init N x8) fun _ => osbind (osput [7] 11 l0 (.ref x8)) fun _ => osbind (osnew (.inr (5, [.int 0, .int 0, .int 0, .int 0, .int 0, .null, .null, .null, .null, .null, .null, .null, .null, .null, .null, .null]))) fun x9 => osbind (qX5_init N x9) fun _ => osbind (osput [7] 12 l0 (.ref x9)) fun _ => osbind (osnew (.inr (5, [.int 0, .int 0, .int 0, .int 0, .int 0, .null, .null, .null, .null, .null, .null, .null, .null, .null, .null, .null]))) fun x10 => osbind (qX5_init N x10) fun _ => osbind (osput [7] 13 l0 (.ref x10)) fun _ => osite ((6 : Int32) ≤ (0 : Int32)) (osret ()) (osbind (osgR [7] 8 l0) fun x11 => osbind (osnew (.inr (5, [.int 0, .int 0, .int 0, .int 0, .int 0, .null, .null, .null, .null, .null, .null, .null, .null, .null, .null, .null]))) fun x12 => osbind (qX5_init N x12) fun _ => osbind (ossQ 5 5 x11 (0 : Int32) x12) fun _ => osite ((6 : Int32) ≤ ((0 : Int32) + (1 : Int32))) (osret ()) (osbind (osgR [7] 8 l0) fun x13 => osbind (osnew (.inr (5, [.int 0, .int 0, .int 0, .int 0, .int 0, .null, .null, .null, .null, .null, .null, .null, .null, .null, .null, .null]))) fun x14 => osbind (qX5_init N x14) fun _ => osbind (ossQ 5 5 x13 ((0 : Int32) + (1 : Int32)) x14) fun _ => osite ((6 : Int32) ≤ (((0 : Int32) + (1 : Int32)) + (1 : Int32))) (osret ()) (osbind (osgR [7] 8 l0) fun x15 => osbind (osnew (.inr (5, [.int 0, .int 0, .int 0, .int 0, .int 0, .null, .null, .null, .null, .null, .null, .null, .null, .null, .null, .null]))) fun x16 => osbind (qX5_init N x16) fun _ => osbind (ossQ 5 5 x15 (((0 : Int32) + (1 : Int32)) + (1 : Int32)) x16) fun _ => osite ((6 : Int32) ≤ ((((0 : Int32) + (1 : Int32)) + (1 : Int32)) + (1 : Int32))) (osret ()) (osbind (osgR [7] 8 l0) fun x17 => osbind (osnew (.inr (5, [.int 0, .int 0, .int 0, .int 0, .int 0, .null, .null, .null, .null, .null, .null, .null, .null, .null, .null, .null]))) fun x18 => osbind (qX5_init N x18) fun _ => osbind (ossQ 5 5 x17 ((((0 : Int32) + (1 : Int32)) + (1 : Int32)) + (1 : Int32)) x18) fun _ => osite ((6 : Int32) ≤ (((((0 : Int32) + (1 : Int32)) + (1 : Int32)) + (1 : Int32)) + (1 : Int32))) (osret ()) (osbind (osgR [7] 8 l0) fun x19 => osbind (osnew (.inr (5, [.int 0, .int 0, .int 0, .int 0, .int 0, .null, .null, .null, .null, .null, .null, .null, .null, .null, .null, .null]))) fun x20 => osbind (qX5_init N x20) fun _ => osbind (ossQ 5 5 x19 (((((0 : Int32) + (1 : Int32)) + (1 : Int32)) + (1 : Int32)) + (1 : Int32)) x20) fun _ => osite ((6 : Int32) ≤ ((((((0 : Int32) + (1 : Int32)) + (1 : Int32)) + (1 : Int32)) + (1 : Int32)) + (1 : Int32))) (osret ()) (osbind (osgR [7] 8 l0) fun x21 => osbind (osnew (.inr (5, [.int 0, .int 0, .int 0, .int 0, .int 0, .null, .null, .null, .null, .null, .null, .null, .null, .null, .null, .null]))) fun x22 => osbind (qX5_init N x22) fun _ => osbind (ossQ 5 5 x21 ((((((0 : Int32) + (1 : Int32)) + (1 : Int32)) + (1 : Int32)) + (1 : Int32)) + (1 : Int32)) x22) fun _ => osite ((6 : Int32) ≤ (((((((0 : Int32) + (1 : Int32)) + (1 : Int32)) + (1 : Int32)) + (1 : Int32)) + (1 : Int32)) + (1 : Int32))) (osret ()) (osbind (osgR [7] 8 l0) fun x23 => osbind (osnew (.inr (5, [.int 0, .int 0, .int 0, .int 0, .int 0, .null, .null, .null, .null, .null, .null, .null, .null, .null, .null, .null]))) fun x24 => osbind (qX5_init N x24) fun _ => osbind (ossQ 5 5 x23 (((((((0 : Int32) + (1 : Int32)) + (1 : Int32)) + (1 : Int32)) + (1 : Int32)) + (1 : Int32)) + (1 : Int32)) x24) fun _ => osno)))))))
set_option maxRecDepth 100000 in
set_option maxHeartbeats 4000000 in
theorem sX9_init (N : Nat) (l0 : Nat) : osMet yX9_init cX9_init 2 none 4 86 140 4176 (fun _ : Unit => none) [.ref l0] (qX9_init N l0) := by
  refine osMet.of plX9 (Nat.le_of_ble_eq_true rfl) (osW.rw (lv2 := [(0, .ref l0)]) ?_ rfl rfl rfl)
  unfold qX9_init
  refine os_aload_n (i := 0) (q := 0) (v := l0) 0 rfl rfl (hX9_init.at 0 rfl rfl) ?_
  refine os_objInit wd87 wd88 wd89 (Nat.le_of_ble_eq_true rfl) (Nat.le_of_ble_eq_true rfl) (Nat.le_of_ble_eq_true rfl) (hX9_init.at 1 rfl rfl) ?_
  refine os_aload_n (i := 0) (q := 0) (v := l0) 0 rfl rfl (hX9_init.at 2 rfl rfl) ?_
  refine os_sipush (i := 1000) (v := (1000 : Int32)) rfl (hX9_init.at 3 rfl rfl) ?_
  refine os_newarray (at9 := .byte) (ty := .byte) (t := 1) (N := 1000) rfl rfl rfl wd103 (fun _ => rfl) (by decide) rfl (Nat.le_of_ble_eq_true rfl) (Nat.le_of_ble_eq_true rfl) (Nat.le_of_ble_eq_true rfl) (hX9_init.at 4 rfl rfl) (fun x1 => ?_)
  refine os_putF fX9_9 rfl (osHd1 rfl rfl) rfl rfl (hX9_init.at 5 rfl rfl) ?_
  refine os_aload_n (i := 0) (q := 0) (v := l0) 0 rfl rfl (hX9_init.at 6 rfl rfl) ?_
  refine os_iconst (i := 0) (v := (0 : Int32)) rfl (hX9_init.at 7 rfl rfl) ?_
  refine os_put fX9_13 rfl rfl (hX9_init.at 8 rfl rfl) ?_
  refine os_aload_n (i := 0) (q := 0) (v := l0) 0 rfl rfl (hX9_init.at 9 rfl rfl) ?_
  refine os_new (C := RX4) (T := TX4) (N := 2) (ci := 4) (ty0 := tyX4) rfl tyX4_ok osinX4 wd90 wd91 wd55 dfX4 (Nat.le_of_ble_eq_true rfl) (Nat.le_of_ble_eq_true rfl) (hX9_init.at 10 rfl rfl) (fun x2 => ?_)
  refine os_dup rfl (hX9_init.at 11 rfl rfl) ?_
  refine os_callIN (host := "OrderSettler") (b := x2) (As := []) (st := [.ref x2, .ref l0]) (st' := (fun _ => [.ref x2, .ref l0])) mdX4_init rfl wd92 wd93 (sX4_init N x2 ) rfl rfl (fun _ => rfl) (Nat.le_of_ble_eq_true rfl) (Nat.le_of_ble_eq_true rfl) (Nat.le_of_ble_eq_true rfl) rfl (Nat.le_of_ble_eq_true rfl) rfl (Nat.le_of_ble_eq_true rfl) (hX9_init.at 12 rfl rfl) (fun _ => ?_)
  refine os_putF fX9_20 rfl (osHd1 rfl rfl) rfl rfl (hX9_init.at 13 rfl rfl) ?_
  refine os_aload_n (i := 0) (q := 0) (v := l0) 0 rfl rfl (hX9_init.at 14 rfl rfl) ?_
  refine os_iconst (i := 0) (v := (0 : Int32)) rfl (hX9_init.at 15 rfl rfl) ?_
  refine os_put fX9_24 rfl rfl (hX9_init.at 16 rfl rfl) ?_
  refine os_aload_n (i := 0) (q := 0) (v := l0) 0 rfl rfl (hX9_init.at 17 rfl rfl) ?_
  refine os_iconst (i := (-1)) (v := (-1 : Int32)) rfl (hX9_init.at 18 rfl rfl) ?_
  refine os_put fX9_27 rfl rfl (hX9_init.at 19 rfl rfl) ?_
  refine os_aload_n (i := 0) (q := 0) (v := l0) 0 rfl rfl (hX9_init.at 20 rfl rfl) ?_
  refine os_new (C := RX3) (T := TX3) (N := 10) (ci := 3) (ty0 := tyX3) rfl tyX3_ok osinX3 wd104 wd105 wd57 dfX3 (Nat.le_of_ble_eq_true rfl) (Nat.le_of_ble_eq_true rfl) (hX9_init.at 21 rfl rfl) (fun x3 => ?_)
  refine os_dup rfl (hX9_init.at 22 rfl rfl) ?_
  refine os_callIN (host := "OrderSettler") (b := x3) (As := []) (st := [.ref x3, .ref l0]) (st' := (fun _ => [.ref x3, .ref l0])) mdX3_init rfl wd106 wd107 (sX3_init N x3 ) rfl rfl (fun _ => rfl) (Nat.le_of_ble_eq_true rfl) (Nat.le_of_ble_eq_true rfl) (Nat.le_of_ble_eq_true rfl) rfl (Nat.le_of_ble_eq_true rfl) rfl (Nat.le_of_ble_eq_true rfl) (hX9_init.at 23 rfl rfl) (fun _ => ?_)
  refine os_putF fX9_33 rfl (osHd1 rfl rfl) rfl rfl (hX9_init.at 24 rfl rfl) ?_
  refine os_aload_n (i := 0) (q := 0) (v := l0) 0 rfl rfl (hX9_init.at 25 rfl rfl) ?_
  refine os_new (C := RX7) (T := TX7) (N := 10) (ci := 6) (ty0 := tyX7) rfl tyX7_ok osinX7 wd154 wd155 wd58 dfX7 (Nat.le_of_ble_eq_true rfl) (Nat.le_of_ble_eq_true rfl) (hX9_init.at 26 rfl rfl) (fun x4 => ?_)
  refine os_dup rfl (hX9_init.at 27 rfl rfl) ?_
  refine os_callIN (host := "OrderSettler") (b := x4) (As := []) (st := [.ref x4, .ref l0]) (st' := (fun _ => [.ref x4, .ref l0])) mdX7_init rfl wd156 wd157 (sX7_init N x4 ) rfl rfl (fun _ => rfl) (Nat.le_of_ble_eq_true rfl) (Nat.le_of_ble_eq_true rfl) (Nat.le_of_ble_eq_true rfl) rfl (Nat.le_of_ble_eq_true rfl) rfl (Nat.le_of_ble_eq_true rfl) (hX9_init.at 28 rfl rfl) (fun _ => ?_)
  refine os_putF fX9_40 rfl (osHd1 rfl rfl) rfl rfl (hX9_init.at 29 rfl rfl) ?_
  refine os_aload_n (i := 0) (q := 0) (v := l0) 0 rfl rfl (hX9_init.at 30 rfl rfl) ?_
  refine os_new (C := RX1) (T := TX1) (N := 8) (ci := 1) (ty0 := tyX1) rfl tyX1_ok osinX1 wd171 wd172 wd59 dfX1 (Nat.le_of_ble_eq_true rfl) (Nat.le_of_ble_eq_true rfl) (hX9_init.at 31 rfl rfl) (fun x5 => ?_)
  refine os_dup rfl (hX9_init.at 32 rfl rfl) ?_
  refine os_callIN (host := "OrderSettler") (b := x5) (As := []) (st := [.ref x5, .ref l0]) (st' := (fun _ => [.ref x5, .ref l0])) mdX1_init rfl wd173 wd174 (sX1_init N x5 ) rfl rfl (fun _ => rfl) (Nat.le_of_ble_eq_true rfl) (Nat.le_of_ble_eq_true rfl) (Nat.le_of_ble_eq_true rfl) rfl (Nat.le_of_ble_eq_true rfl) rfl (Nat.le_of_ble_eq_true rfl) (hX9_init.at 33 rfl rfl) (fun _ => ?_)
  refine os_putF fX9_47 rfl (osHd1 rfl rfl) rfl rfl (hX9_init.at 34 rfl rfl) ?_
  refine os_aload_n (i := 0) (q := 0) (v := l0) 0 rfl rfl (hX9_init.at 35 rfl rfl) ?_
  refine os_bipush (i := 6) (v := (6 : Int32)) rfl (hX9_init.at 36 rfl rfl) ?_
  refine os_anewarray (t := 5) (N := 6) (C := "OrderSettler$State") rfl rfl wd279 (by decide) rfl (Nat.le_of_ble_eq_true rfl) (Nat.le_of_ble_eq_true rfl) (Nat.le_of_ble_eq_true rfl) (hX9_init.at 37 rfl rfl) (fun x6 => ?_)
  refine os_putF fX9_53 rfl (osHd1 rfl rfl) rfl rfl (hX9_init.at 38 rfl rfl) ?_
  refine os_aload_n (i := 0) (q := 0) (v := l0) 0 rfl rfl (hX9_init.at 39 rfl rfl) ?_
  refine os_iconst (i := 0) (v := (0 : Int32)) rfl (hX9_init.at 40 rfl rfl) ?_
  refine os_put fX9_57 rfl rfl (hX9_init.at 41 rfl rfl) ?_
  refine os_aload_n (i := 0) (q := 0) (v := l0) 0 rfl rfl (hX9_init.at 42 rfl rfl) ?_
  refine os_new (C := RX0) (T := TX0) (N := 10) (ci := 0) (ty0 := tyX0) rfl tyX0_ok osinX0 wd281 wd282 wd61 dfX0 (Nat.le_of_ble_eq_true rfl) (Nat.le_of_ble_eq_true rfl) (hX9_init.at 43 rfl rfl) (fun x7 => ?_)
  refine os_dup rfl (hX9_init.at 44 rfl rfl) ?_
  refine os_callI (b := x7) (As := []) (st := [.ref x7, .ref l0]) (st' := (fun _ => [.ref x7, .ref l0])) mdX0_init rfl wd283 wd284 (sX0_init N x7 ) rfl rfl (fun _ => rfl) (Nat.le_of_ble_eq_true rfl) (Nat.le_of_ble_eq_true rfl) (Nat.le_of_ble_eq_true rfl) rfl (Nat.le_of_ble_eq_true rfl) rfl (Nat.le_of_ble_eq_true rfl) (hX9_init.at 45 rfl rfl) (fun _ => ?_)
  refine os_put fX9_63 rfl rfl (hX9_init.at 46 rfl rfl) ?_
  refine os_aload_n (i := 0) (q := 0) (v := l0) 0 rfl rfl (hX9_init.at 47 rfl rfl) ?_
  refine os_new (C := RX0) (T := TX0) (N := 10) (ci := 0) (ty0 := tyX0) rfl tyX0_ok osinX0 wd281 wd282 wd61 dfX0 (Nat.le_of_ble_eq_true rfl) (Nat.le_of_ble_eq_true rfl) (hX9_init.at 48 rfl rfl) (fun x8 => ?_)
  refine os_dup rfl (hX9_init.at 49 rfl rfl) ?_
  refine os_callI (b := x8) (As := []) (st := [.ref x8, .ref l0]) (st' := (fun _ => [.ref x8, .ref l0])) mdX0_init rfl wd283 wd284 (sX0_init N x8 ) rfl rfl (fun _ => rfl) (Nat.le_of_ble_eq_true rfl) (Nat.le_of_ble_eq_true rfl) (Nat.le_of_ble_eq_true rfl) rfl (Nat.le_of_ble_eq_true rfl) rfl (Nat.le_of_ble_eq_true rfl) (hX9_init.at 50 rfl rfl) (fun _ => ?_)
  refine os_put fX9_67 rfl rfl (hX9_init.at 51 rfl rfl) ?_
  refine os_aload_n (i := 0) (q := 0) (v := l0) 0 rfl rfl (hX9_init.at 52 rfl rfl) ?_
  refine os_new (C := RX5) (T := TX5) (N := 16) (ci := 5) (ty0 := tyX5) rfl tyX5_ok osinX5 wd279 wd336 wd62 dfX5 (Nat.le_of_ble_eq_true rfl) (Nat.le_of_ble_eq_true rfl) (hX9_init.at 53 rfl rfl) (fun x9 => ?_)
  refine os_dup rfl (hX9_init.at 54 rfl rfl) ?_
  refine os_callI (b := x9) (As := []) (st := [.ref x9, .ref l0]) (st' := (fun _ => [.ref x9, .ref l0])) mdX5_init rfl wd337 wd338 (sX5_init N x9 ) rfl rfl (fun _ => rfl) (Nat.le_of_ble_eq_true rfl) (Nat.le_of_ble_eq_true rfl) (Nat.le_of_ble_eq_true rfl) rfl (Nat.le_of_ble_eq_true rfl) rfl (Nat.le_of_ble_eq_true rfl) (hX9_init.at 55 rfl rfl) (fun _ => ?_)
  refine os_put fX9_71 rfl rfl (hX9_init.at 56 rfl rfl) ?_
  refine os_aload_n (i := 0) (q := 0) (v := l0) 0 rfl rfl (hX9_init.at 57 rfl rfl) ?_
  refine os_new (C := RX5) (T := TX5) (N := 16) (ci := 5) (ty0 := tyX5) rfl tyX5_ok osinX5 wd279 wd336 wd62 dfX5 (Nat.le_of_ble_eq_true rfl) (Nat.le_of_ble_eq_true rfl) (hX9_init.at 58 rfl rfl) (fun x10 => ?_)
  refine os_dup rfl (hX9_init.at 59 rfl rfl) ?_
  refine os_callI (b := x10) (As := []) (st := [.ref x10, .ref l0]) (st' := (fun _ => [.ref x10, .ref l0])) mdX5_init rfl wd337 wd338 (sX5_init N x10 ) rfl rfl (fun _ => rfl) (Nat.le_of_ble_eq_true rfl) (Nat.le_of_ble_eq_true rfl) (Nat.le_of_ble_eq_true rfl) rfl (Nat.le_of_ble_eq_true rfl) rfl (Nat.le_of_ble_eq_true rfl) (hX9_init.at 60 rfl rfl) (fun _ => ?_)
  refine os_put fX9_75 rfl rfl (hX9_init.at 61 rfl rfl) ?_
  refine os_iconst (i := 0) (v := (0 : Int32)) rfl (hX9_init.at 62 rfl rfl) ?_
  refine os_istore_n (i := 1) (q := 1) rfl (lv' := [(1, .int (0 : Int32)), (0, .ref l0)]) (Nat.le_of_ble_eq_true rfl) rfl (hX9_init.at 63 rfl rfl) ?_
  refine os_iload_n (i := 1) (q := 1) (v := (0 : Int32)) 0 rfl rfl (hX9_init.at 64 rfl rfl) ?_
  refine os_bipush (i := 6) (v := (6 : Int32)) rfl (hX9_init.at 65 rfl rfl) ?_
  refine os_icmp_ge (off := 22) (tgt := 157) rfl (hX9_init.at 66 rfl rfl) ?_ ?_
  · exact os_vret (Nat.le_of_ble_eq_true rfl) (Nat.le_of_ble_eq_true rfl) (hX9_init.at 76 rfl rfl).1
  · refine os_aload_n (i := 0) (q := 0) (v := l0) 1 rfl rfl (hX9_init.at 67 rfl rfl) ?_
    refine os_getR fX9_53 (hX9_init.at 68 rfl rfl) (fun x11 => ?_)
    refine os_iload_n (i := 1) (q := 1) (v := (0 : Int32)) 0 rfl rfl (hX9_init.at 69 rfl rfl) ?_
    refine os_new (C := RX5) (T := TX5) (N := 16) (ci := 5) (ty0 := tyX5) rfl tyX5_ok osinX5 wd279 wd336 wd62 dfX5 (Nat.le_of_ble_eq_true rfl) (Nat.le_of_ble_eq_true rfl) (hX9_init.at 70 rfl rfl) (fun x12 => ?_)
    refine os_dup rfl (hX9_init.at 71 rfl rfl) ?_
    refine os_callI (b := x12) (As := []) (st := [.ref x12, .int (0 : Int32), .ref x11]) (st' := (fun _ => [.ref x12, .int (0 : Int32), .ref x11])) mdX5_init rfl wd337 wd338 (sX5_init N x12 ) rfl rfl (fun _ => rfl) (Nat.le_of_ble_eq_true rfl) (Nat.le_of_ble_eq_true rfl) (Nat.le_of_ble_eq_true rfl) rfl (Nat.le_of_ble_eq_true rfl) rfl (Nat.le_of_ble_eq_true rfl) (hX9_init.at 72 rfl rfl) (fun _ => ?_)
    refine os_aastore (t := 5) (ci := 5) rfl rfl (hX9_init.at 73 rfl rfl) ?_
    refine os_iinc (i := 1) (d := 1) (x := (0 : Int32)) (v := (1 : Int32)) (lv' := [(1, .int ((0 : Int32) + (1 : Int32))), (0, .ref l0)]) 0 rfl rfl (Nat.le_of_ble_eq_true rfl) rfl (hX9_init.at 74 rfl rfl) ?_
    refine os_goto (off := (-22)) (tgt := 132) rfl (hX9_init.at 75 rfl rfl) ?_
    refine os_iload_n (i := 1) (q := 1) (v := ((0 : Int32) + (1 : Int32))) 0 rfl rfl (hX9_init.at 64 rfl rfl) ?_
    refine os_bipush (i := 6) (v := (6 : Int32)) rfl (hX9_init.at 65 rfl rfl) ?_
    refine os_icmp_ge (off := 22) (tgt := 157) rfl (hX9_init.at 66 rfl rfl) ?_ ?_
    · exact os_vret (Nat.le_of_ble_eq_true rfl) (Nat.le_of_ble_eq_true rfl) (hX9_init.at 76 rfl rfl).1
    · refine os_aload_n (i := 0) (q := 0) (v := l0) 1 rfl rfl (hX9_init.at 67 rfl rfl) ?_
      refine os_getR fX9_53 (hX9_init.at 68 rfl rfl) (fun x13 => ?_)
      refine os_iload_n (i := 1) (q := 1) (v := ((0 : Int32) + (1 : Int32))) 0 rfl rfl (hX9_init.at 69 rfl rfl) ?_
      refine os_new (C := RX5) (T := TX5) (N := 16) (ci := 5) (ty0 := tyX5) rfl tyX5_ok osinX5 wd279 wd336 wd62 dfX5 (Nat.le_of_ble_eq_true rfl) (Nat.le_of_ble_eq_true rfl) (hX9_init.at 70 rfl rfl) (fun x14 => ?_)
      refine os_dup rfl (hX9_init.at 71 rfl rfl) ?_
      refine os_callI (b := x14) (As := []) (st := [.ref x14, .int ((0 : Int32) + (1 : Int32)), .ref x13]) (st' := (fun _ => [.ref x14, .int ((0 : Int32) + (1 : Int32)), .ref x13])) mdX5_init rfl wd337 wd338 (sX5_init N x14 ) rfl rfl (fun _ => rfl) (Nat.le_of_ble_eq_true rfl) (Nat.le_of_ble_eq_true rfl) (Nat.le_of_ble_eq_true rfl) rfl (Nat.le_of_ble_eq_true rfl) rfl (Nat.le_of_ble_eq_true rfl) (hX9_init.at 72 rfl rfl) (fun _ => ?_)
      refine os_aastore (t := 5) (ci := 5) rfl rfl (hX9_init.at 73 rfl rfl) ?_
      refine os_iinc (i := 1) (d := 1) (x := ((0 : Int32) + (1 : Int32))) (v := (1 : Int32)) (lv' := [(1, .int (((0 : Int32) + (1 : Int32)) + (1 : Int32))), (0, .ref l0)]) 0 rfl rfl (Nat.le_of_ble_eq_true rfl) rfl (hX9_init.at 74 rfl rfl) ?_
      refine os_goto (off := (-22)) (tgt := 132) rfl (hX9_init.at 75 rfl rfl) ?_
      refine os_iload_n (i := 1) (q := 1) (v := (((0 : Int32) + (1 : Int32)) + (1 : Int32))) 0 rfl rfl (hX9_init.at 64 rfl rfl) ?_
      refine os_bipush (i := 6) (v := (6 : Int32)) rfl (hX9_init.at 65 rfl rfl) ?_
      refine os_icmp_ge (off := 22) (tgt := 157) rfl (hX9_init.at 66 rfl rfl) ?_ ?_
      · exact os_vret (Nat.le_of_ble_eq_true rfl) (Nat.le_of_ble_eq_true rfl) (hX9_init.at 76 rfl rfl).1
      · refine os_aload_n (i := 0) (q := 0) (v := l0) 1 rfl rfl (hX9_init.at 67 rfl rfl) ?_
        refine os_getR fX9_53 (hX9_init.at 68 rfl rfl) (fun x15 => ?_)
        refine os_iload_n (i := 1) (q := 1) (v := (((0 : Int32) + (1 : Int32)) + (1 : Int32))) 0 rfl rfl (hX9_init.at 69 rfl rfl) ?_
        refine os_new (C := RX5) (T := TX5) (N := 16) (ci := 5) (ty0 := tyX5) rfl tyX5_ok osinX5 wd279 wd336 wd62 dfX5 (Nat.le_of_ble_eq_true rfl) (Nat.le_of_ble_eq_true rfl) (hX9_init.at 70 rfl rfl) (fun x16 => ?_)
        refine os_dup rfl (hX9_init.at 71 rfl rfl) ?_
        refine os_callI (b := x16) (As := []) (st := [.ref x16, .int (((0 : Int32) + (1 : Int32)) + (1 : Int32)), .ref x15]) (st' := (fun _ => [.ref x16, .int (((0 : Int32) + (1 : Int32)) + (1 : Int32)), .ref x15])) mdX5_init rfl wd337 wd338 (sX5_init N x16 ) rfl rfl (fun _ => rfl) (Nat.le_of_ble_eq_true rfl) (Nat.le_of_ble_eq_true rfl) (Nat.le_of_ble_eq_true rfl) rfl (Nat.le_of_ble_eq_true rfl) rfl (Nat.le_of_ble_eq_true rfl) (hX9_init.at 72 rfl rfl) (fun _ => ?_)
        refine os_aastore (t := 5) (ci := 5) rfl rfl (hX9_init.at 73 rfl rfl) ?_
        refine os_iinc (i := 1) (d := 1) (x := (((0 : Int32) + (1 : Int32)) + (1 : Int32))) (v := (1 : Int32)) (lv' := [(1, .int ((((0 : Int32) + (1 : Int32)) + (1 : Int32)) + (1 : Int32))), (0, .ref l0)]) 0 rfl rfl (Nat.le_of_ble_eq_true rfl) rfl (hX9_init.at 74 rfl rfl) ?_
        refine os_goto (off := (-22)) (tgt := 132) rfl (hX9_init.at 75 rfl rfl) ?_
        refine os_iload_n (i := 1) (q := 1) (v := ((((0 : Int32) + (1 : Int32)) + (1 : Int32)) + (1 : Int32))) 0 rfl rfl (hX9_init.at 64 rfl rfl) ?_
        refine os_bipush (i := 6) (v := (6 : Int32)) rfl (hX9_init.at 65 rfl rfl) ?_
        refine os_icmp_ge (off := 22) (tgt := 157) rfl (hX9_init.at 66 rfl rfl) ?_ ?_
        · exact os_vret (Nat.le_of_ble_eq_true rfl) (Nat.le_of_ble_eq_true rfl) (hX9_init.at 76 rfl rfl).1
        · refine os_aload_n (i := 0) (q := 0) (v := l0) 1 rfl rfl (hX9_init.at 67 rfl rfl) ?_
          refine os_getR fX9_53 (hX9_init.at 68 rfl rfl) (fun x17 => ?_)
          refine os_iload_n (i := 1) (q := 1) (v := ((((0 : Int32) + (1 : Int32)) + (1 : Int32)) + (1 : Int32))) 0 rfl rfl (hX9_init.at 69 rfl rfl) ?_
          refine os_new (C := RX5) (T := TX5) (N := 16) (ci := 5) (ty0 := tyX5) rfl tyX5_ok osinX5 wd279 wd336 wd62 dfX5 (Nat.le_of_ble_eq_true rfl) (Nat.le_of_ble_eq_true rfl) (hX9_init.at 70 rfl rfl) (fun x18 => ?_)
          refine os_dup rfl (hX9_init.at 71 rfl rfl) ?_
          refine os_callI (b := x18) (As := []) (st := [.ref x18, .int ((((0 : Int32) + (1 : Int32)) + (1 : Int32)) + (1 : Int32)), .ref x17]) (st' := (fun _ => [.ref x18, .int ((((0 : Int32) + (1 : Int32)) + (1 : Int32)) + (1 : Int32)), .ref x17])) mdX5_init rfl wd337 wd338 (sX5_init N x18 ) rfl rfl (fun _ => rfl) (Nat.le_of_ble_eq_true rfl) (Nat.le_of_ble_eq_true rfl) (Nat.le_of_ble_eq_true rfl) rfl (Nat.le_of_ble_eq_true rfl) rfl (Nat.le_of_ble_eq_true rfl) (hX9_init.at 72 rfl rfl) (fun _ => ?_)
          refine os_aastore (t := 5) (ci := 5) rfl rfl (hX9_init.at 73 rfl rfl) ?_
          refine os_iinc (i := 1) (d := 1) (x := ((((0 : Int32) + (1 : Int32)) + (1 : Int32)) + (1 : Int32))) (v := (1 : Int32)) (lv' := [(1, .int (((((0 : Int32) + (1 : Int32)) + (1 : Int32)) + (1 : Int32)) + (1 : Int32))), (0, .ref l0)]) 0 rfl rfl (Nat.le_of_ble_eq_true rfl) rfl (hX9_init.at 74 rfl rfl) ?_
          refine os_goto (off := (-22)) (tgt := 132) rfl (hX9_init.at 75 rfl rfl) ?_
          refine os_iload_n (i := 1) (q := 1) (v := (((((0 : Int32) + (1 : Int32)) + (1 : Int32)) + (1 : Int32)) + (1 : Int32))) 0 rfl rfl (hX9_init.at 64 rfl rfl) ?_
          refine os_bipush (i := 6) (v := (6 : Int32)) rfl (hX9_init.at 65 rfl rfl) ?_
          refine os_icmp_ge (off := 22) (tgt := 157) rfl (hX9_init.at 66 rfl rfl) ?_ ?_
          · exact os_vret (Nat.le_of_ble_eq_true rfl) (Nat.le_of_ble_eq_true rfl) (hX9_init.at 76 rfl rfl).1
          · refine os_aload_n (i := 0) (q := 0) (v := l0) 1 rfl rfl (hX9_init.at 67 rfl rfl) ?_
            refine os_getR fX9_53 (hX9_init.at 68 rfl rfl) (fun x19 => ?_)
            refine os_iload_n (i := 1) (q := 1) (v := (((((0 : Int32) + (1 : Int32)) + (1 : Int32)) + (1 : Int32)) + (1 : Int32))) 0 rfl rfl (hX9_init.at 69 rfl rfl) ?_
            refine os_new (C := RX5) (T := TX5) (N := 16) (ci := 5) (ty0 := tyX5) rfl tyX5_ok osinX5 wd279 wd336 wd62 dfX5 (Nat.le_of_ble_eq_true rfl) (Nat.le_of_ble_eq_true rfl) (hX9_init.at 70 rfl rfl) (fun x20 => ?_)
            refine os_dup rfl (hX9_init.at 71 rfl rfl) ?_
            refine os_callI (b := x20) (As := []) (st := [.ref x20, .int (((((0 : Int32) + (1 : Int32)) + (1 : Int32)) + (1 : Int32)) + (1 : Int32)), .ref x19]) (st' := (fun _ => [.ref x20, .int (((((0 : Int32) + (1 : Int32)) + (1 : Int32)) + (1 : Int32)) + (1 : Int32)), .ref x19])) mdX5_init rfl wd337 wd338 (sX5_init N x20 ) rfl rfl (fun _ => rfl) (Nat.le_of_ble_eq_true rfl) (Nat.le_of_ble_eq_true rfl) (Nat.le_of_ble_eq_true rfl) rfl (Nat.le_of_ble_eq_true rfl) rfl (Nat.le_of_ble_eq_true rfl) (hX9_init.at 72 rfl rfl) (fun _ => ?_)
            refine os_aastore (t := 5) (ci := 5) rfl rfl (hX9_init.at 73 rfl rfl) ?_
            refine os_iinc (i := 1) (d := 1) (x := (((((0 : Int32) + (1 : Int32)) + (1 : Int32)) + (1 : Int32)) + (1 : Int32))) (v := (1 : Int32)) (lv' := [(1, .int ((((((0 : Int32) + (1 : Int32)) + (1 : Int32)) + (1 : Int32)) + (1 : Int32)) + (1 : Int32))), (0, .ref l0)]) 0 rfl rfl (Nat.le_of_ble_eq_true rfl) rfl (hX9_init.at 74 rfl rfl) ?_
            refine os_goto (off := (-22)) (tgt := 132) rfl (hX9_init.at 75 rfl rfl) ?_
            refine os_iload_n (i := 1) (q := 1) (v := ((((((0 : Int32) + (1 : Int32)) + (1 : Int32)) + (1 : Int32)) + (1 : Int32)) + (1 : Int32))) 0 rfl rfl (hX9_init.at 64 rfl rfl) ?_
            refine os_bipush (i := 6) (v := (6 : Int32)) rfl (hX9_init.at 65 rfl rfl) ?_
            refine os_icmp_ge (off := 22) (tgt := 157) rfl (hX9_init.at 66 rfl rfl) ?_ ?_
            · exact os_vret (Nat.le_of_ble_eq_true rfl) (Nat.le_of_ble_eq_true rfl) (hX9_init.at 76 rfl rfl).1
            · refine os_aload_n (i := 0) (q := 0) (v := l0) 1 rfl rfl (hX9_init.at 67 rfl rfl) ?_
              refine os_getR fX9_53 (hX9_init.at 68 rfl rfl) (fun x21 => ?_)
              refine os_iload_n (i := 1) (q := 1) (v := ((((((0 : Int32) + (1 : Int32)) + (1 : Int32)) + (1 : Int32)) + (1 : Int32)) + (1 : Int32))) 0 rfl rfl (hX9_init.at 69 rfl rfl) ?_
              refine os_new (C := RX5) (T := TX5) (N := 16) (ci := 5) (ty0 := tyX5) rfl tyX5_ok osinX5 wd279 wd336 wd62 dfX5 (Nat.le_of_ble_eq_true rfl) (Nat.le_of_ble_eq_true rfl) (hX9_init.at 70 rfl rfl) (fun x22 => ?_)
              refine os_dup rfl (hX9_init.at 71 rfl rfl) ?_
              refine os_callI (b := x22) (As := []) (st := [.ref x22, .int ((((((0 : Int32) + (1 : Int32)) + (1 : Int32)) + (1 : Int32)) + (1 : Int32)) + (1 : Int32)), .ref x21]) (st' := (fun _ => [.ref x22, .int ((((((0 : Int32) + (1 : Int32)) + (1 : Int32)) + (1 : Int32)) + (1 : Int32)) + (1 : Int32)), .ref x21])) mdX5_init rfl wd337 wd338 (sX5_init N x22 ) rfl rfl (fun _ => rfl) (Nat.le_of_ble_eq_true rfl) (Nat.le_of_ble_eq_true rfl) (Nat.le_of_ble_eq_true rfl) rfl (Nat.le_of_ble_eq_true rfl) rfl (Nat.le_of_ble_eq_true rfl) (hX9_init.at 72 rfl rfl) (fun _ => ?_)
              refine os_aastore (t := 5) (ci := 5) rfl rfl (hX9_init.at 73 rfl rfl) ?_
              refine os_iinc (i := 1) (d := 1) (x := ((((((0 : Int32) + (1 : Int32)) + (1 : Int32)) + (1 : Int32)) + (1 : Int32)) + (1 : Int32))) (v := (1 : Int32)) (lv' := [(1, .int (((((((0 : Int32) + (1 : Int32)) + (1 : Int32)) + (1 : Int32)) + (1 : Int32)) + (1 : Int32)) + (1 : Int32))), (0, .ref l0)]) 0 rfl rfl (Nat.le_of_ble_eq_true rfl) rfl (hX9_init.at 74 rfl rfl) ?_
              refine os_goto (off := (-22)) (tgt := 132) rfl (hX9_init.at 75 rfl rfl) ?_
              refine os_iload_n (i := 1) (q := 1) (v := (((((((0 : Int32) + (1 : Int32)) + (1 : Int32)) + (1 : Int32)) + (1 : Int32)) + (1 : Int32)) + (1 : Int32))) 0 rfl rfl (hX9_init.at 64 rfl rfl) ?_
              refine os_bipush (i := 6) (v := (6 : Int32)) rfl (hX9_init.at 65 rfl rfl) ?_
              refine os_icmp_ge (off := 22) (tgt := 157) rfl (hX9_init.at 66 rfl rfl) ?_ ?_
              · exact os_vret (Nat.le_of_ble_eq_true rfl) (Nat.le_of_ble_eq_true rfl) (hX9_init.at 76 rfl rfl).1
              · refine os_aload_n (i := 0) (q := 0) (v := l0) 1 rfl rfl (hX9_init.at 67 rfl rfl) ?_
                refine os_getR fX9_53 (hX9_init.at 68 rfl rfl) (fun x23 => ?_)
                refine os_iload_n (i := 1) (q := 1) (v := (((((((0 : Int32) + (1 : Int32)) + (1 : Int32)) + (1 : Int32)) + (1 : Int32)) + (1 : Int32)) + (1 : Int32))) 0 rfl rfl (hX9_init.at 69 rfl rfl) ?_
                refine os_new (C := RX5) (T := TX5) (N := 16) (ci := 5) (ty0 := tyX5) rfl tyX5_ok osinX5 wd279 wd336 wd62 dfX5 (Nat.le_of_ble_eq_true rfl) (Nat.le_of_ble_eq_true rfl) (hX9_init.at 70 rfl rfl) (fun x24 => ?_)
                refine os_dup rfl (hX9_init.at 71 rfl rfl) ?_
                refine os_callI (b := x24) (As := []) (st := [.ref x24, .int (((((((0 : Int32) + (1 : Int32)) + (1 : Int32)) + (1 : Int32)) + (1 : Int32)) + (1 : Int32)) + (1 : Int32)), .ref x23]) (st' := (fun _ => [.ref x24, .int (((((((0 : Int32) + (1 : Int32)) + (1 : Int32)) + (1 : Int32)) + (1 : Int32)) + (1 : Int32)) + (1 : Int32)), .ref x23])) mdX5_init rfl wd337 wd338 (sX5_init N x24 ) rfl rfl (fun _ => rfl) (Nat.le_of_ble_eq_true rfl) (Nat.le_of_ble_eq_true rfl) (Nat.le_of_ble_eq_true rfl) rfl (Nat.le_of_ble_eq_true rfl) rfl (Nat.le_of_ble_eq_true rfl) (hX9_init.at 72 rfl rfl) (fun _ => ?_)
                refine os_aastore (t := 5) (ci := 5) rfl rfl (hX9_init.at 73 rfl rfl) ?_
                refine os_iinc (i := 1) (d := 1) (x := (((((((0 : Int32) + (1 : Int32)) + (1 : Int32)) + (1 : Int32)) + (1 : Int32)) + (1 : Int32)) + (1 : Int32))) (v := (1 : Int32)) (lv' := [(1, .int ((((((((0 : Int32) + (1 : Int32)) + (1 : Int32)) + (1 : Int32)) + (1 : Int32)) + (1 : Int32)) + (1 : Int32)) + (1 : Int32))), (0, .ref l0)]) 0 rfl rfl (Nat.le_of_ble_eq_true rfl) rfl (hX9_init.at 74 rfl rfl) ?_
                refine os_goto (off := (-22)) (tgt := 132) rfl (hX9_init.at 75 rfl rfl) ?_
                exact os_no rfl
