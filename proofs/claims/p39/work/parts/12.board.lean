-- X0_clear
def KX0_clear : List (Nat × Nat × Instr) := [(0, 1, .aload_n 0), (1, 1, .iconst 0), (2, 3, .putfield 9), (5, 1, .aload_n 0), (6, 1, .iconst 0), (7, 3, .putfield 15), (10, 1, .aload_n 0), (11, 1, .iconst 0), (12, 3, .putfield 18), (15, 1, .aload_n 0), (16, 1, .iconst 0), (17, 3, .putfield 21), (20, 1, .aload_n 0), (21, 1, .iconst 0), (22, 3, .putfield 24), (25, 1, .iconst 0), (26, 1, .istore_n 1), (27, 1, .iload_n 1), (28, 2, .bipush 16), (30, 3, .if_icmp .ge 30), (33, 1, .aload_n 0), (34, 3, .getfield 31), (37, 1, .iload_n 1), (38, 1, .iconst (-1)), (39, 1, .iastore), (40, 1, .aload_n 0), (41, 3, .getfield 34), (44, 1, .iload_n 1), (45, 1, .iconst 0), (46, 1, .iastore), (47, 1, .aload_n 0), (48, 3, .getfield 37), (51, 1, .iload_n 1), (52, 1, .iconst 0), (53, 1, .iastore), (54, 3, .iinc 1 1), (57, 3, .goto (-30)), (60, 1, .return_)]
theorem hX0_clear : osDs cX0_clear KX0_clear := by
  show ∀ q ∈ KX0_clear, decode cX0_clear q.1 = .ok (q.2.2, q.2.1)
  decide +kernel
def bX0_clear_27 (N : Nat) (c27 : Nat × Int32 → osM Unit) (l0 : Nat) (l1 : Int32) : osM Unit := osite ((16 : Int32) ≤ l1) (osret ()) (osbind (osgR [0] 6 l0) fun x1 => osbind (ossI 0 x1 l1 (-1 : Int32)) fun _ => osbind (osgR [0] 7 l0) fun x2 => osbind (ossI 0 x2 l1 (0 : Int32)) fun _ => osbind (osgR [0] 8 l0) fun x3 => osbind (ossI 0 x3 l1 (0 : Int32)) fun _ => c27 (l0, (l1 + (1 : Int32))))
def qX0_clear_27 (N : Nat) : Nat × Int32 → osM Unit := osloop (fun ih p => bX0_clear_27 N ih p.1 p.2) N
def qX0_clear (N : Nat) (l0 : Nat) : osM Unit := osbind (osput [0] 0 l0 (.int (0 : Int32))) fun _ => osbind (osput [0] 1 l0 (.int (0 : Int32))) fun _ => osbind (osput [0] 2 l0 (.int (0 : Int32))) fun _ => osbind (osput [0] 3 l0 (.int (0 : Int32))) fun _ => osbind (osput [0] 4 l0 (.int (0 : Int32))) fun _ => qX0_clear_27 N (l0, (0 : Int32))
set_option maxRecDepth 100000 in
set_option maxHeartbeats 4000000 in
theorem tX0_clear_27 (N : Nat) (c27 : Nat × Int32 → osM Unit) (g27 : ∀ (l0 : Nat) (l1 : Int32), osW (osFinM (fun _ : Unit => none) 0 0) yX0_clear cX0_clear 2 none [] { frames := 0, cells := 0, slots := 0, locals := 0 } 0 0 27 [(0, .ref l0), (1, .int l1)] [] (c27 (l0, l1))) (l0 : Nat) (l1 : Int32) : osW (osFinM (fun _ : Unit => none) 0 0) yX0_clear cX0_clear 2 none [] { frames := 0, cells := 0, slots := 0, locals := 0 } 0 0 27 [(0, .ref l0), (1, .int l1)] [] (bX0_clear_27 N c27 l0 l1) := by
  unfold bX0_clear_27
  refine os_iload_n (i := 1) (q := 1) (v := l1) 1 rfl rfl (hX0_clear.at 17 rfl rfl) ?_
  refine os_bipush (i := 16) (v := (16 : Int32)) rfl (hX0_clear.at 18 rfl rfl) ?_
  refine os_icmp_ge (off := 30) (tgt := 60) rfl (hX0_clear.at 19 rfl rfl) ?_ ?_
  · exact os_vret (Nat.le_of_ble_eq_true rfl) (Nat.le_of_ble_eq_true rfl) (hX0_clear.at 37 rfl rfl).1
  · refine os_aload_n (i := 0) (q := 0) (v := l0) 0 rfl rfl (hX0_clear.at 20 rfl rfl) ?_
    refine os_getR fX0_31 (hX0_clear.at 21 rfl rfl) (fun x1 => ?_)
    refine os_iload_n (i := 1) (q := 1) (v := l1) 1 rfl rfl (hX0_clear.at 22 rfl rfl) ?_
    refine os_iconst (i := (-1)) (v := (-1 : Int32)) rfl (hX0_clear.at 23 rfl rfl) ?_
    refine os_iastore (hX0_clear.at 24 rfl rfl) ?_
    refine os_aload_n (i := 0) (q := 0) (v := l0) 0 rfl rfl (hX0_clear.at 25 rfl rfl) ?_
    refine os_getR fX0_34 (hX0_clear.at 26 rfl rfl) (fun x2 => ?_)
    refine os_iload_n (i := 1) (q := 1) (v := l1) 1 rfl rfl (hX0_clear.at 27 rfl rfl) ?_
    refine os_iconst (i := 0) (v := (0 : Int32)) rfl (hX0_clear.at 28 rfl rfl) ?_
    refine os_iastore (hX0_clear.at 29 rfl rfl) ?_
    refine os_aload_n (i := 0) (q := 0) (v := l0) 0 rfl rfl (hX0_clear.at 30 rfl rfl) ?_
    refine os_getR fX0_37 (hX0_clear.at 31 rfl rfl) (fun x3 => ?_)
    refine os_iload_n (i := 1) (q := 1) (v := l1) 1 rfl rfl (hX0_clear.at 32 rfl rfl) ?_
    refine os_iconst (i := 0) (v := (0 : Int32)) rfl (hX0_clear.at 33 rfl rfl) ?_
    refine os_iastore (hX0_clear.at 34 rfl rfl) ?_
    refine os_iinc (i := 1) (d := 1) (x := l1) (v := (1 : Int32)) (lv' := [(1, .int (l1 + (1 : Int32))), (0, .ref l0)]) 1 rfl rfl (Nat.le_of_ble_eq_true rfl) rfl (hX0_clear.at 35 rfl rfl) ?_
    refine os_goto (off := (-30)) (tgt := 27) rfl (hX0_clear.at 36 rfl rfl) ?_
    exact osW.sub [1, 0] rfl (g27 l0 (l1 + (1 : Int32)))
set_option maxRecDepth 100000 in
set_option maxHeartbeats 4000000 in
theorem sX0_clear_27 (N : Nat) (l0 : Nat) (l1 : Int32) : osW (osFinM (fun _ : Unit => none) 0 0) yX0_clear cX0_clear 2 none [] { frames := 0, cells := 0, slots := 0, locals := 0 } 0 0 27 [(0, .ref l0), (1, .int l1)] [] (qX0_clear_27 N (l0, l1)) :=
  osloop_W (lvf := fun p => [(0, .ref p.1), (1, .int p.2)]) (stf := fun p => []) (fun ih g p => tX0_clear_27 N ih (fun l0 l1 => g (l0, l1)) p.1 p.2) N (l0, l1)
set_option maxRecDepth 100000 in
set_option maxHeartbeats 4000000 in
theorem sX0_clear (N : Nat) (l0 : Nat) : osMet yX0_clear cX0_clear 2 none 0 0 0 0 (fun _ : Unit => none) [.ref l0] (qX0_clear N l0) := by
  refine osMet.of plX0 (Nat.le_of_ble_eq_true rfl) (osW.rw (lv2 := [(0, .ref l0)]) ?_ rfl rfl rfl)
  unfold qX0_clear
  refine os_aload_n (i := 0) (q := 0) (v := l0) 0 rfl rfl (hX0_clear.at 0 rfl rfl) ?_
  refine os_iconst (i := 0) (v := (0 : Int32)) rfl (hX0_clear.at 1 rfl rfl) ?_
  refine os_put fX0_9 rfl rfl (hX0_clear.at 2 rfl rfl) ?_
  refine os_aload_n (i := 0) (q := 0) (v := l0) 0 rfl rfl (hX0_clear.at 3 rfl rfl) ?_
  refine os_iconst (i := 0) (v := (0 : Int32)) rfl (hX0_clear.at 4 rfl rfl) ?_
  refine os_put fX0_15 rfl rfl (hX0_clear.at 5 rfl rfl) ?_
  refine os_aload_n (i := 0) (q := 0) (v := l0) 0 rfl rfl (hX0_clear.at 6 rfl rfl) ?_
  refine os_iconst (i := 0) (v := (0 : Int32)) rfl (hX0_clear.at 7 rfl rfl) ?_
  refine os_put fX0_18 rfl rfl (hX0_clear.at 8 rfl rfl) ?_
  refine os_aload_n (i := 0) (q := 0) (v := l0) 0 rfl rfl (hX0_clear.at 9 rfl rfl) ?_
  refine os_iconst (i := 0) (v := (0 : Int32)) rfl (hX0_clear.at 10 rfl rfl) ?_
  refine os_put fX0_21 rfl rfl (hX0_clear.at 11 rfl rfl) ?_
  refine os_aload_n (i := 0) (q := 0) (v := l0) 0 rfl rfl (hX0_clear.at 12 rfl rfl) ?_
  refine os_iconst (i := 0) (v := (0 : Int32)) rfl (hX0_clear.at 13 rfl rfl) ?_
  refine os_put fX0_24 rfl rfl (hX0_clear.at 14 rfl rfl) ?_
  refine os_iconst (i := 0) (v := (0 : Int32)) rfl (hX0_clear.at 15 rfl rfl) ?_
  refine os_istore_n (i := 1) (q := 1) rfl (lv' := [(1, .int (0 : Int32)), (0, .ref l0)]) (Nat.le_of_ble_eq_true rfl) rfl (hX0_clear.at 16 rfl rfl) ?_
  exact osW.sub [1, 0] rfl (sX0_clear_27 N l0 (0 : Int32))
-- X0_isArea
def KX0_isArea : List (Nat × Nat × Instr) := [(0, 1, .iload_n 1), (1, 3, .ifCond .lt 21), (4, 1, .iload_n 1), (5, 1, .aload_n 0), (6, 3, .getfield 9), (9, 3, .if_icmp .ge 13), (12, 1, .iload_n 1), (13, 2, .bipush 16), (15, 3, .if_icmp .ge 7), (18, 1, .iconst 1), (19, 3, .goto 4), (22, 1, .iconst 0), (23, 1, .ireturn)]
theorem hX0_isArea : osDs cX0_isArea KX0_isArea := by
  show ∀ q ∈ KX0_isArea, decode cX0_isArea q.1 = .ok (q.2.2, q.2.1)
  decide +kernel
def qX0_isArea_23 (N : Nat) (k0 : Int32) : osM Int32 := osretZ k0
def qX0_isArea_22 (N : Nat) : osM Int32 := qX0_isArea_23 N (0 : Int32)
def qX0_isArea (N : Nat) (l0 : Nat) (l1 : Int32) : osM Int32 := osite (l1 < 0) (qX0_isArea_22 N ) (osbind (osgI [0] 0 l0) fun x1 => osite (x1 ≤ l1) (qX0_isArea_22 N ) (osite ((16 : Int32) ≤ l1) (qX0_isArea_22 N ) (qX0_isArea_23 N (1 : Int32))))
set_option maxRecDepth 100000 in
set_option maxHeartbeats 4000000 in
theorem sX0_isArea_23 (N : Nat) (k0 : Int32) : osW (osFinM (fun r : Int32 => some (.int r)) 0 0) yX0_isArea cX0_isArea 2 (some .boolean) [] { frames := 0, cells := 0, slots := 0, locals := 0 } 0 0 23 [] [.int k0] (qX0_isArea_23 N k0) := by
  unfold qX0_isArea_23
  exact os_zret (Nat.le_of_ble_eq_true rfl) (Nat.le_of_ble_eq_true rfl) (hX0_isArea.at 12 rfl rfl).1
set_option maxRecDepth 100000 in
set_option maxHeartbeats 4000000 in
theorem sX0_isArea_22 (N : Nat) : osW (osFinM (fun r : Int32 => some (.int r)) 0 0) yX0_isArea cX0_isArea 2 (some .boolean) [] { frames := 0, cells := 0, slots := 0, locals := 0 } 0 0 22 [] [] (qX0_isArea_22 N) := by
  unfold qX0_isArea_22
  refine os_iconst (i := 0) (v := (0 : Int32)) rfl (hX0_isArea.at 11 rfl rfl) ?_
  exact osW.sub [] rfl (sX0_isArea_23 N (0 : Int32))
set_option maxRecDepth 100000 in
set_option maxHeartbeats 4000000 in
theorem sX0_isArea (N : Nat) (l0 : Nat) (l1 : Int32) : osMet yX0_isArea cX0_isArea 2 (some .boolean) 0 0 0 0 (fun r : Int32 => some (.int r)) [.ref l0, .int l1] (qX0_isArea N l0 l1) := by
  refine osMet.of plX0 (Nat.le_of_ble_eq_true rfl) (osW.rw (lv2 := [(0, .ref l0), (1, .int l1)]) ?_ rfl rfl rfl)
  unfold qX0_isArea
  refine os_iload_n (i := 1) (q := 1) (v := l1) 1 rfl rfl (hX0_isArea.at 0 rfl rfl) ?_
  refine os_if_lt (off := 21) (tgt := 22) rfl (hX0_isArea.at 1 rfl rfl) ?_ ?_
  · exact osW.sub [] rfl (sX0_isArea_22 N )
  · refine os_iload_n (i := 1) (q := 1) (v := l1) 1 rfl rfl (hX0_isArea.at 2 rfl rfl) ?_
    refine os_aload_n (i := 0) (q := 0) (v := l0) 0 rfl rfl (hX0_isArea.at 3 rfl rfl) ?_
    refine os_getI fX0_9 (hX0_isArea.at 4 rfl rfl) (fun x1 => ?_)
    refine os_icmp_ge (off := 13) (tgt := 22) rfl (hX0_isArea.at 5 rfl rfl) ?_ ?_
    · exact osW.sub [] rfl (sX0_isArea_22 N )
    · refine os_iload_n (i := 1) (q := 1) (v := l1) 1 rfl rfl (hX0_isArea.at 6 rfl rfl) ?_
      refine os_bipush (i := 16) (v := (16 : Int32)) rfl (hX0_isArea.at 7 rfl rfl) ?_
      refine os_icmp_ge (off := 7) (tgt := 22) rfl (hX0_isArea.at 8 rfl rfl) ?_ ?_
      · exact osW.sub [] rfl (sX0_isArea_22 N )
      · refine os_iconst (i := 1) (v := (1 : Int32)) rfl (hX0_isArea.at 9 rfl rfl) ?_
        refine os_goto (off := 4) (tgt := 23) rfl (hX0_isArea.at 10 rfl rfl) ?_
        exact osW.sub [] rfl (sX0_isArea_23 N (1 : Int32))
-- X0_findArea
def KX0_findArea : List (Nat × Nat × Instr) := [(0, 1, .iconst 0), (1, 1, .istore_n 2), (2, 1, .iload_n 2), (3, 1, .aload_n 0), (4, 3, .getfield 9), (7, 3, .if_icmp .ge 27), (10, 1, .iload_n 2), (11, 2, .bipush 16), (13, 3, .if_icmp .ge 21), (16, 1, .aload_n 0), (17, 3, .getfield 27), (20, 1, .iload_n 2), (21, 1, .iaload), (22, 1, .iload_n 1), (23, 3, .if_icmp .ne 5), (26, 1, .iload_n 2), (27, 1, .ireturn), (28, 3, .iinc 2 1), (31, 3, .goto (-29)), (34, 1, .iconst (-1)), (35, 1, .ireturn)]
theorem hX0_findArea : osDs cX0_findArea KX0_findArea := by
  show ∀ q ∈ KX0_findArea, decode cX0_findArea q.1 = .ok (q.2.2, q.2.1)
  decide +kernel
def qX0_findArea_34 (N : Nat) : osM Int32 := osret (-1 : Int32)
def bX0_findArea_2 (N : Nat) (c2 : Nat × Int32 × Int32 → osM Int32) (l0 : Nat) (l1 : Int32) (l2 : Int32) : osM Int32 := osbind (osgI [0] 0 l0) fun x1 => osite (x1 ≤ l2) (qX0_findArea_34 N ) (osite ((16 : Int32) ≤ l2) (qX0_findArea_34 N ) (osbind (osgR [0] 5 l0) fun x2 => osbind (osaI 0 x2 l2) fun x3 => osite (x3 = l1) (osret l2) (c2 (l0, l1, (l2 + (1 : Int32))))))
def qX0_findArea_2 (N : Nat) : Nat × Int32 × Int32 → osM Int32 := osloop (fun ih p => bX0_findArea_2 N ih p.1 p.2.1 p.2.2) N
def qX0_findArea (N : Nat) (l0 : Nat) (l1 : Int32) : osM Int32 := qX0_findArea_2 N (l0, l1, (0 : Int32))
set_option maxRecDepth 100000 in
set_option maxHeartbeats 4000000 in
theorem sX0_findArea_34 (N : Nat) : osW (osFinM (fun r : Int32 => some (.int r)) 0 0) yX0_findArea cX0_findArea 3 (some .int) [] { frames := 0, cells := 0, slots := 0, locals := 0 } 0 0 34 [] [] (qX0_findArea_34 N) := by
  unfold qX0_findArea_34
  refine os_iconst (i := (-1)) (v := (-1 : Int32)) rfl (hX0_findArea.at 19 rfl rfl) ?_
  exact os_iret (Nat.le_of_ble_eq_true rfl) (Nat.le_of_ble_eq_true rfl) (hX0_findArea.at 20 rfl rfl).1
set_option maxRecDepth 100000 in
set_option maxHeartbeats 4000000 in
theorem tX0_findArea_2 (N : Nat) (c2 : Nat × Int32 × Int32 → osM Int32) (g2 : ∀ (l0 : Nat) (l1 : Int32) (l2 : Int32), osW (osFinM (fun r : Int32 => some (.int r)) 0 0) yX0_findArea cX0_findArea 3 (some .int) [] { frames := 0, cells := 0, slots := 0, locals := 0 } 0 0 2 [(0, .ref l0), (1, .int l1), (2, .int l2)] [] (c2 (l0, l1, l2))) (l0 : Nat) (l1 : Int32) (l2 : Int32) : osW (osFinM (fun r : Int32 => some (.int r)) 0 0) yX0_findArea cX0_findArea 3 (some .int) [] { frames := 0, cells := 0, slots := 0, locals := 0 } 0 0 2 [(0, .ref l0), (1, .int l1), (2, .int l2)] [] (bX0_findArea_2 N c2 l0 l1 l2) := by
  unfold bX0_findArea_2
  refine os_iload_n (i := 2) (q := 2) (v := l2) 2 rfl rfl (hX0_findArea.at 2 rfl rfl) ?_
  refine os_aload_n (i := 0) (q := 0) (v := l0) 0 rfl rfl (hX0_findArea.at 3 rfl rfl) ?_
  refine os_getI fX0_9 (hX0_findArea.at 4 rfl rfl) (fun x1 => ?_)
  refine os_icmp_ge (off := 27) (tgt := 34) rfl (hX0_findArea.at 5 rfl rfl) ?_ ?_
  · exact osW.sub [] rfl (sX0_findArea_34 N )
  · refine os_iload_n (i := 2) (q := 2) (v := l2) 2 rfl rfl (hX0_findArea.at 6 rfl rfl) ?_
    refine os_bipush (i := 16) (v := (16 : Int32)) rfl (hX0_findArea.at 7 rfl rfl) ?_
    refine os_icmp_ge (off := 21) (tgt := 34) rfl (hX0_findArea.at 8 rfl rfl) ?_ ?_
    · exact osW.sub [] rfl (sX0_findArea_34 N )
    · refine os_aload_n (i := 0) (q := 0) (v := l0) 0 rfl rfl (hX0_findArea.at 9 rfl rfl) ?_
      refine os_getR fX0_27 (hX0_findArea.at 10 rfl rfl) (fun x2 => ?_)
      refine os_iload_n (i := 2) (q := 2) (v := l2) 2 rfl rfl (hX0_findArea.at 11 rfl rfl) ?_
      refine os_iaload (hX0_findArea.at 12 rfl rfl) (fun x3 => ?_)
      refine os_iload_n (i := 1) (q := 1) (v := l1) 1 rfl rfl (hX0_findArea.at 13 rfl rfl) ?_
      refine os_icmp_ne (off := 5) (tgt := 28) rfl (hX0_findArea.at 14 rfl rfl) ?_ ?_
      · refine os_iinc (i := 2) (d := 1) (x := l2) (v := (1 : Int32)) (lv' := [(2, .int (l2 + (1 : Int32))), (0, .ref l0), (1, .int l1)]) 2 rfl rfl (Nat.le_of_ble_eq_true rfl) rfl (hX0_findArea.at 17 rfl rfl) ?_
        refine os_goto (off := (-29)) (tgt := 2) rfl (hX0_findArea.at 18 rfl rfl) ?_
        exact osW.sub [1, 2, 0] rfl (g2 l0 l1 (l2 + (1 : Int32)))
      · refine os_iload_n (i := 2) (q := 2) (v := l2) 2 rfl rfl (hX0_findArea.at 15 rfl rfl) ?_
        exact os_iret (Nat.le_of_ble_eq_true rfl) (Nat.le_of_ble_eq_true rfl) (hX0_findArea.at 16 rfl rfl).1
set_option maxRecDepth 100000 in
set_option maxHeartbeats 4000000 in
theorem sX0_findArea_2 (N : Nat) (l0 : Nat) (l1 : Int32) (l2 : Int32) : osW (osFinM (fun r : Int32 => some (.int r)) 0 0) yX0_findArea cX0_findArea 3 (some .int) [] { frames := 0, cells := 0, slots := 0, locals := 0 } 0 0 2 [(0, .ref l0), (1, .int l1), (2, .int l2)] [] (qX0_findArea_2 N (l0, l1, l2)) :=
  osloop_W (lvf := fun p => [(0, .ref p.1), (1, .int p.2.1), (2, .int p.2.2)]) (stf := fun p => []) (fun ih g p => tX0_findArea_2 N ih (fun l0 l1 l2 => g (l0, l1, l2)) p.1 p.2.1 p.2.2) N (l0, l1, l2)
set_option maxRecDepth 100000 in
set_option maxHeartbeats 4000000 in
theorem sX0_findArea (N : Nat) (l0 : Nat) (l1 : Int32) : osMet yX0_findArea cX0_findArea 3 (some .int) 0 0 0 0 (fun r : Int32 => some (.int r)) [.ref l0, .int l1] (qX0_findArea N l0 l1) := by
  refine osMet.of plX0 (Nat.le_of_ble_eq_true rfl) (osW.rw (lv2 := [(0, .ref l0), (1, .int l1)]) ?_ rfl rfl rfl)
  unfold qX0_findArea
  refine os_iconst (i := 0) (v := (0 : Int32)) rfl (hX0_findArea.at 0 rfl rfl) ?_
  refine os_istore_n (i := 2) (q := 2) rfl (lv' := [(2, .int (0 : Int32)), (0, .ref l0), (1, .int l1)]) (Nat.le_of_ble_eq_true rfl) rfl (hX0_findArea.at 1 rfl rfl) ?_
  exact osW.sub [1, 2, 0] rfl (sX0_findArea_2 N l0 l1 (0 : Int32))
-- X0_findPower
def KX0_findPower : List (Nat × Nat × Instr) := [(0, 1, .iconst 0), (1, 1, .istore_n 2), (2, 1, .iload_n 2), (3, 1, .aload_n 0), (4, 3, .getfield 15), (7, 3, .if_icmp .ge 26), (10, 1, .iload_n 2), (11, 1, .iconst 4), (12, 3, .if_icmp .ge 21), (15, 1, .aload_n 0), (16, 3, .getfield 40), (19, 1, .iload_n 2), (20, 1, .iaload), (21, 1, .iload_n 1), (22, 3, .if_icmp .ne 5), (25, 1, .iload_n 2), (26, 1, .ireturn), (27, 3, .iinc 2 1), (30, 3, .goto (-28)), (33, 1, .iconst (-1)), (34, 1, .ireturn)]
theorem hX0_findPower : osDs cX0_findPower KX0_findPower := by
  show ∀ q ∈ KX0_findPower, decode cX0_findPower q.1 = .ok (q.2.2, q.2.1)
  decide +kernel
def qX0_findPower_33 (N : Nat) : osM Int32 := osret (-1 : Int32)
def bX0_findPower_2 (N : Nat) (c2 : Nat × Int32 × Int32 → osM Int32) (l0 : Nat) (l1 : Int32) (l2 : Int32) : osM Int32 := osbind (osgI [0] 1 l0) fun x1 => osite (x1 ≤ l2) (qX0_findPower_33 N ) (osite ((4 : Int32) ≤ l2) (qX0_findPower_33 N ) (osbind (osgR [0] 9 l0) fun x2 => osbind (osaI 0 x2 l2) fun x3 => osite (x3 = l1) (osret l2) (c2 (l0, l1, (l2 + (1 : Int32))))))
def qX0_findPower_2 (N : Nat) : Nat × Int32 × Int32 → osM Int32 := osloop (fun ih p => bX0_findPower_2 N ih p.1 p.2.1 p.2.2) N
def qX0_findPower (N : Nat) (l0 : Nat) (l1 : Int32) : osM Int32 := qX0_findPower_2 N (l0, l1, (0 : Int32))
set_option maxRecDepth 100000 in
set_option maxHeartbeats 4000000 in
theorem sX0_findPower_33 (N : Nat) : osW (osFinM (fun r : Int32 => some (.int r)) 0 0) yX0_findPower cX0_findPower 3 (some .int) [] { frames := 0, cells := 0, slots := 0, locals := 0 } 0 0 33 [] [] (qX0_findPower_33 N) := by
  unfold qX0_findPower_33
  refine os_iconst (i := (-1)) (v := (-1 : Int32)) rfl (hX0_findPower.at 19 rfl rfl) ?_
  exact os_iret (Nat.le_of_ble_eq_true rfl) (Nat.le_of_ble_eq_true rfl) (hX0_findPower.at 20 rfl rfl).1
set_option maxRecDepth 100000 in
set_option maxHeartbeats 4000000 in
theorem tX0_findPower_2 (N : Nat) (c2 : Nat × Int32 × Int32 → osM Int32) (g2 : ∀ (l0 : Nat) (l1 : Int32) (l2 : Int32), osW (osFinM (fun r : Int32 => some (.int r)) 0 0) yX0_findPower cX0_findPower 3 (some .int) [] { frames := 0, cells := 0, slots := 0, locals := 0 } 0 0 2 [(0, .ref l0), (1, .int l1), (2, .int l2)] [] (c2 (l0, l1, l2))) (l0 : Nat) (l1 : Int32) (l2 : Int32) : osW (osFinM (fun r : Int32 => some (.int r)) 0 0) yX0_findPower cX0_findPower 3 (some .int) [] { frames := 0, cells := 0, slots := 0, locals := 0 } 0 0 2 [(0, .ref l0), (1, .int l1), (2, .int l2)] [] (bX0_findPower_2 N c2 l0 l1 l2) := by
  unfold bX0_findPower_2
  refine os_iload_n (i := 2) (q := 2) (v := l2) 2 rfl rfl (hX0_findPower.at 2 rfl rfl) ?_
  refine os_aload_n (i := 0) (q := 0) (v := l0) 0 rfl rfl (hX0_findPower.at 3 rfl rfl) ?_
  refine os_getI fX0_15 (hX0_findPower.at 4 rfl rfl) (fun x1 => ?_)
  refine os_icmp_ge (off := 26) (tgt := 33) rfl (hX0_findPower.at 5 rfl rfl) ?_ ?_
  · exact osW.sub [] rfl (sX0_findPower_33 N )
  · refine os_iload_n (i := 2) (q := 2) (v := l2) 2 rfl rfl (hX0_findPower.at 6 rfl rfl) ?_
    refine os_iconst (i := 4) (v := (4 : Int32)) rfl (hX0_findPower.at 7 rfl rfl) ?_
    refine os_icmp_ge (off := 21) (tgt := 33) rfl (hX0_findPower.at 8 rfl rfl) ?_ ?_
    · exact osW.sub [] rfl (sX0_findPower_33 N )
    · refine os_aload_n (i := 0) (q := 0) (v := l0) 0 rfl rfl (hX0_findPower.at 9 rfl rfl) ?_
      refine os_getR fX0_40 (hX0_findPower.at 10 rfl rfl) (fun x2 => ?_)
      refine os_iload_n (i := 2) (q := 2) (v := l2) 2 rfl rfl (hX0_findPower.at 11 rfl rfl) ?_
      refine os_iaload (hX0_findPower.at 12 rfl rfl) (fun x3 => ?_)
      refine os_iload_n (i := 1) (q := 1) (v := l1) 1 rfl rfl (hX0_findPower.at 13 rfl rfl) ?_
      refine os_icmp_ne (off := 5) (tgt := 27) rfl (hX0_findPower.at 14 rfl rfl) ?_ ?_
      · refine os_iinc (i := 2) (d := 1) (x := l2) (v := (1 : Int32)) (lv' := [(2, .int (l2 + (1 : Int32))), (0, .ref l0), (1, .int l1)]) 2 rfl rfl (Nat.le_of_ble_eq_true rfl) rfl (hX0_findPower.at 17 rfl rfl) ?_
        refine os_goto (off := (-28)) (tgt := 2) rfl (hX0_findPower.at 18 rfl rfl) ?_
        exact osW.sub [1, 2, 0] rfl (g2 l0 l1 (l2 + (1 : Int32)))
      · refine os_iload_n (i := 2) (q := 2) (v := l2) 2 rfl rfl (hX0_findPower.at 15 rfl rfl) ?_
        exact os_iret (Nat.le_of_ble_eq_true rfl) (Nat.le_of_ble_eq_true rfl) (hX0_findPower.at 16 rfl rfl).1
set_option maxRecDepth 100000 in
set_option maxHeartbeats 4000000 in
theorem sX0_findPower_2 (N : Nat) (l0 : Nat) (l1 : Int32) (l2 : Int32) : osW (osFinM (fun r : Int32 => some (.int r)) 0 0) yX0_findPower cX0_findPower 3 (some .int) [] { frames := 0, cells := 0, slots := 0, locals := 0 } 0 0 2 [(0, .ref l0), (1, .int l1), (2, .int l2)] [] (qX0_findPower_2 N (l0, l1, l2)) :=
  osloop_W (lvf := fun p => [(0, .ref p.1), (1, .int p.2.1), (2, .int p.2.2)]) (stf := fun p => []) (fun ih g p => tX0_findPower_2 N ih (fun l0 l1 l2 => g (l0, l1, l2)) p.1 p.2.1 p.2.2) N (l0, l1, l2)
set_option maxRecDepth 100000 in
set_option maxHeartbeats 4000000 in
theorem sX0_findPower (N : Nat) (l0 : Nat) (l1 : Int32) : osMet yX0_findPower cX0_findPower 3 (some .int) 0 0 0 0 (fun r : Int32 => some (.int r)) [.ref l0, .int l1] (qX0_findPower N l0 l1) := by
  refine osMet.of plX0 (Nat.le_of_ble_eq_true rfl) (osW.rw (lv2 := [(0, .ref l0), (1, .int l1)]) ?_ rfl rfl rfl)
  unfold qX0_findPower
  refine os_iconst (i := 0) (v := (0 : Int32)) rfl (hX0_findPower.at 0 rfl rfl) ?_
  refine os_istore_n (i := 2) (q := 2) rfl (lv' := [(2, .int (0 : Int32)), (0, .ref l0), (1, .int l1)]) (Nat.le_of_ble_eq_true rfl) rfl (hX0_findPower.at 1 rfl rfl) ?_
  exact osW.sub [1, 2, 0] rfl (sX0_findPower_2 N l0 l1 (0 : Int32))
-- X0_addPower
def KX0_addPower : List (Nat × Nat × Instr) := [(0, 1, .aload_n 0), (1, 3, .getfield 15), (4, 1, .istore_n 2), (5, 1, .iload_n 2), (6, 3, .ifCond .lt 8), (9, 1, .iload_n 2), (10, 1, .iconst 4), (11, 3, .if_icmp .lt 5), (14, 1, .iconst (-1)), (15, 1, .ireturn), (16, 1, .aload_n 0), (17, 3, .getfield 40), (20, 1, .iload_n 2), (21, 1, .iload_n 1), (22, 1, .iastore), (23, 1, .aload_n 0), (24, 1, .dup), (25, 3, .getfield 15), (28, 1, .iconst 1), (29, 1, .iadd), (30, 3, .putfield 15), (33, 1, .iload_n 2), (34, 1, .ireturn)]
theorem hX0_addPower : osDs cX0_addPower KX0_addPower := by
  show ∀ q ∈ KX0_addPower, decode cX0_addPower q.1 = .ok (q.2.2, q.2.1)
  decide +kernel
def qX0_addPower_14 (N : Nat) : osM Int32 := osret (-1 : Int32)
def qX0_addPower (N : Nat) (l0 : Nat) (l1 : Int32) : osM Int32 := osbind (osgI [0] 1 l0) fun x1 => osite (x1 < 0) (qX0_addPower_14 N ) (osite (x1 < (4 : Int32)) (osbind (osgR [0] 9 l0) fun x2 => osbind (ossI 0 x2 x1 l1) fun _ => osbind (osgI [0] 1 l0) fun x3 => osbind (osput [0] 1 l0 (.int (x3 + (1 : Int32)))) fun _ => osret x1) (qX0_addPower_14 N ))
set_option maxRecDepth 100000 in
set_option maxHeartbeats 4000000 in
theorem sX0_addPower_14 (N : Nat) : osW (osFinM (fun r : Int32 => some (.int r)) 0 0) yX0_addPower cX0_addPower 3 (some .int) [] { frames := 0, cells := 0, slots := 0, locals := 0 } 0 0 14 [] [] (qX0_addPower_14 N) := by
  unfold qX0_addPower_14
  refine os_iconst (i := (-1)) (v := (-1 : Int32)) rfl (hX0_addPower.at 8 rfl rfl) ?_
  exact os_iret (Nat.le_of_ble_eq_true rfl) (Nat.le_of_ble_eq_true rfl) (hX0_addPower.at 9 rfl rfl).1
set_option maxRecDepth 100000 in
set_option maxHeartbeats 4000000 in
theorem sX0_addPower (N : Nat) (l0 : Nat) (l1 : Int32) : osMet yX0_addPower cX0_addPower 3 (some .int) 0 0 0 0 (fun r : Int32 => some (.int r)) [.ref l0, .int l1] (qX0_addPower N l0 l1) := by
  refine osMet.of plX0 (Nat.le_of_ble_eq_true rfl) (osW.rw (lv2 := [(0, .ref l0), (1, .int l1)]) ?_ rfl rfl rfl)
  unfold qX0_addPower
  refine os_aload_n (i := 0) (q := 0) (v := l0) 0 rfl rfl (hX0_addPower.at 0 rfl rfl) ?_
  refine os_getI fX0_15 (hX0_addPower.at 1 rfl rfl) (fun x1 => ?_)
  refine os_istore_n (i := 2) (q := 2) rfl (lv' := [(2, .int x1), (0, .ref l0), (1, .int l1)]) (Nat.le_of_ble_eq_true rfl) rfl (hX0_addPower.at 2 rfl rfl) ?_
  refine os_iload_n (i := 2) (q := 2) (v := x1) 0 rfl rfl (hX0_addPower.at 3 rfl rfl) ?_
  refine os_if_lt (off := 8) (tgt := 14) rfl (hX0_addPower.at 4 rfl rfl) ?_ ?_
  · exact osW.sub [] rfl (sX0_addPower_14 N )
  · refine os_iload_n (i := 2) (q := 2) (v := x1) 0 rfl rfl (hX0_addPower.at 5 rfl rfl) ?_
    refine os_iconst (i := 4) (v := (4 : Int32)) rfl (hX0_addPower.at 6 rfl rfl) ?_
    refine os_icmp_lt (off := 5) (tgt := 16) rfl (hX0_addPower.at 7 rfl rfl) ?_ ?_
    · refine os_aload_n (i := 0) (q := 0) (v := l0) 1 rfl rfl (hX0_addPower.at 10 rfl rfl) ?_
      refine os_getR fX0_40 (hX0_addPower.at 11 rfl rfl) (fun x2 => ?_)
      refine os_iload_n (i := 2) (q := 2) (v := x1) 0 rfl rfl (hX0_addPower.at 12 rfl rfl) ?_
      refine os_iload_n (i := 1) (q := 1) (v := l1) 2 rfl rfl (hX0_addPower.at 13 rfl rfl) ?_
      refine os_iastore (hX0_addPower.at 14 rfl rfl) ?_
      refine os_aload_n (i := 0) (q := 0) (v := l0) 1 rfl rfl (hX0_addPower.at 15 rfl rfl) ?_
      refine os_dup rfl (hX0_addPower.at 16 rfl rfl) ?_
      refine os_getI fX0_15 (hX0_addPower.at 17 rfl rfl) (fun x3 => ?_)
      refine os_iconst (i := 1) (v := (1 : Int32)) rfl (hX0_addPower.at 18 rfl rfl) ?_
      refine os_iadd (hX0_addPower.at 19 rfl rfl) ?_
      refine os_put fX0_15 rfl rfl (hX0_addPower.at 20 rfl rfl) ?_
      refine os_iload_n (i := 2) (q := 2) (v := x1) 0 rfl rfl (hX0_addPower.at 21 rfl rfl) ?_
      exact os_iret (Nat.le_of_ble_eq_true rfl) (Nat.le_of_ble_eq_true rfl) (hX0_addPower.at 22 rfl rfl).1
    · exact osW.sub [] rfl (sX0_addPower_14 N )
-- X0_makeHome
def KX0_makeHome : List (Nat × Nat × Instr) := [(0, 1, .aload_n 0), (1, 1, .iload_n 1), (2, 3, .invokevirtual 54), (5, 3, .ifCond .eq 10), (8, 1, .aload_n 0), (9, 3, .getfield 31), (12, 1, .iload_n 1), (13, 1, .iload_n 2), (14, 1, .iastore), (15, 1, .return_)]
theorem hX0_makeHome : osDs cX0_makeHome KX0_makeHome := by
  show ∀ q ∈ KX0_makeHome, decode cX0_makeHome q.1 = .ok (q.2.2, q.2.1)
  decide +kernel
def qX0_makeHome_15 (N : Nat) : osM Unit := osret ()
def qX0_makeHome (N : Nat) (l0 : Nat) (l1 : Int32) (l2 : Int32) : osM Unit := osbind (osrecv [0] l0 (qX0_isArea N l0 l1)) fun x1 => osite (x1 = 0) (qX0_makeHome_15 N ) (osbind (osgR [0] 6 l0) fun x2 => osbind (ossI 0 x2 l1 l2) fun _ => qX0_makeHome_15 N )
set_option maxRecDepth 100000 in
set_option maxHeartbeats 4000000 in
theorem sX0_makeHome_15 (N : Nat) : osW (osFinM (fun _ : Unit => none) 0 0) yX0_makeHome cX0_makeHome 3 none [] { frames := 1, cells := 0, slots := 0, locals := 21 } 0 0 15 [] [] (qX0_makeHome_15 N) := by
  unfold qX0_makeHome_15
  exact os_vret (Nat.le_of_ble_eq_true rfl) (Nat.le_of_ble_eq_true rfl) (hX0_makeHome.at 9 rfl rfl).1
set_option maxRecDepth 100000 in
set_option maxHeartbeats 4000000 in
theorem sX0_makeHome (N : Nat) (l0 : Nat) (l1 : Int32) (l2 : Int32) : osMet yX0_makeHome cX0_makeHome 3 none 1 21 0 0 (fun _ : Unit => none) [.ref l0, .int l1, .int l2] (qX0_makeHome N l0 l1 l2) := by
  refine osMet.of plX0 (Nat.le_of_ble_eq_true rfl) (osW.rw (lv2 := [(0, .ref l0), (1, .int l1), (2, .int l2)]) ?_ rfl rfl rfl)
  unfold qX0_makeHome
  refine os_aload_n (i := 0) (q := 0) (v := l0) 0 rfl rfl (hX0_makeHome.at 0 rfl rfl) ?_
  refine os_iload_n (i := 1) (q := 1) (v := l1) 1 rfl rfl (hX0_makeHome.at 1 rfl rfl) ?_
  refine os_callV (cis := [0]) (b := l0) (As := [.int l1]) (st := []) (st' := (fun r => .int r :: [])) sl0_X0_isArea_X0_isArea mdX0_isArea wd755 wd756 (sX0_isArea N l0 l1) rfl rfl (fun _ => rfl) (Nat.le_of_ble_eq_true rfl) (Nat.le_of_ble_eq_true rfl) (Nat.le_of_ble_eq_true rfl) rfl (Nat.le_of_ble_eq_true rfl) rfl (Nat.le_of_ble_eq_true rfl) (hX0_makeHome.at 2 rfl rfl) (fun x1 => ?_)
  refine os_if_eq (off := 10) (tgt := 15) rfl (hX0_makeHome.at 3 rfl rfl) ?_ ?_
  · exact osW.sub [] rfl (sX0_makeHome_15 N )
  · refine os_aload_n (i := 0) (q := 0) (v := l0) 0 rfl rfl (hX0_makeHome.at 4 rfl rfl) ?_
    refine os_getR fX0_31 (hX0_makeHome.at 5 rfl rfl) (fun x2 => ?_)
    refine os_iload_n (i := 1) (q := 1) (v := l1) 1 rfl rfl (hX0_makeHome.at 6 rfl rfl) ?_
    refine os_iload_n (i := 2) (q := 2) (v := l2) 2 rfl rfl (hX0_makeHome.at 7 rfl rfl) ?_
    refine os_iastore (hX0_makeHome.at 8 rfl rfl) ?_
    exact osW.sub [] rfl (sX0_makeHome_15 N )
-- X0_bordersOf
def KX0_bordersOf : List (Nat × Nat × Instr) := [(0, 1, .iload_n 1), (1, 3, .ifCond .lt 9), (4, 1, .iload_n 1), (5, 2, .bipush 16), (7, 3, .if_icmp .lt 5), (10, 1, .iconst 0), (11, 1, .ireturn), (12, 1, .iload_n 2), (13, 1, .iconst 1), (14, 3, .if_icmp .ne 12), (17, 1, .aload_n 0), (18, 3, .getfield 37), (21, 1, .iload_n 1), (22, 1, .iaload), (23, 3, .goto 9), (26, 1, .aload_n 0), (27, 3, .getfield 34), (30, 1, .iload_n 1), (31, 1, .iaload), (32, 1, .ireturn)]
theorem hX0_bordersOf : osDs cX0_bordersOf KX0_bordersOf := by
  show ∀ q ∈ KX0_bordersOf, decode cX0_bordersOf q.1 = .ok (q.2.2, q.2.1)
  decide +kernel
def qX0_bordersOf_10 (N : Nat) : osM Int32 := osret (0 : Int32)
def qX0_bordersOf_32 (N : Nat) (k0 : Int32) : osM Int32 := osret k0
def qX0_bordersOf (N : Nat) (l0 : Nat) (l1 : Int32) (l2 : Int32) : osM Int32 := osite (l1 < 0) (qX0_bordersOf_10 N ) (osite (l1 < (16 : Int32)) (osite (l2 = (1 : Int32)) (osbind (osgR [0] 8 l0) fun x3 => osbind (osaI 0 x3 l1) fun x4 => qX0_bordersOf_32 N x4) (osbind (osgR [0] 7 l0) fun x1 => osbind (osaI 0 x1 l1) fun x2 => qX0_bordersOf_32 N x2)) (qX0_bordersOf_10 N ))
set_option maxRecDepth 100000 in
set_option maxHeartbeats 4000000 in
theorem sX0_bordersOf_10 (N : Nat) : osW (osFinM (fun r : Int32 => some (.int r)) 0 0) yX0_bordersOf cX0_bordersOf 3 (some .int) [] { frames := 0, cells := 0, slots := 0, locals := 0 } 0 0 10 [] [] (qX0_bordersOf_10 N) := by
  unfold qX0_bordersOf_10
  refine os_iconst (i := 0) (v := (0 : Int32)) rfl (hX0_bordersOf.at 5 rfl rfl) ?_
  exact os_iret (Nat.le_of_ble_eq_true rfl) (Nat.le_of_ble_eq_true rfl) (hX0_bordersOf.at 6 rfl rfl).1
set_option maxRecDepth 100000 in
set_option maxHeartbeats 4000000 in
theorem sX0_bordersOf_32 (N : Nat) (k0 : Int32) : osW (osFinM (fun r : Int32 => some (.int r)) 0 0) yX0_bordersOf cX0_bordersOf 3 (some .int) [] { frames := 0, cells := 0, slots := 0, locals := 0 } 0 0 32 [] [.int k0] (qX0_bordersOf_32 N k0) := by
  unfold qX0_bordersOf_32
  exact os_iret (Nat.le_of_ble_eq_true rfl) (Nat.le_of_ble_eq_true rfl) (hX0_bordersOf.at 19 rfl rfl).1
set_option maxRecDepth 100000 in
set_option maxHeartbeats 4000000 in
theorem sX0_bordersOf (N : Nat) (l0 : Nat) (l1 : Int32) (l2 : Int32) : osMet yX0_bordersOf cX0_bordersOf 3 (some .int) 0 0 0 0 (fun r : Int32 => some (.int r)) [.ref l0, .int l1, .int l2] (qX0_bordersOf N l0 l1 l2) := by
  refine osMet.of plX0 (Nat.le_of_ble_eq_true rfl) (osW.rw (lv2 := [(0, .ref l0), (1, .int l1), (2, .int l2)]) ?_ rfl rfl rfl)
  unfold qX0_bordersOf
  refine os_iload_n (i := 1) (q := 1) (v := l1) 1 rfl rfl (hX0_bordersOf.at 0 rfl rfl) ?_
  refine os_if_lt (off := 9) (tgt := 10) rfl (hX0_bordersOf.at 1 rfl rfl) ?_ ?_
  · exact osW.sub [] rfl (sX0_bordersOf_10 N )
  · refine os_iload_n (i := 1) (q := 1) (v := l1) 1 rfl rfl (hX0_bordersOf.at 2 rfl rfl) ?_
    refine os_bipush (i := 16) (v := (16 : Int32)) rfl (hX0_bordersOf.at 3 rfl rfl) ?_
    refine os_icmp_lt (off := 5) (tgt := 12) rfl (hX0_bordersOf.at 4 rfl rfl) ?_ ?_
    · refine os_iload_n (i := 2) (q := 2) (v := l2) 2 rfl rfl (hX0_bordersOf.at 7 rfl rfl) ?_
      refine os_iconst (i := 1) (v := (1 : Int32)) rfl (hX0_bordersOf.at 8 rfl rfl) ?_
      refine os_icmp_ne (off := 12) (tgt := 26) rfl (hX0_bordersOf.at 9 rfl rfl) ?_ ?_
      · refine os_aload_n (i := 0) (q := 0) (v := l0) 0 rfl rfl (hX0_bordersOf.at 15 rfl rfl) ?_
        refine os_getR fX0_34 (hX0_bordersOf.at 16 rfl rfl) (fun x1 => ?_)
        refine os_iload_n (i := 1) (q := 1) (v := l1) 1 rfl rfl (hX0_bordersOf.at 17 rfl rfl) ?_
        refine os_iaload (hX0_bordersOf.at 18 rfl rfl) (fun x2 => ?_)
        exact osW.sub [] rfl (sX0_bordersOf_32 N x2)
      · refine os_aload_n (i := 0) (q := 0) (v := l0) 0 rfl rfl (hX0_bordersOf.at 10 rfl rfl) ?_
        refine os_getR fX0_37 (hX0_bordersOf.at 11 rfl rfl) (fun x3 => ?_)
        refine os_iload_n (i := 1) (q := 1) (v := l1) 1 rfl rfl (hX0_bordersOf.at 12 rfl rfl) ?_
        refine os_iaload (hX0_bordersOf.at 13 rfl rfl) (fun x4 => ?_)
        refine os_goto (off := 9) (tgt := 32) rfl (hX0_bordersOf.at 14 rfl rfl) ?_
        exact osW.sub [] rfl (sX0_bordersOf_32 N x4)
    · exact osW.sub [] rfl (sX0_bordersOf_10 N )
-- X0_letsPass
def KX0_letsPass : List (Nat × Nat × Instr) := [(0, 1, .iload_n 1), (1, 3, .ifCond .lt 19), (4, 1, .iload_n 1), (5, 2, .bipush 16), (7, 3, .if_icmp .ge 13), (10, 1, .iload_n 2), (11, 3, .ifCond .lt 9), (14, 1, .iload_n 2), (15, 2, .bipush 16), (17, 3, .if_icmp .lt 5), (20, 1, .iconst 0), (21, 1, .ireturn), (22, 1, .iload_n 3), (23, 1, .iconst 1), (24, 3, .if_icmp .ne 12), (27, 1, .aload_n 0), (28, 3, .getfield 37), (31, 1, .iload_n 1), (32, 1, .iaload), (33, 3, .goto 9), (36, 1, .aload_n 0), (37, 3, .getfield 34), (40, 1, .iload_n 1), (41, 1, .iaload), (42, 2, .istore 4), (44, 2, .iload 4), (46, 1, .iconst 1), (47, 1, .iload_n 2), (48, 1, .ishl), (49, 1, .iand), (50, 3, .ifCond .eq 7), (53, 1, .iconst 1), (54, 3, .goto 4), (57, 1, .iconst 0), (58, 1, .ireturn)]
theorem hX0_letsPass : osDs cX0_letsPass KX0_letsPass := by
  show ∀ q ∈ KX0_letsPass, decode cX0_letsPass q.1 = .ok (q.2.2, q.2.1)
  decide +kernel
def qX0_letsPass_20 (N : Nat) : osM Int32 := osretZ (0 : Int32)
def qX0_letsPass_58 (N : Nat) (k0 : Int32) : osM Int32 := osretZ k0
def qX0_letsPass_42 (N : Nat) (l2 : Int32) (k0 : Int32) : osM Int32 := osite ((k0 &&& (osshl (1 : Int32) l2)) = 0) (qX0_letsPass_58 N (0 : Int32)) (qX0_letsPass_58 N (1 : Int32))
def qX0_letsPass (N : Nat) (l0 : Nat) (l1 : Int32) (l2 : Int32) (l3 : Int32) : osM Int32 := osite (l1 < 0) (qX0_letsPass_20 N ) (osite ((16 : Int32) ≤ l1) (qX0_letsPass_20 N ) (osite (l2 < 0) (qX0_letsPass_20 N ) (osite (l2 < (16 : Int32)) (osite (l3 = (1 : Int32)) (osbind (osgR [0] 8 l0) fun x3 => osbind (osaI 0 x3 l1) fun x4 => qX0_letsPass_42 N l2 x4) (osbind (osgR [0] 7 l0) fun x1 => osbind (osaI 0 x1 l1) fun x2 => qX0_letsPass_42 N l2 x2)) (qX0_letsPass_20 N ))))
set_option maxRecDepth 100000 in
set_option maxHeartbeats 4000000 in
theorem sX0_letsPass_20 (N : Nat) : osW (osFinM (fun r : Int32 => some (.int r)) 0 0) yX0_letsPass cX0_letsPass 5 (some .boolean) [] { frames := 0, cells := 0, slots := 0, locals := 0 } 0 0 20 [] [] (qX0_letsPass_20 N) := by
  unfold qX0_letsPass_20
  refine os_iconst (i := 0) (v := (0 : Int32)) rfl (hX0_letsPass.at 10 rfl rfl) ?_
  exact os_zret (Nat.le_of_ble_eq_true rfl) (Nat.le_of_ble_eq_true rfl) (hX0_letsPass.at 11 rfl rfl).1
set_option maxRecDepth 100000 in
set_option maxHeartbeats 4000000 in
theorem sX0_letsPass_58 (N : Nat) (k0 : Int32) : osW (osFinM (fun r : Int32 => some (.int r)) 0 0) yX0_letsPass cX0_letsPass 5 (some .boolean) [] { frames := 0, cells := 0, slots := 0, locals := 0 } 0 0 58 [] [.int k0] (qX0_letsPass_58 N k0) := by
  unfold qX0_letsPass_58
  exact os_zret (Nat.le_of_ble_eq_true rfl) (Nat.le_of_ble_eq_true rfl) (hX0_letsPass.at 34 rfl rfl).1
set_option maxRecDepth 100000 in
set_option maxHeartbeats 4000000 in
theorem sX0_letsPass_42 (N : Nat) (l2 : Int32) (k0 : Int32) : osW (osFinM (fun r : Int32 => some (.int r)) 0 0) yX0_letsPass cX0_letsPass 5 (some .boolean) [] { frames := 0, cells := 0, slots := 0, locals := 0 } 0 0 42 [(2, .int l2)] [.int k0] (qX0_letsPass_42 N l2 k0) := by
  unfold qX0_letsPass_42
  refine os_istore (i := 4) (lv' := [(4, .int k0), (2, .int l2)]) (Nat.le_of_ble_eq_true rfl) rfl (hX0_letsPass.at 24 rfl rfl) ?_
  refine os_iload (v := k0) 0 rfl (hX0_letsPass.at 25 rfl rfl) ?_
  refine os_iconst (i := 1) (v := (1 : Int32)) rfl (hX0_letsPass.at 26 rfl rfl) ?_
  refine os_iload_n (i := 2) (q := 2) (v := l2) 1 rfl rfl (hX0_letsPass.at 27 rfl rfl) ?_
  refine os_ishl (hX0_letsPass.at 28 rfl rfl) ?_
  refine os_iand (hX0_letsPass.at 29 rfl rfl) ?_
  refine os_if_eq (off := 7) (tgt := 57) rfl (hX0_letsPass.at 30 rfl rfl) ?_ ?_
  · refine os_iconst (i := 0) (v := (0 : Int32)) rfl (hX0_letsPass.at 33 rfl rfl) ?_
    exact osW.sub [] rfl (sX0_letsPass_58 N (0 : Int32))
  · refine os_iconst (i := 1) (v := (1 : Int32)) rfl (hX0_letsPass.at 31 rfl rfl) ?_
    refine os_goto (off := 4) (tgt := 58) rfl (hX0_letsPass.at 32 rfl rfl) ?_
    exact osW.sub [] rfl (sX0_letsPass_58 N (1 : Int32))
set_option maxRecDepth 100000 in
set_option maxHeartbeats 4000000 in
theorem sX0_letsPass (N : Nat) (l0 : Nat) (l1 : Int32) (l2 : Int32) (l3 : Int32) : osMet yX0_letsPass cX0_letsPass 5 (some .boolean) 0 0 0 0 (fun r : Int32 => some (.int r)) [.ref l0, .int l1, .int l2, .int l3] (qX0_letsPass N l0 l1 l2 l3) := by
  refine osMet.of plX0 (Nat.le_of_ble_eq_true rfl) (osW.rw (lv2 := [(0, .ref l0), (1, .int l1), (2, .int l2), (3, .int l3)]) ?_ rfl rfl rfl)
  unfold qX0_letsPass
  refine os_iload_n (i := 1) (q := 1) (v := l1) 1 rfl rfl (hX0_letsPass.at 0 rfl rfl) ?_
  refine os_if_lt (off := 19) (tgt := 20) rfl (hX0_letsPass.at 1 rfl rfl) ?_ ?_
  · exact osW.sub [] rfl (sX0_letsPass_20 N )
  · refine os_iload_n (i := 1) (q := 1) (v := l1) 1 rfl rfl (hX0_letsPass.at 2 rfl rfl) ?_
    refine os_bipush (i := 16) (v := (16 : Int32)) rfl (hX0_letsPass.at 3 rfl rfl) ?_
    refine os_icmp_ge (off := 13) (tgt := 20) rfl (hX0_letsPass.at 4 rfl rfl) ?_ ?_
    · exact osW.sub [] rfl (sX0_letsPass_20 N )
    · refine os_iload_n (i := 2) (q := 2) (v := l2) 2 rfl rfl (hX0_letsPass.at 5 rfl rfl) ?_
      refine os_if_lt (off := 9) (tgt := 20) rfl (hX0_letsPass.at 6 rfl rfl) ?_ ?_
      · exact osW.sub [] rfl (sX0_letsPass_20 N )
      · refine os_iload_n (i := 2) (q := 2) (v := l2) 2 rfl rfl (hX0_letsPass.at 7 rfl rfl) ?_
        refine os_bipush (i := 16) (v := (16 : Int32)) rfl (hX0_letsPass.at 8 rfl rfl) ?_
        refine os_icmp_lt (off := 5) (tgt := 22) rfl (hX0_letsPass.at 9 rfl rfl) ?_ ?_
        · refine os_iload_n (i := 3) (q := 3) (v := l3) 3 rfl rfl (hX0_letsPass.at 12 rfl rfl) ?_
          refine os_iconst (i := 1) (v := (1 : Int32)) rfl (hX0_letsPass.at 13 rfl rfl) ?_
          refine os_icmp_ne (off := 12) (tgt := 36) rfl (hX0_letsPass.at 14 rfl rfl) ?_ ?_
          · refine os_aload_n (i := 0) (q := 0) (v := l0) 0 rfl rfl (hX0_letsPass.at 20 rfl rfl) ?_
            refine os_getR fX0_34 (hX0_letsPass.at 21 rfl rfl) (fun x1 => ?_)
            refine os_iload_n (i := 1) (q := 1) (v := l1) 1 rfl rfl (hX0_letsPass.at 22 rfl rfl) ?_
            refine os_iaload (hX0_letsPass.at 23 rfl rfl) (fun x2 => ?_)
            exact osW.sub [2] rfl (sX0_letsPass_42 N l2 x2)
          · refine os_aload_n (i := 0) (q := 0) (v := l0) 0 rfl rfl (hX0_letsPass.at 15 rfl rfl) ?_
            refine os_getR fX0_37 (hX0_letsPass.at 16 rfl rfl) (fun x3 => ?_)
            refine os_iload_n (i := 1) (q := 1) (v := l1) 1 rfl rfl (hX0_letsPass.at 17 rfl rfl) ?_
            refine os_iaload (hX0_letsPass.at 18 rfl rfl) (fun x4 => ?_)
            refine os_goto (off := 9) (tgt := 42) rfl (hX0_letsPass.at 19 rfl rfl) ?_
            exact osW.sub [2] rfl (sX0_letsPass_42 N l2 x4)
        · exact osW.sub [] rfl (sX0_letsPass_20 N )
-- X0_hasBorder
def KX0_hasBorder : List (Nat × Nat × Instr) := [(0, 1, .aload_n 0), (1, 1, .iload_n 1), (2, 1, .iload_n 2), (3, 1, .iconst 0), (4, 3, .invokevirtual 58), (7, 3, .ifCond .ne 13), (10, 1, .aload_n 0), (11, 1, .iload_n 1), (12, 1, .iload_n 2), (13, 1, .iconst 1), (14, 3, .invokevirtual 58), (17, 3, .ifCond .eq 7), (20, 1, .iconst 1), (21, 3, .goto 4), (24, 1, .iconst 0), (25, 1, .ireturn)]
theorem hX0_hasBorder : osDs cX0_hasBorder KX0_hasBorder := by
  show ∀ q ∈ KX0_hasBorder, decode cX0_hasBorder q.1 = .ok (q.2.2, q.2.1)
  decide +kernel
def qX0_hasBorder_25 (N : Nat) (k0 : Int32) : osM Int32 := osretZ k0
def qX0_hasBorder_20 (N : Nat) : osM Int32 := qX0_hasBorder_25 N (1 : Int32)
def qX0_hasBorder (N : Nat) (l0 : Nat) (l1 : Int32) (l2 : Int32) : osM Int32 := osbind (osrecv [0] l0 (qX0_letsPass N l0 l1 l2 (0 : Int32))) fun x1 => osite (x1 = 0) (osbind (osrecv [0] l0 (qX0_letsPass N l0 l1 l2 (1 : Int32))) fun x2 => osite (x2 = 0) (qX0_hasBorder_25 N (0 : Int32)) (qX0_hasBorder_20 N )) (qX0_hasBorder_20 N )
set_option maxRecDepth 100000 in
set_option maxHeartbeats 4000000 in
theorem sX0_hasBorder_25 (N : Nat) (k0 : Int32) : osW (osFinM (fun r : Int32 => some (.int r)) 0 0) yX0_hasBorder cX0_hasBorder 3 (some .boolean) [] { frames := 1, cells := 0, slots := 0, locals := 24 } 0 0 25 [] [.int k0] (qX0_hasBorder_25 N k0) := by
  unfold qX0_hasBorder_25
  exact os_zret (Nat.le_of_ble_eq_true rfl) (Nat.le_of_ble_eq_true rfl) (hX0_hasBorder.at 15 rfl rfl).1
set_option maxRecDepth 100000 in
set_option maxHeartbeats 4000000 in
theorem sX0_hasBorder_20 (N : Nat) : osW (osFinM (fun r : Int32 => some (.int r)) 0 0) yX0_hasBorder cX0_hasBorder 3 (some .boolean) [] { frames := 1, cells := 0, slots := 0, locals := 24 } 0 0 20 [] [] (qX0_hasBorder_20 N) := by
  unfold qX0_hasBorder_20
  refine os_iconst (i := 1) (v := (1 : Int32)) rfl (hX0_hasBorder.at 12 rfl rfl) ?_
  refine os_goto (off := 4) (tgt := 25) rfl (hX0_hasBorder.at 13 rfl rfl) ?_
  exact osW.sub [] rfl (sX0_hasBorder_25 N (1 : Int32))
set_option maxRecDepth 100000 in
set_option maxHeartbeats 4000000 in
theorem sX0_hasBorder (N : Nat) (l0 : Nat) (l1 : Int32) (l2 : Int32) : osMet yX0_hasBorder cX0_hasBorder 3 (some .boolean) 1 24 0 0 (fun r : Int32 => some (.int r)) [.ref l0, .int l1, .int l2] (qX0_hasBorder N l0 l1 l2) := by
  refine osMet.of plX0 (Nat.le_of_ble_eq_true rfl) (osW.rw (lv2 := [(0, .ref l0), (1, .int l1), (2, .int l2)]) ?_ rfl rfl rfl)
  unfold qX0_hasBorder
  refine os_aload_n (i := 0) (q := 0) (v := l0) 0 rfl rfl (hX0_hasBorder.at 0 rfl rfl) ?_
  refine os_iload_n (i := 1) (q := 1) (v := l1) 1 rfl rfl (hX0_hasBorder.at 1 rfl rfl) ?_
  refine os_iload_n (i := 2) (q := 2) (v := l2) 2 rfl rfl (hX0_hasBorder.at 2 rfl rfl) ?_
  refine os_iconst (i := 0) (v := (0 : Int32)) rfl (hX0_hasBorder.at 3 rfl rfl) ?_
  refine os_callV (cis := [0]) (b := l0) (As := [.int l1, .int l2, .int (0 : Int32)]) (st := []) (st' := (fun r => .int r :: [])) sl0_X0_letsPass_X0_letsPass mdX0_letsPass wd736 wd737 (sX0_letsPass N l0 l1 l2 (0 : Int32)) rfl rfl (fun _ => rfl) (Nat.le_of_ble_eq_true rfl) (Nat.le_of_ble_eq_true rfl) (Nat.le_of_ble_eq_true rfl) rfl (Nat.le_of_ble_eq_true rfl) rfl (Nat.le_of_ble_eq_true rfl) (hX0_hasBorder.at 4 rfl rfl) (fun x1 => ?_)
  refine os_if_ne (off := 13) (tgt := 20) rfl (hX0_hasBorder.at 5 rfl rfl) ?_ ?_
  · exact osW.sub [] rfl (sX0_hasBorder_20 N )
  · refine os_aload_n (i := 0) (q := 0) (v := l0) 0 rfl rfl (hX0_hasBorder.at 6 rfl rfl) ?_
    refine os_iload_n (i := 1) (q := 1) (v := l1) 1 rfl rfl (hX0_hasBorder.at 7 rfl rfl) ?_
    refine os_iload_n (i := 2) (q := 2) (v := l2) 2 rfl rfl (hX0_hasBorder.at 8 rfl rfl) ?_
    refine os_iconst (i := 1) (v := (1 : Int32)) rfl (hX0_hasBorder.at 9 rfl rfl) ?_
    refine os_callV (cis := [0]) (b := l0) (As := [.int l1, .int l2, .int (1 : Int32)]) (st := []) (st' := (fun r => .int r :: [])) sl0_X0_letsPass_X0_letsPass mdX0_letsPass wd736 wd737 (sX0_letsPass N l0 l1 l2 (1 : Int32)) rfl rfl (fun _ => rfl) (Nat.le_of_ble_eq_true rfl) (Nat.le_of_ble_eq_true rfl) (Nat.le_of_ble_eq_true rfl) rfl (Nat.le_of_ble_eq_true rfl) rfl (Nat.le_of_ble_eq_true rfl) (hX0_hasBorder.at 10 rfl rfl) (fun x2 => ?_)
    refine os_if_eq (off := 7) (tgt := 24) rfl (hX0_hasBorder.at 11 rfl rfl) ?_ ?_
    · refine os_iconst (i := 0) (v := (0 : Int32)) rfl (hX0_hasBorder.at 14 rfl rfl) ?_
      exact osW.sub [] rfl (sX0_hasBorder_25 N (0 : Int32))
    · exact osW.sub [] rfl (sX0_hasBorder_20 N )
-- X0_countHomes
def KX0_countHomes : List (Nat × Nat × Instr) := [(0, 1, .iconst 0), (1, 1, .istore_n 2), (2, 1, .iconst 0), (3, 1, .istore_n 3), (4, 1, .iload_n 3), (5, 2, .bipush 16), (7, 3, .if_icmp .ge 22), (10, 1, .aload_n 0), (11, 3, .getfield 31), (14, 1, .iload_n 3), (15, 1, .iaload), (16, 1, .iload_n 1), (17, 3, .if_icmp .ne 6), (20, 3, .iinc 2 1), (23, 3, .iinc 3 1), (26, 3, .goto (-22)), (29, 1, .iload_n 2), (30, 1, .ireturn)]
theorem hX0_countHomes : osDs cX0_countHomes KX0_countHomes := by
  show ∀ q ∈ KX0_countHomes, decode cX0_countHomes q.1 = .ok (q.2.2, q.2.1)
  decide +kernel
def qX0_countHomes_23 (N : Nat) (c4 : Nat × Int32 × Int32 × Int32 → osM Int32) (l0 : Nat) (l1 : Int32) (l2 : Int32) (l3 : Int32) : osM Int32 := c4 (l0, l1, l2, (l3 + (1 : Int32)))
def bX0_countHomes_4 (N : Nat) (c4 : Nat × Int32 × Int32 × Int32 → osM Int32) (l0 : Nat) (l1 : Int32) (l2 : Int32) (l3 : Int32) : osM Int32 := osite ((16 : Int32) ≤ l3) (osret l2) (osbind (osgR [0] 6 l0) fun x1 => osbind (osaI 0 x1 l3) fun x2 => osite (x2 = l1) (qX0_countHomes_23 N c4 l0 l1 (l2 + (1 : Int32)) l3) (qX0_countHomes_23 N c4 l0 l1 l2 l3))
def qX0_countHomes_4 (N : Nat) : Nat × Int32 × Int32 × Int32 → osM Int32 := osloop (fun ih p => bX0_countHomes_4 N ih p.1 p.2.1 p.2.2.1 p.2.2.2) N
def qX0_countHomes (N : Nat) (l0 : Nat) (l1 : Int32) : osM Int32 := qX0_countHomes_4 N (l0, l1, (0 : Int32), (0 : Int32))
set_option maxRecDepth 100000 in
set_option maxHeartbeats 4000000 in
theorem sX0_countHomes_23 (N : Nat) (c4 : Nat × Int32 × Int32 × Int32 → osM Int32) (g4 : ∀ (l0 : Nat) (l1 : Int32) (l2 : Int32) (l3 : Int32), osW (osFinM (fun r : Int32 => some (.int r)) 0 0) yX0_countHomes cX0_countHomes 4 (some .int) [] { frames := 0, cells := 0, slots := 0, locals := 0 } 0 0 4 [(0, .ref l0), (1, .int l1), (2, .int l2), (3, .int l3)] [] (c4 (l0, l1, l2, l3))) (l0 : Nat) (l1 : Int32) (l2 : Int32) (l3 : Int32) : osW (osFinM (fun r : Int32 => some (.int r)) 0 0) yX0_countHomes cX0_countHomes 4 (some .int) [] { frames := 0, cells := 0, slots := 0, locals := 0 } 0 0 23 [(0, .ref l0), (1, .int l1), (2, .int l2), (3, .int l3)] [] (qX0_countHomes_23 N c4 l0 l1 l2 l3) := by
  unfold qX0_countHomes_23
  refine os_iinc (i := 3) (d := 1) (x := l3) (v := (1 : Int32)) (lv' := [(3, .int (l3 + (1 : Int32))), (0, .ref l0), (1, .int l1), (2, .int l2)]) 3 rfl rfl (Nat.le_of_ble_eq_true rfl) rfl (hX0_countHomes.at 14 rfl rfl) ?_
  refine os_goto (off := (-22)) (tgt := 4) rfl (hX0_countHomes.at 15 rfl rfl) ?_
  exact osW.sub [1, 2, 3, 0] rfl (g4 l0 l1 l2 (l3 + (1 : Int32)))
set_option maxRecDepth 100000 in
set_option maxHeartbeats 4000000 in
theorem tX0_countHomes_4 (N : Nat) (c4 : Nat × Int32 × Int32 × Int32 → osM Int32) (g4 : ∀ (l0 : Nat) (l1 : Int32) (l2 : Int32) (l3 : Int32), osW (osFinM (fun r : Int32 => some (.int r)) 0 0) yX0_countHomes cX0_countHomes 4 (some .int) [] { frames := 0, cells := 0, slots := 0, locals := 0 } 0 0 4 [(0, .ref l0), (1, .int l1), (2, .int l2), (3, .int l3)] [] (c4 (l0, l1, l2, l3))) (l0 : Nat) (l1 : Int32) (l2 : Int32) (l3 : Int32) : osW (osFinM (fun r : Int32 => some (.int r)) 0 0) yX0_countHomes cX0_countHomes 4 (some .int) [] { frames := 0, cells := 0, slots := 0, locals := 0 } 0 0 4 [(0, .ref l0), (1, .int l1), (2, .int l2), (3, .int l3)] [] (bX0_countHomes_4 N c4 l0 l1 l2 l3) := by
  unfold bX0_countHomes_4
  refine os_iload_n (i := 3) (q := 3) (v := l3) 3 rfl rfl (hX0_countHomes.at 4 rfl rfl) ?_
  refine os_bipush (i := 16) (v := (16 : Int32)) rfl (hX0_countHomes.at 5 rfl rfl) ?_
  refine os_icmp_ge (off := 22) (tgt := 29) rfl (hX0_countHomes.at 6 rfl rfl) ?_ ?_
  · refine os_iload_n (i := 2) (q := 2) (v := l2) 2 rfl rfl (hX0_countHomes.at 16 rfl rfl) ?_
    exact os_iret (Nat.le_of_ble_eq_true rfl) (Nat.le_of_ble_eq_true rfl) (hX0_countHomes.at 17 rfl rfl).1
  · refine os_aload_n (i := 0) (q := 0) (v := l0) 0 rfl rfl (hX0_countHomes.at 7 rfl rfl) ?_
    refine os_getR fX0_31 (hX0_countHomes.at 8 rfl rfl) (fun x1 => ?_)
    refine os_iload_n (i := 3) (q := 3) (v := l3) 3 rfl rfl (hX0_countHomes.at 9 rfl rfl) ?_
    refine os_iaload (hX0_countHomes.at 10 rfl rfl) (fun x2 => ?_)
    refine os_iload_n (i := 1) (q := 1) (v := l1) 1 rfl rfl (hX0_countHomes.at 11 rfl rfl) ?_
    refine os_icmp_ne (off := 6) (tgt := 23) rfl (hX0_countHomes.at 12 rfl rfl) ?_ ?_
    · exact osW.sub [0, 1, 2, 3] rfl (sX0_countHomes_23 N c4 g4 l0 l1 l2 l3)
    · refine os_iinc (i := 2) (d := 1) (x := l2) (v := (1 : Int32)) (lv' := [(2, .int (l2 + (1 : Int32))), (0, .ref l0), (1, .int l1), (3, .int l3)]) 2 rfl rfl (Nat.le_of_ble_eq_true rfl) rfl (hX0_countHomes.at 13 rfl rfl) ?_
      exact osW.sub [1, 2, 0, 3] rfl (sX0_countHomes_23 N c4 g4 l0 l1 (l2 + (1 : Int32)) l3)
set_option maxRecDepth 100000 in
set_option maxHeartbeats 4000000 in
theorem sX0_countHomes_4 (N : Nat) (l0 : Nat) (l1 : Int32) (l2 : Int32) (l3 : Int32) : osW (osFinM (fun r : Int32 => some (.int r)) 0 0) yX0_countHomes cX0_countHomes 4 (some .int) [] { frames := 0, cells := 0, slots := 0, locals := 0 } 0 0 4 [(0, .ref l0), (1, .int l1), (2, .int l2), (3, .int l3)] [] (qX0_countHomes_4 N (l0, l1, l2, l3)) :=
  osloop_W (lvf := fun p => [(0, .ref p.1), (1, .int p.2.1), (2, .int p.2.2.1), (3, .int p.2.2.2)]) (stf := fun p => []) (fun ih g p => tX0_countHomes_4 N ih (fun l0 l1 l2 l3 => g (l0, l1, l2, l3)) p.1 p.2.1 p.2.2.1 p.2.2.2) N (l0, l1, l2, l3)
set_option maxRecDepth 100000 in
set_option maxHeartbeats 4000000 in
theorem sX0_countHomes (N : Nat) (l0 : Nat) (l1 : Int32) : osMet yX0_countHomes cX0_countHomes 4 (some .int) 0 0 0 0 (fun r : Int32 => some (.int r)) [.ref l0, .int l1] (qX0_countHomes N l0 l1) := by
  refine osMet.of plX0 (Nat.le_of_ble_eq_true rfl) (osW.rw (lv2 := [(0, .ref l0), (1, .int l1)]) ?_ rfl rfl rfl)
  unfold qX0_countHomes
  refine os_iconst (i := 0) (v := (0 : Int32)) rfl (hX0_countHomes.at 0 rfl rfl) ?_
  refine os_istore_n (i := 2) (q := 2) rfl (lv' := [(2, .int (0 : Int32)), (0, .ref l0), (1, .int l1)]) (Nat.le_of_ble_eq_true rfl) rfl (hX0_countHomes.at 1 rfl rfl) ?_
  refine os_iconst (i := 0) (v := (0 : Int32)) rfl (hX0_countHomes.at 2 rfl rfl) ?_
  refine os_istore_n (i := 3) (q := 3) rfl (lv' := [(3, .int (0 : Int32)), (2, .int (0 : Int32)), (0, .ref l0), (1, .int l1)]) (Nat.le_of_ble_eq_true rfl) rfl (hX0_countHomes.at 3 rfl rfl) ?_
  exact osW.sub [2, 3, 1, 0] rfl (sX0_countHomes_4 N l0 l1 (0 : Int32) (0 : Int32))
-- X0_init
def KX0_init : List (Nat × Nat × Instr) := [(0, 1, .aload_n 0), (1, 3, .invokespecial 3), (4, 1, .aload_n 0), (5, 1, .iconst 0), (6, 3, .putfield 9), (9, 1, .aload_n 0), (10, 1, .iconst 0), (11, 3, .putfield 15), (14, 1, .aload_n 0), (15, 1, .iconst 0), (16, 3, .putfield 18), (19, 1, .aload_n 0), (20, 1, .iconst 0), (21, 3, .putfield 21), (24, 1, .aload_n 0), (25, 1, .iconst 0), (26, 3, .putfield 24), (29, 1, .aload_n 0), (30, 2, .bipush 16), (32, 2, .newarray .int), (34, 3, .putfield 27), (37, 1, .aload_n 0), (38, 2, .bipush 16), (40, 2, .newarray .int), (42, 3, .putfield 31), (45, 1, .aload_n 0), (46, 2, .bipush 16), (48, 2, .newarray .int), (50, 3, .putfield 34), (53, 1, .aload_n 0), (54, 2, .bipush 16), (56, 2, .newarray .int), (58, 3, .putfield 37), (61, 1, .aload_n 0), (62, 1, .iconst 4), (63, 2, .newarray .int), (65, 3, .putfield 40), (68, 1, .aload_n 0), (69, 3, .invokevirtual 43), (72, 1, .return_)]
theorem hX0_init : osDs cX0_init KX0_init := by
  show ∀ q ∈ KX0_init, decode cX0_init q.1 = .ok (q.2.2, q.2.1)
  decide +kernel
def qX0_init (N : Nat) (l0 : Nat) : osM Unit := osbind (osput [0] 0 l0 (.int (0 : Int32))) fun _ => osbind (osput [0] 1 l0 (.int (0 : Int32))) fun _ => osbind (osput [0] 2 l0 (.int (0 : Int32))) fun _ => osbind (osput [0] 3 l0 (.int (0 : Int32))) fun _ => osbind (osput [0] 4 l0 (.int (0 : Int32))) fun _ => osbind (osnew (.inl (0, (16, .inl fun _ => 0)))) fun x1 => osbind (osput [0] 5 l0 (.ref x1)) fun _ => osbind (osnew (.inl (0, (16, .inl fun _ => 0)))) fun x2 => osbind (osput [0] 6 l0 (.ref x2)) fun _ => osbind (osnew (.inl (0, (16, .inl fun _ => 0)))) fun x3 => osbind (osput [0] 7 l0 (.ref x3)) fun _ => osbind (osnew (.inl (0, (16, .inl fun _ => 0)))) fun x4 => osbind (osput [0] 8 l0 (.ref x4)) fun _ => osbind (osnew (.inl (0, (4, .inl fun _ => 0)))) fun x5 => osbind (osput [0] 9 l0 (.ref x5)) fun _ => osbind (osrecv [0] l0 (qX0_clear N l0)) fun _ => osret ()
set_option maxRecDepth 100000 in
set_option maxHeartbeats 4000000 in
theorem sX0_init (N : Nat) (l0 : Nat) : osMet yX0_init cX0_init 1 none 1 21 5 68 (fun _ : Unit => none) [.ref l0] (qX0_init N l0) := by
  refine osMet.of plX0 (Nat.le_of_ble_eq_true rfl) (osW.rw (lv2 := [(0, .ref l0)]) ?_ rfl rfl rfl)
  unfold qX0_init
  refine os_aload_n (i := 0) (q := 0) (v := l0) 0 rfl rfl (hX0_init.at 0 rfl rfl) ?_
  refine os_objInit wd286 wd88 wd89 (Nat.le_of_ble_eq_true rfl) (Nat.le_of_ble_eq_true rfl) (Nat.le_of_ble_eq_true rfl) (hX0_init.at 1 rfl rfl) ?_
  refine os_aload_n (i := 0) (q := 0) (v := l0) 0 rfl rfl (hX0_init.at 2 rfl rfl) ?_
  refine os_iconst (i := 0) (v := (0 : Int32)) rfl (hX0_init.at 3 rfl rfl) ?_
  refine os_put fX0_9 rfl rfl (hX0_init.at 4 rfl rfl) ?_
  refine os_aload_n (i := 0) (q := 0) (v := l0) 0 rfl rfl (hX0_init.at 5 rfl rfl) ?_
  refine os_iconst (i := 0) (v := (0 : Int32)) rfl (hX0_init.at 6 rfl rfl) ?_
  refine os_put fX0_15 rfl rfl (hX0_init.at 7 rfl rfl) ?_
  refine os_aload_n (i := 0) (q := 0) (v := l0) 0 rfl rfl (hX0_init.at 8 rfl rfl) ?_
  refine os_iconst (i := 0) (v := (0 : Int32)) rfl (hX0_init.at 9 rfl rfl) ?_
  refine os_put fX0_18 rfl rfl (hX0_init.at 10 rfl rfl) ?_
  refine os_aload_n (i := 0) (q := 0) (v := l0) 0 rfl rfl (hX0_init.at 11 rfl rfl) ?_
  refine os_iconst (i := 0) (v := (0 : Int32)) rfl (hX0_init.at 12 rfl rfl) ?_
  refine os_put fX0_21 rfl rfl (hX0_init.at 13 rfl rfl) ?_
  refine os_aload_n (i := 0) (q := 0) (v := l0) 0 rfl rfl (hX0_init.at 14 rfl rfl) ?_
  refine os_iconst (i := 0) (v := (0 : Int32)) rfl (hX0_init.at 15 rfl rfl) ?_
  refine os_put fX0_24 rfl rfl (hX0_init.at 16 rfl rfl) ?_
  refine os_aload_n (i := 0) (q := 0) (v := l0) 0 rfl rfl (hX0_init.at 17 rfl rfl) ?_
  refine os_bipush (i := 16) (v := (16 : Int32)) rfl (hX0_init.at 18 rfl rfl) ?_
  refine os_newarray (at9 := .int) (ty := .int) (t := 0) (N := 16) rfl rfl rfl wd248 (fun _ => rfl) (by decide) rfl (Nat.le_of_ble_eq_true rfl) (Nat.le_of_ble_eq_true rfl) (Nat.le_of_ble_eq_true rfl) (hX0_init.at 19 rfl rfl) (fun x1 => ?_)
  refine os_putF fX0_27 rfl (osHd1 rfl rfl) rfl rfl (hX0_init.at 20 rfl rfl) ?_
  refine os_aload_n (i := 0) (q := 0) (v := l0) 0 rfl rfl (hX0_init.at 21 rfl rfl) ?_
  refine os_bipush (i := 16) (v := (16 : Int32)) rfl (hX0_init.at 22 rfl rfl) ?_
  refine os_newarray (at9 := .int) (ty := .int) (t := 0) (N := 16) rfl rfl rfl wd248 (fun _ => rfl) (by decide) rfl (Nat.le_of_ble_eq_true rfl) (Nat.le_of_ble_eq_true rfl) (Nat.le_of_ble_eq_true rfl) (hX0_init.at 23 rfl rfl) (fun x2 => ?_)
  refine os_putF fX0_31 rfl (osHd1 rfl rfl) rfl rfl (hX0_init.at 24 rfl rfl) ?_
  refine os_aload_n (i := 0) (q := 0) (v := l0) 0 rfl rfl (hX0_init.at 25 rfl rfl) ?_
  refine os_bipush (i := 16) (v := (16 : Int32)) rfl (hX0_init.at 26 rfl rfl) ?_
  refine os_newarray (at9 := .int) (ty := .int) (t := 0) (N := 16) rfl rfl rfl wd248 (fun _ => rfl) (by decide) rfl (Nat.le_of_ble_eq_true rfl) (Nat.le_of_ble_eq_true rfl) (Nat.le_of_ble_eq_true rfl) (hX0_init.at 27 rfl rfl) (fun x3 => ?_)
  refine os_putF fX0_34 rfl (osHd1 rfl rfl) rfl rfl (hX0_init.at 28 rfl rfl) ?_
  refine os_aload_n (i := 0) (q := 0) (v := l0) 0 rfl rfl (hX0_init.at 29 rfl rfl) ?_
  refine os_bipush (i := 16) (v := (16 : Int32)) rfl (hX0_init.at 30 rfl rfl) ?_
  refine os_newarray (at9 := .int) (ty := .int) (t := 0) (N := 16) rfl rfl rfl wd248 (fun _ => rfl) (by decide) rfl (Nat.le_of_ble_eq_true rfl) (Nat.le_of_ble_eq_true rfl) (Nat.le_of_ble_eq_true rfl) (hX0_init.at 31 rfl rfl) (fun x4 => ?_)
  refine os_putF fX0_37 rfl (osHd1 rfl rfl) rfl rfl (hX0_init.at 32 rfl rfl) ?_
  refine os_aload_n (i := 0) (q := 0) (v := l0) 0 rfl rfl (hX0_init.at 33 rfl rfl) ?_
  refine os_iconst (i := 4) (v := (4 : Int32)) rfl (hX0_init.at 34 rfl rfl) ?_
  refine os_newarray (at9 := .int) (ty := .int) (t := 0) (N := 4) rfl rfl rfl wd248 (fun _ => rfl) (by decide) rfl (Nat.le_of_ble_eq_true rfl) (Nat.le_of_ble_eq_true rfl) (Nat.le_of_ble_eq_true rfl) (hX0_init.at 35 rfl rfl) (fun x5 => ?_)
  refine os_putF fX0_40 rfl (osHd1 rfl rfl) rfl rfl (hX0_init.at 36 rfl rfl) ?_
  refine os_aload_n (i := 0) (q := 0) (v := l0) 0 rfl rfl (hX0_init.at 37 rfl rfl) ?_
  refine os_callV (cis := [0]) (b := l0) (As := []) (st := []) (st' := (fun _ => [])) sl0_X0_clear_X0_clear mdX0_clear wd287 wd288 (sX0_clear N l0 ) rfl rfl (fun _ => rfl) (Nat.le_of_ble_eq_true rfl) (Nat.le_of_ble_eq_true rfl) (Nat.le_of_ble_eq_true rfl) rfl (Nat.le_of_ble_eq_true rfl) rfl (Nat.le_of_ble_eq_true rfl) (hX0_init.at 38 rfl rfl) (fun _ => ?_)
  exact os_vret (Nat.le_of_ble_eq_true rfl) (Nat.le_of_ble_eq_true rfl) (hX0_init.at 39 rfl rfl).1
-- X0_kindOf
def KX0_kindOf : List (Nat × Nat × Instr) := [(0, 1, .aload_n 0), (1, 3, .getfield 21), (4, 1, .iload_n 1), (5, 3, .invokestatic 46), (8, 3, .ifCond .eq 5), (11, 1, .iconst 2), (12, 1, .ireturn), (13, 1, .aload_n 0), (14, 3, .getfield 18), (17, 1, .iload_n 1), (18, 3, .invokestatic 46), (21, 3, .ifCond .eq 7), (24, 1, .iconst 1), (25, 3, .goto 4), (28, 1, .iconst 0), (29, 1, .ireturn)]
theorem hX0_kindOf : osDs cX0_kindOf KX0_kindOf := by
  show ∀ q ∈ KX0_kindOf, decode cX0_kindOf q.1 = .ok (q.2.2, q.2.1)
  decide +kernel
def qX0_kindOf_29 (N : Nat) (k0 : Int32) : osM Int32 := osret k0
def qX0_kindOf (N : Nat) (l0 : Nat) (l1 : Int32) : osM Int32 := osbind (osgI [0] 3 l0) fun x1 => osbind (qX9_has N x1 l1) fun x2 => osite (x2 = 0) (osbind (osgI [0] 2 l0) fun x3 => osbind (qX9_has N x3 l1) fun x4 => osite (x4 = 0) (qX0_kindOf_29 N (0 : Int32)) (qX0_kindOf_29 N (1 : Int32))) (osret (2 : Int32))
set_option maxRecDepth 100000 in
set_option maxHeartbeats 4000000 in
theorem sX0_kindOf_29 (N : Nat) (k0 : Int32) : osW (osFinM (fun r : Int32 => some (.int r)) 0 0) yX0_kindOf cX0_kindOf 2 (some .int) [] { frames := 1, cells := 0, slots := 0, locals := 21 } 0 0 29 [] [.int k0] (qX0_kindOf_29 N k0) := by
  unfold qX0_kindOf_29
  exact os_iret (Nat.le_of_ble_eq_true rfl) (Nat.le_of_ble_eq_true rfl) (hX0_kindOf.at 15 rfl rfl).1
set_option maxRecDepth 100000 in
set_option maxHeartbeats 4000000 in
theorem sX0_kindOf (N : Nat) (l0 : Nat) (l1 : Int32) : osMet yX0_kindOf cX0_kindOf 2 (some .int) 1 21 0 0 (fun r : Int32 => some (.int r)) [.ref l0, .int l1] (qX0_kindOf N l0 l1) := by
  refine osMet.of plX0 (Nat.le_of_ble_eq_true rfl) (osW.rw (lv2 := [(0, .ref l0), (1, .int l1)]) ?_ rfl rfl rfl)
  unfold qX0_kindOf
  refine os_aload_n (i := 0) (q := 0) (v := l0) 0 rfl rfl (hX0_kindOf.at 0 rfl rfl) ?_
  refine os_getI fX0_21 (hX0_kindOf.at 1 rfl rfl) (fun x1 => ?_)
  refine os_iload_n (i := 1) (q := 1) (v := l1) 1 rfl rfl (hX0_kindOf.at 2 rfl rfl) ?_
  refine os_callSN (host := "OrderSettler") (As := [.int x1, .int l1]) (st := []) (st' := (fun r => .int r :: [])) mdX9_has wd748 wd749 (sX9_has N x1 l1) rfl rfl (fun _ => rfl) (Nat.le_of_ble_eq_true rfl) (Nat.le_of_ble_eq_true rfl) (Nat.le_of_ble_eq_true rfl) rfl (Nat.le_of_ble_eq_true rfl) rfl (Nat.le_of_ble_eq_true rfl) (hX0_kindOf.at 3 rfl rfl) (fun x2 => ?_)
  refine os_if_eq (off := 5) (tgt := 13) rfl (hX0_kindOf.at 4 rfl rfl) ?_ ?_
  · refine os_aload_n (i := 0) (q := 0) (v := l0) 0 rfl rfl (hX0_kindOf.at 7 rfl rfl) ?_
    refine os_getI fX0_18 (hX0_kindOf.at 8 rfl rfl) (fun x3 => ?_)
    refine os_iload_n (i := 1) (q := 1) (v := l1) 1 rfl rfl (hX0_kindOf.at 9 rfl rfl) ?_
    refine os_callSN (host := "OrderSettler") (As := [.int x3, .int l1]) (st := []) (st' := (fun r => .int r :: [])) mdX9_has wd748 wd749 (sX9_has N x3 l1) rfl rfl (fun _ => rfl) (Nat.le_of_ble_eq_true rfl) (Nat.le_of_ble_eq_true rfl) (Nat.le_of_ble_eq_true rfl) rfl (Nat.le_of_ble_eq_true rfl) rfl (Nat.le_of_ble_eq_true rfl) (hX0_kindOf.at 10 rfl rfl) (fun x4 => ?_)
    refine os_if_eq (off := 7) (tgt := 28) rfl (hX0_kindOf.at 11 rfl rfl) ?_ ?_
    · refine os_iconst (i := 0) (v := (0 : Int32)) rfl (hX0_kindOf.at 14 rfl rfl) ?_
      exact osW.sub [] rfl (sX0_kindOf_29 N (0 : Int32))
    · refine os_iconst (i := 1) (v := (1 : Int32)) rfl (hX0_kindOf.at 12 rfl rfl) ?_
      refine os_goto (off := 4) (tgt := 29) rfl (hX0_kindOf.at 13 rfl rfl) ?_
      exact osW.sub [] rfl (sX0_kindOf_29 N (1 : Int32))
  · refine os_iconst (i := 2) (v := (2 : Int32)) rfl (hX0_kindOf.at 5 rfl rfl) ?_
    exact os_iret (Nat.le_of_ble_eq_true rfl) (Nat.le_of_ble_eq_true rfl) (hX0_kindOf.at 6 rfl rfl).1
-- X0_addArea
def KX0_addArea : List (Nat × Nat × Instr) := [(0, 1, .aload_n 0), (1, 3, .getfield 9), (4, 2, .istore 4), (6, 2, .iload 4), (8, 3, .ifCond .lt 10), (11, 2, .iload 4), (13, 2, .bipush 16), (15, 3, .if_icmp .lt 4), (18, 1, .return_), (19, 1, .aload_n 0), (20, 3, .getfield 27), (23, 2, .iload 4), (25, 1, .iload_n 1), (26, 1, .iastore), (27, 1, .iload_n 2), (28, 1, .iconst 1), (29, 3, .if_icmp .ne 17), (32, 1, .aload_n 0), (33, 1, .dup), (34, 3, .getfield 18), (37, 2, .iload 4), (39, 3, .invokestatic 50), (42, 1, .ior), (43, 3, .putfield 18), (46, 1, .iload_n 2), (47, 1, .iconst 2), (48, 3, .if_icmp .ne 17), (51, 1, .aload_n 0), (52, 1, .dup), (53, 3, .getfield 21), (56, 2, .iload 4), (58, 3, .invokestatic 50), (61, 1, .ior), (62, 3, .putfield 21), (65, 1, .iload_n 3), (66, 3, .ifCond .eq 17), (69, 1, .aload_n 0), (70, 1, .dup), (71, 3, .getfield 24), (74, 2, .iload 4), (76, 3, .invokestatic 50), (79, 1, .ior), (80, 3, .putfield 24), (83, 1, .aload_n 0), (84, 1, .dup), (85, 3, .getfield 9), (88, 1, .iconst 1), (89, 1, .iadd), (90, 3, .putfield 9), (93, 1, .return_)]
theorem hX0_addArea : osDs cX0_addArea KX0_addArea := by
  show ∀ q ∈ KX0_addArea, decode cX0_addArea q.1 = .ok (q.2.2, q.2.1)
  decide +kernel
def qX0_addArea_18 (N : Nat) : osM Unit := osret ()
def qX0_addArea_83 (N : Nat) (l0 : Nat) : osM Unit := osbind (osgI [0] 0 l0) fun x1 => osbind (osput [0] 0 l0 (.int (x1 + (1 : Int32)))) fun _ => osret ()
def qX0_addArea_65 (N : Nat) (l0 : Nat) (l3 : Int32) (l4 : Int32) : osM Unit := osite (l3 = 0) (qX0_addArea_83 N l0) (osbind (osgI [0] 4 l0) fun x1 => osbind (qX9_bit N l4) fun x2 => osbind (osput [0] 4 l0 (.int (x1 ||| x2))) fun _ => qX0_addArea_83 N l0)
def qX0_addArea_46 (N : Nat) (l0 : Nat) (l2 : Int32) (l3 : Int32) (l4 : Int32) : osM Unit := osite (l2 = (2 : Int32)) (osbind (osgI [0] 3 l0) fun x1 => osbind (qX9_bit N l4) fun x2 => osbind (osput [0] 3 l0 (.int (x1 ||| x2))) fun _ => qX0_addArea_65 N l0 l3 l4) (qX0_addArea_65 N l0 l3 l4)
def qX0_addArea (N : Nat) (l0 : Nat) (l1 : Int32) (l2 : Int32) (l3 : Int32) : osM Unit := osbind (osgI [0] 0 l0) fun x1 => osite (x1 < 0) (qX0_addArea_18 N ) (osite (x1 < (16 : Int32)) (osbind (osgR [0] 5 l0) fun x2 => osbind (ossI 0 x2 x1 l1) fun _ => osite (l2 = (1 : Int32)) (osbind (osgI [0] 2 l0) fun x3 => osbind (qX9_bit N x1) fun x4 => osbind (osput [0] 2 l0 (.int (x3 ||| x4))) fun _ => qX0_addArea_46 N l0 l2 l3 x1) (qX0_addArea_46 N l0 l2 l3 x1)) (qX0_addArea_18 N ))
set_option maxRecDepth 100000 in
set_option maxHeartbeats 4000000 in
theorem sX0_addArea_18 (N : Nat) : osW (osFinM (fun _ : Unit => none) 0 0) yX0_addArea cX0_addArea 5 none [] { frames := 1, cells := 0, slots := 0, locals := 20 } 0 0 18 [] [] (qX0_addArea_18 N) := by
  unfold qX0_addArea_18
  exact os_vret (Nat.le_of_ble_eq_true rfl) (Nat.le_of_ble_eq_true rfl) (hX0_addArea.at 8 rfl rfl).1
set_option maxRecDepth 100000 in
set_option maxHeartbeats 4000000 in
theorem sX0_addArea_83 (N : Nat) (l0 : Nat) : osW (osFinM (fun _ : Unit => none) 0 0) yX0_addArea cX0_addArea 5 none [] { frames := 1, cells := 0, slots := 0, locals := 20 } 0 0 83 [(0, .ref l0)] [] (qX0_addArea_83 N l0) := by
  unfold qX0_addArea_83
  refine os_aload_n (i := 0) (q := 0) (v := l0) 0 rfl rfl (hX0_addArea.at 43 rfl rfl) ?_
  refine os_dup rfl (hX0_addArea.at 44 rfl rfl) ?_
  refine os_getI fX0_9 (hX0_addArea.at 45 rfl rfl) (fun x1 => ?_)
  refine os_iconst (i := 1) (v := (1 : Int32)) rfl (hX0_addArea.at 46 rfl rfl) ?_
  refine os_iadd (hX0_addArea.at 47 rfl rfl) ?_
  refine os_put fX0_9 rfl rfl (hX0_addArea.at 48 rfl rfl) ?_
  exact os_vret (Nat.le_of_ble_eq_true rfl) (Nat.le_of_ble_eq_true rfl) (hX0_addArea.at 49 rfl rfl).1
set_option maxRecDepth 100000 in
set_option maxHeartbeats 4000000 in
theorem sX0_addArea_65 (N : Nat) (l0 : Nat) (l3 : Int32) (l4 : Int32) : osW (osFinM (fun _ : Unit => none) 0 0) yX0_addArea cX0_addArea 5 none [] { frames := 1, cells := 0, slots := 0, locals := 20 } 0 0 65 [(0, .ref l0), (3, .int l3), (4, .int l4)] [] (qX0_addArea_65 N l0 l3 l4) := by
  unfold qX0_addArea_65
  refine os_iload_n (i := 3) (q := 3) (v := l3) 1 rfl rfl (hX0_addArea.at 34 rfl rfl) ?_
  refine os_if_eq (off := 17) (tgt := 83) rfl (hX0_addArea.at 35 rfl rfl) ?_ ?_
  · exact osW.sub [0] rfl (sX0_addArea_83 N l0)
  · refine os_aload_n (i := 0) (q := 0) (v := l0) 0 rfl rfl (hX0_addArea.at 36 rfl rfl) ?_
    refine os_dup rfl (hX0_addArea.at 37 rfl rfl) ?_
    refine os_getI fX0_24 (hX0_addArea.at 38 rfl rfl) (fun x1 => ?_)
    refine os_iload (v := l4) 2 rfl (hX0_addArea.at 39 rfl rfl) ?_
    refine os_callSN (host := "OrderSettler") (As := [.int l4]) (st := [.int x1, .ref l0]) (st' := (fun r => .int r :: [.int x1, .ref l0])) mdX9_bit wd711 wd712 (sX9_bit N l4) rfl rfl (fun _ => rfl) (Nat.le_of_ble_eq_true rfl) (Nat.le_of_ble_eq_true rfl) (Nat.le_of_ble_eq_true rfl) rfl (Nat.le_of_ble_eq_true rfl) rfl (Nat.le_of_ble_eq_true rfl) (hX0_addArea.at 40 rfl rfl) (fun x2 => ?_)
    refine os_ior (hX0_addArea.at 41 rfl rfl) ?_
    refine os_put fX0_24 rfl rfl (hX0_addArea.at 42 rfl rfl) ?_
    exact osW.sub [0] rfl (sX0_addArea_83 N l0)
set_option maxRecDepth 100000 in
set_option maxHeartbeats 4000000 in
theorem sX0_addArea_46 (N : Nat) (l0 : Nat) (l2 : Int32) (l3 : Int32) (l4 : Int32) : osW (osFinM (fun _ : Unit => none) 0 0) yX0_addArea cX0_addArea 5 none [] { frames := 1, cells := 0, slots := 0, locals := 20 } 0 0 46 [(0, .ref l0), (2, .int l2), (3, .int l3), (4, .int l4)] [] (qX0_addArea_46 N l0 l2 l3 l4) := by
  unfold qX0_addArea_46
  refine os_iload_n (i := 2) (q := 2) (v := l2) 1 rfl rfl (hX0_addArea.at 24 rfl rfl) ?_
  refine os_iconst (i := 2) (v := (2 : Int32)) rfl (hX0_addArea.at 25 rfl rfl) ?_
  refine os_icmp_ne (off := 17) (tgt := 65) rfl (hX0_addArea.at 26 rfl rfl) ?_ ?_
  · exact osW.sub [0, 2, 3] rfl (sX0_addArea_65 N l0 l3 l4)
  · refine os_aload_n (i := 0) (q := 0) (v := l0) 0 rfl rfl (hX0_addArea.at 27 rfl rfl) ?_
    refine os_dup rfl (hX0_addArea.at 28 rfl rfl) ?_
    refine os_getI fX0_21 (hX0_addArea.at 29 rfl rfl) (fun x1 => ?_)
    refine os_iload (v := l4) 3 rfl (hX0_addArea.at 30 rfl rfl) ?_
    refine os_callSN (host := "OrderSettler") (As := [.int l4]) (st := [.int x1, .ref l0]) (st' := (fun r => .int r :: [.int x1, .ref l0])) mdX9_bit wd711 wd712 (sX9_bit N l4) rfl rfl (fun _ => rfl) (Nat.le_of_ble_eq_true rfl) (Nat.le_of_ble_eq_true rfl) (Nat.le_of_ble_eq_true rfl) rfl (Nat.le_of_ble_eq_true rfl) rfl (Nat.le_of_ble_eq_true rfl) (hX0_addArea.at 31 rfl rfl) (fun x2 => ?_)
    refine os_ior (hX0_addArea.at 32 rfl rfl) ?_
    refine os_put fX0_21 rfl rfl (hX0_addArea.at 33 rfl rfl) ?_
    exact osW.sub [0, 2, 3] rfl (sX0_addArea_65 N l0 l3 l4)
set_option maxRecDepth 100000 in
set_option maxHeartbeats 4000000 in
theorem sX0_addArea (N : Nat) (l0 : Nat) (l1 : Int32) (l2 : Int32) (l3 : Int32) : osMet yX0_addArea cX0_addArea 5 none 1 20 0 0 (fun _ : Unit => none) [.ref l0, .int l1, .int l2, .int l3] (qX0_addArea N l0 l1 l2 l3) := by
  refine osMet.of plX0 (Nat.le_of_ble_eq_true rfl) (osW.rw (lv2 := [(0, .ref l0), (1, .int l1), (2, .int l2), (3, .int l3)]) ?_ rfl rfl rfl)
  unfold qX0_addArea
  refine os_aload_n (i := 0) (q := 0) (v := l0) 0 rfl rfl (hX0_addArea.at 0 rfl rfl) ?_
  refine os_getI fX0_9 (hX0_addArea.at 1 rfl rfl) (fun x1 => ?_)
  refine os_istore (i := 4) (lv' := [(4, .int x1), (0, .ref l0), (1, .int l1), (2, .int l2), (3, .int l3)]) (Nat.le_of_ble_eq_true rfl) rfl (hX0_addArea.at 2 rfl rfl) ?_
  refine os_iload (v := x1) 0 rfl (hX0_addArea.at 3 rfl rfl) ?_
  refine os_if_lt (off := 10) (tgt := 18) rfl (hX0_addArea.at 4 rfl rfl) ?_ ?_
  · exact osW.sub [] rfl (sX0_addArea_18 N )
  · refine os_iload (v := x1) 0 rfl (hX0_addArea.at 5 rfl rfl) ?_
    refine os_bipush (i := 16) (v := (16 : Int32)) rfl (hX0_addArea.at 6 rfl rfl) ?_
    refine os_icmp_lt (off := 4) (tgt := 19) rfl (hX0_addArea.at 7 rfl rfl) ?_ ?_
    · refine os_aload_n (i := 0) (q := 0) (v := l0) 1 rfl rfl (hX0_addArea.at 9 rfl rfl) ?_
      refine os_getR fX0_27 (hX0_addArea.at 10 rfl rfl) (fun x2 => ?_)
      refine os_iload (v := x1) 0 rfl (hX0_addArea.at 11 rfl rfl) ?_
      refine os_iload_n (i := 1) (q := 1) (v := l1) 2 rfl rfl (hX0_addArea.at 12 rfl rfl) ?_
      refine os_iastore (hX0_addArea.at 13 rfl rfl) ?_
      refine os_iload_n (i := 2) (q := 2) (v := l2) 3 rfl rfl (hX0_addArea.at 14 rfl rfl) ?_
      refine os_iconst (i := 1) (v := (1 : Int32)) rfl (hX0_addArea.at 15 rfl rfl) ?_
      refine os_icmp_ne (off := 17) (tgt := 46) rfl (hX0_addArea.at 16 rfl rfl) ?_ ?_
      · exact osW.sub [1, 3, 4, 0] rfl (sX0_addArea_46 N l0 l2 l3 x1)
      · refine os_aload_n (i := 0) (q := 0) (v := l0) 1 rfl rfl (hX0_addArea.at 17 rfl rfl) ?_
        refine os_dup rfl (hX0_addArea.at 18 rfl rfl) ?_
        refine os_getI fX0_18 (hX0_addArea.at 19 rfl rfl) (fun x3 => ?_)
        refine os_iload (v := x1) 0 rfl (hX0_addArea.at 20 rfl rfl) ?_
        refine os_callSN (host := "OrderSettler") (As := [.int x1]) (st := [.int x3, .ref l0]) (st' := (fun r => .int r :: [.int x3, .ref l0])) mdX9_bit wd711 wd712 (sX9_bit N x1) rfl rfl (fun _ => rfl) (Nat.le_of_ble_eq_true rfl) (Nat.le_of_ble_eq_true rfl) (Nat.le_of_ble_eq_true rfl) rfl (Nat.le_of_ble_eq_true rfl) rfl (Nat.le_of_ble_eq_true rfl) (hX0_addArea.at 21 rfl rfl) (fun x4 => ?_)
        refine os_ior (hX0_addArea.at 22 rfl rfl) ?_
        refine os_put fX0_18 rfl rfl (hX0_addArea.at 23 rfl rfl) ?_
        exact osW.sub [1, 3, 4, 0] rfl (sX0_addArea_46 N l0 l2 l3 x1)
    · exact osW.sub [] rfl (sX0_addArea_18 N )
-- X0_addBorder
def KX0_addBorder : List (Nat × Nat × Instr) := [(0, 1, .aload_n 0), (1, 1, .iload_n 1), (2, 3, .invokevirtual 54), (5, 3, .ifCond .eq 11), (8, 1, .aload_n 0), (9, 1, .iload_n 2), (10, 3, .invokevirtual 54), (13, 3, .ifCond .ne 4), (16, 1, .return_), (17, 1, .iload_n 3), (18, 3, .ifCond .eq 29), (21, 1, .aload_n 0), (22, 3, .getfield 34), (25, 1, .iload_n 1), (26, 1, .dup2), (27, 1, .iaload), (28, 1, .iload_n 2), (29, 3, .invokestatic 50), (32, 1, .ior), (33, 1, .iastore), (34, 1, .aload_n 0), (35, 3, .getfield 34), (38, 1, .iload_n 2), (39, 1, .dup2), (40, 1, .iaload), (41, 1, .iload_n 1), (42, 3, .invokestatic 50), (45, 1, .ior), (46, 1, .iastore), (47, 2, .iload 4), (49, 3, .ifCond .eq 29), (52, 1, .aload_n 0), (53, 3, .getfield 37), (56, 1, .iload_n 1), (57, 1, .dup2), (58, 1, .iaload), (59, 1, .iload_n 2), (60, 3, .invokestatic 50), (63, 1, .ior), (64, 1, .iastore), (65, 1, .aload_n 0), (66, 3, .getfield 37), (69, 1, .iload_n 2), (70, 1, .dup2), (71, 1, .iaload), (72, 1, .iload_n 1), (73, 3, .invokestatic 50), (76, 1, .ior), (77, 1, .iastore), (78, 1, .return_)]
theorem hX0_addBorder : osDs cX0_addBorder KX0_addBorder := by
  show ∀ q ∈ KX0_addBorder, decode cX0_addBorder q.1 = .ok (q.2.2, q.2.1)
  decide +kernel
def qX0_addBorder_16 (N : Nat) : osM Unit := osret ()
def qX0_addBorder_78 (N : Nat) : osM Unit := osret ()
def qX0_addBorder_47 (N : Nat) (l0 : Nat) (l1 : Int32) (l2 : Int32) (l4 : Int32) : osM Unit := osite (l4 = 0) (qX0_addBorder_78 N ) (osbind (osgR [0] 8 l0) fun x1 => osbind (osaI 0 x1 l1) fun x2 => osbind (qX9_bit N l2) fun x3 => osbind (ossI 0 x1 l1 (x2 ||| x3)) fun _ => osbind (osgR [0] 8 l0) fun x4 => osbind (osaI 0 x4 l2) fun x5 => osbind (qX9_bit N l1) fun x6 => osbind (ossI 0 x4 l2 (x5 ||| x6)) fun _ => qX0_addBorder_78 N )
def qX0_addBorder (N : Nat) (l0 : Nat) (l1 : Int32) (l2 : Int32) (l3 : Int32) (l4 : Int32) : osM Unit := osbind (osrecv [0] l0 (qX0_isArea N l0 l1)) fun x1 => osite (x1 = 0) (qX0_addBorder_16 N ) (osbind (osrecv [0] l0 (qX0_isArea N l0 l2)) fun x2 => osite (x2 = 0) (qX0_addBorder_16 N ) (osite (l3 = 0) (qX0_addBorder_47 N l0 l1 l2 l4) (osbind (osgR [0] 7 l0) fun x3 => osbind (osaI 0 x3 l1) fun x4 => osbind (qX9_bit N l2) fun x5 => osbind (ossI 0 x3 l1 (x4 ||| x5)) fun _ => osbind (osgR [0] 7 l0) fun x6 => osbind (osaI 0 x6 l2) fun x7 => osbind (qX9_bit N l1) fun x8 => osbind (ossI 0 x6 l2 (x7 ||| x8)) fun _ => qX0_addBorder_47 N l0 l1 l2 l4)))
set_option maxRecDepth 100000 in
set_option maxHeartbeats 4000000 in
theorem sX0_addBorder_16 (N : Nat) : osW (osFinM (fun _ : Unit => none) 0 0) yX0_addBorder cX0_addBorder 5 none [] { frames := 1, cells := 0, slots := 0, locals := 21 } 0 0 16 [] [] (qX0_addBorder_16 N) := by
  unfold qX0_addBorder_16
  exact os_vret (Nat.le_of_ble_eq_true rfl) (Nat.le_of_ble_eq_true rfl) (hX0_addBorder.at 8 rfl rfl).1
set_option maxRecDepth 100000 in
set_option maxHeartbeats 4000000 in
theorem sX0_addBorder_78 (N : Nat) : osW (osFinM (fun _ : Unit => none) 0 0) yX0_addBorder cX0_addBorder 5 none [] { frames := 1, cells := 0, slots := 0, locals := 21 } 0 0 78 [] [] (qX0_addBorder_78 N) := by
  unfold qX0_addBorder_78
  exact os_vret (Nat.le_of_ble_eq_true rfl) (Nat.le_of_ble_eq_true rfl) (hX0_addBorder.at 49 rfl rfl).1
set_option maxRecDepth 100000 in
set_option maxHeartbeats 4000000 in
theorem sX0_addBorder_47 (N : Nat) (l0 : Nat) (l1 : Int32) (l2 : Int32) (l4 : Int32) : osW (osFinM (fun _ : Unit => none) 0 0) yX0_addBorder cX0_addBorder 5 none [] { frames := 1, cells := 0, slots := 0, locals := 21 } 0 0 47 [(0, .ref l0), (1, .int l1), (2, .int l2), (4, .int l4)] [] (qX0_addBorder_47 N l0 l1 l2 l4) := by
  unfold qX0_addBorder_47
  refine os_iload (v := l4) 3 rfl (hX0_addBorder.at 29 rfl rfl) ?_
  refine os_if_eq (off := 29) (tgt := 78) rfl (hX0_addBorder.at 30 rfl rfl) ?_ ?_
  · exact osW.sub [] rfl (sX0_addBorder_78 N )
  · refine os_aload_n (i := 0) (q := 0) (v := l0) 0 rfl rfl (hX0_addBorder.at 31 rfl rfl) ?_
    refine os_getR fX0_37 (hX0_addBorder.at 32 rfl rfl) (fun x1 => ?_)
    refine os_iload_n (i := 1) (q := 1) (v := l1) 1 rfl rfl (hX0_addBorder.at 33 rfl rfl) ?_
    refine os_dup2_11 rfl rfl (hX0_addBorder.at 34 rfl rfl) ?_
    refine os_iaload (hX0_addBorder.at 35 rfl rfl) (fun x2 => ?_)
    refine os_iload_n (i := 2) (q := 2) (v := l2) 2 rfl rfl (hX0_addBorder.at 36 rfl rfl) ?_
    refine os_callSN (host := "OrderSettler") (As := [.int l2]) (st := [.int x2, .int l1, .ref x1]) (st' := (fun r => .int r :: [.int x2, .int l1, .ref x1])) mdX9_bit wd711 wd712 (sX9_bit N l2) rfl rfl (fun _ => rfl) (Nat.le_of_ble_eq_true rfl) (Nat.le_of_ble_eq_true rfl) (Nat.le_of_ble_eq_true rfl) rfl (Nat.le_of_ble_eq_true rfl) rfl (Nat.le_of_ble_eq_true rfl) (hX0_addBorder.at 37 rfl rfl) (fun x3 => ?_)
    refine os_ior (hX0_addBorder.at 38 rfl rfl) ?_
    refine os_iastore (hX0_addBorder.at 39 rfl rfl) ?_
    refine os_aload_n (i := 0) (q := 0) (v := l0) 0 rfl rfl (hX0_addBorder.at 40 rfl rfl) ?_
    refine os_getR fX0_37 (hX0_addBorder.at 41 rfl rfl) (fun x4 => ?_)
    refine os_iload_n (i := 2) (q := 2) (v := l2) 2 rfl rfl (hX0_addBorder.at 42 rfl rfl) ?_
    refine os_dup2_11 rfl rfl (hX0_addBorder.at 43 rfl rfl) ?_
    refine os_iaload (hX0_addBorder.at 44 rfl rfl) (fun x5 => ?_)
    refine os_iload_n (i := 1) (q := 1) (v := l1) 1 rfl rfl (hX0_addBorder.at 45 rfl rfl) ?_
    refine os_callSN (host := "OrderSettler") (As := [.int l1]) (st := [.int x5, .int l2, .ref x4]) (st' := (fun r => .int r :: [.int x5, .int l2, .ref x4])) mdX9_bit wd711 wd712 (sX9_bit N l1) rfl rfl (fun _ => rfl) (Nat.le_of_ble_eq_true rfl) (Nat.le_of_ble_eq_true rfl) (Nat.le_of_ble_eq_true rfl) rfl (Nat.le_of_ble_eq_true rfl) rfl (Nat.le_of_ble_eq_true rfl) (hX0_addBorder.at 46 rfl rfl) (fun x6 => ?_)
    refine os_ior (hX0_addBorder.at 47 rfl rfl) ?_
    refine os_iastore (hX0_addBorder.at 48 rfl rfl) ?_
    exact osW.sub [] rfl (sX0_addBorder_78 N )
set_option maxRecDepth 100000 in
set_option maxHeartbeats 4000000 in
theorem sX0_addBorder (N : Nat) (l0 : Nat) (l1 : Int32) (l2 : Int32) (l3 : Int32) (l4 : Int32) : osMet yX0_addBorder cX0_addBorder 5 none 1 21 0 0 (fun _ : Unit => none) [.ref l0, .int l1, .int l2, .int l3, .int l4] (qX0_addBorder N l0 l1 l2 l3 l4) := by
  refine osMet.of plX0 (Nat.le_of_ble_eq_true rfl) (osW.rw (lv2 := [(0, .ref l0), (1, .int l1), (2, .int l2), (3, .int l3), (4, .int l4)]) ?_ rfl rfl rfl)
  unfold qX0_addBorder
  refine os_aload_n (i := 0) (q := 0) (v := l0) 0 rfl rfl (hX0_addBorder.at 0 rfl rfl) ?_
  refine os_iload_n (i := 1) (q := 1) (v := l1) 1 rfl rfl (hX0_addBorder.at 1 rfl rfl) ?_
  refine os_callV (cis := [0]) (b := l0) (As := [.int l1]) (st := []) (st' := (fun r => .int r :: [])) sl0_X0_isArea_X0_isArea mdX0_isArea wd755 wd756 (sX0_isArea N l0 l1) rfl rfl (fun _ => rfl) (Nat.le_of_ble_eq_true rfl) (Nat.le_of_ble_eq_true rfl) (Nat.le_of_ble_eq_true rfl) rfl (Nat.le_of_ble_eq_true rfl) rfl (Nat.le_of_ble_eq_true rfl) (hX0_addBorder.at 2 rfl rfl) (fun x1 => ?_)
  refine os_if_eq (off := 11) (tgt := 16) rfl (hX0_addBorder.at 3 rfl rfl) ?_ ?_
  · exact osW.sub [] rfl (sX0_addBorder_16 N )
  · refine os_aload_n (i := 0) (q := 0) (v := l0) 0 rfl rfl (hX0_addBorder.at 4 rfl rfl) ?_
    refine os_iload_n (i := 2) (q := 2) (v := l2) 2 rfl rfl (hX0_addBorder.at 5 rfl rfl) ?_
    refine os_callV (cis := [0]) (b := l0) (As := [.int l2]) (st := []) (st' := (fun r => .int r :: [])) sl0_X0_isArea_X0_isArea mdX0_isArea wd755 wd756 (sX0_isArea N l0 l2) rfl rfl (fun _ => rfl) (Nat.le_of_ble_eq_true rfl) (Nat.le_of_ble_eq_true rfl) (Nat.le_of_ble_eq_true rfl) rfl (Nat.le_of_ble_eq_true rfl) rfl (Nat.le_of_ble_eq_true rfl) (hX0_addBorder.at 6 rfl rfl) (fun x2 => ?_)
    refine os_if_ne (off := 4) (tgt := 17) rfl (hX0_addBorder.at 7 rfl rfl) ?_ ?_
    · refine os_iload_n (i := 3) (q := 3) (v := l3) 3 rfl rfl (hX0_addBorder.at 9 rfl rfl) ?_
      refine os_if_eq (off := 29) (tgt := 47) rfl (hX0_addBorder.at 10 rfl rfl) ?_ ?_
      · exact osW.sub [0, 1, 2, 4] rfl (sX0_addBorder_47 N l0 l1 l2 l4)
      · refine os_aload_n (i := 0) (q := 0) (v := l0) 0 rfl rfl (hX0_addBorder.at 11 rfl rfl) ?_
        refine os_getR fX0_34 (hX0_addBorder.at 12 rfl rfl) (fun x3 => ?_)
        refine os_iload_n (i := 1) (q := 1) (v := l1) 1 rfl rfl (hX0_addBorder.at 13 rfl rfl) ?_
        refine os_dup2_11 rfl rfl (hX0_addBorder.at 14 rfl rfl) ?_
        refine os_iaload (hX0_addBorder.at 15 rfl rfl) (fun x4 => ?_)
        refine os_iload_n (i := 2) (q := 2) (v := l2) 2 rfl rfl (hX0_addBorder.at 16 rfl rfl) ?_
        refine os_callSN (host := "OrderSettler") (As := [.int l2]) (st := [.int x4, .int l1, .ref x3]) (st' := (fun r => .int r :: [.int x4, .int l1, .ref x3])) mdX9_bit wd711 wd712 (sX9_bit N l2) rfl rfl (fun _ => rfl) (Nat.le_of_ble_eq_true rfl) (Nat.le_of_ble_eq_true rfl) (Nat.le_of_ble_eq_true rfl) rfl (Nat.le_of_ble_eq_true rfl) rfl (Nat.le_of_ble_eq_true rfl) (hX0_addBorder.at 17 rfl rfl) (fun x5 => ?_)
        refine os_ior (hX0_addBorder.at 18 rfl rfl) ?_
        refine os_iastore (hX0_addBorder.at 19 rfl rfl) ?_
        refine os_aload_n (i := 0) (q := 0) (v := l0) 0 rfl rfl (hX0_addBorder.at 20 rfl rfl) ?_
        refine os_getR fX0_34 (hX0_addBorder.at 21 rfl rfl) (fun x6 => ?_)
        refine os_iload_n (i := 2) (q := 2) (v := l2) 2 rfl rfl (hX0_addBorder.at 22 rfl rfl) ?_
        refine os_dup2_11 rfl rfl (hX0_addBorder.at 23 rfl rfl) ?_
        refine os_iaload (hX0_addBorder.at 24 rfl rfl) (fun x7 => ?_)
        refine os_iload_n (i := 1) (q := 1) (v := l1) 1 rfl rfl (hX0_addBorder.at 25 rfl rfl) ?_
        refine os_callSN (host := "OrderSettler") (As := [.int l1]) (st := [.int x7, .int l2, .ref x6]) (st' := (fun r => .int r :: [.int x7, .int l2, .ref x6])) mdX9_bit wd711 wd712 (sX9_bit N l1) rfl rfl (fun _ => rfl) (Nat.le_of_ble_eq_true rfl) (Nat.le_of_ble_eq_true rfl) (Nat.le_of_ble_eq_true rfl) rfl (Nat.le_of_ble_eq_true rfl) rfl (Nat.le_of_ble_eq_true rfl) (hX0_addBorder.at 26 rfl rfl) (fun x8 => ?_)
        refine os_ior (hX0_addBorder.at 27 rfl rfl) ?_
        refine os_iastore (hX0_addBorder.at 28 rfl rfl) ?_
        exact osW.sub [0, 1, 2, 4] rfl (sX0_addBorder_47 N l0 l1 l2 l4)
    · exact osW.sub [] rfl (sX0_addBorder_16 N )
-- X0_suits
def KX0_suits : List (Nat × Nat × Instr) := [(0, 1, .iload_n 2), (1, 1, .iconst 1), (2, 3, .if_icmp .ne 19), (5, 1, .aload_n 0), (6, 3, .getfield 21), (9, 1, .aload_n 0), (10, 3, .getfield 18), (13, 1, .ior), (14, 1, .iload_n 1), (15, 3, .invokestatic 46), (18, 3, .goto 19), (21, 1, .aload_n 0), (22, 3, .getfield 21), (25, 1, .iload_n 1), (26, 3, .invokestatic 46), (29, 3, .ifCond .ne 7), (32, 1, .iconst 1), (33, 3, .goto 4), (36, 1, .iconst 0), (37, 1, .ireturn)]
theorem hX0_suits : osDs cX0_suits KX0_suits := by
  show ∀ q ∈ KX0_suits, decode cX0_suits q.1 = .ok (q.2.2, q.2.1)
  decide +kernel
def qX0_suits_37 (N : Nat) (k0 : Int32) : osM Int32 := osretZ k0
def qX0_suits (N : Nat) (l0 : Nat) (l1 : Int32) (l2 : Int32) : osM Int32 := osite (l2 = (1 : Int32)) (osbind (osgI [0] 3 l0) fun x3 => osbind (osgI [0] 2 l0) fun x4 => osbind (qX9_has N (x3 ||| x4) l1) fun x5 => qX0_suits_37 N x5) (osbind (osgI [0] 3 l0) fun x1 => osbind (qX9_has N x1 l1) fun x2 => osite (x2 = 0) (qX0_suits_37 N (1 : Int32)) (qX0_suits_37 N (0 : Int32)))
set_option maxRecDepth 100000 in
set_option maxHeartbeats 4000000 in
theorem sX0_suits_37 (N : Nat) (k0 : Int32) : osW (osFinM (fun r : Int32 => some (.int r)) 0 0) yX0_suits cX0_suits 3 (some .boolean) [] { frames := 1, cells := 0, slots := 0, locals := 21 } 0 0 37 [] [.int k0] (qX0_suits_37 N k0) := by
  unfold qX0_suits_37
  exact os_zret (Nat.le_of_ble_eq_true rfl) (Nat.le_of_ble_eq_true rfl) (hX0_suits.at 19 rfl rfl).1
set_option maxRecDepth 100000 in
set_option maxHeartbeats 4000000 in
theorem sX0_suits (N : Nat) (l0 : Nat) (l1 : Int32) (l2 : Int32) : osMet yX0_suits cX0_suits 3 (some .boolean) 1 21 0 0 (fun r : Int32 => some (.int r)) [.ref l0, .int l1, .int l2] (qX0_suits N l0 l1 l2) := by
  refine osMet.of plX0 (Nat.le_of_ble_eq_true rfl) (osW.rw (lv2 := [(0, .ref l0), (1, .int l1), (2, .int l2)]) ?_ rfl rfl rfl)
  unfold qX0_suits
  refine os_iload_n (i := 2) (q := 2) (v := l2) 2 rfl rfl (hX0_suits.at 0 rfl rfl) ?_
  refine os_iconst (i := 1) (v := (1 : Int32)) rfl (hX0_suits.at 1 rfl rfl) ?_
  refine os_icmp_ne (off := 19) (tgt := 21) rfl (hX0_suits.at 2 rfl rfl) ?_ ?_
  · refine os_aload_n (i := 0) (q := 0) (v := l0) 0 rfl rfl (hX0_suits.at 11 rfl rfl) ?_
    refine os_getI fX0_21 (hX0_suits.at 12 rfl rfl) (fun x1 => ?_)
    refine os_iload_n (i := 1) (q := 1) (v := l1) 1 rfl rfl (hX0_suits.at 13 rfl rfl) ?_
    refine os_callSN (host := "OrderSettler") (As := [.int x1, .int l1]) (st := []) (st' := (fun r => .int r :: [])) mdX9_has wd748 wd749 (sX9_has N x1 l1) rfl rfl (fun _ => rfl) (Nat.le_of_ble_eq_true rfl) (Nat.le_of_ble_eq_true rfl) (Nat.le_of_ble_eq_true rfl) rfl (Nat.le_of_ble_eq_true rfl) rfl (Nat.le_of_ble_eq_true rfl) (hX0_suits.at 14 rfl rfl) (fun x2 => ?_)
    refine os_if_ne (off := 7) (tgt := 36) rfl (hX0_suits.at 15 rfl rfl) ?_ ?_
    · refine os_iconst (i := 0) (v := (0 : Int32)) rfl (hX0_suits.at 18 rfl rfl) ?_
      exact osW.sub [] rfl (sX0_suits_37 N (0 : Int32))
    · refine os_iconst (i := 1) (v := (1 : Int32)) rfl (hX0_suits.at 16 rfl rfl) ?_
      refine os_goto (off := 4) (tgt := 37) rfl (hX0_suits.at 17 rfl rfl) ?_
      exact osW.sub [] rfl (sX0_suits_37 N (1 : Int32))
  · refine os_aload_n (i := 0) (q := 0) (v := l0) 0 rfl rfl (hX0_suits.at 3 rfl rfl) ?_
    refine os_getI fX0_21 (hX0_suits.at 4 rfl rfl) (fun x3 => ?_)
    refine os_aload_n (i := 0) (q := 0) (v := l0) 0 rfl rfl (hX0_suits.at 5 rfl rfl) ?_
    refine os_getI fX0_18 (hX0_suits.at 6 rfl rfl) (fun x4 => ?_)
    refine os_ior (hX0_suits.at 7 rfl rfl) ?_
    refine os_iload_n (i := 1) (q := 1) (v := l1) 1 rfl rfl (hX0_suits.at 8 rfl rfl) ?_
    refine os_callSN (host := "OrderSettler") (As := [.int (x3 ||| x4), .int l1]) (st := []) (st' := (fun r => .int r :: [])) mdX9_has wd748 wd749 (sX9_has N (x3 ||| x4) l1) rfl rfl (fun _ => rfl) (Nat.le_of_ble_eq_true rfl) (Nat.le_of_ble_eq_true rfl) (Nat.le_of_ble_eq_true rfl) rfl (Nat.le_of_ble_eq_true rfl) rfl (Nat.le_of_ble_eq_true rfl) (hX0_suits.at 9 rfl rfl) (fun x5 => ?_)
    refine os_goto (off := 19) (tgt := 37) rfl (hX0_suits.at 10 rfl rfl) ?_
    exact osW.sub [] rfl (sX0_suits_37 N x5)
