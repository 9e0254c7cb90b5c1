-- X5_clearUnits
def KX5_clearUnits : List (Nat × Nat × Instr) := [(0, 1, .iconst 0), (1, 1, .istore_n 1), (2, 1, .iload_n 1), (3, 2, .bipush 16), (5, 3, .if_icmp .ge 23), (8, 1, .aload_n 0), (9, 3, .getfield 32), (12, 1, .iload_n 1), (13, 1, .iconst (-1)), (14, 1, .iastore), (15, 1, .aload_n 0), (16, 3, .getfield 35), (19, 1, .iload_n 1), (20, 1, .iconst (-1)), (21, 1, .iastore), (22, 3, .iinc 1 1), (25, 3, .goto (-23)), (28, 1, .return_)]
theorem hX5_clearUnits : osDs cX5_clearUnits KX5_clearUnits := by
  show ∀ q ∈ KX5_clearUnits, decode cX5_clearUnits q.1 = .ok (q.2.2, q.2.1)
  decide +kernel
def bX5_clearUnits_2 (N : Nat) (c2 : Nat × Int32 → osM Unit) (l0 : Nat) (l1 : Int32) : osM Unit := osite ((16 : Int32) ≤ l1) (osret ()) (osbind (osgR [5] 6 l0) fun x1 => osbind (ossI 0 x1 l1 (-1 : Int32)) fun _ => osbind (osgR [5] 7 l0) fun x2 => osbind (ossI 0 x2 l1 (-1 : Int32)) fun _ => c2 (l0, (l1 + (1 : Int32))))
def qX5_clearUnits_2 (N : Nat) : Nat × Int32 → osM Unit := osloop (fun ih p => bX5_clearUnits_2 N ih p.1 p.2) N
def qX5_clearUnits (N : Nat) (l0 : Nat) : osM Unit := qX5_clearUnits_2 N (l0, (0 : Int32))
set_option maxRecDepth 100000 in
set_option maxHeartbeats 4000000 in
theorem tX5_clearUnits_2 (N : Nat) (c2 : Nat × Int32 → osM Unit) (g2 : ∀ (l0 : Nat) (l1 : Int32), osW (osFinM (fun _ : Unit => none) 0 0) yX5_clearUnits cX5_clearUnits 2 none [] { frames := 0, cells := 0, slots := 0, locals := 0 } 0 0 2 [(0, .ref l0), (1, .int l1)] [] (c2 (l0, l1))) (l0 : Nat) (l1 : Int32) : osW (osFinM (fun _ : Unit => none) 0 0) yX5_clearUnits cX5_clearUnits 2 none [] { frames := 0, cells := 0, slots := 0, locals := 0 } 0 0 2 [(0, .ref l0), (1, .int l1)] [] (bX5_clearUnits_2 N c2 l0 l1) := by
  unfold bX5_clearUnits_2
  refine os_iload_n (i := 1) (q := 1) (v := l1) 1 rfl rfl (hX5_clearUnits.at 2 rfl rfl) ?_
  refine os_bipush (i := 16) (v := (16 : Int32)) rfl (hX5_clearUnits.at 3 rfl rfl) ?_
  refine os_icmp_ge (off := 23) (tgt := 28) rfl (hX5_clearUnits.at 4 rfl rfl) ?_ ?_
  · exact os_vret (Nat.le_of_ble_eq_true rfl) (Nat.le_of_ble_eq_true rfl) (hX5_clearUnits.at 17 rfl rfl).1
  · refine os_aload_n (i := 0) (q := 0) (v := l0) 0 rfl rfl (hX5_clearUnits.at 5 rfl rfl) ?_
    refine os_getR fX5_32 (hX5_clearUnits.at 6 rfl rfl) (fun x1 => ?_)
    refine os_iload_n (i := 1) (q := 1) (v := l1) 1 rfl rfl (hX5_clearUnits.at 7 rfl rfl) ?_
    refine os_iconst (i := (-1)) (v := (-1 : Int32)) rfl (hX5_clearUnits.at 8 rfl rfl) ?_
    refine os_iastore (hX5_clearUnits.at 9 rfl rfl) ?_
    refine os_aload_n (i := 0) (q := 0) (v := l0) 0 rfl rfl (hX5_clearUnits.at 10 rfl rfl) ?_
    refine os_getR fX5_35 (hX5_clearUnits.at 11 rfl rfl) (fun x2 => ?_)
    refine os_iload_n (i := 1) (q := 1) (v := l1) 1 rfl rfl (hX5_clearUnits.at 12 rfl rfl) ?_
    refine os_iconst (i := (-1)) (v := (-1 : Int32)) rfl (hX5_clearUnits.at 13 rfl rfl) ?_
    refine os_iastore (hX5_clearUnits.at 14 rfl rfl) ?_
    refine os_iinc (i := 1) (d := 1) (x := l1) (v := (1 : Int32)) (lv' := [(1, .int (l1 + (1 : Int32))), (0, .ref l0)]) 1 rfl rfl (Nat.le_of_ble_eq_true rfl) rfl (hX5_clearUnits.at 15 rfl rfl) ?_
    refine os_goto (off := (-23)) (tgt := 2) rfl (hX5_clearUnits.at 16 rfl rfl) ?_
    exact osW.sub [1, 0] rfl (g2 l0 (l1 + (1 : Int32)))
set_option maxRecDepth 100000 in
set_option maxHeartbeats 4000000 in
theorem sX5_clearUnits_2 (N : Nat) (l0 : Nat) (l1 : Int32) : osW (osFinM (fun _ : Unit => none) 0 0) yX5_clearUnits cX5_clearUnits 2 none [] { frames := 0, cells := 0, slots := 0, locals := 0 } 0 0 2 [(0, .ref l0), (1, .int l1)] [] (qX5_clearUnits_2 N (l0, l1)) :=
  osloop_W (lvf := fun p => [(0, .ref p.1), (1, .int p.2)]) (stf := fun p => []) (fun ih g p => tX5_clearUnits_2 N ih (fun l0 l1 => g (l0, l1)) p.1 p.2) N (l0, l1)
set_option maxRecDepth 100000 in
set_option maxHeartbeats 4000000 in
theorem sX5_clearUnits (N : Nat) (l0 : Nat) : osMet yX5_clearUnits cX5_clearUnits 2 none 0 0 0 0 (fun _ : Unit => none) [.ref l0] (qX5_clearUnits N l0) := by
  refine osMet.of plX5 (Nat.le_of_ble_eq_true rfl) (osW.rw (lv2 := [(0, .ref l0)]) ?_ rfl rfl rfl)
  unfold qX5_clearUnits
  refine os_iconst (i := 0) (v := (0 : Int32)) rfl (hX5_clearUnits.at 0 rfl rfl) ?_
  refine os_istore_n (i := 1) (q := 1) rfl (lv' := [(1, .int (0 : Int32)), (0, .ref l0)]) (Nat.le_of_ble_eq_true rfl) rfl (hX5_clearUnits.at 1 rfl rfl) ?_
  exact osW.sub [1, 0] rfl (sX5_clearUnits_2 N l0 (0 : Int32))
-- X5_clearDislodged
def KX5_clearDislodged : List (Nat × Nat × Instr) := [(0, 1, .iconst 0), (1, 1, .istore_n 1), (2, 1, .iload_n 1), (3, 2, .bipush 16), (5, 3, .if_icmp .ge 37), (8, 1, .aload_n 0), (9, 3, .getfield 38), (12, 1, .iload_n 1), (13, 1, .iconst (-1)), (14, 1, .iastore), (15, 1, .aload_n 0), (16, 3, .getfield 41), (19, 1, .iload_n 1), (20, 1, .iconst (-1)), (21, 1, .iastore), (22, 1, .aload_n 0), (23, 3, .getfield 44), (26, 1, .iload_n 1), (27, 1, .iconst (-1)), (28, 1, .iastore), (29, 1, .aload_n 0), (30, 3, .getfield 47), (33, 1, .iload_n 1), (34, 1, .iconst (-1)), (35, 1, .iastore), (36, 3, .iinc 1 1), (39, 3, .goto (-37)), (42, 1, .return_)]
theorem hX5_clearDislodged : osDs cX5_clearDislodged KX5_clearDislodged := by
  show ∀ q ∈ KX5_clearDislodged, decode cX5_clearDislodged q.1 = .ok (q.2.2, q.2.1)
  decide +kernel
def bX5_clearDislodged_2 (N : Nat) (c2 : Nat × Int32 → osM Unit) (l0 : Nat) (l1 : Int32) : osM Unit := osite ((16 : Int32) ≤ l1) (osret ()) (osbind (osgR [5] 8 l0) fun x1 => osbind (ossI 0 x1 l1 (-1 : Int32)) fun _ => osbind (osgR [5] 9 l0) fun x2 => osbind (ossI 0 x2 l1 (-1 : Int32)) fun _ => osbind (osgR [5] 10 l0) fun x3 => osbind (ossI 0 x3 l1 (-1 : Int32)) fun _ => osbind (osgR [5] 11 l0) fun x4 => osbind (ossI 0 x4 l1 (-1 : Int32)) fun _ => c2 (l0, (l1 + (1 : Int32))))
def qX5_clearDislodged_2 (N : Nat) : Nat × Int32 → osM Unit := osloop (fun ih p => bX5_clearDislodged_2 N ih p.1 p.2) N
def qX5_clearDislodged (N : Nat) (l0 : Nat) : osM Unit := qX5_clearDislodged_2 N (l0, (0 : Int32))
set_option maxRecDepth 100000 in
set_option maxHeartbeats 4000000 in
theorem tX5_clearDislodged_2 (N : Nat) (c2 : Nat × Int32 → osM Unit) (g2 : ∀ (l0 : Nat) (l1 : Int32), osW (osFinM (fun _ : Unit => none) 0 0) yX5_clearDislodged cX5_clearDislodged 2 none [] { frames := 0, cells := 0, slots := 0, locals := 0 } 0 0 2 [(0, .ref l0), (1, .int l1)] [] (c2 (l0, l1))) (l0 : Nat) (l1 : Int32) : osW (osFinM (fun _ : Unit => none) 0 0) yX5_clearDislodged cX5_clearDislodged 2 none [] { frames := 0, cells := 0, slots := 0, locals := 0 } 0 0 2 [(0, .ref l0), (1, .int l1)] [] (bX5_clearDislodged_2 N c2 l0 l1) := by
  unfold bX5_clearDislodged_2
  refine os_iload_n (i := 1) (q := 1) (v := l1) 1 rfl rfl (hX5_clearDislodged.at 2 rfl rfl) ?_
  refine os_bipush (i := 16) (v := (16 : Int32)) rfl (hX5_clearDislodged.at 3 rfl rfl) ?_
  refine os_icmp_ge (off := 37) (tgt := 42) rfl (hX5_clearDislodged.at 4 rfl rfl) ?_ ?_
  · exact os_vret (Nat.le_of_ble_eq_true rfl) (Nat.le_of_ble_eq_true rfl) (hX5_clearDislodged.at 27 rfl rfl).1
  · refine os_aload_n (i := 0) (q := 0) (v := l0) 0 rfl rfl (hX5_clearDislodged.at 5 rfl rfl) ?_
    refine os_getR fX5_38 (hX5_clearDislodged.at 6 rfl rfl) (fun x1 => ?_)
    refine os_iload_n (i := 1) (q := 1) (v := l1) 1 rfl rfl (hX5_clearDislodged.at 7 rfl rfl) ?_
    refine os_iconst (i := (-1)) (v := (-1 : Int32)) rfl (hX5_clearDislodged.at 8 rfl rfl) ?_
    refine os_iastore (hX5_clearDislodged.at 9 rfl rfl) ?_
    refine os_aload_n (i := 0) (q := 0) (v := l0) 0 rfl rfl (hX5_clearDislodged.at 10 rfl rfl) ?_
    refine os_getR fX5_41 (hX5_clearDislodged.at 11 rfl rfl) (fun x2 => ?_)
    refine os_iload_n (i := 1) (q := 1) (v := l1) 1 rfl rfl (hX5_clearDislodged.at 12 rfl rfl) ?_
    refine os_iconst (i := (-1)) (v := (-1 : Int32)) rfl (hX5_clearDislodged.at 13 rfl rfl) ?_
    refine os_iastore (hX5_clearDislodged.at 14 rfl rfl) ?_
    refine os_aload_n (i := 0) (q := 0) (v := l0) 0 rfl rfl (hX5_clearDislodged.at 15 rfl rfl) ?_
    refine os_getR fX5_44 (hX5_clearDislodged.at 16 rfl rfl) (fun x3 => ?_)
    refine os_iload_n (i := 1) (q := 1) (v := l1) 1 rfl rfl (hX5_clearDislodged.at 17 rfl rfl) ?_
    refine os_iconst (i := (-1)) (v := (-1 : Int32)) rfl (hX5_clearDislodged.at 18 rfl rfl) ?_
    refine os_iastore (hX5_clearDislodged.at 19 rfl rfl) ?_
    refine os_aload_n (i := 0) (q := 0) (v := l0) 0 rfl rfl (hX5_clearDislodged.at 20 rfl rfl) ?_
    refine os_getR fX5_47 (hX5_clearDislodged.at 21 rfl rfl) (fun x4 => ?_)
    refine os_iload_n (i := 1) (q := 1) (v := l1) 1 rfl rfl (hX5_clearDislodged.at 22 rfl rfl) ?_
    refine os_iconst (i := (-1)) (v := (-1 : Int32)) rfl (hX5_clearDislodged.at 23 rfl rfl) ?_
    refine os_iastore (hX5_clearDislodged.at 24 rfl rfl) ?_
    refine os_iinc (i := 1) (d := 1) (x := l1) (v := (1 : Int32)) (lv' := [(1, .int (l1 + (1 : Int32))), (0, .ref l0)]) 1 rfl rfl (Nat.le_of_ble_eq_true rfl) rfl (hX5_clearDislodged.at 25 rfl rfl) ?_
    refine os_goto (off := (-37)) (tgt := 2) rfl (hX5_clearDislodged.at 26 rfl rfl) ?_
    exact osW.sub [1, 0] rfl (g2 l0 (l1 + (1 : Int32)))
set_option maxRecDepth 100000 in
set_option maxHeartbeats 4000000 in
theorem sX5_clearDislodged_2 (N : Nat) (l0 : Nat) (l1 : Int32) : osW (osFinM (fun _ : Unit => none) 0 0) yX5_clearDislodged cX5_clearDislodged 2 none [] { frames := 0, cells := 0, slots := 0, locals := 0 } 0 0 2 [(0, .ref l0), (1, .int l1)] [] (qX5_clearDislodged_2 N (l0, l1)) :=
  osloop_W (lvf := fun p => [(0, .ref p.1), (1, .int p.2)]) (stf := fun p => []) (fun ih g p => tX5_clearDislodged_2 N ih (fun l0 l1 => g (l0, l1)) p.1 p.2) N (l0, l1)
set_option maxRecDepth 100000 in
set_option maxHeartbeats 4000000 in
theorem sX5_clearDislodged (N : Nat) (l0 : Nat) : osMet yX5_clearDislodged cX5_clearDislodged 2 none 0 0 0 0 (fun _ : Unit => none) [.ref l0] (qX5_clearDislodged N l0) := by
  refine osMet.of plX5 (Nat.le_of_ble_eq_true rfl) (osW.rw (lv2 := [(0, .ref l0)]) ?_ rfl rfl rfl)
  unfold qX5_clearDislodged
  refine os_iconst (i := 0) (v := (0 : Int32)) rfl (hX5_clearDislodged.at 0 rfl rfl) ?_
  refine os_istore_n (i := 1) (q := 1) rfl (lv' := [(1, .int (0 : Int32)), (0, .ref l0)]) (Nat.le_of_ble_eq_true rfl) rfl (hX5_clearDislodged.at 1 rfl rfl) ?_
  exact osW.sub [1, 0] rfl (sX5_clearDislodged_2 N l0 (0 : Int32))
-- X5_copyRow
def KX5_copyRow : List (Nat × Nat × Instr) := [(0, 1, .aload_n 0), (1, 1, .iconst 0), (2, 1, .aload_n 1), (3, 1, .iconst 0), (4, 1, .aload_n 0), (5, 1, .arraylength), (6, 1, .aload_n 1), (7, 1, .arraylength), (8, 3, .invokestatic 82), (11, 3, .invokestatic 88), (14, 1, .return_)]
theorem hX5_copyRow : osDs cX5_copyRow KX5_copyRow := by
  show ∀ q ∈ KX5_copyRow, decode cX5_copyRow q.1 = .ok (q.2.2, q.2.1)
  decide +kernel
def qX5_copyRow (N : Nat) (l0 : Nat) (l1 : Nat) : osM Unit := osbind (oslen l0) fun x1 => osbind (oslen l1) fun x2 => osbind (oscopy l0 (0 : Int32) l1 (0 : Int32) (osmin x1 x2)) fun _ => osret ()
set_option maxRecDepth 100000 in
set_option maxHeartbeats 4000000 in
theorem sX5_copyRow (N : Nat) (l0 : Nat) (l1 : Nat) : osMet yX5_copyRow cX5_copyRow 2 none 1 60 0 0 (fun _ : Unit => none) [.ref l0, .ref l1] (qX5_copyRow N l0 l1) := by
  refine osMet.of plX5 (Nat.le_of_ble_eq_true rfl) (osW.rw (lv2 := [(0, .ref l0), (1, .ref l1)]) ?_ rfl rfl rfl)
  unfold qX5_copyRow
  refine os_aload_n (i := 0) (q := 0) (v := l0) 0 rfl rfl (hX5_copyRow.at 0 rfl rfl) ?_
  refine os_iconst (i := 0) (v := (0 : Int32)) rfl (hX5_copyRow.at 1 rfl rfl) ?_
  refine os_aload_n (i := 1) (q := 1) (v := l1) 1 rfl rfl (hX5_copyRow.at 2 rfl rfl) ?_
  refine os_iconst (i := 0) (v := (0 : Int32)) rfl (hX5_copyRow.at 3 rfl rfl) ?_
  refine os_aload_n (i := 0) (q := 0) (v := l0) 0 rfl rfl (hX5_copyRow.at 4 rfl rfl) ?_
  refine os_arraylength (hX5_copyRow.at 5 rfl rfl) (fun x1 => ?_)
  refine os_aload_n (i := 1) (q := 1) (v := l1) 1 rfl rfl (hX5_copyRow.at 6 rfl rfl) ?_
  refine os_arraylength (hX5_copyRow.at 7 rfl rfl) (fun x2 => ?_)
  refine os_min wd1109 wd655 wd68 wmin (Nat.le_of_ble_eq_true rfl) (Nat.le_of_ble_eq_true rfl) (Nat.le_of_ble_eq_true rfl) (Nat.le_of_ble_eq_true rfl) (Nat.le_of_ble_eq_true rfl) (hX5_copyRow.at 8 rfl rfl) ?_
  refine os_arraycopy wd1110 wd910 wd909 wd70 (Nat.le_of_ble_eq_true rfl) (Nat.le_of_ble_eq_true rfl) (Nat.le_of_ble_eq_true rfl) (hX5_copyRow.at 9 rfl rfl) ?_
  exact os_vret (Nat.le_of_ble_eq_true rfl) (Nat.le_of_ble_eq_true rfl) (hX5_copyRow.at 10 rfl rfl).1
-- X5_placeUnit
def KX5_placeUnit : List (Nat × Nat × Instr) := [(0, 1, .iload_n 1), (1, 3, .ifCond .lt 23), (4, 1, .iload_n 1), (5, 2, .bipush 16), (7, 3, .if_icmp .ge 17), (10, 1, .aload_n 0), (11, 3, .getfield 32), (14, 1, .iload_n 1), (15, 1, .iload_n 2), (16, 1, .iastore), (17, 1, .aload_n 0), (18, 3, .getfield 35), (21, 1, .iload_n 1), (22, 1, .iload_n 3), (23, 1, .iastore), (24, 1, .return_)]
theorem hX5_placeUnit : osDs cX5_placeUnit KX5_placeUnit := by
  show ∀ q ∈ KX5_placeUnit, decode cX5_placeUnit q.1 = .ok (q.2.2, q.2.1)
  decide +kernel
def qX5_placeUnit_24 (N : Nat) : osM Unit := osret ()
def qX5_placeUnit (N : Nat) (l0 : Nat) (l1 : Int32) (l2 : Int32) (l3 : Int32) : osM Unit := osite (l1 < 0) (qX5_placeUnit_24 N ) (osite ((16 : Int32) ≤ l1) (qX5_placeUnit_24 N ) (osbind (osgR [5] 6 l0) fun x1 => osbind (ossI 0 x1 l1 l2) fun _ => osbind (osgR [5] 7 l0) fun x2 => osbind (ossI 0 x2 l1 l3) fun _ => qX5_placeUnit_24 N ))
set_option maxRecDepth 100000 in
set_option maxHeartbeats 4000000 in
theorem sX5_placeUnit_24 (N : Nat) : osW (osFinM (fun _ : Unit => none) 0 0) yX5_placeUnit cX5_placeUnit 4 none [] { frames := 0, cells := 0, slots := 0, locals := 0 } 0 0 24 [] [] (qX5_placeUnit_24 N) := by
  unfold qX5_placeUnit_24
  exact os_vret (Nat.le_of_ble_eq_true rfl) (Nat.le_of_ble_eq_true rfl) (hX5_placeUnit.at 15 rfl rfl).1
set_option maxRecDepth 100000 in
set_option maxHeartbeats 4000000 in
theorem sX5_placeUnit (N : Nat) (l0 : Nat) (l1 : Int32) (l2 : Int32) (l3 : Int32) : osMet yX5_placeUnit cX5_placeUnit 4 none 0 0 0 0 (fun _ : Unit => none) [.ref l0, .int l1, .int l2, .int l3] (qX5_placeUnit N l0 l1 l2 l3) := by
  refine osMet.of plX5 (Nat.le_of_ble_eq_true rfl) (osW.rw (lv2 := [(0, .ref l0), (1, .int l1), (2, .int l2), (3, .int l3)]) ?_ rfl rfl rfl)
  unfold qX5_placeUnit
  refine os_iload_n (i := 1) (q := 1) (v := l1) 1 rfl rfl (hX5_placeUnit.at 0 rfl rfl) ?_
  refine os_if_lt (off := 23) (tgt := 24) rfl (hX5_placeUnit.at 1 rfl rfl) ?_ ?_
  · exact osW.sub [] rfl (sX5_placeUnit_24 N )
  · refine os_iload_n (i := 1) (q := 1) (v := l1) 1 rfl rfl (hX5_placeUnit.at 2 rfl rfl) ?_
    refine os_bipush (i := 16) (v := (16 : Int32)) rfl (hX5_placeUnit.at 3 rfl rfl) ?_
    refine os_icmp_ge (off := 17) (tgt := 24) rfl (hX5_placeUnit.at 4 rfl rfl) ?_ ?_
    · exact osW.sub [] rfl (sX5_placeUnit_24 N )
    · refine os_aload_n (i := 0) (q := 0) (v := l0) 0 rfl rfl (hX5_placeUnit.at 5 rfl rfl) ?_
      refine os_getR fX5_32 (hX5_placeUnit.at 6 rfl rfl) (fun x1 => ?_)
      refine os_iload_n (i := 1) (q := 1) (v := l1) 1 rfl rfl (hX5_placeUnit.at 7 rfl rfl) ?_
      refine os_iload_n (i := 2) (q := 2) (v := l2) 2 rfl rfl (hX5_placeUnit.at 8 rfl rfl) ?_
      refine os_iastore (hX5_placeUnit.at 9 rfl rfl) ?_
      refine os_aload_n (i := 0) (q := 0) (v := l0) 0 rfl rfl (hX5_placeUnit.at 10 rfl rfl) ?_
      refine os_getR fX5_35 (hX5_placeUnit.at 11 rfl rfl) (fun x2 => ?_)
      refine os_iload_n (i := 1) (q := 1) (v := l1) 1 rfl rfl (hX5_placeUnit.at 12 rfl rfl) ?_
      refine os_iload_n (i := 3) (q := 3) (v := l3) 3 rfl rfl (hX5_placeUnit.at 13 rfl rfl) ?_
      refine os_iastore (hX5_placeUnit.at 14 rfl rfl) ?_
      exact osW.sub [] rfl (sX5_placeUnit_24 N )
-- X5_giveOrder
def KX5_giveOrder : List (Nat × Nat × Instr) := [(0, 1, .iload_n 1), (1, 3, .ifCond .lt 31), (4, 1, .iload_n 1), (5, 2, .bipush 16), (7, 3, .if_icmp .ge 25), (10, 1, .aload_n 0), (11, 3, .getfield 50), (14, 1, .iload_n 1), (15, 1, .iload_n 2), (16, 1, .iastore), (17, 1, .aload_n 0), (18, 3, .getfield 53), (21, 1, .iload_n 1), (22, 1, .iload_n 3), (23, 1, .iastore), (24, 1, .aload_n 0), (25, 3, .getfield 56), (28, 1, .iload_n 1), (29, 2, .iload 4), (31, 1, .iastore), (32, 1, .return_)]
theorem hX5_giveOrder : osDs cX5_giveOrder KX5_giveOrder := by
  show ∀ q ∈ KX5_giveOrder, decode cX5_giveOrder q.1 = .ok (q.2.2, q.2.1)
  decide +kernel
def qX5_giveOrder_32 (N : Nat) : osM Unit := osret ()
def qX5_giveOrder (N : Nat) (l0 : Nat) (l1 : Int32) (l2 : Int32) (l3 : Int32) (l4 : Int32) : osM Unit := osite (l1 < 0) (qX5_giveOrder_32 N ) (osite ((16 : Int32) ≤ l1) (qX5_giveOrder_32 N ) (osbind (osgR [5] 12 l0) fun x1 => osbind (ossI 0 x1 l1 l2) fun _ => osbind (osgR [5] 13 l0) fun x2 => osbind (ossI 0 x2 l1 l3) fun _ => osbind (osgR [5] 14 l0) fun x3 => osbind (ossI 0 x3 l1 l4) fun _ => qX5_giveOrder_32 N ))
set_option maxRecDepth 100000 in
set_option maxHeartbeats 4000000 in
theorem sX5_giveOrder_32 (N : Nat) : osW (osFinM (fun _ : Unit => none) 0 0) yX5_giveOrder cX5_giveOrder 5 none [] { frames := 0, cells := 0, slots := 0, locals := 0 } 0 0 32 [] [] (qX5_giveOrder_32 N) := by
  unfold qX5_giveOrder_32
  exact os_vret (Nat.le_of_ble_eq_true rfl) (Nat.le_of_ble_eq_true rfl) (hX5_giveOrder.at 20 rfl rfl).1
set_option maxRecDepth 100000 in
set_option maxHeartbeats 4000000 in
theorem sX5_giveOrder (N : Nat) (l0 : Nat) (l1 : Int32) (l2 : Int32) (l3 : Int32) (l4 : Int32) : osMet yX5_giveOrder cX5_giveOrder 5 none 0 0 0 0 (fun _ : Unit => none) [.ref l0, .int l1, .int l2, .int l3, .int l4] (qX5_giveOrder N l0 l1 l2 l3 l4) := by
  refine osMet.of plX5 (Nat.le_of_ble_eq_true rfl) (osW.rw (lv2 := [(0, .ref l0), (1, .int l1), (2, .int l2), (3, .int l3), (4, .int l4)]) ?_ rfl rfl rfl)
  unfold qX5_giveOrder
  refine os_iload_n (i := 1) (q := 1) (v := l1) 1 rfl rfl (hX5_giveOrder.at 0 rfl rfl) ?_
  refine os_if_lt (off := 31) (tgt := 32) rfl (hX5_giveOrder.at 1 rfl rfl) ?_ ?_
  · exact osW.sub [] rfl (sX5_giveOrder_32 N )
  · refine os_iload_n (i := 1) (q := 1) (v := l1) 1 rfl rfl (hX5_giveOrder.at 2 rfl rfl) ?_
    refine os_bipush (i := 16) (v := (16 : Int32)) rfl (hX5_giveOrder.at 3 rfl rfl) ?_
    refine os_icmp_ge (off := 25) (tgt := 32) rfl (hX5_giveOrder.at 4 rfl rfl) ?_ ?_
    · exact osW.sub [] rfl (sX5_giveOrder_32 N )
    · refine os_aload_n (i := 0) (q := 0) (v := l0) 0 rfl rfl (hX5_giveOrder.at 5 rfl rfl) ?_
      refine os_getR fX5_50 (hX5_giveOrder.at 6 rfl rfl) (fun x1 => ?_)
      refine os_iload_n (i := 1) (q := 1) (v := l1) 1 rfl rfl (hX5_giveOrder.at 7 rfl rfl) ?_
      refine os_iload_n (i := 2) (q := 2) (v := l2) 2 rfl rfl (hX5_giveOrder.at 8 rfl rfl) ?_
      refine os_iastore (hX5_giveOrder.at 9 rfl rfl) ?_
      refine os_aload_n (i := 0) (q := 0) (v := l0) 0 rfl rfl (hX5_giveOrder.at 10 rfl rfl) ?_
      refine os_getR fX5_53 (hX5_giveOrder.at 11 rfl rfl) (fun x2 => ?_)
      refine os_iload_n (i := 1) (q := 1) (v := l1) 1 rfl rfl (hX5_giveOrder.at 12 rfl rfl) ?_
      refine os_iload_n (i := 3) (q := 3) (v := l3) 3 rfl rfl (hX5_giveOrder.at 13 rfl rfl) ?_
      refine os_iastore (hX5_giveOrder.at 14 rfl rfl) ?_
      refine os_aload_n (i := 0) (q := 0) (v := l0) 0 rfl rfl (hX5_giveOrder.at 15 rfl rfl) ?_
      refine os_getR fX5_56 (hX5_giveOrder.at 16 rfl rfl) (fun x3 => ?_)
      refine os_iload_n (i := 1) (q := 1) (v := l1) 1 rfl rfl (hX5_giveOrder.at 17 rfl rfl) ?_
      refine os_iload (v := l4) 4 rfl (hX5_giveOrder.at 18 rfl rfl) ?_
      refine os_iastore (hX5_giveOrder.at 19 rfl rfl) ?_
      exact osW.sub [] rfl (sX5_giveOrder_32 N )
-- X5_giveRetreat
def KX5_giveRetreat : List (Nat × Nat × Instr) := [(0, 1, .iload_n 1), (1, 3, .ifCond .lt 16), (4, 1, .iload_n 1), (5, 2, .bipush 16), (7, 3, .if_icmp .ge 10), (10, 1, .aload_n 0), (11, 3, .getfield 47), (14, 1, .iload_n 1), (15, 1, .iload_n 2), (16, 1, .iastore), (17, 1, .return_)]
theorem hX5_giveRetreat : osDs cX5_giveRetreat KX5_giveRetreat := by
  show ∀ q ∈ KX5_giveRetreat, decode cX5_giveRetreat q.1 = .ok (q.2.2, q.2.1)
  decide +kernel
def qX5_giveRetreat_17 (N : Nat) : osM Unit := osret ()
def qX5_giveRetreat (N : Nat) (l0 : Nat) (l1 : Int32) (l2 : Int32) : osM Unit := osite (l1 < 0) (qX5_giveRetreat_17 N ) (osite ((16 : Int32) ≤ l1) (qX5_giveRetreat_17 N ) (osbind (osgR [5] 11 l0) fun x1 => osbind (ossI 0 x1 l1 l2) fun _ => qX5_giveRetreat_17 N ))
set_option maxRecDepth 100000 in
set_option maxHeartbeats 4000000 in
theorem sX5_giveRetreat_17 (N : Nat) : osW (osFinM (fun _ : Unit => none) 0 0) yX5_giveRetreat cX5_giveRetreat 3 none [] { frames := 0, cells := 0, slots := 0, locals := 0 } 0 0 17 [] [] (qX5_giveRetreat_17 N) := by
  unfold qX5_giveRetreat_17
  exact os_vret (Nat.le_of_ble_eq_true rfl) (Nat.le_of_ble_eq_true rfl) (hX5_giveRetreat.at 10 rfl rfl).1
set_option maxRecDepth 100000 in
set_option maxHeartbeats 4000000 in
theorem sX5_giveRetreat (N : Nat) (l0 : Nat) (l1 : Int32) (l2 : Int32) : osMet yX5_giveRetreat cX5_giveRetreat 3 none 0 0 0 0 (fun _ : Unit => none) [.ref l0, .int l1, .int l2] (qX5_giveRetreat N l0 l1 l2) := by
  refine osMet.of plX5 (Nat.le_of_ble_eq_true rfl) (osW.rw (lv2 := [(0, .ref l0), (1, .int l1), (2, .int l2)]) ?_ rfl rfl rfl)
  unfold qX5_giveRetreat
  refine os_iload_n (i := 1) (q := 1) (v := l1) 1 rfl rfl (hX5_giveRetreat.at 0 rfl rfl) ?_
  refine os_if_lt (off := 16) (tgt := 17) rfl (hX5_giveRetreat.at 1 rfl rfl) ?_ ?_
  · exact osW.sub [] rfl (sX5_giveRetreat_17 N )
  · refine os_iload_n (i := 1) (q := 1) (v := l1) 1 rfl rfl (hX5_giveRetreat.at 2 rfl rfl) ?_
    refine os_bipush (i := 16) (v := (16 : Int32)) rfl (hX5_giveRetreat.at 3 rfl rfl) ?_
    refine os_icmp_ge (off := 10) (tgt := 17) rfl (hX5_giveRetreat.at 4 rfl rfl) ?_ ?_
    · exact osW.sub [] rfl (sX5_giveRetreat_17 N )
    · refine os_aload_n (i := 0) (q := 0) (v := l0) 0 rfl rfl (hX5_giveRetreat.at 5 rfl rfl) ?_
      refine os_getR fX5_47 (hX5_giveRetreat.at 6 rfl rfl) (fun x1 => ?_)
      refine os_iload_n (i := 1) (q := 1) (v := l1) 1 rfl rfl (hX5_giveRetreat.at 7 rfl rfl) ?_
      refine os_iload_n (i := 2) (q := 2) (v := l2) 2 rfl rfl (hX5_giveRetreat.at 8 rfl rfl) ?_
      refine os_iastore (hX5_giveRetreat.at 9 rfl rfl) ?_
      exact osW.sub [] rfl (sX5_giveRetreat_17 N )
-- X5_giveCenter
def KX5_giveCenter : List (Nat × Nat × Instr) := [(0, 1, .iload_n 1), (1, 3, .ifCond .lt 16), (4, 1, .iload_n 1), (5, 2, .bipush 16), (7, 3, .if_icmp .ge 10), (10, 1, .aload_n 0), (11, 3, .getfield 28), (14, 1, .iload_n 1), (15, 1, .iload_n 2), (16, 1, .iastore), (17, 1, .return_)]
theorem hX5_giveCenter : osDs cX5_giveCenter KX5_giveCenter := by
  show ∀ q ∈ KX5_giveCenter, decode cX5_giveCenter q.1 = .ok (q.2.2, q.2.1)
  decide +kernel
def qX5_giveCenter_17 (N : Nat) : osM Unit := osret ()
def qX5_giveCenter (N : Nat) (l0 : Nat) (l1 : Int32) (l2 : Int32) : osM Unit := osite (l1 < 0) (qX5_giveCenter_17 N ) (osite ((16 : Int32) ≤ l1) (qX5_giveCenter_17 N ) (osbind (osgR [5] 5 l0) fun x1 => osbind (ossI 0 x1 l1 l2) fun _ => qX5_giveCenter_17 N ))
set_option maxRecDepth 100000 in
set_option maxHeartbeats 4000000 in
theorem sX5_giveCenter_17 (N : Nat) : osW (osFinM (fun _ : Unit => none) 0 0) yX5_giveCenter cX5_giveCenter 3 none [] { frames := 0, cells := 0, slots := 0, locals := 0 } 0 0 17 [] [] (qX5_giveCenter_17 N) := by
  unfold qX5_giveCenter_17
  exact os_vret (Nat.le_of_ble_eq_true rfl) (Nat.le_of_ble_eq_true rfl) (hX5_giveCenter.at 10 rfl rfl).1
set_option maxRecDepth 100000 in
set_option maxHeartbeats 4000000 in
theorem sX5_giveCenter (N : Nat) (l0 : Nat) (l1 : Int32) (l2 : Int32) : osMet yX5_giveCenter cX5_giveCenter 3 none 0 0 0 0 (fun _ : Unit => none) [.ref l0, .int l1, .int l2] (qX5_giveCenter N l0 l1 l2) := by
  refine osMet.of plX5 (Nat.le_of_ble_eq_true rfl) (osW.rw (lv2 := [(0, .ref l0), (1, .int l1), (2, .int l2)]) ?_ rfl rfl rfl)
  unfold qX5_giveCenter
  refine os_iload_n (i := 1) (q := 1) (v := l1) 1 rfl rfl (hX5_giveCenter.at 0 rfl rfl) ?_
  refine os_if_lt (off := 16) (tgt := 17) rfl (hX5_giveCenter.at 1 rfl rfl) ?_ ?_
  · exact osW.sub [] rfl (sX5_giveCenter_17 N )
  · refine os_iload_n (i := 1) (q := 1) (v := l1) 1 rfl rfl (hX5_giveCenter.at 2 rfl rfl) ?_
    refine os_bipush (i := 16) (v := (16 : Int32)) rfl (hX5_giveCenter.at 3 rfl rfl) ?_
    refine os_icmp_ge (off := 10) (tgt := 17) rfl (hX5_giveCenter.at 4 rfl rfl) ?_ ?_
    · exact osW.sub [] rfl (sX5_giveCenter_17 N )
    · refine os_aload_n (i := 0) (q := 0) (v := l0) 0 rfl rfl (hX5_giveCenter.at 5 rfl rfl) ?_
      refine os_getR fX5_28 (hX5_giveCenter.at 6 rfl rfl) (fun x1 => ?_)
      refine os_iload_n (i := 1) (q := 1) (v := l1) 1 rfl rfl (hX5_giveCenter.at 7 rfl rfl) ?_
      refine os_iload_n (i := 2) (q := 2) (v := l2) 2 rfl rfl (hX5_giveCenter.at 8 rfl rfl) ?_
      refine os_iastore (hX5_giveCenter.at 9 rfl rfl) ?_
      exact osW.sub [] rfl (sX5_giveCenter_17 N )
-- X5_countOf
def KX5_countOf : List (Nat × Nat × Instr) := [(0, 1, .iconst 0), (1, 1, .istore_n 2), (2, 1, .iconst 0), (3, 1, .istore_n 3), (4, 1, .iload_n 3), (5, 1, .aload_n 0), (6, 1, .arraylength), (7, 3, .if_icmp .ge 19), (10, 1, .aload_n 0), (11, 1, .iload_n 3), (12, 1, .iaload), (13, 1, .iload_n 1), (14, 3, .if_icmp .ne 6), (17, 3, .iinc 2 1), (20, 3, .iinc 3 1), (23, 3, .goto (-19)), (26, 1, .iload_n 2), (27, 1, .ireturn)]
theorem hX5_countOf : osDs cX5_countOf KX5_countOf := by
  show ∀ q ∈ KX5_countOf, decode cX5_countOf q.1 = .ok (q.2.2, q.2.1)
  decide +kernel
def qX5_countOf_20 (N : Nat) (c4 : Nat × Int32 × Int32 × Int32 → osM Int32) (l0 : Nat) (l1 : Int32) (l2 : Int32) (l3 : Int32) : osM Int32 := c4 (l0, l1, l2, (l3 + (1 : Int32)))
def bX5_countOf_4 (N : Nat) (c4 : Nat × Int32 × Int32 × Int32 → osM Int32) (l0 : Nat) (l1 : Int32) (l2 : Int32) (l3 : Int32) : osM Int32 := osbind (oslen l0) fun x1 => osite (x1 ≤ l3) (osret l2) (osbind (osaI 0 l0 l3) fun x2 => osite (x2 = l1) (qX5_countOf_20 N c4 l0 l1 (l2 + (1 : Int32)) l3) (qX5_countOf_20 N c4 l0 l1 l2 l3))
def qX5_countOf_4 (N : Nat) : Nat × Int32 × Int32 × Int32 → osM Int32 := osloop (fun ih p => bX5_countOf_4 N ih p.1 p.2.1 p.2.2.1 p.2.2.2) N
def qX5_countOf (N : Nat) (l0 : Nat) (l1 : Int32) : osM Int32 := qX5_countOf_4 N (l0, l1, (0 : Int32), (0 : Int32))
set_option maxRecDepth 100000 in
set_option maxHeartbeats 4000000 in
theorem sX5_countOf_20 (N : Nat) (c4 : Nat × Int32 × Int32 × Int32 → osM Int32) (g4 : ∀ (l0 : Nat) (l1 : Int32) (l2 : Int32) (l3 : Int32), osW (osFinM (fun r : Int32 => some (.int r)) 0 0) yX5_countOf cX5_countOf 4 (some .int) [] { frames := 0, cells := 0, slots := 0, locals := 0 } 0 0 4 [(0, .ref l0), (1, .int l1), (2, .int l2), (3, .int l3)] [] (c4 (l0, l1, l2, l3))) (l0 : Nat) (l1 : Int32) (l2 : Int32) (l3 : Int32) : osW (osFinM (fun r : Int32 => some (.int r)) 0 0) yX5_countOf cX5_countOf 4 (some .int) [] { frames := 0, cells := 0, slots := 0, locals := 0 } 0 0 20 [(0, .ref l0), (1, .int l1), (2, .int l2), (3, .int l3)] [] (qX5_countOf_20 N c4 l0 l1 l2 l3) := by
  unfold qX5_countOf_20
  refine os_iinc (i := 3) (d := 1) (x := l3) (v := (1 : Int32)) (lv' := [(3, .int (l3 + (1 : Int32))), (0, .ref l0), (1, .int l1), (2, .int l2)]) 3 rfl rfl (Nat.le_of_ble_eq_true rfl) rfl (hX5_countOf.at 14 rfl rfl) ?_
  refine os_goto (off := (-19)) (tgt := 4) rfl (hX5_countOf.at 15 rfl rfl) ?_
  exact osW.sub [1, 2, 3, 0] rfl (g4 l0 l1 l2 (l3 + (1 : Int32)))
set_option maxRecDepth 100000 in
set_option maxHeartbeats 4000000 in
theorem tX5_countOf_4 (N : Nat) (c4 : Nat × Int32 × Int32 × Int32 → osM Int32) (g4 : ∀ (l0 : Nat) (l1 : Int32) (l2 : Int32) (l3 : Int32), osW (osFinM (fun r : Int32 => some (.int r)) 0 0) yX5_countOf cX5_countOf 4 (some .int) [] { frames := 0, cells := 0, slots := 0, locals := 0 } 0 0 4 [(0, .ref l0), (1, .int l1), (2, .int l2), (3, .int l3)] [] (c4 (l0, l1, l2, l3))) (l0 : Nat) (l1 : Int32) (l2 : Int32) (l3 : Int32) : osW (osFinM (fun r : Int32 => some (.int r)) 0 0) yX5_countOf cX5_countOf 4 (some .int) [] { frames := 0, cells := 0, slots := 0, locals := 0 } 0 0 4 [(0, .ref l0), (1, .int l1), (2, .int l2), (3, .int l3)] [] (bX5_countOf_4 N c4 l0 l1 l2 l3) := by
  unfold bX5_countOf_4
  refine os_iload_n (i := 3) (q := 3) (v := l3) 3 rfl rfl (hX5_countOf.at 4 rfl rfl) ?_
  refine os_aload_n (i := 0) (q := 0) (v := l0) 0 rfl rfl (hX5_countOf.at 5 rfl rfl) ?_
  refine os_arraylength (hX5_countOf.at 6 rfl rfl) (fun x1 => ?_)
  refine os_icmp_ge (off := 19) (tgt := 26) rfl (hX5_countOf.at 7 rfl rfl) ?_ ?_
  · refine os_iload_n (i := 2) (q := 2) (v := l2) 2 rfl rfl (hX5_countOf.at 16 rfl rfl) ?_
    exact os_iret (Nat.le_of_ble_eq_true rfl) (Nat.le_of_ble_eq_true rfl) (hX5_countOf.at 17 rfl rfl).1
  · refine os_aload_n (i := 0) (q := 0) (v := l0) 0 rfl rfl (hX5_countOf.at 8 rfl rfl) ?_
    refine os_iload_n (i := 3) (q := 3) (v := l3) 3 rfl rfl (hX5_countOf.at 9 rfl rfl) ?_
    refine os_iaload (hX5_countOf.at 10 rfl rfl) (fun x2 => ?_)
    refine os_iload_n (i := 1) (q := 1) (v := l1) 1 rfl rfl (hX5_countOf.at 11 rfl rfl) ?_
    refine os_icmp_ne (off := 6) (tgt := 20) rfl (hX5_countOf.at 12 rfl rfl) ?_ ?_
    · exact osW.sub [0, 1, 2, 3] rfl (sX5_countOf_20 N c4 g4 l0 l1 l2 l3)
    · refine os_iinc (i := 2) (d := 1) (x := l2) (v := (1 : Int32)) (lv' := [(2, .int (l2 + (1 : Int32))), (0, .ref l0), (1, .int l1), (3, .int l3)]) 2 rfl rfl (Nat.le_of_ble_eq_true rfl) rfl (hX5_countOf.at 13 rfl rfl) ?_
      exact osW.sub [1, 2, 0, 3] rfl (sX5_countOf_20 N c4 g4 l0 l1 (l2 + (1 : Int32)) l3)
set_option maxRecDepth 100000 in
set_option maxHeartbeats 4000000 in
theorem sX5_countOf_4 (N : Nat) (l0 : Nat) (l1 : Int32) (l2 : Int32) (l3 : Int32) : osW (osFinM (fun r : Int32 => some (.int r)) 0 0) yX5_countOf cX5_countOf 4 (some .int) [] { frames := 0, cells := 0, slots := 0, locals := 0 } 0 0 4 [(0, .ref l0), (1, .int l1), (2, .int l2), (3, .int l3)] [] (qX5_countOf_4 N (l0, l1, l2, l3)) :=
  osloop_W (lvf := fun p => [(0, .ref p.1), (1, .int p.2.1), (2, .int p.2.2.1), (3, .int p.2.2.2)]) (stf := fun p => []) (fun ih g p => tX5_countOf_4 N ih (fun l0 l1 l2 l3 => g (l0, l1, l2, l3)) p.1 p.2.1 p.2.2.1 p.2.2.2) N (l0, l1, l2, l3)
set_option maxRecDepth 100000 in
set_option maxHeartbeats 4000000 in
theorem sX5_countOf (N : Nat) (l0 : Nat) (l1 : Int32) : osMet yX5_countOf cX5_countOf 4 (some .int) 0 0 0 0 (fun r : Int32 => some (.int r)) [.ref l0, .int l1] (qX5_countOf N l0 l1) := by
  refine osMet.of plX5 (Nat.le_of_ble_eq_true rfl) (osW.rw (lv2 := [(0, .ref l0), (1, .int l1)]) ?_ rfl rfl rfl)
  unfold qX5_countOf
  refine os_iconst (i := 0) (v := (0 : Int32)) rfl (hX5_countOf.at 0 rfl rfl) ?_
  refine os_istore_n (i := 2) (q := 2) rfl (lv' := [(2, .int (0 : Int32)), (0, .ref l0), (1, .int l1)]) (Nat.le_of_ble_eq_true rfl) rfl (hX5_countOf.at 1 rfl rfl) ?_
  refine os_iconst (i := 0) (v := (0 : Int32)) rfl (hX5_countOf.at 2 rfl rfl) ?_
  refine os_istore_n (i := 3) (q := 3) rfl (lv' := [(3, .int (0 : Int32)), (2, .int (0 : Int32)), (0, .ref l0), (1, .int l1)]) (Nat.le_of_ble_eq_true rfl) rfl (hX5_countOf.at 3 rfl rfl) ?_
  exact osW.sub [2, 3, 1, 0] rfl (sX5_countOf_4 N l0 l1 (0 : Int32) (0 : Int32))
-- X5_freeHomes
def KX5_freeHomes : List (Nat × Nat × Instr) := [(0, 1, .iconst 0), (1, 1, .istore_n 3), (2, 1, .iconst 0), (3, 2, .istore 4), (5, 2, .iload 4), (7, 2, .bipush 16), (9, 3, .if_icmp .ge 49), (12, 1, .aload_n 1), (13, 3, .getfield 121), (16, 2, .iload 4), (18, 1, .iaload), (19, 1, .iload_n 2), (20, 3, .if_icmp .ne 32), (23, 1, .aload_n 0), (24, 3, .getfield 28), (27, 2, .iload 4), (29, 1, .iaload), (30, 1, .iload_n 2), (31, 3, .if_icmp .ne 21), (34, 1, .aload_n 0), (35, 3, .getfield 32), (38, 2, .iload 4), (40, 1, .iaload), (41, 1, .iconst (-1)), (42, 3, .if_icmp .ne 10), (45, 1, .iload_n 3), (46, 1, .iconst 1), (47, 2, .iload 4), (49, 1, .ishl), (50, 1, .ior), (51, 1, .istore_n 3), (52, 3, .iinc 4 1), (55, 3, .goto (-50)), (58, 1, .iload_n 3), (59, 1, .ireturn)]
theorem hX5_freeHomes : osDs cX5_freeHomes KX5_freeHomes := by
  show ∀ q ∈ KX5_freeHomes, decode cX5_freeHomes q.1 = .ok (q.2.2, q.2.1)
  decide +kernel
def qX5_freeHomes_52 (N : Nat) (c5 : Nat × Nat × Int32 × Int32 × Int32 → osM Int32) (l0 : Nat) (l1 : Nat) (l2 : Int32) (l3 : Int32) (l4 : Int32) : osM Int32 := c5 (l0, l1, l2, l3, (l4 + (1 : Int32)))
def bX5_freeHomes_5 (N : Nat) (c5 : Nat × Nat × Int32 × Int32 × Int32 → osM Int32) (l0 : Nat) (l1 : Nat) (l2 : Int32) (l3 : Int32) (l4 : Int32) : osM Int32 := osite ((16 : Int32) ≤ l4) (osret l3) (osbind (osgR [0] 6 l1) fun x1 => osbind (osaI 0 x1 l4) fun x2 => osite (x2 = l2) (osbind (osgR [5] 5 l0) fun x3 => osbind (osaI 0 x3 l4) fun x4 => osite (x4 = l2) (osbind (osgR [5] 6 l0) fun x5 => osbind (osaI 0 x5 l4) fun x6 => osite (x6 = (-1 : Int32)) (osbind (osret ((l3 ||| (osshl (1 : Int32) l4)) : Int32)) fun x7 => qX5_freeHomes_52 N c5 l0 l1 l2 x7 l4) (qX5_freeHomes_52 N c5 l0 l1 l2 l3 l4)) (qX5_freeHomes_52 N c5 l0 l1 l2 l3 l4)) (qX5_freeHomes_52 N c5 l0 l1 l2 l3 l4))
def qX5_freeHomes_5 (N : Nat) : Nat × Nat × Int32 × Int32 × Int32 → osM Int32 := osloop (fun ih p => bX5_freeHomes_5 N ih p.1 p.2.1 p.2.2.1 p.2.2.2.1 p.2.2.2.2) N
def qX5_freeHomes (N : Nat) (l0 : Nat) (l1 : Nat) (l2 : Int32) : osM Int32 := qX5_freeHomes_5 N (l0, l1, l2, (0 : Int32), (0 : Int32))
set_option maxRecDepth 100000 in
set_option maxHeartbeats 4000000 in
theorem sX5_freeHomes_52 (N : Nat) (c5 : Nat × Nat × Int32 × Int32 × Int32 → osM Int32) (g5 : ∀ (l0 : Nat) (l1 : Nat) (l2 : Int32) (l3 : Int32) (l4 : Int32), osW (osFinM (fun r : Int32 => some (.int r)) 0 0) yX5_freeHomes cX5_freeHomes 5 (some .int) [] { frames := 0, cells := 0, slots := 0, locals := 0 } 0 0 5 [(0, .ref l0), (1, .ref l1), (2, .int l2), (3, .int l3), (4, .int l4)] [] (c5 (l0, l1, l2, l3, l4))) (l0 : Nat) (l1 : Nat) (l2 : Int32) (l3 : Int32) (l4 : Int32) : osW (osFinM (fun r : Int32 => some (.int r)) 0 0) yX5_freeHomes cX5_freeHomes 5 (some .int) [] { frames := 0, cells := 0, slots := 0, locals := 0 } 0 0 52 [(0, .ref l0), (1, .ref l1), (2, .int l2), (3, .int l3), (4, .int l4)] [] (qX5_freeHomes_52 N c5 l0 l1 l2 l3 l4) := by
  unfold qX5_freeHomes_52
  refine os_iinc (i := 4) (d := 1) (x := l4) (v := (1 : Int32)) (lv' := [(4, .int (l4 + (1 : Int32))), (0, .ref l0), (1, .ref l1), (2, .int l2), (3, .int l3)]) 4 rfl rfl (Nat.le_of_ble_eq_true rfl) rfl (hX5_freeHomes.at 31 rfl rfl) ?_
  refine os_goto (off := (-50)) (tgt := 5) rfl (hX5_freeHomes.at 32 rfl rfl) ?_
  exact osW.sub [1, 2, 3, 4, 0] rfl (g5 l0 l1 l2 l3 (l4 + (1 : Int32)))
set_option maxRecDepth 100000 in
set_option maxHeartbeats 4000000 in
theorem tX5_freeHomes_5 (N : Nat) (c5 : Nat × Nat × Int32 × Int32 × Int32 → osM Int32) (g5 : ∀ (l0 : Nat) (l1 : Nat) (l2 : Int32) (l3 : Int32) (l4 : Int32), osW (osFinM (fun r : Int32 => some (.int r)) 0 0) yX5_freeHomes cX5_freeHomes 5 (some .int) [] { frames := 0, cells := 0, slots := 0, locals := 0 } 0 0 5 [(0, .ref l0), (1, .ref l1), (2, .int l2), (3, .int l3), (4, .int l4)] [] (c5 (l0, l1, l2, l3, l4))) (l0 : Nat) (l1 : Nat) (l2 : Int32) (l3 : Int32) (l4 : Int32) : osW (osFinM (fun r : Int32 => some (.int r)) 0 0) yX5_freeHomes cX5_freeHomes 5 (some .int) [] { frames := 0, cells := 0, slots := 0, locals := 0 } 0 0 5 [(0, .ref l0), (1, .ref l1), (2, .int l2), (3, .int l3), (4, .int l4)] [] (bX5_freeHomes_5 N c5 l0 l1 l2 l3 l4) := by
  unfold bX5_freeHomes_5
  refine os_iload (v := l4) 4 rfl (hX5_freeHomes.at 4 rfl rfl) ?_
  refine os_bipush (i := 16) (v := (16 : Int32)) rfl (hX5_freeHomes.at 5 rfl rfl) ?_
  refine os_icmp_ge (off := 49) (tgt := 58) rfl (hX5_freeHomes.at 6 rfl rfl) ?_ ?_
  · refine os_iload_n (i := 3) (q := 3) (v := l3) 3 rfl rfl (hX5_freeHomes.at 33 rfl rfl) ?_
    exact os_iret (Nat.le_of_ble_eq_true rfl) (Nat.le_of_ble_eq_true rfl) (hX5_freeHomes.at 34 rfl rfl).1
  · refine os_aload_n (i := 1) (q := 1) (v := l1) 1 rfl rfl (hX5_freeHomes.at 7 rfl rfl) ?_
    refine os_getR fX5_121 (hX5_freeHomes.at 8 rfl rfl) (fun x1 => ?_)
    refine os_iload (v := l4) 4 rfl (hX5_freeHomes.at 9 rfl rfl) ?_
    refine os_iaload (hX5_freeHomes.at 10 rfl rfl) (fun x2 => ?_)
    refine os_iload_n (i := 2) (q := 2) (v := l2) 2 rfl rfl (hX5_freeHomes.at 11 rfl rfl) ?_
    refine os_icmp_ne (off := 32) (tgt := 52) rfl (hX5_freeHomes.at 12 rfl rfl) ?_ ?_
    · exact osW.sub [0, 1, 2, 3, 4] rfl (sX5_freeHomes_52 N c5 g5 l0 l1 l2 l3 l4)
    · refine os_aload_n (i := 0) (q := 0) (v := l0) 0 rfl rfl (hX5_freeHomes.at 13 rfl rfl) ?_
      refine os_getR fX5_28 (hX5_freeHomes.at 14 rfl rfl) (fun x3 => ?_)
      refine os_iload (v := l4) 4 rfl (hX5_freeHomes.at 15 rfl rfl) ?_
      refine os_iaload (hX5_freeHomes.at 16 rfl rfl) (fun x4 => ?_)
      refine os_iload_n (i := 2) (q := 2) (v := l2) 2 rfl rfl (hX5_freeHomes.at 17 rfl rfl) ?_
      refine os_icmp_ne (off := 21) (tgt := 52) rfl (hX5_freeHomes.at 18 rfl rfl) ?_ ?_
      · exact osW.sub [0, 1, 2, 3, 4] rfl (sX5_freeHomes_52 N c5 g5 l0 l1 l2 l3 l4)
      · refine os_aload_n (i := 0) (q := 0) (v := l0) 0 rfl rfl (hX5_freeHomes.at 19 rfl rfl) ?_
        refine os_getR fX5_32 (hX5_freeHomes.at 20 rfl rfl) (fun x5 => ?_)
        refine os_iload (v := l4) 4 rfl (hX5_freeHomes.at 21 rfl rfl) ?_
        refine os_iaload (hX5_freeHomes.at 22 rfl rfl) (fun x6 => ?_)
        refine os_iconst (i := (-1)) (v := (-1 : Int32)) rfl (hX5_freeHomes.at 23 rfl rfl) ?_
        refine os_icmp_ne (off := 10) (tgt := 52) rfl (hX5_freeHomes.at 24 rfl rfl) ?_ ?_
        · exact osW.sub [0, 1, 2, 3, 4] rfl (sX5_freeHomes_52 N c5 g5 l0 l1 l2 l3 l4)
        · refine os_iload_n (i := 3) (q := 3) (v := l3) 3 rfl rfl (hX5_freeHomes.at 25 rfl rfl) ?_
          refine os_iconst (i := 1) (v := (1 : Int32)) rfl (hX5_freeHomes.at 26 rfl rfl) ?_
          refine os_iload (v := l4) 4 rfl (hX5_freeHomes.at 27 rfl rfl) ?_
          refine os_ishl (hX5_freeHomes.at 28 rfl rfl) ?_
          refine os_ior (hX5_freeHomes.at 29 rfl rfl) ?_
          refine os_nameI (fun x7 => ?_)
          refine os_istore_n (i := 3) (q := 3) rfl (lv' := [(3, .int x7), (0, .ref l0), (1, .ref l1), (2, .int l2), (4, .int l4)]) (Nat.le_of_ble_eq_true rfl) rfl (hX5_freeHomes.at 30 rfl rfl) ?_
          exact osW.sub [1, 2, 3, 0, 4] rfl (sX5_freeHomes_52 N c5 g5 l0 l1 l2 x7 l4)
set_option maxRecDepth 100000 in
set_option maxHeartbeats 4000000 in
theorem sX5_freeHomes_5 (N : Nat) (l0 : Nat) (l1 : Nat) (l2 : Int32) (l3 : Int32) (l4 : Int32) : osW (osFinM (fun r : Int32 => some (.int r)) 0 0) yX5_freeHomes cX5_freeHomes 5 (some .int) [] { frames := 0, cells := 0, slots := 0, locals := 0 } 0 0 5 [(0, .ref l0), (1, .ref l1), (2, .int l2), (3, .int l3), (4, .int l4)] [] (qX5_freeHomes_5 N (l0, l1, l2, l3, l4)) :=
  osloop_W (lvf := fun p => [(0, .ref p.1), (1, .ref p.2.1), (2, .int p.2.2.1), (3, .int p.2.2.2.1), (4, .int p.2.2.2.2)]) (stf := fun p => []) (fun ih g p => tX5_freeHomes_5 N ih (fun l0 l1 l2 l3 l4 => g (l0, l1, l2, l3, l4)) p.1 p.2.1 p.2.2.1 p.2.2.2.1 p.2.2.2.2) N (l0, l1, l2, l3, l4)
set_option maxRecDepth 100000 in
set_option maxHeartbeats 4000000 in
theorem sX5_freeHomes (N : Nat) (l0 : Nat) (l1 : Nat) (l2 : Int32) : osMet yX5_freeHomes cX5_freeHomes 5 (some .int) 0 0 0 0 (fun r : Int32 => some (.int r)) [.ref l0, .ref l1, .int l2] (qX5_freeHomes N l0 l1 l2) := by
  refine osMet.of plX5 (Nat.le_of_ble_eq_true rfl) (osW.rw (lv2 := [(0, .ref l0), (1, .ref l1), (2, .int l2)]) ?_ rfl rfl rfl)
  unfold qX5_freeHomes
  refine os_iconst (i := 0) (v := (0 : Int32)) rfl (hX5_freeHomes.at 0 rfl rfl) ?_
  refine os_istore_n (i := 3) (q := 3) rfl (lv' := [(3, .int (0 : Int32)), (0, .ref l0), (1, .ref l1), (2, .int l2)]) (Nat.le_of_ble_eq_true rfl) rfl (hX5_freeHomes.at 1 rfl rfl) ?_
  refine os_iconst (i := 0) (v := (0 : Int32)) rfl (hX5_freeHomes.at 2 rfl rfl) ?_
  refine os_istore (i := 4) (lv' := [(4, .int (0 : Int32)), (3, .int (0 : Int32)), (0, .ref l0), (1, .ref l1), (2, .int l2)]) (Nat.le_of_ble_eq_true rfl) rfl (hX5_freeHomes.at 3 rfl rfl) ?_
  exact osW.sub [2, 3, 4, 1, 0] rfl (sX5_freeHomes_5 N l0 l1 l2 (0 : Int32) (0 : Int32))
-- X5_holdAll
def KX5_holdAll : List (Nat × Nat × Instr) := [(0, 1, .iconst 0), (1, 1, .istore_n 1), (2, 1, .iload_n 1), (3, 2, .bipush 16), (5, 3, .if_icmp .ge 17), (8, 1, .aload_n 0), (9, 1, .iload_n 1), (10, 1, .iconst 0), (11, 1, .iconst (-1)), (12, 1, .iconst (-1)), (13, 3, .invokevirtual 74), (16, 3, .iinc 1 1), (19, 3, .goto (-17)), (22, 1, .return_)]
theorem hX5_holdAll : osDs cX5_holdAll KX5_holdAll := by
  show ∀ q ∈ KX5_holdAll, decode cX5_holdAll q.1 = .ok (q.2.2, q.2.1)
  decide +kernel
def bX5_holdAll_2 (N : Nat) (c2 : Nat × Int32 → osM Unit) (l0 : Nat) (l1 : Int32) : osM Unit := osite ((16 : Int32) ≤ l1) (osret ()) (osbind (osrecv [5] l0 (qX5_giveOrder N l0 l1 (0 : Int32) (-1 : Int32) (-1 : Int32))) fun _ => c2 (l0, (l1 + (1 : Int32))))
def qX5_holdAll_2 (N : Nat) : Nat × Int32 → osM Unit := osloop (fun ih p => bX5_holdAll_2 N ih p.1 p.2) N
def qX5_holdAll (N : Nat) (l0 : Nat) : osM Unit := qX5_holdAll_2 N (l0, (0 : Int32))
set_option maxRecDepth 100000 in
set_option maxHeartbeats 4000000 in
theorem tX5_holdAll_2 (N : Nat) (c2 : Nat × Int32 → osM Unit) (g2 : ∀ (l0 : Nat) (l1 : Int32), osW (osFinM (fun _ : Unit => none) 0 0) yX5_holdAll cX5_holdAll 2 none [] { frames := 1, cells := 0, slots := 0, locals := 24 } 0 0 2 [(0, .ref l0), (1, .int l1)] [] (c2 (l0, l1))) (l0 : Nat) (l1 : Int32) : osW (osFinM (fun _ : Unit => none) 0 0) yX5_holdAll cX5_holdAll 2 none [] { frames := 1, cells := 0, slots := 0, locals := 24 } 0 0 2 [(0, .ref l0), (1, .int l1)] [] (bX5_holdAll_2 N c2 l0 l1) := by
  unfold bX5_holdAll_2
  refine os_iload_n (i := 1) (q := 1) (v := l1) 1 rfl rfl (hX5_holdAll.at 2 rfl rfl) ?_
  refine os_bipush (i := 16) (v := (16 : Int32)) rfl (hX5_holdAll.at 3 rfl rfl) ?_
  refine os_icmp_ge (off := 17) (tgt := 22) rfl (hX5_holdAll.at 4 rfl rfl) ?_ ?_
  · exact os_vret (Nat.le_of_ble_eq_true rfl) (Nat.le_of_ble_eq_true rfl) (hX5_holdAll.at 13 rfl rfl).1
  · refine os_aload_n (i := 0) (q := 0) (v := l0) 0 rfl rfl (hX5_holdAll.at 5 rfl rfl) ?_
    refine os_iload_n (i := 1) (q := 1) (v := l1) 1 rfl rfl (hX5_holdAll.at 6 rfl rfl) ?_
    refine os_iconst (i := 0) (v := (0 : Int32)) rfl (hX5_holdAll.at 7 rfl rfl) ?_
    refine os_iconst (i := (-1)) (v := (-1 : Int32)) rfl (hX5_holdAll.at 8 rfl rfl) ?_
    refine os_iconst (i := (-1)) (v := (-1 : Int32)) rfl (hX5_holdAll.at 9 rfl rfl) ?_
    refine os_callV (cis := [5]) (b := l0) (As := [.int l1, .int (0 : Int32), .int (-1 : Int32), .int (-1 : Int32)]) (st := []) (st' := (fun _ => [])) sl5_X5_giveOrder_X5_giveOrder mdX5_giveOrder wd357 wd358 (sX5_giveOrder N l0 l1 (0 : Int32) (-1 : Int32) (-1 : Int32)) rfl rfl (fun _ => rfl) (Nat.le_of_ble_eq_true rfl) (Nat.le_of_ble_eq_true rfl) (Nat.le_of_ble_eq_true rfl) rfl (Nat.le_of_ble_eq_true rfl) rfl (Nat.le_of_ble_eq_true rfl) (hX5_holdAll.at 10 rfl rfl) (fun _ => ?_)
    refine os_iinc (i := 1) (d := 1) (x := l1) (v := (1 : Int32)) (lv' := [(1, .int (l1 + (1 : Int32))), (0, .ref l0)]) 1 rfl rfl (Nat.le_of_ble_eq_true rfl) rfl (hX5_holdAll.at 11 rfl rfl) ?_
    refine os_goto (off := (-17)) (tgt := 2) rfl (hX5_holdAll.at 12 rfl rfl) ?_
    exact osW.sub [1, 0] rfl (g2 l0 (l1 + (1 : Int32)))
set_option maxRecDepth 100000 in
set_option maxHeartbeats 4000000 in
theorem sX5_holdAll_2 (N : Nat) (l0 : Nat) (l1 : Int32) : osW (osFinM (fun _ : Unit => none) 0 0) yX5_holdAll cX5_holdAll 2 none [] { frames := 1, cells := 0, slots := 0, locals := 24 } 0 0 2 [(0, .ref l0), (1, .int l1)] [] (qX5_holdAll_2 N (l0, l1)) :=
  osloop_W (lvf := fun p => [(0, .ref p.1), (1, .int p.2)]) (stf := fun p => []) (fun ih g p => tX5_holdAll_2 N ih (fun l0 l1 => g (l0, l1)) p.1 p.2) N (l0, l1)
set_option maxRecDepth 100000 in
set_option maxHeartbeats 4000000 in
theorem sX5_holdAll (N : Nat) (l0 : Nat) : osMet yX5_holdAll cX5_holdAll 2 none 1 24 0 0 (fun _ : Unit => none) [.ref l0] (qX5_holdAll N l0) := by
  refine osMet.of plX5 (Nat.le_of_ble_eq_true rfl) (osW.rw (lv2 := [(0, .ref l0)]) ?_ rfl rfl rfl)
  unfold qX5_holdAll
  refine os_iconst (i := 0) (v := (0 : Int32)) rfl (hX5_holdAll.at 0 rfl rfl) ?_
  refine os_istore_n (i := 1) (q := 1) rfl (lv' := [(1, .int (0 : Int32)), (0, .ref l0)]) (Nat.le_of_ble_eq_true rfl) rfl (hX5_holdAll.at 1 rfl rfl) ?_
  exact osW.sub [1, 0] rfl (sX5_holdAll_2 N l0 (0 : Int32))
-- X5_copyFrom
def KX5_copyFrom : List (Nat × Nat × Instr) := [(0, 1, .aload_n 0), (1, 1, .aload_n 1), (2, 3, .getfield 9), (5, 3, .putfield 9), (8, 1, .aload_n 0), (9, 1, .aload_n 1), (10, 3, .getfield 15), (13, 3, .putfield 15), (16, 1, .aload_n 0), (17, 1, .aload_n 1), (18, 3, .getfield 18), (21, 3, .putfield 18), (24, 1, .aload_n 0), (25, 1, .aload_n 1), (26, 3, .getfield 22), (29, 3, .putfield 22), (32, 1, .aload_n 0), (33, 1, .aload_n 1), (34, 3, .getfield 25), (37, 3, .putfield 25), (40, 1, .aload_n 1), (41, 3, .getfield 28), (44, 1, .aload_n 0), (45, 3, .getfield 28), (48, 3, .invokestatic 78), (51, 1, .aload_n 1), (52, 3, .getfield 32), (55, 1, .aload_n 0), (56, 3, .getfield 32), (59, 3, .invokestatic 78), (62, 1, .aload_n 1), (63, 3, .getfield 35), (66, 1, .aload_n 0), (67, 3, .getfield 35), (70, 3, .invokestatic 78), (73, 1, .aload_n 1), (74, 3, .getfield 38), (77, 1, .aload_n 0), (78, 3, .getfield 38), (81, 3, .invokestatic 78), (84, 1, .aload_n 1), (85, 3, .getfield 41), (88, 1, .aload_n 0), (89, 3, .getfield 41), (92, 3, .invokestatic 78), (95, 1, .aload_n 1), (96, 3, .getfield 44), (99, 1, .aload_n 0), (100, 3, .getfield 44), (103, 3, .invokestatic 78), (106, 1, .aload_n 1), (107, 3, .getfield 47), (110, 1, .aload_n 0), (111, 3, .getfield 47), (114, 3, .invokestatic 78), (117, 1, .aload_n 1), (118, 3, .getfield 50), (121, 1, .aload_n 0), (122, 3, .getfield 50), (125, 3, .invokestatic 78), (128, 1, .aload_n 1), (129, 3, .getfield 53), (132, 1, .aload_n 0), (133, 3, .getfield 53), (136, 3, .invokestatic 78), (139, 1, .aload_n 1), (140, 3, .getfield 56), (143, 1, .aload_n 0), (144, 3, .getfield 56), (147, 3, .invokestatic 78), (150, 1, .aload_n 1), (151, 3, .getfield 59), (154, 1, .aload_n 0), (155, 3, .getfield 59), (158, 3, .invokestatic 78), (161, 1, .return_)]
theorem hX5_copyFrom : osDs cX5_copyFrom KX5_copyFrom := by
  show ∀ q ∈ KX5_copyFrom, decode cX5_copyFrom q.1 = .ok (q.2.2, q.2.1)
  decide +kernel
def qX5_copyFrom (N : Nat) (l0 : Nat) (l1 : Nat) : osM Unit := osbind (osgI [5] 0 l1) fun x1 => osbind (osput [5] 0 l0 (.int x1)) fun _ => osbind (osgI [5] 1 l1) fun x2 => osbind (osput [5] 1 l0 (.int x2)) fun _ => osbind (osgI [5] 2 l1) fun x3 => osguard (x3 = 0 ∨ x3 = 1) (osbind (osput [5] 2 l0 (.int x3)) fun _ => osbind (osgI [5] 3 l1) fun x5 => osbind (osput [5] 3 l0 (.int x5)) fun _ => osbind (osgI [5] 4 l1) fun x6 => osbind (osput [5] 4 l0 (.int x6)) fun _ => osbind (osgR [5] 5 l1) fun x7 => osbind (osgR [5] 5 l0) fun x8 => osbind (qX5_copyRow N x7 x8) fun _ => osbind (osgR [5] 6 l1) fun x9 => osbind (osgR [5] 6 l0) fun x10 => osbind (qX5_copyRow N x9 x10) fun _ => osbind (osgR [5] 7 l1) fun x11 => osbind (osgR [5] 7 l0) fun x12 => osbind (qX5_copyRow N x11 x12) fun _ => osbind (osgR [5] 8 l1) fun x13 => osbind (osgR [5] 8 l0) fun x14 => osbind (qX5_copyRow N x13 x14) fun _ => osbind (osgR [5] 9 l1) fun x15 => osbind (osgR [5] 9 l0) fun x16 => osbind (qX5_copyRow N x15 x16) fun _ => osbind (osgR [5] 10 l1) fun x17 => osbind (osgR [5] 10 l0) fun x18 => osbind (qX5_copyRow N x17 x18) fun _ => osbind (osgR [5] 11 l1) fun x19 => osbind (osgR [5] 11 l0) fun x20 => osbind (qX5_copyRow N x19 x20) fun _ => osbind (osgR [5] 12 l1) fun x21 => osbind (osgR [5] 12 l0) fun x22 => osbind (qX5_copyRow N x21 x22) fun _ => osbind (osgR [5] 13 l1) fun x23 => osbind (osgR [5] 13 l0) fun x24 => osbind (qX5_copyRow N x23 x24) fun _ => osbind (osgR [5] 14 l1) fun x25 => osbind (osgR [5] 14 l0) fun x26 => osbind (qX5_copyRow N x25 x26) fun _ => osbind (osgR [5] 15 l1) fun x27 => osbind (osgR [5] 15 l0) fun x28 => osbind (qX5_copyRow N x27 x28) fun _ => osret ())
set_option maxRecDepth 100000 in
set_option maxHeartbeats 4000000 in
theorem sX5_copyFrom (N : Nat) (l0 : Nat) (l1 : Nat) : osMet yX5_copyFrom cX5_copyFrom 2 none 2 81 0 0 (fun _ : Unit => none) [.ref l0, .ref l1] (qX5_copyFrom N l0 l1) := by
  refine osMet.of plX5 (Nat.le_of_ble_eq_true rfl) (osW.rw (lv2 := [(0, .ref l0), (1, .ref l1)]) ?_ rfl rfl rfl)
  unfold qX5_copyFrom
  refine os_aload_n (i := 0) (q := 0) (v := l0) 0 rfl rfl (hX5_copyFrom.at 0 rfl rfl) ?_
  refine os_aload_n (i := 1) (q := 1) (v := l1) 1 rfl rfl (hX5_copyFrom.at 1 rfl rfl) ?_
  refine os_getI fX5_9 (hX5_copyFrom.at 2 rfl rfl) (fun x1 => ?_)
  refine os_put fX5_9 rfl rfl (hX5_copyFrom.at 3 rfl rfl) ?_
  refine os_aload_n (i := 0) (q := 0) (v := l0) 0 rfl rfl (hX5_copyFrom.at 4 rfl rfl) ?_
  refine os_aload_n (i := 1) (q := 1) (v := l1) 1 rfl rfl (hX5_copyFrom.at 5 rfl rfl) ?_
  refine os_getI fX5_15 (hX5_copyFrom.at 6 rfl rfl) (fun x2 => ?_)
  refine os_put fX5_15 rfl rfl (hX5_copyFrom.at 7 rfl rfl) ?_
  refine os_aload_n (i := 0) (q := 0) (v := l0) 0 rfl rfl (hX5_copyFrom.at 8 rfl rfl) ?_
  refine os_aload_n (i := 1) (q := 1) (v := l1) 1 rfl rfl (hX5_copyFrom.at 9 rfl rfl) ?_
  refine os_getI fX5_18 (hX5_copyFrom.at 10 rfl rfl) (fun x3 => ?_)
  refine os_guard (fun h4 => ?_)
  refine os_put fX5_18 (osz_narrow h4) (osz_fits h4) (hX5_copyFrom.at 11 rfl rfl) ?_
  refine os_aload_n (i := 0) (q := 0) (v := l0) 0 rfl rfl (hX5_copyFrom.at 12 rfl rfl) ?_
  refine os_aload_n (i := 1) (q := 1) (v := l1) 1 rfl rfl (hX5_copyFrom.at 13 rfl rfl) ?_
  refine os_getI fX5_22 (hX5_copyFrom.at 14 rfl rfl) (fun x5 => ?_)
  refine os_put fX5_22 rfl rfl (hX5_copyFrom.at 15 rfl rfl) ?_
  refine os_aload_n (i := 0) (q := 0) (v := l0) 0 rfl rfl (hX5_copyFrom.at 16 rfl rfl) ?_
  refine os_aload_n (i := 1) (q := 1) (v := l1) 1 rfl rfl (hX5_copyFrom.at 17 rfl rfl) ?_
  refine os_getI fX5_25 (hX5_copyFrom.at 18 rfl rfl) (fun x6 => ?_)
  refine os_put fX5_25 rfl rfl (hX5_copyFrom.at 19 rfl rfl) ?_
  refine os_aload_n (i := 1) (q := 1) (v := l1) 1 rfl rfl (hX5_copyFrom.at 20 rfl rfl) ?_
  refine os_getR fX5_28 (hX5_copyFrom.at 21 rfl rfl) (fun x7 => ?_)
  refine os_aload_n (i := 0) (q := 0) (v := l0) 0 rfl rfl (hX5_copyFrom.at 22 rfl rfl) ?_
  refine os_getR fX5_28 (hX5_copyFrom.at 23 rfl rfl) (fun x8 => ?_)
  refine os_callS (As := [.ref x7, .ref x8]) (st := []) (st' := (fun _ => [])) mdX5_copyRow wd1106 wd1107 (sX5_copyRow N x7 x8) rfl rfl (fun _ => rfl) (Nat.le_of_ble_eq_true rfl) (Nat.le_of_ble_eq_true rfl) (Nat.le_of_ble_eq_true rfl) rfl (Nat.le_of_ble_eq_true rfl) rfl (Nat.le_of_ble_eq_true rfl) (hX5_copyFrom.at 24 rfl rfl) (fun _ => ?_)
  refine os_aload_n (i := 1) (q := 1) (v := l1) 1 rfl rfl (hX5_copyFrom.at 25 rfl rfl) ?_
  refine os_getR fX5_32 (hX5_copyFrom.at 26 rfl rfl) (fun x9 => ?_)
  refine os_aload_n (i := 0) (q := 0) (v := l0) 0 rfl rfl (hX5_copyFrom.at 27 rfl rfl) ?_
  refine os_getR fX5_32 (hX5_copyFrom.at 28 rfl rfl) (fun x10 => ?_)
  refine os_callS (As := [.ref x9, .ref x10]) (st := []) (st' := (fun _ => [])) mdX5_copyRow wd1106 wd1107 (sX5_copyRow N x9 x10) rfl rfl (fun _ => rfl) (Nat.le_of_ble_eq_true rfl) (Nat.le_of_ble_eq_true rfl) (Nat.le_of_ble_eq_true rfl) rfl (Nat.le_of_ble_eq_true rfl) rfl (Nat.le_of_ble_eq_true rfl) (hX5_copyFrom.at 29 rfl rfl) (fun _ => ?_)
  refine os_aload_n (i := 1) (q := 1) (v := l1) 1 rfl rfl (hX5_copyFrom.at 30 rfl rfl) ?_
  refine os_getR fX5_35 (hX5_copyFrom.at 31 rfl rfl) (fun x11 => ?_)
  refine os_aload_n (i := 0) (q := 0) (v := l0) 0 rfl rfl (hX5_copyFrom.at 32 rfl rfl) ?_
  refine os_getR fX5_35 (hX5_copyFrom.at 33 rfl rfl) (fun x12 => ?_)
  refine os_callS (As := [.ref x11, .ref x12]) (st := []) (st' := (fun _ => [])) mdX5_copyRow wd1106 wd1107 (sX5_copyRow N x11 x12) rfl rfl (fun _ => rfl) (Nat.le_of_ble_eq_true rfl) (Nat.le_of_ble_eq_true rfl) (Nat.le_of_ble_eq_true rfl) rfl (Nat.le_of_ble_eq_true rfl) rfl (Nat.le_of_ble_eq_true rfl) (hX5_copyFrom.at 34 rfl rfl) (fun _ => ?_)
  refine os_aload_n (i := 1) (q := 1) (v := l1) 1 rfl rfl (hX5_copyFrom.at 35 rfl rfl) ?_
  refine os_getR fX5_38 (hX5_copyFrom.at 36 rfl rfl) (fun x13 => ?_)
  refine os_aload_n (i := 0) (q := 0) (v := l0) 0 rfl rfl (hX5_copyFrom.at 37 rfl rfl) ?_
  refine os_getR fX5_38 (hX5_copyFrom.at 38 rfl rfl) (fun x14 => ?_)
  refine os_callS (As := [.ref x13, .ref x14]) (st := []) (st' := (fun _ => [])) mdX5_copyRow wd1106 wd1107 (sX5_copyRow N x13 x14) rfl rfl (fun _ => rfl) (Nat.le_of_ble_eq_true rfl) (Nat.le_of_ble_eq_true rfl) (Nat.le_of_ble_eq_true rfl) rfl (Nat.le_of_ble_eq_true rfl) rfl (Nat.le_of_ble_eq_true rfl) (hX5_copyFrom.at 39 rfl rfl) (fun _ => ?_)
  refine os_aload_n (i := 1) (q := 1) (v := l1) 1 rfl rfl (hX5_copyFrom.at 40 rfl rfl) ?_
  refine os_getR fX5_41 (hX5_copyFrom.at 41 rfl rfl) (fun x15 => ?_)
  refine os_aload_n (i := 0) (q := 0) (v := l0) 0 rfl rfl (hX5_copyFrom.at 42 rfl rfl) ?_
  refine os_getR fX5_41 (hX5_copyFrom.at 43 rfl rfl) (fun x16 => ?_)
  refine os_callS (As := [.ref x15, .ref x16]) (st := []) (st' := (fun _ => [])) mdX5_copyRow wd1106 wd1107 (sX5_copyRow N x15 x16) rfl rfl (fun _ => rfl) (Nat.le_of_ble_eq_true rfl) (Nat.le_of_ble_eq_true rfl) (Nat.le_of_ble_eq_true rfl) rfl (Nat.le_of_ble_eq_true rfl) rfl (Nat.le_of_ble_eq_true rfl) (hX5_copyFrom.at 44 rfl rfl) (fun _ => ?_)
  refine os_aload_n (i := 1) (q := 1) (v := l1) 1 rfl rfl (hX5_copyFrom.at 45 rfl rfl) ?_
  refine os_getR fX5_44 (hX5_copyFrom.at 46 rfl rfl) (fun x17 => ?_)
  refine os_aload_n (i := 0) (q := 0) (v := l0) 0 rfl rfl (hX5_copyFrom.at 47 rfl rfl) ?_
  refine os_getR fX5_44 (hX5_copyFrom.at 48 rfl rfl) (fun x18 => ?_)
  refine os_callS (As := [.ref x17, .ref x18]) (st := []) (st' := (fun _ => [])) mdX5_copyRow wd1106 wd1107 (sX5_copyRow N x17 x18) rfl rfl (fun _ => rfl) (Nat.le_of_ble_eq_true rfl) (Nat.le_of_ble_eq_true rfl) (Nat.le_of_ble_eq_true rfl) rfl (Nat.le_of_ble_eq_true rfl) rfl (Nat.le_of_ble_eq_true rfl) (hX5_copyFrom.at 49 rfl rfl) (fun _ => ?_)
  refine os_aload_n (i := 1) (q := 1) (v := l1) 1 rfl rfl (hX5_copyFrom.at 50 rfl rfl) ?_
  refine os_getR fX5_47 (hX5_copyFrom.at 51 rfl rfl) (fun x19 => ?_)
  refine os_aload_n (i := 0) (q := 0) (v := l0) 0 rfl rfl (hX5_copyFrom.at 52 rfl rfl) ?_
  refine os_getR fX5_47 (hX5_copyFrom.at 53 rfl rfl) (fun x20 => ?_)
  refine os_callS (As := [.ref x19, .ref x20]) (st := []) (st' := (fun _ => [])) mdX5_copyRow wd1106 wd1107 (sX5_copyRow N x19 x20) rfl rfl (fun _ => rfl) (Nat.le_of_ble_eq_true rfl) (Nat.le_of_ble_eq_true rfl) (Nat.le_of_ble_eq_true rfl) rfl (Nat.le_of_ble_eq_true rfl) rfl (Nat.le_of_ble_eq_true rfl) (hX5_copyFrom.at 54 rfl rfl) (fun _ => ?_)
  refine os_aload_n (i := 1) (q := 1) (v := l1) 1 rfl rfl (hX5_copyFrom.at 55 rfl rfl) ?_
  refine os_getR fX5_50 (hX5_copyFrom.at 56 rfl rfl) (fun x21 => ?_)
  refine os_aload_n (i := 0) (q := 0) (v := l0) 0 rfl rfl (hX5_copyFrom.at 57 rfl rfl) ?_
  refine os_getR fX5_50 (hX5_copyFrom.at 58 rfl rfl) (fun x22 => ?_)
  refine os_callS (As := [.ref x21, .ref x22]) (st := []) (st' := (fun _ => [])) mdX5_copyRow wd1106 wd1107 (sX5_copyRow N x21 x22) rfl rfl (fun _ => rfl) (Nat.le_of_ble_eq_true rfl) (Nat.le_of_ble_eq_true rfl) (Nat.le_of_ble_eq_true rfl) rfl (Nat.le_of_ble_eq_true rfl) rfl (Nat.le_of_ble_eq_true rfl) (hX5_copyFrom.at 59 rfl rfl) (fun _ => ?_)
  refine os_aload_n (i := 1) (q := 1) (v := l1) 1 rfl rfl (hX5_copyFrom.at 60 rfl rfl) ?_
  refine os_getR fX5_53 (hX5_copyFrom.at 61 rfl rfl) (fun x23 => ?_)
  refine os_aload_n (i := 0) (q := 0) (v := l0) 0 rfl rfl (hX5_copyFrom.at 62 rfl rfl) ?_
  refine os_getR fX5_53 (hX5_copyFrom.at 63 rfl rfl) (fun x24 => ?_)
  refine os_callS (As := [.ref x23, .ref x24]) (st := []) (st' := (fun _ => [])) mdX5_copyRow wd1106 wd1107 (sX5_copyRow N x23 x24) rfl rfl (fun _ => rfl) (Nat.le_of_ble_eq_true rfl) (Nat.le_of_ble_eq_true rfl) (Nat.le_of_ble_eq_true rfl) rfl (Nat.le_of_ble_eq_true rfl) rfl (Nat.le_of_ble_eq_true rfl) (hX5_copyFrom.at 64 rfl rfl) (fun _ => ?_)
  refine os_aload_n (i := 1) (q := 1) (v := l1) 1 rfl rfl (hX5_copyFrom.at 65 rfl rfl) ?_
  refine os_getR fX5_56 (hX5_copyFrom.at 66 rfl rfl) (fun x25 => ?_)
  refine os_aload_n (i := 0) (q := 0) (v := l0) 0 rfl rfl (hX5_copyFrom.at 67 rfl rfl) ?_
  refine os_getR fX5_56 (hX5_copyFrom.at 68 rfl rfl) (fun x26 => ?_)
  refine os_callS (As := [.ref x25, .ref x26]) (st := []) (st' := (fun _ => [])) mdX5_copyRow wd1106 wd1107 (sX5_copyRow N x25 x26) rfl rfl (fun _ => rfl) (Nat.le_of_ble_eq_true rfl) (Nat.le_of_ble_eq_true rfl) (Nat.le_of_ble_eq_true rfl) rfl (Nat.le_of_ble_eq_true rfl) rfl (Nat.le_of_ble_eq_true rfl) (hX5_copyFrom.at 69 rfl rfl) (fun _ => ?_)
  refine os_aload_n (i := 1) (q := 1) (v := l1) 1 rfl rfl (hX5_copyFrom.at 70 rfl rfl) ?_
  refine os_getR fX5_59 (hX5_copyFrom.at 71 rfl rfl) (fun x27 => ?_)
  refine os_aload_n (i := 0) (q := 0) (v := l0) 0 rfl rfl (hX5_copyFrom.at 72 rfl rfl) ?_
  refine os_getR fX5_59 (hX5_copyFrom.at 73 rfl rfl) (fun x28 => ?_)
  refine os_callS (As := [.ref x27, .ref x28]) (st := []) (st' := (fun _ => [])) mdX5_copyRow wd1106 wd1107 (sX5_copyRow N x27 x28) rfl rfl (fun _ => rfl) (Nat.le_of_ble_eq_true rfl) (Nat.le_of_ble_eq_true rfl) (Nat.le_of_ble_eq_true rfl) rfl (Nat.le_of_ble_eq_true rfl) rfl (Nat.le_of_ble_eq_true rfl) (hX5_copyFrom.at 74 rfl rfl) (fun _ => ?_)
  exact os_vret (Nat.le_of_ble_eq_true rfl) (Nat.le_of_ble_eq_true rfl) (hX5_copyFrom.at 75 rfl rfl).1
-- X5_hasUnit
def KX5_hasUnit : List (Nat × Nat × Instr) := [(0, 1, .aload_n 0), (1, 3, .getfield 32), (4, 1, .iload_n 1), (5, 3, .invokestatic 94), (8, 1, .iconst (-1)), (9, 3, .if_icmp .eq 7), (12, 1, .iconst 1), (13, 3, .goto 4), (16, 1, .iconst 0), (17, 1, .ireturn)]
theorem hX5_hasUnit : osDs cX5_hasUnit KX5_hasUnit := by
  show ∀ q ∈ KX5_hasUnit, decode cX5_hasUnit q.1 = .ok (q.2.2, q.2.1)
  decide +kernel
def qX5_hasUnit_17 (N : Nat) (k0 : Int32) : osM Int32 := osretZ k0
def qX5_hasUnit (N : Nat) (l0 : Nat) (l1 : Int32) : osM Int32 := osbind (osgR [5] 6 l0) fun x1 => osbind (qX9_entry N x1 l1) fun x2 => osite (x2 = (-1 : Int32)) (qX5_hasUnit_17 N (0 : Int32)) (qX5_hasUnit_17 N (1 : Int32))
set_option maxRecDepth 100000 in
set_option maxHeartbeats 4000000 in
theorem sX5_hasUnit_17 (N : Nat) (k0 : Int32) : osW (osFinM (fun r : Int32 => some (.int r)) 0 0) yX5_hasUnit cX5_hasUnit 2 (some .boolean) [] { frames := 1, cells := 0, slots := 0, locals := 21 } 0 0 17 [] [.int k0] (qX5_hasUnit_17 N k0) := by
  unfold qX5_hasUnit_17
  exact os_zret (Nat.le_of_ble_eq_true rfl) (Nat.le_of_ble_eq_true rfl) (hX5_hasUnit.at 9 rfl rfl).1
set_option maxRecDepth 100000 in
set_option maxHeartbeats 4000000 in
theorem sX5_hasUnit (N : Nat) (l0 : Nat) (l1 : Int32) : osMet yX5_hasUnit cX5_hasUnit 2 (some .boolean) 1 21 0 0 (fun r : Int32 => some (.int r)) [.ref l0, .int l1] (qX5_hasUnit N l0 l1) := by
  refine osMet.of plX5 (Nat.le_of_ble_eq_true rfl) (osW.rw (lv2 := [(0, .ref l0), (1, .int l1)]) ?_ rfl rfl rfl)
  unfold qX5_hasUnit
  refine os_aload_n (i := 0) (q := 0) (v := l0) 0 rfl rfl (hX5_hasUnit.at 0 rfl rfl) ?_
  refine os_getR fX5_32 (hX5_hasUnit.at 1 rfl rfl) (fun x1 => ?_)
  refine os_iload_n (i := 1) (q := 1) (v := l1) 1 rfl rfl (hX5_hasUnit.at 2 rfl rfl) ?_
  refine os_callSN (host := "OrderSettler") (As := [.ref x1, .int l1]) (st := []) (st' := (fun r => .int r :: [])) mdX9_entry wd810 wd784 (sX9_entry N x1 l1) rfl rfl (fun _ => rfl) (Nat.le_of_ble_eq_true rfl) (Nat.le_of_ble_eq_true rfl) (Nat.le_of_ble_eq_true rfl) rfl (Nat.le_of_ble_eq_true rfl) rfl (Nat.le_of_ble_eq_true rfl) (hX5_hasUnit.at 3 rfl rfl) (fun x2 => ?_)
  refine os_iconst (i := (-1)) (v := (-1 : Int32)) rfl (hX5_hasUnit.at 4 rfl rfl) ?_
  refine os_icmp_eq (off := 7) (tgt := 16) rfl (hX5_hasUnit.at 5 rfl rfl) ?_ ?_
  · refine os_iconst (i := 0) (v := (0 : Int32)) rfl (hX5_hasUnit.at 8 rfl rfl) ?_
    exact osW.sub [] rfl (sX5_hasUnit_17 N (0 : Int32))
  · refine os_iconst (i := 1) (v := (1 : Int32)) rfl (hX5_hasUnit.at 6 rfl rfl) ?_
    refine os_goto (off := 4) (tgt := 17) rfl (hX5_hasUnit.at 7 rfl rfl) ?_
    exact osW.sub [] rfl (sX5_hasUnit_17 N (1 : Int32))
-- X5_hasDislodged
def KX5_hasDislodged : List (Nat × Nat × Instr) := [(0, 1, .aload_n 0), (1, 3, .getfield 38), (4, 1, .iload_n 1), (5, 3, .invokestatic 94), (8, 1, .iconst (-1)), (9, 3, .if_icmp .eq 7), (12, 1, .iconst 1), (13, 3, .goto 4), (16, 1, .iconst 0), (17, 1, .ireturn)]
theorem hX5_hasDislodged : osDs cX5_hasDislodged KX5_hasDislodged := by
  show ∀ q ∈ KX5_hasDislodged, decode cX5_hasDislodged q.1 = .ok (q.2.2, q.2.1)
  decide +kernel
def qX5_hasDislodged_17 (N : Nat) (k0 : Int32) : osM Int32 := osretZ k0
def qX5_hasDislodged (N : Nat) (l0 : Nat) (l1 : Int32) : osM Int32 := osbind (osgR [5] 8 l0) fun x1 => osbind (qX9_entry N x1 l1) fun x2 => osite (x2 = (-1 : Int32)) (qX5_hasDislodged_17 N (0 : Int32)) (qX5_hasDislodged_17 N (1 : Int32))
set_option maxRecDepth 100000 in
set_option maxHeartbeats 4000000 in
theorem sX5_hasDislodged_17 (N : Nat) (k0 : Int32) : osW (osFinM (fun r : Int32 => some (.int r)) 0 0) yX5_hasDislodged cX5_hasDislodged 2 (some .boolean) [] { frames := 1, cells := 0, slots := 0, locals := 21 } 0 0 17 [] [.int k0] (qX5_hasDislodged_17 N k0) := by
  unfold qX5_hasDislodged_17
  exact os_zret (Nat.le_of_ble_eq_true rfl) (Nat.le_of_ble_eq_true rfl) (hX5_hasDislodged.at 9 rfl rfl).1
set_option maxRecDepth 100000 in
set_option maxHeartbeats 4000000 in
theorem sX5_hasDislodged (N : Nat) (l0 : Nat) (l1 : Int32) : osMet yX5_hasDislodged cX5_hasDislodged 2 (some .boolean) 1 21 0 0 (fun r : Int32 => some (.int r)) [.ref l0, .int l1] (qX5_hasDislodged N l0 l1) := by
  refine osMet.of plX5 (Nat.le_of_ble_eq_true rfl) (osW.rw (lv2 := [(0, .ref l0), (1, .int l1)]) ?_ rfl rfl rfl)
  unfold qX5_hasDislodged
  refine os_aload_n (i := 0) (q := 0) (v := l0) 0 rfl rfl (hX5_hasDislodged.at 0 rfl rfl) ?_
  refine os_getR fX5_38 (hX5_hasDislodged.at 1 rfl rfl) (fun x1 => ?_)
  refine os_iload_n (i := 1) (q := 1) (v := l1) 1 rfl rfl (hX5_hasDislodged.at 2 rfl rfl) ?_
  refine os_callSN (host := "OrderSettler") (As := [.ref x1, .int l1]) (st := []) (st' := (fun r => .int r :: [])) mdX9_entry wd810 wd784 (sX9_entry N x1 l1) rfl rfl (fun _ => rfl) (Nat.le_of_ble_eq_true rfl) (Nat.le_of_ble_eq_true rfl) (Nat.le_of_ble_eq_true rfl) rfl (Nat.le_of_ble_eq_true rfl) rfl (Nat.le_of_ble_eq_true rfl) (hX5_hasDislodged.at 3 rfl rfl) (fun x2 => ?_)
  refine os_iconst (i := (-1)) (v := (-1 : Int32)) rfl (hX5_hasDislodged.at 4 rfl rfl) ?_
  refine os_icmp_eq (off := 7) (tgt := 16) rfl (hX5_hasDislodged.at 5 rfl rfl) ?_ ?_
  · refine os_iconst (i := 0) (v := (0 : Int32)) rfl (hX5_hasDislodged.at 8 rfl rfl) ?_
    exact osW.sub [] rfl (sX5_hasDislodged_17 N (0 : Int32))
  · refine os_iconst (i := 1) (v := (1 : Int32)) rfl (hX5_hasDislodged.at 6 rfl rfl) ?_
    refine os_goto (off := 4) (tgt := 17) rfl (hX5_hasDislodged.at 7 rfl rfl) ?_
    exact osW.sub [] rfl (sX5_hasDislodged_17 N (1 : Int32))
-- X5_countCenters
def KX5_countCenters : List (Nat × Nat × Instr) := [(0, 1, .aload_n 0), (1, 3, .getfield 28), (4, 1, .iload_n 1), (5, 3, .invokestatic 98), (8, 1, .ireturn)]
theorem hX5_countCenters : osDs cX5_countCenters KX5_countCenters := by
  show ∀ q ∈ KX5_countCenters, decode cX5_countCenters q.1 = .ok (q.2.2, q.2.1)
  decide +kernel
def qX5_countCenters (N : Nat) (l0 : Nat) (l1 : Int32) : osM Int32 := osbind (osgR [5] 5 l0) fun x1 => osbind (qX5_countOf N x1 l1) fun x2 => osret x2
set_option maxRecDepth 100000 in
set_option maxHeartbeats 4000000 in
theorem sX5_countCenters (N : Nat) (l0 : Nat) (l1 : Int32) : osMet yX5_countCenters cX5_countCenters 2 (some .int) 1 23 0 0 (fun r : Int32 => some (.int r)) [.ref l0, .int l1] (qX5_countCenters N l0 l1) := by
  refine osMet.of plX5 (Nat.le_of_ble_eq_true rfl) (osW.rw (lv2 := [(0, .ref l0), (1, .int l1)]) ?_ rfl rfl rfl)
  unfold qX5_countCenters
  refine os_aload_n (i := 0) (q := 0) (v := l0) 0 rfl rfl (hX5_countCenters.at 0 rfl rfl) ?_
  refine os_getR fX5_28 (hX5_countCenters.at 1 rfl rfl) (fun x1 => ?_)
  refine os_iload_n (i := 1) (q := 1) (v := l1) 1 rfl rfl (hX5_countCenters.at 2 rfl rfl) ?_
  refine os_callS (As := [.ref x1, .int l1]) (st := []) (st' := (fun r => .int r :: [])) mdX5_countOf wd803 wd804 (sX5_countOf N x1 l1) rfl rfl (fun _ => rfl) (Nat.le_of_ble_eq_true rfl) (Nat.le_of_ble_eq_true rfl) (Nat.le_of_ble_eq_true rfl) rfl (Nat.le_of_ble_eq_true rfl) rfl (Nat.le_of_ble_eq_true rfl) (hX5_countCenters.at 3 rfl rfl) (fun x2 => ?_)
  exact os_iret (Nat.le_of_ble_eq_true rfl) (Nat.le_of_ble_eq_true rfl) (hX5_countCenters.at 4 rfl rfl).1
-- X5_countUnits
def KX5_countUnits : List (Nat × Nat × Instr) := [(0, 1, .aload_n 0), (1, 3, .getfield 32), (4, 1, .iload_n 1), (5, 3, .invokestatic 98), (8, 1, .ireturn)]
theorem hX5_countUnits : osDs cX5_countUnits KX5_countUnits := by
  show ∀ q ∈ KX5_countUnits, decode cX5_countUnits q.1 = .ok (q.2.2, q.2.1)
  decide +kernel
def qX5_countUnits (N : Nat) (l0 : Nat) (l1 : Int32) : osM Int32 := osbind (osgR [5] 6 l0) fun x1 => osbind (qX5_countOf N x1 l1) fun x2 => osret x2
set_option maxRecDepth 100000 in
set_option maxHeartbeats 4000000 in
theorem sX5_countUnits (N : Nat) (l0 : Nat) (l1 : Int32) : osMet yX5_countUnits cX5_countUnits 2 (some .int) 1 23 0 0 (fun r : Int32 => some (.int r)) [.ref l0, .int l1] (qX5_countUnits N l0 l1) := by
  refine osMet.of plX5 (Nat.le_of_ble_eq_true rfl) (osW.rw (lv2 := [(0, .ref l0), (1, .int l1)]) ?_ rfl rfl rfl)
  unfold qX5_countUnits
  refine os_aload_n (i := 0) (q := 0) (v := l0) 0 rfl rfl (hX5_countUnits.at 0 rfl rfl) ?_
  refine os_getR fX5_32 (hX5_countUnits.at 1 rfl rfl) (fun x1 => ?_)
  refine os_iload_n (i := 1) (q := 1) (v := l1) 1 rfl rfl (hX5_countUnits.at 2 rfl rfl) ?_
  refine os_callS (As := [.ref x1, .int l1]) (st := []) (st' := (fun r => .int r :: [])) mdX5_countOf wd803 wd804 (sX5_countOf N x1 l1) rfl rfl (fun _ => rfl) (Nat.le_of_ble_eq_true rfl) (Nat.le_of_ble_eq_true rfl) (Nat.le_of_ble_eq_true rfl) rfl (Nat.le_of_ble_eq_true rfl) rfl (Nat.le_of_ble_eq_true rfl) (hX5_countUnits.at 3 rfl rfl) (fun x2 => ?_)
  exact os_iret (Nat.le_of_ble_eq_true rfl) (Nat.le_of_ble_eq_true rfl) (hX5_countUnits.at 4 rfl rfl).1
-- X5_countAllUnits
def KX5_countAllUnits : List (Nat × Nat × Instr) := [(0, 2, .bipush 16), (2, 1, .aload_n 0), (3, 3, .getfield 32), (6, 1, .iconst (-1)), (7, 3, .invokestatic 98), (10, 1, .isub), (11, 1, .ireturn)]
theorem hX5_countAllUnits : osDs cX5_countAllUnits KX5_countAllUnits := by
  show ∀ q ∈ KX5_countAllUnits, decode cX5_countAllUnits q.1 = .ok (q.2.2, q.2.1)
  decide +kernel
def qX5_countAllUnits (N : Nat) (l0 : Nat) : osM Int32 := osbind (osgR [5] 6 l0) fun x1 => osbind (qX5_countOf N x1 (-1 : Int32)) fun x2 => osret ((16 : Int32) - x2)
set_option maxRecDepth 100000 in
set_option maxHeartbeats 4000000 in
theorem sX5_countAllUnits (N : Nat) (l0 : Nat) : osMet yX5_countAllUnits cX5_countAllUnits 1 (some .int) 1 23 0 0 (fun r : Int32 => some (.int r)) [.ref l0] (qX5_countAllUnits N l0) := by
  refine osMet.of plX5 (Nat.le_of_ble_eq_true rfl) (osW.rw (lv2 := [(0, .ref l0)]) ?_ rfl rfl rfl)
  unfold qX5_countAllUnits
  refine os_bipush (i := 16) (v := (16 : Int32)) rfl (hX5_countAllUnits.at 0 rfl rfl) ?_
  refine os_aload_n (i := 0) (q := 0) (v := l0) 0 rfl rfl (hX5_countAllUnits.at 1 rfl rfl) ?_
  refine os_getR fX5_32 (hX5_countAllUnits.at 2 rfl rfl) (fun x1 => ?_)
  refine os_iconst (i := (-1)) (v := (-1 : Int32)) rfl (hX5_countAllUnits.at 3 rfl rfl) ?_
  refine os_callS (As := [.ref x1, .int (-1 : Int32)]) (st := [.int (16 : Int32)]) (st' := (fun r => .int r :: [.int (16 : Int32)])) mdX5_countOf wd803 wd804 (sX5_countOf N x1 (-1 : Int32)) rfl rfl (fun _ => rfl) (Nat.le_of_ble_eq_true rfl) (Nat.le_of_ble_eq_true rfl) (Nat.le_of_ble_eq_true rfl) rfl (Nat.le_of_ble_eq_true rfl) rfl (Nat.le_of_ble_eq_true rfl) (hX5_countAllUnits.at 4 rfl rfl) (fun x2 => ?_)
  refine os_isub (hX5_countAllUnits.at 5 rfl rfl) ?_
  exact os_iret (Nat.le_of_ble_eq_true rfl) (Nat.le_of_ble_eq_true rfl) (hX5_countAllUnits.at 6 rfl rfl).1
-- X5_countBuilds
def KX5_countBuilds : List (Nat × Nat × Instr) := [(0, 1, .aload_n 0), (1, 1, .iload_n 2), (2, 3, .invokevirtual 101), (5, 1, .aload_n 0), (6, 1, .iload_n 2), (7, 3, .invokevirtual 105), (10, 1, .isub), (11, 1, .istore_n 3), (12, 1, .iload_n 3), (13, 3, .ifCond .gt 5), (16, 1, .iload_n 3), (17, 1, .ireturn), (18, 1, .aload_n 0), (19, 1, .aload_n 1), (20, 1, .iload_n 2), (21, 3, .invokevirtual 108), (24, 3, .invokestatic 112), (27, 2, .istore 4), (29, 1, .iload_n 3), (30, 2, .iload 4), (32, 2, .bipush 12), (34, 1, .aload_n 0), (35, 3, .invokevirtual 117), (38, 1, .isub), (39, 3, .invokestatic 82), (42, 3, .invokestatic 82), (45, 1, .ireturn)]
theorem hX5_countBuilds : osDs cX5_countBuilds KX5_countBuilds := by
  show ∀ q ∈ KX5_countBuilds, decode cX5_countBuilds q.1 = .ok (q.2.2, q.2.1)
  decide +kernel
def qX5_countBuilds (N : Nat) (l0 : Nat) (l1 : Nat) (l2 : Int32) : osM Int32 := osbind (osrecv [5] l0 (qX5_countCenters N l0 l2)) fun x1 => osbind (osrecv [5] l0 (qX5_countUnits N l0 l2)) fun x2 => osite (0 < (x1 - x2)) (osbind (osrecv [5] l0 (qX5_freeHomes N l0 l1 l2)) fun x3 => osbind (qJ6_bitCount_0f7a4 N x3) fun x4 => osbind (osrecv [5] l0 (qX5_countAllUnits N l0)) fun x5 => osret (osmin (x1 - x2) (osmin x4 ((12 : Int32) - x5)))) (osret (x1 - x2))
set_option maxRecDepth 100000 in
set_option maxHeartbeats 4000000 in
theorem sX5_countBuilds (N : Nat) (l0 : Nat) (l1 : Nat) (l2 : Int32) : osMet yX5_countBuilds cX5_countBuilds 5 (some .int) 2 44 0 0 (fun r : Int32 => some (.int r)) [.ref l0, .ref l1, .int l2] (qX5_countBuilds N l0 l1 l2) := by
  refine osMet.of plX5 (Nat.le_of_ble_eq_true rfl) (osW.rw (lv2 := [(0, .ref l0), (1, .ref l1), (2, .int l2)]) ?_ rfl rfl rfl)
  unfold qX5_countBuilds
  refine os_aload_n (i := 0) (q := 0) (v := l0) 0 rfl rfl (hX5_countBuilds.at 0 rfl rfl) ?_
  refine os_iload_n (i := 2) (q := 2) (v := l2) 2 rfl rfl (hX5_countBuilds.at 1 rfl rfl) ?_
  refine os_callV (cis := [5]) (b := l0) (As := [.int l2]) (st := []) (st' := (fun r => .int r :: [])) sl5_X5_countCenters_X5_countCenters mdX5_countCenters wd1234 wd1235 (sX5_countCenters N l0 l2) rfl rfl (fun _ => rfl) (Nat.le_of_ble_eq_true rfl) (Nat.le_of_ble_eq_true rfl) (Nat.le_of_ble_eq_true rfl) rfl (Nat.le_of_ble_eq_true rfl) rfl (Nat.le_of_ble_eq_true rfl) (hX5_countBuilds.at 2 rfl rfl) (fun x1 => ?_)
  refine os_aload_n (i := 0) (q := 0) (v := l0) 0 rfl rfl (hX5_countBuilds.at 3 rfl rfl) ?_
  refine os_iload_n (i := 2) (q := 2) (v := l2) 2 rfl rfl (hX5_countBuilds.at 4 rfl rfl) ?_
  refine os_callV (cis := [5]) (b := l0) (As := [.int l2]) (st := [.int x1]) (st' := (fun r => .int r :: [.int x1])) sl5_X5_countUnits_X5_countUnits mdX5_countUnits wd1238 wd1239 (sX5_countUnits N l0 l2) rfl rfl (fun _ => rfl) (Nat.le_of_ble_eq_true rfl) (Nat.le_of_ble_eq_true rfl) (Nat.le_of_ble_eq_true rfl) rfl (Nat.le_of_ble_eq_true rfl) rfl (Nat.le_of_ble_eq_true rfl) (hX5_countBuilds.at 5 rfl rfl) (fun x2 => ?_)
  refine os_isub (hX5_countBuilds.at 6 rfl rfl) ?_
  refine os_istore_n (i := 3) (q := 3) rfl (lv' := [(3, .int (x1 - x2)), (0, .ref l0), (1, .ref l1), (2, .int l2)]) (Nat.le_of_ble_eq_true rfl) rfl (hX5_countBuilds.at 7 rfl rfl) ?_
  refine os_iload_n (i := 3) (q := 3) (v := (x1 - x2)) 0 rfl rfl (hX5_countBuilds.at 8 rfl rfl) ?_
  refine os_if_gt (off := 5) (tgt := 18) rfl (hX5_countBuilds.at 9 rfl rfl) ?_ ?_
  · refine os_aload_n (i := 0) (q := 0) (v := l0) 1 rfl rfl (hX5_countBuilds.at 12 rfl rfl) ?_
    refine os_aload_n (i := 1) (q := 1) (v := l1) 2 rfl rfl (hX5_countBuilds.at 13 rfl rfl) ?_
    refine os_iload_n (i := 2) (q := 2) (v := l2) 3 rfl rfl (hX5_countBuilds.at 14 rfl rfl) ?_
    refine os_callV (cis := [5]) (b := l0) (As := [.ref l1, .int l2]) (st := []) (st' := (fun r => .int r :: [])) sl5_X5_freeHomes_X5_freeHomes mdX5_freeHomes wd1226 wd1228 (sX5_freeHomes N l0 l1 l2) rfl rfl (fun _ => rfl) (Nat.le_of_ble_eq_true rfl) (Nat.le_of_ble_eq_true rfl) (Nat.le_of_ble_eq_true rfl) rfl (Nat.le_of_ble_eq_true rfl) rfl (Nat.le_of_ble_eq_true rfl) (hX5_countBuilds.at 15 rfl rfl) (fun x3 => ?_)
    refine os_callS (As := [.int x3]) (st := []) (st' := (fun r => .int r :: [])) mdJ6_bitCount_0f7a4 wd1242 wd1243 (sJ6_bitCount_0f7a4 N x3) rfl rfl (fun _ => rfl) (Nat.le_of_ble_eq_true rfl) (Nat.le_of_ble_eq_true rfl) (Nat.le_of_ble_eq_true rfl) rfl (Nat.le_of_ble_eq_true rfl) rfl (Nat.le_of_ble_eq_true rfl) (hX5_countBuilds.at 16 rfl rfl) (fun x4 => ?_)
    refine os_istore (i := 4) (lv' := [(4, .int x4), (3, .int (x1 - x2)), (0, .ref l0), (1, .ref l1), (2, .int l2)]) (Nat.le_of_ble_eq_true rfl) rfl (hX5_countBuilds.at 17 rfl rfl) ?_
    refine os_iload_n (i := 3) (q := 3) (v := (x1 - x2)) 1 rfl rfl (hX5_countBuilds.at 18 rfl rfl) ?_
    refine os_iload (v := x4) 0 rfl (hX5_countBuilds.at 19 rfl rfl) ?_
    refine os_bipush (i := 12) (v := (12 : Int32)) rfl (hX5_countBuilds.at 20 rfl rfl) ?_
    refine os_aload_n (i := 0) (q := 0) (v := l0) 2 rfl rfl (hX5_countBuilds.at 21 rfl rfl) ?_
    refine os_callV (cis := [5]) (b := l0) (As := []) (st := [.int (12 : Int32), .int x4, .int (x1 - x2)]) (st' := (fun r => .int r :: [.int (12 : Int32), .int x4, .int (x1 - x2)])) sl5_X5_countAllUnits_X5_countAllUnits mdX5_countAllUnits wd1248 wd800 (sX5_countAllUnits N l0 ) rfl rfl (fun _ => rfl) (Nat.le_of_ble_eq_true rfl) (Nat.le_of_ble_eq_true rfl) (Nat.le_of_ble_eq_true rfl) rfl (Nat.le_of_ble_eq_true rfl) rfl (Nat.le_of_ble_eq_true rfl) (hX5_countBuilds.at 22 rfl rfl) (fun x5 => ?_)
    refine os_isub (hX5_countBuilds.at 23 rfl rfl) ?_
    refine os_min wd1109 wd655 wd68 wmin (Nat.le_of_ble_eq_true rfl) (Nat.le_of_ble_eq_true rfl) (Nat.le_of_ble_eq_true rfl) (Nat.le_of_ble_eq_true rfl) (Nat.le_of_ble_eq_true rfl) (hX5_countBuilds.at 24 rfl rfl) ?_
    refine os_min wd1109 wd655 wd68 wmin (Nat.le_of_ble_eq_true rfl) (Nat.le_of_ble_eq_true rfl) (Nat.le_of_ble_eq_true rfl) (Nat.le_of_ble_eq_true rfl) (Nat.le_of_ble_eq_true rfl) (hX5_countBuilds.at 25 rfl rfl) ?_
    exact os_iret (Nat.le_of_ble_eq_true rfl) (Nat.le_of_ble_eq_true rfl) (hX5_countBuilds.at 26 rfl rfl).1
  · refine os_iload_n (i := 3) (q := 3) (v := (x1 - x2)) 0 rfl rfl (hX5_countBuilds.at 10 rfl rfl) ?_
    exact os_iret (Nat.le_of_ble_eq_true rfl) (Nat.le_of_ble_eq_true rfl) (hX5_countBuilds.at 11 rfl rfl).1
-- X5_canGo
def KX5_canGo : List (Nat × Nat × Instr) := [(0, 1, .aload_n 0), (1, 3, .getfield 35), (4, 1, .iload_n 2), (5, 3, .invokestatic 94), (8, 2, .istore 4), (10, 2, .iload 4), (12, 1, .iconst (-1)), (13, 3, .if_icmp .eq 18), (16, 1, .aload_n 1), (17, 1, .iload_n 2), (18, 1, .iload_n 3), (19, 2, .iload 4), (21, 3, .invokevirtual 134), (24, 3, .ifCond .eq 7), (27, 1, .iconst 1), (28, 3, .goto 4), (31, 1, .iconst 0), (32, 1, .ireturn)]
theorem hX5_canGo : osDs cX5_canGo KX5_canGo := by
  show ∀ q ∈ KX5_canGo, decode cX5_canGo q.1 = .ok (q.2.2, q.2.1)
  decide +kernel
def qX5_canGo_32 (N : Nat) (k0 : Int32) : osM Int32 := osretZ k0
def qX5_canGo_31 (N : Nat) : osM Int32 := qX5_canGo_32 N (0 : Int32)
def qX5_canGo (N : Nat) (l0 : Nat) (l1 : Nat) (l2 : Int32) (l3 : Int32) : osM Int32 := osbind (osgR [5] 7 l0) fun x1 => osbind (qX9_entry N x1 l2) fun x2 => osite (x2 = (-1 : Int32)) (qX5_canGo_31 N ) (osbind (osrecv [0] l1 (qX0_letsPass N l1 l2 l3 x2)) fun x3 => osite (x3 = 0) (qX5_canGo_31 N ) (qX5_canGo_32 N (1 : Int32)))
set_option maxRecDepth 100000 in
set_option maxHeartbeats 4000000 in
theorem sX5_canGo_32 (N : Nat) (k0 : Int32) : osW (osFinM (fun r : Int32 => some (.int r)) 0 0) yX5_canGo cX5_canGo 5 (some .boolean) [] { frames := 1, cells := 0, slots := 0, locals := 24 } 0 0 32 [] [.int k0] (qX5_canGo_32 N k0) := by
  unfold qX5_canGo_32
  exact os_zret (Nat.le_of_ble_eq_true rfl) (Nat.le_of_ble_eq_true rfl) (hX5_canGo.at 17 rfl rfl).1
set_option maxRecDepth 100000 in
set_option maxHeartbeats 4000000 in
theorem sX5_canGo_31 (N : Nat) : osW (osFinM (fun r : Int32 => some (.int r)) 0 0) yX5_canGo cX5_canGo 5 (some .boolean) [] { frames := 1, cells := 0, slots := 0, locals := 24 } 0 0 31 [] [] (qX5_canGo_31 N) := by
  unfold qX5_canGo_31
  refine os_iconst (i := 0) (v := (0 : Int32)) rfl (hX5_canGo.at 16 rfl rfl) ?_
  exact osW.sub [] rfl (sX5_canGo_32 N (0 : Int32))
set_option maxRecDepth 100000 in
set_option maxHeartbeats 4000000 in
theorem sX5_canGo (N : Nat) (l0 : Nat) (l1 : Nat) (l2 : Int32) (l3 : Int32) : osMet yX5_canGo cX5_canGo 5 (some .boolean) 1 24 0 0 (fun r : Int32 => some (.int r)) [.ref l0, .ref l1, .int l2, .int l3] (qX5_canGo N l0 l1 l2 l3) := by
  refine osMet.of plX5 (Nat.le_of_ble_eq_true rfl) (osW.rw (lv2 := [(0, .ref l0), (1, .ref l1), (2, .int l2), (3, .int l3)]) ?_ rfl rfl rfl)
  unfold qX5_canGo
  refine os_aload_n (i := 0) (q := 0) (v := l0) 0 rfl rfl (hX5_canGo.at 0 rfl rfl) ?_
  refine os_getR fX5_35 (hX5_canGo.at 1 rfl rfl) (fun x1 => ?_)
  refine os_iload_n (i := 2) (q := 2) (v := l2) 2 rfl rfl (hX5_canGo.at 2 rfl rfl) ?_
  refine os_callSN (host := "OrderSettler") (As := [.ref x1, .int l2]) (st := []) (st' := (fun r => .int r :: [])) mdX9_entry wd810 wd784 (sX9_entry N x1 l2) rfl rfl (fun _ => rfl) (Nat.le_of_ble_eq_true rfl) (Nat.le_of_ble_eq_true rfl) (Nat.le_of_ble_eq_true rfl) rfl (Nat.le_of_ble_eq_true rfl) rfl (Nat.le_of_ble_eq_true rfl) (hX5_canGo.at 3 rfl rfl) (fun x2 => ?_)
  refine os_istore (i := 4) (lv' := [(4, .int x2), (0, .ref l0), (1, .ref l1), (2, .int l2), (3, .int l3)]) (Nat.le_of_ble_eq_true rfl) rfl (hX5_canGo.at 4 rfl rfl) ?_
  refine os_iload (v := x2) 0 rfl (hX5_canGo.at 5 rfl rfl) ?_
  refine os_iconst (i := (-1)) (v := (-1 : Int32)) rfl (hX5_canGo.at 6 rfl rfl) ?_
  refine os_icmp_eq (off := 18) (tgt := 31) rfl (hX5_canGo.at 7 rfl rfl) ?_ ?_
  · exact osW.sub [] rfl (sX5_canGo_31 N )
  · refine os_aload_n (i := 1) (q := 1) (v := l1) 2 rfl rfl (hX5_canGo.at 8 rfl rfl) ?_
    refine os_iload_n (i := 2) (q := 2) (v := l2) 3 rfl rfl (hX5_canGo.at 9 rfl rfl) ?_
    refine os_iload_n (i := 3) (q := 3) (v := l3) 4 rfl rfl (hX5_canGo.at 10 rfl rfl) ?_
    refine os_iload (v := x2) 0 rfl (hX5_canGo.at 11 rfl rfl) ?_
    refine os_callV (cis := [0]) (b := l1) (As := [.int l2, .int l3, .int x2]) (st := []) (st' := (fun r => .int r :: [])) sl0_X0_letsPass_X0_letsPass mdX0_letsPass wd1156 wd737 (sX0_letsPass N l1 l2 l3 x2) rfl rfl (fun _ => rfl) (Nat.le_of_ble_eq_true rfl) (Nat.le_of_ble_eq_true rfl) (Nat.le_of_ble_eq_true rfl) rfl (Nat.le_of_ble_eq_true rfl) rfl (Nat.le_of_ble_eq_true rfl) (hX5_canGo.at 12 rfl rfl) (fun x3 => ?_)
    refine os_if_eq (off := 7) (tgt := 31) rfl (hX5_canGo.at 13 rfl rfl) ?_ ?_
    · exact osW.sub [] rfl (sX5_canGo_31 N )
    · refine os_iconst (i := 1) (v := (1 : Int32)) rfl (hX5_canGo.at 14 rfl rfl) ?_
      refine os_goto (off := 4) (tgt := 32) rfl (hX5_canGo.at 15 rfl rfl) ?_
      exact osW.sub [] rfl (sX5_canGo_32 N (1 : Int32))
-- X5_hasArmy
def KX5_hasArmy : List (Nat × Nat × Instr) := [(0, 1, .aload_n 0), (1, 3, .getfield 35), (4, 1, .iload_n 1), (5, 3, .invokestatic 94), (8, 3, .ifCond .ne 7), (11, 1, .iconst 1), (12, 3, .goto 4), (15, 1, .iconst 0), (16, 1, .ireturn)]
theorem hX5_hasArmy : osDs cX5_hasArmy KX5_hasArmy := by
  show ∀ q ∈ KX5_hasArmy, decode cX5_hasArmy q.1 = .ok (q.2.2, q.2.1)
  decide +kernel
def qX5_hasArmy_16 (N : Nat) (k0 : Int32) : osM Int32 := osretZ k0
def qX5_hasArmy (N : Nat) (l0 : Nat) (l1 : Int32) : osM Int32 := osbind (osgR [5] 7 l0) fun x1 => osbind (qX9_entry N x1 l1) fun x2 => osite (x2 = 0) (qX5_hasArmy_16 N (1 : Int32)) (qX5_hasArmy_16 N (0 : Int32))
set_option maxRecDepth 100000 in
set_option maxHeartbeats 4000000 in
theorem sX5_hasArmy_16 (N : Nat) (k0 : Int32) : osW (osFinM (fun r : Int32 => some (.int r)) 0 0) yX5_hasArmy cX5_hasArmy 2 (some .boolean) [] { frames := 1, cells := 0, slots := 0, locals := 21 } 0 0 16 [] [.int k0] (qX5_hasArmy_16 N k0) := by
  unfold qX5_hasArmy_16
  exact os_zret (Nat.le_of_ble_eq_true rfl) (Nat.le_of_ble_eq_true rfl) (hX5_hasArmy.at 8 rfl rfl).1
set_option maxRecDepth 100000 in
set_option maxHeartbeats 4000000 in
theorem sX5_hasArmy (N : Nat) (l0 : Nat) (l1 : Int32) : osMet yX5_hasArmy cX5_hasArmy 2 (some .boolean) 1 21 0 0 (fun r : Int32 => some (.int r)) [.ref l0, .int l1] (qX5_hasArmy N l0 l1) := by
  refine osMet.of plX5 (Nat.le_of_ble_eq_true rfl) (osW.rw (lv2 := [(0, .ref l0), (1, .int l1)]) ?_ rfl rfl rfl)
  unfold qX5_hasArmy
  refine os_aload_n (i := 0) (q := 0) (v := l0) 0 rfl rfl (hX5_hasArmy.at 0 rfl rfl) ?_
  refine os_getR fX5_35 (hX5_hasArmy.at 1 rfl rfl) (fun x1 => ?_)
  refine os_iload_n (i := 1) (q := 1) (v := l1) 1 rfl rfl (hX5_hasArmy.at 2 rfl rfl) ?_
  refine os_callSN (host := "OrderSettler") (As := [.ref x1, .int l1]) (st := []) (st' := (fun r => .int r :: [])) mdX9_entry wd810 wd784 (sX9_entry N x1 l1) rfl rfl (fun _ => rfl) (Nat.le_of_ble_eq_true rfl) (Nat.le_of_ble_eq_true rfl) (Nat.le_of_ble_eq_true rfl) rfl (Nat.le_of_ble_eq_true rfl) rfl (Nat.le_of_ble_eq_true rfl) (hX5_hasArmy.at 3 rfl rfl) (fun x2 => ?_)
  refine os_if_ne (off := 7) (tgt := 15) rfl (hX5_hasArmy.at 4 rfl rfl) ?_ ?_
  · refine os_iconst (i := 0) (v := (0 : Int32)) rfl (hX5_hasArmy.at 7 rfl rfl) ?_
    exact osW.sub [] rfl (sX5_hasArmy_16 N (0 : Int32))
  · refine os_iconst (i := 1) (v := (1 : Int32)) rfl (hX5_hasArmy.at 5 rfl rfl) ?_
    refine os_goto (off := 4) (tgt := 16) rfl (hX5_hasArmy.at 6 rfl rfl) ?_
    exact osW.sub [] rfl (sX5_hasArmy_16 N (1 : Int32))
-- X5_allowsUnitSupport
def KX5_allowsUnitSupport : List (Nat × Nat × Instr) := [(0, 1, .aload_n 0), (1, 1, .iload_n 3), (2, 3, .invokevirtual 126), (5, 3, .ifCond .eq 17), (8, 1, .aload_n 0), (9, 1, .aload_n 1), (10, 1, .iload_n 2), (11, 1, .iload_n 3), (12, 3, .invokevirtual 130), (15, 3, .ifCond .eq 7), (18, 1, .iconst 1), (19, 3, .goto 4), (22, 1, .iconst 0), (23, 1, .ireturn)]
theorem hX5_allowsUnitSupport : osDs cX5_allowsUnitSupport KX5_allowsUnitSupport := by
  show ∀ q ∈ KX5_allowsUnitSupport, decode cX5_allowsUnitSupport q.1 = .ok (q.2.2, q.2.1)
  decide +kernel
def qX5_allowsUnitSupport_23 (N : Nat) (k0 : Int32) : osM Int32 := osretZ k0
def qX5_allowsUnitSupport_22 (N : Nat) : osM Int32 := qX5_allowsUnitSupport_23 N (0 : Int32)
def qX5_allowsUnitSupport (N : Nat) (l0 : Nat) (l1 : Nat) (l2 : Int32) (l3 : Int32) : osM Int32 := osbind (osrecv [5] l0 (qX5_hasUnit N l0 l3)) fun x1 => osite (x1 = 0) (qX5_allowsUnitSupport_22 N ) (osbind (osrecv [5] l0 (qX5_canGo N l0 l1 l2 l3)) fun x2 => osite (x2 = 0) (qX5_allowsUnitSupport_22 N ) (qX5_allowsUnitSupport_23 N (1 : Int32)))
set_option maxRecDepth 100000 in
set_option maxHeartbeats 4000000 in
theorem sX5_allowsUnitSupport_23 (N : Nat) (k0 : Int32) : osW (osFinM (fun r : Int32 => some (.int r)) 0 0) yX5_allowsUnitSupport cX5_allowsUnitSupport 4 (some .boolean) [] { frames := 2, cells := 0, slots := 0, locals := 48 } 0 0 23 [] [.int k0] (qX5_allowsUnitSupport_23 N k0) := by
  unfold qX5_allowsUnitSupport_23
  exact os_zret (Nat.le_of_ble_eq_true rfl) (Nat.le_of_ble_eq_true rfl) (hX5_allowsUnitSupport.at 13 rfl rfl).1
set_option maxRecDepth 100000 in
set_option maxHeartbeats 4000000 in
theorem sX5_allowsUnitSupport_22 (N : Nat) : osW (osFinM (fun r : Int32 => some (.int r)) 0 0) yX5_allowsUnitSupport cX5_allowsUnitSupport 4 (some .boolean) [] { frames := 2, cells := 0, slots := 0, locals := 48 } 0 0 22 [] [] (qX5_allowsUnitSupport_22 N) := by
  unfold qX5_allowsUnitSupport_22
  refine os_iconst (i := 0) (v := (0 : Int32)) rfl (hX5_allowsUnitSupport.at 12 rfl rfl) ?_
  exact osW.sub [] rfl (sX5_allowsUnitSupport_23 N (0 : Int32))
set_option maxRecDepth 100000 in
set_option maxHeartbeats 4000000 in
theorem sX5_allowsUnitSupport (N : Nat) (l0 : Nat) (l1 : Nat) (l2 : Int32) (l3 : Int32) : osMet yX5_allowsUnitSupport cX5_allowsUnitSupport 4 (some .boolean) 2 48 0 0 (fun r : Int32 => some (.int r)) [.ref l0, .ref l1, .int l2, .int l3] (qX5_allowsUnitSupport N l0 l1 l2 l3) := by
  refine osMet.of plX5 (Nat.le_of_ble_eq_true rfl) (osW.rw (lv2 := [(0, .ref l0), (1, .ref l1), (2, .int l2), (3, .int l3)]) ?_ rfl rfl rfl)
  unfold qX5_allowsUnitSupport
  refine os_aload_n (i := 0) (q := 0) (v := l0) 0 rfl rfl (hX5_allowsUnitSupport.at 0 rfl rfl) ?_
  refine os_iload_n (i := 3) (q := 3) (v := l3) 3 rfl rfl (hX5_allowsUnitSupport.at 1 rfl rfl) ?_
  refine os_callV (cis := [5]) (b := l0) (As := [.int l3]) (st := []) (st' := (fun r => .int r :: [])) sl5_X5_hasUnit_X5_hasUnit mdX5_hasUnit wd1175 wd807 (sX5_hasUnit N l0 l3) rfl rfl (fun _ => rfl) (Nat.le_of_ble_eq_true rfl) (Nat.le_of_ble_eq_true rfl) (Nat.le_of_ble_eq_true rfl) rfl (Nat.le_of_ble_eq_true rfl) rfl (Nat.le_of_ble_eq_true rfl) (hX5_allowsUnitSupport.at 2 rfl rfl) (fun x1 => ?_)
  refine os_if_eq (off := 17) (tgt := 22) rfl (hX5_allowsUnitSupport.at 3 rfl rfl) ?_ ?_
  · exact osW.sub [] rfl (sX5_allowsUnitSupport_22 N )
  · refine os_aload_n (i := 0) (q := 0) (v := l0) 0 rfl rfl (hX5_allowsUnitSupport.at 4 rfl rfl) ?_
    refine os_aload_n (i := 1) (q := 1) (v := l1) 1 rfl rfl (hX5_allowsUnitSupport.at 5 rfl rfl) ?_
    refine os_iload_n (i := 2) (q := 2) (v := l2) 2 rfl rfl (hX5_allowsUnitSupport.at 6 rfl rfl) ?_
    refine os_iload_n (i := 3) (q := 3) (v := l3) 3 rfl rfl (hX5_allowsUnitSupport.at 7 rfl rfl) ?_
    refine os_callV (cis := [5]) (b := l0) (As := [.ref l1, .int l2, .int l3]) (st := []) (st' := (fun r => .int r :: [])) sl5_X5_canGo_X5_canGo mdX5_canGo wd1152 wd1153 (sX5_canGo N l0 l1 l2 l3) rfl rfl (fun _ => rfl) (Nat.le_of_ble_eq_true rfl) (Nat.le_of_ble_eq_true rfl) (Nat.le_of_ble_eq_true rfl) rfl (Nat.le_of_ble_eq_true rfl) rfl (Nat.le_of_ble_eq_true rfl) (hX5_allowsUnitSupport.at 8 rfl rfl) (fun x2 => ?_)
    refine os_if_eq (off := 7) (tgt := 22) rfl (hX5_allowsUnitSupport.at 9 rfl rfl) ?_ ?_
    · exact osW.sub [] rfl (sX5_allowsUnitSupport_22 N )
    · refine os_iconst (i := 1) (v := (1 : Int32)) rfl (hX5_allowsUnitSupport.at 10 rfl rfl) ?_
      refine os_goto (off := 4) (tgt := 23) rfl (hX5_allowsUnitSupport.at 11 rfl rfl) ?_
      exact osW.sub [] rfl (sX5_allowsUnitSupport_23 N (1 : Int32))
-- X5_allowsMoveSupport
def KX5_allowsMoveSupport : List (Nat × Nat × Instr) := [(0, 1, .aload_n 0), (1, 1, .iload_n 3), (2, 3, .invokevirtual 126), (5, 3, .ifCond .eq 29), (8, 1, .iload_n 3), (9, 1, .iload_n 2), (10, 3, .if_icmp .eq 24), (13, 1, .iload_n 3), (14, 2, .iload 4), (16, 3, .if_icmp .eq 18), (19, 1, .aload_n 0), (20, 1, .aload_n 1), (21, 1, .iload_n 2), (22, 2, .iload 4), (24, 3, .invokevirtual 130), (27, 3, .ifCond .eq 7), (30, 1, .iconst 1), (31, 3, .goto 4), (34, 1, .iconst 0), (35, 1, .ireturn)]
theorem hX5_allowsMoveSupport : osDs cX5_allowsMoveSupport KX5_allowsMoveSupport := by
  show ∀ q ∈ KX5_allowsMoveSupport, decode cX5_allowsMoveSupport q.1 = .ok (q.2.2, q.2.1)
  decide +kernel
def qX5_allowsMoveSupport_35 (N : Nat) (k0 : Int32) : osM Int32 := osretZ k0
def qX5_allowsMoveSupport_34 (N : Nat) : osM Int32 := qX5_allowsMoveSupport_35 N (0 : Int32)
def qX5_allowsMoveSupport (N : Nat) (l0 : Nat) (l1 : Nat) (l2 : Int32) (l3 : Int32) (l4 : Int32) : osM Int32 := osbind (osrecv [5] l0 (qX5_hasUnit N l0 l3)) fun x1 => osite (x1 = 0) (qX5_allowsMoveSupport_34 N ) (osite (l3 = l2) (qX5_allowsMoveSupport_34 N ) (osite (l3 = l4) (qX5_allowsMoveSupport_34 N ) (osbind (osrecv [5] l0 (qX5_canGo N l0 l1 l2 l4)) fun x2 => osite (x2 = 0) (qX5_allowsMoveSupport_34 N ) (qX5_allowsMoveSupport_35 N (1 : Int32)))))
set_option maxRecDepth 100000 in
set_option maxHeartbeats 4000000 in
theorem sX5_allowsMoveSupport_35 (N : Nat) (k0 : Int32) : osW (osFinM (fun r : Int32 => some (.int r)) 0 0) yX5_allowsMoveSupport cX5_allowsMoveSupport 5 (some .boolean) [] { frames := 2, cells := 0, slots := 0, locals := 48 } 0 0 35 [] [.int k0] (qX5_allowsMoveSupport_35 N k0) := by
  unfold qX5_allowsMoveSupport_35
  exact os_zret (Nat.le_of_ble_eq_true rfl) (Nat.le_of_ble_eq_true rfl) (hX5_allowsMoveSupport.at 19 rfl rfl).1
set_option maxRecDepth 100000 in
set_option maxHeartbeats 4000000 in
theorem sX5_allowsMoveSupport_34 (N : Nat) : osW (osFinM (fun r : Int32 => some (.int r)) 0 0) yX5_allowsMoveSupport cX5_allowsMoveSupport 5 (some .boolean) [] { frames := 2, cells := 0, slots := 0, locals := 48 } 0 0 34 [] [] (qX5_allowsMoveSupport_34 N) := by
  unfold qX5_allowsMoveSupport_34
  refine os_iconst (i := 0) (v := (0 : Int32)) rfl (hX5_allowsMoveSupport.at 18 rfl rfl) ?_
  exact osW.sub [] rfl (sX5_allowsMoveSupport_35 N (0 : Int32))
set_option maxRecDepth 100000 in
set_option maxHeartbeats 4000000 in
theorem sX5_allowsMoveSupport (N : Nat) (l0 : Nat) (l1 : Nat) (l2 : Int32) (l3 : Int32) (l4 : Int32) : osMet yX5_allowsMoveSupport cX5_allowsMoveSupport 5 (some .boolean) 2 48 0 0 (fun r : Int32 => some (.int r)) [.ref l0, .ref l1, .int l2, .int l3, .int l4] (qX5_allowsMoveSupport N l0 l1 l2 l3 l4) := by
  refine osMet.of plX5 (Nat.le_of_ble_eq_true rfl) (osW.rw (lv2 := [(0, .ref l0), (1, .ref l1), (2, .int l2), (3, .int l3), (4, .int l4)]) ?_ rfl rfl rfl)
  unfold qX5_allowsMoveSupport
  refine os_aload_n (i := 0) (q := 0) (v := l0) 0 rfl rfl (hX5_allowsMoveSupport.at 0 rfl rfl) ?_
  refine os_iload_n (i := 3) (q := 3) (v := l3) 3 rfl rfl (hX5_allowsMoveSupport.at 1 rfl rfl) ?_
  refine os_callV (cis := [5]) (b := l0) (As := [.int l3]) (st := []) (st' := (fun r => .int r :: [])) sl5_X5_hasUnit_X5_hasUnit mdX5_hasUnit wd1175 wd807 (sX5_hasUnit N l0 l3) rfl rfl (fun _ => rfl) (Nat.le_of_ble_eq_true rfl) (Nat.le_of_ble_eq_true rfl) (Nat.le_of_ble_eq_true rfl) rfl (Nat.le_of_ble_eq_true rfl) rfl (Nat.le_of_ble_eq_true rfl) (hX5_allowsMoveSupport.at 2 rfl rfl) (fun x1 => ?_)
  refine os_if_eq (off := 29) (tgt := 34) rfl (hX5_allowsMoveSupport.at 3 rfl rfl) ?_ ?_
  · exact osW.sub [] rfl (sX5_allowsMoveSupport_34 N )
  · refine os_iload_n (i := 3) (q := 3) (v := l3) 3 rfl rfl (hX5_allowsMoveSupport.at 4 rfl rfl) ?_
    refine os_iload_n (i := 2) (q := 2) (v := l2) 2 rfl rfl (hX5_allowsMoveSupport.at 5 rfl rfl) ?_
    refine os_icmp_eq (off := 24) (tgt := 34) rfl (hX5_allowsMoveSupport.at 6 rfl rfl) ?_ ?_
    · exact osW.sub [] rfl (sX5_allowsMoveSupport_34 N )
    · refine os_iload_n (i := 3) (q := 3) (v := l3) 3 rfl rfl (hX5_allowsMoveSupport.at 7 rfl rfl) ?_
      refine os_iload (v := l4) 4 rfl (hX5_allowsMoveSupport.at 8 rfl rfl) ?_
      refine os_icmp_eq (off := 18) (tgt := 34) rfl (hX5_allowsMoveSupport.at 9 rfl rfl) ?_ ?_
      · exact osW.sub [] rfl (sX5_allowsMoveSupport_34 N )
      · refine os_aload_n (i := 0) (q := 0) (v := l0) 0 rfl rfl (hX5_allowsMoveSupport.at 10 rfl rfl) ?_
        refine os_aload_n (i := 1) (q := 1) (v := l1) 1 rfl rfl (hX5_allowsMoveSupport.at 11 rfl rfl) ?_
        refine os_iload_n (i := 2) (q := 2) (v := l2) 2 rfl rfl (hX5_allowsMoveSupport.at 12 rfl rfl) ?_
        refine os_iload (v := l4) 4 rfl (hX5_allowsMoveSupport.at 13 rfl rfl) ?_
        refine os_callV (cis := [5]) (b := l0) (As := [.ref l1, .int l2, .int l4]) (st := []) (st' := (fun r => .int r :: [])) sl5_X5_canGo_X5_canGo mdX5_canGo wd1152 wd1153 (sX5_canGo N l0 l1 l2 l4) rfl rfl (fun _ => rfl) (Nat.le_of_ble_eq_true rfl) (Nat.le_of_ble_eq_true rfl) (Nat.le_of_ble_eq_true rfl) rfl (Nat.le_of_ble_eq_true rfl) rfl (Nat.le_of_ble_eq_true rfl) (hX5_allowsMoveSupport.at 14 rfl rfl) (fun x2 => ?_)
        refine os_if_eq (off := 7) (tgt := 34) rfl (hX5_allowsMoveSupport.at 15 rfl rfl) ?_ ?_
        · exact osW.sub [] rfl (sX5_allowsMoveSupport_34 N )
        · refine os_iconst (i := 1) (v := (1 : Int32)) rfl (hX5_allowsMoveSupport.at 16 rfl rfl) ?_
          refine os_goto (off := 4) (tgt := 35) rfl (hX5_allowsMoveSupport.at 17 rfl rfl) ?_
          exact osW.sub [] rfl (sX5_allowsMoveSupport_35 N (1 : Int32))
-- X5_joinsCoasts
def KX5_joinsCoasts : List (Nat × Nat × Instr) := [(0, 1, .iload_n 1), (1, 1, .iload_n 2), (2, 3, .if_icmp .eq 29), (5, 1, .aload_n 0), (6, 3, .getfield 151), (9, 1, .iload_n 1), (10, 3, .invokestatic 147), (13, 3, .ifCond .eq 18), (16, 1, .aload_n 0), (17, 3, .getfield 151), (20, 1, .iload_n 2), (21, 3, .invokestatic 147), (24, 3, .ifCond .eq 7), (27, 1, .iconst 1), (28, 3, .goto 4), (31, 1, .iconst 0), (32, 1, .ireturn)]
theorem hX5_joinsCoasts : osDs cX5_joinsCoasts KX5_joinsCoasts := by
  show ∀ q ∈ KX5_joinsCoasts, decode cX5_joinsCoasts q.1 = .ok (q.2.2, q.2.1)
  decide +kernel
def qX5_joinsCoasts_32 (N : Nat) (k0 : Int32) : osM Int32 := osretZ k0
def qX5_joinsCoasts_31 (N : Nat) : osM Int32 := qX5_joinsCoasts_32 N (0 : Int32)
def qX5_joinsCoasts (N : Nat) (l0 : Nat) (l1 : Int32) (l2 : Int32) : osM Int32 := osite (l1 = l2) (qX5_joinsCoasts_31 N ) (osbind (osgI [0] 2 l0) fun x1 => osbind (qX9_has N x1 l1) fun x2 => osite (x2 = 0) (qX5_joinsCoasts_31 N ) (osbind (osgI [0] 2 l0) fun x3 => osbind (qX9_has N x3 l2) fun x4 => osite (x4 = 0) (qX5_joinsCoasts_31 N ) (qX5_joinsCoasts_32 N (1 : Int32))))
set_option maxRecDepth 100000 in
set_option maxHeartbeats 4000000 in
theorem sX5_joinsCoasts_32 (N : Nat) (k0 : Int32) : osW (osFinM (fun r : Int32 => some (.int r)) 0 0) yX5_joinsCoasts cX5_joinsCoasts 3 (some .boolean) [] { frames := 1, cells := 0, slots := 0, locals := 21 } 0 0 32 [] [.int k0] (qX5_joinsCoasts_32 N k0) := by
  unfold qX5_joinsCoasts_32
  exact os_zret (Nat.le_of_ble_eq_true rfl) (Nat.le_of_ble_eq_true rfl) (hX5_joinsCoasts.at 16 rfl rfl).1
set_option maxRecDepth 100000 in
set_option maxHeartbeats 4000000 in
theorem sX5_joinsCoasts_31 (N : Nat) : osW (osFinM (fun r : Int32 => some (.int r)) 0 0) yX5_joinsCoasts cX5_joinsCoasts 3 (some .boolean) [] { frames := 1, cells := 0, slots := 0, locals := 21 } 0 0 31 [] [] (qX5_joinsCoasts_31 N) := by
  unfold qX5_joinsCoasts_31
  refine os_iconst (i := 0) (v := (0 : Int32)) rfl (hX5_joinsCoasts.at 15 rfl rfl) ?_
  exact osW.sub [] rfl (sX5_joinsCoasts_32 N (0 : Int32))
set_option maxRecDepth 100000 in
set_option maxHeartbeats 4000000 in
theorem sX5_joinsCoasts (N : Nat) (l0 : Nat) (l1 : Int32) (l2 : Int32) : osMet yX5_joinsCoasts cX5_joinsCoasts 3 (some .boolean) 1 21 0 0 (fun r : Int32 => some (.int r)) [.ref l0, .int l1, .int l2] (qX5_joinsCoasts N l0 l1 l2) := by
  refine osMet.of plX5 (Nat.le_of_ble_eq_true rfl) (osW.rw (lv2 := [(0, .ref l0), (1, .int l1), (2, .int l2)]) ?_ rfl rfl rfl)
  unfold qX5_joinsCoasts
  refine os_iload_n (i := 1) (q := 1) (v := l1) 1 rfl rfl (hX5_joinsCoasts.at 0 rfl rfl) ?_
  refine os_iload_n (i := 2) (q := 2) (v := l2) 2 rfl rfl (hX5_joinsCoasts.at 1 rfl rfl) ?_
  refine os_icmp_eq (off := 29) (tgt := 31) rfl (hX5_joinsCoasts.at 2 rfl rfl) ?_ ?_
  · exact osW.sub [] rfl (sX5_joinsCoasts_31 N )
  · refine os_aload_n (i := 0) (q := 0) (v := l0) 0 rfl rfl (hX5_joinsCoasts.at 3 rfl rfl) ?_
    refine os_getI fX5_151 (hX5_joinsCoasts.at 4 rfl rfl) (fun x1 => ?_)
    refine os_iload_n (i := 1) (q := 1) (v := l1) 1 rfl rfl (hX5_joinsCoasts.at 5 rfl rfl) ?_
    refine os_callSN (host := "OrderSettler") (As := [.int x1, .int l1]) (st := []) (st' := (fun r => .int r :: [])) mdX9_has wd1164 wd749 (sX9_has N x1 l1) rfl rfl (fun _ => rfl) (Nat.le_of_ble_eq_true rfl) (Nat.le_of_ble_eq_true rfl) (Nat.le_of_ble_eq_true rfl) rfl (Nat.le_of_ble_eq_true rfl) rfl (Nat.le_of_ble_eq_true rfl) (hX5_joinsCoasts.at 6 rfl rfl) (fun x2 => ?_)
    refine os_if_eq (off := 18) (tgt := 31) rfl (hX5_joinsCoasts.at 7 rfl rfl) ?_ ?_
    · exact osW.sub [] rfl (sX5_joinsCoasts_31 N )
    · refine os_aload_n (i := 0) (q := 0) (v := l0) 0 rfl rfl (hX5_joinsCoasts.at 8 rfl rfl) ?_
      refine os_getI fX5_151 (hX5_joinsCoasts.at 9 rfl rfl) (fun x3 => ?_)
      refine os_iload_n (i := 2) (q := 2) (v := l2) 2 rfl rfl (hX5_joinsCoasts.at 10 rfl rfl) ?_
      refine os_callSN (host := "OrderSettler") (As := [.int x3, .int l2]) (st := []) (st' := (fun r => .int r :: [])) mdX9_has wd1164 wd749 (sX9_has N x3 l2) rfl rfl (fun _ => rfl) (Nat.le_of_ble_eq_true rfl) (Nat.le_of_ble_eq_true rfl) (Nat.le_of_ble_eq_true rfl) rfl (Nat.le_of_ble_eq_true rfl) rfl (Nat.le_of_ble_eq_true rfl) (hX5_joinsCoasts.at 11 rfl rfl) (fun x4 => ?_)
      refine os_if_eq (off := 7) (tgt := 31) rfl (hX5_joinsCoasts.at 12 rfl rfl) ?_ ?_
      · exact osW.sub [] rfl (sX5_joinsCoasts_31 N )
      · refine os_iconst (i := 1) (v := (1 : Int32)) rfl (hX5_joinsCoasts.at 13 rfl rfl) ?_
        refine os_goto (off := 4) (tgt := 32) rfl (hX5_joinsCoasts.at 14 rfl rfl) ?_
        exact osW.sub [] rfl (sX5_joinsCoasts_32 N (1 : Int32))
-- X5_allowsRetreat
def KX5_allowsRetreat : List (Nat × Nat × Instr) := [(0, 1, .aload_n 0), (1, 1, .iload_n 2), (2, 3, .invokevirtual 154), (5, 3, .ifCond .eq 55), (8, 1, .aload_n 1), (9, 1, .iload_n 2), (10, 1, .iload_n 3), (11, 1, .aload_n 0), (12, 3, .getfield 41), (15, 1, .iload_n 2), (16, 3, .invokestatic 94), (19, 3, .invokevirtual 134), (22, 3, .ifCond .eq 38), (25, 1, .aload_n 0), (26, 1, .iload_n 3), (27, 3, .invokevirtual 126), (30, 3, .ifCond .ne 30), (33, 1, .aload_n 0), (34, 3, .getfield 25), (37, 1, .iload_n 3), (38, 3, .invokestatic 147), (41, 3, .ifCond .ne 19), (44, 1, .aload_n 0), (45, 3, .getfield 44), (48, 1, .iload_n 2), (49, 3, .invokestatic 94), (52, 1, .iload_n 3), (53, 3, .if_icmp .eq 7), (56, 1, .iconst 1), (57, 3, .goto 4), (60, 1, .iconst 0), (61, 1, .ireturn)]
theorem hX5_allowsRetreat : osDs cX5_allowsRetreat KX5_allowsRetreat := by
  show ∀ q ∈ KX5_allowsRetreat, decode cX5_allowsRetreat q.1 = .ok (q.2.2, q.2.1)
  decide +kernel
def qX5_allowsRetreat_61 (N : Nat) (k0 : Int32) : osM Int32 := osretZ k0
def qX5_allowsRetreat_60 (N : Nat) : osM Int32 := qX5_allowsRetreat_61 N (0 : Int32)
def qX5_allowsRetreat (N : Nat) (l0 : Nat) (l1 : Nat) (l2 : Int32) (l3 : Int32) : osM Int32 := osbind (osrecv [5] l0 (qX5_hasDislodged N l0 l2)) fun x1 => osite (x1 = 0) (qX5_allowsRetreat_60 N ) (osbind (osgR [5] 9 l0) fun x2 => osbind (qX9_entry N x2 l2) fun x3 => osbind (osrecv [0] l1 (qX0_letsPass N l1 l2 l3 x3)) fun x4 => osite (x4 = 0) (qX5_allowsRetreat_60 N ) (osbind (osrecv [5] l0 (qX5_hasUnit N l0 l3)) fun x5 => osite (x5 = 0) (osbind (osgI [5] 4 l0) fun x6 => osbind (qX9_has N x6 l3) fun x7 => osite (x7 = 0) (osbind (osgR [5] 10 l0) fun x8 => osbind (qX9_entry N x8 l2) fun x9 => osite (x9 = l3) (qX5_allowsRetreat_60 N ) (qX5_allowsRetreat_61 N (1 : Int32))) (qX5_allowsRetreat_60 N )) (qX5_allowsRetreat_60 N )))
set_option maxRecDepth 100000 in
set_option maxHeartbeats 4000000 in
theorem sX5_allowsRetreat_61 (N : Nat) (k0 : Int32) : osW (osFinM (fun r : Int32 => some (.int r)) 0 0) yX5_allowsRetreat cX5_allowsRetreat 4 (some .boolean) [] { frames := 2, cells := 0, slots := 0, locals := 42 } 0 0 61 [] [.int k0] (qX5_allowsRetreat_61 N k0) := by
  unfold qX5_allowsRetreat_61
  exact os_zret (Nat.le_of_ble_eq_true rfl) (Nat.le_of_ble_eq_true rfl) (hX5_allowsRetreat.at 31 rfl rfl).1
set_option maxRecDepth 100000 in
set_option maxHeartbeats 4000000 in
theorem sX5_allowsRetreat_60 (N : Nat) : osW (osFinM (fun r : Int32 => some (.int r)) 0 0) yX5_allowsRetreat cX5_allowsRetreat 4 (some .boolean) [] { frames := 2, cells := 0, slots := 0, locals := 42 } 0 0 60 [] [] (qX5_allowsRetreat_60 N) := by
  unfold qX5_allowsRetreat_60
  refine os_iconst (i := 0) (v := (0 : Int32)) rfl (hX5_allowsRetreat.at 30 rfl rfl) ?_
  exact osW.sub [] rfl (sX5_allowsRetreat_61 N (0 : Int32))
set_option maxRecDepth 100000 in
set_option maxHeartbeats 4000000 in
theorem sX5_allowsRetreat (N : Nat) (l0 : Nat) (l1 : Nat) (l2 : Int32) (l3 : Int32) : osMet yX5_allowsRetreat cX5_allowsRetreat 4 (some .boolean) 2 42 0 0 (fun r : Int32 => some (.int r)) [.ref l0, .ref l1, .int l2, .int l3] (qX5_allowsRetreat N l0 l1 l2 l3) := by
  refine osMet.of plX5 (Nat.le_of_ble_eq_true rfl) (osW.rw (lv2 := [(0, .ref l0), (1, .ref l1), (2, .int l2), (3, .int l3)]) ?_ rfl rfl rfl)
  unfold qX5_allowsRetreat
  refine os_aload_n (i := 0) (q := 0) (v := l0) 0 rfl rfl (hX5_allowsRetreat.at 0 rfl rfl) ?_
  refine os_iload_n (i := 2) (q := 2) (v := l2) 2 rfl rfl (hX5_allowsRetreat.at 1 rfl rfl) ?_
  refine os_callV (cis := [5]) (b := l0) (As := [.int l2]) (st := []) (st' := (fun r => .int r :: [])) sl5_X5_hasDislodged_X5_hasDislodged mdX5_hasDislodged wd1215 wd1202 (sX5_hasDislodged N l0 l2) rfl rfl (fun _ => rfl) (Nat.le_of_ble_eq_true rfl) (Nat.le_of_ble_eq_true rfl) (Nat.le_of_ble_eq_true rfl) rfl (Nat.le_of_ble_eq_true rfl) rfl (Nat.le_of_ble_eq_true rfl) (hX5_allowsRetreat.at 2 rfl rfl) (fun x1 => ?_)
  refine os_if_eq (off := 55) (tgt := 60) rfl (hX5_allowsRetreat.at 3 rfl rfl) ?_ ?_
  · exact osW.sub [] rfl (sX5_allowsRetreat_60 N )
  · refine os_aload_n (i := 1) (q := 1) (v := l1) 1 rfl rfl (hX5_allowsRetreat.at 4 rfl rfl) ?_
    refine os_iload_n (i := 2) (q := 2) (v := l2) 2 rfl rfl (hX5_allowsRetreat.at 5 rfl rfl) ?_
    refine os_iload_n (i := 3) (q := 3) (v := l3) 3 rfl rfl (hX5_allowsRetreat.at 6 rfl rfl) ?_
    refine os_aload_n (i := 0) (q := 0) (v := l0) 0 rfl rfl (hX5_allowsRetreat.at 7 rfl rfl) ?_
    refine os_getR fX5_41 (hX5_allowsRetreat.at 8 rfl rfl) (fun x2 => ?_)
    refine os_iload_n (i := 2) (q := 2) (v := l2) 2 rfl rfl (hX5_allowsRetreat.at 9 rfl rfl) ?_
    refine os_callSN (host := "OrderSettler") (As := [.ref x2, .int l2]) (st := [.int l3, .int l2, .ref l1]) (st' := (fun r => .int r :: [.int l3, .int l2, .ref l1])) mdX9_entry wd810 wd784 (sX9_entry N x2 l2) rfl rfl (fun _ => rfl) (Nat.le_of_ble_eq_true rfl) (Nat.le_of_ble_eq_true rfl) (Nat.le_of_ble_eq_true rfl) rfl (Nat.le_of_ble_eq_true rfl) rfl (Nat.le_of_ble_eq_true rfl) (hX5_allowsRetreat.at 10 rfl rfl) (fun x3 => ?_)
    refine os_callV (cis := [0]) (b := l1) (As := [.int l2, .int l3, .int x3]) (st := []) (st' := (fun r => .int r :: [])) sl0_X0_letsPass_X0_letsPass mdX0_letsPass wd1156 wd737 (sX0_letsPass N l1 l2 l3 x3) rfl rfl (fun _ => rfl) (Nat.le_of_ble_eq_true rfl) (Nat.le_of_ble_eq_true rfl) (Nat.le_of_ble_eq_true rfl) rfl (Nat.le_of_ble_eq_true rfl) rfl (Nat.le_of_ble_eq_true rfl) (hX5_allowsRetreat.at 11 rfl rfl) (fun x4 => ?_)
    refine os_if_eq (off := 38) (tgt := 60) rfl (hX5_allowsRetreat.at 12 rfl rfl) ?_ ?_
    · exact osW.sub [] rfl (sX5_allowsRetreat_60 N )
    · refine os_aload_n (i := 0) (q := 0) (v := l0) 0 rfl rfl (hX5_allowsRetreat.at 13 rfl rfl) ?_
      refine os_iload_n (i := 3) (q := 3) (v := l3) 3 rfl rfl (hX5_allowsRetreat.at 14 rfl rfl) ?_
      refine os_callV (cis := [5]) (b := l0) (As := [.int l3]) (st := []) (st' := (fun r => .int r :: [])) sl5_X5_hasUnit_X5_hasUnit mdX5_hasUnit wd1175 wd807 (sX5_hasUnit N l0 l3) rfl rfl (fun _ => rfl) (Nat.le_of_ble_eq_true rfl) (Nat.le_of_ble_eq_true rfl) (Nat.le_of_ble_eq_true rfl) rfl (Nat.le_of_ble_eq_true rfl) rfl (Nat.le_of_ble_eq_true rfl) (hX5_allowsRetreat.at 15 rfl rfl) (fun x5 => ?_)
      refine os_if_ne (off := 30) (tgt := 60) rfl (hX5_allowsRetreat.at 16 rfl rfl) ?_ ?_
      · exact osW.sub [] rfl (sX5_allowsRetreat_60 N )
      · refine os_aload_n (i := 0) (q := 0) (v := l0) 0 rfl rfl (hX5_allowsRetreat.at 17 rfl rfl) ?_
        refine os_getI fX5_25 (hX5_allowsRetreat.at 18 rfl rfl) (fun x6 => ?_)
        refine os_iload_n (i := 3) (q := 3) (v := l3) 3 rfl rfl (hX5_allowsRetreat.at 19 rfl rfl) ?_
        refine os_callSN (host := "OrderSettler") (As := [.int x6, .int l3]) (st := []) (st' := (fun r => .int r :: [])) mdX9_has wd1164 wd749 (sX9_has N x6 l3) rfl rfl (fun _ => rfl) (Nat.le_of_ble_eq_true rfl) (Nat.le_of_ble_eq_true rfl) (Nat.le_of_ble_eq_true rfl) rfl (Nat.le_of_ble_eq_true rfl) rfl (Nat.le_of_ble_eq_true rfl) (hX5_allowsRetreat.at 20 rfl rfl) (fun x7 => ?_)
        refine os_if_ne (off := 19) (tgt := 60) rfl (hX5_allowsRetreat.at 21 rfl rfl) ?_ ?_
        · exact osW.sub [] rfl (sX5_allowsRetreat_60 N )
        · refine os_aload_n (i := 0) (q := 0) (v := l0) 0 rfl rfl (hX5_allowsRetreat.at 22 rfl rfl) ?_
          refine os_getR fX5_44 (hX5_allowsRetreat.at 23 rfl rfl) (fun x8 => ?_)
          refine os_iload_n (i := 2) (q := 2) (v := l2) 2 rfl rfl (hX5_allowsRetreat.at 24 rfl rfl) ?_
          refine os_callSN (host := "OrderSettler") (As := [.ref x8, .int l2]) (st := []) (st' := (fun r => .int r :: [])) mdX9_entry wd810 wd784 (sX9_entry N x8 l2) rfl rfl (fun _ => rfl) (Nat.le_of_ble_eq_true rfl) (Nat.le_of_ble_eq_true rfl) (Nat.le_of_ble_eq_true rfl) rfl (Nat.le_of_ble_eq_true rfl) rfl (Nat.le_of_ble_eq_true rfl) (hX5_allowsRetreat.at 25 rfl rfl) (fun x9 => ?_)
          refine os_iload_n (i := 3) (q := 3) (v := l3) 3 rfl rfl (hX5_allowsRetreat.at 26 rfl rfl) ?_
          refine os_icmp_eq (off := 7) (tgt := 60) rfl (hX5_allowsRetreat.at 27 rfl rfl) ?_ ?_
          · exact osW.sub [] rfl (sX5_allowsRetreat_60 N )
          · refine os_iconst (i := 1) (v := (1 : Int32)) rfl (hX5_allowsRetreat.at 28 rfl rfl) ?_
            refine os_goto (off := 4) (tgt := 61) rfl (hX5_allowsRetreat.at 29 rfl rfl) ?_
            exact osW.sub [] rfl (sX5_allowsRetreat_61 N (1 : Int32))
-- X5_allowsBuild
def KX5_allowsBuild : List (Nat × Nat × Instr) := [(0, 1, .aload_n 1), (1, 3, .getfield 121), (4, 1, .iload_n 2), (5, 3, .invokestatic 94), (8, 1, .istore_n 3), (9, 1, .iload_n 3), (10, 1, .iconst (-1)), (11, 3, .if_icmp .eq 29), (14, 1, .aload_n 0), (15, 1, .aload_n 1), (16, 1, .iload_n 3), (17, 3, .invokevirtual 108), (20, 1, .iload_n 2), (21, 3, .invokestatic 147), (24, 3, .ifCond .eq 16), (27, 1, .aload_n 0), (28, 1, .aload_n 1), (29, 1, .iload_n 3), (30, 3, .invokevirtual 157), (33, 3, .ifCond .le 7), (36, 1, .iconst 1), (37, 3, .goto 4), (40, 1, .iconst 0), (41, 1, .ireturn)]
theorem hX5_allowsBuild : osDs cX5_allowsBuild KX5_allowsBuild := by
  show ∀ q ∈ KX5_allowsBuild, decode cX5_allowsBuild q.1 = .ok (q.2.2, q.2.1)
  decide +kernel
def qX5_allowsBuild_41 (N : Nat) (k0 : Int32) : osM Int32 := osretZ k0
def qX5_allowsBuild_40 (N : Nat) : osM Int32 := qX5_allowsBuild_41 N (0 : Int32)
def qX5_allowsBuild (N : Nat) (l0 : Nat) (l1 : Nat) (l2 : Int32) : osM Int32 := osbind (osgR [0] 6 l1) fun x1 => osbind (qX9_entry N x1 l2) fun x2 => osite (x2 = (-1 : Int32)) (qX5_allowsBuild_40 N ) (osbind (osrecv [5] l0 (qX5_freeHomes N l0 l1 x2)) fun x3 => osbind (qX9_has N x3 l2) fun x4 => osite (x4 = 0) (qX5_allowsBuild_40 N ) (osbind (osrecv [5] l0 (qX5_countBuilds N l0 l1 x2)) fun x5 => osite (x5 ≤ 0) (qX5_allowsBuild_40 N ) (qX5_allowsBuild_41 N (1 : Int32))))
set_option maxRecDepth 100000 in
set_option maxHeartbeats 4000000 in
theorem sX5_allowsBuild_41 (N : Nat) (k0 : Int32) : osW (osFinM (fun r : Int32 => some (.int r)) 0 0) yX5_allowsBuild cX5_allowsBuild 4 (some .boolean) [] { frames := 3, cells := 0, slots := 0, locals := 68 } 0 0 41 [] [.int k0] (qX5_allowsBuild_41 N k0) := by
  unfold qX5_allowsBuild_41
  exact os_zret (Nat.le_of_ble_eq_true rfl) (Nat.le_of_ble_eq_true rfl) (hX5_allowsBuild.at 23 rfl rfl).1
set_option maxRecDepth 100000 in
set_option maxHeartbeats 4000000 in
theorem sX5_allowsBuild_40 (N : Nat) : osW (osFinM (fun r : Int32 => some (.int r)) 0 0) yX5_allowsBuild cX5_allowsBuild 4 (some .boolean) [] { frames := 3, cells := 0, slots := 0, locals := 68 } 0 0 40 [] [] (qX5_allowsBuild_40 N) := by
  unfold qX5_allowsBuild_40
  refine os_iconst (i := 0) (v := (0 : Int32)) rfl (hX5_allowsBuild.at 22 rfl rfl) ?_
  exact osW.sub [] rfl (sX5_allowsBuild_41 N (0 : Int32))
set_option maxRecDepth 100000 in
set_option maxHeartbeats 4000000 in
theorem sX5_allowsBuild (N : Nat) (l0 : Nat) (l1 : Nat) (l2 : Int32) : osMet yX5_allowsBuild cX5_allowsBuild 4 (some .boolean) 3 68 0 0 (fun r : Int32 => some (.int r)) [.ref l0, .ref l1, .int l2] (qX5_allowsBuild N l0 l1 l2) := by
  refine osMet.of plX5 (Nat.le_of_ble_eq_true rfl) (osW.rw (lv2 := [(0, .ref l0), (1, .ref l1), (2, .int l2)]) ?_ rfl rfl rfl)
  unfold qX5_allowsBuild
  refine os_aload_n (i := 1) (q := 1) (v := l1) 1 rfl rfl (hX5_allowsBuild.at 0 rfl rfl) ?_
  refine os_getR fX5_121 (hX5_allowsBuild.at 1 rfl rfl) (fun x1 => ?_)
  refine os_iload_n (i := 2) (q := 2) (v := l2) 2 rfl rfl (hX5_allowsBuild.at 2 rfl rfl) ?_
  refine os_callSN (host := "OrderSettler") (As := [.ref x1, .int l2]) (st := []) (st' := (fun r => .int r :: [])) mdX9_entry wd810 wd784 (sX9_entry N x1 l2) rfl rfl (fun _ => rfl) (Nat.le_of_ble_eq_true rfl) (Nat.le_of_ble_eq_true rfl) (Nat.le_of_ble_eq_true rfl) rfl (Nat.le_of_ble_eq_true rfl) rfl (Nat.le_of_ble_eq_true rfl) (hX5_allowsBuild.at 3 rfl rfl) (fun x2 => ?_)
  refine os_istore_n (i := 3) (q := 3) rfl (lv' := [(3, .int x2), (0, .ref l0), (1, .ref l1), (2, .int l2)]) (Nat.le_of_ble_eq_true rfl) rfl (hX5_allowsBuild.at 4 rfl rfl) ?_
  refine os_iload_n (i := 3) (q := 3) (v := x2) 0 rfl rfl (hX5_allowsBuild.at 5 rfl rfl) ?_
  refine os_iconst (i := (-1)) (v := (-1 : Int32)) rfl (hX5_allowsBuild.at 6 rfl rfl) ?_
  refine os_icmp_eq (off := 29) (tgt := 40) rfl (hX5_allowsBuild.at 7 rfl rfl) ?_ ?_
  · exact osW.sub [] rfl (sX5_allowsBuild_40 N )
  · refine os_aload_n (i := 0) (q := 0) (v := l0) 1 rfl rfl (hX5_allowsBuild.at 8 rfl rfl) ?_
    refine os_aload_n (i := 1) (q := 1) (v := l1) 2 rfl rfl (hX5_allowsBuild.at 9 rfl rfl) ?_
    refine os_iload_n (i := 3) (q := 3) (v := x2) 0 rfl rfl (hX5_allowsBuild.at 10 rfl rfl) ?_
    refine os_callV (cis := [5]) (b := l0) (As := [.ref l1, .int x2]) (st := []) (st' := (fun r => .int r :: [])) sl5_X5_freeHomes_X5_freeHomes mdX5_freeHomes wd1226 wd1228 (sX5_freeHomes N l0 l1 x2) rfl rfl (fun _ => rfl) (Nat.le_of_ble_eq_true rfl) (Nat.le_of_ble_eq_true rfl) (Nat.le_of_ble_eq_true rfl) rfl (Nat.le_of_ble_eq_true rfl) rfl (Nat.le_of_ble_eq_true rfl) (hX5_allowsBuild.at 11 rfl rfl) (fun x3 => ?_)
    refine os_iload_n (i := 2) (q := 2) (v := l2) 3 rfl rfl (hX5_allowsBuild.at 12 rfl rfl) ?_
    refine os_callSN (host := "OrderSettler") (As := [.int x3, .int l2]) (st := []) (st' := (fun r => .int r :: [])) mdX9_has wd1164 wd749 (sX9_has N x3 l2) rfl rfl (fun _ => rfl) (Nat.le_of_ble_eq_true rfl) (Nat.le_of_ble_eq_true rfl) (Nat.le_of_ble_eq_true rfl) rfl (Nat.le_of_ble_eq_true rfl) rfl (Nat.le_of_ble_eq_true rfl) (hX5_allowsBuild.at 13 rfl rfl) (fun x4 => ?_)
    refine os_if_eq (off := 16) (tgt := 40) rfl (hX5_allowsBuild.at 14 rfl rfl) ?_ ?_
    · exact osW.sub [] rfl (sX5_allowsBuild_40 N )
    · refine os_aload_n (i := 0) (q := 0) (v := l0) 1 rfl rfl (hX5_allowsBuild.at 15 rfl rfl) ?_
      refine os_aload_n (i := 1) (q := 1) (v := l1) 2 rfl rfl (hX5_allowsBuild.at 16 rfl rfl) ?_
      refine os_iload_n (i := 3) (q := 3) (v := x2) 0 rfl rfl (hX5_allowsBuild.at 17 rfl rfl) ?_
      refine os_callV (cis := [5]) (b := l0) (As := [.ref l1, .int x2]) (st := []) (st' := (fun r => .int r :: [])) sl5_X5_countBuilds_X5_countBuilds mdX5_countBuilds wd1230 wd1231 (sX5_countBuilds N l0 l1 x2) rfl rfl (fun _ => rfl) (Nat.le_of_ble_eq_true rfl) (Nat.le_of_ble_eq_true rfl) (Nat.le_of_ble_eq_true rfl) rfl (Nat.le_of_ble_eq_true rfl) rfl (Nat.le_of_ble_eq_true rfl) (hX5_allowsBuild.at 18 rfl rfl) (fun x5 => ?_)
      refine os_if_le (off := 7) (tgt := 40) rfl (hX5_allowsBuild.at 19 rfl rfl) ?_ ?_
      · exact osW.sub [] rfl (sX5_allowsBuild_40 N )
      · refine os_iconst (i := 1) (v := (1 : Int32)) rfl (hX5_allowsBuild.at 20 rfl rfl) ?_
        refine os_goto (off := 4) (tgt := 41) rfl (hX5_allowsBuild.at 21 rfl rfl) ?_
        exact osW.sub [] rfl (sX5_allowsBuild_41 N (1 : Int32))
-- X5_needsRemoval
def KX5_needsRemoval : List (Nat × Nat × Instr) := [(0, 1, .aload_n 0), (1, 1, .iload_n 1), (2, 3, .invokevirtual 101), (5, 1, .aload_n 0), (6, 1, .iload_n 1), (7, 3, .invokevirtual 105), (10, 3, .if_icmp .ge 7), (13, 1, .iconst 1), (14, 3, .goto 4), (17, 1, .iconst 0), (18, 1, .ireturn)]
theorem hX5_needsRemoval : osDs cX5_needsRemoval KX5_needsRemoval := by
  show ∀ q ∈ KX5_needsRemoval, decode cX5_needsRemoval q.1 = .ok (q.2.2, q.2.1)
  decide +kernel
def qX5_needsRemoval_18 (N : Nat) (k0 : Int32) : osM Int32 := osretZ k0
def qX5_needsRemoval (N : Nat) (l0 : Nat) (l1 : Int32) : osM Int32 := osbind (osrecv [5] l0 (qX5_countCenters N l0 l1)) fun x1 => osbind (osrecv [5] l0 (qX5_countUnits N l0 l1)) fun x2 => osite (x2 ≤ x1) (qX5_needsRemoval_18 N (0 : Int32)) (qX5_needsRemoval_18 N (1 : Int32))
set_option maxRecDepth 100000 in
set_option maxHeartbeats 4000000 in
theorem sX5_needsRemoval_18 (N : Nat) (k0 : Int32) : osW (osFinM (fun r : Int32 => some (.int r)) 0 0) yX5_needsRemoval cX5_needsRemoval 2 (some .boolean) [] { frames := 2, cells := 0, slots := 0, locals := 44 } 0 0 18 [] [.int k0] (qX5_needsRemoval_18 N k0) := by
  unfold qX5_needsRemoval_18
  exact os_zret (Nat.le_of_ble_eq_true rfl) (Nat.le_of_ble_eq_true rfl) (hX5_needsRemoval.at 10 rfl rfl).1
set_option maxRecDepth 100000 in
set_option maxHeartbeats 4000000 in
theorem sX5_needsRemoval (N : Nat) (l0 : Nat) (l1 : Int32) : osMet yX5_needsRemoval cX5_needsRemoval 2 (some .boolean) 2 44 0 0 (fun r : Int32 => some (.int r)) [.ref l0, .int l1] (qX5_needsRemoval N l0 l1) := by
  refine osMet.of plX5 (Nat.le_of_ble_eq_true rfl) (osW.rw (lv2 := [(0, .ref l0), (1, .int l1)]) ?_ rfl rfl rfl)
  unfold qX5_needsRemoval
  refine os_aload_n (i := 0) (q := 0) (v := l0) 0 rfl rfl (hX5_needsRemoval.at 0 rfl rfl) ?_
  refine os_iload_n (i := 1) (q := 1) (v := l1) 1 rfl rfl (hX5_needsRemoval.at 1 rfl rfl) ?_
  refine os_callV (cis := [5]) (b := l0) (As := [.int l1]) (st := []) (st' := (fun r => .int r :: [])) sl5_X5_countCenters_X5_countCenters mdX5_countCenters wd1234 wd1235 (sX5_countCenters N l0 l1) rfl rfl (fun _ => rfl) (Nat.le_of_ble_eq_true rfl) (Nat.le_of_ble_eq_true rfl) (Nat.le_of_ble_eq_true rfl) rfl (Nat.le_of_ble_eq_true rfl) rfl (Nat.le_of_ble_eq_true rfl) (hX5_needsRemoval.at 2 rfl rfl) (fun x1 => ?_)
  refine os_aload_n (i := 0) (q := 0) (v := l0) 0 rfl rfl (hX5_needsRemoval.at 3 rfl rfl) ?_
  refine os_iload_n (i := 1) (q := 1) (v := l1) 1 rfl rfl (hX5_needsRemoval.at 4 rfl rfl) ?_
  refine os_callV (cis := [5]) (b := l0) (As := [.int l1]) (st := [.int x1]) (st' := (fun r => .int r :: [.int x1])) sl5_X5_countUnits_X5_countUnits mdX5_countUnits wd1238 wd1239 (sX5_countUnits N l0 l1) rfl rfl (fun _ => rfl) (Nat.le_of_ble_eq_true rfl) (Nat.le_of_ble_eq_true rfl) (Nat.le_of_ble_eq_true rfl) rfl (Nat.le_of_ble_eq_true rfl) rfl (Nat.le_of_ble_eq_true rfl) (hX5_needsRemoval.at 5 rfl rfl) (fun x2 => ?_)
  refine os_icmp_ge (off := 7) (tgt := 17) rfl (hX5_needsRemoval.at 6 rfl rfl) ?_ ?_
  · refine os_iconst (i := 0) (v := (0 : Int32)) rfl (hX5_needsRemoval.at 9 rfl rfl) ?_
    exact osW.sub [] rfl (sX5_needsRemoval_18 N (0 : Int32))
  · refine os_iconst (i := 1) (v := (1 : Int32)) rfl (hX5_needsRemoval.at 7 rfl rfl) ?_
    refine os_goto (off := 4) (tgt := 18) rfl (hX5_needsRemoval.at 8 rfl rfl) ?_
    exact osW.sub [] rfl (sX5_needsRemoval_18 N (1 : Int32))
-- X5_carryOutRetreats
def KX5_carryOutRetreats : List (Nat × Nat × Instr) := [(0, 1, .iconst 0), (1, 1, .istore_n 2), (2, 1, .iconst 0), (3, 1, .istore_n 3), (4, 1, .iload_n 3), (5, 2, .bipush 16), (7, 3, .if_icmp .ge 68), (10, 1, .aload_n 1), (11, 1, .iload_n 3), (12, 3, .invokevirtual 154), (15, 3, .ifCond .eq 54), (18, 1, .aload_n 1), (19, 3, .getfield 47), (22, 1, .iload_n 3), (23, 1, .iaload), (24, 2, .istore 4), (26, 2, .iload 4), (28, 1, .iconst (-1)), (29, 3, .if_icmp .eq 37), (32, 1, .aload_n 1), (33, 3, .getfield 47), (36, 2, .iload 4), (38, 3, .invokestatic 98), (41, 1, .iconst 1), (42, 3, .if_icmp .ne 24), (45, 1, .aload_n 0), (46, 2, .iload 4), (48, 1, .aload_n 1), (49, 3, .getfield 38), (52, 1, .iload_n 3), (53, 1, .iaload), (54, 1, .aload_n 1), (55, 3, .getfield 41), (58, 1, .iload_n 3), (59, 1, .iaload), (60, 3, .invokevirtual 165), (63, 3, .goto 6), (66, 3, .iinc 2 1), (69, 3, .iinc 3 1), (72, 3, .goto (-68)), (75, 1, .aload_n 0), (76, 3, .invokevirtual 68), (79, 1, .iload_n 2), (80, 1, .ireturn)]
theorem hX5_carryOutRetreats : osDs cX5_carryOutRetreats KX5_carryOutRetreats := by
  show ∀ q ∈ KX5_carryOutRetreats, decode cX5_carryOutRetreats q.1 = .ok (q.2.2, q.2.1)
  decide +kernel
def qX5_carryOutRetreats_69 (N : Nat) (c4 : Nat × Nat × Int32 × Int32 → osM Int32) (l0 : Nat) (l1 : Nat) (l2 : Int32) (l3 : Int32) : osM Int32 := c4 (l0, l1, l2, (l3 + (1 : Int32)))
def qX5_carryOutRetreats_66 (N : Nat) (c4 : Nat × Nat × Int32 × Int32 → osM Int32) (l0 : Nat) (l1 : Nat) (l2 : Int32) (l3 : Int32) : osM Int32 := qX5_carryOutRetreats_69 N c4 l0 l1 (l2 + (1 : Int32)) l3
def bX5_carryOutRetreats_4 (N : Nat) (c4 : Nat × Nat × Int32 × Int32 → osM Int32) (l0 : Nat) (l1 : Nat) (l2 : Int32) (l3 : Int32) : osM Int32 := osite ((16 : Int32) ≤ l3) (osbind (osrecv [5] l0 (qX5_clearDislodged N l0)) fun _ => osret l2) (osbind (osrecv [5] l1 (qX5_hasDislodged N l1 l3)) fun x1 => osite (x1 = 0) (qX5_carryOutRetreats_69 N c4 l0 l1 l2 l3) (osbind (osgR [5] 11 l1) fun x2 => osbind (osaI 0 x2 l3) fun x3 => osite (x3 = (-1 : Int32)) (qX5_carryOutRetreats_66 N c4 l0 l1 l2 l3) (osbind (osgR [5] 11 l1) fun x4 => osbind (qX5_countOf N x4 x3) fun x5 => osite (x5 = (1 : Int32)) (osbind (osgR [5] 8 l1) fun x6 => osbind (osaI 0 x6 l3) fun x7 => osbind (osgR [5] 9 l1) fun x8 => osbind (osaI 0 x8 l3) fun x9 => osbind (osrecv [5] l0 (qX5_placeUnit N l0 x3 x7 x9)) fun _ => qX5_carryOutRetreats_69 N c4 l0 l1 l2 l3) (qX5_carryOutRetreats_66 N c4 l0 l1 l2 l3))))
def qX5_carryOutRetreats_4 (N : Nat) : Nat × Nat × Int32 × Int32 → osM Int32 := osloop (fun ih p => bX5_carryOutRetreats_4 N ih p.1 p.2.1 p.2.2.1 p.2.2.2) N
def qX5_carryOutRetreats (N : Nat) (l0 : Nat) (l1 : Nat) : osM Int32 := qX5_carryOutRetreats_4 N (l0, l1, (0 : Int32), (0 : Int32))
set_option maxRecDepth 100000 in
set_option maxHeartbeats 4000000 in
theorem sX5_carryOutRetreats_69 (N : Nat) (c4 : Nat × Nat × Int32 × Int32 → osM Int32) (g4 : ∀ (l0 : Nat) (l1 : Nat) (l2 : Int32) (l3 : Int32), osW (osFinM (fun r : Int32 => some (.int r)) 0 0) yX5_carryOutRetreats cX5_carryOutRetreats 5 (some .int) [] { frames := 2, cells := 0, slots := 0, locals := 42 } 0 0 4 [(0, .ref l0), (1, .ref l1), (2, .int l2), (3, .int l3)] [] (c4 (l0, l1, l2, l3))) (l0 : Nat) (l1 : Nat) (l2 : Int32) (l3 : Int32) : osW (osFinM (fun r : Int32 => some (.int r)) 0 0) yX5_carryOutRetreats cX5_carryOutRetreats 5 (some .int) [] { frames := 2, cells := 0, slots := 0, locals := 42 } 0 0 69 [(0, .ref l0), (1, .ref l1), (2, .int l2), (3, .int l3)] [] (qX5_carryOutRetreats_69 N c4 l0 l1 l2 l3) := by
  unfold qX5_carryOutRetreats_69
  refine os_iinc (i := 3) (d := 1) (x := l3) (v := (1 : Int32)) (lv' := [(3, .int (l3 + (1 : Int32))), (0, .ref l0), (1, .ref l1), (2, .int l2)]) 3 rfl rfl (Nat.le_of_ble_eq_true rfl) rfl (hX5_carryOutRetreats.at 38 rfl rfl) ?_
  refine os_goto (off := (-68)) (tgt := 4) rfl (hX5_carryOutRetreats.at 39 rfl rfl) ?_
  exact osW.sub [1, 2, 3, 0] rfl (g4 l0 l1 l2 (l3 + (1 : Int32)))
set_option maxRecDepth 100000 in
set_option maxHeartbeats 4000000 in
theorem sX5_carryOutRetreats_66 (N : Nat) (c4 : Nat × Nat × Int32 × Int32 → osM Int32) (g4 : ∀ (l0 : Nat) (l1 : Nat) (l2 : Int32) (l3 : Int32), osW (osFinM (fun r : Int32 => some (.int r)) 0 0) yX5_carryOutRetreats cX5_carryOutRetreats 5 (some .int) [] { frames := 2, cells := 0, slots := 0, locals := 42 } 0 0 4 [(0, .ref l0), (1, .ref l1), (2, .int l2), (3, .int l3)] [] (c4 (l0, l1, l2, l3))) (l0 : Nat) (l1 : Nat) (l2 : Int32) (l3 : Int32) : osW (osFinM (fun r : Int32 => some (.int r)) 0 0) yX5_carryOutRetreats cX5_carryOutRetreats 5 (some .int) [] { frames := 2, cells := 0, slots := 0, locals := 42 } 0 0 66 [(0, .ref l0), (1, .ref l1), (2, .int l2), (3, .int l3)] [] (qX5_carryOutRetreats_66 N c4 l0 l1 l2 l3) := by
  unfold qX5_carryOutRetreats_66
  refine os_iinc (i := 2) (d := 1) (x := l2) (v := (1 : Int32)) (lv' := [(2, .int (l2 + (1 : Int32))), (0, .ref l0), (1, .ref l1), (3, .int l3)]) 2 rfl rfl (Nat.le_of_ble_eq_true rfl) rfl (hX5_carryOutRetreats.at 37 rfl rfl) ?_
  exact osW.sub [1, 2, 0, 3] rfl (sX5_carryOutRetreats_69 N c4 g4 l0 l1 (l2 + (1 : Int32)) l3)
set_option maxRecDepth 100000 in
set_option maxHeartbeats 4000000 in
theorem tX5_carryOutRetreats_4 (N : Nat) (c4 : Nat × Nat × Int32 × Int32 → osM Int32) (g4 : ∀ (l0 : Nat) (l1 : Nat) (l2 : Int32) (l3 : Int32), osW (osFinM (fun r : Int32 => some (.int r)) 0 0) yX5_carryOutRetreats cX5_carryOutRetreats 5 (some .int) [] { frames := 2, cells := 0, slots := 0, locals := 42 } 0 0 4 [(0, .ref l0), (1, .ref l1), (2, .int l2), (3, .int l3)] [] (c4 (l0, l1, l2, l3))) (l0 : Nat) (l1 : Nat) (l2 : Int32) (l3 : Int32) : osW (osFinM (fun r : Int32 => some (.int r)) 0 0) yX5_carryOutRetreats cX5_carryOutRetreats 5 (some .int) [] { frames := 2, cells := 0, slots := 0, locals := 42 } 0 0 4 [(0, .ref l0), (1, .ref l1), (2, .int l2), (3, .int l3)] [] (bX5_carryOutRetreats_4 N c4 l0 l1 l2 l3) := by
  unfold bX5_carryOutRetreats_4
  refine os_iload_n (i := 3) (q := 3) (v := l3) 3 rfl rfl (hX5_carryOutRetreats.at 4 rfl rfl) ?_
  refine os_bipush (i := 16) (v := (16 : Int32)) rfl (hX5_carryOutRetreats.at 5 rfl rfl) ?_
  refine os_icmp_ge (off := 68) (tgt := 75) rfl (hX5_carryOutRetreats.at 6 rfl rfl) ?_ ?_
  · refine os_aload_n (i := 0) (q := 0) (v := l0) 0 rfl rfl (hX5_carryOutRetreats.at 40 rfl rfl) ?_
    refine os_callV (cis := [5]) (b := l0) (As := []) (st := []) (st' := (fun _ => [])) sl5_X5_clearDislodged_X5_clearDislodged mdX5_clearDislodged wd349 wd351 (sX5_clearDislodged N l0 ) rfl rfl (fun _ => rfl) (Nat.le_of_ble_eq_true rfl) (Nat.le_of_ble_eq_true rfl) (Nat.le_of_ble_eq_true rfl) rfl (Nat.le_of_ble_eq_true rfl) rfl (Nat.le_of_ble_eq_true rfl) (hX5_carryOutRetreats.at 41 rfl rfl) (fun _ => ?_)
    refine os_iload_n (i := 2) (q := 2) (v := l2) 2 rfl rfl (hX5_carryOutRetreats.at 42 rfl rfl) ?_
    exact os_iret (Nat.le_of_ble_eq_true rfl) (Nat.le_of_ble_eq_true rfl) (hX5_carryOutRetreats.at 43 rfl rfl).1
  · refine os_aload_n (i := 1) (q := 1) (v := l1) 1 rfl rfl (hX5_carryOutRetreats.at 7 rfl rfl) ?_
    refine os_iload_n (i := 3) (q := 3) (v := l3) 3 rfl rfl (hX5_carryOutRetreats.at 8 rfl rfl) ?_
    refine os_callV (cis := [5]) (b := l1) (As := [.int l3]) (st := []) (st' := (fun r => .int r :: [])) sl5_X5_hasDislodged_X5_hasDislodged mdX5_hasDislodged wd1215 wd1202 (sX5_hasDislodged N l1 l3) rfl rfl (fun _ => rfl) (Nat.le_of_ble_eq_true rfl) (Nat.le_of_ble_eq_true rfl) (Nat.le_of_ble_eq_true rfl) rfl (Nat.le_of_ble_eq_true rfl) rfl (Nat.le_of_ble_eq_true rfl) (hX5_carryOutRetreats.at 9 rfl rfl) (fun x1 => ?_)
    refine os_if_eq (off := 54) (tgt := 69) rfl (hX5_carryOutRetreats.at 10 rfl rfl) ?_ ?_
    · exact osW.sub [0, 1, 2, 3] rfl (sX5_carryOutRetreats_69 N c4 g4 l0 l1 l2 l3)
    · refine os_aload_n (i := 1) (q := 1) (v := l1) 1 rfl rfl (hX5_carryOutRetreats.at 11 rfl rfl) ?_
      refine os_getR fX5_47 (hX5_carryOutRetreats.at 12 rfl rfl) (fun x2 => ?_)
      refine os_iload_n (i := 3) (q := 3) (v := l3) 3 rfl rfl (hX5_carryOutRetreats.at 13 rfl rfl) ?_
      refine os_iaload (hX5_carryOutRetreats.at 14 rfl rfl) (fun x3 => ?_)
      refine os_istore (i := 4) (lv' := [(4, .int x3), (0, .ref l0), (1, .ref l1), (2, .int l2), (3, .int l3)]) (Nat.le_of_ble_eq_true rfl) rfl (hX5_carryOutRetreats.at 15 rfl rfl) ?_
      refine os_iload (v := x3) 0 rfl (hX5_carryOutRetreats.at 16 rfl rfl) ?_
      refine os_iconst (i := (-1)) (v := (-1 : Int32)) rfl (hX5_carryOutRetreats.at 17 rfl rfl) ?_
      refine os_icmp_eq (off := 37) (tgt := 66) rfl (hX5_carryOutRetreats.at 18 rfl rfl) ?_ ?_
      · exact osW.sub [1, 2, 3, 4] rfl (sX5_carryOutRetreats_66 N c4 g4 l0 l1 l2 l3)
      · refine os_aload_n (i := 1) (q := 1) (v := l1) 2 rfl rfl (hX5_carryOutRetreats.at 19 rfl rfl) ?_
        refine os_getR fX5_47 (hX5_carryOutRetreats.at 20 rfl rfl) (fun x4 => ?_)
        refine os_iload (v := x3) 0 rfl (hX5_carryOutRetreats.at 21 rfl rfl) ?_
        refine os_callS (As := [.ref x4, .int x3]) (st := []) (st' := (fun r => .int r :: [])) mdX5_countOf wd803 wd804 (sX5_countOf N x4 x3) rfl rfl (fun _ => rfl) (Nat.le_of_ble_eq_true rfl) (Nat.le_of_ble_eq_true rfl) (Nat.le_of_ble_eq_true rfl) rfl (Nat.le_of_ble_eq_true rfl) rfl (Nat.le_of_ble_eq_true rfl) (hX5_carryOutRetreats.at 22 rfl rfl) (fun x5 => ?_)
        refine os_iconst (i := 1) (v := (1 : Int32)) rfl (hX5_carryOutRetreats.at 23 rfl rfl) ?_
        refine os_icmp_ne (off := 24) (tgt := 66) rfl (hX5_carryOutRetreats.at 24 rfl rfl) ?_ ?_
        · exact osW.sub [1, 2, 3, 4] rfl (sX5_carryOutRetreats_66 N c4 g4 l0 l1 l2 l3)
        · refine os_aload_n (i := 0) (q := 0) (v := l0) 1 rfl rfl (hX5_carryOutRetreats.at 25 rfl rfl) ?_
          refine os_iload (v := x3) 0 rfl (hX5_carryOutRetreats.at 26 rfl rfl) ?_
          refine os_aload_n (i := 1) (q := 1) (v := l1) 2 rfl rfl (hX5_carryOutRetreats.at 27 rfl rfl) ?_
          refine os_getR fX5_38 (hX5_carryOutRetreats.at 28 rfl rfl) (fun x6 => ?_)
          refine os_iload_n (i := 3) (q := 3) (v := l3) 4 rfl rfl (hX5_carryOutRetreats.at 29 rfl rfl) ?_
          refine os_iaload (hX5_carryOutRetreats.at 30 rfl rfl) (fun x7 => ?_)
          refine os_aload_n (i := 1) (q := 1) (v := l1) 2 rfl rfl (hX5_carryOutRetreats.at 31 rfl rfl) ?_
          refine os_getR fX5_41 (hX5_carryOutRetreats.at 32 rfl rfl) (fun x8 => ?_)
          refine os_iload_n (i := 3) (q := 3) (v := l3) 4 rfl rfl (hX5_carryOutRetreats.at 33 rfl rfl) ?_
          refine os_iaload (hX5_carryOutRetreats.at 34 rfl rfl) (fun x9 => ?_)
          refine os_callV (cis := [5]) (b := l0) (As := [.int x3, .int x7, .int x9]) (st := []) (st' := (fun _ => [])) sl5_X5_placeUnit_X5_placeUnit mdX5_placeUnit wd1403 wd812 (sX5_placeUnit N l0 x3 x7 x9) rfl rfl (fun _ => rfl) (Nat.le_of_ble_eq_true rfl) (Nat.le_of_ble_eq_true rfl) (Nat.le_of_ble_eq_true rfl) rfl (Nat.le_of_ble_eq_true rfl) rfl (Nat.le_of_ble_eq_true rfl) (hX5_carryOutRetreats.at 35 rfl rfl) (fun _ => ?_)
          refine os_goto (off := 6) (tgt := 69) rfl (hX5_carryOutRetreats.at 36 rfl rfl) ?_
          exact osW.sub [1, 2, 3, 4] rfl (sX5_carryOutRetreats_69 N c4 g4 l0 l1 l2 l3)
set_option maxRecDepth 100000 in
set_option maxHeartbeats 4000000 in
theorem sX5_carryOutRetreats_4 (N : Nat) (l0 : Nat) (l1 : Nat) (l2 : Int32) (l3 : Int32) : osW (osFinM (fun r : Int32 => some (.int r)) 0 0) yX5_carryOutRetreats cX5_carryOutRetreats 5 (some .int) [] { frames := 2, cells := 0, slots := 0, locals := 42 } 0 0 4 [(0, .ref l0), (1, .ref l1), (2, .int l2), (3, .int l3)] [] (qX5_carryOutRetreats_4 N (l0, l1, l2, l3)) :=
  osloop_W (lvf := fun p => [(0, .ref p.1), (1, .ref p.2.1), (2, .int p.2.2.1), (3, .int p.2.2.2)]) (stf := fun p => []) (fun ih g p => tX5_carryOutRetreats_4 N ih (fun l0 l1 l2 l3 => g (l0, l1, l2, l3)) p.1 p.2.1 p.2.2.1 p.2.2.2) N (l0, l1, l2, l3)
set_option maxRecDepth 100000 in
set_option maxHeartbeats 4000000 in
theorem sX5_carryOutRetreats (N : Nat) (l0 : Nat) (l1 : Nat) : osMet yX5_carryOutRetreats cX5_carryOutRetreats 5 (some .int) 2 42 0 0 (fun r : Int32 => some (.int r)) [.ref l0, .ref l1] (qX5_carryOutRetreats N l0 l1) := by
  refine osMet.of plX5 (Nat.le_of_ble_eq_true rfl) (osW.rw (lv2 := [(0, .ref l0), (1, .ref l1)]) ?_ rfl rfl rfl)
  unfold qX5_carryOutRetreats
  refine os_iconst (i := 0) (v := (0 : Int32)) rfl (hX5_carryOutRetreats.at 0 rfl rfl) ?_
  refine os_istore_n (i := 2) (q := 2) rfl (lv' := [(2, .int (0 : Int32)), (0, .ref l0), (1, .ref l1)]) (Nat.le_of_ble_eq_true rfl) rfl (hX5_carryOutRetreats.at 1 rfl rfl) ?_
  refine os_iconst (i := 0) (v := (0 : Int32)) rfl (hX5_carryOutRetreats.at 2 rfl rfl) ?_
  refine os_istore_n (i := 3) (q := 3) rfl (lv' := [(3, .int (0 : Int32)), (2, .int (0 : Int32)), (0, .ref l0), (1, .ref l1)]) (Nat.le_of_ble_eq_true rfl) rfl (hX5_carryOutRetreats.at 3 rfl rfl) ?_
  exact osW.sub [2, 3, 1, 0] rfl (sX5_carryOutRetreats_4 N l0 l1 (0 : Int32) (0 : Int32))
-- X5_beginTurn
def KX5_beginTurn : List (Nat × Nat × Instr) := [(0, 1, .aload_n 0), (1, 1, .dup), (2, 3, .getfield 15), (5, 1, .iconst 1), (6, 1, .iadd), (7, 3, .putfield 15), (10, 1, .aload_n 0), (11, 1, .iconst 0), (12, 3, .putfield 9), (15, 1, .aload_n 0), (16, 3, .invokevirtual 71), (19, 1, .return_)]
theorem hX5_beginTurn : osDs cX5_beginTurn KX5_beginTurn := by
  show ∀ q ∈ KX5_beginTurn, decode cX5_beginTurn q.1 = .ok (q.2.2, q.2.1)
  decide +kernel
def qX5_beginTurn (N : Nat) (l0 : Nat) : osM Unit := osbind (osgI [5] 1 l0) fun x1 => osbind (osput [5] 1 l0 (.int (x1 + (1 : Int32)))) fun _ => osbind (osput [5] 0 l0 (.int (0 : Int32))) fun _ => osbind (osrecv [5] l0 (qX5_holdAll N l0)) fun _ => osret ()
set_option maxRecDepth 100000 in
set_option maxHeartbeats 4000000 in
theorem sX5_beginTurn (N : Nat) (l0 : Nat) : osMet yX5_beginTurn cX5_beginTurn 1 none 2 45 0 0 (fun _ : Unit => none) [.ref l0] (qX5_beginTurn N l0) := by
  refine osMet.of plX5 (Nat.le_of_ble_eq_true rfl) (osW.rw (lv2 := [(0, .ref l0)]) ?_ rfl rfl rfl)
  unfold qX5_beginTurn
  refine os_aload_n (i := 0) (q := 0) (v := l0) 0 rfl rfl (hX5_beginTurn.at 0 rfl rfl) ?_
  refine os_dup rfl (hX5_beginTurn.at 1 rfl rfl) ?_
  refine os_getI fX5_15 (hX5_beginTurn.at 2 rfl rfl) (fun x1 => ?_)
  refine os_iconst (i := 1) (v := (1 : Int32)) rfl (hX5_beginTurn.at 3 rfl rfl) ?_
  refine os_iadd (hX5_beginTurn.at 4 rfl rfl) ?_
  refine os_put fX5_15 rfl rfl (hX5_beginTurn.at 5 rfl rfl) ?_
  refine os_aload_n (i := 0) (q := 0) (v := l0) 0 rfl rfl (hX5_beginTurn.at 6 rfl rfl) ?_
  refine os_iconst (i := 0) (v := (0 : Int32)) rfl (hX5_beginTurn.at 7 rfl rfl) ?_
  refine os_put fX5_9 rfl rfl (hX5_beginTurn.at 8 rfl rfl) ?_
  refine os_aload_n (i := 0) (q := 0) (v := l0) 0 rfl rfl (hX5_beginTurn.at 9 rfl rfl) ?_
  refine os_callV (cis := [5]) (b := l0) (As := []) (st := []) (st' := (fun _ => [])) sl5_X5_holdAll_X5_holdAll mdX5_holdAll wd353 wd355 (sX5_holdAll N l0 ) rfl rfl (fun _ => rfl) (Nat.le_of_ble_eq_true rfl) (Nat.le_of_ble_eq_true rfl) (Nat.le_of_ble_eq_true rfl) rfl (Nat.le_of_ble_eq_true rfl) rfl (Nat.le_of_ble_eq_true rfl) (hX5_beginTurn.at 10 rfl rfl) (fun _ => ?_)
  exact os_vret (Nat.le_of_ble_eq_true rfl) (Nat.le_of_ble_eq_true rfl) (hX5_beginTurn.at 11 rfl rfl).1
-- X5_disbandSurplus
def KX5_disbandSurplus : List (Nat × Nat × Instr) := [(0, 1, .iconst 0), (1, 1, .istore_n 2), (2, 2, .bipush 15), (4, 1, .istore_n 3), (5, 1, .iload_n 3), (6, 3, .ifCond .lt 37), (9, 1, .aload_n 0), (10, 3, .getfield 32), (13, 1, .iload_n 3), (14, 1, .iaload), (15, 1, .iload_n 1), (16, 3, .if_icmp .ne 21), (19, 1, .aload_n 0), (20, 1, .iload_n 1), (21, 3, .invokevirtual 195), (24, 3, .ifCond .eq 13), (27, 1, .aload_n 0), (28, 1, .iload_n 3), (29, 1, .iconst (-1)), (30, 1, .iconst (-1)), (31, 3, .invokevirtual 165), (34, 3, .iinc 2 1), (37, 3, .iinc 3 (-1)), (40, 3, .goto (-35)), (43, 1, .iload_n 2), (44, 1, .ireturn)]
theorem hX5_disbandSurplus : osDs cX5_disbandSurplus KX5_disbandSurplus := by
  show ∀ q ∈ KX5_disbandSurplus, decode cX5_disbandSurplus q.1 = .ok (q.2.2, q.2.1)
  decide +kernel
def qX5_disbandSurplus_37 (N : Nat) (c5 : Nat × Int32 × Int32 × Int32 → osM Int32) (l0 : Nat) (l1 : Int32) (l2 : Int32) (l3 : Int32) : osM Int32 := c5 (l0, l1, l2, (l3 + (-1 : Int32)))
def bX5_disbandSurplus_5 (N : Nat) (c5 : Nat × Int32 × Int32 × Int32 → osM Int32) (l0 : Nat) (l1 : Int32) (l2 : Int32) (l3 : Int32) : osM Int32 := osite (l3 < 0) (osret l2) (osbind (osgR [5] 6 l0) fun x1 => osbind (osaI 0 x1 l3) fun x2 => osite (x2 = l1) (osbind (osrecv [5] l0 (qX5_needsRemoval N l0 l1)) fun x3 => osite (x3 = 0) (qX5_disbandSurplus_37 N c5 l0 l1 l2 l3) (osbind (osrecv [5] l0 (qX5_placeUnit N l0 l3 (-1 : Int32) (-1 : Int32))) fun _ => qX5_disbandSurplus_37 N c5 l0 l1 (l2 + (1 : Int32)) l3)) (qX5_disbandSurplus_37 N c5 l0 l1 l2 l3))
def qX5_disbandSurplus_5 (N : Nat) : Nat × Int32 × Int32 × Int32 → osM Int32 := osloop (fun ih p => bX5_disbandSurplus_5 N ih p.1 p.2.1 p.2.2.1 p.2.2.2) N
def qX5_disbandSurplus (N : Nat) (l0 : Nat) (l1 : Int32) : osM Int32 := qX5_disbandSurplus_5 N (l0, l1, (0 : Int32), (15 : Int32))
set_option maxRecDepth 100000 in
set_option maxHeartbeats 4000000 in
theorem sX5_disbandSurplus_37 (N : Nat) (c5 : Nat × Int32 × Int32 × Int32 → osM Int32) (g5 : ∀ (l0 : Nat) (l1 : Int32) (l2 : Int32) (l3 : Int32), osW (osFinM (fun r : Int32 => some (.int r)) 0 0) yX5_disbandSurplus cX5_disbandSurplus 4 (some .int) [] { frames := 3, cells := 0, slots := 0, locals := 65 } 0 0 5 [(0, .ref l0), (1, .int l1), (2, .int l2), (3, .int l3)] [] (c5 (l0, l1, l2, l3))) (l0 : Nat) (l1 : Int32) (l2 : Int32) (l3 : Int32) : osW (osFinM (fun r : Int32 => some (.int r)) 0 0) yX5_disbandSurplus cX5_disbandSurplus 4 (some .int) [] { frames := 3, cells := 0, slots := 0, locals := 65 } 0 0 37 [(0, .ref l0), (1, .int l1), (2, .int l2), (3, .int l3)] [] (qX5_disbandSurplus_37 N c5 l0 l1 l2 l3) := by
  unfold qX5_disbandSurplus_37
  refine os_iinc (i := 3) (d := (-1)) (x := l3) (v := (-1 : Int32)) (lv' := [(3, .int (l3 + (-1 : Int32))), (0, .ref l0), (1, .int l1), (2, .int l2)]) 3 rfl rfl (Nat.le_of_ble_eq_true rfl) rfl (hX5_disbandSurplus.at 22 rfl rfl) ?_
  refine os_goto (off := (-35)) (tgt := 5) rfl (hX5_disbandSurplus.at 23 rfl rfl) ?_
  exact osW.sub [1, 2, 3, 0] rfl (g5 l0 l1 l2 (l3 + (-1 : Int32)))
set_option maxRecDepth 100000 in
set_option maxHeartbeats 4000000 in
theorem tX5_disbandSurplus_5 (N : Nat) (c5 : Nat × Int32 × Int32 × Int32 → osM Int32) (g5 : ∀ (l0 : Nat) (l1 : Int32) (l2 : Int32) (l3 : Int32), osW (osFinM (fun r : Int32 => some (.int r)) 0 0) yX5_disbandSurplus cX5_disbandSurplus 4 (some .int) [] { frames := 3, cells := 0, slots := 0, locals := 65 } 0 0 5 [(0, .ref l0), (1, .int l1), (2, .int l2), (3, .int l3)] [] (c5 (l0, l1, l2, l3))) (l0 : Nat) (l1 : Int32) (l2 : Int32) (l3 : Int32) : osW (osFinM (fun r : Int32 => some (.int r)) 0 0) yX5_disbandSurplus cX5_disbandSurplus 4 (some .int) [] { frames := 3, cells := 0, slots := 0, locals := 65 } 0 0 5 [(0, .ref l0), (1, .int l1), (2, .int l2), (3, .int l3)] [] (bX5_disbandSurplus_5 N c5 l0 l1 l2 l3) := by
  unfold bX5_disbandSurplus_5
  refine os_iload_n (i := 3) (q := 3) (v := l3) 3 rfl rfl (hX5_disbandSurplus.at 4 rfl rfl) ?_
  refine os_if_lt (off := 37) (tgt := 43) rfl (hX5_disbandSurplus.at 5 rfl rfl) ?_ ?_
  · refine os_iload_n (i := 2) (q := 2) (v := l2) 2 rfl rfl (hX5_disbandSurplus.at 24 rfl rfl) ?_
    exact os_iret (Nat.le_of_ble_eq_true rfl) (Nat.le_of_ble_eq_true rfl) (hX5_disbandSurplus.at 25 rfl rfl).1
  · refine os_aload_n (i := 0) (q := 0) (v := l0) 0 rfl rfl (hX5_disbandSurplus.at 6 rfl rfl) ?_
    refine os_getR fX5_32 (hX5_disbandSurplus.at 7 rfl rfl) (fun x1 => ?_)
    refine os_iload_n (i := 3) (q := 3) (v := l3) 3 rfl rfl (hX5_disbandSurplus.at 8 rfl rfl) ?_
    refine os_iaload (hX5_disbandSurplus.at 9 rfl rfl) (fun x2 => ?_)
    refine os_iload_n (i := 1) (q := 1) (v := l1) 1 rfl rfl (hX5_disbandSurplus.at 10 rfl rfl) ?_
    refine os_icmp_ne (off := 21) (tgt := 37) rfl (hX5_disbandSurplus.at 11 rfl rfl) ?_ ?_
    · exact osW.sub [0, 1, 2, 3] rfl (sX5_disbandSurplus_37 N c5 g5 l0 l1 l2 l3)
    · refine os_aload_n (i := 0) (q := 0) (v := l0) 0 rfl rfl (hX5_disbandSurplus.at 12 rfl rfl) ?_
      refine os_iload_n (i := 1) (q := 1) (v := l1) 1 rfl rfl (hX5_disbandSurplus.at 13 rfl rfl) ?_
      refine os_callV (cis := [5]) (b := l0) (As := [.int l1]) (st := []) (st' := (fun r => .int r :: [])) sl5_X5_needsRemoval_X5_needsRemoval mdX5_needsRemoval wd1513 wd1261 (sX5_needsRemoval N l0 l1) rfl rfl (fun _ => rfl) (Nat.le_of_ble_eq_true rfl) (Nat.le_of_ble_eq_true rfl) (Nat.le_of_ble_eq_true rfl) rfl (Nat.le_of_ble_eq_true rfl) rfl (Nat.le_of_ble_eq_true rfl) (hX5_disbandSurplus.at 14 rfl rfl) (fun x3 => ?_)
      refine os_if_eq (off := 13) (tgt := 37) rfl (hX5_disbandSurplus.at 15 rfl rfl) ?_ ?_
      · exact osW.sub [0, 1, 2, 3] rfl (sX5_disbandSurplus_37 N c5 g5 l0 l1 l2 l3)
      · refine os_aload_n (i := 0) (q := 0) (v := l0) 0 rfl rfl (hX5_disbandSurplus.at 16 rfl rfl) ?_
        refine os_iload_n (i := 3) (q := 3) (v := l3) 3 rfl rfl (hX5_disbandSurplus.at 17 rfl rfl) ?_
        refine os_iconst (i := (-1)) (v := (-1 : Int32)) rfl (hX5_disbandSurplus.at 18 rfl rfl) ?_
        refine os_iconst (i := (-1)) (v := (-1 : Int32)) rfl (hX5_disbandSurplus.at 19 rfl rfl) ?_
        refine os_callV (cis := [5]) (b := l0) (As := [.int l3, .int (-1 : Int32), .int (-1 : Int32)]) (st := []) (st' := (fun _ => [])) sl5_X5_placeUnit_X5_placeUnit mdX5_placeUnit wd1403 wd812 (sX5_placeUnit N l0 l3 (-1 : Int32) (-1 : Int32)) rfl rfl (fun _ => rfl) (Nat.le_of_ble_eq_true rfl) (Nat.le_of_ble_eq_true rfl) (Nat.le_of_ble_eq_true rfl) rfl (Nat.le_of_ble_eq_true rfl) rfl (Nat.le_of_ble_eq_true rfl) (hX5_disbandSurplus.at 20 rfl rfl) (fun _ => ?_)
        refine os_iinc (i := 2) (d := 1) (x := l2) (v := (1 : Int32)) (lv' := [(2, .int (l2 + (1 : Int32))), (0, .ref l0), (1, .int l1), (3, .int l3)]) 2 rfl rfl (Nat.le_of_ble_eq_true rfl) rfl (hX5_disbandSurplus.at 21 rfl rfl) ?_
        exact osW.sub [1, 2, 0, 3] rfl (sX5_disbandSurplus_37 N c5 g5 l0 l1 (l2 + (1 : Int32)) l3)
set_option maxRecDepth 100000 in
set_option maxHeartbeats 4000000 in
theorem sX5_disbandSurplus_5 (N : Nat) (l0 : Nat) (l1 : Int32) (l2 : Int32) (l3 : Int32) : osW (osFinM (fun r : Int32 => some (.int r)) 0 0) yX5_disbandSurplus cX5_disbandSurplus 4 (some .int) [] { frames := 3, cells := 0, slots := 0, locals := 65 } 0 0 5 [(0, .ref l0), (1, .int l1), (2, .int l2), (3, .int l3)] [] (qX5_disbandSurplus_5 N (l0, l1, l2, l3)) :=
  osloop_W (lvf := fun p => [(0, .ref p.1), (1, .int p.2.1), (2, .int p.2.2.1), (3, .int p.2.2.2)]) (stf := fun p => []) (fun ih g p => tX5_disbandSurplus_5 N ih (fun l0 l1 l2 l3 => g (l0, l1, l2, l3)) p.1 p.2.1 p.2.2.1 p.2.2.2) N (l0, l1, l2, l3)
set_option maxRecDepth 100000 in
set_option maxHeartbeats 4000000 in
theorem sX5_disbandSurplus (N : Nat) (l0 : Nat) (l1 : Int32) : osMet yX5_disbandSurplus cX5_disbandSurplus 4 (some .int) 3 65 0 0 (fun r : Int32 => some (.int r)) [.ref l0, .int l1] (qX5_disbandSurplus N l0 l1) := by
  refine osMet.of plX5 (Nat.le_of_ble_eq_true rfl) (osW.rw (lv2 := [(0, .ref l0), (1, .int l1)]) ?_ rfl rfl rfl)
  unfold qX5_disbandSurplus
  refine os_iconst (i := 0) (v := (0 : Int32)) rfl (hX5_disbandSurplus.at 0 rfl rfl) ?_
  refine os_istore_n (i := 2) (q := 2) rfl (lv' := [(2, .int (0 : Int32)), (0, .ref l0), (1, .int l1)]) (Nat.le_of_ble_eq_true rfl) rfl (hX5_disbandSurplus.at 1 rfl rfl) ?_
  refine os_bipush (i := 15) (v := (15 : Int32)) rfl (hX5_disbandSurplus.at 2 rfl rfl) ?_
  refine os_istore_n (i := 3) (q := 3) rfl (lv' := [(3, .int (15 : Int32)), (2, .int (0 : Int32)), (0, .ref l0), (1, .int l1)]) (Nat.le_of_ble_eq_true rfl) rfl (hX5_disbandSurplus.at 3 rfl rfl) ?_
  exact osW.sub [2, 3, 1, 0] rfl (sX5_disbandSurplus_5 N l0 l1 (0 : Int32) (15 : Int32))
-- X5_clear
def KX5_clear : List (Nat × Nat × Instr) := [(0, 1, .aload_n 0), (1, 1, .iconst 0), (2, 3, .putfield 9), (5, 1, .aload_n 0), (6, 1, .iconst 1), (7, 3, .putfield 15), (10, 1, .aload_n 0), (11, 1, .iconst 0), (12, 3, .putfield 18), (15, 1, .aload_n 0), (16, 1, .iconst 0), (17, 3, .putfield 22), (20, 1, .aload_n 0), (21, 1, .iconst 0), (22, 3, .putfield 25), (25, 1, .iconst 0), (26, 1, .istore_n 1), (27, 1, .iload_n 1), (28, 2, .bipush 16), (30, 3, .if_icmp .ge 16), (33, 1, .aload_n 0), (34, 3, .getfield 28), (37, 1, .iload_n 1), (38, 1, .iconst (-1)), (39, 1, .iastore), (40, 3, .iinc 1 1), (43, 3, .goto (-16)), (46, 1, .iconst 0), (47, 1, .istore_n 1), (48, 1, .iload_n 1), (49, 2, .bipush 96), (51, 3, .if_icmp .ge 16), (54, 1, .aload_n 0), (55, 3, .getfield 59), (58, 1, .iload_n 1), (59, 1, .iconst 0), (60, 1, .iastore), (61, 3, .iinc 1 1), (64, 3, .goto (-16)), (67, 1, .aload_n 0), (68, 3, .invokevirtual 65), (71, 1, .aload_n 0), (72, 3, .invokevirtual 68), (75, 1, .aload_n 0), (76, 3, .invokevirtual 71), (79, 1, .return_)]
theorem hX5_clear : osDs cX5_clear KX5_clear := by
  show ∀ q ∈ KX5_clear, decode cX5_clear q.1 = .ok (q.2.2, q.2.1)
  decide +kernel
def bX5_clear_48 (N : Nat) (c48 : Nat × Int32 → osM Unit) (l0 : Nat) (l1 : Int32) : osM Unit := osite ((96 : Int32) ≤ l1) (osbind (osrecv [5] l0 (qX5_clearUnits N l0)) fun _ => osbind (osrecv [5] l0 (qX5_clearDislodged N l0)) fun _ => osbind (osrecv [5] l0 (qX5_holdAll N l0)) fun _ => osret ()) (osbind (osgR [5] 15 l0) fun x1 => osbind (ossI 0 x1 l1 (0 : Int32)) fun _ => c48 (l0, (l1 + (1 : Int32))))
def qX5_clear_48 (N : Nat) : Nat × Int32 → osM Unit := osloop (fun ih p => bX5_clear_48 N ih p.1 p.2) N
def bX5_clear_27 (N : Nat) (c27 : Nat × Int32 → osM Unit) (l0 : Nat) (l1 : Int32) : osM Unit := osite ((16 : Int32) ≤ l1) (qX5_clear_48 N (l0, (0 : Int32))) (osbind (osgR [5] 5 l0) fun x1 => osbind (ossI 0 x1 l1 (-1 : Int32)) fun _ => c27 (l0, (l1 + (1 : Int32))))
def qX5_clear_27 (N : Nat) : Nat × Int32 → osM Unit := osloop (fun ih p => bX5_clear_27 N ih p.1 p.2) N
def qX5_clear (N : Nat) (l0 : Nat) : osM Unit := osbind (osput [5] 0 l0 (.int (0 : Int32))) fun _ => osbind (osput [5] 1 l0 (.int (1 : Int32))) fun _ => osguard ((0 : Int32) = 0 ∨ (0 : Int32) = 1) (osbind (osput [5] 2 l0 (.int (0 : Int32))) fun _ => osbind (osput [5] 3 l0 (.int (0 : Int32))) fun _ => osbind (osput [5] 4 l0 (.int (0 : Int32))) fun _ => qX5_clear_27 N (l0, (0 : Int32)))
set_option maxRecDepth 100000 in
set_option maxHeartbeats 4000000 in
theorem tX5_clear_48 (N : Nat) (c48 : Nat × Int32 → osM Unit) (g48 : ∀ (l0 : Nat) (l1 : Int32), osW (osFinM (fun _ : Unit => none) 0 0) yX5_clear cX5_clear 2 none [] { frames := 2, cells := 0, slots := 0, locals := 45 } 0 0 48 [(0, .ref l0), (1, .int l1)] [] (c48 (l0, l1))) (l0 : Nat) (l1 : Int32) : osW (osFinM (fun _ : Unit => none) 0 0) yX5_clear cX5_clear 2 none [] { frames := 2, cells := 0, slots := 0, locals := 45 } 0 0 48 [(0, .ref l0), (1, .int l1)] [] (bX5_clear_48 N c48 l0 l1) := by
  unfold bX5_clear_48
  refine os_iload_n (i := 1) (q := 1) (v := l1) 1 rfl rfl (hX5_clear.at 29 rfl rfl) ?_
  refine os_bipush (i := 96) (v := (96 : Int32)) rfl (hX5_clear.at 30 rfl rfl) ?_
  refine os_icmp_ge (off := 16) (tgt := 67) rfl (hX5_clear.at 31 rfl rfl) ?_ ?_
  · refine os_aload_n (i := 0) (q := 0) (v := l0) 0 rfl rfl (hX5_clear.at 39 rfl rfl) ?_
    refine os_callV (cis := [5]) (b := l0) (As := []) (st := []) (st' := (fun _ => [])) sl5_X5_clearUnits_X5_clearUnits mdX5_clearUnits wd345 wd347 (sX5_clearUnits N l0 ) rfl rfl (fun _ => rfl) (Nat.le_of_ble_eq_true rfl) (Nat.le_of_ble_eq_true rfl) (Nat.le_of_ble_eq_true rfl) rfl (Nat.le_of_ble_eq_true rfl) rfl (Nat.le_of_ble_eq_true rfl) (hX5_clear.at 40 rfl rfl) (fun _ => ?_)
    refine os_aload_n (i := 0) (q := 0) (v := l0) 0 rfl rfl (hX5_clear.at 41 rfl rfl) ?_
    refine os_callV (cis := [5]) (b := l0) (As := []) (st := []) (st' := (fun _ => [])) sl5_X5_clearDislodged_X5_clearDislodged mdX5_clearDislodged wd349 wd351 (sX5_clearDislodged N l0 ) rfl rfl (fun _ => rfl) (Nat.le_of_ble_eq_true rfl) (Nat.le_of_ble_eq_true rfl) (Nat.le_of_ble_eq_true rfl) rfl (Nat.le_of_ble_eq_true rfl) rfl (Nat.le_of_ble_eq_true rfl) (hX5_clear.at 42 rfl rfl) (fun _ => ?_)
    refine os_aload_n (i := 0) (q := 0) (v := l0) 0 rfl rfl (hX5_clear.at 43 rfl rfl) ?_
    refine os_callV (cis := [5]) (b := l0) (As := []) (st := []) (st' := (fun _ => [])) sl5_X5_holdAll_X5_holdAll mdX5_holdAll wd353 wd355 (sX5_holdAll N l0 ) rfl rfl (fun _ => rfl) (Nat.le_of_ble_eq_true rfl) (Nat.le_of_ble_eq_true rfl) (Nat.le_of_ble_eq_true rfl) rfl (Nat.le_of_ble_eq_true rfl) rfl (Nat.le_of_ble_eq_true rfl) (hX5_clear.at 44 rfl rfl) (fun _ => ?_)
    exact os_vret (Nat.le_of_ble_eq_true rfl) (Nat.le_of_ble_eq_true rfl) (hX5_clear.at 45 rfl rfl).1
  · refine os_aload_n (i := 0) (q := 0) (v := l0) 0 rfl rfl (hX5_clear.at 32 rfl rfl) ?_
    refine os_getR fX5_59 (hX5_clear.at 33 rfl rfl) (fun x1 => ?_)
    refine os_iload_n (i := 1) (q := 1) (v := l1) 1 rfl rfl (hX5_clear.at 34 rfl rfl) ?_
    refine os_iconst (i := 0) (v := (0 : Int32)) rfl (hX5_clear.at 35 rfl rfl) ?_
    refine os_iastore (hX5_clear.at 36 rfl rfl) ?_
    refine os_iinc (i := 1) (d := 1) (x := l1) (v := (1 : Int32)) (lv' := [(1, .int (l1 + (1 : Int32))), (0, .ref l0)]) 1 rfl rfl (Nat.le_of_ble_eq_true rfl) rfl (hX5_clear.at 37 rfl rfl) ?_
    refine os_goto (off := (-16)) (tgt := 48) rfl (hX5_clear.at 38 rfl rfl) ?_
    exact osW.sub [1, 0] rfl (g48 l0 (l1 + (1 : Int32)))
set_option maxRecDepth 100000 in
set_option maxHeartbeats 4000000 in
theorem sX5_clear_48 (N : Nat) (l0 : Nat) (l1 : Int32) : osW (osFinM (fun _ : Unit => none) 0 0) yX5_clear cX5_clear 2 none [] { frames := 2, cells := 0, slots := 0, locals := 45 } 0 0 48 [(0, .ref l0), (1, .int l1)] [] (qX5_clear_48 N (l0, l1)) :=
  osloop_W (lvf := fun p => [(0, .ref p.1), (1, .int p.2)]) (stf := fun p => []) (fun ih g p => tX5_clear_48 N ih (fun l0 l1 => g (l0, l1)) p.1 p.2) N (l0, l1)
set_option maxRecDepth 100000 in
set_option maxHeartbeats 4000000 in
theorem tX5_clear_27 (N : Nat) (c27 : Nat × Int32 → osM Unit) (g27 : ∀ (l0 : Nat) (l1 : Int32), osW (osFinM (fun _ : Unit => none) 0 0) yX5_clear cX5_clear 2 none [] { frames := 2, cells := 0, slots := 0, locals := 45 } 0 0 27 [(0, .ref l0), (1, .int l1)] [] (c27 (l0, l1))) (l0 : Nat) (l1 : Int32) : osW (osFinM (fun _ : Unit => none) 0 0) yX5_clear cX5_clear 2 none [] { frames := 2, cells := 0, slots := 0, locals := 45 } 0 0 27 [(0, .ref l0), (1, .int l1)] [] (bX5_clear_27 N c27 l0 l1) := by
  unfold bX5_clear_27
  refine os_iload_n (i := 1) (q := 1) (v := l1) 1 rfl rfl (hX5_clear.at 17 rfl rfl) ?_
  refine os_bipush (i := 16) (v := (16 : Int32)) rfl (hX5_clear.at 18 rfl rfl) ?_
  refine os_icmp_ge (off := 16) (tgt := 46) rfl (hX5_clear.at 19 rfl rfl) ?_ ?_
  · refine os_iconst (i := 0) (v := (0 : Int32)) rfl (hX5_clear.at 27 rfl rfl) ?_
    refine os_istore_n (i := 1) (q := 1) rfl (lv' := [(1, .int (0 : Int32)), (0, .ref l0)]) (Nat.le_of_ble_eq_true rfl) rfl (hX5_clear.at 28 rfl rfl) ?_
    exact osW.sub [1, 0] rfl (sX5_clear_48 N l0 (0 : Int32))
  · refine os_aload_n (i := 0) (q := 0) (v := l0) 0 rfl rfl (hX5_clear.at 20 rfl rfl) ?_
    refine os_getR fX5_28 (hX5_clear.at 21 rfl rfl) (fun x1 => ?_)
    refine os_iload_n (i := 1) (q := 1) (v := l1) 1 rfl rfl (hX5_clear.at 22 rfl rfl) ?_
    refine os_iconst (i := (-1)) (v := (-1 : Int32)) rfl (hX5_clear.at 23 rfl rfl) ?_
    refine os_iastore (hX5_clear.at 24 rfl rfl) ?_
    refine os_iinc (i := 1) (d := 1) (x := l1) (v := (1 : Int32)) (lv' := [(1, .int (l1 + (1 : Int32))), (0, .ref l0)]) 1 rfl rfl (Nat.le_of_ble_eq_true rfl) rfl (hX5_clear.at 25 rfl rfl) ?_
    refine os_goto (off := (-16)) (tgt := 27) rfl (hX5_clear.at 26 rfl rfl) ?_
    exact osW.sub [1, 0] rfl (g27 l0 (l1 + (1 : Int32)))
set_option maxRecDepth 100000 in
set_option maxHeartbeats 4000000 in
theorem sX5_clear_27 (N : Nat) (l0 : Nat) (l1 : Int32) : osW (osFinM (fun _ : Unit => none) 0 0) yX5_clear cX5_clear 2 none [] { frames := 2, cells := 0, slots := 0, locals := 45 } 0 0 27 [(0, .ref l0), (1, .int l1)] [] (qX5_clear_27 N (l0, l1)) :=
  osloop_W (lvf := fun p => [(0, .ref p.1), (1, .int p.2)]) (stf := fun p => []) (fun ih g p => tX5_clear_27 N ih (fun l0 l1 => g (l0, l1)) p.1 p.2) N (l0, l1)
set_option maxRecDepth 100000 in
set_option maxHeartbeats 4000000 in
theorem sX5_clear (N : Nat) (l0 : Nat) : osMet yX5_clear cX5_clear 2 none 2 45 0 0 (fun _ : Unit => none) [.ref l0] (qX5_clear N l0) := by
  refine osMet.of plX5 (Nat.le_of_ble_eq_true rfl) (osW.rw (lv2 := [(0, .ref l0)]) ?_ rfl rfl rfl)
  unfold qX5_clear
  refine os_aload_n (i := 0) (q := 0) (v := l0) 0 rfl rfl (hX5_clear.at 0 rfl rfl) ?_
  refine os_iconst (i := 0) (v := (0 : Int32)) rfl (hX5_clear.at 1 rfl rfl) ?_
  refine os_put fX5_9 rfl rfl (hX5_clear.at 2 rfl rfl) ?_
  refine os_aload_n (i := 0) (q := 0) (v := l0) 0 rfl rfl (hX5_clear.at 3 rfl rfl) ?_
  refine os_iconst (i := 1) (v := (1 : Int32)) rfl (hX5_clear.at 4 rfl rfl) ?_
  refine os_put fX5_15 rfl rfl (hX5_clear.at 5 rfl rfl) ?_
  refine os_aload_n (i := 0) (q := 0) (v := l0) 0 rfl rfl (hX5_clear.at 6 rfl rfl) ?_
  refine os_iconst (i := 0) (v := (0 : Int32)) rfl (hX5_clear.at 7 rfl rfl) ?_
  refine os_guard (fun h1 => ?_)
  refine os_put fX5_18 (osz_narrow h1) (osz_fits h1) (hX5_clear.at 8 rfl rfl) ?_
  refine os_aload_n (i := 0) (q := 0) (v := l0) 0 rfl rfl (hX5_clear.at 9 rfl rfl) ?_
  refine os_iconst (i := 0) (v := (0 : Int32)) rfl (hX5_clear.at 10 rfl rfl) ?_
  refine os_put fX5_22 rfl rfl (hX5_clear.at 11 rfl rfl) ?_
  refine os_aload_n (i := 0) (q := 0) (v := l0) 0 rfl rfl (hX5_clear.at 12 rfl rfl) ?_
  refine os_iconst (i := 0) (v := (0 : Int32)) rfl (hX5_clear.at 13 rfl rfl) ?_
  refine os_put fX5_25 rfl rfl (hX5_clear.at 14 rfl rfl) ?_
  refine os_iconst (i := 0) (v := (0 : Int32)) rfl (hX5_clear.at 15 rfl rfl) ?_
  refine os_istore_n (i := 1) (q := 1) rfl (lv' := [(1, .int (0 : Int32)), (0, .ref l0)]) (Nat.le_of_ble_eq_true rfl) rfl (hX5_clear.at 16 rfl rfl) ?_
  exact osW.sub [1, 0] rfl (sX5_clear_27 N l0 (0 : Int32))
-- X5_allowsMove
def KX5_allowsMove : List (Nat × Nat × Instr) := [(0, 1, .aload_n 0), (1, 1, .aload_n 1), (2, 1, .iload_n 2), (3, 1, .iload_n 3), (4, 3, .invokevirtual 130), (7, 3, .ifCond .ne 20), (10, 1, .aload_n 0), (11, 1, .iload_n 2), (12, 3, .invokevirtual 138), (15, 3, .ifCond .eq 16), (18, 1, .aload_n 1), (19, 1, .iload_n 2), (20, 1, .iload_n 3), (21, 3, .invokestatic 141), (24, 3, .ifCond .eq 7), (27, 1, .iconst 1), (28, 3, .goto 4), (31, 1, .iconst 0), (32, 1, .ireturn)]
theorem hX5_allowsMove : osDs cX5_allowsMove KX5_allowsMove := by
  show ∀ q ∈ KX5_allowsMove, decode cX5_allowsMove q.1 = .ok (q.2.2, q.2.1)
  decide +kernel
def qX5_allowsMove_32 (N : Nat) (k0 : Int32) : osM Int32 := osretZ k0
def qX5_allowsMove_27 (N : Nat) : osM Int32 := qX5_allowsMove_32 N (1 : Int32)
def qX5_allowsMove_31 (N : Nat) : osM Int32 := qX5_allowsMove_32 N (0 : Int32)
def qX5_allowsMove (N : Nat) (l0 : Nat) (l1 : Nat) (l2 : Int32) (l3 : Int32) : osM Int32 := osbind (osrecv [5] l0 (qX5_canGo N l0 l1 l2 l3)) fun x1 => osite (x1 = 0) (osbind (osrecv [5] l0 (qX5_hasArmy N l0 l2)) fun x2 => osite (x2 = 0) (qX5_allowsMove_31 N ) (osbind (qX5_joinsCoasts N l1 l2 l3) fun x3 => osite (x3 = 0) (qX5_allowsMove_31 N ) (qX5_allowsMove_27 N ))) (qX5_allowsMove_27 N )
set_option maxRecDepth 100000 in
set_option maxHeartbeats 4000000 in
theorem sX5_allowsMove_32 (N : Nat) (k0 : Int32) : osW (osFinM (fun r : Int32 => some (.int r)) 0 0) yX5_allowsMove cX5_allowsMove 4 (some .boolean) [] { frames := 2, cells := 0, slots := 0, locals := 48 } 0 0 32 [] [.int k0] (qX5_allowsMove_32 N k0) := by
  unfold qX5_allowsMove_32
  exact os_zret (Nat.le_of_ble_eq_true rfl) (Nat.le_of_ble_eq_true rfl) (hX5_allowsMove.at 18 rfl rfl).1
set_option maxRecDepth 100000 in
set_option maxHeartbeats 4000000 in
theorem sX5_allowsMove_27 (N : Nat) : osW (osFinM (fun r : Int32 => some (.int r)) 0 0) yX5_allowsMove cX5_allowsMove 4 (some .boolean) [] { frames := 2, cells := 0, slots := 0, locals := 48 } 0 0 27 [] [] (qX5_allowsMove_27 N) := by
  unfold qX5_allowsMove_27
  refine os_iconst (i := 1) (v := (1 : Int32)) rfl (hX5_allowsMove.at 15 rfl rfl) ?_
  refine os_goto (off := 4) (tgt := 32) rfl (hX5_allowsMove.at 16 rfl rfl) ?_
  exact osW.sub [] rfl (sX5_allowsMove_32 N (1 : Int32))
set_option maxRecDepth 100000 in
set_option maxHeartbeats 4000000 in
theorem sX5_allowsMove_31 (N : Nat) : osW (osFinM (fun r : Int32 => some (.int r)) 0 0) yX5_allowsMove cX5_allowsMove 4 (some .boolean) [] { frames := 2, cells := 0, slots := 0, locals := 48 } 0 0 31 [] [] (qX5_allowsMove_31 N) := by
  unfold qX5_allowsMove_31
  refine os_iconst (i := 0) (v := (0 : Int32)) rfl (hX5_allowsMove.at 17 rfl rfl) ?_
  exact osW.sub [] rfl (sX5_allowsMove_32 N (0 : Int32))
set_option maxRecDepth 100000 in
set_option maxHeartbeats 4000000 in
theorem sX5_allowsMove (N : Nat) (l0 : Nat) (l1 : Nat) (l2 : Int32) (l3 : Int32) : osMet yX5_allowsMove cX5_allowsMove 4 (some .boolean) 2 48 0 0 (fun r : Int32 => some (.int r)) [.ref l0, .ref l1, .int l2, .int l3] (qX5_allowsMove N l0 l1 l2 l3) := by
  refine osMet.of plX5 (Nat.le_of_ble_eq_true rfl) (osW.rw (lv2 := [(0, .ref l0), (1, .ref l1), (2, .int l2), (3, .int l3)]) ?_ rfl rfl rfl)
  unfold qX5_allowsMove
  refine os_aload_n (i := 0) (q := 0) (v := l0) 0 rfl rfl (hX5_allowsMove.at 0 rfl rfl) ?_
  refine os_aload_n (i := 1) (q := 1) (v := l1) 1 rfl rfl (hX5_allowsMove.at 1 rfl rfl) ?_
  refine os_iload_n (i := 2) (q := 2) (v := l2) 2 rfl rfl (hX5_allowsMove.at 2 rfl rfl) ?_
  refine os_iload_n (i := 3) (q := 3) (v := l3) 3 rfl rfl (hX5_allowsMove.at 3 rfl rfl) ?_
  refine os_callV (cis := [5]) (b := l0) (As := [.ref l1, .int l2, .int l3]) (st := []) (st' := (fun r => .int r :: [])) sl5_X5_canGo_X5_canGo mdX5_canGo wd1152 wd1153 (sX5_canGo N l0 l1 l2 l3) rfl rfl (fun _ => rfl) (Nat.le_of_ble_eq_true rfl) (Nat.le_of_ble_eq_true rfl) (Nat.le_of_ble_eq_true rfl) rfl (Nat.le_of_ble_eq_true rfl) rfl (Nat.le_of_ble_eq_true rfl) (hX5_allowsMove.at 4 rfl rfl) (fun x1 => ?_)
  refine os_if_ne (off := 20) (tgt := 27) rfl (hX5_allowsMove.at 5 rfl rfl) ?_ ?_
  · exact osW.sub [] rfl (sX5_allowsMove_27 N )
  · refine os_aload_n (i := 0) (q := 0) (v := l0) 0 rfl rfl (hX5_allowsMove.at 6 rfl rfl) ?_
    refine os_iload_n (i := 2) (q := 2) (v := l2) 2 rfl rfl (hX5_allowsMove.at 7 rfl rfl) ?_
    refine os_callV (cis := [5]) (b := l0) (As := [.int l2]) (st := []) (st' := (fun r => .int r :: [])) sl5_X5_hasArmy_X5_hasArmy mdX5_hasArmy wd1157 wd1159 (sX5_hasArmy N l0 l2) rfl rfl (fun _ => rfl) (Nat.le_of_ble_eq_true rfl) (Nat.le_of_ble_eq_true rfl) (Nat.le_of_ble_eq_true rfl) rfl (Nat.le_of_ble_eq_true rfl) rfl (Nat.le_of_ble_eq_true rfl) (hX5_allowsMove.at 8 rfl rfl) (fun x2 => ?_)
    refine os_if_eq (off := 16) (tgt := 31) rfl (hX5_allowsMove.at 9 rfl rfl) ?_ ?_
    · exact osW.sub [] rfl (sX5_allowsMove_31 N )
    · refine os_aload_n (i := 1) (q := 1) (v := l1) 1 rfl rfl (hX5_allowsMove.at 10 rfl rfl) ?_
      refine os_iload_n (i := 2) (q := 2) (v := l2) 2 rfl rfl (hX5_allowsMove.at 11 rfl rfl) ?_
      refine os_iload_n (i := 3) (q := 3) (v := l3) 3 rfl rfl (hX5_allowsMove.at 12 rfl rfl) ?_
      refine os_callS (As := [.ref l1, .int l2, .int l3]) (st := []) (st' := (fun r => .int r :: [])) mdX5_joinsCoasts wd1161 wd1162 (sX5_joinsCoasts N l1 l2 l3) rfl rfl (fun _ => rfl) (Nat.le_of_ble_eq_true rfl) (Nat.le_of_ble_eq_true rfl) (Nat.le_of_ble_eq_true rfl) rfl (Nat.le_of_ble_eq_true rfl) rfl (Nat.le_of_ble_eq_true rfl) (hX5_allowsMove.at 13 rfl rfl) (fun x3 => ?_)
      refine os_if_eq (off := 7) (tgt := 31) rfl (hX5_allowsMove.at 14 rfl rfl) ?_ ?_
      · exact osW.sub [] rfl (sX5_allowsMove_31 N )
      · exact osW.sub [] rfl (sX5_allowsMove_27 N )
-- X5_allowsConvoy
def KX5_allowsConvoy : List (Nat × Nat × Instr) := [(0, 1, .aload_n 0), (1, 3, .getfield 35), (4, 1, .iload_n 2), (5, 3, .invokestatic 94), (8, 1, .iconst 1), (9, 3, .if_icmp .ne 36), (12, 1, .aload_n 1), (13, 3, .getfield 144), (16, 1, .iload_n 2), (17, 3, .invokestatic 147), (20, 3, .ifCond .eq 25), (23, 1, .aload_n 0), (24, 1, .iload_n 3), (25, 3, .invokevirtual 138), (28, 3, .ifCond .eq 17), (31, 1, .aload_n 1), (32, 1, .iload_n 3), (33, 2, .iload 4), (35, 3, .invokestatic 141), (38, 3, .ifCond .eq 7), (41, 1, .iconst 1), (42, 3, .goto 4), (45, 1, .iconst 0), (46, 1, .ireturn)]
theorem hX5_allowsConvoy : osDs cX5_allowsConvoy KX5_allowsConvoy := by
  show ∀ q ∈ KX5_allowsConvoy, decode cX5_allowsConvoy q.1 = .ok (q.2.2, q.2.1)
  decide +kernel
def qX5_allowsConvoy_46 (N : Nat) (k0 : Int32) : osM Int32 := osretZ k0
def qX5_allowsConvoy_45 (N : Nat) : osM Int32 := qX5_allowsConvoy_46 N (0 : Int32)
def qX5_allowsConvoy (N : Nat) (l0 : Nat) (l1 : Nat) (l2 : Int32) (l3 : Int32) (l4 : Int32) : osM Int32 := osbind (osgR [5] 7 l0) fun x1 => osbind (qX9_entry N x1 l2) fun x2 => osite (x2 = (1 : Int32)) (osbind (osgI [0] 3 l1) fun x3 => osbind (qX9_has N x3 l2) fun x4 => osite (x4 = 0) (qX5_allowsConvoy_45 N ) (osbind (osrecv [5] l0 (qX5_hasArmy N l0 l3)) fun x5 => osite (x5 = 0) (qX5_allowsConvoy_45 N ) (osbind (qX5_joinsCoasts N l1 l3 l4) fun x6 => osite (x6 = 0) (qX5_allowsConvoy_45 N ) (qX5_allowsConvoy_46 N (1 : Int32))))) (qX5_allowsConvoy_45 N )
set_option maxRecDepth 100000 in
set_option maxHeartbeats 4000000 in
theorem sX5_allowsConvoy_46 (N : Nat) (k0 : Int32) : osW (osFinM (fun r : Int32 => some (.int r)) 0 0) yX5_allowsConvoy cX5_allowsConvoy 5 (some .boolean) [] { frames := 2, cells := 0, slots := 0, locals := 43 } 0 0 46 [] [.int k0] (qX5_allowsConvoy_46 N k0) := by
  unfold qX5_allowsConvoy_46
  exact os_zret (Nat.le_of_ble_eq_true rfl) (Nat.le_of_ble_eq_true rfl) (hX5_allowsConvoy.at 23 rfl rfl).1
set_option maxRecDepth 100000 in
set_option maxHeartbeats 4000000 in
theorem sX5_allowsConvoy_45 (N : Nat) : osW (osFinM (fun r : Int32 => some (.int r)) 0 0) yX5_allowsConvoy cX5_allowsConvoy 5 (some .boolean) [] { frames := 2, cells := 0, slots := 0, locals := 43 } 0 0 45 [] [] (qX5_allowsConvoy_45 N) := by
  unfold qX5_allowsConvoy_45
  refine os_iconst (i := 0) (v := (0 : Int32)) rfl (hX5_allowsConvoy.at 22 rfl rfl) ?_
  exact osW.sub [] rfl (sX5_allowsConvoy_46 N (0 : Int32))
set_option maxRecDepth 100000 in
set_option maxHeartbeats 4000000 in
theorem sX5_allowsConvoy (N : Nat) (l0 : Nat) (l1 : Nat) (l2 : Int32) (l3 : Int32) (l4 : Int32) : osMet yX5_allowsConvoy cX5_allowsConvoy 5 (some .boolean) 2 43 0 0 (fun r : Int32 => some (.int r)) [.ref l0, .ref l1, .int l2, .int l3, .int l4] (qX5_allowsConvoy N l0 l1 l2 l3 l4) := by
  refine osMet.of plX5 (Nat.le_of_ble_eq_true rfl) (osW.rw (lv2 := [(0, .ref l0), (1, .ref l1), (2, .int l2), (3, .int l3), (4, .int l4)]) ?_ rfl rfl rfl)
  unfold qX5_allowsConvoy
  refine os_aload_n (i := 0) (q := 0) (v := l0) 0 rfl rfl (hX5_allowsConvoy.at 0 rfl rfl) ?_
  refine os_getR fX5_35 (hX5_allowsConvoy.at 1 rfl rfl) (fun x1 => ?_)
  refine os_iload_n (i := 2) (q := 2) (v := l2) 2 rfl rfl (hX5_allowsConvoy.at 2 rfl rfl) ?_
  refine os_callSN (host := "OrderSettler") (As := [.ref x1, .int l2]) (st := []) (st' := (fun r => .int r :: [])) mdX9_entry wd810 wd784 (sX9_entry N x1 l2) rfl rfl (fun _ => rfl) (Nat.le_of_ble_eq_true rfl) (Nat.le_of_ble_eq_true rfl) (Nat.le_of_ble_eq_true rfl) rfl (Nat.le_of_ble_eq_true rfl) rfl (Nat.le_of_ble_eq_true rfl) (hX5_allowsConvoy.at 3 rfl rfl) (fun x2 => ?_)
  refine os_iconst (i := 1) (v := (1 : Int32)) rfl (hX5_allowsConvoy.at 4 rfl rfl) ?_
  refine os_icmp_ne (off := 36) (tgt := 45) rfl (hX5_allowsConvoy.at 5 rfl rfl) ?_ ?_
  · exact osW.sub [] rfl (sX5_allowsConvoy_45 N )
  · refine os_aload_n (i := 1) (q := 1) (v := l1) 1 rfl rfl (hX5_allowsConvoy.at 6 rfl rfl) ?_
    refine os_getI fX5_144 (hX5_allowsConvoy.at 7 rfl rfl) (fun x3 => ?_)
    refine os_iload_n (i := 2) (q := 2) (v := l2) 2 rfl rfl (hX5_allowsConvoy.at 8 rfl rfl) ?_
    refine os_callSN (host := "OrderSettler") (As := [.int x3, .int l2]) (st := []) (st' := (fun r => .int r :: [])) mdX9_has wd1164 wd749 (sX9_has N x3 l2) rfl rfl (fun _ => rfl) (Nat.le_of_ble_eq_true rfl) (Nat.le_of_ble_eq_true rfl) (Nat.le_of_ble_eq_true rfl) rfl (Nat.le_of_ble_eq_true rfl) rfl (Nat.le_of_ble_eq_true rfl) (hX5_allowsConvoy.at 9 rfl rfl) (fun x4 => ?_)
    refine os_if_eq (off := 25) (tgt := 45) rfl (hX5_allowsConvoy.at 10 rfl rfl) ?_ ?_
    · exact osW.sub [] rfl (sX5_allowsConvoy_45 N )
    · refine os_aload_n (i := 0) (q := 0) (v := l0) 0 rfl rfl (hX5_allowsConvoy.at 11 rfl rfl) ?_
      refine os_iload_n (i := 3) (q := 3) (v := l3) 3 rfl rfl (hX5_allowsConvoy.at 12 rfl rfl) ?_
      refine os_callV (cis := [5]) (b := l0) (As := [.int l3]) (st := []) (st' := (fun r => .int r :: [])) sl5_X5_hasArmy_X5_hasArmy mdX5_hasArmy wd1157 wd1159 (sX5_hasArmy N l0 l3) rfl rfl (fun _ => rfl) (Nat.le_of_ble_eq_true rfl) (Nat.le_of_ble_eq_true rfl) (Nat.le_of_ble_eq_true rfl) rfl (Nat.le_of_ble_eq_true rfl) rfl (Nat.le_of_ble_eq_true rfl) (hX5_allowsConvoy.at 13 rfl rfl) (fun x5 => ?_)
      refine os_if_eq (off := 17) (tgt := 45) rfl (hX5_allowsConvoy.at 14 rfl rfl) ?_ ?_
      · exact osW.sub [] rfl (sX5_allowsConvoy_45 N )
      · refine os_aload_n (i := 1) (q := 1) (v := l1) 1 rfl rfl (hX5_allowsConvoy.at 15 rfl rfl) ?_
        refine os_iload_n (i := 3) (q := 3) (v := l3) 3 rfl rfl (hX5_allowsConvoy.at 16 rfl rfl) ?_
        refine os_iload (v := l4) 4 rfl (hX5_allowsConvoy.at 17 rfl rfl) ?_
        refine os_callS (As := [.ref l1, .int l3, .int l4]) (st := []) (st' := (fun r => .int r :: [])) mdX5_joinsCoasts wd1161 wd1162 (sX5_joinsCoasts N l1 l3 l4) rfl rfl (fun _ => rfl) (Nat.le_of_ble_eq_true rfl) (Nat.le_of_ble_eq_true rfl) (Nat.le_of_ble_eq_true rfl) rfl (Nat.le_of_ble_eq_true rfl) rfl (Nat.le_of_ble_eq_true rfl) (hX5_allowsConvoy.at 18 rfl rfl) (fun x6 => ?_)
        refine os_if_eq (off := 7) (tgt := 45) rfl (hX5_allowsConvoy.at 19 rfl rfl) ?_ ?_
        · exact osW.sub [] rfl (sX5_allowsConvoy_45 N )
        · refine os_iconst (i := 1) (v := (1 : Int32)) rfl (hX5_allowsConvoy.at 20 rfl rfl) ?_
          refine os_goto (off := 4) (tgt := 46) rfl (hX5_allowsConvoy.at 21 rfl rfl) ?_
          exact osW.sub [] rfl (sX5_allowsConvoy_46 N (1 : Int32))
-- X5_closeTurn
def KX5_closeTurn : List (Nat × Nat × Instr) := [(0, 1, .aload_n 0), (1, 3, .getfield 15), (4, 1, .iconst 2), (5, 1, .irem), (6, 3, .ifCond .eq 8), (9, 1, .aload_n 0), (10, 3, .invokevirtual 186), (13, 1, .return_), (14, 1, .iconst 0), (15, 1, .istore_n 2), (16, 1, .iload_n 2), (17, 2, .bipush 16), (19, 3, .if_icmp .ge 40), (22, 1, .aload_n 1), (23, 3, .getfield 189), (26, 1, .iload_n 2), (27, 3, .invokestatic 147), (30, 3, .ifCond .eq 23), (33, 1, .aload_n 0), (34, 1, .iload_n 2), (35, 3, .invokevirtual 126), (38, 3, .ifCond .eq 15), (41, 1, .aload_n 0), (42, 3, .getfield 28), (45, 1, .iload_n 2), (46, 1, .aload_n 0), (47, 3, .getfield 32), (50, 1, .iload_n 2), (51, 1, .iaload), (52, 1, .iastore), (53, 3, .iinc 2 1), (56, 3, .goto (-40)), (59, 1, .iconst 0), (60, 1, .istore_n 2), (61, 1, .iload_n 2), (62, 1, .aload_n 1), (63, 3, .getfield 192), (66, 3, .if_icmp .ge 24), (69, 1, .aload_n 0), (70, 1, .aload_n 1), (71, 1, .iload_n 2), (72, 3, .invokevirtual 157), (75, 3, .ifCond .eq 9), (78, 1, .aload_n 0), (79, 1, .iconst 2), (80, 3, .putfield 9), (83, 1, .return_), (84, 3, .iinc 2 1), (87, 3, .goto (-26)), (90, 1, .aload_n 0), (91, 3, .invokevirtual 186), (94, 1, .return_)]
theorem hX5_closeTurn : osDs cX5_closeTurn KX5_closeTurn := by
  show ∀ q ∈ KX5_closeTurn, decode cX5_closeTurn q.1 = .ok (q.2.2, q.2.1)
  decide +kernel
def bX5_closeTurn_61 (N : Nat) (c61 : Nat × Nat × Int32 → osM Unit) (l0 : Nat) (l1 : Nat) (l2 : Int32) : osM Unit := osbind (osgI [0] 1 l1) fun x1 => osite (x1 ≤ l2) (osbind (osrecv [5] l0 (qX5_beginTurn N l0)) fun _ => osret ()) (osbind (osrecv [5] l0 (qX5_countBuilds N l0 l1 l2)) fun x2 => osite (x2 = 0) (c61 (l0, l1, (l2 + (1 : Int32)))) (osbind (osput [5] 0 l0 (.int (2 : Int32))) fun _ => osret ()))
def qX5_closeTurn_61 (N : Nat) : Nat × Nat × Int32 → osM Unit := osloop (fun ih p => bX5_closeTurn_61 N ih p.1 p.2.1 p.2.2) N
def qX5_closeTurn_53 (N : Nat) (c16 : Nat × Nat × Int32 → osM Unit) (l0 : Nat) (l1 : Nat) (l2 : Int32) : osM Unit := c16 (l0, l1, (l2 + (1 : Int32)))
def bX5_closeTurn_16 (N : Nat) (c16 : Nat × Nat × Int32 → osM Unit) (l0 : Nat) (l1 : Nat) (l2 : Int32) : osM Unit := osite ((16 : Int32) ≤ l2) (qX5_closeTurn_61 N (l0, l1, (0 : Int32))) (osbind (osgI [0] 4 l1) fun x1 => osbind (qX9_has N x1 l2) fun x2 => osite (x2 = 0) (qX5_closeTurn_53 N c16 l0 l1 l2) (osbind (osrecv [5] l0 (qX5_hasUnit N l0 l2)) fun x3 => osite (x3 = 0) (qX5_closeTurn_53 N c16 l0 l1 l2) (osbind (osgR [5] 5 l0) fun x4 => osbind (osgR [5] 6 l0) fun x5 => osbind (osaI 0 x5 l2) fun x6 => osbind (ossI 0 x4 l2 x6) fun _ => qX5_closeTurn_53 N c16 l0 l1 l2)))
def qX5_closeTurn_16 (N : Nat) : Nat × Nat × Int32 → osM Unit := osloop (fun ih p => bX5_closeTurn_16 N ih p.1 p.2.1 p.2.2) N
def qX5_closeTurn (N : Nat) (l0 : Nat) (l1 : Nat) : osM Unit := osbind (osgI [5] 1 l0) fun x1 => osguard (¬ (2 : Int32) = 0) (osite ((x1 - x1 / (2 : Int32) * (2 : Int32)) = 0) (qX5_closeTurn_16 N (l0, l1, (0 : Int32))) (osbind (osrecv [5] l0 (qX5_beginTurn N l0)) fun _ => osret ()))
set_option maxRecDepth 100000 in
set_option maxHeartbeats 4000000 in
theorem tX5_closeTurn_61 (N : Nat) (c61 : Nat × Nat × Int32 → osM Unit) (g61 : ∀ (l0 : Nat) (l1 : Nat) (l2 : Int32), osW (osFinM (fun _ : Unit => none) 0 0) yX5_closeTurn cX5_closeTurn 3 none [] { frames := 3, cells := 0, slots := 0, locals := 68 } 0 0 61 [(0, .ref l0), (1, .ref l1), (2, .int l2)] [] (c61 (l0, l1, l2))) (l0 : Nat) (l1 : Nat) (l2 : Int32) : osW (osFinM (fun _ : Unit => none) 0 0) yX5_closeTurn cX5_closeTurn 3 none [] { frames := 3, cells := 0, slots := 0, locals := 68 } 0 0 61 [(0, .ref l0), (1, .ref l1), (2, .int l2)] [] (bX5_closeTurn_61 N c61 l0 l1 l2) := by
  unfold bX5_closeTurn_61
  refine os_iload_n (i := 2) (q := 2) (v := l2) 2 rfl rfl (hX5_closeTurn.at 34 rfl rfl) ?_
  refine os_aload_n (i := 1) (q := 1) (v := l1) 1 rfl rfl (hX5_closeTurn.at 35 rfl rfl) ?_
  refine os_getI fX5_192 (hX5_closeTurn.at 36 rfl rfl) (fun x1 => ?_)
  refine os_icmp_ge (off := 24) (tgt := 90) rfl (hX5_closeTurn.at 37 rfl rfl) ?_ ?_
  · refine os_aload_n (i := 0) (q := 0) (v := l0) 0 rfl rfl (hX5_closeTurn.at 49 rfl rfl) ?_
    refine os_callV (cis := [5]) (b := l0) (As := []) (st := []) (st' := (fun _ => [])) sl5_X5_beginTurn_X5_beginTurn mdX5_beginTurn wd1422 wd1423 (sX5_beginTurn N l0 ) rfl rfl (fun _ => rfl) (Nat.le_of_ble_eq_true rfl) (Nat.le_of_ble_eq_true rfl) (Nat.le_of_ble_eq_true rfl) rfl (Nat.le_of_ble_eq_true rfl) rfl (Nat.le_of_ble_eq_true rfl) (hX5_closeTurn.at 50 rfl rfl) (fun _ => ?_)
    exact os_vret (Nat.le_of_ble_eq_true rfl) (Nat.le_of_ble_eq_true rfl) (hX5_closeTurn.at 51 rfl rfl).1
  · refine os_aload_n (i := 0) (q := 0) (v := l0) 0 rfl rfl (hX5_closeTurn.at 38 rfl rfl) ?_
    refine os_aload_n (i := 1) (q := 1) (v := l1) 1 rfl rfl (hX5_closeTurn.at 39 rfl rfl) ?_
    refine os_iload_n (i := 2) (q := 2) (v := l2) 2 rfl rfl (hX5_closeTurn.at 40 rfl rfl) ?_
    refine os_callV (cis := [5]) (b := l0) (As := [.ref l1, .int l2]) (st := []) (st' := (fun r => .int r :: [])) sl5_X5_countBuilds_X5_countBuilds mdX5_countBuilds wd1230 wd1231 (sX5_countBuilds N l0 l1 l2) rfl rfl (fun _ => rfl) (Nat.le_of_ble_eq_true rfl) (Nat.le_of_ble_eq_true rfl) (Nat.le_of_ble_eq_true rfl) rfl (Nat.le_of_ble_eq_true rfl) rfl (Nat.le_of_ble_eq_true rfl) (hX5_closeTurn.at 41 rfl rfl) (fun x2 => ?_)
    refine os_if_eq (off := 9) (tgt := 84) rfl (hX5_closeTurn.at 42 rfl rfl) ?_ ?_
    · refine os_iinc (i := 2) (d := 1) (x := l2) (v := (1 : Int32)) (lv' := [(2, .int (l2 + (1 : Int32))), (0, .ref l0), (1, .ref l1)]) 2 rfl rfl (Nat.le_of_ble_eq_true rfl) rfl (hX5_closeTurn.at 47 rfl rfl) ?_
      refine os_goto (off := (-26)) (tgt := 61) rfl (hX5_closeTurn.at 48 rfl rfl) ?_
      exact osW.sub [1, 2, 0] rfl (g61 l0 l1 (l2 + (1 : Int32)))
    · refine os_aload_n (i := 0) (q := 0) (v := l0) 0 rfl rfl (hX5_closeTurn.at 43 rfl rfl) ?_
      refine os_iconst (i := 2) (v := (2 : Int32)) rfl (hX5_closeTurn.at 44 rfl rfl) ?_
      refine os_put fX5_9 rfl rfl (hX5_closeTurn.at 45 rfl rfl) ?_
      exact os_vret (Nat.le_of_ble_eq_true rfl) (Nat.le_of_ble_eq_true rfl) (hX5_closeTurn.at 46 rfl rfl).1
set_option maxRecDepth 100000 in
set_option maxHeartbeats 4000000 in
theorem sX5_closeTurn_61 (N : Nat) (l0 : Nat) (l1 : Nat) (l2 : Int32) : osW (osFinM (fun _ : Unit => none) 0 0) yX5_closeTurn cX5_closeTurn 3 none [] { frames := 3, cells := 0, slots := 0, locals := 68 } 0 0 61 [(0, .ref l0), (1, .ref l1), (2, .int l2)] [] (qX5_closeTurn_61 N (l0, l1, l2)) :=
  osloop_W (lvf := fun p => [(0, .ref p.1), (1, .ref p.2.1), (2, .int p.2.2)]) (stf := fun p => []) (fun ih g p => tX5_closeTurn_61 N ih (fun l0 l1 l2 => g (l0, l1, l2)) p.1 p.2.1 p.2.2) N (l0, l1, l2)
set_option maxRecDepth 100000 in
set_option maxHeartbeats 4000000 in
theorem sX5_closeTurn_53 (N : Nat) (c16 : Nat × Nat × Int32 → osM Unit) (g16 : ∀ (l0 : Nat) (l1 : Nat) (l2 : Int32), osW (osFinM (fun _ : Unit => none) 0 0) yX5_closeTurn cX5_closeTurn 3 none [] { frames := 3, cells := 0, slots := 0, locals := 68 } 0 0 16 [(0, .ref l0), (1, .ref l1), (2, .int l2)] [] (c16 (l0, l1, l2))) (l0 : Nat) (l1 : Nat) (l2 : Int32) : osW (osFinM (fun _ : Unit => none) 0 0) yX5_closeTurn cX5_closeTurn 3 none [] { frames := 3, cells := 0, slots := 0, locals := 68 } 0 0 53 [(0, .ref l0), (1, .ref l1), (2, .int l2)] [] (qX5_closeTurn_53 N c16 l0 l1 l2) := by
  unfold qX5_closeTurn_53
  refine os_iinc (i := 2) (d := 1) (x := l2) (v := (1 : Int32)) (lv' := [(2, .int (l2 + (1 : Int32))), (0, .ref l0), (1, .ref l1)]) 2 rfl rfl (Nat.le_of_ble_eq_true rfl) rfl (hX5_closeTurn.at 30 rfl rfl) ?_
  refine os_goto (off := (-40)) (tgt := 16) rfl (hX5_closeTurn.at 31 rfl rfl) ?_
  exact osW.sub [1, 2, 0] rfl (g16 l0 l1 (l2 + (1 : Int32)))
set_option maxRecDepth 100000 in
set_option maxHeartbeats 4000000 in
theorem tX5_closeTurn_16 (N : Nat) (c16 : Nat × Nat × Int32 → osM Unit) (g16 : ∀ (l0 : Nat) (l1 : Nat) (l2 : Int32), osW (osFinM (fun _ : Unit => none) 0 0) yX5_closeTurn cX5_closeTurn 3 none [] { frames := 3, cells := 0, slots := 0, locals := 68 } 0 0 16 [(0, .ref l0), (1, .ref l1), (2, .int l2)] [] (c16 (l0, l1, l2))) (l0 : Nat) (l1 : Nat) (l2 : Int32) : osW (osFinM (fun _ : Unit => none) 0 0) yX5_closeTurn cX5_closeTurn 3 none [] { frames := 3, cells := 0, slots := 0, locals := 68 } 0 0 16 [(0, .ref l0), (1, .ref l1), (2, .int l2)] [] (bX5_closeTurn_16 N c16 l0 l1 l2) := by
  unfold bX5_closeTurn_16
  refine os_iload_n (i := 2) (q := 2) (v := l2) 2 rfl rfl (hX5_closeTurn.at 10 rfl rfl) ?_
  refine os_bipush (i := 16) (v := (16 : Int32)) rfl (hX5_closeTurn.at 11 rfl rfl) ?_
  refine os_icmp_ge (off := 40) (tgt := 59) rfl (hX5_closeTurn.at 12 rfl rfl) ?_ ?_
  · refine os_iconst (i := 0) (v := (0 : Int32)) rfl (hX5_closeTurn.at 32 rfl rfl) ?_
    refine os_istore_n (i := 2) (q := 2) rfl (lv' := [(2, .int (0 : Int32)), (0, .ref l0), (1, .ref l1)]) (Nat.le_of_ble_eq_true rfl) rfl (hX5_closeTurn.at 33 rfl rfl) ?_
    exact osW.sub [1, 2, 0] rfl (sX5_closeTurn_61 N l0 l1 (0 : Int32))
  · refine os_aload_n (i := 1) (q := 1) (v := l1) 1 rfl rfl (hX5_closeTurn.at 13 rfl rfl) ?_
    refine os_getI fX5_189 (hX5_closeTurn.at 14 rfl rfl) (fun x1 => ?_)
    refine os_iload_n (i := 2) (q := 2) (v := l2) 2 rfl rfl (hX5_closeTurn.at 15 rfl rfl) ?_
    refine os_callSN (host := "OrderSettler") (As := [.int x1, .int l2]) (st := []) (st' := (fun r => .int r :: [])) mdX9_has wd1164 wd749 (sX9_has N x1 l2) rfl rfl (fun _ => rfl) (Nat.le_of_ble_eq_true rfl) (Nat.le_of_ble_eq_true rfl) (Nat.le_of_ble_eq_true rfl) rfl (Nat.le_of_ble_eq_true rfl) rfl (Nat.le_of_ble_eq_true rfl) (hX5_closeTurn.at 16 rfl rfl) (fun x2 => ?_)
    refine os_if_eq (off := 23) (tgt := 53) rfl (hX5_closeTurn.at 17 rfl rfl) ?_ ?_
    · exact osW.sub [0, 1, 2] rfl (sX5_closeTurn_53 N c16 g16 l0 l1 l2)
    · refine os_aload_n (i := 0) (q := 0) (v := l0) 0 rfl rfl (hX5_closeTurn.at 18 rfl rfl) ?_
      refine os_iload_n (i := 2) (q := 2) (v := l2) 2 rfl rfl (hX5_closeTurn.at 19 rfl rfl) ?_
      refine os_callV (cis := [5]) (b := l0) (As := [.int l2]) (st := []) (st' := (fun r => .int r :: [])) sl5_X5_hasUnit_X5_hasUnit mdX5_hasUnit wd1175 wd807 (sX5_hasUnit N l0 l2) rfl rfl (fun _ => rfl) (Nat.le_of_ble_eq_true rfl) (Nat.le_of_ble_eq_true rfl) (Nat.le_of_ble_eq_true rfl) rfl (Nat.le_of_ble_eq_true rfl) rfl (Nat.le_of_ble_eq_true rfl) (hX5_closeTurn.at 20 rfl rfl) (fun x3 => ?_)
      refine os_if_eq (off := 15) (tgt := 53) rfl (hX5_closeTurn.at 21 rfl rfl) ?_ ?_
      · exact osW.sub [0, 1, 2] rfl (sX5_closeTurn_53 N c16 g16 l0 l1 l2)
      · refine os_aload_n (i := 0) (q := 0) (v := l0) 0 rfl rfl (hX5_closeTurn.at 22 rfl rfl) ?_
        refine os_getR fX5_28 (hX5_closeTurn.at 23 rfl rfl) (fun x4 => ?_)
        refine os_iload_n (i := 2) (q := 2) (v := l2) 2 rfl rfl (hX5_closeTurn.at 24 rfl rfl) ?_
        refine os_aload_n (i := 0) (q := 0) (v := l0) 0 rfl rfl (hX5_closeTurn.at 25 rfl rfl) ?_
        refine os_getR fX5_32 (hX5_closeTurn.at 26 rfl rfl) (fun x5 => ?_)
        refine os_iload_n (i := 2) (q := 2) (v := l2) 2 rfl rfl (hX5_closeTurn.at 27 rfl rfl) ?_
        refine os_iaload (hX5_closeTurn.at 28 rfl rfl) (fun x6 => ?_)
        refine os_iastore (hX5_closeTurn.at 29 rfl rfl) ?_
        exact osW.sub [0, 1, 2] rfl (sX5_closeTurn_53 N c16 g16 l0 l1 l2)
set_option maxRecDepth 100000 in
set_option maxHeartbeats 4000000 in
theorem sX5_closeTurn_16 (N : Nat) (l0 : Nat) (l1 : Nat) (l2 : Int32) : osW (osFinM (fun _ : Unit => none) 0 0) yX5_closeTurn cX5_closeTurn 3 none [] { frames := 3, cells := 0, slots := 0, locals := 68 } 0 0 16 [(0, .ref l0), (1, .ref l1), (2, .int l2)] [] (qX5_closeTurn_16 N (l0, l1, l2)) :=
  osloop_W (lvf := fun p => [(0, .ref p.1), (1, .ref p.2.1), (2, .int p.2.2)]) (stf := fun p => []) (fun ih g p => tX5_closeTurn_16 N ih (fun l0 l1 l2 => g (l0, l1, l2)) p.1 p.2.1 p.2.2) N (l0, l1, l2)
set_option maxRecDepth 100000 in
set_option maxHeartbeats 4000000 in
theorem sX5_closeTurn (N : Nat) (l0 : Nat) (l1 : Nat) : osMet yX5_closeTurn cX5_closeTurn 3 none 3 68 0 0 (fun _ : Unit => none) [.ref l0, .ref l1] (qX5_closeTurn N l0 l1) := by
  refine osMet.of plX5 (Nat.le_of_ble_eq_true rfl) (osW.rw (lv2 := [(0, .ref l0), (1, .ref l1)]) ?_ rfl rfl rfl)
  unfold qX5_closeTurn
  refine os_aload_n (i := 0) (q := 0) (v := l0) 0 rfl rfl (hX5_closeTurn.at 0 rfl rfl) ?_
  refine os_getI fX5_15 (hX5_closeTurn.at 1 rfl rfl) (fun x1 => ?_)
  refine os_iconst (i := 2) (v := (2 : Int32)) rfl (hX5_closeTurn.at 2 rfl rfl) ?_
  refine os_guard (fun h2 => ?_)
  refine os_irem h2 (hX5_closeTurn.at 3 rfl rfl) ?_
  refine os_if_eq (off := 8) (tgt := 14) rfl (hX5_closeTurn.at 4 rfl rfl) ?_ ?_
  · refine os_iconst (i := 0) (v := (0 : Int32)) rfl (hX5_closeTurn.at 8 rfl rfl) ?_
    refine os_istore_n (i := 2) (q := 2) rfl (lv' := [(2, .int (0 : Int32)), (0, .ref l0), (1, .ref l1)]) (Nat.le_of_ble_eq_true rfl) rfl (hX5_closeTurn.at 9 rfl rfl) ?_
    exact osW.sub [1, 2, 0] rfl (sX5_closeTurn_16 N l0 l1 (0 : Int32))
  · refine os_aload_n (i := 0) (q := 0) (v := l0) 0 rfl rfl (hX5_closeTurn.at 5 rfl rfl) ?_
    refine os_callV (cis := [5]) (b := l0) (As := []) (st := []) (st' := (fun _ => [])) sl5_X5_beginTurn_X5_beginTurn mdX5_beginTurn wd1422 wd1423 (sX5_beginTurn N l0 ) rfl rfl (fun _ => rfl) (Nat.le_of_ble_eq_true rfl) (Nat.le_of_ble_eq_true rfl) (Nat.le_of_ble_eq_true rfl) rfl (Nat.le_of_ble_eq_true rfl) rfl (Nat.le_of_ble_eq_true rfl) (hX5_closeTurn.at 6 rfl rfl) (fun _ => ?_)
    exact os_vret (Nat.le_of_ble_eq_true rfl) (Nat.le_of_ble_eq_true rfl) (hX5_closeTurn.at 7 rfl rfl).1
-- X5_init
def KX5_init : List (Nat × Nat × Instr) := [(0, 1, .aload_n 0), (1, 3, .invokespecial 3), (4, 1, .aload_n 0), (5, 1, .iconst 0), (6, 3, .putfield 9), (9, 1, .aload_n 0), (10, 1, .iconst 1), (11, 3, .putfield 15), (14, 1, .aload_n 0), (15, 1, .iconst 0), (16, 3, .putfield 18), (19, 1, .aload_n 0), (20, 1, .iconst 0), (21, 3, .putfield 22), (24, 1, .aload_n 0), (25, 1, .iconst 0), (26, 3, .putfield 25), (29, 1, .aload_n 0), (30, 2, .bipush 16), (32, 2, .newarray .int), (34, 3, .putfield 28), (37, 1, .aload_n 0), (38, 2, .bipush 16), (40, 2, .newarray .int), (42, 3, .putfield 32), (45, 1, .aload_n 0), (46, 2, .bipush 16), (48, 2, .newarray .int), (50, 3, .putfield 35), (53, 1, .aload_n 0), (54, 2, .bipush 16), (56, 2, .newarray .int), (58, 3, .putfield 38), (61, 1, .aload_n 0), (62, 2, .bipush 16), (64, 2, .newarray .int), (66, 3, .putfield 41), (69, 1, .aload_n 0), (70, 2, .bipush 16), (72, 2, .newarray .int), (74, 3, .putfield 44), (77, 1, .aload_n 0), (78, 2, .bipush 16), (80, 2, .newarray .int), (82, 3, .putfield 47), (85, 1, .aload_n 0), (86, 2, .bipush 16), (88, 2, .newarray .int), (90, 3, .putfield 50), (93, 1, .aload_n 0), (94, 2, .bipush 16), (96, 2, .newarray .int), (98, 3, .putfield 53), (101, 1, .aload_n 0), (102, 2, .bipush 16), (104, 2, .newarray .int), (106, 3, .putfield 56), (109, 1, .aload_n 0), (110, 2, .bipush 96), (112, 2, .newarray .int), (114, 3, .putfield 59), (117, 1, .aload_n 0), (118, 3, .invokevirtual 62), (121, 1, .return_)]
theorem hX5_init : osDs cX5_init KX5_init := by
  show ∀ q ∈ KX5_init, decode cX5_init q.1 = .ok (q.2.2, q.2.1)
  decide +kernel
def qX5_init (N : Nat) (l0 : Nat) : osM Unit := osbind (osput [5] 0 l0 (.int (0 : Int32))) fun _ => osbind (osput [5] 1 l0 (.int (1 : Int32))) fun _ => osguard ((0 : Int32) = 0 ∨ (0 : Int32) = 1) (osbind (osput [5] 2 l0 (.int (0 : Int32))) fun _ => osbind (osput [5] 3 l0 (.int (0 : Int32))) fun _ => osbind (osput [5] 4 l0 (.int (0 : Int32))) fun _ => osbind (osnew (.inl (0, (16, .inl fun _ => 0)))) fun x2 => osbind (osput [5] 5 l0 (.ref x2)) fun _ => osbind (osnew (.inl (0, (16, .inl fun _ => 0)))) fun x3 => osbind (osput [5] 6 l0 (.ref x3)) fun _ => osbind (osnew (.inl (0, (16, .inl fun _ => 0)))) fun x4 => osbind (osput [5] 7 l0 (.ref x4)) fun _ => osbind (osnew (.inl (0, (16, .inl fun _ => 0)))) fun x5 => osbind (osput [5] 8 l0 (.ref x5)) fun _ => osbind (osnew (.inl (0, (16, .inl fun _ => 0)))) fun x6 => osbind (osput [5] 9 l0 (.ref x6)) fun _ => osbind (osnew (.inl (0, (16, .inl fun _ => 0)))) fun x7 => osbind (osput [5] 10 l0 (.ref x7)) fun _ => osbind (osnew (.inl (0, (16, .inl fun _ => 0)))) fun x8 => osbind (osput [5] 11 l0 (.ref x8)) fun _ => osbind (osnew (.inl (0, (16, .inl fun _ => 0)))) fun x9 => osbind (osput [5] 12 l0 (.ref x9)) fun _ => osbind (osnew (.inl (0, (16, .inl fun _ => 0)))) fun x10 => osbind (osput [5] 13 l0 (.ref x10)) fun _ => osbind (osnew (.inl (0, (16, .inl fun _ => 0)))) fun x11 => osbind (osput [5] 14 l0 (.ref x11)) fun _ => osbind (osnew (.inl (0, (96, .inl fun _ => 0)))) fun x12 => osbind (osput [5] 15 l0 (.ref x12)) fun _ => osbind (osrecv [5] l0 (qX5_clear N l0)) fun _ => osret ())
set_option maxRecDepth 100000 in
set_option maxHeartbeats 4000000 in
theorem sX5_init (N : Nat) (l0 : Nat) : osMet yX5_init cX5_init 1 none 3 66 11 256 (fun _ : Unit => none) [.ref l0] (qX5_init N l0) := by
  refine osMet.of plX5 (Nat.le_of_ble_eq_true rfl) (osW.rw (lv2 := [(0, .ref l0)]) ?_ rfl rfl rfl)
  unfold qX5_init
  refine os_aload_n (i := 0) (q := 0) (v := l0) 0 rfl rfl (hX5_init.at 0 rfl rfl) ?_
  refine os_objInit wd340 wd88 wd89 (Nat.le_of_ble_eq_true rfl) (Nat.le_of_ble_eq_true rfl) (Nat.le_of_ble_eq_true rfl) (hX5_init.at 1 rfl rfl) ?_
  refine os_aload_n (i := 0) (q := 0) (v := l0) 0 rfl rfl (hX5_init.at 2 rfl rfl) ?_
  refine os_iconst (i := 0) (v := (0 : Int32)) rfl (hX5_init.at 3 rfl rfl) ?_
  refine os_put fX5_9 rfl rfl (hX5_init.at 4 rfl rfl) ?_
  refine os_aload_n (i := 0) (q := 0) (v := l0) 0 rfl rfl (hX5_init.at 5 rfl rfl) ?_
  refine os_iconst (i := 1) (v := (1 : Int32)) rfl (hX5_init.at 6 rfl rfl) ?_
  refine os_put fX5_15 rfl rfl (hX5_init.at 7 rfl rfl) ?_
  refine os_aload_n (i := 0) (q := 0) (v := l0) 0 rfl rfl (hX5_init.at 8 rfl rfl) ?_
  refine os_iconst (i := 0) (v := (0 : Int32)) rfl (hX5_init.at 9 rfl rfl) ?_
  refine os_guard (fun h1 => ?_)
  refine os_put fX5_18 (osz_narrow h1) (osz_fits h1) (hX5_init.at 10 rfl rfl) ?_
  refine os_aload_n (i := 0) (q := 0) (v := l0) 0 rfl rfl (hX5_init.at 11 rfl rfl) ?_
  refine os_iconst (i := 0) (v := (0 : Int32)) rfl (hX5_init.at 12 rfl rfl) ?_
  refine os_put fX5_22 rfl rfl (hX5_init.at 13 rfl rfl) ?_
  refine os_aload_n (i := 0) (q := 0) (v := l0) 0 rfl rfl (hX5_init.at 14 rfl rfl) ?_
  refine os_iconst (i := 0) (v := (0 : Int32)) rfl (hX5_init.at 15 rfl rfl) ?_
  refine os_put fX5_25 rfl rfl (hX5_init.at 16 rfl rfl) ?_
  refine os_aload_n (i := 0) (q := 0) (v := l0) 0 rfl rfl (hX5_init.at 17 rfl rfl) ?_
  refine os_bipush (i := 16) (v := (16 : Int32)) rfl (hX5_init.at 18 rfl rfl) ?_
  refine os_newarray (at9 := .int) (ty := .int) (t := 0) (N := 16) rfl rfl rfl wd248 (fun _ => rfl) (by decide) rfl (Nat.le_of_ble_eq_true rfl) (Nat.le_of_ble_eq_true rfl) (Nat.le_of_ble_eq_true rfl) (hX5_init.at 19 rfl rfl) (fun x2 => ?_)
  refine os_putF fX5_28 rfl (osHd1 rfl rfl) rfl rfl (hX5_init.at 20 rfl rfl) ?_
  refine os_aload_n (i := 0) (q := 0) (v := l0) 0 rfl rfl (hX5_init.at 21 rfl rfl) ?_
  refine os_bipush (i := 16) (v := (16 : Int32)) rfl (hX5_init.at 22 rfl rfl) ?_
  refine os_newarray (at9 := .int) (ty := .int) (t := 0) (N := 16) rfl rfl rfl wd248 (fun _ => rfl) (by decide) rfl (Nat.le_of_ble_eq_true rfl) (Nat.le_of_ble_eq_true rfl) (Nat.le_of_ble_eq_true rfl) (hX5_init.at 23 rfl rfl) (fun x3 => ?_)
  refine os_putF fX5_32 rfl (osHd1 rfl rfl) rfl rfl (hX5_init.at 24 rfl rfl) ?_
  refine os_aload_n (i := 0) (q := 0) (v := l0) 0 rfl rfl (hX5_init.at 25 rfl rfl) ?_
  refine os_bipush (i := 16) (v := (16 : Int32)) rfl (hX5_init.at 26 rfl rfl) ?_
  refine os_newarray (at9 := .int) (ty := .int) (t := 0) (N := 16) rfl rfl rfl wd248 (fun _ => rfl) (by decide) rfl (Nat.le_of_ble_eq_true rfl) (Nat.le_of_ble_eq_true rfl) (Nat.le_of_ble_eq_true rfl) (hX5_init.at 27 rfl rfl) (fun x4 => ?_)
  refine os_putF fX5_35 rfl (osHd1 rfl rfl) rfl rfl (hX5_init.at 28 rfl rfl) ?_
  refine os_aload_n (i := 0) (q := 0) (v := l0) 0 rfl rfl (hX5_init.at 29 rfl rfl) ?_
  refine os_bipush (i := 16) (v := (16 : Int32)) rfl (hX5_init.at 30 rfl rfl) ?_
  refine os_newarray (at9 := .int) (ty := .int) (t := 0) (N := 16) rfl rfl rfl wd248 (fun _ => rfl) (by decide) rfl (Nat.le_of_ble_eq_true rfl) (Nat.le_of_ble_eq_true rfl) (Nat.le_of_ble_eq_true rfl) (hX5_init.at 31 rfl rfl) (fun x5 => ?_)
  refine os_putF fX5_38 rfl (osHd1 rfl rfl) rfl rfl (hX5_init.at 32 rfl rfl) ?_
  refine os_aload_n (i := 0) (q := 0) (v := l0) 0 rfl rfl (hX5_init.at 33 rfl rfl) ?_
  refine os_bipush (i := 16) (v := (16 : Int32)) rfl (hX5_init.at 34 rfl rfl) ?_
  refine os_newarray (at9 := .int) (ty := .int) (t := 0) (N := 16) rfl rfl rfl wd248 (fun _ => rfl) (by decide) rfl (Nat.le_of_ble_eq_true rfl) (Nat.le_of_ble_eq_true rfl) (Nat.le_of_ble_eq_true rfl) (hX5_init.at 35 rfl rfl) (fun x6 => ?_)
  refine os_putF fX5_41 rfl (osHd1 rfl rfl) rfl rfl (hX5_init.at 36 rfl rfl) ?_
  refine os_aload_n (i := 0) (q := 0) (v := l0) 0 rfl rfl (hX5_init.at 37 rfl rfl) ?_
  refine os_bipush (i := 16) (v := (16 : Int32)) rfl (hX5_init.at 38 rfl rfl) ?_
  refine os_newarray (at9 := .int) (ty := .int) (t := 0) (N := 16) rfl rfl rfl wd248 (fun _ => rfl) (by decide) rfl (Nat.le_of_ble_eq_true rfl) (Nat.le_of_ble_eq_true rfl) (Nat.le_of_ble_eq_true rfl) (hX5_init.at 39 rfl rfl) (fun x7 => ?_)
  refine os_putF fX5_44 rfl (osHd1 rfl rfl) rfl rfl (hX5_init.at 40 rfl rfl) ?_
  refine os_aload_n (i := 0) (q := 0) (v := l0) 0 rfl rfl (hX5_init.at 41 rfl rfl) ?_
  refine os_bipush (i := 16) (v := (16 : Int32)) rfl (hX5_init.at 42 rfl rfl) ?_
  refine os_newarray (at9 := .int) (ty := .int) (t := 0) (N := 16) rfl rfl rfl wd248 (fun _ => rfl) (by decide) rfl (Nat.le_of_ble_eq_true rfl) (Nat.le_of_ble_eq_true rfl) (Nat.le_of_ble_eq_true rfl) (hX5_init.at 43 rfl rfl) (fun x8 => ?_)
  refine os_putF fX5_47 rfl (osHd1 rfl rfl) rfl rfl (hX5_init.at 44 rfl rfl) ?_
  refine os_aload_n (i := 0) (q := 0) (v := l0) 0 rfl rfl (hX5_init.at 45 rfl rfl) ?_
  refine os_bipush (i := 16) (v := (16 : Int32)) rfl (hX5_init.at 46 rfl rfl) ?_
  refine os_newarray (at9 := .int) (ty := .int) (t := 0) (N := 16) rfl rfl rfl wd248 (fun _ => rfl) (by decide) rfl (Nat.le_of_ble_eq_true rfl) (Nat.le_of_ble_eq_true rfl) (Nat.le_of_ble_eq_true rfl) (hX5_init.at 47 rfl rfl) (fun x9 => ?_)
  refine os_putF fX5_50 rfl (osHd1 rfl rfl) rfl rfl (hX5_init.at 48 rfl rfl) ?_
  refine os_aload_n (i := 0) (q := 0) (v := l0) 0 rfl rfl (hX5_init.at 49 rfl rfl) ?_
  refine os_bipush (i := 16) (v := (16 : Int32)) rfl (hX5_init.at 50 rfl rfl) ?_
  refine os_newarray (at9 := .int) (ty := .int) (t := 0) (N := 16) rfl rfl rfl wd248 (fun _ => rfl) (by decide) rfl (Nat.le_of_ble_eq_true rfl) (Nat.le_of_ble_eq_true rfl) (Nat.le_of_ble_eq_true rfl) (hX5_init.at 51 rfl rfl) (fun x10 => ?_)
  refine os_putF fX5_53 rfl (osHd1 rfl rfl) rfl rfl (hX5_init.at 52 rfl rfl) ?_
  refine os_aload_n (i := 0) (q := 0) (v := l0) 0 rfl rfl (hX5_init.at 53 rfl rfl) ?_
  refine os_bipush (i := 16) (v := (16 : Int32)) rfl (hX5_init.at 54 rfl rfl) ?_
  refine os_newarray (at9 := .int) (ty := .int) (t := 0) (N := 16) rfl rfl rfl wd248 (fun _ => rfl) (by decide) rfl (Nat.le_of_ble_eq_true rfl) (Nat.le_of_ble_eq_true rfl) (Nat.le_of_ble_eq_true rfl) (hX5_init.at 55 rfl rfl) (fun x11 => ?_)
  refine os_putF fX5_56 rfl (osHd1 rfl rfl) rfl rfl (hX5_init.at 56 rfl rfl) ?_
  refine os_aload_n (i := 0) (q := 0) (v := l0) 0 rfl rfl (hX5_init.at 57 rfl rfl) ?_
  refine os_bipush (i := 96) (v := (96 : Int32)) rfl (hX5_init.at 58 rfl rfl) ?_
  refine os_newarray (at9 := .int) (ty := .int) (t := 0) (N := 96) rfl rfl rfl wd248 (fun _ => rfl) (by decide) rfl (Nat.le_of_ble_eq_true rfl) (Nat.le_of_ble_eq_true rfl) (Nat.le_of_ble_eq_true rfl) (hX5_init.at 59 rfl rfl) (fun x12 => ?_)
  refine os_putF fX5_59 rfl (osHd1 rfl rfl) rfl rfl (hX5_init.at 60 rfl rfl) ?_
  refine os_aload_n (i := 0) (q := 0) (v := l0) 0 rfl rfl (hX5_init.at 61 rfl rfl) ?_
  refine os_callV (cis := [5]) (b := l0) (As := []) (st := []) (st' := (fun _ => [])) sl5_X5_clear_X5_clear mdX5_clear wd341 wd342 (sX5_clear N l0 ) rfl rfl (fun _ => rfl) (Nat.le_of_ble_eq_true rfl) (Nat.le_of_ble_eq_true rfl) (Nat.le_of_ble_eq_true rfl) rfl (Nat.le_of_ble_eq_true rfl) rfl (Nat.le_of_ble_eq_true rfl) (hX5_init.at 62 rfl rfl) (fun _ => ?_)
  exact os_vret (Nat.le_of_ble_eq_true rfl) (Nat.le_of_ble_eq_true rfl) (hX5_init.at 63 rfl rfl).1
