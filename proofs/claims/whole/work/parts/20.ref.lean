-- X10_thrown
def KX10_thrown : List (Nat × Nat × Instr) := [(0, 1, .aload_n 0), (1, 3, .getfield 82), (4, 1, .ireturn)]
theorem hX10_thrown : osDs cX10_thrown KX10_thrown := by
  show ∀ q ∈ KX10_thrown, decode cX10_thrown q.1 = .ok (q.2.2, q.2.1)
  decide +kernel
def qX10_thrown (N : Nat) (l0 : Nat) : osM Int32 := osbind (osgI [8] 0 l0) fun x1 => osret x1
set_option maxRecDepth 100000 in
set_option maxHeartbeats 4000000 in
theorem sX10_thrown (N : Nat) (l0 : Nat) : osMet yX10_thrown cX10_thrown 1 (some .int) 0 0 0 0 (fun r : Int32 => some (.int r)) [.ref l0] (qX10_thrown N l0) := by
  refine osMet.of plX10 (Nat.le_of_ble_eq_true rfl) (osW.rw (lv2 := [(0, .ref l0)]) ?_ rfl rfl rfl)
  unfold qX10_thrown
  refine os_aload_n (i := 0) (q := 0) (v := l0) 0 rfl rfl (hX10_thrown.at 0 rfl rfl) ?_
  refine os_getI fX10_82 (hX10_thrown.at 1 rfl rfl) (fun x1 => ?_)
  exact os_iret (Nat.le_of_ble_eq_true rfl) (Nat.le_of_ble_eq_true rfl) (hX10_thrown.at 2 rfl rfl).1
-- X10_refuse
def KX10_refuse : List (Nat × Nat × Instr) := [(0, 1, .aload_n 0), (1, 1, .iload_n 1), (2, 3, .putfield 82), (5, 1, .iconst 0), (6, 1, .ireturn)]
theorem hX10_refuse : osDs cX10_refuse KX10_refuse := by
  show ∀ q ∈ KX10_refuse, decode cX10_refuse q.1 = .ok (q.2.2, q.2.1)
  decide +kernel
def qX10_refuse (N : Nat) (l0 : Nat) (l1 : Int32) : osM Int32 := osbind (osput [8] 0 l0 (.int l1)) fun _ => osret (0 : Int32)
set_option maxRecDepth 100000 in
set_option maxHeartbeats 4000000 in
theorem sX10_refuse (N : Nat) (l0 : Nat) (l1 : Int32) : osMet yX10_refuse cX10_refuse 2 (some .int) 0 0 0 0 (fun r : Int32 => some (.int r)) [.ref l0, .int l1] (qX10_refuse N l0 l1) := by
  refine osMet.of plX10 (Nat.le_of_ble_eq_true rfl) (osW.rw (lv2 := [(0, .ref l0), (1, .int l1)]) ?_ rfl rfl rfl)
  unfold qX10_refuse
  refine os_aload_n (i := 0) (q := 0) (v := l0) 0 rfl rfl (hX10_refuse.at 0 rfl rfl) ?_
  refine os_iload_n (i := 1) (q := 1) (v := l1) 1 rfl rfl (hX10_refuse.at 1 rfl rfl) ?_
  refine os_put fX10_82 rfl rfl (hX10_refuse.at 2 rfl rfl) ?_
  refine os_iconst (i := 0) (v := (0 : Int32)) rfl (hX10_refuse.at 3 rfl rfl) ?_
  exact os_iret (Nat.le_of_ble_eq_true rfl) (Nat.le_of_ble_eq_true rfl) (hX10_refuse.at 4 rfl rfl).1
-- X10_told
def KX10_told : List (Nat × Nat × Instr) := [(0, 1, .aload_n 0), (1, 1, .iconst 0), (2, 3, .putfield 82), (5, 1, .iload_n 1), (6, 1, .ireturn)]
theorem hX10_told : osDs cX10_told KX10_told := by
  show ∀ q ∈ KX10_told, decode cX10_told q.1 = .ok (q.2.2, q.2.1)
  decide +kernel
def qX10_told (N : Nat) (l0 : Nat) (l1 : Int32) : osM Int32 := osbind (osput [8] 0 l0 (.int (0 : Int32))) fun _ => osret l1
set_option maxRecDepth 100000 in
set_option maxHeartbeats 4000000 in
theorem sX10_told (N : Nat) (l0 : Nat) (l1 : Int32) : osMet yX10_told cX10_told 2 (some .int) 0 0 0 0 (fun r : Int32 => some (.int r)) [.ref l0, .int l1] (qX10_told N l0 l1) := by
  refine osMet.of plX10 (Nat.le_of_ble_eq_true rfl) (osW.rw (lv2 := [(0, .ref l0), (1, .int l1)]) ?_ rfl rfl rfl)
  unfold qX10_told
  refine os_aload_n (i := 0) (q := 0) (v := l0) 0 rfl rfl (hX10_told.at 0 rfl rfl) ?_
  refine os_iconst (i := 0) (v := (0 : Int32)) rfl (hX10_told.at 1 rfl rfl) ?_
  refine os_put fX10_82 rfl rfl (hX10_told.at 2 rfl rfl) ?_
  refine os_iload_n (i := 1) (q := 1) (v := l1) 1 rfl rfl (hX10_told.at 3 rfl rfl) ?_
  exact os_iret (Nat.le_of_ble_eq_true rfl) (Nat.le_of_ble_eq_true rfl) (hX10_told.at 4 rfl rfl).1
-- X10_isRefused
def KX10_isRefused : List (Nat × Nat × Instr) := [(0, 1, .aload_n 0), (1, 1, .iload_n 1), (2, 3, .putfield 82), (5, 1, .iload_n 1), (6, 3, .ifCond .le 7), (9, 1, .iconst 1), (10, 3, .goto 4), (13, 1, .iconst 0), (14, 1, .ireturn)]
theorem hX10_isRefused : osDs cX10_isRefused KX10_isRefused := by
  show ∀ q ∈ KX10_isRefused, decode cX10_isRefused q.1 = .ok (q.2.2, q.2.1)
  decide +kernel
def qX10_isRefused_14 (N : Nat) (k0 : Int32) : osM Int32 := osretZ k0
def qX10_isRefused (N : Nat) (l0 : Nat) (l1 : Int32) : osM Int32 := osbind (osput [8] 0 l0 (.int l1)) fun _ => osite (l1 ≤ 0) (qX10_isRefused_14 N (0 : Int32)) (qX10_isRefused_14 N (1 : Int32))
set_option maxRecDepth 100000 in
set_option maxHeartbeats 4000000 in
theorem sX10_isRefused_14 (N : Nat) (k0 : Int32) : osW (osFinM (fun r : Int32 => some (.int r)) 0 0) yX10_isRefused cX10_isRefused 2 (some .boolean) [] { frames := 0, cells := 0, slots := 0, locals := 0 } 0 0 14 [] [.int k0] (qX10_isRefused_14 N k0) := by
  unfold qX10_isRefused_14
  exact os_zret (Nat.le_of_ble_eq_true rfl) (Nat.le_of_ble_eq_true rfl) (hX10_isRefused.at 8 rfl rfl).1
set_option maxRecDepth 100000 in
set_option maxHeartbeats 4000000 in
theorem sX10_isRefused (N : Nat) (l0 : Nat) (l1 : Int32) : osMet yX10_isRefused cX10_isRefused 2 (some .boolean) 0 0 0 0 (fun r : Int32 => some (.int r)) [.ref l0, .int l1] (qX10_isRefused N l0 l1) := by
  refine osMet.of plX10 (Nat.le_of_ble_eq_true rfl) (osW.rw (lv2 := [(0, .ref l0), (1, .int l1)]) ?_ rfl rfl rfl)
  unfold qX10_isRefused
  refine os_aload_n (i := 0) (q := 0) (v := l0) 0 rfl rfl (hX10_isRefused.at 0 rfl rfl) ?_
  refine os_iload_n (i := 1) (q := 1) (v := l1) 1 rfl rfl (hX10_isRefused.at 1 rfl rfl) ?_
  refine os_put fX10_82 rfl rfl (hX10_isRefused.at 2 rfl rfl) ?_
  refine os_iload_n (i := 1) (q := 1) (v := l1) 1 rfl rfl (hX10_isRefused.at 3 rfl rfl) ?_
  refine os_if_le (off := 7) (tgt := 13) rfl (hX10_isRefused.at 4 rfl rfl) ?_ ?_
  · refine os_iconst (i := 0) (v := (0 : Int32)) rfl (hX10_isRefused.at 7 rfl rfl) ?_
    exact osW.sub [] rfl (sX10_isRefused_14 N (0 : Int32))
  · refine os_iconst (i := 1) (v := (1 : Int32)) rfl (hX10_isRefused.at 5 rfl rfl) ?_
    refine os_goto (off := 4) (tgt := 14) rfl (hX10_isRefused.at 6 rfl rfl) ?_
    exact osW.sub [] rfl (sX10_isRefused_14 N (1 : Int32))
-- X10_in
def KX10_in : List (Nat × Nat × Instr) := [(0, 1, .iload_n 0), (1, 1, .iload_n 1), (2, 3, .if_icmp .lt 12), (5, 1, .iload_n 0), (6, 1, .iload_n 2), (7, 3, .if_icmp .gt 7), (10, 1, .iconst 1), (11, 3, .goto 4), (14, 1, .iconst 0), (15, 1, .ireturn)]
theorem hX10_in : osDs cX10_in KX10_in := by
  show ∀ q ∈ KX10_in, decode cX10_in q.1 = .ok (q.2.2, q.2.1)
  decide +kernel
def qX10_in_15 (N : Nat) (k0 : Int32) : osM Int32 := osretZ k0
def qX10_in_14 (N : Nat) : osM Int32 := qX10_in_15 N (0 : Int32)
def qX10_in (N : Nat) (l0 : Int32) (l1 : Int32) (l2 : Int32) : osM Int32 := osite (l0 < l1) (qX10_in_14 N ) (osite (l2 < l0) (qX10_in_14 N ) (qX10_in_15 N (1 : Int32)))
set_option maxRecDepth 100000 in
set_option maxHeartbeats 4000000 in
theorem sX10_in_15 (N : Nat) (k0 : Int32) : osW (osFinM (fun r : Int32 => some (.int r)) 0 0) yX10_in cX10_in 3 (some .boolean) [] { frames := 0, cells := 0, slots := 0, locals := 0 } 0 0 15 [] [.int k0] (qX10_in_15 N k0) := by
  unfold qX10_in_15
  exact os_zret (Nat.le_of_ble_eq_true rfl) (Nat.le_of_ble_eq_true rfl) (hX10_in.at 9 rfl rfl).1
set_option maxRecDepth 100000 in
set_option maxHeartbeats 4000000 in
theorem sX10_in_14 (N : Nat) : osW (osFinM (fun r : Int32 => some (.int r)) 0 0) yX10_in cX10_in 3 (some .boolean) [] { frames := 0, cells := 0, slots := 0, locals := 0 } 0 0 14 [] [] (qX10_in_14 N) := by
  unfold qX10_in_14
  refine os_iconst (i := 0) (v := (0 : Int32)) rfl (hX10_in.at 8 rfl rfl) ?_
  exact osW.sub [] rfl (sX10_in_15 N (0 : Int32))
set_option maxRecDepth 100000 in
set_option maxHeartbeats 4000000 in
theorem sX10_in (N : Nat) (l0 : Int32) (l1 : Int32) (l2 : Int32) : osMet yX10_in cX10_in 3 (some .boolean) 0 0 0 0 (fun r : Int32 => some (.int r)) [.int l0, .int l1, .int l2] (qX10_in N l0 l1 l2) := by
  refine osMet.of plX10 (Nat.le_of_ble_eq_true rfl) (osW.rw (lv2 := [(0, .int l0), (1, .int l1), (2, .int l2)]) ?_ rfl rfl rfl)
  unfold qX10_in
  refine os_iload_n (i := 0) (q := 0) (v := l0) 0 rfl rfl (hX10_in.at 0 rfl rfl) ?_
  refine os_iload_n (i := 1) (q := 1) (v := l1) 1 rfl rfl (hX10_in.at 1 rfl rfl) ?_
  refine os_icmp_lt (off := 12) (tgt := 14) rfl (hX10_in.at 2 rfl rfl) ?_ ?_
  · exact osW.sub [] rfl (sX10_in_14 N )
  · refine os_iload_n (i := 0) (q := 0) (v := l0) 0 rfl rfl (hX10_in.at 3 rfl rfl) ?_
    refine os_iload_n (i := 2) (q := 2) (v := l2) 2 rfl rfl (hX10_in.at 4 rfl rfl) ?_
    refine os_icmp_gt (off := 7) (tgt := 14) rfl (hX10_in.at 5 rfl rfl) ?_ ?_
    · exact osW.sub [] rfl (sX10_in_14 N )
    · refine os_iconst (i := 1) (v := (1 : Int32)) rfl (hX10_in.at 6 rfl rfl) ?_
      refine os_goto (off := 4) (tgt := 15) rfl (hX10_in.at 7 rfl rfl) ?_
      exact osW.sub [] rfl (sX10_in_15 N (1 : Int32))
-- X10_has
def KX10_has : List (Nat × Nat × Instr) := [(0, 1, .iload_n 0), (1, 1, .iload_n 1), (2, 1, .ishr), (3, 1, .iconst 1), (4, 1, .iand), (5, 1, .iconst 1), (6, 3, .if_icmp .ne 7), (9, 1, .iconst 1), (10, 3, .goto 4), (13, 1, .iconst 0), (14, 1, .ireturn)]
theorem hX10_has : osDs cX10_has KX10_has := by
  show ∀ q ∈ KX10_has, decode cX10_has q.1 = .ok (q.2.2, q.2.1)
  decide +kernel
def qX10_has_14 (N : Nat) (k0 : Int32) : osM Int32 := osretZ k0
def qX10_has (N : Nat) (l0 : Int32) (l1 : Int32) : osM Int32 := osite (((osshr l0 l1) &&& (1 : Int32)) = (1 : Int32)) (qX10_has_14 N (1 : Int32)) (qX10_has_14 N (0 : Int32))
set_option maxRecDepth 100000 in
set_option maxHeartbeats 4000000 in
theorem sX10_has_14 (N : Nat) (k0 : Int32) : osW (osFinM (fun r : Int32 => some (.int r)) 0 0) yX10_has cX10_has 2 (some .boolean) [] { frames := 0, cells := 0, slots := 0, locals := 0 } 0 0 14 [] [.int k0] (qX10_has_14 N k0) := by
  unfold qX10_has_14
  exact os_zret (Nat.le_of_ble_eq_true rfl) (Nat.le_of_ble_eq_true rfl) (hX10_has.at 10 rfl rfl).1
set_option maxRecDepth 100000 in
set_option maxHeartbeats 4000000 in
theorem sX10_has (N : Nat) (l0 : Int32) (l1 : Int32) : osMet yX10_has cX10_has 2 (some .boolean) 0 0 0 0 (fun r : Int32 => some (.int r)) [.int l0, .int l1] (qX10_has N l0 l1) := by
  refine osMet.of plX10 (Nat.le_of_ble_eq_true rfl) (osW.rw (lv2 := [(0, .int l0), (1, .int l1)]) ?_ rfl rfl rfl)
  unfold qX10_has
  refine os_iload_n (i := 0) (q := 0) (v := l0) 0 rfl rfl (hX10_has.at 0 rfl rfl) ?_
  refine os_iload_n (i := 1) (q := 1) (v := l1) 1 rfl rfl (hX10_has.at 1 rfl rfl) ?_
  refine os_ishr (hX10_has.at 2 rfl rfl) ?_
  refine os_iconst (i := 1) (v := (1 : Int32)) rfl (hX10_has.at 3 rfl rfl) ?_
  refine os_iand (hX10_has.at 4 rfl rfl) ?_
  refine os_iconst (i := 1) (v := (1 : Int32)) rfl (hX10_has.at 5 rfl rfl) ?_
  refine os_icmp_ne (off := 7) (tgt := 13) rfl (hX10_has.at 6 rfl rfl) ?_ ?_
  · refine os_iconst (i := 0) (v := (0 : Int32)) rfl (hX10_has.at 9 rfl rfl) ?_
    exact osW.sub [] rfl (sX10_has_14 N (0 : Int32))
  · refine os_iconst (i := 1) (v := (1 : Int32)) rfl (hX10_has.at 7 rfl rfl) ?_
    refine os_goto (off := 4) (tgt := 14) rfl (hX10_has.at 8 rfl rfl) ?_
    exact osW.sub [] rfl (sX10_has_14 N (1 : Int32))
-- X10_lesser
def KX10_lesser : List (Nat × Nat × Instr) := [(0, 1, .iload_n 0), (1, 1, .iload_n 1), (2, 3, .if_icmp .ge 7), (5, 1, .iload_n 0), (6, 3, .goto 4), (9, 1, .iload_n 1), (10, 1, .ireturn)]
theorem hX10_lesser : osDs cX10_lesser KX10_lesser := by
  show ∀ q ∈ KX10_lesser, decode cX10_lesser q.1 = .ok (q.2.2, q.2.1)
  decide +kernel
def qX10_lesser_10 (N : Nat) (k0 : Int32) : osM Int32 := osret k0
def qX10_lesser (N : Nat) (l0 : Int32) (l1 : Int32) : osM Int32 := osite (l1 ≤ l0) (qX10_lesser_10 N l1) (qX10_lesser_10 N l0)
set_option maxRecDepth 100000 in
set_option maxHeartbeats 4000000 in
theorem sX10_lesser_10 (N : Nat) (k0 : Int32) : osW (osFinM (fun r : Int32 => some (.int r)) 0 0) yX10_lesser cX10_lesser 2 (some .int) [] { frames := 0, cells := 0, slots := 0, locals := 0 } 0 0 10 [] [.int k0] (qX10_lesser_10 N k0) := by
  unfold qX10_lesser_10
  exact os_iret (Nat.le_of_ble_eq_true rfl) (Nat.le_of_ble_eq_true rfl) (hX10_lesser.at 6 rfl rfl).1
set_option maxRecDepth 100000 in
set_option maxHeartbeats 4000000 in
theorem sX10_lesser (N : Nat) (l0 : Int32) (l1 : Int32) : osMet yX10_lesser cX10_lesser 2 (some .int) 0 0 0 0 (fun r : Int32 => some (.int r)) [.int l0, .int l1] (qX10_lesser N l0 l1) := by
  refine osMet.of plX10 (Nat.le_of_ble_eq_true rfl) (osW.rw (lv2 := [(0, .int l0), (1, .int l1)]) ?_ rfl rfl rfl)
  unfold qX10_lesser
  refine os_iload_n (i := 0) (q := 0) (v := l0) 0 rfl rfl (hX10_lesser.at 0 rfl rfl) ?_
  refine os_iload_n (i := 1) (q := 1) (v := l1) 1 rfl rfl (hX10_lesser.at 1 rfl rfl) ?_
  refine os_icmp_ge (off := 7) (tgt := 9) rfl (hX10_lesser.at 2 rfl rfl) ?_ ?_
  · refine os_iload_n (i := 1) (q := 1) (v := l1) 1 rfl rfl (hX10_lesser.at 5 rfl rfl) ?_
    exact osW.sub [] rfl (sX10_lesser_10 N l1)
  · refine os_iload_n (i := 0) (q := 0) (v := l0) 0 rfl rfl (hX10_lesser.at 3 rfl rfl) ?_
    refine os_goto (off := 4) (tgt := 10) rfl (hX10_lesser.at 4 rfl rfl) ?_
    exact osW.sub [] rfl (sX10_lesser_10 N l0)
-- X10_allHold
def KX10_allHold : List (Nat × Nat × Instr) := [(0, 1, .iconst 0), (1, 1, .istore_n 1), (2, 1, .iload_n 1), (3, 2, .bipush 16), (5, 3, .if_icmp .ge 32), (8, 1, .aload_n 0), (9, 2, .bipush 117), (11, 1, .iload_n 1), (12, 1, .iadd), (13, 1, .iconst 0), (14, 1, .iastore), (15, 1, .aload_n 0), (16, 3, .sipush 133), (19, 1, .iload_n 1), (20, 1, .iadd), (21, 1, .iconst (-1)), (22, 1, .iastore), (23, 1, .aload_n 0), (24, 3, .sipush 149), (27, 1, .iload_n 1), (28, 1, .iadd), (29, 1, .iconst (-1)), (30, 1, .iastore), (31, 3, .iinc 1 1), (34, 3, .goto (-32)), (37, 1, .return_)]
theorem hX10_allHold : osDs cX10_allHold KX10_allHold := by
  show ∀ q ∈ KX10_allHold, decode cX10_allHold q.1 = .ok (q.2.2, q.2.1)
  decide +kernel
def bX10_allHold_2 (N : Nat) (c2 : Nat × Int32 → osM Unit) (l0 : Nat) (l1 : Int32) : osM Unit := osite ((16 : Int32) ≤ l1) (osret ()) (osbind (ossI 0 l0 ((117 : Int32) + l1) (0 : Int32)) fun _ => osbind (ossI 0 l0 ((133 : Int32) + l1) (-1 : Int32)) fun _ => osbind (ossI 0 l0 ((149 : Int32) + l1) (-1 : Int32)) fun _ => c2 (l0, (l1 + (1 : Int32))))
def qX10_allHold_2 (N : Nat) : Nat × Int32 → osM Unit := osloop (fun ih p => bX10_allHold_2 N ih p.1 p.2) N
def qX10_allHold (N : Nat) (l0 : Nat) : osM Unit := qX10_allHold_2 N (l0, (0 : Int32))
set_option maxRecDepth 100000 in
set_option maxHeartbeats 4000000 in
theorem tX10_allHold_2 (N : Nat) (c2 : Nat × Int32 → osM Unit) (g2 : ∀ (l0 : Nat) (l1 : Int32), osW (osFinM (fun _ : Unit => none) 0 0) yX10_allHold cX10_allHold 2 none [] { frames := 0, cells := 0, slots := 0, locals := 0 } 0 0 2 [(0, .ref l0), (1, .int l1)] [] (c2 (l0, l1))) (l0 : Nat) (l1 : Int32) : osW (osFinM (fun _ : Unit => none) 0 0) yX10_allHold cX10_allHold 2 none [] { frames := 0, cells := 0, slots := 0, locals := 0 } 0 0 2 [(0, .ref l0), (1, .int l1)] [] (bX10_allHold_2 N c2 l0 l1) := by
  unfold bX10_allHold_2
  refine os_iload_n (i := 1) (q := 1) (v := l1) 1 rfl rfl (hX10_allHold.at 2 rfl rfl) ?_
  refine os_bipush (i := 16) (v := (16 : Int32)) rfl (hX10_allHold.at 3 rfl rfl) ?_
  refine os_icmp_ge (off := 32) (tgt := 37) rfl (hX10_allHold.at 4 rfl rfl) ?_ ?_
  · exact os_vret (Nat.le_of_ble_eq_true rfl) (Nat.le_of_ble_eq_true rfl) (hX10_allHold.at 25 rfl rfl).1
  · refine os_aload_n (i := 0) (q := 0) (v := l0) 0 rfl rfl (hX10_allHold.at 5 rfl rfl) ?_
    refine os_bipush (i := 117) (v := (117 : Int32)) rfl (hX10_allHold.at 6 rfl rfl) ?_
    refine os_iload_n (i := 1) (q := 1) (v := l1) 1 rfl rfl (hX10_allHold.at 7 rfl rfl) ?_
    refine os_iadd (hX10_allHold.at 8 rfl rfl) ?_
    refine os_iconst (i := 0) (v := (0 : Int32)) rfl (hX10_allHold.at 9 rfl rfl) ?_
    refine os_iastore (hX10_allHold.at 10 rfl rfl) ?_
    refine os_aload_n (i := 0) (q := 0) (v := l0) 0 rfl rfl (hX10_allHold.at 11 rfl rfl) ?_
    refine os_sipush (i := 133) (v := (133 : Int32)) rfl (hX10_allHold.at 12 rfl rfl) ?_
    refine os_iload_n (i := 1) (q := 1) (v := l1) 1 rfl rfl (hX10_allHold.at 13 rfl rfl) ?_
    refine os_iadd (hX10_allHold.at 14 rfl rfl) ?_
    refine os_iconst (i := (-1)) (v := (-1 : Int32)) rfl (hX10_allHold.at 15 rfl rfl) ?_
    refine os_iastore (hX10_allHold.at 16 rfl rfl) ?_
    refine os_aload_n (i := 0) (q := 0) (v := l0) 0 rfl rfl (hX10_allHold.at 17 rfl rfl) ?_
    refine os_sipush (i := 149) (v := (149 : Int32)) rfl (hX10_allHold.at 18 rfl rfl) ?_
    refine os_iload_n (i := 1) (q := 1) (v := l1) 1 rfl rfl (hX10_allHold.at 19 rfl rfl) ?_
    refine os_iadd (hX10_allHold.at 20 rfl rfl) ?_
    refine os_iconst (i := (-1)) (v := (-1 : Int32)) rfl (hX10_allHold.at 21 rfl rfl) ?_
    refine os_iastore (hX10_allHold.at 22 rfl rfl) ?_
    refine os_iinc (i := 1) (d := 1) (x := l1) (v := (1 : Int32)) (lv' := [(1, .int (l1 + (1 : Int32))), (0, .ref l0)]) 1 rfl rfl (Nat.le_of_ble_eq_true rfl) rfl (hX10_allHold.at 23 rfl rfl) ?_
    refine os_goto (off := (-32)) (tgt := 2) rfl (hX10_allHold.at 24 rfl rfl) ?_
    exact osW.sub [1, 0] rfl (g2 l0 (l1 + (1 : Int32)))
set_option maxRecDepth 100000 in
set_option maxHeartbeats 4000000 in
theorem sX10_allHold_2 (N : Nat) (l0 : Nat) (l1 : Int32) : osW (osFinM (fun _ : Unit => none) 0 0) yX10_allHold cX10_allHold 2 none [] { frames := 0, cells := 0, slots := 0, locals := 0 } 0 0 2 [(0, .ref l0), (1, .int l1)] [] (qX10_allHold_2 N (l0, l1)) :=
  osloop_W (lvf := fun p => [(0, .ref p.1), (1, .int p.2)]) (stf := fun p => []) (fun ih g p => tX10_allHold_2 N ih (fun l0 l1 => g (l0, l1)) p.1 p.2) N (l0, l1)
set_option maxRecDepth 100000 in
set_option maxHeartbeats 4000000 in
theorem sX10_allHold (N : Nat) (l0 : Nat) : osMet yX10_allHold cX10_allHold 2 none 0 0 0 0 (fun _ : Unit => none) [.ref l0] (qX10_allHold N l0) := by
  refine osMet.of plX10 (Nat.le_of_ble_eq_true rfl) (osW.rw (lv2 := [(0, .ref l0)]) ?_ rfl rfl rfl)
  unfold qX10_allHold
  refine os_iconst (i := 0) (v := (0 : Int32)) rfl (hX10_allHold.at 0 rfl rfl) ?_
  refine os_istore_n (i := 1) (q := 1) rfl (lv' := [(1, .int (0 : Int32)), (0, .ref l0)]) (Nat.le_of_ble_eq_true rfl) rfl (hX10_allHold.at 1 rfl rfl) ?_
  exact osW.sub [1, 0] rfl (sX10_allHold_2 N l0 (0 : Int32))
-- X10_takesDraft
def KX10_takesDraft : List (Nat × Nat × Instr) := [(0, 1, .iconst 0), (1, 1, .istore_n 1), (2, 1, .iload_n 1), (3, 3, .sipush 261), (6, 3, .if_icmp .ge 21), (9, 1, .aload_n 0), (10, 3, .getfield 16), (13, 1, .iload_n 1), (14, 1, .aload_n 0), (15, 3, .getfield 19), (18, 1, .iload_n 1), (19, 1, .iaload), (20, 1, .iastore), (21, 3, .iinc 1 1), (24, 3, .goto (-22)), (27, 1, .return_)]
theorem hX10_takesDraft : osDs cX10_takesDraft KX10_takesDraft := by
  show ∀ q ∈ KX10_takesDraft, decode cX10_takesDraft q.1 = .ok (q.2.2, q.2.1)
  decide +kernel
def bX10_takesDraft_2 (N : Nat) (c2 : Nat × Int32 → osM Unit) (l0 : Nat) (l1 : Int32) : osM Unit := osite ((261 : Int32) ≤ l1) (osret ()) (osbind (osgR [8] 3 l0) fun x1 => osbind (osgR [8] 4 l0) fun x2 => osbind (osaI 0 x2 l1) fun x3 => osbind (ossI 0 x1 l1 x3) fun _ => c2 (l0, (l1 + (1 : Int32))))
def qX10_takesDraft_2 (N : Nat) : Nat × Int32 → osM Unit := osloop (fun ih p => bX10_takesDraft_2 N ih p.1 p.2) N
def qX10_takesDraft (N : Nat) (l0 : Nat) : osM Unit := qX10_takesDraft_2 N (l0, (0 : Int32))
set_option maxRecDepth 100000 in
set_option maxHeartbeats 4000000 in
theorem tX10_takesDraft_2 (N : Nat) (c2 : Nat × Int32 → osM Unit) (g2 : ∀ (l0 : Nat) (l1 : Int32), osW (osFinM (fun _ : Unit => none) 0 0) yX10_takesDraft cX10_takesDraft 2 none [] { frames := 0, cells := 0, slots := 0, locals := 0 } 0 0 2 [(0, .ref l0), (1, .int l1)] [] (c2 (l0, l1))) (l0 : Nat) (l1 : Int32) : osW (osFinM (fun _ : Unit => none) 0 0) yX10_takesDraft cX10_takesDraft 2 none [] { frames := 0, cells := 0, slots := 0, locals := 0 } 0 0 2 [(0, .ref l0), (1, .int l1)] [] (bX10_takesDraft_2 N c2 l0 l1) := by
  unfold bX10_takesDraft_2
  refine os_iload_n (i := 1) (q := 1) (v := l1) 1 rfl rfl (hX10_takesDraft.at 2 rfl rfl) ?_
  refine os_sipush (i := 261) (v := (261 : Int32)) rfl (hX10_takesDraft.at 3 rfl rfl) ?_
  refine os_icmp_ge (off := 21) (tgt := 27) rfl (hX10_takesDraft.at 4 rfl rfl) ?_ ?_
  · exact os_vret (Nat.le_of_ble_eq_true rfl) (Nat.le_of_ble_eq_true rfl) (hX10_takesDraft.at 15 rfl rfl).1
  · refine os_aload_n (i := 0) (q := 0) (v := l0) 0 rfl rfl (hX10_takesDraft.at 5 rfl rfl) ?_
    refine os_getR fX10_16 (hX10_takesDraft.at 6 rfl rfl) (fun x1 => ?_)
    refine os_iload_n (i := 1) (q := 1) (v := l1) 1 rfl rfl (hX10_takesDraft.at 7 rfl rfl) ?_
    refine os_aload_n (i := 0) (q := 0) (v := l0) 0 rfl rfl (hX10_takesDraft.at 8 rfl rfl) ?_
    refine os_getR fX10_19 (hX10_takesDraft.at 9 rfl rfl) (fun x2 => ?_)
    refine os_iload_n (i := 1) (q := 1) (v := l1) 1 rfl rfl (hX10_takesDraft.at 10 rfl rfl) ?_
    refine os_iaload (hX10_takesDraft.at 11 rfl rfl) (fun x3 => ?_)
    refine os_iastore (hX10_takesDraft.at 12 rfl rfl) ?_
    refine os_iinc (i := 1) (d := 1) (x := l1) (v := (1 : Int32)) (lv' := [(1, .int (l1 + (1 : Int32))), (0, .ref l0)]) 1 rfl rfl (Nat.le_of_ble_eq_true rfl) rfl (hX10_takesDraft.at 13 rfl rfl) ?_
    refine os_goto (off := (-22)) (tgt := 2) rfl (hX10_takesDraft.at 14 rfl rfl) ?_
    exact osW.sub [1, 0] rfl (g2 l0 (l1 + (1 : Int32)))
set_option maxRecDepth 100000 in
set_option maxHeartbeats 4000000 in
theorem sX10_takesDraft_2 (N : Nat) (l0 : Nat) (l1 : Int32) : osW (osFinM (fun _ : Unit => none) 0 0) yX10_takesDraft cX10_takesDraft 2 none [] { frames := 0, cells := 0, slots := 0, locals := 0 } 0 0 2 [(0, .ref l0), (1, .int l1)] [] (qX10_takesDraft_2 N (l0, l1)) :=
  osloop_W (lvf := fun p => [(0, .ref p.1), (1, .int p.2)]) (stf := fun p => []) (fun ih g p => tX10_takesDraft_2 N ih (fun l0 l1 => g (l0, l1)) p.1 p.2) N (l0, l1)
set_option maxRecDepth 100000 in
set_option maxHeartbeats 4000000 in
theorem sX10_takesDraft (N : Nat) (l0 : Nat) : osMet yX10_takesDraft cX10_takesDraft 2 none 0 0 0 0 (fun _ : Unit => none) [.ref l0] (qX10_takesDraft N l0) := by
  refine osMet.of plX10 (Nat.le_of_ble_eq_true rfl) (osW.rw (lv2 := [(0, .ref l0)]) ?_ rfl rfl rfl)
  unfold qX10_takesDraft
  refine os_iconst (i := 0) (v := (0 : Int32)) rfl (hX10_takesDraft.at 0 rfl rfl) ?_
  refine os_istore_n (i := 1) (q := 1) rfl (lv' := [(1, .int (0 : Int32)), (0, .ref l0)]) (Nat.le_of_ble_eq_true rfl) rfl (hX10_takesDraft.at 1 rfl rfl) ?_
  exact osW.sub [1, 0] rfl (sX10_takesDraft_2 N l0 (0 : Int32))
-- X10_laysDraft
def KX10_laysDraft : List (Nat × Nat × Instr) := [(0, 1, .iconst 0), (1, 1, .istore_n 1), (2, 1, .iload_n 1), (3, 3, .sipush 261), (6, 3, .if_icmp .ge 21), (9, 1, .aload_n 0), (10, 3, .getfield 19), (13, 1, .iload_n 1), (14, 1, .aload_n 0), (15, 3, .getfield 16), (18, 1, .iload_n 1), (19, 1, .iaload), (20, 1, .iastore), (21, 3, .iinc 1 1), (24, 3, .goto (-22)), (27, 1, .return_)]
theorem hX10_laysDraft : osDs cX10_laysDraft KX10_laysDraft := by
  show ∀ q ∈ KX10_laysDraft, decode cX10_laysDraft q.1 = .ok (q.2.2, q.2.1)
  decide +kernel
def bX10_laysDraft_2 (N : Nat) (c2 : Nat × Int32 → osM Unit) (l0 : Nat) (l1 : Int32) : osM Unit := osite ((261 : Int32) ≤ l1) (osret ()) (osbind (osgR [8] 4 l0) fun x1 => osbind (osgR [8] 3 l0) fun x2 => osbind (osaI 0 x2 l1) fun x3 => osbind (ossI 0 x1 l1 x3) fun _ => c2 (l0, (l1 + (1 : Int32))))
def qX10_laysDraft_2 (N : Nat) : Nat × Int32 → osM Unit := osloop (fun ih p => bX10_laysDraft_2 N ih p.1 p.2) N
def qX10_laysDraft (N : Nat) (l0 : Nat) : osM Unit := qX10_laysDraft_2 N (l0, (0 : Int32))
set_option maxRecDepth 100000 in
set_option maxHeartbeats 4000000 in
theorem tX10_laysDraft_2 (N : Nat) (c2 : Nat × Int32 → osM Unit) (g2 : ∀ (l0 : Nat) (l1 : Int32), osW (osFinM (fun _ : Unit => none) 0 0) yX10_laysDraft cX10_laysDraft 2 none [] { frames := 0, cells := 0, slots := 0, locals := 0 } 0 0 2 [(0, .ref l0), (1, .int l1)] [] (c2 (l0, l1))) (l0 : Nat) (l1 : Int32) : osW (osFinM (fun _ : Unit => none) 0 0) yX10_laysDraft cX10_laysDraft 2 none [] { frames := 0, cells := 0, slots := 0, locals := 0 } 0 0 2 [(0, .ref l0), (1, .int l1)] [] (bX10_laysDraft_2 N c2 l0 l1) := by
  unfold bX10_laysDraft_2
  refine os_iload_n (i := 1) (q := 1) (v := l1) 1 rfl rfl (hX10_laysDraft.at 2 rfl rfl) ?_
  refine os_sipush (i := 261) (v := (261 : Int32)) rfl (hX10_laysDraft.at 3 rfl rfl) ?_
  refine os_icmp_ge (off := 21) (tgt := 27) rfl (hX10_laysDraft.at 4 rfl rfl) ?_ ?_
  · exact os_vret (Nat.le_of_ble_eq_true rfl) (Nat.le_of_ble_eq_true rfl) (hX10_laysDraft.at 15 rfl rfl).1
  · refine os_aload_n (i := 0) (q := 0) (v := l0) 0 rfl rfl (hX10_laysDraft.at 5 rfl rfl) ?_
    refine os_getR fX10_19 (hX10_laysDraft.at 6 rfl rfl) (fun x1 => ?_)
    refine os_iload_n (i := 1) (q := 1) (v := l1) 1 rfl rfl (hX10_laysDraft.at 7 rfl rfl) ?_
    refine os_aload_n (i := 0) (q := 0) (v := l0) 0 rfl rfl (hX10_laysDraft.at 8 rfl rfl) ?_
    refine os_getR fX10_16 (hX10_laysDraft.at 9 rfl rfl) (fun x2 => ?_)
    refine os_iload_n (i := 1) (q := 1) (v := l1) 1 rfl rfl (hX10_laysDraft.at 10 rfl rfl) ?_
    refine os_iaload (hX10_laysDraft.at 11 rfl rfl) (fun x3 => ?_)
    refine os_iastore (hX10_laysDraft.at 12 rfl rfl) ?_
    refine os_iinc (i := 1) (d := 1) (x := l1) (v := (1 : Int32)) (lv' := [(1, .int (l1 + (1 : Int32))), (0, .ref l0)]) 1 rfl rfl (Nat.le_of_ble_eq_true rfl) rfl (hX10_laysDraft.at 13 rfl rfl) ?_
    refine os_goto (off := (-22)) (tgt := 2) rfl (hX10_laysDraft.at 14 rfl rfl) ?_
    exact osW.sub [1, 0] rfl (g2 l0 (l1 + (1 : Int32)))
set_option maxRecDepth 100000 in
set_option maxHeartbeats 4000000 in
theorem sX10_laysDraft_2 (N : Nat) (l0 : Nat) (l1 : Int32) : osW (osFinM (fun _ : Unit => none) 0 0) yX10_laysDraft cX10_laysDraft 2 none [] { frames := 0, cells := 0, slots := 0, locals := 0 } 0 0 2 [(0, .ref l0), (1, .int l1)] [] (qX10_laysDraft_2 N (l0, l1)) :=
  osloop_W (lvf := fun p => [(0, .ref p.1), (1, .int p.2)]) (stf := fun p => []) (fun ih g p => tX10_laysDraft_2 N ih (fun l0 l1 => g (l0, l1)) p.1 p.2) N (l0, l1)
set_option maxRecDepth 100000 in
set_option maxHeartbeats 4000000 in
theorem sX10_laysDraft (N : Nat) (l0 : Nat) : osMet yX10_laysDraft cX10_laysDraft 2 none 0 0 0 0 (fun _ : Unit => none) [.ref l0] (qX10_laysDraft N l0) := by
  refine osMet.of plX10 (Nat.le_of_ble_eq_true rfl) (osW.rw (lv2 := [(0, .ref l0)]) ?_ rfl rfl rfl)
  unfold qX10_laysDraft
  refine os_iconst (i := 0) (v := (0 : Int32)) rfl (hX10_laysDraft.at 0 rfl rfl) ?_
  refine os_istore_n (i := 1) (q := 1) rfl (lv' := [(1, .int (0 : Int32)), (0, .ref l0)]) (Nat.le_of_ble_eq_true rfl) rfl (hX10_laysDraft.at 1 rfl rfl) ?_
  exact osW.sub [1, 0] rfl (sX10_laysDraft_2 N l0 (0 : Int32))
-- X10_isArea
def KX10_isArea : List (Nat × Nat × Instr) := [(0, 1, .iload_n 1), (1, 1, .iconst 0), (2, 1, .aload_n 0), (3, 3, .getfield 7), (6, 1, .iconst 0), (7, 1, .iaload), (8, 1, .iconst 1), (9, 1, .isub), (10, 3, .invokestatic 95), (13, 1, .ireturn)]
theorem hX10_isArea : osDs cX10_isArea KX10_isArea := by
  show ∀ q ∈ KX10_isArea, decode cX10_isArea q.1 = .ok (q.2.2, q.2.1)
  decide +kernel
def qX10_isArea (N : Nat) (l0 : Nat) (l1 : Int32) : osM Int32 := osbind (osgR [8] 1 l0) fun x1 => osbind (osaI 0 x1 (0 : Int32)) fun x2 => osbind (qX10_in N l1 (0 : Int32) (x2 - (1 : Int32))) fun x3 => osretZ x3
set_option maxRecDepth 100000 in
set_option maxHeartbeats 4000000 in
theorem sX10_isArea (N : Nat) (l0 : Nat) (l1 : Int32) : osMet yX10_isArea cX10_isArea 2 (some .boolean) 1 22 0 0 (fun r : Int32 => some (.int r)) [.ref l0, .int l1] (qX10_isArea N l0 l1) := by
  refine osMet.of plX10 (Nat.le_of_ble_eq_true rfl) (osW.rw (lv2 := [(0, .ref l0), (1, .int l1)]) ?_ rfl rfl rfl)
  unfold qX10_isArea
  refine os_iload_n (i := 1) (q := 1) (v := l1) 1 rfl rfl (hX10_isArea.at 0 rfl rfl) ?_
  refine os_iconst (i := 0) (v := (0 : Int32)) rfl (hX10_isArea.at 1 rfl rfl) ?_
  refine os_aload_n (i := 0) (q := 0) (v := l0) 0 rfl rfl (hX10_isArea.at 2 rfl rfl) ?_
  refine os_getR fX10_7 (hX10_isArea.at 3 rfl rfl) (fun x1 => ?_)
  refine os_iconst (i := 0) (v := (0 : Int32)) rfl (hX10_isArea.at 4 rfl rfl) ?_
  refine os_iaload (hX10_isArea.at 5 rfl rfl) (fun x2 => ?_)
  refine os_iconst (i := 1) (v := (1 : Int32)) rfl (hX10_isArea.at 6 rfl rfl) ?_
  refine os_isub (hX10_isArea.at 7 rfl rfl) ?_
  refine os_callS (As := [.int l1, .int (0 : Int32), .int (x2 - (1 : Int32))]) (st := []) (st' := (fun r => .int r :: [])) mdX10_in wd1770 wd1771 (sX10_in N l1 (0 : Int32) (x2 - (1 : Int32))) rfl rfl (fun _ => rfl) (Nat.le_of_ble_eq_true rfl) (Nat.le_of_ble_eq_true rfl) (Nat.le_of_ble_eq_true rfl) rfl (Nat.le_of_ble_eq_true rfl) rfl (Nat.le_of_ble_eq_true rfl) (hX10_isArea.at 8 rfl rfl) (fun x3 => ?_)
  exact os_zret (Nat.le_of_ble_eq_true rfl) (Nat.le_of_ble_eq_true rfl) (hX10_isArea.at 9 rfl rfl).1
-- X10_isPower
def KX10_isPower : List (Nat × Nat × Instr) := [(0, 1, .iload_n 1), (1, 1, .iconst 0), (2, 1, .aload_n 0), (3, 3, .getfield 7), (6, 1, .iconst 1), (7, 1, .iaload), (8, 1, .iconst 1), (9, 1, .isub), (10, 3, .invokestatic 95), (13, 1, .ireturn)]
theorem hX10_isPower : osDs cX10_isPower KX10_isPower := by
  show ∀ q ∈ KX10_isPower, decode cX10_isPower q.1 = .ok (q.2.2, q.2.1)
  decide +kernel
def qX10_isPower (N : Nat) (l0 : Nat) (l1 : Int32) : osM Int32 := osbind (osgR [8] 1 l0) fun x1 => osbind (osaI 0 x1 (1 : Int32)) fun x2 => osbind (qX10_in N l1 (0 : Int32) (x2 - (1 : Int32))) fun x3 => osretZ x3
set_option maxRecDepth 100000 in
set_option maxHeartbeats 4000000 in
theorem sX10_isPower (N : Nat) (l0 : Nat) (l1 : Int32) : osMet yX10_isPower cX10_isPower 2 (some .boolean) 1 22 0 0 (fun r : Int32 => some (.int r)) [.ref l0, .int l1] (qX10_isPower N l0 l1) := by
  refine osMet.of plX10 (Nat.le_of_ble_eq_true rfl) (osW.rw (lv2 := [(0, .ref l0), (1, .int l1)]) ?_ rfl rfl rfl)
  unfold qX10_isPower
  refine os_iload_n (i := 1) (q := 1) (v := l1) 1 rfl rfl (hX10_isPower.at 0 rfl rfl) ?_
  refine os_iconst (i := 0) (v := (0 : Int32)) rfl (hX10_isPower.at 1 rfl rfl) ?_
  refine os_aload_n (i := 0) (q := 0) (v := l0) 0 rfl rfl (hX10_isPower.at 2 rfl rfl) ?_
  refine os_getR fX10_7 (hX10_isPower.at 3 rfl rfl) (fun x1 => ?_)
  refine os_iconst (i := 1) (v := (1 : Int32)) rfl (hX10_isPower.at 4 rfl rfl) ?_
  refine os_iaload (hX10_isPower.at 5 rfl rfl) (fun x2 => ?_)
  refine os_iconst (i := 1) (v := (1 : Int32)) rfl (hX10_isPower.at 6 rfl rfl) ?_
  refine os_isub (hX10_isPower.at 7 rfl rfl) ?_
  refine os_callS (As := [.int l1, .int (0 : Int32), .int (x2 - (1 : Int32))]) (st := []) (st' := (fun r => .int r :: [])) mdX10_in wd1770 wd1771 (sX10_in N l1 (0 : Int32) (x2 - (1 : Int32))) rfl rfl (fun _ => rfl) (Nat.le_of_ble_eq_true rfl) (Nat.le_of_ble_eq_true rfl) (Nat.le_of_ble_eq_true rfl) rfl (Nat.le_of_ble_eq_true rfl) rfl (Nat.le_of_ble_eq_true rfl) (hX10_isPower.at 8 rfl rfl) (fun x3 => ?_)
  exact os_zret (Nat.le_of_ble_eq_true rfl) (Nat.le_of_ble_eq_true rfl) (hX10_isPower.at 9 rfl rfl).1
-- X10_isUnit
def KX10_isUnit : List (Nat × Nat × Instr) := [(0, 1, .aload_n 0), (1, 2, .bipush 21), (3, 1, .iload_n 1), (4, 1, .iadd), (5, 1, .iaload), (6, 1, .iconst (-1)), (7, 3, .if_icmp .eq 7), (10, 1, .iconst 1), (11, 3, .goto 4), (14, 1, .iconst 0), (15, 1, .ireturn)]
theorem hX10_isUnit : osDs cX10_isUnit KX10_isUnit := by
  show ∀ q ∈ KX10_isUnit, decode cX10_isUnit q.1 = .ok (q.2.2, q.2.1)
  decide +kernel
def qX10_isUnit_15 (N : Nat) (k0 : Int32) : osM Int32 := osretZ k0
def qX10_isUnit (N : Nat) (l0 : Nat) (l1 : Int32) : osM Int32 := osbind (osaI 0 l0 ((21 : Int32) + l1)) fun x1 => osite (x1 = (-1 : Int32)) (qX10_isUnit_15 N (0 : Int32)) (qX10_isUnit_15 N (1 : Int32))
set_option maxRecDepth 100000 in
set_option maxHeartbeats 4000000 in
theorem sX10_isUnit_15 (N : Nat) (k0 : Int32) : osW (osFinM (fun r : Int32 => some (.int r)) 0 0) yX10_isUnit cX10_isUnit 2 (some .boolean) [] { frames := 0, cells := 0, slots := 0, locals := 0 } 0 0 15 [] [.int k0] (qX10_isUnit_15 N k0) := by
  unfold qX10_isUnit_15
  exact os_zret (Nat.le_of_ble_eq_true rfl) (Nat.le_of_ble_eq_true rfl) (hX10_isUnit.at 10 rfl rfl).1
set_option maxRecDepth 100000 in
set_option maxHeartbeats 4000000 in
theorem sX10_isUnit (N : Nat) (l0 : Nat) (l1 : Int32) : osMet yX10_isUnit cX10_isUnit 2 (some .boolean) 0 0 0 0 (fun r : Int32 => some (.int r)) [.ref l0, .int l1] (qX10_isUnit N l0 l1) := by
  refine osMet.of plX10 (Nat.le_of_ble_eq_true rfl) (osW.rw (lv2 := [(0, .ref l0), (1, .int l1)]) ?_ rfl rfl rfl)
  unfold qX10_isUnit
  refine os_aload_n (i := 0) (q := 0) (v := l0) 0 rfl rfl (hX10_isUnit.at 0 rfl rfl) ?_
  refine os_bipush (i := 21) (v := (21 : Int32)) rfl (hX10_isUnit.at 1 rfl rfl) ?_
  refine os_iload_n (i := 1) (q := 1) (v := l1) 1 rfl rfl (hX10_isUnit.at 2 rfl rfl) ?_
  refine os_iadd (hX10_isUnit.at 3 rfl rfl) ?_
  refine os_iaload (hX10_isUnit.at 4 rfl rfl) (fun x1 => ?_)
  refine os_iconst (i := (-1)) (v := (-1 : Int32)) rfl (hX10_isUnit.at 5 rfl rfl) ?_
  refine os_icmp_eq (off := 7) (tgt := 14) rfl (hX10_isUnit.at 6 rfl rfl) ?_ ?_
  · refine os_iconst (i := 0) (v := (0 : Int32)) rfl (hX10_isUnit.at 9 rfl rfl) ?_
    exact osW.sub [] rfl (sX10_isUnit_15 N (0 : Int32))
  · refine os_iconst (i := 1) (v := (1 : Int32)) rfl (hX10_isUnit.at 7 rfl rfl) ?_
    refine os_goto (off := 4) (tgt := 15) rfl (hX10_isUnit.at 8 rfl rfl) ?_
    exact osW.sub [] rfl (sX10_isUnit_15 N (1 : Int32))
-- X10_hasUnit
def KX10_hasUnit : List (Nat × Nat × Instr) := [(0, 1, .aload_n 0), (1, 1, .iload_n 1), (2, 3, .invokevirtual 99), (5, 3, .ifCond .eq 18), (8, 1, .aload_n 0), (9, 3, .getfield 16), (12, 1, .iload_n 1), (13, 3, .invokestatic 103), (16, 3, .ifCond .eq 7), (19, 1, .iconst 1), (20, 3, .goto 4), (23, 1, .iconst 0), (24, 1, .ireturn)]
theorem hX10_hasUnit : osDs cX10_hasUnit KX10_hasUnit := by
  show ∀ q ∈ KX10_hasUnit, decode cX10_hasUnit q.1 = .ok (q.2.2, q.2.1)
  decide +kernel
def qX10_hasUnit_24 (N : Nat) (k0 : Int32) : osM Int32 := osretZ k0
def qX10_hasUnit_23 (N : Nat) : osM Int32 := qX10_hasUnit_24 N (0 : Int32)
def qX10_hasUnit (N : Nat) (l0 : Nat) (l1 : Int32) : osM Int32 := osbind (osrecv [8] l0 (qX10_isArea N l0 l1)) fun x1 => osite (x1 = 0) (qX10_hasUnit_23 N ) (osbind (osgR [8] 3 l0) fun x2 => osbind (qX10_isUnit N x2 l1) fun x3 => osite (x3 = 0) (qX10_hasUnit_23 N ) (qX10_hasUnit_24 N (1 : Int32)))
set_option maxRecDepth 100000 in
set_option maxHeartbeats 4000000 in
theorem sX10_hasUnit_24 (N : Nat) (k0 : Int32) : osW (osFinM (fun r : Int32 => some (.int r)) 0 0) yX10_hasUnit cX10_hasUnit 2 (some .boolean) [] { frames := 2, cells := 0, slots := 0, locals := 43 } 0 0 24 [] [.int k0] (qX10_hasUnit_24 N k0) := by
  unfold qX10_hasUnit_24
  exact os_zret (Nat.le_of_ble_eq_true rfl) (Nat.le_of_ble_eq_true rfl) (hX10_hasUnit.at 12 rfl rfl).1
set_option maxRecDepth 100000 in
set_option maxHeartbeats 4000000 in
theorem sX10_hasUnit_23 (N : Nat) : osW (osFinM (fun r : Int32 => some (.int r)) 0 0) yX10_hasUnit cX10_hasUnit 2 (some .boolean) [] { frames := 2, cells := 0, slots := 0, locals := 43 } 0 0 23 [] [] (qX10_hasUnit_23 N) := by
  unfold qX10_hasUnit_23
  refine os_iconst (i := 0) (v := (0 : Int32)) rfl (hX10_hasUnit.at 11 rfl rfl) ?_
  exact osW.sub [] rfl (sX10_hasUnit_24 N (0 : Int32))
set_option maxRecDepth 100000 in
set_option maxHeartbeats 4000000 in
theorem sX10_hasUnit (N : Nat) (l0 : Nat) (l1 : Int32) : osMet yX10_hasUnit cX10_hasUnit 2 (some .boolean) 2 43 0 0 (fun r : Int32 => some (.int r)) [.ref l0, .int l1] (qX10_hasUnit N l0 l1) := by
  refine osMet.of plX10 (Nat.le_of_ble_eq_true rfl) (osW.rw (lv2 := [(0, .ref l0), (1, .int l1)]) ?_ rfl rfl rfl)
  unfold qX10_hasUnit
  refine os_aload_n (i := 0) (q := 0) (v := l0) 0 rfl rfl (hX10_hasUnit.at 0 rfl rfl) ?_
  refine os_iload_n (i := 1) (q := 1) (v := l1) 1 rfl rfl (hX10_hasUnit.at 1 rfl rfl) ?_
  refine os_callV (cis := [8]) (b := l0) (As := [.int l1]) (st := []) (st' := (fun r => .int r :: [])) sl8_X10_isArea_X10_isArea mdX10_isArea wd2013 wd2015 (sX10_isArea N l0 l1) rfl rfl (fun _ => rfl) (Nat.le_of_ble_eq_true rfl) (Nat.le_of_ble_eq_true rfl) (Nat.le_of_ble_eq_true rfl) rfl (Nat.le_of_ble_eq_true rfl) rfl (Nat.le_of_ble_eq_true rfl) (hX10_hasUnit.at 2 rfl rfl) (fun x1 => ?_)
  refine os_if_eq (off := 18) (tgt := 23) rfl (hX10_hasUnit.at 3 rfl rfl) ?_ ?_
  · exact osW.sub [] rfl (sX10_hasUnit_23 N )
  · refine os_aload_n (i := 0) (q := 0) (v := l0) 0 rfl rfl (hX10_hasUnit.at 4 rfl rfl) ?_
    refine os_getR fX10_16 (hX10_hasUnit.at 5 rfl rfl) (fun x2 => ?_)
    refine os_iload_n (i := 1) (q := 1) (v := l1) 1 rfl rfl (hX10_hasUnit.at 6 rfl rfl) ?_
    refine os_callS (As := [.ref x2, .int l1]) (st := []) (st' := (fun r => .int r :: [])) mdX10_isUnit wd1879 wd1880 (sX10_isUnit N x2 l1) rfl rfl (fun _ => rfl) (Nat.le_of_ble_eq_true rfl) (Nat.le_of_ble_eq_true rfl) (Nat.le_of_ble_eq_true rfl) rfl (Nat.le_of_ble_eq_true rfl) rfl (Nat.le_of_ble_eq_true rfl) (hX10_hasUnit.at 7 rfl rfl) (fun x3 => ?_)
    refine os_if_eq (off := 7) (tgt := 23) rfl (hX10_hasUnit.at 8 rfl rfl) ?_ ?_
    · exact osW.sub [] rfl (sX10_hasUnit_23 N )
    · refine os_iconst (i := 1) (v := (1 : Int32)) rfl (hX10_hasUnit.at 9 rfl rfl) ?_
      refine os_goto (off := 4) (tgt := 24) rfl (hX10_hasUnit.at 10 rfl rfl) ?_
      exact osW.sub [] rfl (sX10_hasUnit_24 N (1 : Int32))
-- X10_passing
def KX10_passing : List (Nat × Nat × Instr) := [(0, 1, .aload_n 0), (1, 3, .getfield 7), (4, 1, .iload_n 2), (5, 3, .ifCond .ne 8), (8, 2, .bipush 66), (10, 3, .goto 5), (13, 2, .bipush 82), (15, 1, .iload_n 1), (16, 1, .iadd), (17, 1, .iaload), (18, 1, .ireturn)]
theorem hX10_passing : osDs cX10_passing KX10_passing := by
  show ∀ q ∈ KX10_passing, decode cX10_passing q.1 = .ok (q.2.2, q.2.1)
  decide +kernel
def qX10_passing_15 (N : Nat) (l1 : Int32) (k0 : Int32) (k1 : Nat) : osM Int32 := osbind (osaI 0 k1 (k0 + l1)) fun x1 => osret x1
def qX10_passing (N : Nat) (l0 : Nat) (l1 : Int32) (l2 : Int32) : osM Int32 := osbind (osgR [8] 1 l0) fun x1 => osite (l2 = 0) (qX10_passing_15 N l1 (66 : Int32) x1) (qX10_passing_15 N l1 (82 : Int32) x1)
set_option maxRecDepth 100000 in
set_option maxHeartbeats 4000000 in
theorem sX10_passing_15 (N : Nat) (l1 : Int32) (k0 : Int32) (k1 : Nat) : osW (osFinM (fun r : Int32 => some (.int r)) 0 0) yX10_passing cX10_passing 3 (some .int) [] { frames := 0, cells := 0, slots := 0, locals := 0 } 0 0 15 [(1, .int l1)] [.int k0, .ref k1] (qX10_passing_15 N l1 k0 k1) := by
  unfold qX10_passing_15
  refine os_iload_n (i := 1) (q := 1) (v := l1) 0 rfl rfl (hX10_passing.at 7 rfl rfl) ?_
  refine os_iadd (hX10_passing.at 8 rfl rfl) ?_
  refine os_iaload (hX10_passing.at 9 rfl rfl) (fun x1 => ?_)
  exact os_iret (Nat.le_of_ble_eq_true rfl) (Nat.le_of_ble_eq_true rfl) (hX10_passing.at 10 rfl rfl).1
set_option maxRecDepth 100000 in
set_option maxHeartbeats 4000000 in
theorem sX10_passing (N : Nat) (l0 : Nat) (l1 : Int32) (l2 : Int32) : osMet yX10_passing cX10_passing 3 (some .int) 0 0 0 0 (fun r : Int32 => some (.int r)) [.ref l0, .int l1, .int l2] (qX10_passing N l0 l1 l2) := by
  refine osMet.of plX10 (Nat.le_of_ble_eq_true rfl) (osW.rw (lv2 := [(0, .ref l0), (1, .int l1), (2, .int l2)]) ?_ rfl rfl rfl)
  unfold qX10_passing
  refine os_aload_n (i := 0) (q := 0) (v := l0) 0 rfl rfl (hX10_passing.at 0 rfl rfl) ?_
  refine os_getR fX10_7 (hX10_passing.at 1 rfl rfl) (fun x1 => ?_)
  refine os_iload_n (i := 2) (q := 2) (v := l2) 2 rfl rfl (hX10_passing.at 2 rfl rfl) ?_
  refine os_if_ne (off := 8) (tgt := 13) rfl (hX10_passing.at 3 rfl rfl) ?_ ?_
  · refine os_bipush (i := 82) (v := (82 : Int32)) rfl (hX10_passing.at 6 rfl rfl) ?_
    exact osW.sub [1] rfl (sX10_passing_15 N l1 (82 : Int32) x1)
  · refine os_bipush (i := 66) (v := (66 : Int32)) rfl (hX10_passing.at 4 rfl rfl) ?_
    refine os_goto (off := 5) (tgt := 15) rfl (hX10_passing.at 5 rfl rfl) ?_
    exact osW.sub [1] rfl (sX10_passing_15 N l1 (66 : Int32) x1)
-- X10_canGo
def KX10_canGo : List (Nat × Nat × Instr) := [(0, 1, .aload_n 0), (1, 1, .iload_n 1), (2, 1, .iload_n 3), (3, 3, .invokevirtual 107), (6, 1, .iload_n 2), (7, 3, .invokestatic 111), (10, 1, .ireturn)]
theorem hX10_canGo : osDs cX10_canGo KX10_canGo := by
  show ∀ q ∈ KX10_canGo, decode cX10_canGo q.1 = .ok (q.2.2, q.2.1)
  decide +kernel
def qX10_canGo (N : Nat) (l0 : Nat) (l1 : Int32) (l2 : Int32) (l3 : Int32) : osM Int32 := osbind (osrecv [8] l0 (qX10_passing N l0 l1 l3)) fun x1 => osbind (qX10_has N x1 l2) fun x2 => osretZ x2
set_option maxRecDepth 100000 in
set_option maxHeartbeats 4000000 in
theorem sX10_canGo (N : Nat) (l0 : Nat) (l1 : Int32) (l2 : Int32) (l3 : Int32) : osMet yX10_canGo cX10_canGo 4 (some .boolean) 1 22 0 0 (fun r : Int32 => some (.int r)) [.ref l0, .int l1, .int l2, .int l3] (qX10_canGo N l0 l1 l2 l3) := by
  refine osMet.of plX10 (Nat.le_of_ble_eq_true rfl) (osW.rw (lv2 := [(0, .ref l0), (1, .int l1), (2, .int l2), (3, .int l3)]) ?_ rfl rfl rfl)
  unfold qX10_canGo
  refine os_aload_n (i := 0) (q := 0) (v := l0) 0 rfl rfl (hX10_canGo.at 0 rfl rfl) ?_
  refine os_iload_n (i := 1) (q := 1) (v := l1) 1 rfl rfl (hX10_canGo.at 1 rfl rfl) ?_
  refine os_iload_n (i := 3) (q := 3) (v := l3) 3 rfl rfl (hX10_canGo.at 2 rfl rfl) ?_
  refine os_callV (cis := [8]) (b := l0) (As := [.int l1, .int l3]) (st := []) (st' := (fun r => .int r :: [])) sl8_X10_passing_X10_passing mdX10_passing wd1934 wd1936 (sX10_passing N l0 l1 l3) rfl rfl (fun _ => rfl) (Nat.le_of_ble_eq_true rfl) (Nat.le_of_ble_eq_true rfl) (Nat.le_of_ble_eq_true rfl) rfl (Nat.le_of_ble_eq_true rfl) rfl (Nat.le_of_ble_eq_true rfl) (hX10_canGo.at 3 rfl rfl) (fun x1 => ?_)
  refine os_iload_n (i := 2) (q := 2) (v := l2) 2 rfl rfl (hX10_canGo.at 4 rfl rfl) ?_
  refine os_callS (As := [.int x1, .int l2]) (st := []) (st' := (fun r => .int r :: [])) mdX10_has wd1860 wd1861 (sX10_has N x1 l2) rfl rfl (fun _ => rfl) (Nat.le_of_ble_eq_true rfl) (Nat.le_of_ble_eq_true rfl) (Nat.le_of_ble_eq_true rfl) rfl (Nat.le_of_ble_eq_true rfl) rfl (Nat.le_of_ble_eq_true rfl) (hX10_canGo.at 5 rfl rfl) (fun x2 => ?_)
  exact os_zret (Nat.le_of_ble_eq_true rfl) (Nat.le_of_ble_eq_true rfl) (hX10_canGo.at 6 rfl rfl).1
-- X10_isCoast
def KX10_isCoast : List (Nat × Nat × Instr) := [(0, 1, .aload_n 0), (1, 3, .getfield 7), (4, 1, .iconst 2), (5, 1, .iload_n 1), (6, 1, .iadd), (7, 1, .iaload), (8, 1, .iconst 1), (9, 3, .if_icmp .ne 7), (12, 1, .iconst 1), (13, 3, .goto 4), (16, 1, .iconst 0), (17, 1, .ireturn)]
theorem hX10_isCoast : osDs cX10_isCoast KX10_isCoast := by
  show ∀ q ∈ KX10_isCoast, decode cX10_isCoast q.1 = .ok (q.2.2, q.2.1)
  decide +kernel
def qX10_isCoast_17 (N : Nat) (k0 : Int32) : osM Int32 := osretZ k0
def qX10_isCoast (N : Nat) (l0 : Nat) (l1 : Int32) : osM Int32 := osbind (osgR [8] 1 l0) fun x1 => osbind (osaI 0 x1 ((2 : Int32) + l1)) fun x2 => osite (x2 = (1 : Int32)) (qX10_isCoast_17 N (1 : Int32)) (qX10_isCoast_17 N (0 : Int32))
set_option maxRecDepth 100000 in
set_option maxHeartbeats 4000000 in
theorem sX10_isCoast_17 (N : Nat) (k0 : Int32) : osW (osFinM (fun r : Int32 => some (.int r)) 0 0) yX10_isCoast cX10_isCoast 2 (some .boolean) [] { frames := 0, cells := 0, slots := 0, locals := 0 } 0 0 17 [] [.int k0] (qX10_isCoast_17 N k0) := by
  unfold qX10_isCoast_17
  exact os_zret (Nat.le_of_ble_eq_true rfl) (Nat.le_of_ble_eq_true rfl) (hX10_isCoast.at 11 rfl rfl).1
set_option maxRecDepth 100000 in
set_option maxHeartbeats 4000000 in
theorem sX10_isCoast (N : Nat) (l0 : Nat) (l1 : Int32) : osMet yX10_isCoast cX10_isCoast 2 (some .boolean) 0 0 0 0 (fun r : Int32 => some (.int r)) [.ref l0, .int l1] (qX10_isCoast N l0 l1) := by
  refine osMet.of plX10 (Nat.le_of_ble_eq_true rfl) (osW.rw (lv2 := [(0, .ref l0), (1, .int l1)]) ?_ rfl rfl rfl)
  unfold qX10_isCoast
  refine os_aload_n (i := 0) (q := 0) (v := l0) 0 rfl rfl (hX10_isCoast.at 0 rfl rfl) ?_
  refine os_getR fX10_7 (hX10_isCoast.at 1 rfl rfl) (fun x1 => ?_)
  refine os_iconst (i := 2) (v := (2 : Int32)) rfl (hX10_isCoast.at 2 rfl rfl) ?_
  refine os_iload_n (i := 1) (q := 1) (v := l1) 1 rfl rfl (hX10_isCoast.at 3 rfl rfl) ?_
  refine os_iadd (hX10_isCoast.at 4 rfl rfl) ?_
  refine os_iaload (hX10_isCoast.at 5 rfl rfl) (fun x2 => ?_)
  refine os_iconst (i := 1) (v := (1 : Int32)) rfl (hX10_isCoast.at 6 rfl rfl) ?_
  refine os_icmp_ne (off := 7) (tgt := 16) rfl (hX10_isCoast.at 7 rfl rfl) ?_ ?_
  · refine os_iconst (i := 0) (v := (0 : Int32)) rfl (hX10_isCoast.at 10 rfl rfl) ?_
    exact osW.sub [] rfl (sX10_isCoast_17 N (0 : Int32))
  · refine os_iconst (i := 1) (v := (1 : Int32)) rfl (hX10_isCoast.at 8 rfl rfl) ?_
    refine os_goto (off := 4) (tgt := 17) rfl (hX10_isCoast.at 9 rfl rfl) ?_
    exact osW.sub [] rfl (sX10_isCoast_17 N (1 : Int32))
-- X10_isDirect
def KX10_isDirect : List (Nat × Nat × Instr) := [(0, 1, .aload_n 0), (1, 1, .iload_n 1), (2, 1, .iload_n 2), (3, 1, .aload_n 0), (4, 3, .getfield 16), (7, 2, .bipush 37), (9, 1, .iload_n 1), (10, 1, .iadd), (11, 1, .iaload), (12, 3, .invokevirtual 115), (15, 1, .ireturn)]
theorem hX10_isDirect : osDs cX10_isDirect KX10_isDirect := by
  show ∀ q ∈ KX10_isDirect, decode cX10_isDirect q.1 = .ok (q.2.2, q.2.1)
  decide +kernel
def qX10_isDirect (N : Nat) (l0 : Nat) (l1 : Int32) (l2 : Int32) : osM Int32 := osbind (osgR [8] 3 l0) fun x1 => osbind (osaI 0 x1 ((37 : Int32) + l1)) fun x2 => osbind (osrecv [8] l0 (qX10_canGo N l0 l1 l2 x2)) fun x3 => osretZ x3
set_option maxRecDepth 100000 in
set_option maxHeartbeats 4000000 in
theorem sX10_isDirect (N : Nat) (l0 : Nat) (l1 : Int32) (l2 : Int32) : osMet yX10_isDirect cX10_isDirect 3 (some .boolean) 2 45 0 0 (fun r : Int32 => some (.int r)) [.ref l0, .int l1, .int l2] (qX10_isDirect N l0 l1 l2) := by
  refine osMet.of plX10 (Nat.le_of_ble_eq_true rfl) (osW.rw (lv2 := [(0, .ref l0), (1, .int l1), (2, .int l2)]) ?_ rfl rfl rfl)
  unfold qX10_isDirect
  refine os_aload_n (i := 0) (q := 0) (v := l0) 0 rfl rfl (hX10_isDirect.at 0 rfl rfl) ?_
  refine os_iload_n (i := 1) (q := 1) (v := l1) 1 rfl rfl (hX10_isDirect.at 1 rfl rfl) ?_
  refine os_iload_n (i := 2) (q := 2) (v := l2) 2 rfl rfl (hX10_isDirect.at 2 rfl rfl) ?_
  refine os_aload_n (i := 0) (q := 0) (v := l0) 0 rfl rfl (hX10_isDirect.at 3 rfl rfl) ?_
  refine os_getR fX10_16 (hX10_isDirect.at 4 rfl rfl) (fun x1 => ?_)
  refine os_bipush (i := 37) (v := (37 : Int32)) rfl (hX10_isDirect.at 5 rfl rfl) ?_
  refine os_iload_n (i := 1) (q := 1) (v := l1) 1 rfl rfl (hX10_isDirect.at 6 rfl rfl) ?_
  refine os_iadd (hX10_isDirect.at 7 rfl rfl) ?_
  refine os_iaload (hX10_isDirect.at 8 rfl rfl) (fun x2 => ?_)
  refine os_callV (cis := [8]) (b := l0) (As := [.int l1, .int l2, .int x2]) (st := []) (st' := (fun r => .int r :: [])) sl8_X10_canGo_X10_canGo mdX10_canGo wd1930 wd1932 (sX10_canGo N l0 l1 l2 x2) rfl rfl (fun _ => rfl) (Nat.le_of_ble_eq_true rfl) (Nat.le_of_ble_eq_true rfl) (Nat.le_of_ble_eq_true rfl) rfl (Nat.le_of_ble_eq_true rfl) rfl (Nat.le_of_ble_eq_true rfl) (hX10_isDirect.at 9 rfl rfl) (fun x3 => ?_)
  exact os_zret (Nat.le_of_ble_eq_true rfl) (Nat.le_of_ble_eq_true rfl) (hX10_isDirect.at 10 rfl rfl).1
-- X10_mayMove
def KX10_mayMove : List (Nat × Nat × Instr) := [(0, 1, .aload_n 0), (1, 1, .iload_n 1), (2, 1, .iload_n 2), (3, 3, .invokevirtual 118), (6, 3, .ifCond .ne 36), (9, 1, .aload_n 0), (10, 3, .getfield 16), (13, 2, .bipush 37), (15, 1, .iload_n 1), (16, 1, .iadd), (17, 1, .iaload), (18, 3, .ifCond .ne 28), (21, 1, .aload_n 0), (22, 1, .iload_n 1), (23, 3, .invokevirtual 121), (26, 3, .ifCond .eq 20), (29, 1, .aload_n 0), (30, 1, .iload_n 2), (31, 3, .invokevirtual 121), (34, 3, .ifCond .eq 12), (37, 1, .iload_n 1), (38, 1, .iload_n 2), (39, 3, .if_icmp .eq 7), (42, 1, .iconst 1), (43, 3, .goto 4), (46, 1, .iconst 0), (47, 1, .ireturn)]
theorem hX10_mayMove : osDs cX10_mayMove KX10_mayMove := by
  show ∀ q ∈ KX10_mayMove, decode cX10_mayMove q.1 = .ok (q.2.2, q.2.1)
  decide +kernel
def qX10_mayMove_47 (N : Nat) (k0 : Int32) : osM Int32 := osretZ k0
def qX10_mayMove_42 (N : Nat) : osM Int32 := qX10_mayMove_47 N (1 : Int32)
def qX10_mayMove_46 (N : Nat) : osM Int32 := qX10_mayMove_47 N (0 : Int32)
def qX10_mayMove (N : Nat) (l0 : Nat) (l1 : Int32) (l2 : Int32) : osM Int32 := osbind (osrecv [8] l0 (qX10_isDirect N l0 l1 l2)) fun x1 => osite (x1 = 0) (osbind (osgR [8] 3 l0) fun x2 => osbind (osaI 0 x2 ((37 : Int32) + l1)) fun x3 => osite (x3 = 0) (osbind (osrecv [8] l0 (qX10_isCoast N l0 l1)) fun x4 => osite (x4 = 0) (qX10_mayMove_46 N ) (osbind (osrecv [8] l0 (qX10_isCoast N l0 l2)) fun x5 => osite (x5 = 0) (qX10_mayMove_46 N ) (osite (l1 = l2) (qX10_mayMove_46 N ) (qX10_mayMove_42 N )))) (qX10_mayMove_46 N )) (qX10_mayMove_42 N )
set_option maxRecDepth 100000 in
set_option maxHeartbeats 4000000 in
theorem sX10_mayMove_47 (N : Nat) (k0 : Int32) : osW (osFinM (fun r : Int32 => some (.int r)) 0 0) yX10_mayMove cX10_mayMove 3 (some .boolean) [] { frames := 3, cells := 0, slots := 0, locals := 67 } 0 0 47 [] [.int k0] (qX10_mayMove_47 N k0) := by
  unfold qX10_mayMove_47
  exact os_zret (Nat.le_of_ble_eq_true rfl) (Nat.le_of_ble_eq_true rfl) (hX10_mayMove.at 26 rfl rfl).1
set_option maxRecDepth 100000 in
set_option maxHeartbeats 4000000 in
theorem sX10_mayMove_42 (N : Nat) : osW (osFinM (fun r : Int32 => some (.int r)) 0 0) yX10_mayMove cX10_mayMove 3 (some .boolean) [] { frames := 3, cells := 0, slots := 0, locals := 67 } 0 0 42 [] [] (qX10_mayMove_42 N) := by
  unfold qX10_mayMove_42
  refine os_iconst (i := 1) (v := (1 : Int32)) rfl (hX10_mayMove.at 23 rfl rfl) ?_
  refine os_goto (off := 4) (tgt := 47) rfl (hX10_mayMove.at 24 rfl rfl) ?_
  exact osW.sub [] rfl (sX10_mayMove_47 N (1 : Int32))
set_option maxRecDepth 100000 in
set_option maxHeartbeats 4000000 in
theorem sX10_mayMove_46 (N : Nat) : osW (osFinM (fun r : Int32 => some (.int r)) 0 0) yX10_mayMove cX10_mayMove 3 (some .boolean) [] { frames := 3, cells := 0, slots := 0, locals := 67 } 0 0 46 [] [] (qX10_mayMove_46 N) := by
  unfold qX10_mayMove_46
  refine os_iconst (i := 0) (v := (0 : Int32)) rfl (hX10_mayMove.at 25 rfl rfl) ?_
  exact osW.sub [] rfl (sX10_mayMove_47 N (0 : Int32))
set_option maxRecDepth 100000 in
set_option maxHeartbeats 4000000 in
theorem sX10_mayMove (N : Nat) (l0 : Nat) (l1 : Int32) (l2 : Int32) : osMet yX10_mayMove cX10_mayMove 3 (some .boolean) 3 67 0 0 (fun r : Int32 => some (.int r)) [.ref l0, .int l1, .int l2] (qX10_mayMove N l0 l1 l2) := by
  refine osMet.of plX10 (Nat.le_of_ble_eq_true rfl) (osW.rw (lv2 := [(0, .ref l0), (1, .int l1), (2, .int l2)]) ?_ rfl rfl rfl)
  unfold qX10_mayMove
  refine os_aload_n (i := 0) (q := 0) (v := l0) 0 rfl rfl (hX10_mayMove.at 0 rfl rfl) ?_
  refine os_iload_n (i := 1) (q := 1) (v := l1) 1 rfl rfl (hX10_mayMove.at 1 rfl rfl) ?_
  refine os_iload_n (i := 2) (q := 2) (v := l2) 2 rfl rfl (hX10_mayMove.at 2 rfl rfl) ?_
  refine os_callV (cis := [8]) (b := l0) (As := [.int l1, .int l2]) (st := []) (st' := (fun r => .int r :: [])) sl8_X10_isDirect_X10_isDirect mdX10_isDirect wd1926 wd1928 (sX10_isDirect N l0 l1 l2) rfl rfl (fun _ => rfl) (Nat.le_of_ble_eq_true rfl) (Nat.le_of_ble_eq_true rfl) (Nat.le_of_ble_eq_true rfl) rfl (Nat.le_of_ble_eq_true rfl) rfl (Nat.le_of_ble_eq_true rfl) (hX10_mayMove.at 3 rfl rfl) (fun x1 => ?_)
  refine os_if_ne (off := 36) (tgt := 42) rfl (hX10_mayMove.at 4 rfl rfl) ?_ ?_
  · exact osW.sub [] rfl (sX10_mayMove_42 N )
  · refine os_aload_n (i := 0) (q := 0) (v := l0) 0 rfl rfl (hX10_mayMove.at 5 rfl rfl) ?_
    refine os_getR fX10_16 (hX10_mayMove.at 6 rfl rfl) (fun x2 => ?_)
    refine os_bipush (i := 37) (v := (37 : Int32)) rfl (hX10_mayMove.at 7 rfl rfl) ?_
    refine os_iload_n (i := 1) (q := 1) (v := l1) 1 rfl rfl (hX10_mayMove.at 8 rfl rfl) ?_
    refine os_iadd (hX10_mayMove.at 9 rfl rfl) ?_
    refine os_iaload (hX10_mayMove.at 10 rfl rfl) (fun x3 => ?_)
    refine os_if_ne (off := 28) (tgt := 46) rfl (hX10_mayMove.at 11 rfl rfl) ?_ ?_
    · exact osW.sub [] rfl (sX10_mayMove_46 N )
    · refine os_aload_n (i := 0) (q := 0) (v := l0) 0 rfl rfl (hX10_mayMove.at 12 rfl rfl) ?_
      refine os_iload_n (i := 1) (q := 1) (v := l1) 1 rfl rfl (hX10_mayMove.at 13 rfl rfl) ?_
      refine os_callV (cis := [8]) (b := l0) (As := [.int l1]) (st := []) (st' := (fun r => .int r :: [])) sl8_X10_isCoast_X10_isCoast mdX10_isCoast wd1938 wd1940 (sX10_isCoast N l0 l1) rfl rfl (fun _ => rfl) (Nat.le_of_ble_eq_true rfl) (Nat.le_of_ble_eq_true rfl) (Nat.le_of_ble_eq_true rfl) rfl (Nat.le_of_ble_eq_true rfl) rfl (Nat.le_of_ble_eq_true rfl) (hX10_mayMove.at 14 rfl rfl) (fun x4 => ?_)
      refine os_if_eq (off := 20) (tgt := 46) rfl (hX10_mayMove.at 15 rfl rfl) ?_ ?_
      · exact osW.sub [] rfl (sX10_mayMove_46 N )
      · refine os_aload_n (i := 0) (q := 0) (v := l0) 0 rfl rfl (hX10_mayMove.at 16 rfl rfl) ?_
        refine os_iload_n (i := 2) (q := 2) (v := l2) 2 rfl rfl (hX10_mayMove.at 17 rfl rfl) ?_
        refine os_callV (cis := [8]) (b := l0) (As := [.int l2]) (st := []) (st' := (fun r => .int r :: [])) sl8_X10_isCoast_X10_isCoast mdX10_isCoast wd1938 wd1940 (sX10_isCoast N l0 l2) rfl rfl (fun _ => rfl) (Nat.le_of_ble_eq_true rfl) (Nat.le_of_ble_eq_true rfl) (Nat.le_of_ble_eq_true rfl) rfl (Nat.le_of_ble_eq_true rfl) rfl (Nat.le_of_ble_eq_true rfl) (hX10_mayMove.at 18 rfl rfl) (fun x5 => ?_)
        refine os_if_eq (off := 12) (tgt := 46) rfl (hX10_mayMove.at 19 rfl rfl) ?_ ?_
        · exact osW.sub [] rfl (sX10_mayMove_46 N )
        · refine os_iload_n (i := 1) (q := 1) (v := l1) 1 rfl rfl (hX10_mayMove.at 20 rfl rfl) ?_
          refine os_iload_n (i := 2) (q := 2) (v := l2) 2 rfl rfl (hX10_mayMove.at 21 rfl rfl) ?_
          refine os_icmp_eq (off := 7) (tgt := 46) rfl (hX10_mayMove.at 22 rfl rfl) ?_ ?_
          · exact osW.sub [] rfl (sX10_mayMove_46 N )
          · exact osW.sub [] rfl (sX10_mayMove_42 N )
-- X10_maySupport
def KX10_maySupport : List (Nat × Nat × Instr) := [(0, 1, .aload_n 0), (1, 3, .getfield 16), (4, 1, .iload_n 2), (5, 3, .invokestatic 103), (8, 3, .ifCond .eq 16), (11, 1, .aload_n 0), (12, 1, .iload_n 1), (13, 1, .iload_n 2), (14, 3, .invokevirtual 118), (17, 3, .ifCond .eq 7), (20, 1, .iconst 1), (21, 3, .goto 4), (24, 1, .iconst 0), (25, 1, .ireturn)]
theorem hX10_maySupport : osDs cX10_maySupport KX10_maySupport := by
  show ∀ q ∈ KX10_maySupport, decode cX10_maySupport q.1 = .ok (q.2.2, q.2.1)
  decide +kernel
def qX10_maySupport_25 (N : Nat) (k0 : Int32) : osM Int32 := osretZ k0
def qX10_maySupport_24 (N : Nat) : osM Int32 := qX10_maySupport_25 N (0 : Int32)
def qX10_maySupport (N : Nat) (l0 : Nat) (l1 : Int32) (l2 : Int32) : osM Int32 := osbind (osgR [8] 3 l0) fun x1 => osbind (qX10_isUnit N x1 l2) fun x2 => osite (x2 = 0) (qX10_maySupport_24 N ) (osbind (osrecv [8] l0 (qX10_isDirect N l0 l1 l2)) fun x3 => osite (x3 = 0) (qX10_maySupport_24 N ) (qX10_maySupport_25 N (1 : Int32)))
set_option maxRecDepth 100000 in
set_option maxHeartbeats 4000000 in
theorem sX10_maySupport_25 (N : Nat) (k0 : Int32) : osW (osFinM (fun r : Int32 => some (.int r)) 0 0) yX10_maySupport cX10_maySupport 3 (some .boolean) [] { frames := 3, cells := 0, slots := 0, locals := 67 } 0 0 25 [] [.int k0] (qX10_maySupport_25 N k0) := by
  unfold qX10_maySupport_25
  exact os_zret (Nat.le_of_ble_eq_true rfl) (Nat.le_of_ble_eq_true rfl) (hX10_maySupport.at 13 rfl rfl).1
set_option maxRecDepth 100000 in
set_option maxHeartbeats 4000000 in
theorem sX10_maySupport_24 (N : Nat) : osW (osFinM (fun r : Int32 => some (.int r)) 0 0) yX10_maySupport cX10_maySupport 3 (some .boolean) [] { frames := 3, cells := 0, slots := 0, locals := 67 } 0 0 24 [] [] (qX10_maySupport_24 N) := by
  unfold qX10_maySupport_24
  refine os_iconst (i := 0) (v := (0 : Int32)) rfl (hX10_maySupport.at 12 rfl rfl) ?_
  exact osW.sub [] rfl (sX10_maySupport_25 N (0 : Int32))
set_option maxRecDepth 100000 in
set_option maxHeartbeats 4000000 in
theorem sX10_maySupport (N : Nat) (l0 : Nat) (l1 : Int32) (l2 : Int32) : osMet yX10_maySupport cX10_maySupport 3 (some .boolean) 3 67 0 0 (fun r : Int32 => some (.int r)) [.ref l0, .int l1, .int l2] (qX10_maySupport N l0 l1 l2) := by
  refine osMet.of plX10 (Nat.le_of_ble_eq_true rfl) (osW.rw (lv2 := [(0, .ref l0), (1, .int l1), (2, .int l2)]) ?_ rfl rfl rfl)
  unfold qX10_maySupport
  refine os_aload_n (i := 0) (q := 0) (v := l0) 0 rfl rfl (hX10_maySupport.at 0 rfl rfl) ?_
  refine os_getR fX10_16 (hX10_maySupport.at 1 rfl rfl) (fun x1 => ?_)
  refine os_iload_n (i := 2) (q := 2) (v := l2) 2 rfl rfl (hX10_maySupport.at 2 rfl rfl) ?_
  refine os_callS (As := [.ref x1, .int l2]) (st := []) (st' := (fun r => .int r :: [])) mdX10_isUnit wd1879 wd1880 (sX10_isUnit N x1 l2) rfl rfl (fun _ => rfl) (Nat.le_of_ble_eq_true rfl) (Nat.le_of_ble_eq_true rfl) (Nat.le_of_ble_eq_true rfl) rfl (Nat.le_of_ble_eq_true rfl) rfl (Nat.le_of_ble_eq_true rfl) (hX10_maySupport.at 3 rfl rfl) (fun x2 => ?_)
  refine os_if_eq (off := 16) (tgt := 24) rfl (hX10_maySupport.at 4 rfl rfl) ?_ ?_
  · exact osW.sub [] rfl (sX10_maySupport_24 N )
  · refine os_aload_n (i := 0) (q := 0) (v := l0) 0 rfl rfl (hX10_maySupport.at 5 rfl rfl) ?_
    refine os_iload_n (i := 1) (q := 1) (v := l1) 1 rfl rfl (hX10_maySupport.at 6 rfl rfl) ?_
    refine os_iload_n (i := 2) (q := 2) (v := l2) 2 rfl rfl (hX10_maySupport.at 7 rfl rfl) ?_
    refine os_callV (cis := [8]) (b := l0) (As := [.int l1, .int l2]) (st := []) (st' := (fun r => .int r :: [])) sl8_X10_isDirect_X10_isDirect mdX10_isDirect wd1926 wd1928 (sX10_isDirect N l0 l1 l2) rfl rfl (fun _ => rfl) (Nat.le_of_ble_eq_true rfl) (Nat.le_of_ble_eq_true rfl) (Nat.le_of_ble_eq_true rfl) rfl (Nat.le_of_ble_eq_true rfl) rfl (Nat.le_of_ble_eq_true rfl) (hX10_maySupport.at 8 rfl rfl) (fun x3 => ?_)
    refine os_if_eq (off := 7) (tgt := 24) rfl (hX10_maySupport.at 9 rfl rfl) ?_ ?_
    · exact osW.sub [] rfl (sX10_maySupport_24 N )
    · refine os_iconst (i := 1) (v := (1 : Int32)) rfl (hX10_maySupport.at 10 rfl rfl) ?_
      refine os_goto (off := 4) (tgt := 25) rfl (hX10_maySupport.at 11 rfl rfl) ?_
      exact osW.sub [] rfl (sX10_maySupport_25 N (1 : Int32))
-- X10_maySupportMove
def KX10_maySupportMove : List (Nat × Nat × Instr) := [(0, 1, .aload_n 0), (1, 3, .getfield 16), (4, 1, .iload_n 2), (5, 3, .invokestatic 103), (8, 3, .ifCond .eq 26), (11, 1, .iload_n 2), (12, 1, .iload_n 1), (13, 3, .if_icmp .eq 21), (16, 1, .iload_n 2), (17, 1, .iload_n 3), (18, 3, .if_icmp .eq 16), (21, 1, .aload_n 0), (22, 1, .iload_n 1), (23, 1, .iload_n 3), (24, 3, .invokevirtual 118), (27, 3, .ifCond .eq 7), (30, 1, .iconst 1), (31, 3, .goto 4), (34, 1, .iconst 0), (35, 1, .ireturn)]
theorem hX10_maySupportMove : osDs cX10_maySupportMove KX10_maySupportMove := by
  show ∀ q ∈ KX10_maySupportMove, decode cX10_maySupportMove q.1 = .ok (q.2.2, q.2.1)
  decide +kernel
def qX10_maySupportMove_35 (N : Nat) (k0 : Int32) : osM Int32 := osretZ k0
def qX10_maySupportMove_34 (N : Nat) : osM Int32 := qX10_maySupportMove_35 N (0 : Int32)
def qX10_maySupportMove (N : Nat) (l0 : Nat) (l1 : Int32) (l2 : Int32) (l3 : Int32) : osM Int32 := osbind (osgR [8] 3 l0) fun x1 => osbind (qX10_isUnit N x1 l2) fun x2 => osite (x2 = 0) (qX10_maySupportMove_34 N ) (osite (l2 = l1) (qX10_maySupportMove_34 N ) (osite (l2 = l3) (qX10_maySupportMove_34 N ) (osbind (osrecv [8] l0 (qX10_isDirect N l0 l1 l3)) fun x3 => osite (x3 = 0) (qX10_maySupportMove_34 N ) (qX10_maySupportMove_35 N (1 : Int32)))))
set_option maxRecDepth 100000 in
set_option maxHeartbeats 4000000 in
theorem sX10_maySupportMove_35 (N : Nat) (k0 : Int32) : osW (osFinM (fun r : Int32 => some (.int r)) 0 0) yX10_maySupportMove cX10_maySupportMove 4 (some .boolean) [] { frames := 3, cells := 0, slots := 0, locals := 67 } 0 0 35 [] [.int k0] (qX10_maySupportMove_35 N k0) := by
  unfold qX10_maySupportMove_35
  exact os_zret (Nat.le_of_ble_eq_true rfl) (Nat.le_of_ble_eq_true rfl) (hX10_maySupportMove.at 19 rfl rfl).1
set_option maxRecDepth 100000 in
set_option maxHeartbeats 4000000 in
theorem sX10_maySupportMove_34 (N : Nat) : osW (osFinM (fun r : Int32 => some (.int r)) 0 0) yX10_maySupportMove cX10_maySupportMove 4 (some .boolean) [] { frames := 3, cells := 0, slots := 0, locals := 67 } 0 0 34 [] [] (qX10_maySupportMove_34 N) := by
  unfold qX10_maySupportMove_34
  refine os_iconst (i := 0) (v := (0 : Int32)) rfl (hX10_maySupportMove.at 18 rfl rfl) ?_
  exact osW.sub [] rfl (sX10_maySupportMove_35 N (0 : Int32))
set_option maxRecDepth 100000 in
set_option maxHeartbeats 4000000 in
theorem sX10_maySupportMove (N : Nat) (l0 : Nat) (l1 : Int32) (l2 : Int32) (l3 : Int32) : osMet yX10_maySupportMove cX10_maySupportMove 4 (some .boolean) 3 67 0 0 (fun r : Int32 => some (.int r)) [.ref l0, .int l1, .int l2, .int l3] (qX10_maySupportMove N l0 l1 l2 l3) := by
  refine osMet.of plX10 (Nat.le_of_ble_eq_true rfl) (osW.rw (lv2 := [(0, .ref l0), (1, .int l1), (2, .int l2), (3, .int l3)]) ?_ rfl rfl rfl)
  unfold qX10_maySupportMove
  refine os_aload_n (i := 0) (q := 0) (v := l0) 0 rfl rfl (hX10_maySupportMove.at 0 rfl rfl) ?_
  refine os_getR fX10_16 (hX10_maySupportMove.at 1 rfl rfl) (fun x1 => ?_)
  refine os_iload_n (i := 2) (q := 2) (v := l2) 2 rfl rfl (hX10_maySupportMove.at 2 rfl rfl) ?_
  refine os_callS (As := [.ref x1, .int l2]) (st := []) (st' := (fun r => .int r :: [])) mdX10_isUnit wd1879 wd1880 (sX10_isUnit N x1 l2) rfl rfl (fun _ => rfl) (Nat.le_of_ble_eq_true rfl) (Nat.le_of_ble_eq_true rfl) (Nat.le_of_ble_eq_true rfl) rfl (Nat.le_of_ble_eq_true rfl) rfl (Nat.le_of_ble_eq_true rfl) (hX10_maySupportMove.at 3 rfl rfl) (fun x2 => ?_)
  refine os_if_eq (off := 26) (tgt := 34) rfl (hX10_maySupportMove.at 4 rfl rfl) ?_ ?_
  · exact osW.sub [] rfl (sX10_maySupportMove_34 N )
  · refine os_iload_n (i := 2) (q := 2) (v := l2) 2 rfl rfl (hX10_maySupportMove.at 5 rfl rfl) ?_
    refine os_iload_n (i := 1) (q := 1) (v := l1) 1 rfl rfl (hX10_maySupportMove.at 6 rfl rfl) ?_
    refine os_icmp_eq (off := 21) (tgt := 34) rfl (hX10_maySupportMove.at 7 rfl rfl) ?_ ?_
    · exact osW.sub [] rfl (sX10_maySupportMove_34 N )
    · refine os_iload_n (i := 2) (q := 2) (v := l2) 2 rfl rfl (hX10_maySupportMove.at 8 rfl rfl) ?_
      refine os_iload_n (i := 3) (q := 3) (v := l3) 3 rfl rfl (hX10_maySupportMove.at 9 rfl rfl) ?_
      refine os_icmp_eq (off := 16) (tgt := 34) rfl (hX10_maySupportMove.at 10 rfl rfl) ?_ ?_
      · exact osW.sub [] rfl (sX10_maySupportMove_34 N )
      · refine os_aload_n (i := 0) (q := 0) (v := l0) 0 rfl rfl (hX10_maySupportMove.at 11 rfl rfl) ?_
        refine os_iload_n (i := 1) (q := 1) (v := l1) 1 rfl rfl (hX10_maySupportMove.at 12 rfl rfl) ?_
        refine os_iload_n (i := 3) (q := 3) (v := l3) 3 rfl rfl (hX10_maySupportMove.at 13 rfl rfl) ?_
        refine os_callV (cis := [8]) (b := l0) (As := [.int l1, .int l3]) (st := []) (st' := (fun r => .int r :: [])) sl8_X10_isDirect_X10_isDirect mdX10_isDirect wd1926 wd1928 (sX10_isDirect N l0 l1 l3) rfl rfl (fun _ => rfl) (Nat.le_of_ble_eq_true rfl) (Nat.le_of_ble_eq_true rfl) (Nat.le_of_ble_eq_true rfl) rfl (Nat.le_of_ble_eq_true rfl) rfl (Nat.le_of_ble_eq_true rfl) (hX10_maySupportMove.at 14 rfl rfl) (fun x3 => ?_)
        refine os_if_eq (off := 7) (tgt := 34) rfl (hX10_maySupportMove.at 15 rfl rfl) ?_ ?_
        · exact osW.sub [] rfl (sX10_maySupportMove_34 N )
        · refine os_iconst (i := 1) (v := (1 : Int32)) rfl (hX10_maySupportMove.at 16 rfl rfl) ?_
          refine os_goto (off := 4) (tgt := 35) rfl (hX10_maySupportMove.at 17 rfl rfl) ?_
          exact osW.sub [] rfl (sX10_maySupportMove_35 N (1 : Int32))
-- X10_mayConvoy
def KX10_mayConvoy : List (Nat × Nat × Instr) := [(0, 1, .aload_n 0), (1, 3, .getfield 16), (4, 2, .bipush 37), (6, 1, .iload_n 1), (7, 1, .iadd), (8, 1, .iaload), (9, 1, .iconst 1), (10, 3, .if_icmp .ne 19), (13, 1, .aload_n 0), (14, 3, .getfield 7), (17, 1, .iconst 2), (18, 1, .iload_n 1), (19, 1, .iadd), (20, 1, .iaload), (21, 1, .iconst 2), (22, 3, .if_icmp .ne 7), (25, 1, .iconst 1), (26, 3, .goto 4), (29, 1, .iconst 0), (30, 2, .istore 4), (32, 2, .iload 4), (34, 3, .ifCond .eq 51), (37, 1, .aload_n 0), (38, 3, .getfield 16), (41, 1, .iload_n 2), (42, 3, .invokestatic 103), (45, 3, .ifCond .eq 40), (48, 1, .aload_n 0), (49, 3, .getfield 16), (52, 2, .bipush 37), (54, 1, .iload_n 2), (55, 1, .iadd), (56, 1, .iaload), (57, 3, .ifCond .ne 28), (60, 1, .aload_n 0), (61, 1, .iload_n 2), (62, 3, .invokevirtual 121), (65, 3, .ifCond .eq 20), (68, 1, .aload_n 0), (69, 1, .iload_n 3), (70, 3, .invokevirtual 121), (73, 3, .ifCond .eq 12), (76, 1, .iload_n 2), (77, 1, .iload_n 3), (78, 3, .if_icmp .eq 7), (81, 1, .iconst 1), (82, 3, .goto 4), (85, 1, .iconst 0), (86, 1, .ireturn)]
theorem hX10_mayConvoy : osDs cX10_mayConvoy KX10_mayConvoy := by
  show ∀ q ∈ KX10_mayConvoy, decode cX10_mayConvoy q.1 = .ok (q.2.2, q.2.1)
  decide +kernel
def qX10_mayConvoy_86 (N : Nat) (k0 : Int32) : osM Int32 := osretZ k0
def qX10_mayConvoy_85 (N : Nat) : osM Int32 := qX10_mayConvoy_86 N (0 : Int32)
def qX10_mayConvoy_30 (N : Nat) (l0 : Nat) (l2 : Int32) (l3 : Int32) (k0 : Int32) : osM Int32 := osite (k0 = 0) (qX10_mayConvoy_85 N ) (osbind (osgR [8] 3 l0) fun x1 => osbind (qX10_isUnit N x1 l2) fun x2 => osite (x2 = 0) (qX10_mayConvoy_85 N ) (osbind (osgR [8] 3 l0) fun x3 => osbind (osaI 0 x3 ((37 : Int32) + l2)) fun x4 => osite (x4 = 0) (osbind (osrecv [8] l0 (qX10_isCoast N l0 l2)) fun x5 => osite (x5 = 0) (qX10_mayConvoy_85 N ) (osbind (osrecv [8] l0 (qX10_isCoast N l0 l3)) fun x6 => osite (x6 = 0) (qX10_mayConvoy_85 N ) (osite (l2 = l3) (qX10_mayConvoy_85 N ) (qX10_mayConvoy_86 N (1 : Int32))))) (qX10_mayConvoy_85 N )))
def qX10_mayConvoy_29 (N : Nat) (l0 : Nat) (l2 : Int32) (l3 : Int32) : osM Int32 := qX10_mayConvoy_30 N l0 l2 l3 (0 : Int32)
def qX10_mayConvoy (N : Nat) (l0 : Nat) (l1 : Int32) (l2 : Int32) (l3 : Int32) : osM Int32 := osbind (osgR [8] 3 l0) fun x1 => osbind (osaI 0 x1 ((37 : Int32) + l1)) fun x2 => osite (x2 = (1 : Int32)) (osbind (osgR [8] 1 l0) fun x3 => osbind (osaI 0 x3 ((2 : Int32) + l1)) fun x4 => osite (x4 = (2 : Int32)) (qX10_mayConvoy_30 N l0 l2 l3 (1 : Int32)) (qX10_mayConvoy_29 N l0 l2 l3)) (qX10_mayConvoy_29 N l0 l2 l3)
set_option maxRecDepth 100000 in
set_option maxHeartbeats 4000000 in
theorem sX10_mayConvoy_86 (N : Nat) (k0 : Int32) : osW (osFinM (fun r : Int32 => some (.int r)) 0 0) yX10_mayConvoy cX10_mayConvoy 5 (some .boolean) [] { frames := 1, cells := 0, slots := 0, locals := 21 } 0 0 86 [] [.int k0] (qX10_mayConvoy_86 N k0) := by
  unfold qX10_mayConvoy_86
  exact os_zret (Nat.le_of_ble_eq_true rfl) (Nat.le_of_ble_eq_true rfl) (hX10_mayConvoy.at 48 rfl rfl).1
set_option maxRecDepth 100000 in
set_option maxHeartbeats 4000000 in
theorem sX10_mayConvoy_85 (N : Nat) : osW (osFinM (fun r : Int32 => some (.int r)) 0 0) yX10_mayConvoy cX10_mayConvoy 5 (some .boolean) [] { frames := 1, cells := 0, slots := 0, locals := 21 } 0 0 85 [] [] (qX10_mayConvoy_85 N) := by
  unfold qX10_mayConvoy_85
  refine os_iconst (i := 0) (v := (0 : Int32)) rfl (hX10_mayConvoy.at 47 rfl rfl) ?_
  exact osW.sub [] rfl (sX10_mayConvoy_86 N (0 : Int32))
set_option maxRecDepth 100000 in
set_option maxHeartbeats 4000000 in
theorem sX10_mayConvoy_30 (N : Nat) (l0 : Nat) (l2 : Int32) (l3 : Int32) (k0 : Int32) : osW (osFinM (fun r : Int32 => some (.int r)) 0 0) yX10_mayConvoy cX10_mayConvoy 5 (some .boolean) [] { frames := 1, cells := 0, slots := 0, locals := 21 } 0 0 30 [(0, .ref l0), (2, .int l2), (3, .int l3)] [.int k0] (qX10_mayConvoy_30 N l0 l2 l3 k0) := by
  unfold qX10_mayConvoy_30
  refine os_istore (i := 4) (lv' := [(4, .int k0), (0, .ref l0), (2, .int l2), (3, .int l3)]) (Nat.le_of_ble_eq_true rfl) rfl (hX10_mayConvoy.at 19 rfl rfl) ?_
  refine os_iload (v := k0) 0 rfl (hX10_mayConvoy.at 20 rfl rfl) ?_
  refine os_if_eq (off := 51) (tgt := 85) rfl (hX10_mayConvoy.at 21 rfl rfl) ?_ ?_
  · exact osW.sub [] rfl (sX10_mayConvoy_85 N )
  · refine os_aload_n (i := 0) (q := 0) (v := l0) 1 rfl rfl (hX10_mayConvoy.at 22 rfl rfl) ?_
    refine os_getR fX10_16 (hX10_mayConvoy.at 23 rfl rfl) (fun x1 => ?_)
    refine os_iload_n (i := 2) (q := 2) (v := l2) 2 rfl rfl (hX10_mayConvoy.at 24 rfl rfl) ?_
    refine os_callS (As := [.ref x1, .int l2]) (st := []) (st' := (fun r => .int r :: [])) mdX10_isUnit wd1879 wd1880 (sX10_isUnit N x1 l2) rfl rfl (fun _ => rfl) (Nat.le_of_ble_eq_true rfl) (Nat.le_of_ble_eq_true rfl) (Nat.le_of_ble_eq_true rfl) rfl (Nat.le_of_ble_eq_true rfl) rfl (Nat.le_of_ble_eq_true rfl) (hX10_mayConvoy.at 25 rfl rfl) (fun x2 => ?_)
    refine os_if_eq (off := 40) (tgt := 85) rfl (hX10_mayConvoy.at 26 rfl rfl) ?_ ?_
    · exact osW.sub [] rfl (sX10_mayConvoy_85 N )
    · refine os_aload_n (i := 0) (q := 0) (v := l0) 1 rfl rfl (hX10_mayConvoy.at 27 rfl rfl) ?_
      refine os_getR fX10_16 (hX10_mayConvoy.at 28 rfl rfl) (fun x3 => ?_)
      refine os_bipush (i := 37) (v := (37 : Int32)) rfl (hX10_mayConvoy.at 29 rfl rfl) ?_
      refine os_iload_n (i := 2) (q := 2) (v := l2) 2 rfl rfl (hX10_mayConvoy.at 30 rfl rfl) ?_
      refine os_iadd (hX10_mayConvoy.at 31 rfl rfl) ?_
      refine os_iaload (hX10_mayConvoy.at 32 rfl rfl) (fun x4 => ?_)
      refine os_if_ne (off := 28) (tgt := 85) rfl (hX10_mayConvoy.at 33 rfl rfl) ?_ ?_
      · exact osW.sub [] rfl (sX10_mayConvoy_85 N )
      · refine os_aload_n (i := 0) (q := 0) (v := l0) 1 rfl rfl (hX10_mayConvoy.at 34 rfl rfl) ?_
        refine os_iload_n (i := 2) (q := 2) (v := l2) 2 rfl rfl (hX10_mayConvoy.at 35 rfl rfl) ?_
        refine os_callV (cis := [8]) (b := l0) (As := [.int l2]) (st := []) (st' := (fun r => .int r :: [])) sl8_X10_isCoast_X10_isCoast mdX10_isCoast wd1938 wd1940 (sX10_isCoast N l0 l2) rfl rfl (fun _ => rfl) (Nat.le_of_ble_eq_true rfl) (Nat.le_of_ble_eq_true rfl) (Nat.le_of_ble_eq_true rfl) rfl (Nat.le_of_ble_eq_true rfl) rfl (Nat.le_of_ble_eq_true rfl) (hX10_mayConvoy.at 36 rfl rfl) (fun x5 => ?_)
        refine os_if_eq (off := 20) (tgt := 85) rfl (hX10_mayConvoy.at 37 rfl rfl) ?_ ?_
        · exact osW.sub [] rfl (sX10_mayConvoy_85 N )
        · refine os_aload_n (i := 0) (q := 0) (v := l0) 1 rfl rfl (hX10_mayConvoy.at 38 rfl rfl) ?_
          refine os_iload_n (i := 3) (q := 3) (v := l3) 3 rfl rfl (hX10_mayConvoy.at 39 rfl rfl) ?_
          refine os_callV (cis := [8]) (b := l0) (As := [.int l3]) (st := []) (st' := (fun r => .int r :: [])) sl8_X10_isCoast_X10_isCoast mdX10_isCoast wd1938 wd1940 (sX10_isCoast N l0 l3) rfl rfl (fun _ => rfl) (Nat.le_of_ble_eq_true rfl) (Nat.le_of_ble_eq_true rfl) (Nat.le_of_ble_eq_true rfl) rfl (Nat.le_of_ble_eq_true rfl) rfl (Nat.le_of_ble_eq_true rfl) (hX10_mayConvoy.at 40 rfl rfl) (fun x6 => ?_)
          refine os_if_eq (off := 12) (tgt := 85) rfl (hX10_mayConvoy.at 41 rfl rfl) ?_ ?_
          · exact osW.sub [] rfl (sX10_mayConvoy_85 N )
          · refine os_iload_n (i := 2) (q := 2) (v := l2) 2 rfl rfl (hX10_mayConvoy.at 42 rfl rfl) ?_
            refine os_iload_n (i := 3) (q := 3) (v := l3) 3 rfl rfl (hX10_mayConvoy.at 43 rfl rfl) ?_
            refine os_icmp_eq (off := 7) (tgt := 85) rfl (hX10_mayConvoy.at 44 rfl rfl) ?_ ?_
            · exact osW.sub [] rfl (sX10_mayConvoy_85 N )
            · refine os_iconst (i := 1) (v := (1 : Int32)) rfl (hX10_mayConvoy.at 45 rfl rfl) ?_
              refine os_goto (off := 4) (tgt := 86) rfl (hX10_mayConvoy.at 46 rfl rfl) ?_
              exact osW.sub [] rfl (sX10_mayConvoy_86 N (1 : Int32))
set_option maxRecDepth 100000 in
set_option maxHeartbeats 4000000 in
theorem sX10_mayConvoy_29 (N : Nat) (l0 : Nat) (l2 : Int32) (l3 : Int32) : osW (osFinM (fun r : Int32 => some (.int r)) 0 0) yX10_mayConvoy cX10_mayConvoy 5 (some .boolean) [] { frames := 1, cells := 0, slots := 0, locals := 21 } 0 0 29 [(0, .ref l0), (2, .int l2), (3, .int l3)] [] (qX10_mayConvoy_29 N l0 l2 l3) := by
  unfold qX10_mayConvoy_29
  refine os_iconst (i := 0) (v := (0 : Int32)) rfl (hX10_mayConvoy.at 18 rfl rfl) ?_
  exact osW.sub [0, 1, 2] rfl (sX10_mayConvoy_30 N l0 l2 l3 (0 : Int32))
set_option maxRecDepth 100000 in
set_option maxHeartbeats 4000000 in
theorem sX10_mayConvoy (N : Nat) (l0 : Nat) (l1 : Int32) (l2 : Int32) (l3 : Int32) : osMet yX10_mayConvoy cX10_mayConvoy 5 (some .boolean) 1 21 0 0 (fun r : Int32 => some (.int r)) [.ref l0, .int l1, .int l2, .int l3] (qX10_mayConvoy N l0 l1 l2 l3) := by
  refine osMet.of plX10 (Nat.le_of_ble_eq_true rfl) (osW.rw (lv2 := [(0, .ref l0), (1, .int l1), (2, .int l2), (3, .int l3)]) ?_ rfl rfl rfl)
  unfold qX10_mayConvoy
  refine os_aload_n (i := 0) (q := 0) (v := l0) 0 rfl rfl (hX10_mayConvoy.at 0 rfl rfl) ?_
  refine os_getR fX10_16 (hX10_mayConvoy.at 1 rfl rfl) (fun x1 => ?_)
  refine os_bipush (i := 37) (v := (37 : Int32)) rfl (hX10_mayConvoy.at 2 rfl rfl) ?_
  refine os_iload_n (i := 1) (q := 1) (v := l1) 1 rfl rfl (hX10_mayConvoy.at 3 rfl rfl) ?_
  refine os_iadd (hX10_mayConvoy.at 4 rfl rfl) ?_
  refine os_iaload (hX10_mayConvoy.at 5 rfl rfl) (fun x2 => ?_)
  refine os_iconst (i := 1) (v := (1 : Int32)) rfl (hX10_mayConvoy.at 6 rfl rfl) ?_
  refine os_icmp_ne (off := 19) (tgt := 29) rfl (hX10_mayConvoy.at 7 rfl rfl) ?_ ?_
  · exact osW.sub [0, 2, 3] rfl (sX10_mayConvoy_29 N l0 l2 l3)
  · refine os_aload_n (i := 0) (q := 0) (v := l0) 0 rfl rfl (hX10_mayConvoy.at 8 rfl rfl) ?_
    refine os_getR fX10_7 (hX10_mayConvoy.at 9 rfl rfl) (fun x3 => ?_)
    refine os_iconst (i := 2) (v := (2 : Int32)) rfl (hX10_mayConvoy.at 10 rfl rfl) ?_
    refine os_iload_n (i := 1) (q := 1) (v := l1) 1 rfl rfl (hX10_mayConvoy.at 11 rfl rfl) ?_
    refine os_iadd (hX10_mayConvoy.at 12 rfl rfl) ?_
    refine os_iaload (hX10_mayConvoy.at 13 rfl rfl) (fun x4 => ?_)
    refine os_iconst (i := 2) (v := (2 : Int32)) rfl (hX10_mayConvoy.at 14 rfl rfl) ?_
    refine os_icmp_ne (off := 7) (tgt := 29) rfl (hX10_mayConvoy.at 15 rfl rfl) ?_ ?_
    · exact osW.sub [0, 2, 3] rfl (sX10_mayConvoy_29 N l0 l2 l3)
    · refine os_iconst (i := 1) (v := (1 : Int32)) rfl (hX10_mayConvoy.at 16 rfl rfl) ?_
      refine os_goto (off := 4) (tgt := 30) rfl (hX10_mayConvoy.at 17 rfl rfl) ?_
      exact osW.sub [0, 2, 3] rfl (sX10_mayConvoy_30 N l0 l2 l3 (1 : Int32))
-- X10_mayGoBack
def KX10_mayGoBack : List (Nat × Nat × Instr) := [(0, 1, .aload_n 0), (1, 1, .iload_n 1), (2, 1, .iload_n 2), (3, 1, .aload_n 0), (4, 3, .getfield 16), (7, 2, .bipush 69), (9, 1, .iload_n 1), (10, 1, .iadd), (11, 1, .iaload), (12, 3, .invokevirtual 115), (15, 3, .ifCond .eq 44), (18, 1, .aload_n 0), (19, 3, .getfield 16), (22, 1, .iload_n 2), (23, 3, .invokestatic 103), (26, 3, .ifCond .ne 33), (29, 1, .aload_n 0), (30, 3, .getfield 16), (33, 1, .iconst 4), (34, 1, .iaload), (35, 1, .iload_n 2), (36, 3, .invokestatic 111), (39, 3, .ifCond .ne 20), (42, 1, .aload_n 0), (43, 3, .getfield 16), (46, 2, .bipush 85), (48, 1, .iload_n 1), (49, 1, .iadd), (50, 1, .iaload), (51, 1, .iload_n 2), (52, 3, .if_icmp .eq 7), (55, 1, .iconst 1), (56, 3, .goto 4), (59, 1, .iconst 0), (60, 1, .ireturn)]
theorem hX10_mayGoBack : osDs cX10_mayGoBack KX10_mayGoBack := by
  show ∀ q ∈ KX10_mayGoBack, decode cX10_mayGoBack q.1 = .ok (q.2.2, q.2.1)
  decide +kernel
def qX10_mayGoBack_60 (N : Nat) (k0 : Int32) : osM Int32 := osretZ k0
def qX10_mayGoBack_59 (N : Nat) : osM Int32 := qX10_mayGoBack_60 N (0 : Int32)
def qX10_mayGoBack (N : Nat) (l0 : Nat) (l1 : Int32) (l2 : Int32) : osM Int32 := osbind (osgR [8] 3 l0) fun x1 => osbind (osaI 0 x1 ((69 : Int32) + l1)) fun x2 => osbind (osrecv [8] l0 (qX10_canGo N l0 l1 l2 x2)) fun x3 => osite (x3 = 0) (qX10_mayGoBack_59 N ) (osbind (osgR [8] 3 l0) fun x4 => osbind (qX10_isUnit N x4 l2) fun x5 => osite (x5 = 0) (osbind (osgR [8] 3 l0) fun x6 => osbind (osaI 0 x6 (4 : Int32)) fun x7 => osbind (qX10_has N x7 l2) fun x8 => osite (x8 = 0) (osbind (osgR [8] 3 l0) fun x9 => osbind (osaI 0 x9 ((85 : Int32) + l1)) fun x10 => osite (x10 = l2) (qX10_mayGoBack_59 N ) (qX10_mayGoBack_60 N (1 : Int32))) (qX10_mayGoBack_59 N )) (qX10_mayGoBack_59 N ))
set_option maxRecDepth 100000 in
set_option maxHeartbeats 4000000 in
theorem sX10_mayGoBack_60 (N : Nat) (k0 : Int32) : osW (osFinM (fun r : Int32 => some (.int r)) 0 0) yX10_mayGoBack cX10_mayGoBack 3 (some .boolean) [] { frames := 2, cells := 0, slots := 0, locals := 45 } 0 0 60 [] [.int k0] (qX10_mayGoBack_60 N k0) := by
  unfold qX10_mayGoBack_60
  exact os_zret (Nat.le_of_ble_eq_true rfl) (Nat.le_of_ble_eq_true rfl) (hX10_mayGoBack.at 34 rfl rfl).1
set_option maxRecDepth 100000 in
set_option maxHeartbeats 4000000 in
theorem sX10_mayGoBack_59 (N : Nat) : osW (osFinM (fun r : Int32 => some (.int r)) 0 0) yX10_mayGoBack cX10_mayGoBack 3 (some .boolean) [] { frames := 2, cells := 0, slots := 0, locals := 45 } 0 0 59 [] [] (qX10_mayGoBack_59 N) := by
  unfold qX10_mayGoBack_59
  refine os_iconst (i := 0) (v := (0 : Int32)) rfl (hX10_mayGoBack.at 33 rfl rfl) ?_
  exact osW.sub [] rfl (sX10_mayGoBack_60 N (0 : Int32))
set_option maxRecDepth 100000 in
set_option maxHeartbeats 4000000 in
theorem sX10_mayGoBack (N : Nat) (l0 : Nat) (l1 : Int32) (l2 : Int32) : osMet yX10_mayGoBack cX10_mayGoBack 3 (some .boolean) 2 45 0 0 (fun r : Int32 => some (.int r)) [.ref l0, .int l1, .int l2] (qX10_mayGoBack N l0 l1 l2) := by
  refine osMet.of plX10 (Nat.le_of_ble_eq_true rfl) (osW.rw (lv2 := [(0, .ref l0), (1, .int l1), (2, .int l2)]) ?_ rfl rfl rfl)
  unfold qX10_mayGoBack
  refine os_aload_n (i := 0) (q := 0) (v := l0) 0 rfl rfl (hX10_mayGoBack.at 0 rfl rfl) ?_
  refine os_iload_n (i := 1) (q := 1) (v := l1) 1 rfl rfl (hX10_mayGoBack.at 1 rfl rfl) ?_
  refine os_iload_n (i := 2) (q := 2) (v := l2) 2 rfl rfl (hX10_mayGoBack.at 2 rfl rfl) ?_
  refine os_aload_n (i := 0) (q := 0) (v := l0) 0 rfl rfl (hX10_mayGoBack.at 3 rfl rfl) ?_
  refine os_getR fX10_16 (hX10_mayGoBack.at 4 rfl rfl) (fun x1 => ?_)
  refine os_bipush (i := 69) (v := (69 : Int32)) rfl (hX10_mayGoBack.at 5 rfl rfl) ?_
  refine os_iload_n (i := 1) (q := 1) (v := l1) 1 rfl rfl (hX10_mayGoBack.at 6 rfl rfl) ?_
  refine os_iadd (hX10_mayGoBack.at 7 rfl rfl) ?_
  refine os_iaload (hX10_mayGoBack.at 8 rfl rfl) (fun x2 => ?_)
  refine os_callV (cis := [8]) (b := l0) (As := [.int l1, .int l2, .int x2]) (st := []) (st' := (fun r => .int r :: [])) sl8_X10_canGo_X10_canGo mdX10_canGo wd1930 wd1932 (sX10_canGo N l0 l1 l2 x2) rfl rfl (fun _ => rfl) (Nat.le_of_ble_eq_true rfl) (Nat.le_of_ble_eq_true rfl) (Nat.le_of_ble_eq_true rfl) rfl (Nat.le_of_ble_eq_true rfl) rfl (Nat.le_of_ble_eq_true rfl) (hX10_mayGoBack.at 9 rfl rfl) (fun x3 => ?_)
  refine os_if_eq (off := 44) (tgt := 59) rfl (hX10_mayGoBack.at 10 rfl rfl) ?_ ?_
  · exact osW.sub [] rfl (sX10_mayGoBack_59 N )
  · refine os_aload_n (i := 0) (q := 0) (v := l0) 0 rfl rfl (hX10_mayGoBack.at 11 rfl rfl) ?_
    refine os_getR fX10_16 (hX10_mayGoBack.at 12 rfl rfl) (fun x4 => ?_)
    refine os_iload_n (i := 2) (q := 2) (v := l2) 2 rfl rfl (hX10_mayGoBack.at 13 rfl rfl) ?_
    refine os_callS (As := [.ref x4, .int l2]) (st := []) (st' := (fun r => .int r :: [])) mdX10_isUnit wd1879 wd1880 (sX10_isUnit N x4 l2) rfl rfl (fun _ => rfl) (Nat.le_of_ble_eq_true rfl) (Nat.le_of_ble_eq_true rfl) (Nat.le_of_ble_eq_true rfl) rfl (Nat.le_of_ble_eq_true rfl) rfl (Nat.le_of_ble_eq_true rfl) (hX10_mayGoBack.at 14 rfl rfl) (fun x5 => ?_)
    refine os_if_ne (off := 33) (tgt := 59) rfl (hX10_mayGoBack.at 15 rfl rfl) ?_ ?_
    · exact osW.sub [] rfl (sX10_mayGoBack_59 N )
    · refine os_aload_n (i := 0) (q := 0) (v := l0) 0 rfl rfl (hX10_mayGoBack.at 16 rfl rfl) ?_
      refine os_getR fX10_16 (hX10_mayGoBack.at 17 rfl rfl) (fun x6 => ?_)
      refine os_iconst (i := 4) (v := (4 : Int32)) rfl (hX10_mayGoBack.at 18 rfl rfl) ?_
      refine os_iaload (hX10_mayGoBack.at 19 rfl rfl) (fun x7 => ?_)
      refine os_iload_n (i := 2) (q := 2) (v := l2) 2 rfl rfl (hX10_mayGoBack.at 20 rfl rfl) ?_
      refine os_callS (As := [.int x7, .int l2]) (st := []) (st' := (fun r => .int r :: [])) mdX10_has wd1860 wd1861 (sX10_has N x7 l2) rfl rfl (fun _ => rfl) (Nat.le_of_ble_eq_true rfl) (Nat.le_of_ble_eq_true rfl) (Nat.le_of_ble_eq_true rfl) rfl (Nat.le_of_ble_eq_true rfl) rfl (Nat.le_of_ble_eq_true rfl) (hX10_mayGoBack.at 21 rfl rfl) (fun x8 => ?_)
      refine os_if_ne (off := 20) (tgt := 59) rfl (hX10_mayGoBack.at 22 rfl rfl) ?_ ?_
      · exact osW.sub [] rfl (sX10_mayGoBack_59 N )
      · refine os_aload_n (i := 0) (q := 0) (v := l0) 0 rfl rfl (hX10_mayGoBack.at 23 rfl rfl) ?_
        refine os_getR fX10_16 (hX10_mayGoBack.at 24 rfl rfl) (fun x9 => ?_)
        refine os_bipush (i := 85) (v := (85 : Int32)) rfl (hX10_mayGoBack.at 25 rfl rfl) ?_
        refine os_iload_n (i := 1) (q := 1) (v := l1) 1 rfl rfl (hX10_mayGoBack.at 26 rfl rfl) ?_
        refine os_iadd (hX10_mayGoBack.at 27 rfl rfl) ?_
        refine os_iaload (hX10_mayGoBack.at 28 rfl rfl) (fun x10 => ?_)
        refine os_iload_n (i := 2) (q := 2) (v := l2) 2 rfl rfl (hX10_mayGoBack.at 29 rfl rfl) ?_
        refine os_icmp_eq (off := 7) (tgt := 59) rfl (hX10_mayGoBack.at 30 rfl rfl) ?_ ?_
        · exact osW.sub [] rfl (sX10_mayGoBack_59 N )
        · refine os_iconst (i := 1) (v := (1 : Int32)) rfl (hX10_mayGoBack.at 31 rfl rfl) ?_
          refine os_goto (off := 4) (tgt := 60) rfl (hX10_mayGoBack.at 32 rfl rfl) ?_
          exact osW.sub [] rfl (sX10_mayGoBack_60 N (1 : Int32))
-- X10_centersOf
def KX10_centersOf : List (Nat × Nat × Instr) := [(0, 1, .iconst 0), (1, 1, .istore_n 3), (2, 1, .iconst 0), (3, 2, .istore 4), (5, 2, .iload 4), (7, 1, .aload_n 0), (8, 3, .getfield 7), (11, 1, .iconst 0), (12, 1, .iaload), (13, 3, .if_icmp .ge 41), (16, 1, .aload_n 0), (17, 3, .getfield 7), (20, 2, .bipush 18), (22, 2, .iload 4), (24, 1, .iadd), (25, 1, .iaload), (26, 1, .iconst 1), (27, 3, .if_icmp .ne 19), (30, 1, .aload_n 1), (31, 1, .iconst 5), (32, 2, .iload 4), (34, 1, .iadd), (35, 1, .iaload), (36, 1, .iload_n 2), (37, 3, .if_icmp .ne 9), (40, 1, .iload_n 3), (41, 1, .iconst 1), (42, 1, .iadd), (43, 3, .goto 4), (46, 1, .iload_n 3), (47, 1, .istore_n 3), (48, 3, .iinc 4 1), (51, 3, .goto (-46)), (54, 1, .iload_n 3), (55, 1, .ireturn)]
theorem hX10_centersOf : osDs cX10_centersOf KX10_centersOf := by
  show ∀ q ∈ KX10_centersOf, decode cX10_centersOf q.1 = .ok (q.2.2, q.2.1)
  decide +kernel
def qX10_centersOf_47 (N : Nat) (c5 : Nat × Nat × Int32 × Int32 × Int32 → osM Int32) (l0 : Nat) (l1 : Nat) (l2 : Int32) (l4 : Int32) (k0 : Int32) : osM Int32 := c5 (l0, l1, l2, k0, (l4 + (1 : Int32)))
def qX10_centersOf_46 (N : Nat) (c5 : Nat × Nat × Int32 × Int32 × Int32 → osM Int32) (l0 : Nat) (l1 : Nat) (l2 : Int32) (l3 : Int32) (l4 : Int32) : osM Int32 := qX10_centersOf_47 N c5 l0 l1 l2 l4 l3
def bX10_centersOf_5 (N : Nat) (c5 : Nat × Nat × Int32 × Int32 × Int32 → osM Int32) (l0 : Nat) (l1 : Nat) (l2 : Int32) (l3 : Int32) (l4 : Int32) : osM Int32 := osbind (osgR [8] 1 l0) fun x1 => osbind (osaI 0 x1 (0 : Int32)) fun x2 => osite (x2 ≤ l4) (osret l3) (osbind (osgR [8] 1 l0) fun x3 => osbind (osaI 0 x3 ((18 : Int32) + l4)) fun x4 => osite (x4 = (1 : Int32)) (osbind (osaI 0 l1 ((5 : Int32) + l4)) fun x5 => osite (x5 = l2) (qX10_centersOf_47 N c5 l0 l1 l2 l4 (l3 + (1 : Int32))) (qX10_centersOf_46 N c5 l0 l1 l2 l3 l4)) (qX10_centersOf_46 N c5 l0 l1 l2 l3 l4))
def qX10_centersOf_5 (N : Nat) : Nat × Nat × Int32 × Int32 × Int32 → osM Int32 := osloop (fun ih p => bX10_centersOf_5 N ih p.1 p.2.1 p.2.2.1 p.2.2.2.1 p.2.2.2.2) N
def qX10_centersOf (N : Nat) (l0 : Nat) (l1 : Nat) (l2 : Int32) : osM Int32 := qX10_centersOf_5 N (l0, l1, l2, (0 : Int32), (0 : Int32))
set_option maxRecDepth 100000 in
set_option maxHeartbeats 4000000 in
theorem sX10_centersOf_47 (N : Nat) (c5 : Nat × Nat × Int32 × Int32 × Int32 → osM Int32) (g5 : ∀ (l0 : Nat) (l1 : Nat) (l2 : Int32) (l3 : Int32) (l4 : Int32), osW (osFinM (fun r : Int32 => some (.int r)) 0 0) yX10_centersOf cX10_centersOf 5 (some .int) [] { frames := 0, cells := 0, slots := 0, locals := 0 } 0 0 5 [(0, .ref l0), (1, .ref l1), (2, .int l2), (3, .int l3), (4, .int l4)] [] (c5 (l0, l1, l2, l3, l4))) (l0 : Nat) (l1 : Nat) (l2 : Int32) (l4 : Int32) (k0 : Int32) : osW (osFinM (fun r : Int32 => some (.int r)) 0 0) yX10_centersOf cX10_centersOf 5 (some .int) [] { frames := 0, cells := 0, slots := 0, locals := 0 } 0 0 47 [(0, .ref l0), (1, .ref l1), (2, .int l2), (4, .int l4)] [.int k0] (qX10_centersOf_47 N c5 l0 l1 l2 l4 k0) := by
  unfold qX10_centersOf_47
  refine os_istore_n (i := 3) (q := 3) rfl (lv' := [(3, .int k0), (0, .ref l0), (1, .ref l1), (2, .int l2), (4, .int l4)]) (Nat.le_of_ble_eq_true rfl) rfl (hX10_centersOf.at 30 rfl rfl) ?_
  refine os_iinc (i := 4) (d := 1) (x := l4) (v := (1 : Int32)) (lv' := [(4, .int (l4 + (1 : Int32))), (3, .int k0), (0, .ref l0), (1, .ref l1), (2, .int l2)]) 4 rfl rfl (Nat.le_of_ble_eq_true rfl) rfl (hX10_centersOf.at 31 rfl rfl) ?_
  refine os_goto (off := (-46)) (tgt := 5) rfl (hX10_centersOf.at 32 rfl rfl) ?_
  exact osW.sub [2, 3, 4, 1, 0] rfl (g5 l0 l1 l2 k0 (l4 + (1 : Int32)))
set_option maxRecDepth 100000 in
set_option maxHeartbeats 4000000 in
theorem sX10_centersOf_46 (N : Nat) (c5 : Nat × Nat × Int32 × Int32 × Int32 → osM Int32) (g5 : ∀ (l0 : Nat) (l1 : Nat) (l2 : Int32) (l3 : Int32) (l4 : Int32), osW (osFinM (fun r : Int32 => some (.int r)) 0 0) yX10_centersOf cX10_centersOf 5 (some .int) [] { frames := 0, cells := 0, slots := 0, locals := 0 } 0 0 5 [(0, .ref l0), (1, .ref l1), (2, .int l2), (3, .int l3), (4, .int l4)] [] (c5 (l0, l1, l2, l3, l4))) (l0 : Nat) (l1 : Nat) (l2 : Int32) (l3 : Int32) (l4 : Int32) : osW (osFinM (fun r : Int32 => some (.int r)) 0 0) yX10_centersOf cX10_centersOf 5 (some .int) [] { frames := 0, cells := 0, slots := 0, locals := 0 } 0 0 46 [(0, .ref l0), (1, .ref l1), (2, .int l2), (3, .int l3), (4, .int l4)] [] (qX10_centersOf_46 N c5 l0 l1 l2 l3 l4) := by
  unfold qX10_centersOf_46
  refine os_iload_n (i := 3) (q := 3) (v := l3) 3 rfl rfl (hX10_centersOf.at 29 rfl rfl) ?_
  exact osW.sub [0, 1, 2, 4] rfl (sX10_centersOf_47 N c5 g5 l0 l1 l2 l4 l3)
set_option maxRecDepth 100000 in
set_option maxHeartbeats 4000000 in
theorem tX10_centersOf_5 (N : Nat) (c5 : Nat × Nat × Int32 × Int32 × Int32 → osM Int32) (g5 : ∀ (l0 : Nat) (l1 : Nat) (l2 : Int32) (l3 : Int32) (l4 : Int32), osW (osFinM (fun r : Int32 => some (.int r)) 0 0) yX10_centersOf cX10_centersOf 5 (some .int) [] { frames := 0, cells := 0, slots := 0, locals := 0 } 0 0 5 [(0, .ref l0), (1, .ref l1), (2, .int l2), (3, .int l3), (4, .int l4)] [] (c5 (l0, l1, l2, l3, l4))) (l0 : Nat) (l1 : Nat) (l2 : Int32) (l3 : Int32) (l4 : Int32) : osW (osFinM (fun r : Int32 => some (.int r)) 0 0) yX10_centersOf cX10_centersOf 5 (some .int) [] { frames := 0, cells := 0, slots := 0, locals := 0 } 0 0 5 [(0, .ref l0), (1, .ref l1), (2, .int l2), (3, .int l3), (4, .int l4)] [] (bX10_centersOf_5 N c5 l0 l1 l2 l3 l4) := by
  unfold bX10_centersOf_5
  refine os_iload (v := l4) 4 rfl (hX10_centersOf.at 4 rfl rfl) ?_
  refine os_aload_n (i := 0) (q := 0) (v := l0) 0 rfl rfl (hX10_centersOf.at 5 rfl rfl) ?_
  refine os_getR fX10_7 (hX10_centersOf.at 6 rfl rfl) (fun x1 => ?_)
  refine os_iconst (i := 0) (v := (0 : Int32)) rfl (hX10_centersOf.at 7 rfl rfl) ?_
  refine os_iaload (hX10_centersOf.at 8 rfl rfl) (fun x2 => ?_)
  refine os_icmp_ge (off := 41) (tgt := 54) rfl (hX10_centersOf.at 9 rfl rfl) ?_ ?_
  · refine os_iload_n (i := 3) (q := 3) (v := l3) 3 rfl rfl (hX10_centersOf.at 33 rfl rfl) ?_
    exact os_iret (Nat.le_of_ble_eq_true rfl) (Nat.le_of_ble_eq_true rfl) (hX10_centersOf.at 34 rfl rfl).1
  · refine os_aload_n (i := 0) (q := 0) (v := l0) 0 rfl rfl (hX10_centersOf.at 10 rfl rfl) ?_
    refine os_getR fX10_7 (hX10_centersOf.at 11 rfl rfl) (fun x3 => ?_)
    refine os_bipush (i := 18) (v := (18 : Int32)) rfl (hX10_centersOf.at 12 rfl rfl) ?_
    refine os_iload (v := l4) 4 rfl (hX10_centersOf.at 13 rfl rfl) ?_
    refine os_iadd (hX10_centersOf.at 14 rfl rfl) ?_
    refine os_iaload (hX10_centersOf.at 15 rfl rfl) (fun x4 => ?_)
    refine os_iconst (i := 1) (v := (1 : Int32)) rfl (hX10_centersOf.at 16 rfl rfl) ?_
    refine os_icmp_ne (off := 19) (tgt := 46) rfl (hX10_centersOf.at 17 rfl rfl) ?_ ?_
    · exact osW.sub [0, 1, 2, 3, 4] rfl (sX10_centersOf_46 N c5 g5 l0 l1 l2 l3 l4)
    · refine os_aload_n (i := 1) (q := 1) (v := l1) 1 rfl rfl (hX10_centersOf.at 18 rfl rfl) ?_
      refine os_iconst (i := 5) (v := (5 : Int32)) rfl (hX10_centersOf.at 19 rfl rfl) ?_
      refine os_iload (v := l4) 4 rfl (hX10_centersOf.at 20 rfl rfl) ?_
      refine os_iadd (hX10_centersOf.at 21 rfl rfl) ?_
      refine os_iaload (hX10_centersOf.at 22 rfl rfl) (fun x5 => ?_)
      refine os_iload_n (i := 2) (q := 2) (v := l2) 2 rfl rfl (hX10_centersOf.at 23 rfl rfl) ?_
      refine os_icmp_ne (off := 9) (tgt := 46) rfl (hX10_centersOf.at 24 rfl rfl) ?_ ?_
      · exact osW.sub [0, 1, 2, 3, 4] rfl (sX10_centersOf_46 N c5 g5 l0 l1 l2 l3 l4)
      · refine os_iload_n (i := 3) (q := 3) (v := l3) 3 rfl rfl (hX10_centersOf.at 25 rfl rfl) ?_
        refine os_iconst (i := 1) (v := (1 : Int32)) rfl (hX10_centersOf.at 26 rfl rfl) ?_
        refine os_iadd (hX10_centersOf.at 27 rfl rfl) ?_
        refine os_goto (off := 4) (tgt := 47) rfl (hX10_centersOf.at 28 rfl rfl) ?_
        exact osW.sub [0, 1, 2, 4] rfl (sX10_centersOf_47 N c5 g5 l0 l1 l2 l4 (l3 + (1 : Int32)))
set_option maxRecDepth 100000 in
set_option maxHeartbeats 4000000 in
theorem sX10_centersOf_5 (N : Nat) (l0 : Nat) (l1 : Nat) (l2 : Int32) (l3 : Int32) (l4 : Int32) : osW (osFinM (fun r : Int32 => some (.int r)) 0 0) yX10_centersOf cX10_centersOf 5 (some .int) [] { frames := 0, cells := 0, slots := 0, locals := 0 } 0 0 5 [(0, .ref l0), (1, .ref l1), (2, .int l2), (3, .int l3), (4, .int l4)] [] (qX10_centersOf_5 N (l0, l1, l2, l3, l4)) :=
  osloop_W (lvf := fun p => [(0, .ref p.1), (1, .ref p.2.1), (2, .int p.2.2.1), (3, .int p.2.2.2.1), (4, .int p.2.2.2.2)]) (stf := fun p => []) (fun ih g p => tX10_centersOf_5 N ih (fun l0 l1 l2 l3 l4 => g (l0, l1, l2, l3, l4)) p.1 p.2.1 p.2.2.1 p.2.2.2.1 p.2.2.2.2) N (l0, l1, l2, l3, l4)
set_option maxRecDepth 100000 in
set_option maxHeartbeats 4000000 in
theorem sX10_centersOf (N : Nat) (l0 : Nat) (l1 : Nat) (l2 : Int32) : osMet yX10_centersOf cX10_centersOf 5 (some .int) 0 0 0 0 (fun r : Int32 => some (.int r)) [.ref l0, .ref l1, .int l2] (qX10_centersOf N l0 l1 l2) := by
  refine osMet.of plX10 (Nat.le_of_ble_eq_true rfl) (osW.rw (lv2 := [(0, .ref l0), (1, .ref l1), (2, .int l2)]) ?_ rfl rfl rfl)
  unfold qX10_centersOf
  refine os_iconst (i := 0) (v := (0 : Int32)) rfl (hX10_centersOf.at 0 rfl rfl) ?_
  refine os_istore_n (i := 3) (q := 3) rfl (lv' := [(3, .int (0 : Int32)), (0, .ref l0), (1, .ref l1), (2, .int l2)]) (Nat.le_of_ble_eq_true rfl) rfl (hX10_centersOf.at 1 rfl rfl) ?_
  refine os_iconst (i := 0) (v := (0 : Int32)) rfl (hX10_centersOf.at 2 rfl rfl) ?_
  refine os_istore (i := 4) (lv' := [(4, .int (0 : Int32)), (3, .int (0 : Int32)), (0, .ref l0), (1, .ref l1), (2, .int l2)]) (Nat.le_of_ble_eq_true rfl) rfl (hX10_centersOf.at 3 rfl rfl) ?_
  exact osW.sub [2, 3, 4, 1, 0] rfl (sX10_centersOf_5 N l0 l1 l2 (0 : Int32) (0 : Int32))
-- X10_unitsOf
def KX10_unitsOf : List (Nat × Nat × Instr) := [(0, 1, .iconst 0), (1, 1, .istore_n 3), (2, 1, .iconst 0), (3, 2, .istore 4), (5, 2, .iload 4), (7, 1, .aload_n 0), (8, 3, .getfield 7), (11, 1, .iconst 0), (12, 1, .iaload), (13, 3, .if_icmp .ge 42), (16, 1, .aload_n 1), (17, 2, .iload 4), (19, 3, .invokestatic 103), (22, 3, .ifCond .eq 25), (25, 1, .iload_n 2), (26, 1, .iconst (-1)), (27, 3, .if_icmp .eq 14), (30, 1, .aload_n 1), (31, 2, .bipush 21), (33, 2, .iload 4), (35, 1, .iadd), (36, 1, .iaload), (37, 1, .iload_n 2), (38, 3, .if_icmp .ne 9), (41, 1, .iload_n 3), (42, 1, .iconst 1), (43, 1, .iadd), (44, 3, .goto 4), (47, 1, .iload_n 3), (48, 1, .istore_n 3), (49, 3, .iinc 4 1), (52, 3, .goto (-47)), (55, 1, .iload_n 3), (56, 1, .ireturn)]
theorem hX10_unitsOf : osDs cX10_unitsOf KX10_unitsOf := by
  show ∀ q ∈ KX10_unitsOf, decode cX10_unitsOf q.1 = .ok (q.2.2, q.2.1)
  decide +kernel
def qX10_unitsOf_48 (N : Nat) (c5 : Nat × Nat × Int32 × Int32 × Int32 → osM Int32) (l0 : Nat) (l1 : Nat) (l2 : Int32) (l4 : Int32) (k0 : Int32) : osM Int32 := c5 (l0, l1, l2, k0, (l4 + (1 : Int32)))
def qX10_unitsOf_47 (N : Nat) (c5 : Nat × Nat × Int32 × Int32 × Int32 → osM Int32) (l0 : Nat) (l1 : Nat) (l2 : Int32) (l3 : Int32) (l4 : Int32) : osM Int32 := qX10_unitsOf_48 N c5 l0 l1 l2 l4 l3
def qX10_unitsOf_41 (N : Nat) (c5 : Nat × Nat × Int32 × Int32 × Int32 → osM Int32) (l0 : Nat) (l1 : Nat) (l2 : Int32) (l3 : Int32) (l4 : Int32) : osM Int32 := qX10_unitsOf_48 N c5 l0 l1 l2 l4 (l3 + (1 : Int32))
def bX10_unitsOf_5 (N : Nat) (c5 : Nat × Nat × Int32 × Int32 × Int32 → osM Int32) (l0 : Nat) (l1 : Nat) (l2 : Int32) (l3 : Int32) (l4 : Int32) : osM Int32 := osbind (osgR [8] 1 l0) fun x1 => osbind (osaI 0 x1 (0 : Int32)) fun x2 => osite (x2 ≤ l4) (osret l3) (osbind (qX10_isUnit N l1 l4) fun x3 => osite (x3 = 0) (qX10_unitsOf_47 N c5 l0 l1 l2 l3 l4) (osite (l2 = (-1 : Int32)) (qX10_unitsOf_41 N c5 l0 l1 l2 l3 l4) (osbind (osaI 0 l1 ((21 : Int32) + l4)) fun x4 => osite (x4 = l2) (qX10_unitsOf_41 N c5 l0 l1 l2 l3 l4) (qX10_unitsOf_47 N c5 l0 l1 l2 l3 l4))))
def qX10_unitsOf_5 (N : Nat) : Nat × Nat × Int32 × Int32 × Int32 → osM Int32 := osloop (fun ih p => bX10_unitsOf_5 N ih p.1 p.2.1 p.2.2.1 p.2.2.2.1 p.2.2.2.2) N
def qX10_unitsOf (N : Nat) (l0 : Nat) (l1 : Nat) (l2 : Int32) : osM Int32 := qX10_unitsOf_5 N (l0, l1, l2, (0 : Int32), (0 : Int32))
set_option maxRecDepth 100000 in
set_option maxHeartbeats 4000000 in
theorem sX10_unitsOf_48 (N : Nat) (c5 : Nat × Nat × Int32 × Int32 × Int32 → osM Int32) (g5 : ∀ (l0 : Nat) (l1 : Nat) (l2 : Int32) (l3 : Int32) (l4 : Int32), osW (osFinM (fun r : Int32 => some (.int r)) 0 0) yX10_unitsOf cX10_unitsOf 5 (some .int) [] { frames := 1, cells := 0, slots := 0, locals := 21 } 0 0 5 [(0, .ref l0), (1, .ref l1), (2, .int l2), (3, .int l3), (4, .int l4)] [] (c5 (l0, l1, l2, l3, l4))) (l0 : Nat) (l1 : Nat) (l2 : Int32) (l4 : Int32) (k0 : Int32) : osW (osFinM (fun r : Int32 => some (.int r)) 0 0) yX10_unitsOf cX10_unitsOf 5 (some .int) [] { frames := 1, cells := 0, slots := 0, locals := 21 } 0 0 48 [(0, .ref l0), (1, .ref l1), (2, .int l2), (4, .int l4)] [.int k0] (qX10_unitsOf_48 N c5 l0 l1 l2 l4 k0) := by
  unfold qX10_unitsOf_48
  refine os_istore_n (i := 3) (q := 3) rfl (lv' := [(3, .int k0), (0, .ref l0), (1, .ref l1), (2, .int l2), (4, .int l4)]) (Nat.le_of_ble_eq_true rfl) rfl (hX10_unitsOf.at 29 rfl rfl) ?_
  refine os_iinc (i := 4) (d := 1) (x := l4) (v := (1 : Int32)) (lv' := [(4, .int (l4 + (1 : Int32))), (3, .int k0), (0, .ref l0), (1, .ref l1), (2, .int l2)]) 4 rfl rfl (Nat.le_of_ble_eq_true rfl) rfl (hX10_unitsOf.at 30 rfl rfl) ?_
  refine os_goto (off := (-47)) (tgt := 5) rfl (hX10_unitsOf.at 31 rfl rfl) ?_
  exact osW.sub [2, 3, 4, 1, 0] rfl (g5 l0 l1 l2 k0 (l4 + (1 : Int32)))
set_option maxRecDepth 100000 in
set_option maxHeartbeats 4000000 in
theorem sX10_unitsOf_47 (N : Nat) (c5 : Nat × Nat × Int32 × Int32 × Int32 → osM Int32) (g5 : ∀ (l0 : Nat) (l1 : Nat) (l2 : Int32) (l3 : Int32) (l4 : Int32), osW (osFinM (fun r : Int32 => some (.int r)) 0 0) yX10_unitsOf cX10_unitsOf 5 (some .int) [] { frames := 1, cells := 0, slots := 0, locals := 21 } 0 0 5 [(0, .ref l0), (1, .ref l1), (2, .int l2), (3, .int l3), (4, .int l4)] [] (c5 (l0, l1, l2, l3, l4))) (l0 : Nat) (l1 : Nat) (l2 : Int32) (l3 : Int32) (l4 : Int32) : osW (osFinM (fun r : Int32 => some (.int r)) 0 0) yX10_unitsOf cX10_unitsOf 5 (some .int) [] { frames := 1, cells := 0, slots := 0, locals := 21 } 0 0 47 [(0, .ref l0), (1, .ref l1), (2, .int l2), (3, .int l3), (4, .int l4)] [] (qX10_unitsOf_47 N c5 l0 l1 l2 l3 l4) := by
  unfold qX10_unitsOf_47
  refine os_iload_n (i := 3) (q := 3) (v := l3) 3 rfl rfl (hX10_unitsOf.at 28 rfl rfl) ?_
  exact osW.sub [0, 1, 2, 4] rfl (sX10_unitsOf_48 N c5 g5 l0 l1 l2 l4 l3)
set_option maxRecDepth 100000 in
set_option maxHeartbeats 4000000 in
theorem sX10_unitsOf_41 (N : Nat) (c5 : Nat × Nat × Int32 × Int32 × Int32 → osM Int32) (g5 : ∀ (l0 : Nat) (l1 : Nat) (l2 : Int32) (l3 : Int32) (l4 : Int32), osW (osFinM (fun r : Int32 => some (.int r)) 0 0) yX10_unitsOf cX10_unitsOf 5 (some .int) [] { frames := 1, cells := 0, slots := 0, locals := 21 } 0 0 5 [(0, .ref l0), (1, .ref l1), (2, .int l2), (3, .int l3), (4, .int l4)] [] (c5 (l0, l1, l2, l3, l4))) (l0 : Nat) (l1 : Nat) (l2 : Int32) (l3 : Int32) (l4 : Int32) : osW (osFinM (fun r : Int32 => some (.int r)) 0 0) yX10_unitsOf cX10_unitsOf 5 (some .int) [] { frames := 1, cells := 0, slots := 0, locals := 21 } 0 0 41 [(0, .ref l0), (1, .ref l1), (2, .int l2), (3, .int l3), (4, .int l4)] [] (qX10_unitsOf_41 N c5 l0 l1 l2 l3 l4) := by
  unfold qX10_unitsOf_41
  refine os_iload_n (i := 3) (q := 3) (v := l3) 3 rfl rfl (hX10_unitsOf.at 24 rfl rfl) ?_
  refine os_iconst (i := 1) (v := (1 : Int32)) rfl (hX10_unitsOf.at 25 rfl rfl) ?_
  refine os_iadd (hX10_unitsOf.at 26 rfl rfl) ?_
  refine os_goto (off := 4) (tgt := 48) rfl (hX10_unitsOf.at 27 rfl rfl) ?_
  exact osW.sub [0, 1, 2, 4] rfl (sX10_unitsOf_48 N c5 g5 l0 l1 l2 l4 (l3 + (1 : Int32)))
set_option maxRecDepth 100000 in
set_option maxHeartbeats 4000000 in
theorem tX10_unitsOf_5 (N : Nat) (c5 : Nat × Nat × Int32 × Int32 × Int32 → osM Int32) (g5 : ∀ (l0 : Nat) (l1 : Nat) (l2 : Int32) (l3 : Int32) (l4 : Int32), osW (osFinM (fun r : Int32 => some (.int r)) 0 0) yX10_unitsOf cX10_unitsOf 5 (some .int) [] { frames := 1, cells := 0, slots := 0, locals := 21 } 0 0 5 [(0, .ref l0), (1, .ref l1), (2, .int l2), (3, .int l3), (4, .int l4)] [] (c5 (l0, l1, l2, l3, l4))) (l0 : Nat) (l1 : Nat) (l2 : Int32) (l3 : Int32) (l4 : Int32) : osW (osFinM (fun r : Int32 => some (.int r)) 0 0) yX10_unitsOf cX10_unitsOf 5 (some .int) [] { frames := 1, cells := 0, slots := 0, locals := 21 } 0 0 5 [(0, .ref l0), (1, .ref l1), (2, .int l2), (3, .int l3), (4, .int l4)] [] (bX10_unitsOf_5 N c5 l0 l1 l2 l3 l4) := by
  unfold bX10_unitsOf_5
  refine os_iload (v := l4) 4 rfl (hX10_unitsOf.at 4 rfl rfl) ?_
  refine os_aload_n (i := 0) (q := 0) (v := l0) 0 rfl rfl (hX10_unitsOf.at 5 rfl rfl) ?_
  refine os_getR fX10_7 (hX10_unitsOf.at 6 rfl rfl) (fun x1 => ?_)
  refine os_iconst (i := 0) (v := (0 : Int32)) rfl (hX10_unitsOf.at 7 rfl rfl) ?_
  refine os_iaload (hX10_unitsOf.at 8 rfl rfl) (fun x2 => ?_)
  refine os_icmp_ge (off := 42) (tgt := 55) rfl (hX10_unitsOf.at 9 rfl rfl) ?_ ?_
  · refine os_iload_n (i := 3) (q := 3) (v := l3) 3 rfl rfl (hX10_unitsOf.at 32 rfl rfl) ?_
    exact os_iret (Nat.le_of_ble_eq_true rfl) (Nat.le_of_ble_eq_true rfl) (hX10_unitsOf.at 33 rfl rfl).1
  · refine os_aload_n (i := 1) (q := 1) (v := l1) 1 rfl rfl (hX10_unitsOf.at 10 rfl rfl) ?_
    refine os_iload (v := l4) 4 rfl (hX10_unitsOf.at 11 rfl rfl) ?_
    refine os_callS (As := [.ref l1, .int l4]) (st := []) (st' := (fun r => .int r :: [])) mdX10_isUnit wd1879 wd1880 (sX10_isUnit N l1 l4) rfl rfl (fun _ => rfl) (Nat.le_of_ble_eq_true rfl) (Nat.le_of_ble_eq_true rfl) (Nat.le_of_ble_eq_true rfl) rfl (Nat.le_of_ble_eq_true rfl) rfl (Nat.le_of_ble_eq_true rfl) (hX10_unitsOf.at 12 rfl rfl) (fun x3 => ?_)
    refine os_if_eq (off := 25) (tgt := 47) rfl (hX10_unitsOf.at 13 rfl rfl) ?_ ?_
    · exact osW.sub [0, 1, 2, 3, 4] rfl (sX10_unitsOf_47 N c5 g5 l0 l1 l2 l3 l4)
    · refine os_iload_n (i := 2) (q := 2) (v := l2) 2 rfl rfl (hX10_unitsOf.at 14 rfl rfl) ?_
      refine os_iconst (i := (-1)) (v := (-1 : Int32)) rfl (hX10_unitsOf.at 15 rfl rfl) ?_
      refine os_icmp_eq (off := 14) (tgt := 41) rfl (hX10_unitsOf.at 16 rfl rfl) ?_ ?_
      · exact osW.sub [0, 1, 2, 3, 4] rfl (sX10_unitsOf_41 N c5 g5 l0 l1 l2 l3 l4)
      · refine os_aload_n (i := 1) (q := 1) (v := l1) 1 rfl rfl (hX10_unitsOf.at 17 rfl rfl) ?_
        refine os_bipush (i := 21) (v := (21 : Int32)) rfl (hX10_unitsOf.at 18 rfl rfl) ?_
        refine os_iload (v := l4) 4 rfl (hX10_unitsOf.at 19 rfl rfl) ?_
        refine os_iadd (hX10_unitsOf.at 20 rfl rfl) ?_
        refine os_iaload (hX10_unitsOf.at 21 rfl rfl) (fun x4 => ?_)
        refine os_iload_n (i := 2) (q := 2) (v := l2) 2 rfl rfl (hX10_unitsOf.at 22 rfl rfl) ?_
        refine os_icmp_ne (off := 9) (tgt := 47) rfl (hX10_unitsOf.at 23 rfl rfl) ?_ ?_
        · exact osW.sub [0, 1, 2, 3, 4] rfl (sX10_unitsOf_47 N c5 g5 l0 l1 l2 l3 l4)
        · exact osW.sub [0, 1, 2, 3, 4] rfl (sX10_unitsOf_41 N c5 g5 l0 l1 l2 l3 l4)
set_option maxRecDepth 100000 in
set_option maxHeartbeats 4000000 in
theorem sX10_unitsOf_5 (N : Nat) (l0 : Nat) (l1 : Nat) (l2 : Int32) (l3 : Int32) (l4 : Int32) : osW (osFinM (fun r : Int32 => some (.int r)) 0 0) yX10_unitsOf cX10_unitsOf 5 (some .int) [] { frames := 1, cells := 0, slots := 0, locals := 21 } 0 0 5 [(0, .ref l0), (1, .ref l1), (2, .int l2), (3, .int l3), (4, .int l4)] [] (qX10_unitsOf_5 N (l0, l1, l2, l3, l4)) :=
  osloop_W (lvf := fun p => [(0, .ref p.1), (1, .ref p.2.1), (2, .int p.2.2.1), (3, .int p.2.2.2.1), (4, .int p.2.2.2.2)]) (stf := fun p => []) (fun ih g p => tX10_unitsOf_5 N ih (fun l0 l1 l2 l3 l4 => g (l0, l1, l2, l3, l4)) p.1 p.2.1 p.2.2.1 p.2.2.2.1 p.2.2.2.2) N (l0, l1, l2, l3, l4)
set_option maxRecDepth 100000 in
set_option maxHeartbeats 4000000 in
theorem sX10_unitsOf (N : Nat) (l0 : Nat) (l1 : Nat) (l2 : Int32) : osMet yX10_unitsOf cX10_unitsOf 5 (some .int) 1 21 0 0 (fun r : Int32 => some (.int r)) [.ref l0, .ref l1, .int l2] (qX10_unitsOf N l0 l1 l2) := by
  refine osMet.of plX10 (Nat.le_of_ble_eq_true rfl) (osW.rw (lv2 := [(0, .ref l0), (1, .ref l1), (2, .int l2)]) ?_ rfl rfl rfl)
  unfold qX10_unitsOf
  refine os_iconst (i := 0) (v := (0 : Int32)) rfl (hX10_unitsOf.at 0 rfl rfl) ?_
  refine os_istore_n (i := 3) (q := 3) rfl (lv' := [(3, .int (0 : Int32)), (0, .ref l0), (1, .ref l1), (2, .int l2)]) (Nat.le_of_ble_eq_true rfl) rfl (hX10_unitsOf.at 1 rfl rfl) ?_
  refine os_iconst (i := 0) (v := (0 : Int32)) rfl (hX10_unitsOf.at 2 rfl rfl) ?_
  refine os_istore (i := 4) (lv' := [(4, .int (0 : Int32)), (3, .int (0 : Int32)), (0, .ref l0), (1, .ref l1), (2, .int l2)]) (Nat.le_of_ble_eq_true rfl) rfl (hX10_unitsOf.at 3 rfl rfl) ?_
  exact osW.sub [2, 3, 4, 1, 0] rfl (sX10_unitsOf_5 N l0 l1 l2 (0 : Int32) (0 : Int32))
-- X10_homesOf
def KX10_homesOf : List (Nat × Nat × Instr) := [(0, 1, .iconst 0), (1, 1, .istore_n 2), (2, 1, .iconst 0), (3, 1, .istore_n 3), (4, 1, .iload_n 3), (5, 1, .aload_n 0), (6, 3, .getfield 7), (9, 1, .iconst 0), (10, 1, .iaload), (11, 3, .if_icmp .ge 30), (14, 1, .aload_n 0), (15, 3, .getfield 7), (18, 2, .bipush 34), (20, 1, .iload_n 3), (21, 1, .iadd), (22, 1, .iaload), (23, 1, .iload_n 1), (24, 3, .if_icmp .ne 9), (27, 1, .iload_n 2), (28, 1, .iconst 1), (29, 1, .iadd), (30, 3, .goto 4), (33, 1, .iload_n 2), (34, 1, .istore_n 2), (35, 3, .iinc 3 1), (38, 3, .goto (-34)), (41, 1, .iload_n 2), (42, 1, .ireturn)]
theorem hX10_homesOf : osDs cX10_homesOf KX10_homesOf := by
  show ∀ q ∈ KX10_homesOf, decode cX10_homesOf q.1 = .ok (q.2.2, q.2.1)
  decide +kernel
def qX10_homesOf_34 (N : Nat) (c4 : Nat × Int32 × Int32 × Int32 → osM Int32) (l0 : Nat) (l1 : Int32) (l3 : Int32) (k0 : Int32) : osM Int32 := c4 (l0, l1, k0, (l3 + (1 : Int32)))
def bX10_homesOf_4 (N : Nat) (c4 : Nat × Int32 × Int32 × Int32 → osM Int32) (l0 : Nat) (l1 : Int32) (l2 : Int32) (l3 : Int32) : osM Int32 := osbind (osgR [8] 1 l0) fun x1 => osbind (osaI 0 x1 (0 : Int32)) fun x2 => osite (x2 ≤ l3) (osret l2) (osbind (osgR [8] 1 l0) fun x3 => osbind (osaI 0 x3 ((34 : Int32) + l3)) fun x4 => osite (x4 = l1) (qX10_homesOf_34 N c4 l0 l1 l3 (l2 + (1 : Int32))) (qX10_homesOf_34 N c4 l0 l1 l3 l2))
def qX10_homesOf_4 (N : Nat) : Nat × Int32 × Int32 × Int32 → osM Int32 := osloop (fun ih p => bX10_homesOf_4 N ih p.1 p.2.1 p.2.2.1 p.2.2.2) N
def qX10_homesOf (N : Nat) (l0 : Nat) (l1 : Int32) : osM Int32 := qX10_homesOf_4 N (l0, l1, (0 : Int32), (0 : Int32))
set_option maxRecDepth 100000 in
set_option maxHeartbeats 4000000 in
theorem sX10_homesOf_34 (N : Nat) (c4 : Nat × Int32 × Int32 × Int32 → osM Int32) (g4 : ∀ (l0 : Nat) (l1 : Int32) (l2 : Int32) (l3 : Int32), osW (osFinM (fun r : Int32 => some (.int r)) 0 0) yX10_homesOf cX10_homesOf 4 (some .int) [] { frames := 0, cells := 0, slots := 0, locals := 0 } 0 0 4 [(0, .ref l0), (1, .int l1), (2, .int l2), (3, .int l3)] [] (c4 (l0, l1, l2, l3))) (l0 : Nat) (l1 : Int32) (l3 : Int32) (k0 : Int32) : osW (osFinM (fun r : Int32 => some (.int r)) 0 0) yX10_homesOf cX10_homesOf 4 (some .int) [] { frames := 0, cells := 0, slots := 0, locals := 0 } 0 0 34 [(0, .ref l0), (1, .int l1), (3, .int l3)] [.int k0] (qX10_homesOf_34 N c4 l0 l1 l3 k0) := by
  unfold qX10_homesOf_34
  refine os_istore_n (i := 2) (q := 2) rfl (lv' := [(2, .int k0), (0, .ref l0), (1, .int l1), (3, .int l3)]) (Nat.le_of_ble_eq_true rfl) rfl (hX10_homesOf.at 23 rfl rfl) ?_
  refine os_iinc (i := 3) (d := 1) (x := l3) (v := (1 : Int32)) (lv' := [(3, .int (l3 + (1 : Int32))), (2, .int k0), (0, .ref l0), (1, .int l1)]) 3 rfl rfl (Nat.le_of_ble_eq_true rfl) rfl (hX10_homesOf.at 24 rfl rfl) ?_
  refine os_goto (off := (-34)) (tgt := 4) rfl (hX10_homesOf.at 25 rfl rfl) ?_
  exact osW.sub [2, 3, 1, 0] rfl (g4 l0 l1 k0 (l3 + (1 : Int32)))
set_option maxRecDepth 100000 in
set_option maxHeartbeats 4000000 in
theorem tX10_homesOf_4 (N : Nat) (c4 : Nat × Int32 × Int32 × Int32 → osM Int32) (g4 : ∀ (l0 : Nat) (l1 : Int32) (l2 : Int32) (l3 : Int32), osW (osFinM (fun r : Int32 => some (.int r)) 0 0) yX10_homesOf cX10_homesOf 4 (some .int) [] { frames := 0, cells := 0, slots := 0, locals := 0 } 0 0 4 [(0, .ref l0), (1, .int l1), (2, .int l2), (3, .int l3)] [] (c4 (l0, l1, l2, l3))) (l0 : Nat) (l1 : Int32) (l2 : Int32) (l3 : Int32) : osW (osFinM (fun r : Int32 => some (.int r)) 0 0) yX10_homesOf cX10_homesOf 4 (some .int) [] { frames := 0, cells := 0, slots := 0, locals := 0 } 0 0 4 [(0, .ref l0), (1, .int l1), (2, .int l2), (3, .int l3)] [] (bX10_homesOf_4 N c4 l0 l1 l2 l3) := by
  unfold bX10_homesOf_4
  refine os_iload_n (i := 3) (q := 3) (v := l3) 3 rfl rfl (hX10_homesOf.at 4 rfl rfl) ?_
  refine os_aload_n (i := 0) (q := 0) (v := l0) 0 rfl rfl (hX10_homesOf.at 5 rfl rfl) ?_
  refine os_getR fX10_7 (hX10_homesOf.at 6 rfl rfl) (fun x1 => ?_)
  refine os_iconst (i := 0) (v := (0 : Int32)) rfl (hX10_homesOf.at 7 rfl rfl) ?_
  refine os_iaload (hX10_homesOf.at 8 rfl rfl) (fun x2 => ?_)
  refine os_icmp_ge (off := 30) (tgt := 41) rfl (hX10_homesOf.at 9 rfl rfl) ?_ ?_
  · refine os_iload_n (i := 2) (q := 2) (v := l2) 2 rfl rfl (hX10_homesOf.at 26 rfl rfl) ?_
    exact os_iret (Nat.le_of_ble_eq_true rfl) (Nat.le_of_ble_eq_true rfl) (hX10_homesOf.at 27 rfl rfl).1
  · refine os_aload_n (i := 0) (q := 0) (v := l0) 0 rfl rfl (hX10_homesOf.at 10 rfl rfl) ?_
    refine os_getR fX10_7 (hX10_homesOf.at 11 rfl rfl) (fun x3 => ?_)
    refine os_bipush (i := 34) (v := (34 : Int32)) rfl (hX10_homesOf.at 12 rfl rfl) ?_
    refine os_iload_n (i := 3) (q := 3) (v := l3) 3 rfl rfl (hX10_homesOf.at 13 rfl rfl) ?_
    refine os_iadd (hX10_homesOf.at 14 rfl rfl) ?_
    refine os_iaload (hX10_homesOf.at 15 rfl rfl) (fun x4 => ?_)
    refine os_iload_n (i := 1) (q := 1) (v := l1) 1 rfl rfl (hX10_homesOf.at 16 rfl rfl) ?_
    refine os_icmp_ne (off := 9) (tgt := 33) rfl (hX10_homesOf.at 17 rfl rfl) ?_ ?_
    · refine os_iload_n (i := 2) (q := 2) (v := l2) 2 rfl rfl (hX10_homesOf.at 22 rfl rfl) ?_
      exact osW.sub [0, 1, 3] rfl (sX10_homesOf_34 N c4 g4 l0 l1 l3 l2)
    · refine os_iload_n (i := 2) (q := 2) (v := l2) 2 rfl rfl (hX10_homesOf.at 18 rfl rfl) ?_
      refine os_iconst (i := 1) (v := (1 : Int32)) rfl (hX10_homesOf.at 19 rfl rfl) ?_
      refine os_iadd (hX10_homesOf.at 20 rfl rfl) ?_
      refine os_goto (off := 4) (tgt := 34) rfl (hX10_homesOf.at 21 rfl rfl) ?_
      exact osW.sub [0, 1, 3] rfl (sX10_homesOf_34 N c4 g4 l0 l1 l3 (l2 + (1 : Int32)))
set_option maxRecDepth 100000 in
set_option maxHeartbeats 4000000 in
theorem sX10_homesOf_4 (N : Nat) (l0 : Nat) (l1 : Int32) (l2 : Int32) (l3 : Int32) : osW (osFinM (fun r : Int32 => some (.int r)) 0 0) yX10_homesOf cX10_homesOf 4 (some .int) [] { frames := 0, cells := 0, slots := 0, locals := 0 } 0 0 4 [(0, .ref l0), (1, .int l1), (2, .int l2), (3, .int l3)] [] (qX10_homesOf_4 N (l0, l1, l2, l3)) :=
  osloop_W (lvf := fun p => [(0, .ref p.1), (1, .int p.2.1), (2, .int p.2.2.1), (3, .int p.2.2.2)]) (stf := fun p => []) (fun ih g p => tX10_homesOf_4 N ih (fun l0 l1 l2 l3 => g (l0, l1, l2, l3)) p.1 p.2.1 p.2.2.1 p.2.2.2) N (l0, l1, l2, l3)
set_option maxRecDepth 100000 in
set_option maxHeartbeats 4000000 in
theorem sX10_homesOf (N : Nat) (l0 : Nat) (l1 : Int32) : osMet yX10_homesOf cX10_homesOf 4 (some .int) 0 0 0 0 (fun r : Int32 => some (.int r)) [.ref l0, .int l1] (qX10_homesOf N l0 l1) := by
  refine osMet.of plX10 (Nat.le_of_ble_eq_true rfl) (osW.rw (lv2 := [(0, .ref l0), (1, .int l1)]) ?_ rfl rfl rfl)
  unfold qX10_homesOf
  refine os_iconst (i := 0) (v := (0 : Int32)) rfl (hX10_homesOf.at 0 rfl rfl) ?_
  refine os_istore_n (i := 2) (q := 2) rfl (lv' := [(2, .int (0 : Int32)), (0, .ref l0), (1, .int l1)]) (Nat.le_of_ble_eq_true rfl) rfl (hX10_homesOf.at 1 rfl rfl) ?_
  refine os_iconst (i := 0) (v := (0 : Int32)) rfl (hX10_homesOf.at 2 rfl rfl) ?_
  refine os_istore_n (i := 3) (q := 3) rfl (lv' := [(3, .int (0 : Int32)), (2, .int (0 : Int32)), (0, .ref l0), (1, .int l1)]) (Nat.le_of_ble_eq_true rfl) rfl (hX10_homesOf.at 3 rfl rfl) ?_
  exact osW.sub [2, 3, 1, 0] rfl (sX10_homesOf_4 N l0 l1 (0 : Int32) (0 : Int32))
-- X10_isFreeHome
def KX10_isFreeHome : List (Nat × Nat × Instr) := [(0, 1, .aload_n 0), (1, 3, .getfield 7), (4, 2, .bipush 34), (6, 1, .iload_n 2), (7, 1, .iadd), (8, 1, .iaload), (9, 1, .iload_n 3), (10, 3, .if_icmp .ne 24), (13, 1, .aload_n 1), (14, 1, .iconst 5), (15, 1, .iload_n 2), (16, 1, .iadd), (17, 1, .iaload), (18, 1, .iload_n 3), (19, 3, .if_icmp .ne 15), (22, 1, .aload_n 1), (23, 1, .iload_n 2), (24, 3, .invokestatic 103), (27, 3, .ifCond .ne 7), (30, 1, .iconst 1), (31, 3, .goto 4), (34, 1, .iconst 0), (35, 1, .ireturn)]
theorem hX10_isFreeHome : osDs cX10_isFreeHome KX10_isFreeHome := by
  show ∀ q ∈ KX10_isFreeHome, decode cX10_isFreeHome q.1 = .ok (q.2.2, q.2.1)
  decide +kernel
def qX10_isFreeHome_35 (N : Nat) (k0 : Int32) : osM Int32 := osretZ k0
def qX10_isFreeHome_34 (N : Nat) : osM Int32 := qX10_isFreeHome_35 N (0 : Int32)
def qX10_isFreeHome (N : Nat) (l0 : Nat) (l1 : Nat) (l2 : Int32) (l3 : Int32) : osM Int32 := osbind (osgR [8] 1 l0) fun x1 => osbind (osaI 0 x1 ((34 : Int32) + l2)) fun x2 => osite (x2 = l3) (osbind (osaI 0 l1 ((5 : Int32) + l2)) fun x3 => osite (x3 = l3) (osbind (qX10_isUnit N l1 l2) fun x4 => osite (x4 = 0) (qX10_isFreeHome_35 N (1 : Int32)) (qX10_isFreeHome_34 N )) (qX10_isFreeHome_34 N )) (qX10_isFreeHome_34 N )
set_option maxRecDepth 100000 in
set_option maxHeartbeats 4000000 in
theorem sX10_isFreeHome_35 (N : Nat) (k0 : Int32) : osW (osFinM (fun r : Int32 => some (.int r)) 0 0) yX10_isFreeHome cX10_isFreeHome 4 (some .boolean) [] { frames := 1, cells := 0, slots := 0, locals := 21 } 0 0 35 [] [.int k0] (qX10_isFreeHome_35 N k0) := by
  unfold qX10_isFreeHome_35
  exact os_zret (Nat.le_of_ble_eq_true rfl) (Nat.le_of_ble_eq_true rfl) (hX10_isFreeHome.at 22 rfl rfl).1
set_option maxRecDepth 100000 in
set_option maxHeartbeats 4000000 in
theorem sX10_isFreeHome_34 (N : Nat) : osW (osFinM (fun r : Int32 => some (.int r)) 0 0) yX10_isFreeHome cX10_isFreeHome 4 (some .boolean) [] { frames := 1, cells := 0, slots := 0, locals := 21 } 0 0 34 [] [] (qX10_isFreeHome_34 N) := by
  unfold qX10_isFreeHome_34
  refine os_iconst (i := 0) (v := (0 : Int32)) rfl (hX10_isFreeHome.at 21 rfl rfl) ?_
  exact osW.sub [] rfl (sX10_isFreeHome_35 N (0 : Int32))
set_option maxRecDepth 100000 in
set_option maxHeartbeats 4000000 in
theorem sX10_isFreeHome (N : Nat) (l0 : Nat) (l1 : Nat) (l2 : Int32) (l3 : Int32) : osMet yX10_isFreeHome cX10_isFreeHome 4 (some .boolean) 1 21 0 0 (fun r : Int32 => some (.int r)) [.ref l0, .ref l1, .int l2, .int l3] (qX10_isFreeHome N l0 l1 l2 l3) := by
  refine osMet.of plX10 (Nat.le_of_ble_eq_true rfl) (osW.rw (lv2 := [(0, .ref l0), (1, .ref l1), (2, .int l2), (3, .int l3)]) ?_ rfl rfl rfl)
  unfold qX10_isFreeHome
  refine os_aload_n (i := 0) (q := 0) (v := l0) 0 rfl rfl (hX10_isFreeHome.at 0 rfl rfl) ?_
  refine os_getR fX10_7 (hX10_isFreeHome.at 1 rfl rfl) (fun x1 => ?_)
  refine os_bipush (i := 34) (v := (34 : Int32)) rfl (hX10_isFreeHome.at 2 rfl rfl) ?_
  refine os_iload_n (i := 2) (q := 2) (v := l2) 2 rfl rfl (hX10_isFreeHome.at 3 rfl rfl) ?_
  refine os_iadd (hX10_isFreeHome.at 4 rfl rfl) ?_
  refine os_iaload (hX10_isFreeHome.at 5 rfl rfl) (fun x2 => ?_)
  refine os_iload_n (i := 3) (q := 3) (v := l3) 3 rfl rfl (hX10_isFreeHome.at 6 rfl rfl) ?_
  refine os_icmp_ne (off := 24) (tgt := 34) rfl (hX10_isFreeHome.at 7 rfl rfl) ?_ ?_
  · exact osW.sub [] rfl (sX10_isFreeHome_34 N )
  · refine os_aload_n (i := 1) (q := 1) (v := l1) 1 rfl rfl (hX10_isFreeHome.at 8 rfl rfl) ?_
    refine os_iconst (i := 5) (v := (5 : Int32)) rfl (hX10_isFreeHome.at 9 rfl rfl) ?_
    refine os_iload_n (i := 2) (q := 2) (v := l2) 2 rfl rfl (hX10_isFreeHome.at 10 rfl rfl) ?_
    refine os_iadd (hX10_isFreeHome.at 11 rfl rfl) ?_
    refine os_iaload (hX10_isFreeHome.at 12 rfl rfl) (fun x3 => ?_)
    refine os_iload_n (i := 3) (q := 3) (v := l3) 3 rfl rfl (hX10_isFreeHome.at 13 rfl rfl) ?_
    refine os_icmp_ne (off := 15) (tgt := 34) rfl (hX10_isFreeHome.at 14 rfl rfl) ?_ ?_
    · exact osW.sub [] rfl (sX10_isFreeHome_34 N )
    · refine os_aload_n (i := 1) (q := 1) (v := l1) 1 rfl rfl (hX10_isFreeHome.at 15 rfl rfl) ?_
      refine os_iload_n (i := 2) (q := 2) (v := l2) 2 rfl rfl (hX10_isFreeHome.at 16 rfl rfl) ?_
      refine os_callS (As := [.ref l1, .int l2]) (st := []) (st' := (fun r => .int r :: [])) mdX10_isUnit wd1879 wd1880 (sX10_isUnit N l1 l2) rfl rfl (fun _ => rfl) (Nat.le_of_ble_eq_true rfl) (Nat.le_of_ble_eq_true rfl) (Nat.le_of_ble_eq_true rfl) rfl (Nat.le_of_ble_eq_true rfl) rfl (Nat.le_of_ble_eq_true rfl) (hX10_isFreeHome.at 17 rfl rfl) (fun x4 => ?_)
      refine os_if_ne (off := 7) (tgt := 34) rfl (hX10_isFreeHome.at 18 rfl rfl) ?_ ?_
      · exact osW.sub [] rfl (sX10_isFreeHome_34 N )
      · refine os_iconst (i := 1) (v := (1 : Int32)) rfl (hX10_isFreeHome.at 19 rfl rfl) ?_
        refine os_goto (off := 4) (tgt := 35) rfl (hX10_isFreeHome.at 20 rfl rfl) ?_
        exact osW.sub [] rfl (sX10_isFreeHome_35 N (1 : Int32))
-- X10_buildsOf
def KX10_buildsOf : List (Nat × Nat × Instr) := [(0, 1, .aload_n 0), (1, 1, .aload_n 1), (2, 1, .iload_n 2), (3, 3, .invokevirtual 124), (6, 1, .aload_n 0), (7, 1, .aload_n 1), (8, 1, .iload_n 2), (9, 3, .invokevirtual 128), (12, 1, .isub), (13, 1, .istore_n 3), (14, 1, .iload_n 3), (15, 3, .ifCond .gt 5), (18, 1, .iload_n 3), (19, 1, .ireturn), (20, 1, .iconst 0), (21, 2, .istore 4), (23, 1, .iconst 0), (24, 2, .istore 5), (26, 2, .iload 5), (28, 1, .aload_n 0), (29, 3, .getfield 7), (32, 1, .iconst 0), (33, 1, .iaload), (34, 3, .if_icmp .ge 31), (37, 1, .aload_n 0), (38, 1, .aload_n 1), (39, 2, .iload 5), (41, 1, .iload_n 2), (42, 3, .invokevirtual 131), (45, 3, .ifCond .eq 10), (48, 2, .iload 4), (50, 1, .iconst 1), (51, 1, .iadd), (52, 3, .goto 5), (55, 2, .iload 4), (57, 2, .istore 4), (59, 3, .iinc 5 1), (62, 3, .goto (-36)), (65, 1, .iload_n 3), (66, 2, .iload 4), (68, 2, .bipush 12), (70, 1, .aload_n 0), (71, 1, .aload_n 1), (72, 1, .iconst (-1)), (73, 3, .invokevirtual 128), (76, 1, .isub), (77, 3, .invokestatic 135), (80, 3, .invokestatic 135), (83, 1, .ireturn)]
theorem hX10_buildsOf : osDs cX10_buildsOf KX10_buildsOf := by
  show ∀ q ∈ KX10_buildsOf, decode cX10_buildsOf q.1 = .ok (q.2.2, q.2.1)
  decide +kernel
def qX10_buildsOf_57 (N : Nat) (c26 : Nat × Nat × Int32 × Int32 × Int32 × Int32 → osM Int32) (l0 : Nat) (l1 : Nat) (l2 : Int32) (l3 : Int32) (l5 : Int32) (k0 : Int32) : osM Int32 := c26 (l0, l1, l2, l3, k0, (l5 + (1 : Int32)))
def bX10_buildsOf_26 (N : Nat) (c26 : Nat × Nat × Int32 × Int32 × Int32 × Int32 → osM Int32) (l0 : Nat) (l1 : Nat) (l2 : Int32) (l3 : Int32) (l4 : Int32) (l5 : Int32) : osM Int32 := osbind (osgR [8] 1 l0) fun x1 => osbind (osaI 0 x1 (0 : Int32)) fun x2 => osite (x2 ≤ l5) (osbind (osrecv [8] l0 (qX10_unitsOf N l0 l1 (-1 : Int32))) fun x3 => osbind (qX10_lesser N l4 ((12 : Int32) - x3)) fun x4 => osbind (qX10_lesser N l3 x4) fun x5 => osret x5) (osbind (osrecv [8] l0 (qX10_isFreeHome N l0 l1 l5 l2)) fun x6 => osite (x6 = 0) (qX10_buildsOf_57 N c26 l0 l1 l2 l3 l5 l4) (qX10_buildsOf_57 N c26 l0 l1 l2 l3 l5 (l4 + (1 : Int32))))
def qX10_buildsOf_26 (N : Nat) : Nat × Nat × Int32 × Int32 × Int32 × Int32 → osM Int32 := osloop (fun ih p => bX10_buildsOf_26 N ih p.1 p.2.1 p.2.2.1 p.2.2.2.1 p.2.2.2.2.1 p.2.2.2.2.2) N
def qX10_buildsOf (N : Nat) (l0 : Nat) (l1 : Nat) (l2 : Int32) : osM Int32 := osbind (osrecv [8] l0 (qX10_centersOf N l0 l1 l2)) fun x1 => osbind (osrecv [8] l0 (qX10_unitsOf N l0 l1 l2)) fun x2 => osite (0 < (x1 - x2)) (qX10_buildsOf_26 N (l0, l1, l2, (x1 - x2), (0 : Int32), (0 : Int32))) (osret (x1 - x2))
set_option maxRecDepth 100000 in
set_option maxHeartbeats 4000000 in
theorem sX10_buildsOf_57 (N : Nat) (c26 : Nat × Nat × Int32 × Int32 × Int32 × Int32 → osM Int32) (g26 : ∀ (l0 : Nat) (l1 : Nat) (l2 : Int32) (l3 : Int32) (l4 : Int32) (l5 : Int32), osW (osFinM (fun r : Int32 => some (.int r)) 0 0) yX10_buildsOf cX10_buildsOf 6 (some .int) [] { frames := 2, cells := 0, slots := 0, locals := 45 } 0 0 26 [(0, .ref l0), (1, .ref l1), (2, .int l2), (3, .int l3), (4, .int l4), (5, .int l5)] [] (c26 (l0, l1, l2, l3, l4, l5))) (l0 : Nat) (l1 : Nat) (l2 : Int32) (l3 : Int32) (l5 : Int32) (k0 : Int32) : osW (osFinM (fun r : Int32 => some (.int r)) 0 0) yX10_buildsOf cX10_buildsOf 6 (some .int) [] { frames := 2, cells := 0, slots := 0, locals := 45 } 0 0 57 [(0, .ref l0), (1, .ref l1), (2, .int l2), (3, .int l3), (5, .int l5)] [.int k0] (qX10_buildsOf_57 N c26 l0 l1 l2 l3 l5 k0) := by
  unfold qX10_buildsOf_57
  refine os_istore (i := 4) (lv' := [(4, .int k0), (0, .ref l0), (1, .ref l1), (2, .int l2), (3, .int l3), (5, .int l5)]) (Nat.le_of_ble_eq_true rfl) rfl (hX10_buildsOf.at 35 rfl rfl) ?_
  refine os_iinc (i := 5) (d := 1) (x := l5) (v := (1 : Int32)) (lv' := [(5, .int (l5 + (1 : Int32))), (4, .int k0), (0, .ref l0), (1, .ref l1), (2, .int l2), (3, .int l3)]) 5 rfl rfl (Nat.le_of_ble_eq_true rfl) rfl (hX10_buildsOf.at 36 rfl rfl) ?_
  refine os_goto (off := (-36)) (tgt := 26) rfl (hX10_buildsOf.at 37 rfl rfl) ?_
  exact osW.sub [2, 3, 4, 5, 1, 0] rfl (g26 l0 l1 l2 l3 k0 (l5 + (1 : Int32)))
set_option maxRecDepth 100000 in
set_option maxHeartbeats 4000000 in
theorem tX10_buildsOf_26 (N : Nat) (c26 : Nat × Nat × Int32 × Int32 × Int32 × Int32 → osM Int32) (g26 : ∀ (l0 : Nat) (l1 : Nat) (l2 : Int32) (l3 : Int32) (l4 : Int32) (l5 : Int32), osW (osFinM (fun r : Int32 => some (.int r)) 0 0) yX10_buildsOf cX10_buildsOf 6 (some .int) [] { frames := 2, cells := 0, slots := 0, locals := 45 } 0 0 26 [(0, .ref l0), (1, .ref l1), (2, .int l2), (3, .int l3), (4, .int l4), (5, .int l5)] [] (c26 (l0, l1, l2, l3, l4, l5))) (l0 : Nat) (l1 : Nat) (l2 : Int32) (l3 : Int32) (l4 : Int32) (l5 : Int32) : osW (osFinM (fun r : Int32 => some (.int r)) 0 0) yX10_buildsOf cX10_buildsOf 6 (some .int) [] { frames := 2, cells := 0, slots := 0, locals := 45 } 0 0 26 [(0, .ref l0), (1, .ref l1), (2, .int l2), (3, .int l3), (4, .int l4), (5, .int l5)] [] (bX10_buildsOf_26 N c26 l0 l1 l2 l3 l4 l5) := by
  unfold bX10_buildsOf_26
  refine os_iload (v := l5) 5 rfl (hX10_buildsOf.at 18 rfl rfl) ?_
  refine os_aload_n (i := 0) (q := 0) (v := l0) 0 rfl rfl (hX10_buildsOf.at 19 rfl rfl) ?_
  refine os_getR fX10_7 (hX10_buildsOf.at 20 rfl rfl) (fun x1 => ?_)
  refine os_iconst (i := 0) (v := (0 : Int32)) rfl (hX10_buildsOf.at 21 rfl rfl) ?_
  refine os_iaload (hX10_buildsOf.at 22 rfl rfl) (fun x2 => ?_)
  refine os_icmp_ge (off := 31) (tgt := 65) rfl (hX10_buildsOf.at 23 rfl rfl) ?_ ?_
  · refine os_iload_n (i := 3) (q := 3) (v := l3) 3 rfl rfl (hX10_buildsOf.at 38 rfl rfl) ?_
    refine os_iload (v := l4) 4 rfl (hX10_buildsOf.at 39 rfl rfl) ?_
    refine os_bipush (i := 12) (v := (12 : Int32)) rfl (hX10_buildsOf.at 40 rfl rfl) ?_
    refine os_aload_n (i := 0) (q := 0) (v := l0) 0 rfl rfl (hX10_buildsOf.at 41 rfl rfl) ?_
    refine os_aload_n (i := 1) (q := 1) (v := l1) 1 rfl rfl (hX10_buildsOf.at 42 rfl rfl) ?_
    refine os_iconst (i := (-1)) (v := (-1 : Int32)) rfl (hX10_buildsOf.at 43 rfl rfl) ?_
    refine os_callV (cis := [8]) (b := l0) (As := [.ref l1, .int (-1 : Int32)]) (st := [.int (12 : Int32), .int l4, .int l3]) (st' := (fun r => .int r :: [.int (12 : Int32), .int l4, .int l3])) sl8_X10_unitsOf_X10_unitsOf mdX10_unitsOf wd1890 wd1892 (sX10_unitsOf N l0 l1 (-1 : Int32)) rfl rfl (fun _ => rfl) (Nat.le_of_ble_eq_true rfl) (Nat.le_of_ble_eq_true rfl) (Nat.le_of_ble_eq_true rfl) rfl (Nat.le_of_ble_eq_true rfl) rfl (Nat.le_of_ble_eq_true rfl) (hX10_buildsOf.at 44 rfl rfl) (fun x3 => ?_)
    refine os_isub (hX10_buildsOf.at 45 rfl rfl) ?_
    refine os_callS (As := [.int l4, .int ((12 : Int32) - x3)]) (st := [.int l3]) (st' := (fun r => .int r :: [.int l3])) mdX10_lesser wd1994 wd1995 (sX10_lesser N l4 ((12 : Int32) - x3)) rfl rfl (fun _ => rfl) (Nat.le_of_ble_eq_true rfl) (Nat.le_of_ble_eq_true rfl) (Nat.le_of_ble_eq_true rfl) rfl (Nat.le_of_ble_eq_true rfl) rfl (Nat.le_of_ble_eq_true rfl) (hX10_buildsOf.at 46 rfl rfl) (fun x4 => ?_)
    refine os_callS (As := [.int l3, .int x4]) (st := []) (st' := (fun r => .int r :: [])) mdX10_lesser wd1994 wd1995 (sX10_lesser N l3 x4) rfl rfl (fun _ => rfl) (Nat.le_of_ble_eq_true rfl) (Nat.le_of_ble_eq_true rfl) (Nat.le_of_ble_eq_true rfl) rfl (Nat.le_of_ble_eq_true rfl) rfl (Nat.le_of_ble_eq_true rfl) (hX10_buildsOf.at 47 rfl rfl) (fun x5 => ?_)
    exact os_iret (Nat.le_of_ble_eq_true rfl) (Nat.le_of_ble_eq_true rfl) (hX10_buildsOf.at 48 rfl rfl).1
  · refine os_aload_n (i := 0) (q := 0) (v := l0) 0 rfl rfl (hX10_buildsOf.at 24 rfl rfl) ?_
    refine os_aload_n (i := 1) (q := 1) (v := l1) 1 rfl rfl (hX10_buildsOf.at 25 rfl rfl) ?_
    refine os_iload (v := l5) 5 rfl (hX10_buildsOf.at 26 rfl rfl) ?_
    refine os_iload_n (i := 2) (q := 2) (v := l2) 2 rfl rfl (hX10_buildsOf.at 27 rfl rfl) ?_
    refine os_callV (cis := [8]) (b := l0) (As := [.ref l1, .int l5, .int l2]) (st := []) (st' := (fun r => .int r :: [])) sl8_X10_isFreeHome_X10_isFreeHome mdX10_isFreeHome wd1982 wd1984 (sX10_isFreeHome N l0 l1 l5 l2) rfl rfl (fun _ => rfl) (Nat.le_of_ble_eq_true rfl) (Nat.le_of_ble_eq_true rfl) (Nat.le_of_ble_eq_true rfl) rfl (Nat.le_of_ble_eq_true rfl) rfl (Nat.le_of_ble_eq_true rfl) (hX10_buildsOf.at 28 rfl rfl) (fun x6 => ?_)
    refine os_if_eq (off := 10) (tgt := 55) rfl (hX10_buildsOf.at 29 rfl rfl) ?_ ?_
    · refine os_iload (v := l4) 4 rfl (hX10_buildsOf.at 34 rfl rfl) ?_
      exact osW.sub [0, 1, 2, 3, 5] rfl (sX10_buildsOf_57 N c26 g26 l0 l1 l2 l3 l5 l4)
    · refine os_iload (v := l4) 4 rfl (hX10_buildsOf.at 30 rfl rfl) ?_
      refine os_iconst (i := 1) (v := (1 : Int32)) rfl (hX10_buildsOf.at 31 rfl rfl) ?_
      refine os_iadd (hX10_buildsOf.at 32 rfl rfl) ?_
      refine os_goto (off := 5) (tgt := 57) rfl (hX10_buildsOf.at 33 rfl rfl) ?_
      exact osW.sub [0, 1, 2, 3, 5] rfl (sX10_buildsOf_57 N c26 g26 l0 l1 l2 l3 l5 (l4 + (1 : Int32)))
set_option maxRecDepth 100000 in
set_option maxHeartbeats 4000000 in
theorem sX10_buildsOf_26 (N : Nat) (l0 : Nat) (l1 : Nat) (l2 : Int32) (l3 : Int32) (l4 : Int32) (l5 : Int32) : osW (osFinM (fun r : Int32 => some (.int r)) 0 0) yX10_buildsOf cX10_buildsOf 6 (some .int) [] { frames := 2, cells := 0, slots := 0, locals := 45 } 0 0 26 [(0, .ref l0), (1, .ref l1), (2, .int l2), (3, .int l3), (4, .int l4), (5, .int l5)] [] (qX10_buildsOf_26 N (l0, l1, l2, l3, l4, l5)) :=
  osloop_W (lvf := fun p => [(0, .ref p.1), (1, .ref p.2.1), (2, .int p.2.2.1), (3, .int p.2.2.2.1), (4, .int p.2.2.2.2.1), (5, .int p.2.2.2.2.2)]) (stf := fun p => []) (fun ih g p => tX10_buildsOf_26 N ih (fun l0 l1 l2 l3 l4 l5 => g (l0, l1, l2, l3, l4, l5)) p.1 p.2.1 p.2.2.1 p.2.2.2.1 p.2.2.2.2.1 p.2.2.2.2.2) N (l0, l1, l2, l3, l4, l5)
set_option maxRecDepth 100000 in
set_option maxHeartbeats 4000000 in
theorem sX10_buildsOf (N : Nat) (l0 : Nat) (l1 : Nat) (l2 : Int32) : osMet yX10_buildsOf cX10_buildsOf 6 (some .int) 2 45 0 0 (fun r : Int32 => some (.int r)) [.ref l0, .ref l1, .int l2] (qX10_buildsOf N l0 l1 l2) := by
  refine osMet.of plX10 (Nat.le_of_ble_eq_true rfl) (osW.rw (lv2 := [(0, .ref l0), (1, .ref l1), (2, .int l2)]) ?_ rfl rfl rfl)
  unfold qX10_buildsOf
  refine os_aload_n (i := 0) (q := 0) (v := l0) 0 rfl rfl (hX10_buildsOf.at 0 rfl rfl) ?_
  refine os_aload_n (i := 1) (q := 1) (v := l1) 1 rfl rfl (hX10_buildsOf.at 1 rfl rfl) ?_
  refine os_iload_n (i := 2) (q := 2) (v := l2) 2 rfl rfl (hX10_buildsOf.at 2 rfl rfl) ?_
  refine os_callV (cis := [8]) (b := l0) (As := [.ref l1, .int l2]) (st := []) (st' := (fun r => .int r :: [])) sl8_X10_centersOf_X10_centersOf mdX10_centersOf wd1990 wd1992 (sX10_centersOf N l0 l1 l2) rfl rfl (fun _ => rfl) (Nat.le_of_ble_eq_true rfl) (Nat.le_of_ble_eq_true rfl) (Nat.le_of_ble_eq_true rfl) rfl (Nat.le_of_ble_eq_true rfl) rfl (Nat.le_of_ble_eq_true rfl) (hX10_buildsOf.at 3 rfl rfl) (fun x1 => ?_)
  refine os_aload_n (i := 0) (q := 0) (v := l0) 0 rfl rfl (hX10_buildsOf.at 4 rfl rfl) ?_
  refine os_aload_n (i := 1) (q := 1) (v := l1) 1 rfl rfl (hX10_buildsOf.at 5 rfl rfl) ?_
  refine os_iload_n (i := 2) (q := 2) (v := l2) 2 rfl rfl (hX10_buildsOf.at 6 rfl rfl) ?_
  refine os_callV (cis := [8]) (b := l0) (As := [.ref l1, .int l2]) (st := [.int x1]) (st' := (fun r => .int r :: [.int x1])) sl8_X10_unitsOf_X10_unitsOf mdX10_unitsOf wd1890 wd1892 (sX10_unitsOf N l0 l1 l2) rfl rfl (fun _ => rfl) (Nat.le_of_ble_eq_true rfl) (Nat.le_of_ble_eq_true rfl) (Nat.le_of_ble_eq_true rfl) rfl (Nat.le_of_ble_eq_true rfl) rfl (Nat.le_of_ble_eq_true rfl) (hX10_buildsOf.at 7 rfl rfl) (fun x2 => ?_)
  refine os_isub (hX10_buildsOf.at 8 rfl rfl) ?_
  refine os_istore_n (i := 3) (q := 3) rfl (lv' := [(3, .int (x1 - x2)), (0, .ref l0), (1, .ref l1), (2, .int l2)]) (Nat.le_of_ble_eq_true rfl) rfl (hX10_buildsOf.at 9 rfl rfl) ?_
  refine os_iload_n (i := 3) (q := 3) (v := (x1 - x2)) 0 rfl rfl (hX10_buildsOf.at 10 rfl rfl) ?_
  refine os_if_gt (off := 5) (tgt := 20) rfl (hX10_buildsOf.at 11 rfl rfl) ?_ ?_
  · refine os_iconst (i := 0) (v := (0 : Int32)) rfl (hX10_buildsOf.at 14 rfl rfl) ?_
    refine os_istore (i := 4) (lv' := [(4, .int (0 : Int32)), (3, .int (x1 - x2)), (0, .ref l0), (1, .ref l1), (2, .int l2)]) (Nat.le_of_ble_eq_true rfl) rfl (hX10_buildsOf.at 15 rfl rfl) ?_
    refine os_iconst (i := 0) (v := (0 : Int32)) rfl (hX10_buildsOf.at 16 rfl rfl) ?_
    refine os_istore (i := 5) (lv' := [(5, .int (0 : Int32)), (4, .int (0 : Int32)), (3, .int (x1 - x2)), (0, .ref l0), (1, .ref l1), (2, .int l2)]) (Nat.le_of_ble_eq_true rfl) rfl (hX10_buildsOf.at 17 rfl rfl) ?_
    exact osW.sub [3, 4, 5, 2, 1, 0] rfl (sX10_buildsOf_26 N l0 l1 l2 (x1 - x2) (0 : Int32) (0 : Int32))
  · refine os_iload_n (i := 3) (q := 3) (v := (x1 - x2)) 0 rfl rfl (hX10_buildsOf.at 12 rfl rfl) ?_
    exact os_iret (Nat.le_of_ble_eq_true rfl) (Nat.le_of_ble_eq_true rfl) (hX10_buildsOf.at 13 rfl rfl).1
-- X10_lays
def KX10_lays : List (Nat × Nat × Instr) := [(0, 2, .bipush 24), (2, 1, .istore_n 2), (3, 1, .iload_n 2), (4, 3, .ifCond .lt 37), (7, 1, .aload_n 0), (8, 3, .getfield 32), (11, 1, .aload_n 0), (12, 3, .getfield 138), (15, 1, .iload_n 1), (16, 1, .iload_n 2), (17, 1, .ishr), (18, 3, .sipush 255), (21, 1, .iand), (22, 1, .iastore), (23, 1, .aload_n 0), (24, 1, .aload_n 0), (25, 3, .getfield 138), (28, 1, .iconst 1), (29, 1, .iadd), (30, 3, .putfield 138), (33, 1, .iload_n 2), (34, 2, .bipush 8), (36, 1, .isub), (37, 1, .istore_n 2), (38, 3, .goto (-35)), (41, 1, .return_)]
theorem hX10_lays : osDs cX10_lays KX10_lays := by
  show ∀ q ∈ KX10_lays, decode cX10_lays q.1 = .ok (q.2.2, q.2.1)
  decide +kernel
def bX10_lays_3 (N : Nat) (c3 : Nat × Int32 × Int32 → osM Unit) (l0 : Nat) (l1 : Int32) (l2 : Int32) : osM Unit := osite (l2 < 0) (osret ()) (osbind (osgR [8] 9 l0) fun x1 => osbind (osgI [8] 10 l0) fun x2 => osbind (ossI 0 x1 x2 ((osshr l1 l2) &&& (255 : Int32))) fun _ => osbind (osgI [8] 10 l0) fun x3 => osbind (osput [8] 10 l0 (.int (x3 + (1 : Int32)))) fun _ => c3 (l0, l1, (l2 - (8 : Int32))))
def qX10_lays_3 (N : Nat) : Nat × Int32 × Int32 → osM Unit := osloop (fun ih p => bX10_lays_3 N ih p.1 p.2.1 p.2.2) N
def qX10_lays (N : Nat) (l0 : Nat) (l1 : Int32) : osM Unit := qX10_lays_3 N (l0, l1, (24 : Int32))
set_option maxRecDepth 100000 in
set_option maxHeartbeats 4000000 in
theorem tX10_lays_3 (N : Nat) (c3 : Nat × Int32 × Int32 → osM Unit) (g3 : ∀ (l0 : Nat) (l1 : Int32) (l2 : Int32), osW (osFinM (fun _ : Unit => none) 0 0) yX10_lays cX10_lays 3 none [] { frames := 0, cells := 0, slots := 0, locals := 0 } 0 0 3 [(0, .ref l0), (1, .int l1), (2, .int l2)] [] (c3 (l0, l1, l2))) (l0 : Nat) (l1 : Int32) (l2 : Int32) : osW (osFinM (fun _ : Unit => none) 0 0) yX10_lays cX10_lays 3 none [] { frames := 0, cells := 0, slots := 0, locals := 0 } 0 0 3 [(0, .ref l0), (1, .int l1), (2, .int l2)] [] (bX10_lays_3 N c3 l0 l1 l2) := by
  unfold bX10_lays_3
  refine os_iload_n (i := 2) (q := 2) (v := l2) 2 rfl rfl (hX10_lays.at 2 rfl rfl) ?_
  refine os_if_lt (off := 37) (tgt := 41) rfl (hX10_lays.at 3 rfl rfl) ?_ ?_
  · exact os_vret (Nat.le_of_ble_eq_true rfl) (Nat.le_of_ble_eq_true rfl) (hX10_lays.at 25 rfl rfl).1
  · refine os_aload_n (i := 0) (q := 0) (v := l0) 0 rfl rfl (hX10_lays.at 4 rfl rfl) ?_
    refine os_getR fX10_32 (hX10_lays.at 5 rfl rfl) (fun x1 => ?_)
    refine os_aload_n (i := 0) (q := 0) (v := l0) 0 rfl rfl (hX10_lays.at 6 rfl rfl) ?_
    refine os_getI fX10_138 (hX10_lays.at 7 rfl rfl) (fun x2 => ?_)
    refine os_iload_n (i := 1) (q := 1) (v := l1) 1 rfl rfl (hX10_lays.at 8 rfl rfl) ?_
    refine os_iload_n (i := 2) (q := 2) (v := l2) 2 rfl rfl (hX10_lays.at 9 rfl rfl) ?_
    refine os_ishr (hX10_lays.at 10 rfl rfl) ?_
    refine os_sipush (i := 255) (v := (255 : Int32)) rfl (hX10_lays.at 11 rfl rfl) ?_
    refine os_iand (hX10_lays.at 12 rfl rfl) ?_
    refine os_iastore (hX10_lays.at 13 rfl rfl) ?_
    refine os_aload_n (i := 0) (q := 0) (v := l0) 0 rfl rfl (hX10_lays.at 14 rfl rfl) ?_
    refine os_aload_n (i := 0) (q := 0) (v := l0) 0 rfl rfl (hX10_lays.at 15 rfl rfl) ?_
    refine os_getI fX10_138 (hX10_lays.at 16 rfl rfl) (fun x3 => ?_)
    refine os_iconst (i := 1) (v := (1 : Int32)) rfl (hX10_lays.at 17 rfl rfl) ?_
    refine os_iadd (hX10_lays.at 18 rfl rfl) ?_
    refine os_put fX10_138 rfl rfl (hX10_lays.at 19 rfl rfl) ?_
    refine os_iload_n (i := 2) (q := 2) (v := l2) 2 rfl rfl (hX10_lays.at 20 rfl rfl) ?_
    refine os_bipush (i := 8) (v := (8 : Int32)) rfl (hX10_lays.at 21 rfl rfl) ?_
    refine os_isub (hX10_lays.at 22 rfl rfl) ?_
    refine os_istore_n (i := 2) (q := 2) rfl (lv' := [(2, .int (l2 - (8 : Int32))), (0, .ref l0), (1, .int l1)]) (Nat.le_of_ble_eq_true rfl) rfl (hX10_lays.at 23 rfl rfl) ?_
    refine os_goto (off := (-35)) (tgt := 3) rfl (hX10_lays.at 24 rfl rfl) ?_
    exact osW.sub [1, 2, 0] rfl (g3 l0 l1 (l2 - (8 : Int32)))
set_option maxRecDepth 100000 in
set_option maxHeartbeats 4000000 in
theorem sX10_lays_3 (N : Nat) (l0 : Nat) (l1 : Int32) (l2 : Int32) : osW (osFinM (fun _ : Unit => none) 0 0) yX10_lays cX10_lays 3 none [] { frames := 0, cells := 0, slots := 0, locals := 0 } 0 0 3 [(0, .ref l0), (1, .int l1), (2, .int l2)] [] (qX10_lays_3 N (l0, l1, l2)) :=
  osloop_W (lvf := fun p => [(0, .ref p.1), (1, .int p.2.1), (2, .int p.2.2)]) (stf := fun p => []) (fun ih g p => tX10_lays_3 N ih (fun l0 l1 l2 => g (l0, l1, l2)) p.1 p.2.1 p.2.2) N (l0, l1, l2)
set_option maxRecDepth 100000 in
set_option maxHeartbeats 4000000 in
theorem sX10_lays (N : Nat) (l0 : Nat) (l1 : Int32) : osMet yX10_lays cX10_lays 3 none 0 0 0 0 (fun _ : Unit => none) [.ref l0, .int l1] (qX10_lays N l0 l1) := by
  refine osMet.of plX10 (Nat.le_of_ble_eq_true rfl) (osW.rw (lv2 := [(0, .ref l0), (1, .int l1)]) ?_ rfl rfl rfl)
  unfold qX10_lays
  refine os_bipush (i := 24) (v := (24 : Int32)) rfl (hX10_lays.at 0 rfl rfl) ?_
  refine os_istore_n (i := 2) (q := 2) rfl (lv' := [(2, .int (24 : Int32)), (0, .ref l0), (1, .int l1)]) (Nat.le_of_ble_eq_true rfl) rfl (hX10_lays.at 1 rfl rfl) ?_
  exact osW.sub [1, 2, 0] rfl (sX10_lays_3 N l0 l1 (24 : Int32))
-- X10_errorCode
def KX10_errorCode : List (Nat × Nat × Instr) := [(0, 1, .aload_n 0), (1, 1, .aload_n 0), (2, 3, .getfield 149), (5, 3, .invokevirtual 152), (8, 1, .ireturn)]
theorem hX10_errorCode : osDs cX10_errorCode KX10_errorCode := by
  show ∀ q ∈ KX10_errorCode, decode cX10_errorCode q.1 = .ok (q.2.2, q.2.1)
  decide +kernel
def qX10_errorCode (N : Nat) (l0 : Nat) : osM Int32 := osbind (osgI [8] 16 l0) fun x1 => osbind (osrecv [8] l0 (qX10_told N l0 x1)) fun x2 => osret x2
set_option maxRecDepth 100000 in
set_option maxHeartbeats 4000000 in
theorem sX10_errorCode (N : Nat) (l0 : Nat) : osMet yX10_errorCode cX10_errorCode 1 (some .int) 1 21 0 0 (fun r : Int32 => some (.int r)) [.ref l0] (qX10_errorCode N l0) := by
  refine osMet.of plX10 (Nat.le_of_ble_eq_true rfl) (osW.rw (lv2 := [(0, .ref l0)]) ?_ rfl rfl rfl)
  unfold qX10_errorCode
  refine os_aload_n (i := 0) (q := 0) (v := l0) 0 rfl rfl (hX10_errorCode.at 0 rfl rfl) ?_
  refine os_aload_n (i := 0) (q := 0) (v := l0) 0 rfl rfl (hX10_errorCode.at 1 rfl rfl) ?_
  refine os_getI fX10_149 (hX10_errorCode.at 2 rfl rfl) (fun x1 => ?_)
  refine os_callV (cis := [8]) (b := l0) (As := [.int x1]) (st := []) (st' := (fun r => .int r :: [])) sl8_X10_told_X10_told mdX10_told wd1754 wd1756 (sX10_told N l0 x1) rfl rfl (fun _ => rfl) (Nat.le_of_ble_eq_true rfl) (Nat.le_of_ble_eq_true rfl) (Nat.le_of_ble_eq_true rfl) rfl (Nat.le_of_ble_eq_true rfl) rfl (Nat.le_of_ble_eq_true rfl) (hX10_errorCode.at 3 rfl rfl) (fun x2 => ?_)
  exact os_iret (Nat.le_of_ble_eq_true rfl) (Nat.le_of_ble_eq_true rfl) (hX10_errorCode.at 4 rfl rfl).1
-- X10_errorPosition
def KX10_errorPosition : List (Nat × Nat × Instr) := [(0, 1, .aload_n 0), (1, 1, .aload_n 0), (2, 3, .getfield 35), (5, 3, .invokevirtual 152), (8, 1, .ireturn)]
theorem hX10_errorPosition : osDs cX10_errorPosition KX10_errorPosition := by
  show ∀ q ∈ KX10_errorPosition, decode cX10_errorPosition q.1 = .ok (q.2.2, q.2.1)
  decide +kernel
def qX10_errorPosition (N : Nat) (l0 : Nat) : osM Int32 := osbind (osgI [8] 17 l0) fun x1 => osbind (osrecv [8] l0 (qX10_told N l0 x1)) fun x2 => osret x2
set_option maxRecDepth 100000 in
set_option maxHeartbeats 4000000 in
theorem sX10_errorPosition (N : Nat) (l0 : Nat) : osMet yX10_errorPosition cX10_errorPosition 1 (some .int) 1 21 0 0 (fun r : Int32 => some (.int r)) [.ref l0] (qX10_errorPosition N l0) := by
  refine osMet.of plX10 (Nat.le_of_ble_eq_true rfl) (osW.rw (lv2 := [(0, .ref l0)]) ?_ rfl rfl rfl)
  unfold qX10_errorPosition
  refine os_aload_n (i := 0) (q := 0) (v := l0) 0 rfl rfl (hX10_errorPosition.at 0 rfl rfl) ?_
  refine os_aload_n (i := 0) (q := 0) (v := l0) 0 rfl rfl (hX10_errorPosition.at 1 rfl rfl) ?_
  refine os_getI fX10_35 (hX10_errorPosition.at 2 rfl rfl) (fun x1 => ?_)
  refine os_callV (cis := [8]) (b := l0) (As := [.int x1]) (st := []) (st' := (fun r => .int r :: [])) sl8_X10_told_X10_told mdX10_told wd1754 wd1756 (sX10_told N l0 x1) rfl rfl (fun _ => rfl) (Nat.le_of_ble_eq_true rfl) (Nat.le_of_ble_eq_true rfl) (Nat.le_of_ble_eq_true rfl) rfl (Nat.le_of_ble_eq_true rfl) rfl (Nat.le_of_ble_eq_true rfl) (hX10_errorPosition.at 3 rfl rfl) (fun x2 => ?_)
  exact os_iret (Nat.le_of_ble_eq_true rfl) (Nat.le_of_ble_eq_true rfl) (hX10_errorPosition.at 4 rfl rfl).1
-- X10_byteAt
def KX10_byteAt : List (Nat × Nat × Instr) := [(0, 1, .iload_n 1), (1, 1, .aload_n 0), (2, 3, .getfield 155), (5, 3, .if_icmp .ge 12), (8, 1, .aload_n 0), (9, 3, .getfield 32), (12, 1, .iload_n 1), (13, 1, .iaload), (14, 3, .goto 4), (17, 1, .iconst (-1)), (18, 1, .ireturn)]
theorem hX10_byteAt : osDs cX10_byteAt KX10_byteAt := by
  show ∀ q ∈ KX10_byteAt, decode cX10_byteAt q.1 = .ok (q.2.2, q.2.1)
  decide +kernel
def qX10_byteAt_18 (N : Nat) (k0 : Int32) : osM Int32 := osret k0
def qX10_byteAt (N : Nat) (l0 : Nat) (l1 : Int32) : osM Int32 := osbind (osgI [8] 12 l0) fun x1 => osite (x1 ≤ l1) (qX10_byteAt_18 N (-1 : Int32)) (osbind (osgR [8] 9 l0) fun x2 => osbind (osaI 0 x2 l1) fun x3 => qX10_byteAt_18 N x3)
set_option maxRecDepth 100000 in
set_option maxHeartbeats 4000000 in
theorem sX10_byteAt_18 (N : Nat) (k0 : Int32) : osW (osFinM (fun r : Int32 => some (.int r)) 0 0) yX10_byteAt cX10_byteAt 2 (some .int) [] { frames := 0, cells := 0, slots := 0, locals := 0 } 0 0 18 [] [.int k0] (qX10_byteAt_18 N k0) := by
  unfold qX10_byteAt_18
  exact os_iret (Nat.le_of_ble_eq_true rfl) (Nat.le_of_ble_eq_true rfl) (hX10_byteAt.at 10 rfl rfl).1
set_option maxRecDepth 100000 in
set_option maxHeartbeats 4000000 in
theorem sX10_byteAt (N : Nat) (l0 : Nat) (l1 : Int32) : osMet yX10_byteAt cX10_byteAt 2 (some .int) 0 0 0 0 (fun r : Int32 => some (.int r)) [.ref l0, .int l1] (qX10_byteAt N l0 l1) := by
  refine osMet.of plX10 (Nat.le_of_ble_eq_true rfl) (osW.rw (lv2 := [(0, .ref l0), (1, .int l1)]) ?_ rfl rfl rfl)
  unfold qX10_byteAt
  refine os_iload_n (i := 1) (q := 1) (v := l1) 1 rfl rfl (hX10_byteAt.at 0 rfl rfl) ?_
  refine os_aload_n (i := 0) (q := 0) (v := l0) 0 rfl rfl (hX10_byteAt.at 1 rfl rfl) ?_
  refine os_getI fX10_155 (hX10_byteAt.at 2 rfl rfl) (fun x1 => ?_)
  refine os_icmp_ge (off := 12) (tgt := 17) rfl (hX10_byteAt.at 3 rfl rfl) ?_ ?_
  · refine os_iconst (i := (-1)) (v := (-1 : Int32)) rfl (hX10_byteAt.at 9 rfl rfl) ?_
    exact osW.sub [] rfl (sX10_byteAt_18 N (-1 : Int32))
  · refine os_aload_n (i := 0) (q := 0) (v := l0) 0 rfl rfl (hX10_byteAt.at 4 rfl rfl) ?_
    refine os_getR fX10_32 (hX10_byteAt.at 5 rfl rfl) (fun x2 => ?_)
    refine os_iload_n (i := 1) (q := 1) (v := l1) 1 rfl rfl (hX10_byteAt.at 6 rfl rfl) ?_
    refine os_iaload (hX10_byteAt.at 7 rfl rfl) (fun x3 => ?_)
    refine os_goto (off := 4) (tgt := 18) rfl (hX10_byteAt.at 8 rfl rfl) ?_
    exact osW.sub [] rfl (sX10_byteAt_18 N x3)
-- X10_isLetter
def KX10_isLetter : List (Nat × Nat × Instr) := [(0, 1, .iload_n 0), (1, 2, .bipush 97), (3, 2, .bipush 122), (5, 3, .invokestatic 95), (8, 1, .ireturn)]
theorem hX10_isLetter : osDs cX10_isLetter KX10_isLetter := by
  show ∀ q ∈ KX10_isLetter, decode cX10_isLetter q.1 = .ok (q.2.2, q.2.1)
  decide +kernel
def qX10_isLetter (N : Nat) (l0 : Int32) : osM Int32 := osbind (qX10_in N l0 (97 : Int32) (122 : Int32)) fun x1 => osretZ x1
set_option maxRecDepth 100000 in
set_option maxHeartbeats 4000000 in
theorem sX10_isLetter (N : Nat) (l0 : Int32) : osMet yX10_isLetter cX10_isLetter 1 (some .boolean) 1 22 0 0 (fun r : Int32 => some (.int r)) [.int l0] (qX10_isLetter N l0) := by
  refine osMet.of plX10 (Nat.le_of_ble_eq_true rfl) (osW.rw (lv2 := [(0, .int l0)]) ?_ rfl rfl rfl)
  unfold qX10_isLetter
  refine os_iload_n (i := 0) (q := 0) (v := l0) 0 rfl rfl (hX10_isLetter.at 0 rfl rfl) ?_
  refine os_bipush (i := 97) (v := (97 : Int32)) rfl (hX10_isLetter.at 1 rfl rfl) ?_
  refine os_bipush (i := 122) (v := (122 : Int32)) rfl (hX10_isLetter.at 2 rfl rfl) ?_
  refine os_callS (As := [.int l0, .int (97 : Int32), .int (122 : Int32)]) (st := []) (st' := (fun r => .int r :: [])) mdX10_in wd1770 wd1771 (sX10_in N l0 (97 : Int32) (122 : Int32)) rfl rfl (fun _ => rfl) (Nat.le_of_ble_eq_true rfl) (Nat.le_of_ble_eq_true rfl) (Nat.le_of_ble_eq_true rfl) rfl (Nat.le_of_ble_eq_true rfl) rfl (Nat.le_of_ble_eq_true rfl) (hX10_isLetter.at 3 rfl rfl) (fun x1 => ?_)
  exact os_zret (Nat.le_of_ble_eq_true rfl) (Nat.le_of_ble_eq_true rfl) (hX10_isLetter.at 4 rfl rfl).1
-- X10_peek
def KX10_peek : List (Nat × Nat × Instr) := [(0, 1, .aload_n 0), (1, 1, .aload_n 0), (2, 3, .getfield 158), (5, 3, .invokevirtual 161), (8, 2, .bipush 32), (10, 3, .if_icmp .eq 16), (13, 1, .aload_n 0), (14, 1, .aload_n 0), (15, 3, .getfield 158), (18, 3, .invokevirtual 161), (21, 2, .bipush 10), (23, 3, .if_icmp .ne 16), (26, 1, .aload_n 0), (27, 1, .aload_n 0), (28, 3, .getfield 158), (31, 1, .iconst 1), (32, 1, .iadd), (33, 3, .putfield 158), (36, 3, .goto (-36)), (39, 1, .aload_n 0), (40, 1, .aload_n 0), (41, 3, .getfield 158), (44, 3, .putfield 164), (47, 1, .aload_n 0), (48, 1, .aload_n 0), (49, 3, .getfield 158), (52, 3, .invokevirtual 161), (55, 1, .ireturn)]
theorem hX10_peek : osDs cX10_peek KX10_peek := by
  show ∀ q ∈ KX10_peek, decode cX10_peek q.1 = .ok (q.2.2, q.2.1)
  decide +kernel
def qX10_peek_26 (N : Nat) (c0 : Nat → osM Int32) (l0 : Nat) : osM Int32 := osbind (osgI [8] 11 l0) fun x1 => osbind (osput [8] 11 l0 (.int (x1 + (1 : Int32)))) fun _ => c0 l0
def bX10_peek_0 (N : Nat) (c0 : Nat → osM Int32) (l0 : Nat) : osM Int32 := osbind (osgI [8] 11 l0) fun x1 => osbind (osrecv [8] l0 (qX10_byteAt N l0 x1)) fun x2 => osite (x2 = (32 : Int32)) (qX10_peek_26 N c0 l0) (osbind (osgI [8] 11 l0) fun x3 => osbind (osrecv [8] l0 (qX10_byteAt N l0 x3)) fun x4 => osite (x4 = (10 : Int32)) (qX10_peek_26 N c0 l0) (osbind (osgI [8] 11 l0) fun x5 => osbind (osput [8] 13 l0 (.int x5)) fun _ => osbind (osgI [8] 11 l0) fun x6 => osbind (osrecv [8] l0 (qX10_byteAt N l0 x6)) fun x7 => osret x7))
def qX10_peek_0 (N : Nat) : Nat → osM Int32 := osloop (fun ih p => bX10_peek_0 N ih p) N
def qX10_peek (N : Nat) (l0 : Nat) : osM Int32 := qX10_peek_0 N l0
set_option maxRecDepth 100000 in
set_option maxHeartbeats 4000000 in
theorem sX10_peek_26 (N : Nat) (c0 : Nat → osM Int32) (g0 : ∀ (l0 : Nat), osW (osFinM (fun r : Int32 => some (.int r)) 0 0) yX10_peek cX10_peek 1 (some .int) [] { frames := 1, cells := 0, slots := 0, locals := 21 } 0 0 0 [(0, .ref l0)] [] (c0 l0)) (l0 : Nat) : osW (osFinM (fun r : Int32 => some (.int r)) 0 0) yX10_peek cX10_peek 1 (some .int) [] { frames := 1, cells := 0, slots := 0, locals := 21 } 0 0 26 [(0, .ref l0)] [] (qX10_peek_26 N c0 l0) := by
  unfold qX10_peek_26
  refine os_aload_n (i := 0) (q := 0) (v := l0) 0 rfl rfl (hX10_peek.at 12 rfl rfl) ?_
  refine os_aload_n (i := 0) (q := 0) (v := l0) 0 rfl rfl (hX10_peek.at 13 rfl rfl) ?_
  refine os_getI fX10_158 (hX10_peek.at 14 rfl rfl) (fun x1 => ?_)
  refine os_iconst (i := 1) (v := (1 : Int32)) rfl (hX10_peek.at 15 rfl rfl) ?_
  refine os_iadd (hX10_peek.at 16 rfl rfl) ?_
  refine os_put fX10_158 rfl rfl (hX10_peek.at 17 rfl rfl) ?_
  refine os_goto (off := (-36)) (tgt := 0) rfl (hX10_peek.at 18 rfl rfl) ?_
  exact osW.sub [0] rfl (g0 l0)
set_option maxRecDepth 100000 in
set_option maxHeartbeats 4000000 in
theorem tX10_peek_0 (N : Nat) (c0 : Nat → osM Int32) (g0 : ∀ (l0 : Nat), osW (osFinM (fun r : Int32 => some (.int r)) 0 0) yX10_peek cX10_peek 1 (some .int) [] { frames := 1, cells := 0, slots := 0, locals := 21 } 0 0 0 [(0, .ref l0)] [] (c0 l0)) (l0 : Nat) : osW (osFinM (fun r : Int32 => some (.int r)) 0 0) yX10_peek cX10_peek 1 (some .int) [] { frames := 1, cells := 0, slots := 0, locals := 21 } 0 0 0 [(0, .ref l0)] [] (bX10_peek_0 N c0 l0) := by
  unfold bX10_peek_0
  refine os_aload_n (i := 0) (q := 0) (v := l0) 0 rfl rfl (hX10_peek.at 0 rfl rfl) ?_
  refine os_aload_n (i := 0) (q := 0) (v := l0) 0 rfl rfl (hX10_peek.at 1 rfl rfl) ?_
  refine os_getI fX10_158 (hX10_peek.at 2 rfl rfl) (fun x1 => ?_)
  refine os_callV (cis := [8]) (b := l0) (As := [.int x1]) (st := []) (st' := (fun r => .int r :: [])) sl8_X10_byteAt_X10_byteAt mdX10_byteAt wd1781 wd1783 (sX10_byteAt N l0 x1) rfl rfl (fun _ => rfl) (Nat.le_of_ble_eq_true rfl) (Nat.le_of_ble_eq_true rfl) (Nat.le_of_ble_eq_true rfl) rfl (Nat.le_of_ble_eq_true rfl) rfl (Nat.le_of_ble_eq_true rfl) (hX10_peek.at 3 rfl rfl) (fun x2 => ?_)
  refine os_bipush (i := 32) (v := (32 : Int32)) rfl (hX10_peek.at 4 rfl rfl) ?_
  refine os_icmp_eq (off := 16) (tgt := 26) rfl (hX10_peek.at 5 rfl rfl) ?_ ?_
  · exact osW.sub [0] rfl (sX10_peek_26 N c0 g0 l0)
  · refine os_aload_n (i := 0) (q := 0) (v := l0) 0 rfl rfl (hX10_peek.at 6 rfl rfl) ?_
    refine os_aload_n (i := 0) (q := 0) (v := l0) 0 rfl rfl (hX10_peek.at 7 rfl rfl) ?_
    refine os_getI fX10_158 (hX10_peek.at 8 rfl rfl) (fun x3 => ?_)
    refine os_callV (cis := [8]) (b := l0) (As := [.int x3]) (st := []) (st' := (fun r => .int r :: [])) sl8_X10_byteAt_X10_byteAt mdX10_byteAt wd1781 wd1783 (sX10_byteAt N l0 x3) rfl rfl (fun _ => rfl) (Nat.le_of_ble_eq_true rfl) (Nat.le_of_ble_eq_true rfl) (Nat.le_of_ble_eq_true rfl) rfl (Nat.le_of_ble_eq_true rfl) rfl (Nat.le_of_ble_eq_true rfl) (hX10_peek.at 9 rfl rfl) (fun x4 => ?_)
    refine os_bipush (i := 10) (v := (10 : Int32)) rfl (hX10_peek.at 10 rfl rfl) ?_
    refine os_icmp_ne (off := 16) (tgt := 39) rfl (hX10_peek.at 11 rfl rfl) ?_ ?_
    · refine os_aload_n (i := 0) (q := 0) (v := l0) 0 rfl rfl (hX10_peek.at 19 rfl rfl) ?_
      refine os_aload_n (i := 0) (q := 0) (v := l0) 0 rfl rfl (hX10_peek.at 20 rfl rfl) ?_
      refine os_getI fX10_158 (hX10_peek.at 21 rfl rfl) (fun x5 => ?_)
      refine os_put fX10_164 rfl rfl (hX10_peek.at 22 rfl rfl) ?_
      refine os_aload_n (i := 0) (q := 0) (v := l0) 0 rfl rfl (hX10_peek.at 23 rfl rfl) ?_
      refine os_aload_n (i := 0) (q := 0) (v := l0) 0 rfl rfl (hX10_peek.at 24 rfl rfl) ?_
      refine os_getI fX10_158 (hX10_peek.at 25 rfl rfl) (fun x6 => ?_)
      refine os_callV (cis := [8]) (b := l0) (As := [.int x6]) (st := []) (st' := (fun r => .int r :: [])) sl8_X10_byteAt_X10_byteAt mdX10_byteAt wd1781 wd1783 (sX10_byteAt N l0 x6) rfl rfl (fun _ => rfl) (Nat.le_of_ble_eq_true rfl) (Nat.le_of_ble_eq_true rfl) (Nat.le_of_ble_eq_true rfl) rfl (Nat.le_of_ble_eq_true rfl) rfl (Nat.le_of_ble_eq_true rfl) (hX10_peek.at 26 rfl rfl) (fun x7 => ?_)
      exact os_iret (Nat.le_of_ble_eq_true rfl) (Nat.le_of_ble_eq_true rfl) (hX10_peek.at 27 rfl rfl).1
    · exact osW.sub [0] rfl (sX10_peek_26 N c0 g0 l0)
set_option maxRecDepth 100000 in
set_option maxHeartbeats 4000000 in
theorem sX10_peek_0 (N : Nat) (l0 : Nat) : osW (osFinM (fun r : Int32 => some (.int r)) 0 0) yX10_peek cX10_peek 1 (some .int) [] { frames := 1, cells := 0, slots := 0, locals := 21 } 0 0 0 [(0, .ref l0)] [] (qX10_peek_0 N l0) :=
  osloop_W (lvf := fun p => [(0, .ref p)]) (stf := fun p => []) (fun ih g p => tX10_peek_0 N ih (fun l0 => g l0) p) N l0
set_option maxRecDepth 100000 in
set_option maxHeartbeats 4000000 in
theorem sX10_peek (N : Nat) (l0 : Nat) : osMet yX10_peek cX10_peek 1 (some .int) 1 21 0 0 (fun r : Int32 => some (.int r)) [.ref l0] (qX10_peek N l0) := by
  refine osMet.of plX10 (Nat.le_of_ble_eq_true rfl) (osW.rw (lv2 := [(0, .ref l0)]) ?_ rfl rfl rfl)
  unfold qX10_peek
  exact osW.sub [0] rfl (sX10_peek_0 N l0)
-- X10_fails
def KX10_fails : List (Nat × Nat × Instr) := [(0, 1, .aload_n 0), (1, 1, .iload_n 1), (2, 3, .putfield 149), (5, 1, .aload_n 0), (6, 1, .iload_n 2), (7, 3, .putfield 35), (10, 1, .iconst 0), (11, 1, .ireturn)]
theorem hX10_fails : osDs cX10_fails KX10_fails := by
  show ∀ q ∈ KX10_fails, decode cX10_fails q.1 = .ok (q.2.2, q.2.1)
  decide +kernel
def qX10_fails (N : Nat) (l0 : Nat) (l1 : Int32) (l2 : Int32) : osM Int32 := osbind (osput [8] 16 l0 (.int l1)) fun _ => osbind (osput [8] 17 l0 (.int l2)) fun _ => osretZ (0 : Int32)
set_option maxRecDepth 100000 in
set_option maxHeartbeats 4000000 in
theorem sX10_fails (N : Nat) (l0 : Nat) (l1 : Int32) (l2 : Int32) : osMet yX10_fails cX10_fails 3 (some .boolean) 0 0 0 0 (fun r : Int32 => some (.int r)) [.ref l0, .int l1, .int l2] (qX10_fails N l0 l1 l2) := by
  refine osMet.of plX10 (Nat.le_of_ble_eq_true rfl) (osW.rw (lv2 := [(0, .ref l0), (1, .int l1), (2, .int l2)]) ?_ rfl rfl rfl)
  unfold qX10_fails
  refine os_aload_n (i := 0) (q := 0) (v := l0) 0 rfl rfl (hX10_fails.at 0 rfl rfl) ?_
  refine os_iload_n (i := 1) (q := 1) (v := l1) 1 rfl rfl (hX10_fails.at 1 rfl rfl) ?_
  refine os_put fX10_149 rfl rfl (hX10_fails.at 2 rfl rfl) ?_
  refine os_aload_n (i := 0) (q := 0) (v := l0) 0 rfl rfl (hX10_fails.at 3 rfl rfl) ?_
  refine os_iload_n (i := 2) (q := 2) (v := l2) 2 rfl rfl (hX10_fails.at 4 rfl rfl) ?_
  refine os_put fX10_35 rfl rfl (hX10_fails.at 5 rfl rfl) ?_
  refine os_iconst (i := 0) (v := (0 : Int32)) rfl (hX10_fails.at 6 rfl rfl) ?_
  exact os_zret (Nat.le_of_ble_eq_true rfl) (Nat.le_of_ble_eq_true rfl) (hX10_fails.at 7 rfl rfl).1
-- X10_seesWord
def KX10_seesWord : List (Nat × Nat × Instr) := [(0, 1, .aload_n 0), (1, 3, .invokevirtual 167), (4, 3, .invokestatic 171), (7, 3, .ifCond .ne 5), (10, 1, .iconst 0), (11, 1, .ireturn), (12, 1, .aload_n 0), (13, 1, .aload_n 0), (14, 3, .getfield 164), (17, 3, .putfield 174), (20, 1, .aload_n 0), (21, 1, .lconst 0), (22, 3, .putfield 177), (25, 1, .aload_n 0), (26, 1, .aload_n 0), (27, 3, .getfield 174), (30, 3, .invokevirtual 161), (33, 3, .invokestatic 171), (36, 3, .ifCond .eq 60), (39, 1, .aload_n 0), (40, 1, .aload_n 0), (41, 3, .getfield 174), (44, 1, .aload_n 0), (45, 3, .getfield 164), (48, 1, .isub), (49, 2, .bipush 7), (51, 3, .if_icmp .ge 28), (54, 3, .ldc2_w 181), (57, 1, .aload_n 0), (58, 3, .getfield 177), (61, 1, .lmul), (62, 1, .aload_n 0), (63, 1, .aload_n 0), (64, 3, .getfield 174), (67, 3, .invokevirtual 161), (70, 1, .i2l), (71, 1, .ladd), (72, 3, .ldc2_w 183), (75, 1, .lsub), (76, 3, .goto 4), (79, 1, .lconst 0), (80, 3, .putfield 177), (83, 1, .aload_n 0), (84, 1, .aload_n 0), (85, 3, .getfield 174), (88, 1, .iconst 1), (89, 1, .iadd), (90, 3, .putfield 174), (93, 3, .goto (-68)), (96, 1, .aload_n 0), (97, 1, .aload_n 0), (98, 3, .getfield 174), (101, 1, .aload_n 0), (102, 3, .getfield 164), (105, 1, .isub), (106, 3, .putfield 185), (109, 1, .iconst 1), (110, 1, .ireturn)]
theorem hX10_seesWord : osDs cX10_seesWord KX10_seesWord := by
  show ∀ q ∈ KX10_seesWord, decode cX10_seesWord q.1 = .ok (q.2.2, q.2.1)
  decide +kernel
def qX10_seesWord_80 (N : Nat) (c25 : Nat → osM Int32) (l0 : Nat) (k0 : Int64) (k1 : Nat) : osM Int32 := osbind (osput [8] 18 k1 (.long k0)) fun _ => osbind (osgI [8] 14 l0) fun x1 => osbind (osput [8] 14 l0 (.int (x1 + (1 : Int32)))) fun _ => c25 l0
def bX10_seesWord_25 (N : Nat) (c25 : Nat → osM Int32) (l0 : Nat) : osM Int32 := osbind (osgI [8] 14 l0) fun x1 => osbind (osrecv [8] l0 (qX10_byteAt N l0 x1)) fun x2 => osbind (qX10_isLetter N x2) fun x3 => osite (x3 = 0) (osbind (osgI [8] 14 l0) fun x4 => osbind (osgI [8] 13 l0) fun x5 => osbind (osput [8] 15 l0 (.int (x4 - x5))) fun _ => osretZ (1 : Int32)) (osbind (osgI [8] 14 l0) fun x6 => osbind (osgI [8] 13 l0) fun x7 => osite ((7 : Int32) ≤ (x6 - x7)) (qX10_seesWord_80 N c25 l0 (0 : Int64) l0) (osbind (osgJ [8] 18 l0) fun x8 => osbind (osgI [8] 14 l0) fun x9 => osbind (osrecv [8] l0 (qX10_byteAt N l0 x9)) fun x10 => qX10_seesWord_80 N c25 l0 ((((32 : Int64) * x8) + (x10.toInt64)) - (96 : Int64)) l0))
def qX10_seesWord_25 (N : Nat) : Nat → osM Int32 := osloop (fun ih p => bX10_seesWord_25 N ih p) N
def qX10_seesWord (N : Nat) (l0 : Nat) : osM Int32 := osbind (osrecv [8] l0 (qX10_peek N l0)) fun x1 => osbind (qX10_isLetter N x1) fun x2 => osite (x2 = 0) (osretZ (0 : Int32)) (osbind (osgI [8] 13 l0) fun x3 => osbind (osput [8] 14 l0 (.int x3)) fun _ => osbind (osput [8] 18 l0 (.long (0 : Int64))) fun _ => qX10_seesWord_25 N l0)
set_option maxRecDepth 100000 in
set_option maxHeartbeats 4000000 in
theorem sX10_seesWord_80 (N : Nat) (c25 : Nat → osM Int32) (g25 : ∀ (l0 : Nat), osW (osFinM (fun r : Int32 => some (.int r)) 0 0) yX10_seesWord cX10_seesWord 1 (some .boolean) [] { frames := 2, cells := 0, slots := 0, locals := 42 } 0 0 25 [(0, .ref l0)] [] (c25 l0)) (l0 : Nat) (k0 : Int64) (k1 : Nat) : osW (osFinM (fun r : Int32 => some (.int r)) 0 0) yX10_seesWord cX10_seesWord 1 (some .boolean) [] { frames := 2, cells := 0, slots := 0, locals := 42 } 0 0 80 [(0, .ref l0)] [.long k0, .ref k1] (qX10_seesWord_80 N c25 l0 k0 k1) := by
  unfold qX10_seesWord_80
  refine os_put fX10_177 rfl rfl (hX10_seesWord.at 41 rfl rfl) ?_
  refine os_aload_n (i := 0) (q := 0) (v := l0) 0 rfl rfl (hX10_seesWord.at 42 rfl rfl) ?_
  refine os_aload_n (i := 0) (q := 0) (v := l0) 0 rfl rfl (hX10_seesWord.at 43 rfl rfl) ?_
  refine os_getI fX10_174 (hX10_seesWord.at 44 rfl rfl) (fun x1 => ?_)
  refine os_iconst (i := 1) (v := (1 : Int32)) rfl (hX10_seesWord.at 45 rfl rfl) ?_
  refine os_iadd (hX10_seesWord.at 46 rfl rfl) ?_
  refine os_put fX10_174 rfl rfl (hX10_seesWord.at 47 rfl rfl) ?_
  refine os_goto (off := (-68)) (tgt := 25) rfl (hX10_seesWord.at 48 rfl rfl) ?_
  exact osW.sub [0] rfl (g25 l0)
set_option maxRecDepth 100000 in
set_option maxHeartbeats 4000000 in
theorem tX10_seesWord_25 (N : Nat) (c25 : Nat → osM Int32) (g25 : ∀ (l0 : Nat), osW (osFinM (fun r : Int32 => some (.int r)) 0 0) yX10_seesWord cX10_seesWord 1 (some .boolean) [] { frames := 2, cells := 0, slots := 0, locals := 42 } 0 0 25 [(0, .ref l0)] [] (c25 l0)) (l0 : Nat) : osW (osFinM (fun r : Int32 => some (.int r)) 0 0) yX10_seesWord cX10_seesWord 1 (some .boolean) [] { frames := 2, cells := 0, slots := 0, locals := 42 } 0 0 25 [(0, .ref l0)] [] (bX10_seesWord_25 N c25 l0) := by
  unfold bX10_seesWord_25
  refine os_aload_n (i := 0) (q := 0) (v := l0) 0 rfl rfl (hX10_seesWord.at 13 rfl rfl) ?_
  refine os_aload_n (i := 0) (q := 0) (v := l0) 0 rfl rfl (hX10_seesWord.at 14 rfl rfl) ?_
  refine os_getI fX10_174 (hX10_seesWord.at 15 rfl rfl) (fun x1 => ?_)
  refine os_callV (cis := [8]) (b := l0) (As := [.int x1]) (st := []) (st' := (fun r => .int r :: [])) sl8_X10_byteAt_X10_byteAt mdX10_byteAt wd1781 wd1783 (sX10_byteAt N l0 x1) rfl rfl (fun _ => rfl) (Nat.le_of_ble_eq_true rfl) (Nat.le_of_ble_eq_true rfl) (Nat.le_of_ble_eq_true rfl) rfl (Nat.le_of_ble_eq_true rfl) rfl (Nat.le_of_ble_eq_true rfl) (hX10_seesWord.at 16 rfl rfl) (fun x2 => ?_)
  refine os_callS (As := [.int x2]) (st := []) (st' := (fun r => .int r :: [])) mdX10_isLetter wd1797 wd1798 (sX10_isLetter N x2) rfl rfl (fun _ => rfl) (Nat.le_of_ble_eq_true rfl) (Nat.le_of_ble_eq_true rfl) (Nat.le_of_ble_eq_true rfl) rfl (Nat.le_of_ble_eq_true rfl) rfl (Nat.le_of_ble_eq_true rfl) (hX10_seesWord.at 17 rfl rfl) (fun x3 => ?_)
  refine os_if_eq (off := 60) (tgt := 96) rfl (hX10_seesWord.at 18 rfl rfl) ?_ ?_
  · refine os_aload_n (i := 0) (q := 0) (v := l0) 0 rfl rfl (hX10_seesWord.at 49 rfl rfl) ?_
    refine os_aload_n (i := 0) (q := 0) (v := l0) 0 rfl rfl (hX10_seesWord.at 50 rfl rfl) ?_
    refine os_getI fX10_174 (hX10_seesWord.at 51 rfl rfl) (fun x4 => ?_)
    refine os_aload_n (i := 0) (q := 0) (v := l0) 0 rfl rfl (hX10_seesWord.at 52 rfl rfl) ?_
    refine os_getI fX10_164 (hX10_seesWord.at 53 rfl rfl) (fun x5 => ?_)
    refine os_isub (hX10_seesWord.at 54 rfl rfl) ?_
    refine os_put fX10_185 rfl rfl (hX10_seesWord.at 55 rfl rfl) ?_
    refine os_iconst (i := 1) (v := (1 : Int32)) rfl (hX10_seesWord.at 56 rfl rfl) ?_
    exact os_zret (Nat.le_of_ble_eq_true rfl) (Nat.le_of_ble_eq_true rfl) (hX10_seesWord.at 57 rfl rfl).1
  · refine os_aload_n (i := 0) (q := 0) (v := l0) 0 rfl rfl (hX10_seesWord.at 19 rfl rfl) ?_
    refine os_aload_n (i := 0) (q := 0) (v := l0) 0 rfl rfl (hX10_seesWord.at 20 rfl rfl) ?_
    refine os_getI fX10_174 (hX10_seesWord.at 21 rfl rfl) (fun x6 => ?_)
    refine os_aload_n (i := 0) (q := 0) (v := l0) 0 rfl rfl (hX10_seesWord.at 22 rfl rfl) ?_
    refine os_getI fX10_164 (hX10_seesWord.at 23 rfl rfl) (fun x7 => ?_)
    refine os_isub (hX10_seesWord.at 24 rfl rfl) ?_
    refine os_bipush (i := 7) (v := (7 : Int32)) rfl (hX10_seesWord.at 25 rfl rfl) ?_
    refine os_icmp_ge (off := 28) (tgt := 79) rfl (hX10_seesWord.at 26 rfl rfl) ?_ ?_
    · refine os_lconst (i := 0) (v := 0) rfl (hX10_seesWord.at 40 rfl rfl) ?_
      exact osW.sub [0] rfl (sX10_seesWord_80 N c25 g25 l0 (0 : Int64) l0)
    · refine os_ldc2 (v := (32 : Int64)) wd1800 (hX10_seesWord.at 27 rfl rfl) ?_
      refine os_aload_n (i := 0) (q := 0) (v := l0) 0 rfl rfl (hX10_seesWord.at 28 rfl rfl) ?_
      refine os_getJ fX10_177 (hX10_seesWord.at 29 rfl rfl) (fun x8 => ?_)
      refine os_lmul (hX10_seesWord.at 30 rfl rfl) ?_
      refine os_aload_n (i := 0) (q := 0) (v := l0) 0 rfl rfl (hX10_seesWord.at 31 rfl rfl) ?_
      refine os_aload_n (i := 0) (q := 0) (v := l0) 0 rfl rfl (hX10_seesWord.at 32 rfl rfl) ?_
      refine os_getI fX10_174 (hX10_seesWord.at 33 rfl rfl) (fun x9 => ?_)
      refine os_callV (cis := [8]) (b := l0) (As := [.int x9]) (st := [.long ((32 : Int64) * x8), .ref l0]) (st' := (fun r => .int r :: [.long ((32 : Int64) * x8), .ref l0])) sl8_X10_byteAt_X10_byteAt mdX10_byteAt wd1781 wd1783 (sX10_byteAt N l0 x9) rfl rfl (fun _ => rfl) (Nat.le_of_ble_eq_true rfl) (Nat.le_of_ble_eq_true rfl) (Nat.le_of_ble_eq_true rfl) rfl (Nat.le_of_ble_eq_true rfl) rfl (Nat.le_of_ble_eq_true rfl) (hX10_seesWord.at 34 rfl rfl) (fun x10 => ?_)
      refine os_i2l (hX10_seesWord.at 35 rfl rfl) ?_
      refine os_ladd (hX10_seesWord.at 36 rfl rfl) ?_
      refine os_ldc2 (v := (96 : Int64)) wd1801 (hX10_seesWord.at 37 rfl rfl) ?_
      refine os_lsub (hX10_seesWord.at 38 rfl rfl) ?_
      refine os_goto (off := 4) (tgt := 80) rfl (hX10_seesWord.at 39 rfl rfl) ?_
      exact osW.sub [0] rfl (sX10_seesWord_80 N c25 g25 l0 ((((32 : Int64) * x8) + (x10.toInt64)) - (96 : Int64)) l0)
set_option maxRecDepth 100000 in
set_option maxHeartbeats 4000000 in
theorem sX10_seesWord_25 (N : Nat) (l0 : Nat) : osW (osFinM (fun r : Int32 => some (.int r)) 0 0) yX10_seesWord cX10_seesWord 1 (some .boolean) [] { frames := 2, cells := 0, slots := 0, locals := 42 } 0 0 25 [(0, .ref l0)] [] (qX10_seesWord_25 N l0) :=
  osloop_W (lvf := fun p => [(0, .ref p)]) (stf := fun p => []) (fun ih g p => tX10_seesWord_25 N ih (fun l0 => g l0) p) N l0
set_option maxRecDepth 100000 in
set_option maxHeartbeats 4000000 in
theorem sX10_seesWord (N : Nat) (l0 : Nat) : osMet yX10_seesWord cX10_seesWord 1 (some .boolean) 2 42 0 0 (fun r : Int32 => some (.int r)) [.ref l0] (qX10_seesWord N l0) := by
  refine osMet.of plX10 (Nat.le_of_ble_eq_true rfl) (osW.rw (lv2 := [(0, .ref l0)]) ?_ rfl rfl rfl)
  unfold qX10_seesWord
  refine os_aload_n (i := 0) (q := 0) (v := l0) 0 rfl rfl (hX10_seesWord.at 0 rfl rfl) ?_
  refine os_callV (cis := [8]) (b := l0) (As := []) (st := []) (st' := (fun r => .int r :: [])) sl8_X10_peek_X10_peek mdX10_peek wd1777 wd1779 (sX10_peek N l0 ) rfl rfl (fun _ => rfl) (Nat.le_of_ble_eq_true rfl) (Nat.le_of_ble_eq_true rfl) (Nat.le_of_ble_eq_true rfl) rfl (Nat.le_of_ble_eq_true rfl) rfl (Nat.le_of_ble_eq_true rfl) (hX10_seesWord.at 1 rfl rfl) (fun x1 => ?_)
  refine os_callS (As := [.int x1]) (st := []) (st' := (fun r => .int r :: [])) mdX10_isLetter wd1797 wd1798 (sX10_isLetter N x1) rfl rfl (fun _ => rfl) (Nat.le_of_ble_eq_true rfl) (Nat.le_of_ble_eq_true rfl) (Nat.le_of_ble_eq_true rfl) rfl (Nat.le_of_ble_eq_true rfl) rfl (Nat.le_of_ble_eq_true rfl) (hX10_seesWord.at 2 rfl rfl) (fun x2 => ?_)
  refine os_if_ne (off := 5) (tgt := 12) rfl (hX10_seesWord.at 3 rfl rfl) ?_ ?_
  · refine os_aload_n (i := 0) (q := 0) (v := l0) 0 rfl rfl (hX10_seesWord.at 6 rfl rfl) ?_
    refine os_aload_n (i := 0) (q := 0) (v := l0) 0 rfl rfl (hX10_seesWord.at 7 rfl rfl) ?_
    refine os_getI fX10_164 (hX10_seesWord.at 8 rfl rfl) (fun x3 => ?_)
    refine os_put fX10_174 rfl rfl (hX10_seesWord.at 9 rfl rfl) ?_
    refine os_aload_n (i := 0) (q := 0) (v := l0) 0 rfl rfl (hX10_seesWord.at 10 rfl rfl) ?_
    refine os_lconst (i := 0) (v := 0) rfl (hX10_seesWord.at 11 rfl rfl) ?_
    refine os_put fX10_177 rfl rfl (hX10_seesWord.at 12 rfl rfl) ?_
    exact osW.sub [0] rfl (sX10_seesWord_25 N l0)
  · refine os_iconst (i := 0) (v := (0 : Int32)) rfl (hX10_seesWord.at 4 rfl rfl) ?_
    exact os_zret (Nat.le_of_ble_eq_true rfl) (Nat.le_of_ble_eq_true rfl) (hX10_seesWord.at 5 rfl rfl).1
