-- X10_isContested
def KX10_isContested : List (Nat × Nat × Instr) := [(0, 1, .aload_n 0), (1, 1, .aload_n 0), (2, 1, .iload_n 1), (3, 3, .invokevirtual 99), (6, 3, .ifCond .ne 7), (9, 1, .iconst 1), (10, 3, .goto 17), (13, 1, .aload_n 0), (14, 3, .getfield 16), (17, 1, .iconst 2), (18, 1, .iaload), (19, 3, .ifCond .ne 7), (22, 1, .iconst 2), (23, 3, .goto 4), (26, 1, .iconst 0), (27, 3, .invokevirtual 354), (30, 3, .ifCond .ne 20), (33, 1, .aload_n 0), (34, 3, .getfield 16), (37, 1, .iconst 4), (38, 1, .iaload), (39, 1, .iload_n 1), (40, 3, .invokestatic 111), (43, 3, .ifCond .eq 7), (46, 1, .iconst 1), (47, 3, .goto 4), (50, 1, .iconst 0), (51, 1, .ireturn)]
theorem hX10_isContested : osDs cX10_isContested KX10_isContested := by
  show ∀ q ∈ KX10_isContested, decode cX10_isContested q.1 = .ok (q.2.2, q.2.1)
  decide +kernel
def qX10_isContested_51 (N : Nat) (k0 : Int32) : osM Int32 := osretZ k0
def qX10_isContested_50 (N : Nat) : osM Int32 := qX10_isContested_51 N (0 : Int32)
def qX10_isContested_27 (N : Nat) (l0 : Nat) (l1 : Int32) (k0 : Int32) (k1 : Nat) : osM Int32 := osbind (osrecv [8] k1 (qX10_isRefused N k1 k0)) fun x1 => osite (x1 = 0) (osbind (osgR [8] 3 l0) fun x2 => osbind (osaI 0 x2 (4 : Int32)) fun x3 => osbind (qX10_has N x3 l1) fun x4 => osite (x4 = 0) (qX10_isContested_50 N ) (qX10_isContested_51 N (1 : Int32))) (qX10_isContested_50 N )
def qX10_isContested (N : Nat) (l0 : Nat) (l1 : Int32) : osM Int32 := osbind (osrecv [8] l0 (qX10_isArea N l0 l1)) fun x1 => osite (x1 = 0) (qX10_isContested_27 N l0 l1 (1 : Int32) l0) (osbind (osgR [8] 3 l0) fun x2 => osbind (osaI 0 x2 (2 : Int32)) fun x3 => osite (x3 = 0) (qX10_isContested_27 N l0 l1 (2 : Int32) l0) (qX10_isContested_27 N l0 l1 (0 : Int32) l0))
set_option maxRecDepth 100000 in
set_option maxHeartbeats 4000000 in
theorem sX10_isContested_51 (N : Nat) (k0 : Int32) : osW (osFinM (fun r : Int32 => some (.int r)) 0 0) yX10_isContested cX10_isContested 2 (some .boolean) [] { frames := 2, cells := 0, slots := 0, locals := 43 } 0 0 51 [] [.int k0] (qX10_isContested_51 N k0) := by
  unfold qX10_isContested_51
  exact os_zret (Nat.le_of_ble_eq_true rfl) (Nat.le_of_ble_eq_true rfl) (hX10_isContested.at 27 rfl rfl).1
set_option maxRecDepth 100000 in
set_option maxHeartbeats 4000000 in
theorem sX10_isContested_50 (N : Nat) : osW (osFinM (fun r : Int32 => some (.int r)) 0 0) yX10_isContested cX10_isContested 2 (some .boolean) [] { frames := 2, cells := 0, slots := 0, locals := 43 } 0 0 50 [] [] (qX10_isContested_50 N) := by
  unfold qX10_isContested_50
  refine os_iconst (i := 0) (v := (0 : Int32)) rfl (hX10_isContested.at 26 rfl rfl) ?_
  exact osW.sub [] rfl (sX10_isContested_51 N (0 : Int32))
set_option maxRecDepth 100000 in
set_option maxHeartbeats 4000000 in
theorem sX10_isContested_27 (N : Nat) (l0 : Nat) (l1 : Int32) (k0 : Int32) (k1 : Nat) : osW (osFinM (fun r : Int32 => some (.int r)) 0 0) yX10_isContested cX10_isContested 2 (some .boolean) [] { frames := 2, cells := 0, slots := 0, locals := 43 } 0 0 27 [(0, .ref l0), (1, .int l1)] [.int k0, .ref k1] (qX10_isContested_27 N l0 l1 k0 k1) := by
  unfold qX10_isContested_27
  refine os_callV (cis := [8]) (b := k1) (As := [.int k0]) (st := []) (st' := (fun r => .int r :: [])) sl8_X10_isRefused_X10_isRefused mdX10_isRefused wd2017 wd2019 (sX10_isRefused N k1 k0) rfl rfl (fun _ => rfl) (Nat.le_of_ble_eq_true rfl) (Nat.le_of_ble_eq_true rfl) (Nat.le_of_ble_eq_true rfl) rfl (Nat.le_of_ble_eq_true rfl) rfl (Nat.le_of_ble_eq_true rfl) (hX10_isContested.at 15 rfl rfl) (fun x1 => ?_)
  refine os_if_ne (off := 20) (tgt := 50) rfl (hX10_isContested.at 16 rfl rfl) ?_ ?_
  · exact osW.sub [] rfl (sX10_isContested_50 N )
  · refine os_aload_n (i := 0) (q := 0) (v := l0) 0 rfl rfl (hX10_isContested.at 17 rfl rfl) ?_
    refine os_getR fX10_16 (hX10_isContested.at 18 rfl rfl) (fun x2 => ?_)
    refine os_iconst (i := 4) (v := (4 : Int32)) rfl (hX10_isContested.at 19 rfl rfl) ?_
    refine os_iaload (hX10_isContested.at 20 rfl rfl) (fun x3 => ?_)
    refine os_iload_n (i := 1) (q := 1) (v := l1) 1 rfl rfl (hX10_isContested.at 21 rfl rfl) ?_
    refine os_callS (As := [.int x3, .int l1]) (st := []) (st' := (fun r => .int r :: [])) mdX10_has wd1860 wd1861 (sX10_has N x3 l1) rfl rfl (fun _ => rfl) (Nat.le_of_ble_eq_true rfl) (Nat.le_of_ble_eq_true rfl) (Nat.le_of_ble_eq_true rfl) rfl (Nat.le_of_ble_eq_true rfl) rfl (Nat.le_of_ble_eq_true rfl) (hX10_isContested.at 22 rfl rfl) (fun x4 => ?_)
    refine os_if_eq (off := 7) (tgt := 50) rfl (hX10_isContested.at 23 rfl rfl) ?_ ?_
    · exact osW.sub [] rfl (sX10_isContested_50 N )
    · refine os_iconst (i := 1) (v := (1 : Int32)) rfl (hX10_isContested.at 24 rfl rfl) ?_
      refine os_goto (off := 4) (tgt := 51) rfl (hX10_isContested.at 25 rfl rfl) ?_
      exact osW.sub [] rfl (sX10_isContested_51 N (1 : Int32))
set_option maxRecDepth 100000 in
set_option maxHeartbeats 4000000 in
theorem sX10_isContested (N : Nat) (l0 : Nat) (l1 : Int32) : osMet yX10_isContested cX10_isContested 2 (some .boolean) 2 43 0 0 (fun r : Int32 => some (.int r)) [.ref l0, .int l1] (qX10_isContested N l0 l1) := by
  refine osMet.of plX10 (Nat.le_of_ble_eq_true rfl) (osW.rw (lv2 := [(0, .ref l0), (1, .int l1)]) ?_ rfl rfl rfl)
  unfold qX10_isContested
  refine os_aload_n (i := 0) (q := 0) (v := l0) 0 rfl rfl (hX10_isContested.at 0 rfl rfl) ?_
  refine os_aload_n (i := 0) (q := 0) (v := l0) 0 rfl rfl (hX10_isContested.at 1 rfl rfl) ?_
  refine os_iload_n (i := 1) (q := 1) (v := l1) 1 rfl rfl (hX10_isContested.at 2 rfl rfl) ?_
  refine os_callV (cis := [8]) (b := l0) (As := [.int l1]) (st := [.ref l0]) (st' := (fun r => .int r :: [.ref l0])) sl8_X10_isArea_X10_isArea mdX10_isArea wd2013 wd2015 (sX10_isArea N l0 l1) rfl rfl (fun _ => rfl) (Nat.le_of_ble_eq_true rfl) (Nat.le_of_ble_eq_true rfl) (Nat.le_of_ble_eq_true rfl) rfl (Nat.le_of_ble_eq_true rfl) rfl (Nat.le_of_ble_eq_true rfl) (hX10_isContested.at 3 rfl rfl) (fun x1 => ?_)
  refine os_if_ne (off := 7) (tgt := 13) rfl (hX10_isContested.at 4 rfl rfl) ?_ ?_
  · refine os_aload_n (i := 0) (q := 0) (v := l0) 0 rfl rfl (hX10_isContested.at 7 rfl rfl) ?_
    refine os_getR fX10_16 (hX10_isContested.at 8 rfl rfl) (fun x2 => ?_)
    refine os_iconst (i := 2) (v := (2 : Int32)) rfl (hX10_isContested.at 9 rfl rfl) ?_
    refine os_iaload (hX10_isContested.at 10 rfl rfl) (fun x3 => ?_)
    refine os_if_ne (off := 7) (tgt := 26) rfl (hX10_isContested.at 11 rfl rfl) ?_ ?_
    · refine os_iconst (i := 0) (v := (0 : Int32)) rfl (hX10_isContested.at 14 rfl rfl) ?_
      exact osW.sub [0, 1] rfl (sX10_isContested_27 N l0 l1 (0 : Int32) l0)
    · refine os_iconst (i := 2) (v := (2 : Int32)) rfl (hX10_isContested.at 12 rfl rfl) ?_
      refine os_goto (off := 4) (tgt := 27) rfl (hX10_isContested.at 13 rfl rfl) ?_
      exact osW.sub [0, 1] rfl (sX10_isContested_27 N l0 l1 (2 : Int32) l0)
  · refine os_iconst (i := 1) (v := (1 : Int32)) rfl (hX10_isContested.at 5 rfl rfl) ?_
    refine os_goto (off := 17) (tgt := 27) rfl (hX10_isContested.at 6 rfl rfl) ?_
    exact osW.sub [0, 1] rfl (sX10_isContested_27 N l0 l1 (1 : Int32) l0)
-- X10_mayRetreat
def KX10_mayRetreat : List (Nat × Nat × Instr) := [(0, 1, .aload_n 0), (1, 1, .iload_n 1), (2, 3, .invokevirtual 99), (5, 3, .ifCond .eq 28), (8, 1, .aload_n 0), (9, 1, .iload_n 2), (10, 3, .invokevirtual 99), (13, 3, .ifCond .eq 20), (16, 1, .aload_n 0), (17, 3, .getfield 16), (20, 2, .bipush 53), (22, 1, .iload_n 1), (23, 1, .iadd), (24, 1, .iaload), (25, 1, .iconst (-1)), (26, 3, .if_icmp .eq 7), (29, 1, .iconst 1), (30, 3, .goto 4), (33, 1, .iconst 0), (34, 1, .istore_n 3), (35, 1, .aload_n 0), (36, 1, .iload_n 3), (37, 3, .ifCond .eq 7), (40, 1, .iconst 0), (41, 3, .goto 4), (44, 1, .iconst 1), (45, 3, .invokevirtual 354), (48, 3, .ifCond .ne 16), (51, 1, .aload_n 0), (52, 1, .iload_n 1), (53, 1, .iload_n 2), (54, 3, .invokevirtual 321), (57, 3, .ifCond .eq 7), (60, 1, .iconst 1), (61, 3, .goto 4), (64, 1, .iconst 0), (65, 1, .ireturn)]
theorem hX10_mayRetreat : osDs cX10_mayRetreat KX10_mayRetreat := by
  show ∀ q ∈ KX10_mayRetreat, decode cX10_mayRetreat q.1 = .ok (q.2.2, q.2.1)
  decide +kernel
def qX10_mayRetreat_65 (N : Nat) (k0 : Int32) : osM Int32 := osretZ k0
def qX10_mayRetreat_64 (N : Nat) : osM Int32 := qX10_mayRetreat_65 N (0 : Int32)
def qX10_mayRetreat_45 (N : Nat) (l0 : Nat) (l1 : Int32) (l2 : Int32) (k0 : Int32) (k1 : Nat) : osM Int32 := osbind (osrecv [8] k1 (qX10_isRefused N k1 k0)) fun x1 => osite (x1 = 0) (osbind (osrecv [8] l0 (qX10_mayGoBack N l0 l1 l2)) fun x2 => osite (x2 = 0) (qX10_mayRetreat_64 N ) (qX10_mayRetreat_65 N (1 : Int32))) (qX10_mayRetreat_64 N )
def qX10_mayRetreat_34 (N : Nat) (l0 : Nat) (l1 : Int32) (l2 : Int32) (k0 : Int32) : osM Int32 := osite (k0 = 0) (qX10_mayRetreat_45 N l0 l1 l2 (1 : Int32) l0) (qX10_mayRetreat_45 N l0 l1 l2 (0 : Int32) l0)
def qX10_mayRetreat_33 (N : Nat) (l0 : Nat) (l1 : Int32) (l2 : Int32) : osM Int32 := qX10_mayRetreat_34 N l0 l1 l2 (0 : Int32)
def qX10_mayRetreat (N : Nat) (l0 : Nat) (l1 : Int32) (l2 : Int32) : osM Int32 := osbind (osrecv [8] l0 (qX10_isArea N l0 l1)) fun x1 => osite (x1 = 0) (qX10_mayRetreat_33 N l0 l1 l2) (osbind (osrecv [8] l0 (qX10_isArea N l0 l2)) fun x2 => osite (x2 = 0) (qX10_mayRetreat_33 N l0 l1 l2) (osbind (osgR [8] 3 l0) fun x3 => osbind (osaI 0 x3 ((53 : Int32) + l1)) fun x4 => osite (x4 = (-1 : Int32)) (qX10_mayRetreat_33 N l0 l1 l2) (qX10_mayRetreat_34 N l0 l1 l2 (1 : Int32))))
set_option maxRecDepth 100000 in
set_option maxHeartbeats 4000000 in
theorem sX10_mayRetreat_65 (N : Nat) (k0 : Int32) : osW (osFinM (fun r : Int32 => some (.int r)) 0 0) yX10_mayRetreat cX10_mayRetreat 4 (some .boolean) [] { frames := 3, cells := 0, slots := 0, locals := 67 } 0 0 65 [] [.int k0] (qX10_mayRetreat_65 N k0) := by
  unfold qX10_mayRetreat_65
  exact os_zret (Nat.le_of_ble_eq_true rfl) (Nat.le_of_ble_eq_true rfl) (hX10_mayRetreat.at 36 rfl rfl).1
set_option maxRecDepth 100000 in
set_option maxHeartbeats 4000000 in
theorem sX10_mayRetreat_64 (N : Nat) : osW (osFinM (fun r : Int32 => some (.int r)) 0 0) yX10_mayRetreat cX10_mayRetreat 4 (some .boolean) [] { frames := 3, cells := 0, slots := 0, locals := 67 } 0 0 64 [] [] (qX10_mayRetreat_64 N) := by
  unfold qX10_mayRetreat_64
  refine os_iconst (i := 0) (v := (0 : Int32)) rfl (hX10_mayRetreat.at 35 rfl rfl) ?_
  exact osW.sub [] rfl (sX10_mayRetreat_65 N (0 : Int32))
set_option maxRecDepth 100000 in
set_option maxHeartbeats 4000000 in
theorem sX10_mayRetreat_45 (N : Nat) (l0 : Nat) (l1 : Int32) (l2 : Int32) (k0 : Int32) (k1 : Nat) : osW (osFinM (fun r : Int32 => some (.int r)) 0 0) yX10_mayRetreat cX10_mayRetreat 4 (some .boolean) [] { frames := 3, cells := 0, slots := 0, locals := 67 } 0 0 45 [(0, .ref l0), (1, .int l1), (2, .int l2)] [.int k0, .ref k1] (qX10_mayRetreat_45 N l0 l1 l2 k0 k1) := by
  unfold qX10_mayRetreat_45
  refine os_callV (cis := [8]) (b := k1) (As := [.int k0]) (st := []) (st' := (fun r => .int r :: [])) sl8_X10_isRefused_X10_isRefused mdX10_isRefused wd2017 wd2019 (sX10_isRefused N k1 k0) rfl rfl (fun _ => rfl) (Nat.le_of_ble_eq_true rfl) (Nat.le_of_ble_eq_true rfl) (Nat.le_of_ble_eq_true rfl) rfl (Nat.le_of_ble_eq_true rfl) rfl (Nat.le_of_ble_eq_true rfl) (hX10_mayRetreat.at 26 rfl rfl) (fun x1 => ?_)
  refine os_if_ne (off := 16) (tgt := 64) rfl (hX10_mayRetreat.at 27 rfl rfl) ?_ ?_
  · exact osW.sub [] rfl (sX10_mayRetreat_64 N )
  · refine os_aload_n (i := 0) (q := 0) (v := l0) 0 rfl rfl (hX10_mayRetreat.at 28 rfl rfl) ?_
    refine os_iload_n (i := 1) (q := 1) (v := l1) 1 rfl rfl (hX10_mayRetreat.at 29 rfl rfl) ?_
    refine os_iload_n (i := 2) (q := 2) (v := l2) 2 rfl rfl (hX10_mayRetreat.at 30 rfl rfl) ?_
    refine os_callV (cis := [8]) (b := l0) (As := [.int l1, .int l2]) (st := []) (st' := (fun r => .int r :: [])) sl8_X10_mayGoBack_X10_mayGoBack mdX10_mayGoBack wd1970 wd1972 (sX10_mayGoBack N l0 l1 l2) rfl rfl (fun _ => rfl) (Nat.le_of_ble_eq_true rfl) (Nat.le_of_ble_eq_true rfl) (Nat.le_of_ble_eq_true rfl) rfl (Nat.le_of_ble_eq_true rfl) rfl (Nat.le_of_ble_eq_true rfl) (hX10_mayRetreat.at 31 rfl rfl) (fun x2 => ?_)
    refine os_if_eq (off := 7) (tgt := 64) rfl (hX10_mayRetreat.at 32 rfl rfl) ?_ ?_
    · exact osW.sub [] rfl (sX10_mayRetreat_64 N )
    · refine os_iconst (i := 1) (v := (1 : Int32)) rfl (hX10_mayRetreat.at 33 rfl rfl) ?_
      refine os_goto (off := 4) (tgt := 65) rfl (hX10_mayRetreat.at 34 rfl rfl) ?_
      exact osW.sub [] rfl (sX10_mayRetreat_65 N (1 : Int32))
set_option maxRecDepth 100000 in
set_option maxHeartbeats 4000000 in
theorem sX10_mayRetreat_34 (N : Nat) (l0 : Nat) (l1 : Int32) (l2 : Int32) (k0 : Int32) : osW (osFinM (fun r : Int32 => some (.int r)) 0 0) yX10_mayRetreat cX10_mayRetreat 4 (some .boolean) [] { frames := 3, cells := 0, slots := 0, locals := 67 } 0 0 34 [(0, .ref l0), (1, .int l1), (2, .int l2)] [.int k0] (qX10_mayRetreat_34 N l0 l1 l2 k0) := by
  unfold qX10_mayRetreat_34
  refine os_istore_n (i := 3) (q := 3) rfl (lv' := [(3, .int k0), (0, .ref l0), (1, .int l1), (2, .int l2)]) (Nat.le_of_ble_eq_true rfl) rfl (hX10_mayRetreat.at 19 rfl rfl) ?_
  refine os_aload_n (i := 0) (q := 0) (v := l0) 1 rfl rfl (hX10_mayRetreat.at 20 rfl rfl) ?_
  refine os_iload_n (i := 3) (q := 3) (v := k0) 0 rfl rfl (hX10_mayRetreat.at 21 rfl rfl) ?_
  refine os_if_eq (off := 7) (tgt := 44) rfl (hX10_mayRetreat.at 22 rfl rfl) ?_ ?_
  · refine os_iconst (i := 1) (v := (1 : Int32)) rfl (hX10_mayRetreat.at 25 rfl rfl) ?_
    exact osW.sub [1, 2, 3] rfl (sX10_mayRetreat_45 N l0 l1 l2 (1 : Int32) l0)
  · refine os_iconst (i := 0) (v := (0 : Int32)) rfl (hX10_mayRetreat.at 23 rfl rfl) ?_
    refine os_goto (off := 4) (tgt := 45) rfl (hX10_mayRetreat.at 24 rfl rfl) ?_
    exact osW.sub [1, 2, 3] rfl (sX10_mayRetreat_45 N l0 l1 l2 (0 : Int32) l0)
set_option maxRecDepth 100000 in
set_option maxHeartbeats 4000000 in
theorem sX10_mayRetreat_33 (N : Nat) (l0 : Nat) (l1 : Int32) (l2 : Int32) : osW (osFinM (fun r : Int32 => some (.int r)) 0 0) yX10_mayRetreat cX10_mayRetreat 4 (some .boolean) [] { frames := 3, cells := 0, slots := 0, locals := 67 } 0 0 33 [(0, .ref l0), (1, .int l1), (2, .int l2)] [] (qX10_mayRetreat_33 N l0 l1 l2) := by
  unfold qX10_mayRetreat_33
  refine os_iconst (i := 0) (v := (0 : Int32)) rfl (hX10_mayRetreat.at 18 rfl rfl) ?_
  exact osW.sub [0, 1, 2] rfl (sX10_mayRetreat_34 N l0 l1 l2 (0 : Int32))
set_option maxRecDepth 100000 in
set_option maxHeartbeats 4000000 in
theorem sX10_mayRetreat (N : Nat) (l0 : Nat) (l1 : Int32) (l2 : Int32) : osMet yX10_mayRetreat cX10_mayRetreat 4 (some .boolean) 3 67 0 0 (fun r : Int32 => some (.int r)) [.ref l0, .int l1, .int l2] (qX10_mayRetreat N l0 l1 l2) := by
  refine osMet.of plX10 (Nat.le_of_ble_eq_true rfl) (osW.rw (lv2 := [(0, .ref l0), (1, .int l1), (2, .int l2)]) ?_ rfl rfl rfl)
  unfold qX10_mayRetreat
  refine os_aload_n (i := 0) (q := 0) (v := l0) 0 rfl rfl (hX10_mayRetreat.at 0 rfl rfl) ?_
  refine os_iload_n (i := 1) (q := 1) (v := l1) 1 rfl rfl (hX10_mayRetreat.at 1 rfl rfl) ?_
  refine os_callV (cis := [8]) (b := l0) (As := [.int l1]) (st := []) (st' := (fun r => .int r :: [])) sl8_X10_isArea_X10_isArea mdX10_isArea wd2013 wd2015 (sX10_isArea N l0 l1) rfl rfl (fun _ => rfl) (Nat.le_of_ble_eq_true rfl) (Nat.le_of_ble_eq_true rfl) (Nat.le_of_ble_eq_true rfl) rfl (Nat.le_of_ble_eq_true rfl) rfl (Nat.le_of_ble_eq_true rfl) (hX10_mayRetreat.at 2 rfl rfl) (fun x1 => ?_)
  refine os_if_eq (off := 28) (tgt := 33) rfl (hX10_mayRetreat.at 3 rfl rfl) ?_ ?_
  · exact osW.sub [0, 1, 2] rfl (sX10_mayRetreat_33 N l0 l1 l2)
  · refine os_aload_n (i := 0) (q := 0) (v := l0) 0 rfl rfl (hX10_mayRetreat.at 4 rfl rfl) ?_
    refine os_iload_n (i := 2) (q := 2) (v := l2) 2 rfl rfl (hX10_mayRetreat.at 5 rfl rfl) ?_
    refine os_callV (cis := [8]) (b := l0) (As := [.int l2]) (st := []) (st' := (fun r => .int r :: [])) sl8_X10_isArea_X10_isArea mdX10_isArea wd2013 wd2015 (sX10_isArea N l0 l2) rfl rfl (fun _ => rfl) (Nat.le_of_ble_eq_true rfl) (Nat.le_of_ble_eq_true rfl) (Nat.le_of_ble_eq_true rfl) rfl (Nat.le_of_ble_eq_true rfl) rfl (Nat.le_of_ble_eq_true rfl) (hX10_mayRetreat.at 6 rfl rfl) (fun x2 => ?_)
    refine os_if_eq (off := 20) (tgt := 33) rfl (hX10_mayRetreat.at 7 rfl rfl) ?_ ?_
    · exact osW.sub [0, 1, 2] rfl (sX10_mayRetreat_33 N l0 l1 l2)
    · refine os_aload_n (i := 0) (q := 0) (v := l0) 0 rfl rfl (hX10_mayRetreat.at 8 rfl rfl) ?_
      refine os_getR fX10_16 (hX10_mayRetreat.at 9 rfl rfl) (fun x3 => ?_)
      refine os_bipush (i := 53) (v := (53 : Int32)) rfl (hX10_mayRetreat.at 10 rfl rfl) ?_
      refine os_iload_n (i := 1) (q := 1) (v := l1) 1 rfl rfl (hX10_mayRetreat.at 11 rfl rfl) ?_
      refine os_iadd (hX10_mayRetreat.at 12 rfl rfl) ?_
      refine os_iaload (hX10_mayRetreat.at 13 rfl rfl) (fun x4 => ?_)
      refine os_iconst (i := (-1)) (v := (-1 : Int32)) rfl (hX10_mayRetreat.at 14 rfl rfl) ?_
      refine os_icmp_eq (off := 7) (tgt := 33) rfl (hX10_mayRetreat.at 15 rfl rfl) ?_ ?_
      · exact osW.sub [0, 1, 2] rfl (sX10_mayRetreat_33 N l0 l1 l2)
      · refine os_iconst (i := 1) (v := (1 : Int32)) rfl (hX10_mayRetreat.at 16 rfl rfl) ?_
        refine os_goto (off := 4) (tgt := 34) rfl (hX10_mayRetreat.at 17 rfl rfl) ?_
        exact osW.sub [0, 1, 2] rfl (sX10_mayRetreat_34 N l0 l1 l2 (1 : Int32))
-- X10_isAlone
def KX10_isAlone : List (Nat × Nat × Instr) := [(0, 1, .iconst 0), (1, 1, .istore_n 2), (2, 1, .iload_n 2), (3, 1, .aload_n 0), (4, 3, .getfield 7), (7, 1, .iconst 0), (8, 1, .iaload), (9, 3, .if_icmp .ge 50), (12, 1, .iload_n 2), (13, 1, .iload_n 1), (14, 3, .if_icmp .eq 39), (17, 1, .aload_n 0), (18, 3, .getfield 16), (21, 2, .bipush 53), (23, 1, .iload_n 2), (24, 1, .iadd), (25, 1, .iaload), (26, 1, .iconst (-1)), (27, 3, .if_icmp .eq 26), (30, 1, .aload_n 0), (31, 3, .getfield 16), (34, 2, .bipush 101), (36, 1, .iload_n 2), (37, 1, .iadd), (38, 1, .iaload), (39, 1, .aload_n 0), (40, 3, .getfield 16), (43, 2, .bipush 101), (45, 1, .iload_n 1), (46, 1, .iadd), (47, 1, .iaload), (48, 3, .if_icmp .ne 5), (51, 1, .iconst 0), (52, 1, .ireturn), (53, 3, .iinc 2 1), (56, 3, .goto (-54)), (59, 1, .iconst 1), (60, 1, .ireturn)]
theorem hX10_isAlone : osDs cX10_isAlone KX10_isAlone := by
  show ∀ q ∈ KX10_isAlone, decode cX10_isAlone q.1 = .ok (q.2.2, q.2.1)
  decide +kernel
def qX10_isAlone_53 (N : Nat) (c2 : Nat × Int32 × Int32 → osM Int32) (l0 : Nat) (l1 : Int32) (l2 : Int32) : osM Int32 := c2 (l0, l1, (l2 + (1 : Int32)))
def bX10_isAlone_2 (N : Nat) (c2 : Nat × Int32 × Int32 → osM Int32) (l0 : Nat) (l1 : Int32) (l2 : Int32) : osM Int32 := osbind (osgR [8] 1 l0) fun x1 => osbind (osaI 0 x1 (0 : Int32)) fun x2 => osite (x2 ≤ l2) (osretZ (1 : Int32)) (osite (l2 = l1) (qX10_isAlone_53 N c2 l0 l1 l2) (osbind (osgR [8] 3 l0) fun x3 => osbind (osaI 0 x3 ((53 : Int32) + l2)) fun x4 => osite (x4 = (-1 : Int32)) (qX10_isAlone_53 N c2 l0 l1 l2) (osbind (osgR [8] 3 l0) fun x5 => osbind (osaI 0 x5 ((101 : Int32) + l2)) fun x6 => osbind (osgR [8] 3 l0) fun x7 => osbind (osaI 0 x7 ((101 : Int32) + l1)) fun x8 => osite (x6 = x8) (osretZ (0 : Int32)) (qX10_isAlone_53 N c2 l0 l1 l2))))
def qX10_isAlone_2 (N : Nat) : Nat × Int32 × Int32 → osM Int32 := osloop (fun ih p => bX10_isAlone_2 N ih p.1 p.2.1 p.2.2) N
def qX10_isAlone (N : Nat) (l0 : Nat) (l1 : Int32) : osM Int32 := qX10_isAlone_2 N (l0, l1, (0 : Int32))
set_option maxRecDepth 100000 in
set_option maxHeartbeats 4000000 in
theorem sX10_isAlone_53 (N : Nat) (c2 : Nat × Int32 × Int32 → osM Int32) (g2 : ∀ (l0 : Nat) (l1 : Int32) (l2 : Int32), osW (osFinM (fun r : Int32 => some (.int r)) 0 0) yX10_isAlone cX10_isAlone 3 (some .boolean) [] { frames := 0, cells := 0, slots := 0, locals := 0 } 0 0 2 [(0, .ref l0), (1, .int l1), (2, .int l2)] [] (c2 (l0, l1, l2))) (l0 : Nat) (l1 : Int32) (l2 : Int32) : osW (osFinM (fun r : Int32 => some (.int r)) 0 0) yX10_isAlone cX10_isAlone 3 (some .boolean) [] { frames := 0, cells := 0, slots := 0, locals := 0 } 0 0 53 [(0, .ref l0), (1, .int l1), (2, .int l2)] [] (qX10_isAlone_53 N c2 l0 l1 l2) := by
  unfold qX10_isAlone_53
  refine os_iinc (i := 2) (d := 1) (x := l2) (v := (1 : Int32)) (lv' := [(2, .int (l2 + (1 : Int32))), (0, .ref l0), (1, .int l1)]) 2 rfl rfl (Nat.le_of_ble_eq_true rfl) rfl (hX10_isAlone.at 34 rfl rfl) ?_
  refine os_goto (off := (-54)) (tgt := 2) rfl (hX10_isAlone.at 35 rfl rfl) ?_
  exact osW.sub [1, 2, 0] rfl (g2 l0 l1 (l2 + (1 : Int32)))
set_option maxRecDepth 100000 in
set_option maxHeartbeats 4000000 in
theorem tX10_isAlone_2 (N : Nat) (c2 : Nat × Int32 × Int32 → osM Int32) (g2 : ∀ (l0 : Nat) (l1 : Int32) (l2 : Int32), osW (osFinM (fun r : Int32 => some (.int r)) 0 0) yX10_isAlone cX10_isAlone 3 (some .boolean) [] { frames := 0, cells := 0, slots := 0, locals := 0 } 0 0 2 [(0, .ref l0), (1, .int l1), (2, .int l2)] [] (c2 (l0, l1, l2))) (l0 : Nat) (l1 : Int32) (l2 : Int32) : osW (osFinM (fun r : Int32 => some (.int r)) 0 0) yX10_isAlone cX10_isAlone 3 (some .boolean) [] { frames := 0, cells := 0, slots := 0, locals := 0 } 0 0 2 [(0, .ref l0), (1, .int l1), (2, .int l2)] [] (bX10_isAlone_2 N c2 l0 l1 l2) := by
  unfold bX10_isAlone_2
  refine os_iload_n (i := 2) (q := 2) (v := l2) 2 rfl rfl (hX10_isAlone.at 2 rfl rfl) ?_
  refine os_aload_n (i := 0) (q := 0) (v := l0) 0 rfl rfl (hX10_isAlone.at 3 rfl rfl) ?_
  refine os_getR fX10_7 (hX10_isAlone.at 4 rfl rfl) (fun x1 => ?_)
  refine os_iconst (i := 0) (v := (0 : Int32)) rfl (hX10_isAlone.at 5 rfl rfl) ?_
  refine os_iaload (hX10_isAlone.at 6 rfl rfl) (fun x2 => ?_)
  refine os_icmp_ge (off := 50) (tgt := 59) rfl (hX10_isAlone.at 7 rfl rfl) ?_ ?_
  · refine os_iconst (i := 1) (v := (1 : Int32)) rfl (hX10_isAlone.at 36 rfl rfl) ?_
    exact os_zret (Nat.le_of_ble_eq_true rfl) (Nat.le_of_ble_eq_true rfl) (hX10_isAlone.at 37 rfl rfl).1
  · refine os_iload_n (i := 2) (q := 2) (v := l2) 2 rfl rfl (hX10_isAlone.at 8 rfl rfl) ?_
    refine os_iload_n (i := 1) (q := 1) (v := l1) 1 rfl rfl (hX10_isAlone.at 9 rfl rfl) ?_
    refine os_icmp_eq (off := 39) (tgt := 53) rfl (hX10_isAlone.at 10 rfl rfl) ?_ ?_
    · exact osW.sub [0, 1, 2] rfl (sX10_isAlone_53 N c2 g2 l0 l1 l2)
    · refine os_aload_n (i := 0) (q := 0) (v := l0) 0 rfl rfl (hX10_isAlone.at 11 rfl rfl) ?_
      refine os_getR fX10_16 (hX10_isAlone.at 12 rfl rfl) (fun x3 => ?_)
      refine os_bipush (i := 53) (v := (53 : Int32)) rfl (hX10_isAlone.at 13 rfl rfl) ?_
      refine os_iload_n (i := 2) (q := 2) (v := l2) 2 rfl rfl (hX10_isAlone.at 14 rfl rfl) ?_
      refine os_iadd (hX10_isAlone.at 15 rfl rfl) ?_
      refine os_iaload (hX10_isAlone.at 16 rfl rfl) (fun x4 => ?_)
      refine os_iconst (i := (-1)) (v := (-1 : Int32)) rfl (hX10_isAlone.at 17 rfl rfl) ?_
      refine os_icmp_eq (off := 26) (tgt := 53) rfl (hX10_isAlone.at 18 rfl rfl) ?_ ?_
      · exact osW.sub [0, 1, 2] rfl (sX10_isAlone_53 N c2 g2 l0 l1 l2)
      · refine os_aload_n (i := 0) (q := 0) (v := l0) 0 rfl rfl (hX10_isAlone.at 19 rfl rfl) ?_
        refine os_getR fX10_16 (hX10_isAlone.at 20 rfl rfl) (fun x5 => ?_)
        refine os_bipush (i := 101) (v := (101 : Int32)) rfl (hX10_isAlone.at 21 rfl rfl) ?_
        refine os_iload_n (i := 2) (q := 2) (v := l2) 2 rfl rfl (hX10_isAlone.at 22 rfl rfl) ?_
        refine os_iadd (hX10_isAlone.at 23 rfl rfl) ?_
        refine os_iaload (hX10_isAlone.at 24 rfl rfl) (fun x6 => ?_)
        refine os_aload_n (i := 0) (q := 0) (v := l0) 0 rfl rfl (hX10_isAlone.at 25 rfl rfl) ?_
        refine os_getR fX10_16 (hX10_isAlone.at 26 rfl rfl) (fun x7 => ?_)
        refine os_bipush (i := 101) (v := (101 : Int32)) rfl (hX10_isAlone.at 27 rfl rfl) ?_
        refine os_iload_n (i := 1) (q := 1) (v := l1) 1 rfl rfl (hX10_isAlone.at 28 rfl rfl) ?_
        refine os_iadd (hX10_isAlone.at 29 rfl rfl) ?_
        refine os_iaload (hX10_isAlone.at 30 rfl rfl) (fun x8 => ?_)
        refine os_icmp_ne (off := 5) (tgt := 53) rfl (hX10_isAlone.at 31 rfl rfl) ?_ ?_
        · exact osW.sub [0, 1, 2] rfl (sX10_isAlone_53 N c2 g2 l0 l1 l2)
        · refine os_iconst (i := 0) (v := (0 : Int32)) rfl (hX10_isAlone.at 32 rfl rfl) ?_
          exact os_zret (Nat.le_of_ble_eq_true rfl) (Nat.le_of_ble_eq_true rfl) (hX10_isAlone.at 33 rfl rfl).1
set_option maxRecDepth 100000 in
set_option maxHeartbeats 4000000 in
theorem sX10_isAlone_2 (N : Nat) (l0 : Nat) (l1 : Int32) (l2 : Int32) : osW (osFinM (fun r : Int32 => some (.int r)) 0 0) yX10_isAlone cX10_isAlone 3 (some .boolean) [] { frames := 0, cells := 0, slots := 0, locals := 0 } 0 0 2 [(0, .ref l0), (1, .int l1), (2, .int l2)] [] (qX10_isAlone_2 N (l0, l1, l2)) :=
  osloop_W (lvf := fun p => [(0, .ref p.1), (1, .int p.2.1), (2, .int p.2.2)]) (stf := fun p => []) (fun ih g p => tX10_isAlone_2 N ih (fun l0 l1 l2 => g (l0, l1, l2)) p.1 p.2.1 p.2.2) N (l0, l1, l2)
set_option maxRecDepth 100000 in
set_option maxHeartbeats 4000000 in
theorem sX10_isAlone (N : Nat) (l0 : Nat) (l1 : Int32) : osMet yX10_isAlone cX10_isAlone 3 (some .boolean) 0 0 0 0 (fun r : Int32 => some (.int r)) [.ref l0, .int l1] (qX10_isAlone N l0 l1) := by
  refine osMet.of plX10 (Nat.le_of_ble_eq_true rfl) (osW.rw (lv2 := [(0, .ref l0), (1, .int l1)]) ?_ rfl rfl rfl)
  unfold qX10_isAlone
  refine os_iconst (i := 0) (v := (0 : Int32)) rfl (hX10_isAlone.at 0 rfl rfl) ?_
  refine os_istore_n (i := 2) (q := 2) rfl (lv' := [(2, .int (0 : Int32)), (0, .ref l0), (1, .int l1)]) (Nat.le_of_ble_eq_true rfl) rfl (hX10_isAlone.at 1 rfl rfl) ?_
  exact osW.sub [1, 2, 0] rfl (sX10_isAlone_2 N l0 l1 (0 : Int32))
-- X10_endRetreats
def KX10_endRetreats : List (Nat × Nat × Instr) := [(0, 1, .aload_n 0), (1, 1, .aload_n 0), (2, 3, .getfield 16), (5, 1, .iconst 0), (6, 1, .iaload), (7, 1, .iconst 1), (8, 3, .if_icmp .eq 7), (11, 1, .iconst 1), (12, 3, .goto 4), (15, 1, .iconst 0), (16, 3, .invokevirtual 354), (19, 3, .ifCond .eq 5), (22, 1, .iconst 0), (23, 1, .ireturn), (24, 1, .aload_n 0), (25, 3, .invokevirtual 459), (28, 1, .iconst 0), (29, 1, .istore_n 1), (30, 1, .iconst 0), (31, 1, .istore_n 2), (32, 1, .iload_n 2), (33, 1, .aload_n 0), (34, 3, .getfield 7), (37, 1, .iconst 0), (38, 1, .iaload), (39, 3, .if_icmp .ge 91), (42, 1, .aload_n 0), (43, 3, .getfield 16), (46, 2, .bipush 53), (48, 1, .iload_n 2), (49, 1, .iadd), (50, 1, .iaload), (51, 1, .iconst (-1)), (52, 3, .if_icmp .ne 6), (55, 3, .goto 69), (58, 1, .aload_n 0), (59, 3, .getfield 16), (62, 2, .bipush 101), (64, 1, .iload_n 2), (65, 1, .iadd), (66, 1, .iaload), (67, 1, .istore_n 3), (68, 1, .iload_n 3), (69, 1, .iconst (-1)), (70, 3, .if_icmp .eq 11), (73, 1, .aload_n 0), (74, 1, .iload_n 2), (75, 3, .invokevirtual 477), (78, 3, .ifCond .ne 10), (81, 1, .iload_n 1), (82, 1, .iconst 1), (83, 1, .iadd), (84, 1, .istore_n 1), (85, 3, .goto 39), (88, 1, .aload_n 0), (89, 3, .getfield 16), (92, 2, .bipush 21), (94, 1, .iload_n 3), (95, 1, .iadd), (96, 1, .aload_n 0), (97, 3, .getfield 16), (100, 2, .bipush 53), (102, 1, .iload_n 2), (103, 1, .iadd), (104, 1, .iaload), (105, 1, .iastore), (106, 1, .aload_n 0), (107, 3, .getfield 16), (110, 2, .bipush 37), (112, 1, .iload_n 3), (113, 1, .iadd), (114, 1, .aload_n 0), (115, 3, .getfield 16), (118, 2, .bipush 69), (120, 1, .iload_n 2), (121, 1, .iadd), (122, 1, .iaload), (123, 1, .iastore), (124, 3, .iinc 2 1), (127, 3, .goto (-95)), (130, 1, .iconst 0), (131, 1, .istore_n 2), (132, 1, .iload_n 2), (133, 2, .bipush 16), (135, 3, .if_icmp .ge 39), (138, 1, .aload_n 0), (139, 3, .getfield 16), (142, 2, .bipush 53), (144, 1, .iload_n 2), (145, 1, .iadd), (146, 1, .iconst (-1)), (147, 1, .iastore), (148, 1, .aload_n 0), (149, 3, .getfield 16), (152, 2, .bipush 85), (154, 1, .iload_n 2), (155, 1, .iadd), (156, 1, .iconst (-1)), (157, 1, .iastore), (158, 1, .aload_n 0), (159, 3, .getfield 16), (162, 2, .bipush 101), (164, 1, .iload_n 2), (165, 1, .iadd), (166, 1, .iconst (-1)), (167, 1, .iastore), (168, 3, .iinc 2 1), (171, 3, .goto (-39)), (174, 1, .aload_n 0), (175, 3, .invokevirtual 474), (178, 1, .iload_n 1), (179, 1, .ireturn)]
theorem hX10_endRetreats : osDs cX10_endRetreats KX10_endRetreats := by
  show ∀ q ∈ KX10_endRetreats, decode cX10_endRetreats q.1 = .ok (q.2.2, q.2.1)
  decide +kernel
def bX10_endRetreats_132 (N : Nat) (c132 : Nat × Int32 × Int32 → osM Int32) (l0 : Nat) (l1 : Int32) (l2 : Int32) : osM Int32 := osite ((16 : Int32) ≤ l2) (osbind (osrecv [8] l0 (qX10_endsTurn N l0)) fun _ => osret l1) (osbind (osgR [8] 3 l0) fun x1 => osbind (ossI 0 x1 ((53 : Int32) + l2) (-1 : Int32)) fun _ => osbind (osgR [8] 3 l0) fun x2 => osbind (ossI 0 x2 ((85 : Int32) + l2) (-1 : Int32)) fun _ => osbind (osgR [8] 3 l0) fun x3 => osbind (ossI 0 x3 ((101 : Int32) + l2) (-1 : Int32)) fun _ => c132 (l0, l1, (l2 + (1 : Int32))))
def qX10_endRetreats_132 (N : Nat) : Nat × Int32 × Int32 → osM Int32 := osloop (fun ih p => bX10_endRetreats_132 N ih p.1 p.2.1 p.2.2) N
def qX10_endRetreats_124 (N : Nat) (c32 : Nat × Int32 × Int32 → osM Int32) (l0 : Nat) (l1 : Int32) (l2 : Int32) : osM Int32 := c32 (l0, l1, (l2 + (1 : Int32)))
def qX10_endRetreats_81 (N : Nat) (c32 : Nat × Int32 × Int32 → osM Int32) (l0 : Nat) (l1 : Int32) (l2 : Int32) : osM Int32 := qX10_endRetreats_124 N c32 l0 (l1 + (1 : Int32)) l2
def bX10_endRetreats_32 (N : Nat) (c32 : Nat × Int32 × Int32 → osM Int32) (l0 : Nat) (l1 : Int32) (l2 : Int32) : osM Int32 := osbind (osgR [8] 1 l0) fun x1 => osbind (osaI 0 x1 (0 : Int32)) fun x2 => osite (x2 ≤ l2) (qX10_endRetreats_132 N (l0, l1, (0 : Int32))) (osbind (osgR [8] 3 l0) fun x3 => osbind (osaI 0 x3 ((53 : Int32) + l2)) fun x4 => osite (x4 = (-1 : Int32)) (qX10_endRetreats_124 N c32 l0 l1 l2) (osbind (osgR [8] 3 l0) fun x5 => osbind (osaI 0 x5 ((101 : Int32) + l2)) fun x6 => osite (x6 = (-1 : Int32)) (qX10_endRetreats_81 N c32 l0 l1 l2) (osbind (osrecv [8] l0 (qX10_isAlone N l0 l2)) fun x7 => osite (x7 = 0) (qX10_endRetreats_81 N c32 l0 l1 l2) (osbind (osgR [8] 3 l0) fun x8 => osbind (osgR [8] 3 l0) fun x9 => osbind (osaI 0 x9 ((53 : Int32) + l2)) fun x10 => osbind (ossI 0 x8 ((21 : Int32) + x6) x10) fun _ => osbind (osgR [8] 3 l0) fun x11 => osbind (osgR [8] 3 l0) fun x12 => osbind (osaI 0 x12 ((69 : Int32) + l2)) fun x13 => osbind (ossI 0 x11 ((37 : Int32) + x6) x13) fun _ => qX10_endRetreats_124 N c32 l0 l1 l2))))
def qX10_endRetreats_32 (N : Nat) : Nat × Int32 × Int32 → osM Int32 := osloop (fun ih p => bX10_endRetreats_32 N ih p.1 p.2.1 p.2.2) N
def qX10_endRetreats_16 (N : Nat) (l0 : Nat) (k0 : Int32) (k1 : Nat) : osM Int32 := osbind (osrecv [8] k1 (qX10_isRefused N k1 k0)) fun x1 => osite (x1 = 0) (osbind (osrecv [8] l0 (qX10_remembers N l0)) fun _ => qX10_endRetreats_32 N (l0, (0 : Int32), (0 : Int32))) (osret (0 : Int32))
def qX10_endRetreats (N : Nat) (l0 : Nat) : osM Int32 := osbind (osgR [8] 3 l0) fun x1 => osbind (osaI 0 x1 (0 : Int32)) fun x2 => osite (x2 = (1 : Int32)) (qX10_endRetreats_16 N l0 (0 : Int32) l0) (qX10_endRetreats_16 N l0 (1 : Int32) l0)
set_option maxRecDepth 100000 in
set_option maxHeartbeats 4000000 in
theorem tX10_endRetreats_132 (N : Nat) (c132 : Nat × Int32 × Int32 → osM Int32) (g132 : ∀ (l0 : Nat) (l1 : Int32) (l2 : Int32), osW (osFinM (fun r : Int32 => some (.int r)) 0 0) yX10_endRetreats cX10_endRetreats 4 (some .int) [] { frames := 4, cells := 0, slots := 0, locals := 92 } 0 0 132 [(0, .ref l0), (1, .int l1), (2, .int l2)] [] (c132 (l0, l1, l2))) (l0 : Nat) (l1 : Int32) (l2 : Int32) : osW (osFinM (fun r : Int32 => some (.int r)) 0 0) yX10_endRetreats cX10_endRetreats 4 (some .int) [] { frames := 4, cells := 0, slots := 0, locals := 92 } 0 0 132 [(0, .ref l0), (1, .int l1), (2, .int l2)] [] (bX10_endRetreats_132 N c132 l0 l1 l2) := by
  unfold bX10_endRetreats_132
  refine os_iload_n (i := 2) (q := 2) (v := l2) 2 rfl rfl (hX10_endRetreats.at 82 rfl rfl) ?_
  refine os_bipush (i := 16) (v := (16 : Int32)) rfl (hX10_endRetreats.at 83 rfl rfl) ?_
  refine os_icmp_ge (off := 39) (tgt := 174) rfl (hX10_endRetreats.at 84 rfl rfl) ?_ ?_
  · refine os_aload_n (i := 0) (q := 0) (v := l0) 0 rfl rfl (hX10_endRetreats.at 108 rfl rfl) ?_
    refine os_callV (cis := [8]) (b := l0) (As := []) (st := []) (st' := (fun _ => [])) sl8_X10_endsTurn_X10_endsTurn mdX10_endsTurn wd2173 wd2175 (sX10_endsTurn N l0 ) rfl rfl (fun _ => rfl) (Nat.le_of_ble_eq_true rfl) (Nat.le_of_ble_eq_true rfl) (Nat.le_of_ble_eq_true rfl) rfl (Nat.le_of_ble_eq_true rfl) rfl (Nat.le_of_ble_eq_true rfl) (hX10_endRetreats.at 109 rfl rfl) (fun _ => ?_)
    refine os_iload_n (i := 1) (q := 1) (v := l1) 1 rfl rfl (hX10_endRetreats.at 110 rfl rfl) ?_
    exact os_iret (Nat.le_of_ble_eq_true rfl) (Nat.le_of_ble_eq_true rfl) (hX10_endRetreats.at 111 rfl rfl).1
  · refine os_aload_n (i := 0) (q := 0) (v := l0) 0 rfl rfl (hX10_endRetreats.at 85 rfl rfl) ?_
    refine os_getR fX10_16 (hX10_endRetreats.at 86 rfl rfl) (fun x1 => ?_)
    refine os_bipush (i := 53) (v := (53 : Int32)) rfl (hX10_endRetreats.at 87 rfl rfl) ?_
    refine os_iload_n (i := 2) (q := 2) (v := l2) 2 rfl rfl (hX10_endRetreats.at 88 rfl rfl) ?_
    refine os_iadd (hX10_endRetreats.at 89 rfl rfl) ?_
    refine os_iconst (i := (-1)) (v := (-1 : Int32)) rfl (hX10_endRetreats.at 90 rfl rfl) ?_
    refine os_iastore (hX10_endRetreats.at 91 rfl rfl) ?_
    refine os_aload_n (i := 0) (q := 0) (v := l0) 0 rfl rfl (hX10_endRetreats.at 92 rfl rfl) ?_
    refine os_getR fX10_16 (hX10_endRetreats.at 93 rfl rfl) (fun x2 => ?_)
    refine os_bipush (i := 85) (v := (85 : Int32)) rfl (hX10_endRetreats.at 94 rfl rfl) ?_
    refine os_iload_n (i := 2) (q := 2) (v := l2) 2 rfl rfl (hX10_endRetreats.at 95 rfl rfl) ?_
    refine os_iadd (hX10_endRetreats.at 96 rfl rfl) ?_
    refine os_iconst (i := (-1)) (v := (-1 : Int32)) rfl (hX10_endRetreats.at 97 rfl rfl) ?_
    refine os_iastore (hX10_endRetreats.at 98 rfl rfl) ?_
    refine os_aload_n (i := 0) (q := 0) (v := l0) 0 rfl rfl (hX10_endRetreats.at 99 rfl rfl) ?_
    refine os_getR fX10_16 (hX10_endRetreats.at 100 rfl rfl) (fun x3 => ?_)
    refine os_bipush (i := 101) (v := (101 : Int32)) rfl (hX10_endRetreats.at 101 rfl rfl) ?_
    refine os_iload_n (i := 2) (q := 2) (v := l2) 2 rfl rfl (hX10_endRetreats.at 102 rfl rfl) ?_
    refine os_iadd (hX10_endRetreats.at 103 rfl rfl) ?_
    refine os_iconst (i := (-1)) (v := (-1 : Int32)) rfl (hX10_endRetreats.at 104 rfl rfl) ?_
    refine os_iastore (hX10_endRetreats.at 105 rfl rfl) ?_
    refine os_iinc (i := 2) (d := 1) (x := l2) (v := (1 : Int32)) (lv' := [(2, .int (l2 + (1 : Int32))), (0, .ref l0), (1, .int l1)]) 2 rfl rfl (Nat.le_of_ble_eq_true rfl) rfl (hX10_endRetreats.at 106 rfl rfl) ?_
    refine os_goto (off := (-39)) (tgt := 132) rfl (hX10_endRetreats.at 107 rfl rfl) ?_
    exact osW.sub [1, 2, 0] rfl (g132 l0 l1 (l2 + (1 : Int32)))
set_option maxRecDepth 100000 in
set_option maxHeartbeats 4000000 in
theorem sX10_endRetreats_132 (N : Nat) (l0 : Nat) (l1 : Int32) (l2 : Int32) : osW (osFinM (fun r : Int32 => some (.int r)) 0 0) yX10_endRetreats cX10_endRetreats 4 (some .int) [] { frames := 4, cells := 0, slots := 0, locals := 92 } 0 0 132 [(0, .ref l0), (1, .int l1), (2, .int l2)] [] (qX10_endRetreats_132 N (l0, l1, l2)) :=
  osloop_W (lvf := fun p => [(0, .ref p.1), (1, .int p.2.1), (2, .int p.2.2)]) (stf := fun p => []) (fun ih g p => tX10_endRetreats_132 N ih (fun l0 l1 l2 => g (l0, l1, l2)) p.1 p.2.1 p.2.2) N (l0, l1, l2)
set_option maxRecDepth 100000 in
set_option maxHeartbeats 4000000 in
theorem sX10_endRetreats_124 (N : Nat) (c32 : Nat × Int32 × Int32 → osM Int32) (g32 : ∀ (l0 : Nat) (l1 : Int32) (l2 : Int32), osW (osFinM (fun r : Int32 => some (.int r)) 0 0) yX10_endRetreats cX10_endRetreats 4 (some .int) [] { frames := 4, cells := 0, slots := 0, locals := 92 } 0 0 32 [(0, .ref l0), (1, .int l1), (2, .int l2)] [] (c32 (l0, l1, l2))) (l0 : Nat) (l1 : Int32) (l2 : Int32) : osW (osFinM (fun r : Int32 => some (.int r)) 0 0) yX10_endRetreats cX10_endRetreats 4 (some .int) [] { frames := 4, cells := 0, slots := 0, locals := 92 } 0 0 124 [(0, .ref l0), (1, .int l1), (2, .int l2)] [] (qX10_endRetreats_124 N c32 l0 l1 l2) := by
  unfold qX10_endRetreats_124
  refine os_iinc (i := 2) (d := 1) (x := l2) (v := (1 : Int32)) (lv' := [(2, .int (l2 + (1 : Int32))), (0, .ref l0), (1, .int l1)]) 2 rfl rfl (Nat.le_of_ble_eq_true rfl) rfl (hX10_endRetreats.at 78 rfl rfl) ?_
  refine os_goto (off := (-95)) (tgt := 32) rfl (hX10_endRetreats.at 79 rfl rfl) ?_
  exact osW.sub [1, 2, 0] rfl (g32 l0 l1 (l2 + (1 : Int32)))
set_option maxRecDepth 100000 in
set_option maxHeartbeats 4000000 in
theorem sX10_endRetreats_81 (N : Nat) (c32 : Nat × Int32 × Int32 → osM Int32) (g32 : ∀ (l0 : Nat) (l1 : Int32) (l2 : Int32), osW (osFinM (fun r : Int32 => some (.int r)) 0 0) yX10_endRetreats cX10_endRetreats 4 (some .int) [] { frames := 4, cells := 0, slots := 0, locals := 92 } 0 0 32 [(0, .ref l0), (1, .int l1), (2, .int l2)] [] (c32 (l0, l1, l2))) (l0 : Nat) (l1 : Int32) (l2 : Int32) : osW (osFinM (fun r : Int32 => some (.int r)) 0 0) yX10_endRetreats cX10_endRetreats 4 (some .int) [] { frames := 4, cells := 0, slots := 0, locals := 92 } 0 0 81 [(0, .ref l0), (1, .int l1), (2, .int l2)] [] (qX10_endRetreats_81 N c32 l0 l1 l2) := by
  unfold qX10_endRetreats_81
  refine os_iload_n (i := 1) (q := 1) (v := l1) 1 rfl rfl (hX10_endRetreats.at 49 rfl rfl) ?_
  refine os_iconst (i := 1) (v := (1 : Int32)) rfl (hX10_endRetreats.at 50 rfl rfl) ?_
  refine os_iadd (hX10_endRetreats.at 51 rfl rfl) ?_
  refine os_istore_n (i := 1) (q := 1) rfl (lv' := [(1, .int (l1 + (1 : Int32))), (0, .ref l0), (2, .int l2)]) (Nat.le_of_ble_eq_true rfl) rfl (hX10_endRetreats.at 52 rfl rfl) ?_
  refine os_goto (off := 39) (tgt := 124) rfl (hX10_endRetreats.at 53 rfl rfl) ?_
  exact osW.sub [1, 0, 2] rfl (sX10_endRetreats_124 N c32 g32 l0 (l1 + (1 : Int32)) l2)
set_option maxRecDepth 100000 in
set_option maxHeartbeats 4000000 in
theorem tX10_endRetreats_32 (N : Nat) (c32 : Nat × Int32 × Int32 → osM Int32) (g32 : ∀ (l0 : Nat) (l1 : Int32) (l2 : Int32), osW (osFinM (fun r : Int32 => some (.int r)) 0 0) yX10_endRetreats cX10_endRetreats 4 (some .int) [] { frames := 4, cells := 0, slots := 0, locals := 92 } 0 0 32 [(0, .ref l0), (1, .int l1), (2, .int l2)] [] (c32 (l0, l1, l2))) (l0 : Nat) (l1 : Int32) (l2 : Int32) : osW (osFinM (fun r : Int32 => some (.int r)) 0 0) yX10_endRetreats cX10_endRetreats 4 (some .int) [] { frames := 4, cells := 0, slots := 0, locals := 92 } 0 0 32 [(0, .ref l0), (1, .int l1), (2, .int l2)] [] (bX10_endRetreats_32 N c32 l0 l1 l2) := by
  unfold bX10_endRetreats_32
  refine os_iload_n (i := 2) (q := 2) (v := l2) 2 rfl rfl (hX10_endRetreats.at 20 rfl rfl) ?_
  refine os_aload_n (i := 0) (q := 0) (v := l0) 0 rfl rfl (hX10_endRetreats.at 21 rfl rfl) ?_
  refine os_getR fX10_7 (hX10_endRetreats.at 22 rfl rfl) (fun x1 => ?_)
  refine os_iconst (i := 0) (v := (0 : Int32)) rfl (hX10_endRetreats.at 23 rfl rfl) ?_
  refine os_iaload (hX10_endRetreats.at 24 rfl rfl) (fun x2 => ?_)
  refine os_icmp_ge (off := 91) (tgt := 130) rfl (hX10_endRetreats.at 25 rfl rfl) ?_ ?_
  · refine os_iconst (i := 0) (v := (0 : Int32)) rfl (hX10_endRetreats.at 80 rfl rfl) ?_
    refine os_istore_n (i := 2) (q := 2) rfl (lv' := [(2, .int (0 : Int32)), (0, .ref l0), (1, .int l1)]) (Nat.le_of_ble_eq_true rfl) rfl (hX10_endRetreats.at 81 rfl rfl) ?_
    exact osW.sub [1, 2, 0] rfl (sX10_endRetreats_132 N l0 l1 (0 : Int32))
  · refine os_aload_n (i := 0) (q := 0) (v := l0) 0 rfl rfl (hX10_endRetreats.at 26 rfl rfl) ?_
    refine os_getR fX10_16 (hX10_endRetreats.at 27 rfl rfl) (fun x3 => ?_)
    refine os_bipush (i := 53) (v := (53 : Int32)) rfl (hX10_endRetreats.at 28 rfl rfl) ?_
    refine os_iload_n (i := 2) (q := 2) (v := l2) 2 rfl rfl (hX10_endRetreats.at 29 rfl rfl) ?_
    refine os_iadd (hX10_endRetreats.at 30 rfl rfl) ?_
    refine os_iaload (hX10_endRetreats.at 31 rfl rfl) (fun x4 => ?_)
    refine os_iconst (i := (-1)) (v := (-1 : Int32)) rfl (hX10_endRetreats.at 32 rfl rfl) ?_
    refine os_icmp_ne (off := 6) (tgt := 58) rfl (hX10_endRetreats.at 33 rfl rfl) ?_ ?_
    · refine os_aload_n (i := 0) (q := 0) (v := l0) 0 rfl rfl (hX10_endRetreats.at 35 rfl rfl) ?_
      refine os_getR fX10_16 (hX10_endRetreats.at 36 rfl rfl) (fun x5 => ?_)
      refine os_bipush (i := 101) (v := (101 : Int32)) rfl (hX10_endRetreats.at 37 rfl rfl) ?_
      refine os_iload_n (i := 2) (q := 2) (v := l2) 2 rfl rfl (hX10_endRetreats.at 38 rfl rfl) ?_
      refine os_iadd (hX10_endRetreats.at 39 rfl rfl) ?_
      refine os_iaload (hX10_endRetreats.at 40 rfl rfl) (fun x6 => ?_)
      refine os_istore_n (i := 3) (q := 3) rfl (lv' := [(3, .int x6), (0, .ref l0), (1, .int l1), (2, .int l2)]) (Nat.le_of_ble_eq_true rfl) rfl (hX10_endRetreats.at 41 rfl rfl) ?_
      refine os_iload_n (i := 3) (q := 3) (v := x6) 0 rfl rfl (hX10_endRetreats.at 42 rfl rfl) ?_
      refine os_iconst (i := (-1)) (v := (-1 : Int32)) rfl (hX10_endRetreats.at 43 rfl rfl) ?_
      refine os_icmp_eq (off := 11) (tgt := 81) rfl (hX10_endRetreats.at 44 rfl rfl) ?_ ?_
      · exact osW.sub [1, 2, 3] rfl (sX10_endRetreats_81 N c32 g32 l0 l1 l2)
      · refine os_aload_n (i := 0) (q := 0) (v := l0) 1 rfl rfl (hX10_endRetreats.at 45 rfl rfl) ?_
        refine os_iload_n (i := 2) (q := 2) (v := l2) 3 rfl rfl (hX10_endRetreats.at 46 rfl rfl) ?_
        refine os_callV (cis := [8]) (b := l0) (As := [.int l2]) (st := []) (st' := (fun r => .int r :: [])) sl8_X10_isAlone_X10_isAlone mdX10_isAlone wd2201 wd2203 (sX10_isAlone N l0 l2) rfl rfl (fun _ => rfl) (Nat.le_of_ble_eq_true rfl) (Nat.le_of_ble_eq_true rfl) (Nat.le_of_ble_eq_true rfl) rfl (Nat.le_of_ble_eq_true rfl) rfl (Nat.le_of_ble_eq_true rfl) (hX10_endRetreats.at 47 rfl rfl) (fun x7 => ?_)
        refine os_if_ne (off := 10) (tgt := 88) rfl (hX10_endRetreats.at 48 rfl rfl) ?_ ?_
        · refine os_aload_n (i := 0) (q := 0) (v := l0) 1 rfl rfl (hX10_endRetreats.at 54 rfl rfl) ?_
          refine os_getR fX10_16 (hX10_endRetreats.at 55 rfl rfl) (fun x8 => ?_)
          refine os_bipush (i := 21) (v := (21 : Int32)) rfl (hX10_endRetreats.at 56 rfl rfl) ?_
          refine os_iload_n (i := 3) (q := 3) (v := x6) 0 rfl rfl (hX10_endRetreats.at 57 rfl rfl) ?_
          refine os_iadd (hX10_endRetreats.at 58 rfl rfl) ?_
          refine os_aload_n (i := 0) (q := 0) (v := l0) 1 rfl rfl (hX10_endRetreats.at 59 rfl rfl) ?_
          refine os_getR fX10_16 (hX10_endRetreats.at 60 rfl rfl) (fun x9 => ?_)
          refine os_bipush (i := 53) (v := (53 : Int32)) rfl (hX10_endRetreats.at 61 rfl rfl) ?_
          refine os_iload_n (i := 2) (q := 2) (v := l2) 3 rfl rfl (hX10_endRetreats.at 62 rfl rfl) ?_
          refine os_iadd (hX10_endRetreats.at 63 rfl rfl) ?_
          refine os_iaload (hX10_endRetreats.at 64 rfl rfl) (fun x10 => ?_)
          refine os_iastore (hX10_endRetreats.at 65 rfl rfl) ?_
          refine os_aload_n (i := 0) (q := 0) (v := l0) 1 rfl rfl (hX10_endRetreats.at 66 rfl rfl) ?_
          refine os_getR fX10_16 (hX10_endRetreats.at 67 rfl rfl) (fun x11 => ?_)
          refine os_bipush (i := 37) (v := (37 : Int32)) rfl (hX10_endRetreats.at 68 rfl rfl) ?_
          refine os_iload_n (i := 3) (q := 3) (v := x6) 0 rfl rfl (hX10_endRetreats.at 69 rfl rfl) ?_
          refine os_iadd (hX10_endRetreats.at 70 rfl rfl) ?_
          refine os_aload_n (i := 0) (q := 0) (v := l0) 1 rfl rfl (hX10_endRetreats.at 71 rfl rfl) ?_
          refine os_getR fX10_16 (hX10_endRetreats.at 72 rfl rfl) (fun x12 => ?_)
          refine os_bipush (i := 69) (v := (69 : Int32)) rfl (hX10_endRetreats.at 73 rfl rfl) ?_
          refine os_iload_n (i := 2) (q := 2) (v := l2) 3 rfl rfl (hX10_endRetreats.at 74 rfl rfl) ?_
          refine os_iadd (hX10_endRetreats.at 75 rfl rfl) ?_
          refine os_iaload (hX10_endRetreats.at 76 rfl rfl) (fun x13 => ?_)
          refine os_iastore (hX10_endRetreats.at 77 rfl rfl) ?_
          exact osW.sub [1, 2, 3] rfl (sX10_endRetreats_124 N c32 g32 l0 l1 l2)
        · exact osW.sub [1, 2, 3] rfl (sX10_endRetreats_81 N c32 g32 l0 l1 l2)
    · refine os_goto (off := 69) (tgt := 124) rfl (hX10_endRetreats.at 34 rfl rfl) ?_
      exact osW.sub [0, 1, 2] rfl (sX10_endRetreats_124 N c32 g32 l0 l1 l2)
set_option maxRecDepth 100000 in
set_option maxHeartbeats 4000000 in
theorem sX10_endRetreats_32 (N : Nat) (l0 : Nat) (l1 : Int32) (l2 : Int32) : osW (osFinM (fun r : Int32 => some (.int r)) 0 0) yX10_endRetreats cX10_endRetreats 4 (some .int) [] { frames := 4, cells := 0, slots := 0, locals := 92 } 0 0 32 [(0, .ref l0), (1, .int l1), (2, .int l2)] [] (qX10_endRetreats_32 N (l0, l1, l2)) :=
  osloop_W (lvf := fun p => [(0, .ref p.1), (1, .int p.2.1), (2, .int p.2.2)]) (stf := fun p => []) (fun ih g p => tX10_endRetreats_32 N ih (fun l0 l1 l2 => g (l0, l1, l2)) p.1 p.2.1 p.2.2) N (l0, l1, l2)
set_option maxRecDepth 100000 in
set_option maxHeartbeats 4000000 in
theorem sX10_endRetreats_16 (N : Nat) (l0 : Nat) (k0 : Int32) (k1 : Nat) : osW (osFinM (fun r : Int32 => some (.int r)) 0 0) yX10_endRetreats cX10_endRetreats 4 (some .int) [] { frames := 4, cells := 0, slots := 0, locals := 92 } 0 0 16 [(0, .ref l0)] [.int k0, .ref k1] (qX10_endRetreats_16 N l0 k0 k1) := by
  unfold qX10_endRetreats_16
  refine os_callV (cis := [8]) (b := k1) (As := [.int k0]) (st := []) (st' := (fun r => .int r :: [])) sl8_X10_isRefused_X10_isRefused mdX10_isRefused wd2017 wd2019 (sX10_isRefused N k1 k0) rfl rfl (fun _ => rfl) (Nat.le_of_ble_eq_true rfl) (Nat.le_of_ble_eq_true rfl) (Nat.le_of_ble_eq_true rfl) rfl (Nat.le_of_ble_eq_true rfl) rfl (Nat.le_of_ble_eq_true rfl) (hX10_endRetreats.at 10 rfl rfl) (fun x1 => ?_)
  refine os_if_eq (off := 5) (tgt := 24) rfl (hX10_endRetreats.at 11 rfl rfl) ?_ ?_
  · refine os_aload_n (i := 0) (q := 0) (v := l0) 0 rfl rfl (hX10_endRetreats.at 14 rfl rfl) ?_
    refine os_callV (cis := [8]) (b := l0) (As := []) (st := []) (st' := (fun _ => [])) sl8_X10_remembers_X10_remembers mdX10_remembers wd2078 wd2080 (sX10_remembers N l0 ) rfl rfl (fun _ => rfl) (Nat.le_of_ble_eq_true rfl) (Nat.le_of_ble_eq_true rfl) (Nat.le_of_ble_eq_true rfl) rfl (Nat.le_of_ble_eq_true rfl) rfl (Nat.le_of_ble_eq_true rfl) (hX10_endRetreats.at 15 rfl rfl) (fun _ => ?_)
    refine os_iconst (i := 0) (v := (0 : Int32)) rfl (hX10_endRetreats.at 16 rfl rfl) ?_
    refine os_istore_n (i := 1) (q := 1) rfl (lv' := [(1, .int (0 : Int32)), (0, .ref l0)]) (Nat.le_of_ble_eq_true rfl) rfl (hX10_endRetreats.at 17 rfl rfl) ?_
    refine os_iconst (i := 0) (v := (0 : Int32)) rfl (hX10_endRetreats.at 18 rfl rfl) ?_
    refine os_istore_n (i := 2) (q := 2) rfl (lv' := [(2, .int (0 : Int32)), (1, .int (0 : Int32)), (0, .ref l0)]) (Nat.le_of_ble_eq_true rfl) rfl (hX10_endRetreats.at 19 rfl rfl) ?_
    exact osW.sub [2, 1, 0] rfl (sX10_endRetreats_32 N l0 (0 : Int32) (0 : Int32))
  · refine os_iconst (i := 0) (v := (0 : Int32)) rfl (hX10_endRetreats.at 12 rfl rfl) ?_
    exact os_iret (Nat.le_of_ble_eq_true rfl) (Nat.le_of_ble_eq_true rfl) (hX10_endRetreats.at 13 rfl rfl).1
set_option maxRecDepth 100000 in
set_option maxHeartbeats 4000000 in
theorem sX10_endRetreats (N : Nat) (l0 : Nat) : osMet yX10_endRetreats cX10_endRetreats 4 (some .int) 4 92 0 0 (fun r : Int32 => some (.int r)) [.ref l0] (qX10_endRetreats N l0) := by
  refine osMet.of plX10 (Nat.le_of_ble_eq_true rfl) (osW.rw (lv2 := [(0, .ref l0)]) ?_ rfl rfl rfl)
  unfold qX10_endRetreats
  refine os_aload_n (i := 0) (q := 0) (v := l0) 0 rfl rfl (hX10_endRetreats.at 0 rfl rfl) ?_
  refine os_aload_n (i := 0) (q := 0) (v := l0) 0 rfl rfl (hX10_endRetreats.at 1 rfl rfl) ?_
  refine os_getR fX10_16 (hX10_endRetreats.at 2 rfl rfl) (fun x1 => ?_)
  refine os_iconst (i := 0) (v := (0 : Int32)) rfl (hX10_endRetreats.at 3 rfl rfl) ?_
  refine os_iaload (hX10_endRetreats.at 4 rfl rfl) (fun x2 => ?_)
  refine os_iconst (i := 1) (v := (1 : Int32)) rfl (hX10_endRetreats.at 5 rfl rfl) ?_
  refine os_icmp_eq (off := 7) (tgt := 15) rfl (hX10_endRetreats.at 6 rfl rfl) ?_ ?_
  · refine os_iconst (i := 0) (v := (0 : Int32)) rfl (hX10_endRetreats.at 9 rfl rfl) ?_
    exact osW.sub [0] rfl (sX10_endRetreats_16 N l0 (0 : Int32) l0)
  · refine os_iconst (i := 1) (v := (1 : Int32)) rfl (hX10_endRetreats.at 7 rfl rfl) ?_
    refine os_goto (off := 4) (tgt := 16) rfl (hX10_endRetreats.at 8 rfl rfl) ?_
    exact osW.sub [0] rfl (sX10_endRetreats_16 N l0 (1 : Int32) l0)
-- X10_endBuilds
def KX10_endBuilds : List (Nat × Nat × Instr) := [(0, 1, .aload_n 0), (1, 1, .aload_n 0), (2, 3, .getfield 16), (5, 1, .iconst 0), (6, 1, .iaload), (7, 1, .iconst 2), (8, 3, .if_icmp .eq 7), (11, 1, .iconst 1), (12, 3, .goto 4), (15, 1, .iconst 0), (16, 3, .invokevirtual 354), (19, 3, .ifCond .eq 5), (22, 1, .iconst 0), (23, 1, .ireturn), (24, 1, .aload_n 0), (25, 3, .invokevirtual 459), (28, 1, .iconst 0), (29, 1, .istore_n 1), (30, 1, .aload_n 0), (31, 3, .getfield 7), (34, 1, .iconst 0), (35, 1, .iaload), (36, 1, .iconst 1), (37, 1, .isub), (38, 1, .istore_n 2), (39, 1, .iload_n 2), (40, 3, .ifCond .lt 54), (43, 1, .aload_n 0), (44, 3, .getfield 16), (47, 1, .iload_n 2), (48, 3, .invokestatic 103), (51, 3, .ifCond .eq 37), (54, 1, .aload_n 0), (55, 1, .aload_n 0), (56, 3, .getfield 16), (59, 1, .aload_n 0), (60, 3, .getfield 16), (63, 2, .bipush 21), (65, 1, .iload_n 2), (66, 1, .iadd), (67, 1, .iaload), (68, 3, .invokevirtual 324), (71, 3, .ifCond .ge 17), (74, 1, .aload_n 0), (75, 3, .getfield 16), (78, 2, .bipush 21), (80, 1, .iload_n 2), (81, 1, .iadd), (82, 1, .iconst (-1)), (83, 1, .iastore), (84, 1, .iload_n 1), (85, 1, .iconst 1), (86, 1, .iadd), (87, 1, .istore_n 1), (88, 3, .iinc 2 (-1)), (91, 3, .goto (-52)), (94, 1, .aload_n 0), (95, 3, .invokevirtual 456), (98, 1, .iload_n 1), (99, 1, .ireturn)]
theorem hX10_endBuilds : osDs cX10_endBuilds KX10_endBuilds := by
  show ∀ q ∈ KX10_endBuilds, decode cX10_endBuilds q.1 = .ok (q.2.2, q.2.1)
  decide +kernel
def qX10_endBuilds_88 (N : Nat) (c39 : Nat × Int32 × Int32 → osM Int32) (l0 : Nat) (l1 : Int32) (l2 : Int32) : osM Int32 := c39 (l0, l1, (l2 + (-1 : Int32)))
def bX10_endBuilds_39 (N : Nat) (c39 : Nat × Int32 × Int32 → osM Int32) (l0 : Nat) (l1 : Int32) (l2 : Int32) : osM Int32 := osite (l2 < 0) (osbind (osrecv [8] l0 (qX10_goesOn N l0)) fun _ => osret l1) (osbind (osgR [8] 3 l0) fun x1 => osbind (qX10_isUnit N x1 l2) fun x2 => osite (x2 = 0) (qX10_endBuilds_88 N c39 l0 l1 l2) (osbind (osgR [8] 3 l0) fun x3 => osbind (osgR [8] 3 l0) fun x4 => osbind (osaI 0 x4 ((21 : Int32) + l2)) fun x5 => osbind (osrecv [8] l0 (qX10_buildsOf N l0 x3 x5)) fun x6 => osite (0 ≤ x6) (qX10_endBuilds_88 N c39 l0 l1 l2) (osbind (osgR [8] 3 l0) fun x7 => osbind (ossI 0 x7 ((21 : Int32) + l2) (-1 : Int32)) fun _ => qX10_endBuilds_88 N c39 l0 (l1 + (1 : Int32)) l2)))
def qX10_endBuilds_39 (N : Nat) : Nat × Int32 × Int32 → osM Int32 := osloop (fun ih p => bX10_endBuilds_39 N ih p.1 p.2.1 p.2.2) N
def qX10_endBuilds_16 (N : Nat) (l0 : Nat) (k0 : Int32) (k1 : Nat) : osM Int32 := osbind (osrecv [8] k1 (qX10_isRefused N k1 k0)) fun x1 => osite (x1 = 0) (osbind (osrecv [8] l0 (qX10_remembers N l0)) fun _ => osbind (osgR [8] 1 l0) fun x2 => osbind (osaI 0 x2 (0 : Int32)) fun x3 => qX10_endBuilds_39 N (l0, (0 : Int32), (x3 - (1 : Int32)))) (osret (0 : Int32))
def qX10_endBuilds (N : Nat) (l0 : Nat) : osM Int32 := osbind (osgR [8] 3 l0) fun x1 => osbind (osaI 0 x1 (0 : Int32)) fun x2 => osite (x2 = (2 : Int32)) (qX10_endBuilds_16 N l0 (0 : Int32) l0) (qX10_endBuilds_16 N l0 (1 : Int32) l0)
set_option maxRecDepth 100000 in
set_option maxHeartbeats 4000000 in
theorem sX10_endBuilds_88 (N : Nat) (c39 : Nat × Int32 × Int32 → osM Int32) (g39 : ∀ (l0 : Nat) (l1 : Int32) (l2 : Int32), osW (osFinM (fun r : Int32 => some (.int r)) 0 0) yX10_endBuilds cX10_endBuilds 3 (some .int) [] { frames := 3, cells := 0, slots := 0, locals := 70 } 0 0 39 [(0, .ref l0), (1, .int l1), (2, .int l2)] [] (c39 (l0, l1, l2))) (l0 : Nat) (l1 : Int32) (l2 : Int32) : osW (osFinM (fun r : Int32 => some (.int r)) 0 0) yX10_endBuilds cX10_endBuilds 3 (some .int) [] { frames := 3, cells := 0, slots := 0, locals := 70 } 0 0 88 [(0, .ref l0), (1, .int l1), (2, .int l2)] [] (qX10_endBuilds_88 N c39 l0 l1 l2) := by
  unfold qX10_endBuilds_88
  refine os_iinc (i := 2) (d := (-1)) (x := l2) (v := (-1 : Int32)) (lv' := [(2, .int (l2 + (-1 : Int32))), (0, .ref l0), (1, .int l1)]) 2 rfl rfl (Nat.le_of_ble_eq_true rfl) rfl (hX10_endBuilds.at 54 rfl rfl) ?_
  refine os_goto (off := (-52)) (tgt := 39) rfl (hX10_endBuilds.at 55 rfl rfl) ?_
  exact osW.sub [1, 2, 0] rfl (g39 l0 l1 (l2 + (-1 : Int32)))
set_option maxRecDepth 100000 in
set_option maxHeartbeats 4000000 in
theorem tX10_endBuilds_39 (N : Nat) (c39 : Nat × Int32 × Int32 → osM Int32) (g39 : ∀ (l0 : Nat) (l1 : Int32) (l2 : Int32), osW (osFinM (fun r : Int32 => some (.int r)) 0 0) yX10_endBuilds cX10_endBuilds 3 (some .int) [] { frames := 3, cells := 0, slots := 0, locals := 70 } 0 0 39 [(0, .ref l0), (1, .int l1), (2, .int l2)] [] (c39 (l0, l1, l2))) (l0 : Nat) (l1 : Int32) (l2 : Int32) : osW (osFinM (fun r : Int32 => some (.int r)) 0 0) yX10_endBuilds cX10_endBuilds 3 (some .int) [] { frames := 3, cells := 0, slots := 0, locals := 70 } 0 0 39 [(0, .ref l0), (1, .int l1), (2, .int l2)] [] (bX10_endBuilds_39 N c39 l0 l1 l2) := by
  unfold bX10_endBuilds_39
  refine os_iload_n (i := 2) (q := 2) (v := l2) 2 rfl rfl (hX10_endBuilds.at 25 rfl rfl) ?_
  refine os_if_lt (off := 54) (tgt := 94) rfl (hX10_endBuilds.at 26 rfl rfl) ?_ ?_
  · refine os_aload_n (i := 0) (q := 0) (v := l0) 0 rfl rfl (hX10_endBuilds.at 56 rfl rfl) ?_
    refine os_callV (cis := [8]) (b := l0) (As := []) (st := []) (st' := (fun _ => [])) sl8_X10_goesOn_X10_goesOn mdX10_goesOn wd2177 wd2179 (sX10_goesOn N l0 ) rfl rfl (fun _ => rfl) (Nat.le_of_ble_eq_true rfl) (Nat.le_of_ble_eq_true rfl) (Nat.le_of_ble_eq_true rfl) rfl (Nat.le_of_ble_eq_true rfl) rfl (Nat.le_of_ble_eq_true rfl) (hX10_endBuilds.at 57 rfl rfl) (fun _ => ?_)
    refine os_iload_n (i := 1) (q := 1) (v := l1) 1 rfl rfl (hX10_endBuilds.at 58 rfl rfl) ?_
    exact os_iret (Nat.le_of_ble_eq_true rfl) (Nat.le_of_ble_eq_true rfl) (hX10_endBuilds.at 59 rfl rfl).1
  · refine os_aload_n (i := 0) (q := 0) (v := l0) 0 rfl rfl (hX10_endBuilds.at 27 rfl rfl) ?_
    refine os_getR fX10_16 (hX10_endBuilds.at 28 rfl rfl) (fun x1 => ?_)
    refine os_iload_n (i := 2) (q := 2) (v := l2) 2 rfl rfl (hX10_endBuilds.at 29 rfl rfl) ?_
    refine os_callS (As := [.ref x1, .int l2]) (st := []) (st' := (fun r => .int r :: [])) mdX10_isUnit wd1879 wd1880 (sX10_isUnit N x1 l2) rfl rfl (fun _ => rfl) (Nat.le_of_ble_eq_true rfl) (Nat.le_of_ble_eq_true rfl) (Nat.le_of_ble_eq_true rfl) rfl (Nat.le_of_ble_eq_true rfl) rfl (Nat.le_of_ble_eq_true rfl) (hX10_endBuilds.at 30 rfl rfl) (fun x2 => ?_)
    refine os_if_eq (off := 37) (tgt := 88) rfl (hX10_endBuilds.at 31 rfl rfl) ?_ ?_
    · exact osW.sub [0, 1, 2] rfl (sX10_endBuilds_88 N c39 g39 l0 l1 l2)
    · refine os_aload_n (i := 0) (q := 0) (v := l0) 0 rfl rfl (hX10_endBuilds.at 32 rfl rfl) ?_
      refine os_aload_n (i := 0) (q := 0) (v := l0) 0 rfl rfl (hX10_endBuilds.at 33 rfl rfl) ?_
      refine os_getR fX10_16 (hX10_endBuilds.at 34 rfl rfl) (fun x3 => ?_)
      refine os_aload_n (i := 0) (q := 0) (v := l0) 0 rfl rfl (hX10_endBuilds.at 35 rfl rfl) ?_
      refine os_getR fX10_16 (hX10_endBuilds.at 36 rfl rfl) (fun x4 => ?_)
      refine os_bipush (i := 21) (v := (21 : Int32)) rfl (hX10_endBuilds.at 37 rfl rfl) ?_
      refine os_iload_n (i := 2) (q := 2) (v := l2) 2 rfl rfl (hX10_endBuilds.at 38 rfl rfl) ?_
      refine os_iadd (hX10_endBuilds.at 39 rfl rfl) ?_
      refine os_iaload (hX10_endBuilds.at 40 rfl rfl) (fun x5 => ?_)
      refine os_callV (cis := [8]) (b := l0) (As := [.ref x3, .int x5]) (st := []) (st' := (fun r => .int r :: [])) sl8_X10_buildsOf_X10_buildsOf mdX10_buildsOf wd1986 wd1988 (sX10_buildsOf N l0 x3 x5) rfl rfl (fun _ => rfl) (Nat.le_of_ble_eq_true rfl) (Nat.le_of_ble_eq_true rfl) (Nat.le_of_ble_eq_true rfl) rfl (Nat.le_of_ble_eq_true rfl) rfl (Nat.le_of_ble_eq_true rfl) (hX10_endBuilds.at 41 rfl rfl) (fun x6 => ?_)
      refine os_if_ge (off := 17) (tgt := 88) rfl (hX10_endBuilds.at 42 rfl rfl) ?_ ?_
      · exact osW.sub [0, 1, 2] rfl (sX10_endBuilds_88 N c39 g39 l0 l1 l2)
      · refine os_aload_n (i := 0) (q := 0) (v := l0) 0 rfl rfl (hX10_endBuilds.at 43 rfl rfl) ?_
        refine os_getR fX10_16 (hX10_endBuilds.at 44 rfl rfl) (fun x7 => ?_)
        refine os_bipush (i := 21) (v := (21 : Int32)) rfl (hX10_endBuilds.at 45 rfl rfl) ?_
        refine os_iload_n (i := 2) (q := 2) (v := l2) 2 rfl rfl (hX10_endBuilds.at 46 rfl rfl) ?_
        refine os_iadd (hX10_endBuilds.at 47 rfl rfl) ?_
        refine os_iconst (i := (-1)) (v := (-1 : Int32)) rfl (hX10_endBuilds.at 48 rfl rfl) ?_
        refine os_iastore (hX10_endBuilds.at 49 rfl rfl) ?_
        refine os_iload_n (i := 1) (q := 1) (v := l1) 1 rfl rfl (hX10_endBuilds.at 50 rfl rfl) ?_
        refine os_iconst (i := 1) (v := (1 : Int32)) rfl (hX10_endBuilds.at 51 rfl rfl) ?_
        refine os_iadd (hX10_endBuilds.at 52 rfl rfl) ?_
        refine os_istore_n (i := 1) (q := 1) rfl (lv' := [(1, .int (l1 + (1 : Int32))), (0, .ref l0), (2, .int l2)]) (Nat.le_of_ble_eq_true rfl) rfl (hX10_endBuilds.at 53 rfl rfl) ?_
        exact osW.sub [1, 0, 2] rfl (sX10_endBuilds_88 N c39 g39 l0 (l1 + (1 : Int32)) l2)
set_option maxRecDepth 100000 in
set_option maxHeartbeats 4000000 in
theorem sX10_endBuilds_39 (N : Nat) (l0 : Nat) (l1 : Int32) (l2 : Int32) : osW (osFinM (fun r : Int32 => some (.int r)) 0 0) yX10_endBuilds cX10_endBuilds 3 (some .int) [] { frames := 3, cells := 0, slots := 0, locals := 70 } 0 0 39 [(0, .ref l0), (1, .int l1), (2, .int l2)] [] (qX10_endBuilds_39 N (l0, l1, l2)) :=
  osloop_W (lvf := fun p => [(0, .ref p.1), (1, .int p.2.1), (2, .int p.2.2)]) (stf := fun p => []) (fun ih g p => tX10_endBuilds_39 N ih (fun l0 l1 l2 => g (l0, l1, l2)) p.1 p.2.1 p.2.2) N (l0, l1, l2)
set_option maxRecDepth 100000 in
set_option maxHeartbeats 4000000 in
theorem sX10_endBuilds_16 (N : Nat) (l0 : Nat) (k0 : Int32) (k1 : Nat) : osW (osFinM (fun r : Int32 => some (.int r)) 0 0) yX10_endBuilds cX10_endBuilds 3 (some .int) [] { frames := 3, cells := 0, slots := 0, locals := 70 } 0 0 16 [(0, .ref l0)] [.int k0, .ref k1] (qX10_endBuilds_16 N l0 k0 k1) := by
  unfold qX10_endBuilds_16
  refine os_callV (cis := [8]) (b := k1) (As := [.int k0]) (st := []) (st' := (fun r => .int r :: [])) sl8_X10_isRefused_X10_isRefused mdX10_isRefused wd2017 wd2019 (sX10_isRefused N k1 k0) rfl rfl (fun _ => rfl) (Nat.le_of_ble_eq_true rfl) (Nat.le_of_ble_eq_true rfl) (Nat.le_of_ble_eq_true rfl) rfl (Nat.le_of_ble_eq_true rfl) rfl (Nat.le_of_ble_eq_true rfl) (hX10_endBuilds.at 10 rfl rfl) (fun x1 => ?_)
  refine os_if_eq (off := 5) (tgt := 24) rfl (hX10_endBuilds.at 11 rfl rfl) ?_ ?_
  · refine os_aload_n (i := 0) (q := 0) (v := l0) 0 rfl rfl (hX10_endBuilds.at 14 rfl rfl) ?_
    refine os_callV (cis := [8]) (b := l0) (As := []) (st := []) (st' := (fun _ => [])) sl8_X10_remembers_X10_remembers mdX10_remembers wd2078 wd2080 (sX10_remembers N l0 ) rfl rfl (fun _ => rfl) (Nat.le_of_ble_eq_true rfl) (Nat.le_of_ble_eq_true rfl) (Nat.le_of_ble_eq_true rfl) rfl (Nat.le_of_ble_eq_true rfl) rfl (Nat.le_of_ble_eq_true rfl) (hX10_endBuilds.at 15 rfl rfl) (fun _ => ?_)
    refine os_iconst (i := 0) (v := (0 : Int32)) rfl (hX10_endBuilds.at 16 rfl rfl) ?_
    refine os_istore_n (i := 1) (q := 1) rfl (lv' := [(1, .int (0 : Int32)), (0, .ref l0)]) (Nat.le_of_ble_eq_true rfl) rfl (hX10_endBuilds.at 17 rfl rfl) ?_
    refine os_aload_n (i := 0) (q := 0) (v := l0) 1 rfl rfl (hX10_endBuilds.at 18 rfl rfl) ?_
    refine os_getR fX10_7 (hX10_endBuilds.at 19 rfl rfl) (fun x2 => ?_)
    refine os_iconst (i := 0) (v := (0 : Int32)) rfl (hX10_endBuilds.at 20 rfl rfl) ?_
    refine os_iaload (hX10_endBuilds.at 21 rfl rfl) (fun x3 => ?_)
    refine os_iconst (i := 1) (v := (1 : Int32)) rfl (hX10_endBuilds.at 22 rfl rfl) ?_
    refine os_isub (hX10_endBuilds.at 23 rfl rfl) ?_
    refine os_istore_n (i := 2) (q := 2) rfl (lv' := [(2, .int (x3 - (1 : Int32))), (1, .int (0 : Int32)), (0, .ref l0)]) (Nat.le_of_ble_eq_true rfl) rfl (hX10_endBuilds.at 24 rfl rfl) ?_
    exact osW.sub [2, 1, 0] rfl (sX10_endBuilds_39 N l0 (0 : Int32) (x3 - (1 : Int32)))
  · refine os_iconst (i := 0) (v := (0 : Int32)) rfl (hX10_endBuilds.at 12 rfl rfl) ?_
    exact os_iret (Nat.le_of_ble_eq_true rfl) (Nat.le_of_ble_eq_true rfl) (hX10_endBuilds.at 13 rfl rfl).1
set_option maxRecDepth 100000 in
set_option maxHeartbeats 4000000 in
theorem sX10_endBuilds (N : Nat) (l0 : Nat) : osMet yX10_endBuilds cX10_endBuilds 3 (some .int) 3 70 0 0 (fun r : Int32 => some (.int r)) [.ref l0] (qX10_endBuilds N l0) := by
  refine osMet.of plX10 (Nat.le_of_ble_eq_true rfl) (osW.rw (lv2 := [(0, .ref l0)]) ?_ rfl rfl rfl)
  unfold qX10_endBuilds
  refine os_aload_n (i := 0) (q := 0) (v := l0) 0 rfl rfl (hX10_endBuilds.at 0 rfl rfl) ?_
  refine os_aload_n (i := 0) (q := 0) (v := l0) 0 rfl rfl (hX10_endBuilds.at 1 rfl rfl) ?_
  refine os_getR fX10_16 (hX10_endBuilds.at 2 rfl rfl) (fun x1 => ?_)
  refine os_iconst (i := 0) (v := (0 : Int32)) rfl (hX10_endBuilds.at 3 rfl rfl) ?_
  refine os_iaload (hX10_endBuilds.at 4 rfl rfl) (fun x2 => ?_)
  refine os_iconst (i := 2) (v := (2 : Int32)) rfl (hX10_endBuilds.at 5 rfl rfl) ?_
  refine os_icmp_eq (off := 7) (tgt := 15) rfl (hX10_endBuilds.at 6 rfl rfl) ?_ ?_
  · refine os_iconst (i := 0) (v := (0 : Int32)) rfl (hX10_endBuilds.at 9 rfl rfl) ?_
    exact osW.sub [0] rfl (sX10_endBuilds_16 N l0 (0 : Int32) l0)
  · refine os_iconst (i := 1) (v := (1 : Int32)) rfl (hX10_endBuilds.at 7 rfl rfl) ?_
    refine os_goto (off := 4) (tgt := 16) rfl (hX10_endBuilds.at 8 rfl rfl) ?_
    exact osW.sub [0] rfl (sX10_endBuilds_16 N l0 (1 : Int32) l0)
-- X10_foresee
def KX10_foresee : List (Nat × Nat × Instr) := [(0, 1, .aload_n 0), (1, 1, .aload_n 0), (2, 1, .iload_n 1), (3, 3, .invokevirtual 99), (6, 3, .ifCond .ne 7), (9, 1, .iconst 1), (10, 3, .goto 30), (13, 1, .iload_n 2), (14, 1, .iconst 0), (15, 1, .iconst 5), (16, 3, .invokestatic 95), (19, 3, .ifCond .ne 7), (22, 1, .iconst 2), (23, 3, .goto 17), (26, 1, .aload_n 0), (27, 3, .getfield 16), (30, 1, .iconst 0), (31, 1, .iaload), (32, 3, .ifCond .eq 7), (35, 1, .iconst 3), (36, 3, .goto 4), (39, 1, .iconst 0), (40, 3, .invokevirtual 354), (43, 3, .ifCond .eq 5), (46, 1, .iconst 0), (47, 1, .ireturn), (48, 1, .aload_n 0), (49, 3, .invokevirtual 462), (52, 1, .aload_n 0), (53, 1, .iload_n 1), (54, 1, .iload_n 2), (55, 3, .invokevirtual 465), (58, 1, .ireturn)]
theorem hX10_foresee : osDs cX10_foresee KX10_foresee := by
  show ∀ q ∈ KX10_foresee, decode cX10_foresee q.1 = .ok (q.2.2, q.2.1)
  decide +kernel
def qX10_foresee_40 (N : Nat) (l0 : Nat) (l1 : Int32) (l2 : Int32) (k0 : Int32) (k1 : Nat) : osM Int32 := osbind (osrecv [8] k1 (qX10_isRefused N k1 k0)) fun x1 => osite (x1 = 0) (osbind (osrecv [8] l0 (qX10_decides N l0)) fun _ => osbind (osrecv [8] l0 (qX10_said N l0 l1 l2)) fun x2 => osret x2) (osret (0 : Int32))
def qX10_foresee (N : Nat) (l0 : Nat) (l1 : Int32) (l2 : Int32) : osM Int32 := osbind (osrecv [8] l0 (qX10_isArea N l0 l1)) fun x1 => osite (x1 = 0) (qX10_foresee_40 N l0 l1 l2 (1 : Int32) l0) (osbind (qX10_in N l2 (0 : Int32) (5 : Int32)) fun x2 => osite (x2 = 0) (qX10_foresee_40 N l0 l1 l2 (2 : Int32) l0) (osbind (osgR [8] 3 l0) fun x3 => osbind (osaI 0 x3 (0 : Int32)) fun x4 => osite (x4 = 0) (qX10_foresee_40 N l0 l1 l2 (0 : Int32) l0) (qX10_foresee_40 N l0 l1 l2 (3 : Int32) l0)))
set_option maxRecDepth 100000 in
set_option maxHeartbeats 4000000 in
theorem sX10_foresee_40 (N : Nat) (l0 : Nat) (l1 : Int32) (l2 : Int32) (k0 : Int32) (k1 : Nat) : osW (osFinM (fun r : Int32 => some (.int r)) 0 0) yX10_foresee cX10_foresee 3 (some .int) [] { frames := 7, cells := 0, slots := 0, locals := 158 } 0 0 40 [(0, .ref l0), (1, .int l1), (2, .int l2)] [.int k0, .ref k1] (qX10_foresee_40 N l0 l1 l2 k0 k1) := by
  unfold qX10_foresee_40
  refine os_callV (cis := [8]) (b := k1) (As := [.int k0]) (st := []) (st' := (fun r => .int r :: [])) sl8_X10_isRefused_X10_isRefused mdX10_isRefused wd2017 wd2019 (sX10_isRefused N k1 k0) rfl rfl (fun _ => rfl) (Nat.le_of_ble_eq_true rfl) (Nat.le_of_ble_eq_true rfl) (Nat.le_of_ble_eq_true rfl) rfl (Nat.le_of_ble_eq_true rfl) rfl (Nat.le_of_ble_eq_true rfl) (hX10_foresee.at 22 rfl rfl) (fun x1 => ?_)
  refine os_if_eq (off := 5) (tgt := 48) rfl (hX10_foresee.at 23 rfl rfl) ?_ ?_
  · refine os_aload_n (i := 0) (q := 0) (v := l0) 0 rfl rfl (hX10_foresee.at 26 rfl rfl) ?_
    refine os_callV (cis := [8]) (b := l0) (As := []) (st := []) (st' := (fun _ => [])) sl8_X10_decides_X10_decides mdX10_decides wd2082 wd2084 (sX10_decides N l0 ) rfl rfl (fun _ => rfl) (Nat.le_of_ble_eq_true rfl) (Nat.le_of_ble_eq_true rfl) (Nat.le_of_ble_eq_true rfl) rfl (Nat.le_of_ble_eq_true rfl) rfl (Nat.le_of_ble_eq_true rfl) (hX10_foresee.at 27 rfl rfl) (fun _ => ?_)
    refine os_aload_n (i := 0) (q := 0) (v := l0) 0 rfl rfl (hX10_foresee.at 28 rfl rfl) ?_
    refine os_iload_n (i := 1) (q := 1) (v := l1) 1 rfl rfl (hX10_foresee.at 29 rfl rfl) ?_
    refine os_iload_n (i := 2) (q := 2) (v := l2) 2 rfl rfl (hX10_foresee.at 30 rfl rfl) ?_
    refine os_callV (cis := [8]) (b := l0) (As := [.int l1, .int l2]) (st := []) (st' := (fun r => .int r :: [])) sl8_X10_said_X10_said mdX10_said wd2157 wd2159 (sX10_said N l0 l1 l2) rfl rfl (fun _ => rfl) (Nat.le_of_ble_eq_true rfl) (Nat.le_of_ble_eq_true rfl) (Nat.le_of_ble_eq_true rfl) rfl (Nat.le_of_ble_eq_true rfl) rfl (Nat.le_of_ble_eq_true rfl) (hX10_foresee.at 31 rfl rfl) (fun x2 => ?_)
    exact os_iret (Nat.le_of_ble_eq_true rfl) (Nat.le_of_ble_eq_true rfl) (hX10_foresee.at 32 rfl rfl).1
  · refine os_iconst (i := 0) (v := (0 : Int32)) rfl (hX10_foresee.at 24 rfl rfl) ?_
    exact os_iret (Nat.le_of_ble_eq_true rfl) (Nat.le_of_ble_eq_true rfl) (hX10_foresee.at 25 rfl rfl).1
set_option maxRecDepth 100000 in
set_option maxHeartbeats 4000000 in
theorem sX10_foresee (N : Nat) (l0 : Nat) (l1 : Int32) (l2 : Int32) : osMet yX10_foresee cX10_foresee 3 (some .int) 7 158 0 0 (fun r : Int32 => some (.int r)) [.ref l0, .int l1, .int l2] (qX10_foresee N l0 l1 l2) := by
  refine osMet.of plX10 (Nat.le_of_ble_eq_true rfl) (osW.rw (lv2 := [(0, .ref l0), (1, .int l1), (2, .int l2)]) ?_ rfl rfl rfl)
  unfold qX10_foresee
  refine os_aload_n (i := 0) (q := 0) (v := l0) 0 rfl rfl (hX10_foresee.at 0 rfl rfl) ?_
  refine os_aload_n (i := 0) (q := 0) (v := l0) 0 rfl rfl (hX10_foresee.at 1 rfl rfl) ?_
  refine os_iload_n (i := 1) (q := 1) (v := l1) 1 rfl rfl (hX10_foresee.at 2 rfl rfl) ?_
  refine os_callV (cis := [8]) (b := l0) (As := [.int l1]) (st := [.ref l0]) (st' := (fun r => .int r :: [.ref l0])) sl8_X10_isArea_X10_isArea mdX10_isArea wd2013 wd2015 (sX10_isArea N l0 l1) rfl rfl (fun _ => rfl) (Nat.le_of_ble_eq_true rfl) (Nat.le_of_ble_eq_true rfl) (Nat.le_of_ble_eq_true rfl) rfl (Nat.le_of_ble_eq_true rfl) rfl (Nat.le_of_ble_eq_true rfl) (hX10_foresee.at 3 rfl rfl) (fun x1 => ?_)
  refine os_if_ne (off := 7) (tgt := 13) rfl (hX10_foresee.at 4 rfl rfl) ?_ ?_
  · refine os_iload_n (i := 2) (q := 2) (v := l2) 2 rfl rfl (hX10_foresee.at 7 rfl rfl) ?_
    refine os_iconst (i := 0) (v := (0 : Int32)) rfl (hX10_foresee.at 8 rfl rfl) ?_
    refine os_iconst (i := 5) (v := (5 : Int32)) rfl (hX10_foresee.at 9 rfl rfl) ?_
    refine os_callS (As := [.int l2, .int (0 : Int32), .int (5 : Int32)]) (st := [.ref l0]) (st' := (fun r => .int r :: [.ref l0])) mdX10_in wd1770 wd1771 (sX10_in N l2 (0 : Int32) (5 : Int32)) rfl rfl (fun _ => rfl) (Nat.le_of_ble_eq_true rfl) (Nat.le_of_ble_eq_true rfl) (Nat.le_of_ble_eq_true rfl) rfl (Nat.le_of_ble_eq_true rfl) rfl (Nat.le_of_ble_eq_true rfl) (hX10_foresee.at 10 rfl rfl) (fun x2 => ?_)
    refine os_if_ne (off := 7) (tgt := 26) rfl (hX10_foresee.at 11 rfl rfl) ?_ ?_
    · refine os_aload_n (i := 0) (q := 0) (v := l0) 0 rfl rfl (hX10_foresee.at 14 rfl rfl) ?_
      refine os_getR fX10_16 (hX10_foresee.at 15 rfl rfl) (fun x3 => ?_)
      refine os_iconst (i := 0) (v := (0 : Int32)) rfl (hX10_foresee.at 16 rfl rfl) ?_
      refine os_iaload (hX10_foresee.at 17 rfl rfl) (fun x4 => ?_)
      refine os_if_eq (off := 7) (tgt := 39) rfl (hX10_foresee.at 18 rfl rfl) ?_ ?_
      · refine os_iconst (i := 0) (v := (0 : Int32)) rfl (hX10_foresee.at 21 rfl rfl) ?_
        exact osW.sub [0, 1, 2] rfl (sX10_foresee_40 N l0 l1 l2 (0 : Int32) l0)
      · refine os_iconst (i := 3) (v := (3 : Int32)) rfl (hX10_foresee.at 19 rfl rfl) ?_
        refine os_goto (off := 4) (tgt := 40) rfl (hX10_foresee.at 20 rfl rfl) ?_
        exact osW.sub [0, 1, 2] rfl (sX10_foresee_40 N l0 l1 l2 (3 : Int32) l0)
    · refine os_iconst (i := 2) (v := (2 : Int32)) rfl (hX10_foresee.at 12 rfl rfl) ?_
      refine os_goto (off := 17) (tgt := 40) rfl (hX10_foresee.at 13 rfl rfl) ?_
      exact osW.sub [0, 1, 2] rfl (sX10_foresee_40 N l0 l1 l2 (2 : Int32) l0)
  · refine os_iconst (i := 1) (v := (1 : Int32)) rfl (hX10_foresee.at 5 rfl rfl) ?_
    refine os_goto (off := 30) (tgt := 40) rfl (hX10_foresee.at 6 rfl rfl) ?_
    exact osW.sub [0, 1, 2] rfl (sX10_foresee_40 N l0 l1 l2 (1 : Int32) l0)
-- X10_foreseeMove
def KX10_foreseeMove : List (Nat × Nat × Instr) := [(0, 1, .aload_n 0), (1, 1, .iload_n 1), (2, 3, .invokevirtual 368), (5, 3, .ifCond .eq 15), (8, 1, .aload_n 0), (9, 1, .iload_n 2), (10, 3, .invokevirtual 99), (13, 3, .ifCond .eq 7), (16, 1, .iconst 1), (17, 3, .goto 4), (20, 1, .iconst 0), (21, 1, .istore_n 3), (22, 1, .aload_n 0), (23, 1, .iload_n 3), (24, 3, .ifCond .ne 7), (27, 1, .iconst 1), (28, 3, .goto 30), (31, 1, .aload_n 0), (32, 1, .iload_n 1), (33, 1, .iload_n 2), (34, 3, .invokevirtual 312), (37, 3, .ifCond .ne 7), (40, 1, .iconst 2), (41, 3, .goto 17), (44, 1, .aload_n 0), (45, 3, .getfield 16), (48, 1, .iconst 0), (49, 1, .iaload), (50, 3, .ifCond .eq 7), (53, 1, .iconst 3), (54, 3, .goto 4), (57, 1, .iconst 0), (58, 3, .invokevirtual 354), (61, 3, .ifCond .eq 5), (64, 1, .iconst 0), (65, 1, .ireturn), (66, 1, .aload_n 0), (67, 3, .getfield 16), (70, 2, .bipush 117), (72, 1, .iload_n 1), (73, 1, .iadd), (74, 1, .iaload), (75, 2, .istore 4), (77, 1, .aload_n 0), (78, 3, .getfield 16), (81, 3, .sipush 133), (84, 1, .iload_n 1), (85, 1, .iadd), (86, 1, .iaload), (87, 2, .istore 5), (89, 1, .aload_n 0), (90, 3, .getfield 16), (93, 2, .bipush 117), (95, 1, .iload_n 1), (96, 1, .iadd), (97, 1, .iconst 1), (98, 1, .iastore), (99, 1, .aload_n 0), (100, 3, .getfield 16), (103, 3, .sipush 133), (106, 1, .iload_n 1), (107, 1, .iadd), (108, 1, .iload_n 2), (109, 1, .iastore), (110, 1, .aload_n 0), (111, 3, .invokevirtual 462), (114, 1, .aload_n 0), (115, 3, .getfield 16), (118, 2, .bipush 117), (120, 1, .iload_n 1), (121, 1, .iadd), (122, 2, .iload 4), (124, 1, .iastore), (125, 1, .aload_n 0), (126, 3, .getfield 16), (129, 3, .sipush 133), (132, 1, .iload_n 1), (133, 1, .iadd), (134, 2, .iload 5), (136, 1, .iastore), (137, 1, .aload_n 0), (138, 1, .aload_n 0), (139, 3, .getfield 48), (142, 1, .iload_n 1), (143, 1, .iaload), (144, 3, .invokevirtual 383), (147, 3, .ifCond .eq 7), (150, 1, .iconst 1), (151, 3, .goto 4), (154, 1, .iconst 0), (155, 1, .ireturn)]
theorem hX10_foreseeMove : osDs cX10_foreseeMove KX10_foreseeMove := by
  show ∀ q ∈ KX10_foreseeMove, decode cX10_foreseeMove q.1 = .ok (q.2.2, q.2.1)
  decide +kernel
def qX10_foreseeMove_155 (N : Nat) (k0 : Int32) : osM Int32 := osret k0
def qX10_foreseeMove_58 (N : Nat) (l0 : Nat) (l1 : Int32) (l2 : Int32) (k0 : Int32) (k1 : Nat) : osM Int32 := osbind (osrecv [8] k1 (qX10_isRefused N k1 k0)) fun x1 => osite (x1 = 0) (osbind (osgR [8] 3 l0) fun x2 => osbind (osaI 0 x2 ((117 : Int32) + l1)) fun x3 => osbind (osgR [8] 3 l0) fun x4 => osbind (osaI 0 x4 ((133 : Int32) + l1)) fun x5 => osbind (osgR [8] 3 l0) fun x6 => osbind (ossI 0 x6 ((117 : Int32) + l1) (1 : Int32)) fun _ => osbind (osgR [8] 3 l0) fun x7 => osbind (ossI 0 x7 ((133 : Int32) + l1) l2) fun _ => osbind (osrecv [8] l0 (qX10_decides N l0)) fun _ => osbind (osgR [8] 3 l0) fun x8 => osbind (ossI 0 x8 ((117 : Int32) + l1) x3) fun _ => osbind (osgR [8] 3 l0) fun x9 => osbind (ossI 0 x9 ((133 : Int32) + l1) x5) fun _ => osbind (osgR [8] 24 l0) fun x10 => osbind (osaI 0 x10 l1) fun x11 => osbind (osrecv [8] l0 (qX10_succeeds N l0 x11)) fun x12 => osite (x12 = 0) (qX10_foreseeMove_155 N (0 : Int32)) (qX10_foreseeMove_155 N (1 : Int32))) (osret (0 : Int32))
def qX10_foreseeMove_21 (N : Nat) (l0 : Nat) (l1 : Int32) (l2 : Int32) (k0 : Int32) : osM Int32 := osite (k0 = 0) (qX10_foreseeMove_58 N l0 l1 l2 (1 : Int32) l0) (osbind (osrecv [8] l0 (qX10_mayMove N l0 l1 l2)) fun x1 => osite (x1 = 0) (qX10_foreseeMove_58 N l0 l1 l2 (2 : Int32) l0) (osbind (osgR [8] 3 l0) fun x2 => osbind (osaI 0 x2 (0 : Int32)) fun x3 => osite (x3 = 0) (qX10_foreseeMove_58 N l0 l1 l2 (0 : Int32) l0) (qX10_foreseeMove_58 N l0 l1 l2 (3 : Int32) l0)))
def qX10_foreseeMove_20 (N : Nat) (l0 : Nat) (l1 : Int32) (l2 : Int32) : osM Int32 := qX10_foreseeMove_21 N l0 l1 l2 (0 : Int32)
def qX10_foreseeMove (N : Nat) (l0 : Nat) (l1 : Int32) (l2 : Int32) : osM Int32 := osbind (osrecv [8] l0 (qX10_hasUnit N l0 l1)) fun x1 => osite (x1 = 0) (qX10_foreseeMove_20 N l0 l1 l2) (osbind (osrecv [8] l0 (qX10_isArea N l0 l2)) fun x2 => osite (x2 = 0) (qX10_foreseeMove_20 N l0 l1 l2) (qX10_foreseeMove_21 N l0 l1 l2 (1 : Int32)))
set_option maxRecDepth 100000 in
set_option maxHeartbeats 4000000 in
theorem sX10_foreseeMove_155 (N : Nat) (k0 : Int32) : osW (osFinM (fun r : Int32 => some (.int r)) 0 0) yX10_foreseeMove cX10_foreseeMove 6 (some .int) [] { frames := 7, cells := 0, slots := 0, locals := 158 } 0 0 155 [] [.int k0] (qX10_foreseeMove_155 N k0) := by
  unfold qX10_foreseeMove_155
  exact os_iret (Nat.le_of_ble_eq_true rfl) (Nat.le_of_ble_eq_true rfl) (hX10_foreseeMove.at 90 rfl rfl).1
set_option maxRecDepth 100000 in
set_option maxHeartbeats 4000000 in
theorem sX10_foreseeMove_58 (N : Nat) (l0 : Nat) (l1 : Int32) (l2 : Int32) (k0 : Int32) (k1 : Nat) : osW (osFinM (fun r : Int32 => some (.int r)) 0 0) yX10_foreseeMove cX10_foreseeMove 6 (some .int) [] { frames := 7, cells := 0, slots := 0, locals := 158 } 0 0 58 [(0, .ref l0), (1, .int l1), (2, .int l2)] [.int k0, .ref k1] (qX10_foreseeMove_58 N l0 l1 l2 k0 k1) := by
  unfold qX10_foreseeMove_58
  refine os_callV (cis := [8]) (b := k1) (As := [.int k0]) (st := []) (st' := (fun r => .int r :: [])) sl8_X10_isRefused_X10_isRefused mdX10_isRefused wd2017 wd2019 (sX10_isRefused N k1 k0) rfl rfl (fun _ => rfl) (Nat.le_of_ble_eq_true rfl) (Nat.le_of_ble_eq_true rfl) (Nat.le_of_ble_eq_true rfl) rfl (Nat.le_of_ble_eq_true rfl) rfl (Nat.le_of_ble_eq_true rfl) (hX10_foreseeMove.at 32 rfl rfl) (fun x1 => ?_)
  refine os_if_eq (off := 5) (tgt := 66) rfl (hX10_foreseeMove.at 33 rfl rfl) ?_ ?_
  · refine os_aload_n (i := 0) (q := 0) (v := l0) 0 rfl rfl (hX10_foreseeMove.at 36 rfl rfl) ?_
    refine os_getR fX10_16 (hX10_foreseeMove.at 37 rfl rfl) (fun x2 => ?_)
    refine os_bipush (i := 117) (v := (117 : Int32)) rfl (hX10_foreseeMove.at 38 rfl rfl) ?_
    refine os_iload_n (i := 1) (q := 1) (v := l1) 1 rfl rfl (hX10_foreseeMove.at 39 rfl rfl) ?_
    refine os_iadd (hX10_foreseeMove.at 40 rfl rfl) ?_
    refine os_iaload (hX10_foreseeMove.at 41 rfl rfl) (fun x3 => ?_)
    refine os_istore (i := 4) (lv' := [(4, .int x3), (0, .ref l0), (1, .int l1), (2, .int l2)]) (Nat.le_of_ble_eq_true rfl) rfl (hX10_foreseeMove.at 42 rfl rfl) ?_
    refine os_aload_n (i := 0) (q := 0) (v := l0) 1 rfl rfl (hX10_foreseeMove.at 43 rfl rfl) ?_
    refine os_getR fX10_16 (hX10_foreseeMove.at 44 rfl rfl) (fun x4 => ?_)
    refine os_sipush (i := 133) (v := (133 : Int32)) rfl (hX10_foreseeMove.at 45 rfl rfl) ?_
    refine os_iload_n (i := 1) (q := 1) (v := l1) 2 rfl rfl (hX10_foreseeMove.at 46 rfl rfl) ?_
    refine os_iadd (hX10_foreseeMove.at 47 rfl rfl) ?_
    refine os_iaload (hX10_foreseeMove.at 48 rfl rfl) (fun x5 => ?_)
    refine os_istore (i := 5) (lv' := [(5, .int x5), (4, .int x3), (0, .ref l0), (1, .int l1), (2, .int l2)]) (Nat.le_of_ble_eq_true rfl) rfl (hX10_foreseeMove.at 49 rfl rfl) ?_
    refine os_aload_n (i := 0) (q := 0) (v := l0) 2 rfl rfl (hX10_foreseeMove.at 50 rfl rfl) ?_
    refine os_getR fX10_16 (hX10_foreseeMove.at 51 rfl rfl) (fun x6 => ?_)
    refine os_bipush (i := 117) (v := (117 : Int32)) rfl (hX10_foreseeMove.at 52 rfl rfl) ?_
    refine os_iload_n (i := 1) (q := 1) (v := l1) 3 rfl rfl (hX10_foreseeMove.at 53 rfl rfl) ?_
    refine os_iadd (hX10_foreseeMove.at 54 rfl rfl) ?_
    refine os_iconst (i := 1) (v := (1 : Int32)) rfl (hX10_foreseeMove.at 55 rfl rfl) ?_
    refine os_iastore (hX10_foreseeMove.at 56 rfl rfl) ?_
    refine os_aload_n (i := 0) (q := 0) (v := l0) 2 rfl rfl (hX10_foreseeMove.at 57 rfl rfl) ?_
    refine os_getR fX10_16 (hX10_foreseeMove.at 58 rfl rfl) (fun x7 => ?_)
    refine os_sipush (i := 133) (v := (133 : Int32)) rfl (hX10_foreseeMove.at 59 rfl rfl) ?_
    refine os_iload_n (i := 1) (q := 1) (v := l1) 3 rfl rfl (hX10_foreseeMove.at 60 rfl rfl) ?_
    refine os_iadd (hX10_foreseeMove.at 61 rfl rfl) ?_
    refine os_iload_n (i := 2) (q := 2) (v := l2) 4 rfl rfl (hX10_foreseeMove.at 62 rfl rfl) ?_
    refine os_iastore (hX10_foreseeMove.at 63 rfl rfl) ?_
    refine os_aload_n (i := 0) (q := 0) (v := l0) 2 rfl rfl (hX10_foreseeMove.at 64 rfl rfl) ?_
    refine os_callV (cis := [8]) (b := l0) (As := []) (st := []) (st' := (fun _ => [])) sl8_X10_decides_X10_decides mdX10_decides wd2082 wd2084 (sX10_decides N l0 ) rfl rfl (fun _ => rfl) (Nat.le_of_ble_eq_true rfl) (Nat.le_of_ble_eq_true rfl) (Nat.le_of_ble_eq_true rfl) rfl (Nat.le_of_ble_eq_true rfl) rfl (Nat.le_of_ble_eq_true rfl) (hX10_foreseeMove.at 65 rfl rfl) (fun _ => ?_)
    refine os_aload_n (i := 0) (q := 0) (v := l0) 2 rfl rfl (hX10_foreseeMove.at 66 rfl rfl) ?_
    refine os_getR fX10_16 (hX10_foreseeMove.at 67 rfl rfl) (fun x8 => ?_)
    refine os_bipush (i := 117) (v := (117 : Int32)) rfl (hX10_foreseeMove.at 68 rfl rfl) ?_
    refine os_iload_n (i := 1) (q := 1) (v := l1) 3 rfl rfl (hX10_foreseeMove.at 69 rfl rfl) ?_
    refine os_iadd (hX10_foreseeMove.at 70 rfl rfl) ?_
    refine os_iload (v := x3) 1 rfl (hX10_foreseeMove.at 71 rfl rfl) ?_
    refine os_iastore (hX10_foreseeMove.at 72 rfl rfl) ?_
    refine os_aload_n (i := 0) (q := 0) (v := l0) 2 rfl rfl (hX10_foreseeMove.at 73 rfl rfl) ?_
    refine os_getR fX10_16 (hX10_foreseeMove.at 74 rfl rfl) (fun x9 => ?_)
    refine os_sipush (i := 133) (v := (133 : Int32)) rfl (hX10_foreseeMove.at 75 rfl rfl) ?_
    refine os_iload_n (i := 1) (q := 1) (v := l1) 3 rfl rfl (hX10_foreseeMove.at 76 rfl rfl) ?_
    refine os_iadd (hX10_foreseeMove.at 77 rfl rfl) ?_
    refine os_iload (v := x5) 0 rfl (hX10_foreseeMove.at 78 rfl rfl) ?_
    refine os_iastore (hX10_foreseeMove.at 79 rfl rfl) ?_
    refine os_aload_n (i := 0) (q := 0) (v := l0) 2 rfl rfl (hX10_foreseeMove.at 80 rfl rfl) ?_
    refine os_aload_n (i := 0) (q := 0) (v := l0) 2 rfl rfl (hX10_foreseeMove.at 81 rfl rfl) ?_
    refine os_getR fX10_48 (hX10_foreseeMove.at 82 rfl rfl) (fun x10 => ?_)
    refine os_iload_n (i := 1) (q := 1) (v := l1) 3 rfl rfl (hX10_foreseeMove.at 83 rfl rfl) ?_
    refine os_iaload (hX10_foreseeMove.at 84 rfl rfl) (fun x11 => ?_)
    refine os_callV (cis := [8]) (b := l0) (As := [.int x11]) (st := []) (st' := (fun r => .int r :: [])) sl8_X10_succeeds_X10_succeeds mdX10_succeeds wd2106 wd2108 (sX10_succeeds N l0 x11) rfl rfl (fun _ => rfl) (Nat.le_of_ble_eq_true rfl) (Nat.le_of_ble_eq_true rfl) (Nat.le_of_ble_eq_true rfl) rfl (Nat.le_of_ble_eq_true rfl) rfl (Nat.le_of_ble_eq_true rfl) (hX10_foreseeMove.at 85 rfl rfl) (fun x12 => ?_)
    refine os_if_eq (off := 7) (tgt := 154) rfl (hX10_foreseeMove.at 86 rfl rfl) ?_ ?_
    · refine os_iconst (i := 0) (v := (0 : Int32)) rfl (hX10_foreseeMove.at 89 rfl rfl) ?_
      exact osW.sub [] rfl (sX10_foreseeMove_155 N (0 : Int32))
    · refine os_iconst (i := 1) (v := (1 : Int32)) rfl (hX10_foreseeMove.at 87 rfl rfl) ?_
      refine os_goto (off := 4) (tgt := 155) rfl (hX10_foreseeMove.at 88 rfl rfl) ?_
      exact osW.sub [] rfl (sX10_foreseeMove_155 N (1 : Int32))
  · refine os_iconst (i := 0) (v := (0 : Int32)) rfl (hX10_foreseeMove.at 34 rfl rfl) ?_
    exact os_iret (Nat.le_of_ble_eq_true rfl) (Nat.le_of_ble_eq_true rfl) (hX10_foreseeMove.at 35 rfl rfl).1
set_option maxRecDepth 100000 in
set_option maxHeartbeats 4000000 in
theorem sX10_foreseeMove_21 (N : Nat) (l0 : Nat) (l1 : Int32) (l2 : Int32) (k0 : Int32) : osW (osFinM (fun r : Int32 => some (.int r)) 0 0) yX10_foreseeMove cX10_foreseeMove 6 (some .int) [] { frames := 7, cells := 0, slots := 0, locals := 158 } 0 0 21 [(0, .ref l0), (1, .int l1), (2, .int l2)] [.int k0] (qX10_foreseeMove_21 N l0 l1 l2 k0) := by
  unfold qX10_foreseeMove_21
  refine os_istore_n (i := 3) (q := 3) rfl (lv' := [(3, .int k0), (0, .ref l0), (1, .int l1), (2, .int l2)]) (Nat.le_of_ble_eq_true rfl) rfl (hX10_foreseeMove.at 11 rfl rfl) ?_
  refine os_aload_n (i := 0) (q := 0) (v := l0) 1 rfl rfl (hX10_foreseeMove.at 12 rfl rfl) ?_
  refine os_iload_n (i := 3) (q := 3) (v := k0) 0 rfl rfl (hX10_foreseeMove.at 13 rfl rfl) ?_
  refine os_if_ne (off := 7) (tgt := 31) rfl (hX10_foreseeMove.at 14 rfl rfl) ?_ ?_
  · refine os_aload_n (i := 0) (q := 0) (v := l0) 1 rfl rfl (hX10_foreseeMove.at 17 rfl rfl) ?_
    refine os_iload_n (i := 1) (q := 1) (v := l1) 2 rfl rfl (hX10_foreseeMove.at 18 rfl rfl) ?_
    refine os_iload_n (i := 2) (q := 2) (v := l2) 3 rfl rfl (hX10_foreseeMove.at 19 rfl rfl) ?_
    refine os_callV (cis := [8]) (b := l0) (As := [.int l1, .int l2]) (st := [.ref l0]) (st' := (fun r => .int r :: [.ref l0])) sl8_X10_mayMove_X10_mayMove mdX10_mayMove wd1922 wd1924 (sX10_mayMove N l0 l1 l2) rfl rfl (fun _ => rfl) (Nat.le_of_ble_eq_true rfl) (Nat.le_of_ble_eq_true rfl) (Nat.le_of_ble_eq_true rfl) rfl (Nat.le_of_ble_eq_true rfl) rfl (Nat.le_of_ble_eq_true rfl) (hX10_foreseeMove.at 20 rfl rfl) (fun x1 => ?_)
    refine os_if_ne (off := 7) (tgt := 44) rfl (hX10_foreseeMove.at 21 rfl rfl) ?_ ?_
    · refine os_aload_n (i := 0) (q := 0) (v := l0) 1 rfl rfl (hX10_foreseeMove.at 24 rfl rfl) ?_
      refine os_getR fX10_16 (hX10_foreseeMove.at 25 rfl rfl) (fun x2 => ?_)
      refine os_iconst (i := 0) (v := (0 : Int32)) rfl (hX10_foreseeMove.at 26 rfl rfl) ?_
      refine os_iaload (hX10_foreseeMove.at 27 rfl rfl) (fun x3 => ?_)
      refine os_if_eq (off := 7) (tgt := 57) rfl (hX10_foreseeMove.at 28 rfl rfl) ?_ ?_
      · refine os_iconst (i := 0) (v := (0 : Int32)) rfl (hX10_foreseeMove.at 31 rfl rfl) ?_
        exact osW.sub [1, 2, 3] rfl (sX10_foreseeMove_58 N l0 l1 l2 (0 : Int32) l0)
      · refine os_iconst (i := 3) (v := (3 : Int32)) rfl (hX10_foreseeMove.at 29 rfl rfl) ?_
        refine os_goto (off := 4) (tgt := 58) rfl (hX10_foreseeMove.at 30 rfl rfl) ?_
        exact osW.sub [1, 2, 3] rfl (sX10_foreseeMove_58 N l0 l1 l2 (3 : Int32) l0)
    · refine os_iconst (i := 2) (v := (2 : Int32)) rfl (hX10_foreseeMove.at 22 rfl rfl) ?_
      refine os_goto (off := 17) (tgt := 58) rfl (hX10_foreseeMove.at 23 rfl rfl) ?_
      exact osW.sub [1, 2, 3] rfl (sX10_foreseeMove_58 N l0 l1 l2 (2 : Int32) l0)
  · refine os_iconst (i := 1) (v := (1 : Int32)) rfl (hX10_foreseeMove.at 15 rfl rfl) ?_
    refine os_goto (off := 30) (tgt := 58) rfl (hX10_foreseeMove.at 16 rfl rfl) ?_
    exact osW.sub [1, 2, 3] rfl (sX10_foreseeMove_58 N l0 l1 l2 (1 : Int32) l0)
set_option maxRecDepth 100000 in
set_option maxHeartbeats 4000000 in
theorem sX10_foreseeMove_20 (N : Nat) (l0 : Nat) (l1 : Int32) (l2 : Int32) : osW (osFinM (fun r : Int32 => some (.int r)) 0 0) yX10_foreseeMove cX10_foreseeMove 6 (some .int) [] { frames := 7, cells := 0, slots := 0, locals := 158 } 0 0 20 [(0, .ref l0), (1, .int l1), (2, .int l2)] [] (qX10_foreseeMove_20 N l0 l1 l2) := by
  unfold qX10_foreseeMove_20
  refine os_iconst (i := 0) (v := (0 : Int32)) rfl (hX10_foreseeMove.at 10 rfl rfl) ?_
  exact osW.sub [0, 1, 2] rfl (sX10_foreseeMove_21 N l0 l1 l2 (0 : Int32))
set_option maxRecDepth 100000 in
set_option maxHeartbeats 4000000 in
theorem sX10_foreseeMove (N : Nat) (l0 : Nat) (l1 : Int32) (l2 : Int32) : osMet yX10_foreseeMove cX10_foreseeMove 6 (some .int) 7 158 0 0 (fun r : Int32 => some (.int r)) [.ref l0, .int l1, .int l2] (qX10_foreseeMove N l0 l1 l2) := by
  refine osMet.of plX10 (Nat.le_of_ble_eq_true rfl) (osW.rw (lv2 := [(0, .ref l0), (1, .int l1), (2, .int l2)]) ?_ rfl rfl rfl)
  unfold qX10_foreseeMove
  refine os_aload_n (i := 0) (q := 0) (v := l0) 0 rfl rfl (hX10_foreseeMove.at 0 rfl rfl) ?_
  refine os_iload_n (i := 1) (q := 1) (v := l1) 1 rfl rfl (hX10_foreseeMove.at 1 rfl rfl) ?_
  refine os_callV (cis := [8]) (b := l0) (As := [.int l1]) (st := []) (st' := (fun r => .int r :: [])) sl8_X10_hasUnit_X10_hasUnit mdX10_hasUnit wd2062 wd2064 (sX10_hasUnit N l0 l1) rfl rfl (fun _ => rfl) (Nat.le_of_ble_eq_true rfl) (Nat.le_of_ble_eq_true rfl) (Nat.le_of_ble_eq_true rfl) rfl (Nat.le_of_ble_eq_true rfl) rfl (Nat.le_of_ble_eq_true rfl) (hX10_foreseeMove.at 2 rfl rfl) (fun x1 => ?_)
  refine os_if_eq (off := 15) (tgt := 20) rfl (hX10_foreseeMove.at 3 rfl rfl) ?_ ?_
  · exact osW.sub [0, 1, 2] rfl (sX10_foreseeMove_20 N l0 l1 l2)
  · refine os_aload_n (i := 0) (q := 0) (v := l0) 0 rfl rfl (hX10_foreseeMove.at 4 rfl rfl) ?_
    refine os_iload_n (i := 2) (q := 2) (v := l2) 2 rfl rfl (hX10_foreseeMove.at 5 rfl rfl) ?_
    refine os_callV (cis := [8]) (b := l0) (As := [.int l2]) (st := []) (st' := (fun r => .int r :: [])) sl8_X10_isArea_X10_isArea mdX10_isArea wd2013 wd2015 (sX10_isArea N l0 l2) rfl rfl (fun _ => rfl) (Nat.le_of_ble_eq_true rfl) (Nat.le_of_ble_eq_true rfl) (Nat.le_of_ble_eq_true rfl) rfl (Nat.le_of_ble_eq_true rfl) rfl (Nat.le_of_ble_eq_true rfl) (hX10_foreseeMove.at 6 rfl rfl) (fun x2 => ?_)
    refine os_if_eq (off := 7) (tgt := 20) rfl (hX10_foreseeMove.at 7 rfl rfl) ?_ ?_
    · exact osW.sub [0, 1, 2] rfl (sX10_foreseeMove_20 N l0 l1 l2)
    · refine os_iconst (i := 1) (v := (1 : Int32)) rfl (hX10_foreseeMove.at 8 rfl rfl) ?_
      refine os_goto (off := 4) (tgt := 21) rfl (hX10_foreseeMove.at 9 rfl rfl) ?_
      exact osW.sub [0, 1, 2] rfl (sX10_foreseeMove_21 N l0 l1 l2 (1 : Int32))
-- X10_reaching
def KX10_reaching : List (Nat × Nat × Instr) := [(0, 1, .iconst 0), (1, 2, .istore 4), (3, 1, .iconst 0), (4, 2, .istore 5), (6, 2, .iload 5), (8, 1, .aload_n 0), (9, 3, .getfield 7), (12, 1, .iconst 0), (13, 1, .iaload), (14, 3, .if_icmp .ge 83), (17, 2, .iload 5), (19, 1, .iload_n 1), (20, 3, .if_icmp .eq 52), (23, 1, .aload_n 0), (24, 3, .getfield 16), (27, 2, .iload 5), (29, 3, .invokestatic 103), (32, 3, .ifCond .eq 40), (35, 1, .aload_n 0), (36, 3, .getfield 16), (39, 2, .bipush 21), (41, 2, .iload 5), (43, 1, .iadd), (44, 1, .iaload), (45, 1, .iload_n 2), (46, 3, .if_icmp .eq 7), (49, 1, .iconst 1), (50, 3, .goto 4), (53, 1, .iconst 0), (54, 1, .iload_n 3), (55, 3, .if_icmp .ne 17), (58, 1, .aload_n 0), (59, 2, .iload 5), (61, 1, .iload_n 1), (62, 3, .invokevirtual 118), (65, 3, .ifCond .eq 7), (68, 1, .iconst 1), (69, 3, .goto 4), (72, 1, .iconst 0), (73, 2, .istore 6), (75, 2, .iload 6), (77, 3, .ifCond .eq 10), (80, 2, .iload 4), (82, 1, .iconst 1), (83, 1, .iadd), (84, 3, .goto 5), (87, 2, .iload 4), (89, 2, .istore 4), (91, 3, .iinc 5 1), (94, 3, .goto (-88)), (97, 2, .iload 4), (99, 1, .ireturn)]
theorem hX10_reaching : osDs cX10_reaching KX10_reaching := by
  show ∀ q ∈ KX10_reaching, decode cX10_reaching q.1 = .ok (q.2.2, q.2.1)
  decide +kernel
def qX10_reaching_89 (N : Nat) (c6 : Nat × Int32 × Int32 × Int32 × Int32 × Int32 → osM Int32) (l0 : Nat) (l1 : Int32) (l2 : Int32) (l3 : Int32) (l5 : Int32) (k0 : Int32) : osM Int32 := c6 (l0, l1, l2, l3, k0, (l5 + (1 : Int32)))
def qX10_reaching_73 (N : Nat) (c6 : Nat × Int32 × Int32 × Int32 × Int32 × Int32 → osM Int32) (l0 : Nat) (l1 : Int32) (l2 : Int32) (l3 : Int32) (l4 : Int32) (l5 : Int32) (k0 : Int32) : osM Int32 := osite (k0 = 0) (qX10_reaching_89 N c6 l0 l1 l2 l3 l5 l4) (qX10_reaching_89 N c6 l0 l1 l2 l3 l5 (l4 + (1 : Int32)))
def qX10_reaching_72 (N : Nat) (c6 : Nat × Int32 × Int32 × Int32 × Int32 × Int32 → osM Int32) (l0 : Nat) (l1 : Int32) (l2 : Int32) (l3 : Int32) (l4 : Int32) (l5 : Int32) : osM Int32 := qX10_reaching_73 N c6 l0 l1 l2 l3 l4 l5 (0 : Int32)
def qX10_reaching_54 (N : Nat) (c6 : Nat × Int32 × Int32 × Int32 × Int32 × Int32 → osM Int32) (l0 : Nat) (l1 : Int32) (l2 : Int32) (l3 : Int32) (l4 : Int32) (l5 : Int32) (k0 : Int32) : osM Int32 := osite (k0 = l3) (osbind (osrecv [8] l0 (qX10_isDirect N l0 l5 l1)) fun x1 => osite (x1 = 0) (qX10_reaching_72 N c6 l0 l1 l2 l3 l4 l5) (qX10_reaching_73 N c6 l0 l1 l2 l3 l4 l5 (1 : Int32))) (qX10_reaching_72 N c6 l0 l1 l2 l3 l4 l5)
def bX10_reaching_6 (N : Nat) (c6 : Nat × Int32 × Int32 × Int32 × Int32 × Int32 → osM Int32) (l0 : Nat) (l1 : Int32) (l2 : Int32) (l3 : Int32) (l4 : Int32) (l5 : Int32) : osM Int32 := osbind (osgR [8] 1 l0) fun x1 => osbind (osaI 0 x1 (0 : Int32)) fun x2 => osite (x2 ≤ l5) (osret l4) (osite (l5 = l1) (qX10_reaching_72 N c6 l0 l1 l2 l3 l4 l5) (osbind (osgR [8] 3 l0) fun x3 => osbind (qX10_isUnit N x3 l5) fun x4 => osite (x4 = 0) (qX10_reaching_72 N c6 l0 l1 l2 l3 l4 l5) (osbind (osgR [8] 3 l0) fun x5 => osbind (osaI 0 x5 ((21 : Int32) + l5)) fun x6 => osite (x6 = l2) (qX10_reaching_54 N c6 l0 l1 l2 l3 l4 l5 (0 : Int32)) (qX10_reaching_54 N c6 l0 l1 l2 l3 l4 l5 (1 : Int32)))))
def qX10_reaching_6 (N : Nat) : Nat × Int32 × Int32 × Int32 × Int32 × Int32 → osM Int32 := osloop (fun ih p => bX10_reaching_6 N ih p.1 p.2.1 p.2.2.1 p.2.2.2.1 p.2.2.2.2.1 p.2.2.2.2.2) N
def qX10_reaching (N : Nat) (l0 : Nat) (l1 : Int32) (l2 : Int32) (l3 : Int32) : osM Int32 := qX10_reaching_6 N (l0, l1, l2, l3, (0 : Int32), (0 : Int32))
set_option maxRecDepth 100000 in
set_option maxHeartbeats 4000000 in
theorem sX10_reaching_89 (N : Nat) (c6 : Nat × Int32 × Int32 × Int32 × Int32 × Int32 → osM Int32) (g6 : ∀ (l0 : Nat) (l1 : Int32) (l2 : Int32) (l3 : Int32) (l4 : Int32) (l5 : Int32), osW (osFinM (fun r : Int32 => some (.int r)) 0 0) yX10_reaching cX10_reaching 7 (some .int) [] { frames := 3, cells := 0, slots := 0, locals := 67 } 0 0 6 [(0, .ref l0), (1, .int l1), (2, .int l2), (3, .int l3), (4, .int l4), (5, .int l5)] [] (c6 (l0, l1, l2, l3, l4, l5))) (l0 : Nat) (l1 : Int32) (l2 : Int32) (l3 : Int32) (l5 : Int32) (k0 : Int32) : osW (osFinM (fun r : Int32 => some (.int r)) 0 0) yX10_reaching cX10_reaching 7 (some .int) [] { frames := 3, cells := 0, slots := 0, locals := 67 } 0 0 89 [(0, .ref l0), (1, .int l1), (2, .int l2), (3, .int l3), (5, .int l5)] [.int k0] (qX10_reaching_89 N c6 l0 l1 l2 l3 l5 k0) := by
  unfold qX10_reaching_89
  refine os_istore (i := 4) (lv' := [(4, .int k0), (0, .ref l0), (1, .int l1), (2, .int l2), (3, .int l3), (5, .int l5)]) (Nat.le_of_ble_eq_true rfl) rfl (hX10_reaching.at 47 rfl rfl) ?_
  refine os_iinc (i := 5) (d := 1) (x := l5) (v := (1 : Int32)) (lv' := [(5, .int (l5 + (1 : Int32))), (4, .int k0), (0, .ref l0), (1, .int l1), (2, .int l2), (3, .int l3)]) 5 rfl rfl (Nat.le_of_ble_eq_true rfl) rfl (hX10_reaching.at 48 rfl rfl) ?_
  refine os_goto (off := (-88)) (tgt := 6) rfl (hX10_reaching.at 49 rfl rfl) ?_
  exact osW.sub [2, 3, 4, 5, 1, 0] rfl (g6 l0 l1 l2 l3 k0 (l5 + (1 : Int32)))
set_option maxRecDepth 100000 in
set_option maxHeartbeats 4000000 in
theorem sX10_reaching_73 (N : Nat) (c6 : Nat × Int32 × Int32 × Int32 × Int32 × Int32 → osM Int32) (g6 : ∀ (l0 : Nat) (l1 : Int32) (l2 : Int32) (l3 : Int32) (l4 : Int32) (l5 : Int32), osW (osFinM (fun r : Int32 => some (.int r)) 0 0) yX10_reaching cX10_reaching 7 (some .int) [] { frames := 3, cells := 0, slots := 0, locals := 67 } 0 0 6 [(0, .ref l0), (1, .int l1), (2, .int l2), (3, .int l3), (4, .int l4), (5, .int l5)] [] (c6 (l0, l1, l2, l3, l4, l5))) (l0 : Nat) (l1 : Int32) (l2 : Int32) (l3 : Int32) (l4 : Int32) (l5 : Int32) (k0 : Int32) : osW (osFinM (fun r : Int32 => some (.int r)) 0 0) yX10_reaching cX10_reaching 7 (some .int) [] { frames := 3, cells := 0, slots := 0, locals := 67 } 0 0 73 [(0, .ref l0), (1, .int l1), (2, .int l2), (3, .int l3), (4, .int l4), (5, .int l5)] [.int k0] (qX10_reaching_73 N c6 l0 l1 l2 l3 l4 l5 k0) := by
  unfold qX10_reaching_73
  refine os_istore (i := 6) (lv' := [(6, .int k0), (0, .ref l0), (1, .int l1), (2, .int l2), (3, .int l3), (4, .int l4), (5, .int l5)]) (Nat.le_of_ble_eq_true rfl) rfl (hX10_reaching.at 39 rfl rfl) ?_
  refine os_iload (v := k0) 0 rfl (hX10_reaching.at 40 rfl rfl) ?_
  refine os_if_eq (off := 10) (tgt := 87) rfl (hX10_reaching.at 41 rfl rfl) ?_ ?_
  · refine os_iload (v := l4) 5 rfl (hX10_reaching.at 46 rfl rfl) ?_
    exact osW.sub [1, 2, 3, 4, 6] rfl (sX10_reaching_89 N c6 g6 l0 l1 l2 l3 l5 l4)
  · refine os_iload (v := l4) 5 rfl (hX10_reaching.at 42 rfl rfl) ?_
    refine os_iconst (i := 1) (v := (1 : Int32)) rfl (hX10_reaching.at 43 rfl rfl) ?_
    refine os_iadd (hX10_reaching.at 44 rfl rfl) ?_
    refine os_goto (off := 5) (tgt := 89) rfl (hX10_reaching.at 45 rfl rfl) ?_
    exact osW.sub [1, 2, 3, 4, 6] rfl (sX10_reaching_89 N c6 g6 l0 l1 l2 l3 l5 (l4 + (1 : Int32)))
set_option maxRecDepth 100000 in
set_option maxHeartbeats 4000000 in
theorem sX10_reaching_72 (N : Nat) (c6 : Nat × Int32 × Int32 × Int32 × Int32 × Int32 → osM Int32) (g6 : ∀ (l0 : Nat) (l1 : Int32) (l2 : Int32) (l3 : Int32) (l4 : Int32) (l5 : Int32), osW (osFinM (fun r : Int32 => some (.int r)) 0 0) yX10_reaching cX10_reaching 7 (some .int) [] { frames := 3, cells := 0, slots := 0, locals := 67 } 0 0 6 [(0, .ref l0), (1, .int l1), (2, .int l2), (3, .int l3), (4, .int l4), (5, .int l5)] [] (c6 (l0, l1, l2, l3, l4, l5))) (l0 : Nat) (l1 : Int32) (l2 : Int32) (l3 : Int32) (l4 : Int32) (l5 : Int32) : osW (osFinM (fun r : Int32 => some (.int r)) 0 0) yX10_reaching cX10_reaching 7 (some .int) [] { frames := 3, cells := 0, slots := 0, locals := 67 } 0 0 72 [(0, .ref l0), (1, .int l1), (2, .int l2), (3, .int l3), (4, .int l4), (5, .int l5)] [] (qX10_reaching_72 N c6 l0 l1 l2 l3 l4 l5) := by
  unfold qX10_reaching_72
  refine os_iconst (i := 0) (v := (0 : Int32)) rfl (hX10_reaching.at 38 rfl rfl) ?_
  exact osW.sub [0, 1, 2, 3, 4, 5] rfl (sX10_reaching_73 N c6 g6 l0 l1 l2 l3 l4 l5 (0 : Int32))
set_option maxRecDepth 100000 in
set_option maxHeartbeats 4000000 in
theorem sX10_reaching_54 (N : Nat) (c6 : Nat × Int32 × Int32 × Int32 × Int32 × Int32 → osM Int32) (g6 : ∀ (l0 : Nat) (l1 : Int32) (l2 : Int32) (l3 : Int32) (l4 : Int32) (l5 : Int32), osW (osFinM (fun r : Int32 => some (.int r)) 0 0) yX10_reaching cX10_reaching 7 (some .int) [] { frames := 3, cells := 0, slots := 0, locals := 67 } 0 0 6 [(0, .ref l0), (1, .int l1), (2, .int l2), (3, .int l3), (4, .int l4), (5, .int l5)] [] (c6 (l0, l1, l2, l3, l4, l5))) (l0 : Nat) (l1 : Int32) (l2 : Int32) (l3 : Int32) (l4 : Int32) (l5 : Int32) (k0 : Int32) : osW (osFinM (fun r : Int32 => some (.int r)) 0 0) yX10_reaching cX10_reaching 7 (some .int) [] { frames := 3, cells := 0, slots := 0, locals := 67 } 0 0 54 [(0, .ref l0), (1, .int l1), (2, .int l2), (3, .int l3), (4, .int l4), (5, .int l5)] [.int k0] (qX10_reaching_54 N c6 l0 l1 l2 l3 l4 l5 k0) := by
  unfold qX10_reaching_54
  refine os_iload_n (i := 3) (q := 3) (v := l3) 3 rfl rfl (hX10_reaching.at 29 rfl rfl) ?_
  refine os_icmp_ne (off := 17) (tgt := 72) rfl (hX10_reaching.at 30 rfl rfl) ?_ ?_
  · exact osW.sub [0, 1, 2, 3, 4, 5] rfl (sX10_reaching_72 N c6 g6 l0 l1 l2 l3 l4 l5)
  · refine os_aload_n (i := 0) (q := 0) (v := l0) 0 rfl rfl (hX10_reaching.at 31 rfl rfl) ?_
    refine os_iload (v := l5) 5 rfl (hX10_reaching.at 32 rfl rfl) ?_
    refine os_iload_n (i := 1) (q := 1) (v := l1) 1 rfl rfl (hX10_reaching.at 33 rfl rfl) ?_
    refine os_callV (cis := [8]) (b := l0) (As := [.int l5, .int l1]) (st := []) (st' := (fun r => .int r :: [])) sl8_X10_isDirect_X10_isDirect mdX10_isDirect wd1926 wd1928 (sX10_isDirect N l0 l5 l1) rfl rfl (fun _ => rfl) (Nat.le_of_ble_eq_true rfl) (Nat.le_of_ble_eq_true rfl) (Nat.le_of_ble_eq_true rfl) rfl (Nat.le_of_ble_eq_true rfl) rfl (Nat.le_of_ble_eq_true rfl) (hX10_reaching.at 34 rfl rfl) (fun x1 => ?_)
    refine os_if_eq (off := 7) (tgt := 72) rfl (hX10_reaching.at 35 rfl rfl) ?_ ?_
    · exact osW.sub [0, 1, 2, 3, 4, 5] rfl (sX10_reaching_72 N c6 g6 l0 l1 l2 l3 l4 l5)
    · refine os_iconst (i := 1) (v := (1 : Int32)) rfl (hX10_reaching.at 36 rfl rfl) ?_
      refine os_goto (off := 4) (tgt := 73) rfl (hX10_reaching.at 37 rfl rfl) ?_
      exact osW.sub [0, 1, 2, 3, 4, 5] rfl (sX10_reaching_73 N c6 g6 l0 l1 l2 l3 l4 l5 (1 : Int32))
set_option maxRecDepth 100000 in
set_option maxHeartbeats 4000000 in
theorem tX10_reaching_6 (N : Nat) (c6 : Nat × Int32 × Int32 × Int32 × Int32 × Int32 → osM Int32) (g6 : ∀ (l0 : Nat) (l1 : Int32) (l2 : Int32) (l3 : Int32) (l4 : Int32) (l5 : Int32), osW (osFinM (fun r : Int32 => some (.int r)) 0 0) yX10_reaching cX10_reaching 7 (some .int) [] { frames := 3, cells := 0, slots := 0, locals := 67 } 0 0 6 [(0, .ref l0), (1, .int l1), (2, .int l2), (3, .int l3), (4, .int l4), (5, .int l5)] [] (c6 (l0, l1, l2, l3, l4, l5))) (l0 : Nat) (l1 : Int32) (l2 : Int32) (l3 : Int32) (l4 : Int32) (l5 : Int32) : osW (osFinM (fun r : Int32 => some (.int r)) 0 0) yX10_reaching cX10_reaching 7 (some .int) [] { frames := 3, cells := 0, slots := 0, locals := 67 } 0 0 6 [(0, .ref l0), (1, .int l1), (2, .int l2), (3, .int l3), (4, .int l4), (5, .int l5)] [] (bX10_reaching_6 N c6 l0 l1 l2 l3 l4 l5) := by
  unfold bX10_reaching_6
  refine os_iload (v := l5) 5 rfl (hX10_reaching.at 4 rfl rfl) ?_
  refine os_aload_n (i := 0) (q := 0) (v := l0) 0 rfl rfl (hX10_reaching.at 5 rfl rfl) ?_
  refine os_getR fX10_7 (hX10_reaching.at 6 rfl rfl) (fun x1 => ?_)
  refine os_iconst (i := 0) (v := (0 : Int32)) rfl (hX10_reaching.at 7 rfl rfl) ?_
  refine os_iaload (hX10_reaching.at 8 rfl rfl) (fun x2 => ?_)
  refine os_icmp_ge (off := 83) (tgt := 97) rfl (hX10_reaching.at 9 rfl rfl) ?_ ?_
  · refine os_iload (v := l4) 4 rfl (hX10_reaching.at 50 rfl rfl) ?_
    exact os_iret (Nat.le_of_ble_eq_true rfl) (Nat.le_of_ble_eq_true rfl) (hX10_reaching.at 51 rfl rfl).1
  · refine os_iload (v := l5) 5 rfl (hX10_reaching.at 10 rfl rfl) ?_
    refine os_iload_n (i := 1) (q := 1) (v := l1) 1 rfl rfl (hX10_reaching.at 11 rfl rfl) ?_
    refine os_icmp_eq (off := 52) (tgt := 72) rfl (hX10_reaching.at 12 rfl rfl) ?_ ?_
    · exact osW.sub [0, 1, 2, 3, 4, 5] rfl (sX10_reaching_72 N c6 g6 l0 l1 l2 l3 l4 l5)
    · refine os_aload_n (i := 0) (q := 0) (v := l0) 0 rfl rfl (hX10_reaching.at 13 rfl rfl) ?_
      refine os_getR fX10_16 (hX10_reaching.at 14 rfl rfl) (fun x3 => ?_)
      refine os_iload (v := l5) 5 rfl (hX10_reaching.at 15 rfl rfl) ?_
      refine os_callS (As := [.ref x3, .int l5]) (st := []) (st' := (fun r => .int r :: [])) mdX10_isUnit wd1879 wd1880 (sX10_isUnit N x3 l5) rfl rfl (fun _ => rfl) (Nat.le_of_ble_eq_true rfl) (Nat.le_of_ble_eq_true rfl) (Nat.le_of_ble_eq_true rfl) rfl (Nat.le_of_ble_eq_true rfl) rfl (Nat.le_of_ble_eq_true rfl) (hX10_reaching.at 16 rfl rfl) (fun x4 => ?_)
      refine os_if_eq (off := 40) (tgt := 72) rfl (hX10_reaching.at 17 rfl rfl) ?_ ?_
      · exact osW.sub [0, 1, 2, 3, 4, 5] rfl (sX10_reaching_72 N c6 g6 l0 l1 l2 l3 l4 l5)
      · refine os_aload_n (i := 0) (q := 0) (v := l0) 0 rfl rfl (hX10_reaching.at 18 rfl rfl) ?_
        refine os_getR fX10_16 (hX10_reaching.at 19 rfl rfl) (fun x5 => ?_)
        refine os_bipush (i := 21) (v := (21 : Int32)) rfl (hX10_reaching.at 20 rfl rfl) ?_
        refine os_iload (v := l5) 5 rfl (hX10_reaching.at 21 rfl rfl) ?_
        refine os_iadd (hX10_reaching.at 22 rfl rfl) ?_
        refine os_iaload (hX10_reaching.at 23 rfl rfl) (fun x6 => ?_)
        refine os_iload_n (i := 2) (q := 2) (v := l2) 2 rfl rfl (hX10_reaching.at 24 rfl rfl) ?_
        refine os_icmp_eq (off := 7) (tgt := 53) rfl (hX10_reaching.at 25 rfl rfl) ?_ ?_
        · refine os_iconst (i := 0) (v := (0 : Int32)) rfl (hX10_reaching.at 28 rfl rfl) ?_
          exact osW.sub [0, 1, 2, 3, 4, 5] rfl (sX10_reaching_54 N c6 g6 l0 l1 l2 l3 l4 l5 (0 : Int32))
        · refine os_iconst (i := 1) (v := (1 : Int32)) rfl (hX10_reaching.at 26 rfl rfl) ?_
          refine os_goto (off := 4) (tgt := 54) rfl (hX10_reaching.at 27 rfl rfl) ?_
          exact osW.sub [0, 1, 2, 3, 4, 5] rfl (sX10_reaching_54 N c6 g6 l0 l1 l2 l3 l4 l5 (1 : Int32))
set_option maxRecDepth 100000 in
set_option maxHeartbeats 4000000 in
theorem sX10_reaching_6 (N : Nat) (l0 : Nat) (l1 : Int32) (l2 : Int32) (l3 : Int32) (l4 : Int32) (l5 : Int32) : osW (osFinM (fun r : Int32 => some (.int r)) 0 0) yX10_reaching cX10_reaching 7 (some .int) [] { frames := 3, cells := 0, slots := 0, locals := 67 } 0 0 6 [(0, .ref l0), (1, .int l1), (2, .int l2), (3, .int l3), (4, .int l4), (5, .int l5)] [] (qX10_reaching_6 N (l0, l1, l2, l3, l4, l5)) :=
  osloop_W (lvf := fun p => [(0, .ref p.1), (1, .int p.2.1), (2, .int p.2.2.1), (3, .int p.2.2.2.1), (4, .int p.2.2.2.2.1), (5, .int p.2.2.2.2.2)]) (stf := fun p => []) (fun ih g p => tX10_reaching_6 N ih (fun l0 l1 l2 l3 l4 l5 => g (l0, l1, l2, l3, l4, l5)) p.1 p.2.1 p.2.2.1 p.2.2.2.1 p.2.2.2.2.1 p.2.2.2.2.2) N (l0, l1, l2, l3, l4, l5)
set_option maxRecDepth 100000 in
set_option maxHeartbeats 4000000 in
theorem sX10_reaching (N : Nat) (l0 : Nat) (l1 : Int32) (l2 : Int32) (l3 : Int32) : osMet yX10_reaching cX10_reaching 7 (some .int) 3 67 0 0 (fun r : Int32 => some (.int r)) [.ref l0, .int l1, .int l2, .int l3] (qX10_reaching N l0 l1 l2 l3) := by
  refine osMet.of plX10 (Nat.le_of_ble_eq_true rfl) (osW.rw (lv2 := [(0, .ref l0), (1, .int l1), (2, .int l2), (3, .int l3)]) ?_ rfl rfl rfl)
  unfold qX10_reaching
  refine os_iconst (i := 0) (v := (0 : Int32)) rfl (hX10_reaching.at 0 rfl rfl) ?_
  refine os_istore (i := 4) (lv' := [(4, .int (0 : Int32)), (0, .ref l0), (1, .int l1), (2, .int l2), (3, .int l3)]) (Nat.le_of_ble_eq_true rfl) rfl (hX10_reaching.at 1 rfl rfl) ?_
  refine os_iconst (i := 0) (v := (0 : Int32)) rfl (hX10_reaching.at 2 rfl rfl) ?_
  refine os_istore (i := 5) (lv' := [(5, .int (0 : Int32)), (4, .int (0 : Int32)), (0, .ref l0), (1, .int l1), (2, .int l2), (3, .int l3)]) (Nat.le_of_ble_eq_true rfl) rfl (hX10_reaching.at 3 rfl rfl) ?_
  exact osW.sub [2, 3, 4, 5, 1, 0] rfl (sX10_reaching_6 N l0 l1 l2 l3 (0 : Int32) (0 : Int32))
-- X10_reach
def KX10_reach : List (Nat × Nat × Instr) := [(0, 1, .aload_n 0), (1, 1, .aload_n 0), (2, 1, .iload_n 1), (3, 3, .invokevirtual 99), (6, 3, .ifCond .eq 15), (9, 1, .aload_n 0), (10, 1, .iload_n 2), (11, 3, .invokevirtual 362), (14, 3, .ifCond .eq 7), (17, 1, .iconst 0), (18, 3, .goto 4), (21, 1, .iconst 1), (22, 3, .invokevirtual 354), (25, 3, .ifCond .eq 7), (28, 1, .iconst 0), (29, 3, .goto 10), (32, 1, .aload_n 0), (33, 1, .iload_n 1), (34, 1, .iload_n 2), (35, 1, .iload_n 3), (36, 3, .invokevirtual 480), (39, 1, .ireturn)]
theorem hX10_reach : osDs cX10_reach KX10_reach := by
  show ∀ q ∈ KX10_reach, decode cX10_reach q.1 = .ok (q.2.2, q.2.1)
  decide +kernel
def qX10_reach_39 (N : Nat) (k0 : Int32) : osM Int32 := osret k0
def qX10_reach_22 (N : Nat) (l0 : Nat) (l1 : Int32) (l2 : Int32) (l3 : Int32) (k0 : Int32) (k1 : Nat) : osM Int32 := osbind (osrecv [8] k1 (qX10_isRefused N k1 k0)) fun x1 => osite (x1 = 0) (osbind (osrecv [8] l0 (qX10_reaching N l0 l1 l2 l3)) fun x2 => qX10_reach_39 N x2) (qX10_reach_39 N (0 : Int32))
def qX10_reach_21 (N : Nat) (l0 : Nat) (l1 : Int32) (l2 : Int32) (l3 : Int32) (k0 : Nat) : osM Int32 := qX10_reach_22 N l0 l1 l2 l3 (1 : Int32) k0
def qX10_reach (N : Nat) (l0 : Nat) (l1 : Int32) (l2 : Int32) (l3 : Int32) : osM Int32 := osbind (osrecv [8] l0 (qX10_isArea N l0 l1)) fun x1 => osite (x1 = 0) (qX10_reach_21 N l0 l1 l2 l3 l0) (osbind (osrecv [8] l0 (qX10_isPower N l0 l2)) fun x2 => osite (x2 = 0) (qX10_reach_21 N l0 l1 l2 l3 l0) (qX10_reach_22 N l0 l1 l2 l3 (0 : Int32) l0))
set_option maxRecDepth 100000 in
set_option maxHeartbeats 4000000 in
theorem sX10_reach_39 (N : Nat) (k0 : Int32) : osW (osFinM (fun r : Int32 => some (.int r)) 0 0) yX10_reach cX10_reach 4 (some .int) [] { frames := 4, cells := 0, slots := 0, locals := 93 } 0 0 39 [] [.int k0] (qX10_reach_39 N k0) := by
  unfold qX10_reach_39
  exact os_iret (Nat.le_of_ble_eq_true rfl) (Nat.le_of_ble_eq_true rfl) (hX10_reach.at 21 rfl rfl).1
set_option maxRecDepth 100000 in
set_option maxHeartbeats 4000000 in
theorem sX10_reach_22 (N : Nat) (l0 : Nat) (l1 : Int32) (l2 : Int32) (l3 : Int32) (k0 : Int32) (k1 : Nat) : osW (osFinM (fun r : Int32 => some (.int r)) 0 0) yX10_reach cX10_reach 4 (some .int) [] { frames := 4, cells := 0, slots := 0, locals := 93 } 0 0 22 [(0, .ref l0), (1, .int l1), (2, .int l2), (3, .int l3)] [.int k0, .ref k1] (qX10_reach_22 N l0 l1 l2 l3 k0 k1) := by
  unfold qX10_reach_22
  refine os_callV (cis := [8]) (b := k1) (As := [.int k0]) (st := []) (st' := (fun r => .int r :: [])) sl8_X10_isRefused_X10_isRefused mdX10_isRefused wd2017 wd2019 (sX10_isRefused N k1 k0) rfl rfl (fun _ => rfl) (Nat.le_of_ble_eq_true rfl) (Nat.le_of_ble_eq_true rfl) (Nat.le_of_ble_eq_true rfl) rfl (Nat.le_of_ble_eq_true rfl) rfl (Nat.le_of_ble_eq_true rfl) (hX10_reach.at 12 rfl rfl) (fun x1 => ?_)
  refine os_if_eq (off := 7) (tgt := 32) rfl (hX10_reach.at 13 rfl rfl) ?_ ?_
  · refine os_aload_n (i := 0) (q := 0) (v := l0) 0 rfl rfl (hX10_reach.at 16 rfl rfl) ?_
    refine os_iload_n (i := 1) (q := 1) (v := l1) 1 rfl rfl (hX10_reach.at 17 rfl rfl) ?_
    refine os_iload_n (i := 2) (q := 2) (v := l2) 2 rfl rfl (hX10_reach.at 18 rfl rfl) ?_
    refine os_iload_n (i := 3) (q := 3) (v := l3) 3 rfl rfl (hX10_reach.at 19 rfl rfl) ?_
    refine os_callV (cis := [8]) (b := l0) (As := [.int l1, .int l2, .int l3]) (st := []) (st' := (fun r => .int r :: [])) sl8_X10_reaching_X10_reaching mdX10_reaching wd2221 wd2223 (sX10_reaching N l0 l1 l2 l3) rfl rfl (fun _ => rfl) (Nat.le_of_ble_eq_true rfl) (Nat.le_of_ble_eq_true rfl) (Nat.le_of_ble_eq_true rfl) rfl (Nat.le_of_ble_eq_true rfl) rfl (Nat.le_of_ble_eq_true rfl) (hX10_reach.at 20 rfl rfl) (fun x2 => ?_)
    exact osW.sub [] rfl (sX10_reach_39 N x2)
  · refine os_iconst (i := 0) (v := (0 : Int32)) rfl (hX10_reach.at 14 rfl rfl) ?_
    refine os_goto (off := 10) (tgt := 39) rfl (hX10_reach.at 15 rfl rfl) ?_
    exact osW.sub [] rfl (sX10_reach_39 N (0 : Int32))
set_option maxRecDepth 100000 in
set_option maxHeartbeats 4000000 in
theorem sX10_reach_21 (N : Nat) (l0 : Nat) (l1 : Int32) (l2 : Int32) (l3 : Int32) (k0 : Nat) : osW (osFinM (fun r : Int32 => some (.int r)) 0 0) yX10_reach cX10_reach 4 (some .int) [] { frames := 4, cells := 0, slots := 0, locals := 93 } 0 0 21 [(0, .ref l0), (1, .int l1), (2, .int l2), (3, .int l3)] [.ref k0] (qX10_reach_21 N l0 l1 l2 l3 k0) := by
  unfold qX10_reach_21
  refine os_iconst (i := 1) (v := (1 : Int32)) rfl (hX10_reach.at 11 rfl rfl) ?_
  exact osW.sub [0, 1, 2, 3] rfl (sX10_reach_22 N l0 l1 l2 l3 (1 : Int32) k0)
set_option maxRecDepth 100000 in
set_option maxHeartbeats 4000000 in
theorem sX10_reach (N : Nat) (l0 : Nat) (l1 : Int32) (l2 : Int32) (l3 : Int32) : osMet yX10_reach cX10_reach 4 (some .int) 4 93 0 0 (fun r : Int32 => some (.int r)) [.ref l0, .int l1, .int l2, .int l3] (qX10_reach N l0 l1 l2 l3) := by
  refine osMet.of plX10 (Nat.le_of_ble_eq_true rfl) (osW.rw (lv2 := [(0, .ref l0), (1, .int l1), (2, .int l2), (3, .int l3)]) ?_ rfl rfl rfl)
  unfold qX10_reach
  refine os_aload_n (i := 0) (q := 0) (v := l0) 0 rfl rfl (hX10_reach.at 0 rfl rfl) ?_
  refine os_aload_n (i := 0) (q := 0) (v := l0) 0 rfl rfl (hX10_reach.at 1 rfl rfl) ?_
  refine os_iload_n (i := 1) (q := 1) (v := l1) 1 rfl rfl (hX10_reach.at 2 rfl rfl) ?_
  refine os_callV (cis := [8]) (b := l0) (As := [.int l1]) (st := [.ref l0]) (st' := (fun r => .int r :: [.ref l0])) sl8_X10_isArea_X10_isArea mdX10_isArea wd2013 wd2015 (sX10_isArea N l0 l1) rfl rfl (fun _ => rfl) (Nat.le_of_ble_eq_true rfl) (Nat.le_of_ble_eq_true rfl) (Nat.le_of_ble_eq_true rfl) rfl (Nat.le_of_ble_eq_true rfl) rfl (Nat.le_of_ble_eq_true rfl) (hX10_reach.at 3 rfl rfl) (fun x1 => ?_)
  refine os_if_eq (off := 15) (tgt := 21) rfl (hX10_reach.at 4 rfl rfl) ?_ ?_
  · exact osW.sub [0, 1, 2, 3] rfl (sX10_reach_21 N l0 l1 l2 l3 l0)
  · refine os_aload_n (i := 0) (q := 0) (v := l0) 0 rfl rfl (hX10_reach.at 5 rfl rfl) ?_
    refine os_iload_n (i := 2) (q := 2) (v := l2) 2 rfl rfl (hX10_reach.at 6 rfl rfl) ?_
    refine os_callV (cis := [8]) (b := l0) (As := [.int l2]) (st := [.ref l0]) (st' := (fun r => .int r :: [.ref l0])) sl8_X10_isPower_X10_isPower mdX10_isPower wd2042 wd2044 (sX10_isPower N l0 l2) rfl rfl (fun _ => rfl) (Nat.le_of_ble_eq_true rfl) (Nat.le_of_ble_eq_true rfl) (Nat.le_of_ble_eq_true rfl) rfl (Nat.le_of_ble_eq_true rfl) rfl (Nat.le_of_ble_eq_true rfl) (hX10_reach.at 7 rfl rfl) (fun x2 => ?_)
    refine os_if_eq (off := 7) (tgt := 21) rfl (hX10_reach.at 8 rfl rfl) ?_ ?_
    · exact osW.sub [0, 1, 2, 3] rfl (sX10_reach_21 N l0 l1 l2 l3 l0)
    · refine os_iconst (i := 0) (v := (0 : Int32)) rfl (hX10_reach.at 9 rfl rfl) ?_
      refine os_goto (off := 4) (tgt := 22) rfl (hX10_reach.at 10 rfl rfl) ?_
      exact osW.sub [0, 1, 2, 3] rfl (sX10_reach_22 N l0 l1 l2 l3 (0 : Int32) l0)
-- X10_isThreatened
def KX10_isThreatened : List (Nat × Nat × Instr) := [(0, 1, .aload_n 0), (1, 1, .aload_n 0), (2, 1, .iload_n 1), (3, 3, .invokevirtual 368), (6, 3, .ifCond .eq 7), (9, 1, .iconst 0), (10, 3, .goto 4), (13, 1, .iconst 1), (14, 3, .invokevirtual 354), (17, 3, .ifCond .eq 5), (20, 1, .iconst 0), (21, 1, .ireturn), (22, 1, .aload_n 0), (23, 3, .getfield 16), (26, 2, .bipush 21), (28, 1, .iload_n 1), (29, 1, .iadd), (30, 1, .iaload), (31, 1, .istore_n 2), (32, 1, .aload_n 0), (33, 1, .iload_n 1), (34, 1, .iload_n 2), (35, 1, .iconst 1), (36, 3, .invokevirtual 480), (39, 1, .iconst 1), (40, 1, .aload_n 0), (41, 1, .iload_n 1), (42, 1, .iload_n 2), (43, 1, .iconst 0), (44, 3, .invokevirtual 480), (47, 1, .iadd), (48, 3, .if_icmp .le 7), (51, 1, .iconst 1), (52, 3, .goto 4), (55, 1, .iconst 0), (56, 1, .ireturn)]
theorem hX10_isThreatened : osDs cX10_isThreatened KX10_isThreatened := by
  show ∀ q ∈ KX10_isThreatened, decode cX10_isThreatened q.1 = .ok (q.2.2, q.2.1)
  decide +kernel
def qX10_isThreatened_56 (N : Nat) (k0 : Int32) : osM Int32 := osretZ k0
def qX10_isThreatened_14 (N : Nat) (l0 : Nat) (l1 : Int32) (k0 : Int32) (k1 : Nat) : osM Int32 := osbind (osrecv [8] k1 (qX10_isRefused N k1 k0)) fun x1 => osite (x1 = 0) (osbind (osgR [8] 3 l0) fun x2 => osbind (osaI 0 x2 ((21 : Int32) + l1)) fun x3 => osbind (osrecv [8] l0 (qX10_reaching N l0 l1 x3 (1 : Int32))) fun x4 => osbind (osrecv [8] l0 (qX10_reaching N l0 l1 x3 (0 : Int32))) fun x5 => osite (x4 ≤ ((1 : Int32) + x5)) (qX10_isThreatened_56 N (0 : Int32)) (qX10_isThreatened_56 N (1 : Int32))) (osretZ (0 : Int32))
def qX10_isThreatened (N : Nat) (l0 : Nat) (l1 : Int32) : osM Int32 := osbind (osrecv [8] l0 (qX10_hasUnit N l0 l1)) fun x1 => osite (x1 = 0) (qX10_isThreatened_14 N l0 l1 (1 : Int32) l0) (qX10_isThreatened_14 N l0 l1 (0 : Int32) l0)
set_option maxRecDepth 100000 in
set_option maxHeartbeats 4000000 in
theorem sX10_isThreatened_56 (N : Nat) (k0 : Int32) : osW (osFinM (fun r : Int32 => some (.int r)) 0 0) yX10_isThreatened cX10_isThreatened 3 (some .boolean) [] { frames := 4, cells := 0, slots := 0, locals := 93 } 0 0 56 [] [.int k0] (qX10_isThreatened_56 N k0) := by
  unfold qX10_isThreatened_56
  exact os_zret (Nat.le_of_ble_eq_true rfl) (Nat.le_of_ble_eq_true rfl) (hX10_isThreatened.at 35 rfl rfl).1
set_option maxRecDepth 100000 in
set_option maxHeartbeats 4000000 in
theorem sX10_isThreatened_14 (N : Nat) (l0 : Nat) (l1 : Int32) (k0 : Int32) (k1 : Nat) : osW (osFinM (fun r : Int32 => some (.int r)) 0 0) yX10_isThreatened cX10_isThreatened 3 (some .boolean) [] { frames := 4, cells := 0, slots := 0, locals := 93 } 0 0 14 [(0, .ref l0), (1, .int l1)] [.int k0, .ref k1] (qX10_isThreatened_14 N l0 l1 k0 k1) := by
  unfold qX10_isThreatened_14
  refine os_callV (cis := [8]) (b := k1) (As := [.int k0]) (st := []) (st' := (fun r => .int r :: [])) sl8_X10_isRefused_X10_isRefused mdX10_isRefused wd2017 wd2019 (sX10_isRefused N k1 k0) rfl rfl (fun _ => rfl) (Nat.le_of_ble_eq_true rfl) (Nat.le_of_ble_eq_true rfl) (Nat.le_of_ble_eq_true rfl) rfl (Nat.le_of_ble_eq_true rfl) rfl (Nat.le_of_ble_eq_true rfl) (hX10_isThreatened.at 8 rfl rfl) (fun x1 => ?_)
  refine os_if_eq (off := 5) (tgt := 22) rfl (hX10_isThreatened.at 9 rfl rfl) ?_ ?_
  · refine os_aload_n (i := 0) (q := 0) (v := l0) 0 rfl rfl (hX10_isThreatened.at 12 rfl rfl) ?_
    refine os_getR fX10_16 (hX10_isThreatened.at 13 rfl rfl) (fun x2 => ?_)
    refine os_bipush (i := 21) (v := (21 : Int32)) rfl (hX10_isThreatened.at 14 rfl rfl) ?_
    refine os_iload_n (i := 1) (q := 1) (v := l1) 1 rfl rfl (hX10_isThreatened.at 15 rfl rfl) ?_
    refine os_iadd (hX10_isThreatened.at 16 rfl rfl) ?_
    refine os_iaload (hX10_isThreatened.at 17 rfl rfl) (fun x3 => ?_)
    refine os_istore_n (i := 2) (q := 2) rfl (lv' := [(2, .int x3), (0, .ref l0), (1, .int l1)]) (Nat.le_of_ble_eq_true rfl) rfl (hX10_isThreatened.at 18 rfl rfl) ?_
    refine os_aload_n (i := 0) (q := 0) (v := l0) 1 rfl rfl (hX10_isThreatened.at 19 rfl rfl) ?_
    refine os_iload_n (i := 1) (q := 1) (v := l1) 2 rfl rfl (hX10_isThreatened.at 20 rfl rfl) ?_
    refine os_iload_n (i := 2) (q := 2) (v := x3) 0 rfl rfl (hX10_isThreatened.at 21 rfl rfl) ?_
    refine os_iconst (i := 1) (v := (1 : Int32)) rfl (hX10_isThreatened.at 22 rfl rfl) ?_
    refine os_callV (cis := [8]) (b := l0) (As := [.int l1, .int x3, .int (1 : Int32)]) (st := []) (st' := (fun r => .int r :: [])) sl8_X10_reaching_X10_reaching mdX10_reaching wd2221 wd2223 (sX10_reaching N l0 l1 x3 (1 : Int32)) rfl rfl (fun _ => rfl) (Nat.le_of_ble_eq_true rfl) (Nat.le_of_ble_eq_true rfl) (Nat.le_of_ble_eq_true rfl) rfl (Nat.le_of_ble_eq_true rfl) rfl (Nat.le_of_ble_eq_true rfl) (hX10_isThreatened.at 23 rfl rfl) (fun x4 => ?_)
    refine os_iconst (i := 1) (v := (1 : Int32)) rfl (hX10_isThreatened.at 24 rfl rfl) ?_
    refine os_aload_n (i := 0) (q := 0) (v := l0) 1 rfl rfl (hX10_isThreatened.at 25 rfl rfl) ?_
    refine os_iload_n (i := 1) (q := 1) (v := l1) 2 rfl rfl (hX10_isThreatened.at 26 rfl rfl) ?_
    refine os_iload_n (i := 2) (q := 2) (v := x3) 0 rfl rfl (hX10_isThreatened.at 27 rfl rfl) ?_
    refine os_iconst (i := 0) (v := (0 : Int32)) rfl (hX10_isThreatened.at 28 rfl rfl) ?_
    refine os_callV (cis := [8]) (b := l0) (As := [.int l1, .int x3, .int (0 : Int32)]) (st := [.int (1 : Int32), .int x4]) (st' := (fun r => .int r :: [.int (1 : Int32), .int x4])) sl8_X10_reaching_X10_reaching mdX10_reaching wd2221 wd2223 (sX10_reaching N l0 l1 x3 (0 : Int32)) rfl rfl (fun _ => rfl) (Nat.le_of_ble_eq_true rfl) (Nat.le_of_ble_eq_true rfl) (Nat.le_of_ble_eq_true rfl) rfl (Nat.le_of_ble_eq_true rfl) rfl (Nat.le_of_ble_eq_true rfl) (hX10_isThreatened.at 29 rfl rfl) (fun x5 => ?_)
    refine os_iadd (hX10_isThreatened.at 30 rfl rfl) ?_
    refine os_icmp_le (off := 7) (tgt := 55) rfl (hX10_isThreatened.at 31 rfl rfl) ?_ ?_
    · refine os_iconst (i := 0) (v := (0 : Int32)) rfl (hX10_isThreatened.at 34 rfl rfl) ?_
      exact osW.sub [] rfl (sX10_isThreatened_56 N (0 : Int32))
    · refine os_iconst (i := 1) (v := (1 : Int32)) rfl (hX10_isThreatened.at 32 rfl rfl) ?_
      refine os_goto (off := 4) (tgt := 56) rfl (hX10_isThreatened.at 33 rfl rfl) ?_
      exact osW.sub [] rfl (sX10_isThreatened_56 N (1 : Int32))
  · refine os_iconst (i := 0) (v := (0 : Int32)) rfl (hX10_isThreatened.at 10 rfl rfl) ?_
    exact os_zret (Nat.le_of_ble_eq_true rfl) (Nat.le_of_ble_eq_true rfl) (hX10_isThreatened.at 11 rfl rfl).1
set_option maxRecDepth 100000 in
set_option maxHeartbeats 4000000 in
theorem sX10_isThreatened (N : Nat) (l0 : Nat) (l1 : Int32) : osMet yX10_isThreatened cX10_isThreatened 3 (some .boolean) 4 93 0 0 (fun r : Int32 => some (.int r)) [.ref l0, .int l1] (qX10_isThreatened N l0 l1) := by
  refine osMet.of plX10 (Nat.le_of_ble_eq_true rfl) (osW.rw (lv2 := [(0, .ref l0), (1, .int l1)]) ?_ rfl rfl rfl)
  unfold qX10_isThreatened
  refine os_aload_n (i := 0) (q := 0) (v := l0) 0 rfl rfl (hX10_isThreatened.at 0 rfl rfl) ?_
  refine os_aload_n (i := 0) (q := 0) (v := l0) 0 rfl rfl (hX10_isThreatened.at 1 rfl rfl) ?_
  refine os_iload_n (i := 1) (q := 1) (v := l1) 1 rfl rfl (hX10_isThreatened.at 2 rfl rfl) ?_
  refine os_callV (cis := [8]) (b := l0) (As := [.int l1]) (st := [.ref l0]) (st' := (fun r => .int r :: [.ref l0])) sl8_X10_hasUnit_X10_hasUnit mdX10_hasUnit wd2062 wd2064 (sX10_hasUnit N l0 l1) rfl rfl (fun _ => rfl) (Nat.le_of_ble_eq_true rfl) (Nat.le_of_ble_eq_true rfl) (Nat.le_of_ble_eq_true rfl) rfl (Nat.le_of_ble_eq_true rfl) rfl (Nat.le_of_ble_eq_true rfl) (hX10_isThreatened.at 3 rfl rfl) (fun x1 => ?_)
  refine os_if_eq (off := 7) (tgt := 13) rfl (hX10_isThreatened.at 4 rfl rfl) ?_ ?_
  · refine os_iconst (i := 1) (v := (1 : Int32)) rfl (hX10_isThreatened.at 7 rfl rfl) ?_
    exact osW.sub [0, 1] rfl (sX10_isThreatened_14 N l0 l1 (1 : Int32) l0)
  · refine os_iconst (i := 0) (v := (0 : Int32)) rfl (hX10_isThreatened.at 5 rfl rfl) ?_
    refine os_goto (off := 4) (tgt := 14) rfl (hX10_isThreatened.at 6 rfl rfl) ?_
    exact osW.sub [0, 1] rfl (sX10_isThreatened_14 N l0 l1 (0 : Int32) l0)
-- X10_allCenters
def KX10_allCenters : List (Nat × Nat × Instr) := [(0, 1, .iconst 0), (1, 1, .istore_n 1), (2, 1, .iconst 0), (3, 1, .istore_n 2), (4, 1, .iload_n 2), (5, 1, .aload_n 0), (6, 3, .getfield 7), (9, 1, .iconst 0), (10, 1, .iaload), (11, 3, .if_icmp .ge 21), (14, 1, .iload_n 1), (15, 1, .aload_n 0), (16, 3, .getfield 7), (19, 2, .bipush 18), (21, 1, .iload_n 2), (22, 1, .iadd), (23, 1, .iaload), (24, 1, .iadd), (25, 1, .istore_n 1), (26, 3, .iinc 2 1), (29, 3, .goto (-25)), (32, 1, .iload_n 1), (33, 1, .ireturn)]
theorem hX10_allCenters : osDs cX10_allCenters KX10_allCenters := by
  show ∀ q ∈ KX10_allCenters, decode cX10_allCenters q.1 = .ok (q.2.2, q.2.1)
  decide +kernel
def bX10_allCenters_4 (N : Nat) (c4 : Nat × Int32 × Int32 → osM Int32) (l0 : Nat) (l1 : Int32) (l2 : Int32) : osM Int32 := osbind (osgR [8] 1 l0) fun x1 => osbind (osaI 0 x1 (0 : Int32)) fun x2 => osite (x2 ≤ l2) (osret l1) (osbind (osgR [8] 1 l0) fun x3 => osbind (osaI 0 x3 ((18 : Int32) + l2)) fun x4 => c4 (l0, (l1 + x4), (l2 + (1 : Int32))))
def qX10_allCenters_4 (N : Nat) : Nat × Int32 × Int32 → osM Int32 := osloop (fun ih p => bX10_allCenters_4 N ih p.1 p.2.1 p.2.2) N
def qX10_allCenters (N : Nat) (l0 : Nat) : osM Int32 := qX10_allCenters_4 N (l0, (0 : Int32), (0 : Int32))
set_option maxRecDepth 100000 in
set_option maxHeartbeats 4000000 in
theorem tX10_allCenters_4 (N : Nat) (c4 : Nat × Int32 × Int32 → osM Int32) (g4 : ∀ (l0 : Nat) (l1 : Int32) (l2 : Int32), osW (osFinM (fun r : Int32 => some (.int r)) 0 0) yX10_allCenters cX10_allCenters 3 (some .int) [] { frames := 0, cells := 0, slots := 0, locals := 0 } 0 0 4 [(0, .ref l0), (1, .int l1), (2, .int l2)] [] (c4 (l0, l1, l2))) (l0 : Nat) (l1 : Int32) (l2 : Int32) : osW (osFinM (fun r : Int32 => some (.int r)) 0 0) yX10_allCenters cX10_allCenters 3 (some .int) [] { frames := 0, cells := 0, slots := 0, locals := 0 } 0 0 4 [(0, .ref l0), (1, .int l1), (2, .int l2)] [] (bX10_allCenters_4 N c4 l0 l1 l2) := by
  unfold bX10_allCenters_4
  refine os_iload_n (i := 2) (q := 2) (v := l2) 2 rfl rfl (hX10_allCenters.at 4 rfl rfl) ?_
  refine os_aload_n (i := 0) (q := 0) (v := l0) 0 rfl rfl (hX10_allCenters.at 5 rfl rfl) ?_
  refine os_getR fX10_7 (hX10_allCenters.at 6 rfl rfl) (fun x1 => ?_)
  refine os_iconst (i := 0) (v := (0 : Int32)) rfl (hX10_allCenters.at 7 rfl rfl) ?_
  refine os_iaload (hX10_allCenters.at 8 rfl rfl) (fun x2 => ?_)
  refine os_icmp_ge (off := 21) (tgt := 32) rfl (hX10_allCenters.at 9 rfl rfl) ?_ ?_
  · refine os_iload_n (i := 1) (q := 1) (v := l1) 1 rfl rfl (hX10_allCenters.at 21 rfl rfl) ?_
    exact os_iret (Nat.le_of_ble_eq_true rfl) (Nat.le_of_ble_eq_true rfl) (hX10_allCenters.at 22 rfl rfl).1
  · refine os_iload_n (i := 1) (q := 1) (v := l1) 1 rfl rfl (hX10_allCenters.at 10 rfl rfl) ?_
    refine os_aload_n (i := 0) (q := 0) (v := l0) 0 rfl rfl (hX10_allCenters.at 11 rfl rfl) ?_
    refine os_getR fX10_7 (hX10_allCenters.at 12 rfl rfl) (fun x3 => ?_)
    refine os_bipush (i := 18) (v := (18 : Int32)) rfl (hX10_allCenters.at 13 rfl rfl) ?_
    refine os_iload_n (i := 2) (q := 2) (v := l2) 2 rfl rfl (hX10_allCenters.at 14 rfl rfl) ?_
    refine os_iadd (hX10_allCenters.at 15 rfl rfl) ?_
    refine os_iaload (hX10_allCenters.at 16 rfl rfl) (fun x4 => ?_)
    refine os_iadd (hX10_allCenters.at 17 rfl rfl) ?_
    refine os_istore_n (i := 1) (q := 1) rfl (lv' := [(1, .int (l1 + x4)), (0, .ref l0), (2, .int l2)]) (Nat.le_of_ble_eq_true rfl) rfl (hX10_allCenters.at 18 rfl rfl) ?_
    refine os_iinc (i := 2) (d := 1) (x := l2) (v := (1 : Int32)) (lv' := [(2, .int (l2 + (1 : Int32))), (1, .int (l1 + x4)), (0, .ref l0)]) 2 rfl rfl (Nat.le_of_ble_eq_true rfl) rfl (hX10_allCenters.at 19 rfl rfl) ?_
    refine os_goto (off := (-25)) (tgt := 4) rfl (hX10_allCenters.at 20 rfl rfl) ?_
    exact osW.sub [2, 1, 0] rfl (g4 l0 (l1 + x4) (l2 + (1 : Int32)))
set_option maxRecDepth 100000 in
set_option maxHeartbeats 4000000 in
theorem sX10_allCenters_4 (N : Nat) (l0 : Nat) (l1 : Int32) (l2 : Int32) : osW (osFinM (fun r : Int32 => some (.int r)) 0 0) yX10_allCenters cX10_allCenters 3 (some .int) [] { frames := 0, cells := 0, slots := 0, locals := 0 } 0 0 4 [(0, .ref l0), (1, .int l1), (2, .int l2)] [] (qX10_allCenters_4 N (l0, l1, l2)) :=
  osloop_W (lvf := fun p => [(0, .ref p.1), (1, .int p.2.1), (2, .int p.2.2)]) (stf := fun p => []) (fun ih g p => tX10_allCenters_4 N ih (fun l0 l1 l2 => g (l0, l1, l2)) p.1 p.2.1 p.2.2) N (l0, l1, l2)
set_option maxRecDepth 100000 in
set_option maxHeartbeats 4000000 in
theorem sX10_allCenters (N : Nat) (l0 : Nat) : osMet yX10_allCenters cX10_allCenters 3 (some .int) 0 0 0 0 (fun r : Int32 => some (.int r)) [.ref l0] (qX10_allCenters N l0) := by
  refine osMet.of plX10 (Nat.le_of_ble_eq_true rfl) (osW.rw (lv2 := [(0, .ref l0)]) ?_ rfl rfl rfl)
  unfold qX10_allCenters
  refine os_iconst (i := 0) (v := (0 : Int32)) rfl (hX10_allCenters.at 0 rfl rfl) ?_
  refine os_istore_n (i := 1) (q := 1) rfl (lv' := [(1, .int (0 : Int32)), (0, .ref l0)]) (Nat.le_of_ble_eq_true rfl) rfl (hX10_allCenters.at 1 rfl rfl) ?_
  refine os_iconst (i := 0) (v := (0 : Int32)) rfl (hX10_allCenters.at 2 rfl rfl) ?_
  refine os_istore_n (i := 2) (q := 2) rfl (lv' := [(2, .int (0 : Int32)), (1, .int (0 : Int32)), (0, .ref l0)]) (Nat.le_of_ble_eq_true rfl) rfl (hX10_allCenters.at 3 rfl rfl) ?_
  exact osW.sub [2, 1, 0] rfl (sX10_allCenters_4 N l0 (0 : Int32) (0 : Int32))
-- X10_shareOf
def KX10_shareOf : List (Nat × Nat × Instr) := [(0, 1, .aload_n 0), (1, 3, .invokevirtual 484), (4, 1, .istore_n 2), (5, 1, .iload_n 2), (6, 3, .ifCond .ne 7), (9, 1, .fconst 0), (10, 3, .goto 16), (13, 1, .aload_n 0), (14, 1, .aload_n 0), (15, 3, .getfield 16), (18, 1, .iload_n 1), (19, 3, .invokevirtual 124), (22, 1, .i2f), (23, 1, .iload_n 2), (24, 1, .i2f), (25, 1, .fdiv), (26, 1, .freturn)]
theorem hX10_shareOf : osDs cX10_shareOf KX10_shareOf := by
  show ∀ q ∈ KX10_shareOf, decode cX10_shareOf q.1 = .ok (q.2.2, q.2.1)
  decide +kernel
def qX10_shareOf_26 (N : Nat) (k0 : UInt32) : osM UInt32 := osret k0
def qX10_shareOf (N : Nat) (l0 : Nat) (l1 : Int32) : osM UInt32 := osbind (osrecv [8] l0 (qX10_allCenters N l0)) fun x1 => osite (x1 = 0) (qX10_shareOf_26 N (0 : UInt32)) (osbind (osgR [8] 3 l0) fun x2 => osbind (osrecv [8] l0 (qX10_centersOf N l0 x2 l1)) fun x3 => osguard (osn32 (FP.fdiv (FP.i2f x3) (FP.i2f x1))) (qX10_shareOf_26 N (FP.fdiv (FP.i2f x3) (FP.i2f x1))))
set_option maxRecDepth 100000 in
set_option maxHeartbeats 4000000 in
theorem sX10_shareOf_26 (N : Nat) (k0 : UInt32) : osW (osFinM (fun r : UInt32 => some (.float r)) 0 0) yX10_shareOf cX10_shareOf 3 (some .float) [] { frames := 1, cells := 0, slots := 0, locals := 24 } 0 0 26 [] [.float k0] (qX10_shareOf_26 N k0) := by
  unfold qX10_shareOf_26
  exact os_fret (Nat.le_of_ble_eq_true rfl) (Nat.le_of_ble_eq_true rfl) (hX10_shareOf.at 16 rfl rfl).1
set_option maxRecDepth 100000 in
set_option maxHeartbeats 4000000 in
theorem sX10_shareOf (N : Nat) (l0 : Nat) (l1 : Int32) : osMet yX10_shareOf cX10_shareOf 3 (some .float) 1 24 0 0 (fun r : UInt32 => some (.float r)) [.ref l0, .int l1] (qX10_shareOf N l0 l1) := by
  refine osMet.of plX10 (Nat.le_of_ble_eq_true rfl) (osW.rw (lv2 := [(0, .ref l0), (1, .int l1)]) ?_ rfl rfl rfl)
  unfold qX10_shareOf
  refine os_aload_n (i := 0) (q := 0) (v := l0) 0 rfl rfl (hX10_shareOf.at 0 rfl rfl) ?_
  refine os_callV (cis := [8]) (b := l0) (As := []) (st := []) (st' := (fun r => .int r :: [])) sl8_X10_allCenters_X10_allCenters mdX10_allCenters wd2237 wd2239 (sX10_allCenters N l0 ) rfl rfl (fun _ => rfl) (Nat.le_of_ble_eq_true rfl) (Nat.le_of_ble_eq_true rfl) (Nat.le_of_ble_eq_true rfl) rfl (Nat.le_of_ble_eq_true rfl) rfl (Nat.le_of_ble_eq_true rfl) (hX10_shareOf.at 1 rfl rfl) (fun x1 => ?_)
  refine os_istore_n (i := 2) (q := 2) rfl (lv' := [(2, .int x1), (0, .ref l0), (1, .int l1)]) (Nat.le_of_ble_eq_true rfl) rfl (hX10_shareOf.at 2 rfl rfl) ?_
  refine os_iload_n (i := 2) (q := 2) (v := x1) 0 rfl rfl (hX10_shareOf.at 3 rfl rfl) ?_
  refine os_if_ne (off := 7) (tgt := 13) rfl (hX10_shareOf.at 4 rfl rfl) ?_ ?_
  · refine os_aload_n (i := 0) (q := 0) (v := l0) 1 rfl rfl (hX10_shareOf.at 7 rfl rfl) ?_
    refine os_aload_n (i := 0) (q := 0) (v := l0) 1 rfl rfl (hX10_shareOf.at 8 rfl rfl) ?_
    refine os_getR fX10_16 (hX10_shareOf.at 9 rfl rfl) (fun x2 => ?_)
    refine os_iload_n (i := 1) (q := 1) (v := l1) 2 rfl rfl (hX10_shareOf.at 10 rfl rfl) ?_
    refine os_callV (cis := [8]) (b := l0) (As := [.ref x2, .int l1]) (st := []) (st' := (fun r => .int r :: [])) sl8_X10_centersOf_X10_centersOf mdX10_centersOf wd1990 wd1992 (sX10_centersOf N l0 x2 l1) rfl rfl (fun _ => rfl) (Nat.le_of_ble_eq_true rfl) (Nat.le_of_ble_eq_true rfl) (Nat.le_of_ble_eq_true rfl) rfl (Nat.le_of_ble_eq_true rfl) rfl (Nat.le_of_ble_eq_true rfl) (hX10_shareOf.at 11 rfl rfl) (fun x3 => ?_)
    refine os_i2f (hX10_shareOf.at 12 rfl rfl) ?_
    refine os_iload_n (i := 2) (q := 2) (v := x1) 0 rfl rfl (hX10_shareOf.at 13 rfl rfl) ?_
    refine os_i2f (hX10_shareOf.at 14 rfl rfl) ?_
    refine os_guard (fun h4 => ?_)
    refine os_fdiv (osn32_ok h4) (hX10_shareOf.at 15 rfl rfl) ?_
    exact osW.sub [] rfl (sX10_shareOf_26 N (FP.fdiv (FP.i2f x3) (FP.i2f x1)))
  · refine os_fconst0 (hX10_shareOf.at 5 rfl rfl) ?_
    refine os_goto (off := 16) (tgt := 26) rfl (hX10_shareOf.at 6 rfl rfl) ?_
    exact osW.sub [] rfl (sX10_shareOf_26 N (0 : UInt32))
-- X10_share
def KX10_share : List (Nat × Nat × Instr) := [(0, 1, .aload_n 0), (1, 1, .aload_n 0), (2, 1, .iload_n 1), (3, 3, .invokevirtual 362), (6, 3, .ifCond .eq 7), (9, 1, .iconst 0), (10, 3, .goto 4), (13, 1, .iconst 1), (14, 3, .invokevirtual 354), (17, 3, .ifCond .eq 7), (20, 1, .fconst 0), (21, 3, .goto 8), (24, 1, .aload_n 0), (25, 1, .iload_n 1), (26, 3, .invokevirtual 487), (29, 1, .freturn)]
theorem hX10_share : osDs cX10_share KX10_share := by
  show ∀ q ∈ KX10_share, decode cX10_share q.1 = .ok (q.2.2, q.2.1)
  decide +kernel
def qX10_share_29 (N : Nat) (k0 : UInt32) : osM UInt32 := osret k0
def qX10_share_14 (N : Nat) (l0 : Nat) (l1 : Int32) (k0 : Int32) (k1 : Nat) : osM UInt32 := osbind (osrecv [8] k1 (qX10_isRefused N k1 k0)) fun x1 => osite (x1 = 0) (osbind (osrecv [8] l0 (qX10_shareOf N l0 l1)) fun x2 => qX10_share_29 N x2) (qX10_share_29 N (0 : UInt32))
def qX10_share (N : Nat) (l0 : Nat) (l1 : Int32) : osM UInt32 := osbind (osrecv [8] l0 (qX10_isPower N l0 l1)) fun x1 => osite (x1 = 0) (qX10_share_14 N l0 l1 (1 : Int32) l0) (qX10_share_14 N l0 l1 (0 : Int32) l0)
set_option maxRecDepth 100000 in
set_option maxHeartbeats 4000000 in
theorem sX10_share_29 (N : Nat) (k0 : UInt32) : osW (osFinM (fun r : UInt32 => some (.float r)) 0 0) yX10_share cX10_share 2 (some .float) [] { frames := 2, cells := 0, slots := 0, locals := 46 } 0 0 29 [] [.float k0] (qX10_share_29 N k0) := by
  unfold qX10_share_29
  exact os_fret (Nat.le_of_ble_eq_true rfl) (Nat.le_of_ble_eq_true rfl) (hX10_share.at 15 rfl rfl).1
set_option maxRecDepth 100000 in
set_option maxHeartbeats 4000000 in
theorem sX10_share_14 (N : Nat) (l0 : Nat) (l1 : Int32) (k0 : Int32) (k1 : Nat) : osW (osFinM (fun r : UInt32 => some (.float r)) 0 0) yX10_share cX10_share 2 (some .float) [] { frames := 2, cells := 0, slots := 0, locals := 46 } 0 0 14 [(0, .ref l0), (1, .int l1)] [.int k0, .ref k1] (qX10_share_14 N l0 l1 k0 k1) := by
  unfold qX10_share_14
  refine os_callV (cis := [8]) (b := k1) (As := [.int k0]) (st := []) (st' := (fun r => .int r :: [])) sl8_X10_isRefused_X10_isRefused mdX10_isRefused wd2017 wd2019 (sX10_isRefused N k1 k0) rfl rfl (fun _ => rfl) (Nat.le_of_ble_eq_true rfl) (Nat.le_of_ble_eq_true rfl) (Nat.le_of_ble_eq_true rfl) rfl (Nat.le_of_ble_eq_true rfl) rfl (Nat.le_of_ble_eq_true rfl) (hX10_share.at 8 rfl rfl) (fun x1 => ?_)
  refine os_if_eq (off := 7) (tgt := 24) rfl (hX10_share.at 9 rfl rfl) ?_ ?_
  · refine os_aload_n (i := 0) (q := 0) (v := l0) 0 rfl rfl (hX10_share.at 12 rfl rfl) ?_
    refine os_iload_n (i := 1) (q := 1) (v := l1) 1 rfl rfl (hX10_share.at 13 rfl rfl) ?_
    refine os_callV (cis := [8]) (b := l0) (As := [.int l1]) (st := []) (st' := (fun r => .float r :: [])) sl8_X10_shareOf_X10_shareOf mdX10_shareOf wd2233 wd2235 (sX10_shareOf N l0 l1) rfl rfl (fun _ => rfl) (Nat.le_of_ble_eq_true rfl) (Nat.le_of_ble_eq_true rfl) (Nat.le_of_ble_eq_true rfl) rfl (Nat.le_of_ble_eq_true rfl) rfl (Nat.le_of_ble_eq_true rfl) (hX10_share.at 14 rfl rfl) (fun x2 => ?_)
    exact osW.sub [] rfl (sX10_share_29 N x2)
  · refine os_fconst0 (hX10_share.at 10 rfl rfl) ?_
    refine os_goto (off := 8) (tgt := 29) rfl (hX10_share.at 11 rfl rfl) ?_
    exact osW.sub [] rfl (sX10_share_29 N (0 : UInt32))
set_option maxRecDepth 100000 in
set_option maxHeartbeats 4000000 in
theorem sX10_share (N : Nat) (l0 : Nat) (l1 : Int32) : osMet yX10_share cX10_share 2 (some .float) 2 46 0 0 (fun r : UInt32 => some (.float r)) [.ref l0, .int l1] (qX10_share N l0 l1) := by
  refine osMet.of plX10 (Nat.le_of_ble_eq_true rfl) (osW.rw (lv2 := [(0, .ref l0), (1, .int l1)]) ?_ rfl rfl rfl)
  unfold qX10_share
  refine os_aload_n (i := 0) (q := 0) (v := l0) 0 rfl rfl (hX10_share.at 0 rfl rfl) ?_
  refine os_aload_n (i := 0) (q := 0) (v := l0) 0 rfl rfl (hX10_share.at 1 rfl rfl) ?_
  refine os_iload_n (i := 1) (q := 1) (v := l1) 1 rfl rfl (hX10_share.at 2 rfl rfl) ?_
  refine os_callV (cis := [8]) (b := l0) (As := [.int l1]) (st := [.ref l0]) (st' := (fun r => .int r :: [.ref l0])) sl8_X10_isPower_X10_isPower mdX10_isPower wd2042 wd2044 (sX10_isPower N l0 l1) rfl rfl (fun _ => rfl) (Nat.le_of_ble_eq_true rfl) (Nat.le_of_ble_eq_true rfl) (Nat.le_of_ble_eq_true rfl) rfl (Nat.le_of_ble_eq_true rfl) rfl (Nat.le_of_ble_eq_true rfl) (hX10_share.at 3 rfl rfl) (fun x1 => ?_)
  refine os_if_eq (off := 7) (tgt := 13) rfl (hX10_share.at 4 rfl rfl) ?_ ?_
  · refine os_iconst (i := 1) (v := (1 : Int32)) rfl (hX10_share.at 7 rfl rfl) ?_
    exact osW.sub [0, 1] rfl (sX10_share_14 N l0 l1 (1 : Int32) l0)
  · refine os_iconst (i := 0) (v := (0 : Int32)) rfl (hX10_share.at 5 rfl rfl) ?_
    refine os_goto (off := 4) (tgt := 14) rfl (hX10_share.at 6 rfl rfl) ?_
    exact osW.sub [0, 1] rfl (sX10_share_14 N l0 l1 (0 : Int32) l0)
-- X10_shareBits
def KX10_shareBits : List (Nat × Nat × Instr) := [(0, 1, .aload_n 0), (1, 1, .aload_n 0), (2, 1, .iload_n 1), (3, 3, .invokevirtual 362), (6, 3, .ifCond .eq 7), (9, 1, .iconst 0), (10, 3, .goto 4), (13, 1, .iconst 1), (14, 3, .invokevirtual 354), (17, 3, .ifCond .eq 5), (20, 1, .iconst 0), (21, 1, .ireturn), (22, 1, .aload_n 0), (23, 1, .iload_n 1), (24, 3, .invokevirtual 487), (27, 1, .fstore_n 2), (28, 1, .fload_n 2), (29, 1, .fconst 0), (30, 1, .fcmp .l), (31, 3, .ifCond .ne 5), (34, 1, .iconst 0), (35, 1, .ireturn), (36, 2, .bipush 127), (38, 1, .istore_n 3), (39, 1, .fload_n 2), (40, 1, .fconst 1), (41, 1, .fcmp .g), (42, 3, .ifCond .ge 14), (45, 1, .fload_n 2), (46, 1, .fconst 2), (47, 1, .fmul), (48, 1, .fstore_n 2), (49, 1, .iload_n 3), (50, 1, .iconst 1), (51, 1, .isub), (52, 1, .istore_n 3), (53, 3, .goto (-14)), (56, 1, .iload_n 3), (57, 2, .bipush 23), (59, 1, .ishl), (60, 1, .fload_n 2), (61, 1, .fconst 1), (62, 1, .fsub), (63, 3, .ldc_w 491), (66, 1, .fmul), (67, 1, .f2i), (68, 1, .ior), (69, 1, .ireturn)]
theorem hX10_shareBits : osDs cX10_shareBits KX10_shareBits := by
  show ∀ q ∈ KX10_shareBits, decode cX10_shareBits q.1 = .ok (q.2.2, q.2.1)
  decide +kernel
def bX10_shareBits_39 (N : Nat) (c39 : UInt32 × Int32 → osM Int32) (l2 : UInt32) (l3 : Int32) : osM Int32 := osite (0 ≤ (Op.cmpValue (FP.fcmp l2 (1065353216 : UInt32)) .g)) (osguard (osn32 (FP.fsub l2 (1065353216 : UInt32))) (osguard (osn32 (FP.fmul (FP.fsub l2 (1065353216 : UInt32)) (1258291200 : UInt32))) (osret ((osshl l3 (23 : Int32)) ||| (FP.f2i (FP.fmul (FP.fsub l2 (1065353216 : UInt32)) (1258291200 : UInt32))))))) (osguard (osn32 (FP.fmul l2 (1073741824 : UInt32))) (osbind (osret ((FP.fmul l2 (1073741824 : UInt32)) : UInt32)) fun x4 => c39 (x4, (l3 - (1 : Int32)))))
def qX10_shareBits_39 (N : Nat) : UInt32 × Int32 → osM Int32 := osloop (fun ih p => bX10_shareBits_39 N ih p.1 p.2) N
def qX10_shareBits_14 (N : Nat) (l0 : Nat) (l1 : Int32) (k0 : Int32) (k1 : Nat) : osM Int32 := osbind (osrecv [8] k1 (qX10_isRefused N k1 k0)) fun x1 => osite (x1 = 0) (osbind (osrecv [8] l0 (qX10_shareOf N l0 l1)) fun x2 => osite ((Op.cmpValue (FP.fcmp x2 (0 : UInt32)) .l) = 0) (osret (0 : Int32)) (qX10_shareBits_39 N (x2, (127 : Int32)))) (osret (0 : Int32))
def qX10_shareBits (N : Nat) (l0 : Nat) (l1 : Int32) : osM Int32 := osbind (osrecv [8] l0 (qX10_isPower N l0 l1)) fun x1 => osite (x1 = 0) (qX10_shareBits_14 N l0 l1 (1 : Int32) l0) (qX10_shareBits_14 N l0 l1 (0 : Int32) l0)
set_option maxRecDepth 100000 in
set_option maxHeartbeats 4000000 in
theorem tX10_shareBits_39 (N : Nat) (c39 : UInt32 × Int32 → osM Int32) (g39 : ∀ (l2 : UInt32) (l3 : Int32), osW (osFinM (fun r : Int32 => some (.int r)) 0 0) yX10_shareBits cX10_shareBits 4 (some .int) [] { frames := 2, cells := 0, slots := 0, locals := 46 } 0 0 39 [(2, .float l2), (3, .int l3)] [] (c39 (l2, l3))) (l2 : UInt32) (l3 : Int32) : osW (osFinM (fun r : Int32 => some (.int r)) 0 0) yX10_shareBits cX10_shareBits 4 (some .int) [] { frames := 2, cells := 0, slots := 0, locals := 46 } 0 0 39 [(2, .float l2), (3, .int l3)] [] (bX10_shareBits_39 N c39 l2 l3) := by
  unfold bX10_shareBits_39
  refine os_fload_n (i := 2) (q := 2) (v := l2) 0 rfl rfl (hX10_shareBits.at 24 rfl rfl) ?_
  refine os_fconst1 (hX10_shareBits.at 25 rfl rfl) ?_
  refine os_fcmp (op := .g) (hX10_shareBits.at 26 rfl rfl) ?_
  refine os_if_ge (off := 14) (tgt := 56) rfl (hX10_shareBits.at 27 rfl rfl) ?_ ?_
  · refine os_iload_n (i := 3) (q := 3) (v := l3) 1 rfl rfl (hX10_shareBits.at 37 rfl rfl) ?_
    refine os_bipush (i := 23) (v := (23 : Int32)) rfl (hX10_shareBits.at 38 rfl rfl) ?_
    refine os_ishl (hX10_shareBits.at 39 rfl rfl) ?_
    refine os_fload_n (i := 2) (q := 2) (v := l2) 0 rfl rfl (hX10_shareBits.at 40 rfl rfl) ?_
    refine os_fconst1 (hX10_shareBits.at 41 rfl rfl) ?_
    refine os_guard (fun h1 => ?_)
    refine os_fsub (osn32_ok h1) (hX10_shareBits.at 42 rfl rfl) ?_
    refine os_ldcwf (v := (1258291200 : UInt32)) wd2245 (hX10_shareBits.at 43 rfl rfl) ?_
    refine os_guard (fun h2 => ?_)
    refine os_fmul (osn32_ok h2) (hX10_shareBits.at 44 rfl rfl) ?_
    refine os_f2i (hX10_shareBits.at 45 rfl rfl) ?_
    refine os_ior (hX10_shareBits.at 46 rfl rfl) ?_
    exact os_iret (Nat.le_of_ble_eq_true rfl) (Nat.le_of_ble_eq_true rfl) (hX10_shareBits.at 47 rfl rfl).1
  · refine os_fload_n (i := 2) (q := 2) (v := l2) 0 rfl rfl (hX10_shareBits.at 28 rfl rfl) ?_
    refine os_fconst2 (hX10_shareBits.at 29 rfl rfl) ?_
    refine os_guard (fun h3 => ?_)
    refine os_fmul (osn32_ok h3) (hX10_shareBits.at 30 rfl rfl) ?_
    refine os_nameF (fun x4 => ?_)
    refine os_fstore_n (i := 2) (q := 2) rfl (lv' := [(2, .float x4), (3, .int l3)]) (Nat.le_of_ble_eq_true rfl) rfl (hX10_shareBits.at 31 rfl rfl) ?_
    refine os_iload_n (i := 3) (q := 3) (v := l3) 1 rfl rfl (hX10_shareBits.at 32 rfl rfl) ?_
    refine os_iconst (i := 1) (v := (1 : Int32)) rfl (hX10_shareBits.at 33 rfl rfl) ?_
    refine os_isub (hX10_shareBits.at 34 rfl rfl) ?_
    refine os_istore_n (i := 3) (q := 3) rfl (lv' := [(3, .int (l3 - (1 : Int32))), (2, .float x4)]) (Nat.le_of_ble_eq_true rfl) rfl (hX10_shareBits.at 35 rfl rfl) ?_
    refine os_goto (off := (-14)) (tgt := 39) rfl (hX10_shareBits.at 36 rfl rfl) ?_
    exact osW.sub [1, 0] rfl (g39 x4 (l3 - (1 : Int32)))
set_option maxRecDepth 100000 in
set_option maxHeartbeats 4000000 in
theorem sX10_shareBits_39 (N : Nat) (l2 : UInt32) (l3 : Int32) : osW (osFinM (fun r : Int32 => some (.int r)) 0 0) yX10_shareBits cX10_shareBits 4 (some .int) [] { frames := 2, cells := 0, slots := 0, locals := 46 } 0 0 39 [(2, .float l2), (3, .int l3)] [] (qX10_shareBits_39 N (l2, l3)) :=
  osloop_W (lvf := fun p => [(2, .float p.1), (3, .int p.2)]) (stf := fun p => []) (fun ih g p => tX10_shareBits_39 N ih (fun l2 l3 => g (l2, l3)) p.1 p.2) N (l2, l3)
set_option maxRecDepth 100000 in
set_option maxHeartbeats 4000000 in
theorem sX10_shareBits_14 (N : Nat) (l0 : Nat) (l1 : Int32) (k0 : Int32) (k1 : Nat) : osW (osFinM (fun r : Int32 => some (.int r)) 0 0) yX10_shareBits cX10_shareBits 4 (some .int) [] { frames := 2, cells := 0, slots := 0, locals := 46 } 0 0 14 [(0, .ref l0), (1, .int l1)] [.int k0, .ref k1] (qX10_shareBits_14 N l0 l1 k0 k1) := by
  unfold qX10_shareBits_14
  refine os_callV (cis := [8]) (b := k1) (As := [.int k0]) (st := []) (st' := (fun r => .int r :: [])) sl8_X10_isRefused_X10_isRefused mdX10_isRefused wd2017 wd2019 (sX10_isRefused N k1 k0) rfl rfl (fun _ => rfl) (Nat.le_of_ble_eq_true rfl) (Nat.le_of_ble_eq_true rfl) (Nat.le_of_ble_eq_true rfl) rfl (Nat.le_of_ble_eq_true rfl) rfl (Nat.le_of_ble_eq_true rfl) (hX10_shareBits.at 8 rfl rfl) (fun x1 => ?_)
  refine os_if_eq (off := 5) (tgt := 22) rfl (hX10_shareBits.at 9 rfl rfl) ?_ ?_
  · refine os_aload_n (i := 0) (q := 0) (v := l0) 0 rfl rfl (hX10_shareBits.at 12 rfl rfl) ?_
    refine os_iload_n (i := 1) (q := 1) (v := l1) 1 rfl rfl (hX10_shareBits.at 13 rfl rfl) ?_
    refine os_callV (cis := [8]) (b := l0) (As := [.int l1]) (st := []) (st' := (fun r => .float r :: [])) sl8_X10_shareOf_X10_shareOf mdX10_shareOf wd2233 wd2235 (sX10_shareOf N l0 l1) rfl rfl (fun _ => rfl) (Nat.le_of_ble_eq_true rfl) (Nat.le_of_ble_eq_true rfl) (Nat.le_of_ble_eq_true rfl) rfl (Nat.le_of_ble_eq_true rfl) rfl (Nat.le_of_ble_eq_true rfl) (hX10_shareBits.at 14 rfl rfl) (fun x2 => ?_)
    refine os_fstore_n (i := 2) (q := 2) rfl (lv' := [(2, .float x2), (0, .ref l0), (1, .int l1)]) (Nat.le_of_ble_eq_true rfl) rfl (hX10_shareBits.at 15 rfl rfl) ?_
    refine os_fload_n (i := 2) (q := 2) (v := x2) 0 rfl rfl (hX10_shareBits.at 16 rfl rfl) ?_
    refine os_fconst0 (hX10_shareBits.at 17 rfl rfl) ?_
    refine os_fcmp (op := .l) (hX10_shareBits.at 18 rfl rfl) ?_
    refine os_if_ne (off := 5) (tgt := 36) rfl (hX10_shareBits.at 19 rfl rfl) ?_ ?_
    · refine os_bipush (i := 127) (v := (127 : Int32)) rfl (hX10_shareBits.at 22 rfl rfl) ?_
      refine os_istore_n (i := 3) (q := 3) rfl (lv' := [(3, .int (127 : Int32)), (2, .float x2), (0, .ref l0), (1, .int l1)]) (Nat.le_of_ble_eq_true rfl) rfl (hX10_shareBits.at 23 rfl rfl) ?_
      exact osW.sub [1, 0] rfl (sX10_shareBits_39 N x2 (127 : Int32))
    · refine os_iconst (i := 0) (v := (0 : Int32)) rfl (hX10_shareBits.at 20 rfl rfl) ?_
      exact os_iret (Nat.le_of_ble_eq_true rfl) (Nat.le_of_ble_eq_true rfl) (hX10_shareBits.at 21 rfl rfl).1
  · refine os_iconst (i := 0) (v := (0 : Int32)) rfl (hX10_shareBits.at 10 rfl rfl) ?_
    exact os_iret (Nat.le_of_ble_eq_true rfl) (Nat.le_of_ble_eq_true rfl) (hX10_shareBits.at 11 rfl rfl).1
set_option maxRecDepth 100000 in
set_option maxHeartbeats 4000000 in
theorem sX10_shareBits (N : Nat) (l0 : Nat) (l1 : Int32) : osMet yX10_shareBits cX10_shareBits 4 (some .int) 2 46 0 0 (fun r : Int32 => some (.int r)) [.ref l0, .int l1] (qX10_shareBits N l0 l1) := by
  refine osMet.of plX10 (Nat.le_of_ble_eq_true rfl) (osW.rw (lv2 := [(0, .ref l0), (1, .int l1)]) ?_ rfl rfl rfl)
  unfold qX10_shareBits
  refine os_aload_n (i := 0) (q := 0) (v := l0) 0 rfl rfl (hX10_shareBits.at 0 rfl rfl) ?_
  refine os_aload_n (i := 0) (q := 0) (v := l0) 0 rfl rfl (hX10_shareBits.at 1 rfl rfl) ?_
  refine os_iload_n (i := 1) (q := 1) (v := l1) 1 rfl rfl (hX10_shareBits.at 2 rfl rfl) ?_
  refine os_callV (cis := [8]) (b := l0) (As := [.int l1]) (st := [.ref l0]) (st' := (fun r => .int r :: [.ref l0])) sl8_X10_isPower_X10_isPower mdX10_isPower wd2042 wd2044 (sX10_isPower N l0 l1) rfl rfl (fun _ => rfl) (Nat.le_of_ble_eq_true rfl) (Nat.le_of_ble_eq_true rfl) (Nat.le_of_ble_eq_true rfl) rfl (Nat.le_of_ble_eq_true rfl) rfl (Nat.le_of_ble_eq_true rfl) (hX10_shareBits.at 3 rfl rfl) (fun x1 => ?_)
  refine os_if_eq (off := 7) (tgt := 13) rfl (hX10_shareBits.at 4 rfl rfl) ?_ ?_
  · refine os_iconst (i := 1) (v := (1 : Int32)) rfl (hX10_shareBits.at 7 rfl rfl) ?_
    exact osW.sub [0, 1] rfl (sX10_shareBits_14 N l0 l1 (1 : Int32) l0)
  · refine os_iconst (i := 0) (v := (0 : Int32)) rfl (hX10_shareBits.at 5 rfl rfl) ?_
    refine os_goto (off := 4) (tgt := 14) rfl (hX10_shareBits.at 6 rfl rfl) ?_
    exact osW.sub [0, 1] rfl (sX10_shareBits_14 N l0 l1 (0 : Int32) l0)
-- X10_unevenNow
def KX10_unevenNow : List (Nat × Nat × Instr) := [(0, 1, .aload_n 0), (1, 3, .invokevirtual 484), (4, 1, .istore_n 1), (5, 1, .dconst 0), (6, 1, .dstore_n 2), (7, 1, .iconst 0), (8, 2, .istore 4), (10, 2, .iload 4), (12, 1, .aload_n 0), (13, 3, .getfield 7), (16, 1, .iconst 1), (17, 1, .iaload), (18, 3, .if_icmp .ge 37), (21, 1, .iload_n 1), (22, 3, .ifCond .le 33), (25, 1, .aload_n 0), (26, 1, .aload_n 0), (27, 3, .getfield 16), (30, 2, .iload 4), (32, 3, .invokevirtual 124), (35, 1, .i2d), (36, 1, .iload_n 1), (37, 1, .i2d), (38, 1, .ddiv), (39, 2, .dstore 5), (41, 1, .dload_n 2), (42, 2, .dload 5), (44, 2, .dload 5), (46, 1, .dmul), (47, 1, .dadd), (48, 1, .dstore_n 2), (49, 3, .iinc 4 1), (52, 3, .goto (-42)), (55, 1, .dload_n 2), (56, 1, .dreturn)]
theorem hX10_unevenNow : osDs cX10_unevenNow KX10_unevenNow := by
  show ∀ q ∈ KX10_unevenNow, decode cX10_unevenNow q.1 = .ok (q.2.2, q.2.1)
  decide +kernel
def qX10_unevenNow_55 (N : Nat) (l2 : UInt64) : osM UInt64 := osret l2
def bX10_unevenNow_10 (N : Nat) (c10 : Nat × Int32 × UInt64 × Int32 → osM UInt64) (l0 : Nat) (l1 : Int32) (l2 : UInt64) (l4 : Int32) : osM UInt64 := osbind (osgR [8] 1 l0) fun x1 => osbind (osaI 0 x1 (1 : Int32)) fun x2 => osite (x2 ≤ l4) (qX10_unevenNow_55 N l2) (osite (l1 ≤ 0) (qX10_unevenNow_55 N l2) (osbind (osgR [8] 3 l0) fun x3 => osbind (osrecv [8] l0 (qX10_centersOf N l0 x3 l4)) fun x4 => osguard (osn64 (FP.ddiv (FP.i2d x4) (FP.i2d l1))) (osbind (osret ((FP.ddiv (FP.i2d x4) (FP.i2d l1)) : UInt64)) fun x6 => osguard (osn64 (FP.dmul x6 x6)) (osguard (osn64 (FP.dadd l2 (FP.dmul x6 x6))) (osbind (osret ((FP.dadd l2 (FP.dmul x6 x6)) : UInt64)) fun x9 => c10 (l0, l1, x9, (l4 + (1 : Int32))))))))
def qX10_unevenNow_10 (N : Nat) : Nat × Int32 × UInt64 × Int32 → osM UInt64 := osloop (fun ih p => bX10_unevenNow_10 N ih p.1 p.2.1 p.2.2.1 p.2.2.2) N
def qX10_unevenNow (N : Nat) (l0 : Nat) : osM UInt64 := osbind (osrecv [8] l0 (qX10_allCenters N l0)) fun x1 => qX10_unevenNow_10 N (l0, x1, (0 : UInt64), (0 : Int32))
set_option maxRecDepth 100000 in
set_option maxHeartbeats 4000000 in
theorem sX10_unevenNow_55 (N : Nat) (l2 : UInt64) : osW (osFinM (fun r : UInt64 => some (.double r)) 0 0) yX10_unevenNow cX10_unevenNow 7 (some .double) [] { frames := 1, cells := 0, slots := 0, locals := 24 } 0 0 55 [(2, .double l2)] [] (qX10_unevenNow_55 N l2) := by
  unfold qX10_unevenNow_55
  refine os_dload_n (i := 2) (q := 2) (v := l2) 0 rfl rfl (hX10_unevenNow.at 33 rfl rfl) ?_
  exact os_dret (Nat.le_of_ble_eq_true rfl) (Nat.le_of_ble_eq_true rfl) (hX10_unevenNow.at 34 rfl rfl).1
set_option maxRecDepth 100000 in
set_option maxHeartbeats 4000000 in
theorem tX10_unevenNow_10 (N : Nat) (c10 : Nat × Int32 × UInt64 × Int32 → osM UInt64) (g10 : ∀ (l0 : Nat) (l1 : Int32) (l2 : UInt64) (l4 : Int32), osW (osFinM (fun r : UInt64 => some (.double r)) 0 0) yX10_unevenNow cX10_unevenNow 7 (some .double) [] { frames := 1, cells := 0, slots := 0, locals := 24 } 0 0 10 [(0, .ref l0), (1, .int l1), (2, .double l2), (4, .int l4)] [] (c10 (l0, l1, l2, l4))) (l0 : Nat) (l1 : Int32) (l2 : UInt64) (l4 : Int32) : osW (osFinM (fun r : UInt64 => some (.double r)) 0 0) yX10_unevenNow cX10_unevenNow 7 (some .double) [] { frames := 1, cells := 0, slots := 0, locals := 24 } 0 0 10 [(0, .ref l0), (1, .int l1), (2, .double l2), (4, .int l4)] [] (bX10_unevenNow_10 N c10 l0 l1 l2 l4) := by
  unfold bX10_unevenNow_10
  refine os_iload (v := l4) 3 rfl (hX10_unevenNow.at 7 rfl rfl) ?_
  refine os_aload_n (i := 0) (q := 0) (v := l0) 0 rfl rfl (hX10_unevenNow.at 8 rfl rfl) ?_
  refine os_getR fX10_7 (hX10_unevenNow.at 9 rfl rfl) (fun x1 => ?_)
  refine os_iconst (i := 1) (v := (1 : Int32)) rfl (hX10_unevenNow.at 10 rfl rfl) ?_
  refine os_iaload (hX10_unevenNow.at 11 rfl rfl) (fun x2 => ?_)
  refine os_icmp_ge (off := 37) (tgt := 55) rfl (hX10_unevenNow.at 12 rfl rfl) ?_ ?_
  · exact osW.sub [2] rfl (sX10_unevenNow_55 N l2)
  · refine os_iload_n (i := 1) (q := 1) (v := l1) 1 rfl rfl (hX10_unevenNow.at 13 rfl rfl) ?_
    refine os_if_le (off := 33) (tgt := 55) rfl (hX10_unevenNow.at 14 rfl rfl) ?_ ?_
    · exact osW.sub [2] rfl (sX10_unevenNow_55 N l2)
    · refine os_aload_n (i := 0) (q := 0) (v := l0) 0 rfl rfl (hX10_unevenNow.at 15 rfl rfl) ?_
      refine os_aload_n (i := 0) (q := 0) (v := l0) 0 rfl rfl (hX10_unevenNow.at 16 rfl rfl) ?_
      refine os_getR fX10_16 (hX10_unevenNow.at 17 rfl rfl) (fun x3 => ?_)
      refine os_iload (v := l4) 3 rfl (hX10_unevenNow.at 18 rfl rfl) ?_
      refine os_callV (cis := [8]) (b := l0) (As := [.ref x3, .int l4]) (st := []) (st' := (fun r => .int r :: [])) sl8_X10_centersOf_X10_centersOf mdX10_centersOf wd1990 wd1992 (sX10_centersOf N l0 x3 l4) rfl rfl (fun _ => rfl) (Nat.le_of_ble_eq_true rfl) (Nat.le_of_ble_eq_true rfl) (Nat.le_of_ble_eq_true rfl) rfl (Nat.le_of_ble_eq_true rfl) rfl (Nat.le_of_ble_eq_true rfl) (hX10_unevenNow.at 19 rfl rfl) (fun x4 => ?_)
      refine os_i2d (hX10_unevenNow.at 20 rfl rfl) ?_
      refine os_iload_n (i := 1) (q := 1) (v := l1) 1 rfl rfl (hX10_unevenNow.at 21 rfl rfl) ?_
      refine os_i2d (hX10_unevenNow.at 22 rfl rfl) ?_
      refine os_guard (fun h5 => ?_)
      refine os_ddiv (osn64_ok h5) (hX10_unevenNow.at 23 rfl rfl) ?_
      refine os_nameD (fun x6 => ?_)
      refine os_dstore (i := 5) (lv' := [(5, .double x6), (0, .ref l0), (1, .int l1), (2, .double l2), (4, .int l4)]) (Nat.le_of_ble_eq_true rfl) rfl (hX10_unevenNow.at 24 rfl rfl) ?_
      refine os_dload_n (i := 2) (q := 2) (v := l2) 3 rfl rfl (hX10_unevenNow.at 25 rfl rfl) ?_
      refine os_dload (v := x6) 0 rfl (hX10_unevenNow.at 26 rfl rfl) ?_
      refine os_dload (v := x6) 0 rfl (hX10_unevenNow.at 27 rfl rfl) ?_
      refine os_guard (fun h7 => ?_)
      refine os_dmul (osn64_ok h7) (hX10_unevenNow.at 28 rfl rfl) ?_
      refine os_guard (fun h8 => ?_)
      refine os_dadd (osn64_ok h8) (hX10_unevenNow.at 29 rfl rfl) ?_
      refine os_nameD (fun x9 => ?_)
      refine os_dstore_n (i := 2) (q := 2) rfl (lv' := [(2, .double x9), (5, .double x6), (0, .ref l0), (1, .int l1), (4, .int l4)]) (Nat.le_of_ble_eq_true rfl) rfl (hX10_unevenNow.at 30 rfl rfl) ?_
      refine os_iinc (i := 4) (d := 1) (x := l4) (v := (1 : Int32)) (lv' := [(4, .int (l4 + (1 : Int32))), (2, .double x9), (5, .double x6), (0, .ref l0), (1, .int l1)]) 4 rfl rfl (Nat.le_of_ble_eq_true rfl) rfl (hX10_unevenNow.at 31 rfl rfl) ?_
      refine os_goto (off := (-42)) (tgt := 10) rfl (hX10_unevenNow.at 32 rfl rfl) ?_
      exact osW.sub [3, 4, 1, 0] rfl (g10 l0 l1 x9 (l4 + (1 : Int32)))
set_option maxRecDepth 100000 in
set_option maxHeartbeats 4000000 in
theorem sX10_unevenNow_10 (N : Nat) (l0 : Nat) (l1 : Int32) (l2 : UInt64) (l4 : Int32) : osW (osFinM (fun r : UInt64 => some (.double r)) 0 0) yX10_unevenNow cX10_unevenNow 7 (some .double) [] { frames := 1, cells := 0, slots := 0, locals := 24 } 0 0 10 [(0, .ref l0), (1, .int l1), (2, .double l2), (4, .int l4)] [] (qX10_unevenNow_10 N (l0, l1, l2, l4)) :=
  osloop_W (lvf := fun p => [(0, .ref p.1), (1, .int p.2.1), (2, .double p.2.2.1), (4, .int p.2.2.2)]) (stf := fun p => []) (fun ih g p => tX10_unevenNow_10 N ih (fun l0 l1 l2 l4 => g (l0, l1, l2, l4)) p.1 p.2.1 p.2.2.1 p.2.2.2) N (l0, l1, l2, l4)
set_option maxRecDepth 100000 in
set_option maxHeartbeats 4000000 in
theorem sX10_unevenNow (N : Nat) (l0 : Nat) : osMet yX10_unevenNow cX10_unevenNow 7 (some .double) 1 24 0 0 (fun r : UInt64 => some (.double r)) [.ref l0] (qX10_unevenNow N l0) := by
  refine osMet.of plX10 (Nat.le_of_ble_eq_true rfl) (osW.rw (lv2 := [(0, .ref l0)]) ?_ rfl rfl rfl)
  unfold qX10_unevenNow
  refine os_aload_n (i := 0) (q := 0) (v := l0) 0 rfl rfl (hX10_unevenNow.at 0 rfl rfl) ?_
  refine os_callV (cis := [8]) (b := l0) (As := []) (st := []) (st' := (fun r => .int r :: [])) sl8_X10_allCenters_X10_allCenters mdX10_allCenters wd2237 wd2239 (sX10_allCenters N l0 ) rfl rfl (fun _ => rfl) (Nat.le_of_ble_eq_true rfl) (Nat.le_of_ble_eq_true rfl) (Nat.le_of_ble_eq_true rfl) rfl (Nat.le_of_ble_eq_true rfl) rfl (Nat.le_of_ble_eq_true rfl) (hX10_unevenNow.at 1 rfl rfl) (fun x1 => ?_)
  refine os_istore_n (i := 1) (q := 1) rfl (lv' := [(1, .int x1), (0, .ref l0)]) (Nat.le_of_ble_eq_true rfl) rfl (hX10_unevenNow.at 2 rfl rfl) ?_
  refine os_dconst0 (hX10_unevenNow.at 3 rfl rfl) ?_
  refine os_dstore_n (i := 2) (q := 2) rfl (lv' := [(2, .double (0 : UInt64)), (1, .int x1), (0, .ref l0)]) (Nat.le_of_ble_eq_true rfl) rfl (hX10_unevenNow.at 4 rfl rfl) ?_
  refine os_iconst (i := 0) (v := (0 : Int32)) rfl (hX10_unevenNow.at 5 rfl rfl) ?_
  refine os_istore (i := 4) (lv' := [(4, .int (0 : Int32)), (2, .double (0 : UInt64)), (1, .int x1), (0, .ref l0)]) (Nat.le_of_ble_eq_true rfl) rfl (hX10_unevenNow.at 6 rfl rfl) ?_
  exact osW.sub [3, 2, 1, 0] rfl (sX10_unevenNow_10 N l0 x1 (0 : UInt64) (0 : Int32))
-- X10_unevenness
def KX10_unevenness : List (Nat × Nat × Instr) := [(0, 1, .aload_n 0), (1, 1, .iconst 0), (2, 3, .putfield 82), (5, 1, .aload_n 0), (6, 3, .invokevirtual 492), (9, 1, .dreturn)]
theorem hX10_unevenness : osDs cX10_unevenness KX10_unevenness := by
  show ∀ q ∈ KX10_unevenness, decode cX10_unevenness q.1 = .ok (q.2.2, q.2.1)
  decide +kernel
def qX10_unevenness (N : Nat) (l0 : Nat) : osM UInt64 := osbind (osput [8] 0 l0 (.int (0 : Int32))) fun _ => osbind (osrecv [8] l0 (qX10_unevenNow N l0)) fun x1 => osret x1
set_option maxRecDepth 100000 in
set_option maxHeartbeats 4000000 in
theorem sX10_unevenness (N : Nat) (l0 : Nat) : osMet yX10_unevenness cX10_unevenness 1 (some .double) 2 50 0 0 (fun r : UInt64 => some (.double r)) [.ref l0] (qX10_unevenness N l0) := by
  refine osMet.of plX10 (Nat.le_of_ble_eq_true rfl) (osW.rw (lv2 := [(0, .ref l0)]) ?_ rfl rfl rfl)
  unfold qX10_unevenness
  refine os_aload_n (i := 0) (q := 0) (v := l0) 0 rfl rfl (hX10_unevenness.at 0 rfl rfl) ?_
  refine os_iconst (i := 0) (v := (0 : Int32)) rfl (hX10_unevenness.at 1 rfl rfl) ?_
  refine os_put fX10_82 rfl rfl (hX10_unevenness.at 2 rfl rfl) ?_
  refine os_aload_n (i := 0) (q := 0) (v := l0) 0 rfl rfl (hX10_unevenness.at 3 rfl rfl) ?_
  refine os_callV (cis := [8]) (b := l0) (As := []) (st := []) (st' := (fun r => .double r :: [])) sl8_X10_unevenNow_X10_unevenNow mdX10_unevenNow wd2250 wd2252 (sX10_unevenNow N l0 ) rfl rfl (fun _ => rfl) (Nat.le_of_ble_eq_true rfl) (Nat.le_of_ble_eq_true rfl) (Nat.le_of_ble_eq_true rfl) rfl (Nat.le_of_ble_eq_true rfl) rfl (Nat.le_of_ble_eq_true rfl) (hX10_unevenness.at 4 rfl rfl) (fun x1 => ?_)
  exact os_dret (Nat.le_of_ble_eq_true rfl) (Nat.le_of_ble_eq_true rfl) (hX10_unevenness.at 5 rfl rfl).1
-- X10_unevennessBits
def KX10_unevennessBits : List (Nat × Nat × Instr) := [(0, 1, .aload_n 0), (1, 1, .iconst 0), (2, 3, .putfield 82), (5, 1, .aload_n 0), (6, 3, .invokevirtual 492), (9, 1, .dstore_n 1), (10, 1, .dload_n 1), (11, 1, .dconst 0), (12, 1, .dcmp .l), (13, 3, .ifCond .ne 5), (16, 1, .lconst 0), (17, 1, .lreturn), (18, 3, .ldc2_w 496), (21, 1, .lstore_n 3), (22, 1, .dload_n 1), (23, 1, .dconst 1), (24, 1, .dcmp .g), (25, 3, .ifCond .ge 16), (28, 1, .dload_n 1), (29, 3, .ldc2_w 498), (32, 1, .dmul), (33, 1, .dstore_n 1), (34, 1, .lload_n 3), (35, 1, .lconst 1), (36, 1, .lsub), (37, 1, .lstore_n 3), (38, 3, .goto (-16)), (41, 1, .lload_n 3), (42, 2, .bipush 52), (44, 1, .lshl), (45, 1, .dload_n 1), (46, 1, .dconst 1), (47, 1, .dsub), (48, 3, .ldc2_w 500), (51, 1, .dmul), (52, 1, .d2l), (53, 1, .lor), (54, 1, .lreturn)]
theorem hX10_unevennessBits : osDs cX10_unevennessBits KX10_unevennessBits := by
  show ∀ q ∈ KX10_unevennessBits, decode cX10_unevennessBits q.1 = .ok (q.2.2, q.2.1)
  decide +kernel
def bX10_unevennessBits_22 (N : Nat) (c22 : UInt64 × Int64 → osM Int64) (l1 : UInt64) (l3 : Int64) : osM Int64 := osite (0 ≤ (Op.cmpValue (FP.dcmp l1 (4607182418800017408 : UInt64)) .g)) (osguard (osn64 (FP.dsub l1 (4607182418800017408 : UInt64))) (osguard (osn64 (FP.dmul (FP.dsub l1 (4607182418800017408 : UInt64)) (4841369599423283200 : UInt64))) (osret ((oslshl l3 (52 : Int32)) ||| (FP.d2l (FP.dmul (FP.dsub l1 (4607182418800017408 : UInt64)) (4841369599423283200 : UInt64))))))) (osguard (osn64 (FP.dmul l1 (4611686018427387904 : UInt64))) (osbind (osret ((FP.dmul l1 (4611686018427387904 : UInt64)) : UInt64)) fun x4 => c22 (x4, (l3 - (1 : Int64)))))
def qX10_unevennessBits_22 (N : Nat) : UInt64 × Int64 → osM Int64 := osloop (fun ih p => bX10_unevennessBits_22 N ih p.1 p.2) N
def qX10_unevennessBits (N : Nat) (l0 : Nat) : osM Int64 := osbind (osput [8] 0 l0 (.int (0 : Int32))) fun _ => osbind (osrecv [8] l0 (qX10_unevenNow N l0)) fun x1 => osite ((Op.cmpValue (FP.dcmp x1 (0 : UInt64)) .l) = 0) (osret (0 : Int64)) (qX10_unevennessBits_22 N (x1, (1023 : Int64)))
set_option maxRecDepth 100000 in
set_option maxHeartbeats 4000000 in
theorem tX10_unevennessBits_22 (N : Nat) (c22 : UInt64 × Int64 → osM Int64) (g22 : ∀ (l1 : UInt64) (l3 : Int64), osW (osFinM (fun r : Int64 => some (.long r)) 0 0) yX10_unevennessBits cX10_unevennessBits 5 (some .long) [] { frames := 2, cells := 0, slots := 0, locals := 50 } 0 0 22 [(1, .double l1), (3, .long l3)] [] (c22 (l1, l3))) (l1 : UInt64) (l3 : Int64) : osW (osFinM (fun r : Int64 => some (.long r)) 0 0) yX10_unevennessBits cX10_unevennessBits 5 (some .long) [] { frames := 2, cells := 0, slots := 0, locals := 50 } 0 0 22 [(1, .double l1), (3, .long l3)] [] (bX10_unevennessBits_22 N c22 l1 l3) := by
  unfold bX10_unevennessBits_22
  refine os_dload_n (i := 1) (q := 1) (v := l1) 0 rfl rfl (hX10_unevennessBits.at 14 rfl rfl) ?_
  refine os_dconst1 (hX10_unevennessBits.at 15 rfl rfl) ?_
  refine os_dcmp (op := .g) (hX10_unevennessBits.at 16 rfl rfl) ?_
  refine os_if_ge (off := 16) (tgt := 41) rfl (hX10_unevennessBits.at 17 rfl rfl) ?_ ?_
  · refine os_lload_n (i := 3) (q := 3) (v := l3) 1 rfl rfl (hX10_unevennessBits.at 27 rfl rfl) ?_
    refine os_bipush (i := 52) (v := (52 : Int32)) rfl (hX10_unevennessBits.at 28 rfl rfl) ?_
    refine os_lshl (hX10_unevennessBits.at 29 rfl rfl) ?_
    refine os_dload_n (i := 1) (q := 1) (v := l1) 0 rfl rfl (hX10_unevennessBits.at 30 rfl rfl) ?_
    refine os_dconst1 (hX10_unevennessBits.at 31 rfl rfl) ?_
    refine os_guard (fun h1 => ?_)
    refine os_dsub (osn64_ok h1) (hX10_unevennessBits.at 32 rfl rfl) ?_
    refine os_ldc2d (v := (4841369599423283200 : UInt64)) wd2260 (hX10_unevennessBits.at 33 rfl rfl) ?_
    refine os_guard (fun h2 => ?_)
    refine os_dmul (osn64_ok h2) (hX10_unevennessBits.at 34 rfl rfl) ?_
    refine os_d2l (hX10_unevennessBits.at 35 rfl rfl) ?_
    refine os_lor (hX10_unevennessBits.at 36 rfl rfl) ?_
    exact os_lret (Nat.le_of_ble_eq_true rfl) (Nat.le_of_ble_eq_true rfl) (hX10_unevennessBits.at 37 rfl rfl).1
  · refine os_dload_n (i := 1) (q := 1) (v := l1) 0 rfl rfl (hX10_unevennessBits.at 18 rfl rfl) ?_
    refine os_ldc2d (v := (4611686018427387904 : UInt64)) wd2259 (hX10_unevennessBits.at 19 rfl rfl) ?_
    refine os_guard (fun h3 => ?_)
    refine os_dmul (osn64_ok h3) (hX10_unevennessBits.at 20 rfl rfl) ?_
    refine os_nameD (fun x4 => ?_)
    refine os_dstore_n (i := 1) (q := 1) rfl (lv' := [(1, .double x4), (3, .long l3)]) (Nat.le_of_ble_eq_true rfl) rfl (hX10_unevennessBits.at 21 rfl rfl) ?_
    refine os_lload_n (i := 3) (q := 3) (v := l3) 1 rfl rfl (hX10_unevennessBits.at 22 rfl rfl) ?_
    refine os_lconst (i := 1) (v := 1) rfl (hX10_unevennessBits.at 23 rfl rfl) ?_
    refine os_lsub (hX10_unevennessBits.at 24 rfl rfl) ?_
    refine os_lstore_n (i := 3) (q := 3) rfl (lv' := [(3, .long (l3 - (1 : Int64))), (1, .double x4)]) (Nat.le_of_ble_eq_true rfl) rfl (hX10_unevennessBits.at 25 rfl rfl) ?_
    refine os_goto (off := (-16)) (tgt := 22) rfl (hX10_unevennessBits.at 26 rfl rfl) ?_
    exact osW.sub [1, 0] rfl (g22 x4 (l3 - (1 : Int64)))
set_option maxRecDepth 100000 in
set_option maxHeartbeats 4000000 in
theorem sX10_unevennessBits_22 (N : Nat) (l1 : UInt64) (l3 : Int64) : osW (osFinM (fun r : Int64 => some (.long r)) 0 0) yX10_unevennessBits cX10_unevennessBits 5 (some .long) [] { frames := 2, cells := 0, slots := 0, locals := 50 } 0 0 22 [(1, .double l1), (3, .long l3)] [] (qX10_unevennessBits_22 N (l1, l3)) :=
  osloop_W (lvf := fun p => [(1, .double p.1), (3, .long p.2)]) (stf := fun p => []) (fun ih g p => tX10_unevennessBits_22 N ih (fun l1 l3 => g (l1, l3)) p.1 p.2) N (l1, l3)
set_option maxRecDepth 100000 in
set_option maxHeartbeats 4000000 in
theorem sX10_unevennessBits (N : Nat) (l0 : Nat) : osMet yX10_unevennessBits cX10_unevennessBits 5 (some .long) 2 50 0 0 (fun r : Int64 => some (.long r)) [.ref l0] (qX10_unevennessBits N l0) := by
  refine osMet.of plX10 (Nat.le_of_ble_eq_true rfl) (osW.rw (lv2 := [(0, .ref l0)]) ?_ rfl rfl rfl)
  unfold qX10_unevennessBits
  refine os_aload_n (i := 0) (q := 0) (v := l0) 0 rfl rfl (hX10_unevennessBits.at 0 rfl rfl) ?_
  refine os_iconst (i := 0) (v := (0 : Int32)) rfl (hX10_unevennessBits.at 1 rfl rfl) ?_
  refine os_put fX10_82 rfl rfl (hX10_unevennessBits.at 2 rfl rfl) ?_
  refine os_aload_n (i := 0) (q := 0) (v := l0) 0 rfl rfl (hX10_unevennessBits.at 3 rfl rfl) ?_
  refine os_callV (cis := [8]) (b := l0) (As := []) (st := []) (st' := (fun r => .double r :: [])) sl8_X10_unevenNow_X10_unevenNow mdX10_unevenNow wd2250 wd2252 (sX10_unevenNow N l0 ) rfl rfl (fun _ => rfl) (Nat.le_of_ble_eq_true rfl) (Nat.le_of_ble_eq_true rfl) (Nat.le_of_ble_eq_true rfl) rfl (Nat.le_of_ble_eq_true rfl) rfl (Nat.le_of_ble_eq_true rfl) (hX10_unevennessBits.at 4 rfl rfl) (fun x1 => ?_)
  refine os_dstore_n (i := 1) (q := 1) rfl (lv' := [(1, .double x1), (0, .ref l0)]) (Nat.le_of_ble_eq_true rfl) rfl (hX10_unevennessBits.at 5 rfl rfl) ?_
  refine os_dload_n (i := 1) (q := 1) (v := x1) 0 rfl rfl (hX10_unevennessBits.at 6 rfl rfl) ?_
  refine os_dconst0 (hX10_unevennessBits.at 7 rfl rfl) ?_
  refine os_dcmp (op := .l) (hX10_unevennessBits.at 8 rfl rfl) ?_
  refine os_if_ne (off := 5) (tgt := 18) rfl (hX10_unevennessBits.at 9 rfl rfl) ?_ ?_
  · refine os_ldc2 (v := (1023 : Int64)) wd2258 (hX10_unevennessBits.at 12 rfl rfl) ?_
    refine os_lstore_n (i := 3) (q := 3) rfl (lv' := [(3, .long (1023 : Int64)), (1, .double x1), (0, .ref l0)]) (Nat.le_of_ble_eq_true rfl) rfl (hX10_unevennessBits.at 13 rfl rfl) ?_
    exact osW.sub [1, 0] rfl (sX10_unevennessBits_22 N x1 (1023 : Int64))
  · refine os_lconst (i := 0) (v := 0) rfl (hX10_unevennessBits.at 10 rfl rfl) ?_
    exact os_lret (Nat.le_of_ble_eq_true rfl) (Nat.le_of_ble_eq_true rfl) (hX10_unevennessBits.at 11 rfl rfl).1
-- X10_isAhead
def KX10_isAhead : List (Nat × Nat × Instr) := [(0, 1, .aload_n 0), (1, 1, .aload_n 0), (2, 3, .getfield 16), (5, 1, .iload_n 1), (6, 3, .invokevirtual 124), (9, 1, .aload_n 0), (10, 1, .aload_n 0), (11, 3, .getfield 16), (14, 1, .iload_n 2), (15, 3, .invokevirtual 124), (18, 1, .isub), (19, 1, .istore_n 3), (20, 1, .iload_n 3), (21, 3, .ifCond .gt 28), (24, 1, .iload_n 3), (25, 3, .ifCond .ne 28), (28, 1, .aload_n 0), (29, 1, .aload_n 0), (30, 3, .getfield 16), (33, 1, .iload_n 1), (34, 3, .invokevirtual 128), (37, 1, .aload_n 0), (38, 1, .aload_n 0), (39, 3, .getfield 16), (42, 1, .iload_n 2), (43, 3, .invokevirtual 128), (46, 3, .if_icmp .le 7), (49, 1, .iconst 1), (50, 3, .goto 4), (53, 1, .iconst 0), (54, 1, .ireturn)]
theorem hX10_isAhead : osDs cX10_isAhead KX10_isAhead := by
  show ∀ q ∈ KX10_isAhead, decode cX10_isAhead q.1 = .ok (q.2.2, q.2.1)
  decide +kernel
def qX10_isAhead_54 (N : Nat) (k0 : Int32) : osM Int32 := osretZ k0
def qX10_isAhead_49 (N : Nat) : osM Int32 := qX10_isAhead_54 N (1 : Int32)
def qX10_isAhead_53 (N : Nat) : osM Int32 := qX10_isAhead_54 N (0 : Int32)
def qX10_isAhead (N : Nat) (l0 : Nat) (l1 : Int32) (l2 : Int32) : osM Int32 := osbind (osgR [8] 3 l0) fun x1 => osbind (osrecv [8] l0 (qX10_centersOf N l0 x1 l1)) fun x2 => osbind (osgR [8] 3 l0) fun x3 => osbind (osrecv [8] l0 (qX10_centersOf N l0 x3 l2)) fun x4 => osite (0 < (x2 - x4)) (qX10_isAhead_49 N ) (osite ((x2 - x4) = 0) (osbind (osgR [8] 3 l0) fun x5 => osbind (osrecv [8] l0 (qX10_unitsOf N l0 x5 l1)) fun x6 => osbind (osgR [8] 3 l0) fun x7 => osbind (osrecv [8] l0 (qX10_unitsOf N l0 x7 l2)) fun x8 => osite (x6 ≤ x8) (qX10_isAhead_53 N ) (qX10_isAhead_49 N )) (qX10_isAhead_53 N ))
set_option maxRecDepth 100000 in
set_option maxHeartbeats 4000000 in
theorem sX10_isAhead_54 (N : Nat) (k0 : Int32) : osW (osFinM (fun r : Int32 => some (.int r)) 0 0) yX10_isAhead cX10_isAhead 4 (some .boolean) [] { frames := 2, cells := 0, slots := 0, locals := 45 } 0 0 54 [] [.int k0] (qX10_isAhead_54 N k0) := by
  unfold qX10_isAhead_54
  exact os_zret (Nat.le_of_ble_eq_true rfl) (Nat.le_of_ble_eq_true rfl) (hX10_isAhead.at 30 rfl rfl).1
set_option maxRecDepth 100000 in
set_option maxHeartbeats 4000000 in
theorem sX10_isAhead_49 (N : Nat) : osW (osFinM (fun r : Int32 => some (.int r)) 0 0) yX10_isAhead cX10_isAhead 4 (some .boolean) [] { frames := 2, cells := 0, slots := 0, locals := 45 } 0 0 49 [] [] (qX10_isAhead_49 N) := by
  unfold qX10_isAhead_49
  refine os_iconst (i := 1) (v := (1 : Int32)) rfl (hX10_isAhead.at 27 rfl rfl) ?_
  refine os_goto (off := 4) (tgt := 54) rfl (hX10_isAhead.at 28 rfl rfl) ?_
  exact osW.sub [] rfl (sX10_isAhead_54 N (1 : Int32))
set_option maxRecDepth 100000 in
set_option maxHeartbeats 4000000 in
theorem sX10_isAhead_53 (N : Nat) : osW (osFinM (fun r : Int32 => some (.int r)) 0 0) yX10_isAhead cX10_isAhead 4 (some .boolean) [] { frames := 2, cells := 0, slots := 0, locals := 45 } 0 0 53 [] [] (qX10_isAhead_53 N) := by
  unfold qX10_isAhead_53
  refine os_iconst (i := 0) (v := (0 : Int32)) rfl (hX10_isAhead.at 29 rfl rfl) ?_
  exact osW.sub [] rfl (sX10_isAhead_54 N (0 : Int32))
set_option maxRecDepth 100000 in
set_option maxHeartbeats 4000000 in
theorem sX10_isAhead (N : Nat) (l0 : Nat) (l1 : Int32) (l2 : Int32) : osMet yX10_isAhead cX10_isAhead 4 (some .boolean) 2 45 0 0 (fun r : Int32 => some (.int r)) [.ref l0, .int l1, .int l2] (qX10_isAhead N l0 l1 l2) := by
  refine osMet.of plX10 (Nat.le_of_ble_eq_true rfl) (osW.rw (lv2 := [(0, .ref l0), (1, .int l1), (2, .int l2)]) ?_ rfl rfl rfl)
  unfold qX10_isAhead
  refine os_aload_n (i := 0) (q := 0) (v := l0) 0 rfl rfl (hX10_isAhead.at 0 rfl rfl) ?_
  refine os_aload_n (i := 0) (q := 0) (v := l0) 0 rfl rfl (hX10_isAhead.at 1 rfl rfl) ?_
  refine os_getR fX10_16 (hX10_isAhead.at 2 rfl rfl) (fun x1 => ?_)
  refine os_iload_n (i := 1) (q := 1) (v := l1) 1 rfl rfl (hX10_isAhead.at 3 rfl rfl) ?_
  refine os_callV (cis := [8]) (b := l0) (As := [.ref x1, .int l1]) (st := []) (st' := (fun r => .int r :: [])) sl8_X10_centersOf_X10_centersOf mdX10_centersOf wd1990 wd1992 (sX10_centersOf N l0 x1 l1) rfl rfl (fun _ => rfl) (Nat.le_of_ble_eq_true rfl) (Nat.le_of_ble_eq_true rfl) (Nat.le_of_ble_eq_true rfl) rfl (Nat.le_of_ble_eq_true rfl) rfl (Nat.le_of_ble_eq_true rfl) (hX10_isAhead.at 4 rfl rfl) (fun x2 => ?_)
  refine os_aload_n (i := 0) (q := 0) (v := l0) 0 rfl rfl (hX10_isAhead.at 5 rfl rfl) ?_
  refine os_aload_n (i := 0) (q := 0) (v := l0) 0 rfl rfl (hX10_isAhead.at 6 rfl rfl) ?_
  refine os_getR fX10_16 (hX10_isAhead.at 7 rfl rfl) (fun x3 => ?_)
  refine os_iload_n (i := 2) (q := 2) (v := l2) 2 rfl rfl (hX10_isAhead.at 8 rfl rfl) ?_
  refine os_callV (cis := [8]) (b := l0) (As := [.ref x3, .int l2]) (st := [.int x2]) (st' := (fun r => .int r :: [.int x2])) sl8_X10_centersOf_X10_centersOf mdX10_centersOf wd1990 wd1992 (sX10_centersOf N l0 x3 l2) rfl rfl (fun _ => rfl) (Nat.le_of_ble_eq_true rfl) (Nat.le_of_ble_eq_true rfl) (Nat.le_of_ble_eq_true rfl) rfl (Nat.le_of_ble_eq_true rfl) rfl (Nat.le_of_ble_eq_true rfl) (hX10_isAhead.at 9 rfl rfl) (fun x4 => ?_)
  refine os_isub (hX10_isAhead.at 10 rfl rfl) ?_
  refine os_istore_n (i := 3) (q := 3) rfl (lv' := [(3, .int (x2 - x4)), (0, .ref l0), (1, .int l1), (2, .int l2)]) (Nat.le_of_ble_eq_true rfl) rfl (hX10_isAhead.at 11 rfl rfl) ?_
  refine os_iload_n (i := 3) (q := 3) (v := (x2 - x4)) 0 rfl rfl (hX10_isAhead.at 12 rfl rfl) ?_
  refine os_if_gt (off := 28) (tgt := 49) rfl (hX10_isAhead.at 13 rfl rfl) ?_ ?_
  · exact osW.sub [] rfl (sX10_isAhead_49 N )
  · refine os_iload_n (i := 3) (q := 3) (v := (x2 - x4)) 0 rfl rfl (hX10_isAhead.at 14 rfl rfl) ?_
    refine os_if_ne (off := 28) (tgt := 53) rfl (hX10_isAhead.at 15 rfl rfl) ?_ ?_
    · exact osW.sub [] rfl (sX10_isAhead_53 N )
    · refine os_aload_n (i := 0) (q := 0) (v := l0) 1 rfl rfl (hX10_isAhead.at 16 rfl rfl) ?_
      refine os_aload_n (i := 0) (q := 0) (v := l0) 1 rfl rfl (hX10_isAhead.at 17 rfl rfl) ?_
      refine os_getR fX10_16 (hX10_isAhead.at 18 rfl rfl) (fun x5 => ?_)
      refine os_iload_n (i := 1) (q := 1) (v := l1) 2 rfl rfl (hX10_isAhead.at 19 rfl rfl) ?_
      refine os_callV (cis := [8]) (b := l0) (As := [.ref x5, .int l1]) (st := []) (st' := (fun r => .int r :: [])) sl8_X10_unitsOf_X10_unitsOf mdX10_unitsOf wd1890 wd1892 (sX10_unitsOf N l0 x5 l1) rfl rfl (fun _ => rfl) (Nat.le_of_ble_eq_true rfl) (Nat.le_of_ble_eq_true rfl) (Nat.le_of_ble_eq_true rfl) rfl (Nat.le_of_ble_eq_true rfl) rfl (Nat.le_of_ble_eq_true rfl) (hX10_isAhead.at 20 rfl rfl) (fun x6 => ?_)
      refine os_aload_n (i := 0) (q := 0) (v := l0) 1 rfl rfl (hX10_isAhead.at 21 rfl rfl) ?_
      refine os_aload_n (i := 0) (q := 0) (v := l0) 1 rfl rfl (hX10_isAhead.at 22 rfl rfl) ?_
      refine os_getR fX10_16 (hX10_isAhead.at 23 rfl rfl) (fun x7 => ?_)
      refine os_iload_n (i := 2) (q := 2) (v := l2) 3 rfl rfl (hX10_isAhead.at 24 rfl rfl) ?_
      refine os_callV (cis := [8]) (b := l0) (As := [.ref x7, .int l2]) (st := [.int x6]) (st' := (fun r => .int r :: [.int x6])) sl8_X10_unitsOf_X10_unitsOf mdX10_unitsOf wd1890 wd1892 (sX10_unitsOf N l0 x7 l2) rfl rfl (fun _ => rfl) (Nat.le_of_ble_eq_true rfl) (Nat.le_of_ble_eq_true rfl) (Nat.le_of_ble_eq_true rfl) rfl (Nat.le_of_ble_eq_true rfl) rfl (Nat.le_of_ble_eq_true rfl) (hX10_isAhead.at 25 rfl rfl) (fun x8 => ?_)
      refine os_icmp_le (off := 7) (tgt := 53) rfl (hX10_isAhead.at 26 rfl rfl) ?_ ?_
      · exact osW.sub [] rfl (sX10_isAhead_53 N )
      · exact osW.sub [] rfl (sX10_isAhead_49 N )
-- X10_leader
def KX10_leader : List (Nat × Nat × Instr) := [(0, 1, .aload_n 0), (1, 1, .aload_n 0), (2, 3, .getfield 7), (5, 1, .iconst 1), (6, 1, .iaload), (7, 3, .ifCond .ne 7), (10, 1, .iconst 1), (11, 3, .goto 4), (14, 1, .iconst 0), (15, 3, .invokevirtual 354), (18, 3, .ifCond .eq 5), (21, 1, .iconst 0), (22, 1, .ireturn), (23, 1, .iconst 0), (24, 1, .istore_n 1), (25, 1, .iconst 1), (26, 1, .istore_n 2), (27, 1, .iload_n 2), (28, 1, .aload_n 0), (29, 3, .getfield 7), (32, 1, .iconst 1), (33, 1, .iaload), (34, 3, .if_icmp .ge 24), (37, 1, .aload_n 0), (38, 1, .iload_n 2), (39, 1, .iload_n 1), (40, 3, .invokevirtual 502), (43, 3, .ifCond .eq 7), (46, 1, .iload_n 2), (47, 3, .goto 4), (50, 1, .iload_n 1), (51, 1, .istore_n 1), (52, 3, .iinc 2 1), (55, 3, .goto (-28)), (58, 1, .iload_n 1), (59, 1, .ireturn)]
theorem hX10_leader : osDs cX10_leader KX10_leader := by
  show ∀ q ∈ KX10_leader, decode cX10_leader q.1 = .ok (q.2.2, q.2.1)
  decide +kernel
def qX10_leader_51 (N : Nat) (c27 : Nat × Int32 × Int32 → osM Int32) (l0 : Nat) (l2 : Int32) (k0 : Int32) : osM Int32 := c27 (l0, k0, (l2 + (1 : Int32)))
def bX10_leader_27 (N : Nat) (c27 : Nat × Int32 × Int32 → osM Int32) (l0 : Nat) (l1 : Int32) (l2 : Int32) : osM Int32 := osbind (osgR [8] 1 l0) fun x1 => osbind (osaI 0 x1 (1 : Int32)) fun x2 => osite (x2 ≤ l2) (osret l1) (osbind (osrecv [8] l0 (qX10_isAhead N l0 l2 l1)) fun x3 => osite (x3 = 0) (qX10_leader_51 N c27 l0 l2 l1) (qX10_leader_51 N c27 l0 l2 l2))
def qX10_leader_27 (N : Nat) : Nat × Int32 × Int32 → osM Int32 := osloop (fun ih p => bX10_leader_27 N ih p.1 p.2.1 p.2.2) N
def qX10_leader_15 (N : Nat) (l0 : Nat) (k0 : Int32) (k1 : Nat) : osM Int32 := osbind (osrecv [8] k1 (qX10_isRefused N k1 k0)) fun x1 => osite (x1 = 0) (qX10_leader_27 N (l0, (0 : Int32), (1 : Int32))) (osret (0 : Int32))
def qX10_leader (N : Nat) (l0 : Nat) : osM Int32 := osbind (osgR [8] 1 l0) fun x1 => osbind (osaI 0 x1 (1 : Int32)) fun x2 => osite (x2 = 0) (qX10_leader_15 N l0 (1 : Int32) l0) (qX10_leader_15 N l0 (0 : Int32) l0)
set_option maxRecDepth 100000 in
set_option maxHeartbeats 4000000 in
theorem sX10_leader_51 (N : Nat) (c27 : Nat × Int32 × Int32 → osM Int32) (g27 : ∀ (l0 : Nat) (l1 : Int32) (l2 : Int32), osW (osFinM (fun r : Int32 => some (.int r)) 0 0) yX10_leader cX10_leader 3 (some .int) [] { frames := 3, cells := 0, slots := 0, locals := 68 } 0 0 27 [(0, .ref l0), (1, .int l1), (2, .int l2)] [] (c27 (l0, l1, l2))) (l0 : Nat) (l2 : Int32) (k0 : Int32) : osW (osFinM (fun r : Int32 => some (.int r)) 0 0) yX10_leader cX10_leader 3 (some .int) [] { frames := 3, cells := 0, slots := 0, locals := 68 } 0 0 51 [(0, .ref l0), (2, .int l2)] [.int k0] (qX10_leader_51 N c27 l0 l2 k0) := by
  unfold qX10_leader_51
  refine os_istore_n (i := 1) (q := 1) rfl (lv' := [(1, .int k0), (0, .ref l0), (2, .int l2)]) (Nat.le_of_ble_eq_true rfl) rfl (hX10_leader.at 31 rfl rfl) ?_
  refine os_iinc (i := 2) (d := 1) (x := l2) (v := (1 : Int32)) (lv' := [(2, .int (l2 + (1 : Int32))), (1, .int k0), (0, .ref l0)]) 2 rfl rfl (Nat.le_of_ble_eq_true rfl) rfl (hX10_leader.at 32 rfl rfl) ?_
  refine os_goto (off := (-28)) (tgt := 27) rfl (hX10_leader.at 33 rfl rfl) ?_
  exact osW.sub [2, 1, 0] rfl (g27 l0 k0 (l2 + (1 : Int32)))
set_option maxRecDepth 100000 in
set_option maxHeartbeats 4000000 in
theorem tX10_leader_27 (N : Nat) (c27 : Nat × Int32 × Int32 → osM Int32) (g27 : ∀ (l0 : Nat) (l1 : Int32) (l2 : Int32), osW (osFinM (fun r : Int32 => some (.int r)) 0 0) yX10_leader cX10_leader 3 (some .int) [] { frames := 3, cells := 0, slots := 0, locals := 68 } 0 0 27 [(0, .ref l0), (1, .int l1), (2, .int l2)] [] (c27 (l0, l1, l2))) (l0 : Nat) (l1 : Int32) (l2 : Int32) : osW (osFinM (fun r : Int32 => some (.int r)) 0 0) yX10_leader cX10_leader 3 (some .int) [] { frames := 3, cells := 0, slots := 0, locals := 68 } 0 0 27 [(0, .ref l0), (1, .int l1), (2, .int l2)] [] (bX10_leader_27 N c27 l0 l1 l2) := by
  unfold bX10_leader_27
  refine os_iload_n (i := 2) (q := 2) (v := l2) 2 rfl rfl (hX10_leader.at 17 rfl rfl) ?_
  refine os_aload_n (i := 0) (q := 0) (v := l0) 0 rfl rfl (hX10_leader.at 18 rfl rfl) ?_
  refine os_getR fX10_7 (hX10_leader.at 19 rfl rfl) (fun x1 => ?_)
  refine os_iconst (i := 1) (v := (1 : Int32)) rfl (hX10_leader.at 20 rfl rfl) ?_
  refine os_iaload (hX10_leader.at 21 rfl rfl) (fun x2 => ?_)
  refine os_icmp_ge (off := 24) (tgt := 58) rfl (hX10_leader.at 22 rfl rfl) ?_ ?_
  · refine os_iload_n (i := 1) (q := 1) (v := l1) 1 rfl rfl (hX10_leader.at 34 rfl rfl) ?_
    exact os_iret (Nat.le_of_ble_eq_true rfl) (Nat.le_of_ble_eq_true rfl) (hX10_leader.at 35 rfl rfl).1
  · refine os_aload_n (i := 0) (q := 0) (v := l0) 0 rfl rfl (hX10_leader.at 23 rfl rfl) ?_
    refine os_iload_n (i := 2) (q := 2) (v := l2) 2 rfl rfl (hX10_leader.at 24 rfl rfl) ?_
    refine os_iload_n (i := 1) (q := 1) (v := l1) 1 rfl rfl (hX10_leader.at 25 rfl rfl) ?_
    refine os_callV (cis := [8]) (b := l0) (As := [.int l2, .int l1]) (st := []) (st' := (fun r => .int r :: [])) sl8_X10_isAhead_X10_isAhead mdX10_isAhead wd2265 wd2267 (sX10_isAhead N l0 l2 l1) rfl rfl (fun _ => rfl) (Nat.le_of_ble_eq_true rfl) (Nat.le_of_ble_eq_true rfl) (Nat.le_of_ble_eq_true rfl) rfl (Nat.le_of_ble_eq_true rfl) rfl (Nat.le_of_ble_eq_true rfl) (hX10_leader.at 26 rfl rfl) (fun x3 => ?_)
    refine os_if_eq (off := 7) (tgt := 50) rfl (hX10_leader.at 27 rfl rfl) ?_ ?_
    · refine os_iload_n (i := 1) (q := 1) (v := l1) 1 rfl rfl (hX10_leader.at 30 rfl rfl) ?_
      exact osW.sub [0, 2] rfl (sX10_leader_51 N c27 g27 l0 l2 l1)
    · refine os_iload_n (i := 2) (q := 2) (v := l2) 2 rfl rfl (hX10_leader.at 28 rfl rfl) ?_
      refine os_goto (off := 4) (tgt := 51) rfl (hX10_leader.at 29 rfl rfl) ?_
      exact osW.sub [0, 2] rfl (sX10_leader_51 N c27 g27 l0 l2 l2)
set_option maxRecDepth 100000 in
set_option maxHeartbeats 4000000 in
theorem sX10_leader_27 (N : Nat) (l0 : Nat) (l1 : Int32) (l2 : Int32) : osW (osFinM (fun r : Int32 => some (.int r)) 0 0) yX10_leader cX10_leader 3 (some .int) [] { frames := 3, cells := 0, slots := 0, locals := 68 } 0 0 27 [(0, .ref l0), (1, .int l1), (2, .int l2)] [] (qX10_leader_27 N (l0, l1, l2)) :=
  osloop_W (lvf := fun p => [(0, .ref p.1), (1, .int p.2.1), (2, .int p.2.2)]) (stf := fun p => []) (fun ih g p => tX10_leader_27 N ih (fun l0 l1 l2 => g (l0, l1, l2)) p.1 p.2.1 p.2.2) N (l0, l1, l2)
set_option maxRecDepth 100000 in
set_option maxHeartbeats 4000000 in
theorem sX10_leader_15 (N : Nat) (l0 : Nat) (k0 : Int32) (k1 : Nat) : osW (osFinM (fun r : Int32 => some (.int r)) 0 0) yX10_leader cX10_leader 3 (some .int) [] { frames := 3, cells := 0, slots := 0, locals := 68 } 0 0 15 [(0, .ref l0)] [.int k0, .ref k1] (qX10_leader_15 N l0 k0 k1) := by
  unfold qX10_leader_15
  refine os_callV (cis := [8]) (b := k1) (As := [.int k0]) (st := []) (st' := (fun r => .int r :: [])) sl8_X10_isRefused_X10_isRefused mdX10_isRefused wd2017 wd2019 (sX10_isRefused N k1 k0) rfl rfl (fun _ => rfl) (Nat.le_of_ble_eq_true rfl) (Nat.le_of_ble_eq_true rfl) (Nat.le_of_ble_eq_true rfl) rfl (Nat.le_of_ble_eq_true rfl) rfl (Nat.le_of_ble_eq_true rfl) (hX10_leader.at 9 rfl rfl) (fun x1 => ?_)
  refine os_if_eq (off := 5) (tgt := 23) rfl (hX10_leader.at 10 rfl rfl) ?_ ?_
  · refine os_iconst (i := 0) (v := (0 : Int32)) rfl (hX10_leader.at 13 rfl rfl) ?_
    refine os_istore_n (i := 1) (q := 1) rfl (lv' := [(1, .int (0 : Int32)), (0, .ref l0)]) (Nat.le_of_ble_eq_true rfl) rfl (hX10_leader.at 14 rfl rfl) ?_
    refine os_iconst (i := 1) (v := (1 : Int32)) rfl (hX10_leader.at 15 rfl rfl) ?_
    refine os_istore_n (i := 2) (q := 2) rfl (lv' := [(2, .int (1 : Int32)), (1, .int (0 : Int32)), (0, .ref l0)]) (Nat.le_of_ble_eq_true rfl) rfl (hX10_leader.at 16 rfl rfl) ?_
    exact osW.sub [2, 1, 0] rfl (sX10_leader_27 N l0 (0 : Int32) (1 : Int32))
  · refine os_iconst (i := 0) (v := (0 : Int32)) rfl (hX10_leader.at 11 rfl rfl) ?_
    exact os_iret (Nat.le_of_ble_eq_true rfl) (Nat.le_of_ble_eq_true rfl) (hX10_leader.at 12 rfl rfl).1
set_option maxRecDepth 100000 in
set_option maxHeartbeats 4000000 in
theorem sX10_leader (N : Nat) (l0 : Nat) : osMet yX10_leader cX10_leader 3 (some .int) 3 68 0 0 (fun r : Int32 => some (.int r)) [.ref l0] (qX10_leader N l0) := by
  refine osMet.of plX10 (Nat.le_of_ble_eq_true rfl) (osW.rw (lv2 := [(0, .ref l0)]) ?_ rfl rfl rfl)
  unfold qX10_leader
  refine os_aload_n (i := 0) (q := 0) (v := l0) 0 rfl rfl (hX10_leader.at 0 rfl rfl) ?_
  refine os_aload_n (i := 0) (q := 0) (v := l0) 0 rfl rfl (hX10_leader.at 1 rfl rfl) ?_
  refine os_getR fX10_7 (hX10_leader.at 2 rfl rfl) (fun x1 => ?_)
  refine os_iconst (i := 1) (v := (1 : Int32)) rfl (hX10_leader.at 3 rfl rfl) ?_
  refine os_iaload (hX10_leader.at 4 rfl rfl) (fun x2 => ?_)
  refine os_if_ne (off := 7) (tgt := 14) rfl (hX10_leader.at 5 rfl rfl) ?_ ?_
  · refine os_iconst (i := 0) (v := (0 : Int32)) rfl (hX10_leader.at 8 rfl rfl) ?_
    exact osW.sub [0] rfl (sX10_leader_15 N l0 (0 : Int32) l0)
  · refine os_iconst (i := 1) (v := (1 : Int32)) rfl (hX10_leader.at 6 rfl rfl) ?_
    refine os_goto (off := 4) (tgt := 15) rfl (hX10_leader.at 7 rfl rfl) ?_
    exact osW.sub [0] rfl (sX10_leader_15 N l0 (1 : Int32) l0)
-- X10_writes
def KX10_writes : List (Nat × Nat × Instr) := [(0, 1, .aload_n 0), (1, 3, .getfield 73), (4, 1, .aload_n 0), (5, 3, .getfield 505), (8, 1, .iload_n 1), (9, 1, .iastore), (10, 1, .aload_n 0), (11, 1, .aload_n 0), (12, 3, .getfield 505), (15, 1, .iconst 1), (16, 1, .iadd), (17, 3, .putfield 505), (20, 1, .return_)]
theorem hX10_writes : osDs cX10_writes KX10_writes := by
  show ∀ q ∈ KX10_writes, decode cX10_writes q.1 = .ok (q.2.2, q.2.1)
  decide +kernel
def qX10_writes (N : Nat) (l0 : Nat) (l1 : Int32) : osM Unit := osbind (osgR [8] 41 l0) fun x1 => osbind (osgI [8] 42 l0) fun x2 => osbind (ossI 0 x1 x2 l1) fun _ => osbind (osgI [8] 42 l0) fun x3 => osbind (osput [8] 42 l0 (.int (x3 + (1 : Int32)))) fun _ => osret ()
set_option maxRecDepth 100000 in
set_option maxHeartbeats 4000000 in
theorem sX10_writes (N : Nat) (l0 : Nat) (l1 : Int32) : osMet yX10_writes cX10_writes 2 none 0 0 0 0 (fun _ : Unit => none) [.ref l0, .int l1] (qX10_writes N l0 l1) := by
  refine osMet.of plX10 (Nat.le_of_ble_eq_true rfl) (osW.rw (lv2 := [(0, .ref l0), (1, .int l1)]) ?_ rfl rfl rfl)
  unfold qX10_writes
  refine os_aload_n (i := 0) (q := 0) (v := l0) 0 rfl rfl (hX10_writes.at 0 rfl rfl) ?_
  refine os_getR fX10_73 (hX10_writes.at 1 rfl rfl) (fun x1 => ?_)
  refine os_aload_n (i := 0) (q := 0) (v := l0) 0 rfl rfl (hX10_writes.at 2 rfl rfl) ?_
  refine os_getI fX10_505 (hX10_writes.at 3 rfl rfl) (fun x2 => ?_)
  refine os_iload_n (i := 1) (q := 1) (v := l1) 1 rfl rfl (hX10_writes.at 4 rfl rfl) ?_
  refine os_iastore (hX10_writes.at 5 rfl rfl) ?_
  refine os_aload_n (i := 0) (q := 0) (v := l0) 0 rfl rfl (hX10_writes.at 6 rfl rfl) ?_
  refine os_aload_n (i := 0) (q := 0) (v := l0) 0 rfl rfl (hX10_writes.at 7 rfl rfl) ?_
  refine os_getI fX10_505 (hX10_writes.at 8 rfl rfl) (fun x3 => ?_)
  refine os_iconst (i := 1) (v := (1 : Int32)) rfl (hX10_writes.at 9 rfl rfl) ?_
  refine os_iadd (hX10_writes.at 10 rfl rfl) ?_
  refine os_put fX10_505 rfl rfl (hX10_writes.at 11 rfl rfl) ?_
  exact os_vret (Nat.le_of_ble_eq_true rfl) (Nat.le_of_ble_eq_true rfl) (hX10_writes.at 12 rfl rfl).1
-- X10_writesWord
def KX10_writesWord : List (Nat × Nat × Instr) := [(0, 2, .bipush 35), (2, 1, .istore_n 3), (3, 1, .iload_n 3), (4, 3, .ifCond .lt 34), (7, 1, .lload_n 1), (8, 1, .iload_n 3), (9, 1, .lshr), (10, 3, .ldc2_w 508), (13, 1, .land), (14, 1, .l2i), (15, 2, .istore 4), (17, 2, .iload 4), (19, 3, .ifCond .le 12), (22, 1, .aload_n 0), (23, 2, .bipush 96), (25, 2, .iload 4), (27, 1, .iadd), (28, 3, .invokevirtual 510), (31, 1, .iload_n 3), (32, 1, .iconst 5), (33, 1, .isub), (34, 1, .istore_n 3), (35, 3, .goto (-32)), (38, 1, .return_)]
theorem hX10_writesWord : osDs cX10_writesWord KX10_writesWord := by
  show ∀ q ∈ KX10_writesWord, decode cX10_writesWord q.1 = .ok (q.2.2, q.2.1)
  decide +kernel
def qX10_writesWord_31 (N : Nat) (c3 : Nat × Int64 × Int32 → osM Unit) (l0 : Nat) (l1 : Int64) (l3 : Int32) : osM Unit := c3 (l0, l1, (l3 - (5 : Int32)))
def bX10_writesWord_3 (N : Nat) (c3 : Nat × Int64 × Int32 → osM Unit) (l0 : Nat) (l1 : Int64) (l3 : Int32) : osM Unit := osite (l3 < 0) (osret ()) (osbind (osret ((((oslshr l1 l3) &&& (31 : Int64)).toInt32) : Int32)) fun x1 => osite (x1 ≤ 0) (qX10_writesWord_31 N c3 l0 l1 l3) (osbind (osrecv [8] l0 (qX10_writes N l0 ((96 : Int32) + x1))) fun _ => qX10_writesWord_31 N c3 l0 l1 l3))
def qX10_writesWord_3 (N : Nat) : Nat × Int64 × Int32 → osM Unit := osloop (fun ih p => bX10_writesWord_3 N ih p.1 p.2.1 p.2.2) N
def qX10_writesWord (N : Nat) (l0 : Nat) (l1 : Int64) : osM Unit := qX10_writesWord_3 N (l0, l1, (35 : Int32))
set_option maxRecDepth 100000 in
set_option maxHeartbeats 4000000 in
theorem sX10_writesWord_31 (N : Nat) (c3 : Nat × Int64 × Int32 → osM Unit) (g3 : ∀ (l0 : Nat) (l1 : Int64) (l3 : Int32), osW (osFinM (fun _ : Unit => none) 0 0) yX10_writesWord cX10_writesWord 5 none [] { frames := 1, cells := 0, slots := 0, locals := 21 } 0 0 3 [(0, .ref l0), (1, .long l1), (3, .int l3)] [] (c3 (l0, l1, l3))) (l0 : Nat) (l1 : Int64) (l3 : Int32) : osW (osFinM (fun _ : Unit => none) 0 0) yX10_writesWord cX10_writesWord 5 none [] { frames := 1, cells := 0, slots := 0, locals := 21 } 0 0 31 [(0, .ref l0), (1, .long l1), (3, .int l3)] [] (qX10_writesWord_31 N c3 l0 l1 l3) := by
  unfold qX10_writesWord_31
  refine os_iload_n (i := 3) (q := 3) (v := l3) 2 rfl rfl (hX10_writesWord.at 18 rfl rfl) ?_
  refine os_iconst (i := 5) (v := (5 : Int32)) rfl (hX10_writesWord.at 19 rfl rfl) ?_
  refine os_isub (hX10_writesWord.at 20 rfl rfl) ?_
  refine os_istore_n (i := 3) (q := 3) rfl (lv' := [(3, .int (l3 - (5 : Int32))), (0, .ref l0), (1, .long l1)]) (Nat.le_of_ble_eq_true rfl) rfl (hX10_writesWord.at 21 rfl rfl) ?_
  refine os_goto (off := (-32)) (tgt := 3) rfl (hX10_writesWord.at 22 rfl rfl) ?_
  exact osW.sub [1, 2, 0] rfl (g3 l0 l1 (l3 - (5 : Int32)))
set_option maxRecDepth 100000 in
set_option maxHeartbeats 4000000 in
theorem tX10_writesWord_3 (N : Nat) (c3 : Nat × Int64 × Int32 → osM Unit) (g3 : ∀ (l0 : Nat) (l1 : Int64) (l3 : Int32), osW (osFinM (fun _ : Unit => none) 0 0) yX10_writesWord cX10_writesWord 5 none [] { frames := 1, cells := 0, slots := 0, locals := 21 } 0 0 3 [(0, .ref l0), (1, .long l1), (3, .int l3)] [] (c3 (l0, l1, l3))) (l0 : Nat) (l1 : Int64) (l3 : Int32) : osW (osFinM (fun _ : Unit => none) 0 0) yX10_writesWord cX10_writesWord 5 none [] { frames := 1, cells := 0, slots := 0, locals := 21 } 0 0 3 [(0, .ref l0), (1, .long l1), (3, .int l3)] [] (bX10_writesWord_3 N c3 l0 l1 l3) := by
  unfold bX10_writesWord_3
  refine os_iload_n (i := 3) (q := 3) (v := l3) 2 rfl rfl (hX10_writesWord.at 2 rfl rfl) ?_
  refine os_if_lt (off := 34) (tgt := 38) rfl (hX10_writesWord.at 3 rfl rfl) ?_ ?_
  · exact os_vret (Nat.le_of_ble_eq_true rfl) (Nat.le_of_ble_eq_true rfl) (hX10_writesWord.at 23 rfl rfl).1
  · refine os_lload_n (i := 1) (q := 1) (v := l1) 1 rfl rfl (hX10_writesWord.at 4 rfl rfl) ?_
    refine os_iload_n (i := 3) (q := 3) (v := l3) 2 rfl rfl (hX10_writesWord.at 5 rfl rfl) ?_
    refine os_lshr (hX10_writesWord.at 6 rfl rfl) ?_
    refine os_ldc2 (v := (31 : Int64)) wd2277 (hX10_writesWord.at 7 rfl rfl) ?_
    refine os_land (hX10_writesWord.at 8 rfl rfl) ?_
    refine os_l2i (hX10_writesWord.at 9 rfl rfl) ?_
    refine os_nameI (fun x1 => ?_)
    refine os_istore (i := 4) (lv' := [(4, .int x1), (0, .ref l0), (1, .long l1), (3, .int l3)]) (Nat.le_of_ble_eq_true rfl) rfl (hX10_writesWord.at 10 rfl rfl) ?_
    refine os_iload (v := x1) 0 rfl (hX10_writesWord.at 11 rfl rfl) ?_
    refine os_if_le (off := 12) (tgt := 31) rfl (hX10_writesWord.at 12 rfl rfl) ?_ ?_
    · exact osW.sub [1, 2, 3] rfl (sX10_writesWord_31 N c3 g3 l0 l1 l3)
    · refine os_aload_n (i := 0) (q := 0) (v := l0) 1 rfl rfl (hX10_writesWord.at 13 rfl rfl) ?_
      refine os_bipush (i := 96) (v := (96 : Int32)) rfl (hX10_writesWord.at 14 rfl rfl) ?_
      refine os_iload (v := x1) 0 rfl (hX10_writesWord.at 15 rfl rfl) ?_
      refine os_iadd (hX10_writesWord.at 16 rfl rfl) ?_
      refine os_callV (cis := [8]) (b := l0) (As := [.int ((96 : Int32) + x1)]) (st := []) (st' := (fun _ => [])) sl8_X10_writes_X10_writes mdX10_writes wd2278 wd2280 (sX10_writes N l0 ((96 : Int32) + x1)) rfl rfl (fun _ => rfl) (Nat.le_of_ble_eq_true rfl) (Nat.le_of_ble_eq_true rfl) (Nat.le_of_ble_eq_true rfl) rfl (Nat.le_of_ble_eq_true rfl) rfl (Nat.le_of_ble_eq_true rfl) (hX10_writesWord.at 17 rfl rfl) (fun _ => ?_)
      exact osW.sub [1, 2, 3] rfl (sX10_writesWord_31 N c3 g3 l0 l1 l3)
set_option maxRecDepth 100000 in
set_option maxHeartbeats 4000000 in
theorem sX10_writesWord_3 (N : Nat) (l0 : Nat) (l1 : Int64) (l3 : Int32) : osW (osFinM (fun _ : Unit => none) 0 0) yX10_writesWord cX10_writesWord 5 none [] { frames := 1, cells := 0, slots := 0, locals := 21 } 0 0 3 [(0, .ref l0), (1, .long l1), (3, .int l3)] [] (qX10_writesWord_3 N (l0, l1, l3)) :=
  osloop_W (lvf := fun p => [(0, .ref p.1), (1, .long p.2.1), (3, .int p.2.2)]) (stf := fun p => []) (fun ih g p => tX10_writesWord_3 N ih (fun l0 l1 l3 => g (l0, l1, l3)) p.1 p.2.1 p.2.2) N (l0, l1, l3)
set_option maxRecDepth 100000 in
set_option maxHeartbeats 4000000 in
theorem sX10_writesWord (N : Nat) (l0 : Nat) (l1 : Int64) : osMet yX10_writesWord cX10_writesWord 5 none 1 21 0 0 (fun _ : Unit => none) [.ref l0, .long l1] (qX10_writesWord N l0 l1) := by
  refine osMet.of plX10 (Nat.le_of_ble_eq_true rfl) (osW.rw (lv2 := [(0, .ref l0), (1, .long l1)]) ?_ rfl rfl rfl)
  unfold qX10_writesWord
  refine os_bipush (i := 35) (v := (35 : Int32)) rfl (hX10_writesWord.at 0 rfl rfl) ?_
  refine os_istore_n (i := 3) (q := 3) rfl (lv' := [(3, .int (35 : Int32)), (0, .ref l0), (1, .long l1)]) (Nat.le_of_ble_eq_true rfl) rfl (hX10_writesWord.at 1 rfl rfl) ?_
  exact osW.sub [1, 2, 0] rfl (sX10_writesWord_3 N l0 l1 (35 : Int32))
-- X10_writesNext
def KX10_writesNext : List (Nat × Nat × Instr) := [(0, 1, .aload_n 0), (1, 2, .bipush 32), (3, 3, .invokevirtual 510), (6, 1, .aload_n 0), (7, 1, .lload_n 1), (8, 3, .invokevirtual 513), (11, 1, .return_)]
theorem hX10_writesNext : osDs cX10_writesNext KX10_writesNext := by
  show ∀ q ∈ KX10_writesNext, decode cX10_writesNext q.1 = .ok (q.2.2, q.2.1)
  decide +kernel
def qX10_writesNext (N : Nat) (l0 : Nat) (l1 : Int64) : osM Unit := osbind (osrecv [8] l0 (qX10_writes N l0 (32 : Int32))) fun _ => osbind (osrecv [8] l0 (qX10_writesWord N l0 l1)) fun _ => osret ()
set_option maxRecDepth 100000 in
set_option maxHeartbeats 4000000 in
theorem sX10_writesNext (N : Nat) (l0 : Nat) (l1 : Int64) : osMet yX10_writesNext cX10_writesNext 3 none 2 45 0 0 (fun _ : Unit => none) [.ref l0, .long l1] (qX10_writesNext N l0 l1) := by
  refine osMet.of plX10 (Nat.le_of_ble_eq_true rfl) (osW.rw (lv2 := [(0, .ref l0), (1, .long l1)]) ?_ rfl rfl rfl)
  unfold qX10_writesNext
  refine os_aload_n (i := 0) (q := 0) (v := l0) 0 rfl rfl (hX10_writesNext.at 0 rfl rfl) ?_
  refine os_bipush (i := 32) (v := (32 : Int32)) rfl (hX10_writesNext.at 1 rfl rfl) ?_
  refine os_callV (cis := [8]) (b := l0) (As := [.int (32 : Int32)]) (st := []) (st' := (fun _ => [])) sl8_X10_writes_X10_writes mdX10_writes wd2278 wd2280 (sX10_writes N l0 (32 : Int32)) rfl rfl (fun _ => rfl) (Nat.le_of_ble_eq_true rfl) (Nat.le_of_ble_eq_true rfl) (Nat.le_of_ble_eq_true rfl) rfl (Nat.le_of_ble_eq_true rfl) rfl (Nat.le_of_ble_eq_true rfl) (hX10_writesNext.at 2 rfl rfl) (fun _ => ?_)
  refine os_aload_n (i := 0) (q := 0) (v := l0) 0 rfl rfl (hX10_writesNext.at 3 rfl rfl) ?_
  refine os_lload_n (i := 1) (q := 1) (v := l1) 1 rfl rfl (hX10_writesNext.at 4 rfl rfl) ?_
  refine os_callV (cis := [8]) (b := l0) (As := [.long l1]) (st := []) (st' := (fun _ => [])) sl8_X10_writesWord_X10_writesWord mdX10_writesWord wd2273 wd2275 (sX10_writesWord N l0 l1) rfl rfl (fun _ => rfl) (Nat.le_of_ble_eq_true rfl) (Nat.le_of_ble_eq_true rfl) (Nat.le_of_ble_eq_true rfl) rfl (Nat.le_of_ble_eq_true rfl) rfl (Nat.le_of_ble_eq_true rfl) (hX10_writesNext.at 5 rfl rfl) (fun _ => ?_)
  exact os_vret (Nat.le_of_ble_eq_true rfl) (Nat.le_of_ble_eq_true rfl) (hX10_writesNext.at 6 rfl rfl).1
-- X10_writeUnits
def KX10_writeUnits : List (Nat × Nat × Instr) := [(0, 1, .aload_n 0), (1, 1, .iconst 0), (2, 3, .putfield 82), (5, 1, .aload_n 0), (6, 1, .iconst 0), (7, 3, .putfield 505), (10, 1, .iconst 0), (11, 1, .istore_n 1), (12, 1, .iload_n 1), (13, 1, .aload_n 0), (14, 3, .getfield 7), (17, 1, .iconst 0), (18, 1, .iaload), (19, 3, .if_icmp .ge 89), (22, 1, .aload_n 0), (23, 3, .getfield 16), (26, 1, .iload_n 1), (27, 3, .invokestatic 103), (30, 3, .ifCond .ne 6), (33, 3, .goto 69), (36, 1, .aload_n 0), (37, 1, .aload_n 0), (38, 3, .getfield 25), (41, 2, .bipush 16), (43, 1, .aload_n 0), (44, 3, .getfield 16), (47, 2, .bipush 21), (49, 1, .iload_n 1), (50, 1, .iadd), (51, 1, .iaload), (52, 1, .iadd), (53, 1, .laload), (54, 3, .invokevirtual 513), (57, 1, .aload_n 0), (58, 2, .bipush 32), (60, 3, .invokevirtual 510), (63, 1, .aload_n 0), (64, 1, .aload_n 0), (65, 3, .getfield 16), (68, 2, .bipush 37), (70, 1, .iload_n 1), (71, 1, .iadd), (72, 1, .iaload), (73, 3, .ifCond .ne 8), (76, 2, .bipush 65), (78, 3, .goto 5), (81, 2, .bipush 70), (83, 3, .invokevirtual 510), (86, 1, .aload_n 0), (87, 1, .aload_n 0), (88, 3, .getfield 25), (91, 1, .iload_n 1), (92, 1, .laload), (93, 3, .invokevirtual 517), (96, 1, .aload_n 0), (97, 2, .bipush 10), (99, 3, .invokevirtual 510), (102, 3, .iinc 1 1), (105, 3, .goto (-93)), (108, 1, .aload_n 0), (109, 3, .getfield 505), (112, 1, .ireturn)]
theorem hX10_writeUnits : osDs cX10_writeUnits KX10_writeUnits := by
  show ∀ q ∈ KX10_writeUnits, decode cX10_writeUnits q.1 = .ok (q.2.2, q.2.1)
  decide +kernel
def qX10_writeUnits_102 (N : Nat) (c12 : Nat × Int32 → osM Int32) (l0 : Nat) (l1 : Int32) : osM Int32 := c12 (l0, (l1 + (1 : Int32)))
def qX10_writeUnits_83 (N : Nat) (c12 : Nat × Int32 → osM Int32) (l0 : Nat) (l1 : Int32) (k0 : Int32) (k1 : Nat) : osM Int32 := osbind (osrecv [8] k1 (qX10_writes N k1 k0)) fun _ => osbind (osgR [8] 6 l0) fun x1 => osbind (osaJ 2 x1 l1) fun x2 => osbind (osrecv [8] l0 (qX10_writesNext N l0 x2)) fun _ => osbind (osrecv [8] l0 (qX10_writes N l0 (10 : Int32))) fun _ => qX10_writeUnits_102 N c12 l0 l1
def bX10_writeUnits_12 (N : Nat) (c12 : Nat × Int32 → osM Int32) (l0 : Nat) (l1 : Int32) : osM Int32 := osbind (osgR [8] 1 l0) fun x1 => osbind (osaI 0 x1 (0 : Int32)) fun x2 => osite (x2 ≤ l1) (osbind (osgI [8] 42 l0) fun x3 => osret x3) (osbind (osgR [8] 3 l0) fun x4 => osbind (qX10_isUnit N x4 l1) fun x5 => osite (x5 = 0) (qX10_writeUnits_102 N c12 l0 l1) (osbind (osgR [8] 6 l0) fun x6 => osbind (osgR [8] 3 l0) fun x7 => osbind (osaI 0 x7 ((21 : Int32) + l1)) fun x8 => osbind (osaJ 2 x6 ((16 : Int32) + x8)) fun x9 => osbind (osrecv [8] l0 (qX10_writesWord N l0 x9)) fun _ => osbind (osrecv [8] l0 (qX10_writes N l0 (32 : Int32))) fun _ => osbind (osgR [8] 3 l0) fun x10 => osbind (osaI 0 x10 ((37 : Int32) + l1)) fun x11 => osite (x11 = 0) (qX10_writeUnits_83 N c12 l0 l1 (65 : Int32) l0) (qX10_writeUnits_83 N c12 l0 l1 (70 : Int32) l0)))
def qX10_writeUnits_12 (N : Nat) : Nat × Int32 → osM Int32 := osloop (fun ih p => bX10_writeUnits_12 N ih p.1 p.2) N
def qX10_writeUnits (N : Nat) (l0 : Nat) : osM Int32 := osbind (osput [8] 0 l0 (.int (0 : Int32))) fun _ => osbind (osput [8] 42 l0 (.int (0 : Int32))) fun _ => qX10_writeUnits_12 N (l0, (0 : Int32))
set_option maxRecDepth 100000 in
set_option maxHeartbeats 4000000 in
theorem sX10_writeUnits_102 (N : Nat) (c12 : Nat × Int32 → osM Int32) (g12 : ∀ (l0 : Nat) (l1 : Int32), osW (osFinM (fun r : Int32 => some (.int r)) 0 0) yX10_writeUnits cX10_writeUnits 2 (some .int) [] { frames := 3, cells := 0, slots := 0, locals := 67 } 0 0 12 [(0, .ref l0), (1, .int l1)] [] (c12 (l0, l1))) (l0 : Nat) (l1 : Int32) : osW (osFinM (fun r : Int32 => some (.int r)) 0 0) yX10_writeUnits cX10_writeUnits 2 (some .int) [] { frames := 3, cells := 0, slots := 0, locals := 67 } 0 0 102 [(0, .ref l0), (1, .int l1)] [] (qX10_writeUnits_102 N c12 l0 l1) := by
  unfold qX10_writeUnits_102
  refine os_iinc (i := 1) (d := 1) (x := l1) (v := (1 : Int32)) (lv' := [(1, .int (l1 + (1 : Int32))), (0, .ref l0)]) 1 rfl rfl (Nat.le_of_ble_eq_true rfl) rfl (hX10_writeUnits.at 57 rfl rfl) ?_
  refine os_goto (off := (-93)) (tgt := 12) rfl (hX10_writeUnits.at 58 rfl rfl) ?_
  exact osW.sub [1, 0] rfl (g12 l0 (l1 + (1 : Int32)))
set_option maxRecDepth 100000 in
set_option maxHeartbeats 4000000 in
theorem sX10_writeUnits_83 (N : Nat) (c12 : Nat × Int32 → osM Int32) (g12 : ∀ (l0 : Nat) (l1 : Int32), osW (osFinM (fun r : Int32 => some (.int r)) 0 0) yX10_writeUnits cX10_writeUnits 2 (some .int) [] { frames := 3, cells := 0, slots := 0, locals := 67 } 0 0 12 [(0, .ref l0), (1, .int l1)] [] (c12 (l0, l1))) (l0 : Nat) (l1 : Int32) (k0 : Int32) (k1 : Nat) : osW (osFinM (fun r : Int32 => some (.int r)) 0 0) yX10_writeUnits cX10_writeUnits 2 (some .int) [] { frames := 3, cells := 0, slots := 0, locals := 67 } 0 0 83 [(0, .ref l0), (1, .int l1)] [.int k0, .ref k1] (qX10_writeUnits_83 N c12 l0 l1 k0 k1) := by
  unfold qX10_writeUnits_83
  refine os_callV (cis := [8]) (b := k1) (As := [.int k0]) (st := []) (st' := (fun _ => [])) sl8_X10_writes_X10_writes mdX10_writes wd2278 wd2280 (sX10_writes N k1 k0) rfl rfl (fun _ => rfl) (Nat.le_of_ble_eq_true rfl) (Nat.le_of_ble_eq_true rfl) (Nat.le_of_ble_eq_true rfl) rfl (Nat.le_of_ble_eq_true rfl) rfl (Nat.le_of_ble_eq_true rfl) (hX10_writeUnits.at 47 rfl rfl) (fun _ => ?_)
  refine os_aload_n (i := 0) (q := 0) (v := l0) 0 rfl rfl (hX10_writeUnits.at 48 rfl rfl) ?_
  refine os_aload_n (i := 0) (q := 0) (v := l0) 0 rfl rfl (hX10_writeUnits.at 49 rfl rfl) ?_
  refine os_getR fX10_25 (hX10_writeUnits.at 50 rfl rfl) (fun x1 => ?_)
  refine os_iload_n (i := 1) (q := 1) (v := l1) 1 rfl rfl (hX10_writeUnits.at 51 rfl rfl) ?_
  refine os_laload (hX10_writeUnits.at 52 rfl rfl) (fun x2 => ?_)
  refine os_callV (cis := [8]) (b := l0) (As := [.long x2]) (st := []) (st' := (fun _ => [])) sl8_X10_writesNext_X10_writesNext mdX10_writesNext wd2282 wd2284 (sX10_writesNext N l0 x2) rfl rfl (fun _ => rfl) (Nat.le_of_ble_eq_true rfl) (Nat.le_of_ble_eq_true rfl) (Nat.le_of_ble_eq_true rfl) rfl (Nat.le_of_ble_eq_true rfl) rfl (Nat.le_of_ble_eq_true rfl) (hX10_writeUnits.at 53 rfl rfl) (fun _ => ?_)
  refine os_aload_n (i := 0) (q := 0) (v := l0) 0 rfl rfl (hX10_writeUnits.at 54 rfl rfl) ?_
  refine os_bipush (i := 10) (v := (10 : Int32)) rfl (hX10_writeUnits.at 55 rfl rfl) ?_
  refine os_callV (cis := [8]) (b := l0) (As := [.int (10 : Int32)]) (st := []) (st' := (fun _ => [])) sl8_X10_writes_X10_writes mdX10_writes wd2278 wd2280 (sX10_writes N l0 (10 : Int32)) rfl rfl (fun _ => rfl) (Nat.le_of_ble_eq_true rfl) (Nat.le_of_ble_eq_true rfl) (Nat.le_of_ble_eq_true rfl) rfl (Nat.le_of_ble_eq_true rfl) rfl (Nat.le_of_ble_eq_true rfl) (hX10_writeUnits.at 56 rfl rfl) (fun _ => ?_)
  exact osW.sub [0, 1] rfl (sX10_writeUnits_102 N c12 g12 l0 l1)
set_option maxRecDepth 100000 in
set_option maxHeartbeats 4000000 in
theorem tX10_writeUnits_12 (N : Nat) (c12 : Nat × Int32 → osM Int32) (g12 : ∀ (l0 : Nat) (l1 : Int32), osW (osFinM (fun r : Int32 => some (.int r)) 0 0) yX10_writeUnits cX10_writeUnits 2 (some .int) [] { frames := 3, cells := 0, slots := 0, locals := 67 } 0 0 12 [(0, .ref l0), (1, .int l1)] [] (c12 (l0, l1))) (l0 : Nat) (l1 : Int32) : osW (osFinM (fun r : Int32 => some (.int r)) 0 0) yX10_writeUnits cX10_writeUnits 2 (some .int) [] { frames := 3, cells := 0, slots := 0, locals := 67 } 0 0 12 [(0, .ref l0), (1, .int l1)] [] (bX10_writeUnits_12 N c12 l0 l1) := by
  unfold bX10_writeUnits_12
  refine os_iload_n (i := 1) (q := 1) (v := l1) 1 rfl rfl (hX10_writeUnits.at 8 rfl rfl) ?_
  refine os_aload_n (i := 0) (q := 0) (v := l0) 0 rfl rfl (hX10_writeUnits.at 9 rfl rfl) ?_
  refine os_getR fX10_7 (hX10_writeUnits.at 10 rfl rfl) (fun x1 => ?_)
  refine os_iconst (i := 0) (v := (0 : Int32)) rfl (hX10_writeUnits.at 11 rfl rfl) ?_
  refine os_iaload (hX10_writeUnits.at 12 rfl rfl) (fun x2 => ?_)
  refine os_icmp_ge (off := 89) (tgt := 108) rfl (hX10_writeUnits.at 13 rfl rfl) ?_ ?_
  · refine os_aload_n (i := 0) (q := 0) (v := l0) 0 rfl rfl (hX10_writeUnits.at 59 rfl rfl) ?_
    refine os_getI fX10_505 (hX10_writeUnits.at 60 rfl rfl) (fun x3 => ?_)
    exact os_iret (Nat.le_of_ble_eq_true rfl) (Nat.le_of_ble_eq_true rfl) (hX10_writeUnits.at 61 rfl rfl).1
  · refine os_aload_n (i := 0) (q := 0) (v := l0) 0 rfl rfl (hX10_writeUnits.at 14 rfl rfl) ?_
    refine os_getR fX10_16 (hX10_writeUnits.at 15 rfl rfl) (fun x4 => ?_)
    refine os_iload_n (i := 1) (q := 1) (v := l1) 1 rfl rfl (hX10_writeUnits.at 16 rfl rfl) ?_
    refine os_callS (As := [.ref x4, .int l1]) (st := []) (st' := (fun r => .int r :: [])) mdX10_isUnit wd1879 wd1880 (sX10_isUnit N x4 l1) rfl rfl (fun _ => rfl) (Nat.le_of_ble_eq_true rfl) (Nat.le_of_ble_eq_true rfl) (Nat.le_of_ble_eq_true rfl) rfl (Nat.le_of_ble_eq_true rfl) rfl (Nat.le_of_ble_eq_true rfl) (hX10_writeUnits.at 17 rfl rfl) (fun x5 => ?_)
    refine os_if_ne (off := 6) (tgt := 36) rfl (hX10_writeUnits.at 18 rfl rfl) ?_ ?_
    · refine os_aload_n (i := 0) (q := 0) (v := l0) 0 rfl rfl (hX10_writeUnits.at 20 rfl rfl) ?_
      refine os_aload_n (i := 0) (q := 0) (v := l0) 0 rfl rfl (hX10_writeUnits.at 21 rfl rfl) ?_
      refine os_getR fX10_25 (hX10_writeUnits.at 22 rfl rfl) (fun x6 => ?_)
      refine os_bipush (i := 16) (v := (16 : Int32)) rfl (hX10_writeUnits.at 23 rfl rfl) ?_
      refine os_aload_n (i := 0) (q := 0) (v := l0) 0 rfl rfl (hX10_writeUnits.at 24 rfl rfl) ?_
      refine os_getR fX10_16 (hX10_writeUnits.at 25 rfl rfl) (fun x7 => ?_)
      refine os_bipush (i := 21) (v := (21 : Int32)) rfl (hX10_writeUnits.at 26 rfl rfl) ?_
      refine os_iload_n (i := 1) (q := 1) (v := l1) 1 rfl rfl (hX10_writeUnits.at 27 rfl rfl) ?_
      refine os_iadd (hX10_writeUnits.at 28 rfl rfl) ?_
      refine os_iaload (hX10_writeUnits.at 29 rfl rfl) (fun x8 => ?_)
      refine os_iadd (hX10_writeUnits.at 30 rfl rfl) ?_
      refine os_laload (hX10_writeUnits.at 31 rfl rfl) (fun x9 => ?_)
      refine os_callV (cis := [8]) (b := l0) (As := [.long x9]) (st := []) (st' := (fun _ => [])) sl8_X10_writesWord_X10_writesWord mdX10_writesWord wd2273 wd2275 (sX10_writesWord N l0 x9) rfl rfl (fun _ => rfl) (Nat.le_of_ble_eq_true rfl) (Nat.le_of_ble_eq_true rfl) (Nat.le_of_ble_eq_true rfl) rfl (Nat.le_of_ble_eq_true rfl) rfl (Nat.le_of_ble_eq_true rfl) (hX10_writeUnits.at 32 rfl rfl) (fun _ => ?_)
      refine os_aload_n (i := 0) (q := 0) (v := l0) 0 rfl rfl (hX10_writeUnits.at 33 rfl rfl) ?_
      refine os_bipush (i := 32) (v := (32 : Int32)) rfl (hX10_writeUnits.at 34 rfl rfl) ?_
      refine os_callV (cis := [8]) (b := l0) (As := [.int (32 : Int32)]) (st := []) (st' := (fun _ => [])) sl8_X10_writes_X10_writes mdX10_writes wd2278 wd2280 (sX10_writes N l0 (32 : Int32)) rfl rfl (fun _ => rfl) (Nat.le_of_ble_eq_true rfl) (Nat.le_of_ble_eq_true rfl) (Nat.le_of_ble_eq_true rfl) rfl (Nat.le_of_ble_eq_true rfl) rfl (Nat.le_of_ble_eq_true rfl) (hX10_writeUnits.at 35 rfl rfl) (fun _ => ?_)
      refine os_aload_n (i := 0) (q := 0) (v := l0) 0 rfl rfl (hX10_writeUnits.at 36 rfl rfl) ?_
      refine os_aload_n (i := 0) (q := 0) (v := l0) 0 rfl rfl (hX10_writeUnits.at 37 rfl rfl) ?_
      refine os_getR fX10_16 (hX10_writeUnits.at 38 rfl rfl) (fun x10 => ?_)
      refine os_bipush (i := 37) (v := (37 : Int32)) rfl (hX10_writeUnits.at 39 rfl rfl) ?_
      refine os_iload_n (i := 1) (q := 1) (v := l1) 1 rfl rfl (hX10_writeUnits.at 40 rfl rfl) ?_
      refine os_iadd (hX10_writeUnits.at 41 rfl rfl) ?_
      refine os_iaload (hX10_writeUnits.at 42 rfl rfl) (fun x11 => ?_)
      refine os_if_ne (off := 8) (tgt := 81) rfl (hX10_writeUnits.at 43 rfl rfl) ?_ ?_
      · refine os_bipush (i := 70) (v := (70 : Int32)) rfl (hX10_writeUnits.at 46 rfl rfl) ?_
        exact osW.sub [0, 1] rfl (sX10_writeUnits_83 N c12 g12 l0 l1 (70 : Int32) l0)
      · refine os_bipush (i := 65) (v := (65 : Int32)) rfl (hX10_writeUnits.at 44 rfl rfl) ?_
        refine os_goto (off := 5) (tgt := 83) rfl (hX10_writeUnits.at 45 rfl rfl) ?_
        exact osW.sub [0, 1] rfl (sX10_writeUnits_83 N c12 g12 l0 l1 (65 : Int32) l0)
    · refine os_goto (off := 69) (tgt := 102) rfl (hX10_writeUnits.at 19 rfl rfl) ?_
      exact osW.sub [0, 1] rfl (sX10_writeUnits_102 N c12 g12 l0 l1)
set_option maxRecDepth 100000 in
set_option maxHeartbeats 4000000 in
theorem sX10_writeUnits_12 (N : Nat) (l0 : Nat) (l1 : Int32) : osW (osFinM (fun r : Int32 => some (.int r)) 0 0) yX10_writeUnits cX10_writeUnits 2 (some .int) [] { frames := 3, cells := 0, slots := 0, locals := 67 } 0 0 12 [(0, .ref l0), (1, .int l1)] [] (qX10_writeUnits_12 N (l0, l1)) :=
  osloop_W (lvf := fun p => [(0, .ref p.1), (1, .int p.2)]) (stf := fun p => []) (fun ih g p => tX10_writeUnits_12 N ih (fun l0 l1 => g (l0, l1)) p.1 p.2) N (l0, l1)
set_option maxRecDepth 100000 in
set_option maxHeartbeats 4000000 in
theorem sX10_writeUnits (N : Nat) (l0 : Nat) : osMet yX10_writeUnits cX10_writeUnits 2 (some .int) 3 67 0 0 (fun r : Int32 => some (.int r)) [.ref l0] (qX10_writeUnits N l0) := by
  refine osMet.of plX10 (Nat.le_of_ble_eq_true rfl) (osW.rw (lv2 := [(0, .ref l0)]) ?_ rfl rfl rfl)
  unfold qX10_writeUnits
  refine os_aload_n (i := 0) (q := 0) (v := l0) 0 rfl rfl (hX10_writeUnits.at 0 rfl rfl) ?_
  refine os_iconst (i := 0) (v := (0 : Int32)) rfl (hX10_writeUnits.at 1 rfl rfl) ?_
  refine os_put fX10_82 rfl rfl (hX10_writeUnits.at 2 rfl rfl) ?_
  refine os_aload_n (i := 0) (q := 0) (v := l0) 0 rfl rfl (hX10_writeUnits.at 3 rfl rfl) ?_
  refine os_iconst (i := 0) (v := (0 : Int32)) rfl (hX10_writeUnits.at 4 rfl rfl) ?_
  refine os_put fX10_505 rfl rfl (hX10_writeUnits.at 5 rfl rfl) ?_
  refine os_iconst (i := 0) (v := (0 : Int32)) rfl (hX10_writeUnits.at 6 rfl rfl) ?_
  refine os_istore_n (i := 1) (q := 1) rfl (lv' := [(1, .int (0 : Int32)), (0, .ref l0)]) (Nat.le_of_ble_eq_true rfl) rfl (hX10_writeUnits.at 7 rfl rfl) ?_
  exact osW.sub [1, 0] rfl (sX10_writeUnits_12 N l0 (0 : Int32))
-- X10_writesOrder
def KX10_writesOrder : List (Nat × Nat × Instr) := [(0, 1, .aload_n 0), (1, 3, .getfield 16), (4, 2, .bipush 117), (6, 1, .iload_n 1), (7, 1, .iadd), (8, 1, .iaload), (9, 1, .istore_n 2), (10, 1, .aload_n 0), (11, 1, .aload_n 0), (12, 3, .getfield 25), (15, 1, .iload_n 1), (16, 1, .laload), (17, 3, .invokevirtual 513), (20, 1, .iload_n 2), (21, 3, .ifCond .ne 11), (24, 1, .aload_n 0), (25, 3, .ldc2_w 218), (28, 3, .invokevirtual 517), (31, 1, .return_), (32, 1, .aload_n 0), (33, 1, .iload_n 2), (34, 1, .iconst 1), (35, 3, .if_icmp .ne 9), (38, 3, .ldc2_w 220), (41, 3, .goto 17), (44, 1, .iload_n 2), (45, 1, .iconst 4), (46, 3, .if_icmp .ne 9), (49, 3, .ldc2_w 224), (52, 3, .goto 6), (55, 3, .ldc2_w 222), (58, 3, .invokevirtual 517), (61, 1, .aload_n 0), (62, 1, .aload_n 0), (63, 3, .getfield 25), (66, 1, .aload_n 0), (67, 3, .getfield 16), (70, 3, .sipush 133), (73, 1, .iload_n 1), (74, 1, .iadd), (75, 1, .iaload), (76, 1, .laload), (77, 3, .invokevirtual 517), (80, 1, .aload_n 0), (81, 3, .getfield 16), (84, 3, .sipush 149), (87, 1, .iload_n 1), (88, 1, .iadd), (89, 1, .iaload), (90, 1, .iconst (-1)), (91, 3, .if_icmp .eq 29), (94, 1, .aload_n 0), (95, 3, .ldc2_w 220), (98, 3, .invokevirtual 517), (101, 1, .aload_n 0), (102, 1, .aload_n 0), (103, 3, .getfield 25), (106, 1, .aload_n 0), (107, 3, .getfield 16), (110, 3, .sipush 149), (113, 1, .iload_n 1), (114, 1, .iadd), (115, 1, .iaload), (116, 1, .laload), (117, 3, .invokevirtual 517), (120, 1, .return_)]
theorem hX10_writesOrder : osDs cX10_writesOrder KX10_writesOrder := by
  show ∀ q ∈ KX10_writesOrder, decode cX10_writesOrder q.1 = .ok (q.2.2, q.2.1)
  decide +kernel
def qX10_writesOrder_120 (N : Nat) : osM Unit := osret ()
def qX10_writesOrder_58 (N : Nat) (l0 : Nat) (l1 : Int32) (k0 : Int64) (k1 : Nat) : osM Unit := osbind (osrecv [8] k1 (qX10_writesNext N k1 k0)) fun _ => osbind (osgR [8] 6 l0) fun x1 => osbind (osgR [8] 3 l0) fun x2 => osbind (osaI 0 x2 ((133 : Int32) + l1)) fun x3 => osbind (osaJ 2 x1 x3) fun x4 => osbind (osrecv [8] l0 (qX10_writesNext N l0 x4)) fun _ => osbind (osgR [8] 3 l0) fun x5 => osbind (osaI 0 x5 ((149 : Int32) + l1)) fun x6 => osite (x6 = (-1 : Int32)) (qX10_writesOrder_120 N ) (osbind (osrecv [8] l0 (qX10_writesNext N l0 (655 : Int64))) fun _ => osbind (osgR [8] 6 l0) fun x7 => osbind (osgR [8] 3 l0) fun x8 => osbind (osaI 0 x8 ((149 : Int32) + l1)) fun x9 => osbind (osaJ 2 x7 x9) fun x10 => osbind (osrecv [8] l0 (qX10_writesNext N l0 x10)) fun _ => qX10_writesOrder_120 N )
def qX10_writesOrder (N : Nat) (l0 : Nat) (l1 : Int32) : osM Unit := osbind (osgR [8] 3 l0) fun x1 => osbind (osaI 0 x1 ((117 : Int32) + l1)) fun x2 => osbind (osgR [8] 6 l0) fun x3 => osbind (osaJ 2 x3 l1) fun x4 => osbind (osrecv [8] l0 (qX10_writesWord N l0 x4)) fun _ => osite (x2 = 0) (osbind (osrecv [8] l0 (qX10_writesNext N l0 (277892 : Int64))) fun _ => osret ()) (osite (x2 = (1 : Int32)) (qX10_writesOrder_58 N l0 l1 (655 : Int64) l0) (osite (x2 = (4 : Int32)) (qX10_writesOrder_58 N l0 l1 (116873721 : Int64) l0) (qX10_writesOrder_58 N l0 l1 (21123055188 : Int64) l0)))
set_option maxRecDepth 100000 in
set_option maxHeartbeats 4000000 in
theorem sX10_writesOrder_120 (N : Nat) : osW (osFinM (fun _ : Unit => none) 0 0) yX10_writesOrder cX10_writesOrder 3 none [] { frames := 3, cells := 0, slots := 0, locals := 67 } 0 0 120 [] [] (qX10_writesOrder_120 N) := by
  unfold qX10_writesOrder_120
  exact os_vret (Nat.le_of_ble_eq_true rfl) (Nat.le_of_ble_eq_true rfl) (hX10_writesOrder.at 65 rfl rfl).1
set_option maxRecDepth 100000 in
set_option maxHeartbeats 4000000 in
theorem sX10_writesOrder_58 (N : Nat) (l0 : Nat) (l1 : Int32) (k0 : Int64) (k1 : Nat) : osW (osFinM (fun _ : Unit => none) 0 0) yX10_writesOrder cX10_writesOrder 3 none [] { frames := 3, cells := 0, slots := 0, locals := 67 } 0 0 58 [(0, .ref l0), (1, .int l1)] [.long k0, .ref k1] (qX10_writesOrder_58 N l0 l1 k0 k1) := by
  unfold qX10_writesOrder_58
  refine os_callV (cis := [8]) (b := k1) (As := [.long k0]) (st := []) (st' := (fun _ => [])) sl8_X10_writesNext_X10_writesNext mdX10_writesNext wd2282 wd2284 (sX10_writesNext N k1 k0) rfl rfl (fun _ => rfl) (Nat.le_of_ble_eq_true rfl) (Nat.le_of_ble_eq_true rfl) (Nat.le_of_ble_eq_true rfl) rfl (Nat.le_of_ble_eq_true rfl) rfl (Nat.le_of_ble_eq_true rfl) (hX10_writesOrder.at 31 rfl rfl) (fun _ => ?_)
  refine os_aload_n (i := 0) (q := 0) (v := l0) 0 rfl rfl (hX10_writesOrder.at 32 rfl rfl) ?_
  refine os_aload_n (i := 0) (q := 0) (v := l0) 0 rfl rfl (hX10_writesOrder.at 33 rfl rfl) ?_
  refine os_getR fX10_25 (hX10_writesOrder.at 34 rfl rfl) (fun x1 => ?_)
  refine os_aload_n (i := 0) (q := 0) (v := l0) 0 rfl rfl (hX10_writesOrder.at 35 rfl rfl) ?_
  refine os_getR fX10_16 (hX10_writesOrder.at 36 rfl rfl) (fun x2 => ?_)
  refine os_sipush (i := 133) (v := (133 : Int32)) rfl (hX10_writesOrder.at 37 rfl rfl) ?_
  refine os_iload_n (i := 1) (q := 1) (v := l1) 1 rfl rfl (hX10_writesOrder.at 38 rfl rfl) ?_
  refine os_iadd (hX10_writesOrder.at 39 rfl rfl) ?_
  refine os_iaload (hX10_writesOrder.at 40 rfl rfl) (fun x3 => ?_)
  refine os_laload (hX10_writesOrder.at 41 rfl rfl) (fun x4 => ?_)
  refine os_callV (cis := [8]) (b := l0) (As := [.long x4]) (st := []) (st' := (fun _ => [])) sl8_X10_writesNext_X10_writesNext mdX10_writesNext wd2282 wd2284 (sX10_writesNext N l0 x4) rfl rfl (fun _ => rfl) (Nat.le_of_ble_eq_true rfl) (Nat.le_of_ble_eq_true rfl) (Nat.le_of_ble_eq_true rfl) rfl (Nat.le_of_ble_eq_true rfl) rfl (Nat.le_of_ble_eq_true rfl) (hX10_writesOrder.at 42 rfl rfl) (fun _ => ?_)
  refine os_aload_n (i := 0) (q := 0) (v := l0) 0 rfl rfl (hX10_writesOrder.at 43 rfl rfl) ?_
  refine os_getR fX10_16 (hX10_writesOrder.at 44 rfl rfl) (fun x5 => ?_)
  refine os_sipush (i := 149) (v := (149 : Int32)) rfl (hX10_writesOrder.at 45 rfl rfl) ?_
  refine os_iload_n (i := 1) (q := 1) (v := l1) 1 rfl rfl (hX10_writesOrder.at 46 rfl rfl) ?_
  refine os_iadd (hX10_writesOrder.at 47 rfl rfl) ?_
  refine os_iaload (hX10_writesOrder.at 48 rfl rfl) (fun x6 => ?_)
  refine os_iconst (i := (-1)) (v := (-1 : Int32)) rfl (hX10_writesOrder.at 49 rfl rfl) ?_
  refine os_icmp_eq (off := 29) (tgt := 120) rfl (hX10_writesOrder.at 50 rfl rfl) ?_ ?_
  · exact osW.sub [] rfl (sX10_writesOrder_120 N )
  · refine os_aload_n (i := 0) (q := 0) (v := l0) 0 rfl rfl (hX10_writesOrder.at 51 rfl rfl) ?_
    refine os_ldc2 (v := (655 : Int64)) wd1831 (hX10_writesOrder.at 52 rfl rfl) ?_
    refine os_callV (cis := [8]) (b := l0) (As := [.long (655 : Int64)]) (st := []) (st' := (fun _ => [])) sl8_X10_writesNext_X10_writesNext mdX10_writesNext wd2282 wd2284 (sX10_writesNext N l0 (655 : Int64)) rfl rfl (fun _ => rfl) (Nat.le_of_ble_eq_true rfl) (Nat.le_of_ble_eq_true rfl) (Nat.le_of_ble_eq_true rfl) rfl (Nat.le_of_ble_eq_true rfl) rfl (Nat.le_of_ble_eq_true rfl) (hX10_writesOrder.at 53 rfl rfl) (fun _ => ?_)
    refine os_aload_n (i := 0) (q := 0) (v := l0) 0 rfl rfl (hX10_writesOrder.at 54 rfl rfl) ?_
    refine os_aload_n (i := 0) (q := 0) (v := l0) 0 rfl rfl (hX10_writesOrder.at 55 rfl rfl) ?_
    refine os_getR fX10_25 (hX10_writesOrder.at 56 rfl rfl) (fun x7 => ?_)
    refine os_aload_n (i := 0) (q := 0) (v := l0) 0 rfl rfl (hX10_writesOrder.at 57 rfl rfl) ?_
    refine os_getR fX10_16 (hX10_writesOrder.at 58 rfl rfl) (fun x8 => ?_)
    refine os_sipush (i := 149) (v := (149 : Int32)) rfl (hX10_writesOrder.at 59 rfl rfl) ?_
    refine os_iload_n (i := 1) (q := 1) (v := l1) 1 rfl rfl (hX10_writesOrder.at 60 rfl rfl) ?_
    refine os_iadd (hX10_writesOrder.at 61 rfl rfl) ?_
    refine os_iaload (hX10_writesOrder.at 62 rfl rfl) (fun x9 => ?_)
    refine os_laload (hX10_writesOrder.at 63 rfl rfl) (fun x10 => ?_)
    refine os_callV (cis := [8]) (b := l0) (As := [.long x10]) (st := []) (st' := (fun _ => [])) sl8_X10_writesNext_X10_writesNext mdX10_writesNext wd2282 wd2284 (sX10_writesNext N l0 x10) rfl rfl (fun _ => rfl) (Nat.le_of_ble_eq_true rfl) (Nat.le_of_ble_eq_true rfl) (Nat.le_of_ble_eq_true rfl) rfl (Nat.le_of_ble_eq_true rfl) rfl (Nat.le_of_ble_eq_true rfl) (hX10_writesOrder.at 64 rfl rfl) (fun _ => ?_)
    exact osW.sub [] rfl (sX10_writesOrder_120 N )
set_option maxRecDepth 100000 in
set_option maxHeartbeats 4000000 in
theorem sX10_writesOrder (N : Nat) (l0 : Nat) (l1 : Int32) : osMet yX10_writesOrder cX10_writesOrder 3 none 3 67 0 0 (fun _ : Unit => none) [.ref l0, .int l1] (qX10_writesOrder N l0 l1) := by
  refine osMet.of plX10 (Nat.le_of_ble_eq_true rfl) (osW.rw (lv2 := [(0, .ref l0), (1, .int l1)]) ?_ rfl rfl rfl)
  unfold qX10_writesOrder
  refine os_aload_n (i := 0) (q := 0) (v := l0) 0 rfl rfl (hX10_writesOrder.at 0 rfl rfl) ?_
  refine os_getR fX10_16 (hX10_writesOrder.at 1 rfl rfl) (fun x1 => ?_)
  refine os_bipush (i := 117) (v := (117 : Int32)) rfl (hX10_writesOrder.at 2 rfl rfl) ?_
  refine os_iload_n (i := 1) (q := 1) (v := l1) 1 rfl rfl (hX10_writesOrder.at 3 rfl rfl) ?_
  refine os_iadd (hX10_writesOrder.at 4 rfl rfl) ?_
  refine os_iaload (hX10_writesOrder.at 5 rfl rfl) (fun x2 => ?_)
  refine os_istore_n (i := 2) (q := 2) rfl (lv' := [(2, .int x2), (0, .ref l0), (1, .int l1)]) (Nat.le_of_ble_eq_true rfl) rfl (hX10_writesOrder.at 6 rfl rfl) ?_
  refine os_aload_n (i := 0) (q := 0) (v := l0) 1 rfl rfl (hX10_writesOrder.at 7 rfl rfl) ?_
  refine os_aload_n (i := 0) (q := 0) (v := l0) 1 rfl rfl (hX10_writesOrder.at 8 rfl rfl) ?_
  refine os_getR fX10_25 (hX10_writesOrder.at 9 rfl rfl) (fun x3 => ?_)
  refine os_iload_n (i := 1) (q := 1) (v := l1) 2 rfl rfl (hX10_writesOrder.at 10 rfl rfl) ?_
  refine os_laload (hX10_writesOrder.at 11 rfl rfl) (fun x4 => ?_)
  refine os_callV (cis := [8]) (b := l0) (As := [.long x4]) (st := []) (st' := (fun _ => [])) sl8_X10_writesWord_X10_writesWord mdX10_writesWord wd2273 wd2275 (sX10_writesWord N l0 x4) rfl rfl (fun _ => rfl) (Nat.le_of_ble_eq_true rfl) (Nat.le_of_ble_eq_true rfl) (Nat.le_of_ble_eq_true rfl) rfl (Nat.le_of_ble_eq_true rfl) rfl (Nat.le_of_ble_eq_true rfl) (hX10_writesOrder.at 12 rfl rfl) (fun _ => ?_)
  refine os_iload_n (i := 2) (q := 2) (v := x2) 0 rfl rfl (hX10_writesOrder.at 13 rfl rfl) ?_
  refine os_if_ne (off := 11) (tgt := 32) rfl (hX10_writesOrder.at 14 rfl rfl) ?_ ?_
  · refine os_aload_n (i := 0) (q := 0) (v := l0) 1 rfl rfl (hX10_writesOrder.at 19 rfl rfl) ?_
    refine os_iload_n (i := 2) (q := 2) (v := x2) 0 rfl rfl (hX10_writesOrder.at 20 rfl rfl) ?_
    refine os_iconst (i := 1) (v := (1 : Int32)) rfl (hX10_writesOrder.at 21 rfl rfl) ?_
    refine os_icmp_ne (off := 9) (tgt := 44) rfl (hX10_writesOrder.at 22 rfl rfl) ?_ ?_
    · refine os_iload_n (i := 2) (q := 2) (v := x2) 0 rfl rfl (hX10_writesOrder.at 25 rfl rfl) ?_
      refine os_iconst (i := 4) (v := (4 : Int32)) rfl (hX10_writesOrder.at 26 rfl rfl) ?_
      refine os_icmp_ne (off := 9) (tgt := 55) rfl (hX10_writesOrder.at 27 rfl rfl) ?_ ?_
      · refine os_ldc2 (v := (21123055188 : Int64)) wd1832 (hX10_writesOrder.at 30 rfl rfl) ?_
        exact osW.sub [1, 2] rfl (sX10_writesOrder_58 N l0 l1 (21123055188 : Int64) l0)
      · refine os_ldc2 (v := (116873721 : Int64)) wd1833 (hX10_writesOrder.at 28 rfl rfl) ?_
        refine os_goto (off := 6) (tgt := 58) rfl (hX10_writesOrder.at 29 rfl rfl) ?_
        exact osW.sub [1, 2] rfl (sX10_writesOrder_58 N l0 l1 (116873721 : Int64) l0)
    · refine os_ldc2 (v := (655 : Int64)) wd1831 (hX10_writesOrder.at 23 rfl rfl) ?_
      refine os_goto (off := 17) (tgt := 58) rfl (hX10_writesOrder.at 24 rfl rfl) ?_
      exact osW.sub [1, 2] rfl (sX10_writesOrder_58 N l0 l1 (655 : Int64) l0)
  · refine os_aload_n (i := 0) (q := 0) (v := l0) 1 rfl rfl (hX10_writesOrder.at 15 rfl rfl) ?_
    refine os_ldc2 (v := (277892 : Int64)) wd1830 (hX10_writesOrder.at 16 rfl rfl) ?_
    refine os_callV (cis := [8]) (b := l0) (As := [.long (277892 : Int64)]) (st := []) (st' := (fun _ => [])) sl8_X10_writesNext_X10_writesNext mdX10_writesNext wd2282 wd2284 (sX10_writesNext N l0 (277892 : Int64)) rfl rfl (fun _ => rfl) (Nat.le_of_ble_eq_true rfl) (Nat.le_of_ble_eq_true rfl) (Nat.le_of_ble_eq_true rfl) rfl (Nat.le_of_ble_eq_true rfl) rfl (Nat.le_of_ble_eq_true rfl) (hX10_writesOrder.at 17 rfl rfl) (fun _ => ?_)
    exact os_vret (Nat.le_of_ble_eq_true rfl) (Nat.le_of_ble_eq_true rfl) (hX10_writesOrder.at 18 rfl rfl).1
-- X10_writeOrders
def KX10_writeOrders : List (Nat × Nat × Instr) := [(0, 1, .aload_n 0), (1, 1, .aload_n 0), (2, 3, .getfield 16), (5, 1, .iconst 0), (6, 1, .iaload), (7, 3, .ifCond .eq 7), (10, 1, .iconst 1), (11, 3, .goto 4), (14, 1, .iconst 0), (15, 3, .invokevirtual 354), (18, 3, .ifCond .eq 5), (21, 1, .iconst 0), (22, 1, .ireturn), (23, 1, .aload_n 0), (24, 1, .iconst 0), (25, 3, .putfield 505), (28, 1, .iconst 0), (29, 1, .istore_n 1), (30, 1, .iload_n 1), (31, 1, .aload_n 0), (32, 3, .getfield 7), (35, 1, .iconst 0), (36, 1, .iaload), (37, 3, .if_icmp .ge 37), (40, 1, .aload_n 0), (41, 3, .getfield 16), (44, 1, .iload_n 1), (45, 3, .invokestatic 103), (48, 3, .ifCond .eq 20), (51, 1, .aload_n 0), (52, 1, .iload_n 1), (53, 3, .invokevirtual 520), (56, 1, .aload_n 0), (57, 2, .bipush 59), (59, 3, .invokevirtual 510), (62, 1, .aload_n 0), (63, 2, .bipush 10), (65, 3, .invokevirtual 510), (68, 3, .iinc 1 1), (71, 3, .goto (-41)), (74, 1, .aload_n 0), (75, 3, .getfield 505), (78, 1, .ireturn)]
theorem hX10_writeOrders : osDs cX10_writeOrders KX10_writeOrders := by
  show ∀ q ∈ KX10_writeOrders, decode cX10_writeOrders q.1 = .ok (q.2.2, q.2.1)
  decide +kernel
def qX10_writeOrders_68 (N : Nat) (c30 : Nat × Int32 → osM Int32) (l0 : Nat) (l1 : Int32) : osM Int32 := c30 (l0, (l1 + (1 : Int32)))
def bX10_writeOrders_30 (N : Nat) (c30 : Nat × Int32 → osM Int32) (l0 : Nat) (l1 : Int32) : osM Int32 := osbind (osgR [8] 1 l0) fun x1 => osbind (osaI 0 x1 (0 : Int32)) fun x2 => osite (x2 ≤ l1) (osbind (osgI [8] 42 l0) fun x3 => osret x3) (osbind (osgR [8] 3 l0) fun x4 => osbind (qX10_isUnit N x4 l1) fun x5 => osite (x5 = 0) (qX10_writeOrders_68 N c30 l0 l1) (osbind (osrecv [8] l0 (qX10_writesOrder N l0 l1)) fun _ => osbind (osrecv [8] l0 (qX10_writes N l0 (59 : Int32))) fun _ => osbind (osrecv [8] l0 (qX10_writes N l0 (10 : Int32))) fun _ => qX10_writeOrders_68 N c30 l0 l1))
def qX10_writeOrders_30 (N : Nat) : Nat × Int32 → osM Int32 := osloop (fun ih p => bX10_writeOrders_30 N ih p.1 p.2) N
def qX10_writeOrders_15 (N : Nat) (l0 : Nat) (k0 : Int32) (k1 : Nat) : osM Int32 := osbind (osrecv [8] k1 (qX10_isRefused N k1 k0)) fun x1 => osite (x1 = 0) (osbind (osput [8] 42 l0 (.int (0 : Int32))) fun _ => qX10_writeOrders_30 N (l0, (0 : Int32))) (osret (0 : Int32))
def qX10_writeOrders (N : Nat) (l0 : Nat) : osM Int32 := osbind (osgR [8] 3 l0) fun x1 => osbind (osaI 0 x1 (0 : Int32)) fun x2 => osite (x2 = 0) (qX10_writeOrders_15 N l0 (0 : Int32) l0) (qX10_writeOrders_15 N l0 (1 : Int32) l0)
set_option maxRecDepth 100000 in
set_option maxHeartbeats 4000000 in
theorem sX10_writeOrders_68 (N : Nat) (c30 : Nat × Int32 → osM Int32) (g30 : ∀ (l0 : Nat) (l1 : Int32), osW (osFinM (fun r : Int32 => some (.int r)) 0 0) yX10_writeOrders cX10_writeOrders 2 (some .int) [] { frames := 4, cells := 0, slots := 0, locals := 89 } 0 0 30 [(0, .ref l0), (1, .int l1)] [] (c30 (l0, l1))) (l0 : Nat) (l1 : Int32) : osW (osFinM (fun r : Int32 => some (.int r)) 0 0) yX10_writeOrders cX10_writeOrders 2 (some .int) [] { frames := 4, cells := 0, slots := 0, locals := 89 } 0 0 68 [(0, .ref l0), (1, .int l1)] [] (qX10_writeOrders_68 N c30 l0 l1) := by
  unfold qX10_writeOrders_68
  refine os_iinc (i := 1) (d := 1) (x := l1) (v := (1 : Int32)) (lv' := [(1, .int (l1 + (1 : Int32))), (0, .ref l0)]) 1 rfl rfl (Nat.le_of_ble_eq_true rfl) rfl (hX10_writeOrders.at 38 rfl rfl) ?_
  refine os_goto (off := (-41)) (tgt := 30) rfl (hX10_writeOrders.at 39 rfl rfl) ?_
  exact osW.sub [1, 0] rfl (g30 l0 (l1 + (1 : Int32)))
set_option maxRecDepth 100000 in
set_option maxHeartbeats 4000000 in
theorem tX10_writeOrders_30 (N : Nat) (c30 : Nat × Int32 → osM Int32) (g30 : ∀ (l0 : Nat) (l1 : Int32), osW (osFinM (fun r : Int32 => some (.int r)) 0 0) yX10_writeOrders cX10_writeOrders 2 (some .int) [] { frames := 4, cells := 0, slots := 0, locals := 89 } 0 0 30 [(0, .ref l0), (1, .int l1)] [] (c30 (l0, l1))) (l0 : Nat) (l1 : Int32) : osW (osFinM (fun r : Int32 => some (.int r)) 0 0) yX10_writeOrders cX10_writeOrders 2 (some .int) [] { frames := 4, cells := 0, slots := 0, locals := 89 } 0 0 30 [(0, .ref l0), (1, .int l1)] [] (bX10_writeOrders_30 N c30 l0 l1) := by
  unfold bX10_writeOrders_30
  refine os_iload_n (i := 1) (q := 1) (v := l1) 1 rfl rfl (hX10_writeOrders.at 18 rfl rfl) ?_
  refine os_aload_n (i := 0) (q := 0) (v := l0) 0 rfl rfl (hX10_writeOrders.at 19 rfl rfl) ?_
  refine os_getR fX10_7 (hX10_writeOrders.at 20 rfl rfl) (fun x1 => ?_)
  refine os_iconst (i := 0) (v := (0 : Int32)) rfl (hX10_writeOrders.at 21 rfl rfl) ?_
  refine os_iaload (hX10_writeOrders.at 22 rfl rfl) (fun x2 => ?_)
  refine os_icmp_ge (off := 37) (tgt := 74) rfl (hX10_writeOrders.at 23 rfl rfl) ?_ ?_
  · refine os_aload_n (i := 0) (q := 0) (v := l0) 0 rfl rfl (hX10_writeOrders.at 40 rfl rfl) ?_
    refine os_getI fX10_505 (hX10_writeOrders.at 41 rfl rfl) (fun x3 => ?_)
    exact os_iret (Nat.le_of_ble_eq_true rfl) (Nat.le_of_ble_eq_true rfl) (hX10_writeOrders.at 42 rfl rfl).1
  · refine os_aload_n (i := 0) (q := 0) (v := l0) 0 rfl rfl (hX10_writeOrders.at 24 rfl rfl) ?_
    refine os_getR fX10_16 (hX10_writeOrders.at 25 rfl rfl) (fun x4 => ?_)
    refine os_iload_n (i := 1) (q := 1) (v := l1) 1 rfl rfl (hX10_writeOrders.at 26 rfl rfl) ?_
    refine os_callS (As := [.ref x4, .int l1]) (st := []) (st' := (fun r => .int r :: [])) mdX10_isUnit wd1879 wd1880 (sX10_isUnit N x4 l1) rfl rfl (fun _ => rfl) (Nat.le_of_ble_eq_true rfl) (Nat.le_of_ble_eq_true rfl) (Nat.le_of_ble_eq_true rfl) rfl (Nat.le_of_ble_eq_true rfl) rfl (Nat.le_of_ble_eq_true rfl) (hX10_writeOrders.at 27 rfl rfl) (fun x5 => ?_)
    refine os_if_eq (off := 20) (tgt := 68) rfl (hX10_writeOrders.at 28 rfl rfl) ?_ ?_
    · exact osW.sub [0, 1] rfl (sX10_writeOrders_68 N c30 g30 l0 l1)
    · refine os_aload_n (i := 0) (q := 0) (v := l0) 0 rfl rfl (hX10_writeOrders.at 29 rfl rfl) ?_
      refine os_iload_n (i := 1) (q := 1) (v := l1) 1 rfl rfl (hX10_writeOrders.at 30 rfl rfl) ?_
      refine os_callV (cis := [8]) (b := l0) (As := [.int l1]) (st := []) (st' := (fun _ => [])) sl8_X10_writesOrder_X10_writesOrder mdX10_writesOrder wd2290 wd2292 (sX10_writesOrder N l0 l1) rfl rfl (fun _ => rfl) (Nat.le_of_ble_eq_true rfl) (Nat.le_of_ble_eq_true rfl) (Nat.le_of_ble_eq_true rfl) rfl (Nat.le_of_ble_eq_true rfl) rfl (Nat.le_of_ble_eq_true rfl) (hX10_writeOrders.at 31 rfl rfl) (fun _ => ?_)
      refine os_aload_n (i := 0) (q := 0) (v := l0) 0 rfl rfl (hX10_writeOrders.at 32 rfl rfl) ?_
      refine os_bipush (i := 59) (v := (59 : Int32)) rfl (hX10_writeOrders.at 33 rfl rfl) ?_
      refine os_callV (cis := [8]) (b := l0) (As := [.int (59 : Int32)]) (st := []) (st' := (fun _ => [])) sl8_X10_writes_X10_writes mdX10_writes wd2278 wd2280 (sX10_writes N l0 (59 : Int32)) rfl rfl (fun _ => rfl) (Nat.le_of_ble_eq_true rfl) (Nat.le_of_ble_eq_true rfl) (Nat.le_of_ble_eq_true rfl) rfl (Nat.le_of_ble_eq_true rfl) rfl (Nat.le_of_ble_eq_true rfl) (hX10_writeOrders.at 34 rfl rfl) (fun _ => ?_)
      refine os_aload_n (i := 0) (q := 0) (v := l0) 0 rfl rfl (hX10_writeOrders.at 35 rfl rfl) ?_
      refine os_bipush (i := 10) (v := (10 : Int32)) rfl (hX10_writeOrders.at 36 rfl rfl) ?_
      refine os_callV (cis := [8]) (b := l0) (As := [.int (10 : Int32)]) (st := []) (st' := (fun _ => [])) sl8_X10_writes_X10_writes mdX10_writes wd2278 wd2280 (sX10_writes N l0 (10 : Int32)) rfl rfl (fun _ => rfl) (Nat.le_of_ble_eq_true rfl) (Nat.le_of_ble_eq_true rfl) (Nat.le_of_ble_eq_true rfl) rfl (Nat.le_of_ble_eq_true rfl) rfl (Nat.le_of_ble_eq_true rfl) (hX10_writeOrders.at 37 rfl rfl) (fun _ => ?_)
      exact osW.sub [0, 1] rfl (sX10_writeOrders_68 N c30 g30 l0 l1)
set_option maxRecDepth 100000 in
set_option maxHeartbeats 4000000 in
theorem sX10_writeOrders_30 (N : Nat) (l0 : Nat) (l1 : Int32) : osW (osFinM (fun r : Int32 => some (.int r)) 0 0) yX10_writeOrders cX10_writeOrders 2 (some .int) [] { frames := 4, cells := 0, slots := 0, locals := 89 } 0 0 30 [(0, .ref l0), (1, .int l1)] [] (qX10_writeOrders_30 N (l0, l1)) :=
  osloop_W (lvf := fun p => [(0, .ref p.1), (1, .int p.2)]) (stf := fun p => []) (fun ih g p => tX10_writeOrders_30 N ih (fun l0 l1 => g (l0, l1)) p.1 p.2) N (l0, l1)
set_option maxRecDepth 100000 in
set_option maxHeartbeats 4000000 in
theorem sX10_writeOrders_15 (N : Nat) (l0 : Nat) (k0 : Int32) (k1 : Nat) : osW (osFinM (fun r : Int32 => some (.int r)) 0 0) yX10_writeOrders cX10_writeOrders 2 (some .int) [] { frames := 4, cells := 0, slots := 0, locals := 89 } 0 0 15 [(0, .ref l0)] [.int k0, .ref k1] (qX10_writeOrders_15 N l0 k0 k1) := by
  unfold qX10_writeOrders_15
  refine os_callV (cis := [8]) (b := k1) (As := [.int k0]) (st := []) (st' := (fun r => .int r :: [])) sl8_X10_isRefused_X10_isRefused mdX10_isRefused wd2017 wd2019 (sX10_isRefused N k1 k0) rfl rfl (fun _ => rfl) (Nat.le_of_ble_eq_true rfl) (Nat.le_of_ble_eq_true rfl) (Nat.le_of_ble_eq_true rfl) rfl (Nat.le_of_ble_eq_true rfl) rfl (Nat.le_of_ble_eq_true rfl) (hX10_writeOrders.at 9 rfl rfl) (fun x1 => ?_)
  refine os_if_eq (off := 5) (tgt := 23) rfl (hX10_writeOrders.at 10 rfl rfl) ?_ ?_
  · refine os_aload_n (i := 0) (q := 0) (v := l0) 0 rfl rfl (hX10_writeOrders.at 13 rfl rfl) ?_
    refine os_iconst (i := 0) (v := (0 : Int32)) rfl (hX10_writeOrders.at 14 rfl rfl) ?_
    refine os_put fX10_505 rfl rfl (hX10_writeOrders.at 15 rfl rfl) ?_
    refine os_iconst (i := 0) (v := (0 : Int32)) rfl (hX10_writeOrders.at 16 rfl rfl) ?_
    refine os_istore_n (i := 1) (q := 1) rfl (lv' := [(1, .int (0 : Int32)), (0, .ref l0)]) (Nat.le_of_ble_eq_true rfl) rfl (hX10_writeOrders.at 17 rfl rfl) ?_
    exact osW.sub [1, 0] rfl (sX10_writeOrders_30 N l0 (0 : Int32))
  · refine os_iconst (i := 0) (v := (0 : Int32)) rfl (hX10_writeOrders.at 11 rfl rfl) ?_
    exact os_iret (Nat.le_of_ble_eq_true rfl) (Nat.le_of_ble_eq_true rfl) (hX10_writeOrders.at 12 rfl rfl).1
set_option maxRecDepth 100000 in
set_option maxHeartbeats 4000000 in
theorem sX10_writeOrders (N : Nat) (l0 : Nat) : osMet yX10_writeOrders cX10_writeOrders 2 (some .int) 4 89 0 0 (fun r : Int32 => some (.int r)) [.ref l0] (qX10_writeOrders N l0) := by
  refine osMet.of plX10 (Nat.le_of_ble_eq_true rfl) (osW.rw (lv2 := [(0, .ref l0)]) ?_ rfl rfl rfl)
  unfold qX10_writeOrders
  refine os_aload_n (i := 0) (q := 0) (v := l0) 0 rfl rfl (hX10_writeOrders.at 0 rfl rfl) ?_
  refine os_aload_n (i := 0) (q := 0) (v := l0) 0 rfl rfl (hX10_writeOrders.at 1 rfl rfl) ?_
  refine os_getR fX10_16 (hX10_writeOrders.at 2 rfl rfl) (fun x1 => ?_)
  refine os_iconst (i := 0) (v := (0 : Int32)) rfl (hX10_writeOrders.at 3 rfl rfl) ?_
  refine os_iaload (hX10_writeOrders.at 4 rfl rfl) (fun x2 => ?_)
  refine os_if_eq (off := 7) (tgt := 14) rfl (hX10_writeOrders.at 5 rfl rfl) ?_ ?_
  · refine os_iconst (i := 0) (v := (0 : Int32)) rfl (hX10_writeOrders.at 8 rfl rfl) ?_
    exact osW.sub [0] rfl (sX10_writeOrders_15 N l0 (0 : Int32) l0)
  · refine os_iconst (i := 1) (v := (1 : Int32)) rfl (hX10_writeOrders.at 6 rfl rfl) ?_
    refine os_goto (off := 4) (tgt := 15) rfl (hX10_writeOrders.at 7 rfl rfl) ?_
    exact osW.sub [0] rfl (sX10_writeOrders_15 N l0 (1 : Int32) l0)
-- X10_outputByte
def KX10_outputByte : List (Nat × Nat × Instr) := [(0, 1, .aload_n 0), (1, 1, .iload_n 1), (2, 1, .iconst 0), (3, 1, .aload_n 0), (4, 3, .getfield 505), (7, 1, .iconst 1), (8, 1, .isub), (9, 3, .invokestatic 95), (12, 3, .ifCond .eq 7), (15, 1, .iconst 0), (16, 3, .goto 4), (19, 1, .iconst 1), (20, 3, .invokevirtual 354), (23, 3, .ifCond .eq 7), (26, 1, .iconst 0), (27, 3, .goto 9), (30, 1, .aload_n 0), (31, 3, .getfield 73), (34, 1, .iload_n 1), (35, 1, .iaload), (36, 1, .ireturn)]
theorem hX10_outputByte : osDs cX10_outputByte KX10_outputByte := by
  show ∀ q ∈ KX10_outputByte, decode cX10_outputByte q.1 = .ok (q.2.2, q.2.1)
  decide +kernel
def qX10_outputByte_36 (N : Nat) (k0 : Int32) : osM Int32 := osret k0
def qX10_outputByte_20 (N : Nat) (l0 : Nat) (l1 : Int32) (k0 : Int32) (k1 : Nat) : osM Int32 := osbind (osrecv [8] k1 (qX10_isRefused N k1 k0)) fun x1 => osite (x1 = 0) (osbind (osgR [8] 41 l0) fun x2 => osbind (osaI 0 x2 l1) fun x3 => qX10_outputByte_36 N x3) (qX10_outputByte_36 N (0 : Int32))
def qX10_outputByte (N : Nat) (l0 : Nat) (l1 : Int32) : osM Int32 := osbind (osgI [8] 42 l0) fun x1 => osbind (qX10_in N l1 (0 : Int32) (x1 - (1 : Int32))) fun x2 => osite (x2 = 0) (qX10_outputByte_20 N l0 l1 (1 : Int32) l0) (qX10_outputByte_20 N l0 l1 (0 : Int32) l0)
set_option maxRecDepth 100000 in
set_option maxHeartbeats 4000000 in
theorem sX10_outputByte_36 (N : Nat) (k0 : Int32) : osW (osFinM (fun r : Int32 => some (.int r)) 0 0) yX10_outputByte cX10_outputByte 2 (some .int) [] { frames := 1, cells := 0, slots := 0, locals := 22 } 0 0 36 [] [.int k0] (qX10_outputByte_36 N k0) := by
  unfold qX10_outputByte_36
  exact os_iret (Nat.le_of_ble_eq_true rfl) (Nat.le_of_ble_eq_true rfl) (hX10_outputByte.at 20 rfl rfl).1
set_option maxRecDepth 100000 in
set_option maxHeartbeats 4000000 in
theorem sX10_outputByte_20 (N : Nat) (l0 : Nat) (l1 : Int32) (k0 : Int32) (k1 : Nat) : osW (osFinM (fun r : Int32 => some (.int r)) 0 0) yX10_outputByte cX10_outputByte 2 (some .int) [] { frames := 1, cells := 0, slots := 0, locals := 22 } 0 0 20 [(0, .ref l0), (1, .int l1)] [.int k0, .ref k1] (qX10_outputByte_20 N l0 l1 k0 k1) := by
  unfold qX10_outputByte_20
  refine os_callV (cis := [8]) (b := k1) (As := [.int k0]) (st := []) (st' := (fun r => .int r :: [])) sl8_X10_isRefused_X10_isRefused mdX10_isRefused wd2017 wd2019 (sX10_isRefused N k1 k0) rfl rfl (fun _ => rfl) (Nat.le_of_ble_eq_true rfl) (Nat.le_of_ble_eq_true rfl) (Nat.le_of_ble_eq_true rfl) rfl (Nat.le_of_ble_eq_true rfl) rfl (Nat.le_of_ble_eq_true rfl) (hX10_outputByte.at 12 rfl rfl) (fun x1 => ?_)
  refine os_if_eq (off := 7) (tgt := 30) rfl (hX10_outputByte.at 13 rfl rfl) ?_ ?_
  · refine os_aload_n (i := 0) (q := 0) (v := l0) 0 rfl rfl (hX10_outputByte.at 16 rfl rfl) ?_
    refine os_getR fX10_73 (hX10_outputByte.at 17 rfl rfl) (fun x2 => ?_)
    refine os_iload_n (i := 1) (q := 1) (v := l1) 1 rfl rfl (hX10_outputByte.at 18 rfl rfl) ?_
    refine os_iaload (hX10_outputByte.at 19 rfl rfl) (fun x3 => ?_)
    exact osW.sub [] rfl (sX10_outputByte_36 N x3)
  · refine os_iconst (i := 0) (v := (0 : Int32)) rfl (hX10_outputByte.at 14 rfl rfl) ?_
    refine os_goto (off := 9) (tgt := 36) rfl (hX10_outputByte.at 15 rfl rfl) ?_
    exact osW.sub [] rfl (sX10_outputByte_36 N (0 : Int32))
set_option maxRecDepth 100000 in
set_option maxHeartbeats 4000000 in
theorem sX10_outputByte (N : Nat) (l0 : Nat) (l1 : Int32) : osMet yX10_outputByte cX10_outputByte 2 (some .int) 1 22 0 0 (fun r : Int32 => some (.int r)) [.ref l0, .int l1] (qX10_outputByte N l0 l1) := by
  refine osMet.of plX10 (Nat.le_of_ble_eq_true rfl) (osW.rw (lv2 := [(0, .ref l0), (1, .int l1)]) ?_ rfl rfl rfl)
  unfold qX10_outputByte
  refine os_aload_n (i := 0) (q := 0) (v := l0) 0 rfl rfl (hX10_outputByte.at 0 rfl rfl) ?_
  refine os_iload_n (i := 1) (q := 1) (v := l1) 1 rfl rfl (hX10_outputByte.at 1 rfl rfl) ?_
  refine os_iconst (i := 0) (v := (0 : Int32)) rfl (hX10_outputByte.at 2 rfl rfl) ?_
  refine os_aload_n (i := 0) (q := 0) (v := l0) 0 rfl rfl (hX10_outputByte.at 3 rfl rfl) ?_
  refine os_getI fX10_505 (hX10_outputByte.at 4 rfl rfl) (fun x1 => ?_)
  refine os_iconst (i := 1) (v := (1 : Int32)) rfl (hX10_outputByte.at 5 rfl rfl) ?_
  refine os_isub (hX10_outputByte.at 6 rfl rfl) ?_
  refine os_callS (As := [.int l1, .int (0 : Int32), .int (x1 - (1 : Int32))]) (st := [.ref l0]) (st' := (fun r => .int r :: [.ref l0])) mdX10_in wd1770 wd1771 (sX10_in N l1 (0 : Int32) (x1 - (1 : Int32))) rfl rfl (fun _ => rfl) (Nat.le_of_ble_eq_true rfl) (Nat.le_of_ble_eq_true rfl) (Nat.le_of_ble_eq_true rfl) rfl (Nat.le_of_ble_eq_true rfl) rfl (Nat.le_of_ble_eq_true rfl) (hX10_outputByte.at 7 rfl rfl) (fun x2 => ?_)
  refine os_if_eq (off := 7) (tgt := 19) rfl (hX10_outputByte.at 8 rfl rfl) ?_ ?_
  · refine os_iconst (i := 1) (v := (1 : Int32)) rfl (hX10_outputByte.at 11 rfl rfl) ?_
    exact osW.sub [0, 1] rfl (sX10_outputByte_20 N l0 l1 (1 : Int32) l0)
  · refine os_iconst (i := 0) (v := (0 : Int32)) rfl (hX10_outputByte.at 9 rfl rfl) ?_
    refine os_goto (off := 4) (tgt := 20) rfl (hX10_outputByte.at 10 rfl rfl) ?_
    exact osW.sub [0, 1] rfl (sX10_outputByte_20 N l0 l1 (0 : Int32) l0)
-- X10_clears
def KX10_clears : List (Nat × Nat × Instr) := [(0, 1, .iconst 0), (1, 1, .istore_n 1), (2, 1, .iload_n 1), (3, 2, .bipush 98), (5, 3, .if_icmp .ge 16), (8, 1, .aload_n 0), (9, 3, .getfield 13), (12, 1, .iload_n 1), (13, 1, .iconst 0), (14, 1, .iastore), (15, 3, .iinc 1 1), (18, 3, .goto (-16)), (21, 1, .iconst 0), (22, 1, .istore_n 1), (23, 1, .iload_n 1), (24, 3, .sipush 261), (27, 3, .if_icmp .ge 16), (30, 1, .aload_n 0), (31, 3, .getfield 19), (34, 1, .iload_n 1), (35, 1, .iconst 0), (36, 1, .iastore), (37, 3, .iinc 1 1), (40, 3, .goto (-17)), (43, 1, .aload_n 0), (44, 3, .getfield 19), (47, 1, .iconst 1), (48, 1, .iconst 1), (49, 1, .iastore), (50, 1, .iconst 0), (51, 1, .istore_n 1), (52, 1, .iload_n 1), (53, 2, .bipush 16), (55, 3, .if_icmp .ge 68), (58, 1, .aload_n 0), (59, 3, .getfield 13), (62, 2, .bipush 34), (64, 1, .iload_n 1), (65, 1, .iadd), (66, 1, .iconst (-1)), (67, 1, .iastore), (68, 1, .aload_n 0), (69, 3, .getfield 19), (72, 1, .iconst 5), (73, 1, .iload_n 1), (74, 1, .iadd), (75, 1, .iconst (-1)), (76, 1, .iastore), (77, 1, .aload_n 0), (78, 3, .getfield 19), (81, 2, .bipush 21), (83, 1, .iload_n 1), (84, 1, .iadd), (85, 1, .iconst (-1)), (86, 1, .iastore), (87, 1, .aload_n 0), (88, 3, .getfield 19), (91, 2, .bipush 53), (93, 1, .iload_n 1), (94, 1, .iadd), (95, 1, .iconst (-1)), (96, 1, .iastore), (97, 1, .aload_n 0), (98, 3, .getfield 19), (101, 2, .bipush 85), (103, 1, .iload_n 1), (104, 1, .iadd), (105, 1, .iconst (-1)), (106, 1, .iastore), (107, 1, .aload_n 0), (108, 3, .getfield 19), (111, 2, .bipush 101), (113, 1, .iload_n 1), (114, 1, .iadd), (115, 1, .iconst (-1)), (116, 1, .iastore), (117, 3, .iinc 1 1), (120, 3, .goto (-68)), (123, 1, .aload_n 0), (124, 3, .getfield 19), (127, 3, .invokestatic 85), (130, 1, .return_)]
theorem hX10_clears : osDs cX10_clears KX10_clears := by
  show ∀ q ∈ KX10_clears, decode cX10_clears q.1 = .ok (q.2.2, q.2.1)
  decide +kernel
def bX10_clears_52 (N : Nat) (c52 : Nat × Int32 → osM Unit) (l0 : Nat) (l1 : Int32) : osM Unit := osite ((16 : Int32) ≤ l1) (osbind (osgR [8] 4 l0) fun x1 => osbind (qX10_allHold N x1) fun _ => osret ()) (osbind (osgR [8] 2 l0) fun x2 => osbind (ossI 0 x2 ((34 : Int32) + l1) (-1 : Int32)) fun _ => osbind (osgR [8] 4 l0) fun x3 => osbind (ossI 0 x3 ((5 : Int32) + l1) (-1 : Int32)) fun _ => osbind (osgR [8] 4 l0) fun x4 => osbind (ossI 0 x4 ((21 : Int32) + l1) (-1 : Int32)) fun _ => osbind (osgR [8] 4 l0) fun x5 => osbind (ossI 0 x5 ((53 : Int32) + l1) (-1 : Int32)) fun _ => osbind (osgR [8] 4 l0) fun x6 => osbind (ossI 0 x6 ((85 : Int32) + l1) (-1 : Int32)) fun _ => osbind (osgR [8] 4 l0) fun x7 => osbind (ossI 0 x7 ((101 : Int32) + l1) (-1 : Int32)) fun _ => c52 (l0, (l1 + (1 : Int32))))
def qX10_clears_52 (N : Nat) : Nat × Int32 → osM Unit := osloop (fun ih p => bX10_clears_52 N ih p.1 p.2) N
def bX10_clears_23 (N : Nat) (c23 : Nat × Int32 → osM Unit) (l0 : Nat) (l1 : Int32) : osM Unit := osite ((261 : Int32) ≤ l1) (osbind (osgR [8] 4 l0) fun x1 => osbind (ossI 0 x1 (1 : Int32) (1 : Int32)) fun _ => qX10_clears_52 N (l0, (0 : Int32))) (osbind (osgR [8] 4 l0) fun x2 => osbind (ossI 0 x2 l1 (0 : Int32)) fun _ => c23 (l0, (l1 + (1 : Int32))))
def qX10_clears_23 (N : Nat) : Nat × Int32 → osM Unit := osloop (fun ih p => bX10_clears_23 N ih p.1 p.2) N
def bX10_clears_2 (N : Nat) (c2 : Nat × Int32 → osM Unit) (l0 : Nat) (l1 : Int32) : osM Unit := osite ((98 : Int32) ≤ l1) (qX10_clears_23 N (l0, (0 : Int32))) (osbind (osgR [8] 2 l0) fun x1 => osbind (ossI 0 x1 l1 (0 : Int32)) fun _ => c2 (l0, (l1 + (1 : Int32))))
def qX10_clears_2 (N : Nat) : Nat × Int32 → osM Unit := osloop (fun ih p => bX10_clears_2 N ih p.1 p.2) N
def qX10_clears (N : Nat) (l0 : Nat) : osM Unit := qX10_clears_2 N (l0, (0 : Int32))
set_option maxRecDepth 100000 in
set_option maxHeartbeats 4000000 in
theorem tX10_clears_52 (N : Nat) (c52 : Nat × Int32 → osM Unit) (g52 : ∀ (l0 : Nat) (l1 : Int32), osW (osFinM (fun _ : Unit => none) 0 0) yX10_clears cX10_clears 2 none [] { frames := 1, cells := 0, slots := 0, locals := 21 } 0 0 52 [(0, .ref l0), (1, .int l1)] [] (c52 (l0, l1))) (l0 : Nat) (l1 : Int32) : osW (osFinM (fun _ : Unit => none) 0 0) yX10_clears cX10_clears 2 none [] { frames := 1, cells := 0, slots := 0, locals := 21 } 0 0 52 [(0, .ref l0), (1, .int l1)] [] (bX10_clears_52 N c52 l0 l1) := by
  unfold bX10_clears_52
  refine os_iload_n (i := 1) (q := 1) (v := l1) 1 rfl rfl (hX10_clears.at 31 rfl rfl) ?_
  refine os_bipush (i := 16) (v := (16 : Int32)) rfl (hX10_clears.at 32 rfl rfl) ?_
  refine os_icmp_ge (off := 68) (tgt := 123) rfl (hX10_clears.at 33 rfl rfl) ?_ ?_
  · refine os_aload_n (i := 0) (q := 0) (v := l0) 0 rfl rfl (hX10_clears.at 78 rfl rfl) ?_
    refine os_getR fX10_19 (hX10_clears.at 79 rfl rfl) (fun x1 => ?_)
    refine os_callS (As := [.ref x1]) (st := []) (st' := (fun _ => [])) mdX10_allHold wd1591 wd1592 (sX10_allHold N x1) rfl rfl (fun _ => rfl) (Nat.le_of_ble_eq_true rfl) (Nat.le_of_ble_eq_true rfl) (Nat.le_of_ble_eq_true rfl) rfl (Nat.le_of_ble_eq_true rfl) rfl (Nat.le_of_ble_eq_true rfl) (hX10_clears.at 80 rfl rfl) (fun _ => ?_)
    exact os_vret (Nat.le_of_ble_eq_true rfl) (Nat.le_of_ble_eq_true rfl) (hX10_clears.at 81 rfl rfl).1
  · refine os_aload_n (i := 0) (q := 0) (v := l0) 0 rfl rfl (hX10_clears.at 34 rfl rfl) ?_
    refine os_getR fX10_13 (hX10_clears.at 35 rfl rfl) (fun x2 => ?_)
    refine os_bipush (i := 34) (v := (34 : Int32)) rfl (hX10_clears.at 36 rfl rfl) ?_
    refine os_iload_n (i := 1) (q := 1) (v := l1) 1 rfl rfl (hX10_clears.at 37 rfl rfl) ?_
    refine os_iadd (hX10_clears.at 38 rfl rfl) ?_
    refine os_iconst (i := (-1)) (v := (-1 : Int32)) rfl (hX10_clears.at 39 rfl rfl) ?_
    refine os_iastore (hX10_clears.at 40 rfl rfl) ?_
    refine os_aload_n (i := 0) (q := 0) (v := l0) 0 rfl rfl (hX10_clears.at 41 rfl rfl) ?_
    refine os_getR fX10_19 (hX10_clears.at 42 rfl rfl) (fun x3 => ?_)
    refine os_iconst (i := 5) (v := (5 : Int32)) rfl (hX10_clears.at 43 rfl rfl) ?_
    refine os_iload_n (i := 1) (q := 1) (v := l1) 1 rfl rfl (hX10_clears.at 44 rfl rfl) ?_
    refine os_iadd (hX10_clears.at 45 rfl rfl) ?_
    refine os_iconst (i := (-1)) (v := (-1 : Int32)) rfl (hX10_clears.at 46 rfl rfl) ?_
    refine os_iastore (hX10_clears.at 47 rfl rfl) ?_
    refine os_aload_n (i := 0) (q := 0) (v := l0) 0 rfl rfl (hX10_clears.at 48 rfl rfl) ?_
    refine os_getR fX10_19 (hX10_clears.at 49 rfl rfl) (fun x4 => ?_)
    refine os_bipush (i := 21) (v := (21 : Int32)) rfl (hX10_clears.at 50 rfl rfl) ?_
    refine os_iload_n (i := 1) (q := 1) (v := l1) 1 rfl rfl (hX10_clears.at 51 rfl rfl) ?_
    refine os_iadd (hX10_clears.at 52 rfl rfl) ?_
    refine os_iconst (i := (-1)) (v := (-1 : Int32)) rfl (hX10_clears.at 53 rfl rfl) ?_
    refine os_iastore (hX10_clears.at 54 rfl rfl) ?_
    refine os_aload_n (i := 0) (q := 0) (v := l0) 0 rfl rfl (hX10_clears.at 55 rfl rfl) ?_
    refine os_getR fX10_19 (hX10_clears.at 56 rfl rfl) (fun x5 => ?_)
    refine os_bipush (i := 53) (v := (53 : Int32)) rfl (hX10_clears.at 57 rfl rfl) ?_
    refine os_iload_n (i := 1) (q := 1) (v := l1) 1 rfl rfl (hX10_clears.at 58 rfl rfl) ?_
    refine os_iadd (hX10_clears.at 59 rfl rfl) ?_
    refine os_iconst (i := (-1)) (v := (-1 : Int32)) rfl (hX10_clears.at 60 rfl rfl) ?_
    refine os_iastore (hX10_clears.at 61 rfl rfl) ?_
    refine os_aload_n (i := 0) (q := 0) (v := l0) 0 rfl rfl (hX10_clears.at 62 rfl rfl) ?_
    refine os_getR fX10_19 (hX10_clears.at 63 rfl rfl) (fun x6 => ?_)
    refine os_bipush (i := 85) (v := (85 : Int32)) rfl (hX10_clears.at 64 rfl rfl) ?_
    refine os_iload_n (i := 1) (q := 1) (v := l1) 1 rfl rfl (hX10_clears.at 65 rfl rfl) ?_
    refine os_iadd (hX10_clears.at 66 rfl rfl) ?_
    refine os_iconst (i := (-1)) (v := (-1 : Int32)) rfl (hX10_clears.at 67 rfl rfl) ?_
    refine os_iastore (hX10_clears.at 68 rfl rfl) ?_
    refine os_aload_n (i := 0) (q := 0) (v := l0) 0 rfl rfl (hX10_clears.at 69 rfl rfl) ?_
    refine os_getR fX10_19 (hX10_clears.at 70 rfl rfl) (fun x7 => ?_)
    refine os_bipush (i := 101) (v := (101 : Int32)) rfl (hX10_clears.at 71 rfl rfl) ?_
    refine os_iload_n (i := 1) (q := 1) (v := l1) 1 rfl rfl (hX10_clears.at 72 rfl rfl) ?_
    refine os_iadd (hX10_clears.at 73 rfl rfl) ?_
    refine os_iconst (i := (-1)) (v := (-1 : Int32)) rfl (hX10_clears.at 74 rfl rfl) ?_
    refine os_iastore (hX10_clears.at 75 rfl rfl) ?_
    refine os_iinc (i := 1) (d := 1) (x := l1) (v := (1 : Int32)) (lv' := [(1, .int (l1 + (1 : Int32))), (0, .ref l0)]) 1 rfl rfl (Nat.le_of_ble_eq_true rfl) rfl (hX10_clears.at 76 rfl rfl) ?_
    refine os_goto (off := (-68)) (tgt := 52) rfl (hX10_clears.at 77 rfl rfl) ?_
    exact osW.sub [1, 0] rfl (g52 l0 (l1 + (1 : Int32)))
set_option maxRecDepth 100000 in
set_option maxHeartbeats 4000000 in
theorem sX10_clears_52 (N : Nat) (l0 : Nat) (l1 : Int32) : osW (osFinM (fun _ : Unit => none) 0 0) yX10_clears cX10_clears 2 none [] { frames := 1, cells := 0, slots := 0, locals := 21 } 0 0 52 [(0, .ref l0), (1, .int l1)] [] (qX10_clears_52 N (l0, l1)) :=
  osloop_W (lvf := fun p => [(0, .ref p.1), (1, .int p.2)]) (stf := fun p => []) (fun ih g p => tX10_clears_52 N ih (fun l0 l1 => g (l0, l1)) p.1 p.2) N (l0, l1)
set_option maxRecDepth 100000 in
set_option maxHeartbeats 4000000 in
theorem tX10_clears_23 (N : Nat) (c23 : Nat × Int32 → osM Unit) (g23 : ∀ (l0 : Nat) (l1 : Int32), osW (osFinM (fun _ : Unit => none) 0 0) yX10_clears cX10_clears 2 none [] { frames := 1, cells := 0, slots := 0, locals := 21 } 0 0 23 [(0, .ref l0), (1, .int l1)] [] (c23 (l0, l1))) (l0 : Nat) (l1 : Int32) : osW (osFinM (fun _ : Unit => none) 0 0) yX10_clears cX10_clears 2 none [] { frames := 1, cells := 0, slots := 0, locals := 21 } 0 0 23 [(0, .ref l0), (1, .int l1)] [] (bX10_clears_23 N c23 l0 l1) := by
  unfold bX10_clears_23
  refine os_iload_n (i := 1) (q := 1) (v := l1) 1 rfl rfl (hX10_clears.at 14 rfl rfl) ?_
  refine os_sipush (i := 261) (v := (261 : Int32)) rfl (hX10_clears.at 15 rfl rfl) ?_
  refine os_icmp_ge (off := 16) (tgt := 43) rfl (hX10_clears.at 16 rfl rfl) ?_ ?_
  · refine os_aload_n (i := 0) (q := 0) (v := l0) 0 rfl rfl (hX10_clears.at 24 rfl rfl) ?_
    refine os_getR fX10_19 (hX10_clears.at 25 rfl rfl) (fun x1 => ?_)
    refine os_iconst (i := 1) (v := (1 : Int32)) rfl (hX10_clears.at 26 rfl rfl) ?_
    refine os_iconst (i := 1) (v := (1 : Int32)) rfl (hX10_clears.at 27 rfl rfl) ?_
    refine os_iastore (hX10_clears.at 28 rfl rfl) ?_
    refine os_iconst (i := 0) (v := (0 : Int32)) rfl (hX10_clears.at 29 rfl rfl) ?_
    refine os_istore_n (i := 1) (q := 1) rfl (lv' := [(1, .int (0 : Int32)), (0, .ref l0)]) (Nat.le_of_ble_eq_true rfl) rfl (hX10_clears.at 30 rfl rfl) ?_
    exact osW.sub [1, 0] rfl (sX10_clears_52 N l0 (0 : Int32))
  · refine os_aload_n (i := 0) (q := 0) (v := l0) 0 rfl rfl (hX10_clears.at 17 rfl rfl) ?_
    refine os_getR fX10_19 (hX10_clears.at 18 rfl rfl) (fun x2 => ?_)
    refine os_iload_n (i := 1) (q := 1) (v := l1) 1 rfl rfl (hX10_clears.at 19 rfl rfl) ?_
    refine os_iconst (i := 0) (v := (0 : Int32)) rfl (hX10_clears.at 20 rfl rfl) ?_
    refine os_iastore (hX10_clears.at 21 rfl rfl) ?_
    refine os_iinc (i := 1) (d := 1) (x := l1) (v := (1 : Int32)) (lv' := [(1, .int (l1 + (1 : Int32))), (0, .ref l0)]) 1 rfl rfl (Nat.le_of_ble_eq_true rfl) rfl (hX10_clears.at 22 rfl rfl) ?_
    refine os_goto (off := (-17)) (tgt := 23) rfl (hX10_clears.at 23 rfl rfl) ?_
    exact osW.sub [1, 0] rfl (g23 l0 (l1 + (1 : Int32)))
set_option maxRecDepth 100000 in
set_option maxHeartbeats 4000000 in
theorem sX10_clears_23 (N : Nat) (l0 : Nat) (l1 : Int32) : osW (osFinM (fun _ : Unit => none) 0 0) yX10_clears cX10_clears 2 none [] { frames := 1, cells := 0, slots := 0, locals := 21 } 0 0 23 [(0, .ref l0), (1, .int l1)] [] (qX10_clears_23 N (l0, l1)) :=
  osloop_W (lvf := fun p => [(0, .ref p.1), (1, .int p.2)]) (stf := fun p => []) (fun ih g p => tX10_clears_23 N ih (fun l0 l1 => g (l0, l1)) p.1 p.2) N (l0, l1)
set_option maxRecDepth 100000 in
set_option maxHeartbeats 4000000 in
theorem tX10_clears_2 (N : Nat) (c2 : Nat × Int32 → osM Unit) (g2 : ∀ (l0 : Nat) (l1 : Int32), osW (osFinM (fun _ : Unit => none) 0 0) yX10_clears cX10_clears 2 none [] { frames := 1, cells := 0, slots := 0, locals := 21 } 0 0 2 [(0, .ref l0), (1, .int l1)] [] (c2 (l0, l1))) (l0 : Nat) (l1 : Int32) : osW (osFinM (fun _ : Unit => none) 0 0) yX10_clears cX10_clears 2 none [] { frames := 1, cells := 0, slots := 0, locals := 21 } 0 0 2 [(0, .ref l0), (1, .int l1)] [] (bX10_clears_2 N c2 l0 l1) := by
  unfold bX10_clears_2
  refine os_iload_n (i := 1) (q := 1) (v := l1) 1 rfl rfl (hX10_clears.at 2 rfl rfl) ?_
  refine os_bipush (i := 98) (v := (98 : Int32)) rfl (hX10_clears.at 3 rfl rfl) ?_
  refine os_icmp_ge (off := 16) (tgt := 21) rfl (hX10_clears.at 4 rfl rfl) ?_ ?_
  · refine os_iconst (i := 0) (v := (0 : Int32)) rfl (hX10_clears.at 12 rfl rfl) ?_
    refine os_istore_n (i := 1) (q := 1) rfl (lv' := [(1, .int (0 : Int32)), (0, .ref l0)]) (Nat.le_of_ble_eq_true rfl) rfl (hX10_clears.at 13 rfl rfl) ?_
    exact osW.sub [1, 0] rfl (sX10_clears_23 N l0 (0 : Int32))
  · refine os_aload_n (i := 0) (q := 0) (v := l0) 0 rfl rfl (hX10_clears.at 5 rfl rfl) ?_
    refine os_getR fX10_13 (hX10_clears.at 6 rfl rfl) (fun x1 => ?_)
    refine os_iload_n (i := 1) (q := 1) (v := l1) 1 rfl rfl (hX10_clears.at 7 rfl rfl) ?_
    refine os_iconst (i := 0) (v := (0 : Int32)) rfl (hX10_clears.at 8 rfl rfl) ?_
    refine os_iastore (hX10_clears.at 9 rfl rfl) ?_
    refine os_iinc (i := 1) (d := 1) (x := l1) (v := (1 : Int32)) (lv' := [(1, .int (l1 + (1 : Int32))), (0, .ref l0)]) 1 rfl rfl (Nat.le_of_ble_eq_true rfl) rfl (hX10_clears.at 10 rfl rfl) ?_
    refine os_goto (off := (-16)) (tgt := 2) rfl (hX10_clears.at 11 rfl rfl) ?_
    exact osW.sub [1, 0] rfl (g2 l0 (l1 + (1 : Int32)))
set_option maxRecDepth 100000 in
set_option maxHeartbeats 4000000 in
theorem sX10_clears_2 (N : Nat) (l0 : Nat) (l1 : Int32) : osW (osFinM (fun _ : Unit => none) 0 0) yX10_clears cX10_clears 2 none [] { frames := 1, cells := 0, slots := 0, locals := 21 } 0 0 2 [(0, .ref l0), (1, .int l1)] [] (qX10_clears_2 N (l0, l1)) :=
  osloop_W (lvf := fun p => [(0, .ref p.1), (1, .int p.2)]) (stf := fun p => []) (fun ih g p => tX10_clears_2 N ih (fun l0 l1 => g (l0, l1)) p.1 p.2) N (l0, l1)
set_option maxRecDepth 100000 in
set_option maxHeartbeats 4000000 in
theorem sX10_clears (N : Nat) (l0 : Nat) : osMet yX10_clears cX10_clears 2 none 1 21 0 0 (fun _ : Unit => none) [.ref l0] (qX10_clears N l0) := by
  refine osMet.of plX10 (Nat.le_of_ble_eq_true rfl) (osW.rw (lv2 := [(0, .ref l0)]) ?_ rfl rfl rfl)
  unfold qX10_clears
  refine os_iconst (i := 0) (v := (0 : Int32)) rfl (hX10_clears.at 0 rfl rfl) ?_
  refine os_istore_n (i := 1) (q := 1) rfl (lv' := [(1, .int (0 : Int32)), (0, .ref l0)]) (Nat.le_of_ble_eq_true rfl) rfl (hX10_clears.at 1 rfl rfl) ?_
  exact osW.sub [1, 0] rfl (sX10_clears_2 N l0 (0 : Int32))
-- X10_settles
def KX10_settles : List (Nat × Nat × Instr) := [(0, 1, .iconst 0), (1, 1, .istore_n 1), (2, 1, .iload_n 1), (3, 2, .bipush 98), (5, 3, .if_icmp .ge 21), (8, 1, .aload_n 0), (9, 3, .getfield 7), (12, 1, .iload_n 1), (13, 1, .aload_n 0), (14, 3, .getfield 13), (17, 1, .iload_n 1), (18, 1, .iaload), (19, 1, .iastore), (20, 3, .iinc 1 1), (23, 3, .goto (-21)), (26, 1, .iconst 0), (27, 1, .istore_n 1), (28, 1, .iload_n 1), (29, 2, .bipush 20), (31, 3, .if_icmp .ge 21), (34, 1, .aload_n 0), (35, 3, .getfield 25), (38, 1, .iload_n 1), (39, 1, .aload_n 0), (40, 3, .getfield 29), (43, 1, .iload_n 1), (44, 1, .laload), (45, 1, .lastore), (46, 3, .iinc 1 1), (49, 3, .goto (-21)), (52, 1, .aload_n 0), (53, 3, .invokevirtual 89), (56, 1, .aload_n 0), (57, 1, .iconst 0), (58, 3, .putfield 92), (61, 1, .return_)]
theorem hX10_settles : osDs cX10_settles KX10_settles := by
  show ∀ q ∈ KX10_settles, decode cX10_settles q.1 = .ok (q.2.2, q.2.1)
  decide +kernel
def bX10_settles_28 (N : Nat) (c28 : Nat × Int32 → osM Unit) (l0 : Nat) (l1 : Int32) : osM Unit := osite ((20 : Int32) ≤ l1) (osbind (osrecv [8] l0 (qX10_takesDraft N l0)) fun _ => osbind (osput [8] 8 l0 (.int (0 : Int32))) fun _ => osret ()) (osbind (osgR [8] 6 l0) fun x1 => osbind (osgR [8] 7 l0) fun x2 => osbind (osaJ 2 x2 l1) fun x3 => osbind (ossJ 2 x1 l1 x3) fun _ => c28 (l0, (l1 + (1 : Int32))))
def qX10_settles_28 (N : Nat) : Nat × Int32 → osM Unit := osloop (fun ih p => bX10_settles_28 N ih p.1 p.2) N
def bX10_settles_2 (N : Nat) (c2 : Nat × Int32 → osM Unit) (l0 : Nat) (l1 : Int32) : osM Unit := osite ((98 : Int32) ≤ l1) (qX10_settles_28 N (l0, (0 : Int32))) (osbind (osgR [8] 1 l0) fun x1 => osbind (osgR [8] 2 l0) fun x2 => osbind (osaI 0 x2 l1) fun x3 => osbind (ossI 0 x1 l1 x3) fun _ => c2 (l0, (l1 + (1 : Int32))))
def qX10_settles_2 (N : Nat) : Nat × Int32 → osM Unit := osloop (fun ih p => bX10_settles_2 N ih p.1 p.2) N
def qX10_settles (N : Nat) (l0 : Nat) : osM Unit := qX10_settles_2 N (l0, (0 : Int32))
set_option maxRecDepth 100000 in
set_option maxHeartbeats 4000000 in
theorem tX10_settles_28 (N : Nat) (c28 : Nat × Int32 → osM Unit) (g28 : ∀ (l0 : Nat) (l1 : Int32), osW (osFinM (fun _ : Unit => none) 0 0) yX10_settles cX10_settles 2 none [] { frames := 1, cells := 0, slots := 0, locals := 21 } 0 0 28 [(0, .ref l0), (1, .int l1)] [] (c28 (l0, l1))) (l0 : Nat) (l1 : Int32) : osW (osFinM (fun _ : Unit => none) 0 0) yX10_settles cX10_settles 2 none [] { frames := 1, cells := 0, slots := 0, locals := 21 } 0 0 28 [(0, .ref l0), (1, .int l1)] [] (bX10_settles_28 N c28 l0 l1) := by
  unfold bX10_settles_28
  refine os_iload_n (i := 1) (q := 1) (v := l1) 1 rfl rfl (hX10_settles.at 17 rfl rfl) ?_
  refine os_bipush (i := 20) (v := (20 : Int32)) rfl (hX10_settles.at 18 rfl rfl) ?_
  refine os_icmp_ge (off := 21) (tgt := 52) rfl (hX10_settles.at 19 rfl rfl) ?_ ?_
  · refine os_aload_n (i := 0) (q := 0) (v := l0) 0 rfl rfl (hX10_settles.at 30 rfl rfl) ?_
    refine os_callV (cis := [8]) (b := l0) (As := []) (st := []) (st' := (fun _ => [])) sl8_X10_takesDraft_X10_takesDraft mdX10_takesDraft wd1598 wd1600 (sX10_takesDraft N l0 ) rfl rfl (fun _ => rfl) (Nat.le_of_ble_eq_true rfl) (Nat.le_of_ble_eq_true rfl) (Nat.le_of_ble_eq_true rfl) rfl (Nat.le_of_ble_eq_true rfl) rfl (Nat.le_of_ble_eq_true rfl) (hX10_settles.at 31 rfl rfl) (fun _ => ?_)
    refine os_aload_n (i := 0) (q := 0) (v := l0) 0 rfl rfl (hX10_settles.at 32 rfl rfl) ?_
    refine os_iconst (i := 0) (v := (0 : Int32)) rfl (hX10_settles.at 33 rfl rfl) ?_
    refine os_put fX10_92 rfl rfl (hX10_settles.at 34 rfl rfl) ?_
    exact os_vret (Nat.le_of_ble_eq_true rfl) (Nat.le_of_ble_eq_true rfl) (hX10_settles.at 35 rfl rfl).1
  · refine os_aload_n (i := 0) (q := 0) (v := l0) 0 rfl rfl (hX10_settles.at 20 rfl rfl) ?_
    refine os_getR fX10_25 (hX10_settles.at 21 rfl rfl) (fun x1 => ?_)
    refine os_iload_n (i := 1) (q := 1) (v := l1) 1 rfl rfl (hX10_settles.at 22 rfl rfl) ?_
    refine os_aload_n (i := 0) (q := 0) (v := l0) 0 rfl rfl (hX10_settles.at 23 rfl rfl) ?_
    refine os_getR fX10_29 (hX10_settles.at 24 rfl rfl) (fun x2 => ?_)
    refine os_iload_n (i := 1) (q := 1) (v := l1) 1 rfl rfl (hX10_settles.at 25 rfl rfl) ?_
    refine os_laload (hX10_settles.at 26 rfl rfl) (fun x3 => ?_)
    refine os_lastore (hX10_settles.at 27 rfl rfl) ?_
    refine os_iinc (i := 1) (d := 1) (x := l1) (v := (1 : Int32)) (lv' := [(1, .int (l1 + (1 : Int32))), (0, .ref l0)]) 1 rfl rfl (Nat.le_of_ble_eq_true rfl) rfl (hX10_settles.at 28 rfl rfl) ?_
    refine os_goto (off := (-21)) (tgt := 28) rfl (hX10_settles.at 29 rfl rfl) ?_
    exact osW.sub [1, 0] rfl (g28 l0 (l1 + (1 : Int32)))
set_option maxRecDepth 100000 in
set_option maxHeartbeats 4000000 in
theorem sX10_settles_28 (N : Nat) (l0 : Nat) (l1 : Int32) : osW (osFinM (fun _ : Unit => none) 0 0) yX10_settles cX10_settles 2 none [] { frames := 1, cells := 0, slots := 0, locals := 21 } 0 0 28 [(0, .ref l0), (1, .int l1)] [] (qX10_settles_28 N (l0, l1)) :=
  osloop_W (lvf := fun p => [(0, .ref p.1), (1, .int p.2)]) (stf := fun p => []) (fun ih g p => tX10_settles_28 N ih (fun l0 l1 => g (l0, l1)) p.1 p.2) N (l0, l1)
set_option maxRecDepth 100000 in
set_option maxHeartbeats 4000000 in
theorem tX10_settles_2 (N : Nat) (c2 : Nat × Int32 → osM Unit) (g2 : ∀ (l0 : Nat) (l1 : Int32), osW (osFinM (fun _ : Unit => none) 0 0) yX10_settles cX10_settles 2 none [] { frames := 1, cells := 0, slots := 0, locals := 21 } 0 0 2 [(0, .ref l0), (1, .int l1)] [] (c2 (l0, l1))) (l0 : Nat) (l1 : Int32) : osW (osFinM (fun _ : Unit => none) 0 0) yX10_settles cX10_settles 2 none [] { frames := 1, cells := 0, slots := 0, locals := 21 } 0 0 2 [(0, .ref l0), (1, .int l1)] [] (bX10_settles_2 N c2 l0 l1) := by
  unfold bX10_settles_2
  refine os_iload_n (i := 1) (q := 1) (v := l1) 1 rfl rfl (hX10_settles.at 2 rfl rfl) ?_
  refine os_bipush (i := 98) (v := (98 : Int32)) rfl (hX10_settles.at 3 rfl rfl) ?_
  refine os_icmp_ge (off := 21) (tgt := 26) rfl (hX10_settles.at 4 rfl rfl) ?_ ?_
  · refine os_iconst (i := 0) (v := (0 : Int32)) rfl (hX10_settles.at 15 rfl rfl) ?_
    refine os_istore_n (i := 1) (q := 1) rfl (lv' := [(1, .int (0 : Int32)), (0, .ref l0)]) (Nat.le_of_ble_eq_true rfl) rfl (hX10_settles.at 16 rfl rfl) ?_
    exact osW.sub [1, 0] rfl (sX10_settles_28 N l0 (0 : Int32))
  · refine os_aload_n (i := 0) (q := 0) (v := l0) 0 rfl rfl (hX10_settles.at 5 rfl rfl) ?_
    refine os_getR fX10_7 (hX10_settles.at 6 rfl rfl) (fun x1 => ?_)
    refine os_iload_n (i := 1) (q := 1) (v := l1) 1 rfl rfl (hX10_settles.at 7 rfl rfl) ?_
    refine os_aload_n (i := 0) (q := 0) (v := l0) 0 rfl rfl (hX10_settles.at 8 rfl rfl) ?_
    refine os_getR fX10_13 (hX10_settles.at 9 rfl rfl) (fun x2 => ?_)
    refine os_iload_n (i := 1) (q := 1) (v := l1) 1 rfl rfl (hX10_settles.at 10 rfl rfl) ?_
    refine os_iaload (hX10_settles.at 11 rfl rfl) (fun x3 => ?_)
    refine os_iastore (hX10_settles.at 12 rfl rfl) ?_
    refine os_iinc (i := 1) (d := 1) (x := l1) (v := (1 : Int32)) (lv' := [(1, .int (l1 + (1 : Int32))), (0, .ref l0)]) 1 rfl rfl (Nat.le_of_ble_eq_true rfl) rfl (hX10_settles.at 13 rfl rfl) ?_
    refine os_goto (off := (-21)) (tgt := 2) rfl (hX10_settles.at 14 rfl rfl) ?_
    exact osW.sub [1, 0] rfl (g2 l0 (l1 + (1 : Int32)))
set_option maxRecDepth 100000 in
set_option maxHeartbeats 4000000 in
theorem sX10_settles_2 (N : Nat) (l0 : Nat) (l1 : Int32) : osW (osFinM (fun _ : Unit => none) 0 0) yX10_settles cX10_settles 2 none [] { frames := 1, cells := 0, slots := 0, locals := 21 } 0 0 2 [(0, .ref l0), (1, .int l1)] [] (qX10_settles_2 N (l0, l1)) :=
  osloop_W (lvf := fun p => [(0, .ref p.1), (1, .int p.2)]) (stf := fun p => []) (fun ih g p => tX10_settles_2 N ih (fun l0 l1 => g (l0, l1)) p.1 p.2) N (l0, l1)
set_option maxRecDepth 100000 in
set_option maxHeartbeats 4000000 in
theorem sX10_settles (N : Nat) (l0 : Nat) : osMet yX10_settles cX10_settles 2 none 1 21 0 0 (fun _ : Unit => none) [.ref l0] (qX10_settles N l0) := by
  refine osMet.of plX10 (Nat.le_of_ble_eq_true rfl) (osW.rw (lv2 := [(0, .ref l0)]) ?_ rfl rfl rfl)
  unfold qX10_settles
  refine os_iconst (i := 0) (v := (0 : Int32)) rfl (hX10_settles.at 0 rfl rfl) ?_
  refine os_istore_n (i := 1) (q := 1) rfl (lv' := [(1, .int (0 : Int32)), (0, .ref l0)]) (Nat.le_of_ble_eq_true rfl) rfl (hX10_settles.at 1 rfl rfl) ?_
  exact osW.sub [1, 0] rfl (sX10_settles_2 N l0 (0 : Int32))
-- X10_feed
def KX10_feed : List (Nat × Nat × Instr) := [(0, 1, .aload_n 0), (1, 1, .iconst 0), (2, 3, .putfield 82), (5, 1, .aload_n 0), (6, 3, .getfield 138), (9, 2, .bipush 20), (11, 1, .iadd), (12, 3, .sipush 1000), (15, 3, .if_icmp .le 9), (18, 1, .aload_n 0), (19, 1, .iconst 1), (20, 3, .invokevirtual 141), (23, 1, .ireturn), (24, 1, .aload_n 0), (25, 1, .iload_n 1), (26, 3, .invokevirtual 145), (29, 1, .aload_n 0), (30, 1, .iload_n 2), (31, 3, .invokevirtual 145), (34, 1, .aload_n 0), (35, 1, .iload_n 3), (36, 3, .invokevirtual 145), (39, 1, .aload_n 0), (40, 2, .iload 4), (42, 3, .invokevirtual 145), (45, 1, .aload_n 0), (46, 2, .iload 5), (48, 3, .invokevirtual 145), (51, 1, .aload_n 0), (52, 3, .getfield 138), (55, 1, .ireturn)]
theorem hX10_feed : osDs cX10_feed KX10_feed := by
  show ∀ q ∈ KX10_feed, decode cX10_feed q.1 = .ok (q.2.2, q.2.1)
  decide +kernel
def qX10_feed (N : Nat) (l0 : Nat) (l1 : Int32) (l2 : Int32) (l3 : Int32) (l4 : Int32) (l5 : Int32) : osM Int32 := osbind (osput [8] 0 l0 (.int (0 : Int32))) fun _ => osbind (osgI [8] 10 l0) fun x1 => osite ((x1 + (20 : Int32)) ≤ (1000 : Int32)) (osbind (osrecv [8] l0 (qX10_lays N l0 l1)) fun _ => osbind (osrecv [8] l0 (qX10_lays N l0 l2)) fun _ => osbind (osrecv [8] l0 (qX10_lays N l0 l3)) fun _ => osbind (osrecv [8] l0 (qX10_lays N l0 l4)) fun _ => osbind (osrecv [8] l0 (qX10_lays N l0 l5)) fun _ => osbind (osgI [8] 10 l0) fun x2 => osret x2) (osbind (osrecv [8] l0 (qX10_refuse N l0 (1 : Int32))) fun x3 => osret x3)
set_option maxRecDepth 100000 in
set_option maxHeartbeats 4000000 in
theorem sX10_feed (N : Nat) (l0 : Nat) (l1 : Int32) (l2 : Int32) (l3 : Int32) (l4 : Int32) (l5 : Int32) : osMet yX10_feed cX10_feed 6 (some .int) 1 22 0 0 (fun r : Int32 => some (.int r)) [.ref l0, .int l1, .int l2, .int l3, .int l4, .int l5] (qX10_feed N l0 l1 l2 l3 l4 l5) := by
  refine osMet.of plX10 (Nat.le_of_ble_eq_true rfl) (osW.rw (lv2 := [(0, .ref l0), (1, .int l1), (2, .int l2), (3, .int l3), (4, .int l4), (5, .int l5)]) ?_ rfl rfl rfl)
  unfold qX10_feed
  refine os_aload_n (i := 0) (q := 0) (v := l0) 0 rfl rfl (hX10_feed.at 0 rfl rfl) ?_
  refine os_iconst (i := 0) (v := (0 : Int32)) rfl (hX10_feed.at 1 rfl rfl) ?_
  refine os_put fX10_82 rfl rfl (hX10_feed.at 2 rfl rfl) ?_
  refine os_aload_n (i := 0) (q := 0) (v := l0) 0 rfl rfl (hX10_feed.at 3 rfl rfl) ?_
  refine os_getI fX10_138 (hX10_feed.at 4 rfl rfl) (fun x1 => ?_)
  refine os_bipush (i := 20) (v := (20 : Int32)) rfl (hX10_feed.at 5 rfl rfl) ?_
  refine os_iadd (hX10_feed.at 6 rfl rfl) ?_
  refine os_sipush (i := 1000) (v := (1000 : Int32)) rfl (hX10_feed.at 7 rfl rfl) ?_
  refine os_icmp_le (off := 9) (tgt := 24) rfl (hX10_feed.at 8 rfl rfl) ?_ ?_
  · refine os_aload_n (i := 0) (q := 0) (v := l0) 0 rfl rfl (hX10_feed.at 13 rfl rfl) ?_
    refine os_iload_n (i := 1) (q := 1) (v := l1) 1 rfl rfl (hX10_feed.at 14 rfl rfl) ?_
    refine os_callV (cis := [8]) (b := l0) (As := [.int l1]) (st := []) (st' := (fun _ => [])) sl8_X10_lays_X10_lays mdX10_lays wd1746 wd1748 (sX10_lays N l0 l1) rfl rfl (fun _ => rfl) (Nat.le_of_ble_eq_true rfl) (Nat.le_of_ble_eq_true rfl) (Nat.le_of_ble_eq_true rfl) rfl (Nat.le_of_ble_eq_true rfl) rfl (Nat.le_of_ble_eq_true rfl) (hX10_feed.at 15 rfl rfl) (fun _ => ?_)
    refine os_aload_n (i := 0) (q := 0) (v := l0) 0 rfl rfl (hX10_feed.at 16 rfl rfl) ?_
    refine os_iload_n (i := 2) (q := 2) (v := l2) 2 rfl rfl (hX10_feed.at 17 rfl rfl) ?_
    refine os_callV (cis := [8]) (b := l0) (As := [.int l2]) (st := []) (st' := (fun _ => [])) sl8_X10_lays_X10_lays mdX10_lays wd1746 wd1748 (sX10_lays N l0 l2) rfl rfl (fun _ => rfl) (Nat.le_of_ble_eq_true rfl) (Nat.le_of_ble_eq_true rfl) (Nat.le_of_ble_eq_true rfl) rfl (Nat.le_of_ble_eq_true rfl) rfl (Nat.le_of_ble_eq_true rfl) (hX10_feed.at 18 rfl rfl) (fun _ => ?_)
    refine os_aload_n (i := 0) (q := 0) (v := l0) 0 rfl rfl (hX10_feed.at 19 rfl rfl) ?_
    refine os_iload_n (i := 3) (q := 3) (v := l3) 3 rfl rfl (hX10_feed.at 20 rfl rfl) ?_
    refine os_callV (cis := [8]) (b := l0) (As := [.int l3]) (st := []) (st' := (fun _ => [])) sl8_X10_lays_X10_lays mdX10_lays wd1746 wd1748 (sX10_lays N l0 l3) rfl rfl (fun _ => rfl) (Nat.le_of_ble_eq_true rfl) (Nat.le_of_ble_eq_true rfl) (Nat.le_of_ble_eq_true rfl) rfl (Nat.le_of_ble_eq_true rfl) rfl (Nat.le_of_ble_eq_true rfl) (hX10_feed.at 21 rfl rfl) (fun _ => ?_)
    refine os_aload_n (i := 0) (q := 0) (v := l0) 0 rfl rfl (hX10_feed.at 22 rfl rfl) ?_
    refine os_iload (v := l4) 4 rfl (hX10_feed.at 23 rfl rfl) ?_
    refine os_callV (cis := [8]) (b := l0) (As := [.int l4]) (st := []) (st' := (fun _ => [])) sl8_X10_lays_X10_lays mdX10_lays wd1746 wd1748 (sX10_lays N l0 l4) rfl rfl (fun _ => rfl) (Nat.le_of_ble_eq_true rfl) (Nat.le_of_ble_eq_true rfl) (Nat.le_of_ble_eq_true rfl) rfl (Nat.le_of_ble_eq_true rfl) rfl (Nat.le_of_ble_eq_true rfl) (hX10_feed.at 24 rfl rfl) (fun _ => ?_)
    refine os_aload_n (i := 0) (q := 0) (v := l0) 0 rfl rfl (hX10_feed.at 25 rfl rfl) ?_
    refine os_iload (v := l5) 5 rfl (hX10_feed.at 26 rfl rfl) ?_
    refine os_callV (cis := [8]) (b := l0) (As := [.int l5]) (st := []) (st' := (fun _ => [])) sl8_X10_lays_X10_lays mdX10_lays wd1746 wd1748 (sX10_lays N l0 l5) rfl rfl (fun _ => rfl) (Nat.le_of_ble_eq_true rfl) (Nat.le_of_ble_eq_true rfl) (Nat.le_of_ble_eq_true rfl) rfl (Nat.le_of_ble_eq_true rfl) rfl (Nat.le_of_ble_eq_true rfl) (hX10_feed.at 27 rfl rfl) (fun _ => ?_)
    refine os_aload_n (i := 0) (q := 0) (v := l0) 0 rfl rfl (hX10_feed.at 28 rfl rfl) ?_
    refine os_getI fX10_138 (hX10_feed.at 29 rfl rfl) (fun x2 => ?_)
    exact os_iret (Nat.le_of_ble_eq_true rfl) (Nat.le_of_ble_eq_true rfl) (hX10_feed.at 30 rfl rfl).1
  · refine os_aload_n (i := 0) (q := 0) (v := l0) 0 rfl rfl (hX10_feed.at 9 rfl rfl) ?_
    refine os_iconst (i := 1) (v := (1 : Int32)) rfl (hX10_feed.at 10 rfl rfl) ?_
    refine os_callV (cis := [8]) (b := l0) (As := [.int (1 : Int32)]) (st := []) (st' := (fun r => .int r :: [])) sl8_X10_refuse_X10_refuse mdX10_refuse wd1742 wd1744 (sX10_refuse N l0 (1 : Int32)) rfl rfl (fun _ => rfl) (Nat.le_of_ble_eq_true rfl) (Nat.le_of_ble_eq_true rfl) (Nat.le_of_ble_eq_true rfl) rfl (Nat.le_of_ble_eq_true rfl) rfl (Nat.le_of_ble_eq_true rfl) (hX10_feed.at 11 rfl rfl) (fun x3 => ?_)
    exact os_iret (Nat.le_of_ble_eq_true rfl) (Nat.le_of_ble_eq_true rfl) (hX10_feed.at 12 rfl rfl).1
-- X10_readBorder
def KX10_readBorder : List (Nat × Nat × Instr) := [(0, 1, .aload_n 0), (1, 3, .invokevirtual 255), (4, 3, .ifCond .ne 5), (7, 1, .iconst 0), (8, 1, .ireturn), (9, 1, .aload_n 0), (10, 3, .getfield 245), (13, 1, .istore_n 1), (14, 1, .aload_n 0), (15, 3, .invokevirtual 255), (18, 3, .ifCond .ne 5), (21, 1, .iconst 0), (22, 1, .ireturn), (23, 1, .aload_n 0), (24, 3, .getfield 245), (27, 1, .istore_n 2), (28, 1, .iload_n 1), (29, 1, .iload_n 2), (30, 3, .if_icmp .eq 19), (33, 1, .aload_n 0), (34, 3, .getfield 13), (37, 2, .bipush 50), (39, 1, .iload_n 1), (40, 1, .iadd), (41, 1, .iaload), (42, 1, .iload_n 2), (43, 3, .invokestatic 111), (46, 3, .ifCond .eq 13), (49, 1, .aload_n 0), (50, 1, .iconst 3), (51, 1, .aload_n 0), (52, 3, .getfield 164), (55, 3, .invokevirtual 195), (58, 1, .ireturn), (59, 1, .aload_n 0), (60, 3, .getfield 164), (63, 1, .istore_n 3), (64, 1, .aload_n 0), (65, 3, .getfield 13), (68, 1, .iconst 2), (69, 1, .iload_n 1), (70, 1, .iadd), (71, 1, .iaload), (72, 1, .iconst 2), (73, 3, .if_icmp .eq 19), (76, 1, .aload_n 0), (77, 3, .getfield 13), (80, 1, .iconst 2), (81, 1, .iload_n 2), (82, 1, .iadd), (83, 1, .iaload), (84, 1, .iconst 2), (85, 3, .if_icmp .eq 7), (88, 1, .iconst 1), (89, 3, .goto 4), (92, 1, .iconst 0), (93, 2, .istore 4), (95, 1, .aload_n 0), (96, 3, .getfield 13), (99, 1, .iconst 2), (100, 1, .iload_n 1), (101, 1, .iadd), (102, 1, .iaload), (103, 3, .ifCond .eq 18), (106, 1, .aload_n 0), (107, 3, .getfield 13), (110, 1, .iconst 2), (111, 1, .iload_n 2), (112, 1, .iadd), (113, 1, .iaload), (114, 3, .ifCond .eq 7), (117, 1, .iconst 1), (118, 3, .goto 4), (121, 1, .iconst 0), (122, 2, .istore 5), (124, 1, .aload_n 0), (125, 3, .ldc2_w 212), (128, 3, .invokevirtual 252), (131, 3, .ifCond .eq 14), (134, 1, .iconst 0), (135, 2, .istore 5), (137, 1, .aload_n 0), (138, 3, .getfield 164), (141, 1, .istore_n 3), (142, 3, .goto 21), (145, 1, .aload_n 0), (146, 3, .ldc2_w 214), (149, 3, .invokevirtual 252), (152, 3, .ifCond .eq 11), (155, 1, .iconst 0), (156, 2, .istore 4), (158, 1, .aload_n 0), (159, 3, .getfield 164), (162, 1, .istore_n 3), (163, 2, .iload 4), (165, 3, .ifCond .ne 15), (168, 2, .iload 5), (170, 3, .ifCond .ne 10), (173, 1, .aload_n 0), (174, 1, .iconst 4), (175, 1, .iload_n 3), (176, 3, .invokevirtual 195), (179, 1, .ireturn), (180, 1, .aload_n 0), (181, 2, .bipush 50), (183, 1, .iload_n 1), (184, 1, .iload_n 2), (185, 3, .invokevirtual 258), (188, 2, .iload 4), (190, 3, .ifCond .eq 11), (193, 1, .aload_n 0), (194, 2, .bipush 66), (196, 1, .iload_n 1), (197, 1, .iload_n 2), (198, 3, .invokevirtual 258), (201, 2, .iload 5), (203, 3, .ifCond .eq 11), (206, 1, .aload_n 0), (207, 2, .bipush 82), (209, 1, .iload_n 1), (210, 1, .iload_n 2), (211, 3, .invokevirtual 258), (214, 1, .iconst 1), (215, 1, .ireturn)]
theorem hX10_readBorder : osDs cX10_readBorder KX10_readBorder := by
  show ∀ q ∈ KX10_readBorder, decode cX10_readBorder q.1 = .ok (q.2.2, q.2.1)
  decide +kernel
def qX10_readBorder_49 (N : Nat) (l0 : Nat) : osM Int32 := osbind (osgI [8] 13 l0) fun x1 => osbind (osrecv [8] l0 (qX10_fails N l0 (3 : Int32) x1)) fun x2 => osretZ x2
def qX10_readBorder_214 (N : Nat) : osM Int32 := osretZ (1 : Int32)
def qX10_readBorder_201 (N : Nat) (l0 : Nat) (l1 : Int32) (l2 : Int32) (l5 : Int32) : osM Int32 := osite (l5 = 0) (qX10_readBorder_214 N ) (osbind (osrecv [8] l0 (qX10_joins N l0 (82 : Int32) l1 l2)) fun _ => qX10_readBorder_214 N )
def qX10_readBorder_180 (N : Nat) (l0 : Nat) (l1 : Int32) (l2 : Int32) (l4 : Int32) (l5 : Int32) : osM Int32 := osbind (osrecv [8] l0 (qX10_joins N l0 (50 : Int32) l1 l2)) fun _ => osite (l4 = 0) (qX10_readBorder_201 N l0 l1 l2 l5) (osbind (osrecv [8] l0 (qX10_joins N l0 (66 : Int32) l1 l2)) fun _ => qX10_readBorder_201 N l0 l1 l2 l5)
def qX10_readBorder_163 (N : Nat) (l0 : Nat) (l1 : Int32) (l2 : Int32) (l3 : Int32) (l4 : Int32) (l5 : Int32) : osM Int32 := osite (l4 = 0) (osite (l5 = 0) (osbind (osrecv [8] l0 (qX10_fails N l0 (4 : Int32) l3)) fun x1 => osretZ x1) (qX10_readBorder_180 N l0 l1 l2 l4 l5)) (qX10_readBorder_180 N l0 l1 l2 l4 l5)
def qX10_readBorder_122 (N : Nat) (l0 : Nat) (l1 : Int32) (l2 : Int32) (l3 : Int32) (l4 : Int32) (k0 : Int32) : osM Int32 := osbind (osrecv [8] l0 (qX10_takesIf N l0 (51641 : Int64))) fun x1 => osite (x1 = 0) (osbind (osrecv [8] l0 (qX10_takesIf N l0 (6689972 : Int64))) fun x2 => osite (x2 = 0) (qX10_readBorder_163 N l0 l1 l2 l3 l4 k0) (osbind (osgI [8] 13 l0) fun x3 => qX10_readBorder_163 N l0 l1 l2 x3 (0 : Int32) k0)) (osbind (osgI [8] 13 l0) fun x4 => qX10_readBorder_163 N l0 l1 l2 x4 l4 (0 : Int32))
def qX10_readBorder_121 (N : Nat) (l0 : Nat) (l1 : Int32) (l2 : Int32) (l3 : Int32) (l4 : Int32) : osM Int32 := qX10_readBorder_122 N l0 l1 l2 l3 l4 (0 : Int32)
def qX10_readBorder_93 (N : Nat) (l0 : Nat) (l1 : Int32) (l2 : Int32) (l3 : Int32) (k0 : Int32) : osM Int32 := osbind (osgR [8] 2 l0) fun x1 => osbind (osaI 0 x1 ((2 : Int32) + l1)) fun x2 => osite (x2 = 0) (qX10_readBorder_121 N l0 l1 l2 l3 k0) (osbind (osgR [8] 2 l0) fun x3 => osbind (osaI 0 x3 ((2 : Int32) + l2)) fun x4 => osite (x4 = 0) (qX10_readBorder_121 N l0 l1 l2 l3 k0) (qX10_readBorder_122 N l0 l1 l2 l3 k0 (1 : Int32)))
def qX10_readBorder_92 (N : Nat) (l0 : Nat) (l1 : Int32) (l2 : Int32) (l3 : Int32) : osM Int32 := qX10_readBorder_93 N l0 l1 l2 l3 (0 : Int32)
def qX10_readBorder (N : Nat) (l0 : Nat) : osM Int32 := osbind (osrecv [8] l0 (qX10_readDraftArea N l0)) fun x1 => osite (x1 = 0) (osretZ (0 : Int32)) (osbind (osgI [8] 19 l0) fun x2 => osbind (osrecv [8] l0 (qX10_readDraftArea N l0)) fun x3 => osite (x3 = 0) (osretZ (0 : Int32)) (osbind (osgI [8] 19 l0) fun x4 => osite (x2 = x4) (qX10_readBorder_49 N l0) (osbind (osgR [8] 2 l0) fun x5 => osbind (osaI 0 x5 ((50 : Int32) + x2)) fun x6 => osbind (qX10_has N x6 x4) fun x7 => osite (x7 = 0) (osbind (osgI [8] 13 l0) fun x8 => osbind (osgR [8] 2 l0) fun x9 => osbind (osaI 0 x9 ((2 : Int32) + x2)) fun x10 => osite (x10 = (2 : Int32)) (qX10_readBorder_92 N l0 x2 x4 x8) (osbind (osgR [8] 2 l0) fun x11 => osbind (osaI 0 x11 ((2 : Int32) + x4)) fun x12 => osite (x12 = (2 : Int32)) (qX10_readBorder_92 N l0 x2 x4 x8) (qX10_readBorder_93 N l0 x2 x4 x8 (1 : Int32)))) (qX10_readBorder_49 N l0))))
set_option maxRecDepth 100000 in
set_option maxHeartbeats 4000000 in
theorem sX10_readBorder_49 (N : Nat) (l0 : Nat) : osW (osFinM (fun r : Int32 => some (.int r)) 0 0) yX10_readBorder cX10_readBorder 6 (some .boolean) [] { frames := 7, cells := 0, slots := 0, locals := 144 } 0 0 49 [(0, .ref l0)] [] (qX10_readBorder_49 N l0) := by
  unfold qX10_readBorder_49
  refine os_aload_n (i := 0) (q := 0) (v := l0) 0 rfl rfl (hX10_readBorder.at 28 rfl rfl) ?_
  refine os_iconst (i := 3) (v := (3 : Int32)) rfl (hX10_readBorder.at 29 rfl rfl) ?_
  refine os_aload_n (i := 0) (q := 0) (v := l0) 0 rfl rfl (hX10_readBorder.at 30 rfl rfl) ?_
  refine os_getI fX10_164 (hX10_readBorder.at 31 rfl rfl) (fun x1 => ?_)
  refine os_callV (cis := [8]) (b := l0) (As := [.int (3 : Int32), .int x1]) (st := []) (st' := (fun r => .int r :: [])) sl8_X10_fails_X10_fails mdX10_fails wd1806 wd1808 (sX10_fails N l0 (3 : Int32) x1) rfl rfl (fun _ => rfl) (Nat.le_of_ble_eq_true rfl) (Nat.le_of_ble_eq_true rfl) (Nat.le_of_ble_eq_true rfl) rfl (Nat.le_of_ble_eq_true rfl) rfl (Nat.le_of_ble_eq_true rfl) (hX10_readBorder.at 32 rfl rfl) (fun x2 => ?_)
  exact os_zret (Nat.le_of_ble_eq_true rfl) (Nat.le_of_ble_eq_true rfl) (hX10_readBorder.at 33 rfl rfl).1
set_option maxRecDepth 100000 in
set_option maxHeartbeats 4000000 in
theorem sX10_readBorder_214 (N : Nat) : osW (osFinM (fun r : Int32 => some (.int r)) 0 0) yX10_readBorder cX10_readBorder 6 (some .boolean) [] { frames := 7, cells := 0, slots := 0, locals := 144 } 0 0 214 [] [] (qX10_readBorder_214 N) := by
  unfold qX10_readBorder_214
  refine os_iconst (i := 1) (v := (1 : Int32)) rfl (hX10_readBorder.at 122 rfl rfl) ?_
  exact os_zret (Nat.le_of_ble_eq_true rfl) (Nat.le_of_ble_eq_true rfl) (hX10_readBorder.at 123 rfl rfl).1
set_option maxRecDepth 100000 in
set_option maxHeartbeats 4000000 in
theorem sX10_readBorder_201 (N : Nat) (l0 : Nat) (l1 : Int32) (l2 : Int32) (l5 : Int32) : osW (osFinM (fun r : Int32 => some (.int r)) 0 0) yX10_readBorder cX10_readBorder 6 (some .boolean) [] { frames := 7, cells := 0, slots := 0, locals := 144 } 0 0 201 [(0, .ref l0), (1, .int l1), (2, .int l2), (5, .int l5)] [] (qX10_readBorder_201 N l0 l1 l2 l5) := by
  unfold qX10_readBorder_201
  refine os_iload (v := l5) 3 rfl (hX10_readBorder.at 115 rfl rfl) ?_
  refine os_if_eq (off := 11) (tgt := 214) rfl (hX10_readBorder.at 116 rfl rfl) ?_ ?_
  · exact osW.sub [] rfl (sX10_readBorder_214 N )
  · refine os_aload_n (i := 0) (q := 0) (v := l0) 0 rfl rfl (hX10_readBorder.at 117 rfl rfl) ?_
    refine os_bipush (i := 82) (v := (82 : Int32)) rfl (hX10_readBorder.at 118 rfl rfl) ?_
    refine os_iload_n (i := 1) (q := 1) (v := l1) 1 rfl rfl (hX10_readBorder.at 119 rfl rfl) ?_
    refine os_iload_n (i := 2) (q := 2) (v := l2) 2 rfl rfl (hX10_readBorder.at 120 rfl rfl) ?_
    refine os_callV (cis := [8]) (b := l0) (As := [.int (82 : Int32), .int l1, .int l2]) (st := []) (st' := (fun _ => [])) sl8_X10_joins_X10_joins mdX10_joins wd1863 wd1865 (sX10_joins N l0 (82 : Int32) l1 l2) rfl rfl (fun _ => rfl) (Nat.le_of_ble_eq_true rfl) (Nat.le_of_ble_eq_true rfl) (Nat.le_of_ble_eq_true rfl) rfl (Nat.le_of_ble_eq_true rfl) rfl (Nat.le_of_ble_eq_true rfl) (hX10_readBorder.at 121 rfl rfl) (fun _ => ?_)
    exact osW.sub [] rfl (sX10_readBorder_214 N )
set_option maxRecDepth 100000 in
set_option maxHeartbeats 4000000 in
theorem sX10_readBorder_180 (N : Nat) (l0 : Nat) (l1 : Int32) (l2 : Int32) (l4 : Int32) (l5 : Int32) : osW (osFinM (fun r : Int32 => some (.int r)) 0 0) yX10_readBorder cX10_readBorder 6 (some .boolean) [] { frames := 7, cells := 0, slots := 0, locals := 144 } 0 0 180 [(0, .ref l0), (1, .int l1), (2, .int l2), (4, .int l4), (5, .int l5)] [] (qX10_readBorder_180 N l0 l1 l2 l4 l5) := by
  unfold qX10_readBorder_180
  refine os_aload_n (i := 0) (q := 0) (v := l0) 0 rfl rfl (hX10_readBorder.at 103 rfl rfl) ?_
  refine os_bipush (i := 50) (v := (50 : Int32)) rfl (hX10_readBorder.at 104 rfl rfl) ?_
  refine os_iload_n (i := 1) (q := 1) (v := l1) 1 rfl rfl (hX10_readBorder.at 105 rfl rfl) ?_
  refine os_iload_n (i := 2) (q := 2) (v := l2) 2 rfl rfl (hX10_readBorder.at 106 rfl rfl) ?_
  refine os_callV (cis := [8]) (b := l0) (As := [.int (50 : Int32), .int l1, .int l2]) (st := []) (st' := (fun _ => [])) sl8_X10_joins_X10_joins mdX10_joins wd1863 wd1865 (sX10_joins N l0 (50 : Int32) l1 l2) rfl rfl (fun _ => rfl) (Nat.le_of_ble_eq_true rfl) (Nat.le_of_ble_eq_true rfl) (Nat.le_of_ble_eq_true rfl) rfl (Nat.le_of_ble_eq_true rfl) rfl (Nat.le_of_ble_eq_true rfl) (hX10_readBorder.at 107 rfl rfl) (fun _ => ?_)
  refine os_iload (v := l4) 3 rfl (hX10_readBorder.at 108 rfl rfl) ?_
  refine os_if_eq (off := 11) (tgt := 201) rfl (hX10_readBorder.at 109 rfl rfl) ?_ ?_
  · exact osW.sub [0, 1, 2, 4] rfl (sX10_readBorder_201 N l0 l1 l2 l5)
  · refine os_aload_n (i := 0) (q := 0) (v := l0) 0 rfl rfl (hX10_readBorder.at 110 rfl rfl) ?_
    refine os_bipush (i := 66) (v := (66 : Int32)) rfl (hX10_readBorder.at 111 rfl rfl) ?_
    refine os_iload_n (i := 1) (q := 1) (v := l1) 1 rfl rfl (hX10_readBorder.at 112 rfl rfl) ?_
    refine os_iload_n (i := 2) (q := 2) (v := l2) 2 rfl rfl (hX10_readBorder.at 113 rfl rfl) ?_
    refine os_callV (cis := [8]) (b := l0) (As := [.int (66 : Int32), .int l1, .int l2]) (st := []) (st' := (fun _ => [])) sl8_X10_joins_X10_joins mdX10_joins wd1863 wd1865 (sX10_joins N l0 (66 : Int32) l1 l2) rfl rfl (fun _ => rfl) (Nat.le_of_ble_eq_true rfl) (Nat.le_of_ble_eq_true rfl) (Nat.le_of_ble_eq_true rfl) rfl (Nat.le_of_ble_eq_true rfl) rfl (Nat.le_of_ble_eq_true rfl) (hX10_readBorder.at 114 rfl rfl) (fun _ => ?_)
    exact osW.sub [0, 1, 2, 4] rfl (sX10_readBorder_201 N l0 l1 l2 l5)
set_option maxRecDepth 100000 in
set_option maxHeartbeats 4000000 in
theorem sX10_readBorder_163 (N : Nat) (l0 : Nat) (l1 : Int32) (l2 : Int32) (l3 : Int32) (l4 : Int32) (l5 : Int32) : osW (osFinM (fun r : Int32 => some (.int r)) 0 0) yX10_readBorder cX10_readBorder 6 (some .boolean) [] { frames := 7, cells := 0, slots := 0, locals := 144 } 0 0 163 [(0, .ref l0), (1, .int l1), (2, .int l2), (3, .int l3), (4, .int l4), (5, .int l5)] [] (qX10_readBorder_163 N l0 l1 l2 l3 l4 l5) := by
  unfold qX10_readBorder_163
  refine os_iload (v := l4) 4 rfl (hX10_readBorder.at 94 rfl rfl) ?_
  refine os_if_ne (off := 15) (tgt := 180) rfl (hX10_readBorder.at 95 rfl rfl) ?_ ?_
  · exact osW.sub [0, 1, 2, 4, 5] rfl (sX10_readBorder_180 N l0 l1 l2 l4 l5)
  · refine os_iload (v := l5) 5 rfl (hX10_readBorder.at 96 rfl rfl) ?_
    refine os_if_ne (off := 10) (tgt := 180) rfl (hX10_readBorder.at 97 rfl rfl) ?_ ?_
    · exact osW.sub [0, 1, 2, 4, 5] rfl (sX10_readBorder_180 N l0 l1 l2 l4 l5)
    · refine os_aload_n (i := 0) (q := 0) (v := l0) 0 rfl rfl (hX10_readBorder.at 98 rfl rfl) ?_
      refine os_iconst (i := 4) (v := (4 : Int32)) rfl (hX10_readBorder.at 99 rfl rfl) ?_
      refine os_iload_n (i := 3) (q := 3) (v := l3) 3 rfl rfl (hX10_readBorder.at 100 rfl rfl) ?_
      refine os_callV (cis := [8]) (b := l0) (As := [.int (4 : Int32), .int l3]) (st := []) (st' := (fun r => .int r :: [])) sl8_X10_fails_X10_fails mdX10_fails wd1806 wd1808 (sX10_fails N l0 (4 : Int32) l3) rfl rfl (fun _ => rfl) (Nat.le_of_ble_eq_true rfl) (Nat.le_of_ble_eq_true rfl) (Nat.le_of_ble_eq_true rfl) rfl (Nat.le_of_ble_eq_true rfl) rfl (Nat.le_of_ble_eq_true rfl) (hX10_readBorder.at 101 rfl rfl) (fun x1 => ?_)
      exact os_zret (Nat.le_of_ble_eq_true rfl) (Nat.le_of_ble_eq_true rfl) (hX10_readBorder.at 102 rfl rfl).1
set_option maxRecDepth 100000 in
set_option maxHeartbeats 4000000 in
theorem sX10_readBorder_122 (N : Nat) (l0 : Nat) (l1 : Int32) (l2 : Int32) (l3 : Int32) (l4 : Int32) (k0 : Int32) : osW (osFinM (fun r : Int32 => some (.int r)) 0 0) yX10_readBorder cX10_readBorder 6 (some .boolean) [] { frames := 7, cells := 0, slots := 0, locals := 144 } 0 0 122 [(0, .ref l0), (1, .int l1), (2, .int l2), (3, .int l3), (4, .int l4)] [.int k0] (qX10_readBorder_122 N l0 l1 l2 l3 l4 k0) := by
  unfold qX10_readBorder_122
  refine os_istore (i := 5) (lv' := [(5, .int k0), (0, .ref l0), (1, .int l1), (2, .int l2), (3, .int l3), (4, .int l4)]) (Nat.le_of_ble_eq_true rfl) rfl (hX10_readBorder.at 74 rfl rfl) ?_
  refine os_aload_n (i := 0) (q := 0) (v := l0) 1 rfl rfl (hX10_readBorder.at 75 rfl rfl) ?_
  refine os_ldc2 (v := (51641 : Int64)) wd1827 (hX10_readBorder.at 76 rfl rfl) ?_
  refine os_callV (cis := [8]) (b := l0) (As := [.long (51641 : Int64)]) (st := []) (st' := (fun r => .int r :: [])) sl8_X10_takesIf_X10_takesIf mdX10_takesIf wd1840 wd1842 (sX10_takesIf N l0 (51641 : Int64)) rfl rfl (fun _ => rfl) (Nat.le_of_ble_eq_true rfl) (Nat.le_of_ble_eq_true rfl) (Nat.le_of_ble_eq_true rfl) rfl (Nat.le_of_ble_eq_true rfl) rfl (Nat.le_of_ble_eq_true rfl) (hX10_readBorder.at 77 rfl rfl) (fun x1 => ?_)
  refine os_if_eq (off := 14) (tgt := 145) rfl (hX10_readBorder.at 78 rfl rfl) ?_ ?_
  · refine os_aload_n (i := 0) (q := 0) (v := l0) 1 rfl rfl (hX10_readBorder.at 85 rfl rfl) ?_
    refine os_ldc2 (v := (6689972 : Int64)) wd1828 (hX10_readBorder.at 86 rfl rfl) ?_
    refine os_callV (cis := [8]) (b := l0) (As := [.long (6689972 : Int64)]) (st := []) (st' := (fun r => .int r :: [])) sl8_X10_takesIf_X10_takesIf mdX10_takesIf wd1840 wd1842 (sX10_takesIf N l0 (6689972 : Int64)) rfl rfl (fun _ => rfl) (Nat.le_of_ble_eq_true rfl) (Nat.le_of_ble_eq_true rfl) (Nat.le_of_ble_eq_true rfl) rfl (Nat.le_of_ble_eq_true rfl) rfl (Nat.le_of_ble_eq_true rfl) (hX10_readBorder.at 87 rfl rfl) (fun x2 => ?_)
    refine os_if_eq (off := 11) (tgt := 163) rfl (hX10_readBorder.at 88 rfl rfl) ?_ ?_
    · exact osW.sub [1, 2, 3, 4, 5, 0] rfl (sX10_readBorder_163 N l0 l1 l2 l3 l4 k0)
    · refine os_iconst (i := 0) (v := (0 : Int32)) rfl (hX10_readBorder.at 89 rfl rfl) ?_
      refine os_istore (i := 4) (lv' := [(4, .int (0 : Int32)), (5, .int k0), (0, .ref l0), (1, .int l1), (2, .int l2), (3, .int l3)]) (Nat.le_of_ble_eq_true rfl) rfl (hX10_readBorder.at 90 rfl rfl) ?_
      refine os_aload_n (i := 0) (q := 0) (v := l0) 2 rfl rfl (hX10_readBorder.at 91 rfl rfl) ?_
      refine os_getI fX10_164 (hX10_readBorder.at 92 rfl rfl) (fun x3 => ?_)
      refine os_istore_n (i := 3) (q := 3) rfl (lv' := [(3, .int x3), (4, .int (0 : Int32)), (5, .int k0), (0, .ref l0), (1, .int l1), (2, .int l2)]) (Nat.le_of_ble_eq_true rfl) rfl (hX10_readBorder.at 93 rfl rfl) ?_
      exact osW.sub [3, 4, 5, 0, 1, 2] rfl (sX10_readBorder_163 N l0 l1 l2 x3 (0 : Int32) k0)
  · refine os_iconst (i := 0) (v := (0 : Int32)) rfl (hX10_readBorder.at 79 rfl rfl) ?_
    refine os_istore (i := 5) (lv' := [(5, .int (0 : Int32)), (0, .ref l0), (1, .int l1), (2, .int l2), (3, .int l3), (4, .int l4)]) (Nat.le_of_ble_eq_true rfl) rfl (hX10_readBorder.at 80 rfl rfl) ?_
    refine os_aload_n (i := 0) (q := 0) (v := l0) 1 rfl rfl (hX10_readBorder.at 81 rfl rfl) ?_
    refine os_getI fX10_164 (hX10_readBorder.at 82 rfl rfl) (fun x4 => ?_)
    refine os_istore_n (i := 3) (q := 3) rfl (lv' := [(3, .int x4), (5, .int (0 : Int32)), (0, .ref l0), (1, .int l1), (2, .int l2), (4, .int l4)]) (Nat.le_of_ble_eq_true rfl) rfl (hX10_readBorder.at 83 rfl rfl) ?_
    refine os_goto (off := 21) (tgt := 163) rfl (hX10_readBorder.at 84 rfl rfl) ?_
    exact osW.sub [2, 3, 4, 0, 5, 1] rfl (sX10_readBorder_163 N l0 l1 l2 x4 l4 (0 : Int32))
set_option maxRecDepth 100000 in
set_option maxHeartbeats 4000000 in
theorem sX10_readBorder_121 (N : Nat) (l0 : Nat) (l1 : Int32) (l2 : Int32) (l3 : Int32) (l4 : Int32) : osW (osFinM (fun r : Int32 => some (.int r)) 0 0) yX10_readBorder cX10_readBorder 6 (some .boolean) [] { frames := 7, cells := 0, slots := 0, locals := 144 } 0 0 121 [(0, .ref l0), (1, .int l1), (2, .int l2), (3, .int l3), (4, .int l4)] [] (qX10_readBorder_121 N l0 l1 l2 l3 l4) := by
  unfold qX10_readBorder_121
  refine os_iconst (i := 0) (v := (0 : Int32)) rfl (hX10_readBorder.at 73 rfl rfl) ?_
  exact osW.sub [0, 1, 2, 3, 4] rfl (sX10_readBorder_122 N l0 l1 l2 l3 l4 (0 : Int32))
set_option maxRecDepth 100000 in
set_option maxHeartbeats 4000000 in
theorem sX10_readBorder_93 (N : Nat) (l0 : Nat) (l1 : Int32) (l2 : Int32) (l3 : Int32) (k0 : Int32) : osW (osFinM (fun r : Int32 => some (.int r)) 0 0) yX10_readBorder cX10_readBorder 6 (some .boolean) [] { frames := 7, cells := 0, slots := 0, locals := 144 } 0 0 93 [(0, .ref l0), (1, .int l1), (2, .int l2), (3, .int l3)] [.int k0] (qX10_readBorder_93 N l0 l1 l2 l3 k0) := by
  unfold qX10_readBorder_93
  refine os_istore (i := 4) (lv' := [(4, .int k0), (0, .ref l0), (1, .int l1), (2, .int l2), (3, .int l3)]) (Nat.le_of_ble_eq_true rfl) rfl (hX10_readBorder.at 56 rfl rfl) ?_
  refine os_aload_n (i := 0) (q := 0) (v := l0) 1 rfl rfl (hX10_readBorder.at 57 rfl rfl) ?_
  refine os_getR fX10_13 (hX10_readBorder.at 58 rfl rfl) (fun x1 => ?_)
  refine os_iconst (i := 2) (v := (2 : Int32)) rfl (hX10_readBorder.at 59 rfl rfl) ?_
  refine os_iload_n (i := 1) (q := 1) (v := l1) 2 rfl rfl (hX10_readBorder.at 60 rfl rfl) ?_
  refine os_iadd (hX10_readBorder.at 61 rfl rfl) ?_
  refine os_iaload (hX10_readBorder.at 62 rfl rfl) (fun x2 => ?_)
  refine os_if_eq (off := 18) (tgt := 121) rfl (hX10_readBorder.at 63 rfl rfl) ?_ ?_
  · exact osW.sub [1, 2, 3, 4, 0] rfl (sX10_readBorder_121 N l0 l1 l2 l3 k0)
  · refine os_aload_n (i := 0) (q := 0) (v := l0) 1 rfl rfl (hX10_readBorder.at 64 rfl rfl) ?_
    refine os_getR fX10_13 (hX10_readBorder.at 65 rfl rfl) (fun x3 => ?_)
    refine os_iconst (i := 2) (v := (2 : Int32)) rfl (hX10_readBorder.at 66 rfl rfl) ?_
    refine os_iload_n (i := 2) (q := 2) (v := l2) 3 rfl rfl (hX10_readBorder.at 67 rfl rfl) ?_
    refine os_iadd (hX10_readBorder.at 68 rfl rfl) ?_
    refine os_iaload (hX10_readBorder.at 69 rfl rfl) (fun x4 => ?_)
    refine os_if_eq (off := 7) (tgt := 121) rfl (hX10_readBorder.at 70 rfl rfl) ?_ ?_
    · exact osW.sub [1, 2, 3, 4, 0] rfl (sX10_readBorder_121 N l0 l1 l2 l3 k0)
    · refine os_iconst (i := 1) (v := (1 : Int32)) rfl (hX10_readBorder.at 71 rfl rfl) ?_
      refine os_goto (off := 4) (tgt := 122) rfl (hX10_readBorder.at 72 rfl rfl) ?_
      exact osW.sub [1, 2, 3, 4, 0] rfl (sX10_readBorder_122 N l0 l1 l2 l3 k0 (1 : Int32))
set_option maxRecDepth 100000 in
set_option maxHeartbeats 4000000 in
theorem sX10_readBorder_92 (N : Nat) (l0 : Nat) (l1 : Int32) (l2 : Int32) (l3 : Int32) : osW (osFinM (fun r : Int32 => some (.int r)) 0 0) yX10_readBorder cX10_readBorder 6 (some .boolean) [] { frames := 7, cells := 0, slots := 0, locals := 144 } 0 0 92 [(0, .ref l0), (1, .int l1), (2, .int l2), (3, .int l3)] [] (qX10_readBorder_92 N l0 l1 l2 l3) := by
  unfold qX10_readBorder_92
  refine os_iconst (i := 0) (v := (0 : Int32)) rfl (hX10_readBorder.at 55 rfl rfl) ?_
  exact osW.sub [0, 1, 2, 3] rfl (sX10_readBorder_93 N l0 l1 l2 l3 (0 : Int32))
set_option maxRecDepth 100000 in
set_option maxHeartbeats 4000000 in
theorem sX10_readBorder (N : Nat) (l0 : Nat) : osMet yX10_readBorder cX10_readBorder 6 (some .boolean) 7 144 0 0 (fun r : Int32 => some (.int r)) [.ref l0] (qX10_readBorder N l0) := by
  refine osMet.of plX10 (Nat.le_of_ble_eq_true rfl) (osW.rw (lv2 := [(0, .ref l0)]) ?_ rfl rfl rfl)
  unfold qX10_readBorder
  refine os_aload_n (i := 0) (q := 0) (v := l0) 0 rfl rfl (hX10_readBorder.at 0 rfl rfl) ?_
  refine os_callV (cis := [8]) (b := l0) (As := []) (st := []) (st' := (fun r => .int r :: [])) sl8_X10_readDraftArea_X10_readDraftArea mdX10_readDraftArea wd1852 wd1854 (sX10_readDraftArea N l0 ) rfl rfl (fun _ => rfl) (Nat.le_of_ble_eq_true rfl) (Nat.le_of_ble_eq_true rfl) (Nat.le_of_ble_eq_true rfl) rfl (Nat.le_of_ble_eq_true rfl) rfl (Nat.le_of_ble_eq_true rfl) (hX10_readBorder.at 1 rfl rfl) (fun x1 => ?_)
  refine os_if_ne (off := 5) (tgt := 9) rfl (hX10_readBorder.at 2 rfl rfl) ?_ ?_
  · refine os_aload_n (i := 0) (q := 0) (v := l0) 0 rfl rfl (hX10_readBorder.at 5 rfl rfl) ?_
    refine os_getI fX10_245 (hX10_readBorder.at 6 rfl rfl) (fun x2 => ?_)
    refine os_istore_n (i := 1) (q := 1) rfl (lv' := [(1, .int x2), (0, .ref l0)]) (Nat.le_of_ble_eq_true rfl) rfl (hX10_readBorder.at 7 rfl rfl) ?_
    refine os_aload_n (i := 0) (q := 0) (v := l0) 1 rfl rfl (hX10_readBorder.at 8 rfl rfl) ?_
    refine os_callV (cis := [8]) (b := l0) (As := []) (st := []) (st' := (fun r => .int r :: [])) sl8_X10_readDraftArea_X10_readDraftArea mdX10_readDraftArea wd1852 wd1854 (sX10_readDraftArea N l0 ) rfl rfl (fun _ => rfl) (Nat.le_of_ble_eq_true rfl) (Nat.le_of_ble_eq_true rfl) (Nat.le_of_ble_eq_true rfl) rfl (Nat.le_of_ble_eq_true rfl) rfl (Nat.le_of_ble_eq_true rfl) (hX10_readBorder.at 9 rfl rfl) (fun x3 => ?_)
    refine os_if_ne (off := 5) (tgt := 23) rfl (hX10_readBorder.at 10 rfl rfl) ?_ ?_
    · refine os_aload_n (i := 0) (q := 0) (v := l0) 1 rfl rfl (hX10_readBorder.at 13 rfl rfl) ?_
      refine os_getI fX10_245 (hX10_readBorder.at 14 rfl rfl) (fun x4 => ?_)
      refine os_istore_n (i := 2) (q := 2) rfl (lv' := [(2, .int x4), (1, .int x2), (0, .ref l0)]) (Nat.le_of_ble_eq_true rfl) rfl (hX10_readBorder.at 15 rfl rfl) ?_
      refine os_iload_n (i := 1) (q := 1) (v := x2) 1 rfl rfl (hX10_readBorder.at 16 rfl rfl) ?_
      refine os_iload_n (i := 2) (q := 2) (v := x4) 0 rfl rfl (hX10_readBorder.at 17 rfl rfl) ?_
      refine os_icmp_eq (off := 19) (tgt := 49) rfl (hX10_readBorder.at 18 rfl rfl) ?_ ?_
      · exact osW.sub [2] rfl (sX10_readBorder_49 N l0)
      · refine os_aload_n (i := 0) (q := 0) (v := l0) 2 rfl rfl (hX10_readBorder.at 19 rfl rfl) ?_
        refine os_getR fX10_13 (hX10_readBorder.at 20 rfl rfl) (fun x5 => ?_)
        refine os_bipush (i := 50) (v := (50 : Int32)) rfl (hX10_readBorder.at 21 rfl rfl) ?_
        refine os_iload_n (i := 1) (q := 1) (v := x2) 1 rfl rfl (hX10_readBorder.at 22 rfl rfl) ?_
        refine os_iadd (hX10_readBorder.at 23 rfl rfl) ?_
        refine os_iaload (hX10_readBorder.at 24 rfl rfl) (fun x6 => ?_)
        refine os_iload_n (i := 2) (q := 2) (v := x4) 0 rfl rfl (hX10_readBorder.at 25 rfl rfl) ?_
        refine os_callS (As := [.int x6, .int x4]) (st := []) (st' := (fun r => .int r :: [])) mdX10_has wd1860 wd1861 (sX10_has N x6 x4) rfl rfl (fun _ => rfl) (Nat.le_of_ble_eq_true rfl) (Nat.le_of_ble_eq_true rfl) (Nat.le_of_ble_eq_true rfl) rfl (Nat.le_of_ble_eq_true rfl) rfl (Nat.le_of_ble_eq_true rfl) (hX10_readBorder.at 26 rfl rfl) (fun x7 => ?_)
        refine os_if_eq (off := 13) (tgt := 59) rfl (hX10_readBorder.at 27 rfl rfl) ?_ ?_
        · refine os_aload_n (i := 0) (q := 0) (v := l0) 2 rfl rfl (hX10_readBorder.at 34 rfl rfl) ?_
          refine os_getI fX10_164 (hX10_readBorder.at 35 rfl rfl) (fun x8 => ?_)
          refine os_istore_n (i := 3) (q := 3) rfl (lv' := [(3, .int x8), (2, .int x4), (1, .int x2), (0, .ref l0)]) (Nat.le_of_ble_eq_true rfl) rfl (hX10_readBorder.at 36 rfl rfl) ?_
          refine os_aload_n (i := 0) (q := 0) (v := l0) 3 rfl rfl (hX10_readBorder.at 37 rfl rfl) ?_
          refine os_getR fX10_13 (hX10_readBorder.at 38 rfl rfl) (fun x9 => ?_)
          refine os_iconst (i := 2) (v := (2 : Int32)) rfl (hX10_readBorder.at 39 rfl rfl) ?_
          refine os_iload_n (i := 1) (q := 1) (v := x2) 2 rfl rfl (hX10_readBorder.at 40 rfl rfl) ?_
          refine os_iadd (hX10_readBorder.at 41 rfl rfl) ?_
          refine os_iaload (hX10_readBorder.at 42 rfl rfl) (fun x10 => ?_)
          refine os_iconst (i := 2) (v := (2 : Int32)) rfl (hX10_readBorder.at 43 rfl rfl) ?_
          refine os_icmp_eq (off := 19) (tgt := 92) rfl (hX10_readBorder.at 44 rfl rfl) ?_ ?_
          · exact osW.sub [3, 2, 1, 0] rfl (sX10_readBorder_92 N l0 x2 x4 x8)
          · refine os_aload_n (i := 0) (q := 0) (v := l0) 3 rfl rfl (hX10_readBorder.at 45 rfl rfl) ?_
            refine os_getR fX10_13 (hX10_readBorder.at 46 rfl rfl) (fun x11 => ?_)
            refine os_iconst (i := 2) (v := (2 : Int32)) rfl (hX10_readBorder.at 47 rfl rfl) ?_
            refine os_iload_n (i := 2) (q := 2) (v := x4) 1 rfl rfl (hX10_readBorder.at 48 rfl rfl) ?_
            refine os_iadd (hX10_readBorder.at 49 rfl rfl) ?_
            refine os_iaload (hX10_readBorder.at 50 rfl rfl) (fun x12 => ?_)
            refine os_iconst (i := 2) (v := (2 : Int32)) rfl (hX10_readBorder.at 51 rfl rfl) ?_
            refine os_icmp_eq (off := 7) (tgt := 92) rfl (hX10_readBorder.at 52 rfl rfl) ?_ ?_
            · exact osW.sub [3, 2, 1, 0] rfl (sX10_readBorder_92 N l0 x2 x4 x8)
            · refine os_iconst (i := 1) (v := (1 : Int32)) rfl (hX10_readBorder.at 53 rfl rfl) ?_
              refine os_goto (off := 4) (tgt := 93) rfl (hX10_readBorder.at 54 rfl rfl) ?_
              exact osW.sub [3, 2, 1, 0] rfl (sX10_readBorder_93 N l0 x2 x4 x8 (1 : Int32))
        · exact osW.sub [2] rfl (sX10_readBorder_49 N l0)
    · refine os_iconst (i := 0) (v := (0 : Int32)) rfl (hX10_readBorder.at 11 rfl rfl) ?_
      exact os_zret (Nat.le_of_ble_eq_true rfl) (Nat.le_of_ble_eq_true rfl) (hX10_readBorder.at 12 rfl rfl).1
  · refine os_iconst (i := 0) (v := (0 : Int32)) rfl (hX10_readBorder.at 3 rfl rfl) ?_
    exact os_zret (Nat.le_of_ble_eq_true rfl) (Nat.le_of_ble_eq_true rfl) (hX10_readBorder.at 4 rfl rfl).1
-- X10_readStatement
def KX10_readStatement : List (Nat × Nat × Instr) := [(0, 1, .aload_n 0), (1, 3, .invokevirtual 232), (4, 3, .ifCond .ne 5), (7, 1, .iconst 0), (8, 1, .ireturn), (9, 1, .aload_n 0), (10, 3, .getfield 177), (13, 3, .ldc2_w 202), (16, 1, .lcmp), (17, 3, .ifCond .eq 25), (20, 1, .aload_n 0), (21, 3, .getfield 177), (24, 3, .ldc2_w 204), (27, 1, .lcmp), (28, 3, .ifCond .eq 14), (31, 1, .aload_n 0), (32, 3, .getfield 177), (35, 3, .ldc2_w 206), (38, 1, .lcmp), (39, 3, .ifCond .ne 39), (42, 1, .aload_n 0), (43, 1, .aload_n 0), (44, 3, .getfield 177), (47, 3, .ldc2_w 202), (50, 1, .lcmp), (51, 3, .ifCond .ne 7), (54, 1, .iconst 0), (55, 3, .goto 19), (58, 1, .aload_n 0), (59, 3, .getfield 177), (62, 3, .ldc2_w 204), (65, 1, .lcmp), (66, 3, .ifCond .ne 7), (69, 1, .iconst 1), (70, 3, .goto 4), (73, 1, .iconst 2), (74, 3, .invokevirtual 265), (77, 1, .ireturn), (78, 1, .aload_n 0), (79, 3, .getfield 177), (82, 3, .ldc2_w 210), (85, 1, .lcmp), (86, 3, .ifCond .ne 8), (89, 1, .aload_n 0), (90, 3, .invokevirtual 268), (93, 1, .ireturn), (94, 1, .aload_n 0), (95, 3, .getfield 177), (98, 3, .ldc2_w 216), (101, 1, .lcmp), (102, 3, .ifCond .ne 8), (105, 1, .aload_n 0), (106, 3, .invokevirtual 271), (109, 1, .ireturn), (110, 1, .aload_n 0), (111, 3, .getfield 177), (114, 3, .ldc2_w 212), (117, 1, .lcmp), (118, 3, .ifCond .eq 14), (121, 1, .aload_n 0), (122, 3, .getfield 177), (125, 3, .ldc2_w 214), (128, 1, .lcmp), (129, 3, .ifCond .ne 24), (132, 1, .aload_n 0), (133, 1, .aload_n 0), (134, 3, .getfield 177), (137, 3, .ldc2_w 212), (140, 1, .lcmp), (141, 3, .ifCond .ne 7), (144, 1, .iconst 0), (145, 3, .goto 4), (148, 1, .iconst 1), (149, 3, .invokevirtual 274), (152, 1, .ireturn), (153, 1, .aload_n 0), (154, 1, .iconst 1), (155, 1, .aload_n 0), (156, 3, .getfield 164), (159, 3, .invokevirtual 195), (162, 1, .ireturn)]
theorem hX10_readStatement : osDs cX10_readStatement KX10_readStatement := by
  show ∀ q ∈ KX10_readStatement, decode cX10_readStatement q.1 = .ok (q.2.2, q.2.1)
  decide +kernel
def qX10_readStatement_74 (N : Nat) (k0 : Int32) (k1 : Nat) : osM Int32 := osbind (osrecv [8] k1 (qX10_readNewArea N k1 k0)) fun x1 => osretZ x1
def qX10_readStatement_42 (N : Nat) (l0 : Nat) : osM Int32 := osbind (osgJ [8] 18 l0) fun x1 => osite ((lg_cmp x1 (394692 : Int64)) = 0) (qX10_readStatement_74 N (0 : Int32) l0) (osbind (osgJ [8] 18 l0) fun x2 => osite ((lg_cmp x2 (3638900 : Int64)) = 0) (qX10_readStatement_74 N (1 : Int32) l0) (qX10_readStatement_74 N (2 : Int32) l0))
def qX10_readStatement_149 (N : Nat) (k0 : Int32) (k1 : Nat) : osM Int32 := osbind (osrecv [8] k1 (qX10_readUnit N k1 k0)) fun x1 => osretZ x1
def qX10_readStatement_132 (N : Nat) (l0 : Nat) : osM Int32 := osbind (osgJ [8] 18 l0) fun x1 => osite ((lg_cmp x1 (51641 : Int64)) = 0) (qX10_readStatement_149 N (0 : Int32) l0) (qX10_readStatement_149 N (1 : Int32) l0)
def qX10_readStatement (N : Nat) (l0 : Nat) : osM Int32 := osbind (osrecv [8] l0 (qX10_readWord N l0)) fun x1 => osite (x1 = 0) (osretZ (0 : Int32)) (osbind (osgJ [8] 18 l0) fun x2 => osite ((lg_cmp x2 (394692 : Int64)) = 0) (qX10_readStatement_42 N l0) (osbind (osgJ [8] 18 l0) fun x3 => osite ((lg_cmp x3 (3638900 : Int64)) = 0) (qX10_readStatement_42 N l0) (osbind (osgJ [8] 18 l0) fun x4 => osite ((lg_cmp x4 (19617 : Int64)) = 0) (qX10_readStatement_42 N l0) (osbind (osgJ [8] 18 l0) fun x5 => osite ((lg_cmp x5 (83431602 : Int64)) = 0) (osbind (osrecv [8] l0 (qX10_readBorder N l0)) fun x12 => osretZ x12) (osbind (osgJ [8] 18 l0) fun x6 => osite ((lg_cmp x6 (17292466 : Int64)) = 0) (osbind (osrecv [8] l0 (qX10_readPower N l0)) fun x11 => osretZ x11) (osbind (osgJ [8] 18 l0) fun x7 => osite ((lg_cmp x7 (51641 : Int64)) = 0) (qX10_readStatement_132 N l0) (osbind (osgJ [8] 18 l0) fun x8 => osite ((lg_cmp x8 (6689972 : Int64)) = 0) (qX10_readStatement_132 N l0) (osbind (osgI [8] 13 l0) fun x9 => osbind (osrecv [8] l0 (qX10_fails N l0 (1 : Int32) x9)) fun x10 => osretZ x10))))))))
set_option maxRecDepth 100000 in
set_option maxHeartbeats 4000000 in
theorem sX10_readStatement_74 (N : Nat) (k0 : Int32) (k1 : Nat) : osW (osFinM (fun r : Int32 => some (.int r)) 0 0) yX10_readStatement cX10_readStatement 1 (some .boolean) [] { frames := 8, cells := 0, slots := 0, locals := 169 } 0 0 74 [] [.int k0, .ref k1] (qX10_readStatement_74 N k0 k1) := by
  unfold qX10_readStatement_74
  refine os_callV (cis := [8]) (b := k1) (As := [.int k0]) (st := []) (st' := (fun r => .int r :: [])) sl8_X10_readNewArea_X10_readNewArea mdX10_readNewArea wd1813 wd1815 (sX10_readNewArea N k1 k0) rfl rfl (fun _ => rfl) (Nat.le_of_ble_eq_true rfl) (Nat.le_of_ble_eq_true rfl) (Nat.le_of_ble_eq_true rfl) rfl (Nat.le_of_ble_eq_true rfl) rfl (Nat.le_of_ble_eq_true rfl) (hX10_readStatement.at 36 rfl rfl) (fun x1 => ?_)
  exact os_zret (Nat.le_of_ble_eq_true rfl) (Nat.le_of_ble_eq_true rfl) (hX10_readStatement.at 37 rfl rfl).1
set_option maxRecDepth 100000 in
set_option maxHeartbeats 4000000 in
theorem sX10_readStatement_42 (N : Nat) (l0 : Nat) : osW (osFinM (fun r : Int32 => some (.int r)) 0 0) yX10_readStatement cX10_readStatement 1 (some .boolean) [] { frames := 8, cells := 0, slots := 0, locals := 169 } 0 0 42 [(0, .ref l0)] [] (qX10_readStatement_42 N l0) := by
  unfold qX10_readStatement_42
  refine os_aload_n (i := 0) (q := 0) (v := l0) 0 rfl rfl (hX10_readStatement.at 20 rfl rfl) ?_
  refine os_aload_n (i := 0) (q := 0) (v := l0) 0 rfl rfl (hX10_readStatement.at 21 rfl rfl) ?_
  refine os_getJ fX10_177 (hX10_readStatement.at 22 rfl rfl) (fun x1 => ?_)
  refine os_ldc2 (v := (394692 : Int64)) wd1810 (hX10_readStatement.at 23 rfl rfl) ?_
  refine os_lcmp (hX10_readStatement.at 24 rfl rfl) ?_
  refine os_if_ne (off := 7) (tgt := 58) rfl (hX10_readStatement.at 25 rfl rfl) ?_ ?_
  · refine os_aload_n (i := 0) (q := 0) (v := l0) 0 rfl rfl (hX10_readStatement.at 28 rfl rfl) ?_
    refine os_getJ fX10_177 (hX10_readStatement.at 29 rfl rfl) (fun x2 => ?_)
    refine os_ldc2 (v := (3638900 : Int64)) wd1811 (hX10_readStatement.at 30 rfl rfl) ?_
    refine os_lcmp (hX10_readStatement.at 31 rfl rfl) ?_
    refine os_if_ne (off := 7) (tgt := 73) rfl (hX10_readStatement.at 32 rfl rfl) ?_ ?_
    · refine os_iconst (i := 2) (v := (2 : Int32)) rfl (hX10_readStatement.at 35 rfl rfl) ?_
      exact osW.sub [] rfl (sX10_readStatement_74 N (2 : Int32) l0)
    · refine os_iconst (i := 1) (v := (1 : Int32)) rfl (hX10_readStatement.at 33 rfl rfl) ?_
      refine os_goto (off := 4) (tgt := 74) rfl (hX10_readStatement.at 34 rfl rfl) ?_
      exact osW.sub [] rfl (sX10_readStatement_74 N (1 : Int32) l0)
  · refine os_iconst (i := 0) (v := (0 : Int32)) rfl (hX10_readStatement.at 26 rfl rfl) ?_
    refine os_goto (off := 19) (tgt := 74) rfl (hX10_readStatement.at 27 rfl rfl) ?_
    exact osW.sub [] rfl (sX10_readStatement_74 N (0 : Int32) l0)
set_option maxRecDepth 100000 in
set_option maxHeartbeats 4000000 in
theorem sX10_readStatement_149 (N : Nat) (k0 : Int32) (k1 : Nat) : osW (osFinM (fun r : Int32 => some (.int r)) 0 0) yX10_readStatement cX10_readStatement 1 (some .boolean) [] { frames := 8, cells := 0, slots := 0, locals := 169 } 0 0 149 [] [.int k0, .ref k1] (qX10_readStatement_149 N k0 k1) := by
  unfold qX10_readStatement_149
  refine os_callV (cis := [8]) (b := k1) (As := [.int k0]) (st := []) (st' := (fun r => .int r :: [])) sl8_X10_readUnit_X10_readUnit mdX10_readUnit wd1871 wd1873 (sX10_readUnit N k1 k0) rfl rfl (fun _ => rfl) (Nat.le_of_ble_eq_true rfl) (Nat.le_of_ble_eq_true rfl) (Nat.le_of_ble_eq_true rfl) rfl (Nat.le_of_ble_eq_true rfl) rfl (Nat.le_of_ble_eq_true rfl) (hX10_readStatement.at 73 rfl rfl) (fun x1 => ?_)
  exact os_zret (Nat.le_of_ble_eq_true rfl) (Nat.le_of_ble_eq_true rfl) (hX10_readStatement.at 74 rfl rfl).1
set_option maxRecDepth 100000 in
set_option maxHeartbeats 4000000 in
theorem sX10_readStatement_132 (N : Nat) (l0 : Nat) : osW (osFinM (fun r : Int32 => some (.int r)) 0 0) yX10_readStatement cX10_readStatement 1 (some .boolean) [] { frames := 8, cells := 0, slots := 0, locals := 169 } 0 0 132 [(0, .ref l0)] [] (qX10_readStatement_132 N l0) := by
  unfold qX10_readStatement_132
  refine os_aload_n (i := 0) (q := 0) (v := l0) 0 rfl rfl (hX10_readStatement.at 64 rfl rfl) ?_
  refine os_aload_n (i := 0) (q := 0) (v := l0) 0 rfl rfl (hX10_readStatement.at 65 rfl rfl) ?_
  refine os_getJ fX10_177 (hX10_readStatement.at 66 rfl rfl) (fun x1 => ?_)
  refine os_ldc2 (v := (51641 : Int64)) wd1827 (hX10_readStatement.at 67 rfl rfl) ?_
  refine os_lcmp (hX10_readStatement.at 68 rfl rfl) ?_
  refine os_if_ne (off := 7) (tgt := 148) rfl (hX10_readStatement.at 69 rfl rfl) ?_ ?_
  · refine os_iconst (i := 1) (v := (1 : Int32)) rfl (hX10_readStatement.at 72 rfl rfl) ?_
    exact osW.sub [] rfl (sX10_readStatement_149 N (1 : Int32) l0)
  · refine os_iconst (i := 0) (v := (0 : Int32)) rfl (hX10_readStatement.at 70 rfl rfl) ?_
    refine os_goto (off := 4) (tgt := 149) rfl (hX10_readStatement.at 71 rfl rfl) ?_
    exact osW.sub [] rfl (sX10_readStatement_149 N (0 : Int32) l0)
set_option maxRecDepth 100000 in
set_option maxHeartbeats 4000000 in
theorem sX10_readStatement (N : Nat) (l0 : Nat) : osMet yX10_readStatement cX10_readStatement 1 (some .boolean) 8 169 0 0 (fun r : Int32 => some (.int r)) [.ref l0] (qX10_readStatement N l0) := by
  refine osMet.of plX10 (Nat.le_of_ble_eq_true rfl) (osW.rw (lv2 := [(0, .ref l0)]) ?_ rfl rfl rfl)
  unfold qX10_readStatement
  refine os_aload_n (i := 0) (q := 0) (v := l0) 0 rfl rfl (hX10_readStatement.at 0 rfl rfl) ?_
  refine os_callV (cis := [8]) (b := l0) (As := []) (st := []) (st' := (fun r => .int r :: [])) sl8_X10_readWord_X10_readWord mdX10_readWord wd1789 wd1791 (sX10_readWord N l0 ) rfl rfl (fun _ => rfl) (Nat.le_of_ble_eq_true rfl) (Nat.le_of_ble_eq_true rfl) (Nat.le_of_ble_eq_true rfl) rfl (Nat.le_of_ble_eq_true rfl) rfl (Nat.le_of_ble_eq_true rfl) (hX10_readStatement.at 1 rfl rfl) (fun x1 => ?_)
  refine os_if_ne (off := 5) (tgt := 9) rfl (hX10_readStatement.at 2 rfl rfl) ?_ ?_
  · refine os_aload_n (i := 0) (q := 0) (v := l0) 0 rfl rfl (hX10_readStatement.at 5 rfl rfl) ?_
    refine os_getJ fX10_177 (hX10_readStatement.at 6 rfl rfl) (fun x2 => ?_)
    refine os_ldc2 (v := (394692 : Int64)) wd1810 (hX10_readStatement.at 7 rfl rfl) ?_
    refine os_lcmp (hX10_readStatement.at 8 rfl rfl) ?_
    refine os_if_eq (off := 25) (tgt := 42) rfl (hX10_readStatement.at 9 rfl rfl) ?_ ?_
    · exact osW.sub [0] rfl (sX10_readStatement_42 N l0)
    · refine os_aload_n (i := 0) (q := 0) (v := l0) 0 rfl rfl (hX10_readStatement.at 10 rfl rfl) ?_
      refine os_getJ fX10_177 (hX10_readStatement.at 11 rfl rfl) (fun x3 => ?_)
      refine os_ldc2 (v := (3638900 : Int64)) wd1811 (hX10_readStatement.at 12 rfl rfl) ?_
      refine os_lcmp (hX10_readStatement.at 13 rfl rfl) ?_
      refine os_if_eq (off := 14) (tgt := 42) rfl (hX10_readStatement.at 14 rfl rfl) ?_ ?_
      · exact osW.sub [0] rfl (sX10_readStatement_42 N l0)
      · refine os_aload_n (i := 0) (q := 0) (v := l0) 0 rfl rfl (hX10_readStatement.at 15 rfl rfl) ?_
        refine os_getJ fX10_177 (hX10_readStatement.at 16 rfl rfl) (fun x4 => ?_)
        refine os_ldc2 (v := (19617 : Int64)) wd1812 (hX10_readStatement.at 17 rfl rfl) ?_
        refine os_lcmp (hX10_readStatement.at 18 rfl rfl) ?_
        refine os_if_ne (off := 39) (tgt := 78) rfl (hX10_readStatement.at 19 rfl rfl) ?_ ?_
        · refine os_aload_n (i := 0) (q := 0) (v := l0) 0 rfl rfl (hX10_readStatement.at 38 rfl rfl) ?_
          refine os_getJ fX10_177 (hX10_readStatement.at 39 rfl rfl) (fun x5 => ?_)
          refine os_ldc2 (v := (83431602 : Int64)) wd1826 (hX10_readStatement.at 40 rfl rfl) ?_
          refine os_lcmp (hX10_readStatement.at 41 rfl rfl) ?_
          refine os_if_ne (off := 8) (tgt := 94) rfl (hX10_readStatement.at 42 rfl rfl) ?_ ?_
          · refine os_aload_n (i := 0) (q := 0) (v := l0) 0 rfl rfl (hX10_readStatement.at 46 rfl rfl) ?_
            refine os_getJ fX10_177 (hX10_readStatement.at 47 rfl rfl) (fun x6 => ?_)
            refine os_ldc2 (v := (17292466 : Int64)) wd1829 (hX10_readStatement.at 48 rfl rfl) ?_
            refine os_lcmp (hX10_readStatement.at 49 rfl rfl) ?_
            refine os_if_ne (off := 8) (tgt := 110) rfl (hX10_readStatement.at 50 rfl rfl) ?_ ?_
            · refine os_aload_n (i := 0) (q := 0) (v := l0) 0 rfl rfl (hX10_readStatement.at 54 rfl rfl) ?_
              refine os_getJ fX10_177 (hX10_readStatement.at 55 rfl rfl) (fun x7 => ?_)
              refine os_ldc2 (v := (51641 : Int64)) wd1827 (hX10_readStatement.at 56 rfl rfl) ?_
              refine os_lcmp (hX10_readStatement.at 57 rfl rfl) ?_
              refine os_if_eq (off := 14) (tgt := 132) rfl (hX10_readStatement.at 58 rfl rfl) ?_ ?_
              · exact osW.sub [0] rfl (sX10_readStatement_132 N l0)
              · refine os_aload_n (i := 0) (q := 0) (v := l0) 0 rfl rfl (hX10_readStatement.at 59 rfl rfl) ?_
                refine os_getJ fX10_177 (hX10_readStatement.at 60 rfl rfl) (fun x8 => ?_)
                refine os_ldc2 (v := (6689972 : Int64)) wd1828 (hX10_readStatement.at 61 rfl rfl) ?_
                refine os_lcmp (hX10_readStatement.at 62 rfl rfl) ?_
                refine os_if_ne (off := 24) (tgt := 153) rfl (hX10_readStatement.at 63 rfl rfl) ?_ ?_
                · refine os_aload_n (i := 0) (q := 0) (v := l0) 0 rfl rfl (hX10_readStatement.at 75 rfl rfl) ?_
                  refine os_iconst (i := 1) (v := (1 : Int32)) rfl (hX10_readStatement.at 76 rfl rfl) ?_
                  refine os_aload_n (i := 0) (q := 0) (v := l0) 0 rfl rfl (hX10_readStatement.at 77 rfl rfl) ?_
                  refine os_getI fX10_164 (hX10_readStatement.at 78 rfl rfl) (fun x9 => ?_)
                  refine os_callV (cis := [8]) (b := l0) (As := [.int (1 : Int32), .int x9]) (st := []) (st' := (fun r => .int r :: [])) sl8_X10_fails_X10_fails mdX10_fails wd1806 wd1808 (sX10_fails N l0 (1 : Int32) x9) rfl rfl (fun _ => rfl) (Nat.le_of_ble_eq_true rfl) (Nat.le_of_ble_eq_true rfl) (Nat.le_of_ble_eq_true rfl) rfl (Nat.le_of_ble_eq_true rfl) rfl (Nat.le_of_ble_eq_true rfl) (hX10_readStatement.at 79 rfl rfl) (fun x10 => ?_)
                  exact os_zret (Nat.le_of_ble_eq_true rfl) (Nat.le_of_ble_eq_true rfl) (hX10_readStatement.at 80 rfl rfl).1
                · exact osW.sub [0] rfl (sX10_readStatement_132 N l0)
            · refine os_aload_n (i := 0) (q := 0) (v := l0) 0 rfl rfl (hX10_readStatement.at 51 rfl rfl) ?_
              refine os_callV (cis := [8]) (b := l0) (As := []) (st := []) (st' := (fun r => .int r :: [])) sl8_X10_readPower_X10_readPower mdX10_readPower wd1867 wd1869 (sX10_readPower N l0 ) rfl rfl (fun _ => rfl) (Nat.le_of_ble_eq_true rfl) (Nat.le_of_ble_eq_true rfl) (Nat.le_of_ble_eq_true rfl) rfl (Nat.le_of_ble_eq_true rfl) rfl (Nat.le_of_ble_eq_true rfl) (hX10_readStatement.at 52 rfl rfl) (fun x11 => ?_)
              exact os_zret (Nat.le_of_ble_eq_true rfl) (Nat.le_of_ble_eq_true rfl) (hX10_readStatement.at 53 rfl rfl).1
          · refine os_aload_n (i := 0) (q := 0) (v := l0) 0 rfl rfl (hX10_readStatement.at 43 rfl rfl) ?_
            refine os_callV (cis := [8]) (b := l0) (As := []) (st := []) (st' := (fun r => .int r :: [])) sl8_X10_readBorder_X10_readBorder mdX10_readBorder wd1848 wd1850 (sX10_readBorder N l0 ) rfl rfl (fun _ => rfl) (Nat.le_of_ble_eq_true rfl) (Nat.le_of_ble_eq_true rfl) (Nat.le_of_ble_eq_true rfl) rfl (Nat.le_of_ble_eq_true rfl) rfl (Nat.le_of_ble_eq_true rfl) (hX10_readStatement.at 44 rfl rfl) (fun x12 => ?_)
            exact os_zret (Nat.le_of_ble_eq_true rfl) (Nat.le_of_ble_eq_true rfl) (hX10_readStatement.at 45 rfl rfl).1
        · exact osW.sub [0] rfl (sX10_readStatement_42 N l0)
  · refine os_iconst (i := 0) (v := (0 : Int32)) rfl (hX10_readStatement.at 3 rfl rfl) ?_
    exact os_zret (Nat.le_of_ble_eq_true rfl) (Nat.le_of_ble_eq_true rfl) (hX10_readStatement.at 4 rfl rfl).1
-- X10_readMap
def KX10_readMap : List (Nat × Nat × Instr) := [(0, 1, .aload_n 0), (1, 3, .invokevirtual 167), (4, 1, .iconst (-1)), (5, 3, .if_icmp .eq 19), (8, 1, .aload_n 0), (9, 3, .invokevirtual 277), (12, 3, .ifCond .eq 10), (15, 1, .aload_n 0), (16, 3, .invokevirtual 280), (19, 3, .ifCond .ne (-19)), (22, 1, .iconst 0), (23, 1, .ireturn), (24, 1, .iconst 1), (25, 1, .ireturn)]
theorem hX10_readMap : osDs cX10_readMap KX10_readMap := by
  show ∀ q ∈ KX10_readMap, decode cX10_readMap q.1 = .ok (q.2.2, q.2.1)
  decide +kernel
def qX10_readMap_22 (N : Nat) : osM Int32 := osretZ (0 : Int32)
def bX10_readMap_0 (N : Nat) (c0 : Nat → osM Int32) (l0 : Nat) : osM Int32 := osbind (osrecv [8] l0 (qX10_peek N l0)) fun x1 => osite (x1 = (-1 : Int32)) (osretZ (1 : Int32)) (osbind (osrecv [8] l0 (qX10_readStatement N l0)) fun x2 => osite (x2 = 0) (qX10_readMap_22 N ) (osbind (osrecv [8] l0 (qX10_readSemicolon N l0)) fun x3 => osite (x3 = 0) (qX10_readMap_22 N ) (c0 l0)))
def qX10_readMap_0 (N : Nat) : Nat → osM Int32 := osloop (fun ih p => bX10_readMap_0 N ih p) N
def qX10_readMap (N : Nat) (l0 : Nat) : osM Int32 := qX10_readMap_0 N l0
set_option maxRecDepth 100000 in
set_option maxHeartbeats 4000000 in
theorem sX10_readMap_22 (N : Nat) : osW (osFinM (fun r : Int32 => some (.int r)) 0 0) yX10_readMap cX10_readMap 1 (some .boolean) [] { frames := 9, cells := 0, slots := 0, locals := 189 } 0 0 22 [] [] (qX10_readMap_22 N) := by
  unfold qX10_readMap_22
  refine os_iconst (i := 0) (v := (0 : Int32)) rfl (hX10_readMap.at 10 rfl rfl) ?_
  exact os_zret (Nat.le_of_ble_eq_true rfl) (Nat.le_of_ble_eq_true rfl) (hX10_readMap.at 11 rfl rfl).1
set_option maxRecDepth 100000 in
set_option maxHeartbeats 4000000 in
theorem tX10_readMap_0 (N : Nat) (c0 : Nat → osM Int32) (g0 : ∀ (l0 : Nat), osW (osFinM (fun r : Int32 => some (.int r)) 0 0) yX10_readMap cX10_readMap 1 (some .boolean) [] { frames := 9, cells := 0, slots := 0, locals := 189 } 0 0 0 [(0, .ref l0)] [] (c0 l0)) (l0 : Nat) : osW (osFinM (fun r : Int32 => some (.int r)) 0 0) yX10_readMap cX10_readMap 1 (some .boolean) [] { frames := 9, cells := 0, slots := 0, locals := 189 } 0 0 0 [(0, .ref l0)] [] (bX10_readMap_0 N c0 l0) := by
  unfold bX10_readMap_0
  refine os_aload_n (i := 0) (q := 0) (v := l0) 0 rfl rfl (hX10_readMap.at 0 rfl rfl) ?_
  refine os_callV (cis := [8]) (b := l0) (As := []) (st := []) (st' := (fun r => .int r :: [])) sl8_X10_peek_X10_peek mdX10_peek wd1777 wd1779 (sX10_peek N l0 ) rfl rfl (fun _ => rfl) (Nat.le_of_ble_eq_true rfl) (Nat.le_of_ble_eq_true rfl) (Nat.le_of_ble_eq_true rfl) rfl (Nat.le_of_ble_eq_true rfl) rfl (Nat.le_of_ble_eq_true rfl) (hX10_readMap.at 1 rfl rfl) (fun x1 => ?_)
  refine os_iconst (i := (-1)) (v := (-1 : Int32)) rfl (hX10_readMap.at 2 rfl rfl) ?_
  refine os_icmp_eq (off := 19) (tgt := 24) rfl (hX10_readMap.at 3 rfl rfl) ?_ ?_
  · refine os_iconst (i := 1) (v := (1 : Int32)) rfl (hX10_readMap.at 12 rfl rfl) ?_
    exact os_zret (Nat.le_of_ble_eq_true rfl) (Nat.le_of_ble_eq_true rfl) (hX10_readMap.at 13 rfl rfl).1
  · refine os_aload_n (i := 0) (q := 0) (v := l0) 0 rfl rfl (hX10_readMap.at 4 rfl rfl) ?_
    refine os_callV (cis := [8]) (b := l0) (As := []) (st := []) (st' := (fun r => .int r :: [])) sl8_X10_readStatement_X10_readStatement mdX10_readStatement wd1785 wd1787 (sX10_readStatement N l0 ) rfl rfl (fun _ => rfl) (Nat.le_of_ble_eq_true rfl) (Nat.le_of_ble_eq_true rfl) (Nat.le_of_ble_eq_true rfl) rfl (Nat.le_of_ble_eq_true rfl) rfl (Nat.le_of_ble_eq_true rfl) (hX10_readMap.at 5 rfl rfl) (fun x2 => ?_)
    refine os_if_eq (off := 10) (tgt := 22) rfl (hX10_readMap.at 6 rfl rfl) ?_ ?_
    · exact osW.sub [] rfl (sX10_readMap_22 N )
    · refine os_aload_n (i := 0) (q := 0) (v := l0) 0 rfl rfl (hX10_readMap.at 7 rfl rfl) ?_
      refine os_callV (cis := [8]) (b := l0) (As := []) (st := []) (st' := (fun r => .int r :: [])) sl8_X10_readSemicolon_X10_readSemicolon mdX10_readSemicolon wd1882 wd1884 (sX10_readSemicolon N l0 ) rfl rfl (fun _ => rfl) (Nat.le_of_ble_eq_true rfl) (Nat.le_of_ble_eq_true rfl) (Nat.le_of_ble_eq_true rfl) rfl (Nat.le_of_ble_eq_true rfl) rfl (Nat.le_of_ble_eq_true rfl) (hX10_readMap.at 8 rfl rfl) (fun x3 => ?_)
      refine os_if_ne (off := (-19)) (tgt := 0) rfl (hX10_readMap.at 9 rfl rfl) ?_ ?_
      · exact osW.sub [0] rfl (g0 l0)
      · exact osW.sub [] rfl (sX10_readMap_22 N )
set_option maxRecDepth 100000 in
set_option maxHeartbeats 4000000 in
theorem sX10_readMap_0 (N : Nat) (l0 : Nat) : osW (osFinM (fun r : Int32 => some (.int r)) 0 0) yX10_readMap cX10_readMap 1 (some .boolean) [] { frames := 9, cells := 0, slots := 0, locals := 189 } 0 0 0 [(0, .ref l0)] [] (qX10_readMap_0 N l0) :=
  osloop_W (lvf := fun p => [(0, .ref p)]) (stf := fun p => []) (fun ih g p => tX10_readMap_0 N ih (fun l0 => g l0) p) N l0
set_option maxRecDepth 100000 in
set_option maxHeartbeats 4000000 in
theorem sX10_readMap (N : Nat) (l0 : Nat) : osMet yX10_readMap cX10_readMap 1 (some .boolean) 9 189 0 0 (fun r : Int32 => some (.int r)) [.ref l0] (qX10_readMap N l0) := by
  refine osMet.of plX10 (Nat.le_of_ble_eq_true rfl) (osW.rw (lv2 := [(0, .ref l0)]) ?_ rfl rfl rfl)
  unfold qX10_readMap
  exact osW.sub [0] rfl (sX10_readMap_0 N l0)
-- X10_load
def KX10_load : List (Nat × Nat × Instr) := [(0, 1, .aload_n 0), (1, 1, .iload_n 1), (2, 3, .invokevirtual 283), (5, 3, .ifCond .ne 5), (8, 1, .iconst 0), (9, 1, .ireturn), (10, 1, .aload_n 0), (11, 3, .invokevirtual 76), (14, 1, .aload_n 0), (15, 1, .aload_n 0), (16, 3, .invokevirtual 286), (19, 3, .invokevirtual 289), (22, 3, .ifCond .ne 5), (25, 1, .iconst 0), (26, 1, .ireturn), (27, 1, .aload_n 0), (28, 3, .invokevirtual 79), (31, 1, .aload_n 0), (32, 1, .aload_n 0), (33, 3, .getfield 16), (36, 1, .iconst (-1)), (37, 3, .invokevirtual 128), (40, 1, .ireturn)]
theorem hX10_load : osDs cX10_load KX10_load := by
  show ∀ q ∈ KX10_load, decode cX10_load q.1 = .ok (q.2.2, q.2.1)
  decide +kernel
def qX10_load (N : Nat) (l0 : Nat) (l1 : Int32) : osM Int32 := osbind (osrecv [8] l0 (qX10_opens N l0 l1)) fun x1 => osite (x1 = 0) (osret (0 : Int32)) (osbind (osrecv [8] l0 (qX10_clears N l0)) fun _ => osbind (osrecv [8] l0 (qX10_readMap N l0)) fun x2 => osbind (osrecv [8] l0 (qX10_isRead N l0 x2)) fun x3 => osite (x3 = 0) (osret (0 : Int32)) (osbind (osrecv [8] l0 (qX10_settles N l0)) fun _ => osbind (osgR [8] 3 l0) fun x4 => osbind (osrecv [8] l0 (qX10_unitsOf N l0 x4 (-1 : Int32))) fun x5 => osret x5))
set_option maxRecDepth 100000 in
set_option maxHeartbeats 4000000 in
theorem sX10_load (N : Nat) (l0 : Nat) (l1 : Int32) : osMet yX10_load cX10_load 2 (some .int) 10 209 0 0 (fun r : Int32 => some (.int r)) [.ref l0, .int l1] (qX10_load N l0 l1) := by
  refine osMet.of plX10 (Nat.le_of_ble_eq_true rfl) (osW.rw (lv2 := [(0, .ref l0), (1, .int l1)]) ?_ rfl rfl rfl)
  unfold qX10_load
  refine os_aload_n (i := 0) (q := 0) (v := l0) 0 rfl rfl (hX10_load.at 0 rfl rfl) ?_
  refine os_iload_n (i := 1) (q := 1) (v := l1) 1 rfl rfl (hX10_load.at 1 rfl rfl) ?_
  refine os_callV (cis := [8]) (b := l0) (As := [.int l1]) (st := []) (st' := (fun r => .int r :: [])) sl8_X10_opens_X10_opens mdX10_opens wd1766 wd1768 (sX10_opens N l0 l1) rfl rfl (fun _ => rfl) (Nat.le_of_ble_eq_true rfl) (Nat.le_of_ble_eq_true rfl) (Nat.le_of_ble_eq_true rfl) rfl (Nat.le_of_ble_eq_true rfl) rfl (Nat.le_of_ble_eq_true rfl) (hX10_load.at 2 rfl rfl) (fun x1 => ?_)
  refine os_if_ne (off := 5) (tgt := 10) rfl (hX10_load.at 3 rfl rfl) ?_ ?_
  · refine os_aload_n (i := 0) (q := 0) (v := l0) 0 rfl rfl (hX10_load.at 6 rfl rfl) ?_
    refine os_callV (cis := [8]) (b := l0) (As := []) (st := []) (st' := (fun _ => [])) sl8_X10_clears_X10_clears mdX10_clears wd1587 wd1589 (sX10_clears N l0 ) rfl rfl (fun _ => rfl) (Nat.le_of_ble_eq_true rfl) (Nat.le_of_ble_eq_true rfl) (Nat.le_of_ble_eq_true rfl) rfl (Nat.le_of_ble_eq_true rfl) rfl (Nat.le_of_ble_eq_true rfl) (hX10_load.at 7 rfl rfl) (fun _ => ?_)
    refine os_aload_n (i := 0) (q := 0) (v := l0) 0 rfl rfl (hX10_load.at 8 rfl rfl) ?_
    refine os_aload_n (i := 0) (q := 0) (v := l0) 0 rfl rfl (hX10_load.at 9 rfl rfl) ?_
    refine os_callV (cis := [8]) (b := l0) (As := []) (st := [.ref l0]) (st' := (fun r => .int r :: [.ref l0])) sl8_X10_readMap_X10_readMap mdX10_readMap wd1773 wd1775 (sX10_readMap N l0 ) rfl rfl (fun _ => rfl) (Nat.le_of_ble_eq_true rfl) (Nat.le_of_ble_eq_true rfl) (Nat.le_of_ble_eq_true rfl) rfl (Nat.le_of_ble_eq_true rfl) rfl (Nat.le_of_ble_eq_true rfl) (hX10_load.at 10 rfl rfl) (fun x2 => ?_)
    refine os_callV (cis := [8]) (b := l0) (As := [.int x2]) (st := []) (st' := (fun r => .int r :: [])) sl8_X10_isRead_X10_isRead mdX10_isRead wd1886 wd1888 (sX10_isRead N l0 x2) rfl rfl (fun _ => rfl) (Nat.le_of_ble_eq_true rfl) (Nat.le_of_ble_eq_true rfl) (Nat.le_of_ble_eq_true rfl) rfl (Nat.le_of_ble_eq_true rfl) rfl (Nat.le_of_ble_eq_true rfl) (hX10_load.at 11 rfl rfl) (fun x3 => ?_)
    refine os_if_ne (off := 5) (tgt := 27) rfl (hX10_load.at 12 rfl rfl) ?_ ?_
    · refine os_aload_n (i := 0) (q := 0) (v := l0) 0 rfl rfl (hX10_load.at 15 rfl rfl) ?_
      refine os_callV (cis := [8]) (b := l0) (As := []) (st := []) (st' := (fun _ => [])) sl8_X10_settles_X10_settles mdX10_settles wd1594 wd1596 (sX10_settles N l0 ) rfl rfl (fun _ => rfl) (Nat.le_of_ble_eq_true rfl) (Nat.le_of_ble_eq_true rfl) (Nat.le_of_ble_eq_true rfl) rfl (Nat.le_of_ble_eq_true rfl) rfl (Nat.le_of_ble_eq_true rfl) (hX10_load.at 16 rfl rfl) (fun _ => ?_)
      refine os_aload_n (i := 0) (q := 0) (v := l0) 0 rfl rfl (hX10_load.at 17 rfl rfl) ?_
      refine os_aload_n (i := 0) (q := 0) (v := l0) 0 rfl rfl (hX10_load.at 18 rfl rfl) ?_
      refine os_getR fX10_16 (hX10_load.at 19 rfl rfl) (fun x4 => ?_)
      refine os_iconst (i := (-1)) (v := (-1 : Int32)) rfl (hX10_load.at 20 rfl rfl) ?_
      refine os_callV (cis := [8]) (b := l0) (As := [.ref x4, .int (-1 : Int32)]) (st := []) (st' := (fun r => .int r :: [])) sl8_X10_unitsOf_X10_unitsOf mdX10_unitsOf wd1890 wd1892 (sX10_unitsOf N l0 x4 (-1 : Int32)) rfl rfl (fun _ => rfl) (Nat.le_of_ble_eq_true rfl) (Nat.le_of_ble_eq_true rfl) (Nat.le_of_ble_eq_true rfl) rfl (Nat.le_of_ble_eq_true rfl) rfl (Nat.le_of_ble_eq_true rfl) (hX10_load.at 21 rfl rfl) (fun x5 => ?_)
      exact os_iret (Nat.le_of_ble_eq_true rfl) (Nat.le_of_ble_eq_true rfl) (hX10_load.at 22 rfl rfl).1
    · refine os_iconst (i := 0) (v := (0 : Int32)) rfl (hX10_load.at 13 rfl rfl) ?_
      exact os_iret (Nat.le_of_ble_eq_true rfl) (Nat.le_of_ble_eq_true rfl) (hX10_load.at 14 rfl rfl).1
  · refine os_iconst (i := 0) (v := (0 : Int32)) rfl (hX10_load.at 4 rfl rfl) ?_
    exact os_iret (Nat.le_of_ble_eq_true rfl) (Nat.le_of_ble_eq_true rfl) (hX10_load.at 5 rfl rfl).1
-- X10_init
def KX10_init : List (Nat × Nat × Instr) := [(0, 1, .aload_n 0), (1, 3, .invokespecial 1), (4, 1, .aload_n 0), (5, 2, .bipush 98), (7, 2, .newarray .int), (9, 3, .putfield 7), (12, 1, .aload_n 0), (13, 2, .bipush 98), (15, 2, .newarray .int), (17, 3, .putfield 13), (20, 1, .aload_n 0), (21, 3, .sipush 261), (24, 2, .newarray .int), (26, 3, .putfield 16), (29, 1, .aload_n 0), (30, 3, .sipush 261), (33, 2, .newarray .int), (35, 3, .putfield 19), (38, 1, .aload_n 0), (39, 3, .sipush 1566), (42, 2, .newarray .int), (44, 3, .putfield 22), (47, 1, .aload_n 0), (48, 2, .bipush 20), (50, 2, .newarray .long), (52, 3, .putfield 25), (55, 1, .aload_n 0), (56, 2, .bipush 20), (58, 2, .newarray .long), (60, 3, .putfield 29), (63, 1, .aload_n 0), (64, 3, .sipush 1000), (67, 2, .newarray .int), (69, 3, .putfield 32), (72, 1, .aload_n 0), (73, 1, .iconst (-1)), (74, 3, .putfield 35), (77, 1, .aload_n 0), (78, 2, .bipush 12), (80, 2, .newarray .int), (82, 3, .putfield 39), (85, 1, .aload_n 0), (86, 2, .bipush 12), (88, 2, .newarray .int), (90, 3, .putfield 42), (93, 1, .aload_n 0), (94, 2, .bipush 12), (96, 2, .newarray .int), (98, 3, .putfield 45), (101, 1, .aload_n 0), (102, 2, .bipush 16), (104, 2, .newarray .int), (106, 3, .putfield 48), (109, 1, .aload_n 0), (110, 2, .bipush 12), (112, 2, .newarray .boolean), (114, 3, .putfield 51), (117, 1, .aload_n 0), (118, 2, .bipush 12), (120, 2, .newarray .int), (122, 3, .putfield 55), (125, 1, .aload_n 0), (126, 2, .bipush 12), (128, 2, .newarray .int), (130, 3, .putfield 58), (133, 1, .aload_n 0), (134, 2, .bipush 12), (136, 2, .newarray .int), (138, 3, .putfield 61), (141, 1, .aload_n 0), (142, 2, .bipush 16), (144, 2, .newarray .int), (146, 3, .putfield 64), (149, 1, .aload_n 0), (150, 2, .bipush 16), (152, 2, .newarray .int), (154, 3, .putfield 67), (157, 1, .aload_n 0), (158, 2, .bipush 16), (160, 2, .newarray .int), (162, 3, .putfield 70), (165, 1, .aload_n 0), (166, 3, .sipush 600), (169, 2, .newarray .int), (171, 3, .putfield 73), (174, 1, .aload_n 0), (175, 3, .invokevirtual 76), (178, 1, .aload_n 0), (179, 3, .invokevirtual 79), (182, 1, .return_)]
theorem hX10_init : osDs cX10_init KX10_init := by
  show ∀ q ∈ KX10_init, decode cX10_init q.1 = .ok (q.2.2, q.2.1)
  decide +kernel
def qX10_init (N : Nat) (l0 : Nat) : osM Unit := osbind (osnew (.inl (0, (98, .inl fun _ => 0)))) fun x1 => osbind (osput [8] 1 l0 (.ref x1)) fun _ => osbind (osnew (.inl (0, (98, .inl fun _ => 0)))) fun x2 => osbind (osput [8] 2 l0 (.ref x2)) fun _ => osbind (osnew (.inl (0, (261, .inl fun _ => 0)))) fun x3 => osbind (osput [8] 3 l0 (.ref x3)) fun _ => osbind (osnew (.inl (0, (261, .inl fun _ => 0)))) fun x4 => osbind (osput [8] 4 l0 (.ref x4)) fun _ => osbind (osnew (.inl (0, (1566, .inl fun _ => 0)))) fun x5 => osbind (osput [8] 5 l0 (.ref x5)) fun _ => osbind (osnew (.inl (2, (20, .inr (.inl fun _ => 0))))) fun x6 => osbind (osput [8] 6 l0 (.ref x6)) fun _ => osbind (osnew (.inl (2, (20, .inr (.inl fun _ => 0))))) fun x7 => osbind (osput [8] 7 l0 (.ref x7)) fun _ => osbind (osnew (.inl (0, (1000, .inl fun _ => 0)))) fun x8 => osbind (osput [8] 9 l0 (.ref x8)) fun _ => osbind (osput [8] 17 l0 (.int (-1 : Int32))) fun _ => osbind (osnew (.inl (0, (12, .inl fun _ => 0)))) fun x9 => osbind (osput [8] 21 l0 (.ref x9)) fun _ => osbind (osnew (.inl (0, (12, .inl fun _ => 0)))) fun x10 => osbind (osput [8] 22 l0 (.ref x10)) fun _ => osbind (osnew (.inl (0, (12, .inl fun _ => 0)))) fun x11 => osbind (osput [8] 23 l0 (.ref x11)) fun _ => osbind (osnew (.inl (0, (16, .inl fun _ => 0)))) fun x12 => osbind (osput [8] 24 l0 (.ref x12)) fun _ => osbind (osnew (.inl (3, (12, .inl fun _ => 0)))) fun x13 => osbind (osput [8] 25 l0 (.ref x13)) fun _ => osbind (osnew (.inl (0, (12, .inl fun _ => 0)))) fun x14 => osbind (osput [8] 32 l0 (.ref x14)) fun _ => osbind (osnew (.inl (0, (12, .inl fun _ => 0)))) fun x15 => osbind (osput [8] 33 l0 (.ref x15)) fun _ => osbind (osnew (.inl (0, (12, .inl fun _ => 0)))) fun x16 => osbind (osput [8] 34 l0 (.ref x16)) fun _ => osbind (osnew (.inl (0, (16, .inl fun _ => 0)))) fun x17 => osbind (osput [8] 35 l0 (.ref x17)) fun _ => osbind (osnew (.inl (0, (16, .inl fun _ => 0)))) fun x18 => osbind (osput [8] 39 l0 (.ref x18)) fun _ => osbind (osnew (.inl (0, (16, .inl fun _ => 0)))) fun x19 => osbind (osput [8] 40 l0 (.ref x19)) fun _ => osbind (osnew (.inl (0, (600, .inl fun _ => 0)))) fun x20 => osbind (osput [8] 41 l0 (.ref x20)) fun _ => osbind (osrecv [8] l0 (qX10_clears N l0)) fun _ => osbind (osrecv [8] l0 (qX10_settles N l0)) fun _ => osret ()
set_option maxRecDepth 100000 in
set_option maxHeartbeats 4000000 in
theorem sX10_init (N : Nat) (l0 : Nat) : osMet yX10_init cX10_init 1 none 2 42 20 4072 (fun _ : Unit => none) [.ref l0] (qX10_init N l0) := by
  refine osMet.of plX10 (Nat.le_of_ble_eq_true rfl) (osW.rw (lv2 := [(0, .ref l0)]) ?_ rfl rfl rfl)
  unfold qX10_init
  refine os_aload_n (i := 0) (q := 0) (v := l0) 0 rfl rfl (hX10_init.at 0 rfl rfl) ?_
  refine os_objInit wd1586 wd183 wd184 (Nat.le_of_ble_eq_true rfl) (Nat.le_of_ble_eq_true rfl) (Nat.le_of_ble_eq_true rfl) (hX10_init.at 1 rfl rfl) ?_
  refine os_aload_n (i := 0) (q := 0) (v := l0) 0 rfl rfl (hX10_init.at 2 rfl rfl) ?_
  refine os_bipush (i := 98) (v := (98 : Int32)) rfl (hX10_init.at 3 rfl rfl) ?_
  refine os_newarray (at9 := .int) (ty := .int) (t := 0) (N := 98) rfl rfl rfl wd345 (fun _ => rfl) (by decide) rfl (Nat.le_of_ble_eq_true rfl) (Nat.le_of_ble_eq_true rfl) (Nat.le_of_ble_eq_true rfl) (hX10_init.at 4 rfl rfl) (fun x1 => ?_)
  refine os_putF fX10_7 rfl (osHd1 rfl rfl) rfl rfl (hX10_init.at 5 rfl rfl) ?_
  refine os_aload_n (i := 0) (q := 0) (v := l0) 0 rfl rfl (hX10_init.at 6 rfl rfl) ?_
  refine os_bipush (i := 98) (v := (98 : Int32)) rfl (hX10_init.at 7 rfl rfl) ?_
  refine os_newarray (at9 := .int) (ty := .int) (t := 0) (N := 98) rfl rfl rfl wd345 (fun _ => rfl) (by decide) rfl (Nat.le_of_ble_eq_true rfl) (Nat.le_of_ble_eq_true rfl) (Nat.le_of_ble_eq_true rfl) (hX10_init.at 8 rfl rfl) (fun x2 => ?_)
  refine os_putF fX10_13 rfl (osHd1 rfl rfl) rfl rfl (hX10_init.at 9 rfl rfl) ?_
  refine os_aload_n (i := 0) (q := 0) (v := l0) 0 rfl rfl (hX10_init.at 10 rfl rfl) ?_
  refine os_sipush (i := 261) (v := (261 : Int32)) rfl (hX10_init.at 11 rfl rfl) ?_
  refine os_newarray (at9 := .int) (ty := .int) (t := 0) (N := 261) rfl rfl rfl wd345 (fun _ => rfl) (by decide) rfl (Nat.le_of_ble_eq_true rfl) (Nat.le_of_ble_eq_true rfl) (Nat.le_of_ble_eq_true rfl) (hX10_init.at 12 rfl rfl) (fun x3 => ?_)
  refine os_putF fX10_16 rfl (osHd1 rfl rfl) rfl rfl (hX10_init.at 13 rfl rfl) ?_
  refine os_aload_n (i := 0) (q := 0) (v := l0) 0 rfl rfl (hX10_init.at 14 rfl rfl) ?_
  refine os_sipush (i := 261) (v := (261 : Int32)) rfl (hX10_init.at 15 rfl rfl) ?_
  refine os_newarray (at9 := .int) (ty := .int) (t := 0) (N := 261) rfl rfl rfl wd345 (fun _ => rfl) (by decide) rfl (Nat.le_of_ble_eq_true rfl) (Nat.le_of_ble_eq_true rfl) (Nat.le_of_ble_eq_true rfl) (hX10_init.at 16 rfl rfl) (fun x4 => ?_)
  refine os_putF fX10_19 rfl (osHd1 rfl rfl) rfl rfl (hX10_init.at 17 rfl rfl) ?_
  refine os_aload_n (i := 0) (q := 0) (v := l0) 0 rfl rfl (hX10_init.at 18 rfl rfl) ?_
  refine os_sipush (i := 1566) (v := (1566 : Int32)) rfl (hX10_init.at 19 rfl rfl) ?_
  refine os_newarray (at9 := .int) (ty := .int) (t := 0) (N := 1566) rfl rfl rfl wd345 (fun _ => rfl) (by decide) rfl (Nat.le_of_ble_eq_true rfl) (Nat.le_of_ble_eq_true rfl) (Nat.le_of_ble_eq_true rfl) (hX10_init.at 20 rfl rfl) (fun x5 => ?_)
  refine os_putF fX10_22 rfl (osHd1 rfl rfl) rfl rfl (hX10_init.at 21 rfl rfl) ?_
  refine os_aload_n (i := 0) (q := 0) (v := l0) 0 rfl rfl (hX10_init.at 22 rfl rfl) ?_
  refine os_bipush (i := 20) (v := (20 : Int32)) rfl (hX10_init.at 23 rfl rfl) ?_
  refine os_newarray (at9 := .long) (ty := .long) (t := 2) (N := 20) rfl rfl rfl wd1732 (fun _ => rfl) (by decide) rfl (Nat.le_of_ble_eq_true rfl) (Nat.le_of_ble_eq_true rfl) (Nat.le_of_ble_eq_true rfl) (hX10_init.at 24 rfl rfl) (fun x6 => ?_)
  refine os_putF fX10_25 rfl (osHd1 rfl rfl) rfl rfl (hX10_init.at 25 rfl rfl) ?_
  refine os_aload_n (i := 0) (q := 0) (v := l0) 0 rfl rfl (hX10_init.at 26 rfl rfl) ?_
  refine os_bipush (i := 20) (v := (20 : Int32)) rfl (hX10_init.at 27 rfl rfl) ?_
  refine os_newarray (at9 := .long) (ty := .long) (t := 2) (N := 20) rfl rfl rfl wd1732 (fun _ => rfl) (by decide) rfl (Nat.le_of_ble_eq_true rfl) (Nat.le_of_ble_eq_true rfl) (Nat.le_of_ble_eq_true rfl) (hX10_init.at 28 rfl rfl) (fun x7 => ?_)
  refine os_putF fX10_29 rfl (osHd1 rfl rfl) rfl rfl (hX10_init.at 29 rfl rfl) ?_
  refine os_aload_n (i := 0) (q := 0) (v := l0) 0 rfl rfl (hX10_init.at 30 rfl rfl) ?_
  refine os_sipush (i := 1000) (v := (1000 : Int32)) rfl (hX10_init.at 31 rfl rfl) ?_
  refine os_newarray (at9 := .int) (ty := .int) (t := 0) (N := 1000) rfl rfl rfl wd345 (fun _ => rfl) (by decide) rfl (Nat.le_of_ble_eq_true rfl) (Nat.le_of_ble_eq_true rfl) (Nat.le_of_ble_eq_true rfl) (hX10_init.at 32 rfl rfl) (fun x8 => ?_)
  refine os_putF fX10_32 rfl (osHd1 rfl rfl) rfl rfl (hX10_init.at 33 rfl rfl) ?_
  refine os_aload_n (i := 0) (q := 0) (v := l0) 0 rfl rfl (hX10_init.at 34 rfl rfl) ?_
  refine os_iconst (i := (-1)) (v := (-1 : Int32)) rfl (hX10_init.at 35 rfl rfl) ?_
  refine os_put fX10_35 rfl rfl (hX10_init.at 36 rfl rfl) ?_
  refine os_aload_n (i := 0) (q := 0) (v := l0) 0 rfl rfl (hX10_init.at 37 rfl rfl) ?_
  refine os_bipush (i := 12) (v := (12 : Int32)) rfl (hX10_init.at 38 rfl rfl) ?_
  refine os_newarray (at9 := .int) (ty := .int) (t := 0) (N := 12) rfl rfl rfl wd345 (fun _ => rfl) (by decide) rfl (Nat.le_of_ble_eq_true rfl) (Nat.le_of_ble_eq_true rfl) (Nat.le_of_ble_eq_true rfl) (hX10_init.at 39 rfl rfl) (fun x9 => ?_)
  refine os_putF fX10_39 rfl (osHd1 rfl rfl) rfl rfl (hX10_init.at 40 rfl rfl) ?_
  refine os_aload_n (i := 0) (q := 0) (v := l0) 0 rfl rfl (hX10_init.at 41 rfl rfl) ?_
  refine os_bipush (i := 12) (v := (12 : Int32)) rfl (hX10_init.at 42 rfl rfl) ?_
  refine os_newarray (at9 := .int) (ty := .int) (t := 0) (N := 12) rfl rfl rfl wd345 (fun _ => rfl) (by decide) rfl (Nat.le_of_ble_eq_true rfl) (Nat.le_of_ble_eq_true rfl) (Nat.le_of_ble_eq_true rfl) (hX10_init.at 43 rfl rfl) (fun x10 => ?_)
  refine os_putF fX10_42 rfl (osHd1 rfl rfl) rfl rfl (hX10_init.at 44 rfl rfl) ?_
  refine os_aload_n (i := 0) (q := 0) (v := l0) 0 rfl rfl (hX10_init.at 45 rfl rfl) ?_
  refine os_bipush (i := 12) (v := (12 : Int32)) rfl (hX10_init.at 46 rfl rfl) ?_
  refine os_newarray (at9 := .int) (ty := .int) (t := 0) (N := 12) rfl rfl rfl wd345 (fun _ => rfl) (by decide) rfl (Nat.le_of_ble_eq_true rfl) (Nat.le_of_ble_eq_true rfl) (Nat.le_of_ble_eq_true rfl) (hX10_init.at 47 rfl rfl) (fun x11 => ?_)
  refine os_putF fX10_45 rfl (osHd1 rfl rfl) rfl rfl (hX10_init.at 48 rfl rfl) ?_
  refine os_aload_n (i := 0) (q := 0) (v := l0) 0 rfl rfl (hX10_init.at 49 rfl rfl) ?_
  refine os_bipush (i := 16) (v := (16 : Int32)) rfl (hX10_init.at 50 rfl rfl) ?_
  refine os_newarray (at9 := .int) (ty := .int) (t := 0) (N := 16) rfl rfl rfl wd345 (fun _ => rfl) (by decide) rfl (Nat.le_of_ble_eq_true rfl) (Nat.le_of_ble_eq_true rfl) (Nat.le_of_ble_eq_true rfl) (hX10_init.at 51 rfl rfl) (fun x12 => ?_)
  refine os_putF fX10_48 rfl (osHd1 rfl rfl) rfl rfl (hX10_init.at 52 rfl rfl) ?_
  refine os_aload_n (i := 0) (q := 0) (v := l0) 0 rfl rfl (hX10_init.at 53 rfl rfl) ?_
  refine os_bipush (i := 12) (v := (12 : Int32)) rfl (hX10_init.at 54 rfl rfl) ?_
  refine os_newarray (at9 := .boolean) (ty := .boolean) (t := 3) (N := 12) rfl rfl rfl wd1733 (fun _ => rfl) (by decide) rfl (Nat.le_of_ble_eq_true rfl) (Nat.le_of_ble_eq_true rfl) (Nat.le_of_ble_eq_true rfl) (hX10_init.at 55 rfl rfl) (fun x13 => ?_)
  refine os_putF fX10_51 rfl (osHd1 rfl rfl) rfl rfl (hX10_init.at 56 rfl rfl) ?_
  refine os_aload_n (i := 0) (q := 0) (v := l0) 0 rfl rfl (hX10_init.at 57 rfl rfl) ?_
  refine os_bipush (i := 12) (v := (12 : Int32)) rfl (hX10_init.at 58 rfl rfl) ?_
  refine os_newarray (at9 := .int) (ty := .int) (t := 0) (N := 12) rfl rfl rfl wd345 (fun _ => rfl) (by decide) rfl (Nat.le_of_ble_eq_true rfl) (Nat.le_of_ble_eq_true rfl) (Nat.le_of_ble_eq_true rfl) (hX10_init.at 59 rfl rfl) (fun x14 => ?_)
  refine os_putF fX10_55 rfl (osHd1 rfl rfl) rfl rfl (hX10_init.at 60 rfl rfl) ?_
  refine os_aload_n (i := 0) (q := 0) (v := l0) 0 rfl rfl (hX10_init.at 61 rfl rfl) ?_
  refine os_bipush (i := 12) (v := (12 : Int32)) rfl (hX10_init.at 62 rfl rfl) ?_
  refine os_newarray (at9 := .int) (ty := .int) (t := 0) (N := 12) rfl rfl rfl wd345 (fun _ => rfl) (by decide) rfl (Nat.le_of_ble_eq_true rfl) (Nat.le_of_ble_eq_true rfl) (Nat.le_of_ble_eq_true rfl) (hX10_init.at 63 rfl rfl) (fun x15 => ?_)
  refine os_putF fX10_58 rfl (osHd1 rfl rfl) rfl rfl (hX10_init.at 64 rfl rfl) ?_
  refine os_aload_n (i := 0) (q := 0) (v := l0) 0 rfl rfl (hX10_init.at 65 rfl rfl) ?_
  refine os_bipush (i := 12) (v := (12 : Int32)) rfl (hX10_init.at 66 rfl rfl) ?_
  refine os_newarray (at9 := .int) (ty := .int) (t := 0) (N := 12) rfl rfl rfl wd345 (fun _ => rfl) (by decide) rfl (Nat.le_of_ble_eq_true rfl) (Nat.le_of_ble_eq_true rfl) (Nat.le_of_ble_eq_true rfl) (hX10_init.at 67 rfl rfl) (fun x16 => ?_)
  refine os_putF fX10_61 rfl (osHd1 rfl rfl) rfl rfl (hX10_init.at 68 rfl rfl) ?_
  refine os_aload_n (i := 0) (q := 0) (v := l0) 0 rfl rfl (hX10_init.at 69 rfl rfl) ?_
  refine os_bipush (i := 16) (v := (16 : Int32)) rfl (hX10_init.at 70 rfl rfl) ?_
  refine os_newarray (at9 := .int) (ty := .int) (t := 0) (N := 16) rfl rfl rfl wd345 (fun _ => rfl) (by decide) rfl (Nat.le_of_ble_eq_true rfl) (Nat.le_of_ble_eq_true rfl) (Nat.le_of_ble_eq_true rfl) (hX10_init.at 71 rfl rfl) (fun x17 => ?_)
  refine os_putF fX10_64 rfl (osHd1 rfl rfl) rfl rfl (hX10_init.at 72 rfl rfl) ?_
  refine os_aload_n (i := 0) (q := 0) (v := l0) 0 rfl rfl (hX10_init.at 73 rfl rfl) ?_
  refine os_bipush (i := 16) (v := (16 : Int32)) rfl (hX10_init.at 74 rfl rfl) ?_
  refine os_newarray (at9 := .int) (ty := .int) (t := 0) (N := 16) rfl rfl rfl wd345 (fun _ => rfl) (by decide) rfl (Nat.le_of_ble_eq_true rfl) (Nat.le_of_ble_eq_true rfl) (Nat.le_of_ble_eq_true rfl) (hX10_init.at 75 rfl rfl) (fun x18 => ?_)
  refine os_putF fX10_67 rfl (osHd1 rfl rfl) rfl rfl (hX10_init.at 76 rfl rfl) ?_
  refine os_aload_n (i := 0) (q := 0) (v := l0) 0 rfl rfl (hX10_init.at 77 rfl rfl) ?_
  refine os_bipush (i := 16) (v := (16 : Int32)) rfl (hX10_init.at 78 rfl rfl) ?_
  refine os_newarray (at9 := .int) (ty := .int) (t := 0) (N := 16) rfl rfl rfl wd345 (fun _ => rfl) (by decide) rfl (Nat.le_of_ble_eq_true rfl) (Nat.le_of_ble_eq_true rfl) (Nat.le_of_ble_eq_true rfl) (hX10_init.at 79 rfl rfl) (fun x19 => ?_)
  refine os_putF fX10_70 rfl (osHd1 rfl rfl) rfl rfl (hX10_init.at 80 rfl rfl) ?_
  refine os_aload_n (i := 0) (q := 0) (v := l0) 0 rfl rfl (hX10_init.at 81 rfl rfl) ?_
  refine os_sipush (i := 600) (v := (600 : Int32)) rfl (hX10_init.at 82 rfl rfl) ?_
  refine os_newarray (at9 := .int) (ty := .int) (t := 0) (N := 600) rfl rfl rfl wd345 (fun _ => rfl) (by decide) rfl (Nat.le_of_ble_eq_true rfl) (Nat.le_of_ble_eq_true rfl) (Nat.le_of_ble_eq_true rfl) (hX10_init.at 83 rfl rfl) (fun x20 => ?_)
  refine os_putF fX10_73 rfl (osHd1 rfl rfl) rfl rfl (hX10_init.at 84 rfl rfl) ?_
  refine os_aload_n (i := 0) (q := 0) (v := l0) 0 rfl rfl (hX10_init.at 85 rfl rfl) ?_
  refine os_callV (cis := [8]) (b := l0) (As := []) (st := []) (st' := (fun _ => [])) sl8_X10_clears_X10_clears mdX10_clears wd1587 wd1589 (sX10_clears N l0 ) rfl rfl (fun _ => rfl) (Nat.le_of_ble_eq_true rfl) (Nat.le_of_ble_eq_true rfl) (Nat.le_of_ble_eq_true rfl) rfl (Nat.le_of_ble_eq_true rfl) rfl (Nat.le_of_ble_eq_true rfl) (hX10_init.at 86 rfl rfl) (fun _ => ?_)
  refine os_aload_n (i := 0) (q := 0) (v := l0) 0 rfl rfl (hX10_init.at 87 rfl rfl) ?_
  refine os_callV (cis := [8]) (b := l0) (As := []) (st := []) (st' := (fun _ => [])) sl8_X10_settles_X10_settles mdX10_settles wd1594 wd1596 (sX10_settles N l0 ) rfl rfl (fun _ => rfl) (Nat.le_of_ble_eq_true rfl) (Nat.le_of_ble_eq_true rfl) (Nat.le_of_ble_eq_true rfl) rfl (Nat.le_of_ble_eq_true rfl) rfl (Nat.le_of_ble_eq_true rfl) (hX10_init.at 88 rfl rfl) (fun _ => ?_)
  exact os_vret (Nat.le_of_ble_eq_true rfl) (Nat.le_of_ble_eq_true rfl) (hX10_init.at 89 rfl rfl).1
