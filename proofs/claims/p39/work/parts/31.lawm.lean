-- L_orders
def KL_orders : List (Nat × Nat × Instr) := [(0, 1, .iconst 0), (1, 1, .istore_n 3), (2, 1, .iconst 0), (3, 2, .istore 4), (5, 2, .iload 4), (7, 1, .aload_n 0), (8, 3, .invokevirtual 89), (11, 3, .if_icmp .ge 61), (14, 1, .iconst 0), (15, 2, .istore 5), (17, 2, .iload 5), (19, 1, .iload_n 2), (20, 3, .if_icmp .ge 46), (23, 1, .aload_n 0), (24, 2, .iload 4), (26, 1, .iconst 4), (27, 3, .invokevirtual 92), (30, 1, .iconst (-1)), (31, 3, .if_icmp .eq 35), (34, 1, .iload_n 3), (35, 1, .aload_n 0), (36, 1, .aload_n 1), (37, 2, .iload 4), (39, 1, .aload_n 0), (40, 3, .invokevirtual 89), (43, 3, .invokestatic 96), (46, 3, .invokestatic 100), (49, 1, .iconst 1), (50, 3, .if_icmp .ne 7), (53, 1, .iconst 1), (54, 3, .goto 4), (57, 1, .iconst 0), (58, 1, .iadd), (59, 1, .istore_n 3), (60, 3, .iinc 5 1), (63, 3, .goto (-46)), (66, 3, .iinc 4 1), (69, 3, .goto (-64)), (72, 1, .iload_n 3), (73, 1, .ireturn)]
theorem hL_orders : osDs cL_orders KL_orders := by
  show ∀ q ∈ KL_orders, decode cL_orders q.1 = .ok (q.2.2, q.2.1)
  decide +kernel
def qL_orders_66 (N : Nat) (c5 : Nat × Nat × Int32 × Int32 × Int32 → osM Int32) (l0 : Nat) (l1 : Nat) (l2 : Int32) (l3 : Int32) (l4 : Int32) : osM Int32 := c5 (l0, l1, l2, l3, (l4 + (1 : Int32)))
def qL_orders_58 (N : Nat) (c5 : Nat × Nat × Int32 × Int32 × Int32 → osM Int32) (c17 : Nat × Nat × Int32 × Int32 × Int32 × Int32 → osM Int32) (l0 : Nat) (l1 : Nat) (l2 : Int32) (l4 : Int32) (l5 : Int32) (k0 : Int32) (k1 : Int32) : osM Int32 := c17 (l0, l1, l2, (k1 + k0), l4, (l5 + (1 : Int32)))
def bL_orders_17 (N : Nat) (c5 : Nat × Nat × Int32 × Int32 × Int32 → osM Int32) (c17 : Nat × Nat × Int32 × Int32 × Int32 × Int32 → osM Int32) (l0 : Nat) (l1 : Nat) (l2 : Int32) (l3 : Int32) (l4 : Int32) (l5 : Int32) : osM Int32 := osite (l2 ≤ l5) (qL_orders_66 N c5 l0 l1 l2 l3 l4) (osbind (osrecv [7] l0 (osRV (qX9_area N l0 l4 (4 : Int32)))) fun x1 => osite (x1 = (-1 : Int32)) (qL_orders_66 N c5 l0 l1 l2 l3 l4) (osbind (osrecv [7] l0 (qX9_areas N l0)) fun x2 => osbind (qL_order N l1 l4 x2) fun x3 => osbind (qL_tell N l0 x3) fun x4 => osite (x4 = (1 : Int32)) (qL_orders_58 N c5 c17 l0 l1 l2 l4 l5 (1 : Int32) l3) (qL_orders_58 N c5 c17 l0 l1 l2 l4 l5 (0 : Int32) l3)))
def qL_orders_17 (N : Nat) (c5 : Nat × Nat × Int32 × Int32 × Int32 → osM Int32) : Nat × Nat × Int32 × Int32 × Int32 × Int32 → osM Int32 := osloop (fun ih p => bL_orders_17 N c5 ih p.1 p.2.1 p.2.2.1 p.2.2.2.1 p.2.2.2.2.1 p.2.2.2.2.2) 5
def bL_orders_5 (N : Nat) (c5 : Nat × Nat × Int32 × Int32 × Int32 → osM Int32) (l0 : Nat) (l1 : Nat) (l2 : Int32) (l3 : Int32) (l4 : Int32) : osM Int32 := osbind (osrecv [7] l0 (qX9_areas N l0)) fun x1 => osite (x1 ≤ l4) (osret l3) (qL_orders_17 N c5 (l0, l1, l2, l3, l4, (0 : Int32)))
def qL_orders_5 (N : Nat) : Nat × Nat × Int32 × Int32 × Int32 → osM Int32 := osloop (fun ih p => bL_orders_5 N ih p.1 p.2.1 p.2.2.1 p.2.2.2.1 p.2.2.2.2) 13
def qL_orders (N : Nat) (l0 : Nat) (l1 : Nat) (l2 : Int32) : osM Int32 := qL_orders_5 N (l0, l1, l2, (0 : Int32), (0 : Int32))
set_option maxRecDepth 100000 in
set_option maxHeartbeats 4000000 in
theorem sL_orders_66 (N : Nat) (k5 n5 : Nat) (hx5 : k5 + 580 ≤ 7540 ∧ n5 + 5525 ≤ 71825) (c5 : Nat × Nat × Int32 × Int32 × Int32 → osM Int32) (g5 : ∀ (l0 : Nat) (l1 : Nat) (l2 : Int32) (l3 : Int32) (l4 : Int32), osW (osFinM (fun r : Int32 => some (.int r)) 7540 71825) yL_orders cL_orders 6 (some .int) [] { frames := 9, cells := 7540, slots := 71825, locals := 212 } (k5 + 580) (n5 + 5525) 5 [(0, .ref l0), (1, .ref l1), (2, .int l2), (3, .int l3), (4, .int l4)] [] (c5 (l0, l1, l2, l3, l4))) (l0 : Nat) (l1 : Nat) (l2 : Int32) (l3 : Int32) (l4 : Int32) : osW (osFinM (fun r : Int32 => some (.int r)) 7540 71825) yL_orders cL_orders 6 (some .int) [] { frames := 9, cells := 7540, slots := 71825, locals := 212 } (k5 + 580) (n5 + 5525) 66 [(0, .ref l0), (1, .ref l1), (2, .int l2), (3, .int l3), (4, .int l4)] [] (qL_orders_66 N c5 l0 l1 l2 l3 l4) := by
  unfold qL_orders_66
  refine os_iinc (i := 4) (d := 1) (x := l4) (v := (1 : Int32)) (lv' := [(4, .int (l4 + (1 : Int32))), (0, .ref l0), (1, .ref l1), (2, .int l2), (3, .int l3)]) 4 rfl rfl (Nat.le_of_ble_eq_true rfl) rfl (hL_orders.at 36 rfl rfl) ?_
  refine os_goto (off := (-64)) (tgt := 5) rfl (hL_orders.at 37 rfl rfl) ?_
  exact osW.widen (k' := k5 + 580) (n' := n5 + 5525) (by omega) (by omega) (osW.sub [1, 2, 3, 4, 0] rfl (g5 l0 l1 l2 l3 (l4 + (1 : Int32))))
set_option maxRecDepth 100000 in
set_option maxHeartbeats 4000000 in
theorem sL_orders_58 (N : Nat) (k5 n5 : Nat) (hx5 : k5 + 580 ≤ 7540 ∧ n5 + 5525 ≤ 71825) (k17 n17 : Nat) (hx17 : k17 + 116 ≤ k5 + 580 ∧ n17 + 1105 ≤ n5 + 5525) (c5 : Nat × Nat × Int32 × Int32 × Int32 → osM Int32) (c17 : Nat × Nat × Int32 × Int32 × Int32 × Int32 → osM Int32) (g5 : ∀ (l0 : Nat) (l1 : Nat) (l2 : Int32) (l3 : Int32) (l4 : Int32), osW (osFinM (fun r : Int32 => some (.int r)) 7540 71825) yL_orders cL_orders 6 (some .int) [] { frames := 9, cells := 7540, slots := 71825, locals := 212 } (k5 + 580) (n5 + 5525) 5 [(0, .ref l0), (1, .ref l1), (2, .int l2), (3, .int l3), (4, .int l4)] [] (c5 (l0, l1, l2, l3, l4))) (g17 : ∀ (l0 : Nat) (l1 : Nat) (l2 : Int32) (l3 : Int32) (l4 : Int32) (l5 : Int32), osW (osFinM (fun r : Int32 => some (.int r)) 7540 71825) yL_orders cL_orders 6 (some .int) [] { frames := 9, cells := 7540, slots := 71825, locals := 212 } (k17 + 116) (n17 + 1105) 17 [(0, .ref l0), (1, .ref l1), (2, .int l2), (3, .int l3), (4, .int l4), (5, .int l5)] [] (c17 (l0, l1, l2, l3, l4, l5))) (l0 : Nat) (l1 : Nat) (l2 : Int32) (l4 : Int32) (l5 : Int32) (k0 : Int32) (k1 : Int32) : osW (osFinM (fun r : Int32 => some (.int r)) 7540 71825) yL_orders cL_orders 6 (some .int) [] { frames := 9, cells := 7540, slots := 71825, locals := 212 } (k17 + 116) (n17 + 1105) 58 [(0, .ref l0), (1, .ref l1), (2, .int l2), (4, .int l4), (5, .int l5)] [.int k0, .int k1] (qL_orders_58 N c5 c17 l0 l1 l2 l4 l5 k0 k1) := by
  unfold qL_orders_58
  refine os_iadd (hL_orders.at 32 rfl rfl) ?_
  refine os_istore_n (i := 3) (q := 3) rfl (lv' := [(3, .int (k1 + k0)), (0, .ref l0), (1, .ref l1), (2, .int l2), (4, .int l4), (5, .int l5)]) (Nat.le_of_ble_eq_true rfl) rfl (hL_orders.at 33 rfl rfl) ?_
  refine os_iinc (i := 5) (d := 1) (x := l5) (v := (1 : Int32)) (lv' := [(5, .int (l5 + (1 : Int32))), (3, .int (k1 + k0)), (0, .ref l0), (1, .ref l1), (2, .int l2), (4, .int l4)]) 5 rfl rfl (Nat.le_of_ble_eq_true rfl) rfl (hL_orders.at 34 rfl rfl) ?_
  refine os_goto (off := (-46)) (tgt := 17) rfl (hL_orders.at 35 rfl rfl) ?_
  exact osW.widen (k' := k17 + 116) (n' := n17 + 1105) (by omega) (by omega) (osW.sub [2, 3, 4, 1, 5, 0] rfl (g17 l0 l1 l2 (k1 + k0) l4 (l5 + (1 : Int32))))
set_option maxRecDepth 100000 in
set_option maxHeartbeats 4000000 in
theorem tL_orders_17 (N : Nat) (k5 n5 : Nat) (hx5 : k5 + 580 ≤ 7540 ∧ n5 + 5525 ≤ 71825) (k17 n17 : Nat) (hx17 : k17 + 116 ≤ k5 + 580 ∧ n17 + 1105 ≤ n5 + 5525) (c5 : Nat × Nat × Int32 × Int32 × Int32 → osM Int32) (c17 : Nat × Nat × Int32 × Int32 × Int32 × Int32 → osM Int32) (g5 : ∀ (l0 : Nat) (l1 : Nat) (l2 : Int32) (l3 : Int32) (l4 : Int32), osW (osFinM (fun r : Int32 => some (.int r)) 7540 71825) yL_orders cL_orders 6 (some .int) [] { frames := 9, cells := 7540, slots := 71825, locals := 212 } (k5 + 580) (n5 + 5525) 5 [(0, .ref l0), (1, .ref l1), (2, .int l2), (3, .int l3), (4, .int l4)] [] (c5 (l0, l1, l2, l3, l4))) (g17 : ∀ (l0 : Nat) (l1 : Nat) (l2 : Int32) (l3 : Int32) (l4 : Int32) (l5 : Int32), osW (osFinM (fun r : Int32 => some (.int r)) 7540 71825) yL_orders cL_orders 6 (some .int) [] { frames := 9, cells := 7540, slots := 71825, locals := 212 } (k17 + 116) (n17 + 1105) 17 [(0, .ref l0), (1, .ref l1), (2, .int l2), (3, .int l3), (4, .int l4), (5, .int l5)] [] (c17 (l0, l1, l2, l3, l4, l5))) (l0 : Nat) (l1 : Nat) (l2 : Int32) (l3 : Int32) (l4 : Int32) (l5 : Int32) : osW (osFinM (fun r : Int32 => some (.int r)) 7540 71825) yL_orders cL_orders 6 (some .int) [] { frames := 9, cells := 7540, slots := 71825, locals := 212 } (k17) (n17) 17 [(0, .ref l0), (1, .ref l1), (2, .int l2), (3, .int l3), (4, .int l4), (5, .int l5)] [] (bL_orders_17 N c5 c17 l0 l1 l2 l3 l4 l5) := by
  unfold bL_orders_17
  refine os_iload (v := l5) 5 rfl (hL_orders.at 10 rfl rfl) ?_
  refine os_iload_n (i := 2) (q := 2) (v := l2) 2 rfl rfl (hL_orders.at 11 rfl rfl) ?_
  refine os_icmp_ge (off := 46) (tgt := 66) rfl (hL_orders.at 12 rfl rfl) ?_ ?_
  · exact osW.widen (k' := k5 + 580) (n' := n5 + 5525) (by omega) (by omega) (osW.sub [0, 1, 2, 3, 4] rfl (sL_orders_66 N k5 n5 hx5 c5 g5 l0 l1 l2 l3 l4))
  · refine os_aload_n (i := 0) (q := 0) (v := l0) 0 rfl rfl (hL_orders.at 13 rfl rfl) ?_
    refine os_iload (v := l4) 4 rfl (hL_orders.at 14 rfl rfl) ?_
    refine os_iconst (i := 4) (v := (4 : Int32)) rfl (hL_orders.at 15 rfl rfl) ?_
    refine os_callV (cis := [7]) (b := l0) (As := [.int l4, .int (4 : Int32)]) (st := []) (st' := (fun r => .int r :: [])) sl7_X9_area_X9_area mdX9_area wd1052 wd1053 (osMetT.sure (sX9_area N l0 l4 (4 : Int32))) rfl rfl (fun _ => rfl) (Nat.le_of_ble_eq_true rfl) (Nat.le_of_ble_eq_true rfl) (Nat.le_of_ble_eq_true rfl) rfl (by show _ ≤ 7540; omega) rfl (by show _ ≤ 71825; omega) (hL_orders.at 16 rfl rfl) (fun x1 => ?_)
    refine os_iconst (i := (-1)) (v := (-1 : Int32)) rfl (hL_orders.at 17 rfl rfl) ?_
    refine os_icmp_eq (off := 35) (tgt := 66) rfl (hL_orders.at 18 rfl rfl) ?_ ?_
    · exact osW.widen (k' := k5 + 580) (n' := n5 + 5525) (by omega) (by omega) (osW.sub [0, 1, 2, 3, 4] rfl (sL_orders_66 N k5 n5 hx5 c5 g5 l0 l1 l2 l3 l4))
    · refine os_iload_n (i := 3) (q := 3) (v := l3) 3 rfl rfl (hL_orders.at 19 rfl rfl) ?_
      refine os_aload_n (i := 0) (q := 0) (v := l0) 0 rfl rfl (hL_orders.at 20 rfl rfl) ?_
      refine os_aload_n (i := 1) (q := 1) (v := l1) 1 rfl rfl (hL_orders.at 21 rfl rfl) ?_
      refine os_iload (v := l4) 4 rfl (hL_orders.at 22 rfl rfl) ?_
      refine os_aload_n (i := 0) (q := 0) (v := l0) 0 rfl rfl (hL_orders.at 23 rfl rfl) ?_
      refine os_callV (cis := [7]) (b := l0) (As := []) (st := [.int l4, .ref l1, .ref l0, .int l3]) (st' := (fun r => .int r :: [.int l4, .ref l1, .ref l0, .int l3])) sl7_X9_areas_X9_areas mdX9_areas wd472 wd473 (sX9_areas N l0 ) rfl rfl (fun _ => rfl) (Nat.le_of_ble_eq_true rfl) (Nat.le_of_ble_eq_true rfl) (Nat.le_of_ble_eq_true rfl) rfl (by show _ ≤ 7540; omega) rfl (by show _ ≤ 71825; omega) (hL_orders.at 24 rfl rfl) (fun x2 => ?_)
      refine os_callS (As := [.ref l1, .int l4, .int x2]) (st := [.ref l0, .int l3]) (st' := (fun r => .ref r :: [.ref l0, .int l3])) mdL_order wd1088 wd1089 (sL_order N l1 l4 x2) rfl rfl (fun _ => rfl) (Nat.le_of_ble_eq_true rfl) (Nat.le_of_ble_eq_true rfl) (Nat.le_of_ble_eq_true rfl) rfl (by show _ ≤ 7540; omega) rfl (by show _ ≤ 71825; omega) (hL_orders.at 25 rfl rfl) (fun x3 => ?_)
      refine os_callSH (np := 2) (As := [.ref l0, .ref x3]) (st := [.int l3]) (st' := (fun r => .int r :: [.int l3])) wd1097 wd53 (by decide +kernel) (by decide +kernel) wd1095 wd1096 (sL_tell N l0 x3) rfl rfl (fun _ => rfl) (Nat.le_of_ble_eq_true rfl) (Nat.le_of_ble_eq_true rfl) (Nat.le_of_ble_eq_true rfl) rfl (by show _ ≤ 7540; omega) rfl (by show _ ≤ 71825; omega) (hL_orders.at 26 rfl rfl) (fun x4 => ?_)
      refine os_iconst (i := 1) (v := (1 : Int32)) rfl (hL_orders.at 27 rfl rfl) ?_
      refine os_icmp_ne (off := 7) (tgt := 57) rfl (hL_orders.at 28 rfl rfl) ?_ ?_
      · refine os_iconst (i := 0) (v := (0 : Int32)) rfl (hL_orders.at 31 rfl rfl) ?_
        exact osW.widen (k' := k17 + 116) (n' := n17 + 1105) (by omega) (by omega) (osW.sub [0, 1, 2, 4, 5] rfl (sL_orders_58 N k5 n5 hx5 k17 n17 hx17 c5 c17 g5 g17 l0 l1 l2 l4 l5 (0 : Int32) l3))
      · refine os_iconst (i := 1) (v := (1 : Int32)) rfl (hL_orders.at 29 rfl rfl) ?_
        refine os_goto (off := 4) (tgt := 58) rfl (hL_orders.at 30 rfl rfl) ?_
        exact osW.widen (k' := k17 + 116) (n' := n17 + 1105) (by omega) (by omega) (osW.sub [0, 1, 2, 4, 5] rfl (sL_orders_58 N k5 n5 hx5 k17 n17 hx17 c5 c17 g5 g17 l0 l1 l2 l4 l5 (1 : Int32) l3))
set_option maxRecDepth 100000 in
set_option maxHeartbeats 4000000 in
theorem sL_orders_17 (N : Nat) (k5 n5 : Nat) (hx5 : k5 + 580 ≤ 7540 ∧ n5 + 5525 ≤ 71825) (c5 : Nat × Nat × Int32 × Int32 × Int32 → osM Int32) (g5 : ∀ (l0 : Nat) (l1 : Nat) (l2 : Int32) (l3 : Int32) (l4 : Int32), osW (osFinM (fun r : Int32 => some (.int r)) 7540 71825) yL_orders cL_orders 6 (some .int) [] { frames := 9, cells := 7540, slots := 71825, locals := 212 } (k5 + 580) (n5 + 5525) 5 [(0, .ref l0), (1, .ref l1), (2, .int l2), (3, .int l3), (4, .int l4)] [] (c5 (l0, l1, l2, l3, l4))) (l0 : Nat) (l1 : Nat) (l2 : Int32) (l3 : Int32) (l4 : Int32) (l5 : Int32) : osW (osFinM (fun r : Int32 => some (.int r)) 7540 71825) yL_orders cL_orders 6 (some .int) [] { frames := 9, cells := 7540, slots := 71825, locals := 212 } (k5) (n5) 17 [(0, .ref l0), (1, .ref l1), (2, .int l2), (3, .int l3), (4, .int l4), (5, .int l5)] [] (qL_orders_17 N c5 (l0, l1, l2, l3, l4, l5)) := by
  refine osW.widen (k' := (k5) + 116 * (5 - 5)) (n' := (n5) + 1105 * (5 - 5)) (by omega) (by omega) ?_
  exact osloop_K (lvf := fun p => [(0, .ref p.1), (1, .ref p.2.1), (2, .int p.2.2.1), (3, .int p.2.2.2.1), (4, .int p.2.2.2.2.1), (5, .int p.2.2.2.2.2)]) (stf := fun p => []) 5 116 1105 (k5) (n5) (fun f hf ih g p => tL_orders_17 N k5 n5 hx5 ((k5) + 116 * (5 - (f + 1))) ((n5) + 1105 * (5 - (f + 1))) (by omega) c5 ih g5 (fun l0 l1 l2 l3 l4 l5 => osW.widen (by omega) (by omega) (g (l0, l1, l2, l3, l4, l5))) p.1 p.2.1 p.2.2.1 p.2.2.2.1 p.2.2.2.2.1 p.2.2.2.2.2) 5 (Nat.le_refl _) (l0, l1, l2, l3, l4, l5)
set_option maxRecDepth 100000 in
set_option maxHeartbeats 4000000 in
theorem tL_orders_5 (N : Nat) (k5 n5 : Nat) (hx5 : k5 + 580 ≤ 7540 ∧ n5 + 5525 ≤ 71825) (c5 : Nat × Nat × Int32 × Int32 × Int32 → osM Int32) (g5 : ∀ (l0 : Nat) (l1 : Nat) (l2 : Int32) (l3 : Int32) (l4 : Int32), osW (osFinM (fun r : Int32 => some (.int r)) 7540 71825) yL_orders cL_orders 6 (some .int) [] { frames := 9, cells := 7540, slots := 71825, locals := 212 } (k5 + 580) (n5 + 5525) 5 [(0, .ref l0), (1, .ref l1), (2, .int l2), (3, .int l3), (4, .int l4)] [] (c5 (l0, l1, l2, l3, l4))) (l0 : Nat) (l1 : Nat) (l2 : Int32) (l3 : Int32) (l4 : Int32) : osW (osFinM (fun r : Int32 => some (.int r)) 7540 71825) yL_orders cL_orders 6 (some .int) [] { frames := 9, cells := 7540, slots := 71825, locals := 212 } (k5) (n5) 5 [(0, .ref l0), (1, .ref l1), (2, .int l2), (3, .int l3), (4, .int l4)] [] (bL_orders_5 N c5 l0 l1 l2 l3 l4) := by
  unfold bL_orders_5
  refine os_iload (v := l4) 4 rfl (hL_orders.at 4 rfl rfl) ?_
  refine os_aload_n (i := 0) (q := 0) (v := l0) 0 rfl rfl (hL_orders.at 5 rfl rfl) ?_
  refine os_callV (cis := [7]) (b := l0) (As := []) (st := [.int l4]) (st' := (fun r => .int r :: [.int l4])) sl7_X9_areas_X9_areas mdX9_areas wd472 wd473 (sX9_areas N l0 ) rfl rfl (fun _ => rfl) (Nat.le_of_ble_eq_true rfl) (Nat.le_of_ble_eq_true rfl) (Nat.le_of_ble_eq_true rfl) rfl (by show _ ≤ 7540; omega) rfl (by show _ ≤ 71825; omega) (hL_orders.at 6 rfl rfl) (fun x1 => ?_)
  refine os_icmp_ge (off := 61) (tgt := 72) rfl (hL_orders.at 7 rfl rfl) ?_ ?_
  · refine os_iload_n (i := 3) (q := 3) (v := l3) 3 rfl rfl (hL_orders.at 38 rfl rfl) ?_
    exact os_iret (by omega) (by omega) (hL_orders.at 39 rfl rfl).1
  · refine os_iconst (i := 0) (v := (0 : Int32)) rfl (hL_orders.at 8 rfl rfl) ?_
    refine os_istore (i := 5) (lv' := [(5, .int (0 : Int32)), (0, .ref l0), (1, .ref l1), (2, .int l2), (3, .int l3), (4, .int l4)]) (Nat.le_of_ble_eq_true rfl) rfl (hL_orders.at 9 rfl rfl) ?_
    exact osW.widen (k' := k5) (n' := n5) (by omega) (by omega) (osW.sub [1, 2, 3, 4, 5, 0] rfl (sL_orders_17 N k5 n5 hx5 c5 g5 l0 l1 l2 l3 l4 (0 : Int32)))
set_option maxRecDepth 100000 in
set_option maxHeartbeats 4000000 in
theorem sL_orders_5 (N : Nat) (l0 : Nat) (l1 : Nat) (l2 : Int32) (l3 : Int32) (l4 : Int32) : osW (osFinM (fun r : Int32 => some (.int r)) 7540 71825) yL_orders cL_orders 6 (some .int) [] { frames := 9, cells := 7540, slots := 71825, locals := 212 } (0) (0) 5 [(0, .ref l0), (1, .ref l1), (2, .int l2), (3, .int l3), (4, .int l4)] [] (qL_orders_5 N (l0, l1, l2, l3, l4)) := by
  refine osW.widen (k' := (0) + 580 * (13 - 13)) (n' := (0) + 5525 * (13 - 13)) (by omega) (by omega) ?_
  exact osloop_K (lvf := fun p => [(0, .ref p.1), (1, .ref p.2.1), (2, .int p.2.2.1), (3, .int p.2.2.2.1), (4, .int p.2.2.2.2)]) (stf := fun p => []) 13 580 5525 (0) (0) (fun f hf ih g p => tL_orders_5 N ((0) + 580 * (13 - (f + 1))) ((0) + 5525 * (13 - (f + 1))) (by omega) ih (fun l0 l1 l2 l3 l4 => osW.widen (by omega) (by omega) (g (l0, l1, l2, l3, l4))) p.1 p.2.1 p.2.2.1 p.2.2.2.1 p.2.2.2.2) 13 (Nat.le_refl _) (l0, l1, l2, l3, l4)
set_option maxRecDepth 100000 in
set_option maxHeartbeats 4000000 in
theorem sL_orders (N : Nat) (l0 : Nat) (l1 : Nat) (l2 : Int32) : osMet yL_orders cL_orders 6 (some .int) 9 212 7540 71825 (fun r : Int32 => some (.int r)) [.ref l0, .ref l1, .int l2] (qL_orders N l0 l1 l2) := by
  refine osMet.of plL (Nat.le_of_ble_eq_true rfl) (osW.rw (lv2 := [(0, .ref l0), (1, .ref l1), (2, .int l2)]) ?_ rfl rfl rfl)
  unfold qL_orders
  refine os_iconst (i := 0) (v := (0 : Int32)) rfl (hL_orders.at 0 rfl rfl) ?_
  refine os_istore_n (i := 3) (q := 3) rfl (lv' := [(3, .int (0 : Int32)), (0, .ref l0), (1, .ref l1), (2, .int l2)]) (Nat.le_of_ble_eq_true rfl) rfl (hL_orders.at 1 rfl rfl) ?_
  refine os_iconst (i := 0) (v := (0 : Int32)) rfl (hL_orders.at 2 rfl rfl) ?_
  refine os_istore (i := 4) (lv' := [(4, .int (0 : Int32)), (3, .int (0 : Int32)), (0, .ref l0), (1, .ref l1), (2, .int l2)]) (Nat.le_of_ble_eq_true rfl) rfl (hL_orders.at 3 rfl rfl) ?_
  exact osW.widen (k' := 0) (n' := 0) (by omega) (by omega) (osW.sub [2, 3, 4, 1, 0] rfl (sL_orders_5 N l0 l1 l2 (0 : Int32) (0 : Int32)))
-- L_settles
def qL_settles_696 (N : Nat) (k0 : Int32) : osM Int32 := osretZ k0
def qL_settles_695 (N : Nat) : osM Int32 := qL_settles_696 N (0 : Int32)
def qL_settles_644 (N : Nat) (l0 : Nat) (l5 : Int32) (l8 : Int32) (k0 : Int32) : osM Int32 := osbind (qL_sum N l0) fun x1 => osite (k0 = 0) (qL_settles_695 N ) (osbind (qL_undone N l0) fun x2 => osite (x2 < 0) (qL_settles_695 N ) (osbind (qL_sum N l0) fun x3 => osite (x3 = l5) (osbind (osrecv [7] l0 (osRV (qX9_settle N l0))) fun x4 => osite (x4 = l8) (osbind (qL_sum N l0) fun x5 => osite (x5 = x1) (qL_settles_696 N (1 : Int32)) (qL_settles_695 N )) (qL_settles_695 N )) (qL_settles_695 N )))
def qL_settles_643 (N : Nat) (l0 : Nat) (l5 : Int32) (l8 : Int32) : osM Int32 := qL_settles_644 N l0 l5 l8 (0 : Int32)
def qL_settles_627 (N : Nat) (l0 : Nat) (l5 : Int32) (l6 : Int32) (l8 : Int32) (l10 : Int32) : osM Int32 := osbind (qL_units_ N l0) fun x1 => osite (x1 = (l6 - l10)) (qL_settles_644 N l0 l5 l8 (1 : Int32)) (qL_settles_643 N l0 l5 l8)
def qL_settles_593 (N : Nat) (l0 : Nat) (l5 : Int32) (l6 : Int32) (l8 : Int32) (l9 : Int32) (l10 : Int32) (l11 : Int32) : osM Int32 := osite (l11 = 0) (qL_settles_643 N l0 l5 l8) (osite (l9 = l8) (osbind (qL_aside N l0) fun x1 => osite (l10 = x1) (osite (l10 = 0) (qL_settles_627 N l0 l5 l6 l8 l10) (osbind (osrecv [7] l0 (qX9_phase N l0)) fun x2 => osite (x2 = (1 : Int32)) (qL_settles_627 N l0 l5 l6 l8 l10) (qL_settles_643 N l0 l5 l8))) (qL_settles_643 N l0 l5 l8)) (qL_settles_643 N l0 l5 l8))
def qL_settles_587 (N : Nat) (c176 : Nat × Int32 × Nat × Nat × Nat × Int32 × Int32 × Int32 × Int32 × Int32 × Int32 × Int32 → osM Int32) (l0 : Nat) (l1 : Int32) (l2 : Nat) (l3 : Nat) (l4 : Nat) (l5 : Int32) (l6 : Int32) (l8 : Int32) (l9 : Int32) (l10 : Int32) (l11 : Int32) (l12 : Int32) : osM Int32 := c176 (l0, l1, l2, l3, l4, l5, l6, l8, l9, l10, l11, (l12 + (1 : Int32)))
def qL_settles_585 (N : Nat) (c176 : Nat × Int32 × Nat × Nat × Nat × Int32 × Int32 × Int32 × Int32 × Int32 × Int32 × Int32 → osM Int32) (l0 : Nat) (l1 : Int32) (l2 : Nat) (l3 : Nat) (l4 : Nat) (l5 : Int32) (l6 : Int32) (l8 : Int32) (l9 : Int32) (l10 : Int32) (l12 : Int32) (k0 : Int32) : osM Int32 := qL_settles_587 N c176 l0 l1 l2 l3 l4 l5 l6 l8 l9 l10 k0 l12
def qL_settles_584 (N : Nat) (c176 : Nat × Int32 × Nat × Nat × Nat × Int32 × Int32 × Int32 × Int32 × Int32 × Int32 × Int32 → osM Int32) (l0 : Nat) (l1 : Int32) (l2 : Nat) (l3 : Nat) (l4 : Nat) (l5 : Int32) (l6 : Int32) (l8 : Int32) (l9 : Int32) (l10 : Int32) (l12 : Int32) : osM Int32 := qL_settles_585 N c176 l0 l1 l2 l3 l4 l5 l6 l8 l9 l10 l12 (0 : Int32)
def qL_settles_553 (N : Nat) (c176 : Nat × Int32 × Nat × Nat × Nat × Int32 × Int32 × Int32 × Int32 × Int32 × Int32 × Int32 → osM Int32) (c520 : Nat × Int32 × Nat × Nat × Nat × Int32 × Int32 × Int32 × Int32 × Int32 × Int32 × Int32 × Int32 → osM Int32) (l0 : Nat) (l1 : Int32) (l2 : Nat) (l3 : Nat) (l4 : Nat) (l5 : Int32) (l6 : Int32) (l8 : Int32) (l9 : Int32) (l10 : Int32) (l12 : Int32) (l15 : Int32) (k0 : Int32) : osM Int32 := c520 (l0, l1, l2, l3, l4, l5, l6, l8, l9, l10, l12, k0, (l15 + (1 : Int32)))
def qL_settles_551 (N : Nat) (c176 : Nat × Int32 × Nat × Nat × Nat × Int32 × Int32 × Int32 × Int32 × Int32 × Int32 × Int32 → osM Int32) (c520 : Nat × Int32 × Nat × Nat × Nat × Int32 × Int32 × Int32 × Int32 × Int32 × Int32 × Int32 × Int32 → osM Int32) (l0 : Nat) (l1 : Int32) (l2 : Nat) (l3 : Nat) (l4 : Nat) (l5 : Int32) (l6 : Int32) (l8 : Int32) (l9 : Int32) (l10 : Int32) (l12 : Int32) (l14 : Int32) (l15 : Int32) : osM Int32 := qL_settles_553 N c176 c520 l0 l1 l2 l3 l4 l5 l6 l8 l9 l10 l12 l15 l14
def bL_settles_520 (N : Nat) (c176 : Nat × Int32 × Nat × Nat × Nat × Int32 × Int32 × Int32 × Int32 × Int32 × Int32 × Int32 → osM Int32) (c520 : Nat × Int32 × Nat × Nat × Nat × Int32 × Int32 × Int32 × Int32 × Int32 × Int32 × Int32 × Int32 → osM Int32) (l0 : Nat) (l1 : Int32) (l2 : Nat) (l3 : Nat) (l4 : Nat) (l5 : Int32) (l6 : Int32) (l8 : Int32) (l9 : Int32) (l10 : Int32) (l12 : Int32) (l14 : Int32) (l15 : Int32) : osM Int32 := osite (l1 ≤ l15) (osite (l14 = (-1 : Int32)) (qL_settles_584 N c176 l0 l1 l2 l3 l4 l5 l6 l8 l9 l10 l12) (osbind (osaI 0 l4 l14) fun x1 => osbind (osaI 0 l4 l12) fun x2 => osite (x1 = x2) (qL_settles_584 N c176 l0 l1 l2 l3 l4 l5 l6 l8 l9 l10 l12) (qL_settles_585 N c176 l0 l1 l2 l3 l4 l5 l6 l8 l9 l10 l12 (1 : Int32)))) (osbind (osaI 0 l3 l15) fun x3 => osite (x3 = l12) (osbind (osrecv [7] l0 (osRV (qX9_result N l0 l15 (0 : Int32)))) fun x4 => osite (x4 = (1 : Int32)) (qL_settles_553 N c176 c520 l0 l1 l2 l3 l4 l5 l6 l8 l9 l10 l12 l15 l15) (qL_settles_551 N c176 c520 l0 l1 l2 l3 l4 l5 l6 l8 l9 l10 l12 l14 l15)) (qL_settles_551 N c176 c520 l0 l1 l2 l3 l4 l5 l6 l8 l9 l10 l12 l14 l15))
def qL_settles_520 (N : Nat) (c176 : Nat × Int32 × Nat × Nat × Nat × Int32 × Int32 × Int32 × Int32 × Int32 × Int32 × Int32 → osM Int32) : Nat × Int32 × Nat × Nat × Nat × Int32 × Int32 × Int32 × Int32 × Int32 × Int32 × Int32 × Int32 → osM Int32 := osloop (fun ih p => bL_settles_520 N c176 ih p.1 p.2.1 p.2.2.1 p.2.2.2.1 p.2.2.2.2.1 p.2.2.2.2.2.1 p.2.2.2.2.2.2.1 p.2.2.2.2.2.2.2.1 p.2.2.2.2.2.2.2.2.1 p.2.2.2.2.2.2.2.2.2.1 p.2.2.2.2.2.2.2.2.2.2.1 p.2.2.2.2.2.2.2.2.2.2.2.1 p.2.2.2.2.2.2.2.2.2.2.2.2) 13
def qL_settles_498 (N : Nat) (c176 : Nat × Int32 × Nat × Nat × Nat × Int32 × Int32 × Int32 × Int32 × Int32 × Int32 × Int32 → osM Int32) (l0 : Nat) (l1 : Int32) (l2 : Nat) (l3 : Nat) (l4 : Nat) (l5 : Int32) (l6 : Int32) (l8 : Int32) (l9 : Int32) (l10 : Int32) (l11 : Int32) (l12 : Int32) : osM Int32 := osite (l11 = 0) (qL_settles_587 N c176 l0 l1 l2 l3 l4 l5 l6 l8 l9 l10 l11 l12) (osbind (osrecv [7] l0 (osRV (qX9_result N l0 l12 (1 : Int32)))) fun x1 => osite (x1 = (1 : Int32)) (qL_settles_520 N c176 (l0, l1, l2, l3, l4, l5, l6, l8, l9, l10, l12, (-1 : Int32), (0 : Int32))) (qL_settles_587 N c176 l0 l1 l2 l3 l4 l5 l6 l8 l9 l10 l11 l12))
def qL_settles_496 (N : Nat) (c176 : Nat × Int32 × Nat × Nat × Nat × Int32 × Int32 × Int32 × Int32 × Int32 × Int32 × Int32 → osM Int32) (l0 : Nat) (l1 : Int32) (l2 : Nat) (l3 : Nat) (l4 : Nat) (l5 : Int32) (l6 : Int32) (l8 : Int32) (l9 : Int32) (l10 : Int32) (l12 : Int32) (k0 : Int32) : osM Int32 := qL_settles_498 N c176 l0 l1 l2 l3 l4 l5 l6 l8 l9 l10 k0 l12
def qL_settles_495 (N : Nat) (c176 : Nat × Int32 × Nat × Nat × Nat × Int32 × Int32 × Int32 × Int32 × Int32 × Int32 × Int32 → osM Int32) (l0 : Nat) (l1 : Int32) (l2 : Nat) (l3 : Nat) (l4 : Nat) (l5 : Int32) (l6 : Int32) (l8 : Int32) (l9 : Int32) (l10 : Int32) (l12 : Int32) : osM Int32 := qL_settles_496 N c176 l0 l1 l2 l3 l4 l5 l6 l8 l9 l10 l12 (0 : Int32)
def qL_settles_491 (N : Nat) (c176 : Nat × Int32 × Nat × Nat × Nat × Int32 × Int32 × Int32 × Int32 × Int32 × Int32 × Int32 → osM Int32) (l0 : Nat) (l1 : Int32) (l2 : Nat) (l3 : Nat) (l4 : Nat) (l5 : Int32) (l6 : Int32) (l8 : Int32) (l9 : Int32) (l10 : Int32) (l12 : Int32) : osM Int32 := qL_settles_496 N c176 l0 l1 l2 l3 l4 l5 l6 l8 l9 l10 l12 (1 : Int32)
def qL_settles_466 (N : Nat) (c176 : Nat × Int32 × Nat × Nat × Nat × Int32 × Int32 × Int32 × Int32 × Int32 × Int32 × Int32 → osM Int32) (l0 : Nat) (l1 : Int32) (l2 : Nat) (l3 : Nat) (l4 : Nat) (l5 : Int32) (l6 : Int32) (l8 : Int32) (l9 : Int32) (l10 : Int32) (l12 : Int32) (l14 : Int32) : osM Int32 := osbind (osrecv [7] l0 (osRV (qX9_result N l0 l12 (3 : Int32)))) fun x1 => osbind (osrecv [7] l0 (osRV (qX9_result N l0 l14 (2 : Int32)))) fun x2 => osite (x2 < x1) (qL_settles_491 N c176 l0 l1 l2 l3 l4 l5 l6 l8 l9 l10 l12) (osbind (osaI 0 l3 l14) fun x3 => osite (x3 = (-1 : Int32)) (qL_settles_495 N c176 l0 l1 l2 l3 l4 l5 l6 l8 l9 l10 l12) (qL_settles_491 N c176 l0 l1 l2 l3 l4 l5 l6 l8 l9 l10 l12))
def qL_settles_397 (N : Nat) (c176 : Nat × Int32 × Nat × Nat × Nat × Int32 × Int32 × Int32 × Int32 × Int32 × Int32 × Int32 → osM Int32) (l0 : Nat) (l1 : Int32) (l2 : Nat) (l3 : Nat) (l4 : Nat) (l5 : Int32) (l6 : Int32) (l8 : Int32) (l9 : Int32) (l10 : Int32) (l12 : Int32) (l13 : Int32) (k0 : Int32) : osM Int32 := osite (k0 = 0) (qL_settles_498 N c176 l0 l1 l2 l3 l4 l5 l6 l8 l9 l10 k0 l12) (osite (l13 = (1 : Int32)) (osbind (osaI 0 l3 l12) fun x1 => osbind (osrecv [7] l0 (osRV (qX9_area N l0 x1 (4 : Int32)))) fun x2 => osite (x2 = (-1 : Int32)) (qL_settles_495 N c176 l0 l1 l2 l3 l4 l5 l6 l8 l9 l10 l12) (osbind (osrecv [7] l0 (osRV (qX9_result N l0 l12 (3 : Int32)))) fun x3 => osite (x3 ≤ 0) (qL_settles_495 N c176 l0 l1 l2 l3 l4 l5 l6 l8 l9 l10 l12) (osbind (osaI 0 l3 x1) fun x4 => osite (x4 = l12) (osbind (osrecv [7] l0 (osRV (qX9_result N l0 l12 (5 : Int32)))) fun x5 => osite (x5 = 0) (osbind (osrecv [7] l0 (osRV (qX9_result N l0 x1 (5 : Int32)))) fun x6 => osite (x6 = 0) (qL_settles_491 N c176 l0 l1 l2 l3 l4 l5 l6 l8 l9 l10 l12) (qL_settles_466 N c176 l0 l1 l2 l3 l4 l5 l6 l8 l9 l10 l12 x1)) (qL_settles_466 N c176 l0 l1 l2 l3 l4 l5 l6 l8 l9 l10 l12 x1)) (qL_settles_466 N c176 l0 l1 l2 l3 l4 l5 l6 l8 l9 l10 l12 x1)))) (qL_settles_498 N c176 l0 l1 l2 l3 l4 l5 l6 l8 l9 l10 k0 l12))
def qL_settles_396 (N : Nat) (c176 : Nat × Int32 × Nat × Nat × Nat × Int32 × Int32 × Int32 × Int32 × Int32 × Int32 × Int32 → osM Int32) (l0 : Nat) (l1 : Int32) (l2 : Nat) (l3 : Nat) (l4 : Nat) (l5 : Int32) (l6 : Int32) (l8 : Int32) (l9 : Int32) (l10 : Int32) (l12 : Int32) (l13 : Int32) : osM Int32 := qL_settles_397 N c176 l0 l1 l2 l3 l4 l5 l6 l8 l9 l10 l12 l13 (0 : Int32)
def qL_settles_392 (N : Nat) (c176 : Nat × Int32 × Nat × Nat × Nat × Int32 × Int32 × Int32 × Int32 × Int32 × Int32 × Int32 → osM Int32) (l0 : Nat) (l1 : Int32) (l2 : Nat) (l3 : Nat) (l4 : Nat) (l5 : Int32) (l6 : Int32) (l8 : Int32) (l9 : Int32) (l10 : Int32) (l12 : Int32) (l13 : Int32) : osM Int32 := qL_settles_397 N c176 l0 l1 l2 l3 l4 l5 l6 l8 l9 l10 l12 l13 (1 : Int32)
def qL_settles_367 (N : Nat) (c176 : Nat × Int32 × Nat × Nat × Nat × Int32 × Int32 × Int32 × Int32 × Int32 × Int32 × Int32 → osM Int32) (l0 : Nat) (l1 : Int32) (l2 : Nat) (l3 : Nat) (l4 : Nat) (l5 : Int32) (l6 : Int32) (l8 : Int32) (l9 : Int32) (l10 : Int32) (l12 : Int32) (l13 : Int32) (k0 : Int32) (k1 : Int32) : osM Int32 := osite (k1 = k0) (osbind (osrecv [7] l0 (osRV (qX9_result N l0 l12 (1 : Int32)))) fun x1 => osite (x1 = 0) (qL_settles_392 N c176 l0 l1 l2 l3 l4 l5 l6 l8 l9 l10 l12 l13) (osite (l13 = (1 : Int32)) (qL_settles_396 N c176 l0 l1 l2 l3 l4 l5 l6 l8 l9 l10 l12 l13) (osite (l13 = (3 : Int32)) (qL_settles_396 N c176 l0 l1 l2 l3 l4 l5 l6 l8 l9 l10 l12 l13) (qL_settles_392 N c176 l0 l1 l2 l3 l4 l5 l6 l8 l9 l10 l12 l13)))) (qL_settles_396 N c176 l0 l1 l2 l3 l4 l5 l6 l8 l9 l10 l12 l13)
def qL_settles_352 (N : Nat) (c176 : Nat × Int32 × Nat × Nat × Nat × Int32 × Int32 × Int32 × Int32 × Int32 × Int32 × Int32 → osM Int32) (l0 : Nat) (l1 : Int32) (l2 : Nat) (l3 : Nat) (l4 : Nat) (l5 : Int32) (l6 : Int32) (l8 : Int32) (l9 : Int32) (l10 : Int32) (l12 : Int32) (l13 : Int32) (k0 : Int32) : osM Int32 := osbind (osrecv [7] l0 (osRV (qX9_result N l0 l12 (4 : Int32)))) fun x1 => osite (x1 = 0) (qL_settles_367 N c176 l0 l1 l2 l3 l4 l5 l6 l8 l9 l10 l12 l13 (0 : Int32) k0) (qL_settles_367 N c176 l0 l1 l2 l3 l4 l5 l6 l8 l9 l10 l12 l13 (1 : Int32) k0)
def qL_settles_338 (N : Nat) (c176 : Nat × Int32 × Nat × Nat × Nat × Int32 × Int32 × Int32 × Int32 × Int32 × Int32 × Int32 → osM Int32) (l0 : Nat) (l1 : Int32) (l2 : Nat) (l3 : Nat) (l4 : Nat) (l5 : Int32) (l6 : Int32) (l8 : Int32) (l9 : Int32) (l10 : Int32) (l12 : Int32) (l13 : Int32) (k0 : Int32) (k1 : Int32) : osM Int32 := osite (k1 = k0) (osite (l13 = (2 : Int32)) (qL_settles_352 N c176 l0 l1 l2 l3 l4 l5 l6 l8 l9 l10 l12 l13 (1 : Int32)) (qL_settles_352 N c176 l0 l1 l2 l3 l4 l5 l6 l8 l9 l10 l12 l13 (0 : Int32))) (qL_settles_396 N c176 l0 l1 l2 l3 l4 l5 l6 l8 l9 l10 l12 l13)
def qL_settles_325 (N : Nat) (c176 : Nat × Int32 × Nat × Nat × Nat × Int32 × Int32 × Int32 × Int32 × Int32 × Int32 × Int32 → osM Int32) (l0 : Nat) (l1 : Int32) (l2 : Nat) (l3 : Nat) (l4 : Nat) (l5 : Int32) (l6 : Int32) (l8 : Int32) (l9 : Int32) (l10 : Int32) (l12 : Int32) (l13 : Int32) (k0 : Int32) : osM Int32 := osbind (osaI 0 l3 l12) fun x1 => osite (x1 = (-1 : Int32)) (qL_settles_338 N c176 l0 l1 l2 l3 l4 l5 l6 l8 l9 l10 l12 l13 (0 : Int32) k0) (qL_settles_338 N c176 l0 l1 l2 l3 l4 l5 l6 l8 l9 l10 l12 l13 (1 : Int32) k0)
def qL_settles_320 (N : Nat) (c176 : Nat × Int32 × Nat × Nat × Nat × Int32 × Int32 × Int32 × Int32 × Int32 × Int32 × Int32 → osM Int32) (l0 : Nat) (l1 : Int32) (l2 : Nat) (l3 : Nat) (l4 : Nat) (l5 : Int32) (l6 : Int32) (l8 : Int32) (l9 : Int32) (l10 : Int32) (l12 : Int32) (l13 : Int32) : osM Int32 := qL_settles_325 N c176 l0 l1 l2 l3 l4 l5 l6 l8 l9 l10 l12 l13 (1 : Int32)
def qL_settles_305 (N : Nat) (c176 : Nat × Int32 × Nat × Nat × Nat × Int32 × Int32 × Int32 × Int32 × Int32 × Int32 × Int32 → osM Int32) (l0 : Nat) (l1 : Int32) (l2 : Nat) (l3 : Nat) (l4 : Nat) (l5 : Int32) (l6 : Int32) (l8 : Int32) (l9 : Int32) (l10 : Int32) (l12 : Int32) (l13 : Int32) (k0 : Int32) (k1 : Int32) : osM Int32 := osite (k1 = k0) (osite (l13 = (1 : Int32)) (qL_settles_320 N c176 l0 l1 l2 l3 l4 l5 l6 l8 l9 l10 l12 l13) (osite (l13 = (2 : Int32)) (qL_settles_320 N c176 l0 l1 l2 l3 l4 l5 l6 l8 l9 l10 l12 l13) (qL_settles_325 N c176 l0 l1 l2 l3 l4 l5 l6 l8 l9 l10 l12 l13 (0 : Int32)))) (qL_settles_396 N c176 l0 l1 l2 l3 l4 l5 l6 l8 l9 l10 l12 l13)
def qL_settles_291 (N : Nat) (c176 : Nat × Int32 × Nat × Nat × Nat × Int32 × Int32 × Int32 × Int32 × Int32 × Int32 × Int32 → osM Int32) (l0 : Nat) (l1 : Int32) (l2 : Nat) (l3 : Nat) (l4 : Nat) (l5 : Int32) (l6 : Int32) (l8 : Int32) (l9 : Int32) (l10 : Int32) (l12 : Int32) (l13 : Int32) (k0 : Int32) : osM Int32 := osbind (osaI 0 l4 l12) fun x1 => osite (x1 = (-1 : Int32)) (qL_settles_305 N c176 l0 l1 l2 l3 l4 l5 l6 l8 l9 l10 l12 l13 (1 : Int32) k0) (qL_settles_305 N c176 l0 l1 l2 l3 l4 l5 l6 l8 l9 l10 l12 l13 (0 : Int32) k0)
def qL_settles_261 (N : Nat) (c176 : Nat × Int32 × Nat × Nat × Nat × Int32 × Int32 × Int32 × Int32 × Int32 × Int32 × Int32 → osM Int32) (l0 : Nat) (l1 : Int32) (l2 : Nat) (l3 : Nat) (l4 : Nat) (l5 : Int32) (l6 : Int32) (l8 : Int32) (l10 : Int32) (l11 : Int32) (l12 : Int32) (l13 : Int32) (k0 : Int32) (k1 : Int32) : osM Int32 := osbind (osrecv [7] l0 (osRV (qX9_result N l0 l12 (1 : Int32)))) fun x1 => osite (l11 = 0) (qL_settles_396 N c176 l0 l1 l2 l3 l4 l5 l6 l8 (k1 + k0) (l10 + x1) l12 l13) (osite (l13 = 0) (qL_settles_291 N c176 l0 l1 l2 l3 l4 l5 l6 l8 (k1 + k0) (l10 + x1) l12 l13 (1 : Int32)) (qL_settles_291 N c176 l0 l1 l2 l3 l4 l5 l6 l8 (k1 + k0) (l10 + x1) l12 l13 (0 : Int32)))
def qL_settles_231 (N : Nat) (c176 : Nat × Int32 × Nat × Nat × Nat × Int32 × Int32 × Int32 × Int32 × Int32 × Int32 × Int32 → osM Int32) (c193 : Nat × Int32 × Nat × Nat × Nat × Int32 × Int32 × Int32 × Int32 × Int32 × Int32 × Int32 × Int32 → osM Int32) (l0 : Nat) (l1 : Int32) (l2 : Nat) (l3 : Nat) (l4 : Nat) (l5 : Int32) (l6 : Int32) (l8 : Int32) (l9 : Int32) (l10 : Int32) (l12 : Int32) (l13 : Int32) (k0 : Int32) : osM Int32 := c193 (l0, l1, l2, l3, l4, l5, l6, l8, l9, l10, k0, l12, (l13 + (3 : Int32)))
def qL_settles_230 (N : Nat) (c176 : Nat × Int32 × Nat × Nat × Nat × Int32 × Int32 × Int32 × Int32 × Int32 × Int32 × Int32 → osM Int32) (c193 : Nat × Int32 × Nat × Nat × Nat × Int32 × Int32 × Int32 × Int32 × Int32 × Int32 × Int32 × Int32 → osM Int32) (l0 : Nat) (l1 : Int32) (l2 : Nat) (l3 : Nat) (l4 : Nat) (l5 : Int32) (l6 : Int32) (l8 : Int32) (l9 : Int32) (l10 : Int32) (l12 : Int32) (l13 : Int32) : osM Int32 := qL_settles_231 N c176 c193 l0 l1 l2 l3 l4 l5 l6 l8 l9 l10 l12 l13 (0 : Int32)
def bL_settles_193 (N : Nat) (c176 : Nat × Int32 × Nat × Nat × Nat × Int32 × Int32 × Int32 × Int32 × Int32 × Int32 × Int32 → osM Int32) (c193 : Nat × Int32 × Nat × Nat × Nat × Int32 × Int32 × Int32 × Int32 × Int32 × Int32 × Int32 × Int32 → osM Int32) (l0 : Nat) (l1 : Int32) (l2 : Nat) (l3 : Nat) (l4 : Nat) (l5 : Int32) (l6 : Int32) (l8 : Int32) (l9 : Int32) (l10 : Int32) (l11 : Int32) (l12 : Int32) (l13 : Int32) : osM Int32 := osite ((6 : Int32) ≤ l13) (osbind (osrecv [7] l0 (osRV (qX9_result N l0 l12 (0 : Int32)))) fun x1 => osite (x1 = (1 : Int32)) (qL_settles_261 N c176 l0 l1 l2 l3 l4 l5 l6 l8 l10 l11 l12 x1 (1 : Int32) l9) (qL_settles_261 N c176 l0 l1 l2 l3 l4 l5 l6 l8 l10 l11 l12 x1 (0 : Int32) l9)) (osite (l11 = 0) (qL_settles_230 N c176 c193 l0 l1 l2 l3 l4 l5 l6 l8 l9 l10 l12 l13) (osbind (osrecv [7] l0 (osRV (qX9_result N l0 l12 l13))) fun x2 => osbind (osaI 0 l2 (((6 : Int32) * l12) + l13)) fun x3 => osite (x2 = x3) (qL_settles_231 N c176 c193 l0 l1 l2 l3 l4 l5 l6 l8 l9 l10 l12 l13 (1 : Int32)) (qL_settles_230 N c176 c193 l0 l1 l2 l3 l4 l5 l6 l8 l9 l10 l12 l13)))
def qL_settles_193 (N : Nat) (c176 : Nat × Int32 × Nat × Nat × Nat × Int32 × Int32 × Int32 × Int32 × Int32 × Int32 × Int32 → osM Int32) : Nat × Int32 × Nat × Nat × Nat × Int32 × Int32 × Int32 × Int32 × Int32 × Int32 × Int32 × Int32 → osM Int32 := osloop (fun ih p => bL_settles_193 N c176 ih p.1 p.2.1 p.2.2.1 p.2.2.2.1 p.2.2.2.2.1 p.2.2.2.2.2.1 p.2.2.2.2.2.2.1 p.2.2.2.2.2.2.2.1 p.2.2.2.2.2.2.2.2.1 p.2.2.2.2.2.2.2.2.2.1 p.2.2.2.2.2.2.2.2.2.2.1 p.2.2.2.2.2.2.2.2.2.2.2.1 p.2.2.2.2.2.2.2.2.2.2.2.2) 13
def bL_settles_176 (N : Nat) (c176 : Nat × Int32 × Nat × Nat × Nat × Int32 × Int32 × Int32 × Int32 × Int32 × Int32 × Int32 → osM Int32) (l0 : Nat) (l1 : Int32) (l2 : Nat) (l3 : Nat) (l4 : Nat) (l5 : Int32) (l6 : Int32) (l8 : Int32) (l9 : Int32) (l10 : Int32) (l11 : Int32) (l12 : Int32) : osM Int32 := osite (l1 ≤ l12) (qL_settles_593 N l0 l5 l6 l8 l9 l10 l11) (osite (l11 = 0) (qL_settles_593 N l0 l5 l6 l8 l9 l10 l11) (osguard (¬ (3 : Int32) = 0) (osbind (osret ((l12 - l12 / (3 : Int32) * (3 : Int32)) : Int32)) fun x2 => qL_settles_193 N c176 (l0, l1, l2, l3, l4, l5, l6, l8, l9, l10, l11, l12, x2))))
def qL_settles_176 (N : Nat) : Nat × Int32 × Nat × Nat × Nat × Int32 × Int32 × Int32 × Int32 × Int32 × Int32 × Int32 → osM Int32 := osloop (fun ih p => bL_settles_176 N ih p.1 p.2.1 p.2.2.1 p.2.2.2.1 p.2.2.2.2.1 p.2.2.2.2.2.1 p.2.2.2.2.2.2.1 p.2.2.2.2.2.2.2.1 p.2.2.2.2.2.2.2.2.1 p.2.2.2.2.2.2.2.2.2.1 p.2.2.2.2.2.2.2.2.2.2.1 p.2.2.2.2.2.2.2.2.2.2.2) 13
def qL_settles_171 (N : Nat) (l0 : Nat) (l1 : Int32) (l2 : Nat) (l3 : Nat) (l4 : Nat) (l5 : Int32) (l6 : Int32) (l8 : Int32) (l9 : Int32) (l10 : Int32) (k0 : Int32) : osM Int32 := qL_settles_176 N (l0, l1, l2, l3, l4, l5, l6, l8, l9, l10, k0, (0 : Int32))
def bL_settles_83 (N : Nat) (c24 : Nat × Int32 × Nat × Nat × Nat × Int32 → osM Int32) (c83 : Nat × Int32 × Nat × Nat × Nat × Int32 × Int32 → osM Int32) (l0 : Nat) (l1 : Int32) (l2 : Nat) (l3 : Nat) (l4 : Nat) (l5 : Int32) (l6 : Int32) : osM Int32 := osite ((6 : Int32) ≤ l6) (c24 (l0, l1, l2, l3, l4, (l5 + (1 : Int32)))) (osbind (osrecv [7] l0 (osRV (qX9_foresee N l0 l5 l6))) fun x1 => osbind (ossI 0 l2 (((6 : Int32) * l5) + l6) x1) fun _ => c83 (l0, l1, l2, l3, l4, l5, (l6 + (3 : Int32))))
def qL_settles_83 (N : Nat) (c24 : Nat × Int32 × Nat × Nat × Nat × Int32 → osM Int32) : Nat × Int32 × Nat × Nat × Nat × Int32 × Int32 → osM Int32 := osloop (fun ih p => bL_settles_83 N c24 ih p.1 p.2.1 p.2.2.1 p.2.2.2.1 p.2.2.2.2.1 p.2.2.2.2.2.1 p.2.2.2.2.2.2) 13
def qL_settles_76 (N : Nat) (c24 : Nat × Int32 × Nat × Nat × Nat × Int32 → osM Int32) (l0 : Nat) (l1 : Int32) (l2 : Nat) (l3 : Nat) (l4 : Nat) (l5 : Int32) (k0 : Int32) (k1 : Int32) (k2 : Nat) : osM Int32 := osbind (ossI 0 k2 k1 k0) fun _ => osguard (¬ (3 : Int32) = 0) (osbind (osret ((l5 - l5 / (3 : Int32) * (3 : Int32)) : Int32)) fun x2 => qL_settles_83 N c24 (l0, l1, l2, l3, l4, l5, x2))
def qL_settles_75 (N : Nat) (c24 : Nat × Int32 × Nat × Nat × Nat × Int32 → osM Int32) (l0 : Nat) (l1 : Int32) (l2 : Nat) (l3 : Nat) (l4 : Nat) (l5 : Int32) (k0 : Int32) (k1 : Nat) : osM Int32 := qL_settles_76 N c24 l0 l1 l2 l3 l4 l5 (-1 : Int32) k0 k1
def bL_settles_24 (N : Nat) (c24 : Nat × Int32 × Nat × Nat × Nat × Int32 → osM Int32) (l0 : Nat) (l1 : Int32) (l2 : Nat) (l3 : Nat) (l4 : Nat) (l5 : Int32) : osM Int32 := osite (l1 ≤ l5) (osbind (qL_sum N l0) fun x1 => osbind (qL_units_ N l0) fun x2 => osbind (osrecv [7] l0 (qX9_undoCount N l0)) fun x3 => osbind (osrecv [7] l0 (osRV (qX9_settle N l0))) fun x4 => osbind (osrecv [7] l0 (qX9_undoCount N l0)) fun x5 => osite (x5 = (osmin (6 : Int32) (x3 + (1 : Int32)))) (qL_settles_171 N l0 l1 l2 l3 l4 x1 x2 x4 (0 : Int32) (0 : Int32) (1 : Int32)) (qL_settles_171 N l0 l1 l2 l3 l4 x1 x2 x4 (0 : Int32) (0 : Int32) (0 : Int32))) (osbind (osrecv [7] l0 (osRV (qX9_area N l0 l5 (4 : Int32)))) fun x6 => osbind (ossI 0 l4 l5 x6) fun _ => osbind (osaI 0 l4 l5) fun x7 => osite (x7 = (-1 : Int32)) (qL_settles_75 N c24 l0 l1 l2 l3 l4 l5 l5 l3) (osbind (osrecv [7] l0 (osRV (qX9_order N l0 l5 (0 : Int32)))) fun x8 => osite (x8 = (1 : Int32)) (osbind (osrecv [7] l0 (osRV (qX9_order N l0 l5 (1 : Int32)))) fun x9 => qL_settles_76 N c24 l0 l1 l2 l3 l4 l5 x9 l5 l3) (qL_settles_75 N c24 l0 l1 l2 l3 l4 l5 l5 l3)))
def qL_settles_24 (N : Nat) : Nat × Int32 × Nat × Nat × Nat × Int32 → osM Int32 := osloop (fun ih p => bL_settles_24 N ih p.1 p.2.1 p.2.2.1 p.2.2.2.1 p.2.2.2.2.1 p.2.2.2.2.2) 13
def qL_settles (N : Nat) (l0 : Nat) : osM Int32 := osbind (osrecv [7] l0 (qX9_areas N l0)) fun x1 => osbind (osnewI 96 ((6 : Int32) * x1)) fun x2 => osbind (osnewI 96 x1) fun x3 => osbind (osnewI 96 x1) fun x4 => qL_settles_24 N (l0, x1, x2, x3, x4, (0 : Int32))
set_option maxRecDepth 100000 in
set_option maxHeartbeats 4000000 in
theorem sL_settles_696 (N : Nat) (k0 : Int32) : osW (osFinM (fun r : Int32 => some (.int r)) 2853 17388) yL_settles cL_settles 16 (some .boolean) [] { frames := 9, cells := 2853, slots := 17388, locals := 182 } (2853) (17388) 696 [] [.int k0] (qL_settles_696 N k0) := by
  unfold qL_settles_696
  exact os_zret (by omega) (by omega) (hL_settles_7.at 14 rfl rfl).1
set_option maxRecDepth 100000 in
set_option maxHeartbeats 4000000 in
theorem sL_settles_695 (N : Nat) : osW (osFinM (fun r : Int32 => some (.int r)) 2853 17388) yL_settles cL_settles 16 (some .boolean) [] { frames := 9, cells := 2853, slots := 17388, locals := 182 } (2853) (17388) 695 [] [] (qL_settles_695 N) := by
  unfold qL_settles_695
  refine os_iconst (i := 0) (v := (0 : Int32)) rfl (hL_settles_7.at 13 rfl rfl) ?_
  exact osW.widen (k' := 2853) (n' := 17388) (by omega) (by omega) (osW.sub [] rfl (sL_settles_696 N (0 : Int32)))
set_option maxRecDepth 100000 in
set_option maxHeartbeats 4000000 in
theorem sL_settles_644 (N : Nat) (l0 : Nat) (l5 : Int32) (l8 : Int32) (k0 : Int32) : osW (osFinM (fun r : Int32 => some (.int r)) 2853 17388) yL_settles cL_settles 16 (some .boolean) [] { frames := 9, cells := 2853, slots := 17388, locals := 182 } (2305) (14100) 644 [(0, .ref l0), (5, .int l5), (8, .int l8)] [.int k0] (qL_settles_644 N l0 l5 l8 k0) := by
  unfold qL_settles_644
  refine os_istore (i := 11) (lv' := [(11, .int k0), (0, .ref l0), (5, .int l5), (8, .int l8)]) (Nat.le_of_ble_eq_true rfl) rfl (hL_settles_6.at 40 rfl rfl) ?_
  refine os_aload_n (i := 0) (q := 0) (v := l0) 1 rfl rfl (hL_settles_6.at 41 rfl rfl) ?_
  refine os_callS (As := [.ref l0]) (st := []) (st' := (fun r => .int r :: [])) mdL_sum wd1381 wd1382 (sL_sum N l0) rfl rfl (fun _ => rfl) (Nat.le_of_ble_eq_true rfl) (Nat.le_of_ble_eq_true rfl) (Nat.le_of_ble_eq_true rfl) rfl (by show _ ≤ 2853; omega) rfl (by show _ ≤ 17388; omega) (hL_settles_6.at 42 rfl rfl) (fun x1 => ?_)
  refine os_istore (i := 12) (lv' := [(12, .int x1), (11, .int k0), (0, .ref l0), (5, .int l5), (8, .int l8)]) (Nat.le_of_ble_eq_true rfl) rfl (hL_settles_6.at 43 rfl rfl) ?_
  refine os_iload (v := k0) 1 rfl (hL_settles_6.at 44 rfl rfl) ?_
  refine os_if_eq (off := 41) (tgt := 695) rfl (hL_settles_6.at 45 rfl rfl) ?_ ?_
  · exact osW.widen (k' := 2853) (n' := 17388) (by omega) (by omega) (osW.sub [] rfl (sL_settles_695 N ))
  · refine os_aload_n (i := 0) (q := 0) (v := l0) 2 rfl rfl (hL_settles_6.at 46 rfl rfl) ?_
    refine os_callSH (np := 1) (As := [.ref l0]) (st := []) (st' := (fun r => .int r :: [])) wd1442 wd53 (by decide +kernel) (by decide +kernel) wd1440 wd1441 (sL_undone N l0) rfl rfl (fun _ => rfl) (Nat.le_of_ble_eq_true rfl) (Nat.le_of_ble_eq_true rfl) (Nat.le_of_ble_eq_true rfl) rfl (by show _ ≤ 2853; omega) rfl (by show _ ≤ 17388; omega) (hL_settles_6.at 47 rfl rfl) (fun x2 => ?_)
    refine os_if_lt (off := 34) (tgt := 695) rfl (hL_settles_6.at 48 rfl rfl) ?_ ?_
    · exact osW.widen (k' := 2853) (n' := 17388) (by omega) (by omega) (osW.sub [] rfl (sL_settles_695 N ))
    · refine os_aload_n (i := 0) (q := 0) (v := l0) 2 rfl rfl (hL_settles_6.at 49 rfl rfl) ?_
      refine os_callS (As := [.ref l0]) (st := []) (st' := (fun r => .int r :: [])) mdL_sum wd1381 wd1382 (sL_sum N l0) rfl rfl (fun _ => rfl) (Nat.le_of_ble_eq_true rfl) (Nat.le_of_ble_eq_true rfl) (Nat.le_of_ble_eq_true rfl) rfl (by show _ ≤ 2853; omega) rfl (by show _ ≤ 17388; omega) (hL_settles_7.at 0 rfl rfl) (fun x3 => ?_)
      refine os_iload (v := l5) 3 rfl (hL_settles_7.at 1 rfl rfl) ?_
      refine os_icmp_ne (off := 25) (tgt := 695) rfl (hL_settles_7.at 2 rfl rfl) ?_ ?_
      · exact osW.widen (k' := 2853) (n' := 17388) (by omega) (by omega) (osW.sub [] rfl (sL_settles_695 N ))
      · refine os_aload_n (i := 0) (q := 0) (v := l0) 2 rfl rfl (hL_settles_7.at 3 rfl rfl) ?_
        refine os_callV (cis := [7]) (b := l0) (As := []) (st := []) (st' := (fun r => .int r :: [])) sl7_X9_settle_X9_settle mdX9_settle wd1391 wd1392 (osMetT.sure (sX9_settle N l0 )) rfl rfl (fun _ => rfl) (Nat.le_of_ble_eq_true rfl) (Nat.le_of_ble_eq_true rfl) (Nat.le_of_ble_eq_true rfl) rfl (by show _ ≤ 2853; omega) rfl (by show _ ≤ 17388; omega) (hL_settles_7.at 4 rfl rfl) (fun x4 => ?_)
        refine os_iload (v := l8) 4 rfl (hL_settles_7.at 5 rfl rfl) ?_
        refine os_icmp_ne (off := 16) (tgt := 695) rfl (hL_settles_7.at 6 rfl rfl) ?_ ?_
        · exact osW.widen (k' := 2853) (n' := 17388) (by omega) (by omega) (osW.sub [] rfl (sL_settles_695 N ))
        · refine os_aload_n (i := 0) (q := 0) (v := l0) 2 rfl rfl (hL_settles_7.at 7 rfl rfl) ?_
          refine os_callS (As := [.ref l0]) (st := []) (st' := (fun r => .int r :: [])) mdL_sum wd1381 wd1382 (sL_sum N l0) rfl rfl (fun _ => rfl) (Nat.le_of_ble_eq_true rfl) (Nat.le_of_ble_eq_true rfl) (Nat.le_of_ble_eq_true rfl) rfl (by show _ ≤ 2853; omega) rfl (by show _ ≤ 17388; omega) (hL_settles_7.at 8 rfl rfl) (fun x5 => ?_)
          refine os_iload (v := x1) 0 rfl (hL_settles_7.at 9 rfl rfl) ?_
          refine os_icmp_ne (off := 7) (tgt := 695) rfl (hL_settles_7.at 10 rfl rfl) ?_ ?_
          · exact osW.widen (k' := 2853) (n' := 17388) (by omega) (by omega) (osW.sub [] rfl (sL_settles_695 N ))
          · refine os_iconst (i := 1) (v := (1 : Int32)) rfl (hL_settles_7.at 11 rfl rfl) ?_
            refine os_goto (off := 4) (tgt := 696) rfl (hL_settles_7.at 12 rfl rfl) ?_
            exact osW.widen (k' := 2853) (n' := 17388) (by omega) (by omega) (osW.sub [] rfl (sL_settles_696 N (1 : Int32)))
set_option maxRecDepth 100000 in
set_option maxHeartbeats 4000000 in
theorem sL_settles_643 (N : Nat) (l0 : Nat) (l5 : Int32) (l8 : Int32) : osW (osFinM (fun r : Int32 => some (.int r)) 2853 17388) yL_settles cL_settles 16 (some .boolean) [] { frames := 9, cells := 2853, slots := 17388, locals := 182 } (2305) (14100) 643 [(0, .ref l0), (5, .int l5), (8, .int l8)] [] (qL_settles_643 N l0 l5 l8) := by
  unfold qL_settles_643
  refine os_iconst (i := 0) (v := (0 : Int32)) rfl (hL_settles_6.at 39 rfl rfl) ?_
  exact osW.widen (k' := 2305) (n' := 14100) (by omega) (by omega) (osW.sub [0, 1, 2] rfl (sL_settles_644 N l0 l5 l8 (0 : Int32)))
set_option maxRecDepth 100000 in
set_option maxHeartbeats 4000000 in
theorem sL_settles_627 (N : Nat) (l0 : Nat) (l5 : Int32) (l6 : Int32) (l8 : Int32) (l10 : Int32) : osW (osFinM (fun r : Int32 => some (.int r)) 2853 17388) yL_settles cL_settles 16 (some .boolean) [] { frames := 9, cells := 2853, slots := 17388, locals := 182 } (2279) (13944) 627 [(0, .ref l0), (5, .int l5), (6, .int l6), (8, .int l8), (10, .int l10)] [] (qL_settles_627 N l0 l5 l6 l8 l10) := by
  unfold qL_settles_627
  refine os_aload_n (i := 0) (q := 0) (v := l0) 0 rfl rfl (hL_settles_6.at 31 rfl rfl) ?_
  refine os_callS (As := [.ref l0]) (st := []) (st' := (fun r => .int r :: [])) mdL_units_ wd1388 wd1389 (sL_units_ N l0) rfl rfl (fun _ => rfl) (Nat.le_of_ble_eq_true rfl) (Nat.le_of_ble_eq_true rfl) (Nat.le_of_ble_eq_true rfl) rfl (by show _ ≤ 2853; omega) rfl (by show _ ≤ 17388; omega) (hL_settles_6.at 32 rfl rfl) (fun x1 => ?_)
  refine os_iload (v := l6) 2 rfl (hL_settles_6.at 33 rfl rfl) ?_
  refine os_iload (v := l10) 4 rfl (hL_settles_6.at 34 rfl rfl) ?_
  refine os_isub (hL_settles_6.at 35 rfl rfl) ?_
  refine os_icmp_ne (off := 7) (tgt := 643) rfl (hL_settles_6.at 36 rfl rfl) ?_ ?_
  · exact osW.widen (k' := 2305) (n' := 14100) (by omega) (by omega) (osW.sub [0, 1, 3] rfl (sL_settles_643 N l0 l5 l8))
  · refine os_iconst (i := 1) (v := (1 : Int32)) rfl (hL_settles_6.at 37 rfl rfl) ?_
    refine os_goto (off := 4) (tgt := 644) rfl (hL_settles_6.at 38 rfl rfl) ?_
    exact osW.widen (k' := 2305) (n' := 14100) (by omega) (by omega) (osW.sub [0, 1, 3] rfl (sL_settles_644 N l0 l5 l8 (1 : Int32)))
set_option maxRecDepth 100000 in
set_option maxHeartbeats 4000000 in
theorem sL_settles_593 (N : Nat) (l0 : Nat) (l5 : Int32) (l6 : Int32) (l8 : Int32) (l9 : Int32) (l10 : Int32) (l11 : Int32) : osW (osFinM (fun r : Int32 => some (.int r)) 2853 17388) yL_settles cL_settles 16 (some .boolean) [] { frames := 9, cells := 2853, slots := 17388, locals := 182 } (2253) (13788) 593 [(0, .ref l0), (5, .int l5), (6, .int l6), (8, .int l8), (9, .int l9), (10, .int l10), (11, .int l11)] [] (qL_settles_593 N l0 l5 l6 l8 l9 l10 l11) := by
  unfold qL_settles_593
  refine os_iload (v := l11) 6 rfl (hL_settles_6.at 16 rfl rfl) ?_
  refine os_if_eq (off := 48) (tgt := 643) rfl (hL_settles_6.at 17 rfl rfl) ?_ ?_
  · exact osW.widen (k' := 2305) (n' := 14100) (by omega) (by omega) (osW.sub [0, 1, 3] rfl (sL_settles_643 N l0 l5 l8))
  · refine os_iload (v := l9) 4 rfl (hL_settles_6.at 18 rfl rfl) ?_
    refine os_iload (v := l8) 3 rfl (hL_settles_6.at 19 rfl rfl) ?_
    refine os_icmp_ne (off := 41) (tgt := 643) rfl (hL_settles_6.at 20 rfl rfl) ?_ ?_
    · exact osW.widen (k' := 2305) (n' := 14100) (by omega) (by omega) (osW.sub [0, 1, 3] rfl (sL_settles_643 N l0 l5 l8))
    · refine os_iload (v := l10) 5 rfl (hL_settles_6.at 21 rfl rfl) ?_
      refine os_aload_n (i := 0) (q := 0) (v := l0) 0 rfl rfl (hL_settles_6.at 22 rfl rfl) ?_
      refine os_callS (As := [.ref l0]) (st := [.int l10]) (st' := (fun r => .int r :: [.int l10])) mdL_aside wd1437 wd1438 (sL_aside N l0) rfl rfl (fun _ => rfl) (Nat.le_of_ble_eq_true rfl) (Nat.le_of_ble_eq_true rfl) (Nat.le_of_ble_eq_true rfl) rfl (by show _ ≤ 2853; omega) rfl (by show _ ≤ 17388; omega) (hL_settles_6.at 23 rfl rfl) (fun x1 => ?_)
      refine os_icmp_ne (off := 32) (tgt := 643) rfl (hL_settles_6.at 24 rfl rfl) ?_ ?_
      · exact osW.widen (k' := 2305) (n' := 14100) (by omega) (by omega) (osW.sub [0, 1, 3] rfl (sL_settles_643 N l0 l5 l8))
      · refine os_iload (v := l10) 5 rfl (hL_settles_6.at 25 rfl rfl) ?_
        refine os_if_eq (off := 11) (tgt := 627) rfl (hL_settles_6.at 26 rfl rfl) ?_ ?_
        · exact osW.widen (k' := 2279) (n' := 13944) (by omega) (by omega) (osW.sub [0, 1, 2, 3, 5] rfl (sL_settles_627 N l0 l5 l6 l8 l10))
        · refine os_aload_n (i := 0) (q := 0) (v := l0) 0 rfl rfl (hL_settles_6.at 27 rfl rfl) ?_
          refine os_callV (cis := [7]) (b := l0) (As := []) (st := []) (st' := (fun r => .int r :: [])) sl7_X9_phase_X9_phase mdX9_phase wd476 wd477 (sX9_phase N l0 ) rfl rfl (fun _ => rfl) (Nat.le_of_ble_eq_true rfl) (Nat.le_of_ble_eq_true rfl) (Nat.le_of_ble_eq_true rfl) rfl (by show _ ≤ 2853; omega) rfl (by show _ ≤ 17388; omega) (hL_settles_6.at 28 rfl rfl) (fun x2 => ?_)
          refine os_iconst (i := 1) (v := (1 : Int32)) rfl (hL_settles_6.at 29 rfl rfl) ?_
          refine os_icmp_ne (off := 19) (tgt := 643) rfl (hL_settles_6.at 30 rfl rfl) ?_ ?_
          · exact osW.widen (k' := 2305) (n' := 14100) (by omega) (by omega) (osW.sub [0, 1, 3] rfl (sL_settles_643 N l0 l5 l8))
          · exact osW.widen (k' := 2279) (n' := 13944) (by omega) (by omega) (osW.sub [0, 1, 2, 3, 5] rfl (sL_settles_627 N l0 l5 l6 l8 l10))
set_option maxRecDepth 100000 in
set_option maxHeartbeats 4000000 in
theorem sL_settles_587 (N : Nat) (k176 n176 : Nat) (hx176 : k176 + 110 ≤ 2253 ∧ n176 + 660 ≤ 13788) (c176 : Nat × Int32 × Nat × Nat × Nat × Int32 × Int32 × Int32 × Int32 × Int32 × Int32 × Int32 → osM Int32) (g176 : ∀ (l0 : Nat) (l1 : Int32) (l2 : Nat) (l3 : Nat) (l4 : Nat) (l5 : Int32) (l6 : Int32) (l8 : Int32) (l9 : Int32) (l10 : Int32) (l11 : Int32) (l12 : Int32), osW (osFinM (fun r : Int32 => some (.int r)) 2853 17388) yL_settles cL_settles 16 (some .boolean) [] { frames := 9, cells := 2853, slots := 17388, locals := 182 } (k176 + 110) (n176 + 660) 176 [(0, .ref l0), (1, .int l1), (2, .ref l2), (3, .ref l3), (4, .ref l4), (5, .int l5), (6, .int l6), (8, .int l8), (9, .int l9), (10, .int l10), (11, .int l11), (12, .int l12)] [] (c176 (l0, l1, l2, l3, l4, l5, l6, l8, l9, l10, l11, l12))) (l0 : Nat) (l1 : Int32) (l2 : Nat) (l3 : Nat) (l4 : Nat) (l5 : Int32) (l6 : Int32) (l8 : Int32) (l9 : Int32) (l10 : Int32) (l11 : Int32) (l12 : Int32) : osW (osFinM (fun r : Int32 => some (.int r)) 2853 17388) yL_settles cL_settles 16 (some .boolean) [] { frames := 9, cells := 2853, slots := 17388, locals := 182 } (k176 + 110) (n176 + 660) 587 [(0, .ref l0), (1, .int l1), (2, .ref l2), (3, .ref l3), (4, .ref l4), (5, .int l5), (6, .int l6), (8, .int l8), (9, .int l9), (10, .int l10), (11, .int l11), (12, .int l12)] [] (qL_settles_587 N c176 l0 l1 l2 l3 l4 l5 l6 l8 l9 l10 l11 l12) := by
  unfold qL_settles_587
  refine os_iinc (i := 12) (d := 1) (x := l12) (v := (1 : Int32)) (lv' := [(12, .int (l12 + (1 : Int32))), (0, .ref l0), (1, .int l1), (2, .ref l2), (3, .ref l3), (4, .ref l4), (5, .int l5), (6, .int l6), (8, .int l8), (9, .int l9), (10, .int l10), (11, .int l11)]) 11 rfl rfl (Nat.le_of_ble_eq_true rfl) rfl (hL_settles_6.at 14 rfl rfl) ?_
  refine os_goto (off := (-414)) (tgt := 176) rfl (hL_settles_6.at 15 rfl rfl) ?_
  exact osW.widen (k' := k176 + 110) (n' := n176 + 660) (by omega) (by omega) (osW.sub [1, 2, 3, 4, 5, 6, 7, 8, 9, 10, 11, 0] rfl (g176 l0 l1 l2 l3 l4 l5 l6 l8 l9 l10 l11 (l12 + (1 : Int32))))
set_option maxRecDepth 100000 in
set_option maxHeartbeats 4000000 in
theorem sL_settles_585 (N : Nat) (k176 n176 : Nat) (hx176 : k176 + 110 ≤ 2253 ∧ n176 + 660 ≤ 13788) (c176 : Nat × Int32 × Nat × Nat × Nat × Int32 × Int32 × Int32 × Int32 × Int32 × Int32 × Int32 → osM Int32) (g176 : ∀ (l0 : Nat) (l1 : Int32) (l2 : Nat) (l3 : Nat) (l4 : Nat) (l5 : Int32) (l6 : Int32) (l8 : Int32) (l9 : Int32) (l10 : Int32) (l11 : Int32) (l12 : Int32), osW (osFinM (fun r : Int32 => some (.int r)) 2853 17388) yL_settles cL_settles 16 (some .boolean) [] { frames := 9, cells := 2853, slots := 17388, locals := 182 } (k176 + 110) (n176 + 660) 176 [(0, .ref l0), (1, .int l1), (2, .ref l2), (3, .ref l3), (4, .ref l4), (5, .int l5), (6, .int l6), (8, .int l8), (9, .int l9), (10, .int l10), (11, .int l11), (12, .int l12)] [] (c176 (l0, l1, l2, l3, l4, l5, l6, l8, l9, l10, l11, l12))) (l0 : Nat) (l1 : Int32) (l2 : Nat) (l3 : Nat) (l4 : Nat) (l5 : Int32) (l6 : Int32) (l8 : Int32) (l9 : Int32) (l10 : Int32) (l12 : Int32) (k0 : Int32) : osW (osFinM (fun r : Int32 => some (.int r)) 2853 17388) yL_settles cL_settles 16 (some .boolean) [] { frames := 9, cells := 2853, slots := 17388, locals := 182 } (k176 + 110) (n176 + 660) 585 [(0, .ref l0), (1, .int l1), (2, .ref l2), (3, .ref l3), (4, .ref l4), (5, .int l5), (6, .int l6), (8, .int l8), (9, .int l9), (10, .int l10), (12, .int l12)] [.int k0] (qL_settles_585 N c176 l0 l1 l2 l3 l4 l5 l6 l8 l9 l10 l12 k0) := by
  unfold qL_settles_585
  refine os_istore (i := 11) (lv' := [(11, .int k0), (0, .ref l0), (1, .int l1), (2, .ref l2), (3, .ref l3), (4, .ref l4), (5, .int l5), (6, .int l6), (8, .int l8), (9, .int l9), (10, .int l10), (12, .int l12)]) (Nat.le_of_ble_eq_true rfl) rfl (hL_settles_6.at 13 rfl rfl) ?_
  exact osW.widen (k' := k176 + 110) (n' := n176 + 660) (by omega) (by omega) (osW.sub [1, 2, 3, 4, 5, 6, 7, 8, 9, 10, 0, 11] rfl (sL_settles_587 N k176 n176 hx176 c176 g176 l0 l1 l2 l3 l4 l5 l6 l8 l9 l10 k0 l12))
set_option maxRecDepth 100000 in
set_option maxHeartbeats 4000000 in
theorem sL_settles_584 (N : Nat) (k176 n176 : Nat) (hx176 : k176 + 110 ≤ 2253 ∧ n176 + 660 ≤ 13788) (c176 : Nat × Int32 × Nat × Nat × Nat × Int32 × Int32 × Int32 × Int32 × Int32 × Int32 × Int32 → osM Int32) (g176 : ∀ (l0 : Nat) (l1 : Int32) (l2 : Nat) (l3 : Nat) (l4 : Nat) (l5 : Int32) (l6 : Int32) (l8 : Int32) (l9 : Int32) (l10 : Int32) (l11 : Int32) (l12 : Int32), osW (osFinM (fun r : Int32 => some (.int r)) 2853 17388) yL_settles cL_settles 16 (some .boolean) [] { frames := 9, cells := 2853, slots := 17388, locals := 182 } (k176 + 110) (n176 + 660) 176 [(0, .ref l0), (1, .int l1), (2, .ref l2), (3, .ref l3), (4, .ref l4), (5, .int l5), (6, .int l6), (8, .int l8), (9, .int l9), (10, .int l10), (11, .int l11), (12, .int l12)] [] (c176 (l0, l1, l2, l3, l4, l5, l6, l8, l9, l10, l11, l12))) (l0 : Nat) (l1 : Int32) (l2 : Nat) (l3 : Nat) (l4 : Nat) (l5 : Int32) (l6 : Int32) (l8 : Int32) (l9 : Int32) (l10 : Int32) (l12 : Int32) : osW (osFinM (fun r : Int32 => some (.int r)) 2853 17388) yL_settles cL_settles 16 (some .boolean) [] { frames := 9, cells := 2853, slots := 17388, locals := 182 } (k176 + 110) (n176 + 660) 584 [(0, .ref l0), (1, .int l1), (2, .ref l2), (3, .ref l3), (4, .ref l4), (5, .int l5), (6, .int l6), (8, .int l8), (9, .int l9), (10, .int l10), (12, .int l12)] [] (qL_settles_584 N c176 l0 l1 l2 l3 l4 l5 l6 l8 l9 l10 l12) := by
  unfold qL_settles_584
  refine os_iconst (i := 0) (v := (0 : Int32)) rfl (hL_settles_6.at 12 rfl rfl) ?_
  exact osW.widen (k' := k176 + 110) (n' := n176 + 660) (by omega) (by omega) (osW.sub [0, 1, 2, 3, 4, 5, 6, 7, 8, 9, 10] rfl (sL_settles_585 N k176 n176 hx176 c176 g176 l0 l1 l2 l3 l4 l5 l6 l8 l9 l10 l12 (0 : Int32)))
set_option maxRecDepth 100000 in
set_option maxHeartbeats 4000000 in
theorem sL_settles_553 (N : Nat) (k176 n176 : Nat) (hx176 : k176 + 110 ≤ 2253 ∧ n176 + 660 ≤ 13788) (k520 n520 : Nat) (hx520 : k520 + 3 ≤ k176 + 110 ∧ n520 + 18 ≤ n176 + 660) (c176 : Nat × Int32 × Nat × Nat × Nat × Int32 × Int32 × Int32 × Int32 × Int32 × Int32 × Int32 → osM Int32) (c520 : Nat × Int32 × Nat × Nat × Nat × Int32 × Int32 × Int32 × Int32 × Int32 × Int32 × Int32 × Int32 → osM Int32) (g176 : ∀ (l0 : Nat) (l1 : Int32) (l2 : Nat) (l3 : Nat) (l4 : Nat) (l5 : Int32) (l6 : Int32) (l8 : Int32) (l9 : Int32) (l10 : Int32) (l11 : Int32) (l12 : Int32), osW (osFinM (fun r : Int32 => some (.int r)) 2853 17388) yL_settles cL_settles 16 (some .boolean) [] { frames := 9, cells := 2853, slots := 17388, locals := 182 } (k176 + 110) (n176 + 660) 176 [(0, .ref l0), (1, .int l1), (2, .ref l2), (3, .ref l3), (4, .ref l4), (5, .int l5), (6, .int l6), (8, .int l8), (9, .int l9), (10, .int l10), (11, .int l11), (12, .int l12)] [] (c176 (l0, l1, l2, l3, l4, l5, l6, l8, l9, l10, l11, l12))) (g520 : ∀ (l0 : Nat) (l1 : Int32) (l2 : Nat) (l3 : Nat) (l4 : Nat) (l5 : Int32) (l6 : Int32) (l8 : Int32) (l9 : Int32) (l10 : Int32) (l12 : Int32) (l14 : Int32) (l15 : Int32), osW (osFinM (fun r : Int32 => some (.int r)) 2853 17388) yL_settles cL_settles 16 (some .boolean) [] { frames := 9, cells := 2853, slots := 17388, locals := 182 } (k520 + 3) (n520 + 18) 520 [(0, .ref l0), (1, .int l1), (2, .ref l2), (3, .ref l3), (4, .ref l4), (5, .int l5), (6, .int l6), (8, .int l8), (9, .int l9), (10, .int l10), (12, .int l12), (14, .int l14), (15, .int l15)] [] (c520 (l0, l1, l2, l3, l4, l5, l6, l8, l9, l10, l12, l14, l15))) (l0 : Nat) (l1 : Int32) (l2 : Nat) (l3 : Nat) (l4 : Nat) (l5 : Int32) (l6 : Int32) (l8 : Int32) (l9 : Int32) (l10 : Int32) (l12 : Int32) (l15 : Int32) (k0 : Int32) : osW (osFinM (fun r : Int32 => some (.int r)) 2853 17388) yL_settles cL_settles 16 (some .boolean) [] { frames := 9, cells := 2853, slots := 17388, locals := 182 } (k520 + 3) (n520 + 18) 553 [(0, .ref l0), (1, .int l1), (2, .ref l2), (3, .ref l3), (4, .ref l4), (5, .int l5), (6, .int l6), (8, .int l8), (9, .int l9), (10, .int l10), (12, .int l12), (15, .int l15)] [.int k0] (qL_settles_553 N c176 c520 l0 l1 l2 l3 l4 l5 l6 l8 l9 l10 l12 l15 k0) := by
  unfold qL_settles_553
  refine os_istore (i := 14) (lv' := [(14, .int k0), (0, .ref l0), (1, .int l1), (2, .ref l2), (3, .ref l3), (4, .ref l4), (5, .int l5), (6, .int l6), (8, .int l8), (9, .int l9), (10, .int l10), (12, .int l12), (15, .int l15)]) (Nat.le_of_ble_eq_true rfl) rfl (hL_settles_5.at 47 rfl rfl) ?_
  refine os_iinc (i := 15) (d := 1) (x := l15) (v := (1 : Int32)) (lv' := [(15, .int (l15 + (1 : Int32))), (14, .int k0), (0, .ref l0), (1, .int l1), (2, .ref l2), (3, .ref l3), (4, .ref l4), (5, .int l5), (6, .int l6), (8, .int l8), (9, .int l9), (10, .int l10), (12, .int l12)]) 12 rfl rfl (Nat.le_of_ble_eq_true rfl) rfl (hL_settles_5.at 48 rfl rfl) ?_
  refine os_goto (off := (-38)) (tgt := 520) rfl (hL_settles_5.at 49 rfl rfl) ?_
  exact osW.widen (k' := k520 + 3) (n' := n520 + 18) (by omega) (by omega) (osW.sub [2, 3, 4, 5, 6, 7, 8, 9, 10, 11, 12, 1, 0] rfl (g520 l0 l1 l2 l3 l4 l5 l6 l8 l9 l10 l12 k0 (l15 + (1 : Int32))))
set_option maxRecDepth 100000 in
set_option maxHeartbeats 4000000 in
theorem sL_settles_551 (N : Nat) (k176 n176 : Nat) (hx176 : k176 + 110 ≤ 2253 ∧ n176 + 660 ≤ 13788) (k520 n520 : Nat) (hx520 : k520 + 3 ≤ k176 + 110 ∧ n520 + 18 ≤ n176 + 660) (c176 : Nat × Int32 × Nat × Nat × Nat × Int32 × Int32 × Int32 × Int32 × Int32 × Int32 × Int32 → osM Int32) (c520 : Nat × Int32 × Nat × Nat × Nat × Int32 × Int32 × Int32 × Int32 × Int32 × Int32 × Int32 × Int32 → osM Int32) (g176 : ∀ (l0 : Nat) (l1 : Int32) (l2 : Nat) (l3 : Nat) (l4 : Nat) (l5 : Int32) (l6 : Int32) (l8 : Int32) (l9 : Int32) (l10 : Int32) (l11 : Int32) (l12 : Int32), osW (osFinM (fun r : Int32 => some (.int r)) 2853 17388) yL_settles cL_settles 16 (some .boolean) [] { frames := 9, cells := 2853, slots := 17388, locals := 182 } (k176 + 110) (n176 + 660) 176 [(0, .ref l0), (1, .int l1), (2, .ref l2), (3, .ref l3), (4, .ref l4), (5, .int l5), (6, .int l6), (8, .int l8), (9, .int l9), (10, .int l10), (11, .int l11), (12, .int l12)] [] (c176 (l0, l1, l2, l3, l4, l5, l6, l8, l9, l10, l11, l12))) (g520 : ∀ (l0 : Nat) (l1 : Int32) (l2 : Nat) (l3 : Nat) (l4 : Nat) (l5 : Int32) (l6 : Int32) (l8 : Int32) (l9 : Int32) (l10 : Int32) (l12 : Int32) (l14 : Int32) (l15 : Int32), osW (osFinM (fun r : Int32 => some (.int r)) 2853 17388) yL_settles cL_settles 16 (some .boolean) [] { frames := 9, cells := 2853, slots := 17388, locals := 182 } (k520 + 3) (n520 + 18) 520 [(0, .ref l0), (1, .int l1), (2, .ref l2), (3, .ref l3), (4, .ref l4), (5, .int l5), (6, .int l6), (8, .int l8), (9, .int l9), (10, .int l10), (12, .int l12), (14, .int l14), (15, .int l15)] [] (c520 (l0, l1, l2, l3, l4, l5, l6, l8, l9, l10, l12, l14, l15))) (l0 : Nat) (l1 : Int32) (l2 : Nat) (l3 : Nat) (l4 : Nat) (l5 : Int32) (l6 : Int32) (l8 : Int32) (l9 : Int32) (l10 : Int32) (l12 : Int32) (l14 : Int32) (l15 : Int32) : osW (osFinM (fun r : Int32 => some (.int r)) 2853 17388) yL_settles cL_settles 16 (some .boolean) [] { frames := 9, cells := 2853, slots := 17388, locals := 182 } (k520 + 3) (n520 + 18) 551 [(0, .ref l0), (1, .int l1), (2, .ref l2), (3, .ref l3), (4, .ref l4), (5, .int l5), (6, .int l6), (8, .int l8), (9, .int l9), (10, .int l10), (12, .int l12), (14, .int l14), (15, .int l15)] [] (qL_settles_551 N c176 c520 l0 l1 l2 l3 l4 l5 l6 l8 l9 l10 l12 l14 l15) := by
  unfold qL_settles_551
  refine os_iload (v := l14) 11 rfl (hL_settles_5.at 46 rfl rfl) ?_
  exact osW.widen (k' := k520 + 3) (n' := n520 + 18) (by omega) (by omega) (osW.sub [0, 1, 2, 3, 4, 5, 6, 7, 8, 9, 10, 12] rfl (sL_settles_553 N k176 n176 hx176 k520 n520 hx520 c176 c520 g176 g520 l0 l1 l2 l3 l4 l5 l6 l8 l9 l10 l12 l15 l14))
set_option maxRecDepth 100000 in
set_option maxHeartbeats 4000000 in
theorem tL_settles_520 (N : Nat) (k176 n176 : Nat) (hx176 : k176 + 110 ≤ 2253 ∧ n176 + 660 ≤ 13788) (k520 n520 : Nat) (hx520 : k520 + 3 ≤ k176 + 110 ∧ n520 + 18 ≤ n176 + 660) (c176 : Nat × Int32 × Nat × Nat × Nat × Int32 × Int32 × Int32 × Int32 × Int32 × Int32 × Int32 → osM Int32) (c520 : Nat × Int32 × Nat × Nat × Nat × Int32 × Int32 × Int32 × Int32 × Int32 × Int32 × Int32 × Int32 → osM Int32) (g176 : ∀ (l0 : Nat) (l1 : Int32) (l2 : Nat) (l3 : Nat) (l4 : Nat) (l5 : Int32) (l6 : Int32) (l8 : Int32) (l9 : Int32) (l10 : Int32) (l11 : Int32) (l12 : Int32), osW (osFinM (fun r : Int32 => some (.int r)) 2853 17388) yL_settles cL_settles 16 (some .boolean) [] { frames := 9, cells := 2853, slots := 17388, locals := 182 } (k176 + 110) (n176 + 660) 176 [(0, .ref l0), (1, .int l1), (2, .ref l2), (3, .ref l3), (4, .ref l4), (5, .int l5), (6, .int l6), (8, .int l8), (9, .int l9), (10, .int l10), (11, .int l11), (12, .int l12)] [] (c176 (l0, l1, l2, l3, l4, l5, l6, l8, l9, l10, l11, l12))) (g520 : ∀ (l0 : Nat) (l1 : Int32) (l2 : Nat) (l3 : Nat) (l4 : Nat) (l5 : Int32) (l6 : Int32) (l8 : Int32) (l9 : Int32) (l10 : Int32) (l12 : Int32) (l14 : Int32) (l15 : Int32), osW (osFinM (fun r : Int32 => some (.int r)) 2853 17388) yL_settles cL_settles 16 (some .boolean) [] { frames := 9, cells := 2853, slots := 17388, locals := 182 } (k520 + 3) (n520 + 18) 520 [(0, .ref l0), (1, .int l1), (2, .ref l2), (3, .ref l3), (4, .ref l4), (5, .int l5), (6, .int l6), (8, .int l8), (9, .int l9), (10, .int l10), (12, .int l12), (14, .int l14), (15, .int l15)] [] (c520 (l0, l1, l2, l3, l4, l5, l6, l8, l9, l10, l12, l14, l15))) (l0 : Nat) (l1 : Int32) (l2 : Nat) (l3 : Nat) (l4 : Nat) (l5 : Int32) (l6 : Int32) (l8 : Int32) (l9 : Int32) (l10 : Int32) (l12 : Int32) (l14 : Int32) (l15 : Int32) : osW (osFinM (fun r : Int32 => some (.int r)) 2853 17388) yL_settles cL_settles 16 (some .boolean) [] { frames := 9, cells := 2853, slots := 17388, locals := 182 } (k520) (n520) 520 [(0, .ref l0), (1, .int l1), (2, .ref l2), (3, .ref l3), (4, .ref l4), (5, .int l5), (6, .int l6), (8, .int l8), (9, .int l9), (10, .int l10), (12, .int l12), (14, .int l14), (15, .int l15)] [] (bL_settles_520 N c176 c520 l0 l1 l2 l3 l4 l5 l6 l8 l9 l10 l12 l14 l15) := by
  unfold bL_settles_520
  refine os_iload (v := l15) 12 rfl (hL_settles_5.at 30 rfl rfl) ?_
  refine os_iload_n (i := 1) (q := 1) (v := l1) 1 rfl rfl (hL_settles_5.at 31 rfl rfl) ?_
  refine os_icmp_ge (off := 38) (tgt := 561) rfl (hL_settles_5.at 32 rfl rfl) ?_ ?_
  · refine os_iload (v := l14) 11 rfl (hL_settles_6.at 0 rfl rfl) ?_
    refine os_iconst (i := (-1)) (v := (-1 : Int32)) rfl (hL_settles_6.at 1 rfl rfl) ?_
    refine os_icmp_eq (off := 20) (tgt := 584) rfl (hL_settles_6.at 2 rfl rfl) ?_ ?_
    · exact osW.widen (k' := k176 + 110) (n' := n176 + 660) (by omega) (by omega) (osW.sub [0, 1, 2, 3, 4, 5, 6, 7, 8, 9, 10] rfl (sL_settles_584 N k176 n176 hx176 c176 g176 l0 l1 l2 l3 l4 l5 l6 l8 l9 l10 l12))
    · refine os_aload (v := l4) 4 rfl (hL_settles_6.at 3 rfl rfl) ?_
      refine os_iload (v := l14) 11 rfl (hL_settles_6.at 4 rfl rfl) ?_
      refine os_iaload (hL_settles_6.at 5 rfl rfl) (fun x1 => ?_)
      refine os_aload (v := l4) 4 rfl (hL_settles_6.at 6 rfl rfl) ?_
      refine os_iload (v := l12) 10 rfl (hL_settles_6.at 7 rfl rfl) ?_
      refine os_iaload (hL_settles_6.at 8 rfl rfl) (fun x2 => ?_)
      refine os_icmp_eq (off := 7) (tgt := 584) rfl (hL_settles_6.at 9 rfl rfl) ?_ ?_
      · exact osW.widen (k' := k176 + 110) (n' := n176 + 660) (by omega) (by omega) (osW.sub [0, 1, 2, 3, 4, 5, 6, 7, 8, 9, 10] rfl (sL_settles_584 N k176 n176 hx176 c176 g176 l0 l1 l2 l3 l4 l5 l6 l8 l9 l10 l12))
      · refine os_iconst (i := 1) (v := (1 : Int32)) rfl (hL_settles_6.at 10 rfl rfl) ?_
        refine os_goto (off := 4) (tgt := 585) rfl (hL_settles_6.at 11 rfl rfl) ?_
        exact osW.widen (k' := k176 + 110) (n' := n176 + 660) (by omega) (by omega) (osW.sub [0, 1, 2, 3, 4, 5, 6, 7, 8, 9, 10] rfl (sL_settles_585 N k176 n176 hx176 c176 g176 l0 l1 l2 l3 l4 l5 l6 l8 l9 l10 l12 (1 : Int32)))
  · refine os_aload_n (i := 3) (q := 3) (v := l3) 3 rfl rfl (hL_settles_5.at 33 rfl rfl) ?_
    refine os_iload (v := l15) 12 rfl (hL_settles_5.at 34 rfl rfl) ?_
    refine os_iaload (hL_settles_5.at 35 rfl rfl) (fun x3 => ?_)
    refine os_iload (v := l12) 10 rfl (hL_settles_5.at 36 rfl rfl) ?_
    refine os_icmp_ne (off := 19) (tgt := 551) rfl (hL_settles_5.at 37 rfl rfl) ?_ ?_
    · exact osW.widen (k' := k520 + 3) (n' := n520 + 18) (by omega) (by omega) (osW.sub [0, 1, 2, 3, 4, 5, 6, 7, 8, 9, 10, 11, 12] rfl (sL_settles_551 N k176 n176 hx176 k520 n520 hx520 c176 c520 g176 g520 l0 l1 l2 l3 l4 l5 l6 l8 l9 l10 l12 l14 l15))
    · refine os_aload_n (i := 0) (q := 0) (v := l0) 0 rfl rfl (hL_settles_5.at 38 rfl rfl) ?_
      refine os_iload (v := l15) 12 rfl (hL_settles_5.at 39 rfl rfl) ?_
      refine os_iconst (i := 0) (v := (0 : Int32)) rfl (hL_settles_5.at 40 rfl rfl) ?_
      refine os_callV (cis := [7]) (b := l0) (As := [.int l15, .int (0 : Int32)]) (st := []) (st' := (fun r => .int r :: [])) sl7_X9_result_X9_result mdX9_result wd1428 wd1429 (osMetT.sure (sX9_result N l0 l15 (0 : Int32))) rfl rfl (fun _ => rfl) (Nat.le_of_ble_eq_true rfl) (Nat.le_of_ble_eq_true rfl) (Nat.le_of_ble_eq_true rfl) rfl (by show _ ≤ 2853; omega) rfl (by show _ ≤ 17388; omega) (hL_settles_5.at 41 rfl rfl) (fun x4 => ?_)
      refine os_iconst (i := 1) (v := (1 : Int32)) rfl (hL_settles_5.at 42 rfl rfl) ?_
      refine os_icmp_ne (off := 8) (tgt := 551) rfl (hL_settles_5.at 43 rfl rfl) ?_ ?_
      · exact osW.widen (k' := k520 + 3) (n' := n520 + 18) (by omega) (by omega) (osW.sub [0, 1, 2, 3, 4, 5, 6, 7, 8, 9, 10, 11, 12] rfl (sL_settles_551 N k176 n176 hx176 k520 n520 hx520 c176 c520 g176 g520 l0 l1 l2 l3 l4 l5 l6 l8 l9 l10 l12 l14 l15))
      · refine os_iload (v := l15) 12 rfl (hL_settles_5.at 44 rfl rfl) ?_
        refine os_goto (off := 5) (tgt := 553) rfl (hL_settles_5.at 45 rfl rfl) ?_
        exact osW.widen (k' := k520 + 3) (n' := n520 + 18) (by omega) (by omega) (osW.sub [0, 1, 2, 3, 4, 5, 6, 7, 8, 9, 10, 12] rfl (sL_settles_553 N k176 n176 hx176 k520 n520 hx520 c176 c520 g176 g520 l0 l1 l2 l3 l4 l5 l6 l8 l9 l10 l12 l15 l15))
set_option maxRecDepth 100000 in
set_option maxHeartbeats 4000000 in
theorem sL_settles_520 (N : Nat) (k176 n176 : Nat) (hx176 : k176 + 110 ≤ 2253 ∧ n176 + 660 ≤ 13788) (c176 : Nat × Int32 × Nat × Nat × Nat × Int32 × Int32 × Int32 × Int32 × Int32 × Int32 × Int32 → osM Int32) (g176 : ∀ (l0 : Nat) (l1 : Int32) (l2 : Nat) (l3 : Nat) (l4 : Nat) (l5 : Int32) (l6 : Int32) (l8 : Int32) (l9 : Int32) (l10 : Int32) (l11 : Int32) (l12 : Int32), osW (osFinM (fun r : Int32 => some (.int r)) 2853 17388) yL_settles cL_settles 16 (some .boolean) [] { frames := 9, cells := 2853, slots := 17388, locals := 182 } (k176 + 110) (n176 + 660) 176 [(0, .ref l0), (1, .int l1), (2, .ref l2), (3, .ref l3), (4, .ref l4), (5, .int l5), (6, .int l6), (8, .int l8), (9, .int l9), (10, .int l10), (11, .int l11), (12, .int l12)] [] (c176 (l0, l1, l2, l3, l4, l5, l6, l8, l9, l10, l11, l12))) (l0 : Nat) (l1 : Int32) (l2 : Nat) (l3 : Nat) (l4 : Nat) (l5 : Int32) (l6 : Int32) (l8 : Int32) (l9 : Int32) (l10 : Int32) (l12 : Int32) (l14 : Int32) (l15 : Int32) : osW (osFinM (fun r : Int32 => some (.int r)) 2853 17388) yL_settles cL_settles 16 (some .boolean) [] { frames := 9, cells := 2853, slots := 17388, locals := 182 } (k176 + 71) (n176 + 426) 520 [(0, .ref l0), (1, .int l1), (2, .ref l2), (3, .ref l3), (4, .ref l4), (5, .int l5), (6, .int l6), (8, .int l8), (9, .int l9), (10, .int l10), (12, .int l12), (14, .int l14), (15, .int l15)] [] (qL_settles_520 N c176 (l0, l1, l2, l3, l4, l5, l6, l8, l9, l10, l12, l14, l15)) := by
  refine osW.widen (k' := (k176 + 71) + 3 * (13 - 13)) (n' := (n176 + 426) + 18 * (13 - 13)) (by omega) (by omega) ?_
  exact osloop_K (lvf := fun p => [(0, .ref p.1), (1, .int p.2.1), (2, .ref p.2.2.1), (3, .ref p.2.2.2.1), (4, .ref p.2.2.2.2.1), (5, .int p.2.2.2.2.2.1), (6, .int p.2.2.2.2.2.2.1), (8, .int p.2.2.2.2.2.2.2.1), (9, .int p.2.2.2.2.2.2.2.2.1), (10, .int p.2.2.2.2.2.2.2.2.2.1), (12, .int p.2.2.2.2.2.2.2.2.2.2.1), (14, .int p.2.2.2.2.2.2.2.2.2.2.2.1), (15, .int p.2.2.2.2.2.2.2.2.2.2.2.2)]) (stf := fun p => []) 13 3 18 (k176 + 71) (n176 + 426) (fun f hf ih g p => tL_settles_520 N k176 n176 hx176 ((k176 + 71) + 3 * (13 - (f + 1))) ((n176 + 426) + 18 * (13 - (f + 1))) (by omega) c176 ih g176 (fun l0 l1 l2 l3 l4 l5 l6 l8 l9 l10 l12 l14 l15 => osW.widen (by omega) (by omega) (g (l0, l1, l2, l3, l4, l5, l6, l8, l9, l10, l12, l14, l15))) p.1 p.2.1 p.2.2.1 p.2.2.2.1 p.2.2.2.2.1 p.2.2.2.2.2.1 p.2.2.2.2.2.2.1 p.2.2.2.2.2.2.2.1 p.2.2.2.2.2.2.2.2.1 p.2.2.2.2.2.2.2.2.2.1 p.2.2.2.2.2.2.2.2.2.2.1 p.2.2.2.2.2.2.2.2.2.2.2.1 p.2.2.2.2.2.2.2.2.2.2.2.2) 13 (Nat.le_refl _) (l0, l1, l2, l3, l4, l5, l6, l8, l9, l10, l12, l14, l15)
set_option maxRecDepth 100000 in
set_option maxHeartbeats 4000000 in
theorem sL_settles_498 (N : Nat) (k176 n176 : Nat) (hx176 : k176 + 110 ≤ 2253 ∧ n176 + 660 ≤ 13788) (c176 : Nat × Int32 × Nat × Nat × Nat × Int32 × Int32 × Int32 × Int32 × Int32 × Int32 × Int32 → osM Int32) (g176 : ∀ (l0 : Nat) (l1 : Int32) (l2 : Nat) (l3 : Nat) (l4 : Nat) (l5 : Int32) (l6 : Int32) (l8 : Int32) (l9 : Int32) (l10 : Int32) (l11 : Int32) (l12 : Int32), osW (osFinM (fun r : Int32 => some (.int r)) 2853 17388) yL_settles cL_settles 16 (some .boolean) [] { frames := 9, cells := 2853, slots := 17388, locals := 182 } (k176 + 110) (n176 + 660) 176 [(0, .ref l0), (1, .int l1), (2, .ref l2), (3, .ref l3), (4, .ref l4), (5, .int l5), (6, .int l6), (8, .int l8), (9, .int l9), (10, .int l10), (11, .int l11), (12, .int l12)] [] (c176 (l0, l1, l2, l3, l4, l5, l6, l8, l9, l10, l11, l12))) (l0 : Nat) (l1 : Int32) (l2 : Nat) (l3 : Nat) (l4 : Nat) (l5 : Int32) (l6 : Int32) (l8 : Int32) (l9 : Int32) (l10 : Int32) (l11 : Int32) (l12 : Int32) : osW (osFinM (fun r : Int32 => some (.int r)) 2853 17388) yL_settles cL_settles 16 (some .boolean) [] { frames := 9, cells := 2853, slots := 17388, locals := 182 } (k176 + 68) (n176 + 408) 498 [(0, .ref l0), (1, .int l1), (2, .ref l2), (3, .ref l3), (4, .ref l4), (5, .int l5), (6, .int l6), (8, .int l8), (9, .int l9), (10, .int l10), (11, .int l11), (12, .int l12)] [] (qL_settles_498 N c176 l0 l1 l2 l3 l4 l5 l6 l8 l9 l10 l11 l12) := by
  unfold qL_settles_498
  refine os_iload (v := l11) 10 rfl (hL_settles_5.at 18 rfl rfl) ?_
  refine os_if_eq (off := 87) (tgt := 587) rfl (hL_settles_5.at 19 rfl rfl) ?_ ?_
  · exact osW.widen (k' := k176 + 110) (n' := n176 + 660) (by omega) (by omega) (osW.sub [0, 1, 2, 3, 4, 5, 6, 7, 8, 9, 10, 11] rfl (sL_settles_587 N k176 n176 hx176 c176 g176 l0 l1 l2 l3 l4 l5 l6 l8 l9 l10 l11 l12))
  · refine os_aload_n (i := 0) (q := 0) (v := l0) 0 rfl rfl (hL_settles_5.at 20 rfl rfl) ?_
    refine os_iload (v := l12) 11 rfl (hL_settles_5.at 21 rfl rfl) ?_
    refine os_iconst (i := 1) (v := (1 : Int32)) rfl (hL_settles_5.at 22 rfl rfl) ?_
    refine os_callV (cis := [7]) (b := l0) (As := [.int l12, .int (1 : Int32)]) (st := []) (st' := (fun r => .int r :: [])) sl7_X9_result_X9_result mdX9_result wd1428 wd1429 (osMetT.sure (sX9_result N l0 l12 (1 : Int32))) rfl rfl (fun _ => rfl) (Nat.le_of_ble_eq_true rfl) (Nat.le_of_ble_eq_true rfl) (Nat.le_of_ble_eq_true rfl) rfl (by show _ ≤ 2853; omega) rfl (by show _ ≤ 17388; omega) (hL_settles_5.at 23 rfl rfl) (fun x1 => ?_)
    refine os_iconst (i := 1) (v := (1 : Int32)) rfl (hL_settles_5.at 24 rfl rfl) ?_
    refine os_icmp_ne (off := 76) (tgt := 587) rfl (hL_settles_5.at 25 rfl rfl) ?_ ?_
    · exact osW.widen (k' := k176 + 110) (n' := n176 + 660) (by omega) (by omega) (osW.sub [0, 1, 2, 3, 4, 5, 6, 7, 8, 9, 10, 11] rfl (sL_settles_587 N k176 n176 hx176 c176 g176 l0 l1 l2 l3 l4 l5 l6 l8 l9 l10 l11 l12))
    · refine os_iconst (i := (-1)) (v := (-1 : Int32)) rfl (hL_settles_5.at 26 rfl rfl) ?_
      refine os_istore (i := 14) (lv' := [(14, .int (-1 : Int32)), (0, .ref l0), (1, .int l1), (2, .ref l2), (3, .ref l3), (4, .ref l4), (5, .int l5), (6, .int l6), (8, .int l8), (9, .int l9), (10, .int l10), (11, .int l11), (12, .int l12)]) (Nat.le_of_ble_eq_true rfl) rfl (hL_settles_5.at 27 rfl rfl) ?_
      refine os_iconst (i := 0) (v := (0 : Int32)) rfl (hL_settles_5.at 28 rfl rfl) ?_
      refine os_istore (i := 15) (lv' := [(15, .int (0 : Int32)), (14, .int (-1 : Int32)), (0, .ref l0), (1, .int l1), (2, .ref l2), (3, .ref l3), (4, .ref l4), (5, .int l5), (6, .int l6), (8, .int l8), (9, .int l9), (10, .int l10), (11, .int l11), (12, .int l12)]) (Nat.le_of_ble_eq_true rfl) rfl (hL_settles_5.at 29 rfl rfl) ?_
      exact osW.widen (k' := k176 + 71) (n' := n176 + 426) (by omega) (by omega) (osW.sub [2, 3, 4, 5, 6, 7, 8, 9, 10, 11, 13, 1, 0] rfl (sL_settles_520 N k176 n176 hx176 c176 g176 l0 l1 l2 l3 l4 l5 l6 l8 l9 l10 l12 (-1 : Int32) (0 : Int32)))
set_option maxRecDepth 100000 in
set_option maxHeartbeats 4000000 in
theorem sL_settles_496 (N : Nat) (k176 n176 : Nat) (hx176 : k176 + 110 ≤ 2253 ∧ n176 + 660 ≤ 13788) (c176 : Nat × Int32 × Nat × Nat × Nat × Int32 × Int32 × Int32 × Int32 × Int32 × Int32 × Int32 → osM Int32) (g176 : ∀ (l0 : Nat) (l1 : Int32) (l2 : Nat) (l3 : Nat) (l4 : Nat) (l5 : Int32) (l6 : Int32) (l8 : Int32) (l9 : Int32) (l10 : Int32) (l11 : Int32) (l12 : Int32), osW (osFinM (fun r : Int32 => some (.int r)) 2853 17388) yL_settles cL_settles 16 (some .boolean) [] { frames := 9, cells := 2853, slots := 17388, locals := 182 } (k176 + 110) (n176 + 660) 176 [(0, .ref l0), (1, .int l1), (2, .ref l2), (3, .ref l3), (4, .ref l4), (5, .int l5), (6, .int l6), (8, .int l8), (9, .int l9), (10, .int l10), (11, .int l11), (12, .int l12)] [] (c176 (l0, l1, l2, l3, l4, l5, l6, l8, l9, l10, l11, l12))) (l0 : Nat) (l1 : Int32) (l2 : Nat) (l3 : Nat) (l4 : Nat) (l5 : Int32) (l6 : Int32) (l8 : Int32) (l9 : Int32) (l10 : Int32) (l12 : Int32) (k0 : Int32) : osW (osFinM (fun r : Int32 => some (.int r)) 2853 17388) yL_settles cL_settles 16 (some .boolean) [] { frames := 9, cells := 2853, slots := 17388, locals := 182 } (k176 + 68) (n176 + 408) 496 [(0, .ref l0), (1, .int l1), (2, .ref l2), (3, .ref l3), (4, .ref l4), (5, .int l5), (6, .int l6), (8, .int l8), (9, .int l9), (10, .int l10), (12, .int l12)] [.int k0] (qL_settles_496 N c176 l0 l1 l2 l3 l4 l5 l6 l8 l9 l10 l12 k0) := by
  unfold qL_settles_496
  refine os_istore (i := 11) (lv' := [(11, .int k0), (0, .ref l0), (1, .int l1), (2, .ref l2), (3, .ref l3), (4, .ref l4), (5, .int l5), (6, .int l6), (8, .int l8), (9, .int l9), (10, .int l10), (12, .int l12)]) (Nat.le_of_ble_eq_true rfl) rfl (hL_settles_5.at 17 rfl rfl) ?_
  exact osW.widen (k' := k176 + 68) (n' := n176 + 408) (by omega) (by omega) (osW.sub [1, 2, 3, 4, 5, 6, 7, 8, 9, 10, 0, 11] rfl (sL_settles_498 N k176 n176 hx176 c176 g176 l0 l1 l2 l3 l4 l5 l6 l8 l9 l10 k0 l12))
set_option maxRecDepth 100000 in
set_option maxHeartbeats 4000000 in
theorem sL_settles_495 (N : Nat) (k176 n176 : Nat) (hx176 : k176 + 110 ≤ 2253 ∧ n176 + 660 ≤ 13788) (c176 : Nat × Int32 × Nat × Nat × Nat × Int32 × Int32 × Int32 × Int32 × Int32 × Int32 × Int32 → osM Int32) (g176 : ∀ (l0 : Nat) (l1 : Int32) (l2 : Nat) (l3 : Nat) (l4 : Nat) (l5 : Int32) (l6 : Int32) (l8 : Int32) (l9 : Int32) (l10 : Int32) (l11 : Int32) (l12 : Int32), osW (osFinM (fun r : Int32 => some (.int r)) 2853 17388) yL_settles cL_settles 16 (some .boolean) [] { frames := 9, cells := 2853, slots := 17388, locals := 182 } (k176 + 110) (n176 + 660) 176 [(0, .ref l0), (1, .int l1), (2, .ref l2), (3, .ref l3), (4, .ref l4), (5, .int l5), (6, .int l6), (8, .int l8), (9, .int l9), (10, .int l10), (11, .int l11), (12, .int l12)] [] (c176 (l0, l1, l2, l3, l4, l5, l6, l8, l9, l10, l11, l12))) (l0 : Nat) (l1 : Int32) (l2 : Nat) (l3 : Nat) (l4 : Nat) (l5 : Int32) (l6 : Int32) (l8 : Int32) (l9 : Int32) (l10 : Int32) (l12 : Int32) : osW (osFinM (fun r : Int32 => some (.int r)) 2853 17388) yL_settles cL_settles 16 (some .boolean) [] { frames := 9, cells := 2853, slots := 17388, locals := 182 } (k176 + 68) (n176 + 408) 495 [(0, .ref l0), (1, .int l1), (2, .ref l2), (3, .ref l3), (4, .ref l4), (5, .int l5), (6, .int l6), (8, .int l8), (9, .int l9), (10, .int l10), (12, .int l12)] [] (qL_settles_495 N c176 l0 l1 l2 l3 l4 l5 l6 l8 l9 l10 l12) := by
  unfold qL_settles_495
  refine os_iconst (i := 0) (v := (0 : Int32)) rfl (hL_settles_5.at 16 rfl rfl) ?_
  exact osW.widen (k' := k176 + 68) (n' := n176 + 408) (by omega) (by omega) (osW.sub [0, 1, 2, 3, 4, 5, 6, 7, 8, 9, 10] rfl (sL_settles_496 N k176 n176 hx176 c176 g176 l0 l1 l2 l3 l4 l5 l6 l8 l9 l10 l12 (0 : Int32)))
set_option maxRecDepth 100000 in
set_option maxHeartbeats 4000000 in
theorem sL_settles_491 (N : Nat) (k176 n176 : Nat) (hx176 : k176 + 110 ≤ 2253 ∧ n176 + 660 ≤ 13788) (c176 : Nat × Int32 × Nat × Nat × Nat × Int32 × Int32 × Int32 × Int32 × Int32 × Int32 × Int32 → osM Int32) (g176 : ∀ (l0 : Nat) (l1 : Int32) (l2 : Nat) (l3 : Nat) (l4 : Nat) (l5 : Int32) (l6 : Int32) (l8 : Int32) (l9 : Int32) (l10 : Int32) (l11 : Int32) (l12 : Int32), osW (osFinM (fun r : Int32 => some (.int r)) 2853 17388) yL_settles cL_settles 16 (some .boolean) [] { frames := 9, cells := 2853, slots := 17388, locals := 182 } (k176 + 110) (n176 + 660) 176 [(0, .ref l0), (1, .int l1), (2, .ref l2), (3, .ref l3), (4, .ref l4), (5, .int l5), (6, .int l6), (8, .int l8), (9, .int l9), (10, .int l10), (11, .int l11), (12, .int l12)] [] (c176 (l0, l1, l2, l3, l4, l5, l6, l8, l9, l10, l11, l12))) (l0 : Nat) (l1 : Int32) (l2 : Nat) (l3 : Nat) (l4 : Nat) (l5 : Int32) (l6 : Int32) (l8 : Int32) (l9 : Int32) (l10 : Int32) (l12 : Int32) : osW (osFinM (fun r : Int32 => some (.int r)) 2853 17388) yL_settles cL_settles 16 (some .boolean) [] { frames := 9, cells := 2853, slots := 17388, locals := 182 } (k176 + 68) (n176 + 408) 491 [(0, .ref l0), (1, .int l1), (2, .ref l2), (3, .ref l3), (4, .ref l4), (5, .int l5), (6, .int l6), (8, .int l8), (9, .int l9), (10, .int l10), (12, .int l12)] [] (qL_settles_491 N c176 l0 l1 l2 l3 l4 l5 l6 l8 l9 l10 l12) := by
  unfold qL_settles_491
  refine os_iconst (i := 1) (v := (1 : Int32)) rfl (hL_settles_5.at 14 rfl rfl) ?_
  refine os_goto (off := 4) (tgt := 496) rfl (hL_settles_5.at 15 rfl rfl) ?_
  exact osW.widen (k' := k176 + 68) (n' := n176 + 408) (by omega) (by omega) (osW.sub [0, 1, 2, 3, 4, 5, 6, 7, 8, 9, 10] rfl (sL_settles_496 N k176 n176 hx176 c176 g176 l0 l1 l2 l3 l4 l5 l6 l8 l9 l10 l12 (1 : Int32)))
set_option maxRecDepth 100000 in
set_option maxHeartbeats 4000000 in
theorem sL_settles_466 (N : Nat) (k176 n176 : Nat) (hx176 : k176 + 110 ≤ 2253 ∧ n176 + 660 ≤ 13788) (c176 : Nat × Int32 × Nat × Nat × Nat × Int32 × Int32 × Int32 × Int32 × Int32 × Int32 × Int32 → osM Int32) (g176 : ∀ (l0 : Nat) (l1 : Int32) (l2 : Nat) (l3 : Nat) (l4 : Nat) (l5 : Int32) (l6 : Int32) (l8 : Int32) (l9 : Int32) (l10 : Int32) (l11 : Int32) (l12 : Int32), osW (osFinM (fun r : Int32 => some (.int r)) 2853 17388) yL_settles cL_settles 16 (some .boolean) [] { frames := 9, cells := 2853, slots := 17388, locals := 182 } (k176 + 110) (n176 + 660) 176 [(0, .ref l0), (1, .int l1), (2, .ref l2), (3, .ref l3), (4, .ref l4), (5, .int l5), (6, .int l6), (8, .int l8), (9, .int l9), (10, .int l10), (11, .int l11), (12, .int l12)] [] (c176 (l0, l1, l2, l3, l4, l5, l6, l8, l9, l10, l11, l12))) (l0 : Nat) (l1 : Int32) (l2 : Nat) (l3 : Nat) (l4 : Nat) (l5 : Int32) (l6 : Int32) (l8 : Int32) (l9 : Int32) (l10 : Int32) (l12 : Int32) (l14 : Int32) : osW (osFinM (fun r : Int32 => some (.int r)) 2853 17388) yL_settles cL_settles 16 (some .boolean) [] { frames := 9, cells := 2853, slots := 17388, locals := 182 } (k176 + 62) (n176 + 372) 466 [(0, .ref l0), (1, .int l1), (2, .ref l2), (3, .ref l3), (4, .ref l4), (5, .int l5), (6, .int l6), (8, .int l8), (9, .int l9), (10, .int l10), (12, .int l12), (14, .int l14)] [] (qL_settles_466 N c176 l0 l1 l2 l3 l4 l5 l6 l8 l9 l10 l12 l14) := by
  unfold qL_settles_466
  refine os_aload_n (i := 0) (q := 0) (v := l0) 0 rfl rfl (hL_settles_5.at 0 rfl rfl) ?_
  refine os_iload (v := l12) 10 rfl (hL_settles_5.at 1 rfl rfl) ?_
  refine os_iconst (i := 3) (v := (3 : Int32)) rfl (hL_settles_5.at 2 rfl rfl) ?_
  refine os_callV (cis := [7]) (b := l0) (As := [.int l12, .int (3 : Int32)]) (st := []) (st' := (fun r => .int r :: [])) sl7_X9_result_X9_result mdX9_result wd1428 wd1429 (osMetT.sure (sX9_result N l0 l12 (3 : Int32))) rfl rfl (fun _ => rfl) (Nat.le_of_ble_eq_true rfl) (Nat.le_of_ble_eq_true rfl) (Nat.le_of_ble_eq_true rfl) rfl (by show _ ≤ 2853; omega) rfl (by show _ ≤ 17388; omega) (hL_settles_5.at 3 rfl rfl) (fun x1 => ?_)
  refine os_aload_n (i := 0) (q := 0) (v := l0) 0 rfl rfl (hL_settles_5.at 4 rfl rfl) ?_
  refine os_iload (v := l14) 11 rfl (hL_settles_5.at 5 rfl rfl) ?_
  refine os_iconst (i := 2) (v := (2 : Int32)) rfl (hL_settles_5.at 6 rfl rfl) ?_
  refine os_callV (cis := [7]) (b := l0) (As := [.int l14, .int (2 : Int32)]) (st := [.int x1]) (st' := (fun r => .int r :: [.int x1])) sl7_X9_result_X9_result mdX9_result wd1428 wd1429 (osMetT.sure (sX9_result N l0 l14 (2 : Int32))) rfl rfl (fun _ => rfl) (Nat.le_of_ble_eq_true rfl) (Nat.le_of_ble_eq_true rfl) (Nat.le_of_ble_eq_true rfl) rfl (by show _ ≤ 2853; omega) rfl (by show _ ≤ 17388; omega) (hL_settles_5.at 7 rfl rfl) (fun x2 => ?_)
  refine os_icmp_gt (off := 11) (tgt := 491) rfl (hL_settles_5.at 8 rfl rfl) ?_ ?_
  · exact osW.widen (k' := k176 + 68) (n' := n176 + 408) (by omega) (by omega) (osW.sub [0, 1, 2, 3, 4, 5, 6, 7, 8, 9, 10] rfl (sL_settles_491 N k176 n176 hx176 c176 g176 l0 l1 l2 l3 l4 l5 l6 l8 l9 l10 l12))
  · refine os_aload_n (i := 3) (q := 3) (v := l3) 3 rfl rfl (hL_settles_5.at 9 rfl rfl) ?_
    refine os_iload (v := l14) 11 rfl (hL_settles_5.at 10 rfl rfl) ?_
    refine os_iaload (hL_settles_5.at 11 rfl rfl) (fun x3 => ?_)
    refine os_iconst (i := (-1)) (v := (-1 : Int32)) rfl (hL_settles_5.at 12 rfl rfl) ?_
    refine os_icmp_eq (off := 7) (tgt := 495) rfl (hL_settles_5.at 13 rfl rfl) ?_ ?_
    · exact osW.widen (k' := k176 + 68) (n' := n176 + 408) (by omega) (by omega) (osW.sub [0, 1, 2, 3, 4, 5, 6, 7, 8, 9, 10] rfl (sL_settles_495 N k176 n176 hx176 c176 g176 l0 l1 l2 l3 l4 l5 l6 l8 l9 l10 l12))
    · exact osW.widen (k' := k176 + 68) (n' := n176 + 408) (by omega) (by omega) (osW.sub [0, 1, 2, 3, 4, 5, 6, 7, 8, 9, 10] rfl (sL_settles_491 N k176 n176 hx176 c176 g176 l0 l1 l2 l3 l4 l5 l6 l8 l9 l10 l12))
set_option maxRecDepth 100000 in
set_option maxHeartbeats 4000000 in
theorem sL_settles_397 (N : Nat) (k176 n176 : Nat) (hx176 : k176 + 110 ≤ 2253 ∧ n176 + 660 ≤ 13788) (c176 : Nat × Int32 × Nat × Nat × Nat × Int32 × Int32 × Int32 × Int32 × Int32 × Int32 × Int32 → osM Int32) (g176 : ∀ (l0 : Nat) (l1 : Int32) (l2 : Nat) (l3 : Nat) (l4 : Nat) (l5 : Int32) (l6 : Int32) (l8 : Int32) (l9 : Int32) (l10 : Int32) (l11 : Int32) (l12 : Int32), osW (osFinM (fun r : Int32 => some (.int r)) 2853 17388) yL_settles cL_settles 16 (some .boolean) [] { frames := 9, cells := 2853, slots := 17388, locals := 182 } (k176 + 110) (n176 + 660) 176 [(0, .ref l0), (1, .int l1), (2, .ref l2), (3, .ref l3), (4, .ref l4), (5, .int l5), (6, .int l6), (8, .int l8), (9, .int l9), (10, .int l10), (11, .int l11), (12, .int l12)] [] (c176 (l0, l1, l2, l3, l4, l5, l6, l8, l9, l10, l11, l12))) (l0 : Nat) (l1 : Int32) (l2 : Nat) (l3 : Nat) (l4 : Nat) (l5 : Int32) (l6 : Int32) (l8 : Int32) (l9 : Int32) (l10 : Int32) (l12 : Int32) (l13 : Int32) (k0 : Int32) : osW (osFinM (fun r : Int32 => some (.int r)) 2853 17388) yL_settles cL_settles 16 (some .boolean) [] { frames := 9, cells := 2853, slots := 17388, locals := 182 } (k176 + 51) (n176 + 306) 397 [(0, .ref l0), (1, .int l1), (2, .ref l2), (3, .ref l3), (4, .ref l4), (5, .int l5), (6, .int l6), (8, .int l8), (9, .int l9), (10, .int l10), (12, .int l12), (13, .int l13)] [.int k0] (qL_settles_397 N c176 l0 l1 l2 l3 l4 l5 l6 l8 l9 l10 l12 l13 k0) := by
  unfold qL_settles_397
  refine os_istore (i := 11) (lv' := [(11, .int k0), (0, .ref l0), (1, .int l1), (2, .ref l2), (3, .ref l3), (4, .ref l4), (5, .int l5), (6, .int l6), (8, .int l8), (9, .int l9), (10, .int l10), (12, .int l12), (13, .int l13)]) (Nat.le_of_ble_eq_true rfl) rfl (hL_settles_4.at 14 rfl rfl) ?_
  refine os_iload (v := k0) 0 rfl (hL_settles_4.at 15 rfl rfl) ?_
  refine os_if_eq (off := 97) (tgt := 498) rfl (hL_settles_4.at 16 rfl rfl) ?_ ?_
  · exact osW.widen (k' := k176 + 68) (n' := n176 + 408) (by omega) (by omega) (osW.sub [1, 2, 3, 4, 5, 6, 7, 8, 9, 10, 0, 11] rfl (sL_settles_498 N k176 n176 hx176 c176 g176 l0 l1 l2 l3 l4 l5 l6 l8 l9 l10 k0 l12))
  · refine os_iload (v := l13) 12 rfl (hL_settles_4.at 17 rfl rfl) ?_
    refine os_iconst (i := 1) (v := (1 : Int32)) rfl (hL_settles_4.at 18 rfl rfl) ?_
    refine os_icmp_ne (off := 91) (tgt := 498) rfl (hL_settles_4.at 19 rfl rfl) ?_ ?_
    · exact osW.widen (k' := k176 + 68) (n' := n176 + 408) (by omega) (by omega) (osW.sub [1, 2, 3, 4, 5, 6, 7, 8, 9, 10, 0, 11] rfl (sL_settles_498 N k176 n176 hx176 c176 g176 l0 l1 l2 l3 l4 l5 l6 l8 l9 l10 k0 l12))
    · refine os_aload_n (i := 3) (q := 3) (v := l3) 4 rfl rfl (hL_settles_4.at 20 rfl rfl) ?_
      refine os_iload (v := l12) 11 rfl (hL_settles_4.at 21 rfl rfl) ?_
      refine os_iaload (hL_settles_4.at 22 rfl rfl) (fun x1 => ?_)
      refine os_istore (i := 14) (lv' := [(14, .int x1), (11, .int k0), (0, .ref l0), (1, .int l1), (2, .ref l2), (3, .ref l3), (4, .ref l4), (5, .int l5), (6, .int l6), (8, .int l8), (9, .int l9), (10, .int l10), (12, .int l12), (13, .int l13)]) (Nat.le_of_ble_eq_true rfl) rfl (hL_settles_4.at 23 rfl rfl) ?_
      refine os_aload_n (i := 0) (q := 0) (v := l0) 2 rfl rfl (hL_settles_4.at 24 rfl rfl) ?_
      refine os_iload (v := x1) 0 rfl (hL_settles_4.at 25 rfl rfl) ?_
      refine os_iconst (i := 4) (v := (4 : Int32)) rfl (hL_settles_4.at 26 rfl rfl) ?_
      refine os_callV (cis := [7]) (b := l0) (As := [.int x1, .int (4 : Int32)]) (st := []) (st' := (fun r => .int r :: [])) sl7_X9_area_X9_area mdX9_area wd1052 wd1053 (osMetT.sure (sX9_area N l0 x1 (4 : Int32))) rfl rfl (fun _ => rfl) (Nat.le_of_ble_eq_true rfl) (Nat.le_of_ble_eq_true rfl) (Nat.le_of_ble_eq_true rfl) rfl (by show _ ≤ 2853; omega) rfl (by show _ ≤ 17388; omega) (hL_settles_4.at 27 rfl rfl) (fun x2 => ?_)
      refine os_iconst (i := (-1)) (v := (-1 : Int32)) rfl (hL_settles_4.at 28 rfl rfl) ?_
      refine os_icmp_eq (off := 71) (tgt := 495) rfl (hL_settles_4.at 29 rfl rfl) ?_ ?_
      · exact osW.widen (k' := k176 + 68) (n' := n176 + 408) (by omega) (by omega) (osW.sub [2, 3, 4, 5, 6, 7, 8, 9, 10, 11, 12] rfl (sL_settles_495 N k176 n176 hx176 c176 g176 l0 l1 l2 l3 l4 l5 l6 l8 l9 l10 l12))
      · refine os_aload_n (i := 0) (q := 0) (v := l0) 2 rfl rfl (hL_settles_4.at 30 rfl rfl) ?_
        refine os_iload (v := l12) 12 rfl (hL_settles_4.at 31 rfl rfl) ?_
        refine os_iconst (i := 3) (v := (3 : Int32)) rfl (hL_settles_4.at 32 rfl rfl) ?_
        refine os_callV (cis := [7]) (b := l0) (As := [.int l12, .int (3 : Int32)]) (st := []) (st' := (fun r => .int r :: [])) sl7_X9_result_X9_result mdX9_result wd1428 wd1429 (osMetT.sure (sX9_result N l0 l12 (3 : Int32))) rfl rfl (fun _ => rfl) (Nat.le_of_ble_eq_true rfl) (Nat.le_of_ble_eq_true rfl) (Nat.le_of_ble_eq_true rfl) rfl (by show _ ≤ 2853; omega) rfl (by show _ ≤ 17388; omega) (hL_settles_4.at 33 rfl rfl) (fun x3 => ?_)
        refine os_if_le (off := 61) (tgt := 495) rfl (hL_settles_4.at 34 rfl rfl) ?_ ?_
        · exact osW.widen (k' := k176 + 68) (n' := n176 + 408) (by omega) (by omega) (osW.sub [2, 3, 4, 5, 6, 7, 8, 9, 10, 11, 12] rfl (sL_settles_495 N k176 n176 hx176 c176 g176 l0 l1 l2 l3 l4 l5 l6 l8 l9 l10 l12))
        · refine os_aload_n (i := 3) (q := 3) (v := l3) 5 rfl rfl (hL_settles_4.at 35 rfl rfl) ?_
          refine os_iload (v := x1) 0 rfl (hL_settles_4.at 36 rfl rfl) ?_
          refine os_iaload (hL_settles_4.at 37 rfl rfl) (fun x4 => ?_)
          refine os_iload (v := l12) 12 rfl (hL_settles_4.at 38 rfl rfl) ?_
          refine os_icmp_ne (off := 23) (tgt := 466) rfl (hL_settles_4.at 39 rfl rfl) ?_ ?_
          · exact osW.widen (k' := k176 + 62) (n' := n176 + 372) (by omega) (by omega) (osW.sub [2, 3, 4, 5, 6, 7, 8, 9, 10, 11, 12, 0] rfl (sL_settles_466 N k176 n176 hx176 c176 g176 l0 l1 l2 l3 l4 l5 l6 l8 l9 l10 l12 x1))
          · refine os_aload_n (i := 0) (q := 0) (v := l0) 2 rfl rfl (hL_settles_4.at 40 rfl rfl) ?_
            refine os_iload (v := l12) 12 rfl (hL_settles_4.at 41 rfl rfl) ?_
            refine os_iconst (i := 5) (v := (5 : Int32)) rfl (hL_settles_4.at 42 rfl rfl) ?_
            refine os_callV (cis := [7]) (b := l0) (As := [.int l12, .int (5 : Int32)]) (st := []) (st' := (fun r => .int r :: [])) sl7_X9_result_X9_result mdX9_result wd1428 wd1429 (osMetT.sure (sX9_result N l0 l12 (5 : Int32))) rfl rfl (fun _ => rfl) (Nat.le_of_ble_eq_true rfl) (Nat.le_of_ble_eq_true rfl) (Nat.le_of_ble_eq_true rfl) rfl (by show _ ≤ 2853; omega) rfl (by show _ ≤ 17388; omega) (hL_settles_4.at 43 rfl rfl) (fun x5 => ?_)
            refine os_if_ne (off := 13) (tgt := 466) rfl (hL_settles_4.at 44 rfl rfl) ?_ ?_
            · exact osW.widen (k' := k176 + 62) (n' := n176 + 372) (by omega) (by omega) (osW.sub [2, 3, 4, 5, 6, 7, 8, 9, 10, 11, 12, 0] rfl (sL_settles_466 N k176 n176 hx176 c176 g176 l0 l1 l2 l3 l4 l5 l6 l8 l9 l10 l12 x1))
            · refine os_aload_n (i := 0) (q := 0) (v := l0) 2 rfl rfl (hL_settles_4.at 45 rfl rfl) ?_
              refine os_iload (v := x1) 0 rfl (hL_settles_4.at 46 rfl rfl) ?_
              refine os_iconst (i := 5) (v := (5 : Int32)) rfl (hL_settles_4.at 47 rfl rfl) ?_
              refine os_callV (cis := [7]) (b := l0) (As := [.int x1, .int (5 : Int32)]) (st := []) (st' := (fun r => .int r :: [])) sl7_X9_result_X9_result mdX9_result wd1428 wd1429 (osMetT.sure (sX9_result N l0 x1 (5 : Int32))) rfl rfl (fun _ => rfl) (Nat.le_of_ble_eq_true rfl) (Nat.le_of_ble_eq_true rfl) (Nat.le_of_ble_eq_true rfl) rfl (by show _ ≤ 2853; omega) rfl (by show _ ≤ 17388; omega) (hL_settles_4.at 48 rfl rfl) (fun x6 => ?_)
              refine os_if_eq (off := 28) (tgt := 491) rfl (hL_settles_4.at 49 rfl rfl) ?_ ?_
              · exact osW.widen (k' := k176 + 68) (n' := n176 + 408) (by omega) (by omega) (osW.sub [2, 3, 4, 5, 6, 7, 8, 9, 10, 11, 12] rfl (sL_settles_491 N k176 n176 hx176 c176 g176 l0 l1 l2 l3 l4 l5 l6 l8 l9 l10 l12))
              · exact osW.widen (k' := k176 + 62) (n' := n176 + 372) (by omega) (by omega) (osW.sub [2, 3, 4, 5, 6, 7, 8, 9, 10, 11, 12, 0] rfl (sL_settles_466 N k176 n176 hx176 c176 g176 l0 l1 l2 l3 l4 l5 l6 l8 l9 l10 l12 x1))
set_option maxRecDepth 100000 in
set_option maxHeartbeats 4000000 in
theorem sL_settles_396 (N : Nat) (k176 n176 : Nat) (hx176 : k176 + 110 ≤ 2253 ∧ n176 + 660 ≤ 13788) (c176 : Nat × Int32 × Nat × Nat × Nat × Int32 × Int32 × Int32 × Int32 × Int32 × Int32 × Int32 → osM Int32) (g176 : ∀ (l0 : Nat) (l1 : Int32) (l2 : Nat) (l3 : Nat) (l4 : Nat) (l5 : Int32) (l6 : Int32) (l8 : Int32) (l9 : Int32) (l10 : Int32) (l11 : Int32) (l12 : Int32), osW (osFinM (fun r : Int32 => some (.int r)) 2853 17388) yL_settles cL_settles 16 (some .boolean) [] { frames := 9, cells := 2853, slots := 17388, locals := 182 } (k176 + 110) (n176 + 660) 176 [(0, .ref l0), (1, .int l1), (2, .ref l2), (3, .ref l3), (4, .ref l4), (5, .int l5), (6, .int l6), (8, .int l8), (9, .int l9), (10, .int l10), (11, .int l11), (12, .int l12)] [] (c176 (l0, l1, l2, l3, l4, l5, l6, l8, l9, l10, l11, l12))) (l0 : Nat) (l1 : Int32) (l2 : Nat) (l3 : Nat) (l4 : Nat) (l5 : Int32) (l6 : Int32) (l8 : Int32) (l9 : Int32) (l10 : Int32) (l12 : Int32) (l13 : Int32) : osW (osFinM (fun r : Int32 => some (.int r)) 2853 17388) yL_settles cL_settles 16 (some .boolean) [] { frames := 9, cells := 2853, slots := 17388, locals := 182 } (k176 + 51) (n176 + 306) 396 [(0, .ref l0), (1, .int l1), (2, .ref l2), (3, .ref l3), (4, .ref l4), (5, .int l5), (6, .int l6), (8, .int l8), (9, .int l9), (10, .int l10), (12, .int l12), (13, .int l13)] [] (qL_settles_396 N c176 l0 l1 l2 l3 l4 l5 l6 l8 l9 l10 l12 l13) := by
  unfold qL_settles_396
  refine os_iconst (i := 0) (v := (0 : Int32)) rfl (hL_settles_4.at 13 rfl rfl) ?_
  exact osW.widen (k' := k176 + 51) (n' := n176 + 306) (by omega) (by omega) (osW.sub [0, 1, 2, 3, 4, 5, 6, 7, 8, 9, 10, 11] rfl (sL_settles_397 N k176 n176 hx176 c176 g176 l0 l1 l2 l3 l4 l5 l6 l8 l9 l10 l12 l13 (0 : Int32)))
set_option maxRecDepth 100000 in
set_option maxHeartbeats 4000000 in
theorem sL_settles_392 (N : Nat) (k176 n176 : Nat) (hx176 : k176 + 110 ≤ 2253 ∧ n176 + 660 ≤ 13788) (c176 : Nat × Int32 × Nat × Nat × Nat × Int32 × Int32 × Int32 × Int32 × Int32 × Int32 × Int32 → osM Int32) (g176 : ∀ (l0 : Nat) (l1 : Int32) (l2 : Nat) (l3 : Nat) (l4 : Nat) (l5 : Int32) (l6 : Int32) (l8 : Int32) (l9 : Int32) (l10 : Int32) (l11 : Int32) (l12 : Int32), osW (osFinM (fun r : Int32 => some (.int r)) 2853 17388) yL_settles cL_settles 16 (some .boolean) [] { frames := 9, cells := 2853, slots := 17388, locals := 182 } (k176 + 110) (n176 + 660) 176 [(0, .ref l0), (1, .int l1), (2, .ref l2), (3, .ref l3), (4, .ref l4), (5, .int l5), (6, .int l6), (8, .int l8), (9, .int l9), (10, .int l10), (11, .int l11), (12, .int l12)] [] (c176 (l0, l1, l2, l3, l4, l5, l6, l8, l9, l10, l11, l12))) (l0 : Nat) (l1 : Int32) (l2 : Nat) (l3 : Nat) (l4 : Nat) (l5 : Int32) (l6 : Int32) (l8 : Int32) (l9 : Int32) (l10 : Int32) (l12 : Int32) (l13 : Int32) : osW (osFinM (fun r : Int32 => some (.int r)) 2853 17388) yL_settles cL_settles 16 (some .boolean) [] { frames := 9, cells := 2853, slots := 17388, locals := 182 } (k176 + 51) (n176 + 306) 392 [(0, .ref l0), (1, .int l1), (2, .ref l2), (3, .ref l3), (4, .ref l4), (5, .int l5), (6, .int l6), (8, .int l8), (9, .int l9), (10, .int l10), (12, .int l12), (13, .int l13)] [] (qL_settles_392 N c176 l0 l1 l2 l3 l4 l5 l6 l8 l9 l10 l12 l13) := by
  unfold qL_settles_392
  refine os_iconst (i := 1) (v := (1 : Int32)) rfl (hL_settles_4.at 11 rfl rfl) ?_
  refine os_goto (off := 4) (tgt := 397) rfl (hL_settles_4.at 12 rfl rfl) ?_
  exact osW.widen (k' := k176 + 51) (n' := n176 + 306) (by omega) (by omega) (osW.sub [0, 1, 2, 3, 4, 5, 6, 7, 8, 9, 10, 11] rfl (sL_settles_397 N k176 n176 hx176 c176 g176 l0 l1 l2 l3 l4 l5 l6 l8 l9 l10 l12 l13 (1 : Int32)))
set_option maxRecDepth 100000 in
set_option maxHeartbeats 4000000 in
theorem sL_settles_367 (N : Nat) (k176 n176 : Nat) (hx176 : k176 + 110 ≤ 2253 ∧ n176 + 660 ≤ 13788) (c176 : Nat × Int32 × Nat × Nat × Nat × Int32 × Int32 × Int32 × Int32 × Int32 × Int32 × Int32 → osM Int32) (g176 : ∀ (l0 : Nat) (l1 : Int32) (l2 : Nat) (l3 : Nat) (l4 : Nat) (l5 : Int32) (l6 : Int32) (l8 : Int32) (l9 : Int32) (l10 : Int32) (l11 : Int32) (l12 : Int32), osW (osFinM (fun r : Int32 => some (.int r)) 2853 17388) yL_settles cL_settles 16 (some .boolean) [] { frames := 9, cells := 2853, slots := 17388, locals := 182 } (k176 + 110) (n176 + 660) 176 [(0, .ref l0), (1, .int l1), (2, .ref l2), (3, .ref l3), (4, .ref l4), (5, .int l5), (6, .int l6), (8, .int l8), (9, .int l9), (10, .int l10), (11, .int l11), (12, .int l12)] [] (c176 (l0, l1, l2, l3, l4, l5, l6, l8, l9, l10, l11, l12))) (l0 : Nat) (l1 : Int32) (l2 : Nat) (l3 : Nat) (l4 : Nat) (l5 : Int32) (l6 : Int32) (l8 : Int32) (l9 : Int32) (l10 : Int32) (l12 : Int32) (l13 : Int32) (k0 : Int32) (k1 : Int32) : osW (osFinM (fun r : Int32 => some (.int r)) 2853 17388) yL_settles cL_settles 16 (some .boolean) [] { frames := 9, cells := 2853, slots := 17388, locals := 182 } (k176 + 48) (n176 + 288) 367 [(0, .ref l0), (1, .int l1), (2, .ref l2), (3, .ref l3), (4, .ref l4), (5, .int l5), (6, .int l6), (8, .int l8), (9, .int l9), (10, .int l10), (12, .int l12), (13, .int l13)] [.int k0, .int k1] (qL_settles_367 N c176 l0 l1 l2 l3 l4 l5 l6 l8 l9 l10 l12 l13 k0 k1) := by
  unfold qL_settles_367
  refine os_icmp_ne (off := 29) (tgt := 396) rfl (hL_settles_3.at 49 rfl rfl) ?_ ?_
  · exact osW.widen (k' := k176 + 51) (n' := n176 + 306) (by omega) (by omega) (osW.sub [0, 1, 2, 3, 4, 5, 6, 7, 8, 9, 10, 11] rfl (sL_settles_396 N k176 n176 hx176 c176 g176 l0 l1 l2 l3 l4 l5 l6 l8 l9 l10 l12 l13))
  · refine os_aload_n (i := 0) (q := 0) (v := l0) 0 rfl rfl (hL_settles_4.at 0 rfl rfl) ?_
    refine os_iload (v := l12) 10 rfl (hL_settles_4.at 1 rfl rfl) ?_
    refine os_iconst (i := 1) (v := (1 : Int32)) rfl (hL_settles_4.at 2 rfl rfl) ?_
    refine os_callV (cis := [7]) (b := l0) (As := [.int l12, .int (1 : Int32)]) (st := []) (st' := (fun r => .int r :: [])) sl7_X9_result_X9_result mdX9_result wd1428 wd1429 (osMetT.sure (sX9_result N l0 l12 (1 : Int32))) rfl rfl (fun _ => rfl) (Nat.le_of_ble_eq_true rfl) (Nat.le_of_ble_eq_true rfl) (Nat.le_of_ble_eq_true rfl) rfl (by show _ ≤ 2853; omega) rfl (by show _ ≤ 17388; omega) (hL_settles_4.at 3 rfl rfl) (fun x1 => ?_)
    refine os_if_eq (off := 15) (tgt := 392) rfl (hL_settles_4.at 4 rfl rfl) ?_ ?_
    · exact osW.widen (k' := k176 + 51) (n' := n176 + 306) (by omega) (by omega) (osW.sub [0, 1, 2, 3, 4, 5, 6, 7, 8, 9, 10, 11] rfl (sL_settles_392 N k176 n176 hx176 c176 g176 l0 l1 l2 l3 l4 l5 l6 l8 l9 l10 l12 l13))
    · refine os_iload (v := l13) 11 rfl (hL_settles_4.at 5 rfl rfl) ?_
      refine os_iconst (i := 1) (v := (1 : Int32)) rfl (hL_settles_4.at 6 rfl rfl) ?_
      refine os_icmp_eq (off := 13) (tgt := 396) rfl (hL_settles_4.at 7 rfl rfl) ?_ ?_
      · exact osW.widen (k' := k176 + 51) (n' := n176 + 306) (by omega) (by omega) (osW.sub [0, 1, 2, 3, 4, 5, 6, 7, 8, 9, 10, 11] rfl (sL_settles_396 N k176 n176 hx176 c176 g176 l0 l1 l2 l3 l4 l5 l6 l8 l9 l10 l12 l13))
      · refine os_iload (v := l13) 11 rfl (hL_settles_4.at 8 rfl rfl) ?_
        refine os_iconst (i := 3) (v := (3 : Int32)) rfl (hL_settles_4.at 9 rfl rfl) ?_
        refine os_icmp_eq (off := 7) (tgt := 396) rfl (hL_settles_4.at 10 rfl rfl) ?_ ?_
        · exact osW.widen (k' := k176 + 51) (n' := n176 + 306) (by omega) (by omega) (osW.sub [0, 1, 2, 3, 4, 5, 6, 7, 8, 9, 10, 11] rfl (sL_settles_396 N k176 n176 hx176 c176 g176 l0 l1 l2 l3 l4 l5 l6 l8 l9 l10 l12 l13))
        · exact osW.widen (k' := k176 + 51) (n' := n176 + 306) (by omega) (by omega) (osW.sub [0, 1, 2, 3, 4, 5, 6, 7, 8, 9, 10, 11] rfl (sL_settles_392 N k176 n176 hx176 c176 g176 l0 l1 l2 l3 l4 l5 l6 l8 l9 l10 l12 l13))
set_option maxRecDepth 100000 in
set_option maxHeartbeats 4000000 in
theorem sL_settles_352 (N : Nat) (k176 n176 : Nat) (hx176 : k176 + 110 ≤ 2253 ∧ n176 + 660 ≤ 13788) (c176 : Nat × Int32 × Nat × Nat × Nat × Int32 × Int32 × Int32 × Int32 × Int32 × Int32 × Int32 → osM Int32) (g176 : ∀ (l0 : Nat) (l1 : Int32) (l2 : Nat) (l3 : Nat) (l4 : Nat) (l5 : Int32) (l6 : Int32) (l8 : Int32) (l9 : Int32) (l10 : Int32) (l11 : Int32) (l12 : Int32), osW (osFinM (fun r : Int32 => some (.int r)) 2853 17388) yL_settles cL_settles 16 (some .boolean) [] { frames := 9, cells := 2853, slots := 17388, locals := 182 } (k176 + 110) (n176 + 660) 176 [(0, .ref l0), (1, .int l1), (2, .ref l2), (3, .ref l3), (4, .ref l4), (5, .int l5), (6, .int l6), (8, .int l8), (9, .int l9), (10, .int l10), (11, .int l11), (12, .int l12)] [] (c176 (l0, l1, l2, l3, l4, l5, l6, l8, l9, l10, l11, l12))) (l0 : Nat) (l1 : Int32) (l2 : Nat) (l3 : Nat) (l4 : Nat) (l5 : Int32) (l6 : Int32) (l8 : Int32) (l9 : Int32) (l10 : Int32) (l12 : Int32) (l13 : Int32) (k0 : Int32) : osW (osFinM (fun r : Int32 => some (.int r)) 2853 17388) yL_settles cL_settles 16 (some .boolean) [] { frames := 9, cells := 2853, slots := 17388, locals := 182 } (k176 + 45) (n176 + 270) 352 [(0, .ref l0), (1, .int l1), (2, .ref l2), (3, .ref l3), (4, .ref l4), (5, .int l5), (6, .int l6), (8, .int l8), (9, .int l9), (10, .int l10), (12, .int l12), (13, .int l13)] [.int k0] (qL_settles_352 N c176 l0 l1 l2 l3 l4 l5 l6 l8 l9 l10 l12 l13 k0) := by
  unfold qL_settles_352
  refine os_aload_n (i := 0) (q := 0) (v := l0) 0 rfl rfl (hL_settles_3.at 41 rfl rfl) ?_
  refine os_iload (v := l12) 10 rfl (hL_settles_3.at 42 rfl rfl) ?_
  refine os_iconst (i := 4) (v := (4 : Int32)) rfl (hL_settles_3.at 43 rfl rfl) ?_
  refine os_callV (cis := [7]) (b := l0) (As := [.int l12, .int (4 : Int32)]) (st := [.int k0]) (st' := (fun r => .int r :: [.int k0])) sl7_X9_result_X9_result mdX9_result wd1428 wd1429 (osMetT.sure (sX9_result N l0 l12 (4 : Int32))) rfl rfl (fun _ => rfl) (Nat.le_of_ble_eq_true rfl) (Nat.le_of_ble_eq_true rfl) (Nat.le_of_ble_eq_true rfl) rfl (by show _ ≤ 2853; omega) rfl (by show _ ≤ 17388; omega) (hL_settles_3.at 44 rfl rfl) (fun x1 => ?_)
  refine os_if_eq (off := 7) (tgt := 366) rfl (hL_settles_3.at 45 rfl rfl) ?_ ?_
  · refine os_iconst (i := 0) (v := (0 : Int32)) rfl (hL_settles_3.at 48 rfl rfl) ?_
    exact osW.widen (k' := k176 + 48) (n' := n176 + 288) (by omega) (by omega) (osW.sub [0, 1, 2, 3, 4, 5, 6, 7, 8, 9, 10, 11] rfl (sL_settles_367 N k176 n176 hx176 c176 g176 l0 l1 l2 l3 l4 l5 l6 l8 l9 l10 l12 l13 (0 : Int32) k0))
  · refine os_iconst (i := 1) (v := (1 : Int32)) rfl (hL_settles_3.at 46 rfl rfl) ?_
    refine os_goto (off := 4) (tgt := 367) rfl (hL_settles_3.at 47 rfl rfl) ?_
    exact osW.widen (k' := k176 + 48) (n' := n176 + 288) (by omega) (by omega) (osW.sub [0, 1, 2, 3, 4, 5, 6, 7, 8, 9, 10, 11] rfl (sL_settles_367 N k176 n176 hx176 c176 g176 l0 l1 l2 l3 l4 l5 l6 l8 l9 l10 l12 l13 (1 : Int32) k0))
set_option maxRecDepth 100000 in
set_option maxHeartbeats 4000000 in
theorem sL_settles_338 (N : Nat) (k176 n176 : Nat) (hx176 : k176 + 110 ≤ 2253 ∧ n176 + 660 ≤ 13788) (c176 : Nat × Int32 × Nat × Nat × Nat × Int32 × Int32 × Int32 × Int32 × Int32 × Int32 × Int32 → osM Int32) (g176 : ∀ (l0 : Nat) (l1 : Int32) (l2 : Nat) (l3 : Nat) (l4 : Nat) (l5 : Int32) (l6 : Int32) (l8 : Int32) (l9 : Int32) (l10 : Int32) (l11 : Int32) (l12 : Int32), osW (osFinM (fun r : Int32 => some (.int r)) 2853 17388) yL_settles cL_settles 16 (some .boolean) [] { frames := 9, cells := 2853, slots := 17388, locals := 182 } (k176 + 110) (n176 + 660) 176 [(0, .ref l0), (1, .int l1), (2, .ref l2), (3, .ref l3), (4, .ref l4), (5, .int l5), (6, .int l6), (8, .int l8), (9, .int l9), (10, .int l10), (11, .int l11), (12, .int l12)] [] (c176 (l0, l1, l2, l3, l4, l5, l6, l8, l9, l10, l11, l12))) (l0 : Nat) (l1 : Int32) (l2 : Nat) (l3 : Nat) (l4 : Nat) (l5 : Int32) (l6 : Int32) (l8 : Int32) (l9 : Int32) (l10 : Int32) (l12 : Int32) (l13 : Int32) (k0 : Int32) (k1 : Int32) : osW (osFinM (fun r : Int32 => some (.int r)) 2853 17388) yL_settles cL_settles 16 (some .boolean) [] { frames := 9, cells := 2853, slots := 17388, locals := 182 } (k176 + 45) (n176 + 270) 338 [(0, .ref l0), (1, .int l1), (2, .ref l2), (3, .ref l3), (4, .ref l4), (5, .int l5), (6, .int l6), (8, .int l8), (9, .int l9), (10, .int l10), (12, .int l12), (13, .int l13)] [.int k0, .int k1] (qL_settles_338 N c176 l0 l1 l2 l3 l4 l5 l6 l8 l9 l10 l12 l13 k0 k1) := by
  unfold qL_settles_338
  refine os_icmp_ne (off := 58) (tgt := 396) rfl (hL_settles_3.at 34 rfl rfl) ?_ ?_
  · exact osW.widen (k' := k176 + 51) (n' := n176 + 306) (by omega) (by omega) (osW.sub [0, 1, 2, 3, 4, 5, 6, 7, 8, 9, 10, 11] rfl (sL_settles_396 N k176 n176 hx176 c176 g176 l0 l1 l2 l3 l4 l5 l6 l8 l9 l10 l12 l13))
  · refine os_iload (v := l13) 11 rfl (hL_settles_3.at 35 rfl rfl) ?_
    refine os_iconst (i := 2) (v := (2 : Int32)) rfl (hL_settles_3.at 36 rfl rfl) ?_
    refine os_icmp_ne (off := 7) (tgt := 351) rfl (hL_settles_3.at 37 rfl rfl) ?_ ?_
    · refine os_iconst (i := 0) (v := (0 : Int32)) rfl (hL_settles_3.at 40 rfl rfl) ?_
      exact osW.widen (k' := k176 + 45) (n' := n176 + 270) (by omega) (by omega) (osW.sub [0, 1, 2, 3, 4, 5, 6, 7, 8, 9, 10, 11] rfl (sL_settles_352 N k176 n176 hx176 c176 g176 l0 l1 l2 l3 l4 l5 l6 l8 l9 l10 l12 l13 (0 : Int32)))
    · refine os_iconst (i := 1) (v := (1 : Int32)) rfl (hL_settles_3.at 38 rfl rfl) ?_
      refine os_goto (off := 4) (tgt := 352) rfl (hL_settles_3.at 39 rfl rfl) ?_
      exact osW.widen (k' := k176 + 45) (n' := n176 + 270) (by omega) (by omega) (osW.sub [0, 1, 2, 3, 4, 5, 6, 7, 8, 9, 10, 11] rfl (sL_settles_352 N k176 n176 hx176 c176 g176 l0 l1 l2 l3 l4 l5 l6 l8 l9 l10 l12 l13 (1 : Int32)))
set_option maxRecDepth 100000 in
set_option maxHeartbeats 4000000 in
theorem sL_settles_325 (N : Nat) (k176 n176 : Nat) (hx176 : k176 + 110 ≤ 2253 ∧ n176 + 660 ≤ 13788) (c176 : Nat × Int32 × Nat × Nat × Nat × Int32 × Int32 × Int32 × Int32 × Int32 × Int32 × Int32 → osM Int32) (g176 : ∀ (l0 : Nat) (l1 : Int32) (l2 : Nat) (l3 : Nat) (l4 : Nat) (l5 : Int32) (l6 : Int32) (l8 : Int32) (l9 : Int32) (l10 : Int32) (l11 : Int32) (l12 : Int32), osW (osFinM (fun r : Int32 => some (.int r)) 2853 17388) yL_settles cL_settles 16 (some .boolean) [] { frames := 9, cells := 2853, slots := 17388, locals := 182 } (k176 + 110) (n176 + 660) 176 [(0, .ref l0), (1, .int l1), (2, .ref l2), (3, .ref l3), (4, .ref l4), (5, .int l5), (6, .int l6), (8, .int l8), (9, .int l9), (10, .int l10), (11, .int l11), (12, .int l12)] [] (c176 (l0, l1, l2, l3, l4, l5, l6, l8, l9, l10, l11, l12))) (l0 : Nat) (l1 : Int32) (l2 : Nat) (l3 : Nat) (l4 : Nat) (l5 : Int32) (l6 : Int32) (l8 : Int32) (l9 : Int32) (l10 : Int32) (l12 : Int32) (l13 : Int32) (k0 : Int32) : osW (osFinM (fun r : Int32 => some (.int r)) 2853 17388) yL_settles cL_settles 16 (some .boolean) [] { frames := 9, cells := 2853, slots := 17388, locals := 182 } (k176 + 45) (n176 + 270) 325 [(0, .ref l0), (1, .int l1), (2, .ref l2), (3, .ref l3), (4, .ref l4), (5, .int l5), (6, .int l6), (8, .int l8), (9, .int l9), (10, .int l10), (12, .int l12), (13, .int l13)] [.int k0] (qL_settles_325 N c176 l0 l1 l2 l3 l4 l5 l6 l8 l9 l10 l12 l13 k0) := by
  unfold qL_settles_325
  refine os_aload_n (i := 3) (q := 3) (v := l3) 3 rfl rfl (hL_settles_3.at 26 rfl rfl) ?_
  refine os_iload (v := l12) 10 rfl (hL_settles_3.at 27 rfl rfl) ?_
  refine os_iaload (hL_settles_3.at 28 rfl rfl) (fun x1 => ?_)
  refine os_iconst (i := (-1)) (v := (-1 : Int32)) rfl (hL_settles_3.at 29 rfl rfl) ?_
  refine os_icmp_eq (off := 7) (tgt := 337) rfl (hL_settles_3.at 30 rfl rfl) ?_ ?_
  · refine os_iconst (i := 0) (v := (0 : Int32)) rfl (hL_settles_3.at 33 rfl rfl) ?_
    exact osW.widen (k' := k176 + 45) (n' := n176 + 270) (by omega) (by omega) (osW.sub [0, 1, 2, 3, 4, 5, 6, 7, 8, 9, 10, 11] rfl (sL_settles_338 N k176 n176 hx176 c176 g176 l0 l1 l2 l3 l4 l5 l6 l8 l9 l10 l12 l13 (0 : Int32) k0))
  · refine os_iconst (i := 1) (v := (1 : Int32)) rfl (hL_settles_3.at 31 rfl rfl) ?_
    refine os_goto (off := 4) (tgt := 338) rfl (hL_settles_3.at 32 rfl rfl) ?_
    exact osW.widen (k' := k176 + 45) (n' := n176 + 270) (by omega) (by omega) (osW.sub [0, 1, 2, 3, 4, 5, 6, 7, 8, 9, 10, 11] rfl (sL_settles_338 N k176 n176 hx176 c176 g176 l0 l1 l2 l3 l4 l5 l6 l8 l9 l10 l12 l13 (1 : Int32) k0))
set_option maxRecDepth 100000 in
set_option maxHeartbeats 4000000 in
theorem sL_settles_320 (N : Nat) (k176 n176 : Nat) (hx176 : k176 + 110 ≤ 2253 ∧ n176 + 660 ≤ 13788) (c176 : Nat × Int32 × Nat × Nat × Nat × Int32 × Int32 × Int32 × Int32 × Int32 × Int32 × Int32 → osM Int32) (g176 : ∀ (l0 : Nat) (l1 : Int32) (l2 : Nat) (l3 : Nat) (l4 : Nat) (l5 : Int32) (l6 : Int32) (l8 : Int32) (l9 : Int32) (l10 : Int32) (l11 : Int32) (l12 : Int32), osW (osFinM (fun r : Int32 => some (.int r)) 2853 17388) yL_settles cL_settles 16 (some .boolean) [] { frames := 9, cells := 2853, slots := 17388, locals := 182 } (k176 + 110) (n176 + 660) 176 [(0, .ref l0), (1, .int l1), (2, .ref l2), (3, .ref l3), (4, .ref l4), (5, .int l5), (6, .int l6), (8, .int l8), (9, .int l9), (10, .int l10), (11, .int l11), (12, .int l12)] [] (c176 (l0, l1, l2, l3, l4, l5, l6, l8, l9, l10, l11, l12))) (l0 : Nat) (l1 : Int32) (l2 : Nat) (l3 : Nat) (l4 : Nat) (l5 : Int32) (l6 : Int32) (l8 : Int32) (l9 : Int32) (l10 : Int32) (l12 : Int32) (l13 : Int32) : osW (osFinM (fun r : Int32 => some (.int r)) 2853 17388) yL_settles cL_settles 16 (some .boolean) [] { frames := 9, cells := 2853, slots := 17388, locals := 182 } (k176 + 45) (n176 + 270) 320 [(0, .ref l0), (1, .int l1), (2, .ref l2), (3, .ref l3), (4, .ref l4), (5, .int l5), (6, .int l6), (8, .int l8), (9, .int l9), (10, .int l10), (12, .int l12), (13, .int l13)] [] (qL_settles_320 N c176 l0 l1 l2 l3 l4 l5 l6 l8 l9 l10 l12 l13) := by
  unfold qL_settles_320
  refine os_iconst (i := 1) (v := (1 : Int32)) rfl (hL_settles_3.at 23 rfl rfl) ?_
  refine os_goto (off := 4) (tgt := 325) rfl (hL_settles_3.at 24 rfl rfl) ?_
  exact osW.widen (k' := k176 + 45) (n' := n176 + 270) (by omega) (by omega) (osW.sub [0, 1, 2, 3, 4, 5, 6, 7, 8, 9, 10, 11] rfl (sL_settles_325 N k176 n176 hx176 c176 g176 l0 l1 l2 l3 l4 l5 l6 l8 l9 l10 l12 l13 (1 : Int32)))
set_option maxRecDepth 100000 in
set_option maxHeartbeats 4000000 in
theorem sL_settles_305 (N : Nat) (k176 n176 : Nat) (hx176 : k176 + 110 ≤ 2253 ∧ n176 + 660 ≤ 13788) (c176 : Nat × Int32 × Nat × Nat × Nat × Int32 × Int32 × Int32 × Int32 × Int32 × Int32 × Int32 → osM Int32) (g176 : ∀ (l0 : Nat) (l1 : Int32) (l2 : Nat) (l3 : Nat) (l4 : Nat) (l5 : Int32) (l6 : Int32) (l8 : Int32) (l9 : Int32) (l10 : Int32) (l11 : Int32) (l12 : Int32), osW (osFinM (fun r : Int32 => some (.int r)) 2853 17388) yL_settles cL_settles 16 (some .boolean) [] { frames := 9, cells := 2853, slots := 17388, locals := 182 } (k176 + 110) (n176 + 660) 176 [(0, .ref l0), (1, .int l1), (2, .ref l2), (3, .ref l3), (4, .ref l4), (5, .int l5), (6, .int l6), (8, .int l8), (9, .int l9), (10, .int l10), (11, .int l11), (12, .int l12)] [] (c176 (l0, l1, l2, l3, l4, l5, l6, l8, l9, l10, l11, l12))) (l0 : Nat) (l1 : Int32) (l2 : Nat) (l3 : Nat) (l4 : Nat) (l5 : Int32) (l6 : Int32) (l8 : Int32) (l9 : Int32) (l10 : Int32) (l12 : Int32) (l13 : Int32) (k0 : Int32) (k1 : Int32) : osW (osFinM (fun r : Int32 => some (.int r)) 2853 17388) yL_settles cL_settles 16 (some .boolean) [] { frames := 9, cells := 2853, slots := 17388, locals := 182 } (k176 + 45) (n176 + 270) 305 [(0, .ref l0), (1, .int l1), (2, .ref l2), (3, .ref l3), (4, .ref l4), (5, .int l5), (6, .int l6), (8, .int l8), (9, .int l9), (10, .int l10), (12, .int l12), (13, .int l13)] [.int k0, .int k1] (qL_settles_305 N c176 l0 l1 l2 l3 l4 l5 l6 l8 l9 l10 l12 l13 k0 k1) := by
  unfold qL_settles_305
  refine os_icmp_ne (off := 91) (tgt := 396) rfl (hL_settles_3.at 16 rfl rfl) ?_ ?_
  · exact osW.widen (k' := k176 + 51) (n' := n176 + 306) (by omega) (by omega) (osW.sub [0, 1, 2, 3, 4, 5, 6, 7, 8, 9, 10, 11] rfl (sL_settles_396 N k176 n176 hx176 c176 g176 l0 l1 l2 l3 l4 l5 l6 l8 l9 l10 l12 l13))
  · refine os_iload (v := l13) 11 rfl (hL_settles_3.at 17 rfl rfl) ?_
    refine os_iconst (i := 1) (v := (1 : Int32)) rfl (hL_settles_3.at 18 rfl rfl) ?_
    refine os_icmp_eq (off := 9) (tgt := 320) rfl (hL_settles_3.at 19 rfl rfl) ?_ ?_
    · exact osW.widen (k' := k176 + 45) (n' := n176 + 270) (by omega) (by omega) (osW.sub [0, 1, 2, 3, 4, 5, 6, 7, 8, 9, 10, 11] rfl (sL_settles_320 N k176 n176 hx176 c176 g176 l0 l1 l2 l3 l4 l5 l6 l8 l9 l10 l12 l13))
    · refine os_iload (v := l13) 11 rfl (hL_settles_3.at 20 rfl rfl) ?_
      refine os_iconst (i := 2) (v := (2 : Int32)) rfl (hL_settles_3.at 21 rfl rfl) ?_
      refine os_icmp_ne (off := 7) (tgt := 324) rfl (hL_settles_3.at 22 rfl rfl) ?_ ?_
      · refine os_iconst (i := 0) (v := (0 : Int32)) rfl (hL_settles_3.at 25 rfl rfl) ?_
        exact osW.widen (k' := k176 + 45) (n' := n176 + 270) (by omega) (by omega) (osW.sub [0, 1, 2, 3, 4, 5, 6, 7, 8, 9, 10, 11] rfl (sL_settles_325 N k176 n176 hx176 c176 g176 l0 l1 l2 l3 l4 l5 l6 l8 l9 l10 l12 l13 (0 : Int32)))
      · exact osW.widen (k' := k176 + 45) (n' := n176 + 270) (by omega) (by omega) (osW.sub [0, 1, 2, 3, 4, 5, 6, 7, 8, 9, 10, 11] rfl (sL_settles_320 N k176 n176 hx176 c176 g176 l0 l1 l2 l3 l4 l5 l6 l8 l9 l10 l12 l13))
set_option maxRecDepth 100000 in
set_option maxHeartbeats 4000000 in
theorem sL_settles_291 (N : Nat) (k176 n176 : Nat) (hx176 : k176 + 110 ≤ 2253 ∧ n176 + 660 ≤ 13788) (c176 : Nat × Int32 × Nat × Nat × Nat × Int32 × Int32 × Int32 × Int32 × Int32 × Int32 × Int32 → osM Int32) (g176 : ∀ (l0 : Nat) (l1 : Int32) (l2 : Nat) (l3 : Nat) (l4 : Nat) (l5 : Int32) (l6 : Int32) (l8 : Int32) (l9 : Int32) (l10 : Int32) (l11 : Int32) (l12 : Int32), osW (osFinM (fun r : Int32 => some (.int r)) 2853 17388) yL_settles cL_settles 16 (some .boolean) [] { frames := 9, cells := 2853, slots := 17388, locals := 182 } (k176 + 110) (n176 + 660) 176 [(0, .ref l0), (1, .int l1), (2, .ref l2), (3, .ref l3), (4, .ref l4), (5, .int l5), (6, .int l6), (8, .int l8), (9, .int l9), (10, .int l10), (11, .int l11), (12, .int l12)] [] (c176 (l0, l1, l2, l3, l4, l5, l6, l8, l9, l10, l11, l12))) (l0 : Nat) (l1 : Int32) (l2 : Nat) (l3 : Nat) (l4 : Nat) (l5 : Int32) (l6 : Int32) (l8 : Int32) (l9 : Int32) (l10 : Int32) (l12 : Int32) (l13 : Int32) (k0 : Int32) : osW (osFinM (fun r : Int32 => some (.int r)) 2853 17388) yL_settles cL_settles 16 (some .boolean) [] { frames := 9, cells := 2853, slots := 17388, locals := 182 } (k176 + 45) (n176 + 270) 291 [(0, .ref l0), (1, .int l1), (2, .ref l2), (3, .ref l3), (4, .ref l4), (5, .int l5), (6, .int l6), (8, .int l8), (9, .int l9), (10, .int l10), (12, .int l12), (13, .int l13)] [.int k0] (qL_settles_291 N c176 l0 l1 l2 l3 l4 l5 l6 l8 l9 l10 l12 l13 k0) := by
  unfold qL_settles_291
  refine os_aload (v := l4) 4 rfl (hL_settles_3.at 8 rfl rfl) ?_
  refine os_iload (v := l12) 10 rfl (hL_settles_3.at 9 rfl rfl) ?_
  refine os_iaload (hL_settles_3.at 10 rfl rfl) (fun x1 => ?_)
  refine os_iconst (i := (-1)) (v := (-1 : Int32)) rfl (hL_settles_3.at 11 rfl rfl) ?_
  refine os_icmp_ne (off := 7) (tgt := 304) rfl (hL_settles_3.at 12 rfl rfl) ?_ ?_
  · refine os_iconst (i := 0) (v := (0 : Int32)) rfl (hL_settles_3.at 15 rfl rfl) ?_
    exact osW.widen (k' := k176 + 45) (n' := n176 + 270) (by omega) (by omega) (osW.sub [0, 1, 2, 3, 4, 5, 6, 7, 8, 9, 10, 11] rfl (sL_settles_305 N k176 n176 hx176 c176 g176 l0 l1 l2 l3 l4 l5 l6 l8 l9 l10 l12 l13 (0 : Int32) k0))
  · refine os_iconst (i := 1) (v := (1 : Int32)) rfl (hL_settles_3.at 13 rfl rfl) ?_
    refine os_goto (off := 4) (tgt := 305) rfl (hL_settles_3.at 14 rfl rfl) ?_
    exact osW.widen (k' := k176 + 45) (n' := n176 + 270) (by omega) (by omega) (osW.sub [0, 1, 2, 3, 4, 5, 6, 7, 8, 9, 10, 11] rfl (sL_settles_305 N k176 n176 hx176 c176 g176 l0 l1 l2 l3 l4 l5 l6 l8 l9 l10 l12 l13 (1 : Int32) k0))
set_option maxRecDepth 100000 in
set_option maxHeartbeats 4000000 in
theorem sL_settles_261 (N : Nat) (k176 n176 : Nat) (hx176 : k176 + 110 ≤ 2253 ∧ n176 + 660 ≤ 13788) (c176 : Nat × Int32 × Nat × Nat × Nat × Int32 × Int32 × Int32 × Int32 × Int32 × Int32 × Int32 → osM Int32) (g176 : ∀ (l0 : Nat) (l1 : Int32) (l2 : Nat) (l3 : Nat) (l4 : Nat) (l5 : Int32) (l6 : Int32) (l8 : Int32) (l9 : Int32) (l10 : Int32) (l11 : Int32) (l12 : Int32), osW (osFinM (fun r : Int32 => some (.int r)) 2853 17388) yL_settles cL_settles 16 (some .boolean) [] { frames := 9, cells := 2853, slots := 17388, locals := 182 } (k176 + 110) (n176 + 660) 176 [(0, .ref l0), (1, .int l1), (2, .ref l2), (3, .ref l3), (4, .ref l4), (5, .int l5), (6, .int l6), (8, .int l8), (9, .int l9), (10, .int l10), (11, .int l11), (12, .int l12)] [] (c176 (l0, l1, l2, l3, l4, l5, l6, l8, l9, l10, l11, l12))) (l0 : Nat) (l1 : Int32) (l2 : Nat) (l3 : Nat) (l4 : Nat) (l5 : Int32) (l6 : Int32) (l8 : Int32) (l10 : Int32) (l11 : Int32) (l12 : Int32) (l13 : Int32) (k0 : Int32) (k1 : Int32) : osW (osFinM (fun r : Int32 => some (.int r)) 2853 17388) yL_settles cL_settles 16 (some .boolean) [] { frames := 9, cells := 2853, slots := 17388, locals := 182 } (k176 + 42) (n176 + 252) 261 [(0, .ref l0), (1, .int l1), (2, .ref l2), (3, .ref l3), (4, .ref l4), (5, .int l5), (6, .int l6), (8, .int l8), (10, .int l10), (11, .int l11), (12, .int l12), (13, .int l13)] [.int k0, .int k1] (qL_settles_261 N c176 l0 l1 l2 l3 l4 l5 l6 l8 l10 l11 l12 l13 k0 k1) := by
  unfold qL_settles_261
  refine os_iadd (hL_settles_2.at 42 rfl rfl) ?_
  refine os_istore (i := 9) (lv' := [(9, .int (k1 + k0)), (0, .ref l0), (1, .int l1), (2, .ref l2), (3, .ref l3), (4, .ref l4), (5, .int l5), (6, .int l6), (8, .int l8), (10, .int l10), (11, .int l11), (12, .int l12), (13, .int l13)]) (Nat.le_of_ble_eq_true rfl) rfl (hL_settles_2.at 43 rfl rfl) ?_
  refine os_iload (v := l10) 9 rfl (hL_settles_2.at 44 rfl rfl) ?_
  refine os_aload_n (i := 0) (q := 0) (v := l0) 1 rfl rfl (hL_settles_2.at 45 rfl rfl) ?_
  refine os_iload (v := l12) 11 rfl (hL_settles_2.at 46 rfl rfl) ?_
  refine os_iconst (i := 1) (v := (1 : Int32)) rfl (hL_settles_2.at 47 rfl rfl) ?_
  refine os_callV (cis := [7]) (b := l0) (As := [.int l12, .int (1 : Int32)]) (st := [.int l10]) (st' := (fun r => .int r :: [.int l10])) sl7_X9_result_X9_result mdX9_result wd1428 wd1429 (osMetT.sure (sX9_result N l0 l12 (1 : Int32))) rfl rfl (fun _ => rfl) (Nat.le_of_ble_eq_true rfl) (Nat.le_of_ble_eq_true rfl) (Nat.le_of_ble_eq_true rfl) rfl (by show _ ≤ 2853; omega) rfl (by show _ ≤ 17388; omega) (hL_settles_2.at 48 rfl rfl) (fun x1 => ?_)
  refine os_iadd (hL_settles_2.at 49 rfl rfl) ?_
  refine os_istore (i := 10) (lv' := [(10, .int (l10 + x1)), (9, .int (k1 + k0)), (0, .ref l0), (1, .int l1), (2, .ref l2), (3, .ref l3), (4, .ref l4), (5, .int l5), (6, .int l6), (8, .int l8), (11, .int l11), (12, .int l12), (13, .int l13)]) (Nat.le_of_ble_eq_true rfl) rfl (hL_settles_3.at 0 rfl rfl) ?_
  refine os_iload (v := l11) 10 rfl (hL_settles_3.at 1 rfl rfl) ?_
  refine os_if_eq (off := 118) (tgt := 396) rfl (hL_settles_3.at 2 rfl rfl) ?_ ?_
  · exact osW.widen (k' := k176 + 51) (n' := n176 + 306) (by omega) (by omega) (osW.sub [2, 3, 4, 5, 6, 7, 8, 9, 1, 0, 11, 12] rfl (sL_settles_396 N k176 n176 hx176 c176 g176 l0 l1 l2 l3 l4 l5 l6 l8 (k1 + k0) (l10 + x1) l12 l13))
  · refine os_iload (v := l13) 12 rfl (hL_settles_3.at 3 rfl rfl) ?_
    refine os_if_ne (off := 7) (tgt := 290) rfl (hL_settles_3.at 4 rfl rfl) ?_ ?_
    · refine os_iconst (i := 0) (v := (0 : Int32)) rfl (hL_settles_3.at 7 rfl rfl) ?_
      exact osW.widen (k' := k176 + 45) (n' := n176 + 270) (by omega) (by omega) (osW.sub [2, 3, 4, 5, 6, 7, 8, 9, 1, 0, 11, 12] rfl (sL_settles_291 N k176 n176 hx176 c176 g176 l0 l1 l2 l3 l4 l5 l6 l8 (k1 + k0) (l10 + x1) l12 l13 (0 : Int32)))
    · refine os_iconst (i := 1) (v := (1 : Int32)) rfl (hL_settles_3.at 5 rfl rfl) ?_
      refine os_goto (off := 4) (tgt := 291) rfl (hL_settles_3.at 6 rfl rfl) ?_
      exact osW.widen (k' := k176 + 45) (n' := n176 + 270) (by omega) (by omega) (osW.sub [2, 3, 4, 5, 6, 7, 8, 9, 1, 0, 11, 12] rfl (sL_settles_291 N k176 n176 hx176 c176 g176 l0 l1 l2 l3 l4 l5 l6 l8 (k1 + k0) (l10 + x1) l12 l13 (1 : Int32)))
set_option maxRecDepth 100000 in
set_option maxHeartbeats 4000000 in
theorem sL_settles_231 (N : Nat) (k176 n176 : Nat) (hx176 : k176 + 110 ≤ 2253 ∧ n176 + 660 ≤ 13788) (k193 n193 : Nat) (hx193 : k193 + 3 ≤ k176 + 39 ∧ n193 + 18 ≤ n176 + 234) (c176 : Nat × Int32 × Nat × Nat × Nat × Int32 × Int32 × Int32 × Int32 × Int32 × Int32 × Int32 → osM Int32) (c193 : Nat × Int32 × Nat × Nat × Nat × Int32 × Int32 × Int32 × Int32 × Int32 × Int32 × Int32 × Int32 → osM Int32) (g176 : ∀ (l0 : Nat) (l1 : Int32) (l2 : Nat) (l3 : Nat) (l4 : Nat) (l5 : Int32) (l6 : Int32) (l8 : Int32) (l9 : Int32) (l10 : Int32) (l11 : Int32) (l12 : Int32), osW (osFinM (fun r : Int32 => some (.int r)) 2853 17388) yL_settles cL_settles 16 (some .boolean) [] { frames := 9, cells := 2853, slots := 17388, locals := 182 } (k176 + 110) (n176 + 660) 176 [(0, .ref l0), (1, .int l1), (2, .ref l2), (3, .ref l3), (4, .ref l4), (5, .int l5), (6, .int l6), (8, .int l8), (9, .int l9), (10, .int l10), (11, .int l11), (12, .int l12)] [] (c176 (l0, l1, l2, l3, l4, l5, l6, l8, l9, l10, l11, l12))) (g193 : ∀ (l0 : Nat) (l1 : Int32) (l2 : Nat) (l3 : Nat) (l4 : Nat) (l5 : Int32) (l6 : Int32) (l8 : Int32) (l9 : Int32) (l10 : Int32) (l11 : Int32) (l12 : Int32) (l13 : Int32), osW (osFinM (fun r : Int32 => some (.int r)) 2853 17388) yL_settles cL_settles 16 (some .boolean) [] { frames := 9, cells := 2853, slots := 17388, locals := 182 } (k193 + 3) (n193 + 18) 193 [(0, .ref l0), (1, .int l1), (2, .ref l2), (3, .ref l3), (4, .ref l4), (5, .int l5), (6, .int l6), (8, .int l8), (9, .int l9), (10, .int l10), (11, .int l11), (12, .int l12), (13, .int l13)] [] (c193 (l0, l1, l2, l3, l4, l5, l6, l8, l9, l10, l11, l12, l13))) (l0 : Nat) (l1 : Int32) (l2 : Nat) (l3 : Nat) (l4 : Nat) (l5 : Int32) (l6 : Int32) (l8 : Int32) (l9 : Int32) (l10 : Int32) (l12 : Int32) (l13 : Int32) (k0 : Int32) : osW (osFinM (fun r : Int32 => some (.int r)) 2853 17388) yL_settles cL_settles 16 (some .boolean) [] { frames := 9, cells := 2853, slots := 17388, locals := 182 } (k193 + 3) (n193 + 18) 231 [(0, .ref l0), (1, .int l1), (2, .ref l2), (3, .ref l3), (4, .ref l4), (5, .int l5), (6, .int l6), (8, .int l8), (9, .int l9), (10, .int l10), (12, .int l12), (13, .int l13)] [.int k0] (qL_settles_231 N c176 c193 l0 l1 l2 l3 l4 l5 l6 l8 l9 l10 l12 l13 k0) := by
  unfold qL_settles_231
  refine os_istore (i := 11) (lv' := [(11, .int k0), (0, .ref l0), (1, .int l1), (2, .ref l2), (3, .ref l3), (4, .ref l4), (5, .int l5), (6, .int l6), (8, .int l8), (9, .int l9), (10, .int l10), (12, .int l12), (13, .int l13)]) (Nat.le_of_ble_eq_true rfl) rfl (hL_settles_2.at 27 rfl rfl) ?_
  refine os_iinc (i := 13) (d := 3) (x := l13) (v := (3 : Int32)) (lv' := [(13, .int (l13 + (3 : Int32))), (11, .int k0), (0, .ref l0), (1, .int l1), (2, .ref l2), (3, .ref l3), (4, .ref l4), (5, .int l5), (6, .int l6), (8, .int l8), (9, .int l9), (10, .int l10), (12, .int l12)]) 12 rfl rfl (Nat.le_of_ble_eq_true rfl) rfl (hL_settles_2.at 28 rfl rfl) ?_
  refine os_goto (off := (-43)) (tgt := 193) rfl (hL_settles_2.at 29 rfl rfl) ?_
  exact osW.widen (k' := k193 + 3) (n' := n193 + 18) (by omega) (by omega) (osW.sub [2, 3, 4, 5, 6, 7, 8, 9, 10, 11, 1, 12, 0] rfl (g193 l0 l1 l2 l3 l4 l5 l6 l8 l9 l10 k0 l12 (l13 + (3 : Int32))))
set_option maxRecDepth 100000 in
set_option maxHeartbeats 4000000 in
theorem sL_settles_230 (N : Nat) (k176 n176 : Nat) (hx176 : k176 + 110 ≤ 2253 ∧ n176 + 660 ≤ 13788) (k193 n193 : Nat) (hx193 : k193 + 3 ≤ k176 + 39 ∧ n193 + 18 ≤ n176 + 234) (c176 : Nat × Int32 × Nat × Nat × Nat × Int32 × Int32 × Int32 × Int32 × Int32 × Int32 × Int32 → osM Int32) (c193 : Nat × Int32 × Nat × Nat × Nat × Int32 × Int32 × Int32 × Int32 × Int32 × Int32 × Int32 × Int32 → osM Int32) (g176 : ∀ (l0 : Nat) (l1 : Int32) (l2 : Nat) (l3 : Nat) (l4 : Nat) (l5 : Int32) (l6 : Int32) (l8 : Int32) (l9 : Int32) (l10 : Int32) (l11 : Int32) (l12 : Int32), osW (osFinM (fun r : Int32 => some (.int r)) 2853 17388) yL_settles cL_settles 16 (some .boolean) [] { frames := 9, cells := 2853, slots := 17388, locals := 182 } (k176 + 110) (n176 + 660) 176 [(0, .ref l0), (1, .int l1), (2, .ref l2), (3, .ref l3), (4, .ref l4), (5, .int l5), (6, .int l6), (8, .int l8), (9, .int l9), (10, .int l10), (11, .int l11), (12, .int l12)] [] (c176 (l0, l1, l2, l3, l4, l5, l6, l8, l9, l10, l11, l12))) (g193 : ∀ (l0 : Nat) (l1 : Int32) (l2 : Nat) (l3 : Nat) (l4 : Nat) (l5 : Int32) (l6 : Int32) (l8 : Int32) (l9 : Int32) (l10 : Int32) (l11 : Int32) (l12 : Int32) (l13 : Int32), osW (osFinM (fun r : Int32 => some (.int r)) 2853 17388) yL_settles cL_settles 16 (some .boolean) [] { frames := 9, cells := 2853, slots := 17388, locals := 182 } (k193 + 3) (n193 + 18) 193 [(0, .ref l0), (1, .int l1), (2, .ref l2), (3, .ref l3), (4, .ref l4), (5, .int l5), (6, .int l6), (8, .int l8), (9, .int l9), (10, .int l10), (11, .int l11), (12, .int l12), (13, .int l13)] [] (c193 (l0, l1, l2, l3, l4, l5, l6, l8, l9, l10, l11, l12, l13))) (l0 : Nat) (l1 : Int32) (l2 : Nat) (l3 : Nat) (l4 : Nat) (l5 : Int32) (l6 : Int32) (l8 : Int32) (l9 : Int32) (l10 : Int32) (l12 : Int32) (l13 : Int32) : osW (osFinM (fun r : Int32 => some (.int r)) 2853 17388) yL_settles cL_settles 16 (some .boolean) [] { frames := 9, cells := 2853, slots := 17388, locals := 182 } (k193 + 3) (n193 + 18) 230 [(0, .ref l0), (1, .int l1), (2, .ref l2), (3, .ref l3), (4, .ref l4), (5, .int l5), (6, .int l6), (8, .int l8), (9, .int l9), (10, .int l10), (12, .int l12), (13, .int l13)] [] (qL_settles_230 N c176 c193 l0 l1 l2 l3 l4 l5 l6 l8 l9 l10 l12 l13) := by
  unfold qL_settles_230
  refine os_iconst (i := 0) (v := (0 : Int32)) rfl (hL_settles_2.at 26 rfl rfl) ?_
  exact osW.widen (k' := k193 + 3) (n' := n193 + 18) (by omega) (by omega) (osW.sub [0, 1, 2, 3, 4, 5, 6, 7, 8, 9, 10, 11] rfl (sL_settles_231 N k176 n176 hx176 k193 n193 hx193 c176 c193 g176 g193 l0 l1 l2 l3 l4 l5 l6 l8 l9 l10 l12 l13 (0 : Int32)))
set_option maxRecDepth 100000 in
set_option maxHeartbeats 4000000 in
theorem tL_settles_193 (N : Nat) (k176 n176 : Nat) (hx176 : k176 + 110 ≤ 2253 ∧ n176 + 660 ≤ 13788) (k193 n193 : Nat) (hx193 : k193 + 3 ≤ k176 + 39 ∧ n193 + 18 ≤ n176 + 234) (c176 : Nat × Int32 × Nat × Nat × Nat × Int32 × Int32 × Int32 × Int32 × Int32 × Int32 × Int32 → osM Int32) (c193 : Nat × Int32 × Nat × Nat × Nat × Int32 × Int32 × Int32 × Int32 × Int32 × Int32 × Int32 × Int32 → osM Int32) (g176 : ∀ (l0 : Nat) (l1 : Int32) (l2 : Nat) (l3 : Nat) (l4 : Nat) (l5 : Int32) (l6 : Int32) (l8 : Int32) (l9 : Int32) (l10 : Int32) (l11 : Int32) (l12 : Int32), osW (osFinM (fun r : Int32 => some (.int r)) 2853 17388) yL_settles cL_settles 16 (some .boolean) [] { frames := 9, cells := 2853, slots := 17388, locals := 182 } (k176 + 110) (n176 + 660) 176 [(0, .ref l0), (1, .int l1), (2, .ref l2), (3, .ref l3), (4, .ref l4), (5, .int l5), (6, .int l6), (8, .int l8), (9, .int l9), (10, .int l10), (11, .int l11), (12, .int l12)] [] (c176 (l0, l1, l2, l3, l4, l5, l6, l8, l9, l10, l11, l12))) (g193 : ∀ (l0 : Nat) (l1 : Int32) (l2 : Nat) (l3 : Nat) (l4 : Nat) (l5 : Int32) (l6 : Int32) (l8 : Int32) (l9 : Int32) (l10 : Int32) (l11 : Int32) (l12 : Int32) (l13 : Int32), osW (osFinM (fun r : Int32 => some (.int r)) 2853 17388) yL_settles cL_settles 16 (some .boolean) [] { frames := 9, cells := 2853, slots := 17388, locals := 182 } (k193 + 3) (n193 + 18) 193 [(0, .ref l0), (1, .int l1), (2, .ref l2), (3, .ref l3), (4, .ref l4), (5, .int l5), (6, .int l6), (8, .int l8), (9, .int l9), (10, .int l10), (11, .int l11), (12, .int l12), (13, .int l13)] [] (c193 (l0, l1, l2, l3, l4, l5, l6, l8, l9, l10, l11, l12, l13))) (l0 : Nat) (l1 : Int32) (l2 : Nat) (l3 : Nat) (l4 : Nat) (l5 : Int32) (l6 : Int32) (l8 : Int32) (l9 : Int32) (l10 : Int32) (l11 : Int32) (l12 : Int32) (l13 : Int32) : osW (osFinM (fun r : Int32 => some (.int r)) 2853 17388) yL_settles cL_settles 16 (some .boolean) [] { frames := 9, cells := 2853, slots := 17388, locals := 182 } (k193) (n193) 193 [(0, .ref l0), (1, .int l1), (2, .ref l2), (3, .ref l3), (4, .ref l4), (5, .int l5), (6, .int l6), (8, .int l8), (9, .int l9), (10, .int l10), (11, .int l11), (12, .int l12), (13, .int l13)] [] (bL_settles_193 N c176 c193 l0 l1 l2 l3 l4 l5 l6 l8 l9 l10 l11 l12 l13) := by
  unfold bL_settles_193
  refine os_iload (v := l13) 12 rfl (hL_settles_2.at 7 rfl rfl) ?_
  refine os_bipush (i := 6) (v := (6 : Int32)) rfl (hL_settles_2.at 8 rfl rfl) ?_
  refine os_icmp_ge (off := 42) (tgt := 239) rfl (hL_settles_2.at 9 rfl rfl) ?_ ?_
  · refine os_aload_n (i := 0) (q := 0) (v := l0) 0 rfl rfl (hL_settles_2.at 30 rfl rfl) ?_
    refine os_iload (v := l12) 11 rfl (hL_settles_2.at 31 rfl rfl) ?_
    refine os_iconst (i := 0) (v := (0 : Int32)) rfl (hL_settles_2.at 32 rfl rfl) ?_
    refine os_callV (cis := [7]) (b := l0) (As := [.int l12, .int (0 : Int32)]) (st := []) (st' := (fun r => .int r :: [])) sl7_X9_result_X9_result mdX9_result wd1428 wd1429 (osMetT.sure (sX9_result N l0 l12 (0 : Int32))) rfl rfl (fun _ => rfl) (Nat.le_of_ble_eq_true rfl) (Nat.le_of_ble_eq_true rfl) (Nat.le_of_ble_eq_true rfl) rfl (by show _ ≤ 2853; omega) rfl (by show _ ≤ 17388; omega) (hL_settles_2.at 33 rfl rfl) (fun x1 => ?_)
    refine os_istore (i := 13) (lv' := [(13, .int x1), (0, .ref l0), (1, .int l1), (2, .ref l2), (3, .ref l3), (4, .ref l4), (5, .int l5), (6, .int l6), (8, .int l8), (9, .int l9), (10, .int l10), (11, .int l11), (12, .int l12)]) (Nat.le_of_ble_eq_true rfl) rfl (hL_settles_2.at 34 rfl rfl) ?_
    refine os_iload (v := l9) 9 rfl (hL_settles_2.at 35 rfl rfl) ?_
    refine os_iload (v := x1) 0 rfl (hL_settles_2.at 36 rfl rfl) ?_
    refine os_iconst (i := 1) (v := (1 : Int32)) rfl (hL_settles_2.at 37 rfl rfl) ?_
    refine os_icmp_ne (off := 7) (tgt := 260) rfl (hL_settles_2.at 38 rfl rfl) ?_ ?_
    · refine os_iconst (i := 0) (v := (0 : Int32)) rfl (hL_settles_2.at 41 rfl rfl) ?_
      exact osW.widen (k' := k176 + 42) (n' := n176 + 252) (by omega) (by omega) (osW.sub [1, 2, 3, 4, 5, 6, 7, 8, 10, 11, 12, 0] rfl (sL_settles_261 N k176 n176 hx176 c176 g176 l0 l1 l2 l3 l4 l5 l6 l8 l10 l11 l12 x1 (0 : Int32) l9))
    · refine os_iconst (i := 1) (v := (1 : Int32)) rfl (hL_settles_2.at 39 rfl rfl) ?_
      refine os_goto (off := 4) (tgt := 261) rfl (hL_settles_2.at 40 rfl rfl) ?_
      exact osW.widen (k' := k176 + 42) (n' := n176 + 252) (by omega) (by omega) (osW.sub [1, 2, 3, 4, 5, 6, 7, 8, 10, 11, 12, 0] rfl (sL_settles_261 N k176 n176 hx176 c176 g176 l0 l1 l2 l3 l4 l5 l6 l8 l10 l11 l12 x1 (1 : Int32) l9))
  · refine os_iload (v := l11) 10 rfl (hL_settles_2.at 10 rfl rfl) ?_
    refine os_if_eq (off := 28) (tgt := 230) rfl (hL_settles_2.at 11 rfl rfl) ?_ ?_
    · exact osW.widen (k' := k193 + 3) (n' := n193 + 18) (by omega) (by omega) (osW.sub [0, 1, 2, 3, 4, 5, 6, 7, 8, 9, 11, 12] rfl (sL_settles_230 N k176 n176 hx176 k193 n193 hx193 c176 c193 g176 g193 l0 l1 l2 l3 l4 l5 l6 l8 l9 l10 l12 l13))
    · refine os_aload_n (i := 0) (q := 0) (v := l0) 0 rfl rfl (hL_settles_2.at 12 rfl rfl) ?_
      refine os_iload (v := l12) 11 rfl (hL_settles_2.at 13 rfl rfl) ?_
      refine os_iload (v := l13) 12 rfl (hL_settles_2.at 14 rfl rfl) ?_
      refine os_callV (cis := [7]) (b := l0) (As := [.int l12, .int l13]) (st := []) (st' := (fun r => .int r :: [])) sl7_X9_result_X9_result mdX9_result wd1428 wd1429 (osMetT.sure (sX9_result N l0 l12 l13)) rfl rfl (fun _ => rfl) (Nat.le_of_ble_eq_true rfl) (Nat.le_of_ble_eq_true rfl) (Nat.le_of_ble_eq_true rfl) rfl (by show _ ≤ 2853; omega) rfl (by show _ ≤ 17388; omega) (hL_settles_2.at 15 rfl rfl) (fun x2 => ?_)
      refine os_aload_n (i := 2) (q := 2) (v := l2) 2 rfl rfl (hL_settles_2.at 16 rfl rfl) ?_
      refine os_bipush (i := 6) (v := (6 : Int32)) rfl (hL_settles_2.at 17 rfl rfl) ?_
      refine os_iload (v := l12) 11 rfl (hL_settles_2.at 18 rfl rfl) ?_
      refine os_imul (hL_settles_2.at 19 rfl rfl) ?_
      refine os_iload (v := l13) 12 rfl (hL_settles_2.at 20 rfl rfl) ?_
      refine os_iadd (hL_settles_2.at 21 rfl rfl) ?_
      refine os_iaload (hL_settles_2.at 22 rfl rfl) (fun x3 => ?_)
      refine os_icmp_ne (off := 7) (tgt := 230) rfl (hL_settles_2.at 23 rfl rfl) ?_ ?_
      · exact osW.widen (k' := k193 + 3) (n' := n193 + 18) (by omega) (by omega) (osW.sub [0, 1, 2, 3, 4, 5, 6, 7, 8, 9, 11, 12] rfl (sL_settles_230 N k176 n176 hx176 k193 n193 hx193 c176 c193 g176 g193 l0 l1 l2 l3 l4 l5 l6 l8 l9 l10 l12 l13))
      · refine os_iconst (i := 1) (v := (1 : Int32)) rfl (hL_settles_2.at 24 rfl rfl) ?_
        refine os_goto (off := 4) (tgt := 231) rfl (hL_settles_2.at 25 rfl rfl) ?_
        exact osW.widen (k' := k193 + 3) (n' := n193 + 18) (by omega) (by omega) (osW.sub [0, 1, 2, 3, 4, 5, 6, 7, 8, 9, 11, 12] rfl (sL_settles_231 N k176 n176 hx176 k193 n193 hx193 c176 c193 g176 g193 l0 l1 l2 l3 l4 l5 l6 l8 l9 l10 l12 l13 (1 : Int32)))
set_option maxRecDepth 100000 in
set_option maxHeartbeats 4000000 in
theorem sL_settles_193 (N : Nat) (k176 n176 : Nat) (hx176 : k176 + 110 ≤ 2253 ∧ n176 + 660 ≤ 13788) (c176 : Nat × Int32 × Nat × Nat × Nat × Int32 × Int32 × Int32 × Int32 × Int32 × Int32 × Int32 → osM Int32) (g176 : ∀ (l0 : Nat) (l1 : Int32) (l2 : Nat) (l3 : Nat) (l4 : Nat) (l5 : Int32) (l6 : Int32) (l8 : Int32) (l9 : Int32) (l10 : Int32) (l11 : Int32) (l12 : Int32), osW (osFinM (fun r : Int32 => some (.int r)) 2853 17388) yL_settles cL_settles 16 (some .boolean) [] { frames := 9, cells := 2853, slots := 17388, locals := 182 } (k176 + 110) (n176 + 660) 176 [(0, .ref l0), (1, .int l1), (2, .ref l2), (3, .ref l3), (4, .ref l4), (5, .int l5), (6, .int l6), (8, .int l8), (9, .int l9), (10, .int l10), (11, .int l11), (12, .int l12)] [] (c176 (l0, l1, l2, l3, l4, l5, l6, l8, l9, l10, l11, l12))) (l0 : Nat) (l1 : Int32) (l2 : Nat) (l3 : Nat) (l4 : Nat) (l5 : Int32) (l6 : Int32) (l8 : Int32) (l9 : Int32) (l10 : Int32) (l11 : Int32) (l12 : Int32) (l13 : Int32) : osW (osFinM (fun r : Int32 => some (.int r)) 2853 17388) yL_settles cL_settles 16 (some .boolean) [] { frames := 9, cells := 2853, slots := 17388, locals := 182 } (k176) (n176) 193 [(0, .ref l0), (1, .int l1), (2, .ref l2), (3, .ref l3), (4, .ref l4), (5, .int l5), (6, .int l6), (8, .int l8), (9, .int l9), (10, .int l10), (11, .int l11), (12, .int l12), (13, .int l13)] [] (qL_settles_193 N c176 (l0, l1, l2, l3, l4, l5, l6, l8, l9, l10, l11, l12, l13)) := by
  refine osW.widen (k' := (k176) + 3 * (13 - 13)) (n' := (n176) + 18 * (13 - 13)) (by omega) (by omega) ?_
  exact osloop_K (lvf := fun p => [(0, .ref p.1), (1, .int p.2.1), (2, .ref p.2.2.1), (3, .ref p.2.2.2.1), (4, .ref p.2.2.2.2.1), (5, .int p.2.2.2.2.2.1), (6, .int p.2.2.2.2.2.2.1), (8, .int p.2.2.2.2.2.2.2.1), (9, .int p.2.2.2.2.2.2.2.2.1), (10, .int p.2.2.2.2.2.2.2.2.2.1), (11, .int p.2.2.2.2.2.2.2.2.2.2.1), (12, .int p.2.2.2.2.2.2.2.2.2.2.2.1), (13, .int p.2.2.2.2.2.2.2.2.2.2.2.2)]) (stf := fun p => []) 13 3 18 (k176) (n176) (fun f hf ih g p => tL_settles_193 N k176 n176 hx176 ((k176) + 3 * (13 - (f + 1))) ((n176) + 18 * (13 - (f + 1))) (by omega) c176 ih g176 (fun l0 l1 l2 l3 l4 l5 l6 l8 l9 l10 l11 l12 l13 => osW.widen (by omega) (by omega) (g (l0, l1, l2, l3, l4, l5, l6, l8, l9, l10, l11, l12, l13))) p.1 p.2.1 p.2.2.1 p.2.2.2.1 p.2.2.2.2.1 p.2.2.2.2.2.1 p.2.2.2.2.2.2.1 p.2.2.2.2.2.2.2.1 p.2.2.2.2.2.2.2.2.1 p.2.2.2.2.2.2.2.2.2.1 p.2.2.2.2.2.2.2.2.2.2.1 p.2.2.2.2.2.2.2.2.2.2.2.1 p.2.2.2.2.2.2.2.2.2.2.2.2) 13 (Nat.le_refl _) (l0, l1, l2, l3, l4, l5, l6, l8, l9, l10, l11, l12, l13)
set_option maxRecDepth 100000 in
set_option maxHeartbeats 4000000 in
theorem tL_settles_176 (N : Nat) (k176 n176 : Nat) (hx176 : k176 + 110 ≤ 2253 ∧ n176 + 660 ≤ 13788) (c176 : Nat × Int32 × Nat × Nat × Nat × Int32 × Int32 × Int32 × Int32 × Int32 × Int32 × Int32 → osM Int32) (g176 : ∀ (l0 : Nat) (l1 : Int32) (l2 : Nat) (l3 : Nat) (l4 : Nat) (l5 : Int32) (l6 : Int32) (l8 : Int32) (l9 : Int32) (l10 : Int32) (l11 : Int32) (l12 : Int32), osW (osFinM (fun r : Int32 => some (.int r)) 2853 17388) yL_settles cL_settles 16 (some .boolean) [] { frames := 9, cells := 2853, slots := 17388, locals := 182 } (k176 + 110) (n176 + 660) 176 [(0, .ref l0), (1, .int l1), (2, .ref l2), (3, .ref l3), (4, .ref l4), (5, .int l5), (6, .int l6), (8, .int l8), (9, .int l9), (10, .int l10), (11, .int l11), (12, .int l12)] [] (c176 (l0, l1, l2, l3, l4, l5, l6, l8, l9, l10, l11, l12))) (l0 : Nat) (l1 : Int32) (l2 : Nat) (l3 : Nat) (l4 : Nat) (l5 : Int32) (l6 : Int32) (l8 : Int32) (l9 : Int32) (l10 : Int32) (l11 : Int32) (l12 : Int32) : osW (osFinM (fun r : Int32 => some (.int r)) 2853 17388) yL_settles cL_settles 16 (some .boolean) [] { frames := 9, cells := 2853, slots := 17388, locals := 182 } (k176) (n176) 176 [(0, .ref l0), (1, .int l1), (2, .ref l2), (3, .ref l3), (4, .ref l4), (5, .int l5), (6, .int l6), (8, .int l8), (9, .int l9), (10, .int l10), (11, .int l11), (12, .int l12)] [] (bL_settles_176 N c176 l0 l1 l2 l3 l4 l5 l6 l8 l9 l10 l11 l12) := by
  unfold bL_settles_176
  refine os_iload (v := l12) 11 rfl (hL_settles_1.at 48 rfl rfl) ?_
  refine os_iload_n (i := 1) (q := 1) (v := l1) 1 rfl rfl (hL_settles_1.at 49 rfl rfl) ?_
  refine os_icmp_ge (off := 414) (tgt := 593) rfl (hL_settles_2.at 0 rfl rfl) ?_ ?_
  · exact osW.widen (k' := 2253) (n' := 13788) (by omega) (by omega) (osW.sub [0, 5, 6, 7, 8, 9, 10] rfl (sL_settles_593 N l0 l5 l6 l8 l9 l10 l11))
  · refine os_iload (v := l11) 10 rfl (hL_settles_2.at 1 rfl rfl) ?_
    refine os_if_eq (off := 409) (tgt := 593) rfl (hL_settles_2.at 2 rfl rfl) ?_ ?_
    · exact osW.widen (k' := 2253) (n' := 13788) (by omega) (by omega) (osW.sub [0, 5, 6, 7, 8, 9, 10] rfl (sL_settles_593 N l0 l5 l6 l8 l9 l10 l11))
    · refine os_iload (v := l12) 11 rfl (hL_settles_2.at 3 rfl rfl) ?_
      refine os_iconst (i := 3) (v := (3 : Int32)) rfl (hL_settles_2.at 4 rfl rfl) ?_
      refine os_guard (fun h1 => ?_)
      refine os_irem h1 (hL_settles_2.at 5 rfl rfl) ?_
      refine os_nameI (fun x2 => ?_)
      refine os_istore (i := 13) (lv' := [(13, .int x2), (0, .ref l0), (1, .int l1), (2, .ref l2), (3, .ref l3), (4, .ref l4), (5, .int l5), (6, .int l6), (8, .int l8), (9, .int l9), (10, .int l10), (11, .int l11), (12, .int l12)]) (Nat.le_of_ble_eq_true rfl) rfl (hL_settles_2.at 6 rfl rfl) ?_
      exact osW.widen (k' := k176) (n' := n176) (by omega) (by omega) (osW.sub [1, 2, 3, 4, 5, 6, 7, 8, 9, 10, 11, 12, 0] rfl (sL_settles_193 N k176 n176 hx176 c176 g176 l0 l1 l2 l3 l4 l5 l6 l8 l9 l10 l11 l12 x2))
set_option maxRecDepth 100000 in
set_option maxHeartbeats 4000000 in
theorem sL_settles_176 (N : Nat) (l0 : Nat) (l1 : Int32) (l2 : Nat) (l3 : Nat) (l4 : Nat) (l5 : Int32) (l6 : Int32) (l8 : Int32) (l9 : Int32) (l10 : Int32) (l11 : Int32) (l12 : Int32) : osW (osFinM (fun r : Int32 => some (.int r)) 2853 17388) yL_settles cL_settles 16 (some .boolean) [] { frames := 9, cells := 2853, slots := 17388, locals := 182 } (823) (5208) 176 [(0, .ref l0), (1, .int l1), (2, .ref l2), (3, .ref l3), (4, .ref l4), (5, .int l5), (6, .int l6), (8, .int l8), (9, .int l9), (10, .int l10), (11, .int l11), (12, .int l12)] [] (qL_settles_176 N (l0, l1, l2, l3, l4, l5, l6, l8, l9, l10, l11, l12)) := by
  refine osW.widen (k' := (823) + 110 * (13 - 13)) (n' := (5208) + 660 * (13 - 13)) (by omega) (by omega) ?_
  exact osloop_K (lvf := fun p => [(0, .ref p.1), (1, .int p.2.1), (2, .ref p.2.2.1), (3, .ref p.2.2.2.1), (4, .ref p.2.2.2.2.1), (5, .int p.2.2.2.2.2.1), (6, .int p.2.2.2.2.2.2.1), (8, .int p.2.2.2.2.2.2.2.1), (9, .int p.2.2.2.2.2.2.2.2.1), (10, .int p.2.2.2.2.2.2.2.2.2.1), (11, .int p.2.2.2.2.2.2.2.2.2.2.1), (12, .int p.2.2.2.2.2.2.2.2.2.2.2)]) (stf := fun p => []) 13 110 660 (823) (5208) (fun f hf ih g p => tL_settles_176 N ((823) + 110 * (13 - (f + 1))) ((5208) + 660 * (13 - (f + 1))) (by omega) ih (fun l0 l1 l2 l3 l4 l5 l6 l8 l9 l10 l11 l12 => osW.widen (by omega) (by omega) (g (l0, l1, l2, l3, l4, l5, l6, l8, l9, l10, l11, l12))) p.1 p.2.1 p.2.2.1 p.2.2.2.1 p.2.2.2.2.1 p.2.2.2.2.2.1 p.2.2.2.2.2.2.1 p.2.2.2.2.2.2.2.1 p.2.2.2.2.2.2.2.2.1 p.2.2.2.2.2.2.2.2.2.1 p.2.2.2.2.2.2.2.2.2.2.1 p.2.2.2.2.2.2.2.2.2.2.2) 13 (Nat.le_refl _) (l0, l1, l2, l3, l4, l5, l6, l8, l9, l10, l11, l12)
set_option maxRecDepth 100000 in
set_option maxHeartbeats 4000000 in
theorem sL_settles_171 (N : Nat) (l0 : Nat) (l1 : Int32) (l2 : Nat) (l3 : Nat) (l4 : Nat) (l5 : Int32) (l6 : Int32) (l8 : Int32) (l9 : Int32) (l10 : Int32) (k0 : Int32) : osW (osFinM (fun r : Int32 => some (.int r)) 2853 17388) yL_settles cL_settles 16 (some .boolean) [] { frames := 9, cells := 2853, slots := 17388, locals := 182 } (823) (5208) 171 [(0, .ref l0), (1, .int l1), (2, .ref l2), (3, .ref l3), (4, .ref l4), (5, .int l5), (6, .int l6), (8, .int l8), (9, .int l9), (10, .int l10)] [.int k0] (qL_settles_171 N l0 l1 l2 l3 l4 l5 l6 l8 l9 l10 k0) := by
  unfold qL_settles_171
  refine os_istore (i := 11) (lv' := [(11, .int k0), (0, .ref l0), (1, .int l1), (2, .ref l2), (3, .ref l3), (4, .ref l4), (5, .int l5), (6, .int l6), (8, .int l8), (9, .int l9), (10, .int l10)]) (Nat.le_of_ble_eq_true rfl) rfl (hL_settles_1.at 45 rfl rfl) ?_
  refine os_iconst (i := 0) (v := (0 : Int32)) rfl (hL_settles_1.at 46 rfl rfl) ?_
  refine os_istore (i := 12) (lv' := [(12, .int (0 : Int32)), (11, .int k0), (0, .ref l0), (1, .int l1), (2, .ref l2), (3, .ref l3), (4, .ref l4), (5, .int l5), (6, .int l6), (8, .int l8), (9, .int l9), (10, .int l10)]) (Nat.le_of_ble_eq_true rfl) rfl (hL_settles_1.at 47 rfl rfl) ?_
  exact osW.widen (k' := 823) (n' := 5208) (by omega) (by omega) (osW.sub [2, 3, 4, 5, 6, 7, 8, 9, 10, 11, 1, 0] rfl (sL_settles_176 N l0 l1 l2 l3 l4 l5 l6 l8 l9 l10 k0 (0 : Int32)))
set_option maxRecDepth 100000 in
set_option maxHeartbeats 4000000 in
theorem tL_settles_83 (N : Nat) (k24 n24 : Nat) (hx24 : k24 + 47 ≤ 614 ∧ n24 + 282 ≤ 3954) (k83 n83 : Nat) (hx83 : k83 + 3 ≤ k24 + 47 ∧ n83 + 18 ≤ n24 + 282) (c24 : Nat × Int32 × Nat × Nat × Nat × Int32 → osM Int32) (c83 : Nat × Int32 × Nat × Nat × Nat × Int32 × Int32 → osM Int32) (g24 : ∀ (l0 : Nat) (l1 : Int32) (l2 : Nat) (l3 : Nat) (l4 : Nat) (l5 : Int32), osW (osFinM (fun r : Int32 => some (.int r)) 2853 17388) yL_settles cL_settles 16 (some .boolean) [] { frames := 9, cells := 2853, slots := 17388, locals := 182 } (k24 + 47) (n24 + 282) 24 [(0, .ref l0), (1, .int l1), (2, .ref l2), (3, .ref l3), (4, .ref l4), (5, .int l5)] [] (c24 (l0, l1, l2, l3, l4, l5))) (g83 : ∀ (l0 : Nat) (l1 : Int32) (l2 : Nat) (l3 : Nat) (l4 : Nat) (l5 : Int32) (l6 : Int32), osW (osFinM (fun r : Int32 => some (.int r)) 2853 17388) yL_settles cL_settles 16 (some .boolean) [] { frames := 9, cells := 2853, slots := 17388, locals := 182 } (k83 + 3) (n83 + 18) 83 [(0, .ref l0), (1, .int l1), (2, .ref l2), (3, .ref l3), (4, .ref l4), (5, .int l5), (6, .int l6)] [] (c83 (l0, l1, l2, l3, l4, l5, l6))) (l0 : Nat) (l1 : Int32) (l2 : Nat) (l3 : Nat) (l4 : Nat) (l5 : Int32) (l6 : Int32) : osW (osFinM (fun r : Int32 => some (.int r)) 2853 17388) yL_settles cL_settles 16 (some .boolean) [] { frames := 9, cells := 2853, slots := 17388, locals := 182 } (k83) (n83) 83 [(0, .ref l0), (1, .int l1), (2, .ref l2), (3, .ref l3), (4, .ref l4), (5, .int l5), (6, .int l6)] [] (bL_settles_83 N c24 c83 l0 l1 l2 l3 l4 l5 l6) := by
  unfold bL_settles_83
  refine os_iload (v := l6) 6 rfl (hL_settles_1.at 0 rfl rfl) ?_
  refine os_bipush (i := 6) (v := (6 : Int32)) rfl (hL_settles_1.at 1 rfl rfl) ?_
  refine os_icmp_ge (off := 27) (tgt := 114) rfl (hL_settles_1.at 2 rfl rfl) ?_ ?_
  · refine os_iinc (i := 5) (d := 1) (x := l5) (v := (1 : Int32)) (lv' := [(5, .int (l5 + (1 : Int32))), (0, .ref l0), (1, .int l1), (2, .ref l2), (3, .ref l3), (4, .ref l4), (6, .int l6)]) 5 rfl rfl (Nat.le_of_ble_eq_true rfl) rfl (hL_settles_1.at 16 rfl rfl) ?_
    refine os_goto (off := (-93)) (tgt := 24) rfl (hL_settles_1.at 17 rfl rfl) ?_
    exact osW.widen (k' := k24 + 47) (n' := n24 + 282) (by omega) (by omega) (osW.sub [1, 2, 3, 4, 5, 0] rfl (g24 l0 l1 l2 l3 l4 (l5 + (1 : Int32))))
  · refine os_aload_n (i := 2) (q := 2) (v := l2) 2 rfl rfl (hL_settles_1.at 3 rfl rfl) ?_
    refine os_bipush (i := 6) (v := (6 : Int32)) rfl (hL_settles_1.at 4 rfl rfl) ?_
    refine os_iload (v := l5) 5 rfl (hL_settles_1.at 5 rfl rfl) ?_
    refine os_imul (hL_settles_1.at 6 rfl rfl) ?_
    refine os_iload (v := l6) 6 rfl (hL_settles_1.at 7 rfl rfl) ?_
    refine os_iadd (hL_settles_1.at 8 rfl rfl) ?_
    refine os_aload_n (i := 0) (q := 0) (v := l0) 0 rfl rfl (hL_settles_1.at 9 rfl rfl) ?_
    refine os_iload (v := l5) 5 rfl (hL_settles_1.at 10 rfl rfl) ?_
    refine os_iload (v := l6) 6 rfl (hL_settles_1.at 11 rfl rfl) ?_
    refine os_callV (cis := [7]) (b := l0) (As := [.int l5, .int l6]) (st := [.int (((6 : Int32) * l5) + l6), .ref l2]) (st' := (fun r => .int r :: [.int (((6 : Int32) * l5) + l6), .ref l2])) sl7_X9_foresee_X9_foresee mdX9_foresee wd1286 wd1287 (osMetT.sure (sX9_foresee N l0 l5 l6)) rfl rfl (fun _ => rfl) (Nat.le_of_ble_eq_true rfl) (Nat.le_of_ble_eq_true rfl) (Nat.le_of_ble_eq_true rfl) rfl (by show _ ≤ 2853; omega) rfl (by show _ ≤ 17388; omega) (hL_settles_1.at 12 rfl rfl) (fun x1 => ?_)
    refine os_iastore (hL_settles_1.at 13 rfl rfl) ?_
    refine os_iinc (i := 6) (d := 3) (x := l6) (v := (3 : Int32)) (lv' := [(6, .int (l6 + (3 : Int32))), (0, .ref l0), (1, .int l1), (2, .ref l2), (3, .ref l3), (4, .ref l4), (5, .int l5)]) 6 rfl rfl (Nat.le_of_ble_eq_true rfl) rfl (hL_settles_1.at 14 rfl rfl) ?_
    refine os_goto (off := (-28)) (tgt := 83) rfl (hL_settles_1.at 15 rfl rfl) ?_
    exact osW.widen (k' := k83 + 3) (n' := n83 + 18) (by omega) (by omega) (osW.sub [1, 2, 3, 4, 5, 6, 0] rfl (g83 l0 l1 l2 l3 l4 l5 (l6 + (3 : Int32))))
set_option maxRecDepth 100000 in
set_option maxHeartbeats 4000000 in
theorem sL_settles_83 (N : Nat) (k24 n24 : Nat) (hx24 : k24 + 47 ≤ 614 ∧ n24 + 282 ≤ 3954) (c24 : Nat × Int32 × Nat × Nat × Nat × Int32 → osM Int32) (g24 : ∀ (l0 : Nat) (l1 : Int32) (l2 : Nat) (l3 : Nat) (l4 : Nat) (l5 : Int32), osW (osFinM (fun r : Int32 => some (.int r)) 2853 17388) yL_settles cL_settles 16 (some .boolean) [] { frames := 9, cells := 2853, slots := 17388, locals := 182 } (k24 + 47) (n24 + 282) 24 [(0, .ref l0), (1, .int l1), (2, .ref l2), (3, .ref l3), (4, .ref l4), (5, .int l5)] [] (c24 (l0, l1, l2, l3, l4, l5))) (l0 : Nat) (l1 : Int32) (l2 : Nat) (l3 : Nat) (l4 : Nat) (l5 : Int32) (l6 : Int32) : osW (osFinM (fun r : Int32 => some (.int r)) 2853 17388) yL_settles cL_settles 16 (some .boolean) [] { frames := 9, cells := 2853, slots := 17388, locals := 182 } (k24 + 8) (n24 + 48) 83 [(0, .ref l0), (1, .int l1), (2, .ref l2), (3, .ref l3), (4, .ref l4), (5, .int l5), (6, .int l6)] [] (qL_settles_83 N c24 (l0, l1, l2, l3, l4, l5, l6)) := by
  refine osW.widen (k' := (k24 + 8) + 3 * (13 - 13)) (n' := (n24 + 48) + 18 * (13 - 13)) (by omega) (by omega) ?_
  exact osloop_K (lvf := fun p => [(0, .ref p.1), (1, .int p.2.1), (2, .ref p.2.2.1), (3, .ref p.2.2.2.1), (4, .ref p.2.2.2.2.1), (5, .int p.2.2.2.2.2.1), (6, .int p.2.2.2.2.2.2)]) (stf := fun p => []) 13 3 18 (k24 + 8) (n24 + 48) (fun f hf ih g p => tL_settles_83 N k24 n24 hx24 ((k24 + 8) + 3 * (13 - (f + 1))) ((n24 + 48) + 18 * (13 - (f + 1))) (by omega) c24 ih g24 (fun l0 l1 l2 l3 l4 l5 l6 => osW.widen (by omega) (by omega) (g (l0, l1, l2, l3, l4, l5, l6))) p.1 p.2.1 p.2.2.1 p.2.2.2.1 p.2.2.2.2.1 p.2.2.2.2.2.1 p.2.2.2.2.2.2) 13 (Nat.le_refl _) (l0, l1, l2, l3, l4, l5, l6)
set_option maxRecDepth 100000 in
set_option maxHeartbeats 4000000 in
theorem sL_settles_76 (N : Nat) (k24 n24 : Nat) (hx24 : k24 + 47 ≤ 614 ∧ n24 + 282 ≤ 3954) (c24 : Nat × Int32 × Nat × Nat × Nat × Int32 → osM Int32) (g24 : ∀ (l0 : Nat) (l1 : Int32) (l2 : Nat) (l3 : Nat) (l4 : Nat) (l5 : Int32), osW (osFinM (fun r : Int32 => some (.int r)) 2853 17388) yL_settles cL_settles 16 (some .boolean) [] { frames := 9, cells := 2853, slots := 17388, locals := 182 } (k24 + 47) (n24 + 282) 24 [(0, .ref l0), (1, .int l1), (2, .ref l2), (3, .ref l3), (4, .ref l4), (5, .int l5)] [] (c24 (l0, l1, l2, l3, l4, l5))) (l0 : Nat) (l1 : Int32) (l2 : Nat) (l3 : Nat) (l4 : Nat) (l5 : Int32) (k0 : Int32) (k1 : Int32) (k2 : Nat) : osW (osFinM (fun r : Int32 => some (.int r)) 2853 17388) yL_settles cL_settles 16 (some .boolean) [] { frames := 9, cells := 2853, slots := 17388, locals := 182 } (k24 + 8) (n24 + 48) 76 [(0, .ref l0), (1, .int l1), (2, .ref l2), (3, .ref l3), (4, .ref l4), (5, .int l5)] [.int k0, .int k1, .ref k2] (qL_settles_76 N c24 l0 l1 l2 l3 l4 l5 k0 k1 k2) := by
  unfold qL_settles_76
  refine os_iastore (hL_settles_0.at 45 rfl rfl) ?_
  refine os_iload (v := l5) 5 rfl (hL_settles_0.at 46 rfl rfl) ?_
  refine os_iconst (i := 3) (v := (3 : Int32)) rfl (hL_settles_0.at 47 rfl rfl) ?_
  refine os_guard (fun h1 => ?_)
  refine os_irem h1 (hL_settles_0.at 48 rfl rfl) ?_
  refine os_nameI (fun x2 => ?_)
  refine os_istore (i := 6) (lv' := [(6, .int x2), (0, .ref l0), (1, .int l1), (2, .ref l2), (3, .ref l3), (4, .ref l4), (5, .int l5)]) (Nat.le_of_ble_eq_true rfl) rfl (hL_settles_0.at 49 rfl rfl) ?_
  exact osW.widen (k' := k24 + 8) (n' := n24 + 48) (by omega) (by omega) (osW.sub [1, 2, 3, 4, 5, 6, 0] rfl (sL_settles_83 N k24 n24 hx24 c24 g24 l0 l1 l2 l3 l4 l5 x2))
set_option maxRecDepth 100000 in
set_option maxHeartbeats 4000000 in
theorem sL_settles_75 (N : Nat) (k24 n24 : Nat) (hx24 : k24 + 47 ≤ 614 ∧ n24 + 282 ≤ 3954) (c24 : Nat × Int32 × Nat × Nat × Nat × Int32 → osM Int32) (g24 : ∀ (l0 : Nat) (l1 : Int32) (l2 : Nat) (l3 : Nat) (l4 : Nat) (l5 : Int32), osW (osFinM (fun r : Int32 => some (.int r)) 2853 17388) yL_settles cL_settles 16 (some .boolean) [] { frames := 9, cells := 2853, slots := 17388, locals := 182 } (k24 + 47) (n24 + 282) 24 [(0, .ref l0), (1, .int l1), (2, .ref l2), (3, .ref l3), (4, .ref l4), (5, .int l5)] [] (c24 (l0, l1, l2, l3, l4, l5))) (l0 : Nat) (l1 : Int32) (l2 : Nat) (l3 : Nat) (l4 : Nat) (l5 : Int32) (k0 : Int32) (k1 : Nat) : osW (osFinM (fun r : Int32 => some (.int r)) 2853 17388) yL_settles cL_settles 16 (some .boolean) [] { frames := 9, cells := 2853, slots := 17388, locals := 182 } (k24 + 5) (n24 + 30) 75 [(0, .ref l0), (1, .int l1), (2, .ref l2), (3, .ref l3), (4, .ref l4), (5, .int l5)] [.int k0, .ref k1] (qL_settles_75 N c24 l0 l1 l2 l3 l4 l5 k0 k1) := by
  unfold qL_settles_75
  refine os_iconst (i := (-1)) (v := (-1 : Int32)) rfl (hL_settles_0.at 44 rfl rfl) ?_
  exact osW.widen (k' := k24 + 8) (n' := n24 + 48) (by omega) (by omega) (osW.sub [0, 1, 2, 3, 4, 5] rfl (sL_settles_76 N k24 n24 hx24 c24 g24 l0 l1 l2 l3 l4 l5 (-1 : Int32) k0 k1))
set_option maxRecDepth 100000 in
set_option maxHeartbeats 4000000 in
theorem tL_settles_24 (N : Nat) (k24 n24 : Nat) (hx24 : k24 + 47 ≤ 614 ∧ n24 + 282 ≤ 3954) (c24 : Nat × Int32 × Nat × Nat × Nat × Int32 → osM Int32) (g24 : ∀ (l0 : Nat) (l1 : Int32) (l2 : Nat) (l3 : Nat) (l4 : Nat) (l5 : Int32), osW (osFinM (fun r : Int32 => some (.int r)) 2853 17388) yL_settles cL_settles 16 (some .boolean) [] { frames := 9, cells := 2853, slots := 17388, locals := 182 } (k24 + 47) (n24 + 282) 24 [(0, .ref l0), (1, .int l1), (2, .ref l2), (3, .ref l3), (4, .ref l4), (5, .int l5)] [] (c24 (l0, l1, l2, l3, l4, l5))) (l0 : Nat) (l1 : Int32) (l2 : Nat) (l3 : Nat) (l4 : Nat) (l5 : Int32) : osW (osFinM (fun r : Int32 => some (.int r)) 2853 17388) yL_settles cL_settles 16 (some .boolean) [] { frames := 9, cells := 2853, slots := 17388, locals := 182 } (k24) (n24) 24 [(0, .ref l0), (1, .int l1), (2, .ref l2), (3, .ref l3), (4, .ref l4), (5, .int l5)] [] (bL_settles_24 N c24 l0 l1 l2 l3 l4 l5) := by
  unfold bL_settles_24
  refine os_iload (v := l5) 5 rfl (hL_settles_0.at 16 rfl rfl) ?_
  refine os_iload_n (i := 1) (q := 1) (v := l1) 1 rfl rfl (hL_settles_0.at 17 rfl rfl) ?_
  refine os_icmp_ge (off := 93) (tgt := 120) rfl (hL_settles_0.at 18 rfl rfl) ?_ ?_
  · refine os_aload_n (i := 0) (q := 0) (v := l0) 0 rfl rfl (hL_settles_1.at 18 rfl rfl) ?_
    refine os_callS (As := [.ref l0]) (st := []) (st' := (fun r => .int r :: [])) mdL_sum wd1381 wd1382 (sL_sum N l0) rfl rfl (fun _ => rfl) (Nat.le_of_ble_eq_true rfl) (Nat.le_of_ble_eq_true rfl) (Nat.le_of_ble_eq_true rfl) rfl (by show _ ≤ 2853; omega) rfl (by show _ ≤ 17388; omega) (hL_settles_1.at 19 rfl rfl) (fun x1 => ?_)
    refine os_istore (i := 5) (lv' := [(5, .int x1), (0, .ref l0), (1, .int l1), (2, .ref l2), (3, .ref l3), (4, .ref l4)]) (Nat.le_of_ble_eq_true rfl) rfl (hL_settles_1.at 20 rfl rfl) ?_
    refine os_aload_n (i := 0) (q := 0) (v := l0) 1 rfl rfl (hL_settles_1.at 21 rfl rfl) ?_
    refine os_callS (As := [.ref l0]) (st := []) (st' := (fun r => .int r :: [])) mdL_units_ wd1388 wd1389 (sL_units_ N l0) rfl rfl (fun _ => rfl) (Nat.le_of_ble_eq_true rfl) (Nat.le_of_ble_eq_true rfl) (Nat.le_of_ble_eq_true rfl) rfl (by show _ ≤ 2853; omega) rfl (by show _ ≤ 17388; omega) (hL_settles_1.at 22 rfl rfl) (fun x2 => ?_)
    refine os_istore (i := 6) (lv' := [(6, .int x2), (5, .int x1), (0, .ref l0), (1, .int l1), (2, .ref l2), (3, .ref l3), (4, .ref l4)]) (Nat.le_of_ble_eq_true rfl) rfl (hL_settles_1.at 23 rfl rfl) ?_
    refine os_aload_n (i := 0) (q := 0) (v := l0) 2 rfl rfl (hL_settles_1.at 24 rfl rfl) ?_
    refine os_callV (cis := [7]) (b := l0) (As := []) (st := []) (st' := (fun r => .int r :: [])) sl7_X9_undoCount_X9_undoCount mdX9_undoCount wd480 wd481 (sX9_undoCount N l0 ) rfl rfl (fun _ => rfl) (Nat.le_of_ble_eq_true rfl) (Nat.le_of_ble_eq_true rfl) (Nat.le_of_ble_eq_true rfl) rfl (by show _ ≤ 2853; omega) rfl (by show _ ≤ 17388; omega) (hL_settles_1.at 25 rfl rfl) (fun x3 => ?_)
    refine os_istore (i := 7) (lv' := [(7, .int x3), (6, .int x2), (5, .int x1), (0, .ref l0), (1, .int l1), (2, .ref l2), (3, .ref l3), (4, .ref l4)]) (Nat.le_of_ble_eq_true rfl) rfl (hL_settles_1.at 26 rfl rfl) ?_
    refine os_aload_n (i := 0) (q := 0) (v := l0) 3 rfl rfl (hL_settles_1.at 27 rfl rfl) ?_
    refine os_callV (cis := [7]) (b := l0) (As := []) (st := []) (st' := (fun r => .int r :: [])) sl7_X9_settle_X9_settle mdX9_settle wd1391 wd1392 (osMetT.sure (sX9_settle N l0 )) rfl rfl (fun _ => rfl) (Nat.le_of_ble_eq_true rfl) (Nat.le_of_ble_eq_true rfl) (Nat.le_of_ble_eq_true rfl) rfl (by show _ ≤ 2853; omega) rfl (by show _ ≤ 17388; omega) (hL_settles_1.at 28 rfl rfl) (fun x4 => ?_)
    refine os_istore (i := 8) (lv' := [(8, .int x4), (7, .int x3), (6, .int x2), (5, .int x1), (0, .ref l0), (1, .int l1), (2, .ref l2), (3, .ref l3), (4, .ref l4)]) (Nat.le_of_ble_eq_true rfl) rfl (hL_settles_1.at 29 rfl rfl) ?_
    refine os_iconst (i := 0) (v := (0 : Int32)) rfl (hL_settles_1.at 30 rfl rfl) ?_
    refine os_istore (i := 9) (lv' := [(9, .int (0 : Int32)), (8, .int x4), (7, .int x3), (6, .int x2), (5, .int x1), (0, .ref l0), (1, .int l1), (2, .ref l2), (3, .ref l3), (4, .ref l4)]) (Nat.le_of_ble_eq_true rfl) rfl (hL_settles_1.at 31 rfl rfl) ?_
    refine os_iconst (i := 0) (v := (0 : Int32)) rfl (hL_settles_1.at 32 rfl rfl) ?_
    refine os_istore (i := 10) (lv' := [(10, .int (0 : Int32)), (9, .int (0 : Int32)), (8, .int x4), (7, .int x3), (6, .int x2), (5, .int x1), (0, .ref l0), (1, .int l1), (2, .ref l2), (3, .ref l3), (4, .ref l4)]) (Nat.le_of_ble_eq_true rfl) rfl (hL_settles_1.at 33 rfl rfl) ?_
    refine os_aload_n (i := 0) (q := 0) (v := l0) 6 rfl rfl (hL_settles_1.at 34 rfl rfl) ?_
    refine os_callV (cis := [7]) (b := l0) (As := []) (st := []) (st' := (fun r => .int r :: [])) sl7_X9_undoCount_X9_undoCount mdX9_undoCount wd480 wd481 (sX9_undoCount N l0 ) rfl rfl (fun _ => rfl) (Nat.le_of_ble_eq_true rfl) (Nat.le_of_ble_eq_true rfl) (Nat.le_of_ble_eq_true rfl) rfl (by show _ ≤ 2853; omega) rfl (by show _ ≤ 17388; omega) (hL_settles_1.at 35 rfl rfl) (fun x5 => ?_)
    refine os_bipush (i := 6) (v := (6 : Int32)) rfl (hL_settles_1.at 36 rfl rfl) ?_
    refine os_iload (v := x3) 3 rfl (hL_settles_1.at 37 rfl rfl) ?_
    refine os_iconst (i := 1) (v := (1 : Int32)) rfl (hL_settles_1.at 38 rfl rfl) ?_
    refine os_iadd (hL_settles_1.at 39 rfl rfl) ?_
    refine os_min wd1427 wd655 wd68 wmin (Nat.le_of_ble_eq_true rfl) (Nat.le_of_ble_eq_true rfl) (Nat.le_of_ble_eq_true rfl) (by show _ ≤ 2853; omega) (by show _ ≤ 17388; omega) (hL_settles_1.at 40 rfl rfl) ?_
    refine os_icmp_ne (off := 7) (tgt := 170) rfl (hL_settles_1.at 41 rfl rfl) ?_ ?_
    · refine os_iconst (i := 0) (v := (0 : Int32)) rfl (hL_settles_1.at 44 rfl rfl) ?_
      exact osW.widen (k' := 823) (n' := 5208) (by omega) (by omega) (osW.sub [6, 7, 8, 9, 10, 5, 4, 2, 1, 0] rfl (sL_settles_171 N l0 l1 l2 l3 l4 x1 x2 x4 (0 : Int32) (0 : Int32) (0 : Int32)))
    · refine os_iconst (i := 1) (v := (1 : Int32)) rfl (hL_settles_1.at 42 rfl rfl) ?_
      refine os_goto (off := 4) (tgt := 171) rfl (hL_settles_1.at 43 rfl rfl) ?_
      exact osW.widen (k' := 823) (n' := 5208) (by omega) (by omega) (osW.sub [6, 7, 8, 9, 10, 5, 4, 2, 1, 0] rfl (sL_settles_171 N l0 l1 l2 l3 l4 x1 x2 x4 (0 : Int32) (0 : Int32) (1 : Int32)))
  · refine os_aload (v := l4) 4 rfl (hL_settles_0.at 19 rfl rfl) ?_
    refine os_iload (v := l5) 5 rfl (hL_settles_0.at 20 rfl rfl) ?_
    refine os_aload_n (i := 0) (q := 0) (v := l0) 0 rfl rfl (hL_settles_0.at 21 rfl rfl) ?_
    refine os_iload (v := l5) 5 rfl (hL_settles_0.at 22 rfl rfl) ?_
    refine os_iconst (i := 4) (v := (4 : Int32)) rfl (hL_settles_0.at 23 rfl rfl) ?_
    refine os_callV (cis := [7]) (b := l0) (As := [.int l5, .int (4 : Int32)]) (st := [.int l5, .ref l4]) (st' := (fun r => .int r :: [.int l5, .ref l4])) sl7_X9_area_X9_area mdX9_area wd1052 wd1053 (osMetT.sure (sX9_area N l0 l5 (4 : Int32))) rfl rfl (fun _ => rfl) (Nat.le_of_ble_eq_true rfl) (Nat.le_of_ble_eq_true rfl) (Nat.le_of_ble_eq_true rfl) rfl (by show _ ≤ 2853; omega) rfl (by show _ ≤ 17388; omega) (hL_settles_0.at 24 rfl rfl) (fun x6 => ?_)
    refine os_iastore (hL_settles_0.at 25 rfl rfl) ?_
    refine os_aload_n (i := 3) (q := 3) (v := l3) 3 rfl rfl (hL_settles_0.at 26 rfl rfl) ?_
    refine os_iload (v := l5) 5 rfl (hL_settles_0.at 27 rfl rfl) ?_
    refine os_aload (v := l4) 4 rfl (hL_settles_0.at 28 rfl rfl) ?_
    refine os_iload (v := l5) 5 rfl (hL_settles_0.at 29 rfl rfl) ?_
    refine os_iaload (hL_settles_0.at 30 rfl rfl) (fun x7 => ?_)
    refine os_iconst (i := (-1)) (v := (-1 : Int32)) rfl (hL_settles_0.at 31 rfl rfl) ?_
    refine os_icmp_eq (off := 24) (tgt := 75) rfl (hL_settles_0.at 32 rfl rfl) ?_ ?_
    · exact osW.widen (k' := k24 + 5) (n' := n24 + 30) (by omega) (by omega) (osW.sub [0, 1, 2, 3, 4, 5] rfl (sL_settles_75 N k24 n24 hx24 c24 g24 l0 l1 l2 l3 l4 l5 l5 l3))
    · refine os_aload_n (i := 0) (q := 0) (v := l0) 0 rfl rfl (hL_settles_0.at 33 rfl rfl) ?_
      refine os_iload (v := l5) 5 rfl (hL_settles_0.at 34 rfl rfl) ?_
      refine os_iconst (i := 0) (v := (0 : Int32)) rfl (hL_settles_0.at 35 rfl rfl) ?_
      refine os_callV (cis := [7]) (b := l0) (As := [.int l5, .int (0 : Int32)]) (st := [.int l5, .ref l3]) (st' := (fun r => .int r :: [.int l5, .ref l3])) sl7_X9_order_X9_order mdX9_order wd1271 wd1272 (osMetT.sure (sX9_order N l0 l5 (0 : Int32))) rfl rfl (fun _ => rfl) (Nat.le_of_ble_eq_true rfl) (Nat.le_of_ble_eq_true rfl) (Nat.le_of_ble_eq_true rfl) rfl (by show _ ≤ 2853; omega) rfl (by show _ ≤ 17388; omega) (hL_settles_0.at 36 rfl rfl) (fun x8 => ?_)
      refine os_iconst (i := 1) (v := (1 : Int32)) rfl (hL_settles_0.at 37 rfl rfl) ?_
      refine os_icmp_ne (off := 13) (tgt := 75) rfl (hL_settles_0.at 38 rfl rfl) ?_ ?_
      · exact osW.widen (k' := k24 + 5) (n' := n24 + 30) (by omega) (by omega) (osW.sub [0, 1, 2, 3, 4, 5] rfl (sL_settles_75 N k24 n24 hx24 c24 g24 l0 l1 l2 l3 l4 l5 l5 l3))
      · refine os_aload_n (i := 0) (q := 0) (v := l0) 0 rfl rfl (hL_settles_0.at 39 rfl rfl) ?_
        refine os_iload (v := l5) 5 rfl (hL_settles_0.at 40 rfl rfl) ?_
        refine os_iconst (i := 1) (v := (1 : Int32)) rfl (hL_settles_0.at 41 rfl rfl) ?_
        refine os_callV (cis := [7]) (b := l0) (As := [.int l5, .int (1 : Int32)]) (st := [.int l5, .ref l3]) (st' := (fun r => .int r :: [.int l5, .ref l3])) sl7_X9_order_X9_order mdX9_order wd1271 wd1272 (osMetT.sure (sX9_order N l0 l5 (1 : Int32))) rfl rfl (fun _ => rfl) (Nat.le_of_ble_eq_true rfl) (Nat.le_of_ble_eq_true rfl) (Nat.le_of_ble_eq_true rfl) rfl (by show _ ≤ 2853; omega) rfl (by show _ ≤ 17388; omega) (hL_settles_0.at 42 rfl rfl) (fun x9 => ?_)
        refine os_goto (off := 4) (tgt := 76) rfl (hL_settles_0.at 43 rfl rfl) ?_
        exact osW.widen (k' := k24 + 8) (n' := n24 + 48) (by omega) (by omega) (osW.sub [0, 1, 2, 3, 4, 5] rfl (sL_settles_76 N k24 n24 hx24 c24 g24 l0 l1 l2 l3 l4 l5 x9 l5 l3))
set_option maxRecDepth 100000 in
set_option maxHeartbeats 4000000 in
theorem sL_settles_24 (N : Nat) (l0 : Nat) (l1 : Int32) (l2 : Nat) (l3 : Nat) (l4 : Nat) (l5 : Int32) : osW (osFinM (fun r : Int32 => some (.int r)) 2853 17388) yL_settles cL_settles 16 (some .boolean) [] { frames := 9, cells := 2853, slots := 17388, locals := 182 } (3) (288) 24 [(0, .ref l0), (1, .int l1), (2, .ref l2), (3, .ref l3), (4, .ref l4), (5, .int l5)] [] (qL_settles_24 N (l0, l1, l2, l3, l4, l5)) := by
  refine osW.widen (k' := (3) + 47 * (13 - 13)) (n' := (288) + 282 * (13 - 13)) (by omega) (by omega) ?_
  exact osloop_K (lvf := fun p => [(0, .ref p.1), (1, .int p.2.1), (2, .ref p.2.2.1), (3, .ref p.2.2.2.1), (4, .ref p.2.2.2.2.1), (5, .int p.2.2.2.2.2)]) (stf := fun p => []) 13 47 282 (3) (288) (fun f hf ih g p => tL_settles_24 N ((3) + 47 * (13 - (f + 1))) ((288) + 282 * (13 - (f + 1))) (by omega) ih (fun l0 l1 l2 l3 l4 l5 => osW.widen (by omega) (by omega) (g (l0, l1, l2, l3, l4, l5))) p.1 p.2.1 p.2.2.1 p.2.2.2.1 p.2.2.2.2.1 p.2.2.2.2.2) 13 (Nat.le_refl _) (l0, l1, l2, l3, l4, l5)
set_option maxRecDepth 100000 in
set_option maxHeartbeats 4000000 in
theorem sL_settles (N : Nat) (l0 : Nat) : osMet yL_settles cL_settles 16 (some .boolean) 9 182 2853 17388 (fun r : Int32 => some (.int r)) [.ref l0] (qL_settles N l0) := by
  refine osMet.of plL (Nat.le_of_ble_eq_true rfl) (osW.rw (lv2 := [(0, .ref l0)]) ?_ rfl rfl rfl)
  unfold qL_settles
  refine os_aload_n (i := 0) (q := 0) (v := l0) 0 rfl rfl (hL_settles_0.at 0 rfl rfl) ?_
  refine os_callV (cis := [7]) (b := l0) (As := []) (st := []) (st' := (fun r => .int r :: [])) sl7_X9_areas_X9_areas mdX9_areas wd472 wd473 (sX9_areas N l0 ) rfl rfl (fun _ => rfl) (Nat.le_of_ble_eq_true rfl) (Nat.le_of_ble_eq_true rfl) (Nat.le_of_ble_eq_true rfl) rfl (by show _ ≤ 2853; omega) rfl (by show _ ≤ 17388; omega) (hL_settles_0.at 1 rfl rfl) (fun x1 => ?_)
  refine os_istore_n (i := 1) (q := 1) rfl (lv' := [(1, .int x1), (0, .ref l0)]) (Nat.le_of_ble_eq_true rfl) rfl (hL_settles_0.at 2 rfl rfl) ?_
  refine os_bipush (i := 6) (v := (6 : Int32)) rfl (hL_settles_0.at 3 rfl rfl) ?_
  refine os_iload_n (i := 1) (q := 1) (v := x1) 0 rfl rfl (hL_settles_0.at 4 rfl rfl) ?_
  refine os_imul (hL_settles_0.at 5 rfl rfl) ?_
  refine os_newI (B9 := 96) wd248 (by show _ ≤ 2853; omega) (by show _ ≤ 17388; omega) (hL_settles_0.at 6 rfl rfl) (fun x2 => ?_)
  refine os_astore_n (i := 2) (q := 2) rfl (lv' := [(2, .ref x2), (1, .int x1), (0, .ref l0)]) (Nat.le_of_ble_eq_true rfl) rfl (hL_settles_0.at 7 rfl rfl) ?_
  refine os_iload_n (i := 1) (q := 1) (v := x1) 1 rfl rfl (hL_settles_0.at 8 rfl rfl) ?_
  refine os_newI (B9 := 96) wd248 (by show _ ≤ 2853; omega) (by show _ ≤ 17388; omega) (hL_settles_0.at 9 rfl rfl) (fun x3 => ?_)
  refine os_astore_n (i := 3) (q := 3) rfl (lv' := [(3, .ref x3), (2, .ref x2), (1, .int x1), (0, .ref l0)]) (Nat.le_of_ble_eq_true rfl) rfl (hL_settles_0.at 10 rfl rfl) ?_
  refine os_iload_n (i := 1) (q := 1) (v := x1) 2 rfl rfl (hL_settles_0.at 11 rfl rfl) ?_
  refine os_newI (B9 := 96) wd248 (by show _ ≤ 2853; omega) (by show _ ≤ 17388; omega) (hL_settles_0.at 12 rfl rfl) (fun x4 => ?_)
  refine os_astore (i := 4) (lv' := [(4, .ref x4), (3, .ref x3), (2, .ref x2), (1, .int x1), (0, .ref l0)]) (Nat.le_of_ble_eq_true rfl) rfl (hL_settles_0.at 13 rfl rfl) ?_
  refine os_iconst (i := 0) (v := (0 : Int32)) rfl (hL_settles_0.at 14 rfl rfl) ?_
  refine os_istore (i := 5) (lv' := [(5, .int (0 : Int32)), (4, .ref x4), (3, .ref x3), (2, .ref x2), (1, .int x1), (0, .ref l0)]) (Nat.le_of_ble_eq_true rfl) rfl (hL_settles_0.at 15 rfl rfl) ?_
  exact osW.widen (k' := 3) (n' := 288) (by omega) (by omega) (osW.sub [5, 4, 3, 2, 1, 0] rfl (sL_settles_24 N l0 x1 x2 x3 x4 (0 : Int32)))
-- L_retreats
def qL_retreats_371 (N : Nat) (k0 : Int32) : osM Int32 := osretZ k0
def qL_retreats_370 (N : Nat) : osM Int32 := qL_retreats_371 N (0 : Int32)
def qL_retreats_309 (N : Nat) (c219 : Nat × Int32 × Nat × Int32 × Int32 × Int32 → osM Int32) (l0 : Nat) (l2 : Int32) (l3 : Nat) (l4 : Int32) (l6 : Int32) (k0 : Int32) (k1 : Int32) : osM Int32 := c219 (l0, l2, l3, l4, (k1 + k0), (l6 + (1 : Int32)))
def qL_retreats_308 (N : Nat) (c219 : Nat × Int32 × Nat × Int32 × Int32 × Int32 → osM Int32) (l0 : Nat) (l2 : Int32) (l3 : Nat) (l4 : Int32) (l6 : Int32) (k0 : Int32) : osM Int32 := qL_retreats_309 N c219 l0 l2 l3 l4 l6 (0 : Int32) k0
def qL_retreats_277 (N : Nat) (c219 : Nat × Int32 × Nat × Int32 × Int32 × Int32 → osM Int32) (c243 : Nat × Int32 × Nat × Int32 × Int32 × Int32 × Int32 × Int32 → osM Int32) (l0 : Nat) (l2 : Int32) (l3 : Nat) (l4 : Int32) (l5 : Int32) (l6 : Int32) (l8 : Int32) (k0 : Int32) : osM Int32 := c243 (l0, l2, l3, l4, l5, l6, k0, (l8 + (1 : Int32)))
def qL_retreats_276 (N : Nat) (c219 : Nat × Int32 × Nat × Int32 × Int32 × Int32 → osM Int32) (c243 : Nat × Int32 × Nat × Int32 × Int32 × Int32 × Int32 × Int32 → osM Int32) (l0 : Nat) (l2 : Int32) (l3 : Nat) (l4 : Int32) (l5 : Int32) (l6 : Int32) (l8 : Int32) : osM Int32 := qL_retreats_277 N c219 c243 l0 l2 l3 l4 l5 l6 l8 (0 : Int32)
def qL_retreats_272 (N : Nat) (c219 : Nat × Int32 × Nat × Int32 × Int32 × Int32 → osM Int32) (c243 : Nat × Int32 × Nat × Int32 × Int32 × Int32 × Int32 × Int32 → osM Int32) (l0 : Nat) (l2 : Int32) (l3 : Nat) (l4 : Int32) (l5 : Int32) (l6 : Int32) (l8 : Int32) : osM Int32 := qL_retreats_277 N c219 c243 l0 l2 l3 l4 l5 l6 l8 (1 : Int32)
def bL_retreats_243 (N : Nat) (c219 : Nat × Int32 × Nat × Int32 × Int32 × Int32 → osM Int32) (c243 : Nat × Int32 × Nat × Int32 × Int32 × Int32 × Int32 × Int32 → osM Int32) (l0 : Nat) (l2 : Int32) (l3 : Nat) (l4 : Int32) (l5 : Int32) (l6 : Int32) (l7 : Int32) (l8 : Int32) : osM Int32 := osite (l2 ≤ l8) (osbind (osrecv [7] l0 (osRV (qX9_area N l0 l6 (6 : Int32)))) fun x1 => osite (x1 = (-1 : Int32)) (qL_retreats_308 N c219 l0 l2 l3 l4 l6 l5) (osite (l7 = 0) (qL_retreats_309 N c219 l0 l2 l3 l4 l6 (1 : Int32) l5) (qL_retreats_308 N c219 l0 l2 l3 l4 l6 l5))) (osite (l7 = 0) (qL_retreats_276 N c219 c243 l0 l2 l3 l4 l5 l6 l8) (osite (l6 = l8) (qL_retreats_272 N c219 c243 l0 l2 l3 l4 l5 l6 l8) (osbind (osaI 0 l3 l6) fun x2 => osbind (osaI 0 l3 l8) fun x3 => osite (x2 = x3) (qL_retreats_276 N c219 c243 l0 l2 l3 l4 l5 l6 l8) (qL_retreats_272 N c219 c243 l0 l2 l3 l4 l5 l6 l8))))
def qL_retreats_243 (N : Nat) (c219 : Nat × Int32 × Nat × Int32 × Int32 × Int32 → osM Int32) : Nat × Int32 × Nat × Int32 × Int32 × Int32 × Int32 × Int32 → osM Int32 := osloop (fun ih p => bL_retreats_243 N c219 ih p.1 p.2.1 p.2.2.1 p.2.2.2.1 p.2.2.2.2.1 p.2.2.2.2.2.1 p.2.2.2.2.2.2.1 p.2.2.2.2.2.2.2) 13
def qL_retreats_238 (N : Nat) (c219 : Nat × Int32 × Nat × Int32 × Int32 × Int32 → osM Int32) (l0 : Nat) (l2 : Int32) (l3 : Nat) (l4 : Int32) (l5 : Int32) (l6 : Int32) (k0 : Int32) : osM Int32 := qL_retreats_243 N c219 (l0, l2, l3, l4, l5, l6, k0, (0 : Int32))
def bL_retreats_219 (N : Nat) (c219 : Nat × Int32 × Nat × Int32 × Int32 × Int32 → osM Int32) (l0 : Nat) (l2 : Int32) (l3 : Nat) (l4 : Int32) (l5 : Int32) (l6 : Int32) : osM Int32 := osite (l2 ≤ l6) (osbind (qL_units_ N l0) fun x1 => osbind (qL_aside N l0) fun x2 => osite (l4 = 0) (qL_retreats_370 N ) (osbind (osrecv [7] l0 (osRV (qX9_endRetreats N l0))) fun x3 => osite (x3 = l5) (osbind (qL_aside N l0) fun x4 => osite (x4 = 0) (osbind (qL_units_ N l0) fun x5 => osite (x5 = ((x1 + x2) - l5)) (qL_retreats_371 N (1 : Int32)) (qL_retreats_370 N )) (qL_retreats_370 N )) (qL_retreats_370 N ))) (osbind (osaI 0 l3 l6) fun x6 => osite (x6 = (-1 : Int32)) (qL_retreats_238 N c219 l0 l2 l3 l4 l5 l6 (0 : Int32)) (qL_retreats_238 N c219 l0 l2 l3 l4 l5 l6 (1 : Int32)))
def qL_retreats_219 (N : Nat) : Nat × Int32 × Nat × Int32 × Int32 × Int32 → osM Int32 := osloop (fun ih p => bL_retreats_219 N ih p.1 p.2.1 p.2.2.1 p.2.2.2.1 p.2.2.2.2.1 p.2.2.2.2.2) 13
def qL_retreats_213 (N : Nat) (l0 : Nat) (l2 : Int32) (l3 : Nat) (l4 : Int32) : osM Int32 := qL_retreats_219 N (l0, l2, l3, l4, (0 : Int32), (0 : Int32))
def qL_retreats_207 (N : Nat) (c15 : Nat × Nat × Int32 × Nat × Int32 × Int32 → osM Int32) (l0 : Nat) (l1 : Nat) (l2 : Int32) (l3 : Nat) (l4 : Int32) (l5 : Int32) : osM Int32 := c15 (l0, l1, l2, l3, l4, (l5 + (1 : Int32)))
def qL_retreats_206 (N : Nat) (c15 : Nat × Nat × Int32 × Nat × Int32 × Int32 → osM Int32) (l0 : Nat) (l1 : Nat) (l2 : Int32) (l3 : Nat) (l4 : Int32) (l5 : Int32) (k0 : Int32) (k1 : Int32) (k2 : Nat) : osM Int32 := osbind (ossI 0 k2 k1 k0) fun _ => qL_retreats_207 N c15 l0 l1 l2 l3 l4 l5
def qL_retreats_190 (N : Nat) (c15 : Nat × Nat × Int32 × Nat × Int32 × Int32 → osM Int32) (l0 : Nat) (l1 : Nat) (l2 : Int32) (l3 : Nat) (l5 : Int32) (l6 : Int32) (l7 : Int32) (k0 : Int32) : osM Int32 := osite (l7 = 0) (qL_retreats_206 N c15 l0 l1 l2 l3 k0 l5 (-1 : Int32) l5 l3) (qL_retreats_206 N c15 l0 l1 l2 l3 k0 l5 l6 l5 l3)
def qL_retreats_189 (N : Nat) (c15 : Nat × Nat × Int32 × Nat × Int32 × Int32 → osM Int32) (l0 : Nat) (l1 : Nat) (l2 : Int32) (l3 : Nat) (l5 : Int32) (l6 : Int32) (l7 : Int32) : osM Int32 := qL_retreats_190 N c15 l0 l1 l2 l3 l5 l6 l7 (0 : Int32)
def qL_retreats_180 (N : Nat) (c15 : Nat × Nat × Int32 × Nat × Int32 × Int32 → osM Int32) (l0 : Nat) (l1 : Nat) (l2 : Int32) (l3 : Nat) (l5 : Int32) (l6 : Int32) (l7 : Int32) (k0 : Int32) : osM Int32 := osite (k0 = l7) (qL_retreats_190 N c15 l0 l1 l2 l3 l5 l6 l7 (1 : Int32)) (qL_retreats_189 N c15 l0 l1 l2 l3 l5 l6 l7)
def qL_retreats_122 (N : Nat) (c15 : Nat × Nat × Int32 × Nat × Int32 × Int32 → osM Int32) (l0 : Nat) (l1 : Nat) (l2 : Int32) (l3 : Nat) (l5 : Int32) (l6 : Int32) (l7 : Int32) (k0 : Int32) : osM Int32 := osite (k0 = 0) (qL_retreats_189 N c15 l0 l1 l2 l3 l5 l6 l7) (osbind (osnew (.inr (9, [.null, .int 0, .int 0, .int 0]))) fun x1 => osbind (qJ4_init_da8c8 N x1) fun _ => osbind (osrecv [9] x1 (qJ4_append_cf468 N x1 ((((97 : Int32) + l5).toUInt32 % 65536).toInt32))) fun x2 => osbind (ostext 11) fun x3 => osbind (osrecv [9] x2 (qJ4_append_15ec4 N x2 x3)) fun x4 => osbind (osrecv [9] x4 (qJ4_append_cf468 N x4 ((((97 : Int32) + l6).toUInt32 % 65536).toInt32))) fun x5 => osbind (ostext 4) fun x6 => osbind (osrecv [9] x5 (qJ4_append_15ec4 N x5 x6)) fun x7 => osbind (osrecv [9] x7 (qJ4_toString_0e30d N x7)) fun x8 => osbind (qL_tell N l0 x8) fun x9 => osite (x9 = (1 : Int32)) (qL_retreats_180 N c15 l0 l1 l2 l3 l5 l6 l7 (1 : Int32)) (qL_retreats_180 N c15 l0 l1 l2 l3 l5 l6 l7 (0 : Int32)))
def qL_retreats_117 (N : Nat) (c15 : Nat × Nat × Int32 × Nat × Int32 × Int32 → osM Int32) (l0 : Nat) (l1 : Nat) (l2 : Int32) (l3 : Nat) (l5 : Int32) (l6 : Int32) (l7 : Int32) : osM Int32 := qL_retreats_122 N c15 l0 l1 l2 l3 l5 l6 l7 (1 : Int32)
def qL_retreats_121 (N : Nat) (c15 : Nat × Nat × Int32 × Nat × Int32 × Int32 → osM Int32) (l0 : Nat) (l1 : Nat) (l2 : Int32) (l3 : Nat) (l5 : Int32) (l6 : Int32) (l7 : Int32) : osM Int32 := qL_retreats_122 N c15 l0 l1 l2 l3 l5 l6 l7 (0 : Int32)
def qL_retreats_111 (N : Nat) (c15 : Nat × Nat × Int32 × Nat × Int32 × Int32 → osM Int32) (l0 : Nat) (l1 : Nat) (l2 : Int32) (l3 : Nat) (l5 : Int32) (l6 : Int32) (l7 : Int32) (k0 : Int32) (k1 : Int32) (k2 : Int32) (k3 : Nat) : osM Int32 := osbind (osrecv [7] k3 (osRV (qX9_passes N k3 k2 k1 k0))) fun x1 => osite (x1 = 0) (qL_retreats_121 N c15 l0 l1 l2 l3 l5 l6 l7) (qL_retreats_117 N c15 l0 l1 l2 l3 l5 l6 l7)
def bL_retreats_15 (N : Nat) (c15 : Nat × Nat × Int32 × Nat × Int32 × Int32 → osM Int32) (l0 : Nat) (l1 : Nat) (l2 : Int32) (l3 : Nat) (l4 : Int32) (l5 : Int32) : osM Int32 := osite (l2 ≤ l5) (qL_retreats_213 N l0 l2 l3 l4) (osite (l4 = 0) (qL_retreats_213 N l0 l2 l3 l4) (osbind (ossI 0 l3 l5 (-1 : Int32)) fun _ => osbind (osrecv [7] l0 (osRV (qX9_area N l0 l5 (6 : Int32)))) fun x1 => osite (x1 = (-1 : Int32)) (qL_retreats_207 N c15 l0 l1 l2 l3 l4 l5) (osbind (qL_next N l1) fun x2 => osguard (¬ l2 = 0) (osbind (qL_may N l0 l5 (x2 - x2 / l2 * l2)) fun x4 => osite (x4 = 0) (qL_retreats_117 N c15 l0 l1 l2 l3 l5 (x2 - x2 / l2 * l2) x4) (osbind (osrecv [7] l0 (osRV (qX9_area N l0 (x2 - x2 / l2 * l2) (4 : Int32)))) fun x5 => osite (x5 = (-1 : Int32)) (osbind (osrecv [7] l0 (osRV (qX9_isContested N l0 (x2 - x2 / l2 * l2)))) fun x6 => osite (x6 = 0) (osbind (osrecv [7] l0 (osRV (qX9_area N l0 l5 (7 : Int32)))) fun x7 => osite (x7 = (1 : Int32)) (qL_retreats_111 N c15 l0 l1 l2 l3 l5 (x2 - x2 / l2 * l2) x4 (1 : Int32) (x2 - x2 / l2 * l2) l5 l0) (qL_retreats_111 N c15 l0 l1 l2 l3 l5 (x2 - x2 / l2 * l2) x4 (0 : Int32) (x2 - x2 / l2 * l2) l5 l0)) (qL_retreats_121 N c15 l0 l1 l2 l3 l5 (x2 - x2 / l2 * l2) x4)) (qL_retreats_121 N c15 l0 l1 l2 l3 l5 (x2 - x2 / l2 * l2) x4))))))
def qL_retreats_15 (N : Nat) : Nat × Nat × Int32 × Nat × Int32 × Int32 → osM Int32 := osloop (fun ih p => bL_retreats_15 N ih p.1 p.2.1 p.2.2.1 p.2.2.2.1 p.2.2.2.2.1 p.2.2.2.2.2) 13
def qL_retreats (N : Nat) (l0 : Nat) (l1 : Nat) : osM Int32 := osbind (osrecv [7] l0 (qX9_areas N l0)) fun x1 => osbind (osnewI 16 x1) fun x2 => qL_retreats_15 N (l0, l1, x1, x2, (1 : Int32), (0 : Int32))
set_option maxRecDepth 100000 in
set_option maxHeartbeats 4000000 in
theorem sL_retreats_371 (N : Nat) (k0 : Int32) : osW (osFinM (fun r : Int32 => some (.int r)) 1757 14361) yL_retreats cL_retreats 9 (some .boolean) [] { frames := 9, cells := 1757, slots := 14361, locals := 212 } (1757) (14361) 371 [] [.int k0] (qL_retreats_371 N k0) := by
  unfold qL_retreats_371
  exact os_zret (by omega) (by omega) (hL_retreats_3.at 40 rfl rfl).1
set_option maxRecDepth 100000 in
set_option maxHeartbeats 4000000 in
theorem sL_retreats_370 (N : Nat) : osW (osFinM (fun r : Int32 => some (.int r)) 1757 14361) yL_retreats cL_retreats 9 (some .boolean) [] { frames := 9, cells := 1757, slots := 14361, locals := 212 } (1757) (14361) 370 [] [] (qL_retreats_370 N) := by
  unfold qL_retreats_370
  refine os_iconst (i := 0) (v := (0 : Int32)) rfl (hL_retreats_3.at 39 rfl rfl) ?_
  exact osW.widen (k' := 1757) (n' := 14361) (by omega) (by omega) (osW.sub [] rfl (sL_retreats_371 N (0 : Int32)))
set_option maxRecDepth 100000 in
set_option maxHeartbeats 4000000 in
theorem sL_retreats_309 (N : Nat) (k219 n219 : Nat) (hx219 : k219 + 2 ≤ 1652 ∧ n219 + 12 ≤ 13731) (c219 : Nat × Int32 × Nat × Int32 × Int32 × Int32 → osM Int32) (g219 : ∀ (l0 : Nat) (l2 : Int32) (l3 : Nat) (l4 : Int32) (l5 : Int32) (l6 : Int32), osW (osFinM (fun r : Int32 => some (.int r)) 1757 14361) yL_retreats cL_retreats 9 (some .boolean) [] { frames := 9, cells := 1757, slots := 14361, locals := 212 } (k219 + 2) (n219 + 12) 219 [(0, .ref l0), (2, .int l2), (3, .ref l3), (4, .int l4), (5, .int l5), (6, .int l6)] [] (c219 (l0, l2, l3, l4, l5, l6))) (l0 : Nat) (l2 : Int32) (l3 : Nat) (l4 : Int32) (l6 : Int32) (k0 : Int32) (k1 : Int32) : osW (osFinM (fun r : Int32 => some (.int r)) 1757 14361) yL_retreats cL_retreats 9 (some .boolean) [] { frames := 9, cells := 1757, slots := 14361, locals := 212 } (k219 + 2) (n219 + 12) 309 [(0, .ref l0), (2, .int l2), (3, .ref l3), (4, .int l4), (6, .int l6)] [.int k0, .int k1] (qL_retreats_309 N c219 l0 l2 l3 l4 l6 k0 k1) := by
  unfold qL_retreats_309
  refine os_iadd (hL_retreats_3.at 10 rfl rfl) ?_
  refine os_istore (i := 5) (lv' := [(5, .int (k1 + k0)), (0, .ref l0), (2, .int l2), (3, .ref l3), (4, .int l4), (6, .int l6)]) (Nat.le_of_ble_eq_true rfl) rfl (hL_retreats_3.at 11 rfl rfl) ?_
  refine os_iinc (i := 6) (d := 1) (x := l6) (v := (1 : Int32)) (lv' := [(6, .int (l6 + (1 : Int32))), (5, .int (k1 + k0)), (0, .ref l0), (2, .int l2), (3, .ref l3), (4, .int l4)]) 5 rfl rfl (Nat.le_of_ble_eq_true rfl) rfl (hL_retreats_3.at 12 rfl rfl) ?_
  refine os_goto (off := (-96)) (tgt := 219) rfl (hL_retreats_3.at 13 rfl rfl) ?_
  exact osW.widen (k' := k219 + 2) (n' := n219 + 12) (by omega) (by omega) (osW.sub [2, 3, 4, 5, 1, 0] rfl (g219 l0 l2 l3 l4 (k1 + k0) (l6 + (1 : Int32))))
set_option maxRecDepth 100000 in
set_option maxHeartbeats 4000000 in
theorem sL_retreats_308 (N : Nat) (k219 n219 : Nat) (hx219 : k219 + 2 ≤ 1652 ∧ n219 + 12 ≤ 13731) (c219 : Nat × Int32 × Nat × Int32 × Int32 × Int32 → osM Int32) (g219 : ∀ (l0 : Nat) (l2 : Int32) (l3 : Nat) (l4 : Int32) (l5 : Int32) (l6 : Int32), osW (osFinM (fun r : Int32 => some (.int r)) 1757 14361) yL_retreats cL_retreats 9 (some .boolean) [] { frames := 9, cells := 1757, slots := 14361, locals := 212 } (k219 + 2) (n219 + 12) 219 [(0, .ref l0), (2, .int l2), (3, .ref l3), (4, .int l4), (5, .int l5), (6, .int l6)] [] (c219 (l0, l2, l3, l4, l5, l6))) (l0 : Nat) (l2 : Int32) (l3 : Nat) (l4 : Int32) (l6 : Int32) (k0 : Int32) : osW (osFinM (fun r : Int32 => some (.int r)) 1757 14361) yL_retreats cL_retreats 9 (some .boolean) [] { frames := 9, cells := 1757, slots := 14361, locals := 212 } (k219 + 2) (n219 + 12) 308 [(0, .ref l0), (2, .int l2), (3, .ref l3), (4, .int l4), (6, .int l6)] [.int k0] (qL_retreats_308 N c219 l0 l2 l3 l4 l6 k0) := by
  unfold qL_retreats_308
  refine os_iconst (i := 0) (v := (0 : Int32)) rfl (hL_retreats_3.at 9 rfl rfl) ?_
  exact osW.widen (k' := k219 + 2) (n' := n219 + 12) (by omega) (by omega) (osW.sub [0, 1, 2, 3, 4] rfl (sL_retreats_309 N k219 n219 hx219 c219 g219 l0 l2 l3 l4 l6 (0 : Int32) k0))
set_option maxRecDepth 100000 in
set_option maxHeartbeats 4000000 in
theorem sL_retreats_277 (N : Nat) (k219 n219 : Nat) (hx219 : k219 + 2 ≤ 1652 ∧ n219 + 12 ≤ 13731) (k243 n243 : Nat) (hx243 : k243 + 0 ≤ k219 ∧ n243 + 0 ≤ n219) (c219 : Nat × Int32 × Nat × Int32 × Int32 × Int32 → osM Int32) (c243 : Nat × Int32 × Nat × Int32 × Int32 × Int32 × Int32 × Int32 → osM Int32) (g219 : ∀ (l0 : Nat) (l2 : Int32) (l3 : Nat) (l4 : Int32) (l5 : Int32) (l6 : Int32), osW (osFinM (fun r : Int32 => some (.int r)) 1757 14361) yL_retreats cL_retreats 9 (some .boolean) [] { frames := 9, cells := 1757, slots := 14361, locals := 212 } (k219 + 2) (n219 + 12) 219 [(0, .ref l0), (2, .int l2), (3, .ref l3), (4, .int l4), (5, .int l5), (6, .int l6)] [] (c219 (l0, l2, l3, l4, l5, l6))) (g243 : ∀ (l0 : Nat) (l2 : Int32) (l3 : Nat) (l4 : Int32) (l5 : Int32) (l6 : Int32) (l7 : Int32) (l8 : Int32), osW (osFinM (fun r : Int32 => some (.int r)) 1757 14361) yL_retreats cL_retreats 9 (some .boolean) [] { frames := 9, cells := 1757, slots := 14361, locals := 212 } (k243) (n243) 243 [(0, .ref l0), (2, .int l2), (3, .ref l3), (4, .int l4), (5, .int l5), (6, .int l6), (7, .int l7), (8, .int l8)] [] (c243 (l0, l2, l3, l4, l5, l6, l7, l8))) (l0 : Nat) (l2 : Int32) (l3 : Nat) (l4 : Int32) (l5 : Int32) (l6 : Int32) (l8 : Int32) (k0 : Int32) : osW (osFinM (fun r : Int32 => some (.int r)) 1757 14361) yL_retreats cL_retreats 9 (some .boolean) [] { frames := 9, cells := 1757, slots := 14361, locals := 212 } (k243) (n243) 277 [(0, .ref l0), (2, .int l2), (3, .ref l3), (4, .int l4), (5, .int l5), (6, .int l6), (8, .int l8)] [.int k0] (qL_retreats_277 N c219 c243 l0 l2 l3 l4 l5 l6 l8 k0) := by
  unfold qL_retreats_277
  refine os_istore (i := 7) (lv' := [(7, .int k0), (0, .ref l0), (2, .int l2), (3, .ref l3), (4, .int l4), (5, .int l5), (6, .int l6), (8, .int l8)]) (Nat.le_of_ble_eq_true rfl) rfl (hL_retreats_2.at 45 rfl rfl) ?_
  refine os_iinc (i := 8) (d := 1) (x := l8) (v := (1 : Int32)) (lv' := [(8, .int (l8 + (1 : Int32))), (7, .int k0), (0, .ref l0), (2, .int l2), (3, .ref l3), (4, .int l4), (5, .int l5), (6, .int l6)]) 7 rfl rfl (Nat.le_of_ble_eq_true rfl) rfl (hL_retreats_2.at 46 rfl rfl) ?_
  refine os_goto (off := (-39)) (tgt := 243) rfl (hL_retreats_2.at 47 rfl rfl) ?_
  exact osW.widen (k' := k243) (n' := n243) (by omega) (by omega) (osW.sub [2, 3, 4, 5, 6, 7, 1, 0] rfl (g243 l0 l2 l3 l4 l5 l6 k0 (l8 + (1 : Int32))))
set_option maxRecDepth 100000 in
set_option maxHeartbeats 4000000 in
theorem sL_retreats_276 (N : Nat) (k219 n219 : Nat) (hx219 : k219 + 2 ≤ 1652 ∧ n219 + 12 ≤ 13731) (k243 n243 : Nat) (hx243 : k243 + 0 ≤ k219 ∧ n243 + 0 ≤ n219) (c219 : Nat × Int32 × Nat × Int32 × Int32 × Int32 → osM Int32) (c243 : Nat × Int32 × Nat × Int32 × Int32 × Int32 × Int32 × Int32 → osM Int32) (g219 : ∀ (l0 : Nat) (l2 : Int32) (l3 : Nat) (l4 : Int32) (l5 : Int32) (l6 : Int32), osW (osFinM (fun r : Int32 => some (.int r)) 1757 14361) yL_retreats cL_retreats 9 (some .boolean) [] { frames := 9, cells := 1757, slots := 14361, locals := 212 } (k219 + 2) (n219 + 12) 219 [(0, .ref l0), (2, .int l2), (3, .ref l3), (4, .int l4), (5, .int l5), (6, .int l6)] [] (c219 (l0, l2, l3, l4, l5, l6))) (g243 : ∀ (l0 : Nat) (l2 : Int32) (l3 : Nat) (l4 : Int32) (l5 : Int32) (l6 : Int32) (l7 : Int32) (l8 : Int32), osW (osFinM (fun r : Int32 => some (.int r)) 1757 14361) yL_retreats cL_retreats 9 (some .boolean) [] { frames := 9, cells := 1757, slots := 14361, locals := 212 } (k243) (n243) 243 [(0, .ref l0), (2, .int l2), (3, .ref l3), (4, .int l4), (5, .int l5), (6, .int l6), (7, .int l7), (8, .int l8)] [] (c243 (l0, l2, l3, l4, l5, l6, l7, l8))) (l0 : Nat) (l2 : Int32) (l3 : Nat) (l4 : Int32) (l5 : Int32) (l6 : Int32) (l8 : Int32) : osW (osFinM (fun r : Int32 => some (.int r)) 1757 14361) yL_retreats cL_retreats 9 (some .boolean) [] { frames := 9, cells := 1757, slots := 14361, locals := 212 } (k243) (n243) 276 [(0, .ref l0), (2, .int l2), (3, .ref l3), (4, .int l4), (5, .int l5), (6, .int l6), (8, .int l8)] [] (qL_retreats_276 N c219 c243 l0 l2 l3 l4 l5 l6 l8) := by
  unfold qL_retreats_276
  refine os_iconst (i := 0) (v := (0 : Int32)) rfl (hL_retreats_2.at 44 rfl rfl) ?_
  exact osW.widen (k' := k243) (n' := n243) (by omega) (by omega) (osW.sub [0, 1, 2, 3, 4, 5, 6] rfl (sL_retreats_277 N k219 n219 hx219 k243 n243 hx243 c219 c243 g219 g243 l0 l2 l3 l4 l5 l6 l8 (0 : Int32)))
set_option maxRecDepth 100000 in
set_option maxHeartbeats 4000000 in
theorem sL_retreats_272 (N : Nat) (k219 n219 : Nat) (hx219 : k219 + 2 ≤ 1652 ∧ n219 + 12 ≤ 13731) (k243 n243 : Nat) (hx243 : k243 + 0 ≤ k219 ∧ n243 + 0 ≤ n219) (c219 : Nat × Int32 × Nat × Int32 × Int32 × Int32 → osM Int32) (c243 : Nat × Int32 × Nat × Int32 × Int32 × Int32 × Int32 × Int32 → osM Int32) (g219 : ∀ (l0 : Nat) (l2 : Int32) (l3 : Nat) (l4 : Int32) (l5 : Int32) (l6 : Int32), osW (osFinM (fun r : Int32 => some (.int r)) 1757 14361) yL_retreats cL_retreats 9 (some .boolean) [] { frames := 9, cells := 1757, slots := 14361, locals := 212 } (k219 + 2) (n219 + 12) 219 [(0, .ref l0), (2, .int l2), (3, .ref l3), (4, .int l4), (5, .int l5), (6, .int l6)] [] (c219 (l0, l2, l3, l4, l5, l6))) (g243 : ∀ (l0 : Nat) (l2 : Int32) (l3 : Nat) (l4 : Int32) (l5 : Int32) (l6 : Int32) (l7 : Int32) (l8 : Int32), osW (osFinM (fun r : Int32 => some (.int r)) 1757 14361) yL_retreats cL_retreats 9 (some .boolean) [] { frames := 9, cells := 1757, slots := 14361, locals := 212 } (k243) (n243) 243 [(0, .ref l0), (2, .int l2), (3, .ref l3), (4, .int l4), (5, .int l5), (6, .int l6), (7, .int l7), (8, .int l8)] [] (c243 (l0, l2, l3, l4, l5, l6, l7, l8))) (l0 : Nat) (l2 : Int32) (l3 : Nat) (l4 : Int32) (l5 : Int32) (l6 : Int32) (l8 : Int32) : osW (osFinM (fun r : Int32 => some (.int r)) 1757 14361) yL_retreats cL_retreats 9 (some .boolean) [] { frames := 9, cells := 1757, slots := 14361, locals := 212 } (k243) (n243) 272 [(0, .ref l0), (2, .int l2), (3, .ref l3), (4, .int l4), (5, .int l5), (6, .int l6), (8, .int l8)] [] (qL_retreats_272 N c219 c243 l0 l2 l3 l4 l5 l6 l8) := by
  unfold qL_retreats_272
  refine os_iconst (i := 1) (v := (1 : Int32)) rfl (hL_retreats_2.at 42 rfl rfl) ?_
  refine os_goto (off := 4) (tgt := 277) rfl (hL_retreats_2.at 43 rfl rfl) ?_
  exact osW.widen (k' := k243) (n' := n243) (by omega) (by omega) (osW.sub [0, 1, 2, 3, 4, 5, 6] rfl (sL_retreats_277 N k219 n219 hx219 k243 n243 hx243 c219 c243 g219 g243 l0 l2 l3 l4 l5 l6 l8 (1 : Int32)))
set_option maxRecDepth 100000 in
set_option maxHeartbeats 4000000 in
theorem tL_retreats_243 (N : Nat) (k219 n219 : Nat) (hx219 : k219 + 2 ≤ 1652 ∧ n219 + 12 ≤ 13731) (k243 n243 : Nat) (hx243 : k243 + 0 ≤ k219 ∧ n243 + 0 ≤ n219) (c219 : Nat × Int32 × Nat × Int32 × Int32 × Int32 → osM Int32) (c243 : Nat × Int32 × Nat × Int32 × Int32 × Int32 × Int32 × Int32 → osM Int32) (g219 : ∀ (l0 : Nat) (l2 : Int32) (l3 : Nat) (l4 : Int32) (l5 : Int32) (l6 : Int32), osW (osFinM (fun r : Int32 => some (.int r)) 1757 14361) yL_retreats cL_retreats 9 (some .boolean) [] { frames := 9, cells := 1757, slots := 14361, locals := 212 } (k219 + 2) (n219 + 12) 219 [(0, .ref l0), (2, .int l2), (3, .ref l3), (4, .int l4), (5, .int l5), (6, .int l6)] [] (c219 (l0, l2, l3, l4, l5, l6))) (g243 : ∀ (l0 : Nat) (l2 : Int32) (l3 : Nat) (l4 : Int32) (l5 : Int32) (l6 : Int32) (l7 : Int32) (l8 : Int32), osW (osFinM (fun r : Int32 => some (.int r)) 1757 14361) yL_retreats cL_retreats 9 (some .boolean) [] { frames := 9, cells := 1757, slots := 14361, locals := 212 } (k243) (n243) 243 [(0, .ref l0), (2, .int l2), (3, .ref l3), (4, .int l4), (5, .int l5), (6, .int l6), (7, .int l7), (8, .int l8)] [] (c243 (l0, l2, l3, l4, l5, l6, l7, l8))) (l0 : Nat) (l2 : Int32) (l3 : Nat) (l4 : Int32) (l5 : Int32) (l6 : Int32) (l7 : Int32) (l8 : Int32) : osW (osFinM (fun r : Int32 => some (.int r)) 1757 14361) yL_retreats cL_retreats 9 (some .boolean) [] { frames := 9, cells := 1757, slots := 14361, locals := 212 } (k243) (n243) 243 [(0, .ref l0), (2, .int l2), (3, .ref l3), (4, .int l4), (5, .int l5), (6, .int l6), (7, .int l7), (8, .int l8)] [] (bL_retreats_243 N c219 c243 l0 l2 l3 l4 l5 l6 l7 l8) := by
  unfold bL_retreats_243
  refine os_iload (v := l8) 7 rfl (hL_retreats_2.at 27 rfl rfl) ?_
  refine os_iload_n (i := 2) (q := 2) (v := l2) 1 rfl rfl (hL_retreats_2.at 28 rfl rfl) ?_
  refine os_icmp_ge (off := 39) (tgt := 285) rfl (hL_retreats_2.at 29 rfl rfl) ?_ ?_
  · refine os_iload (v := l5) 4 rfl (hL_retreats_2.at 48 rfl rfl) ?_
    refine os_aload_n (i := 0) (q := 0) (v := l0) 0 rfl rfl (hL_retreats_2.at 49 rfl rfl) ?_
    refine os_iload (v := l6) 5 rfl (hL_retreats_3.at 0 rfl rfl) ?_
    refine os_bipush (i := 6) (v := (6 : Int32)) rfl (hL_retreats_3.at 1 rfl rfl) ?_
    refine os_callV (cis := [7]) (b := l0) (As := [.int l6, .int (6 : Int32)]) (st := [.int l5]) (st' := (fun r => .int r :: [.int l5])) sl7_X9_area_X9_area mdX9_area wd1052 wd1053 (osMetT.sure (sX9_area N l0 l6 (6 : Int32))) rfl rfl (fun _ => rfl) (Nat.le_of_ble_eq_true rfl) (Nat.le_of_ble_eq_true rfl) (Nat.le_of_ble_eq_true rfl) rfl (by show _ ≤ 1757; omega) rfl (by show _ ≤ 14361; omega) (hL_retreats_3.at 2 rfl rfl) (fun x1 => ?_)
    refine os_iconst (i := (-1)) (v := (-1 : Int32)) rfl (hL_retreats_3.at 3 rfl rfl) ?_
    refine os_icmp_eq (off := 12) (tgt := 308) rfl (hL_retreats_3.at 4 rfl rfl) ?_ ?_
    · exact osW.widen (k' := k219 + 2) (n' := n219 + 12) (by omega) (by omega) (osW.sub [0, 1, 2, 3, 5] rfl (sL_retreats_308 N k219 n219 hx219 c219 g219 l0 l2 l3 l4 l6 l5))
    · refine os_iload (v := l7) 6 rfl (hL_retreats_3.at 5 rfl rfl) ?_
      refine os_if_ne (off := 7) (tgt := 308) rfl (hL_retreats_3.at 6 rfl rfl) ?_ ?_
      · exact osW.widen (k' := k219 + 2) (n' := n219 + 12) (by omega) (by omega) (osW.sub [0, 1, 2, 3, 5] rfl (sL_retreats_308 N k219 n219 hx219 c219 g219 l0 l2 l3 l4 l6 l5))
      · refine os_iconst (i := 1) (v := (1 : Int32)) rfl (hL_retreats_3.at 7 rfl rfl) ?_
        refine os_goto (off := 4) (tgt := 309) rfl (hL_retreats_3.at 8 rfl rfl) ?_
        exact osW.widen (k' := k219 + 2) (n' := n219 + 12) (by omega) (by omega) (osW.sub [0, 1, 2, 3, 5] rfl (sL_retreats_309 N k219 n219 hx219 c219 g219 l0 l2 l3 l4 l6 (1 : Int32) l5))
  · refine os_iload (v := l7) 6 rfl (hL_retreats_2.at 30 rfl rfl) ?_
    refine os_if_eq (off := 25) (tgt := 276) rfl (hL_retreats_2.at 31 rfl rfl) ?_ ?_
    · exact osW.widen (k' := k243) (n' := n243) (by omega) (by omega) (osW.sub [0, 1, 2, 3, 4, 5, 7] rfl (sL_retreats_276 N k219 n219 hx219 k243 n243 hx243 c219 c243 g219 g243 l0 l2 l3 l4 l5 l6 l8))
    · refine os_iload (v := l6) 5 rfl (hL_retreats_2.at 32 rfl rfl) ?_
      refine os_iload (v := l8) 7 rfl (hL_retreats_2.at 33 rfl rfl) ?_
      refine os_icmp_eq (off := 14) (tgt := 272) rfl (hL_retreats_2.at 34 rfl rfl) ?_ ?_
      · exact osW.widen (k' := k243) (n' := n243) (by omega) (by omega) (osW.sub [0, 1, 2, 3, 4, 5, 7] rfl (sL_retreats_272 N k219 n219 hx219 k243 n243 hx243 c219 c243 g219 g243 l0 l2 l3 l4 l5 l6 l8))
      · refine os_aload_n (i := 3) (q := 3) (v := l3) 2 rfl rfl (hL_retreats_2.at 35 rfl rfl) ?_
        refine os_iload (v := l6) 5 rfl (hL_retreats_2.at 36 rfl rfl) ?_
        refine os_iaload (hL_retreats_2.at 37 rfl rfl) (fun x2 => ?_)
        refine os_aload_n (i := 3) (q := 3) (v := l3) 2 rfl rfl (hL_retreats_2.at 38 rfl rfl) ?_
        refine os_iload (v := l8) 7 rfl (hL_retreats_2.at 39 rfl rfl) ?_
        refine os_iaload (hL_retreats_2.at 40 rfl rfl) (fun x3 => ?_)
        refine os_icmp_eq (off := 7) (tgt := 276) rfl (hL_retreats_2.at 41 rfl rfl) ?_ ?_
        · exact osW.widen (k' := k243) (n' := n243) (by omega) (by omega) (osW.sub [0, 1, 2, 3, 4, 5, 7] rfl (sL_retreats_276 N k219 n219 hx219 k243 n243 hx243 c219 c243 g219 g243 l0 l2 l3 l4 l5 l6 l8))
        · exact osW.widen (k' := k243) (n' := n243) (by omega) (by omega) (osW.sub [0, 1, 2, 3, 4, 5, 7] rfl (sL_retreats_272 N k219 n219 hx219 k243 n243 hx243 c219 c243 g219 g243 l0 l2 l3 l4 l5 l6 l8))
set_option maxRecDepth 100000 in
set_option maxHeartbeats 4000000 in
theorem sL_retreats_243 (N : Nat) (k219 n219 : Nat) (hx219 : k219 + 2 ≤ 1652 ∧ n219 + 12 ≤ 13731) (c219 : Nat × Int32 × Nat × Int32 × Int32 × Int32 → osM Int32) (g219 : ∀ (l0 : Nat) (l2 : Int32) (l3 : Nat) (l4 : Int32) (l5 : Int32) (l6 : Int32), osW (osFinM (fun r : Int32 => some (.int r)) 1757 14361) yL_retreats cL_retreats 9 (some .boolean) [] { frames := 9, cells := 1757, slots := 14361, locals := 212 } (k219 + 2) (n219 + 12) 219 [(0, .ref l0), (2, .int l2), (3, .ref l3), (4, .int l4), (5, .int l5), (6, .int l6)] [] (c219 (l0, l2, l3, l4, l5, l6))) (l0 : Nat) (l2 : Int32) (l3 : Nat) (l4 : Int32) (l5 : Int32) (l6 : Int32) (l7 : Int32) (l8 : Int32) : osW (osFinM (fun r : Int32 => some (.int r)) 1757 14361) yL_retreats cL_retreats 9 (some .boolean) [] { frames := 9, cells := 1757, slots := 14361, locals := 212 } (k219) (n219) 243 [(0, .ref l0), (2, .int l2), (3, .ref l3), (4, .int l4), (5, .int l5), (6, .int l6), (7, .int l7), (8, .int l8)] [] (qL_retreats_243 N c219 (l0, l2, l3, l4, l5, l6, l7, l8)) := by
  refine osW.widen (k' := (k219) + 0 * (13 - 13)) (n' := (n219) + 0 * (13 - 13)) (by omega) (by omega) ?_
  exact osloop_K (lvf := fun p => [(0, .ref p.1), (2, .int p.2.1), (3, .ref p.2.2.1), (4, .int p.2.2.2.1), (5, .int p.2.2.2.2.1), (6, .int p.2.2.2.2.2.1), (7, .int p.2.2.2.2.2.2.1), (8, .int p.2.2.2.2.2.2.2)]) (stf := fun p => []) 13 0 0 (k219) (n219) (fun f hf ih g p => tL_retreats_243 N k219 n219 hx219 ((k219) + 0 * (13 - (f + 1))) ((n219) + 0 * (13 - (f + 1))) (by omega) c219 ih g219 (fun l0 l2 l3 l4 l5 l6 l7 l8 => osW.widen (by omega) (by omega) (g (l0, l2, l3, l4, l5, l6, l7, l8))) p.1 p.2.1 p.2.2.1 p.2.2.2.1 p.2.2.2.2.1 p.2.2.2.2.2.1 p.2.2.2.2.2.2.1 p.2.2.2.2.2.2.2) 13 (Nat.le_refl _) (l0, l2, l3, l4, l5, l6, l7, l8)
set_option maxRecDepth 100000 in
set_option maxHeartbeats 4000000 in
theorem sL_retreats_238 (N : Nat) (k219 n219 : Nat) (hx219 : k219 + 2 ≤ 1652 ∧ n219 + 12 ≤ 13731) (c219 : Nat × Int32 × Nat × Int32 × Int32 × Int32 → osM Int32) (g219 : ∀ (l0 : Nat) (l2 : Int32) (l3 : Nat) (l4 : Int32) (l5 : Int32) (l6 : Int32), osW (osFinM (fun r : Int32 => some (.int r)) 1757 14361) yL_retreats cL_retreats 9 (some .boolean) [] { frames := 9, cells := 1757, slots := 14361, locals := 212 } (k219 + 2) (n219 + 12) 219 [(0, .ref l0), (2, .int l2), (3, .ref l3), (4, .int l4), (5, .int l5), (6, .int l6)] [] (c219 (l0, l2, l3, l4, l5, l6))) (l0 : Nat) (l2 : Int32) (l3 : Nat) (l4 : Int32) (l5 : Int32) (l6 : Int32) (k0 : Int32) : osW (osFinM (fun r : Int32 => some (.int r)) 1757 14361) yL_retreats cL_retreats 9 (some .boolean) [] { frames := 9, cells := 1757, slots := 14361, locals := 212 } (k219) (n219) 238 [(0, .ref l0), (2, .int l2), (3, .ref l3), (4, .int l4), (5, .int l5), (6, .int l6)] [.int k0] (qL_retreats_238 N c219 l0 l2 l3 l4 l5 l6 k0) := by
  unfold qL_retreats_238
  refine os_istore (i := 7) (lv' := [(7, .int k0), (0, .ref l0), (2, .int l2), (3, .ref l3), (4, .int l4), (5, .int l5), (6, .int l6)]) (Nat.le_of_ble_eq_true rfl) rfl (hL_retreats_2.at 24 rfl rfl) ?_
  refine os_iconst (i := 0) (v := (0 : Int32)) rfl (hL_retreats_2.at 25 rfl rfl) ?_
  refine os_istore (i := 8) (lv' := [(8, .int (0 : Int32)), (7, .int k0), (0, .ref l0), (2, .int l2), (3, .ref l3), (4, .int l4), (5, .int l5), (6, .int l6)]) (Nat.le_of_ble_eq_true rfl) rfl (hL_retreats_2.at 26 rfl rfl) ?_
  exact osW.widen (k' := k219) (n' := n219) (by omega) (by omega) (osW.sub [2, 3, 4, 5, 6, 7, 1, 0] rfl (sL_retreats_243 N k219 n219 hx219 c219 g219 l0 l2 l3 l4 l5 l6 k0 (0 : Int32)))
set_option maxRecDepth 100000 in
set_option maxHeartbeats 4000000 in
theorem tL_retreats_219 (N : Nat) (k219 n219 : Nat) (hx219 : k219 + 2 ≤ 1652 ∧ n219 + 12 ≤ 13731) (c219 : Nat × Int32 × Nat × Int32 × Int32 × Int32 → osM Int32) (g219 : ∀ (l0 : Nat) (l2 : Int32) (l3 : Nat) (l4 : Int32) (l5 : Int32) (l6 : Int32), osW (osFinM (fun r : Int32 => some (.int r)) 1757 14361) yL_retreats cL_retreats 9 (some .boolean) [] { frames := 9, cells := 1757, slots := 14361, locals := 212 } (k219 + 2) (n219 + 12) 219 [(0, .ref l0), (2, .int l2), (3, .ref l3), (4, .int l4), (5, .int l5), (6, .int l6)] [] (c219 (l0, l2, l3, l4, l5, l6))) (l0 : Nat) (l2 : Int32) (l3 : Nat) (l4 : Int32) (l5 : Int32) (l6 : Int32) : osW (osFinM (fun r : Int32 => some (.int r)) 1757 14361) yL_retreats cL_retreats 9 (some .boolean) [] { frames := 9, cells := 1757, slots := 14361, locals := 212 } (k219) (n219) 219 [(0, .ref l0), (2, .int l2), (3, .ref l3), (4, .int l4), (5, .int l5), (6, .int l6)] [] (bL_retreats_219 N c219 l0 l2 l3 l4 l5 l6) := by
  unfold bL_retreats_219
  refine os_iload (v := l6) 5 rfl (hL_retreats_2.at 13 rfl rfl) ?_
  refine os_iload_n (i := 2) (q := 2) (v := l2) 1 rfl rfl (hL_retreats_2.at 14 rfl rfl) ?_
  refine os_icmp_ge (off := 96) (tgt := 318) rfl (hL_retreats_2.at 15 rfl rfl) ?_ ?_
  · refine os_aload_n (i := 0) (q := 0) (v := l0) 0 rfl rfl (hL_retreats_3.at 14 rfl rfl) ?_
    refine os_callS (As := [.ref l0]) (st := []) (st' := (fun r => .int r :: [])) mdL_units_ wd1388 wd1389 (sL_units_ N l0) rfl rfl (fun _ => rfl) (Nat.le_of_ble_eq_true rfl) (Nat.le_of_ble_eq_true rfl) (Nat.le_of_ble_eq_true rfl) rfl (by show _ ≤ 1757; omega) rfl (by show _ ≤ 14361; omega) (hL_retreats_3.at 15 rfl rfl) (fun x1 => ?_)
    refine os_istore (i := 6) (lv' := [(6, .int x1), (0, .ref l0), (2, .int l2), (3, .ref l3), (4, .int l4), (5, .int l5)]) (Nat.le_of_ble_eq_true rfl) rfl (hL_retreats_3.at 16 rfl rfl) ?_
    refine os_aload_n (i := 0) (q := 0) (v := l0) 1 rfl rfl (hL_retreats_3.at 17 rfl rfl) ?_
    refine os_callS (As := [.ref l0]) (st := []) (st' := (fun r => .int r :: [])) mdL_aside wd1437 wd1438 (sL_aside N l0) rfl rfl (fun _ => rfl) (Nat.le_of_ble_eq_true rfl) (Nat.le_of_ble_eq_true rfl) (Nat.le_of_ble_eq_true rfl) rfl (by show _ ≤ 1757; omega) rfl (by show _ ≤ 14361; omega) (hL_retreats_3.at 18 rfl rfl) (fun x2 => ?_)
    refine os_istore (i := 7) (lv' := [(7, .int x2), (6, .int x1), (0, .ref l0), (2, .int l2), (3, .ref l3), (4, .int l4), (5, .int l5)]) (Nat.le_of_ble_eq_true rfl) rfl (hL_retreats_3.at 19 rfl rfl) ?_
    refine os_iload (v := l4) 5 rfl (hL_retreats_3.at 20 rfl rfl) ?_
    refine os_if_eq (off := 38) (tgt := 370) rfl (hL_retreats_3.at 21 rfl rfl) ?_ ?_
    · exact osW.widen (k' := 1757) (n' := 14361) (by omega) (by omega) (osW.sub [] rfl (sL_retreats_370 N ))
    · refine os_aload_n (i := 0) (q := 0) (v := l0) 2 rfl rfl (hL_retreats_3.at 22 rfl rfl) ?_
      refine os_callV (cis := [7]) (b := l0) (As := []) (st := []) (st' := (fun r => .int r :: [])) sl7_X9_endRetreats_X9_endRetreats mdX9_endRetreats wd1471 wd1472 (osMetT.sure (sX9_endRetreats N l0 )) rfl rfl (fun _ => rfl) (Nat.le_of_ble_eq_true rfl) (Nat.le_of_ble_eq_true rfl) (Nat.le_of_ble_eq_true rfl) rfl (by show _ ≤ 1757; omega) rfl (by show _ ≤ 14361; omega) (hL_retreats_3.at 23 rfl rfl) (fun x3 => ?_)
      refine os_iload (v := l5) 6 rfl (hL_retreats_3.at 24 rfl rfl) ?_
      refine os_icmp_ne (off := 29) (tgt := 370) rfl (hL_retreats_3.at 25 rfl rfl) ?_ ?_
      · exact osW.widen (k' := 1757) (n' := 14361) (by omega) (by omega) (osW.sub [] rfl (sL_retreats_370 N ))
      · refine os_aload_n (i := 0) (q := 0) (v := l0) 2 rfl rfl (hL_retreats_3.at 26 rfl rfl) ?_
        refine os_callS (As := [.ref l0]) (st := []) (st' := (fun r => .int r :: [])) mdL_aside wd1437 wd1438 (sL_aside N l0) rfl rfl (fun _ => rfl) (Nat.le_of_ble_eq_true rfl) (Nat.le_of_ble_eq_true rfl) (Nat.le_of_ble_eq_true rfl) rfl (by show _ ≤ 1757; omega) rfl (by show _ ≤ 14361; omega) (hL_retreats_3.at 27 rfl rfl) (fun x4 => ?_)
        refine os_if_ne (off := 22) (tgt := 370) rfl (hL_retreats_3.at 28 rfl rfl) ?_ ?_
        · exact osW.widen (k' := 1757) (n' := 14361) (by omega) (by omega) (osW.sub [] rfl (sL_retreats_370 N ))
        · refine os_aload_n (i := 0) (q := 0) (v := l0) 2 rfl rfl (hL_retreats_3.at 29 rfl rfl) ?_
          refine os_callS (As := [.ref l0]) (st := []) (st' := (fun r => .int r :: [])) mdL_units_ wd1388 wd1389 (sL_units_ N l0) rfl rfl (fun _ => rfl) (Nat.le_of_ble_eq_true rfl) (Nat.le_of_ble_eq_true rfl) (Nat.le_of_ble_eq_true rfl) rfl (by show _ ≤ 1757; omega) rfl (by show _ ≤ 14361; omega) (hL_retreats_3.at 30 rfl rfl) (fun x5 => ?_)
          refine os_iload (v := x1) 1 rfl (hL_retreats_3.at 31 rfl rfl) ?_
          refine os_iload (v := x2) 0 rfl (hL_retreats_3.at 32 rfl rfl) ?_
          refine os_iadd (hL_retreats_3.at 33 rfl rfl) ?_
          refine os_iload (v := l5) 6 rfl (hL_retreats_3.at 34 rfl rfl) ?_
          refine os_isub (hL_retreats_3.at 35 rfl rfl) ?_
          refine os_icmp_ne (off := 7) (tgt := 370) rfl (hL_retreats_3.at 36 rfl rfl) ?_ ?_
          · exact osW.widen (k' := 1757) (n' := 14361) (by omega) (by omega) (osW.sub [] rfl (sL_retreats_370 N ))
          · refine os_iconst (i := 1) (v := (1 : Int32)) rfl (hL_retreats_3.at 37 rfl rfl) ?_
            refine os_goto (off := 4) (tgt := 371) rfl (hL_retreats_3.at 38 rfl rfl) ?_
            exact osW.widen (k' := 1757) (n' := 14361) (by omega) (by omega) (osW.sub [] rfl (sL_retreats_371 N (1 : Int32)))
  · refine os_aload_n (i := 3) (q := 3) (v := l3) 2 rfl rfl (hL_retreats_2.at 16 rfl rfl) ?_
    refine os_iload (v := l6) 5 rfl (hL_retreats_2.at 17 rfl rfl) ?_
    refine os_iaload (hL_retreats_2.at 18 rfl rfl) (fun x6 => ?_)
    refine os_iconst (i := (-1)) (v := (-1 : Int32)) rfl (hL_retreats_2.at 19 rfl rfl) ?_
    refine os_icmp_eq (off := 7) (tgt := 237) rfl (hL_retreats_2.at 20 rfl rfl) ?_ ?_
    · refine os_iconst (i := 0) (v := (0 : Int32)) rfl (hL_retreats_2.at 23 rfl rfl) ?_
      exact osW.widen (k' := k219) (n' := n219) (by omega) (by omega) (osW.sub [0, 1, 2, 3, 4, 5] rfl (sL_retreats_238 N k219 n219 hx219 c219 g219 l0 l2 l3 l4 l5 l6 (0 : Int32)))
    · refine os_iconst (i := 1) (v := (1 : Int32)) rfl (hL_retreats_2.at 21 rfl rfl) ?_
      refine os_goto (off := 4) (tgt := 238) rfl (hL_retreats_2.at 22 rfl rfl) ?_
      exact osW.widen (k' := k219) (n' := n219) (by omega) (by omega) (osW.sub [0, 1, 2, 3, 4, 5] rfl (sL_retreats_238 N k219 n219 hx219 c219 g219 l0 l2 l3 l4 l5 l6 (1 : Int32)))
set_option maxRecDepth 100000 in
set_option maxHeartbeats 4000000 in
theorem sL_retreats_219 (N : Nat) (l0 : Nat) (l2 : Int32) (l3 : Nat) (l4 : Int32) (l5 : Int32) (l6 : Int32) : osW (osFinM (fun r : Int32 => some (.int r)) 1757 14361) yL_retreats cL_retreats 9 (some .boolean) [] { frames := 9, cells := 1757, slots := 14361, locals := 212 } (1626) (13575) 219 [(0, .ref l0), (2, .int l2), (3, .ref l3), (4, .int l4), (5, .int l5), (6, .int l6)] [] (qL_retreats_219 N (l0, l2, l3, l4, l5, l6)) := by
  refine osW.widen (k' := (1626) + 2 * (13 - 13)) (n' := (13575) + 12 * (13 - 13)) (by omega) (by omega) ?_
  exact osloop_K (lvf := fun p => [(0, .ref p.1), (2, .int p.2.1), (3, .ref p.2.2.1), (4, .int p.2.2.2.1), (5, .int p.2.2.2.2.1), (6, .int p.2.2.2.2.2)]) (stf := fun p => []) 13 2 12 (1626) (13575) (fun f hf ih g p => tL_retreats_219 N ((1626) + 2 * (13 - (f + 1))) ((13575) + 12 * (13 - (f + 1))) (by omega) ih (fun l0 l2 l3 l4 l5 l6 => osW.widen (by omega) (by omega) (g (l0, l2, l3, l4, l5, l6))) p.1 p.2.1 p.2.2.1 p.2.2.2.1 p.2.2.2.2.1 p.2.2.2.2.2) 13 (Nat.le_refl _) (l0, l2, l3, l4, l5, l6)
set_option maxRecDepth 100000 in
set_option maxHeartbeats 4000000 in
theorem sL_retreats_213 (N : Nat) (l0 : Nat) (l2 : Int32) (l3 : Nat) (l4 : Int32) : osW (osFinM (fun r : Int32 => some (.int r)) 1757 14361) yL_retreats cL_retreats 9 (some .boolean) [] { frames := 9, cells := 1757, slots := 14361, locals := 212 } (1626) (13575) 213 [(0, .ref l0), (2, .int l2), (3, .ref l3), (4, .int l4)] [] (qL_retreats_213 N l0 l2 l3 l4) := by
  unfold qL_retreats_213
  refine os_iconst (i := 0) (v := (0 : Int32)) rfl (hL_retreats_2.at 9 rfl rfl) ?_
  refine os_istore (i := 5) (lv' := [(5, .int (0 : Int32)), (0, .ref l0), (2, .int l2), (3, .ref l3), (4, .int l4)]) (Nat.le_of_ble_eq_true rfl) rfl (hL_retreats_2.at 10 rfl rfl) ?_
  refine os_iconst (i := 0) (v := (0 : Int32)) rfl (hL_retreats_2.at 11 rfl rfl) ?_
  refine os_istore (i := 6) (lv' := [(6, .int (0 : Int32)), (5, .int (0 : Int32)), (0, .ref l0), (2, .int l2), (3, .ref l3), (4, .int l4)]) (Nat.le_of_ble_eq_true rfl) rfl (hL_retreats_2.at 12 rfl rfl) ?_
  exact osW.widen (k' := 1626) (n' := 13575) (by omega) (by omega) (osW.sub [2, 3, 4, 5, 1, 0] rfl (sL_retreats_219 N l0 l2 l3 l4 (0 : Int32) (0 : Int32)))
set_option maxRecDepth 100000 in
set_option maxHeartbeats 4000000 in
theorem sL_retreats_207 (N : Nat) (k15 n15 : Nat) (hx15 : k15 + 125 ≤ 1626 ∧ n15 + 1043 ≤ 13575) (c15 : Nat × Nat × Int32 × Nat × Int32 × Int32 → osM Int32) (g15 : ∀ (l0 : Nat) (l1 : Nat) (l2 : Int32) (l3 : Nat) (l4 : Int32) (l5 : Int32), osW (osFinM (fun r : Int32 => some (.int r)) 1757 14361) yL_retreats cL_retreats 9 (some .boolean) [] { frames := 9, cells := 1757, slots := 14361, locals := 212 } (k15 + 125) (n15 + 1043) 15 [(0, .ref l0), (1, .ref l1), (2, .int l2), (3, .ref l3), (4, .int l4), (5, .int l5)] [] (c15 (l0, l1, l2, l3, l4, l5))) (l0 : Nat) (l1 : Nat) (l2 : Int32) (l3 : Nat) (l4 : Int32) (l5 : Int32) : osW (osFinM (fun r : Int32 => some (.int r)) 1757 14361) yL_retreats cL_retreats 9 (some .boolean) [] { frames := 9, cells := 1757, slots := 14361, locals := 212 } (k15 + 125) (n15 + 1043) 207 [(0, .ref l0), (1, .ref l1), (2, .int l2), (3, .ref l3), (4, .int l4), (5, .int l5)] [] (qL_retreats_207 N c15 l0 l1 l2 l3 l4 l5) := by
  unfold qL_retreats_207
  refine os_iinc (i := 5) (d := 1) (x := l5) (v := (1 : Int32)) (lv' := [(5, .int (l5 + (1 : Int32))), (0, .ref l0), (1, .ref l1), (2, .int l2), (3, .ref l3), (4, .int l4)]) 5 rfl rfl (Nat.le_of_ble_eq_true rfl) rfl (hL_retreats_2.at 7 rfl rfl) ?_
  refine os_goto (off := (-195)) (tgt := 15) rfl (hL_retreats_2.at 8 rfl rfl) ?_
  exact osW.widen (k' := k15 + 125) (n' := n15 + 1043) (by omega) (by omega) (osW.sub [1, 2, 3, 4, 5, 0] rfl (g15 l0 l1 l2 l3 l4 (l5 + (1 : Int32))))
set_option maxRecDepth 100000 in
set_option maxHeartbeats 4000000 in
theorem sL_retreats_206 (N : Nat) (k15 n15 : Nat) (hx15 : k15 + 125 ≤ 1626 ∧ n15 + 1043 ≤ 13575) (c15 : Nat × Nat × Int32 × Nat × Int32 × Int32 → osM Int32) (g15 : ∀ (l0 : Nat) (l1 : Nat) (l2 : Int32) (l3 : Nat) (l4 : Int32) (l5 : Int32), osW (osFinM (fun r : Int32 => some (.int r)) 1757 14361) yL_retreats cL_retreats 9 (some .boolean) [] { frames := 9, cells := 1757, slots := 14361, locals := 212 } (k15 + 125) (n15 + 1043) 15 [(0, .ref l0), (1, .ref l1), (2, .int l2), (3, .ref l3), (4, .int l4), (5, .int l5)] [] (c15 (l0, l1, l2, l3, l4, l5))) (l0 : Nat) (l1 : Nat) (l2 : Int32) (l3 : Nat) (l4 : Int32) (l5 : Int32) (k0 : Int32) (k1 : Int32) (k2 : Nat) : osW (osFinM (fun r : Int32 => some (.int r)) 1757 14361) yL_retreats cL_retreats 9 (some .boolean) [] { frames := 9, cells := 1757, slots := 14361, locals := 212 } (k15 + 125) (n15 + 1043) 206 [(0, .ref l0), (1, .ref l1), (2, .int l2), (3, .ref l3), (4, .int l4), (5, .int l5)] [.int k0, .int k1, .ref k2] (qL_retreats_206 N c15 l0 l1 l2 l3 l4 l5 k0 k1 k2) := by
  unfold qL_retreats_206
  refine os_iastore (hL_retreats_2.at 6 rfl rfl) ?_
  exact osW.widen (k' := k15 + 125) (n' := n15 + 1043) (by omega) (by omega) (osW.sub [0, 1, 2, 3, 4, 5] rfl (sL_retreats_207 N k15 n15 hx15 c15 g15 l0 l1 l2 l3 l4 l5))
set_option maxRecDepth 100000 in
set_option maxHeartbeats 4000000 in
theorem sL_retreats_190 (N : Nat) (k15 n15 : Nat) (hx15 : k15 + 125 ≤ 1626 ∧ n15 + 1043 ≤ 13575) (c15 : Nat × Nat × Int32 × Nat × Int32 × Int32 → osM Int32) (g15 : ∀ (l0 : Nat) (l1 : Nat) (l2 : Int32) (l3 : Nat) (l4 : Int32) (l5 : Int32), osW (osFinM (fun r : Int32 => some (.int r)) 1757 14361) yL_retreats cL_retreats 9 (some .boolean) [] { frames := 9, cells := 1757, slots := 14361, locals := 212 } (k15 + 125) (n15 + 1043) 15 [(0, .ref l0), (1, .ref l1), (2, .int l2), (3, .ref l3), (4, .int l4), (5, .int l5)] [] (c15 (l0, l1, l2, l3, l4, l5))) (l0 : Nat) (l1 : Nat) (l2 : Int32) (l3 : Nat) (l5 : Int32) (l6 : Int32) (l7 : Int32) (k0 : Int32) : osW (osFinM (fun r : Int32 => some (.int r)) 1757 14361) yL_retreats cL_retreats 9 (some .boolean) [] { frames := 9, cells := 1757, slots := 14361, locals := 212 } (k15 + 125) (n15 + 1043) 190 [(0, .ref l0), (1, .ref l1), (2, .int l2), (3, .ref l3), (5, .int l5), (6, .int l6), (7, .int l7)] [.int k0] (qL_retreats_190 N c15 l0 l1 l2 l3 l5 l6 l7 k0) := by
  unfold qL_retreats_190
  refine os_istore (i := 4) (lv' := [(4, .int k0), (0, .ref l0), (1, .ref l1), (2, .int l2), (3, .ref l3), (5, .int l5), (6, .int l6), (7, .int l7)]) (Nat.le_of_ble_eq_true rfl) rfl (hL_retreats_1.at 48 rfl rfl) ?_
  refine os_aload_n (i := 3) (q := 3) (v := l3) 4 rfl rfl (hL_retreats_1.at 49 rfl rfl) ?_
  refine os_iload (v := l5) 5 rfl (hL_retreats_2.at 0 rfl rfl) ?_
  refine os_iload (v := l7) 7 rfl (hL_retreats_2.at 1 rfl rfl) ?_
  refine os_if_eq (off := 8) (tgt := 205) rfl (hL_retreats_2.at 2 rfl rfl) ?_ ?_
  · refine os_iconst (i := (-1)) (v := (-1 : Int32)) rfl (hL_retreats_2.at 5 rfl rfl) ?_
    exact osW.widen (k' := k15 + 125) (n' := n15 + 1043) (by omega) (by omega) (osW.sub [1, 2, 3, 4, 0, 5] rfl (sL_retreats_206 N k15 n15 hx15 c15 g15 l0 l1 l2 l3 k0 l5 (-1 : Int32) l5 l3))
  · refine os_iload (v := l6) 6 rfl (hL_retreats_2.at 3 rfl rfl) ?_
    refine os_goto (off := 4) (tgt := 206) rfl (hL_retreats_2.at 4 rfl rfl) ?_
    exact osW.widen (k' := k15 + 125) (n' := n15 + 1043) (by omega) (by omega) (osW.sub [1, 2, 3, 4, 0, 5] rfl (sL_retreats_206 N k15 n15 hx15 c15 g15 l0 l1 l2 l3 k0 l5 l6 l5 l3))
set_option maxRecDepth 100000 in
set_option maxHeartbeats 4000000 in
theorem sL_retreats_189 (N : Nat) (k15 n15 : Nat) (hx15 : k15 + 125 ≤ 1626 ∧ n15 + 1043 ≤ 13575) (c15 : Nat × Nat × Int32 × Nat × Int32 × Int32 → osM Int32) (g15 : ∀ (l0 : Nat) (l1 : Nat) (l2 : Int32) (l3 : Nat) (l4 : Int32) (l5 : Int32), osW (osFinM (fun r : Int32 => some (.int r)) 1757 14361) yL_retreats cL_retreats 9 (some .boolean) [] { frames := 9, cells := 1757, slots := 14361, locals := 212 } (k15 + 125) (n15 + 1043) 15 [(0, .ref l0), (1, .ref l1), (2, .int l2), (3, .ref l3), (4, .int l4), (5, .int l5)] [] (c15 (l0, l1, l2, l3, l4, l5))) (l0 : Nat) (l1 : Nat) (l2 : Int32) (l3 : Nat) (l5 : Int32) (l6 : Int32) (l7 : Int32) : osW (osFinM (fun r : Int32 => some (.int r)) 1757 14361) yL_retreats cL_retreats 9 (some .boolean) [] { frames := 9, cells := 1757, slots := 14361, locals := 212 } (k15 + 125) (n15 + 1043) 189 [(0, .ref l0), (1, .ref l1), (2, .int l2), (3, .ref l3), (5, .int l5), (6, .int l6), (7, .int l7)] [] (qL_retreats_189 N c15 l0 l1 l2 l3 l5 l6 l7) := by
  unfold qL_retreats_189
  refine os_iconst (i := 0) (v := (0 : Int32)) rfl (hL_retreats_1.at 47 rfl rfl) ?_
  exact osW.widen (k' := k15 + 125) (n' := n15 + 1043) (by omega) (by omega) (osW.sub [0, 1, 2, 3, 4, 5, 6] rfl (sL_retreats_190 N k15 n15 hx15 c15 g15 l0 l1 l2 l3 l5 l6 l7 (0 : Int32)))
set_option maxRecDepth 100000 in
set_option maxHeartbeats 4000000 in
theorem sL_retreats_180 (N : Nat) (k15 n15 : Nat) (hx15 : k15 + 125 ≤ 1626 ∧ n15 + 1043 ≤ 13575) (c15 : Nat × Nat × Int32 × Nat × Int32 × Int32 → osM Int32) (g15 : ∀ (l0 : Nat) (l1 : Nat) (l2 : Int32) (l3 : Nat) (l4 : Int32) (l5 : Int32), osW (osFinM (fun r : Int32 => some (.int r)) 1757 14361) yL_retreats cL_retreats 9 (some .boolean) [] { frames := 9, cells := 1757, slots := 14361, locals := 212 } (k15 + 125) (n15 + 1043) 15 [(0, .ref l0), (1, .ref l1), (2, .int l2), (3, .ref l3), (4, .int l4), (5, .int l5)] [] (c15 (l0, l1, l2, l3, l4, l5))) (l0 : Nat) (l1 : Nat) (l2 : Int32) (l3 : Nat) (l5 : Int32) (l6 : Int32) (l7 : Int32) (k0 : Int32) : osW (osFinM (fun r : Int32 => some (.int r)) 1757 14361) yL_retreats cL_retreats 9 (some .boolean) [] { frames := 9, cells := 1757, slots := 14361, locals := 212 } (k15 + 125) (n15 + 1043) 180 [(0, .ref l0), (1, .ref l1), (2, .int l2), (3, .ref l3), (5, .int l5), (6, .int l6), (7, .int l7)] [.int k0] (qL_retreats_180 N c15 l0 l1 l2 l3 l5 l6 l7 k0) := by
  unfold qL_retreats_180
  refine os_iload (v := l7) 6 rfl (hL_retreats_1.at 43 rfl rfl) ?_
  refine os_icmp_ne (off := 7) (tgt := 189) rfl (hL_retreats_1.at 44 rfl rfl) ?_ ?_
  · exact osW.widen (k' := k15 + 125) (n' := n15 + 1043) (by omega) (by omega) (osW.sub [0, 1, 2, 3, 4, 5, 6] rfl (sL_retreats_189 N k15 n15 hx15 c15 g15 l0 l1 l2 l3 l5 l6 l7))
  · refine os_iconst (i := 1) (v := (1 : Int32)) rfl (hL_retreats_1.at 45 rfl rfl) ?_
    refine os_goto (off := 4) (tgt := 190) rfl (hL_retreats_1.at 46 rfl rfl) ?_
    exact osW.widen (k' := k15 + 125) (n' := n15 + 1043) (by omega) (by omega) (osW.sub [0, 1, 2, 3, 4, 5, 6] rfl (sL_retreats_190 N k15 n15 hx15 c15 g15 l0 l1 l2 l3 l5 l6 l7 (1 : Int32)))
set_option maxRecDepth 100000 in
set_option maxHeartbeats 4000000 in
theorem sL_retreats_122 (N : Nat) (k15 n15 : Nat) (hx15 : k15 + 125 ≤ 1626 ∧ n15 + 1043 ≤ 13575) (c15 : Nat × Nat × Int32 × Nat × Int32 × Int32 → osM Int32) (g15 : ∀ (l0 : Nat) (l1 : Nat) (l2 : Int32) (l3 : Nat) (l4 : Int32) (l5 : Int32), osW (osFinM (fun r : Int32 => some (.int r)) 1757 14361) yL_retreats cL_retreats 9 (some .boolean) [] { frames := 9, cells := 1757, slots := 14361, locals := 212 } (k15 + 125) (n15 + 1043) 15 [(0, .ref l0), (1, .ref l1), (2, .int l2), (3, .ref l3), (4, .int l4), (5, .int l5)] [] (c15 (l0, l1, l2, l3, l4, l5))) (l0 : Nat) (l1 : Nat) (l2 : Int32) (l3 : Nat) (l5 : Int32) (l6 : Int32) (l7 : Int32) (k0 : Int32) : osW (osFinM (fun r : Int32 => some (.int r)) 1757 14361) yL_retreats cL_retreats 9 (some .boolean) [] { frames := 9, cells := 1757, slots := 14361, locals := 212 } (k15 + 13) (n15 + 78) 122 [(0, .ref l0), (1, .ref l1), (2, .int l2), (3, .ref l3), (5, .int l5), (6, .int l6), (7, .int l7)] [.int k0] (qL_retreats_122 N c15 l0 l1 l2 l3 l5 l6 l7 k0) := by
  unfold qL_retreats_122
  refine os_istore (i := 4) (lv' := [(4, .int k0), (0, .ref l0), (1, .ref l1), (2, .int l2), (3, .ref l3), (5, .int l5), (6, .int l6), (7, .int l7)]) (Nat.le_of_ble_eq_true rfl) rfl (hL_retreats_1.at 15 rfl rfl) ?_
  refine os_iload (v := k0) 0 rfl (hL_retreats_1.at 16 rfl rfl) ?_
  refine os_if_eq (off := 63) (tgt := 189) rfl (hL_retreats_1.at 17 rfl rfl) ?_ ?_
  · exact osW.widen (k' := k15 + 125) (n' := n15 + 1043) (by omega) (by omega) (osW.sub [1, 2, 3, 4, 5, 6, 7] rfl (sL_retreats_189 N k15 n15 hx15 c15 g15 l0 l1 l2 l3 l5 l6 l7))
  · refine os_aload_n (i := 0) (q := 0) (v := l0) 1 rfl rfl (hL_retreats_1.at 18 rfl rfl) ?_
    refine os_new (C := RJ4) (T := TJ4) (N := 4) (ci := 9) (ty0 := tyJ4) rfl tyJ4_ok osinJ4 wd834 wd835 wd64 dfJ4 (by show _ ≤ 1757; omega) (by show _ ≤ 14361; omega) (hL_retreats_1.at 19 rfl rfl) (fun x1 => ?_)
    refine os_dup rfl (hL_retreats_1.at 20 rfl rfl) ?_
    refine os_callI (b := x1) (As := []) (st := [.ref x1, .ref l0]) (st' := (fun _ => [.ref x1, .ref l0])) mdJ4_init_da8c8 rfl wd836 wd837 (sJ4_init_da8c8 N x1 ) rfl rfl (fun _ => rfl) (Nat.le_of_ble_eq_true rfl) (Nat.le_of_ble_eq_true rfl) (Nat.le_of_ble_eq_true rfl) rfl (by show _ ≤ 1757; omega) rfl (by show _ ≤ 14361; omega) (hL_retreats_1.at 21 rfl rfl) (fun _ => ?_)
    refine os_bipush (i := 97) (v := (97 : Int32)) rfl (hL_retreats_1.at 22 rfl rfl) ?_
    refine os_iload (v := l5) 5 rfl (hL_retreats_1.at 23 rfl rfl) ?_
    refine os_iadd (hL_retreats_1.at 24 rfl rfl) ?_
    refine os_i2c (hL_retreats_1.at 25 rfl rfl) ?_
    refine os_callV (cis := [9]) (b := x1) (As := [.int ((((97 : Int32) + l5).toUInt32 % 65536).toInt32)]) (st := [.ref l0]) (st' := (fun r => .ref r :: [.ref l0])) sl9_J4_append_cf468_J4_append_cf468 mdJ4_append_cf468 wd966 wd967 (sJ4_append_cf468 N x1 ((((97 : Int32) + l5).toUInt32 % 65536).toInt32)) rfl rfl (fun _ => rfl) (Nat.le_of_ble_eq_true rfl) (Nat.le_of_ble_eq_true rfl) (Nat.le_of_ble_eq_true rfl) rfl (by show _ ≤ 1757; omega) rfl (by show _ ≤ 14361; omega) (hL_retreats_1.at 26 rfl rfl) (fun x2 => ?_)
    refine os_text (j := 11) (q := ("OrderSettlerLaw", 83, " to ")) rfl rfl (hL_retreats_1.at 27 rfl rfl) (fun x3 => ?_)
    refine os_callV (cis := [9]) (b := x2) (As := [.ref x3]) (st := [.ref l0]) (st' := (fun r => .ref r :: [.ref l0])) sl9_J4_append_15ec4_J4_append_15ec4 mdJ4_append_15ec4 wd867 wd868 (sJ4_append_15ec4 N x2 x3) rfl rfl (fun _ => rfl) (Nat.le_of_ble_eq_true rfl) (Nat.le_of_ble_eq_true rfl) (Nat.le_of_ble_eq_true rfl) rfl (by show _ ≤ 1757; omega) rfl (by show _ ≤ 14361; omega) (hL_retreats_1.at 28 rfl rfl) (fun x4 => ?_)
    refine os_bipush (i := 97) (v := (97 : Int32)) rfl (hL_retreats_1.at 29 rfl rfl) ?_
    refine os_iload (v := l6) 6 rfl (hL_retreats_1.at 30 rfl rfl) ?_
    refine os_iadd (hL_retreats_1.at 31 rfl rfl) ?_
    refine os_i2c (hL_retreats_1.at 32 rfl rfl) ?_
    refine os_callV (cis := [9]) (b := x4) (As := [.int ((((97 : Int32) + l6).toUInt32 % 65536).toInt32)]) (st := [.ref l0]) (st' := (fun r => .ref r :: [.ref l0])) sl9_J4_append_cf468_J4_append_cf468 mdJ4_append_cf468 wd966 wd967 (sJ4_append_cf468 N x4 ((((97 : Int32) + l6).toUInt32 % 65536).toInt32)) rfl rfl (fun _ => rfl) (Nat.le_of_ble_eq_true rfl) (Nat.le_of_ble_eq_true rfl) (Nat.le_of_ble_eq_true rfl) rfl (by show _ ≤ 1757; omega) rfl (by show _ ≤ 14361; omega) (hL_retreats_1.at 33 rfl rfl) (fun x5 => ?_)
    refine os_text (j := 4) (q := ("OrderSettlerLaw", 61, ";")) rfl rfl (hL_retreats_1.at 34 rfl rfl) (fun x6 => ?_)
    refine os_callV (cis := [9]) (b := x5) (As := [.ref x6]) (st := [.ref l0]) (st' := (fun r => .ref r :: [.ref l0])) sl9_J4_append_15ec4_J4_append_15ec4 mdJ4_append_15ec4 wd867 wd868 (sJ4_append_15ec4 N x5 x6) rfl rfl (fun _ => rfl) (Nat.le_of_ble_eq_true rfl) (Nat.le_of_ble_eq_true rfl) (Nat.le_of_ble_eq_true rfl) rfl (by show _ ≤ 1757; omega) rfl (by show _ ≤ 14361; omega) (hL_retreats_1.at 35 rfl rfl) (fun x7 => ?_)
    refine os_callV (cis := [9]) (b := x7) (As := []) (st := [.ref l0]) (st' := (fun r => .ref r :: [.ref l0])) sl9_J4_toString_0e30d_J4_toString_0e30d mdJ4_toString_0e30d wd986 wd987 (sJ4_toString_0e30d N x7 ) rfl rfl (fun _ => rfl) (Nat.le_of_ble_eq_true rfl) (Nat.le_of_ble_eq_true rfl) (Nat.le_of_ble_eq_true rfl) rfl (by show _ ≤ 1757; omega) rfl (by show _ ≤ 14361; omega) (hL_retreats_1.at 36 rfl rfl) (fun x8 => ?_)
    refine os_callSH (np := 2) (As := [.ref l0, .ref x8]) (st := []) (st' := (fun r => .int r :: [])) wd1097 wd53 (by decide +kernel) (by decide +kernel) wd1095 wd1096 (sL_tell N l0 x8) rfl rfl (fun _ => rfl) (Nat.le_of_ble_eq_true rfl) (Nat.le_of_ble_eq_true rfl) (Nat.le_of_ble_eq_true rfl) rfl (by show _ ≤ 1757; omega) rfl (by show _ ≤ 14361; omega) (hL_retreats_1.at 37 rfl rfl) (fun x9 => ?_)
    refine os_iconst (i := 1) (v := (1 : Int32)) rfl (hL_retreats_1.at 38 rfl rfl) ?_
    refine os_icmp_ne (off := 7) (tgt := 179) rfl (hL_retreats_1.at 39 rfl rfl) ?_ ?_
    · refine os_iconst (i := 0) (v := (0 : Int32)) rfl (hL_retreats_1.at 42 rfl rfl) ?_
      exact osW.widen (k' := k15 + 125) (n' := n15 + 1043) (by omega) (by omega) (osW.sub [1, 2, 3, 4, 5, 6, 7] rfl (sL_retreats_180 N k15 n15 hx15 c15 g15 l0 l1 l2 l3 l5 l6 l7 (0 : Int32)))
    · refine os_iconst (i := 1) (v := (1 : Int32)) rfl (hL_retreats_1.at 40 rfl rfl) ?_
      refine os_goto (off := 4) (tgt := 180) rfl (hL_retreats_1.at 41 rfl rfl) ?_
      exact osW.widen (k' := k15 + 125) (n' := n15 + 1043) (by omega) (by omega) (osW.sub [1, 2, 3, 4, 5, 6, 7] rfl (sL_retreats_180 N k15 n15 hx15 c15 g15 l0 l1 l2 l3 l5 l6 l7 (1 : Int32)))
set_option maxRecDepth 100000 in
set_option maxHeartbeats 4000000 in
theorem sL_retreats_117 (N : Nat) (k15 n15 : Nat) (hx15 : k15 + 125 ≤ 1626 ∧ n15 + 1043 ≤ 13575) (c15 : Nat × Nat × Int32 × Nat × Int32 × Int32 → osM Int32) (g15 : ∀ (l0 : Nat) (l1 : Nat) (l2 : Int32) (l3 : Nat) (l4 : Int32) (l5 : Int32), osW (osFinM (fun r : Int32 => some (.int r)) 1757 14361) yL_retreats cL_retreats 9 (some .boolean) [] { frames := 9, cells := 1757, slots := 14361, locals := 212 } (k15 + 125) (n15 + 1043) 15 [(0, .ref l0), (1, .ref l1), (2, .int l2), (3, .ref l3), (4, .int l4), (5, .int l5)] [] (c15 (l0, l1, l2, l3, l4, l5))) (l0 : Nat) (l1 : Nat) (l2 : Int32) (l3 : Nat) (l5 : Int32) (l6 : Int32) (l7 : Int32) : osW (osFinM (fun r : Int32 => some (.int r)) 1757 14361) yL_retreats cL_retreats 9 (some .boolean) [] { frames := 9, cells := 1757, slots := 14361, locals := 212 } (k15 + 13) (n15 + 78) 117 [(0, .ref l0), (1, .ref l1), (2, .int l2), (3, .ref l3), (5, .int l5), (6, .int l6), (7, .int l7)] [] (qL_retreats_117 N c15 l0 l1 l2 l3 l5 l6 l7) := by
  unfold qL_retreats_117
  refine os_iconst (i := 1) (v := (1 : Int32)) rfl (hL_retreats_1.at 12 rfl rfl) ?_
  refine os_goto (off := 4) (tgt := 122) rfl (hL_retreats_1.at 13 rfl rfl) ?_
  exact osW.widen (k' := k15 + 13) (n' := n15 + 78) (by omega) (by omega) (osW.sub [0, 1, 2, 3, 4, 5, 6] rfl (sL_retreats_122 N k15 n15 hx15 c15 g15 l0 l1 l2 l3 l5 l6 l7 (1 : Int32)))
set_option maxRecDepth 100000 in
set_option maxHeartbeats 4000000 in
theorem sL_retreats_121 (N : Nat) (k15 n15 : Nat) (hx15 : k15 + 125 ≤ 1626 ∧ n15 + 1043 ≤ 13575) (c15 : Nat × Nat × Int32 × Nat × Int32 × Int32 → osM Int32) (g15 : ∀ (l0 : Nat) (l1 : Nat) (l2 : Int32) (l3 : Nat) (l4 : Int32) (l5 : Int32), osW (osFinM (fun r : Int32 => some (.int r)) 1757 14361) yL_retreats cL_retreats 9 (some .boolean) [] { frames := 9, cells := 1757, slots := 14361, locals := 212 } (k15 + 125) (n15 + 1043) 15 [(0, .ref l0), (1, .ref l1), (2, .int l2), (3, .ref l3), (4, .int l4), (5, .int l5)] [] (c15 (l0, l1, l2, l3, l4, l5))) (l0 : Nat) (l1 : Nat) (l2 : Int32) (l3 : Nat) (l5 : Int32) (l6 : Int32) (l7 : Int32) : osW (osFinM (fun r : Int32 => some (.int r)) 1757 14361) yL_retreats cL_retreats 9 (some .boolean) [] { frames := 9, cells := 1757, slots := 14361, locals := 212 } (k15 + 13) (n15 + 78) 121 [(0, .ref l0), (1, .ref l1), (2, .int l2), (3, .ref l3), (5, .int l5), (6, .int l6), (7, .int l7)] [] (qL_retreats_121 N c15 l0 l1 l2 l3 l5 l6 l7) := by
  unfold qL_retreats_121
  refine os_iconst (i := 0) (v := (0 : Int32)) rfl (hL_retreats_1.at 14 rfl rfl) ?_
  exact osW.widen (k' := k15 + 13) (n' := n15 + 78) (by omega) (by omega) (osW.sub [0, 1, 2, 3, 4, 5, 6] rfl (sL_retreats_122 N k15 n15 hx15 c15 g15 l0 l1 l2 l3 l5 l6 l7 (0 : Int32)))
set_option maxRecDepth 100000 in
set_option maxHeartbeats 4000000 in
theorem sL_retreats_111 (N : Nat) (k15 n15 : Nat) (hx15 : k15 + 125 ≤ 1626 ∧ n15 + 1043 ≤ 13575) (c15 : Nat × Nat × Int32 × Nat × Int32 × Int32 → osM Int32) (g15 : ∀ (l0 : Nat) (l1 : Nat) (l2 : Int32) (l3 : Nat) (l4 : Int32) (l5 : Int32), osW (osFinM (fun r : Int32 => some (.int r)) 1757 14361) yL_retreats cL_retreats 9 (some .boolean) [] { frames := 9, cells := 1757, slots := 14361, locals := 212 } (k15 + 125) (n15 + 1043) 15 [(0, .ref l0), (1, .ref l1), (2, .int l2), (3, .ref l3), (4, .int l4), (5, .int l5)] [] (c15 (l0, l1, l2, l3, l4, l5))) (l0 : Nat) (l1 : Nat) (l2 : Int32) (l3 : Nat) (l5 : Int32) (l6 : Int32) (l7 : Int32) (k0 : Int32) (k1 : Int32) (k2 : Int32) (k3 : Nat) : osW (osFinM (fun r : Int32 => some (.int r)) 1757 14361) yL_retreats cL_retreats 9 (some .boolean) [] { frames := 9, cells := 1757, slots := 14361, locals := 212 } (k15 + 11) (n15 + 66) 111 [(0, .ref l0), (1, .ref l1), (2, .int l2), (3, .ref l3), (5, .int l5), (6, .int l6), (7, .int l7)] [.int k0, .int k1, .int k2, .ref k3] (qL_retreats_111 N c15 l0 l1 l2 l3 l5 l6 l7 k0 k1 k2 k3) := by
  unfold qL_retreats_111
  refine os_callV (cis := [7]) (b := k3) (As := [.int k2, .int k1, .int k0]) (st := []) (st' := (fun r => .int r :: [])) sl7_X9_passes_X9_passes mdX9_passes wd1466 wd1467 (osMetT.sure (sX9_passes N k3 k2 k1 k0)) rfl rfl (fun _ => rfl) (Nat.le_of_ble_eq_true rfl) (Nat.le_of_ble_eq_true rfl) (Nat.le_of_ble_eq_true rfl) rfl (by show _ ≤ 1757; omega) rfl (by show _ ≤ 14361; omega) (hL_retreats_1.at 10 rfl rfl) (fun x1 => ?_)
  refine os_if_eq (off := 7) (tgt := 121) rfl (hL_retreats_1.at 11 rfl rfl) ?_ ?_
  · exact osW.widen (k' := k15 + 13) (n' := n15 + 78) (by omega) (by omega) (osW.sub [0, 1, 2, 3, 4, 5, 6] rfl (sL_retreats_121 N k15 n15 hx15 c15 g15 l0 l1 l2 l3 l5 l6 l7))
  · exact osW.widen (k' := k15 + 13) (n' := n15 + 78) (by omega) (by omega) (osW.sub [0, 1, 2, 3, 4, 5, 6] rfl (sL_retreats_117 N k15 n15 hx15 c15 g15 l0 l1 l2 l3 l5 l6 l7))
set_option maxRecDepth 100000 in
set_option maxHeartbeats 4000000 in
theorem tL_retreats_15 (N : Nat) (k15 n15 : Nat) (hx15 : k15 + 125 ≤ 1626 ∧ n15 + 1043 ≤ 13575) (c15 : Nat × Nat × Int32 × Nat × Int32 × Int32 → osM Int32) (g15 : ∀ (l0 : Nat) (l1 : Nat) (l2 : Int32) (l3 : Nat) (l4 : Int32) (l5 : Int32), osW (osFinM (fun r : Int32 => some (.int r)) 1757 14361) yL_retreats cL_retreats 9 (some .boolean) [] { frames := 9, cells := 1757, slots := 14361, locals := 212 } (k15 + 125) (n15 + 1043) 15 [(0, .ref l0), (1, .ref l1), (2, .int l2), (3, .ref l3), (4, .int l4), (5, .int l5)] [] (c15 (l0, l1, l2, l3, l4, l5))) (l0 : Nat) (l1 : Nat) (l2 : Int32) (l3 : Nat) (l4 : Int32) (l5 : Int32) : osW (osFinM (fun r : Int32 => some (.int r)) 1757 14361) yL_retreats cL_retreats 9 (some .boolean) [] { frames := 9, cells := 1757, slots := 14361, locals := 212 } (k15) (n15) 15 [(0, .ref l0), (1, .ref l1), (2, .int l2), (3, .ref l3), (4, .int l4), (5, .int l5)] [] (bL_retreats_15 N c15 l0 l1 l2 l3 l4 l5) := by
  unfold bL_retreats_15
  refine os_iload (v := l5) 5 rfl (hL_retreats_0.at 10 rfl rfl) ?_
  refine os_iload_n (i := 2) (q := 2) (v := l2) 2 rfl rfl (hL_retreats_0.at 11 rfl rfl) ?_
  refine os_icmp_ge (off := 195) (tgt := 213) rfl (hL_retreats_0.at 12 rfl rfl) ?_ ?_
  · exact osW.widen (k' := 1626) (n' := 13575) (by omega) (by omega) (osW.sub [0, 2, 3, 4] rfl (sL_retreats_213 N l0 l2 l3 l4))
  · refine os_iload (v := l4) 4 rfl (hL_retreats_0.at 13 rfl rfl) ?_
    refine os_if_eq (off := 190) (tgt := 213) rfl (hL_retreats_0.at 14 rfl rfl) ?_ ?_
    · exact osW.widen (k' := 1626) (n' := 13575) (by omega) (by omega) (osW.sub [0, 2, 3, 4] rfl (sL_retreats_213 N l0 l2 l3 l4))
    · refine os_aload_n (i := 3) (q := 3) (v := l3) 3 rfl rfl (hL_retreats_0.at 15 rfl rfl) ?_
      refine os_iload (v := l5) 5 rfl (hL_retreats_0.at 16 rfl rfl) ?_
      refine os_iconst (i := (-1)) (v := (-1 : Int32)) rfl (hL_retreats_0.at 17 rfl rfl) ?_
      refine os_iastore (hL_retreats_0.at 18 rfl rfl) ?_
      refine os_aload_n (i := 0) (q := 0) (v := l0) 0 rfl rfl (hL_retreats_0.at 19 rfl rfl) ?_
      refine os_iload (v := l5) 5 rfl (hL_retreats_0.at 20 rfl rfl) ?_
      refine os_bipush (i := 6) (v := (6 : Int32)) rfl (hL_retreats_0.at 21 rfl rfl) ?_
      refine os_callV (cis := [7]) (b := l0) (As := [.int l5, .int (6 : Int32)]) (st := []) (st' := (fun r => .int r :: [])) sl7_X9_area_X9_area mdX9_area wd1052 wd1053 (osMetT.sure (sX9_area N l0 l5 (6 : Int32))) rfl rfl (fun _ => rfl) (Nat.le_of_ble_eq_true rfl) (Nat.le_of_ble_eq_true rfl) (Nat.le_of_ble_eq_true rfl) rfl (by show _ ≤ 1757; omega) rfl (by show _ ≤ 14361; omega) (hL_retreats_0.at 22 rfl rfl) (fun x1 => ?_)
      refine os_iconst (i := (-1)) (v := (-1 : Int32)) rfl (hL_retreats_0.at 23 rfl rfl) ?_
      refine os_icmp_ne (off := 6) (tgt := 46) rfl (hL_retreats_0.at 24 rfl rfl) ?_ ?_
      · refine os_aload_n (i := 1) (q := 1) (v := l1) 1 rfl rfl (hL_retreats_0.at 26 rfl rfl) ?_
        refine os_callS (As := [.ref l1]) (st := []) (st' := (fun r => .int r :: [])) mdL_next wd484 wd485 (sL_next N l1) rfl rfl (fun _ => rfl) (Nat.le_of_ble_eq_true rfl) (Nat.le_of_ble_eq_true rfl) (Nat.le_of_ble_eq_true rfl) rfl (by show _ ≤ 1757; omega) rfl (by show _ ≤ 14361; omega) (hL_retreats_0.at 27 rfl rfl) (fun x2 => ?_)
        refine os_iload_n (i := 2) (q := 2) (v := l2) 2 rfl rfl (hL_retreats_0.at 28 rfl rfl) ?_
        refine os_guard (fun h3 => ?_)
        refine os_irem h3 (hL_retreats_0.at 29 rfl rfl) ?_
        refine os_istore (i := 6) (lv' := [(6, .int (x2 - x2 / l2 * l2)), (0, .ref l0), (1, .ref l1), (2, .int l2), (3, .ref l3), (4, .int l4), (5, .int l5)]) (Nat.le_of_ble_eq_true rfl) rfl (hL_retreats_0.at 30 rfl rfl) ?_
        refine os_aload_n (i := 0) (q := 0) (v := l0) 1 rfl rfl (hL_retreats_0.at 31 rfl rfl) ?_
        refine os_iload (v := l5) 6 rfl (hL_retreats_0.at 32 rfl rfl) ?_
        refine os_iload (v := (x2 - x2 / l2 * l2)) 0 rfl (hL_retreats_0.at 33 rfl rfl) ?_
        refine os_callSH (np := 3) (As := [.ref l0, .int l5, .int (x2 - x2 / l2 * l2)]) (st := []) (st' := (fun r => .int r :: [])) wd1453 wd53 (by decide +kernel) (by decide +kernel) wd1451 wd1452 (sL_may N l0 l5 (x2 - x2 / l2 * l2)) rfl rfl (fun _ => rfl) (Nat.le_of_ble_eq_true rfl) (Nat.le_of_ble_eq_true rfl) (Nat.le_of_ble_eq_true rfl) rfl (by show _ ≤ 1757; omega) rfl (by show _ ≤ 14361; omega) (hL_retreats_0.at 34 rfl rfl) (fun x4 => ?_)
        refine os_istore (i := 7) (lv' := [(7, .int x4), (6, .int (x2 - x2 / l2 * l2)), (0, .ref l0), (1, .ref l1), (2, .int l2), (3, .ref l3), (4, .int l4), (5, .int l5)]) (Nat.le_of_ble_eq_true rfl) rfl (hL_retreats_0.at 35 rfl rfl) ?_
        refine os_iload (v := x4) 0 rfl (hL_retreats_0.at 36 rfl rfl) ?_
        refine os_if_eq (off := 51) (tgt := 117) rfl (hL_retreats_0.at 37 rfl rfl) ?_ ?_
        · exact osW.widen (k' := k15 + 13) (n' := n15 + 78) (by omega) (by omega) (osW.sub [2, 3, 4, 5, 7, 1, 0] rfl (sL_retreats_117 N k15 n15 hx15 c15 g15 l0 l1 l2 l3 l5 (x2 - x2 / l2 * l2) x4))
        · refine os_aload_n (i := 0) (q := 0) (v := l0) 2 rfl rfl (hL_retreats_0.at 38 rfl rfl) ?_
          refine os_iload (v := (x2 - x2 / l2 * l2)) 1 rfl (hL_retreats_0.at 39 rfl rfl) ?_
          refine os_iconst (i := 4) (v := (4 : Int32)) rfl (hL_retreats_0.at 40 rfl rfl) ?_
          refine os_callV (cis := [7]) (b := l0) (As := [.int (x2 - x2 / l2 * l2), .int (4 : Int32)]) (st := []) (st' := (fun r => .int r :: [])) sl7_X9_area_X9_area mdX9_area wd1052 wd1053 (osMetT.sure (sX9_area N l0 (x2 - x2 / l2 * l2) (4 : Int32))) rfl rfl (fun _ => rfl) (Nat.le_of_ble_eq_true rfl) (Nat.le_of_ble_eq_true rfl) (Nat.le_of_ble_eq_true rfl) rfl (by show _ ≤ 1757; omega) rfl (by show _ ≤ 14361; omega) (hL_retreats_0.at 41 rfl rfl) (fun x5 => ?_)
          refine os_iconst (i := (-1)) (v := (-1 : Int32)) rfl (hL_retreats_0.at 42 rfl rfl) ?_
          refine os_icmp_ne (off := 44) (tgt := 121) rfl (hL_retreats_0.at 43 rfl rfl) ?_ ?_
          · exact osW.widen (k' := k15 + 13) (n' := n15 + 78) (by omega) (by omega) (osW.sub [2, 3, 4, 5, 7, 1, 0] rfl (sL_retreats_121 N k15 n15 hx15 c15 g15 l0 l1 l2 l3 l5 (x2 - x2 / l2 * l2) x4))
          · refine os_aload_n (i := 0) (q := 0) (v := l0) 2 rfl rfl (hL_retreats_0.at 44 rfl rfl) ?_
            refine os_iload (v := (x2 - x2 / l2 * l2)) 1 rfl (hL_retreats_0.at 45 rfl rfl) ?_
            refine os_callV (cis := [7]) (b := l0) (As := [.int (x2 - x2 / l2 * l2)]) (st := []) (st' := (fun r => .int r :: [])) sl7_X9_isContested_X9_isContested mdX9_isContested wd1462 wd1463 (osMetT.sure (sX9_isContested N l0 (x2 - x2 / l2 * l2))) rfl rfl (fun _ => rfl) (Nat.le_of_ble_eq_true rfl) (Nat.le_of_ble_eq_true rfl) (Nat.le_of_ble_eq_true rfl) rfl (by show _ ≤ 1757; omega) rfl (by show _ ≤ 14361; omega) (hL_retreats_0.at 46 rfl rfl) (fun x6 => ?_)
            refine os_if_ne (off := 35) (tgt := 121) rfl (hL_retreats_0.at 47 rfl rfl) ?_ ?_
            · exact osW.widen (k' := k15 + 13) (n' := n15 + 78) (by omega) (by omega) (osW.sub [2, 3, 4, 5, 7, 1, 0] rfl (sL_retreats_121 N k15 n15 hx15 c15 g15 l0 l1 l2 l3 l5 (x2 - x2 / l2 * l2) x4))
            · refine os_aload_n (i := 0) (q := 0) (v := l0) 2 rfl rfl (hL_retreats_0.at 48 rfl rfl) ?_
              refine os_iload (v := l5) 7 rfl (hL_retreats_0.at 49 rfl rfl) ?_
              refine os_iload (v := (x2 - x2 / l2 * l2)) 1 rfl (hL_retreats_1.at 0 rfl rfl) ?_
              refine os_aload_n (i := 0) (q := 0) (v := l0) 2 rfl rfl (hL_retreats_1.at 1 rfl rfl) ?_
              refine os_iload (v := l5) 7 rfl (hL_retreats_1.at 2 rfl rfl) ?_
              refine os_bipush (i := 7) (v := (7 : Int32)) rfl (hL_retreats_1.at 3 rfl rfl) ?_
              refine os_callV (cis := [7]) (b := l0) (As := [.int l5, .int (7 : Int32)]) (st := [.int (x2 - x2 / l2 * l2), .int l5, .ref l0]) (st' := (fun r => .int r :: [.int (x2 - x2 / l2 * l2), .int l5, .ref l0])) sl7_X9_area_X9_area mdX9_area wd1052 wd1053 (osMetT.sure (sX9_area N l0 l5 (7 : Int32))) rfl rfl (fun _ => rfl) (Nat.le_of_ble_eq_true rfl) (Nat.le_of_ble_eq_true rfl) (Nat.le_of_ble_eq_true rfl) rfl (by show _ ≤ 1757; omega) rfl (by show _ ≤ 14361; omega) (hL_retreats_1.at 4 rfl rfl) (fun x7 => ?_)
              refine os_iconst (i := 1) (v := (1 : Int32)) rfl (hL_retreats_1.at 5 rfl rfl) ?_
              refine os_icmp_ne (off := 7) (tgt := 110) rfl (hL_retreats_1.at 6 rfl rfl) ?_ ?_
              · refine os_iconst (i := 0) (v := (0 : Int32)) rfl (hL_retreats_1.at 9 rfl rfl) ?_
                exact osW.widen (k' := k15 + 11) (n' := n15 + 66) (by omega) (by omega) (osW.sub [2, 3, 4, 5, 7, 1, 0] rfl (sL_retreats_111 N k15 n15 hx15 c15 g15 l0 l1 l2 l3 l5 (x2 - x2 / l2 * l2) x4 (0 : Int32) (x2 - x2 / l2 * l2) l5 l0))
              · refine os_iconst (i := 1) (v := (1 : Int32)) rfl (hL_retreats_1.at 7 rfl rfl) ?_
                refine os_goto (off := 4) (tgt := 111) rfl (hL_retreats_1.at 8 rfl rfl) ?_
                exact osW.widen (k' := k15 + 11) (n' := n15 + 66) (by omega) (by omega) (osW.sub [2, 3, 4, 5, 7, 1, 0] rfl (sL_retreats_111 N k15 n15 hx15 c15 g15 l0 l1 l2 l3 l5 (x2 - x2 / l2 * l2) x4 (1 : Int32) (x2 - x2 / l2 * l2) l5 l0))
      · refine os_goto (off := 164) (tgt := 207) rfl (hL_retreats_0.at 25 rfl rfl) ?_
        exact osW.widen (k' := k15 + 125) (n' := n15 + 1043) (by omega) (by omega) (osW.sub [0, 1, 2, 3, 4, 5] rfl (sL_retreats_207 N k15 n15 hx15 c15 g15 l0 l1 l2 l3 l4 l5))
set_option maxRecDepth 100000 in
set_option maxHeartbeats 4000000 in
theorem sL_retreats_15 (N : Nat) (l0 : Nat) (l1 : Nat) (l2 : Int32) (l3 : Nat) (l4 : Int32) (l5 : Int32) : osW (osFinM (fun r : Int32 => some (.int r)) 1757 14361) yL_retreats cL_retreats 9 (some .boolean) [] { frames := 9, cells := 1757, slots := 14361, locals := 212 } (1) (16) 15 [(0, .ref l0), (1, .ref l1), (2, .int l2), (3, .ref l3), (4, .int l4), (5, .int l5)] [] (qL_retreats_15 N (l0, l1, l2, l3, l4, l5)) := by
  refine osW.widen (k' := (1) + 125 * (13 - 13)) (n' := (16) + 1043 * (13 - 13)) (by omega) (by omega) ?_
  exact osloop_K (lvf := fun p => [(0, .ref p.1), (1, .ref p.2.1), (2, .int p.2.2.1), (3, .ref p.2.2.2.1), (4, .int p.2.2.2.2.1), (5, .int p.2.2.2.2.2)]) (stf := fun p => []) 13 125 1043 (1) (16) (fun f hf ih g p => tL_retreats_15 N ((1) + 125 * (13 - (f + 1))) ((16) + 1043 * (13 - (f + 1))) (by omega) ih (fun l0 l1 l2 l3 l4 l5 => osW.widen (by omega) (by omega) (g (l0, l1, l2, l3, l4, l5))) p.1 p.2.1 p.2.2.1 p.2.2.2.1 p.2.2.2.2.1 p.2.2.2.2.2) 13 (Nat.le_refl _) (l0, l1, l2, l3, l4, l5)
set_option maxRecDepth 100000 in
set_option maxHeartbeats 4000000 in
theorem sL_retreats (N : Nat) (l0 : Nat) (l1 : Nat) : osMet yL_retreats cL_retreats 9 (some .boolean) 9 212 1757 14361 (fun r : Int32 => some (.int r)) [.ref l0, .ref l1] (qL_retreats N l0 l1) := by
  refine osMet.of plL (Nat.le_of_ble_eq_true rfl) (osW.rw (lv2 := [(0, .ref l0), (1, .ref l1)]) ?_ rfl rfl rfl)
  unfold qL_retreats
  refine os_aload_n (i := 0) (q := 0) (v := l0) 0 rfl rfl (hL_retreats_0.at 0 rfl rfl) ?_
  refine os_callV (cis := [7]) (b := l0) (As := []) (st := []) (st' := (fun r => .int r :: [])) sl7_X9_areas_X9_areas mdX9_areas wd472 wd473 (sX9_areas N l0 ) rfl rfl (fun _ => rfl) (Nat.le_of_ble_eq_true rfl) (Nat.le_of_ble_eq_true rfl) (Nat.le_of_ble_eq_true rfl) rfl (by show _ ≤ 1757; omega) rfl (by show _ ≤ 14361; omega) (hL_retreats_0.at 1 rfl rfl) (fun x1 => ?_)
  refine os_istore_n (i := 2) (q := 2) rfl (lv' := [(2, .int x1), (0, .ref l0), (1, .ref l1)]) (Nat.le_of_ble_eq_true rfl) rfl (hL_retreats_0.at 2 rfl rfl) ?_
  refine os_iload_n (i := 2) (q := 2) (v := x1) 0 rfl rfl (hL_retreats_0.at 3 rfl rfl) ?_
  refine os_newI (B9 := 16) wd248 (by show _ ≤ 1757; omega) (by show _ ≤ 14361; omega) (hL_retreats_0.at 4 rfl rfl) (fun x2 => ?_)
  refine os_astore_n (i := 3) (q := 3) rfl (lv' := [(3, .ref x2), (2, .int x1), (0, .ref l0), (1, .ref l1)]) (Nat.le_of_ble_eq_true rfl) rfl (hL_retreats_0.at 5 rfl rfl) ?_
  refine os_iconst (i := 1) (v := (1 : Int32)) rfl (hL_retreats_0.at 6 rfl rfl) ?_
  refine os_istore (i := 4) (lv' := [(4, .int (1 : Int32)), (3, .ref x2), (2, .int x1), (0, .ref l0), (1, .ref l1)]) (Nat.le_of_ble_eq_true rfl) rfl (hL_retreats_0.at 7 rfl rfl) ?_
  refine os_iconst (i := 0) (v := (0 : Int32)) rfl (hL_retreats_0.at 8 rfl rfl) ?_
  refine os_istore (i := 5) (lv' := [(5, .int (0 : Int32)), (4, .int (1 : Int32)), (3, .ref x2), (2, .int x1), (0, .ref l0), (1, .ref l1)]) (Nat.le_of_ble_eq_true rfl) rfl (hL_retreats_0.at 9 rfl rfl) ?_
  exact osW.widen (k' := 1) (n' := 16) (by omega) (by omega) (osW.sub [4, 5, 3, 2, 1, 0] rfl (sL_retreats_15 N l0 l1 x1 x2 (1 : Int32) (0 : Int32)))
-- L_builds
def qL_builds_373 (N : Nat) (k0 : Int32) : osM Int32 := osretZ k0
def qL_builds_372 (N : Nat) : osM Int32 := qL_builds_373 N (0 : Int32)
def bL_builds_285 (N : Nat) (c285 : Nat × Int32 × Int32 × Int32 → osM Int32) (l0 : Nat) (l2 : Int32) (l3 : Int32) (l4 : Int32) : osM Int32 := osbind (osrecv [7] l0 (qX9_powers N l0)) fun x1 => osite (x1 ≤ l4) (osbind (qL_units_ N l0) fun x2 => osbind (osrecv [7] l0 (qX9_turn N l0)) fun x3 => osite (l2 = 0) (qL_builds_372 N ) (osbind (osrecv [7] l0 (osRV (qX9_endBuilds N l0))) fun x4 => osite (x4 = (-l3)) (osbind (qL_units_ N l0) fun x5 => osite (x5 = (x2 + l3)) (osbind (osrecv [7] l0 (qX9_turn N l0)) fun x6 => osite (x6 = (x3 + (1 : Int32))) (osbind (osrecv [7] l0 (qX9_phase N l0)) fun x7 => osite (x7 = 0) (qL_builds_373 N (1 : Int32)) (qL_builds_372 N )) (qL_builds_372 N )) (qL_builds_372 N )) (qL_builds_372 N ))) (osbind (osrecv [7] l0 (osRV (qX9_power N l0 l4 (3 : Int32)))) fun x8 => osbind (osret ((l3 + (osmin (0 : Int32) x8)) : Int32)) fun x9 => c285 (l0, l2, x9, (l4 + (1 : Int32))))
def qL_builds_285 (N : Nat) : Nat × Int32 × Int32 × Int32 → osM Int32 := osloop (fun ih p => bL_builds_285 N ih p.1 p.2.1 p.2.2.1 p.2.2.2) 7
def qL_builds_280 (N : Nat) (l0 : Nat) (l2 : Int32) : osM Int32 := qL_builds_285 N (l0, l2, (0 : Int32), (0 : Int32))
def qL_builds_273 (N : Nat) (c4 : Nat × Nat × Int32 × Int32 → osM Int32) (l0 : Nat) (l1 : Nat) (l3 : Int32) (k0 : Int32) : osM Int32 := c4 (l0, l1, k0, (l3 + (1 : Int32)))
def qL_builds_272 (N : Nat) (c4 : Nat × Nat × Int32 × Int32 → osM Int32) (l0 : Nat) (l1 : Nat) (l3 : Int32) : osM Int32 := qL_builds_273 N c4 l0 l1 l3 (0 : Int32)
def qL_builds_264 (N : Nat) (c4 : Nat × Nat × Int32 × Int32 → osM Int32) (l0 : Nat) (l1 : Nat) (l3 : Int32) (k0 : Int32) (k1 : Int32) (k2 : Int32) : osM Int32 := osite (k2 = (k1 - k0)) (qL_builds_273 N c4 l0 l1 l3 (1 : Int32)) (qL_builds_272 N c4 l0 l1 l3)
def qL_builds_243 (N : Nat) (c4 : Nat × Nat × Int32 × Int32 → osM Int32) (l0 : Nat) (l1 : Nat) (l3 : Int32) (l5 : Int32) (l9 : Int32) (k0 : Int32) : osM Int32 := osite (k0 = l9) (osbind (qL_units_ N l0) fun x1 => osite (l9 = 0) (qL_builds_264 N c4 l0 l1 l3 (0 : Int32) l5 x1) (qL_builds_264 N c4 l0 l1 l3 (1 : Int32) l5 x1)) (qL_builds_272 N c4 l0 l1 l3)
def qL_builds_189 (N : Nat) (c4 : Nat × Nat × Int32 × Int32 → osM Int32) (l0 : Nat) (l1 : Nat) (l2 : Int32) (l3 : Int32) (l4 : Int32) (k0 : Int32) : osM Int32 := osbind (qL_units_ N l0) fun x1 => osite (l2 = 0) (qL_builds_272 N c4 l0 l1 l3) (osbind (osnew (.inr (9, [.null, .int 0, .int 0, .int 0]))) fun x2 => osbind (qJ4_init_da8c8 N x2) fun _ => osbind (ostext 16) fun x3 => osbind (osrecv [9] x2 (qJ4_append_15ec4 N x2 x3)) fun x4 => osbind (osrecv [9] x4 (qJ4_append_cf468 N x4 ((((97 : Int32) + l4).toUInt32 % 65536).toInt32))) fun x5 => osbind (ostext 4) fun x6 => osbind (osrecv [9] x5 (qJ4_append_15ec4 N x5 x6)) fun x7 => osbind (osrecv [9] x7 (qJ4_toString_0e30d N x7)) fun x8 => osbind (qL_tell N l0 x8) fun x9 => osite (x9 = (1 : Int32)) (qL_builds_243 N c4 l0 l1 l3 x1 k0 (1 : Int32)) (qL_builds_243 N c4 l0 l1 l3 x1 k0 (0 : Int32)))
def qL_builds_188 (N : Nat) (c4 : Nat × Nat × Int32 × Int32 → osM Int32) (l0 : Nat) (l1 : Nat) (l2 : Int32) (l3 : Int32) (l4 : Int32) : osM Int32 := qL_builds_189 N c4 l0 l1 l2 l3 l4 (0 : Int32)
def qL_builds_158 (N : Nat) (c4 : Nat × Nat × Int32 × Int32 → osM Int32) (l0 : Nat) (l1 : Nat) (l3 : Int32) (l4 : Int32) (k0 : Int32) : osM Int32 := osbind (osrecv [7] l0 (osRV (qX9_area N l0 l4 (4 : Int32)))) fun x1 => osite (x1 = (-1 : Int32)) (qL_builds_188 N c4 l0 l1 k0 l3 l4) (osbind (osrecv [7] l0 (osRV (qX9_power N l0 x1 (3 : Int32)))) fun x2 => osite (0 ≤ x2) (qL_builds_188 N c4 l0 l1 k0 l3 l4) (qL_builds_189 N c4 l0 l1 k0 l3 l4 (1 : Int32)))
def qL_builds_157 (N : Nat) (c4 : Nat × Nat × Int32 × Int32 → osM Int32) (l0 : Nat) (l1 : Nat) (l3 : Int32) (l4 : Int32) : osM Int32 := qL_builds_158 N c4 l0 l1 l3 l4 (0 : Int32)
def qL_builds_149 (N : Nat) (c4 : Nat × Nat × Int32 × Int32 → osM Int32) (l0 : Nat) (l1 : Nat) (l3 : Int32) (l4 : Int32) (k0 : Int32) (k1 : Int32) (k2 : Int32) : osM Int32 := osite (k2 = (k1 + k0)) (qL_builds_158 N c4 l0 l1 l3 l4 (1 : Int32)) (qL_builds_157 N c4 l0 l1 l3 l4)
def qL_builds_128 (N : Nat) (c4 : Nat × Nat × Int32 × Int32 → osM Int32) (l0 : Nat) (l1 : Nat) (l3 : Int32) (l4 : Int32) (l5 : Int32) (l7 : Int32) (k0 : Int32) : osM Int32 := osite (k0 = l7) (osbind (qL_units_ N l0) fun x1 => osite (l7 = 0) (qL_builds_149 N c4 l0 l1 l3 l4 (0 : Int32) l5 x1) (qL_builds_149 N c4 l0 l1 l3 l4 (1 : Int32) l5 x1)) (qL_builds_157 N c4 l0 l1 l3 l4)
def qL_builds_84 (N : Nat) (c4 : Nat × Nat × Int32 × Int32 → osM Int32) (l0 : Nat) (l1 : Nat) (l3 : Int32) (l4 : Int32) (l5 : Int32) (k0 : Int32) : osM Int32 := osbind (osnew (.inr (9, [.null, .int 0, .int 0, .int 0]))) fun x1 => osbind (qJ4_init_da8c8 N x1) fun _ => osbind (ostext 14) fun x2 => osbind (osrecv [9] x1 (qJ4_append_15ec4 N x1 x2)) fun x3 => osbind (osrecv [9] x3 (qJ4_append_cf468 N x3 ((((97 : Int32) + l4).toUInt32 % 65536).toInt32))) fun x4 => osbind (ostext 15) fun x5 => osbind (osrecv [9] x4 (qJ4_append_15ec4 N x4 x5)) fun x6 => osbind (osrecv [9] x6 (qJ4_toString_0e30d N x6)) fun x7 => osbind (qL_tell N l0 x7) fun x8 => osite (x8 = (1 : Int32)) (qL_builds_128 N c4 l0 l1 l3 l4 l5 k0 (1 : Int32)) (qL_builds_128 N c4 l0 l1 l3 l4 l5 k0 (0 : Int32))
def qL_builds_83 (N : Nat) (c4 : Nat × Nat × Int32 × Int32 → osM Int32) (l0 : Nat) (l1 : Nat) (l3 : Int32) (l4 : Int32) (l5 : Int32) : osM Int32 := qL_builds_84 N c4 l0 l1 l3 l4 l5 (0 : Int32)
def bL_builds_4 (N : Nat) (c4 : Nat × Nat × Int32 × Int32 → osM Int32) (l0 : Nat) (l1 : Nat) (l2 : Int32) (l3 : Int32) : osM Int32 := osite ((6 : Int32) ≤ l3) (qL_builds_280 N l0 l2) (osite (l2 = 0) (qL_builds_280 N l0 l2) (osbind (qL_next N l1) fun x1 => osbind (osrecv [7] l0 (qX9_areas N l0)) fun x2 => osguard (¬ x2 = 0) (osbind (qL_units_ N l0) fun x4 => osbind (osrecv [7] l0 (osRV (qX9_area N l0 (x1 - x1 / x2 * x2) (2 : Int32)))) fun x5 => osite (x5 = (-1 : Int32)) (qL_builds_83 N c4 l0 l1 l3 (x1 - x1 / x2 * x2) x4) (osbind (osrecv [7] l0 (osRV (qX9_area N l0 (x1 - x1 / x2 * x2) (3 : Int32)))) fun x6 => osite (x6 = x5) (osbind (osrecv [7] l0 (osRV (qX9_area N l0 (x1 - x1 / x2 * x2) (4 : Int32)))) fun x7 => osite (x7 = (-1 : Int32)) (osbind (osrecv [7] l0 (osRV (qX9_power N l0 x5 (3 : Int32)))) fun x8 => osite (x8 ≤ 0) (qL_builds_83 N c4 l0 l1 l3 (x1 - x1 / x2 * x2) x4) (qL_builds_84 N c4 l0 l1 l3 (x1 - x1 / x2 * x2) x4 (1 : Int32))) (qL_builds_83 N c4 l0 l1 l3 (x1 - x1 / x2 * x2) x4)) (qL_builds_83 N c4 l0 l1 l3 (x1 - x1 / x2 * x2) x4)))))
def qL_builds_4 (N : Nat) : Nat × Nat × Int32 × Int32 → osM Int32 := osloop (fun ih p => bL_builds_4 N ih p.1 p.2.1 p.2.2.1 p.2.2.2) 7
def qL_builds (N : Nat) (l0 : Nat) (l1 : Nat) : osM Int32 := qL_builds_4 N (l0, l1, (1 : Int32), (0 : Int32))
set_option maxRecDepth 100000 in
set_option maxHeartbeats 4000000 in
theorem sL_builds_373 (N : Nat) (k0 : Int32) : osW (osFinM (fun r : Int32 => some (.int r)) 2433 17888) yL_builds cL_builds 10 (some .boolean) [] { frames := 9, cells := 2433, slots := 17888, locals := 212 } (2433) (17888) 373 [] [.int k0] (qL_builds_373 N k0) := by
  unfold qL_builds_373
  exact os_zret (by omega) (by omega) (hL_builds_3.at 43 rfl rfl).1
set_option maxRecDepth 100000 in
set_option maxHeartbeats 4000000 in
theorem sL_builds_372 (N : Nat) : osW (osFinM (fun r : Int32 => some (.int r)) 2433 17888) yL_builds cL_builds 10 (some .boolean) [] { frames := 9, cells := 2433, slots := 17888, locals := 212 } (2433) (17888) 372 [] [] (qL_builds_372 N) := by
  unfold qL_builds_372
  refine os_iconst (i := 0) (v := (0 : Int32)) rfl (hL_builds_3.at 42 rfl rfl) ?_
  exact osW.widen (k' := 2433) (n' := 17888) (by omega) (by omega) (osW.sub [] rfl (sL_builds_373 N (0 : Int32)))
set_option maxRecDepth 100000 in
set_option maxHeartbeats 4000000 in
theorem tL_builds_285 (N : Nat) (k285 n285 : Nat) (hx285 : k285 + 2 ≤ 2380 ∧ n285 + 12 ≤ 17570) (c285 : Nat × Int32 × Int32 × Int32 → osM Int32) (g285 : ∀ (l0 : Nat) (l2 : Int32) (l3 : Int32) (l4 : Int32), osW (osFinM (fun r : Int32 => some (.int r)) 2433 17888) yL_builds cL_builds 10 (some .boolean) [] { frames := 9, cells := 2433, slots := 17888, locals := 212 } (k285 + 2) (n285 + 12) 285 [(0, .ref l0), (2, .int l2), (3, .int l3), (4, .int l4)] [] (c285 (l0, l2, l3, l4))) (l0 : Nat) (l2 : Int32) (l3 : Int32) (l4 : Int32) : osW (osFinM (fun r : Int32 => some (.int r)) 2433 17888) yL_builds cL_builds 10 (some .boolean) [] { frames := 9, cells := 2433, slots := 17888, locals := 212 } (k285) (n285) 285 [(0, .ref l0), (2, .int l2), (3, .int l3), (4, .int l4)] [] (bL_builds_285 N c285 l0 l2 l3 l4) := by
  unfold bL_builds_285
  refine os_iload (v := l4) 3 rfl (hL_builds_2.at 47 rfl rfl) ?_
  refine os_aload_n (i := 0) (q := 0) (v := l0) 0 rfl rfl (hL_builds_2.at 48 rfl rfl) ?_
  refine os_callV (cis := [7]) (b := l0) (As := []) (st := [.int l4]) (st' := (fun r => .int r :: [.int l4])) sl7_X9_powers_X9_powers mdX9_powers wd1501 wd1502 (sX9_powers N l0 ) rfl rfl (fun _ => rfl) (Nat.le_of_ble_eq_true rfl) (Nat.le_of_ble_eq_true rfl) (Nat.le_of_ble_eq_true rfl) rfl (by show _ ≤ 2433; omega) rfl (by show _ ≤ 17888; omega) (hL_builds_2.at 49 rfl rfl) (fun x1 => ?_)
  refine os_icmp_ge (off := 23) (tgt := 314) rfl (hL_builds_3.at 0 rfl rfl) ?_ ?_
  · refine os_aload_n (i := 0) (q := 0) (v := l0) 0 rfl rfl (hL_builds_3.at 12 rfl rfl) ?_
    refine os_callS (As := [.ref l0]) (st := []) (st' := (fun r => .int r :: [])) mdL_units_ wd1388 wd1389 (sL_units_ N l0) rfl rfl (fun _ => rfl) (Nat.le_of_ble_eq_true rfl) (Nat.le_of_ble_eq_true rfl) (Nat.le_of_ble_eq_true rfl) rfl (by show _ ≤ 2433; omega) rfl (by show _ ≤ 17888; omega) (hL_builds_3.at 13 rfl rfl) (fun x2 => ?_)
    refine os_istore (i := 4) (lv' := [(4, .int x2), (0, .ref l0), (2, .int l2), (3, .int l3)]) (Nat.le_of_ble_eq_true rfl) rfl (hL_builds_3.at 14 rfl rfl) ?_
    refine os_aload_n (i := 0) (q := 0) (v := l0) 1 rfl rfl (hL_builds_3.at 15 rfl rfl) ?_
    refine os_callV (cis := [7]) (b := l0) (As := []) (st := []) (st' := (fun r => .int r :: [])) sl7_X9_turn_X9_turn mdX9_turn wd1384 wd1385 (sX9_turn N l0 ) rfl rfl (fun _ => rfl) (Nat.le_of_ble_eq_true rfl) (Nat.le_of_ble_eq_true rfl) (Nat.le_of_ble_eq_true rfl) rfl (by show _ ≤ 2433; omega) rfl (by show _ ≤ 17888; omega) (hL_builds_3.at 16 rfl rfl) (fun x3 => ?_)
    refine os_istore (i := 5) (lv' := [(5, .int x3), (4, .int x2), (0, .ref l0), (2, .int l2), (3, .int l3)]) (Nat.le_of_ble_eq_true rfl) rfl (hL_builds_3.at 17 rfl rfl) ?_
    refine os_iload_n (i := 2) (q := 2) (v := l2) 3 rfl rfl (hL_builds_3.at 18 rfl rfl) ?_
    refine os_if_eq (off := 45) (tgt := 372) rfl (hL_builds_3.at 19 rfl rfl) ?_ ?_
    · exact osW.widen (k' := 2433) (n' := 17888) (by omega) (by omega) (osW.sub [] rfl (sL_builds_372 N ))
    · refine os_aload_n (i := 0) (q := 0) (v := l0) 2 rfl rfl (hL_builds_3.at 20 rfl rfl) ?_
      refine os_callV (cis := [7]) (b := l0) (As := []) (st := []) (st' := (fun r => .int r :: [])) sl7_X9_endBuilds_X9_endBuilds mdX9_endBuilds wd1505 wd1506 (osMetT.sure (sX9_endBuilds N l0 )) rfl rfl (fun _ => rfl) (Nat.le_of_ble_eq_true rfl) (Nat.le_of_ble_eq_true rfl) (Nat.le_of_ble_eq_true rfl) rfl (by show _ ≤ 2433; omega) rfl (by show _ ≤ 17888; omega) (hL_builds_3.at 21 rfl rfl) (fun x4 => ?_)
      refine os_iload_n (i := 3) (q := 3) (v := l3) 4 rfl rfl (hL_builds_3.at 22 rfl rfl) ?_
      refine os_ineg (hL_builds_3.at 23 rfl rfl) ?_
      refine os_icmp_ne (off := 36) (tgt := 372) rfl (hL_builds_3.at 24 rfl rfl) ?_ ?_
      · exact osW.widen (k' := 2433) (n' := 17888) (by omega) (by omega) (osW.sub [] rfl (sL_builds_372 N ))
      · refine os_aload_n (i := 0) (q := 0) (v := l0) 2 rfl rfl (hL_builds_3.at 25 rfl rfl) ?_
        refine os_callS (As := [.ref l0]) (st := []) (st' := (fun r => .int r :: [])) mdL_units_ wd1388 wd1389 (sL_units_ N l0) rfl rfl (fun _ => rfl) (Nat.le_of_ble_eq_true rfl) (Nat.le_of_ble_eq_true rfl) (Nat.le_of_ble_eq_true rfl) rfl (by show _ ≤ 2433; omega) rfl (by show _ ≤ 17888; omega) (hL_builds_3.at 26 rfl rfl) (fun x5 => ?_)
        refine os_iload (v := x2) 1 rfl (hL_builds_3.at 27 rfl rfl) ?_
        refine os_iload_n (i := 3) (q := 3) (v := l3) 4 rfl rfl (hL_builds_3.at 28 rfl rfl) ?_
        refine os_iadd (hL_builds_3.at 29 rfl rfl) ?_
        refine os_icmp_ne (off := 25) (tgt := 372) rfl (hL_builds_3.at 30 rfl rfl) ?_ ?_
        · exact osW.widen (k' := 2433) (n' := 17888) (by omega) (by omega) (osW.sub [] rfl (sL_builds_372 N ))
        · refine os_aload_n (i := 0) (q := 0) (v := l0) 2 rfl rfl (hL_builds_3.at 31 rfl rfl) ?_
          refine os_callV (cis := [7]) (b := l0) (As := []) (st := []) (st' := (fun r => .int r :: [])) sl7_X9_turn_X9_turn mdX9_turn wd1384 wd1385 (sX9_turn N l0 ) rfl rfl (fun _ => rfl) (Nat.le_of_ble_eq_true rfl) (Nat.le_of_ble_eq_true rfl) (Nat.le_of_ble_eq_true rfl) rfl (by show _ ≤ 2433; omega) rfl (by show _ ≤ 17888; omega) (hL_builds_3.at 32 rfl rfl) (fun x6 => ?_)
          refine os_iload (v := x3) 0 rfl (hL_builds_3.at 33 rfl rfl) ?_
          refine os_iconst (i := 1) (v := (1 : Int32)) rfl (hL_builds_3.at 34 rfl rfl) ?_
          refine os_iadd (hL_builds_3.at 35 rfl rfl) ?_
          refine os_icmp_ne (off := 14) (tgt := 372) rfl (hL_builds_3.at 36 rfl rfl) ?_ ?_
          · exact osW.widen (k' := 2433) (n' := 17888) (by omega) (by omega) (osW.sub [] rfl (sL_builds_372 N ))
          · refine os_aload_n (i := 0) (q := 0) (v := l0) 2 rfl rfl (hL_builds_3.at 37 rfl rfl) ?_
            refine os_callV (cis := [7]) (b := l0) (As := []) (st := []) (st' := (fun r => .int r :: [])) sl7_X9_phase_X9_phase mdX9_phase wd476 wd477 (sX9_phase N l0 ) rfl rfl (fun _ => rfl) (Nat.le_of_ble_eq_true rfl) (Nat.le_of_ble_eq_true rfl) (Nat.le_of_ble_eq_true rfl) rfl (by show _ ≤ 2433; omega) rfl (by show _ ≤ 17888; omega) (hL_builds_3.at 38 rfl rfl) (fun x7 => ?_)
            refine os_if_ne (off := 7) (tgt := 372) rfl (hL_builds_3.at 39 rfl rfl) ?_ ?_
            · exact osW.widen (k' := 2433) (n' := 17888) (by omega) (by omega) (osW.sub [] rfl (sL_builds_372 N ))
            · refine os_iconst (i := 1) (v := (1 : Int32)) rfl (hL_builds_3.at 40 rfl rfl) ?_
              refine os_goto (off := 4) (tgt := 373) rfl (hL_builds_3.at 41 rfl rfl) ?_
              exact osW.widen (k' := 2433) (n' := 17888) (by omega) (by omega) (osW.sub [] rfl (sL_builds_373 N (1 : Int32)))
  · refine os_iload_n (i := 3) (q := 3) (v := l3) 2 rfl rfl (hL_builds_3.at 1 rfl rfl) ?_
    refine os_iconst (i := 0) (v := (0 : Int32)) rfl (hL_builds_3.at 2 rfl rfl) ?_
    refine os_aload_n (i := 0) (q := 0) (v := l0) 0 rfl rfl (hL_builds_3.at 3 rfl rfl) ?_
    refine os_iload (v := l4) 3 rfl (hL_builds_3.at 4 rfl rfl) ?_
    refine os_iconst (i := 3) (v := (3 : Int32)) rfl (hL_builds_3.at 5 rfl rfl) ?_
    refine os_callV (cis := [7]) (b := l0) (As := [.int l4, .int (3 : Int32)]) (st := [.int (0 : Int32), .int l3]) (st' := (fun r => .int r :: [.int (0 : Int32), .int l3])) sl7_X9_power_X9_power mdX9_power wd1482 wd1483 (osMetT.sure (sX9_power N l0 l4 (3 : Int32))) rfl rfl (fun _ => rfl) (Nat.le_of_ble_eq_true rfl) (Nat.le_of_ble_eq_true rfl) (Nat.le_of_ble_eq_true rfl) rfl (by show _ ≤ 2433; omega) rfl (by show _ ≤ 17888; omega) (hL_builds_3.at 6 rfl rfl) (fun x8 => ?_)
    refine os_min wd1427 wd655 wd68 wmin (Nat.le_of_ble_eq_true rfl) (Nat.le_of_ble_eq_true rfl) (Nat.le_of_ble_eq_true rfl) (by show _ ≤ 2433; omega) (by show _ ≤ 17888; omega) (hL_builds_3.at 7 rfl rfl) ?_
    refine os_iadd (hL_builds_3.at 8 rfl rfl) ?_
    refine os_nameI (fun x9 => ?_)
    refine os_istore_n (i := 3) (q := 3) rfl (lv' := [(3, .int x9), (0, .ref l0), (2, .int l2), (4, .int l4)]) (Nat.le_of_ble_eq_true rfl) rfl (hL_builds_3.at 9 rfl rfl) ?_
    refine os_iinc (i := 4) (d := 1) (x := l4) (v := (1 : Int32)) (lv' := [(4, .int (l4 + (1 : Int32))), (3, .int x9), (0, .ref l0), (2, .int l2)]) 3 rfl rfl (Nat.le_of_ble_eq_true rfl) rfl (hL_builds_3.at 10 rfl rfl) ?_
    refine os_goto (off := (-26)) (tgt := 285) rfl (hL_builds_3.at 11 rfl rfl) ?_
    exact osW.widen (k' := k285 + 2) (n' := n285 + 12) (by omega) (by omega) (osW.sub [2, 3, 1, 0] rfl (g285 l0 l2 x9 (l4 + (1 : Int32))))
set_option maxRecDepth 100000 in
set_option maxHeartbeats 4000000 in
theorem sL_builds_285 (N : Nat) (l0 : Nat) (l2 : Int32) (l3 : Int32) (l4 : Int32) : osW (osFinM (fun r : Int32 => some (.int r)) 2433 17888) yL_builds cL_builds 10 (some .boolean) [] { frames := 9, cells := 2433, slots := 17888, locals := 212 } (2366) (17486) 285 [(0, .ref l0), (2, .int l2), (3, .int l3), (4, .int l4)] [] (qL_builds_285 N (l0, l2, l3, l4)) := by
  refine osW.widen (k' := (2366) + 2 * (7 - 7)) (n' := (17486) + 12 * (7 - 7)) (by omega) (by omega) ?_
  exact osloop_K (lvf := fun p => [(0, .ref p.1), (2, .int p.2.1), (3, .int p.2.2.1), (4, .int p.2.2.2)]) (stf := fun p => []) 7 2 12 (2366) (17486) (fun f hf ih g p => tL_builds_285 N ((2366) + 2 * (7 - (f + 1))) ((17486) + 12 * (7 - (f + 1))) (by omega) ih (fun l0 l2 l3 l4 => osW.widen (by omega) (by omega) (g (l0, l2, l3, l4))) p.1 p.2.1 p.2.2.1 p.2.2.2) 7 (Nat.le_refl _) (l0, l2, l3, l4)
set_option maxRecDepth 100000 in
set_option maxHeartbeats 4000000 in
theorem sL_builds_280 (N : Nat) (l0 : Nat) (l2 : Int32) : osW (osFinM (fun r : Int32 => some (.int r)) 2433 17888) yL_builds cL_builds 10 (some .boolean) [] { frames := 9, cells := 2433, slots := 17888, locals := 212 } (2366) (17486) 280 [(0, .ref l0), (2, .int l2)] [] (qL_builds_280 N l0 l2) := by
  unfold qL_builds_280
  refine os_iconst (i := 0) (v := (0 : Int32)) rfl (hL_builds_2.at 43 rfl rfl) ?_
  refine os_istore_n (i := 3) (q := 3) rfl (lv' := [(3, .int (0 : Int32)), (0, .ref l0), (2, .int l2)]) (Nat.le_of_ble_eq_true rfl) rfl (hL_builds_2.at 44 rfl rfl) ?_
  refine os_iconst (i := 0) (v := (0 : Int32)) rfl (hL_builds_2.at 45 rfl rfl) ?_
  refine os_istore (i := 4) (lv' := [(4, .int (0 : Int32)), (3, .int (0 : Int32)), (0, .ref l0), (2, .int l2)]) (Nat.le_of_ble_eq_true rfl) rfl (hL_builds_2.at 46 rfl rfl) ?_
  exact osW.widen (k' := 2366) (n' := 17486) (by omega) (by omega) (osW.sub [2, 3, 1, 0] rfl (sL_builds_285 N l0 l2 (0 : Int32) (0 : Int32)))
set_option maxRecDepth 100000 in
set_option maxHeartbeats 4000000 in
theorem sL_builds_273 (N : Nat) (k4 n4 : Nat) (hx4 : k4 + 338 ≤ 2366 ∧ n4 + 2498 ≤ 17486) (c4 : Nat × Nat × Int32 × Int32 → osM Int32) (g4 : ∀ (l0 : Nat) (l1 : Nat) (l2 : Int32) (l3 : Int32), osW (osFinM (fun r : Int32 => some (.int r)) 2433 17888) yL_builds cL_builds 10 (some .boolean) [] { frames := 9, cells := 2433, slots := 17888, locals := 212 } (k4 + 338) (n4 + 2498) 4 [(0, .ref l0), (1, .ref l1), (2, .int l2), (3, .int l3)] [] (c4 (l0, l1, l2, l3))) (l0 : Nat) (l1 : Nat) (l3 : Int32) (k0 : Int32) : osW (osFinM (fun r : Int32 => some (.int r)) 2433 17888) yL_builds cL_builds 10 (some .boolean) [] { frames := 9, cells := 2433, slots := 17888, locals := 212 } (k4 + 338) (n4 + 2498) 273 [(0, .ref l0), (1, .ref l1), (3, .int l3)] [.int k0] (qL_builds_273 N c4 l0 l1 l3 k0) := by
  unfold qL_builds_273
  refine os_istore_n (i := 2) (q := 2) rfl (lv' := [(2, .int k0), (0, .ref l0), (1, .ref l1), (3, .int l3)]) (Nat.le_of_ble_eq_true rfl) rfl (hL_builds_2.at 40 rfl rfl) ?_
  refine os_iinc (i := 3) (d := 1) (x := l3) (v := (1 : Int32)) (lv' := [(3, .int (l3 + (1 : Int32))), (2, .int k0), (0, .ref l0), (1, .ref l1)]) 3 rfl rfl (Nat.le_of_ble_eq_true rfl) rfl (hL_builds_2.at 41 rfl rfl) ?_
  refine os_goto (off := (-273)) (tgt := 4) rfl (hL_builds_2.at 42 rfl rfl) ?_
  exact osW.widen (k' := k4 + 338) (n' := n4 + 2498) (by omega) (by omega) (osW.sub [2, 3, 1, 0] rfl (g4 l0 l1 k0 (l3 + (1 : Int32))))
set_option maxRecDepth 100000 in
set_option maxHeartbeats 4000000 in
theorem sL_builds_272 (N : Nat) (k4 n4 : Nat) (hx4 : k4 + 338 ≤ 2366 ∧ n4 + 2498 ≤ 17486) (c4 : Nat × Nat × Int32 × Int32 → osM Int32) (g4 : ∀ (l0 : Nat) (l1 : Nat) (l2 : Int32) (l3 : Int32), osW (osFinM (fun r : Int32 => some (.int r)) 2433 17888) yL_builds cL_builds 10 (some .boolean) [] { frames := 9, cells := 2433, slots := 17888, locals := 212 } (k4 + 338) (n4 + 2498) 4 [(0, .ref l0), (1, .ref l1), (2, .int l2), (3, .int l3)] [] (c4 (l0, l1, l2, l3))) (l0 : Nat) (l1 : Nat) (l3 : Int32) : osW (osFinM (fun r : Int32 => some (.int r)) 2433 17888) yL_builds cL_builds 10 (some .boolean) [] { frames := 9, cells := 2433, slots := 17888, locals := 212 } (k4 + 338) (n4 + 2498) 272 [(0, .ref l0), (1, .ref l1), (3, .int l3)] [] (qL_builds_272 N c4 l0 l1 l3) := by
  unfold qL_builds_272
  refine os_iconst (i := 0) (v := (0 : Int32)) rfl (hL_builds_2.at 39 rfl rfl) ?_
  exact osW.widen (k' := k4 + 338) (n' := n4 + 2498) (by omega) (by omega) (osW.sub [0, 1, 2] rfl (sL_builds_273 N k4 n4 hx4 c4 g4 l0 l1 l3 (0 : Int32)))
set_option maxRecDepth 100000 in
set_option maxHeartbeats 4000000 in
theorem sL_builds_264 (N : Nat) (k4 n4 : Nat) (hx4 : k4 + 338 ≤ 2366 ∧ n4 + 2498 ≤ 17486) (c4 : Nat × Nat × Int32 × Int32 → osM Int32) (g4 : ∀ (l0 : Nat) (l1 : Nat) (l2 : Int32) (l3 : Int32), osW (osFinM (fun r : Int32 => some (.int r)) 2433 17888) yL_builds cL_builds 10 (some .boolean) [] { frames := 9, cells := 2433, slots := 17888, locals := 212 } (k4 + 338) (n4 + 2498) 4 [(0, .ref l0), (1, .ref l1), (2, .int l2), (3, .int l3)] [] (c4 (l0, l1, l2, l3))) (l0 : Nat) (l1 : Nat) (l3 : Int32) (k0 : Int32) (k1 : Int32) (k2 : Int32) : osW (osFinM (fun r : Int32 => some (.int r)) 2433 17888) yL_builds cL_builds 10 (some .boolean) [] { frames := 9, cells := 2433, slots := 17888, locals := 212 } (k4 + 338) (n4 + 2498) 264 [(0, .ref l0), (1, .ref l1), (3, .int l3)] [.int k0, .int k1, .int k2] (qL_builds_264 N c4 l0 l1 l3 k0 k1 k2) := by
  unfold qL_builds_264
  refine os_isub (hL_builds_2.at 35 rfl rfl) ?_
  refine os_icmp_ne (off := 7) (tgt := 272) rfl (hL_builds_2.at 36 rfl rfl) ?_ ?_
  · exact osW.widen (k' := k4 + 338) (n' := n4 + 2498) (by omega) (by omega) (osW.sub [0, 1, 2] rfl (sL_builds_272 N k4 n4 hx4 c4 g4 l0 l1 l3))
  · refine os_iconst (i := 1) (v := (1 : Int32)) rfl (hL_builds_2.at 37 rfl rfl) ?_
    refine os_goto (off := 4) (tgt := 273) rfl (hL_builds_2.at 38 rfl rfl) ?_
    exact osW.widen (k' := k4 + 338) (n' := n4 + 2498) (by omega) (by omega) (osW.sub [0, 1, 2] rfl (sL_builds_273 N k4 n4 hx4 c4 g4 l0 l1 l3 (1 : Int32)))
set_option maxRecDepth 100000 in
set_option maxHeartbeats 4000000 in
theorem sL_builds_243 (N : Nat) (k4 n4 : Nat) (hx4 : k4 + 338 ≤ 2366 ∧ n4 + 2498 ≤ 17486) (c4 : Nat × Nat × Int32 × Int32 → osM Int32) (g4 : ∀ (l0 : Nat) (l1 : Nat) (l2 : Int32) (l3 : Int32), osW (osFinM (fun r : Int32 => some (.int r)) 2433 17888) yL_builds cL_builds 10 (some .boolean) [] { frames := 9, cells := 2433, slots := 17888, locals := 212 } (k4 + 338) (n4 + 2498) 4 [(0, .ref l0), (1, .ref l1), (2, .int l2), (3, .int l3)] [] (c4 (l0, l1, l2, l3))) (l0 : Nat) (l1 : Nat) (l3 : Int32) (l5 : Int32) (l9 : Int32) (k0 : Int32) : osW (osFinM (fun r : Int32 => some (.int r)) 2433 17888) yL_builds cL_builds 10 (some .boolean) [] { frames := 9, cells := 2433, slots := 17888, locals := 212 } (k4 + 312) (n4 + 2342) 243 [(0, .ref l0), (1, .ref l1), (3, .int l3), (5, .int l5), (9, .int l9)] [.int k0] (qL_builds_243 N c4 l0 l1 l3 l5 l9 k0) := by
  unfold qL_builds_243
  refine os_iload (v := l9) 4 rfl (hL_builds_2.at 25 rfl rfl) ?_
  refine os_icmp_ne (off := 27) (tgt := 272) rfl (hL_builds_2.at 26 rfl rfl) ?_ ?_
  · exact osW.widen (k' := k4 + 338) (n' := n4 + 2498) (by omega) (by omega) (osW.sub [0, 1, 2] rfl (sL_builds_272 N k4 n4 hx4 c4 g4 l0 l1 l3))
  · refine os_aload_n (i := 0) (q := 0) (v := l0) 0 rfl rfl (hL_builds_2.at 27 rfl rfl) ?_
    refine os_callS (As := [.ref l0]) (st := []) (st' := (fun r => .int r :: [])) mdL_units_ wd1388 wd1389 (sL_units_ N l0) rfl rfl (fun _ => rfl) (Nat.le_of_ble_eq_true rfl) (Nat.le_of_ble_eq_true rfl) (Nat.le_of_ble_eq_true rfl) rfl (by show _ ≤ 2433; omega) rfl (by show _ ≤ 17888; omega) (hL_builds_2.at 28 rfl rfl) (fun x1 => ?_)
    refine os_iload (v := l5) 3 rfl (hL_builds_2.at 29 rfl rfl) ?_
    refine os_iload (v := l9) 4 rfl (hL_builds_2.at 30 rfl rfl) ?_
    refine os_if_eq (off := 7) (tgt := 263) rfl (hL_builds_2.at 31 rfl rfl) ?_ ?_
    · refine os_iconst (i := 0) (v := (0 : Int32)) rfl (hL_builds_2.at 34 rfl rfl) ?_
      exact osW.widen (k' := k4 + 338) (n' := n4 + 2498) (by omega) (by omega) (osW.sub [0, 1, 2] rfl (sL_builds_264 N k4 n4 hx4 c4 g4 l0 l1 l3 (0 : Int32) l5 x1))
    · refine os_iconst (i := 1) (v := (1 : Int32)) rfl (hL_builds_2.at 32 rfl rfl) ?_
      refine os_goto (off := 4) (tgt := 264) rfl (hL_builds_2.at 33 rfl rfl) ?_
      exact osW.widen (k' := k4 + 338) (n' := n4 + 2498) (by omega) (by omega) (osW.sub [0, 1, 2] rfl (sL_builds_264 N k4 n4 hx4 c4 g4 l0 l1 l3 (1 : Int32) l5 x1))
set_option maxRecDepth 100000 in
set_option maxHeartbeats 4000000 in
theorem sL_builds_189 (N : Nat) (k4 n4 : Nat) (hx4 : k4 + 338 ≤ 2366 ∧ n4 + 2498 ≤ 17486) (c4 : Nat × Nat × Int32 × Int32 → osM Int32) (g4 : ∀ (l0 : Nat) (l1 : Nat) (l2 : Int32) (l3 : Int32), osW (osFinM (fun r : Int32 => some (.int r)) 2433 17888) yL_builds cL_builds 10 (some .boolean) [] { frames := 9, cells := 2433, slots := 17888, locals := 212 } (k4 + 338) (n4 + 2498) 4 [(0, .ref l0), (1, .ref l1), (2, .int l2), (3, .int l3)] [] (c4 (l0, l1, l2, l3))) (l0 : Nat) (l1 : Nat) (l2 : Int32) (l3 : Int32) (l4 : Int32) (k0 : Int32) : osW (osFinM (fun r : Int32 => some (.int r)) 2433 17888) yL_builds cL_builds 10 (some .boolean) [] { frames := 9, cells := 2433, slots := 17888, locals := 212 } (k4 + 175) (n4 + 1285) 189 [(0, .ref l0), (1, .ref l1), (2, .int l2), (3, .int l3), (4, .int l4)] [.int k0] (qL_builds_189 N c4 l0 l1 l2 l3 l4 k0) := by
  unfold qL_builds_189
  refine os_istore (i := 9) (lv' := [(9, .int k0), (0, .ref l0), (1, .ref l1), (2, .int l2), (3, .int l3), (4, .int l4)]) (Nat.le_of_ble_eq_true rfl) rfl (hL_builds_1.at 49 rfl rfl) ?_
  refine os_aload_n (i := 0) (q := 0) (v := l0) 1 rfl rfl (hL_builds_2.at 0 rfl rfl) ?_
  refine os_callS (As := [.ref l0]) (st := []) (st' := (fun r => .int r :: [])) mdL_units_ wd1388 wd1389 (sL_units_ N l0) rfl rfl (fun _ => rfl) (Nat.le_of_ble_eq_true rfl) (Nat.le_of_ble_eq_true rfl) (Nat.le_of_ble_eq_true rfl) rfl (by show _ ≤ 2433; omega) rfl (by show _ ≤ 17888; omega) (hL_builds_2.at 1 rfl rfl) (fun x1 => ?_)
  refine os_istore (i := 5) (lv' := [(5, .int x1), (9, .int k0), (0, .ref l0), (1, .ref l1), (2, .int l2), (3, .int l3), (4, .int l4)]) (Nat.le_of_ble_eq_true rfl) rfl (hL_builds_2.at 2 rfl rfl) ?_
  refine os_iload_n (i := 2) (q := 2) (v := l2) 4 rfl rfl (hL_builds_2.at 3 rfl rfl) ?_
  refine os_if_eq (off := 74) (tgt := 272) rfl (hL_builds_2.at 4 rfl rfl) ?_ ?_
  · exact osW.widen (k' := k4 + 338) (n' := n4 + 2498) (by omega) (by omega) (osW.sub [2, 3, 5] rfl (sL_builds_272 N k4 n4 hx4 c4 g4 l0 l1 l3))
  · refine os_aload_n (i := 0) (q := 0) (v := l0) 2 rfl rfl (hL_builds_2.at 5 rfl rfl) ?_
    refine os_new (C := RJ4) (T := TJ4) (N := 4) (ci := 9) (ty0 := tyJ4) rfl tyJ4_ok osinJ4 wd834 wd835 wd64 dfJ4 (by show _ ≤ 2433; omega) (by show _ ≤ 17888; omega) (hL_builds_2.at 6 rfl rfl) (fun x2 => ?_)
    refine os_dup rfl (hL_builds_2.at 7 rfl rfl) ?_
    refine os_callI (b := x2) (As := []) (st := [.ref x2, .ref l0]) (st' := (fun _ => [.ref x2, .ref l0])) mdJ4_init_da8c8 rfl wd836 wd837 (sJ4_init_da8c8 N x2 ) rfl rfl (fun _ => rfl) (Nat.le_of_ble_eq_true rfl) (Nat.le_of_ble_eq_true rfl) (Nat.le_of_ble_eq_true rfl) rfl (by show _ ≤ 2433; omega) rfl (by show _ ≤ 17888; omega) (hL_builds_2.at 8 rfl rfl) (fun _ => ?_)
    refine os_text (j := 16) (q := ("OrderSettlerLaw", 172, "remove ")) rfl rfl (hL_builds_2.at 9 rfl rfl) (fun x3 => ?_)
    refine os_callV (cis := [9]) (b := x2) (As := [.ref x3]) (st := [.ref l0]) (st' := (fun r => .ref r :: [.ref l0])) sl9_J4_append_15ec4_J4_append_15ec4 mdJ4_append_15ec4 wd867 wd868 (sJ4_append_15ec4 N x2 x3) rfl rfl (fun _ => rfl) (Nat.le_of_ble_eq_true rfl) (Nat.le_of_ble_eq_true rfl) (Nat.le_of_ble_eq_true rfl) rfl (by show _ ≤ 2433; omega) rfl (by show _ ≤ 17888; omega) (hL_builds_2.at 10 rfl rfl) (fun x4 => ?_)
    refine os_bipush (i := 97) (v := (97 : Int32)) rfl (hL_builds_2.at 11 rfl rfl) ?_
    refine os_iload (v := l4) 6 rfl (hL_builds_2.at 12 rfl rfl) ?_
    refine os_iadd (hL_builds_2.at 13 rfl rfl) ?_
    refine os_i2c (hL_builds_2.at 14 rfl rfl) ?_
    refine os_callV (cis := [9]) (b := x4) (As := [.int ((((97 : Int32) + l4).toUInt32 % 65536).toInt32)]) (st := [.ref l0]) (st' := (fun r => .ref r :: [.ref l0])) sl9_J4_append_cf468_J4_append_cf468 mdJ4_append_cf468 wd966 wd967 (sJ4_append_cf468 N x4 ((((97 : Int32) + l4).toUInt32 % 65536).toInt32)) rfl rfl (fun _ => rfl) (Nat.le_of_ble_eq_true rfl) (Nat.le_of_ble_eq_true rfl) (Nat.le_of_ble_eq_true rfl) rfl (by show _ ≤ 2433; omega) rfl (by show _ ≤ 17888; omega) (hL_builds_2.at 15 rfl rfl) (fun x5 => ?_)
    refine os_text (j := 4) (q := ("OrderSettlerLaw", 61, ";")) rfl rfl (hL_builds_2.at 16 rfl rfl) (fun x6 => ?_)
    refine os_callV (cis := [9]) (b := x5) (As := [.ref x6]) (st := [.ref l0]) (st' := (fun r => .ref r :: [.ref l0])) sl9_J4_append_15ec4_J4_append_15ec4 mdJ4_append_15ec4 wd867 wd868 (sJ4_append_15ec4 N x5 x6) rfl rfl (fun _ => rfl) (Nat.le_of_ble_eq_true rfl) (Nat.le_of_ble_eq_true rfl) (Nat.le_of_ble_eq_true rfl) rfl (by show _ ≤ 2433; omega) rfl (by show _ ≤ 17888; omega) (hL_builds_2.at 17 rfl rfl) (fun x7 => ?_)
    refine os_callV (cis := [9]) (b := x7) (As := []) (st := [.ref l0]) (st' := (fun r => .ref r :: [.ref l0])) sl9_J4_toString_0e30d_J4_toString_0e30d mdJ4_toString_0e30d wd986 wd987 (sJ4_toString_0e30d N x7 ) rfl rfl (fun _ => rfl) (Nat.le_of_ble_eq_true rfl) (Nat.le_of_ble_eq_true rfl) (Nat.le_of_ble_eq_true rfl) rfl (by show _ ≤ 2433; omega) rfl (by show _ ≤ 17888; omega) (hL_builds_2.at 18 rfl rfl) (fun x8 => ?_)
    refine os_callSH (np := 2) (As := [.ref l0, .ref x8]) (st := []) (st' := (fun r => .int r :: [])) wd1097 wd53 (by decide +kernel) (by decide +kernel) wd1095 wd1096 (sL_tell N l0 x8) rfl rfl (fun _ => rfl) (Nat.le_of_ble_eq_true rfl) (Nat.le_of_ble_eq_true rfl) (Nat.le_of_ble_eq_true rfl) rfl (by show _ ≤ 2433; omega) rfl (by show _ ≤ 17888; omega) (hL_builds_2.at 19 rfl rfl) (fun x9 => ?_)
    refine os_iconst (i := 1) (v := (1 : Int32)) rfl (hL_builds_2.at 20 rfl rfl) ?_
    refine os_icmp_ne (off := 7) (tgt := 242) rfl (hL_builds_2.at 21 rfl rfl) ?_ ?_
    · refine os_iconst (i := 0) (v := (0 : Int32)) rfl (hL_builds_2.at 24 rfl rfl) ?_
      exact osW.widen (k' := k4 + 312) (n' := n4 + 2342) (by omega) (by omega) (osW.sub [2, 3, 5, 0, 1] rfl (sL_builds_243 N k4 n4 hx4 c4 g4 l0 l1 l3 x1 k0 (0 : Int32)))
    · refine os_iconst (i := 1) (v := (1 : Int32)) rfl (hL_builds_2.at 22 rfl rfl) ?_
      refine os_goto (off := 4) (tgt := 243) rfl (hL_builds_2.at 23 rfl rfl) ?_
      exact osW.widen (k' := k4 + 312) (n' := n4 + 2342) (by omega) (by omega) (osW.sub [2, 3, 5, 0, 1] rfl (sL_builds_243 N k4 n4 hx4 c4 g4 l0 l1 l3 x1 k0 (1 : Int32)))
set_option maxRecDepth 100000 in
set_option maxHeartbeats 4000000 in
theorem sL_builds_188 (N : Nat) (k4 n4 : Nat) (hx4 : k4 + 338 ≤ 2366 ∧ n4 + 2498 ≤ 17486) (c4 : Nat × Nat × Int32 × Int32 → osM Int32) (g4 : ∀ (l0 : Nat) (l1 : Nat) (l2 : Int32) (l3 : Int32), osW (osFinM (fun r : Int32 => some (.int r)) 2433 17888) yL_builds cL_builds 10 (some .boolean) [] { frames := 9, cells := 2433, slots := 17888, locals := 212 } (k4 + 338) (n4 + 2498) 4 [(0, .ref l0), (1, .ref l1), (2, .int l2), (3, .int l3)] [] (c4 (l0, l1, l2, l3))) (l0 : Nat) (l1 : Nat) (l2 : Int32) (l3 : Int32) (l4 : Int32) : osW (osFinM (fun r : Int32 => some (.int r)) 2433 17888) yL_builds cL_builds 10 (some .boolean) [] { frames := 9, cells := 2433, slots := 17888, locals := 212 } (k4 + 175) (n4 + 1285) 188 [(0, .ref l0), (1, .ref l1), (2, .int l2), (3, .int l3), (4, .int l4)] [] (qL_builds_188 N c4 l0 l1 l2 l3 l4) := by
  unfold qL_builds_188
  refine os_iconst (i := 0) (v := (0 : Int32)) rfl (hL_builds_1.at 48 rfl rfl) ?_
  exact osW.widen (k' := k4 + 175) (n' := n4 + 1285) (by omega) (by omega) (osW.sub [0, 1, 2, 3, 4] rfl (sL_builds_189 N k4 n4 hx4 c4 g4 l0 l1 l2 l3 l4 (0 : Int32)))
set_option maxRecDepth 100000 in
set_option maxHeartbeats 4000000 in
theorem sL_builds_158 (N : Nat) (k4 n4 : Nat) (hx4 : k4 + 338 ≤ 2366 ∧ n4 + 2498 ≤ 17486) (c4 : Nat × Nat × Int32 × Int32 → osM Int32) (g4 : ∀ (l0 : Nat) (l1 : Nat) (l2 : Int32) (l3 : Int32), osW (osFinM (fun r : Int32 => some (.int r)) 2433 17888) yL_builds cL_builds 10 (some .boolean) [] { frames := 9, cells := 2433, slots := 17888, locals := 212 } (k4 + 338) (n4 + 2498) 4 [(0, .ref l0), (1, .ref l1), (2, .int l2), (3, .int l3)] [] (c4 (l0, l1, l2, l3))) (l0 : Nat) (l1 : Nat) (l3 : Int32) (l4 : Int32) (k0 : Int32) : osW (osFinM (fun r : Int32 => some (.int r)) 2433 17888) yL_builds cL_builds 10 (some .boolean) [] { frames := 9, cells := 2433, slots := 17888, locals := 212 } (k4 + 171) (n4 + 1261) 158 [(0, .ref l0), (1, .ref l1), (3, .int l3), (4, .int l4)] [.int k0] (qL_builds_158 N c4 l0 l1 l3 l4 k0) := by
  unfold qL_builds_158
  refine os_istore_n (i := 2) (q := 2) rfl (lv' := [(2, .int k0), (0, .ref l0), (1, .ref l1), (3, .int l3), (4, .int l4)]) (Nat.le_of_ble_eq_true rfl) rfl (hL_builds_1.at 32 rfl rfl) ?_
  refine os_aload_n (i := 0) (q := 0) (v := l0) 1 rfl rfl (hL_builds_1.at 33 rfl rfl) ?_
  refine os_iload (v := l4) 4 rfl (hL_builds_1.at 34 rfl rfl) ?_
  refine os_iconst (i := 4) (v := (4 : Int32)) rfl (hL_builds_1.at 35 rfl rfl) ?_
  refine os_callV (cis := [7]) (b := l0) (As := [.int l4, .int (4 : Int32)]) (st := []) (st' := (fun r => .int r :: [])) sl7_X9_area_X9_area mdX9_area wd1052 wd1053 (osMetT.sure (sX9_area N l0 l4 (4 : Int32))) rfl rfl (fun _ => rfl) (Nat.le_of_ble_eq_true rfl) (Nat.le_of_ble_eq_true rfl) (Nat.le_of_ble_eq_true rfl) rfl (by show _ ≤ 2433; omega) rfl (by show _ ≤ 17888; omega) (hL_builds_1.at 36 rfl rfl) (fun x1 => ?_)
  refine os_istore (i := 8) (lv' := [(8, .int x1), (2, .int k0), (0, .ref l0), (1, .ref l1), (3, .int l3), (4, .int l4)]) (Nat.le_of_ble_eq_true rfl) rfl (hL_builds_1.at 37 rfl rfl) ?_
  refine os_iload (v := x1) 0 rfl (hL_builds_1.at 38 rfl rfl) ?_
  refine os_iconst (i := (-1)) (v := (-1 : Int32)) rfl (hL_builds_1.at 39 rfl rfl) ?_
  refine os_icmp_eq (off := 17) (tgt := 188) rfl (hL_builds_1.at 40 rfl rfl) ?_ ?_
  · exact osW.widen (k' := k4 + 175) (n' := n4 + 1285) (by omega) (by omega) (osW.sub [2, 3, 1, 4, 5] rfl (sL_builds_188 N k4 n4 hx4 c4 g4 l0 l1 k0 l3 l4))
  · refine os_aload_n (i := 0) (q := 0) (v := l0) 2 rfl rfl (hL_builds_1.at 41 rfl rfl) ?_
    refine os_iload (v := x1) 0 rfl (hL_builds_1.at 42 rfl rfl) ?_
    refine os_iconst (i := 3) (v := (3 : Int32)) rfl (hL_builds_1.at 43 rfl rfl) ?_
    refine os_callV (cis := [7]) (b := l0) (As := [.int x1, .int (3 : Int32)]) (st := []) (st' := (fun r => .int r :: [])) sl7_X9_power_X9_power mdX9_power wd1482 wd1483 (osMetT.sure (sX9_power N l0 x1 (3 : Int32))) rfl rfl (fun _ => rfl) (Nat.le_of_ble_eq_true rfl) (Nat.le_of_ble_eq_true rfl) (Nat.le_of_ble_eq_true rfl) rfl (by show _ ≤ 2433; omega) rfl (by show _ ≤ 17888; omega) (hL_builds_1.at 44 rfl rfl) (fun x2 => ?_)
    refine os_if_ge (off := 7) (tgt := 188) rfl (hL_builds_1.at 45 rfl rfl) ?_ ?_
    · exact osW.widen (k' := k4 + 175) (n' := n4 + 1285) (by omega) (by omega) (osW.sub [2, 3, 1, 4, 5] rfl (sL_builds_188 N k4 n4 hx4 c4 g4 l0 l1 k0 l3 l4))
    · refine os_iconst (i := 1) (v := (1 : Int32)) rfl (hL_builds_1.at 46 rfl rfl) ?_
      refine os_goto (off := 4) (tgt := 189) rfl (hL_builds_1.at 47 rfl rfl) ?_
      exact osW.widen (k' := k4 + 175) (n' := n4 + 1285) (by omega) (by omega) (osW.sub [2, 3, 1, 4, 5] rfl (sL_builds_189 N k4 n4 hx4 c4 g4 l0 l1 k0 l3 l4 (1 : Int32)))
set_option maxRecDepth 100000 in
set_option maxHeartbeats 4000000 in
theorem sL_builds_157 (N : Nat) (k4 n4 : Nat) (hx4 : k4 + 338 ≤ 2366 ∧ n4 + 2498 ≤ 17486) (c4 : Nat × Nat × Int32 × Int32 → osM Int32) (g4 : ∀ (l0 : Nat) (l1 : Nat) (l2 : Int32) (l3 : Int32), osW (osFinM (fun r : Int32 => some (.int r)) 2433 17888) yL_builds cL_builds 10 (some .boolean) [] { frames := 9, cells := 2433, slots := 17888, locals := 212 } (k4 + 338) (n4 + 2498) 4 [(0, .ref l0), (1, .ref l1), (2, .int l2), (3, .int l3)] [] (c4 (l0, l1, l2, l3))) (l0 : Nat) (l1 : Nat) (l3 : Int32) (l4 : Int32) : osW (osFinM (fun r : Int32 => some (.int r)) 2433 17888) yL_builds cL_builds 10 (some .boolean) [] { frames := 9, cells := 2433, slots := 17888, locals := 212 } (k4 + 171) (n4 + 1261) 157 [(0, .ref l0), (1, .ref l1), (3, .int l3), (4, .int l4)] [] (qL_builds_157 N c4 l0 l1 l3 l4) := by
  unfold qL_builds_157
  refine os_iconst (i := 0) (v := (0 : Int32)) rfl (hL_builds_1.at 31 rfl rfl) ?_
  exact osW.widen (k' := k4 + 171) (n' := n4 + 1261) (by omega) (by omega) (osW.sub [0, 1, 2, 3] rfl (sL_builds_158 N k4 n4 hx4 c4 g4 l0 l1 l3 l4 (0 : Int32)))
set_option maxRecDepth 100000 in
set_option maxHeartbeats 4000000 in
theorem sL_builds_149 (N : Nat) (k4 n4 : Nat) (hx4 : k4 + 338 ≤ 2366 ∧ n4 + 2498 ≤ 17486) (c4 : Nat × Nat × Int32 × Int32 → osM Int32) (g4 : ∀ (l0 : Nat) (l1 : Nat) (l2 : Int32) (l3 : Int32), osW (osFinM (fun r : Int32 => some (.int r)) 2433 17888) yL_builds cL_builds 10 (some .boolean) [] { frames := 9, cells := 2433, slots := 17888, locals := 212 } (k4 + 338) (n4 + 2498) 4 [(0, .ref l0), (1, .ref l1), (2, .int l2), (3, .int l3)] [] (c4 (l0, l1, l2, l3))) (l0 : Nat) (l1 : Nat) (l3 : Int32) (l4 : Int32) (k0 : Int32) (k1 : Int32) (k2 : Int32) : osW (osFinM (fun r : Int32 => some (.int r)) 2433 17888) yL_builds cL_builds 10 (some .boolean) [] { frames := 9, cells := 2433, slots := 17888, locals := 212 } (k4 + 171) (n4 + 1261) 149 [(0, .ref l0), (1, .ref l1), (3, .int l3), (4, .int l4)] [.int k0, .int k1, .int k2] (qL_builds_149 N c4 l0 l1 l3 l4 k0 k1 k2) := by
  unfold qL_builds_149
  refine os_iadd (hL_builds_1.at 27 rfl rfl) ?_
  refine os_icmp_ne (off := 7) (tgt := 157) rfl (hL_builds_1.at 28 rfl rfl) ?_ ?_
  · exact osW.widen (k' := k4 + 171) (n' := n4 + 1261) (by omega) (by omega) (osW.sub [0, 1, 2, 3] rfl (sL_builds_157 N k4 n4 hx4 c4 g4 l0 l1 l3 l4))
  · refine os_iconst (i := 1) (v := (1 : Int32)) rfl (hL_builds_1.at 29 rfl rfl) ?_
    refine os_goto (off := 4) (tgt := 158) rfl (hL_builds_1.at 30 rfl rfl) ?_
    exact osW.widen (k' := k4 + 171) (n' := n4 + 1261) (by omega) (by omega) (osW.sub [0, 1, 2, 3] rfl (sL_builds_158 N k4 n4 hx4 c4 g4 l0 l1 l3 l4 (1 : Int32)))
set_option maxRecDepth 100000 in
set_option maxHeartbeats 4000000 in
theorem sL_builds_128 (N : Nat) (k4 n4 : Nat) (hx4 : k4 + 338 ≤ 2366 ∧ n4 + 2498 ≤ 17486) (c4 : Nat × Nat × Int32 × Int32 → osM Int32) (g4 : ∀ (l0 : Nat) (l1 : Nat) (l2 : Int32) (l3 : Int32), osW (osFinM (fun r : Int32 => some (.int r)) 2433 17888) yL_builds cL_builds 10 (some .boolean) [] { frames := 9, cells := 2433, slots := 17888, locals := 212 } (k4 + 338) (n4 + 2498) 4 [(0, .ref l0), (1, .ref l1), (2, .int l2), (3, .int l3)] [] (c4 (l0, l1, l2, l3))) (l0 : Nat) (l1 : Nat) (l3 : Int32) (l4 : Int32) (l5 : Int32) (l7 : Int32) (k0 : Int32) : osW (osFinM (fun r : Int32 => some (.int r)) 2433 17888) yL_builds cL_builds 10 (some .boolean) [] { frames := 9, cells := 2433, slots := 17888, locals := 212 } (k4 + 145) (n4 + 1105) 128 [(0, .ref l0), (1, .ref l1), (3, .int l3), (4, .int l4), (5, .int l5), (7, .int l7)] [.int k0] (qL_builds_128 N c4 l0 l1 l3 l4 l5 l7 k0) := by
  unfold qL_builds_128
  refine os_iload (v := l7) 5 rfl (hL_builds_1.at 17 rfl rfl) ?_
  refine os_icmp_ne (off := 27) (tgt := 157) rfl (hL_builds_1.at 18 rfl rfl) ?_ ?_
  · exact osW.widen (k' := k4 + 171) (n' := n4 + 1261) (by omega) (by omega) (osW.sub [0, 1, 2, 3] rfl (sL_builds_157 N k4 n4 hx4 c4 g4 l0 l1 l3 l4))
  · refine os_aload_n (i := 0) (q := 0) (v := l0) 0 rfl rfl (hL_builds_1.at 19 rfl rfl) ?_
    refine os_callS (As := [.ref l0]) (st := []) (st' := (fun r => .int r :: [])) mdL_units_ wd1388 wd1389 (sL_units_ N l0) rfl rfl (fun _ => rfl) (Nat.le_of_ble_eq_true rfl) (Nat.le_of_ble_eq_true rfl) (Nat.le_of_ble_eq_true rfl) rfl (by show _ ≤ 2433; omega) rfl (by show _ ≤ 17888; omega) (hL_builds_1.at 20 rfl rfl) (fun x1 => ?_)
    refine os_iload (v := l5) 4 rfl (hL_builds_1.at 21 rfl rfl) ?_
    refine os_iload (v := l7) 5 rfl (hL_builds_1.at 22 rfl rfl) ?_
    refine os_if_eq (off := 7) (tgt := 148) rfl (hL_builds_1.at 23 rfl rfl) ?_ ?_
    · refine os_iconst (i := 0) (v := (0 : Int32)) rfl (hL_builds_1.at 26 rfl rfl) ?_
      exact osW.widen (k' := k4 + 171) (n' := n4 + 1261) (by omega) (by omega) (osW.sub [0, 1, 2, 3] rfl (sL_builds_149 N k4 n4 hx4 c4 g4 l0 l1 l3 l4 (0 : Int32) l5 x1))
    · refine os_iconst (i := 1) (v := (1 : Int32)) rfl (hL_builds_1.at 24 rfl rfl) ?_
      refine os_goto (off := 4) (tgt := 149) rfl (hL_builds_1.at 25 rfl rfl) ?_
      exact osW.widen (k' := k4 + 171) (n' := n4 + 1261) (by omega) (by omega) (osW.sub [0, 1, 2, 3] rfl (sL_builds_149 N k4 n4 hx4 c4 g4 l0 l1 l3 l4 (1 : Int32) l5 x1))
set_option maxRecDepth 100000 in
set_option maxHeartbeats 4000000 in
theorem sL_builds_84 (N : Nat) (k4 n4 : Nat) (hx4 : k4 + 338 ≤ 2366 ∧ n4 + 2498 ≤ 17486) (c4 : Nat × Nat × Int32 × Int32 → osM Int32) (g4 : ∀ (l0 : Nat) (l1 : Nat) (l2 : Int32) (l3 : Int32), osW (osFinM (fun r : Int32 => some (.int r)) 2433 17888) yL_builds cL_builds 10 (some .boolean) [] { frames := 9, cells := 2433, slots := 17888, locals := 212 } (k4 + 338) (n4 + 2498) 4 [(0, .ref l0), (1, .ref l1), (2, .int l2), (3, .int l3)] [] (c4 (l0, l1, l2, l3))) (l0 : Nat) (l1 : Nat) (l3 : Int32) (l4 : Int32) (l5 : Int32) (k0 : Int32) : osW (osFinM (fun r : Int32 => some (.int r)) 2433 17888) yL_builds cL_builds 10 (some .boolean) [] { frames := 9, cells := 2433, slots := 17888, locals := 212 } (k4 + 34) (n4 + 204) 84 [(0, .ref l0), (1, .ref l1), (3, .int l3), (4, .int l4), (5, .int l5)] [.int k0] (qL_builds_84 N c4 l0 l1 l3 l4 l5 k0) := by
  unfold qL_builds_84
  refine os_istore (i := 7) (lv' := [(7, .int k0), (0, .ref l0), (1, .ref l1), (3, .int l3), (4, .int l4), (5, .int l5)]) (Nat.le_of_ble_eq_true rfl) rfl (hL_builds_0.at 46 rfl rfl) ?_
  refine os_aload_n (i := 0) (q := 0) (v := l0) 1 rfl rfl (hL_builds_0.at 47 rfl rfl) ?_
  refine os_new (C := RJ4) (T := TJ4) (N := 4) (ci := 9) (ty0 := tyJ4) rfl tyJ4_ok osinJ4 wd834 wd835 wd64 dfJ4 (by show _ ≤ 2433; omega) (by show _ ≤ 17888; omega) (hL_builds_0.at 48 rfl rfl) (fun x1 => ?_)
  refine os_dup rfl (hL_builds_0.at 49 rfl rfl) ?_
  refine os_callI (b := x1) (As := []) (st := [.ref x1, .ref l0]) (st' := (fun _ => [.ref x1, .ref l0])) mdJ4_init_da8c8 rfl wd836 wd837 (sJ4_init_da8c8 N x1 ) rfl rfl (fun _ => rfl) (Nat.le_of_ble_eq_true rfl) (Nat.le_of_ble_eq_true rfl) (Nat.le_of_ble_eq_true rfl) rfl (by show _ ≤ 2433; omega) rfl (by show _ ≤ 17888; omega) (hL_builds_1.at 0 rfl rfl) (fun _ => ?_)
  refine os_text (j := 14) (q := ("OrderSettlerLaw", 168, "build ")) rfl rfl (hL_builds_1.at 1 rfl rfl) (fun x2 => ?_)
  refine os_callV (cis := [9]) (b := x1) (As := [.ref x2]) (st := [.ref l0]) (st' := (fun r => .ref r :: [.ref l0])) sl9_J4_append_15ec4_J4_append_15ec4 mdJ4_append_15ec4 wd867 wd868 (sJ4_append_15ec4 N x1 x2) rfl rfl (fun _ => rfl) (Nat.le_of_ble_eq_true rfl) (Nat.le_of_ble_eq_true rfl) (Nat.le_of_ble_eq_true rfl) rfl (by show _ ≤ 2433; omega) rfl (by show _ ≤ 17888; omega) (hL_builds_1.at 2 rfl rfl) (fun x3 => ?_)
  refine os_bipush (i := 97) (v := (97 : Int32)) rfl (hL_builds_1.at 3 rfl rfl) ?_
  refine os_iload (v := l4) 4 rfl (hL_builds_1.at 4 rfl rfl) ?_
  refine os_iadd (hL_builds_1.at 5 rfl rfl) ?_
  refine os_i2c (hL_builds_1.at 6 rfl rfl) ?_
  refine os_callV (cis := [9]) (b := x3) (As := [.int ((((97 : Int32) + l4).toUInt32 % 65536).toInt32)]) (st := [.ref l0]) (st' := (fun r => .ref r :: [.ref l0])) sl9_J4_append_cf468_J4_append_cf468 mdJ4_append_cf468 wd966 wd967 (sJ4_append_cf468 N x3 ((((97 : Int32) + l4).toUInt32 % 65536).toInt32)) rfl rfl (fun _ => rfl) (Nat.le_of_ble_eq_true rfl) (Nat.le_of_ble_eq_true rfl) (Nat.le_of_ble_eq_true rfl) rfl (by show _ ≤ 2433; omega) rfl (by show _ ≤ 17888; omega) (hL_builds_1.at 7 rfl rfl) (fun x4 => ?_)
  refine os_text (j := 15) (q := ("OrderSettlerLaw", 170, " army;")) rfl rfl (hL_builds_1.at 8 rfl rfl) (fun x5 => ?_)
  refine os_callV (cis := [9]) (b := x4) (As := [.ref x5]) (st := [.ref l0]) (st' := (fun r => .ref r :: [.ref l0])) sl9_J4_append_15ec4_J4_append_15ec4 mdJ4_append_15ec4 wd867 wd868 (sJ4_append_15ec4 N x4 x5) rfl rfl (fun _ => rfl) (Nat.le_of_ble_eq_true rfl) (Nat.le_of_ble_eq_true rfl) (Nat.le_of_ble_eq_true rfl) rfl (by show _ ≤ 2433; omega) rfl (by show _ ≤ 17888; omega) (hL_builds_1.at 9 rfl rfl) (fun x6 => ?_)
  refine os_callV (cis := [9]) (b := x6) (As := []) (st := [.ref l0]) (st' := (fun r => .ref r :: [.ref l0])) sl9_J4_toString_0e30d_J4_toString_0e30d mdJ4_toString_0e30d wd986 wd987 (sJ4_toString_0e30d N x6 ) rfl rfl (fun _ => rfl) (Nat.le_of_ble_eq_true rfl) (Nat.le_of_ble_eq_true rfl) (Nat.le_of_ble_eq_true rfl) rfl (by show _ ≤ 2433; omega) rfl (by show _ ≤ 17888; omega) (hL_builds_1.at 10 rfl rfl) (fun x7 => ?_)
  refine os_callSH (np := 2) (As := [.ref l0, .ref x7]) (st := []) (st' := (fun r => .int r :: [])) wd1097 wd53 (by decide +kernel) (by decide +kernel) wd1095 wd1096 (sL_tell N l0 x7) rfl rfl (fun _ => rfl) (Nat.le_of_ble_eq_true rfl) (Nat.le_of_ble_eq_true rfl) (Nat.le_of_ble_eq_true rfl) rfl (by show _ ≤ 2433; omega) rfl (by show _ ≤ 17888; omega) (hL_builds_1.at 11 rfl rfl) (fun x8 => ?_)
  refine os_iconst (i := 1) (v := (1 : Int32)) rfl (hL_builds_1.at 12 rfl rfl) ?_
  refine os_icmp_ne (off := 7) (tgt := 127) rfl (hL_builds_1.at 13 rfl rfl) ?_ ?_
  · refine os_iconst (i := 0) (v := (0 : Int32)) rfl (hL_builds_1.at 16 rfl rfl) ?_
    exact osW.widen (k' := k4 + 145) (n' := n4 + 1105) (by omega) (by omega) (osW.sub [1, 2, 3, 4, 5, 0] rfl (sL_builds_128 N k4 n4 hx4 c4 g4 l0 l1 l3 l4 l5 k0 (0 : Int32)))
  · refine os_iconst (i := 1) (v := (1 : Int32)) rfl (hL_builds_1.at 14 rfl rfl) ?_
    refine os_goto (off := 4) (tgt := 128) rfl (hL_builds_1.at 15 rfl rfl) ?_
    exact osW.widen (k' := k4 + 145) (n' := n4 + 1105) (by omega) (by omega) (osW.sub [1, 2, 3, 4, 5, 0] rfl (sL_builds_128 N k4 n4 hx4 c4 g4 l0 l1 l3 l4 l5 k0 (1 : Int32)))
set_option maxRecDepth 100000 in
set_option maxHeartbeats 4000000 in
theorem sL_builds_83 (N : Nat) (k4 n4 : Nat) (hx4 : k4 + 338 ≤ 2366 ∧ n4 + 2498 ≤ 17486) (c4 : Nat × Nat × Int32 × Int32 → osM Int32) (g4 : ∀ (l0 : Nat) (l1 : Nat) (l2 : Int32) (l3 : Int32), osW (osFinM (fun r : Int32 => some (.int r)) 2433 17888) yL_builds cL_builds 10 (some .boolean) [] { frames := 9, cells := 2433, slots := 17888, locals := 212 } (k4 + 338) (n4 + 2498) 4 [(0, .ref l0), (1, .ref l1), (2, .int l2), (3, .int l3)] [] (c4 (l0, l1, l2, l3))) (l0 : Nat) (l1 : Nat) (l3 : Int32) (l4 : Int32) (l5 : Int32) : osW (osFinM (fun r : Int32 => some (.int r)) 2433 17888) yL_builds cL_builds 10 (some .boolean) [] { frames := 9, cells := 2433, slots := 17888, locals := 212 } (k4 + 34) (n4 + 204) 83 [(0, .ref l0), (1, .ref l1), (3, .int l3), (4, .int l4), (5, .int l5)] [] (qL_builds_83 N c4 l0 l1 l3 l4 l5) := by
  unfold qL_builds_83
  refine os_iconst (i := 0) (v := (0 : Int32)) rfl (hL_builds_0.at 45 rfl rfl) ?_
  exact osW.widen (k' := k4 + 34) (n' := n4 + 204) (by omega) (by omega) (osW.sub [0, 1, 2, 3, 4] rfl (sL_builds_84 N k4 n4 hx4 c4 g4 l0 l1 l3 l4 l5 (0 : Int32)))
set_option maxRecDepth 100000 in
set_option maxHeartbeats 4000000 in
theorem tL_builds_4 (N : Nat) (k4 n4 : Nat) (hx4 : k4 + 338 ≤ 2366 ∧ n4 + 2498 ≤ 17486) (c4 : Nat × Nat × Int32 × Int32 → osM Int32) (g4 : ∀ (l0 : Nat) (l1 : Nat) (l2 : Int32) (l3 : Int32), osW (osFinM (fun r : Int32 => some (.int r)) 2433 17888) yL_builds cL_builds 10 (some .boolean) [] { frames := 9, cells := 2433, slots := 17888, locals := 212 } (k4 + 338) (n4 + 2498) 4 [(0, .ref l0), (1, .ref l1), (2, .int l2), (3, .int l3)] [] (c4 (l0, l1, l2, l3))) (l0 : Nat) (l1 : Nat) (l2 : Int32) (l3 : Int32) : osW (osFinM (fun r : Int32 => some (.int r)) 2433 17888) yL_builds cL_builds 10 (some .boolean) [] { frames := 9, cells := 2433, slots := 17888, locals := 212 } (k4) (n4) 4 [(0, .ref l0), (1, .ref l1), (2, .int l2), (3, .int l3)] [] (bL_builds_4 N c4 l0 l1 l2 l3) := by
  unfold bL_builds_4
  refine os_iload_n (i := 3) (q := 3) (v := l3) 3 rfl rfl (hL_builds_0.at 4 rfl rfl) ?_
  refine os_bipush (i := 6) (v := (6 : Int32)) rfl (hL_builds_0.at 5 rfl rfl) ?_
  refine os_icmp_ge (off := 273) (tgt := 280) rfl (hL_builds_0.at 6 rfl rfl) ?_ ?_
  · exact osW.widen (k' := 2366) (n' := 17486) (by omega) (by omega) (osW.sub [0, 2] rfl (sL_builds_280 N l0 l2))
  · refine os_iload_n (i := 2) (q := 2) (v := l2) 2 rfl rfl (hL_builds_0.at 7 rfl rfl) ?_
    refine os_if_eq (off := 269) (tgt := 280) rfl (hL_builds_0.at 8 rfl rfl) ?_ ?_
    · exact osW.widen (k' := 2366) (n' := 17486) (by omega) (by omega) (osW.sub [0, 2] rfl (sL_builds_280 N l0 l2))
    · refine os_aload_n (i := 1) (q := 1) (v := l1) 1 rfl rfl (hL_builds_0.at 9 rfl rfl) ?_
      refine os_callS (As := [.ref l1]) (st := []) (st' := (fun r => .int r :: [])) mdL_next wd484 wd485 (sL_next N l1) rfl rfl (fun _ => rfl) (Nat.le_of_ble_eq_true rfl) (Nat.le_of_ble_eq_true rfl) (Nat.le_of_ble_eq_true rfl) rfl (by show _ ≤ 2433; omega) rfl (by show _ ≤ 17888; omega) (hL_builds_0.at 10 rfl rfl) (fun x1 => ?_)
      refine os_aload_n (i := 0) (q := 0) (v := l0) 0 rfl rfl (hL_builds_0.at 11 rfl rfl) ?_
      refine os_callV (cis := [7]) (b := l0) (As := []) (st := [.int x1]) (st' := (fun r => .int r :: [.int x1])) sl7_X9_areas_X9_areas mdX9_areas wd472 wd473 (sX9_areas N l0 ) rfl rfl (fun _ => rfl) (Nat.le_of_ble_eq_true rfl) (Nat.le_of_ble_eq_true rfl) (Nat.le_of_ble_eq_true rfl) rfl (by show _ ≤ 2433; omega) rfl (by show _ ≤ 17888; omega) (hL_builds_0.at 12 rfl rfl) (fun x2 => ?_)
      refine os_guard (fun h3 => ?_)
      refine os_irem h3 (hL_builds_0.at 13 rfl rfl) ?_
      refine os_istore (i := 4) (lv' := [(4, .int (x1 - x1 / x2 * x2)), (0, .ref l0), (1, .ref l1), (2, .int l2), (3, .int l3)]) (Nat.le_of_ble_eq_true rfl) rfl (hL_builds_0.at 14 rfl rfl) ?_
      refine os_aload_n (i := 0) (q := 0) (v := l0) 1 rfl rfl (hL_builds_0.at 15 rfl rfl) ?_
      refine os_callS (As := [.ref l0]) (st := []) (st' := (fun r => .int r :: [])) mdL_units_ wd1388 wd1389 (sL_units_ N l0) rfl rfl (fun _ => rfl) (Nat.le_of_ble_eq_true rfl) (Nat.le_of_ble_eq_true rfl) (Nat.le_of_ble_eq_true rfl) rfl (by show _ ≤ 2433; omega) rfl (by show _ ≤ 17888; omega) (hL_builds_0.at 16 rfl rfl) (fun x4 => ?_)
      refine os_istore (i := 5) (lv' := [(5, .int x4), (4, .int (x1 - x1 / x2 * x2)), (0, .ref l0), (1, .ref l1), (2, .int l2), (3, .int l3)]) (Nat.le_of_ble_eq_true rfl) rfl (hL_builds_0.at 17 rfl rfl) ?_
      refine os_aload_n (i := 0) (q := 0) (v := l0) 2 rfl rfl (hL_builds_0.at 18 rfl rfl) ?_
      refine os_iload (v := (x1 - x1 / x2 * x2)) 1 rfl (hL_builds_0.at 19 rfl rfl) ?_
      refine os_iconst (i := 2) (v := (2 : Int32)) rfl (hL_builds_0.at 20 rfl rfl) ?_
      refine os_callV (cis := [7]) (b := l0) (As := [.int (x1 - x1 / x2 * x2), .int (2 : Int32)]) (st := []) (st' := (fun r => .int r :: [])) sl7_X9_area_X9_area mdX9_area wd1052 wd1053 (osMetT.sure (sX9_area N l0 (x1 - x1 / x2 * x2) (2 : Int32))) rfl rfl (fun _ => rfl) (Nat.le_of_ble_eq_true rfl) (Nat.le_of_ble_eq_true rfl) (Nat.le_of_ble_eq_true rfl) rfl (by show _ ≤ 2433; omega) rfl (by show _ ≤ 17888; omega) (hL_builds_0.at 21 rfl rfl) (fun x5 => ?_)
      refine os_istore (i := 6) (lv' := [(6, .int x5), (5, .int x4), (4, .int (x1 - x1 / x2 * x2)), (0, .ref l0), (1, .ref l1), (2, .int l2), (3, .int l3)]) (Nat.le_of_ble_eq_true rfl) rfl (hL_builds_0.at 22 rfl rfl) ?_
      refine os_iload (v := x5) 0 rfl (hL_builds_0.at 23 rfl rfl) ?_
      refine os_iconst (i := (-1)) (v := (-1 : Int32)) rfl (hL_builds_0.at 24 rfl rfl) ?_
      refine os_icmp_eq (off := 40) (tgt := 83) rfl (hL_builds_0.at 25 rfl rfl) ?_ ?_
      · exact osW.widen (k' := k4 + 34) (n' := n4 + 204) (by omega) (by omega) (osW.sub [3, 4, 6, 2, 1] rfl (sL_builds_83 N k4 n4 hx4 c4 g4 l0 l1 l3 (x1 - x1 / x2 * x2) x4))
      · refine os_aload_n (i := 0) (q := 0) (v := l0) 3 rfl rfl (hL_builds_0.at 26 rfl rfl) ?_
        refine os_iload (v := (x1 - x1 / x2 * x2)) 2 rfl (hL_builds_0.at 27 rfl rfl) ?_
        refine os_iconst (i := 3) (v := (3 : Int32)) rfl (hL_builds_0.at 28 rfl rfl) ?_
        refine os_callV (cis := [7]) (b := l0) (As := [.int (x1 - x1 / x2 * x2), .int (3 : Int32)]) (st := []) (st' := (fun r => .int r :: [])) sl7_X9_area_X9_area mdX9_area wd1052 wd1053 (osMetT.sure (sX9_area N l0 (x1 - x1 / x2 * x2) (3 : Int32))) rfl rfl (fun _ => rfl) (Nat.le_of_ble_eq_true rfl) (Nat.le_of_ble_eq_true rfl) (Nat.le_of_ble_eq_true rfl) rfl (by show _ ≤ 2433; omega) rfl (by show _ ≤ 17888; omega) (hL_builds_0.at 29 rfl rfl) (fun x6 => ?_)
        refine os_iload (v := x5) 0 rfl (hL_builds_0.at 30 rfl rfl) ?_
        refine os_icmp_ne (off := 28) (tgt := 83) rfl (hL_builds_0.at 31 rfl rfl) ?_ ?_
        · exact osW.widen (k' := k4 + 34) (n' := n4 + 204) (by omega) (by omega) (osW.sub [3, 4, 6, 2, 1] rfl (sL_builds_83 N k4 n4 hx4 c4 g4 l0 l1 l3 (x1 - x1 / x2 * x2) x4))
        · refine os_aload_n (i := 0) (q := 0) (v := l0) 3 rfl rfl (hL_builds_0.at 32 rfl rfl) ?_
          refine os_iload (v := (x1 - x1 / x2 * x2)) 2 rfl (hL_builds_0.at 33 rfl rfl) ?_
          refine os_iconst (i := 4) (v := (4 : Int32)) rfl (hL_builds_0.at 34 rfl rfl) ?_
          refine os_callV (cis := [7]) (b := l0) (As := [.int (x1 - x1 / x2 * x2), .int (4 : Int32)]) (st := []) (st' := (fun r => .int r :: [])) sl7_X9_area_X9_area mdX9_area wd1052 wd1053 (osMetT.sure (sX9_area N l0 (x1 - x1 / x2 * x2) (4 : Int32))) rfl rfl (fun _ => rfl) (Nat.le_of_ble_eq_true rfl) (Nat.le_of_ble_eq_true rfl) (Nat.le_of_ble_eq_true rfl) rfl (by show _ ≤ 2433; omega) rfl (by show _ ≤ 17888; omega) (hL_builds_0.at 35 rfl rfl) (fun x7 => ?_)
          refine os_iconst (i := (-1)) (v := (-1 : Int32)) rfl (hL_builds_0.at 36 rfl rfl) ?_
          refine os_icmp_ne (off := 17) (tgt := 83) rfl (hL_builds_0.at 37 rfl rfl) ?_ ?_
          · exact osW.widen (k' := k4 + 34) (n' := n4 + 204) (by omega) (by omega) (osW.sub [3, 4, 6, 2, 1] rfl (sL_builds_83 N k4 n4 hx4 c4 g4 l0 l1 l3 (x1 - x1 / x2 * x2) x4))
          · refine os_aload_n (i := 0) (q := 0) (v := l0) 3 rfl rfl (hL_builds_0.at 38 rfl rfl) ?_
            refine os_iload (v := x5) 0 rfl (hL_builds_0.at 39 rfl rfl) ?_
            refine os_iconst (i := 3) (v := (3 : Int32)) rfl (hL_builds_0.at 40 rfl rfl) ?_
            refine os_callV (cis := [7]) (b := l0) (As := [.int x5, .int (3 : Int32)]) (st := []) (st' := (fun r => .int r :: [])) sl7_X9_power_X9_power mdX9_power wd1482 wd1483 (osMetT.sure (sX9_power N l0 x5 (3 : Int32))) rfl rfl (fun _ => rfl) (Nat.le_of_ble_eq_true rfl) (Nat.le_of_ble_eq_true rfl) (Nat.le_of_ble_eq_true rfl) rfl (by show _ ≤ 2433; omega) rfl (by show _ ≤ 17888; omega) (hL_builds_0.at 41 rfl rfl) (fun x8 => ?_)
            refine os_if_le (off := 7) (tgt := 83) rfl (hL_builds_0.at 42 rfl rfl) ?_ ?_
            · exact osW.widen (k' := k4 + 34) (n' := n4 + 204) (by omega) (by omega) (osW.sub [3, 4, 6, 2, 1] rfl (sL_builds_83 N k4 n4 hx4 c4 g4 l0 l1 l3 (x1 - x1 / x2 * x2) x4))
            · refine os_iconst (i := 1) (v := (1 : Int32)) rfl (hL_builds_0.at 43 rfl rfl) ?_
              refine os_goto (off := 4) (tgt := 84) rfl (hL_builds_0.at 44 rfl rfl) ?_
              exact osW.widen (k' := k4 + 34) (n' := n4 + 204) (by omega) (by omega) (osW.sub [3, 4, 6, 2, 1] rfl (sL_builds_84 N k4 n4 hx4 c4 g4 l0 l1 l3 (x1 - x1 / x2 * x2) x4 (1 : Int32)))
set_option maxRecDepth 100000 in
set_option maxHeartbeats 4000000 in
theorem sL_builds_4 (N : Nat) (l0 : Nat) (l1 : Nat) (l2 : Int32) (l3 : Int32) : osW (osFinM (fun r : Int32 => some (.int r)) 2433 17888) yL_builds cL_builds 10 (some .boolean) [] { frames := 9, cells := 2433, slots := 17888, locals := 212 } (0) (0) 4 [(0, .ref l0), (1, .ref l1), (2, .int l2), (3, .int l3)] [] (qL_builds_4 N (l0, l1, l2, l3)) := by
  refine osW.widen (k' := (0) + 338 * (7 - 7)) (n' := (0) + 2498 * (7 - 7)) (by omega) (by omega) ?_
  exact osloop_K (lvf := fun p => [(0, .ref p.1), (1, .ref p.2.1), (2, .int p.2.2.1), (3, .int p.2.2.2)]) (stf := fun p => []) 7 338 2498 (0) (0) (fun f hf ih g p => tL_builds_4 N ((0) + 338 * (7 - (f + 1))) ((0) + 2498 * (7 - (f + 1))) (by omega) ih (fun l0 l1 l2 l3 => osW.widen (by omega) (by omega) (g (l0, l1, l2, l3))) p.1 p.2.1 p.2.2.1 p.2.2.2) 7 (Nat.le_refl _) (l0, l1, l2, l3)
set_option maxRecDepth 100000 in
set_option maxHeartbeats 4000000 in
theorem sL_builds (N : Nat) (l0 : Nat) (l1 : Nat) : osMet yL_builds cL_builds 10 (some .boolean) 9 212 2433 17888 (fun r : Int32 => some (.int r)) [.ref l0, .ref l1] (qL_builds N l0 l1) := by
  refine osMet.of plL (Nat.le_of_ble_eq_true rfl) (osW.rw (lv2 := [(0, .ref l0), (1, .ref l1)]) ?_ rfl rfl rfl)
  unfold qL_builds
  refine os_iconst (i := 1) (v := (1 : Int32)) rfl (hL_builds_0.at 0 rfl rfl) ?_
  refine os_istore_n (i := 2) (q := 2) rfl (lv' := [(2, .int (1 : Int32)), (0, .ref l0), (1, .ref l1)]) (Nat.le_of_ble_eq_true rfl) rfl (hL_builds_0.at 1 rfl rfl) ?_
  refine os_iconst (i := 0) (v := (0 : Int32)) rfl (hL_builds_0.at 2 rfl rfl) ?_
  refine os_istore_n (i := 3) (q := 3) rfl (lv' := [(3, .int (0 : Int32)), (2, .int (1 : Int32)), (0, .ref l0), (1, .ref l1)]) (Nat.le_of_ble_eq_true rfl) rfl (hL_builds_0.at 3 rfl rfl) ?_
  exact osW.widen (k' := 0) (n' := 0) (by omega) (by omega) (osW.sub [2, 3, 1, 0] rfl (sL_builds_4 N l0 l1 (1 : Int32) (0 : Int32)))
