-- L_outputByte
def KL_outputByte : List (Nat × Nat × Instr) := [(0, 1, .aload_n 2), (1, 1, .iconst 0), (2, 1, .aload_n 0), (3, 1, .iload_n 1), (4, 3, .invokevirtual 99), (7, 1, .i2l), (8, 1, .lastore), (9, 3, .goto 6), (12, 1, .astore_n 3), (13, 1, .iconst 1), (14, 1, .ireturn), (15, 1, .iconst 0), (16, 1, .ireturn)]
theorem hL_outputByte : osDs cL_outputByte KL_outputByte := by
  show ∀ q ∈ KL_outputByte, decode cL_outputByte q.1 = .ok (q.2.2, q.2.1)
  decide +kernel
def qL_outputByte (N : Nat) (l0 : Nat) (l1 : Int32) (l2 : Nat) : osM Int32 := osbindC (osrecv [7] l0 (qX9_outputByte N l0 l1)) (oshand [(3, (1 : Int32))]) fun x1 => osbind (ossJ 2 l2 (0 : Int32) (x1.toInt64)) fun _ => osret (0 : Int32)
set_option maxRecDepth 100000 in
set_option maxHeartbeats 4000000 in
theorem sL_outputByte_12 (N : Nat) (l0 : Nat) (l1 : Int32) (l2 : Nat) (q : Nat) : osW (osFinM (fun r : Int32 => some (.int r)) 1 6) yL_outputByte cL_outputByte 4 (some .int) [(0, 9, 12, 102)] { frames := 7, cells := 1, slots := 6, locals := 111 } 1 6 12 [(0, .ref l0), (1, .int l1), (2, .ref l2)] [.ref q] (osret (1 : Int32)) := by
  refine os_astore_n (i := 3) (q := 3) rfl (lv' := [(3, .ref q), (0, .ref l0), (1, .int l1), (2, .ref l2)]) (Nat.le_of_ble_eq_true rfl) rfl (hL_outputByte.at 8 rfl rfl) ?_
  refine os_iconst (i := 1) (v := (1 : Int32)) rfl (hL_outputByte.at 9 rfl rfl) ?_
  exact os_iret (Nat.le_of_ble_eq_true rfl) (Nat.le_of_ble_eq_true rfl) (hL_outputByte.at 10 rfl rfl).1
set_option maxRecDepth 100000 in
set_option maxHeartbeats 4000000 in
theorem sL_outputByte (N : Nat) (l0 : Nat) (l1 : Int32) (l2 : Nat) : osMetH yL_outputByte cL_outputByte 4 (some .int) [(0, 9, 12, 102)] 7 111 1 6 (fun r : Int32 => some (.int r)) [.ref l0, .int l1, .ref l2] (qL_outputByte N l0 l1 l2) := by
  refine osMetH.of plL (Nat.le_of_ble_eq_true rfl) (osW.rw (lv2 := [(0, .ref l0), (1, .int l1), (2, .ref l2)]) ?_ rfl rfl rfl)
  unfold qL_outputByte
  refine os_aload_n (i := 2) (q := 2) (v := l2) 2 rfl rfl (hL_outputByte.at 0 rfl rfl) ?_
  refine os_iconst (i := 0) (v := (0 : Int32)) rfl (hL_outputByte.at 1 rfl rfl) ?_
  refine os_aload_n (i := 0) (q := 0) (v := l0) 0 rfl rfl (hL_outputByte.at 2 rfl rfl) ?_
  refine os_iload_n (i := 1) (q := 1) (v := l1) 1 rfl rfl (hL_outputByte.at 3 rfl rfl) ?_
  refine os_callVC (cis := [7]) (L := [(3, (0, 9, 12, 102))]) (h0 := (oshand [(3, (1 : Int32))])) (b := l0) (As := [.int l1]) (st := [.int (0 : Int32), .ref l2]) (st' := (fun r => .int r :: [.int (0 : Int32), .ref l2])) rfl (List.forall_mem_cons.mpr ⟨⟨by decide, by decide, "java/lang/IndexOutOfBoundsException", rfl, wd1560, wd1567⟩, fun _ h => absurd h List.not_mem_nil⟩) (oshand_no2 _ rfl) sl7_X9_outputByte_X9_outputByte mdX9_outputByte wd1561 wd1562 (sX9_outputByte N l0 l1) rfl rfl (fun _ => rfl) (Nat.le_of_ble_eq_true rfl) (Nat.le_of_ble_eq_true rfl) (Nat.le_of_ble_eq_true rfl) rfl (Nat.le_of_ble_eq_true rfl) rfl (Nat.le_of_ble_eq_true rfl) (hL_outputByte.at 4 rfl rfl) (fun x1 => ?_) (List.forall_mem_cons.mpr ⟨fun q => osW.toF (F9 := osret (1 : Int32)) rfl (sL_outputByte_12 N l0 l1 l2 q), fun _ h => absurd h List.not_mem_nil⟩)
  refine os_i2l (hL_outputByte.at 5 rfl rfl) ?_
  refine os_lastore (hL_outputByte.at 6 rfl rfl) ?_
  refine os_goto (off := 6) (tgt := 15) rfl (hL_outputByte.at 7 rfl rfl) ?_
  refine os_iconst (i := 0) (v := (0 : Int32)) rfl (hL_outputByte.at 11 rfl rfl) ?_
  exact os_iret (Nat.le_of_ble_eq_true rfl) (Nat.le_of_ble_eq_true rfl) (hL_outputByte.at 12 rfl rfl).1
-- L_feed
def KL_feed : List (Nat × Nat × Instr) := [(0, 2, .aload 6), (2, 1, .iconst 0), (3, 1, .aload_n 0), (4, 1, .iload_n 1), (5, 1, .iload_n 2), (6, 1, .iload_n 3), (7, 2, .iload 4), (9, 2, .iload 5), (11, 3, .invokevirtual 7), (14, 1, .i2l), (15, 1, .lastore), (16, 3, .goto 7), (19, 2, .astore 7), (21, 1, .iconst 1), (22, 1, .ireturn), (23, 1, .iconst 0), (24, 1, .ireturn)]
theorem hL_feed : osDs cL_feed KL_feed := by
  show ∀ q ∈ KL_feed, decode cL_feed q.1 = .ok (q.2.2, q.2.1)
  decide +kernel
def qL_feed (N : Nat) (l0 : Nat) (l1 : Int32) (l2 : Int32) (l3 : Int32) (l4 : Int32) (l5 : Int32) (l6 : Nat) : osM Int32 := osbindC (osrecv [7] l0 (qX9_feed N l0 l1 l2 l3 l4 l5)) (oshand [(0, (1 : Int32))]) fun x1 => osbind (ossJ 2 l6 (0 : Int32) (x1.toInt64)) fun _ => osret (0 : Int32)
set_option maxRecDepth 100000 in
set_option maxHeartbeats 4000000 in
theorem sL_feed_19 (N : Nat) (l0 : Nat) (l1 : Int32) (l2 : Int32) (l3 : Int32) (l4 : Int32) (l5 : Int32) (l6 : Nat) (q : Nat) : osW (osFinM (fun r : Int32 => some (.int r)) 1 6) yL_feed cL_feed 8 (some .int) [(0, 16, 19, 13)] { frames := 7, cells := 1, slots := 6, locals := 115 } 1 6 19 [(0, .ref l0), (1, .int l1), (2, .int l2), (3, .int l3), (4, .int l4), (5, .int l5), (6, .ref l6)] [.ref q] (osret (1 : Int32)) := by
  refine os_astore (i := 7) (lv' := [(7, .ref q), (0, .ref l0), (1, .int l1), (2, .int l2), (3, .int l3), (4, .int l4), (5, .int l5), (6, .ref l6)]) (Nat.le_of_ble_eq_true rfl) rfl (hL_feed.at 12 rfl rfl) ?_
  refine os_iconst (i := 1) (v := (1 : Int32)) rfl (hL_feed.at 13 rfl rfl) ?_
  exact os_iret (Nat.le_of_ble_eq_true rfl) (Nat.le_of_ble_eq_true rfl) (hL_feed.at 14 rfl rfl).1
set_option maxRecDepth 100000 in
set_option maxHeartbeats 4000000 in
theorem sL_feed (N : Nat) (l0 : Nat) (l1 : Int32) (l2 : Int32) (l3 : Int32) (l4 : Int32) (l5 : Int32) (l6 : Nat) : osMetH yL_feed cL_feed 8 (some .int) [(0, 16, 19, 13)] 7 115 1 6 (fun r : Int32 => some (.int r)) [.ref l0, .int l1, .int l2, .int l3, .int l4, .int l5, .ref l6] (qL_feed N l0 l1 l2 l3 l4 l5 l6) := by
  refine osMetH.of plL (Nat.le_of_ble_eq_true rfl) (osW.rw (lv2 := [(0, .ref l0), (1, .int l1), (2, .int l2), (3, .int l3), (4, .int l4), (5, .int l5), (6, .ref l6)]) ?_ rfl rfl rfl)
  unfold qL_feed
  refine os_aload (v := l6) 6 rfl (hL_feed.at 0 rfl rfl) ?_
  refine os_iconst (i := 0) (v := (0 : Int32)) rfl (hL_feed.at 1 rfl rfl) ?_
  refine os_aload_n (i := 0) (q := 0) (v := l0) 0 rfl rfl (hL_feed.at 2 rfl rfl) ?_
  refine os_iload_n (i := 1) (q := 1) (v := l1) 1 rfl rfl (hL_feed.at 3 rfl rfl) ?_
  refine os_iload_n (i := 2) (q := 2) (v := l2) 2 rfl rfl (hL_feed.at 4 rfl rfl) ?_
  refine os_iload_n (i := 3) (q := 3) (v := l3) 3 rfl rfl (hL_feed.at 5 rfl rfl) ?_
  refine os_iload (v := l4) 4 rfl (hL_feed.at 6 rfl rfl) ?_
  refine os_iload (v := l5) 5 rfl (hL_feed.at 7 rfl rfl) ?_
  refine os_callVC (cis := [7]) (L := [(0, (0, 16, 19, 13))]) (h0 := (oshand [(0, (1 : Int32))])) (b := l0) (As := [.int l1, .int l2, .int l3, .int l4, .int l5]) (st := [.int (0 : Int32), .ref l6]) (st' := (fun r => .int r :: [.int (0 : Int32), .ref l6])) rfl (List.forall_mem_cons.mpr ⟨⟨by decide, by decide, "java/lang/IllegalStateException", rfl, wd709, wd716⟩, fun _ h => absurd h List.not_mem_nil⟩) (oshand_no2 _ rfl) sl7_X9_feed_X9_feed mdX9_feed wd710 wd711 (sX9_feed N l0 l1 l2 l3 l4 l5) rfl rfl (fun _ => rfl) (Nat.le_of_ble_eq_true rfl) (Nat.le_of_ble_eq_true rfl) (Nat.le_of_ble_eq_true rfl) rfl (Nat.le_of_ble_eq_true rfl) rfl (Nat.le_of_ble_eq_true rfl) (hL_feed.at 8 rfl rfl) (fun x1 => ?_) (List.forall_mem_cons.mpr ⟨fun q => osW.toF (F9 := osret (1 : Int32)) rfl (sL_feed_19 N l0 l1 l2 l3 l4 l5 l6 q), fun _ h => absurd h List.not_mem_nil⟩)
  refine os_i2l (hL_feed.at 9 rfl rfl) ?_
  refine os_lastore (hL_feed.at 10 rfl rfl) ?_
  refine os_goto (off := 7) (tgt := 23) rfl (hL_feed.at 11 rfl rfl) ?_
  refine os_iconst (i := 0) (v := (0 : Int32)) rfl (hL_feed.at 15 rfl rfl) ?_
  exact os_iret (Nat.le_of_ble_eq_true rfl) (Nat.le_of_ble_eq_true rfl) (hL_feed.at 16 rfl rfl).1
-- L_area
def KL_area : List (Nat × Nat × Instr) := [(0, 1, .aload_n 3), (1, 1, .iconst 0), (2, 1, .aload_n 0), (3, 1, .iload_n 1), (4, 1, .iload_n 2), (5, 3, .invokevirtual 24), (8, 1, .i2l), (9, 1, .lastore), (10, 3, .goto 11), (13, 2, .astore 4), (15, 1, .iconst 1), (16, 1, .ireturn), (17, 2, .astore 4), (19, 1, .iconst 2), (20, 1, .ireturn), (21, 1, .iconst 0), (22, 1, .ireturn)]
theorem hL_area : osDs cL_area KL_area := by
  show ∀ q ∈ KL_area, decode cL_area q.1 = .ok (q.2.2, q.2.1)
  decide +kernel
def qL_area (N : Nat) (l0 : Nat) (l1 : Int32) (l2 : Int32) (l3 : Nat) : osM Int32 := osbindC (osrecv [7] l0 (qX9_area N l0 l1 l2)) (oshand [(2, (1 : Int32)), (1, (2 : Int32))]) fun x1 => osbind (ossJ 2 l3 (0 : Int32) (x1.toInt64)) fun _ => osret (0 : Int32)
set_option maxRecDepth 100000 in
set_option maxHeartbeats 4000000 in
theorem sL_area_13 (N : Nat) (l0 : Nat) (l1 : Int32) (l2 : Int32) (l3 : Nat) (q : Nat) : osW (osFinM (fun r : Int32 => some (.int r)) 2 12) yL_area cL_area 5 (some .int) [(0, 10, 13, 28), (0, 10, 17, 19)] { frames := 8, cells := 2, slots := 12, locals := 134 } 2 12 13 [(0, .ref l0), (1, .int l1), (2, .int l2), (3, .ref l3)] [.ref q] (osret (1 : Int32)) := by
  refine os_astore (i := 4) (lv' := [(4, .ref q), (0, .ref l0), (1, .int l1), (2, .int l2), (3, .ref l3)]) (Nat.le_of_ble_eq_true rfl) rfl (hL_area.at 9 rfl rfl) ?_
  refine os_iconst (i := 1) (v := (1 : Int32)) rfl (hL_area.at 10 rfl rfl) ?_
  exact os_iret (Nat.le_of_ble_eq_true rfl) (Nat.le_of_ble_eq_true rfl) (hL_area.at 11 rfl rfl).1
set_option maxRecDepth 100000 in
set_option maxHeartbeats 4000000 in
theorem sL_area_17 (N : Nat) (l0 : Nat) (l1 : Int32) (l2 : Int32) (l3 : Nat) (q : Nat) : osW (osFinM (fun r : Int32 => some (.int r)) 2 12) yL_area cL_area 5 (some .int) [(0, 10, 13, 28), (0, 10, 17, 19)] { frames := 8, cells := 2, slots := 12, locals := 134 } 2 12 17 [(0, .ref l0), (1, .int l1), (2, .int l2), (3, .ref l3)] [.ref q] (osret (2 : Int32)) := by
  refine os_astore (i := 4) (lv' := [(4, .ref q), (0, .ref l0), (1, .int l1), (2, .int l2), (3, .ref l3)]) (Nat.le_of_ble_eq_true rfl) rfl (hL_area.at 12 rfl rfl) ?_
  refine os_iconst (i := 2) (v := (2 : Int32)) rfl (hL_area.at 13 rfl rfl) ?_
  exact os_iret (Nat.le_of_ble_eq_true rfl) (Nat.le_of_ble_eq_true rfl) (hL_area.at 14 rfl rfl).1
set_option maxRecDepth 100000 in
set_option maxHeartbeats 4000000 in
theorem sL_area (N : Nat) (l0 : Nat) (l1 : Int32) (l2 : Int32) (l3 : Nat) : osMetH yL_area cL_area 5 (some .int) [(0, 10, 13, 28), (0, 10, 17, 19)] 8 134 2 12 (fun r : Int32 => some (.int r)) [.ref l0, .int l1, .int l2, .ref l3] (qL_area N l0 l1 l2 l3) := by
  refine osMetH.of plL (Nat.le_of_ble_eq_true rfl) (osW.rw (lv2 := [(0, .ref l0), (1, .int l1), (2, .int l2), (3, .ref l3)]) ?_ rfl rfl rfl)
  unfold qL_area
  refine os_aload_n (i := 3) (q := 3) (v := l3) 3 rfl rfl (hL_area.at 0 rfl rfl) ?_
  refine os_iconst (i := 0) (v := (0 : Int32)) rfl (hL_area.at 1 rfl rfl) ?_
  refine os_aload_n (i := 0) (q := 0) (v := l0) 0 rfl rfl (hL_area.at 2 rfl rfl) ?_
  refine os_iload_n (i := 1) (q := 1) (v := l1) 1 rfl rfl (hL_area.at 3 rfl rfl) ?_
  refine os_iload_n (i := 2) (q := 2) (v := l2) 2 rfl rfl (hL_area.at 4 rfl rfl) ?_
  refine os_callVC (cis := [7]) (L := [(2, (0, 10, 13, 28)), (1, (0, 10, 17, 19))]) (h0 := (oshand [(2, (1 : Int32)), (1, (2 : Int32))])) (b := l0) (As := [.int l1, .int l2]) (st := [.int (0 : Int32), .ref l3]) (st' := (fun r => .int r :: [.int (0 : Int32), .ref l3])) rfl (List.forall_mem_cons.mpr ⟨⟨by decide, by decide, "java/util/NoSuchElementException", rfl, wd1164, wd1176⟩, List.forall_mem_cons.mpr ⟨⟨by decide, by decide, "java/lang/IllegalArgumentException", rfl, wd789, wd800⟩, fun _ h => absurd h List.not_mem_nil⟩⟩) (oshand_no2 _ rfl) sl7_X9_area_X9_area mdX9_area wd1165 wd1166 (sX9_area N l0 l1 l2) rfl rfl (fun _ => rfl) (Nat.le_of_ble_eq_true rfl) (Nat.le_of_ble_eq_true rfl) (Nat.le_of_ble_eq_true rfl) rfl (Nat.le_of_ble_eq_true rfl) rfl (Nat.le_of_ble_eq_true rfl) (hL_area.at 5 rfl rfl) (fun x1 => ?_) (List.forall_mem_cons.mpr ⟨fun q => osW.toF (F9 := osret (1 : Int32)) rfl (sL_area_13 N l0 l1 l2 l3 q), List.forall_mem_cons.mpr ⟨fun q => osW.toF (F9 := osret (2 : Int32)) rfl (sL_area_17 N l0 l1 l2 l3 q), fun _ h => absurd h List.not_mem_nil⟩⟩)
  refine os_i2l (hL_area.at 6 rfl rfl) ?_
  refine os_lastore (hL_area.at 7 rfl rfl) ?_
  refine os_goto (off := 11) (tgt := 21) rfl (hL_area.at 8 rfl rfl) ?_
  refine os_iconst (i := 0) (v := (0 : Int32)) rfl (hL_area.at 15 rfl rfl) ?_
  exact os_iret (Nat.le_of_ble_eq_true rfl) (Nat.le_of_ble_eq_true rfl) (hL_area.at 16 rfl rfl).1
-- L_passes
def KL_passes : List (Nat × Nat × Instr) := [(0, 2, .aload 4), (2, 1, .iconst 0), (3, 1, .aload_n 0), (4, 1, .iload_n 1), (5, 1, .iload_n 2), (6, 1, .iload_n 3), (7, 3, .invokevirtual 33), (10, 3, .ifCond .eq 7), (13, 1, .lconst 1), (14, 3, .goto 4), (17, 1, .lconst 0), (18, 1, .lastore), (19, 3, .goto 7), (22, 2, .astore 5), (24, 1, .iconst 1), (25, 1, .ireturn), (26, 1, .iconst 0), (27, 1, .ireturn)]
theorem hL_passes : osDs cL_passes KL_passes := by
  show ∀ q ∈ KL_passes, decode cL_passes q.1 = .ok (q.2.2, q.2.1)
  decide +kernel
def qL_passes_18 (N : Nat) (k0 : Int64) (k1 : Int32) (k2 : Nat) : osM Int32 := osbind (ossJ 2 k2 k1 k0) fun _ => osret (0 : Int32)
def qL_passes (N : Nat) (l0 : Nat) (l1 : Int32) (l2 : Int32) (l3 : Int32) (l4 : Nat) : osM Int32 := osbindC (osrecv [7] l0 (qX9_passes N l0 l1 l2 l3)) (oshand [(2, (1 : Int32))]) fun x1 => osite (x1 = 0) (qL_passes_18 N (0 : Int64) (0 : Int32) l4) (qL_passes_18 N (1 : Int64) (0 : Int32) l4)
set_option maxRecDepth 100000 in
set_option maxHeartbeats 4000000 in
theorem sL_passes_22 (N : Nat) (l0 : Nat) (l1 : Int32) (l2 : Int32) (l3 : Int32) (l4 : Nat) (q : Nat) : osW (osFinM (fun r : Int32 => some (.int r)) 2 12) yL_passes cL_passes 6 (some .int) [(0, 19, 22, 28)] { frames := 8, cells := 2, slots := 12, locals := 134 } 2 12 22 [(0, .ref l0), (1, .int l1), (2, .int l2), (3, .int l3), (4, .ref l4)] [.ref q] (osret (1 : Int32)) := by
  refine os_astore (i := 5) (lv' := [(5, .ref q), (0, .ref l0), (1, .int l1), (2, .int l2), (3, .int l3), (4, .ref l4)]) (Nat.le_of_ble_eq_true rfl) rfl (hL_passes.at 13 rfl rfl) ?_
  refine os_iconst (i := 1) (v := (1 : Int32)) rfl (hL_passes.at 14 rfl rfl) ?_
  exact os_iret (Nat.le_of_ble_eq_true rfl) (Nat.le_of_ble_eq_true rfl) (hL_passes.at 15 rfl rfl).1
set_option maxRecDepth 100000 in
set_option maxHeartbeats 4000000 in
theorem sL_passes_18 (N : Nat) (k0 : Int64) (k1 : Int32) (k2 : Nat) : osW (osFinM (fun r : Int32 => some (.int r)) 2 12) yL_passes cL_passes 6 (some .int) [(0, 19, 22, 28)] { frames := 8, cells := 2, slots := 12, locals := 134 } 2 12 18 [] [.long k0, .int k1, .ref k2] (qL_passes_18 N k0 k1 k2) := by
  unfold qL_passes_18
  refine os_lastore (hL_passes.at 11 rfl rfl) ?_
  refine os_goto (off := 7) (tgt := 26) rfl (hL_passes.at 12 rfl rfl) ?_
  refine os_iconst (i := 0) (v := (0 : Int32)) rfl (hL_passes.at 16 rfl rfl) ?_
  exact os_iret (Nat.le_of_ble_eq_true rfl) (Nat.le_of_ble_eq_true rfl) (hL_passes.at 17 rfl rfl).1
set_option maxRecDepth 100000 in
set_option maxHeartbeats 4000000 in
theorem sL_passes (N : Nat) (l0 : Nat) (l1 : Int32) (l2 : Int32) (l3 : Int32) (l4 : Nat) : osMetH yL_passes cL_passes 6 (some .int) [(0, 19, 22, 28)] 8 134 2 12 (fun r : Int32 => some (.int r)) [.ref l0, .int l1, .int l2, .int l3, .ref l4] (qL_passes N l0 l1 l2 l3 l4) := by
  refine osMetH.of plL (Nat.le_of_ble_eq_true rfl) (osW.rw (lv2 := [(0, .ref l0), (1, .int l1), (2, .int l2), (3, .int l3), (4, .ref l4)]) ?_ rfl rfl rfl)
  unfold qL_passes
  refine os_aload (v := l4) 4 rfl (hL_passes.at 0 rfl rfl) ?_
  refine os_iconst (i := 0) (v := (0 : Int32)) rfl (hL_passes.at 1 rfl rfl) ?_
  refine os_aload_n (i := 0) (q := 0) (v := l0) 0 rfl rfl (hL_passes.at 2 rfl rfl) ?_
  refine os_iload_n (i := 1) (q := 1) (v := l1) 1 rfl rfl (hL_passes.at 3 rfl rfl) ?_
  refine os_iload_n (i := 2) (q := 2) (v := l2) 2 rfl rfl (hL_passes.at 4 rfl rfl) ?_
  refine os_iload_n (i := 3) (q := 3) (v := l3) 3 rfl rfl (hL_passes.at 5 rfl rfl) ?_
  refine os_callVC (cis := [7]) (L := [(2, (0, 19, 22, 28))]) (h0 := (oshand [(2, (1 : Int32))])) (b := l0) (As := [.int l1, .int l2, .int l3]) (st := [.int (0 : Int32), .ref l4]) (st' := (fun r => .int r :: [.int (0 : Int32), .ref l4])) rfl (List.forall_mem_cons.mpr ⟨⟨by decide, by decide, "java/util/NoSuchElementException", rfl, wd1164, wd1176⟩, fun _ h => absurd h List.not_mem_nil⟩) (oshand_no2 _ rfl) sl7_X9_passes_X9_passes mdX9_passes wd1222 wd1223 (sX9_passes N l0 l1 l2 l3) rfl rfl (fun _ => rfl) (Nat.le_of_ble_eq_true rfl) (Nat.le_of_ble_eq_true rfl) (Nat.le_of_ble_eq_true rfl) rfl (Nat.le_of_ble_eq_true rfl) rfl (Nat.le_of_ble_eq_true rfl) (hL_passes.at 6 rfl rfl) (fun x1 => ?_) (List.forall_mem_cons.mpr ⟨fun q => osW.toF (F9 := osret (1 : Int32)) rfl (sL_passes_22 N l0 l1 l2 l3 l4 q), fun _ h => absurd h List.not_mem_nil⟩)
  refine os_if_eq (off := 7) (tgt := 17) rfl (hL_passes.at 7 rfl rfl) ?_ ?_
  · refine os_lconst (i := 0) (v := 0) rfl (hL_passes.at 10 rfl rfl) ?_
    exact osW.sub [] rfl (sL_passes_18 N (0 : Int64) (0 : Int32) l4)
  · refine os_lconst (i := 1) (v := 1) rfl (hL_passes.at 8 rfl rfl) ?_
    refine os_goto (off := 4) (tgt := 18) rfl (hL_passes.at 9 rfl rfl) ?_
    exact osW.sub [] rfl (sL_passes_18 N (1 : Int64) (0 : Int32) l4)
-- L_distance
def KL_distance : List (Nat × Nat × Instr) := [(0, 2, .aload 4), (2, 1, .iconst 0), (3, 1, .aload_n 0), (4, 1, .iload_n 1), (5, 1, .iload_n 2), (6, 1, .iload_n 3), (7, 3, .invokevirtual 37), (10, 1, .i2l), (11, 1, .lastore), (12, 3, .goto 7), (15, 2, .astore 5), (17, 1, .iconst 1), (18, 1, .ireturn), (19, 1, .iconst 0), (20, 1, .ireturn)]
theorem hL_distance : osDs cL_distance KL_distance := by
  show ∀ q ∈ KL_distance, decode cL_distance q.1 = .ok (q.2.2, q.2.1)
  decide +kernel
def qL_distance (N : Nat) (l0 : Nat) (l1 : Int32) (l2 : Int32) (l3 : Int32) (l4 : Nat) : osM Int32 := osbindC (osrecv [7] l0 (qX9_distance N l0 l1 l2 l3)) (oshand [(2, (1 : Int32))]) fun x1 => osbind (ossJ 2 l4 (0 : Int32) (x1.toInt64)) fun _ => osret (0 : Int32)
set_option maxRecDepth 100000 in
set_option maxHeartbeats 4000000 in
theorem sL_distance_15 (N : Nat) (l0 : Nat) (l1 : Int32) (l2 : Int32) (l3 : Int32) (l4 : Nat) (q : Nat) : osW (osFinM (fun r : Int32 => some (.int r)) 2 12) yL_distance cL_distance 6 (some .int) [(0, 12, 15, 28)] { frames := 8, cells := 2, slots := 12, locals := 134 } 2 12 15 [(0, .ref l0), (1, .int l1), (2, .int l2), (3, .int l3), (4, .ref l4)] [.ref q] (osret (1 : Int32)) := by
  refine os_astore (i := 5) (lv' := [(5, .ref q), (0, .ref l0), (1, .int l1), (2, .int l2), (3, .int l3), (4, .ref l4)]) (Nat.le_of_ble_eq_true rfl) rfl (hL_distance.at 10 rfl rfl) ?_
  refine os_iconst (i := 1) (v := (1 : Int32)) rfl (hL_distance.at 11 rfl rfl) ?_
  exact os_iret (Nat.le_of_ble_eq_true rfl) (Nat.le_of_ble_eq_true rfl) (hL_distance.at 12 rfl rfl).1
set_option maxRecDepth 100000 in
set_option maxHeartbeats 4000000 in
theorem sL_distance (N : Nat) (l0 : Nat) (l1 : Int32) (l2 : Int32) (l3 : Int32) (l4 : Nat) : osMetH yL_distance cL_distance 6 (some .int) [(0, 12, 15, 28)] 8 134 2 12 (fun r : Int32 => some (.int r)) [.ref l0, .int l1, .int l2, .int l3, .ref l4] (qL_distance N l0 l1 l2 l3 l4) := by
  refine osMetH.of plL (Nat.le_of_ble_eq_true rfl) (osW.rw (lv2 := [(0, .ref l0), (1, .int l1), (2, .int l2), (3, .int l3), (4, .ref l4)]) ?_ rfl rfl rfl)
  unfold qL_distance
  refine os_aload (v := l4) 4 rfl (hL_distance.at 0 rfl rfl) ?_
  refine os_iconst (i := 0) (v := (0 : Int32)) rfl (hL_distance.at 1 rfl rfl) ?_
  refine os_aload_n (i := 0) (q := 0) (v := l0) 0 rfl rfl (hL_distance.at 2 rfl rfl) ?_
  refine os_iload_n (i := 1) (q := 1) (v := l1) 1 rfl rfl (hL_distance.at 3 rfl rfl) ?_
  refine os_iload_n (i := 2) (q := 2) (v := l2) 2 rfl rfl (hL_distance.at 4 rfl rfl) ?_
  refine os_iload_n (i := 3) (q := 3) (v := l3) 3 rfl rfl (hL_distance.at 5 rfl rfl) ?_
  refine os_callVC (cis := [7]) (L := [(2, (0, 12, 15, 28))]) (h0 := (oshand [(2, (1 : Int32))])) (b := l0) (As := [.int l1, .int l2, .int l3]) (st := [.int (0 : Int32), .ref l4]) (st' := (fun r => .int r :: [.int (0 : Int32), .ref l4])) rfl (List.forall_mem_cons.mpr ⟨⟨by decide, by decide, "java/util/NoSuchElementException", rfl, wd1164, wd1176⟩, fun _ h => absurd h List.not_mem_nil⟩) (oshand_no2 _ rfl) sl7_X9_distance_X9_distance mdX9_distance wd1230 wd1231 (sX9_distance N l0 l1 l2 l3) rfl rfl (fun _ => rfl) (Nat.le_of_ble_eq_true rfl) (Nat.le_of_ble_eq_true rfl) (Nat.le_of_ble_eq_true rfl) rfl (Nat.le_of_ble_eq_true rfl) rfl (Nat.le_of_ble_eq_true rfl) (hL_distance.at 6 rfl rfl) (fun x1 => ?_) (List.forall_mem_cons.mpr ⟨fun q => osW.toF (F9 := osret (1 : Int32)) rfl (sL_distance_15 N l0 l1 l2 l3 l4 q), fun _ h => absurd h List.not_mem_nil⟩)
  refine os_i2l (hL_distance.at 7 rfl rfl) ?_
  refine os_lastore (hL_distance.at 8 rfl rfl) ?_
  refine os_goto (off := 7) (tgt := 19) rfl (hL_distance.at 9 rfl rfl) ?_
  refine os_iconst (i := 0) (v := (0 : Int32)) rfl (hL_distance.at 13 rfl rfl) ?_
  exact os_iret (Nat.le_of_ble_eq_true rfl) (Nat.le_of_ble_eq_true rfl) (hL_distance.at 14 rfl rfl).1
-- L_power
def KL_power : List (Nat × Nat × Instr) := [(0, 1, .aload_n 3), (1, 1, .iconst 0), (2, 1, .aload_n 0), (3, 1, .iload_n 1), (4, 1, .iload_n 2), (5, 3, .invokevirtual 41), (8, 1, .i2l), (9, 1, .lastore), (10, 3, .goto 11), (13, 2, .astore 4), (15, 1, .iconst 1), (16, 1, .ireturn), (17, 2, .astore 4), (19, 1, .iconst 2), (20, 1, .ireturn), (21, 1, .iconst 0), (22, 1, .ireturn)]
theorem hL_power : osDs cL_power KL_power := by
  show ∀ q ∈ KL_power, decode cL_power q.1 = .ok (q.2.2, q.2.1)
  decide +kernel
def qL_power (N : Nat) (l0 : Nat) (l1 : Int32) (l2 : Int32) (l3 : Nat) : osM Int32 := osbindC (osrecv [7] l0 (qX9_power N l0 l1 l2)) (oshand [(2, (1 : Int32)), (1, (2 : Int32))]) fun x1 => osbind (ossJ 2 l3 (0 : Int32) (x1.toInt64)) fun _ => osret (0 : Int32)
set_option maxRecDepth 100000 in
set_option maxHeartbeats 4000000 in
theorem sL_power_13 (N : Nat) (l0 : Nat) (l1 : Int32) (l2 : Int32) (l3 : Nat) (q : Nat) : osW (osFinM (fun r : Int32 => some (.int r)) 2 12) yL_power cL_power 5 (some .int) [(0, 10, 13, 28), (0, 10, 17, 19)] { frames := 8, cells := 2, slots := 12, locals := 134 } 2 12 13 [(0, .ref l0), (1, .int l1), (2, .int l2), (3, .ref l3)] [.ref q] (osret (1 : Int32)) := by
  refine os_astore (i := 4) (lv' := [(4, .ref q), (0, .ref l0), (1, .int l1), (2, .int l2), (3, .ref l3)]) (Nat.le_of_ble_eq_true rfl) rfl (hL_power.at 9 rfl rfl) ?_
  refine os_iconst (i := 1) (v := (1 : Int32)) rfl (hL_power.at 10 rfl rfl) ?_
  exact os_iret (Nat.le_of_ble_eq_true rfl) (Nat.le_of_ble_eq_true rfl) (hL_power.at 11 rfl rfl).1
set_option maxRecDepth 100000 in
set_option maxHeartbeats 4000000 in
theorem sL_power_17 (N : Nat) (l0 : Nat) (l1 : Int32) (l2 : Int32) (l3 : Nat) (q : Nat) : osW (osFinM (fun r : Int32 => some (.int r)) 2 12) yL_power cL_power 5 (some .int) [(0, 10, 13, 28), (0, 10, 17, 19)] { frames := 8, cells := 2, slots := 12, locals := 134 } 2 12 17 [(0, .ref l0), (1, .int l1), (2, .int l2), (3, .ref l3)] [.ref q] (osret (2 : Int32)) := by
  refine os_astore (i := 4) (lv' := [(4, .ref q), (0, .ref l0), (1, .int l1), (2, .int l2), (3, .ref l3)]) (Nat.le_of_ble_eq_true rfl) rfl (hL_power.at 12 rfl rfl) ?_
  refine os_iconst (i := 2) (v := (2 : Int32)) rfl (hL_power.at 13 rfl rfl) ?_
  exact os_iret (Nat.le_of_ble_eq_true rfl) (Nat.le_of_ble_eq_true rfl) (hL_power.at 14 rfl rfl).1
set_option maxRecDepth 100000 in
set_option maxHeartbeats 4000000 in
theorem sL_power (N : Nat) (l0 : Nat) (l1 : Int32) (l2 : Int32) (l3 : Nat) : osMetH yL_power cL_power 5 (some .int) [(0, 10, 13, 28), (0, 10, 17, 19)] 8 134 2 12 (fun r : Int32 => some (.int r)) [.ref l0, .int l1, .int l2, .ref l3] (qL_power N l0 l1 l2 l3) := by
  refine osMetH.of plL (Nat.le_of_ble_eq_true rfl) (osW.rw (lv2 := [(0, .ref l0), (1, .int l1), (2, .int l2), (3, .ref l3)]) ?_ rfl rfl rfl)
  unfold qL_power
  refine os_aload_n (i := 3) (q := 3) (v := l3) 3 rfl rfl (hL_power.at 0 rfl rfl) ?_
  refine os_iconst (i := 0) (v := (0 : Int32)) rfl (hL_power.at 1 rfl rfl) ?_
  refine os_aload_n (i := 0) (q := 0) (v := l0) 0 rfl rfl (hL_power.at 2 rfl rfl) ?_
  refine os_iload_n (i := 1) (q := 1) (v := l1) 1 rfl rfl (hL_power.at 3 rfl rfl) ?_
  refine os_iload_n (i := 2) (q := 2) (v := l2) 2 rfl rfl (hL_power.at 4 rfl rfl) ?_
  refine os_callVC (cis := [7]) (L := [(2, (0, 10, 13, 28)), (1, (0, 10, 17, 19))]) (h0 := (oshand [(2, (1 : Int32)), (1, (2 : Int32))])) (b := l0) (As := [.int l1, .int l2]) (st := [.int (0 : Int32), .ref l3]) (st' := (fun r => .int r :: [.int (0 : Int32), .ref l3])) rfl (List.forall_mem_cons.mpr ⟨⟨by decide, by decide, "java/util/NoSuchElementException", rfl, wd1164, wd1176⟩, List.forall_mem_cons.mpr ⟨⟨by decide, by decide, "java/lang/IllegalArgumentException", rfl, wd789, wd800⟩, fun _ h => absurd h List.not_mem_nil⟩⟩) (oshand_no2 _ rfl) sl7_X9_power_X9_power mdX9_power wd1245 wd1246 (sX9_power N l0 l1 l2) rfl rfl (fun _ => rfl) (Nat.le_of_ble_eq_true rfl) (Nat.le_of_ble_eq_true rfl) (Nat.le_of_ble_eq_true rfl) rfl (Nat.le_of_ble_eq_true rfl) rfl (Nat.le_of_ble_eq_true rfl) (hL_power.at 5 rfl rfl) (fun x1 => ?_) (List.forall_mem_cons.mpr ⟨fun q => osW.toF (F9 := osret (1 : Int32)) rfl (sL_power_13 N l0 l1 l2 l3 q), List.forall_mem_cons.mpr ⟨fun q => osW.toF (F9 := osret (2 : Int32)) rfl (sL_power_17 N l0 l1 l2 l3 q), fun _ h => absurd h List.not_mem_nil⟩⟩)
  refine os_i2l (hL_power.at 6 rfl rfl) ?_
  refine os_lastore (hL_power.at 7 rfl rfl) ?_
  refine os_goto (off := 11) (tgt := 21) rfl (hL_power.at 8 rfl rfl) ?_
  refine os_iconst (i := 0) (v := (0 : Int32)) rfl (hL_power.at 15 rfl rfl) ?_
  exact os_iret (Nat.le_of_ble_eq_true rfl) (Nat.le_of_ble_eq_true rfl) (hL_power.at 16 rfl rfl).1
-- L_result
def KL_result : List (Nat × Nat × Instr) := [(0, 1, .aload_n 3), (1, 1, .iconst 0), (2, 1, .aload_n 0), (3, 1, .iload_n 1), (4, 1, .iload_n 2), (5, 3, .invokevirtual 51), (8, 1, .i2l), (9, 1, .lastore), (10, 3, .goto 15), (13, 2, .astore 4), (15, 1, .iconst 1), (16, 1, .ireturn), (17, 2, .astore 4), (19, 1, .iconst 2), (20, 1, .ireturn), (21, 2, .astore 4), (23, 1, .iconst 3), (24, 1, .ireturn), (25, 1, .iconst 0), (26, 1, .ireturn)]
theorem hL_result : osDs cL_result KL_result := by
  show ∀ q ∈ KL_result, decode cL_result q.1 = .ok (q.2.2, q.2.1)
  decide +kernel
def qL_result (N : Nat) (l0 : Nat) (l1 : Int32) (l2 : Int32) (l3 : Nat) : osM Int32 := osbindC (osrecv [7] l0 (qX9_result N l0 l1 l2)) (oshand [(2, (1 : Int32)), (1, (2 : Int32)), (0, (3 : Int32))]) fun x1 => osbind (ossJ 2 l3 (0 : Int32) (x1.toInt64)) fun _ => osret (0 : Int32)
set_option maxRecDepth 100000 in
set_option maxHeartbeats 4000000 in
theorem sL_result_13 (N : Nat) (l0 : Nat) (l1 : Int32) (l2 : Int32) (l3 : Nat) (q : Nat) : osW (osFinM (fun r : Int32 => some (.int r)) 3 18) yL_result cL_result 5 (some .int) [(0, 10, 13, 28), (0, 10, 17, 19), (0, 10, 21, 13)] { frames := 8, cells := 3, slots := 18, locals := 134 } 3 18 13 [(0, .ref l0), (1, .int l1), (2, .int l2), (3, .ref l3)] [.ref q] (osret (1 : Int32)) := by
  refine os_astore (i := 4) (lv' := [(4, .ref q), (0, .ref l0), (1, .int l1), (2, .int l2), (3, .ref l3)]) (Nat.le_of_ble_eq_true rfl) rfl (hL_result.at 9 rfl rfl) ?_
  refine os_iconst (i := 1) (v := (1 : Int32)) rfl (hL_result.at 10 rfl rfl) ?_
  exact os_iret (Nat.le_of_ble_eq_true rfl) (Nat.le_of_ble_eq_true rfl) (hL_result.at 11 rfl rfl).1
set_option maxRecDepth 100000 in
set_option maxHeartbeats 4000000 in
theorem sL_result_17 (N : Nat) (l0 : Nat) (l1 : Int32) (l2 : Int32) (l3 : Nat) (q : Nat) : osW (osFinM (fun r : Int32 => some (.int r)) 3 18) yL_result cL_result 5 (some .int) [(0, 10, 13, 28), (0, 10, 17, 19), (0, 10, 21, 13)] { frames := 8, cells := 3, slots := 18, locals := 134 } 3 18 17 [(0, .ref l0), (1, .int l1), (2, .int l2), (3, .ref l3)] [.ref q] (osret (2 : Int32)) := by
  refine os_astore (i := 4) (lv' := [(4, .ref q), (0, .ref l0), (1, .int l1), (2, .int l2), (3, .ref l3)]) (Nat.le_of_ble_eq_true rfl) rfl (hL_result.at 12 rfl rfl) ?_
  refine os_iconst (i := 2) (v := (2 : Int32)) rfl (hL_result.at 13 rfl rfl) ?_
  exact os_iret (Nat.le_of_ble_eq_true rfl) (Nat.le_of_ble_eq_true rfl) (hL_result.at 14 rfl rfl).1
set_option maxRecDepth 100000 in
set_option maxHeartbeats 4000000 in
theorem sL_result_21 (N : Nat) (l0 : Nat) (l1 : Int32) (l2 : Int32) (l3 : Nat) (q : Nat) : osW (osFinM (fun r : Int32 => some (.int r)) 3 18) yL_result cL_result 5 (some .int) [(0, 10, 13, 28), (0, 10, 17, 19), (0, 10, 21, 13)] { frames := 8, cells := 3, slots := 18, locals := 134 } 3 18 21 [(0, .ref l0), (1, .int l1), (2, .int l2), (3, .ref l3)] [.ref q] (osret (3 : Int32)) := by
  refine os_astore (i := 4) (lv' := [(4, .ref q), (0, .ref l0), (1, .int l1), (2, .int l2), (3, .ref l3)]) (Nat.le_of_ble_eq_true rfl) rfl (hL_result.at 15 rfl rfl) ?_
  refine os_iconst (i := 3) (v := (3 : Int32)) rfl (hL_result.at 16 rfl rfl) ?_
  exact os_iret (Nat.le_of_ble_eq_true rfl) (Nat.le_of_ble_eq_true rfl) (hL_result.at 17 rfl rfl).1
set_option maxRecDepth 100000 in
set_option maxHeartbeats 4000000 in
theorem sL_result (N : Nat) (l0 : Nat) (l1 : Int32) (l2 : Int32) (l3 : Nat) : osMetH yL_result cL_result 5 (some .int) [(0, 10, 13, 28), (0, 10, 17, 19), (0, 10, 21, 13)] 8 134 3 18 (fun r : Int32 => some (.int r)) [.ref l0, .int l1, .int l2, .ref l3] (qL_result N l0 l1 l2 l3) := by
  refine osMetH.of plL (Nat.le_of_ble_eq_true rfl) (osW.rw (lv2 := [(0, .ref l0), (1, .int l1), (2, .int l2), (3, .ref l3)]) ?_ rfl rfl rfl)
  unfold qL_result
  refine os_aload_n (i := 3) (q := 3) (v := l3) 3 rfl rfl (hL_result.at 0 rfl rfl) ?_
  refine os_iconst (i := 0) (v := (0 : Int32)) rfl (hL_result.at 1 rfl rfl) ?_
  refine os_aload_n (i := 0) (q := 0) (v := l0) 0 rfl rfl (hL_result.at 2 rfl rfl) ?_
  refine os_iload_n (i := 1) (q := 1) (v := l1) 1 rfl rfl (hL_result.at 3 rfl rfl) ?_
  refine os_iload_n (i := 2) (q := 2) (v := l2) 2 rfl rfl (hL_result.at 4 rfl rfl) ?_
  refine os_callVC (cis := [7]) (L := [(2, (0, 10, 13, 28)), (1, (0, 10, 17, 19)), (0, (0, 10, 21, 13))]) (h0 := (oshand [(2, (1 : Int32)), (1, (2 : Int32)), (0, (3 : Int32))])) (b := l0) (As := [.int l1, .int l2]) (st := [.int (0 : Int32), .ref l3]) (st' := (fun r => .int r :: [.int (0 : Int32), .ref l3])) rfl (List.forall_mem_cons.mpr ⟨⟨by decide, by decide, "java/util/NoSuchElementException", rfl, wd1164, wd1176⟩, List.forall_mem_cons.mpr ⟨⟨by decide, by decide, "java/lang/IllegalArgumentException", rfl, wd789, wd800⟩, List.forall_mem_cons.mpr ⟨⟨by decide, by decide, "java/lang/IllegalStateException", rfl, wd709, wd716⟩, fun _ h => absurd h List.not_mem_nil⟩⟩⟩) (oshand_no2 _ rfl) sl7_X9_result_X9_result mdX9_result wd1407 wd1408 (sX9_result N l0 l1 l2) rfl rfl (fun _ => rfl) (Nat.le_of_ble_eq_true rfl) (Nat.le_of_ble_eq_true rfl) (Nat.le_of_ble_eq_true rfl) rfl (Nat.le_of_ble_eq_true rfl) rfl (Nat.le_of_ble_eq_true rfl) (hL_result.at 5 rfl rfl) (fun x1 => ?_) (List.forall_mem_cons.mpr ⟨fun q => osW.toF (F9 := osret (1 : Int32)) rfl (sL_result_13 N l0 l1 l2 l3 q), List.forall_mem_cons.mpr ⟨fun q => osW.toF (F9 := osret (2 : Int32)) rfl (sL_result_17 N l0 l1 l2 l3 q), List.forall_mem_cons.mpr ⟨fun q => osW.toF (F9 := osret (3 : Int32)) rfl (sL_result_21 N l0 l1 l2 l3 q), fun _ h => absurd h List.not_mem_nil⟩⟩⟩)
  refine os_i2l (hL_result.at 6 rfl rfl) ?_
  refine os_lastore (hL_result.at 7 rfl rfl) ?_
  refine os_goto (off := 15) (tgt := 25) rfl (hL_result.at 8 rfl rfl) ?_
  refine os_iconst (i := 0) (v := (0 : Int32)) rfl (hL_result.at 18 rfl rfl) ?_
  exact os_iret (Nat.le_of_ble_eq_true rfl) (Nat.le_of_ble_eq_true rfl) (hL_result.at 19 rfl rfl).1
-- L_outcomes
def KL_outcomes : List (Nat × Nat × Instr) := [(0, 1, .aload_n 1), (1, 1, .iconst 0), (2, 1, .aload_n 0), (3, 3, .invokevirtual 54), (6, 1, .i2l), (7, 1, .lastore), (8, 3, .goto 6), (11, 1, .astore_n 2), (12, 1, .iconst 1), (13, 1, .ireturn), (14, 1, .iconst 0), (15, 1, .ireturn)]
theorem hL_outcomes : osDs cL_outcomes KL_outcomes := by
  show ∀ q ∈ KL_outcomes, decode cL_outcomes q.1 = .ok (q.2.2, q.2.1)
  decide +kernel
def qL_outcomes (N : Nat) (l0 : Nat) (l1 : Nat) : osM Int32 := osbindC (osrecv [7] l0 (qX9_outcomes N l0)) (oshand [(0, (1 : Int32))]) fun x1 => osbind (ossJ 2 l1 (0 : Int32) (x1.toInt64)) fun _ => osret (0 : Int32)
set_option maxRecDepth 100000 in
set_option maxHeartbeats 4000000 in
theorem sL_outcomes_11 (N : Nat) (l0 : Nat) (l1 : Nat) (q : Nat) : osW (osFinM (fun r : Int32 => some (.int r)) 1 6) yL_outcomes cL_outcomes 3 (some .int) [(0, 8, 11, 13)] { frames := 8, cells := 1, slots := 6, locals := 130 } 1 6 11 [(0, .ref l0), (1, .ref l1)] [.ref q] (osret (1 : Int32)) := by
  refine os_astore_n (i := 2) (q := 2) rfl (lv' := [(2, .ref q), (0, .ref l0), (1, .ref l1)]) (Nat.le_of_ble_eq_true rfl) rfl (hL_outcomes.at 7 rfl rfl) ?_
  refine os_iconst (i := 1) (v := (1 : Int32)) rfl (hL_outcomes.at 8 rfl rfl) ?_
  exact os_iret (Nat.le_of_ble_eq_true rfl) (Nat.le_of_ble_eq_true rfl) (hL_outcomes.at 9 rfl rfl).1
set_option maxRecDepth 100000 in
set_option maxHeartbeats 4000000 in
theorem sL_outcomes (N : Nat) (l0 : Nat) (l1 : Nat) : osMetH yL_outcomes cL_outcomes 3 (some .int) [(0, 8, 11, 13)] 8 130 1 6 (fun r : Int32 => some (.int r)) [.ref l0, .ref l1] (qL_outcomes N l0 l1) := by
  refine osMetH.of plL (Nat.le_of_ble_eq_true rfl) (osW.rw (lv2 := [(0, .ref l0), (1, .ref l1)]) ?_ rfl rfl rfl)
  unfold qL_outcomes
  refine os_aload_n (i := 1) (q := 1) (v := l1) 1 rfl rfl (hL_outcomes.at 0 rfl rfl) ?_
  refine os_iconst (i := 0) (v := (0 : Int32)) rfl (hL_outcomes.at 1 rfl rfl) ?_
  refine os_aload_n (i := 0) (q := 0) (v := l0) 0 rfl rfl (hL_outcomes.at 2 rfl rfl) ?_
  refine os_callVC (cis := [7]) (L := [(0, (0, 8, 11, 13))]) (h0 := (oshand [(0, (1 : Int32))])) (b := l0) (As := []) (st := [.int (0 : Int32), .ref l1]) (st' := (fun r => .int r :: [.int (0 : Int32), .ref l1])) rfl (List.forall_mem_cons.mpr ⟨⟨by decide, by decide, "java/lang/IllegalStateException", rfl, wd709, wd716⟩, fun _ h => absurd h List.not_mem_nil⟩) (oshand_no2 _ rfl) sl7_X9_outcomes_X9_outcomes mdX9_outcomes wd1419 wd1420 (sX9_outcomes N l0 ) rfl rfl (fun _ => rfl) (Nat.le_of_ble_eq_true rfl) (Nat.le_of_ble_eq_true rfl) (Nat.le_of_ble_eq_true rfl) rfl (Nat.le_of_ble_eq_true rfl) rfl (Nat.le_of_ble_eq_true rfl) (hL_outcomes.at 3 rfl rfl) (fun x1 => ?_) (List.forall_mem_cons.mpr ⟨fun q => osW.toF (F9 := osret (1 : Int32)) rfl (sL_outcomes_11 N l0 l1 q), fun _ h => absurd h List.not_mem_nil⟩)
  refine os_i2l (hL_outcomes.at 4 rfl rfl) ?_
  refine os_lastore (hL_outcomes.at 5 rfl rfl) ?_
  refine os_goto (off := 6) (tgt := 14) rfl (hL_outcomes.at 6 rfl rfl) ?_
  refine os_iconst (i := 0) (v := (0 : Int32)) rfl (hL_outcomes.at 10 rfl rfl) ?_
  exact os_iret (Nat.le_of_ble_eq_true rfl) (Nat.le_of_ble_eq_true rfl) (hL_outcomes.at 11 rfl rfl).1
-- L_isContested
def KL_isContested : List (Nat × Nat × Instr) := [(0, 1, .aload_n 2), (1, 1, .iconst 0), (2, 1, .aload_n 0), (3, 1, .iload_n 1), (4, 3, .invokevirtual 57), (7, 3, .ifCond .eq 7), (10, 1, .lconst 1), (11, 3, .goto 4), (14, 1, .lconst 0), (15, 1, .lastore), (16, 3, .goto 9), (19, 1, .astore_n 3), (20, 1, .iconst 1), (21, 1, .ireturn), (22, 1, .astore_n 3), (23, 1, .iconst 2), (24, 1, .ireturn), (25, 1, .iconst 0), (26, 1, .ireturn)]
theorem hL_isContested : osDs cL_isContested KL_isContested := by
  show ∀ q ∈ KL_isContested, decode cL_isContested q.1 = .ok (q.2.2, q.2.1)
  decide +kernel
def qL_isContested_15 (N : Nat) (k0 : Int64) (k1 : Int32) (k2 : Nat) : osM Int32 := osbind (ossJ 2 k2 k1 k0) fun _ => osret (0 : Int32)
def qL_isContested (N : Nat) (l0 : Nat) (l1 : Int32) (l2 : Nat) : osM Int32 := osbindC (osrecv [7] l0 (qX9_isContested N l0 l1)) (oshand [(2, (1 : Int32)), (0, (2 : Int32))]) fun x1 => osite (x1 = 0) (qL_isContested_15 N (0 : Int64) (0 : Int32) l2) (qL_isContested_15 N (1 : Int64) (0 : Int32) l2)
set_option maxRecDepth 100000 in
set_option maxHeartbeats 4000000 in
theorem sL_isContested_19 (N : Nat) (l0 : Nat) (l1 : Int32) (l2 : Nat) (q : Nat) : osW (osFinM (fun r : Int32 => some (.int r)) 2 12) yL_isContested cL_isContested 4 (some .int) [(0, 16, 19, 28), (0, 16, 22, 13)] { frames := 8, cells := 2, slots := 12, locals := 132 } 2 12 19 [(0, .ref l0), (1, .int l1), (2, .ref l2)] [.ref q] (osret (1 : Int32)) := by
  refine os_astore_n (i := 3) (q := 3) rfl (lv' := [(3, .ref q), (0, .ref l0), (1, .int l1), (2, .ref l2)]) (Nat.le_of_ble_eq_true rfl) rfl (hL_isContested.at 11 rfl rfl) ?_
  refine os_iconst (i := 1) (v := (1 : Int32)) rfl (hL_isContested.at 12 rfl rfl) ?_
  exact os_iret (Nat.le_of_ble_eq_true rfl) (Nat.le_of_ble_eq_true rfl) (hL_isContested.at 13 rfl rfl).1
set_option maxRecDepth 100000 in
set_option maxHeartbeats 4000000 in
theorem sL_isContested_22 (N : Nat) (l0 : Nat) (l1 : Int32) (l2 : Nat) (q : Nat) : osW (osFinM (fun r : Int32 => some (.int r)) 2 12) yL_isContested cL_isContested 4 (some .int) [(0, 16, 19, 28), (0, 16, 22, 13)] { frames := 8, cells := 2, slots := 12, locals := 132 } 2 12 22 [(0, .ref l0), (1, .int l1), (2, .ref l2)] [.ref q] (osret (2 : Int32)) := by
  refine os_astore_n (i := 3) (q := 3) rfl (lv' := [(3, .ref q), (0, .ref l0), (1, .int l1), (2, .ref l2)]) (Nat.le_of_ble_eq_true rfl) rfl (hL_isContested.at 14 rfl rfl) ?_
  refine os_iconst (i := 2) (v := (2 : Int32)) rfl (hL_isContested.at 15 rfl rfl) ?_
  exact os_iret (Nat.le_of_ble_eq_true rfl) (Nat.le_of_ble_eq_true rfl) (hL_isContested.at 16 rfl rfl).1
set_option maxRecDepth 100000 in
set_option maxHeartbeats 4000000 in
theorem sL_isContested_15 (N : Nat) (k0 : Int64) (k1 : Int32) (k2 : Nat) : osW (osFinM (fun r : Int32 => some (.int r)) 2 12) yL_isContested cL_isContested 4 (some .int) [(0, 16, 19, 28), (0, 16, 22, 13)] { frames := 8, cells := 2, slots := 12, locals := 132 } 2 12 15 [] [.long k0, .int k1, .ref k2] (qL_isContested_15 N k0 k1 k2) := by
  unfold qL_isContested_15
  refine os_lastore (hL_isContested.at 9 rfl rfl) ?_
  refine os_goto (off := 9) (tgt := 25) rfl (hL_isContested.at 10 rfl rfl) ?_
  refine os_iconst (i := 0) (v := (0 : Int32)) rfl (hL_isContested.at 17 rfl rfl) ?_
  exact os_iret (Nat.le_of_ble_eq_true rfl) (Nat.le_of_ble_eq_true rfl) (hL_isContested.at 18 rfl rfl).1
set_option maxRecDepth 100000 in
set_option maxHeartbeats 4000000 in
theorem sL_isContested (N : Nat) (l0 : Nat) (l1 : Int32) (l2 : Nat) : osMetH yL_isContested cL_isContested 4 (some .int) [(0, 16, 19, 28), (0, 16, 22, 13)] 8 132 2 12 (fun r : Int32 => some (.int r)) [.ref l0, .int l1, .ref l2] (qL_isContested N l0 l1 l2) := by
  refine osMetH.of plL (Nat.le_of_ble_eq_true rfl) (osW.rw (lv2 := [(0, .ref l0), (1, .int l1), (2, .ref l2)]) ?_ rfl rfl rfl)
  unfold qL_isContested
  refine os_aload_n (i := 2) (q := 2) (v := l2) 2 rfl rfl (hL_isContested.at 0 rfl rfl) ?_
  refine os_iconst (i := 0) (v := (0 : Int32)) rfl (hL_isContested.at 1 rfl rfl) ?_
  refine os_aload_n (i := 0) (q := 0) (v := l0) 0 rfl rfl (hL_isContested.at 2 rfl rfl) ?_
  refine os_iload_n (i := 1) (q := 1) (v := l1) 1 rfl rfl (hL_isContested.at 3 rfl rfl) ?_
  refine os_callVC (cis := [7]) (L := [(2, (0, 16, 19, 28)), (0, (0, 16, 22, 13))]) (h0 := (oshand [(2, (1 : Int32)), (0, (2 : Int32))])) (b := l0) (As := [.int l1]) (st := [.int (0 : Int32), .ref l2]) (st' := (fun r => .int r :: [.int (0 : Int32), .ref l2])) rfl (List.forall_mem_cons.mpr ⟨⟨by decide, by decide, "java/util/NoSuchElementException", rfl, wd1164, wd1176⟩, List.forall_mem_cons.mpr ⟨⟨by decide, by decide, "java/lang/IllegalStateException", rfl, wd709, wd716⟩, fun _ h => absurd h List.not_mem_nil⟩⟩) (oshand_no2 _ rfl) sl7_X9_isContested_X9_isContested mdX9_isContested wd1426 wd1427 (sX9_isContested N l0 l1) rfl rfl (fun _ => rfl) (Nat.le_of_ble_eq_true rfl) (Nat.le_of_ble_eq_true rfl) (Nat.le_of_ble_eq_true rfl) rfl (Nat.le_of_ble_eq_true rfl) rfl (Nat.le_of_ble_eq_true rfl) (hL_isContested.at 4 rfl rfl) (fun x1 => ?_) (List.forall_mem_cons.mpr ⟨fun q => osW.toF (F9 := osret (1 : Int32)) rfl (sL_isContested_19 N l0 l1 l2 q), List.forall_mem_cons.mpr ⟨fun q => osW.toF (F9 := osret (2 : Int32)) rfl (sL_isContested_22 N l0 l1 l2 q), fun _ h => absurd h List.not_mem_nil⟩⟩)
  refine os_if_eq (off := 7) (tgt := 14) rfl (hL_isContested.at 5 rfl rfl) ?_ ?_
  · refine os_lconst (i := 0) (v := 0) rfl (hL_isContested.at 8 rfl rfl) ?_
    exact osW.sub [] rfl (sL_isContested_15 N (0 : Int64) (0 : Int32) l2)
  · refine os_lconst (i := 1) (v := 1) rfl (hL_isContested.at 6 rfl rfl) ?_
    refine os_goto (off := 4) (tgt := 15) rfl (hL_isContested.at 7 rfl rfl) ?_
    exact osW.sub [] rfl (sL_isContested_15 N (1 : Int64) (0 : Int32) l2)
-- L_mayRetreat
def KL_mayRetreat : List (Nat × Nat × Instr) := [(0, 1, .aload_n 3), (1, 1, .iconst 0), (2, 1, .aload_n 0), (3, 1, .iload_n 1), (4, 1, .iload_n 2), (5, 3, .invokevirtual 61), (8, 3, .ifCond .eq 7), (11, 1, .lconst 1), (12, 3, .goto 4), (15, 1, .lconst 0), (16, 1, .lastore), (17, 3, .goto 7), (20, 2, .astore 4), (22, 1, .iconst 1), (23, 1, .ireturn), (24, 1, .iconst 0), (25, 1, .ireturn)]
theorem hL_mayRetreat : osDs cL_mayRetreat KL_mayRetreat := by
  show ∀ q ∈ KL_mayRetreat, decode cL_mayRetreat q.1 = .ok (q.2.2, q.2.1)
  decide +kernel
def qL_mayRetreat_16 (N : Nat) (k0 : Int64) (k1 : Int32) (k2 : Nat) : osM Int32 := osbind (ossJ 2 k2 k1 k0) fun _ => osret (0 : Int32)
def qL_mayRetreat (N : Nat) (l0 : Nat) (l1 : Int32) (l2 : Int32) (l3 : Nat) : osM Int32 := osbindC (osrecv [7] l0 (qX9_mayRetreat N l0 l1 l2)) (oshand [(2, (1 : Int32))]) fun x1 => osite (x1 = 0) (qL_mayRetreat_16 N (0 : Int64) (0 : Int32) l3) (qL_mayRetreat_16 N (1 : Int64) (0 : Int32) l3)
set_option maxRecDepth 100000 in
set_option maxHeartbeats 4000000 in
theorem sL_mayRetreat_20 (N : Nat) (l0 : Nat) (l1 : Int32) (l2 : Int32) (l3 : Nat) (q : Nat) : osW (osFinM (fun r : Int32 => some (.int r)) 3 18) yL_mayRetreat cL_mayRetreat 5 (some .int) [(0, 17, 20, 28)] { frames := 8, cells := 3, slots := 18, locals := 133 } 3 18 20 [(0, .ref l0), (1, .int l1), (2, .int l2), (3, .ref l3)] [.ref q] (osret (1 : Int32)) := by
  refine os_astore (i := 4) (lv' := [(4, .ref q), (0, .ref l0), (1, .int l1), (2, .int l2), (3, .ref l3)]) (Nat.le_of_ble_eq_true rfl) rfl (hL_mayRetreat.at 12 rfl rfl) ?_
  refine os_iconst (i := 1) (v := (1 : Int32)) rfl (hL_mayRetreat.at 13 rfl rfl) ?_
  exact os_iret (Nat.le_of_ble_eq_true rfl) (Nat.le_of_ble_eq_true rfl) (hL_mayRetreat.at 14 rfl rfl).1
set_option maxRecDepth 100000 in
set_option maxHeartbeats 4000000 in
theorem sL_mayRetreat_16 (N : Nat) (k0 : Int64) (k1 : Int32) (k2 : Nat) : osW (osFinM (fun r : Int32 => some (.int r)) 3 18) yL_mayRetreat cL_mayRetreat 5 (some .int) [(0, 17, 20, 28)] { frames := 8, cells := 3, slots := 18, locals := 133 } 3 18 16 [] [.long k0, .int k1, .ref k2] (qL_mayRetreat_16 N k0 k1 k2) := by
  unfold qL_mayRetreat_16
  refine os_lastore (hL_mayRetreat.at 10 rfl rfl) ?_
  refine os_goto (off := 7) (tgt := 24) rfl (hL_mayRetreat.at 11 rfl rfl) ?_
  refine os_iconst (i := 0) (v := (0 : Int32)) rfl (hL_mayRetreat.at 15 rfl rfl) ?_
  exact os_iret (Nat.le_of_ble_eq_true rfl) (Nat.le_of_ble_eq_true rfl) (hL_mayRetreat.at 16 rfl rfl).1
set_option maxRecDepth 100000 in
set_option maxHeartbeats 4000000 in
theorem sL_mayRetreat (N : Nat) (l0 : Nat) (l1 : Int32) (l2 : Int32) (l3 : Nat) : osMetH yL_mayRetreat cL_mayRetreat 5 (some .int) [(0, 17, 20, 28)] 8 133 3 18 (fun r : Int32 => some (.int r)) [.ref l0, .int l1, .int l2, .ref l3] (qL_mayRetreat N l0 l1 l2 l3) := by
  refine osMetH.of plL (Nat.le_of_ble_eq_true rfl) (osW.rw (lv2 := [(0, .ref l0), (1, .int l1), (2, .int l2), (3, .ref l3)]) ?_ rfl rfl rfl)
  unfold qL_mayRetreat
  refine os_aload_n (i := 3) (q := 3) (v := l3) 3 rfl rfl (hL_mayRetreat.at 0 rfl rfl) ?_
  refine os_iconst (i := 0) (v := (0 : Int32)) rfl (hL_mayRetreat.at 1 rfl rfl) ?_
  refine os_aload_n (i := 0) (q := 0) (v := l0) 0 rfl rfl (hL_mayRetreat.at 2 rfl rfl) ?_
  refine os_iload_n (i := 1) (q := 1) (v := l1) 1 rfl rfl (hL_mayRetreat.at 3 rfl rfl) ?_
  refine os_iload_n (i := 2) (q := 2) (v := l2) 2 rfl rfl (hL_mayRetreat.at 4 rfl rfl) ?_
  refine os_callVC (cis := [7]) (L := [(2, (0, 17, 20, 28))]) (h0 := (oshand [(2, (1 : Int32))])) (b := l0) (As := [.int l1, .int l2]) (st := [.int (0 : Int32), .ref l3]) (st' := (fun r => .int r :: [.int (0 : Int32), .ref l3])) rfl (List.forall_mem_cons.mpr ⟨⟨by decide, by decide, "java/util/NoSuchElementException", rfl, wd1164, wd1176⟩, fun _ h => absurd h List.not_mem_nil⟩) (oshand_no2 _ rfl) sl7_X9_mayRetreat_X9_mayRetreat mdX9_mayRetreat wd1433 wd1434 (sX9_mayRetreat N l0 l1 l2) rfl rfl (fun _ => rfl) (Nat.le_of_ble_eq_true rfl) (Nat.le_of_ble_eq_true rfl) (Nat.le_of_ble_eq_true rfl) rfl (Nat.le_of_ble_eq_true rfl) rfl (Nat.le_of_ble_eq_true rfl) (hL_mayRetreat.at 5 rfl rfl) (fun x1 => ?_) (List.forall_mem_cons.mpr ⟨fun q => osW.toF (F9 := osret (1 : Int32)) rfl (sL_mayRetreat_20 N l0 l1 l2 l3 q), fun _ h => absurd h List.not_mem_nil⟩)
  refine os_if_eq (off := 7) (tgt := 15) rfl (hL_mayRetreat.at 6 rfl rfl) ?_ ?_
  · refine os_lconst (i := 0) (v := 0) rfl (hL_mayRetreat.at 9 rfl rfl) ?_
    exact osW.sub [] rfl (sL_mayRetreat_16 N (0 : Int64) (0 : Int32) l3)
  · refine os_lconst (i := 1) (v := 1) rfl (hL_mayRetreat.at 7 rfl rfl) ?_
    refine os_goto (off := 4) (tgt := 16) rfl (hL_mayRetreat.at 8 rfl rfl) ?_
    exact osW.sub [] rfl (sL_mayRetreat_16 N (1 : Int64) (0 : Int32) l3)
-- L_undo
def KL_undo : List (Nat × Nat × Instr) := [(0, 1, .aload_n 1), (1, 1, .iconst 0), (2, 1, .aload_n 0), (3, 3, .invokevirtual 71), (6, 1, .i2l), (7, 1, .lastore), (8, 3, .goto 6), (11, 1, .astore_n 2), (12, 1, .iconst 1), (13, 1, .ireturn), (14, 1, .iconst 0), (15, 1, .ireturn)]
theorem hL_undo : osDs cL_undo KL_undo := by
  show ∀ q ∈ KL_undo, decode cL_undo q.1 = .ok (q.2.2, q.2.1)
  decide +kernel
def qL_undo (N : Nat) (l0 : Nat) (l1 : Nat) : osM Int32 := osbindC (osrecv [7] l0 (qX9_undo N l0)) (oshand [(0, (1 : Int32))]) fun x1 => osbind (ossJ 2 l1 (0 : Int32) (x1.toInt64)) fun _ => osret (0 : Int32)
set_option maxRecDepth 100000 in
set_option maxHeartbeats 4000000 in
theorem sL_undo_11 (N : Nat) (l0 : Nat) (l1 : Nat) (q : Nat) : osW (osFinM (fun r : Int32 => some (.int r)) 1 6) yL_undo cL_undo 3 (some .int) [(0, 8, 11, 13)] { frames := 7, cells := 1, slots := 6, locals := 122 } 1 6 11 [(0, .ref l0), (1, .ref l1)] [.ref q] (osret (1 : Int32)) := by
  refine os_astore_n (i := 2) (q := 2) rfl (lv' := [(2, .ref q), (0, .ref l0), (1, .ref l1)]) (Nat.le_of_ble_eq_true rfl) rfl (hL_undo.at 7 rfl rfl) ?_
  refine os_iconst (i := 1) (v := (1 : Int32)) rfl (hL_undo.at 8 rfl rfl) ?_
  exact os_iret (Nat.le_of_ble_eq_true rfl) (Nat.le_of_ble_eq_true rfl) (hL_undo.at 9 rfl rfl).1
set_option maxRecDepth 100000 in
set_option maxHeartbeats 4000000 in
theorem sL_undo (N : Nat) (l0 : Nat) (l1 : Nat) : osMetH yL_undo cL_undo 3 (some .int) [(0, 8, 11, 13)] 7 122 1 6 (fun r : Int32 => some (.int r)) [.ref l0, .ref l1] (qL_undo N l0 l1) := by
  refine osMetH.of plL (Nat.le_of_ble_eq_true rfl) (osW.rw (lv2 := [(0, .ref l0), (1, .ref l1)]) ?_ rfl rfl rfl)
  unfold qL_undo
  refine os_aload_n (i := 1) (q := 1) (v := l1) 1 rfl rfl (hL_undo.at 0 rfl rfl) ?_
  refine os_iconst (i := 0) (v := (0 : Int32)) rfl (hL_undo.at 1 rfl rfl) ?_
  refine os_aload_n (i := 0) (q := 0) (v := l0) 0 rfl rfl (hL_undo.at 2 rfl rfl) ?_
  refine os_callVC (cis := [7]) (L := [(0, (0, 8, 11, 13))]) (h0 := (oshand [(0, (1 : Int32))])) (b := l0) (As := []) (st := [.int (0 : Int32), .ref l1]) (st' := (fun r => .int r :: [.int (0 : Int32), .ref l1])) rfl (List.forall_mem_cons.mpr ⟨⟨by decide, by decide, "java/lang/IllegalStateException", rfl, wd709, wd716⟩, fun _ h => absurd h List.not_mem_nil⟩) (oshand_no2 _ rfl) sl7_X9_undo_X9_undo mdX9_undo wd1467 wd1468 (sX9_undo N l0 ) rfl rfl (fun _ => rfl) (Nat.le_of_ble_eq_true rfl) (Nat.le_of_ble_eq_true rfl) (Nat.le_of_ble_eq_true rfl) rfl (Nat.le_of_ble_eq_true rfl) rfl (Nat.le_of_ble_eq_true rfl) (hL_undo.at 3 rfl rfl) (fun x1 => ?_) (List.forall_mem_cons.mpr ⟨fun q => osW.toF (F9 := osret (1 : Int32)) rfl (sL_undo_11 N l0 l1 q), fun _ h => absurd h List.not_mem_nil⟩)
  refine os_i2l (hL_undo.at 4 rfl rfl) ?_
  refine os_lastore (hL_undo.at 5 rfl rfl) ?_
  refine os_goto (off := 6) (tgt := 14) rfl (hL_undo.at 6 rfl rfl) ?_
  refine os_iconst (i := 0) (v := (0 : Int32)) rfl (hL_undo.at 10 rfl rfl) ?_
  exact os_iret (Nat.le_of_ble_eq_true rfl) (Nat.le_of_ble_eq_true rfl) (hL_undo.at 11 rfl rfl).1
-- L_leader
def KL_leader : List (Nat × Nat × Instr) := [(0, 1, .aload_n 1), (1, 1, .iconst 0), (2, 1, .aload_n 0), (3, 3, .invokevirtual 93), (6, 1, .i2l), (7, 1, .lastore), (8, 3, .goto 6), (11, 1, .astore_n 2), (12, 1, .iconst 1), (13, 1, .ireturn), (14, 1, .iconst 0), (15, 1, .ireturn)]
theorem hL_leader : osDs cL_leader KL_leader := by
  show ∀ q ∈ KL_leader, decode cL_leader q.1 = .ok (q.2.2, q.2.1)
  decide +kernel
def qL_leader (N : Nat) (l0 : Nat) (l1 : Nat) : osM Int32 := osbindC (osrecv [7] l0 (qX9_leader N l0)) (oshand [(2, (1 : Int32))]) fun x1 => osbind (ossJ 2 l1 (0 : Int32) (x1.toInt64)) fun _ => osret (0 : Int32)
set_option maxRecDepth 100000 in
set_option maxHeartbeats 4000000 in
theorem sL_leader_11 (N : Nat) (l0 : Nat) (l1 : Nat) (q : Nat) : osW (osFinM (fun r : Int32 => some (.int r)) 1 6) yL_leader cL_leader 3 (some .int) [(0, 8, 11, 28)] { frames := 7, cells := 1, slots := 6, locals := 114 } 1 6 11 [(0, .ref l0), (1, .ref l1)] [.ref q] (osret (1 : Int32)) := by
  refine os_astore_n (i := 2) (q := 2) rfl (lv' := [(2, .ref q), (0, .ref l0), (1, .ref l1)]) (Nat.le_of_ble_eq_true rfl) rfl (hL_leader.at 7 rfl rfl) ?_
  refine os_iconst (i := 1) (v := (1 : Int32)) rfl (hL_leader.at 8 rfl rfl) ?_
  exact os_iret (Nat.le_of_ble_eq_true rfl) (Nat.le_of_ble_eq_true rfl) (hL_leader.at 9 rfl rfl).1
set_option maxRecDepth 100000 in
set_option maxHeartbeats 4000000 in
theorem sL_leader (N : Nat) (l0 : Nat) (l1 : Nat) : osMetH yL_leader cL_leader 3 (some .int) [(0, 8, 11, 28)] 7 114 1 6 (fun r : Int32 => some (.int r)) [.ref l0, .ref l1] (qL_leader N l0 l1) := by
  refine osMetH.of plL (Nat.le_of_ble_eq_true rfl) (osW.rw (lv2 := [(0, .ref l0), (1, .ref l1)]) ?_ rfl rfl rfl)
  unfold qL_leader
  refine os_aload_n (i := 1) (q := 1) (v := l1) 1 rfl rfl (hL_leader.at 0 rfl rfl) ?_
  refine os_iconst (i := 0) (v := (0 : Int32)) rfl (hL_leader.at 1 rfl rfl) ?_
  refine os_aload_n (i := 0) (q := 0) (v := l0) 0 rfl rfl (hL_leader.at 2 rfl rfl) ?_
  refine os_callVC (cis := [7]) (L := [(2, (0, 8, 11, 28))]) (h0 := (oshand [(2, (1 : Int32))])) (b := l0) (As := []) (st := [.int (0 : Int32), .ref l1]) (st' := (fun r => .int r :: [.int (0 : Int32), .ref l1])) rfl (List.forall_mem_cons.mpr ⟨⟨by decide, by decide, "java/util/NoSuchElementException", rfl, wd1164, wd1176⟩, fun _ h => absurd h List.not_mem_nil⟩) (oshand_no2 _ rfl) sl7_X9_leader_X9_leader mdX9_leader wd1533 wd1534 (sX9_leader N l0 ) rfl rfl (fun _ => rfl) (Nat.le_of_ble_eq_true rfl) (Nat.le_of_ble_eq_true rfl) (Nat.le_of_ble_eq_true rfl) rfl (Nat.le_of_ble_eq_true rfl) rfl (Nat.le_of_ble_eq_true rfl) (hL_leader.at 3 rfl rfl) (fun x1 => ?_) (List.forall_mem_cons.mpr ⟨fun q => osW.toF (F9 := osret (1 : Int32)) rfl (sL_leader_11 N l0 l1 q), fun _ h => absurd h List.not_mem_nil⟩)
  refine os_i2l (hL_leader.at 4 rfl rfl) ?_
  refine os_lastore (hL_leader.at 5 rfl rfl) ?_
  refine os_goto (off := 6) (tgt := 14) rfl (hL_leader.at 6 rfl rfl) ?_
  refine os_iconst (i := 0) (v := (0 : Int32)) rfl (hL_leader.at 10 rfl rfl) ?_
  exact os_iret (Nat.le_of_ble_eq_true rfl) (Nat.le_of_ble_eq_true rfl) (hL_leader.at 11 rfl rfl).1
-- L_named
def KL_named : List (Nat × Nat × Instr) := [(0, 1, .aload_n 2), (1, 1, .iconst 0), (2, 1, .aload_n 0), (3, 1, .iload_n 1), (4, 3, .invokevirtual 30), (7, 1, .i2l), (8, 1, .lastore), (9, 3, .goto 9), (12, 1, .astore_n 3), (13, 1, .iconst 1), (14, 1, .ireturn), (15, 1, .astore_n 3), (16, 1, .iconst 2), (17, 1, .ireturn), (18, 1, .iconst 0), (19, 1, .ireturn)]
theorem hL_named : osDs cL_named KL_named := by
  show ∀ q ∈ KL_named, decode cL_named q.1 = .ok (q.2.2, q.2.1)
  decide +kernel
def qL_named (N : Nat) (l0 : Nat) (l1 : Int32) (l2 : Nat) : osM Int32 := osbindC (osrecv [7] l0 (qX9_named N l0 l1)) (oshand [(1, (1 : Int32)), (2, (2 : Int32))]) fun x1 => osbind (ossJ 2 l2 (0 : Int32) (x1.toInt64)) fun _ => osret (0 : Int32)
set_option maxRecDepth 100000 in
set_option maxHeartbeats 4000000 in
theorem sL_named_12 (N : Nat) (l0 : Nat) (l1 : Int32) (l2 : Nat) (q : Nat) : osW (osFinM (fun r : Int32 => some (.int r)) 2 12) yL_named cL_named 4 (some .int) [(0, 9, 12, 19), (0, 9, 15, 28)] { frames := 8, cells := 2, slots := 12, locals := 134 } 2 12 12 [(0, .ref l0), (1, .int l1), (2, .ref l2)] [.ref q] (osret (1 : Int32)) := by
  refine os_astore_n (i := 3) (q := 3) rfl (lv' := [(3, .ref q), (0, .ref l0), (1, .int l1), (2, .ref l2)]) (Nat.le_of_ble_eq_true rfl) rfl (hL_named.at 8 rfl rfl) ?_
  refine os_iconst (i := 1) (v := (1 : Int32)) rfl (hL_named.at 9 rfl rfl) ?_
  exact os_iret (Nat.le_of_ble_eq_true rfl) (Nat.le_of_ble_eq_true rfl) (hL_named.at 10 rfl rfl).1
set_option maxRecDepth 100000 in
set_option maxHeartbeats 4000000 in
theorem sL_named_15 (N : Nat) (l0 : Nat) (l1 : Int32) (l2 : Nat) (q : Nat) : osW (osFinM (fun r : Int32 => some (.int r)) 2 12) yL_named cL_named 4 (some .int) [(0, 9, 12, 19), (0, 9, 15, 28)] { frames := 8, cells := 2, slots := 12, locals := 134 } 2 12 15 [(0, .ref l0), (1, .int l1), (2, .ref l2)] [.ref q] (osret (2 : Int32)) := by
  refine os_astore_n (i := 3) (q := 3) rfl (lv' := [(3, .ref q), (0, .ref l0), (1, .int l1), (2, .ref l2)]) (Nat.le_of_ble_eq_true rfl) rfl (hL_named.at 11 rfl rfl) ?_
  refine os_iconst (i := 2) (v := (2 : Int32)) rfl (hL_named.at 12 rfl rfl) ?_
  exact os_iret (Nat.le_of_ble_eq_true rfl) (Nat.le_of_ble_eq_true rfl) (hL_named.at 13 rfl rfl).1
set_option maxRecDepth 100000 in
set_option maxHeartbeats 4000000 in
theorem sL_named (N : Nat) (l0 : Nat) (l1 : Int32) (l2 : Nat) : osMetH yL_named cL_named 4 (some .int) [(0, 9, 12, 19), (0, 9, 15, 28)] 8 134 2 12 (fun r : Int32 => some (.int r)) [.ref l0, .int l1, .ref l2] (qL_named N l0 l1 l2) := by
  refine osMetH.of plL (Nat.le_of_ble_eq_true rfl) (osW.rw (lv2 := [(0, .ref l0), (1, .int l1), (2, .ref l2)]) ?_ rfl rfl rfl)
  unfold qL_named
  refine os_aload_n (i := 2) (q := 2) (v := l2) 2 rfl rfl (hL_named.at 0 rfl rfl) ?_
  refine os_iconst (i := 0) (v := (0 : Int32)) rfl (hL_named.at 1 rfl rfl) ?_
  refine os_aload_n (i := 0) (q := 0) (v := l0) 0 rfl rfl (hL_named.at 2 rfl rfl) ?_
  refine os_iload_n (i := 1) (q := 1) (v := l1) 1 rfl rfl (hL_named.at 3 rfl rfl) ?_
  refine os_callVC (cis := [7]) (L := [(1, (0, 9, 12, 19)), (2, (0, 9, 15, 28))]) (h0 := (oshand [(1, (1 : Int32)), (2, (2 : Int32))])) (b := l0) (As := [.int l1]) (st := [.int (0 : Int32), .ref l2]) (st' := (fun r => .int r :: [.int (0 : Int32), .ref l2])) rfl (List.forall_mem_cons.mpr ⟨⟨by decide, by decide, "java/lang/IllegalArgumentException", rfl, wd789, wd800⟩, List.forall_mem_cons.mpr ⟨⟨by decide, by decide, "java/util/NoSuchElementException", rfl, wd1164, wd1176⟩, fun _ h => absurd h List.not_mem_nil⟩⟩) (oshand_no2 _ rfl) sl7_X9_named_X9_named mdX9_named wd1203 wd1204 (sX9_named N l0 l1) rfl rfl (fun _ => rfl) (Nat.le_of_ble_eq_true rfl) (Nat.le_of_ble_eq_true rfl) (Nat.le_of_ble_eq_true rfl) rfl (Nat.le_of_ble_eq_true rfl) rfl (Nat.le_of_ble_eq_true rfl) (hL_named.at 4 rfl rfl) (fun x1 => ?_) (List.forall_mem_cons.mpr ⟨fun q => osW.toF (F9 := osret (1 : Int32)) rfl (sL_named_12 N l0 l1 l2 q), List.forall_mem_cons.mpr ⟨fun q => osW.toF (F9 := osret (2 : Int32)) rfl (sL_named_15 N l0 l1 l2 q), fun _ h => absurd h List.not_mem_nil⟩⟩)
  refine os_i2l (hL_named.at 5 rfl rfl) ?_
  refine os_lastore (hL_named.at 6 rfl rfl) ?_
  refine os_goto (off := 9) (tgt := 18) rfl (hL_named.at 7 rfl rfl) ?_
  refine os_iconst (i := 0) (v := (0 : Int32)) rfl (hL_named.at 14 rfl rfl) ?_
  exact os_iret (Nat.le_of_ble_eq_true rfl) (Nat.le_of_ble_eq_true rfl) (hL_named.at 15 rfl rfl).1
-- L_order
def KL_order : List (Nat × Nat × Instr) := [(0, 1, .aload_n 3), (1, 1, .iconst 0), (2, 1, .aload_n 0), (3, 1, .iload_n 1), (4, 1, .iload_n 2), (5, 3, .invokevirtual 44), (8, 1, .i2l), (9, 1, .lastore), (10, 3, .goto 15), (13, 2, .astore 4), (15, 1, .iconst 1), (16, 1, .ireturn), (17, 2, .astore 4), (19, 1, .iconst 2), (20, 1, .ireturn), (21, 2, .astore 4), (23, 1, .iconst 3), (24, 1, .ireturn), (25, 1, .iconst 0), (26, 1, .ireturn)]
theorem hL_order : osDs cL_order KL_order := by
  show ∀ q ∈ KL_order, decode cL_order q.1 = .ok (q.2.2, q.2.1)
  decide +kernel
def qL_order (N : Nat) (l0 : Nat) (l1 : Int32) (l2 : Int32) (l3 : Nat) : osM Int32 := osbindC (osrecv [7] l0 (qX9_order N l0 l1 l2)) (oshand [(2, (1 : Int32)), (1, (2 : Int32)), (0, (3 : Int32))]) fun x1 => osbind (ossJ 2 l3 (0 : Int32) (x1.toInt64)) fun _ => osret (0 : Int32)
set_option maxRecDepth 100000 in
set_option maxHeartbeats 4000000 in
theorem sL_order_13 (N : Nat) (l0 : Nat) (l1 : Int32) (l2 : Int32) (l3 : Nat) (q : Nat) : osW (osFinM (fun r : Int32 => some (.int r)) 3 18) yL_order cL_order 5 (some .int) [(0, 10, 13, 28), (0, 10, 17, 19), (0, 10, 21, 13)] { frames := 8, cells := 3, slots := 18, locals := 134 } 3 18 13 [(0, .ref l0), (1, .int l1), (2, .int l2), (3, .ref l3)] [.ref q] (osret (1 : Int32)) := by
  refine os_astore (i := 4) (lv' := [(4, .ref q), (0, .ref l0), (1, .int l1), (2, .int l2), (3, .ref l3)]) (Nat.le_of_ble_eq_true rfl) rfl (hL_order.at 9 rfl rfl) ?_
  refine os_iconst (i := 1) (v := (1 : Int32)) rfl (hL_order.at 10 rfl rfl) ?_
  exact os_iret (Nat.le_of_ble_eq_true rfl) (Nat.le_of_ble_eq_true rfl) (hL_order.at 11 rfl rfl).1
set_option maxRecDepth 100000 in
set_option maxHeartbeats 4000000 in
theorem sL_order_17 (N : Nat) (l0 : Nat) (l1 : Int32) (l2 : Int32) (l3 : Nat) (q : Nat) : osW (osFinM (fun r : Int32 => some (.int r)) 3 18) yL_order cL_order 5 (some .int) [(0, 10, 13, 28), (0, 10, 17, 19), (0, 10, 21, 13)] { frames := 8, cells := 3, slots := 18, locals := 134 } 3 18 17 [(0, .ref l0), (1, .int l1), (2, .int l2), (3, .ref l3)] [.ref q] (osret (2 : Int32)) := by
  refine os_astore (i := 4) (lv' := [(4, .ref q), (0, .ref l0), (1, .int l1), (2, .int l2), (3, .ref l3)]) (Nat.le_of_ble_eq_true rfl) rfl (hL_order.at 12 rfl rfl) ?_
  refine os_iconst (i := 2) (v := (2 : Int32)) rfl (hL_order.at 13 rfl rfl) ?_
  exact os_iret (Nat.le_of_ble_eq_true rfl) (Nat.le_of_ble_eq_true rfl) (hL_order.at 14 rfl rfl).1
set_option maxRecDepth 100000 in
set_option maxHeartbeats 4000000 in
theorem sL_order_21 (N : Nat) (l0 : Nat) (l1 : Int32) (l2 : Int32) (l3 : Nat) (q : Nat) : osW (osFinM (fun r : Int32 => some (.int r)) 3 18) yL_order cL_order 5 (some .int) [(0, 10, 13, 28), (0, 10, 17, 19), (0, 10, 21, 13)] { frames := 8, cells := 3, slots := 18, locals := 134 } 3 18 21 [(0, .ref l0), (1, .int l1), (2, .int l2), (3, .ref l3)] [.ref q] (osret (3 : Int32)) := by
  refine os_astore (i := 4) (lv' := [(4, .ref q), (0, .ref l0), (1, .int l1), (2, .int l2), (3, .ref l3)]) (Nat.le_of_ble_eq_true rfl) rfl (hL_order.at 15 rfl rfl) ?_
  refine os_iconst (i := 3) (v := (3 : Int32)) rfl (hL_order.at 16 rfl rfl) ?_
  exact os_iret (Nat.le_of_ble_eq_true rfl) (Nat.le_of_ble_eq_true rfl) (hL_order.at 17 rfl rfl).1
set_option maxRecDepth 100000 in
set_option maxHeartbeats 4000000 in
theorem sL_order (N : Nat) (l0 : Nat) (l1 : Int32) (l2 : Int32) (l3 : Nat) : osMetH yL_order cL_order 5 (some .int) [(0, 10, 13, 28), (0, 10, 17, 19), (0, 10, 21, 13)] 8 134 3 18 (fun r : Int32 => some (.int r)) [.ref l0, .int l1, .int l2, .ref l3] (qL_order N l0 l1 l2 l3) := by
  refine osMetH.of plL (Nat.le_of_ble_eq_true rfl) (osW.rw (lv2 := [(0, .ref l0), (1, .int l1), (2, .int l2), (3, .ref l3)]) ?_ rfl rfl rfl)
  unfold qL_order
  refine os_aload_n (i := 3) (q := 3) (v := l3) 3 rfl rfl (hL_order.at 0 rfl rfl) ?_
  refine os_iconst (i := 0) (v := (0 : Int32)) rfl (hL_order.at 1 rfl rfl) ?_
  refine os_aload_n (i := 0) (q := 0) (v := l0) 0 rfl rfl (hL_order.at 2 rfl rfl) ?_
  refine os_iload_n (i := 1) (q := 1) (v := l1) 1 rfl rfl (hL_order.at 3 rfl rfl) ?_
  refine os_iload_n (i := 2) (q := 2) (v := l2) 2 rfl rfl (hL_order.at 4 rfl rfl) ?_
  refine os_callVC (cis := [7]) (L := [(2, (0, 10, 13, 28)), (1, (0, 10, 17, 19)), (0, (0, 10, 21, 13))]) (h0 := (oshand [(2, (1 : Int32)), (1, (2 : Int32)), (0, (3 : Int32))])) (b := l0) (As := [.int l1, .int l2]) (st := [.int (0 : Int32), .ref l3]) (st' := (fun r => .int r :: [.int (0 : Int32), .ref l3])) rfl (List.forall_mem_cons.mpr ⟨⟨by decide, by decide, "java/util/NoSuchElementException", rfl, wd1164, wd1176⟩, List.forall_mem_cons.mpr ⟨⟨by decide, by decide, "java/lang/IllegalArgumentException", rfl, wd789, wd800⟩, List.forall_mem_cons.mpr ⟨⟨by decide, by decide, "java/lang/IllegalStateException", rfl, wd709, wd716⟩, fun _ h => absurd h List.not_mem_nil⟩⟩⟩) (oshand_no2 _ rfl) sl7_X9_order_X9_order mdX9_order wd1263 wd1264 (sX9_order N l0 l1 l2) rfl rfl (fun _ => rfl) (Nat.le_of_ble_eq_true rfl) (Nat.le_of_ble_eq_true rfl) (Nat.le_of_ble_eq_true rfl) rfl (Nat.le_of_ble_eq_true rfl) rfl (Nat.le_of_ble_eq_true rfl) (hL_order.at 5 rfl rfl) (fun x1 => ?_) (List.forall_mem_cons.mpr ⟨fun q => osW.toF (F9 := osret (1 : Int32)) rfl (sL_order_13 N l0 l1 l2 l3 q), List.forall_mem_cons.mpr ⟨fun q => osW.toF (F9 := osret (2 : Int32)) rfl (sL_order_17 N l0 l1 l2 l3 q), List.forall_mem_cons.mpr ⟨fun q => osW.toF (F9 := osret (3 : Int32)) rfl (sL_order_21 N l0 l1 l2 l3 q), fun _ h => absurd h List.not_mem_nil⟩⟩⟩)
  refine os_i2l (hL_order.at 6 rfl rfl) ?_
  refine os_lastore (hL_order.at 7 rfl rfl) ?_
  refine os_goto (off := 15) (tgt := 25) rfl (hL_order.at 8 rfl rfl) ?_
  refine os_iconst (i := 0) (v := (0 : Int32)) rfl (hL_order.at 18 rfl rfl) ?_
  exact os_iret (Nat.le_of_ble_eq_true rfl) (Nat.le_of_ble_eq_true rfl) (hL_order.at 19 rfl rfl).1
-- L_endRetreats
def KL_endRetreats : List (Nat × Nat × Instr) := [(0, 1, .aload_n 1), (1, 1, .iconst 0), (2, 1, .aload_n 0), (3, 3, .invokevirtual 65), (6, 1, .i2l), (7, 1, .lastore), (8, 3, .goto 6), (11, 1, .astore_n 2), (12, 1, .iconst 1), (13, 1, .ireturn), (14, 1, .iconst 0), (15, 1, .ireturn)]
theorem hL_endRetreats : osDs cL_endRetreats KL_endRetreats := by
  show ∀ q ∈ KL_endRetreats, decode cL_endRetreats q.1 = .ok (q.2.2, q.2.1)
  decide +kernel
def qL_endRetreats (N : Nat) (l0 : Nat) (l1 : Nat) : osM Int32 := osbindC (osrecv [7] l0 (qX9_endRetreats N l0)) (oshand [(0, (1 : Int32))]) fun x1 => osbind (ossJ 2 l1 (0 : Int32) (x1.toInt64)) fun _ => osret (0 : Int32)
set_option maxRecDepth 100000 in
set_option maxHeartbeats 4000000 in
theorem sL_endRetreats_11 (N : Nat) (l0 : Nat) (l1 : Nat) (q : Nat) : osW (osFinM (fun r : Int32 => some (.int r)) 1 6) yL_endRetreats cL_endRetreats 3 (some .int) [(0, 8, 11, 13)] { frames := 8, cells := 1, slots := 6, locals := 145 } 1 6 11 [(0, .ref l0), (1, .ref l1)] [.ref q] (osret (1 : Int32)) := by
  refine os_astore_n (i := 2) (q := 2) rfl (lv' := [(2, .ref q), (0, .ref l0), (1, .ref l1)]) (Nat.le_of_ble_eq_true rfl) rfl (hL_endRetreats.at 7 rfl rfl) ?_
  refine os_iconst (i := 1) (v := (1 : Int32)) rfl (hL_endRetreats.at 8 rfl rfl) ?_
  exact os_iret (Nat.le_of_ble_eq_true rfl) (Nat.le_of_ble_eq_true rfl) (hL_endRetreats.at 9 rfl rfl).1
set_option maxRecDepth 100000 in
set_option maxHeartbeats 4000000 in
theorem sL_endRetreats (N : Nat) (l0 : Nat) (l1 : Nat) : osMetH yL_endRetreats cL_endRetreats 3 (some .int) [(0, 8, 11, 13)] 8 145 1 6 (fun r : Int32 => some (.int r)) [.ref l0, .ref l1] (qL_endRetreats N l0 l1) := by
  refine osMetH.of plL (Nat.le_of_ble_eq_true rfl) (osW.rw (lv2 := [(0, .ref l0), (1, .ref l1)]) ?_ rfl rfl rfl)
  unfold qL_endRetreats
  refine os_aload_n (i := 1) (q := 1) (v := l1) 1 rfl rfl (hL_endRetreats.at 0 rfl rfl) ?_
  refine os_iconst (i := 0) (v := (0 : Int32)) rfl (hL_endRetreats.at 1 rfl rfl) ?_
  refine os_aload_n (i := 0) (q := 0) (v := l0) 0 rfl rfl (hL_endRetreats.at 2 rfl rfl) ?_
  refine os_callVC (cis := [7]) (L := [(0, (0, 8, 11, 13))]) (h0 := (oshand [(0, (1 : Int32))])) (b := l0) (As := []) (st := [.int (0 : Int32), .ref l1]) (st' := (fun r => .int r :: [.int (0 : Int32), .ref l1])) rfl (List.forall_mem_cons.mpr ⟨⟨by decide, by decide, "java/lang/IllegalStateException", rfl, wd709, wd716⟩, fun _ h => absurd h List.not_mem_nil⟩) (oshand_no2 _ rfl) sl7_X9_endRetreats_X9_endRetreats mdX9_endRetreats wd1443 wd1444 (sX9_endRetreats N l0 ) rfl rfl (fun _ => rfl) (Nat.le_of_ble_eq_true rfl) (Nat.le_of_ble_eq_true rfl) (Nat.le_of_ble_eq_true rfl) rfl (Nat.le_of_ble_eq_true rfl) rfl (Nat.le_of_ble_eq_true rfl) (hL_endRetreats.at 3 rfl rfl) (fun x1 => ?_) (List.forall_mem_cons.mpr ⟨fun q => osW.toF (F9 := osret (1 : Int32)) rfl (sL_endRetreats_11 N l0 l1 q), fun _ h => absurd h List.not_mem_nil⟩)
  refine os_i2l (hL_endRetreats.at 4 rfl rfl) ?_
  refine os_lastore (hL_endRetreats.at 5 rfl rfl) ?_
  refine os_goto (off := 6) (tgt := 14) rfl (hL_endRetreats.at 6 rfl rfl) ?_
  refine os_iconst (i := 0) (v := (0 : Int32)) rfl (hL_endRetreats.at 10 rfl rfl) ?_
  exact os_iret (Nat.le_of_ble_eq_true rfl) (Nat.le_of_ble_eq_true rfl) (hL_endRetreats.at 11 rfl rfl).1
-- L_endBuilds
def KL_endBuilds : List (Nat × Nat × Instr) := [(0, 1, .aload_n 1), (1, 1, .iconst 0), (2, 1, .aload_n 0), (3, 3, .invokevirtual 68), (6, 1, .i2l), (7, 1, .lastore), (8, 3, .goto 6), (11, 1, .astore_n 2), (12, 1, .iconst 1), (13, 1, .ireturn), (14, 1, .iconst 0), (15, 1, .ireturn)]
theorem hL_endBuilds : osDs cL_endBuilds KL_endBuilds := by
  show ∀ q ∈ KL_endBuilds, decode cL_endBuilds q.1 = .ok (q.2.2, q.2.1)
  decide +kernel
def qL_endBuilds (N : Nat) (l0 : Nat) (l1 : Nat) : osM Int32 := osbindC (osrecv [7] l0 (qX9_endBuilds N l0)) (oshand [(0, (1 : Int32))]) fun x1 => osbind (ossJ 2 l1 (0 : Int32) (x1.toInt64)) fun _ => osret (0 : Int32)
set_option maxRecDepth 100000 in
set_option maxHeartbeats 4000000 in
theorem sL_endBuilds_11 (N : Nat) (l0 : Nat) (l1 : Nat) (q : Nat) : osW (osFinM (fun r : Int32 => some (.int r)) 1 6) yL_endBuilds cL_endBuilds 3 (some .int) [(0, 8, 11, 13)] { frames := 8, cells := 1, slots := 6, locals := 146 } 1 6 11 [(0, .ref l0), (1, .ref l1)] [.ref q] (osret (1 : Int32)) := by
  refine os_astore_n (i := 2) (q := 2) rfl (lv' := [(2, .ref q), (0, .ref l0), (1, .ref l1)]) (Nat.le_of_ble_eq_true rfl) rfl (hL_endBuilds.at 7 rfl rfl) ?_
  refine os_iconst (i := 1) (v := (1 : Int32)) rfl (hL_endBuilds.at 8 rfl rfl) ?_
  exact os_iret (Nat.le_of_ble_eq_true rfl) (Nat.le_of_ble_eq_true rfl) (hL_endBuilds.at 9 rfl rfl).1
set_option maxRecDepth 100000 in
set_option maxHeartbeats 4000000 in
theorem sL_endBuilds (N : Nat) (l0 : Nat) (l1 : Nat) : osMetH yL_endBuilds cL_endBuilds 3 (some .int) [(0, 8, 11, 13)] 8 146 1 6 (fun r : Int32 => some (.int r)) [.ref l0, .ref l1] (qL_endBuilds N l0 l1) := by
  refine osMetH.of plL (Nat.le_of_ble_eq_true rfl) (osW.rw (lv2 := [(0, .ref l0), (1, .ref l1)]) ?_ rfl rfl rfl)
  unfold qL_endBuilds
  refine os_aload_n (i := 1) (q := 1) (v := l1) 1 rfl rfl (hL_endBuilds.at 0 rfl rfl) ?_
  refine os_iconst (i := 0) (v := (0 : Int32)) rfl (hL_endBuilds.at 1 rfl rfl) ?_
  refine os_aload_n (i := 0) (q := 0) (v := l0) 0 rfl rfl (hL_endBuilds.at 2 rfl rfl) ?_
  refine os_callVC (cis := [7]) (L := [(0, (0, 8, 11, 13))]) (h0 := (oshand [(0, (1 : Int32))])) (b := l0) (As := []) (st := [.int (0 : Int32), .ref l1]) (st' := (fun r => .int r :: [.int (0 : Int32), .ref l1])) rfl (List.forall_mem_cons.mpr ⟨⟨by decide, by decide, "java/lang/IllegalStateException", rfl, wd709, wd716⟩, fun _ h => absurd h List.not_mem_nil⟩) (oshand_no2 _ rfl) sl7_X9_endBuilds_X9_endBuilds mdX9_endBuilds wd1454 wd1455 (sX9_endBuilds N l0 ) rfl rfl (fun _ => rfl) (Nat.le_of_ble_eq_true rfl) (Nat.le_of_ble_eq_true rfl) (Nat.le_of_ble_eq_true rfl) rfl (Nat.le_of_ble_eq_true rfl) rfl (Nat.le_of_ble_eq_true rfl) (hL_endBuilds.at 3 rfl rfl) (fun x1 => ?_) (List.forall_mem_cons.mpr ⟨fun q => osW.toF (F9 := osret (1 : Int32)) rfl (sL_endBuilds_11 N l0 l1 q), fun _ h => absurd h List.not_mem_nil⟩)
  refine os_i2l (hL_endBuilds.at 4 rfl rfl) ?_
  refine os_lastore (hL_endBuilds.at 5 rfl rfl) ?_
  refine os_goto (off := 6) (tgt := 14) rfl (hL_endBuilds.at 6 rfl rfl) ?_
  refine os_iconst (i := 0) (v := (0 : Int32)) rfl (hL_endBuilds.at 10 rfl rfl) ?_
  exact os_iret (Nat.le_of_ble_eq_true rfl) (Nat.le_of_ble_eq_true rfl) (hL_endBuilds.at 11 rfl rfl).1
-- L_reach
def KL_reach : List (Nat × Nat × Instr) := [(0, 2, .aload 4), (2, 1, .iconst 0), (3, 1, .aload_n 0), (4, 1, .iload_n 1), (5, 1, .iload_n 2), (6, 1, .iload_n 3), (7, 3, .invokevirtual 80), (10, 1, .i2l), (11, 1, .lastore), (12, 3, .goto 7), (15, 2, .astore 5), (17, 1, .iconst 1), (18, 1, .ireturn), (19, 1, .iconst 0), (20, 1, .ireturn)]
theorem hL_reach : osDs cL_reach KL_reach := by
  show ∀ q ∈ KL_reach, decode cL_reach q.1 = .ok (q.2.2, q.2.1)
  decide +kernel
def qL_reach (N : Nat) (l0 : Nat) (l1 : Int32) (l2 : Int32) (l3 : Int32) (l4 : Nat) : osM Int32 := osbindC (osrecv [7] l0 (qX9_reach N l0 l1 l2 l3)) (oshand [(2, (1 : Int32))]) fun x1 => osbind (ossJ 2 l4 (0 : Int32) (x1.toInt64)) fun _ => osret (0 : Int32)
set_option maxRecDepth 100000 in
set_option maxHeartbeats 4000000 in
theorem sL_reach_15 (N : Nat) (l0 : Nat) (l1 : Int32) (l2 : Int32) (l3 : Int32) (l4 : Nat) (q : Nat) : osW (osFinM (fun r : Int32 => some (.int r)) 2 12) yL_reach cL_reach 6 (some .int) [(0, 12, 15, 28)] { frames := 8, cells := 2, slots := 12, locals := 134 } 2 12 15 [(0, .ref l0), (1, .int l1), (2, .int l2), (3, .int l3), (4, .ref l4)] [.ref q] (osret (1 : Int32)) := by
  refine os_astore (i := 5) (lv' := [(5, .ref q), (0, .ref l0), (1, .int l1), (2, .int l2), (3, .int l3), (4, .ref l4)]) (Nat.le_of_ble_eq_true rfl) rfl (hL_reach.at 10 rfl rfl) ?_
  refine os_iconst (i := 1) (v := (1 : Int32)) rfl (hL_reach.at 11 rfl rfl) ?_
  exact os_iret (Nat.le_of_ble_eq_true rfl) (Nat.le_of_ble_eq_true rfl) (hL_reach.at 12 rfl rfl).1
set_option maxRecDepth 100000 in
set_option maxHeartbeats 4000000 in
theorem sL_reach (N : Nat) (l0 : Nat) (l1 : Int32) (l2 : Int32) (l3 : Int32) (l4 : Nat) : osMetH yL_reach cL_reach 6 (some .int) [(0, 12, 15, 28)] 8 134 2 12 (fun r : Int32 => some (.int r)) [.ref l0, .int l1, .int l2, .int l3, .ref l4] (qL_reach N l0 l1 l2 l3 l4) := by
  refine osMetH.of plL (Nat.le_of_ble_eq_true rfl) (osW.rw (lv2 := [(0, .ref l0), (1, .int l1), (2, .int l2), (3, .int l3), (4, .ref l4)]) ?_ rfl rfl rfl)
  unfold qL_reach
  refine os_aload (v := l4) 4 rfl (hL_reach.at 0 rfl rfl) ?_
  refine os_iconst (i := 0) (v := (0 : Int32)) rfl (hL_reach.at 1 rfl rfl) ?_
  refine os_aload_n (i := 0) (q := 0) (v := l0) 0 rfl rfl (hL_reach.at 2 rfl rfl) ?_
  refine os_iload_n (i := 1) (q := 1) (v := l1) 1 rfl rfl (hL_reach.at 3 rfl rfl) ?_
  refine os_iload_n (i := 2) (q := 2) (v := l2) 2 rfl rfl (hL_reach.at 4 rfl rfl) ?_
  refine os_iload_n (i := 3) (q := 3) (v := l3) 3 rfl rfl (hL_reach.at 5 rfl rfl) ?_
  refine os_callVC (cis := [7]) (L := [(2, (0, 12, 15, 28))]) (h0 := (oshand [(2, (1 : Int32))])) (b := l0) (As := [.int l1, .int l2, .int l3]) (st := [.int (0 : Int32), .ref l4]) (st' := (fun r => .int r :: [.int (0 : Int32), .ref l4])) rfl (List.forall_mem_cons.mpr ⟨⟨by decide, by decide, "java/util/NoSuchElementException", rfl, wd1164, wd1176⟩, fun _ h => absurd h List.not_mem_nil⟩) (oshand_no2 _ rfl) sl7_X9_reach_X9_reach mdX9_reach wd1493 wd1494 (sX9_reach N l0 l1 l2 l3) rfl rfl (fun _ => rfl) (Nat.le_of_ble_eq_true rfl) (Nat.le_of_ble_eq_true rfl) (Nat.le_of_ble_eq_true rfl) rfl (Nat.le_of_ble_eq_true rfl) rfl (Nat.le_of_ble_eq_true rfl) (hL_reach.at 6 rfl rfl) (fun x1 => ?_) (List.forall_mem_cons.mpr ⟨fun q => osW.toF (F9 := osret (1 : Int32)) rfl (sL_reach_15 N l0 l1 l2 l3 l4 q), fun _ h => absurd h List.not_mem_nil⟩)
  refine os_i2l (hL_reach.at 7 rfl rfl) ?_
  refine os_lastore (hL_reach.at 8 rfl rfl) ?_
  refine os_goto (off := 7) (tgt := 19) rfl (hL_reach.at 9 rfl rfl) ?_
  refine os_iconst (i := 0) (v := (0 : Int32)) rfl (hL_reach.at 13 rfl rfl) ?_
  exact os_iret (Nat.le_of_ble_eq_true rfl) (Nat.le_of_ble_eq_true rfl) (hL_reach.at 14 rfl rfl).1
-- L_isThreatened
def KL_isThreatened : List (Nat × Nat × Instr) := [(0, 1, .aload_n 2), (1, 1, .iconst 0), (2, 1, .aload_n 0), (3, 1, .iload_n 1), (4, 3, .invokevirtual 83), (7, 3, .ifCond .eq 7), (10, 1, .lconst 1), (11, 3, .goto 4), (14, 1, .lconst 0), (15, 1, .lastore), (16, 3, .goto 6), (19, 1, .astore_n 3), (20, 1, .iconst 1), (21, 1, .ireturn), (22, 1, .iconst 0), (23, 1, .ireturn)]
theorem hL_isThreatened : osDs cL_isThreatened KL_isThreatened := by
  show ∀ q ∈ KL_isThreatened, decode cL_isThreatened q.1 = .ok (q.2.2, q.2.1)
  decide +kernel
def qL_isThreatened_15 (N : Nat) (k0 : Int64) (k1 : Int32) (k2 : Nat) : osM Int32 := osbind (ossJ 2 k2 k1 k0) fun _ => osret (0 : Int32)
def qL_isThreatened (N : Nat) (l0 : Nat) (l1 : Int32) (l2 : Nat) : osM Int32 := osbindC (osrecv [7] l0 (qX9_isThreatened N l0 l1)) (oshand [(2, (1 : Int32))]) fun x1 => osite (x1 = 0) (qL_isThreatened_15 N (0 : Int64) (0 : Int32) l2) (qL_isThreatened_15 N (1 : Int64) (0 : Int32) l2)
set_option maxRecDepth 100000 in
set_option maxHeartbeats 4000000 in
theorem sL_isThreatened_19 (N : Nat) (l0 : Nat) (l1 : Int32) (l2 : Nat) (q : Nat) : osW (osFinM (fun r : Int32 => some (.int r)) 1 6) yL_isThreatened cL_isThreatened 4 (some .int) [(0, 16, 19, 28)] { frames := 8, cells := 1, slots := 6, locals := 135 } 1 6 19 [(0, .ref l0), (1, .int l1), (2, .ref l2)] [.ref q] (osret (1 : Int32)) := by
  refine os_astore_n (i := 3) (q := 3) rfl (lv' := [(3, .ref q), (0, .ref l0), (1, .int l1), (2, .ref l2)]) (Nat.le_of_ble_eq_true rfl) rfl (hL_isThreatened.at 11 rfl rfl) ?_
  refine os_iconst (i := 1) (v := (1 : Int32)) rfl (hL_isThreatened.at 12 rfl rfl) ?_
  exact os_iret (Nat.le_of_ble_eq_true rfl) (Nat.le_of_ble_eq_true rfl) (hL_isThreatened.at 13 rfl rfl).1
set_option maxRecDepth 100000 in
set_option maxHeartbeats 4000000 in
theorem sL_isThreatened_15 (N : Nat) (k0 : Int64) (k1 : Int32) (k2 : Nat) : osW (osFinM (fun r : Int32 => some (.int r)) 1 6) yL_isThreatened cL_isThreatened 4 (some .int) [(0, 16, 19, 28)] { frames := 8, cells := 1, slots := 6, locals := 135 } 1 6 15 [] [.long k0, .int k1, .ref k2] (qL_isThreatened_15 N k0 k1 k2) := by
  unfold qL_isThreatened_15
  refine os_lastore (hL_isThreatened.at 9 rfl rfl) ?_
  refine os_goto (off := 6) (tgt := 22) rfl (hL_isThreatened.at 10 rfl rfl) ?_
  refine os_iconst (i := 0) (v := (0 : Int32)) rfl (hL_isThreatened.at 14 rfl rfl) ?_
  exact os_iret (Nat.le_of_ble_eq_true rfl) (Nat.le_of_ble_eq_true rfl) (hL_isThreatened.at 15 rfl rfl).1
set_option maxRecDepth 100000 in
set_option maxHeartbeats 4000000 in
theorem sL_isThreatened (N : Nat) (l0 : Nat) (l1 : Int32) (l2 : Nat) : osMetH yL_isThreatened cL_isThreatened 4 (some .int) [(0, 16, 19, 28)] 8 135 1 6 (fun r : Int32 => some (.int r)) [.ref l0, .int l1, .ref l2] (qL_isThreatened N l0 l1 l2) := by
  refine osMetH.of plL (Nat.le_of_ble_eq_true rfl) (osW.rw (lv2 := [(0, .ref l0), (1, .int l1), (2, .ref l2)]) ?_ rfl rfl rfl)
  unfold qL_isThreatened
  refine os_aload_n (i := 2) (q := 2) (v := l2) 2 rfl rfl (hL_isThreatened.at 0 rfl rfl) ?_
  refine os_iconst (i := 0) (v := (0 : Int32)) rfl (hL_isThreatened.at 1 rfl rfl) ?_
  refine os_aload_n (i := 0) (q := 0) (v := l0) 0 rfl rfl (hL_isThreatened.at 2 rfl rfl) ?_
  refine os_iload_n (i := 1) (q := 1) (v := l1) 1 rfl rfl (hL_isThreatened.at 3 rfl rfl) ?_
  refine os_callVC (cis := [7]) (L := [(2, (0, 16, 19, 28))]) (h0 := (oshand [(2, (1 : Int32))])) (b := l0) (As := [.int l1]) (st := [.int (0 : Int32), .ref l2]) (st' := (fun r => .int r :: [.int (0 : Int32), .ref l2])) rfl (List.forall_mem_cons.mpr ⟨⟨by decide, by decide, "java/util/NoSuchElementException", rfl, wd1164, wd1176⟩, fun _ h => absurd h List.not_mem_nil⟩) (oshand_no2 _ rfl) sl7_X9_isThreatened_X9_isThreatened mdX9_isThreatened wd1504 wd1505 (sX9_isThreatened N l0 l1) rfl rfl (fun _ => rfl) (Nat.le_of_ble_eq_true rfl) (Nat.le_of_ble_eq_true rfl) (Nat.le_of_ble_eq_true rfl) rfl (Nat.le_of_ble_eq_true rfl) rfl (Nat.le_of_ble_eq_true rfl) (hL_isThreatened.at 4 rfl rfl) (fun x1 => ?_) (List.forall_mem_cons.mpr ⟨fun q => osW.toF (F9 := osret (1 : Int32)) rfl (sL_isThreatened_19 N l0 l1 l2 q), fun _ h => absurd h List.not_mem_nil⟩)
  refine os_if_eq (off := 7) (tgt := 14) rfl (hL_isThreatened.at 5 rfl rfl) ?_ ?_
  · refine os_lconst (i := 0) (v := 0) rfl (hL_isThreatened.at 8 rfl rfl) ?_
    exact osW.sub [] rfl (sL_isThreatened_15 N (0 : Int64) (0 : Int32) l2)
  · refine os_lconst (i := 1) (v := 1) rfl (hL_isThreatened.at 6 rfl rfl) ?_
    refine os_goto (off := 4) (tgt := 15) rfl (hL_isThreatened.at 7 rfl rfl) ?_
    exact osW.sub [] rfl (sL_isThreatened_15 N (1 : Int64) (0 : Int32) l2)
-- L_share
def KL_share : List (Nat × Nat × Instr) := [(0, 1, .aload_n 2), (1, 1, .iconst 0), (2, 1, .aload_n 0), (3, 1, .iload_n 1), (4, 3, .invokevirtual 86), (7, 1, .f2d), (8, 1, .dastore), (9, 3, .goto 6), (12, 1, .astore_n 3), (13, 1, .iconst 1), (14, 1, .ireturn), (15, 1, .iconst 0), (16, 1, .ireturn)]
theorem hL_share : osDs cL_share KL_share := by
  show ∀ q ∈ KL_share, decode cL_share q.1 = .ok (q.2.2, q.2.1)
  decide +kernel
def qL_share (N : Nat) (l0 : Nat) (l1 : Int32) (l2 : Nat) : osM Int32 := osbindC (osrecv [7] l0 (qX9_share N l0 l1)) (oshand [(2, (1 : Int32))]) fun x1 => osguard (osn64 (FP.f2d x1)) (osbind (ossD 4 l2 (0 : Int32) (FP.f2d x1)) fun _ => osret (0 : Int32))
set_option maxRecDepth 100000 in
set_option maxHeartbeats 4000000 in
theorem sL_share_12 (N : Nat) (l0 : Nat) (l1 : Int32) (l2 : Nat) (q : Nat) : osW (osFinM (fun r : Int32 => some (.int r)) 1 6) yL_share cL_share 4 (some .int) [(0, 9, 12, 28)] { frames := 8, cells := 1, slots := 6, locals := 132 } 1 6 12 [(0, .ref l0), (1, .int l1), (2, .ref l2)] [.ref q] (osret (1 : Int32)) := by
  refine os_astore_n (i := 3) (q := 3) rfl (lv' := [(3, .ref q), (0, .ref l0), (1, .int l1), (2, .ref l2)]) (Nat.le_of_ble_eq_true rfl) rfl (hL_share.at 8 rfl rfl) ?_
  refine os_iconst (i := 1) (v := (1 : Int32)) rfl (hL_share.at 9 rfl rfl) ?_
  exact os_iret (Nat.le_of_ble_eq_true rfl) (Nat.le_of_ble_eq_true rfl) (hL_share.at 10 rfl rfl).1
set_option maxRecDepth 100000 in
set_option maxHeartbeats 4000000 in
theorem sL_share (N : Nat) (l0 : Nat) (l1 : Int32) (l2 : Nat) : osMetH yL_share cL_share 4 (some .int) [(0, 9, 12, 28)] 8 132 1 6 (fun r : Int32 => some (.int r)) [.ref l0, .int l1, .ref l2] (qL_share N l0 l1 l2) := by
  refine osMetH.of plL (Nat.le_of_ble_eq_true rfl) (osW.rw (lv2 := [(0, .ref l0), (1, .int l1), (2, .ref l2)]) ?_ rfl rfl rfl)
  unfold qL_share
  refine os_aload_n (i := 2) (q := 2) (v := l2) 2 rfl rfl (hL_share.at 0 rfl rfl) ?_
  refine os_iconst (i := 0) (v := (0 : Int32)) rfl (hL_share.at 1 rfl rfl) ?_
  refine os_aload_n (i := 0) (q := 0) (v := l0) 0 rfl rfl (hL_share.at 2 rfl rfl) ?_
  refine os_iload_n (i := 1) (q := 1) (v := l1) 1 rfl rfl (hL_share.at 3 rfl rfl) ?_
  refine os_callVC (cis := [7]) (L := [(2, (0, 9, 12, 28))]) (h0 := (oshand [(2, (1 : Int32))])) (b := l0) (As := [.int l1]) (st := [.int (0 : Int32), .ref l2]) (st' := (fun r => .float r :: [.int (0 : Int32), .ref l2])) rfl (List.forall_mem_cons.mpr ⟨⟨by decide, by decide, "java/util/NoSuchElementException", rfl, wd1164, wd1176⟩, fun _ h => absurd h List.not_mem_nil⟩) (oshand_no2 _ rfl) sl7_X9_share_X9_share mdX9_share wd1511 wd1512 (sX9_share N l0 l1) rfl rfl (fun _ => rfl) (Nat.le_of_ble_eq_true rfl) (Nat.le_of_ble_eq_true rfl) (Nat.le_of_ble_eq_true rfl) rfl (Nat.le_of_ble_eq_true rfl) rfl (Nat.le_of_ble_eq_true rfl) (hL_share.at 4 rfl rfl) (fun x1 => ?_) (List.forall_mem_cons.mpr ⟨fun q => osW.toF (F9 := osret (1 : Int32)) rfl (sL_share_12 N l0 l1 l2 q), fun _ h => absurd h List.not_mem_nil⟩)
  refine os_guard (fun h2 => ?_)
  refine os_f2d (osn64_ok h2) (hL_share.at 5 rfl rfl) ?_
  refine os_dastore (hL_share.at 6 rfl rfl) ?_
  refine os_goto (off := 6) (tgt := 15) rfl (hL_share.at 7 rfl rfl) ?_
  refine os_iconst (i := 0) (v := (0 : Int32)) rfl (hL_share.at 11 rfl rfl) ?_
  exact os_iret (Nat.le_of_ble_eq_true rfl) (Nat.le_of_ble_eq_true rfl) (hL_share.at 12 rfl rfl).1
-- L_shareBits
def KL_shareBits : List (Nat × Nat × Instr) := [(0, 1, .aload_n 2), (1, 1, .iconst 0), (2, 1, .aload_n 0), (3, 1, .iload_n 1), (4, 3, .invokevirtual 90), (7, 1, .i2l), (8, 1, .lastore), (9, 3, .goto 6), (12, 1, .astore_n 3), (13, 1, .iconst 1), (14, 1, .ireturn), (15, 1, .iconst 0), (16, 1, .ireturn)]
theorem hL_shareBits : osDs cL_shareBits KL_shareBits := by
  show ∀ q ∈ KL_shareBits, decode cL_shareBits q.1 = .ok (q.2.2, q.2.1)
  decide +kernel
def qL_shareBits (N : Nat) (l0 : Nat) (l1 : Int32) (l2 : Nat) : osM Int32 := osbindC (osrecv [7] l0 (qX9_shareBits N l0 l1)) (oshand [(2, (1 : Int32))]) fun x1 => osbind (ossJ 2 l2 (0 : Int32) (x1.toInt64)) fun _ => osret (0 : Int32)
set_option maxRecDepth 100000 in
set_option maxHeartbeats 4000000 in
theorem sL_shareBits_12 (N : Nat) (l0 : Nat) (l1 : Int32) (l2 : Nat) (q : Nat) : osW (osFinM (fun r : Int32 => some (.int r)) 1 6) yL_shareBits cL_shareBits 4 (some .int) [(0, 9, 12, 28)] { frames := 8, cells := 1, slots := 6, locals := 132 } 1 6 12 [(0, .ref l0), (1, .int l1), (2, .ref l2)] [.ref q] (osret (1 : Int32)) := by
  refine os_astore_n (i := 3) (q := 3) rfl (lv' := [(3, .ref q), (0, .ref l0), (1, .int l1), (2, .ref l2)]) (Nat.le_of_ble_eq_true rfl) rfl (hL_shareBits.at 8 rfl rfl) ?_
  refine os_iconst (i := 1) (v := (1 : Int32)) rfl (hL_shareBits.at 9 rfl rfl) ?_
  exact os_iret (Nat.le_of_ble_eq_true rfl) (Nat.le_of_ble_eq_true rfl) (hL_shareBits.at 10 rfl rfl).1
set_option maxRecDepth 100000 in
set_option maxHeartbeats 4000000 in
theorem sL_shareBits (N : Nat) (l0 : Nat) (l1 : Int32) (l2 : Nat) : osMetH yL_shareBits cL_shareBits 4 (some .int) [(0, 9, 12, 28)] 8 132 1 6 (fun r : Int32 => some (.int r)) [.ref l0, .int l1, .ref l2] (qL_shareBits N l0 l1 l2) := by
  refine osMetH.of plL (Nat.le_of_ble_eq_true rfl) (osW.rw (lv2 := [(0, .ref l0), (1, .int l1), (2, .ref l2)]) ?_ rfl rfl rfl)
  unfold qL_shareBits
  refine os_aload_n (i := 2) (q := 2) (v := l2) 2 rfl rfl (hL_shareBits.at 0 rfl rfl) ?_
  refine os_iconst (i := 0) (v := (0 : Int32)) rfl (hL_shareBits.at 1 rfl rfl) ?_
  refine os_aload_n (i := 0) (q := 0) (v := l0) 0 rfl rfl (hL_shareBits.at 2 rfl rfl) ?_
  refine os_iload_n (i := 1) (q := 1) (v := l1) 1 rfl rfl (hL_shareBits.at 3 rfl rfl) ?_
  refine os_callVC (cis := [7]) (L := [(2, (0, 9, 12, 28))]) (h0 := (oshand [(2, (1 : Int32))])) (b := l0) (As := [.int l1]) (st := [.int (0 : Int32), .ref l2]) (st' := (fun r => .int r :: [.int (0 : Int32), .ref l2])) rfl (List.forall_mem_cons.mpr ⟨⟨by decide, by decide, "java/util/NoSuchElementException", rfl, wd1164, wd1176⟩, fun _ h => absurd h List.not_mem_nil⟩) (oshand_no2 _ rfl) sl7_X9_shareBits_X9_shareBits mdX9_shareBits wd1522 wd1523 (sX9_shareBits N l0 l1) rfl rfl (fun _ => rfl) (Nat.le_of_ble_eq_true rfl) (Nat.le_of_ble_eq_true rfl) (Nat.le_of_ble_eq_true rfl) rfl (Nat.le_of_ble_eq_true rfl) rfl (Nat.le_of_ble_eq_true rfl) (hL_shareBits.at 4 rfl rfl) (fun x1 => ?_) (List.forall_mem_cons.mpr ⟨fun q => osW.toF (F9 := osret (1 : Int32)) rfl (sL_shareBits_12 N l0 l1 l2 q), fun _ h => absurd h List.not_mem_nil⟩)
  refine os_i2l (hL_shareBits.at 5 rfl rfl) ?_
  refine os_lastore (hL_shareBits.at 6 rfl rfl) ?_
  refine os_goto (off := 6) (tgt := 15) rfl (hL_shareBits.at 7 rfl rfl) ?_
  refine os_iconst (i := 0) (v := (0 : Int32)) rfl (hL_shareBits.at 11 rfl rfl) ?_
  exact os_iret (Nat.le_of_ble_eq_true rfl) (Nat.le_of_ble_eq_true rfl) (hL_shareBits.at 12 rfl rfl).1
-- L_writeOrders
def KL_writeOrders : List (Nat × Nat × Instr) := [(0, 1, .aload_n 1), (1, 1, .iconst 0), (2, 1, .aload_n 0), (3, 3, .invokevirtual 96), (6, 1, .i2l), (7, 1, .lastore), (8, 3, .goto 6), (11, 1, .astore_n 2), (12, 1, .iconst 1), (13, 1, .ireturn), (14, 1, .iconst 0), (15, 1, .ireturn)]
theorem hL_writeOrders : osDs cL_writeOrders KL_writeOrders := by
  show ∀ q ∈ KL_writeOrders, decode cL_writeOrders q.1 = .ok (q.2.2, q.2.1)
  decide +kernel
def qL_writeOrders (N : Nat) (l0 : Nat) (l1 : Nat) : osM Int32 := osbindC (osrecv [7] l0 (qX9_writeOrders N l0)) (oshand [(0, (1 : Int32))]) fun x1 => osbind (ossJ 2 l1 (0 : Int32) (x1.toInt64)) fun _ => osret (0 : Int32)
set_option maxRecDepth 100000 in
set_option maxHeartbeats 4000000 in
theorem sL_writeOrders_11 (N : Nat) (l0 : Nat) (l1 : Nat) (q : Nat) : osW (osFinM (fun r : Int32 => some (.int r)) 1 6) yL_writeOrders cL_writeOrders 3 (some .int) [(0, 8, 11, 13)] { frames := 8, cells := 1, slots := 6, locals := 173 } 1 6 11 [(0, .ref l0), (1, .ref l1)] [.ref q] (osret (1 : Int32)) := by
  refine os_astore_n (i := 2) (q := 2) rfl (lv' := [(2, .ref q), (0, .ref l0), (1, .ref l1)]) (Nat.le_of_ble_eq_true rfl) rfl (hL_writeOrders.at 7 rfl rfl) ?_
  refine os_iconst (i := 1) (v := (1 : Int32)) rfl (hL_writeOrders.at 8 rfl rfl) ?_
  exact os_iret (Nat.le_of_ble_eq_true rfl) (Nat.le_of_ble_eq_true rfl) (hL_writeOrders.at 9 rfl rfl).1
set_option maxRecDepth 100000 in
set_option maxHeartbeats 4000000 in
theorem sL_writeOrders (N : Nat) (l0 : Nat) (l1 : Nat) : osMetH yL_writeOrders cL_writeOrders 3 (some .int) [(0, 8, 11, 13)] 8 173 1 6 (fun r : Int32 => some (.int r)) [.ref l0, .ref l1] (qL_writeOrders N l0 l1) := by
  refine osMetH.of plL (Nat.le_of_ble_eq_true rfl) (osW.rw (lv2 := [(0, .ref l0), (1, .ref l1)]) ?_ rfl rfl rfl)
  unfold qL_writeOrders
  refine os_aload_n (i := 1) (q := 1) (v := l1) 1 rfl rfl (hL_writeOrders.at 0 rfl rfl) ?_
  refine os_iconst (i := 0) (v := (0 : Int32)) rfl (hL_writeOrders.at 1 rfl rfl) ?_
  refine os_aload_n (i := 0) (q := 0) (v := l0) 0 rfl rfl (hL_writeOrders.at 2 rfl rfl) ?_
  refine os_callVC (cis := [7]) (L := [(0, (0, 8, 11, 13))]) (h0 := (oshand [(0, (1 : Int32))])) (b := l0) (As := []) (st := [.int (0 : Int32), .ref l1]) (st' := (fun r => .int r :: [.int (0 : Int32), .ref l1])) rfl (List.forall_mem_cons.mpr ⟨⟨by decide, by decide, "java/lang/IllegalStateException", rfl, wd709, wd716⟩, fun _ h => absurd h List.not_mem_nil⟩) (oshand_no2 _ rfl) sl7_X9_writeOrders_X9_writeOrders mdX9_writeOrders wd1541 wd1542 (sX9_writeOrders N l0 ) rfl rfl (fun _ => rfl) (Nat.le_of_ble_eq_true rfl) (Nat.le_of_ble_eq_true rfl) (Nat.le_of_ble_eq_true rfl) rfl (Nat.le_of_ble_eq_true rfl) rfl (Nat.le_of_ble_eq_true rfl) (hL_writeOrders.at 3 rfl rfl) (fun x1 => ?_) (List.forall_mem_cons.mpr ⟨fun q => osW.toF (F9 := osret (1 : Int32)) rfl (sL_writeOrders_11 N l0 l1 q), fun _ h => absurd h List.not_mem_nil⟩)
  refine os_i2l (hL_writeOrders.at 4 rfl rfl) ?_
  refine os_lastore (hL_writeOrders.at 5 rfl rfl) ?_
  refine os_goto (off := 6) (tgt := 14) rfl (hL_writeOrders.at 6 rfl rfl) ?_
  refine os_iconst (i := 0) (v := (0 : Int32)) rfl (hL_writeOrders.at 10 rfl rfl) ?_
  exact os_iret (Nat.le_of_ble_eq_true rfl) (Nat.le_of_ble_eq_true rfl) (hL_writeOrders.at 11 rfl rfl).1
-- L_load
def KL_load : List (Nat × Nat × Instr) := [(0, 1, .aload_n 2), (1, 1, .iconst 0), (2, 1, .aload_n 0), (3, 1, .iload_n 1), (4, 3, .invokevirtual 15), (7, 1, .i2l), (8, 1, .lastore), (9, 3, .goto 9), (12, 1, .astore_n 3), (13, 1, .iconst 1), (14, 1, .ireturn), (15, 1, .astore_n 3), (16, 1, .iconst 2), (17, 1, .ireturn), (18, 1, .iconst 0), (19, 1, .ireturn)]
theorem hL_load : osDs cL_load KL_load := by
  show ∀ q ∈ KL_load, decode cL_load q.1 = .ok (q.2.2, q.2.1)
  decide +kernel
def qL_load (N : Nat) (l0 : Nat) (l1 : Int32) (l2 : Nat) : osM Int32 := osbindC (osrecv [7] l0 (qX9_load N l0 l1)) (oshand [(1, (1 : Int32)), (0, (2 : Int32))]) fun x1 => osbind (ossJ 2 l2 (0 : Int32) (x1.toInt64)) fun _ => osret (0 : Int32)
set_option maxRecDepth 100000 in
set_option maxHeartbeats 4000000 in
theorem sL_load_12 (N : Nat) (l0 : Nat) (l1 : Int32) (l2 : Nat) (q : Nat) : osW (osFinM (fun r : Int32 => some (.int r)) 2 12) yL_load cL_load 4 (some .int) [(0, 9, 12, 19), (0, 9, 15, 13)] { frames := 8, cells := 2, slots := 12, locals := 187 } 2 12 12 [(0, .ref l0), (1, .int l1), (2, .ref l2)] [.ref q] (osret (1 : Int32)) := by
  refine os_astore_n (i := 3) (q := 3) rfl (lv' := [(3, .ref q), (0, .ref l0), (1, .int l1), (2, .ref l2)]) (Nat.le_of_ble_eq_true rfl) rfl (hL_load.at 8 rfl rfl) ?_
  refine os_iconst (i := 1) (v := (1 : Int32)) rfl (hL_load.at 9 rfl rfl) ?_
  exact os_iret (Nat.le_of_ble_eq_true rfl) (Nat.le_of_ble_eq_true rfl) (hL_load.at 10 rfl rfl).1
set_option maxRecDepth 100000 in
set_option maxHeartbeats 4000000 in
theorem sL_load_15 (N : Nat) (l0 : Nat) (l1 : Int32) (l2 : Nat) (q : Nat) : osW (osFinM (fun r : Int32 => some (.int r)) 2 12) yL_load cL_load 4 (some .int) [(0, 9, 12, 19), (0, 9, 15, 13)] { frames := 8, cells := 2, slots := 12, locals := 187 } 2 12 15 [(0, .ref l0), (1, .int l1), (2, .ref l2)] [.ref q] (osret (2 : Int32)) := by
  refine os_astore_n (i := 3) (q := 3) rfl (lv' := [(3, .ref q), (0, .ref l0), (1, .int l1), (2, .ref l2)]) (Nat.le_of_ble_eq_true rfl) rfl (hL_load.at 11 rfl rfl) ?_
  refine os_iconst (i := 2) (v := (2 : Int32)) rfl (hL_load.at 12 rfl rfl) ?_
  exact os_iret (Nat.le_of_ble_eq_true rfl) (Nat.le_of_ble_eq_true rfl) (hL_load.at 13 rfl rfl).1
set_option maxRecDepth 100000 in
set_option maxHeartbeats 4000000 in
theorem sL_load (N : Nat) (l0 : Nat) (l1 : Int32) (l2 : Nat) : osMetH yL_load cL_load 4 (some .int) [(0, 9, 12, 19), (0, 9, 15, 13)] 8 187 2 12 (fun r : Int32 => some (.int r)) [.ref l0, .int l1, .ref l2] (qL_load N l0 l1 l2) := by
  refine osMetH.of plL (Nat.le_of_ble_eq_true rfl) (osW.rw (lv2 := [(0, .ref l0), (1, .int l1), (2, .ref l2)]) ?_ rfl rfl rfl)
  unfold qL_load
  refine os_aload_n (i := 2) (q := 2) (v := l2) 2 rfl rfl (hL_load.at 0 rfl rfl) ?_
  refine os_iconst (i := 0) (v := (0 : Int32)) rfl (hL_load.at 1 rfl rfl) ?_
  refine os_aload_n (i := 0) (q := 0) (v := l0) 0 rfl rfl (hL_load.at 2 rfl rfl) ?_
  refine os_iload_n (i := 1) (q := 1) (v := l1) 1 rfl rfl (hL_load.at 3 rfl rfl) ?_
  refine os_callVC (cis := [7]) (L := [(1, (0, 9, 12, 19)), (0, (0, 9, 15, 13))]) (h0 := (oshand [(1, (1 : Int32)), (0, (2 : Int32))])) (b := l0) (As := [.int l1]) (st := [.int (0 : Int32), .ref l2]) (st' := (fun r => .int r :: [.int (0 : Int32), .ref l2])) rfl (List.forall_mem_cons.mpr ⟨⟨by decide, by decide, "java/lang/IllegalArgumentException", rfl, wd789, wd800⟩, List.forall_mem_cons.mpr ⟨⟨by decide, by decide, "java/lang/IllegalStateException", rfl, wd709, wd716⟩, fun _ h => absurd h List.not_mem_nil⟩⟩) (oshand_no2 _ rfl) sl7_X9_load_X9_load mdX9_load wd790 wd791 (sX9_load N l0 l1) rfl rfl (fun _ => rfl) (Nat.le_of_ble_eq_true rfl) (Nat.le_of_ble_eq_true rfl) (Nat.le_of_ble_eq_true rfl) rfl (Nat.le_of_ble_eq_true rfl) rfl (Nat.le_of_ble_eq_true rfl) (hL_load.at 4 rfl rfl) (fun x1 => ?_) (List.forall_mem_cons.mpr ⟨fun q => osW.toF (F9 := osret (1 : Int32)) rfl (sL_load_12 N l0 l1 l2 q), List.forall_mem_cons.mpr ⟨fun q => osW.toF (F9 := osret (2 : Int32)) rfl (sL_load_15 N l0 l1 l2 q), fun _ h => absurd h List.not_mem_nil⟩⟩)
  refine os_i2l (hL_load.at 5 rfl rfl) ?_
  refine os_lastore (hL_load.at 6 rfl rfl) ?_
  refine os_goto (off := 9) (tgt := 18) rfl (hL_load.at 7 rfl rfl) ?_
  refine os_iconst (i := 0) (v := (0 : Int32)) rfl (hL_load.at 14 rfl rfl) ?_
  exact os_iret (Nat.le_of_ble_eq_true rfl) (Nat.le_of_ble_eq_true rfl) (hL_load.at 15 rfl rfl).1
-- L_tell
def KL_tell : List (Nat × Nat × Instr) := [(0, 1, .aload_n 2), (1, 1, .iconst 0), (2, 1, .aload_n 0), (3, 1, .iload_n 1), (4, 3, .invokevirtual 21), (7, 1, .i2l), (8, 1, .lastore), (9, 3, .goto 9), (12, 1, .astore_n 3), (13, 1, .iconst 1), (14, 1, .ireturn), (15, 1, .astore_n 3), (16, 1, .iconst 2), (17, 1, .ireturn), (18, 1, .iconst 0), (19, 1, .ireturn)]
theorem hL_tell : osDs cL_tell KL_tell := by
  show ∀ q ∈ KL_tell, decode cL_tell q.1 = .ok (q.2.2, q.2.1)
  decide +kernel
def qL_tell (N : Nat) (l0 : Nat) (l1 : Int32) (l2 : Nat) : osM Int32 := osbindC (osrecv [7] l0 (qX9_tell N l0 l1)) (oshand [(1, (1 : Int32)), (0, (2 : Int32))]) fun x1 => osbind (ossJ 2 l2 (0 : Int32) (x1.toInt64)) fun _ => osret (0 : Int32)
set_option maxRecDepth 100000 in
set_option maxHeartbeats 4000000 in
theorem sL_tell_12 (N : Nat) (l0 : Nat) (l1 : Int32) (l2 : Nat) (q : Nat) : osW (osFinM (fun r : Int32 => some (.int r)) 2 12) yL_tell cL_tell 4 (some .int) [(0, 9, 12, 19), (0, 9, 15, 13)] { frames := 8, cells := 2, slots := 12, locals := 189 } 2 12 12 [(0, .ref l0), (1, .int l1), (2, .ref l2)] [.ref q] (osret (1 : Int32)) := by
  refine os_astore_n (i := 3) (q := 3) rfl (lv' := [(3, .ref q), (0, .ref l0), (1, .int l1), (2, .ref l2)]) (Nat.le_of_ble_eq_true rfl) rfl (hL_tell.at 8 rfl rfl) ?_
  refine os_iconst (i := 1) (v := (1 : Int32)) rfl (hL_tell.at 9 rfl rfl) ?_
  exact os_iret (Nat.le_of_ble_eq_true rfl) (Nat.le_of_ble_eq_true rfl) (hL_tell.at 10 rfl rfl).1
set_option maxRecDepth 100000 in
set_option maxHeartbeats 4000000 in
theorem sL_tell_15 (N : Nat) (l0 : Nat) (l1 : Int32) (l2 : Nat) (q : Nat) : osW (osFinM (fun r : Int32 => some (.int r)) 2 12) yL_tell cL_tell 4 (some .int) [(0, 9, 12, 19), (0, 9, 15, 13)] { frames := 8, cells := 2, slots := 12, locals := 189 } 2 12 15 [(0, .ref l0), (1, .int l1), (2, .ref l2)] [.ref q] (osret (2 : Int32)) := by
  refine os_astore_n (i := 3) (q := 3) rfl (lv' := [(3, .ref q), (0, .ref l0), (1, .int l1), (2, .ref l2)]) (Nat.le_of_ble_eq_true rfl) rfl (hL_tell.at 11 rfl rfl) ?_
  refine os_iconst (i := 2) (v := (2 : Int32)) rfl (hL_tell.at 12 rfl rfl) ?_
  exact os_iret (Nat.le_of_ble_eq_true rfl) (Nat.le_of_ble_eq_true rfl) (hL_tell.at 13 rfl rfl).1
set_option maxRecDepth 100000 in
set_option maxHeartbeats 4000000 in
theorem sL_tell (N : Nat) (l0 : Nat) (l1 : Int32) (l2 : Nat) : osMetH yL_tell cL_tell 4 (some .int) [(0, 9, 12, 19), (0, 9, 15, 13)] 8 189 2 12 (fun r : Int32 => some (.int r)) [.ref l0, .int l1, .ref l2] (qL_tell N l0 l1 l2) := by
  refine osMetH.of plL (Nat.le_of_ble_eq_true rfl) (osW.rw (lv2 := [(0, .ref l0), (1, .int l1), (2, .ref l2)]) ?_ rfl rfl rfl)
  unfold qL_tell
  refine os_aload_n (i := 2) (q := 2) (v := l2) 2 rfl rfl (hL_tell.at 0 rfl rfl) ?_
  refine os_iconst (i := 0) (v := (0 : Int32)) rfl (hL_tell.at 1 rfl rfl) ?_
  refine os_aload_n (i := 0) (q := 0) (v := l0) 0 rfl rfl (hL_tell.at 2 rfl rfl) ?_
  refine os_iload_n (i := 1) (q := 1) (v := l1) 1 rfl rfl (hL_tell.at 3 rfl rfl) ?_
  refine os_callVC (cis := [7]) (L := [(1, (0, 9, 12, 19)), (0, (0, 9, 15, 13))]) (h0 := (oshand [(1, (1 : Int32)), (0, (2 : Int32))])) (b := l0) (As := [.int l1]) (st := [.int (0 : Int32), .ref l2]) (st' := (fun r => .int r :: [.int (0 : Int32), .ref l2])) rfl (List.forall_mem_cons.mpr ⟨⟨by decide, by decide, "java/lang/IllegalArgumentException", rfl, wd789, wd800⟩, List.forall_mem_cons.mpr ⟨⟨by decide, by decide, "java/lang/IllegalStateException", rfl, wd709, wd716⟩, fun _ h => absurd h List.not_mem_nil⟩⟩) (oshand_no2 _ rfl) sl7_X9_tell_X9_tell mdX9_tell wd997 wd998 (sX9_tell N l0 l1) rfl rfl (fun _ => rfl) (Nat.le_of_ble_eq_true rfl) (Nat.le_of_ble_eq_true rfl) (Nat.le_of_ble_eq_true rfl) rfl (Nat.le_of_ble_eq_true rfl) rfl (Nat.le_of_ble_eq_true rfl) (hL_tell.at 4 rfl rfl) (fun x1 => ?_) (List.forall_mem_cons.mpr ⟨fun q => osW.toF (F9 := osret (1 : Int32)) rfl (sL_tell_12 N l0 l1 l2 q), List.forall_mem_cons.mpr ⟨fun q => osW.toF (F9 := osret (2 : Int32)) rfl (sL_tell_15 N l0 l1 l2 q), fun _ h => absurd h List.not_mem_nil⟩⟩)
  refine os_i2l (hL_tell.at 5 rfl rfl) ?_
  refine os_lastore (hL_tell.at 6 rfl rfl) ?_
  refine os_goto (off := 9) (tgt := 18) rfl (hL_tell.at 7 rfl rfl) ?_
  refine os_iconst (i := 0) (v := (0 : Int32)) rfl (hL_tell.at 14 rfl rfl) ?_
  exact os_iret (Nat.le_of_ble_eq_true rfl) (Nat.le_of_ble_eq_true rfl) (hL_tell.at 15 rfl rfl).1
-- L_settle
def KL_settle : List (Nat × Nat × Instr) := [(0, 1, .aload_n 1), (1, 1, .iconst 0), (2, 1, .aload_n 0), (3, 3, .invokevirtual 47), (6, 1, .i2l), (7, 1, .lastore), (8, 3, .goto 6), (11, 1, .astore_n 2), (12, 1, .iconst 1), (13, 1, .ireturn), (14, 1, .iconst 0), (15, 1, .ireturn)]
theorem hL_settle : osDs cL_settle KL_settle := by
  show ∀ q ∈ KL_settle, decode cL_settle q.1 = .ok (q.2.2, q.2.1)
  decide +kernel
def qL_settle (N : Nat) (l0 : Nat) (l1 : Nat) : osM Int32 := osbindC (osrecv [7] l0 (qX9_settle N l0)) (oshand [(0, (1 : Int32))]) fun x1 => osbind (ossJ 2 l1 (0 : Int32) (x1.toInt64)) fun _ => osret (0 : Int32)
set_option maxRecDepth 100000 in
set_option maxHeartbeats 4000000 in
theorem sL_settle_11 (N : Nat) (l0 : Nat) (l1 : Nat) (q : Nat) : osW (osFinM (fun r : Int32 => some (.int r)) 1 6) yL_settle cL_settle 3 (some .int) [(0, 8, 11, 13)] { frames := 8, cells := 1, slots := 6, locals := 180 } 1 6 11 [(0, .ref l0), (1, .ref l1)] [.ref q] (osret (1 : Int32)) := by
  refine os_astore_n (i := 2) (q := 2) rfl (lv' := [(2, .ref q), (0, .ref l0), (1, .ref l1)]) (Nat.le_of_ble_eq_true rfl) rfl (hL_settle.at 7 rfl rfl) ?_
  refine os_iconst (i := 1) (v := (1 : Int32)) rfl (hL_settle.at 8 rfl rfl) ?_
  exact os_iret (Nat.le_of_ble_eq_true rfl) (Nat.le_of_ble_eq_true rfl) (hL_settle.at 9 rfl rfl).1
set_option maxRecDepth 100000 in
set_option maxHeartbeats 4000000 in
theorem sL_settle (N : Nat) (l0 : Nat) (l1 : Nat) : osMetH yL_settle cL_settle 3 (some .int) [(0, 8, 11, 13)] 8 180 1 6 (fun r : Int32 => some (.int r)) [.ref l0, .ref l1] (qL_settle N l0 l1) := by
  refine osMetH.of plL (Nat.le_of_ble_eq_true rfl) (osW.rw (lv2 := [(0, .ref l0), (1, .ref l1)]) ?_ rfl rfl rfl)
  unfold qL_settle
  refine os_aload_n (i := 1) (q := 1) (v := l1) 1 rfl rfl (hL_settle.at 0 rfl rfl) ?_
  refine os_iconst (i := 0) (v := (0 : Int32)) rfl (hL_settle.at 1 rfl rfl) ?_
  refine os_aload_n (i := 0) (q := 0) (v := l0) 0 rfl rfl (hL_settle.at 2 rfl rfl) ?_
  refine os_callVC (cis := [7]) (L := [(0, (0, 8, 11, 13))]) (h0 := (oshand [(0, (1 : Int32))])) (b := l0) (As := []) (st := [.int (0 : Int32), .ref l1]) (st' := (fun r => .int r :: [.int (0 : Int32), .ref l1])) rfl (List.forall_mem_cons.mpr ⟨⟨by decide, by decide, "java/lang/IllegalStateException", rfl, wd709, wd716⟩, fun _ h => absurd h List.not_mem_nil⟩) (oshand_no2 _ rfl) sl7_X9_settle_X9_settle mdX9_settle wd1280 wd1281 (sX9_settle N l0 ) rfl rfl (fun _ => rfl) (Nat.le_of_ble_eq_true rfl) (Nat.le_of_ble_eq_true rfl) (Nat.le_of_ble_eq_true rfl) rfl (Nat.le_of_ble_eq_true rfl) rfl (Nat.le_of_ble_eq_true rfl) (hL_settle.at 3 rfl rfl) (fun x1 => ?_) (List.forall_mem_cons.mpr ⟨fun q => osW.toF (F9 := osret (1 : Int32)) rfl (sL_settle_11 N l0 l1 q), fun _ h => absurd h List.not_mem_nil⟩)
  refine os_i2l (hL_settle.at 4 rfl rfl) ?_
  refine os_lastore (hL_settle.at 5 rfl rfl) ?_
  refine os_goto (off := 6) (tgt := 14) rfl (hL_settle.at 6 rfl rfl) ?_
  refine os_iconst (i := 0) (v := (0 : Int32)) rfl (hL_settle.at 10 rfl rfl) ?_
  exact os_iret (Nat.le_of_ble_eq_true rfl) (Nat.le_of_ble_eq_true rfl) (hL_settle.at 11 rfl rfl).1
-- L_foresee
def KL_foresee : List (Nat × Nat × Instr) := [(0, 1, .aload_n 3), (1, 1, .iconst 0), (2, 1, .aload_n 0), (3, 1, .iload_n 1), (4, 1, .iload_n 2), (5, 3, .invokevirtual 74), (8, 1, .i2l), (9, 1, .lastore), (10, 3, .goto 15), (13, 2, .astore 4), (15, 1, .iconst 1), (16, 1, .ireturn), (17, 2, .astore 4), (19, 1, .iconst 2), (20, 1, .ireturn), (21, 2, .astore 4), (23, 1, .iconst 3), (24, 1, .ireturn), (25, 1, .iconst 0), (26, 1, .ireturn)]
theorem hL_foresee : osDs cL_foresee KL_foresee := by
  show ∀ q ∈ KL_foresee, decode cL_foresee q.1 = .ok (q.2.2, q.2.1)
  decide +kernel
def qL_foresee (N : Nat) (l0 : Nat) (l1 : Int32) (l2 : Int32) (l3 : Nat) : osM Int32 := osbindC (osrecv [7] l0 (qX9_foresee N l0 l1 l2)) (oshand [(2, (1 : Int32)), (1, (2 : Int32)), (0, (3 : Int32))]) fun x1 => osbind (ossJ 2 l3 (0 : Int32) (x1.toInt64)) fun _ => osret (0 : Int32)
set_option maxRecDepth 100000 in
set_option maxHeartbeats 4000000 in
theorem sL_foresee_13 (N : Nat) (l0 : Nat) (l1 : Int32) (l2 : Int32) (l3 : Nat) (q : Nat) : osW (osFinM (fun r : Int32 => some (.int r)) 3 18) yL_foresee cL_foresee 5 (some .int) [(0, 10, 13, 28), (0, 10, 17, 19), (0, 10, 21, 13)] { frames := 8, cells := 3, slots := 18, locals := 182 } 3 18 13 [(0, .ref l0), (1, .int l1), (2, .int l2), (3, .ref l3)] [.ref q] (osret (1 : Int32)) := by
  refine os_astore (i := 4) (lv' := [(4, .ref q), (0, .ref l0), (1, .int l1), (2, .int l2), (3, .ref l3)]) (Nat.le_of_ble_eq_true rfl) rfl (hL_foresee.at 9 rfl rfl) ?_
  refine os_iconst (i := 1) (v := (1 : Int32)) rfl (hL_foresee.at 10 rfl rfl) ?_
  exact os_iret (Nat.le_of_ble_eq_true rfl) (Nat.le_of_ble_eq_true rfl) (hL_foresee.at 11 rfl rfl).1
set_option maxRecDepth 100000 in
set_option maxHeartbeats 4000000 in
theorem sL_foresee_17 (N : Nat) (l0 : Nat) (l1 : Int32) (l2 : Int32) (l3 : Nat) (q : Nat) : osW (osFinM (fun r : Int32 => some (.int r)) 3 18) yL_foresee cL_foresee 5 (some .int) [(0, 10, 13, 28), (0, 10, 17, 19), (0, 10, 21, 13)] { frames := 8, cells := 3, slots := 18, locals := 182 } 3 18 17 [(0, .ref l0), (1, .int l1), (2, .int l2), (3, .ref l3)] [.ref q] (osret (2 : Int32)) := by
  refine os_astore (i := 4) (lv' := [(4, .ref q), (0, .ref l0), (1, .int l1), (2, .int l2), (3, .ref l3)]) (Nat.le_of_ble_eq_true rfl) rfl (hL_foresee.at 12 rfl rfl) ?_
  refine os_iconst (i := 2) (v := (2 : Int32)) rfl (hL_foresee.at 13 rfl rfl) ?_
  exact os_iret (Nat.le_of_ble_eq_true rfl) (Nat.le_of_ble_eq_true rfl) (hL_foresee.at 14 rfl rfl).1
set_option maxRecDepth 100000 in
set_option maxHeartbeats 4000000 in
theorem sL_foresee_21 (N : Nat) (l0 : Nat) (l1 : Int32) (l2 : Int32) (l3 : Nat) (q : Nat) : osW (osFinM (fun r : Int32 => some (.int r)) 3 18) yL_foresee cL_foresee 5 (some .int) [(0, 10, 13, 28), (0, 10, 17, 19), (0, 10, 21, 13)] { frames := 8, cells := 3, slots := 18, locals := 182 } 3 18 21 [(0, .ref l0), (1, .int l1), (2, .int l2), (3, .ref l3)] [.ref q] (osret (3 : Int32)) := by
  refine os_astore (i := 4) (lv' := [(4, .ref q), (0, .ref l0), (1, .int l1), (2, .int l2), (3, .ref l3)]) (Nat.le_of_ble_eq_true rfl) rfl (hL_foresee.at 15 rfl rfl) ?_
  refine os_iconst (i := 3) (v := (3 : Int32)) rfl (hL_foresee.at 16 rfl rfl) ?_
  exact os_iret (Nat.le_of_ble_eq_true rfl) (Nat.le_of_ble_eq_true rfl) (hL_foresee.at 17 rfl rfl).1
set_option maxRecDepth 100000 in
set_option maxHeartbeats 4000000 in
theorem sL_foresee (N : Nat) (l0 : Nat) (l1 : Int32) (l2 : Int32) (l3 : Nat) : osMetH yL_foresee cL_foresee 5 (some .int) [(0, 10, 13, 28), (0, 10, 17, 19), (0, 10, 21, 13)] 8 182 3 18 (fun r : Int32 => some (.int r)) [.ref l0, .int l1, .int l2, .ref l3] (qL_foresee N l0 l1 l2 l3) := by
  refine osMetH.of plL (Nat.le_of_ble_eq_true rfl) (osW.rw (lv2 := [(0, .ref l0), (1, .int l1), (2, .int l2), (3, .ref l3)]) ?_ rfl rfl rfl)
  unfold qL_foresee
  refine os_aload_n (i := 3) (q := 3) (v := l3) 3 rfl rfl (hL_foresee.at 0 rfl rfl) ?_
  refine os_iconst (i := 0) (v := (0 : Int32)) rfl (hL_foresee.at 1 rfl rfl) ?_
  refine os_aload_n (i := 0) (q := 0) (v := l0) 0 rfl rfl (hL_foresee.at 2 rfl rfl) ?_
  refine os_iload_n (i := 1) (q := 1) (v := l1) 1 rfl rfl (hL_foresee.at 3 rfl rfl) ?_
  refine os_iload_n (i := 2) (q := 2) (v := l2) 2 rfl rfl (hL_foresee.at 4 rfl rfl) ?_
  refine os_callVC (cis := [7]) (L := [(2, (0, 10, 13, 28)), (1, (0, 10, 17, 19)), (0, (0, 10, 21, 13))]) (h0 := (oshand [(2, (1 : Int32)), (1, (2 : Int32)), (0, (3 : Int32))])) (b := l0) (As := [.int l1, .int l2]) (st := [.int (0 : Int32), .ref l3]) (st' := (fun r => .int r :: [.int (0 : Int32), .ref l3])) rfl (List.forall_mem_cons.mpr ⟨⟨by decide, by decide, "java/util/NoSuchElementException", rfl, wd1164, wd1176⟩, List.forall_mem_cons.mpr ⟨⟨by decide, by decide, "java/lang/IllegalArgumentException", rfl, wd789, wd800⟩, List.forall_mem_cons.mpr ⟨⟨by decide, by decide, "java/lang/IllegalStateException", rfl, wd709, wd716⟩, fun _ h => absurd h List.not_mem_nil⟩⟩⟩) (oshand_no2 _ rfl) sl7_X9_foresee_X9_foresee mdX9_foresee wd1475 wd1476 (sX9_foresee N l0 l1 l2) rfl rfl (fun _ => rfl) (Nat.le_of_ble_eq_true rfl) (Nat.le_of_ble_eq_true rfl) (Nat.le_of_ble_eq_true rfl) rfl (Nat.le_of_ble_eq_true rfl) rfl (Nat.le_of_ble_eq_true rfl) (hL_foresee.at 5 rfl rfl) (fun x1 => ?_) (List.forall_mem_cons.mpr ⟨fun q => osW.toF (F9 := osret (1 : Int32)) rfl (sL_foresee_13 N l0 l1 l2 l3 q), List.forall_mem_cons.mpr ⟨fun q => osW.toF (F9 := osret (2 : Int32)) rfl (sL_foresee_17 N l0 l1 l2 l3 q), List.forall_mem_cons.mpr ⟨fun q => osW.toF (F9 := osret (3 : Int32)) rfl (sL_foresee_21 N l0 l1 l2 l3 q), fun _ h => absurd h List.not_mem_nil⟩⟩⟩)
  refine os_i2l (hL_foresee.at 6 rfl rfl) ?_
  refine os_lastore (hL_foresee.at 7 rfl rfl) ?_
  refine os_goto (off := 15) (tgt := 25) rfl (hL_foresee.at 8 rfl rfl) ?_
  refine os_iconst (i := 0) (v := (0 : Int32)) rfl (hL_foresee.at 18 rfl rfl) ?_
  exact os_iret (Nat.le_of_ble_eq_true rfl) (Nat.le_of_ble_eq_true rfl) (hL_foresee.at 19 rfl rfl).1
-- L_foreseeMove
def KL_foreseeMove : List (Nat × Nat × Instr) := [(0, 1, .aload_n 3), (1, 1, .iconst 0), (2, 1, .aload_n 0), (3, 1, .iload_n 1), (4, 1, .iload_n 2), (5, 3, .invokevirtual 77), (8, 1, .i2l), (9, 1, .lastore), (10, 3, .goto 15), (13, 2, .astore 4), (15, 1, .iconst 1), (16, 1, .ireturn), (17, 2, .astore 4), (19, 1, .iconst 2), (20, 1, .ireturn), (21, 2, .astore 4), (23, 1, .iconst 3), (24, 1, .ireturn), (25, 1, .iconst 0), (26, 1, .ireturn)]
theorem hL_foreseeMove : osDs cL_foreseeMove KL_foreseeMove := by
  show ∀ q ∈ KL_foreseeMove, decode cL_foreseeMove q.1 = .ok (q.2.2, q.2.1)
  decide +kernel
def qL_foreseeMove (N : Nat) (l0 : Nat) (l1 : Int32) (l2 : Int32) (l3 : Nat) : osM Int32 := osbindC (osrecv [7] l0 (qX9_foreseeMove N l0 l1 l2)) (oshand [(2, (1 : Int32)), (1, (2 : Int32)), (0, (3 : Int32))]) fun x1 => osbind (ossJ 2 l3 (0 : Int32) (x1.toInt64)) fun _ => osret (0 : Int32)
set_option maxRecDepth 100000 in
set_option maxHeartbeats 4000000 in
theorem sL_foreseeMove_13 (N : Nat) (l0 : Nat) (l1 : Int32) (l2 : Int32) (l3 : Nat) (q : Nat) : osW (osFinM (fun r : Int32 => some (.int r)) 3 18) yL_foreseeMove cL_foreseeMove 5 (some .int) [(0, 10, 13, 28), (0, 10, 17, 19), (0, 10, 21, 13)] { frames := 8, cells := 3, slots := 18, locals := 182 } 3 18 13 [(0, .ref l0), (1, .int l1), (2, .int l2), (3, .ref l3)] [.ref q] (osret (1 : Int32)) := by
  refine os_astore (i := 4) (lv' := [(4, .ref q), (0, .ref l0), (1, .int l1), (2, .int l2), (3, .ref l3)]) (Nat.le_of_ble_eq_true rfl) rfl (hL_foreseeMove.at 9 rfl rfl) ?_
  refine os_iconst (i := 1) (v := (1 : Int32)) rfl (hL_foreseeMove.at 10 rfl rfl) ?_
  exact os_iret (Nat.le_of_ble_eq_true rfl) (Nat.le_of_ble_eq_true rfl) (hL_foreseeMove.at 11 rfl rfl).1
set_option maxRecDepth 100000 in
set_option maxHeartbeats 4000000 in
theorem sL_foreseeMove_17 (N : Nat) (l0 : Nat) (l1 : Int32) (l2 : Int32) (l3 : Nat) (q : Nat) : osW (osFinM (fun r : Int32 => some (.int r)) 3 18) yL_foreseeMove cL_foreseeMove 5 (some .int) [(0, 10, 13, 28), (0, 10, 17, 19), (0, 10, 21, 13)] { frames := 8, cells := 3, slots := 18, locals := 182 } 3 18 17 [(0, .ref l0), (1, .int l1), (2, .int l2), (3, .ref l3)] [.ref q] (osret (2 : Int32)) := by
  refine os_astore (i := 4) (lv' := [(4, .ref q), (0, .ref l0), (1, .int l1), (2, .int l2), (3, .ref l3)]) (Nat.le_of_ble_eq_true rfl) rfl (hL_foreseeMove.at 12 rfl rfl) ?_
  refine os_iconst (i := 2) (v := (2 : Int32)) rfl (hL_foreseeMove.at 13 rfl rfl) ?_
  exact os_iret (Nat.le_of_ble_eq_true rfl) (Nat.le_of_ble_eq_true rfl) (hL_foreseeMove.at 14 rfl rfl).1
set_option maxRecDepth 100000 in
set_option maxHeartbeats 4000000 in
theorem sL_foreseeMove_21 (N : Nat) (l0 : Nat) (l1 : Int32) (l2 : Int32) (l3 : Nat) (q : Nat) : osW (osFinM (fun r : Int32 => some (.int r)) 3 18) yL_foreseeMove cL_foreseeMove 5 (some .int) [(0, 10, 13, 28), (0, 10, 17, 19), (0, 10, 21, 13)] { frames := 8, cells := 3, slots := 18, locals := 182 } 3 18 21 [(0, .ref l0), (1, .int l1), (2, .int l2), (3, .ref l3)] [.ref q] (osret (3 : Int32)) := by
  refine os_astore (i := 4) (lv' := [(4, .ref q), (0, .ref l0), (1, .int l1), (2, .int l2), (3, .ref l3)]) (Nat.le_of_ble_eq_true rfl) rfl (hL_foreseeMove.at 15 rfl rfl) ?_
  refine os_iconst (i := 3) (v := (3 : Int32)) rfl (hL_foreseeMove.at 16 rfl rfl) ?_
  exact os_iret (Nat.le_of_ble_eq_true rfl) (Nat.le_of_ble_eq_true rfl) (hL_foreseeMove.at 17 rfl rfl).1
set_option maxRecDepth 100000 in
set_option maxHeartbeats 4000000 in
theorem sL_foreseeMove (N : Nat) (l0 : Nat) (l1 : Int32) (l2 : Int32) (l3 : Nat) : osMetH yL_foreseeMove cL_foreseeMove 5 (some .int) [(0, 10, 13, 28), (0, 10, 17, 19), (0, 10, 21, 13)] 8 182 3 18 (fun r : Int32 => some (.int r)) [.ref l0, .int l1, .int l2, .ref l3] (qL_foreseeMove N l0 l1 l2 l3) := by
  refine osMetH.of plL (Nat.le_of_ble_eq_true rfl) (osW.rw (lv2 := [(0, .ref l0), (1, .int l1), (2, .int l2), (3, .ref l3)]) ?_ rfl rfl rfl)
  unfold qL_foreseeMove
  refine os_aload_n (i := 3) (q := 3) (v := l3) 3 rfl rfl (hL_foreseeMove.at 0 rfl rfl) ?_
  refine os_iconst (i := 0) (v := (0 : Int32)) rfl (hL_foreseeMove.at 1 rfl rfl) ?_
  refine os_aload_n (i := 0) (q := 0) (v := l0) 0 rfl rfl (hL_foreseeMove.at 2 rfl rfl) ?_
  refine os_iload_n (i := 1) (q := 1) (v := l1) 1 rfl rfl (hL_foreseeMove.at 3 rfl rfl) ?_
  refine os_iload_n (i := 2) (q := 2) (v := l2) 2 rfl rfl (hL_foreseeMove.at 4 rfl rfl) ?_
  refine os_callVC (cis := [7]) (L := [(2, (0, 10, 13, 28)), (1, (0, 10, 17, 19)), (0, (0, 10, 21, 13))]) (h0 := (oshand [(2, (1 : Int32)), (1, (2 : Int32)), (0, (3 : Int32))])) (b := l0) (As := [.int l1, .int l2]) (st := [.int (0 : Int32), .ref l3]) (st' := (fun r => .int r :: [.int (0 : Int32), .ref l3])) rfl (List.forall_mem_cons.mpr ⟨⟨by decide, by decide, "java/util/NoSuchElementException", rfl, wd1164, wd1176⟩, List.forall_mem_cons.mpr ⟨⟨by decide, by decide, "java/lang/IllegalArgumentException", rfl, wd789, wd800⟩, List.forall_mem_cons.mpr ⟨⟨by decide, by decide, "java/lang/IllegalStateException", rfl, wd709, wd716⟩, fun _ h => absurd h List.not_mem_nil⟩⟩⟩) (oshand_no2 _ rfl) sl7_X9_foreseeMove_X9_foreseeMove mdX9_foreseeMove wd1483 wd1484 (sX9_foreseeMove N l0 l1 l2) rfl rfl (fun _ => rfl) (Nat.le_of_ble_eq_true rfl) (Nat.le_of_ble_eq_true rfl) (Nat.le_of_ble_eq_true rfl) rfl (Nat.le_of_ble_eq_true rfl) rfl (Nat.le_of_ble_eq_true rfl) (hL_foreseeMove.at 5 rfl rfl) (fun x1 => ?_) (List.forall_mem_cons.mpr ⟨fun q => osW.toF (F9 := osret (1 : Int32)) rfl (sL_foreseeMove_13 N l0 l1 l2 l3 q), List.forall_mem_cons.mpr ⟨fun q => osW.toF (F9 := osret (2 : Int32)) rfl (sL_foreseeMove_17 N l0 l1 l2 l3 q), List.forall_mem_cons.mpr ⟨fun q => osW.toF (F9 := osret (3 : Int32)) rfl (sL_foreseeMove_21 N l0 l1 l2 l3 q), fun _ h => absurd h List.not_mem_nil⟩⟩⟩)
  refine os_i2l (hL_foreseeMove.at 6 rfl rfl) ?_
  refine os_lastore (hL_foreseeMove.at 7 rfl rfl) ?_
  refine os_goto (off := 15) (tgt := 25) rfl (hL_foreseeMove.at 8 rfl rfl) ?_
  refine os_iconst (i := 0) (v := (0 : Int32)) rfl (hL_foreseeMove.at 18 rfl rfl) ?_
  exact os_iret (Nat.le_of_ble_eq_true rfl) (Nat.le_of_ble_eq_true rfl) (hL_foreseeMove.at 19 rfl rfl).1
