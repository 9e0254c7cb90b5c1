-- X9_bit
def KX9_bit : List (Nat × Nat × Instr) := [(0, 1, .iload_n 0), (1, 3, .ifCond .ge 7), (4, 1, .iconst 0), (5, 3, .goto 6), (8, 1, .iconst 1), (9, 1, .iload_n 0), (10, 1, .ishl), (11, 1, .ireturn)]
theorem hX9_bit : osDs cX9_bit KX9_bit := by
  show ∀ q ∈ KX9_bit, decode cX9_bit q.1 = .ok (q.2.2, q.2.1)
  decide +kernel
def qX9_bit_11 (N : Nat) (k0 : Int32) : osM Int32 := osret k0
def qX9_bit (N : Nat) (l0 : Int32) : osM Int32 := osite (0 ≤ l0) (qX9_bit_11 N (osshl (1 : Int32) l0)) (qX9_bit_11 N (0 : Int32))
set_option maxRecDepth 100000 in
set_option maxHeartbeats 4000000 in
theorem sX9_bit_11 (N : Nat) (k0 : Int32) : osW (osFinM (fun r : Int32 => some (.int r)) 0 0) yX9_bit cX9_bit 1 (some .int) [] { frames := 0, cells := 0, slots := 0, locals := 0 } 0 0 11 [] [.int k0] (qX9_bit_11 N k0) := by
  unfold qX9_bit_11
  exact os_iret (Nat.le_of_ble_eq_true rfl) (Nat.le_of_ble_eq_true rfl) (hX9_bit.at 7 rfl rfl).1
set_option maxRecDepth 100000 in
set_option maxHeartbeats 4000000 in
theorem sX9_bit (N : Nat) (l0 : Int32) : osMet yX9_bit cX9_bit 1 (some .int) 0 0 0 0 (fun r : Int32 => some (.int r)) [.int l0] (qX9_bit N l0) := by
  refine osMet.of plX9 (Nat.le_of_ble_eq_true rfl) (osW.rw (lv2 := [(0, .int l0)]) ?_ rfl rfl rfl)
  unfold qX9_bit
  refine os_iload_n (i := 0) (q := 0) (v := l0) 0 rfl rfl (hX9_bit.at 0 rfl rfl) ?_
  refine os_if_ge (off := 7) (tgt := 8) rfl (hX9_bit.at 1 rfl rfl) ?_ ?_
  · refine os_iconst (i := 1) (v := (1 : Int32)) rfl (hX9_bit.at 4 rfl rfl) ?_
    refine os_iload_n (i := 0) (q := 0) (v := l0) 0 rfl rfl (hX9_bit.at 5 rfl rfl) ?_
    refine os_ishl (hX9_bit.at 6 rfl rfl) ?_
    exact osW.sub [] rfl (sX9_bit_11 N (osshl (1 : Int32) l0))
  · refine os_iconst (i := 0) (v := (0 : Int32)) rfl (hX9_bit.at 2 rfl rfl) ?_
    refine os_goto (off := 6) (tgt := 11) rfl (hX9_bit.at 3 rfl rfl) ?_
    exact osW.sub [] rfl (sX9_bit_11 N (0 : Int32))
-- X9_has
def KX9_has : List (Nat × Nat × Instr) := [(0, 1, .iload_n 1), (1, 3, .ifCond .lt 15), (4, 1, .iload_n 0), (5, 1, .iload_n 1), (6, 1, .ishr), (7, 1, .iconst 1), (8, 1, .iand), (9, 3, .ifCond .eq 7), (12, 1, .iconst 1), (13, 3, .goto 4), (16, 1, .iconst 0), (17, 1, .ireturn)]
theorem hX9_has : osDs cX9_has KX9_has := by
  show ∀ q ∈ KX9_has, decode cX9_has q.1 = .ok (q.2.2, q.2.1)
  decide +kernel
def qX9_has_17 (N : Nat) (k0 : Int32) : osM Int32 := osretZ k0
def qX9_has_16 (N : Nat) : osM Int32 := qX9_has_17 N (0 : Int32)
def qX9_has (N : Nat) (l0 : Int32) (l1 : Int32) : osM Int32 := osite (l1 < 0) (qX9_has_16 N ) (osite (((osshr l0 l1) &&& (1 : Int32)) = 0) (qX9_has_16 N ) (qX9_has_17 N (1 : Int32)))
set_option maxRecDepth 100000 in
set_option maxHeartbeats 4000000 in
theorem sX9_has_17 (N : Nat) (k0 : Int32) : osW (osFinM (fun r : Int32 => some (.int r)) 0 0) yX9_has cX9_has 2 (some .boolean) [] { frames := 0, cells := 0, slots := 0, locals := 0 } 0 0 17 [] [.int k0] (qX9_has_17 N k0) := by
  unfold qX9_has_17
  exact os_zret (Nat.le_of_ble_eq_true rfl) (Nat.le_of_ble_eq_true rfl) (hX9_has.at 11 rfl rfl).1
set_option maxRecDepth 100000 in
set_option maxHeartbeats 4000000 in
theorem sX9_has_16 (N : Nat) : osW (osFinM (fun r : Int32 => some (.int r)) 0 0) yX9_has cX9_has 2 (some .boolean) [] { frames := 0, cells := 0, slots := 0, locals := 0 } 0 0 16 [] [] (qX9_has_16 N) := by
  unfold qX9_has_16
  refine os_iconst (i := 0) (v := (0 : Int32)) rfl (hX9_has.at 10 rfl rfl) ?_
  exact osW.sub [] rfl (sX9_has_17 N (0 : Int32))
set_option maxRecDepth 100000 in
set_option maxHeartbeats 4000000 in
theorem sX9_has (N : Nat) (l0 : Int32) (l1 : Int32) : osMet yX9_has cX9_has 2 (some .boolean) 0 0 0 0 (fun r : Int32 => some (.int r)) [.int l0, .int l1] (qX9_has N l0 l1) := by
  refine osMet.of plX9 (Nat.le_of_ble_eq_true rfl) (osW.rw (lv2 := [(0, .int l0), (1, .int l1)]) ?_ rfl rfl rfl)
  unfold qX9_has
  refine os_iload_n (i := 1) (q := 1) (v := l1) 1 rfl rfl (hX9_has.at 0 rfl rfl) ?_
  refine os_if_lt (off := 15) (tgt := 16) rfl (hX9_has.at 1 rfl rfl) ?_ ?_
  · exact osW.sub [] rfl (sX9_has_16 N )
  · refine os_iload_n (i := 0) (q := 0) (v := l0) 0 rfl rfl (hX9_has.at 2 rfl rfl) ?_
    refine os_iload_n (i := 1) (q := 1) (v := l1) 1 rfl rfl (hX9_has.at 3 rfl rfl) ?_
    refine os_ishr (hX9_has.at 4 rfl rfl) ?_
    refine os_iconst (i := 1) (v := (1 : Int32)) rfl (hX9_has.at 5 rfl rfl) ?_
    refine os_iand (hX9_has.at 6 rfl rfl) ?_
    refine os_if_eq (off := 7) (tgt := 16) rfl (hX9_has.at 7 rfl rfl) ?_ ?_
    · exact osW.sub [] rfl (sX9_has_16 N )
    · refine os_iconst (i := 1) (v := (1 : Int32)) rfl (hX9_has.at 8 rfl rfl) ?_
      refine os_goto (off := 4) (tgt := 17) rfl (hX9_has.at 9 rfl rfl) ?_
      exact osW.sub [] rfl (sX9_has_17 N (1 : Int32))
-- X9_entry
def KX9_entry : List (Nat × Nat × Instr) := [(0, 1, .iload_n 1), (1, 3, .ifCond .lt 15), (4, 1, .iload_n 1), (5, 1, .aload_n 0), (6, 1, .arraylength), (7, 3, .if_icmp .ge 9), (10, 1, .aload_n 0), (11, 1, .iload_n 1), (12, 1, .iaload), (13, 3, .goto 4), (16, 1, .iconst (-1)), (17, 1, .ireturn)]
theorem hX9_entry : osDs cX9_entry KX9_entry := by
  show ∀ q ∈ KX9_entry, decode cX9_entry q.1 = .ok (q.2.2, q.2.1)
  decide +kernel
def qX9_entry_17 (N : Nat) (k0 : Int32) : osM Int32 := osret k0
def qX9_entry_16 (N : Nat) : osM Int32 := qX9_entry_17 N (-1 : Int32)
def qX9_entry (N : Nat) (l0 : Nat) (l1 : Int32) : osM Int32 := osite (l1 < 0) (qX9_entry_16 N ) (osbind (oslen l0) fun x1 => osite (x1 ≤ l1) (qX9_entry_16 N ) (osbind (osaI 0 l0 l1) fun x2 => qX9_entry_17 N x2))
set_option maxRecDepth 100000 in
set_option maxHeartbeats 4000000 in
theorem sX9_entry_17 (N : Nat) (k0 : Int32) : osW (osFinM (fun r : Int32 => some (.int r)) 0 0) yX9_entry cX9_entry 2 (some .int) [] { frames := 0, cells := 0, slots := 0, locals := 0 } 0 0 17 [] [.int k0] (qX9_entry_17 N k0) := by
  unfold qX9_entry_17
  exact os_iret (Nat.le_of_ble_eq_true rfl) (Nat.le_of_ble_eq_true rfl) (hX9_entry.at 11 rfl rfl).1
set_option maxRecDepth 100000 in
set_option maxHeartbeats 4000000 in
theorem sX9_entry_16 (N : Nat) : osW (osFinM (fun r : Int32 => some (.int r)) 0 0) yX9_entry cX9_entry 2 (some .int) [] { frames := 0, cells := 0, slots := 0, locals := 0 } 0 0 16 [] [] (qX9_entry_16 N) := by
  unfold qX9_entry_16
  refine os_iconst (i := (-1)) (v := (-1 : Int32)) rfl (hX9_entry.at 10 rfl rfl) ?_
  exact osW.sub [] rfl (sX9_entry_17 N (-1 : Int32))
set_option maxRecDepth 100000 in
set_option maxHeartbeats 4000000 in
theorem sX9_entry (N : Nat) (l0 : Nat) (l1 : Int32) : osMet yX9_entry cX9_entry 2 (some .int) 0 0 0 0 (fun r : Int32 => some (.int r)) [.ref l0, .int l1] (qX9_entry N l0 l1) := by
  refine osMet.of plX9 (Nat.le_of_ble_eq_true rfl) (osW.rw (lv2 := [(0, .ref l0), (1, .int l1)]) ?_ rfl rfl rfl)
  unfold qX9_entry
  refine os_iload_n (i := 1) (q := 1) (v := l1) 1 rfl rfl (hX9_entry.at 0 rfl rfl) ?_
  refine os_if_lt (off := 15) (tgt := 16) rfl (hX9_entry.at 1 rfl rfl) ?_ ?_
  · exact osW.sub [] rfl (sX9_entry_16 N )
  · refine os_iload_n (i := 1) (q := 1) (v := l1) 1 rfl rfl (hX9_entry.at 2 rfl rfl) ?_
    refine os_aload_n (i := 0) (q := 0) (v := l0) 0 rfl rfl (hX9_entry.at 3 rfl rfl) ?_
    refine os_arraylength (hX9_entry.at 4 rfl rfl) (fun x1 => ?_)
    refine os_icmp_ge (off := 9) (tgt := 16) rfl (hX9_entry.at 5 rfl rfl) ?_ ?_
    · exact osW.sub [] rfl (sX9_entry_16 N )
    · refine os_aload_n (i := 0) (q := 0) (v := l0) 0 rfl rfl (hX9_entry.at 6 rfl rfl) ?_
      refine os_iload_n (i := 1) (q := 1) (v := l1) 1 rfl rfl (hX9_entry.at 7 rfl rfl) ?_
      refine os_iaload (hX9_entry.at 8 rfl rfl) (fun x2 => ?_)
      refine os_goto (off := 4) (tgt := 17) rfl (hX9_entry.at 9 rfl rfl) ?_
      exact osW.sub [] rfl (sX9_entry_17 N x2)
