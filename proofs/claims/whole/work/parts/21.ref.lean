-- X10_sees
def KX10_sees : List (Nat × Nat × Instr) := [(0, 1, .aload_n 0), (1, 3, .invokevirtual 188), (4, 3, .ifCond .eq 16), (7, 1, .aload_n 0), (8, 3, .getfield 177), (11, 1, .lload_n 1), (12, 1, .lcmp), (13, 3, .ifCond .ne 7), (16, 1, .iconst 1), (17, 3, .goto 4), (20, 1, .iconst 0), (21, 1, .ireturn)]
theorem hX10_sees : osDs cX10_sees KX10_sees := by
  show ∀ q ∈ KX10_sees, decode cX10_sees q.1 = .ok (q.2.2, q.2.1)
  decide +kernel
def qX10_sees_21 (N : Nat) (k0 : Int32) : osM Int32 := osretZ k0
def qX10_sees_20 (N : Nat) : osM Int32 := qX10_sees_21 N (0 : Int32)
def qX10_sees (N : Nat) (l0 : Nat) (l1 : Int64) : osM Int32 := osbind (osrecv [8] l0 (qX10_seesWord N l0)) fun x1 => osite (x1 = 0) (qX10_sees_20 N ) (osbind (osgJ [8] 18 l0) fun x2 => osite ((lg_cmp x2 l1) = 0) (qX10_sees_21 N (1 : Int32)) (qX10_sees_20 N ))
set_option maxRecDepth 100000 in
set_option maxHeartbeats 4000000 in
theorem sX10_sees_21 (N : Nat) (k0 : Int32) : osW (osFinM (fun r : Int32 => some (.int r)) 0 0) yX10_sees cX10_sees 3 (some .boolean) [] { frames := 3, cells := 0, slots := 0, locals := 62 } 0 0 21 [] [.int k0] (qX10_sees_21 N k0) := by
  unfold qX10_sees_21
  exact os_zret (Nat.le_of_ble_eq_true rfl) (Nat.le_of_ble_eq_true rfl) (hX10_sees.at 11 rfl rfl).1
set_option maxRecDepth 100000 in
set_option maxHeartbeats 4000000 in
theorem sX10_sees_20 (N : Nat) : osW (osFinM (fun r : Int32 => some (.int r)) 0 0) yX10_sees cX10_sees 3 (some .boolean) [] { frames := 3, cells := 0, slots := 0, locals := 62 } 0 0 20 [] [] (qX10_sees_20 N) := by
  unfold qX10_sees_20
  refine os_iconst (i := 0) (v := (0 : Int32)) rfl (hX10_sees.at 10 rfl rfl) ?_
  exact osW.sub [] rfl (sX10_sees_21 N (0 : Int32))
set_option maxRecDepth 100000 in
set_option maxHeartbeats 4000000 in
theorem sX10_sees (N : Nat) (l0 : Nat) (l1 : Int64) : osMet yX10_sees cX10_sees 3 (some .boolean) 3 62 0 0 (fun r : Int32 => some (.int r)) [.ref l0, .long l1] (qX10_sees N l0 l1) := by
  refine osMet.of plX10 (Nat.le_of_ble_eq_true rfl) (osW.rw (lv2 := [(0, .ref l0), (1, .long l1)]) ?_ rfl rfl rfl)
  unfold qX10_sees
  refine os_aload_n (i := 0) (q := 0) (v := l0) 0 rfl rfl (hX10_sees.at 0 rfl rfl) ?_
  refine os_callV (cis := [8]) (b := l0) (As := []) (st := []) (st' := (fun r => .int r :: [])) sl8_X10_seesWord_X10_seesWord mdX10_seesWord wd1793 wd1795 (sX10_seesWord N l0 ) rfl rfl (fun _ => rfl) (Nat.le_of_ble_eq_true rfl) (Nat.le_of_ble_eq_true rfl) (Nat.le_of_ble_eq_true rfl) rfl (Nat.le_of_ble_eq_true rfl) rfl (Nat.le_of_ble_eq_true rfl) (hX10_sees.at 1 rfl rfl) (fun x1 => ?_)
  refine os_if_eq (off := 16) (tgt := 20) rfl (hX10_sees.at 2 rfl rfl) ?_ ?_
  · exact osW.sub [] rfl (sX10_sees_20 N )
  · refine os_aload_n (i := 0) (q := 0) (v := l0) 0 rfl rfl (hX10_sees.at 3 rfl rfl) ?_
    refine os_getJ fX10_177 (hX10_sees.at 4 rfl rfl) (fun x2 => ?_)
    refine os_lload_n (i := 1) (q := 1) (v := l1) 1 rfl rfl (hX10_sees.at 5 rfl rfl) ?_
    refine os_lcmp (hX10_sees.at 6 rfl rfl) ?_
    refine os_if_ne (off := 7) (tgt := 20) rfl (hX10_sees.at 7 rfl rfl) ?_ ?_
    · exact osW.sub [] rfl (sX10_sees_20 N )
    · refine os_iconst (i := 1) (v := (1 : Int32)) rfl (hX10_sees.at 8 rfl rfl) ?_
      refine os_goto (off := 4) (tgt := 21) rfl (hX10_sees.at 9 rfl rfl) ?_
      exact osW.sub [] rfl (sX10_sees_21 N (1 : Int32))
-- X10_passes
def KX10_passes : List (Nat × Nat × Instr) := [(0, 1, .aload_n 0), (1, 1, .aload_n 0), (2, 3, .getfield 174), (5, 3, .putfield 158), (8, 1, .iconst 1), (9, 1, .ireturn)]
theorem hX10_passes : osDs cX10_passes KX10_passes := by
  show ∀ q ∈ KX10_passes, decode cX10_passes q.1 = .ok (q.2.2, q.2.1)
  decide +kernel
def qX10_passes (N : Nat) (l0 : Nat) : osM Int32 := osbind (osgI [8] 14 l0) fun x1 => osbind (osput [8] 11 l0 (.int x1)) fun _ => osretZ (1 : Int32)
set_option maxRecDepth 100000 in
set_option maxHeartbeats 4000000 in
theorem sX10_passes (N : Nat) (l0 : Nat) : osMet yX10_passes cX10_passes 1 (some .boolean) 0 0 0 0 (fun r : Int32 => some (.int r)) [.ref l0] (qX10_passes N l0) := by
  refine osMet.of plX10 (Nat.le_of_ble_eq_true rfl) (osW.rw (lv2 := [(0, .ref l0)]) ?_ rfl rfl rfl)
  unfold qX10_passes
  refine os_aload_n (i := 0) (q := 0) (v := l0) 0 rfl rfl (hX10_passes.at 0 rfl rfl) ?_
  refine os_aload_n (i := 0) (q := 0) (v := l0) 0 rfl rfl (hX10_passes.at 1 rfl rfl) ?_
  refine os_getI fX10_174 (hX10_passes.at 2 rfl rfl) (fun x1 => ?_)
  refine os_put fX10_158 rfl rfl (hX10_passes.at 3 rfl rfl) ?_
  refine os_iconst (i := 1) (v := (1 : Int32)) rfl (hX10_passes.at 4 rfl rfl) ?_
  exact os_zret (Nat.le_of_ble_eq_true rfl) (Nat.le_of_ble_eq_true rfl) (hX10_passes.at 5 rfl rfl).1
-- X10_readWord
def KX10_readWord : List (Nat × Nat × Instr) := [(0, 1, .aload_n 0), (1, 3, .invokevirtual 188), (4, 3, .ifCond .eq 10), (7, 1, .aload_n 0), (8, 3, .invokevirtual 192), (11, 3, .goto 12), (14, 1, .aload_n 0), (15, 1, .iconst 1), (16, 1, .aload_n 0), (17, 3, .getfield 164), (20, 3, .invokevirtual 195), (23, 1, .ireturn)]
theorem hX10_readWord : osDs cX10_readWord KX10_readWord := by
  show ∀ q ∈ KX10_readWord, decode cX10_readWord q.1 = .ok (q.2.2, q.2.1)
  decide +kernel
def qX10_readWord_23 (N : Nat) (k0 : Int32) : osM Int32 := osretZ k0
def qX10_readWord (N : Nat) (l0 : Nat) : osM Int32 := osbind (osrecv [8] l0 (qX10_seesWord N l0)) fun x1 => osite (x1 = 0) (osbind (osgI [8] 13 l0) fun x2 => osbind (osrecv [8] l0 (qX10_fails N l0 (1 : Int32) x2)) fun x3 => qX10_readWord_23 N x3) (osbind (osrecv [8] l0 (qX10_passes N l0)) fun x4 => qX10_readWord_23 N x4)
set_option maxRecDepth 100000 in
set_option maxHeartbeats 4000000 in
theorem sX10_readWord_23 (N : Nat) (k0 : Int32) : osW (osFinM (fun r : Int32 => some (.int r)) 0 0) yX10_readWord cX10_readWord 1 (some .boolean) [] { frames := 3, cells := 0, slots := 0, locals := 62 } 0 0 23 [] [.int k0] (qX10_readWord_23 N k0) := by
  unfold qX10_readWord_23
  exact os_zret (Nat.le_of_ble_eq_true rfl) (Nat.le_of_ble_eq_true rfl) (hX10_readWord.at 11 rfl rfl).1
set_option maxRecDepth 100000 in
set_option maxHeartbeats 4000000 in
theorem sX10_readWord (N : Nat) (l0 : Nat) : osMet yX10_readWord cX10_readWord 1 (some .boolean) 3 62 0 0 (fun r : Int32 => some (.int r)) [.ref l0] (qX10_readWord N l0) := by
  refine osMet.of plX10 (Nat.le_of_ble_eq_true rfl) (osW.rw (lv2 := [(0, .ref l0)]) ?_ rfl rfl rfl)
  unfold qX10_readWord
  refine os_aload_n (i := 0) (q := 0) (v := l0) 0 rfl rfl (hX10_readWord.at 0 rfl rfl) ?_
  refine os_callV (cis := [8]) (b := l0) (As := []) (st := []) (st' := (fun r => .int r :: [])) sl8_X10_seesWord_X10_seesWord mdX10_seesWord wd1793 wd1795 (sX10_seesWord N l0 ) rfl rfl (fun _ => rfl) (Nat.le_of_ble_eq_true rfl) (Nat.le_of_ble_eq_true rfl) (Nat.le_of_ble_eq_true rfl) rfl (Nat.le_of_ble_eq_true rfl) rfl (Nat.le_of_ble_eq_true rfl) (hX10_readWord.at 1 rfl rfl) (fun x1 => ?_)
  refine os_if_eq (off := 10) (tgt := 14) rfl (hX10_readWord.at 2 rfl rfl) ?_ ?_
  · refine os_aload_n (i := 0) (q := 0) (v := l0) 0 rfl rfl (hX10_readWord.at 6 rfl rfl) ?_
    refine os_iconst (i := 1) (v := (1 : Int32)) rfl (hX10_readWord.at 7 rfl rfl) ?_
    refine os_aload_n (i := 0) (q := 0) (v := l0) 0 rfl rfl (hX10_readWord.at 8 rfl rfl) ?_
    refine os_getI fX10_164 (hX10_readWord.at 9 rfl rfl) (fun x2 => ?_)
    refine os_callV (cis := [8]) (b := l0) (As := [.int (1 : Int32), .int x2]) (st := []) (st' := (fun r => .int r :: [])) sl8_X10_fails_X10_fails mdX10_fails wd1806 wd1808 (sX10_fails N l0 (1 : Int32) x2) rfl rfl (fun _ => rfl) (Nat.le_of_ble_eq_true rfl) (Nat.le_of_ble_eq_true rfl) (Nat.le_of_ble_eq_true rfl) rfl (Nat.le_of_ble_eq_true rfl) rfl (Nat.le_of_ble_eq_true rfl) (hX10_readWord.at 10 rfl rfl) (fun x3 => ?_)
    exact osW.sub [] rfl (sX10_readWord_23 N x3)
  · refine os_aload_n (i := 0) (q := 0) (v := l0) 0 rfl rfl (hX10_readWord.at 3 rfl rfl) ?_
    refine os_callV (cis := [8]) (b := l0) (As := []) (st := []) (st' := (fun r => .int r :: [])) sl8_X10_passes_X10_passes mdX10_passes wd1802 wd1804 (sX10_passes N l0 ) rfl rfl (fun _ => rfl) (Nat.le_of_ble_eq_true rfl) (Nat.le_of_ble_eq_true rfl) (Nat.le_of_ble_eq_true rfl) rfl (Nat.le_of_ble_eq_true rfl) rfl (Nat.le_of_ble_eq_true rfl) (hX10_readWord.at 4 rfl rfl) (fun x4 => ?_)
    refine os_goto (off := 12) (tgt := 23) rfl (hX10_readWord.at 5 rfl rfl) ?_
    exact osW.sub [] rfl (sX10_readWord_23 N x4)
-- X10_takesWord
def KX10_takesWord : List (Nat × Nat × Instr) := [(0, 1, .aload_n 0), (1, 1, .lload_n 1), (2, 3, .invokevirtual 198), (5, 3, .ifCond .eq 10), (8, 1, .aload_n 0), (9, 3, .invokevirtual 192), (12, 3, .goto 12), (15, 1, .aload_n 0), (16, 1, .iconst 1), (17, 1, .aload_n 0), (18, 3, .getfield 164), (21, 3, .invokevirtual 195), (24, 1, .ireturn)]
theorem hX10_takesWord : osDs cX10_takesWord KX10_takesWord := by
  show ∀ q ∈ KX10_takesWord, decode cX10_takesWord q.1 = .ok (q.2.2, q.2.1)
  decide +kernel
def qX10_takesWord_24 (N : Nat) (k0 : Int32) : osM Int32 := osretZ k0
def qX10_takesWord (N : Nat) (l0 : Nat) (l1 : Int64) : osM Int32 := osbind (osrecv [8] l0 (qX10_sees N l0 l1)) fun x1 => osite (x1 = 0) (osbind (osgI [8] 13 l0) fun x2 => osbind (osrecv [8] l0 (qX10_fails N l0 (1 : Int32) x2)) fun x3 => qX10_takesWord_24 N x3) (osbind (osrecv [8] l0 (qX10_passes N l0)) fun x4 => qX10_takesWord_24 N x4)
set_option maxRecDepth 100000 in
set_option maxHeartbeats 4000000 in
theorem sX10_takesWord_24 (N : Nat) (k0 : Int32) : osW (osFinM (fun r : Int32 => some (.int r)) 0 0) yX10_takesWord cX10_takesWord 3 (some .boolean) [] { frames := 4, cells := 0, slots := 0, locals := 84 } 0 0 24 [] [.int k0] (qX10_takesWord_24 N k0) := by
  unfold qX10_takesWord_24
  exact os_zret (Nat.le_of_ble_eq_true rfl) (Nat.le_of_ble_eq_true rfl) (hX10_takesWord.at 12 rfl rfl).1
set_option maxRecDepth 100000 in
set_option maxHeartbeats 4000000 in
theorem sX10_takesWord (N : Nat) (l0 : Nat) (l1 : Int64) : osMet yX10_takesWord cX10_takesWord 3 (some .boolean) 4 84 0 0 (fun r : Int32 => some (.int r)) [.ref l0, .long l1] (qX10_takesWord N l0 l1) := by
  refine osMet.of plX10 (Nat.le_of_ble_eq_true rfl) (osW.rw (lv2 := [(0, .ref l0), (1, .long l1)]) ?_ rfl rfl rfl)
  unfold qX10_takesWord
  refine os_aload_n (i := 0) (q := 0) (v := l0) 0 rfl rfl (hX10_takesWord.at 0 rfl rfl) ?_
  refine os_lload_n (i := 1) (q := 1) (v := l1) 1 rfl rfl (hX10_takesWord.at 1 rfl rfl) ?_
  refine os_callV (cis := [8]) (b := l0) (As := [.long l1]) (st := []) (st' := (fun r => .int r :: [])) sl8_X10_sees_X10_sees mdX10_sees wd1844 wd1846 (sX10_sees N l0 l1) rfl rfl (fun _ => rfl) (Nat.le_of_ble_eq_true rfl) (Nat.le_of_ble_eq_true rfl) (Nat.le_of_ble_eq_true rfl) rfl (Nat.le_of_ble_eq_true rfl) rfl (Nat.le_of_ble_eq_true rfl) (hX10_takesWord.at 2 rfl rfl) (fun x1 => ?_)
  refine os_if_eq (off := 10) (tgt := 15) rfl (hX10_takesWord.at 3 rfl rfl) ?_ ?_
  · refine os_aload_n (i := 0) (q := 0) (v := l0) 0 rfl rfl (hX10_takesWord.at 7 rfl rfl) ?_
    refine os_iconst (i := 1) (v := (1 : Int32)) rfl (hX10_takesWord.at 8 rfl rfl) ?_
    refine os_aload_n (i := 0) (q := 0) (v := l0) 0 rfl rfl (hX10_takesWord.at 9 rfl rfl) ?_
    refine os_getI fX10_164 (hX10_takesWord.at 10 rfl rfl) (fun x2 => ?_)
    refine os_callV (cis := [8]) (b := l0) (As := [.int (1 : Int32), .int x2]) (st := []) (st' := (fun r => .int r :: [])) sl8_X10_fails_X10_fails mdX10_fails wd1806 wd1808 (sX10_fails N l0 (1 : Int32) x2) rfl rfl (fun _ => rfl) (Nat.le_of_ble_eq_true rfl) (Nat.le_of_ble_eq_true rfl) (Nat.le_of_ble_eq_true rfl) rfl (Nat.le_of_ble_eq_true rfl) rfl (Nat.le_of_ble_eq_true rfl) (hX10_takesWord.at 11 rfl rfl) (fun x3 => ?_)
    exact osW.sub [] rfl (sX10_takesWord_24 N x3)
  · refine os_aload_n (i := 0) (q := 0) (v := l0) 0 rfl rfl (hX10_takesWord.at 4 rfl rfl) ?_
    refine os_callV (cis := [8]) (b := l0) (As := []) (st := []) (st' := (fun r => .int r :: [])) sl8_X10_passes_X10_passes mdX10_passes wd1802 wd1804 (sX10_passes N l0 ) rfl rfl (fun _ => rfl) (Nat.le_of_ble_eq_true rfl) (Nat.le_of_ble_eq_true rfl) (Nat.le_of_ble_eq_true rfl) rfl (Nat.le_of_ble_eq_true rfl) rfl (Nat.le_of_ble_eq_true rfl) (hX10_takesWord.at 5 rfl rfl) (fun x4 => ?_)
    refine os_goto (off := 12) (tgt := 24) rfl (hX10_takesWord.at 6 rfl rfl) ?_
    exact osW.sub [] rfl (sX10_takesWord_24 N x4)
-- X10_takesIf
def KX10_takesIf : List (Nat × Nat × Instr) := [(0, 1, .aload_n 0), (1, 1, .lload_n 1), (2, 3, .invokevirtual 198), (5, 3, .ifCond .eq 14), (8, 1, .aload_n 0), (9, 3, .invokevirtual 192), (12, 3, .ifCond .eq 7), (15, 1, .iconst 1), (16, 3, .goto 4), (19, 1, .iconst 0), (20, 1, .ireturn)]
theorem hX10_takesIf : osDs cX10_takesIf KX10_takesIf := by
  show ∀ q ∈ KX10_takesIf, decode cX10_takesIf q.1 = .ok (q.2.2, q.2.1)
  decide +kernel
def qX10_takesIf_20 (N : Nat) (k0 : Int32) : osM Int32 := osretZ k0
def qX10_takesIf_19 (N : Nat) : osM Int32 := qX10_takesIf_20 N (0 : Int32)
def qX10_takesIf (N : Nat) (l0 : Nat) (l1 : Int64) : osM Int32 := osbind (osrecv [8] l0 (qX10_sees N l0 l1)) fun x1 => osite (x1 = 0) (qX10_takesIf_19 N ) (osbind (osrecv [8] l0 (qX10_passes N l0)) fun x2 => osite (x2 = 0) (qX10_takesIf_19 N ) (qX10_takesIf_20 N (1 : Int32)))
set_option maxRecDepth 100000 in
set_option maxHeartbeats 4000000 in
theorem sX10_takesIf_20 (N : Nat) (k0 : Int32) : osW (osFinM (fun r : Int32 => some (.int r)) 0 0) yX10_takesIf cX10_takesIf 3 (some .boolean) [] { frames := 4, cells := 0, slots := 0, locals := 84 } 0 0 20 [] [.int k0] (qX10_takesIf_20 N k0) := by
  unfold qX10_takesIf_20
  exact os_zret (Nat.le_of_ble_eq_true rfl) (Nat.le_of_ble_eq_true rfl) (hX10_takesIf.at 10 rfl rfl).1
set_option maxRecDepth 100000 in
set_option maxHeartbeats 4000000 in
theorem sX10_takesIf_19 (N : Nat) : osW (osFinM (fun r : Int32 => some (.int r)) 0 0) yX10_takesIf cX10_takesIf 3 (some .boolean) [] { frames := 4, cells := 0, slots := 0, locals := 84 } 0 0 19 [] [] (qX10_takesIf_19 N) := by
  unfold qX10_takesIf_19
  refine os_iconst (i := 0) (v := (0 : Int32)) rfl (hX10_takesIf.at 9 rfl rfl) ?_
  exact osW.sub [] rfl (sX10_takesIf_20 N (0 : Int32))
set_option maxRecDepth 100000 in
set_option maxHeartbeats 4000000 in
theorem sX10_takesIf (N : Nat) (l0 : Nat) (l1 : Int64) : osMet yX10_takesIf cX10_takesIf 3 (some .boolean) 4 84 0 0 (fun r : Int32 => some (.int r)) [.ref l0, .long l1] (qX10_takesIf N l0 l1) := by
  refine osMet.of plX10 (Nat.le_of_ble_eq_true rfl) (osW.rw (lv2 := [(0, .ref l0), (1, .long l1)]) ?_ rfl rfl rfl)
  unfold qX10_takesIf
  refine os_aload_n (i := 0) (q := 0) (v := l0) 0 rfl rfl (hX10_takesIf.at 0 rfl rfl) ?_
  refine os_lload_n (i := 1) (q := 1) (v := l1) 1 rfl rfl (hX10_takesIf.at 1 rfl rfl) ?_
  refine os_callV (cis := [8]) (b := l0) (As := [.long l1]) (st := []) (st' := (fun r => .int r :: [])) sl8_X10_sees_X10_sees mdX10_sees wd1844 wd1846 (sX10_sees N l0 l1) rfl rfl (fun _ => rfl) (Nat.le_of_ble_eq_true rfl) (Nat.le_of_ble_eq_true rfl) (Nat.le_of_ble_eq_true rfl) rfl (Nat.le_of_ble_eq_true rfl) rfl (Nat.le_of_ble_eq_true rfl) (hX10_takesIf.at 2 rfl rfl) (fun x1 => ?_)
  refine os_if_eq (off := 14) (tgt := 19) rfl (hX10_takesIf.at 3 rfl rfl) ?_ ?_
  · exact osW.sub [] rfl (sX10_takesIf_19 N )
  · refine os_aload_n (i := 0) (q := 0) (v := l0) 0 rfl rfl (hX10_takesIf.at 4 rfl rfl) ?_
    refine os_callV (cis := [8]) (b := l0) (As := []) (st := []) (st' := (fun r => .int r :: [])) sl8_X10_passes_X10_passes mdX10_passes wd1802 wd1804 (sX10_passes N l0 ) rfl rfl (fun _ => rfl) (Nat.le_of_ble_eq_true rfl) (Nat.le_of_ble_eq_true rfl) (Nat.le_of_ble_eq_true rfl) rfl (Nat.le_of_ble_eq_true rfl) rfl (Nat.le_of_ble_eq_true rfl) (hX10_takesIf.at 5 rfl rfl) (fun x2 => ?_)
    refine os_if_eq (off := 7) (tgt := 19) rfl (hX10_takesIf.at 6 rfl rfl) ?_ ?_
    · exact osW.sub [] rfl (sX10_takesIf_19 N )
    · refine os_iconst (i := 1) (v := (1 : Int32)) rfl (hX10_takesIf.at 7 rfl rfl) ?_
      refine os_goto (off := 4) (tgt := 20) rfl (hX10_takesIf.at 8 rfl rfl) ?_
      exact osW.sub [] rfl (sX10_takesIf_20 N (1 : Int32))
-- X10_isKeyword
def KX10_isKeyword : List (Nat × Nat × Instr) := [(0, 1, .aload_n 0), (1, 3, .getfield 177), (4, 3, .ldc2_w 202), (7, 1, .lcmp), (8, 3, .ifCond .eq 80), (11, 1, .aload_n 0), (12, 3, .getfield 177), (15, 3, .ldc2_w 204), (18, 1, .lcmp), (19, 3, .ifCond .eq 69), (22, 1, .aload_n 0), (23, 3, .getfield 177), (26, 3, .ldc2_w 206), (29, 1, .lcmp), (30, 3, .ifCond .eq 58), (33, 1, .aload_n 0), (34, 3, .getfield 177), (37, 3, .ldc2_w 208), (40, 1, .lcmp), (41, 3, .ifCond .eq 47), (44, 1, .aload_n 0), (45, 3, .getfield 177), (48, 3, .ldc2_w 210), (51, 1, .lcmp), (52, 3, .ifCond .eq 36), (55, 1, .aload_n 0), (56, 3, .getfield 177), (59, 3, .ldc2_w 212), (62, 1, .lcmp), (63, 3, .ifCond .eq 25), (66, 1, .aload_n 0), (67, 3, .getfield 177), (70, 3, .ldc2_w 214), (73, 1, .lcmp), (74, 3, .ifCond .eq 14), (77, 1, .aload_n 0), (78, 3, .getfield 177), (81, 3, .ldc2_w 216), (84, 1, .lcmp), (85, 3, .ifCond .ne 7), (88, 1, .iconst 1), (89, 3, .goto 4), (92, 1, .iconst 0), (93, 1, .istore_n 1), (94, 1, .iload_n 1), (95, 3, .ifCond .ne 80), (98, 1, .aload_n 0), (99, 3, .getfield 177), (102, 3, .ldc2_w 218), (105, 1, .lcmp), (106, 3, .ifCond .eq 69), (109, 1, .aload_n 0), (110, 3, .getfield 177), (113, 3, .ldc2_w 220), (116, 1, .lcmp), (117, 3, .ifCond .eq 58), (120, 1, .aload_n 0), (121, 3, .getfield 177), (124, 3, .ldc2_w 222), (127, 1, .lcmp), (128, 3, .ifCond .eq 47), (131, 1, .aload_n 0), (132, 3, .getfield 177), (135, 3, .ldc2_w 224), (138, 1, .lcmp), (139, 3, .ifCond .eq 36), (142, 1, .aload_n 0), (143, 3, .getfield 177), (146, 3, .ldc2_w 226), (149, 1, .lcmp), (150, 3, .ifCond .eq 25), (153, 1, .aload_n 0), (154, 3, .getfield 177), (157, 3, .ldc2_w 228), (160, 1, .lcmp), (161, 3, .ifCond .eq 14), (164, 1, .aload_n 0), (165, 3, .getfield 177), (168, 3, .ldc2_w 230), (171, 1, .lcmp), (172, 3, .ifCond .ne 7), (175, 1, .iconst 1), (176, 3, .goto 4), (179, 1, .iconst 0), (180, 1, .ireturn)]
theorem hX10_isKeyword : osDs cX10_isKeyword KX10_isKeyword := by
  show ∀ q ∈ KX10_isKeyword, decode cX10_isKeyword q.1 = .ok (q.2.2, q.2.1)
  decide +kernel
def qX10_isKeyword_180 (N : Nat) (k0 : Int32) : osM Int32 := osretZ k0
def qX10_isKeyword_175 (N : Nat) : osM Int32 := qX10_isKeyword_180 N (1 : Int32)
def qX10_isKeyword_93 (N : Nat) (l0 : Nat) (k0 : Int32) : osM Int32 := osite (k0 = 0) (osbind (osgJ [8] 18 l0) fun x1 => osite ((lg_cmp x1 (277892 : Int64)) = 0) (qX10_isKeyword_175 N ) (osbind (osgJ [8] 18 l0) fun x2 => osite ((lg_cmp x2 (655 : Int64)) = 0) (qX10_isKeyword_175 N ) (osbind (osgJ [8] 18 l0) fun x3 => osite ((lg_cmp x3 (21123055188 : Int64)) = 0) (qX10_isKeyword_175 N ) (osbind (osgJ [8] 18 l0) fun x4 => osite ((lg_cmp x4 (116873721 : Int64)) = 0) (qX10_isKeyword_175 N ) (osbind (osgJ [8] 18 l0) fun x5 => osite ((lg_cmp x5 (4616947140 : Int64)) = 0) (qX10_isKeyword_175 N ) (osbind (osgJ [8] 18 l0) fun x6 => osite ((lg_cmp x6 (2794884 : Int64)) = 0) (qX10_isKeyword_175 N ) (osbind (osgJ [8] 18 l0) fun x7 => osite ((lg_cmp x7 (609664709 : Int64)) = 0) (qX10_isKeyword_175 N ) (qX10_isKeyword_180 N (0 : Int32))))))))) (qX10_isKeyword_175 N )
def qX10_isKeyword_88 (N : Nat) (l0 : Nat) : osM Int32 := qX10_isKeyword_93 N l0 (1 : Int32)
def qX10_isKeyword (N : Nat) (l0 : Nat) : osM Int32 := osbind (osgJ [8] 18 l0) fun x1 => osite ((lg_cmp x1 (394692 : Int64)) = 0) (qX10_isKeyword_88 N l0) (osbind (osgJ [8] 18 l0) fun x2 => osite ((lg_cmp x2 (3638900 : Int64)) = 0) (qX10_isKeyword_88 N l0) (osbind (osgJ [8] 18 l0) fun x3 => osite ((lg_cmp x3 (19617 : Int64)) = 0) (qX10_isKeyword_88 N l0) (osbind (osgJ [8] 18 l0) fun x4 => osite ((lg_cmp x4 (106385586 : Int64)) = 0) (qX10_isKeyword_88 N l0) (osbind (osgJ [8] 18 l0) fun x5 => osite ((lg_cmp x5 (83431602 : Int64)) = 0) (qX10_isKeyword_88 N l0) (osbind (osgJ [8] 18 l0) fun x6 => osite ((lg_cmp x6 (51641 : Int64)) = 0) (qX10_isKeyword_88 N l0) (osbind (osgJ [8] 18 l0) fun x7 => osite ((lg_cmp x7 (6689972 : Int64)) = 0) (qX10_isKeyword_88 N l0) (osbind (osgJ [8] 18 l0) fun x8 => osite ((lg_cmp x8 (17292466 : Int64)) = 0) (qX10_isKeyword_88 N l0) (qX10_isKeyword_93 N l0 (0 : Int32)))))))))
set_option maxRecDepth 100000 in
set_option maxHeartbeats 4000000 in
theorem sX10_isKeyword_180 (N : Nat) (k0 : Int32) : osW (osFinM (fun r : Int32 => some (.int r)) 0 0) yX10_isKeyword cX10_isKeyword 2 (some .boolean) [] { frames := 0, cells := 0, slots := 0, locals := 0 } 0 0 180 [] [.int k0] (qX10_isKeyword_180 N k0) := by
  unfold qX10_isKeyword_180
  exact os_zret (Nat.le_of_ble_eq_true rfl) (Nat.le_of_ble_eq_true rfl) (hX10_isKeyword.at 84 rfl rfl).1
set_option maxRecDepth 100000 in
set_option maxHeartbeats 4000000 in
theorem sX10_isKeyword_175 (N : Nat) : osW (osFinM (fun r : Int32 => some (.int r)) 0 0) yX10_isKeyword cX10_isKeyword 2 (some .boolean) [] { frames := 0, cells := 0, slots := 0, locals := 0 } 0 0 175 [] [] (qX10_isKeyword_175 N) := by
  unfold qX10_isKeyword_175
  refine os_iconst (i := 1) (v := (1 : Int32)) rfl (hX10_isKeyword.at 81 rfl rfl) ?_
  refine os_goto (off := 4) (tgt := 180) rfl (hX10_isKeyword.at 82 rfl rfl) ?_
  exact osW.sub [] rfl (sX10_isKeyword_180 N (1 : Int32))
set_option maxRecDepth 100000 in
set_option maxHeartbeats 4000000 in
theorem sX10_isKeyword_93 (N : Nat) (l0 : Nat) (k0 : Int32) : osW (osFinM (fun r : Int32 => some (.int r)) 0 0) yX10_isKeyword cX10_isKeyword 2 (some .boolean) [] { frames := 0, cells := 0, slots := 0, locals := 0 } 0 0 93 [(0, .ref l0)] [.int k0] (qX10_isKeyword_93 N l0 k0) := by
  unfold qX10_isKeyword_93
  refine os_istore_n (i := 1) (q := 1) rfl (lv' := [(1, .int k0), (0, .ref l0)]) (Nat.le_of_ble_eq_true rfl) rfl (hX10_isKeyword.at 43 rfl rfl) ?_
  refine os_iload_n (i := 1) (q := 1) (v := k0) 0 rfl rfl (hX10_isKeyword.at 44 rfl rfl) ?_
  refine os_if_ne (off := 80) (tgt := 175) rfl (hX10_isKeyword.at 45 rfl rfl) ?_ ?_
  · exact osW.sub [] rfl (sX10_isKeyword_175 N )
  · refine os_aload_n (i := 0) (q := 0) (v := l0) 1 rfl rfl (hX10_isKeyword.at 46 rfl rfl) ?_
    refine os_getJ fX10_177 (hX10_isKeyword.at 47 rfl rfl) (fun x1 => ?_)
    refine os_ldc2 (v := (277892 : Int64)) wd1830 (hX10_isKeyword.at 48 rfl rfl) ?_
    refine os_lcmp (hX10_isKeyword.at 49 rfl rfl) ?_
    refine os_if_eq (off := 69) (tgt := 175) rfl (hX10_isKeyword.at 50 rfl rfl) ?_ ?_
    · exact osW.sub [] rfl (sX10_isKeyword_175 N )
    · refine os_aload_n (i := 0) (q := 0) (v := l0) 1 rfl rfl (hX10_isKeyword.at 51 rfl rfl) ?_
      refine os_getJ fX10_177 (hX10_isKeyword.at 52 rfl rfl) (fun x2 => ?_)
      refine os_ldc2 (v := (655 : Int64)) wd1831 (hX10_isKeyword.at 53 rfl rfl) ?_
      refine os_lcmp (hX10_isKeyword.at 54 rfl rfl) ?_
      refine os_if_eq (off := 58) (tgt := 175) rfl (hX10_isKeyword.at 55 rfl rfl) ?_ ?_
      · exact osW.sub [] rfl (sX10_isKeyword_175 N )
      · refine os_aload_n (i := 0) (q := 0) (v := l0) 1 rfl rfl (hX10_isKeyword.at 56 rfl rfl) ?_
        refine os_getJ fX10_177 (hX10_isKeyword.at 57 rfl rfl) (fun x3 => ?_)
        refine os_ldc2 (v := (21123055188 : Int64)) wd1832 (hX10_isKeyword.at 58 rfl rfl) ?_
        refine os_lcmp (hX10_isKeyword.at 59 rfl rfl) ?_
        refine os_if_eq (off := 47) (tgt := 175) rfl (hX10_isKeyword.at 60 rfl rfl) ?_ ?_
        · exact osW.sub [] rfl (sX10_isKeyword_175 N )
        · refine os_aload_n (i := 0) (q := 0) (v := l0) 1 rfl rfl (hX10_isKeyword.at 61 rfl rfl) ?_
          refine os_getJ fX10_177 (hX10_isKeyword.at 62 rfl rfl) (fun x4 => ?_)
          refine os_ldc2 (v := (116873721 : Int64)) wd1833 (hX10_isKeyword.at 63 rfl rfl) ?_
          refine os_lcmp (hX10_isKeyword.at 64 rfl rfl) ?_
          refine os_if_eq (off := 36) (tgt := 175) rfl (hX10_isKeyword.at 65 rfl rfl) ?_ ?_
          · exact osW.sub [] rfl (sX10_isKeyword_175 N )
          · refine os_aload_n (i := 0) (q := 0) (v := l0) 1 rfl rfl (hX10_isKeyword.at 66 rfl rfl) ?_
            refine os_getJ fX10_177 (hX10_isKeyword.at 67 rfl rfl) (fun x5 => ?_)
            refine os_ldc2 (v := (4616947140 : Int64)) wd1834 (hX10_isKeyword.at 68 rfl rfl) ?_
            refine os_lcmp (hX10_isKeyword.at 69 rfl rfl) ?_
            refine os_if_eq (off := 25) (tgt := 175) rfl (hX10_isKeyword.at 70 rfl rfl) ?_ ?_
            · exact osW.sub [] rfl (sX10_isKeyword_175 N )
            · refine os_aload_n (i := 0) (q := 0) (v := l0) 1 rfl rfl (hX10_isKeyword.at 71 rfl rfl) ?_
              refine os_getJ fX10_177 (hX10_isKeyword.at 72 rfl rfl) (fun x6 => ?_)
              refine os_ldc2 (v := (2794884 : Int64)) wd1835 (hX10_isKeyword.at 73 rfl rfl) ?_
              refine os_lcmp (hX10_isKeyword.at 74 rfl rfl) ?_
              refine os_if_eq (off := 14) (tgt := 175) rfl (hX10_isKeyword.at 75 rfl rfl) ?_ ?_
              · exact osW.sub [] rfl (sX10_isKeyword_175 N )
              · refine os_aload_n (i := 0) (q := 0) (v := l0) 1 rfl rfl (hX10_isKeyword.at 76 rfl rfl) ?_
                refine os_getJ fX10_177 (hX10_isKeyword.at 77 rfl rfl) (fun x7 => ?_)
                refine os_ldc2 (v := (609664709 : Int64)) wd1836 (hX10_isKeyword.at 78 rfl rfl) ?_
                refine os_lcmp (hX10_isKeyword.at 79 rfl rfl) ?_
                refine os_if_ne (off := 7) (tgt := 179) rfl (hX10_isKeyword.at 80 rfl rfl) ?_ ?_
                · refine os_iconst (i := 0) (v := (0 : Int32)) rfl (hX10_isKeyword.at 83 rfl rfl) ?_
                  exact osW.sub [] rfl (sX10_isKeyword_180 N (0 : Int32))
                · exact osW.sub [] rfl (sX10_isKeyword_175 N )
set_option maxRecDepth 100000 in
set_option maxHeartbeats 4000000 in
theorem sX10_isKeyword_88 (N : Nat) (l0 : Nat) : osW (osFinM (fun r : Int32 => some (.int r)) 0 0) yX10_isKeyword cX10_isKeyword 2 (some .boolean) [] { frames := 0, cells := 0, slots := 0, locals := 0 } 0 0 88 [(0, .ref l0)] [] (qX10_isKeyword_88 N l0) := by
  unfold qX10_isKeyword_88
  refine os_iconst (i := 1) (v := (1 : Int32)) rfl (hX10_isKeyword.at 40 rfl rfl) ?_
  refine os_goto (off := 4) (tgt := 93) rfl (hX10_isKeyword.at 41 rfl rfl) ?_
  exact osW.sub [0] rfl (sX10_isKeyword_93 N l0 (1 : Int32))
set_option maxRecDepth 100000 in
set_option maxHeartbeats 4000000 in
theorem sX10_isKeyword (N : Nat) (l0 : Nat) : osMet yX10_isKeyword cX10_isKeyword 2 (some .boolean) 0 0 0 0 (fun r : Int32 => some (.int r)) [.ref l0] (qX10_isKeyword N l0) := by
  refine osMet.of plX10 (Nat.le_of_ble_eq_true rfl) (osW.rw (lv2 := [(0, .ref l0)]) ?_ rfl rfl rfl)
  unfold qX10_isKeyword
  refine os_aload_n (i := 0) (q := 0) (v := l0) 0 rfl rfl (hX10_isKeyword.at 0 rfl rfl) ?_
  refine os_getJ fX10_177 (hX10_isKeyword.at 1 rfl rfl) (fun x1 => ?_)
  refine os_ldc2 (v := (394692 : Int64)) wd1810 (hX10_isKeyword.at 2 rfl rfl) ?_
  refine os_lcmp (hX10_isKeyword.at 3 rfl rfl) ?_
  refine os_if_eq (off := 80) (tgt := 88) rfl (hX10_isKeyword.at 4 rfl rfl) ?_ ?_
  · exact osW.sub [0] rfl (sX10_isKeyword_88 N l0)
  · refine os_aload_n (i := 0) (q := 0) (v := l0) 0 rfl rfl (hX10_isKeyword.at 5 rfl rfl) ?_
    refine os_getJ fX10_177 (hX10_isKeyword.at 6 rfl rfl) (fun x2 => ?_)
    refine os_ldc2 (v := (3638900 : Int64)) wd1811 (hX10_isKeyword.at 7 rfl rfl) ?_
    refine os_lcmp (hX10_isKeyword.at 8 rfl rfl) ?_
    refine os_if_eq (off := 69) (tgt := 88) rfl (hX10_isKeyword.at 9 rfl rfl) ?_ ?_
    · exact osW.sub [0] rfl (sX10_isKeyword_88 N l0)
    · refine os_aload_n (i := 0) (q := 0) (v := l0) 0 rfl rfl (hX10_isKeyword.at 10 rfl rfl) ?_
      refine os_getJ fX10_177 (hX10_isKeyword.at 11 rfl rfl) (fun x3 => ?_)
      refine os_ldc2 (v := (19617 : Int64)) wd1812 (hX10_isKeyword.at 12 rfl rfl) ?_
      refine os_lcmp (hX10_isKeyword.at 13 rfl rfl) ?_
      refine os_if_eq (off := 58) (tgt := 88) rfl (hX10_isKeyword.at 14 rfl rfl) ?_ ?_
      · exact osW.sub [0] rfl (sX10_isKeyword_88 N l0)
      · refine os_aload_n (i := 0) (q := 0) (v := l0) 0 rfl rfl (hX10_isKeyword.at 15 rfl rfl) ?_
        refine os_getJ fX10_177 (hX10_isKeyword.at 16 rfl rfl) (fun x4 => ?_)
        refine os_ldc2 (v := (106385586 : Int64)) wd1825 (hX10_isKeyword.at 17 rfl rfl) ?_
        refine os_lcmp (hX10_isKeyword.at 18 rfl rfl) ?_
        refine os_if_eq (off := 47) (tgt := 88) rfl (hX10_isKeyword.at 19 rfl rfl) ?_ ?_
        · exact osW.sub [0] rfl (sX10_isKeyword_88 N l0)
        · refine os_aload_n (i := 0) (q := 0) (v := l0) 0 rfl rfl (hX10_isKeyword.at 20 rfl rfl) ?_
          refine os_getJ fX10_177 (hX10_isKeyword.at 21 rfl rfl) (fun x5 => ?_)
          refine os_ldc2 (v := (83431602 : Int64)) wd1826 (hX10_isKeyword.at 22 rfl rfl) ?_
          refine os_lcmp (hX10_isKeyword.at 23 rfl rfl) ?_
          refine os_if_eq (off := 36) (tgt := 88) rfl (hX10_isKeyword.at 24 rfl rfl) ?_ ?_
          · exact osW.sub [0] rfl (sX10_isKeyword_88 N l0)
          · refine os_aload_n (i := 0) (q := 0) (v := l0) 0 rfl rfl (hX10_isKeyword.at 25 rfl rfl) ?_
            refine os_getJ fX10_177 (hX10_isKeyword.at 26 rfl rfl) (fun x6 => ?_)
            refine os_ldc2 (v := (51641 : Int64)) wd1827 (hX10_isKeyword.at 27 rfl rfl) ?_
            refine os_lcmp (hX10_isKeyword.at 28 rfl rfl) ?_
            refine os_if_eq (off := 25) (tgt := 88) rfl (hX10_isKeyword.at 29 rfl rfl) ?_ ?_
            · exact osW.sub [0] rfl (sX10_isKeyword_88 N l0)
            · refine os_aload_n (i := 0) (q := 0) (v := l0) 0 rfl rfl (hX10_isKeyword.at 30 rfl rfl) ?_
              refine os_getJ fX10_177 (hX10_isKeyword.at 31 rfl rfl) (fun x7 => ?_)
              refine os_ldc2 (v := (6689972 : Int64)) wd1828 (hX10_isKeyword.at 32 rfl rfl) ?_
              refine os_lcmp (hX10_isKeyword.at 33 rfl rfl) ?_
              refine os_if_eq (off := 14) (tgt := 88) rfl (hX10_isKeyword.at 34 rfl rfl) ?_ ?_
              · exact osW.sub [0] rfl (sX10_isKeyword_88 N l0)
              · refine os_aload_n (i := 0) (q := 0) (v := l0) 0 rfl rfl (hX10_isKeyword.at 35 rfl rfl) ?_
                refine os_getJ fX10_177 (hX10_isKeyword.at 36 rfl rfl) (fun x8 => ?_)
                refine os_ldc2 (v := (17292466 : Int64)) wd1829 (hX10_isKeyword.at 37 rfl rfl) ?_
                refine os_lcmp (hX10_isKeyword.at 38 rfl rfl) ?_
                refine os_if_ne (off := 7) (tgt := 92) rfl (hX10_isKeyword.at 39 rfl rfl) ?_ ?_
                · refine os_iconst (i := 0) (v := (0 : Int32)) rfl (hX10_isKeyword.at 42 rfl rfl) ?_
                  exact osW.sub [0] rfl (sX10_isKeyword_93 N l0 (0 : Int32))
                · exact osW.sub [0] rfl (sX10_isKeyword_88 N l0)
-- X10_readName
def KX10_readName : List (Nat × Nat × Instr) := [(0, 1, .aload_n 0), (1, 3, .invokevirtual 232), (4, 3, .ifCond .eq 34), (7, 1, .aload_n 0), (8, 3, .getfield 185), (11, 1, .iconst 5), (12, 3, .if_icmp .gt 10), (15, 1, .aload_n 0), (16, 3, .invokevirtual 235), (19, 3, .ifCond .eq 15), (22, 1, .aload_n 0), (23, 1, .iconst 1), (24, 1, .aload_n 0), (25, 3, .getfield 164), (28, 3, .invokevirtual 195), (31, 3, .ifCond .eq 7), (34, 1, .iconst 1), (35, 3, .goto 4), (38, 1, .iconst 0), (39, 1, .ireturn)]
theorem hX10_readName : osDs cX10_readName KX10_readName := by
  show ∀ q ∈ KX10_readName, decode cX10_readName q.1 = .ok (q.2.2, q.2.1)
  decide +kernel
def qX10_readName_39 (N : Nat) (k0 : Int32) : osM Int32 := osretZ k0
def qX10_readName_38 (N : Nat) : osM Int32 := qX10_readName_39 N (0 : Int32)
def qX10_readName_34 (N : Nat) : osM Int32 := qX10_readName_39 N (1 : Int32)
def qX10_readName_22 (N : Nat) (l0 : Nat) : osM Int32 := osbind (osgI [8] 13 l0) fun x1 => osbind (osrecv [8] l0 (qX10_fails N l0 (1 : Int32) x1)) fun x2 => osite (x2 = 0) (qX10_readName_38 N ) (qX10_readName_34 N )
def qX10_readName (N : Nat) (l0 : Nat) : osM Int32 := osbind (osrecv [8] l0 (qX10_readWord N l0)) fun x1 => osite (x1 = 0) (qX10_readName_38 N ) (osbind (osgI [8] 15 l0) fun x2 => osite ((5 : Int32) < x2) (qX10_readName_22 N l0) (osbind (osrecv [8] l0 (qX10_isKeyword N l0)) fun x3 => osite (x3 = 0) (qX10_readName_34 N ) (qX10_readName_22 N l0)))
set_option maxRecDepth 100000 in
set_option maxHeartbeats 4000000 in
theorem sX10_readName_39 (N : Nat) (k0 : Int32) : osW (osFinM (fun r : Int32 => some (.int r)) 0 0) yX10_readName cX10_readName 1 (some .boolean) [] { frames := 4, cells := 0, slots := 0, locals := 82 } 0 0 39 [] [.int k0] (qX10_readName_39 N k0) := by
  unfold qX10_readName_39
  exact os_zret (Nat.le_of_ble_eq_true rfl) (Nat.le_of_ble_eq_true rfl) (hX10_readName.at 19 rfl rfl).1
set_option maxRecDepth 100000 in
set_option maxHeartbeats 4000000 in
theorem sX10_readName_38 (N : Nat) : osW (osFinM (fun r : Int32 => some (.int r)) 0 0) yX10_readName cX10_readName 1 (some .boolean) [] { frames := 4, cells := 0, slots := 0, locals := 82 } 0 0 38 [] [] (qX10_readName_38 N) := by
  unfold qX10_readName_38
  refine os_iconst (i := 0) (v := (0 : Int32)) rfl (hX10_readName.at 18 rfl rfl) ?_
  exact osW.sub [] rfl (sX10_readName_39 N (0 : Int32))
set_option maxRecDepth 100000 in
set_option maxHeartbeats 4000000 in
theorem sX10_readName_34 (N : Nat) : osW (osFinM (fun r : Int32 => some (.int r)) 0 0) yX10_readName cX10_readName 1 (some .boolean) [] { frames := 4, cells := 0, slots := 0, locals := 82 } 0 0 34 [] [] (qX10_readName_34 N) := by
  unfold qX10_readName_34
  refine os_iconst (i := 1) (v := (1 : Int32)) rfl (hX10_readName.at 16 rfl rfl) ?_
  refine os_goto (off := 4) (tgt := 39) rfl (hX10_readName.at 17 rfl rfl) ?_
  exact osW.sub [] rfl (sX10_readName_39 N (1 : Int32))
set_option maxRecDepth 100000 in
set_option maxHeartbeats 4000000 in
theorem sX10_readName_22 (N : Nat) (l0 : Nat) : osW (osFinM (fun r : Int32 => some (.int r)) 0 0) yX10_readName cX10_readName 1 (some .boolean) [] { frames := 4, cells := 0, slots := 0, locals := 82 } 0 0 22 [(0, .ref l0)] [] (qX10_readName_22 N l0) := by
  unfold qX10_readName_22
  refine os_aload_n (i := 0) (q := 0) (v := l0) 0 rfl rfl (hX10_readName.at 10 rfl rfl) ?_
  refine os_iconst (i := 1) (v := (1 : Int32)) rfl (hX10_readName.at 11 rfl rfl) ?_
  refine os_aload_n (i := 0) (q := 0) (v := l0) 0 rfl rfl (hX10_readName.at 12 rfl rfl) ?_
  refine os_getI fX10_164 (hX10_readName.at 13 rfl rfl) (fun x1 => ?_)
  refine os_callV (cis := [8]) (b := l0) (As := [.int (1 : Int32), .int x1]) (st := []) (st' := (fun r => .int r :: [])) sl8_X10_fails_X10_fails mdX10_fails wd1806 wd1808 (sX10_fails N l0 (1 : Int32) x1) rfl rfl (fun _ => rfl) (Nat.le_of_ble_eq_true rfl) (Nat.le_of_ble_eq_true rfl) (Nat.le_of_ble_eq_true rfl) rfl (Nat.le_of_ble_eq_true rfl) rfl (Nat.le_of_ble_eq_true rfl) (hX10_readName.at 14 rfl rfl) (fun x2 => ?_)
  refine os_if_eq (off := 7) (tgt := 38) rfl (hX10_readName.at 15 rfl rfl) ?_ ?_
  · exact osW.sub [] rfl (sX10_readName_38 N )
  · exact osW.sub [] rfl (sX10_readName_34 N )
set_option maxRecDepth 100000 in
set_option maxHeartbeats 4000000 in
theorem sX10_readName (N : Nat) (l0 : Nat) : osMet yX10_readName cX10_readName 1 (some .boolean) 4 82 0 0 (fun r : Int32 => some (.int r)) [.ref l0] (qX10_readName N l0) := by
  refine osMet.of plX10 (Nat.le_of_ble_eq_true rfl) (osW.rw (lv2 := [(0, .ref l0)]) ?_ rfl rfl rfl)
  unfold qX10_readName
  refine os_aload_n (i := 0) (q := 0) (v := l0) 0 rfl rfl (hX10_readName.at 0 rfl rfl) ?_
  refine os_callV (cis := [8]) (b := l0) (As := []) (st := []) (st' := (fun r => .int r :: [])) sl8_X10_readWord_X10_readWord mdX10_readWord wd1789 wd1791 (sX10_readWord N l0 ) rfl rfl (fun _ => rfl) (Nat.le_of_ble_eq_true rfl) (Nat.le_of_ble_eq_true rfl) (Nat.le_of_ble_eq_true rfl) rfl (Nat.le_of_ble_eq_true rfl) rfl (Nat.le_of_ble_eq_true rfl) (hX10_readName.at 1 rfl rfl) (fun x1 => ?_)
  refine os_if_eq (off := 34) (tgt := 38) rfl (hX10_readName.at 2 rfl rfl) ?_ ?_
  · exact osW.sub [] rfl (sX10_readName_38 N )
  · refine os_aload_n (i := 0) (q := 0) (v := l0) 0 rfl rfl (hX10_readName.at 3 rfl rfl) ?_
    refine os_getI fX10_185 (hX10_readName.at 4 rfl rfl) (fun x2 => ?_)
    refine os_iconst (i := 5) (v := (5 : Int32)) rfl (hX10_readName.at 5 rfl rfl) ?_
    refine os_icmp_gt (off := 10) (tgt := 22) rfl (hX10_readName.at 6 rfl rfl) ?_ ?_
    · exact osW.sub [0] rfl (sX10_readName_22 N l0)
    · refine os_aload_n (i := 0) (q := 0) (v := l0) 0 rfl rfl (hX10_readName.at 7 rfl rfl) ?_
      refine os_callV (cis := [8]) (b := l0) (As := []) (st := []) (st' := (fun r => .int r :: [])) sl8_X10_isKeyword_X10_isKeyword mdX10_isKeyword wd1821 wd1823 (sX10_isKeyword N l0 ) rfl rfl (fun _ => rfl) (Nat.le_of_ble_eq_true rfl) (Nat.le_of_ble_eq_true rfl) (Nat.le_of_ble_eq_true rfl) rfl (Nat.le_of_ble_eq_true rfl) rfl (Nat.le_of_ble_eq_true rfl) (hX10_readName.at 8 rfl rfl) (fun x3 => ?_)
      refine os_if_eq (off := 15) (tgt := 34) rfl (hX10_readName.at 9 rfl rfl) ?_ ?_
      · exact osW.sub [] rfl (sX10_readName_34 N )
      · exact osW.sub [0] rfl (sX10_readName_22 N l0)
-- X10_readSemicolon
def KX10_readSemicolon : List (Nat × Nat × Instr) := [(0, 1, .aload_n 0), (1, 3, .invokevirtual 167), (4, 2, .bipush 59), (6, 3, .if_icmp .eq 13), (9, 1, .aload_n 0), (10, 1, .iconst 1), (11, 1, .aload_n 0), (12, 3, .getfield 164), (15, 3, .invokevirtual 195), (18, 1, .ireturn), (19, 1, .aload_n 0), (20, 1, .aload_n 0), (21, 3, .getfield 164), (24, 1, .iconst 1), (25, 1, .iadd), (26, 3, .putfield 158), (29, 1, .iconst 1), (30, 1, .ireturn)]
theorem hX10_readSemicolon : osDs cX10_readSemicolon KX10_readSemicolon := by
  show ∀ q ∈ KX10_readSemicolon, decode cX10_readSemicolon q.1 = .ok (q.2.2, q.2.1)
  decide +kernel
def qX10_readSemicolon (N : Nat) (l0 : Nat) : osM Int32 := osbind (osrecv [8] l0 (qX10_peek N l0)) fun x1 => osite (x1 = (59 : Int32)) (osbind (osgI [8] 13 l0) fun x2 => osbind (osput [8] 11 l0 (.int (x2 + (1 : Int32)))) fun _ => osretZ (1 : Int32)) (osbind (osgI [8] 13 l0) fun x3 => osbind (osrecv [8] l0 (qX10_fails N l0 (1 : Int32) x3)) fun x4 => osretZ x4)
set_option maxRecDepth 100000 in
set_option maxHeartbeats 4000000 in
theorem sX10_readSemicolon (N : Nat) (l0 : Nat) : osMet yX10_readSemicolon cX10_readSemicolon 1 (some .boolean) 2 41 0 0 (fun r : Int32 => some (.int r)) [.ref l0] (qX10_readSemicolon N l0) := by
  refine osMet.of plX10 (Nat.le_of_ble_eq_true rfl) (osW.rw (lv2 := [(0, .ref l0)]) ?_ rfl rfl rfl)
  unfold qX10_readSemicolon
  refine os_aload_n (i := 0) (q := 0) (v := l0) 0 rfl rfl (hX10_readSemicolon.at 0 rfl rfl) ?_
  refine os_callV (cis := [8]) (b := l0) (As := []) (st := []) (st' := (fun r => .int r :: [])) sl8_X10_peek_X10_peek mdX10_peek wd1777 wd1779 (sX10_peek N l0 ) rfl rfl (fun _ => rfl) (Nat.le_of_ble_eq_true rfl) (Nat.le_of_ble_eq_true rfl) (Nat.le_of_ble_eq_true rfl) rfl (Nat.le_of_ble_eq_true rfl) rfl (Nat.le_of_ble_eq_true rfl) (hX10_readSemicolon.at 1 rfl rfl) (fun x1 => ?_)
  refine os_bipush (i := 59) (v := (59 : Int32)) rfl (hX10_readSemicolon.at 2 rfl rfl) ?_
  refine os_icmp_eq (off := 13) (tgt := 19) rfl (hX10_readSemicolon.at 3 rfl rfl) ?_ ?_
  · refine os_aload_n (i := 0) (q := 0) (v := l0) 0 rfl rfl (hX10_readSemicolon.at 10 rfl rfl) ?_
    refine os_aload_n (i := 0) (q := 0) (v := l0) 0 rfl rfl (hX10_readSemicolon.at 11 rfl rfl) ?_
    refine os_getI fX10_164 (hX10_readSemicolon.at 12 rfl rfl) (fun x2 => ?_)
    refine os_iconst (i := 1) (v := (1 : Int32)) rfl (hX10_readSemicolon.at 13 rfl rfl) ?_
    refine os_iadd (hX10_readSemicolon.at 14 rfl rfl) ?_
    refine os_put fX10_158 rfl rfl (hX10_readSemicolon.at 15 rfl rfl) ?_
    refine os_iconst (i := 1) (v := (1 : Int32)) rfl (hX10_readSemicolon.at 16 rfl rfl) ?_
    exact os_zret (Nat.le_of_ble_eq_true rfl) (Nat.le_of_ble_eq_true rfl) (hX10_readSemicolon.at 17 rfl rfl).1
  · refine os_aload_n (i := 0) (q := 0) (v := l0) 0 rfl rfl (hX10_readSemicolon.at 4 rfl rfl) ?_
    refine os_iconst (i := 1) (v := (1 : Int32)) rfl (hX10_readSemicolon.at 5 rfl rfl) ?_
    refine os_aload_n (i := 0) (q := 0) (v := l0) 0 rfl rfl (hX10_readSemicolon.at 6 rfl rfl) ?_
    refine os_getI fX10_164 (hX10_readSemicolon.at 7 rfl rfl) (fun x3 => ?_)
    refine os_callV (cis := [8]) (b := l0) (As := [.int (1 : Int32), .int x3]) (st := []) (st' := (fun r => .int r :: [])) sl8_X10_fails_X10_fails mdX10_fails wd1806 wd1808 (sX10_fails N l0 (1 : Int32) x3) rfl rfl (fun _ => rfl) (Nat.le_of_ble_eq_true rfl) (Nat.le_of_ble_eq_true rfl) (Nat.le_of_ble_eq_true rfl) rfl (Nat.le_of_ble_eq_true rfl) rfl (Nat.le_of_ble_eq_true rfl) (hX10_readSemicolon.at 8 rfl rfl) (fun x4 => ?_)
    exact os_zret (Nat.le_of_ble_eq_true rfl) (Nat.le_of_ble_eq_true rfl) (hX10_readSemicolon.at 9 rfl rfl).1
-- X10_opens
def KX10_opens : List (Nat × Nat × Instr) := [(0, 1, .aload_n 0), (1, 1, .iload_n 1), (2, 1, .iconst 0), (3, 1, .aload_n 0), (4, 3, .getfield 138), (7, 3, .invokestatic 95), (10, 3, .ifCond .eq 7), (13, 1, .iconst 0), (14, 3, .goto 4), (17, 1, .iconst 1), (18, 3, .putfield 82), (21, 1, .aload_n 0), (22, 3, .getfield 82), (25, 3, .ifCond .le 5), (28, 1, .iconst 0), (29, 1, .ireturn), (30, 1, .aload_n 0), (31, 1, .iload_n 1), (32, 3, .putfield 155), (35, 1, .aload_n 0), (36, 1, .iconst 0), (37, 3, .putfield 158), (40, 1, .aload_n 0), (41, 1, .iconst 0), (42, 3, .putfield 149), (45, 1, .aload_n 0), (46, 1, .iconst (-1)), (47, 3, .putfield 35), (50, 1, .aload_n 0), (51, 1, .iconst 0), (52, 3, .putfield 138), (55, 1, .iconst 1), (56, 1, .ireturn)]
theorem hX10_opens : osDs cX10_opens KX10_opens := by
  show ∀ q ∈ KX10_opens, decode cX10_opens q.1 = .ok (q.2.2, q.2.1)
  decide +kernel
def qX10_opens_18 (N : Nat) (l0 : Nat) (l1 : Int32) (k0 : Int32) (k1 : Nat) : osM Int32 := osbind (osput [8] 0 k1 (.int k0)) fun _ => osbind (osgI [8] 0 l0) fun x1 => osite (x1 ≤ 0) (osbind (osput [8] 12 l0 (.int l1)) fun _ => osbind (osput [8] 11 l0 (.int (0 : Int32))) fun _ => osbind (osput [8] 16 l0 (.int (0 : Int32))) fun _ => osbind (osput [8] 17 l0 (.int (-1 : Int32))) fun _ => osbind (osput [8] 10 l0 (.int (0 : Int32))) fun _ => osretZ (1 : Int32)) (osretZ (0 : Int32))
def qX10_opens (N : Nat) (l0 : Nat) (l1 : Int32) : osM Int32 := osbind (osgI [8] 10 l0) fun x1 => osbind (qX10_in N l1 (0 : Int32) x1) fun x2 => osite (x2 = 0) (qX10_opens_18 N l0 l1 (1 : Int32) l0) (qX10_opens_18 N l0 l1 (0 : Int32) l0)
set_option maxRecDepth 100000 in
set_option maxHeartbeats 4000000 in
theorem sX10_opens_18 (N : Nat) (l0 : Nat) (l1 : Int32) (k0 : Int32) (k1 : Nat) : osW (osFinM (fun r : Int32 => some (.int r)) 0 0) yX10_opens cX10_opens 2 (some .boolean) [] { frames := 1, cells := 0, slots := 0, locals := 22 } 0 0 18 [(0, .ref l0), (1, .int l1)] [.int k0, .ref k1] (qX10_opens_18 N l0 l1 k0 k1) := by
  unfold qX10_opens_18
  refine os_put fX10_82 rfl rfl (hX10_opens.at 10 rfl rfl) ?_
  refine os_aload_n (i := 0) (q := 0) (v := l0) 0 rfl rfl (hX10_opens.at 11 rfl rfl) ?_
  refine os_getI fX10_82 (hX10_opens.at 12 rfl rfl) (fun x1 => ?_)
  refine os_if_le (off := 5) (tgt := 30) rfl (hX10_opens.at 13 rfl rfl) ?_ ?_
  · refine os_aload_n (i := 0) (q := 0) (v := l0) 0 rfl rfl (hX10_opens.at 16 rfl rfl) ?_
    refine os_iload_n (i := 1) (q := 1) (v := l1) 1 rfl rfl (hX10_opens.at 17 rfl rfl) ?_
    refine os_put fX10_155 rfl rfl (hX10_opens.at 18 rfl rfl) ?_
    refine os_aload_n (i := 0) (q := 0) (v := l0) 0 rfl rfl (hX10_opens.at 19 rfl rfl) ?_
    refine os_iconst (i := 0) (v := (0 : Int32)) rfl (hX10_opens.at 20 rfl rfl) ?_
    refine os_put fX10_158 rfl rfl (hX10_opens.at 21 rfl rfl) ?_
    refine os_aload_n (i := 0) (q := 0) (v := l0) 0 rfl rfl (hX10_opens.at 22 rfl rfl) ?_
    refine os_iconst (i := 0) (v := (0 : Int32)) rfl (hX10_opens.at 23 rfl rfl) ?_
    refine os_put fX10_149 rfl rfl (hX10_opens.at 24 rfl rfl) ?_
    refine os_aload_n (i := 0) (q := 0) (v := l0) 0 rfl rfl (hX10_opens.at 25 rfl rfl) ?_
    refine os_iconst (i := (-1)) (v := (-1 : Int32)) rfl (hX10_opens.at 26 rfl rfl) ?_
    refine os_put fX10_35 rfl rfl (hX10_opens.at 27 rfl rfl) ?_
    refine os_aload_n (i := 0) (q := 0) (v := l0) 0 rfl rfl (hX10_opens.at 28 rfl rfl) ?_
    refine os_iconst (i := 0) (v := (0 : Int32)) rfl (hX10_opens.at 29 rfl rfl) ?_
    refine os_put fX10_138 rfl rfl (hX10_opens.at 30 rfl rfl) ?_
    refine os_iconst (i := 1) (v := (1 : Int32)) rfl (hX10_opens.at 31 rfl rfl) ?_
    exact os_zret (Nat.le_of_ble_eq_true rfl) (Nat.le_of_ble_eq_true rfl) (hX10_opens.at 32 rfl rfl).1
  · refine os_iconst (i := 0) (v := (0 : Int32)) rfl (hX10_opens.at 14 rfl rfl) ?_
    exact os_zret (Nat.le_of_ble_eq_true rfl) (Nat.le_of_ble_eq_true rfl) (hX10_opens.at 15 rfl rfl).1
set_option maxRecDepth 100000 in
set_option maxHeartbeats 4000000 in
theorem sX10_opens (N : Nat) (l0 : Nat) (l1 : Int32) : osMet yX10_opens cX10_opens 2 (some .boolean) 1 22 0 0 (fun r : Int32 => some (.int r)) [.ref l0, .int l1] (qX10_opens N l0 l1) := by
  refine osMet.of plX10 (Nat.le_of_ble_eq_true rfl) (osW.rw (lv2 := [(0, .ref l0), (1, .int l1)]) ?_ rfl rfl rfl)
  unfold qX10_opens
  refine os_aload_n (i := 0) (q := 0) (v := l0) 0 rfl rfl (hX10_opens.at 0 rfl rfl) ?_
  refine os_iload_n (i := 1) (q := 1) (v := l1) 1 rfl rfl (hX10_opens.at 1 rfl rfl) ?_
  refine os_iconst (i := 0) (v := (0 : Int32)) rfl (hX10_opens.at 2 rfl rfl) ?_
  refine os_aload_n (i := 0) (q := 0) (v := l0) 0 rfl rfl (hX10_opens.at 3 rfl rfl) ?_
  refine os_getI fX10_138 (hX10_opens.at 4 rfl rfl) (fun x1 => ?_)
  refine os_callS (As := [.int l1, .int (0 : Int32), .int x1]) (st := [.ref l0]) (st' := (fun r => .int r :: [.ref l0])) mdX10_in wd1770 wd1771 (sX10_in N l1 (0 : Int32) x1) rfl rfl (fun _ => rfl) (Nat.le_of_ble_eq_true rfl) (Nat.le_of_ble_eq_true rfl) (Nat.le_of_ble_eq_true rfl) rfl (Nat.le_of_ble_eq_true rfl) rfl (Nat.le_of_ble_eq_true rfl) (hX10_opens.at 5 rfl rfl) (fun x2 => ?_)
  refine os_if_eq (off := 7) (tgt := 17) rfl (hX10_opens.at 6 rfl rfl) ?_ ?_
  · refine os_iconst (i := 1) (v := (1 : Int32)) rfl (hX10_opens.at 9 rfl rfl) ?_
    exact osW.sub [0, 1] rfl (sX10_opens_18 N l0 l1 (1 : Int32) l0)
  · refine os_iconst (i := 0) (v := (0 : Int32)) rfl (hX10_opens.at 7 rfl rfl) ?_
    refine os_goto (off := 4) (tgt := 18) rfl (hX10_opens.at 8 rfl rfl) ?_
    exact osW.sub [0, 1] rfl (sX10_opens_18 N l0 l1 (0 : Int32) l0)
-- X10_isRead
def KX10_isRead : List (Nat × Nat × Instr) := [(0, 1, .aload_n 0), (1, 1, .iload_n 1), (2, 3, .ifCond .eq 7), (5, 1, .iconst 0), (6, 3, .goto 4), (9, 1, .iconst 2), (10, 3, .putfield 82), (13, 1, .iload_n 1), (14, 1, .ireturn)]
theorem hX10_isRead : osDs cX10_isRead KX10_isRead := by
  show ∀ q ∈ KX10_isRead, decode cX10_isRead q.1 = .ok (q.2.2, q.2.1)
  decide +kernel
def qX10_isRead_10 (N : Nat) (l1 : Int32) (k0 : Int32) (k1 : Nat) : osM Int32 := osbind (osput [8] 0 k1 (.int k0)) fun _ => osretZ l1
def qX10_isRead (N : Nat) (l0 : Nat) (l1 : Int32) : osM Int32 := osite (l1 = 0) (qX10_isRead_10 N l1 (2 : Int32) l0) (qX10_isRead_10 N l1 (0 : Int32) l0)
set_option maxRecDepth 100000 in
set_option maxHeartbeats 4000000 in
theorem sX10_isRead_10 (N : Nat) (l1 : Int32) (k0 : Int32) (k1 : Nat) : osW (osFinM (fun r : Int32 => some (.int r)) 0 0) yX10_isRead cX10_isRead 2 (some .boolean) [] { frames := 0, cells := 0, slots := 0, locals := 0 } 0 0 10 [(1, .int l1)] [.int k0, .ref k1] (qX10_isRead_10 N l1 k0 k1) := by
  unfold qX10_isRead_10
  refine os_put fX10_82 rfl rfl (hX10_isRead.at 6 rfl rfl) ?_
  refine os_iload_n (i := 1) (q := 1) (v := l1) 0 rfl rfl (hX10_isRead.at 7 rfl rfl) ?_
  exact os_zret (Nat.le_of_ble_eq_true rfl) (Nat.le_of_ble_eq_true rfl) (hX10_isRead.at 8 rfl rfl).1
set_option maxRecDepth 100000 in
set_option maxHeartbeats 4000000 in
theorem sX10_isRead (N : Nat) (l0 : Nat) (l1 : Int32) : osMet yX10_isRead cX10_isRead 2 (some .boolean) 0 0 0 0 (fun r : Int32 => some (.int r)) [.ref l0, .int l1] (qX10_isRead N l0 l1) := by
  refine osMet.of plX10 (Nat.le_of_ble_eq_true rfl) (osW.rw (lv2 := [(0, .ref l0), (1, .int l1)]) ?_ rfl rfl rfl)
  unfold qX10_isRead
  refine os_aload_n (i := 0) (q := 0) (v := l0) 0 rfl rfl (hX10_isRead.at 0 rfl rfl) ?_
  refine os_iload_n (i := 1) (q := 1) (v := l1) 1 rfl rfl (hX10_isRead.at 1 rfl rfl) ?_
  refine os_if_eq (off := 7) (tgt := 9) rfl (hX10_isRead.at 2 rfl rfl) ?_ ?_
  · refine os_iconst (i := 2) (v := (2 : Int32)) rfl (hX10_isRead.at 5 rfl rfl) ?_
    exact osW.sub [1] rfl (sX10_isRead_10 N l1 (2 : Int32) l0)
  · refine os_iconst (i := 0) (v := (0 : Int32)) rfl (hX10_isRead.at 3 rfl rfl) ?_
    refine os_goto (off := 4) (tgt := 10) rfl (hX10_isRead.at 4 rfl rfl) ?_
    exact osW.sub [1] rfl (sX10_isRead_10 N l1 (0 : Int32) l0)
-- X10_numberOf
def KX10_numberOf : List (Nat × Nat × Instr) := [(0, 1, .iconst 0), (1, 2, .istore 5), (3, 2, .iload 5), (5, 1, .iload_n 2), (6, 3, .if_icmp .ge 23), (9, 1, .aload_n 0), (10, 1, .iload_n 1), (11, 2, .iload 5), (13, 1, .iadd), (14, 1, .laload), (15, 1, .lload_n 3), (16, 1, .lcmp), (17, 3, .ifCond .ne 6), (20, 2, .iload 5), (22, 1, .ireturn), (23, 3, .iinc 5 1), (26, 3, .goto (-23)), (29, 1, .iconst (-1)), (30, 1, .ireturn)]
theorem hX10_numberOf : osDs cX10_numberOf KX10_numberOf := by
  show ∀ q ∈ KX10_numberOf, decode cX10_numberOf q.1 = .ok (q.2.2, q.2.1)
  decide +kernel
def bX10_numberOf_3 (N : Nat) (c3 : Nat × Int32 × Int32 × Int64 × Int32 → osM Int32) (l0 : Nat) (l1 : Int32) (l2 : Int32) (l3 : Int64) (l5 : Int32) : osM Int32 := osite (l2 ≤ l5) (osret (-1 : Int32)) (osbind (osaJ 2 l0 (l1 + l5)) fun x1 => osite ((lg_cmp x1 l3) = 0) (osret l5) (c3 (l0, l1, l2, l3, (l5 + (1 : Int32)))))
def qX10_numberOf_3 (N : Nat) : Nat × Int32 × Int32 × Int64 × Int32 → osM Int32 := osloop (fun ih p => bX10_numberOf_3 N ih p.1 p.2.1 p.2.2.1 p.2.2.2.1 p.2.2.2.2) N
def qX10_numberOf (N : Nat) (l0 : Nat) (l1 : Int32) (l2 : Int32) (l3 : Int64) : osM Int32 := qX10_numberOf_3 N (l0, l1, l2, l3, (0 : Int32))
set_option maxRecDepth 100000 in
set_option maxHeartbeats 4000000 in
theorem tX10_numberOf_3 (N : Nat) (c3 : Nat × Int32 × Int32 × Int64 × Int32 → osM Int32) (g3 : ∀ (l0 : Nat) (l1 : Int32) (l2 : Int32) (l3 : Int64) (l5 : Int32), osW (osFinM (fun r : Int32 => some (.int r)) 0 0) yX10_numberOf cX10_numberOf 6 (some .int) [] { frames := 0, cells := 0, slots := 0, locals := 0 } 0 0 3 [(0, .ref l0), (1, .int l1), (2, .int l2), (3, .long l3), (5, .int l5)] [] (c3 (l0, l1, l2, l3, l5))) (l0 : Nat) (l1 : Int32) (l2 : Int32) (l3 : Int64) (l5 : Int32) : osW (osFinM (fun r : Int32 => some (.int r)) 0 0) yX10_numberOf cX10_numberOf 6 (some .int) [] { frames := 0, cells := 0, slots := 0, locals := 0 } 0 0 3 [(0, .ref l0), (1, .int l1), (2, .int l2), (3, .long l3), (5, .int l5)] [] (bX10_numberOf_3 N c3 l0 l1 l2 l3 l5) := by
  unfold bX10_numberOf_3
  refine os_iload (v := l5) 4 rfl (hX10_numberOf.at 2 rfl rfl) ?_
  refine os_iload_n (i := 2) (q := 2) (v := l2) 2 rfl rfl (hX10_numberOf.at 3 rfl rfl) ?_
  refine os_icmp_ge (off := 23) (tgt := 29) rfl (hX10_numberOf.at 4 rfl rfl) ?_ ?_
  · refine os_iconst (i := (-1)) (v := (-1 : Int32)) rfl (hX10_numberOf.at 17 rfl rfl) ?_
    exact os_iret (Nat.le_of_ble_eq_true rfl) (Nat.le_of_ble_eq_true rfl) (hX10_numberOf.at 18 rfl rfl).1
  · refine os_aload_n (i := 0) (q := 0) (v := l0) 0 rfl rfl (hX10_numberOf.at 5 rfl rfl) ?_
    refine os_iload_n (i := 1) (q := 1) (v := l1) 1 rfl rfl (hX10_numberOf.at 6 rfl rfl) ?_
    refine os_iload (v := l5) 4 rfl (hX10_numberOf.at 7 rfl rfl) ?_
    refine os_iadd (hX10_numberOf.at 8 rfl rfl) ?_
    refine os_laload (hX10_numberOf.at 9 rfl rfl) (fun x1 => ?_)
    refine os_lload_n (i := 3) (q := 3) (v := l3) 3 rfl rfl (hX10_numberOf.at 10 rfl rfl) ?_
    refine os_lcmp (hX10_numberOf.at 11 rfl rfl) ?_
    refine os_if_ne (off := 6) (tgt := 23) rfl (hX10_numberOf.at 12 rfl rfl) ?_ ?_
    · refine os_iinc (i := 5) (d := 1) (x := l5) (v := (1 : Int32)) (lv' := [(5, .int (l5 + (1 : Int32))), (0, .ref l0), (1, .int l1), (2, .int l2), (3, .long l3)]) 4 rfl rfl (Nat.le_of_ble_eq_true rfl) rfl (hX10_numberOf.at 15 rfl rfl) ?_
      refine os_goto (off := (-23)) (tgt := 3) rfl (hX10_numberOf.at 16 rfl rfl) ?_
      exact osW.sub [1, 2, 3, 4, 0] rfl (g3 l0 l1 l2 l3 (l5 + (1 : Int32)))
    · refine os_iload (v := l5) 4 rfl (hX10_numberOf.at 13 rfl rfl) ?_
      exact os_iret (Nat.le_of_ble_eq_true rfl) (Nat.le_of_ble_eq_true rfl) (hX10_numberOf.at 14 rfl rfl).1
set_option maxRecDepth 100000 in
set_option maxHeartbeats 4000000 in
theorem sX10_numberOf_3 (N : Nat) (l0 : Nat) (l1 : Int32) (l2 : Int32) (l3 : Int64) (l5 : Int32) : osW (osFinM (fun r : Int32 => some (.int r)) 0 0) yX10_numberOf cX10_numberOf 6 (some .int) [] { frames := 0, cells := 0, slots := 0, locals := 0 } 0 0 3 [(0, .ref l0), (1, .int l1), (2, .int l2), (3, .long l3), (5, .int l5)] [] (qX10_numberOf_3 N (l0, l1, l2, l3, l5)) :=
  osloop_W (lvf := fun p => [(0, .ref p.1), (1, .int p.2.1), (2, .int p.2.2.1), (3, .long p.2.2.2.1), (5, .int p.2.2.2.2)]) (stf := fun p => []) (fun ih g p => tX10_numberOf_3 N ih (fun l0 l1 l2 l3 l5 => g (l0, l1, l2, l3, l5)) p.1 p.2.1 p.2.2.1 p.2.2.2.1 p.2.2.2.2) N (l0, l1, l2, l3, l5)
set_option maxRecDepth 100000 in
set_option maxHeartbeats 4000000 in
theorem sX10_numberOf (N : Nat) (l0 : Nat) (l1 : Int32) (l2 : Int32) (l3 : Int64) : osMet yX10_numberOf cX10_numberOf 6 (some .int) 0 0 0 0 (fun r : Int32 => some (.int r)) [.ref l0, .int l1, .int l2, .long l3] (qX10_numberOf N l0 l1 l2 l3) := by
  refine osMet.of plX10 (Nat.le_of_ble_eq_true rfl) (osW.rw (lv2 := [(0, .ref l0), (1, .int l1), (2, .int l2), (3, .long l3)]) ?_ rfl rfl rfl)
  unfold qX10_numberOf
  refine os_iconst (i := 0) (v := (0 : Int32)) rfl (hX10_numberOf.at 0 rfl rfl) ?_
  refine os_istore (i := 5) (lv' := [(5, .int (0 : Int32)), (0, .ref l0), (1, .int l1), (2, .int l2), (3, .long l3)]) (Nat.le_of_ble_eq_true rfl) rfl (hX10_numberOf.at 1 rfl rfl) ?_
  exact osW.sub [1, 2, 3, 4, 0] rfl (sX10_numberOf_3 N l0 l1 l2 l3 (0 : Int32))
-- X10_readArea
def KX10_readArea : List (Nat × Nat × Instr) := [(0, 1, .aload_n 0), (1, 3, .invokevirtual 238), (4, 3, .ifCond .ne 5), (7, 1, .iconst 0), (8, 1, .ireturn), (9, 1, .aload_n 0), (10, 1, .aload_n 1), (11, 1, .iconst 0), (12, 1, .iload_n 2), (13, 1, .aload_n 0), (14, 3, .getfield 177), (17, 3, .invokestatic 241), (20, 3, .putfield 245), (23, 1, .aload_n 0), (24, 3, .getfield 245), (27, 1, .iconst (-1)), (28, 3, .if_icmp .ne 15), (31, 1, .aload_n 0), (32, 1, .iconst 2), (33, 1, .aload_n 0), (34, 3, .getfield 164), (37, 3, .invokevirtual 195), (40, 3, .ifCond .eq 7), (43, 1, .iconst 1), (44, 3, .goto 4), (47, 1, .iconst 0), (48, 1, .ireturn)]
theorem hX10_readArea : osDs cX10_readArea KX10_readArea := by
  show ∀ q ∈ KX10_readArea, decode cX10_readArea q.1 = .ok (q.2.2, q.2.1)
  decide +kernel
def qX10_readArea_48 (N : Nat) (k0 : Int32) : osM Int32 := osretZ k0
def qX10_readArea_43 (N : Nat) : osM Int32 := qX10_readArea_48 N (1 : Int32)
def qX10_readArea (N : Nat) (l0 : Nat) (l1 : Nat) (l2 : Int32) : osM Int32 := osbind (osrecv [8] l0 (qX10_readName N l0)) fun x1 => osite (x1 = 0) (osretZ (0 : Int32)) (osbind (osgJ [8] 18 l0) fun x2 => osbind (qX10_numberOf N l1 (0 : Int32) l2 x2) fun x3 => osbind (osput [8] 19 l0 (.int x3)) fun _ => osbind (osgI [8] 19 l0) fun x4 => osite (x4 = (-1 : Int32)) (osbind (osgI [8] 13 l0) fun x5 => osbind (osrecv [8] l0 (qX10_fails N l0 (2 : Int32) x5)) fun x6 => osite (x6 = 0) (qX10_readArea_48 N (0 : Int32)) (qX10_readArea_43 N )) (qX10_readArea_43 N ))
set_option maxRecDepth 100000 in
set_option maxHeartbeats 4000000 in
theorem sX10_readArea_48 (N : Nat) (k0 : Int32) : osW (osFinM (fun r : Int32 => some (.int r)) 0 0) yX10_readArea cX10_readArea 3 (some .boolean) [] { frames := 5, cells := 0, slots := 0, locals := 102 } 0 0 48 [] [.int k0] (qX10_readArea_48 N k0) := by
  unfold qX10_readArea_48
  exact os_zret (Nat.le_of_ble_eq_true rfl) (Nat.le_of_ble_eq_true rfl) (hX10_readArea.at 26 rfl rfl).1
set_option maxRecDepth 100000 in
set_option maxHeartbeats 4000000 in
theorem sX10_readArea_43 (N : Nat) : osW (osFinM (fun r : Int32 => some (.int r)) 0 0) yX10_readArea cX10_readArea 3 (some .boolean) [] { frames := 5, cells := 0, slots := 0, locals := 102 } 0 0 43 [] [] (qX10_readArea_43 N) := by
  unfold qX10_readArea_43
  refine os_iconst (i := 1) (v := (1 : Int32)) rfl (hX10_readArea.at 23 rfl rfl) ?_
  refine os_goto (off := 4) (tgt := 48) rfl (hX10_readArea.at 24 rfl rfl) ?_
  exact osW.sub [] rfl (sX10_readArea_48 N (1 : Int32))
set_option maxRecDepth 100000 in
set_option maxHeartbeats 4000000 in
theorem sX10_readArea (N : Nat) (l0 : Nat) (l1 : Nat) (l2 : Int32) : osMet yX10_readArea cX10_readArea 3 (some .boolean) 5 102 0 0 (fun r : Int32 => some (.int r)) [.ref l0, .ref l1, .int l2] (qX10_readArea N l0 l1 l2) := by
  refine osMet.of plX10 (Nat.le_of_ble_eq_true rfl) (osW.rw (lv2 := [(0, .ref l0), (1, .ref l1), (2, .int l2)]) ?_ rfl rfl rfl)
  unfold qX10_readArea
  refine os_aload_n (i := 0) (q := 0) (v := l0) 0 rfl rfl (hX10_readArea.at 0 rfl rfl) ?_
  refine os_callV (cis := [8]) (b := l0) (As := []) (st := []) (st' := (fun r => .int r :: [])) sl8_X10_readName_X10_readName mdX10_readName wd1817 wd1819 (sX10_readName N l0 ) rfl rfl (fun _ => rfl) (Nat.le_of_ble_eq_true rfl) (Nat.le_of_ble_eq_true rfl) (Nat.le_of_ble_eq_true rfl) rfl (Nat.le_of_ble_eq_true rfl) rfl (Nat.le_of_ble_eq_true rfl) (hX10_readArea.at 1 rfl rfl) (fun x1 => ?_)
  refine os_if_ne (off := 5) (tgt := 9) rfl (hX10_readArea.at 2 rfl rfl) ?_ ?_
  · refine os_aload_n (i := 0) (q := 0) (v := l0) 0 rfl rfl (hX10_readArea.at 5 rfl rfl) ?_
    refine os_aload_n (i := 1) (q := 1) (v := l1) 1 rfl rfl (hX10_readArea.at 6 rfl rfl) ?_
    refine os_iconst (i := 0) (v := (0 : Int32)) rfl (hX10_readArea.at 7 rfl rfl) ?_
    refine os_iload_n (i := 2) (q := 2) (v := l2) 2 rfl rfl (hX10_readArea.at 8 rfl rfl) ?_
    refine os_aload_n (i := 0) (q := 0) (v := l0) 0 rfl rfl (hX10_readArea.at 9 rfl rfl) ?_
    refine os_getJ fX10_177 (hX10_readArea.at 10 rfl rfl) (fun x2 => ?_)
    refine os_callS (As := [.ref l1, .int (0 : Int32), .int l2, .long x2]) (st := [.ref l0]) (st' := (fun r => .int r :: [.ref l0])) mdX10_numberOf wd1837 wd1838 (sX10_numberOf N l1 (0 : Int32) l2 x2) rfl rfl (fun _ => rfl) (Nat.le_of_ble_eq_true rfl) (Nat.le_of_ble_eq_true rfl) (Nat.le_of_ble_eq_true rfl) rfl (Nat.le_of_ble_eq_true rfl) rfl (Nat.le_of_ble_eq_true rfl) (hX10_readArea.at 11 rfl rfl) (fun x3 => ?_)
    refine os_put fX10_245 rfl rfl (hX10_readArea.at 12 rfl rfl) ?_
    refine os_aload_n (i := 0) (q := 0) (v := l0) 0 rfl rfl (hX10_readArea.at 13 rfl rfl) ?_
    refine os_getI fX10_245 (hX10_readArea.at 14 rfl rfl) (fun x4 => ?_)
    refine os_iconst (i := (-1)) (v := (-1 : Int32)) rfl (hX10_readArea.at 15 rfl rfl) ?_
    refine os_icmp_ne (off := 15) (tgt := 43) rfl (hX10_readArea.at 16 rfl rfl) ?_ ?_
    · exact osW.sub [] rfl (sX10_readArea_43 N )
    · refine os_aload_n (i := 0) (q := 0) (v := l0) 0 rfl rfl (hX10_readArea.at 17 rfl rfl) ?_
      refine os_iconst (i := 2) (v := (2 : Int32)) rfl (hX10_readArea.at 18 rfl rfl) ?_
      refine os_aload_n (i := 0) (q := 0) (v := l0) 0 rfl rfl (hX10_readArea.at 19 rfl rfl) ?_
      refine os_getI fX10_164 (hX10_readArea.at 20 rfl rfl) (fun x5 => ?_)
      refine os_callV (cis := [8]) (b := l0) (As := [.int (2 : Int32), .int x5]) (st := []) (st' := (fun r => .int r :: [])) sl8_X10_fails_X10_fails mdX10_fails wd1806 wd1808 (sX10_fails N l0 (2 : Int32) x5) rfl rfl (fun _ => rfl) (Nat.le_of_ble_eq_true rfl) (Nat.le_of_ble_eq_true rfl) (Nat.le_of_ble_eq_true rfl) rfl (Nat.le_of_ble_eq_true rfl) rfl (Nat.le_of_ble_eq_true rfl) (hX10_readArea.at 21 rfl rfl) (fun x6 => ?_)
      refine os_if_eq (off := 7) (tgt := 47) rfl (hX10_readArea.at 22 rfl rfl) ?_ ?_
      · refine os_iconst (i := 0) (v := (0 : Int32)) rfl (hX10_readArea.at 25 rfl rfl) ?_
        exact osW.sub [] rfl (sX10_readArea_48 N (0 : Int32))
      · exact osW.sub [] rfl (sX10_readArea_43 N )
  · refine os_iconst (i := 0) (v := (0 : Int32)) rfl (hX10_readArea.at 3 rfl rfl) ?_
    exact os_zret (Nat.le_of_ble_eq_true rfl) (Nat.le_of_ble_eq_true rfl) (hX10_readArea.at 4 rfl rfl).1
-- X10_readDraftArea
def KX10_readDraftArea : List (Nat × Nat × Instr) := [(0, 1, .aload_n 0), (1, 1, .aload_n 0), (2, 3, .getfield 29), (5, 1, .aload_n 0), (6, 3, .getfield 13), (9, 1, .iconst 0), (10, 1, .iaload), (11, 3, .invokevirtual 248), (14, 1, .ireturn)]
theorem hX10_readDraftArea : osDs cX10_readDraftArea KX10_readDraftArea := by
  show ∀ q ∈ KX10_readDraftArea, decode cX10_readDraftArea q.1 = .ok (q.2.2, q.2.1)
  decide +kernel
def qX10_readDraftArea (N : Nat) (l0 : Nat) : osM Int32 := osbind (osgR [8] 7 l0) fun x1 => osbind (osgR [8] 2 l0) fun x2 => osbind (osaI 0 x2 (0 : Int32)) fun x3 => osbind (osrecv [8] l0 (qX10_readArea N l0 x1 x3)) fun x4 => osretZ x4
set_option maxRecDepth 100000 in
set_option maxHeartbeats 4000000 in
theorem sX10_readDraftArea (N : Nat) (l0 : Nat) : osMet yX10_readDraftArea cX10_readDraftArea 1 (some .boolean) 6 124 0 0 (fun r : Int32 => some (.int r)) [.ref l0] (qX10_readDraftArea N l0) := by
  refine osMet.of plX10 (Nat.le_of_ble_eq_true rfl) (osW.rw (lv2 := [(0, .ref l0)]) ?_ rfl rfl rfl)
  unfold qX10_readDraftArea
  refine os_aload_n (i := 0) (q := 0) (v := l0) 0 rfl rfl (hX10_readDraftArea.at 0 rfl rfl) ?_
  refine os_aload_n (i := 0) (q := 0) (v := l0) 0 rfl rfl (hX10_readDraftArea.at 1 rfl rfl) ?_
  refine os_getR fX10_29 (hX10_readDraftArea.at 2 rfl rfl) (fun x1 => ?_)
  refine os_aload_n (i := 0) (q := 0) (v := l0) 0 rfl rfl (hX10_readDraftArea.at 3 rfl rfl) ?_
  refine os_getR fX10_13 (hX10_readDraftArea.at 4 rfl rfl) (fun x2 => ?_)
  refine os_iconst (i := 0) (v := (0 : Int32)) rfl (hX10_readDraftArea.at 5 rfl rfl) ?_
  refine os_iaload (hX10_readDraftArea.at 6 rfl rfl) (fun x3 => ?_)
  refine os_callV (cis := [8]) (b := l0) (As := [.ref x1, .int x3]) (st := []) (st' := (fun r => .int r :: [])) sl8_X10_readArea_X10_readArea mdX10_readArea wd1856 wd1858 (sX10_readArea N l0 x1 x3) rfl rfl (fun _ => rfl) (Nat.le_of_ble_eq_true rfl) (Nat.le_of_ble_eq_true rfl) (Nat.le_of_ble_eq_true rfl) rfl (Nat.le_of_ble_eq_true rfl) rfl (Nat.le_of_ble_eq_true rfl) (hX10_readDraftArea.at 7 rfl rfl) (fun x4 => ?_)
  exact os_zret (Nat.le_of_ble_eq_true rfl) (Nat.le_of_ble_eq_true rfl) (hX10_readDraftArea.at 8 rfl rfl).1
-- X10_readNewArea
def KX10_readNewArea : List (Nat × Nat × Instr) := [(0, 1, .aload_n 0), (1, 3, .getfield 13), (4, 1, .iconst 0), (5, 1, .iaload), (6, 1, .istore_n 2), (7, 1, .iload_n 2), (8, 2, .bipush 16), (10, 3, .if_icmp .ne 13), (13, 1, .aload_n 0), (14, 1, .iconst 5), (15, 1, .aload_n 0), (16, 3, .getfield 164), (19, 3, .invokevirtual 195), (22, 1, .ireturn), (23, 1, .aload_n 0), (24, 3, .invokevirtual 238), (27, 3, .ifCond .ne 5), (30, 1, .iconst 0), (31, 1, .ireturn), (32, 1, .aload_n 0), (33, 3, .getfield 29), (36, 1, .iconst 0), (37, 1, .iload_n 2), (38, 1, .aload_n 0), (39, 3, .getfield 177), (42, 3, .invokestatic 241), (45, 1, .iconst (-1)), (46, 3, .if_icmp .eq 13), (49, 1, .aload_n 0), (50, 1, .iconst 3), (51, 1, .aload_n 0), (52, 3, .getfield 164), (55, 3, .invokevirtual 195), (58, 1, .ireturn), (59, 1, .aload_n 0), (60, 3, .getfield 29), (63, 1, .iload_n 2), (64, 1, .aload_n 0), (65, 3, .getfield 177), (68, 1, .lastore), (69, 1, .aload_n 0), (70, 3, .getfield 13), (73, 1, .iconst 2), (74, 1, .iload_n 2), (75, 1, .iadd), (76, 1, .iload_n 1), (77, 1, .iastore), (78, 1, .aload_n 0), (79, 3, .ldc2_w 208), (82, 3, .invokevirtual 252), (85, 3, .ifCond .eq 28), (88, 1, .iload_n 1), (89, 1, .iconst 2), (90, 3, .if_icmp .ne 13), (93, 1, .aload_n 0), (94, 1, .iconst 4), (95, 1, .aload_n 0), (96, 3, .getfield 164), (99, 3, .invokevirtual 195), (102, 1, .ireturn), (103, 1, .aload_n 0), (104, 3, .getfield 13), (107, 2, .bipush 18), (109, 1, .iload_n 2), (110, 1, .iadd), (111, 1, .iconst 1), (112, 1, .iastore), (113, 1, .aload_n 0), (114, 3, .getfield 13), (117, 1, .iconst 0), (118, 1, .iload_n 2), (119, 1, .iconst 1), (120, 1, .iadd), (121, 1, .iastore), (122, 1, .iconst 1), (123, 1, .ireturn)]
theorem hX10_readNewArea : osDs cX10_readNewArea KX10_readNewArea := by
  show ∀ q ∈ KX10_readNewArea, decode cX10_readNewArea q.1 = .ok (q.2.2, q.2.1)
  decide +kernel
def qX10_readNewArea_113 (N : Nat) (l0 : Nat) (l2 : Int32) : osM Int32 := osbind (osgR [8] 2 l0) fun x1 => osbind (ossI 0 x1 (0 : Int32) (l2 + (1 : Int32))) fun _ => osretZ (1 : Int32)
def qX10_readNewArea (N : Nat) (l0 : Nat) (l1 : Int32) : osM Int32 := osbind (osgR [8] 2 l0) fun x1 => osbind (osaI 0 x1 (0 : Int32)) fun x2 => osite (x2 = (16 : Int32)) (osbind (osgI [8] 13 l0) fun x16 => osbind (osrecv [8] l0 (qX10_fails N l0 (5 : Int32) x16)) fun x17 => osretZ x17) (osbind (osrecv [8] l0 (qX10_readName N l0)) fun x3 => osite (x3 = 0) (osretZ (0 : Int32)) (osbind (osgR [8] 7 l0) fun x4 => osbind (osgJ [8] 18 l0) fun x5 => osbind (qX10_numberOf N x4 (0 : Int32) x2 x5) fun x6 => osite (x6 = (-1 : Int32)) (osbind (osgR [8] 7 l0) fun x7 => osbind (osgJ [8] 18 l0) fun x8 => osbind (ossJ 2 x7 x2 x8) fun _ => osbind (osgR [8] 2 l0) fun x9 => osbind (ossI 0 x9 ((2 : Int32) + x2) l1) fun _ => osbind (osrecv [8] l0 (qX10_takesIf N l0 (106385586 : Int64))) fun x10 => osite (x10 = 0) (qX10_readNewArea_113 N l0 x2) (osite (l1 = (2 : Int32)) (osbind (osgI [8] 13 l0) fun x12 => osbind (osrecv [8] l0 (qX10_fails N l0 (4 : Int32) x12)) fun x13 => osretZ x13) (osbind (osgR [8] 2 l0) fun x11 => osbind (ossI 0 x11 ((18 : Int32) + x2) (1 : Int32)) fun _ => qX10_readNewArea_113 N l0 x2))) (osbind (osgI [8] 13 l0) fun x14 => osbind (osrecv [8] l0 (qX10_fails N l0 (3 : Int32) x14)) fun x15 => osretZ x15)))
set_option maxRecDepth 100000 in
set_option maxHeartbeats 4000000 in
theorem sX10_readNewArea_113 (N : Nat) (l0 : Nat) (l2 : Int32) : osW (osFinM (fun r : Int32 => some (.int r)) 0 0) yX10_readNewArea cX10_readNewArea 3 (some .boolean) [] { frames := 5, cells := 0, slots := 0, locals := 106 } 0 0 113 [(0, .ref l0), (2, .int l2)] [] (qX10_readNewArea_113 N l0 l2) := by
  unfold qX10_readNewArea_113
  refine os_aload_n (i := 0) (q := 0) (v := l0) 0 rfl rfl (hX10_readNewArea.at 67 rfl rfl) ?_
  refine os_getR fX10_13 (hX10_readNewArea.at 68 rfl rfl) (fun x1 => ?_)
  refine os_iconst (i := 0) (v := (0 : Int32)) rfl (hX10_readNewArea.at 69 rfl rfl) ?_
  refine os_iload_n (i := 2) (q := 2) (v := l2) 1 rfl rfl (hX10_readNewArea.at 70 rfl rfl) ?_
  refine os_iconst (i := 1) (v := (1 : Int32)) rfl (hX10_readNewArea.at 71 rfl rfl) ?_
  refine os_iadd (hX10_readNewArea.at 72 rfl rfl) ?_
  refine os_iastore (hX10_readNewArea.at 73 rfl rfl) ?_
  refine os_iconst (i := 1) (v := (1 : Int32)) rfl (hX10_readNewArea.at 74 rfl rfl) ?_
  exact os_zret (Nat.le_of_ble_eq_true rfl) (Nat.le_of_ble_eq_true rfl) (hX10_readNewArea.at 75 rfl rfl).1
set_option maxRecDepth 100000 in
set_option maxHeartbeats 4000000 in
theorem sX10_readNewArea (N : Nat) (l0 : Nat) (l1 : Int32) : osMet yX10_readNewArea cX10_readNewArea 3 (some .boolean) 5 106 0 0 (fun r : Int32 => some (.int r)) [.ref l0, .int l1] (qX10_readNewArea N l0 l1) := by
  refine osMet.of plX10 (Nat.le_of_ble_eq_true rfl) (osW.rw (lv2 := [(0, .ref l0), (1, .int l1)]) ?_ rfl rfl rfl)
  unfold qX10_readNewArea
  refine os_aload_n (i := 0) (q := 0) (v := l0) 0 rfl rfl (hX10_readNewArea.at 0 rfl rfl) ?_
  refine os_getR fX10_13 (hX10_readNewArea.at 1 rfl rfl) (fun x1 => ?_)
  refine os_iconst (i := 0) (v := (0 : Int32)) rfl (hX10_readNewArea.at 2 rfl rfl) ?_
  refine os_iaload (hX10_readNewArea.at 3 rfl rfl) (fun x2 => ?_)
  refine os_istore_n (i := 2) (q := 2) rfl (lv' := [(2, .int x2), (0, .ref l0), (1, .int l1)]) (Nat.le_of_ble_eq_true rfl) rfl (hX10_readNewArea.at 4 rfl rfl) ?_
  refine os_iload_n (i := 2) (q := 2) (v := x2) 0 rfl rfl (hX10_readNewArea.at 5 rfl rfl) ?_
  refine os_bipush (i := 16) (v := (16 : Int32)) rfl (hX10_readNewArea.at 6 rfl rfl) ?_
  refine os_icmp_ne (off := 13) (tgt := 23) rfl (hX10_readNewArea.at 7 rfl rfl) ?_ ?_
  · refine os_aload_n (i := 0) (q := 0) (v := l0) 1 rfl rfl (hX10_readNewArea.at 14 rfl rfl) ?_
    refine os_callV (cis := [8]) (b := l0) (As := []) (st := []) (st' := (fun r => .int r :: [])) sl8_X10_readName_X10_readName mdX10_readName wd1817 wd1819 (sX10_readName N l0 ) rfl rfl (fun _ => rfl) (Nat.le_of_ble_eq_true rfl) (Nat.le_of_ble_eq_true rfl) (Nat.le_of_ble_eq_true rfl) rfl (Nat.le_of_ble_eq_true rfl) rfl (Nat.le_of_ble_eq_true rfl) (hX10_readNewArea.at 15 rfl rfl) (fun x3 => ?_)
    refine os_if_ne (off := 5) (tgt := 32) rfl (hX10_readNewArea.at 16 rfl rfl) ?_ ?_
    · refine os_aload_n (i := 0) (q := 0) (v := l0) 1 rfl rfl (hX10_readNewArea.at 19 rfl rfl) ?_
      refine os_getR fX10_29 (hX10_readNewArea.at 20 rfl rfl) (fun x4 => ?_)
      refine os_iconst (i := 0) (v := (0 : Int32)) rfl (hX10_readNewArea.at 21 rfl rfl) ?_
      refine os_iload_n (i := 2) (q := 2) (v := x2) 0 rfl rfl (hX10_readNewArea.at 22 rfl rfl) ?_
      refine os_aload_n (i := 0) (q := 0) (v := l0) 1 rfl rfl (hX10_readNewArea.at 23 rfl rfl) ?_
      refine os_getJ fX10_177 (hX10_readNewArea.at 24 rfl rfl) (fun x5 => ?_)
      refine os_callS (As := [.ref x4, .int (0 : Int32), .int x2, .long x5]) (st := []) (st' := (fun r => .int r :: [])) mdX10_numberOf wd1837 wd1838 (sX10_numberOf N x4 (0 : Int32) x2 x5) rfl rfl (fun _ => rfl) (Nat.le_of_ble_eq_true rfl) (Nat.le_of_ble_eq_true rfl) (Nat.le_of_ble_eq_true rfl) rfl (Nat.le_of_ble_eq_true rfl) rfl (Nat.le_of_ble_eq_true rfl) (hX10_readNewArea.at 25 rfl rfl) (fun x6 => ?_)
      refine os_iconst (i := (-1)) (v := (-1 : Int32)) rfl (hX10_readNewArea.at 26 rfl rfl) ?_
      refine os_icmp_eq (off := 13) (tgt := 59) rfl (hX10_readNewArea.at 27 rfl rfl) ?_ ?_
      · refine os_aload_n (i := 0) (q := 0) (v := l0) 1 rfl rfl (hX10_readNewArea.at 34 rfl rfl) ?_
        refine os_getR fX10_29 (hX10_readNewArea.at 35 rfl rfl) (fun x7 => ?_)
        refine os_iload_n (i := 2) (q := 2) (v := x2) 0 rfl rfl (hX10_readNewArea.at 36 rfl rfl) ?_
        refine os_aload_n (i := 0) (q := 0) (v := l0) 1 rfl rfl (hX10_readNewArea.at 37 rfl rfl) ?_
        refine os_getJ fX10_177 (hX10_readNewArea.at 38 rfl rfl) (fun x8 => ?_)
        refine os_lastore (hX10_readNewArea.at 39 rfl rfl) ?_
        refine os_aload_n (i := 0) (q := 0) (v := l0) 1 rfl rfl (hX10_readNewArea.at 40 rfl rfl) ?_
        refine os_getR fX10_13 (hX10_readNewArea.at 41 rfl rfl) (fun x9 => ?_)
        refine os_iconst (i := 2) (v := (2 : Int32)) rfl (hX10_readNewArea.at 42 rfl rfl) ?_
        refine os_iload_n (i := 2) (q := 2) (v := x2) 0 rfl rfl (hX10_readNewArea.at 43 rfl rfl) ?_
        refine os_iadd (hX10_readNewArea.at 44 rfl rfl) ?_
        refine os_iload_n (i := 1) (q := 1) (v := l1) 2 rfl rfl (hX10_readNewArea.at 45 rfl rfl) ?_
        refine os_iastore (hX10_readNewArea.at 46 rfl rfl) ?_
        refine os_aload_n (i := 0) (q := 0) (v := l0) 1 rfl rfl (hX10_readNewArea.at 47 rfl rfl) ?_
        refine os_ldc2 (v := (106385586 : Int64)) wd1825 (hX10_readNewArea.at 48 rfl rfl) ?_
        refine os_callV (cis := [8]) (b := l0) (As := [.long (106385586 : Int64)]) (st := []) (st' := (fun r => .int r :: [])) sl8_X10_takesIf_X10_takesIf mdX10_takesIf wd1840 wd1842 (sX10_takesIf N l0 (106385586 : Int64)) rfl rfl (fun _ => rfl) (Nat.le_of_ble_eq_true rfl) (Nat.le_of_ble_eq_true rfl) (Nat.le_of_ble_eq_true rfl) rfl (Nat.le_of_ble_eq_true rfl) rfl (Nat.le_of_ble_eq_true rfl) (hX10_readNewArea.at 49 rfl rfl) (fun x10 => ?_)
        refine os_if_eq (off := 28) (tgt := 113) rfl (hX10_readNewArea.at 50 rfl rfl) ?_ ?_
        · exact osW.sub [1, 0] rfl (sX10_readNewArea_113 N l0 x2)
        · refine os_iload_n (i := 1) (q := 1) (v := l1) 2 rfl rfl (hX10_readNewArea.at 51 rfl rfl) ?_
          refine os_iconst (i := 2) (v := (2 : Int32)) rfl (hX10_readNewArea.at 52 rfl rfl) ?_
          refine os_icmp_ne (off := 13) (tgt := 103) rfl (hX10_readNewArea.at 53 rfl rfl) ?_ ?_
          · refine os_aload_n (i := 0) (q := 0) (v := l0) 1 rfl rfl (hX10_readNewArea.at 60 rfl rfl) ?_
            refine os_getR fX10_13 (hX10_readNewArea.at 61 rfl rfl) (fun x11 => ?_)
            refine os_bipush (i := 18) (v := (18 : Int32)) rfl (hX10_readNewArea.at 62 rfl rfl) ?_
            refine os_iload_n (i := 2) (q := 2) (v := x2) 0 rfl rfl (hX10_readNewArea.at 63 rfl rfl) ?_
            refine os_iadd (hX10_readNewArea.at 64 rfl rfl) ?_
            refine os_iconst (i := 1) (v := (1 : Int32)) rfl (hX10_readNewArea.at 65 rfl rfl) ?_
            refine os_iastore (hX10_readNewArea.at 66 rfl rfl) ?_
            exact osW.sub [1, 0] rfl (sX10_readNewArea_113 N l0 x2)
          · refine os_aload_n (i := 0) (q := 0) (v := l0) 1 rfl rfl (hX10_readNewArea.at 54 rfl rfl) ?_
            refine os_iconst (i := 4) (v := (4 : Int32)) rfl (hX10_readNewArea.at 55 rfl rfl) ?_
            refine os_aload_n (i := 0) (q := 0) (v := l0) 1 rfl rfl (hX10_readNewArea.at 56 rfl rfl) ?_
            refine os_getI fX10_164 (hX10_readNewArea.at 57 rfl rfl) (fun x12 => ?_)
            refine os_callV (cis := [8]) (b := l0) (As := [.int (4 : Int32), .int x12]) (st := []) (st' := (fun r => .int r :: [])) sl8_X10_fails_X10_fails mdX10_fails wd1806 wd1808 (sX10_fails N l0 (4 : Int32) x12) rfl rfl (fun _ => rfl) (Nat.le_of_ble_eq_true rfl) (Nat.le_of_ble_eq_true rfl) (Nat.le_of_ble_eq_true rfl) rfl (Nat.le_of_ble_eq_true rfl) rfl (Nat.le_of_ble_eq_true rfl) (hX10_readNewArea.at 58 rfl rfl) (fun x13 => ?_)
            exact os_zret (Nat.le_of_ble_eq_true rfl) (Nat.le_of_ble_eq_true rfl) (hX10_readNewArea.at 59 rfl rfl).1
      · refine os_aload_n (i := 0) (q := 0) (v := l0) 1 rfl rfl (hX10_readNewArea.at 28 rfl rfl) ?_
        refine os_iconst (i := 3) (v := (3 : Int32)) rfl (hX10_readNewArea.at 29 rfl rfl) ?_
        refine os_aload_n (i := 0) (q := 0) (v := l0) 1 rfl rfl (hX10_readNewArea.at 30 rfl rfl) ?_
        refine os_getI fX10_164 (hX10_readNewArea.at 31 rfl rfl) (fun x14 => ?_)
        refine os_callV (cis := [8]) (b := l0) (As := [.int (3 : Int32), .int x14]) (st := []) (st' := (fun r => .int r :: [])) sl8_X10_fails_X10_fails mdX10_fails wd1806 wd1808 (sX10_fails N l0 (3 : Int32) x14) rfl rfl (fun _ => rfl) (Nat.le_of_ble_eq_true rfl) (Nat.le_of_ble_eq_true rfl) (Nat.le_of_ble_eq_true rfl) rfl (Nat.le_of_ble_eq_true rfl) rfl (Nat.le_of_ble_eq_true rfl) (hX10_readNewArea.at 32 rfl rfl) (fun x15 => ?_)
        exact os_zret (Nat.le_of_ble_eq_true rfl) (Nat.le_of_ble_eq_true rfl) (hX10_readNewArea.at 33 rfl rfl).1
    · refine os_iconst (i := 0) (v := (0 : Int32)) rfl (hX10_readNewArea.at 17 rfl rfl) ?_
      exact os_zret (Nat.le_of_ble_eq_true rfl) (Nat.le_of_ble_eq_true rfl) (hX10_readNewArea.at 18 rfl rfl).1
  · refine os_aload_n (i := 0) (q := 0) (v := l0) 1 rfl rfl (hX10_readNewArea.at 8 rfl rfl) ?_
    refine os_iconst (i := 5) (v := (5 : Int32)) rfl (hX10_readNewArea.at 9 rfl rfl) ?_
    refine os_aload_n (i := 0) (q := 0) (v := l0) 1 rfl rfl (hX10_readNewArea.at 10 rfl rfl) ?_
    refine os_getI fX10_164 (hX10_readNewArea.at 11 rfl rfl) (fun x16 => ?_)
    refine os_callV (cis := [8]) (b := l0) (As := [.int (5 : Int32), .int x16]) (st := []) (st' := (fun r => .int r :: [])) sl8_X10_fails_X10_fails mdX10_fails wd1806 wd1808 (sX10_fails N l0 (5 : Int32) x16) rfl rfl (fun _ => rfl) (Nat.le_of_ble_eq_true rfl) (Nat.le_of_ble_eq_true rfl) (Nat.le_of_ble_eq_true rfl) rfl (Nat.le_of_ble_eq_true rfl) rfl (Nat.le_of_ble_eq_true rfl) (hX10_readNewArea.at 12 rfl rfl) (fun x17 => ?_)
    exact os_zret (Nat.le_of_ble_eq_true rfl) (Nat.le_of_ble_eq_true rfl) (hX10_readNewArea.at 13 rfl rfl).1
-- X10_joins
def KX10_joins : List (Nat × Nat × Instr) := [(0, 1, .aload_n 0), (1, 3, .getfield 13), (4, 1, .iload_n 1), (5, 1, .iload_n 2), (6, 1, .iadd), (7, 1, .aload_n 0), (8, 3, .getfield 13), (11, 1, .iload_n 1), (12, 1, .iload_n 2), (13, 1, .iadd), (14, 1, .iaload), (15, 1, .iconst 1), (16, 1, .iload_n 3), (17, 1, .ishl), (18, 1, .ior), (19, 1, .iastore), (20, 1, .aload_n 0), (21, 3, .getfield 13), (24, 1, .iload_n 1), (25, 1, .iload_n 3), (26, 1, .iadd), (27, 1, .aload_n 0), (28, 3, .getfield 13), (31, 1, .iload_n 1), (32, 1, .iload_n 3), (33, 1, .iadd), (34, 1, .iaload), (35, 1, .iconst 1), (36, 1, .iload_n 2), (37, 1, .ishl), (38, 1, .ior), (39, 1, .iastore), (40, 1, .return_)]
theorem hX10_joins : osDs cX10_joins KX10_joins := by
  show ∀ q ∈ KX10_joins, decode cX10_joins q.1 = .ok (q.2.2, q.2.1)
  decide +kernel
def qX10_joins (N : Nat) (l0 : Nat) (l1 : Int32) (l2 : Int32) (l3 : Int32) : osM Unit := osbind (osgR [8] 2 l0) fun x1 => osbind (osgR [8] 2 l0) fun x2 => osbind (osaI 0 x2 (l1 + l2)) fun x3 => osbind (ossI 0 x1 (l1 + l2) (x3 ||| (osshl (1 : Int32) l3))) fun _ => osbind (osgR [8] 2 l0) fun x4 => osbind (osgR [8] 2 l0) fun x5 => osbind (osaI 0 x5 (l1 + l3)) fun x6 => osbind (ossI 0 x4 (l1 + l3) (x6 ||| (osshl (1 : Int32) l2))) fun _ => osret ()
set_option maxRecDepth 100000 in
set_option maxHeartbeats 4000000 in
theorem sX10_joins (N : Nat) (l0 : Nat) (l1 : Int32) (l2 : Int32) (l3 : Int32) : osMet yX10_joins cX10_joins 4 none 0 0 0 0 (fun _ : Unit => none) [.ref l0, .int l1, .int l2, .int l3] (qX10_joins N l0 l1 l2 l3) := by
  refine osMet.of plX10 (Nat.le_of_ble_eq_true rfl) (osW.rw (lv2 := [(0, .ref l0), (1, .int l1), (2, .int l2), (3, .int l3)]) ?_ rfl rfl rfl)
  unfold qX10_joins
  refine os_aload_n (i := 0) (q := 0) (v := l0) 0 rfl rfl (hX10_joins.at 0 rfl rfl) ?_
  refine os_getR fX10_13 (hX10_joins.at 1 rfl rfl) (fun x1 => ?_)
  refine os_iload_n (i := 1) (q := 1) (v := l1) 1 rfl rfl (hX10_joins.at 2 rfl rfl) ?_
  refine os_iload_n (i := 2) (q := 2) (v := l2) 2 rfl rfl (hX10_joins.at 3 rfl rfl) ?_
  refine os_iadd (hX10_joins.at 4 rfl rfl) ?_
  refine os_aload_n (i := 0) (q := 0) (v := l0) 0 rfl rfl (hX10_joins.at 5 rfl rfl) ?_
  refine os_getR fX10_13 (hX10_joins.at 6 rfl rfl) (fun x2 => ?_)
  refine os_iload_n (i := 1) (q := 1) (v := l1) 1 rfl rfl (hX10_joins.at 7 rfl rfl) ?_
  refine os_iload_n (i := 2) (q := 2) (v := l2) 2 rfl rfl (hX10_joins.at 8 rfl rfl) ?_
  refine os_iadd (hX10_joins.at 9 rfl rfl) ?_
  refine os_iaload (hX10_joins.at 10 rfl rfl) (fun x3 => ?_)
  refine os_iconst (i := 1) (v := (1 : Int32)) rfl (hX10_joins.at 11 rfl rfl) ?_
  refine os_iload_n (i := 3) (q := 3) (v := l3) 3 rfl rfl (hX10_joins.at 12 rfl rfl) ?_
  refine os_ishl (hX10_joins.at 13 rfl rfl) ?_
  refine os_ior (hX10_joins.at 14 rfl rfl) ?_
  refine os_iastore (hX10_joins.at 15 rfl rfl) ?_
  refine os_aload_n (i := 0) (q := 0) (v := l0) 0 rfl rfl (hX10_joins.at 16 rfl rfl) ?_
  refine os_getR fX10_13 (hX10_joins.at 17 rfl rfl) (fun x4 => ?_)
  refine os_iload_n (i := 1) (q := 1) (v := l1) 1 rfl rfl (hX10_joins.at 18 rfl rfl) ?_
  refine os_iload_n (i := 3) (q := 3) (v := l3) 3 rfl rfl (hX10_joins.at 19 rfl rfl) ?_
  refine os_iadd (hX10_joins.at 20 rfl rfl) ?_
  refine os_aload_n (i := 0) (q := 0) (v := l0) 0 rfl rfl (hX10_joins.at 21 rfl rfl) ?_
  refine os_getR fX10_13 (hX10_joins.at 22 rfl rfl) (fun x5 => ?_)
  refine os_iload_n (i := 1) (q := 1) (v := l1) 1 rfl rfl (hX10_joins.at 23 rfl rfl) ?_
  refine os_iload_n (i := 3) (q := 3) (v := l3) 3 rfl rfl (hX10_joins.at 24 rfl rfl) ?_
  refine os_iadd (hX10_joins.at 25 rfl rfl) ?_
  refine os_iaload (hX10_joins.at 26 rfl rfl) (fun x6 => ?_)
  refine os_iconst (i := 1) (v := (1 : Int32)) rfl (hX10_joins.at 27 rfl rfl) ?_
  refine os_iload_n (i := 2) (q := 2) (v := l2) 2 rfl rfl (hX10_joins.at 28 rfl rfl) ?_
  refine os_ishl (hX10_joins.at 29 rfl rfl) ?_
  refine os_ior (hX10_joins.at 30 rfl rfl) ?_
  refine os_iastore (hX10_joins.at 31 rfl rfl) ?_
  exact os_vret (Nat.le_of_ble_eq_true rfl) (Nat.le_of_ble_eq_true rfl) (hX10_joins.at 32 rfl rfl).1
-- X10_readPower
def KX10_readPower : List (Nat × Nat × Instr) := [(0, 1, .aload_n 0), (1, 3, .getfield 13), (4, 1, .iconst 1), (5, 1, .iaload), (6, 1, .istore_n 1), (7, 1, .iload_n 1), (8, 1, .iconst 4), (9, 3, .if_icmp .ne 13), (12, 1, .aload_n 0), (13, 1, .iconst 5), (14, 1, .aload_n 0), (15, 3, .getfield 164), (18, 3, .invokevirtual 195), (21, 1, .ireturn), (22, 1, .aload_n 0), (23, 3, .invokevirtual 238), (26, 3, .ifCond .ne 5), (29, 1, .iconst 0), (30, 1, .ireturn), (31, 1, .aload_n 0), (32, 3, .getfield 29), (35, 2, .bipush 16), (37, 1, .iload_n 1), (38, 1, .aload_n 0), (39, 3, .getfield 177), (42, 3, .invokestatic 241), (45, 1, .iconst (-1)), (46, 3, .if_icmp .eq 13), (49, 1, .aload_n 0), (50, 1, .iconst 3), (51, 1, .aload_n 0), (52, 3, .getfield 164), (55, 3, .invokevirtual 195), (58, 1, .ireturn), (59, 1, .aload_n 0), (60, 3, .getfield 29), (63, 2, .bipush 16), (65, 1, .iload_n 1), (66, 1, .iadd), (67, 1, .aload_n 0), (68, 3, .getfield 177), (71, 1, .lastore), (72, 1, .aload_n 0), (73, 3, .getfield 13), (76, 1, .iconst 1), (77, 1, .iload_n 1), (78, 1, .iconst 1), (79, 1, .iadd), (80, 1, .iastore), (81, 1, .aload_n 0), (82, 3, .invokevirtual 167), (85, 3, .invokestatic 171), (88, 3, .ifCond .eq 91), (91, 1, .aload_n 0), (92, 3, .invokevirtual 255), (95, 3, .ifCond .ne 5), (98, 1, .iconst 0), (99, 1, .ireturn), (100, 1, .aload_n 0), (101, 3, .getfield 13), (104, 2, .bipush 34), (106, 1, .aload_n 0), (107, 3, .getfield 245), (110, 1, .iadd), (111, 1, .iaload), (112, 1, .iconst (-1)), (113, 3, .if_icmp .eq 13), (116, 1, .aload_n 0), (117, 1, .iconst 3), (118, 1, .aload_n 0), (119, 3, .getfield 164), (122, 3, .invokevirtual 195), (125, 1, .ireturn), (126, 1, .aload_n 0), (127, 3, .getfield 13), (130, 2, .bipush 18), (132, 1, .aload_n 0), (133, 3, .getfield 245), (136, 1, .iadd), (137, 1, .iaload), (138, 3, .ifCond .ne 13), (141, 1, .aload_n 0), (142, 1, .iconst 4), (143, 1, .aload_n 0), (144, 3, .getfield 164), (147, 3, .invokevirtual 195), (150, 1, .ireturn), (151, 1, .aload_n 0), (152, 3, .getfield 13), (155, 2, .bipush 34), (157, 1, .aload_n 0), (158, 3, .getfield 245), (161, 1, .iadd), (162, 1, .iload_n 1), (163, 1, .iastore), (164, 1, .aload_n 0), (165, 3, .getfield 19), (168, 1, .iconst 5), (169, 1, .aload_n 0), (170, 3, .getfield 245), (173, 1, .iadd), (174, 1, .iload_n 1), (175, 1, .iastore), (176, 3, .goto (-95)), (179, 1, .iconst 1), (180, 1, .ireturn)]
theorem hX10_readPower : osDs cX10_readPower KX10_readPower := by
  show ∀ q ∈ KX10_readPower, decode cX10_readPower q.1 = .ok (q.2.2, q.2.1)
  decide +kernel
def bX10_readPower_81 (N : Nat) (c81 : Nat × Int32 → osM Int32) (l0 : Nat) (l1 : Int32) : osM Int32 := osbind (osrecv [8] l0 (qX10_peek N l0)) fun x1 => osbind (qX10_isLetter N x1) fun x2 => osite (x2 = 0) (osretZ (1 : Int32)) (osbind (osrecv [8] l0 (qX10_readDraftArea N l0)) fun x3 => osite (x3 = 0) (osretZ (0 : Int32)) (osbind (osgR [8] 2 l0) fun x4 => osbind (osgI [8] 19 l0) fun x5 => osbind (osaI 0 x4 ((34 : Int32) + x5)) fun x6 => osite (x6 = (-1 : Int32)) (osbind (osgR [8] 2 l0) fun x7 => osbind (osgI [8] 19 l0) fun x8 => osbind (osaI 0 x7 ((18 : Int32) + x8)) fun x9 => osite (x9 = 0) (osbind (osgI [8] 13 l0) fun x14 => osbind (osrecv [8] l0 (qX10_fails N l0 (4 : Int32) x14)) fun x15 => osretZ x15) (osbind (osgR [8] 2 l0) fun x10 => osbind (osgI [8] 19 l0) fun x11 => osbind (ossI 0 x10 ((34 : Int32) + x11) l1) fun _ => osbind (osgR [8] 4 l0) fun x12 => osbind (osgI [8] 19 l0) fun x13 => osbind (ossI 0 x12 ((5 : Int32) + x13) l1) fun _ => c81 (l0, l1))) (osbind (osgI [8] 13 l0) fun x16 => osbind (osrecv [8] l0 (qX10_fails N l0 (3 : Int32) x16)) fun x17 => osretZ x17)))
def qX10_readPower_81 (N : Nat) : Nat × Int32 → osM Int32 := osloop (fun ih p => bX10_readPower_81 N ih p.1 p.2) N
def qX10_readPower (N : Nat) (l0 : Nat) : osM Int32 := osbind (osgR [8] 2 l0) fun x1 => osbind (osaI 0 x1 (1 : Int32)) fun x2 => osite (x2 = (4 : Int32)) (osbind (osgI [8] 13 l0) fun x12 => osbind (osrecv [8] l0 (qX10_fails N l0 (5 : Int32) x12)) fun x13 => osretZ x13) (osbind (osrecv [8] l0 (qX10_readName N l0)) fun x3 => osite (x3 = 0) (osretZ (0 : Int32)) (osbind (osgR [8] 7 l0) fun x4 => osbind (osgJ [8] 18 l0) fun x5 => osbind (qX10_numberOf N x4 (16 : Int32) x2 x5) fun x6 => osite (x6 = (-1 : Int32)) (osbind (osgR [8] 7 l0) fun x7 => osbind (osgJ [8] 18 l0) fun x8 => osbind (ossJ 2 x7 ((16 : Int32) + x2) x8) fun _ => osbind (osgR [8] 2 l0) fun x9 => osbind (ossI 0 x9 (1 : Int32) (x2 + (1 : Int32))) fun _ => qX10_readPower_81 N (l0, x2)) (osbind (osgI [8] 13 l0) fun x10 => osbind (osrecv [8] l0 (qX10_fails N l0 (3 : Int32) x10)) fun x11 => osretZ x11)))
set_option maxRecDepth 100000 in
set_option maxHeartbeats 4000000 in
theorem tX10_readPower_81 (N : Nat) (c81 : Nat × Int32 → osM Int32) (g81 : ∀ (l0 : Nat) (l1 : Int32), osW (osFinM (fun r : Int32 => some (.int r)) 0 0) yX10_readPower cX10_readPower 2 (some .boolean) [] { frames := 7, cells := 0, slots := 0, locals := 144 } 0 0 81 [(0, .ref l0), (1, .int l1)] [] (c81 (l0, l1))) (l0 : Nat) (l1 : Int32) : osW (osFinM (fun r : Int32 => some (.int r)) 0 0) yX10_readPower cX10_readPower 2 (some .boolean) [] { frames := 7, cells := 0, slots := 0, locals := 144 } 0 0 81 [(0, .ref l0), (1, .int l1)] [] (bX10_readPower_81 N c81 l0 l1) := by
  unfold bX10_readPower_81
  refine os_aload_n (i := 0) (q := 0) (v := l0) 0 rfl rfl (hX10_readPower.at 49 rfl rfl) ?_
  refine os_callV (cis := [8]) (b := l0) (As := []) (st := []) (st' := (fun r => .int r :: [])) sl8_X10_peek_X10_peek mdX10_peek wd1777 wd1779 (sX10_peek N l0 ) rfl rfl (fun _ => rfl) (Nat.le_of_ble_eq_true rfl) (Nat.le_of_ble_eq_true rfl) (Nat.le_of_ble_eq_true rfl) rfl (Nat.le_of_ble_eq_true rfl) rfl (Nat.le_of_ble_eq_true rfl) (hX10_readPower.at 50 rfl rfl) (fun x1 => ?_)
  refine os_callS (As := [.int x1]) (st := []) (st' := (fun r => .int r :: [])) mdX10_isLetter wd1797 wd1798 (sX10_isLetter N x1) rfl rfl (fun _ => rfl) (Nat.le_of_ble_eq_true rfl) (Nat.le_of_ble_eq_true rfl) (Nat.le_of_ble_eq_true rfl) rfl (Nat.le_of_ble_eq_true rfl) rfl (Nat.le_of_ble_eq_true rfl) (hX10_readPower.at 51 rfl rfl) (fun x2 => ?_)
  refine os_if_eq (off := 91) (tgt := 179) rfl (hX10_readPower.at 52 rfl rfl) ?_ ?_
  · refine os_iconst (i := 1) (v := (1 : Int32)) rfl (hX10_readPower.at 104 rfl rfl) ?_
    exact os_zret (Nat.le_of_ble_eq_true rfl) (Nat.le_of_ble_eq_true rfl) (hX10_readPower.at 105 rfl rfl).1
  · refine os_aload_n (i := 0) (q := 0) (v := l0) 0 rfl rfl (hX10_readPower.at 53 rfl rfl) ?_
    refine os_callV (cis := [8]) (b := l0) (As := []) (st := []) (st' := (fun r => .int r :: [])) sl8_X10_readDraftArea_X10_readDraftArea mdX10_readDraftArea wd1852 wd1854 (sX10_readDraftArea N l0 ) rfl rfl (fun _ => rfl) (Nat.le_of_ble_eq_true rfl) (Nat.le_of_ble_eq_true rfl) (Nat.le_of_ble_eq_true rfl) rfl (Nat.le_of_ble_eq_true rfl) rfl (Nat.le_of_ble_eq_true rfl) (hX10_readPower.at 54 rfl rfl) (fun x3 => ?_)
    refine os_if_ne (off := 5) (tgt := 100) rfl (hX10_readPower.at 55 rfl rfl) ?_ ?_
    · refine os_aload_n (i := 0) (q := 0) (v := l0) 0 rfl rfl (hX10_readPower.at 58 rfl rfl) ?_
      refine os_getR fX10_13 (hX10_readPower.at 59 rfl rfl) (fun x4 => ?_)
      refine os_bipush (i := 34) (v := (34 : Int32)) rfl (hX10_readPower.at 60 rfl rfl) ?_
      refine os_aload_n (i := 0) (q := 0) (v := l0) 0 rfl rfl (hX10_readPower.at 61 rfl rfl) ?_
      refine os_getI fX10_245 (hX10_readPower.at 62 rfl rfl) (fun x5 => ?_)
      refine os_iadd (hX10_readPower.at 63 rfl rfl) ?_
      refine os_iaload (hX10_readPower.at 64 rfl rfl) (fun x6 => ?_)
      refine os_iconst (i := (-1)) (v := (-1 : Int32)) rfl (hX10_readPower.at 65 rfl rfl) ?_
      refine os_icmp_eq (off := 13) (tgt := 126) rfl (hX10_readPower.at 66 rfl rfl) ?_ ?_
      · refine os_aload_n (i := 0) (q := 0) (v := l0) 0 rfl rfl (hX10_readPower.at 73 rfl rfl) ?_
        refine os_getR fX10_13 (hX10_readPower.at 74 rfl rfl) (fun x7 => ?_)
        refine os_bipush (i := 18) (v := (18 : Int32)) rfl (hX10_readPower.at 75 rfl rfl) ?_
        refine os_aload_n (i := 0) (q := 0) (v := l0) 0 rfl rfl (hX10_readPower.at 76 rfl rfl) ?_
        refine os_getI fX10_245 (hX10_readPower.at 77 rfl rfl) (fun x8 => ?_)
        refine os_iadd (hX10_readPower.at 78 rfl rfl) ?_
        refine os_iaload (hX10_readPower.at 79 rfl rfl) (fun x9 => ?_)
        refine os_if_ne (off := 13) (tgt := 151) rfl (hX10_readPower.at 80 rfl rfl) ?_ ?_
        · refine os_aload_n (i := 0) (q := 0) (v := l0) 0 rfl rfl (hX10_readPower.at 87 rfl rfl) ?_
          refine os_getR fX10_13 (hX10_readPower.at 88 rfl rfl) (fun x10 => ?_)
          refine os_bipush (i := 34) (v := (34 : Int32)) rfl (hX10_readPower.at 89 rfl rfl) ?_
          refine os_aload_n (i := 0) (q := 0) (v := l0) 0 rfl rfl (hX10_readPower.at 90 rfl rfl) ?_
          refine os_getI fX10_245 (hX10_readPower.at 91 rfl rfl) (fun x11 => ?_)
          refine os_iadd (hX10_readPower.at 92 rfl rfl) ?_
          refine os_iload_n (i := 1) (q := 1) (v := l1) 1 rfl rfl (hX10_readPower.at 93 rfl rfl) ?_
          refine os_iastore (hX10_readPower.at 94 rfl rfl) ?_
          refine os_aload_n (i := 0) (q := 0) (v := l0) 0 rfl rfl (hX10_readPower.at 95 rfl rfl) ?_
          refine os_getR fX10_19 (hX10_readPower.at 96 rfl rfl) (fun x12 => ?_)
          refine os_iconst (i := 5) (v := (5 : Int32)) rfl (hX10_readPower.at 97 rfl rfl) ?_
          refine os_aload_n (i := 0) (q := 0) (v := l0) 0 rfl rfl (hX10_readPower.at 98 rfl rfl) ?_
          refine os_getI fX10_245 (hX10_readPower.at 99 rfl rfl) (fun x13 => ?_)
          refine os_iadd (hX10_readPower.at 100 rfl rfl) ?_
          refine os_iload_n (i := 1) (q := 1) (v := l1) 1 rfl rfl (hX10_readPower.at 101 rfl rfl) ?_
          refine os_iastore (hX10_readPower.at 102 rfl rfl) ?_
          refine os_goto (off := (-95)) (tgt := 81) rfl (hX10_readPower.at 103 rfl rfl) ?_
          exact osW.sub [0, 1] rfl (g81 l0 l1)
        · refine os_aload_n (i := 0) (q := 0) (v := l0) 0 rfl rfl (hX10_readPower.at 81 rfl rfl) ?_
          refine os_iconst (i := 4) (v := (4 : Int32)) rfl (hX10_readPower.at 82 rfl rfl) ?_
          refine os_aload_n (i := 0) (q := 0) (v := l0) 0 rfl rfl (hX10_readPower.at 83 rfl rfl) ?_
          refine os_getI fX10_164 (hX10_readPower.at 84 rfl rfl) (fun x14 => ?_)
          refine os_callV (cis := [8]) (b := l0) (As := [.int (4 : Int32), .int x14]) (st := []) (st' := (fun r => .int r :: [])) sl8_X10_fails_X10_fails mdX10_fails wd1806 wd1808 (sX10_fails N l0 (4 : Int32) x14) rfl rfl (fun _ => rfl) (Nat.le_of_ble_eq_true rfl) (Nat.le_of_ble_eq_true rfl) (Nat.le_of_ble_eq_true rfl) rfl (Nat.le_of_ble_eq_true rfl) rfl (Nat.le_of_ble_eq_true rfl) (hX10_readPower.at 85 rfl rfl) (fun x15 => ?_)
          exact os_zret (Nat.le_of_ble_eq_true rfl) (Nat.le_of_ble_eq_true rfl) (hX10_readPower.at 86 rfl rfl).1
      · refine os_aload_n (i := 0) (q := 0) (v := l0) 0 rfl rfl (hX10_readPower.at 67 rfl rfl) ?_
        refine os_iconst (i := 3) (v := (3 : Int32)) rfl (hX10_readPower.at 68 rfl rfl) ?_
        refine os_aload_n (i := 0) (q := 0) (v := l0) 0 rfl rfl (hX10_readPower.at 69 rfl rfl) ?_
        refine os_getI fX10_164 (hX10_readPower.at 70 rfl rfl) (fun x16 => ?_)
        refine os_callV (cis := [8]) (b := l0) (As := [.int (3 : Int32), .int x16]) (st := []) (st' := (fun r => .int r :: [])) sl8_X10_fails_X10_fails mdX10_fails wd1806 wd1808 (sX10_fails N l0 (3 : Int32) x16) rfl rfl (fun _ => rfl) (Nat.le_of_ble_eq_true rfl) (Nat.le_of_ble_eq_true rfl) (Nat.le_of_ble_eq_true rfl) rfl (Nat.le_of_ble_eq_true rfl) rfl (Nat.le_of_ble_eq_true rfl) (hX10_readPower.at 71 rfl rfl) (fun x17 => ?_)
        exact os_zret (Nat.le_of_ble_eq_true rfl) (Nat.le_of_ble_eq_true rfl) (hX10_readPower.at 72 rfl rfl).1
    · refine os_iconst (i := 0) (v := (0 : Int32)) rfl (hX10_readPower.at 56 rfl rfl) ?_
      exact os_zret (Nat.le_of_ble_eq_true rfl) (Nat.le_of_ble_eq_true rfl) (hX10_readPower.at 57 rfl rfl).1
set_option maxRecDepth 100000 in
set_option maxHeartbeats 4000000 in
theorem sX10_readPower_81 (N : Nat) (l0 : Nat) (l1 : Int32) : osW (osFinM (fun r : Int32 => some (.int r)) 0 0) yX10_readPower cX10_readPower 2 (some .boolean) [] { frames := 7, cells := 0, slots := 0, locals := 144 } 0 0 81 [(0, .ref l0), (1, .int l1)] [] (qX10_readPower_81 N (l0, l1)) :=
  osloop_W (lvf := fun p => [(0, .ref p.1), (1, .int p.2)]) (stf := fun p => []) (fun ih g p => tX10_readPower_81 N ih (fun l0 l1 => g (l0, l1)) p.1 p.2) N (l0, l1)
set_option maxRecDepth 100000 in
set_option maxHeartbeats 4000000 in
theorem sX10_readPower (N : Nat) (l0 : Nat) : osMet yX10_readPower cX10_readPower 2 (some .boolean) 7 144 0 0 (fun r : Int32 => some (.int r)) [.ref l0] (qX10_readPower N l0) := by
  refine osMet.of plX10 (Nat.le_of_ble_eq_true rfl) (osW.rw (lv2 := [(0, .ref l0)]) ?_ rfl rfl rfl)
  unfold qX10_readPower
  refine os_aload_n (i := 0) (q := 0) (v := l0) 0 rfl rfl (hX10_readPower.at 0 rfl rfl) ?_
  refine os_getR fX10_13 (hX10_readPower.at 1 rfl rfl) (fun x1 => ?_)
  refine os_iconst (i := 1) (v := (1 : Int32)) rfl (hX10_readPower.at 2 rfl rfl) ?_
  refine os_iaload (hX10_readPower.at 3 rfl rfl) (fun x2 => ?_)
  refine os_istore_n (i := 1) (q := 1) rfl (lv' := [(1, .int x2), (0, .ref l0)]) (Nat.le_of_ble_eq_true rfl) rfl (hX10_readPower.at 4 rfl rfl) ?_
  refine os_iload_n (i := 1) (q := 1) (v := x2) 0 rfl rfl (hX10_readPower.at 5 rfl rfl) ?_
  refine os_iconst (i := 4) (v := (4 : Int32)) rfl (hX10_readPower.at 6 rfl rfl) ?_
  refine os_icmp_ne (off := 13) (tgt := 22) rfl (hX10_readPower.at 7 rfl rfl) ?_ ?_
  · refine os_aload_n (i := 0) (q := 0) (v := l0) 1 rfl rfl (hX10_readPower.at 14 rfl rfl) ?_
    refine os_callV (cis := [8]) (b := l0) (As := []) (st := []) (st' := (fun r => .int r :: [])) sl8_X10_readName_X10_readName mdX10_readName wd1817 wd1819 (sX10_readName N l0 ) rfl rfl (fun _ => rfl) (Nat.le_of_ble_eq_true rfl) (Nat.le_of_ble_eq_true rfl) (Nat.le_of_ble_eq_true rfl) rfl (Nat.le_of_ble_eq_true rfl) rfl (Nat.le_of_ble_eq_true rfl) (hX10_readPower.at 15 rfl rfl) (fun x3 => ?_)
    refine os_if_ne (off := 5) (tgt := 31) rfl (hX10_readPower.at 16 rfl rfl) ?_ ?_
    · refine os_aload_n (i := 0) (q := 0) (v := l0) 1 rfl rfl (hX10_readPower.at 19 rfl rfl) ?_
      refine os_getR fX10_29 (hX10_readPower.at 20 rfl rfl) (fun x4 => ?_)
      refine os_bipush (i := 16) (v := (16 : Int32)) rfl (hX10_readPower.at 21 rfl rfl) ?_
      refine os_iload_n (i := 1) (q := 1) (v := x2) 0 rfl rfl (hX10_readPower.at 22 rfl rfl) ?_
      refine os_aload_n (i := 0) (q := 0) (v := l0) 1 rfl rfl (hX10_readPower.at 23 rfl rfl) ?_
      refine os_getJ fX10_177 (hX10_readPower.at 24 rfl rfl) (fun x5 => ?_)
      refine os_callS (As := [.ref x4, .int (16 : Int32), .int x2, .long x5]) (st := []) (st' := (fun r => .int r :: [])) mdX10_numberOf wd1837 wd1838 (sX10_numberOf N x4 (16 : Int32) x2 x5) rfl rfl (fun _ => rfl) (Nat.le_of_ble_eq_true rfl) (Nat.le_of_ble_eq_true rfl) (Nat.le_of_ble_eq_true rfl) rfl (Nat.le_of_ble_eq_true rfl) rfl (Nat.le_of_ble_eq_true rfl) (hX10_readPower.at 25 rfl rfl) (fun x6 => ?_)
      refine os_iconst (i := (-1)) (v := (-1 : Int32)) rfl (hX10_readPower.at 26 rfl rfl) ?_
      refine os_icmp_eq (off := 13) (tgt := 59) rfl (hX10_readPower.at 27 rfl rfl) ?_ ?_
      · refine os_aload_n (i := 0) (q := 0) (v := l0) 1 rfl rfl (hX10_readPower.at 34 rfl rfl) ?_
        refine os_getR fX10_29 (hX10_readPower.at 35 rfl rfl) (fun x7 => ?_)
        refine os_bipush (i := 16) (v := (16 : Int32)) rfl (hX10_readPower.at 36 rfl rfl) ?_
        refine os_iload_n (i := 1) (q := 1) (v := x2) 0 rfl rfl (hX10_readPower.at 37 rfl rfl) ?_
        refine os_iadd (hX10_readPower.at 38 rfl rfl) ?_
        refine os_aload_n (i := 0) (q := 0) (v := l0) 1 rfl rfl (hX10_readPower.at 39 rfl rfl) ?_
        refine os_getJ fX10_177 (hX10_readPower.at 40 rfl rfl) (fun x8 => ?_)
        refine os_lastore (hX10_readPower.at 41 rfl rfl) ?_
        refine os_aload_n (i := 0) (q := 0) (v := l0) 1 rfl rfl (hX10_readPower.at 42 rfl rfl) ?_
        refine os_getR fX10_13 (hX10_readPower.at 43 rfl rfl) (fun x9 => ?_)
        refine os_iconst (i := 1) (v := (1 : Int32)) rfl (hX10_readPower.at 44 rfl rfl) ?_
        refine os_iload_n (i := 1) (q := 1) (v := x2) 0 rfl rfl (hX10_readPower.at 45 rfl rfl) ?_
        refine os_iconst (i := 1) (v := (1 : Int32)) rfl (hX10_readPower.at 46 rfl rfl) ?_
        refine os_iadd (hX10_readPower.at 47 rfl rfl) ?_
        refine os_iastore (hX10_readPower.at 48 rfl rfl) ?_
        exact osW.sub [1, 0] rfl (sX10_readPower_81 N l0 x2)
      · refine os_aload_n (i := 0) (q := 0) (v := l0) 1 rfl rfl (hX10_readPower.at 28 rfl rfl) ?_
        refine os_iconst (i := 3) (v := (3 : Int32)) rfl (hX10_readPower.at 29 rfl rfl) ?_
        refine os_aload_n (i := 0) (q := 0) (v := l0) 1 rfl rfl (hX10_readPower.at 30 rfl rfl) ?_
        refine os_getI fX10_164 (hX10_readPower.at 31 rfl rfl) (fun x10 => ?_)
        refine os_callV (cis := [8]) (b := l0) (As := [.int (3 : Int32), .int x10]) (st := []) (st' := (fun r => .int r :: [])) sl8_X10_fails_X10_fails mdX10_fails wd1806 wd1808 (sX10_fails N l0 (3 : Int32) x10) rfl rfl (fun _ => rfl) (Nat.le_of_ble_eq_true rfl) (Nat.le_of_ble_eq_true rfl) (Nat.le_of_ble_eq_true rfl) rfl (Nat.le_of_ble_eq_true rfl) rfl (Nat.le_of_ble_eq_true rfl) (hX10_readPower.at 32 rfl rfl) (fun x11 => ?_)
        exact os_zret (Nat.le_of_ble_eq_true rfl) (Nat.le_of_ble_eq_true rfl) (hX10_readPower.at 33 rfl rfl).1
    · refine os_iconst (i := 0) (v := (0 : Int32)) rfl (hX10_readPower.at 17 rfl rfl) ?_
      exact os_zret (Nat.le_of_ble_eq_true rfl) (Nat.le_of_ble_eq_true rfl) (hX10_readPower.at 18 rfl rfl).1
  · refine os_aload_n (i := 0) (q := 0) (v := l0) 1 rfl rfl (hX10_readPower.at 8 rfl rfl) ?_
    refine os_iconst (i := 5) (v := (5 : Int32)) rfl (hX10_readPower.at 9 rfl rfl) ?_
    refine os_aload_n (i := 0) (q := 0) (v := l0) 1 rfl rfl (hX10_readPower.at 10 rfl rfl) ?_
    refine os_getI fX10_164 (hX10_readPower.at 11 rfl rfl) (fun x12 => ?_)
    refine os_callV (cis := [8]) (b := l0) (As := [.int (5 : Int32), .int x12]) (st := []) (st' := (fun r => .int r :: [])) sl8_X10_fails_X10_fails mdX10_fails wd1806 wd1808 (sX10_fails N l0 (5 : Int32) x12) rfl rfl (fun _ => rfl) (Nat.le_of_ble_eq_true rfl) (Nat.le_of_ble_eq_true rfl) (Nat.le_of_ble_eq_true rfl) rfl (Nat.le_of_ble_eq_true rfl) rfl (Nat.le_of_ble_eq_true rfl) (hX10_readPower.at 12 rfl rfl) (fun x13 => ?_)
    exact os_zret (Nat.le_of_ble_eq_true rfl) (Nat.le_of_ble_eq_true rfl) (hX10_readPower.at 13 rfl rfl).1
-- X10_draftUnits
def KX10_draftUnits : List (Nat × Nat × Instr) := [(0, 1, .iconst 0), (1, 1, .istore_n 1), (2, 1, .iconst 0), (3, 1, .istore_n 2), (4, 1, .iload_n 2), (5, 1, .aload_n 0), (6, 3, .getfield 13), (9, 1, .iconst 0), (10, 1, .iaload), (11, 3, .if_icmp .ge 28), (14, 1, .aload_n 0), (15, 3, .getfield 19), (18, 1, .iload_n 2), (19, 3, .invokestatic 103), (22, 3, .ifCond .eq 9), (25, 1, .iload_n 1), (26, 1, .iconst 1), (27, 1, .iadd), (28, 3, .goto 4), (31, 1, .iload_n 1), (32, 1, .istore_n 1), (33, 3, .iinc 2 1), (36, 3, .goto (-32)), (39, 1, .iload_n 1), (40, 1, .ireturn)]
theorem hX10_draftUnits : osDs cX10_draftUnits KX10_draftUnits := by
  show ∀ q ∈ KX10_draftUnits, decode cX10_draftUnits q.1 = .ok (q.2.2, q.2.1)
  decide +kernel
def qX10_draftUnits_32 (N : Nat) (c4 : Nat × Int32 × Int32 → osM Int32) (l0 : Nat) (l2 : Int32) (k0 : Int32) : osM Int32 := c4 (l0, k0, (l2 + (1 : Int32)))
def bX10_draftUnits_4 (N : Nat) (c4 : Nat × Int32 × Int32 → osM Int32) (l0 : Nat) (l1 : Int32) (l2 : Int32) : osM Int32 := osbind (osgR [8] 2 l0) fun x1 => osbind (osaI 0 x1 (0 : Int32)) fun x2 => osite (x2 ≤ l2) (osret l1) (osbind (osgR [8] 4 l0) fun x3 => osbind (qX10_isUnit N x3 l2) fun x4 => osite (x4 = 0) (qX10_draftUnits_32 N c4 l0 l2 l1) (qX10_draftUnits_32 N c4 l0 l2 (l1 + (1 : Int32))))
def qX10_draftUnits_4 (N : Nat) : Nat × Int32 × Int32 → osM Int32 := osloop (fun ih p => bX10_draftUnits_4 N ih p.1 p.2.1 p.2.2) N
def qX10_draftUnits (N : Nat) (l0 : Nat) : osM Int32 := qX10_draftUnits_4 N (l0, (0 : Int32), (0 : Int32))
set_option maxRecDepth 100000 in
set_option maxHeartbeats 4000000 in
theorem sX10_draftUnits_32 (N : Nat) (c4 : Nat × Int32 × Int32 → osM Int32) (g4 : ∀ (l0 : Nat) (l1 : Int32) (l2 : Int32), osW (osFinM (fun r : Int32 => some (.int r)) 0 0) yX10_draftUnits cX10_draftUnits 3 (some .int) [] { frames := 1, cells := 0, slots := 0, locals := 21 } 0 0 4 [(0, .ref l0), (1, .int l1), (2, .int l2)] [] (c4 (l0, l1, l2))) (l0 : Nat) (l2 : Int32) (k0 : Int32) : osW (osFinM (fun r : Int32 => some (.int r)) 0 0) yX10_draftUnits cX10_draftUnits 3 (some .int) [] { frames := 1, cells := 0, slots := 0, locals := 21 } 0 0 32 [(0, .ref l0), (2, .int l2)] [.int k0] (qX10_draftUnits_32 N c4 l0 l2 k0) := by
  unfold qX10_draftUnits_32
  refine os_istore_n (i := 1) (q := 1) rfl (lv' := [(1, .int k0), (0, .ref l0), (2, .int l2)]) (Nat.le_of_ble_eq_true rfl) rfl (hX10_draftUnits.at 20 rfl rfl) ?_
  refine os_iinc (i := 2) (d := 1) (x := l2) (v := (1 : Int32)) (lv' := [(2, .int (l2 + (1 : Int32))), (1, .int k0), (0, .ref l0)]) 2 rfl rfl (Nat.le_of_ble_eq_true rfl) rfl (hX10_draftUnits.at 21 rfl rfl) ?_
  refine os_goto (off := (-32)) (tgt := 4) rfl (hX10_draftUnits.at 22 rfl rfl) ?_
  exact osW.sub [2, 1, 0] rfl (g4 l0 k0 (l2 + (1 : Int32)))
set_option maxRecDepth 100000 in
set_option maxHeartbeats 4000000 in
theorem tX10_draftUnits_4 (N : Nat) (c4 : Nat × Int32 × Int32 → osM Int32) (g4 : ∀ (l0 : Nat) (l1 : Int32) (l2 : Int32), osW (osFinM (fun r : Int32 => some (.int r)) 0 0) yX10_draftUnits cX10_draftUnits 3 (some .int) [] { frames := 1, cells := 0, slots := 0, locals := 21 } 0 0 4 [(0, .ref l0), (1, .int l1), (2, .int l2)] [] (c4 (l0, l1, l2))) (l0 : Nat) (l1 : Int32) (l2 : Int32) : osW (osFinM (fun r : Int32 => some (.int r)) 0 0) yX10_draftUnits cX10_draftUnits 3 (some .int) [] { frames := 1, cells := 0, slots := 0, locals := 21 } 0 0 4 [(0, .ref l0), (1, .int l1), (2, .int l2)] [] (bX10_draftUnits_4 N c4 l0 l1 l2) := by
  unfold bX10_draftUnits_4
  refine os_iload_n (i := 2) (q := 2) (v := l2) 2 rfl rfl (hX10_draftUnits.at 4 rfl rfl) ?_
  refine os_aload_n (i := 0) (q := 0) (v := l0) 0 rfl rfl (hX10_draftUnits.at 5 rfl rfl) ?_
  refine os_getR fX10_13 (hX10_draftUnits.at 6 rfl rfl) (fun x1 => ?_)
  refine os_iconst (i := 0) (v := (0 : Int32)) rfl (hX10_draftUnits.at 7 rfl rfl) ?_
  refine os_iaload (hX10_draftUnits.at 8 rfl rfl) (fun x2 => ?_)
  refine os_icmp_ge (off := 28) (tgt := 39) rfl (hX10_draftUnits.at 9 rfl rfl) ?_ ?_
  · refine os_iload_n (i := 1) (q := 1) (v := l1) 1 rfl rfl (hX10_draftUnits.at 23 rfl rfl) ?_
    exact os_iret (Nat.le_of_ble_eq_true rfl) (Nat.le_of_ble_eq_true rfl) (hX10_draftUnits.at 24 rfl rfl).1
  · refine os_aload_n (i := 0) (q := 0) (v := l0) 0 rfl rfl (hX10_draftUnits.at 10 rfl rfl) ?_
    refine os_getR fX10_19 (hX10_draftUnits.at 11 rfl rfl) (fun x3 => ?_)
    refine os_iload_n (i := 2) (q := 2) (v := l2) 2 rfl rfl (hX10_draftUnits.at 12 rfl rfl) ?_
    refine os_callS (As := [.ref x3, .int l2]) (st := []) (st' := (fun r => .int r :: [])) mdX10_isUnit wd1879 wd1880 (sX10_isUnit N x3 l2) rfl rfl (fun _ => rfl) (Nat.le_of_ble_eq_true rfl) (Nat.le_of_ble_eq_true rfl) (Nat.le_of_ble_eq_true rfl) rfl (Nat.le_of_ble_eq_true rfl) rfl (Nat.le_of_ble_eq_true rfl) (hX10_draftUnits.at 13 rfl rfl) (fun x4 => ?_)
    refine os_if_eq (off := 9) (tgt := 31) rfl (hX10_draftUnits.at 14 rfl rfl) ?_ ?_
    · refine os_iload_n (i := 1) (q := 1) (v := l1) 1 rfl rfl (hX10_draftUnits.at 19 rfl rfl) ?_
      exact osW.sub [0, 2] rfl (sX10_draftUnits_32 N c4 g4 l0 l2 l1)
    · refine os_iload_n (i := 1) (q := 1) (v := l1) 1 rfl rfl (hX10_draftUnits.at 15 rfl rfl) ?_
      refine os_iconst (i := 1) (v := (1 : Int32)) rfl (hX10_draftUnits.at 16 rfl rfl) ?_
      refine os_iadd (hX10_draftUnits.at 17 rfl rfl) ?_
      refine os_goto (off := 4) (tgt := 32) rfl (hX10_draftUnits.at 18 rfl rfl) ?_
      exact osW.sub [0, 2] rfl (sX10_draftUnits_32 N c4 g4 l0 l2 (l1 + (1 : Int32)))
set_option maxRecDepth 100000 in
set_option maxHeartbeats 4000000 in
theorem sX10_draftUnits_4 (N : Nat) (l0 : Nat) (l1 : Int32) (l2 : Int32) : osW (osFinM (fun r : Int32 => some (.int r)) 0 0) yX10_draftUnits cX10_draftUnits 3 (some .int) [] { frames := 1, cells := 0, slots := 0, locals := 21 } 0 0 4 [(0, .ref l0), (1, .int l1), (2, .int l2)] [] (qX10_draftUnits_4 N (l0, l1, l2)) :=
  osloop_W (lvf := fun p => [(0, .ref p.1), (1, .int p.2.1), (2, .int p.2.2)]) (stf := fun p => []) (fun ih g p => tX10_draftUnits_4 N ih (fun l0 l1 l2 => g (l0, l1, l2)) p.1 p.2.1 p.2.2) N (l0, l1, l2)
set_option maxRecDepth 100000 in
set_option maxHeartbeats 4000000 in
theorem sX10_draftUnits (N : Nat) (l0 : Nat) : osMet yX10_draftUnits cX10_draftUnits 3 (some .int) 1 21 0 0 (fun r : Int32 => some (.int r)) [.ref l0] (qX10_draftUnits N l0) := by
  refine osMet.of plX10 (Nat.le_of_ble_eq_true rfl) (osW.rw (lv2 := [(0, .ref l0)]) ?_ rfl rfl rfl)
  unfold qX10_draftUnits
  refine os_iconst (i := 0) (v := (0 : Int32)) rfl (hX10_draftUnits.at 0 rfl rfl) ?_
  refine os_istore_n (i := 1) (q := 1) rfl (lv' := [(1, .int (0 : Int32)), (0, .ref l0)]) (Nat.le_of_ble_eq_true rfl) rfl (hX10_draftUnits.at 1 rfl rfl) ?_
  refine os_iconst (i := 0) (v := (0 : Int32)) rfl (hX10_draftUnits.at 2 rfl rfl) ?_
  refine os_istore_n (i := 2) (q := 2) rfl (lv' := [(2, .int (0 : Int32)), (1, .int (0 : Int32)), (0, .ref l0)]) (Nat.le_of_ble_eq_true rfl) rfl (hX10_draftUnits.at 3 rfl rfl) ?_
  exact osW.sub [2, 1, 0] rfl (sX10_draftUnits_4 N l0 (0 : Int32) (0 : Int32))
-- X10_readUnit
def KX10_readUnit : List (Nat × Nat × Instr) := [(0, 1, .aload_n 0), (1, 3, .invokevirtual 262), (4, 2, .bipush 12), (6, 3, .if_icmp .ne 13), (9, 1, .aload_n 0), (10, 1, .iconst 5), (11, 1, .aload_n 0), (12, 3, .getfield 164), (15, 3, .invokevirtual 195), (18, 1, .ireturn), (19, 1, .aload_n 0), (20, 3, .invokevirtual 238), (23, 3, .ifCond .ne 5), (26, 1, .iconst 0), (27, 1, .ireturn), (28, 1, .aload_n 0), (29, 3, .getfield 29), (32, 2, .bipush 16), (34, 1, .aload_n 0), (35, 3, .getfield 13), (38, 1, .iconst 1), (39, 1, .iaload), (40, 1, .aload_n 0), (41, 3, .getfield 177), (44, 3, .invokestatic 241), (47, 1, .istore_n 2), (48, 1, .iload_n 2), (49, 1, .iconst (-1)), (50, 3, .if_icmp .ne 13), (53, 1, .aload_n 0), (54, 1, .iconst 2), (55, 1, .aload_n 0), (56, 3, .getfield 164), (59, 3, .invokevirtual 195), (62, 1, .ireturn), (63, 1, .aload_n 0), (64, 3, .invokevirtual 255), (67, 3, .ifCond .ne 5), (70, 1, .iconst 0), (71, 1, .ireturn), (72, 1, .aload_n 0), (73, 3, .getfield 19), (76, 1, .aload_n 0), (77, 3, .getfield 245), (80, 3, .invokestatic 103), (83, 3, .ifCond .eq 13), (86, 1, .aload_n 0), (87, 1, .iconst 3), (88, 1, .aload_n 0), (89, 3, .getfield 164), (92, 3, .invokevirtual 195), (95, 1, .ireturn), (96, 1, .aload_n 0), (97, 3, .getfield 13), (100, 1, .iconst 2), (101, 1, .aload_n 0), (102, 3, .getfield 245), (105, 1, .iadd), (106, 1, .iaload), (107, 1, .iload_n 1), (108, 3, .ifCond .ne 7), (111, 1, .iconst 2), (112, 3, .goto 4), (115, 1, .iconst 0), (116, 3, .if_icmp .ne 13), (119, 1, .aload_n 0), (120, 1, .iconst 4), (121, 1, .aload_n 0), (122, 3, .getfield 164), (125, 3, .invokevirtual 195), (128, 1, .ireturn), (129, 1, .aload_n 0), (130, 3, .getfield 19), (133, 2, .bipush 21), (135, 1, .aload_n 0), (136, 3, .getfield 245), (139, 1, .iadd), (140, 1, .iload_n 2), (141, 1, .iastore), (142, 1, .aload_n 0), (143, 3, .getfield 19), (146, 2, .bipush 37), (148, 1, .aload_n 0), (149, 3, .getfield 245), (152, 1, .iadd), (153, 1, .iload_n 1), (154, 1, .iastore), (155, 1, .iconst 1), (156, 1, .ireturn)]
theorem hX10_readUnit : osDs cX10_readUnit KX10_readUnit := by
  show ∀ q ∈ KX10_readUnit, decode cX10_readUnit q.1 = .ok (q.2.2, q.2.1)
  decide +kernel
def qX10_readUnit_116 (N : Nat) (l0 : Nat) (l1 : Int32) (l2 : Int32) (k0 : Int32) (k1 : Int32) : osM Int32 := osite (k1 = k0) (osbind (osgI [8] 13 l0) fun x5 => osbind (osrecv [8] l0 (qX10_fails N l0 (4 : Int32) x5)) fun x6 => osretZ x6) (osbind (osgR [8] 4 l0) fun x1 => osbind (osgI [8] 19 l0) fun x2 => osbind (ossI 0 x1 ((21 : Int32) + x2) l2) fun _ => osbind (osgR [8] 4 l0) fun x3 => osbind (osgI [8] 19 l0) fun x4 => osbind (ossI 0 x3 ((37 : Int32) + x4) l1) fun _ => osretZ (1 : Int32))
def qX10_readUnit (N : Nat) (l0 : Nat) (l1 : Int32) : osM Int32 := osbind (osrecv [8] l0 (qX10_draftUnits N l0)) fun x1 => osite (x1 = (12 : Int32)) (osbind (osgI [8] 13 l0) fun x19 => osbind (osrecv [8] l0 (qX10_fails N l0 (5 : Int32) x19)) fun x20 => osretZ x20) (osbind (osrecv [8] l0 (qX10_readName N l0)) fun x2 => osite (x2 = 0) (osretZ (0 : Int32)) (osbind (osgR [8] 7 l0) fun x3 => osbind (osgR [8] 2 l0) fun x4 => osbind (osaI 0 x4 (1 : Int32)) fun x5 => osbind (osgJ [8] 18 l0) fun x6 => osbind (qX10_numberOf N x3 (16 : Int32) x5 x6) fun x7 => osite (x7 = (-1 : Int32)) (osbind (osgI [8] 13 l0) fun x17 => osbind (osrecv [8] l0 (qX10_fails N l0 (2 : Int32) x17)) fun x18 => osretZ x18) (osbind (osrecv [8] l0 (qX10_readDraftArea N l0)) fun x8 => osite (x8 = 0) (osretZ (0 : Int32)) (osbind (osgR [8] 4 l0) fun x9 => osbind (osgI [8] 19 l0) fun x10 => osbind (qX10_isUnit N x9 x10) fun x11 => osite (x11 = 0) (osbind (osgR [8] 2 l0) fun x12 => osbind (osgI [8] 19 l0) fun x13 => osbind (osaI 0 x12 ((2 : Int32) + x13)) fun x14 => osite (l1 = 0) (qX10_readUnit_116 N l0 l1 x7 (2 : Int32) x14) (qX10_readUnit_116 N l0 l1 x7 (0 : Int32) x14)) (osbind (osgI [8] 13 l0) fun x15 => osbind (osrecv [8] l0 (qX10_fails N l0 (3 : Int32) x15)) fun x16 => osretZ x16)))))
set_option maxRecDepth 100000 in
set_option maxHeartbeats 4000000 in
theorem sX10_readUnit_116 (N : Nat) (l0 : Nat) (l1 : Int32) (l2 : Int32) (k0 : Int32) (k1 : Int32) : osW (osFinM (fun r : Int32 => some (.int r)) 0 0) yX10_readUnit cX10_readUnit 3 (some .boolean) [] { frames := 7, cells := 0, slots := 0, locals := 144 } 0 0 116 [(0, .ref l0), (1, .int l1), (2, .int l2)] [.int k0, .int k1] (qX10_readUnit_116 N l0 l1 l2 k0 k1) := by
  unfold qX10_readUnit_116
  refine os_icmp_ne (off := 13) (tgt := 129) rfl (hX10_readUnit.at 64 rfl rfl) ?_ ?_
  · refine os_aload_n (i := 0) (q := 0) (v := l0) 0 rfl rfl (hX10_readUnit.at 71 rfl rfl) ?_
    refine os_getR fX10_19 (hX10_readUnit.at 72 rfl rfl) (fun x1 => ?_)
    refine os_bipush (i := 21) (v := (21 : Int32)) rfl (hX10_readUnit.at 73 rfl rfl) ?_
    refine os_aload_n (i := 0) (q := 0) (v := l0) 0 rfl rfl (hX10_readUnit.at 74 rfl rfl) ?_
    refine os_getI fX10_245 (hX10_readUnit.at 75 rfl rfl) (fun x2 => ?_)
    refine os_iadd (hX10_readUnit.at 76 rfl rfl) ?_
    refine os_iload_n (i := 2) (q := 2) (v := l2) 2 rfl rfl (hX10_readUnit.at 77 rfl rfl) ?_
    refine os_iastore (hX10_readUnit.at 78 rfl rfl) ?_
    refine os_aload_n (i := 0) (q := 0) (v := l0) 0 rfl rfl (hX10_readUnit.at 79 rfl rfl) ?_
    refine os_getR fX10_19 (hX10_readUnit.at 80 rfl rfl) (fun x3 => ?_)
    refine os_bipush (i := 37) (v := (37 : Int32)) rfl (hX10_readUnit.at 81 rfl rfl) ?_
    refine os_aload_n (i := 0) (q := 0) (v := l0) 0 rfl rfl (hX10_readUnit.at 82 rfl rfl) ?_
    refine os_getI fX10_245 (hX10_readUnit.at 83 rfl rfl) (fun x4 => ?_)
    refine os_iadd (hX10_readUnit.at 84 rfl rfl) ?_
    refine os_iload_n (i := 1) (q := 1) (v := l1) 1 rfl rfl (hX10_readUnit.at 85 rfl rfl) ?_
    refine os_iastore (hX10_readUnit.at 86 rfl rfl) ?_
    refine os_iconst (i := 1) (v := (1 : Int32)) rfl (hX10_readUnit.at 87 rfl rfl) ?_
    exact os_zret (Nat.le_of_ble_eq_true rfl) (Nat.le_of_ble_eq_true rfl) (hX10_readUnit.at 88 rfl rfl).1
  · refine os_aload_n (i := 0) (q := 0) (v := l0) 0 rfl rfl (hX10_readUnit.at 65 rfl rfl) ?_
    refine os_iconst (i := 4) (v := (4 : Int32)) rfl (hX10_readUnit.at 66 rfl rfl) ?_
    refine os_aload_n (i := 0) (q := 0) (v := l0) 0 rfl rfl (hX10_readUnit.at 67 rfl rfl) ?_
    refine os_getI fX10_164 (hX10_readUnit.at 68 rfl rfl) (fun x5 => ?_)
    refine os_callV (cis := [8]) (b := l0) (As := [.int (4 : Int32), .int x5]) (st := []) (st' := (fun r => .int r :: [])) sl8_X10_fails_X10_fails mdX10_fails wd1806 wd1808 (sX10_fails N l0 (4 : Int32) x5) rfl rfl (fun _ => rfl) (Nat.le_of_ble_eq_true rfl) (Nat.le_of_ble_eq_true rfl) (Nat.le_of_ble_eq_true rfl) rfl (Nat.le_of_ble_eq_true rfl) rfl (Nat.le_of_ble_eq_true rfl) (hX10_readUnit.at 69 rfl rfl) (fun x6 => ?_)
    exact os_zret (Nat.le_of_ble_eq_true rfl) (Nat.le_of_ble_eq_true rfl) (hX10_readUnit.at 70 rfl rfl).1
set_option maxRecDepth 100000 in
set_option maxHeartbeats 4000000 in
theorem sX10_readUnit (N : Nat) (l0 : Nat) (l1 : Int32) : osMet yX10_readUnit cX10_readUnit 3 (some .boolean) 7 144 0 0 (fun r : Int32 => some (.int r)) [.ref l0, .int l1] (qX10_readUnit N l0 l1) := by
  refine osMet.of plX10 (Nat.le_of_ble_eq_true rfl) (osW.rw (lv2 := [(0, .ref l0), (1, .int l1)]) ?_ rfl rfl rfl)
  unfold qX10_readUnit
  refine os_aload_n (i := 0) (q := 0) (v := l0) 0 rfl rfl (hX10_readUnit.at 0 rfl rfl) ?_
  refine os_callV (cis := [8]) (b := l0) (As := []) (st := []) (st' := (fun r => .int r :: [])) sl8_X10_draftUnits_X10_draftUnits mdX10_draftUnits wd1875 wd1877 (sX10_draftUnits N l0 ) rfl rfl (fun _ => rfl) (Nat.le_of_ble_eq_true rfl) (Nat.le_of_ble_eq_true rfl) (Nat.le_of_ble_eq_true rfl) rfl (Nat.le_of_ble_eq_true rfl) rfl (Nat.le_of_ble_eq_true rfl) (hX10_readUnit.at 1 rfl rfl) (fun x1 => ?_)
  refine os_bipush (i := 12) (v := (12 : Int32)) rfl (hX10_readUnit.at 2 rfl rfl) ?_
  refine os_icmp_ne (off := 13) (tgt := 19) rfl (hX10_readUnit.at 3 rfl rfl) ?_ ?_
  · refine os_aload_n (i := 0) (q := 0) (v := l0) 0 rfl rfl (hX10_readUnit.at 10 rfl rfl) ?_
    refine os_callV (cis := [8]) (b := l0) (As := []) (st := []) (st' := (fun r => .int r :: [])) sl8_X10_readName_X10_readName mdX10_readName wd1817 wd1819 (sX10_readName N l0 ) rfl rfl (fun _ => rfl) (Nat.le_of_ble_eq_true rfl) (Nat.le_of_ble_eq_true rfl) (Nat.le_of_ble_eq_true rfl) rfl (Nat.le_of_ble_eq_true rfl) rfl (Nat.le_of_ble_eq_true rfl) (hX10_readUnit.at 11 rfl rfl) (fun x2 => ?_)
    refine os_if_ne (off := 5) (tgt := 28) rfl (hX10_readUnit.at 12 rfl rfl) ?_ ?_
    · refine os_aload_n (i := 0) (q := 0) (v := l0) 0 rfl rfl (hX10_readUnit.at 15 rfl rfl) ?_
      refine os_getR fX10_29 (hX10_readUnit.at 16 rfl rfl) (fun x3 => ?_)
      refine os_bipush (i := 16) (v := (16 : Int32)) rfl (hX10_readUnit.at 17 rfl rfl) ?_
      refine os_aload_n (i := 0) (q := 0) (v := l0) 0 rfl rfl (hX10_readUnit.at 18 rfl rfl) ?_
      refine os_getR fX10_13 (hX10_readUnit.at 19 rfl rfl) (fun x4 => ?_)
      refine os_iconst (i := 1) (v := (1 : Int32)) rfl (hX10_readUnit.at 20 rfl rfl) ?_
      refine os_iaload (hX10_readUnit.at 21 rfl rfl) (fun x5 => ?_)
      refine os_aload_n (i := 0) (q := 0) (v := l0) 0 rfl rfl (hX10_readUnit.at 22 rfl rfl) ?_
      refine os_getJ fX10_177 (hX10_readUnit.at 23 rfl rfl) (fun x6 => ?_)
      refine os_callS (As := [.ref x3, .int (16 : Int32), .int x5, .long x6]) (st := []) (st' := (fun r => .int r :: [])) mdX10_numberOf wd1837 wd1838 (sX10_numberOf N x3 (16 : Int32) x5 x6) rfl rfl (fun _ => rfl) (Nat.le_of_ble_eq_true rfl) (Nat.le_of_ble_eq_true rfl) (Nat.le_of_ble_eq_true rfl) rfl (Nat.le_of_ble_eq_true rfl) rfl (Nat.le_of_ble_eq_true rfl) (hX10_readUnit.at 24 rfl rfl) (fun x7 => ?_)
      refine os_istore_n (i := 2) (q := 2) rfl (lv' := [(2, .int x7), (0, .ref l0), (1, .int l1)]) (Nat.le_of_ble_eq_true rfl) rfl (hX10_readUnit.at 25 rfl rfl) ?_
      refine os_iload_n (i := 2) (q := 2) (v := x7) 0 rfl rfl (hX10_readUnit.at 26 rfl rfl) ?_
      refine os_iconst (i := (-1)) (v := (-1 : Int32)) rfl (hX10_readUnit.at 27 rfl rfl) ?_
      refine os_icmp_ne (off := 13) (tgt := 63) rfl (hX10_readUnit.at 28 rfl rfl) ?_ ?_
      · refine os_aload_n (i := 0) (q := 0) (v := l0) 1 rfl rfl (hX10_readUnit.at 35 rfl rfl) ?_
        refine os_callV (cis := [8]) (b := l0) (As := []) (st := []) (st' := (fun r => .int r :: [])) sl8_X10_readDraftArea_X10_readDraftArea mdX10_readDraftArea wd1852 wd1854 (sX10_readDraftArea N l0 ) rfl rfl (fun _ => rfl) (Nat.le_of_ble_eq_true rfl) (Nat.le_of_ble_eq_true rfl) (Nat.le_of_ble_eq_true rfl) rfl (Nat.le_of_ble_eq_true rfl) rfl (Nat.le_of_ble_eq_true rfl) (hX10_readUnit.at 36 rfl rfl) (fun x8 => ?_)
        refine os_if_ne (off := 5) (tgt := 72) rfl (hX10_readUnit.at 37 rfl rfl) ?_ ?_
        · refine os_aload_n (i := 0) (q := 0) (v := l0) 1 rfl rfl (hX10_readUnit.at 40 rfl rfl) ?_
          refine os_getR fX10_19 (hX10_readUnit.at 41 rfl rfl) (fun x9 => ?_)
          refine os_aload_n (i := 0) (q := 0) (v := l0) 1 rfl rfl (hX10_readUnit.at 42 rfl rfl) ?_
          refine os_getI fX10_245 (hX10_readUnit.at 43 rfl rfl) (fun x10 => ?_)
          refine os_callS (As := [.ref x9, .int x10]) (st := []) (st' := (fun r => .int r :: [])) mdX10_isUnit wd1879 wd1880 (sX10_isUnit N x9 x10) rfl rfl (fun _ => rfl) (Nat.le_of_ble_eq_true rfl) (Nat.le_of_ble_eq_true rfl) (Nat.le_of_ble_eq_true rfl) rfl (Nat.le_of_ble_eq_true rfl) rfl (Nat.le_of_ble_eq_true rfl) (hX10_readUnit.at 44 rfl rfl) (fun x11 => ?_)
          refine os_if_eq (off := 13) (tgt := 96) rfl (hX10_readUnit.at 45 rfl rfl) ?_ ?_
          · refine os_aload_n (i := 0) (q := 0) (v := l0) 1 rfl rfl (hX10_readUnit.at 52 rfl rfl) ?_
            refine os_getR fX10_13 (hX10_readUnit.at 53 rfl rfl) (fun x12 => ?_)
            refine os_iconst (i := 2) (v := (2 : Int32)) rfl (hX10_readUnit.at 54 rfl rfl) ?_
            refine os_aload_n (i := 0) (q := 0) (v := l0) 1 rfl rfl (hX10_readUnit.at 55 rfl rfl) ?_
            refine os_getI fX10_245 (hX10_readUnit.at 56 rfl rfl) (fun x13 => ?_)
            refine os_iadd (hX10_readUnit.at 57 rfl rfl) ?_
            refine os_iaload (hX10_readUnit.at 58 rfl rfl) (fun x14 => ?_)
            refine os_iload_n (i := 1) (q := 1) (v := l1) 2 rfl rfl (hX10_readUnit.at 59 rfl rfl) ?_
            refine os_if_ne (off := 7) (tgt := 115) rfl (hX10_readUnit.at 60 rfl rfl) ?_ ?_
            · refine os_iconst (i := 0) (v := (0 : Int32)) rfl (hX10_readUnit.at 63 rfl rfl) ?_
              exact osW.sub [1, 2, 0] rfl (sX10_readUnit_116 N l0 l1 x7 (0 : Int32) x14)
            · refine os_iconst (i := 2) (v := (2 : Int32)) rfl (hX10_readUnit.at 61 rfl rfl) ?_
              refine os_goto (off := 4) (tgt := 116) rfl (hX10_readUnit.at 62 rfl rfl) ?_
              exact osW.sub [1, 2, 0] rfl (sX10_readUnit_116 N l0 l1 x7 (2 : Int32) x14)
          · refine os_aload_n (i := 0) (q := 0) (v := l0) 1 rfl rfl (hX10_readUnit.at 46 rfl rfl) ?_
            refine os_iconst (i := 3) (v := (3 : Int32)) rfl (hX10_readUnit.at 47 rfl rfl) ?_
            refine os_aload_n (i := 0) (q := 0) (v := l0) 1 rfl rfl (hX10_readUnit.at 48 rfl rfl) ?_
            refine os_getI fX10_164 (hX10_readUnit.at 49 rfl rfl) (fun x15 => ?_)
            refine os_callV (cis := [8]) (b := l0) (As := [.int (3 : Int32), .int x15]) (st := []) (st' := (fun r => .int r :: [])) sl8_X10_fails_X10_fails mdX10_fails wd1806 wd1808 (sX10_fails N l0 (3 : Int32) x15) rfl rfl (fun _ => rfl) (Nat.le_of_ble_eq_true rfl) (Nat.le_of_ble_eq_true rfl) (Nat.le_of_ble_eq_true rfl) rfl (Nat.le_of_ble_eq_true rfl) rfl (Nat.le_of_ble_eq_true rfl) (hX10_readUnit.at 50 rfl rfl) (fun x16 => ?_)
            exact os_zret (Nat.le_of_ble_eq_true rfl) (Nat.le_of_ble_eq_true rfl) (hX10_readUnit.at 51 rfl rfl).1
        · refine os_iconst (i := 0) (v := (0 : Int32)) rfl (hX10_readUnit.at 38 rfl rfl) ?_
          exact os_zret (Nat.le_of_ble_eq_true rfl) (Nat.le_of_ble_eq_true rfl) (hX10_readUnit.at 39 rfl rfl).1
      · refine os_aload_n (i := 0) (q := 0) (v := l0) 1 rfl rfl (hX10_readUnit.at 29 rfl rfl) ?_
        refine os_iconst (i := 2) (v := (2 : Int32)) rfl (hX10_readUnit.at 30 rfl rfl) ?_
        refine os_aload_n (i := 0) (q := 0) (v := l0) 1 rfl rfl (hX10_readUnit.at 31 rfl rfl) ?_
        refine os_getI fX10_164 (hX10_readUnit.at 32 rfl rfl) (fun x17 => ?_)
        refine os_callV (cis := [8]) (b := l0) (As := [.int (2 : Int32), .int x17]) (st := []) (st' := (fun r => .int r :: [])) sl8_X10_fails_X10_fails mdX10_fails wd1806 wd1808 (sX10_fails N l0 (2 : Int32) x17) rfl rfl (fun _ => rfl) (Nat.le_of_ble_eq_true rfl) (Nat.le_of_ble_eq_true rfl) (Nat.le_of_ble_eq_true rfl) rfl (Nat.le_of_ble_eq_true rfl) rfl (Nat.le_of_ble_eq_true rfl) (hX10_readUnit.at 33 rfl rfl) (fun x18 => ?_)
        exact os_zret (Nat.le_of_ble_eq_true rfl) (Nat.le_of_ble_eq_true rfl) (hX10_readUnit.at 34 rfl rfl).1
    · refine os_iconst (i := 0) (v := (0 : Int32)) rfl (hX10_readUnit.at 13 rfl rfl) ?_
      exact os_zret (Nat.le_of_ble_eq_true rfl) (Nat.le_of_ble_eq_true rfl) (hX10_readUnit.at 14 rfl rfl).1
  · refine os_aload_n (i := 0) (q := 0) (v := l0) 0 rfl rfl (hX10_readUnit.at 4 rfl rfl) ?_
    refine os_iconst (i := 5) (v := (5 : Int32)) rfl (hX10_readUnit.at 5 rfl rfl) ?_
    refine os_aload_n (i := 0) (q := 0) (v := l0) 0 rfl rfl (hX10_readUnit.at 6 rfl rfl) ?_
    refine os_getI fX10_164 (hX10_readUnit.at 7 rfl rfl) (fun x19 => ?_)
    refine os_callV (cis := [8]) (b := l0) (As := [.int (5 : Int32), .int x19]) (st := []) (st' := (fun r => .int r :: [])) sl8_X10_fails_X10_fails mdX10_fails wd1806 wd1808 (sX10_fails N l0 (5 : Int32) x19) rfl rfl (fun _ => rfl) (Nat.le_of_ble_eq_true rfl) (Nat.le_of_ble_eq_true rfl) (Nat.le_of_ble_eq_true rfl) rfl (Nat.le_of_ble_eq_true rfl) rfl (Nat.le_of_ble_eq_true rfl) (hX10_readUnit.at 8 rfl rfl) (fun x20 => ?_)
    exact os_zret (Nat.le_of_ble_eq_true rfl) (Nat.le_of_ble_eq_true rfl) (hX10_readUnit.at 9 rfl rfl).1
-- X10_readHere
def KX10_readHere : List (Nat × Nat × Instr) := [(0, 1, .aload_n 0), (1, 1, .aload_n 0), (2, 3, .getfield 25), (5, 1, .aload_n 0), (6, 3, .getfield 7), (9, 1, .iconst 0), (10, 1, .iaload), (11, 3, .invokevirtual 248), (14, 1, .ireturn)]
theorem hX10_readHere : osDs cX10_readHere KX10_readHere := by
  show ∀ q ∈ KX10_readHere, decode cX10_readHere q.1 = .ok (q.2.2, q.2.1)
  decide +kernel
def qX10_readHere (N : Nat) (l0 : Nat) : osM Int32 := osbind (osgR [8] 6 l0) fun x1 => osbind (osgR [8] 1 l0) fun x2 => osbind (osaI 0 x2 (0 : Int32)) fun x3 => osbind (osrecv [8] l0 (qX10_readArea N l0 x1 x3)) fun x4 => osretZ x4
set_option maxRecDepth 100000 in
set_option maxHeartbeats 4000000 in
theorem sX10_readHere (N : Nat) (l0 : Nat) : osMet yX10_readHere cX10_readHere 1 (some .boolean) 6 124 0 0 (fun r : Int32 => some (.int r)) [.ref l0] (qX10_readHere N l0) := by
  refine osMet.of plX10 (Nat.le_of_ble_eq_true rfl) (osW.rw (lv2 := [(0, .ref l0)]) ?_ rfl rfl rfl)
  unfold qX10_readHere
  refine os_aload_n (i := 0) (q := 0) (v := l0) 0 rfl rfl (hX10_readHere.at 0 rfl rfl) ?_
  refine os_aload_n (i := 0) (q := 0) (v := l0) 0 rfl rfl (hX10_readHere.at 1 rfl rfl) ?_
  refine os_getR fX10_25 (hX10_readHere.at 2 rfl rfl) (fun x1 => ?_)
  refine os_aload_n (i := 0) (q := 0) (v := l0) 0 rfl rfl (hX10_readHere.at 3 rfl rfl) ?_
  refine os_getR fX10_7 (hX10_readHere.at 4 rfl rfl) (fun x2 => ?_)
  refine os_iconst (i := 0) (v := (0 : Int32)) rfl (hX10_readHere.at 5 rfl rfl) ?_
  refine os_iaload (hX10_readHere.at 6 rfl rfl) (fun x3 => ?_)
  refine os_callV (cis := [8]) (b := l0) (As := [.ref x1, .int x3]) (st := []) (st' := (fun r => .int r :: [])) sl8_X10_readArea_X10_readArea mdX10_readArea wd1856 wd1858 (sX10_readArea N l0 x1 x3) rfl rfl (fun _ => rfl) (Nat.le_of_ble_eq_true rfl) (Nat.le_of_ble_eq_true rfl) (Nat.le_of_ble_eq_true rfl) rfl (Nat.le_of_ble_eq_true rfl) rfl (Nat.le_of_ble_eq_true rfl) (hX10_readHere.at 7 rfl rfl) (fun x4 => ?_)
  exact os_zret (Nat.le_of_ble_eq_true rfl) (Nat.le_of_ble_eq_true rfl) (hX10_readHere.at 8 rfl rfl).1
-- X10_orders
def KX10_orders : List (Nat × Nat × Instr) := [(0, 1, .aload_n 0), (1, 3, .getfield 19), (4, 2, .bipush 117), (6, 1, .iload_n 1), (7, 1, .iadd), (8, 1, .iload_n 2), (9, 1, .iastore), (10, 1, .aload_n 0), (11, 3, .getfield 19), (14, 3, .sipush 133), (17, 1, .iload_n 1), (18, 1, .iadd), (19, 1, .iload_n 3), (20, 1, .iastore), (21, 1, .aload_n 0), (22, 3, .getfield 19), (25, 3, .sipush 149), (28, 1, .iload_n 1), (29, 1, .iadd), (30, 2, .iload 4), (32, 1, .iastore), (33, 2, .iload 5), (35, 3, .ifCond .ne 15), (38, 1, .aload_n 0), (39, 1, .iconst 4), (40, 1, .aload_n 0), (41, 3, .getfield 164), (44, 3, .invokevirtual 195), (47, 3, .ifCond .eq 7), (50, 1, .iconst 1), (51, 3, .goto 4), (54, 1, .iconst 0), (55, 1, .ireturn)]
theorem hX10_orders : osDs cX10_orders KX10_orders := by
  show ∀ q ∈ KX10_orders, decode cX10_orders q.1 = .ok (q.2.2, q.2.1)
  decide +kernel
def qX10_orders_55 (N : Nat) (k0 : Int32) : osM Int32 := osretZ k0
def qX10_orders_50 (N : Nat) : osM Int32 := qX10_orders_55 N (1 : Int32)
def qX10_orders (N : Nat) (l0 : Nat) (l1 : Int32) (l2 : Int32) (l3 : Int32) (l4 : Int32) (l5 : Int32) : osM Int32 := osbind (osgR [8] 4 l0) fun x1 => osbind (ossI 0 x1 ((117 : Int32) + l1) l2) fun _ => osbind (osgR [8] 4 l0) fun x2 => osbind (ossI 0 x2 ((133 : Int32) + l1) l3) fun _ => osbind (osgR [8] 4 l0) fun x3 => osbind (ossI 0 x3 ((149 : Int32) + l1) l4) fun _ => osite (l5 = 0) (osbind (osgI [8] 13 l0) fun x4 => osbind (osrecv [8] l0 (qX10_fails N l0 (4 : Int32) x4)) fun x5 => osite (x5 = 0) (qX10_orders_55 N (0 : Int32)) (qX10_orders_50 N )) (qX10_orders_50 N )
set_option maxRecDepth 100000 in
set_option maxHeartbeats 4000000 in
theorem sX10_orders_55 (N : Nat) (k0 : Int32) : osW (osFinM (fun r : Int32 => some (.int r)) 0 0) yX10_orders cX10_orders 6 (some .boolean) [] { frames := 1, cells := 0, slots := 0, locals := 22 } 0 0 55 [] [.int k0] (qX10_orders_55 N k0) := by
  unfold qX10_orders_55
  exact os_zret (Nat.le_of_ble_eq_true rfl) (Nat.le_of_ble_eq_true rfl) (hX10_orders.at 32 rfl rfl).1
set_option maxRecDepth 100000 in
set_option maxHeartbeats 4000000 in
theorem sX10_orders_50 (N : Nat) : osW (osFinM (fun r : Int32 => some (.int r)) 0 0) yX10_orders cX10_orders 6 (some .boolean) [] { frames := 1, cells := 0, slots := 0, locals := 22 } 0 0 50 [] [] (qX10_orders_50 N) := by
  unfold qX10_orders_50
  refine os_iconst (i := 1) (v := (1 : Int32)) rfl (hX10_orders.at 29 rfl rfl) ?_
  refine os_goto (off := 4) (tgt := 55) rfl (hX10_orders.at 30 rfl rfl) ?_
  exact osW.sub [] rfl (sX10_orders_55 N (1 : Int32))
set_option maxRecDepth 100000 in
set_option maxHeartbeats 4000000 in
theorem sX10_orders (N : Nat) (l0 : Nat) (l1 : Int32) (l2 : Int32) (l3 : Int32) (l4 : Int32) (l5 : Int32) : osMet yX10_orders cX10_orders 6 (some .boolean) 1 22 0 0 (fun r : Int32 => some (.int r)) [.ref l0, .int l1, .int l2, .int l3, .int l4, .int l5] (qX10_orders N l0 l1 l2 l3 l4 l5) := by
  refine osMet.of plX10 (Nat.le_of_ble_eq_true rfl) (osW.rw (lv2 := [(0, .ref l0), (1, .int l1), (2, .int l2), (3, .int l3), (4, .int l4), (5, .int l5)]) ?_ rfl rfl rfl)
  unfold qX10_orders
  refine os_aload_n (i := 0) (q := 0) (v := l0) 0 rfl rfl (hX10_orders.at 0 rfl rfl) ?_
  refine os_getR fX10_19 (hX10_orders.at 1 rfl rfl) (fun x1 => ?_)
  refine os_bipush (i := 117) (v := (117 : Int32)) rfl (hX10_orders.at 2 rfl rfl) ?_
  refine os_iload_n (i := 1) (q := 1) (v := l1) 1 rfl rfl (hX10_orders.at 3 rfl rfl) ?_
  refine os_iadd (hX10_orders.at 4 rfl rfl) ?_
  refine os_iload_n (i := 2) (q := 2) (v := l2) 2 rfl rfl (hX10_orders.at 5 rfl rfl) ?_
  refine os_iastore (hX10_orders.at 6 rfl rfl) ?_
  refine os_aload_n (i := 0) (q := 0) (v := l0) 0 rfl rfl (hX10_orders.at 7 rfl rfl) ?_
  refine os_getR fX10_19 (hX10_orders.at 8 rfl rfl) (fun x2 => ?_)
  refine os_sipush (i := 133) (v := (133 : Int32)) rfl (hX10_orders.at 9 rfl rfl) ?_
  refine os_iload_n (i := 1) (q := 1) (v := l1) 1 rfl rfl (hX10_orders.at 10 rfl rfl) ?_
  refine os_iadd (hX10_orders.at 11 rfl rfl) ?_
  refine os_iload_n (i := 3) (q := 3) (v := l3) 3 rfl rfl (hX10_orders.at 12 rfl rfl) ?_
  refine os_iastore (hX10_orders.at 13 rfl rfl) ?_
  refine os_aload_n (i := 0) (q := 0) (v := l0) 0 rfl rfl (hX10_orders.at 14 rfl rfl) ?_
  refine os_getR fX10_19 (hX10_orders.at 15 rfl rfl) (fun x3 => ?_)
  refine os_sipush (i := 149) (v := (149 : Int32)) rfl (hX10_orders.at 16 rfl rfl) ?_
  refine os_iload_n (i := 1) (q := 1) (v := l1) 1 rfl rfl (hX10_orders.at 17 rfl rfl) ?_
  refine os_iadd (hX10_orders.at 18 rfl rfl) ?_
  refine os_iload (v := l4) 4 rfl (hX10_orders.at 19 rfl rfl) ?_
  refine os_iastore (hX10_orders.at 20 rfl rfl) ?_
  refine os_iload (v := l5) 5 rfl (hX10_orders.at 21 rfl rfl) ?_
  refine os_if_ne (off := 15) (tgt := 50) rfl (hX10_orders.at 22 rfl rfl) ?_ ?_
  · exact osW.sub [] rfl (sX10_orders_50 N )
  · refine os_aload_n (i := 0) (q := 0) (v := l0) 0 rfl rfl (hX10_orders.at 23 rfl rfl) ?_
    refine os_iconst (i := 4) (v := (4 : Int32)) rfl (hX10_orders.at 24 rfl rfl) ?_
    refine os_aload_n (i := 0) (q := 0) (v := l0) 0 rfl rfl (hX10_orders.at 25 rfl rfl) ?_
    refine os_getI fX10_164 (hX10_orders.at 26 rfl rfl) (fun x4 => ?_)
    refine os_callV (cis := [8]) (b := l0) (As := [.int (4 : Int32), .int x4]) (st := []) (st' := (fun r => .int r :: [])) sl8_X10_fails_X10_fails mdX10_fails wd1806 wd1808 (sX10_fails N l0 (4 : Int32) x4) rfl rfl (fun _ => rfl) (Nat.le_of_ble_eq_true rfl) (Nat.le_of_ble_eq_true rfl) (Nat.le_of_ble_eq_true rfl) rfl (Nat.le_of_ble_eq_true rfl) rfl (Nat.le_of_ble_eq_true rfl) (hX10_orders.at 27 rfl rfl) (fun x5 => ?_)
    refine os_if_eq (off := 7) (tgt := 54) rfl (hX10_orders.at 28 rfl rfl) ?_ ?_
    · refine os_iconst (i := 0) (v := (0 : Int32)) rfl (hX10_orders.at 31 rfl rfl) ?_
      exact osW.sub [] rfl (sX10_orders_55 N (0 : Int32))
    · exact osW.sub [] rfl (sX10_orders_50 N )
-- X10_readSupport
def KX10_readSupport : List (Nat × Nat × Instr) := [(0, 1, .aload_n 0), (1, 3, .invokevirtual 293), (4, 3, .ifCond .ne 5), (7, 1, .iconst 0), (8, 1, .ireturn), (9, 1, .aload_n 0), (10, 3, .getfield 245), (13, 1, .istore_n 2), (14, 1, .aload_n 0), (15, 3, .getfield 164), (18, 1, .istore_n 3), (19, 1, .aload_n 0), (20, 3, .ldc2_w 220), (23, 3, .invokevirtual 252), (26, 3, .ifCond .eq 40), (29, 1, .aload_n 0), (30, 3, .invokevirtual 293), (33, 3, .ifCond .eq 31), (36, 1, .aload_n 0), (37, 1, .iload_n 1), (38, 1, .iconst 3), (39, 1, .iload_n 2), (40, 1, .aload_n 0), (41, 3, .getfield 245), (44, 1, .aload_n 0), (45, 1, .iload_n 1), (46, 1, .iload_n 2), (47, 1, .aload_n 0), (48, 3, .getfield 245), (51, 3, .invokevirtual 296), (54, 3, .invokevirtual 299), (57, 3, .ifCond .eq 7), (60, 1, .iconst 1), (61, 3, .goto 4), (64, 1, .iconst 0), (65, 1, .ireturn), (66, 1, .aload_n 0), (67, 1, .iload_n 3), (68, 3, .putfield 164), (71, 1, .aload_n 0), (72, 1, .iload_n 1), (73, 1, .iconst 2), (74, 1, .iload_n 2), (75, 1, .iconst (-1)), (76, 1, .aload_n 0), (77, 1, .iload_n 1), (78, 1, .iload_n 2), (79, 3, .invokevirtual 303), (82, 3, .invokevirtual 299), (85, 1, .ireturn)]
theorem hX10_readSupport : osDs cX10_readSupport KX10_readSupport := by
  show ∀ q ∈ KX10_readSupport, decode cX10_readSupport q.1 = .ok (q.2.2, q.2.1)
  decide +kernel
def qX10_readSupport_65 (N : Nat) (k0 : Int32) : osM Int32 := osretZ k0
def qX10_readSupport_64 (N : Nat) : osM Int32 := qX10_readSupport_65 N (0 : Int32)
def qX10_readSupport (N : Nat) (l0 : Nat) (l1 : Int32) : osM Int32 := osbind (osrecv [8] l0 (qX10_readHere N l0)) fun x1 => osite (x1 = 0) (osretZ (0 : Int32)) (osbind (osgI [8] 19 l0) fun x2 => osbind (osgI [8] 13 l0) fun x3 => osbind (osrecv [8] l0 (qX10_takesIf N l0 (655 : Int64))) fun x4 => osite (x4 = 0) (osbind (osput [8] 13 l0 (.int x3)) fun _ => osbind (osrecv [8] l0 (qX10_maySupport N l0 l1 x2)) fun x5 => osbind (osrecv [8] l0 (qX10_orders N l0 l1 (2 : Int32) x2 (-1 : Int32) x5)) fun x6 => osretZ x6) (osbind (osrecv [8] l0 (qX10_readHere N l0)) fun x7 => osite (x7 = 0) (qX10_readSupport_64 N ) (osbind (osgI [8] 19 l0) fun x8 => osbind (osgI [8] 19 l0) fun x9 => osbind (osrecv [8] l0 (qX10_maySupportMove N l0 l1 x2 x9)) fun x10 => osbind (osrecv [8] l0 (qX10_orders N l0 l1 (3 : Int32) x2 x8 x10)) fun x11 => osite (x11 = 0) (qX10_readSupport_64 N ) (qX10_readSupport_65 N (1 : Int32)))))
set_option maxRecDepth 100000 in
set_option maxHeartbeats 4000000 in
theorem sX10_readSupport_65 (N : Nat) (k0 : Int32) : osW (osFinM (fun r : Int32 => some (.int r)) 0 0) yX10_readSupport cX10_readSupport 4 (some .boolean) [] { frames := 7, cells := 0, slots := 0, locals := 144 } 0 0 65 [] [.int k0] (qX10_readSupport_65 N k0) := by
  unfold qX10_readSupport_65
  exact os_zret (Nat.le_of_ble_eq_true rfl) (Nat.le_of_ble_eq_true rfl) (hX10_readSupport.at 35 rfl rfl).1
set_option maxRecDepth 100000 in
set_option maxHeartbeats 4000000 in
theorem sX10_readSupport_64 (N : Nat) : osW (osFinM (fun r : Int32 => some (.int r)) 0 0) yX10_readSupport cX10_readSupport 4 (some .boolean) [] { frames := 7, cells := 0, slots := 0, locals := 144 } 0 0 64 [] [] (qX10_readSupport_64 N) := by
  unfold qX10_readSupport_64
  refine os_iconst (i := 0) (v := (0 : Int32)) rfl (hX10_readSupport.at 34 rfl rfl) ?_
  exact osW.sub [] rfl (sX10_readSupport_65 N (0 : Int32))
set_option maxRecDepth 100000 in
set_option maxHeartbeats 4000000 in
theorem sX10_readSupport (N : Nat) (l0 : Nat) (l1 : Int32) : osMet yX10_readSupport cX10_readSupport 4 (some .boolean) 7 144 0 0 (fun r : Int32 => some (.int r)) [.ref l0, .int l1] (qX10_readSupport N l0 l1) := by
  refine osMet.of plX10 (Nat.le_of_ble_eq_true rfl) (osW.rw (lv2 := [(0, .ref l0), (1, .int l1)]) ?_ rfl rfl rfl)
  unfold qX10_readSupport
  refine os_aload_n (i := 0) (q := 0) (v := l0) 0 rfl rfl (hX10_readSupport.at 0 rfl rfl) ?_
  refine os_callV (cis := [8]) (b := l0) (As := []) (st := []) (st' := (fun r => .int r :: [])) sl8_X10_readHere_X10_readHere mdX10_readHere wd1914 wd1916 (sX10_readHere N l0 ) rfl rfl (fun _ => rfl) (Nat.le_of_ble_eq_true rfl) (Nat.le_of_ble_eq_true rfl) (Nat.le_of_ble_eq_true rfl) rfl (Nat.le_of_ble_eq_true rfl) rfl (Nat.le_of_ble_eq_true rfl) (hX10_readSupport.at 1 rfl rfl) (fun x1 => ?_)
  refine os_if_ne (off := 5) (tgt := 9) rfl (hX10_readSupport.at 2 rfl rfl) ?_ ?_
  · refine os_aload_n (i := 0) (q := 0) (v := l0) 0 rfl rfl (hX10_readSupport.at 5 rfl rfl) ?_
    refine os_getI fX10_245 (hX10_readSupport.at 6 rfl rfl) (fun x2 => ?_)
    refine os_istore_n (i := 2) (q := 2) rfl (lv' := [(2, .int x2), (0, .ref l0), (1, .int l1)]) (Nat.le_of_ble_eq_true rfl) rfl (hX10_readSupport.at 7 rfl rfl) ?_
    refine os_aload_n (i := 0) (q := 0) (v := l0) 1 rfl rfl (hX10_readSupport.at 8 rfl rfl) ?_
    refine os_getI fX10_164 (hX10_readSupport.at 9 rfl rfl) (fun x3 => ?_)
    refine os_istore_n (i := 3) (q := 3) rfl (lv' := [(3, .int x3), (2, .int x2), (0, .ref l0), (1, .int l1)]) (Nat.le_of_ble_eq_true rfl) rfl (hX10_readSupport.at 10 rfl rfl) ?_
    refine os_aload_n (i := 0) (q := 0) (v := l0) 2 rfl rfl (hX10_readSupport.at 11 rfl rfl) ?_
    refine os_ldc2 (v := (655 : Int64)) wd1831 (hX10_readSupport.at 12 rfl rfl) ?_
    refine os_callV (cis := [8]) (b := l0) (As := [.long (655 : Int64)]) (st := []) (st' := (fun r => .int r :: [])) sl8_X10_takesIf_X10_takesIf mdX10_takesIf wd1840 wd1842 (sX10_takesIf N l0 (655 : Int64)) rfl rfl (fun _ => rfl) (Nat.le_of_ble_eq_true rfl) (Nat.le_of_ble_eq_true rfl) (Nat.le_of_ble_eq_true rfl) rfl (Nat.le_of_ble_eq_true rfl) rfl (Nat.le_of_ble_eq_true rfl) (hX10_readSupport.at 13 rfl rfl) (fun x4 => ?_)
    refine os_if_eq (off := 40) (tgt := 66) rfl (hX10_readSupport.at 14 rfl rfl) ?_ ?_
    · refine os_aload_n (i := 0) (q := 0) (v := l0) 2 rfl rfl (hX10_readSupport.at 36 rfl rfl) ?_
      refine os_iload_n (i := 3) (q := 3) (v := x3) 0 rfl rfl (hX10_readSupport.at 37 rfl rfl) ?_
      refine os_put fX10_164 rfl rfl (hX10_readSupport.at 38 rfl rfl) ?_
      refine os_aload_n (i := 0) (q := 0) (v := l0) 2 rfl rfl (hX10_readSupport.at 39 rfl rfl) ?_
      refine os_iload_n (i := 1) (q := 1) (v := l1) 3 rfl rfl (hX10_readSupport.at 40 rfl rfl) ?_
      refine os_iconst (i := 2) (v := (2 : Int32)) rfl (hX10_readSupport.at 41 rfl rfl) ?_
      refine os_iload_n (i := 2) (q := 2) (v := x2) 1 rfl rfl (hX10_readSupport.at 42 rfl rfl) ?_
      refine os_iconst (i := (-1)) (v := (-1 : Int32)) rfl (hX10_readSupport.at 43 rfl rfl) ?_
      refine os_aload_n (i := 0) (q := 0) (v := l0) 2 rfl rfl (hX10_readSupport.at 44 rfl rfl) ?_
      refine os_iload_n (i := 1) (q := 1) (v := l1) 3 rfl rfl (hX10_readSupport.at 45 rfl rfl) ?_
      refine os_iload_n (i := 2) (q := 2) (v := x2) 1 rfl rfl (hX10_readSupport.at 46 rfl rfl) ?_
      refine os_callV (cis := [8]) (b := l0) (As := [.int l1, .int x2]) (st := [.int (-1 : Int32), .int x2, .int (2 : Int32), .int l1, .ref l0]) (st' := (fun r => .int r :: [.int (-1 : Int32), .int x2, .int (2 : Int32), .int l1, .ref l0])) sl8_X10_maySupport_X10_maySupport mdX10_maySupport wd1950 wd1952 (sX10_maySupport N l0 l1 x2) rfl rfl (fun _ => rfl) (Nat.le_of_ble_eq_true rfl) (Nat.le_of_ble_eq_true rfl) (Nat.le_of_ble_eq_true rfl) rfl (Nat.le_of_ble_eq_true rfl) rfl (Nat.le_of_ble_eq_true rfl) (hX10_readSupport.at 47 rfl rfl) (fun x5 => ?_)
      refine os_callV (cis := [8]) (b := l0) (As := [.int l1, .int (2 : Int32), .int x2, .int (-1 : Int32), .int x5]) (st := []) (st' := (fun r => .int r :: [])) sl8_X10_orders_X10_orders mdX10_orders wd1918 wd1920 (sX10_orders N l0 l1 (2 : Int32) x2 (-1 : Int32) x5) rfl rfl (fun _ => rfl) (Nat.le_of_ble_eq_true rfl) (Nat.le_of_ble_eq_true rfl) (Nat.le_of_ble_eq_true rfl) rfl (Nat.le_of_ble_eq_true rfl) rfl (Nat.le_of_ble_eq_true rfl) (hX10_readSupport.at 48 rfl rfl) (fun x6 => ?_)
      exact os_zret (Nat.le_of_ble_eq_true rfl) (Nat.le_of_ble_eq_true rfl) (hX10_readSupport.at 49 rfl rfl).1
    · refine os_aload_n (i := 0) (q := 0) (v := l0) 2 rfl rfl (hX10_readSupport.at 15 rfl rfl) ?_
      refine os_callV (cis := [8]) (b := l0) (As := []) (st := []) (st' := (fun r => .int r :: [])) sl8_X10_readHere_X10_readHere mdX10_readHere wd1914 wd1916 (sX10_readHere N l0 ) rfl rfl (fun _ => rfl) (Nat.le_of_ble_eq_true rfl) (Nat.le_of_ble_eq_true rfl) (Nat.le_of_ble_eq_true rfl) rfl (Nat.le_of_ble_eq_true rfl) rfl (Nat.le_of_ble_eq_true rfl) (hX10_readSupport.at 16 rfl rfl) (fun x7 => ?_)
      refine os_if_eq (off := 31) (tgt := 64) rfl (hX10_readSupport.at 17 rfl rfl) ?_ ?_
      · exact osW.sub [] rfl (sX10_readSupport_64 N )
      · refine os_aload_n (i := 0) (q := 0) (v := l0) 2 rfl rfl (hX10_readSupport.at 18 rfl rfl) ?_
        refine os_iload_n (i := 1) (q := 1) (v := l1) 3 rfl rfl (hX10_readSupport.at 19 rfl rfl) ?_
        refine os_iconst (i := 3) (v := (3 : Int32)) rfl (hX10_readSupport.at 20 rfl rfl) ?_
        refine os_iload_n (i := 2) (q := 2) (v := x2) 1 rfl rfl (hX10_readSupport.at 21 rfl rfl) ?_
        refine os_aload_n (i := 0) (q := 0) (v := l0) 2 rfl rfl (hX10_readSupport.at 22 rfl rfl) ?_
        refine os_getI fX10_245 (hX10_readSupport.at 23 rfl rfl) (fun x8 => ?_)
        refine os_aload_n (i := 0) (q := 0) (v := l0) 2 rfl rfl (hX10_readSupport.at 24 rfl rfl) ?_
        refine os_iload_n (i := 1) (q := 1) (v := l1) 3 rfl rfl (hX10_readSupport.at 25 rfl rfl) ?_
        refine os_iload_n (i := 2) (q := 2) (v := x2) 1 rfl rfl (hX10_readSupport.at 26 rfl rfl) ?_
        refine os_aload_n (i := 0) (q := 0) (v := l0) 2 rfl rfl (hX10_readSupport.at 27 rfl rfl) ?_
        refine os_getI fX10_245 (hX10_readSupport.at 28 rfl rfl) (fun x9 => ?_)
        refine os_callV (cis := [8]) (b := l0) (As := [.int l1, .int x2, .int x9]) (st := [.int x8, .int x2, .int (3 : Int32), .int l1, .ref l0]) (st' := (fun r => .int r :: [.int x8, .int x2, .int (3 : Int32), .int l1, .ref l0])) sl8_X10_maySupportMove_X10_maySupportMove mdX10_maySupportMove wd1946 wd1948 (sX10_maySupportMove N l0 l1 x2 x9) rfl rfl (fun _ => rfl) (Nat.le_of_ble_eq_true rfl) (Nat.le_of_ble_eq_true rfl) (Nat.le_of_ble_eq_true rfl) rfl (Nat.le_of_ble_eq_true rfl) rfl (Nat.le_of_ble_eq_true rfl) (hX10_readSupport.at 29 rfl rfl) (fun x10 => ?_)
        refine os_callV (cis := [8]) (b := l0) (As := [.int l1, .int (3 : Int32), .int x2, .int x8, .int x10]) (st := []) (st' := (fun r => .int r :: [])) sl8_X10_orders_X10_orders mdX10_orders wd1918 wd1920 (sX10_orders N l0 l1 (3 : Int32) x2 x8 x10) rfl rfl (fun _ => rfl) (Nat.le_of_ble_eq_true rfl) (Nat.le_of_ble_eq_true rfl) (Nat.le_of_ble_eq_true rfl) rfl (Nat.le_of_ble_eq_true rfl) rfl (Nat.le_of_ble_eq_true rfl) (hX10_readSupport.at 30 rfl rfl) (fun x11 => ?_)
        refine os_if_eq (off := 7) (tgt := 64) rfl (hX10_readSupport.at 31 rfl rfl) ?_ ?_
        · exact osW.sub [] rfl (sX10_readSupport_64 N )
        · refine os_iconst (i := 1) (v := (1 : Int32)) rfl (hX10_readSupport.at 32 rfl rfl) ?_
          refine os_goto (off := 4) (tgt := 65) rfl (hX10_readSupport.at 33 rfl rfl) ?_
          exact osW.sub [] rfl (sX10_readSupport_65 N (1 : Int32))
  · refine os_iconst (i := 0) (v := (0 : Int32)) rfl (hX10_readSupport.at 3 rfl rfl) ?_
    exact os_zret (Nat.le_of_ble_eq_true rfl) (Nat.le_of_ble_eq_true rfl) (hX10_readSupport.at 4 rfl rfl).1
-- X10_readConvoy
def KX10_readConvoy : List (Nat × Nat × Instr) := [(0, 1, .aload_n 0), (1, 3, .invokevirtual 293), (4, 3, .ifCond .ne 5), (7, 1, .iconst 0), (8, 1, .ireturn), (9, 1, .aload_n 0), (10, 3, .getfield 245), (13, 1, .istore_n 2), (14, 1, .aload_n 0), (15, 3, .ldc2_w 220), (18, 3, .invokevirtual 306), (21, 3, .ifCond .eq 38), (24, 1, .aload_n 0), (25, 3, .invokevirtual 293), (28, 3, .ifCond .eq 31), (31, 1, .aload_n 0), (32, 1, .iload_n 1), (33, 1, .iconst 4), (34, 1, .iload_n 2), (35, 1, .aload_n 0), (36, 3, .getfield 245), (39, 1, .aload_n 0), (40, 1, .iload_n 1), (41, 1, .iload_n 2), (42, 1, .aload_n 0), (43, 3, .getfield 245), (46, 3, .invokevirtual 309), (49, 3, .invokevirtual 299), (52, 3, .ifCond .eq 7), (55, 1, .iconst 1), (56, 3, .goto 4), (59, 1, .iconst 0), (60, 1, .ireturn)]
theorem hX10_readConvoy : osDs cX10_readConvoy KX10_readConvoy := by
  show ∀ q ∈ KX10_readConvoy, decode cX10_readConvoy q.1 = .ok (q.2.2, q.2.1)
  decide +kernel
def qX10_readConvoy_60 (N : Nat) (k0 : Int32) : osM Int32 := osretZ k0
def qX10_readConvoy_59 (N : Nat) : osM Int32 := qX10_readConvoy_60 N (0 : Int32)
def qX10_readConvoy (N : Nat) (l0 : Nat) (l1 : Int32) : osM Int32 := osbind (osrecv [8] l0 (qX10_readHere N l0)) fun x1 => osite (x1 = 0) (osretZ (0 : Int32)) (osbind (osgI [8] 19 l0) fun x2 => osbind (osrecv [8] l0 (qX10_takesWord N l0 (655 : Int64))) fun x3 => osite (x3 = 0) (qX10_readConvoy_59 N ) (osbind (osrecv [8] l0 (qX10_readHere N l0)) fun x4 => osite (x4 = 0) (qX10_readConvoy_59 N ) (osbind (osgI [8] 19 l0) fun x5 => osbind (osgI [8] 19 l0) fun x6 => osbind (osrecv [8] l0 (qX10_mayConvoy N l0 l1 x2 x6)) fun x7 => osbind (osrecv [8] l0 (qX10_orders N l0 l1 (4 : Int32) x2 x5 x7)) fun x8 => osite (x8 = 0) (qX10_readConvoy_59 N ) (qX10_readConvoy_60 N (1 : Int32)))))
set_option maxRecDepth 100000 in
set_option maxHeartbeats 4000000 in
theorem sX10_readConvoy_60 (N : Nat) (k0 : Int32) : osW (osFinM (fun r : Int32 => some (.int r)) 0 0) yX10_readConvoy cX10_readConvoy 3 (some .boolean) [] { frames := 7, cells := 0, slots := 0, locals := 144 } 0 0 60 [] [.int k0] (qX10_readConvoy_60 N k0) := by
  unfold qX10_readConvoy_60
  exact os_zret (Nat.le_of_ble_eq_true rfl) (Nat.le_of_ble_eq_true rfl) (hX10_readConvoy.at 32 rfl rfl).1
set_option maxRecDepth 100000 in
set_option maxHeartbeats 4000000 in
theorem sX10_readConvoy_59 (N : Nat) : osW (osFinM (fun r : Int32 => some (.int r)) 0 0) yX10_readConvoy cX10_readConvoy 3 (some .boolean) [] { frames := 7, cells := 0, slots := 0, locals := 144 } 0 0 59 [] [] (qX10_readConvoy_59 N) := by
  unfold qX10_readConvoy_59
  refine os_iconst (i := 0) (v := (0 : Int32)) rfl (hX10_readConvoy.at 31 rfl rfl) ?_
  exact osW.sub [] rfl (sX10_readConvoy_60 N (0 : Int32))
set_option maxRecDepth 100000 in
set_option maxHeartbeats 4000000 in
theorem sX10_readConvoy (N : Nat) (l0 : Nat) (l1 : Int32) : osMet yX10_readConvoy cX10_readConvoy 3 (some .boolean) 7 144 0 0 (fun r : Int32 => some (.int r)) [.ref l0, .int l1] (qX10_readConvoy N l0 l1) := by
  refine osMet.of plX10 (Nat.le_of_ble_eq_true rfl) (osW.rw (lv2 := [(0, .ref l0), (1, .int l1)]) ?_ rfl rfl rfl)
  unfold qX10_readConvoy
  refine os_aload_n (i := 0) (q := 0) (v := l0) 0 rfl rfl (hX10_readConvoy.at 0 rfl rfl) ?_
  refine os_callV (cis := [8]) (b := l0) (As := []) (st := []) (st' := (fun r => .int r :: [])) sl8_X10_readHere_X10_readHere mdX10_readHere wd1914 wd1916 (sX10_readHere N l0 ) rfl rfl (fun _ => rfl) (Nat.le_of_ble_eq_true rfl) (Nat.le_of_ble_eq_true rfl) (Nat.le_of_ble_eq_true rfl) rfl (Nat.le_of_ble_eq_true rfl) rfl (Nat.le_of_ble_eq_true rfl) (hX10_readConvoy.at 1 rfl rfl) (fun x1 => ?_)
  refine os_if_ne (off := 5) (tgt := 9) rfl (hX10_readConvoy.at 2 rfl rfl) ?_ ?_
  · refine os_aload_n (i := 0) (q := 0) (v := l0) 0 rfl rfl (hX10_readConvoy.at 5 rfl rfl) ?_
    refine os_getI fX10_245 (hX10_readConvoy.at 6 rfl rfl) (fun x2 => ?_)
    refine os_istore_n (i := 2) (q := 2) rfl (lv' := [(2, .int x2), (0, .ref l0), (1, .int l1)]) (Nat.le_of_ble_eq_true rfl) rfl (hX10_readConvoy.at 7 rfl rfl) ?_
    refine os_aload_n (i := 0) (q := 0) (v := l0) 1 rfl rfl (hX10_readConvoy.at 8 rfl rfl) ?_
    refine os_ldc2 (v := (655 : Int64)) wd1831 (hX10_readConvoy.at 9 rfl rfl) ?_
    refine os_callV (cis := [8]) (b := l0) (As := [.long (655 : Int64)]) (st := []) (st' := (fun r => .int r :: [])) sl8_X10_takesWord_X10_takesWord mdX10_takesWord wd1958 wd1960 (sX10_takesWord N l0 (655 : Int64)) rfl rfl (fun _ => rfl) (Nat.le_of_ble_eq_true rfl) (Nat.le_of_ble_eq_true rfl) (Nat.le_of_ble_eq_true rfl) rfl (Nat.le_of_ble_eq_true rfl) rfl (Nat.le_of_ble_eq_true rfl) (hX10_readConvoy.at 10 rfl rfl) (fun x3 => ?_)
    refine os_if_eq (off := 38) (tgt := 59) rfl (hX10_readConvoy.at 11 rfl rfl) ?_ ?_
    · exact osW.sub [] rfl (sX10_readConvoy_59 N )
    · refine os_aload_n (i := 0) (q := 0) (v := l0) 1 rfl rfl (hX10_readConvoy.at 12 rfl rfl) ?_
      refine os_callV (cis := [8]) (b := l0) (As := []) (st := []) (st' := (fun r => .int r :: [])) sl8_X10_readHere_X10_readHere mdX10_readHere wd1914 wd1916 (sX10_readHere N l0 ) rfl rfl (fun _ => rfl) (Nat.le_of_ble_eq_true rfl) (Nat.le_of_ble_eq_true rfl) (Nat.le_of_ble_eq_true rfl) rfl (Nat.le_of_ble_eq_true rfl) rfl (Nat.le_of_ble_eq_true rfl) (hX10_readConvoy.at 13 rfl rfl) (fun x4 => ?_)
      refine os_if_eq (off := 31) (tgt := 59) rfl (hX10_readConvoy.at 14 rfl rfl) ?_ ?_
      · exact osW.sub [] rfl (sX10_readConvoy_59 N )
      · refine os_aload_n (i := 0) (q := 0) (v := l0) 1 rfl rfl (hX10_readConvoy.at 15 rfl rfl) ?_
        refine os_iload_n (i := 1) (q := 1) (v := l1) 2 rfl rfl (hX10_readConvoy.at 16 rfl rfl) ?_
        refine os_iconst (i := 4) (v := (4 : Int32)) rfl (hX10_readConvoy.at 17 rfl rfl) ?_
        refine os_iload_n (i := 2) (q := 2) (v := x2) 0 rfl rfl (hX10_readConvoy.at 18 rfl rfl) ?_
        refine os_aload_n (i := 0) (q := 0) (v := l0) 1 rfl rfl (hX10_readConvoy.at 19 rfl rfl) ?_
        refine os_getI fX10_245 (hX10_readConvoy.at 20 rfl rfl) (fun x5 => ?_)
        refine os_aload_n (i := 0) (q := 0) (v := l0) 1 rfl rfl (hX10_readConvoy.at 21 rfl rfl) ?_
        refine os_iload_n (i := 1) (q := 1) (v := l1) 2 rfl rfl (hX10_readConvoy.at 22 rfl rfl) ?_
        refine os_iload_n (i := 2) (q := 2) (v := x2) 0 rfl rfl (hX10_readConvoy.at 23 rfl rfl) ?_
        refine os_aload_n (i := 0) (q := 0) (v := l0) 1 rfl rfl (hX10_readConvoy.at 24 rfl rfl) ?_
        refine os_getI fX10_245 (hX10_readConvoy.at 25 rfl rfl) (fun x6 => ?_)
        refine os_callV (cis := [8]) (b := l0) (As := [.int l1, .int x2, .int x6]) (st := [.int x5, .int x2, .int (4 : Int32), .int l1, .ref l0]) (st' := (fun r => .int r :: [.int x5, .int x2, .int (4 : Int32), .int l1, .ref l0])) sl8_X10_mayConvoy_X10_mayConvoy mdX10_mayConvoy wd1962 wd1964 (sX10_mayConvoy N l0 l1 x2 x6) rfl rfl (fun _ => rfl) (Nat.le_of_ble_eq_true rfl) (Nat.le_of_ble_eq_true rfl) (Nat.le_of_ble_eq_true rfl) rfl (Nat.le_of_ble_eq_true rfl) rfl (Nat.le_of_ble_eq_true rfl) (hX10_readConvoy.at 26 rfl rfl) (fun x7 => ?_)
        refine os_callV (cis := [8]) (b := l0) (As := [.int l1, .int (4 : Int32), .int x2, .int x5, .int x7]) (st := []) (st' := (fun r => .int r :: [])) sl8_X10_orders_X10_orders mdX10_orders wd1918 wd1920 (sX10_orders N l0 l1 (4 : Int32) x2 x5 x7) rfl rfl (fun _ => rfl) (Nat.le_of_ble_eq_true rfl) (Nat.le_of_ble_eq_true rfl) (Nat.le_of_ble_eq_true rfl) rfl (Nat.le_of_ble_eq_true rfl) rfl (Nat.le_of_ble_eq_true rfl) (hX10_readConvoy.at 27 rfl rfl) (fun x8 => ?_)
        refine os_if_eq (off := 7) (tgt := 59) rfl (hX10_readConvoy.at 28 rfl rfl) ?_ ?_
        · exact osW.sub [] rfl (sX10_readConvoy_59 N )
        · refine os_iconst (i := 1) (v := (1 : Int32)) rfl (hX10_readConvoy.at 29 rfl rfl) ?_
          refine os_goto (off := 4) (tgt := 60) rfl (hX10_readConvoy.at 30 rfl rfl) ?_
          exact osW.sub [] rfl (sX10_readConvoy_60 N (1 : Int32))
  · refine os_iconst (i := 0) (v := (0 : Int32)) rfl (hX10_readConvoy.at 3 rfl rfl) ?_
    exact os_zret (Nat.le_of_ble_eq_true rfl) (Nat.le_of_ble_eq_true rfl) (hX10_readConvoy.at 4 rfl rfl).1
-- X10_readOrder
def KX10_readOrder : List (Nat × Nat × Instr) := [(0, 1, .aload_n 0), (1, 3, .invokevirtual 293), (4, 3, .ifCond .ne 5), (7, 1, .iconst 0), (8, 1, .ireturn), (9, 1, .aload_n 0), (10, 3, .getfield 245), (13, 1, .istore_n 1), (14, 1, .aload_n 0), (15, 3, .getfield 16), (18, 1, .iload_n 1), (19, 3, .invokestatic 103), (22, 3, .ifCond .ne 13), (25, 1, .aload_n 0), (26, 1, .iconst 2), (27, 1, .aload_n 0), (28, 3, .getfield 164), (31, 3, .invokevirtual 195), (34, 1, .ireturn), (35, 1, .aload_n 0), (36, 3, .invokevirtual 232), (39, 3, .ifCond .ne 5), (42, 1, .iconst 0), (43, 1, .ireturn), (44, 1, .aload_n 0), (45, 3, .getfield 177), (48, 3, .ldc2_w 218), (51, 1, .lcmp), (52, 3, .ifCond .ne 13), (55, 1, .aload_n 0), (56, 1, .iload_n 1), (57, 1, .iconst 0), (58, 1, .iconst (-1)), (59, 1, .iconst (-1)), (60, 1, .iconst 1), (61, 3, .invokevirtual 299), (64, 1, .ireturn), (65, 1, .aload_n 0), (66, 3, .getfield 177), (69, 3, .ldc2_w 220), (72, 1, .lcmp), (73, 3, .ifCond .ne 39), (76, 1, .aload_n 0), (77, 3, .invokevirtual 293), (80, 3, .ifCond .eq 30), (83, 1, .aload_n 0), (84, 1, .iload_n 1), (85, 1, .iconst 1), (86, 1, .aload_n 0), (87, 3, .getfield 245), (90, 1, .iconst (-1)), (91, 1, .aload_n 0), (92, 1, .iload_n 1), (93, 1, .aload_n 0), (94, 3, .getfield 245), (97, 3, .invokevirtual 312), (100, 3, .invokevirtual 299), (103, 3, .ifCond .eq 7), (106, 1, .iconst 1), (107, 3, .goto 4), (110, 1, .iconst 0), (111, 1, .ireturn), (112, 1, .aload_n 0), (113, 3, .getfield 177), (116, 3, .ldc2_w 222), (119, 1, .lcmp), (120, 3, .ifCond .ne 9), (123, 1, .aload_n 0), (124, 1, .iload_n 1), (125, 3, .invokevirtual 315), (128, 1, .ireturn), (129, 1, .aload_n 0), (130, 3, .getfield 177), (133, 3, .ldc2_w 224), (136, 1, .lcmp), (137, 3, .ifCond .ne 11), (140, 1, .aload_n 0), (141, 1, .iload_n 1), (142, 3, .invokevirtual 318), (145, 3, .goto 12), (148, 1, .aload_n 0), (149, 1, .iconst 1), (150, 1, .aload_n 0), (151, 3, .getfield 164), (154, 3, .invokevirtual 195), (157, 1, .ireturn)]
theorem hX10_readOrder : osDs cX10_readOrder KX10_readOrder := by
  show ∀ q ∈ KX10_readOrder, decode cX10_readOrder q.1 = .ok (q.2.2, q.2.1)
  decide +kernel
def qX10_readOrder_157 (N : Nat) (k0 : Int32) : osM Int32 := osretZ k0
def qX10_readOrder_111 (N : Nat) (k0 : Int32) : osM Int32 := osretZ k0
def qX10_readOrder_110 (N : Nat) : osM Int32 := qX10_readOrder_111 N (0 : Int32)
def qX10_readOrder (N : Nat) (l0 : Nat) : osM Int32 := osbind (osrecv [8] l0 (qX10_readHere N l0)) fun x1 => osite (x1 = 0) (osretZ (0 : Int32)) (osbind (osgI [8] 19 l0) fun x2 => osbind (osgR [8] 3 l0) fun x3 => osbind (qX10_isUnit N x3 x2) fun x4 => osite (x4 = 0) (osbind (osgI [8] 13 l0) fun x20 => osbind (osrecv [8] l0 (qX10_fails N l0 (2 : Int32) x20)) fun x21 => osretZ x21) (osbind (osrecv [8] l0 (qX10_readWord N l0)) fun x5 => osite (x5 = 0) (osretZ (0 : Int32)) (osbind (osgJ [8] 18 l0) fun x6 => osite ((lg_cmp x6 (277892 : Int64)) = 0) (osbind (osrecv [8] l0 (qX10_orders N l0 x2 (0 : Int32) (-1 : Int32) (-1 : Int32) (1 : Int32))) fun x19 => osretZ x19) (osbind (osgJ [8] 18 l0) fun x7 => osite ((lg_cmp x7 (655 : Int64)) = 0) (osbind (osrecv [8] l0 (qX10_readHere N l0)) fun x14 => osite (x14 = 0) (qX10_readOrder_110 N ) (osbind (osgI [8] 19 l0) fun x15 => osbind (osgI [8] 19 l0) fun x16 => osbind (osrecv [8] l0 (qX10_mayMove N l0 x2 x16)) fun x17 => osbind (osrecv [8] l0 (qX10_orders N l0 x2 (1 : Int32) x15 (-1 : Int32) x17)) fun x18 => osite (x18 = 0) (qX10_readOrder_110 N ) (qX10_readOrder_111 N (1 : Int32)))) (osbind (osgJ [8] 18 l0) fun x8 => osite ((lg_cmp x8 (21123055188 : Int64)) = 0) (osbind (osrecv [8] l0 (qX10_readSupport N l0 x2)) fun x13 => osretZ x13) (osbind (osgJ [8] 18 l0) fun x9 => osite ((lg_cmp x9 (116873721 : Int64)) = 0) (osbind (osrecv [8] l0 (qX10_readConvoy N l0 x2)) fun x12 => qX10_readOrder_157 N x12) (osbind (osgI [8] 13 l0) fun x10 => osbind (osrecv [8] l0 (qX10_fails N l0 (1 : Int32) x10)) fun x11 => qX10_readOrder_157 N x11)))))))
set_option maxRecDepth 100000 in
set_option maxHeartbeats 4000000 in
theorem sX10_readOrder_157 (N : Nat) (k0 : Int32) : osW (osFinM (fun r : Int32 => some (.int r)) 0 0) yX10_readOrder cX10_readOrder 2 (some .boolean) [] { frames := 8, cells := 0, slots := 0, locals := 167 } 0 0 157 [] [.int k0] (qX10_readOrder_157 N k0) := by
  unfold qX10_readOrder_157
  exact os_zret (Nat.le_of_ble_eq_true rfl) (Nat.le_of_ble_eq_true rfl) (hX10_readOrder.at 85 rfl rfl).1
set_option maxRecDepth 100000 in
set_option maxHeartbeats 4000000 in
theorem sX10_readOrder_111 (N : Nat) (k0 : Int32) : osW (osFinM (fun r : Int32 => some (.int r)) 0 0) yX10_readOrder cX10_readOrder 2 (some .boolean) [] { frames := 8, cells := 0, slots := 0, locals := 167 } 0 0 111 [] [.int k0] (qX10_readOrder_111 N k0) := by
  unfold qX10_readOrder_111
  exact os_zret (Nat.le_of_ble_eq_true rfl) (Nat.le_of_ble_eq_true rfl) (hX10_readOrder.at 61 rfl rfl).1
set_option maxRecDepth 100000 in
set_option maxHeartbeats 4000000 in
theorem sX10_readOrder_110 (N : Nat) : osW (osFinM (fun r : Int32 => some (.int r)) 0 0) yX10_readOrder cX10_readOrder 2 (some .boolean) [] { frames := 8, cells := 0, slots := 0, locals := 167 } 0 0 110 [] [] (qX10_readOrder_110 N) := by
  unfold qX10_readOrder_110
  refine os_iconst (i := 0) (v := (0 : Int32)) rfl (hX10_readOrder.at 60 rfl rfl) ?_
  exact osW.sub [] rfl (sX10_readOrder_111 N (0 : Int32))
set_option maxRecDepth 100000 in
set_option maxHeartbeats 4000000 in
theorem sX10_readOrder (N : Nat) (l0 : Nat) : osMet yX10_readOrder cX10_readOrder 2 (some .boolean) 8 167 0 0 (fun r : Int32 => some (.int r)) [.ref l0] (qX10_readOrder N l0) := by
  refine osMet.of plX10 (Nat.le_of_ble_eq_true rfl) (osW.rw (lv2 := [(0, .ref l0)]) ?_ rfl rfl rfl)
  unfold qX10_readOrder
  refine os_aload_n (i := 0) (q := 0) (v := l0) 0 rfl rfl (hX10_readOrder.at 0 rfl rfl) ?_
  refine os_callV (cis := [8]) (b := l0) (As := []) (st := []) (st' := (fun r => .int r :: [])) sl8_X10_readHere_X10_readHere mdX10_readHere wd1914 wd1916 (sX10_readHere N l0 ) rfl rfl (fun _ => rfl) (Nat.le_of_ble_eq_true rfl) (Nat.le_of_ble_eq_true rfl) (Nat.le_of_ble_eq_true rfl) rfl (Nat.le_of_ble_eq_true rfl) rfl (Nat.le_of_ble_eq_true rfl) (hX10_readOrder.at 1 rfl rfl) (fun x1 => ?_)
  refine os_if_ne (off := 5) (tgt := 9) rfl (hX10_readOrder.at 2 rfl rfl) ?_ ?_
  · refine os_aload_n (i := 0) (q := 0) (v := l0) 0 rfl rfl (hX10_readOrder.at 5 rfl rfl) ?_
    refine os_getI fX10_245 (hX10_readOrder.at 6 rfl rfl) (fun x2 => ?_)
    refine os_istore_n (i := 1) (q := 1) rfl (lv' := [(1, .int x2), (0, .ref l0)]) (Nat.le_of_ble_eq_true rfl) rfl (hX10_readOrder.at 7 rfl rfl) ?_
    refine os_aload_n (i := 0) (q := 0) (v := l0) 1 rfl rfl (hX10_readOrder.at 8 rfl rfl) ?_
    refine os_getR fX10_16 (hX10_readOrder.at 9 rfl rfl) (fun x3 => ?_)
    refine os_iload_n (i := 1) (q := 1) (v := x2) 0 rfl rfl (hX10_readOrder.at 10 rfl rfl) ?_
    refine os_callS (As := [.ref x3, .int x2]) (st := []) (st' := (fun r => .int r :: [])) mdX10_isUnit wd1879 wd1880 (sX10_isUnit N x3 x2) rfl rfl (fun _ => rfl) (Nat.le_of_ble_eq_true rfl) (Nat.le_of_ble_eq_true rfl) (Nat.le_of_ble_eq_true rfl) rfl (Nat.le_of_ble_eq_true rfl) rfl (Nat.le_of_ble_eq_true rfl) (hX10_readOrder.at 11 rfl rfl) (fun x4 => ?_)
    refine os_if_ne (off := 13) (tgt := 35) rfl (hX10_readOrder.at 12 rfl rfl) ?_ ?_
    · refine os_aload_n (i := 0) (q := 0) (v := l0) 1 rfl rfl (hX10_readOrder.at 19 rfl rfl) ?_
      refine os_callV (cis := [8]) (b := l0) (As := []) (st := []) (st' := (fun r => .int r :: [])) sl8_X10_readWord_X10_readWord mdX10_readWord wd1789 wd1791 (sX10_readWord N l0 ) rfl rfl (fun _ => rfl) (Nat.le_of_ble_eq_true rfl) (Nat.le_of_ble_eq_true rfl) (Nat.le_of_ble_eq_true rfl) rfl (Nat.le_of_ble_eq_true rfl) rfl (Nat.le_of_ble_eq_true rfl) (hX10_readOrder.at 20 rfl rfl) (fun x5 => ?_)
      refine os_if_ne (off := 5) (tgt := 44) rfl (hX10_readOrder.at 21 rfl rfl) ?_ ?_
      · refine os_aload_n (i := 0) (q := 0) (v := l0) 1 rfl rfl (hX10_readOrder.at 24 rfl rfl) ?_
        refine os_getJ fX10_177 (hX10_readOrder.at 25 rfl rfl) (fun x6 => ?_)
        refine os_ldc2 (v := (277892 : Int64)) wd1830 (hX10_readOrder.at 26 rfl rfl) ?_
        refine os_lcmp (hX10_readOrder.at 27 rfl rfl) ?_
        refine os_if_ne (off := 13) (tgt := 65) rfl (hX10_readOrder.at 28 rfl rfl) ?_ ?_
        · refine os_aload_n (i := 0) (q := 0) (v := l0) 1 rfl rfl (hX10_readOrder.at 37 rfl rfl) ?_
          refine os_getJ fX10_177 (hX10_readOrder.at 38 rfl rfl) (fun x7 => ?_)
          refine os_ldc2 (v := (655 : Int64)) wd1831 (hX10_readOrder.at 39 rfl rfl) ?_
          refine os_lcmp (hX10_readOrder.at 40 rfl rfl) ?_
          refine os_if_ne (off := 39) (tgt := 112) rfl (hX10_readOrder.at 41 rfl rfl) ?_ ?_
          · refine os_aload_n (i := 0) (q := 0) (v := l0) 1 rfl rfl (hX10_readOrder.at 62 rfl rfl) ?_
            refine os_getJ fX10_177 (hX10_readOrder.at 63 rfl rfl) (fun x8 => ?_)
            refine os_ldc2 (v := (21123055188 : Int64)) wd1832 (hX10_readOrder.at 64 rfl rfl) ?_
            refine os_lcmp (hX10_readOrder.at 65 rfl rfl) ?_
            refine os_if_ne (off := 9) (tgt := 129) rfl (hX10_readOrder.at 66 rfl rfl) ?_ ?_
            · refine os_aload_n (i := 0) (q := 0) (v := l0) 1 rfl rfl (hX10_readOrder.at 71 rfl rfl) ?_
              refine os_getJ fX10_177 (hX10_readOrder.at 72 rfl rfl) (fun x9 => ?_)
              refine os_ldc2 (v := (116873721 : Int64)) wd1833 (hX10_readOrder.at 73 rfl rfl) ?_
              refine os_lcmp (hX10_readOrder.at 74 rfl rfl) ?_
              refine os_if_ne (off := 11) (tgt := 148) rfl (hX10_readOrder.at 75 rfl rfl) ?_ ?_
              · refine os_aload_n (i := 0) (q := 0) (v := l0) 1 rfl rfl (hX10_readOrder.at 80 rfl rfl) ?_
                refine os_iconst (i := 1) (v := (1 : Int32)) rfl (hX10_readOrder.at 81 rfl rfl) ?_
                refine os_aload_n (i := 0) (q := 0) (v := l0) 1 rfl rfl (hX10_readOrder.at 82 rfl rfl) ?_
                refine os_getI fX10_164 (hX10_readOrder.at 83 rfl rfl) (fun x10 => ?_)
                refine os_callV (cis := [8]) (b := l0) (As := [.int (1 : Int32), .int x10]) (st := []) (st' := (fun r => .int r :: [])) sl8_X10_fails_X10_fails mdX10_fails wd1806 wd1808 (sX10_fails N l0 (1 : Int32) x10) rfl rfl (fun _ => rfl) (Nat.le_of_ble_eq_true rfl) (Nat.le_of_ble_eq_true rfl) (Nat.le_of_ble_eq_true rfl) rfl (Nat.le_of_ble_eq_true rfl) rfl (Nat.le_of_ble_eq_true rfl) (hX10_readOrder.at 84 rfl rfl) (fun x11 => ?_)
                exact osW.sub [] rfl (sX10_readOrder_157 N x11)
              · refine os_aload_n (i := 0) (q := 0) (v := l0) 1 rfl rfl (hX10_readOrder.at 76 rfl rfl) ?_
                refine os_iload_n (i := 1) (q := 1) (v := x2) 0 rfl rfl (hX10_readOrder.at 77 rfl rfl) ?_
                refine os_callV (cis := [8]) (b := l0) (As := [.int x2]) (st := []) (st' := (fun r => .int r :: [])) sl8_X10_readConvoy_X10_readConvoy mdX10_readConvoy wd1954 wd1956 (sX10_readConvoy N l0 x2) rfl rfl (fun _ => rfl) (Nat.le_of_ble_eq_true rfl) (Nat.le_of_ble_eq_true rfl) (Nat.le_of_ble_eq_true rfl) rfl (Nat.le_of_ble_eq_true rfl) rfl (Nat.le_of_ble_eq_true rfl) (hX10_readOrder.at 78 rfl rfl) (fun x12 => ?_)
                refine os_goto (off := 12) (tgt := 157) rfl (hX10_readOrder.at 79 rfl rfl) ?_
                exact osW.sub [] rfl (sX10_readOrder_157 N x12)
            · refine os_aload_n (i := 0) (q := 0) (v := l0) 1 rfl rfl (hX10_readOrder.at 67 rfl rfl) ?_
              refine os_iload_n (i := 1) (q := 1) (v := x2) 0 rfl rfl (hX10_readOrder.at 68 rfl rfl) ?_
              refine os_callV (cis := [8]) (b := l0) (As := [.int x2]) (st := []) (st' := (fun r => .int r :: [])) sl8_X10_readSupport_X10_readSupport mdX10_readSupport wd1942 wd1944 (sX10_readSupport N l0 x2) rfl rfl (fun _ => rfl) (Nat.le_of_ble_eq_true rfl) (Nat.le_of_ble_eq_true rfl) (Nat.le_of_ble_eq_true rfl) rfl (Nat.le_of_ble_eq_true rfl) rfl (Nat.le_of_ble_eq_true rfl) (hX10_readOrder.at 69 rfl rfl) (fun x13 => ?_)
              exact os_zret (Nat.le_of_ble_eq_true rfl) (Nat.le_of_ble_eq_true rfl) (hX10_readOrder.at 70 rfl rfl).1
          · refine os_aload_n (i := 0) (q := 0) (v := l0) 1 rfl rfl (hX10_readOrder.at 42 rfl rfl) ?_
            refine os_callV (cis := [8]) (b := l0) (As := []) (st := []) (st' := (fun r => .int r :: [])) sl8_X10_readHere_X10_readHere mdX10_readHere wd1914 wd1916 (sX10_readHere N l0 ) rfl rfl (fun _ => rfl) (Nat.le_of_ble_eq_true rfl) (Nat.le_of_ble_eq_true rfl) (Nat.le_of_ble_eq_true rfl) rfl (Nat.le_of_ble_eq_true rfl) rfl (Nat.le_of_ble_eq_true rfl) (hX10_readOrder.at 43 rfl rfl) (fun x14 => ?_)
            refine os_if_eq (off := 30) (tgt := 110) rfl (hX10_readOrder.at 44 rfl rfl) ?_ ?_
            · exact osW.sub [] rfl (sX10_readOrder_110 N )
            · refine os_aload_n (i := 0) (q := 0) (v := l0) 1 rfl rfl (hX10_readOrder.at 45 rfl rfl) ?_
              refine os_iload_n (i := 1) (q := 1) (v := x2) 0 rfl rfl (hX10_readOrder.at 46 rfl rfl) ?_
              refine os_iconst (i := 1) (v := (1 : Int32)) rfl (hX10_readOrder.at 47 rfl rfl) ?_
              refine os_aload_n (i := 0) (q := 0) (v := l0) 1 rfl rfl (hX10_readOrder.at 48 rfl rfl) ?_
              refine os_getI fX10_245 (hX10_readOrder.at 49 rfl rfl) (fun x15 => ?_)
              refine os_iconst (i := (-1)) (v := (-1 : Int32)) rfl (hX10_readOrder.at 50 rfl rfl) ?_
              refine os_aload_n (i := 0) (q := 0) (v := l0) 1 rfl rfl (hX10_readOrder.at 51 rfl rfl) ?_
              refine os_iload_n (i := 1) (q := 1) (v := x2) 0 rfl rfl (hX10_readOrder.at 52 rfl rfl) ?_
              refine os_aload_n (i := 0) (q := 0) (v := l0) 1 rfl rfl (hX10_readOrder.at 53 rfl rfl) ?_
              refine os_getI fX10_245 (hX10_readOrder.at 54 rfl rfl) (fun x16 => ?_)
              refine os_callV (cis := [8]) (b := l0) (As := [.int x2, .int x16]) (st := [.int (-1 : Int32), .int x15, .int (1 : Int32), .int x2, .ref l0]) (st' := (fun r => .int r :: [.int (-1 : Int32), .int x15, .int (1 : Int32), .int x2, .ref l0])) sl8_X10_mayMove_X10_mayMove mdX10_mayMove wd1922 wd1924 (sX10_mayMove N l0 x2 x16) rfl rfl (fun _ => rfl) (Nat.le_of_ble_eq_true rfl) (Nat.le_of_ble_eq_true rfl) (Nat.le_of_ble_eq_true rfl) rfl (Nat.le_of_ble_eq_true rfl) rfl (Nat.le_of_ble_eq_true rfl) (hX10_readOrder.at 55 rfl rfl) (fun x17 => ?_)
              refine os_callV (cis := [8]) (b := l0) (As := [.int x2, .int (1 : Int32), .int x15, .int (-1 : Int32), .int x17]) (st := []) (st' := (fun r => .int r :: [])) sl8_X10_orders_X10_orders mdX10_orders wd1918 wd1920 (sX10_orders N l0 x2 (1 : Int32) x15 (-1 : Int32) x17) rfl rfl (fun _ => rfl) (Nat.le_of_ble_eq_true rfl) (Nat.le_of_ble_eq_true rfl) (Nat.le_of_ble_eq_true rfl) rfl (Nat.le_of_ble_eq_true rfl) rfl (Nat.le_of_ble_eq_true rfl) (hX10_readOrder.at 56 rfl rfl) (fun x18 => ?_)
              refine os_if_eq (off := 7) (tgt := 110) rfl (hX10_readOrder.at 57 rfl rfl) ?_ ?_
              · exact osW.sub [] rfl (sX10_readOrder_110 N )
              · refine os_iconst (i := 1) (v := (1 : Int32)) rfl (hX10_readOrder.at 58 rfl rfl) ?_
                refine os_goto (off := 4) (tgt := 111) rfl (hX10_readOrder.at 59 rfl rfl) ?_
                exact osW.sub [] rfl (sX10_readOrder_111 N (1 : Int32))
        · refine os_aload_n (i := 0) (q := 0) (v := l0) 1 rfl rfl (hX10_readOrder.at 29 rfl rfl) ?_
          refine os_iload_n (i := 1) (q := 1) (v := x2) 0 rfl rfl (hX10_readOrder.at 30 rfl rfl) ?_
          refine os_iconst (i := 0) (v := (0 : Int32)) rfl (hX10_readOrder.at 31 rfl rfl) ?_
          refine os_iconst (i := (-1)) (v := (-1 : Int32)) rfl (hX10_readOrder.at 32 rfl rfl) ?_
          refine os_iconst (i := (-1)) (v := (-1 : Int32)) rfl (hX10_readOrder.at 33 rfl rfl) ?_
          refine os_iconst (i := 1) (v := (1 : Int32)) rfl (hX10_readOrder.at 34 rfl rfl) ?_
          refine os_callV (cis := [8]) (b := l0) (As := [.int x2, .int (0 : Int32), .int (-1 : Int32), .int (-1 : Int32), .int (1 : Int32)]) (st := []) (st' := (fun r => .int r :: [])) sl8_X10_orders_X10_orders mdX10_orders wd1918 wd1920 (sX10_orders N l0 x2 (0 : Int32) (-1 : Int32) (-1 : Int32) (1 : Int32)) rfl rfl (fun _ => rfl) (Nat.le_of_ble_eq_true rfl) (Nat.le_of_ble_eq_true rfl) (Nat.le_of_ble_eq_true rfl) rfl (Nat.le_of_ble_eq_true rfl) rfl (Nat.le_of_ble_eq_true rfl) (hX10_readOrder.at 35 rfl rfl) (fun x19 => ?_)
          exact os_zret (Nat.le_of_ble_eq_true rfl) (Nat.le_of_ble_eq_true rfl) (hX10_readOrder.at 36 rfl rfl).1
      · refine os_iconst (i := 0) (v := (0 : Int32)) rfl (hX10_readOrder.at 22 rfl rfl) ?_
        exact os_zret (Nat.le_of_ble_eq_true rfl) (Nat.le_of_ble_eq_true rfl) (hX10_readOrder.at 23 rfl rfl).1
    · refine os_aload_n (i := 0) (q := 0) (v := l0) 1 rfl rfl (hX10_readOrder.at 13 rfl rfl) ?_
      refine os_iconst (i := 2) (v := (2 : Int32)) rfl (hX10_readOrder.at 14 rfl rfl) ?_
      refine os_aload_n (i := 0) (q := 0) (v := l0) 1 rfl rfl (hX10_readOrder.at 15 rfl rfl) ?_
      refine os_getI fX10_164 (hX10_readOrder.at 16 rfl rfl) (fun x20 => ?_)
      refine os_callV (cis := [8]) (b := l0) (As := [.int (2 : Int32), .int x20]) (st := []) (st' := (fun r => .int r :: [])) sl8_X10_fails_X10_fails mdX10_fails wd1806 wd1808 (sX10_fails N l0 (2 : Int32) x20) rfl rfl (fun _ => rfl) (Nat.le_of_ble_eq_true rfl) (Nat.le_of_ble_eq_true rfl) (Nat.le_of_ble_eq_true rfl) rfl (Nat.le_of_ble_eq_true rfl) rfl (Nat.le_of_ble_eq_true rfl) (hX10_readOrder.at 17 rfl rfl) (fun x21 => ?_)
      exact os_zret (Nat.le_of_ble_eq_true rfl) (Nat.le_of_ble_eq_true rfl) (hX10_readOrder.at 18 rfl rfl).1
  · refine os_iconst (i := 0) (v := (0 : Int32)) rfl (hX10_readOrder.at 3 rfl rfl) ?_
    exact os_zret (Nat.le_of_ble_eq_true rfl) (Nat.le_of_ble_eq_true rfl) (hX10_readOrder.at 4 rfl rfl).1
-- X10_readRetreat
def KX10_readRetreat : List (Nat × Nat × Instr) := [(0, 1, .aload_n 0), (1, 3, .invokevirtual 293), (4, 3, .ifCond .ne 5), (7, 1, .iconst 0), (8, 1, .ireturn), (9, 1, .aload_n 0), (10, 3, .getfield 245), (13, 1, .istore_n 1), (14, 1, .aload_n 0), (15, 3, .getfield 16), (18, 2, .bipush 53), (20, 1, .iload_n 1), (21, 1, .iadd), (22, 1, .iaload), (23, 1, .iconst (-1)), (24, 3, .if_icmp .ne 13), (27, 1, .aload_n 0), (28, 1, .iconst 2), (29, 1, .aload_n 0), (30, 3, .getfield 164), (33, 3, .invokevirtual 195), (36, 1, .ireturn), (37, 1, .aload_n 0), (38, 3, .invokevirtual 232), (41, 3, .ifCond .ne 5), (44, 1, .iconst 0), (45, 1, .ireturn), (46, 1, .aload_n 0), (47, 3, .getfield 177), (50, 3, .ldc2_w 226), (53, 1, .lcmp), (54, 3, .ifCond .ne 15), (57, 1, .aload_n 0), (58, 3, .getfield 19), (61, 2, .bipush 101), (63, 1, .iload_n 1), (64, 1, .iadd), (65, 1, .iconst (-1)), (66, 1, .iastore), (67, 1, .iconst 1), (68, 1, .ireturn), (69, 1, .aload_n 0), (70, 3, .getfield 177), (73, 3, .ldc2_w 220), (76, 1, .lcmp), (77, 3, .ifCond .eq 13), (80, 1, .aload_n 0), (81, 1, .iconst 1), (82, 1, .aload_n 0), (83, 3, .getfield 164), (86, 3, .invokevirtual 195), (89, 1, .ireturn), (90, 1, .aload_n 0), (91, 3, .invokevirtual 293), (94, 3, .ifCond .ne 5), (97, 1, .iconst 0), (98, 1, .ireturn), (99, 1, .aload_n 0), (100, 3, .getfield 19), (103, 2, .bipush 101), (105, 1, .iload_n 1), (106, 1, .iadd), (107, 1, .aload_n 0), (108, 3, .getfield 245), (111, 1, .iastore), (112, 1, .aload_n 0), (113, 1, .iload_n 1), (114, 1, .aload_n 0), (115, 3, .getfield 245), (118, 3, .invokevirtual 321), (121, 3, .ifCond .ne 15), (124, 1, .aload_n 0), (125, 1, .iconst 4), (126, 1, .aload_n 0), (127, 3, .getfield 164), (130, 3, .invokevirtual 195), (133, 3, .ifCond .eq 7), (136, 1, .iconst 1), (137, 3, .goto 4), (140, 1, .iconst 0), (141, 1, .ireturn)]
theorem hX10_readRetreat : osDs cX10_readRetreat KX10_readRetreat := by
  show ∀ q ∈ KX10_readRetreat, decode cX10_readRetreat q.1 = .ok (q.2.2, q.2.1)
  decide +kernel
def qX10_readRetreat_141 (N : Nat) (k0 : Int32) : osM Int32 := osretZ k0
def qX10_readRetreat_136 (N : Nat) : osM Int32 := qX10_readRetreat_141 N (1 : Int32)
def qX10_readRetreat (N : Nat) (l0 : Nat) : osM Int32 := osbind (osrecv [8] l0 (qX10_readHere N l0)) fun x1 => osite (x1 = 0) (osretZ (0 : Int32)) (osbind (osgI [8] 19 l0) fun x2 => osbind (osgR [8] 3 l0) fun x3 => osbind (osaI 0 x3 ((53 : Int32) + x2)) fun x4 => osite (x4 = (-1 : Int32)) (osbind (osgI [8] 13 l0) fun x18 => osbind (osrecv [8] l0 (qX10_fails N l0 (2 : Int32) x18)) fun x19 => osretZ x19) (osbind (osrecv [8] l0 (qX10_readWord N l0)) fun x5 => osite (x5 = 0) (osretZ (0 : Int32)) (osbind (osgJ [8] 18 l0) fun x6 => osite ((lg_cmp x6 (4616947140 : Int64)) = 0) (osbind (osgR [8] 4 l0) fun x17 => osbind (ossI 0 x17 ((101 : Int32) + x2) (-1 : Int32)) fun _ => osretZ (1 : Int32)) (osbind (osgJ [8] 18 l0) fun x7 => osite ((lg_cmp x7 (655 : Int64)) = 0) (osbind (osrecv [8] l0 (qX10_readHere N l0)) fun x8 => osite (x8 = 0) (osretZ (0 : Int32)) (osbind (osgR [8] 4 l0) fun x9 => osbind (osgI [8] 19 l0) fun x10 => osbind (ossI 0 x9 ((101 : Int32) + x2) x10) fun _ => osbind (osgI [8] 19 l0) fun x11 => osbind (osrecv [8] l0 (qX10_mayGoBack N l0 x2 x11)) fun x12 => osite (x12 = 0) (osbind (osgI [8] 13 l0) fun x13 => osbind (osrecv [8] l0 (qX10_fails N l0 (4 : Int32) x13)) fun x14 => osite (x14 = 0) (qX10_readRetreat_141 N (0 : Int32)) (qX10_readRetreat_136 N )) (qX10_readRetreat_136 N ))) (osbind (osgI [8] 13 l0) fun x15 => osbind (osrecv [8] l0 (qX10_fails N l0 (1 : Int32) x15)) fun x16 => osretZ x16)))))
set_option maxRecDepth 100000 in
set_option maxHeartbeats 4000000 in
theorem sX10_readRetreat_141 (N : Nat) (k0 : Int32) : osW (osFinM (fun r : Int32 => some (.int r)) 0 0) yX10_readRetreat cX10_readRetreat 2 (some .boolean) [] { frames := 7, cells := 0, slots := 0, locals := 144 } 0 0 141 [] [.int k0] (qX10_readRetreat_141 N k0) := by
  unfold qX10_readRetreat_141
  exact os_zret (Nat.le_of_ble_eq_true rfl) (Nat.le_of_ble_eq_true rfl) (hX10_readRetreat.at 80 rfl rfl).1
set_option maxRecDepth 100000 in
set_option maxHeartbeats 4000000 in
theorem sX10_readRetreat_136 (N : Nat) : osW (osFinM (fun r : Int32 => some (.int r)) 0 0) yX10_readRetreat cX10_readRetreat 2 (some .boolean) [] { frames := 7, cells := 0, slots := 0, locals := 144 } 0 0 136 [] [] (qX10_readRetreat_136 N) := by
  unfold qX10_readRetreat_136
  refine os_iconst (i := 1) (v := (1 : Int32)) rfl (hX10_readRetreat.at 77 rfl rfl) ?_
  refine os_goto (off := 4) (tgt := 141) rfl (hX10_readRetreat.at 78 rfl rfl) ?_
  exact osW.sub [] rfl (sX10_readRetreat_141 N (1 : Int32))
set_option maxRecDepth 100000 in
set_option maxHeartbeats 4000000 in
theorem sX10_readRetreat (N : Nat) (l0 : Nat) : osMet yX10_readRetreat cX10_readRetreat 2 (some .boolean) 7 144 0 0 (fun r : Int32 => some (.int r)) [.ref l0] (qX10_readRetreat N l0) := by
  refine osMet.of plX10 (Nat.le_of_ble_eq_true rfl) (osW.rw (lv2 := [(0, .ref l0)]) ?_ rfl rfl rfl)
  unfold qX10_readRetreat
  refine os_aload_n (i := 0) (q := 0) (v := l0) 0 rfl rfl (hX10_readRetreat.at 0 rfl rfl) ?_
  refine os_callV (cis := [8]) (b := l0) (As := []) (st := []) (st' := (fun r => .int r :: [])) sl8_X10_readHere_X10_readHere mdX10_readHere wd1914 wd1916 (sX10_readHere N l0 ) rfl rfl (fun _ => rfl) (Nat.le_of_ble_eq_true rfl) (Nat.le_of_ble_eq_true rfl) (Nat.le_of_ble_eq_true rfl) rfl (Nat.le_of_ble_eq_true rfl) rfl (Nat.le_of_ble_eq_true rfl) (hX10_readRetreat.at 1 rfl rfl) (fun x1 => ?_)
  refine os_if_ne (off := 5) (tgt := 9) rfl (hX10_readRetreat.at 2 rfl rfl) ?_ ?_
  · refine os_aload_n (i := 0) (q := 0) (v := l0) 0 rfl rfl (hX10_readRetreat.at 5 rfl rfl) ?_
    refine os_getI fX10_245 (hX10_readRetreat.at 6 rfl rfl) (fun x2 => ?_)
    refine os_istore_n (i := 1) (q := 1) rfl (lv' := [(1, .int x2), (0, .ref l0)]) (Nat.le_of_ble_eq_true rfl) rfl (hX10_readRetreat.at 7 rfl rfl) ?_
    refine os_aload_n (i := 0) (q := 0) (v := l0) 1 rfl rfl (hX10_readRetreat.at 8 rfl rfl) ?_
    refine os_getR fX10_16 (hX10_readRetreat.at 9 rfl rfl) (fun x3 => ?_)
    refine os_bipush (i := 53) (v := (53 : Int32)) rfl (hX10_readRetreat.at 10 rfl rfl) ?_
    refine os_iload_n (i := 1) (q := 1) (v := x2) 0 rfl rfl (hX10_readRetreat.at 11 rfl rfl) ?_
    refine os_iadd (hX10_readRetreat.at 12 rfl rfl) ?_
    refine os_iaload (hX10_readRetreat.at 13 rfl rfl) (fun x4 => ?_)
    refine os_iconst (i := (-1)) (v := (-1 : Int32)) rfl (hX10_readRetreat.at 14 rfl rfl) ?_
    refine os_icmp_ne (off := 13) (tgt := 37) rfl (hX10_readRetreat.at 15 rfl rfl) ?_ ?_
    · refine os_aload_n (i := 0) (q := 0) (v := l0) 1 rfl rfl (hX10_readRetreat.at 22 rfl rfl) ?_
      refine os_callV (cis := [8]) (b := l0) (As := []) (st := []) (st' := (fun r => .int r :: [])) sl8_X10_readWord_X10_readWord mdX10_readWord wd1789 wd1791 (sX10_readWord N l0 ) rfl rfl (fun _ => rfl) (Nat.le_of_ble_eq_true rfl) (Nat.le_of_ble_eq_true rfl) (Nat.le_of_ble_eq_true rfl) rfl (Nat.le_of_ble_eq_true rfl) rfl (Nat.le_of_ble_eq_true rfl) (hX10_readRetreat.at 23 rfl rfl) (fun x5 => ?_)
      refine os_if_ne (off := 5) (tgt := 46) rfl (hX10_readRetreat.at 24 rfl rfl) ?_ ?_
      · refine os_aload_n (i := 0) (q := 0) (v := l0) 1 rfl rfl (hX10_readRetreat.at 27 rfl rfl) ?_
        refine os_getJ fX10_177 (hX10_readRetreat.at 28 rfl rfl) (fun x6 => ?_)
        refine os_ldc2 (v := (4616947140 : Int64)) wd1834 (hX10_readRetreat.at 29 rfl rfl) ?_
        refine os_lcmp (hX10_readRetreat.at 30 rfl rfl) ?_
        refine os_if_ne (off := 15) (tgt := 69) rfl (hX10_readRetreat.at 31 rfl rfl) ?_ ?_
        · refine os_aload_n (i := 0) (q := 0) (v := l0) 1 rfl rfl (hX10_readRetreat.at 41 rfl rfl) ?_
          refine os_getJ fX10_177 (hX10_readRetreat.at 42 rfl rfl) (fun x7 => ?_)
          refine os_ldc2 (v := (655 : Int64)) wd1831 (hX10_readRetreat.at 43 rfl rfl) ?_
          refine os_lcmp (hX10_readRetreat.at 44 rfl rfl) ?_
          refine os_if_eq (off := 13) (tgt := 90) rfl (hX10_readRetreat.at 45 rfl rfl) ?_ ?_
          · refine os_aload_n (i := 0) (q := 0) (v := l0) 1 rfl rfl (hX10_readRetreat.at 52 rfl rfl) ?_
            refine os_callV (cis := [8]) (b := l0) (As := []) (st := []) (st' := (fun r => .int r :: [])) sl8_X10_readHere_X10_readHere mdX10_readHere wd1914 wd1916 (sX10_readHere N l0 ) rfl rfl (fun _ => rfl) (Nat.le_of_ble_eq_true rfl) (Nat.le_of_ble_eq_true rfl) (Nat.le_of_ble_eq_true rfl) rfl (Nat.le_of_ble_eq_true rfl) rfl (Nat.le_of_ble_eq_true rfl) (hX10_readRetreat.at 53 rfl rfl) (fun x8 => ?_)
            refine os_if_ne (off := 5) (tgt := 99) rfl (hX10_readRetreat.at 54 rfl rfl) ?_ ?_
            · refine os_aload_n (i := 0) (q := 0) (v := l0) 1 rfl rfl (hX10_readRetreat.at 57 rfl rfl) ?_
              refine os_getR fX10_19 (hX10_readRetreat.at 58 rfl rfl) (fun x9 => ?_)
              refine os_bipush (i := 101) (v := (101 : Int32)) rfl (hX10_readRetreat.at 59 rfl rfl) ?_
              refine os_iload_n (i := 1) (q := 1) (v := x2) 0 rfl rfl (hX10_readRetreat.at 60 rfl rfl) ?_
              refine os_iadd (hX10_readRetreat.at 61 rfl rfl) ?_
              refine os_aload_n (i := 0) (q := 0) (v := l0) 1 rfl rfl (hX10_readRetreat.at 62 rfl rfl) ?_
              refine os_getI fX10_245 (hX10_readRetreat.at 63 rfl rfl) (fun x10 => ?_)
              refine os_iastore (hX10_readRetreat.at 64 rfl rfl) ?_
              refine os_aload_n (i := 0) (q := 0) (v := l0) 1 rfl rfl (hX10_readRetreat.at 65 rfl rfl) ?_
              refine os_iload_n (i := 1) (q := 1) (v := x2) 0 rfl rfl (hX10_readRetreat.at 66 rfl rfl) ?_
              refine os_aload_n (i := 0) (q := 0) (v := l0) 1 rfl rfl (hX10_readRetreat.at 67 rfl rfl) ?_
              refine os_getI fX10_245 (hX10_readRetreat.at 68 rfl rfl) (fun x11 => ?_)
              refine os_callV (cis := [8]) (b := l0) (As := [.int x2, .int x11]) (st := []) (st' := (fun r => .int r :: [])) sl8_X10_mayGoBack_X10_mayGoBack mdX10_mayGoBack wd1970 wd1972 (sX10_mayGoBack N l0 x2 x11) rfl rfl (fun _ => rfl) (Nat.le_of_ble_eq_true rfl) (Nat.le_of_ble_eq_true rfl) (Nat.le_of_ble_eq_true rfl) rfl (Nat.le_of_ble_eq_true rfl) rfl (Nat.le_of_ble_eq_true rfl) (hX10_readRetreat.at 69 rfl rfl) (fun x12 => ?_)
              refine os_if_ne (off := 15) (tgt := 136) rfl (hX10_readRetreat.at 70 rfl rfl) ?_ ?_
              · exact osW.sub [] rfl (sX10_readRetreat_136 N )
              · refine os_aload_n (i := 0) (q := 0) (v := l0) 1 rfl rfl (hX10_readRetreat.at 71 rfl rfl) ?_
                refine os_iconst (i := 4) (v := (4 : Int32)) rfl (hX10_readRetreat.at 72 rfl rfl) ?_
                refine os_aload_n (i := 0) (q := 0) (v := l0) 1 rfl rfl (hX10_readRetreat.at 73 rfl rfl) ?_
                refine os_getI fX10_164 (hX10_readRetreat.at 74 rfl rfl) (fun x13 => ?_)
                refine os_callV (cis := [8]) (b := l0) (As := [.int (4 : Int32), .int x13]) (st := []) (st' := (fun r => .int r :: [])) sl8_X10_fails_X10_fails mdX10_fails wd1806 wd1808 (sX10_fails N l0 (4 : Int32) x13) rfl rfl (fun _ => rfl) (Nat.le_of_ble_eq_true rfl) (Nat.le_of_ble_eq_true rfl) (Nat.le_of_ble_eq_true rfl) rfl (Nat.le_of_ble_eq_true rfl) rfl (Nat.le_of_ble_eq_true rfl) (hX10_readRetreat.at 75 rfl rfl) (fun x14 => ?_)
                refine os_if_eq (off := 7) (tgt := 140) rfl (hX10_readRetreat.at 76 rfl rfl) ?_ ?_
                · refine os_iconst (i := 0) (v := (0 : Int32)) rfl (hX10_readRetreat.at 79 rfl rfl) ?_
                  exact osW.sub [] rfl (sX10_readRetreat_141 N (0 : Int32))
                · exact osW.sub [] rfl (sX10_readRetreat_136 N )
            · refine os_iconst (i := 0) (v := (0 : Int32)) rfl (hX10_readRetreat.at 55 rfl rfl) ?_
              exact os_zret (Nat.le_of_ble_eq_true rfl) (Nat.le_of_ble_eq_true rfl) (hX10_readRetreat.at 56 rfl rfl).1
          · refine os_aload_n (i := 0) (q := 0) (v := l0) 1 rfl rfl (hX10_readRetreat.at 46 rfl rfl) ?_
            refine os_iconst (i := 1) (v := (1 : Int32)) rfl (hX10_readRetreat.at 47 rfl rfl) ?_
            refine os_aload_n (i := 0) (q := 0) (v := l0) 1 rfl rfl (hX10_readRetreat.at 48 rfl rfl) ?_
            refine os_getI fX10_164 (hX10_readRetreat.at 49 rfl rfl) (fun x15 => ?_)
            refine os_callV (cis := [8]) (b := l0) (As := [.int (1 : Int32), .int x15]) (st := []) (st' := (fun r => .int r :: [])) sl8_X10_fails_X10_fails mdX10_fails wd1806 wd1808 (sX10_fails N l0 (1 : Int32) x15) rfl rfl (fun _ => rfl) (Nat.le_of_ble_eq_true rfl) (Nat.le_of_ble_eq_true rfl) (Nat.le_of_ble_eq_true rfl) rfl (Nat.le_of_ble_eq_true rfl) rfl (Nat.le_of_ble_eq_true rfl) (hX10_readRetreat.at 50 rfl rfl) (fun x16 => ?_)
            exact os_zret (Nat.le_of_ble_eq_true rfl) (Nat.le_of_ble_eq_true rfl) (hX10_readRetreat.at 51 rfl rfl).1
        · refine os_aload_n (i := 0) (q := 0) (v := l0) 1 rfl rfl (hX10_readRetreat.at 32 rfl rfl) ?_
          refine os_getR fX10_19 (hX10_readRetreat.at 33 rfl rfl) (fun x17 => ?_)
          refine os_bipush (i := 101) (v := (101 : Int32)) rfl (hX10_readRetreat.at 34 rfl rfl) ?_
          refine os_iload_n (i := 1) (q := 1) (v := x2) 0 rfl rfl (hX10_readRetreat.at 35 rfl rfl) ?_
          refine os_iadd (hX10_readRetreat.at 36 rfl rfl) ?_
          refine os_iconst (i := (-1)) (v := (-1 : Int32)) rfl (hX10_readRetreat.at 37 rfl rfl) ?_
          refine os_iastore (hX10_readRetreat.at 38 rfl rfl) ?_
          refine os_iconst (i := 1) (v := (1 : Int32)) rfl (hX10_readRetreat.at 39 rfl rfl) ?_
          exact os_zret (Nat.le_of_ble_eq_true rfl) (Nat.le_of_ble_eq_true rfl) (hX10_readRetreat.at 40 rfl rfl).1
      · refine os_iconst (i := 0) (v := (0 : Int32)) rfl (hX10_readRetreat.at 25 rfl rfl) ?_
        exact os_zret (Nat.le_of_ble_eq_true rfl) (Nat.le_of_ble_eq_true rfl) (hX10_readRetreat.at 26 rfl rfl).1
    · refine os_aload_n (i := 0) (q := 0) (v := l0) 1 rfl rfl (hX10_readRetreat.at 16 rfl rfl) ?_
      refine os_iconst (i := 2) (v := (2 : Int32)) rfl (hX10_readRetreat.at 17 rfl rfl) ?_
      refine os_aload_n (i := 0) (q := 0) (v := l0) 1 rfl rfl (hX10_readRetreat.at 18 rfl rfl) ?_
      refine os_getI fX10_164 (hX10_readRetreat.at 19 rfl rfl) (fun x18 => ?_)
      refine os_callV (cis := [8]) (b := l0) (As := [.int (2 : Int32), .int x18]) (st := []) (st' := (fun r => .int r :: [])) sl8_X10_fails_X10_fails mdX10_fails wd1806 wd1808 (sX10_fails N l0 (2 : Int32) x18) rfl rfl (fun _ => rfl) (Nat.le_of_ble_eq_true rfl) (Nat.le_of_ble_eq_true rfl) (Nat.le_of_ble_eq_true rfl) rfl (Nat.le_of_ble_eq_true rfl) rfl (Nat.le_of_ble_eq_true rfl) (hX10_readRetreat.at 20 rfl rfl) (fun x19 => ?_)
      exact os_zret (Nat.le_of_ble_eq_true rfl) (Nat.le_of_ble_eq_true rfl) (hX10_readRetreat.at 21 rfl rfl).1
  · refine os_iconst (i := 0) (v := (0 : Int32)) rfl (hX10_readRetreat.at 3 rfl rfl) ?_
    exact os_zret (Nat.le_of_ble_eq_true rfl) (Nat.le_of_ble_eq_true rfl) (hX10_readRetreat.at 4 rfl rfl).1
-- X10_readNewUnit
def KX10_readNewUnit : List (Nat × Nat × Instr) := [(0, 1, .aload_n 0), (1, 3, .invokevirtual 293), (4, 3, .ifCond .ne 5), (7, 1, .iconst 0), (8, 1, .ireturn), (9, 1, .aload_n 0), (10, 3, .getfield 245), (13, 1, .istore_n 1), (14, 1, .aload_n 0), (15, 3, .getfield 7), (18, 2, .bipush 34), (20, 1, .iload_n 1), (21, 1, .iadd), (22, 1, .iaload), (23, 1, .istore_n 2), (24, 1, .aload_n 0), (25, 3, .getfield 19), (28, 1, .iload_n 1), (29, 3, .invokestatic 103), (32, 3, .ifCond .eq 13), (35, 1, .aload_n 0), (36, 1, .iconst 3), (37, 1, .aload_n 0), (38, 3, .getfield 164), (41, 3, .invokevirtual 195), (44, 1, .ireturn), (45, 1, .iload_n 2), (46, 1, .iconst (-1)), (47, 3, .if_icmp .eq 28), (50, 1, .aload_n 0), (51, 1, .aload_n 0), (52, 3, .getfield 19), (55, 1, .iload_n 1), (56, 1, .iload_n 2), (57, 3, .invokevirtual 131), (60, 3, .ifCond .eq 15), (63, 1, .aload_n 0), (64, 1, .aload_n 0), (65, 3, .getfield 19), (68, 1, .iload_n 2), (69, 3, .invokevirtual 324), (72, 3, .ifCond .gt 13), (75, 1, .aload_n 0), (76, 1, .iconst 4), (77, 1, .aload_n 0), (78, 3, .getfield 164), (81, 3, .invokevirtual 195), (84, 1, .ireturn), (85, 1, .aload_n 0), (86, 3, .invokevirtual 232), (89, 3, .ifCond .ne 5), (92, 1, .iconst 0), (93, 1, .ireturn), (94, 1, .aload_n 0), (95, 3, .getfield 177), (98, 3, .ldc2_w 212), (101, 1, .lcmp), (102, 3, .ifCond .eq 24), (105, 1, .aload_n 0), (106, 3, .getfield 177), (109, 3, .ldc2_w 214), (112, 1, .lcmp), (113, 3, .ifCond .eq 13), (116, 1, .aload_n 0), (117, 1, .iconst 1), (118, 1, .aload_n 0), (119, 3, .getfield 164), (122, 3, .invokevirtual 195), (125, 1, .ireturn), (126, 1, .aload_n 0), (127, 3, .getfield 177), (130, 3, .ldc2_w 214), (133, 1, .lcmp), (134, 3, .ifCond .ne 21), (137, 1, .aload_n 0), (138, 1, .iload_n 1), (139, 3, .invokevirtual 121), (142, 3, .ifCond .ne 13), (145, 1, .aload_n 0), (146, 1, .iconst 4), (147, 1, .aload_n 0), (148, 3, .getfield 164), (151, 3, .invokevirtual 195), (154, 1, .ireturn), (155, 1, .aload_n 0), (156, 3, .getfield 19), (159, 2, .bipush 21), (161, 1, .iload_n 1), (162, 1, .iadd), (163, 1, .iload_n 2), (164, 1, .iastore), (165, 1, .aload_n 0), (166, 3, .getfield 19), (169, 2, .bipush 37), (171, 1, .iload_n 1), (172, 1, .iadd), (173, 1, .aload_n 0), (174, 3, .getfield 177), (177, 3, .ldc2_w 214), (180, 1, .lcmp), (181, 3, .ifCond .ne 7), (184, 1, .iconst 1), (185, 3, .goto 4), (188, 1, .iconst 0), (189, 1, .iastore), (190, 1, .iconst 1), (191, 1, .ireturn)]
theorem hX10_readNewUnit : osDs cX10_readNewUnit KX10_readNewUnit := by
  show ∀ q ∈ KX10_readNewUnit, decode cX10_readNewUnit q.1 = .ok (q.2.2, q.2.1)
  decide +kernel
def qX10_readNewUnit_75 (N : Nat) (l0 : Nat) : osM Int32 := osbind (osgI [8] 13 l0) fun x1 => osbind (osrecv [8] l0 (qX10_fails N l0 (4 : Int32) x1)) fun x2 => osretZ x2
def qX10_readNewUnit_189 (N : Nat) (k0 : Int32) (k1 : Int32) (k2 : Nat) : osM Int32 := osbind (ossI 0 k2 k1 k0) fun _ => osretZ (1 : Int32)
def qX10_readNewUnit_155 (N : Nat) (l0 : Nat) (l1 : Int32) (l2 : Int32) : osM Int32 := osbind (osgR [8] 4 l0) fun x1 => osbind (ossI 0 x1 ((21 : Int32) + l1) l2) fun _ => osbind (osgR [8] 4 l0) fun x2 => osbind (osgJ [8] 18 l0) fun x3 => osite ((lg_cmp x3 (6689972 : Int64)) = 0) (qX10_readNewUnit_189 N (1 : Int32) ((37 : Int32) + l1) x2) (qX10_readNewUnit_189 N (0 : Int32) ((37 : Int32) + l1) x2)
def qX10_readNewUnit_126 (N : Nat) (l0 : Nat) (l1 : Int32) (l2 : Int32) : osM Int32 := osbind (osgJ [8] 18 l0) fun x1 => osite ((lg_cmp x1 (6689972 : Int64)) = 0) (osbind (osrecv [8] l0 (qX10_isCoast N l0 l1)) fun x2 => osite (x2 = 0) (osbind (osgI [8] 13 l0) fun x3 => osbind (osrecv [8] l0 (qX10_fails N l0 (4 : Int32) x3)) fun x4 => osretZ x4) (qX10_readNewUnit_155 N l0 l1 l2)) (qX10_readNewUnit_155 N l0 l1 l2)
def qX10_readNewUnit (N : Nat) (l0 : Nat) : osM Int32 := osbind (osrecv [8] l0 (qX10_readHere N l0)) fun x1 => osite (x1 = 0) (osretZ (0 : Int32)) (osbind (osgI [8] 19 l0) fun x2 => osbind (osgR [8] 1 l0) fun x3 => osbind (osaI 0 x3 ((34 : Int32) + x2)) fun x4 => osbind (osgR [8] 4 l0) fun x5 => osbind (qX10_isUnit N x5 x2) fun x6 => osite (x6 = 0) (osite (x4 = (-1 : Int32)) (qX10_readNewUnit_75 N l0) (osbind (osgR [8] 4 l0) fun x7 => osbind (osrecv [8] l0 (qX10_isFreeHome N l0 x7 x2 x4)) fun x8 => osite (x8 = 0) (qX10_readNewUnit_75 N l0) (osbind (osgR [8] 4 l0) fun x9 => osbind (osrecv [8] l0 (qX10_buildsOf N l0 x9 x4)) fun x10 => osite (0 < x10) (osbind (osrecv [8] l0 (qX10_readWord N l0)) fun x11 => osite (x11 = 0) (osretZ (0 : Int32)) (osbind (osgJ [8] 18 l0) fun x12 => osite ((lg_cmp x12 (51641 : Int64)) = 0) (qX10_readNewUnit_126 N l0 x2 x4) (osbind (osgJ [8] 18 l0) fun x13 => osite ((lg_cmp x13 (6689972 : Int64)) = 0) (qX10_readNewUnit_126 N l0 x2 x4) (osbind (osgI [8] 13 l0) fun x14 => osbind (osrecv [8] l0 (qX10_fails N l0 (1 : Int32) x14)) fun x15 => osretZ x15)))) (qX10_readNewUnit_75 N l0)))) (osbind (osgI [8] 13 l0) fun x16 => osbind (osrecv [8] l0 (qX10_fails N l0 (3 : Int32) x16)) fun x17 => osretZ x17))
set_option maxRecDepth 100000 in
set_option maxHeartbeats 4000000 in
theorem sX10_readNewUnit_75 (N : Nat) (l0 : Nat) : osW (osFinM (fun r : Int32 => some (.int r)) 0 0) yX10_readNewUnit cX10_readNewUnit 3 (some .boolean) [] { frames := 7, cells := 0, slots := 0, locals := 144 } 0 0 75 [(0, .ref l0)] [] (qX10_readNewUnit_75 N l0) := by
  unfold qX10_readNewUnit_75
  refine os_aload_n (i := 0) (q := 0) (v := l0) 0 rfl rfl (hX10_readNewUnit.at 42 rfl rfl) ?_
  refine os_iconst (i := 4) (v := (4 : Int32)) rfl (hX10_readNewUnit.at 43 rfl rfl) ?_
  refine os_aload_n (i := 0) (q := 0) (v := l0) 0 rfl rfl (hX10_readNewUnit.at 44 rfl rfl) ?_
  refine os_getI fX10_164 (hX10_readNewUnit.at 45 rfl rfl) (fun x1 => ?_)
  refine os_callV (cis := [8]) (b := l0) (As := [.int (4 : Int32), .int x1]) (st := []) (st' := (fun r => .int r :: [])) sl8_X10_fails_X10_fails mdX10_fails wd1806 wd1808 (sX10_fails N l0 (4 : Int32) x1) rfl rfl (fun _ => rfl) (Nat.le_of_ble_eq_true rfl) (Nat.le_of_ble_eq_true rfl) (Nat.le_of_ble_eq_true rfl) rfl (Nat.le_of_ble_eq_true rfl) rfl (Nat.le_of_ble_eq_true rfl) (hX10_readNewUnit.at 46 rfl rfl) (fun x2 => ?_)
  exact os_zret (Nat.le_of_ble_eq_true rfl) (Nat.le_of_ble_eq_true rfl) (hX10_readNewUnit.at 47 rfl rfl).1
set_option maxRecDepth 100000 in
set_option maxHeartbeats 4000000 in
theorem sX10_readNewUnit_189 (N : Nat) (k0 : Int32) (k1 : Int32) (k2 : Nat) : osW (osFinM (fun r : Int32 => some (.int r)) 0 0) yX10_readNewUnit cX10_readNewUnit 3 (some .boolean) [] { frames := 7, cells := 0, slots := 0, locals := 144 } 0 0 189 [] [.int k0, .int k1, .ref k2] (qX10_readNewUnit_189 N k0 k1 k2) := by
  unfold qX10_readNewUnit_189
  refine os_iastore (hX10_readNewUnit.at 104 rfl rfl) ?_
  refine os_iconst (i := 1) (v := (1 : Int32)) rfl (hX10_readNewUnit.at 105 rfl rfl) ?_
  exact os_zret (Nat.le_of_ble_eq_true rfl) (Nat.le_of_ble_eq_true rfl) (hX10_readNewUnit.at 106 rfl rfl).1
set_option maxRecDepth 100000 in
set_option maxHeartbeats 4000000 in
theorem sX10_readNewUnit_155 (N : Nat) (l0 : Nat) (l1 : Int32) (l2 : Int32) : osW (osFinM (fun r : Int32 => some (.int r)) 0 0) yX10_readNewUnit cX10_readNewUnit 3 (some .boolean) [] { frames := 7, cells := 0, slots := 0, locals := 144 } 0 0 155 [(0, .ref l0), (1, .int l1), (2, .int l2)] [] (qX10_readNewUnit_155 N l0 l1 l2) := by
  unfold qX10_readNewUnit_155
  refine os_aload_n (i := 0) (q := 0) (v := l0) 0 rfl rfl (hX10_readNewUnit.at 84 rfl rfl) ?_
  refine os_getR fX10_19 (hX10_readNewUnit.at 85 rfl rfl) (fun x1 => ?_)
  refine os_bipush (i := 21) (v := (21 : Int32)) rfl (hX10_readNewUnit.at 86 rfl rfl) ?_
  refine os_iload_n (i := 1) (q := 1) (v := l1) 1 rfl rfl (hX10_readNewUnit.at 87 rfl rfl) ?_
  refine os_iadd (hX10_readNewUnit.at 88 rfl rfl) ?_
  refine os_iload_n (i := 2) (q := 2) (v := l2) 2 rfl rfl (hX10_readNewUnit.at 89 rfl rfl) ?_
  refine os_iastore (hX10_readNewUnit.at 90 rfl rfl) ?_
  refine os_aload_n (i := 0) (q := 0) (v := l0) 0 rfl rfl (hX10_readNewUnit.at 91 rfl rfl) ?_
  refine os_getR fX10_19 (hX10_readNewUnit.at 92 rfl rfl) (fun x2 => ?_)
  refine os_bipush (i := 37) (v := (37 : Int32)) rfl (hX10_readNewUnit.at 93 rfl rfl) ?_
  refine os_iload_n (i := 1) (q := 1) (v := l1) 1 rfl rfl (hX10_readNewUnit.at 94 rfl rfl) ?_
  refine os_iadd (hX10_readNewUnit.at 95 rfl rfl) ?_
  refine os_aload_n (i := 0) (q := 0) (v := l0) 0 rfl rfl (hX10_readNewUnit.at 96 rfl rfl) ?_
  refine os_getJ fX10_177 (hX10_readNewUnit.at 97 rfl rfl) (fun x3 => ?_)
  refine os_ldc2 (v := (6689972 : Int64)) wd1828 (hX10_readNewUnit.at 98 rfl rfl) ?_
  refine os_lcmp (hX10_readNewUnit.at 99 rfl rfl) ?_
  refine os_if_ne (off := 7) (tgt := 188) rfl (hX10_readNewUnit.at 100 rfl rfl) ?_ ?_
  · refine os_iconst (i := 0) (v := (0 : Int32)) rfl (hX10_readNewUnit.at 103 rfl rfl) ?_
    exact osW.sub [] rfl (sX10_readNewUnit_189 N (0 : Int32) ((37 : Int32) + l1) x2)
  · refine os_iconst (i := 1) (v := (1 : Int32)) rfl (hX10_readNewUnit.at 101 rfl rfl) ?_
    refine os_goto (off := 4) (tgt := 189) rfl (hX10_readNewUnit.at 102 rfl rfl) ?_
    exact osW.sub [] rfl (sX10_readNewUnit_189 N (1 : Int32) ((37 : Int32) + l1) x2)
set_option maxRecDepth 100000 in
set_option maxHeartbeats 4000000 in
theorem sX10_readNewUnit_126 (N : Nat) (l0 : Nat) (l1 : Int32) (l2 : Int32) : osW (osFinM (fun r : Int32 => some (.int r)) 0 0) yX10_readNewUnit cX10_readNewUnit 3 (some .boolean) [] { frames := 7, cells := 0, slots := 0, locals := 144 } 0 0 126 [(0, .ref l0), (1, .int l1), (2, .int l2)] [] (qX10_readNewUnit_126 N l0 l1 l2) := by
  unfold qX10_readNewUnit_126
  refine os_aload_n (i := 0) (q := 0) (v := l0) 0 rfl rfl (hX10_readNewUnit.at 69 rfl rfl) ?_
  refine os_getJ fX10_177 (hX10_readNewUnit.at 70 rfl rfl) (fun x1 => ?_)
  refine os_ldc2 (v := (6689972 : Int64)) wd1828 (hX10_readNewUnit.at 71 rfl rfl) ?_
  refine os_lcmp (hX10_readNewUnit.at 72 rfl rfl) ?_
  refine os_if_ne (off := 21) (tgt := 155) rfl (hX10_readNewUnit.at 73 rfl rfl) ?_ ?_
  · exact osW.sub [0, 1, 2] rfl (sX10_readNewUnit_155 N l0 l1 l2)
  · refine os_aload_n (i := 0) (q := 0) (v := l0) 0 rfl rfl (hX10_readNewUnit.at 74 rfl rfl) ?_
    refine os_iload_n (i := 1) (q := 1) (v := l1) 1 rfl rfl (hX10_readNewUnit.at 75 rfl rfl) ?_
    refine os_callV (cis := [8]) (b := l0) (As := [.int l1]) (st := []) (st' := (fun r => .int r :: [])) sl8_X10_isCoast_X10_isCoast mdX10_isCoast wd1938 wd1940 (sX10_isCoast N l0 l1) rfl rfl (fun _ => rfl) (Nat.le_of_ble_eq_true rfl) (Nat.le_of_ble_eq_true rfl) (Nat.le_of_ble_eq_true rfl) rfl (Nat.le_of_ble_eq_true rfl) rfl (Nat.le_of_ble_eq_true rfl) (hX10_readNewUnit.at 76 rfl rfl) (fun x2 => ?_)
    refine os_if_ne (off := 13) (tgt := 155) rfl (hX10_readNewUnit.at 77 rfl rfl) ?_ ?_
    · exact osW.sub [0, 1, 2] rfl (sX10_readNewUnit_155 N l0 l1 l2)
    · refine os_aload_n (i := 0) (q := 0) (v := l0) 0 rfl rfl (hX10_readNewUnit.at 78 rfl rfl) ?_
      refine os_iconst (i := 4) (v := (4 : Int32)) rfl (hX10_readNewUnit.at 79 rfl rfl) ?_
      refine os_aload_n (i := 0) (q := 0) (v := l0) 0 rfl rfl (hX10_readNewUnit.at 80 rfl rfl) ?_
      refine os_getI fX10_164 (hX10_readNewUnit.at 81 rfl rfl) (fun x3 => ?_)
      refine os_callV (cis := [8]) (b := l0) (As := [.int (4 : Int32), .int x3]) (st := []) (st' := (fun r => .int r :: [])) sl8_X10_fails_X10_fails mdX10_fails wd1806 wd1808 (sX10_fails N l0 (4 : Int32) x3) rfl rfl (fun _ => rfl) (Nat.le_of_ble_eq_true rfl) (Nat.le_of_ble_eq_true rfl) (Nat.le_of_ble_eq_true rfl) rfl (Nat.le_of_ble_eq_true rfl) rfl (Nat.le_of_ble_eq_true rfl) (hX10_readNewUnit.at 82 rfl rfl) (fun x4 => ?_)
      exact os_zret (Nat.le_of_ble_eq_true rfl) (Nat.le_of_ble_eq_true rfl) (hX10_readNewUnit.at 83 rfl rfl).1
set_option maxRecDepth 100000 in
set_option maxHeartbeats 4000000 in
theorem sX10_readNewUnit (N : Nat) (l0 : Nat) : osMet yX10_readNewUnit cX10_readNewUnit 3 (some .boolean) 7 144 0 0 (fun r : Int32 => some (.int r)) [.ref l0] (qX10_readNewUnit N l0) := by
  refine osMet.of plX10 (Nat.le_of_ble_eq_true rfl) (osW.rw (lv2 := [(0, .ref l0)]) ?_ rfl rfl rfl)
  unfold qX10_readNewUnit
  refine os_aload_n (i := 0) (q := 0) (v := l0) 0 rfl rfl (hX10_readNewUnit.at 0 rfl rfl) ?_
  refine os_callV (cis := [8]) (b := l0) (As := []) (st := []) (st' := (fun r => .int r :: [])) sl8_X10_readHere_X10_readHere mdX10_readHere wd1914 wd1916 (sX10_readHere N l0 ) rfl rfl (fun _ => rfl) (Nat.le_of_ble_eq_true rfl) (Nat.le_of_ble_eq_true rfl) (Nat.le_of_ble_eq_true rfl) rfl (Nat.le_of_ble_eq_true rfl) rfl (Nat.le_of_ble_eq_true rfl) (hX10_readNewUnit.at 1 rfl rfl) (fun x1 => ?_)
  refine os_if_ne (off := 5) (tgt := 9) rfl (hX10_readNewUnit.at 2 rfl rfl) ?_ ?_
  · refine os_aload_n (i := 0) (q := 0) (v := l0) 0 rfl rfl (hX10_readNewUnit.at 5 rfl rfl) ?_
    refine os_getI fX10_245 (hX10_readNewUnit.at 6 rfl rfl) (fun x2 => ?_)
    refine os_istore_n (i := 1) (q := 1) rfl (lv' := [(1, .int x2), (0, .ref l0)]) (Nat.le_of_ble_eq_true rfl) rfl (hX10_readNewUnit.at 7 rfl rfl) ?_
    refine os_aload_n (i := 0) (q := 0) (v := l0) 1 rfl rfl (hX10_readNewUnit.at 8 rfl rfl) ?_
    refine os_getR fX10_7 (hX10_readNewUnit.at 9 rfl rfl) (fun x3 => ?_)
    refine os_bipush (i := 34) (v := (34 : Int32)) rfl (hX10_readNewUnit.at 10 rfl rfl) ?_
    refine os_iload_n (i := 1) (q := 1) (v := x2) 0 rfl rfl (hX10_readNewUnit.at 11 rfl rfl) ?_
    refine os_iadd (hX10_readNewUnit.at 12 rfl rfl) ?_
    refine os_iaload (hX10_readNewUnit.at 13 rfl rfl) (fun x4 => ?_)
    refine os_istore_n (i := 2) (q := 2) rfl (lv' := [(2, .int x4), (1, .int x2), (0, .ref l0)]) (Nat.le_of_ble_eq_true rfl) rfl (hX10_readNewUnit.at 14 rfl rfl) ?_
    refine os_aload_n (i := 0) (q := 0) (v := l0) 2 rfl rfl (hX10_readNewUnit.at 15 rfl rfl) ?_
    refine os_getR fX10_19 (hX10_readNewUnit.at 16 rfl rfl) (fun x5 => ?_)
    refine os_iload_n (i := 1) (q := 1) (v := x2) 1 rfl rfl (hX10_readNewUnit.at 17 rfl rfl) ?_
    refine os_callS (As := [.ref x5, .int x2]) (st := []) (st' := (fun r => .int r :: [])) mdX10_isUnit wd1879 wd1880 (sX10_isUnit N x5 x2) rfl rfl (fun _ => rfl) (Nat.le_of_ble_eq_true rfl) (Nat.le_of_ble_eq_true rfl) (Nat.le_of_ble_eq_true rfl) rfl (Nat.le_of_ble_eq_true rfl) rfl (Nat.le_of_ble_eq_true rfl) (hX10_readNewUnit.at 18 rfl rfl) (fun x6 => ?_)
    refine os_if_eq (off := 13) (tgt := 45) rfl (hX10_readNewUnit.at 19 rfl rfl) ?_ ?_
    · refine os_iload_n (i := 2) (q := 2) (v := x4) 0 rfl rfl (hX10_readNewUnit.at 26 rfl rfl) ?_
      refine os_iconst (i := (-1)) (v := (-1 : Int32)) rfl (hX10_readNewUnit.at 27 rfl rfl) ?_
      refine os_icmp_eq (off := 28) (tgt := 75) rfl (hX10_readNewUnit.at 28 rfl rfl) ?_ ?_
      · exact osW.sub [2] rfl (sX10_readNewUnit_75 N l0)
      · refine os_aload_n (i := 0) (q := 0) (v := l0) 2 rfl rfl (hX10_readNewUnit.at 29 rfl rfl) ?_
        refine os_aload_n (i := 0) (q := 0) (v := l0) 2 rfl rfl (hX10_readNewUnit.at 30 rfl rfl) ?_
        refine os_getR fX10_19 (hX10_readNewUnit.at 31 rfl rfl) (fun x7 => ?_)
        refine os_iload_n (i := 1) (q := 1) (v := x2) 1 rfl rfl (hX10_readNewUnit.at 32 rfl rfl) ?_
        refine os_iload_n (i := 2) (q := 2) (v := x4) 0 rfl rfl (hX10_readNewUnit.at 33 rfl rfl) ?_
        refine os_callV (cis := [8]) (b := l0) (As := [.ref x7, .int x2, .int x4]) (st := []) (st' := (fun r => .int r :: [])) sl8_X10_isFreeHome_X10_isFreeHome mdX10_isFreeHome wd1982 wd1984 (sX10_isFreeHome N l0 x7 x2 x4) rfl rfl (fun _ => rfl) (Nat.le_of_ble_eq_true rfl) (Nat.le_of_ble_eq_true rfl) (Nat.le_of_ble_eq_true rfl) rfl (Nat.le_of_ble_eq_true rfl) rfl (Nat.le_of_ble_eq_true rfl) (hX10_readNewUnit.at 34 rfl rfl) (fun x8 => ?_)
        refine os_if_eq (off := 15) (tgt := 75) rfl (hX10_readNewUnit.at 35 rfl rfl) ?_ ?_
        · exact osW.sub [2] rfl (sX10_readNewUnit_75 N l0)
        · refine os_aload_n (i := 0) (q := 0) (v := l0) 2 rfl rfl (hX10_readNewUnit.at 36 rfl rfl) ?_
          refine os_aload_n (i := 0) (q := 0) (v := l0) 2 rfl rfl (hX10_readNewUnit.at 37 rfl rfl) ?_
          refine os_getR fX10_19 (hX10_readNewUnit.at 38 rfl rfl) (fun x9 => ?_)
          refine os_iload_n (i := 2) (q := 2) (v := x4) 0 rfl rfl (hX10_readNewUnit.at 39 rfl rfl) ?_
          refine os_callV (cis := [8]) (b := l0) (As := [.ref x9, .int x4]) (st := []) (st' := (fun r => .int r :: [])) sl8_X10_buildsOf_X10_buildsOf mdX10_buildsOf wd1986 wd1988 (sX10_buildsOf N l0 x9 x4) rfl rfl (fun _ => rfl) (Nat.le_of_ble_eq_true rfl) (Nat.le_of_ble_eq_true rfl) (Nat.le_of_ble_eq_true rfl) rfl (Nat.le_of_ble_eq_true rfl) rfl (Nat.le_of_ble_eq_true rfl) (hX10_readNewUnit.at 40 rfl rfl) (fun x10 => ?_)
          refine os_if_gt (off := 13) (tgt := 85) rfl (hX10_readNewUnit.at 41 rfl rfl) ?_ ?_
          · refine os_aload_n (i := 0) (q := 0) (v := l0) 2 rfl rfl (hX10_readNewUnit.at 48 rfl rfl) ?_
            refine os_callV (cis := [8]) (b := l0) (As := []) (st := []) (st' := (fun r => .int r :: [])) sl8_X10_readWord_X10_readWord mdX10_readWord wd1789 wd1791 (sX10_readWord N l0 ) rfl rfl (fun _ => rfl) (Nat.le_of_ble_eq_true rfl) (Nat.le_of_ble_eq_true rfl) (Nat.le_of_ble_eq_true rfl) rfl (Nat.le_of_ble_eq_true rfl) rfl (Nat.le_of_ble_eq_true rfl) (hX10_readNewUnit.at 49 rfl rfl) (fun x11 => ?_)
            refine os_if_ne (off := 5) (tgt := 94) rfl (hX10_readNewUnit.at 50 rfl rfl) ?_ ?_
            · refine os_aload_n (i := 0) (q := 0) (v := l0) 2 rfl rfl (hX10_readNewUnit.at 53 rfl rfl) ?_
              refine os_getJ fX10_177 (hX10_readNewUnit.at 54 rfl rfl) (fun x12 => ?_)
              refine os_ldc2 (v := (51641 : Int64)) wd1827 (hX10_readNewUnit.at 55 rfl rfl) ?_
              refine os_lcmp (hX10_readNewUnit.at 56 rfl rfl) ?_
              refine os_if_eq (off := 24) (tgt := 126) rfl (hX10_readNewUnit.at 57 rfl rfl) ?_ ?_
              · exact osW.sub [2, 1, 0] rfl (sX10_readNewUnit_126 N l0 x2 x4)
              · refine os_aload_n (i := 0) (q := 0) (v := l0) 2 rfl rfl (hX10_readNewUnit.at 58 rfl rfl) ?_
                refine os_getJ fX10_177 (hX10_readNewUnit.at 59 rfl rfl) (fun x13 => ?_)
                refine os_ldc2 (v := (6689972 : Int64)) wd1828 (hX10_readNewUnit.at 60 rfl rfl) ?_
                refine os_lcmp (hX10_readNewUnit.at 61 rfl rfl) ?_
                refine os_if_eq (off := 13) (tgt := 126) rfl (hX10_readNewUnit.at 62 rfl rfl) ?_ ?_
                · exact osW.sub [2, 1, 0] rfl (sX10_readNewUnit_126 N l0 x2 x4)
                · refine os_aload_n (i := 0) (q := 0) (v := l0) 2 rfl rfl (hX10_readNewUnit.at 63 rfl rfl) ?_
                  refine os_iconst (i := 1) (v := (1 : Int32)) rfl (hX10_readNewUnit.at 64 rfl rfl) ?_
                  refine os_aload_n (i := 0) (q := 0) (v := l0) 2 rfl rfl (hX10_readNewUnit.at 65 rfl rfl) ?_
                  refine os_getI fX10_164 (hX10_readNewUnit.at 66 rfl rfl) (fun x14 => ?_)
                  refine os_callV (cis := [8]) (b := l0) (As := [.int (1 : Int32), .int x14]) (st := []) (st' := (fun r => .int r :: [])) sl8_X10_fails_X10_fails mdX10_fails wd1806 wd1808 (sX10_fails N l0 (1 : Int32) x14) rfl rfl (fun _ => rfl) (Nat.le_of_ble_eq_true rfl) (Nat.le_of_ble_eq_true rfl) (Nat.le_of_ble_eq_true rfl) rfl (Nat.le_of_ble_eq_true rfl) rfl (Nat.le_of_ble_eq_true rfl) (hX10_readNewUnit.at 67 rfl rfl) (fun x15 => ?_)
                  exact os_zret (Nat.le_of_ble_eq_true rfl) (Nat.le_of_ble_eq_true rfl) (hX10_readNewUnit.at 68 rfl rfl).1
            · refine os_iconst (i := 0) (v := (0 : Int32)) rfl (hX10_readNewUnit.at 51 rfl rfl) ?_
              exact os_zret (Nat.le_of_ble_eq_true rfl) (Nat.le_of_ble_eq_true rfl) (hX10_readNewUnit.at 52 rfl rfl).1
          · exact osW.sub [2] rfl (sX10_readNewUnit_75 N l0)
    · refine os_aload_n (i := 0) (q := 0) (v := l0) 2 rfl rfl (hX10_readNewUnit.at 20 rfl rfl) ?_
      refine os_iconst (i := 3) (v := (3 : Int32)) rfl (hX10_readNewUnit.at 21 rfl rfl) ?_
      refine os_aload_n (i := 0) (q := 0) (v := l0) 2 rfl rfl (hX10_readNewUnit.at 22 rfl rfl) ?_
      refine os_getI fX10_164 (hX10_readNewUnit.at 23 rfl rfl) (fun x16 => ?_)
      refine os_callV (cis := [8]) (b := l0) (As := [.int (3 : Int32), .int x16]) (st := []) (st' := (fun r => .int r :: [])) sl8_X10_fails_X10_fails mdX10_fails wd1806 wd1808 (sX10_fails N l0 (3 : Int32) x16) rfl rfl (fun _ => rfl) (Nat.le_of_ble_eq_true rfl) (Nat.le_of_ble_eq_true rfl) (Nat.le_of_ble_eq_true rfl) rfl (Nat.le_of_ble_eq_true rfl) rfl (Nat.le_of_ble_eq_true rfl) (hX10_readNewUnit.at 24 rfl rfl) (fun x17 => ?_)
      exact os_zret (Nat.le_of_ble_eq_true rfl) (Nat.le_of_ble_eq_true rfl) (hX10_readNewUnit.at 25 rfl rfl).1
  · refine os_iconst (i := 0) (v := (0 : Int32)) rfl (hX10_readNewUnit.at 3 rfl rfl) ?_
    exact os_zret (Nat.le_of_ble_eq_true rfl) (Nat.le_of_ble_eq_true rfl) (hX10_readNewUnit.at 4 rfl rfl).1
-- X10_readGone
def KX10_readGone : List (Nat × Nat × Instr) := [(0, 1, .aload_n 0), (1, 3, .invokevirtual 293), (4, 3, .ifCond .ne 5), (7, 1, .iconst 0), (8, 1, .ireturn), (9, 1, .aload_n 0), (10, 3, .getfield 19), (13, 1, .aload_n 0), (14, 3, .getfield 245), (17, 3, .invokestatic 103), (20, 3, .ifCond .ne 13), (23, 1, .aload_n 0), (24, 1, .iconst 2), (25, 1, .aload_n 0), (26, 3, .getfield 164), (29, 3, .invokevirtual 195), (32, 1, .ireturn), (33, 1, .aload_n 0), (34, 1, .aload_n 0), (35, 3, .getfield 19), (38, 1, .aload_n 0), (39, 3, .getfield 19), (42, 2, .bipush 21), (44, 1, .aload_n 0), (45, 3, .getfield 245), (48, 1, .iadd), (49, 1, .iaload), (50, 3, .invokevirtual 324), (53, 3, .ifCond .lt 13), (56, 1, .aload_n 0), (57, 1, .iconst 4), (58, 1, .aload_n 0), (59, 3, .getfield 164), (62, 3, .invokevirtual 195), (65, 1, .ireturn), (66, 1, .aload_n 0), (67, 3, .getfield 19), (70, 2, .bipush 21), (72, 1, .aload_n 0), (73, 3, .getfield 245), (76, 1, .iadd), (77, 1, .iconst (-1)), (78, 1, .iastore), (79, 1, .iconst 1), (80, 1, .ireturn)]
theorem hX10_readGone : osDs cX10_readGone KX10_readGone := by
  show ∀ q ∈ KX10_readGone, decode cX10_readGone q.1 = .ok (q.2.2, q.2.1)
  decide +kernel
def qX10_readGone (N : Nat) (l0 : Nat) : osM Int32 := osbind (osrecv [8] l0 (qX10_readHere N l0)) fun x1 => osite (x1 = 0) (osretZ (0 : Int32)) (osbind (osgR [8] 4 l0) fun x2 => osbind (osgI [8] 19 l0) fun x3 => osbind (qX10_isUnit N x2 x3) fun x4 => osite (x4 = 0) (osbind (osgI [8] 13 l0) fun x14 => osbind (osrecv [8] l0 (qX10_fails N l0 (2 : Int32) x14)) fun x15 => osretZ x15) (osbind (osgR [8] 4 l0) fun x5 => osbind (osgR [8] 4 l0) fun x6 => osbind (osgI [8] 19 l0) fun x7 => osbind (osaI 0 x6 ((21 : Int32) + x7)) fun x8 => osbind (osrecv [8] l0 (qX10_buildsOf N l0 x5 x8)) fun x9 => osite (x9 < 0) (osbind (osgR [8] 4 l0) fun x10 => osbind (osgI [8] 19 l0) fun x11 => osbind (ossI 0 x10 ((21 : Int32) + x11) (-1 : Int32)) fun _ => osretZ (1 : Int32)) (osbind (osgI [8] 13 l0) fun x12 => osbind (osrecv [8] l0 (qX10_fails N l0 (4 : Int32) x12)) fun x13 => osretZ x13)))
set_option maxRecDepth 100000 in
set_option maxHeartbeats 4000000 in
theorem sX10_readGone (N : Nat) (l0 : Nat) : osMet yX10_readGone cX10_readGone 1 (some .boolean) 7 144 0 0 (fun r : Int32 => some (.int r)) [.ref l0] (qX10_readGone N l0) := by
  refine osMet.of plX10 (Nat.le_of_ble_eq_true rfl) (osW.rw (lv2 := [(0, .ref l0)]) ?_ rfl rfl rfl)
  unfold qX10_readGone
  refine os_aload_n (i := 0) (q := 0) (v := l0) 0 rfl rfl (hX10_readGone.at 0 rfl rfl) ?_
  refine os_callV (cis := [8]) (b := l0) (As := []) (st := []) (st' := (fun r => .int r :: [])) sl8_X10_readHere_X10_readHere mdX10_readHere wd1914 wd1916 (sX10_readHere N l0 ) rfl rfl (fun _ => rfl) (Nat.le_of_ble_eq_true rfl) (Nat.le_of_ble_eq_true rfl) (Nat.le_of_ble_eq_true rfl) rfl (Nat.le_of_ble_eq_true rfl) rfl (Nat.le_of_ble_eq_true rfl) (hX10_readGone.at 1 rfl rfl) (fun x1 => ?_)
  refine os_if_ne (off := 5) (tgt := 9) rfl (hX10_readGone.at 2 rfl rfl) ?_ ?_
  · refine os_aload_n (i := 0) (q := 0) (v := l0) 0 rfl rfl (hX10_readGone.at 5 rfl rfl) ?_
    refine os_getR fX10_19 (hX10_readGone.at 6 rfl rfl) (fun x2 => ?_)
    refine os_aload_n (i := 0) (q := 0) (v := l0) 0 rfl rfl (hX10_readGone.at 7 rfl rfl) ?_
    refine os_getI fX10_245 (hX10_readGone.at 8 rfl rfl) (fun x3 => ?_)
    refine os_callS (As := [.ref x2, .int x3]) (st := []) (st' := (fun r => .int r :: [])) mdX10_isUnit wd1879 wd1880 (sX10_isUnit N x2 x3) rfl rfl (fun _ => rfl) (Nat.le_of_ble_eq_true rfl) (Nat.le_of_ble_eq_true rfl) (Nat.le_of_ble_eq_true rfl) rfl (Nat.le_of_ble_eq_true rfl) rfl (Nat.le_of_ble_eq_true rfl) (hX10_readGone.at 9 rfl rfl) (fun x4 => ?_)
    refine os_if_ne (off := 13) (tgt := 33) rfl (hX10_readGone.at 10 rfl rfl) ?_ ?_
    · refine os_aload_n (i := 0) (q := 0) (v := l0) 0 rfl rfl (hX10_readGone.at 17 rfl rfl) ?_
      refine os_aload_n (i := 0) (q := 0) (v := l0) 0 rfl rfl (hX10_readGone.at 18 rfl rfl) ?_
      refine os_getR fX10_19 (hX10_readGone.at 19 rfl rfl) (fun x5 => ?_)
      refine os_aload_n (i := 0) (q := 0) (v := l0) 0 rfl rfl (hX10_readGone.at 20 rfl rfl) ?_
      refine os_getR fX10_19 (hX10_readGone.at 21 rfl rfl) (fun x6 => ?_)
      refine os_bipush (i := 21) (v := (21 : Int32)) rfl (hX10_readGone.at 22 rfl rfl) ?_
      refine os_aload_n (i := 0) (q := 0) (v := l0) 0 rfl rfl (hX10_readGone.at 23 rfl rfl) ?_
      refine os_getI fX10_245 (hX10_readGone.at 24 rfl rfl) (fun x7 => ?_)
      refine os_iadd (hX10_readGone.at 25 rfl rfl) ?_
      refine os_iaload (hX10_readGone.at 26 rfl rfl) (fun x8 => ?_)
      refine os_callV (cis := [8]) (b := l0) (As := [.ref x5, .int x8]) (st := []) (st' := (fun r => .int r :: [])) sl8_X10_buildsOf_X10_buildsOf mdX10_buildsOf wd1986 wd1988 (sX10_buildsOf N l0 x5 x8) rfl rfl (fun _ => rfl) (Nat.le_of_ble_eq_true rfl) (Nat.le_of_ble_eq_true rfl) (Nat.le_of_ble_eq_true rfl) rfl (Nat.le_of_ble_eq_true rfl) rfl (Nat.le_of_ble_eq_true rfl) (hX10_readGone.at 27 rfl rfl) (fun x9 => ?_)
      refine os_if_lt (off := 13) (tgt := 66) rfl (hX10_readGone.at 28 rfl rfl) ?_ ?_
      · refine os_aload_n (i := 0) (q := 0) (v := l0) 0 rfl rfl (hX10_readGone.at 35 rfl rfl) ?_
        refine os_getR fX10_19 (hX10_readGone.at 36 rfl rfl) (fun x10 => ?_)
        refine os_bipush (i := 21) (v := (21 : Int32)) rfl (hX10_readGone.at 37 rfl rfl) ?_
        refine os_aload_n (i := 0) (q := 0) (v := l0) 0 rfl rfl (hX10_readGone.at 38 rfl rfl) ?_
        refine os_getI fX10_245 (hX10_readGone.at 39 rfl rfl) (fun x11 => ?_)
        refine os_iadd (hX10_readGone.at 40 rfl rfl) ?_
        refine os_iconst (i := (-1)) (v := (-1 : Int32)) rfl (hX10_readGone.at 41 rfl rfl) ?_
        refine os_iastore (hX10_readGone.at 42 rfl rfl) ?_
        refine os_iconst (i := 1) (v := (1 : Int32)) rfl (hX10_readGone.at 43 rfl rfl) ?_
        exact os_zret (Nat.le_of_ble_eq_true rfl) (Nat.le_of_ble_eq_true rfl) (hX10_readGone.at 44 rfl rfl).1
      · refine os_aload_n (i := 0) (q := 0) (v := l0) 0 rfl rfl (hX10_readGone.at 29 rfl rfl) ?_
        refine os_iconst (i := 4) (v := (4 : Int32)) rfl (hX10_readGone.at 30 rfl rfl) ?_
        refine os_aload_n (i := 0) (q := 0) (v := l0) 0 rfl rfl (hX10_readGone.at 31 rfl rfl) ?_
        refine os_getI fX10_164 (hX10_readGone.at 32 rfl rfl) (fun x12 => ?_)
        refine os_callV (cis := [8]) (b := l0) (As := [.int (4 : Int32), .int x12]) (st := []) (st' := (fun r => .int r :: [])) sl8_X10_fails_X10_fails mdX10_fails wd1806 wd1808 (sX10_fails N l0 (4 : Int32) x12) rfl rfl (fun _ => rfl) (Nat.le_of_ble_eq_true rfl) (Nat.le_of_ble_eq_true rfl) (Nat.le_of_ble_eq_true rfl) rfl (Nat.le_of_ble_eq_true rfl) rfl (Nat.le_of_ble_eq_true rfl) (hX10_readGone.at 33 rfl rfl) (fun x13 => ?_)
        exact os_zret (Nat.le_of_ble_eq_true rfl) (Nat.le_of_ble_eq_true rfl) (hX10_readGone.at 34 rfl rfl).1
    · refine os_aload_n (i := 0) (q := 0) (v := l0) 0 rfl rfl (hX10_readGone.at 11 rfl rfl) ?_
      refine os_iconst (i := 2) (v := (2 : Int32)) rfl (hX10_readGone.at 12 rfl rfl) ?_
      refine os_aload_n (i := 0) (q := 0) (v := l0) 0 rfl rfl (hX10_readGone.at 13 rfl rfl) ?_
      refine os_getI fX10_164 (hX10_readGone.at 14 rfl rfl) (fun x14 => ?_)
      refine os_callV (cis := [8]) (b := l0) (As := [.int (2 : Int32), .int x14]) (st := []) (st' := (fun r => .int r :: [])) sl8_X10_fails_X10_fails mdX10_fails wd1806 wd1808 (sX10_fails N l0 (2 : Int32) x14) rfl rfl (fun _ => rfl) (Nat.le_of_ble_eq_true rfl) (Nat.le_of_ble_eq_true rfl) (Nat.le_of_ble_eq_true rfl) rfl (Nat.le_of_ble_eq_true rfl) rfl (Nat.le_of_ble_eq_true rfl) (hX10_readGone.at 15 rfl rfl) (fun x15 => ?_)
      exact os_zret (Nat.le_of_ble_eq_true rfl) (Nat.le_of_ble_eq_true rfl) (hX10_readGone.at 16 rfl rfl).1
  · refine os_iconst (i := 0) (v := (0 : Int32)) rfl (hX10_readGone.at 3 rfl rfl) ?_
    exact os_zret (Nat.le_of_ble_eq_true rfl) (Nat.le_of_ble_eq_true rfl) (hX10_readGone.at 4 rfl rfl).1
-- X10_readBuild
def KX10_readBuild : List (Nat × Nat × Instr) := [(0, 1, .aload_n 0), (1, 3, .invokevirtual 232), (4, 3, .ifCond .ne 5), (7, 1, .iconst 0), (8, 1, .ireturn), (9, 1, .aload_n 0), (10, 3, .getfield 177), (13, 3, .ldc2_w 228), (16, 1, .lcmp), (17, 3, .ifCond .ne 8), (20, 1, .aload_n 0), (21, 3, .invokevirtual 327), (24, 1, .ireturn), (25, 1, .aload_n 0), (26, 3, .getfield 177), (29, 3, .ldc2_w 230), (32, 1, .lcmp), (33, 3, .ifCond .ne 10), (36, 1, .aload_n 0), (37, 3, .invokevirtual 330), (40, 3, .goto 12), (43, 1, .aload_n 0), (44, 1, .iconst 1), (45, 1, .aload_n 0), (46, 3, .getfield 164), (49, 3, .invokevirtual 195), (52, 1, .ireturn)]
theorem hX10_readBuild : osDs cX10_readBuild KX10_readBuild := by
  show ∀ q ∈ KX10_readBuild, decode cX10_readBuild q.1 = .ok (q.2.2, q.2.1)
  decide +kernel
def qX10_readBuild_52 (N : Nat) (k0 : Int32) : osM Int32 := osretZ k0
def qX10_readBuild (N : Nat) (l0 : Nat) : osM Int32 := osbind (osrecv [8] l0 (qX10_readWord N l0)) fun x1 => osite (x1 = 0) (osretZ (0 : Int32)) (osbind (osgJ [8] 18 l0) fun x2 => osite ((lg_cmp x2 (2794884 : Int64)) = 0) (osbind (osrecv [8] l0 (qX10_readNewUnit N l0)) fun x7 => osretZ x7) (osbind (osgJ [8] 18 l0) fun x3 => osite ((lg_cmp x3 (609664709 : Int64)) = 0) (osbind (osrecv [8] l0 (qX10_readGone N l0)) fun x6 => qX10_readBuild_52 N x6) (osbind (osgI [8] 13 l0) fun x4 => osbind (osrecv [8] l0 (qX10_fails N l0 (1 : Int32) x4)) fun x5 => qX10_readBuild_52 N x5)))
set_option maxRecDepth 100000 in
set_option maxHeartbeats 4000000 in
theorem sX10_readBuild_52 (N : Nat) (k0 : Int32) : osW (osFinM (fun r : Int32 => some (.int r)) 0 0) yX10_readBuild cX10_readBuild 1 (some .boolean) [] { frames := 8, cells := 0, slots := 0, locals := 166 } 0 0 52 [] [.int k0] (qX10_readBuild_52 N k0) := by
  unfold qX10_readBuild_52
  exact os_zret (Nat.le_of_ble_eq_true rfl) (Nat.le_of_ble_eq_true rfl) (hX10_readBuild.at 26 rfl rfl).1
set_option maxRecDepth 100000 in
set_option maxHeartbeats 4000000 in
theorem sX10_readBuild (N : Nat) (l0 : Nat) : osMet yX10_readBuild cX10_readBuild 1 (some .boolean) 8 166 0 0 (fun r : Int32 => some (.int r)) [.ref l0] (qX10_readBuild N l0) := by
  refine osMet.of plX10 (Nat.le_of_ble_eq_true rfl) (osW.rw (lv2 := [(0, .ref l0)]) ?_ rfl rfl rfl)
  unfold qX10_readBuild
  refine os_aload_n (i := 0) (q := 0) (v := l0) 0 rfl rfl (hX10_readBuild.at 0 rfl rfl) ?_
  refine os_callV (cis := [8]) (b := l0) (As := []) (st := []) (st' := (fun r => .int r :: [])) sl8_X10_readWord_X10_readWord mdX10_readWord wd1789 wd1791 (sX10_readWord N l0 ) rfl rfl (fun _ => rfl) (Nat.le_of_ble_eq_true rfl) (Nat.le_of_ble_eq_true rfl) (Nat.le_of_ble_eq_true rfl) rfl (Nat.le_of_ble_eq_true rfl) rfl (Nat.le_of_ble_eq_true rfl) (hX10_readBuild.at 1 rfl rfl) (fun x1 => ?_)
  refine os_if_ne (off := 5) (tgt := 9) rfl (hX10_readBuild.at 2 rfl rfl) ?_ ?_
  · refine os_aload_n (i := 0) (q := 0) (v := l0) 0 rfl rfl (hX10_readBuild.at 5 rfl rfl) ?_
    refine os_getJ fX10_177 (hX10_readBuild.at 6 rfl rfl) (fun x2 => ?_)
    refine os_ldc2 (v := (2794884 : Int64)) wd1835 (hX10_readBuild.at 7 rfl rfl) ?_
    refine os_lcmp (hX10_readBuild.at 8 rfl rfl) ?_
    refine os_if_ne (off := 8) (tgt := 25) rfl (hX10_readBuild.at 9 rfl rfl) ?_ ?_
    · refine os_aload_n (i := 0) (q := 0) (v := l0) 0 rfl rfl (hX10_readBuild.at 13 rfl rfl) ?_
      refine os_getJ fX10_177 (hX10_readBuild.at 14 rfl rfl) (fun x3 => ?_)
      refine os_ldc2 (v := (609664709 : Int64)) wd1836 (hX10_readBuild.at 15 rfl rfl) ?_
      refine os_lcmp (hX10_readBuild.at 16 rfl rfl) ?_
      refine os_if_ne (off := 10) (tgt := 43) rfl (hX10_readBuild.at 17 rfl rfl) ?_ ?_
      · refine os_aload_n (i := 0) (q := 0) (v := l0) 0 rfl rfl (hX10_readBuild.at 21 rfl rfl) ?_
        refine os_iconst (i := 1) (v := (1 : Int32)) rfl (hX10_readBuild.at 22 rfl rfl) ?_
        refine os_aload_n (i := 0) (q := 0) (v := l0) 0 rfl rfl (hX10_readBuild.at 23 rfl rfl) ?_
        refine os_getI fX10_164 (hX10_readBuild.at 24 rfl rfl) (fun x4 => ?_)
        refine os_callV (cis := [8]) (b := l0) (As := [.int (1 : Int32), .int x4]) (st := []) (st' := (fun r => .int r :: [])) sl8_X10_fails_X10_fails mdX10_fails wd1806 wd1808 (sX10_fails N l0 (1 : Int32) x4) rfl rfl (fun _ => rfl) (Nat.le_of_ble_eq_true rfl) (Nat.le_of_ble_eq_true rfl) (Nat.le_of_ble_eq_true rfl) rfl (Nat.le_of_ble_eq_true rfl) rfl (Nat.le_of_ble_eq_true rfl) (hX10_readBuild.at 25 rfl rfl) (fun x5 => ?_)
        exact osW.sub [] rfl (sX10_readBuild_52 N x5)
      · refine os_aload_n (i := 0) (q := 0) (v := l0) 0 rfl rfl (hX10_readBuild.at 18 rfl rfl) ?_
        refine os_callV (cis := [8]) (b := l0) (As := []) (st := []) (st' := (fun r => .int r :: [])) sl8_X10_readGone_X10_readGone mdX10_readGone wd1997 wd1999 (sX10_readGone N l0 ) rfl rfl (fun _ => rfl) (Nat.le_of_ble_eq_true rfl) (Nat.le_of_ble_eq_true rfl) (Nat.le_of_ble_eq_true rfl) rfl (Nat.le_of_ble_eq_true rfl) rfl (Nat.le_of_ble_eq_true rfl) (hX10_readBuild.at 19 rfl rfl) (fun x6 => ?_)
        refine os_goto (off := 12) (tgt := 52) rfl (hX10_readBuild.at 20 rfl rfl) ?_
        exact osW.sub [] rfl (sX10_readBuild_52 N x6)
    · refine os_aload_n (i := 0) (q := 0) (v := l0) 0 rfl rfl (hX10_readBuild.at 10 rfl rfl) ?_
      refine os_callV (cis := [8]) (b := l0) (As := []) (st := []) (st' := (fun r => .int r :: [])) sl8_X10_readNewUnit_X10_readNewUnit mdX10_readNewUnit wd1978 wd1980 (sX10_readNewUnit N l0 ) rfl rfl (fun _ => rfl) (Nat.le_of_ble_eq_true rfl) (Nat.le_of_ble_eq_true rfl) (Nat.le_of_ble_eq_true rfl) rfl (Nat.le_of_ble_eq_true rfl) rfl (Nat.le_of_ble_eq_true rfl) (hX10_readBuild.at 11 rfl rfl) (fun x7 => ?_)
      exact os_zret (Nat.le_of_ble_eq_true rfl) (Nat.le_of_ble_eq_true rfl) (hX10_readBuild.at 12 rfl rfl).1
  · refine os_iconst (i := 0) (v := (0 : Int32)) rfl (hX10_readBuild.at 3 rfl rfl) ?_
    exact os_zret (Nat.le_of_ble_eq_true rfl) (Nat.le_of_ble_eq_true rfl) (hX10_readBuild.at 4 rfl rfl).1
-- X10_readOne
def KX10_readOne : List (Nat × Nat × Instr) := [(0, 1, .aload_n 0), (1, 3, .getfield 16), (4, 1, .iconst 0), (5, 1, .iaload), (6, 3, .ifCond .ne 10), (9, 1, .aload_n 0), (10, 3, .invokevirtual 333), (13, 3, .goto 24), (16, 1, .aload_n 0), (17, 3, .getfield 16), (20, 1, .iconst 0), (21, 1, .iaload), (22, 1, .iconst 1), (23, 3, .if_icmp .ne 10), (26, 1, .aload_n 0), (27, 3, .invokevirtual 336), (30, 3, .goto 7), (33, 1, .aload_n 0), (34, 3, .invokevirtual 339), (37, 1, .ireturn)]
theorem hX10_readOne : osDs cX10_readOne KX10_readOne := by
  show ∀ q ∈ KX10_readOne, decode cX10_readOne q.1 = .ok (q.2.2, q.2.1)
  decide +kernel
def qX10_readOne_37 (N : Nat) (k0 : Int32) : osM Int32 := osretZ k0
def qX10_readOne (N : Nat) (l0 : Nat) : osM Int32 := osbind (osgR [8] 3 l0) fun x1 => osbind (osaI 0 x1 (0 : Int32)) fun x2 => osite (x2 = 0) (osbind (osrecv [8] l0 (qX10_readOrder N l0)) fun x7 => qX10_readOne_37 N x7) (osbind (osgR [8] 3 l0) fun x3 => osbind (osaI 0 x3 (0 : Int32)) fun x4 => osite (x4 = (1 : Int32)) (osbind (osrecv [8] l0 (qX10_readRetreat N l0)) fun x6 => qX10_readOne_37 N x6) (osbind (osrecv [8] l0 (qX10_readBuild N l0)) fun x5 => qX10_readOne_37 N x5))
set_option maxRecDepth 100000 in
set_option maxHeartbeats 4000000 in
theorem sX10_readOne_37 (N : Nat) (k0 : Int32) : osW (osFinM (fun r : Int32 => some (.int r)) 0 0) yX10_readOne cX10_readOne 1 (some .boolean) [] { frames := 9, cells := 0, slots := 0, locals := 188 } 0 0 37 [] [.int k0] (qX10_readOne_37 N k0) := by
  unfold qX10_readOne_37
  exact os_zret (Nat.le_of_ble_eq_true rfl) (Nat.le_of_ble_eq_true rfl) (hX10_readOne.at 19 rfl rfl).1
set_option maxRecDepth 100000 in
set_option maxHeartbeats 4000000 in
theorem sX10_readOne (N : Nat) (l0 : Nat) : osMet yX10_readOne cX10_readOne 1 (some .boolean) 9 188 0 0 (fun r : Int32 => some (.int r)) [.ref l0] (qX10_readOne N l0) := by
  refine osMet.of plX10 (Nat.le_of_ble_eq_true rfl) (osW.rw (lv2 := [(0, .ref l0)]) ?_ rfl rfl rfl)
  unfold qX10_readOne
  refine os_aload_n (i := 0) (q := 0) (v := l0) 0 rfl rfl (hX10_readOne.at 0 rfl rfl) ?_
  refine os_getR fX10_16 (hX10_readOne.at 1 rfl rfl) (fun x1 => ?_)
  refine os_iconst (i := 0) (v := (0 : Int32)) rfl (hX10_readOne.at 2 rfl rfl) ?_
  refine os_iaload (hX10_readOne.at 3 rfl rfl) (fun x2 => ?_)
  refine os_if_ne (off := 10) (tgt := 16) rfl (hX10_readOne.at 4 rfl rfl) ?_ ?_
  · refine os_aload_n (i := 0) (q := 0) (v := l0) 0 rfl rfl (hX10_readOne.at 8 rfl rfl) ?_
    refine os_getR fX10_16 (hX10_readOne.at 9 rfl rfl) (fun x3 => ?_)
    refine os_iconst (i := 0) (v := (0 : Int32)) rfl (hX10_readOne.at 10 rfl rfl) ?_
    refine os_iaload (hX10_readOne.at 11 rfl rfl) (fun x4 => ?_)
    refine os_iconst (i := 1) (v := (1 : Int32)) rfl (hX10_readOne.at 12 rfl rfl) ?_
    refine os_icmp_ne (off := 10) (tgt := 33) rfl (hX10_readOne.at 13 rfl rfl) ?_ ?_
    · refine os_aload_n (i := 0) (q := 0) (v := l0) 0 rfl rfl (hX10_readOne.at 17 rfl rfl) ?_
      refine os_callV (cis := [8]) (b := l0) (As := []) (st := []) (st' := (fun r => .int r :: [])) sl8_X10_readBuild_X10_readBuild mdX10_readBuild wd1974 wd1976 (sX10_readBuild N l0 ) rfl rfl (fun _ => rfl) (Nat.le_of_ble_eq_true rfl) (Nat.le_of_ble_eq_true rfl) (Nat.le_of_ble_eq_true rfl) rfl (Nat.le_of_ble_eq_true rfl) rfl (Nat.le_of_ble_eq_true rfl) (hX10_readOne.at 18 rfl rfl) (fun x5 => ?_)
      exact osW.sub [] rfl (sX10_readOne_37 N x5)
    · refine os_aload_n (i := 0) (q := 0) (v := l0) 0 rfl rfl (hX10_readOne.at 14 rfl rfl) ?_
      refine os_callV (cis := [8]) (b := l0) (As := []) (st := []) (st' := (fun r => .int r :: [])) sl8_X10_readRetreat_X10_readRetreat mdX10_readRetreat wd1966 wd1968 (sX10_readRetreat N l0 ) rfl rfl (fun _ => rfl) (Nat.le_of_ble_eq_true rfl) (Nat.le_of_ble_eq_true rfl) (Nat.le_of_ble_eq_true rfl) rfl (Nat.le_of_ble_eq_true rfl) rfl (Nat.le_of_ble_eq_true rfl) (hX10_readOne.at 15 rfl rfl) (fun x6 => ?_)
      refine os_goto (off := 7) (tgt := 37) rfl (hX10_readOne.at 16 rfl rfl) ?_
      exact osW.sub [] rfl (sX10_readOne_37 N x6)
  · refine os_aload_n (i := 0) (q := 0) (v := l0) 0 rfl rfl (hX10_readOne.at 5 rfl rfl) ?_
    refine os_callV (cis := [8]) (b := l0) (As := []) (st := []) (st' := (fun r => .int r :: [])) sl8_X10_readOrder_X10_readOrder mdX10_readOrder wd1910 wd1912 (sX10_readOrder N l0 ) rfl rfl (fun _ => rfl) (Nat.le_of_ble_eq_true rfl) (Nat.le_of_ble_eq_true rfl) (Nat.le_of_ble_eq_true rfl) rfl (Nat.le_of_ble_eq_true rfl) rfl (Nat.le_of_ble_eq_true rfl) (hX10_readOne.at 6 rfl rfl) (fun x7 => ?_)
    refine os_goto (off := 24) (tgt := 37) rfl (hX10_readOne.at 7 rfl rfl) ?_
    exact osW.sub [] rfl (sX10_readOne_37 N x7)
-- X10_readAll
def KX10_readAll : List (Nat × Nat × Instr) := [(0, 1, .aload_n 0), (1, 1, .iconst 0), (2, 3, .putfield 342), (5, 1, .aload_n 0), (6, 3, .invokevirtual 167), (9, 1, .iconst (-1)), (10, 3, .if_icmp .eq 32), (13, 1, .aload_n 0), (14, 3, .invokevirtual 345), (17, 3, .ifCond .eq 10), (20, 1, .aload_n 0), (21, 3, .invokevirtual 280), (24, 3, .ifCond .ne 5), (27, 1, .iconst 0), (28, 1, .ireturn), (29, 1, .aload_n 0), (30, 1, .aload_n 0), (31, 3, .getfield 342), (34, 1, .iconst 1), (35, 1, .iadd), (36, 3, .putfield 342), (39, 3, .goto (-34)), (42, 1, .iconst 1), (43, 1, .ireturn)]
theorem hX10_readAll : osDs cX10_readAll KX10_readAll := by
  show ∀ q ∈ KX10_readAll, decode cX10_readAll q.1 = .ok (q.2.2, q.2.1)
  decide +kernel
def qX10_readAll_27 (N : Nat) : osM Int32 := osretZ (0 : Int32)
def bX10_readAll_5 (N : Nat) (c5 : Nat → osM Int32) (l0 : Nat) : osM Int32 := osbind (osrecv [8] l0 (qX10_peek N l0)) fun x1 => osite (x1 = (-1 : Int32)) (osretZ (1 : Int32)) (osbind (osrecv [8] l0 (qX10_readOne N l0)) fun x2 => osite (x2 = 0) (qX10_readAll_27 N ) (osbind (osrecv [8] l0 (qX10_readSemicolon N l0)) fun x3 => osite (x3 = 0) (qX10_readAll_27 N ) (osbind (osgI [8] 20 l0) fun x4 => osbind (osput [8] 20 l0 (.int (x4 + (1 : Int32)))) fun _ => c5 l0)))
def qX10_readAll_5 (N : Nat) : Nat → osM Int32 := osloop (fun ih p => bX10_readAll_5 N ih p) N
def qX10_readAll (N : Nat) (l0 : Nat) : osM Int32 := osbind (osput [8] 20 l0 (.int (0 : Int32))) fun _ => qX10_readAll_5 N l0
set_option maxRecDepth 100000 in
set_option maxHeartbeats 4000000 in
theorem sX10_readAll_27 (N : Nat) : osW (osFinM (fun r : Int32 => some (.int r)) 0 0) yX10_readAll cX10_readAll 1 (some .boolean) [] { frames := 10, cells := 0, slots := 0, locals := 208 } 0 0 27 [] [] (qX10_readAll_27 N) := by
  unfold qX10_readAll_27
  refine os_iconst (i := 0) (v := (0 : Int32)) rfl (hX10_readAll.at 13 rfl rfl) ?_
  exact os_zret (Nat.le_of_ble_eq_true rfl) (Nat.le_of_ble_eq_true rfl) (hX10_readAll.at 14 rfl rfl).1
set_option maxRecDepth 100000 in
set_option maxHeartbeats 4000000 in
theorem tX10_readAll_5 (N : Nat) (c5 : Nat → osM Int32) (g5 : ∀ (l0 : Nat), osW (osFinM (fun r : Int32 => some (.int r)) 0 0) yX10_readAll cX10_readAll 1 (some .boolean) [] { frames := 10, cells := 0, slots := 0, locals := 208 } 0 0 5 [(0, .ref l0)] [] (c5 l0)) (l0 : Nat) : osW (osFinM (fun r : Int32 => some (.int r)) 0 0) yX10_readAll cX10_readAll 1 (some .boolean) [] { frames := 10, cells := 0, slots := 0, locals := 208 } 0 0 5 [(0, .ref l0)] [] (bX10_readAll_5 N c5 l0) := by
  unfold bX10_readAll_5
  refine os_aload_n (i := 0) (q := 0) (v := l0) 0 rfl rfl (hX10_readAll.at 3 rfl rfl) ?_
  refine os_callV (cis := [8]) (b := l0) (As := []) (st := []) (st' := (fun r => .int r :: [])) sl8_X10_peek_X10_peek mdX10_peek wd1777 wd1779 (sX10_peek N l0 ) rfl rfl (fun _ => rfl) (Nat.le_of_ble_eq_true rfl) (Nat.le_of_ble_eq_true rfl) (Nat.le_of_ble_eq_true rfl) rfl (Nat.le_of_ble_eq_true rfl) rfl (Nat.le_of_ble_eq_true rfl) (hX10_readAll.at 4 rfl rfl) (fun x1 => ?_)
  refine os_iconst (i := (-1)) (v := (-1 : Int32)) rfl (hX10_readAll.at 5 rfl rfl) ?_
  refine os_icmp_eq (off := 32) (tgt := 42) rfl (hX10_readAll.at 6 rfl rfl) ?_ ?_
  · refine os_iconst (i := 1) (v := (1 : Int32)) rfl (hX10_readAll.at 22 rfl rfl) ?_
    exact os_zret (Nat.le_of_ble_eq_true rfl) (Nat.le_of_ble_eq_true rfl) (hX10_readAll.at 23 rfl rfl).1
  · refine os_aload_n (i := 0) (q := 0) (v := l0) 0 rfl rfl (hX10_readAll.at 7 rfl rfl) ?_
    refine os_callV (cis := [8]) (b := l0) (As := []) (st := []) (st' := (fun r => .int r :: [])) sl8_X10_readOne_X10_readOne mdX10_readOne wd1906 wd1908 (sX10_readOne N l0 ) rfl rfl (fun _ => rfl) (Nat.le_of_ble_eq_true rfl) (Nat.le_of_ble_eq_true rfl) (Nat.le_of_ble_eq_true rfl) rfl (Nat.le_of_ble_eq_true rfl) rfl (Nat.le_of_ble_eq_true rfl) (hX10_readAll.at 8 rfl rfl) (fun x2 => ?_)
    refine os_if_eq (off := 10) (tgt := 27) rfl (hX10_readAll.at 9 rfl rfl) ?_ ?_
    · exact osW.sub [] rfl (sX10_readAll_27 N )
    · refine os_aload_n (i := 0) (q := 0) (v := l0) 0 rfl rfl (hX10_readAll.at 10 rfl rfl) ?_
      refine os_callV (cis := [8]) (b := l0) (As := []) (st := []) (st' := (fun r => .int r :: [])) sl8_X10_readSemicolon_X10_readSemicolon mdX10_readSemicolon wd1882 wd1884 (sX10_readSemicolon N l0 ) rfl rfl (fun _ => rfl) (Nat.le_of_ble_eq_true rfl) (Nat.le_of_ble_eq_true rfl) (Nat.le_of_ble_eq_true rfl) rfl (Nat.le_of_ble_eq_true rfl) rfl (Nat.le_of_ble_eq_true rfl) (hX10_readAll.at 11 rfl rfl) (fun x3 => ?_)
      refine os_if_ne (off := 5) (tgt := 29) rfl (hX10_readAll.at 12 rfl rfl) ?_ ?_
      · refine os_aload_n (i := 0) (q := 0) (v := l0) 0 rfl rfl (hX10_readAll.at 15 rfl rfl) ?_
        refine os_aload_n (i := 0) (q := 0) (v := l0) 0 rfl rfl (hX10_readAll.at 16 rfl rfl) ?_
        refine os_getI fX10_342 (hX10_readAll.at 17 rfl rfl) (fun x4 => ?_)
        refine os_iconst (i := 1) (v := (1 : Int32)) rfl (hX10_readAll.at 18 rfl rfl) ?_
        refine os_iadd (hX10_readAll.at 19 rfl rfl) ?_
        refine os_put fX10_342 rfl rfl (hX10_readAll.at 20 rfl rfl) ?_
        refine os_goto (off := (-34)) (tgt := 5) rfl (hX10_readAll.at 21 rfl rfl) ?_
        exact osW.sub [0] rfl (g5 l0)
      · exact osW.sub [] rfl (sX10_readAll_27 N )
set_option maxRecDepth 100000 in
set_option maxHeartbeats 4000000 in
theorem sX10_readAll_5 (N : Nat) (l0 : Nat) : osW (osFinM (fun r : Int32 => some (.int r)) 0 0) yX10_readAll cX10_readAll 1 (some .boolean) [] { frames := 10, cells := 0, slots := 0, locals := 208 } 0 0 5 [(0, .ref l0)] [] (qX10_readAll_5 N l0) :=
  osloop_W (lvf := fun p => [(0, .ref p)]) (stf := fun p => []) (fun ih g p => tX10_readAll_5 N ih (fun l0 => g l0) p) N l0
set_option maxRecDepth 100000 in
set_option maxHeartbeats 4000000 in
theorem sX10_readAll (N : Nat) (l0 : Nat) : osMet yX10_readAll cX10_readAll 1 (some .boolean) 10 208 0 0 (fun r : Int32 => some (.int r)) [.ref l0] (qX10_readAll N l0) := by
  refine osMet.of plX10 (Nat.le_of_ble_eq_true rfl) (osW.rw (lv2 := [(0, .ref l0)]) ?_ rfl rfl rfl)
  unfold qX10_readAll
  refine os_aload_n (i := 0) (q := 0) (v := l0) 0 rfl rfl (hX10_readAll.at 0 rfl rfl) ?_
  refine os_iconst (i := 0) (v := (0 : Int32)) rfl (hX10_readAll.at 1 rfl rfl) ?_
  refine os_put fX10_342 rfl rfl (hX10_readAll.at 2 rfl rfl) ?_
  exact osW.sub [0] rfl (sX10_readAll_5 N l0)
-- X10_tell
def KX10_tell : List (Nat × Nat × Instr) := [(0, 1, .aload_n 0), (1, 1, .iload_n 1), (2, 3, .invokevirtual 283), (5, 3, .ifCond .ne 5), (8, 1, .iconst 0), (9, 1, .ireturn), (10, 1, .aload_n 0), (11, 3, .invokevirtual 348), (14, 1, .aload_n 0), (15, 1, .aload_n 0), (16, 3, .invokevirtual 351), (19, 3, .invokevirtual 289), (22, 3, .ifCond .ne 5), (25, 1, .iconst 0), (26, 1, .ireturn), (27, 1, .aload_n 0), (28, 3, .invokevirtual 89), (31, 1, .aload_n 0), (32, 3, .getfield 342), (35, 1, .ireturn)]
theorem hX10_tell : osDs cX10_tell KX10_tell := by
  show ∀ q ∈ KX10_tell, decode cX10_tell q.1 = .ok (q.2.2, q.2.1)
  decide +kernel
def qX10_tell (N : Nat) (l0 : Nat) (l1 : Int32) : osM Int32 := osbind (osrecv [8] l0 (qX10_opens N l0 l1)) fun x1 => osite (x1 = 0) (osret (0 : Int32)) (osbind (osrecv [8] l0 (qX10_laysDraft N l0)) fun _ => osbind (osrecv [8] l0 (qX10_readAll N l0)) fun x2 => osbind (osrecv [8] l0 (qX10_isRead N l0 x2)) fun x3 => osite (x3 = 0) (osret (0 : Int32)) (osbind (osrecv [8] l0 (qX10_takesDraft N l0)) fun _ => osbind (osgI [8] 20 l0) fun x4 => osret x4))
set_option maxRecDepth 100000 in
set_option maxHeartbeats 4000000 in
theorem sX10_tell (N : Nat) (l0 : Nat) (l1 : Int32) : osMet yX10_tell cX10_tell 2 (some .int) 11 228 0 0 (fun r : Int32 => some (.int r)) [.ref l0, .int l1] (qX10_tell N l0 l1) := by
  refine osMet.of plX10 (Nat.le_of_ble_eq_true rfl) (osW.rw (lv2 := [(0, .ref l0), (1, .int l1)]) ?_ rfl rfl rfl)
  unfold qX10_tell
  refine os_aload_n (i := 0) (q := 0) (v := l0) 0 rfl rfl (hX10_tell.at 0 rfl rfl) ?_
  refine os_iload_n (i := 1) (q := 1) (v := l1) 1 rfl rfl (hX10_tell.at 1 rfl rfl) ?_
  refine os_callV (cis := [8]) (b := l0) (As := [.int l1]) (st := []) (st' := (fun r => .int r :: [])) sl8_X10_opens_X10_opens mdX10_opens wd1766 wd1768 (sX10_opens N l0 l1) rfl rfl (fun _ => rfl) (Nat.le_of_ble_eq_true rfl) (Nat.le_of_ble_eq_true rfl) (Nat.le_of_ble_eq_true rfl) rfl (Nat.le_of_ble_eq_true rfl) rfl (Nat.le_of_ble_eq_true rfl) (hX10_tell.at 2 rfl rfl) (fun x1 => ?_)
  refine os_if_ne (off := 5) (tgt := 10) rfl (hX10_tell.at 3 rfl rfl) ?_ ?_
  · refine os_aload_n (i := 0) (q := 0) (v := l0) 0 rfl rfl (hX10_tell.at 6 rfl rfl) ?_
    refine os_callV (cis := [8]) (b := l0) (As := []) (st := []) (st' := (fun _ => [])) sl8_X10_laysDraft_X10_laysDraft mdX10_laysDraft wd1898 wd1900 (sX10_laysDraft N l0 ) rfl rfl (fun _ => rfl) (Nat.le_of_ble_eq_true rfl) (Nat.le_of_ble_eq_true rfl) (Nat.le_of_ble_eq_true rfl) rfl (Nat.le_of_ble_eq_true rfl) rfl (Nat.le_of_ble_eq_true rfl) (hX10_tell.at 7 rfl rfl) (fun _ => ?_)
    refine os_aload_n (i := 0) (q := 0) (v := l0) 0 rfl rfl (hX10_tell.at 8 rfl rfl) ?_
    refine os_aload_n (i := 0) (q := 0) (v := l0) 0 rfl rfl (hX10_tell.at 9 rfl rfl) ?_
    refine os_callV (cis := [8]) (b := l0) (As := []) (st := [.ref l0]) (st' := (fun r => .int r :: [.ref l0])) sl8_X10_readAll_X10_readAll mdX10_readAll wd1902 wd1904 (sX10_readAll N l0 ) rfl rfl (fun _ => rfl) (Nat.le_of_ble_eq_true rfl) (Nat.le_of_ble_eq_true rfl) (Nat.le_of_ble_eq_true rfl) rfl (Nat.le_of_ble_eq_true rfl) rfl (Nat.le_of_ble_eq_true rfl) (hX10_tell.at 10 rfl rfl) (fun x2 => ?_)
    refine os_callV (cis := [8]) (b := l0) (As := [.int x2]) (st := []) (st' := (fun r => .int r :: [])) sl8_X10_isRead_X10_isRead mdX10_isRead wd1886 wd1888 (sX10_isRead N l0 x2) rfl rfl (fun _ => rfl) (Nat.le_of_ble_eq_true rfl) (Nat.le_of_ble_eq_true rfl) (Nat.le_of_ble_eq_true rfl) rfl (Nat.le_of_ble_eq_true rfl) rfl (Nat.le_of_ble_eq_true rfl) (hX10_tell.at 11 rfl rfl) (fun x3 => ?_)
    refine os_if_ne (off := 5) (tgt := 27) rfl (hX10_tell.at 12 rfl rfl) ?_ ?_
    · refine os_aload_n (i := 0) (q := 0) (v := l0) 0 rfl rfl (hX10_tell.at 15 rfl rfl) ?_
      refine os_callV (cis := [8]) (b := l0) (As := []) (st := []) (st' := (fun _ => [])) sl8_X10_takesDraft_X10_takesDraft mdX10_takesDraft wd1598 wd1600 (sX10_takesDraft N l0 ) rfl rfl (fun _ => rfl) (Nat.le_of_ble_eq_true rfl) (Nat.le_of_ble_eq_true rfl) (Nat.le_of_ble_eq_true rfl) rfl (Nat.le_of_ble_eq_true rfl) rfl (Nat.le_of_ble_eq_true rfl) (hX10_tell.at 16 rfl rfl) (fun _ => ?_)
      refine os_aload_n (i := 0) (q := 0) (v := l0) 0 rfl rfl (hX10_tell.at 17 rfl rfl) ?_
      refine os_getI fX10_342 (hX10_tell.at 18 rfl rfl) (fun x4 => ?_)
      exact os_iret (Nat.le_of_ble_eq_true rfl) (Nat.le_of_ble_eq_true rfl) (hX10_tell.at 19 rfl rfl).1
    · refine os_iconst (i := 0) (v := (0 : Int32)) rfl (hX10_tell.at 13 rfl rfl) ?_
      exact os_iret (Nat.le_of_ble_eq_true rfl) (Nat.le_of_ble_eq_true rfl) (hX10_tell.at 14 rfl rfl).1
  · refine os_iconst (i := 0) (v := (0 : Int32)) rfl (hX10_tell.at 4 rfl rfl) ?_
    exact os_iret (Nat.le_of_ble_eq_true rfl) (Nat.le_of_ble_eq_true rfl) (hX10_tell.at 5 rfl rfl).1
-- X10_areas
def KX10_areas : List (Nat × Nat × Instr) := [(0, 1, .aload_n 0), (1, 1, .aload_n 0), (2, 3, .getfield 7), (5, 1, .iconst 0), (6, 1, .iaload), (7, 3, .invokevirtual 152), (10, 1, .ireturn)]
theorem hX10_areas : osDs cX10_areas KX10_areas := by
  show ∀ q ∈ KX10_areas, decode cX10_areas q.1 = .ok (q.2.2, q.2.1)
  decide +kernel
def qX10_areas (N : Nat) (l0 : Nat) : osM Int32 := osbind (osgR [8] 1 l0) fun x1 => osbind (osaI 0 x1 (0 : Int32)) fun x2 => osbind (osrecv [8] l0 (qX10_told N l0 x2)) fun x3 => osret x3
set_option maxRecDepth 100000 in
set_option maxHeartbeats 4000000 in
theorem sX10_areas (N : Nat) (l0 : Nat) : osMet yX10_areas cX10_areas 1 (some .int) 1 21 0 0 (fun r : Int32 => some (.int r)) [.ref l0] (qX10_areas N l0) := by
  refine osMet.of plX10 (Nat.le_of_ble_eq_true rfl) (osW.rw (lv2 := [(0, .ref l0)]) ?_ rfl rfl rfl)
  unfold qX10_areas
  refine os_aload_n (i := 0) (q := 0) (v := l0) 0 rfl rfl (hX10_areas.at 0 rfl rfl) ?_
  refine os_aload_n (i := 0) (q := 0) (v := l0) 0 rfl rfl (hX10_areas.at 1 rfl rfl) ?_
  refine os_getR fX10_7 (hX10_areas.at 2 rfl rfl) (fun x1 => ?_)
  refine os_iconst (i := 0) (v := (0 : Int32)) rfl (hX10_areas.at 3 rfl rfl) ?_
  refine os_iaload (hX10_areas.at 4 rfl rfl) (fun x2 => ?_)
  refine os_callV (cis := [8]) (b := l0) (As := [.int x2]) (st := []) (st' := (fun r => .int r :: [])) sl8_X10_told_X10_told mdX10_told wd1754 wd1756 (sX10_told N l0 x2) rfl rfl (fun _ => rfl) (Nat.le_of_ble_eq_true rfl) (Nat.le_of_ble_eq_true rfl) (Nat.le_of_ble_eq_true rfl) rfl (Nat.le_of_ble_eq_true rfl) rfl (Nat.le_of_ble_eq_true rfl) (hX10_areas.at 5 rfl rfl) (fun x3 => ?_)
  exact os_iret (Nat.le_of_ble_eq_true rfl) (Nat.le_of_ble_eq_true rfl) (hX10_areas.at 6 rfl rfl).1
-- X10_powers
def KX10_powers : List (Nat × Nat × Instr) := [(0, 1, .aload_n 0), (1, 1, .aload_n 0), (2, 3, .getfield 7), (5, 1, .iconst 1), (6, 1, .iaload), (7, 3, .invokevirtual 152), (10, 1, .ireturn)]
theorem hX10_powers : osDs cX10_powers KX10_powers := by
  show ∀ q ∈ KX10_powers, decode cX10_powers q.1 = .ok (q.2.2, q.2.1)
  decide +kernel
def qX10_powers (N : Nat) (l0 : Nat) : osM Int32 := osbind (osgR [8] 1 l0) fun x1 => osbind (osaI 0 x1 (1 : Int32)) fun x2 => osbind (osrecv [8] l0 (qX10_told N l0 x2)) fun x3 => osret x3
set_option maxRecDepth 100000 in
set_option maxHeartbeats 4000000 in
theorem sX10_powers (N : Nat) (l0 : Nat) : osMet yX10_powers cX10_powers 1 (some .int) 1 21 0 0 (fun r : Int32 => some (.int r)) [.ref l0] (qX10_powers N l0) := by
  refine osMet.of plX10 (Nat.le_of_ble_eq_true rfl) (osW.rw (lv2 := [(0, .ref l0)]) ?_ rfl rfl rfl)
  unfold qX10_powers
  refine os_aload_n (i := 0) (q := 0) (v := l0) 0 rfl rfl (hX10_powers.at 0 rfl rfl) ?_
  refine os_aload_n (i := 0) (q := 0) (v := l0) 0 rfl rfl (hX10_powers.at 1 rfl rfl) ?_
  refine os_getR fX10_7 (hX10_powers.at 2 rfl rfl) (fun x1 => ?_)
  refine os_iconst (i := 1) (v := (1 : Int32)) rfl (hX10_powers.at 3 rfl rfl) ?_
  refine os_iaload (hX10_powers.at 4 rfl rfl) (fun x2 => ?_)
  refine os_callV (cis := [8]) (b := l0) (As := [.int x2]) (st := []) (st' := (fun r => .int r :: [])) sl8_X10_told_X10_told mdX10_told wd1754 wd1756 (sX10_told N l0 x2) rfl rfl (fun _ => rfl) (Nat.le_of_ble_eq_true rfl) (Nat.le_of_ble_eq_true rfl) (Nat.le_of_ble_eq_true rfl) rfl (Nat.le_of_ble_eq_true rfl) rfl (Nat.le_of_ble_eq_true rfl) (hX10_powers.at 5 rfl rfl) (fun x3 => ?_)
  exact os_iret (Nat.le_of_ble_eq_true rfl) (Nat.le_of_ble_eq_true rfl) (hX10_powers.at 6 rfl rfl).1
-- X10_area
def KX10_area : List (Nat × Nat × Instr) := [(0, 1, .aload_n 0), (1, 1, .aload_n 0), (2, 1, .iload_n 1), (3, 3, .invokevirtual 99), (6, 3, .ifCond .ne 7), (9, 1, .iconst 1), (10, 3, .goto 18), (13, 1, .iload_n 2), (14, 1, .iconst 0), (15, 2, .bipush 7), (17, 3, .invokestatic 95), (20, 3, .ifCond .ne 7), (23, 1, .iconst 2), (24, 3, .goto 4), (27, 1, .iconst 0), (28, 3, .invokevirtual 354), (31, 3, .ifCond .eq 5), (34, 1, .iconst 0), (35, 1, .ireturn), (36, 1, .iload_n 2), (37, 43, .tableswitch 126 0 6 #[43, 52, 62, 72, 81, 91, 116]), (80, 1, .aload_n 0), (81, 3, .getfield 7), (84, 1, .iconst 2), (85, 1, .iload_n 1), (86, 1, .iadd), (87, 1, .iaload), (88, 1, .ireturn), (89, 1, .aload_n 0), (90, 3, .getfield 7), (93, 2, .bipush 18), (95, 1, .iload_n 1), (96, 1, .iadd), (97, 1, .iaload), (98, 1, .ireturn), (99, 1, .aload_n 0), (100, 3, .getfield 7), (103, 2, .bipush 34), (105, 1, .iload_n 1), (106, 1, .iadd), (107, 1, .iaload), (108, 1, .ireturn), (109, 1, .aload_n 0), (110, 3, .getfield 16), (113, 1, .iconst 5), (114, 1, .iload_n 1), (115, 1, .iadd), (116, 1, .iaload), (117, 1, .ireturn), (118, 1, .aload_n 0), (119, 3, .getfield 16), (122, 2, .bipush 21), (124, 1, .iload_n 1), (125, 1, .iadd), (126, 1, .iaload), (127, 1, .ireturn), (128, 1, .aload_n 0), (129, 3, .getfield 16), (132, 1, .iload_n 1), (133, 3, .invokestatic 103), (136, 3, .ifCond .eq 15), (139, 1, .aload_n 0), (140, 3, .getfield 16), (143, 2, .bipush 37), (145, 1, .iload_n 1), (146, 1, .iadd), (147, 1, .iaload), (148, 3, .goto 4), (151, 1, .iconst (-1)), (152, 1, .ireturn), (153, 1, .aload_n 0), (154, 3, .getfield 16), (157, 2, .bipush 53), (159, 1, .iload_n 1), (160, 1, .iadd), (161, 1, .iaload), (162, 1, .ireturn), (163, 1, .aload_n 0), (164, 3, .getfield 16), (167, 2, .bipush 53), (169, 1, .iload_n 1), (170, 1, .iadd), (171, 1, .iaload), (172, 1, .iconst (-1)), (173, 3, .if_icmp .ne 7), (176, 1, .iconst (-1)), (177, 3, .goto 12), (180, 1, .aload_n 0), (181, 3, .getfield 16), (184, 2, .bipush 69), (186, 1, .iload_n 1), (187, 1, .iadd), (188, 1, .iaload), (189, 1, .ireturn)]
theorem hX10_area : osDs cX10_area KX10_area := by
  show ∀ q ∈ KX10_area, decode cX10_area q.1 = .ok (q.2.2, q.2.1)
  decide +kernel
def qX10_area_152 (N : Nat) (k0 : Int32) : osM Int32 := osret k0
def qX10_area_189 (N : Nat) (k0 : Int32) : osM Int32 := osret k0
def qX10_area_28 (N : Nat) (l0 : Nat) (l1 : Int32) (l2 : Int32) (k0 : Int32) (k1 : Nat) : osM Int32 := osbind (osrecv [8] k1 (qX10_isRefused N k1 k0)) fun x1 => osite (x1 = 0) (osswitch l2 0 [osbind (osgR [8] 1 l0) fun x2 => osbind (osaI 0 x2 ((2 : Int32) + l1)) fun x3 => osret x3, osbind (osgR [8] 1 l0) fun x4 => osbind (osaI 0 x4 ((18 : Int32) + l1)) fun x5 => osret x5, osbind (osgR [8] 1 l0) fun x6 => osbind (osaI 0 x6 ((34 : Int32) + l1)) fun x7 => osret x7, osbind (osgR [8] 3 l0) fun x8 => osbind (osaI 0 x8 ((5 : Int32) + l1)) fun x9 => osret x9, osbind (osgR [8] 3 l0) fun x10 => osbind (osaI 0 x10 ((21 : Int32) + l1)) fun x11 => osret x11, osbind (osgR [8] 3 l0) fun x12 => osbind (qX10_isUnit N x12 l1) fun x13 => osite (x13 = 0) (qX10_area_152 N (-1 : Int32)) (osbind (osgR [8] 3 l0) fun x14 => osbind (osaI 0 x14 ((37 : Int32) + l1)) fun x15 => qX10_area_152 N x15), osbind (osgR [8] 3 l0) fun x16 => osbind (osaI 0 x16 ((53 : Int32) + l1)) fun x17 => osret x17] (osbind (osgR [8] 3 l0) fun x18 => osbind (osaI 0 x18 ((53 : Int32) + l1)) fun x19 => osite (x19 = (-1 : Int32)) (qX10_area_189 N (-1 : Int32)) (osbind (osgR [8] 3 l0) fun x20 => osbind (osaI 0 x20 ((69 : Int32) + l1)) fun x21 => qX10_area_189 N x21))) (osret (0 : Int32))
def qX10_area (N : Nat) (l0 : Nat) (l1 : Int32) (l2 : Int32) : osM Int32 := osbind (osrecv [8] l0 (qX10_isArea N l0 l1)) fun x1 => osite (x1 = 0) (qX10_area_28 N l0 l1 l2 (1 : Int32) l0) (osbind (qX10_in N l2 (0 : Int32) (7 : Int32)) fun x2 => osite (x2 = 0) (qX10_area_28 N l0 l1 l2 (2 : Int32) l0) (qX10_area_28 N l0 l1 l2 (0 : Int32) l0))
set_option maxRecDepth 100000 in
set_option maxHeartbeats 4000000 in
theorem sX10_area_152 (N : Nat) (k0 : Int32) : osW (osFinM (fun r : Int32 => some (.int r)) 0 0) yX10_area cX10_area 3 (some .int) [] { frames := 2, cells := 0, slots := 0, locals := 43 } 0 0 152 [] [.int k0] (qX10_area_152 N k0) := by
  unfold qX10_area_152
  exact os_iret (Nat.le_of_ble_eq_true rfl) (Nat.le_of_ble_eq_true rfl) (hX10_area.at 69 rfl rfl).1
set_option maxRecDepth 100000 in
set_option maxHeartbeats 4000000 in
theorem sX10_area_189 (N : Nat) (k0 : Int32) : osW (osFinM (fun r : Int32 => some (.int r)) 0 0) yX10_area cX10_area 3 (some .int) [] { frames := 2, cells := 0, slots := 0, locals := 43 } 0 0 189 [] [.int k0] (qX10_area_189 N k0) := by
  unfold qX10_area_189
  exact os_iret (Nat.le_of_ble_eq_true rfl) (Nat.le_of_ble_eq_true rfl) (hX10_area.at 93 rfl rfl).1
set_option maxRecDepth 100000 in
set_option maxHeartbeats 4000000 in
theorem sX10_area_28 (N : Nat) (l0 : Nat) (l1 : Int32) (l2 : Int32) (k0 : Int32) (k1 : Nat) : osW (osFinM (fun r : Int32 => some (.int r)) 0 0) yX10_area cX10_area 3 (some .int) [] { frames := 2, cells := 0, slots := 0, locals := 43 } 0 0 28 [(0, .ref l0), (1, .int l1), (2, .int l2)] [.int k0, .ref k1] (qX10_area_28 N l0 l1 l2 k0 k1) := by
  unfold qX10_area_28
  refine os_callV (cis := [8]) (b := k1) (As := [.int k0]) (st := []) (st' := (fun r => .int r :: [])) sl8_X10_isRefused_X10_isRefused mdX10_isRefused wd2017 wd2019 (sX10_isRefused N k1 k0) rfl rfl (fun _ => rfl) (Nat.le_of_ble_eq_true rfl) (Nat.le_of_ble_eq_true rfl) (Nat.le_of_ble_eq_true rfl) rfl (Nat.le_of_ble_eq_true rfl) rfl (Nat.le_of_ble_eq_true rfl) (hX10_area.at 15 rfl rfl) (fun x1 => ?_)
  refine os_if_eq (off := 5) (tgt := 36) rfl (hX10_area.at 16 rfl rfl) ?_ ?_
  · refine os_iload_n (i := 2) (q := 2) (v := l2) 2 rfl rfl (hX10_area.at 19 rfl rfl) ?_
    refine os_tableswitch (dflt := 126) (lo := 0) (hi := 6) (offs := #[43, 52, 62, 72, 81, 91, 116]) (tgt := 163) rfl rfl (hX10_area.at 20 rfl rfl) ?_ ?_
    · refine ⟨⟨80, rfl, ?_⟩, ⟨89, rfl, ?_⟩, ⟨99, rfl, ?_⟩, ⟨109, rfl, ?_⟩, ⟨118, rfl, ?_⟩, ⟨128, rfl, ?_⟩, ⟨153, rfl, ?_⟩, trivial⟩
      · refine os_aload_n (i := 0) (q := 0) (v := l0) 0 rfl rfl (hX10_area.at 21 rfl rfl) ?_
        refine os_getR fX10_7 (hX10_area.at 22 rfl rfl) (fun x2 => ?_)
        refine os_iconst (i := 2) (v := (2 : Int32)) rfl (hX10_area.at 23 rfl rfl) ?_
        refine os_iload_n (i := 1) (q := 1) (v := l1) 1 rfl rfl (hX10_area.at 24 rfl rfl) ?_
        refine os_iadd (hX10_area.at 25 rfl rfl) ?_
        refine os_iaload (hX10_area.at 26 rfl rfl) (fun x3 => ?_)
        exact os_iret (Nat.le_of_ble_eq_true rfl) (Nat.le_of_ble_eq_true rfl) (hX10_area.at 27 rfl rfl).1
      · refine os_aload_n (i := 0) (q := 0) (v := l0) 0 rfl rfl (hX10_area.at 28 rfl rfl) ?_
        refine os_getR fX10_7 (hX10_area.at 29 rfl rfl) (fun x4 => ?_)
        refine os_bipush (i := 18) (v := (18 : Int32)) rfl (hX10_area.at 30 rfl rfl) ?_
        refine os_iload_n (i := 1) (q := 1) (v := l1) 1 rfl rfl (hX10_area.at 31 rfl rfl) ?_
        refine os_iadd (hX10_area.at 32 rfl rfl) ?_
        refine os_iaload (hX10_area.at 33 rfl rfl) (fun x5 => ?_)
        exact os_iret (Nat.le_of_ble_eq_true rfl) (Nat.le_of_ble_eq_true rfl) (hX10_area.at 34 rfl rfl).1
      · refine os_aload_n (i := 0) (q := 0) (v := l0) 0 rfl rfl (hX10_area.at 35 rfl rfl) ?_
        refine os_getR fX10_7 (hX10_area.at 36 rfl rfl) (fun x6 => ?_)
        refine os_bipush (i := 34) (v := (34 : Int32)) rfl (hX10_area.at 37 rfl rfl) ?_
        refine os_iload_n (i := 1) (q := 1) (v := l1) 1 rfl rfl (hX10_area.at 38 rfl rfl) ?_
        refine os_iadd (hX10_area.at 39 rfl rfl) ?_
        refine os_iaload (hX10_area.at 40 rfl rfl) (fun x7 => ?_)
        exact os_iret (Nat.le_of_ble_eq_true rfl) (Nat.le_of_ble_eq_true rfl) (hX10_area.at 41 rfl rfl).1
      · refine os_aload_n (i := 0) (q := 0) (v := l0) 0 rfl rfl (hX10_area.at 42 rfl rfl) ?_
        refine os_getR fX10_16 (hX10_area.at 43 rfl rfl) (fun x8 => ?_)
        refine os_iconst (i := 5) (v := (5 : Int32)) rfl (hX10_area.at 44 rfl rfl) ?_
        refine os_iload_n (i := 1) (q := 1) (v := l1) 1 rfl rfl (hX10_area.at 45 rfl rfl) ?_
        refine os_iadd (hX10_area.at 46 rfl rfl) ?_
        refine os_iaload (hX10_area.at 47 rfl rfl) (fun x9 => ?_)
        exact os_iret (Nat.le_of_ble_eq_true rfl) (Nat.le_of_ble_eq_true rfl) (hX10_area.at 48 rfl rfl).1
      · refine os_aload_n (i := 0) (q := 0) (v := l0) 0 rfl rfl (hX10_area.at 49 rfl rfl) ?_
        refine os_getR fX10_16 (hX10_area.at 50 rfl rfl) (fun x10 => ?_)
        refine os_bipush (i := 21) (v := (21 : Int32)) rfl (hX10_area.at 51 rfl rfl) ?_
        refine os_iload_n (i := 1) (q := 1) (v := l1) 1 rfl rfl (hX10_area.at 52 rfl rfl) ?_
        refine os_iadd (hX10_area.at 53 rfl rfl) ?_
        refine os_iaload (hX10_area.at 54 rfl rfl) (fun x11 => ?_)
        exact os_iret (Nat.le_of_ble_eq_true rfl) (Nat.le_of_ble_eq_true rfl) (hX10_area.at 55 rfl rfl).1
      · refine os_aload_n (i := 0) (q := 0) (v := l0) 0 rfl rfl (hX10_area.at 56 rfl rfl) ?_
        refine os_getR fX10_16 (hX10_area.at 57 rfl rfl) (fun x12 => ?_)
        refine os_iload_n (i := 1) (q := 1) (v := l1) 1 rfl rfl (hX10_area.at 58 rfl rfl) ?_
        refine os_callS (As := [.ref x12, .int l1]) (st := []) (st' := (fun r => .int r :: [])) mdX10_isUnit wd1879 wd1880 (sX10_isUnit N x12 l1) rfl rfl (fun _ => rfl) (Nat.le_of_ble_eq_true rfl) (Nat.le_of_ble_eq_true rfl) (Nat.le_of_ble_eq_true rfl) rfl (Nat.le_of_ble_eq_true rfl) rfl (Nat.le_of_ble_eq_true rfl) (hX10_area.at 59 rfl rfl) (fun x13 => ?_)
        refine os_if_eq (off := 15) (tgt := 151) rfl (hX10_area.at 60 rfl rfl) ?_ ?_
        · refine os_iconst (i := (-1)) (v := (-1 : Int32)) rfl (hX10_area.at 68 rfl rfl) ?_
          exact osW.sub [] rfl (sX10_area_152 N (-1 : Int32))
        · refine os_aload_n (i := 0) (q := 0) (v := l0) 0 rfl rfl (hX10_area.at 61 rfl rfl) ?_
          refine os_getR fX10_16 (hX10_area.at 62 rfl rfl) (fun x14 => ?_)
          refine os_bipush (i := 37) (v := (37 : Int32)) rfl (hX10_area.at 63 rfl rfl) ?_
          refine os_iload_n (i := 1) (q := 1) (v := l1) 1 rfl rfl (hX10_area.at 64 rfl rfl) ?_
          refine os_iadd (hX10_area.at 65 rfl rfl) ?_
          refine os_iaload (hX10_area.at 66 rfl rfl) (fun x15 => ?_)
          refine os_goto (off := 4) (tgt := 152) rfl (hX10_area.at 67 rfl rfl) ?_
          exact osW.sub [] rfl (sX10_area_152 N x15)
      · refine os_aload_n (i := 0) (q := 0) (v := l0) 0 rfl rfl (hX10_area.at 70 rfl rfl) ?_
        refine os_getR fX10_16 (hX10_area.at 71 rfl rfl) (fun x16 => ?_)
        refine os_bipush (i := 53) (v := (53 : Int32)) rfl (hX10_area.at 72 rfl rfl) ?_
        refine os_iload_n (i := 1) (q := 1) (v := l1) 1 rfl rfl (hX10_area.at 73 rfl rfl) ?_
        refine os_iadd (hX10_area.at 74 rfl rfl) ?_
        refine os_iaload (hX10_area.at 75 rfl rfl) (fun x17 => ?_)
        exact os_iret (Nat.le_of_ble_eq_true rfl) (Nat.le_of_ble_eq_true rfl) (hX10_area.at 76 rfl rfl).1
    · refine os_aload_n (i := 0) (q := 0) (v := l0) 0 rfl rfl (hX10_area.at 77 rfl rfl) ?_
      refine os_getR fX10_16 (hX10_area.at 78 rfl rfl) (fun x18 => ?_)
      refine os_bipush (i := 53) (v := (53 : Int32)) rfl (hX10_area.at 79 rfl rfl) ?_
      refine os_iload_n (i := 1) (q := 1) (v := l1) 1 rfl rfl (hX10_area.at 80 rfl rfl) ?_
      refine os_iadd (hX10_area.at 81 rfl rfl) ?_
      refine os_iaload (hX10_area.at 82 rfl rfl) (fun x19 => ?_)
      refine os_iconst (i := (-1)) (v := (-1 : Int32)) rfl (hX10_area.at 83 rfl rfl) ?_
      refine os_icmp_ne (off := 7) (tgt := 180) rfl (hX10_area.at 84 rfl rfl) ?_ ?_
      · refine os_aload_n (i := 0) (q := 0) (v := l0) 0 rfl rfl (hX10_area.at 87 rfl rfl) ?_
        refine os_getR fX10_16 (hX10_area.at 88 rfl rfl) (fun x20 => ?_)
        refine os_bipush (i := 69) (v := (69 : Int32)) rfl (hX10_area.at 89 rfl rfl) ?_
        refine os_iload_n (i := 1) (q := 1) (v := l1) 1 rfl rfl (hX10_area.at 90 rfl rfl) ?_
        refine os_iadd (hX10_area.at 91 rfl rfl) ?_
        refine os_iaload (hX10_area.at 92 rfl rfl) (fun x21 => ?_)
        exact osW.sub [] rfl (sX10_area_189 N x21)
      · refine os_iconst (i := (-1)) (v := (-1 : Int32)) rfl (hX10_area.at 85 rfl rfl) ?_
        refine os_goto (off := 12) (tgt := 189) rfl (hX10_area.at 86 rfl rfl) ?_
        exact osW.sub [] rfl (sX10_area_189 N (-1 : Int32))
  · refine os_iconst (i := 0) (v := (0 : Int32)) rfl (hX10_area.at 17 rfl rfl) ?_
    exact os_iret (Nat.le_of_ble_eq_true rfl) (Nat.le_of_ble_eq_true rfl) (hX10_area.at 18 rfl rfl).1
set_option maxRecDepth 100000 in
set_option maxHeartbeats 4000000 in
theorem sX10_area (N : Nat) (l0 : Nat) (l1 : Int32) (l2 : Int32) : osMet yX10_area cX10_area 3 (some .int) 2 43 0 0 (fun r : Int32 => some (.int r)) [.ref l0, .int l1, .int l2] (qX10_area N l0 l1 l2) := by
  refine osMet.of plX10 (Nat.le_of_ble_eq_true rfl) (osW.rw (lv2 := [(0, .ref l0), (1, .int l1), (2, .int l2)]) ?_ rfl rfl rfl)
  unfold qX10_area
  refine os_aload_n (i := 0) (q := 0) (v := l0) 0 rfl rfl (hX10_area.at 0 rfl rfl) ?_
  refine os_aload_n (i := 0) (q := 0) (v := l0) 0 rfl rfl (hX10_area.at 1 rfl rfl) ?_
  refine os_iload_n (i := 1) (q := 1) (v := l1) 1 rfl rfl (hX10_area.at 2 rfl rfl) ?_
  refine os_callV (cis := [8]) (b := l0) (As := [.int l1]) (st := [.ref l0]) (st' := (fun r => .int r :: [.ref l0])) sl8_X10_isArea_X10_isArea mdX10_isArea wd2013 wd2015 (sX10_isArea N l0 l1) rfl rfl (fun _ => rfl) (Nat.le_of_ble_eq_true rfl) (Nat.le_of_ble_eq_true rfl) (Nat.le_of_ble_eq_true rfl) rfl (Nat.le_of_ble_eq_true rfl) rfl (Nat.le_of_ble_eq_true rfl) (hX10_area.at 3 rfl rfl) (fun x1 => ?_)
  refine os_if_ne (off := 7) (tgt := 13) rfl (hX10_area.at 4 rfl rfl) ?_ ?_
  · refine os_iload_n (i := 2) (q := 2) (v := l2) 2 rfl rfl (hX10_area.at 7 rfl rfl) ?_
    refine os_iconst (i := 0) (v := (0 : Int32)) rfl (hX10_area.at 8 rfl rfl) ?_
    refine os_bipush (i := 7) (v := (7 : Int32)) rfl (hX10_area.at 9 rfl rfl) ?_
    refine os_callS (As := [.int l2, .int (0 : Int32), .int (7 : Int32)]) (st := [.ref l0]) (st' := (fun r => .int r :: [.ref l0])) mdX10_in wd1770 wd1771 (sX10_in N l2 (0 : Int32) (7 : Int32)) rfl rfl (fun _ => rfl) (Nat.le_of_ble_eq_true rfl) (Nat.le_of_ble_eq_true rfl) (Nat.le_of_ble_eq_true rfl) rfl (Nat.le_of_ble_eq_true rfl) rfl (Nat.le_of_ble_eq_true rfl) (hX10_area.at 10 rfl rfl) (fun x2 => ?_)
    refine os_if_ne (off := 7) (tgt := 27) rfl (hX10_area.at 11 rfl rfl) ?_ ?_
    · refine os_iconst (i := 0) (v := (0 : Int32)) rfl (hX10_area.at 14 rfl rfl) ?_
      exact osW.sub [0, 1, 2] rfl (sX10_area_28 N l0 l1 l2 (0 : Int32) l0)
    · refine os_iconst (i := 2) (v := (2 : Int32)) rfl (hX10_area.at 12 rfl rfl) ?_
      refine os_goto (off := 4) (tgt := 28) rfl (hX10_area.at 13 rfl rfl) ?_
      exact osW.sub [0, 1, 2] rfl (sX10_area_28 N l0 l1 l2 (2 : Int32) l0)
  · refine os_iconst (i := 1) (v := (1 : Int32)) rfl (hX10_area.at 5 rfl rfl) ?_
    refine os_goto (off := 18) (tgt := 28) rfl (hX10_area.at 6 rfl rfl) ?_
    exact osW.sub [0, 1, 2] rfl (sX10_area_28 N l0 l1 l2 (1 : Int32) l0)
-- X10_named
def KX10_named : List (Nat × Nat × Instr) := [(0, 1, .aload_n 0), (1, 1, .iload_n 1), (2, 1, .iconst 1), (3, 1, .aload_n 0), (4, 3, .getfield 138), (7, 3, .invokestatic 95), (10, 3, .ifCond .eq 7), (13, 1, .iconst 0), (14, 3, .goto 4), (17, 1, .iconst 1), (18, 3, .invokevirtual 354), (21, 3, .ifCond .eq 5), (24, 1, .iconst 0), (25, 1, .ireturn), (26, 1, .lconst 0), (27, 1, .lstore_n 2), (28, 1, .iconst 0), (29, 2, .istore 4), (31, 2, .iload 4), (33, 1, .iload_n 1), (34, 3, .if_icmp .ge 59), (37, 2, .iload 4), (39, 1, .iconst 5), (40, 3, .if_icmp .ge 43), (43, 1, .aload_n 0), (44, 3, .getfield 32), (47, 2, .iload 4), (49, 1, .iaload), (50, 3, .invokestatic 171), (53, 3, .ifCond .eq 30), (56, 1, .lload_n 2), (57, 1, .lconst 0), (58, 1, .lcmp), (59, 3, .ifCond .lt 24), (62, 3, .ldc2_w 181), (65, 1, .lload_n 2), (66, 1, .lmul), (67, 1, .aload_n 0), (68, 3, .getfield 32), (71, 2, .iload 4), (73, 1, .iaload), (74, 1, .i2l), (75, 1, .ladd), (76, 3, .ldc2_w 183), (79, 1, .lsub), (80, 3, .goto 6), (83, 3, .ldc2_w 357), (86, 1, .lstore_n 2), (87, 3, .iinc 4 1), (90, 3, .goto (-59)), (93, 1, .aload_n 0), (94, 1, .iconst 0), (95, 3, .putfield 138), (98, 1, .aload_n 0), (99, 3, .getfield 25), (102, 1, .iconst 0), (103, 1, .aload_n 0), (104, 3, .getfield 7), (107, 1, .iconst 0), (108, 1, .iaload), (109, 1, .lload_n 2), (110, 3, .invokestatic 241), (113, 2, .istore 4), (115, 2, .iload 4), (117, 1, .iconst (-1)), (118, 3, .if_icmp .ne 11), (121, 1, .aload_n 0), (122, 1, .iconst 2), (123, 3, .invokevirtual 141), (126, 3, .goto 5), (129, 2, .iload 4), (131, 1, .ireturn)]
theorem hX10_named : osDs cX10_named KX10_named := by
  show ∀ q ∈ KX10_named, decode cX10_named q.1 = .ok (q.2.2, q.2.1)
  decide +kernel
def qX10_named_131 (N : Nat) (k0 : Int32) : osM Int32 := osret k0
def qX10_named_86 (N : Nat) (c31 : Nat × Int32 × Int64 × Int32 → osM Int32) (l0 : Nat) (l1 : Int32) (l4 : Int32) (k0 : Int64) : osM Int32 := c31 (l0, l1, k0, (l4 + (1 : Int32)))
def qX10_named_83 (N : Nat) (c31 : Nat × Int32 × Int64 × Int32 → osM Int32) (l0 : Nat) (l1 : Int32) (l4 : Int32) : osM Int32 := qX10_named_86 N c31 l0 l1 l4 (-1 : Int64)
def bX10_named_31 (N : Nat) (c31 : Nat × Int32 × Int64 × Int32 → osM Int32) (l0 : Nat) (l1 : Int32) (l2 : Int64) (l4 : Int32) : osM Int32 := osite (l1 ≤ l4) (osbind (osput [8] 10 l0 (.int (0 : Int32))) fun _ => osbind (osgR [8] 6 l0) fun x1 => osbind (osgR [8] 1 l0) fun x2 => osbind (osaI 0 x2 (0 : Int32)) fun x3 => osbind (qX10_numberOf N x1 (0 : Int32) x3 l2) fun x4 => osite (x4 = (-1 : Int32)) (osbind (osrecv [8] l0 (qX10_refuse N l0 (2 : Int32))) fun x5 => qX10_named_131 N x5) (qX10_named_131 N x4)) (osite ((5 : Int32) ≤ l4) (qX10_named_83 N c31 l0 l1 l4) (osbind (osgR [8] 9 l0) fun x6 => osbind (osaI 0 x6 l4) fun x7 => osbind (qX10_isLetter N x7) fun x8 => osite (x8 = 0) (qX10_named_83 N c31 l0 l1 l4) (osite ((lg_cmp l2 (0 : Int64)) < 0) (qX10_named_83 N c31 l0 l1 l4) (osbind (osgR [8] 9 l0) fun x9 => osbind (osaI 0 x9 l4) fun x10 => qX10_named_86 N c31 l0 l1 l4 ((((32 : Int64) * l2) + (x10.toInt64)) - (96 : Int64))))))
def qX10_named_31 (N : Nat) : Nat × Int32 × Int64 × Int32 → osM Int32 := osloop (fun ih p => bX10_named_31 N ih p.1 p.2.1 p.2.2.1 p.2.2.2) N
def qX10_named_18 (N : Nat) (l0 : Nat) (l1 : Int32) (k0 : Int32) (k1 : Nat) : osM Int32 := osbind (osrecv [8] k1 (qX10_isRefused N k1 k0)) fun x1 => osite (x1 = 0) (qX10_named_31 N (l0, l1, (0 : Int64), (0 : Int32))) (osret (0 : Int32))
def qX10_named (N : Nat) (l0 : Nat) (l1 : Int32) : osM Int32 := osbind (osgI [8] 10 l0) fun x1 => osbind (qX10_in N l1 (1 : Int32) x1) fun x2 => osite (x2 = 0) (qX10_named_18 N l0 l1 (1 : Int32) l0) (qX10_named_18 N l0 l1 (0 : Int32) l0)
set_option maxRecDepth 100000 in
set_option maxHeartbeats 4000000 in
theorem sX10_named_131 (N : Nat) (k0 : Int32) : osW (osFinM (fun r : Int32 => some (.int r)) 0 0) yX10_named cX10_named 5 (some .int) [] { frames := 2, cells := 0, slots := 0, locals := 42 } 0 0 131 [] [.int k0] (qX10_named_131 N k0) := by
  unfold qX10_named_131
  exact os_iret (Nat.le_of_ble_eq_true rfl) (Nat.le_of_ble_eq_true rfl) (hX10_named.at 71 rfl rfl).1
set_option maxRecDepth 100000 in
set_option maxHeartbeats 4000000 in
theorem sX10_named_86 (N : Nat) (c31 : Nat × Int32 × Int64 × Int32 → osM Int32) (g31 : ∀ (l0 : Nat) (l1 : Int32) (l2 : Int64) (l4 : Int32), osW (osFinM (fun r : Int32 => some (.int r)) 0 0) yX10_named cX10_named 5 (some .int) [] { frames := 2, cells := 0, slots := 0, locals := 42 } 0 0 31 [(0, .ref l0), (1, .int l1), (2, .long l2), (4, .int l4)] [] (c31 (l0, l1, l2, l4))) (l0 : Nat) (l1 : Int32) (l4 : Int32) (k0 : Int64) : osW (osFinM (fun r : Int32 => some (.int r)) 0 0) yX10_named cX10_named 5 (some .int) [] { frames := 2, cells := 0, slots := 0, locals := 42 } 0 0 86 [(0, .ref l0), (1, .int l1), (4, .int l4)] [.long k0] (qX10_named_86 N c31 l0 l1 l4 k0) := by
  unfold qX10_named_86
  refine os_lstore_n (i := 2) (q := 2) rfl (lv' := [(2, .long k0), (0, .ref l0), (1, .int l1), (4, .int l4)]) (Nat.le_of_ble_eq_true rfl) rfl (hX10_named.at 47 rfl rfl) ?_
  refine os_iinc (i := 4) (d := 1) (x := l4) (v := (1 : Int32)) (lv' := [(4, .int (l4 + (1 : Int32))), (2, .long k0), (0, .ref l0), (1, .int l1)]) 3 rfl rfl (Nat.le_of_ble_eq_true rfl) rfl (hX10_named.at 48 rfl rfl) ?_
  refine os_goto (off := (-59)) (tgt := 31) rfl (hX10_named.at 49 rfl rfl) ?_
  exact osW.sub [2, 3, 1, 0] rfl (g31 l0 l1 k0 (l4 + (1 : Int32)))
set_option maxRecDepth 100000 in
set_option maxHeartbeats 4000000 in
theorem sX10_named_83 (N : Nat) (c31 : Nat × Int32 × Int64 × Int32 → osM Int32) (g31 : ∀ (l0 : Nat) (l1 : Int32) (l2 : Int64) (l4 : Int32), osW (osFinM (fun r : Int32 => some (.int r)) 0 0) yX10_named cX10_named 5 (some .int) [] { frames := 2, cells := 0, slots := 0, locals := 42 } 0 0 31 [(0, .ref l0), (1, .int l1), (2, .long l2), (4, .int l4)] [] (c31 (l0, l1, l2, l4))) (l0 : Nat) (l1 : Int32) (l4 : Int32) : osW (osFinM (fun r : Int32 => some (.int r)) 0 0) yX10_named cX10_named 5 (some .int) [] { frames := 2, cells := 0, slots := 0, locals := 42 } 0 0 83 [(0, .ref l0), (1, .int l1), (4, .int l4)] [] (qX10_named_83 N c31 l0 l1 l4) := by
  unfold qX10_named_83
  refine os_ldc2 (v := (-1 : Int64)) wd2025 (hX10_named.at 46 rfl rfl) ?_
  exact osW.sub [0, 1, 2] rfl (sX10_named_86 N c31 g31 l0 l1 l4 (-1 : Int64))
set_option maxRecDepth 100000 in
set_option maxHeartbeats 4000000 in
theorem tX10_named_31 (N : Nat) (c31 : Nat × Int32 × Int64 × Int32 → osM Int32) (g31 : ∀ (l0 : Nat) (l1 : Int32) (l2 : Int64) (l4 : Int32), osW (osFinM (fun r : Int32 => some (.int r)) 0 0) yX10_named cX10_named 5 (some .int) [] { frames := 2, cells := 0, slots := 0, locals := 42 } 0 0 31 [(0, .ref l0), (1, .int l1), (2, .long l2), (4, .int l4)] [] (c31 (l0, l1, l2, l4))) (l0 : Nat) (l1 : Int32) (l2 : Int64) (l4 : Int32) : osW (osFinM (fun r : Int32 => some (.int r)) 0 0) yX10_named cX10_named 5 (some .int) [] { frames := 2, cells := 0, slots := 0, locals := 42 } 0 0 31 [(0, .ref l0), (1, .int l1), (2, .long l2), (4, .int l4)] [] (bX10_named_31 N c31 l0 l1 l2 l4) := by
  unfold bX10_named_31
  refine os_iload (v := l4) 3 rfl (hX10_named.at 18 rfl rfl) ?_
  refine os_iload_n (i := 1) (q := 1) (v := l1) 1 rfl rfl (hX10_named.at 19 rfl rfl) ?_
  refine os_icmp_ge (off := 59) (tgt := 93) rfl (hX10_named.at 20 rfl rfl) ?_ ?_
  · refine os_aload_n (i := 0) (q := 0) (v := l0) 0 rfl rfl (hX10_named.at 50 rfl rfl) ?_
    refine os_iconst (i := 0) (v := (0 : Int32)) rfl (hX10_named.at 51 rfl rfl) ?_
    refine os_put fX10_138 rfl rfl (hX10_named.at 52 rfl rfl) ?_
    refine os_aload_n (i := 0) (q := 0) (v := l0) 0 rfl rfl (hX10_named.at 53 rfl rfl) ?_
    refine os_getR fX10_25 (hX10_named.at 54 rfl rfl) (fun x1 => ?_)
    refine os_iconst (i := 0) (v := (0 : Int32)) rfl (hX10_named.at 55 rfl rfl) ?_
    refine os_aload_n (i := 0) (q := 0) (v := l0) 0 rfl rfl (hX10_named.at 56 rfl rfl) ?_
    refine os_getR fX10_7 (hX10_named.at 57 rfl rfl) (fun x2 => ?_)
    refine os_iconst (i := 0) (v := (0 : Int32)) rfl (hX10_named.at 58 rfl rfl) ?_
    refine os_iaload (hX10_named.at 59 rfl rfl) (fun x3 => ?_)
    refine os_lload_n (i := 2) (q := 2) (v := l2) 2 rfl rfl (hX10_named.at 60 rfl rfl) ?_
    refine os_callS (As := [.ref x1, .int (0 : Int32), .int x3, .long l2]) (st := []) (st' := (fun r => .int r :: [])) mdX10_numberOf wd1837 wd1838 (sX10_numberOf N x1 (0 : Int32) x3 l2) rfl rfl (fun _ => rfl) (Nat.le_of_ble_eq_true rfl) (Nat.le_of_ble_eq_true rfl) (Nat.le_of_ble_eq_true rfl) rfl (Nat.le_of_ble_eq_true rfl) rfl (Nat.le_of_ble_eq_true rfl) (hX10_named.at 61 rfl rfl) (fun x4 => ?_)
    refine os_istore (i := 4) (lv' := [(4, .int x4), (0, .ref l0), (1, .int l1), (2, .long l2)]) (Nat.le_of_ble_eq_true rfl) rfl (hX10_named.at 62 rfl rfl) ?_
    refine os_iload (v := x4) 0 rfl (hX10_named.at 63 rfl rfl) ?_
    refine os_iconst (i := (-1)) (v := (-1 : Int32)) rfl (hX10_named.at 64 rfl rfl) ?_
    refine os_icmp_ne (off := 11) (tgt := 129) rfl (hX10_named.at 65 rfl rfl) ?_ ?_
    · refine os_iload (v := x4) 0 rfl (hX10_named.at 70 rfl rfl) ?_
      exact osW.sub [] rfl (sX10_named_131 N x4)
    · refine os_aload_n (i := 0) (q := 0) (v := l0) 1 rfl rfl (hX10_named.at 66 rfl rfl) ?_
      refine os_iconst (i := 2) (v := (2 : Int32)) rfl (hX10_named.at 67 rfl rfl) ?_
      refine os_callV (cis := [8]) (b := l0) (As := [.int (2 : Int32)]) (st := []) (st' := (fun r => .int r :: [])) sl8_X10_refuse_X10_refuse mdX10_refuse wd1742 wd1744 (sX10_refuse N l0 (2 : Int32)) rfl rfl (fun _ => rfl) (Nat.le_of_ble_eq_true rfl) (Nat.le_of_ble_eq_true rfl) (Nat.le_of_ble_eq_true rfl) rfl (Nat.le_of_ble_eq_true rfl) rfl (Nat.le_of_ble_eq_true rfl) (hX10_named.at 68 rfl rfl) (fun x5 => ?_)
      refine os_goto (off := 5) (tgt := 131) rfl (hX10_named.at 69 rfl rfl) ?_
      exact osW.sub [] rfl (sX10_named_131 N x5)
  · refine os_iload (v := l4) 3 rfl (hX10_named.at 21 rfl rfl) ?_
    refine os_iconst (i := 5) (v := (5 : Int32)) rfl (hX10_named.at 22 rfl rfl) ?_
    refine os_icmp_ge (off := 43) (tgt := 83) rfl (hX10_named.at 23 rfl rfl) ?_ ?_
    · exact osW.sub [0, 1, 3] rfl (sX10_named_83 N c31 g31 l0 l1 l4)
    · refine os_aload_n (i := 0) (q := 0) (v := l0) 0 rfl rfl (hX10_named.at 24 rfl rfl) ?_
      refine os_getR fX10_32 (hX10_named.at 25 rfl rfl) (fun x6 => ?_)
      refine os_iload (v := l4) 3 rfl (hX10_named.at 26 rfl rfl) ?_
      refine os_iaload (hX10_named.at 27 rfl rfl) (fun x7 => ?_)
      refine os_callS (As := [.int x7]) (st := []) (st' := (fun r => .int r :: [])) mdX10_isLetter wd1797 wd1798 (sX10_isLetter N x7) rfl rfl (fun _ => rfl) (Nat.le_of_ble_eq_true rfl) (Nat.le_of_ble_eq_true rfl) (Nat.le_of_ble_eq_true rfl) rfl (Nat.le_of_ble_eq_true rfl) rfl (Nat.le_of_ble_eq_true rfl) (hX10_named.at 28 rfl rfl) (fun x8 => ?_)
      refine os_if_eq (off := 30) (tgt := 83) rfl (hX10_named.at 29 rfl rfl) ?_ ?_
      · exact osW.sub [0, 1, 3] rfl (sX10_named_83 N c31 g31 l0 l1 l4)
      · refine os_lload_n (i := 2) (q := 2) (v := l2) 2 rfl rfl (hX10_named.at 30 rfl rfl) ?_
        refine os_lconst (i := 0) (v := 0) rfl (hX10_named.at 31 rfl rfl) ?_
        refine os_lcmp (hX10_named.at 32 rfl rfl) ?_
        refine os_if_lt (off := 24) (tgt := 83) rfl (hX10_named.at 33 rfl rfl) ?_ ?_
        · exact osW.sub [0, 1, 3] rfl (sX10_named_83 N c31 g31 l0 l1 l4)
        · refine os_ldc2 (v := (32 : Int64)) wd1800 (hX10_named.at 34 rfl rfl) ?_
          refine os_lload_n (i := 2) (q := 2) (v := l2) 2 rfl rfl (hX10_named.at 35 rfl rfl) ?_
          refine os_lmul (hX10_named.at 36 rfl rfl) ?_
          refine os_aload_n (i := 0) (q := 0) (v := l0) 0 rfl rfl (hX10_named.at 37 rfl rfl) ?_
          refine os_getR fX10_32 (hX10_named.at 38 rfl rfl) (fun x9 => ?_)
          refine os_iload (v := l4) 3 rfl (hX10_named.at 39 rfl rfl) ?_
          refine os_iaload (hX10_named.at 40 rfl rfl) (fun x10 => ?_)
          refine os_i2l (hX10_named.at 41 rfl rfl) ?_
          refine os_ladd (hX10_named.at 42 rfl rfl) ?_
          refine os_ldc2 (v := (96 : Int64)) wd1801 (hX10_named.at 43 rfl rfl) ?_
          refine os_lsub (hX10_named.at 44 rfl rfl) ?_
          refine os_goto (off := 6) (tgt := 86) rfl (hX10_named.at 45 rfl rfl) ?_
          exact osW.sub [0, 1, 3] rfl (sX10_named_86 N c31 g31 l0 l1 l4 ((((32 : Int64) * l2) + (x10.toInt64)) - (96 : Int64)))
set_option maxRecDepth 100000 in
set_option maxHeartbeats 4000000 in
theorem sX10_named_31 (N : Nat) (l0 : Nat) (l1 : Int32) (l2 : Int64) (l4 : Int32) : osW (osFinM (fun r : Int32 => some (.int r)) 0 0) yX10_named cX10_named 5 (some .int) [] { frames := 2, cells := 0, slots := 0, locals := 42 } 0 0 31 [(0, .ref l0), (1, .int l1), (2, .long l2), (4, .int l4)] [] (qX10_named_31 N (l0, l1, l2, l4)) :=
  osloop_W (lvf := fun p => [(0, .ref p.1), (1, .int p.2.1), (2, .long p.2.2.1), (4, .int p.2.2.2)]) (stf := fun p => []) (fun ih g p => tX10_named_31 N ih (fun l0 l1 l2 l4 => g (l0, l1, l2, l4)) p.1 p.2.1 p.2.2.1 p.2.2.2) N (l0, l1, l2, l4)
set_option maxRecDepth 100000 in
set_option maxHeartbeats 4000000 in
theorem sX10_named_18 (N : Nat) (l0 : Nat) (l1 : Int32) (k0 : Int32) (k1 : Nat) : osW (osFinM (fun r : Int32 => some (.int r)) 0 0) yX10_named cX10_named 5 (some .int) [] { frames := 2, cells := 0, slots := 0, locals := 42 } 0 0 18 [(0, .ref l0), (1, .int l1)] [.int k0, .ref k1] (qX10_named_18 N l0 l1 k0 k1) := by
  unfold qX10_named_18
  refine os_callV (cis := [8]) (b := k1) (As := [.int k0]) (st := []) (st' := (fun r => .int r :: [])) sl8_X10_isRefused_X10_isRefused mdX10_isRefused wd2017 wd2019 (sX10_isRefused N k1 k0) rfl rfl (fun _ => rfl) (Nat.le_of_ble_eq_true rfl) (Nat.le_of_ble_eq_true rfl) (Nat.le_of_ble_eq_true rfl) rfl (Nat.le_of_ble_eq_true rfl) rfl (Nat.le_of_ble_eq_true rfl) (hX10_named.at 10 rfl rfl) (fun x1 => ?_)
  refine os_if_eq (off := 5) (tgt := 26) rfl (hX10_named.at 11 rfl rfl) ?_ ?_
  · refine os_lconst (i := 0) (v := 0) rfl (hX10_named.at 14 rfl rfl) ?_
    refine os_lstore_n (i := 2) (q := 2) rfl (lv' := [(2, .long (0 : Int64)), (0, .ref l0), (1, .int l1)]) (Nat.le_of_ble_eq_true rfl) rfl (hX10_named.at 15 rfl rfl) ?_
    refine os_iconst (i := 0) (v := (0 : Int32)) rfl (hX10_named.at 16 rfl rfl) ?_
    refine os_istore (i := 4) (lv' := [(4, .int (0 : Int32)), (2, .long (0 : Int64)), (0, .ref l0), (1, .int l1)]) (Nat.le_of_ble_eq_true rfl) rfl (hX10_named.at 17 rfl rfl) ?_
    exact osW.sub [2, 3, 1, 0] rfl (sX10_named_31 N l0 l1 (0 : Int64) (0 : Int32))
  · refine os_iconst (i := 0) (v := (0 : Int32)) rfl (hX10_named.at 12 rfl rfl) ?_
    exact os_iret (Nat.le_of_ble_eq_true rfl) (Nat.le_of_ble_eq_true rfl) (hX10_named.at 13 rfl rfl).1
set_option maxRecDepth 100000 in
set_option maxHeartbeats 4000000 in
theorem sX10_named (N : Nat) (l0 : Nat) (l1 : Int32) : osMet yX10_named cX10_named 5 (some .int) 2 42 0 0 (fun r : Int32 => some (.int r)) [.ref l0, .int l1] (qX10_named N l0 l1) := by
  refine osMet.of plX10 (Nat.le_of_ble_eq_true rfl) (osW.rw (lv2 := [(0, .ref l0), (1, .int l1)]) ?_ rfl rfl rfl)
  unfold qX10_named
  refine os_aload_n (i := 0) (q := 0) (v := l0) 0 rfl rfl (hX10_named.at 0 rfl rfl) ?_
  refine os_iload_n (i := 1) (q := 1) (v := l1) 1 rfl rfl (hX10_named.at 1 rfl rfl) ?_
  refine os_iconst (i := 1) (v := (1 : Int32)) rfl (hX10_named.at 2 rfl rfl) ?_
  refine os_aload_n (i := 0) (q := 0) (v := l0) 0 rfl rfl (hX10_named.at 3 rfl rfl) ?_
  refine os_getI fX10_138 (hX10_named.at 4 rfl rfl) (fun x1 => ?_)
  refine os_callS (As := [.int l1, .int (1 : Int32), .int x1]) (st := [.ref l0]) (st' := (fun r => .int r :: [.ref l0])) mdX10_in wd1770 wd1771 (sX10_in N l1 (1 : Int32) x1) rfl rfl (fun _ => rfl) (Nat.le_of_ble_eq_true rfl) (Nat.le_of_ble_eq_true rfl) (Nat.le_of_ble_eq_true rfl) rfl (Nat.le_of_ble_eq_true rfl) rfl (Nat.le_of_ble_eq_true rfl) (hX10_named.at 5 rfl rfl) (fun x2 => ?_)
  refine os_if_eq (off := 7) (tgt := 17) rfl (hX10_named.at 6 rfl rfl) ?_ ?_
  · refine os_iconst (i := 1) (v := (1 : Int32)) rfl (hX10_named.at 9 rfl rfl) ?_
    exact osW.sub [0, 1] rfl (sX10_named_18 N l0 l1 (1 : Int32) l0)
  · refine os_iconst (i := 0) (v := (0 : Int32)) rfl (hX10_named.at 7 rfl rfl) ?_
    refine os_goto (off := 4) (tgt := 18) rfl (hX10_named.at 8 rfl rfl) ?_
    exact osW.sub [0, 1] rfl (sX10_named_18 N l0 l1 (0 : Int32) l0)
-- X10_passes_
def KX10_passes_ : List (Nat × Nat × Instr) := [(0, 1, .aload_n 0), (1, 1, .aload_n 0), (2, 1, .iload_n 1), (3, 3, .invokevirtual 99), (6, 3, .ifCond .eq 15), (9, 1, .aload_n 0), (10, 1, .iload_n 2), (11, 3, .invokevirtual 99), (14, 3, .ifCond .eq 7), (17, 1, .iconst 0), (18, 3, .goto 4), (21, 1, .iconst 1), (22, 3, .putfield 82), (25, 1, .aload_n 0), (26, 3, .getfield 82), (29, 3, .ifCond .ne 25), (32, 1, .aload_n 0), (33, 1, .iload_n 1), (34, 1, .iload_n 2), (35, 1, .iload_n 3), (36, 3, .ifCond .eq 7), (39, 1, .iconst 1), (40, 3, .goto 4), (43, 1, .iconst 0), (44, 3, .invokevirtual 115), (47, 3, .ifCond .eq 7), (50, 1, .iconst 1), (51, 3, .goto 4), (54, 1, .iconst 0), (55, 1, .ireturn)]
theorem hX10_passes_ : osDs cX10_passes_ KX10_passes_ := by
  show ∀ q ∈ KX10_passes_, decode cX10_passes_ q.1 = .ok (q.2.2, q.2.1)
  decide +kernel
def qX10_passes__55 (N : Nat) (k0 : Int32) : osM Int32 := osretZ k0
def qX10_passes__54 (N : Nat) : osM Int32 := qX10_passes__55 N (0 : Int32)
def qX10_passes__44 (N : Nat) (k0 : Int32) (k1 : Int32) (k2 : Int32) (k3 : Nat) : osM Int32 := osbind (osrecv [8] k3 (qX10_canGo N k3 k2 k1 k0)) fun x1 => osite (x1 = 0) (qX10_passes__54 N ) (qX10_passes__55 N (1 : Int32))
def qX10_passes__22 (N : Nat) (l0 : Nat) (l1 : Int32) (l2 : Int32) (l3 : Int32) (k0 : Int32) (k1 : Nat) : osM Int32 := osbind (osput [8] 0 k1 (.int k0)) fun _ => osbind (osgI [8] 0 l0) fun x1 => osite (x1 = 0) (osite (l3 = 0) (qX10_passes__44 N (0 : Int32) l2 l1 l0) (qX10_passes__44 N (1 : Int32) l2 l1 l0)) (qX10_passes__54 N )
def qX10_passes__21 (N : Nat) (l0 : Nat) (l1 : Int32) (l2 : Int32) (l3 : Int32) (k0 : Nat) : osM Int32 := qX10_passes__22 N l0 l1 l2 l3 (1 : Int32) k0
def qX10_passes_ (N : Nat) (l0 : Nat) (l1 : Int32) (l2 : Int32) (l3 : Int32) : osM Int32 := osbind (osrecv [8] l0 (qX10_isArea N l0 l1)) fun x1 => osite (x1 = 0) (qX10_passes__21 N l0 l1 l2 l3 l0) (osbind (osrecv [8] l0 (qX10_isArea N l0 l2)) fun x2 => osite (x2 = 0) (qX10_passes__21 N l0 l1 l2 l3 l0) (qX10_passes__22 N l0 l1 l2 l3 (0 : Int32) l0))
set_option maxRecDepth 100000 in
set_option maxHeartbeats 4000000 in
theorem sX10_passes__55 (N : Nat) (k0 : Int32) : osW (osFinM (fun r : Int32 => some (.int r)) 0 0) yX10_passes_ cX10_passes_ 4 (some .boolean) [] { frames := 2, cells := 0, slots := 0, locals := 45 } 0 0 55 [] [.int k0] (qX10_passes__55 N k0) := by
  unfold qX10_passes__55
  exact os_zret (Nat.le_of_ble_eq_true rfl) (Nat.le_of_ble_eq_true rfl) (hX10_passes_.at 29 rfl rfl).1
set_option maxRecDepth 100000 in
set_option maxHeartbeats 4000000 in
theorem sX10_passes__54 (N : Nat) : osW (osFinM (fun r : Int32 => some (.int r)) 0 0) yX10_passes_ cX10_passes_ 4 (some .boolean) [] { frames := 2, cells := 0, slots := 0, locals := 45 } 0 0 54 [] [] (qX10_passes__54 N) := by
  unfold qX10_passes__54
  refine os_iconst (i := 0) (v := (0 : Int32)) rfl (hX10_passes_.at 28 rfl rfl) ?_
  exact osW.sub [] rfl (sX10_passes__55 N (0 : Int32))
set_option maxRecDepth 100000 in
set_option maxHeartbeats 4000000 in
theorem sX10_passes__44 (N : Nat) (k0 : Int32) (k1 : Int32) (k2 : Int32) (k3 : Nat) : osW (osFinM (fun r : Int32 => some (.int r)) 0 0) yX10_passes_ cX10_passes_ 4 (some .boolean) [] { frames := 2, cells := 0, slots := 0, locals := 45 } 0 0 44 [] [.int k0, .int k1, .int k2, .ref k3] (qX10_passes__44 N k0 k1 k2 k3) := by
  unfold qX10_passes__44
  refine os_callV (cis := [8]) (b := k3) (As := [.int k2, .int k1, .int k0]) (st := []) (st' := (fun r => .int r :: [])) sl8_X10_canGo_X10_canGo mdX10_canGo wd1930 wd1932 (sX10_canGo N k3 k2 k1 k0) rfl rfl (fun _ => rfl) (Nat.le_of_ble_eq_true rfl) (Nat.le_of_ble_eq_true rfl) (Nat.le_of_ble_eq_true rfl) rfl (Nat.le_of_ble_eq_true rfl) rfl (Nat.le_of_ble_eq_true rfl) (hX10_passes_.at 24 rfl rfl) (fun x1 => ?_)
  refine os_if_eq (off := 7) (tgt := 54) rfl (hX10_passes_.at 25 rfl rfl) ?_ ?_
  · exact osW.sub [] rfl (sX10_passes__54 N )
  · refine os_iconst (i := 1) (v := (1 : Int32)) rfl (hX10_passes_.at 26 rfl rfl) ?_
    refine os_goto (off := 4) (tgt := 55) rfl (hX10_passes_.at 27 rfl rfl) ?_
    exact osW.sub [] rfl (sX10_passes__55 N (1 : Int32))
set_option maxRecDepth 100000 in
set_option maxHeartbeats 4000000 in
theorem sX10_passes__22 (N : Nat) (l0 : Nat) (l1 : Int32) (l2 : Int32) (l3 : Int32) (k0 : Int32) (k1 : Nat) : osW (osFinM (fun r : Int32 => some (.int r)) 0 0) yX10_passes_ cX10_passes_ 4 (some .boolean) [] { frames := 2, cells := 0, slots := 0, locals := 45 } 0 0 22 [(0, .ref l0), (1, .int l1), (2, .int l2), (3, .int l3)] [.int k0, .ref k1] (qX10_passes__22 N l0 l1 l2 l3 k0 k1) := by
  unfold qX10_passes__22
  refine os_put fX10_82 rfl rfl (hX10_passes_.at 12 rfl rfl) ?_
  refine os_aload_n (i := 0) (q := 0) (v := l0) 0 rfl rfl (hX10_passes_.at 13 rfl rfl) ?_
  refine os_getI fX10_82 (hX10_passes_.at 14 rfl rfl) (fun x1 => ?_)
  refine os_if_ne (off := 25) (tgt := 54) rfl (hX10_passes_.at 15 rfl rfl) ?_ ?_
  · exact osW.sub [] rfl (sX10_passes__54 N )
  · refine os_aload_n (i := 0) (q := 0) (v := l0) 0 rfl rfl (hX10_passes_.at 16 rfl rfl) ?_
    refine os_iload_n (i := 1) (q := 1) (v := l1) 1 rfl rfl (hX10_passes_.at 17 rfl rfl) ?_
    refine os_iload_n (i := 2) (q := 2) (v := l2) 2 rfl rfl (hX10_passes_.at 18 rfl rfl) ?_
    refine os_iload_n (i := 3) (q := 3) (v := l3) 3 rfl rfl (hX10_passes_.at 19 rfl rfl) ?_
    refine os_if_eq (off := 7) (tgt := 43) rfl (hX10_passes_.at 20 rfl rfl) ?_ ?_
    · refine os_iconst (i := 0) (v := (0 : Int32)) rfl (hX10_passes_.at 23 rfl rfl) ?_
      exact osW.sub [] rfl (sX10_passes__44 N (0 : Int32) l2 l1 l0)
    · refine os_iconst (i := 1) (v := (1 : Int32)) rfl (hX10_passes_.at 21 rfl rfl) ?_
      refine os_goto (off := 4) (tgt := 44) rfl (hX10_passes_.at 22 rfl rfl) ?_
      exact osW.sub [] rfl (sX10_passes__44 N (1 : Int32) l2 l1 l0)
set_option maxRecDepth 100000 in
set_option maxHeartbeats 4000000 in
theorem sX10_passes__21 (N : Nat) (l0 : Nat) (l1 : Int32) (l2 : Int32) (l3 : Int32) (k0 : Nat) : osW (osFinM (fun r : Int32 => some (.int r)) 0 0) yX10_passes_ cX10_passes_ 4 (some .boolean) [] { frames := 2, cells := 0, slots := 0, locals := 45 } 0 0 21 [(0, .ref l0), (1, .int l1), (2, .int l2), (3, .int l3)] [.ref k0] (qX10_passes__21 N l0 l1 l2 l3 k0) := by
  unfold qX10_passes__21
  refine os_iconst (i := 1) (v := (1 : Int32)) rfl (hX10_passes_.at 11 rfl rfl) ?_
  exact osW.sub [0, 1, 2, 3] rfl (sX10_passes__22 N l0 l1 l2 l3 (1 : Int32) k0)
set_option maxRecDepth 100000 in
set_option maxHeartbeats 4000000 in
theorem sX10_passes_ (N : Nat) (l0 : Nat) (l1 : Int32) (l2 : Int32) (l3 : Int32) : osMet yX10_passes_ cX10_passes_ 4 (some .boolean) 2 45 0 0 (fun r : Int32 => some (.int r)) [.ref l0, .int l1, .int l2, .int l3] (qX10_passes_ N l0 l1 l2 l3) := by
  refine osMet.of plX10 (Nat.le_of_ble_eq_true rfl) (osW.rw (lv2 := [(0, .ref l0), (1, .int l1), (2, .int l2), (3, .int l3)]) ?_ rfl rfl rfl)
  unfold qX10_passes_
  refine os_aload_n (i := 0) (q := 0) (v := l0) 0 rfl rfl (hX10_passes_.at 0 rfl rfl) ?_
  refine os_aload_n (i := 0) (q := 0) (v := l0) 0 rfl rfl (hX10_passes_.at 1 rfl rfl) ?_
  refine os_iload_n (i := 1) (q := 1) (v := l1) 1 rfl rfl (hX10_passes_.at 2 rfl rfl) ?_
  refine os_callV (cis := [8]) (b := l0) (As := [.int l1]) (st := [.ref l0]) (st' := (fun r => .int r :: [.ref l0])) sl8_X10_isArea_X10_isArea mdX10_isArea wd2013 wd2015 (sX10_isArea N l0 l1) rfl rfl (fun _ => rfl) (Nat.le_of_ble_eq_true rfl) (Nat.le_of_ble_eq_true rfl) (Nat.le_of_ble_eq_true rfl) rfl (Nat.le_of_ble_eq_true rfl) rfl (Nat.le_of_ble_eq_true rfl) (hX10_passes_.at 3 rfl rfl) (fun x1 => ?_)
  refine os_if_eq (off := 15) (tgt := 21) rfl (hX10_passes_.at 4 rfl rfl) ?_ ?_
  · exact osW.sub [0, 1, 2, 3] rfl (sX10_passes__21 N l0 l1 l2 l3 l0)
  · refine os_aload_n (i := 0) (q := 0) (v := l0) 0 rfl rfl (hX10_passes_.at 5 rfl rfl) ?_
    refine os_iload_n (i := 2) (q := 2) (v := l2) 2 rfl rfl (hX10_passes_.at 6 rfl rfl) ?_
    refine os_callV (cis := [8]) (b := l0) (As := [.int l2]) (st := [.ref l0]) (st' := (fun r => .int r :: [.ref l0])) sl8_X10_isArea_X10_isArea mdX10_isArea wd2013 wd2015 (sX10_isArea N l0 l2) rfl rfl (fun _ => rfl) (Nat.le_of_ble_eq_true rfl) (Nat.le_of_ble_eq_true rfl) (Nat.le_of_ble_eq_true rfl) rfl (Nat.le_of_ble_eq_true rfl) rfl (Nat.le_of_ble_eq_true rfl) (hX10_passes_.at 7 rfl rfl) (fun x2 => ?_)
    refine os_if_eq (off := 7) (tgt := 21) rfl (hX10_passes_.at 8 rfl rfl) ?_ ?_
    · exact osW.sub [0, 1, 2, 3] rfl (sX10_passes__21 N l0 l1 l2 l3 l0)
    · refine os_iconst (i := 0) (v := (0 : Int32)) rfl (hX10_passes_.at 9 rfl rfl) ?_
      refine os_goto (off := 4) (tgt := 22) rfl (hX10_passes_.at 10 rfl rfl) ?_
      exact osW.sub [0, 1, 2, 3] rfl (sX10_passes__22 N l0 l1 l2 l3 (0 : Int32) l0)
-- X10_widened
def KX10_widened : List (Nat × Nat × Instr) := [(0, 1, .iload_n 1), (1, 1, .istore_n 3), (2, 1, .iconst 0), (3, 2, .istore 4), (5, 2, .iload 4), (7, 1, .aload_n 0), (8, 3, .getfield 7), (11, 1, .iconst 0), (12, 1, .iaload), (13, 3, .if_icmp .ge 32), (16, 1, .iload_n 1), (17, 2, .iload 4), (19, 3, .invokestatic 111), (22, 3, .ifCond .eq 15), (25, 1, .iload_n 3), (26, 1, .aload_n 0), (27, 2, .iload 4), (29, 1, .iload_n 2), (30, 3, .invokevirtual 107), (33, 1, .ior), (34, 3, .goto 4), (37, 1, .iload_n 3), (38, 1, .istore_n 3), (39, 3, .iinc 4 1), (42, 3, .goto (-37)), (45, 1, .iload_n 3), (46, 1, .ireturn)]
theorem hX10_widened : osDs cX10_widened KX10_widened := by
  show ∀ q ∈ KX10_widened, decode cX10_widened q.1 = .ok (q.2.2, q.2.1)
  decide +kernel
def qX10_widened_38 (N : Nat) (c5 : Nat × Int32 × Int32 × Int32 × Int32 → osM Int32) (l0 : Nat) (l1 : Int32) (l2 : Int32) (l4 : Int32) (k0 : Int32) : osM Int32 := c5 (l0, l1, l2, k0, (l4 + (1 : Int32)))
def bX10_widened_5 (N : Nat) (c5 : Nat × Int32 × Int32 × Int32 × Int32 → osM Int32) (l0 : Nat) (l1 : Int32) (l2 : Int32) (l3 : Int32) (l4 : Int32) : osM Int32 := osbind (osgR [8] 1 l0) fun x1 => osbind (osaI 0 x1 (0 : Int32)) fun x2 => osite (x2 ≤ l4) (osret l3) (osbind (qX10_has N l1 l4) fun x3 => osite (x3 = 0) (qX10_widened_38 N c5 l0 l1 l2 l4 l3) (osbind (osrecv [8] l0 (qX10_passing N l0 l4 l2)) fun x4 => qX10_widened_38 N c5 l0 l1 l2 l4 (l3 ||| x4)))
def qX10_widened_5 (N : Nat) : Nat × Int32 × Int32 × Int32 × Int32 → osM Int32 := osloop (fun ih p => bX10_widened_5 N ih p.1 p.2.1 p.2.2.1 p.2.2.2.1 p.2.2.2.2) N
def qX10_widened (N : Nat) (l0 : Nat) (l1 : Int32) (l2 : Int32) : osM Int32 := qX10_widened_5 N (l0, l1, l2, l1, (0 : Int32))
set_option maxRecDepth 100000 in
set_option maxHeartbeats 4000000 in
theorem sX10_widened_38 (N : Nat) (c5 : Nat × Int32 × Int32 × Int32 × Int32 → osM Int32) (g5 : ∀ (l0 : Nat) (l1 : Int32) (l2 : Int32) (l3 : Int32) (l4 : Int32), osW (osFinM (fun r : Int32 => some (.int r)) 0 0) yX10_widened cX10_widened 5 (some .int) [] { frames := 1, cells := 0, slots := 0, locals := 22 } 0 0 5 [(0, .ref l0), (1, .int l1), (2, .int l2), (3, .int l3), (4, .int l4)] [] (c5 (l0, l1, l2, l3, l4))) (l0 : Nat) (l1 : Int32) (l2 : Int32) (l4 : Int32) (k0 : Int32) : osW (osFinM (fun r : Int32 => some (.int r)) 0 0) yX10_widened cX10_widened 5 (some .int) [] { frames := 1, cells := 0, slots := 0, locals := 22 } 0 0 38 [(0, .ref l0), (1, .int l1), (2, .int l2), (4, .int l4)] [.int k0] (qX10_widened_38 N c5 l0 l1 l2 l4 k0) := by
  unfold qX10_widened_38
  refine os_istore_n (i := 3) (q := 3) rfl (lv' := [(3, .int k0), (0, .ref l0), (1, .int l1), (2, .int l2), (4, .int l4)]) (Nat.le_of_ble_eq_true rfl) rfl (hX10_widened.at 22 rfl rfl) ?_
  refine os_iinc (i := 4) (d := 1) (x := l4) (v := (1 : Int32)) (lv' := [(4, .int (l4 + (1 : Int32))), (3, .int k0), (0, .ref l0), (1, .int l1), (2, .int l2)]) 4 rfl rfl (Nat.le_of_ble_eq_true rfl) rfl (hX10_widened.at 23 rfl rfl) ?_
  refine os_goto (off := (-37)) (tgt := 5) rfl (hX10_widened.at 24 rfl rfl) ?_
  exact osW.sub [2, 3, 4, 1, 0] rfl (g5 l0 l1 l2 k0 (l4 + (1 : Int32)))
set_option maxRecDepth 100000 in
set_option maxHeartbeats 4000000 in
theorem tX10_widened_5 (N : Nat) (c5 : Nat × Int32 × Int32 × Int32 × Int32 → osM Int32) (g5 : ∀ (l0 : Nat) (l1 : Int32) (l2 : Int32) (l3 : Int32) (l4 : Int32), osW (osFinM (fun r : Int32 => some (.int r)) 0 0) yX10_widened cX10_widened 5 (some .int) [] { frames := 1, cells := 0, slots := 0, locals := 22 } 0 0 5 [(0, .ref l0), (1, .int l1), (2, .int l2), (3, .int l3), (4, .int l4)] [] (c5 (l0, l1, l2, l3, l4))) (l0 : Nat) (l1 : Int32) (l2 : Int32) (l3 : Int32) (l4 : Int32) : osW (osFinM (fun r : Int32 => some (.int r)) 0 0) yX10_widened cX10_widened 5 (some .int) [] { frames := 1, cells := 0, slots := 0, locals := 22 } 0 0 5 [(0, .ref l0), (1, .int l1), (2, .int l2), (3, .int l3), (4, .int l4)] [] (bX10_widened_5 N c5 l0 l1 l2 l3 l4) := by
  unfold bX10_widened_5
  refine os_iload (v := l4) 4 rfl (hX10_widened.at 4 rfl rfl) ?_
  refine os_aload_n (i := 0) (q := 0) (v := l0) 0 rfl rfl (hX10_widened.at 5 rfl rfl) ?_
  refine os_getR fX10_7 (hX10_widened.at 6 rfl rfl) (fun x1 => ?_)
  refine os_iconst (i := 0) (v := (0 : Int32)) rfl (hX10_widened.at 7 rfl rfl) ?_
  refine os_iaload (hX10_widened.at 8 rfl rfl) (fun x2 => ?_)
  refine os_icmp_ge (off := 32) (tgt := 45) rfl (hX10_widened.at 9 rfl rfl) ?_ ?_
  · refine os_iload_n (i := 3) (q := 3) (v := l3) 3 rfl rfl (hX10_widened.at 25 rfl rfl) ?_
    exact os_iret (Nat.le_of_ble_eq_true rfl) (Nat.le_of_ble_eq_true rfl) (hX10_widened.at 26 rfl rfl).1
  · refine os_iload_n (i := 1) (q := 1) (v := l1) 1 rfl rfl (hX10_widened.at 10 rfl rfl) ?_
    refine os_iload (v := l4) 4 rfl (hX10_widened.at 11 rfl rfl) ?_
    refine os_callS (As := [.int l1, .int l4]) (st := []) (st' := (fun r => .int r :: [])) mdX10_has wd1860 wd1861 (sX10_has N l1 l4) rfl rfl (fun _ => rfl) (Nat.le_of_ble_eq_true rfl) (Nat.le_of_ble_eq_true rfl) (Nat.le_of_ble_eq_true rfl) rfl (Nat.le_of_ble_eq_true rfl) rfl (Nat.le_of_ble_eq_true rfl) (hX10_widened.at 12 rfl rfl) (fun x3 => ?_)
    refine os_if_eq (off := 15) (tgt := 37) rfl (hX10_widened.at 13 rfl rfl) ?_ ?_
    · refine os_iload_n (i := 3) (q := 3) (v := l3) 3 rfl rfl (hX10_widened.at 21 rfl rfl) ?_
      exact osW.sub [0, 1, 2, 4] rfl (sX10_widened_38 N c5 g5 l0 l1 l2 l4 l3)
    · refine os_iload_n (i := 3) (q := 3) (v := l3) 3 rfl rfl (hX10_widened.at 14 rfl rfl) ?_
      refine os_aload_n (i := 0) (q := 0) (v := l0) 0 rfl rfl (hX10_widened.at 15 rfl rfl) ?_
      refine os_iload (v := l4) 4 rfl (hX10_widened.at 16 rfl rfl) ?_
      refine os_iload_n (i := 2) (q := 2) (v := l2) 2 rfl rfl (hX10_widened.at 17 rfl rfl) ?_
      refine os_callV (cis := [8]) (b := l0) (As := [.int l4, .int l2]) (st := [.int l3]) (st' := (fun r => .int r :: [.int l3])) sl8_X10_passing_X10_passing mdX10_passing wd1934 wd1936 (sX10_passing N l0 l4 l2) rfl rfl (fun _ => rfl) (Nat.le_of_ble_eq_true rfl) (Nat.le_of_ble_eq_true rfl) (Nat.le_of_ble_eq_true rfl) rfl (Nat.le_of_ble_eq_true rfl) rfl (Nat.le_of_ble_eq_true rfl) (hX10_widened.at 18 rfl rfl) (fun x4 => ?_)
      refine os_ior (hX10_widened.at 19 rfl rfl) ?_
      refine os_goto (off := 4) (tgt := 38) rfl (hX10_widened.at 20 rfl rfl) ?_
      exact osW.sub [0, 1, 2, 4] rfl (sX10_widened_38 N c5 g5 l0 l1 l2 l4 (l3 ||| x4))
set_option maxRecDepth 100000 in
set_option maxHeartbeats 4000000 in
theorem sX10_widened_5 (N : Nat) (l0 : Nat) (l1 : Int32) (l2 : Int32) (l3 : Int32) (l4 : Int32) : osW (osFinM (fun r : Int32 => some (.int r)) 0 0) yX10_widened cX10_widened 5 (some .int) [] { frames := 1, cells := 0, slots := 0, locals := 22 } 0 0 5 [(0, .ref l0), (1, .int l1), (2, .int l2), (3, .int l3), (4, .int l4)] [] (qX10_widened_5 N (l0, l1, l2, l3, l4)) :=
  osloop_W (lvf := fun p => [(0, .ref p.1), (1, .int p.2.1), (2, .int p.2.2.1), (3, .int p.2.2.2.1), (4, .int p.2.2.2.2)]) (stf := fun p => []) (fun ih g p => tX10_widened_5 N ih (fun l0 l1 l2 l3 l4 => g (l0, l1, l2, l3, l4)) p.1 p.2.1 p.2.2.1 p.2.2.2.1 p.2.2.2.2) N (l0, l1, l2, l3, l4)
set_option maxRecDepth 100000 in
set_option maxHeartbeats 4000000 in
theorem sX10_widened (N : Nat) (l0 : Nat) (l1 : Int32) (l2 : Int32) : osMet yX10_widened cX10_widened 5 (some .int) 1 22 0 0 (fun r : Int32 => some (.int r)) [.ref l0, .int l1, .int l2] (qX10_widened N l0 l1 l2) := by
  refine osMet.of plX10 (Nat.le_of_ble_eq_true rfl) (osW.rw (lv2 := [(0, .ref l0), (1, .int l1), (2, .int l2)]) ?_ rfl rfl rfl)
  unfold qX10_widened
  refine os_iload_n (i := 1) (q := 1) (v := l1) 1 rfl rfl (hX10_widened.at 0 rfl rfl) ?_
  refine os_istore_n (i := 3) (q := 3) rfl (lv' := [(3, .int l1), (0, .ref l0), (1, .int l1), (2, .int l2)]) (Nat.le_of_ble_eq_true rfl) rfl (hX10_widened.at 1 rfl rfl) ?_
  refine os_iconst (i := 0) (v := (0 : Int32)) rfl (hX10_widened.at 2 rfl rfl) ?_
  refine os_istore (i := 4) (lv' := [(4, .int (0 : Int32)), (3, .int l1), (0, .ref l0), (1, .int l1), (2, .int l2)]) (Nat.le_of_ble_eq_true rfl) rfl (hX10_widened.at 3 rfl rfl) ?_
  exact osW.sub [2, 3, 4, 1, 0] rfl (sX10_widened_5 N l0 l1 l2 l1 (0 : Int32))
