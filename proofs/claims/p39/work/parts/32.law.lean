-- the law
def qL_law_269 (N L : Nat) (xs : Nat → Int32) (l3 : Int32) : osM Int32 := osguard (l3 = (1 : Int32)) (osret (1 : Int32))
def qL_law_263 (N L : Nat) (xs : Nat → Int32) (c34 : Nat × Nat × Int32 × Int32 → osM Int32) (l1 : Nat) (l2 : Nat) (l3 : Int32) (l4 : Int32) : osM Int32 := c34 (l1, l2, l3, (l4 + (1 : Int32)))
def qL_law_256 (N L : Nat) (xs : Nat → Int32) (c34 : Nat × Nat × Int32 × Int32 → osM Int32) (c168 : Nat × Nat × Int32 × Int32 × Int32 → osM Int32) (l1 : Nat) (l2 : Nat) (l4 : Int32) (l7 : Int32) (k0 : Int32) : osM Int32 := c168 (l1, l2, k0, l4, (l7 + (1 : Int32)))
def qL_law_255 (N L : Nat) (xs : Nat → Int32) (c34 : Nat × Nat × Int32 × Int32 → osM Int32) (c168 : Nat × Nat × Int32 × Int32 × Int32 → osM Int32) (l1 : Nat) (l2 : Nat) (l4 : Int32) (l7 : Int32) : osM Int32 := qL_law_256 N L xs c34 c168 l1 l2 l4 l7 (0 : Int32)
def qL_law_240 (N L : Nat) (xs : Nat → Int32) (c34 : Nat × Nat × Int32 × Int32 → osM Int32) (c168 : Nat × Nat × Int32 × Int32 × Int32 → osM Int32) (l1 : Nat) (l2 : Nat) (l3 : Int32) (l4 : Int32) (l7 : Int32) : osM Int32 := osite (l3 = 0) (qL_law_255 N L xs c34 c168 l1 l2 l4 l7) (osbind (osrecv [7] l1 (qX9_phase N l1)) fun x1 => osite (x1 = 0) (qL_law_256 N L xs c34 c168 l1 l2 l4 l7 (1 : Int32)) (qL_law_255 N L xs c34 c168 l1 l2 l4 l7))
def qL_law_222 (N L : Nat) (xs : Nat → Int32) (c34 : Nat × Nat × Int32 × Int32 → osM Int32) (c168 : Nat × Nat × Int32 × Int32 × Int32 → osM Int32) (l1 : Nat) (l2 : Nat) (l3 : Int32) (l4 : Int32) (l7 : Int32) : osM Int32 := osite (l3 = 0) (qL_law_240 N L xs c34 c168 l1 l2 l3 l4 l7) (osbind (osrecv [7] l1 (qX9_phase N l1)) fun x1 => osite (x1 = (2 : Int32)) (osbind (qL_builds N l1 l2) fun x2 => qL_law_240 N L xs c34 c168 l1 l2 x2 l4 l7) (qL_law_240 N L xs c34 c168 l1 l2 l3 l4 l7))
def qL_law_203 (N L : Nat) (xs : Nat → Int32) (c34 : Nat × Nat × Int32 × Int32 → osM Int32) (c168 : Nat × Nat × Int32 × Int32 × Int32 → osM Int32) (l1 : Nat) (l2 : Nat) (l4 : Int32) (l7 : Int32) (k0 : Int32) : osM Int32 := osite (k0 = 0) (qL_law_222 N L xs c34 c168 l1 l2 k0 l4 l7) (osbind (osrecv [7] l1 (qX9_phase N l1)) fun x1 => osite (x1 = (1 : Int32)) (osbind (qL_retreats N l1 l2) fun x2 => qL_law_222 N L xs c34 c168 l1 l2 x2 l4 l7) (qL_law_222 N L xs c34 c168 l1 l2 k0 l4 l7))
def qL_law_202 (N L : Nat) (xs : Nat → Int32) (c34 : Nat × Nat × Int32 × Int32 → osM Int32) (c168 : Nat × Nat × Int32 × Int32 × Int32 → osM Int32) (l1 : Nat) (l2 : Nat) (l4 : Int32) (l7 : Int32) : osM Int32 := qL_law_203 N L xs c34 c168 l1 l2 l4 l7 (0 : Int32)
def bL_law_168 (N L : Nat) (xs : Nat → Int32) (c34 : Nat × Nat × Int32 × Int32 → osM Int32) (c168 : Nat × Nat × Int32 × Int32 × Int32 → osM Int32) (l1 : Nat) (l2 : Nat) (l3 : Int32) (l4 : Int32) (l7 : Int32) : osM Int32 := osite ((5 : Int32) ≤ l7) (qL_law_263 N L xs c34 l1 l2 l3 l4) (osite (l3 = 0) (qL_law_263 N L xs c34 l1 l2 l3 l4) (osbind (qL_orders N l1 l2 (4 : Int32)) fun x1 => osite (x1 < 0) (qL_law_202 N L xs c34 c168 l1 l2 l4 l7) (osbind (qL_settles N l1) fun x2 => osite (x2 = 0) (qL_law_202 N L xs c34 c168 l1 l2 l4 l7) (qL_law_203 N L xs c34 c168 l1 l2 l4 l7 (1 : Int32)))))
def qL_law_168 (N L : Nat) (xs : Nat → Int32) (c34 : Nat × Nat × Int32 × Int32 → osM Int32) : Nat × Nat × Int32 × Int32 × Int32 → osM Int32 := osloop (fun ih p => bL_law_168 N L xs c34 ih p.1 p.2.1 p.2.2.1 p.2.2.2.1 p.2.2.2.2) 6
def qL_law_164 (N L : Nat) (xs : Nat → Int32) (c34 : Nat × Nat × Int32 × Int32 → osM Int32) (l1 : Nat) (l2 : Nat) (l4 : Int32) (k0 : Int32) : osM Int32 := qL_law_168 N L xs c34 (l1, l2, k0, l4, (0 : Int32))
def qL_law_163 (N L : Nat) (xs : Nat → Int32) (c34 : Nat × Nat × Int32 × Int32 → osM Int32) (l1 : Nat) (l2 : Nat) (l4 : Int32) : osM Int32 := qL_law_164 N L xs c34 l1 l2 l4 (0 : Int32)
def qL_law_63 (N L : Nat) (xs : Nat → Int32) (c34 : Nat × Nat × Int32 × Int32 → osM Int32) (l1 : Nat) (l2 : Nat) (l4 : Int32) (k0 : Int32) (k1 : Int32) (k2 : Int32) (k3 : Nat) : osM Int32 := osbind (ossI 0 k3 k2 (k1 ^^^ k0)) fun _ => osbind (qL_next N l2) fun x1 => osguard (¬ (2 : Int32) = 0) (osbind (osret (((2 : Int32) + (x1 - x1 / (2 : Int32) * (2 : Int32))) : Int32)) fun x3 => osbind (qL_next N l2) fun x4 => osguard (¬ (2 : Int32) = 0) (osbind (osret (((3 : Int32) + (x4 - x4 / (2 : Int32) * (2 : Int32))) : Int32)) fun x6 => osbind (qL_map N l2 x6 x3) fun x7 => osbind (qL_load N l1 x7) fun x8 => osite (x8 = 0) (osbind (osrecv [7] l1 (qX9_areas N l1)) fun x9 => osite (x9 = ((3 : Int32) * x6)) (osbind (osnew (.inr (9, [.null, .int 0, .int 0, .int 0]))) fun x10 => osbind (qBJ4_init_da8c8 N x10) fun _ => osbind (qL_map N l2 x6 x3) fun x11 => osbind (osrecv [9] x10 (qBJ4_append_15ec4 N x10 x11)) fun x12 => osbind (qL_units N l2 ((3 : Int32) * x6) x3) fun x13 => osbind (osrecv [9] x12 (qBJ4_append_15ec4 N x12 x13)) fun x14 => osbind (osrecv [9] x14 (qBJ4_toString_0e30d N x14)) fun x15 => osbind (qL_load N l1 x15) fun x16 => osite (x16 < 0) (qL_law_163 N L xs c34 l1 l2 l4) (osbind (osrecv [7] l1 (qX9_undoCount N l1)) fun x17 => osite (x17 = 0) (qL_law_164 N L xs c34 l1 l2 l4 (1 : Int32)) (qL_law_163 N L xs c34 l1 l2 l4))) (qL_law_163 N L xs c34 l1 l2 l4)) (qL_law_163 N L xs c34 l1 l2 l4)))
def bL_law_34 (N L : Nat) (xs : Nat → Int32) (c34 : Nat × Nat × Int32 × Int32 → osM Int32) (l1 : Nat) (l2 : Nat) (l3 : Int32) (l4 : Int32) : osM Int32 := osite ((3 : Int32) ≤ l4) (qL_law_269 N L xs l3) (osite (l3 = 0) (qL_law_269 N L xs l3) (osbind (osaI 0 l2 (0 : Int32)) fun x1 => osbind (osslen2 L) fun x2 => osite (x2 ≤ l4) (qL_law_63 N L xs c34 l1 l2 l4 (0 : Int32) x1 (0 : Int32) l2) (osbind (ossld L xs l4) fun x3 => qL_law_63 N L xs c34 l1 l2 l4 x3 x1 (0 : Int32) l2)))
def qL_law_34 (N L : Nat) (xs : Nat → Int32) : Nat × Nat × Int32 × Int32 → osM Int32 := osloop (fun ih p => bL_law_34 N L xs ih p.1 p.2.1 p.2.2.1 p.2.2.2) 4
def qL_law_27 (N L : Nat) (xs : Nat → Int32) (l1 : Nat) (k0 : Int32) (k1 : Int32) (k2 : Nat) (k3 : Nat) : osM Int32 := osbind (ossI 0 k2 k1 k0) fun _ => qL_law_34 N L xs (l1, k3, (1 : Int32), (0 : Int32))
def qL_law (N L : Nat) (xs : Nat → Int32) : osM Int32 := osbind (osnew (.inr (7, [.null, .int 0, .null, .int 0, .int 0, .null, .null, .null, .null, .int 0, .null, .null, .null, .null]))) fun x1 => osbind (qX9_init N x1) fun _ => osbind (osnew (.inl (0, (1, .inl fun _ => 0)))) fun x2 => osbind (osslen2 L) fun x3 => osite (x3 = 0) (qL_law_27 N L xs x1 (5339 : Int32) (0 : Int32) x2 x2) (osbind (ossld L xs (0 : Int32)) fun x4 => qL_law_27 N L xs x1 x4 (0 : Int32) x2 x2)
set_option maxRecDepth 100000 in
set_option maxHeartbeats 4000000 in
theorem sL_law_269 (N L : Nat) (xs : Nat → Int32) {b : Nat} {Qf : List Frame → State → State → Prop} (hend : ∀ (k n : Nat) (lv : List (Nat × Value)), k ≤ 600086 → n ≤ 7301442 → osW (osFinL b L xs Qf) yL_law cL_law 9 (some .boolean) [] room_1 k n 270 lv [.int (1 : Int32)] (osret (1 : Int32))) (l3 : Int32) : osW (osFinL b L xs Qf) yL_law cL_law 9 (some .boolean) [] room_1 (354826) (4290263) 269 [(3, .int l3)] [] (qL_law_269 N L xs l3) := by
  unfold qL_law_269
  refine os_iload_n (i := 3) (q := 3) (v := l3) 0 rfl rfl (hL_law_2.at 49 rfl rfl) ?_
  refine os_guard (fun h1 => ?_)
  rw [h1]
  exact hend _ _ _ (by omega) (by omega)
set_option maxRecDepth 100000 in
set_option maxHeartbeats 4000000 in
theorem sL_law_263 (N L : Nat) (xs : Nat → Int32) {b : Nat} {Qf : List Frame → State → State → Prop} (hend : ∀ (k n : Nat) (lv : List (Nat × Value)), k ≤ 600086 → n ≤ 7301442 → osW (osFinL b L xs Qf) yL_law cL_law 9 (some .boolean) [] room_1 k n 270 lv [.int (1 : Int32)] (osret (1 : Int32))) (k34 n34 : Nat) (hx34 : k34 + 88671 ≤ 354826 ∧ n34 + 1071518 ≤ 4290263) (c34 : Nat × Nat × Int32 × Int32 → osM Int32) (g34 : ∀ (l1 : Nat) (l2 : Nat) (l3 : Int32) (l4 : Int32), osW (osFinL b L xs Qf) yL_law cL_law 9 (some .boolean) [] room_1 (k34 + 88671) (n34 + 1071518) 34 [(0, .ref b), (1, .ref l1), (2, .ref l2), (3, .int l3), (4, .int l4)] [] (c34 (l1, l2, l3, l4))) (l1 : Nat) (l2 : Nat) (l3 : Int32) (l4 : Int32) : osW (osFinL b L xs Qf) yL_law cL_law 9 (some .boolean) [] room_1 (k34 + 88671) (n34 + 1071518) 263 [(0, .ref b), (1, .ref l1), (2, .ref l2), (3, .int l3), (4, .int l4)] [] (qL_law_263 N L xs c34 l1 l2 l3 l4) := by
  unfold qL_law_263
  refine os_iinc (i := 4) (d := 1) (x := l4) (v := (1 : Int32)) (lv' := [(4, .int (l4 + (1 : Int32))), (0, .ref b), (1, .ref l1), (2, .ref l2), (3, .int l3)]) 4 rfl rfl (Nat.le_of_ble_eq_true rfl) rfl (hL_law_2.at 47 rfl rfl) ?_
  refine os_goto (off := (-232)) (tgt := 34) rfl (hL_law_2.at 48 rfl rfl) ?_
  exact osW.widen (k' := k34 + 88671) (n' := n34 + 1071518) (by omega) (by omega) (osW.sub [1, 2, 3, 4, 0] rfl (g34 l1 l2 l3 (l4 + (1 : Int32))))
set_option maxRecDepth 100000 in
set_option maxHeartbeats 4000000 in
theorem sL_law_256 (N L : Nat) (xs : Nat → Int32) {b : Nat} {Qf : List Frame → State → State → Prop} (hend : ∀ (k n : Nat) (lv : List (Nat × Value)), k ≤ 600086 → n ≤ 7301442 → osW (osFinL b L xs Qf) yL_law cL_law 9 (some .boolean) [] room_1 k n 270 lv [.int (1 : Int32)] (osret (1 : Int32))) (k34 n34 : Nat) (hx34 : k34 + 88671 ≤ 354826 ∧ n34 + 1071518 ≤ 4290263) (k168 n168 : Nat) (hx168 : k168 + 14583 ≤ k34 + 88671 ∧ n168 + 121462 ≤ n34 + 1071518) (c34 : Nat × Nat × Int32 × Int32 → osM Int32) (c168 : Nat × Nat × Int32 × Int32 × Int32 → osM Int32) (g34 : ∀ (l1 : Nat) (l2 : Nat) (l3 : Int32) (l4 : Int32), osW (osFinL b L xs Qf) yL_law cL_law 9 (some .boolean) [] room_1 (k34 + 88671) (n34 + 1071518) 34 [(0, .ref b), (1, .ref l1), (2, .ref l2), (3, .int l3), (4, .int l4)] [] (c34 (l1, l2, l3, l4))) (g168 : ∀ (l1 : Nat) (l2 : Nat) (l3 : Int32) (l4 : Int32) (l7 : Int32), osW (osFinL b L xs Qf) yL_law cL_law 9 (some .boolean) [] room_1 (k168 + 14583) (n168 + 121462) 168 [(0, .ref b), (1, .ref l1), (2, .ref l2), (3, .int l3), (4, .int l4), (7, .int l7)] [] (c168 (l1, l2, l3, l4, l7))) (l1 : Nat) (l2 : Nat) (l4 : Int32) (l7 : Int32) (k0 : Int32) : osW (osFinL b L xs Qf) yL_law cL_law 9 (some .boolean) [] room_1 (k168 + 14583) (n168 + 121462) 256 [(0, .ref b), (1, .ref l1), (2, .ref l2), (4, .int l4), (7, .int l7)] [.int k0] (qL_law_256 N L xs c34 c168 l1 l2 l4 l7 k0) := by
  unfold qL_law_256
  refine os_istore_n (i := 3) (q := 3) rfl (lv' := [(3, .int k0), (0, .ref b), (1, .ref l1), (2, .ref l2), (4, .int l4), (7, .int l7)]) (Nat.le_of_ble_eq_true rfl) rfl (hL_law_2.at 44 rfl rfl) ?_
  refine os_iinc (i := 7) (d := 1) (x := l7) (v := (1 : Int32)) (lv' := [(7, .int (l7 + (1 : Int32))), (3, .int k0), (0, .ref b), (1, .ref l1), (2, .ref l2), (4, .int l4)]) 5 rfl rfl (Nat.le_of_ble_eq_true rfl) rfl (hL_law_2.at 45 rfl rfl) ?_
  refine os_goto (off := (-92)) (tgt := 168) rfl (hL_law_2.at 46 rfl rfl) ?_
  exact osW.widen (k' := k168 + 14583) (n' := n168 + 121462) (by omega) (by omega) (osW.sub [2, 3, 4, 1, 5, 0] rfl (g168 l1 l2 k0 l4 (l7 + (1 : Int32))))
set_option maxRecDepth 100000 in
set_option maxHeartbeats 4000000 in
theorem sL_law_255 (N L : Nat) (xs : Nat → Int32) {b : Nat} {Qf : List Frame → State → State → Prop} (hend : ∀ (k n : Nat) (lv : List (Nat × Value)), k ≤ 600086 → n ≤ 7301442 → osW (osFinL b L xs Qf) yL_law cL_law 9 (some .boolean) [] room_1 k n 270 lv [.int (1 : Int32)] (osret (1 : Int32))) (k34 n34 : Nat) (hx34 : k34 + 88671 ≤ 354826 ∧ n34 + 1071518 ≤ 4290263) (k168 n168 : Nat) (hx168 : k168 + 14583 ≤ k34 + 88671 ∧ n168 + 121462 ≤ n34 + 1071518) (c34 : Nat × Nat × Int32 × Int32 → osM Int32) (c168 : Nat × Nat × Int32 × Int32 × Int32 → osM Int32) (g34 : ∀ (l1 : Nat) (l2 : Nat) (l3 : Int32) (l4 : Int32), osW (osFinL b L xs Qf) yL_law cL_law 9 (some .boolean) [] room_1 (k34 + 88671) (n34 + 1071518) 34 [(0, .ref b), (1, .ref l1), (2, .ref l2), (3, .int l3), (4, .int l4)] [] (c34 (l1, l2, l3, l4))) (g168 : ∀ (l1 : Nat) (l2 : Nat) (l3 : Int32) (l4 : Int32) (l7 : Int32), osW (osFinL b L xs Qf) yL_law cL_law 9 (some .boolean) [] room_1 (k168 + 14583) (n168 + 121462) 168 [(0, .ref b), (1, .ref l1), (2, .ref l2), (3, .int l3), (4, .int l4), (7, .int l7)] [] (c168 (l1, l2, l3, l4, l7))) (l1 : Nat) (l2 : Nat) (l4 : Int32) (l7 : Int32) : osW (osFinL b L xs Qf) yL_law cL_law 9 (some .boolean) [] room_1 (k168 + 14583) (n168 + 121462) 255 [(0, .ref b), (1, .ref l1), (2, .ref l2), (4, .int l4), (7, .int l7)] [] (qL_law_255 N L xs c34 c168 l1 l2 l4 l7) := by
  unfold qL_law_255
  refine os_iconst (i := 0) (v := (0 : Int32)) rfl (hL_law_2.at 43 rfl rfl) ?_
  exact osW.widen (k' := k168 + 14583) (n' := n168 + 121462) (by omega) (by omega) (osW.sub [0, 1, 2, 3, 4] rfl (sL_law_256 N L xs hend k34 n34 hx34 k168 n168 hx168 c34 c168 g34 g168 l1 l2 l4 l7 (0 : Int32)))
set_option maxRecDepth 100000 in
set_option maxHeartbeats 4000000 in
theorem sL_law_240 (N L : Nat) (xs : Nat → Int32) {b : Nat} {Qf : List Frame → State → State → Prop} (hend : ∀ (k n : Nat) (lv : List (Nat × Value)), k ≤ 600086 → n ≤ 7301442 → osW (osFinL b L xs Qf) yL_law cL_law 9 (some .boolean) [] room_1 k n 270 lv [.int (1 : Int32)] (osret (1 : Int32))) (k34 n34 : Nat) (hx34 : k34 + 88671 ≤ 354826 ∧ n34 + 1071518 ≤ 4290263) (k168 n168 : Nat) (hx168 : k168 + 14583 ≤ k34 + 88671 ∧ n168 + 121462 ≤ n34 + 1071518) (c34 : Nat × Nat × Int32 × Int32 → osM Int32) (c168 : Nat × Nat × Int32 × Int32 × Int32 → osM Int32) (g34 : ∀ (l1 : Nat) (l2 : Nat) (l3 : Int32) (l4 : Int32), osW (osFinL b L xs Qf) yL_law cL_law 9 (some .boolean) [] room_1 (k34 + 88671) (n34 + 1071518) 34 [(0, .ref b), (1, .ref l1), (2, .ref l2), (3, .int l3), (4, .int l4)] [] (c34 (l1, l2, l3, l4))) (g168 : ∀ (l1 : Nat) (l2 : Nat) (l3 : Int32) (l4 : Int32) (l7 : Int32), osW (osFinL b L xs Qf) yL_law cL_law 9 (some .boolean) [] room_1 (k168 + 14583) (n168 + 121462) 168 [(0, .ref b), (1, .ref l1), (2, .ref l2), (3, .int l3), (4, .int l4), (7, .int l7)] [] (c168 (l1, l2, l3, l4, l7))) (l1 : Nat) (l2 : Nat) (l3 : Int32) (l4 : Int32) (l7 : Int32) : osW (osFinL b L xs Qf) yL_law cL_law 9 (some .boolean) [] room_1 (k168 + 14583) (n168 + 121462) 240 [(0, .ref b), (1, .ref l1), (2, .ref l2), (3, .int l3), (4, .int l4), (7, .int l7)] [] (qL_law_240 N L xs c34 c168 l1 l2 l3 l4 l7) := by
  unfold qL_law_240
  refine os_iload_n (i := 3) (q := 3) (v := l3) 3 rfl rfl (hL_law_2.at 36 rfl rfl) ?_
  refine os_if_eq (off := 14) (tgt := 255) rfl (hL_law_2.at 37 rfl rfl) ?_ ?_
  · exact osW.widen (k' := k168 + 14583) (n' := n168 + 121462) (by omega) (by omega) (osW.sub [0, 1, 2, 4, 5] rfl (sL_law_255 N L xs hend k34 n34 hx34 k168 n168 hx168 c34 c168 g34 g168 l1 l2 l4 l7))
  · refine os_aload_n (i := 1) (q := 1) (v := l1) 1 rfl rfl (hL_law_2.at 38 rfl rfl) ?_
    refine os_callV (cis := [7]) (b := l1) (As := []) (st := []) (st' := (fun r => .int r :: [])) sl7_X9_phase_X9_phase mdX9_phase wd476 wd477 (sX9_phase N l1 ) rfl rfl (fun _ => rfl) (Nat.le_of_ble_eq_true rfl) (Nat.le_of_ble_eq_true rfl) (Nat.le_of_ble_eq_true rfl) rfl (by show _ ≤ 600086; omega) rfl (by show _ ≤ 7301442; omega) (hL_law_2.at 39 rfl rfl) (fun x1 => ?_)
    refine os_if_ne (off := 7) (tgt := 255) rfl (hL_law_2.at 40 rfl rfl) ?_ ?_
    · exact osW.widen (k' := k168 + 14583) (n' := n168 + 121462) (by omega) (by omega) (osW.sub [0, 1, 2, 4, 5] rfl (sL_law_255 N L xs hend k34 n34 hx34 k168 n168 hx168 c34 c168 g34 g168 l1 l2 l4 l7))
    · refine os_iconst (i := 1) (v := (1 : Int32)) rfl (hL_law_2.at 41 rfl rfl) ?_
      refine os_goto (off := 4) (tgt := 256) rfl (hL_law_2.at 42 rfl rfl) ?_
      exact osW.widen (k' := k168 + 14583) (n' := n168 + 121462) (by omega) (by omega) (osW.sub [0, 1, 2, 4, 5] rfl (sL_law_256 N L xs hend k34 n34 hx34 k168 n168 hx168 c34 c168 g34 g168 l1 l2 l4 l7 (1 : Int32)))
set_option maxRecDepth 100000 in
set_option maxHeartbeats 4000000 in
theorem sL_law_222 (N L : Nat) (xs : Nat → Int32) {b : Nat} {Qf : List Frame → State → State → Prop} (hend : ∀ (k n : Nat) (lv : List (Nat × Value)), k ≤ 600086 → n ≤ 7301442 → osW (osFinL b L xs Qf) yL_law cL_law 9 (some .boolean) [] room_1 k n 270 lv [.int (1 : Int32)] (osret (1 : Int32))) (k34 n34 : Nat) (hx34 : k34 + 88671 ≤ 354826 ∧ n34 + 1071518 ≤ 4290263) (k168 n168 : Nat) (hx168 : k168 + 14583 ≤ k34 + 88671 ∧ n168 + 121462 ≤ n34 + 1071518) (c34 : Nat × Nat × Int32 × Int32 → osM Int32) (c168 : Nat × Nat × Int32 × Int32 × Int32 → osM Int32) (g34 : ∀ (l1 : Nat) (l2 : Nat) (l3 : Int32) (l4 : Int32), osW (osFinL b L xs Qf) yL_law cL_law 9 (some .boolean) [] room_1 (k34 + 88671) (n34 + 1071518) 34 [(0, .ref b), (1, .ref l1), (2, .ref l2), (3, .int l3), (4, .int l4)] [] (c34 (l1, l2, l3, l4))) (g168 : ∀ (l1 : Nat) (l2 : Nat) (l3 : Int32) (l4 : Int32) (l7 : Int32), osW (osFinL b L xs Qf) yL_law cL_law 9 (some .boolean) [] room_1 (k168 + 14583) (n168 + 121462) 168 [(0, .ref b), (1, .ref l1), (2, .ref l2), (3, .int l3), (4, .int l4), (7, .int l7)] [] (c168 (l1, l2, l3, l4, l7))) (l1 : Nat) (l2 : Nat) (l3 : Int32) (l4 : Int32) (l7 : Int32) : osW (osFinL b L xs Qf) yL_law cL_law 9 (some .boolean) [] room_1 (k168 + 12150) (n168 + 103574) 222 [(0, .ref b), (1, .ref l1), (2, .ref l2), (3, .int l3), (4, .int l4), (7, .int l7)] [] (qL_law_222 N L xs c34 c168 l1 l2 l3 l4 l7) := by
  unfold qL_law_222
  refine os_iload_n (i := 3) (q := 3) (v := l3) 3 rfl rfl (hL_law_2.at 26 rfl rfl) ?_
  refine os_if_eq (off := 17) (tgt := 240) rfl (hL_law_2.at 27 rfl rfl) ?_ ?_
  · exact osW.widen (k' := k168 + 14583) (n' := n168 + 121462) (by omega) (by omega) (osW.sub [0, 1, 2, 3, 4, 5] rfl (sL_law_240 N L xs hend k34 n34 hx34 k168 n168 hx168 c34 c168 g34 g168 l1 l2 l3 l4 l7))
  · refine os_aload_n (i := 1) (q := 1) (v := l1) 1 rfl rfl (hL_law_2.at 28 rfl rfl) ?_
    refine os_callV (cis := [7]) (b := l1) (As := []) (st := []) (st' := (fun r => .int r :: [])) sl7_X9_phase_X9_phase mdX9_phase wd476 wd477 (sX9_phase N l1 ) rfl rfl (fun _ => rfl) (Nat.le_of_ble_eq_true rfl) (Nat.le_of_ble_eq_true rfl) (Nat.le_of_ble_eq_true rfl) rfl (by show _ ≤ 600086; omega) rfl (by show _ ≤ 7301442; omega) (hL_law_2.at 29 rfl rfl) (fun x1 => ?_)
    refine os_iconst (i := 2) (v := (2 : Int32)) rfl (hL_law_2.at 30 rfl rfl) ?_
    refine os_icmp_ne (off := 9) (tgt := 240) rfl (hL_law_2.at 31 rfl rfl) ?_ ?_
    · exact osW.widen (k' := k168 + 14583) (n' := n168 + 121462) (by omega) (by omega) (osW.sub [0, 1, 2, 3, 4, 5] rfl (sL_law_240 N L xs hend k34 n34 hx34 k168 n168 hx168 c34 c168 g34 g168 l1 l2 l3 l4 l7))
    · refine os_aload_n (i := 1) (q := 1) (v := l1) 1 rfl rfl (hL_law_2.at 32 rfl rfl) ?_
      refine os_aload_n (i := 2) (q := 2) (v := l2) 2 rfl rfl (hL_law_2.at 33 rfl rfl) ?_
      refine os_callS (As := [.ref l1, .ref l2]) (st := []) (st' := (fun r => .int r :: [])) mdL_builds wd1479 wd1480 (sL_builds N l1 l2) rfl rfl (fun _ => rfl) (Nat.le_of_ble_eq_true rfl) (Nat.le_of_ble_eq_true rfl) (Nat.le_of_ble_eq_true rfl) rfl (by show _ ≤ 600086; omega) rfl (by show _ ≤ 7301442; omega) (hL_law_2.at 34 rfl rfl) (fun x2 => ?_)
      refine os_istore_n (i := 3) (q := 3) rfl (lv' := [(3, .int x2), (0, .ref b), (1, .ref l1), (2, .ref l2), (4, .int l4), (7, .int l7)]) (Nat.le_of_ble_eq_true rfl) rfl (hL_law_2.at 35 rfl rfl) ?_
      exact osW.widen (k' := k168 + 14583) (n' := n168 + 121462) (by omega) (by omega) (osW.sub [1, 2, 3, 0, 4, 5] rfl (sL_law_240 N L xs hend k34 n34 hx34 k168 n168 hx168 c34 c168 g34 g168 l1 l2 x2 l4 l7))
set_option maxRecDepth 100000 in
set_option maxHeartbeats 4000000 in
theorem sL_law_203 (N L : Nat) (xs : Nat → Int32) {b : Nat} {Qf : List Frame → State → State → Prop} (hend : ∀ (k n : Nat) (lv : List (Nat × Value)), k ≤ 600086 → n ≤ 7301442 → osW (osFinL b L xs Qf) yL_law cL_law 9 (some .boolean) [] room_1 k n 270 lv [.int (1 : Int32)] (osret (1 : Int32))) (k34 n34 : Nat) (hx34 : k34 + 88671 ≤ 354826 ∧ n34 + 1071518 ≤ 4290263) (k168 n168 : Nat) (hx168 : k168 + 14583 ≤ k34 + 88671 ∧ n168 + 121462 ≤ n34 + 1071518) (c34 : Nat × Nat × Int32 × Int32 → osM Int32) (c168 : Nat × Nat × Int32 × Int32 × Int32 → osM Int32) (g34 : ∀ (l1 : Nat) (l2 : Nat) (l3 : Int32) (l4 : Int32), osW (osFinL b L xs Qf) yL_law cL_law 9 (some .boolean) [] room_1 (k34 + 88671) (n34 + 1071518) 34 [(0, .ref b), (1, .ref l1), (2, .ref l2), (3, .int l3), (4, .int l4)] [] (c34 (l1, l2, l3, l4))) (g168 : ∀ (l1 : Nat) (l2 : Nat) (l3 : Int32) (l4 : Int32) (l7 : Int32), osW (osFinL b L xs Qf) yL_law cL_law 9 (some .boolean) [] room_1 (k168 + 14583) (n168 + 121462) 168 [(0, .ref b), (1, .ref l1), (2, .ref l2), (3, .int l3), (4, .int l4), (7, .int l7)] [] (c168 (l1, l2, l3, l4, l7))) (l1 : Nat) (l2 : Nat) (l4 : Int32) (l7 : Int32) (k0 : Int32) : osW (osFinL b L xs Qf) yL_law cL_law 9 (some .boolean) [] room_1 (k168 + 10393) (n168 + 89213) 203 [(0, .ref b), (1, .ref l1), (2, .ref l2), (4, .int l4), (7, .int l7)] [.int k0] (qL_law_203 N L xs c34 c168 l1 l2 l4 l7 k0) := by
  unfold qL_law_203
  refine os_istore_n (i := 3) (q := 3) rfl (lv' := [(3, .int k0), (0, .ref b), (1, .ref l1), (2, .ref l2), (4, .int l4), (7, .int l7)]) (Nat.le_of_ble_eq_true rfl) rfl (hL_law_2.at 15 rfl rfl) ?_
  refine os_iload_n (i := 3) (q := 3) (v := k0) 0 rfl rfl (hL_law_2.at 16 rfl rfl) ?_
  refine os_if_eq (off := 17) (tgt := 222) rfl (hL_law_2.at 17 rfl rfl) ?_ ?_
  · exact osW.widen (k' := k168 + 12150) (n' := n168 + 103574) (by omega) (by omega) (osW.sub [1, 2, 3, 0, 4, 5] rfl (sL_law_222 N L xs hend k34 n34 hx34 k168 n168 hx168 c34 c168 g34 g168 l1 l2 k0 l4 l7))
  · refine os_aload_n (i := 1) (q := 1) (v := l1) 2 rfl rfl (hL_law_2.at 18 rfl rfl) ?_
    refine os_callV (cis := [7]) (b := l1) (As := []) (st := []) (st' := (fun r => .int r :: [])) sl7_X9_phase_X9_phase mdX9_phase wd476 wd477 (sX9_phase N l1 ) rfl rfl (fun _ => rfl) (Nat.le_of_ble_eq_true rfl) (Nat.le_of_ble_eq_true rfl) (Nat.le_of_ble_eq_true rfl) rfl (by show _ ≤ 600086; omega) rfl (by show _ ≤ 7301442; omega) (hL_law_2.at 19 rfl rfl) (fun x1 => ?_)
    refine os_iconst (i := 1) (v := (1 : Int32)) rfl (hL_law_2.at 20 rfl rfl) ?_
    refine os_icmp_ne (off := 9) (tgt := 222) rfl (hL_law_2.at 21 rfl rfl) ?_ ?_
    · exact osW.widen (k' := k168 + 12150) (n' := n168 + 103574) (by omega) (by omega) (osW.sub [1, 2, 3, 0, 4, 5] rfl (sL_law_222 N L xs hend k34 n34 hx34 k168 n168 hx168 c34 c168 g34 g168 l1 l2 k0 l4 l7))
    · refine os_aload_n (i := 1) (q := 1) (v := l1) 2 rfl rfl (hL_law_2.at 22 rfl rfl) ?_
      refine os_aload_n (i := 2) (q := 2) (v := l2) 3 rfl rfl (hL_law_2.at 23 rfl rfl) ?_
      refine os_callS (As := [.ref l1, .ref l2]) (st := []) (st' := (fun r => .int r :: [])) mdL_retreats wd1448 wd1449 (sL_retreats N l1 l2) rfl rfl (fun _ => rfl) (Nat.le_of_ble_eq_true rfl) (Nat.le_of_ble_eq_true rfl) (Nat.le_of_ble_eq_true rfl) rfl (by show _ ≤ 600086; omega) rfl (by show _ ≤ 7301442; omega) (hL_law_2.at 24 rfl rfl) (fun x2 => ?_)
      refine os_istore_n (i := 3) (q := 3) rfl (lv' := [(3, .int x2), (0, .ref b), (1, .ref l1), (2, .ref l2), (4, .int l4), (7, .int l7)]) (Nat.le_of_ble_eq_true rfl) rfl (hL_law_2.at 25 rfl rfl) ?_
      exact osW.widen (k' := k168 + 12150) (n' := n168 + 103574) (by omega) (by omega) (osW.sub [1, 2, 3, 0, 4, 5] rfl (sL_law_222 N L xs hend k34 n34 hx34 k168 n168 hx168 c34 c168 g34 g168 l1 l2 x2 l4 l7))
set_option maxRecDepth 100000 in
set_option maxHeartbeats 4000000 in
theorem sL_law_202 (N L : Nat) (xs : Nat → Int32) {b : Nat} {Qf : List Frame → State → State → Prop} (hend : ∀ (k n : Nat) (lv : List (Nat × Value)), k ≤ 600086 → n ≤ 7301442 → osW (osFinL b L xs Qf) yL_law cL_law 9 (some .boolean) [] room_1 k n 270 lv [.int (1 : Int32)] (osret (1 : Int32))) (k34 n34 : Nat) (hx34 : k34 + 88671 ≤ 354826 ∧ n34 + 1071518 ≤ 4290263) (k168 n168 : Nat) (hx168 : k168 + 14583 ≤ k34 + 88671 ∧ n168 + 121462 ≤ n34 + 1071518) (c34 : Nat × Nat × Int32 × Int32 → osM Int32) (c168 : Nat × Nat × Int32 × Int32 × Int32 → osM Int32) (g34 : ∀ (l1 : Nat) (l2 : Nat) (l3 : Int32) (l4 : Int32), osW (osFinL b L xs Qf) yL_law cL_law 9 (some .boolean) [] room_1 (k34 + 88671) (n34 + 1071518) 34 [(0, .ref b), (1, .ref l1), (2, .ref l2), (3, .int l3), (4, .int l4)] [] (c34 (l1, l2, l3, l4))) (g168 : ∀ (l1 : Nat) (l2 : Nat) (l3 : Int32) (l4 : Int32) (l7 : Int32), osW (osFinL b L xs Qf) yL_law cL_law 9 (some .boolean) [] room_1 (k168 + 14583) (n168 + 121462) 168 [(0, .ref b), (1, .ref l1), (2, .ref l2), (3, .int l3), (4, .int l4), (7, .int l7)] [] (c168 (l1, l2, l3, l4, l7))) (l1 : Nat) (l2 : Nat) (l4 : Int32) (l7 : Int32) : osW (osFinL b L xs Qf) yL_law cL_law 9 (some .boolean) [] room_1 (k168 + 10393) (n168 + 89213) 202 [(0, .ref b), (1, .ref l1), (2, .ref l2), (4, .int l4), (7, .int l7)] [] (qL_law_202 N L xs c34 c168 l1 l2 l4 l7) := by
  unfold qL_law_202
  refine os_iconst (i := 0) (v := (0 : Int32)) rfl (hL_law_2.at 14 rfl rfl) ?_
  exact osW.widen (k' := k168 + 10393) (n' := n168 + 89213) (by omega) (by omega) (osW.sub [0, 1, 2, 3, 4] rfl (sL_law_203 N L xs hend k34 n34 hx34 k168 n168 hx168 c34 c168 g34 g168 l1 l2 l4 l7 (0 : Int32)))
set_option maxRecDepth 100000 in
set_option maxHeartbeats 4000000 in
theorem tL_law_168 (N L : Nat) (xs : Nat → Int32) {b : Nat} {Qf : List Frame → State → State → Prop} (hend : ∀ (k n : Nat) (lv : List (Nat × Value)), k ≤ 600086 → n ≤ 7301442 → osW (osFinL b L xs Qf) yL_law cL_law 9 (some .boolean) [] room_1 k n 270 lv [.int (1 : Int32)] (osret (1 : Int32))) (k34 n34 : Nat) (hx34 : k34 + 88671 ≤ 354826 ∧ n34 + 1071518 ≤ 4290263) (k168 n168 : Nat) (hx168 : k168 + 14583 ≤ k34 + 88671 ∧ n168 + 121462 ≤ n34 + 1071518) (c34 : Nat × Nat × Int32 × Int32 → osM Int32) (c168 : Nat × Nat × Int32 × Int32 × Int32 → osM Int32) (g34 : ∀ (l1 : Nat) (l2 : Nat) (l3 : Int32) (l4 : Int32), osW (osFinL b L xs Qf) yL_law cL_law 9 (some .boolean) [] room_1 (k34 + 88671) (n34 + 1071518) 34 [(0, .ref b), (1, .ref l1), (2, .ref l2), (3, .int l3), (4, .int l4)] [] (c34 (l1, l2, l3, l4))) (g168 : ∀ (l1 : Nat) (l2 : Nat) (l3 : Int32) (l4 : Int32) (l7 : Int32), osW (osFinL b L xs Qf) yL_law cL_law 9 (some .boolean) [] room_1 (k168 + 14583) (n168 + 121462) 168 [(0, .ref b), (1, .ref l1), (2, .ref l2), (3, .int l3), (4, .int l4), (7, .int l7)] [] (c168 (l1, l2, l3, l4, l7))) (l1 : Nat) (l2 : Nat) (l3 : Int32) (l4 : Int32) (l7 : Int32) : osW (osFinL b L xs Qf) yL_law cL_law 9 (some .boolean) [] room_1 (k168) (n168) 168 [(0, .ref b), (1, .ref l1), (2, .ref l2), (3, .int l3), (4, .int l4), (7, .int l7)] [] (bL_law_168 N L xs c34 c168 l1 l2 l3 l4 l7) := by
  unfold bL_law_168
  refine os_iload (v := l7) 5 rfl (hL_law_1.at 47 rfl rfl) ?_
  refine os_iconst (i := 5) (v := (5 : Int32)) rfl (hL_law_1.at 48 rfl rfl) ?_
  refine os_icmp_ge (off := 92) (tgt := 263) rfl (hL_law_1.at 49 rfl rfl) ?_ ?_
  · exact osW.widen (k' := k34 + 88671) (n' := n34 + 1071518) (by omega) (by omega) (osW.sub [0, 1, 2, 3, 4] rfl (sL_law_263 N L xs hend k34 n34 hx34 c34 g34 l1 l2 l3 l4))
  · refine os_iload_n (i := 3) (q := 3) (v := l3) 3 rfl rfl (hL_law_2.at 0 rfl rfl) ?_
    refine os_if_eq (off := 88) (tgt := 263) rfl (hL_law_2.at 1 rfl rfl) ?_ ?_
    · exact osW.widen (k' := k34 + 88671) (n' := n34 + 1071518) (by omega) (by omega) (osW.sub [0, 1, 2, 3, 4] rfl (sL_law_263 N L xs hend k34 n34 hx34 c34 g34 l1 l2 l3 l4))
    · refine os_aload_n (i := 1) (q := 1) (v := l1) 1 rfl rfl (hL_law_2.at 2 rfl rfl) ?_
      refine os_aload_n (i := 2) (q := 2) (v := l2) 2 rfl rfl (hL_law_2.at 3 rfl rfl) ?_
      refine os_iconst (i := 4) (v := (4 : Int32)) rfl (hL_law_2.at 4 rfl rfl) ?_
      refine os_callS (As := [.ref l1, .ref l2, .int (4 : Int32)]) (st := []) (st' := (fun r => .int r :: [])) mdL_orders wd1049 wd1050 (sL_orders N l1 l2 (4 : Int32)) rfl rfl (fun _ => rfl) (Nat.le_of_ble_eq_true rfl) (Nat.le_of_ble_eq_true rfl) (Nat.le_of_ble_eq_true rfl) rfl (by show _ ≤ 600086; omega) rfl (by show _ ≤ 7301442; omega) (hL_law_2.at 5 rfl rfl) (fun x1 => ?_)
      refine os_istore (i := 8) (lv' := [(8, .int x1), (0, .ref b), (1, .ref l1), (2, .ref l2), (3, .int l3), (4, .int l4), (7, .int l7)]) (Nat.le_of_ble_eq_true rfl) rfl (hL_law_2.at 6 rfl rfl) ?_
      refine os_iload (v := x1) 0 rfl (hL_law_2.at 7 rfl rfl) ?_
      refine os_if_lt (off := 14) (tgt := 202) rfl (hL_law_2.at 8 rfl rfl) ?_ ?_
      · exact osW.widen (k' := k168 + 10393) (n' := n168 + 89213) (by omega) (by omega) (osW.sub [1, 2, 3, 5, 6] rfl (sL_law_202 N L xs hend k34 n34 hx34 k168 n168 hx168 c34 c168 g34 g168 l1 l2 l4 l7))
      · refine os_aload_n (i := 1) (q := 1) (v := l1) 2 rfl rfl (hL_law_2.at 9 rfl rfl) ?_
        refine os_callS (As := [.ref l1]) (st := []) (st' := (fun r => .int r :: [])) mdL_settles wd1268 wd1269 (sL_settles N l1) rfl rfl (fun _ => rfl) (Nat.le_of_ble_eq_true rfl) (Nat.le_of_ble_eq_true rfl) (Nat.le_of_ble_eq_true rfl) rfl (by show _ ≤ 600086; omega) rfl (by show _ ≤ 7301442; omega) (hL_law_2.at 10 rfl rfl) (fun x2 => ?_)
        refine os_if_eq (off := 7) (tgt := 202) rfl (hL_law_2.at 11 rfl rfl) ?_ ?_
        · exact osW.widen (k' := k168 + 10393) (n' := n168 + 89213) (by omega) (by omega) (osW.sub [1, 2, 3, 5, 6] rfl (sL_law_202 N L xs hend k34 n34 hx34 k168 n168 hx168 c34 c168 g34 g168 l1 l2 l4 l7))
        · refine os_iconst (i := 1) (v := (1 : Int32)) rfl (hL_law_2.at 12 rfl rfl) ?_
          refine os_goto (off := 4) (tgt := 203) rfl (hL_law_2.at 13 rfl rfl) ?_
          exact osW.widen (k' := k168 + 10393) (n' := n168 + 89213) (by omega) (by omega) (osW.sub [1, 2, 3, 5, 6] rfl (sL_law_203 N L xs hend k34 n34 hx34 k168 n168 hx168 c34 c168 g34 g168 l1 l2 l4 l7 (1 : Int32)))
set_option maxRecDepth 100000 in
set_option maxHeartbeats 4000000 in
theorem sL_law_168 (N L : Nat) (xs : Nat → Int32) {b : Nat} {Qf : List Frame → State → State → Prop} (hend : ∀ (k n : Nat) (lv : List (Nat × Value)), k ≤ 600086 → n ≤ 7301442 → osW (osFinL b L xs Qf) yL_law cL_law 9 (some .boolean) [] room_1 k n 270 lv [.int (1 : Int32)] (osret (1 : Int32))) (k34 n34 : Nat) (hx34 : k34 + 88671 ≤ 354826 ∧ n34 + 1071518 ≤ 4290263) (c34 : Nat × Nat × Int32 × Int32 → osM Int32) (g34 : ∀ (l1 : Nat) (l2 : Nat) (l3 : Int32) (l4 : Int32), osW (osFinL b L xs Qf) yL_law cL_law 9 (some .boolean) [] room_1 (k34 + 88671) (n34 + 1071518) 34 [(0, .ref b), (1, .ref l1), (2, .ref l2), (3, .int l3), (4, .int l4)] [] (c34 (l1, l2, l3, l4))) (l1 : Nat) (l2 : Nat) (l3 : Int32) (l4 : Int32) (l7 : Int32) : osW (osFinL b L xs Qf) yL_law cL_law 9 (some .boolean) [] room_1 (k34 + 1173) (n34 + 342746) 168 [(0, .ref b), (1, .ref l1), (2, .ref l2), (3, .int l3), (4, .int l4), (7, .int l7)] [] (qL_law_168 N L xs c34 (l1, l2, l3, l4, l7)) := by
  refine osW.widen (k' := (k34 + 1173) + 14583 * (6 - 6)) (n' := (n34 + 342746) + 121462 * (6 - 6)) (by omega) (by omega) ?_
  exact osloop_K (lvf := fun p => [(0, .ref b), (1, .ref p.1), (2, .ref p.2.1), (3, .int p.2.2.1), (4, .int p.2.2.2.1), (7, .int p.2.2.2.2)]) (stf := fun p => []) 6 14583 121462 (k34 + 1173) (n34 + 342746) (fun f hf ih g p => tL_law_168 N L xs hend k34 n34 hx34 ((k34 + 1173) + 14583 * (6 - (f + 1))) ((n34 + 342746) + 121462 * (6 - (f + 1))) (by omega) c34 ih g34 (fun l1 l2 l3 l4 l7 => osW.widen (by omega) (by omega) (g (l1, l2, l3, l4, l7))) p.1 p.2.1 p.2.2.1 p.2.2.2.1 p.2.2.2.2) 6 (Nat.le_refl _) (l1, l2, l3, l4, l7)
set_option maxRecDepth 100000 in
set_option maxHeartbeats 4000000 in
theorem sL_law_164 (N L : Nat) (xs : Nat → Int32) {b : Nat} {Qf : List Frame → State → State → Prop} (hend : ∀ (k n : Nat) (lv : List (Nat × Value)), k ≤ 600086 → n ≤ 7301442 → osW (osFinL b L xs Qf) yL_law cL_law 9 (some .boolean) [] room_1 k n 270 lv [.int (1 : Int32)] (osret (1 : Int32))) (k34 n34 : Nat) (hx34 : k34 + 88671 ≤ 354826 ∧ n34 + 1071518 ≤ 4290263) (c34 : Nat × Nat × Int32 × Int32 → osM Int32) (g34 : ∀ (l1 : Nat) (l2 : Nat) (l3 : Int32) (l4 : Int32), osW (osFinL b L xs Qf) yL_law cL_law 9 (some .boolean) [] room_1 (k34 + 88671) (n34 + 1071518) 34 [(0, .ref b), (1, .ref l1), (2, .ref l2), (3, .int l3), (4, .int l4)] [] (c34 (l1, l2, l3, l4))) (l1 : Nat) (l2 : Nat) (l4 : Int32) (k0 : Int32) : osW (osFinL b L xs Qf) yL_law cL_law 9 (some .boolean) [] room_1 (k34 + 1173) (n34 + 342746) 164 [(0, .ref b), (1, .ref l1), (2, .ref l2), (4, .int l4)] [.int k0] (qL_law_164 N L xs c34 l1 l2 l4 k0) := by
  unfold qL_law_164
  refine os_istore_n (i := 3) (q := 3) rfl (lv' := [(3, .int k0), (0, .ref b), (1, .ref l1), (2, .ref l2), (4, .int l4)]) (Nat.le_of_ble_eq_true rfl) rfl (hL_law_1.at 44 rfl rfl) ?_
  refine os_iconst (i := 0) (v := (0 : Int32)) rfl (hL_law_1.at 45 rfl rfl) ?_
  refine os_istore (i := 7) (lv' := [(7, .int (0 : Int32)), (3, .int k0), (0, .ref b), (1, .ref l1), (2, .ref l2), (4, .int l4)]) (Nat.le_of_ble_eq_true rfl) rfl (hL_law_1.at 46 rfl rfl) ?_
  exact osW.widen (k' := k34 + 1173) (n' := n34 + 342746) (by omega) (by omega) (osW.sub [2, 3, 4, 1, 5, 0] rfl (sL_law_168 N L xs hend k34 n34 hx34 c34 g34 l1 l2 k0 l4 (0 : Int32)))
set_option maxRecDepth 100000 in
set_option maxHeartbeats 4000000 in
theorem sL_law_163 (N L : Nat) (xs : Nat → Int32) {b : Nat} {Qf : List Frame → State → State → Prop} (hend : ∀ (k n : Nat) (lv : List (Nat × Value)), k ≤ 600086 → n ≤ 7301442 → osW (osFinL b L xs Qf) yL_law cL_law 9 (some .boolean) [] room_1 k n 270 lv [.int (1 : Int32)] (osret (1 : Int32))) (k34 n34 : Nat) (hx34 : k34 + 88671 ≤ 354826 ∧ n34 + 1071518 ≤ 4290263) (c34 : Nat × Nat × Int32 × Int32 → osM Int32) (g34 : ∀ (l1 : Nat) (l2 : Nat) (l3 : Int32) (l4 : Int32), osW (osFinL b L xs Qf) yL_law cL_law 9 (some .boolean) [] room_1 (k34 + 88671) (n34 + 1071518) 34 [(0, .ref b), (1, .ref l1), (2, .ref l2), (3, .int l3), (4, .int l4)] [] (c34 (l1, l2, l3, l4))) (l1 : Nat) (l2 : Nat) (l4 : Int32) : osW (osFinL b L xs Qf) yL_law cL_law 9 (some .boolean) [] room_1 (k34 + 1173) (n34 + 342746) 163 [(0, .ref b), (1, .ref l1), (2, .ref l2), (4, .int l4)] [] (qL_law_163 N L xs c34 l1 l2 l4) := by
  unfold qL_law_163
  refine os_iconst (i := 0) (v := (0 : Int32)) rfl (hL_law_1.at 43 rfl rfl) ?_
  exact osW.widen (k' := k34 + 1173) (n' := n34 + 342746) (by omega) (by omega) (osW.sub [0, 1, 2, 3] rfl (sL_law_164 N L xs hend k34 n34 hx34 c34 g34 l1 l2 l4 (0 : Int32)))
set_option maxRecDepth 100000 in
set_option maxHeartbeats 4000000 in
theorem sL_law_63 (N L : Nat) (xs : Nat → Int32) {b : Nat} {Qf : List Frame → State → State → Prop} (hend : ∀ (k n : Nat) (lv : List (Nat × Value)), k ≤ 600086 → n ≤ 7301442 → osW (osFinL b L xs Qf) yL_law cL_law 9 (some .boolean) [] room_1 k n 270 lv [.int (1 : Int32)] (osret (1 : Int32))) (k34 n34 : Nat) (hx34 : k34 + 88671 ≤ 354826 ∧ n34 + 1071518 ≤ 4290263) (c34 : Nat × Nat × Int32 × Int32 → osM Int32) (g34 : ∀ (l1 : Nat) (l2 : Nat) (l3 : Int32) (l4 : Int32), osW (osFinL b L xs Qf) yL_law cL_law 9 (some .boolean) [] room_1 (k34 + 88671) (n34 + 1071518) 34 [(0, .ref b), (1, .ref l1), (2, .ref l2), (3, .int l3), (4, .int l4)] [] (c34 (l1, l2, l3, l4))) (l1 : Nat) (l2 : Nat) (l4 : Int32) (k0 : Int32) (k1 : Int32) (k2 : Int32) (k3 : Nat) : osW (osFinL b L xs Qf) yL_law cL_law 9 (some .boolean) [] room_1 (k34) (n34) 63 [(0, .ref b), (1, .ref l1), (2, .ref l2), (4, .int l4)] [.int k0, .int k1, .int k2, .ref k3] (qL_law_63 N L xs c34 l1 l2 l4 k0 k1 k2 k3) := by
  unfold qL_law_63
  refine os_ixor (hL_law_0.at 40 rfl rfl) ?_
  refine os_iastore (hL_law_0.at 41 rfl rfl) ?_
  refine os_iconst (i := 2) (v := (2 : Int32)) rfl (hL_law_0.at 42 rfl rfl) ?_
  refine os_aload_n (i := 2) (q := 2) (v := l2) 2 rfl rfl (hL_law_0.at 43 rfl rfl) ?_
  refine os_callS (As := [.ref l2]) (st := [.int (2 : Int32)]) (st' := (fun r => .int r :: [.int (2 : Int32)])) mdL_next wd484 wd485 (sL_next N l2) rfl rfl (fun _ => rfl) (Nat.le_of_ble_eq_true rfl) (Nat.le_of_ble_eq_true rfl) (Nat.le_of_ble_eq_true rfl) rfl (by show _ ≤ 600086; omega) rfl (by show _ ≤ 7301442; omega) (hL_law_0.at 44 rfl rfl) (fun x1 => ?_)
  refine os_iconst (i := 2) (v := (2 : Int32)) rfl (hL_law_0.at 45 rfl rfl) ?_
  refine os_guard (fun h2 => ?_)
  refine os_irem h2 (hL_law_0.at 46 rfl rfl) ?_
  refine os_iadd (hL_law_0.at 47 rfl rfl) ?_
  refine os_nameI (fun x3 => ?_)
  refine os_istore (i := 5) (lv' := [(5, .int x3), (0, .ref b), (1, .ref l1), (2, .ref l2), (4, .int l4)]) (Nat.le_of_ble_eq_true rfl) rfl (hL_law_0.at 48 rfl rfl) ?_
  refine os_iconst (i := 3) (v := (3 : Int32)) rfl (hL_law_0.at 49 rfl rfl) ?_
  refine os_aload_n (i := 2) (q := 2) (v := l2) 3 rfl rfl (hL_law_1.at 0 rfl rfl) ?_
  refine os_callS (As := [.ref l2]) (st := [.int (3 : Int32)]) (st' := (fun r => .int r :: [.int (3 : Int32)])) mdL_next wd484 wd485 (sL_next N l2) rfl rfl (fun _ => rfl) (Nat.le_of_ble_eq_true rfl) (Nat.le_of_ble_eq_true rfl) (Nat.le_of_ble_eq_true rfl) rfl (by show _ ≤ 600086; omega) rfl (by show _ ≤ 7301442; omega) (hL_law_1.at 1 rfl rfl) (fun x4 => ?_)
  refine os_iconst (i := 2) (v := (2 : Int32)) rfl (hL_law_1.at 2 rfl rfl) ?_
  refine os_guard (fun h5 => ?_)
  refine os_irem h5 (hL_law_1.at 3 rfl rfl) ?_
  refine os_iadd (hL_law_1.at 4 rfl rfl) ?_
  refine os_nameI (fun x6 => ?_)
  refine os_istore (i := 6) (lv' := [(6, .int x6), (5, .int x3), (0, .ref b), (1, .ref l1), (2, .ref l2), (4, .int l4)]) (Nat.le_of_ble_eq_true rfl) rfl (hL_law_1.at 5 rfl rfl) ?_
  refine os_aload_n (i := 1) (q := 1) (v := l1) 3 rfl rfl (hL_law_1.at 6 rfl rfl) ?_
  refine os_aload_n (i := 2) (q := 2) (v := l2) 4 rfl rfl (hL_law_1.at 7 rfl rfl) ?_
  refine os_iload (v := x6) 0 rfl (hL_law_1.at 8 rfl rfl) ?_
  refine os_iload (v := x3) 1 rfl (hL_law_1.at 9 rfl rfl) ?_
  refine os_callS (As := [.ref l2, .int x6, .int x3]) (st := [.ref l1]) (st' := (fun r => .ref r :: [.ref l1])) mdL_map wd831 wd832 (sL_map N l2 x6 x3) rfl rfl (fun _ => rfl) (Nat.le_of_ble_eq_true rfl) (Nat.le_of_ble_eq_true rfl) (Nat.le_of_ble_eq_true rfl) rfl (by show _ ≤ 600086; omega) rfl (by show _ ≤ 7301442; omega) (hL_law_1.at 10 rfl rfl) (fun x7 => ?_)
  refine os_callSH (np := 2) (As := [.ref l1, .ref x7]) (st := []) (st' := (fun r => .int r :: [])) wd490 wd53 (by decide +kernel) (by decide +kernel) wd488 wd489 (sL_load N l1 x7) rfl rfl (fun _ => rfl) (Nat.le_of_ble_eq_true rfl) (Nat.le_of_ble_eq_true rfl) (Nat.le_of_ble_eq_true rfl) rfl (by show _ ≤ 600086; omega) rfl (by show _ ≤ 7301442; omega) (hL_law_1.at 11 rfl rfl) (fun x8 => ?_)
  refine os_if_ne (off := 66) (tgt := 163) rfl (hL_law_1.at 12 rfl rfl) ?_ ?_
  · exact osW.widen (k' := k34 + 1173) (n' := n34 + 342746) (by omega) (by omega) (osW.sub [2, 3, 4, 5] rfl (sL_law_163 N L xs hend k34 n34 hx34 c34 g34 l1 l2 l4))
  · refine os_aload_n (i := 1) (q := 1) (v := l1) 3 rfl rfl (hL_law_1.at 13 rfl rfl) ?_
    refine os_callV (cis := [7]) (b := l1) (As := []) (st := []) (st' := (fun r => .int r :: [])) sl7_X9_areas_X9_areas mdX9_areas wd472 wd473 (sX9_areas N l1 ) rfl rfl (fun _ => rfl) (Nat.le_of_ble_eq_true rfl) (Nat.le_of_ble_eq_true rfl) (Nat.le_of_ble_eq_true rfl) rfl (by show _ ≤ 600086; omega) rfl (by show _ ≤ 7301442; omega) (hL_law_1.at 14 rfl rfl) (fun x9 => ?_)
    refine os_iconst (i := 3) (v := (3 : Int32)) rfl (hL_law_1.at 15 rfl rfl) ?_
    refine os_iload (v := x6) 0 rfl (hL_law_1.at 16 rfl rfl) ?_
    refine os_imul (hL_law_1.at 17 rfl rfl) ?_
    refine os_icmp_ne (off := 55) (tgt := 163) rfl (hL_law_1.at 18 rfl rfl) ?_ ?_
    · exact osW.widen (k' := k34 + 1173) (n' := n34 + 342746) (by omega) (by omega) (osW.sub [2, 3, 4, 5] rfl (sL_law_163 N L xs hend k34 n34 hx34 c34 g34 l1 l2 l4))
    · refine os_aload_n (i := 1) (q := 1) (v := l1) 3 rfl rfl (hL_law_1.at 19 rfl rfl) ?_
      refine os_new (C := RJ4) (T := TJ4) (N := 4) (ci := 9) (ty0 := tyJ4) rfl tyJ4_ok osinJ4 wd834 wd835 wd64 dfJ4 (by show _ ≤ 600086; omega) (by show _ ≤ 7301442; omega) (hL_law_1.at 20 rfl rfl) (fun x10 => ?_)
      refine os_dup rfl (hL_law_1.at 21 rfl rfl) ?_
      refine os_callI (b := x10) (As := []) (st := [.ref x10, .ref l1]) (st' := (fun _ => [.ref x10, .ref l1])) mdJ4_init_da8c8 rfl wd836 wd837 (sBJ4_init_da8c8 N x10 ) rfl rfl (fun _ => rfl) (Nat.le_of_ble_eq_true rfl) (Nat.le_of_ble_eq_true rfl) (Nat.le_of_ble_eq_true rfl) rfl (by show _ ≤ 600086; omega) rfl (by show _ ≤ 7301442; omega) (hL_law_1.at 22 rfl rfl) (fun _ => ?_)
      refine os_aload_n (i := 2) (q := 2) (v := l2) 4 rfl rfl (hL_law_1.at 23 rfl rfl) ?_
      refine os_iload (v := x6) 0 rfl (hL_law_1.at 24 rfl rfl) ?_
      refine os_iload (v := x3) 1 rfl (hL_law_1.at 25 rfl rfl) ?_
      refine os_callS (As := [.ref l2, .int x6, .int x3]) (st := [.ref x10, .ref l1]) (st' := (fun r => .ref r :: [.ref x10, .ref l1])) mdL_map wd831 wd832 (sL_map N l2 x6 x3) rfl rfl (fun _ => rfl) (Nat.le_of_ble_eq_true rfl) (Nat.le_of_ble_eq_true rfl) (Nat.le_of_ble_eq_true rfl) rfl (by show _ ≤ 600086; omega) rfl (by show _ ≤ 7301442; omega) (hL_law_1.at 26 rfl rfl) (fun x11 => ?_)
      refine os_callV (cis := [9]) (b := x10) (As := [.ref x11]) (st := [.ref l1]) (st' := (fun r => .ref r :: [.ref l1])) sl9_J4_append_15ec4_J4_append_15ec4 mdJ4_append_15ec4 wd867 wd868 (sBJ4_append_15ec4 N x10 x11) rfl rfl (fun _ => rfl) (Nat.le_of_ble_eq_true rfl) (Nat.le_of_ble_eq_true rfl) (Nat.le_of_ble_eq_true rfl) rfl (by show _ ≤ 600086; omega) rfl (by show _ ≤ 7301442; omega) (hL_law_1.at 27 rfl rfl) (fun x12 => ?_)
      refine os_aload_n (i := 2) (q := 2) (v := l2) 4 rfl rfl (hL_law_1.at 28 rfl rfl) ?_
      refine os_iconst (i := 3) (v := (3 : Int32)) rfl (hL_law_1.at 29 rfl rfl) ?_
      refine os_iload (v := x6) 0 rfl (hL_law_1.at 30 rfl rfl) ?_
      refine os_imul (hL_law_1.at 31 rfl rfl) ?_
      refine os_iload (v := x3) 1 rfl (hL_law_1.at 32 rfl rfl) ?_
      refine os_callS (As := [.ref l2, .int ((3 : Int32) * x6), .int x3]) (st := [.ref x12, .ref l1]) (st' := (fun r => .ref r :: [.ref x12, .ref l1])) mdL_units wd1044 wd1045 (sL_units N l2 ((3 : Int32) * x6) x3) rfl rfl (fun _ => rfl) (Nat.le_of_ble_eq_true rfl) (Nat.le_of_ble_eq_true rfl) (Nat.le_of_ble_eq_true rfl) rfl (by show _ ≤ 600086; omega) rfl (by show _ ≤ 7301442; omega) (hL_law_1.at 33 rfl rfl) (fun x13 => ?_)
      refine os_callV (cis := [9]) (b := x12) (As := [.ref x13]) (st := [.ref l1]) (st' := (fun r => .ref r :: [.ref l1])) sl9_J4_append_15ec4_J4_append_15ec4 mdJ4_append_15ec4 wd867 wd868 (sBJ4_append_15ec4 N x12 x13) rfl rfl (fun _ => rfl) (Nat.le_of_ble_eq_true rfl) (Nat.le_of_ble_eq_true rfl) (Nat.le_of_ble_eq_true rfl) rfl (by show _ ≤ 600086; omega) rfl (by show _ ≤ 7301442; omega) (hL_law_1.at 34 rfl rfl) (fun x14 => ?_)
      refine os_callV (cis := [9]) (b := x14) (As := []) (st := [.ref l1]) (st' := (fun r => .ref r :: [.ref l1])) sl9_J4_toString_0e30d_J4_toString_0e30d mdJ4_toString_0e30d wd986 wd987 (sBJ4_toString_0e30d N x14 ) rfl rfl (fun _ => rfl) (Nat.le_of_ble_eq_true rfl) (Nat.le_of_ble_eq_true rfl) (Nat.le_of_ble_eq_true rfl) rfl (by show _ ≤ 600086; omega) rfl (by show _ ≤ 7301442; omega) (hL_law_1.at 35 rfl rfl) (fun x15 => ?_)
      refine os_callSH (np := 2) (As := [.ref l1, .ref x15]) (st := []) (st' := (fun r => .int r :: [])) wd490 wd53 (by decide +kernel) (by decide +kernel) wd488 wd489 (sL_load N l1 x15) rfl rfl (fun _ => rfl) (Nat.le_of_ble_eq_true rfl) (Nat.le_of_ble_eq_true rfl) (Nat.le_of_ble_eq_true rfl) rfl (by show _ ≤ 600086; omega) rfl (by show _ ≤ 7301442; omega) (hL_law_1.at 36 rfl rfl) (fun x16 => ?_)
      refine os_if_lt (off := 14) (tgt := 163) rfl (hL_law_1.at 37 rfl rfl) ?_ ?_
      · exact osW.widen (k' := k34 + 1173) (n' := n34 + 342746) (by omega) (by omega) (osW.sub [2, 3, 4, 5] rfl (sL_law_163 N L xs hend k34 n34 hx34 c34 g34 l1 l2 l4))
      · refine os_aload_n (i := 1) (q := 1) (v := l1) 3 rfl rfl (hL_law_1.at 38 rfl rfl) ?_
        refine os_callV (cis := [7]) (b := l1) (As := []) (st := []) (st' := (fun r => .int r :: [])) sl7_X9_undoCount_X9_undoCount mdX9_undoCount wd480 wd481 (sX9_undoCount N l1 ) rfl rfl (fun _ => rfl) (Nat.le_of_ble_eq_true rfl) (Nat.le_of_ble_eq_true rfl) (Nat.le_of_ble_eq_true rfl) rfl (by show _ ≤ 600086; omega) rfl (by show _ ≤ 7301442; omega) (hL_law_1.at 39 rfl rfl) (fun x17 => ?_)
        refine os_if_ne (off := 7) (tgt := 163) rfl (hL_law_1.at 40 rfl rfl) ?_ ?_
        · exact osW.widen (k' := k34 + 1173) (n' := n34 + 342746) (by omega) (by omega) (osW.sub [2, 3, 4, 5] rfl (sL_law_163 N L xs hend k34 n34 hx34 c34 g34 l1 l2 l4))
        · refine os_iconst (i := 1) (v := (1 : Int32)) rfl (hL_law_1.at 41 rfl rfl) ?_
          refine os_goto (off := 4) (tgt := 164) rfl (hL_law_1.at 42 rfl rfl) ?_
          exact osW.widen (k' := k34 + 1173) (n' := n34 + 342746) (by omega) (by omega) (osW.sub [2, 3, 4, 5] rfl (sL_law_164 N L xs hend k34 n34 hx34 c34 g34 l1 l2 l4 (1 : Int32)))
set_option maxRecDepth 100000 in
set_option maxHeartbeats 4000000 in
theorem tL_law_34 (N L : Nat) (xs : Nat → Int32) {b : Nat} {Qf : List Frame → State → State → Prop} (hend : ∀ (k n : Nat) (lv : List (Nat × Value)), k ≤ 600086 → n ≤ 7301442 → osW (osFinL b L xs Qf) yL_law cL_law 9 (some .boolean) [] room_1 k n 270 lv [.int (1 : Int32)] (osret (1 : Int32))) (k34 n34 : Nat) (hx34 : k34 + 88671 ≤ 354826 ∧ n34 + 1071518 ≤ 4290263) (c34 : Nat × Nat × Int32 × Int32 → osM Int32) (g34 : ∀ (l1 : Nat) (l2 : Nat) (l3 : Int32) (l4 : Int32), osW (osFinL b L xs Qf) yL_law cL_law 9 (some .boolean) [] room_1 (k34 + 88671) (n34 + 1071518) 34 [(0, .ref b), (1, .ref l1), (2, .ref l2), (3, .int l3), (4, .int l4)] [] (c34 (l1, l2, l3, l4))) (l1 : Nat) (l2 : Nat) (l3 : Int32) (l4 : Int32) : osW (osFinL b L xs Qf) yL_law cL_law 9 (some .boolean) [] room_1 (k34) (n34) 34 [(0, .ref b), (1, .ref l1), (2, .ref l2), (3, .int l3), (4, .int l4)] [] (bL_law_34 N L xs c34 l1 l2 l3 l4) := by
  unfold bL_law_34
  refine os_iload (v := l4) 4 rfl (hL_law_0.at 22 rfl rfl) ?_
  refine os_iconst (i := 3) (v := (3 : Int32)) rfl (hL_law_0.at 23 rfl rfl) ?_
  refine os_icmp_ge (off := 232) (tgt := 269) rfl (hL_law_0.at 24 rfl rfl) ?_ ?_
  · exact osW.widen (k' := 354826) (n' := 4290263) (by omega) (by omega) (osW.sub [3] rfl (sL_law_269 N L xs hend l3))
  · refine os_iload_n (i := 3) (q := 3) (v := l3) 3 rfl rfl (hL_law_0.at 25 rfl rfl) ?_
    refine os_if_eq (off := 228) (tgt := 269) rfl (hL_law_0.at 26 rfl rfl) ?_ ?_
    · exact osW.widen (k' := 354826) (n' := 4290263) (by omega) (by omega) (osW.sub [3] rfl (sL_law_269 N L xs hend l3))
    · refine os_aload_n (i := 2) (q := 2) (v := l2) 2 rfl rfl (hL_law_0.at 27 rfl rfl) ?_
      refine os_iconst (i := 0) (v := (0 : Int32)) rfl (hL_law_0.at 28 rfl rfl) ?_
      refine os_dup2_11 rfl rfl (hL_law_0.at 29 rfl rfl) ?_
      refine os_iaload (hL_law_0.at 30 rfl rfl) (fun x1 => ?_)
      refine os_iload (v := l4) 4 rfl (hL_law_0.at 31 rfl rfl) ?_
      refine os_aload_n (i := 0) (q := 0) (v := b) 0 rfl rfl (hL_law_0.at 32 rfl rfl) ?_
      refine os_slen (hL_law_0.at 33 rfl rfl) (fun x2 => ?_)
      refine os_icmp_ge (off := 10) (tgt := 62) rfl (hL_law_0.at 34 rfl rfl) ?_ ?_
      · refine os_iconst (i := 0) (v := (0 : Int32)) rfl (hL_law_0.at 39 rfl rfl) ?_
        exact osW.widen (k' := k34) (n' := n34) (by omega) (by omega) (osW.sub [0, 1, 2, 4] rfl (sL_law_63 N L xs hend k34 n34 hx34 c34 g34 l1 l2 l4 (0 : Int32) x1 (0 : Int32) l2))
      · refine os_aload_n (i := 0) (q := 0) (v := b) 0 rfl rfl (hL_law_0.at 35 rfl rfl) ?_
        refine os_iload (v := l4) 4 rfl (hL_law_0.at 36 rfl rfl) ?_
        refine os_sld (hL_law_0.at 37 rfl rfl) (fun x3 => ?_)
        refine os_goto (off := 4) (tgt := 63) rfl (hL_law_0.at 38 rfl rfl) ?_
        exact osW.widen (k' := k34) (n' := n34) (by omega) (by omega) (osW.sub [0, 1, 2, 4] rfl (sL_law_63 N L xs hend k34 n34 hx34 c34 g34 l1 l2 l4 x3 x1 (0 : Int32) l2))
set_option maxRecDepth 100000 in
set_option maxHeartbeats 4000000 in
theorem sL_law_34 (N L : Nat) (xs : Nat → Int32) {b : Nat} {Qf : List Frame → State → State → Prop} (hend : ∀ (k n : Nat) (lv : List (Nat × Value)), k ≤ 600086 → n ≤ 7301442 → osW (osFinL b L xs Qf) yL_law cL_law 9 (some .boolean) [] room_1 k n 270 lv [.int (1 : Int32)] (osret (1 : Int32))) (l1 : Nat) (l2 : Nat) (l3 : Int32) (l4 : Int32) : osW (osFinL b L xs Qf) yL_law cL_law 9 (some .boolean) [] room_1 (142) (4191) 34 [(0, .ref b), (1, .ref l1), (2, .ref l2), (3, .int l3), (4, .int l4)] [] (qL_law_34 N L xs (l1, l2, l3, l4)) := by
  refine osW.widen (k' := (142) + 88671 * (4 - 4)) (n' := (4191) + 1071518 * (4 - 4)) (by omega) (by omega) ?_
  exact osloop_K (lvf := fun p => [(0, .ref b), (1, .ref p.1), (2, .ref p.2.1), (3, .int p.2.2.1), (4, .int p.2.2.2)]) (stf := fun p => []) 4 88671 1071518 (142) (4191) (fun f hf ih g p => tL_law_34 N L xs hend ((142) + 88671 * (4 - (f + 1))) ((4191) + 1071518 * (4 - (f + 1))) (by omega) ih (fun l1 l2 l3 l4 => osW.widen (by omega) (by omega) (g (l1, l2, l3, l4))) p.1 p.2.1 p.2.2.1 p.2.2.2) 4 (Nat.le_refl _) (l1, l2, l3, l4)
set_option maxRecDepth 100000 in
set_option maxHeartbeats 4000000 in
theorem sL_law_27 (N L : Nat) (xs : Nat → Int32) {b : Nat} {Qf : List Frame → State → State → Prop} (hend : ∀ (k n : Nat) (lv : List (Nat × Value)), k ≤ 600086 → n ≤ 7301442 → osW (osFinL b L xs Qf) yL_law cL_law 9 (some .boolean) [] room_1 k n 270 lv [.int (1 : Int32)] (osret (1 : Int32))) (l1 : Nat) (k0 : Int32) (k1 : Int32) (k2 : Nat) (k3 : Nat) : osW (osFinL b L xs Qf) yL_law cL_law 9 (some .boolean) [] room_1 (142) (4191) 27 [(0, .ref b), (1, .ref l1)] [.int k0, .int k1, .ref k2, .ref k3] (qL_law_27 N L xs l1 k0 k1 k2 k3) := by
  unfold qL_law_27
  refine os_iastore (hL_law_0.at 16 rfl rfl) ?_
  refine os_astore_n (i := 2) (q := 2) rfl (lv' := [(2, .ref k3), (0, .ref b), (1, .ref l1)]) (Nat.le_of_ble_eq_true rfl) rfl (hL_law_0.at 17 rfl rfl) ?_
  refine os_iconst (i := 1) (v := (1 : Int32)) rfl (hL_law_0.at 18 rfl rfl) ?_
  refine os_istore_n (i := 3) (q := 3) rfl (lv' := [(3, .int (1 : Int32)), (2, .ref k3), (0, .ref b), (1, .ref l1)]) (Nat.le_of_ble_eq_true rfl) rfl (hL_law_0.at 19 rfl rfl) ?_
  refine os_iconst (i := 0) (v := (0 : Int32)) rfl (hL_law_0.at 20 rfl rfl) ?_
  refine os_istore (i := 4) (lv' := [(4, .int (0 : Int32)), (3, .int (1 : Int32)), (2, .ref k3), (0, .ref b), (1, .ref l1)]) (Nat.le_of_ble_eq_true rfl) rfl (hL_law_0.at 21 rfl rfl) ?_
  exact osW.widen (k' := 142) (n' := 4191) (by omega) (by omega) (osW.sub [3, 4, 2, 1, 0] rfl (sL_law_34 N L xs hend l1 k3 (1 : Int32) (0 : Int32)))
set_option maxRecDepth 100000 in
set_option maxHeartbeats 4000000 in
theorem sL_law (N L : Nat) (xs : Nat → Int32) {b : Nat} {Qf : List Frame → State → State → Prop} (hend : ∀ (k n : Nat) (lv : List (Nat × Value)), k ≤ 600086 → n ≤ 7301442 → osW (osFinL b L xs Qf) yL_law cL_law 9 (some .boolean) [] room_1 k n 270 lv [.int (1 : Int32)] (osret (1 : Int32))) : osW (osFinL b L xs Qf) yL_law cL_law 9 (some .boolean) [] room_1 0 0 0 [(0, .ref b)] [] (qL_law N L xs) := by
  unfold qL_law
  refine os_new (C := RX9) (T := TX9) (N := 14) (ci := 7) (ty0 := tyX9) rfl tyX9_ok osinX9 wd82 wd83 wd54 dfX9 (by show _ ≤ 600086; omega) (by show _ ≤ 7301442; omega) (hL_law_0.at 0 rfl rfl) (fun x1 => ?_)
  refine os_dup rfl (hL_law_0.at 1 rfl rfl) ?_
  refine os_callI (b := x1) (As := []) (st := [.ref x1]) (st' := (fun _ => [.ref x1])) mdX9_init rfl wd84 wd85 (sX9_init N x1 ) rfl rfl (fun _ => rfl) (Nat.le_of_ble_eq_true rfl) (Nat.le_of_ble_eq_true rfl) (Nat.le_of_ble_eq_true rfl) rfl (by show _ ≤ 600086; omega) rfl (by show _ ≤ 7301442; omega) (hL_law_0.at 2 rfl rfl) (fun _ => ?_)
  refine os_astore_n (i := 1) (q := 1) rfl (lv' := [(1, .ref x1), (0, .ref b)]) (Nat.le_of_ble_eq_true rfl) rfl (hL_law_0.at 3 rfl rfl) ?_
  refine os_iconst (i := 1) (v := (1 : Int32)) rfl (hL_law_0.at 4 rfl rfl) ?_
  refine os_newarray (at9 := .int) (ty := .int) (t := 0) (N := 1) rfl rfl rfl wd248 (fun _ => rfl) (by decide) rfl (Nat.le_of_ble_eq_true rfl) (by show _ ≤ 600086; omega) (by show _ ≤ 7301442; omega) (hL_law_0.at 5 rfl rfl) (fun x2 => ?_)
  refine os_dup rfl (hL_law_0.at 6 rfl rfl) ?_
  refine os_iconst (i := 0) (v := (0 : Int32)) rfl (hL_law_0.at 7 rfl rfl) ?_
  refine os_aload_n (i := 0) (q := 0) (v := b) 1 rfl rfl (hL_law_0.at 8 rfl rfl) ?_
  refine os_slen (hL_law_0.at 9 rfl rfl) (fun x3 => ?_)
  refine os_if_ne (off := 9) (tgt := 24) rfl (hL_law_0.at 10 rfl rfl) ?_ ?_
  · refine os_aload_n (i := 0) (q := 0) (v := b) 1 rfl rfl (hL_law_0.at 13 rfl rfl) ?_
    refine os_iconst (i := 0) (v := (0 : Int32)) rfl (hL_law_0.at 14 rfl rfl) ?_
    refine os_sld (hL_law_0.at 15 rfl rfl) (fun x4 => ?_)
    exact osW.widen (k' := 142) (n' := 4191) (by omega) (by omega) (osW.sub [1, 0] rfl (sL_law_27 N L xs hend x1 x4 (0 : Int32) x2 x2))
  · refine os_sipush (i := 5339) (v := (5339 : Int32)) rfl (hL_law_0.at 11 rfl rfl) ?_
    refine os_goto (off := 6) (tgt := 27) rfl (hL_law_0.at 12 rfl rfl) ?_
    exact osW.widen (k' := 142) (n' := 4191) (by omega) (by omega) (osW.sub [1, 0] rfl (sL_law_27 N L xs hend x1 (5339 : Int32) (0 : Int32) x2 x2))
