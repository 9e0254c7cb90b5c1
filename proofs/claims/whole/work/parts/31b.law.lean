-- the law
def qL_law_2037 (N L : Nat) (xs : Nat → Int32) (c28 : Nat × Nat × Nat × Nat × Nat × Int32 → osM Int32) (l0 : Nat) (l1 : Nat) (l2 : Nat) (l3 : Nat) (l4 : Nat) (l5 : Int32) : osM Int32 := c28 (l0, l1, l2, l3, l4, (l5 + (6 : Int32)))
def qL_law_305 (N L : Nat) (xs : Nat → Int32) (c28 : Nat × Nat × Nat × Nat × Nat × Int32 → osM Int32) (l0 : Nat) (l1 : Nat) (l2 : Nat) (l3 : Nat) (l4 : Nat) (l5 : Int32) : osM Int32 := qL_law_2037 N L xs c28 l0 l1 l2 l3 l4 l5
def qL_law_361 (N L : Nat) (xs : Nat → Int32) (c28 : Nat × Nat × Nat × Nat × Nat × Int32 → osM Int32) (l0 : Nat) (l1 : Nat) (l2 : Nat) (l3 : Nat) (l4 : Nat) (l5 : Int32) : osM Int32 := qL_law_2037 N L xs c28 l0 l1 l2 l3 l4 l5
def qL_law_417 (N L : Nat) (xs : Nat → Int32) (c28 : Nat × Nat × Nat × Nat × Nat × Int32 → osM Int32) (l0 : Nat) (l1 : Nat) (l2 : Nat) (l3 : Nat) (l4 : Nat) (l5 : Int32) : osM Int32 := qL_law_2037 N L xs c28 l0 l1 l2 l3 l4 l5
def qL_law_537 (N L : Nat) (xs : Nat → Int32) (c28 : Nat × Nat × Nat × Nat × Nat × Int32 → osM Int32) (l0 : Nat) (l1 : Nat) (l2 : Nat) (l3 : Nat) (l4 : Nat) (l5 : Int32) : osM Int32 := qL_law_2037 N L xs c28 l0 l1 l2 l3 l4 l5
def qL_law_593 (N L : Nat) (xs : Nat → Int32) (c28 : Nat × Nat × Nat × Nat × Nat × Int32 → osM Int32) (l0 : Nat) (l1 : Nat) (l2 : Nat) (l3 : Nat) (l4 : Nat) (l5 : Int32) : osM Int32 := qL_law_2037 N L xs c28 l0 l1 l2 l3 l4 l5
def qL_law_696 (N L : Nat) (xs : Nat → Int32) (c28 : Nat × Nat × Nat × Nat × Nat × Int32 → osM Int32) (l0 : Nat) (l1 : Nat) (l2 : Nat) (l3 : Nat) (l4 : Nat) (l5 : Int32) : osM Int32 := qL_law_2037 N L xs c28 l0 l1 l2 l3 l4 l5
def qL_law_690 (N L : Nat) (xs : Nat → Int32) (c28 : Nat × Nat × Nat × Nat × Nat × Int32 → osM Int32) (l0 : Nat) (l1 : Nat) (l2 : Nat) (l3 : Nat) (l4 : Nat) (l5 : Int32) (k0 : Int64) (k1 : Int64) : osM Int32 := osite ((lg_cmp k1 k0) = 0) (qL_law_696 N L xs c28 l0 l1 l2 l3 l4 l5) (osret (0 : Int32))
def qL_law_656 (N L : Nat) (xs : Nat → Int32) (c28 : Nat × Nat × Nat × Nat × Nat × Int32 → osM Int32) (l0 : Nat) (l1 : Nat) (l2 : Nat) (l3 : Nat) (l4 : Nat) (l5 : Int32) (l6 : Int32) (k0 : Int32) (k1 : Int32) (k2 : Int32) (k3 : Nat) : osM Int32 := osbind (osrecv [8] k3 (qX10_passes_ N k3 k2 k1 k0)) fun x1 => osbind (osrecv [8] l2 (qX10_thrown N l2)) fun x2 => osite (x2 = l6) (osite (l6 = 0) (osbind (osaJ 2 l3 (0 : Int32)) fun x3 => osite (x1 = 0) (qL_law_690 N L xs c28 l0 l1 l2 l3 l4 l5 (0 : Int64) x3) (qL_law_690 N L xs c28 l0 l1 l2 l3 l4 l5 (1 : Int64) x3)) (qL_law_696 N L xs c28 l0 l1 l2 l3 l4 l5)) (osret (0 : Int32))
def qL_law_623 (N L : Nat) (xs : Nat → Int32) (c28 : Nat × Nat × Nat × Nat × Nat × Int32 → osM Int32) (l0 : Nat) (l1 : Nat) (l2 : Nat) (l3 : Nat) (l4 : Nat) (l5 : Int32) (k0 : Int32) (k1 : Int32) (k2 : Int32) (k3 : Nat) : osM Int32 := osbind (qL_passes N k3 k2 k1 k0 l3) fun x1 => osbind (ossld L xs (l5 + (1 : Int32))) fun x2 => osbind (ossld L xs (l5 + (2 : Int32))) fun x3 => osbind (ossld L xs (l5 + (3 : Int32))) fun x4 => osite (x4 = 0) (qL_law_656 N L xs c28 l0 l1 l2 l3 l4 l5 x1 (0 : Int32) x3 x2 l2) (qL_law_656 N L xs c28 l0 l1 l2 l3 l4 l5 x1 (1 : Int32) x3 x2 l2)
def qL_law_792 (N L : Nat) (xs : Nat → Int32) (c28 : Nat × Nat × Nat × Nat × Nat × Int32 → osM Int32) (l0 : Nat) (l1 : Nat) (l2 : Nat) (l3 : Nat) (l4 : Nat) (l5 : Int32) : osM Int32 := qL_law_2037 N L xs c28 l0 l1 l2 l3 l4 l5
def qL_law_759 (N L : Nat) (xs : Nat → Int32) (c28 : Nat × Nat × Nat × Nat × Nat × Int32 → osM Int32) (l0 : Nat) (l1 : Nat) (l2 : Nat) (l3 : Nat) (l4 : Nat) (l5 : Int32) (l6 : Int32) (k0 : Int32) (k1 : Int32) (k2 : Int32) (k3 : Nat) : osM Int32 := osbind (osrecv [8] k3 (qX10_distance N k3 k2 k1 k0)) fun x1 => osbind (osrecv [8] l2 (qX10_thrown N l2)) fun x2 => osite (x2 = l6) (osite (l6 = 0) (osbind (osaJ 2 l3 (0 : Int32)) fun x3 => osite ((lg_cmp x3 (x1.toInt64)) = 0) (qL_law_792 N L xs c28 l0 l1 l2 l3 l4 l5) (osret (0 : Int32))) (qL_law_792 N L xs c28 l0 l1 l2 l3 l4 l5)) (osret (0 : Int32))
def qL_law_726 (N L : Nat) (xs : Nat → Int32) (c28 : Nat × Nat × Nat × Nat × Nat × Int32 → osM Int32) (l0 : Nat) (l1 : Nat) (l2 : Nat) (l3 : Nat) (l4 : Nat) (l5 : Int32) (k0 : Int32) (k1 : Int32) (k2 : Int32) (k3 : Nat) : osM Int32 := osbind (qL_distance N k3 k2 k1 k0 l3) fun x1 => osbind (ossld L xs (l5 + (1 : Int32))) fun x2 => osbind (ossld L xs (l5 + (2 : Int32))) fun x3 => osbind (ossld L xs (l5 + (3 : Int32))) fun x4 => osite (x4 = 0) (qL_law_759 N L xs c28 l0 l1 l2 l3 l4 l5 x1 (0 : Int32) x3 x2 l2) (qL_law_759 N L xs c28 l0 l1 l2 l3 l4 l5 x1 (1 : Int32) x3 x2 l2)
def qL_law_860 (N L : Nat) (xs : Nat → Int32) (c28 : Nat × Nat × Nat × Nat × Nat × Int32 → osM Int32) (l0 : Nat) (l1 : Nat) (l2 : Nat) (l3 : Nat) (l4 : Nat) (l5 : Int32) : osM Int32 := qL_law_2037 N L xs c28 l0 l1 l2 l3 l4 l5
def qL_law_954 (N L : Nat) (xs : Nat → Int32) (c28 : Nat × Nat × Nat × Nat × Nat × Int32 → osM Int32) (l0 : Nat) (l1 : Nat) (l2 : Nat) (l3 : Nat) (l4 : Nat) (l5 : Int32) : osM Int32 := qL_law_2037 N L xs c28 l0 l1 l2 l3 l4 l5
def qL_law_998 (N L : Nat) (xs : Nat → Int32) (c28 : Nat × Nat × Nat × Nat × Nat × Int32 → osM Int32) (l0 : Nat) (l1 : Nat) (l2 : Nat) (l3 : Nat) (l4 : Nat) (l5 : Int32) : osM Int32 := qL_law_2037 N L xs c28 l0 l1 l2 l3 l4 l5
def qL_law_1066 (N L : Nat) (xs : Nat → Int32) (c28 : Nat × Nat × Nat × Nat × Nat × Int32 → osM Int32) (l0 : Nat) (l1 : Nat) (l2 : Nat) (l3 : Nat) (l4 : Nat) (l5 : Int32) : osM Int32 := qL_law_2037 N L xs c28 l0 l1 l2 l3 l4 l5
def qL_law_1110 (N L : Nat) (xs : Nat → Int32) (c28 : Nat × Nat × Nat × Nat × Nat × Int32 → osM Int32) (l0 : Nat) (l1 : Nat) (l2 : Nat) (l3 : Nat) (l4 : Nat) (l5 : Int32) : osM Int32 := qL_law_2037 N L xs c28 l0 l1 l2 l3 l4 l5
def qL_law_1173 (N L : Nat) (xs : Nat → Int32) (c28 : Nat × Nat × Nat × Nat × Nat × Int32 → osM Int32) (l0 : Nat) (l1 : Nat) (l2 : Nat) (l3 : Nat) (l4 : Nat) (l5 : Int32) : osM Int32 := qL_law_2037 N L xs c28 l0 l1 l2 l3 l4 l5
def qL_law_1167 (N L : Nat) (xs : Nat → Int32) (c28 : Nat × Nat × Nat × Nat × Nat × Int32 → osM Int32) (l0 : Nat) (l1 : Nat) (l2 : Nat) (l3 : Nat) (l4 : Nat) (l5 : Int32) (k0 : Int64) (k1 : Int64) : osM Int32 := osite ((lg_cmp k1 k0) = 0) (qL_law_1173 N L xs c28 l0 l1 l2 l3 l4 l5) (osret (0 : Int32))
def qL_law_1248 (N L : Nat) (xs : Nat → Int32) (c28 : Nat × Nat × Nat × Nat × Nat × Int32 → osM Int32) (l0 : Nat) (l1 : Nat) (l2 : Nat) (l3 : Nat) (l4 : Nat) (l5 : Int32) : osM Int32 := qL_law_2037 N L xs c28 l0 l1 l2 l3 l4 l5
def qL_law_1242 (N L : Nat) (xs : Nat → Int32) (c28 : Nat × Nat × Nat × Nat × Nat × Int32 → osM Int32) (l0 : Nat) (l1 : Nat) (l2 : Nat) (l3 : Nat) (l4 : Nat) (l5 : Int32) (k0 : Int64) (k1 : Int64) : osM Int32 := osite ((lg_cmp k1 k0) = 0) (qL_law_1248 N L xs c28 l0 l1 l2 l3 l4 l5) (osret (0 : Int32))
def qL_law_1292 (N L : Nat) (xs : Nat → Int32) (c28 : Nat × Nat × Nat × Nat × Nat × Int32 → osM Int32) (l0 : Nat) (l1 : Nat) (l2 : Nat) (l3 : Nat) (l4 : Nat) (l5 : Int32) : osM Int32 := qL_law_2037 N L xs c28 l0 l1 l2 l3 l4 l5
def qL_law_1336 (N L : Nat) (xs : Nat → Int32) (c28 : Nat × Nat × Nat × Nat × Nat × Int32 → osM Int32) (l0 : Nat) (l1 : Nat) (l2 : Nat) (l3 : Nat) (l4 : Nat) (l5 : Int32) : osM Int32 := qL_law_2037 N L xs c28 l0 l1 l2 l3 l4 l5
def qL_law_1380 (N L : Nat) (xs : Nat → Int32) (c28 : Nat × Nat × Nat × Nat × Nat × Int32 → osM Int32) (l0 : Nat) (l1 : Nat) (l2 : Nat) (l3 : Nat) (l4 : Nat) (l5 : Int32) : osM Int32 := qL_law_2037 N L xs c28 l0 l1 l2 l3 l4 l5
def qL_law_1461 (N L : Nat) (xs : Nat → Int32) (c28 : Nat × Nat × Nat × Nat × Nat × Int32 → osM Int32) (l0 : Nat) (l1 : Nat) (l2 : Nat) (l3 : Nat) (l4 : Nat) (l5 : Int32) : osM Int32 := qL_law_2037 N L xs c28 l0 l1 l2 l3 l4 l5
def qL_law_1529 (N L : Nat) (xs : Nat → Int32) (c28 : Nat × Nat × Nat × Nat × Nat × Int32 → osM Int32) (l0 : Nat) (l1 : Nat) (l2 : Nat) (l3 : Nat) (l4 : Nat) (l5 : Int32) : osM Int32 := qL_law_2037 N L xs c28 l0 l1 l2 l3 l4 l5
def qL_law_1625 (N L : Nat) (xs : Nat → Int32) (c28 : Nat × Nat × Nat × Nat × Nat × Int32 → osM Int32) (l0 : Nat) (l1 : Nat) (l2 : Nat) (l3 : Nat) (l4 : Nat) (l5 : Int32) : osM Int32 := qL_law_2037 N L xs c28 l0 l1 l2 l3 l4 l5
def qL_law_1592 (N L : Nat) (xs : Nat → Int32) (c28 : Nat × Nat × Nat × Nat × Nat × Int32 → osM Int32) (l0 : Nat) (l1 : Nat) (l2 : Nat) (l3 : Nat) (l4 : Nat) (l5 : Int32) (l6 : Int32) (k0 : Int32) (k1 : Int32) (k2 : Int32) (k3 : Nat) : osM Int32 := osbind (osrecv [8] k3 (qX10_reach N k3 k2 k1 k0)) fun x1 => osbind (osrecv [8] l2 (qX10_thrown N l2)) fun x2 => osite (x2 = l6) (osite (l6 = 0) (osbind (osaJ 2 l3 (0 : Int32)) fun x3 => osite ((lg_cmp x3 (x1.toInt64)) = 0) (qL_law_1625 N L xs c28 l0 l1 l2 l3 l4 l5) (osret (0 : Int32))) (qL_law_1625 N L xs c28 l0 l1 l2 l3 l4 l5)) (osret (0 : Int32))
def qL_law_1559 (N L : Nat) (xs : Nat → Int32) (c28 : Nat × Nat × Nat × Nat × Nat × Int32 → osM Int32) (l0 : Nat) (l1 : Nat) (l2 : Nat) (l3 : Nat) (l4 : Nat) (l5 : Int32) (k0 : Int32) (k1 : Int32) (k2 : Int32) (k3 : Nat) : osM Int32 := osbind (qL_reach N k3 k2 k1 k0 l3) fun x1 => osbind (ossld L xs (l5 + (1 : Int32))) fun x2 => osbind (ossld L xs (l5 + (2 : Int32))) fun x3 => osbind (ossld L xs (l5 + (3 : Int32))) fun x4 => osite (x4 = 0) (qL_law_1592 N L xs c28 l0 l1 l2 l3 l4 l5 x1 (0 : Int32) x3 x2 l2) (qL_law_1592 N L xs c28 l0 l1 l2 l3 l4 l5 x1 (1 : Int32) x3 x2 l2)
def qL_law_1688 (N L : Nat) (xs : Nat → Int32) (c28 : Nat × Nat × Nat × Nat × Nat × Int32 → osM Int32) (l0 : Nat) (l1 : Nat) (l2 : Nat) (l3 : Nat) (l4 : Nat) (l5 : Int32) : osM Int32 := qL_law_2037 N L xs c28 l0 l1 l2 l3 l4 l5
def qL_law_1682 (N L : Nat) (xs : Nat → Int32) (c28 : Nat × Nat × Nat × Nat × Nat × Int32 → osM Int32) (l0 : Nat) (l1 : Nat) (l2 : Nat) (l3 : Nat) (l4 : Nat) (l5 : Int32) (k0 : Int64) (k1 : Int64) : osM Int32 := osite ((lg_cmp k1 k0) = 0) (qL_law_1688 N L xs c28 l0 l1 l2 l3 l4 l5) (osret (0 : Int32))
def qL_law_1766 (N L : Nat) (xs : Nat → Int32) (c28 : Nat × Nat × Nat × Nat × Nat × Int32 → osM Int32) (l0 : Nat) (l1 : Nat) (l2 : Nat) (l3 : Nat) (l4 : Nat) (l5 : Int32) : osM Int32 := qL_law_2037 N L xs c28 l0 l1 l2 l3 l4 l5
def qL_law_1764 (N L : Nat) (xs : Nat → Int32) (c28 : Nat × Nat × Nat × Nat × Nat × Int32 → osM Int32) : osM Int32 := osret (0 : Int32)
def qL_law_1822 (N L : Nat) (xs : Nat → Int32) (c28 : Nat × Nat × Nat × Nat × Nat × Int32 → osM Int32) (l0 : Nat) (l1 : Nat) (l2 : Nat) (l3 : Nat) (l4 : Nat) (l5 : Int32) : osM Int32 := qL_law_2037 N L xs c28 l0 l1 l2 l3 l4 l5
def qL_law_1863 (N L : Nat) (xs : Nat → Int32) (c28 : Nat × Nat × Nat × Nat × Nat × Int32 → osM Int32) (l0 : Nat) (l1 : Nat) (l2 : Nat) (l3 : Nat) (l4 : Nat) (l5 : Int32) : osM Int32 := qL_law_2037 N L xs c28 l0 l1 l2 l3 l4 l5
def qL_law_1861 (N L : Nat) (xs : Nat → Int32) (c28 : Nat × Nat × Nat × Nat × Nat × Int32 → osM Int32) : osM Int32 := osret (0 : Int32)
def qL_law_1921 (N L : Nat) (xs : Nat → Int32) (c28 : Nat × Nat × Nat × Nat × Nat × Int32 → osM Int32) (l0 : Nat) (l1 : Nat) (l2 : Nat) (l3 : Nat) (l4 : Nat) (l5 : Int32) : osM Int32 := qL_law_2037 N L xs c28 l0 l1 l2 l3 l4 l5
def qL_law_1978 (N L : Nat) (xs : Nat → Int32) (c28 : Nat × Nat × Nat × Nat × Nat × Int32 → osM Int32) (l0 : Nat) (l1 : Nat) (l2 : Nat) (l3 : Nat) (l4 : Nat) (l5 : Int32) : osM Int32 := qL_law_2037 N L xs c28 l0 l1 l2 l3 l4 l5
def qL_law_2034 (N L : Nat) (xs : Nat → Int32) (c28 : Nat × Nat × Nat × Nat × Nat × Int32 → osM Int32) (l0 : Nat) (l1 : Nat) (l2 : Nat) (l3 : Nat) (l4 : Nat) (l5 : Int32) : osM Int32 := qL_law_2037 N L xs c28 l0 l1 l2 l3 l4 l5
def bL_law_28 (N L : Nat) (xs : Nat → Int32) (c28 : Nat × Nat × Nat × Nat × Nat × Int32 → osM Int32) (l0 : Nat) (l1 : Nat) (l2 : Nat) (l3 : Nat) (l4 : Nat) (l5 : Int32) : osM Int32 := osbind (osslen2 L) fun x1 => osite ((x1 - (6 : Int32)) < l5) (osret (1 : Int32)) (osbind (ossld L xs l5) fun x2 => osswitch (x2 &&& (63 : Int32)) 0 [osbind (ossld L xs (l5 + (1 : Int32))) fun x3 => osbind (ossld L xs (l5 + (2 : Int32))) fun x4 => osbind (ossld L xs (l5 + (3 : Int32))) fun x5 => osbind (ossld L xs (l5 + (4 : Int32))) fun x6 => osbind (ossld L xs (l5 + (5 : Int32))) fun x7 => osbind (qL_feed N l1 x3 x4 x5 x6 x7 l3) fun x8 => osbind (ossld L xs (l5 + (1 : Int32))) fun x9 => osbind (ossld L xs (l5 + (2 : Int32))) fun x10 => osbind (ossld L xs (l5 + (3 : Int32))) fun x11 => osbind (ossld L xs (l5 + (4 : Int32))) fun x12 => osbind (ossld L xs (l5 + (5 : Int32))) fun x13 => osbind (osrecv [8] l2 (qX10_feed N l2 x9 x10 x11 x12 x13)) fun x14 => osbind (osrecv [8] l2 (qX10_thrown N l2)) fun x15 => osite (x15 = x8) (osite (x8 = 0) (osbind (osaJ 2 l3 (0 : Int32)) fun x16 => osite ((lg_cmp x16 (x14.toInt64)) = 0) (qL_law_305 N L xs c28 l0 l1 l2 l3 l4 l5) (osret (0 : Int32))) (qL_law_305 N L xs c28 l0 l1 l2 l3 l4 l5)) (osret (0 : Int32)), osbind (ossld L xs (l5 + (1 : Int32))) fun x17 => osbind (qL_load N l1 x17 l3) fun x18 => osbind (ossld L xs (l5 + (1 : Int32))) fun x19 => osbind (osrecv [8] l2 (qX10_load N l2 x19)) fun x20 => osbind (osrecv [8] l2 (qX10_thrown N l2)) fun x21 => osite (x21 = x18) (osite (x18 = 0) (osbind (osaJ 2 l3 (0 : Int32)) fun x22 => osite ((lg_cmp x22 (x20.toInt64)) = 0) (qL_law_361 N L xs c28 l0 l1 l2 l3 l4 l5) (osret (0 : Int32))) (qL_law_361 N L xs c28 l0 l1 l2 l3 l4 l5)) (osret (0 : Int32)), osbind (ossld L xs (l5 + (1 : Int32))) fun x23 => osbind (qL_tell N l1 x23 l3) fun x24 => osbind (ossld L xs (l5 + (1 : Int32))) fun x25 => osbind (osrecv [8] l2 (qX10_tell N l2 x25)) fun x26 => osbind (osrecv [8] l2 (qX10_thrown N l2)) fun x27 => osite (x27 = x24) (osite (x24 = 0) (osbind (osaJ 2 l3 (0 : Int32)) fun x28 => osite ((lg_cmp x28 (x26.toInt64)) = 0) (qL_law_417 N L xs c28 l0 l1 l2 l3 l4 l5) (osret (0 : Int32))) (qL_law_417 N L xs c28 l0 l1 l2 l3 l4 l5)) (osret (0 : Int32)), osbind (osrecv [7] l1 (qX9_errorCode N l1)) fun x29 => osbind (osrecv [8] l2 (qX10_errorCode N l2)) fun x30 => osite (x29 = x30) (qL_law_2037 N L xs c28 l0 l1 l2 l3 l4 l5) (osret (0 : Int32)), osbind (osrecv [7] l1 (qX9_errorPosition N l1)) fun x31 => osbind (osrecv [8] l2 (qX10_errorPosition N l2)) fun x32 => osite (x31 = x32) (qL_law_2037 N L xs c28 l0 l1 l2 l3 l4 l5) (osret (0 : Int32)), osbind (osrecv [7] l1 (qX9_areas N l1)) fun x33 => osbind (osrecv [8] l2 (qX10_areas N l2)) fun x34 => osite (x33 = x34) (qL_law_2037 N L xs c28 l0 l1 l2 l3 l4 l5) (osret (0 : Int32)), osbind (osrecv [7] l1 (qX9_powers N l1)) fun x35 => osbind (osrecv [8] l2 (qX10_powers N l2)) fun x36 => osite (x35 = x36) (qL_law_2037 N L xs c28 l0 l1 l2 l3 l4 l5) (osret (0 : Int32)), osbind (ossld L xs (l5 + (1 : Int32))) fun x37 => osbind (ossld L xs (l5 + (2 : Int32))) fun x38 => osbind (qL_area N l1 x37 x38 l3) fun x39 => osbind (ossld L xs (l5 + (1 : Int32))) fun x40 => osbind (ossld L xs (l5 + (2 : Int32))) fun x41 => osbind (osrecv [8] l2 (qX10_area N l2 x40 x41)) fun x42 => osbind (osrecv [8] l2 (qX10_thrown N l2)) fun x43 => osite (x43 = x39) (osite (x39 = 0) (osbind (osaJ 2 l3 (0 : Int32)) fun x44 => osite ((lg_cmp x44 (x42.toInt64)) = 0) (qL_law_537 N L xs c28 l0 l1 l2 l3 l4 l5) (osret (0 : Int32))) (qL_law_537 N L xs c28 l0 l1 l2 l3 l4 l5)) (osret (0 : Int32)), osbind (ossld L xs (l5 + (1 : Int32))) fun x45 => osbind (qL_named N l1 x45 l3) fun x46 => osbind (ossld L xs (l5 + (1 : Int32))) fun x47 => osbind (osrecv [8] l2 (qX10_named N l2 x47)) fun x48 => osbind (osrecv [8] l2 (qX10_thrown N l2)) fun x49 => osite (x49 = x46) (osite (x46 = 0) (osbind (osaJ 2 l3 (0 : Int32)) fun x50 => osite ((lg_cmp x50 (x48.toInt64)) = 0) (qL_law_593 N L xs c28 l0 l1 l2 l3 l4 l5) (osret (0 : Int32))) (qL_law_593 N L xs c28 l0 l1 l2 l3 l4 l5)) (osret (0 : Int32)), osbind (ossld L xs (l5 + (1 : Int32))) fun x51 => osbind (ossld L xs (l5 + (2 : Int32))) fun x52 => osbind (ossld L xs (l5 + (3 : Int32))) fun x53 => osite (x53 = 0) (qL_law_623 N L xs c28 l0 l1 l2 l3 l4 l5 (0 : Int32) x52 x51 l1) (qL_law_623 N L xs c28 l0 l1 l2 l3 l4 l5 (1 : Int32) x52 x51 l1), osbind (ossld L xs (l5 + (1 : Int32))) fun x54 => osbind (ossld L xs (l5 + (2 : Int32))) fun x55 => osbind (ossld L xs (l5 + (3 : Int32))) fun x56 => osite (x56 = 0) (qL_law_726 N L xs c28 l0 l1 l2 l3 l4 l5 (0 : Int32) x55 x54 l1) (qL_law_726 N L xs c28 l0 l1 l2 l3 l4 l5 (1 : Int32) x55 x54 l1), osbind (ossld L xs (l5 + (1 : Int32))) fun x57 => osbind (ossld L xs (l5 + (2 : Int32))) fun x58 => osbind (qL_power N l1 x57 x58 l3) fun x59 => osbind (ossld L xs (l5 + (1 : Int32))) fun x60 => osbind (ossld L xs (l5 + (2 : Int32))) fun x61 => osbind (osrecv [8] l2 (qX10_power N l2 x60 x61)) fun x62 => osbind (osrecv [8] l2 (qX10_thrown N l2)) fun x63 => osite (x63 = x59) (osite (x59 = 0) (osbind (osaJ 2 l3 (0 : Int32)) fun x64 => osite ((lg_cmp x64 (x62.toInt64)) = 0) (qL_law_860 N L xs c28 l0 l1 l2 l3 l4 l5) (osret (0 : Int32))) (qL_law_860 N L xs c28 l0 l1 l2 l3 l4 l5)) (osret (0 : Int32)), osbind (osrecv [7] l1 (qX9_phase N l1)) fun x65 => osbind (osrecv [8] l2 (qX10_phase N l2)) fun x66 => osite (x65 = x66) (qL_law_2037 N L xs c28 l0 l1 l2 l3 l4 l5) (osret (0 : Int32)), osbind (osrecv [7] l1 (qX9_turn N l1)) fun x67 => osbind (osrecv [8] l2 (qX10_turn N l2)) fun x68 => osite (x67 = x68) (qL_law_2037 N L xs c28 l0 l1 l2 l3 l4 l5) (osret (0 : Int32)), osbind (ossld L xs (l5 + (1 : Int32))) fun x69 => osbind (ossld L xs (l5 + (2 : Int32))) fun x70 => osbind (qL_order N l1 x69 x70 l3) fun x71 => osbind (ossld L xs (l5 + (1 : Int32))) fun x72 => osbind (ossld L xs (l5 + (2 : Int32))) fun x73 => osbind (osrecv [8] l2 (qX10_order N l2 x72 x73)) fun x74 => osbind (osrecv [8] l2 (qX10_thrown N l2)) fun x75 => osite (x75 = x71) (osite (x71 = 0) (osbind (osaJ 2 l3 (0 : Int32)) fun x76 => osite ((lg_cmp x76 (x74.toInt64)) = 0) (qL_law_954 N L xs c28 l0 l1 l2 l3 l4 l5) (osret (0 : Int32))) (qL_law_954 N L xs c28 l0 l1 l2 l3 l4 l5)) (osret (0 : Int32)), osbind (qL_settle N l1 l3) fun x77 => osbind (osrecv [8] l2 (qX10_settle N l2)) fun x78 => osbind (osrecv [8] l2 (qX10_thrown N l2)) fun x79 => osite (x79 = x77) (osite (x77 = 0) (osbind (osaJ 2 l3 (0 : Int32)) fun x80 => osite ((lg_cmp x80 (x78.toInt64)) = 0) (qL_law_998 N L xs c28 l0 l1 l2 l3 l4 l5) (osret (0 : Int32))) (qL_law_998 N L xs c28 l0 l1 l2 l3 l4 l5)) (osret (0 : Int32)), osbind (ossld L xs (l5 + (1 : Int32))) fun x81 => osbind (ossld L xs (l5 + (2 : Int32))) fun x82 => osbind (qL_result N l1 x81 x82 l3) fun x83 => osbind (ossld L xs (l5 + (1 : Int32))) fun x84 => osbind (ossld L xs (l5 + (2 : Int32))) fun x85 => osbind (osrecv [8] l2 (qX10_result N l2 x84 x85)) fun x86 => osbind (osrecv [8] l2 (qX10_thrown N l2)) fun x87 => osite (x87 = x83) (osite (x83 = 0) (osbind (osaJ 2 l3 (0 : Int32)) fun x88 => osite ((lg_cmp x88 (x86.toInt64)) = 0) (qL_law_1066 N L xs c28 l0 l1 l2 l3 l4 l5) (osret (0 : Int32))) (qL_law_1066 N L xs c28 l0 l1 l2 l3 l4 l5)) (osret (0 : Int32)), osbind (qL_outcomes N l1 l3) fun x89 => osbind (osrecv [8] l2 (qX10_outcomes N l2)) fun x90 => osbind (osrecv [8] l2 (qX10_thrown N l2)) fun x91 => osite (x91 = x89) (osite (x89 = 0) (osbind (osaJ 2 l3 (0 : Int32)) fun x92 => osite ((lg_cmp x92 (x90.toInt64)) = 0) (qL_law_1110 N L xs c28 l0 l1 l2 l3 l4 l5) (osret (0 : Int32))) (qL_law_1110 N L xs c28 l0 l1 l2 l3 l4 l5)) (osret (0 : Int32)), osbind (ossld L xs (l5 + (1 : Int32))) fun x93 => osbind (qL_isContested N l1 x93 l3) fun x94 => osbind (ossld L xs (l5 + (1 : Int32))) fun x95 => osbind (osrecv [8] l2 (qX10_isContested N l2 x95)) fun x96 => osbind (osrecv [8] l2 (qX10_thrown N l2)) fun x97 => osite (x97 = x94) (osite (x94 = 0) (osbind (osaJ 2 l3 (0 : Int32)) fun x98 => osite (x96 = 0) (qL_law_1167 N L xs c28 l0 l1 l2 l3 l4 l5 (0 : Int64) x98) (qL_law_1167 N L xs c28 l0 l1 l2 l3 l4 l5 (1 : Int64) x98)) (qL_law_1173 N L xs c28 l0 l1 l2 l3 l4 l5)) (osret (0 : Int32)), osbind (ossld L xs (l5 + (1 : Int32))) fun x99 => osbind (ossld L xs (l5 + (2 : Int32))) fun x100 => osbind (qL_mayRetreat N l1 x99 x100 l3) fun x101 => osbind (ossld L xs (l5 + (1 : Int32))) fun x102 => osbind (ossld L xs (l5 + (2 : Int32))) fun x103 => osbind (osrecv [8] l2 (qX10_mayRetreat N l2 x102 x103)) fun x104 => osbind (osrecv [8] l2 (qX10_thrown N l2)) fun x105 => osite (x105 = x101) (osite (x101 = 0) (osbind (osaJ 2 l3 (0 : Int32)) fun x106 => osite (x104 = 0) (qL_law_1242 N L xs c28 l0 l1 l2 l3 l4 l5 (0 : Int64) x106) (qL_law_1242 N L xs c28 l0 l1 l2 l3 l4 l5 (1 : Int64) x106)) (qL_law_1248 N L xs c28 l0 l1 l2 l3 l4 l5)) (osret (0 : Int32)), osbind (qL_endRetreats N l1 l3) fun x107 => osbind (osrecv [8] l2 (qX10_endRetreats N l2)) fun x108 => osbind (osrecv [8] l2 (qX10_thrown N l2)) fun x109 => osite (x109 = x107) (osite (x107 = 0) (osbind (osaJ 2 l3 (0 : Int32)) fun x110 => osite ((lg_cmp x110 (x108.toInt64)) = 0) (qL_law_1292 N L xs c28 l0 l1 l2 l3 l4 l5) (osret (0 : Int32))) (qL_law_1292 N L xs c28 l0 l1 l2 l3 l4 l5)) (osret (0 : Int32)), osbind (qL_endBuilds N l1 l3) fun x111 => osbind (osrecv [8] l2 (qX10_endBuilds N l2)) fun x112 => osbind (osrecv [8] l2 (qX10_thrown N l2)) fun x113 => osite (x113 = x111) (osite (x111 = 0) (osbind (osaJ 2 l3 (0 : Int32)) fun x114 => osite ((lg_cmp x114 (x112.toInt64)) = 0) (qL_law_1336 N L xs c28 l0 l1 l2 l3 l4 l5) (osret (0 : Int32))) (qL_law_1336 N L xs c28 l0 l1 l2 l3 l4 l5)) (osret (0 : Int32)), osbind (qL_undo N l1 l3) fun x115 => osbind (osrecv [8] l2 (qX10_undo N l2)) fun x116 => osbind (osrecv [8] l2 (qX10_thrown N l2)) fun x117 => osite (x117 = x115) (osite (x115 = 0) (osbind (osaJ 2 l3 (0 : Int32)) fun x118 => osite ((lg_cmp x118 (x116.toInt64)) = 0) (qL_law_1380 N L xs c28 l0 l1 l2 l3 l4 l5) (osret (0 : Int32))) (qL_law_1380 N L xs c28 l0 l1 l2 l3 l4 l5)) (osret (0 : Int32)), osbind (osrecv [7] l1 (qX9_undoCount N l1)) fun x119 => osbind (osrecv [8] l2 (qX10_undoCount N l2)) fun x120 => osite (x119 = x120) (qL_law_2037 N L xs c28 l0 l1 l2 l3 l4 l5) (osret (0 : Int32)), osbind (ossld L xs (l5 + (1 : Int32))) fun x121 => osbind (ossld L xs (l5 + (2 : Int32))) fun x122 => osbind (qL_foresee N l1 x121 x122 l3) fun x123 => osbind (ossld L xs (l5 + (1 : Int32))) fun x124 => osbind (ossld L xs (l5 + (2 : Int32))) fun x125 => osbind (osrecv [8] l2 (qX10_foresee N l2 x124 x125)) fun x126 => osbind (osrecv [8] l2 (qX10_thrown N l2)) fun x127 => osite (x127 = x123) (osite (x123 = 0) (osbind (osaJ 2 l3 (0 : Int32)) fun x128 => osite ((lg_cmp x128 (x126.toInt64)) = 0) (qL_law_1461 N L xs c28 l0 l1 l2 l3 l4 l5) (osret (0 : Int32))) (qL_law_1461 N L xs c28 l0 l1 l2 l3 l4 l5)) (osret (0 : Int32)), osbind (ossld L xs (l5 + (1 : Int32))) fun x129 => osbind (ossld L xs (l5 + (2 : Int32))) fun x130 => osbind (qL_foreseeMove N l1 x129 x130 l3) fun x131 => osbind (ossld L xs (l5 + (1 : Int32))) fun x132 => osbind (ossld L xs (l5 + (2 : Int32))) fun x133 => osbind (osrecv [8] l2 (qX10_foreseeMove N l2 x132 x133)) fun x134 => osbind (osrecv [8] l2 (qX10_thrown N l2)) fun x135 => osite (x135 = x131) (osite (x131 = 0) (osbind (osaJ 2 l3 (0 : Int32)) fun x136 => osite ((lg_cmp x136 (x134.toInt64)) = 0) (qL_law_1529 N L xs c28 l0 l1 l2 l3 l4 l5) (osret (0 : Int32))) (qL_law_1529 N L xs c28 l0 l1 l2 l3 l4 l5)) (osret (0 : Int32)), osbind (ossld L xs (l5 + (1 : Int32))) fun x137 => osbind (ossld L xs (l5 + (2 : Int32))) fun x138 => osbind (ossld L xs (l5 + (3 : Int32))) fun x139 => osite (x139 = 0) (qL_law_1559 N L xs c28 l0 l1 l2 l3 l4 l5 (0 : Int32) x138 x137 l1) (qL_law_1559 N L xs c28 l0 l1 l2 l3 l4 l5 (1 : Int32) x138 x137 l1), osbind (ossld L xs (l5 + (1 : Int32))) fun x140 => osbind (qL_isThreatened N l1 x140 l3) fun x141 => osbind (ossld L xs (l5 + (1 : Int32))) fun x142 => osbind (osrecv [8] l2 (qX10_isThreatened N l2 x142)) fun x143 => osbind (osrecv [8] l2 (qX10_thrown N l2)) fun x144 => osite (x144 = x141) (osite (x141 = 0) (osbind (osaJ 2 l3 (0 : Int32)) fun x145 => osite (x143 = 0) (qL_law_1682 N L xs c28 l0 l1 l2 l3 l4 l5 (0 : Int64) x145) (qL_law_1682 N L xs c28 l0 l1 l2 l3 l4 l5 (1 : Int64) x145)) (qL_law_1688 N L xs c28 l0 l1 l2 l3 l4 l5)) (osret (0 : Int32)), osbind (ossld L xs (l5 + (1 : Int32))) fun x146 => osbind (qL_share N l1 x146 l4) fun x147 => osbind (ossld L xs (l5 + (1 : Int32))) fun x148 => osbind (osrecv [8] l2 (qX10_share N l2 x148)) fun x149 => osbind (osrecv [8] l2 (qX10_thrown N l2)) fun x150 => osite (x150 = x147) (osite (x147 = 0) (osbind (osaD 4 l4 (0 : Int32)) fun x151 => osguard (osn64 (FP.f2d x149)) (osite ((Op.cmpValue (FP.dcmp x151 (FP.f2d x149)) .l) = 0) (qL_law_1766 N L xs c28 l0 l1 l2 l3 l4 l5) (osbind (osaD 4 l4 (0 : Int32)) fun x153 => osbind (osaD 4 l4 (0 : Int32)) fun x154 => osite ((Op.cmpValue (FP.dcmp x153 x154) .l) = 0) (qL_law_1764 N L xs c28 ) (osite ((Op.cmpValue (FP.fcmp x149 x149) .l) = 0) (qL_law_1764 N L xs c28 ) (qL_law_1766 N L xs c28 l0 l1 l2 l3 l4 l5))))) (qL_law_1766 N L xs c28 l0 l1 l2 l3 l4 l5)) (osret (0 : Int32)), osbind (ossld L xs (l5 + (1 : Int32))) fun x155 => osbind (qL_shareBits N l1 x155 l3) fun x156 => osbind (ossld L xs (l5 + (1 : Int32))) fun x157 => osbind (osrecv [8] l2 (qX10_shareBits N l2 x157)) fun x158 => osbind (osrecv [8] l2 (qX10_thrown N l2)) fun x159 => osite (x159 = x156) (osite (x156 = 0) (osbind (osaJ 2 l3 (0 : Int32)) fun x160 => osite ((lg_cmp x160 (x158.toInt64)) = 0) (qL_law_1822 N L xs c28 l0 l1 l2 l3 l4 l5) (osret (0 : Int32))) (qL_law_1822 N L xs c28 l0 l1 l2 l3 l4 l5)) (osret (0 : Int32)), osbind (osrecv [7] l1 (qX9_unevenness N l1)) fun x161 => osbind (osrecv [8] l2 (qX10_unevenness N l2)) fun x162 => osite ((Op.cmpValue (FP.dcmp x161 x162) .l) = 0) (qL_law_1863 N L xs c28 l0 l1 l2 l3 l4 l5) (osite ((Op.cmpValue (FP.dcmp x161 x161) .l) = 0) (qL_law_1861 N L xs c28 ) (osite ((Op.cmpValue (FP.dcmp x162 x162) .l) = 0) (qL_law_1861 N L xs c28 ) (qL_law_1863 N L xs c28 l0 l1 l2 l3 l4 l5))), osbind (osrecv [7] l1 (qX9_unevennessBits N l1)) fun x163 => osbind (osrecv [8] l2 (qX10_unevennessBits N l2)) fun x164 => osite ((lg_cmp x163 x164) = 0) (qL_law_2037 N L xs c28 l0 l1 l2 l3 l4 l5) (osret (0 : Int32)), osbind (qL_leader N l1 l3) fun x165 => osbind (osrecv [8] l2 (qX10_leader N l2)) fun x166 => osbind (osrecv [8] l2 (qX10_thrown N l2)) fun x167 => osite (x167 = x165) (osite (x165 = 0) (osbind (osaJ 2 l3 (0 : Int32)) fun x168 => osite ((lg_cmp x168 (x166.toInt64)) = 0) (qL_law_1921 N L xs c28 l0 l1 l2 l3 l4 l5) (osret (0 : Int32))) (qL_law_1921 N L xs c28 l0 l1 l2 l3 l4 l5)) (osret (0 : Int32)), osbind (osrecv [7] l1 (qX9_writeUnits N l1)) fun x169 => osbind (osrecv [8] l2 (qX10_writeUnits N l2)) fun x170 => osite (x169 = x170) (qL_law_2037 N L xs c28 l0 l1 l2 l3 l4 l5) (osret (0 : Int32)), osbind (qL_writeOrders N l1 l3) fun x171 => osbind (osrecv [8] l2 (qX10_writeOrders N l2)) fun x172 => osbind (osrecv [8] l2 (qX10_thrown N l2)) fun x173 => osite (x173 = x171) (osite (x171 = 0) (osbind (osaJ 2 l3 (0 : Int32)) fun x174 => osite ((lg_cmp x174 (x172.toInt64)) = 0) (qL_law_1978 N L xs c28 l0 l1 l2 l3 l4 l5) (osret (0 : Int32))) (qL_law_1978 N L xs c28 l0 l1 l2 l3 l4 l5)) (osret (0 : Int32)), osbind (ossld L xs (l5 + (1 : Int32))) fun x175 => osbind (qL_outputByte N l1 x175 l3) fun x176 => osbind (ossld L xs (l5 + (1 : Int32))) fun x177 => osbind (osrecv [8] l2 (qX10_outputByte N l2 x177)) fun x178 => osbind (osrecv [8] l2 (qX10_thrown N l2)) fun x179 => osite (x179 = x176) (osite (x176 = 0) (osbind (osaJ 2 l3 (0 : Int32)) fun x180 => osite ((lg_cmp x180 (x178.toInt64)) = 0) (qL_law_2034 N L xs c28 l0 l1 l2 l3 l4 l5) (osret (0 : Int32))) (qL_law_2034 N L xs c28 l0 l1 l2 l3 l4 l5)) (osret (0 : Int32))] (qL_law_2037 N L xs c28 l0 l1 l2 l3 l4 l5))
def qL_law_28 (N L : Nat) (xs : Nat → Int32) : Nat → Nat × Nat × Nat × Nat × Nat × Int32 → osM Int32 := fun f => osloop (fun ih p => bL_law_28 N L xs ih p.1 p.2.1 p.2.2.1 p.2.2.2.1 p.2.2.2.2.1 p.2.2.2.2.2) f
def qL_law (N L : Nat) (xs : Nat → Int32) (NF : Nat) (l0 : Nat) : osM Int32 := osbind (osnew (.inr (7, [.null, .int 0, .null, .int 0, .int 0, .null, .null, .null, .null, .int 0, .null, .null, .null, .null]))) fun x1 => osbind (qX9_init N x1) fun _ => osbind (osnew (.inr (8, [.int 0, .null, .null, .null, .null, .null, .null, .null, .int 0, .null, .int 0, .int 0, .int 0, .int 0, .int 0, .int 0, .int 0, .int 0, .long 0, .int 0, .int 0, .null, .null, .null, .null, .null, .int 0, .int 0, .int 0, .int 0, .int 0, .int 0, .null, .null, .null, .null, .int 0, .int 0, .int 0, .null, .null, .null, .int 0]))) fun x2 => osbind (qX10_init N x2) fun _ => osbind (osnew (.inl (2, (1, .inr (.inl fun _ => 0))))) fun x3 => osbind (osnew (.inl (4, (1, .inr (.inr (.inr (.inl fun _ => 0))))))) fun x4 => osbind osforget fun _ => qL_law_28 N L xs NF (l0, x1, x2, x3, x4, (0 : Int32))
set_option maxRecDepth 100000 in
set_option maxHeartbeats 4000000 in
theorem sL_law_2037 (N L : Nat) (xs : Nat → Int32) {b : Nat} {Qf : List Frame → State → State → Prop} (hend : ∀ (k n : Nat) (lv : List (Nat × Value)), k ≤ 601024 → n ≤ 7293034 → osW (osFinL b L xs Qf) yL_law cL_law 10 (some .boolean) [] room_1 k n 2044 lv [.int (1 : Int32)] (osret (1 : Int32))) (k n : Nat) (hk : k + 6 ≤ 601024) (hn : n + 60 ≤ 7293034) (c28 : Nat × Nat × Nat × Nat × Nat × Int32 → osM Int32) (g28 : ∀ (l0 : Nat) (l1 : Nat) (l2 : Nat) (l3 : Nat) (l4 : Nat) (l5 : Int32), l0 = b → osW (osFinL b L xs Qf) yL_law cL_law 10 (some .boolean) [] room_1 (k + 6) (n + 60) 28 [(0, .ref l0), (1, .ref l1), (2, .ref l2), (3, .ref l3), (4, .ref l4), (5, .int l5)] [] (c28 (l0, l1, l2, l3, l4, l5))) (l0 : Nat) (l1 : Nat) (l2 : Nat) (l3 : Nat) (l4 : Nat) (l5 : Int32) (hl0 : l0 = b) : osW (osFinL b L xs Qf) yL_law cL_law 10 (some .boolean) [] room_1 (k + 3) (n + 18) 2037 [(0, .ref l0), (1, .ref l1), (2, .ref l2), (3, .ref l3), (4, .ref l4), (5, .int l5)] [] (qL_law_2037 N L xs c28 l0 l1 l2 l3 l4 l5) := by
  subst hl0
  unfold qL_law_2037
  refine os_iinc (i := 5) (d := 6) (x := l5) (v := (6 : Int32)) (lv' := [(5, .int (l5 + (6 : Int32))), (0, .ref l0), (1, .ref l1), (2, .ref l2), (3, .ref l3), (4, .ref l4)]) 5 rfl rfl (Nat.le_of_ble_eq_true rfl) rfl (hL_law_23.at 21 rfl rfl) ?_
  refine os_goto (off := (-2012)) (tgt := 28) rfl (hL_law_23.at 22 rfl rfl) ?_
  exact osW.widen (k' := k + 6) (n' := n + 60) (by omega) (by omega) (osW.sub [1, 2, 3, 4, 5, 0] rfl (g28 l0 l1 l2 l3 l4 (l5 + (6 : Int32)) rfl))
set_option maxRecDepth 100000 in
set_option maxHeartbeats 4000000 in
theorem sL_law_305 (N L : Nat) (xs : Nat → Int32) {b : Nat} {Qf : List Frame → State → State → Prop} (hend : ∀ (k n : Nat) (lv : List (Nat × Value)), k ≤ 601024 → n ≤ 7293034 → osW (osFinL b L xs Qf) yL_law cL_law 10 (some .boolean) [] room_1 k n 2044 lv [.int (1 : Int32)] (osret (1 : Int32))) (k n : Nat) (hk : k + 6 ≤ 601024) (hn : n + 60 ≤ 7293034) (c28 : Nat × Nat × Nat × Nat × Nat × Int32 → osM Int32) (g28 : ∀ (l0 : Nat) (l1 : Nat) (l2 : Nat) (l3 : Nat) (l4 : Nat) (l5 : Int32), l0 = b → osW (osFinL b L xs Qf) yL_law cL_law 10 (some .boolean) [] room_1 (k + 6) (n + 60) 28 [(0, .ref l0), (1, .ref l1), (2, .ref l2), (3, .ref l3), (4, .ref l4), (5, .int l5)] [] (c28 (l0, l1, l2, l3, l4, l5))) (l0 : Nat) (l1 : Nat) (l2 : Nat) (l3 : Nat) (l4 : Nat) (l5 : Int32) (hl0 : l0 = b) : osW (osFinL b L xs Qf) yL_law cL_law 10 (some .boolean) [] room_1 (k + 1) (n + 6) 305 [(0, .ref l0), (1, .ref l1), (2, .ref l2), (3, .ref l3), (4, .ref l4), (5, .int l5)] [] (qL_law_305 N L xs c28 l0 l1 l2 l3 l4 l5) := by
  subst hl0
  unfold qL_law_305
  refine os_goto (off := 1732) (tgt := 2037) rfl (hL_law_2.at 2 rfl rfl) ?_
  exact osW.widen (k' := k + 3) (n' := n + 18) (by omega) (by omega) (osW.sub [0, 1, 2, 3, 4, 5] rfl (sL_law_2037 N L xs hend k n hk hn c28 g28 l0 l1 l2 l3 l4 l5 rfl))
set_option maxRecDepth 100000 in
set_option maxHeartbeats 4000000 in
theorem sL_law_361 (N L : Nat) (xs : Nat → Int32) {b : Nat} {Qf : List Frame → State → State → Prop} (hend : ∀ (k n : Nat) (lv : List (Nat × Value)), k ≤ 601024 → n ≤ 7293034 → osW (osFinL b L xs Qf) yL_law cL_law 10 (some .boolean) [] room_1 k n 2044 lv [.int (1 : Int32)] (osret (1 : Int32))) (k n : Nat) (hk : k + 6 ≤ 601024) (hn : n + 60 ≤ 7293034) (c28 : Nat × Nat × Nat × Nat × Nat × Int32 → osM Int32) (g28 : ∀ (l0 : Nat) (l1 : Nat) (l2 : Nat) (l3 : Nat) (l4 : Nat) (l5 : Int32), l0 = b → osW (osFinL b L xs Qf) yL_law cL_law 10 (some .boolean) [] room_1 (k + 6) (n + 60) 28 [(0, .ref l0), (1, .ref l1), (2, .ref l2), (3, .ref l3), (4, .ref l4), (5, .int l5)] [] (c28 (l0, l1, l2, l3, l4, l5))) (l0 : Nat) (l1 : Nat) (l2 : Nat) (l3 : Nat) (l4 : Nat) (l5 : Int32) (hl0 : l0 = b) : osW (osFinL b L xs Qf) yL_law cL_law 10 (some .boolean) [] room_1 (k + 2) (n + 12) 361 [(0, .ref l0), (1, .ref l1), (2, .ref l2), (3, .ref l3), (4, .ref l4), (5, .int l5)] [] (qL_law_361 N L xs c28 l0 l1 l2 l3 l4 l5) := by
  subst hl0
  unfold qL_law_361
  refine os_goto (off := 1676) (tgt := 2037) rfl (hL_law_2.at 37 rfl rfl) ?_
  exact osW.widen (k' := k + 3) (n' := n + 18) (by omega) (by omega) (osW.sub [0, 1, 2, 3, 4, 5] rfl (sL_law_2037 N L xs hend k n hk hn c28 g28 l0 l1 l2 l3 l4 l5 rfl))
set_option maxRecDepth 100000 in
set_option maxHeartbeats 4000000 in
theorem sL_law_417 (N L : Nat) (xs : Nat → Int32) {b : Nat} {Qf : List Frame → State → State → Prop} (hend : ∀ (k n : Nat) (lv : List (Nat × Value)), k ≤ 601024 → n ≤ 7293034 → osW (osFinL b L xs Qf) yL_law cL_law 10 (some .boolean) [] room_1 k n 2044 lv [.int (1 : Int32)] (osret (1 : Int32))) (k n : Nat) (hk : k + 6 ≤ 601024) (hn : n + 60 ≤ 7293034) (c28 : Nat × Nat × Nat × Nat × Nat × Int32 → osM Int32) (g28 : ∀ (l0 : Nat) (l1 : Nat) (l2 : Nat) (l3 : Nat) (l4 : Nat) (l5 : Int32), l0 = b → osW (osFinL b L xs Qf) yL_law cL_law 10 (some .boolean) [] room_1 (k + 6) (n + 60) 28 [(0, .ref l0), (1, .ref l1), (2, .ref l2), (3, .ref l3), (4, .ref l4), (5, .int l5)] [] (c28 (l0, l1, l2, l3, l4, l5))) (l0 : Nat) (l1 : Nat) (l2 : Nat) (l3 : Nat) (l4 : Nat) (l5 : Int32) (hl0 : l0 = b) : osW (osFinL b L xs Qf) yL_law cL_law 10 (some .boolean) [] room_1 (k + 2) (n + 12) 417 [(0, .ref l0), (1, .ref l1), (2, .ref l2), (3, .ref l3), (4, .ref l4), (5, .int l5)] [] (qL_law_417 N L xs c28 l0 l1 l2 l3 l4 l5) := by
  subst hl0
  unfold qL_law_417
  refine os_goto (off := 1620) (tgt := 2037) rfl (hL_law_3.at 22 rfl rfl) ?_
  exact osW.widen (k' := k + 3) (n' := n + 18) (by omega) (by omega) (osW.sub [0, 1, 2, 3, 4, 5] rfl (sL_law_2037 N L xs hend k n hk hn c28 g28 l0 l1 l2 l3 l4 l5 rfl))
set_option maxRecDepth 100000 in
set_option maxHeartbeats 4000000 in
theorem sL_law_537 (N L : Nat) (xs : Nat → Int32) {b : Nat} {Qf : List Frame → State → State → Prop} (hend : ∀ (k n : Nat) (lv : List (Nat × Value)), k ≤ 601024 → n ≤ 7293034 → osW (osFinL b L xs Qf) yL_law cL_law 10 (some .boolean) [] room_1 k n 2044 lv [.int (1 : Int32)] (osret (1 : Int32))) (k n : Nat) (hk : k + 6 ≤ 601024) (hn : n + 60 ≤ 7293034) (c28 : Nat × Nat × Nat × Nat × Nat × Int32 → osM Int32) (g28 : ∀ (l0 : Nat) (l1 : Nat) (l2 : Nat) (l3 : Nat) (l4 : Nat) (l5 : Int32), l0 = b → osW (osFinL b L xs Qf) yL_law cL_law 10 (some .boolean) [] room_1 (k + 6) (n + 60) 28 [(0, .ref l0), (1, .ref l1), (2, .ref l2), (3, .ref l3), (4, .ref l4), (5, .int l5)] [] (c28 (l0, l1, l2, l3, l4, l5))) (l0 : Nat) (l1 : Nat) (l2 : Nat) (l3 : Nat) (l4 : Nat) (l5 : Int32) (hl0 : l0 = b) : osW (osFinL b L xs Qf) yL_law cL_law 10 (some .boolean) [] room_1 (k + 2) (n + 12) 537 [(0, .ref l0), (1, .ref l1), (2, .ref l2), (3, .ref l3), (4, .ref l4), (5, .int l5)] [] (qL_law_537 N L xs c28 l0 l1 l2 l3 l4 l5) := by
  subst hl0
  unfold qL_law_537
  refine os_goto (off := 1500) (tgt := 2037) rfl (hL_law_4.at 45 rfl rfl) ?_
  exact osW.widen (k' := k + 3) (n' := n + 18) (by omega) (by omega) (osW.sub [0, 1, 2, 3, 4, 5] rfl (sL_law_2037 N L xs hend k n hk hn c28 g28 l0 l1 l2 l3 l4 l5 rfl))
set_option maxRecDepth 100000 in
set_option maxHeartbeats 4000000 in
theorem sL_law_593 (N L : Nat) (xs : Nat → Int32) {b : Nat} {Qf : List Frame → State → State → Prop} (hend : ∀ (k n : Nat) (lv : List (Nat × Value)), k ≤ 601024 → n ≤ 7293034 → osW (osFinL b L xs Qf) yL_law cL_law 10 (some .boolean) [] room_1 k n 2044 lv [.int (1 : Int32)] (osret (1 : Int32))) (k n : Nat) (hk : k + 6 ≤ 601024) (hn : n + 60 ≤ 7293034) (c28 : Nat × Nat × Nat × Nat × Nat × Int32 → osM Int32) (g28 : ∀ (l0 : Nat) (l1 : Nat) (l2 : Nat) (l3 : Nat) (l4 : Nat) (l5 : Int32), l0 = b → osW (osFinL b L xs Qf) yL_law cL_law 10 (some .boolean) [] room_1 (k + 6) (n + 60) 28 [(0, .ref l0), (1, .ref l1), (2, .ref l2), (3, .ref l3), (4, .ref l4), (5, .int l5)] [] (c28 (l0, l1, l2, l3, l4, l5))) (l0 : Nat) (l1 : Nat) (l2 : Nat) (l3 : Nat) (l4 : Nat) (l5 : Int32) (hl0 : l0 = b) : osW (osFinL b L xs Qf) yL_law cL_law 10 (some .boolean) [] room_1 (k + 2) (n + 12) 593 [(0, .ref l0), (1, .ref l1), (2, .ref l2), (3, .ref l3), (4, .ref l4), (5, .int l5)] [] (qL_law_593 N L xs c28 l0 l1 l2 l3 l4 l5) := by
  subst hl0
  unfold qL_law_593
  refine os_goto (off := 1444) (tgt := 2037) rfl (hL_law_5.at 30 rfl rfl) ?_
  exact osW.widen (k' := k + 3) (n' := n + 18) (by omega) (by omega) (osW.sub [0, 1, 2, 3, 4, 5] rfl (sL_law_2037 N L xs hend k n hk hn c28 g28 l0 l1 l2 l3 l4 l5 rfl))
set_option maxRecDepth 100000 in
set_option maxHeartbeats 4000000 in
theorem sL_law_696 (N L : Nat) (xs : Nat → Int32) {b : Nat} {Qf : List Frame → State → State → Prop} (hend : ∀ (k n : Nat) (lv : List (Nat × Value)), k ≤ 601024 → n ≤ 7293034 → osW (osFinL b L xs Qf) yL_law cL_law 10 (some .boolean) [] room_1 k n 2044 lv [.int (1 : Int32)] (osret (1 : Int32))) (k n : Nat) (hk : k + 6 ≤ 601024) (hn : n + 60 ≤ 7293034) (c28 : Nat × Nat × Nat × Nat × Nat × Int32 → osM Int32) (g28 : ∀ (l0 : Nat) (l1 : Nat) (l2 : Nat) (l3 : Nat) (l4 : Nat) (l5 : Int32), l0 = b → osW (osFinL b L xs Qf) yL_law cL_law 10 (some .boolean) [] room_1 (k + 6) (n + 60) 28 [(0, .ref l0), (1, .ref l1), (2, .ref l2), (3, .ref l3), (4, .ref l4), (5, .int l5)] [] (c28 (l0, l1, l2, l3, l4, l5))) (l0 : Nat) (l1 : Nat) (l2 : Nat) (l3 : Nat) (l4 : Nat) (l5 : Int32) (hl0 : l0 = b) : osW (osFinL b L xs Qf) yL_law cL_law 10 (some .boolean) [] room_1 (k + 2) (n + 12) 696 [(0, .ref l0), (1, .ref l1), (2, .ref l2), (3, .ref l3), (4, .ref l4), (5, .int l5)] [] (qL_law_696 N L xs c28 l0 l1 l2 l3 l4 l5) := by
  subst hl0
  unfold qL_law_696
  refine os_goto (off := 1341) (tgt := 2037) rfl (hL_law_6.at 46 rfl rfl) ?_
  exact osW.widen (k' := k + 3) (n' := n + 18) (by omega) (by omega) (osW.sub [0, 1, 2, 3, 4, 5] rfl (sL_law_2037 N L xs hend k n hk hn c28 g28 l0 l1 l2 l3 l4 l5 rfl))
set_option maxRecDepth 100000 in
set_option maxHeartbeats 4000000 in
theorem sL_law_690 (N L : Nat) (xs : Nat → Int32) {b : Nat} {Qf : List Frame → State → State → Prop} (hend : ∀ (k n : Nat) (lv : List (Nat × Value)), k ≤ 601024 → n ≤ 7293034 → osW (osFinL b L xs Qf) yL_law cL_law 10 (some .boolean) [] room_1 k n 2044 lv [.int (1 : Int32)] (osret (1 : Int32))) (k n : Nat) (hk : k + 6 ≤ 601024) (hn : n + 60 ≤ 7293034) (c28 : Nat × Nat × Nat × Nat × Nat × Int32 → osM Int32) (g28 : ∀ (l0 : Nat) (l1 : Nat) (l2 : Nat) (l3 : Nat) (l4 : Nat) (l5 : Int32), l0 = b → osW (osFinL b L xs Qf) yL_law cL_law 10 (some .boolean) [] room_1 (k + 6) (n + 60) 28 [(0, .ref l0), (1, .ref l1), (2, .ref l2), (3, .ref l3), (4, .ref l4), (5, .int l5)] [] (c28 (l0, l1, l2, l3, l4, l5))) (l0 : Nat) (l1 : Nat) (l2 : Nat) (l3 : Nat) (l4 : Nat) (l5 : Int32) (k0 : Int64) (k1 : Int64) (hl0 : l0 = b) : osW (osFinL b L xs Qf) yL_law cL_law 10 (some .boolean) [] room_1 (k + 2) (n + 12) 690 [(0, .ref l0), (1, .ref l1), (2, .ref l2), (3, .ref l3), (4, .ref l4), (5, .int l5)] [.long k0, .long k1] (qL_law_690 N L xs c28 l0 l1 l2 l3 l4 l5 k0 k1) := by
  subst hl0
  unfold qL_law_690
  refine os_lcmp (hL_law_6.at 42 rfl rfl) ?_
  refine os_if_eq (off := 5) (tgt := 696) rfl (hL_law_6.at 43 rfl rfl) ?_ ?_
  · exact osW.widen (k' := k + 2) (n' := n + 12) (by omega) (by omega) (osW.sub [0, 1, 2, 3, 4, 5] rfl (sL_law_696 N L xs hend k n hk hn c28 g28 l0 l1 l2 l3 l4 l5 rfl))
  · refine os_iconst (i := 0) (v := (0 : Int32)) rfl (hL_law_6.at 44 rfl rfl) ?_
    exact os_lawno _ (by decide)
set_option maxRecDepth 100000 in
set_option maxHeartbeats 4000000 in
theorem sL_law_656 (N L : Nat) (xs : Nat → Int32) {b : Nat} {Qf : List Frame → State → State → Prop} (hend : ∀ (k n : Nat) (lv : List (Nat × Value)), k ≤ 601024 → n ≤ 7293034 → osW (osFinL b L xs Qf) yL_law cL_law 10 (some .boolean) [] room_1 k n 2044 lv [.int (1 : Int32)] (osret (1 : Int32))) (k n : Nat) (hk : k + 6 ≤ 601024) (hn : n + 60 ≤ 7293034) (c28 : Nat × Nat × Nat × Nat × Nat × Int32 → osM Int32) (g28 : ∀ (l0 : Nat) (l1 : Nat) (l2 : Nat) (l3 : Nat) (l4 : Nat) (l5 : Int32), l0 = b → osW (osFinL b L xs Qf) yL_law cL_law 10 (some .boolean) [] room_1 (k + 6) (n + 60) 28 [(0, .ref l0), (1, .ref l1), (2, .ref l2), (3, .ref l3), (4, .ref l4), (5, .int l5)] [] (c28 (l0, l1, l2, l3, l4, l5))) (l0 : Nat) (l1 : Nat) (l2 : Nat) (l3 : Nat) (l4 : Nat) (l5 : Int32) (l6 : Int32) (k0 : Int32) (k1 : Int32) (k2 : Int32) (k3 : Nat) (hl0 : l0 = b) : osW (osFinL b L xs Qf) yL_law cL_law 10 (some .boolean) [] room_1 (k + 2) (n + 12) 656 [(0, .ref l0), (1, .ref l1), (2, .ref l2), (3, .ref l3), (4, .ref l4), (5, .int l5), (6, .int l6)] [.int k0, .int k1, .int k2, .ref k3] (qL_law_656 N L xs c28 l0 l1 l2 l3 l4 l5 l6 k0 k1 k2 k3) := by
  subst hl0
  unfold qL_law_656
  refine os_callV (cis := [8]) (b := k3) (As := [.int k2, .int k1, .int k0]) (st := []) (st' := (fun r => .int r :: [])) sl8_X10_passes__X10_passes_ mdX10_passes_ wd2026 wd2027 (sX10_passes_ N k3 k2 k1 k0) rfl rfl (fun _ => rfl) (Nat.le_of_ble_eq_true rfl) (Nat.le_of_ble_eq_true rfl) (Nat.le_of_ble_eq_true rfl) rfl (by show _ ≤ 601024; omega) rfl (by show _ ≤ 7293034; omega) (hL_law_6.at 24 rfl rfl) (fun x1 => ?_)
  refine os_istore (i := 7) (lv' := [(7, .int x1), (0, .ref l0), (1, .ref l1), (2, .ref l2), (3, .ref l3), (4, .ref l4), (5, .int l5), (6, .int l6)]) (Nat.le_of_ble_eq_true rfl) rfl (hL_law_6.at 25 rfl rfl) ?_
  refine os_aload_n (i := 2) (q := 2) (v := l2) 3 rfl rfl (hL_law_6.at 26 rfl rfl) ?_
  refine os_callV (cis := [8]) (b := l2) (As := []) (st := []) (st' := (fun r => .int r :: [])) sl8_X10_thrown_X10_thrown mdX10_thrown wd1734 wd1735 (sX10_thrown N l2 ) rfl rfl (fun _ => rfl) (Nat.le_of_ble_eq_true rfl) (Nat.le_of_ble_eq_true rfl) (Nat.le_of_ble_eq_true rfl) rfl (by show _ ≤ 601024; omega) rfl (by show _ ≤ 7293034; omega) (hL_law_6.at 27 rfl rfl) (fun x2 => ?_)
  refine os_iload (v := l6) 7 rfl (hL_law_6.at 28 rfl rfl) ?_
  refine os_icmp_eq (off := 5) (tgt := 672) rfl (hL_law_6.at 29 rfl rfl) ?_ ?_
  · refine os_iload (v := l6) 7 rfl (hL_law_6.at 32 rfl rfl) ?_
    refine os_if_ne (off := 22) (tgt := 696) rfl (hL_law_6.at 33 rfl rfl) ?_ ?_
    · exact osW.widen (k' := k + 2) (n' := n + 12) (by omega) (by omega) (osW.sub [1, 2, 3, 4, 5, 6] rfl (sL_law_696 N L xs hend k n hk hn c28 g28 l0 l1 l2 l3 l4 l5 rfl))
    · refine os_aload_n (i := 3) (q := 3) (v := l3) 4 rfl rfl (hL_law_6.at 34 rfl rfl) ?_
      refine os_iconst (i := 0) (v := (0 : Int32)) rfl (hL_law_6.at 35 rfl rfl) ?_
      refine os_laload (hL_law_6.at 36 rfl rfl) (fun x3 => ?_)
      refine os_iload (v := x1) 0 rfl (hL_law_6.at 37 rfl rfl) ?_
      refine os_if_eq (off := 7) (tgt := 689) rfl (hL_law_6.at 38 rfl rfl) ?_ ?_
      · refine os_lconst (i := 0) (v := 0) rfl (hL_law_6.at 41 rfl rfl) ?_
        exact osW.widen (k' := k + 2) (n' := n + 12) (by omega) (by omega) (osW.sub [1, 2, 3, 4, 5, 6] rfl (sL_law_690 N L xs hend k n hk hn c28 g28 l0 l1 l2 l3 l4 l5 (0 : Int64) x3 rfl))
      · refine os_lconst (i := 1) (v := 1) rfl (hL_law_6.at 39 rfl rfl) ?_
        refine os_goto (off := 4) (tgt := 690) rfl (hL_law_6.at 40 rfl rfl) ?_
        exact osW.widen (k' := k + 2) (n' := n + 12) (by omega) (by omega) (osW.sub [1, 2, 3, 4, 5, 6] rfl (sL_law_690 N L xs hend k n hk hn c28 g28 l0 l1 l2 l3 l4 l5 (1 : Int64) x3 rfl))
  · refine os_iconst (i := 0) (v := (0 : Int32)) rfl (hL_law_6.at 30 rfl rfl) ?_
    exact os_lawno _ (by decide)
set_option maxRecDepth 100000 in
set_option maxHeartbeats 4000000 in
theorem sL_law_623 (N L : Nat) (xs : Nat → Int32) {b : Nat} {Qf : List Frame → State → State → Prop} (hend : ∀ (k n : Nat) (lv : List (Nat × Value)), k ≤ 601024 → n ≤ 7293034 → osW (osFinL b L xs Qf) yL_law cL_law 10 (some .boolean) [] room_1 k n 2044 lv [.int (1 : Int32)] (osret (1 : Int32))) (k n : Nat) (hk : k + 6 ≤ 601024) (hn : n + 60 ≤ 7293034) (c28 : Nat × Nat × Nat × Nat × Nat × Int32 → osM Int32) (g28 : ∀ (l0 : Nat) (l1 : Nat) (l2 : Nat) (l3 : Nat) (l4 : Nat) (l5 : Int32), l0 = b → osW (osFinL b L xs Qf) yL_law cL_law 10 (some .boolean) [] room_1 (k + 6) (n + 60) 28 [(0, .ref l0), (1, .ref l1), (2, .ref l2), (3, .ref l3), (4, .ref l4), (5, .int l5)] [] (c28 (l0, l1, l2, l3, l4, l5))) (l0 : Nat) (l1 : Nat) (l2 : Nat) (l3 : Nat) (l4 : Nat) (l5 : Int32) (k0 : Int32) (k1 : Int32) (k2 : Int32) (k3 : Nat) (hl0 : l0 = b) : osW (osFinL b L xs Qf) yL_law cL_law 10 (some .boolean) [] room_1 (k + 0) (n + 0) 623 [(0, .ref l0), (1, .ref l1), (2, .ref l2), (3, .ref l3), (4, .ref l4), (5, .int l5)] [.int k0, .int k1, .int k2, .ref k3] (qL_law_623 N L xs c28 l0 l1 l2 l3 l4 l5 k0 k1 k2 k3) := by
  subst hl0
  unfold qL_law_623
  refine os_aload_n (i := 3) (q := 3) (v := l3) 3 rfl rfl (hL_law_6.at 1 rfl rfl) ?_
  refine os_callSH (np := 5) (As := [.ref k3, .int k2, .int k1, .int k0, .ref l3]) (st := []) (st' := (fun r => .int r :: [])) wd1221 wd150 (by decide +kernel) (by decide +kernel) wd1219 wd1220 (sL_passes N k3 k2 k1 k0 l3) rfl rfl (fun _ => rfl) (Nat.le_of_ble_eq_true rfl) (Nat.le_of_ble_eq_true rfl) (Nat.le_of_ble_eq_true rfl) rfl (by show _ ≤ 601024; omega) rfl (by show _ ≤ 7293034; omega) (hL_law_6.at 2 rfl rfl) (fun x1 => ?_)
  refine os_istore (i := 6) (lv' := [(6, .int x1), (0, .ref l0), (1, .ref l1), (2, .ref l2), (3, .ref l3), (4, .ref l4), (5, .int l5)]) (Nat.le_of_ble_eq_true rfl) rfl (hL_law_6.at 3 rfl rfl) ?_
  refine os_aload_n (i := 2) (q := 2) (v := l2) 3 rfl rfl (hL_law_6.at 4 rfl rfl) ?_
  refine os_aload_n (i := 0) (q := 0) (v := l0) 1 rfl rfl (hL_law_6.at 5 rfl rfl) ?_
  refine os_iload (v := l5) 6 rfl (hL_law_6.at 6 rfl rfl) ?_
  refine os_iconst (i := 1) (v := (1 : Int32)) rfl (hL_law_6.at 7 rfl rfl) ?_
  refine os_iadd (hL_law_6.at 8 rfl rfl) ?_
  refine os_sld (hL_law_6.at 9 rfl rfl) (fun x2 => ?_)
  refine os_aload_n (i := 0) (q := 0) (v := l0) 1 rfl rfl (hL_law_6.at 10 rfl rfl) ?_
  refine os_iload (v := l5) 6 rfl (hL_law_6.at 11 rfl rfl) ?_
  refine os_iconst (i := 2) (v := (2 : Int32)) rfl (hL_law_6.at 12 rfl rfl) ?_
  refine os_iadd (hL_law_6.at 13 rfl rfl) ?_
  refine os_sld (hL_law_6.at 14 rfl rfl) (fun x3 => ?_)
  refine os_aload_n (i := 0) (q := 0) (v := l0) 1 rfl rfl (hL_law_6.at 15 rfl rfl) ?_
  refine os_iload (v := l5) 6 rfl (hL_law_6.at 16 rfl rfl) ?_
  refine os_iconst (i := 3) (v := (3 : Int32)) rfl (hL_law_6.at 17 rfl rfl) ?_
  refine os_iadd (hL_law_6.at 18 rfl rfl) ?_
  refine os_sld (hL_law_6.at 19 rfl rfl) (fun x4 => ?_)
  refine os_if_eq (off := 7) (tgt := 655) rfl (hL_law_6.at 20 rfl rfl) ?_ ?_
  · refine os_iconst (i := 0) (v := (0 : Int32)) rfl (hL_law_6.at 23 rfl rfl) ?_
    exact osW.widen (k' := k + 2) (n' := n + 12) (by omega) (by omega) (osW.sub [1, 2, 3, 4, 5, 6, 0] rfl (sL_law_656 N L xs hend k n hk hn c28 g28 l0 l1 l2 l3 l4 l5 x1 (0 : Int32) x3 x2 l2 rfl))
  · refine os_iconst (i := 1) (v := (1 : Int32)) rfl (hL_law_6.at 21 rfl rfl) ?_
    refine os_goto (off := 4) (tgt := 656) rfl (hL_law_6.at 22 rfl rfl) ?_
    exact osW.widen (k' := k + 2) (n' := n + 12) (by omega) (by omega) (osW.sub [1, 2, 3, 4, 5, 6, 0] rfl (sL_law_656 N L xs hend k n hk hn c28 g28 l0 l1 l2 l3 l4 l5 x1 (1 : Int32) x3 x2 l2 rfl))
set_option maxRecDepth 100000 in
set_option maxHeartbeats 4000000 in
theorem sL_law_792 (N L : Nat) (xs : Nat → Int32) {b : Nat} {Qf : List Frame → State → State → Prop} (hend : ∀ (k n : Nat) (lv : List (Nat × Value)), k ≤ 601024 → n ≤ 7293034 → osW (osFinL b L xs Qf) yL_law cL_law 10 (some .boolean) [] room_1 k n 2044 lv [.int (1 : Int32)] (osret (1 : Int32))) (k n : Nat) (hk : k + 6 ≤ 601024) (hn : n + 60 ≤ 7293034) (c28 : Nat × Nat × Nat × Nat × Nat × Int32 → osM Int32) (g28 : ∀ (l0 : Nat) (l1 : Nat) (l2 : Nat) (l3 : Nat) (l4 : Nat) (l5 : Int32), l0 = b → osW (osFinL b L xs Qf) yL_law cL_law 10 (some .boolean) [] room_1 (k + 6) (n + 60) 28 [(0, .ref l0), (1, .ref l1), (2, .ref l2), (3, .ref l3), (4, .ref l4), (5, .int l5)] [] (c28 (l0, l1, l2, l3, l4, l5))) (l0 : Nat) (l1 : Nat) (l2 : Nat) (l3 : Nat) (l4 : Nat) (l5 : Int32) (hl0 : l0 = b) : osW (osFinL b L xs Qf) yL_law cL_law 10 (some .boolean) [] room_1 (k + 2) (n + 12) 792 [(0, .ref l0), (1, .ref l1), (2, .ref l2), (3, .ref l3), (4, .ref l4), (5, .int l5)] [] (qL_law_792 N L xs c28 l0 l1 l2 l3 l4 l5) := by
  subst hl0
  unfold qL_law_792
  refine os_goto (off := 1245) (tgt := 2037) rfl (hL_law_8.at 9 rfl rfl) ?_
  exact osW.widen (k' := k + 3) (n' := n + 18) (by omega) (by omega) (osW.sub [0, 1, 2, 3, 4, 5] rfl (sL_law_2037 N L xs hend k n hk hn c28 g28 l0 l1 l2 l3 l4 l5 rfl))
set_option maxRecDepth 100000 in
set_option maxHeartbeats 4000000 in
theorem sL_law_759 (N L : Nat) (xs : Nat → Int32) {b : Nat} {Qf : List Frame → State → State → Prop} (hend : ∀ (k n : Nat) (lv : List (Nat × Value)), k ≤ 601024 → n ≤ 7293034 → osW (osFinL b L xs Qf) yL_law cL_law 10 (some .boolean) [] room_1 k n 2044 lv [.int (1 : Int32)] (osret (1 : Int32))) (k n : Nat) (hk : k + 6 ≤ 601024) (hn : n + 60 ≤ 7293034) (c28 : Nat × Nat × Nat × Nat × Nat × Int32 → osM Int32) (g28 : ∀ (l0 : Nat) (l1 : Nat) (l2 : Nat) (l3 : Nat) (l4 : Nat) (l5 : Int32), l0 = b → osW (osFinL b L xs Qf) yL_law cL_law 10 (some .boolean) [] room_1 (k + 6) (n + 60) 28 [(0, .ref l0), (1, .ref l1), (2, .ref l2), (3, .ref l3), (4, .ref l4), (5, .int l5)] [] (c28 (l0, l1, l2, l3, l4, l5))) (l0 : Nat) (l1 : Nat) (l2 : Nat) (l3 : Nat) (l4 : Nat) (l5 : Int32) (l6 : Int32) (k0 : Int32) (k1 : Int32) (k2 : Int32) (k3 : Nat) (hl0 : l0 = b) : osW (osFinL b L xs Qf) yL_law cL_law 10 (some .boolean) [] room_1 (k + 2) (n + 12) 759 [(0, .ref l0), (1, .ref l1), (2, .ref l2), (3, .ref l3), (4, .ref l4), (5, .int l5), (6, .int l6)] [.int k0, .int k1, .int k2, .ref k3] (qL_law_759 N L xs c28 l0 l1 l2 l3 l4 l5 l6 k0 k1 k2 k3) := by
  subst hl0
  unfold qL_law_759
  refine os_callV (cis := [8]) (b := k3) (As := [.int k2, .int k1, .int k0]) (st := []) (st' := (fun r => .int r :: [])) sl8_X10_distance_X10_distance mdX10_distance wd2030 wd2031 (sX10_distance N k3 k2 k1 k0) rfl rfl (fun _ => rfl) (Nat.le_of_ble_eq_true rfl) (Nat.le_of_ble_eq_true rfl) (Nat.le_of_ble_eq_true rfl) rfl (by show _ ≤ 601024; omega) rfl (by show _ ≤ 7293034; omega) (hL_law_7.at 40 rfl rfl) (fun x1 => ?_)
  refine os_istore (i := 7) (lv' := [(7, .int x1), (0, .ref l0), (1, .ref l1), (2, .ref l2), (3, .ref l3), (4, .ref l4), (5, .int l5), (6, .int l6)]) (Nat.le_of_ble_eq_true rfl) rfl (hL_law_7.at 41 rfl rfl) ?_
  refine os_aload_n (i := 2) (q := 2) (v := l2) 3 rfl rfl (hL_law_7.at 42 rfl rfl) ?_
  refine os_callV (cis := [8]) (b := l2) (As := []) (st := []) (st' := (fun r => .int r :: [])) sl8_X10_thrown_X10_thrown mdX10_thrown wd1734 wd1735 (sX10_thrown N l2 ) rfl rfl (fun _ => rfl) (Nat.le_of_ble_eq_true rfl) (Nat.le_of_ble_eq_true rfl) (Nat.le_of_ble_eq_true rfl) rfl (by show _ ≤ 601024; omega) rfl (by show _ ≤ 7293034; omega) (hL_law_7.at 43 rfl rfl) (fun x2 => ?_)
  refine os_iload (v := l6) 7 rfl (hL_law_7.at 44 rfl rfl) ?_
  refine os_icmp_eq (off := 5) (tgt := 775) rfl (hL_law_7.at 45 rfl rfl) ?_ ?_
  · refine os_iload (v := l6) 7 rfl (hL_law_7.at 48 rfl rfl) ?_
    refine os_if_ne (off := 15) (tgt := 792) rfl (hL_law_7.at 49 rfl rfl) ?_ ?_
    · exact osW.widen (k' := k + 2) (n' := n + 12) (by omega) (by omega) (osW.sub [1, 2, 3, 4, 5, 6] rfl (sL_law_792 N L xs hend k n hk hn c28 g28 l0 l1 l2 l3 l4 l5 rfl))
    · refine os_aload_n (i := 3) (q := 3) (v := l3) 4 rfl rfl (hL_law_8.at 0 rfl rfl) ?_
      refine os_iconst (i := 0) (v := (0 : Int32)) rfl (hL_law_8.at 1 rfl rfl) ?_
      refine os_laload (hL_law_8.at 2 rfl rfl) (fun x3 => ?_)
      refine os_iload (v := x1) 0 rfl (hL_law_8.at 3 rfl rfl) ?_
      refine os_i2l (hL_law_8.at 4 rfl rfl) ?_
      refine os_lcmp (hL_law_8.at 5 rfl rfl) ?_
      refine os_if_eq (off := 5) (tgt := 792) rfl (hL_law_8.at 6 rfl rfl) ?_ ?_
      · exact osW.widen (k' := k + 2) (n' := n + 12) (by omega) (by omega) (osW.sub [1, 2, 3, 4, 5, 6] rfl (sL_law_792 N L xs hend k n hk hn c28 g28 l0 l1 l2 l3 l4 l5 rfl))
      · refine os_iconst (i := 0) (v := (0 : Int32)) rfl (hL_law_8.at 7 rfl rfl) ?_
        exact os_lawno _ (by decide)
  · refine os_iconst (i := 0) (v := (0 : Int32)) rfl (hL_law_7.at 46 rfl rfl) ?_
    exact os_lawno _ (by decide)
set_option maxRecDepth 100000 in
set_option maxHeartbeats 4000000 in
theorem sL_law_726 (N L : Nat) (xs : Nat → Int32) {b : Nat} {Qf : List Frame → State → State → Prop} (hend : ∀ (k n : Nat) (lv : List (Nat × Value)), k ≤ 601024 → n ≤ 7293034 → osW (osFinL b L xs Qf) yL_law cL_law 10 (some .boolean) [] room_1 k n 2044 lv [.int (1 : Int32)] (osret (1 : Int32))) (k n : Nat) (hk : k + 6 ≤ 601024) (hn : n + 60 ≤ 7293034) (c28 : Nat × Nat × Nat × Nat × Nat × Int32 → osM Int32) (g28 : ∀ (l0 : Nat) (l1 : Nat) (l2 : Nat) (l3 : Nat) (l4 : Nat) (l5 : Int32), l0 = b → osW (osFinL b L xs Qf) yL_law cL_law 10 (some .boolean) [] room_1 (k + 6) (n + 60) 28 [(0, .ref l0), (1, .ref l1), (2, .ref l2), (3, .ref l3), (4, .ref l4), (5, .int l5)] [] (c28 (l0, l1, l2, l3, l4, l5))) (l0 : Nat) (l1 : Nat) (l2 : Nat) (l3 : Nat) (l4 : Nat) (l5 : Int32) (k0 : Int32) (k1 : Int32) (k2 : Int32) (k3 : Nat) (hl0 : l0 = b) : osW (osFinL b L xs Qf) yL_law cL_law 10 (some .boolean) [] room_1 (k + 0) (n + 0) 726 [(0, .ref l0), (1, .ref l1), (2, .ref l2), (3, .ref l3), (4, .ref l4), (5, .int l5)] [.int k0, .int k1, .int k2, .ref k3] (qL_law_726 N L xs c28 l0 l1 l2 l3 l4 l5 k0 k1 k2 k3) := by
  subst hl0
  unfold qL_law_726
  refine os_aload_n (i := 3) (q := 3) (v := l3) 3 rfl rfl (hL_law_7.at 17 rfl rfl) ?_
  refine os_callSH (np := 5) (As := [.ref k3, .int k2, .int k1, .int k0, .ref l3]) (st := []) (st' := (fun r => .int r :: [])) wd1229 wd150 (by decide +kernel) (by decide +kernel) wd1227 wd1228 (sL_distance N k3 k2 k1 k0 l3) rfl rfl (fun _ => rfl) (Nat.le_of_ble_eq_true rfl) (Nat.le_of_ble_eq_true rfl) (Nat.le_of_ble_eq_true rfl) rfl (by show _ ≤ 601024; omega) rfl (by show _ ≤ 7293034; omega) (hL_law_7.at 18 rfl rfl) (fun x1 => ?_)
  refine os_istore (i := 6) (lv' := [(6, .int x1), (0, .ref l0), (1, .ref l1), (2, .ref l2), (3, .ref l3), (4, .ref l4), (5, .int l5)]) (Nat.le_of_ble_eq_true rfl) rfl (hL_law_7.at 19 rfl rfl) ?_
  refine os_aload_n (i := 2) (q := 2) (v := l2) 3 rfl rfl (hL_law_7.at 20 rfl rfl) ?_
  refine os_aload_n (i := 0) (q := 0) (v := l0) 1 rfl rfl (hL_law_7.at 21 rfl rfl) ?_
  refine os_iload (v := l5) 6 rfl (hL_law_7.at 22 rfl rfl) ?_
  refine os_iconst (i := 1) (v := (1 : Int32)) rfl (hL_law_7.at 23 rfl rfl) ?_
  refine os_iadd (hL_law_7.at 24 rfl rfl) ?_
  refine os_sld (hL_law_7.at 25 rfl rfl) (fun x2 => ?_)
  refine os_aload_n (i := 0) (q := 0) (v := l0) 1 rfl rfl (hL_law_7.at 26 rfl rfl) ?_
  refine os_iload (v := l5) 6 rfl (hL_law_7.at 27 rfl rfl) ?_
  refine os_iconst (i := 2) (v := (2 : Int32)) rfl (hL_law_7.at 28 rfl rfl) ?_
  refine os_iadd (hL_law_7.at 29 rfl rfl) ?_
  refine os_sld (hL_law_7.at 30 rfl rfl) (fun x3 => ?_)
  refine os_aload_n (i := 0) (q := 0) (v := l0) 1 rfl rfl (hL_law_7.at 31 rfl rfl) ?_
  refine os_iload (v := l5) 6 rfl (hL_law_7.at 32 rfl rfl) ?_
  refine os_iconst (i := 3) (v := (3 : Int32)) rfl (hL_law_7.at 33 rfl rfl) ?_
  refine os_iadd (hL_law_7.at 34 rfl rfl) ?_
  refine os_sld (hL_law_7.at 35 rfl rfl) (fun x4 => ?_)
  refine os_if_eq (off := 7) (tgt := 758) rfl (hL_law_7.at 36 rfl rfl) ?_ ?_
  · refine os_iconst (i := 0) (v := (0 : Int32)) rfl (hL_law_7.at 39 rfl rfl) ?_
    exact osW.widen (k' := k + 2) (n' := n + 12) (by omega) (by omega) (osW.sub [1, 2, 3, 4, 5, 6, 0] rfl (sL_law_759 N L xs hend k n hk hn c28 g28 l0 l1 l2 l3 l4 l5 x1 (0 : Int32) x3 x2 l2 rfl))
  · refine os_iconst (i := 1) (v := (1 : Int32)) rfl (hL_law_7.at 37 rfl rfl) ?_
    refine os_goto (off := 4) (tgt := 759) rfl (hL_law_7.at 38 rfl rfl) ?_
    exact osW.widen (k' := k + 2) (n' := n + 12) (by omega) (by omega) (osW.sub [1, 2, 3, 4, 5, 6, 0] rfl (sL_law_759 N L xs hend k n hk hn c28 g28 l0 l1 l2 l3 l4 l5 x1 (1 : Int32) x3 x2 l2 rfl))
set_option maxRecDepth 100000 in
set_option maxHeartbeats 4000000 in
theorem sL_law_860 (N L : Nat) (xs : Nat → Int32) {b : Nat} {Qf : List Frame → State → State → Prop} (hend : ∀ (k n : Nat) (lv : List (Nat × Value)), k ≤ 601024 → n ≤ 7293034 → osW (osFinL b L xs Qf) yL_law cL_law 10 (some .boolean) [] room_1 k n 2044 lv [.int (1 : Int32)] (osret (1 : Int32))) (k n : Nat) (hk : k + 6 ≤ 601024) (hn : n + 60 ≤ 7293034) (c28 : Nat × Nat × Nat × Nat × Nat × Int32 → osM Int32) (g28 : ∀ (l0 : Nat) (l1 : Nat) (l2 : Nat) (l3 : Nat) (l4 : Nat) (l5 : Int32), l0 = b → osW (osFinL b L xs Qf) yL_law cL_law 10 (some .boolean) [] room_1 (k + 6) (n + 60) 28 [(0, .ref l0), (1, .ref l1), (2, .ref l2), (3, .ref l3), (4, .ref l4), (5, .int l5)] [] (c28 (l0, l1, l2, l3, l4, l5))) (l0 : Nat) (l1 : Nat) (l2 : Nat) (l3 : Nat) (l4 : Nat) (l5 : Int32) (hl0 : l0 = b) : osW (osFinL b L xs Qf) yL_law cL_law 10 (some .boolean) [] room_1 (k + 2) (n + 12) 860 [(0, .ref l0), (1, .ref l1), (2, .ref l2), (3, .ref l3), (4, .ref l4), (5, .int l5)] [] (qL_law_860 N L xs c28 l0 l1 l2 l3 l4 l5) := by
  subst hl0
  unfold qL_law_860
  refine os_goto (off := 1177) (tgt := 2037) rfl (hL_law_9.at 4 rfl rfl) ?_
  exact osW.widen (k' := k + 3) (n' := n + 18) (by omega) (by omega) (osW.sub [0, 1, 2, 3, 4, 5] rfl (sL_law_2037 N L xs hend k n hk hn c28 g28 l0 l1 l2 l3 l4 l5 rfl))
set_option maxRecDepth 100000 in
set_option maxHeartbeats 4000000 in
theorem sL_law_954 (N L : Nat) (xs : Nat → Int32) {b : Nat} {Qf : List Frame → State → State → Prop} (hend : ∀ (k n : Nat) (lv : List (Nat × Value)), k ≤ 601024 → n ≤ 7293034 → osW (osFinL b L xs Qf) yL_law cL_law 10 (some .boolean) [] room_1 k n 2044 lv [.int (1 : Int32)] (osret (1 : Int32))) (k n : Nat) (hk : k + 6 ≤ 601024) (hn : n + 60 ≤ 7293034) (c28 : Nat × Nat × Nat × Nat × Nat × Int32 → osM Int32) (g28 : ∀ (l0 : Nat) (l1 : Nat) (l2 : Nat) (l3 : Nat) (l4 : Nat) (l5 : Int32), l0 = b → osW (osFinL b L xs Qf) yL_law cL_law 10 (some .boolean) [] room_1 (k + 6) (n + 60) 28 [(0, .ref l0), (1, .ref l1), (2, .ref l2), (3, .ref l3), (4, .ref l4), (5, .int l5)] [] (c28 (l0, l1, l2, l3, l4, l5))) (l0 : Nat) (l1 : Nat) (l2 : Nat) (l3 : Nat) (l4 : Nat) (l5 : Int32) (hl0 : l0 = b) : osW (osFinL b L xs Qf) yL_law cL_law 10 (some .boolean) [] room_1 (k + 3) (n + 18) 954 [(0, .ref l0), (1, .ref l1), (2, .ref l2), (3, .ref l3), (4, .ref l4), (5, .int l5)] [] (qL_law_954 N L xs c28 l0 l1 l2 l3 l4 l5) := by
  subst hl0
  unfold qL_law_954
  refine os_goto (off := 1083) (tgt := 2037) rfl (hL_law_10.at 13 rfl rfl) ?_
  exact osW.widen (k' := k + 3) (n' := n + 18) (by omega) (by omega) (osW.sub [0, 1, 2, 3, 4, 5] rfl (sL_law_2037 N L xs hend k n hk hn c28 g28 l0 l1 l2 l3 l4 l5 rfl))
set_option maxRecDepth 100000 in
set_option maxHeartbeats 4000000 in
theorem sL_law_998 (N L : Nat) (xs : Nat → Int32) {b : Nat} {Qf : List Frame → State → State → Prop} (hend : ∀ (k n : Nat) (lv : List (Nat × Value)), k ≤ 601024 → n ≤ 7293034 → osW (osFinL b L xs Qf) yL_law cL_law 10 (some .boolean) [] room_1 k n 2044 lv [.int (1 : Int32)] (osret (1 : Int32))) (k n : Nat) (hk : k + 6 ≤ 601024) (hn : n + 60 ≤ 7293034) (c28 : Nat × Nat × Nat × Nat × Nat × Int32 → osM Int32) (g28 : ∀ (l0 : Nat) (l1 : Nat) (l2 : Nat) (l3 : Nat) (l4 : Nat) (l5 : Int32), l0 = b → osW (osFinL b L xs Qf) yL_law cL_law 10 (some .boolean) [] room_1 (k + 6) (n + 60) 28 [(0, .ref l0), (1, .ref l1), (2, .ref l2), (3, .ref l3), (4, .ref l4), (5, .int l5)] [] (c28 (l0, l1, l2, l3, l4, l5))) (l0 : Nat) (l1 : Nat) (l2 : Nat) (l3 : Nat) (l4 : Nat) (l5 : Int32) (hl0 : l0 = b) : osW (osFinL b L xs Qf) yL_law cL_law 10 (some .boolean) [] room_1 (k + 1) (n + 6) 998 [(0, .ref l0), (1, .ref l1), (2, .ref l2), (3, .ref l3), (4, .ref l4), (5, .int l5)] [] (qL_law_998 N L xs c28 l0 l1 l2 l3 l4 l5) := by
  subst hl0
  unfold qL_law_998
  refine os_goto (off := 1039) (tgt := 2037) rfl (hL_law_10.at 38 rfl rfl) ?_
  exact osW.widen (k' := k + 3) (n' := n + 18) (by omega) (by omega) (osW.sub [0, 1, 2, 3, 4, 5] rfl (sL_law_2037 N L xs hend k n hk hn c28 g28 l0 l1 l2 l3 l4 l5 rfl))
set_option maxRecDepth 100000 in
set_option maxHeartbeats 4000000 in
theorem sL_law_1066 (N L : Nat) (xs : Nat → Int32) {b : Nat} {Qf : List Frame → State → State → Prop} (hend : ∀ (k n : Nat) (lv : List (Nat × Value)), k ≤ 601024 → n ≤ 7293034 → osW (osFinL b L xs Qf) yL_law cL_law 10 (some .boolean) [] room_1 k n 2044 lv [.int (1 : Int32)] (osret (1 : Int32))) (k n : Nat) (hk : k + 6 ≤ 601024) (hn : n + 60 ≤ 7293034) (c28 : Nat × Nat × Nat × Nat × Nat × Int32 → osM Int32) (g28 : ∀ (l0 : Nat) (l1 : Nat) (l2 : Nat) (l3 : Nat) (l4 : Nat) (l5 : Int32), l0 = b → osW (osFinL b L xs Qf) yL_law cL_law 10 (some .boolean) [] room_1 (k + 6) (n + 60) 28 [(0, .ref l0), (1, .ref l1), (2, .ref l2), (3, .ref l3), (4, .ref l4), (5, .int l5)] [] (c28 (l0, l1, l2, l3, l4, l5))) (l0 : Nat) (l1 : Nat) (l2 : Nat) (l3 : Nat) (l4 : Nat) (l5 : Int32) (hl0 : l0 = b) : osW (osFinL b L xs Qf) yL_law cL_law 10 (some .boolean) [] room_1 (k + 3) (n + 18) 1066 [(0, .ref l0), (1, .ref l1), (2, .ref l2), (3, .ref l3), (4, .ref l4), (5, .int l5)] [] (qL_law_1066 N L xs c28 l0 l1 l2 l3 l4 l5) := by
  subst hl0
  unfold qL_law_1066
  refine os_goto (off := 971) (tgt := 2037) rfl (hL_law_11.at 33 rfl rfl) ?_
  exact osW.widen (k' := k + 3) (n' := n + 18) (by omega) (by omega) (osW.sub [0, 1, 2, 3, 4, 5] rfl (sL_law_2037 N L xs hend k n hk hn c28 g28 l0 l1 l2 l3 l4 l5 rfl))
set_option maxRecDepth 100000 in
set_option maxHeartbeats 4000000 in
theorem sL_law_1110 (N L : Nat) (xs : Nat → Int32) {b : Nat} {Qf : List Frame → State → State → Prop} (hend : ∀ (k n : Nat) (lv : List (Nat × Value)), k ≤ 601024 → n ≤ 7293034 → osW (osFinL b L xs Qf) yL_law cL_law 10 (some .boolean) [] room_1 k n 2044 lv [.int (1 : Int32)] (osret (1 : Int32))) (k n : Nat) (hk : k + 6 ≤ 601024) (hn : n + 60 ≤ 7293034) (c28 : Nat × Nat × Nat × Nat × Nat × Int32 → osM Int32) (g28 : ∀ (l0 : Nat) (l1 : Nat) (l2 : Nat) (l3 : Nat) (l4 : Nat) (l5 : Int32), l0 = b → osW (osFinL b L xs Qf) yL_law cL_law 10 (some .boolean) [] room_1 (k + 6) (n + 60) 28 [(0, .ref l0), (1, .ref l1), (2, .ref l2), (3, .ref l3), (4, .ref l4), (5, .int l5)] [] (c28 (l0, l1, l2, l3, l4, l5))) (l0 : Nat) (l1 : Nat) (l2 : Nat) (l3 : Nat) (l4 : Nat) (l5 : Int32) (hl0 : l0 = b) : osW (osFinL b L xs Qf) yL_law cL_law 10 (some .boolean) [] room_1 (k + 1) (n + 6) 1110 [(0, .ref l0), (1, .ref l1), (2, .ref l2), (3, .ref l3), (4, .ref l4), (5, .int l5)] [] (qL_law_1110 N L xs c28 l0 l1 l2 l3 l4 l5) := by
  subst hl0
  unfold qL_law_1110
  refine os_goto (off := 927) (tgt := 2037) rfl (hL_law_12.at 8 rfl rfl) ?_
  exact osW.widen (k' := k + 3) (n' := n + 18) (by omega) (by omega) (osW.sub [0, 1, 2, 3, 4, 5] rfl (sL_law_2037 N L xs hend k n hk hn c28 g28 l0 l1 l2 l3 l4 l5 rfl))
set_option maxRecDepth 100000 in
set_option maxHeartbeats 4000000 in
theorem sL_law_1173 (N L : Nat) (xs : Nat → Int32) {b : Nat} {Qf : List Frame → State → State → Prop} (hend : ∀ (k n : Nat) (lv : List (Nat × Value)), k ≤ 601024 → n ≤ 7293034 → osW (osFinL b L xs Qf) yL_law cL_law 10 (some .boolean) [] room_1 k n 2044 lv [.int (1 : Int32)] (osret (1 : Int32))) (k n : Nat) (hk : k + 6 ≤ 601024) (hn : n + 60 ≤ 7293034) (c28 : Nat × Nat × Nat × Nat × Nat × Int32 → osM Int32) (g28 : ∀ (l0 : Nat) (l1 : Nat) (l2 : Nat) (l3 : Nat) (l4 : Nat) (l5 : Int32), l0 = b → osW (osFinL b L xs Qf) yL_law cL_law 10 (some .boolean) [] room_1 (k + 6) (n + 60) 28 [(0, .ref l0), (1, .ref l1), (2, .ref l2), (3, .ref l3), (4, .ref l4), (5, .int l5)] [] (c28 (l0, l1, l2, l3, l4, l5))) (l0 : Nat) (l1 : Nat) (l2 : Nat) (l3 : Nat) (l4 : Nat) (l5 : Int32) (hl0 : l0 = b) : osW (osFinL b L xs Qf) yL_law cL_law 10 (some .boolean) [] room_1 (k + 2) (n + 12) 1173 [(0, .ref l0), (1, .ref l1), (2, .ref l2), (3, .ref l3), (4, .ref l4), (5, .int l5)] [] (qL_law_1173 N L xs c28 l0 l1 l2 l3 l4 l5) := by
  subst hl0
  unfold qL_law_1173
  refine os_goto (off := 864) (tgt := 2037) rfl (hL_law_12.at 46 rfl rfl) ?_
  exact osW.widen (k' := k + 3) (n' := n + 18) (by omega) (by omega) (osW.sub [0, 1, 2, 3, 4, 5] rfl (sL_law_2037 N L xs hend k n hk hn c28 g28 l0 l1 l2 l3 l4 l5 rfl))
set_option maxRecDepth 100000 in
set_option maxHeartbeats 4000000 in
theorem sL_law_1167 (N L : Nat) (xs : Nat → Int32) {b : Nat} {Qf : List Frame → State → State → Prop} (hend : ∀ (k n : Nat) (lv : List (Nat × Value)), k ≤ 601024 → n ≤ 7293034 → osW (osFinL b L xs Qf) yL_law cL_law 10 (some .boolean) [] room_1 k n 2044 lv [.int (1 : Int32)] (osret (1 : Int32))) (k n : Nat) (hk : k + 6 ≤ 601024) (hn : n + 60 ≤ 7293034) (c28 : Nat × Nat × Nat × Nat × Nat × Int32 → osM Int32) (g28 : ∀ (l0 : Nat) (l1 : Nat) (l2 : Nat) (l3 : Nat) (l4 : Nat) (l5 : Int32), l0 = b → osW (osFinL b L xs Qf) yL_law cL_law 10 (some .boolean) [] room_1 (k + 6) (n + 60) 28 [(0, .ref l0), (1, .ref l1), (2, .ref l2), (3, .ref l3), (4, .ref l4), (5, .int l5)] [] (c28 (l0, l1, l2, l3, l4, l5))) (l0 : Nat) (l1 : Nat) (l2 : Nat) (l3 : Nat) (l4 : Nat) (l5 : Int32) (k0 : Int64) (k1 : Int64) (hl0 : l0 = b) : osW (osFinL b L xs Qf) yL_law cL_law 10 (some .boolean) [] room_1 (k + 2) (n + 12) 1167 [(0, .ref l0), (1, .ref l1), (2, .ref l2), (3, .ref l3), (4, .ref l4), (5, .int l5)] [.long k0, .long k1] (qL_law_1167 N L xs c28 l0 l1 l2 l3 l4 l5 k0 k1) := by
  subst hl0
  unfold qL_law_1167
  refine os_lcmp (hL_law_12.at 42 rfl rfl) ?_
  refine os_if_eq (off := 5) (tgt := 1173) rfl (hL_law_12.at 43 rfl rfl) ?_ ?_
  · exact osW.widen (k' := k + 2) (n' := n + 12) (by omega) (by omega) (osW.sub [0, 1, 2, 3, 4, 5] rfl (sL_law_1173 N L xs hend k n hk hn c28 g28 l0 l1 l2 l3 l4 l5 rfl))
  · refine os_iconst (i := 0) (v := (0 : Int32)) rfl (hL_law_12.at 44 rfl rfl) ?_
    exact os_lawno _ (by decide)
set_option maxRecDepth 100000 in
set_option maxHeartbeats 4000000 in
theorem sL_law_1248 (N L : Nat) (xs : Nat → Int32) {b : Nat} {Qf : List Frame → State → State → Prop} (hend : ∀ (k n : Nat) (lv : List (Nat × Value)), k ≤ 601024 → n ≤ 7293034 → osW (osFinL b L xs Qf) yL_law cL_law 10 (some .boolean) [] room_1 k n 2044 lv [.int (1 : Int32)] (osret (1 : Int32))) (k n : Nat) (hk : k + 6 ≤ 601024) (hn : n + 60 ≤ 7293034) (c28 : Nat × Nat × Nat × Nat × Nat × Int32 → osM Int32) (g28 : ∀ (l0 : Nat) (l1 : Nat) (l2 : Nat) (l3 : Nat) (l4 : Nat) (l5 : Int32), l0 = b → osW (osFinL b L xs Qf) yL_law cL_law 10 (some .boolean) [] room_1 (k + 6) (n + 60) 28 [(0, .ref l0), (1, .ref l1), (2, .ref l2), (3, .ref l3), (4, .ref l4), (5, .int l5)] [] (c28 (l0, l1, l2, l3, l4, l5))) (l0 : Nat) (l1 : Nat) (l2 : Nat) (l3 : Nat) (l4 : Nat) (l5 : Int32) (hl0 : l0 = b) : osW (osFinL b L xs Qf) yL_law cL_law 10 (some .boolean) [] room_1 (k + 3) (n + 18) 1248 [(0, .ref l0), (1, .ref l1), (2, .ref l2), (3, .ref l3), (4, .ref l4), (5, .int l5)] [] (qL_law_1248 N L xs c28 l0 l1 l2 l3 l4 l5) := by
  subst hl0
  unfold qL_law_1248
  refine os_goto (off := 789) (tgt := 2037) rfl (hL_law_13.at 44 rfl rfl) ?_
  exact osW.widen (k' := k + 3) (n' := n + 18) (by omega) (by omega) (osW.sub [0, 1, 2, 3, 4, 5] rfl (sL_law_2037 N L xs hend k n hk hn c28 g28 l0 l1 l2 l3 l4 l5 rfl))
set_option maxRecDepth 100000 in
set_option maxHeartbeats 4000000 in
theorem sL_law_1242 (N L : Nat) (xs : Nat → Int32) {b : Nat} {Qf : List Frame → State → State → Prop} (hend : ∀ (k n : Nat) (lv : List (Nat × Value)), k ≤ 601024 → n ≤ 7293034 → osW (osFinL b L xs Qf) yL_law cL_law 10 (some .boolean) [] room_1 k n 2044 lv [.int (1 : Int32)] (osret (1 : Int32))) (k n : Nat) (hk : k + 6 ≤ 601024) (hn : n + 60 ≤ 7293034) (c28 : Nat × Nat × Nat × Nat × Nat × Int32 → osM Int32) (g28 : ∀ (l0 : Nat) (l1 : Nat) (l2 : Nat) (l3 : Nat) (l4 : Nat) (l5 : Int32), l0 = b → osW (osFinL b L xs Qf) yL_law cL_law 10 (some .boolean) [] room_1 (k + 6) (n + 60) 28 [(0, .ref l0), (1, .ref l1), (2, .ref l2), (3, .ref l3), (4, .ref l4), (5, .int l5)] [] (c28 (l0, l1, l2, l3, l4, l5))) (l0 : Nat) (l1 : Nat) (l2 : Nat) (l3 : Nat) (l4 : Nat) (l5 : Int32) (k0 : Int64) (k1 : Int64) (hl0 : l0 = b) : osW (osFinL b L xs Qf) yL_law cL_law 10 (some .boolean) [] room_1 (k + 3) (n + 18) 1242 [(0, .ref l0), (1, .ref l1), (2, .ref l2), (3, .ref l3), (4, .ref l4), (5, .int l5)] [.long k0, .long k1] (qL_law_1242 N L xs c28 l0 l1 l2 l3 l4 l5 k0 k1) := by
  subst hl0
  unfold qL_law_1242
  refine os_lcmp (hL_law_13.at 40 rfl rfl) ?_
  refine os_if_eq (off := 5) (tgt := 1248) rfl (hL_law_13.at 41 rfl rfl) ?_ ?_
  · exact osW.widen (k' := k + 3) (n' := n + 18) (by omega) (by omega) (osW.sub [0, 1, 2, 3, 4, 5] rfl (sL_law_1248 N L xs hend k n hk hn c28 g28 l0 l1 l2 l3 l4 l5 rfl))
  · refine os_iconst (i := 0) (v := (0 : Int32)) rfl (hL_law_13.at 42 rfl rfl) ?_
    exact os_lawno _ (by decide)
set_option maxRecDepth 100000 in
set_option maxHeartbeats 4000000 in
theorem sL_law_1292 (N L : Nat) (xs : Nat → Int32) {b : Nat} {Qf : List Frame → State → State → Prop} (hend : ∀ (k n : Nat) (lv : List (Nat × Value)), k ≤ 601024 → n ≤ 7293034 → osW (osFinL b L xs Qf) yL_law cL_law 10 (some .boolean) [] room_1 k n 2044 lv [.int (1 : Int32)] (osret (1 : Int32))) (k n : Nat) (hk : k + 6 ≤ 601024) (hn : n + 60 ≤ 7293034) (c28 : Nat × Nat × Nat × Nat × Nat × Int32 → osM Int32) (g28 : ∀ (l0 : Nat) (l1 : Nat) (l2 : Nat) (l3 : Nat) (l4 : Nat) (l5 : Int32), l0 = b → osW (osFinL b L xs Qf) yL_law cL_law 10 (some .boolean) [] room_1 (k + 6) (n + 60) 28 [(0, .ref l0), (1, .ref l1), (2, .ref l2), (3, .ref l3), (4, .ref l4), (5, .int l5)] [] (c28 (l0, l1, l2, l3, l4, l5))) (l0 : Nat) (l1 : Nat) (l2 : Nat) (l3 : Nat) (l4 : Nat) (l5 : Int32) (hl0 : l0 = b) : osW (osFinL b L xs Qf) yL_law cL_law 10 (some .boolean) [] room_1 (k + 1) (n + 6) 1292 [(0, .ref l0), (1, .ref l1), (2, .ref l2), (3, .ref l3), (4, .ref l4), (5, .int l5)] [] (qL_law_1292 N L xs c28 l0 l1 l2 l3 l4 l5) := by
  subst hl0
  unfold qL_law_1292
  refine os_goto (off := 745) (tgt := 2037) rfl (hL_law_14.at 19 rfl rfl) ?_
  exact osW.widen (k' := k + 3) (n' := n + 18) (by omega) (by omega) (osW.sub [0, 1, 2, 3, 4, 5] rfl (sL_law_2037 N L xs hend k n hk hn c28 g28 l0 l1 l2 l3 l4 l5 rfl))
set_option maxRecDepth 100000 in
set_option maxHeartbeats 4000000 in
theorem sL_law_1336 (N L : Nat) (xs : Nat → Int32) {b : Nat} {Qf : List Frame → State → State → Prop} (hend : ∀ (k n : Nat) (lv : List (Nat × Value)), k ≤ 601024 → n ≤ 7293034 → osW (osFinL b L xs Qf) yL_law cL_law 10 (some .boolean) [] room_1 k n 2044 lv [.int (1 : Int32)] (osret (1 : Int32))) (k n : Nat) (hk : k + 6 ≤ 601024) (hn : n + 60 ≤ 7293034) (c28 : Nat × Nat × Nat × Nat × Nat × Int32 → osM Int32) (g28 : ∀ (l0 : Nat) (l1 : Nat) (l2 : Nat) (l3 : Nat) (l4 : Nat) (l5 : Int32), l0 = b → osW (osFinL b L xs Qf) yL_law cL_law 10 (some .boolean) [] room_1 (k + 6) (n + 60) 28 [(0, .ref l0), (1, .ref l1), (2, .ref l2), (3, .ref l3), (4, .ref l4), (5, .int l5)] [] (c28 (l0, l1, l2, l3, l4, l5))) (l0 : Nat) (l1 : Nat) (l2 : Nat) (l3 : Nat) (l4 : Nat) (l5 : Int32) (hl0 : l0 = b) : osW (osFinL b L xs Qf) yL_law cL_law 10 (some .boolean) [] room_1 (k + 1) (n + 6) 1336 [(0, .ref l0), (1, .ref l1), (2, .ref l2), (3, .ref l3), (4, .ref l4), (5, .int l5)] [] (qL_law_1336 N L xs c28 l0 l1 l2 l3 l4 l5) := by
  subst hl0
  unfold qL_law_1336
  refine os_goto (off := 701) (tgt := 2037) rfl (hL_law_14.at 44 rfl rfl) ?_
  exact osW.widen (k' := k + 3) (n' := n + 18) (by omega) (by omega) (osW.sub [0, 1, 2, 3, 4, 5] rfl (sL_law_2037 N L xs hend k n hk hn c28 g28 l0 l1 l2 l3 l4 l5 rfl))
set_option maxRecDepth 100000 in
set_option maxHeartbeats 4000000 in
theorem sL_law_1380 (N L : Nat) (xs : Nat → Int32) {b : Nat} {Qf : List Frame → State → State → Prop} (hend : ∀ (k n : Nat) (lv : List (Nat × Value)), k ≤ 601024 → n ≤ 7293034 → osW (osFinL b L xs Qf) yL_law cL_law 10 (some .boolean) [] room_1 k n 2044 lv [.int (1 : Int32)] (osret (1 : Int32))) (k n : Nat) (hk : k + 6 ≤ 601024) (hn : n + 60 ≤ 7293034) (c28 : Nat × Nat × Nat × Nat × Nat × Int32 → osM Int32) (g28 : ∀ (l0 : Nat) (l1 : Nat) (l2 : Nat) (l3 : Nat) (l4 : Nat) (l5 : Int32), l0 = b → osW (osFinL b L xs Qf) yL_law cL_law 10 (some .boolean) [] room_1 (k + 6) (n + 60) 28 [(0, .ref l0), (1, .ref l1), (2, .ref l2), (3, .ref l3), (4, .ref l4), (5, .int l5)] [] (c28 (l0, l1, l2, l3, l4, l5))) (l0 : Nat) (l1 : Nat) (l2 : Nat) (l3 : Nat) (l4 : Nat) (l5 : Int32) (hl0 : l0 = b) : osW (osFinL b L xs Qf) yL_law cL_law 10 (some .boolean) [] room_1 (k + 1) (n + 6) 1380 [(0, .ref l0), (1, .ref l1), (2, .ref l2), (3, .ref l3), (4, .ref l4), (5, .int l5)] [] (qL_law_1380 N L xs c28 l0 l1 l2 l3 l4 l5) := by
  subst hl0
  unfold qL_law_1380
  refine os_goto (off := 657) (tgt := 2037) rfl (hL_law_15.at 19 rfl rfl) ?_
  exact osW.widen (k' := k + 3) (n' := n + 18) (by omega) (by omega) (osW.sub [0, 1, 2, 3, 4, 5] rfl (sL_law_2037 N L xs hend k n hk hn c28 g28 l0 l1 l2 l3 l4 l5 rfl))
set_option maxRecDepth 100000 in
set_option maxHeartbeats 4000000 in
theorem sL_law_1461 (N L : Nat) (xs : Nat → Int32) {b : Nat} {Qf : List Frame → State → State → Prop} (hend : ∀ (k n : Nat) (lv : List (Nat × Value)), k ≤ 601024 → n ≤ 7293034 → osW (osFinL b L xs Qf) yL_law cL_law 10 (some .boolean) [] room_1 k n 2044 lv [.int (1 : Int32)] (osret (1 : Int32))) (k n : Nat) (hk : k + 6 ≤ 601024) (hn : n + 60 ≤ 7293034) (c28 : Nat × Nat × Nat × Nat × Nat × Int32 → osM Int32) (g28 : ∀ (l0 : Nat) (l1 : Nat) (l2 : Nat) (l3 : Nat) (l4 : Nat) (l5 : Int32), l0 = b → osW (osFinL b L xs Qf) yL_law cL_law 10 (some .boolean) [] room_1 (k + 6) (n + 60) 28 [(0, .ref l0), (1, .ref l1), (2, .ref l2), (3, .ref l3), (4, .ref l4), (5, .int l5)] [] (c28 (l0, l1, l2, l3, l4, l5))) (l0 : Nat) (l1 : Nat) (l2 : Nat) (l3 : Nat) (l4 : Nat) (l5 : Int32) (hl0 : l0 = b) : osW (osFinL b L xs Qf) yL_law cL_law 10 (some .boolean) [] room_1 (k + 3) (n + 18) 1461 [(0, .ref l0), (1, .ref l1), (2, .ref l2), (3, .ref l3), (4, .ref l4), (5, .int l5)] [] (qL_law_1461 N L xs c28 l0 l1 l2 l3 l4 l5) := by
  subst hl0
  unfold qL_law_1461
  refine os_goto (off := 576) (tgt := 2037) rfl (hL_law_16.at 21 rfl rfl) ?_
  exact osW.widen (k' := k + 3) (n' := n + 18) (by omega) (by omega) (osW.sub [0, 1, 2, 3, 4, 5] rfl (sL_law_2037 N L xs hend k n hk hn c28 g28 l0 l1 l2 l3 l4 l5 rfl))
set_option maxRecDepth 100000 in
set_option maxHeartbeats 4000000 in
theorem sL_law_1529 (N L : Nat) (xs : Nat → Int32) {b : Nat} {Qf : List Frame → State → State → Prop} (hend : ∀ (k n : Nat) (lv : List (Nat × Value)), k ≤ 601024 → n ≤ 7293034 → osW (osFinL b L xs Qf) yL_law cL_law 10 (some .boolean) [] room_1 k n 2044 lv [.int (1 : Int32)] (osret (1 : Int32))) (k n : Nat) (hk : k + 6 ≤ 601024) (hn : n + 60 ≤ 7293034) (c28 : Nat × Nat × Nat × Nat × Nat × Int32 → osM Int32) (g28 : ∀ (l0 : Nat) (l1 : Nat) (l2 : Nat) (l3 : Nat) (l4 : Nat) (l5 : Int32), l0 = b → osW (osFinL b L xs Qf) yL_law cL_law 10 (some .boolean) [] room_1 (k + 6) (n + 60) 28 [(0, .ref l0), (1, .ref l1), (2, .ref l2), (3, .ref l3), (4, .ref l4), (5, .int l5)] [] (c28 (l0, l1, l2, l3, l4, l5))) (l0 : Nat) (l1 : Nat) (l2 : Nat) (l3 : Nat) (l4 : Nat) (l5 : Int32) (hl0 : l0 = b) : osW (osFinL b L xs Qf) yL_law cL_law 10 (some .boolean) [] room_1 (k + 3) (n + 18) 1529 [(0, .ref l0), (1, .ref l1), (2, .ref l2), (3, .ref l3), (4, .ref l4), (5, .int l5)] [] (qL_law_1529 N L xs c28 l0 l1 l2 l3 l4 l5) := by
  subst hl0
  unfold qL_law_1529
  refine os_goto (off := 508) (tgt := 2037) rfl (hL_law_17.at 16 rfl rfl) ?_
  exact osW.widen (k' := k + 3) (n' := n + 18) (by omega) (by omega) (osW.sub [0, 1, 2, 3, 4, 5] rfl (sL_law_2037 N L xs hend k n hk hn c28 g28 l0 l1 l2 l3 l4 l5 rfl))
set_option maxRecDepth 100000 in
set_option maxHeartbeats 4000000 in
theorem sL_law_1625 (N L : Nat) (xs : Nat → Int32) {b : Nat} {Qf : List Frame → State → State → Prop} (hend : ∀ (k n : Nat) (lv : List (Nat × Value)), k ≤ 601024 → n ≤ 7293034 → osW (osFinL b L xs Qf) yL_law cL_law 10 (some .boolean) [] room_1 k n 2044 lv [.int (1 : Int32)] (osret (1 : Int32))) (k n : Nat) (hk : k + 6 ≤ 601024) (hn : n + 60 ≤ 7293034) (c28 : Nat × Nat × Nat × Nat × Nat × Int32 → osM Int32) (g28 : ∀ (l0 : Nat) (l1 : Nat) (l2 : Nat) (l3 : Nat) (l4 : Nat) (l5 : Int32), l0 = b → osW (osFinL b L xs Qf) yL_law cL_law 10 (some .boolean) [] room_1 (k + 6) (n + 60) 28 [(0, .ref l0), (1, .ref l1), (2, .ref l2), (3, .ref l3), (4, .ref l4), (5, .int l5)] [] (c28 (l0, l1, l2, l3, l4, l5))) (l0 : Nat) (l1 : Nat) (l2 : Nat) (l3 : Nat) (l4 : Nat) (l5 : Int32) (hl0 : l0 = b) : osW (osFinL b L xs Qf) yL_law cL_law 10 (some .boolean) [] room_1 (k + 2) (n + 12) 1625 [(0, .ref l0), (1, .ref l1), (2, .ref l2), (3, .ref l3), (4, .ref l4), (5, .int l5)] [] (qL_law_1625 N L xs c28 l0 l1 l2 l3 l4 l5) := by
  subst hl0
  unfold qL_law_1625
  refine os_goto (off := 412) (tgt := 2037) rfl (hL_law_18.at 29 rfl rfl) ?_
  exact osW.widen (k' := k + 3) (n' := n + 18) (by omega) (by omega) (osW.sub [0, 1, 2, 3, 4, 5] rfl (sL_law_2037 N L xs hend k n hk hn c28 g28 l0 l1 l2 l3 l4 l5 rfl))
set_option maxRecDepth 100000 in
set_option maxHeartbeats 4000000 in
theorem sL_law_1592 (N L : Nat) (xs : Nat → Int32) {b : Nat} {Qf : List Frame → State → State → Prop} (hend : ∀ (k n : Nat) (lv : List (Nat × Value)), k ≤ 601024 → n ≤ 7293034 → osW (osFinL b L xs Qf) yL_law cL_law 10 (some .boolean) [] room_1 k n 2044 lv [.int (1 : Int32)] (osret (1 : Int32))) (k n : Nat) (hk : k + 6 ≤ 601024) (hn : n + 60 ≤ 7293034) (c28 : Nat × Nat × Nat × Nat × Nat × Int32 → osM Int32) (g28 : ∀ (l0 : Nat) (l1 : Nat) (l2 : Nat) (l3 : Nat) (l4 : Nat) (l5 : Int32), l0 = b → osW (osFinL b L xs Qf) yL_law cL_law 10 (some .boolean) [] room_1 (k + 6) (n + 60) 28 [(0, .ref l0), (1, .ref l1), (2, .ref l2), (3, .ref l3), (4, .ref l4), (5, .int l5)] [] (c28 (l0, l1, l2, l3, l4, l5))) (l0 : Nat) (l1 : Nat) (l2 : Nat) (l3 : Nat) (l4 : Nat) (l5 : Int32) (l6 : Int32) (k0 : Int32) (k1 : Int32) (k2 : Int32) (k3 : Nat) (hl0 : l0 = b) : osW (osFinL b L xs Qf) yL_law cL_law 10 (some .boolean) [] room_1 (k + 2) (n + 12) 1592 [(0, .ref l0), (1, .ref l1), (2, .ref l2), (3, .ref l3), (4, .ref l4), (5, .int l5), (6, .int l6)] [.int k0, .int k1, .int k2, .ref k3] (qL_law_1592 N L xs c28 l0 l1 l2 l3 l4 l5 l6 k0 k1 k2 k3) := by
  subst hl0
  unfold qL_law_1592
  refine os_callV (cis := [8]) (b := k3) (As := [.int k2, .int k1, .int k0]) (st := []) (st' := (fun r => .int r :: [])) sl8_X10_reach_X10_reach mdX10_reach wd2217 wd2218 (sX10_reach N k3 k2 k1 k0) rfl rfl (fun _ => rfl) (Nat.le_of_ble_eq_true rfl) (Nat.le_of_ble_eq_true rfl) (Nat.le_of_ble_eq_true rfl) rfl (by show _ ≤ 601024; omega) rfl (by show _ ≤ 7293034; omega) (hL_law_18.at 10 rfl rfl) (fun x1 => ?_)
  refine os_istore (i := 7) (lv' := [(7, .int x1), (0, .ref l0), (1, .ref l1), (2, .ref l2), (3, .ref l3), (4, .ref l4), (5, .int l5), (6, .int l6)]) (Nat.le_of_ble_eq_true rfl) rfl (hL_law_18.at 11 rfl rfl) ?_
  refine os_aload_n (i := 2) (q := 2) (v := l2) 3 rfl rfl (hL_law_18.at 12 rfl rfl) ?_
  refine os_callV (cis := [8]) (b := l2) (As := []) (st := []) (st' := (fun r => .int r :: [])) sl8_X10_thrown_X10_thrown mdX10_thrown wd1734 wd1735 (sX10_thrown N l2 ) rfl rfl (fun _ => rfl) (Nat.le_of_ble_eq_true rfl) (Nat.le_of_ble_eq_true rfl) (Nat.le_of_ble_eq_true rfl) rfl (by show _ ≤ 601024; omega) rfl (by show _ ≤ 7293034; omega) (hL_law_18.at 13 rfl rfl) (fun x2 => ?_)
  refine os_iload (v := l6) 7 rfl (hL_law_18.at 14 rfl rfl) ?_
  refine os_icmp_eq (off := 5) (tgt := 1608) rfl (hL_law_18.at 15 rfl rfl) ?_ ?_
  · refine os_iload (v := l6) 7 rfl (hL_law_18.at 18 rfl rfl) ?_
    refine os_if_ne (off := 15) (tgt := 1625) rfl (hL_law_18.at 19 rfl rfl) ?_ ?_
    · exact osW.widen (k' := k + 2) (n' := n + 12) (by omega) (by omega) (osW.sub [1, 2, 3, 4, 5, 6] rfl (sL_law_1625 N L xs hend k n hk hn c28 g28 l0 l1 l2 l3 l4 l5 rfl))
    · refine os_aload_n (i := 3) (q := 3) (v := l3) 4 rfl rfl (hL_law_18.at 20 rfl rfl) ?_
      refine os_iconst (i := 0) (v := (0 : Int32)) rfl (hL_law_18.at 21 rfl rfl) ?_
      refine os_laload (hL_law_18.at 22 rfl rfl) (fun x3 => ?_)
      refine os_iload (v := x1) 0 rfl (hL_law_18.at 23 rfl rfl) ?_
      refine os_i2l (hL_law_18.at 24 rfl rfl) ?_
      refine os_lcmp (hL_law_18.at 25 rfl rfl) ?_
      refine os_if_eq (off := 5) (tgt := 1625) rfl (hL_law_18.at 26 rfl rfl) ?_ ?_
      · exact osW.widen (k' := k + 2) (n' := n + 12) (by omega) (by omega) (osW.sub [1, 2, 3, 4, 5, 6] rfl (sL_law_1625 N L xs hend k n hk hn c28 g28 l0 l1 l2 l3 l4 l5 rfl))
      · refine os_iconst (i := 0) (v := (0 : Int32)) rfl (hL_law_18.at 27 rfl rfl) ?_
        exact os_lawno _ (by decide)
  · refine os_iconst (i := 0) (v := (0 : Int32)) rfl (hL_law_18.at 16 rfl rfl) ?_
    exact os_lawno _ (by decide)
set_option maxRecDepth 100000 in
set_option maxHeartbeats 4000000 in
theorem sL_law_1559 (N L : Nat) (xs : Nat → Int32) {b : Nat} {Qf : List Frame → State → State → Prop} (hend : ∀ (k n : Nat) (lv : List (Nat × Value)), k ≤ 601024 → n ≤ 7293034 → osW (osFinL b L xs Qf) yL_law cL_law 10 (some .boolean) [] room_1 k n 2044 lv [.int (1 : Int32)] (osret (1 : Int32))) (k n : Nat) (hk : k + 6 ≤ 601024) (hn : n + 60 ≤ 7293034) (c28 : Nat × Nat × Nat × Nat × Nat × Int32 → osM Int32) (g28 : ∀ (l0 : Nat) (l1 : Nat) (l2 : Nat) (l3 : Nat) (l4 : Nat) (l5 : Int32), l0 = b → osW (osFinL b L xs Qf) yL_law cL_law 10 (some .boolean) [] room_1 (k + 6) (n + 60) 28 [(0, .ref l0), (1, .ref l1), (2, .ref l2), (3, .ref l3), (4, .ref l4), (5, .int l5)] [] (c28 (l0, l1, l2, l3, l4, l5))) (l0 : Nat) (l1 : Nat) (l2 : Nat) (l3 : Nat) (l4 : Nat) (l5 : Int32) (k0 : Int32) (k1 : Int32) (k2 : Int32) (k3 : Nat) (hl0 : l0 = b) : osW (osFinL b L xs Qf) yL_law cL_law 10 (some .boolean) [] room_1 (k + 0) (n + 0) 1559 [(0, .ref l0), (1, .ref l1), (2, .ref l2), (3, .ref l3), (4, .ref l4), (5, .int l5)] [.int k0, .int k1, .int k2, .ref k3] (qL_law_1559 N L xs c28 l0 l1 l2 l3 l4 l5 k0 k1 k2 k3) := by
  subst hl0
  unfold qL_law_1559
  refine os_aload_n (i := 3) (q := 3) (v := l3) 3 rfl rfl (hL_law_17.at 37 rfl rfl) ?_
  refine os_callSH (np := 5) (As := [.ref k3, .int k2, .int k1, .int k0, .ref l3]) (st := []) (st' := (fun r => .int r :: [])) wd1492 wd150 (by decide +kernel) (by decide +kernel) wd1490 wd1491 (sL_reach N k3 k2 k1 k0 l3) rfl rfl (fun _ => rfl) (Nat.le_of_ble_eq_true rfl) (Nat.le_of_ble_eq_true rfl) (Nat.le_of_ble_eq_true rfl) rfl (by show _ ≤ 601024; omega) rfl (by show _ ≤ 7293034; omega) (hL_law_17.at 38 rfl rfl) (fun x1 => ?_)
  refine os_istore (i := 6) (lv' := [(6, .int x1), (0, .ref l0), (1, .ref l1), (2, .ref l2), (3, .ref l3), (4, .ref l4), (5, .int l5)]) (Nat.le_of_ble_eq_true rfl) rfl (hL_law_17.at 39 rfl rfl) ?_
  refine os_aload_n (i := 2) (q := 2) (v := l2) 3 rfl rfl (hL_law_17.at 40 rfl rfl) ?_
  refine os_aload_n (i := 0) (q := 0) (v := l0) 1 rfl rfl (hL_law_17.at 41 rfl rfl) ?_
  refine os_iload (v := l5) 6 rfl (hL_law_17.at 42 rfl rfl) ?_
  refine os_iconst (i := 1) (v := (1 : Int32)) rfl (hL_law_17.at 43 rfl rfl) ?_
  refine os_iadd (hL_law_17.at 44 rfl rfl) ?_
  refine os_sld (hL_law_17.at 45 rfl rfl) (fun x2 => ?_)
  refine os_aload_n (i := 0) (q := 0) (v := l0) 1 rfl rfl (hL_law_17.at 46 rfl rfl) ?_
  refine os_iload (v := l5) 6 rfl (hL_law_17.at 47 rfl rfl) ?_
  refine os_iconst (i := 2) (v := (2 : Int32)) rfl (hL_law_17.at 48 rfl rfl) ?_
  refine os_iadd (hL_law_17.at 49 rfl rfl) ?_
  refine os_sld (hL_law_18.at 0 rfl rfl) (fun x3 => ?_)
  refine os_aload_n (i := 0) (q := 0) (v := l0) 1 rfl rfl (hL_law_18.at 1 rfl rfl) ?_
  refine os_iload (v := l5) 6 rfl (hL_law_18.at 2 rfl rfl) ?_
  refine os_iconst (i := 3) (v := (3 : Int32)) rfl (hL_law_18.at 3 rfl rfl) ?_
  refine os_iadd (hL_law_18.at 4 rfl rfl) ?_
  refine os_sld (hL_law_18.at 5 rfl rfl) (fun x4 => ?_)
  refine os_if_eq (off := 7) (tgt := 1591) rfl (hL_law_18.at 6 rfl rfl) ?_ ?_
  · refine os_iconst (i := 0) (v := (0 : Int32)) rfl (hL_law_18.at 9 rfl rfl) ?_
    exact osW.widen (k' := k + 2) (n' := n + 12) (by omega) (by omega) (osW.sub [1, 2, 3, 4, 5, 6, 0] rfl (sL_law_1592 N L xs hend k n hk hn c28 g28 l0 l1 l2 l3 l4 l5 x1 (0 : Int32) x3 x2 l2 rfl))
  · refine os_iconst (i := 1) (v := (1 : Int32)) rfl (hL_law_18.at 7 rfl rfl) ?_
    refine os_goto (off := 4) (tgt := 1592) rfl (hL_law_18.at 8 rfl rfl) ?_
    exact osW.widen (k' := k + 2) (n' := n + 12) (by omega) (by omega) (osW.sub [1, 2, 3, 4, 5, 6, 0] rfl (sL_law_1592 N L xs hend k n hk hn c28 g28 l0 l1 l2 l3 l4 l5 x1 (1 : Int32) x3 x2 l2 rfl))
set_option maxRecDepth 100000 in
set_option maxHeartbeats 4000000 in
theorem sL_law_1688 (N L : Nat) (xs : Nat → Int32) {b : Nat} {Qf : List Frame → State → State → Prop} (hend : ∀ (k n : Nat) (lv : List (Nat × Value)), k ≤ 601024 → n ≤ 7293034 → osW (osFinL b L xs Qf) yL_law cL_law 10 (some .boolean) [] room_1 k n 2044 lv [.int (1 : Int32)] (osret (1 : Int32))) (k n : Nat) (hk : k + 6 ≤ 601024) (hn : n + 60 ≤ 7293034) (c28 : Nat × Nat × Nat × Nat × Nat × Int32 → osM Int32) (g28 : ∀ (l0 : Nat) (l1 : Nat) (l2 : Nat) (l3 : Nat) (l4 : Nat) (l5 : Int32), l0 = b → osW (osFinL b L xs Qf) yL_law cL_law 10 (some .boolean) [] room_1 (k + 6) (n + 60) 28 [(0, .ref l0), (1, .ref l1), (2, .ref l2), (3, .ref l3), (4, .ref l4), (5, .int l5)] [] (c28 (l0, l1, l2, l3, l4, l5))) (l0 : Nat) (l1 : Nat) (l2 : Nat) (l3 : Nat) (l4 : Nat) (l5 : Int32) (hl0 : l0 = b) : osW (osFinL b L xs Qf) yL_law cL_law 10 (some .boolean) [] room_1 (k + 1) (n + 6) 1688 [(0, .ref l0), (1, .ref l1), (2, .ref l2), (3, .ref l3), (4, .ref l4), (5, .int l5)] [] (qL_law_1688 N L xs c28 l0 l1 l2 l3 l4 l5) := by
  subst hl0
  unfold qL_law_1688
  refine os_goto (off := 349) (tgt := 2037) rfl (hL_law_19.at 17 rfl rfl) ?_
  exact osW.widen (k' := k + 3) (n' := n + 18) (by omega) (by omega) (osW.sub [0, 1, 2, 3, 4, 5] rfl (sL_law_2037 N L xs hend k n hk hn c28 g28 l0 l1 l2 l3 l4 l5 rfl))
set_option maxRecDepth 100000 in
set_option maxHeartbeats 4000000 in
theorem sL_law_1682 (N L : Nat) (xs : Nat → Int32) {b : Nat} {Qf : List Frame → State → State → Prop} (hend : ∀ (k n : Nat) (lv : List (Nat × Value)), k ≤ 601024 → n ≤ 7293034 → osW (osFinL b L xs Qf) yL_law cL_law 10 (some .boolean) [] room_1 k n 2044 lv [.int (1 : Int32)] (osret (1 : Int32))) (k n : Nat) (hk : k + 6 ≤ 601024) (hn : n + 60 ≤ 7293034) (c28 : Nat × Nat × Nat × Nat × Nat × Int32 → osM Int32) (g28 : ∀ (l0 : Nat) (l1 : Nat) (l2 : Nat) (l3 : Nat) (l4 : Nat) (l5 : Int32), l0 = b → osW (osFinL b L xs Qf) yL_law cL_law 10 (some .boolean) [] room_1 (k + 6) (n + 60) 28 [(0, .ref l0), (1, .ref l1), (2, .ref l2), (3, .ref l3), (4, .ref l4), (5, .int l5)] [] (c28 (l0, l1, l2, l3, l4, l5))) (l0 : Nat) (l1 : Nat) (l2 : Nat) (l3 : Nat) (l4 : Nat) (l5 : Int32) (k0 : Int64) (k1 : Int64) (hl0 : l0 = b) : osW (osFinL b L xs Qf) yL_law cL_law 10 (some .boolean) [] room_1 (k + 1) (n + 6) 1682 [(0, .ref l0), (1, .ref l1), (2, .ref l2), (3, .ref l3), (4, .ref l4), (5, .int l5)] [.long k0, .long k1] (qL_law_1682 N L xs c28 l0 l1 l2 l3 l4 l5 k0 k1) := by
  subst hl0
  unfold qL_law_1682
  refine os_lcmp (hL_law_19.at 13 rfl rfl) ?_
  refine os_if_eq (off := 5) (tgt := 1688) rfl (hL_law_19.at 14 rfl rfl) ?_ ?_
  · exact osW.widen (k' := k + 1) (n' := n + 6) (by omega) (by omega) (osW.sub [0, 1, 2, 3, 4, 5] rfl (sL_law_1688 N L xs hend k n hk hn c28 g28 l0 l1 l2 l3 l4 l5 rfl))
  · refine os_iconst (i := 0) (v := (0 : Int32)) rfl (hL_law_19.at 15 rfl rfl) ?_
    exact os_lawno _ (by decide)
set_option maxRecDepth 100000 in
set_option maxHeartbeats 4000000 in
theorem sL_law_1766 (N L : Nat) (xs : Nat → Int32) {b : Nat} {Qf : List Frame → State → State → Prop} (hend : ∀ (k n : Nat) (lv : List (Nat × Value)), k ≤ 601024 → n ≤ 7293034 → osW (osFinL b L xs Qf) yL_law cL_law 10 (some .boolean) [] room_1 k n 2044 lv [.int (1 : Int32)] (osret (1 : Int32))) (k n : Nat) (hk : k + 6 ≤ 601024) (hn : n + 60 ≤ 7293034) (c28 : Nat × Nat × Nat × Nat × Nat × Int32 → osM Int32) (g28 : ∀ (l0 : Nat) (l1 : Nat) (l2 : Nat) (l3 : Nat) (l4 : Nat) (l5 : Int32), l0 = b → osW (osFinL b L xs Qf) yL_law cL_law 10 (some .boolean) [] room_1 (k + 6) (n + 60) 28 [(0, .ref l0), (1, .ref l1), (2, .ref l2), (3, .ref l3), (4, .ref l4), (5, .int l5)] [] (c28 (l0, l1, l2, l3, l4, l5))) (l0 : Nat) (l1 : Nat) (l2 : Nat) (l3 : Nat) (l4 : Nat) (l5 : Int32) (hl0 : l0 = b) : osW (osFinL b L xs Qf) yL_law cL_law 10 (some .boolean) [] room_1 (k + 1) (n + 6) 1766 [(0, .ref l0), (1, .ref l1), (2, .ref l2), (3, .ref l3), (4, .ref l4), (5, .int l5)] [] (qL_law_1766 N L xs c28 l0 l1 l2 l3 l4 l5) := by
  subst hl0
  unfold qL_law_1766
  refine os_goto (off := 271) (tgt := 2037) rfl (hL_law_20.at 14 rfl rfl) ?_
  exact osW.widen (k' := k + 3) (n' := n + 18) (by omega) (by omega) (osW.sub [0, 1, 2, 3, 4, 5] rfl (sL_law_2037 N L xs hend k n hk hn c28 g28 l0 l1 l2 l3 l4 l5 rfl))
set_option maxRecDepth 100000 in
set_option maxHeartbeats 4000000 in
theorem sL_law_1764 (N L : Nat) (xs : Nat → Int32) {b : Nat} {Qf : List Frame → State → State → Prop} (hend : ∀ (k n : Nat) (lv : List (Nat × Value)), k ≤ 601024 → n ≤ 7293034 → osW (osFinL b L xs Qf) yL_law cL_law 10 (some .boolean) [] room_1 k n 2044 lv [.int (1 : Int32)] (osret (1 : Int32))) (k n : Nat) (hk : k + 6 ≤ 601024) (hn : n + 60 ≤ 7293034) (c28 : Nat × Nat × Nat × Nat × Nat × Int32 → osM Int32) (g28 : ∀ (l0 : Nat) (l1 : Nat) (l2 : Nat) (l3 : Nat) (l4 : Nat) (l5 : Int32), l0 = b → osW (osFinL b L xs Qf) yL_law cL_law 10 (some .boolean) [] room_1 (k + 6) (n + 60) 28 [(0, .ref l0), (1, .ref l1), (2, .ref l2), (3, .ref l3), (4, .ref l4), (5, .int l5)] [] (c28 (l0, l1, l2, l3, l4, l5))) : osW (osFinL b L xs Qf) yL_law cL_law 10 (some .boolean) [] room_1 (k + 1) (n + 6) 1764 [] [] (qL_law_1764 N L xs c28) := by
  unfold qL_law_1764
  refine os_iconst (i := 0) (v := (0 : Int32)) rfl (hL_law_20.at 12 rfl rfl) ?_
  exact os_lawno _ (by decide)
set_option maxRecDepth 100000 in
set_option maxHeartbeats 4000000 in
theorem sL_law_1822 (N L : Nat) (xs : Nat → Int32) {b : Nat} {Qf : List Frame → State → State → Prop} (hend : ∀ (k n : Nat) (lv : List (Nat × Value)), k ≤ 601024 → n ≤ 7293034 → osW (osFinL b L xs Qf) yL_law cL_law 10 (some .boolean) [] room_1 k n 2044 lv [.int (1 : Int32)] (osret (1 : Int32))) (k n : Nat) (hk : k + 6 ≤ 601024) (hn : n + 60 ≤ 7293034) (c28 : Nat × Nat × Nat × Nat × Nat × Int32 → osM Int32) (g28 : ∀ (l0 : Nat) (l1 : Nat) (l2 : Nat) (l3 : Nat) (l4 : Nat) (l5 : Int32), l0 = b → osW (osFinL b L xs Qf) yL_law cL_law 10 (some .boolean) [] room_1 (k + 6) (n + 60) 28 [(0, .ref l0), (1, .ref l1), (2, .ref l2), (3, .ref l3), (4, .ref l4), (5, .int l5)] [] (c28 (l0, l1, l2, l3, l4, l5))) (l0 : Nat) (l1 : Nat) (l2 : Nat) (l3 : Nat) (l4 : Nat) (l5 : Int32) (hl0 : l0 = b) : osW (osFinL b L xs Qf) yL_law cL_law 10 (some .boolean) [] room_1 (k + 1) (n + 6) 1822 [(0, .ref l0), (1, .ref l1), (2, .ref l2), (3, .ref l3), (4, .ref l4), (5, .int l5)] [] (qL_law_1822 N L xs c28 l0 l1 l2 l3 l4 l5) := by
  subst hl0
  unfold qL_law_1822
  refine os_goto (off := 215) (tgt := 2037) rfl (hL_law_20.at 49 rfl rfl) ?_
  exact osW.widen (k' := k + 3) (n' := n + 18) (by omega) (by omega) (osW.sub [0, 1, 2, 3, 4, 5] rfl (sL_law_2037 N L xs hend k n hk hn c28 g28 l0 l1 l2 l3 l4 l5 rfl))
set_option maxRecDepth 100000 in
set_option maxHeartbeats 4000000 in
theorem sL_law_1863 (N L : Nat) (xs : Nat → Int32) {b : Nat} {Qf : List Frame → State → State → Prop} (hend : ∀ (k n : Nat) (lv : List (Nat × Value)), k ≤ 601024 → n ≤ 7293034 → osW (osFinL b L xs Qf) yL_law cL_law 10 (some .boolean) [] room_1 k n 2044 lv [.int (1 : Int32)] (osret (1 : Int32))) (k n : Nat) (hk : k + 6 ≤ 601024) (hn : n + 60 ≤ 7293034) (c28 : Nat × Nat × Nat × Nat × Nat × Int32 → osM Int32) (g28 : ∀ (l0 : Nat) (l1 : Nat) (l2 : Nat) (l3 : Nat) (l4 : Nat) (l5 : Int32), l0 = b → osW (osFinL b L xs Qf) yL_law cL_law 10 (some .boolean) [] room_1 (k + 6) (n + 60) 28 [(0, .ref l0), (1, .ref l1), (2, .ref l2), (3, .ref l3), (4, .ref l4), (5, .int l5)] [] (c28 (l0, l1, l2, l3, l4, l5))) (l0 : Nat) (l1 : Nat) (l2 : Nat) (l3 : Nat) (l4 : Nat) (l5 : Int32) (hl0 : l0 = b) : osW (osFinL b L xs Qf) yL_law cL_law 10 (some .boolean) [] room_1 (k + 0) (n + 0) 1863 [(0, .ref l0), (1, .ref l1), (2, .ref l2), (3, .ref l3), (4, .ref l4), (5, .int l5)] [] (qL_law_1863 N L xs c28 l0 l1 l2 l3 l4 l5) := by
  subst hl0
  unfold qL_law_1863
  refine os_goto (off := 174) (tgt := 2037) rfl (hL_law_21.at 20 rfl rfl) ?_
  exact osW.widen (k' := k + 3) (n' := n + 18) (by omega) (by omega) (osW.sub [0, 1, 2, 3, 4, 5] rfl (sL_law_2037 N L xs hend k n hk hn c28 g28 l0 l1 l2 l3 l4 l5 rfl))
set_option maxRecDepth 100000 in
set_option maxHeartbeats 4000000 in
theorem sL_law_1861 (N L : Nat) (xs : Nat → Int32) {b : Nat} {Qf : List Frame → State → State → Prop} (hend : ∀ (k n : Nat) (lv : List (Nat × Value)), k ≤ 601024 → n ≤ 7293034 → osW (osFinL b L xs Qf) yL_law cL_law 10 (some .boolean) [] room_1 k n 2044 lv [.int (1 : Int32)] (osret (1 : Int32))) (k n : Nat) (hk : k + 6 ≤ 601024) (hn : n + 60 ≤ 7293034) (c28 : Nat × Nat × Nat × Nat × Nat × Int32 → osM Int32) (g28 : ∀ (l0 : Nat) (l1 : Nat) (l2 : Nat) (l3 : Nat) (l4 : Nat) (l5 : Int32), l0 = b → osW (osFinL b L xs Qf) yL_law cL_law 10 (some .boolean) [] room_1 (k + 6) (n + 60) 28 [(0, .ref l0), (1, .ref l1), (2, .ref l2), (3, .ref l3), (4, .ref l4), (5, .int l5)] [] (c28 (l0, l1, l2, l3, l4, l5))) : osW (osFinL b L xs Qf) yL_law cL_law 10 (some .boolean) [] room_1 (k + 0) (n + 0) 1861 [] [] (qL_law_1861 N L xs c28) := by
  unfold qL_law_1861
  refine os_iconst (i := 0) (v := (0 : Int32)) rfl (hL_law_21.at 18 rfl rfl) ?_
  exact os_lawno _ (by decide)
set_option maxRecDepth 100000 in
set_option maxHeartbeats 4000000 in
theorem sL_law_1921 (N L : Nat) (xs : Nat → Int32) {b : Nat} {Qf : List Frame → State → State → Prop} (hend : ∀ (k n : Nat) (lv : List (Nat × Value)), k ≤ 601024 → n ≤ 7293034 → osW (osFinL b L xs Qf) yL_law cL_law 10 (some .boolean) [] room_1 k n 2044 lv [.int (1 : Int32)] (osret (1 : Int32))) (k n : Nat) (hk : k + 6 ≤ 601024) (hn : n + 60 ≤ 7293034) (c28 : Nat × Nat × Nat × Nat × Nat × Int32 → osM Int32) (g28 : ∀ (l0 : Nat) (l1 : Nat) (l2 : Nat) (l3 : Nat) (l4 : Nat) (l5 : Int32), l0 = b → osW (osFinL b L xs Qf) yL_law cL_law 10 (some .boolean) [] room_1 (k + 6) (n + 60) 28 [(0, .ref l0), (1, .ref l1), (2, .ref l2), (3, .ref l3), (4, .ref l4), (5, .int l5)] [] (c28 (l0, l1, l2, l3, l4, l5))) (l0 : Nat) (l1 : Nat) (l2 : Nat) (l3 : Nat) (l4 : Nat) (l5 : Int32) (hl0 : l0 = b) : osW (osFinL b L xs Qf) yL_law cL_law 10 (some .boolean) [] room_1 (k + 1) (n + 6) 1921 [(0, .ref l0), (1, .ref l1), (2, .ref l2), (3, .ref l3), (4, .ref l4), (5, .int l5)] [] (qL_law_1921 N L xs c28 l0 l1 l2 l3 l4 l5) := by
  subst hl0
  unfold qL_law_1921
  refine os_goto (off := 116) (tgt := 2037) rfl (hL_law_22.at 3 rfl rfl) ?_
  exact osW.widen (k' := k + 3) (n' := n + 18) (by omega) (by omega) (osW.sub [0, 1, 2, 3, 4, 5] rfl (sL_law_2037 N L xs hend k n hk hn c28 g28 l0 l1 l2 l3 l4 l5 rfl))
set_option maxRecDepth 100000 in
set_option maxHeartbeats 4000000 in
theorem sL_law_1978 (N L : Nat) (xs : Nat → Int32) {b : Nat} {Qf : List Frame → State → State → Prop} (hend : ∀ (k n : Nat) (lv : List (Nat × Value)), k ≤ 601024 → n ≤ 7293034 → osW (osFinL b L xs Qf) yL_law cL_law 10 (some .boolean) [] room_1 k n 2044 lv [.int (1 : Int32)] (osret (1 : Int32))) (k n : Nat) (hk : k + 6 ≤ 601024) (hn : n + 60 ≤ 7293034) (c28 : Nat × Nat × Nat × Nat × Nat × Int32 → osM Int32) (g28 : ∀ (l0 : Nat) (l1 : Nat) (l2 : Nat) (l3 : Nat) (l4 : Nat) (l5 : Int32), l0 = b → osW (osFinL b L xs Qf) yL_law cL_law 10 (some .boolean) [] room_1 (k + 6) (n + 60) 28 [(0, .ref l0), (1, .ref l1), (2, .ref l2), (3, .ref l3), (4, .ref l4), (5, .int l5)] [] (c28 (l0, l1, l2, l3, l4, l5))) (l0 : Nat) (l1 : Nat) (l2 : Nat) (l3 : Nat) (l4 : Nat) (l5 : Int32) (hl0 : l0 = b) : osW (osFinL b L xs Qf) yL_law cL_law 10 (some .boolean) [] room_1 (k + 1) (n + 6) 1978 [(0, .ref l0), (1, .ref l1), (2, .ref l2), (3, .ref l3), (4, .ref l4), (5, .int l5)] [] (qL_law_1978 N L xs c28 l0 l1 l2 l3 l4 l5) := by
  subst hl0
  unfold qL_law_1978
  refine os_goto (off := 59) (tgt := 2037) rfl (hL_law_22.at 35 rfl rfl) ?_
  exact osW.widen (k' := k + 3) (n' := n + 18) (by omega) (by omega) (osW.sub [0, 1, 2, 3, 4, 5] rfl (sL_law_2037 N L xs hend k n hk hn c28 g28 l0 l1 l2 l3 l4 l5 rfl))
set_option maxRecDepth 100000 in
set_option maxHeartbeats 4000000 in
theorem sL_law_2034 (N L : Nat) (xs : Nat → Int32) {b : Nat} {Qf : List Frame → State → State → Prop} (hend : ∀ (k n : Nat) (lv : List (Nat × Value)), k ≤ 601024 → n ≤ 7293034 → osW (osFinL b L xs Qf) yL_law cL_law 10 (some .boolean) [] room_1 k n 2044 lv [.int (1 : Int32)] (osret (1 : Int32))) (k n : Nat) (hk : k + 6 ≤ 601024) (hn : n + 60 ≤ 7293034) (c28 : Nat × Nat × Nat × Nat × Nat × Int32 → osM Int32) (g28 : ∀ (l0 : Nat) (l1 : Nat) (l2 : Nat) (l3 : Nat) (l4 : Nat) (l5 : Int32), l0 = b → osW (osFinL b L xs Qf) yL_law cL_law 10 (some .boolean) [] room_1 (k + 6) (n + 60) 28 [(0, .ref l0), (1, .ref l1), (2, .ref l2), (3, .ref l3), (4, .ref l4), (5, .int l5)] [] (c28 (l0, l1, l2, l3, l4, l5))) (l0 : Nat) (l1 : Nat) (l2 : Nat) (l3 : Nat) (l4 : Nat) (l5 : Int32) (hl0 : l0 = b) : osW (osFinL b L xs Qf) yL_law cL_law 10 (some .boolean) [] room_1 (k + 1) (n + 6) 2034 [(0, .ref l0), (1, .ref l1), (2, .ref l2), (3, .ref l3), (4, .ref l4), (5, .int l5)] [] (qL_law_2034 N L xs c28 l0 l1 l2 l3 l4 l5) := by
  subst hl0
  unfold qL_law_2034
  refine os_goto (off := 3) (tgt := 2037) rfl (hL_law_23.at 20 rfl rfl) ?_
  exact osW.widen (k' := k + 3) (n' := n + 18) (by omega) (by omega) (osW.sub [0, 1, 2, 3, 4, 5] rfl (sL_law_2037 N L xs hend k n hk hn c28 g28 l0 l1 l2 l3 l4 l5 rfl))
set_option maxRecDepth 100000 in
set_option maxHeartbeats 4000000 in
theorem tL_law_28 (N L : Nat) (xs : Nat → Int32) {b : Nat} {Qf : List Frame → State → State → Prop} (hend : ∀ (k n : Nat) (lv : List (Nat × Value)), k ≤ 601024 → n ≤ 7293034 → osW (osFinL b L xs Qf) yL_law cL_law 10 (some .boolean) [] room_1 k n 2044 lv [.int (1 : Int32)] (osret (1 : Int32))) (k n : Nat) (hk : k + 6 ≤ 601024) (hn : n + 60 ≤ 7293034) (c28 : Nat × Nat × Nat × Nat × Nat × Int32 → osM Int32) (g28 : ∀ (l0 : Nat) (l1 : Nat) (l2 : Nat) (l3 : Nat) (l4 : Nat) (l5 : Int32), l0 = b → osW (osFinL b L xs Qf) yL_law cL_law 10 (some .boolean) [] room_1 (k + 6) (n + 60) 28 [(0, .ref l0), (1, .ref l1), (2, .ref l2), (3, .ref l3), (4, .ref l4), (5, .int l5)] [] (c28 (l0, l1, l2, l3, l4, l5))) (l0 : Nat) (l1 : Nat) (l2 : Nat) (l3 : Nat) (l4 : Nat) (l5 : Int32) (hl0 : l0 = b) : osW (osFinL b L xs Qf) yL_law cL_law 10 (some .boolean) [] room_1 k n 28 [(0, .ref l0), (1, .ref l1), (2, .ref l2), (3, .ref l3), (4, .ref l4), (5, .int l5)] [] (bL_law_28 N L xs c28 l0 l1 l2 l3 l4 l5) := by
  subst hl0
  unfold bL_law_28
  refine os_iload (v := l5) 5 rfl (hL_law_0.at 16 rfl rfl) ?_
  refine os_aload_n (i := 0) (q := 0) (v := l0) 0 rfl rfl (hL_law_0.at 17 rfl rfl) ?_
  refine os_slen (hL_law_0.at 18 rfl rfl) (fun x1 => ?_)
  refine os_bipush (i := 6) (v := (6 : Int32)) rfl (hL_law_0.at 19 rfl rfl) ?_
  refine os_isub (hL_law_0.at 20 rfl rfl) ?_
  refine os_icmp_gt (off := 2008) (tgt := 2043) rfl (hL_law_0.at 21 rfl rfl) ?_ ?_
  · refine os_iconst (i := 1) (v := (1 : Int32)) rfl (hL_law_23.at 23 rfl rfl) ?_
    exact hend _ _ _ (by omega) (by omega)
  · refine os_aload_n (i := 0) (q := 0) (v := l0) 0 rfl rfl (hL_law_0.at 22 rfl rfl) ?_
    refine os_iload (v := l5) 5 rfl (hL_law_0.at 23 rfl rfl) ?_
    refine os_sld (hL_law_0.at 24 rfl rfl) (fun x2 => ?_)
    refine os_bipush (i := 63) (v := (63 : Int32)) rfl (hL_law_0.at 25 rfl rfl) ?_
    refine os_iand (hL_law_0.at 26 rfl rfl) ?_
    refine os_tableswitch (dflt := 1992) (lo := 0) (hi := 35) (offs := #[159, 263, 319, 375, 388, 401, 414, 427, 495, 551, 654, 750, 818, 831, 844, 912, 956, 1024, 1068, 1131, 1206, 1250, 1294, 1338, 1351, 1419, 1487, 1583, 1646, 1724, 1780, 1821, 1835, 1879, 1892, 1936]) (tgt := 2037) rfl rfl (hL_law_0.at 27 rfl rfl) ?_ ?_
    · refine ⟨⟨204, rfl, ?_⟩, ⟨308, rfl, ?_⟩, ⟨364, rfl, ?_⟩, ⟨420, rfl, ?_⟩, ⟨433, rfl, ?_⟩, ⟨446, rfl, ?_⟩, ⟨459, rfl, ?_⟩, ⟨472, rfl, ?_⟩, ⟨540, rfl, ?_⟩, ⟨596, rfl, ?_⟩, ⟨699, rfl, ?_⟩, ⟨795, rfl, ?_⟩, ⟨863, rfl, ?_⟩, ⟨876, rfl, ?_⟩, ⟨889, rfl, ?_⟩, ⟨957, rfl, ?_⟩, ⟨1001, rfl, ?_⟩, ⟨1069, rfl, ?_⟩, ⟨1113, rfl, ?_⟩, ⟨1176, rfl, ?_⟩, ⟨1251, rfl, ?_⟩, ⟨1295, rfl, ?_⟩, ⟨1339, rfl, ?_⟩, ⟨1383, rfl, ?_⟩, ⟨1396, rfl, ?_⟩, ⟨1464, rfl, ?_⟩, ⟨1532, rfl, ?_⟩, ⟨1628, rfl, ?_⟩, ⟨1691, rfl, ?_⟩, ⟨1769, rfl, ?_⟩, ⟨1825, rfl, ?_⟩, ⟨1866, rfl, ?_⟩, ⟨1880, rfl, ?_⟩, ⟨1924, rfl, ?_⟩, ⟨1937, rfl, ?_⟩, ⟨1981, rfl, ?_⟩, trivial⟩
      · refine os_aload_n (i := 1) (q := 1) (v := l1) 1 rfl rfl (hL_law_0.at 28 rfl rfl) ?_
        refine os_aload_n (i := 0) (q := 0) (v := l0) 0 rfl rfl (hL_law_0.at 29 rfl rfl) ?_
        refine os_iload (v := l5) 5 rfl (hL_law_0.at 30 rfl rfl) ?_
        refine os_iconst (i := 1) (v := (1 : Int32)) rfl (hL_law_0.at 31 rfl rfl) ?_
        refine os_iadd (hL_law_0.at 32 rfl rfl) ?_
        refine os_sld (hL_law_0.at 33 rfl rfl) (fun x3 => ?_)
        refine os_aload_n (i := 0) (q := 0) (v := l0) 0 rfl rfl (hL_law_0.at 34 rfl rfl) ?_
        refine os_iload (v := l5) 5 rfl (hL_law_0.at 35 rfl rfl) ?_
        refine os_iconst (i := 2) (v := (2 : Int32)) rfl (hL_law_0.at 36 rfl rfl) ?_
        refine os_iadd (hL_law_0.at 37 rfl rfl) ?_
        refine os_sld (hL_law_0.at 38 rfl rfl) (fun x4 => ?_)
        refine os_aload_n (i := 0) (q := 0) (v := l0) 0 rfl rfl (hL_law_0.at 39 rfl rfl) ?_
        refine os_iload (v := l5) 5 rfl (hL_law_0.at 40 rfl rfl) ?_
        refine os_iconst (i := 3) (v := (3 : Int32)) rfl (hL_law_0.at 41 rfl rfl) ?_
        refine os_iadd (hL_law_0.at 42 rfl rfl) ?_
        refine os_sld (hL_law_0.at 43 rfl rfl) (fun x5 => ?_)
        refine os_aload_n (i := 0) (q := 0) (v := l0) 0 rfl rfl (hL_law_0.at 44 rfl rfl) ?_
        refine os_iload (v := l5) 5 rfl (hL_law_0.at 45 rfl rfl) ?_
        refine os_iconst (i := 4) (v := (4 : Int32)) rfl (hL_law_0.at 46 rfl rfl) ?_
        refine os_iadd (hL_law_0.at 47 rfl rfl) ?_
        refine os_sld (hL_law_0.at 48 rfl rfl) (fun x6 => ?_)
        refine os_aload_n (i := 0) (q := 0) (v := l0) 0 rfl rfl (hL_law_0.at 49 rfl rfl) ?_
        refine os_iload (v := l5) 5 rfl (hL_law_1.at 0 rfl rfl) ?_
        refine os_iconst (i := 5) (v := (5 : Int32)) rfl (hL_law_1.at 1 rfl rfl) ?_
        refine os_iadd (hL_law_1.at 2 rfl rfl) ?_
        refine os_sld (hL_law_1.at 3 rfl rfl) (fun x7 => ?_)
        refine os_aload_n (i := 3) (q := 3) (v := l3) 3 rfl rfl (hL_law_1.at 4 rfl rfl) ?_
        refine os_callSH (np := 7) (As := [.ref l1, .int x3, .int x4, .int x5, .int x6, .int x7, .ref l3]) (st := []) (st' := (fun r => .int r :: [])) wd708 wd150 (by decide +kernel) (by decide +kernel) wd706 wd707 (sL_feed N l1 x3 x4 x5 x6 x7 l3) rfl rfl (fun _ => rfl) (Nat.le_of_ble_eq_true rfl) (Nat.le_of_ble_eq_true rfl) (Nat.le_of_ble_eq_true rfl) rfl (by show _ ≤ 601024; omega) rfl (by show _ ≤ 7293034; omega) (hL_law_1.at 5 rfl rfl) (fun x8 => ?_)
        refine os_istore (i := 6) (lv' := [(6, .int x8), (0, .ref l0), (1, .ref l1), (2, .ref l2), (3, .ref l3), (4, .ref l4), (5, .int l5)]) (Nat.le_of_ble_eq_true rfl) rfl (hL_law_1.at 6 rfl rfl) ?_
        refine os_aload_n (i := 2) (q := 2) (v := l2) 3 rfl rfl (hL_law_1.at 7 rfl rfl) ?_
        refine os_aload_n (i := 0) (q := 0) (v := l0) 1 rfl rfl (hL_law_1.at 8 rfl rfl) ?_
        refine os_iload (v := l5) 6 rfl (hL_law_1.at 9 rfl rfl) ?_
        refine os_iconst (i := 1) (v := (1 : Int32)) rfl (hL_law_1.at 10 rfl rfl) ?_
        refine os_iadd (hL_law_1.at 11 rfl rfl) ?_
        refine os_sld (hL_law_1.at 12 rfl rfl) (fun x9 => ?_)
        refine os_aload_n (i := 0) (q := 0) (v := l0) 1 rfl rfl (hL_law_1.at 13 rfl rfl) ?_
        refine os_iload (v := l5) 6 rfl (hL_law_1.at 14 rfl rfl) ?_
        refine os_iconst (i := 2) (v := (2 : Int32)) rfl (hL_law_1.at 15 rfl rfl) ?_
        refine os_iadd (hL_law_1.at 16 rfl rfl) ?_
        refine os_sld (hL_law_1.at 17 rfl rfl) (fun x10 => ?_)
        refine os_aload_n (i := 0) (q := 0) (v := l0) 1 rfl rfl (hL_law_1.at 18 rfl rfl) ?_
        refine os_iload (v := l5) 6 rfl (hL_law_1.at 19 rfl rfl) ?_
        refine os_iconst (i := 3) (v := (3 : Int32)) rfl (hL_law_1.at 20 rfl rfl) ?_
        refine os_iadd (hL_law_1.at 21 rfl rfl) ?_
        refine os_sld (hL_law_1.at 22 rfl rfl) (fun x11 => ?_)
        refine os_aload_n (i := 0) (q := 0) (v := l0) 1 rfl rfl (hL_law_1.at 23 rfl rfl) ?_
        refine os_iload (v := l5) 6 rfl (hL_law_1.at 24 rfl rfl) ?_
        refine os_iconst (i := 4) (v := (4 : Int32)) rfl (hL_law_1.at 25 rfl rfl) ?_
        refine os_iadd (hL_law_1.at 26 rfl rfl) ?_
        refine os_sld (hL_law_1.at 27 rfl rfl) (fun x12 => ?_)
        refine os_aload_n (i := 0) (q := 0) (v := l0) 1 rfl rfl (hL_law_1.at 28 rfl rfl) ?_
        refine os_iload (v := l5) 6 rfl (hL_law_1.at 29 rfl rfl) ?_
        refine os_iconst (i := 5) (v := (5 : Int32)) rfl (hL_law_1.at 30 rfl rfl) ?_
        refine os_iadd (hL_law_1.at 31 rfl rfl) ?_
        refine os_sld (hL_law_1.at 32 rfl rfl) (fun x13 => ?_)
        refine os_callV (cis := [8]) (b := l2) (As := [.int x9, .int x10, .int x11, .int x12, .int x13]) (st := []) (st' := (fun r => .int r :: [])) sl8_X10_feed_X10_feed mdX10_feed wd1738 wd1739 (sX10_feed N l2 x9 x10 x11 x12 x13) rfl rfl (fun _ => rfl) (Nat.le_of_ble_eq_true rfl) (Nat.le_of_ble_eq_true rfl) (Nat.le_of_ble_eq_true rfl) rfl (by show _ ≤ 601024; omega) rfl (by show _ ≤ 7293034; omega) (hL_law_1.at 33 rfl rfl) (fun x14 => ?_)
        refine os_istore (i := 7) (lv' := [(7, .int x14), (6, .int x8), (0, .ref l0), (1, .ref l1), (2, .ref l2), (3, .ref l3), (4, .ref l4), (5, .int l5)]) (Nat.le_of_ble_eq_true rfl) rfl (hL_law_1.at 34 rfl rfl) ?_
        refine os_aload_n (i := 2) (q := 2) (v := l2) 4 rfl rfl (hL_law_1.at 35 rfl rfl) ?_
        refine os_callV (cis := [8]) (b := l2) (As := []) (st := []) (st' := (fun r => .int r :: [])) sl8_X10_thrown_X10_thrown mdX10_thrown wd1734 wd1735 (sX10_thrown N l2 ) rfl rfl (fun _ => rfl) (Nat.le_of_ble_eq_true rfl) (Nat.le_of_ble_eq_true rfl) (Nat.le_of_ble_eq_true rfl) rfl (by show _ ≤ 601024; omega) rfl (by show _ ≤ 7293034; omega) (hL_law_1.at 36 rfl rfl) (fun x15 => ?_)
        refine os_iload (v := x8) 1 rfl (hL_law_1.at 37 rfl rfl) ?_
        refine os_icmp_eq (off := 5) (tgt := 288) rfl (hL_law_1.at 38 rfl rfl) ?_ ?_
        · refine os_iload (v := x8) 1 rfl (hL_law_1.at 41 rfl rfl) ?_
          refine os_if_ne (off := 15) (tgt := 305) rfl (hL_law_1.at 42 rfl rfl) ?_ ?_
          · exact osW.widen (k' := k + 1) (n' := n + 6) (by omega) (by omega) (osW.sub [2, 3, 4, 5, 6, 7] rfl (sL_law_305 N L xs hend k n hk hn c28 g28 l0 l1 l2 l3 l4 l5 rfl))
          · refine os_aload_n (i := 3) (q := 3) (v := l3) 5 rfl rfl (hL_law_1.at 43 rfl rfl) ?_
            refine os_iconst (i := 0) (v := (0 : Int32)) rfl (hL_law_1.at 44 rfl rfl) ?_
            refine os_laload (hL_law_1.at 45 rfl rfl) (fun x16 => ?_)
            refine os_iload (v := x14) 0 rfl (hL_law_1.at 46 rfl rfl) ?_
            refine os_i2l (hL_law_1.at 47 rfl rfl) ?_
            refine os_lcmp (hL_law_1.at 48 rfl rfl) ?_
            refine os_if_eq (off := 5) (tgt := 305) rfl (hL_law_1.at 49 rfl rfl) ?_ ?_
            · exact osW.widen (k' := k + 1) (n' := n + 6) (by omega) (by omega) (osW.sub [2, 3, 4, 5, 6, 7] rfl (sL_law_305 N L xs hend k n hk hn c28 g28 l0 l1 l2 l3 l4 l5 rfl))
            · refine os_iconst (i := 0) (v := (0 : Int32)) rfl (hL_law_2.at 0 rfl rfl) ?_
              exact os_lawno _ (by decide)
        · refine os_iconst (i := 0) (v := (0 : Int32)) rfl (hL_law_1.at 39 rfl rfl) ?_
          exact os_lawno _ (by decide)
      · refine os_aload_n (i := 1) (q := 1) (v := l1) 1 rfl rfl (hL_law_2.at 3 rfl rfl) ?_
        refine os_aload_n (i := 0) (q := 0) (v := l0) 0 rfl rfl (hL_law_2.at 4 rfl rfl) ?_
        refine os_iload (v := l5) 5 rfl (hL_law_2.at 5 rfl rfl) ?_
        refine os_iconst (i := 1) (v := (1 : Int32)) rfl (hL_law_2.at 6 rfl rfl) ?_
        refine os_iadd (hL_law_2.at 7 rfl rfl) ?_
        refine os_sld (hL_law_2.at 8 rfl rfl) (fun x17 => ?_)
        refine os_aload_n (i := 3) (q := 3) (v := l3) 3 rfl rfl (hL_law_2.at 9 rfl rfl) ?_
        refine os_callSH (np := 3) (As := [.ref l1, .int x17, .ref l3]) (st := []) (st' := (fun r => .int r :: [])) wd788 wd150 (by decide +kernel) (by decide +kernel) wd786 wd787 (sL_load N l1 x17 l3) rfl rfl (fun _ => rfl) (Nat.le_of_ble_eq_true rfl) (Nat.le_of_ble_eq_true rfl) (Nat.le_of_ble_eq_true rfl) rfl (by show _ ≤ 601024; omega) rfl (by show _ ≤ 7293034; omega) (hL_law_2.at 10 rfl rfl) (fun x18 => ?_)
        refine os_istore (i := 6) (lv' := [(6, .int x18), (0, .ref l0), (1, .ref l1), (2, .ref l2), (3, .ref l3), (4, .ref l4), (5, .int l5)]) (Nat.le_of_ble_eq_true rfl) rfl (hL_law_2.at 11 rfl rfl) ?_
        refine os_aload_n (i := 2) (q := 2) (v := l2) 3 rfl rfl (hL_law_2.at 12 rfl rfl) ?_
        refine os_aload_n (i := 0) (q := 0) (v := l0) 1 rfl rfl (hL_law_2.at 13 rfl rfl) ?_
        refine os_iload (v := l5) 6 rfl (hL_law_2.at 14 rfl rfl) ?_
        refine os_iconst (i := 1) (v := (1 : Int32)) rfl (hL_law_2.at 15 rfl rfl) ?_
        refine os_iadd (hL_law_2.at 16 rfl rfl) ?_
        refine os_sld (hL_law_2.at 17 rfl rfl) (fun x19 => ?_)
        refine os_callV (cis := [8]) (b := l2) (As := [.int x19]) (st := []) (st' := (fun r => .int r :: [])) sl8_X10_load_X10_load mdX10_load wd1762 wd1763 (sX10_load N l2 x19) rfl rfl (fun _ => rfl) (Nat.le_of_ble_eq_true rfl) (Nat.le_of_ble_eq_true rfl) (Nat.le_of_ble_eq_true rfl) rfl (by show _ ≤ 601024; omega) rfl (by show _ ≤ 7293034; omega) (hL_law_2.at 18 rfl rfl) (fun x20 => ?_)
        refine os_istore (i := 7) (lv' := [(7, .int x20), (6, .int x18), (0, .ref l0), (1, .ref l1), (2, .ref l2), (3, .ref l3), (4, .ref l4), (5, .int l5)]) (Nat.le_of_ble_eq_true rfl) rfl (hL_law_2.at 19 rfl rfl) ?_
        refine os_aload_n (i := 2) (q := 2) (v := l2) 4 rfl rfl (hL_law_2.at 20 rfl rfl) ?_
        refine os_callV (cis := [8]) (b := l2) (As := []) (st := []) (st' := (fun r => .int r :: [])) sl8_X10_thrown_X10_thrown mdX10_thrown wd1734 wd1735 (sX10_thrown N l2 ) rfl rfl (fun _ => rfl) (Nat.le_of_ble_eq_true rfl) (Nat.le_of_ble_eq_true rfl) (Nat.le_of_ble_eq_true rfl) rfl (by show _ ≤ 601024; omega) rfl (by show _ ≤ 7293034; omega) (hL_law_2.at 21 rfl rfl) (fun x21 => ?_)
        refine os_iload (v := x18) 1 rfl (hL_law_2.at 22 rfl rfl) ?_
        refine os_icmp_eq (off := 5) (tgt := 344) rfl (hL_law_2.at 23 rfl rfl) ?_ ?_
        · refine os_iload (v := x18) 1 rfl (hL_law_2.at 26 rfl rfl) ?_
          refine os_if_ne (off := 15) (tgt := 361) rfl (hL_law_2.at 27 rfl rfl) ?_ ?_
          · exact osW.widen (k' := k + 2) (n' := n + 12) (by omega) (by omega) (osW.sub [2, 3, 4, 5, 6, 7] rfl (sL_law_361 N L xs hend k n hk hn c28 g28 l0 l1 l2 l3 l4 l5 rfl))
          · refine os_aload_n (i := 3) (q := 3) (v := l3) 5 rfl rfl (hL_law_2.at 28 rfl rfl) ?_
            refine os_iconst (i := 0) (v := (0 : Int32)) rfl (hL_law_2.at 29 rfl rfl) ?_
            refine os_laload (hL_law_2.at 30 rfl rfl) (fun x22 => ?_)
            refine os_iload (v := x20) 0 rfl (hL_law_2.at 31 rfl rfl) ?_
            refine os_i2l (hL_law_2.at 32 rfl rfl) ?_
            refine os_lcmp (hL_law_2.at 33 rfl rfl) ?_
            refine os_if_eq (off := 5) (tgt := 361) rfl (hL_law_2.at 34 rfl rfl) ?_ ?_
            · exact osW.widen (k' := k + 2) (n' := n + 12) (by omega) (by omega) (osW.sub [2, 3, 4, 5, 6, 7] rfl (sL_law_361 N L xs hend k n hk hn c28 g28 l0 l1 l2 l3 l4 l5 rfl))
            · refine os_iconst (i := 0) (v := (0 : Int32)) rfl (hL_law_2.at 35 rfl rfl) ?_
              exact os_lawno _ (by decide)
        · refine os_iconst (i := 0) (v := (0 : Int32)) rfl (hL_law_2.at 24 rfl rfl) ?_
          exact os_lawno _ (by decide)
      · refine os_aload_n (i := 1) (q := 1) (v := l1) 1 rfl rfl (hL_law_2.at 38 rfl rfl) ?_
        refine os_aload_n (i := 0) (q := 0) (v := l0) 0 rfl rfl (hL_law_2.at 39 rfl rfl) ?_
        refine os_iload (v := l5) 5 rfl (hL_law_2.at 40 rfl rfl) ?_
        refine os_iconst (i := 1) (v := (1 : Int32)) rfl (hL_law_2.at 41 rfl rfl) ?_
        refine os_iadd (hL_law_2.at 42 rfl rfl) ?_
        refine os_sld (hL_law_2.at 43 rfl rfl) (fun x23 => ?_)
        refine os_aload_n (i := 3) (q := 3) (v := l3) 3 rfl rfl (hL_law_2.at 44 rfl rfl) ?_
        refine os_callSH (np := 3) (As := [.ref l1, .int x23, .ref l3]) (st := []) (st' := (fun r => .int r :: [])) wd996 wd150 (by decide +kernel) (by decide +kernel) wd994 wd995 (sL_tell N l1 x23 l3) rfl rfl (fun _ => rfl) (Nat.le_of_ble_eq_true rfl) (Nat.le_of_ble_eq_true rfl) (Nat.le_of_ble_eq_true rfl) rfl (by show _ ≤ 601024; omega) rfl (by show _ ≤ 7293034; omega) (hL_law_2.at 45 rfl rfl) (fun x24 => ?_)
        refine os_istore (i := 6) (lv' := [(6, .int x24), (0, .ref l0), (1, .ref l1), (2, .ref l2), (3, .ref l3), (4, .ref l4), (5, .int l5)]) (Nat.le_of_ble_eq_true rfl) rfl (hL_law_2.at 46 rfl rfl) ?_
        refine os_aload_n (i := 2) (q := 2) (v := l2) 3 rfl rfl (hL_law_2.at 47 rfl rfl) ?_
        refine os_aload_n (i := 0) (q := 0) (v := l0) 1 rfl rfl (hL_law_2.at 48 rfl rfl) ?_
        refine os_iload (v := l5) 6 rfl (hL_law_2.at 49 rfl rfl) ?_
        refine os_iconst (i := 1) (v := (1 : Int32)) rfl (hL_law_3.at 0 rfl rfl) ?_
        refine os_iadd (hL_law_3.at 1 rfl rfl) ?_
        refine os_sld (hL_law_3.at 2 rfl rfl) (fun x25 => ?_)
        refine os_callV (cis := [8]) (b := l2) (As := [.int x25]) (st := []) (st' := (fun r => .int r :: [])) sl8_X10_tell_X10_tell mdX10_tell wd1894 wd1895 (sX10_tell N l2 x25) rfl rfl (fun _ => rfl) (Nat.le_of_ble_eq_true rfl) (Nat.le_of_ble_eq_true rfl) (Nat.le_of_ble_eq_true rfl) rfl (by show _ ≤ 601024; omega) rfl (by show _ ≤ 7293034; omega) (hL_law_3.at 3 rfl rfl) (fun x26 => ?_)
        refine os_istore (i := 7) (lv' := [(7, .int x26), (6, .int x24), (0, .ref l0), (1, .ref l1), (2, .ref l2), (3, .ref l3), (4, .ref l4), (5, .int l5)]) (Nat.le_of_ble_eq_true rfl) rfl (hL_law_3.at 4 rfl rfl) ?_
        refine os_aload_n (i := 2) (q := 2) (v := l2) 4 rfl rfl (hL_law_3.at 5 rfl rfl) ?_
        refine os_callV (cis := [8]) (b := l2) (As := []) (st := []) (st' := (fun r => .int r :: [])) sl8_X10_thrown_X10_thrown mdX10_thrown wd1734 wd1735 (sX10_thrown N l2 ) rfl rfl (fun _ => rfl) (Nat.le_of_ble_eq_true rfl) (Nat.le_of_ble_eq_true rfl) (Nat.le_of_ble_eq_true rfl) rfl (by show _ ≤ 601024; omega) rfl (by show _ ≤ 7293034; omega) (hL_law_3.at 6 rfl rfl) (fun x27 => ?_)
        refine os_iload (v := x24) 1 rfl (hL_law_3.at 7 rfl rfl) ?_
        refine os_icmp_eq (off := 5) (tgt := 400) rfl (hL_law_3.at 8 rfl rfl) ?_ ?_
        · refine os_iload (v := x24) 1 rfl (hL_law_3.at 11 rfl rfl) ?_
          refine os_if_ne (off := 15) (tgt := 417) rfl (hL_law_3.at 12 rfl rfl) ?_ ?_
          · exact osW.widen (k' := k + 2) (n' := n + 12) (by omega) (by omega) (osW.sub [2, 3, 4, 5, 6, 7] rfl (sL_law_417 N L xs hend k n hk hn c28 g28 l0 l1 l2 l3 l4 l5 rfl))
          · refine os_aload_n (i := 3) (q := 3) (v := l3) 5 rfl rfl (hL_law_3.at 13 rfl rfl) ?_
            refine os_iconst (i := 0) (v := (0 : Int32)) rfl (hL_law_3.at 14 rfl rfl) ?_
            refine os_laload (hL_law_3.at 15 rfl rfl) (fun x28 => ?_)
            refine os_iload (v := x26) 0 rfl (hL_law_3.at 16 rfl rfl) ?_
            refine os_i2l (hL_law_3.at 17 rfl rfl) ?_
            refine os_lcmp (hL_law_3.at 18 rfl rfl) ?_
            refine os_if_eq (off := 5) (tgt := 417) rfl (hL_law_3.at 19 rfl rfl) ?_ ?_
            · exact osW.widen (k' := k + 2) (n' := n + 12) (by omega) (by omega) (osW.sub [2, 3, 4, 5, 6, 7] rfl (sL_law_417 N L xs hend k n hk hn c28 g28 l0 l1 l2 l3 l4 l5 rfl))
            · refine os_iconst (i := 0) (v := (0 : Int32)) rfl (hL_law_3.at 20 rfl rfl) ?_
              exact os_lawno _ (by decide)
        · refine os_iconst (i := 0) (v := (0 : Int32)) rfl (hL_law_3.at 9 rfl rfl) ?_
          exact os_lawno _ (by decide)
      · refine os_aload_n (i := 1) (q := 1) (v := l1) 1 rfl rfl (hL_law_3.at 23 rfl rfl) ?_
        refine os_callV (cis := [7]) (b := l1) (As := []) (st := []) (st' := (fun r => .int r :: [])) sl7_X9_errorCode_X9_errorCode mdX9_errorCode wd572 wd573 (sX9_errorCode N l1 ) rfl rfl (fun _ => rfl) (Nat.le_of_ble_eq_true rfl) (Nat.le_of_ble_eq_true rfl) (Nat.le_of_ble_eq_true rfl) rfl (by show _ ≤ 601024; omega) rfl (by show _ ≤ 7293034; omega) (hL_law_3.at 24 rfl rfl) (fun x29 => ?_)
        refine os_aload_n (i := 2) (q := 2) (v := l2) 2 rfl rfl (hL_law_3.at 25 rfl rfl) ?_
        refine os_callV (cis := [8]) (b := l2) (As := []) (st := [.int x29]) (st' := (fun r => .int r :: [.int x29])) sl8_X10_errorCode_X10_errorCode mdX10_errorCode wd1750 wd1751 (sX10_errorCode N l2 ) rfl rfl (fun _ => rfl) (Nat.le_of_ble_eq_true rfl) (Nat.le_of_ble_eq_true rfl) (Nat.le_of_ble_eq_true rfl) rfl (by show _ ≤ 601024; omega) rfl (by show _ ≤ 7293034; omega) (hL_law_3.at 26 rfl rfl) (fun x30 => ?_)
        refine os_icmp_eq (off := 1609) (tgt := 2037) rfl (hL_law_3.at 27 rfl rfl) ?_ ?_
        · exact osW.widen (k' := k + 3) (n' := n + 18) (by omega) (by omega) (osW.sub [0, 1, 2, 3, 4, 5] rfl (sL_law_2037 N L xs hend k n hk hn c28 g28 l0 l1 l2 l3 l4 l5 rfl))
        · refine os_iconst (i := 0) (v := (0 : Int32)) rfl (hL_law_3.at 28 rfl rfl) ?_
          exact os_lawno _ (by decide)
      · refine os_aload_n (i := 1) (q := 1) (v := l1) 1 rfl rfl (hL_law_3.at 30 rfl rfl) ?_
        refine os_callV (cis := [7]) (b := l1) (As := []) (st := []) (st' := (fun r => .int r :: [])) sl7_X9_errorPosition_X9_errorPosition mdX9_errorPosition wd576 wd577 (sX9_errorPosition N l1 ) rfl rfl (fun _ => rfl) (Nat.le_of_ble_eq_true rfl) (Nat.le_of_ble_eq_true rfl) (Nat.le_of_ble_eq_true rfl) rfl (by show _ ≤ 601024; omega) rfl (by show _ ≤ 7293034; omega) (hL_law_3.at 31 rfl rfl) (fun x31 => ?_)
        refine os_aload_n (i := 2) (q := 2) (v := l2) 2 rfl rfl (hL_law_3.at 32 rfl rfl) ?_
        refine os_callV (cis := [8]) (b := l2) (As := []) (st := [.int x31]) (st' := (fun r => .int r :: [.int x31])) sl8_X10_errorPosition_X10_errorPosition mdX10_errorPosition wd1758 wd1759 (sX10_errorPosition N l2 ) rfl rfl (fun _ => rfl) (Nat.le_of_ble_eq_true rfl) (Nat.le_of_ble_eq_true rfl) (Nat.le_of_ble_eq_true rfl) rfl (by show _ ≤ 601024; omega) rfl (by show _ ≤ 7293034; omega) (hL_law_3.at 33 rfl rfl) (fun x32 => ?_)
        refine os_icmp_eq (off := 1596) (tgt := 2037) rfl (hL_law_3.at 34 rfl rfl) ?_ ?_
        · exact osW.widen (k' := k + 3) (n' := n + 18) (by omega) (by omega) (osW.sub [0, 1, 2, 3, 4, 5] rfl (sL_law_2037 N L xs hend k n hk hn c28 g28 l0 l1 l2 l3 l4 l5 rfl))
        · refine os_iconst (i := 0) (v := (0 : Int32)) rfl (hL_law_3.at 35 rfl rfl) ?_
          exact os_lawno _ (by decide)
      · refine os_aload_n (i := 1) (q := 1) (v := l1) 1 rfl rfl (hL_law_3.at 37 rfl rfl) ?_
        refine os_callV (cis := [7]) (b := l1) (As := []) (st := []) (st' := (fun r => .int r :: [])) sl7_X9_areas_X9_areas mdX9_areas wd580 wd581 (sX9_areas N l1 ) rfl rfl (fun _ => rfl) (Nat.le_of_ble_eq_true rfl) (Nat.le_of_ble_eq_true rfl) (Nat.le_of_ble_eq_true rfl) rfl (by show _ ≤ 601024; omega) rfl (by show _ ≤ 7293034; omega) (hL_law_3.at 38 rfl rfl) (fun x33 => ?_)
        refine os_aload_n (i := 2) (q := 2) (v := l2) 2 rfl rfl (hL_law_3.at 39 rfl rfl) ?_
        refine os_callV (cis := [8]) (b := l2) (As := []) (st := [.int x33]) (st' := (fun r => .int r :: [.int x33])) sl8_X10_areas_X10_areas mdX10_areas wd2001 wd2002 (sX10_areas N l2 ) rfl rfl (fun _ => rfl) (Nat.le_of_ble_eq_true rfl) (Nat.le_of_ble_eq_true rfl) (Nat.le_of_ble_eq_true rfl) rfl (by show _ ≤ 601024; omega) rfl (by show _ ≤ 7293034; omega) (hL_law_3.at 40 rfl rfl) (fun x34 => ?_)
        refine os_icmp_eq (off := 1583) (tgt := 2037) rfl (hL_law_3.at 41 rfl rfl) ?_ ?_
        · exact osW.widen (k' := k + 3) (n' := n + 18) (by omega) (by omega) (osW.sub [0, 1, 2, 3, 4, 5] rfl (sL_law_2037 N L xs hend k n hk hn c28 g28 l0 l1 l2 l3 l4 l5 rfl))
        · refine os_iconst (i := 0) (v := (0 : Int32)) rfl (hL_law_3.at 42 rfl rfl) ?_
          exact os_lawno _ (by decide)
      · refine os_aload_n (i := 1) (q := 1) (v := l1) 1 rfl rfl (hL_law_3.at 44 rfl rfl) ?_
        refine os_callV (cis := [7]) (b := l1) (As := []) (st := []) (st' := (fun r => .int r :: [])) sl7_X9_powers_X9_powers mdX9_powers wd584 wd585 (sX9_powers N l1 ) rfl rfl (fun _ => rfl) (Nat.le_of_ble_eq_true rfl) (Nat.le_of_ble_eq_true rfl) (Nat.le_of_ble_eq_true rfl) rfl (by show _ ≤ 601024; omega) rfl (by show _ ≤ 7293034; omega) (hL_law_3.at 45 rfl rfl) (fun x35 => ?_)
        refine os_aload_n (i := 2) (q := 2) (v := l2) 2 rfl rfl (hL_law_3.at 46 rfl rfl) ?_
        refine os_callV (cis := [8]) (b := l2) (As := []) (st := [.int x35]) (st' := (fun r => .int r :: [.int x35])) sl8_X10_powers_X10_powers mdX10_powers wd2005 wd2006 (sX10_powers N l2 ) rfl rfl (fun _ => rfl) (Nat.le_of_ble_eq_true rfl) (Nat.le_of_ble_eq_true rfl) (Nat.le_of_ble_eq_true rfl) rfl (by show _ ≤ 601024; omega) rfl (by show _ ≤ 7293034; omega) (hL_law_3.at 47 rfl rfl) (fun x36 => ?_)
        refine os_icmp_eq (off := 1570) (tgt := 2037) rfl (hL_law_3.at 48 rfl rfl) ?_ ?_
        · exact osW.widen (k' := k + 3) (n' := n + 18) (by omega) (by omega) (osW.sub [0, 1, 2, 3, 4, 5] rfl (sL_law_2037 N L xs hend k n hk hn c28 g28 l0 l1 l2 l3 l4 l5 rfl))
        · refine os_iconst (i := 0) (v := (0 : Int32)) rfl (hL_law_3.at 49 rfl rfl) ?_
          exact os_lawno _ (by decide)
      · refine os_aload_n (i := 1) (q := 1) (v := l1) 1 rfl rfl (hL_law_4.at 1 rfl rfl) ?_
        refine os_aload_n (i := 0) (q := 0) (v := l0) 0 rfl rfl (hL_law_4.at 2 rfl rfl) ?_
        refine os_iload (v := l5) 5 rfl (hL_law_4.at 3 rfl rfl) ?_
        refine os_iconst (i := 1) (v := (1 : Int32)) rfl (hL_law_4.at 4 rfl rfl) ?_
        refine os_iadd (hL_law_4.at 5 rfl rfl) ?_
        refine os_sld (hL_law_4.at 6 rfl rfl) (fun x37 => ?_)
        refine os_aload_n (i := 0) (q := 0) (v := l0) 0 rfl rfl (hL_law_4.at 7 rfl rfl) ?_
        refine os_iload (v := l5) 5 rfl (hL_law_4.at 8 rfl rfl) ?_
        refine os_iconst (i := 2) (v := (2 : Int32)) rfl (hL_law_4.at 9 rfl rfl) ?_
        refine os_iadd (hL_law_4.at 10 rfl rfl) ?_
        refine os_sld (hL_law_4.at 11 rfl rfl) (fun x38 => ?_)
        refine os_aload_n (i := 3) (q := 3) (v := l3) 3 rfl rfl (hL_law_4.at 12 rfl rfl) ?_
        refine os_callSH (np := 4) (As := [.ref l1, .int x37, .int x38, .ref l3]) (st := []) (st' := (fun r => .int r :: [])) wd1163 wd150 (by decide +kernel) (by decide +kernel) wd1161 wd1162 (sL_area N l1 x37 x38 l3) rfl rfl (fun _ => rfl) (Nat.le_of_ble_eq_true rfl) (Nat.le_of_ble_eq_true rfl) (Nat.le_of_ble_eq_true rfl) rfl (by show _ ≤ 601024; omega) rfl (by show _ ≤ 7293034; omega) (hL_law_4.at 13 rfl rfl) (fun x39 => ?_)
        refine os_istore (i := 6) (lv' := [(6, .int x39), (0, .ref l0), (1, .ref l1), (2, .ref l2), (3, .ref l3), (4, .ref l4), (5, .int l5)]) (Nat.le_of_ble_eq_true rfl) rfl (hL_law_4.at 14 rfl rfl) ?_
        refine os_aload_n (i := 2) (q := 2) (v := l2) 3 rfl rfl (hL_law_4.at 15 rfl rfl) ?_
        refine os_aload_n (i := 0) (q := 0) (v := l0) 1 rfl rfl (hL_law_4.at 16 rfl rfl) ?_
        refine os_iload (v := l5) 6 rfl (hL_law_4.at 17 rfl rfl) ?_
        refine os_iconst (i := 1) (v := (1 : Int32)) rfl (hL_law_4.at 18 rfl rfl) ?_
        refine os_iadd (hL_law_4.at 19 rfl rfl) ?_
        refine os_sld (hL_law_4.at 20 rfl rfl) (fun x40 => ?_)
        refine os_aload_n (i := 0) (q := 0) (v := l0) 1 rfl rfl (hL_law_4.at 21 rfl rfl) ?_
        refine os_iload (v := l5) 6 rfl (hL_law_4.at 22 rfl rfl) ?_
        refine os_iconst (i := 2) (v := (2 : Int32)) rfl (hL_law_4.at 23 rfl rfl) ?_
        refine os_iadd (hL_law_4.at 24 rfl rfl) ?_
        refine os_sld (hL_law_4.at 25 rfl rfl) (fun x41 => ?_)
        refine os_callV (cis := [8]) (b := l2) (As := [.int x40, .int x41]) (st := []) (st' := (fun r => .int r :: [])) sl8_X10_area_X10_area mdX10_area wd2009 wd2010 (sX10_area N l2 x40 x41) rfl rfl (fun _ => rfl) (Nat.le_of_ble_eq_true rfl) (Nat.le_of_ble_eq_true rfl) (Nat.le_of_ble_eq_true rfl) rfl (by show _ ≤ 601024; omega) rfl (by show _ ≤ 7293034; omega) (hL_law_4.at 26 rfl rfl) (fun x42 => ?_)
        refine os_istore (i := 7) (lv' := [(7, .int x42), (6, .int x39), (0, .ref l0), (1, .ref l1), (2, .ref l2), (3, .ref l3), (4, .ref l4), (5, .int l5)]) (Nat.le_of_ble_eq_true rfl) rfl (hL_law_4.at 27 rfl rfl) ?_
        refine os_aload_n (i := 2) (q := 2) (v := l2) 4 rfl rfl (hL_law_4.at 28 rfl rfl) ?_
        refine os_callV (cis := [8]) (b := l2) (As := []) (st := []) (st' := (fun r => .int r :: [])) sl8_X10_thrown_X10_thrown mdX10_thrown wd1734 wd1735 (sX10_thrown N l2 ) rfl rfl (fun _ => rfl) (Nat.le_of_ble_eq_true rfl) (Nat.le_of_ble_eq_true rfl) (Nat.le_of_ble_eq_true rfl) rfl (by show _ ≤ 601024; omega) rfl (by show _ ≤ 7293034; omega) (hL_law_4.at 29 rfl rfl) (fun x43 => ?_)
        refine os_iload (v := x39) 1 rfl (hL_law_4.at 30 rfl rfl) ?_
        refine os_icmp_eq (off := 5) (tgt := 520) rfl (hL_law_4.at 31 rfl rfl) ?_ ?_
        · refine os_iload (v := x39) 1 rfl (hL_law_4.at 34 rfl rfl) ?_
          refine os_if_ne (off := 15) (tgt := 537) rfl (hL_law_4.at 35 rfl rfl) ?_ ?_
          · exact osW.widen (k' := k + 2) (n' := n + 12) (by omega) (by omega) (osW.sub [2, 3, 4, 5, 6, 7] rfl (sL_law_537 N L xs hend k n hk hn c28 g28 l0 l1 l2 l3 l4 l5 rfl))
          · refine os_aload_n (i := 3) (q := 3) (v := l3) 5 rfl rfl (hL_law_4.at 36 rfl rfl) ?_
            refine os_iconst (i := 0) (v := (0 : Int32)) rfl (hL_law_4.at 37 rfl rfl) ?_
            refine os_laload (hL_law_4.at 38 rfl rfl) (fun x44 => ?_)
            refine os_iload (v := x42) 0 rfl (hL_law_4.at 39 rfl rfl) ?_
            refine os_i2l (hL_law_4.at 40 rfl rfl) ?_
            refine os_lcmp (hL_law_4.at 41 rfl rfl) ?_
            refine os_if_eq (off := 5) (tgt := 537) rfl (hL_law_4.at 42 rfl rfl) ?_ ?_
            · exact osW.widen (k' := k + 2) (n' := n + 12) (by omega) (by omega) (osW.sub [2, 3, 4, 5, 6, 7] rfl (sL_law_537 N L xs hend k n hk hn c28 g28 l0 l1 l2 l3 l4 l5 rfl))
            · refine os_iconst (i := 0) (v := (0 : Int32)) rfl (hL_law_4.at 43 rfl rfl) ?_
              exact os_lawno _ (by decide)
        · refine os_iconst (i := 0) (v := (0 : Int32)) rfl (hL_law_4.at 32 rfl rfl) ?_
          exact os_lawno _ (by decide)
      · refine os_aload_n (i := 1) (q := 1) (v := l1) 1 rfl rfl (hL_law_4.at 46 rfl rfl) ?_
        refine os_aload_n (i := 0) (q := 0) (v := l0) 0 rfl rfl (hL_law_4.at 47 rfl rfl) ?_
        refine os_iload (v := l5) 5 rfl (hL_law_4.at 48 rfl rfl) ?_
        refine os_iconst (i := 1) (v := (1 : Int32)) rfl (hL_law_4.at 49 rfl rfl) ?_
        refine os_iadd (hL_law_5.at 0 rfl rfl) ?_
        refine os_sld (hL_law_5.at 1 rfl rfl) (fun x45 => ?_)
        refine os_aload_n (i := 3) (q := 3) (v := l3) 3 rfl rfl (hL_law_5.at 2 rfl rfl) ?_
        refine os_callSH (np := 3) (As := [.ref l1, .int x45, .ref l3]) (st := []) (st' := (fun r => .int r :: [])) wd1202 wd150 (by decide +kernel) (by decide +kernel) wd1200 wd1201 (sL_named N l1 x45 l3) rfl rfl (fun _ => rfl) (Nat.le_of_ble_eq_true rfl) (Nat.le_of_ble_eq_true rfl) (Nat.le_of_ble_eq_true rfl) rfl (by show _ ≤ 601024; omega) rfl (by show _ ≤ 7293034; omega) (hL_law_5.at 3 rfl rfl) (fun x46 => ?_)
        refine os_istore (i := 6) (lv' := [(6, .int x46), (0, .ref l0), (1, .ref l1), (2, .ref l2), (3, .ref l3), (4, .ref l4), (5, .int l5)]) (Nat.le_of_ble_eq_true rfl) rfl (hL_law_5.at 4 rfl rfl) ?_
        refine os_aload_n (i := 2) (q := 2) (v := l2) 3 rfl rfl (hL_law_5.at 5 rfl rfl) ?_
        refine os_aload_n (i := 0) (q := 0) (v := l0) 1 rfl rfl (hL_law_5.at 6 rfl rfl) ?_
        refine os_iload (v := l5) 6 rfl (hL_law_5.at 7 rfl rfl) ?_
        refine os_iconst (i := 1) (v := (1 : Int32)) rfl (hL_law_5.at 8 rfl rfl) ?_
        refine os_iadd (hL_law_5.at 9 rfl rfl) ?_
        refine os_sld (hL_law_5.at 10 rfl rfl) (fun x47 => ?_)
        refine os_callV (cis := [8]) (b := l2) (As := [.int x47]) (st := []) (st' := (fun r => .int r :: [])) sl8_X10_named_X10_named mdX10_named wd2021 wd2022 (sX10_named N l2 x47) rfl rfl (fun _ => rfl) (Nat.le_of_ble_eq_true rfl) (Nat.le_of_ble_eq_true rfl) (Nat.le_of_ble_eq_true rfl) rfl (by show _ ≤ 601024; omega) rfl (by show _ ≤ 7293034; omega) (hL_law_5.at 11 rfl rfl) (fun x48 => ?_)
        refine os_istore (i := 7) (lv' := [(7, .int x48), (6, .int x46), (0, .ref l0), (1, .ref l1), (2, .ref l2), (3, .ref l3), (4, .ref l4), (5, .int l5)]) (Nat.le_of_ble_eq_true rfl) rfl (hL_law_5.at 12 rfl rfl) ?_
        refine os_aload_n (i := 2) (q := 2) (v := l2) 4 rfl rfl (hL_law_5.at 13 rfl rfl) ?_
        refine os_callV (cis := [8]) (b := l2) (As := []) (st := []) (st' := (fun r => .int r :: [])) sl8_X10_thrown_X10_thrown mdX10_thrown wd1734 wd1735 (sX10_thrown N l2 ) rfl rfl (fun _ => rfl) (Nat.le_of_ble_eq_true rfl) (Nat.le_of_ble_eq_true rfl) (Nat.le_of_ble_eq_true rfl) rfl (by show _ ≤ 601024; omega) rfl (by show _ ≤ 7293034; omega) (hL_law_5.at 14 rfl rfl) (fun x49 => ?_)
        refine os_iload (v := x46) 1 rfl (hL_law_5.at 15 rfl rfl) ?_
        refine os_icmp_eq (off := 5) (tgt := 576) rfl (hL_law_5.at 16 rfl rfl) ?_ ?_
        · refine os_iload (v := x46) 1 rfl (hL_law_5.at 19 rfl rfl) ?_
          refine os_if_ne (off := 15) (tgt := 593) rfl (hL_law_5.at 20 rfl rfl) ?_ ?_
          · exact osW.widen (k' := k + 2) (n' := n + 12) (by omega) (by omega) (osW.sub [2, 3, 4, 5, 6, 7] rfl (sL_law_593 N L xs hend k n hk hn c28 g28 l0 l1 l2 l3 l4 l5 rfl))
          · refine os_aload_n (i := 3) (q := 3) (v := l3) 5 rfl rfl (hL_law_5.at 21 rfl rfl) ?_
            refine os_iconst (i := 0) (v := (0 : Int32)) rfl (hL_law_5.at 22 rfl rfl) ?_
            refine os_laload (hL_law_5.at 23 rfl rfl) (fun x50 => ?_)
            refine os_iload (v := x48) 0 rfl (hL_law_5.at 24 rfl rfl) ?_
            refine os_i2l (hL_law_5.at 25 rfl rfl) ?_
            refine os_lcmp (hL_law_5.at 26 rfl rfl) ?_
            refine os_if_eq (off := 5) (tgt := 593) rfl (hL_law_5.at 27 rfl rfl) ?_ ?_
            · exact osW.widen (k' := k + 2) (n' := n + 12) (by omega) (by omega) (osW.sub [2, 3, 4, 5, 6, 7] rfl (sL_law_593 N L xs hend k n hk hn c28 g28 l0 l1 l2 l3 l4 l5 rfl))
            · refine os_iconst (i := 0) (v := (0 : Int32)) rfl (hL_law_5.at 28 rfl rfl) ?_
              exact os_lawno _ (by decide)
        · refine os_iconst (i := 0) (v := (0 : Int32)) rfl (hL_law_5.at 17 rfl rfl) ?_
          exact os_lawno _ (by decide)
      · refine os_aload_n (i := 1) (q := 1) (v := l1) 1 rfl rfl (hL_law_5.at 31 rfl rfl) ?_
        refine os_aload_n (i := 0) (q := 0) (v := l0) 0 rfl rfl (hL_law_5.at 32 rfl rfl) ?_
        refine os_iload (v := l5) 5 rfl (hL_law_5.at 33 rfl rfl) ?_
        refine os_iconst (i := 1) (v := (1 : Int32)) rfl (hL_law_5.at 34 rfl rfl) ?_
        refine os_iadd (hL_law_5.at 35 rfl rfl) ?_
        refine os_sld (hL_law_5.at 36 rfl rfl) (fun x51 => ?_)
        refine os_aload_n (i := 0) (q := 0) (v := l0) 0 rfl rfl (hL_law_5.at 37 rfl rfl) ?_
        refine os_iload (v := l5) 5 rfl (hL_law_5.at 38 rfl rfl) ?_
        refine os_iconst (i := 2) (v := (2 : Int32)) rfl (hL_law_5.at 39 rfl rfl) ?_
        refine os_iadd (hL_law_5.at 40 rfl rfl) ?_
        refine os_sld (hL_law_5.at 41 rfl rfl) (fun x52 => ?_)
        refine os_aload_n (i := 0) (q := 0) (v := l0) 0 rfl rfl (hL_law_5.at 42 rfl rfl) ?_
        refine os_iload (v := l5) 5 rfl (hL_law_5.at 43 rfl rfl) ?_
        refine os_iconst (i := 3) (v := (3 : Int32)) rfl (hL_law_5.at 44 rfl rfl) ?_
        refine os_iadd (hL_law_5.at 45 rfl rfl) ?_
        refine os_sld (hL_law_5.at 46 rfl rfl) (fun x53 => ?_)
        refine os_if_eq (off := 7) (tgt := 622) rfl (hL_law_5.at 47 rfl rfl) ?_ ?_
        · refine os_iconst (i := 0) (v := (0 : Int32)) rfl (hL_law_6.at 0 rfl rfl) ?_
          exact osW.widen (k' := k + 0) (n' := n + 0) (by omega) (by omega) (osW.sub [0, 1, 2, 3, 4, 5] rfl (sL_law_623 N L xs hend k n hk hn c28 g28 l0 l1 l2 l3 l4 l5 (0 : Int32) x52 x51 l1 rfl))
        · refine os_iconst (i := 1) (v := (1 : Int32)) rfl (hL_law_5.at 48 rfl rfl) ?_
          refine os_goto (off := 4) (tgt := 623) rfl (hL_law_5.at 49 rfl rfl) ?_
          exact osW.widen (k' := k + 0) (n' := n + 0) (by omega) (by omega) (osW.sub [0, 1, 2, 3, 4, 5] rfl (sL_law_623 N L xs hend k n hk hn c28 g28 l0 l1 l2 l3 l4 l5 (1 : Int32) x52 x51 l1 rfl))
      · refine os_aload_n (i := 1) (q := 1) (v := l1) 1 rfl rfl (hL_law_6.at 47 rfl rfl) ?_
        refine os_aload_n (i := 0) (q := 0) (v := l0) 0 rfl rfl (hL_law_6.at 48 rfl rfl) ?_
        refine os_iload (v := l5) 5 rfl (hL_law_6.at 49 rfl rfl) ?_
        refine os_iconst (i := 1) (v := (1 : Int32)) rfl (hL_law_7.at 0 rfl rfl) ?_
        refine os_iadd (hL_law_7.at 1 rfl rfl) ?_
        refine os_sld (hL_law_7.at 2 rfl rfl) (fun x54 => ?_)
        refine os_aload_n (i := 0) (q := 0) (v := l0) 0 rfl rfl (hL_law_7.at 3 rfl rfl) ?_
        refine os_iload (v := l5) 5 rfl (hL_law_7.at 4 rfl rfl) ?_
        refine os_iconst (i := 2) (v := (2 : Int32)) rfl (hL_law_7.at 5 rfl rfl) ?_
        refine os_iadd (hL_law_7.at 6 rfl rfl) ?_
        refine os_sld (hL_law_7.at 7 rfl rfl) (fun x55 => ?_)
        refine os_aload_n (i := 0) (q := 0) (v := l0) 0 rfl rfl (hL_law_7.at 8 rfl rfl) ?_
        refine os_iload (v := l5) 5 rfl (hL_law_7.at 9 rfl rfl) ?_
        refine os_iconst (i := 3) (v := (3 : Int32)) rfl (hL_law_7.at 10 rfl rfl) ?_
        refine os_iadd (hL_law_7.at 11 rfl rfl) ?_
        refine os_sld (hL_law_7.at 12 rfl rfl) (fun x56 => ?_)
        refine os_if_eq (off := 7) (tgt := 725) rfl (hL_law_7.at 13 rfl rfl) ?_ ?_
        · refine os_iconst (i := 0) (v := (0 : Int32)) rfl (hL_law_7.at 16 rfl rfl) ?_
          exact osW.widen (k' := k + 0) (n' := n + 0) (by omega) (by omega) (osW.sub [0, 1, 2, 3, 4, 5] rfl (sL_law_726 N L xs hend k n hk hn c28 g28 l0 l1 l2 l3 l4 l5 (0 : Int32) x55 x54 l1 rfl))
        · refine os_iconst (i := 1) (v := (1 : Int32)) rfl (hL_law_7.at 14 rfl rfl) ?_
          refine os_goto (off := 4) (tgt := 726) rfl (hL_law_7.at 15 rfl rfl) ?_
          exact osW.widen (k' := k + 0) (n' := n + 0) (by omega) (by omega) (osW.sub [0, 1, 2, 3, 4, 5] rfl (sL_law_726 N L xs hend k n hk hn c28 g28 l0 l1 l2 l3 l4 l5 (1 : Int32) x55 x54 l1 rfl))
      · refine os_aload_n (i := 1) (q := 1) (v := l1) 1 rfl rfl (hL_law_8.at 10 rfl rfl) ?_
        refine os_aload_n (i := 0) (q := 0) (v := l0) 0 rfl rfl (hL_law_8.at 11 rfl rfl) ?_
        refine os_iload (v := l5) 5 rfl (hL_law_8.at 12 rfl rfl) ?_
        refine os_iconst (i := 1) (v := (1 : Int32)) rfl (hL_law_8.at 13 rfl rfl) ?_
        refine os_iadd (hL_law_8.at 14 rfl rfl) ?_
        refine os_sld (hL_law_8.at 15 rfl rfl) (fun x57 => ?_)
        refine os_aload_n (i := 0) (q := 0) (v := l0) 0 rfl rfl (hL_law_8.at 16 rfl rfl) ?_
        refine os_iload (v := l5) 5 rfl (hL_law_8.at 17 rfl rfl) ?_
        refine os_iconst (i := 2) (v := (2 : Int32)) rfl (hL_law_8.at 18 rfl rfl) ?_
        refine os_iadd (hL_law_8.at 19 rfl rfl) ?_
        refine os_sld (hL_law_8.at 20 rfl rfl) (fun x58 => ?_)
        refine os_aload_n (i := 3) (q := 3) (v := l3) 3 rfl rfl (hL_law_8.at 21 rfl rfl) ?_
        refine os_callSH (np := 4) (As := [.ref l1, .int x57, .int x58, .ref l3]) (st := []) (st' := (fun r => .int r :: [])) wd1244 wd150 (by decide +kernel) (by decide +kernel) wd1242 wd1243 (sL_power N l1 x57 x58 l3) rfl rfl (fun _ => rfl) (Nat.le_of_ble_eq_true rfl) (Nat.le_of_ble_eq_true rfl) (Nat.le_of_ble_eq_true rfl) rfl (by show _ ≤ 601024; omega) rfl (by show _ ≤ 7293034; omega) (hL_law_8.at 22 rfl rfl) (fun x59 => ?_)
        refine os_istore (i := 6) (lv' := [(6, .int x59), (0, .ref l0), (1, .ref l1), (2, .ref l2), (3, .ref l3), (4, .ref l4), (5, .int l5)]) (Nat.le_of_ble_eq_true rfl) rfl (hL_law_8.at 23 rfl rfl) ?_
        refine os_aload_n (i := 2) (q := 2) (v := l2) 3 rfl rfl (hL_law_8.at 24 rfl rfl) ?_
        refine os_aload_n (i := 0) (q := 0) (v := l0) 1 rfl rfl (hL_law_8.at 25 rfl rfl) ?_
        refine os_iload (v := l5) 6 rfl (hL_law_8.at 26 rfl rfl) ?_
        refine os_iconst (i := 1) (v := (1 : Int32)) rfl (hL_law_8.at 27 rfl rfl) ?_
        refine os_iadd (hL_law_8.at 28 rfl rfl) ?_
        refine os_sld (hL_law_8.at 29 rfl rfl) (fun x60 => ?_)
        refine os_aload_n (i := 0) (q := 0) (v := l0) 1 rfl rfl (hL_law_8.at 30 rfl rfl) ?_
        refine os_iload (v := l5) 6 rfl (hL_law_8.at 31 rfl rfl) ?_
        refine os_iconst (i := 2) (v := (2 : Int32)) rfl (hL_law_8.at 32 rfl rfl) ?_
        refine os_iadd (hL_law_8.at 33 rfl rfl) ?_
        refine os_sld (hL_law_8.at 34 rfl rfl) (fun x61 => ?_)
        refine os_callV (cis := [8]) (b := l2) (As := [.int x60, .int x61]) (st := []) (st' := (fun r => .int r :: [])) sl8_X10_power_X10_power mdX10_power wd2038 wd2039 (sX10_power N l2 x60 x61) rfl rfl (fun _ => rfl) (Nat.le_of_ble_eq_true rfl) (Nat.le_of_ble_eq_true rfl) (Nat.le_of_ble_eq_true rfl) rfl (by show _ ≤ 601024; omega) rfl (by show _ ≤ 7293034; omega) (hL_law_8.at 35 rfl rfl) (fun x62 => ?_)
        refine os_istore (i := 7) (lv' := [(7, .int x62), (6, .int x59), (0, .ref l0), (1, .ref l1), (2, .ref l2), (3, .ref l3), (4, .ref l4), (5, .int l5)]) (Nat.le_of_ble_eq_true rfl) rfl (hL_law_8.at 36 rfl rfl) ?_
        refine os_aload_n (i := 2) (q := 2) (v := l2) 4 rfl rfl (hL_law_8.at 37 rfl rfl) ?_
        refine os_callV (cis := [8]) (b := l2) (As := []) (st := []) (st' := (fun r => .int r :: [])) sl8_X10_thrown_X10_thrown mdX10_thrown wd1734 wd1735 (sX10_thrown N l2 ) rfl rfl (fun _ => rfl) (Nat.le_of_ble_eq_true rfl) (Nat.le_of_ble_eq_true rfl) (Nat.le_of_ble_eq_true rfl) rfl (by show _ ≤ 601024; omega) rfl (by show _ ≤ 7293034; omega) (hL_law_8.at 38 rfl rfl) (fun x63 => ?_)
        refine os_iload (v := x59) 1 rfl (hL_law_8.at 39 rfl rfl) ?_
        refine os_icmp_eq (off := 5) (tgt := 843) rfl (hL_law_8.at 40 rfl rfl) ?_ ?_
        · refine os_iload (v := x59) 1 rfl (hL_law_8.at 43 rfl rfl) ?_
          refine os_if_ne (off := 15) (tgt := 860) rfl (hL_law_8.at 44 rfl rfl) ?_ ?_
          · exact osW.widen (k' := k + 2) (n' := n + 12) (by omega) (by omega) (osW.sub [2, 3, 4, 5, 6, 7] rfl (sL_law_860 N L xs hend k n hk hn c28 g28 l0 l1 l2 l3 l4 l5 rfl))
          · refine os_aload_n (i := 3) (q := 3) (v := l3) 5 rfl rfl (hL_law_8.at 45 rfl rfl) ?_
            refine os_iconst (i := 0) (v := (0 : Int32)) rfl (hL_law_8.at 46 rfl rfl) ?_
            refine os_laload (hL_law_8.at 47 rfl rfl) (fun x64 => ?_)
            refine os_iload (v := x62) 0 rfl (hL_law_8.at 48 rfl rfl) ?_
            refine os_i2l (hL_law_8.at 49 rfl rfl) ?_
            refine os_lcmp (hL_law_9.at 0 rfl rfl) ?_
            refine os_if_eq (off := 5) (tgt := 860) rfl (hL_law_9.at 1 rfl rfl) ?_ ?_
            · exact osW.widen (k' := k + 2) (n' := n + 12) (by omega) (by omega) (osW.sub [2, 3, 4, 5, 6, 7] rfl (sL_law_860 N L xs hend k n hk hn c28 g28 l0 l1 l2 l3 l4 l5 rfl))
            · refine os_iconst (i := 0) (v := (0 : Int32)) rfl (hL_law_9.at 2 rfl rfl) ?_
              exact os_lawno _ (by decide)
        · refine os_iconst (i := 0) (v := (0 : Int32)) rfl (hL_law_8.at 41 rfl rfl) ?_
          exact os_lawno _ (by decide)
      · refine os_aload_n (i := 1) (q := 1) (v := l1) 1 rfl rfl (hL_law_9.at 5 rfl rfl) ?_
        refine os_callV (cis := [7]) (b := l1) (As := []) (st := []) (st' := (fun r => .int r :: [])) sl7_X9_phase_X9_phase mdX9_phase wd588 wd589 (sX9_phase N l1 ) rfl rfl (fun _ => rfl) (Nat.le_of_ble_eq_true rfl) (Nat.le_of_ble_eq_true rfl) (Nat.le_of_ble_eq_true rfl) rfl (by show _ ≤ 601024; omega) rfl (by show _ ≤ 7293034; omega) (hL_law_9.at 6 rfl rfl) (fun x65 => ?_)
        refine os_aload_n (i := 2) (q := 2) (v := l2) 2 rfl rfl (hL_law_9.at 7 rfl rfl) ?_
        refine os_callV (cis := [8]) (b := l2) (As := []) (st := [.int x65]) (st' := (fun r => .int r :: [.int x65])) sl8_X10_phase_X10_phase mdX10_phase wd2050 wd2051 (sX10_phase N l2 ) rfl rfl (fun _ => rfl) (Nat.le_of_ble_eq_true rfl) (Nat.le_of_ble_eq_true rfl) (Nat.le_of_ble_eq_true rfl) rfl (by show _ ≤ 601024; omega) rfl (by show _ ≤ 7293034; omega) (hL_law_9.at 8 rfl rfl) (fun x66 => ?_)
        refine os_icmp_eq (off := 1166) (tgt := 2037) rfl (hL_law_9.at 9 rfl rfl) ?_ ?_
        · exact osW.widen (k' := k + 3) (n' := n + 18) (by omega) (by omega) (osW.sub [0, 1, 2, 3, 4, 5] rfl (sL_law_2037 N L xs hend k n hk hn c28 g28 l0 l1 l2 l3 l4 l5 rfl))
        · refine os_iconst (i := 0) (v := (0 : Int32)) rfl (hL_law_9.at 10 rfl rfl) ?_
          exact os_lawno _ (by decide)
      · refine os_aload_n (i := 1) (q := 1) (v := l1) 1 rfl rfl (hL_law_9.at 12 rfl rfl) ?_
        refine os_callV (cis := [7]) (b := l1) (As := []) (st := []) (st' := (fun r => .int r :: [])) sl7_X9_turn_X9_turn mdX9_turn wd592 wd593 (sX9_turn N l1 ) rfl rfl (fun _ => rfl) (Nat.le_of_ble_eq_true rfl) (Nat.le_of_ble_eq_true rfl) (Nat.le_of_ble_eq_true rfl) rfl (by show _ ≤ 601024; omega) rfl (by show _ ≤ 7293034; omega) (hL_law_9.at 13 rfl rfl) (fun x67 => ?_)
        refine os_aload_n (i := 2) (q := 2) (v := l2) 2 rfl rfl (hL_law_9.at 14 rfl rfl) ?_
        refine os_callV (cis := [8]) (b := l2) (As := []) (st := [.int x67]) (st' := (fun r => .int r :: [.int x67])) sl8_X10_turn_X10_turn mdX10_turn wd2054 wd2055 (sX10_turn N l2 ) rfl rfl (fun _ => rfl) (Nat.le_of_ble_eq_true rfl) (Nat.le_of_ble_eq_true rfl) (Nat.le_of_ble_eq_true rfl) rfl (by show _ ≤ 601024; omega) rfl (by show _ ≤ 7293034; omega) (hL_law_9.at 15 rfl rfl) (fun x68 => ?_)
        refine os_icmp_eq (off := 1153) (tgt := 2037) rfl (hL_law_9.at 16 rfl rfl) ?_ ?_
        · exact osW.widen (k' := k + 3) (n' := n + 18) (by omega) (by omega) (osW.sub [0, 1, 2, 3, 4, 5] rfl (sL_law_2037 N L xs hend k n hk hn c28 g28 l0 l1 l2 l3 l4 l5 rfl))
        · refine os_iconst (i := 0) (v := (0 : Int32)) rfl (hL_law_9.at 17 rfl rfl) ?_
          exact os_lawno _ (by decide)
      · refine os_aload_n (i := 1) (q := 1) (v := l1) 1 rfl rfl (hL_law_9.at 19 rfl rfl) ?_
        refine os_aload_n (i := 0) (q := 0) (v := l0) 0 rfl rfl (hL_law_9.at 20 rfl rfl) ?_
        refine os_iload (v := l5) 5 rfl (hL_law_9.at 21 rfl rfl) ?_
        refine os_iconst (i := 1) (v := (1 : Int32)) rfl (hL_law_9.at 22 rfl rfl) ?_
        refine os_iadd (hL_law_9.at 23 rfl rfl) ?_
        refine os_sld (hL_law_9.at 24 rfl rfl) (fun x69 => ?_)
        refine os_aload_n (i := 0) (q := 0) (v := l0) 0 rfl rfl (hL_law_9.at 25 rfl rfl) ?_
        refine os_iload (v := l5) 5 rfl (hL_law_9.at 26 rfl rfl) ?_
        refine os_iconst (i := 2) (v := (2 : Int32)) rfl (hL_law_9.at 27 rfl rfl) ?_
        refine os_iadd (hL_law_9.at 28 rfl rfl) ?_
        refine os_sld (hL_law_9.at 29 rfl rfl) (fun x70 => ?_)
        refine os_aload_n (i := 3) (q := 3) (v := l3) 3 rfl rfl (hL_law_9.at 30 rfl rfl) ?_
        refine os_callSH (np := 4) (As := [.ref l1, .int x69, .int x70, .ref l3]) (st := []) (st' := (fun r => .int r :: [])) wd1262 wd150 (by decide +kernel) (by decide +kernel) wd1260 wd1261 (sL_order N l1 x69 x70 l3) rfl rfl (fun _ => rfl) (Nat.le_of_ble_eq_true rfl) (Nat.le_of_ble_eq_true rfl) (Nat.le_of_ble_eq_true rfl) rfl (by show _ ≤ 601024; omega) rfl (by show _ ≤ 7293034; omega) (hL_law_9.at 31 rfl rfl) (fun x71 => ?_)
        refine os_istore (i := 6) (lv' := [(6, .int x71), (0, .ref l0), (1, .ref l1), (2, .ref l2), (3, .ref l3), (4, .ref l4), (5, .int l5)]) (Nat.le_of_ble_eq_true rfl) rfl (hL_law_9.at 32 rfl rfl) ?_
        refine os_aload_n (i := 2) (q := 2) (v := l2) 3 rfl rfl (hL_law_9.at 33 rfl rfl) ?_
        refine os_aload_n (i := 0) (q := 0) (v := l0) 1 rfl rfl (hL_law_9.at 34 rfl rfl) ?_
        refine os_iload (v := l5) 6 rfl (hL_law_9.at 35 rfl rfl) ?_
        refine os_iconst (i := 1) (v := (1 : Int32)) rfl (hL_law_9.at 36 rfl rfl) ?_
        refine os_iadd (hL_law_9.at 37 rfl rfl) ?_
        refine os_sld (hL_law_9.at 38 rfl rfl) (fun x72 => ?_)
        refine os_aload_n (i := 0) (q := 0) (v := l0) 1 rfl rfl (hL_law_9.at 39 rfl rfl) ?_
        refine os_iload (v := l5) 6 rfl (hL_law_9.at 40 rfl rfl) ?_
        refine os_iconst (i := 2) (v := (2 : Int32)) rfl (hL_law_9.at 41 rfl rfl) ?_
        refine os_iadd (hL_law_9.at 42 rfl rfl) ?_
        refine os_sld (hL_law_9.at 43 rfl rfl) (fun x73 => ?_)
        refine os_callV (cis := [8]) (b := l2) (As := [.int x72, .int x73]) (st := []) (st' := (fun r => .int r :: [])) sl8_X10_order_X10_order mdX10_order wd2058 wd2059 (sX10_order N l2 x72 x73) rfl rfl (fun _ => rfl) (Nat.le_of_ble_eq_true rfl) (Nat.le_of_ble_eq_true rfl) (Nat.le_of_ble_eq_true rfl) rfl (by show _ ≤ 601024; omega) rfl (by show _ ≤ 7293034; omega) (hL_law_9.at 44 rfl rfl) (fun x74 => ?_)
        refine os_istore (i := 7) (lv' := [(7, .int x74), (6, .int x71), (0, .ref l0), (1, .ref l1), (2, .ref l2), (3, .ref l3), (4, .ref l4), (5, .int l5)]) (Nat.le_of_ble_eq_true rfl) rfl (hL_law_9.at 45 rfl rfl) ?_
        refine os_aload_n (i := 2) (q := 2) (v := l2) 4 rfl rfl (hL_law_9.at 46 rfl rfl) ?_
        refine os_callV (cis := [8]) (b := l2) (As := []) (st := []) (st' := (fun r => .int r :: [])) sl8_X10_thrown_X10_thrown mdX10_thrown wd1734 wd1735 (sX10_thrown N l2 ) rfl rfl (fun _ => rfl) (Nat.le_of_ble_eq_true rfl) (Nat.le_of_ble_eq_true rfl) (Nat.le_of_ble_eq_true rfl) rfl (by show _ ≤ 601024; omega) rfl (by show _ ≤ 7293034; omega) (hL_law_9.at 47 rfl rfl) (fun x75 => ?_)
        refine os_iload (v := x71) 1 rfl (hL_law_9.at 48 rfl rfl) ?_
        refine os_icmp_eq (off := 5) (tgt := 937) rfl (hL_law_9.at 49 rfl rfl) ?_ ?_
        · refine os_iload (v := x71) 1 rfl (hL_law_10.at 2 rfl rfl) ?_
          refine os_if_ne (off := 15) (tgt := 954) rfl (hL_law_10.at 3 rfl rfl) ?_ ?_
          · exact osW.widen (k' := k + 3) (n' := n + 18) (by omega) (by omega) (osW.sub [2, 3, 4, 5, 6, 7] rfl (sL_law_954 N L xs hend k n hk hn c28 g28 l0 l1 l2 l3 l4 l5 rfl))
          · refine os_aload_n (i := 3) (q := 3) (v := l3) 5 rfl rfl (hL_law_10.at 4 rfl rfl) ?_
            refine os_iconst (i := 0) (v := (0 : Int32)) rfl (hL_law_10.at 5 rfl rfl) ?_
            refine os_laload (hL_law_10.at 6 rfl rfl) (fun x76 => ?_)
            refine os_iload (v := x74) 0 rfl (hL_law_10.at 7 rfl rfl) ?_
            refine os_i2l (hL_law_10.at 8 rfl rfl) ?_
            refine os_lcmp (hL_law_10.at 9 rfl rfl) ?_
            refine os_if_eq (off := 5) (tgt := 954) rfl (hL_law_10.at 10 rfl rfl) ?_ ?_
            · exact osW.widen (k' := k + 3) (n' := n + 18) (by omega) (by omega) (osW.sub [2, 3, 4, 5, 6, 7] rfl (sL_law_954 N L xs hend k n hk hn c28 g28 l0 l1 l2 l3 l4 l5 rfl))
            · refine os_iconst (i := 0) (v := (0 : Int32)) rfl (hL_law_10.at 11 rfl rfl) ?_
              exact os_lawno _ (by decide)
        · refine os_iconst (i := 0) (v := (0 : Int32)) rfl (hL_law_10.at 0 rfl rfl) ?_
          exact os_lawno _ (by decide)
      · refine os_aload_n (i := 1) (q := 1) (v := l1) 1 rfl rfl (hL_law_10.at 14 rfl rfl) ?_
        refine os_aload_n (i := 3) (q := 3) (v := l3) 3 rfl rfl (hL_law_10.at 15 rfl rfl) ?_
        refine os_callSH (np := 2) (As := [.ref l1, .ref l3]) (st := []) (st' := (fun r => .int r :: [])) wd1279 wd150 (by decide +kernel) (by decide +kernel) wd1277 wd1278 (sL_settle N l1 l3) rfl rfl (fun _ => rfl) (Nat.le_of_ble_eq_true rfl) (Nat.le_of_ble_eq_true rfl) (Nat.le_of_ble_eq_true rfl) rfl (by show _ ≤ 601024; omega) rfl (by show _ ≤ 7293034; omega) (hL_law_10.at 16 rfl rfl) (fun x77 => ?_)
        refine os_istore (i := 6) (lv' := [(6, .int x77), (0, .ref l0), (1, .ref l1), (2, .ref l2), (3, .ref l3), (4, .ref l4), (5, .int l5)]) (Nat.le_of_ble_eq_true rfl) rfl (hL_law_10.at 17 rfl rfl) ?_
        refine os_aload_n (i := 2) (q := 2) (v := l2) 3 rfl rfl (hL_law_10.at 18 rfl rfl) ?_
        refine os_callV (cis := [8]) (b := l2) (As := []) (st := []) (st' := (fun r => .int r :: [])) sl8_X10_settle_X10_settle mdX10_settle wd2074 wd2075 (sX10_settle N l2 ) rfl rfl (fun _ => rfl) (Nat.le_of_ble_eq_true rfl) (Nat.le_of_ble_eq_true rfl) (Nat.le_of_ble_eq_true rfl) rfl (by show _ ≤ 601024; omega) rfl (by show _ ≤ 7293034; omega) (hL_law_10.at 19 rfl rfl) (fun x78 => ?_)
        refine os_istore (i := 7) (lv' := [(7, .int x78), (6, .int x77), (0, .ref l0), (1, .ref l1), (2, .ref l2), (3, .ref l3), (4, .ref l4), (5, .int l5)]) (Nat.le_of_ble_eq_true rfl) rfl (hL_law_10.at 20 rfl rfl) ?_
        refine os_aload_n (i := 2) (q := 2) (v := l2) 4 rfl rfl (hL_law_10.at 21 rfl rfl) ?_
        refine os_callV (cis := [8]) (b := l2) (As := []) (st := []) (st' := (fun r => .int r :: [])) sl8_X10_thrown_X10_thrown mdX10_thrown wd1734 wd1735 (sX10_thrown N l2 ) rfl rfl (fun _ => rfl) (Nat.le_of_ble_eq_true rfl) (Nat.le_of_ble_eq_true rfl) (Nat.le_of_ble_eq_true rfl) rfl (by show _ ≤ 601024; omega) rfl (by show _ ≤ 7293034; omega) (hL_law_10.at 22 rfl rfl) (fun x79 => ?_)
        refine os_iload (v := x77) 1 rfl (hL_law_10.at 23 rfl rfl) ?_
        refine os_icmp_eq (off := 5) (tgt := 981) rfl (hL_law_10.at 24 rfl rfl) ?_ ?_
        · refine os_iload (v := x77) 1 rfl (hL_law_10.at 27 rfl rfl) ?_
          refine os_if_ne (off := 15) (tgt := 998) rfl (hL_law_10.at 28 rfl rfl) ?_ ?_
          · exact osW.widen (k' := k + 1) (n' := n + 6) (by omega) (by omega) (osW.sub [2, 3, 4, 5, 6, 7] rfl (sL_law_998 N L xs hend k n hk hn c28 g28 l0 l1 l2 l3 l4 l5 rfl))
          · refine os_aload_n (i := 3) (q := 3) (v := l3) 5 rfl rfl (hL_law_10.at 29 rfl rfl) ?_
            refine os_iconst (i := 0) (v := (0 : Int32)) rfl (hL_law_10.at 30 rfl rfl) ?_
            refine os_laload (hL_law_10.at 31 rfl rfl) (fun x80 => ?_)
            refine os_iload (v := x78) 0 rfl (hL_law_10.at 32 rfl rfl) ?_
            refine os_i2l (hL_law_10.at 33 rfl rfl) ?_
            refine os_lcmp (hL_law_10.at 34 rfl rfl) ?_
            refine os_if_eq (off := 5) (tgt := 998) rfl (hL_law_10.at 35 rfl rfl) ?_ ?_
            · exact osW.widen (k' := k + 1) (n' := n + 6) (by omega) (by omega) (osW.sub [2, 3, 4, 5, 6, 7] rfl (sL_law_998 N L xs hend k n hk hn c28 g28 l0 l1 l2 l3 l4 l5 rfl))
            · refine os_iconst (i := 0) (v := (0 : Int32)) rfl (hL_law_10.at 36 rfl rfl) ?_
              exact os_lawno _ (by decide)
        · refine os_iconst (i := 0) (v := (0 : Int32)) rfl (hL_law_10.at 25 rfl rfl) ?_
          exact os_lawno _ (by decide)
      · refine os_aload_n (i := 1) (q := 1) (v := l1) 1 rfl rfl (hL_law_10.at 39 rfl rfl) ?_
        refine os_aload_n (i := 0) (q := 0) (v := l0) 0 rfl rfl (hL_law_10.at 40 rfl rfl) ?_
        refine os_iload (v := l5) 5 rfl (hL_law_10.at 41 rfl rfl) ?_
        refine os_iconst (i := 1) (v := (1 : Int32)) rfl (hL_law_10.at 42 rfl rfl) ?_
        refine os_iadd (hL_law_10.at 43 rfl rfl) ?_
        refine os_sld (hL_law_10.at 44 rfl rfl) (fun x81 => ?_)
        refine os_aload_n (i := 0) (q := 0) (v := l0) 0 rfl rfl (hL_law_10.at 45 rfl rfl) ?_
        refine os_iload (v := l5) 5 rfl (hL_law_10.at 46 rfl rfl) ?_
        refine os_iconst (i := 2) (v := (2 : Int32)) rfl (hL_law_10.at 47 rfl rfl) ?_
        refine os_iadd (hL_law_10.at 48 rfl rfl) ?_
        refine os_sld (hL_law_10.at 49 rfl rfl) (fun x82 => ?_)
        refine os_aload_n (i := 3) (q := 3) (v := l3) 3 rfl rfl (hL_law_11.at 0 rfl rfl) ?_
        refine os_callSH (np := 4) (As := [.ref l1, .int x81, .int x82, .ref l3]) (st := []) (st' := (fun r => .int r :: [])) wd1406 wd150 (by decide +kernel) (by decide +kernel) wd1404 wd1405 (sL_result N l1 x81 x82 l3) rfl rfl (fun _ => rfl) (Nat.le_of_ble_eq_true rfl) (Nat.le_of_ble_eq_true rfl) (Nat.le_of_ble_eq_true rfl) rfl (by show _ ≤ 601024; omega) rfl (by show _ ≤ 7293034; omega) (hL_law_11.at 1 rfl rfl) (fun x83 => ?_)
        refine os_istore (i := 6) (lv' := [(6, .int x83), (0, .ref l0), (1, .ref l1), (2, .ref l2), (3, .ref l3), (4, .ref l4), (5, .int l5)]) (Nat.le_of_ble_eq_true rfl) rfl (hL_law_11.at 2 rfl rfl) ?_
        refine os_aload_n (i := 2) (q := 2) (v := l2) 3 rfl rfl (hL_law_11.at 3 rfl rfl) ?_
        refine os_aload_n (i := 0) (q := 0) (v := l0) 1 rfl rfl (hL_law_11.at 4 rfl rfl) ?_
        refine os_iload (v := l5) 6 rfl (hL_law_11.at 5 rfl rfl) ?_
        refine os_iconst (i := 1) (v := (1 : Int32)) rfl (hL_law_11.at 6 rfl rfl) ?_
        refine os_iadd (hL_law_11.at 7 rfl rfl) ?_
        refine os_sld (hL_law_11.at 8 rfl rfl) (fun x84 => ?_)
        refine os_aload_n (i := 0) (q := 0) (v := l0) 1 rfl rfl (hL_law_11.at 9 rfl rfl) ?_
        refine os_iload (v := l5) 6 rfl (hL_law_11.at 10 rfl rfl) ?_
        refine os_iconst (i := 2) (v := (2 : Int32)) rfl (hL_law_11.at 11 rfl rfl) ?_
        refine os_iadd (hL_law_11.at 12 rfl rfl) ?_
        refine os_sld (hL_law_11.at 13 rfl rfl) (fun x85 => ?_)
        refine os_callV (cis := [8]) (b := l2) (As := [.int x84, .int x85]) (st := []) (st' := (fun r => .int r :: [])) sl8_X10_result_X10_result mdX10_result wd2181 wd2182 (sX10_result N l2 x84 x85) rfl rfl (fun _ => rfl) (Nat.le_of_ble_eq_true rfl) (Nat.le_of_ble_eq_true rfl) (Nat.le_of_ble_eq_true rfl) rfl (by show _ ≤ 601024; omega) rfl (by show _ ≤ 7293034; omega) (hL_law_11.at 14 rfl rfl) (fun x86 => ?_)
        refine os_istore (i := 7) (lv' := [(7, .int x86), (6, .int x83), (0, .ref l0), (1, .ref l1), (2, .ref l2), (3, .ref l3), (4, .ref l4), (5, .int l5)]) (Nat.le_of_ble_eq_true rfl) rfl (hL_law_11.at 15 rfl rfl) ?_
        refine os_aload_n (i := 2) (q := 2) (v := l2) 4 rfl rfl (hL_law_11.at 16 rfl rfl) ?_
        refine os_callV (cis := [8]) (b := l2) (As := []) (st := []) (st' := (fun r => .int r :: [])) sl8_X10_thrown_X10_thrown mdX10_thrown wd1734 wd1735 (sX10_thrown N l2 ) rfl rfl (fun _ => rfl) (Nat.le_of_ble_eq_true rfl) (Nat.le_of_ble_eq_true rfl) (Nat.le_of_ble_eq_true rfl) rfl (by show _ ≤ 601024; omega) rfl (by show _ ≤ 7293034; omega) (hL_law_11.at 17 rfl rfl) (fun x87 => ?_)
        refine os_iload (v := x83) 1 rfl (hL_law_11.at 18 rfl rfl) ?_
        refine os_icmp_eq (off := 5) (tgt := 1049) rfl (hL_law_11.at 19 rfl rfl) ?_ ?_
        · refine os_iload (v := x83) 1 rfl (hL_law_11.at 22 rfl rfl) ?_
          refine os_if_ne (off := 15) (tgt := 1066) rfl (hL_law_11.at 23 rfl rfl) ?_ ?_
          · exact osW.widen (k' := k + 3) (n' := n + 18) (by omega) (by omega) (osW.sub [2, 3, 4, 5, 6, 7] rfl (sL_law_1066 N L xs hend k n hk hn c28 g28 l0 l1 l2 l3 l4 l5 rfl))
          · refine os_aload_n (i := 3) (q := 3) (v := l3) 5 rfl rfl (hL_law_11.at 24 rfl rfl) ?_
            refine os_iconst (i := 0) (v := (0 : Int32)) rfl (hL_law_11.at 25 rfl rfl) ?_
            refine os_laload (hL_law_11.at 26 rfl rfl) (fun x88 => ?_)
            refine os_iload (v := x86) 0 rfl (hL_law_11.at 27 rfl rfl) ?_
            refine os_i2l (hL_law_11.at 28 rfl rfl) ?_
            refine os_lcmp (hL_law_11.at 29 rfl rfl) ?_
            refine os_if_eq (off := 5) (tgt := 1066) rfl (hL_law_11.at 30 rfl rfl) ?_ ?_
            · exact osW.widen (k' := k + 3) (n' := n + 18) (by omega) (by omega) (osW.sub [2, 3, 4, 5, 6, 7] rfl (sL_law_1066 N L xs hend k n hk hn c28 g28 l0 l1 l2 l3 l4 l5 rfl))
            · refine os_iconst (i := 0) (v := (0 : Int32)) rfl (hL_law_11.at 31 rfl rfl) ?_
              exact os_lawno _ (by decide)
        · refine os_iconst (i := 0) (v := (0 : Int32)) rfl (hL_law_11.at 20 rfl rfl) ?_
          exact os_lawno _ (by decide)
      · refine os_aload_n (i := 1) (q := 1) (v := l1) 1 rfl rfl (hL_law_11.at 34 rfl rfl) ?_
        refine os_aload_n (i := 3) (q := 3) (v := l3) 3 rfl rfl (hL_law_11.at 35 rfl rfl) ?_
        refine os_callSH (np := 2) (As := [.ref l1, .ref l3]) (st := []) (st' := (fun r => .int r :: [])) wd1418 wd150 (by decide +kernel) (by decide +kernel) wd1416 wd1417 (sL_outcomes N l1 l3) rfl rfl (fun _ => rfl) (Nat.le_of_ble_eq_true rfl) (Nat.le_of_ble_eq_true rfl) (Nat.le_of_ble_eq_true rfl) rfl (by show _ ≤ 601024; omega) rfl (by show _ ≤ 7293034; omega) (hL_law_11.at 36 rfl rfl) (fun x89 => ?_)
        refine os_istore (i := 6) (lv' := [(6, .int x89), (0, .ref l0), (1, .ref l1), (2, .ref l2), (3, .ref l3), (4, .ref l4), (5, .int l5)]) (Nat.le_of_ble_eq_true rfl) rfl (hL_law_11.at 37 rfl rfl) ?_
        refine os_aload_n (i := 2) (q := 2) (v := l2) 3 rfl rfl (hL_law_11.at 38 rfl rfl) ?_
        refine os_callV (cis := [8]) (b := l2) (As := []) (st := []) (st' := (fun r => .int r :: [])) sl8_X10_outcomes_X10_outcomes mdX10_outcomes wd2185 wd2186 (sX10_outcomes N l2 ) rfl rfl (fun _ => rfl) (Nat.le_of_ble_eq_true rfl) (Nat.le_of_ble_eq_true rfl) (Nat.le_of_ble_eq_true rfl) rfl (by show _ ≤ 601024; omega) rfl (by show _ ≤ 7293034; omega) (hL_law_11.at 39 rfl rfl) (fun x90 => ?_)
        refine os_istore (i := 7) (lv' := [(7, .int x90), (6, .int x89), (0, .ref l0), (1, .ref l1), (2, .ref l2), (3, .ref l3), (4, .ref l4), (5, .int l5)]) (Nat.le_of_ble_eq_true rfl) rfl (hL_law_11.at 40 rfl rfl) ?_
        refine os_aload_n (i := 2) (q := 2) (v := l2) 4 rfl rfl (hL_law_11.at 41 rfl rfl) ?_
        refine os_callV (cis := [8]) (b := l2) (As := []) (st := []) (st' := (fun r => .int r :: [])) sl8_X10_thrown_X10_thrown mdX10_thrown wd1734 wd1735 (sX10_thrown N l2 ) rfl rfl (fun _ => rfl) (Nat.le_of_ble_eq_true rfl) (Nat.le_of_ble_eq_true rfl) (Nat.le_of_ble_eq_true rfl) rfl (by show _ ≤ 601024; omega) rfl (by show _ ≤ 7293034; omega) (hL_law_11.at 42 rfl rfl) (fun x91 => ?_)
        refine os_iload (v := x89) 1 rfl (hL_law_11.at 43 rfl rfl) ?_
        refine os_icmp_eq (off := 5) (tgt := 1093) rfl (hL_law_11.at 44 rfl rfl) ?_ ?_
        · refine os_iload (v := x89) 1 rfl (hL_law_11.at 47 rfl rfl) ?_
          refine os_if_ne (off := 15) (tgt := 1110) rfl (hL_law_11.at 48 rfl rfl) ?_ ?_
          · exact osW.widen (k' := k + 1) (n' := n + 6) (by omega) (by omega) (osW.sub [2, 3, 4, 5, 6, 7] rfl (sL_law_1110 N L xs hend k n hk hn c28 g28 l0 l1 l2 l3 l4 l5 rfl))
          · refine os_aload_n (i := 3) (q := 3) (v := l3) 5 rfl rfl (hL_law_11.at 49 rfl rfl) ?_
            refine os_iconst (i := 0) (v := (0 : Int32)) rfl (hL_law_12.at 0 rfl rfl) ?_
            refine os_laload (hL_law_12.at 1 rfl rfl) (fun x92 => ?_)
            refine os_iload (v := x90) 0 rfl (hL_law_12.at 2 rfl rfl) ?_
            refine os_i2l (hL_law_12.at 3 rfl rfl) ?_
            refine os_lcmp (hL_law_12.at 4 rfl rfl) ?_
            refine os_if_eq (off := 5) (tgt := 1110) rfl (hL_law_12.at 5 rfl rfl) ?_ ?_
            · exact osW.widen (k' := k + 1) (n' := n + 6) (by omega) (by omega) (osW.sub [2, 3, 4, 5, 6, 7] rfl (sL_law_1110 N L xs hend k n hk hn c28 g28 l0 l1 l2 l3 l4 l5 rfl))
            · refine os_iconst (i := 0) (v := (0 : Int32)) rfl (hL_law_12.at 6 rfl rfl) ?_
              exact os_lawno _ (by decide)
        · refine os_iconst (i := 0) (v := (0 : Int32)) rfl (hL_law_11.at 45 rfl rfl) ?_
          exact os_lawno _ (by decide)
      · refine os_aload_n (i := 1) (q := 1) (v := l1) 1 rfl rfl (hL_law_12.at 9 rfl rfl) ?_
        refine os_aload_n (i := 0) (q := 0) (v := l0) 0 rfl rfl (hL_law_12.at 10 rfl rfl) ?_
        refine os_iload (v := l5) 5 rfl (hL_law_12.at 11 rfl rfl) ?_
        refine os_iconst (i := 1) (v := (1 : Int32)) rfl (hL_law_12.at 12 rfl rfl) ?_
        refine os_iadd (hL_law_12.at 13 rfl rfl) ?_
        refine os_sld (hL_law_12.at 14 rfl rfl) (fun x93 => ?_)
        refine os_aload_n (i := 3) (q := 3) (v := l3) 3 rfl rfl (hL_law_12.at 15 rfl rfl) ?_
        refine os_callSH (np := 3) (As := [.ref l1, .int x93, .ref l3]) (st := []) (st' := (fun r => .int r :: [])) wd1425 wd150 (by decide +kernel) (by decide +kernel) wd1423 wd1424 (sL_isContested N l1 x93 l3) rfl rfl (fun _ => rfl) (Nat.le_of_ble_eq_true rfl) (Nat.le_of_ble_eq_true rfl) (Nat.le_of_ble_eq_true rfl) rfl (by show _ ≤ 601024; omega) rfl (by show _ ≤ 7293034; omega) (hL_law_12.at 16 rfl rfl) (fun x94 => ?_)
        refine os_istore (i := 6) (lv' := [(6, .int x94), (0, .ref l0), (1, .ref l1), (2, .ref l2), (3, .ref l3), (4, .ref l4), (5, .int l5)]) (Nat.le_of_ble_eq_true rfl) rfl (hL_law_12.at 17 rfl rfl) ?_
        refine os_aload_n (i := 2) (q := 2) (v := l2) 3 rfl rfl (hL_law_12.at 18 rfl rfl) ?_
        refine os_aload_n (i := 0) (q := 0) (v := l0) 1 rfl rfl (hL_law_12.at 19 rfl rfl) ?_
        refine os_iload (v := l5) 6 rfl (hL_law_12.at 20 rfl rfl) ?_
        refine os_iconst (i := 1) (v := (1 : Int32)) rfl (hL_law_12.at 21 rfl rfl) ?_
        refine os_iadd (hL_law_12.at 22 rfl rfl) ?_
        refine os_sld (hL_law_12.at 23 rfl rfl) (fun x95 => ?_)
        refine os_callV (cis := [8]) (b := l2) (As := [.int x95]) (st := []) (st' := (fun r => .int r :: [])) sl8_X10_isContested_X10_isContested mdX10_isContested wd2189 wd2190 (sX10_isContested N l2 x95) rfl rfl (fun _ => rfl) (Nat.le_of_ble_eq_true rfl) (Nat.le_of_ble_eq_true rfl) (Nat.le_of_ble_eq_true rfl) rfl (by show _ ≤ 601024; omega) rfl (by show _ ≤ 7293034; omega) (hL_law_12.at 24 rfl rfl) (fun x96 => ?_)
        refine os_istore (i := 7) (lv' := [(7, .int x96), (6, .int x94), (0, .ref l0), (1, .ref l1), (2, .ref l2), (3, .ref l3), (4, .ref l4), (5, .int l5)]) (Nat.le_of_ble_eq_true rfl) rfl (hL_law_12.at 25 rfl rfl) ?_
        refine os_aload_n (i := 2) (q := 2) (v := l2) 4 rfl rfl (hL_law_12.at 26 rfl rfl) ?_
        refine os_callV (cis := [8]) (b := l2) (As := []) (st := []) (st' := (fun r => .int r :: [])) sl8_X10_thrown_X10_thrown mdX10_thrown wd1734 wd1735 (sX10_thrown N l2 ) rfl rfl (fun _ => rfl) (Nat.le_of_ble_eq_true rfl) (Nat.le_of_ble_eq_true rfl) (Nat.le_of_ble_eq_true rfl) rfl (by show _ ≤ 601024; omega) rfl (by show _ ≤ 7293034; omega) (hL_law_12.at 27 rfl rfl) (fun x97 => ?_)
        refine os_iload (v := x94) 1 rfl (hL_law_12.at 28 rfl rfl) ?_
        refine os_icmp_eq (off := 5) (tgt := 1149) rfl (hL_law_12.at 29 rfl rfl) ?_ ?_
        · refine os_iload (v := x94) 1 rfl (hL_law_12.at 32 rfl rfl) ?_
          refine os_if_ne (off := 22) (tgt := 1173) rfl (hL_law_12.at 33 rfl rfl) ?_ ?_
          · exact osW.widen (k' := k + 2) (n' := n + 12) (by omega) (by omega) (osW.sub [2, 3, 4, 5, 6, 7] rfl (sL_law_1173 N L xs hend k n hk hn c28 g28 l0 l1 l2 l3 l4 l5 rfl))
          · refine os_aload_n (i := 3) (q := 3) (v := l3) 5 rfl rfl (hL_law_12.at 34 rfl rfl) ?_
            refine os_iconst (i := 0) (v := (0 : Int32)) rfl (hL_law_12.at 35 rfl rfl) ?_
            refine os_laload (hL_law_12.at 36 rfl rfl) (fun x98 => ?_)
            refine os_iload (v := x96) 0 rfl (hL_law_12.at 37 rfl rfl) ?_
            refine os_if_eq (off := 7) (tgt := 1166) rfl (hL_law_12.at 38 rfl rfl) ?_ ?_
            · refine os_lconst (i := 0) (v := 0) rfl (hL_law_12.at 41 rfl rfl) ?_
              exact osW.widen (k' := k + 2) (n' := n + 12) (by omega) (by omega) (osW.sub [2, 3, 4, 5, 6, 7] rfl (sL_law_1167 N L xs hend k n hk hn c28 g28 l0 l1 l2 l3 l4 l5 (0 : Int64) x98 rfl))
            · refine os_lconst (i := 1) (v := 1) rfl (hL_law_12.at 39 rfl rfl) ?_
              refine os_goto (off := 4) (tgt := 1167) rfl (hL_law_12.at 40 rfl rfl) ?_
              exact osW.widen (k' := k + 2) (n' := n + 12) (by omega) (by omega) (osW.sub [2, 3, 4, 5, 6, 7] rfl (sL_law_1167 N L xs hend k n hk hn c28 g28 l0 l1 l2 l3 l4 l5 (1 : Int64) x98 rfl))
        · refine os_iconst (i := 0) (v := (0 : Int32)) rfl (hL_law_12.at 30 rfl rfl) ?_
          exact os_lawno _ (by decide)
      · refine os_aload_n (i := 1) (q := 1) (v := l1) 1 rfl rfl (hL_law_12.at 47 rfl rfl) ?_
        refine os_aload_n (i := 0) (q := 0) (v := l0) 0 rfl rfl (hL_law_12.at 48 rfl rfl) ?_
        refine os_iload (v := l5) 5 rfl (hL_law_12.at 49 rfl rfl) ?_
        refine os_iconst (i := 1) (v := (1 : Int32)) rfl (hL_law_13.at 0 rfl rfl) ?_
        refine os_iadd (hL_law_13.at 1 rfl rfl) ?_
        refine os_sld (hL_law_13.at 2 rfl rfl) (fun x99 => ?_)
        refine os_aload_n (i := 0) (q := 0) (v := l0) 0 rfl rfl (hL_law_13.at 3 rfl rfl) ?_
        refine os_iload (v := l5) 5 rfl (hL_law_13.at 4 rfl rfl) ?_
        refine os_iconst (i := 2) (v := (2 : Int32)) rfl (hL_law_13.at 5 rfl rfl) ?_
        refine os_iadd (hL_law_13.at 6 rfl rfl) ?_
        refine os_sld (hL_law_13.at 7 rfl rfl) (fun x100 => ?_)
        refine os_aload_n (i := 3) (q := 3) (v := l3) 3 rfl rfl (hL_law_13.at 8 rfl rfl) ?_
        refine os_callSH (np := 4) (As := [.ref l1, .int x99, .int x100, .ref l3]) (st := []) (st' := (fun r => .int r :: [])) wd1432 wd150 (by decide +kernel) (by decide +kernel) wd1430 wd1431 (sL_mayRetreat N l1 x99 x100 l3) rfl rfl (fun _ => rfl) (Nat.le_of_ble_eq_true rfl) (Nat.le_of_ble_eq_true rfl) (Nat.le_of_ble_eq_true rfl) rfl (by show _ ≤ 601024; omega) rfl (by show _ ≤ 7293034; omega) (hL_law_13.at 9 rfl rfl) (fun x101 => ?_)
        refine os_istore (i := 6) (lv' := [(6, .int x101), (0, .ref l0), (1, .ref l1), (2, .ref l2), (3, .ref l3), (4, .ref l4), (5, .int l5)]) (Nat.le_of_ble_eq_true rfl) rfl (hL_law_13.at 10 rfl rfl) ?_
        refine os_aload_n (i := 2) (q := 2) (v := l2) 3 rfl rfl (hL_law_13.at 11 rfl rfl) ?_
        refine os_aload_n (i := 0) (q := 0) (v := l0) 1 rfl rfl (hL_law_13.at 12 rfl rfl) ?_
        refine os_iload (v := l5) 6 rfl (hL_law_13.at 13 rfl rfl) ?_
        refine os_iconst (i := 1) (v := (1 : Int32)) rfl (hL_law_13.at 14 rfl rfl) ?_
        refine os_iadd (hL_law_13.at 15 rfl rfl) ?_
        refine os_sld (hL_law_13.at 16 rfl rfl) (fun x102 => ?_)
        refine os_aload_n (i := 0) (q := 0) (v := l0) 1 rfl rfl (hL_law_13.at 17 rfl rfl) ?_
        refine os_iload (v := l5) 6 rfl (hL_law_13.at 18 rfl rfl) ?_
        refine os_iconst (i := 2) (v := (2 : Int32)) rfl (hL_law_13.at 19 rfl rfl) ?_
        refine os_iadd (hL_law_13.at 20 rfl rfl) ?_
        refine os_sld (hL_law_13.at 21 rfl rfl) (fun x103 => ?_)
        refine os_callV (cis := [8]) (b := l2) (As := [.int x102, .int x103]) (st := []) (st' := (fun r => .int r :: [])) sl8_X10_mayRetreat_X10_mayRetreat mdX10_mayRetreat wd2193 wd2194 (sX10_mayRetreat N l2 x102 x103) rfl rfl (fun _ => rfl) (Nat.le_of_ble_eq_true rfl) (Nat.le_of_ble_eq_true rfl) (Nat.le_of_ble_eq_true rfl) rfl (by show _ ≤ 601024; omega) rfl (by show _ ≤ 7293034; omega) (hL_law_13.at 22 rfl rfl) (fun x104 => ?_)
        refine os_istore (i := 7) (lv' := [(7, .int x104), (6, .int x101), (0, .ref l0), (1, .ref l1), (2, .ref l2), (3, .ref l3), (4, .ref l4), (5, .int l5)]) (Nat.le_of_ble_eq_true rfl) rfl (hL_law_13.at 23 rfl rfl) ?_
        refine os_aload_n (i := 2) (q := 2) (v := l2) 4 rfl rfl (hL_law_13.at 24 rfl rfl) ?_
        refine os_callV (cis := [8]) (b := l2) (As := []) (st := []) (st' := (fun r => .int r :: [])) sl8_X10_thrown_X10_thrown mdX10_thrown wd1734 wd1735 (sX10_thrown N l2 ) rfl rfl (fun _ => rfl) (Nat.le_of_ble_eq_true rfl) (Nat.le_of_ble_eq_true rfl) (Nat.le_of_ble_eq_true rfl) rfl (by show _ ≤ 601024; omega) rfl (by show _ ≤ 7293034; omega) (hL_law_13.at 25 rfl rfl) (fun x105 => ?_)
        refine os_iload (v := x101) 1 rfl (hL_law_13.at 26 rfl rfl) ?_
        refine os_icmp_eq (off := 5) (tgt := 1224) rfl (hL_law_13.at 27 rfl rfl) ?_ ?_
        · refine os_iload (v := x101) 1 rfl (hL_law_13.at 30 rfl rfl) ?_
          refine os_if_ne (off := 22) (tgt := 1248) rfl (hL_law_13.at 31 rfl rfl) ?_ ?_
          · exact osW.widen (k' := k + 3) (n' := n + 18) (by omega) (by omega) (osW.sub [2, 3, 4, 5, 6, 7] rfl (sL_law_1248 N L xs hend k n hk hn c28 g28 l0 l1 l2 l3 l4 l5 rfl))
          · refine os_aload_n (i := 3) (q := 3) (v := l3) 5 rfl rfl (hL_law_13.at 32 rfl rfl) ?_
            refine os_iconst (i := 0) (v := (0 : Int32)) rfl (hL_law_13.at 33 rfl rfl) ?_
            refine os_laload (hL_law_13.at 34 rfl rfl) (fun x106 => ?_)
            refine os_iload (v := x104) 0 rfl (hL_law_13.at 35 rfl rfl) ?_
            refine os_if_eq (off := 7) (tgt := 1241) rfl (hL_law_13.at 36 rfl rfl) ?_ ?_
            · refine os_lconst (i := 0) (v := 0) rfl (hL_law_13.at 39 rfl rfl) ?_
              exact osW.widen (k' := k + 3) (n' := n + 18) (by omega) (by omega) (osW.sub [2, 3, 4, 5, 6, 7] rfl (sL_law_1242 N L xs hend k n hk hn c28 g28 l0 l1 l2 l3 l4 l5 (0 : Int64) x106 rfl))
            · refine os_lconst (i := 1) (v := 1) rfl (hL_law_13.at 37 rfl rfl) ?_
              refine os_goto (off := 4) (tgt := 1242) rfl (hL_law_13.at 38 rfl rfl) ?_
              exact osW.widen (k' := k + 3) (n' := n + 18) (by omega) (by omega) (osW.sub [2, 3, 4, 5, 6, 7] rfl (sL_law_1242 N L xs hend k n hk hn c28 g28 l0 l1 l2 l3 l4 l5 (1 : Int64) x106 rfl))
        · refine os_iconst (i := 0) (v := (0 : Int32)) rfl (hL_law_13.at 28 rfl rfl) ?_
          exact os_lawno _ (by decide)
      · refine os_aload_n (i := 1) (q := 1) (v := l1) 1 rfl rfl (hL_law_13.at 45 rfl rfl) ?_
        refine os_aload_n (i := 3) (q := 3) (v := l3) 3 rfl rfl (hL_law_13.at 46 rfl rfl) ?_
        refine os_callSH (np := 2) (As := [.ref l1, .ref l3]) (st := []) (st' := (fun r => .int r :: [])) wd1442 wd150 (by decide +kernel) (by decide +kernel) wd1440 wd1441 (sL_endRetreats N l1 l3) rfl rfl (fun _ => rfl) (Nat.le_of_ble_eq_true rfl) (Nat.le_of_ble_eq_true rfl) (Nat.le_of_ble_eq_true rfl) rfl (by show _ ≤ 601024; omega) rfl (by show _ ≤ 7293034; omega) (hL_law_13.at 47 rfl rfl) (fun x107 => ?_)
        refine os_istore (i := 6) (lv' := [(6, .int x107), (0, .ref l0), (1, .ref l1), (2, .ref l2), (3, .ref l3), (4, .ref l4), (5, .int l5)]) (Nat.le_of_ble_eq_true rfl) rfl (hL_law_13.at 48 rfl rfl) ?_
        refine os_aload_n (i := 2) (q := 2) (v := l2) 3 rfl rfl (hL_law_13.at 49 rfl rfl) ?_
        refine os_callV (cis := [8]) (b := l2) (As := []) (st := []) (st' := (fun r => .int r :: [])) sl8_X10_endRetreats_X10_endRetreats mdX10_endRetreats wd2197 wd2198 (sX10_endRetreats N l2 ) rfl rfl (fun _ => rfl) (Nat.le_of_ble_eq_true rfl) (Nat.le_of_ble_eq_true rfl) (Nat.le_of_ble_eq_true rfl) rfl (by show _ ≤ 601024; omega) rfl (by show _ ≤ 7293034; omega) (hL_law_14.at 0 rfl rfl) (fun x108 => ?_)
        refine os_istore (i := 7) (lv' := [(7, .int x108), (6, .int x107), (0, .ref l0), (1, .ref l1), (2, .ref l2), (3, .ref l3), (4, .ref l4), (5, .int l5)]) (Nat.le_of_ble_eq_true rfl) rfl (hL_law_14.at 1 rfl rfl) ?_
        refine os_aload_n (i := 2) (q := 2) (v := l2) 4 rfl rfl (hL_law_14.at 2 rfl rfl) ?_
        refine os_callV (cis := [8]) (b := l2) (As := []) (st := []) (st' := (fun r => .int r :: [])) sl8_X10_thrown_X10_thrown mdX10_thrown wd1734 wd1735 (sX10_thrown N l2 ) rfl rfl (fun _ => rfl) (Nat.le_of_ble_eq_true rfl) (Nat.le_of_ble_eq_true rfl) (Nat.le_of_ble_eq_true rfl) rfl (by show _ ≤ 601024; omega) rfl (by show _ ≤ 7293034; omega) (hL_law_14.at 3 rfl rfl) (fun x109 => ?_)
        refine os_iload (v := x107) 1 rfl (hL_law_14.at 4 rfl rfl) ?_
        refine os_icmp_eq (off := 5) (tgt := 1275) rfl (hL_law_14.at 5 rfl rfl) ?_ ?_
        · refine os_iload (v := x107) 1 rfl (hL_law_14.at 8 rfl rfl) ?_
          refine os_if_ne (off := 15) (tgt := 1292) rfl (hL_law_14.at 9 rfl rfl) ?_ ?_
          · exact osW.widen (k' := k + 1) (n' := n + 6) (by omega) (by omega) (osW.sub [2, 3, 4, 5, 6, 7] rfl (sL_law_1292 N L xs hend k n hk hn c28 g28 l0 l1 l2 l3 l4 l5 rfl))
          · refine os_aload_n (i := 3) (q := 3) (v := l3) 5 rfl rfl (hL_law_14.at 10 rfl rfl) ?_
            refine os_iconst (i := 0) (v := (0 : Int32)) rfl (hL_law_14.at 11 rfl rfl) ?_
            refine os_laload (hL_law_14.at 12 rfl rfl) (fun x110 => ?_)
            refine os_iload (v := x108) 0 rfl (hL_law_14.at 13 rfl rfl) ?_
            refine os_i2l (hL_law_14.at 14 rfl rfl) ?_
            refine os_lcmp (hL_law_14.at 15 rfl rfl) ?_
            refine os_if_eq (off := 5) (tgt := 1292) rfl (hL_law_14.at 16 rfl rfl) ?_ ?_
            · exact osW.widen (k' := k + 1) (n' := n + 6) (by omega) (by omega) (osW.sub [2, 3, 4, 5, 6, 7] rfl (sL_law_1292 N L xs hend k n hk hn c28 g28 l0 l1 l2 l3 l4 l5 rfl))
            · refine os_iconst (i := 0) (v := (0 : Int32)) rfl (hL_law_14.at 17 rfl rfl) ?_
              exact os_lawno _ (by decide)
        · refine os_iconst (i := 0) (v := (0 : Int32)) rfl (hL_law_14.at 6 rfl rfl) ?_
          exact os_lawno _ (by decide)
      · refine os_aload_n (i := 1) (q := 1) (v := l1) 1 rfl rfl (hL_law_14.at 20 rfl rfl) ?_
        refine os_aload_n (i := 3) (q := 3) (v := l3) 3 rfl rfl (hL_law_14.at 21 rfl rfl) ?_
        refine os_callSH (np := 2) (As := [.ref l1, .ref l3]) (st := []) (st' := (fun r => .int r :: [])) wd1453 wd150 (by decide +kernel) (by decide +kernel) wd1451 wd1452 (sL_endBuilds N l1 l3) rfl rfl (fun _ => rfl) (Nat.le_of_ble_eq_true rfl) (Nat.le_of_ble_eq_true rfl) (Nat.le_of_ble_eq_true rfl) rfl (by show _ ≤ 601024; omega) rfl (by show _ ≤ 7293034; omega) (hL_law_14.at 22 rfl rfl) (fun x111 => ?_)
        refine os_istore (i := 6) (lv' := [(6, .int x111), (0, .ref l0), (1, .ref l1), (2, .ref l2), (3, .ref l3), (4, .ref l4), (5, .int l5)]) (Nat.le_of_ble_eq_true rfl) rfl (hL_law_14.at 23 rfl rfl) ?_
        refine os_aload_n (i := 2) (q := 2) (v := l2) 3 rfl rfl (hL_law_14.at 24 rfl rfl) ?_
        refine os_callV (cis := [8]) (b := l2) (As := []) (st := []) (st' := (fun r => .int r :: [])) sl8_X10_endBuilds_X10_endBuilds mdX10_endBuilds wd2205 wd2206 (sX10_endBuilds N l2 ) rfl rfl (fun _ => rfl) (Nat.le_of_ble_eq_true rfl) (Nat.le_of_ble_eq_true rfl) (Nat.le_of_ble_eq_true rfl) rfl (by show _ ≤ 601024; omega) rfl (by show _ ≤ 7293034; omega) (hL_law_14.at 25 rfl rfl) (fun x112 => ?_)
        refine os_istore (i := 7) (lv' := [(7, .int x112), (6, .int x111), (0, .ref l0), (1, .ref l1), (2, .ref l2), (3, .ref l3), (4, .ref l4), (5, .int l5)]) (Nat.le_of_ble_eq_true rfl) rfl (hL_law_14.at 26 rfl rfl) ?_
        refine os_aload_n (i := 2) (q := 2) (v := l2) 4 rfl rfl (hL_law_14.at 27 rfl rfl) ?_
        refine os_callV (cis := [8]) (b := l2) (As := []) (st := []) (st' := (fun r => .int r :: [])) sl8_X10_thrown_X10_thrown mdX10_thrown wd1734 wd1735 (sX10_thrown N l2 ) rfl rfl (fun _ => rfl) (Nat.le_of_ble_eq_true rfl) (Nat.le_of_ble_eq_true rfl) (Nat.le_of_ble_eq_true rfl) rfl (by show _ ≤ 601024; omega) rfl (by show _ ≤ 7293034; omega) (hL_law_14.at 28 rfl rfl) (fun x113 => ?_)
        refine os_iload (v := x111) 1 rfl (hL_law_14.at 29 rfl rfl) ?_
        refine os_icmp_eq (off := 5) (tgt := 1319) rfl (hL_law_14.at 30 rfl rfl) ?_ ?_
        · refine os_iload (v := x111) 1 rfl (hL_law_14.at 33 rfl rfl) ?_
          refine os_if_ne (off := 15) (tgt := 1336) rfl (hL_law_14.at 34 rfl rfl) ?_ ?_
          · exact osW.widen (k' := k + 1) (n' := n + 6) (by omega) (by omega) (osW.sub [2, 3, 4, 5, 6, 7] rfl (sL_law_1336 N L xs hend k n hk hn c28 g28 l0 l1 l2 l3 l4 l5 rfl))
          · refine os_aload_n (i := 3) (q := 3) (v := l3) 5 rfl rfl (hL_law_14.at 35 rfl rfl) ?_
            refine os_iconst (i := 0) (v := (0 : Int32)) rfl (hL_law_14.at 36 rfl rfl) ?_
            refine os_laload (hL_law_14.at 37 rfl rfl) (fun x114 => ?_)
            refine os_iload (v := x112) 0 rfl (hL_law_14.at 38 rfl rfl) ?_
            refine os_i2l (hL_law_14.at 39 rfl rfl) ?_
            refine os_lcmp (hL_law_14.at 40 rfl rfl) ?_
            refine os_if_eq (off := 5) (tgt := 1336) rfl (hL_law_14.at 41 rfl rfl) ?_ ?_
            · exact osW.widen (k' := k + 1) (n' := n + 6) (by omega) (by omega) (osW.sub [2, 3, 4, 5, 6, 7] rfl (sL_law_1336 N L xs hend k n hk hn c28 g28 l0 l1 l2 l3 l4 l5 rfl))
            · refine os_iconst (i := 0) (v := (0 : Int32)) rfl (hL_law_14.at 42 rfl rfl) ?_
              exact os_lawno _ (by decide)
        · refine os_iconst (i := 0) (v := (0 : Int32)) rfl (hL_law_14.at 31 rfl rfl) ?_
          exact os_lawno _ (by decide)
      · refine os_aload_n (i := 1) (q := 1) (v := l1) 1 rfl rfl (hL_law_14.at 45 rfl rfl) ?_
        refine os_aload_n (i := 3) (q := 3) (v := l3) 3 rfl rfl (hL_law_14.at 46 rfl rfl) ?_
        refine os_callSH (np := 2) (As := [.ref l1, .ref l3]) (st := []) (st' := (fun r => .int r :: [])) wd1466 wd150 (by decide +kernel) (by decide +kernel) wd1464 wd1465 (sL_undo N l1 l3) rfl rfl (fun _ => rfl) (Nat.le_of_ble_eq_true rfl) (Nat.le_of_ble_eq_true rfl) (Nat.le_of_ble_eq_true rfl) rfl (by show _ ≤ 601024; omega) rfl (by show _ ≤ 7293034; omega) (hL_law_14.at 47 rfl rfl) (fun x115 => ?_)
        refine os_istore (i := 6) (lv' := [(6, .int x115), (0, .ref l0), (1, .ref l1), (2, .ref l2), (3, .ref l3), (4, .ref l4), (5, .int l5)]) (Nat.le_of_ble_eq_true rfl) rfl (hL_law_14.at 48 rfl rfl) ?_
        refine os_aload_n (i := 2) (q := 2) (v := l2) 3 rfl rfl (hL_law_14.at 49 rfl rfl) ?_
        refine os_callV (cis := [8]) (b := l2) (As := []) (st := []) (st' := (fun r => .int r :: [])) sl8_X10_undo_X10_undo mdX10_undo wd2066 wd2067 (sX10_undo N l2 ) rfl rfl (fun _ => rfl) (Nat.le_of_ble_eq_true rfl) (Nat.le_of_ble_eq_true rfl) (Nat.le_of_ble_eq_true rfl) rfl (by show _ ≤ 601024; omega) rfl (by show _ ≤ 7293034; omega) (hL_law_15.at 0 rfl rfl) (fun x116 => ?_)
        refine os_istore (i := 7) (lv' := [(7, .int x116), (6, .int x115), (0, .ref l0), (1, .ref l1), (2, .ref l2), (3, .ref l3), (4, .ref l4), (5, .int l5)]) (Nat.le_of_ble_eq_true rfl) rfl (hL_law_15.at 1 rfl rfl) ?_
        refine os_aload_n (i := 2) (q := 2) (v := l2) 4 rfl rfl (hL_law_15.at 2 rfl rfl) ?_
        refine os_callV (cis := [8]) (b := l2) (As := []) (st := []) (st' := (fun r => .int r :: [])) sl8_X10_thrown_X10_thrown mdX10_thrown wd1734 wd1735 (sX10_thrown N l2 ) rfl rfl (fun _ => rfl) (Nat.le_of_ble_eq_true rfl) (Nat.le_of_ble_eq_true rfl) (Nat.le_of_ble_eq_true rfl) rfl (by show _ ≤ 601024; omega) rfl (by show _ ≤ 7293034; omega) (hL_law_15.at 3 rfl rfl) (fun x117 => ?_)
        refine os_iload (v := x115) 1 rfl (hL_law_15.at 4 rfl rfl) ?_
        refine os_icmp_eq (off := 5) (tgt := 1363) rfl (hL_law_15.at 5 rfl rfl) ?_ ?_
        · refine os_iload (v := x115) 1 rfl (hL_law_15.at 8 rfl rfl) ?_
          refine os_if_ne (off := 15) (tgt := 1380) rfl (hL_law_15.at 9 rfl rfl) ?_ ?_
          · exact osW.widen (k' := k + 1) (n' := n + 6) (by omega) (by omega) (osW.sub [2, 3, 4, 5, 6, 7] rfl (sL_law_1380 N L xs hend k n hk hn c28 g28 l0 l1 l2 l3 l4 l5 rfl))
          · refine os_aload_n (i := 3) (q := 3) (v := l3) 5 rfl rfl (hL_law_15.at 10 rfl rfl) ?_
            refine os_iconst (i := 0) (v := (0 : Int32)) rfl (hL_law_15.at 11 rfl rfl) ?_
            refine os_laload (hL_law_15.at 12 rfl rfl) (fun x118 => ?_)
            refine os_iload (v := x116) 0 rfl (hL_law_15.at 13 rfl rfl) ?_
            refine os_i2l (hL_law_15.at 14 rfl rfl) ?_
            refine os_lcmp (hL_law_15.at 15 rfl rfl) ?_
            refine os_if_eq (off := 5) (tgt := 1380) rfl (hL_law_15.at 16 rfl rfl) ?_ ?_
            · exact osW.widen (k' := k + 1) (n' := n + 6) (by omega) (by omega) (osW.sub [2, 3, 4, 5, 6, 7] rfl (sL_law_1380 N L xs hend k n hk hn c28 g28 l0 l1 l2 l3 l4 l5 rfl))
            · refine os_iconst (i := 0) (v := (0 : Int32)) rfl (hL_law_15.at 17 rfl rfl) ?_
              exact os_lawno _ (by decide)
        · refine os_iconst (i := 0) (v := (0 : Int32)) rfl (hL_law_15.at 6 rfl rfl) ?_
          exact os_lawno _ (by decide)
      · refine os_aload_n (i := 1) (q := 1) (v := l1) 1 rfl rfl (hL_law_15.at 20 rfl rfl) ?_
        refine os_callV (cis := [7]) (b := l1) (As := []) (st := []) (st' := (fun r => .int r :: [])) sl7_X9_undoCount_X9_undoCount mdX9_undoCount wd596 wd597 (sX9_undoCount N l1 ) rfl rfl (fun _ => rfl) (Nat.le_of_ble_eq_true rfl) (Nat.le_of_ble_eq_true rfl) (Nat.le_of_ble_eq_true rfl) rfl (by show _ ≤ 601024; omega) rfl (by show _ ≤ 7293034; omega) (hL_law_15.at 21 rfl rfl) (fun x119 => ?_)
        refine os_aload_n (i := 2) (q := 2) (v := l2) 2 rfl rfl (hL_law_15.at 22 rfl rfl) ?_
        refine os_callV (cis := [8]) (b := l2) (As := []) (st := [.int x119]) (st' := (fun r => .int r :: [.int x119])) sl8_X10_undoCount_X10_undoCount mdX10_undoCount wd2070 wd2071 (sX10_undoCount N l2 ) rfl rfl (fun _ => rfl) (Nat.le_of_ble_eq_true rfl) (Nat.le_of_ble_eq_true rfl) (Nat.le_of_ble_eq_true rfl) rfl (by show _ ≤ 601024; omega) rfl (by show _ ≤ 7293034; omega) (hL_law_15.at 23 rfl rfl) (fun x120 => ?_)
        refine os_icmp_eq (off := 646) (tgt := 2037) rfl (hL_law_15.at 24 rfl rfl) ?_ ?_
        · exact osW.widen (k' := k + 3) (n' := n + 18) (by omega) (by omega) (osW.sub [0, 1, 2, 3, 4, 5] rfl (sL_law_2037 N L xs hend k n hk hn c28 g28 l0 l1 l2 l3 l4 l5 rfl))
        · refine os_iconst (i := 0) (v := (0 : Int32)) rfl (hL_law_15.at 25 rfl rfl) ?_
          exact os_lawno _ (by decide)
      · refine os_aload_n (i := 1) (q := 1) (v := l1) 1 rfl rfl (hL_law_15.at 27 rfl rfl) ?_
        refine os_aload_n (i := 0) (q := 0) (v := l0) 0 rfl rfl (hL_law_15.at 28 rfl rfl) ?_
        refine os_iload (v := l5) 5 rfl (hL_law_15.at 29 rfl rfl) ?_
        refine os_iconst (i := 1) (v := (1 : Int32)) rfl (hL_law_15.at 30 rfl rfl) ?_
        refine os_iadd (hL_law_15.at 31 rfl rfl) ?_
        refine os_sld (hL_law_15.at 32 rfl rfl) (fun x121 => ?_)
        refine os_aload_n (i := 0) (q := 0) (v := l0) 0 rfl rfl (hL_law_15.at 33 rfl rfl) ?_
        refine os_iload (v := l5) 5 rfl (hL_law_15.at 34 rfl rfl) ?_
        refine os_iconst (i := 2) (v := (2 : Int32)) rfl (hL_law_15.at 35 rfl rfl) ?_
        refine os_iadd (hL_law_15.at 36 rfl rfl) ?_
        refine os_sld (hL_law_15.at 37 rfl rfl) (fun x122 => ?_)
        refine os_aload_n (i := 3) (q := 3) (v := l3) 3 rfl rfl (hL_law_15.at 38 rfl rfl) ?_
        refine os_callSH (np := 4) (As := [.ref l1, .int x121, .int x122, .ref l3]) (st := []) (st' := (fun r => .int r :: [])) wd1474 wd150 (by decide +kernel) (by decide +kernel) wd1472 wd1473 (sL_foresee N l1 x121 x122 l3) rfl rfl (fun _ => rfl) (Nat.le_of_ble_eq_true rfl) (Nat.le_of_ble_eq_true rfl) (Nat.le_of_ble_eq_true rfl) rfl (by show _ ≤ 601024; omega) rfl (by show _ ≤ 7293034; omega) (hL_law_15.at 39 rfl rfl) (fun x123 => ?_)
        refine os_istore (i := 6) (lv' := [(6, .int x123), (0, .ref l0), (1, .ref l1), (2, .ref l2), (3, .ref l3), (4, .ref l4), (5, .int l5)]) (Nat.le_of_ble_eq_true rfl) rfl (hL_law_15.at 40 rfl rfl) ?_
        refine os_aload_n (i := 2) (q := 2) (v := l2) 3 rfl rfl (hL_law_15.at 41 rfl rfl) ?_
        refine os_aload_n (i := 0) (q := 0) (v := l0) 1 rfl rfl (hL_law_15.at 42 rfl rfl) ?_
        refine os_iload (v := l5) 6 rfl (hL_law_15.at 43 rfl rfl) ?_
        refine os_iconst (i := 1) (v := (1 : Int32)) rfl (hL_law_15.at 44 rfl rfl) ?_
        refine os_iadd (hL_law_15.at 45 rfl rfl) ?_
        refine os_sld (hL_law_15.at 46 rfl rfl) (fun x124 => ?_)
        refine os_aload_n (i := 0) (q := 0) (v := l0) 1 rfl rfl (hL_law_15.at 47 rfl rfl) ?_
        refine os_iload (v := l5) 6 rfl (hL_law_15.at 48 rfl rfl) ?_
        refine os_iconst (i := 2) (v := (2 : Int32)) rfl (hL_law_15.at 49 rfl rfl) ?_
        refine os_iadd (hL_law_16.at 0 rfl rfl) ?_
        refine os_sld (hL_law_16.at 1 rfl rfl) (fun x125 => ?_)
        refine os_callV (cis := [8]) (b := l2) (As := [.int x124, .int x125]) (st := []) (st' := (fun r => .int r :: [])) sl8_X10_foresee_X10_foresee mdX10_foresee wd2209 wd2210 (sX10_foresee N l2 x124 x125) rfl rfl (fun _ => rfl) (Nat.le_of_ble_eq_true rfl) (Nat.le_of_ble_eq_true rfl) (Nat.le_of_ble_eq_true rfl) rfl (by show _ ≤ 601024; omega) rfl (by show _ ≤ 7293034; omega) (hL_law_16.at 2 rfl rfl) (fun x126 => ?_)
        refine os_istore (i := 7) (lv' := [(7, .int x126), (6, .int x123), (0, .ref l0), (1, .ref l1), (2, .ref l2), (3, .ref l3), (4, .ref l4), (5, .int l5)]) (Nat.le_of_ble_eq_true rfl) rfl (hL_law_16.at 3 rfl rfl) ?_
        refine os_aload_n (i := 2) (q := 2) (v := l2) 4 rfl rfl (hL_law_16.at 4 rfl rfl) ?_
        refine os_callV (cis := [8]) (b := l2) (As := []) (st := []) (st' := (fun r => .int r :: [])) sl8_X10_thrown_X10_thrown mdX10_thrown wd1734 wd1735 (sX10_thrown N l2 ) rfl rfl (fun _ => rfl) (Nat.le_of_ble_eq_true rfl) (Nat.le_of_ble_eq_true rfl) (Nat.le_of_ble_eq_true rfl) rfl (by show _ ≤ 601024; omega) rfl (by show _ ≤ 7293034; omega) (hL_law_16.at 5 rfl rfl) (fun x127 => ?_)
        refine os_iload (v := x123) 1 rfl (hL_law_16.at 6 rfl rfl) ?_
        refine os_icmp_eq (off := 5) (tgt := 1444) rfl (hL_law_16.at 7 rfl rfl) ?_ ?_
        · refine os_iload (v := x123) 1 rfl (hL_law_16.at 10 rfl rfl) ?_
          refine os_if_ne (off := 15) (tgt := 1461) rfl (hL_law_16.at 11 rfl rfl) ?_ ?_
          · exact osW.widen (k' := k + 3) (n' := n + 18) (by omega) (by omega) (osW.sub [2, 3, 4, 5, 6, 7] rfl (sL_law_1461 N L xs hend k n hk hn c28 g28 l0 l1 l2 l3 l4 l5 rfl))
          · refine os_aload_n (i := 3) (q := 3) (v := l3) 5 rfl rfl (hL_law_16.at 12 rfl rfl) ?_
            refine os_iconst (i := 0) (v := (0 : Int32)) rfl (hL_law_16.at 13 rfl rfl) ?_
            refine os_laload (hL_law_16.at 14 rfl rfl) (fun x128 => ?_)
            refine os_iload (v := x126) 0 rfl (hL_law_16.at 15 rfl rfl) ?_
            refine os_i2l (hL_law_16.at 16 rfl rfl) ?_
            refine os_lcmp (hL_law_16.at 17 rfl rfl) ?_
            refine os_if_eq (off := 5) (tgt := 1461) rfl (hL_law_16.at 18 rfl rfl) ?_ ?_
            · exact osW.widen (k' := k + 3) (n' := n + 18) (by omega) (by omega) (osW.sub [2, 3, 4, 5, 6, 7] rfl (sL_law_1461 N L xs hend k n hk hn c28 g28 l0 l1 l2 l3 l4 l5 rfl))
            · refine os_iconst (i := 0) (v := (0 : Int32)) rfl (hL_law_16.at 19 rfl rfl) ?_
              exact os_lawno _ (by decide)
        · refine os_iconst (i := 0) (v := (0 : Int32)) rfl (hL_law_16.at 8 rfl rfl) ?_
          exact os_lawno _ (by decide)
      · refine os_aload_n (i := 1) (q := 1) (v := l1) 1 rfl rfl (hL_law_16.at 22 rfl rfl) ?_
        refine os_aload_n (i := 0) (q := 0) (v := l0) 0 rfl rfl (hL_law_16.at 23 rfl rfl) ?_
        refine os_iload (v := l5) 5 rfl (hL_law_16.at 24 rfl rfl) ?_
        refine os_iconst (i := 1) (v := (1 : Int32)) rfl (hL_law_16.at 25 rfl rfl) ?_
        refine os_iadd (hL_law_16.at 26 rfl rfl) ?_
        refine os_sld (hL_law_16.at 27 rfl rfl) (fun x129 => ?_)
        refine os_aload_n (i := 0) (q := 0) (v := l0) 0 rfl rfl (hL_law_16.at 28 rfl rfl) ?_
        refine os_iload (v := l5) 5 rfl (hL_law_16.at 29 rfl rfl) ?_
        refine os_iconst (i := 2) (v := (2 : Int32)) rfl (hL_law_16.at 30 rfl rfl) ?_
        refine os_iadd (hL_law_16.at 31 rfl rfl) ?_
        refine os_sld (hL_law_16.at 32 rfl rfl) (fun x130 => ?_)
        refine os_aload_n (i := 3) (q := 3) (v := l3) 3 rfl rfl (hL_law_16.at 33 rfl rfl) ?_
        refine os_callSH (np := 4) (As := [.ref l1, .int x129, .int x130, .ref l3]) (st := []) (st' := (fun r => .int r :: [])) wd1482 wd150 (by decide +kernel) (by decide +kernel) wd1480 wd1481 (sL_foreseeMove N l1 x129 x130 l3) rfl rfl (fun _ => rfl) (Nat.le_of_ble_eq_true rfl) (Nat.le_of_ble_eq_true rfl) (Nat.le_of_ble_eq_true rfl) rfl (by show _ ≤ 601024; omega) rfl (by show _ ≤ 7293034; omega) (hL_law_16.at 34 rfl rfl) (fun x131 => ?_)
        refine os_istore (i := 6) (lv' := [(6, .int x131), (0, .ref l0), (1, .ref l1), (2, .ref l2), (3, .ref l3), (4, .ref l4), (5, .int l5)]) (Nat.le_of_ble_eq_true rfl) rfl (hL_law_16.at 35 rfl rfl) ?_
        refine os_aload_n (i := 2) (q := 2) (v := l2) 3 rfl rfl (hL_law_16.at 36 rfl rfl) ?_
        refine os_aload_n (i := 0) (q := 0) (v := l0) 1 rfl rfl (hL_law_16.at 37 rfl rfl) ?_
        refine os_iload (v := l5) 6 rfl (hL_law_16.at 38 rfl rfl) ?_
        refine os_iconst (i := 1) (v := (1 : Int32)) rfl (hL_law_16.at 39 rfl rfl) ?_
        refine os_iadd (hL_law_16.at 40 rfl rfl) ?_
        refine os_sld (hL_law_16.at 41 rfl rfl) (fun x132 => ?_)
        refine os_aload_n (i := 0) (q := 0) (v := l0) 1 rfl rfl (hL_law_16.at 42 rfl rfl) ?_
        refine os_iload (v := l5) 6 rfl (hL_law_16.at 43 rfl rfl) ?_
        refine os_iconst (i := 2) (v := (2 : Int32)) rfl (hL_law_16.at 44 rfl rfl) ?_
        refine os_iadd (hL_law_16.at 45 rfl rfl) ?_
        refine os_sld (hL_law_16.at 46 rfl rfl) (fun x133 => ?_)
        refine os_callV (cis := [8]) (b := l2) (As := [.int x132, .int x133]) (st := []) (st' := (fun r => .int r :: [])) sl8_X10_foreseeMove_X10_foreseeMove mdX10_foreseeMove wd2213 wd2214 (sX10_foreseeMove N l2 x132 x133) rfl rfl (fun _ => rfl) (Nat.le_of_ble_eq_true rfl) (Nat.le_of_ble_eq_true rfl) (Nat.le_of_ble_eq_true rfl) rfl (by show _ ≤ 601024; omega) rfl (by show _ ≤ 7293034; omega) (hL_law_16.at 47 rfl rfl) (fun x134 => ?_)
        refine os_istore (i := 7) (lv' := [(7, .int x134), (6, .int x131), (0, .ref l0), (1, .ref l1), (2, .ref l2), (3, .ref l3), (4, .ref l4), (5, .int l5)]) (Nat.le_of_ble_eq_true rfl) rfl (hL_law_16.at 48 rfl rfl) ?_
        refine os_aload_n (i := 2) (q := 2) (v := l2) 4 rfl rfl (hL_law_16.at 49 rfl rfl) ?_
        refine os_callV (cis := [8]) (b := l2) (As := []) (st := []) (st' := (fun r => .int r :: [])) sl8_X10_thrown_X10_thrown mdX10_thrown wd1734 wd1735 (sX10_thrown N l2 ) rfl rfl (fun _ => rfl) (Nat.le_of_ble_eq_true rfl) (Nat.le_of_ble_eq_true rfl) (Nat.le_of_ble_eq_true rfl) rfl (by show _ ≤ 601024; omega) rfl (by show _ ≤ 7293034; omega) (hL_law_17.at 0 rfl rfl) (fun x135 => ?_)
        refine os_iload (v := x131) 1 rfl (hL_law_17.at 1 rfl rfl) ?_
        refine os_icmp_eq (off := 5) (tgt := 1512) rfl (hL_law_17.at 2 rfl rfl) ?_ ?_
        · refine os_iload (v := x131) 1 rfl (hL_law_17.at 5 rfl rfl) ?_
          refine os_if_ne (off := 15) (tgt := 1529) rfl (hL_law_17.at 6 rfl rfl) ?_ ?_
          · exact osW.widen (k' := k + 3) (n' := n + 18) (by omega) (by omega) (osW.sub [2, 3, 4, 5, 6, 7] rfl (sL_law_1529 N L xs hend k n hk hn c28 g28 l0 l1 l2 l3 l4 l5 rfl))
          · refine os_aload_n (i := 3) (q := 3) (v := l3) 5 rfl rfl (hL_law_17.at 7 rfl rfl) ?_
            refine os_iconst (i := 0) (v := (0 : Int32)) rfl (hL_law_17.at 8 rfl rfl) ?_
            refine os_laload (hL_law_17.at 9 rfl rfl) (fun x136 => ?_)
            refine os_iload (v := x134) 0 rfl (hL_law_17.at 10 rfl rfl) ?_
            refine os_i2l (hL_law_17.at 11 rfl rfl) ?_
            refine os_lcmp (hL_law_17.at 12 rfl rfl) ?_
            refine os_if_eq (off := 5) (tgt := 1529) rfl (hL_law_17.at 13 rfl rfl) ?_ ?_
            · exact osW.widen (k' := k + 3) (n' := n + 18) (by omega) (by omega) (osW.sub [2, 3, 4, 5, 6, 7] rfl (sL_law_1529 N L xs hend k n hk hn c28 g28 l0 l1 l2 l3 l4 l5 rfl))
            · refine os_iconst (i := 0) (v := (0 : Int32)) rfl (hL_law_17.at 14 rfl rfl) ?_
              exact os_lawno _ (by decide)
        · refine os_iconst (i := 0) (v := (0 : Int32)) rfl (hL_law_17.at 3 rfl rfl) ?_
          exact os_lawno _ (by decide)
      · refine os_aload_n (i := 1) (q := 1) (v := l1) 1 rfl rfl (hL_law_17.at 17 rfl rfl) ?_
        refine os_aload_n (i := 0) (q := 0) (v := l0) 0 rfl rfl (hL_law_17.at 18 rfl rfl) ?_
        refine os_iload (v := l5) 5 rfl (hL_law_17.at 19 rfl rfl) ?_
        refine os_iconst (i := 1) (v := (1 : Int32)) rfl (hL_law_17.at 20 rfl rfl) ?_
        refine os_iadd (hL_law_17.at 21 rfl rfl) ?_
        refine os_sld (hL_law_17.at 22 rfl rfl) (fun x137 => ?_)
        refine os_aload_n (i := 0) (q := 0) (v := l0) 0 rfl rfl (hL_law_17.at 23 rfl rfl) ?_
        refine os_iload (v := l5) 5 rfl (hL_law_17.at 24 rfl rfl) ?_
        refine os_iconst (i := 2) (v := (2 : Int32)) rfl (hL_law_17.at 25 rfl rfl) ?_
        refine os_iadd (hL_law_17.at 26 rfl rfl) ?_
        refine os_sld (hL_law_17.at 27 rfl rfl) (fun x138 => ?_)
        refine os_aload_n (i := 0) (q := 0) (v := l0) 0 rfl rfl (hL_law_17.at 28 rfl rfl) ?_
        refine os_iload (v := l5) 5 rfl (hL_law_17.at 29 rfl rfl) ?_
        refine os_iconst (i := 3) (v := (3 : Int32)) rfl (hL_law_17.at 30 rfl rfl) ?_
        refine os_iadd (hL_law_17.at 31 rfl rfl) ?_
        refine os_sld (hL_law_17.at 32 rfl rfl) (fun x139 => ?_)
        refine os_if_eq (off := 7) (tgt := 1558) rfl (hL_law_17.at 33 rfl rfl) ?_ ?_
        · refine os_iconst (i := 0) (v := (0 : Int32)) rfl (hL_law_17.at 36 rfl rfl) ?_
          exact osW.widen (k' := k + 0) (n' := n + 0) (by omega) (by omega) (osW.sub [0, 1, 2, 3, 4, 5] rfl (sL_law_1559 N L xs hend k n hk hn c28 g28 l0 l1 l2 l3 l4 l5 (0 : Int32) x138 x137 l1 rfl))
        · refine os_iconst (i := 1) (v := (1 : Int32)) rfl (hL_law_17.at 34 rfl rfl) ?_
          refine os_goto (off := 4) (tgt := 1559) rfl (hL_law_17.at 35 rfl rfl) ?_
          exact osW.widen (k' := k + 0) (n' := n + 0) (by omega) (by omega) (osW.sub [0, 1, 2, 3, 4, 5] rfl (sL_law_1559 N L xs hend k n hk hn c28 g28 l0 l1 l2 l3 l4 l5 (1 : Int32) x138 x137 l1 rfl))
      · refine os_aload_n (i := 1) (q := 1) (v := l1) 1 rfl rfl (hL_law_18.at 30 rfl rfl) ?_
        refine os_aload_n (i := 0) (q := 0) (v := l0) 0 rfl rfl (hL_law_18.at 31 rfl rfl) ?_
        refine os_iload (v := l5) 5 rfl (hL_law_18.at 32 rfl rfl) ?_
        refine os_iconst (i := 1) (v := (1 : Int32)) rfl (hL_law_18.at 33 rfl rfl) ?_
        refine os_iadd (hL_law_18.at 34 rfl rfl) ?_
        refine os_sld (hL_law_18.at 35 rfl rfl) (fun x140 => ?_)
        refine os_aload_n (i := 3) (q := 3) (v := l3) 3 rfl rfl (hL_law_18.at 36 rfl rfl) ?_
        refine os_callSH (np := 3) (As := [.ref l1, .int x140, .ref l3]) (st := []) (st' := (fun r => .int r :: [])) wd1503 wd150 (by decide +kernel) (by decide +kernel) wd1501 wd1502 (sL_isThreatened N l1 x140 l3) rfl rfl (fun _ => rfl) (Nat.le_of_ble_eq_true rfl) (Nat.le_of_ble_eq_true rfl) (Nat.le_of_ble_eq_true rfl) rfl (by show _ ≤ 601024; omega) rfl (by show _ ≤ 7293034; omega) (hL_law_18.at 37 rfl rfl) (fun x141 => ?_)
        refine os_istore (i := 6) (lv' := [(6, .int x141), (0, .ref l0), (1, .ref l1), (2, .ref l2), (3, .ref l3), (4, .ref l4), (5, .int l5)]) (Nat.le_of_ble_eq_true rfl) rfl (hL_law_18.at 38 rfl rfl) ?_
        refine os_aload_n (i := 2) (q := 2) (v := l2) 3 rfl rfl (hL_law_18.at 39 rfl rfl) ?_
        refine os_aload_n (i := 0) (q := 0) (v := l0) 1 rfl rfl (hL_law_18.at 40 rfl rfl) ?_
        refine os_iload (v := l5) 6 rfl (hL_law_18.at 41 rfl rfl) ?_
        refine os_iconst (i := 1) (v := (1 : Int32)) rfl (hL_law_18.at 42 rfl rfl) ?_
        refine os_iadd (hL_law_18.at 43 rfl rfl) ?_
        refine os_sld (hL_law_18.at 44 rfl rfl) (fun x142 => ?_)
        refine os_callV (cis := [8]) (b := l2) (As := [.int x142]) (st := []) (st' := (fun r => .int r :: [])) sl8_X10_isThreatened_X10_isThreatened mdX10_isThreatened wd2225 wd2226 (sX10_isThreatened N l2 x142) rfl rfl (fun _ => rfl) (Nat.le_of_ble_eq_true rfl) (Nat.le_of_ble_eq_true rfl) (Nat.le_of_ble_eq_true rfl) rfl (by show _ ≤ 601024; omega) rfl (by show _ ≤ 7293034; omega) (hL_law_18.at 45 rfl rfl) (fun x143 => ?_)
        refine os_istore (i := 7) (lv' := [(7, .int x143), (6, .int x141), (0, .ref l0), (1, .ref l1), (2, .ref l2), (3, .ref l3), (4, .ref l4), (5, .int l5)]) (Nat.le_of_ble_eq_true rfl) rfl (hL_law_18.at 46 rfl rfl) ?_
        refine os_aload_n (i := 2) (q := 2) (v := l2) 4 rfl rfl (hL_law_18.at 47 rfl rfl) ?_
        refine os_callV (cis := [8]) (b := l2) (As := []) (st := []) (st' := (fun r => .int r :: [])) sl8_X10_thrown_X10_thrown mdX10_thrown wd1734 wd1735 (sX10_thrown N l2 ) rfl rfl (fun _ => rfl) (Nat.le_of_ble_eq_true rfl) (Nat.le_of_ble_eq_true rfl) (Nat.le_of_ble_eq_true rfl) rfl (by show _ ≤ 601024; omega) rfl (by show _ ≤ 7293034; omega) (hL_law_18.at 48 rfl rfl) (fun x144 => ?_)
        refine os_iload (v := x141) 1 rfl (hL_law_18.at 49 rfl rfl) ?_
        refine os_icmp_eq (off := 5) (tgt := 1664) rfl (hL_law_19.at 0 rfl rfl) ?_ ?_
        · refine os_iload (v := x141) 1 rfl (hL_law_19.at 3 rfl rfl) ?_
          refine os_if_ne (off := 22) (tgt := 1688) rfl (hL_law_19.at 4 rfl rfl) ?_ ?_
          · exact osW.widen (k' := k + 1) (n' := n + 6) (by omega) (by omega) (osW.sub [2, 3, 4, 5, 6, 7] rfl (sL_law_1688 N L xs hend k n hk hn c28 g28 l0 l1 l2 l3 l4 l5 rfl))
          · refine os_aload_n (i := 3) (q := 3) (v := l3) 5 rfl rfl (hL_law_19.at 5 rfl rfl) ?_
            refine os_iconst (i := 0) (v := (0 : Int32)) rfl (hL_law_19.at 6 rfl rfl) ?_
            refine os_laload (hL_law_19.at 7 rfl rfl) (fun x145 => ?_)
            refine os_iload (v := x143) 0 rfl (hL_law_19.at 8 rfl rfl) ?_
            refine os_if_eq (off := 7) (tgt := 1681) rfl (hL_law_19.at 9 rfl rfl) ?_ ?_
            · refine os_lconst (i := 0) (v := 0) rfl (hL_law_19.at 12 rfl rfl) ?_
              exact osW.widen (k' := k + 1) (n' := n + 6) (by omega) (by omega) (osW.sub [2, 3, 4, 5, 6, 7] rfl (sL_law_1682 N L xs hend k n hk hn c28 g28 l0 l1 l2 l3 l4 l5 (0 : Int64) x145 rfl))
            · refine os_lconst (i := 1) (v := 1) rfl (hL_law_19.at 10 rfl rfl) ?_
              refine os_goto (off := 4) (tgt := 1682) rfl (hL_law_19.at 11 rfl rfl) ?_
              exact osW.widen (k' := k + 1) (n' := n + 6) (by omega) (by omega) (osW.sub [2, 3, 4, 5, 6, 7] rfl (sL_law_1682 N L xs hend k n hk hn c28 g28 l0 l1 l2 l3 l4 l5 (1 : Int64) x145 rfl))
        · refine os_iconst (i := 0) (v := (0 : Int32)) rfl (hL_law_19.at 1 rfl rfl) ?_
          exact os_lawno _ (by decide)
      · refine os_aload_n (i := 1) (q := 1) (v := l1) 1 rfl rfl (hL_law_19.at 18 rfl rfl) ?_
        refine os_aload_n (i := 0) (q := 0) (v := l0) 0 rfl rfl (hL_law_19.at 19 rfl rfl) ?_
        refine os_iload (v := l5) 5 rfl (hL_law_19.at 20 rfl rfl) ?_
        refine os_iconst (i := 1) (v := (1 : Int32)) rfl (hL_law_19.at 21 rfl rfl) ?_
        refine os_iadd (hL_law_19.at 22 rfl rfl) ?_
        refine os_sld (hL_law_19.at 23 rfl rfl) (fun x146 => ?_)
        refine os_aload (v := l4) 4 rfl (hL_law_19.at 24 rfl rfl) ?_
        refine os_callSH (np := 3) (As := [.ref l1, .int x146, .ref l4]) (st := []) (st' := (fun r => .int r :: [])) wd1510 wd150 (by decide +kernel) (by decide +kernel) wd1508 wd1509 (sL_share N l1 x146 l4) rfl rfl (fun _ => rfl) (Nat.le_of_ble_eq_true rfl) (Nat.le_of_ble_eq_true rfl) (Nat.le_of_ble_eq_true rfl) rfl (by show _ ≤ 601024; omega) rfl (by show _ ≤ 7293034; omega) (hL_law_19.at 25 rfl rfl) (fun x147 => ?_)
        refine os_istore (i := 6) (lv' := [(6, .int x147), (0, .ref l0), (1, .ref l1), (2, .ref l2), (3, .ref l3), (4, .ref l4), (5, .int l5)]) (Nat.le_of_ble_eq_true rfl) rfl (hL_law_19.at 26 rfl rfl) ?_
        refine os_aload_n (i := 2) (q := 2) (v := l2) 3 rfl rfl (hL_law_19.at 27 rfl rfl) ?_
        refine os_aload_n (i := 0) (q := 0) (v := l0) 1 rfl rfl (hL_law_19.at 28 rfl rfl) ?_
        refine os_iload (v := l5) 6 rfl (hL_law_19.at 29 rfl rfl) ?_
        refine os_iconst (i := 1) (v := (1 : Int32)) rfl (hL_law_19.at 30 rfl rfl) ?_
        refine os_iadd (hL_law_19.at 31 rfl rfl) ?_
        refine os_sld (hL_law_19.at 32 rfl rfl) (fun x148 => ?_)
        refine os_callV (cis := [8]) (b := l2) (As := [.int x148]) (st := []) (st' := (fun r => .float r :: [])) sl8_X10_share_X10_share mdX10_share wd2229 wd2230 (sX10_share N l2 x148) rfl rfl (fun _ => rfl) (Nat.le_of_ble_eq_true rfl) (Nat.le_of_ble_eq_true rfl) (Nat.le_of_ble_eq_true rfl) rfl (by show _ ≤ 601024; omega) rfl (by show _ ≤ 7293034; omega) (hL_law_19.at 33 rfl rfl) (fun x149 => ?_)
        refine os_fstore (i := 7) (lv' := [(7, .float x149), (6, .int x147), (0, .ref l0), (1, .ref l1), (2, .ref l2), (3, .ref l3), (4, .ref l4), (5, .int l5)]) (Nat.le_of_ble_eq_true rfl) rfl (hL_law_19.at 34 rfl rfl) ?_
        refine os_aload_n (i := 2) (q := 2) (v := l2) 4 rfl rfl (hL_law_19.at 35 rfl rfl) ?_
        refine os_callV (cis := [8]) (b := l2) (As := []) (st := []) (st' := (fun r => .int r :: [])) sl8_X10_thrown_X10_thrown mdX10_thrown wd1734 wd1735 (sX10_thrown N l2 ) rfl rfl (fun _ => rfl) (Nat.le_of_ble_eq_true rfl) (Nat.le_of_ble_eq_true rfl) (Nat.le_of_ble_eq_true rfl) rfl (by show _ ≤ 601024; omega) rfl (by show _ ≤ 7293034; omega) (hL_law_19.at 36 rfl rfl) (fun x150 => ?_)
        refine os_iload (v := x147) 1 rfl (hL_law_19.at 37 rfl rfl) ?_
        refine os_icmp_eq (off := 5) (tgt := 1728) rfl (hL_law_19.at 38 rfl rfl) ?_ ?_
        · refine os_iload (v := x147) 1 rfl (hL_law_19.at 41 rfl rfl) ?_
          refine os_if_ne (off := 36) (tgt := 1766) rfl (hL_law_19.at 42 rfl rfl) ?_ ?_
          · exact osW.widen (k' := k + 1) (n' := n + 6) (by omega) (by omega) (osW.sub [2, 3, 4, 5, 6, 7] rfl (sL_law_1766 N L xs hend k n hk hn c28 g28 l0 l1 l2 l3 l4 l5 rfl))
          · refine os_aload (v := l4) 6 rfl (hL_law_19.at 43 rfl rfl) ?_
            refine os_iconst (i := 0) (v := (0 : Int32)) rfl (hL_law_19.at 44 rfl rfl) ?_
            refine os_daload (hL_law_19.at 45 rfl rfl) (fun x151 => ?_)
            refine os_fload (v := x149) 0 rfl (hL_law_19.at 46 rfl rfl) ?_
            refine os_guard (fun h152 => ?_)
            refine os_f2d (osn64_ok h152) (hL_law_19.at 47 rfl rfl) ?_
            refine os_dcmp (op := .l) (hL_law_19.at 48 rfl rfl) ?_
            refine os_if_eq (off := 25) (tgt := 1766) rfl (hL_law_19.at 49 rfl rfl) ?_ ?_
            · exact osW.widen (k' := k + 1) (n' := n + 6) (by omega) (by omega) (osW.sub [2, 3, 4, 5, 6, 7] rfl (sL_law_1766 N L xs hend k n hk hn c28 g28 l0 l1 l2 l3 l4 l5 rfl))
            · refine os_aload (v := l4) 6 rfl (hL_law_20.at 0 rfl rfl) ?_
              refine os_iconst (i := 0) (v := (0 : Int32)) rfl (hL_law_20.at 1 rfl rfl) ?_
              refine os_daload (hL_law_20.at 2 rfl rfl) (fun x153 => ?_)
              refine os_aload (v := l4) 6 rfl (hL_law_20.at 3 rfl rfl) ?_
              refine os_iconst (i := 0) (v := (0 : Int32)) rfl (hL_law_20.at 4 rfl rfl) ?_
              refine os_daload (hL_law_20.at 5 rfl rfl) (fun x154 => ?_)
              refine os_dcmp (op := .l) (hL_law_20.at 6 rfl rfl) ?_
              refine os_if_eq (off := 11) (tgt := 1764) rfl (hL_law_20.at 7 rfl rfl) ?_ ?_
              · exact osW.widen (k' := k + 1) (n' := n + 6) (by omega) (by omega) (osW.sub [] rfl (sL_law_1764 N L xs hend k n hk hn c28 g28 ))
              · refine os_fload (v := x149) 0 rfl (hL_law_20.at 8 rfl rfl) ?_
                refine os_fload (v := x149) 0 rfl (hL_law_20.at 9 rfl rfl) ?_
                refine os_fcmp (op := .l) (hL_law_20.at 10 rfl rfl) ?_
                refine os_if_ne (off := 5) (tgt := 1766) rfl (hL_law_20.at 11 rfl rfl) ?_ ?_
                · exact osW.widen (k' := k + 1) (n' := n + 6) (by omega) (by omega) (osW.sub [2, 3, 4, 5, 6, 7] rfl (sL_law_1766 N L xs hend k n hk hn c28 g28 l0 l1 l2 l3 l4 l5 rfl))
                · exact osW.widen (k' := k + 1) (n' := n + 6) (by omega) (by omega) (osW.sub [] rfl (sL_law_1764 N L xs hend k n hk hn c28 g28 ))
        · refine os_iconst (i := 0) (v := (0 : Int32)) rfl (hL_law_19.at 39 rfl rfl) ?_
          exact os_lawno _ (by decide)
      · refine os_aload_n (i := 1) (q := 1) (v := l1) 1 rfl rfl (hL_law_20.at 15 rfl rfl) ?_
        refine os_aload_n (i := 0) (q := 0) (v := l0) 0 rfl rfl (hL_law_20.at 16 rfl rfl) ?_
        refine os_iload (v := l5) 5 rfl (hL_law_20.at 17 rfl rfl) ?_
        refine os_iconst (i := 1) (v := (1 : Int32)) rfl (hL_law_20.at 18 rfl rfl) ?_
        refine os_iadd (hL_law_20.at 19 rfl rfl) ?_
        refine os_sld (hL_law_20.at 20 rfl rfl) (fun x155 => ?_)
        refine os_aload_n (i := 3) (q := 3) (v := l3) 3 rfl rfl (hL_law_20.at 21 rfl rfl) ?_
        refine os_callSH (np := 3) (As := [.ref l1, .int x155, .ref l3]) (st := []) (st' := (fun r => .int r :: [])) wd1521 wd150 (by decide +kernel) (by decide +kernel) wd1519 wd1520 (sL_shareBits N l1 x155 l3) rfl rfl (fun _ => rfl) (Nat.le_of_ble_eq_true rfl) (Nat.le_of_ble_eq_true rfl) (Nat.le_of_ble_eq_true rfl) rfl (by show _ ≤ 601024; omega) rfl (by show _ ≤ 7293034; omega) (hL_law_20.at 22 rfl rfl) (fun x156 => ?_)
        refine os_istore (i := 6) (lv' := [(6, .int x156), (0, .ref l0), (1, .ref l1), (2, .ref l2), (3, .ref l3), (4, .ref l4), (5, .int l5)]) (Nat.le_of_ble_eq_true rfl) rfl (hL_law_20.at 23 rfl rfl) ?_
        refine os_aload_n (i := 2) (q := 2) (v := l2) 3 rfl rfl (hL_law_20.at 24 rfl rfl) ?_
        refine os_aload_n (i := 0) (q := 0) (v := l0) 1 rfl rfl (hL_law_20.at 25 rfl rfl) ?_
        refine os_iload (v := l5) 6 rfl (hL_law_20.at 26 rfl rfl) ?_
        refine os_iconst (i := 1) (v := (1 : Int32)) rfl (hL_law_20.at 27 rfl rfl) ?_
        refine os_iadd (hL_law_20.at 28 rfl rfl) ?_
        refine os_sld (hL_law_20.at 29 rfl rfl) (fun x157 => ?_)
        refine os_callV (cis := [8]) (b := l2) (As := [.int x157]) (st := []) (st' := (fun r => .int r :: [])) sl8_X10_shareBits_X10_shareBits mdX10_shareBits wd2241 wd2242 (sX10_shareBits N l2 x157) rfl rfl (fun _ => rfl) (Nat.le_of_ble_eq_true rfl) (Nat.le_of_ble_eq_true rfl) (Nat.le_of_ble_eq_true rfl) rfl (by show _ ≤ 601024; omega) rfl (by show _ ≤ 7293034; omega) (hL_law_20.at 30 rfl rfl) (fun x158 => ?_)
        refine os_istore (i := 7) (lv' := [(7, .int x158), (6, .int x156), (0, .ref l0), (1, .ref l1), (2, .ref l2), (3, .ref l3), (4, .ref l4), (5, .int l5)]) (Nat.le_of_ble_eq_true rfl) rfl (hL_law_20.at 31 rfl rfl) ?_
        refine os_aload_n (i := 2) (q := 2) (v := l2) 4 rfl rfl (hL_law_20.at 32 rfl rfl) ?_
        refine os_callV (cis := [8]) (b := l2) (As := []) (st := []) (st' := (fun r => .int r :: [])) sl8_X10_thrown_X10_thrown mdX10_thrown wd1734 wd1735 (sX10_thrown N l2 ) rfl rfl (fun _ => rfl) (Nat.le_of_ble_eq_true rfl) (Nat.le_of_ble_eq_true rfl) (Nat.le_of_ble_eq_true rfl) rfl (by show _ ≤ 601024; omega) rfl (by show _ ≤ 7293034; omega) (hL_law_20.at 33 rfl rfl) (fun x159 => ?_)
        refine os_iload (v := x156) 1 rfl (hL_law_20.at 34 rfl rfl) ?_
        refine os_icmp_eq (off := 5) (tgt := 1805) rfl (hL_law_20.at 35 rfl rfl) ?_ ?_
        · refine os_iload (v := x156) 1 rfl (hL_law_20.at 38 rfl rfl) ?_
          refine os_if_ne (off := 15) (tgt := 1822) rfl (hL_law_20.at 39 rfl rfl) ?_ ?_
          · exact osW.widen (k' := k + 1) (n' := n + 6) (by omega) (by omega) (osW.sub [2, 3, 4, 5, 6, 7] rfl (sL_law_1822 N L xs hend k n hk hn c28 g28 l0 l1 l2 l3 l4 l5 rfl))
          · refine os_aload_n (i := 3) (q := 3) (v := l3) 5 rfl rfl (hL_law_20.at 40 rfl rfl) ?_
            refine os_iconst (i := 0) (v := (0 : Int32)) rfl (hL_law_20.at 41 rfl rfl) ?_
            refine os_laload (hL_law_20.at 42 rfl rfl) (fun x160 => ?_)
            refine os_iload (v := x158) 0 rfl (hL_law_20.at 43 rfl rfl) ?_
            refine os_i2l (hL_law_20.at 44 rfl rfl) ?_
            refine os_lcmp (hL_law_20.at 45 rfl rfl) ?_
            refine os_if_eq (off := 5) (tgt := 1822) rfl (hL_law_20.at 46 rfl rfl) ?_ ?_
            · exact osW.widen (k' := k + 1) (n' := n + 6) (by omega) (by omega) (osW.sub [2, 3, 4, 5, 6, 7] rfl (sL_law_1822 N L xs hend k n hk hn c28 g28 l0 l1 l2 l3 l4 l5 rfl))
            · refine os_iconst (i := 0) (v := (0 : Int32)) rfl (hL_law_20.at 47 rfl rfl) ?_
              exact os_lawno _ (by decide)
        · refine os_iconst (i := 0) (v := (0 : Int32)) rfl (hL_law_20.at 36 rfl rfl) ?_
          exact os_lawno _ (by decide)
      · refine os_aload_n (i := 1) (q := 1) (v := l1) 1 rfl rfl (hL_law_21.at 0 rfl rfl) ?_
        refine os_callV (cis := [7]) (b := l1) (As := []) (st := []) (st' := (fun r => .double r :: [])) sl7_X9_unevenness_X9_unevenness mdX9_unevenness wd600 wd601 (sX9_unevenness N l1 ) rfl rfl (fun _ => rfl) (Nat.le_of_ble_eq_true rfl) (Nat.le_of_ble_eq_true rfl) (Nat.le_of_ble_eq_true rfl) rfl (by show _ ≤ 601024; omega) rfl (by show _ ≤ 7293034; omega) (hL_law_21.at 1 rfl rfl) (fun x161 => ?_)
        refine os_dstore (i := 6) (lv' := [(6, .double x161), (0, .ref l0), (1, .ref l1), (2, .ref l2), (3, .ref l3), (4, .ref l4), (5, .int l5)]) (Nat.le_of_ble_eq_true rfl) rfl (hL_law_21.at 2 rfl rfl) ?_
        refine os_aload_n (i := 2) (q := 2) (v := l2) 3 rfl rfl (hL_law_21.at 3 rfl rfl) ?_
        refine os_callV (cis := [8]) (b := l2) (As := []) (st := []) (st' := (fun r => .double r :: [])) sl8_X10_unevenness_X10_unevenness mdX10_unevenness wd2246 wd2247 (sX10_unevenness N l2 ) rfl rfl (fun _ => rfl) (Nat.le_of_ble_eq_true rfl) (Nat.le_of_ble_eq_true rfl) (Nat.le_of_ble_eq_true rfl) rfl (by show _ ≤ 601024; omega) rfl (by show _ ≤ 7293034; omega) (hL_law_21.at 4 rfl rfl) (fun x162 => ?_)
        refine os_dstore (i := 8) (lv' := [(8, .double x162), (6, .double x161), (0, .ref l0), (1, .ref l1), (2, .ref l2), (3, .ref l3), (4, .ref l4), (5, .int l5)]) (Nat.le_of_ble_eq_true rfl) rfl (hL_law_21.at 5 rfl rfl) ?_
        refine os_dload (v := x161) 1 rfl (hL_law_21.at 6 rfl rfl) ?_
        refine os_dload (v := x162) 0 rfl (hL_law_21.at 7 rfl rfl) ?_
        refine os_dcmp (op := .l) (hL_law_21.at 8 rfl rfl) ?_
        refine os_if_eq (off := 21) (tgt := 1863) rfl (hL_law_21.at 9 rfl rfl) ?_ ?_
        · exact osW.widen (k' := k + 0) (n' := n + 0) (by omega) (by omega) (osW.sub [2, 3, 4, 5, 6, 7] rfl (sL_law_1863 N L xs hend k n hk hn c28 g28 l0 l1 l2 l3 l4 l5 rfl))
        · refine os_dload (v := x161) 1 rfl (hL_law_21.at 10 rfl rfl) ?_
          refine os_dload (v := x161) 1 rfl (hL_law_21.at 11 rfl rfl) ?_
          refine os_dcmp (op := .l) (hL_law_21.at 12 rfl rfl) ?_
          refine os_if_eq (off := 11) (tgt := 1861) rfl (hL_law_21.at 13 rfl rfl) ?_ ?_
          · exact osW.widen (k' := k + 0) (n' := n + 0) (by omega) (by omega) (osW.sub [] rfl (sL_law_1861 N L xs hend k n hk hn c28 g28 ))
          · refine os_dload (v := x162) 0 rfl (hL_law_21.at 14 rfl rfl) ?_
            refine os_dload (v := x162) 0 rfl (hL_law_21.at 15 rfl rfl) ?_
            refine os_dcmp (op := .l) (hL_law_21.at 16 rfl rfl) ?_
            refine os_if_ne (off := 5) (tgt := 1863) rfl (hL_law_21.at 17 rfl rfl) ?_ ?_
            · exact osW.widen (k' := k + 0) (n' := n + 0) (by omega) (by omega) (osW.sub [2, 3, 4, 5, 6, 7] rfl (sL_law_1863 N L xs hend k n hk hn c28 g28 l0 l1 l2 l3 l4 l5 rfl))
            · exact osW.widen (k' := k + 0) (n' := n + 0) (by omega) (by omega) (osW.sub [] rfl (sL_law_1861 N L xs hend k n hk hn c28 g28 ))
      · refine os_aload_n (i := 1) (q := 1) (v := l1) 1 rfl rfl (hL_law_21.at 21 rfl rfl) ?_
        refine os_callV (cis := [7]) (b := l1) (As := []) (st := []) (st' := (fun r => .long r :: [])) sl7_X9_unevennessBits_X9_unevennessBits mdX9_unevennessBits wd621 wd622 (sX9_unevennessBits N l1 ) rfl rfl (fun _ => rfl) (Nat.le_of_ble_eq_true rfl) (Nat.le_of_ble_eq_true rfl) (Nat.le_of_ble_eq_true rfl) rfl (by show _ ≤ 601024; omega) rfl (by show _ ≤ 7293034; omega) (hL_law_21.at 22 rfl rfl) (fun x163 => ?_)
        refine os_aload_n (i := 2) (q := 2) (v := l2) 2 rfl rfl (hL_law_21.at 23 rfl rfl) ?_
        refine os_callV (cis := [8]) (b := l2) (As := []) (st := [.long x163]) (st' := (fun r => .long r :: [.long x163])) sl8_X10_unevennessBits_X10_unevennessBits mdX10_unevennessBits wd2254 wd2255 (sX10_unevennessBits N l2 ) rfl rfl (fun _ => rfl) (Nat.le_of_ble_eq_true rfl) (Nat.le_of_ble_eq_true rfl) (Nat.le_of_ble_eq_true rfl) rfl (by show _ ≤ 601024; omega) rfl (by show _ ≤ 7293034; omega) (hL_law_21.at 24 rfl rfl) (fun x164 => ?_)
        refine os_lcmp (hL_law_21.at 25 rfl rfl) ?_
        refine os_if_eq (off := 162) (tgt := 2037) rfl (hL_law_21.at 26 rfl rfl) ?_ ?_
        · exact osW.widen (k' := k + 3) (n' := n + 18) (by omega) (by omega) (osW.sub [0, 1, 2, 3, 4, 5] rfl (sL_law_2037 N L xs hend k n hk hn c28 g28 l0 l1 l2 l3 l4 l5 rfl))
        · refine os_iconst (i := 0) (v := (0 : Int32)) rfl (hL_law_21.at 27 rfl rfl) ?_
          exact os_lawno _ (by decide)
      · refine os_aload_n (i := 1) (q := 1) (v := l1) 1 rfl rfl (hL_law_21.at 29 rfl rfl) ?_
        refine os_aload_n (i := 3) (q := 3) (v := l3) 3 rfl rfl (hL_law_21.at 30 rfl rfl) ?_
        refine os_callSH (np := 2) (As := [.ref l1, .ref l3]) (st := []) (st' := (fun r => .int r :: [])) wd1532 wd150 (by decide +kernel) (by decide +kernel) wd1530 wd1531 (sL_leader N l1 l3) rfl rfl (fun _ => rfl) (Nat.le_of_ble_eq_true rfl) (Nat.le_of_ble_eq_true rfl) (Nat.le_of_ble_eq_true rfl) rfl (by show _ ≤ 601024; omega) rfl (by show _ ≤ 7293034; omega) (hL_law_21.at 31 rfl rfl) (fun x165 => ?_)
        refine os_istore (i := 6) (lv' := [(6, .int x165), (0, .ref l0), (1, .ref l1), (2, .ref l2), (3, .ref l3), (4, .ref l4), (5, .int l5)]) (Nat.le_of_ble_eq_true rfl) rfl (hL_law_21.at 32 rfl rfl) ?_
        refine os_aload_n (i := 2) (q := 2) (v := l2) 3 rfl rfl (hL_law_21.at 33 rfl rfl) ?_
        refine os_callV (cis := [8]) (b := l2) (As := []) (st := []) (st' := (fun r => .int r :: [])) sl8_X10_leader_X10_leader mdX10_leader wd2261 wd2262 (sX10_leader N l2 ) rfl rfl (fun _ => rfl) (Nat.le_of_ble_eq_true rfl) (Nat.le_of_ble_eq_true rfl) (Nat.le_of_ble_eq_true rfl) rfl (by show _ ≤ 601024; omega) rfl (by show _ ≤ 7293034; omega) (hL_law_21.at 34 rfl rfl) (fun x166 => ?_)
        refine os_istore (i := 7) (lv' := [(7, .int x166), (6, .int x165), (0, .ref l0), (1, .ref l1), (2, .ref l2), (3, .ref l3), (4, .ref l4), (5, .int l5)]) (Nat.le_of_ble_eq_true rfl) rfl (hL_law_21.at 35 rfl rfl) ?_
        refine os_aload_n (i := 2) (q := 2) (v := l2) 4 rfl rfl (hL_law_21.at 36 rfl rfl) ?_
        refine os_callV (cis := [8]) (b := l2) (As := []) (st := []) (st' := (fun r => .int r :: [])) sl8_X10_thrown_X10_thrown mdX10_thrown wd1734 wd1735 (sX10_thrown N l2 ) rfl rfl (fun _ => rfl) (Nat.le_of_ble_eq_true rfl) (Nat.le_of_ble_eq_true rfl) (Nat.le_of_ble_eq_true rfl) rfl (by show _ ≤ 601024; omega) rfl (by show _ ≤ 7293034; omega) (hL_law_21.at 37 rfl rfl) (fun x167 => ?_)
        refine os_iload (v := x165) 1 rfl (hL_law_21.at 38 rfl rfl) ?_
        refine os_icmp_eq (off := 5) (tgt := 1904) rfl (hL_law_21.at 39 rfl rfl) ?_ ?_
        · refine os_iload (v := x165) 1 rfl (hL_law_21.at 42 rfl rfl) ?_
          refine os_if_ne (off := 15) (tgt := 1921) rfl (hL_law_21.at 43 rfl rfl) ?_ ?_
          · exact osW.widen (k' := k + 1) (n' := n + 6) (by omega) (by omega) (osW.sub [2, 3, 4, 5, 6, 7] rfl (sL_law_1921 N L xs hend k n hk hn c28 g28 l0 l1 l2 l3 l4 l5 rfl))
          · refine os_aload_n (i := 3) (q := 3) (v := l3) 5 rfl rfl (hL_law_21.at 44 rfl rfl) ?_
            refine os_iconst (i := 0) (v := (0 : Int32)) rfl (hL_law_21.at 45 rfl rfl) ?_
            refine os_laload (hL_law_21.at 46 rfl rfl) (fun x168 => ?_)
            refine os_iload (v := x166) 0 rfl (hL_law_21.at 47 rfl rfl) ?_
            refine os_i2l (hL_law_21.at 48 rfl rfl) ?_
            refine os_lcmp (hL_law_21.at 49 rfl rfl) ?_
            refine os_if_eq (off := 5) (tgt := 1921) rfl (hL_law_22.at 0 rfl rfl) ?_ ?_
            · exact osW.widen (k' := k + 1) (n' := n + 6) (by omega) (by omega) (osW.sub [2, 3, 4, 5, 6, 7] rfl (sL_law_1921 N L xs hend k n hk hn c28 g28 l0 l1 l2 l3 l4 l5 rfl))
            · refine os_iconst (i := 0) (v := (0 : Int32)) rfl (hL_law_22.at 1 rfl rfl) ?_
              exact os_lawno _ (by decide)
        · refine os_iconst (i := 0) (v := (0 : Int32)) rfl (hL_law_21.at 40 rfl rfl) ?_
          exact os_lawno _ (by decide)
      · refine os_aload_n (i := 1) (q := 1) (v := l1) 1 rfl rfl (hL_law_22.at 4 rfl rfl) ?_
        refine os_callV (cis := [7]) (b := l1) (As := []) (st := []) (st' := (fun r => .int r :: [])) sl7_X9_writeUnits_X9_writeUnits mdX9_writeUnits wd631 wd632 (sX9_writeUnits N l1 ) rfl rfl (fun _ => rfl) (Nat.le_of_ble_eq_true rfl) (Nat.le_of_ble_eq_true rfl) (Nat.le_of_ble_eq_true rfl) rfl (by show _ ≤ 601024; omega) rfl (by show _ ≤ 7293034; omega) (hL_law_22.at 5 rfl rfl) (fun x169 => ?_)
        refine os_aload_n (i := 2) (q := 2) (v := l2) 2 rfl rfl (hL_law_22.at 6 rfl rfl) ?_
        refine os_callV (cis := [8]) (b := l2) (As := []) (st := [.int x169]) (st' := (fun r => .int r :: [.int x169])) sl8_X10_writeUnits_X10_writeUnits mdX10_writeUnits wd2269 wd2270 (sX10_writeUnits N l2 ) rfl rfl (fun _ => rfl) (Nat.le_of_ble_eq_true rfl) (Nat.le_of_ble_eq_true rfl) (Nat.le_of_ble_eq_true rfl) rfl (by show _ ≤ 601024; omega) rfl (by show _ ≤ 7293034; omega) (hL_law_22.at 7 rfl rfl) (fun x170 => ?_)
        refine os_icmp_eq (off := 105) (tgt := 2037) rfl (hL_law_22.at 8 rfl rfl) ?_ ?_
        · exact osW.widen (k' := k + 3) (n' := n + 18) (by omega) (by omega) (osW.sub [0, 1, 2, 3, 4, 5] rfl (sL_law_2037 N L xs hend k n hk hn c28 g28 l0 l1 l2 l3 l4 l5 rfl))
        · refine os_iconst (i := 0) (v := (0 : Int32)) rfl (hL_law_22.at 9 rfl rfl) ?_
          exact os_lawno _ (by decide)
      · refine os_aload_n (i := 1) (q := 1) (v := l1) 1 rfl rfl (hL_law_22.at 11 rfl rfl) ?_
        refine os_aload_n (i := 3) (q := 3) (v := l3) 3 rfl rfl (hL_law_22.at 12 rfl rfl) ?_
        refine os_callSH (np := 2) (As := [.ref l1, .ref l3]) (st := []) (st' := (fun r => .int r :: [])) wd1540 wd150 (by decide +kernel) (by decide +kernel) wd1538 wd1539 (sL_writeOrders N l1 l3) rfl rfl (fun _ => rfl) (Nat.le_of_ble_eq_true rfl) (Nat.le_of_ble_eq_true rfl) (Nat.le_of_ble_eq_true rfl) rfl (by show _ ≤ 601024; omega) rfl (by show _ ≤ 7293034; omega) (hL_law_22.at 13 rfl rfl) (fun x171 => ?_)
        refine os_istore (i := 6) (lv' := [(6, .int x171), (0, .ref l0), (1, .ref l1), (2, .ref l2), (3, .ref l3), (4, .ref l4), (5, .int l5)]) (Nat.le_of_ble_eq_true rfl) rfl (hL_law_22.at 14 rfl rfl) ?_
        refine os_aload_n (i := 2) (q := 2) (v := l2) 3 rfl rfl (hL_law_22.at 15 rfl rfl) ?_
        refine os_callV (cis := [8]) (b := l2) (As := []) (st := []) (st' := (fun r => .int r :: [])) sl8_X10_writeOrders_X10_writeOrders mdX10_writeOrders wd2286 wd2287 (sX10_writeOrders N l2 ) rfl rfl (fun _ => rfl) (Nat.le_of_ble_eq_true rfl) (Nat.le_of_ble_eq_true rfl) (Nat.le_of_ble_eq_true rfl) rfl (by show _ ≤ 601024; omega) rfl (by show _ ≤ 7293034; omega) (hL_law_22.at 16 rfl rfl) (fun x172 => ?_)
        refine os_istore (i := 7) (lv' := [(7, .int x172), (6, .int x171), (0, .ref l0), (1, .ref l1), (2, .ref l2), (3, .ref l3), (4, .ref l4), (5, .int l5)]) (Nat.le_of_ble_eq_true rfl) rfl (hL_law_22.at 17 rfl rfl) ?_
        refine os_aload_n (i := 2) (q := 2) (v := l2) 4 rfl rfl (hL_law_22.at 18 rfl rfl) ?_
        refine os_callV (cis := [8]) (b := l2) (As := []) (st := []) (st' := (fun r => .int r :: [])) sl8_X10_thrown_X10_thrown mdX10_thrown wd1734 wd1735 (sX10_thrown N l2 ) rfl rfl (fun _ => rfl) (Nat.le_of_ble_eq_true rfl) (Nat.le_of_ble_eq_true rfl) (Nat.le_of_ble_eq_true rfl) rfl (by show _ ≤ 601024; omega) rfl (by show _ ≤ 7293034; omega) (hL_law_22.at 19 rfl rfl) (fun x173 => ?_)
        refine os_iload (v := x171) 1 rfl (hL_law_22.at 20 rfl rfl) ?_
        refine os_icmp_eq (off := 5) (tgt := 1961) rfl (hL_law_22.at 21 rfl rfl) ?_ ?_
        · refine os_iload (v := x171) 1 rfl (hL_law_22.at 24 rfl rfl) ?_
          refine os_if_ne (off := 15) (tgt := 1978) rfl (hL_law_22.at 25 rfl rfl) ?_ ?_
          · exact osW.widen (k' := k + 1) (n' := n + 6) (by omega) (by omega) (osW.sub [2, 3, 4, 5, 6, 7] rfl (sL_law_1978 N L xs hend k n hk hn c28 g28 l0 l1 l2 l3 l4 l5 rfl))
          · refine os_aload_n (i := 3) (q := 3) (v := l3) 5 rfl rfl (hL_law_22.at 26 rfl rfl) ?_
            refine os_iconst (i := 0) (v := (0 : Int32)) rfl (hL_law_22.at 27 rfl rfl) ?_
            refine os_laload (hL_law_22.at 28 rfl rfl) (fun x174 => ?_)
            refine os_iload (v := x172) 0 rfl (hL_law_22.at 29 rfl rfl) ?_
            refine os_i2l (hL_law_22.at 30 rfl rfl) ?_
            refine os_lcmp (hL_law_22.at 31 rfl rfl) ?_
            refine os_if_eq (off := 5) (tgt := 1978) rfl (hL_law_22.at 32 rfl rfl) ?_ ?_
            · exact osW.widen (k' := k + 1) (n' := n + 6) (by omega) (by omega) (osW.sub [2, 3, 4, 5, 6, 7] rfl (sL_law_1978 N L xs hend k n hk hn c28 g28 l0 l1 l2 l3 l4 l5 rfl))
            · refine os_iconst (i := 0) (v := (0 : Int32)) rfl (hL_law_22.at 33 rfl rfl) ?_
              exact os_lawno _ (by decide)
        · refine os_iconst (i := 0) (v := (0 : Int32)) rfl (hL_law_22.at 22 rfl rfl) ?_
          exact os_lawno _ (by decide)
      · refine os_aload_n (i := 1) (q := 1) (v := l1) 1 rfl rfl (hL_law_22.at 36 rfl rfl) ?_
        refine os_aload_n (i := 0) (q := 0) (v := l0) 0 rfl rfl (hL_law_22.at 37 rfl rfl) ?_
        refine os_iload (v := l5) 5 rfl (hL_law_22.at 38 rfl rfl) ?_
        refine os_iconst (i := 1) (v := (1 : Int32)) rfl (hL_law_22.at 39 rfl rfl) ?_
        refine os_iadd (hL_law_22.at 40 rfl rfl) ?_
        refine os_sld (hL_law_22.at 41 rfl rfl) (fun x175 => ?_)
        refine os_aload_n (i := 3) (q := 3) (v := l3) 3 rfl rfl (hL_law_22.at 42 rfl rfl) ?_
        refine os_callSH (np := 3) (As := [.ref l1, .int x175, .ref l3]) (st := []) (st' := (fun r => .int r :: [])) wd1559 wd150 (by decide +kernel) (by decide +kernel) wd1557 wd1558 (sL_outputByte N l1 x175 l3) rfl rfl (fun _ => rfl) (Nat.le_of_ble_eq_true rfl) (Nat.le_of_ble_eq_true rfl) (Nat.le_of_ble_eq_true rfl) rfl (by show _ ≤ 601024; omega) rfl (by show _ ≤ 7293034; omega) (hL_law_22.at 43 rfl rfl) (fun x176 => ?_)
        refine os_istore (i := 6) (lv' := [(6, .int x176), (0, .ref l0), (1, .ref l1), (2, .ref l2), (3, .ref l3), (4, .ref l4), (5, .int l5)]) (Nat.le_of_ble_eq_true rfl) rfl (hL_law_22.at 44 rfl rfl) ?_
        refine os_aload_n (i := 2) (q := 2) (v := l2) 3 rfl rfl (hL_law_22.at 45 rfl rfl) ?_
        refine os_aload_n (i := 0) (q := 0) (v := l0) 1 rfl rfl (hL_law_22.at 46 rfl rfl) ?_
        refine os_iload (v := l5) 6 rfl (hL_law_22.at 47 rfl rfl) ?_
        refine os_iconst (i := 1) (v := (1 : Int32)) rfl (hL_law_22.at 48 rfl rfl) ?_
        refine os_iadd (hL_law_22.at 49 rfl rfl) ?_
        refine os_sld (hL_law_23.at 0 rfl rfl) (fun x177 => ?_)
        refine os_callV (cis := [8]) (b := l2) (As := [.int x177]) (st := []) (st' := (fun r => .int r :: [])) sl8_X10_outputByte_X10_outputByte mdX10_outputByte wd2294 wd2295 (sX10_outputByte N l2 x177) rfl rfl (fun _ => rfl) (Nat.le_of_ble_eq_true rfl) (Nat.le_of_ble_eq_true rfl) (Nat.le_of_ble_eq_true rfl) rfl (by show _ ≤ 601024; omega) rfl (by show _ ≤ 7293034; omega) (hL_law_23.at 1 rfl rfl) (fun x178 => ?_)
        refine os_istore (i := 7) (lv' := [(7, .int x178), (6, .int x176), (0, .ref l0), (1, .ref l1), (2, .ref l2), (3, .ref l3), (4, .ref l4), (5, .int l5)]) (Nat.le_of_ble_eq_true rfl) rfl (hL_law_23.at 2 rfl rfl) ?_
        refine os_aload_n (i := 2) (q := 2) (v := l2) 4 rfl rfl (hL_law_23.at 3 rfl rfl) ?_
        refine os_callV (cis := [8]) (b := l2) (As := []) (st := []) (st' := (fun r => .int r :: [])) sl8_X10_thrown_X10_thrown mdX10_thrown wd1734 wd1735 (sX10_thrown N l2 ) rfl rfl (fun _ => rfl) (Nat.le_of_ble_eq_true rfl) (Nat.le_of_ble_eq_true rfl) (Nat.le_of_ble_eq_true rfl) rfl (by show _ ≤ 601024; omega) rfl (by show _ ≤ 7293034; omega) (hL_law_23.at 4 rfl rfl) (fun x179 => ?_)
        refine os_iload (v := x176) 1 rfl (hL_law_23.at 5 rfl rfl) ?_
        refine os_icmp_eq (off := 5) (tgt := 2017) rfl (hL_law_23.at 6 rfl rfl) ?_ ?_
        · refine os_iload (v := x176) 1 rfl (hL_law_23.at 9 rfl rfl) ?_
          refine os_if_ne (off := 15) (tgt := 2034) rfl (hL_law_23.at 10 rfl rfl) ?_ ?_
          · exact osW.widen (k' := k + 1) (n' := n + 6) (by omega) (by omega) (osW.sub [2, 3, 4, 5, 6, 7] rfl (sL_law_2034 N L xs hend k n hk hn c28 g28 l0 l1 l2 l3 l4 l5 rfl))
          · refine os_aload_n (i := 3) (q := 3) (v := l3) 5 rfl rfl (hL_law_23.at 11 rfl rfl) ?_
            refine os_iconst (i := 0) (v := (0 : Int32)) rfl (hL_law_23.at 12 rfl rfl) ?_
            refine os_laload (hL_law_23.at 13 rfl rfl) (fun x180 => ?_)
            refine os_iload (v := x178) 0 rfl (hL_law_23.at 14 rfl rfl) ?_
            refine os_i2l (hL_law_23.at 15 rfl rfl) ?_
            refine os_lcmp (hL_law_23.at 16 rfl rfl) ?_
            refine os_if_eq (off := 5) (tgt := 2034) rfl (hL_law_23.at 17 rfl rfl) ?_ ?_
            · exact osW.widen (k' := k + 1) (n' := n + 6) (by omega) (by omega) (osW.sub [2, 3, 4, 5, 6, 7] rfl (sL_law_2034 N L xs hend k n hk hn c28 g28 l0 l1 l2 l3 l4 l5 rfl))
            · refine os_iconst (i := 0) (v := (0 : Int32)) rfl (hL_law_23.at 18 rfl rfl) ?_
              exact os_lawno _ (by decide)
        · refine os_iconst (i := 0) (v := (0 : Int32)) rfl (hL_law_23.at 7 rfl rfl) ?_
          exact os_lawno _ (by decide)
    · exact osW.widen (k' := k + 3) (n' := n + 18) (by omega) (by omega) (osW.sub [0, 1, 2, 3, 4, 5] rfl (sL_law_2037 N L xs hend k n hk hn c28 g28 l0 l1 l2 l3 l4 l5 rfl))
theorem sL_law_28 (N L : Nat) (xs : Nat → Int32) {b : Nat} {Qf : List Frame → State → State → Prop} (hend : ∀ (k n : Nat) (lv : List (Nat × Value)), k ≤ 601024 → n ≤ 7293034 → osW (osFinL b L xs Qf) yL_law cL_law 10 (some .boolean) [] room_1 k n 2044 lv [.int (1 : Int32)] (osret (1 : Int32))) : ∀ (f : Nat), f ≤ 600 → ∀ p : Nat × Nat × Nat × Nat × Nat × Int32, p.1 = b → osW (osFinL b L xs Qf) yL_law cL_law 10 (some .boolean) [] room_1 (601024 - 6 * f) (7293034 - 60 * f) 28 [(0, .ref p.1), (1, .ref p.2.1), (2, .ref p.2.2.1), (3, .ref p.2.2.2.1), (4, .ref p.2.2.2.2.1), (5, .int p.2.2.2.2.2)] [] (qL_law_28 N L xs f p)
  | 0, _, p, _ => os_no rfl
  | f + 1, hf, p, hp => by
    have ih := sL_law_28 N L xs hend f (by omega)
    have e1 : 601024 - 6 * (f + 1) + 6 = 601024 - 6 * f := by omega
    have e2 : 7293034 - 60 * (f + 1) + 60 = 7293034 - 60 * f := by omega
    refine tL_law_28 N L xs hend _ _ (by omega) (by omega) (qL_law_28 N L xs f) (fun l0 l1 l2 l3 l4 l5 hl => ?_) p.1 p.2.1 p.2.2.1 p.2.2.2.1 p.2.2.2.2.1 p.2.2.2.2.2 hp
    rw [e1, e2]
    exact ih (l0, l1, l2, l3, l4, l5) hl
set_option maxRecDepth 100000 in
set_option maxHeartbeats 4000000 in
theorem sL_law (N L : Nat) (xs : Nat → Int32) (NF : Nat) {b : Nat} {Qf : List Frame → State → State → Prop} (hend : ∀ (k n : Nat) (lv : List (Nat × Value)), k ≤ 601024 → n ≤ 7293034 → osW (osFinL b L xs Qf) yL_law cL_law 10 (some .boolean) [] room_1 k n 2044 lv [.int (1 : Int32)] (osret (1 : Int32))) (hNF : NF ≤ 600) (l0 : Nat) (hl0 : l0 = b) : osW (osFinL b L xs Qf) yL_law cL_law 10 (some .boolean) [] room_1 0 0 0 [(0, .ref l0)] [] (qL_law N L xs NF l0) := by
  subst hl0
  unfold qL_law
  refine os_new (C := RX9) (T := TX9) (N := 14) (ci := 7) (ty0 := tyX9) rfl tyX9_ok osinX9 wd177 wd178 wd151 dfX9 (Nat.le_of_ble_eq_true rfl) (Nat.le_of_ble_eq_true rfl) (hL_law_0.at 0 rfl rfl) (fun x1 => ?_)
  refine os_dup rfl (hL_law_0.at 1 rfl rfl) ?_
  refine os_callI (b := x1) (As := []) (st := [.ref x1]) (st' := (fun _ => [.ref x1])) mdX9_init rfl wd179 wd180 (sX9_init N x1 ) rfl rfl (fun _ => rfl) (Nat.le_of_ble_eq_true rfl) (Nat.le_of_ble_eq_true rfl) (Nat.le_of_ble_eq_true rfl) rfl (Nat.le_of_ble_eq_true rfl) rfl (Nat.le_of_ble_eq_true rfl) (hL_law_0.at 2 rfl rfl) (fun _ => ?_)
  refine os_astore_n (i := 1) (q := 1) rfl (lv' := [(1, .ref x1), (0, .ref l0)]) (Nat.le_of_ble_eq_true rfl) rfl (hL_law_0.at 3 rfl rfl) ?_
  refine os_new (C := RX10) (T := TX10) (N := 43) (ci := 8) (ty0 := tyX10) rfl tyX10_ok osinX10 wd1581 wd1582 wd160 dfX10 (Nat.le_of_ble_eq_true rfl) (Nat.le_of_ble_eq_true rfl) (hL_law_0.at 4 rfl rfl) (fun x2 => ?_)
  refine os_dup rfl (hL_law_0.at 5 rfl rfl) ?_
  refine os_callI (b := x2) (As := []) (st := [.ref x2]) (st' := (fun _ => [.ref x2])) mdX10_init rfl wd1583 wd1584 (sX10_init N x2 ) rfl rfl (fun _ => rfl) (Nat.le_of_ble_eq_true rfl) (Nat.le_of_ble_eq_true rfl) (Nat.le_of_ble_eq_true rfl) rfl (Nat.le_of_ble_eq_true rfl) rfl (Nat.le_of_ble_eq_true rfl) (hL_law_0.at 6 rfl rfl) (fun _ => ?_)
  refine os_astore_n (i := 2) (q := 2) rfl (lv' := [(2, .ref x2), (1, .ref x1), (0, .ref l0)]) (Nat.le_of_ble_eq_true rfl) rfl (hL_law_0.at 7 rfl rfl) ?_
  refine os_iconst (i := 1) (v := (1 : Int32)) rfl (hL_law_0.at 8 rfl rfl) ?_
  refine os_newarray (at9 := .long) (ty := .long) (t := 2) (N := 1) rfl rfl rfl wd1732 (fun _ => rfl) (by decide) rfl (Nat.le_of_ble_eq_true rfl) (Nat.le_of_ble_eq_true rfl) (Nat.le_of_ble_eq_true rfl) (hL_law_0.at 9 rfl rfl) (fun x3 => ?_)
  refine os_astore_n (i := 3) (q := 3) rfl (lv' := [(3, .ref x3), (2, .ref x2), (1, .ref x1), (0, .ref l0)]) (Nat.le_of_ble_eq_true rfl) rfl (hL_law_0.at 10 rfl rfl) ?_
  refine os_iconst (i := 1) (v := (1 : Int32)) rfl (hL_law_0.at 11 rfl rfl) ?_
  refine os_newarray (at9 := .double) (ty := .double) (t := 4) (N := 1) rfl rfl rfl wd2298 (fun _ => rfl) (by decide) rfl (Nat.le_of_ble_eq_true rfl) (Nat.le_of_ble_eq_true rfl) (Nat.le_of_ble_eq_true rfl) (hL_law_0.at 12 rfl rfl) (fun x4 => ?_)
  refine os_astore (i := 4) (lv' := [(4, .ref x4), (3, .ref x3), (2, .ref x2), (1, .ref x1), (0, .ref l0)]) (Nat.le_of_ble_eq_true rfl) rfl (hL_law_0.at 13 rfl rfl) ?_
  refine os_iconst (i := 0) (v := (0 : Int32)) rfl (hL_law_0.at 14 rfl rfl) ?_
  refine os_istore (i := 5) (lv' := [(5, .int (0 : Int32)), (4, .ref x4), (3, .ref x3), (2, .ref x2), (1, .ref x1), (0, .ref l0)]) (Nat.le_of_ble_eq_true rfl) rfl (hL_law_0.at 15 rfl rfl) ?_
  refine os_forget ?_
  exact osW.widen (k' := 601024 - 6 * NF) (n' := 7293034 - 60 * NF) (by omega) (by omega) (osW.sub [5, 4, 3, 2, 1, 0] rfl (sL_law_28 N L xs hend NF hNF (l0, x1, x2, x3, x4, (0 : Int32)) rfl))
