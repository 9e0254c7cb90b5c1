theorem osX_at {ws : List Cond} (ps : List Nat) (hp : ps.map (fun i => lw2[i]?) = ws.map some) (h : ws.all osOt = true) : ∀ w ∈ ws, w ∈ osX := by
  intro w hw
  obtain ⟨j, hj⟩ := List.getElem?_of_mem hw
  have h1 : (ps.map (fun i => lw2[i]?))[j]? = some (some w) := by rw [hp, List.getElem?_map, hj]; rfl
  rw [List.getElem?_map] at h1
  cases hi : ps[j]? with
  | none => rw [hi] at h1; cases h1
  | some i => rw [hi] at h1; exact osX_mem i (Option.some.inj h1) (List.all_eq_true.mp h w hw)
/-! the words that the rows use, and the facts made of them (by program) -/
theorem osinX0 : ∀ w ∈ u_ws RX0 TX0 10, w ∈ osX := osX_at [414, 416, 418, 420, 422, 424, 426, 428, 430, 432] (by decide +kernel) (by decide +kernel)
theorem osinX1 : ∀ w ∈ u_ws RX1 TX1 8, w ∈ osX := osX_at [359, 361, 363, 365, 367, 369, 371, 373] (by decide +kernel) (by decide +kernel)
theorem osinX2 : ∀ w ∈ u_ws RX2 TX2 16, w ∈ osX := osX_at [312, 314, 316, 318, 320, 322, 324, 326, 328, 330, 332, 334, 336, 338, 340, 342] (by decide +kernel) (by decide +kernel)
theorem osinX3 : ∀ w ∈ u_ws RX3 TX3 10, w ∈ osX := osX_at [230, 232, 234, 236, 238, 240, 242, 244, 246, 248] (by decide +kernel) (by decide +kernel)
theorem osinX4 : ∀ w ∈ u_ws RX4 TX4 2, w ∈ osX := osX_at [195, 197] (by decide +kernel) (by decide +kernel)
theorem osinX5 : ∀ w ∈ u_ws RX5 TX5 16, w ∈ osX := osX_at [496, 498, 500, 502, 504, 506, 508, 510, 512, 514, 516, 518, 520, 522, 524, 526] (by decide +kernel) (by decide +kernel)
theorem osinX7 : ∀ w ∈ u_ws RX7 TX7 10, w ∈ osX := osX_at [257, 258, 259, 260, 261, 262, 263, 264, 265, 266] (by decide +kernel) (by decide +kernel)
theorem osinX9 : ∀ w ∈ u_ws RX9 TX9 14, w ∈ osX := osX_at [543, 545, 547, 549, 551, 553, 555, 557, 559, 561, 563, 565, 567, 569] (by decide +kernel) (by decide +kernel)
theorem osinX10 : ∀ w ∈ u_ws RX10 TX10 43, w ∈ osX := osX_at [1645, 1647, 1649, 1651, 1653, 1655, 1657, 1659, 1661, 1663, 1665, 1667, 1669, 1671, 1673, 1675, 1677, 1679, 1681, 1683, 1685, 1687, 1689, 1691, 1693, 1695, 1697, 1699, 1701, 1703, 1705, 1707, 1709, 1711, 1713, 1715, 1717, 1719, 1721, 1723, 1725, 1727, 1729] (by decide +kernel) (by decide +kernel)
def wk0 : List Cond := [.code yX9_init cX9_init 2 none, .code objectInit object_method_1_code 1 none, .code yX4_init cX4_init 1 none, .code yX3_init cX3_init 1 none, .code yX6_init cX6_init 1 none, .code yX7_init cX7_init 1 none, .code yX1_init cX1_init 1 none, .code yX2_init cX2_init 1 none, .code yX0_init cX0_init 1 none, .code yX0_clear cX0_clear 2 none, .code yX5_init cX5_init 1 none, .code yX5_clear cX5_clear 2 none, .code yX5_clearUnits cX5_clearUnits 2 none, .code yX5_clearDislodged cX5_clearDislodged 2 none, .code yX5_holdAll cX5_holdAll 2 none, .code yX5_giveOrder cX5_giveOrder 5 none, .code yX9_errorCode cX9_errorCode 1 (some .int), .code yX9_errorPosition cX9_errorPosition 1 (some .int), .code yX9_areas cX9_areas 1 (some .int), .code yX9_powers cX9_powers 1 (some .int), .code yX9_phase cX9_phase 1 (some .int), .code yX9_turn cX9_turn 1 (some .int), .code yX9_undoCount cX9_undoCount 1 (some .int), .code yX9_unevenness cX9_unevenness 1 (some .double), .code yX9_sumOfSquares cX9_sumOfSquares 7 (some .double), .code yJ6_bitCount_0f7a4 cJ6_bitCount_0f7a4 1 (some .int), .code yX5_countCenters cX5_countCenters 2 (some .int), .code yX5_countOf cX5_countOf 4 (some .int), .code yX9_unevennessBits cX9_unevennessBits 1 (some .long), .code yX9_doubleBits cX9_doubleBits 7 (some .long), .code yX9_writeUnits cX9_writeUnits 2 (some .int), .code yX5_hasUnit cX5_hasUnit 2 (some .boolean), .code yX9_entry cX9_entry 2 (some .int), .code yX4_putName cX4_putName 4 none, .code yX4_putByte cX4_putByte 2 none, .code yX4_putText cX4_putText 3 none, .code yJ0_length_8abf5 cJ0_length_8abf5 1 (some .int), .code yJ0_coder_7d493 cJ0_coder_7d493 1 (some .byte), .code yJ0_charAt_5068e cJ0_charAt_5068e 2 (some .char), .code yJ0_isLatin1_aae02 cJ0_isLatin1_aae02 1 (some .boolean), .code yJ1_charAt_3b067 cJ1_charAt_3b067 2 (some .char), .code yJ0_checkIndex_df160 cJ0_checkIndex_df160 2 none, .code yJ3_checkIndex_8e157 cJ3_checkIndex_8e157 3 (some .int), .codeWith yL_feed method_3_code 8 (some .int) [(0, 16, 19, 13)], .code yX9_feed cX9_feed 6 (some .int), .code yX9_append cX9_append 3 none, .codeWith yL_load method_4_code 4 (some .int) [(0, 9, 12, 19), (0, 9, 15, 13)], .code yX9_load cX9_load 4 (some .int), .code yX9_requireLength cX9_requireLength 3 none, .code yX3_readMap cX3_readMap 6 (some .boolean), .code yX6_begin cX6_begin 3 none, .code yJ9_min_7cf53 cJ9_min_7cf53 2 (some .int), .code yX6_advance cX6_advance 2 none, .code yX6_isAtEnd cX6_isAtEnd 1 (some .boolean), .code yX3_readStatement cX3_readStatement 4 (some .boolean), .code yX6_take cX6_take 2 (some .boolean), .code yX3_readArea cX3_readArea 7 (some .boolean), .code yX6_fail cX6_fail 3 (some .boolean), .code yX6_takeName cX6_takeName 2 (some .int), .code yX8_isKeyword cX8_isKeyword 3 (some .boolean)]
set_option maxRecDepth 100000 in
theorem wm0 : ∀ w ∈ wk0, w ∈ osX := osX_at [181, 184, 189, 205, 208, 255, 272, 278, 382, 387, 438, 443, 447, 451, 455, 459, 575, 579, 583, 587, 591, 595, 599, 603, 607, 610, 617, 620, 624, 627, 634, 638, 641, 646, 650, 656, 660, 664, 670, 674, 677, 680, 685, 708, 713, 785, 788, 793, 797, 817, 825, 828, 832, 838, 842, 850, 854, 860, 866, 869] rfl (by decide +kernel)
theorem wd181 : (.code yX9_init cX9_init 2 none : Cond) ∈ osX := wm0 _ (List.mem_of_getElem? (i := 0) rfl)
theorem wd184 : (.code objectInit object_method_1_code 1 none : Cond) ∈ osX := wm0 _ (List.mem_of_getElem? (i := 1) rfl)
theorem wd189 : (.code yX4_init cX4_init 1 none : Cond) ∈ osX := wm0 _ (List.mem_of_getElem? (i := 2) rfl)
theorem wd205 : (.code yX3_init cX3_init 1 none : Cond) ∈ osX := wm0 _ (List.mem_of_getElem? (i := 3) rfl)
theorem wd208 : (.code yX6_init cX6_init 1 none : Cond) ∈ osX := wm0 _ (List.mem_of_getElem? (i := 4) rfl)
theorem wd255 : (.code yX7_init cX7_init 1 none : Cond) ∈ osX := wm0 _ (List.mem_of_getElem? (i := 5) rfl)
theorem wd272 : (.code yX1_init cX1_init 1 none : Cond) ∈ osX := wm0 _ (List.mem_of_getElem? (i := 6) rfl)
theorem wd278 : (.code yX2_init cX2_init 1 none : Cond) ∈ osX := wm0 _ (List.mem_of_getElem? (i := 7) rfl)
theorem wd382 : (.code yX0_init cX0_init 1 none : Cond) ∈ osX := wm0 _ (List.mem_of_getElem? (i := 8) rfl)
theorem wd387 : (.code yX0_clear cX0_clear 2 none : Cond) ∈ osX := wm0 _ (List.mem_of_getElem? (i := 9) rfl)
theorem wd438 : (.code yX5_init cX5_init 1 none : Cond) ∈ osX := wm0 _ (List.mem_of_getElem? (i := 10) rfl)
theorem wd443 : (.code yX5_clear cX5_clear 2 none : Cond) ∈ osX := wm0 _ (List.mem_of_getElem? (i := 11) rfl)
theorem wd447 : (.code yX5_clearUnits cX5_clearUnits 2 none : Cond) ∈ osX := wm0 _ (List.mem_of_getElem? (i := 12) rfl)
theorem wd451 : (.code yX5_clearDislodged cX5_clearDislodged 2 none : Cond) ∈ osX := wm0 _ (List.mem_of_getElem? (i := 13) rfl)
theorem wd455 : (.code yX5_holdAll cX5_holdAll 2 none : Cond) ∈ osX := wm0 _ (List.mem_of_getElem? (i := 14) rfl)
theorem wd459 : (.code yX5_giveOrder cX5_giveOrder 5 none : Cond) ∈ osX := wm0 _ (List.mem_of_getElem? (i := 15) rfl)
theorem wd575 : (.code yX9_errorCode cX9_errorCode 1 (some .int) : Cond) ∈ osX := wm0 _ (List.mem_of_getElem? (i := 16) rfl)
theorem wd579 : (.code yX9_errorPosition cX9_errorPosition 1 (some .int) : Cond) ∈ osX := wm0 _ (List.mem_of_getElem? (i := 17) rfl)
theorem wd583 : (.code yX9_areas cX9_areas 1 (some .int) : Cond) ∈ osX := wm0 _ (List.mem_of_getElem? (i := 18) rfl)
theorem wd587 : (.code yX9_powers cX9_powers 1 (some .int) : Cond) ∈ osX := wm0 _ (List.mem_of_getElem? (i := 19) rfl)
theorem wd591 : (.code yX9_phase cX9_phase 1 (some .int) : Cond) ∈ osX := wm0 _ (List.mem_of_getElem? (i := 20) rfl)
theorem wd595 : (.code yX9_turn cX9_turn 1 (some .int) : Cond) ∈ osX := wm0 _ (List.mem_of_getElem? (i := 21) rfl)
theorem wd599 : (.code yX9_undoCount cX9_undoCount 1 (some .int) : Cond) ∈ osX := wm0 _ (List.mem_of_getElem? (i := 22) rfl)
theorem wd603 : (.code yX9_unevenness cX9_unevenness 1 (some .double) : Cond) ∈ osX := wm0 _ (List.mem_of_getElem? (i := 23) rfl)
theorem wd607 : (.code yX9_sumOfSquares cX9_sumOfSquares 7 (some .double) : Cond) ∈ osX := wm0 _ (List.mem_of_getElem? (i := 24) rfl)
theorem wd610 : (.code yJ6_bitCount_0f7a4 cJ6_bitCount_0f7a4 1 (some .int) : Cond) ∈ osX := wm0 _ (List.mem_of_getElem? (i := 25) rfl)
theorem wd617 : (.code yX5_countCenters cX5_countCenters 2 (some .int) : Cond) ∈ osX := wm0 _ (List.mem_of_getElem? (i := 26) rfl)
theorem wd620 : (.code yX5_countOf cX5_countOf 4 (some .int) : Cond) ∈ osX := wm0 _ (List.mem_of_getElem? (i := 27) rfl)
theorem wd624 : (.code yX9_unevennessBits cX9_unevennessBits 1 (some .long) : Cond) ∈ osX := wm0 _ (List.mem_of_getElem? (i := 28) rfl)
theorem wd627 : (.code yX9_doubleBits cX9_doubleBits 7 (some .long) : Cond) ∈ osX := wm0 _ (List.mem_of_getElem? (i := 29) rfl)
theorem wd634 : (.code yX9_writeUnits cX9_writeUnits 2 (some .int) : Cond) ∈ osX := wm0 _ (List.mem_of_getElem? (i := 30) rfl)
theorem wd638 : (.code yX5_hasUnit cX5_hasUnit 2 (some .boolean) : Cond) ∈ osX := wm0 _ (List.mem_of_getElem? (i := 31) rfl)
theorem wd641 : (.code yX9_entry cX9_entry 2 (some .int) : Cond) ∈ osX := wm0 _ (List.mem_of_getElem? (i := 32) rfl)
theorem wd646 : (.code yX4_putName cX4_putName 4 none : Cond) ∈ osX := wm0 _ (List.mem_of_getElem? (i := 33) rfl)
theorem wd650 : (.code yX4_putByte cX4_putByte 2 none : Cond) ∈ osX := wm0 _ (List.mem_of_getElem? (i := 34) rfl)
theorem wd656 : (.code yX4_putText cX4_putText 3 none : Cond) ∈ osX := wm0 _ (List.mem_of_getElem? (i := 35) rfl)
theorem wd660 : (.code yJ0_length_8abf5 cJ0_length_8abf5 1 (some .int) : Cond) ∈ osX := wm0 _ (List.mem_of_getElem? (i := 36) rfl)
theorem wd664 : (.code yJ0_coder_7d493 cJ0_coder_7d493 1 (some .byte) : Cond) ∈ osX := wm0 _ (List.mem_of_getElem? (i := 37) rfl)
theorem wd670 : (.code yJ0_charAt_5068e cJ0_charAt_5068e 2 (some .char) : Cond) ∈ osX := wm0 _ (List.mem_of_getElem? (i := 38) rfl)
theorem wd674 : (.code yJ0_isLatin1_aae02 cJ0_isLatin1_aae02 1 (some .boolean) : Cond) ∈ osX := wm0 _ (List.mem_of_getElem? (i := 39) rfl)
theorem wd677 : (.code yJ1_charAt_3b067 cJ1_charAt_3b067 2 (some .char) : Cond) ∈ osX := wm0 _ (List.mem_of_getElem? (i := 40) rfl)
theorem wd680 : (.code yJ0_checkIndex_df160 cJ0_checkIndex_df160 2 none : Cond) ∈ osX := wm0 _ (List.mem_of_getElem? (i := 41) rfl)
theorem wd685 : (.code yJ3_checkIndex_8e157 cJ3_checkIndex_8e157 3 (some .int) : Cond) ∈ osX := wm0 _ (List.mem_of_getElem? (i := 42) rfl)
theorem wd708 : (.codeWith yL_feed method_3_code 8 (some .int) [(0, 16, 19, 13)] : Cond) ∈ osX := wm0 _ (List.mem_of_getElem? (i := 43) rfl)
theorem wd713 : (.code yX9_feed cX9_feed 6 (some .int) : Cond) ∈ osX := wm0 _ (List.mem_of_getElem? (i := 44) rfl)
theorem wd785 : (.code yX9_append cX9_append 3 none : Cond) ∈ osX := wm0 _ (List.mem_of_getElem? (i := 45) rfl)
theorem wd788 : (.codeWith yL_load method_4_code 4 (some .int) [(0, 9, 12, 19), (0, 9, 15, 13)] : Cond) ∈ osX := wm0 _ (List.mem_of_getElem? (i := 46) rfl)
theorem wd793 : (.code yX9_load cX9_load 4 (some .int) : Cond) ∈ osX := wm0 _ (List.mem_of_getElem? (i := 47) rfl)
theorem wd797 : (.code yX9_requireLength cX9_requireLength 3 none : Cond) ∈ osX := wm0 _ (List.mem_of_getElem? (i := 48) rfl)
theorem wd817 : (.code yX3_readMap cX3_readMap 6 (some .boolean) : Cond) ∈ osX := wm0 _ (List.mem_of_getElem? (i := 49) rfl)
theorem wd825 : (.code yX6_begin cX6_begin 3 none : Cond) ∈ osX := wm0 _ (List.mem_of_getElem? (i := 50) rfl)
theorem wd828 : (.code yJ9_min_7cf53 cJ9_min_7cf53 2 (some .int) : Cond) ∈ osX := wm0 _ (List.mem_of_getElem? (i := 51) rfl)
theorem wd832 : (.code yX6_advance cX6_advance 2 none : Cond) ∈ osX := wm0 _ (List.mem_of_getElem? (i := 52) rfl)
theorem wd838 : (.code yX6_isAtEnd cX6_isAtEnd 1 (some .boolean) : Cond) ∈ osX := wm0 _ (List.mem_of_getElem? (i := 53) rfl)
theorem wd842 : (.code yX3_readStatement cX3_readStatement 4 (some .boolean) : Cond) ∈ osX := wm0 _ (List.mem_of_getElem? (i := 54) rfl)
theorem wd850 : (.code yX6_take cX6_take 2 (some .boolean) : Cond) ∈ osX := wm0 _ (List.mem_of_getElem? (i := 55) rfl)
theorem wd854 : (.code yX3_readArea cX3_readArea 7 (some .boolean) : Cond) ∈ osX := wm0 _ (List.mem_of_getElem? (i := 56) rfl)
theorem wd860 : (.code yX6_fail cX6_fail 3 (some .boolean) : Cond) ∈ osX := wm0 _ (List.mem_of_getElem? (i := 57) rfl)
theorem wd866 : (.code yX6_takeName cX6_takeName 2 (some .int) : Cond) ∈ osX := wm0 _ (List.mem_of_getElem? (i := 58) rfl)
theorem wd869 : (.code yX8_isKeyword cX8_isKeyword 3 (some .boolean) : Cond) ∈ osX := wm0 _ (List.mem_of_getElem? (i := 59) rfl)
def wk1 : List Cond := [.code yX0_findArea cX0_findArea 3 (some .int), .code yX0_addArea cX0_addArea 5 none, .code yX9_bit cX9_bit 1 (some .int), .code yX3_readBorder cX3_readBorder 9 (some .boolean), .code yX6_takeArea cX6_takeArea 4 (some .int), .code yX0_hasBorder cX0_hasBorder 3 (some .boolean), .code yX0_letsPass cX0_letsPass 5 (some .boolean), .code yX0_suits cX0_suits 3 (some .boolean), .code yX9_has cX9_has 2 (some .boolean), .code yX0_addBorder cX0_addBorder 5 none, .code yX0_isArea cX0_isArea 2 (some .boolean), .code yX3_readPower cX3_readPower 7 (some .boolean), .code yX0_findPower cX0_findPower 3 (some .int), .code yX0_addPower cX0_addPower 3 (some .int), .code yX6_isAtWord cX6_isAtWord 1 (some .boolean), .code yX3_readHome cX3_readHome 5 (some .boolean), .code yX0_makeHome cX0_makeHome 3 none, .code yX5_giveCenter cX5_giveCenter 3 none, .code yX3_readUnit cX3_readUnit 8 (some .boolean), .code yX5_countAllUnits cX5_countAllUnits 1 (some .int), .code yX5_placeUnit cX5_placeUnit 4 none, .code yX6_takeSemicolon cX6_takeSemicolon 1 (some .boolean), .code yX9_noteError cX9_noteError 2 none, .code yX9_adoptDraft cX9_adoptDraft 2 none, .codeWith yL_tell method_5_code 4 (some .int) [(0, 9, 12, 19), (0, 9, 15, 13)], .code yX9_tell cX9_tell 3 (some .int), .code yX5_copyFrom cX5_copyFrom 2 none, .code yX5_copyRow cX5_copyRow 2 none, .code yX7_readAll cX7_readAll 6 (some .int), .code yX7_readOne cX7_readOne 3 (some .boolean), .code yX7_readOrder cX7_readOrder 4 (some .boolean), .code yX7_readMove cX7_readMove 5 (some .boolean), .code yX5_allowsMove cX5_allowsMove 4 (some .boolean), .code yX5_canGo cX5_canGo 5 (some .boolean), .code yX5_hasArmy cX5_hasArmy 2 (some .boolean), .code yX5_joinsCoasts cX5_joinsCoasts 3 (some .boolean), .code yX7_readSupport cX7_readSupport 6 (some .boolean), .code yX5_allowsUnitSupport cX5_allowsUnitSupport 4 (some .boolean), .code yX5_allowsMoveSupport cX5_allowsMoveSupport 5 (some .boolean), .code yX6_takeOrFail cX6_takeOrFail 2 (some .boolean), .code yX7_readConvoy cX7_readConvoy 6 (some .boolean), .code yX5_allowsConvoy cX5_allowsConvoy 5 (some .boolean), .code yX7_readRetreat cX7_readRetreat 5 (some .boolean), .code yX5_hasDislodged cX5_hasDislodged 2 (some .boolean), .code yX5_giveRetreat cX5_giveRetreat 3 none, .code yX5_allowsRetreat cX5_allowsRetreat 4 (some .boolean), .code yX7_readBuild cX7_readBuild 7 (some .boolean), .code yX5_allowsBuild cX5_allowsBuild 4 (some .boolean), .code yX5_freeHomes cX5_freeHomes 5 (some .int), .code yX5_countBuilds cX5_countBuilds 5 (some .int), .code yX5_countUnits cX5_countUnits 2 (some .int), .code yX7_readRemoval cX7_readRemoval 4 (some .boolean), .code yX5_needsRemoval cX5_needsRemoval 2 (some .boolean), .codeWith yL_area method_6_code 5 (some .int) [(0, 10, 13, 28), (0, 10, 17, 19)], .code yX9_area cX9_area 3 (some .int), .code yX9_requireArea cX9_requireArea 2 none, .code yX9_requireReport cX9_requireReport 3 none, .code yX0_kindOf cX0_kindOf 2 (some .int), .codeWith yL_named method_7_code 4 (some .int) [(0, 9, 12, 19), (0, 9, 15, 28)], .code yX9_named cX9_named 3 (some .int)]
set_option maxRecDepth 100000 in
theorem wm1 : ∀ w ∈ wk1, w ∈ osX := osX_at [876, 882, 885, 895, 901, 907, 911, 919, 922, 926, 930, 936, 940, 944, 950, 954, 960, 964, 968, 972, 977, 983, 987, 992, 996, 1000, 1004, 1007, 1015, 1025, 1029, 1048, 1052, 1056, 1061, 1064, 1071, 1075, 1080, 1088, 1093, 1097, 1101, 1105, 1111, 1115, 1122, 1126, 1130, 1134, 1139, 1152, 1156, 1163, 1168, 1172, 1193, 1198, 1202, 1206] rfl (by decide +kernel)
theorem wd876 : (.code yX0_findArea cX0_findArea 3 (some .int) : Cond) ∈ osX := wm1 _ (List.mem_of_getElem? (i := 0) rfl)
theorem wd882 : (.code yX0_addArea cX0_addArea 5 none : Cond) ∈ osX := wm1 _ (List.mem_of_getElem? (i := 1) rfl)
theorem wd885 : (.code yX9_bit cX9_bit 1 (some .int) : Cond) ∈ osX := wm1 _ (List.mem_of_getElem? (i := 2) rfl)
theorem wd895 : (.code yX3_readBorder cX3_readBorder 9 (some .boolean) : Cond) ∈ osX := wm1 _ (List.mem_of_getElem? (i := 3) rfl)
theorem wd901 : (.code yX6_takeArea cX6_takeArea 4 (some .int) : Cond) ∈ osX := wm1 _ (List.mem_of_getElem? (i := 4) rfl)
theorem wd907 : (.code yX0_hasBorder cX0_hasBorder 3 (some .boolean) : Cond) ∈ osX := wm1 _ (List.mem_of_getElem? (i := 5) rfl)
theorem wd911 : (.code yX0_letsPass cX0_letsPass 5 (some .boolean) : Cond) ∈ osX := wm1 _ (List.mem_of_getElem? (i := 6) rfl)
theorem wd919 : (.code yX0_suits cX0_suits 3 (some .boolean) : Cond) ∈ osX := wm1 _ (List.mem_of_getElem? (i := 7) rfl)
theorem wd922 : (.code yX9_has cX9_has 2 (some .boolean) : Cond) ∈ osX := wm1 _ (List.mem_of_getElem? (i := 8) rfl)
theorem wd926 : (.code yX0_addBorder cX0_addBorder 5 none : Cond) ∈ osX := wm1 _ (List.mem_of_getElem? (i := 9) rfl)
theorem wd930 : (.code yX0_isArea cX0_isArea 2 (some .boolean) : Cond) ∈ osX := wm1 _ (List.mem_of_getElem? (i := 10) rfl)
theorem wd936 : (.code yX3_readPower cX3_readPower 7 (some .boolean) : Cond) ∈ osX := wm1 _ (List.mem_of_getElem? (i := 11) rfl)
theorem wd940 : (.code yX0_findPower cX0_findPower 3 (some .int) : Cond) ∈ osX := wm1 _ (List.mem_of_getElem? (i := 12) rfl)
theorem wd944 : (.code yX0_addPower cX0_addPower 3 (some .int) : Cond) ∈ osX := wm1 _ (List.mem_of_getElem? (i := 13) rfl)
theorem wd950 : (.code yX6_isAtWord cX6_isAtWord 1 (some .boolean) : Cond) ∈ osX := wm1 _ (List.mem_of_getElem? (i := 14) rfl)
theorem wd954 : (.code yX3_readHome cX3_readHome 5 (some .boolean) : Cond) ∈ osX := wm1 _ (List.mem_of_getElem? (i := 15) rfl)
theorem wd960 : (.code yX0_makeHome cX0_makeHome 3 none : Cond) ∈ osX := wm1 _ (List.mem_of_getElem? (i := 16) rfl)
theorem wd964 : (.code yX5_giveCenter cX5_giveCenter 3 none : Cond) ∈ osX := wm1 _ (List.mem_of_getElem? (i := 17) rfl)
theorem wd968 : (.code yX3_readUnit cX3_readUnit 8 (some .boolean) : Cond) ∈ osX := wm1 _ (List.mem_of_getElem? (i := 18) rfl)
theorem wd972 : (.code yX5_countAllUnits cX5_countAllUnits 1 (some .int) : Cond) ∈ osX := wm1 _ (List.mem_of_getElem? (i := 19) rfl)
theorem wd977 : (.code yX5_placeUnit cX5_placeUnit 4 none : Cond) ∈ osX := wm1 _ (List.mem_of_getElem? (i := 20) rfl)
theorem wd983 : (.code yX6_takeSemicolon cX6_takeSemicolon 1 (some .boolean) : Cond) ∈ osX := wm1 _ (List.mem_of_getElem? (i := 21) rfl)
theorem wd987 : (.code yX9_noteError cX9_noteError 2 none : Cond) ∈ osX := wm1 _ (List.mem_of_getElem? (i := 22) rfl)
theorem wd992 : (.code yX9_adoptDraft cX9_adoptDraft 2 none : Cond) ∈ osX := wm1 _ (List.mem_of_getElem? (i := 23) rfl)
theorem wd996 : (.codeWith yL_tell method_5_code 4 (some .int) [(0, 9, 12, 19), (0, 9, 15, 13)] : Cond) ∈ osX := wm1 _ (List.mem_of_getElem? (i := 24) rfl)
theorem wd1000 : (.code yX9_tell cX9_tell 3 (some .int) : Cond) ∈ osX := wm1 _ (List.mem_of_getElem? (i := 25) rfl)
theorem wd1004 : (.code yX5_copyFrom cX5_copyFrom 2 none : Cond) ∈ osX := wm1 _ (List.mem_of_getElem? (i := 26) rfl)
theorem wd1007 : (.code yX5_copyRow cX5_copyRow 2 none : Cond) ∈ osX := wm1 _ (List.mem_of_getElem? (i := 27) rfl)
theorem wd1015 : (.code yX7_readAll cX7_readAll 6 (some .int) : Cond) ∈ osX := wm1 _ (List.mem_of_getElem? (i := 28) rfl)
theorem wd1025 : (.code yX7_readOne cX7_readOne 3 (some .boolean) : Cond) ∈ osX := wm1 _ (List.mem_of_getElem? (i := 29) rfl)
theorem wd1029 : (.code yX7_readOrder cX7_readOrder 4 (some .boolean) : Cond) ∈ osX := wm1 _ (List.mem_of_getElem? (i := 30) rfl)
theorem wd1048 : (.code yX7_readMove cX7_readMove 5 (some .boolean) : Cond) ∈ osX := wm1 _ (List.mem_of_getElem? (i := 31) rfl)
theorem wd1052 : (.code yX5_allowsMove cX5_allowsMove 4 (some .boolean) : Cond) ∈ osX := wm1 _ (List.mem_of_getElem? (i := 32) rfl)
theorem wd1056 : (.code yX5_canGo cX5_canGo 5 (some .boolean) : Cond) ∈ osX := wm1 _ (List.mem_of_getElem? (i := 33) rfl)
theorem wd1061 : (.code yX5_hasArmy cX5_hasArmy 2 (some .boolean) : Cond) ∈ osX := wm1 _ (List.mem_of_getElem? (i := 34) rfl)
theorem wd1064 : (.code yX5_joinsCoasts cX5_joinsCoasts 3 (some .boolean) : Cond) ∈ osX := wm1 _ (List.mem_of_getElem? (i := 35) rfl)
theorem wd1071 : (.code yX7_readSupport cX7_readSupport 6 (some .boolean) : Cond) ∈ osX := wm1 _ (List.mem_of_getElem? (i := 36) rfl)
theorem wd1075 : (.code yX5_allowsUnitSupport cX5_allowsUnitSupport 4 (some .boolean) : Cond) ∈ osX := wm1 _ (List.mem_of_getElem? (i := 37) rfl)
theorem wd1080 : (.code yX5_allowsMoveSupport cX5_allowsMoveSupport 5 (some .boolean) : Cond) ∈ osX := wm1 _ (List.mem_of_getElem? (i := 38) rfl)
theorem wd1088 : (.code yX6_takeOrFail cX6_takeOrFail 2 (some .boolean) : Cond) ∈ osX := wm1 _ (List.mem_of_getElem? (i := 39) rfl)
theorem wd1093 : (.code yX7_readConvoy cX7_readConvoy 6 (some .boolean) : Cond) ∈ osX := wm1 _ (List.mem_of_getElem? (i := 40) rfl)
theorem wd1097 : (.code yX5_allowsConvoy cX5_allowsConvoy 5 (some .boolean) : Cond) ∈ osX := wm1 _ (List.mem_of_getElem? (i := 41) rfl)
theorem wd1101 : (.code yX7_readRetreat cX7_readRetreat 5 (some .boolean) : Cond) ∈ osX := wm1 _ (List.mem_of_getElem? (i := 42) rfl)
theorem wd1105 : (.code yX5_hasDislodged cX5_hasDislodged 2 (some .boolean) : Cond) ∈ osX := wm1 _ (List.mem_of_getElem? (i := 43) rfl)
theorem wd1111 : (.code yX5_giveRetreat cX5_giveRetreat 3 none : Cond) ∈ osX := wm1 _ (List.mem_of_getElem? (i := 44) rfl)
theorem wd1115 : (.code yX5_allowsRetreat cX5_allowsRetreat 4 (some .boolean) : Cond) ∈ osX := wm1 _ (List.mem_of_getElem? (i := 45) rfl)
theorem wd1122 : (.code yX7_readBuild cX7_readBuild 7 (some .boolean) : Cond) ∈ osX := wm1 _ (List.mem_of_getElem? (i := 46) rfl)
theorem wd1126 : (.code yX5_allowsBuild cX5_allowsBuild 4 (some .boolean) : Cond) ∈ osX := wm1 _ (List.mem_of_getElem? (i := 47) rfl)
theorem wd1130 : (.code yX5_freeHomes cX5_freeHomes 5 (some .int) : Cond) ∈ osX := wm1 _ (List.mem_of_getElem? (i := 48) rfl)
theorem wd1134 : (.code yX5_countBuilds cX5_countBuilds 5 (some .int) : Cond) ∈ osX := wm1 _ (List.mem_of_getElem? (i := 49) rfl)
theorem wd1139 : (.code yX5_countUnits cX5_countUnits 2 (some .int) : Cond) ∈ osX := wm1 _ (List.mem_of_getElem? (i := 50) rfl)
theorem wd1152 : (.code yX7_readRemoval cX7_readRemoval 4 (some .boolean) : Cond) ∈ osX := wm1 _ (List.mem_of_getElem? (i := 51) rfl)
theorem wd1156 : (.code yX5_needsRemoval cX5_needsRemoval 2 (some .boolean) : Cond) ∈ osX := wm1 _ (List.mem_of_getElem? (i := 52) rfl)
theorem wd1163 : (.codeWith yL_area method_6_code 5 (some .int) [(0, 10, 13, 28), (0, 10, 17, 19)] : Cond) ∈ osX := wm1 _ (List.mem_of_getElem? (i := 53) rfl)
theorem wd1168 : (.code yX9_area cX9_area 3 (some .int) : Cond) ∈ osX := wm1 _ (List.mem_of_getElem? (i := 54) rfl)
theorem wd1172 : (.code yX9_requireArea cX9_requireArea 2 none : Cond) ∈ osX := wm1 _ (List.mem_of_getElem? (i := 55) rfl)
theorem wd1193 : (.code yX9_requireReport cX9_requireReport 3 none : Cond) ∈ osX := wm1 _ (List.mem_of_getElem? (i := 56) rfl)
theorem wd1198 : (.code yX0_kindOf cX0_kindOf 2 (some .int) : Cond) ∈ osX := wm1 _ (List.mem_of_getElem? (i := 57) rfl)
theorem wd1202 : (.codeWith yL_named method_7_code 4 (some .int) [(0, 9, 12, 19), (0, 9, 15, 28)] : Cond) ∈ osX := wm1 _ (List.mem_of_getElem? (i := 58) rfl)
theorem wd1206 : (.code yX9_named cX9_named 3 (some .int) : Cond) ∈ osX := wm1 _ (List.mem_of_getElem? (i := 59) rfl)
def wk2 : List Cond := [.code yX9_packedInput cX9_packedInput 4 (some .int), .code yX9_isLetter cX9_isLetter 1 (some .boolean), .code yX9_letterNumber cX9_letterNumber 1 (some .int), .codeWith yL_passes method_8_code 6 (some .int) [(0, 19, 22, 28)], .code yX9_passes cX9_passes 4 (some .boolean), .codeWith yL_distance method_9_code 6 (some .int) [(0, 12, 15, 28)], .code yX9_distance cX9_distance 4 (some .int), .code yX0_countBorders cX0_countBorders 8 (some .int), .code yX0_bordersOf cX0_bordersOf 3 (some .int), .codeWith yL_power method_10_code 5 (some .int) [(0, 10, 13, 28), (0, 10, 17, 19)], .code yX9_power cX9_power 3 (some .int), .code yX9_requirePower cX9_requirePower 2 none, .code yX0_countHomes cX0_countHomes 4 (some .int), .codeWith yL_order method_11_code 5 (some .int) [(0, 10, 13, 28), (0, 10, 17, 19), (0, 10, 21, 13)], .code yX9_order cX9_order 3 (some .int), .code yX9_requireUnit cX9_requireUnit 2 none, .code yX9_requirePhase cX9_requirePhase 2 none, .codeWith yL_settle method_12_code 3 (some .int) [(0, 8, 11, 13)], .code yX9_settle cX9_settle 1 (some .int), .code yX9_remember cX9_remember 3 none, .code yX1_decide cX1_decide 3 none, .code yX2_prepare cX2_prepare 4 none, .code yX2_clear cX2_clear 2 none, .code yX2_noteMove cX2_noteMove 5 none, .code yX2_linkSupport cX2_linkSupport 9 none, .code yX2_linkConvoy cX2_linkConvoy 5 none, .code yX2_linkMove cX2_linkMove 5 none, .code yX1_search cX1_search 9 (some .int), .code yX1_weigh cX1_weigh 4 none, .code yX1_isCarried cX1_isCarried 7 (some .boolean), .code yX1_isConsistent cX1_isConsistent 2 (some .boolean), .code yX1_shouldSucceed cX1_shouldSucceed 3 (some .boolean), .code yX1_attackOf cX1_attackOf 5 (some .int), .code yX1_resistanceTo cX1_resistanceTo 3 (some .int), .code yX1_preventionOf cX1_preventionOf 6 (some .int), .code yX1_strengthOf cX1_strengthOf 2 (some .int), .code yJ9_max_7cf53 cJ9_max_7cf53 2 (some .int), .code yX5_carryOut cX5_carryOut 6 none, .code yX1_findAttacker cX1_findAttacker 3 (some .int), .code yX1_findFailedGoals cX1_findFailedGoals 3 (some .int), .code yX1_explainAll cX1_explainAll 3 none, .code yX1_explain cX1_explain 4 (some .int), .code yX1_summaryOf cX1_summaryOf 2 (some .int), .code yX1_reasonFor cX1_reasonFor 2 (some .int), .code yX5_closeTurn cX5_closeTurn 3 none, .code yX5_beginTurn cX5_beginTurn 1 none, .codeWith yL_result method_13_code 5 (some .int) [(0, 10, 13, 28), (0, 10, 17, 19), (0, 10, 21, 13)], .code yX9_result cX9_result 3 (some .int), .code yX9_requireSettled cX9_requireSettled 1 none, .codeWith yL_outcomes method_14_code 3 (some .int) [(0, 8, 11, 13)], .code yX9_outcomes cX9_outcomes 1 (some .int), .codeWith yL_isContested method_15_code 4 (some .int) [(0, 16, 19, 28), (0, 16, 22, 13)], .code yX9_isContested cX9_isContested 2 (some .boolean), .codeWith yL_mayRetreat method_16_code 5 (some .int) [(0, 17, 20, 28)], .code yX9_mayRetreat cX9_mayRetreat 3 (some .boolean), .codeWith yL_endRetreats method_17_code 3 (some .int) [(0, 8, 11, 13)], .code yX9_endRetreats cX9_endRetreats 2 (some .int), .code yX5_carryOutRetreats cX5_carryOutRetreats 5 (some .int), .codeWith yL_endBuilds method_18_code 3 (some .int) [(0, 8, 11, 13)], .code yX9_endBuilds cX9_endBuilds 3 (some .int)]
set_option maxRecDepth 100000 in
theorem wm2 : ∀ w ∈ wk2, w ∈ osX := osX_at [1210, 1213, 1216, 1221, 1225, 1229, 1233, 1237, 1241, 1244, 1248, 1252, 1258, 1262, 1266, 1270, 1275, 1279, 1283, 1287, 1291, 1295, 1299, 1306, 1313, 1317, 1321, 1325, 1331, 1336, 1342, 1346, 1350, 1354, 1358, 1362, 1365, 1369, 1374, 1378, 1383, 1387, 1391, 1395, 1399, 1403, 1406, 1410, 1414, 1418, 1422, 1425, 1429, 1432, 1436, 1442, 1446, 1450, 1453, 1457] rfl (by decide +kernel)
theorem wd1210 : (.code yX9_packedInput cX9_packedInput 4 (some .int) : Cond) ∈ osX := wm2 _ (List.mem_of_getElem? (i := 0) rfl)
theorem wd1213 : (.code yX9_isLetter cX9_isLetter 1 (some .boolean) : Cond) ∈ osX := wm2 _ (List.mem_of_getElem? (i := 1) rfl)
theorem wd1216 : (.code yX9_letterNumber cX9_letterNumber 1 (some .int) : Cond) ∈ osX := wm2 _ (List.mem_of_getElem? (i := 2) rfl)
theorem wd1221 : (.codeWith yL_passes method_8_code 6 (some .int) [(0, 19, 22, 28)] : Cond) ∈ osX := wm2 _ (List.mem_of_getElem? (i := 3) rfl)
theorem wd1225 : (.code yX9_passes cX9_passes 4 (some .boolean) : Cond) ∈ osX := wm2 _ (List.mem_of_getElem? (i := 4) rfl)
theorem wd1229 : (.codeWith yL_distance method_9_code 6 (some .int) [(0, 12, 15, 28)] : Cond) ∈ osX := wm2 _ (List.mem_of_getElem? (i := 5) rfl)
theorem wd1233 : (.code yX9_distance cX9_distance 4 (some .int) : Cond) ∈ osX := wm2 _ (List.mem_of_getElem? (i := 6) rfl)
theorem wd1237 : (.code yX0_countBorders cX0_countBorders 8 (some .int) : Cond) ∈ osX := wm2 _ (List.mem_of_getElem? (i := 7) rfl)
theorem wd1241 : (.code yX0_bordersOf cX0_bordersOf 3 (some .int) : Cond) ∈ osX := wm2 _ (List.mem_of_getElem? (i := 8) rfl)
theorem wd1244 : (.codeWith yL_power method_10_code 5 (some .int) [(0, 10, 13, 28), (0, 10, 17, 19)] : Cond) ∈ osX := wm2 _ (List.mem_of_getElem? (i := 9) rfl)
theorem wd1248 : (.code yX9_power cX9_power 3 (some .int) : Cond) ∈ osX := wm2 _ (List.mem_of_getElem? (i := 10) rfl)
theorem wd1252 : (.code yX9_requirePower cX9_requirePower 2 none : Cond) ∈ osX := wm2 _ (List.mem_of_getElem? (i := 11) rfl)
theorem wd1258 : (.code yX0_countHomes cX0_countHomes 4 (some .int) : Cond) ∈ osX := wm2 _ (List.mem_of_getElem? (i := 12) rfl)
theorem wd1262 : (.codeWith yL_order method_11_code 5 (some .int) [(0, 10, 13, 28), (0, 10, 17, 19), (0, 10, 21, 13)] : Cond) ∈ osX := wm2 _ (List.mem_of_getElem? (i := 13) rfl)
theorem wd1266 : (.code yX9_order cX9_order 3 (some .int) : Cond) ∈ osX := wm2 _ (List.mem_of_getElem? (i := 14) rfl)
theorem wd1270 : (.code yX9_requireUnit cX9_requireUnit 2 none : Cond) ∈ osX := wm2 _ (List.mem_of_getElem? (i := 15) rfl)
theorem wd1275 : (.code yX9_requirePhase cX9_requirePhase 2 none : Cond) ∈ osX := wm2 _ (List.mem_of_getElem? (i := 16) rfl)
theorem wd1279 : (.codeWith yL_settle method_12_code 3 (some .int) [(0, 8, 11, 13)] : Cond) ∈ osX := wm2 _ (List.mem_of_getElem? (i := 17) rfl)
theorem wd1283 : (.code yX9_settle cX9_settle 1 (some .int) : Cond) ∈ osX := wm2 _ (List.mem_of_getElem? (i := 18) rfl)
theorem wd1287 : (.code yX9_remember cX9_remember 3 none : Cond) ∈ osX := wm2 _ (List.mem_of_getElem? (i := 19) rfl)
theorem wd1291 : (.code yX1_decide cX1_decide 3 none : Cond) ∈ osX := wm2 _ (List.mem_of_getElem? (i := 20) rfl)
theorem wd1295 : (.code yX2_prepare cX2_prepare 4 none : Cond) ∈ osX := wm2 _ (List.mem_of_getElem? (i := 21) rfl)
theorem wd1299 : (.code yX2_clear cX2_clear 2 none : Cond) ∈ osX := wm2 _ (List.mem_of_getElem? (i := 22) rfl)
theorem wd1306 : (.code yX2_noteMove cX2_noteMove 5 none : Cond) ∈ osX := wm2 _ (List.mem_of_getElem? (i := 23) rfl)
theorem wd1313 : (.code yX2_linkSupport cX2_linkSupport 9 none : Cond) ∈ osX := wm2 _ (List.mem_of_getElem? (i := 24) rfl)
theorem wd1317 : (.code yX2_linkConvoy cX2_linkConvoy 5 none : Cond) ∈ osX := wm2 _ (List.mem_of_getElem? (i := 25) rfl)
theorem wd1321 : (.code yX2_linkMove cX2_linkMove 5 none : Cond) ∈ osX := wm2 _ (List.mem_of_getElem? (i := 26) rfl)
theorem wd1325 : (.code yX1_search cX1_search 9 (some .int) : Cond) ∈ osX := wm2 _ (List.mem_of_getElem? (i := 27) rfl)
theorem wd1331 : (.code yX1_weigh cX1_weigh 4 none : Cond) ∈ osX := wm2 _ (List.mem_of_getElem? (i := 28) rfl)
theorem wd1336 : (.code yX1_isCarried cX1_isCarried 7 (some .boolean) : Cond) ∈ osX := wm2 _ (List.mem_of_getElem? (i := 29) rfl)
theorem wd1342 : (.code yX1_isConsistent cX1_isConsistent 2 (some .boolean) : Cond) ∈ osX := wm2 _ (List.mem_of_getElem? (i := 30) rfl)
theorem wd1346 : (.code yX1_shouldSucceed cX1_shouldSucceed 3 (some .boolean) : Cond) ∈ osX := wm2 _ (List.mem_of_getElem? (i := 31) rfl)
theorem wd1350 : (.code yX1_attackOf cX1_attackOf 5 (some .int) : Cond) ∈ osX := wm2 _ (List.mem_of_getElem? (i := 32) rfl)
theorem wd1354 : (.code yX1_resistanceTo cX1_resistanceTo 3 (some .int) : Cond) ∈ osX := wm2 _ (List.mem_of_getElem? (i := 33) rfl)
theorem wd1358 : (.code yX1_preventionOf cX1_preventionOf 6 (some .int) : Cond) ∈ osX := wm2 _ (List.mem_of_getElem? (i := 34) rfl)
theorem wd1362 : (.code yX1_strengthOf cX1_strengthOf 2 (some .int) : Cond) ∈ osX := wm2 _ (List.mem_of_getElem? (i := 35) rfl)
theorem wd1365 : (.code yJ9_max_7cf53 cJ9_max_7cf53 2 (some .int) : Cond) ∈ osX := wm2 _ (List.mem_of_getElem? (i := 36) rfl)
theorem wd1369 : (.code yX5_carryOut cX5_carryOut 6 none : Cond) ∈ osX := wm2 _ (List.mem_of_getElem? (i := 37) rfl)
theorem wd1374 : (.code yX1_findAttacker cX1_findAttacker 3 (some .int) : Cond) ∈ osX := wm2 _ (List.mem_of_getElem? (i := 38) rfl)
theorem wd1378 : (.code yX1_findFailedGoals cX1_findFailedGoals 3 (some .int) : Cond) ∈ osX := wm2 _ (List.mem_of_getElem? (i := 39) rfl)
theorem wd1383 : (.code yX1_explainAll cX1_explainAll 3 none : Cond) ∈ osX := wm2 _ (List.mem_of_getElem? (i := 40) rfl)
theorem wd1387 : (.code yX1_explain cX1_explain 4 (some .int) : Cond) ∈ osX := wm2 _ (List.mem_of_getElem? (i := 41) rfl)
theorem wd1391 : (.code yX1_summaryOf cX1_summaryOf 2 (some .int) : Cond) ∈ osX := wm2 _ (List.mem_of_getElem? (i := 42) rfl)
theorem wd1395 : (.code yX1_reasonFor cX1_reasonFor 2 (some .int) : Cond) ∈ osX := wm2 _ (List.mem_of_getElem? (i := 43) rfl)
theorem wd1399 : (.code yX5_closeTurn cX5_closeTurn 3 none : Cond) ∈ osX := wm2 _ (List.mem_of_getElem? (i := 44) rfl)
theorem wd1403 : (.code yX5_beginTurn cX5_beginTurn 1 none : Cond) ∈ osX := wm2 _ (List.mem_of_getElem? (i := 45) rfl)
theorem wd1406 : (.codeWith yL_result method_13_code 5 (some .int) [(0, 10, 13, 28), (0, 10, 17, 19), (0, 10, 21, 13)] : Cond) ∈ osX := wm2 _ (List.mem_of_getElem? (i := 46) rfl)
theorem wd1410 : (.code yX9_result cX9_result 3 (some .int) : Cond) ∈ osX := wm2 _ (List.mem_of_getElem? (i := 47) rfl)
theorem wd1414 : (.code yX9_requireSettled cX9_requireSettled 1 none : Cond) ∈ osX := wm2 _ (List.mem_of_getElem? (i := 48) rfl)
theorem wd1418 : (.codeWith yL_outcomes method_14_code 3 (some .int) [(0, 8, 11, 13)] : Cond) ∈ osX := wm2 _ (List.mem_of_getElem? (i := 49) rfl)
theorem wd1422 : (.code yX9_outcomes cX9_outcomes 1 (some .int) : Cond) ∈ osX := wm2 _ (List.mem_of_getElem? (i := 50) rfl)
theorem wd1425 : (.codeWith yL_isContested method_15_code 4 (some .int) [(0, 16, 19, 28), (0, 16, 22, 13)] : Cond) ∈ osX := wm2 _ (List.mem_of_getElem? (i := 51) rfl)
theorem wd1429 : (.code yX9_isContested cX9_isContested 2 (some .boolean) : Cond) ∈ osX := wm2 _ (List.mem_of_getElem? (i := 52) rfl)
theorem wd1432 : (.codeWith yL_mayRetreat method_16_code 5 (some .int) [(0, 17, 20, 28)] : Cond) ∈ osX := wm2 _ (List.mem_of_getElem? (i := 53) rfl)
theorem wd1436 : (.code yX9_mayRetreat cX9_mayRetreat 3 (some .boolean) : Cond) ∈ osX := wm2 _ (List.mem_of_getElem? (i := 54) rfl)
theorem wd1442 : (.codeWith yL_endRetreats method_17_code 3 (some .int) [(0, 8, 11, 13)] : Cond) ∈ osX := wm2 _ (List.mem_of_getElem? (i := 55) rfl)
theorem wd1446 : (.code yX9_endRetreats cX9_endRetreats 2 (some .int) : Cond) ∈ osX := wm2 _ (List.mem_of_getElem? (i := 56) rfl)
theorem wd1450 : (.code yX5_carryOutRetreats cX5_carryOutRetreats 5 (some .int) : Cond) ∈ osX := wm2 _ (List.mem_of_getElem? (i := 57) rfl)
theorem wd1453 : (.codeWith yL_endBuilds method_18_code 3 (some .int) [(0, 8, 11, 13)] : Cond) ∈ osX := wm2 _ (List.mem_of_getElem? (i := 58) rfl)
theorem wd1457 : (.code yX9_endBuilds cX9_endBuilds 3 (some .int) : Cond) ∈ osX := wm2 _ (List.mem_of_getElem? (i := 59) rfl)
def wk3 : List Cond := [.code yX5_disbandSurplus cX5_disbandSurplus 4 (some .int), .codeWith yL_undo method_19_code 3 (some .int) [(0, 8, 11, 13)], .code yX9_undo cX9_undo 1 (some .int), .codeWith yL_foresee method_20_code 5 (some .int) [(0, 10, 13, 28), (0, 10, 17, 19), (0, 10, 21, 13)], .code yX9_foresee cX9_foresee 3 (some .int), .codeWith yL_foreseeMove method_21_code 5 (some .int) [(0, 10, 13, 28), (0, 10, 17, 19), (0, 10, 21, 13)], .code yX9_foreseeMove cX9_foreseeMove 3 (some .int), .codeWith yL_reach method_22_code 6 (some .int) [(0, 12, 15, 28)], .code yX9_reach cX9_reach 4 (some .int), .code yX5_countArrivals cX5_countArrivals 7 (some .int), .codeWith yL_isThreatened method_23_code 4 (some .int) [(0, 16, 19, 28)], .code yX9_isThreatened cX9_isThreatened 5 (some .boolean), .codeWith yL_share method_24_code 4 (some .int) [(0, 9, 12, 28)], .code yX9_share cX9_share 2 (some .float), .code yX9_shareOf cX9_shareOf 3 (some .float), .codeWith yL_shareBits method_25_code 4 (some .int) [(0, 9, 12, 28)], .code yX9_shareBits cX9_shareBits 2 (some .int), .code yX9_floatBits cX9_floatBits 4 (some .int), .codeWith yL_leader method_26_code 3 (some .int) [(0, 8, 11, 28)], .code yX9_leader cX9_leader 5 (some .int), .codeWith yL_writeOrders method_27_code 3 (some .int) [(0, 8, 11, 13)], .code yX9_writeOrders cX9_writeOrders 2 (some .int), .code yX9_putOrder cX9_putOrder 4 none, .code yX9_putRoute cX9_putRoute 3 none, .codeWith yL_outputByte method_28_code 4 (some .int) [(0, 9, 12, 102)], .code yX9_outputByte cX9_outputByte 2 (some .int), .code yX10_init cX10_init 1 none, .code yX10_clears cX10_clears 2 none, .code yX10_allHold cX10_allHold 2 none, .code yX10_settles cX10_settles 2 none, .code yX10_takesDraft cX10_takesDraft 2 none, .code yX10_thrown cX10_thrown 1 (some .int), .code yX10_feed cX10_feed 6 (some .int), .code yX10_refuse cX10_refuse 2 (some .int), .code yX10_lays cX10_lays 3 none, .code yX10_errorCode cX10_errorCode 1 (some .int), .code yX10_told cX10_told 2 (some .int), .code yX10_errorPosition cX10_errorPosition 1 (some .int), .code yX10_load cX10_load 2 (some .int), .code yX10_opens cX10_opens 2 (some .boolean), .code yX10_in cX10_in 3 (some .boolean), .code yX10_readMap cX10_readMap 1 (some .boolean), .code yX10_peek cX10_peek 1 (some .int), .code yX10_byteAt cX10_byteAt 2 (some .int), .code yX10_readStatement cX10_readStatement 1 (some .boolean), .code yX10_readWord cX10_readWord 1 (some .boolean), .code yX10_seesWord cX10_seesWord 1 (some .boolean), .code yX10_isLetter cX10_isLetter 1 (some .boolean), .code yX10_passes cX10_passes 1 (some .boolean), .code yX10_fails cX10_fails 3 (some .boolean), .code yX10_readNewArea cX10_readNewArea 3 (some .boolean), .code yX10_readName cX10_readName 1 (some .boolean), .code yX10_isKeyword cX10_isKeyword 2 (some .boolean), .code yX10_numberOf cX10_numberOf 6 (some .int), .code yX10_takesIf cX10_takesIf 3 (some .boolean), .code yX10_sees cX10_sees 3 (some .boolean), .code yX10_readBorder cX10_readBorder 6 (some .boolean), .code yX10_readDraftArea cX10_readDraftArea 1 (some .boolean), .code yX10_readArea cX10_readArea 3 (some .boolean), .code yX10_has cX10_has 2 (some .boolean)]
set_option maxRecDepth 100000 in
theorem wm3 : ∀ w ∈ wk3, w ∈ osX := osX_at [1461, 1466, 1470, 1474, 1478, 1482, 1486, 1492, 1496, 1500, 1503, 1507, 1510, 1514, 1518, 1521, 1525, 1528, 1532, 1536, 1540, 1544, 1548, 1554, 1559, 1564, 1585, 1590, 1593, 1597, 1601, 1737, 1741, 1745, 1749, 1753, 1757, 1761, 1765, 1769, 1772, 1776, 1780, 1784, 1788, 1792, 1796, 1799, 1805, 1809, 1816, 1820, 1824, 1839, 1843, 1847, 1851, 1855, 1859, 1862] rfl (by decide +kernel)
theorem wd1461 : (.code yX5_disbandSurplus cX5_disbandSurplus 4 (some .int) : Cond) ∈ osX := wm3 _ (List.mem_of_getElem? (i := 0) rfl)
theorem wd1466 : (.codeWith yL_undo method_19_code 3 (some .int) [(0, 8, 11, 13)] : Cond) ∈ osX := wm3 _ (List.mem_of_getElem? (i := 1) rfl)
theorem wd1470 : (.code yX9_undo cX9_undo 1 (some .int) : Cond) ∈ osX := wm3 _ (List.mem_of_getElem? (i := 2) rfl)
theorem wd1474 : (.codeWith yL_foresee method_20_code 5 (some .int) [(0, 10, 13, 28), (0, 10, 17, 19), (0, 10, 21, 13)] : Cond) ∈ osX := wm3 _ (List.mem_of_getElem? (i := 3) rfl)
theorem wd1478 : (.code yX9_foresee cX9_foresee 3 (some .int) : Cond) ∈ osX := wm3 _ (List.mem_of_getElem? (i := 4) rfl)
theorem wd1482 : (.codeWith yL_foreseeMove method_21_code 5 (some .int) [(0, 10, 13, 28), (0, 10, 17, 19), (0, 10, 21, 13)] : Cond) ∈ osX := wm3 _ (List.mem_of_getElem? (i := 5) rfl)
theorem wd1486 : (.code yX9_foreseeMove cX9_foreseeMove 3 (some .int) : Cond) ∈ osX := wm3 _ (List.mem_of_getElem? (i := 6) rfl)
theorem wd1492 : (.codeWith yL_reach method_22_code 6 (some .int) [(0, 12, 15, 28)] : Cond) ∈ osX := wm3 _ (List.mem_of_getElem? (i := 7) rfl)
theorem wd1496 : (.code yX9_reach cX9_reach 4 (some .int) : Cond) ∈ osX := wm3 _ (List.mem_of_getElem? (i := 8) rfl)
theorem wd1500 : (.code yX5_countArrivals cX5_countArrivals 7 (some .int) : Cond) ∈ osX := wm3 _ (List.mem_of_getElem? (i := 9) rfl)
theorem wd1503 : (.codeWith yL_isThreatened method_23_code 4 (some .int) [(0, 16, 19, 28)] : Cond) ∈ osX := wm3 _ (List.mem_of_getElem? (i := 10) rfl)
theorem wd1507 : (.code yX9_isThreatened cX9_isThreatened 5 (some .boolean) : Cond) ∈ osX := wm3 _ (List.mem_of_getElem? (i := 11) rfl)
theorem wd1510 : (.codeWith yL_share method_24_code 4 (some .int) [(0, 9, 12, 28)] : Cond) ∈ osX := wm3 _ (List.mem_of_getElem? (i := 12) rfl)
theorem wd1514 : (.code yX9_share cX9_share 2 (some .float) : Cond) ∈ osX := wm3 _ (List.mem_of_getElem? (i := 13) rfl)
theorem wd1518 : (.code yX9_shareOf cX9_shareOf 3 (some .float) : Cond) ∈ osX := wm3 _ (List.mem_of_getElem? (i := 14) rfl)
theorem wd1521 : (.codeWith yL_shareBits method_25_code 4 (some .int) [(0, 9, 12, 28)] : Cond) ∈ osX := wm3 _ (List.mem_of_getElem? (i := 15) rfl)
theorem wd1525 : (.code yX9_shareBits cX9_shareBits 2 (some .int) : Cond) ∈ osX := wm3 _ (List.mem_of_getElem? (i := 16) rfl)
theorem wd1528 : (.code yX9_floatBits cX9_floatBits 4 (some .int) : Cond) ∈ osX := wm3 _ (List.mem_of_getElem? (i := 17) rfl)
theorem wd1532 : (.codeWith yL_leader method_26_code 3 (some .int) [(0, 8, 11, 28)] : Cond) ∈ osX := wm3 _ (List.mem_of_getElem? (i := 18) rfl)
theorem wd1536 : (.code yX9_leader cX9_leader 5 (some .int) : Cond) ∈ osX := wm3 _ (List.mem_of_getElem? (i := 19) rfl)
theorem wd1540 : (.codeWith yL_writeOrders method_27_code 3 (some .int) [(0, 8, 11, 13)] : Cond) ∈ osX := wm3 _ (List.mem_of_getElem? (i := 20) rfl)
theorem wd1544 : (.code yX9_writeOrders cX9_writeOrders 2 (some .int) : Cond) ∈ osX := wm3 _ (List.mem_of_getElem? (i := 21) rfl)
theorem wd1548 : (.code yX9_putOrder cX9_putOrder 4 none : Cond) ∈ osX := wm3 _ (List.mem_of_getElem? (i := 22) rfl)
theorem wd1554 : (.code yX9_putRoute cX9_putRoute 3 none : Cond) ∈ osX := wm3 _ (List.mem_of_getElem? (i := 23) rfl)
theorem wd1559 : (.codeWith yL_outputByte method_28_code 4 (some .int) [(0, 9, 12, 102)] : Cond) ∈ osX := wm3 _ (List.mem_of_getElem? (i := 24) rfl)
theorem wd1564 : (.code yX9_outputByte cX9_outputByte 2 (some .int) : Cond) ∈ osX := wm3 _ (List.mem_of_getElem? (i := 25) rfl)
theorem wd1585 : (.code yX10_init cX10_init 1 none : Cond) ∈ osX := wm3 _ (List.mem_of_getElem? (i := 26) rfl)
theorem wd1590 : (.code yX10_clears cX10_clears 2 none : Cond) ∈ osX := wm3 _ (List.mem_of_getElem? (i := 27) rfl)
theorem wd1593 : (.code yX10_allHold cX10_allHold 2 none : Cond) ∈ osX := wm3 _ (List.mem_of_getElem? (i := 28) rfl)
theorem wd1597 : (.code yX10_settles cX10_settles 2 none : Cond) ∈ osX := wm3 _ (List.mem_of_getElem? (i := 29) rfl)
theorem wd1601 : (.code yX10_takesDraft cX10_takesDraft 2 none : Cond) ∈ osX := wm3 _ (List.mem_of_getElem? (i := 30) rfl)
theorem wd1737 : (.code yX10_thrown cX10_thrown 1 (some .int) : Cond) ∈ osX := wm3 _ (List.mem_of_getElem? (i := 31) rfl)
theorem wd1741 : (.code yX10_feed cX10_feed 6 (some .int) : Cond) ∈ osX := wm3 _ (List.mem_of_getElem? (i := 32) rfl)
theorem wd1745 : (.code yX10_refuse cX10_refuse 2 (some .int) : Cond) ∈ osX := wm3 _ (List.mem_of_getElem? (i := 33) rfl)
theorem wd1749 : (.code yX10_lays cX10_lays 3 none : Cond) ∈ osX := wm3 _ (List.mem_of_getElem? (i := 34) rfl)
theorem wd1753 : (.code yX10_errorCode cX10_errorCode 1 (some .int) : Cond) ∈ osX := wm3 _ (List.mem_of_getElem? (i := 35) rfl)
theorem wd1757 : (.code yX10_told cX10_told 2 (some .int) : Cond) ∈ osX := wm3 _ (List.mem_of_getElem? (i := 36) rfl)
theorem wd1761 : (.code yX10_errorPosition cX10_errorPosition 1 (some .int) : Cond) ∈ osX := wm3 _ (List.mem_of_getElem? (i := 37) rfl)
theorem wd1765 : (.code yX10_load cX10_load 2 (some .int) : Cond) ∈ osX := wm3 _ (List.mem_of_getElem? (i := 38) rfl)
theorem wd1769 : (.code yX10_opens cX10_opens 2 (some .boolean) : Cond) ∈ osX := wm3 _ (List.mem_of_getElem? (i := 39) rfl)
theorem wd1772 : (.code yX10_in cX10_in 3 (some .boolean) : Cond) ∈ osX := wm3 _ (List.mem_of_getElem? (i := 40) rfl)
theorem wd1776 : (.code yX10_readMap cX10_readMap 1 (some .boolean) : Cond) ∈ osX := wm3 _ (List.mem_of_getElem? (i := 41) rfl)
theorem wd1780 : (.code yX10_peek cX10_peek 1 (some .int) : Cond) ∈ osX := wm3 _ (List.mem_of_getElem? (i := 42) rfl)
theorem wd1784 : (.code yX10_byteAt cX10_byteAt 2 (some .int) : Cond) ∈ osX := wm3 _ (List.mem_of_getElem? (i := 43) rfl)
theorem wd1788 : (.code yX10_readStatement cX10_readStatement 1 (some .boolean) : Cond) ∈ osX := wm3 _ (List.mem_of_getElem? (i := 44) rfl)
theorem wd1792 : (.code yX10_readWord cX10_readWord 1 (some .boolean) : Cond) ∈ osX := wm3 _ (List.mem_of_getElem? (i := 45) rfl)
theorem wd1796 : (.code yX10_seesWord cX10_seesWord 1 (some .boolean) : Cond) ∈ osX := wm3 _ (List.mem_of_getElem? (i := 46) rfl)
theorem wd1799 : (.code yX10_isLetter cX10_isLetter 1 (some .boolean) : Cond) ∈ osX := wm3 _ (List.mem_of_getElem? (i := 47) rfl)
theorem wd1805 : (.code yX10_passes cX10_passes 1 (some .boolean) : Cond) ∈ osX := wm3 _ (List.mem_of_getElem? (i := 48) rfl)
theorem wd1809 : (.code yX10_fails cX10_fails 3 (some .boolean) : Cond) ∈ osX := wm3 _ (List.mem_of_getElem? (i := 49) rfl)
theorem wd1816 : (.code yX10_readNewArea cX10_readNewArea 3 (some .boolean) : Cond) ∈ osX := wm3 _ (List.mem_of_getElem? (i := 50) rfl)
theorem wd1820 : (.code yX10_readName cX10_readName 1 (some .boolean) : Cond) ∈ osX := wm3 _ (List.mem_of_getElem? (i := 51) rfl)
theorem wd1824 : (.code yX10_isKeyword cX10_isKeyword 2 (some .boolean) : Cond) ∈ osX := wm3 _ (List.mem_of_getElem? (i := 52) rfl)
theorem wd1839 : (.code yX10_numberOf cX10_numberOf 6 (some .int) : Cond) ∈ osX := wm3 _ (List.mem_of_getElem? (i := 53) rfl)
theorem wd1843 : (.code yX10_takesIf cX10_takesIf 3 (some .boolean) : Cond) ∈ osX := wm3 _ (List.mem_of_getElem? (i := 54) rfl)
theorem wd1847 : (.code yX10_sees cX10_sees 3 (some .boolean) : Cond) ∈ osX := wm3 _ (List.mem_of_getElem? (i := 55) rfl)
theorem wd1851 : (.code yX10_readBorder cX10_readBorder 6 (some .boolean) : Cond) ∈ osX := wm3 _ (List.mem_of_getElem? (i := 56) rfl)
theorem wd1855 : (.code yX10_readDraftArea cX10_readDraftArea 1 (some .boolean) : Cond) ∈ osX := wm3 _ (List.mem_of_getElem? (i := 57) rfl)
theorem wd1859 : (.code yX10_readArea cX10_readArea 3 (some .boolean) : Cond) ∈ osX := wm3 _ (List.mem_of_getElem? (i := 58) rfl)
theorem wd1862 : (.code yX10_has cX10_has 2 (some .boolean) : Cond) ∈ osX := wm3 _ (List.mem_of_getElem? (i := 59) rfl)
def wk4 : List Cond := [.code yX10_joins cX10_joins 4 none, .code yX10_readPower cX10_readPower 2 (some .boolean), .code yX10_readUnit cX10_readUnit 3 (some .boolean), .code yX10_draftUnits cX10_draftUnits 3 (some .int), .code yX10_isUnit cX10_isUnit 2 (some .boolean), .code yX10_readSemicolon cX10_readSemicolon 1 (some .boolean), .code yX10_isRead cX10_isRead 2 (some .boolean), .code yX10_unitsOf cX10_unitsOf 5 (some .int), .code yX10_tell cX10_tell 2 (some .int), .code yX10_laysDraft cX10_laysDraft 2 none, .code yX10_readAll cX10_readAll 1 (some .boolean), .code yX10_readOne cX10_readOne 1 (some .boolean), .code yX10_readOrder cX10_readOrder 2 (some .boolean), .code yX10_readHere cX10_readHere 1 (some .boolean), .code yX10_orders cX10_orders 6 (some .boolean), .code yX10_mayMove cX10_mayMove 3 (some .boolean), .code yX10_isDirect cX10_isDirect 3 (some .boolean), .code yX10_canGo cX10_canGo 4 (some .boolean), .code yX10_passing cX10_passing 3 (some .int), .code yX10_isCoast cX10_isCoast 2 (some .boolean), .code yX10_readSupport cX10_readSupport 4 (some .boolean), .code yX10_maySupportMove cX10_maySupportMove 4 (some .boolean), .code yX10_maySupport cX10_maySupport 3 (some .boolean), .code yX10_readConvoy cX10_readConvoy 3 (some .boolean), .code yX10_takesWord cX10_takesWord 3 (some .boolean), .code yX10_mayConvoy cX10_mayConvoy 5 (some .boolean), .code yX10_readRetreat cX10_readRetreat 2 (some .boolean), .code yX10_mayGoBack cX10_mayGoBack 3 (some .boolean), .code yX10_readBuild cX10_readBuild 1 (some .boolean), .code yX10_readNewUnit cX10_readNewUnit 3 (some .boolean), .code yX10_isFreeHome cX10_isFreeHome 4 (some .boolean), .code yX10_buildsOf cX10_buildsOf 6 (some .int), .code yX10_centersOf cX10_centersOf 5 (some .int), .code yX10_lesser cX10_lesser 2 (some .int), .code yX10_readGone cX10_readGone 1 (some .boolean), .code yX10_areas cX10_areas 1 (some .int), .code yX10_powers cX10_powers 1 (some .int), .code yX10_area cX10_area 3 (some .int), .code yX10_isArea cX10_isArea 2 (some .boolean), .code yX10_isRefused cX10_isRefused 2 (some .boolean), .code yX10_named cX10_named 5 (some .int), .code yX10_passes_ cX10_passes_ 4 (some .boolean), .code yX10_distance cX10_distance 6 (some .int), .code yX10_widened cX10_widened 5 (some .int), .code yX10_power cX10_power 3 (some .int), .code yX10_isPower cX10_isPower 2 (some .boolean), .code yX10_homesOf cX10_homesOf 4 (some .int), .code yX10_phase cX10_phase 1 (some .int), .code yX10_turn cX10_turn 1 (some .int), .code yX10_order cX10_order 3 (some .int), .code yX10_hasUnit cX10_hasUnit 2 (some .boolean), .code yX10_undo cX10_undo 2 (some .int), .code yX10_undoCount cX10_undoCount 1 (some .int), .code yX10_settle cX10_settle 3 (some .int), .code yX10_remembers cX10_remembers 2 none, .code yX10_decides cX10_decides 1 none, .code yX10_laysMoves cX10_laysMoves 4 none, .code yX10_goesThrough cX10_goesThrough 4 none, .code yX10_says cX10_says 3 none, .code yX10_laysDislodged cX10_laysDislodged 4 none]
set_option maxRecDepth 100000 in
theorem wm4 : ∀ w ∈ wk4, w ∈ osX := osX_at [1866, 1870, 1874, 1878, 1881, 1885, 1889, 1893, 1897, 1901, 1905, 1909, 1913, 1917, 1921, 1925, 1929, 1933, 1937, 1941, 1945, 1949, 1953, 1957, 1961, 1965, 1969, 1973, 1977, 1981, 1985, 1989, 1993, 1996, 2000, 2004, 2008, 2012, 2016, 2020, 2024, 2029, 2033, 2037, 2041, 2045, 2049, 2053, 2057, 2061, 2065, 2069, 2073, 2077, 2081, 2085, 2089, 2093, 2097, 2101] rfl (by decide +kernel)
theorem wd1866 : (.code yX10_joins cX10_joins 4 none : Cond) ∈ osX := wm4 _ (List.mem_of_getElem? (i := 0) rfl)
theorem wd1870 : (.code yX10_readPower cX10_readPower 2 (some .boolean) : Cond) ∈ osX := wm4 _ (List.mem_of_getElem? (i := 1) rfl)
theorem wd1874 : (.code yX10_readUnit cX10_readUnit 3 (some .boolean) : Cond) ∈ osX := wm4 _ (List.mem_of_getElem? (i := 2) rfl)
theorem wd1878 : (.code yX10_draftUnits cX10_draftUnits 3 (some .int) : Cond) ∈ osX := wm4 _ (List.mem_of_getElem? (i := 3) rfl)
theorem wd1881 : (.code yX10_isUnit cX10_isUnit 2 (some .boolean) : Cond) ∈ osX := wm4 _ (List.mem_of_getElem? (i := 4) rfl)
theorem wd1885 : (.code yX10_readSemicolon cX10_readSemicolon 1 (some .boolean) : Cond) ∈ osX := wm4 _ (List.mem_of_getElem? (i := 5) rfl)
theorem wd1889 : (.code yX10_isRead cX10_isRead 2 (some .boolean) : Cond) ∈ osX := wm4 _ (List.mem_of_getElem? (i := 6) rfl)
theorem wd1893 : (.code yX10_unitsOf cX10_unitsOf 5 (some .int) : Cond) ∈ osX := wm4 _ (List.mem_of_getElem? (i := 7) rfl)
theorem wd1897 : (.code yX10_tell cX10_tell 2 (some .int) : Cond) ∈ osX := wm4 _ (List.mem_of_getElem? (i := 8) rfl)
theorem wd1901 : (.code yX10_laysDraft cX10_laysDraft 2 none : Cond) ∈ osX := wm4 _ (List.mem_of_getElem? (i := 9) rfl)
theorem wd1905 : (.code yX10_readAll cX10_readAll 1 (some .boolean) : Cond) ∈ osX := wm4 _ (List.mem_of_getElem? (i := 10) rfl)
theorem wd1909 : (.code yX10_readOne cX10_readOne 1 (some .boolean) : Cond) ∈ osX := wm4 _ (List.mem_of_getElem? (i := 11) rfl)
theorem wd1913 : (.code yX10_readOrder cX10_readOrder 2 (some .boolean) : Cond) ∈ osX := wm4 _ (List.mem_of_getElem? (i := 12) rfl)
theorem wd1917 : (.code yX10_readHere cX10_readHere 1 (some .boolean) : Cond) ∈ osX := wm4 _ (List.mem_of_getElem? (i := 13) rfl)
theorem wd1921 : (.code yX10_orders cX10_orders 6 (some .boolean) : Cond) ∈ osX := wm4 _ (List.mem_of_getElem? (i := 14) rfl)
theorem wd1925 : (.code yX10_mayMove cX10_mayMove 3 (some .boolean) : Cond) ∈ osX := wm4 _ (List.mem_of_getElem? (i := 15) rfl)
theorem wd1929 : (.code yX10_isDirect cX10_isDirect 3 (some .boolean) : Cond) ∈ osX := wm4 _ (List.mem_of_getElem? (i := 16) rfl)
theorem wd1933 : (.code yX10_canGo cX10_canGo 4 (some .boolean) : Cond) ∈ osX := wm4 _ (List.mem_of_getElem? (i := 17) rfl)
theorem wd1937 : (.code yX10_passing cX10_passing 3 (some .int) : Cond) ∈ osX := wm4 _ (List.mem_of_getElem? (i := 18) rfl)
theorem wd1941 : (.code yX10_isCoast cX10_isCoast 2 (some .boolean) : Cond) ∈ osX := wm4 _ (List.mem_of_getElem? (i := 19) rfl)
theorem wd1945 : (.code yX10_readSupport cX10_readSupport 4 (some .boolean) : Cond) ∈ osX := wm4 _ (List.mem_of_getElem? (i := 20) rfl)
theorem wd1949 : (.code yX10_maySupportMove cX10_maySupportMove 4 (some .boolean) : Cond) ∈ osX := wm4 _ (List.mem_of_getElem? (i := 21) rfl)
theorem wd1953 : (.code yX10_maySupport cX10_maySupport 3 (some .boolean) : Cond) ∈ osX := wm4 _ (List.mem_of_getElem? (i := 22) rfl)
theorem wd1957 : (.code yX10_readConvoy cX10_readConvoy 3 (some .boolean) : Cond) ∈ osX := wm4 _ (List.mem_of_getElem? (i := 23) rfl)
theorem wd1961 : (.code yX10_takesWord cX10_takesWord 3 (some .boolean) : Cond) ∈ osX := wm4 _ (List.mem_of_getElem? (i := 24) rfl)
theorem wd1965 : (.code yX10_mayConvoy cX10_mayConvoy 5 (some .boolean) : Cond) ∈ osX := wm4 _ (List.mem_of_getElem? (i := 25) rfl)
theorem wd1969 : (.code yX10_readRetreat cX10_readRetreat 2 (some .boolean) : Cond) ∈ osX := wm4 _ (List.mem_of_getElem? (i := 26) rfl)
theorem wd1973 : (.code yX10_mayGoBack cX10_mayGoBack 3 (some .boolean) : Cond) ∈ osX := wm4 _ (List.mem_of_getElem? (i := 27) rfl)
theorem wd1977 : (.code yX10_readBuild cX10_readBuild 1 (some .boolean) : Cond) ∈ osX := wm4 _ (List.mem_of_getElem? (i := 28) rfl)
theorem wd1981 : (.code yX10_readNewUnit cX10_readNewUnit 3 (some .boolean) : Cond) ∈ osX := wm4 _ (List.mem_of_getElem? (i := 29) rfl)
theorem wd1985 : (.code yX10_isFreeHome cX10_isFreeHome 4 (some .boolean) : Cond) ∈ osX := wm4 _ (List.mem_of_getElem? (i := 30) rfl)
theorem wd1989 : (.code yX10_buildsOf cX10_buildsOf 6 (some .int) : Cond) ∈ osX := wm4 _ (List.mem_of_getElem? (i := 31) rfl)
theorem wd1993 : (.code yX10_centersOf cX10_centersOf 5 (some .int) : Cond) ∈ osX := wm4 _ (List.mem_of_getElem? (i := 32) rfl)
theorem wd1996 : (.code yX10_lesser cX10_lesser 2 (some .int) : Cond) ∈ osX := wm4 _ (List.mem_of_getElem? (i := 33) rfl)
theorem wd2000 : (.code yX10_readGone cX10_readGone 1 (some .boolean) : Cond) ∈ osX := wm4 _ (List.mem_of_getElem? (i := 34) rfl)
theorem wd2004 : (.code yX10_areas cX10_areas 1 (some .int) : Cond) ∈ osX := wm4 _ (List.mem_of_getElem? (i := 35) rfl)
theorem wd2008 : (.code yX10_powers cX10_powers 1 (some .int) : Cond) ∈ osX := wm4 _ (List.mem_of_getElem? (i := 36) rfl)
theorem wd2012 : (.code yX10_area cX10_area 3 (some .int) : Cond) ∈ osX := wm4 _ (List.mem_of_getElem? (i := 37) rfl)
theorem wd2016 : (.code yX10_isArea cX10_isArea 2 (some .boolean) : Cond) ∈ osX := wm4 _ (List.mem_of_getElem? (i := 38) rfl)
theorem wd2020 : (.code yX10_isRefused cX10_isRefused 2 (some .boolean) : Cond) ∈ osX := wm4 _ (List.mem_of_getElem? (i := 39) rfl)
theorem wd2024 : (.code yX10_named cX10_named 5 (some .int) : Cond) ∈ osX := wm4 _ (List.mem_of_getElem? (i := 40) rfl)
theorem wd2029 : (.code yX10_passes_ cX10_passes_ 4 (some .boolean) : Cond) ∈ osX := wm4 _ (List.mem_of_getElem? (i := 41) rfl)
theorem wd2033 : (.code yX10_distance cX10_distance 6 (some .int) : Cond) ∈ osX := wm4 _ (List.mem_of_getElem? (i := 42) rfl)
theorem wd2037 : (.code yX10_widened cX10_widened 5 (some .int) : Cond) ∈ osX := wm4 _ (List.mem_of_getElem? (i := 43) rfl)
theorem wd2041 : (.code yX10_power cX10_power 3 (some .int) : Cond) ∈ osX := wm4 _ (List.mem_of_getElem? (i := 44) rfl)
theorem wd2045 : (.code yX10_isPower cX10_isPower 2 (some .boolean) : Cond) ∈ osX := wm4 _ (List.mem_of_getElem? (i := 45) rfl)
theorem wd2049 : (.code yX10_homesOf cX10_homesOf 4 (some .int) : Cond) ∈ osX := wm4 _ (List.mem_of_getElem? (i := 46) rfl)
theorem wd2053 : (.code yX10_phase cX10_phase 1 (some .int) : Cond) ∈ osX := wm4 _ (List.mem_of_getElem? (i := 47) rfl)
theorem wd2057 : (.code yX10_turn cX10_turn 1 (some .int) : Cond) ∈ osX := wm4 _ (List.mem_of_getElem? (i := 48) rfl)
theorem wd2061 : (.code yX10_order cX10_order 3 (some .int) : Cond) ∈ osX := wm4 _ (List.mem_of_getElem? (i := 49) rfl)
theorem wd2065 : (.code yX10_hasUnit cX10_hasUnit 2 (some .boolean) : Cond) ∈ osX := wm4 _ (List.mem_of_getElem? (i := 50) rfl)
theorem wd2069 : (.code yX10_undo cX10_undo 2 (some .int) : Cond) ∈ osX := wm4 _ (List.mem_of_getElem? (i := 51) rfl)
theorem wd2073 : (.code yX10_undoCount cX10_undoCount 1 (some .int) : Cond) ∈ osX := wm4 _ (List.mem_of_getElem? (i := 52) rfl)
theorem wd2077 : (.code yX10_settle cX10_settle 3 (some .int) : Cond) ∈ osX := wm4 _ (List.mem_of_getElem? (i := 53) rfl)
theorem wd2081 : (.code yX10_remembers cX10_remembers 2 none : Cond) ∈ osX := wm4 _ (List.mem_of_getElem? (i := 54) rfl)
theorem wd2085 : (.code yX10_decides cX10_decides 1 none : Cond) ∈ osX := wm4 _ (List.mem_of_getElem? (i := 55) rfl)
theorem wd2089 : (.code yX10_laysMoves cX10_laysMoves 4 none : Cond) ∈ osX := wm4 _ (List.mem_of_getElem? (i := 56) rfl)
theorem wd2093 : (.code yX10_goesThrough cX10_goesThrough 4 none : Cond) ∈ osX := wm4 _ (List.mem_of_getElem? (i := 57) rfl)
theorem wd2097 : (.code yX10_says cX10_says 3 none : Cond) ∈ osX := wm4 _ (List.mem_of_getElem? (i := 58) rfl)
theorem wd2101 : (.code yX10_laysDislodged cX10_laysDislodged 4 none : Cond) ∈ osX := wm4 _ (List.mem_of_getElem? (i := 59) rfl)
def wk5 : List Cond := [.code yX10_goals cX10_goals 3 (some .int), .code yX10_succeeds cX10_succeeds 2 (some .boolean), .code yX10_laysPaths cX10_laysPaths 3 none, .code yX10_isConvoyed cX10_isConvoyed 6 (some .boolean), .code yX10_laysGiven cX10_laysGiven 3 none, .code yX10_belongs cX10_belongs 3 (some .boolean), .code yX10_isCut cX10_isCut 4 (some .boolean), .code yX10_supports cX10_supports 5 (some .int), .code yX10_attackOf cX10_attackOf 5 (some .int), .code yX10_holdOf cX10_holdOf 2 (some .int), .code yX10_isConsistent cX10_isConsistent 2 (some .boolean), .code yX10_should cX10_should 3 (some .boolean), .code yX10_isStronger cX10_isStronger 2 (some .boolean), .code yX10_ones cX10_ones 3 (some .int), .code yX10_said cX10_said 6 (some .int), .code yX10_reasonOf cX10_reasonOf 2 (some .int), .code yX10_leads cX10_leads 2 none, .code yX10_contestedNow cX10_contestedNow 4 (some .int), .code yX10_endsTurn cX10_endsTurn 3 none, .code yX10_goesOn cX10_goesOn 1 none, .code yX10_result cX10_result 3 (some .int), .code yX10_outcomes cX10_outcomes 1 (some .int), .code yX10_isContested cX10_isContested 2 (some .boolean), .code yX10_mayRetreat cX10_mayRetreat 4 (some .boolean), .code yX10_endRetreats cX10_endRetreats 4 (some .int), .code yX10_isAlone cX10_isAlone 3 (some .boolean), .code yX10_endBuilds cX10_endBuilds 3 (some .int), .code yX10_foresee cX10_foresee 3 (some .int), .code yX10_foreseeMove cX10_foreseeMove 6 (some .int), .code yX10_reach cX10_reach 4 (some .int), .code yX10_reaching cX10_reaching 7 (some .int), .code yX10_isThreatened cX10_isThreatened 3 (some .boolean), .code yX10_share cX10_share 2 (some .float), .code yX10_shareOf cX10_shareOf 3 (some .float), .code yX10_allCenters cX10_allCenters 3 (some .int), .code yX10_shareBits cX10_shareBits 4 (some .int), .code yX10_unevenness cX10_unevenness 1 (some .double), .code yX10_unevenNow cX10_unevenNow 7 (some .double), .code yX10_unevennessBits cX10_unevennessBits 5 (some .long), .code yX10_leader cX10_leader 3 (some .int), .code yX10_isAhead cX10_isAhead 4 (some .boolean), .code yX10_writeUnits cX10_writeUnits 2 (some .int), .code yX10_writesWord cX10_writesWord 5 none, .code yX10_writes cX10_writes 2 none, .code yX10_writesNext cX10_writesNext 3 none, .code yX10_writeOrders cX10_writeOrders 2 (some .int), .code yX10_writesOrder cX10_writesOrder 3 none, .code yX10_outputByte cX10_outputByte 2 (some .int)]
set_option maxRecDepth 100000 in
theorem wm5 : ∀ w ∈ wk5, w ∈ osX := osX_at [2105, 2109, 2113, 2117, 2121, 2125, 2129, 2133, 2137, 2141, 2145, 2149, 2153, 2156, 2160, 2164, 2168, 2172, 2176, 2180, 2184, 2188, 2192, 2196, 2200, 2204, 2208, 2212, 2216, 2220, 2224, 2228, 2232, 2236, 2240, 2244, 2249, 2253, 2257, 2264, 2268, 2272, 2276, 2281, 2285, 2289, 2293, 2297] rfl (by decide +kernel)
theorem wd2105 : (.code yX10_goals cX10_goals 3 (some .int) : Cond) ∈ osX := wm5 _ (List.mem_of_getElem? (i := 0) rfl)
theorem wd2109 : (.code yX10_succeeds cX10_succeeds 2 (some .boolean) : Cond) ∈ osX := wm5 _ (List.mem_of_getElem? (i := 1) rfl)
theorem wd2113 : (.code yX10_laysPaths cX10_laysPaths 3 none : Cond) ∈ osX := wm5 _ (List.mem_of_getElem? (i := 2) rfl)
theorem wd2117 : (.code yX10_isConvoyed cX10_isConvoyed 6 (some .boolean) : Cond) ∈ osX := wm5 _ (List.mem_of_getElem? (i := 3) rfl)
theorem wd2121 : (.code yX10_laysGiven cX10_laysGiven 3 none : Cond) ∈ osX := wm5 _ (List.mem_of_getElem? (i := 4) rfl)
theorem wd2125 : (.code yX10_belongs cX10_belongs 3 (some .boolean) : Cond) ∈ osX := wm5 _ (List.mem_of_getElem? (i := 5) rfl)
theorem wd2129 : (.code yX10_isCut cX10_isCut 4 (some .boolean) : Cond) ∈ osX := wm5 _ (List.mem_of_getElem? (i := 6) rfl)
theorem wd2133 : (.code yX10_supports cX10_supports 5 (some .int) : Cond) ∈ osX := wm5 _ (List.mem_of_getElem? (i := 7) rfl)
theorem wd2137 : (.code yX10_attackOf cX10_attackOf 5 (some .int) : Cond) ∈ osX := wm5 _ (List.mem_of_getElem? (i := 8) rfl)
theorem wd2141 : (.code yX10_holdOf cX10_holdOf 2 (some .int) : Cond) ∈ osX := wm5 _ (List.mem_of_getElem? (i := 9) rfl)
theorem wd2145 : (.code yX10_isConsistent cX10_isConsistent 2 (some .boolean) : Cond) ∈ osX := wm5 _ (List.mem_of_getElem? (i := 10) rfl)
theorem wd2149 : (.code yX10_should cX10_should 3 (some .boolean) : Cond) ∈ osX := wm5 _ (List.mem_of_getElem? (i := 11) rfl)
theorem wd2153 : (.code yX10_isStronger cX10_isStronger 2 (some .boolean) : Cond) ∈ osX := wm5 _ (List.mem_of_getElem? (i := 12) rfl)
theorem wd2156 : (.code yX10_ones cX10_ones 3 (some .int) : Cond) ∈ osX := wm5 _ (List.mem_of_getElem? (i := 13) rfl)
theorem wd2160 : (.code yX10_said cX10_said 6 (some .int) : Cond) ∈ osX := wm5 _ (List.mem_of_getElem? (i := 14) rfl)
theorem wd2164 : (.code yX10_reasonOf cX10_reasonOf 2 (some .int) : Cond) ∈ osX := wm5 _ (List.mem_of_getElem? (i := 15) rfl)
theorem wd2168 : (.code yX10_leads cX10_leads 2 none : Cond) ∈ osX := wm5 _ (List.mem_of_getElem? (i := 16) rfl)
theorem wd2172 : (.code yX10_contestedNow cX10_contestedNow 4 (some .int) : Cond) ∈ osX := wm5 _ (List.mem_of_getElem? (i := 17) rfl)
theorem wd2176 : (.code yX10_endsTurn cX10_endsTurn 3 none : Cond) ∈ osX := wm5 _ (List.mem_of_getElem? (i := 18) rfl)
theorem wd2180 : (.code yX10_goesOn cX10_goesOn 1 none : Cond) ∈ osX := wm5 _ (List.mem_of_getElem? (i := 19) rfl)
theorem wd2184 : (.code yX10_result cX10_result 3 (some .int) : Cond) ∈ osX := wm5 _ (List.mem_of_getElem? (i := 20) rfl)
theorem wd2188 : (.code yX10_outcomes cX10_outcomes 1 (some .int) : Cond) ∈ osX := wm5 _ (List.mem_of_getElem? (i := 21) rfl)
theorem wd2192 : (.code yX10_isContested cX10_isContested 2 (some .boolean) : Cond) ∈ osX := wm5 _ (List.mem_of_getElem? (i := 22) rfl)
theorem wd2196 : (.code yX10_mayRetreat cX10_mayRetreat 4 (some .boolean) : Cond) ∈ osX := wm5 _ (List.mem_of_getElem? (i := 23) rfl)
theorem wd2200 : (.code yX10_endRetreats cX10_endRetreats 4 (some .int) : Cond) ∈ osX := wm5 _ (List.mem_of_getElem? (i := 24) rfl)
theorem wd2204 : (.code yX10_isAlone cX10_isAlone 3 (some .boolean) : Cond) ∈ osX := wm5 _ (List.mem_of_getElem? (i := 25) rfl)
theorem wd2208 : (.code yX10_endBuilds cX10_endBuilds 3 (some .int) : Cond) ∈ osX := wm5 _ (List.mem_of_getElem? (i := 26) rfl)
theorem wd2212 : (.code yX10_foresee cX10_foresee 3 (some .int) : Cond) ∈ osX := wm5 _ (List.mem_of_getElem? (i := 27) rfl)
theorem wd2216 : (.code yX10_foreseeMove cX10_foreseeMove 6 (some .int) : Cond) ∈ osX := wm5 _ (List.mem_of_getElem? (i := 28) rfl)
theorem wd2220 : (.code yX10_reach cX10_reach 4 (some .int) : Cond) ∈ osX := wm5 _ (List.mem_of_getElem? (i := 29) rfl)
theorem wd2224 : (.code yX10_reaching cX10_reaching 7 (some .int) : Cond) ∈ osX := wm5 _ (List.mem_of_getElem? (i := 30) rfl)
theorem wd2228 : (.code yX10_isThreatened cX10_isThreatened 3 (some .boolean) : Cond) ∈ osX := wm5 _ (List.mem_of_getElem? (i := 31) rfl)
theorem wd2232 : (.code yX10_share cX10_share 2 (some .float) : Cond) ∈ osX := wm5 _ (List.mem_of_getElem? (i := 32) rfl)
theorem wd2236 : (.code yX10_shareOf cX10_shareOf 3 (some .float) : Cond) ∈ osX := wm5 _ (List.mem_of_getElem? (i := 33) rfl)
theorem wd2240 : (.code yX10_allCenters cX10_allCenters 3 (some .int) : Cond) ∈ osX := wm5 _ (List.mem_of_getElem? (i := 34) rfl)
theorem wd2244 : (.code yX10_shareBits cX10_shareBits 4 (some .int) : Cond) ∈ osX := wm5 _ (List.mem_of_getElem? (i := 35) rfl)
theorem wd2249 : (.code yX10_unevenness cX10_unevenness 1 (some .double) : Cond) ∈ osX := wm5 _ (List.mem_of_getElem? (i := 36) rfl)
theorem wd2253 : (.code yX10_unevenNow cX10_unevenNow 7 (some .double) : Cond) ∈ osX := wm5 _ (List.mem_of_getElem? (i := 37) rfl)
theorem wd2257 : (.code yX10_unevennessBits cX10_unevennessBits 5 (some .long) : Cond) ∈ osX := wm5 _ (List.mem_of_getElem? (i := 38) rfl)
theorem wd2264 : (.code yX10_leader cX10_leader 3 (some .int) : Cond) ∈ osX := wm5 _ (List.mem_of_getElem? (i := 39) rfl)
theorem wd2268 : (.code yX10_isAhead cX10_isAhead 4 (some .boolean) : Cond) ∈ osX := wm5 _ (List.mem_of_getElem? (i := 40) rfl)
theorem wd2272 : (.code yX10_writeUnits cX10_writeUnits 2 (some .int) : Cond) ∈ osX := wm5 _ (List.mem_of_getElem? (i := 41) rfl)
theorem wd2276 : (.code yX10_writesWord cX10_writesWord 5 none : Cond) ∈ osX := wm5 _ (List.mem_of_getElem? (i := 42) rfl)
theorem wd2281 : (.code yX10_writes cX10_writes 2 none : Cond) ∈ osX := wm5 _ (List.mem_of_getElem? (i := 43) rfl)
theorem wd2285 : (.code yX10_writesNext cX10_writesNext 3 none : Cond) ∈ osX := wm5 _ (List.mem_of_getElem? (i := 44) rfl)
theorem wd2289 : (.code yX10_writeOrders cX10_writeOrders 2 (some .int) : Cond) ∈ osX := wm5 _ (List.mem_of_getElem? (i := 45) rfl)
theorem wd2293 : (.code yX10_writesOrder cX10_writesOrder 3 none : Cond) ∈ osX := wm5 _ (List.mem_of_getElem? (i := 46) rfl)
theorem wd2297 : (.code yX10_outputByte cX10_outputByte 2 (some .int) : Cond) ∈ osX := wm5 _ (List.mem_of_getElem? (i := 47) rfl)
def ww0 : List Cond := [.selects RX3 yX6_advance yX6_advance, .selects RX7 yX6_advance yX6_advance, .selects RX5 yX5_clearUnits yX5_clearUnits, .selects RX5 yX5_clearDislodged yX5_clearDislodged, .selects RX5 yX5_holdAll yX5_holdAll, .selects RX9 yX9_sumOfSquares yX9_sumOfSquares, .selects RX9 yX9_append yX9_append, .selects RX9 yX9_requireLength yX9_requireLength, .selects RX3 yX3_readStatement yX3_readStatement, .selects RX3 yX3_readArea yX3_readArea, .selects RX3 yX3_readBorder yX3_readBorder, .selects RX3 yX3_readPower yX3_readPower, .selects RX3 yX3_readHome yX3_readHome, .selects RX3 yX3_readUnit yX3_readUnit, .selects RX9 yX9_noteError yX9_noteError, .selects RX9 yX9_adoptDraft yX9_adoptDraft, .selects RX7 yX7_readOne yX7_readOne, .selects RX7 yX7_readOrder yX7_readOrder, .selects RX7 yX7_readMove yX7_readMove, .selects RX5 yX5_hasArmy yX5_hasArmy, .selects RX7 yX7_readSupport yX7_readSupport, .selects RX7 yX7_readConvoy yX7_readConvoy, .selects RX7 yX7_readRetreat yX7_readRetreat, .selects RX7 yX7_readBuild yX7_readBuild, .selects RX5 yX5_freeHomes yX5_freeHomes, .selects RX7 yX7_readRemoval yX7_readRemoval, .selects RX9 yX9_requireArea yX9_requireArea, .selects RX9 yX9_requireReport yX9_requireReport, .selects RX9 yX9_packedInput yX9_packedInput, .selects RX9 yX9_requirePower yX9_requirePower, .selects RX9 yX9_requireUnit yX9_requireUnit, .selects RX9 yX9_requirePhase yX9_requirePhase, .selects RX9 yX9_remember yX9_remember, .selects RX2 yX2_clear yX2_clear, .selects RX2 yX2_noteMove yX2_noteMove, .selects RX2 yX2_linkSupport yX2_linkSupport, .selects RX2 yX2_linkConvoy yX2_linkConvoy, .selects RX2 yX2_linkMove yX2_linkMove, .selects RX1 yX1_search yX1_search, .selects RX1 yX1_weigh yX1_weigh, .selects RX1 yX1_isCarried yX1_isCarried, .selects RX1 yX1_isConsistent yX1_isConsistent, .selects RX1 yX1_shouldSucceed yX1_shouldSucceed, .selects RX1 yX1_attackOf yX1_attackOf, .selects RX1 yX1_resistanceTo yX1_resistanceTo, .selects RX1 yX1_preventionOf yX1_preventionOf, .selects RX1 yX1_strengthOf yX1_strengthOf, .selects RX1 yX1_summaryOf yX1_summaryOf, .selects RX1 yX1_reasonFor yX1_reasonFor, .selects RX9 yX9_requireSettled yX9_requireSettled, .selects RX9 yX9_shareOf yX9_shareOf, .selects RX9 yX9_putOrder yX9_putOrder, .selects RX9 yX9_putRoute yX9_putRoute, .selects RX10 yX10_clears yX10_clears, .selects RX10 yX10_settles yX10_settles, .selects RX10 yX10_takesDraft yX10_takesDraft, .selects RX10 yX10_refuse yX10_refuse, .selects RX10 yX10_lays yX10_lays, .selects RX10 yX10_told yX10_told, .selects RX10 yX10_opens yX10_opens]
theorem wv0 : ∀ w ∈ ww0, w ∈ osX := osX_at [0, 1, 2, 3, 4, 5, 7, 8, 9, 10, 11, 12, 13, 14, 15, 16, 17, 18, 19, 20, 21, 22, 23, 24, 25, 26, 27, 28, 29, 30, 31, 32, 33, 34, 35, 36, 37, 38, 39, 40, 41, 42, 43, 44, 45, 46, 47, 48, 49, 50, 51, 52, 53, 54, 55, 56, 57, 58, 59, 60] (by decide +kernel) (by decide +kernel)
theorem wd0 : (.selects RX3 yX6_advance yX6_advance : Cond) ∈ osX := wv0 _ (List.mem_of_getElem? (i := 0) rfl)
theorem wd1 : (.selects RX7 yX6_advance yX6_advance : Cond) ∈ osX := wv0 _ (List.mem_of_getElem? (i := 1) rfl)
theorem wd2 : (.selects RX5 yX5_clearUnits yX5_clearUnits : Cond) ∈ osX := wv0 _ (List.mem_of_getElem? (i := 2) rfl)
theorem wd3 : (.selects RX5 yX5_clearDislodged yX5_clearDislodged : Cond) ∈ osX := wv0 _ (List.mem_of_getElem? (i := 3) rfl)
theorem wd4 : (.selects RX5 yX5_holdAll yX5_holdAll : Cond) ∈ osX := wv0 _ (List.mem_of_getElem? (i := 4) rfl)
theorem wd5 : (.selects RX9 yX9_sumOfSquares yX9_sumOfSquares : Cond) ∈ osX := wv0 _ (List.mem_of_getElem? (i := 5) rfl)
theorem wd7 : (.selects RX9 yX9_append yX9_append : Cond) ∈ osX := wv0 _ (List.mem_of_getElem? (i := 6) rfl)
theorem wd8 : (.selects RX9 yX9_requireLength yX9_requireLength : Cond) ∈ osX := wv0 _ (List.mem_of_getElem? (i := 7) rfl)
theorem wd9 : (.selects RX3 yX3_readStatement yX3_readStatement : Cond) ∈ osX := wv0 _ (List.mem_of_getElem? (i := 8) rfl)
theorem wd10 : (.selects RX3 yX3_readArea yX3_readArea : Cond) ∈ osX := wv0 _ (List.mem_of_getElem? (i := 9) rfl)
theorem wd11 : (.selects RX3 yX3_readBorder yX3_readBorder : Cond) ∈ osX := wv0 _ (List.mem_of_getElem? (i := 10) rfl)
theorem wd12 : (.selects RX3 yX3_readPower yX3_readPower : Cond) ∈ osX := wv0 _ (List.mem_of_getElem? (i := 11) rfl)
theorem wd13 : (.selects RX3 yX3_readHome yX3_readHome : Cond) ∈ osX := wv0 _ (List.mem_of_getElem? (i := 12) rfl)
theorem wd14 : (.selects RX3 yX3_readUnit yX3_readUnit : Cond) ∈ osX := wv0 _ (List.mem_of_getElem? (i := 13) rfl)
theorem wd15 : (.selects RX9 yX9_noteError yX9_noteError : Cond) ∈ osX := wv0 _ (List.mem_of_getElem? (i := 14) rfl)
theorem wd16 : (.selects RX9 yX9_adoptDraft yX9_adoptDraft : Cond) ∈ osX := wv0 _ (List.mem_of_getElem? (i := 15) rfl)
theorem wd17 : (.selects RX7 yX7_readOne yX7_readOne : Cond) ∈ osX := wv0 _ (List.mem_of_getElem? (i := 16) rfl)
theorem wd18 : (.selects RX7 yX7_readOrder yX7_readOrder : Cond) ∈ osX := wv0 _ (List.mem_of_getElem? (i := 17) rfl)
theorem wd19 : (.selects RX7 yX7_readMove yX7_readMove : Cond) ∈ osX := wv0 _ (List.mem_of_getElem? (i := 18) rfl)
theorem wd20 : (.selects RX5 yX5_hasArmy yX5_hasArmy : Cond) ∈ osX := wv0 _ (List.mem_of_getElem? (i := 19) rfl)
theorem wd21 : (.selects RX7 yX7_readSupport yX7_readSupport : Cond) ∈ osX := wv0 _ (List.mem_of_getElem? (i := 20) rfl)
theorem wd22 : (.selects RX7 yX7_readConvoy yX7_readConvoy : Cond) ∈ osX := wv0 _ (List.mem_of_getElem? (i := 21) rfl)
theorem wd23 : (.selects RX7 yX7_readRetreat yX7_readRetreat : Cond) ∈ osX := wv0 _ (List.mem_of_getElem? (i := 22) rfl)
theorem wd24 : (.selects RX7 yX7_readBuild yX7_readBuild : Cond) ∈ osX := wv0 _ (List.mem_of_getElem? (i := 23) rfl)
theorem wd25 : (.selects RX5 yX5_freeHomes yX5_freeHomes : Cond) ∈ osX := wv0 _ (List.mem_of_getElem? (i := 24) rfl)
theorem wd26 : (.selects RX7 yX7_readRemoval yX7_readRemoval : Cond) ∈ osX := wv0 _ (List.mem_of_getElem? (i := 25) rfl)
theorem wd27 : (.selects RX9 yX9_requireArea yX9_requireArea : Cond) ∈ osX := wv0 _ (List.mem_of_getElem? (i := 26) rfl)
theorem wd28 : (.selects RX9 yX9_requireReport yX9_requireReport : Cond) ∈ osX := wv0 _ (List.mem_of_getElem? (i := 27) rfl)
theorem wd29 : (.selects RX9 yX9_packedInput yX9_packedInput : Cond) ∈ osX := wv0 _ (List.mem_of_getElem? (i := 28) rfl)
theorem wd30 : (.selects RX9 yX9_requirePower yX9_requirePower : Cond) ∈ osX := wv0 _ (List.mem_of_getElem? (i := 29) rfl)
theorem wd31 : (.selects RX9 yX9_requireUnit yX9_requireUnit : Cond) ∈ osX := wv0 _ (List.mem_of_getElem? (i := 30) rfl)
theorem wd32 : (.selects RX9 yX9_requirePhase yX9_requirePhase : Cond) ∈ osX := wv0 _ (List.mem_of_getElem? (i := 31) rfl)
theorem wd33 : (.selects RX9 yX9_remember yX9_remember : Cond) ∈ osX := wv0 _ (List.mem_of_getElem? (i := 32) rfl)
theorem wd34 : (.selects RX2 yX2_clear yX2_clear : Cond) ∈ osX := wv0 _ (List.mem_of_getElem? (i := 33) rfl)
theorem wd35 : (.selects RX2 yX2_noteMove yX2_noteMove : Cond) ∈ osX := wv0 _ (List.mem_of_getElem? (i := 34) rfl)
theorem wd36 : (.selects RX2 yX2_linkSupport yX2_linkSupport : Cond) ∈ osX := wv0 _ (List.mem_of_getElem? (i := 35) rfl)
theorem wd37 : (.selects RX2 yX2_linkConvoy yX2_linkConvoy : Cond) ∈ osX := wv0 _ (List.mem_of_getElem? (i := 36) rfl)
theorem wd38 : (.selects RX2 yX2_linkMove yX2_linkMove : Cond) ∈ osX := wv0 _ (List.mem_of_getElem? (i := 37) rfl)
theorem wd39 : (.selects RX1 yX1_search yX1_search : Cond) ∈ osX := wv0 _ (List.mem_of_getElem? (i := 38) rfl)
theorem wd40 : (.selects RX1 yX1_weigh yX1_weigh : Cond) ∈ osX := wv0 _ (List.mem_of_getElem? (i := 39) rfl)
theorem wd41 : (.selects RX1 yX1_isCarried yX1_isCarried : Cond) ∈ osX := wv0 _ (List.mem_of_getElem? (i := 40) rfl)
theorem wd42 : (.selects RX1 yX1_isConsistent yX1_isConsistent : Cond) ∈ osX := wv0 _ (List.mem_of_getElem? (i := 41) rfl)
theorem wd43 : (.selects RX1 yX1_shouldSucceed yX1_shouldSucceed : Cond) ∈ osX := wv0 _ (List.mem_of_getElem? (i := 42) rfl)
theorem wd44 : (.selects RX1 yX1_attackOf yX1_attackOf : Cond) ∈ osX := wv0 _ (List.mem_of_getElem? (i := 43) rfl)
theorem wd45 : (.selects RX1 yX1_resistanceTo yX1_resistanceTo : Cond) ∈ osX := wv0 _ (List.mem_of_getElem? (i := 44) rfl)
theorem wd46 : (.selects RX1 yX1_preventionOf yX1_preventionOf : Cond) ∈ osX := wv0 _ (List.mem_of_getElem? (i := 45) rfl)
theorem wd47 : (.selects RX1 yX1_strengthOf yX1_strengthOf : Cond) ∈ osX := wv0 _ (List.mem_of_getElem? (i := 46) rfl)
theorem wd48 : (.selects RX1 yX1_summaryOf yX1_summaryOf : Cond) ∈ osX := wv0 _ (List.mem_of_getElem? (i := 47) rfl)
theorem wd49 : (.selects RX1 yX1_reasonFor yX1_reasonFor : Cond) ∈ osX := wv0 _ (List.mem_of_getElem? (i := 48) rfl)
theorem wd50 : (.selects RX9 yX9_requireSettled yX9_requireSettled : Cond) ∈ osX := wv0 _ (List.mem_of_getElem? (i := 49) rfl)
theorem wd51 : (.selects RX9 yX9_shareOf yX9_shareOf : Cond) ∈ osX := wv0 _ (List.mem_of_getElem? (i := 50) rfl)
theorem wd52 : (.selects RX9 yX9_putOrder yX9_putOrder : Cond) ∈ osX := wv0 _ (List.mem_of_getElem? (i := 51) rfl)
theorem wd53 : (.selects RX9 yX9_putRoute yX9_putRoute : Cond) ∈ osX := wv0 _ (List.mem_of_getElem? (i := 52) rfl)
theorem wd54 : (.selects RX10 yX10_clears yX10_clears : Cond) ∈ osX := wv0 _ (List.mem_of_getElem? (i := 53) rfl)
theorem wd55 : (.selects RX10 yX10_settles yX10_settles : Cond) ∈ osX := wv0 _ (List.mem_of_getElem? (i := 54) rfl)
theorem wd56 : (.selects RX10 yX10_takesDraft yX10_takesDraft : Cond) ∈ osX := wv0 _ (List.mem_of_getElem? (i := 55) rfl)
theorem wd57 : (.selects RX10 yX10_refuse yX10_refuse : Cond) ∈ osX := wv0 _ (List.mem_of_getElem? (i := 56) rfl)
theorem wd58 : (.selects RX10 yX10_lays yX10_lays : Cond) ∈ osX := wv0 _ (List.mem_of_getElem? (i := 57) rfl)
theorem wd59 : (.selects RX10 yX10_told yX10_told : Cond) ∈ osX := wv0 _ (List.mem_of_getElem? (i := 58) rfl)
theorem wd60 : (.selects RX10 yX10_opens yX10_opens : Cond) ∈ osX := wv0 _ (List.mem_of_getElem? (i := 59) rfl)
def ww1 : List Cond := [.selects RX10 yX10_readMap yX10_readMap, .selects RX10 yX10_peek yX10_peek, .selects RX10 yX10_byteAt yX10_byteAt, .selects RX10 yX10_readStatement yX10_readStatement, .selects RX10 yX10_readWord yX10_readWord, .selects RX10 yX10_seesWord yX10_seesWord, .selects RX10 yX10_passes yX10_passes, .selects RX10 yX10_fails yX10_fails, .selects RX10 yX10_readNewArea yX10_readNewArea, .selects RX10 yX10_readName yX10_readName, .selects RX10 yX10_isKeyword yX10_isKeyword, .selects RX10 yX10_takesIf yX10_takesIf, .selects RX10 yX10_sees yX10_sees, .selects RX10 yX10_readBorder yX10_readBorder, .selects RX10 yX10_readDraftArea yX10_readDraftArea, .selects RX10 yX10_readArea yX10_readArea, .selects RX10 yX10_joins yX10_joins, .selects RX10 yX10_readPower yX10_readPower, .selects RX10 yX10_readUnit yX10_readUnit, .selects RX10 yX10_draftUnits yX10_draftUnits, .selects RX10 yX10_readSemicolon yX10_readSemicolon, .selects RX10 yX10_isRead yX10_isRead, .selects RX10 yX10_unitsOf yX10_unitsOf, .selects RX10 yX10_laysDraft yX10_laysDraft, .selects RX10 yX10_readAll yX10_readAll, .selects RX10 yX10_readOne yX10_readOne, .selects RX10 yX10_readOrder yX10_readOrder, .selects RX10 yX10_readHere yX10_readHere, .selects RX10 yX10_orders yX10_orders, .selects RX10 yX10_mayMove yX10_mayMove, .selects RX10 yX10_isDirect yX10_isDirect, .selects RX10 yX10_canGo yX10_canGo, .selects RX10 yX10_passing yX10_passing, .selects RX10 yX10_isCoast yX10_isCoast, .selects RX10 yX10_readSupport yX10_readSupport, .selects RX10 yX10_maySupportMove yX10_maySupportMove, .selects RX10 yX10_maySupport yX10_maySupport, .selects RX10 yX10_readConvoy yX10_readConvoy, .selects RX10 yX10_takesWord yX10_takesWord, .selects RX10 yX10_mayConvoy yX10_mayConvoy, .selects RX10 yX10_readRetreat yX10_readRetreat, .selects RX10 yX10_mayGoBack yX10_mayGoBack, .selects RX10 yX10_readBuild yX10_readBuild, .selects RX10 yX10_readNewUnit yX10_readNewUnit, .selects RX10 yX10_isFreeHome yX10_isFreeHome, .selects RX10 yX10_buildsOf yX10_buildsOf, .selects RX10 yX10_centersOf yX10_centersOf, .selects RX10 yX10_readGone yX10_readGone, .selects RX10 yX10_isArea yX10_isArea, .selects RX10 yX10_isRefused yX10_isRefused, .selects RX10 yX10_widened yX10_widened, .selects RX10 yX10_isPower yX10_isPower, .selects RX10 yX10_homesOf yX10_homesOf, .selects RX10 yX10_hasUnit yX10_hasUnit, .selects RX10 yX10_remembers yX10_remembers, .selects RX10 yX10_decides yX10_decides, .selects RX10 yX10_laysMoves yX10_laysMoves, .selects RX10 yX10_goesThrough yX10_goesThrough, .selects RX10 yX10_says yX10_says, .selects RX10 yX10_laysDislodged yX10_laysDislodged]
theorem wv1 : ∀ w ∈ ww1, w ∈ osX := osX_at [61, 62, 63, 64, 65, 66, 67, 68, 69, 70, 71, 72, 73, 74, 75, 76, 77, 78, 79, 80, 81, 82, 83, 84, 85, 86, 87, 88, 89, 90, 91, 92, 93, 94, 95, 96, 97, 98, 99, 100, 101, 102, 103, 104, 105, 106, 107, 108, 109, 110, 111, 112, 113, 114, 115, 116, 117, 118, 119, 120] (by decide +kernel) (by decide +kernel)
theorem wd61 : (.selects RX10 yX10_readMap yX10_readMap : Cond) ∈ osX := wv1 _ (List.mem_of_getElem? (i := 0) rfl)
theorem wd62 : (.selects RX10 yX10_peek yX10_peek : Cond) ∈ osX := wv1 _ (List.mem_of_getElem? (i := 1) rfl)
theorem wd63 : (.selects RX10 yX10_byteAt yX10_byteAt : Cond) ∈ osX := wv1 _ (List.mem_of_getElem? (i := 2) rfl)
theorem wd64 : (.selects RX10 yX10_readStatement yX10_readStatement : Cond) ∈ osX := wv1 _ (List.mem_of_getElem? (i := 3) rfl)
theorem wd65 : (.selects RX10 yX10_readWord yX10_readWord : Cond) ∈ osX := wv1 _ (List.mem_of_getElem? (i := 4) rfl)
theorem wd66 : (.selects RX10 yX10_seesWord yX10_seesWord : Cond) ∈ osX := wv1 _ (List.mem_of_getElem? (i := 5) rfl)
theorem wd67 : (.selects RX10 yX10_passes yX10_passes : Cond) ∈ osX := wv1 _ (List.mem_of_getElem? (i := 6) rfl)
theorem wd68 : (.selects RX10 yX10_fails yX10_fails : Cond) ∈ osX := wv1 _ (List.mem_of_getElem? (i := 7) rfl)
theorem wd69 : (.selects RX10 yX10_readNewArea yX10_readNewArea : Cond) ∈ osX := wv1 _ (List.mem_of_getElem? (i := 8) rfl)
theorem wd70 : (.selects RX10 yX10_readName yX10_readName : Cond) ∈ osX := wv1 _ (List.mem_of_getElem? (i := 9) rfl)
theorem wd71 : (.selects RX10 yX10_isKeyword yX10_isKeyword : Cond) ∈ osX := wv1 _ (List.mem_of_getElem? (i := 10) rfl)
theorem wd72 : (.selects RX10 yX10_takesIf yX10_takesIf : Cond) ∈ osX := wv1 _ (List.mem_of_getElem? (i := 11) rfl)
theorem wd73 : (.selects RX10 yX10_sees yX10_sees : Cond) ∈ osX := wv1 _ (List.mem_of_getElem? (i := 12) rfl)
theorem wd74 : (.selects RX10 yX10_readBorder yX10_readBorder : Cond) ∈ osX := wv1 _ (List.mem_of_getElem? (i := 13) rfl)
theorem wd75 : (.selects RX10 yX10_readDraftArea yX10_readDraftArea : Cond) ∈ osX := wv1 _ (List.mem_of_getElem? (i := 14) rfl)
theorem wd76 : (.selects RX10 yX10_readArea yX10_readArea : Cond) ∈ osX := wv1 _ (List.mem_of_getElem? (i := 15) rfl)
theorem wd77 : (.selects RX10 yX10_joins yX10_joins : Cond) ∈ osX := wv1 _ (List.mem_of_getElem? (i := 16) rfl)
theorem wd78 : (.selects RX10 yX10_readPower yX10_readPower : Cond) ∈ osX := wv1 _ (List.mem_of_getElem? (i := 17) rfl)
theorem wd79 : (.selects RX10 yX10_readUnit yX10_readUnit : Cond) ∈ osX := wv1 _ (List.mem_of_getElem? (i := 18) rfl)
theorem wd80 : (.selects RX10 yX10_draftUnits yX10_draftUnits : Cond) ∈ osX := wv1 _ (List.mem_of_getElem? (i := 19) rfl)
theorem wd81 : (.selects RX10 yX10_readSemicolon yX10_readSemicolon : Cond) ∈ osX := wv1 _ (List.mem_of_getElem? (i := 20) rfl)
theorem wd82 : (.selects RX10 yX10_isRead yX10_isRead : Cond) ∈ osX := wv1 _ (List.mem_of_getElem? (i := 21) rfl)
theorem wd83 : (.selects RX10 yX10_unitsOf yX10_unitsOf : Cond) ∈ osX := wv1 _ (List.mem_of_getElem? (i := 22) rfl)
theorem wd84 : (.selects RX10 yX10_laysDraft yX10_laysDraft : Cond) ∈ osX := wv1 _ (List.mem_of_getElem? (i := 23) rfl)
theorem wd85 : (.selects RX10 yX10_readAll yX10_readAll : Cond) ∈ osX := wv1 _ (List.mem_of_getElem? (i := 24) rfl)
theorem wd86 : (.selects RX10 yX10_readOne yX10_readOne : Cond) ∈ osX := wv1 _ (List.mem_of_getElem? (i := 25) rfl)
theorem wd87 : (.selects RX10 yX10_readOrder yX10_readOrder : Cond) ∈ osX := wv1 _ (List.mem_of_getElem? (i := 26) rfl)
theorem wd88 : (.selects RX10 yX10_readHere yX10_readHere : Cond) ∈ osX := wv1 _ (List.mem_of_getElem? (i := 27) rfl)
theorem wd89 : (.selects RX10 yX10_orders yX10_orders : Cond) ∈ osX := wv1 _ (List.mem_of_getElem? (i := 28) rfl)
theorem wd90 : (.selects RX10 yX10_mayMove yX10_mayMove : Cond) ∈ osX := wv1 _ (List.mem_of_getElem? (i := 29) rfl)
theorem wd91 : (.selects RX10 yX10_isDirect yX10_isDirect : Cond) ∈ osX := wv1 _ (List.mem_of_getElem? (i := 30) rfl)
theorem wd92 : (.selects RX10 yX10_canGo yX10_canGo : Cond) ∈ osX := wv1 _ (List.mem_of_getElem? (i := 31) rfl)
theorem wd93 : (.selects RX10 yX10_passing yX10_passing : Cond) ∈ osX := wv1 _ (List.mem_of_getElem? (i := 32) rfl)
theorem wd94 : (.selects RX10 yX10_isCoast yX10_isCoast : Cond) ∈ osX := wv1 _ (List.mem_of_getElem? (i := 33) rfl)
theorem wd95 : (.selects RX10 yX10_readSupport yX10_readSupport : Cond) ∈ osX := wv1 _ (List.mem_of_getElem? (i := 34) rfl)
theorem wd96 : (.selects RX10 yX10_maySupportMove yX10_maySupportMove : Cond) ∈ osX := wv1 _ (List.mem_of_getElem? (i := 35) rfl)
theorem wd97 : (.selects RX10 yX10_maySupport yX10_maySupport : Cond) ∈ osX := wv1 _ (List.mem_of_getElem? (i := 36) rfl)
theorem wd98 : (.selects RX10 yX10_readConvoy yX10_readConvoy : Cond) ∈ osX := wv1 _ (List.mem_of_getElem? (i := 37) rfl)
theorem wd99 : (.selects RX10 yX10_takesWord yX10_takesWord : Cond) ∈ osX := wv1 _ (List.mem_of_getElem? (i := 38) rfl)
theorem wd100 : (.selects RX10 yX10_mayConvoy yX10_mayConvoy : Cond) ∈ osX := wv1 _ (List.mem_of_getElem? (i := 39) rfl)
theorem wd101 : (.selects RX10 yX10_readRetreat yX10_readRetreat : Cond) ∈ osX := wv1 _ (List.mem_of_getElem? (i := 40) rfl)
theorem wd102 : (.selects RX10 yX10_mayGoBack yX10_mayGoBack : Cond) ∈ osX := wv1 _ (List.mem_of_getElem? (i := 41) rfl)
theorem wd103 : (.selects RX10 yX10_readBuild yX10_readBuild : Cond) ∈ osX := wv1 _ (List.mem_of_getElem? (i := 42) rfl)
theorem wd104 : (.selects RX10 yX10_readNewUnit yX10_readNewUnit : Cond) ∈ osX := wv1 _ (List.mem_of_getElem? (i := 43) rfl)
theorem wd105 : (.selects RX10 yX10_isFreeHome yX10_isFreeHome : Cond) ∈ osX := wv1 _ (List.mem_of_getElem? (i := 44) rfl)
theorem wd106 : (.selects RX10 yX10_buildsOf yX10_buildsOf : Cond) ∈ osX := wv1 _ (List.mem_of_getElem? (i := 45) rfl)
theorem wd107 : (.selects RX10 yX10_centersOf yX10_centersOf : Cond) ∈ osX := wv1 _ (List.mem_of_getElem? (i := 46) rfl)
theorem wd108 : (.selects RX10 yX10_readGone yX10_readGone : Cond) ∈ osX := wv1 _ (List.mem_of_getElem? (i := 47) rfl)
theorem wd109 : (.selects RX10 yX10_isArea yX10_isArea : Cond) ∈ osX := wv1 _ (List.mem_of_getElem? (i := 48) rfl)
theorem wd110 : (.selects RX10 yX10_isRefused yX10_isRefused : Cond) ∈ osX := wv1 _ (List.mem_of_getElem? (i := 49) rfl)
theorem wd111 : (.selects RX10 yX10_widened yX10_widened : Cond) ∈ osX := wv1 _ (List.mem_of_getElem? (i := 50) rfl)
theorem wd112 : (.selects RX10 yX10_isPower yX10_isPower : Cond) ∈ osX := wv1 _ (List.mem_of_getElem? (i := 51) rfl)
theorem wd113 : (.selects RX10 yX10_homesOf yX10_homesOf : Cond) ∈ osX := wv1 _ (List.mem_of_getElem? (i := 52) rfl)
theorem wd114 : (.selects RX10 yX10_hasUnit yX10_hasUnit : Cond) ∈ osX := wv1 _ (List.mem_of_getElem? (i := 53) rfl)
theorem wd115 : (.selects RX10 yX10_remembers yX10_remembers : Cond) ∈ osX := wv1 _ (List.mem_of_getElem? (i := 54) rfl)
theorem wd116 : (.selects RX10 yX10_decides yX10_decides : Cond) ∈ osX := wv1 _ (List.mem_of_getElem? (i := 55) rfl)
theorem wd117 : (.selects RX10 yX10_laysMoves yX10_laysMoves : Cond) ∈ osX := wv1 _ (List.mem_of_getElem? (i := 56) rfl)
theorem wd118 : (.selects RX10 yX10_goesThrough yX10_goesThrough : Cond) ∈ osX := wv1 _ (List.mem_of_getElem? (i := 57) rfl)
theorem wd119 : (.selects RX10 yX10_says yX10_says : Cond) ∈ osX := wv1 _ (List.mem_of_getElem? (i := 58) rfl)
theorem wd120 : (.selects RX10 yX10_laysDislodged yX10_laysDislodged : Cond) ∈ osX := wv1 _ (List.mem_of_getElem? (i := 59) rfl)
def ww2 : List Cond := [.selects RX10 yX10_goals yX10_goals, .selects RX10 yX10_succeeds yX10_succeeds, .selects RX10 yX10_laysPaths yX10_laysPaths, .selects RX10 yX10_isConvoyed yX10_isConvoyed, .selects RX10 yX10_laysGiven yX10_laysGiven, .selects RX10 yX10_belongs yX10_belongs, .selects RX10 yX10_isCut yX10_isCut, .selects RX10 yX10_supports yX10_supports, .selects RX10 yX10_attackOf yX10_attackOf, .selects RX10 yX10_holdOf yX10_holdOf, .selects RX10 yX10_isConsistent yX10_isConsistent, .selects RX10 yX10_should yX10_should, .selects RX10 yX10_isStronger yX10_isStronger, .selects RX10 yX10_said yX10_said, .selects RX10 yX10_reasonOf yX10_reasonOf, .selects RX10 yX10_leads yX10_leads, .selects RX10 yX10_contestedNow yX10_contestedNow, .selects RX10 yX10_endsTurn yX10_endsTurn, .selects RX10 yX10_goesOn yX10_goesOn, .selects RX10 yX10_isAlone yX10_isAlone, .selects RX10 yX10_reaching yX10_reaching, .selects RX10 yX10_shareOf yX10_shareOf, .selects RX10 yX10_allCenters yX10_allCenters, .selects RX10 yX10_unevenNow yX10_unevenNow, .selects RX10 yX10_isAhead yX10_isAhead, .selects RX10 yX10_writesWord yX10_writesWord, .selects RX10 yX10_writes yX10_writes, .selects RX10 yX10_writesNext yX10_writesNext, .selects RX10 yX10_writesOrder yX10_writesOrder, .initialized RL, .initialized RX9, .initialized RX4, .initialized RX6, .initialized RX3, .initialized RX7, .initialized RX1, .initialized RX2, .initialized RX0, .initialized RX5, .initialized RX10, .initialized "java/lang/IllegalStateException", .initialized "java/lang/IllegalArgumentException", .initialized RJ9, .initialized RX8, .initialized RJ10, .initialized RJ6, .initialized RJ0, .initialized RJ1, .initialized RJ3, .initialized "java/lang/IndexOutOfBoundsException", .classLink RL 8 "OrderSettler", .instantiable RX9 14, .methodLink RL 104 yX9_init, .instanceMethod yX9_init, .methodLink RX9 1 objectInit, .instanceMethod objectInit, .classLink RX9 17 "OrderSettler$Output", .instantiable RX4 2, .methodLinkNest RX9 19 yX4_init "OrderSettler", .instanceMethod yX4_init]
theorem wv2 : ∀ w ∈ ww2, w ∈ osX := osX_at [121, 122, 123, 124, 125, 126, 127, 128, 129, 130, 131, 132, 133, 134, 135, 136, 137, 138, 139, 140, 141, 142, 143, 144, 145, 146, 147, 148, 149, 150, 151, 152, 153, 154, 155, 156, 157, 158, 159, 160, 164, 165, 166, 168, 169, 170, 172, 173, 174, 176, 177, 178, 179, 180, 182, 183, 185, 186, 187, 188] (by decide +kernel) (by decide +kernel)
theorem wd121 : (.selects RX10 yX10_goals yX10_goals : Cond) ∈ osX := wv2 _ (List.mem_of_getElem? (i := 0) rfl)
theorem wd122 : (.selects RX10 yX10_succeeds yX10_succeeds : Cond) ∈ osX := wv2 _ (List.mem_of_getElem? (i := 1) rfl)
theorem wd123 : (.selects RX10 yX10_laysPaths yX10_laysPaths : Cond) ∈ osX := wv2 _ (List.mem_of_getElem? (i := 2) rfl)
theorem wd124 : (.selects RX10 yX10_isConvoyed yX10_isConvoyed : Cond) ∈ osX := wv2 _ (List.mem_of_getElem? (i := 3) rfl)
theorem wd125 : (.selects RX10 yX10_laysGiven yX10_laysGiven : Cond) ∈ osX := wv2 _ (List.mem_of_getElem? (i := 4) rfl)
theorem wd126 : (.selects RX10 yX10_belongs yX10_belongs : Cond) ∈ osX := wv2 _ (List.mem_of_getElem? (i := 5) rfl)
theorem wd127 : (.selects RX10 yX10_isCut yX10_isCut : Cond) ∈ osX := wv2 _ (List.mem_of_getElem? (i := 6) rfl)
theorem wd128 : (.selects RX10 yX10_supports yX10_supports : Cond) ∈ osX := wv2 _ (List.mem_of_getElem? (i := 7) rfl)
theorem wd129 : (.selects RX10 yX10_attackOf yX10_attackOf : Cond) ∈ osX := wv2 _ (List.mem_of_getElem? (i := 8) rfl)
theorem wd130 : (.selects RX10 yX10_holdOf yX10_holdOf : Cond) ∈ osX := wv2 _ (List.mem_of_getElem? (i := 9) rfl)
theorem wd131 : (.selects RX10 yX10_isConsistent yX10_isConsistent : Cond) ∈ osX := wv2 _ (List.mem_of_getElem? (i := 10) rfl)
theorem wd132 : (.selects RX10 yX10_should yX10_should : Cond) ∈ osX := wv2 _ (List.mem_of_getElem? (i := 11) rfl)
theorem wd133 : (.selects RX10 yX10_isStronger yX10_isStronger : Cond) ∈ osX := wv2 _ (List.mem_of_getElem? (i := 12) rfl)
theorem wd134 : (.selects RX10 yX10_said yX10_said : Cond) ∈ osX := wv2 _ (List.mem_of_getElem? (i := 13) rfl)
theorem wd135 : (.selects RX10 yX10_reasonOf yX10_reasonOf : Cond) ∈ osX := wv2 _ (List.mem_of_getElem? (i := 14) rfl)
theorem wd136 : (.selects RX10 yX10_leads yX10_leads : Cond) ∈ osX := wv2 _ (List.mem_of_getElem? (i := 15) rfl)
theorem wd137 : (.selects RX10 yX10_contestedNow yX10_contestedNow : Cond) ∈ osX := wv2 _ (List.mem_of_getElem? (i := 16) rfl)
theorem wd138 : (.selects RX10 yX10_endsTurn yX10_endsTurn : Cond) ∈ osX := wv2 _ (List.mem_of_getElem? (i := 17) rfl)
theorem wd139 : (.selects RX10 yX10_goesOn yX10_goesOn : Cond) ∈ osX := wv2 _ (List.mem_of_getElem? (i := 18) rfl)
theorem wd140 : (.selects RX10 yX10_isAlone yX10_isAlone : Cond) ∈ osX := wv2 _ (List.mem_of_getElem? (i := 19) rfl)
theorem wd141 : (.selects RX10 yX10_reaching yX10_reaching : Cond) ∈ osX := wv2 _ (List.mem_of_getElem? (i := 20) rfl)
theorem wd142 : (.selects RX10 yX10_shareOf yX10_shareOf : Cond) ∈ osX := wv2 _ (List.mem_of_getElem? (i := 21) rfl)
theorem wd143 : (.selects RX10 yX10_allCenters yX10_allCenters : Cond) ∈ osX := wv2 _ (List.mem_of_getElem? (i := 22) rfl)
theorem wd144 : (.selects RX10 yX10_unevenNow yX10_unevenNow : Cond) ∈ osX := wv2 _ (List.mem_of_getElem? (i := 23) rfl)
theorem wd145 : (.selects RX10 yX10_isAhead yX10_isAhead : Cond) ∈ osX := wv2 _ (List.mem_of_getElem? (i := 24) rfl)
theorem wd146 : (.selects RX10 yX10_writesWord yX10_writesWord : Cond) ∈ osX := wv2 _ (List.mem_of_getElem? (i := 25) rfl)
theorem wd147 : (.selects RX10 yX10_writes yX10_writes : Cond) ∈ osX := wv2 _ (List.mem_of_getElem? (i := 26) rfl)
theorem wd148 : (.selects RX10 yX10_writesNext yX10_writesNext : Cond) ∈ osX := wv2 _ (List.mem_of_getElem? (i := 27) rfl)
theorem wd149 : (.selects RX10 yX10_writesOrder yX10_writesOrder : Cond) ∈ osX := wv2 _ (List.mem_of_getElem? (i := 28) rfl)
theorem wd150 : (.initialized RL : Cond) ∈ osX := wv2 _ (List.mem_of_getElem? (i := 29) rfl)
theorem wd151 : (.initialized RX9 : Cond) ∈ osX := wv2 _ (List.mem_of_getElem? (i := 30) rfl)
theorem wd152 : (.initialized RX4 : Cond) ∈ osX := wv2 _ (List.mem_of_getElem? (i := 31) rfl)
theorem wd153 : (.initialized RX6 : Cond) ∈ osX := wv2 _ (List.mem_of_getElem? (i := 32) rfl)
theorem wd154 : (.initialized RX3 : Cond) ∈ osX := wv2 _ (List.mem_of_getElem? (i := 33) rfl)
theorem wd155 : (.initialized RX7 : Cond) ∈ osX := wv2 _ (List.mem_of_getElem? (i := 34) rfl)
theorem wd156 : (.initialized RX1 : Cond) ∈ osX := wv2 _ (List.mem_of_getElem? (i := 35) rfl)
theorem wd157 : (.initialized RX2 : Cond) ∈ osX := wv2 _ (List.mem_of_getElem? (i := 36) rfl)
theorem wd158 : (.initialized RX0 : Cond) ∈ osX := wv2 _ (List.mem_of_getElem? (i := 37) rfl)
theorem wd159 : (.initialized RX5 : Cond) ∈ osX := wv2 _ (List.mem_of_getElem? (i := 38) rfl)
theorem wd160 : (.initialized RX10 : Cond) ∈ osX := wv2 _ (List.mem_of_getElem? (i := 39) rfl)
theorem wd164 : (.initialized "java/lang/IllegalStateException" : Cond) ∈ osX := wv2 _ (List.mem_of_getElem? (i := 40) rfl)
theorem wd165 : (.initialized "java/lang/IllegalArgumentException" : Cond) ∈ osX := wv2 _ (List.mem_of_getElem? (i := 41) rfl)
theorem wd166 : (.initialized RJ9 : Cond) ∈ osX := wv2 _ (List.mem_of_getElem? (i := 42) rfl)
theorem wd168 : (.initialized RX8 : Cond) ∈ osX := wv2 _ (List.mem_of_getElem? (i := 43) rfl)
theorem wd169 : (.initialized RJ10 : Cond) ∈ osX := wv2 _ (List.mem_of_getElem? (i := 44) rfl)
theorem wd170 : (.initialized RJ6 : Cond) ∈ osX := wv2 _ (List.mem_of_getElem? (i := 45) rfl)
theorem wd172 : (.initialized RJ0 : Cond) ∈ osX := wv2 _ (List.mem_of_getElem? (i := 46) rfl)
theorem wd173 : (.initialized RJ1 : Cond) ∈ osX := wv2 _ (List.mem_of_getElem? (i := 47) rfl)
theorem wd174 : (.initialized RJ3 : Cond) ∈ osX := wv2 _ (List.mem_of_getElem? (i := 48) rfl)
theorem wd176 : (.initialized "java/lang/IndexOutOfBoundsException" : Cond) ∈ osX := wv2 _ (List.mem_of_getElem? (i := 49) rfl)
theorem wd177 : (.classLink RL 8 "OrderSettler" : Cond) ∈ osX := wv2 _ (List.mem_of_getElem? (i := 50) rfl)
theorem wd178 : (.instantiable RX9 14 : Cond) ∈ osX := wv2 _ (List.mem_of_getElem? (i := 51) rfl)
theorem wd179 : (.methodLink RL 104 yX9_init : Cond) ∈ osX := wv2 _ (List.mem_of_getElem? (i := 52) rfl)
theorem wd180 : (.instanceMethod yX9_init : Cond) ∈ osX := wv2 _ (List.mem_of_getElem? (i := 53) rfl)
theorem wd182 : (.methodLink RX9 1 objectInit : Cond) ∈ osX := wv2 _ (List.mem_of_getElem? (i := 54) rfl)
theorem wd183 : (.instanceMethod objectInit : Cond) ∈ osX := wv2 _ (List.mem_of_getElem? (i := 55) rfl)
theorem wd185 : (.classLink RX9 17 "OrderSettler$Output" : Cond) ∈ osX := wv2 _ (List.mem_of_getElem? (i := 56) rfl)
theorem wd186 : (.instantiable RX4 2 : Cond) ∈ osX := wv2 _ (List.mem_of_getElem? (i := 57) rfl)
theorem wd187 : (.methodLinkNest RX9 19 yX4_init "OrderSettler" : Cond) ∈ osX := wv2 _ (List.mem_of_getElem? (i := 58) rfl)
theorem wd188 : (.instanceMethod yX4_init : Cond) ∈ osX := wv2 _ (List.mem_of_getElem? (i := 59) rfl)
def ww3 : List Cond := [.methodLink RX4 3 objectInit, .fieldLink RX4 9 "OrderSettler$Output" "bytes" "[B", .fieldLink RX9 354 "OrderSettler$Output" "bytes" "[B", .fieldLink RX4 15 "OrderSettler$Output" "length" "I", .fieldLink RX9 320 "OrderSettler$Output" "length" "I", .arrayClass .byte, .classLink RX9 30 "OrderSettler$MapReader", .instantiable RX3 10, .methodLinkNest RX9 32 yX3_init "OrderSettler", .instanceMethod yX3_init, .methodLinkNest RX3 3 yX6_init "OrderSettler", .instanceMethod yX6_init, .methodLink RX6 3 objectInit, .fieldLink RX6 9 "OrderSettler$TextReader" "bytes" "[B", .fieldLink RX6 15 "OrderSettler$TextReader" "length" "I", .fieldLink RX6 19 "OrderSettler$TextReader" "kind" "I", .fieldLink RX6 22 "OrderSettler$TextReader" "behind" "I", .fieldLink RX6 25 "OrderSettler$TextReader" "letters" "I", .fieldLink RX6 28 "OrderSettler$TextReader" "packed" "J", .fieldLink RX6 32 "OrderSettler$TextReader" "start" "I", .fieldLink RX3 34 "OrderSettler$MapReader" "start" "I", .sameField "OrderSettler$MapReader" "OrderSettler$TextReader" "start" "I", .fieldLink RX7 132 "OrderSettler$TurnReader" "start" "I", .sameField "OrderSettler$TurnReader" "OrderSettler$TextReader" "start" "I", .fieldLink RX6 35 "OrderSettler$TextReader" "nameStart" "I", .fieldLink RX7 68 "OrderSettler$TurnReader" "nameStart" "I", .sameField "OrderSettler$TurnReader" "OrderSettler$TextReader" "nameStart" "I", .fieldLink RX3 97 "OrderSettler$MapReader" "nameStart" "I", .sameField "OrderSettler$MapReader" "OrderSettler$TextReader" "nameStart" "I", .fieldLink RX6 38 "OrderSettler$TextReader" "foundCode" "I", .fieldLink RX9 384 "OrderSettler$TextReader" "foundCode" "I", .fieldLink RX6 41 "OrderSettler$TextReader" "foundPosition" "I", .fieldLink RX9 389 "OrderSettler$TextReader" "foundPosition" "I", .classLink RX9 37 "OrderSettler$TurnReader", .instantiable RX7 10, .methodLinkNest RX9 39 yX7_init "OrderSettler", .instanceMethod yX7_init, .methodLinkNest RX7 3 yX6_init "OrderSettler", .classLink RX9 44 "OrderSettler$Judge", .instantiable RX1 8, .methodLinkNest RX9 46 yX1_init "OrderSettler", .instanceMethod yX1_init, .methodLink RX1 3 objectInit, .classLink RX1 9 "OrderSettler$Links", .instantiable RX2 16, .methodLinkNest RX1 11 yX2_init "OrderSettler", .instanceMethod yX2_init, .methodLink RX2 3 objectInit, .fieldLink RX2 9 "OrderSettler$Links" "units" "I", .fieldLink RX1 80 "OrderSettler$Links" "units" "I", .fieldLink RX2 15 "OrderSettler$Links" "moves" "I", .fieldLink RX1 53 "OrderSettler$Links" "moves" "I", .fieldLink RX2 18 "OrderSettler$Links" "direct" "I", .fieldLink RX1 83 "OrderSettler$Links" "direct" "I", .fieldLink RX2 21 "OrderSettler$Links" "opposed" "I", .fieldLink RX1 130 "OrderSettler$Links" "opposed" "I", .fieldLink RX2 24 "OrderSettler$Links" "supporting" "I", .fieldLink RX1 157 "OrderSettler$Links" "supporting" "I", .fieldLink RX2 27 "OrderSettler$Links" "supports" "I", .fieldLink RX1 96 "OrderSettler$Links" "supports" "I"]
theorem wv3 : ∀ w ∈ ww3, w ∈ osX := osX_at [190, 191, 192, 193, 194, 200, 201, 202, 203, 204, 206, 207, 209, 210, 211, 212, 213, 214, 215, 216, 217, 218, 219, 220, 221, 222, 223, 224, 225, 226, 227, 228, 229, 251, 252, 253, 254, 256, 268, 269, 270, 271, 273, 274, 275, 276, 277, 279, 280, 281, 282, 283, 284, 285, 286, 287, 288, 289, 290, 291] (by decide +kernel) (by decide +kernel)
theorem wd190 : (.methodLink RX4 3 objectInit : Cond) ∈ osX := wv3 _ (List.mem_of_getElem? (i := 0) rfl)
theorem wd191 : (.fieldLink RX4 9 "OrderSettler$Output" "bytes" "[B" : Cond) ∈ osX := wv3 _ (List.mem_of_getElem? (i := 1) rfl)
theorem wd192 : (.fieldLink RX9 354 "OrderSettler$Output" "bytes" "[B" : Cond) ∈ osX := wv3 _ (List.mem_of_getElem? (i := 2) rfl)
theorem wd193 : (.fieldLink RX4 15 "OrderSettler$Output" "length" "I" : Cond) ∈ osX := wv3 _ (List.mem_of_getElem? (i := 3) rfl)
theorem wd194 : (.fieldLink RX9 320 "OrderSettler$Output" "length" "I" : Cond) ∈ osX := wv3 _ (List.mem_of_getElem? (i := 4) rfl)
theorem wd200 : (.arrayClass .byte : Cond) ∈ osX := wv3 _ (List.mem_of_getElem? (i := 5) rfl)
theorem wd201 : (.classLink RX9 30 "OrderSettler$MapReader" : Cond) ∈ osX := wv3 _ (List.mem_of_getElem? (i := 6) rfl)
theorem wd202 : (.instantiable RX3 10 : Cond) ∈ osX := wv3 _ (List.mem_of_getElem? (i := 7) rfl)
theorem wd203 : (.methodLinkNest RX9 32 yX3_init "OrderSettler" : Cond) ∈ osX := wv3 _ (List.mem_of_getElem? (i := 8) rfl)
theorem wd204 : (.instanceMethod yX3_init : Cond) ∈ osX := wv3 _ (List.mem_of_getElem? (i := 9) rfl)
theorem wd206 : (.methodLinkNest RX3 3 yX6_init "OrderSettler" : Cond) ∈ osX := wv3 _ (List.mem_of_getElem? (i := 10) rfl)
theorem wd207 : (.instanceMethod yX6_init : Cond) ∈ osX := wv3 _ (List.mem_of_getElem? (i := 11) rfl)
theorem wd209 : (.methodLink RX6 3 objectInit : Cond) ∈ osX := wv3 _ (List.mem_of_getElem? (i := 12) rfl)
theorem wd210 : (.fieldLink RX6 9 "OrderSettler$TextReader" "bytes" "[B" : Cond) ∈ osX := wv3 _ (List.mem_of_getElem? (i := 13) rfl)
theorem wd211 : (.fieldLink RX6 15 "OrderSettler$TextReader" "length" "I" : Cond) ∈ osX := wv3 _ (List.mem_of_getElem? (i := 14) rfl)
theorem wd212 : (.fieldLink RX6 19 "OrderSettler$TextReader" "kind" "I" : Cond) ∈ osX := wv3 _ (List.mem_of_getElem? (i := 15) rfl)
theorem wd213 : (.fieldLink RX6 22 "OrderSettler$TextReader" "behind" "I" : Cond) ∈ osX := wv3 _ (List.mem_of_getElem? (i := 16) rfl)
theorem wd214 : (.fieldLink RX6 25 "OrderSettler$TextReader" "letters" "I" : Cond) ∈ osX := wv3 _ (List.mem_of_getElem? (i := 17) rfl)
theorem wd215 : (.fieldLink RX6 28 "OrderSettler$TextReader" "packed" "J" : Cond) ∈ osX := wv3 _ (List.mem_of_getElem? (i := 18) rfl)
theorem wd216 : (.fieldLink RX6 32 "OrderSettler$TextReader" "start" "I" : Cond) ∈ osX := wv3 _ (List.mem_of_getElem? (i := 19) rfl)
theorem wd217 : (.fieldLink RX3 34 "OrderSettler$MapReader" "start" "I" : Cond) ∈ osX := wv3 _ (List.mem_of_getElem? (i := 20) rfl)
theorem wd218 : (.sameField "OrderSettler$MapReader" "OrderSettler$TextReader" "start" "I" : Cond) ∈ osX := wv3 _ (List.mem_of_getElem? (i := 21) rfl)
theorem wd219 : (.fieldLink RX7 132 "OrderSettler$TurnReader" "start" "I" : Cond) ∈ osX := wv3 _ (List.mem_of_getElem? (i := 22) rfl)
theorem wd220 : (.sameField "OrderSettler$TurnReader" "OrderSettler$TextReader" "start" "I" : Cond) ∈ osX := wv3 _ (List.mem_of_getElem? (i := 23) rfl)
theorem wd221 : (.fieldLink RX6 35 "OrderSettler$TextReader" "nameStart" "I" : Cond) ∈ osX := wv3 _ (List.mem_of_getElem? (i := 24) rfl)
theorem wd222 : (.fieldLink RX7 68 "OrderSettler$TurnReader" "nameStart" "I" : Cond) ∈ osX := wv3 _ (List.mem_of_getElem? (i := 25) rfl)
theorem wd223 : (.sameField "OrderSettler$TurnReader" "OrderSettler$TextReader" "nameStart" "I" : Cond) ∈ osX := wv3 _ (List.mem_of_getElem? (i := 26) rfl)
theorem wd224 : (.fieldLink RX3 97 "OrderSettler$MapReader" "nameStart" "I" : Cond) ∈ osX := wv3 _ (List.mem_of_getElem? (i := 27) rfl)
theorem wd225 : (.sameField "OrderSettler$MapReader" "OrderSettler$TextReader" "nameStart" "I" : Cond) ∈ osX := wv3 _ (List.mem_of_getElem? (i := 28) rfl)
theorem wd226 : (.fieldLink RX6 38 "OrderSettler$TextReader" "foundCode" "I" : Cond) ∈ osX := wv3 _ (List.mem_of_getElem? (i := 29) rfl)
theorem wd227 : (.fieldLink RX9 384 "OrderSettler$TextReader" "foundCode" "I" : Cond) ∈ osX := wv3 _ (List.mem_of_getElem? (i := 30) rfl)
theorem wd228 : (.fieldLink RX6 41 "OrderSettler$TextReader" "foundPosition" "I" : Cond) ∈ osX := wv3 _ (List.mem_of_getElem? (i := 31) rfl)
theorem wd229 : (.fieldLink RX9 389 "OrderSettler$TextReader" "foundPosition" "I" : Cond) ∈ osX := wv3 _ (List.mem_of_getElem? (i := 32) rfl)
theorem wd251 : (.classLink RX9 37 "OrderSettler$TurnReader" : Cond) ∈ osX := wv3 _ (List.mem_of_getElem? (i := 33) rfl)
theorem wd252 : (.instantiable RX7 10 : Cond) ∈ osX := wv3 _ (List.mem_of_getElem? (i := 34) rfl)
theorem wd253 : (.methodLinkNest RX9 39 yX7_init "OrderSettler" : Cond) ∈ osX := wv3 _ (List.mem_of_getElem? (i := 35) rfl)
theorem wd254 : (.instanceMethod yX7_init : Cond) ∈ osX := wv3 _ (List.mem_of_getElem? (i := 36) rfl)
theorem wd256 : (.methodLinkNest RX7 3 yX6_init "OrderSettler" : Cond) ∈ osX := wv3 _ (List.mem_of_getElem? (i := 37) rfl)
theorem wd268 : (.classLink RX9 44 "OrderSettler$Judge" : Cond) ∈ osX := wv3 _ (List.mem_of_getElem? (i := 38) rfl)
theorem wd269 : (.instantiable RX1 8 : Cond) ∈ osX := wv3 _ (List.mem_of_getElem? (i := 39) rfl)
theorem wd270 : (.methodLinkNest RX9 46 yX1_init "OrderSettler" : Cond) ∈ osX := wv3 _ (List.mem_of_getElem? (i := 40) rfl)
theorem wd271 : (.instanceMethod yX1_init : Cond) ∈ osX := wv3 _ (List.mem_of_getElem? (i := 41) rfl)
theorem wd273 : (.methodLink RX1 3 objectInit : Cond) ∈ osX := wv3 _ (List.mem_of_getElem? (i := 42) rfl)
theorem wd274 : (.classLink RX1 9 "OrderSettler$Links" : Cond) ∈ osX := wv3 _ (List.mem_of_getElem? (i := 43) rfl)
theorem wd275 : (.instantiable RX2 16 : Cond) ∈ osX := wv3 _ (List.mem_of_getElem? (i := 44) rfl)
theorem wd276 : (.methodLinkNest RX1 11 yX2_init "OrderSettler" : Cond) ∈ osX := wv3 _ (List.mem_of_getElem? (i := 45) rfl)
theorem wd277 : (.instanceMethod yX2_init : Cond) ∈ osX := wv3 _ (List.mem_of_getElem? (i := 46) rfl)
theorem wd279 : (.methodLink RX2 3 objectInit : Cond) ∈ osX := wv3 _ (List.mem_of_getElem? (i := 47) rfl)
theorem wd280 : (.fieldLink RX2 9 "OrderSettler$Links" "units" "I" : Cond) ∈ osX := wv3 _ (List.mem_of_getElem? (i := 48) rfl)
theorem wd281 : (.fieldLink RX1 80 "OrderSettler$Links" "units" "I" : Cond) ∈ osX := wv3 _ (List.mem_of_getElem? (i := 49) rfl)
theorem wd282 : (.fieldLink RX2 15 "OrderSettler$Links" "moves" "I" : Cond) ∈ osX := wv3 _ (List.mem_of_getElem? (i := 50) rfl)
theorem wd283 : (.fieldLink RX1 53 "OrderSettler$Links" "moves" "I" : Cond) ∈ osX := wv3 _ (List.mem_of_getElem? (i := 51) rfl)
theorem wd284 : (.fieldLink RX2 18 "OrderSettler$Links" "direct" "I" : Cond) ∈ osX := wv3 _ (List.mem_of_getElem? (i := 52) rfl)
theorem wd285 : (.fieldLink RX1 83 "OrderSettler$Links" "direct" "I" : Cond) ∈ osX := wv3 _ (List.mem_of_getElem? (i := 53) rfl)
theorem wd286 : (.fieldLink RX2 21 "OrderSettler$Links" "opposed" "I" : Cond) ∈ osX := wv3 _ (List.mem_of_getElem? (i := 54) rfl)
theorem wd287 : (.fieldLink RX1 130 "OrderSettler$Links" "opposed" "I" : Cond) ∈ osX := wv3 _ (List.mem_of_getElem? (i := 55) rfl)
theorem wd288 : (.fieldLink RX2 24 "OrderSettler$Links" "supporting" "I" : Cond) ∈ osX := wv3 _ (List.mem_of_getElem? (i := 56) rfl)
theorem wd289 : (.fieldLink RX1 157 "OrderSettler$Links" "supporting" "I" : Cond) ∈ osX := wv3 _ (List.mem_of_getElem? (i := 57) rfl)
theorem wd290 : (.fieldLink RX2 27 "OrderSettler$Links" "supports" "I" : Cond) ∈ osX := wv3 _ (List.mem_of_getElem? (i := 58) rfl)
theorem wd291 : (.fieldLink RX1 96 "OrderSettler$Links" "supports" "I" : Cond) ∈ osX := wv3 _ (List.mem_of_getElem? (i := 59) rfl)
def ww4 : List Cond := [.fieldLink RX2 30 "OrderSettler$Links" "goal" "[I", .fieldLink RX1 76 "OrderSettler$Links" "goal" "[I", .fieldLink RX2 34 "OrderSettler$Links" "rivals" "[I", .fieldLink RX1 139 "OrderSettler$Links" "rivals" "[I", .fieldLink RX2 37 "OrderSettler$Links" "backers" "[I", .fieldLink RX1 127 "OrderSettler$Links" "backers" "[I", .fieldLink RX2 40 "OrderSettler$Links" "hosts" "[I", .fieldLink RX1 133 "OrderSettler$Links" "hosts" "[I", .fieldLink RX2 43 "OrderSettler$Links" "hostBackers" "[I", .fieldLink RX1 136 "OrderSettler$Links" "hostBackers" "[I", .fieldLink RX2 46 "OrderSettler$Links" "cutters" "[I", .fieldLink RX1 99 "OrderSettler$Links" "cutters" "[I", .fieldLink RX2 49 "OrderSettler$Links" "carriers" "[I", .fieldLink RX1 86 "OrderSettler$Links" "carriers" "[I", .fieldLink RX2 52 "OrderSettler$Links" "boarding" "[I", .fieldLink RX1 106 "OrderSettler$Links" "boarding" "[I", .fieldLink RX2 55 "OrderSettler$Links" "landing" "[I", .fieldLink RX1 112 "OrderSettler$Links" "landing" "[I", .fieldLink RX2 58 "OrderSettler$Links" "waters" "[I", .fieldLink RX1 109 "OrderSettler$Links" "waters" "[I", .arrayClass .int, .fieldLink RX1 12 "OrderSettler$Judge" "links" "LOrderSettler$Links;", .fieldLink RX1 18 "OrderSettler$Judge" "seaOpen" "Z", .fieldLink RX1 22 "OrderSettler$Judge" "paths" "I", .fieldLink RX1 26 "OrderSettler$Judge" "given" "I", .fieldLink RX1 29 "OrderSettler$Judge" "best" "I", .fieldLink RX1 32 "OrderSettler$Judge" "success" "I", .fieldLink RX9 240 "OrderSettler$Judge" "success" "I", .fieldLink RX5 160 "OrderSettler$Judge" "success" "I", .fieldLink RX1 35 "OrderSettler$Judge" "dislodged" "I", .fieldLink RX9 233 "OrderSettler$Judge" "dislodged" "I", .fieldLink RX5 169 "OrderSettler$Judge" "dislodged" "I", .fieldLink RX1 38 "OrderSettler$Judge" "outcomeCount" "I", .fieldLink RX5 181 "OrderSettler$Judge" "outcomeCount" "I", .classLink RX9 51 "OrderSettler$State", .classLink RX9 60 "OrderSettler$Board", .instantiable RX0 10, .methodLink RX9 62 yX0_init, .instanceMethod yX0_init, .methodLink RX0 3 objectInit, .methodLink RX0 43 yX0_clear, .instanceMethod yX0_clear, .selects RX0 yX0_clear yX0_clear, .fieldLink RX0 9 "OrderSettler$Board" "areaCount" "I", .fieldLink RX3 86 "OrderSettler$Board" "areaCount" "I", .fieldLink RX9 120 "OrderSettler$Board" "areaCount" "I", .fieldLink RX0 15 "OrderSettler$Board" "powerCount" "I", .fieldLink RX3 121 "OrderSettler$Board" "powerCount" "I", .fieldLink RX9 123 "OrderSettler$Board" "powerCount" "I", .fieldLink RX5 192 "OrderSettler$Board" "powerCount" "I", .fieldLink RX0 18 "OrderSettler$Board" "coasts" "I", .fieldLink RX5 151 "OrderSettler$Board" "coasts" "I", .fieldLink RX0 21 "OrderSettler$Board" "seas" "I", .fieldLink RX5 144 "OrderSettler$Board" "seas" "I", .fieldLink RX0 24 "OrderSettler$Board" "centers" "I", .fieldLink RX3 144 "OrderSettler$Board" "centers" "I", .fieldLink RX9 136 "OrderSettler$Board" "centers" "I", .fieldLink RX5 189 "OrderSettler$Board" "centers" "I", .fieldLink RX0 27 "OrderSettler$Board" "areaName" "[I", .fieldLink RX9 339 "OrderSettler$Board" "areaName" "[I"]
theorem wv4 : ∀ w ∈ ww4, w ∈ osX := osX_at [292, 293, 294, 295, 296, 297, 298, 299, 300, 301, 302, 303, 304, 305, 306, 307, 308, 309, 310, 311, 345, 346, 347, 348, 349, 350, 351, 352, 353, 354, 355, 356, 357, 358, 376, 378, 379, 380, 381, 383, 384, 385, 386, 388, 389, 390, 391, 392, 393, 394, 395, 396, 397, 398, 399, 400, 401, 402, 403, 404] (by decide +kernel) (by decide +kernel)
theorem wd292 : (.fieldLink RX2 30 "OrderSettler$Links" "goal" "[I" : Cond) ∈ osX := wv4 _ (List.mem_of_getElem? (i := 0) rfl)
theorem wd293 : (.fieldLink RX1 76 "OrderSettler$Links" "goal" "[I" : Cond) ∈ osX := wv4 _ (List.mem_of_getElem? (i := 1) rfl)
theorem wd294 : (.fieldLink RX2 34 "OrderSettler$Links" "rivals" "[I" : Cond) ∈ osX := wv4 _ (List.mem_of_getElem? (i := 2) rfl)
theorem wd295 : (.fieldLink RX1 139 "OrderSettler$Links" "rivals" "[I" : Cond) ∈ osX := wv4 _ (List.mem_of_getElem? (i := 3) rfl)
theorem wd296 : (.fieldLink RX2 37 "OrderSettler$Links" "backers" "[I" : Cond) ∈ osX := wv4 _ (List.mem_of_getElem? (i := 4) rfl)
theorem wd297 : (.fieldLink RX1 127 "OrderSettler$Links" "backers" "[I" : Cond) ∈ osX := wv4 _ (List.mem_of_getElem? (i := 5) rfl)
theorem wd298 : (.fieldLink RX2 40 "OrderSettler$Links" "hosts" "[I" : Cond) ∈ osX := wv4 _ (List.mem_of_getElem? (i := 6) rfl)
theorem wd299 : (.fieldLink RX1 133 "OrderSettler$Links" "hosts" "[I" : Cond) ∈ osX := wv4 _ (List.mem_of_getElem? (i := 7) rfl)
theorem wd300 : (.fieldLink RX2 43 "OrderSettler$Links" "hostBackers" "[I" : Cond) ∈ osX := wv4 _ (List.mem_of_getElem? (i := 8) rfl)
theorem wd301 : (.fieldLink RX1 136 "OrderSettler$Links" "hostBackers" "[I" : Cond) ∈ osX := wv4 _ (List.mem_of_getElem? (i := 9) rfl)
theorem wd302 : (.fieldLink RX2 46 "OrderSettler$Links" "cutters" "[I" : Cond) ∈ osX := wv4 _ (List.mem_of_getElem? (i := 10) rfl)
theorem wd303 : (.fieldLink RX1 99 "OrderSettler$Links" "cutters" "[I" : Cond) ∈ osX := wv4 _ (List.mem_of_getElem? (i := 11) rfl)
theorem wd304 : (.fieldLink RX2 49 "OrderSettler$Links" "carriers" "[I" : Cond) ∈ osX := wv4 _ (List.mem_of_getElem? (i := 12) rfl)
theorem wd305 : (.fieldLink RX1 86 "OrderSettler$Links" "carriers" "[I" : Cond) ∈ osX := wv4 _ (List.mem_of_getElem? (i := 13) rfl)
theorem wd306 : (.fieldLink RX2 52 "OrderSettler$Links" "boarding" "[I" : Cond) ∈ osX := wv4 _ (List.mem_of_getElem? (i := 14) rfl)
theorem wd307 : (.fieldLink RX1 106 "OrderSettler$Links" "boarding" "[I" : Cond) ∈ osX := wv4 _ (List.mem_of_getElem? (i := 15) rfl)
theorem wd308 : (.fieldLink RX2 55 "OrderSettler$Links" "landing" "[I" : Cond) ∈ osX := wv4 _ (List.mem_of_getElem? (i := 16) rfl)
theorem wd309 : (.fieldLink RX1 112 "OrderSettler$Links" "landing" "[I" : Cond) ∈ osX := wv4 _ (List.mem_of_getElem? (i := 17) rfl)
theorem wd310 : (.fieldLink RX2 58 "OrderSettler$Links" "waters" "[I" : Cond) ∈ osX := wv4 _ (List.mem_of_getElem? (i := 18) rfl)
theorem wd311 : (.fieldLink RX1 109 "OrderSettler$Links" "waters" "[I" : Cond) ∈ osX := wv4 _ (List.mem_of_getElem? (i := 19) rfl)
theorem wd345 : (.arrayClass .int : Cond) ∈ osX := wv4 _ (List.mem_of_getElem? (i := 20) rfl)
theorem wd346 : (.fieldLink RX1 12 "OrderSettler$Judge" "links" "LOrderSettler$Links;" : Cond) ∈ osX := wv4 _ (List.mem_of_getElem? (i := 21) rfl)
theorem wd347 : (.fieldLink RX1 18 "OrderSettler$Judge" "seaOpen" "Z" : Cond) ∈ osX := wv4 _ (List.mem_of_getElem? (i := 22) rfl)
theorem wd348 : (.fieldLink RX1 22 "OrderSettler$Judge" "paths" "I" : Cond) ∈ osX := wv4 _ (List.mem_of_getElem? (i := 23) rfl)
theorem wd349 : (.fieldLink RX1 26 "OrderSettler$Judge" "given" "I" : Cond) ∈ osX := wv4 _ (List.mem_of_getElem? (i := 24) rfl)
theorem wd350 : (.fieldLink RX1 29 "OrderSettler$Judge" "best" "I" : Cond) ∈ osX := wv4 _ (List.mem_of_getElem? (i := 25) rfl)
theorem wd351 : (.fieldLink RX1 32 "OrderSettler$Judge" "success" "I" : Cond) ∈ osX := wv4 _ (List.mem_of_getElem? (i := 26) rfl)
theorem wd352 : (.fieldLink RX9 240 "OrderSettler$Judge" "success" "I" : Cond) ∈ osX := wv4 _ (List.mem_of_getElem? (i := 27) rfl)
theorem wd353 : (.fieldLink RX5 160 "OrderSettler$Judge" "success" "I" : Cond) ∈ osX := wv4 _ (List.mem_of_getElem? (i := 28) rfl)
theorem wd354 : (.fieldLink RX1 35 "OrderSettler$Judge" "dislodged" "I" : Cond) ∈ osX := wv4 _ (List.mem_of_getElem? (i := 29) rfl)
theorem wd355 : (.fieldLink RX9 233 "OrderSettler$Judge" "dislodged" "I" : Cond) ∈ osX := wv4 _ (List.mem_of_getElem? (i := 30) rfl)
theorem wd356 : (.fieldLink RX5 169 "OrderSettler$Judge" "dislodged" "I" : Cond) ∈ osX := wv4 _ (List.mem_of_getElem? (i := 31) rfl)
theorem wd357 : (.fieldLink RX1 38 "OrderSettler$Judge" "outcomeCount" "I" : Cond) ∈ osX := wv4 _ (List.mem_of_getElem? (i := 32) rfl)
theorem wd358 : (.fieldLink RX5 181 "OrderSettler$Judge" "outcomeCount" "I" : Cond) ∈ osX := wv4 _ (List.mem_of_getElem? (i := 33) rfl)
theorem wd376 : (.classLink RX9 51 "OrderSettler$State" : Cond) ∈ osX := wv4 _ (List.mem_of_getElem? (i := 34) rfl)
theorem wd378 : (.classLink RX9 60 "OrderSettler$Board" : Cond) ∈ osX := wv4 _ (List.mem_of_getElem? (i := 35) rfl)
theorem wd379 : (.instantiable RX0 10 : Cond) ∈ osX := wv4 _ (List.mem_of_getElem? (i := 36) rfl)
theorem wd380 : (.methodLink RX9 62 yX0_init : Cond) ∈ osX := wv4 _ (List.mem_of_getElem? (i := 37) rfl)
theorem wd381 : (.instanceMethod yX0_init : Cond) ∈ osX := wv4 _ (List.mem_of_getElem? (i := 38) rfl)
theorem wd383 : (.methodLink RX0 3 objectInit : Cond) ∈ osX := wv4 _ (List.mem_of_getElem? (i := 39) rfl)
theorem wd384 : (.methodLink RX0 43 yX0_clear : Cond) ∈ osX := wv4 _ (List.mem_of_getElem? (i := 40) rfl)
theorem wd385 : (.instanceMethod yX0_clear : Cond) ∈ osX := wv4 _ (List.mem_of_getElem? (i := 41) rfl)
theorem wd386 : (.selects RX0 yX0_clear yX0_clear : Cond) ∈ osX := wv4 _ (List.mem_of_getElem? (i := 42) rfl)
theorem wd388 : (.fieldLink RX0 9 "OrderSettler$Board" "areaCount" "I" : Cond) ∈ osX := wv4 _ (List.mem_of_getElem? (i := 43) rfl)
theorem wd389 : (.fieldLink RX3 86 "OrderSettler$Board" "areaCount" "I" : Cond) ∈ osX := wv4 _ (List.mem_of_getElem? (i := 44) rfl)
theorem wd390 : (.fieldLink RX9 120 "OrderSettler$Board" "areaCount" "I" : Cond) ∈ osX := wv4 _ (List.mem_of_getElem? (i := 45) rfl)
theorem wd391 : (.fieldLink RX0 15 "OrderSettler$Board" "powerCount" "I" : Cond) ∈ osX := wv4 _ (List.mem_of_getElem? (i := 46) rfl)
theorem wd392 : (.fieldLink RX3 121 "OrderSettler$Board" "powerCount" "I" : Cond) ∈ osX := wv4 _ (List.mem_of_getElem? (i := 47) rfl)
theorem wd393 : (.fieldLink RX9 123 "OrderSettler$Board" "powerCount" "I" : Cond) ∈ osX := wv4 _ (List.mem_of_getElem? (i := 48) rfl)
theorem wd394 : (.fieldLink RX5 192 "OrderSettler$Board" "powerCount" "I" : Cond) ∈ osX := wv4 _ (List.mem_of_getElem? (i := 49) rfl)
theorem wd395 : (.fieldLink RX0 18 "OrderSettler$Board" "coasts" "I" : Cond) ∈ osX := wv4 _ (List.mem_of_getElem? (i := 50) rfl)
theorem wd396 : (.fieldLink RX5 151 "OrderSettler$Board" "coasts" "I" : Cond) ∈ osX := wv4 _ (List.mem_of_getElem? (i := 51) rfl)
theorem wd397 : (.fieldLink RX0 21 "OrderSettler$Board" "seas" "I" : Cond) ∈ osX := wv4 _ (List.mem_of_getElem? (i := 52) rfl)
theorem wd398 : (.fieldLink RX5 144 "OrderSettler$Board" "seas" "I" : Cond) ∈ osX := wv4 _ (List.mem_of_getElem? (i := 53) rfl)
theorem wd399 : (.fieldLink RX0 24 "OrderSettler$Board" "centers" "I" : Cond) ∈ osX := wv4 _ (List.mem_of_getElem? (i := 54) rfl)
theorem wd400 : (.fieldLink RX3 144 "OrderSettler$Board" "centers" "I" : Cond) ∈ osX := wv4 _ (List.mem_of_getElem? (i := 55) rfl)
theorem wd401 : (.fieldLink RX9 136 "OrderSettler$Board" "centers" "I" : Cond) ∈ osX := wv4 _ (List.mem_of_getElem? (i := 56) rfl)
theorem wd402 : (.fieldLink RX5 189 "OrderSettler$Board" "centers" "I" : Cond) ∈ osX := wv4 _ (List.mem_of_getElem? (i := 57) rfl)
theorem wd403 : (.fieldLink RX0 27 "OrderSettler$Board" "areaName" "[I" : Cond) ∈ osX := wv4 _ (List.mem_of_getElem? (i := 58) rfl)
theorem wd404 : (.fieldLink RX9 339 "OrderSettler$Board" "areaName" "[I" : Cond) ∈ osX := wv4 _ (List.mem_of_getElem? (i := 59) rfl)
def ww5 : List Cond := [.fieldLink RX0 31 "OrderSettler$Board" "home" "[I", .fieldLink RX3 136 "OrderSettler$Board" "home" "[I", .fieldLink RX9 143 "OrderSettler$Board" "home" "[I", .fieldLink RX7 146 "OrderSettler$Board" "home" "[I", .fieldLink RX5 121 "OrderSettler$Board" "home" "[I", .fieldLink RX0 34 "OrderSettler$Board" "armyBorders" "[I", .fieldLink RX0 37 "OrderSettler$Board" "fleetBorders" "[I", .fieldLink RX0 40 "OrderSettler$Board" "powerName" "[I", .fieldLink RX9 326 "OrderSettler$Board" "powerName" "[I", .instantiable RX5 16, .methodLink RX9 70 yX5_init, .instanceMethod yX5_init, .methodLink RX5 3 objectInit, .methodLink RX5 62 yX5_clear, .instanceMethod yX5_clear, .selects RX5 yX5_clear yX5_clear, .methodLink RX5 65 yX5_clearUnits, .instanceMethod yX5_clearUnits, .methodLink RX5 68 yX5_clearDislodged, .instanceMethod yX5_clearDislodged, .methodLink RX5 71 yX5_holdAll, .instanceMethod yX5_holdAll, .methodLink RX5 74 yX5_giveOrder, .instanceMethod yX5_giveOrder, .selects RX5 yX5_giveOrder yX5_giveOrder, .fieldLink RX5 9 "OrderSettler$State" "phase" "I", .fieldLink RX7 26 "OrderSettler$State" "phase" "I", .fieldLink RX9 201 "OrderSettler$State" "phase" "I", .fieldLink RX5 15 "OrderSettler$State" "turn" "I", .fieldLink RX9 204 "OrderSettler$State" "turn" "I", .fieldLink RX5 18 "OrderSettler$State" "settled" "Z", .fieldLink RX9 372 "OrderSettler$State" "settled" "Z", .fieldLink RX5 22 "OrderSettler$State" "outcomeCount" "I", .fieldLink RX9 254 "OrderSettler$State" "outcomeCount" "I", .fieldLink RX5 25 "OrderSettler$State" "contested" "I", .fieldLink RX9 257 "OrderSettler$State" "contested" "I", .fieldLink RX5 28 "OrderSettler$State" "owner" "[I", .fieldLink RX9 151 "OrderSettler$State" "owner" "[I", .fieldLink RX5 32 "OrderSettler$State" "unitPower" "[I", .fieldLink RX2 115 "OrderSettler$State" "unitPower" "[I", .fieldLink RX9 154 "OrderSettler$State" "unitPower" "[I", .fieldLink RX7 158 "OrderSettler$State" "unitPower" "[I", .fieldLink RX5 35 "OrderSettler$State" "unitKind" "[I", .fieldLink RX9 157 "OrderSettler$State" "unitKind" "[I", .fieldLink RX5 38 "OrderSettler$State" "outPower" "[I", .fieldLink RX9 160 "OrderSettler$State" "outPower" "[I", .fieldLink RX5 41 "OrderSettler$State" "outKind" "[I", .fieldLink RX9 163 "OrderSettler$State" "outKind" "[I", .fieldLink RX5 44 "OrderSettler$State" "attackedFrom" "[I", .fieldLink RX5 47 "OrderSettler$State" "retreatGoal" "[I", .fieldLink RX5 50 "OrderSettler$State" "orderKind" "[I", .fieldLink RX2 80 "OrderSettler$State" "orderKind" "[I", .fieldLink RX9 213 "OrderSettler$State" "orderKind" "[I", .fieldLink RX5 53 "OrderSettler$State" "orderFirst" "[I", .fieldLink RX2 101 "OrderSettler$State" "orderFirst" "[I", .fieldLink RX9 216 "OrderSettler$State" "orderFirst" "[I", .fieldLink RX5 56 "OrderSettler$State" "orderSecond" "[I", .fieldLink RX2 112 "OrderSettler$State" "orderSecond" "[I", .fieldLink RX9 219 "OrderSettler$State" "orderSecond" "[I", .fieldLink RX5 59 "OrderSettler$State" "results" "[I"]
theorem wv5 : ∀ w ∈ ww5, w ∈ osX := osX_at [405, 406, 407, 408, 409, 410, 411, 412, 413, 435, 436, 437, 439, 440, 441, 442, 444, 446, 448, 450, 452, 454, 456, 457, 458, 460, 461, 462, 463, 464, 465, 466, 467, 468, 469, 470, 471, 472, 473, 474, 475, 476, 477, 478, 479, 480, 481, 482, 483, 484, 485, 486, 487, 488, 489, 490, 491, 492, 493, 494] (by decide +kernel) (by decide +kernel)
theorem wd405 : (.fieldLink RX0 31 "OrderSettler$Board" "home" "[I" : Cond) ∈ osX := wv5 _ (List.mem_of_getElem? (i := 0) rfl)
theorem wd406 : (.fieldLink RX3 136 "OrderSettler$Board" "home" "[I" : Cond) ∈ osX := wv5 _ (List.mem_of_getElem? (i := 1) rfl)
theorem wd407 : (.fieldLink RX9 143 "OrderSettler$Board" "home" "[I" : Cond) ∈ osX := wv5 _ (List.mem_of_getElem? (i := 2) rfl)
theorem wd408 : (.fieldLink RX7 146 "OrderSettler$Board" "home" "[I" : Cond) ∈ osX := wv5 _ (List.mem_of_getElem? (i := 3) rfl)
theorem wd409 : (.fieldLink RX5 121 "OrderSettler$Board" "home" "[I" : Cond) ∈ osX := wv5 _ (List.mem_of_getElem? (i := 4) rfl)
theorem wd410 : (.fieldLink RX0 34 "OrderSettler$Board" "armyBorders" "[I" : Cond) ∈ osX := wv5 _ (List.mem_of_getElem? (i := 5) rfl)
theorem wd411 : (.fieldLink RX0 37 "OrderSettler$Board" "fleetBorders" "[I" : Cond) ∈ osX := wv5 _ (List.mem_of_getElem? (i := 6) rfl)
theorem wd412 : (.fieldLink RX0 40 "OrderSettler$Board" "powerName" "[I" : Cond) ∈ osX := wv5 _ (List.mem_of_getElem? (i := 7) rfl)
theorem wd413 : (.fieldLink RX9 326 "OrderSettler$Board" "powerName" "[I" : Cond) ∈ osX := wv5 _ (List.mem_of_getElem? (i := 8) rfl)
theorem wd435 : (.instantiable RX5 16 : Cond) ∈ osX := wv5 _ (List.mem_of_getElem? (i := 9) rfl)
theorem wd436 : (.methodLink RX9 70 yX5_init : Cond) ∈ osX := wv5 _ (List.mem_of_getElem? (i := 10) rfl)
theorem wd437 : (.instanceMethod yX5_init : Cond) ∈ osX := wv5 _ (List.mem_of_getElem? (i := 11) rfl)
theorem wd439 : (.methodLink RX5 3 objectInit : Cond) ∈ osX := wv5 _ (List.mem_of_getElem? (i := 12) rfl)
theorem wd440 : (.methodLink RX5 62 yX5_clear : Cond) ∈ osX := wv5 _ (List.mem_of_getElem? (i := 13) rfl)
theorem wd441 : (.instanceMethod yX5_clear : Cond) ∈ osX := wv5 _ (List.mem_of_getElem? (i := 14) rfl)
theorem wd442 : (.selects RX5 yX5_clear yX5_clear : Cond) ∈ osX := wv5 _ (List.mem_of_getElem? (i := 15) rfl)
theorem wd444 : (.methodLink RX5 65 yX5_clearUnits : Cond) ∈ osX := wv5 _ (List.mem_of_getElem? (i := 16) rfl)
theorem wd446 : (.instanceMethod yX5_clearUnits : Cond) ∈ osX := wv5 _ (List.mem_of_getElem? (i := 17) rfl)
theorem wd448 : (.methodLink RX5 68 yX5_clearDislodged : Cond) ∈ osX := wv5 _ (List.mem_of_getElem? (i := 18) rfl)
theorem wd450 : (.instanceMethod yX5_clearDislodged : Cond) ∈ osX := wv5 _ (List.mem_of_getElem? (i := 19) rfl)
theorem wd452 : (.methodLink RX5 71 yX5_holdAll : Cond) ∈ osX := wv5 _ (List.mem_of_getElem? (i := 20) rfl)
theorem wd454 : (.instanceMethod yX5_holdAll : Cond) ∈ osX := wv5 _ (List.mem_of_getElem? (i := 21) rfl)
theorem wd456 : (.methodLink RX5 74 yX5_giveOrder : Cond) ∈ osX := wv5 _ (List.mem_of_getElem? (i := 22) rfl)
theorem wd457 : (.instanceMethod yX5_giveOrder : Cond) ∈ osX := wv5 _ (List.mem_of_getElem? (i := 23) rfl)
theorem wd458 : (.selects RX5 yX5_giveOrder yX5_giveOrder : Cond) ∈ osX := wv5 _ (List.mem_of_getElem? (i := 24) rfl)
theorem wd460 : (.fieldLink RX5 9 "OrderSettler$State" "phase" "I" : Cond) ∈ osX := wv5 _ (List.mem_of_getElem? (i := 25) rfl)
theorem wd461 : (.fieldLink RX7 26 "OrderSettler$State" "phase" "I" : Cond) ∈ osX := wv5 _ (List.mem_of_getElem? (i := 26) rfl)
theorem wd462 : (.fieldLink RX9 201 "OrderSettler$State" "phase" "I" : Cond) ∈ osX := wv5 _ (List.mem_of_getElem? (i := 27) rfl)
theorem wd463 : (.fieldLink RX5 15 "OrderSettler$State" "turn" "I" : Cond) ∈ osX := wv5 _ (List.mem_of_getElem? (i := 28) rfl)
theorem wd464 : (.fieldLink RX9 204 "OrderSettler$State" "turn" "I" : Cond) ∈ osX := wv5 _ (List.mem_of_getElem? (i := 29) rfl)
theorem wd465 : (.fieldLink RX5 18 "OrderSettler$State" "settled" "Z" : Cond) ∈ osX := wv5 _ (List.mem_of_getElem? (i := 30) rfl)
theorem wd466 : (.fieldLink RX9 372 "OrderSettler$State" "settled" "Z" : Cond) ∈ osX := wv5 _ (List.mem_of_getElem? (i := 31) rfl)
theorem wd467 : (.fieldLink RX5 22 "OrderSettler$State" "outcomeCount" "I" : Cond) ∈ osX := wv5 _ (List.mem_of_getElem? (i := 32) rfl)
theorem wd468 : (.fieldLink RX9 254 "OrderSettler$State" "outcomeCount" "I" : Cond) ∈ osX := wv5 _ (List.mem_of_getElem? (i := 33) rfl)
theorem wd469 : (.fieldLink RX5 25 "OrderSettler$State" "contested" "I" : Cond) ∈ osX := wv5 _ (List.mem_of_getElem? (i := 34) rfl)
theorem wd470 : (.fieldLink RX9 257 "OrderSettler$State" "contested" "I" : Cond) ∈ osX := wv5 _ (List.mem_of_getElem? (i := 35) rfl)
theorem wd471 : (.fieldLink RX5 28 "OrderSettler$State" "owner" "[I" : Cond) ∈ osX := wv5 _ (List.mem_of_getElem? (i := 36) rfl)
theorem wd472 : (.fieldLink RX9 151 "OrderSettler$State" "owner" "[I" : Cond) ∈ osX := wv5 _ (List.mem_of_getElem? (i := 37) rfl)
theorem wd473 : (.fieldLink RX5 32 "OrderSettler$State" "unitPower" "[I" : Cond) ∈ osX := wv5 _ (List.mem_of_getElem? (i := 38) rfl)
theorem wd474 : (.fieldLink RX2 115 "OrderSettler$State" "unitPower" "[I" : Cond) ∈ osX := wv5 _ (List.mem_of_getElem? (i := 39) rfl)
theorem wd475 : (.fieldLink RX9 154 "OrderSettler$State" "unitPower" "[I" : Cond) ∈ osX := wv5 _ (List.mem_of_getElem? (i := 40) rfl)
theorem wd476 : (.fieldLink RX7 158 "OrderSettler$State" "unitPower" "[I" : Cond) ∈ osX := wv5 _ (List.mem_of_getElem? (i := 41) rfl)
theorem wd477 : (.fieldLink RX5 35 "OrderSettler$State" "unitKind" "[I" : Cond) ∈ osX := wv5 _ (List.mem_of_getElem? (i := 42) rfl)
theorem wd478 : (.fieldLink RX9 157 "OrderSettler$State" "unitKind" "[I" : Cond) ∈ osX := wv5 _ (List.mem_of_getElem? (i := 43) rfl)
theorem wd479 : (.fieldLink RX5 38 "OrderSettler$State" "outPower" "[I" : Cond) ∈ osX := wv5 _ (List.mem_of_getElem? (i := 44) rfl)
theorem wd480 : (.fieldLink RX9 160 "OrderSettler$State" "outPower" "[I" : Cond) ∈ osX := wv5 _ (List.mem_of_getElem? (i := 45) rfl)
theorem wd481 : (.fieldLink RX5 41 "OrderSettler$State" "outKind" "[I" : Cond) ∈ osX := wv5 _ (List.mem_of_getElem? (i := 46) rfl)
theorem wd482 : (.fieldLink RX9 163 "OrderSettler$State" "outKind" "[I" : Cond) ∈ osX := wv5 _ (List.mem_of_getElem? (i := 47) rfl)
theorem wd483 : (.fieldLink RX5 44 "OrderSettler$State" "attackedFrom" "[I" : Cond) ∈ osX := wv5 _ (List.mem_of_getElem? (i := 48) rfl)
theorem wd484 : (.fieldLink RX5 47 "OrderSettler$State" "retreatGoal" "[I" : Cond) ∈ osX := wv5 _ (List.mem_of_getElem? (i := 49) rfl)
theorem wd485 : (.fieldLink RX5 50 "OrderSettler$State" "orderKind" "[I" : Cond) ∈ osX := wv5 _ (List.mem_of_getElem? (i := 50) rfl)
theorem wd486 : (.fieldLink RX2 80 "OrderSettler$State" "orderKind" "[I" : Cond) ∈ osX := wv5 _ (List.mem_of_getElem? (i := 51) rfl)
theorem wd487 : (.fieldLink RX9 213 "OrderSettler$State" "orderKind" "[I" : Cond) ∈ osX := wv5 _ (List.mem_of_getElem? (i := 52) rfl)
theorem wd488 : (.fieldLink RX5 53 "OrderSettler$State" "orderFirst" "[I" : Cond) ∈ osX := wv5 _ (List.mem_of_getElem? (i := 53) rfl)
theorem wd489 : (.fieldLink RX2 101 "OrderSettler$State" "orderFirst" "[I" : Cond) ∈ osX := wv5 _ (List.mem_of_getElem? (i := 54) rfl)
theorem wd490 : (.fieldLink RX9 216 "OrderSettler$State" "orderFirst" "[I" : Cond) ∈ osX := wv5 _ (List.mem_of_getElem? (i := 55) rfl)
theorem wd491 : (.fieldLink RX5 56 "OrderSettler$State" "orderSecond" "[I" : Cond) ∈ osX := wv5 _ (List.mem_of_getElem? (i := 56) rfl)
theorem wd492 : (.fieldLink RX2 112 "OrderSettler$State" "orderSecond" "[I" : Cond) ∈ osX := wv5 _ (List.mem_of_getElem? (i := 57) rfl)
theorem wd493 : (.fieldLink RX9 219 "OrderSettler$State" "orderSecond" "[I" : Cond) ∈ osX := wv5 _ (List.mem_of_getElem? (i := 58) rfl)
theorem wd494 : (.fieldLink RX5 59 "OrderSettler$State" "results" "[I" : Cond) ∈ osX := wv5 _ (List.mem_of_getElem? (i := 59) rfl)
def ww6 : List Cond := [.fieldLink RX9 251 "OrderSettler$State" "results" "[I", .fieldLink RX9 9 "OrderSettler" "input" "[B", .fieldLink RX9 13 "OrderSettler" "inputLength" "I", .fieldLink RX9 20 "OrderSettler" "output" "LOrderSettler$Output;", .fieldLink RX9 24 "OrderSettler" "errorCode" "I", .fieldLink RX9 27 "OrderSettler" "errorPosition" "I", .fieldLink RX9 33 "OrderSettler" "mapReader" "LOrderSettler$MapReader;", .fieldLink RX9 40 "OrderSettler" "turnReader" "LOrderSettler$TurnReader;", .fieldLink RX9 47 "OrderSettler" "judge" "LOrderSettler$Judge;", .fieldLink RX9 53 "OrderSettler" "past" "[LOrderSettler$State;", .fieldLink RX9 57 "OrderSettler" "undoable" "I", .fieldLink RX9 63 "OrderSettler" "board" "LOrderSettler$Board;", .fieldLink RX9 67 "OrderSettler" "spareBoard" "LOrderSettler$Board;", .fieldLink RX9 71 "OrderSettler" "now" "LOrderSettler$State;", .fieldLink RX9 75 "OrderSettler" "draft" "LOrderSettler$State;", .methodLink RL 124 yX9_errorCode, .instanceMethod yX9_errorCode, .selects RX9 yX9_errorCode yX9_errorCode, .methodLink RL 128 yX9_errorPosition, .instanceMethod yX9_errorPosition, .selects RX9 yX9_errorPosition yX9_errorPosition, .methodLink RL 132 yX9_areas, .instanceMethod yX9_areas, .selects RX9 yX9_areas yX9_areas, .methodLink RL 136 yX9_powers, .instanceMethod yX9_powers, .selects RX9 yX9_powers yX9_powers, .methodLink RL 157 yX9_phase, .instanceMethod yX9_phase, .selects RX9 yX9_phase yX9_phase, .methodLink RL 161 yX9_turn, .instanceMethod yX9_turn, .selects RX9 yX9_turn yX9_turn, .methodLink RL 193 yX9_undoCount, .instanceMethod yX9_undoCount, .selects RX9 yX9_undoCount yX9_undoCount, .methodLink RL 216 yX9_unevenness, .instanceMethod yX9_unevenness, .selects RX9 yX9_unevenness yX9_unevenness, .methodLink RX9 310 yX9_sumOfSquares, .instanceMethod yX9_sumOfSquares, .methodLink RX9 243 yJ6_bitCount_0f7a4, .static yJ6_bitCount_0f7a4, .constant RJ6 265 (1431655765 : Int32), .constant RJ6 266 (858993459 : Int32), .constant RJ6 267 (252645135 : Int32), .methodLink RX9 188 yX5_countCenters, .instanceMethod yX5_countCenters, .selects RX5 yX5_countCenters yX5_countCenters, .methodLink RX5 98 yX5_countOf, .static yX5_countOf, .methodLink RL 221 yX9_unevennessBits, .instanceMethod yX9_unevennessBits, .selects RX9 yX9_unevennessBits yX9_unevennessBits, .methodLink RX9 314 yX9_doubleBits, .static yX9_doubleBits, .constantLong RX9 404 (1023 : Int64), .constantDouble RX9 406 (4611686018427387904 : UInt64), .constantDouble RX9 408 (4841369599423283200 : UInt64), .methodLink RL 229 yX9_writeUnits]
theorem wv6 : ∀ w ∈ ww6, w ∈ osX := osX_at [495, 529, 530, 531, 532, 533, 534, 535, 536, 537, 538, 539, 540, 541, 542, 572, 573, 574, 576, 577, 578, 580, 581, 582, 584, 585, 586, 588, 589, 590, 592, 593, 594, 596, 597, 598, 600, 601, 602, 604, 606, 608, 609, 611, 612, 613, 614, 615, 616, 618, 619, 621, 622, 623, 625, 626, 628, 629, 630, 631] (by decide +kernel) (by decide +kernel)
theorem wd495 : (.fieldLink RX9 251 "OrderSettler$State" "results" "[I" : Cond) ∈ osX := wv6 _ (List.mem_of_getElem? (i := 0) rfl)
theorem wd529 : (.fieldLink RX9 9 "OrderSettler" "input" "[B" : Cond) ∈ osX := wv6 _ (List.mem_of_getElem? (i := 1) rfl)
theorem wd530 : (.fieldLink RX9 13 "OrderSettler" "inputLength" "I" : Cond) ∈ osX := wv6 _ (List.mem_of_getElem? (i := 2) rfl)
theorem wd531 : (.fieldLink RX9 20 "OrderSettler" "output" "LOrderSettler$Output;" : Cond) ∈ osX := wv6 _ (List.mem_of_getElem? (i := 3) rfl)
theorem wd532 : (.fieldLink RX9 24 "OrderSettler" "errorCode" "I" : Cond) ∈ osX := wv6 _ (List.mem_of_getElem? (i := 4) rfl)
theorem wd533 : (.fieldLink RX9 27 "OrderSettler" "errorPosition" "I" : Cond) ∈ osX := wv6 _ (List.mem_of_getElem? (i := 5) rfl)
theorem wd534 : (.fieldLink RX9 33 "OrderSettler" "mapReader" "LOrderSettler$MapReader;" : Cond) ∈ osX := wv6 _ (List.mem_of_getElem? (i := 6) rfl)
theorem wd535 : (.fieldLink RX9 40 "OrderSettler" "turnReader" "LOrderSettler$TurnReader;" : Cond) ∈ osX := wv6 _ (List.mem_of_getElem? (i := 7) rfl)
theorem wd536 : (.fieldLink RX9 47 "OrderSettler" "judge" "LOrderSettler$Judge;" : Cond) ∈ osX := wv6 _ (List.mem_of_getElem? (i := 8) rfl)
theorem wd537 : (.fieldLink RX9 53 "OrderSettler" "past" "[LOrderSettler$State;" : Cond) ∈ osX := wv6 _ (List.mem_of_getElem? (i := 9) rfl)
theorem wd538 : (.fieldLink RX9 57 "OrderSettler" "undoable" "I" : Cond) ∈ osX := wv6 _ (List.mem_of_getElem? (i := 10) rfl)
theorem wd539 : (.fieldLink RX9 63 "OrderSettler" "board" "LOrderSettler$Board;" : Cond) ∈ osX := wv6 _ (List.mem_of_getElem? (i := 11) rfl)
theorem wd540 : (.fieldLink RX9 67 "OrderSettler" "spareBoard" "LOrderSettler$Board;" : Cond) ∈ osX := wv6 _ (List.mem_of_getElem? (i := 12) rfl)
theorem wd541 : (.fieldLink RX9 71 "OrderSettler" "now" "LOrderSettler$State;" : Cond) ∈ osX := wv6 _ (List.mem_of_getElem? (i := 13) rfl)
theorem wd542 : (.fieldLink RX9 75 "OrderSettler" "draft" "LOrderSettler$State;" : Cond) ∈ osX := wv6 _ (List.mem_of_getElem? (i := 14) rfl)
theorem wd572 : (.methodLink RL 124 yX9_errorCode : Cond) ∈ osX := wv6 _ (List.mem_of_getElem? (i := 15) rfl)
theorem wd573 : (.instanceMethod yX9_errorCode : Cond) ∈ osX := wv6 _ (List.mem_of_getElem? (i := 16) rfl)
theorem wd574 : (.selects RX9 yX9_errorCode yX9_errorCode : Cond) ∈ osX := wv6 _ (List.mem_of_getElem? (i := 17) rfl)
theorem wd576 : (.methodLink RL 128 yX9_errorPosition : Cond) ∈ osX := wv6 _ (List.mem_of_getElem? (i := 18) rfl)
theorem wd577 : (.instanceMethod yX9_errorPosition : Cond) ∈ osX := wv6 _ (List.mem_of_getElem? (i := 19) rfl)
theorem wd578 : (.selects RX9 yX9_errorPosition yX9_errorPosition : Cond) ∈ osX := wv6 _ (List.mem_of_getElem? (i := 20) rfl)
theorem wd580 : (.methodLink RL 132 yX9_areas : Cond) ∈ osX := wv6 _ (List.mem_of_getElem? (i := 21) rfl)
theorem wd581 : (.instanceMethod yX9_areas : Cond) ∈ osX := wv6 _ (List.mem_of_getElem? (i := 22) rfl)
theorem wd582 : (.selects RX9 yX9_areas yX9_areas : Cond) ∈ osX := wv6 _ (List.mem_of_getElem? (i := 23) rfl)
theorem wd584 : (.methodLink RL 136 yX9_powers : Cond) ∈ osX := wv6 _ (List.mem_of_getElem? (i := 24) rfl)
theorem wd585 : (.instanceMethod yX9_powers : Cond) ∈ osX := wv6 _ (List.mem_of_getElem? (i := 25) rfl)
theorem wd586 : (.selects RX9 yX9_powers yX9_powers : Cond) ∈ osX := wv6 _ (List.mem_of_getElem? (i := 26) rfl)
theorem wd588 : (.methodLink RL 157 yX9_phase : Cond) ∈ osX := wv6 _ (List.mem_of_getElem? (i := 27) rfl)
theorem wd589 : (.instanceMethod yX9_phase : Cond) ∈ osX := wv6 _ (List.mem_of_getElem? (i := 28) rfl)
theorem wd590 : (.selects RX9 yX9_phase yX9_phase : Cond) ∈ osX := wv6 _ (List.mem_of_getElem? (i := 29) rfl)
theorem wd592 : (.methodLink RL 161 yX9_turn : Cond) ∈ osX := wv6 _ (List.mem_of_getElem? (i := 30) rfl)
theorem wd593 : (.instanceMethod yX9_turn : Cond) ∈ osX := wv6 _ (List.mem_of_getElem? (i := 31) rfl)
theorem wd594 : (.selects RX9 yX9_turn yX9_turn : Cond) ∈ osX := wv6 _ (List.mem_of_getElem? (i := 32) rfl)
theorem wd596 : (.methodLink RL 193 yX9_undoCount : Cond) ∈ osX := wv6 _ (List.mem_of_getElem? (i := 33) rfl)
theorem wd597 : (.instanceMethod yX9_undoCount : Cond) ∈ osX := wv6 _ (List.mem_of_getElem? (i := 34) rfl)
theorem wd598 : (.selects RX9 yX9_undoCount yX9_undoCount : Cond) ∈ osX := wv6 _ (List.mem_of_getElem? (i := 35) rfl)
theorem wd600 : (.methodLink RL 216 yX9_unevenness : Cond) ∈ osX := wv6 _ (List.mem_of_getElem? (i := 36) rfl)
theorem wd601 : (.instanceMethod yX9_unevenness : Cond) ∈ osX := wv6 _ (List.mem_of_getElem? (i := 37) rfl)
theorem wd602 : (.selects RX9 yX9_unevenness yX9_unevenness : Cond) ∈ osX := wv6 _ (List.mem_of_getElem? (i := 38) rfl)
theorem wd604 : (.methodLink RX9 310 yX9_sumOfSquares : Cond) ∈ osX := wv6 _ (List.mem_of_getElem? (i := 39) rfl)
theorem wd606 : (.instanceMethod yX9_sumOfSquares : Cond) ∈ osX := wv6 _ (List.mem_of_getElem? (i := 40) rfl)
theorem wd608 : (.methodLink RX9 243 yJ6_bitCount_0f7a4 : Cond) ∈ osX := wv6 _ (List.mem_of_getElem? (i := 41) rfl)
theorem wd609 : (.static yJ6_bitCount_0f7a4 : Cond) ∈ osX := wv6 _ (List.mem_of_getElem? (i := 42) rfl)
theorem wd611 : (.constant RJ6 265 (1431655765 : Int32) : Cond) ∈ osX := wv6 _ (List.mem_of_getElem? (i := 43) rfl)
theorem wd612 : (.constant RJ6 266 (858993459 : Int32) : Cond) ∈ osX := wv6 _ (List.mem_of_getElem? (i := 44) rfl)
theorem wd613 : (.constant RJ6 267 (252645135 : Int32) : Cond) ∈ osX := wv6 _ (List.mem_of_getElem? (i := 45) rfl)
theorem wd614 : (.methodLink RX9 188 yX5_countCenters : Cond) ∈ osX := wv6 _ (List.mem_of_getElem? (i := 46) rfl)
theorem wd615 : (.instanceMethod yX5_countCenters : Cond) ∈ osX := wv6 _ (List.mem_of_getElem? (i := 47) rfl)
theorem wd616 : (.selects RX5 yX5_countCenters yX5_countCenters : Cond) ∈ osX := wv6 _ (List.mem_of_getElem? (i := 48) rfl)
theorem wd618 : (.methodLink RX5 98 yX5_countOf : Cond) ∈ osX := wv6 _ (List.mem_of_getElem? (i := 49) rfl)
theorem wd619 : (.static yX5_countOf : Cond) ∈ osX := wv6 _ (List.mem_of_getElem? (i := 50) rfl)
theorem wd621 : (.methodLink RL 221 yX9_unevennessBits : Cond) ∈ osX := wv6 _ (List.mem_of_getElem? (i := 51) rfl)
theorem wd622 : (.instanceMethod yX9_unevennessBits : Cond) ∈ osX := wv6 _ (List.mem_of_getElem? (i := 52) rfl)
theorem wd623 : (.selects RX9 yX9_unevennessBits yX9_unevennessBits : Cond) ∈ osX := wv6 _ (List.mem_of_getElem? (i := 53) rfl)
theorem wd625 : (.methodLink RX9 314 yX9_doubleBits : Cond) ∈ osX := wv6 _ (List.mem_of_getElem? (i := 54) rfl)
theorem wd626 : (.static yX9_doubleBits : Cond) ∈ osX := wv6 _ (List.mem_of_getElem? (i := 55) rfl)
theorem wd628 : (.constantLong RX9 404 (1023 : Int64) : Cond) ∈ osX := wv6 _ (List.mem_of_getElem? (i := 56) rfl)
theorem wd629 : (.constantDouble RX9 406 (4611686018427387904 : UInt64) : Cond) ∈ osX := wv6 _ (List.mem_of_getElem? (i := 57) rfl)
theorem wd630 : (.constantDouble RX9 408 (4841369599423283200 : UInt64) : Cond) ∈ osX := wv6 _ (List.mem_of_getElem? (i := 58) rfl)
theorem wd631 : (.methodLink RL 229 yX9_writeUnits : Cond) ∈ osX := wv6 _ (List.mem_of_getElem? (i := 59) rfl)
def ww7 : List Cond := [.instanceMethod yX9_writeUnits, .selects RX9 yX9_writeUnits yX9_writeUnits, .methodLink RX9 323 yX5_hasUnit, .instanceMethod yX5_hasUnit, .selects RX5 yX5_hasUnit yX5_hasUnit, .methodLinkNest RX5 94 yX9_entry "OrderSettler", .static yX9_entry, .methodLink RX9 147 yX9_entry, .methodLink RX9 329 yX4_putName, .instanceMethod yX4_putName, .selects RX4 yX4_putName yX4_putName, .methodLink RX4 28 yX4_putByte, .instanceMethod yX4_putByte, .selects RX4 yX4_putByte yX4_putByte, .methodLink RX9 336 yX4_putText, .instanceMethod yX4_putText, .selects RX4 yX4_putText yX4_putText, .methodLink RX4 19 yJ0_length_8abf5, .instanceMethod yJ0_length_8abf5, .selects RJ0 yJ0_length_8abf5 yJ0_length_8abf5, .methodLink RJ0 335 yJ0_coder_7d493, .instanceMethod yJ0_coder_7d493, .selects RJ0 yJ0_coder_7d493 yJ0_coder_7d493, .fieldLink RJ0 38 "java/lang/String" "COMPACT_STRINGS" "Z", .methodLink RX4 24 yJ0_charAt_5068e, .instanceMethod yJ0_charAt_5068e, .selects RJ0 yJ0_charAt_5068e yJ0_charAt_5068e, .methodLink RJ0 492 yJ0_isLatin1_aae02, .instanceMethod yJ0_isLatin1_aae02, .selects RJ0 yJ0_isLatin1_aae02 yJ0_isLatin1_aae02, .methodLink RJ0 495 yJ1_charAt_3b067, .static yJ1_charAt_3b067, .methodLink RJ1 9 yJ0_checkIndex_df160, .static yJ0_checkIndex_df160, .fieldLink RJ0 1053 "jdk/internal/util/Preconditions" "SIOOBE_FORMATTER" "Ljava/util/function/BiFunction;", .methodLink RJ0 1059 yJ3_checkIndex_8e157, .static yJ3_checkIndex_8e157, .methodLink RX9 342 yX4_putByte, .methodLink RL 108 yL_feed, .static yL_feed, .classLink RL 13 "java/lang/IllegalStateException", .methodLink RL 7 yX9_feed, .instanceMethod yX9_feed, .selects RX9 yX9_feed yX9_feed, .classLink RX9 78 "java/lang/IllegalStateException", .castable "java/lang/IllegalStateException" "java/lang/IllegalStateException", .methodLink RX9 85 yX9_append, .instanceMethod yX9_append, .methodLink RL 117 yL_load, .static yL_load, .classLink RL 19 "java/lang/IllegalArgumentException", .methodLink RL 15 yX9_load, .instanceMethod yX9_load, .selects RX9 yX9_load yX9_load, .methodLink RX9 89 yX9_requireLength, .instanceMethod yX9_requireLength, .classLink RX9 289 "java/lang/IllegalArgumentException", .castable "java/lang/IllegalArgumentException" "java/lang/IllegalArgumentException", .methodLink RX9 93 yX3_readMap, .instanceMethod yX3_readMap]
theorem wv7 : ∀ w ∈ ww7, w ∈ osX := osX_at [632, 633, 635, 636, 637, 639, 640, 642, 643, 644, 645, 647, 648, 649, 653, 654, 655, 657, 658, 659, 661, 662, 663, 665, 667, 668, 669, 671, 672, 673, 675, 676, 678, 679, 681, 683, 684, 705, 706, 707, 709, 710, 711, 712, 714, 716, 782, 784, 786, 787, 789, 790, 791, 792, 794, 796, 798, 800, 814, 815] (by decide +kernel) (by decide +kernel)
theorem wd632 : (.instanceMethod yX9_writeUnits : Cond) ∈ osX := wv7 _ (List.mem_of_getElem? (i := 0) rfl)
theorem wd633 : (.selects RX9 yX9_writeUnits yX9_writeUnits : Cond) ∈ osX := wv7 _ (List.mem_of_getElem? (i := 1) rfl)
theorem wd635 : (.methodLink RX9 323 yX5_hasUnit : Cond) ∈ osX := wv7 _ (List.mem_of_getElem? (i := 2) rfl)
theorem wd636 : (.instanceMethod yX5_hasUnit : Cond) ∈ osX := wv7 _ (List.mem_of_getElem? (i := 3) rfl)
theorem wd637 : (.selects RX5 yX5_hasUnit yX5_hasUnit : Cond) ∈ osX := wv7 _ (List.mem_of_getElem? (i := 4) rfl)
theorem wd639 : (.methodLinkNest RX5 94 yX9_entry "OrderSettler" : Cond) ∈ osX := wv7 _ (List.mem_of_getElem? (i := 5) rfl)
theorem wd640 : (.static yX9_entry : Cond) ∈ osX := wv7 _ (List.mem_of_getElem? (i := 6) rfl)
theorem wd642 : (.methodLink RX9 147 yX9_entry : Cond) ∈ osX := wv7 _ (List.mem_of_getElem? (i := 7) rfl)
theorem wd643 : (.methodLink RX9 329 yX4_putName : Cond) ∈ osX := wv7 _ (List.mem_of_getElem? (i := 8) rfl)
theorem wd644 : (.instanceMethod yX4_putName : Cond) ∈ osX := wv7 _ (List.mem_of_getElem? (i := 9) rfl)
theorem wd645 : (.selects RX4 yX4_putName yX4_putName : Cond) ∈ osX := wv7 _ (List.mem_of_getElem? (i := 10) rfl)
theorem wd647 : (.methodLink RX4 28 yX4_putByte : Cond) ∈ osX := wv7 _ (List.mem_of_getElem? (i := 11) rfl)
theorem wd648 : (.instanceMethod yX4_putByte : Cond) ∈ osX := wv7 _ (List.mem_of_getElem? (i := 12) rfl)
theorem wd649 : (.selects RX4 yX4_putByte yX4_putByte : Cond) ∈ osX := wv7 _ (List.mem_of_getElem? (i := 13) rfl)
theorem wd653 : (.methodLink RX9 336 yX4_putText : Cond) ∈ osX := wv7 _ (List.mem_of_getElem? (i := 14) rfl)
theorem wd654 : (.instanceMethod yX4_putText : Cond) ∈ osX := wv7 _ (List.mem_of_getElem? (i := 15) rfl)
theorem wd655 : (.selects RX4 yX4_putText yX4_putText : Cond) ∈ osX := wv7 _ (List.mem_of_getElem? (i := 16) rfl)
theorem wd657 : (.methodLink RX4 19 yJ0_length_8abf5 : Cond) ∈ osX := wv7 _ (List.mem_of_getElem? (i := 17) rfl)
theorem wd658 : (.instanceMethod yJ0_length_8abf5 : Cond) ∈ osX := wv7 _ (List.mem_of_getElem? (i := 18) rfl)
theorem wd659 : (.selects RJ0 yJ0_length_8abf5 yJ0_length_8abf5 : Cond) ∈ osX := wv7 _ (List.mem_of_getElem? (i := 19) rfl)
theorem wd661 : (.methodLink RJ0 335 yJ0_coder_7d493 : Cond) ∈ osX := wv7 _ (List.mem_of_getElem? (i := 20) rfl)
theorem wd662 : (.instanceMethod yJ0_coder_7d493 : Cond) ∈ osX := wv7 _ (List.mem_of_getElem? (i := 21) rfl)
theorem wd663 : (.selects RJ0 yJ0_coder_7d493 yJ0_coder_7d493 : Cond) ∈ osX := wv7 _ (List.mem_of_getElem? (i := 22) rfl)
theorem wd665 : (.fieldLink RJ0 38 "java/lang/String" "COMPACT_STRINGS" "Z" : Cond) ∈ osX := wv7 _ (List.mem_of_getElem? (i := 23) rfl)
theorem wd667 : (.methodLink RX4 24 yJ0_charAt_5068e : Cond) ∈ osX := wv7 _ (List.mem_of_getElem? (i := 24) rfl)
theorem wd668 : (.instanceMethod yJ0_charAt_5068e : Cond) ∈ osX := wv7 _ (List.mem_of_getElem? (i := 25) rfl)
theorem wd669 : (.selects RJ0 yJ0_charAt_5068e yJ0_charAt_5068e : Cond) ∈ osX := wv7 _ (List.mem_of_getElem? (i := 26) rfl)
theorem wd671 : (.methodLink RJ0 492 yJ0_isLatin1_aae02 : Cond) ∈ osX := wv7 _ (List.mem_of_getElem? (i := 27) rfl)
theorem wd672 : (.instanceMethod yJ0_isLatin1_aae02 : Cond) ∈ osX := wv7 _ (List.mem_of_getElem? (i := 28) rfl)
theorem wd673 : (.selects RJ0 yJ0_isLatin1_aae02 yJ0_isLatin1_aae02 : Cond) ∈ osX := wv7 _ (List.mem_of_getElem? (i := 29) rfl)
theorem wd675 : (.methodLink RJ0 495 yJ1_charAt_3b067 : Cond) ∈ osX := wv7 _ (List.mem_of_getElem? (i := 30) rfl)
theorem wd676 : (.static yJ1_charAt_3b067 : Cond) ∈ osX := wv7 _ (List.mem_of_getElem? (i := 31) rfl)
theorem wd678 : (.methodLink RJ1 9 yJ0_checkIndex_df160 : Cond) ∈ osX := wv7 _ (List.mem_of_getElem? (i := 32) rfl)
theorem wd679 : (.static yJ0_checkIndex_df160 : Cond) ∈ osX := wv7 _ (List.mem_of_getElem? (i := 33) rfl)
theorem wd681 : (.fieldLink RJ0 1053 "jdk/internal/util/Preconditions" "SIOOBE_FORMATTER" "Ljava/util/function/BiFunction;" : Cond) ∈ osX := wv7 _ (List.mem_of_getElem? (i := 34) rfl)
theorem wd683 : (.methodLink RJ0 1059 yJ3_checkIndex_8e157 : Cond) ∈ osX := wv7 _ (List.mem_of_getElem? (i := 35) rfl)
theorem wd684 : (.static yJ3_checkIndex_8e157 : Cond) ∈ osX := wv7 _ (List.mem_of_getElem? (i := 36) rfl)
theorem wd705 : (.methodLink RX9 342 yX4_putByte : Cond) ∈ osX := wv7 _ (List.mem_of_getElem? (i := 37) rfl)
theorem wd706 : (.methodLink RL 108 yL_feed : Cond) ∈ osX := wv7 _ (List.mem_of_getElem? (i := 38) rfl)
theorem wd707 : (.static yL_feed : Cond) ∈ osX := wv7 _ (List.mem_of_getElem? (i := 39) rfl)
theorem wd709 : (.classLink RL 13 "java/lang/IllegalStateException" : Cond) ∈ osX := wv7 _ (List.mem_of_getElem? (i := 40) rfl)
theorem wd710 : (.methodLink RL 7 yX9_feed : Cond) ∈ osX := wv7 _ (List.mem_of_getElem? (i := 41) rfl)
theorem wd711 : (.instanceMethod yX9_feed : Cond) ∈ osX := wv7 _ (List.mem_of_getElem? (i := 42) rfl)
theorem wd712 : (.selects RX9 yX9_feed yX9_feed : Cond) ∈ osX := wv7 _ (List.mem_of_getElem? (i := 43) rfl)
theorem wd714 : (.classLink RX9 78 "java/lang/IllegalStateException" : Cond) ∈ osX := wv7 _ (List.mem_of_getElem? (i := 44) rfl)
theorem wd716 : (.castable "java/lang/IllegalStateException" "java/lang/IllegalStateException" : Cond) ∈ osX := wv7 _ (List.mem_of_getElem? (i := 45) rfl)
theorem wd782 : (.methodLink RX9 85 yX9_append : Cond) ∈ osX := wv7 _ (List.mem_of_getElem? (i := 46) rfl)
theorem wd784 : (.instanceMethod yX9_append : Cond) ∈ osX := wv7 _ (List.mem_of_getElem? (i := 47) rfl)
theorem wd786 : (.methodLink RL 117 yL_load : Cond) ∈ osX := wv7 _ (List.mem_of_getElem? (i := 48) rfl)
theorem wd787 : (.static yL_load : Cond) ∈ osX := wv7 _ (List.mem_of_getElem? (i := 49) rfl)
theorem wd789 : (.classLink RL 19 "java/lang/IllegalArgumentException" : Cond) ∈ osX := wv7 _ (List.mem_of_getElem? (i := 50) rfl)
theorem wd790 : (.methodLink RL 15 yX9_load : Cond) ∈ osX := wv7 _ (List.mem_of_getElem? (i := 51) rfl)
theorem wd791 : (.instanceMethod yX9_load : Cond) ∈ osX := wv7 _ (List.mem_of_getElem? (i := 52) rfl)
theorem wd792 : (.selects RX9 yX9_load yX9_load : Cond) ∈ osX := wv7 _ (List.mem_of_getElem? (i := 53) rfl)
theorem wd794 : (.methodLink RX9 89 yX9_requireLength : Cond) ∈ osX := wv7 _ (List.mem_of_getElem? (i := 54) rfl)
theorem wd796 : (.instanceMethod yX9_requireLength : Cond) ∈ osX := wv7 _ (List.mem_of_getElem? (i := 55) rfl)
theorem wd798 : (.classLink RX9 289 "java/lang/IllegalArgumentException" : Cond) ∈ osX := wv7 _ (List.mem_of_getElem? (i := 56) rfl)
theorem wd800 : (.castable "java/lang/IllegalArgumentException" "java/lang/IllegalArgumentException" : Cond) ∈ osX := wv7 _ (List.mem_of_getElem? (i := 57) rfl)
theorem wd814 : (.methodLink RX9 93 yX3_readMap : Cond) ∈ osX := wv7 _ (List.mem_of_getElem? (i := 58) rfl)
theorem wd815 : (.instanceMethod yX3_readMap : Cond) ∈ osX := wv7 _ (List.mem_of_getElem? (i := 59) rfl)
def ww8 : List Cond := [.selects RX3 yX3_readMap yX3_readMap, .methodLink RX3 9 yX0_clear, .methodLink RX3 14 yX5_clear, .methodLink RX3 17 ⟨"OrderSettler$MapReader", "begin", "([BI)V"⟩, .sameMethod "OrderSettler$MapReader" "OrderSettler$TextReader" "begin" "([BI)V", .selects RX3 ⟨"OrderSettler$MapReader", "begin", "([BI)V"⟩ yX6_begin, .instanceMethod yX6_begin, .methodLink RX6 44 yJ9_min_7cf53, .static yJ9_min_7cf53, .methodLink RX6 50 yX6_advance, .instanceMethod yX6_advance, .methodLink RX3 23 ⟨"OrderSettler$MapReader", "isAtEnd", "()Z"⟩, .sameMethod "OrderSettler$MapReader" "OrderSettler$TextReader" "isAtEnd" "()Z", .selects RX3 ⟨"OrderSettler$MapReader", "isAtEnd", "()Z"⟩ yX6_isAtEnd, .instanceMethod yX6_isAtEnd, .methodLink RX3 27 yX3_readStatement, .instanceMethod yX3_readStatement, .fieldLink RX3 38 "OrderSettler$Word" "LAND" "LOrderSettler$Word;", .methodLink RX3 44 ⟨"OrderSettler$MapReader", "take", "(LOrderSettler$Word;)Z"⟩, .sameMethod "OrderSettler$MapReader" "OrderSettler$TextReader" "take" "(LOrderSettler$Word;)Z", .selects RX3 ⟨"OrderSettler$MapReader", "take", "(LOrderSettler$Word;)Z"⟩ yX6_take, .instanceMethod yX6_take, .methodLink RX3 48 yX3_readArea, .instanceMethod yX3_readArea, .methodLink RX3 82 ⟨"OrderSettler$MapReader", "fail", "(II)Z"⟩, .sameMethod "OrderSettler$MapReader" "OrderSettler$TextReader" "fail" "(II)Z", .selects RX3 ⟨"OrderSettler$MapReader", "fail", "(II)Z"⟩ yX6_fail, .instanceMethod yX6_fail, .methodLink RX3 89 ⟨"OrderSettler$MapReader", "takeName", "()I"⟩, .sameMethod "OrderSettler$MapReader" "OrderSettler$TextReader" "takeName" "()I", .selects RX3 ⟨"OrderSettler$MapReader", "takeName", "()I"⟩ yX6_takeName, .instanceMethod yX6_takeName, .methodLink RX6 64 yX8_isKeyword, .static yX8_isKeyword, .fieldLink RX8 88 "OrderSettler$Word" "ALL" "[LOrderSettler$Word;", .methodLink RX6 60 yX6_fail, .methodLink RX3 93 yX0_findArea, .instanceMethod yX0_findArea, .selects RX0 yX0_findArea yX0_findArea, .fieldLink RX3 100 "OrderSettler$Word" "CENTER" "LOrderSettler$Word;", .methodLink RX3 103 yX0_addArea, .instanceMethod yX0_addArea, .selects RX0 yX0_addArea yX0_addArea, .methodLinkNest RX0 50 yX9_bit "OrderSettler", .static yX9_bit, .fieldLink RX3 52 "OrderSettler$Word" "COAST" "LOrderSettler$Word;", .fieldLink RX3 55 "OrderSettler$Word" "SEA" "LOrderSettler$Word;", .fieldLink RX3 58 "OrderSettler$Word" "BORDER" "LOrderSettler$Word;", .methodLink RX3 61 yX3_readBorder, .instanceMethod yX3_readBorder, .methodLink RX3 107 ⟨"OrderSettler$MapReader", "takeArea", "(LOrderSettler$Board;)I"⟩, .sameMethod "OrderSettler$MapReader" "OrderSettler$TextReader" "takeArea" "(LOrderSettler$Board;)I", .selects RX3 ⟨"OrderSettler$MapReader", "takeArea", "(LOrderSettler$Board;)I"⟩ yX6_takeArea, .instanceMethod yX6_takeArea, .methodLink RX6 68 yX6_takeName, .methodLink RX6 72 yX0_findArea, .methodLink RX3 111 yX0_hasBorder, .instanceMethod yX0_hasBorder, .selects RX0 yX0_hasBorder yX0_hasBorder, .methodLink RX0 58 yX0_letsPass]
theorem wv8 : ∀ w ∈ ww8, w ∈ osX := osX_at [816, 818, 819, 820, 821, 823, 824, 826, 827, 829, 831, 833, 834, 836, 837, 839, 841, 843, 845, 846, 848, 849, 851, 853, 855, 856, 858, 859, 861, 862, 864, 865, 867, 868, 870, 872, 873, 874, 875, 877, 879, 880, 881, 883, 884, 886, 888, 890, 892, 894, 896, 897, 899, 900, 902, 903, 904, 905, 906, 908] (by decide +kernel) (by decide +kernel)
theorem wd816 : (.selects RX3 yX3_readMap yX3_readMap : Cond) ∈ osX := wv8 _ (List.mem_of_getElem? (i := 0) rfl)
theorem wd818 : (.methodLink RX3 9 yX0_clear : Cond) ∈ osX := wv8 _ (List.mem_of_getElem? (i := 1) rfl)
theorem wd819 : (.methodLink RX3 14 yX5_clear : Cond) ∈ osX := wv8 _ (List.mem_of_getElem? (i := 2) rfl)
theorem wd820 : (.methodLink RX3 17 ⟨"OrderSettler$MapReader", "begin", "([BI)V"⟩ : Cond) ∈ osX := wv8 _ (List.mem_of_getElem? (i := 3) rfl)
theorem wd821 : (.sameMethod "OrderSettler$MapReader" "OrderSettler$TextReader" "begin" "([BI)V" : Cond) ∈ osX := wv8 _ (List.mem_of_getElem? (i := 4) rfl)
theorem wd823 : (.selects RX3 ⟨"OrderSettler$MapReader", "begin", "([BI)V"⟩ yX6_begin : Cond) ∈ osX := wv8 _ (List.mem_of_getElem? (i := 5) rfl)
theorem wd824 : (.instanceMethod yX6_begin : Cond) ∈ osX := wv8 _ (List.mem_of_getElem? (i := 6) rfl)
theorem wd826 : (.methodLink RX6 44 yJ9_min_7cf53 : Cond) ∈ osX := wv8 _ (List.mem_of_getElem? (i := 7) rfl)
theorem wd827 : (.static yJ9_min_7cf53 : Cond) ∈ osX := wv8 _ (List.mem_of_getElem? (i := 8) rfl)
theorem wd829 : (.methodLink RX6 50 yX6_advance : Cond) ∈ osX := wv8 _ (List.mem_of_getElem? (i := 9) rfl)
theorem wd831 : (.instanceMethod yX6_advance : Cond) ∈ osX := wv8 _ (List.mem_of_getElem? (i := 10) rfl)
theorem wd833 : (.methodLink RX3 23 ⟨"OrderSettler$MapReader", "isAtEnd", "()Z"⟩ : Cond) ∈ osX := wv8 _ (List.mem_of_getElem? (i := 11) rfl)
theorem wd834 : (.sameMethod "OrderSettler$MapReader" "OrderSettler$TextReader" "isAtEnd" "()Z" : Cond) ∈ osX := wv8 _ (List.mem_of_getElem? (i := 12) rfl)
theorem wd836 : (.selects RX3 ⟨"OrderSettler$MapReader", "isAtEnd", "()Z"⟩ yX6_isAtEnd : Cond) ∈ osX := wv8 _ (List.mem_of_getElem? (i := 13) rfl)
theorem wd837 : (.instanceMethod yX6_isAtEnd : Cond) ∈ osX := wv8 _ (List.mem_of_getElem? (i := 14) rfl)
theorem wd839 : (.methodLink RX3 27 yX3_readStatement : Cond) ∈ osX := wv8 _ (List.mem_of_getElem? (i := 15) rfl)
theorem wd841 : (.instanceMethod yX3_readStatement : Cond) ∈ osX := wv8 _ (List.mem_of_getElem? (i := 16) rfl)
theorem wd843 : (.fieldLink RX3 38 "OrderSettler$Word" "LAND" "LOrderSettler$Word;" : Cond) ∈ osX := wv8 _ (List.mem_of_getElem? (i := 17) rfl)
theorem wd845 : (.methodLink RX3 44 ⟨"OrderSettler$MapReader", "take", "(LOrderSettler$Word;)Z"⟩ : Cond) ∈ osX := wv8 _ (List.mem_of_getElem? (i := 18) rfl)
theorem wd846 : (.sameMethod "OrderSettler$MapReader" "OrderSettler$TextReader" "take" "(LOrderSettler$Word;)Z" : Cond) ∈ osX := wv8 _ (List.mem_of_getElem? (i := 19) rfl)
theorem wd848 : (.selects RX3 ⟨"OrderSettler$MapReader", "take", "(LOrderSettler$Word;)Z"⟩ yX6_take : Cond) ∈ osX := wv8 _ (List.mem_of_getElem? (i := 20) rfl)
theorem wd849 : (.instanceMethod yX6_take : Cond) ∈ osX := wv8 _ (List.mem_of_getElem? (i := 21) rfl)
theorem wd851 : (.methodLink RX3 48 yX3_readArea : Cond) ∈ osX := wv8 _ (List.mem_of_getElem? (i := 22) rfl)
theorem wd853 : (.instanceMethod yX3_readArea : Cond) ∈ osX := wv8 _ (List.mem_of_getElem? (i := 23) rfl)
theorem wd855 : (.methodLink RX3 82 ⟨"OrderSettler$MapReader", "fail", "(II)Z"⟩ : Cond) ∈ osX := wv8 _ (List.mem_of_getElem? (i := 24) rfl)
theorem wd856 : (.sameMethod "OrderSettler$MapReader" "OrderSettler$TextReader" "fail" "(II)Z" : Cond) ∈ osX := wv8 _ (List.mem_of_getElem? (i := 25) rfl)
theorem wd858 : (.selects RX3 ⟨"OrderSettler$MapReader", "fail", "(II)Z"⟩ yX6_fail : Cond) ∈ osX := wv8 _ (List.mem_of_getElem? (i := 26) rfl)
theorem wd859 : (.instanceMethod yX6_fail : Cond) ∈ osX := wv8 _ (List.mem_of_getElem? (i := 27) rfl)
theorem wd861 : (.methodLink RX3 89 ⟨"OrderSettler$MapReader", "takeName", "()I"⟩ : Cond) ∈ osX := wv8 _ (List.mem_of_getElem? (i := 28) rfl)
theorem wd862 : (.sameMethod "OrderSettler$MapReader" "OrderSettler$TextReader" "takeName" "()I" : Cond) ∈ osX := wv8 _ (List.mem_of_getElem? (i := 29) rfl)
theorem wd864 : (.selects RX3 ⟨"OrderSettler$MapReader", "takeName", "()I"⟩ yX6_takeName : Cond) ∈ osX := wv8 _ (List.mem_of_getElem? (i := 30) rfl)
theorem wd865 : (.instanceMethod yX6_takeName : Cond) ∈ osX := wv8 _ (List.mem_of_getElem? (i := 31) rfl)
theorem wd867 : (.methodLink RX6 64 yX8_isKeyword : Cond) ∈ osX := wv8 _ (List.mem_of_getElem? (i := 32) rfl)
theorem wd868 : (.static yX8_isKeyword : Cond) ∈ osX := wv8 _ (List.mem_of_getElem? (i := 33) rfl)
theorem wd870 : (.fieldLink RX8 88 "OrderSettler$Word" "ALL" "[LOrderSettler$Word;" : Cond) ∈ osX := wv8 _ (List.mem_of_getElem? (i := 34) rfl)
theorem wd872 : (.methodLink RX6 60 yX6_fail : Cond) ∈ osX := wv8 _ (List.mem_of_getElem? (i := 35) rfl)
theorem wd873 : (.methodLink RX3 93 yX0_findArea : Cond) ∈ osX := wv8 _ (List.mem_of_getElem? (i := 36) rfl)
theorem wd874 : (.instanceMethod yX0_findArea : Cond) ∈ osX := wv8 _ (List.mem_of_getElem? (i := 37) rfl)
theorem wd875 : (.selects RX0 yX0_findArea yX0_findArea : Cond) ∈ osX := wv8 _ (List.mem_of_getElem? (i := 38) rfl)
theorem wd877 : (.fieldLink RX3 100 "OrderSettler$Word" "CENTER" "LOrderSettler$Word;" : Cond) ∈ osX := wv8 _ (List.mem_of_getElem? (i := 39) rfl)
theorem wd879 : (.methodLink RX3 103 yX0_addArea : Cond) ∈ osX := wv8 _ (List.mem_of_getElem? (i := 40) rfl)
theorem wd880 : (.instanceMethod yX0_addArea : Cond) ∈ osX := wv8 _ (List.mem_of_getElem? (i := 41) rfl)
theorem wd881 : (.selects RX0 yX0_addArea yX0_addArea : Cond) ∈ osX := wv8 _ (List.mem_of_getElem? (i := 42) rfl)
theorem wd883 : (.methodLinkNest RX0 50 yX9_bit "OrderSettler" : Cond) ∈ osX := wv8 _ (List.mem_of_getElem? (i := 43) rfl)
theorem wd884 : (.static yX9_bit : Cond) ∈ osX := wv8 _ (List.mem_of_getElem? (i := 44) rfl)
theorem wd886 : (.fieldLink RX3 52 "OrderSettler$Word" "COAST" "LOrderSettler$Word;" : Cond) ∈ osX := wv8 _ (List.mem_of_getElem? (i := 45) rfl)
theorem wd888 : (.fieldLink RX3 55 "OrderSettler$Word" "SEA" "LOrderSettler$Word;" : Cond) ∈ osX := wv8 _ (List.mem_of_getElem? (i := 46) rfl)
theorem wd890 : (.fieldLink RX3 58 "OrderSettler$Word" "BORDER" "LOrderSettler$Word;" : Cond) ∈ osX := wv8 _ (List.mem_of_getElem? (i := 47) rfl)
theorem wd892 : (.methodLink RX3 61 yX3_readBorder : Cond) ∈ osX := wv8 _ (List.mem_of_getElem? (i := 48) rfl)
theorem wd894 : (.instanceMethod yX3_readBorder : Cond) ∈ osX := wv8 _ (List.mem_of_getElem? (i := 49) rfl)
theorem wd896 : (.methodLink RX3 107 ⟨"OrderSettler$MapReader", "takeArea", "(LOrderSettler$Board;)I"⟩ : Cond) ∈ osX := wv8 _ (List.mem_of_getElem? (i := 50) rfl)
theorem wd897 : (.sameMethod "OrderSettler$MapReader" "OrderSettler$TextReader" "takeArea" "(LOrderSettler$Board;)I" : Cond) ∈ osX := wv8 _ (List.mem_of_getElem? (i := 51) rfl)
theorem wd899 : (.selects RX3 ⟨"OrderSettler$MapReader", "takeArea", "(LOrderSettler$Board;)I"⟩ yX6_takeArea : Cond) ∈ osX := wv8 _ (List.mem_of_getElem? (i := 52) rfl)
theorem wd900 : (.instanceMethod yX6_takeArea : Cond) ∈ osX := wv8 _ (List.mem_of_getElem? (i := 53) rfl)
theorem wd902 : (.methodLink RX6 68 yX6_takeName : Cond) ∈ osX := wv8 _ (List.mem_of_getElem? (i := 54) rfl)
theorem wd903 : (.methodLink RX6 72 yX0_findArea : Cond) ∈ osX := wv8 _ (List.mem_of_getElem? (i := 55) rfl)
theorem wd904 : (.methodLink RX3 111 yX0_hasBorder : Cond) ∈ osX := wv8 _ (List.mem_of_getElem? (i := 56) rfl)
theorem wd905 : (.instanceMethod yX0_hasBorder : Cond) ∈ osX := wv8 _ (List.mem_of_getElem? (i := 57) rfl)
theorem wd906 : (.selects RX0 yX0_hasBorder yX0_hasBorder : Cond) ∈ osX := wv8 _ (List.mem_of_getElem? (i := 58) rfl)
theorem wd908 : (.methodLink RX0 58 yX0_letsPass : Cond) ∈ osX := wv8 _ (List.mem_of_getElem? (i := 59) rfl)
def ww9 : List Cond := [.instanceMethod yX0_letsPass, .selects RX0 yX0_letsPass yX0_letsPass, .fieldLink RX3 72 "OrderSettler$Word" "ARMY" "LOrderSettler$Word;", .fieldLink RX3 79 "OrderSettler$Word" "FLEET" "LOrderSettler$Word;", .methodLink RX3 114 yX0_suits, .instanceMethod yX0_suits, .selects RX0 yX0_suits yX0_suits, .methodLinkNest RX0 46 yX9_has "OrderSettler", .static yX9_has, .methodLink RX3 117 yX0_addBorder, .instanceMethod yX0_addBorder, .selects RX0 yX0_addBorder yX0_addBorder, .methodLink RX0 54 yX0_isArea, .instanceMethod yX0_isArea, .selects RX0 yX0_isArea yX0_isArea, .fieldLink RX3 65 "OrderSettler$Word" "POWER" "LOrderSettler$Word;", .methodLink RX3 68 yX3_readPower, .instanceMethod yX3_readPower, .methodLink RX3 124 yX0_findPower, .instanceMethod yX0_findPower, .selects RX0 yX0_findPower yX0_findPower, .methodLink RX3 127 yX0_addPower, .instanceMethod yX0_addPower, .selects RX0 yX0_addPower yX0_addPower, .methodLink RX3 130 ⟨"OrderSettler$MapReader", "isAtWord", "()Z"⟩, .sameMethod "OrderSettler$MapReader" "OrderSettler$TextReader" "isAtWord" "()Z", .selects RX3 ⟨"OrderSettler$MapReader", "isAtWord", "()Z"⟩ yX6_isAtWord, .instanceMethod yX6_isAtWord, .methodLink RX3 133 yX3_readHome, .instanceMethod yX3_readHome, .methodLinkNest RX3 140 yX9_entry "OrderSettler", .methodLinkNest RX3 147 yX9_has "OrderSettler", .methodLink RX3 150 yX0_makeHome, .instanceMethod yX0_makeHome, .selects RX0 yX0_makeHome yX0_makeHome, .methodLink RX3 154 yX5_giveCenter, .instanceMethod yX5_giveCenter, .selects RX5 yX5_giveCenter yX5_giveCenter, .methodLink RX3 75 yX3_readUnit, .instanceMethod yX3_readUnit, .methodLink RX3 157 yX5_countAllUnits, .instanceMethod yX5_countAllUnits, .selects RX5 yX5_countAllUnits yX5_countAllUnits, .methodLink RX3 160 yX5_hasUnit, .methodLink RX3 164 yX5_placeUnit, .instanceMethod yX5_placeUnit, .selects RX5 yX5_placeUnit yX5_placeUnit, .methodLink RX3 31 ⟨"OrderSettler$MapReader", "takeSemicolon", "()Z"⟩, .sameMethod "OrderSettler$MapReader" "OrderSettler$TextReader" "takeSemicolon" "()Z", .selects RX3 ⟨"OrderSettler$MapReader", "takeSemicolon", "()Z"⟩ yX6_takeSemicolon, .instanceMethod yX6_takeSemicolon, .methodLink RX9 97 yX9_noteError, .instanceMethod yX9_noteError, .methodLink RX9 103 yX9_adoptDraft, .instanceMethod yX9_adoptDraft, .methodLink RX9 106 yX5_countAllUnits, .methodLink RL 121 yL_tell, .static yL_tell, .methodLink RL 21 yX9_tell, .instanceMethod yX9_tell]
theorem wv9 : ∀ w ∈ ww9, w ∈ osX := osX_at [909, 910, 912, 914, 916, 917, 918, 920, 921, 923, 924, 925, 927, 928, 929, 931, 933, 935, 937, 938, 939, 941, 942, 943, 945, 946, 948, 949, 951, 953, 955, 956, 957, 958, 959, 961, 962, 963, 965, 967, 969, 970, 971, 973, 974, 975, 976, 978, 979, 981, 982, 984, 986, 989, 991, 993, 994, 995, 997, 998] (by decide +kernel) (by decide +kernel)
theorem wd909 : (.instanceMethod yX0_letsPass : Cond) ∈ osX := wv9 _ (List.mem_of_getElem? (i := 0) rfl)
theorem wd910 : (.selects RX0 yX0_letsPass yX0_letsPass : Cond) ∈ osX := wv9 _ (List.mem_of_getElem? (i := 1) rfl)
theorem wd912 : (.fieldLink RX3 72 "OrderSettler$Word" "ARMY" "LOrderSettler$Word;" : Cond) ∈ osX := wv9 _ (List.mem_of_getElem? (i := 2) rfl)
theorem wd914 : (.fieldLink RX3 79 "OrderSettler$Word" "FLEET" "LOrderSettler$Word;" : Cond) ∈ osX := wv9 _ (List.mem_of_getElem? (i := 3) rfl)
theorem wd916 : (.methodLink RX3 114 yX0_suits : Cond) ∈ osX := wv9 _ (List.mem_of_getElem? (i := 4) rfl)
theorem wd917 : (.instanceMethod yX0_suits : Cond) ∈ osX := wv9 _ (List.mem_of_getElem? (i := 5) rfl)
theorem wd918 : (.selects RX0 yX0_suits yX0_suits : Cond) ∈ osX := wv9 _ (List.mem_of_getElem? (i := 6) rfl)
theorem wd920 : (.methodLinkNest RX0 46 yX9_has "OrderSettler" : Cond) ∈ osX := wv9 _ (List.mem_of_getElem? (i := 7) rfl)
theorem wd921 : (.static yX9_has : Cond) ∈ osX := wv9 _ (List.mem_of_getElem? (i := 8) rfl)
theorem wd923 : (.methodLink RX3 117 yX0_addBorder : Cond) ∈ osX := wv9 _ (List.mem_of_getElem? (i := 9) rfl)
theorem wd924 : (.instanceMethod yX0_addBorder : Cond) ∈ osX := wv9 _ (List.mem_of_getElem? (i := 10) rfl)
theorem wd925 : (.selects RX0 yX0_addBorder yX0_addBorder : Cond) ∈ osX := wv9 _ (List.mem_of_getElem? (i := 11) rfl)
theorem wd927 : (.methodLink RX0 54 yX0_isArea : Cond) ∈ osX := wv9 _ (List.mem_of_getElem? (i := 12) rfl)
theorem wd928 : (.instanceMethod yX0_isArea : Cond) ∈ osX := wv9 _ (List.mem_of_getElem? (i := 13) rfl)
theorem wd929 : (.selects RX0 yX0_isArea yX0_isArea : Cond) ∈ osX := wv9 _ (List.mem_of_getElem? (i := 14) rfl)
theorem wd931 : (.fieldLink RX3 65 "OrderSettler$Word" "POWER" "LOrderSettler$Word;" : Cond) ∈ osX := wv9 _ (List.mem_of_getElem? (i := 15) rfl)
theorem wd933 : (.methodLink RX3 68 yX3_readPower : Cond) ∈ osX := wv9 _ (List.mem_of_getElem? (i := 16) rfl)
theorem wd935 : (.instanceMethod yX3_readPower : Cond) ∈ osX := wv9 _ (List.mem_of_getElem? (i := 17) rfl)
theorem wd937 : (.methodLink RX3 124 yX0_findPower : Cond) ∈ osX := wv9 _ (List.mem_of_getElem? (i := 18) rfl)
theorem wd938 : (.instanceMethod yX0_findPower : Cond) ∈ osX := wv9 _ (List.mem_of_getElem? (i := 19) rfl)
theorem wd939 : (.selects RX0 yX0_findPower yX0_findPower : Cond) ∈ osX := wv9 _ (List.mem_of_getElem? (i := 20) rfl)
theorem wd941 : (.methodLink RX3 127 yX0_addPower : Cond) ∈ osX := wv9 _ (List.mem_of_getElem? (i := 21) rfl)
theorem wd942 : (.instanceMethod yX0_addPower : Cond) ∈ osX := wv9 _ (List.mem_of_getElem? (i := 22) rfl)
theorem wd943 : (.selects RX0 yX0_addPower yX0_addPower : Cond) ∈ osX := wv9 _ (List.mem_of_getElem? (i := 23) rfl)
theorem wd945 : (.methodLink RX3 130 ⟨"OrderSettler$MapReader", "isAtWord", "()Z"⟩ : Cond) ∈ osX := wv9 _ (List.mem_of_getElem? (i := 24) rfl)
theorem wd946 : (.sameMethod "OrderSettler$MapReader" "OrderSettler$TextReader" "isAtWord" "()Z" : Cond) ∈ osX := wv9 _ (List.mem_of_getElem? (i := 25) rfl)
theorem wd948 : (.selects RX3 ⟨"OrderSettler$MapReader", "isAtWord", "()Z"⟩ yX6_isAtWord : Cond) ∈ osX := wv9 _ (List.mem_of_getElem? (i := 26) rfl)
theorem wd949 : (.instanceMethod yX6_isAtWord : Cond) ∈ osX := wv9 _ (List.mem_of_getElem? (i := 27) rfl)
theorem wd951 : (.methodLink RX3 133 yX3_readHome : Cond) ∈ osX := wv9 _ (List.mem_of_getElem? (i := 28) rfl)
theorem wd953 : (.instanceMethod yX3_readHome : Cond) ∈ osX := wv9 _ (List.mem_of_getElem? (i := 29) rfl)
theorem wd955 : (.methodLinkNest RX3 140 yX9_entry "OrderSettler" : Cond) ∈ osX := wv9 _ (List.mem_of_getElem? (i := 30) rfl)
theorem wd956 : (.methodLinkNest RX3 147 yX9_has "OrderSettler" : Cond) ∈ osX := wv9 _ (List.mem_of_getElem? (i := 31) rfl)
theorem wd957 : (.methodLink RX3 150 yX0_makeHome : Cond) ∈ osX := wv9 _ (List.mem_of_getElem? (i := 32) rfl)
theorem wd958 : (.instanceMethod yX0_makeHome : Cond) ∈ osX := wv9 _ (List.mem_of_getElem? (i := 33) rfl)
theorem wd959 : (.selects RX0 yX0_makeHome yX0_makeHome : Cond) ∈ osX := wv9 _ (List.mem_of_getElem? (i := 34) rfl)
theorem wd961 : (.methodLink RX3 154 yX5_giveCenter : Cond) ∈ osX := wv9 _ (List.mem_of_getElem? (i := 35) rfl)
theorem wd962 : (.instanceMethod yX5_giveCenter : Cond) ∈ osX := wv9 _ (List.mem_of_getElem? (i := 36) rfl)
theorem wd963 : (.selects RX5 yX5_giveCenter yX5_giveCenter : Cond) ∈ osX := wv9 _ (List.mem_of_getElem? (i := 37) rfl)
theorem wd965 : (.methodLink RX3 75 yX3_readUnit : Cond) ∈ osX := wv9 _ (List.mem_of_getElem? (i := 38) rfl)
theorem wd967 : (.instanceMethod yX3_readUnit : Cond) ∈ osX := wv9 _ (List.mem_of_getElem? (i := 39) rfl)
theorem wd969 : (.methodLink RX3 157 yX5_countAllUnits : Cond) ∈ osX := wv9 _ (List.mem_of_getElem? (i := 40) rfl)
theorem wd970 : (.instanceMethod yX5_countAllUnits : Cond) ∈ osX := wv9 _ (List.mem_of_getElem? (i := 41) rfl)
theorem wd971 : (.selects RX5 yX5_countAllUnits yX5_countAllUnits : Cond) ∈ osX := wv9 _ (List.mem_of_getElem? (i := 42) rfl)
theorem wd973 : (.methodLink RX3 160 yX5_hasUnit : Cond) ∈ osX := wv9 _ (List.mem_of_getElem? (i := 43) rfl)
theorem wd974 : (.methodLink RX3 164 yX5_placeUnit : Cond) ∈ osX := wv9 _ (List.mem_of_getElem? (i := 44) rfl)
theorem wd975 : (.instanceMethod yX5_placeUnit : Cond) ∈ osX := wv9 _ (List.mem_of_getElem? (i := 45) rfl)
theorem wd976 : (.selects RX5 yX5_placeUnit yX5_placeUnit : Cond) ∈ osX := wv9 _ (List.mem_of_getElem? (i := 46) rfl)
theorem wd978 : (.methodLink RX3 31 ⟨"OrderSettler$MapReader", "takeSemicolon", "()Z"⟩ : Cond) ∈ osX := wv9 _ (List.mem_of_getElem? (i := 47) rfl)
theorem wd979 : (.sameMethod "OrderSettler$MapReader" "OrderSettler$TextReader" "takeSemicolon" "()Z" : Cond) ∈ osX := wv9 _ (List.mem_of_getElem? (i := 48) rfl)
theorem wd981 : (.selects RX3 ⟨"OrderSettler$MapReader", "takeSemicolon", "()Z"⟩ yX6_takeSemicolon : Cond) ∈ osX := wv9 _ (List.mem_of_getElem? (i := 49) rfl)
theorem wd982 : (.instanceMethod yX6_takeSemicolon : Cond) ∈ osX := wv9 _ (List.mem_of_getElem? (i := 50) rfl)
theorem wd984 : (.methodLink RX9 97 yX9_noteError : Cond) ∈ osX := wv9 _ (List.mem_of_getElem? (i := 51) rfl)
theorem wd986 : (.instanceMethod yX9_noteError : Cond) ∈ osX := wv9 _ (List.mem_of_getElem? (i := 52) rfl)
theorem wd989 : (.methodLink RX9 103 yX9_adoptDraft : Cond) ∈ osX := wv9 _ (List.mem_of_getElem? (i := 53) rfl)
theorem wd991 : (.instanceMethod yX9_adoptDraft : Cond) ∈ osX := wv9 _ (List.mem_of_getElem? (i := 54) rfl)
theorem wd993 : (.methodLink RX9 106 yX5_countAllUnits : Cond) ∈ osX := wv9 _ (List.mem_of_getElem? (i := 55) rfl)
theorem wd994 : (.methodLink RL 121 yL_tell : Cond) ∈ osX := wv9 _ (List.mem_of_getElem? (i := 56) rfl)
theorem wd995 : (.static yL_tell : Cond) ∈ osX := wv9 _ (List.mem_of_getElem? (i := 57) rfl)
theorem wd997 : (.methodLink RL 21 yX9_tell : Cond) ∈ osX := wv9 _ (List.mem_of_getElem? (i := 58) rfl)
theorem wd998 : (.instanceMethod yX9_tell : Cond) ∈ osX := wv9 _ (List.mem_of_getElem? (i := 59) rfl)
def ww10 : List Cond := [.selects RX9 yX9_tell yX9_tell, .methodLink RX9 110 yX5_copyFrom, .instanceMethod yX5_copyFrom, .selects RX5 yX5_copyFrom yX5_copyFrom, .methodLink RX5 78 yX5_copyRow, .static yX5_copyRow, .methodLink RX5 82 yJ9_min_7cf53, .methodLink RX5 88 ⟨"java/lang/System", "arraycopy", "(Ljava/lang/Object;ILjava/lang/Object;II)V"⟩, .static ⟨"java/lang/System", "arraycopy", "(Ljava/lang/Object;ILjava/lang/Object;II)V"⟩, .native ⟨"java/lang/System", "arraycopy", "(Ljava/lang/Object;ILjava/lang/Object;II)V"⟩, .methodLink RX9 114 yX7_readAll, .instanceMethod yX7_readAll, .selects RX7 yX7_readAll yX7_readAll, .methodLink RX7 9 ⟨"OrderSettler$TurnReader", "begin", "([BI)V"⟩, .sameMethod "OrderSettler$TurnReader" "OrderSettler$TextReader" "begin" "([BI)V", .selects RX7 ⟨"OrderSettler$TurnReader", "begin", "([BI)V"⟩ yX6_begin, .methodLink RX7 15 ⟨"OrderSettler$TurnReader", "isAtEnd", "()Z"⟩, .sameMethod "OrderSettler$TurnReader" "OrderSettler$TextReader" "isAtEnd" "()Z", .selects RX7 ⟨"OrderSettler$TurnReader", "isAtEnd", "()Z"⟩ yX6_isAtEnd, .methodLink RX7 19 yX7_readOne, .instanceMethod yX7_readOne, .methodLink RX7 32 yX7_readOrder, .instanceMethod yX7_readOrder, .methodLink RX7 60 ⟨"OrderSettler$TurnReader", "takeArea", "(LOrderSettler$Board;)I"⟩, .sameMethod "OrderSettler$TurnReader" "OrderSettler$TextReader" "takeArea" "(LOrderSettler$Board;)I", .selects RX7 ⟨"OrderSettler$TurnReader", "takeArea", "(LOrderSettler$Board;)I"⟩ yX6_takeArea, .methodLink RX7 64 yX5_hasUnit, .methodLink RX7 71 ⟨"OrderSettler$TurnReader", "fail", "(II)Z"⟩, .sameMethod "OrderSettler$TurnReader" "OrderSettler$TextReader" "fail" "(II)Z", .selects RX7 ⟨"OrderSettler$TurnReader", "fail", "(II)Z"⟩ yX6_fail, .fieldLink RX7 75 "OrderSettler$Word" "HOLD" "LOrderSettler$Word;", .methodLink RX7 44 ⟨"OrderSettler$TurnReader", "take", "(LOrderSettler$Word;)Z"⟩, .sameMethod "OrderSettler$TurnReader" "OrderSettler$TextReader" "take" "(LOrderSettler$Word;)Z", .selects RX7 ⟨"OrderSettler$TurnReader", "take", "(LOrderSettler$Word;)Z"⟩ yX6_take, .methodLink RX7 78 yX5_giveOrder, .fieldLink RX7 82 "OrderSettler$Word" "TO" "LOrderSettler$Word;", .methodLink RX7 85 yX7_readMove, .instanceMethod yX7_readMove, .methodLink RX7 101 yX5_allowsMove, .instanceMethod yX5_allowsMove, .selects RX5 yX5_allowsMove yX5_allowsMove, .methodLink RX5 130 yX5_canGo, .instanceMethod yX5_canGo, .selects RX5 yX5_canGo yX5_canGo, .methodLink RX5 134 yX0_letsPass, .methodLink RX5 138 yX5_hasArmy, .instanceMethod yX5_hasArmy, .methodLink RX5 141 yX5_joinsCoasts, .static yX5_joinsCoasts, .methodLinkNest RX5 147 yX9_has "OrderSettler", .fieldLink RX7 89 "OrderSettler$Word" "SUPPORT" "LOrderSettler$Word;", .methodLink RX7 92 yX7_readSupport, .instanceMethod yX7_readSupport, .methodLink RX7 105 yX5_allowsUnitSupport, .instanceMethod yX5_allowsUnitSupport, .selects RX5 yX5_allowsUnitSupport yX5_allowsUnitSupport, .methodLink RX5 126 yX5_hasUnit, .methodLink RX7 108 yX5_allowsMoveSupport, .instanceMethod yX5_allowsMoveSupport, .selects RX5 yX5_allowsMoveSupport yX5_allowsMoveSupport]
theorem wv10 : ∀ w ∈ ww10, w ∈ osX := osX_at [999, 1001, 1002, 1003, 1005, 1006, 1008, 1009, 1010, 1011, 1012, 1013, 1014, 1016, 1017, 1018, 1019, 1020, 1021, 1022, 1024, 1026, 1028, 1030, 1031, 1032, 1033, 1034, 1035, 1036, 1037, 1039, 1040, 1041, 1042, 1043, 1045, 1047, 1049, 1050, 1051, 1053, 1054, 1055, 1057, 1058, 1060, 1062, 1063, 1065, 1066, 1068, 1070, 1072, 1073, 1074, 1076, 1077, 1078, 1079] (by decide +kernel) (by decide +kernel)
theorem wd999 : (.selects RX9 yX9_tell yX9_tell : Cond) ∈ osX := wv10 _ (List.mem_of_getElem? (i := 0) rfl)
theorem wd1001 : (.methodLink RX9 110 yX5_copyFrom : Cond) ∈ osX := wv10 _ (List.mem_of_getElem? (i := 1) rfl)
theorem wd1002 : (.instanceMethod yX5_copyFrom : Cond) ∈ osX := wv10 _ (List.mem_of_getElem? (i := 2) rfl)
theorem wd1003 : (.selects RX5 yX5_copyFrom yX5_copyFrom : Cond) ∈ osX := wv10 _ (List.mem_of_getElem? (i := 3) rfl)
theorem wd1005 : (.methodLink RX5 78 yX5_copyRow : Cond) ∈ osX := wv10 _ (List.mem_of_getElem? (i := 4) rfl)
theorem wd1006 : (.static yX5_copyRow : Cond) ∈ osX := wv10 _ (List.mem_of_getElem? (i := 5) rfl)
theorem wd1008 : (.methodLink RX5 82 yJ9_min_7cf53 : Cond) ∈ osX := wv10 _ (List.mem_of_getElem? (i := 6) rfl)
theorem wd1009 : (.methodLink RX5 88 ⟨"java/lang/System", "arraycopy", "(Ljava/lang/Object;ILjava/lang/Object;II)V"⟩ : Cond) ∈ osX := wv10 _ (List.mem_of_getElem? (i := 7) rfl)
theorem wd1010 : (.static ⟨"java/lang/System", "arraycopy", "(Ljava/lang/Object;ILjava/lang/Object;II)V"⟩ : Cond) ∈ osX := wv10 _ (List.mem_of_getElem? (i := 8) rfl)
theorem wd1011 : (.native ⟨"java/lang/System", "arraycopy", "(Ljava/lang/Object;ILjava/lang/Object;II)V"⟩ : Cond) ∈ osX := wv10 _ (List.mem_of_getElem? (i := 9) rfl)
theorem wd1012 : (.methodLink RX9 114 yX7_readAll : Cond) ∈ osX := wv10 _ (List.mem_of_getElem? (i := 10) rfl)
theorem wd1013 : (.instanceMethod yX7_readAll : Cond) ∈ osX := wv10 _ (List.mem_of_getElem? (i := 11) rfl)
theorem wd1014 : (.selects RX7 yX7_readAll yX7_readAll : Cond) ∈ osX := wv10 _ (List.mem_of_getElem? (i := 12) rfl)
theorem wd1016 : (.methodLink RX7 9 ⟨"OrderSettler$TurnReader", "begin", "([BI)V"⟩ : Cond) ∈ osX := wv10 _ (List.mem_of_getElem? (i := 13) rfl)
theorem wd1017 : (.sameMethod "OrderSettler$TurnReader" "OrderSettler$TextReader" "begin" "([BI)V" : Cond) ∈ osX := wv10 _ (List.mem_of_getElem? (i := 14) rfl)
theorem wd1018 : (.selects RX7 ⟨"OrderSettler$TurnReader", "begin", "([BI)V"⟩ yX6_begin : Cond) ∈ osX := wv10 _ (List.mem_of_getElem? (i := 15) rfl)
theorem wd1019 : (.methodLink RX7 15 ⟨"OrderSettler$TurnReader", "isAtEnd", "()Z"⟩ : Cond) ∈ osX := wv10 _ (List.mem_of_getElem? (i := 16) rfl)
theorem wd1020 : (.sameMethod "OrderSettler$TurnReader" "OrderSettler$TextReader" "isAtEnd" "()Z" : Cond) ∈ osX := wv10 _ (List.mem_of_getElem? (i := 17) rfl)
theorem wd1021 : (.selects RX7 ⟨"OrderSettler$TurnReader", "isAtEnd", "()Z"⟩ yX6_isAtEnd : Cond) ∈ osX := wv10 _ (List.mem_of_getElem? (i := 18) rfl)
theorem wd1022 : (.methodLink RX7 19 yX7_readOne : Cond) ∈ osX := wv10 _ (List.mem_of_getElem? (i := 19) rfl)
theorem wd1024 : (.instanceMethod yX7_readOne : Cond) ∈ osX := wv10 _ (List.mem_of_getElem? (i := 20) rfl)
theorem wd1026 : (.methodLink RX7 32 yX7_readOrder : Cond) ∈ osX := wv10 _ (List.mem_of_getElem? (i := 21) rfl)
theorem wd1028 : (.instanceMethod yX7_readOrder : Cond) ∈ osX := wv10 _ (List.mem_of_getElem? (i := 22) rfl)
theorem wd1030 : (.methodLink RX7 60 ⟨"OrderSettler$TurnReader", "takeArea", "(LOrderSettler$Board;)I"⟩ : Cond) ∈ osX := wv10 _ (List.mem_of_getElem? (i := 23) rfl)
theorem wd1031 : (.sameMethod "OrderSettler$TurnReader" "OrderSettler$TextReader" "takeArea" "(LOrderSettler$Board;)I" : Cond) ∈ osX := wv10 _ (List.mem_of_getElem? (i := 24) rfl)
theorem wd1032 : (.selects RX7 ⟨"OrderSettler$TurnReader", "takeArea", "(LOrderSettler$Board;)I"⟩ yX6_takeArea : Cond) ∈ osX := wv10 _ (List.mem_of_getElem? (i := 25) rfl)
theorem wd1033 : (.methodLink RX7 64 yX5_hasUnit : Cond) ∈ osX := wv10 _ (List.mem_of_getElem? (i := 26) rfl)
theorem wd1034 : (.methodLink RX7 71 ⟨"OrderSettler$TurnReader", "fail", "(II)Z"⟩ : Cond) ∈ osX := wv10 _ (List.mem_of_getElem? (i := 27) rfl)
theorem wd1035 : (.sameMethod "OrderSettler$TurnReader" "OrderSettler$TextReader" "fail" "(II)Z" : Cond) ∈ osX := wv10 _ (List.mem_of_getElem? (i := 28) rfl)
theorem wd1036 : (.selects RX7 ⟨"OrderSettler$TurnReader", "fail", "(II)Z"⟩ yX6_fail : Cond) ∈ osX := wv10 _ (List.mem_of_getElem? (i := 29) rfl)
theorem wd1037 : (.fieldLink RX7 75 "OrderSettler$Word" "HOLD" "LOrderSettler$Word;" : Cond) ∈ osX := wv10 _ (List.mem_of_getElem? (i := 30) rfl)
theorem wd1039 : (.methodLink RX7 44 ⟨"OrderSettler$TurnReader", "take", "(LOrderSettler$Word;)Z"⟩ : Cond) ∈ osX := wv10 _ (List.mem_of_getElem? (i := 31) rfl)
theorem wd1040 : (.sameMethod "OrderSettler$TurnReader" "OrderSettler$TextReader" "take" "(LOrderSettler$Word;)Z" : Cond) ∈ osX := wv10 _ (List.mem_of_getElem? (i := 32) rfl)
theorem wd1041 : (.selects RX7 ⟨"OrderSettler$TurnReader", "take", "(LOrderSettler$Word;)Z"⟩ yX6_take : Cond) ∈ osX := wv10 _ (List.mem_of_getElem? (i := 33) rfl)
theorem wd1042 : (.methodLink RX7 78 yX5_giveOrder : Cond) ∈ osX := wv10 _ (List.mem_of_getElem? (i := 34) rfl)
theorem wd1043 : (.fieldLink RX7 82 "OrderSettler$Word" "TO" "LOrderSettler$Word;" : Cond) ∈ osX := wv10 _ (List.mem_of_getElem? (i := 35) rfl)
theorem wd1045 : (.methodLink RX7 85 yX7_readMove : Cond) ∈ osX := wv10 _ (List.mem_of_getElem? (i := 36) rfl)
theorem wd1047 : (.instanceMethod yX7_readMove : Cond) ∈ osX := wv10 _ (List.mem_of_getElem? (i := 37) rfl)
theorem wd1049 : (.methodLink RX7 101 yX5_allowsMove : Cond) ∈ osX := wv10 _ (List.mem_of_getElem? (i := 38) rfl)
theorem wd1050 : (.instanceMethod yX5_allowsMove : Cond) ∈ osX := wv10 _ (List.mem_of_getElem? (i := 39) rfl)
theorem wd1051 : (.selects RX5 yX5_allowsMove yX5_allowsMove : Cond) ∈ osX := wv10 _ (List.mem_of_getElem? (i := 40) rfl)
theorem wd1053 : (.methodLink RX5 130 yX5_canGo : Cond) ∈ osX := wv10 _ (List.mem_of_getElem? (i := 41) rfl)
theorem wd1054 : (.instanceMethod yX5_canGo : Cond) ∈ osX := wv10 _ (List.mem_of_getElem? (i := 42) rfl)
theorem wd1055 : (.selects RX5 yX5_canGo yX5_canGo : Cond) ∈ osX := wv10 _ (List.mem_of_getElem? (i := 43) rfl)
theorem wd1057 : (.methodLink RX5 134 yX0_letsPass : Cond) ∈ osX := wv10 _ (List.mem_of_getElem? (i := 44) rfl)
theorem wd1058 : (.methodLink RX5 138 yX5_hasArmy : Cond) ∈ osX := wv10 _ (List.mem_of_getElem? (i := 45) rfl)
theorem wd1060 : (.instanceMethod yX5_hasArmy : Cond) ∈ osX := wv10 _ (List.mem_of_getElem? (i := 46) rfl)
theorem wd1062 : (.methodLink RX5 141 yX5_joinsCoasts : Cond) ∈ osX := wv10 _ (List.mem_of_getElem? (i := 47) rfl)
theorem wd1063 : (.static yX5_joinsCoasts : Cond) ∈ osX := wv10 _ (List.mem_of_getElem? (i := 48) rfl)
theorem wd1065 : (.methodLinkNest RX5 147 yX9_has "OrderSettler" : Cond) ∈ osX := wv10 _ (List.mem_of_getElem? (i := 49) rfl)
theorem wd1066 : (.fieldLink RX7 89 "OrderSettler$Word" "SUPPORT" "LOrderSettler$Word;" : Cond) ∈ osX := wv10 _ (List.mem_of_getElem? (i := 50) rfl)
theorem wd1068 : (.methodLink RX7 92 yX7_readSupport : Cond) ∈ osX := wv10 _ (List.mem_of_getElem? (i := 51) rfl)
theorem wd1070 : (.instanceMethod yX7_readSupport : Cond) ∈ osX := wv10 _ (List.mem_of_getElem? (i := 52) rfl)
theorem wd1072 : (.methodLink RX7 105 yX5_allowsUnitSupport : Cond) ∈ osX := wv10 _ (List.mem_of_getElem? (i := 53) rfl)
theorem wd1073 : (.instanceMethod yX5_allowsUnitSupport : Cond) ∈ osX := wv10 _ (List.mem_of_getElem? (i := 54) rfl)
theorem wd1074 : (.selects RX5 yX5_allowsUnitSupport yX5_allowsUnitSupport : Cond) ∈ osX := wv10 _ (List.mem_of_getElem? (i := 55) rfl)
theorem wd1076 : (.methodLink RX5 126 yX5_hasUnit : Cond) ∈ osX := wv10 _ (List.mem_of_getElem? (i := 56) rfl)
theorem wd1077 : (.methodLink RX7 108 yX5_allowsMoveSupport : Cond) ∈ osX := wv10 _ (List.mem_of_getElem? (i := 57) rfl)
theorem wd1078 : (.instanceMethod yX5_allowsMoveSupport : Cond) ∈ osX := wv10 _ (List.mem_of_getElem? (i := 58) rfl)
theorem wd1079 : (.selects RX5 yX5_allowsMoveSupport yX5_allowsMoveSupport : Cond) ∈ osX := wv10 _ (List.mem_of_getElem? (i := 59) rfl)
def ww11 : List Cond := [.fieldLink RX7 95 "OrderSettler$Word" "CONVOY" "LOrderSettler$Word;", .methodLink RX7 54 ⟨"OrderSettler$TurnReader", "takeOrFail", "(LOrderSettler$Word;)Z"⟩, .sameMethod "OrderSettler$TurnReader" "OrderSettler$TextReader" "takeOrFail" "(LOrderSettler$Word;)Z", .selects RX7 ⟨"OrderSettler$TurnReader", "takeOrFail", "(LOrderSettler$Word;)Z"⟩ yX6_takeOrFail, .instanceMethod yX6_takeOrFail, .methodLink RX6 56 yX6_take, .methodLink RX7 98 yX7_readConvoy, .instanceMethod yX7_readConvoy, .methodLink RX7 112 yX5_allowsConvoy, .instanceMethod yX5_allowsConvoy, .selects RX5 yX5_allowsConvoy yX5_allowsConvoy, .methodLink RX7 35 yX7_readRetreat, .instanceMethod yX7_readRetreat, .methodLink RX7 115 yX5_hasDislodged, .instanceMethod yX5_hasDislodged, .selects RX5 yX5_hasDislodged yX5_hasDislodged, .fieldLink RX7 118 "OrderSettler$Word" "DISBAND" "LOrderSettler$Word;", .methodLink RX7 121 yX5_giveRetreat, .instanceMethod yX5_giveRetreat, .selects RX5 yX5_giveRetreat yX5_giveRetreat, .methodLink RX7 125 yX5_allowsRetreat, .instanceMethod yX5_allowsRetreat, .selects RX5 yX5_allowsRetreat yX5_allowsRetreat, .methodLink RX5 154 yX5_hasDislodged, .fieldLink RX7 38 "OrderSettler$Word" "BUILD" "LOrderSettler$Word;", .methodLink RX7 48 yX7_readBuild, .instanceMethod yX7_readBuild, .methodLink RX7 128 yX5_allowsBuild, .instanceMethod yX5_allowsBuild, .selects RX5 yX5_allowsBuild yX5_allowsBuild, .methodLink RX5 108 yX5_freeHomes, .instanceMethod yX5_freeHomes, .methodLink RX5 157 yX5_countBuilds, .instanceMethod yX5_countBuilds, .selects RX5 yX5_countBuilds yX5_countBuilds, .methodLink RX5 101 yX5_countCenters, .methodLink RX5 105 yX5_countUnits, .instanceMethod yX5_countUnits, .selects RX5 yX5_countUnits yX5_countUnits, .methodLink RX5 112 yJ6_bitCount_0f7a4, .methodLink RX5 117 yX5_countAllUnits, .fieldLink RX7 135 "OrderSettler$Word" "FLEET" "LOrderSettler$Word;", .fieldLink RX7 138 "OrderSettler$Word" "ARMY" "LOrderSettler$Word;", .methodLink RX7 141 yX0_suits, .methodLinkNest RX7 150 yX9_entry "OrderSettler", .methodLink RX7 154 yX5_placeUnit, .fieldLink RX7 51 "OrderSettler$Word" "REMOVE" "LOrderSettler$Word;", .methodLink RX7 57 yX7_readRemoval, .instanceMethod yX7_readRemoval, .methodLink RX7 161 yX5_needsRemoval, .instanceMethod yX5_needsRemoval, .selects RX5 yX5_needsRemoval yX5_needsRemoval, .methodLink RX7 23 ⟨"OrderSettler$TurnReader", "takeSemicolon", "()Z"⟩, .sameMethod "OrderSettler$TurnReader" "OrderSettler$TextReader" "takeSemicolon" "()Z", .selects RX7 ⟨"OrderSettler$TurnReader", "takeSemicolon", "()Z"⟩ yX6_takeSemicolon, .methodLink RL 140 yL_area, .static yL_area, .classLink RL 28 "java/util/NoSuchElementException", .methodLink RL 24 yX9_area, .instanceMethod yX9_area]
theorem wv11 : ∀ w ∈ ww11, w ∈ osX := osX_at [1081, 1083, 1084, 1086, 1087, 1089, 1090, 1092, 1094, 1095, 1096, 1098, 1100, 1102, 1103, 1104, 1106, 1108, 1109, 1110, 1112, 1113, 1114, 1116, 1117, 1119, 1121, 1123, 1124, 1125, 1127, 1129, 1131, 1132, 1133, 1135, 1136, 1137, 1138, 1140, 1141, 1142, 1143, 1144, 1145, 1146, 1147, 1149, 1151, 1153, 1154, 1155, 1157, 1158, 1159, 1161, 1162, 1164, 1165, 1166] (by decide +kernel) (by decide +kernel)
theorem wd1081 : (.fieldLink RX7 95 "OrderSettler$Word" "CONVOY" "LOrderSettler$Word;" : Cond) ∈ osX := wv11 _ (List.mem_of_getElem? (i := 0) rfl)
theorem wd1083 : (.methodLink RX7 54 ⟨"OrderSettler$TurnReader", "takeOrFail", "(LOrderSettler$Word;)Z"⟩ : Cond) ∈ osX := wv11 _ (List.mem_of_getElem? (i := 1) rfl)
theorem wd1084 : (.sameMethod "OrderSettler$TurnReader" "OrderSettler$TextReader" "takeOrFail" "(LOrderSettler$Word;)Z" : Cond) ∈ osX := wv11 _ (List.mem_of_getElem? (i := 2) rfl)
theorem wd1086 : (.selects RX7 ⟨"OrderSettler$TurnReader", "takeOrFail", "(LOrderSettler$Word;)Z"⟩ yX6_takeOrFail : Cond) ∈ osX := wv11 _ (List.mem_of_getElem? (i := 3) rfl)
theorem wd1087 : (.instanceMethod yX6_takeOrFail : Cond) ∈ osX := wv11 _ (List.mem_of_getElem? (i := 4) rfl)
theorem wd1089 : (.methodLink RX6 56 yX6_take : Cond) ∈ osX := wv11 _ (List.mem_of_getElem? (i := 5) rfl)
theorem wd1090 : (.methodLink RX7 98 yX7_readConvoy : Cond) ∈ osX := wv11 _ (List.mem_of_getElem? (i := 6) rfl)
theorem wd1092 : (.instanceMethod yX7_readConvoy : Cond) ∈ osX := wv11 _ (List.mem_of_getElem? (i := 7) rfl)
theorem wd1094 : (.methodLink RX7 112 yX5_allowsConvoy : Cond) ∈ osX := wv11 _ (List.mem_of_getElem? (i := 8) rfl)
theorem wd1095 : (.instanceMethod yX5_allowsConvoy : Cond) ∈ osX := wv11 _ (List.mem_of_getElem? (i := 9) rfl)
theorem wd1096 : (.selects RX5 yX5_allowsConvoy yX5_allowsConvoy : Cond) ∈ osX := wv11 _ (List.mem_of_getElem? (i := 10) rfl)
theorem wd1098 : (.methodLink RX7 35 yX7_readRetreat : Cond) ∈ osX := wv11 _ (List.mem_of_getElem? (i := 11) rfl)
theorem wd1100 : (.instanceMethod yX7_readRetreat : Cond) ∈ osX := wv11 _ (List.mem_of_getElem? (i := 12) rfl)
theorem wd1102 : (.methodLink RX7 115 yX5_hasDislodged : Cond) ∈ osX := wv11 _ (List.mem_of_getElem? (i := 13) rfl)
theorem wd1103 : (.instanceMethod yX5_hasDislodged : Cond) ∈ osX := wv11 _ (List.mem_of_getElem? (i := 14) rfl)
theorem wd1104 : (.selects RX5 yX5_hasDislodged yX5_hasDislodged : Cond) ∈ osX := wv11 _ (List.mem_of_getElem? (i := 15) rfl)
theorem wd1106 : (.fieldLink RX7 118 "OrderSettler$Word" "DISBAND" "LOrderSettler$Word;" : Cond) ∈ osX := wv11 _ (List.mem_of_getElem? (i := 16) rfl)
theorem wd1108 : (.methodLink RX7 121 yX5_giveRetreat : Cond) ∈ osX := wv11 _ (List.mem_of_getElem? (i := 17) rfl)
theorem wd1109 : (.instanceMethod yX5_giveRetreat : Cond) ∈ osX := wv11 _ (List.mem_of_getElem? (i := 18) rfl)
theorem wd1110 : (.selects RX5 yX5_giveRetreat yX5_giveRetreat : Cond) ∈ osX := wv11 _ (List.mem_of_getElem? (i := 19) rfl)
theorem wd1112 : (.methodLink RX7 125 yX5_allowsRetreat : Cond) ∈ osX := wv11 _ (List.mem_of_getElem? (i := 20) rfl)
theorem wd1113 : (.instanceMethod yX5_allowsRetreat : Cond) ∈ osX := wv11 _ (List.mem_of_getElem? (i := 21) rfl)
theorem wd1114 : (.selects RX5 yX5_allowsRetreat yX5_allowsRetreat : Cond) ∈ osX := wv11 _ (List.mem_of_getElem? (i := 22) rfl)
theorem wd1116 : (.methodLink RX5 154 yX5_hasDislodged : Cond) ∈ osX := wv11 _ (List.mem_of_getElem? (i := 23) rfl)
theorem wd1117 : (.fieldLink RX7 38 "OrderSettler$Word" "BUILD" "LOrderSettler$Word;" : Cond) ∈ osX := wv11 _ (List.mem_of_getElem? (i := 24) rfl)
theorem wd1119 : (.methodLink RX7 48 yX7_readBuild : Cond) ∈ osX := wv11 _ (List.mem_of_getElem? (i := 25) rfl)
theorem wd1121 : (.instanceMethod yX7_readBuild : Cond) ∈ osX := wv11 _ (List.mem_of_getElem? (i := 26) rfl)
theorem wd1123 : (.methodLink RX7 128 yX5_allowsBuild : Cond) ∈ osX := wv11 _ (List.mem_of_getElem? (i := 27) rfl)
theorem wd1124 : (.instanceMethod yX5_allowsBuild : Cond) ∈ osX := wv11 _ (List.mem_of_getElem? (i := 28) rfl)
theorem wd1125 : (.selects RX5 yX5_allowsBuild yX5_allowsBuild : Cond) ∈ osX := wv11 _ (List.mem_of_getElem? (i := 29) rfl)
theorem wd1127 : (.methodLink RX5 108 yX5_freeHomes : Cond) ∈ osX := wv11 _ (List.mem_of_getElem? (i := 30) rfl)
theorem wd1129 : (.instanceMethod yX5_freeHomes : Cond) ∈ osX := wv11 _ (List.mem_of_getElem? (i := 31) rfl)
theorem wd1131 : (.methodLink RX5 157 yX5_countBuilds : Cond) ∈ osX := wv11 _ (List.mem_of_getElem? (i := 32) rfl)
theorem wd1132 : (.instanceMethod yX5_countBuilds : Cond) ∈ osX := wv11 _ (List.mem_of_getElem? (i := 33) rfl)
theorem wd1133 : (.selects RX5 yX5_countBuilds yX5_countBuilds : Cond) ∈ osX := wv11 _ (List.mem_of_getElem? (i := 34) rfl)
theorem wd1135 : (.methodLink RX5 101 yX5_countCenters : Cond) ∈ osX := wv11 _ (List.mem_of_getElem? (i := 35) rfl)
theorem wd1136 : (.methodLink RX5 105 yX5_countUnits : Cond) ∈ osX := wv11 _ (List.mem_of_getElem? (i := 36) rfl)
theorem wd1137 : (.instanceMethod yX5_countUnits : Cond) ∈ osX := wv11 _ (List.mem_of_getElem? (i := 37) rfl)
theorem wd1138 : (.selects RX5 yX5_countUnits yX5_countUnits : Cond) ∈ osX := wv11 _ (List.mem_of_getElem? (i := 38) rfl)
theorem wd1140 : (.methodLink RX5 112 yJ6_bitCount_0f7a4 : Cond) ∈ osX := wv11 _ (List.mem_of_getElem? (i := 39) rfl)
theorem wd1141 : (.methodLink RX5 117 yX5_countAllUnits : Cond) ∈ osX := wv11 _ (List.mem_of_getElem? (i := 40) rfl)
theorem wd1142 : (.fieldLink RX7 135 "OrderSettler$Word" "FLEET" "LOrderSettler$Word;" : Cond) ∈ osX := wv11 _ (List.mem_of_getElem? (i := 41) rfl)
theorem wd1143 : (.fieldLink RX7 138 "OrderSettler$Word" "ARMY" "LOrderSettler$Word;" : Cond) ∈ osX := wv11 _ (List.mem_of_getElem? (i := 42) rfl)
theorem wd1144 : (.methodLink RX7 141 yX0_suits : Cond) ∈ osX := wv11 _ (List.mem_of_getElem? (i := 43) rfl)
theorem wd1145 : (.methodLinkNest RX7 150 yX9_entry "OrderSettler" : Cond) ∈ osX := wv11 _ (List.mem_of_getElem? (i := 44) rfl)
theorem wd1146 : (.methodLink RX7 154 yX5_placeUnit : Cond) ∈ osX := wv11 _ (List.mem_of_getElem? (i := 45) rfl)
theorem wd1147 : (.fieldLink RX7 51 "OrderSettler$Word" "REMOVE" "LOrderSettler$Word;" : Cond) ∈ osX := wv11 _ (List.mem_of_getElem? (i := 46) rfl)
theorem wd1149 : (.methodLink RX7 57 yX7_readRemoval : Cond) ∈ osX := wv11 _ (List.mem_of_getElem? (i := 47) rfl)
theorem wd1151 : (.instanceMethod yX7_readRemoval : Cond) ∈ osX := wv11 _ (List.mem_of_getElem? (i := 48) rfl)
theorem wd1153 : (.methodLink RX7 161 yX5_needsRemoval : Cond) ∈ osX := wv11 _ (List.mem_of_getElem? (i := 49) rfl)
theorem wd1154 : (.instanceMethod yX5_needsRemoval : Cond) ∈ osX := wv11 _ (List.mem_of_getElem? (i := 50) rfl)
theorem wd1155 : (.selects RX5 yX5_needsRemoval yX5_needsRemoval : Cond) ∈ osX := wv11 _ (List.mem_of_getElem? (i := 51) rfl)
theorem wd1157 : (.methodLink RX7 23 ⟨"OrderSettler$TurnReader", "takeSemicolon", "()Z"⟩ : Cond) ∈ osX := wv11 _ (List.mem_of_getElem? (i := 52) rfl)
theorem wd1158 : (.sameMethod "OrderSettler$TurnReader" "OrderSettler$TextReader" "takeSemicolon" "()Z" : Cond) ∈ osX := wv11 _ (List.mem_of_getElem? (i := 53) rfl)
theorem wd1159 : (.selects RX7 ⟨"OrderSettler$TurnReader", "takeSemicolon", "()Z"⟩ yX6_takeSemicolon : Cond) ∈ osX := wv11 _ (List.mem_of_getElem? (i := 54) rfl)
theorem wd1161 : (.methodLink RL 140 yL_area : Cond) ∈ osX := wv11 _ (List.mem_of_getElem? (i := 55) rfl)
theorem wd1162 : (.static yL_area : Cond) ∈ osX := wv11 _ (List.mem_of_getElem? (i := 56) rfl)
theorem wd1164 : (.classLink RL 28 "java/util/NoSuchElementException" : Cond) ∈ osX := wv11 _ (List.mem_of_getElem? (i := 57) rfl)
theorem wd1165 : (.methodLink RL 24 yX9_area : Cond) ∈ osX := wv11 _ (List.mem_of_getElem? (i := 58) rfl)
theorem wd1166 : (.instanceMethod yX9_area : Cond) ∈ osX := wv11 _ (List.mem_of_getElem? (i := 59) rfl)
def ww12 : List Cond := [.selects RX9 yX9_area yX9_area, .methodLink RX9 126 yX9_requireArea, .instanceMethod yX9_requireArea, .methodLink RX9 361 yX0_isArea, .castable "java/util/NoSuchElementException" "java/util/NoSuchElementException", .methodLink RX9 129 yX9_requireReport, .instanceMethod yX9_requireReport, .methodLink RX9 132 yX0_kindOf, .instanceMethod yX0_kindOf, .selects RX0 yX0_kindOf yX0_kindOf, .methodLink RX9 139 yX9_has, .methodLink RL 144 yL_named, .static yL_named, .methodLink RL 30 yX9_named, .instanceMethod yX9_named, .selects RX9 yX9_named yX9_named, .methodLink RX9 166 yX9_packedInput, .instanceMethod yX9_packedInput, .methodLink RX9 378 yX9_isLetter, .static yX9_isLetter, .methodLink RX9 381 yX9_letterNumber, .static yX9_letterNumber, .methodLink RX9 169 yX0_findArea, .methodLink RL 147 yL_passes, .static yL_passes, .methodLink RL 33 yX9_passes, .instanceMethod yX9_passes, .selects RX9 yX9_passes yX9_passes, .methodLink RX9 177 yX0_letsPass, .methodLink RL 151 yL_distance, .static yL_distance, .methodLink RL 37 yX9_distance, .instanceMethod yX9_distance, .selects RX9 yX9_distance yX9_distance, .methodLink RX9 181 yX0_countBorders, .instanceMethod yX0_countBorders, .selects RX0 yX0_countBorders yX0_countBorders, .methodLink RX0 62 yX0_bordersOf, .instanceMethod yX0_bordersOf, .selects RX0 yX0_bordersOf yX0_bordersOf, .methodLink RL 154 yL_power, .static yL_power, .methodLink RL 41 yX9_power, .instanceMethod yX9_power, .selects RX9 yX9_power yX9_power, .methodLink RX9 185 yX9_requirePower, .instanceMethod yX9_requirePower, .methodLink RX9 191 yX5_countUnits, .methodLink RX9 194 yX0_countHomes, .instanceMethod yX0_countHomes, .selects RX0 yX0_countHomes yX0_countHomes, .methodLink RX9 197 yX5_countBuilds, .methodLink RL 165 yL_order, .static yL_order, .methodLink RL 44 yX9_order, .instanceMethod yX9_order, .selects RX9 yX9_order yX9_order, .methodLink RX9 207 yX9_requireUnit, .instanceMethod yX9_requireUnit, .methodLink RX9 210 yX9_requirePhase]
theorem wv12 : ∀ w ∈ ww12, w ∈ osX := osX_at [1167, 1169, 1171, 1173, 1176, 1190, 1192, 1195, 1196, 1197, 1199, 1200, 1201, 1203, 1204, 1205, 1207, 1209, 1211, 1212, 1214, 1215, 1217, 1219, 1220, 1222, 1223, 1224, 1226, 1227, 1228, 1230, 1231, 1232, 1234, 1235, 1236, 1238, 1239, 1240, 1242, 1243, 1245, 1246, 1247, 1249, 1251, 1254, 1255, 1256, 1257, 1259, 1260, 1261, 1263, 1264, 1265, 1267, 1269, 1272] (by decide +kernel) (by decide +kernel)
theorem wd1167 : (.selects RX9 yX9_area yX9_area : Cond) ∈ osX := wv12 _ (List.mem_of_getElem? (i := 0) rfl)
theorem wd1169 : (.methodLink RX9 126 yX9_requireArea : Cond) ∈ osX := wv12 _ (List.mem_of_getElem? (i := 1) rfl)
theorem wd1171 : (.instanceMethod yX9_requireArea : Cond) ∈ osX := wv12 _ (List.mem_of_getElem? (i := 2) rfl)
theorem wd1173 : (.methodLink RX9 361 yX0_isArea : Cond) ∈ osX := wv12 _ (List.mem_of_getElem? (i := 3) rfl)
theorem wd1176 : (.castable "java/util/NoSuchElementException" "java/util/NoSuchElementException" : Cond) ∈ osX := wv12 _ (List.mem_of_getElem? (i := 4) rfl)
theorem wd1190 : (.methodLink RX9 129 yX9_requireReport : Cond) ∈ osX := wv12 _ (List.mem_of_getElem? (i := 5) rfl)
theorem wd1192 : (.instanceMethod yX9_requireReport : Cond) ∈ osX := wv12 _ (List.mem_of_getElem? (i := 6) rfl)
theorem wd1195 : (.methodLink RX9 132 yX0_kindOf : Cond) ∈ osX := wv12 _ (List.mem_of_getElem? (i := 7) rfl)
theorem wd1196 : (.instanceMethod yX0_kindOf : Cond) ∈ osX := wv12 _ (List.mem_of_getElem? (i := 8) rfl)
theorem wd1197 : (.selects RX0 yX0_kindOf yX0_kindOf : Cond) ∈ osX := wv12 _ (List.mem_of_getElem? (i := 9) rfl)
theorem wd1199 : (.methodLink RX9 139 yX9_has : Cond) ∈ osX := wv12 _ (List.mem_of_getElem? (i := 10) rfl)
theorem wd1200 : (.methodLink RL 144 yL_named : Cond) ∈ osX := wv12 _ (List.mem_of_getElem? (i := 11) rfl)
theorem wd1201 : (.static yL_named : Cond) ∈ osX := wv12 _ (List.mem_of_getElem? (i := 12) rfl)
theorem wd1203 : (.methodLink RL 30 yX9_named : Cond) ∈ osX := wv12 _ (List.mem_of_getElem? (i := 13) rfl)
theorem wd1204 : (.instanceMethod yX9_named : Cond) ∈ osX := wv12 _ (List.mem_of_getElem? (i := 14) rfl)
theorem wd1205 : (.selects RX9 yX9_named yX9_named : Cond) ∈ osX := wv12 _ (List.mem_of_getElem? (i := 15) rfl)
theorem wd1207 : (.methodLink RX9 166 yX9_packedInput : Cond) ∈ osX := wv12 _ (List.mem_of_getElem? (i := 16) rfl)
theorem wd1209 : (.instanceMethod yX9_packedInput : Cond) ∈ osX := wv12 _ (List.mem_of_getElem? (i := 17) rfl)
theorem wd1211 : (.methodLink RX9 378 yX9_isLetter : Cond) ∈ osX := wv12 _ (List.mem_of_getElem? (i := 18) rfl)
theorem wd1212 : (.static yX9_isLetter : Cond) ∈ osX := wv12 _ (List.mem_of_getElem? (i := 19) rfl)
theorem wd1214 : (.methodLink RX9 381 yX9_letterNumber : Cond) ∈ osX := wv12 _ (List.mem_of_getElem? (i := 20) rfl)
theorem wd1215 : (.static yX9_letterNumber : Cond) ∈ osX := wv12 _ (List.mem_of_getElem? (i := 21) rfl)
theorem wd1217 : (.methodLink RX9 169 yX0_findArea : Cond) ∈ osX := wv12 _ (List.mem_of_getElem? (i := 22) rfl)
theorem wd1219 : (.methodLink RL 147 yL_passes : Cond) ∈ osX := wv12 _ (List.mem_of_getElem? (i := 23) rfl)
theorem wd1220 : (.static yL_passes : Cond) ∈ osX := wv12 _ (List.mem_of_getElem? (i := 24) rfl)
theorem wd1222 : (.methodLink RL 33 yX9_passes : Cond) ∈ osX := wv12 _ (List.mem_of_getElem? (i := 25) rfl)
theorem wd1223 : (.instanceMethod yX9_passes : Cond) ∈ osX := wv12 _ (List.mem_of_getElem? (i := 26) rfl)
theorem wd1224 : (.selects RX9 yX9_passes yX9_passes : Cond) ∈ osX := wv12 _ (List.mem_of_getElem? (i := 27) rfl)
theorem wd1226 : (.methodLink RX9 177 yX0_letsPass : Cond) ∈ osX := wv12 _ (List.mem_of_getElem? (i := 28) rfl)
theorem wd1227 : (.methodLink RL 151 yL_distance : Cond) ∈ osX := wv12 _ (List.mem_of_getElem? (i := 29) rfl)
theorem wd1228 : (.static yL_distance : Cond) ∈ osX := wv12 _ (List.mem_of_getElem? (i := 30) rfl)
theorem wd1230 : (.methodLink RL 37 yX9_distance : Cond) ∈ osX := wv12 _ (List.mem_of_getElem? (i := 31) rfl)
theorem wd1231 : (.instanceMethod yX9_distance : Cond) ∈ osX := wv12 _ (List.mem_of_getElem? (i := 32) rfl)
theorem wd1232 : (.selects RX9 yX9_distance yX9_distance : Cond) ∈ osX := wv12 _ (List.mem_of_getElem? (i := 33) rfl)
theorem wd1234 : (.methodLink RX9 181 yX0_countBorders : Cond) ∈ osX := wv12 _ (List.mem_of_getElem? (i := 34) rfl)
theorem wd1235 : (.instanceMethod yX0_countBorders : Cond) ∈ osX := wv12 _ (List.mem_of_getElem? (i := 35) rfl)
theorem wd1236 : (.selects RX0 yX0_countBorders yX0_countBorders : Cond) ∈ osX := wv12 _ (List.mem_of_getElem? (i := 36) rfl)
theorem wd1238 : (.methodLink RX0 62 yX0_bordersOf : Cond) ∈ osX := wv12 _ (List.mem_of_getElem? (i := 37) rfl)
theorem wd1239 : (.instanceMethod yX0_bordersOf : Cond) ∈ osX := wv12 _ (List.mem_of_getElem? (i := 38) rfl)
theorem wd1240 : (.selects RX0 yX0_bordersOf yX0_bordersOf : Cond) ∈ osX := wv12 _ (List.mem_of_getElem? (i := 39) rfl)
theorem wd1242 : (.methodLink RL 154 yL_power : Cond) ∈ osX := wv12 _ (List.mem_of_getElem? (i := 40) rfl)
theorem wd1243 : (.static yL_power : Cond) ∈ osX := wv12 _ (List.mem_of_getElem? (i := 41) rfl)
theorem wd1245 : (.methodLink RL 41 yX9_power : Cond) ∈ osX := wv12 _ (List.mem_of_getElem? (i := 42) rfl)
theorem wd1246 : (.instanceMethod yX9_power : Cond) ∈ osX := wv12 _ (List.mem_of_getElem? (i := 43) rfl)
theorem wd1247 : (.selects RX9 yX9_power yX9_power : Cond) ∈ osX := wv12 _ (List.mem_of_getElem? (i := 44) rfl)
theorem wd1249 : (.methodLink RX9 185 yX9_requirePower : Cond) ∈ osX := wv12 _ (List.mem_of_getElem? (i := 45) rfl)
theorem wd1251 : (.instanceMethod yX9_requirePower : Cond) ∈ osX := wv12 _ (List.mem_of_getElem? (i := 46) rfl)
theorem wd1254 : (.methodLink RX9 191 yX5_countUnits : Cond) ∈ osX := wv12 _ (List.mem_of_getElem? (i := 47) rfl)
theorem wd1255 : (.methodLink RX9 194 yX0_countHomes : Cond) ∈ osX := wv12 _ (List.mem_of_getElem? (i := 48) rfl)
theorem wd1256 : (.instanceMethod yX0_countHomes : Cond) ∈ osX := wv12 _ (List.mem_of_getElem? (i := 49) rfl)
theorem wd1257 : (.selects RX0 yX0_countHomes yX0_countHomes : Cond) ∈ osX := wv12 _ (List.mem_of_getElem? (i := 50) rfl)
theorem wd1259 : (.methodLink RX9 197 yX5_countBuilds : Cond) ∈ osX := wv12 _ (List.mem_of_getElem? (i := 51) rfl)
theorem wd1260 : (.methodLink RL 165 yL_order : Cond) ∈ osX := wv12 _ (List.mem_of_getElem? (i := 52) rfl)
theorem wd1261 : (.static yL_order : Cond) ∈ osX := wv12 _ (List.mem_of_getElem? (i := 53) rfl)
theorem wd1263 : (.methodLink RL 44 yX9_order : Cond) ∈ osX := wv12 _ (List.mem_of_getElem? (i := 54) rfl)
theorem wd1264 : (.instanceMethod yX9_order : Cond) ∈ osX := wv12 _ (List.mem_of_getElem? (i := 55) rfl)
theorem wd1265 : (.selects RX9 yX9_order yX9_order : Cond) ∈ osX := wv12 _ (List.mem_of_getElem? (i := 56) rfl)
theorem wd1267 : (.methodLink RX9 207 yX9_requireUnit : Cond) ∈ osX := wv12 _ (List.mem_of_getElem? (i := 57) rfl)
theorem wd1269 : (.instanceMethod yX9_requireUnit : Cond) ∈ osX := wv12 _ (List.mem_of_getElem? (i := 58) rfl)
theorem wd1272 : (.methodLink RX9 210 yX9_requirePhase : Cond) ∈ osX := wv12 _ (List.mem_of_getElem? (i := 59) rfl)
def ww13 : List Cond := [.instanceMethod yX9_requirePhase, .methodLink RL 168 yL_settle, .static yL_settle, .methodLink RL 47 yX9_settle, .instanceMethod yX9_settle, .selects RX9 yX9_settle yX9_settle, .methodLink RX9 222 yX9_remember, .instanceMethod yX9_remember, .methodLink RX9 225 yX1_decide, .instanceMethod yX1_decide, .selects RX1 yX1_decide yX1_decide, .methodLink RX1 41 yX2_prepare, .instanceMethod yX2_prepare, .selects RX2 yX2_prepare yX2_prepare, .methodLink RX2 61 yX2_clear, .instanceMethod yX2_clear, .methodLink RX2 64 yX0_bordersOf, .methodLink RX2 70 yX5_hasUnit, .methodLinkNest RX2 76 yX9_bit "OrderSettler", .methodLink RX2 83 yX2_noteMove, .instanceMethod yX2_noteMove, .methodLinkNest RX2 104 yX9_entry "OrderSettler", .methodLink RX2 108 yX5_canGo, .methodLinkNest RX2 87 yX9_has "OrderSettler", .methodLink RX2 91 yX2_linkSupport, .instanceMethod yX2_linkSupport, .methodLink RX2 95 yX2_linkConvoy, .instanceMethod yX2_linkConvoy, .methodLink RX2 98 yX2_linkMove, .instanceMethod yX2_linkMove, .methodLink RX1 45 yX1_search, .instanceMethod yX1_search, .methodLink RX1 56 yJ6_bitCount_0f7a4, .methodLink RX1 62 yJ9_min_7cf53, .methodLink RX1 49 yX1_weigh, .instanceMethod yX1_weigh, .methodLinkNest RX1 72 yX9_has "OrderSettler", .methodLink RX1 89 yX1_isCarried, .instanceMethod yX1_isCarried, .methodLinkNest RX1 102 yX9_entry "OrderSettler", .methodLinkNest RX1 93 yX9_bit "OrderSettler", .methodLink RX1 68 yX1_isConsistent, .instanceMethod yX1_isConsistent, .methodLink RX1 115 yX1_shouldSucceed, .instanceMethod yX1_shouldSucceed, .methodLink RX1 118 yX1_attackOf, .instanceMethod yX1_attackOf, .methodLink RX1 121 yX1_resistanceTo, .instanceMethod yX1_resistanceTo, .methodLink RX1 124 yX1_preventionOf, .instanceMethod yX1_preventionOf, .methodLink RX1 142 yX1_strengthOf, .instanceMethod yX1_strengthOf, .methodLink RX1 145 yJ9_max_7cf53, .static yJ9_max_7cf53, .methodLink RX9 229 yX5_carryOut, .instanceMethod yX5_carryOut, .selects RX5 yX5_carryOut yX5_carryOut, .methodLink RX5 165 yX5_placeUnit, .methodLink RX5 172 yX1_findAttacker]
theorem wv13 : ∀ w ∈ ww13, w ∈ osX := osX_at [1274, 1277, 1278, 1280, 1281, 1282, 1284, 1286, 1288, 1289, 1290, 1292, 1293, 1294, 1296, 1298, 1300, 1301, 1302, 1303, 1305, 1307, 1308, 1309, 1310, 1312, 1314, 1316, 1318, 1320, 1322, 1324, 1326, 1327, 1328, 1330, 1332, 1333, 1335, 1337, 1338, 1339, 1341, 1343, 1345, 1347, 1349, 1351, 1353, 1355, 1357, 1359, 1361, 1363, 1364, 1366, 1367, 1368, 1370, 1371] (by decide +kernel) (by decide +kernel)
theorem wd1274 : (.instanceMethod yX9_requirePhase : Cond) ∈ osX := wv13 _ (List.mem_of_getElem? (i := 0) rfl)
theorem wd1277 : (.methodLink RL 168 yL_settle : Cond) ∈ osX := wv13 _ (List.mem_of_getElem? (i := 1) rfl)
theorem wd1278 : (.static yL_settle : Cond) ∈ osX := wv13 _ (List.mem_of_getElem? (i := 2) rfl)
theorem wd1280 : (.methodLink RL 47 yX9_settle : Cond) ∈ osX := wv13 _ (List.mem_of_getElem? (i := 3) rfl)
theorem wd1281 : (.instanceMethod yX9_settle : Cond) ∈ osX := wv13 _ (List.mem_of_getElem? (i := 4) rfl)
theorem wd1282 : (.selects RX9 yX9_settle yX9_settle : Cond) ∈ osX := wv13 _ (List.mem_of_getElem? (i := 5) rfl)
theorem wd1284 : (.methodLink RX9 222 yX9_remember : Cond) ∈ osX := wv13 _ (List.mem_of_getElem? (i := 6) rfl)
theorem wd1286 : (.instanceMethod yX9_remember : Cond) ∈ osX := wv13 _ (List.mem_of_getElem? (i := 7) rfl)
theorem wd1288 : (.methodLink RX9 225 yX1_decide : Cond) ∈ osX := wv13 _ (List.mem_of_getElem? (i := 8) rfl)
theorem wd1289 : (.instanceMethod yX1_decide : Cond) ∈ osX := wv13 _ (List.mem_of_getElem? (i := 9) rfl)
theorem wd1290 : (.selects RX1 yX1_decide yX1_decide : Cond) ∈ osX := wv13 _ (List.mem_of_getElem? (i := 10) rfl)
theorem wd1292 : (.methodLink RX1 41 yX2_prepare : Cond) ∈ osX := wv13 _ (List.mem_of_getElem? (i := 11) rfl)
theorem wd1293 : (.instanceMethod yX2_prepare : Cond) ∈ osX := wv13 _ (List.mem_of_getElem? (i := 12) rfl)
theorem wd1294 : (.selects RX2 yX2_prepare yX2_prepare : Cond) ∈ osX := wv13 _ (List.mem_of_getElem? (i := 13) rfl)
theorem wd1296 : (.methodLink RX2 61 yX2_clear : Cond) ∈ osX := wv13 _ (List.mem_of_getElem? (i := 14) rfl)
theorem wd1298 : (.instanceMethod yX2_clear : Cond) ∈ osX := wv13 _ (List.mem_of_getElem? (i := 15) rfl)
theorem wd1300 : (.methodLink RX2 64 yX0_bordersOf : Cond) ∈ osX := wv13 _ (List.mem_of_getElem? (i := 16) rfl)
theorem wd1301 : (.methodLink RX2 70 yX5_hasUnit : Cond) ∈ osX := wv13 _ (List.mem_of_getElem? (i := 17) rfl)
theorem wd1302 : (.methodLinkNest RX2 76 yX9_bit "OrderSettler" : Cond) ∈ osX := wv13 _ (List.mem_of_getElem? (i := 18) rfl)
theorem wd1303 : (.methodLink RX2 83 yX2_noteMove : Cond) ∈ osX := wv13 _ (List.mem_of_getElem? (i := 19) rfl)
theorem wd1305 : (.instanceMethod yX2_noteMove : Cond) ∈ osX := wv13 _ (List.mem_of_getElem? (i := 20) rfl)
theorem wd1307 : (.methodLinkNest RX2 104 yX9_entry "OrderSettler" : Cond) ∈ osX := wv13 _ (List.mem_of_getElem? (i := 21) rfl)
theorem wd1308 : (.methodLink RX2 108 yX5_canGo : Cond) ∈ osX := wv13 _ (List.mem_of_getElem? (i := 22) rfl)
theorem wd1309 : (.methodLinkNest RX2 87 yX9_has "OrderSettler" : Cond) ∈ osX := wv13 _ (List.mem_of_getElem? (i := 23) rfl)
theorem wd1310 : (.methodLink RX2 91 yX2_linkSupport : Cond) ∈ osX := wv13 _ (List.mem_of_getElem? (i := 24) rfl)
theorem wd1312 : (.instanceMethod yX2_linkSupport : Cond) ∈ osX := wv13 _ (List.mem_of_getElem? (i := 25) rfl)
theorem wd1314 : (.methodLink RX2 95 yX2_linkConvoy : Cond) ∈ osX := wv13 _ (List.mem_of_getElem? (i := 26) rfl)
theorem wd1316 : (.instanceMethod yX2_linkConvoy : Cond) ∈ osX := wv13 _ (List.mem_of_getElem? (i := 27) rfl)
theorem wd1318 : (.methodLink RX2 98 yX2_linkMove : Cond) ∈ osX := wv13 _ (List.mem_of_getElem? (i := 28) rfl)
theorem wd1320 : (.instanceMethod yX2_linkMove : Cond) ∈ osX := wv13 _ (List.mem_of_getElem? (i := 29) rfl)
theorem wd1322 : (.methodLink RX1 45 yX1_search : Cond) ∈ osX := wv13 _ (List.mem_of_getElem? (i := 30) rfl)
theorem wd1324 : (.instanceMethod yX1_search : Cond) ∈ osX := wv13 _ (List.mem_of_getElem? (i := 31) rfl)
theorem wd1326 : (.methodLink RX1 56 yJ6_bitCount_0f7a4 : Cond) ∈ osX := wv13 _ (List.mem_of_getElem? (i := 32) rfl)
theorem wd1327 : (.methodLink RX1 62 yJ9_min_7cf53 : Cond) ∈ osX := wv13 _ (List.mem_of_getElem? (i := 33) rfl)
theorem wd1328 : (.methodLink RX1 49 yX1_weigh : Cond) ∈ osX := wv13 _ (List.mem_of_getElem? (i := 34) rfl)
theorem wd1330 : (.instanceMethod yX1_weigh : Cond) ∈ osX := wv13 _ (List.mem_of_getElem? (i := 35) rfl)
theorem wd1332 : (.methodLinkNest RX1 72 yX9_has "OrderSettler" : Cond) ∈ osX := wv13 _ (List.mem_of_getElem? (i := 36) rfl)
theorem wd1333 : (.methodLink RX1 89 yX1_isCarried : Cond) ∈ osX := wv13 _ (List.mem_of_getElem? (i := 37) rfl)
theorem wd1335 : (.instanceMethod yX1_isCarried : Cond) ∈ osX := wv13 _ (List.mem_of_getElem? (i := 38) rfl)
theorem wd1337 : (.methodLinkNest RX1 102 yX9_entry "OrderSettler" : Cond) ∈ osX := wv13 _ (List.mem_of_getElem? (i := 39) rfl)
theorem wd1338 : (.methodLinkNest RX1 93 yX9_bit "OrderSettler" : Cond) ∈ osX := wv13 _ (List.mem_of_getElem? (i := 40) rfl)
theorem wd1339 : (.methodLink RX1 68 yX1_isConsistent : Cond) ∈ osX := wv13 _ (List.mem_of_getElem? (i := 41) rfl)
theorem wd1341 : (.instanceMethod yX1_isConsistent : Cond) ∈ osX := wv13 _ (List.mem_of_getElem? (i := 42) rfl)
theorem wd1343 : (.methodLink RX1 115 yX1_shouldSucceed : Cond) ∈ osX := wv13 _ (List.mem_of_getElem? (i := 43) rfl)
theorem wd1345 : (.instanceMethod yX1_shouldSucceed : Cond) ∈ osX := wv13 _ (List.mem_of_getElem? (i := 44) rfl)
theorem wd1347 : (.methodLink RX1 118 yX1_attackOf : Cond) ∈ osX := wv13 _ (List.mem_of_getElem? (i := 45) rfl)
theorem wd1349 : (.instanceMethod yX1_attackOf : Cond) ∈ osX := wv13 _ (List.mem_of_getElem? (i := 46) rfl)
theorem wd1351 : (.methodLink RX1 121 yX1_resistanceTo : Cond) ∈ osX := wv13 _ (List.mem_of_getElem? (i := 47) rfl)
theorem wd1353 : (.instanceMethod yX1_resistanceTo : Cond) ∈ osX := wv13 _ (List.mem_of_getElem? (i := 48) rfl)
theorem wd1355 : (.methodLink RX1 124 yX1_preventionOf : Cond) ∈ osX := wv13 _ (List.mem_of_getElem? (i := 49) rfl)
theorem wd1357 : (.instanceMethod yX1_preventionOf : Cond) ∈ osX := wv13 _ (List.mem_of_getElem? (i := 50) rfl)
theorem wd1359 : (.methodLink RX1 142 yX1_strengthOf : Cond) ∈ osX := wv13 _ (List.mem_of_getElem? (i := 51) rfl)
theorem wd1361 : (.instanceMethod yX1_strengthOf : Cond) ∈ osX := wv13 _ (List.mem_of_getElem? (i := 52) rfl)
theorem wd1363 : (.methodLink RX1 145 yJ9_max_7cf53 : Cond) ∈ osX := wv13 _ (List.mem_of_getElem? (i := 53) rfl)
theorem wd1364 : (.static yJ9_max_7cf53 : Cond) ∈ osX := wv13 _ (List.mem_of_getElem? (i := 54) rfl)
theorem wd1366 : (.methodLink RX9 229 yX5_carryOut : Cond) ∈ osX := wv13 _ (List.mem_of_getElem? (i := 55) rfl)
theorem wd1367 : (.instanceMethod yX5_carryOut : Cond) ∈ osX := wv13 _ (List.mem_of_getElem? (i := 56) rfl)
theorem wd1368 : (.selects RX5 yX5_carryOut yX5_carryOut : Cond) ∈ osX := wv13 _ (List.mem_of_getElem? (i := 57) rfl)
theorem wd1370 : (.methodLink RX5 165 yX5_placeUnit : Cond) ∈ osX := wv13 _ (List.mem_of_getElem? (i := 58) rfl)
theorem wd1371 : (.methodLink RX5 172 yX1_findAttacker : Cond) ∈ osX := wv13 _ (List.mem_of_getElem? (i := 59) rfl)
def ww14 : List Cond := [.instanceMethod yX1_findAttacker, .selects RX1 yX1_findAttacker yX1_findAttacker, .methodLink RX5 175 yX1_findFailedGoals, .instanceMethod yX1_findFailedGoals, .selects RX1 yX1_findFailedGoals yX1_findFailedGoals, .methodLinkNest RX5 178 yX9_bit "OrderSettler", .methodLink RX5 182 yX1_explainAll, .instanceMethod yX1_explainAll, .selects RX1 yX1_explainAll yX1_explainAll, .methodLink RX1 148 yX1_explain, .instanceMethod yX1_explain, .selects RX1 yX1_explain yX1_explain, .methodLink RX1 151 yX1_summaryOf, .instanceMethod yX1_summaryOf, .methodLink RX1 154 yX1_reasonFor, .instanceMethod yX1_reasonFor, .methodLink RX9 236 yX5_closeTurn, .instanceMethod yX5_closeTurn, .selects RX5 yX5_closeTurn yX5_closeTurn, .methodLink RX5 186 yX5_beginTurn, .instanceMethod yX5_beginTurn, .selects RX5 yX5_beginTurn yX5_beginTurn, .methodLink RL 172 yL_result, .static yL_result, .methodLink RL 51 yX9_result, .instanceMethod yX9_result, .selects RX9 yX9_result yX9_result, .methodLink RX9 248 yX9_requireSettled, .instanceMethod yX9_requireSettled, .methodLink RL 175 yL_outcomes, .static yL_outcomes, .methodLink RL 54 yX9_outcomes, .instanceMethod yX9_outcomes, .selects RX9 yX9_outcomes yX9_outcomes, .methodLink RL 178 yL_isContested, .static yL_isContested, .methodLink RL 57 yX9_isContested, .instanceMethod yX9_isContested, .selects RX9 yX9_isContested yX9_isContested, .methodLink RL 181 yL_mayRetreat, .static yL_mayRetreat, .methodLink RL 61 yX9_mayRetreat, .instanceMethod yX9_mayRetreat, .selects RX9 yX9_mayRetreat yX9_mayRetreat, .methodLink RX9 260 yX5_hasDislodged, .methodLink RX9 266 yX5_allowsRetreat, .methodLink RL 184 yL_endRetreats, .static yL_endRetreats, .methodLink RL 65 yX9_endRetreats, .instanceMethod yX9_endRetreats, .selects RX9 yX9_endRetreats yX9_endRetreats, .methodLink RX9 270 yX5_carryOutRetreats, .instanceMethod yX5_carryOutRetreats, .selects RX5 yX5_carryOutRetreats yX5_carryOutRetreats, .methodLink RL 187 yL_endBuilds, .static yL_endBuilds, .methodLink RL 68 yX9_endBuilds, .instanceMethod yX9_endBuilds, .selects RX9 yX9_endBuilds yX9_endBuilds, .methodLink RX9 274 yX5_disbandSurplus]
theorem wv14 : ∀ w ∈ ww14, w ∈ osX := osX_at [1372, 1373, 1375, 1376, 1377, 1379, 1380, 1381, 1382, 1384, 1385, 1386, 1388, 1390, 1392, 1394, 1396, 1397, 1398, 1400, 1401, 1402, 1404, 1405, 1407, 1408, 1409, 1411, 1413, 1416, 1417, 1419, 1420, 1421, 1423, 1424, 1426, 1427, 1428, 1430, 1431, 1433, 1434, 1435, 1437, 1439, 1440, 1441, 1443, 1444, 1445, 1447, 1448, 1449, 1451, 1452, 1454, 1455, 1456, 1458] (by decide +kernel) (by decide +kernel)
theorem wd1372 : (.instanceMethod yX1_findAttacker : Cond) ∈ osX := wv14 _ (List.mem_of_getElem? (i := 0) rfl)
theorem wd1373 : (.selects RX1 yX1_findAttacker yX1_findAttacker : Cond) ∈ osX := wv14 _ (List.mem_of_getElem? (i := 1) rfl)
theorem wd1375 : (.methodLink RX5 175 yX1_findFailedGoals : Cond) ∈ osX := wv14 _ (List.mem_of_getElem? (i := 2) rfl)
theorem wd1376 : (.instanceMethod yX1_findFailedGoals : Cond) ∈ osX := wv14 _ (List.mem_of_getElem? (i := 3) rfl)
theorem wd1377 : (.selects RX1 yX1_findFailedGoals yX1_findFailedGoals : Cond) ∈ osX := wv14 _ (List.mem_of_getElem? (i := 4) rfl)
theorem wd1379 : (.methodLinkNest RX5 178 yX9_bit "OrderSettler" : Cond) ∈ osX := wv14 _ (List.mem_of_getElem? (i := 5) rfl)
theorem wd1380 : (.methodLink RX5 182 yX1_explainAll : Cond) ∈ osX := wv14 _ (List.mem_of_getElem? (i := 6) rfl)
theorem wd1381 : (.instanceMethod yX1_explainAll : Cond) ∈ osX := wv14 _ (List.mem_of_getElem? (i := 7) rfl)
theorem wd1382 : (.selects RX1 yX1_explainAll yX1_explainAll : Cond) ∈ osX := wv14 _ (List.mem_of_getElem? (i := 8) rfl)
theorem wd1384 : (.methodLink RX1 148 yX1_explain : Cond) ∈ osX := wv14 _ (List.mem_of_getElem? (i := 9) rfl)
theorem wd1385 : (.instanceMethod yX1_explain : Cond) ∈ osX := wv14 _ (List.mem_of_getElem? (i := 10) rfl)
theorem wd1386 : (.selects RX1 yX1_explain yX1_explain : Cond) ∈ osX := wv14 _ (List.mem_of_getElem? (i := 11) rfl)
theorem wd1388 : (.methodLink RX1 151 yX1_summaryOf : Cond) ∈ osX := wv14 _ (List.mem_of_getElem? (i := 12) rfl)
theorem wd1390 : (.instanceMethod yX1_summaryOf : Cond) ∈ osX := wv14 _ (List.mem_of_getElem? (i := 13) rfl)
theorem wd1392 : (.methodLink RX1 154 yX1_reasonFor : Cond) ∈ osX := wv14 _ (List.mem_of_getElem? (i := 14) rfl)
theorem wd1394 : (.instanceMethod yX1_reasonFor : Cond) ∈ osX := wv14 _ (List.mem_of_getElem? (i := 15) rfl)
theorem wd1396 : (.methodLink RX9 236 yX5_closeTurn : Cond) ∈ osX := wv14 _ (List.mem_of_getElem? (i := 16) rfl)
theorem wd1397 : (.instanceMethod yX5_closeTurn : Cond) ∈ osX := wv14 _ (List.mem_of_getElem? (i := 17) rfl)
theorem wd1398 : (.selects RX5 yX5_closeTurn yX5_closeTurn : Cond) ∈ osX := wv14 _ (List.mem_of_getElem? (i := 18) rfl)
theorem wd1400 : (.methodLink RX5 186 yX5_beginTurn : Cond) ∈ osX := wv14 _ (List.mem_of_getElem? (i := 19) rfl)
theorem wd1401 : (.instanceMethod yX5_beginTurn : Cond) ∈ osX := wv14 _ (List.mem_of_getElem? (i := 20) rfl)
theorem wd1402 : (.selects RX5 yX5_beginTurn yX5_beginTurn : Cond) ∈ osX := wv14 _ (List.mem_of_getElem? (i := 21) rfl)
theorem wd1404 : (.methodLink RL 172 yL_result : Cond) ∈ osX := wv14 _ (List.mem_of_getElem? (i := 22) rfl)
theorem wd1405 : (.static yL_result : Cond) ∈ osX := wv14 _ (List.mem_of_getElem? (i := 23) rfl)
theorem wd1407 : (.methodLink RL 51 yX9_result : Cond) ∈ osX := wv14 _ (List.mem_of_getElem? (i := 24) rfl)
theorem wd1408 : (.instanceMethod yX9_result : Cond) ∈ osX := wv14 _ (List.mem_of_getElem? (i := 25) rfl)
theorem wd1409 : (.selects RX9 yX9_result yX9_result : Cond) ∈ osX := wv14 _ (List.mem_of_getElem? (i := 26) rfl)
theorem wd1411 : (.methodLink RX9 248 yX9_requireSettled : Cond) ∈ osX := wv14 _ (List.mem_of_getElem? (i := 27) rfl)
theorem wd1413 : (.instanceMethod yX9_requireSettled : Cond) ∈ osX := wv14 _ (List.mem_of_getElem? (i := 28) rfl)
theorem wd1416 : (.methodLink RL 175 yL_outcomes : Cond) ∈ osX := wv14 _ (List.mem_of_getElem? (i := 29) rfl)
theorem wd1417 : (.static yL_outcomes : Cond) ∈ osX := wv14 _ (List.mem_of_getElem? (i := 30) rfl)
theorem wd1419 : (.methodLink RL 54 yX9_outcomes : Cond) ∈ osX := wv14 _ (List.mem_of_getElem? (i := 31) rfl)
theorem wd1420 : (.instanceMethod yX9_outcomes : Cond) ∈ osX := wv14 _ (List.mem_of_getElem? (i := 32) rfl)
theorem wd1421 : (.selects RX9 yX9_outcomes yX9_outcomes : Cond) ∈ osX := wv14 _ (List.mem_of_getElem? (i := 33) rfl)
theorem wd1423 : (.methodLink RL 178 yL_isContested : Cond) ∈ osX := wv14 _ (List.mem_of_getElem? (i := 34) rfl)
theorem wd1424 : (.static yL_isContested : Cond) ∈ osX := wv14 _ (List.mem_of_getElem? (i := 35) rfl)
theorem wd1426 : (.methodLink RL 57 yX9_isContested : Cond) ∈ osX := wv14 _ (List.mem_of_getElem? (i := 36) rfl)
theorem wd1427 : (.instanceMethod yX9_isContested : Cond) ∈ osX := wv14 _ (List.mem_of_getElem? (i := 37) rfl)
theorem wd1428 : (.selects RX9 yX9_isContested yX9_isContested : Cond) ∈ osX := wv14 _ (List.mem_of_getElem? (i := 38) rfl)
theorem wd1430 : (.methodLink RL 181 yL_mayRetreat : Cond) ∈ osX := wv14 _ (List.mem_of_getElem? (i := 39) rfl)
theorem wd1431 : (.static yL_mayRetreat : Cond) ∈ osX := wv14 _ (List.mem_of_getElem? (i := 40) rfl)
theorem wd1433 : (.methodLink RL 61 yX9_mayRetreat : Cond) ∈ osX := wv14 _ (List.mem_of_getElem? (i := 41) rfl)
theorem wd1434 : (.instanceMethod yX9_mayRetreat : Cond) ∈ osX := wv14 _ (List.mem_of_getElem? (i := 42) rfl)
theorem wd1435 : (.selects RX9 yX9_mayRetreat yX9_mayRetreat : Cond) ∈ osX := wv14 _ (List.mem_of_getElem? (i := 43) rfl)
theorem wd1437 : (.methodLink RX9 260 yX5_hasDislodged : Cond) ∈ osX := wv14 _ (List.mem_of_getElem? (i := 44) rfl)
theorem wd1439 : (.methodLink RX9 266 yX5_allowsRetreat : Cond) ∈ osX := wv14 _ (List.mem_of_getElem? (i := 45) rfl)
theorem wd1440 : (.methodLink RL 184 yL_endRetreats : Cond) ∈ osX := wv14 _ (List.mem_of_getElem? (i := 46) rfl)
theorem wd1441 : (.static yL_endRetreats : Cond) ∈ osX := wv14 _ (List.mem_of_getElem? (i := 47) rfl)
theorem wd1443 : (.methodLink RL 65 yX9_endRetreats : Cond) ∈ osX := wv14 _ (List.mem_of_getElem? (i := 48) rfl)
theorem wd1444 : (.instanceMethod yX9_endRetreats : Cond) ∈ osX := wv14 _ (List.mem_of_getElem? (i := 49) rfl)
theorem wd1445 : (.selects RX9 yX9_endRetreats yX9_endRetreats : Cond) ∈ osX := wv14 _ (List.mem_of_getElem? (i := 50) rfl)
theorem wd1447 : (.methodLink RX9 270 yX5_carryOutRetreats : Cond) ∈ osX := wv14 _ (List.mem_of_getElem? (i := 51) rfl)
theorem wd1448 : (.instanceMethod yX5_carryOutRetreats : Cond) ∈ osX := wv14 _ (List.mem_of_getElem? (i := 52) rfl)
theorem wd1449 : (.selects RX5 yX5_carryOutRetreats yX5_carryOutRetreats : Cond) ∈ osX := wv14 _ (List.mem_of_getElem? (i := 53) rfl)
theorem wd1451 : (.methodLink RL 187 yL_endBuilds : Cond) ∈ osX := wv14 _ (List.mem_of_getElem? (i := 54) rfl)
theorem wd1452 : (.static yL_endBuilds : Cond) ∈ osX := wv14 _ (List.mem_of_getElem? (i := 55) rfl)
theorem wd1454 : (.methodLink RL 68 yX9_endBuilds : Cond) ∈ osX := wv14 _ (List.mem_of_getElem? (i := 56) rfl)
theorem wd1455 : (.instanceMethod yX9_endBuilds : Cond) ∈ osX := wv14 _ (List.mem_of_getElem? (i := 57) rfl)
theorem wd1456 : (.selects RX9 yX9_endBuilds yX9_endBuilds : Cond) ∈ osX := wv14 _ (List.mem_of_getElem? (i := 58) rfl)
theorem wd1458 : (.methodLink RX9 274 yX5_disbandSurplus : Cond) ∈ osX := wv14 _ (List.mem_of_getElem? (i := 59) rfl)
def ww15 : List Cond := [.instanceMethod yX5_disbandSurplus, .selects RX5 yX5_disbandSurplus yX5_disbandSurplus, .methodLink RX5 195 yX5_needsRemoval, .methodLink RX9 277 yX5_beginTurn, .methodLink RL 190 yL_undo, .static yL_undo, .methodLink RL 71 yX9_undo, .instanceMethod yX9_undo, .selects RX9 yX9_undo yX9_undo, .methodLink RL 197 yL_foresee, .static yL_foresee, .methodLink RL 74 yX9_foresee, .instanceMethod yX9_foresee, .selects RX9 yX9_foresee yX9_foresee, .methodLink RX9 282 yX1_explain, .methodLink RL 200 yL_foreseeMove, .static yL_foreseeMove, .methodLink RL 77 yX9_foreseeMove, .instanceMethod yX9_foreseeMove, .selects RX9 yX9_foreseeMove yX9_foreseeMove, .methodLink RX9 286 yX5_allowsMove, .methodLink RX9 294 yX5_giveOrder, .methodLink RL 203 yL_reach, .static yL_reach, .methodLink RL 80 yX9_reach, .instanceMethod yX9_reach, .selects RX9 yX9_reach yX9_reach, .methodLink RX9 298 yX5_countArrivals, .instanceMethod yX5_countArrivals, .selects RX5 yX5_countArrivals yX5_countArrivals, .methodLink RL 206 yL_isThreatened, .static yL_isThreatened, .methodLink RL 83 yX9_isThreatened, .instanceMethod yX9_isThreatened, .selects RX9 yX9_isThreatened yX9_isThreatened, .methodLink RL 209 yL_share, .static yL_share, .methodLink RL 86 yX9_share, .instanceMethod yX9_share, .selects RX9 yX9_share yX9_share, .methodLink RX9 302 yX9_shareOf, .instanceMethod yX9_shareOf, .methodLink RL 213 yL_shareBits, .static yL_shareBits, .methodLink RL 90 yX9_shareBits, .instanceMethod yX9_shareBits, .selects RX9 yX9_shareBits yX9_shareBits, .methodLink RX9 306 yX9_floatBits, .static yX9_floatBits, .constantFloat RX9 403 (1258291200 : UInt32), .methodLink RL 226 yL_leader, .static yL_leader, .methodLink RL 93 yX9_leader, .instanceMethod yX9_leader, .selects RX9 yX9_leader yX9_leader, .methodLink RL 233 yL_writeOrders, .static yL_writeOrders, .methodLink RL 96 yX9_writeOrders, .instanceMethod yX9_writeOrders, .selects RX9 yX9_writeOrders yX9_writeOrders]
theorem wv15 : ∀ w ∈ ww15, w ∈ osX := osX_at [1459, 1460, 1462, 1463, 1464, 1465, 1467, 1468, 1469, 1472, 1473, 1475, 1476, 1477, 1479, 1480, 1481, 1483, 1484, 1485, 1487, 1489, 1490, 1491, 1493, 1494, 1495, 1497, 1498, 1499, 1501, 1502, 1504, 1505, 1506, 1508, 1509, 1511, 1512, 1513, 1515, 1517, 1519, 1520, 1522, 1523, 1524, 1526, 1527, 1529, 1530, 1531, 1533, 1534, 1535, 1538, 1539, 1541, 1542, 1543] (by decide +kernel) (by decide +kernel)
theorem wd1459 : (.instanceMethod yX5_disbandSurplus : Cond) ∈ osX := wv15 _ (List.mem_of_getElem? (i := 0) rfl)
theorem wd1460 : (.selects RX5 yX5_disbandSurplus yX5_disbandSurplus : Cond) ∈ osX := wv15 _ (List.mem_of_getElem? (i := 1) rfl)
theorem wd1462 : (.methodLink RX5 195 yX5_needsRemoval : Cond) ∈ osX := wv15 _ (List.mem_of_getElem? (i := 2) rfl)
theorem wd1463 : (.methodLink RX9 277 yX5_beginTurn : Cond) ∈ osX := wv15 _ (List.mem_of_getElem? (i := 3) rfl)
theorem wd1464 : (.methodLink RL 190 yL_undo : Cond) ∈ osX := wv15 _ (List.mem_of_getElem? (i := 4) rfl)
theorem wd1465 : (.static yL_undo : Cond) ∈ osX := wv15 _ (List.mem_of_getElem? (i := 5) rfl)
theorem wd1467 : (.methodLink RL 71 yX9_undo : Cond) ∈ osX := wv15 _ (List.mem_of_getElem? (i := 6) rfl)
theorem wd1468 : (.instanceMethod yX9_undo : Cond) ∈ osX := wv15 _ (List.mem_of_getElem? (i := 7) rfl)
theorem wd1469 : (.selects RX9 yX9_undo yX9_undo : Cond) ∈ osX := wv15 _ (List.mem_of_getElem? (i := 8) rfl)
theorem wd1472 : (.methodLink RL 197 yL_foresee : Cond) ∈ osX := wv15 _ (List.mem_of_getElem? (i := 9) rfl)
theorem wd1473 : (.static yL_foresee : Cond) ∈ osX := wv15 _ (List.mem_of_getElem? (i := 10) rfl)
theorem wd1475 : (.methodLink RL 74 yX9_foresee : Cond) ∈ osX := wv15 _ (List.mem_of_getElem? (i := 11) rfl)
theorem wd1476 : (.instanceMethod yX9_foresee : Cond) ∈ osX := wv15 _ (List.mem_of_getElem? (i := 12) rfl)
theorem wd1477 : (.selects RX9 yX9_foresee yX9_foresee : Cond) ∈ osX := wv15 _ (List.mem_of_getElem? (i := 13) rfl)
theorem wd1479 : (.methodLink RX9 282 yX1_explain : Cond) ∈ osX := wv15 _ (List.mem_of_getElem? (i := 14) rfl)
theorem wd1480 : (.methodLink RL 200 yL_foreseeMove : Cond) ∈ osX := wv15 _ (List.mem_of_getElem? (i := 15) rfl)
theorem wd1481 : (.static yL_foreseeMove : Cond) ∈ osX := wv15 _ (List.mem_of_getElem? (i := 16) rfl)
theorem wd1483 : (.methodLink RL 77 yX9_foreseeMove : Cond) ∈ osX := wv15 _ (List.mem_of_getElem? (i := 17) rfl)
theorem wd1484 : (.instanceMethod yX9_foreseeMove : Cond) ∈ osX := wv15 _ (List.mem_of_getElem? (i := 18) rfl)
theorem wd1485 : (.selects RX9 yX9_foreseeMove yX9_foreseeMove : Cond) ∈ osX := wv15 _ (List.mem_of_getElem? (i := 19) rfl)
theorem wd1487 : (.methodLink RX9 286 yX5_allowsMove : Cond) ∈ osX := wv15 _ (List.mem_of_getElem? (i := 20) rfl)
theorem wd1489 : (.methodLink RX9 294 yX5_giveOrder : Cond) ∈ osX := wv15 _ (List.mem_of_getElem? (i := 21) rfl)
theorem wd1490 : (.methodLink RL 203 yL_reach : Cond) ∈ osX := wv15 _ (List.mem_of_getElem? (i := 22) rfl)
theorem wd1491 : (.static yL_reach : Cond) ∈ osX := wv15 _ (List.mem_of_getElem? (i := 23) rfl)
theorem wd1493 : (.methodLink RL 80 yX9_reach : Cond) ∈ osX := wv15 _ (List.mem_of_getElem? (i := 24) rfl)
theorem wd1494 : (.instanceMethod yX9_reach : Cond) ∈ osX := wv15 _ (List.mem_of_getElem? (i := 25) rfl)
theorem wd1495 : (.selects RX9 yX9_reach yX9_reach : Cond) ∈ osX := wv15 _ (List.mem_of_getElem? (i := 26) rfl)
theorem wd1497 : (.methodLink RX9 298 yX5_countArrivals : Cond) ∈ osX := wv15 _ (List.mem_of_getElem? (i := 27) rfl)
theorem wd1498 : (.instanceMethod yX5_countArrivals : Cond) ∈ osX := wv15 _ (List.mem_of_getElem? (i := 28) rfl)
theorem wd1499 : (.selects RX5 yX5_countArrivals yX5_countArrivals : Cond) ∈ osX := wv15 _ (List.mem_of_getElem? (i := 29) rfl)
theorem wd1501 : (.methodLink RL 206 yL_isThreatened : Cond) ∈ osX := wv15 _ (List.mem_of_getElem? (i := 30) rfl)
theorem wd1502 : (.static yL_isThreatened : Cond) ∈ osX := wv15 _ (List.mem_of_getElem? (i := 31) rfl)
theorem wd1504 : (.methodLink RL 83 yX9_isThreatened : Cond) ∈ osX := wv15 _ (List.mem_of_getElem? (i := 32) rfl)
theorem wd1505 : (.instanceMethod yX9_isThreatened : Cond) ∈ osX := wv15 _ (List.mem_of_getElem? (i := 33) rfl)
theorem wd1506 : (.selects RX9 yX9_isThreatened yX9_isThreatened : Cond) ∈ osX := wv15 _ (List.mem_of_getElem? (i := 34) rfl)
theorem wd1508 : (.methodLink RL 209 yL_share : Cond) ∈ osX := wv15 _ (List.mem_of_getElem? (i := 35) rfl)
theorem wd1509 : (.static yL_share : Cond) ∈ osX := wv15 _ (List.mem_of_getElem? (i := 36) rfl)
theorem wd1511 : (.methodLink RL 86 yX9_share : Cond) ∈ osX := wv15 _ (List.mem_of_getElem? (i := 37) rfl)
theorem wd1512 : (.instanceMethod yX9_share : Cond) ∈ osX := wv15 _ (List.mem_of_getElem? (i := 38) rfl)
theorem wd1513 : (.selects RX9 yX9_share yX9_share : Cond) ∈ osX := wv15 _ (List.mem_of_getElem? (i := 39) rfl)
theorem wd1515 : (.methodLink RX9 302 yX9_shareOf : Cond) ∈ osX := wv15 _ (List.mem_of_getElem? (i := 40) rfl)
theorem wd1517 : (.instanceMethod yX9_shareOf : Cond) ∈ osX := wv15 _ (List.mem_of_getElem? (i := 41) rfl)
theorem wd1519 : (.methodLink RL 213 yL_shareBits : Cond) ∈ osX := wv15 _ (List.mem_of_getElem? (i := 42) rfl)
theorem wd1520 : (.static yL_shareBits : Cond) ∈ osX := wv15 _ (List.mem_of_getElem? (i := 43) rfl)
theorem wd1522 : (.methodLink RL 90 yX9_shareBits : Cond) ∈ osX := wv15 _ (List.mem_of_getElem? (i := 44) rfl)
theorem wd1523 : (.instanceMethod yX9_shareBits : Cond) ∈ osX := wv15 _ (List.mem_of_getElem? (i := 45) rfl)
theorem wd1524 : (.selects RX9 yX9_shareBits yX9_shareBits : Cond) ∈ osX := wv15 _ (List.mem_of_getElem? (i := 46) rfl)
theorem wd1526 : (.methodLink RX9 306 yX9_floatBits : Cond) ∈ osX := wv15 _ (List.mem_of_getElem? (i := 47) rfl)
theorem wd1527 : (.static yX9_floatBits : Cond) ∈ osX := wv15 _ (List.mem_of_getElem? (i := 48) rfl)
theorem wd1529 : (.constantFloat RX9 403 (1258291200 : UInt32) : Cond) ∈ osX := wv15 _ (List.mem_of_getElem? (i := 49) rfl)
theorem wd1530 : (.methodLink RL 226 yL_leader : Cond) ∈ osX := wv15 _ (List.mem_of_getElem? (i := 50) rfl)
theorem wd1531 : (.static yL_leader : Cond) ∈ osX := wv15 _ (List.mem_of_getElem? (i := 51) rfl)
theorem wd1533 : (.methodLink RL 93 yX9_leader : Cond) ∈ osX := wv15 _ (List.mem_of_getElem? (i := 52) rfl)
theorem wd1534 : (.instanceMethod yX9_leader : Cond) ∈ osX := wv15 _ (List.mem_of_getElem? (i := 53) rfl)
theorem wd1535 : (.selects RX9 yX9_leader yX9_leader : Cond) ∈ osX := wv15 _ (List.mem_of_getElem? (i := 54) rfl)
theorem wd1538 : (.methodLink RL 233 yL_writeOrders : Cond) ∈ osX := wv15 _ (List.mem_of_getElem? (i := 55) rfl)
theorem wd1539 : (.static yL_writeOrders : Cond) ∈ osX := wv15 _ (List.mem_of_getElem? (i := 56) rfl)
theorem wd1541 : (.methodLink RL 96 yX9_writeOrders : Cond) ∈ osX := wv15 _ (List.mem_of_getElem? (i := 57) rfl)
theorem wd1542 : (.instanceMethod yX9_writeOrders : Cond) ∈ osX := wv15 _ (List.mem_of_getElem? (i := 58) rfl)
theorem wd1543 : (.selects RX9 yX9_writeOrders yX9_writeOrders : Cond) ∈ osX := wv15 _ (List.mem_of_getElem? (i := 59) rfl)
def ww16 : List Cond := [.methodLink RX9 345 yX9_putOrder, .instanceMethod yX9_putOrder, .methodLink RX9 396 yX9_putRoute, .instanceMethod yX9_putRoute, .methodLink RL 236 yL_outputByte, .static yL_outputByte, .classLink RL 102 "java/lang/IndexOutOfBoundsException", .methodLink RL 99 yX9_outputByte, .instanceMethod yX9_outputByte, .selects RX9 yX9_outputByte yX9_outputByte, .classLink RX9 349 "java/lang/IndexOutOfBoundsException", .castable "java/lang/IndexOutOfBoundsException" "java/lang/IndexOutOfBoundsException", .classLink RL 105 "OrderSettlerModel", .instantiable RX10 43, .methodLink RL 107 yX10_init, .instanceMethod yX10_init, .methodLink RX10 1 objectInit, .methodLink RX10 76 yX10_clears, .instanceMethod yX10_clears, .methodLink RX10 85 yX10_allHold, .static yX10_allHold, .methodLink RX10 79 yX10_settles, .instanceMethod yX10_settles, .methodLink RX10 89 yX10_takesDraft, .instanceMethod yX10_takesDraft, .fieldLink RX10 82 "OrderSettlerModel" "thrown" "I", .fieldLink RX10 7 "OrderSettlerModel" "map" "[I", .fieldLink RX10 13 "OrderSettlerModel" "mapDraft" "[I", .fieldLink RX10 16 "OrderSettlerModel" "now" "[I", .fieldLink RX10 19 "OrderSettlerModel" "draft" "[I", .fieldLink RX10 22 "OrderSettlerModel" "past" "[I", .fieldLink RX10 25 "OrderSettlerModel" "name" "[J", .fieldLink RX10 29 "OrderSettlerModel" "nameDraft" "[J", .fieldLink RX10 92 "OrderSettlerModel" "undos" "I", .fieldLink RX10 32 "OrderSettlerModel" "buffer" "[I", .fieldLink RX10 138 "OrderSettlerModel" "buffered" "I", .fieldLink RX10 158 "OrderSettlerModel" "textAt" "I", .fieldLink RX10 155 "OrderSettlerModel" "end" "I", .fieldLink RX10 164 "OrderSettlerModel" "tokenAt" "I", .fieldLink RX10 174 "OrderSettlerModel" "behindAt" "I", .fieldLink RX10 185 "OrderSettlerModel" "letters" "I", .fieldLink RX10 149 "OrderSettlerModel" "code" "I", .fieldLink RX10 35 "OrderSettlerModel" "codeAt" "I", .fieldLink RX10 177 "OrderSettlerModel" "word" "J", .fieldLink RX10 245 "OrderSettlerModel" "found" "I", .fieldLink RX10 342 "OrderSettlerModel" "lines" "I", .fieldLink RX10 39 "OrderSettlerModel" "moveAt" "[I", .fieldLink RX10 42 "OrderSettlerModel" "goalOf" "[I", .fieldLink RX10 45 "OrderSettlerModel" "opposed" "[I", .fieldLink RX10 48 "OrderSettlerModel" "moveOf" "[I", .fieldLink RX10 51 "OrderSettlerModel" "isBySea" "[Z", .fieldLink RX10 371 "OrderSettlerModel" "moves" "I", .fieldLink RX10 389 "OrderSettlerModel" "noSea" "Z", .fieldLink RX10 374 "OrderSettlerModel" "outcome" "I", .fieldLink RX10 380 "OrderSettlerModel" "dislodged" "I", .fieldLink RX10 386 "OrderSettlerModel" "withPath" "I", .fieldLink RX10 396 "OrderSettlerModel" "given" "I", .fieldLink RX10 55 "OrderSettlerModel" "strength" "[I", .fieldLink RX10 58 "OrderSettlerModel" "attack" "[I", .fieldLink RX10 61 "OrderSettlerModel" "prevents" "[I"]
theorem wv16 : ∀ w ∈ ww16, w ∈ osX := osX_at [1545, 1547, 1551, 1553, 1557, 1558, 1560, 1561, 1562, 1563, 1565, 1567, 1581, 1582, 1583, 1584, 1586, 1587, 1589, 1591, 1592, 1594, 1596, 1598, 1600, 1602, 1603, 1604, 1605, 1606, 1607, 1608, 1609, 1610, 1611, 1612, 1613, 1614, 1615, 1616, 1617, 1618, 1619, 1620, 1621, 1622, 1623, 1624, 1625, 1626, 1627, 1628, 1629, 1630, 1631, 1632, 1633, 1634, 1635, 1636] (by decide +kernel) (by decide +kernel)
theorem wd1545 : (.methodLink RX9 345 yX9_putOrder : Cond) ∈ osX := wv16 _ (List.mem_of_getElem? (i := 0) rfl)
theorem wd1547 : (.instanceMethod yX9_putOrder : Cond) ∈ osX := wv16 _ (List.mem_of_getElem? (i := 1) rfl)
theorem wd1551 : (.methodLink RX9 396 yX9_putRoute : Cond) ∈ osX := wv16 _ (List.mem_of_getElem? (i := 2) rfl)
theorem wd1553 : (.instanceMethod yX9_putRoute : Cond) ∈ osX := wv16 _ (List.mem_of_getElem? (i := 3) rfl)
theorem wd1557 : (.methodLink RL 236 yL_outputByte : Cond) ∈ osX := wv16 _ (List.mem_of_getElem? (i := 4) rfl)
theorem wd1558 : (.static yL_outputByte : Cond) ∈ osX := wv16 _ (List.mem_of_getElem? (i := 5) rfl)
theorem wd1560 : (.classLink RL 102 "java/lang/IndexOutOfBoundsException" : Cond) ∈ osX := wv16 _ (List.mem_of_getElem? (i := 6) rfl)
theorem wd1561 : (.methodLink RL 99 yX9_outputByte : Cond) ∈ osX := wv16 _ (List.mem_of_getElem? (i := 7) rfl)
theorem wd1562 : (.instanceMethod yX9_outputByte : Cond) ∈ osX := wv16 _ (List.mem_of_getElem? (i := 8) rfl)
theorem wd1563 : (.selects RX9 yX9_outputByte yX9_outputByte : Cond) ∈ osX := wv16 _ (List.mem_of_getElem? (i := 9) rfl)
theorem wd1565 : (.classLink RX9 349 "java/lang/IndexOutOfBoundsException" : Cond) ∈ osX := wv16 _ (List.mem_of_getElem? (i := 10) rfl)
theorem wd1567 : (.castable "java/lang/IndexOutOfBoundsException" "java/lang/IndexOutOfBoundsException" : Cond) ∈ osX := wv16 _ (List.mem_of_getElem? (i := 11) rfl)
theorem wd1581 : (.classLink RL 105 "OrderSettlerModel" : Cond) ∈ osX := wv16 _ (List.mem_of_getElem? (i := 12) rfl)
theorem wd1582 : (.instantiable RX10 43 : Cond) ∈ osX := wv16 _ (List.mem_of_getElem? (i := 13) rfl)
theorem wd1583 : (.methodLink RL 107 yX10_init : Cond) ∈ osX := wv16 _ (List.mem_of_getElem? (i := 14) rfl)
theorem wd1584 : (.instanceMethod yX10_init : Cond) ∈ osX := wv16 _ (List.mem_of_getElem? (i := 15) rfl)
theorem wd1586 : (.methodLink RX10 1 objectInit : Cond) ∈ osX := wv16 _ (List.mem_of_getElem? (i := 16) rfl)
theorem wd1587 : (.methodLink RX10 76 yX10_clears : Cond) ∈ osX := wv16 _ (List.mem_of_getElem? (i := 17) rfl)
theorem wd1589 : (.instanceMethod yX10_clears : Cond) ∈ osX := wv16 _ (List.mem_of_getElem? (i := 18) rfl)
theorem wd1591 : (.methodLink RX10 85 yX10_allHold : Cond) ∈ osX := wv16 _ (List.mem_of_getElem? (i := 19) rfl)
theorem wd1592 : (.static yX10_allHold : Cond) ∈ osX := wv16 _ (List.mem_of_getElem? (i := 20) rfl)
theorem wd1594 : (.methodLink RX10 79 yX10_settles : Cond) ∈ osX := wv16 _ (List.mem_of_getElem? (i := 21) rfl)
theorem wd1596 : (.instanceMethod yX10_settles : Cond) ∈ osX := wv16 _ (List.mem_of_getElem? (i := 22) rfl)
theorem wd1598 : (.methodLink RX10 89 yX10_takesDraft : Cond) ∈ osX := wv16 _ (List.mem_of_getElem? (i := 23) rfl)
theorem wd1600 : (.instanceMethod yX10_takesDraft : Cond) ∈ osX := wv16 _ (List.mem_of_getElem? (i := 24) rfl)
theorem wd1602 : (.fieldLink RX10 82 "OrderSettlerModel" "thrown" "I" : Cond) ∈ osX := wv16 _ (List.mem_of_getElem? (i := 25) rfl)
theorem wd1603 : (.fieldLink RX10 7 "OrderSettlerModel" "map" "[I" : Cond) ∈ osX := wv16 _ (List.mem_of_getElem? (i := 26) rfl)
theorem wd1604 : (.fieldLink RX10 13 "OrderSettlerModel" "mapDraft" "[I" : Cond) ∈ osX := wv16 _ (List.mem_of_getElem? (i := 27) rfl)
theorem wd1605 : (.fieldLink RX10 16 "OrderSettlerModel" "now" "[I" : Cond) ∈ osX := wv16 _ (List.mem_of_getElem? (i := 28) rfl)
theorem wd1606 : (.fieldLink RX10 19 "OrderSettlerModel" "draft" "[I" : Cond) ∈ osX := wv16 _ (List.mem_of_getElem? (i := 29) rfl)
theorem wd1607 : (.fieldLink RX10 22 "OrderSettlerModel" "past" "[I" : Cond) ∈ osX := wv16 _ (List.mem_of_getElem? (i := 30) rfl)
theorem wd1608 : (.fieldLink RX10 25 "OrderSettlerModel" "name" "[J" : Cond) ∈ osX := wv16 _ (List.mem_of_getElem? (i := 31) rfl)
theorem wd1609 : (.fieldLink RX10 29 "OrderSettlerModel" "nameDraft" "[J" : Cond) ∈ osX := wv16 _ (List.mem_of_getElem? (i := 32) rfl)
theorem wd1610 : (.fieldLink RX10 92 "OrderSettlerModel" "undos" "I" : Cond) ∈ osX := wv16 _ (List.mem_of_getElem? (i := 33) rfl)
theorem wd1611 : (.fieldLink RX10 32 "OrderSettlerModel" "buffer" "[I" : Cond) ∈ osX := wv16 _ (List.mem_of_getElem? (i := 34) rfl)
theorem wd1612 : (.fieldLink RX10 138 "OrderSettlerModel" "buffered" "I" : Cond) ∈ osX := wv16 _ (List.mem_of_getElem? (i := 35) rfl)
theorem wd1613 : (.fieldLink RX10 158 "OrderSettlerModel" "textAt" "I" : Cond) ∈ osX := wv16 _ (List.mem_of_getElem? (i := 36) rfl)
theorem wd1614 : (.fieldLink RX10 155 "OrderSettlerModel" "end" "I" : Cond) ∈ osX := wv16 _ (List.mem_of_getElem? (i := 37) rfl)
theorem wd1615 : (.fieldLink RX10 164 "OrderSettlerModel" "tokenAt" "I" : Cond) ∈ osX := wv16 _ (List.mem_of_getElem? (i := 38) rfl)
theorem wd1616 : (.fieldLink RX10 174 "OrderSettlerModel" "behindAt" "I" : Cond) ∈ osX := wv16 _ (List.mem_of_getElem? (i := 39) rfl)
theorem wd1617 : (.fieldLink RX10 185 "OrderSettlerModel" "letters" "I" : Cond) ∈ osX := wv16 _ (List.mem_of_getElem? (i := 40) rfl)
theorem wd1618 : (.fieldLink RX10 149 "OrderSettlerModel" "code" "I" : Cond) ∈ osX := wv16 _ (List.mem_of_getElem? (i := 41) rfl)
theorem wd1619 : (.fieldLink RX10 35 "OrderSettlerModel" "codeAt" "I" : Cond) ∈ osX := wv16 _ (List.mem_of_getElem? (i := 42) rfl)
theorem wd1620 : (.fieldLink RX10 177 "OrderSettlerModel" "word" "J" : Cond) ∈ osX := wv16 _ (List.mem_of_getElem? (i := 43) rfl)
theorem wd1621 : (.fieldLink RX10 245 "OrderSettlerModel" "found" "I" : Cond) ∈ osX := wv16 _ (List.mem_of_getElem? (i := 44) rfl)
theorem wd1622 : (.fieldLink RX10 342 "OrderSettlerModel" "lines" "I" : Cond) ∈ osX := wv16 _ (List.mem_of_getElem? (i := 45) rfl)
theorem wd1623 : (.fieldLink RX10 39 "OrderSettlerModel" "moveAt" "[I" : Cond) ∈ osX := wv16 _ (List.mem_of_getElem? (i := 46) rfl)
theorem wd1624 : (.fieldLink RX10 42 "OrderSettlerModel" "goalOf" "[I" : Cond) ∈ osX := wv16 _ (List.mem_of_getElem? (i := 47) rfl)
theorem wd1625 : (.fieldLink RX10 45 "OrderSettlerModel" "opposed" "[I" : Cond) ∈ osX := wv16 _ (List.mem_of_getElem? (i := 48) rfl)
theorem wd1626 : (.fieldLink RX10 48 "OrderSettlerModel" "moveOf" "[I" : Cond) ∈ osX := wv16 _ (List.mem_of_getElem? (i := 49) rfl)
theorem wd1627 : (.fieldLink RX10 51 "OrderSettlerModel" "isBySea" "[Z" : Cond) ∈ osX := wv16 _ (List.mem_of_getElem? (i := 50) rfl)
theorem wd1628 : (.fieldLink RX10 371 "OrderSettlerModel" "moves" "I" : Cond) ∈ osX := wv16 _ (List.mem_of_getElem? (i := 51) rfl)
theorem wd1629 : (.fieldLink RX10 389 "OrderSettlerModel" "noSea" "Z" : Cond) ∈ osX := wv16 _ (List.mem_of_getElem? (i := 52) rfl)
theorem wd1630 : (.fieldLink RX10 374 "OrderSettlerModel" "outcome" "I" : Cond) ∈ osX := wv16 _ (List.mem_of_getElem? (i := 53) rfl)
theorem wd1631 : (.fieldLink RX10 380 "OrderSettlerModel" "dislodged" "I" : Cond) ∈ osX := wv16 _ (List.mem_of_getElem? (i := 54) rfl)
theorem wd1632 : (.fieldLink RX10 386 "OrderSettlerModel" "withPath" "I" : Cond) ∈ osX := wv16 _ (List.mem_of_getElem? (i := 55) rfl)
theorem wd1633 : (.fieldLink RX10 396 "OrderSettlerModel" "given" "I" : Cond) ∈ osX := wv16 _ (List.mem_of_getElem? (i := 56) rfl)
theorem wd1634 : (.fieldLink RX10 55 "OrderSettlerModel" "strength" "[I" : Cond) ∈ osX := wv16 _ (List.mem_of_getElem? (i := 57) rfl)
theorem wd1635 : (.fieldLink RX10 58 "OrderSettlerModel" "attack" "[I" : Cond) ∈ osX := wv16 _ (List.mem_of_getElem? (i := 58) rfl)
theorem wd1636 : (.fieldLink RX10 61 "OrderSettlerModel" "prevents" "[I" : Cond) ∈ osX := wv16 _ (List.mem_of_getElem? (i := 59) rfl)
def ww17 : List Cond := [.fieldLink RX10 64 "OrderSettlerModel" "holds" "[I", .fieldLink RX10 429 "OrderSettlerModel" "bestOutcome" "I", .fieldLink RX10 432 "OrderSettlerModel" "consistent" "I", .fieldLink RX10 450 "OrderSettlerModel" "outcomesNow" "I", .fieldLink RX10 67 "OrderSettlerModel" "newPower" "[I", .fieldLink RX10 70 "OrderSettlerModel" "newKind" "[I", .fieldLink RX10 73 "OrderSettlerModel" "output" "[I", .fieldLink RX10 505 "OrderSettlerModel" "outputMany" "I", .arrayClass .long, .arrayClass .boolean, .methodLink RL 114 yX10_thrown, .instanceMethod yX10_thrown, .selects RX10 yX10_thrown yX10_thrown, .methodLink RL 113 yX10_feed, .instanceMethod yX10_feed, .selects RX10 yX10_feed yX10_feed, .methodLink RX10 141 yX10_refuse, .instanceMethod yX10_refuse, .methodLink RX10 145 yX10_lays, .instanceMethod yX10_lays, .methodLink RL 127 yX10_errorCode, .instanceMethod yX10_errorCode, .selects RX10 yX10_errorCode yX10_errorCode, .methodLink RX10 152 yX10_told, .instanceMethod yX10_told, .methodLink RL 131 yX10_errorPosition, .instanceMethod yX10_errorPosition, .selects RX10 yX10_errorPosition yX10_errorPosition, .methodLink RL 120 yX10_load, .instanceMethod yX10_load, .selects RX10 yX10_load yX10_load, .methodLink RX10 283 yX10_opens, .instanceMethod yX10_opens, .methodLink RX10 95 yX10_in, .static yX10_in, .methodLink RX10 286 yX10_readMap, .instanceMethod yX10_readMap, .methodLink RX10 167 yX10_peek, .instanceMethod yX10_peek, .methodLink RX10 161 yX10_byteAt, .instanceMethod yX10_byteAt, .methodLink RX10 277 yX10_readStatement, .instanceMethod yX10_readStatement, .methodLink RX10 232 yX10_readWord, .instanceMethod yX10_readWord, .methodLink RX10 188 yX10_seesWord, .instanceMethod yX10_seesWord, .methodLink RX10 171 yX10_isLetter, .static yX10_isLetter, .constantLong RX10 181 (32 : Int64), .constantLong RX10 183 (96 : Int64), .methodLink RX10 192 yX10_passes, .instanceMethod yX10_passes, .methodLink RX10 195 yX10_fails, .instanceMethod yX10_fails, .constantLong RX10 202 (394692 : Int64), .constantLong RX10 204 (3638900 : Int64), .constantLong RX10 206 (19617 : Int64), .methodLink RX10 265 yX10_readNewArea, .instanceMethod yX10_readNewArea]
theorem wv17 : ∀ w ∈ ww17, w ∈ osX := osX_at [1637, 1638, 1639, 1640, 1641, 1642, 1643, 1644, 1732, 1733, 1734, 1735, 1736, 1738, 1739, 1740, 1742, 1744, 1746, 1748, 1750, 1751, 1752, 1754, 1756, 1758, 1759, 1760, 1762, 1763, 1764, 1766, 1768, 1770, 1771, 1773, 1775, 1777, 1779, 1781, 1783, 1785, 1787, 1789, 1791, 1793, 1795, 1797, 1798, 1800, 1801, 1802, 1804, 1806, 1808, 1810, 1811, 1812, 1813, 1815] (by decide +kernel) (by decide +kernel)
theorem wd1637 : (.fieldLink RX10 64 "OrderSettlerModel" "holds" "[I" : Cond) ∈ osX := wv17 _ (List.mem_of_getElem? (i := 0) rfl)
theorem wd1638 : (.fieldLink RX10 429 "OrderSettlerModel" "bestOutcome" "I" : Cond) ∈ osX := wv17 _ (List.mem_of_getElem? (i := 1) rfl)
theorem wd1639 : (.fieldLink RX10 432 "OrderSettlerModel" "consistent" "I" : Cond) ∈ osX := wv17 _ (List.mem_of_getElem? (i := 2) rfl)
theorem wd1640 : (.fieldLink RX10 450 "OrderSettlerModel" "outcomesNow" "I" : Cond) ∈ osX := wv17 _ (List.mem_of_getElem? (i := 3) rfl)
theorem wd1641 : (.fieldLink RX10 67 "OrderSettlerModel" "newPower" "[I" : Cond) ∈ osX := wv17 _ (List.mem_of_getElem? (i := 4) rfl)
theorem wd1642 : (.fieldLink RX10 70 "OrderSettlerModel" "newKind" "[I" : Cond) ∈ osX := wv17 _ (List.mem_of_getElem? (i := 5) rfl)
theorem wd1643 : (.fieldLink RX10 73 "OrderSettlerModel" "output" "[I" : Cond) ∈ osX := wv17 _ (List.mem_of_getElem? (i := 6) rfl)
theorem wd1644 : (.fieldLink RX10 505 "OrderSettlerModel" "outputMany" "I" : Cond) ∈ osX := wv17 _ (List.mem_of_getElem? (i := 7) rfl)
theorem wd1732 : (.arrayClass .long : Cond) ∈ osX := wv17 _ (List.mem_of_getElem? (i := 8) rfl)
theorem wd1733 : (.arrayClass .boolean : Cond) ∈ osX := wv17 _ (List.mem_of_getElem? (i := 9) rfl)
theorem wd1734 : (.methodLink RL 114 yX10_thrown : Cond) ∈ osX := wv17 _ (List.mem_of_getElem? (i := 10) rfl)
theorem wd1735 : (.instanceMethod yX10_thrown : Cond) ∈ osX := wv17 _ (List.mem_of_getElem? (i := 11) rfl)
theorem wd1736 : (.selects RX10 yX10_thrown yX10_thrown : Cond) ∈ osX := wv17 _ (List.mem_of_getElem? (i := 12) rfl)
theorem wd1738 : (.methodLink RL 113 yX10_feed : Cond) ∈ osX := wv17 _ (List.mem_of_getElem? (i := 13) rfl)
theorem wd1739 : (.instanceMethod yX10_feed : Cond) ∈ osX := wv17 _ (List.mem_of_getElem? (i := 14) rfl)
theorem wd1740 : (.selects RX10 yX10_feed yX10_feed : Cond) ∈ osX := wv17 _ (List.mem_of_getElem? (i := 15) rfl)
theorem wd1742 : (.methodLink RX10 141 yX10_refuse : Cond) ∈ osX := wv17 _ (List.mem_of_getElem? (i := 16) rfl)
theorem wd1744 : (.instanceMethod yX10_refuse : Cond) ∈ osX := wv17 _ (List.mem_of_getElem? (i := 17) rfl)
theorem wd1746 : (.methodLink RX10 145 yX10_lays : Cond) ∈ osX := wv17 _ (List.mem_of_getElem? (i := 18) rfl)
theorem wd1748 : (.instanceMethod yX10_lays : Cond) ∈ osX := wv17 _ (List.mem_of_getElem? (i := 19) rfl)
theorem wd1750 : (.methodLink RL 127 yX10_errorCode : Cond) ∈ osX := wv17 _ (List.mem_of_getElem? (i := 20) rfl)
theorem wd1751 : (.instanceMethod yX10_errorCode : Cond) ∈ osX := wv17 _ (List.mem_of_getElem? (i := 21) rfl)
theorem wd1752 : (.selects RX10 yX10_errorCode yX10_errorCode : Cond) ∈ osX := wv17 _ (List.mem_of_getElem? (i := 22) rfl)
theorem wd1754 : (.methodLink RX10 152 yX10_told : Cond) ∈ osX := wv17 _ (List.mem_of_getElem? (i := 23) rfl)
theorem wd1756 : (.instanceMethod yX10_told : Cond) ∈ osX := wv17 _ (List.mem_of_getElem? (i := 24) rfl)
theorem wd1758 : (.methodLink RL 131 yX10_errorPosition : Cond) ∈ osX := wv17 _ (List.mem_of_getElem? (i := 25) rfl)
theorem wd1759 : (.instanceMethod yX10_errorPosition : Cond) ∈ osX := wv17 _ (List.mem_of_getElem? (i := 26) rfl)
theorem wd1760 : (.selects RX10 yX10_errorPosition yX10_errorPosition : Cond) ∈ osX := wv17 _ (List.mem_of_getElem? (i := 27) rfl)
theorem wd1762 : (.methodLink RL 120 yX10_load : Cond) ∈ osX := wv17 _ (List.mem_of_getElem? (i := 28) rfl)
theorem wd1763 : (.instanceMethod yX10_load : Cond) ∈ osX := wv17 _ (List.mem_of_getElem? (i := 29) rfl)
theorem wd1764 : (.selects RX10 yX10_load yX10_load : Cond) ∈ osX := wv17 _ (List.mem_of_getElem? (i := 30) rfl)
theorem wd1766 : (.methodLink RX10 283 yX10_opens : Cond) ∈ osX := wv17 _ (List.mem_of_getElem? (i := 31) rfl)
theorem wd1768 : (.instanceMethod yX10_opens : Cond) ∈ osX := wv17 _ (List.mem_of_getElem? (i := 32) rfl)
theorem wd1770 : (.methodLink RX10 95 yX10_in : Cond) ∈ osX := wv17 _ (List.mem_of_getElem? (i := 33) rfl)
theorem wd1771 : (.static yX10_in : Cond) ∈ osX := wv17 _ (List.mem_of_getElem? (i := 34) rfl)
theorem wd1773 : (.methodLink RX10 286 yX10_readMap : Cond) ∈ osX := wv17 _ (List.mem_of_getElem? (i := 35) rfl)
theorem wd1775 : (.instanceMethod yX10_readMap : Cond) ∈ osX := wv17 _ (List.mem_of_getElem? (i := 36) rfl)
theorem wd1777 : (.methodLink RX10 167 yX10_peek : Cond) ∈ osX := wv17 _ (List.mem_of_getElem? (i := 37) rfl)
theorem wd1779 : (.instanceMethod yX10_peek : Cond) ∈ osX := wv17 _ (List.mem_of_getElem? (i := 38) rfl)
theorem wd1781 : (.methodLink RX10 161 yX10_byteAt : Cond) ∈ osX := wv17 _ (List.mem_of_getElem? (i := 39) rfl)
theorem wd1783 : (.instanceMethod yX10_byteAt : Cond) ∈ osX := wv17 _ (List.mem_of_getElem? (i := 40) rfl)
theorem wd1785 : (.methodLink RX10 277 yX10_readStatement : Cond) ∈ osX := wv17 _ (List.mem_of_getElem? (i := 41) rfl)
theorem wd1787 : (.instanceMethod yX10_readStatement : Cond) ∈ osX := wv17 _ (List.mem_of_getElem? (i := 42) rfl)
theorem wd1789 : (.methodLink RX10 232 yX10_readWord : Cond) ∈ osX := wv17 _ (List.mem_of_getElem? (i := 43) rfl)
theorem wd1791 : (.instanceMethod yX10_readWord : Cond) ∈ osX := wv17 _ (List.mem_of_getElem? (i := 44) rfl)
theorem wd1793 : (.methodLink RX10 188 yX10_seesWord : Cond) ∈ osX := wv17 _ (List.mem_of_getElem? (i := 45) rfl)
theorem wd1795 : (.instanceMethod yX10_seesWord : Cond) ∈ osX := wv17 _ (List.mem_of_getElem? (i := 46) rfl)
theorem wd1797 : (.methodLink RX10 171 yX10_isLetter : Cond) ∈ osX := wv17 _ (List.mem_of_getElem? (i := 47) rfl)
theorem wd1798 : (.static yX10_isLetter : Cond) ∈ osX := wv17 _ (List.mem_of_getElem? (i := 48) rfl)
theorem wd1800 : (.constantLong RX10 181 (32 : Int64) : Cond) ∈ osX := wv17 _ (List.mem_of_getElem? (i := 49) rfl)
theorem wd1801 : (.constantLong RX10 183 (96 : Int64) : Cond) ∈ osX := wv17 _ (List.mem_of_getElem? (i := 50) rfl)
theorem wd1802 : (.methodLink RX10 192 yX10_passes : Cond) ∈ osX := wv17 _ (List.mem_of_getElem? (i := 51) rfl)
theorem wd1804 : (.instanceMethod yX10_passes : Cond) ∈ osX := wv17 _ (List.mem_of_getElem? (i := 52) rfl)
theorem wd1806 : (.methodLink RX10 195 yX10_fails : Cond) ∈ osX := wv17 _ (List.mem_of_getElem? (i := 53) rfl)
theorem wd1808 : (.instanceMethod yX10_fails : Cond) ∈ osX := wv17 _ (List.mem_of_getElem? (i := 54) rfl)
theorem wd1810 : (.constantLong RX10 202 (394692 : Int64) : Cond) ∈ osX := wv17 _ (List.mem_of_getElem? (i := 55) rfl)
theorem wd1811 : (.constantLong RX10 204 (3638900 : Int64) : Cond) ∈ osX := wv17 _ (List.mem_of_getElem? (i := 56) rfl)
theorem wd1812 : (.constantLong RX10 206 (19617 : Int64) : Cond) ∈ osX := wv17 _ (List.mem_of_getElem? (i := 57) rfl)
theorem wd1813 : (.methodLink RX10 265 yX10_readNewArea : Cond) ∈ osX := wv17 _ (List.mem_of_getElem? (i := 58) rfl)
theorem wd1815 : (.instanceMethod yX10_readNewArea : Cond) ∈ osX := wv17 _ (List.mem_of_getElem? (i := 59) rfl)
def ww18 : List Cond := [.methodLink RX10 238 yX10_readName, .instanceMethod yX10_readName, .methodLink RX10 235 yX10_isKeyword, .instanceMethod yX10_isKeyword, .constantLong RX10 208 (106385586 : Int64), .constantLong RX10 210 (83431602 : Int64), .constantLong RX10 212 (51641 : Int64), .constantLong RX10 214 (6689972 : Int64), .constantLong RX10 216 (17292466 : Int64), .constantLong RX10 218 (277892 : Int64), .constantLong RX10 220 (655 : Int64), .constantLong RX10 222 (21123055188 : Int64), .constantLong RX10 224 (116873721 : Int64), .constantLong RX10 226 (4616947140 : Int64), .constantLong RX10 228 (2794884 : Int64), .constantLong RX10 230 (609664709 : Int64), .methodLink RX10 241 yX10_numberOf, .static yX10_numberOf, .methodLink RX10 252 yX10_takesIf, .instanceMethod yX10_takesIf, .methodLink RX10 198 yX10_sees, .instanceMethod yX10_sees, .methodLink RX10 268 yX10_readBorder, .instanceMethod yX10_readBorder, .methodLink RX10 255 yX10_readDraftArea, .instanceMethod yX10_readDraftArea, .methodLink RX10 248 yX10_readArea, .instanceMethod yX10_readArea, .methodLink RX10 111 yX10_has, .static yX10_has, .methodLink RX10 258 yX10_joins, .instanceMethod yX10_joins, .methodLink RX10 271 yX10_readPower, .instanceMethod yX10_readPower, .methodLink RX10 274 yX10_readUnit, .instanceMethod yX10_readUnit, .methodLink RX10 262 yX10_draftUnits, .instanceMethod yX10_draftUnits, .methodLink RX10 103 yX10_isUnit, .static yX10_isUnit, .methodLink RX10 280 yX10_readSemicolon, .instanceMethod yX10_readSemicolon, .methodLink RX10 289 yX10_isRead, .instanceMethod yX10_isRead, .methodLink RX10 128 yX10_unitsOf, .instanceMethod yX10_unitsOf, .methodLink RL 123 yX10_tell, .instanceMethod yX10_tell, .selects RX10 yX10_tell yX10_tell, .methodLink RX10 348 yX10_laysDraft, .instanceMethod yX10_laysDraft, .methodLink RX10 351 yX10_readAll, .instanceMethod yX10_readAll, .methodLink RX10 345 yX10_readOne, .instanceMethod yX10_readOne, .methodLink RX10 333 yX10_readOrder, .instanceMethod yX10_readOrder, .methodLink RX10 293 yX10_readHere, .instanceMethod yX10_readHere, .methodLink RX10 299 yX10_orders]
theorem wv18 : ∀ w ∈ ww18, w ∈ osX := osX_at [1817, 1819, 1821, 1823, 1825, 1826, 1827, 1828, 1829, 1830, 1831, 1832, 1833, 1834, 1835, 1836, 1837, 1838, 1840, 1842, 1844, 1846, 1848, 1850, 1852, 1854, 1856, 1858, 1860, 1861, 1863, 1865, 1867, 1869, 1871, 1873, 1875, 1877, 1879, 1880, 1882, 1884, 1886, 1888, 1890, 1892, 1894, 1895, 1896, 1898, 1900, 1902, 1904, 1906, 1908, 1910, 1912, 1914, 1916, 1918] (by decide +kernel) (by decide +kernel)
theorem wd1817 : (.methodLink RX10 238 yX10_readName : Cond) ∈ osX := wv18 _ (List.mem_of_getElem? (i := 0) rfl)
theorem wd1819 : (.instanceMethod yX10_readName : Cond) ∈ osX := wv18 _ (List.mem_of_getElem? (i := 1) rfl)
theorem wd1821 : (.methodLink RX10 235 yX10_isKeyword : Cond) ∈ osX := wv18 _ (List.mem_of_getElem? (i := 2) rfl)
theorem wd1823 : (.instanceMethod yX10_isKeyword : Cond) ∈ osX := wv18 _ (List.mem_of_getElem? (i := 3) rfl)
theorem wd1825 : (.constantLong RX10 208 (106385586 : Int64) : Cond) ∈ osX := wv18 _ (List.mem_of_getElem? (i := 4) rfl)
theorem wd1826 : (.constantLong RX10 210 (83431602 : Int64) : Cond) ∈ osX := wv18 _ (List.mem_of_getElem? (i := 5) rfl)
theorem wd1827 : (.constantLong RX10 212 (51641 : Int64) : Cond) ∈ osX := wv18 _ (List.mem_of_getElem? (i := 6) rfl)
theorem wd1828 : (.constantLong RX10 214 (6689972 : Int64) : Cond) ∈ osX := wv18 _ (List.mem_of_getElem? (i := 7) rfl)
theorem wd1829 : (.constantLong RX10 216 (17292466 : Int64) : Cond) ∈ osX := wv18 _ (List.mem_of_getElem? (i := 8) rfl)
theorem wd1830 : (.constantLong RX10 218 (277892 : Int64) : Cond) ∈ osX := wv18 _ (List.mem_of_getElem? (i := 9) rfl)
theorem wd1831 : (.constantLong RX10 220 (655 : Int64) : Cond) ∈ osX := wv18 _ (List.mem_of_getElem? (i := 10) rfl)
theorem wd1832 : (.constantLong RX10 222 (21123055188 : Int64) : Cond) ∈ osX := wv18 _ (List.mem_of_getElem? (i := 11) rfl)
theorem wd1833 : (.constantLong RX10 224 (116873721 : Int64) : Cond) ∈ osX := wv18 _ (List.mem_of_getElem? (i := 12) rfl)
theorem wd1834 : (.constantLong RX10 226 (4616947140 : Int64) : Cond) ∈ osX := wv18 _ (List.mem_of_getElem? (i := 13) rfl)
theorem wd1835 : (.constantLong RX10 228 (2794884 : Int64) : Cond) ∈ osX := wv18 _ (List.mem_of_getElem? (i := 14) rfl)
theorem wd1836 : (.constantLong RX10 230 (609664709 : Int64) : Cond) ∈ osX := wv18 _ (List.mem_of_getElem? (i := 15) rfl)
theorem wd1837 : (.methodLink RX10 241 yX10_numberOf : Cond) ∈ osX := wv18 _ (List.mem_of_getElem? (i := 16) rfl)
theorem wd1838 : (.static yX10_numberOf : Cond) ∈ osX := wv18 _ (List.mem_of_getElem? (i := 17) rfl)
theorem wd1840 : (.methodLink RX10 252 yX10_takesIf : Cond) ∈ osX := wv18 _ (List.mem_of_getElem? (i := 18) rfl)
theorem wd1842 : (.instanceMethod yX10_takesIf : Cond) ∈ osX := wv18 _ (List.mem_of_getElem? (i := 19) rfl)
theorem wd1844 : (.methodLink RX10 198 yX10_sees : Cond) ∈ osX := wv18 _ (List.mem_of_getElem? (i := 20) rfl)
theorem wd1846 : (.instanceMethod yX10_sees : Cond) ∈ osX := wv18 _ (List.mem_of_getElem? (i := 21) rfl)
theorem wd1848 : (.methodLink RX10 268 yX10_readBorder : Cond) ∈ osX := wv18 _ (List.mem_of_getElem? (i := 22) rfl)
theorem wd1850 : (.instanceMethod yX10_readBorder : Cond) ∈ osX := wv18 _ (List.mem_of_getElem? (i := 23) rfl)
theorem wd1852 : (.methodLink RX10 255 yX10_readDraftArea : Cond) ∈ osX := wv18 _ (List.mem_of_getElem? (i := 24) rfl)
theorem wd1854 : (.instanceMethod yX10_readDraftArea : Cond) ∈ osX := wv18 _ (List.mem_of_getElem? (i := 25) rfl)
theorem wd1856 : (.methodLink RX10 248 yX10_readArea : Cond) ∈ osX := wv18 _ (List.mem_of_getElem? (i := 26) rfl)
theorem wd1858 : (.instanceMethod yX10_readArea : Cond) ∈ osX := wv18 _ (List.mem_of_getElem? (i := 27) rfl)
theorem wd1860 : (.methodLink RX10 111 yX10_has : Cond) ∈ osX := wv18 _ (List.mem_of_getElem? (i := 28) rfl)
theorem wd1861 : (.static yX10_has : Cond) ∈ osX := wv18 _ (List.mem_of_getElem? (i := 29) rfl)
theorem wd1863 : (.methodLink RX10 258 yX10_joins : Cond) ∈ osX := wv18 _ (List.mem_of_getElem? (i := 30) rfl)
theorem wd1865 : (.instanceMethod yX10_joins : Cond) ∈ osX := wv18 _ (List.mem_of_getElem? (i := 31) rfl)
theorem wd1867 : (.methodLink RX10 271 yX10_readPower : Cond) ∈ osX := wv18 _ (List.mem_of_getElem? (i := 32) rfl)
theorem wd1869 : (.instanceMethod yX10_readPower : Cond) ∈ osX := wv18 _ (List.mem_of_getElem? (i := 33) rfl)
theorem wd1871 : (.methodLink RX10 274 yX10_readUnit : Cond) ∈ osX := wv18 _ (List.mem_of_getElem? (i := 34) rfl)
theorem wd1873 : (.instanceMethod yX10_readUnit : Cond) ∈ osX := wv18 _ (List.mem_of_getElem? (i := 35) rfl)
theorem wd1875 : (.methodLink RX10 262 yX10_draftUnits : Cond) ∈ osX := wv18 _ (List.mem_of_getElem? (i := 36) rfl)
theorem wd1877 : (.instanceMethod yX10_draftUnits : Cond) ∈ osX := wv18 _ (List.mem_of_getElem? (i := 37) rfl)
theorem wd1879 : (.methodLink RX10 103 yX10_isUnit : Cond) ∈ osX := wv18 _ (List.mem_of_getElem? (i := 38) rfl)
theorem wd1880 : (.static yX10_isUnit : Cond) ∈ osX := wv18 _ (List.mem_of_getElem? (i := 39) rfl)
theorem wd1882 : (.methodLink RX10 280 yX10_readSemicolon : Cond) ∈ osX := wv18 _ (List.mem_of_getElem? (i := 40) rfl)
theorem wd1884 : (.instanceMethod yX10_readSemicolon : Cond) ∈ osX := wv18 _ (List.mem_of_getElem? (i := 41) rfl)
theorem wd1886 : (.methodLink RX10 289 yX10_isRead : Cond) ∈ osX := wv18 _ (List.mem_of_getElem? (i := 42) rfl)
theorem wd1888 : (.instanceMethod yX10_isRead : Cond) ∈ osX := wv18 _ (List.mem_of_getElem? (i := 43) rfl)
theorem wd1890 : (.methodLink RX10 128 yX10_unitsOf : Cond) ∈ osX := wv18 _ (List.mem_of_getElem? (i := 44) rfl)
theorem wd1892 : (.instanceMethod yX10_unitsOf : Cond) ∈ osX := wv18 _ (List.mem_of_getElem? (i := 45) rfl)
theorem wd1894 : (.methodLink RL 123 yX10_tell : Cond) ∈ osX := wv18 _ (List.mem_of_getElem? (i := 46) rfl)
theorem wd1895 : (.instanceMethod yX10_tell : Cond) ∈ osX := wv18 _ (List.mem_of_getElem? (i := 47) rfl)
theorem wd1896 : (.selects RX10 yX10_tell yX10_tell : Cond) ∈ osX := wv18 _ (List.mem_of_getElem? (i := 48) rfl)
theorem wd1898 : (.methodLink RX10 348 yX10_laysDraft : Cond) ∈ osX := wv18 _ (List.mem_of_getElem? (i := 49) rfl)
theorem wd1900 : (.instanceMethod yX10_laysDraft : Cond) ∈ osX := wv18 _ (List.mem_of_getElem? (i := 50) rfl)
theorem wd1902 : (.methodLink RX10 351 yX10_readAll : Cond) ∈ osX := wv18 _ (List.mem_of_getElem? (i := 51) rfl)
theorem wd1904 : (.instanceMethod yX10_readAll : Cond) ∈ osX := wv18 _ (List.mem_of_getElem? (i := 52) rfl)
theorem wd1906 : (.methodLink RX10 345 yX10_readOne : Cond) ∈ osX := wv18 _ (List.mem_of_getElem? (i := 53) rfl)
theorem wd1908 : (.instanceMethod yX10_readOne : Cond) ∈ osX := wv18 _ (List.mem_of_getElem? (i := 54) rfl)
theorem wd1910 : (.methodLink RX10 333 yX10_readOrder : Cond) ∈ osX := wv18 _ (List.mem_of_getElem? (i := 55) rfl)
theorem wd1912 : (.instanceMethod yX10_readOrder : Cond) ∈ osX := wv18 _ (List.mem_of_getElem? (i := 56) rfl)
theorem wd1914 : (.methodLink RX10 293 yX10_readHere : Cond) ∈ osX := wv18 _ (List.mem_of_getElem? (i := 57) rfl)
theorem wd1916 : (.instanceMethod yX10_readHere : Cond) ∈ osX := wv18 _ (List.mem_of_getElem? (i := 58) rfl)
theorem wd1918 : (.methodLink RX10 299 yX10_orders : Cond) ∈ osX := wv18 _ (List.mem_of_getElem? (i := 59) rfl)
def ww19 : List Cond := [.instanceMethod yX10_orders, .methodLink RX10 312 yX10_mayMove, .instanceMethod yX10_mayMove, .methodLink RX10 118 yX10_isDirect, .instanceMethod yX10_isDirect, .methodLink RX10 115 yX10_canGo, .instanceMethod yX10_canGo, .methodLink RX10 107 yX10_passing, .instanceMethod yX10_passing, .methodLink RX10 121 yX10_isCoast, .instanceMethod yX10_isCoast, .methodLink RX10 315 yX10_readSupport, .instanceMethod yX10_readSupport, .methodLink RX10 296 yX10_maySupportMove, .instanceMethod yX10_maySupportMove, .methodLink RX10 303 yX10_maySupport, .instanceMethod yX10_maySupport, .methodLink RX10 318 yX10_readConvoy, .instanceMethod yX10_readConvoy, .methodLink RX10 306 yX10_takesWord, .instanceMethod yX10_takesWord, .methodLink RX10 309 yX10_mayConvoy, .instanceMethod yX10_mayConvoy, .methodLink RX10 336 yX10_readRetreat, .instanceMethod yX10_readRetreat, .methodLink RX10 321 yX10_mayGoBack, .instanceMethod yX10_mayGoBack, .methodLink RX10 339 yX10_readBuild, .instanceMethod yX10_readBuild, .methodLink RX10 327 yX10_readNewUnit, .instanceMethod yX10_readNewUnit, .methodLink RX10 131 yX10_isFreeHome, .instanceMethod yX10_isFreeHome, .methodLink RX10 324 yX10_buildsOf, .instanceMethod yX10_buildsOf, .methodLink RX10 124 yX10_centersOf, .instanceMethod yX10_centersOf, .methodLink RX10 135 yX10_lesser, .static yX10_lesser, .methodLink RX10 330 yX10_readGone, .instanceMethod yX10_readGone, .methodLink RL 135 yX10_areas, .instanceMethod yX10_areas, .selects RX10 yX10_areas yX10_areas, .methodLink RL 139 yX10_powers, .instanceMethod yX10_powers, .selects RX10 yX10_powers yX10_powers, .methodLink RL 143 yX10_area, .instanceMethod yX10_area, .selects RX10 yX10_area yX10_area, .methodLink RX10 99 yX10_isArea, .instanceMethod yX10_isArea, .methodLink RX10 354 yX10_isRefused, .instanceMethod yX10_isRefused, .methodLink RL 146 yX10_named, .instanceMethod yX10_named, .selects RX10 yX10_named yX10_named, .constantLong RX10 357 (-1 : Int64), .methodLink RL 150 yX10_passes_, .instanceMethod yX10_passes_]
theorem wv19 : ∀ w ∈ ww19, w ∈ osX := osX_at [1920, 1922, 1924, 1926, 1928, 1930, 1932, 1934, 1936, 1938, 1940, 1942, 1944, 1946, 1948, 1950, 1952, 1954, 1956, 1958, 1960, 1962, 1964, 1966, 1968, 1970, 1972, 1974, 1976, 1978, 1980, 1982, 1984, 1986, 1988, 1990, 1992, 1994, 1995, 1997, 1999, 2001, 2002, 2003, 2005, 2006, 2007, 2009, 2010, 2011, 2013, 2015, 2017, 2019, 2021, 2022, 2023, 2025, 2026, 2027] (by decide +kernel) (by decide +kernel)
theorem wd1920 : (.instanceMethod yX10_orders : Cond) ∈ osX := wv19 _ (List.mem_of_getElem? (i := 0) rfl)
theorem wd1922 : (.methodLink RX10 312 yX10_mayMove : Cond) ∈ osX := wv19 _ (List.mem_of_getElem? (i := 1) rfl)
theorem wd1924 : (.instanceMethod yX10_mayMove : Cond) ∈ osX := wv19 _ (List.mem_of_getElem? (i := 2) rfl)
theorem wd1926 : (.methodLink RX10 118 yX10_isDirect : Cond) ∈ osX := wv19 _ (List.mem_of_getElem? (i := 3) rfl)
theorem wd1928 : (.instanceMethod yX10_isDirect : Cond) ∈ osX := wv19 _ (List.mem_of_getElem? (i := 4) rfl)
theorem wd1930 : (.methodLink RX10 115 yX10_canGo : Cond) ∈ osX := wv19 _ (List.mem_of_getElem? (i := 5) rfl)
theorem wd1932 : (.instanceMethod yX10_canGo : Cond) ∈ osX := wv19 _ (List.mem_of_getElem? (i := 6) rfl)
theorem wd1934 : (.methodLink RX10 107 yX10_passing : Cond) ∈ osX := wv19 _ (List.mem_of_getElem? (i := 7) rfl)
theorem wd1936 : (.instanceMethod yX10_passing : Cond) ∈ osX := wv19 _ (List.mem_of_getElem? (i := 8) rfl)
theorem wd1938 : (.methodLink RX10 121 yX10_isCoast : Cond) ∈ osX := wv19 _ (List.mem_of_getElem? (i := 9) rfl)
theorem wd1940 : (.instanceMethod yX10_isCoast : Cond) ∈ osX := wv19 _ (List.mem_of_getElem? (i := 10) rfl)
theorem wd1942 : (.methodLink RX10 315 yX10_readSupport : Cond) ∈ osX := wv19 _ (List.mem_of_getElem? (i := 11) rfl)
theorem wd1944 : (.instanceMethod yX10_readSupport : Cond) ∈ osX := wv19 _ (List.mem_of_getElem? (i := 12) rfl)
theorem wd1946 : (.methodLink RX10 296 yX10_maySupportMove : Cond) ∈ osX := wv19 _ (List.mem_of_getElem? (i := 13) rfl)
theorem wd1948 : (.instanceMethod yX10_maySupportMove : Cond) ∈ osX := wv19 _ (List.mem_of_getElem? (i := 14) rfl)
theorem wd1950 : (.methodLink RX10 303 yX10_maySupport : Cond) ∈ osX := wv19 _ (List.mem_of_getElem? (i := 15) rfl)
theorem wd1952 : (.instanceMethod yX10_maySupport : Cond) ∈ osX := wv19 _ (List.mem_of_getElem? (i := 16) rfl)
theorem wd1954 : (.methodLink RX10 318 yX10_readConvoy : Cond) ∈ osX := wv19 _ (List.mem_of_getElem? (i := 17) rfl)
theorem wd1956 : (.instanceMethod yX10_readConvoy : Cond) ∈ osX := wv19 _ (List.mem_of_getElem? (i := 18) rfl)
theorem wd1958 : (.methodLink RX10 306 yX10_takesWord : Cond) ∈ osX := wv19 _ (List.mem_of_getElem? (i := 19) rfl)
theorem wd1960 : (.instanceMethod yX10_takesWord : Cond) ∈ osX := wv19 _ (List.mem_of_getElem? (i := 20) rfl)
theorem wd1962 : (.methodLink RX10 309 yX10_mayConvoy : Cond) ∈ osX := wv19 _ (List.mem_of_getElem? (i := 21) rfl)
theorem wd1964 : (.instanceMethod yX10_mayConvoy : Cond) ∈ osX := wv19 _ (List.mem_of_getElem? (i := 22) rfl)
theorem wd1966 : (.methodLink RX10 336 yX10_readRetreat : Cond) ∈ osX := wv19 _ (List.mem_of_getElem? (i := 23) rfl)
theorem wd1968 : (.instanceMethod yX10_readRetreat : Cond) ∈ osX := wv19 _ (List.mem_of_getElem? (i := 24) rfl)
theorem wd1970 : (.methodLink RX10 321 yX10_mayGoBack : Cond) ∈ osX := wv19 _ (List.mem_of_getElem? (i := 25) rfl)
theorem wd1972 : (.instanceMethod yX10_mayGoBack : Cond) ∈ osX := wv19 _ (List.mem_of_getElem? (i := 26) rfl)
theorem wd1974 : (.methodLink RX10 339 yX10_readBuild : Cond) ∈ osX := wv19 _ (List.mem_of_getElem? (i := 27) rfl)
theorem wd1976 : (.instanceMethod yX10_readBuild : Cond) ∈ osX := wv19 _ (List.mem_of_getElem? (i := 28) rfl)
theorem wd1978 : (.methodLink RX10 327 yX10_readNewUnit : Cond) ∈ osX := wv19 _ (List.mem_of_getElem? (i := 29) rfl)
theorem wd1980 : (.instanceMethod yX10_readNewUnit : Cond) ∈ osX := wv19 _ (List.mem_of_getElem? (i := 30) rfl)
theorem wd1982 : (.methodLink RX10 131 yX10_isFreeHome : Cond) ∈ osX := wv19 _ (List.mem_of_getElem? (i := 31) rfl)
theorem wd1984 : (.instanceMethod yX10_isFreeHome : Cond) ∈ osX := wv19 _ (List.mem_of_getElem? (i := 32) rfl)
theorem wd1986 : (.methodLink RX10 324 yX10_buildsOf : Cond) ∈ osX := wv19 _ (List.mem_of_getElem? (i := 33) rfl)
theorem wd1988 : (.instanceMethod yX10_buildsOf : Cond) ∈ osX := wv19 _ (List.mem_of_getElem? (i := 34) rfl)
theorem wd1990 : (.methodLink RX10 124 yX10_centersOf : Cond) ∈ osX := wv19 _ (List.mem_of_getElem? (i := 35) rfl)
theorem wd1992 : (.instanceMethod yX10_centersOf : Cond) ∈ osX := wv19 _ (List.mem_of_getElem? (i := 36) rfl)
theorem wd1994 : (.methodLink RX10 135 yX10_lesser : Cond) ∈ osX := wv19 _ (List.mem_of_getElem? (i := 37) rfl)
theorem wd1995 : (.static yX10_lesser : Cond) ∈ osX := wv19 _ (List.mem_of_getElem? (i := 38) rfl)
theorem wd1997 : (.methodLink RX10 330 yX10_readGone : Cond) ∈ osX := wv19 _ (List.mem_of_getElem? (i := 39) rfl)
theorem wd1999 : (.instanceMethod yX10_readGone : Cond) ∈ osX := wv19 _ (List.mem_of_getElem? (i := 40) rfl)
theorem wd2001 : (.methodLink RL 135 yX10_areas : Cond) ∈ osX := wv19 _ (List.mem_of_getElem? (i := 41) rfl)
theorem wd2002 : (.instanceMethod yX10_areas : Cond) ∈ osX := wv19 _ (List.mem_of_getElem? (i := 42) rfl)
theorem wd2003 : (.selects RX10 yX10_areas yX10_areas : Cond) ∈ osX := wv19 _ (List.mem_of_getElem? (i := 43) rfl)
theorem wd2005 : (.methodLink RL 139 yX10_powers : Cond) ∈ osX := wv19 _ (List.mem_of_getElem? (i := 44) rfl)
theorem wd2006 : (.instanceMethod yX10_powers : Cond) ∈ osX := wv19 _ (List.mem_of_getElem? (i := 45) rfl)
theorem wd2007 : (.selects RX10 yX10_powers yX10_powers : Cond) ∈ osX := wv19 _ (List.mem_of_getElem? (i := 46) rfl)
theorem wd2009 : (.methodLink RL 143 yX10_area : Cond) ∈ osX := wv19 _ (List.mem_of_getElem? (i := 47) rfl)
theorem wd2010 : (.instanceMethod yX10_area : Cond) ∈ osX := wv19 _ (List.mem_of_getElem? (i := 48) rfl)
theorem wd2011 : (.selects RX10 yX10_area yX10_area : Cond) ∈ osX := wv19 _ (List.mem_of_getElem? (i := 49) rfl)
theorem wd2013 : (.methodLink RX10 99 yX10_isArea : Cond) ∈ osX := wv19 _ (List.mem_of_getElem? (i := 50) rfl)
theorem wd2015 : (.instanceMethod yX10_isArea : Cond) ∈ osX := wv19 _ (List.mem_of_getElem? (i := 51) rfl)
theorem wd2017 : (.methodLink RX10 354 yX10_isRefused : Cond) ∈ osX := wv19 _ (List.mem_of_getElem? (i := 52) rfl)
theorem wd2019 : (.instanceMethod yX10_isRefused : Cond) ∈ osX := wv19 _ (List.mem_of_getElem? (i := 53) rfl)
theorem wd2021 : (.methodLink RL 146 yX10_named : Cond) ∈ osX := wv19 _ (List.mem_of_getElem? (i := 54) rfl)
theorem wd2022 : (.instanceMethod yX10_named : Cond) ∈ osX := wv19 _ (List.mem_of_getElem? (i := 55) rfl)
theorem wd2023 : (.selects RX10 yX10_named yX10_named : Cond) ∈ osX := wv19 _ (List.mem_of_getElem? (i := 56) rfl)
theorem wd2025 : (.constantLong RX10 357 (-1 : Int64) : Cond) ∈ osX := wv19 _ (List.mem_of_getElem? (i := 57) rfl)
theorem wd2026 : (.methodLink RL 150 yX10_passes_ : Cond) ∈ osX := wv19 _ (List.mem_of_getElem? (i := 58) rfl)
theorem wd2027 : (.instanceMethod yX10_passes_ : Cond) ∈ osX := wv19 _ (List.mem_of_getElem? (i := 59) rfl)
def ww20 : List Cond := [.selects RX10 yX10_passes_ yX10_passes_, .methodLink RL 153 yX10_distance, .instanceMethod yX10_distance, .selects RX10 yX10_distance yX10_distance, .methodLink RX10 359 yX10_widened, .instanceMethod yX10_widened, .methodLink RL 156 yX10_power, .instanceMethod yX10_power, .selects RX10 yX10_power yX10_power, .methodLink RX10 362 yX10_isPower, .instanceMethod yX10_isPower, .methodLink RX10 365 yX10_homesOf, .instanceMethod yX10_homesOf, .methodLink RL 160 yX10_phase, .instanceMethod yX10_phase, .selects RX10 yX10_phase yX10_phase, .methodLink RL 164 yX10_turn, .instanceMethod yX10_turn, .selects RX10 yX10_turn yX10_turn, .methodLink RL 167 yX10_order, .instanceMethod yX10_order, .selects RX10 yX10_order yX10_order, .methodLink RX10 368 yX10_hasUnit, .instanceMethod yX10_hasUnit, .methodLink RL 192 yX10_undo, .instanceMethod yX10_undo, .selects RX10 yX10_undo yX10_undo, .methodLink RL 196 yX10_undoCount, .instanceMethod yX10_undoCount, .selects RX10 yX10_undoCount yX10_undoCount, .methodLink RL 171 yX10_settle, .instanceMethod yX10_settle, .selects RX10 yX10_settle yX10_settle, .methodLink RX10 459 yX10_remembers, .instanceMethod yX10_remembers, .methodLink RX10 462 yX10_decides, .instanceMethod yX10_decides, .methodLink RX10 444 yX10_laysMoves, .instanceMethod yX10_laysMoves, .methodLink RX10 447 yX10_goesThrough, .instanceMethod yX10_goesThrough, .methodLink RX10 435 yX10_says, .instanceMethod yX10_says, .methodLink RX10 408 yX10_laysDislodged, .instanceMethod yX10_laysDislodged, .methodLink RX10 377 yX10_goals, .instanceMethod yX10_goals, .methodLink RX10 383 yX10_succeeds, .instanceMethod yX10_succeeds, .methodLink RX10 411 yX10_laysPaths, .instanceMethod yX10_laysPaths, .methodLink RX10 393 yX10_isConvoyed, .instanceMethod yX10_isConvoyed, .methodLink RX10 414 yX10_laysGiven, .instanceMethod yX10_laysGiven, .methodLink RX10 399 yX10_belongs, .instanceMethod yX10_belongs, .methodLink RX10 402 yX10_isCut, .instanceMethod yX10_isCut, .methodLink RX10 405 yX10_supports]
theorem wv20 : ∀ w ∈ ww20, w ∈ osX := osX_at [2028, 2030, 2031, 2032, 2034, 2036, 2038, 2039, 2040, 2042, 2044, 2046, 2048, 2050, 2051, 2052, 2054, 2055, 2056, 2058, 2059, 2060, 2062, 2064, 2066, 2067, 2068, 2070, 2071, 2072, 2074, 2075, 2076, 2078, 2080, 2082, 2084, 2086, 2088, 2090, 2092, 2094, 2096, 2098, 2100, 2102, 2104, 2106, 2108, 2110, 2112, 2114, 2116, 2118, 2120, 2122, 2124, 2126, 2128, 2130] (by decide +kernel) (by decide +kernel)
theorem wd2028 : (.selects RX10 yX10_passes_ yX10_passes_ : Cond) ∈ osX := wv20 _ (List.mem_of_getElem? (i := 0) rfl)
theorem wd2030 : (.methodLink RL 153 yX10_distance : Cond) ∈ osX := wv20 _ (List.mem_of_getElem? (i := 1) rfl)
theorem wd2031 : (.instanceMethod yX10_distance : Cond) ∈ osX := wv20 _ (List.mem_of_getElem? (i := 2) rfl)
theorem wd2032 : (.selects RX10 yX10_distance yX10_distance : Cond) ∈ osX := wv20 _ (List.mem_of_getElem? (i := 3) rfl)
theorem wd2034 : (.methodLink RX10 359 yX10_widened : Cond) ∈ osX := wv20 _ (List.mem_of_getElem? (i := 4) rfl)
theorem wd2036 : (.instanceMethod yX10_widened : Cond) ∈ osX := wv20 _ (List.mem_of_getElem? (i := 5) rfl)
theorem wd2038 : (.methodLink RL 156 yX10_power : Cond) ∈ osX := wv20 _ (List.mem_of_getElem? (i := 6) rfl)
theorem wd2039 : (.instanceMethod yX10_power : Cond) ∈ osX := wv20 _ (List.mem_of_getElem? (i := 7) rfl)
theorem wd2040 : (.selects RX10 yX10_power yX10_power : Cond) ∈ osX := wv20 _ (List.mem_of_getElem? (i := 8) rfl)
theorem wd2042 : (.methodLink RX10 362 yX10_isPower : Cond) ∈ osX := wv20 _ (List.mem_of_getElem? (i := 9) rfl)
theorem wd2044 : (.instanceMethod yX10_isPower : Cond) ∈ osX := wv20 _ (List.mem_of_getElem? (i := 10) rfl)
theorem wd2046 : (.methodLink RX10 365 yX10_homesOf : Cond) ∈ osX := wv20 _ (List.mem_of_getElem? (i := 11) rfl)
theorem wd2048 : (.instanceMethod yX10_homesOf : Cond) ∈ osX := wv20 _ (List.mem_of_getElem? (i := 12) rfl)
theorem wd2050 : (.methodLink RL 160 yX10_phase : Cond) ∈ osX := wv20 _ (List.mem_of_getElem? (i := 13) rfl)
theorem wd2051 : (.instanceMethod yX10_phase : Cond) ∈ osX := wv20 _ (List.mem_of_getElem? (i := 14) rfl)
theorem wd2052 : (.selects RX10 yX10_phase yX10_phase : Cond) ∈ osX := wv20 _ (List.mem_of_getElem? (i := 15) rfl)
theorem wd2054 : (.methodLink RL 164 yX10_turn : Cond) ∈ osX := wv20 _ (List.mem_of_getElem? (i := 16) rfl)
theorem wd2055 : (.instanceMethod yX10_turn : Cond) ∈ osX := wv20 _ (List.mem_of_getElem? (i := 17) rfl)
theorem wd2056 : (.selects RX10 yX10_turn yX10_turn : Cond) ∈ osX := wv20 _ (List.mem_of_getElem? (i := 18) rfl)
theorem wd2058 : (.methodLink RL 167 yX10_order : Cond) ∈ osX := wv20 _ (List.mem_of_getElem? (i := 19) rfl)
theorem wd2059 : (.instanceMethod yX10_order : Cond) ∈ osX := wv20 _ (List.mem_of_getElem? (i := 20) rfl)
theorem wd2060 : (.selects RX10 yX10_order yX10_order : Cond) ∈ osX := wv20 _ (List.mem_of_getElem? (i := 21) rfl)
theorem wd2062 : (.methodLink RX10 368 yX10_hasUnit : Cond) ∈ osX := wv20 _ (List.mem_of_getElem? (i := 22) rfl)
theorem wd2064 : (.instanceMethod yX10_hasUnit : Cond) ∈ osX := wv20 _ (List.mem_of_getElem? (i := 23) rfl)
theorem wd2066 : (.methodLink RL 192 yX10_undo : Cond) ∈ osX := wv20 _ (List.mem_of_getElem? (i := 24) rfl)
theorem wd2067 : (.instanceMethod yX10_undo : Cond) ∈ osX := wv20 _ (List.mem_of_getElem? (i := 25) rfl)
theorem wd2068 : (.selects RX10 yX10_undo yX10_undo : Cond) ∈ osX := wv20 _ (List.mem_of_getElem? (i := 26) rfl)
theorem wd2070 : (.methodLink RL 196 yX10_undoCount : Cond) ∈ osX := wv20 _ (List.mem_of_getElem? (i := 27) rfl)
theorem wd2071 : (.instanceMethod yX10_undoCount : Cond) ∈ osX := wv20 _ (List.mem_of_getElem? (i := 28) rfl)
theorem wd2072 : (.selects RX10 yX10_undoCount yX10_undoCount : Cond) ∈ osX := wv20 _ (List.mem_of_getElem? (i := 29) rfl)
theorem wd2074 : (.methodLink RL 171 yX10_settle : Cond) ∈ osX := wv20 _ (List.mem_of_getElem? (i := 30) rfl)
theorem wd2075 : (.instanceMethod yX10_settle : Cond) ∈ osX := wv20 _ (List.mem_of_getElem? (i := 31) rfl)
theorem wd2076 : (.selects RX10 yX10_settle yX10_settle : Cond) ∈ osX := wv20 _ (List.mem_of_getElem? (i := 32) rfl)
theorem wd2078 : (.methodLink RX10 459 yX10_remembers : Cond) ∈ osX := wv20 _ (List.mem_of_getElem? (i := 33) rfl)
theorem wd2080 : (.instanceMethod yX10_remembers : Cond) ∈ osX := wv20 _ (List.mem_of_getElem? (i := 34) rfl)
theorem wd2082 : (.methodLink RX10 462 yX10_decides : Cond) ∈ osX := wv20 _ (List.mem_of_getElem? (i := 35) rfl)
theorem wd2084 : (.instanceMethod yX10_decides : Cond) ∈ osX := wv20 _ (List.mem_of_getElem? (i := 36) rfl)
theorem wd2086 : (.methodLink RX10 444 yX10_laysMoves : Cond) ∈ osX := wv20 _ (List.mem_of_getElem? (i := 37) rfl)
theorem wd2088 : (.instanceMethod yX10_laysMoves : Cond) ∈ osX := wv20 _ (List.mem_of_getElem? (i := 38) rfl)
theorem wd2090 : (.methodLink RX10 447 yX10_goesThrough : Cond) ∈ osX := wv20 _ (List.mem_of_getElem? (i := 39) rfl)
theorem wd2092 : (.instanceMethod yX10_goesThrough : Cond) ∈ osX := wv20 _ (List.mem_of_getElem? (i := 40) rfl)
theorem wd2094 : (.methodLink RX10 435 yX10_says : Cond) ∈ osX := wv20 _ (List.mem_of_getElem? (i := 41) rfl)
theorem wd2096 : (.instanceMethod yX10_says : Cond) ∈ osX := wv20 _ (List.mem_of_getElem? (i := 42) rfl)
theorem wd2098 : (.methodLink RX10 408 yX10_laysDislodged : Cond) ∈ osX := wv20 _ (List.mem_of_getElem? (i := 43) rfl)
theorem wd2100 : (.instanceMethod yX10_laysDislodged : Cond) ∈ osX := wv20 _ (List.mem_of_getElem? (i := 44) rfl)
theorem wd2102 : (.methodLink RX10 377 yX10_goals : Cond) ∈ osX := wv20 _ (List.mem_of_getElem? (i := 45) rfl)
theorem wd2104 : (.instanceMethod yX10_goals : Cond) ∈ osX := wv20 _ (List.mem_of_getElem? (i := 46) rfl)
theorem wd2106 : (.methodLink RX10 383 yX10_succeeds : Cond) ∈ osX := wv20 _ (List.mem_of_getElem? (i := 47) rfl)
theorem wd2108 : (.instanceMethod yX10_succeeds : Cond) ∈ osX := wv20 _ (List.mem_of_getElem? (i := 48) rfl)
theorem wd2110 : (.methodLink RX10 411 yX10_laysPaths : Cond) ∈ osX := wv20 _ (List.mem_of_getElem? (i := 49) rfl)
theorem wd2112 : (.instanceMethod yX10_laysPaths : Cond) ∈ osX := wv20 _ (List.mem_of_getElem? (i := 50) rfl)
theorem wd2114 : (.methodLink RX10 393 yX10_isConvoyed : Cond) ∈ osX := wv20 _ (List.mem_of_getElem? (i := 51) rfl)
theorem wd2116 : (.instanceMethod yX10_isConvoyed : Cond) ∈ osX := wv20 _ (List.mem_of_getElem? (i := 52) rfl)
theorem wd2118 : (.methodLink RX10 414 yX10_laysGiven : Cond) ∈ osX := wv20 _ (List.mem_of_getElem? (i := 53) rfl)
theorem wd2120 : (.instanceMethod yX10_laysGiven : Cond) ∈ osX := wv20 _ (List.mem_of_getElem? (i := 54) rfl)
theorem wd2122 : (.methodLink RX10 399 yX10_belongs : Cond) ∈ osX := wv20 _ (List.mem_of_getElem? (i := 55) rfl)
theorem wd2124 : (.instanceMethod yX10_belongs : Cond) ∈ osX := wv20 _ (List.mem_of_getElem? (i := 56) rfl)
theorem wd2126 : (.methodLink RX10 402 yX10_isCut : Cond) ∈ osX := wv20 _ (List.mem_of_getElem? (i := 57) rfl)
theorem wd2128 : (.instanceMethod yX10_isCut : Cond) ∈ osX := wv20 _ (List.mem_of_getElem? (i := 58) rfl)
theorem wd2130 : (.methodLink RX10 405 yX10_supports : Cond) ∈ osX := wv20 _ (List.mem_of_getElem? (i := 59) rfl)
def ww21 : List Cond := [.instanceMethod yX10_supports, .methodLink RX10 417 yX10_attackOf, .instanceMethod yX10_attackOf, .methodLink RX10 420 yX10_holdOf, .instanceMethod yX10_holdOf, .methodLink RX10 438 yX10_isConsistent, .instanceMethod yX10_isConsistent, .methodLink RX10 426 yX10_should, .instanceMethod yX10_should, .methodLink RX10 423 yX10_isStronger, .instanceMethod yX10_isStronger, .methodLink RX10 441 yX10_ones, .static yX10_ones, .methodLink RX10 465 yX10_said, .instanceMethod yX10_said, .methodLink RX10 453 yX10_reasonOf, .instanceMethod yX10_reasonOf, .methodLink RX10 468 yX10_leads, .instanceMethod yX10_leads, .methodLink RX10 471 yX10_contestedNow, .instanceMethod yX10_contestedNow, .methodLink RX10 474 yX10_endsTurn, .instanceMethod yX10_endsTurn, .methodLink RX10 456 yX10_goesOn, .instanceMethod yX10_goesOn, .methodLink RL 174 yX10_result, .instanceMethod yX10_result, .selects RX10 yX10_result yX10_result, .methodLink RL 177 yX10_outcomes, .instanceMethod yX10_outcomes, .selects RX10 yX10_outcomes yX10_outcomes, .methodLink RL 180 yX10_isContested, .instanceMethod yX10_isContested, .selects RX10 yX10_isContested yX10_isContested, .methodLink RL 183 yX10_mayRetreat, .instanceMethod yX10_mayRetreat, .selects RX10 yX10_mayRetreat yX10_mayRetreat, .methodLink RL 186 yX10_endRetreats, .instanceMethod yX10_endRetreats, .selects RX10 yX10_endRetreats yX10_endRetreats, .methodLink RX10 477 yX10_isAlone, .instanceMethod yX10_isAlone, .methodLink RL 189 yX10_endBuilds, .instanceMethod yX10_endBuilds, .selects RX10 yX10_endBuilds yX10_endBuilds, .methodLink RL 199 yX10_foresee, .instanceMethod yX10_foresee, .selects RX10 yX10_foresee yX10_foresee, .methodLink RL 202 yX10_foreseeMove, .instanceMethod yX10_foreseeMove, .selects RX10 yX10_foreseeMove yX10_foreseeMove, .methodLink RL 205 yX10_reach, .instanceMethod yX10_reach, .selects RX10 yX10_reach yX10_reach, .methodLink RX10 480 yX10_reaching, .instanceMethod yX10_reaching, .methodLink RL 208 yX10_isThreatened, .instanceMethod yX10_isThreatened, .selects RX10 yX10_isThreatened yX10_isThreatened, .methodLink RL 212 yX10_share]
theorem wv21 : ∀ w ∈ ww21, w ∈ osX := osX_at [2132, 2134, 2136, 2138, 2140, 2142, 2144, 2146, 2148, 2150, 2152, 2154, 2155, 2157, 2159, 2161, 2163, 2165, 2167, 2169, 2171, 2173, 2175, 2177, 2179, 2181, 2182, 2183, 2185, 2186, 2187, 2189, 2190, 2191, 2193, 2194, 2195, 2197, 2198, 2199, 2201, 2203, 2205, 2206, 2207, 2209, 2210, 2211, 2213, 2214, 2215, 2217, 2218, 2219, 2221, 2223, 2225, 2226, 2227, 2229] (by decide +kernel) (by decide +kernel)
theorem wd2132 : (.instanceMethod yX10_supports : Cond) ∈ osX := wv21 _ (List.mem_of_getElem? (i := 0) rfl)
theorem wd2134 : (.methodLink RX10 417 yX10_attackOf : Cond) ∈ osX := wv21 _ (List.mem_of_getElem? (i := 1) rfl)
theorem wd2136 : (.instanceMethod yX10_attackOf : Cond) ∈ osX := wv21 _ (List.mem_of_getElem? (i := 2) rfl)
theorem wd2138 : (.methodLink RX10 420 yX10_holdOf : Cond) ∈ osX := wv21 _ (List.mem_of_getElem? (i := 3) rfl)
theorem wd2140 : (.instanceMethod yX10_holdOf : Cond) ∈ osX := wv21 _ (List.mem_of_getElem? (i := 4) rfl)
theorem wd2142 : (.methodLink RX10 438 yX10_isConsistent : Cond) ∈ osX := wv21 _ (List.mem_of_getElem? (i := 5) rfl)
theorem wd2144 : (.instanceMethod yX10_isConsistent : Cond) ∈ osX := wv21 _ (List.mem_of_getElem? (i := 6) rfl)
theorem wd2146 : (.methodLink RX10 426 yX10_should : Cond) ∈ osX := wv21 _ (List.mem_of_getElem? (i := 7) rfl)
theorem wd2148 : (.instanceMethod yX10_should : Cond) ∈ osX := wv21 _ (List.mem_of_getElem? (i := 8) rfl)
theorem wd2150 : (.methodLink RX10 423 yX10_isStronger : Cond) ∈ osX := wv21 _ (List.mem_of_getElem? (i := 9) rfl)
theorem wd2152 : (.instanceMethod yX10_isStronger : Cond) ∈ osX := wv21 _ (List.mem_of_getElem? (i := 10) rfl)
theorem wd2154 : (.methodLink RX10 441 yX10_ones : Cond) ∈ osX := wv21 _ (List.mem_of_getElem? (i := 11) rfl)
theorem wd2155 : (.static yX10_ones : Cond) ∈ osX := wv21 _ (List.mem_of_getElem? (i := 12) rfl)
theorem wd2157 : (.methodLink RX10 465 yX10_said : Cond) ∈ osX := wv21 _ (List.mem_of_getElem? (i := 13) rfl)
theorem wd2159 : (.instanceMethod yX10_said : Cond) ∈ osX := wv21 _ (List.mem_of_getElem? (i := 14) rfl)
theorem wd2161 : (.methodLink RX10 453 yX10_reasonOf : Cond) ∈ osX := wv21 _ (List.mem_of_getElem? (i := 15) rfl)
theorem wd2163 : (.instanceMethod yX10_reasonOf : Cond) ∈ osX := wv21 _ (List.mem_of_getElem? (i := 16) rfl)
theorem wd2165 : (.methodLink RX10 468 yX10_leads : Cond) ∈ osX := wv21 _ (List.mem_of_getElem? (i := 17) rfl)
theorem wd2167 : (.instanceMethod yX10_leads : Cond) ∈ osX := wv21 _ (List.mem_of_getElem? (i := 18) rfl)
theorem wd2169 : (.methodLink RX10 471 yX10_contestedNow : Cond) ∈ osX := wv21 _ (List.mem_of_getElem? (i := 19) rfl)
theorem wd2171 : (.instanceMethod yX10_contestedNow : Cond) ∈ osX := wv21 _ (List.mem_of_getElem? (i := 20) rfl)
theorem wd2173 : (.methodLink RX10 474 yX10_endsTurn : Cond) ∈ osX := wv21 _ (List.mem_of_getElem? (i := 21) rfl)
theorem wd2175 : (.instanceMethod yX10_endsTurn : Cond) ∈ osX := wv21 _ (List.mem_of_getElem? (i := 22) rfl)
theorem wd2177 : (.methodLink RX10 456 yX10_goesOn : Cond) ∈ osX := wv21 _ (List.mem_of_getElem? (i := 23) rfl)
theorem wd2179 : (.instanceMethod yX10_goesOn : Cond) ∈ osX := wv21 _ (List.mem_of_getElem? (i := 24) rfl)
theorem wd2181 : (.methodLink RL 174 yX10_result : Cond) ∈ osX := wv21 _ (List.mem_of_getElem? (i := 25) rfl)
theorem wd2182 : (.instanceMethod yX10_result : Cond) ∈ osX := wv21 _ (List.mem_of_getElem? (i := 26) rfl)
theorem wd2183 : (.selects RX10 yX10_result yX10_result : Cond) ∈ osX := wv21 _ (List.mem_of_getElem? (i := 27) rfl)
theorem wd2185 : (.methodLink RL 177 yX10_outcomes : Cond) ∈ osX := wv21 _ (List.mem_of_getElem? (i := 28) rfl)
theorem wd2186 : (.instanceMethod yX10_outcomes : Cond) ∈ osX := wv21 _ (List.mem_of_getElem? (i := 29) rfl)
theorem wd2187 : (.selects RX10 yX10_outcomes yX10_outcomes : Cond) ∈ osX := wv21 _ (List.mem_of_getElem? (i := 30) rfl)
theorem wd2189 : (.methodLink RL 180 yX10_isContested : Cond) ∈ osX := wv21 _ (List.mem_of_getElem? (i := 31) rfl)
theorem wd2190 : (.instanceMethod yX10_isContested : Cond) ∈ osX := wv21 _ (List.mem_of_getElem? (i := 32) rfl)
theorem wd2191 : (.selects RX10 yX10_isContested yX10_isContested : Cond) ∈ osX := wv21 _ (List.mem_of_getElem? (i := 33) rfl)
theorem wd2193 : (.methodLink RL 183 yX10_mayRetreat : Cond) ∈ osX := wv21 _ (List.mem_of_getElem? (i := 34) rfl)
theorem wd2194 : (.instanceMethod yX10_mayRetreat : Cond) ∈ osX := wv21 _ (List.mem_of_getElem? (i := 35) rfl)
theorem wd2195 : (.selects RX10 yX10_mayRetreat yX10_mayRetreat : Cond) ∈ osX := wv21 _ (List.mem_of_getElem? (i := 36) rfl)
theorem wd2197 : (.methodLink RL 186 yX10_endRetreats : Cond) ∈ osX := wv21 _ (List.mem_of_getElem? (i := 37) rfl)
theorem wd2198 : (.instanceMethod yX10_endRetreats : Cond) ∈ osX := wv21 _ (List.mem_of_getElem? (i := 38) rfl)
theorem wd2199 : (.selects RX10 yX10_endRetreats yX10_endRetreats : Cond) ∈ osX := wv21 _ (List.mem_of_getElem? (i := 39) rfl)
theorem wd2201 : (.methodLink RX10 477 yX10_isAlone : Cond) ∈ osX := wv21 _ (List.mem_of_getElem? (i := 40) rfl)
theorem wd2203 : (.instanceMethod yX10_isAlone : Cond) ∈ osX := wv21 _ (List.mem_of_getElem? (i := 41) rfl)
theorem wd2205 : (.methodLink RL 189 yX10_endBuilds : Cond) ∈ osX := wv21 _ (List.mem_of_getElem? (i := 42) rfl)
theorem wd2206 : (.instanceMethod yX10_endBuilds : Cond) ∈ osX := wv21 _ (List.mem_of_getElem? (i := 43) rfl)
theorem wd2207 : (.selects RX10 yX10_endBuilds yX10_endBuilds : Cond) ∈ osX := wv21 _ (List.mem_of_getElem? (i := 44) rfl)
theorem wd2209 : (.methodLink RL 199 yX10_foresee : Cond) ∈ osX := wv21 _ (List.mem_of_getElem? (i := 45) rfl)
theorem wd2210 : (.instanceMethod yX10_foresee : Cond) ∈ osX := wv21 _ (List.mem_of_getElem? (i := 46) rfl)
theorem wd2211 : (.selects RX10 yX10_foresee yX10_foresee : Cond) ∈ osX := wv21 _ (List.mem_of_getElem? (i := 47) rfl)
theorem wd2213 : (.methodLink RL 202 yX10_foreseeMove : Cond) ∈ osX := wv21 _ (List.mem_of_getElem? (i := 48) rfl)
theorem wd2214 : (.instanceMethod yX10_foreseeMove : Cond) ∈ osX := wv21 _ (List.mem_of_getElem? (i := 49) rfl)
theorem wd2215 : (.selects RX10 yX10_foreseeMove yX10_foreseeMove : Cond) ∈ osX := wv21 _ (List.mem_of_getElem? (i := 50) rfl)
theorem wd2217 : (.methodLink RL 205 yX10_reach : Cond) ∈ osX := wv21 _ (List.mem_of_getElem? (i := 51) rfl)
theorem wd2218 : (.instanceMethod yX10_reach : Cond) ∈ osX := wv21 _ (List.mem_of_getElem? (i := 52) rfl)
theorem wd2219 : (.selects RX10 yX10_reach yX10_reach : Cond) ∈ osX := wv21 _ (List.mem_of_getElem? (i := 53) rfl)
theorem wd2221 : (.methodLink RX10 480 yX10_reaching : Cond) ∈ osX := wv21 _ (List.mem_of_getElem? (i := 54) rfl)
theorem wd2223 : (.instanceMethod yX10_reaching : Cond) ∈ osX := wv21 _ (List.mem_of_getElem? (i := 55) rfl)
theorem wd2225 : (.methodLink RL 208 yX10_isThreatened : Cond) ∈ osX := wv21 _ (List.mem_of_getElem? (i := 56) rfl)
theorem wd2226 : (.instanceMethod yX10_isThreatened : Cond) ∈ osX := wv21 _ (List.mem_of_getElem? (i := 57) rfl)
theorem wd2227 : (.selects RX10 yX10_isThreatened yX10_isThreatened : Cond) ∈ osX := wv21 _ (List.mem_of_getElem? (i := 58) rfl)
theorem wd2229 : (.methodLink RL 212 yX10_share : Cond) ∈ osX := wv21 _ (List.mem_of_getElem? (i := 59) rfl)
def ww22 : List Cond := [.instanceMethod yX10_share, .selects RX10 yX10_share yX10_share, .methodLink RX10 487 yX10_shareOf, .instanceMethod yX10_shareOf, .methodLink RX10 484 yX10_allCenters, .instanceMethod yX10_allCenters, .methodLink RL 215 yX10_shareBits, .instanceMethod yX10_shareBits, .selects RX10 yX10_shareBits yX10_shareBits, .constantFloat RX10 491 (1258291200 : UInt32), .methodLink RL 220 yX10_unevenness, .instanceMethod yX10_unevenness, .selects RX10 yX10_unevenness yX10_unevenness, .methodLink RX10 492 yX10_unevenNow, .instanceMethod yX10_unevenNow, .methodLink RL 225 yX10_unevennessBits, .instanceMethod yX10_unevennessBits, .selects RX10 yX10_unevennessBits yX10_unevennessBits, .constantLong RX10 496 (1023 : Int64), .constantDouble RX10 498 (4611686018427387904 : UInt64), .constantDouble RX10 500 (4841369599423283200 : UInt64), .methodLink RL 228 yX10_leader, .instanceMethod yX10_leader, .selects RX10 yX10_leader yX10_leader, .methodLink RX10 502 yX10_isAhead, .instanceMethod yX10_isAhead, .methodLink RL 232 yX10_writeUnits, .instanceMethod yX10_writeUnits, .selects RX10 yX10_writeUnits yX10_writeUnits, .methodLink RX10 513 yX10_writesWord, .instanceMethod yX10_writesWord, .constantLong RX10 508 (31 : Int64), .methodLink RX10 510 yX10_writes, .instanceMethod yX10_writes, .methodLink RX10 517 yX10_writesNext, .instanceMethod yX10_writesNext, .methodLink RL 235 yX10_writeOrders, .instanceMethod yX10_writeOrders, .selects RX10 yX10_writeOrders yX10_writeOrders, .methodLink RX10 520 yX10_writesOrder, .instanceMethod yX10_writesOrder, .methodLink RL 238 yX10_outputByte, .instanceMethod yX10_outputByte, .selects RX10 yX10_outputByte yX10_outputByte, .arrayClass .double, .selects RX3 yX6_fail yX6_fail, .selects RX7 yX6_fail yX6_fail, .selects RX3 yX6_takeName yX6_takeName, .selects RX7 yX6_takeName yX6_takeName, .selects RX3 yX6_take yX6_take, .selects RX7 yX6_take yX6_take, .fieldLinkNest RX6 53 "OrderSettler$Word" "packed" "J" "OrderSettler", .fieldLink RX8 84 "OrderSettler$Word" "packed" "J", .fieldLink RJ0 9 "java/lang/String" "value" "[B", .fieldLink RJ0 15 "java/lang/String" "coder" "B"]
theorem wv22 : ∀ w ∈ ww22, w ∈ osX := osX_at [2230, 2231, 2233, 2235, 2237, 2239, 2241, 2242, 2243, 2245, 2246, 2247, 2248, 2250, 2252, 2254, 2255, 2256, 2258, 2259, 2260, 2261, 2262, 2263, 2265, 2267, 2269, 2270, 2271, 2273, 2275, 2277, 2278, 2280, 2282, 2284, 2286, 2287, 2288, 2290, 2292, 2294, 2295, 2296, 2298, 2302, 2303, 2305, 2306, 2308, 2309, 2326, 2327, 2328, 2329] (by decide +kernel) (by decide +kernel)
theorem wd2230 : (.instanceMethod yX10_share : Cond) ∈ osX := wv22 _ (List.mem_of_getElem? (i := 0) rfl)
theorem wd2231 : (.selects RX10 yX10_share yX10_share : Cond) ∈ osX := wv22 _ (List.mem_of_getElem? (i := 1) rfl)
theorem wd2233 : (.methodLink RX10 487 yX10_shareOf : Cond) ∈ osX := wv22 _ (List.mem_of_getElem? (i := 2) rfl)
theorem wd2235 : (.instanceMethod yX10_shareOf : Cond) ∈ osX := wv22 _ (List.mem_of_getElem? (i := 3) rfl)
theorem wd2237 : (.methodLink RX10 484 yX10_allCenters : Cond) ∈ osX := wv22 _ (List.mem_of_getElem? (i := 4) rfl)
theorem wd2239 : (.instanceMethod yX10_allCenters : Cond) ∈ osX := wv22 _ (List.mem_of_getElem? (i := 5) rfl)
theorem wd2241 : (.methodLink RL 215 yX10_shareBits : Cond) ∈ osX := wv22 _ (List.mem_of_getElem? (i := 6) rfl)
theorem wd2242 : (.instanceMethod yX10_shareBits : Cond) ∈ osX := wv22 _ (List.mem_of_getElem? (i := 7) rfl)
theorem wd2243 : (.selects RX10 yX10_shareBits yX10_shareBits : Cond) ∈ osX := wv22 _ (List.mem_of_getElem? (i := 8) rfl)
theorem wd2245 : (.constantFloat RX10 491 (1258291200 : UInt32) : Cond) ∈ osX := wv22 _ (List.mem_of_getElem? (i := 9) rfl)
theorem wd2246 : (.methodLink RL 220 yX10_unevenness : Cond) ∈ osX := wv22 _ (List.mem_of_getElem? (i := 10) rfl)
theorem wd2247 : (.instanceMethod yX10_unevenness : Cond) ∈ osX := wv22 _ (List.mem_of_getElem? (i := 11) rfl)
theorem wd2248 : (.selects RX10 yX10_unevenness yX10_unevenness : Cond) ∈ osX := wv22 _ (List.mem_of_getElem? (i := 12) rfl)
theorem wd2250 : (.methodLink RX10 492 yX10_unevenNow : Cond) ∈ osX := wv22 _ (List.mem_of_getElem? (i := 13) rfl)
theorem wd2252 : (.instanceMethod yX10_unevenNow : Cond) ∈ osX := wv22 _ (List.mem_of_getElem? (i := 14) rfl)
theorem wd2254 : (.methodLink RL 225 yX10_unevennessBits : Cond) ∈ osX := wv22 _ (List.mem_of_getElem? (i := 15) rfl)
theorem wd2255 : (.instanceMethod yX10_unevennessBits : Cond) ∈ osX := wv22 _ (List.mem_of_getElem? (i := 16) rfl)
theorem wd2256 : (.selects RX10 yX10_unevennessBits yX10_unevennessBits : Cond) ∈ osX := wv22 _ (List.mem_of_getElem? (i := 17) rfl)
theorem wd2258 : (.constantLong RX10 496 (1023 : Int64) : Cond) ∈ osX := wv22 _ (List.mem_of_getElem? (i := 18) rfl)
theorem wd2259 : (.constantDouble RX10 498 (4611686018427387904 : UInt64) : Cond) ∈ osX := wv22 _ (List.mem_of_getElem? (i := 19) rfl)
theorem wd2260 : (.constantDouble RX10 500 (4841369599423283200 : UInt64) : Cond) ∈ osX := wv22 _ (List.mem_of_getElem? (i := 20) rfl)
theorem wd2261 : (.methodLink RL 228 yX10_leader : Cond) ∈ osX := wv22 _ (List.mem_of_getElem? (i := 21) rfl)
theorem wd2262 : (.instanceMethod yX10_leader : Cond) ∈ osX := wv22 _ (List.mem_of_getElem? (i := 22) rfl)
theorem wd2263 : (.selects RX10 yX10_leader yX10_leader : Cond) ∈ osX := wv22 _ (List.mem_of_getElem? (i := 23) rfl)
theorem wd2265 : (.methodLink RX10 502 yX10_isAhead : Cond) ∈ osX := wv22 _ (List.mem_of_getElem? (i := 24) rfl)
theorem wd2267 : (.instanceMethod yX10_isAhead : Cond) ∈ osX := wv22 _ (List.mem_of_getElem? (i := 25) rfl)
theorem wd2269 : (.methodLink RL 232 yX10_writeUnits : Cond) ∈ osX := wv22 _ (List.mem_of_getElem? (i := 26) rfl)
theorem wd2270 : (.instanceMethod yX10_writeUnits : Cond) ∈ osX := wv22 _ (List.mem_of_getElem? (i := 27) rfl)
theorem wd2271 : (.selects RX10 yX10_writeUnits yX10_writeUnits : Cond) ∈ osX := wv22 _ (List.mem_of_getElem? (i := 28) rfl)
theorem wd2273 : (.methodLink RX10 513 yX10_writesWord : Cond) ∈ osX := wv22 _ (List.mem_of_getElem? (i := 29) rfl)
theorem wd2275 : (.instanceMethod yX10_writesWord : Cond) ∈ osX := wv22 _ (List.mem_of_getElem? (i := 30) rfl)
theorem wd2277 : (.constantLong RX10 508 (31 : Int64) : Cond) ∈ osX := wv22 _ (List.mem_of_getElem? (i := 31) rfl)
theorem wd2278 : (.methodLink RX10 510 yX10_writes : Cond) ∈ osX := wv22 _ (List.mem_of_getElem? (i := 32) rfl)
theorem wd2280 : (.instanceMethod yX10_writes : Cond) ∈ osX := wv22 _ (List.mem_of_getElem? (i := 33) rfl)
theorem wd2282 : (.methodLink RX10 517 yX10_writesNext : Cond) ∈ osX := wv22 _ (List.mem_of_getElem? (i := 34) rfl)
theorem wd2284 : (.instanceMethod yX10_writesNext : Cond) ∈ osX := wv22 _ (List.mem_of_getElem? (i := 35) rfl)
theorem wd2286 : (.methodLink RL 235 yX10_writeOrders : Cond) ∈ osX := wv22 _ (List.mem_of_getElem? (i := 36) rfl)
theorem wd2287 : (.instanceMethod yX10_writeOrders : Cond) ∈ osX := wv22 _ (List.mem_of_getElem? (i := 37) rfl)
theorem wd2288 : (.selects RX10 yX10_writeOrders yX10_writeOrders : Cond) ∈ osX := wv22 _ (List.mem_of_getElem? (i := 38) rfl)
theorem wd2290 : (.methodLink RX10 520 yX10_writesOrder : Cond) ∈ osX := wv22 _ (List.mem_of_getElem? (i := 39) rfl)
theorem wd2292 : (.instanceMethod yX10_writesOrder : Cond) ∈ osX := wv22 _ (List.mem_of_getElem? (i := 40) rfl)
theorem wd2294 : (.methodLink RL 238 yX10_outputByte : Cond) ∈ osX := wv22 _ (List.mem_of_getElem? (i := 41) rfl)
theorem wd2295 : (.instanceMethod yX10_outputByte : Cond) ∈ osX := wv22 _ (List.mem_of_getElem? (i := 42) rfl)
theorem wd2296 : (.selects RX10 yX10_outputByte yX10_outputByte : Cond) ∈ osX := wv22 _ (List.mem_of_getElem? (i := 43) rfl)
theorem wd2298 : (.arrayClass .double : Cond) ∈ osX := wv22 _ (List.mem_of_getElem? (i := 44) rfl)
theorem wd2302 : (.selects RX3 yX6_fail yX6_fail : Cond) ∈ osX := wv22 _ (List.mem_of_getElem? (i := 45) rfl)
theorem wd2303 : (.selects RX7 yX6_fail yX6_fail : Cond) ∈ osX := wv22 _ (List.mem_of_getElem? (i := 46) rfl)
theorem wd2305 : (.selects RX3 yX6_takeName yX6_takeName : Cond) ∈ osX := wv22 _ (List.mem_of_getElem? (i := 47) rfl)
theorem wd2306 : (.selects RX7 yX6_takeName yX6_takeName : Cond) ∈ osX := wv22 _ (List.mem_of_getElem? (i := 48) rfl)
theorem wd2308 : (.selects RX3 yX6_take yX6_take : Cond) ∈ osX := wv22 _ (List.mem_of_getElem? (i := 49) rfl)
theorem wd2309 : (.selects RX7 yX6_take yX6_take : Cond) ∈ osX := wv22 _ (List.mem_of_getElem? (i := 50) rfl)
theorem wd2326 : (.fieldLinkNest RX6 53 "OrderSettler$Word" "packed" "J" "OrderSettler" : Cond) ∈ osX := wv22 _ (List.mem_of_getElem? (i := 51) rfl)
theorem wd2327 : (.fieldLink RX8 84 "OrderSettler$Word" "packed" "J" : Cond) ∈ osX := wv22 _ (List.mem_of_getElem? (i := 52) rfl)
theorem wd2328 : (.fieldLink RJ0 9 "java/lang/String" "value" "[B" : Cond) ∈ osX := wv22 _ (List.mem_of_getElem? (i := 53) rfl)
theorem wd2329 : (.fieldLink RJ0 15 "java/lang/String" "coder" "B" : Cond) ∈ osX := wv22 _ (List.mem_of_getElem? (i := 54) rfl)
theorem plX0 : plainName RX0 = true := by decide +kernel
theorem plX1 : plainName RX1 = true := by decide +kernel
theorem plX2 : plainName RX2 = true := by decide +kernel
theorem plX3 : plainName RX3 = true := by decide +kernel
theorem plX4 : plainName RX4 = true := by decide +kernel
theorem plX5 : plainName RX5 = true := by decide +kernel
theorem plX6 : plainName RX6 = true := by decide +kernel
theorem plX7 : plainName RX7 = true := by decide +kernel
theorem plX8 : plainName RX8 = true := by decide +kernel
theorem plX9 : plainName RX9 = true := by decide +kernel
theorem plX10 : plainName RX10 = true := by decide +kernel
theorem plJ6 : plainName RJ6 = true := by decide +kernel
theorem plJ0 : plainName RJ0 = true := by decide +kernel
theorem plJ1 : plainName RJ1 = true := by decide +kernel
theorem plJ3 : plainName RJ3 = true := by decide +kernel
theorem plL : plainName RL = true := by decide +kernel
theorem wmax : Cond.code Lib.Math.max.name Lib.Math.max.code 2 (some .int) ∈ osX := wd1365
theorem wmin : Cond.code Lib.Math.min.name Lib.Math.min.code 2 (some .int) ∈ osX := wd828
theorem fX0_9 : osFd RX0 9 [0] 0 .int false := ⟨"OrderSettler$Board", "areaCount", "I", wd388, rfl, List.forall_mem_cons.mpr ⟨⟨RX0, TX0, 10, tyX0, rfl, osinX0, nmX0, tyX0_ok, (Nat.le_of_ble_eq_true rfl), rfl, rfl, rfl, Or.inl rfl⟩, fun _ h => absurd h List.not_mem_nil⟩⟩
theorem fX0_15 : osFd RX0 15 [0] 1 .int false := ⟨"OrderSettler$Board", "powerCount", "I", wd391, rfl, List.forall_mem_cons.mpr ⟨⟨RX0, TX0, 10, tyX0, rfl, osinX0, nmX0, tyX0_ok, (Nat.le_of_ble_eq_true rfl), rfl, rfl, rfl, Or.inl rfl⟩, fun _ h => absurd h List.not_mem_nil⟩⟩
theorem fX0_18 : osFd RX0 18 [0] 2 .int false := ⟨"OrderSettler$Board", "coasts", "I", wd395, rfl, List.forall_mem_cons.mpr ⟨⟨RX0, TX0, 10, tyX0, rfl, osinX0, nmX0, tyX0_ok, (Nat.le_of_ble_eq_true rfl), rfl, rfl, rfl, Or.inl rfl⟩, fun _ h => absurd h List.not_mem_nil⟩⟩
theorem fX0_21 : osFd RX0 21 [0] 3 .int false := ⟨"OrderSettler$Board", "seas", "I", wd397, rfl, List.forall_mem_cons.mpr ⟨⟨RX0, TX0, 10, tyX0, rfl, osinX0, nmX0, tyX0_ok, (Nat.le_of_ble_eq_true rfl), rfl, rfl, rfl, Or.inl rfl⟩, fun _ h => absurd h List.not_mem_nil⟩⟩
theorem fX0_24 : osFd RX0 24 [0] 4 .int false := ⟨"OrderSettler$Board", "centers", "I", wd399, rfl, List.forall_mem_cons.mpr ⟨⟨RX0, TX0, 10, tyX0, rfl, osinX0, nmX0, tyX0_ok, (Nat.le_of_ble_eq_true rfl), rfl, rfl, rfl, Or.inl rfl⟩, fun _ h => absurd h List.not_mem_nil⟩⟩
theorem fX0_31 : osFd RX0 31 [0] 6 (.array .int) true := ⟨"OrderSettler$Board", "home", "[I", wd405, rfl, List.forall_mem_cons.mpr ⟨⟨RX0, TX0, 10, tyX0, rfl, osinX0, nmX0, tyX0_ok, (Nat.le_of_ble_eq_true rfl), rfl, rfl, rfl, Or.inl rfl⟩, fun _ h => absurd h List.not_mem_nil⟩⟩
theorem fX0_34 : osFd RX0 34 [0] 7 (.array .int) true := ⟨"OrderSettler$Board", "armyBorders", "[I", wd410, rfl, List.forall_mem_cons.mpr ⟨⟨RX0, TX0, 10, tyX0, rfl, osinX0, nmX0, tyX0_ok, (Nat.le_of_ble_eq_true rfl), rfl, rfl, rfl, Or.inl rfl⟩, fun _ h => absurd h List.not_mem_nil⟩⟩
theorem fX0_37 : osFd RX0 37 [0] 8 (.array .int) true := ⟨"OrderSettler$Board", "fleetBorders", "[I", wd411, rfl, List.forall_mem_cons.mpr ⟨⟨RX0, TX0, 10, tyX0, rfl, osinX0, nmX0, tyX0_ok, (Nat.le_of_ble_eq_true rfl), rfl, rfl, rfl, Or.inl rfl⟩, fun _ h => absurd h List.not_mem_nil⟩⟩
theorem fX0_27 : osFd RX0 27 [0] 5 (.array .int) true := ⟨"OrderSettler$Board", "areaName", "[I", wd403, rfl, List.forall_mem_cons.mpr ⟨⟨RX0, TX0, 10, tyX0, rfl, osinX0, nmX0, tyX0_ok, (Nat.le_of_ble_eq_true rfl), rfl, rfl, rfl, Or.inl rfl⟩, fun _ h => absurd h List.not_mem_nil⟩⟩
theorem fX0_40 : osFd RX0 40 [0] 9 (.array .int) true := ⟨"OrderSettler$Board", "powerName", "[I", wd412, rfl, List.forall_mem_cons.mpr ⟨⟨RX0, TX0, 10, tyX0, rfl, osinX0, nmX0, tyX0_ok, (Nat.le_of_ble_eq_true rfl), rfl, rfl, rfl, Or.inl rfl⟩, fun _ h => absurd h List.not_mem_nil⟩⟩
theorem mdX0_isArea : osMd yX0_isArea cX0_isArea 2 (some .boolean) 1 := ⟨wd930, wd158, ⟨by decide +kernel, by decide +kernel⟩, by decide +kernel⟩
theorem sl0_X0_isArea_X0_isArea : osSl [0] yX0_isArea yX0_isArea := List.forall_mem_cons.mpr ⟨⟨_, rfl, wd929⟩, fun _ h => absurd h List.not_mem_nil⟩
theorem mdX0_letsPass : osMd yX0_letsPass cX0_letsPass 5 (some .boolean) 3 := ⟨wd911, wd158, ⟨by decide +kernel, by decide +kernel⟩, by decide +kernel⟩
theorem sl0_X0_letsPass_X0_letsPass : osSl [0] yX0_letsPass yX0_letsPass := List.forall_mem_cons.mpr ⟨⟨_, rfl, wd910⟩, fun _ h => absurd h List.not_mem_nil⟩
theorem fX2_9 : osFd RX2 9 [2] 0 .int false := ⟨"OrderSettler$Links", "units", "I", wd280, rfl, List.forall_mem_cons.mpr ⟨⟨RX2, TX2, 16, tyX2, rfl, osinX2, nmX2, tyX2_ok, (Nat.le_of_ble_eq_true rfl), rfl, rfl, rfl, Or.inl rfl⟩, fun _ h => absurd h List.not_mem_nil⟩⟩
theorem fX2_15 : osFd RX2 15 [2] 1 .int false := ⟨"OrderSettler$Links", "moves", "I", wd282, rfl, List.forall_mem_cons.mpr ⟨⟨RX2, TX2, 16, tyX2, rfl, osinX2, nmX2, tyX2_ok, (Nat.le_of_ble_eq_true rfl), rfl, rfl, rfl, Or.inl rfl⟩, fun _ h => absurd h List.not_mem_nil⟩⟩
theorem fX2_18 : osFd RX2 18 [2] 2 .int false := ⟨"OrderSettler$Links", "direct", "I", wd284, rfl, List.forall_mem_cons.mpr ⟨⟨RX2, TX2, 16, tyX2, rfl, osinX2, nmX2, tyX2_ok, (Nat.le_of_ble_eq_true rfl), rfl, rfl, rfl, Or.inl rfl⟩, fun _ h => absurd h List.not_mem_nil⟩⟩
theorem fX2_21 : osFd RX2 21 [2] 3 .int false := ⟨"OrderSettler$Links", "opposed", "I", wd286, rfl, List.forall_mem_cons.mpr ⟨⟨RX2, TX2, 16, tyX2, rfl, osinX2, nmX2, tyX2_ok, (Nat.le_of_ble_eq_true rfl), rfl, rfl, rfl, Or.inl rfl⟩, fun _ h => absurd h List.not_mem_nil⟩⟩
theorem fX2_24 : osFd RX2 24 [2] 4 .int false := ⟨"OrderSettler$Links", "supporting", "I", wd288, rfl, List.forall_mem_cons.mpr ⟨⟨RX2, TX2, 16, tyX2, rfl, osinX2, nmX2, tyX2_ok, (Nat.le_of_ble_eq_true rfl), rfl, rfl, rfl, Or.inl rfl⟩, fun _ h => absurd h List.not_mem_nil⟩⟩
theorem fX2_27 : osFd RX2 27 [2] 5 .int false := ⟨"OrderSettler$Links", "supports", "I", wd290, rfl, List.forall_mem_cons.mpr ⟨⟨RX2, TX2, 16, tyX2, rfl, osinX2, nmX2, tyX2_ok, (Nat.le_of_ble_eq_true rfl), rfl, rfl, rfl, Or.inl rfl⟩, fun _ h => absurd h List.not_mem_nil⟩⟩
theorem fX2_30 : osFd RX2 30 [2] 6 (.array .int) true := ⟨"OrderSettler$Links", "goal", "[I", wd292, rfl, List.forall_mem_cons.mpr ⟨⟨RX2, TX2, 16, tyX2, rfl, osinX2, nmX2, tyX2_ok, (Nat.le_of_ble_eq_true rfl), rfl, rfl, rfl, Or.inl rfl⟩, fun _ h => absurd h List.not_mem_nil⟩⟩
theorem fX2_34 : osFd RX2 34 [2] 7 (.array .int) true := ⟨"OrderSettler$Links", "rivals", "[I", wd294, rfl, List.forall_mem_cons.mpr ⟨⟨RX2, TX2, 16, tyX2, rfl, osinX2, nmX2, tyX2_ok, (Nat.le_of_ble_eq_true rfl), rfl, rfl, rfl, Or.inl rfl⟩, fun _ h => absurd h List.not_mem_nil⟩⟩
theorem fX2_37 : osFd RX2 37 [2] 8 (.array .int) true := ⟨"OrderSettler$Links", "backers", "[I", wd296, rfl, List.forall_mem_cons.mpr ⟨⟨RX2, TX2, 16, tyX2, rfl, osinX2, nmX2, tyX2_ok, (Nat.le_of_ble_eq_true rfl), rfl, rfl, rfl, Or.inl rfl⟩, fun _ h => absurd h List.not_mem_nil⟩⟩
theorem fX2_40 : osFd RX2 40 [2] 9 (.array .int) true := ⟨"OrderSettler$Links", "hosts", "[I", wd298, rfl, List.forall_mem_cons.mpr ⟨⟨RX2, TX2, 16, tyX2, rfl, osinX2, nmX2, tyX2_ok, (Nat.le_of_ble_eq_true rfl), rfl, rfl, rfl, Or.inl rfl⟩, fun _ h => absurd h List.not_mem_nil⟩⟩
theorem fX2_43 : osFd RX2 43 [2] 10 (.array .int) true := ⟨"OrderSettler$Links", "hostBackers", "[I", wd300, rfl, List.forall_mem_cons.mpr ⟨⟨RX2, TX2, 16, tyX2, rfl, osinX2, nmX2, tyX2_ok, (Nat.le_of_ble_eq_true rfl), rfl, rfl, rfl, Or.inl rfl⟩, fun _ h => absurd h List.not_mem_nil⟩⟩
theorem fX2_46 : osFd RX2 46 [2] 11 (.array .int) true := ⟨"OrderSettler$Links", "cutters", "[I", wd302, rfl, List.forall_mem_cons.mpr ⟨⟨RX2, TX2, 16, tyX2, rfl, osinX2, nmX2, tyX2_ok, (Nat.le_of_ble_eq_true rfl), rfl, rfl, rfl, Or.inl rfl⟩, fun _ h => absurd h List.not_mem_nil⟩⟩
theorem fX2_49 : osFd RX2 49 [2] 12 (.array .int) true := ⟨"OrderSettler$Links", "carriers", "[I", wd304, rfl, List.forall_mem_cons.mpr ⟨⟨RX2, TX2, 16, tyX2, rfl, osinX2, nmX2, tyX2_ok, (Nat.le_of_ble_eq_true rfl), rfl, rfl, rfl, Or.inl rfl⟩, fun _ h => absurd h List.not_mem_nil⟩⟩
theorem fX2_52 : osFd RX2 52 [2] 13 (.array .int) true := ⟨"OrderSettler$Links", "boarding", "[I", wd306, rfl, List.forall_mem_cons.mpr ⟨⟨RX2, TX2, 16, tyX2, rfl, osinX2, nmX2, tyX2_ok, (Nat.le_of_ble_eq_true rfl), rfl, rfl, rfl, Or.inl rfl⟩, fun _ h => absurd h List.not_mem_nil⟩⟩
theorem fX2_55 : osFd RX2 55 [2] 14 (.array .int) true := ⟨"OrderSettler$Links", "landing", "[I", wd308, rfl, List.forall_mem_cons.mpr ⟨⟨RX2, TX2, 16, tyX2, rfl, osinX2, nmX2, tyX2_ok, (Nat.le_of_ble_eq_true rfl), rfl, rfl, rfl, Or.inl rfl⟩, fun _ h => absurd h List.not_mem_nil⟩⟩
theorem fX2_58 : osFd RX2 58 [2] 15 (.array .int) true := ⟨"OrderSettler$Links", "waters", "[I", wd310, rfl, List.forall_mem_cons.mpr ⟨⟨RX2, TX2, 16, tyX2, rfl, osinX2, nmX2, tyX2_ok, (Nat.le_of_ble_eq_true rfl), rfl, rfl, rfl, Or.inl rfl⟩, fun _ h => absurd h List.not_mem_nil⟩⟩
theorem fX4_9 : osFd RX4 9 [4] 0 (.array .byte) true := ⟨"OrderSettler$Output", "bytes", "[B", wd191, rfl, List.forall_mem_cons.mpr ⟨⟨RX4, TX4, 2, tyX4, rfl, osinX4, nmX4, tyX4_ok, (Nat.le_of_ble_eq_true rfl), rfl, rfl, rfl, Or.inl rfl⟩, fun _ h => absurd h List.not_mem_nil⟩⟩
theorem fX4_15 : osFd RX4 15 [4] 1 .int false := ⟨"OrderSettler$Output", "length", "I", wd193, rfl, List.forall_mem_cons.mpr ⟨⟨RX4, TX4, 2, tyX4, rfl, osinX4, nmX4, tyX4_ok, (Nat.le_of_ble_eq_true rfl), rfl, rfl, rfl, Or.inl rfl⟩, fun _ h => absurd h List.not_mem_nil⟩⟩
theorem mdX4_putByte : osMd yX4_putByte cX4_putByte 2 none 1 := ⟨wd650, wd152, ⟨by decide +kernel, by decide +kernel⟩, by decide +kernel⟩
theorem sl4_X4_putByte_X4_putByte : osSl [4] yX4_putByte yX4_putByte := List.forall_mem_cons.mpr ⟨⟨_, rfl, wd649⟩, fun _ h => absurd h List.not_mem_nil⟩
theorem fX5_32 : osFd RX5 32 [5] 6 (.array .int) true := ⟨"OrderSettler$State", "unitPower", "[I", wd473, rfl, List.forall_mem_cons.mpr ⟨⟨RX5, TX5, 16, tyX5, rfl, osinX5, nmX5, tyX5_ok, (Nat.le_of_ble_eq_true rfl), rfl, rfl, rfl, Or.inl rfl⟩, fun _ h => absurd h List.not_mem_nil⟩⟩
theorem fX5_35 : osFd RX5 35 [5] 7 (.array .int) true := ⟨"OrderSettler$State", "unitKind", "[I", wd477, rfl, List.forall_mem_cons.mpr ⟨⟨RX5, TX5, 16, tyX5, rfl, osinX5, nmX5, tyX5_ok, (Nat.le_of_ble_eq_true rfl), rfl, rfl, rfl, Or.inl rfl⟩, fun _ h => absurd h List.not_mem_nil⟩⟩
theorem fX5_38 : osFd RX5 38 [5] 8 (.array .int) true := ⟨"OrderSettler$State", "outPower", "[I", wd479, rfl, List.forall_mem_cons.mpr ⟨⟨RX5, TX5, 16, tyX5, rfl, osinX5, nmX5, tyX5_ok, (Nat.le_of_ble_eq_true rfl), rfl, rfl, rfl, Or.inl rfl⟩, fun _ h => absurd h List.not_mem_nil⟩⟩
theorem fX5_41 : osFd RX5 41 [5] 9 (.array .int) true := ⟨"OrderSettler$State", "outKind", "[I", wd481, rfl, List.forall_mem_cons.mpr ⟨⟨RX5, TX5, 16, tyX5, rfl, osinX5, nmX5, tyX5_ok, (Nat.le_of_ble_eq_true rfl), rfl, rfl, rfl, Or.inl rfl⟩, fun _ h => absurd h List.not_mem_nil⟩⟩
theorem fX5_44 : osFd RX5 44 [5] 10 (.array .int) true := ⟨"OrderSettler$State", "attackedFrom", "[I", wd483, rfl, List.forall_mem_cons.mpr ⟨⟨RX5, TX5, 16, tyX5, rfl, osinX5, nmX5, tyX5_ok, (Nat.le_of_ble_eq_true rfl), rfl, rfl, rfl, Or.inl rfl⟩, fun _ h => absurd h List.not_mem_nil⟩⟩
theorem fX5_47 : osFd RX5 47 [5] 11 (.array .int) true := ⟨"OrderSettler$State", "retreatGoal", "[I", wd484, rfl, List.forall_mem_cons.mpr ⟨⟨RX5, TX5, 16, tyX5, rfl, osinX5, nmX5, tyX5_ok, (Nat.le_of_ble_eq_true rfl), rfl, rfl, rfl, Or.inl rfl⟩, fun _ h => absurd h List.not_mem_nil⟩⟩
theorem fX5_50 : osFd RX5 50 [5] 12 (.array .int) true := ⟨"OrderSettler$State", "orderKind", "[I", wd485, rfl, List.forall_mem_cons.mpr ⟨⟨RX5, TX5, 16, tyX5, rfl, osinX5, nmX5, tyX5_ok, (Nat.le_of_ble_eq_true rfl), rfl, rfl, rfl, Or.inl rfl⟩, fun _ h => absurd h List.not_mem_nil⟩⟩
theorem fX5_53 : osFd RX5 53 [5] 13 (.array .int) true := ⟨"OrderSettler$State", "orderFirst", "[I", wd488, rfl, List.forall_mem_cons.mpr ⟨⟨RX5, TX5, 16, tyX5, rfl, osinX5, nmX5, tyX5_ok, (Nat.le_of_ble_eq_true rfl), rfl, rfl, rfl, Or.inl rfl⟩, fun _ h => absurd h List.not_mem_nil⟩⟩
theorem fX5_56 : osFd RX5 56 [5] 14 (.array .int) true := ⟨"OrderSettler$State", "orderSecond", "[I", wd491, rfl, List.forall_mem_cons.mpr ⟨⟨RX5, TX5, 16, tyX5, rfl, osinX5, nmX5, tyX5_ok, (Nat.le_of_ble_eq_true rfl), rfl, rfl, rfl, Or.inl rfl⟩, fun _ h => absurd h List.not_mem_nil⟩⟩
theorem fX5_28 : osFd RX5 28 [5] 5 (.array .int) true := ⟨"OrderSettler$State", "owner", "[I", wd471, rfl, List.forall_mem_cons.mpr ⟨⟨RX5, TX5, 16, tyX5, rfl, osinX5, nmX5, tyX5_ok, (Nat.le_of_ble_eq_true rfl), rfl, rfl, rfl, Or.inl rfl⟩, fun _ h => absurd h List.not_mem_nil⟩⟩
theorem fX5_121 : osFd RX5 121 [0] 6 (.array .int) true := ⟨"OrderSettler$Board", "home", "[I", wd409, rfl, List.forall_mem_cons.mpr ⟨⟨RX0, TX0, 10, tyX0, rfl, osinX0, nmX0, tyX0_ok, (Nat.le_of_ble_eq_true rfl), rfl, rfl, rfl, Or.inl rfl⟩, fun _ h => absurd h List.not_mem_nil⟩⟩
theorem fX6_9 : osFd RX6 9 [3, 6] 0 (.array .byte) false := ⟨"OrderSettler$TextReader", "bytes", "[B", wd210, rfl, List.forall_mem_cons.mpr ⟨⟨RX3, TX3, 10, tyX3, rfl, osinX3, nmX3, tyX3_ok, (Nat.le_of_ble_eq_true rfl), rfl, rfl, rfl, Or.inl rfl⟩, List.forall_mem_cons.mpr ⟨⟨RX7, TX7, 10, tyX7, rfl, osinX7, nmX7, tyX7_ok, (Nat.le_of_ble_eq_true rfl), rfl, rfl, rfl, Or.inl rfl⟩, fun _ h => absurd h List.not_mem_nil⟩⟩⟩
theorem fX6_15 : osFd RX6 15 [3, 6] 1 .int false := ⟨"OrderSettler$TextReader", "length", "I", wd211, rfl, List.forall_mem_cons.mpr ⟨⟨RX3, TX3, 10, tyX3, rfl, osinX3, nmX3, tyX3_ok, (Nat.le_of_ble_eq_true rfl), rfl, rfl, rfl, Or.inl rfl⟩, List.forall_mem_cons.mpr ⟨⟨RX7, TX7, 10, tyX7, rfl, osinX7, nmX7, tyX7_ok, (Nat.le_of_ble_eq_true rfl), rfl, rfl, rfl, Or.inl rfl⟩, fun _ h => absurd h List.not_mem_nil⟩⟩⟩
theorem fX6_19 : osFd RX6 19 [3, 6] 2 .int false := ⟨"OrderSettler$TextReader", "kind", "I", wd212, rfl, List.forall_mem_cons.mpr ⟨⟨RX3, TX3, 10, tyX3, rfl, osinX3, nmX3, tyX3_ok, (Nat.le_of_ble_eq_true rfl), rfl, rfl, rfl, Or.inl rfl⟩, List.forall_mem_cons.mpr ⟨⟨RX7, TX7, 10, tyX7, rfl, osinX7, nmX7, tyX7_ok, (Nat.le_of_ble_eq_true rfl), rfl, rfl, rfl, Or.inl rfl⟩, fun _ h => absurd h List.not_mem_nil⟩⟩⟩
theorem fX6_22 : osFd RX6 22 [3, 6] 3 .int false := ⟨"OrderSettler$TextReader", "behind", "I", wd213, rfl, List.forall_mem_cons.mpr ⟨⟨RX3, TX3, 10, tyX3, rfl, osinX3, nmX3, tyX3_ok, (Nat.le_of_ble_eq_true rfl), rfl, rfl, rfl, Or.inl rfl⟩, List.forall_mem_cons.mpr ⟨⟨RX7, TX7, 10, tyX7, rfl, osinX7, nmX7, tyX7_ok, (Nat.le_of_ble_eq_true rfl), rfl, rfl, rfl, Or.inl rfl⟩, fun _ h => absurd h List.not_mem_nil⟩⟩⟩
theorem fX6_25 : osFd RX6 25 [3, 6] 4 .int false := ⟨"OrderSettler$TextReader", "letters", "I", wd214, rfl, List.forall_mem_cons.mpr ⟨⟨RX3, TX3, 10, tyX3, rfl, osinX3, nmX3, tyX3_ok, (Nat.le_of_ble_eq_true rfl), rfl, rfl, rfl, Or.inl rfl⟩, List.forall_mem_cons.mpr ⟨⟨RX7, TX7, 10, tyX7, rfl, osinX7, nmX7, tyX7_ok, (Nat.le_of_ble_eq_true rfl), rfl, rfl, rfl, Or.inl rfl⟩, fun _ h => absurd h List.not_mem_nil⟩⟩⟩
theorem fX6_28 : osFd RX6 28 [3, 6] 5 .long false := ⟨"OrderSettler$TextReader", "packed", "J", wd215, rfl, List.forall_mem_cons.mpr ⟨⟨RX3, TX3, 10, tyX3, rfl, osinX3, nmX3, tyX3_ok, (Nat.le_of_ble_eq_true rfl), rfl, rfl, rfl, Or.inl rfl⟩, List.forall_mem_cons.mpr ⟨⟨RX7, TX7, 10, tyX7, rfl, osinX7, nmX7, tyX7_ok, (Nat.le_of_ble_eq_true rfl), rfl, rfl, rfl, Or.inl rfl⟩, fun _ h => absurd h List.not_mem_nil⟩⟩⟩
theorem fX6_32 : osFd RX6 32 [3, 6] 6 .int false := ⟨"OrderSettler$TextReader", "start", "I", wd216, rfl, List.forall_mem_cons.mpr ⟨⟨RX3, TX3, 10, tyX3, rfl, osinX3, nmX3, tyX3_ok, (Nat.le_of_ble_eq_true rfl), rfl, rfl, rfl, Or.inl rfl⟩, List.forall_mem_cons.mpr ⟨⟨RX7, TX7, 10, tyX7, rfl, osinX7, nmX7, tyX7_ok, (Nat.le_of_ble_eq_true rfl), rfl, rfl, rfl, Or.inl rfl⟩, fun _ h => absurd h List.not_mem_nil⟩⟩⟩
theorem fX6_35 : osFd RX6 35 [3, 6] 7 .int false := ⟨"OrderSettler$TextReader", "nameStart", "I", wd221, rfl, List.forall_mem_cons.mpr ⟨⟨RX3, TX3, 10, tyX3, rfl, osinX3, nmX3, tyX3_ok, (Nat.le_of_ble_eq_true rfl), rfl, rfl, rfl, Or.inl rfl⟩, List.forall_mem_cons.mpr ⟨⟨RX7, TX7, 10, tyX7, rfl, osinX7, nmX7, tyX7_ok, (Nat.le_of_ble_eq_true rfl), rfl, rfl, rfl, Or.inl rfl⟩, fun _ h => absurd h List.not_mem_nil⟩⟩⟩
theorem fX6_38 : osFd RX6 38 [3, 6] 8 .int false := ⟨"OrderSettler$TextReader", "foundCode", "I", wd226, rfl, List.forall_mem_cons.mpr ⟨⟨RX3, TX3, 10, tyX3, rfl, osinX3, nmX3, tyX3_ok, (Nat.le_of_ble_eq_true rfl), rfl, rfl, rfl, Or.inl rfl⟩, List.forall_mem_cons.mpr ⟨⟨RX7, TX7, 10, tyX7, rfl, osinX7, nmX7, tyX7_ok, (Nat.le_of_ble_eq_true rfl), rfl, rfl, rfl, Or.inl rfl⟩, fun _ h => absurd h List.not_mem_nil⟩⟩⟩
theorem fX6_41 : osFd RX6 41 [3, 6] 9 .int false := ⟨"OrderSettler$TextReader", "foundPosition", "I", wd228, rfl, List.forall_mem_cons.mpr ⟨⟨RX3, TX3, 10, tyX3, rfl, osinX3, nmX3, tyX3_ok, (Nat.le_of_ble_eq_true rfl), rfl, rfl, rfl, Or.inl rfl⟩, List.forall_mem_cons.mpr ⟨⟨RX7, TX7, 10, tyX7, rfl, osinX7, nmX7, tyX7_ok, (Nat.le_of_ble_eq_true rfl), rfl, rfl, rfl, Or.inl rfl⟩, fun _ h => absurd h List.not_mem_nil⟩⟩⟩
theorem mdX6_init : osMd yX6_init cX6_init 1 none 0 := ⟨wd208, wd153, ⟨by decide +kernel, by decide +kernel⟩, by decide +kernel⟩
theorem fX9_24 : osFd RX9 24 [7] 3 .int false := ⟨"OrderSettler", "errorCode", "I", wd532, rfl, List.forall_mem_cons.mpr ⟨⟨RX9, TX9, 14, tyX9, rfl, osinX9, nmX9, tyX9_ok, (Nat.le_of_ble_eq_true rfl), rfl, rfl, rfl, Or.inl rfl⟩, fun _ h => absurd h List.not_mem_nil⟩⟩
theorem fX9_27 : osFd RX9 27 [7] 4 .int false := ⟨"OrderSettler", "errorPosition", "I", wd533, rfl, List.forall_mem_cons.mpr ⟨⟨RX9, TX9, 14, tyX9, rfl, osinX9, nmX9, tyX9_ok, (Nat.le_of_ble_eq_true rfl), rfl, rfl, rfl, Or.inl rfl⟩, fun _ h => absurd h List.not_mem_nil⟩⟩
theorem fX9_63 : osFd RX9 63 [7] 10 (.object "OrderSettler$Board") false := ⟨"OrderSettler", "board", "LOrderSettler$Board;", wd539, rfl, List.forall_mem_cons.mpr ⟨⟨RX9, TX9, 14, tyX9, rfl, osinX9, nmX9, tyX9_ok, (Nat.le_of_ble_eq_true rfl), rfl, rfl, rfl, Or.inl rfl⟩, fun _ h => absurd h List.not_mem_nil⟩⟩
theorem fX9_120 : osFd RX9 120 [0] 0 .int false := ⟨"OrderSettler$Board", "areaCount", "I", wd390, rfl, List.forall_mem_cons.mpr ⟨⟨RX0, TX0, 10, tyX0, rfl, osinX0, nmX0, tyX0_ok, (Nat.le_of_ble_eq_true rfl), rfl, rfl, rfl, Or.inl rfl⟩, fun _ h => absurd h List.not_mem_nil⟩⟩
theorem fX9_123 : osFd RX9 123 [0] 1 .int false := ⟨"OrderSettler$Board", "powerCount", "I", wd393, rfl, List.forall_mem_cons.mpr ⟨⟨RX0, TX0, 10, tyX0, rfl, osinX0, nmX0, tyX0_ok, (Nat.le_of_ble_eq_true rfl), rfl, rfl, rfl, Or.inl rfl⟩, fun _ h => absurd h List.not_mem_nil⟩⟩
theorem fX9_71 : osFd RX9 71 [7] 12 (.object "OrderSettler$State") false := ⟨"OrderSettler", "now", "LOrderSettler$State;", wd541, rfl, List.forall_mem_cons.mpr ⟨⟨RX9, TX9, 14, tyX9, rfl, osinX9, nmX9, tyX9_ok, (Nat.le_of_ble_eq_true rfl), rfl, rfl, rfl, Or.inl rfl⟩, fun _ h => absurd h List.not_mem_nil⟩⟩
theorem fX9_201 : osFd RX9 201 [5] 0 .int false := ⟨"OrderSettler$State", "phase", "I", wd462, rfl, List.forall_mem_cons.mpr ⟨⟨RX5, TX5, 16, tyX5, rfl, osinX5, nmX5, tyX5_ok, (Nat.le_of_ble_eq_true rfl), rfl, rfl, rfl, Or.inl rfl⟩, fun _ h => absurd h List.not_mem_nil⟩⟩
theorem fX9_204 : osFd RX9 204 [5] 1 .int false := ⟨"OrderSettler$State", "turn", "I", wd464, rfl, List.forall_mem_cons.mpr ⟨⟨RX5, TX5, 16, tyX5, rfl, osinX5, nmX5, tyX5_ok, (Nat.le_of_ble_eq_true rfl), rfl, rfl, rfl, Or.inl rfl⟩, fun _ h => absurd h List.not_mem_nil⟩⟩
theorem fX9_57 : osFd RX9 57 [7] 9 .int false := ⟨"OrderSettler", "undoable", "I", wd538, rfl, List.forall_mem_cons.mpr ⟨⟨RX9, TX9, 14, tyX9, rfl, osinX9, nmX9, tyX9_ok, (Nat.le_of_ble_eq_true rfl), rfl, rfl, rfl, Or.inl rfl⟩, fun _ h => absurd h List.not_mem_nil⟩⟩
theorem xth353 : osThrows 349 353 "java/lang/IndexOutOfBoundsException" := osThrows.of (by decide +kernel) wd1565 wd176 (fun w hw => List.mem_filter.mpr ⟨(by decide +kernel : ∀ w ∈ vx_atS RX9 353 "java/lang/IndexOutOfBoundsException" ["java/lang/RuntimeException", "java/lang/Exception"], w ∈ lw2) w hw, List.all_eq_true.mp (by decide +kernel : (vx_atS RX9 353 "java/lang/IndexOutOfBoundsException" ["java/lang/RuntimeException", "java/lang/Exception"]).all osOt = true) w hw⟩) (fun w hw => List.all_eq_true.mp (by decide +kernel : (Cond.classLink RX9 349 "java/lang/IndexOutOfBoundsException" :: Cond.initialized "java/lang/IndexOutOfBoundsException" :: vx_atS RX9 353 "java/lang/IndexOutOfBoundsException" ["java/lang/RuntimeException", "java/lang/Exception"]).all vx_ot = true) w hw)
theorem fX9_20 : osFd RX9 20 [7] 2 (.object "OrderSettler$Output") true := ⟨"OrderSettler", "output", "LOrderSettler$Output;", wd531, rfl, List.forall_mem_cons.mpr ⟨⟨RX9, TX9, 14, tyX9, rfl, osinX9, nmX9, tyX9_ok, (Nat.le_of_ble_eq_true rfl), rfl, rfl, rfl, Or.inl rfl⟩, fun _ h => absurd h List.not_mem_nil⟩⟩
theorem fX9_320 : osFd RX9 320 [4] 1 .int false := ⟨"OrderSettler$Output", "length", "I", wd194, rfl, List.forall_mem_cons.mpr ⟨⟨RX4, TX4, 2, tyX4, rfl, osinX4, nmX4, tyX4_ok, (Nat.le_of_ble_eq_true rfl), rfl, rfl, rfl, Or.inl rfl⟩, fun _ h => absurd h List.not_mem_nil⟩⟩
theorem fX9_354 : osFd RX9 354 [4] 0 (.array .byte) true := ⟨"OrderSettler$Output", "bytes", "[B", wd192, rfl, List.forall_mem_cons.mpr ⟨⟨RX4, TX4, 2, tyX4, rfl, osinX4, nmX4, tyX4_ok, (Nat.le_of_ble_eq_true rfl), rfl, rfl, rfl, Or.inl rfl⟩, fun _ h => absurd h List.not_mem_nil⟩⟩
theorem xth293 : osThrows 289 293 "java/lang/IllegalArgumentException" := osThrows.of (by decide +kernel) wd798 wd165 (fun w hw => List.mem_filter.mpr ⟨(by decide +kernel : ∀ w ∈ vx_atS RX9 293 "java/lang/IllegalArgumentException" ["java/lang/RuntimeException", "java/lang/Exception"], w ∈ lw2) w hw, List.all_eq_true.mp (by decide +kernel : (vx_atS RX9 293 "java/lang/IllegalArgumentException" ["java/lang/RuntimeException", "java/lang/Exception"]).all osOt = true) w hw⟩) (fun w hw => List.all_eq_true.mp (by decide +kernel : (Cond.classLink RX9 289 "java/lang/IllegalArgumentException" :: Cond.initialized "java/lang/IllegalArgumentException" :: vx_atS RX9 293 "java/lang/IllegalArgumentException" ["java/lang/RuntimeException", "java/lang/Exception"]).all vx_ot = true) w hw)
theorem fX9_13 : osFd RX9 13 [7] 1 .int false := ⟨"OrderSettler", "inputLength", "I", wd530, rfl, List.forall_mem_cons.mpr ⟨⟨RX9, TX9, 14, tyX9, rfl, osinX9, nmX9, tyX9_ok, (Nat.le_of_ble_eq_true rfl), rfl, rfl, rfl, Or.inl rfl⟩, fun _ h => absurd h List.not_mem_nil⟩⟩
theorem xth176 : osThrows 172 176 "java/util/NoSuchElementException" := nt_osThrows (by decide +kernel) (List.mem_filter.mpr ⟨(by decide +kernel : (Cond.classLink RX9 172 "java/util/NoSuchElementException" : Cond) ∈ lw2), (by decide +kernel : osOt (Cond.classLink RX9 172 "java/util/NoSuchElementException" : Cond) = true)⟩) (List.mem_filter.mpr ⟨(by decide +kernel : (Cond.initialized "java/util/NoSuchElementException" : Cond) ∈ lw2), (by decide +kernel : osOt (Cond.initialized "java/util/NoSuchElementException" : Cond) = true)⟩) (fun w hw => List.mem_filter.mpr ⟨(by decide +kernel : ∀ w ∈ (nt_atoms RX9 176 "java/util/NoSuchElementException" "java/lang/RuntimeException" ["java/lang/Exception"]).filter vx_no, w ∈ lw2) w hw, List.all_eq_true.mp (by decide +kernel : ((nt_atoms RX9 176 "java/util/NoSuchElementException" "java/lang/RuntimeException" ["java/lang/Exception"]).filter vx_no).all osOt = true) w hw⟩) (fun w hw => List.all_eq_true.mp (by decide +kernel : (Cond.classLink RX9 172 "java/util/NoSuchElementException" :: Cond.initialized "java/util/NoSuchElementException" :: (nt_atoms RX9 176 "java/util/NoSuchElementException" "java/lang/RuntimeException" ["java/lang/Exception"]).filter vx_no).all vx_ot = true) w hw)
theorem xth82 : osThrows 78 82 "java/lang/IllegalStateException" := osThrows.of (by decide +kernel) wd714 wd164 (fun w hw => List.mem_filter.mpr ⟨(by decide +kernel : ∀ w ∈ vx_atS RX9 82 "java/lang/IllegalStateException" ["java/lang/RuntimeException", "java/lang/Exception"], w ∈ lw2) w hw, List.all_eq_true.mp (by decide +kernel : (vx_atS RX9 82 "java/lang/IllegalStateException" ["java/lang/RuntimeException", "java/lang/Exception"]).all osOt = true) w hw⟩) (fun w hw => List.all_eq_true.mp (by decide +kernel : (Cond.classLink RX9 78 "java/lang/IllegalStateException" :: Cond.initialized "java/lang/IllegalStateException" :: vx_atS RX9 82 "java/lang/IllegalStateException" ["java/lang/RuntimeException", "java/lang/Exception"]).all vx_ot = true) w hw)
theorem fX9_372 : osFd RX9 372 [5] 2 .boolean false := ⟨"OrderSettler$State", "settled", "Z", wd466, rfl, List.forall_mem_cons.mpr ⟨⟨RX5, TX5, 16, tyX5, rfl, osinX5, nmX5, tyX5_ok, (Nat.le_of_ble_eq_true rfl), rfl, rfl, rfl, Or.inl rfl⟩, fun _ h => absurd h List.not_mem_nil⟩⟩
theorem fX9_9 : osFd RX9 9 [7] 0 (.array .byte) true := ⟨"OrderSettler", "input", "[B", wd529, rfl, List.forall_mem_cons.mpr ⟨⟨RX9, TX9, 14, tyX9, rfl, osinX9, nmX9, tyX9_ok, (Nat.le_of_ble_eq_true rfl), rfl, rfl, rfl, Or.inl rfl⟩, fun _ h => absurd h List.not_mem_nil⟩⟩
theorem fX9_384 : osFd RX9 384 [3, 6] 8 .int false := ⟨"OrderSettler$TextReader", "foundCode", "I", wd227, rfl, List.forall_mem_cons.mpr ⟨⟨RX3, TX3, 10, tyX3, rfl, osinX3, nmX3, tyX3_ok, (Nat.le_of_ble_eq_true rfl), rfl, rfl, rfl, Or.inl rfl⟩, List.forall_mem_cons.mpr ⟨⟨RX7, TX7, 10, tyX7, rfl, osinX7, nmX7, tyX7_ok, (Nat.le_of_ble_eq_true rfl), rfl, rfl, rfl, Or.inl rfl⟩, fun _ h => absurd h List.not_mem_nil⟩⟩⟩
theorem fX9_389 : osFd RX9 389 [3, 6] 9 .int false := ⟨"OrderSettler$TextReader", "foundPosition", "I", wd229, rfl, List.forall_mem_cons.mpr ⟨⟨RX3, TX3, 10, tyX3, rfl, osinX3, nmX3, tyX3_ok, (Nat.le_of_ble_eq_true rfl), rfl, rfl, rfl, Or.inl rfl⟩, List.forall_mem_cons.mpr ⟨⟨RX7, TX7, 10, tyX7, rfl, osinX7, nmX7, tyX7_ok, (Nat.le_of_ble_eq_true rfl), rfl, rfl, rfl, Or.inl rfl⟩, fun _ h => absurd h List.not_mem_nil⟩⟩⟩
theorem fX9_75 : osFd RX9 75 [7] 13 (.object "OrderSettler$State") false := ⟨"OrderSettler", "draft", "LOrderSettler$State;", wd542, rfl, List.forall_mem_cons.mpr ⟨⟨RX9, TX9, 14, tyX9, rfl, osinX9, nmX9, tyX9_ok, (Nat.le_of_ble_eq_true rfl), rfl, rfl, rfl, Or.inl rfl⟩, fun _ h => absurd h List.not_mem_nil⟩⟩
theorem fX10_82 : osFd RX10 82 [8] 0 .int false := ⟨"OrderSettlerModel", "thrown", "I", wd1602, rfl, List.forall_mem_cons.mpr ⟨⟨RX10, TX10, 43, tyX10, rfl, osinX10, nmX10, tyX10_ok, (Nat.le_of_ble_eq_true rfl), rfl, rfl, rfl, Or.inl rfl⟩, fun _ h => absurd h List.not_mem_nil⟩⟩
theorem fX10_16 : osFd RX10 16 [8] 3 (.array .int) true := ⟨"OrderSettlerModel", "now", "[I", wd1605, rfl, List.forall_mem_cons.mpr ⟨⟨RX10, TX10, 43, tyX10, rfl, osinX10, nmX10, tyX10_ok, (Nat.le_of_ble_eq_true rfl), rfl, rfl, rfl, Or.inl rfl⟩, fun _ h => absurd h List.not_mem_nil⟩⟩
theorem fX10_19 : osFd RX10 19 [8] 4 (.array .int) true := ⟨"OrderSettlerModel", "draft", "[I", wd1606, rfl, List.forall_mem_cons.mpr ⟨⟨RX10, TX10, 43, tyX10, rfl, osinX10, nmX10, tyX10_ok, (Nat.le_of_ble_eq_true rfl), rfl, rfl, rfl, Or.inl rfl⟩, fun _ h => absurd h List.not_mem_nil⟩⟩
theorem fX10_7 : osFd RX10 7 [8] 1 (.array .int) true := ⟨"OrderSettlerModel", "map", "[I", wd1603, rfl, List.forall_mem_cons.mpr ⟨⟨RX10, TX10, 43, tyX10, rfl, osinX10, nmX10, tyX10_ok, (Nat.le_of_ble_eq_true rfl), rfl, rfl, rfl, Or.inl rfl⟩, fun _ h => absurd h List.not_mem_nil⟩⟩
theorem mdX10_in : osMd yX10_in cX10_in 3 (some .boolean) 3 := ⟨wd1772, wd160, ⟨by decide +kernel, by decide +kernel⟩, by decide +kernel⟩
theorem mdX10_isArea : osMd yX10_isArea cX10_isArea 2 (some .boolean) 1 := ⟨wd2016, wd160, ⟨by decide +kernel, by decide +kernel⟩, by decide +kernel⟩
theorem sl8_X10_isArea_X10_isArea : osSl [8] yX10_isArea yX10_isArea := List.forall_mem_cons.mpr ⟨⟨_, rfl, wd109⟩, fun _ h => absurd h List.not_mem_nil⟩
theorem mdX10_isUnit : osMd yX10_isUnit cX10_isUnit 2 (some .boolean) 2 := ⟨wd1881, wd160, ⟨by decide +kernel, by decide +kernel⟩, by decide +kernel⟩
theorem mdX10_passing : osMd yX10_passing cX10_passing 3 (some .int) 2 := ⟨wd1937, wd160, ⟨by decide +kernel, by decide +kernel⟩, by decide +kernel⟩
theorem sl8_X10_passing_X10_passing : osSl [8] yX10_passing yX10_passing := List.forall_mem_cons.mpr ⟨⟨_, rfl, wd93⟩, fun _ h => absurd h List.not_mem_nil⟩
theorem mdX10_has : osMd yX10_has cX10_has 2 (some .boolean) 2 := ⟨wd1862, wd160, ⟨by decide +kernel, by decide +kernel⟩, by decide +kernel⟩
theorem mdX10_canGo : osMd yX10_canGo cX10_canGo 4 (some .boolean) 3 := ⟨wd1933, wd160, ⟨by decide +kernel, by decide +kernel⟩, by decide +kernel⟩
theorem sl8_X10_canGo_X10_canGo : osSl [8] yX10_canGo yX10_canGo := List.forall_mem_cons.mpr ⟨⟨_, rfl, wd92⟩, fun _ h => absurd h List.not_mem_nil⟩
theorem mdX10_isDirect : osMd yX10_isDirect cX10_isDirect 3 (some .boolean) 2 := ⟨wd1929, wd160, ⟨by decide +kernel, by decide +kernel⟩, by decide +kernel⟩
theorem sl8_X10_isDirect_X10_isDirect : osSl [8] yX10_isDirect yX10_isDirect := List.forall_mem_cons.mpr ⟨⟨_, rfl, wd91⟩, fun _ h => absurd h List.not_mem_nil⟩
theorem mdX10_isCoast : osMd yX10_isCoast cX10_isCoast 2 (some .boolean) 1 := ⟨wd1941, wd160, ⟨by decide +kernel, by decide +kernel⟩, by decide +kernel⟩
theorem sl8_X10_isCoast_X10_isCoast : osSl [8] yX10_isCoast yX10_isCoast := List.forall_mem_cons.mpr ⟨⟨_, rfl, wd94⟩, fun _ h => absurd h List.not_mem_nil⟩
theorem mdX10_centersOf : osMd yX10_centersOf cX10_centersOf 5 (some .int) 2 := ⟨wd1993, wd160, ⟨by decide +kernel, by decide +kernel⟩, by decide +kernel⟩
theorem sl8_X10_centersOf_X10_centersOf : osSl [8] yX10_centersOf yX10_centersOf := List.forall_mem_cons.mpr ⟨⟨_, rfl, wd107⟩, fun _ h => absurd h List.not_mem_nil⟩
theorem mdX10_unitsOf : osMd yX10_unitsOf cX10_unitsOf 5 (some .int) 2 := ⟨wd1893, wd160, ⟨by decide +kernel, by decide +kernel⟩, by decide +kernel⟩
theorem sl8_X10_unitsOf_X10_unitsOf : osSl [8] yX10_unitsOf yX10_unitsOf := List.forall_mem_cons.mpr ⟨⟨_, rfl, wd83⟩, fun _ h => absurd h List.not_mem_nil⟩
theorem mdX10_lesser : osMd yX10_lesser cX10_lesser 2 (some .int) 2 := ⟨wd1996, wd160, ⟨by decide +kernel, by decide +kernel⟩, by decide +kernel⟩
theorem mdX10_isFreeHome : osMd yX10_isFreeHome cX10_isFreeHome 4 (some .boolean) 3 := ⟨wd1985, wd160, ⟨by decide +kernel, by decide +kernel⟩, by decide +kernel⟩
theorem sl8_X10_isFreeHome_X10_isFreeHome : osSl [8] yX10_isFreeHome yX10_isFreeHome := List.forall_mem_cons.mpr ⟨⟨_, rfl, wd105⟩, fun _ h => absurd h List.not_mem_nil⟩
theorem fX10_32 : osFd RX10 32 [8] 9 (.array .int) true := ⟨"OrderSettlerModel", "buffer", "[I", wd1611, rfl, List.forall_mem_cons.mpr ⟨⟨RX10, TX10, 43, tyX10, rfl, osinX10, nmX10, tyX10_ok, (Nat.le_of_ble_eq_true rfl), rfl, rfl, rfl, Or.inl rfl⟩, fun _ h => absurd h List.not_mem_nil⟩⟩
theorem fX10_138 : osFd RX10 138 [8] 10 .int false := ⟨"OrderSettlerModel", "buffered", "I", wd1612, rfl, List.forall_mem_cons.mpr ⟨⟨RX10, TX10, 43, tyX10, rfl, osinX10, nmX10, tyX10_ok, (Nat.le_of_ble_eq_true rfl), rfl, rfl, rfl, Or.inl rfl⟩, fun _ h => absurd h List.not_mem_nil⟩⟩
theorem fX10_149 : osFd RX10 149 [8] 16 .int false := ⟨"OrderSettlerModel", "code", "I", wd1618, rfl, List.forall_mem_cons.mpr ⟨⟨RX10, TX10, 43, tyX10, rfl, osinX10, nmX10, tyX10_ok, (Nat.le_of_ble_eq_true rfl), rfl, rfl, rfl, Or.inl rfl⟩, fun _ h => absurd h List.not_mem_nil⟩⟩
theorem mdX10_told : osMd yX10_told cX10_told 2 (some .int) 1 := ⟨wd1757, wd160, ⟨by decide +kernel, by decide +kernel⟩, by decide +kernel⟩
theorem sl8_X10_told_X10_told : osSl [8] yX10_told yX10_told := List.forall_mem_cons.mpr ⟨⟨_, rfl, wd59⟩, fun _ h => absurd h List.not_mem_nil⟩
theorem fX10_35 : osFd RX10 35 [8] 17 .int false := ⟨"OrderSettlerModel", "codeAt", "I", wd1619, rfl, List.forall_mem_cons.mpr ⟨⟨RX10, TX10, 43, tyX10, rfl, osinX10, nmX10, tyX10_ok, (Nat.le_of_ble_eq_true rfl), rfl, rfl, rfl, Or.inl rfl⟩, fun _ h => absurd h List.not_mem_nil⟩⟩
theorem fX10_155 : osFd RX10 155 [8] 12 .int false := ⟨"OrderSettlerModel", "end", "I", wd1614, rfl, List.forall_mem_cons.mpr ⟨⟨RX10, TX10, 43, tyX10, rfl, osinX10, nmX10, tyX10_ok, (Nat.le_of_ble_eq_true rfl), rfl, rfl, rfl, Or.inl rfl⟩, fun _ h => absurd h List.not_mem_nil⟩⟩
theorem fX10_158 : osFd RX10 158 [8] 11 .int false := ⟨"OrderSettlerModel", "textAt", "I", wd1613, rfl, List.forall_mem_cons.mpr ⟨⟨RX10, TX10, 43, tyX10, rfl, osinX10, nmX10, tyX10_ok, (Nat.le_of_ble_eq_true rfl), rfl, rfl, rfl, Or.inl rfl⟩, fun _ h => absurd h List.not_mem_nil⟩⟩
theorem mdX10_byteAt : osMd yX10_byteAt cX10_byteAt 2 (some .int) 1 := ⟨wd1784, wd160, ⟨by decide +kernel, by decide +kernel⟩, by decide +kernel⟩
theorem sl8_X10_byteAt_X10_byteAt : osSl [8] yX10_byteAt yX10_byteAt := List.forall_mem_cons.mpr ⟨⟨_, rfl, wd63⟩, fun _ h => absurd h List.not_mem_nil⟩
theorem fX10_164 : osFd RX10 164 [8] 13 .int false := ⟨"OrderSettlerModel", "tokenAt", "I", wd1615, rfl, List.forall_mem_cons.mpr ⟨⟨RX10, TX10, 43, tyX10, rfl, osinX10, nmX10, tyX10_ok, (Nat.le_of_ble_eq_true rfl), rfl, rfl, rfl, Or.inl rfl⟩, fun _ h => absurd h List.not_mem_nil⟩⟩
theorem mdX10_peek : osMd yX10_peek cX10_peek 1 (some .int) 0 := ⟨wd1780, wd160, ⟨by decide +kernel, by decide +kernel⟩, by decide +kernel⟩
theorem sl8_X10_peek_X10_peek : osSl [8] yX10_peek yX10_peek := List.forall_mem_cons.mpr ⟨⟨_, rfl, wd62⟩, fun _ h => absurd h List.not_mem_nil⟩
theorem mdX10_isLetter : osMd yX10_isLetter cX10_isLetter 1 (some .boolean) 1 := ⟨wd1799, wd160, ⟨by decide +kernel, by decide +kernel⟩, by decide +kernel⟩
theorem fX10_174 : osFd RX10 174 [8] 14 .int false := ⟨"OrderSettlerModel", "behindAt", "I", wd1616, rfl, List.forall_mem_cons.mpr ⟨⟨RX10, TX10, 43, tyX10, rfl, osinX10, nmX10, tyX10_ok, (Nat.le_of_ble_eq_true rfl), rfl, rfl, rfl, Or.inl rfl⟩, fun _ h => absurd h List.not_mem_nil⟩⟩
theorem fX10_177 : osFd RX10 177 [8] 18 .long false := ⟨"OrderSettlerModel", "word", "J", wd1620, rfl, List.forall_mem_cons.mpr ⟨⟨RX10, TX10, 43, tyX10, rfl, osinX10, nmX10, tyX10_ok, (Nat.le_of_ble_eq_true rfl), rfl, rfl, rfl, Or.inl rfl⟩, fun _ h => absurd h List.not_mem_nil⟩⟩
theorem fX10_185 : osFd RX10 185 [8] 15 .int false := ⟨"OrderSettlerModel", "letters", "I", wd1617, rfl, List.forall_mem_cons.mpr ⟨⟨RX10, TX10, 43, tyX10, rfl, osinX10, nmX10, tyX10_ok, (Nat.le_of_ble_eq_true rfl), rfl, rfl, rfl, Or.inl rfl⟩, fun _ h => absurd h List.not_mem_nil⟩⟩
theorem mdX10_seesWord : osMd yX10_seesWord cX10_seesWord 1 (some .boolean) 0 := ⟨wd1796, wd160, ⟨by decide +kernel, by decide +kernel⟩, by decide +kernel⟩
theorem sl8_X10_seesWord_X10_seesWord : osSl [8] yX10_seesWord yX10_seesWord := List.forall_mem_cons.mpr ⟨⟨_, rfl, wd66⟩, fun _ h => absurd h List.not_mem_nil⟩
theorem mdX10_fails : osMd yX10_fails cX10_fails 3 (some .boolean) 2 := ⟨wd1809, wd160, ⟨by decide +kernel, by decide +kernel⟩, by decide +kernel⟩
theorem sl8_X10_fails_X10_fails : osSl [8] yX10_fails yX10_fails := List.forall_mem_cons.mpr ⟨⟨_, rfl, wd68⟩, fun _ h => absurd h List.not_mem_nil⟩
theorem mdX10_passes : osMd yX10_passes cX10_passes 1 (some .boolean) 0 := ⟨wd1805, wd160, ⟨by decide +kernel, by decide +kernel⟩, by decide +kernel⟩
theorem sl8_X10_passes_X10_passes : osSl [8] yX10_passes yX10_passes := List.forall_mem_cons.mpr ⟨⟨_, rfl, wd67⟩, fun _ h => absurd h List.not_mem_nil⟩
theorem mdX10_sees : osMd yX10_sees cX10_sees 3 (some .boolean) 1 := ⟨wd1847, wd160, ⟨by decide +kernel, by decide +kernel⟩, by decide +kernel⟩
theorem sl8_X10_sees_X10_sees : osSl [8] yX10_sees yX10_sees := List.forall_mem_cons.mpr ⟨⟨_, rfl, wd73⟩, fun _ h => absurd h List.not_mem_nil⟩
theorem mdX10_readWord : osMd yX10_readWord cX10_readWord 1 (some .boolean) 0 := ⟨wd1792, wd160, ⟨by decide +kernel, by decide +kernel⟩, by decide +kernel⟩
theorem sl8_X10_readWord_X10_readWord : osSl [8] yX10_readWord yX10_readWord := List.forall_mem_cons.mpr ⟨⟨_, rfl, wd65⟩, fun _ h => absurd h List.not_mem_nil⟩
theorem mdX10_isKeyword : osMd yX10_isKeyword cX10_isKeyword 2 (some .boolean) 0 := ⟨wd1824, wd160, ⟨by decide +kernel, by decide +kernel⟩, by decide +kernel⟩
theorem sl8_X10_isKeyword_X10_isKeyword : osSl [8] yX10_isKeyword yX10_isKeyword := List.forall_mem_cons.mpr ⟨⟨_, rfl, wd71⟩, fun _ h => absurd h List.not_mem_nil⟩
theorem mdX10_readName : osMd yX10_readName cX10_readName 1 (some .boolean) 0 := ⟨wd1820, wd160, ⟨by decide +kernel, by decide +kernel⟩, by decide +kernel⟩
theorem sl8_X10_readName_X10_readName : osSl [8] yX10_readName yX10_readName := List.forall_mem_cons.mpr ⟨⟨_, rfl, wd70⟩, fun _ h => absurd h List.not_mem_nil⟩
theorem mdX10_numberOf : osMd yX10_numberOf cX10_numberOf 6 (some .int) 4 := ⟨wd1839, wd160, ⟨by decide +kernel, by decide +kernel⟩, by decide +kernel⟩
theorem fX10_245 : osFd RX10 245 [8] 19 .int false := ⟨"OrderSettlerModel", "found", "I", wd1621, rfl, List.forall_mem_cons.mpr ⟨⟨RX10, TX10, 43, tyX10, rfl, osinX10, nmX10, tyX10_ok, (Nat.le_of_ble_eq_true rfl), rfl, rfl, rfl, Or.inl rfl⟩, fun _ h => absurd h List.not_mem_nil⟩⟩
theorem fX10_29 : osFd RX10 29 [8] 7 (.array .long) true := ⟨"OrderSettlerModel", "nameDraft", "[J", wd1609, rfl, List.forall_mem_cons.mpr ⟨⟨RX10, TX10, 43, tyX10, rfl, osinX10, nmX10, tyX10_ok, (Nat.le_of_ble_eq_true rfl), rfl, rfl, rfl, Or.inl rfl⟩, fun _ h => absurd h List.not_mem_nil⟩⟩
theorem fX10_13 : osFd RX10 13 [8] 2 (.array .int) true := ⟨"OrderSettlerModel", "mapDraft", "[I", wd1604, rfl, List.forall_mem_cons.mpr ⟨⟨RX10, TX10, 43, tyX10, rfl, osinX10, nmX10, tyX10_ok, (Nat.le_of_ble_eq_true rfl), rfl, rfl, rfl, Or.inl rfl⟩, fun _ h => absurd h List.not_mem_nil⟩⟩
theorem mdX10_readArea : osMd yX10_readArea cX10_readArea 3 (some .boolean) 2 := ⟨wd1859, wd160, ⟨by decide +kernel, by decide +kernel⟩, by decide +kernel⟩
theorem sl8_X10_readArea_X10_readArea : osSl [8] yX10_readArea yX10_readArea := List.forall_mem_cons.mpr ⟨⟨_, rfl, wd76⟩, fun _ h => absurd h List.not_mem_nil⟩
theorem mdX10_takesIf : osMd yX10_takesIf cX10_takesIf 3 (some .boolean) 1 := ⟨wd1843, wd160, ⟨by decide +kernel, by decide +kernel⟩, by decide +kernel⟩
theorem sl8_X10_takesIf_X10_takesIf : osSl [8] yX10_takesIf yX10_takesIf := List.forall_mem_cons.mpr ⟨⟨_, rfl, wd72⟩, fun _ h => absurd h List.not_mem_nil⟩
theorem mdX10_readDraftArea : osMd yX10_readDraftArea cX10_readDraftArea 1 (some .boolean) 0 := ⟨wd1855, wd160, ⟨by decide +kernel, by decide +kernel⟩, by decide +kernel⟩
theorem sl8_X10_readDraftArea_X10_readDraftArea : osSl [8] yX10_readDraftArea yX10_readDraftArea := List.forall_mem_cons.mpr ⟨⟨_, rfl, wd75⟩, fun _ h => absurd h List.not_mem_nil⟩
theorem mdX10_draftUnits : osMd yX10_draftUnits cX10_draftUnits 3 (some .int) 0 := ⟨wd1878, wd160, ⟨by decide +kernel, by decide +kernel⟩, by decide +kernel⟩
theorem sl8_X10_draftUnits_X10_draftUnits : osSl [8] yX10_draftUnits yX10_draftUnits := List.forall_mem_cons.mpr ⟨⟨_, rfl, wd80⟩, fun _ h => absurd h List.not_mem_nil⟩
theorem fX10_25 : osFd RX10 25 [8] 6 (.array .long) true := ⟨"OrderSettlerModel", "name", "[J", wd1608, rfl, List.forall_mem_cons.mpr ⟨⟨RX10, TX10, 43, tyX10, rfl, osinX10, nmX10, tyX10_ok, (Nat.le_of_ble_eq_true rfl), rfl, rfl, rfl, Or.inl rfl⟩, fun _ h => absurd h List.not_mem_nil⟩⟩
theorem mdX10_readHere : osMd yX10_readHere cX10_readHere 1 (some .boolean) 0 := ⟨wd1917, wd160, ⟨by decide +kernel, by decide +kernel⟩, by decide +kernel⟩
theorem sl8_X10_readHere_X10_readHere : osSl [8] yX10_readHere yX10_readHere := List.forall_mem_cons.mpr ⟨⟨_, rfl, wd88⟩, fun _ h => absurd h List.not_mem_nil⟩
theorem mdX10_maySupport : osMd yX10_maySupport cX10_maySupport 3 (some .boolean) 2 := ⟨wd1953, wd160, ⟨by decide +kernel, by decide +kernel⟩, by decide +kernel⟩
theorem sl8_X10_maySupport_X10_maySupport : osSl [8] yX10_maySupport yX10_maySupport := List.forall_mem_cons.mpr ⟨⟨_, rfl, wd97⟩, fun _ h => absurd h List.not_mem_nil⟩
theorem mdX10_orders : osMd yX10_orders cX10_orders 6 (some .boolean) 5 := ⟨wd1921, wd160, ⟨by decide +kernel, by decide +kernel⟩, by decide +kernel⟩
theorem sl8_X10_orders_X10_orders : osSl [8] yX10_orders yX10_orders := List.forall_mem_cons.mpr ⟨⟨_, rfl, wd89⟩, fun _ h => absurd h List.not_mem_nil⟩
theorem mdX10_maySupportMove : osMd yX10_maySupportMove cX10_maySupportMove 4 (some .boolean) 3 := ⟨wd1949, wd160, ⟨by decide +kernel, by decide +kernel⟩, by decide +kernel⟩
theorem sl8_X10_maySupportMove_X10_maySupportMove : osSl [8] yX10_maySupportMove yX10_maySupportMove := List.forall_mem_cons.mpr ⟨⟨_, rfl, wd96⟩, fun _ h => absurd h List.not_mem_nil⟩
theorem mdX10_takesWord : osMd yX10_takesWord cX10_takesWord 3 (some .boolean) 1 := ⟨wd1961, wd160, ⟨by decide +kernel, by decide +kernel⟩, by decide +kernel⟩
theorem sl8_X10_takesWord_X10_takesWord : osSl [8] yX10_takesWord yX10_takesWord := List.forall_mem_cons.mpr ⟨⟨_, rfl, wd99⟩, fun _ h => absurd h List.not_mem_nil⟩
theorem mdX10_mayConvoy : osMd yX10_mayConvoy cX10_mayConvoy 5 (some .boolean) 3 := ⟨wd1965, wd160, ⟨by decide +kernel, by decide +kernel⟩, by decide +kernel⟩
theorem sl8_X10_mayConvoy_X10_mayConvoy : osSl [8] yX10_mayConvoy yX10_mayConvoy := List.forall_mem_cons.mpr ⟨⟨_, rfl, wd100⟩, fun _ h => absurd h List.not_mem_nil⟩
theorem mdX10_readConvoy : osMd yX10_readConvoy cX10_readConvoy 3 (some .boolean) 1 := ⟨wd1957, wd160, ⟨by decide +kernel, by decide +kernel⟩, by decide +kernel⟩
theorem sl8_X10_readConvoy_X10_readConvoy : osSl [8] yX10_readConvoy yX10_readConvoy := List.forall_mem_cons.mpr ⟨⟨_, rfl, wd98⟩, fun _ h => absurd h List.not_mem_nil⟩
theorem mdX10_readSupport : osMd yX10_readSupport cX10_readSupport 4 (some .boolean) 1 := ⟨wd1945, wd160, ⟨by decide +kernel, by decide +kernel⟩, by decide +kernel⟩
theorem sl8_X10_readSupport_X10_readSupport : osSl [8] yX10_readSupport yX10_readSupport := List.forall_mem_cons.mpr ⟨⟨_, rfl, wd95⟩, fun _ h => absurd h List.not_mem_nil⟩
theorem mdX10_mayMove : osMd yX10_mayMove cX10_mayMove 3 (some .boolean) 2 := ⟨wd1925, wd160, ⟨by decide +kernel, by decide +kernel⟩, by decide +kernel⟩
theorem sl8_X10_mayMove_X10_mayMove : osSl [8] yX10_mayMove yX10_mayMove := List.forall_mem_cons.mpr ⟨⟨_, rfl, wd90⟩, fun _ h => absurd h List.not_mem_nil⟩
theorem mdX10_mayGoBack : osMd yX10_mayGoBack cX10_mayGoBack 3 (some .boolean) 2 := ⟨wd1973, wd160, ⟨by decide +kernel, by decide +kernel⟩, by decide +kernel⟩
theorem sl8_X10_mayGoBack_X10_mayGoBack : osSl [8] yX10_mayGoBack yX10_mayGoBack := List.forall_mem_cons.mpr ⟨⟨_, rfl, wd102⟩, fun _ h => absurd h List.not_mem_nil⟩
theorem mdX10_buildsOf : osMd yX10_buildsOf cX10_buildsOf 6 (some .int) 2 := ⟨wd1989, wd160, ⟨by decide +kernel, by decide +kernel⟩, by decide +kernel⟩
theorem sl8_X10_buildsOf_X10_buildsOf : osSl [8] yX10_buildsOf yX10_buildsOf := List.forall_mem_cons.mpr ⟨⟨_, rfl, wd106⟩, fun _ h => absurd h List.not_mem_nil⟩
theorem mdX10_readGone : osMd yX10_readGone cX10_readGone 1 (some .boolean) 0 := ⟨wd2000, wd160, ⟨by decide +kernel, by decide +kernel⟩, by decide +kernel⟩
theorem sl8_X10_readGone_X10_readGone : osSl [8] yX10_readGone yX10_readGone := List.forall_mem_cons.mpr ⟨⟨_, rfl, wd108⟩, fun _ h => absurd h List.not_mem_nil⟩
theorem mdX10_readNewUnit : osMd yX10_readNewUnit cX10_readNewUnit 3 (some .boolean) 0 := ⟨wd1981, wd160, ⟨by decide +kernel, by decide +kernel⟩, by decide +kernel⟩
theorem sl8_X10_readNewUnit_X10_readNewUnit : osSl [8] yX10_readNewUnit yX10_readNewUnit := List.forall_mem_cons.mpr ⟨⟨_, rfl, wd104⟩, fun _ h => absurd h List.not_mem_nil⟩
theorem mdX10_readBuild : osMd yX10_readBuild cX10_readBuild 1 (some .boolean) 0 := ⟨wd1977, wd160, ⟨by decide +kernel, by decide +kernel⟩, by decide +kernel⟩
theorem sl8_X10_readBuild_X10_readBuild : osSl [8] yX10_readBuild yX10_readBuild := List.forall_mem_cons.mpr ⟨⟨_, rfl, wd103⟩, fun _ h => absurd h List.not_mem_nil⟩
theorem mdX10_readRetreat : osMd yX10_readRetreat cX10_readRetreat 2 (some .boolean) 0 := ⟨wd1969, wd160, ⟨by decide +kernel, by decide +kernel⟩, by decide +kernel⟩
theorem sl8_X10_readRetreat_X10_readRetreat : osSl [8] yX10_readRetreat yX10_readRetreat := List.forall_mem_cons.mpr ⟨⟨_, rfl, wd101⟩, fun _ h => absurd h List.not_mem_nil⟩
theorem mdX10_readOrder : osMd yX10_readOrder cX10_readOrder 2 (some .boolean) 0 := ⟨wd1913, wd160, ⟨by decide +kernel, by decide +kernel⟩, by decide +kernel⟩
theorem sl8_X10_readOrder_X10_readOrder : osSl [8] yX10_readOrder yX10_readOrder := List.forall_mem_cons.mpr ⟨⟨_, rfl, wd87⟩, fun _ h => absurd h List.not_mem_nil⟩
theorem fX10_342 : osFd RX10 342 [8] 20 .int false := ⟨"OrderSettlerModel", "lines", "I", wd1622, rfl, List.forall_mem_cons.mpr ⟨⟨RX10, TX10, 43, tyX10, rfl, osinX10, nmX10, tyX10_ok, (Nat.le_of_ble_eq_true rfl), rfl, rfl, rfl, Or.inl rfl⟩, fun _ h => absurd h List.not_mem_nil⟩⟩
theorem mdX10_readOne : osMd yX10_readOne cX10_readOne 1 (some .boolean) 0 := ⟨wd1909, wd160, ⟨by decide +kernel, by decide +kernel⟩, by decide +kernel⟩
theorem sl8_X10_readOne_X10_readOne : osSl [8] yX10_readOne yX10_readOne := List.forall_mem_cons.mpr ⟨⟨_, rfl, wd86⟩, fun _ h => absurd h List.not_mem_nil⟩
theorem mdX10_readSemicolon : osMd yX10_readSemicolon cX10_readSemicolon 1 (some .boolean) 0 := ⟨wd1885, wd160, ⟨by decide +kernel, by decide +kernel⟩, by decide +kernel⟩
theorem sl8_X10_readSemicolon_X10_readSemicolon : osSl [8] yX10_readSemicolon yX10_readSemicolon := List.forall_mem_cons.mpr ⟨⟨_, rfl, wd81⟩, fun _ h => absurd h List.not_mem_nil⟩
theorem mdX10_opens : osMd yX10_opens cX10_opens 2 (some .boolean) 1 := ⟨wd1769, wd160, ⟨by decide +kernel, by decide +kernel⟩, by decide +kernel⟩
theorem sl8_X10_opens_X10_opens : osSl [8] yX10_opens yX10_opens := List.forall_mem_cons.mpr ⟨⟨_, rfl, wd60⟩, fun _ h => absurd h List.not_mem_nil⟩
theorem mdX10_laysDraft : osMd yX10_laysDraft cX10_laysDraft 2 none 0 := ⟨wd1901, wd160, ⟨by decide +kernel, by decide +kernel⟩, by decide +kernel⟩
theorem sl8_X10_laysDraft_X10_laysDraft : osSl [8] yX10_laysDraft yX10_laysDraft := List.forall_mem_cons.mpr ⟨⟨_, rfl, wd84⟩, fun _ h => absurd h List.not_mem_nil⟩
theorem mdX10_readAll : osMd yX10_readAll cX10_readAll 1 (some .boolean) 0 := ⟨wd1905, wd160, ⟨by decide +kernel, by decide +kernel⟩, by decide +kernel⟩
theorem sl8_X10_readAll_X10_readAll : osSl [8] yX10_readAll yX10_readAll := List.forall_mem_cons.mpr ⟨⟨_, rfl, wd85⟩, fun _ h => absurd h List.not_mem_nil⟩
theorem mdX10_isRead : osMd yX10_isRead cX10_isRead 2 (some .boolean) 1 := ⟨wd1889, wd160, ⟨by decide +kernel, by decide +kernel⟩, by decide +kernel⟩
theorem sl8_X10_isRead_X10_isRead : osSl [8] yX10_isRead yX10_isRead := List.forall_mem_cons.mpr ⟨⟨_, rfl, wd82⟩, fun _ h => absurd h List.not_mem_nil⟩
theorem mdX10_takesDraft : osMd yX10_takesDraft cX10_takesDraft 2 none 0 := ⟨wd1601, wd160, ⟨by decide +kernel, by decide +kernel⟩, by decide +kernel⟩
theorem sl8_X10_takesDraft_X10_takesDraft : osSl [8] yX10_takesDraft yX10_takesDraft := List.forall_mem_cons.mpr ⟨⟨_, rfl, wd56⟩, fun _ h => absurd h List.not_mem_nil⟩
theorem mdX10_isRefused : osMd yX10_isRefused cX10_isRefused 2 (some .boolean) 1 := ⟨wd2020, wd160, ⟨by decide +kernel, by decide +kernel⟩, by decide +kernel⟩
theorem sl8_X10_isRefused_X10_isRefused : osSl [8] yX10_isRefused yX10_isRefused := List.forall_mem_cons.mpr ⟨⟨_, rfl, wd110⟩, fun _ h => absurd h List.not_mem_nil⟩
theorem mdX10_refuse : osMd yX10_refuse cX10_refuse 2 (some .int) 1 := ⟨wd1745, wd160, ⟨by decide +kernel, by decide +kernel⟩, by decide +kernel⟩
theorem sl8_X10_refuse_X10_refuse : osSl [8] yX10_refuse yX10_refuse := List.forall_mem_cons.mpr ⟨⟨_, rfl, wd57⟩, fun _ h => absurd h List.not_mem_nil⟩
theorem mdX10_widened : osMd yX10_widened cX10_widened 5 (some .int) 2 := ⟨wd2037, wd160, ⟨by decide +kernel, by decide +kernel⟩, by decide +kernel⟩
theorem sl8_X10_widened_X10_widened : osSl [8] yX10_widened yX10_widened := List.forall_mem_cons.mpr ⟨⟨_, rfl, wd111⟩, fun _ h => absurd h List.not_mem_nil⟩
theorem mdX10_isPower : osMd yX10_isPower cX10_isPower 2 (some .boolean) 1 := ⟨wd2045, wd160, ⟨by decide +kernel, by decide +kernel⟩, by decide +kernel⟩
theorem sl8_X10_isPower_X10_isPower : osSl [8] yX10_isPower yX10_isPower := List.forall_mem_cons.mpr ⟨⟨_, rfl, wd112⟩, fun _ h => absurd h List.not_mem_nil⟩
theorem mdX10_homesOf : osMd yX10_homesOf cX10_homesOf 4 (some .int) 1 := ⟨wd2049, wd160, ⟨by decide +kernel, by decide +kernel⟩, by decide +kernel⟩
theorem sl8_X10_homesOf_X10_homesOf : osSl [8] yX10_homesOf yX10_homesOf := List.forall_mem_cons.mpr ⟨⟨_, rfl, wd113⟩, fun _ h => absurd h List.not_mem_nil⟩
theorem mdX10_hasUnit : osMd yX10_hasUnit cX10_hasUnit 2 (some .boolean) 1 := ⟨wd2065, wd160, ⟨by decide +kernel, by decide +kernel⟩, by decide +kernel⟩
theorem sl8_X10_hasUnit_X10_hasUnit : osSl [8] yX10_hasUnit yX10_hasUnit := List.forall_mem_cons.mpr ⟨⟨_, rfl, wd114⟩, fun _ h => absurd h List.not_mem_nil⟩
theorem fX10_371 : osFd RX10 371 [8] 26 .int false := ⟨"OrderSettlerModel", "moves", "I", wd1628, rfl, List.forall_mem_cons.mpr ⟨⟨RX10, TX10, 43, tyX10, rfl, osinX10, nmX10, tyX10_ok, (Nat.le_of_ble_eq_true rfl), rfl, rfl, rfl, Or.inl rfl⟩, fun _ h => absurd h List.not_mem_nil⟩⟩
theorem fX10_48 : osFd RX10 48 [8] 24 (.array .int) true := ⟨"OrderSettlerModel", "moveOf", "[I", wd1626, rfl, List.forall_mem_cons.mpr ⟨⟨RX10, TX10, 43, tyX10, rfl, osinX10, nmX10, tyX10_ok, (Nat.le_of_ble_eq_true rfl), rfl, rfl, rfl, Or.inl rfl⟩, fun _ h => absurd h List.not_mem_nil⟩⟩
theorem fX10_42 : osFd RX10 42 [8] 22 (.array .int) true := ⟨"OrderSettlerModel", "goalOf", "[I", wd1624, rfl, List.forall_mem_cons.mpr ⟨⟨RX10, TX10, 43, tyX10, rfl, osinX10, nmX10, tyX10_ok, (Nat.le_of_ble_eq_true rfl), rfl, rfl, rfl, Or.inl rfl⟩, fun _ h => absurd h List.not_mem_nil⟩⟩
theorem fX10_45 : osFd RX10 45 [8] 23 (.array .int) true := ⟨"OrderSettlerModel", "opposed", "[I", wd1625, rfl, List.forall_mem_cons.mpr ⟨⟨RX10, TX10, 43, tyX10, rfl, osinX10, nmX10, tyX10_ok, (Nat.le_of_ble_eq_true rfl), rfl, rfl, rfl, Or.inl rfl⟩, fun _ h => absurd h List.not_mem_nil⟩⟩
theorem fX10_39 : osFd RX10 39 [8] 21 (.array .int) true := ⟨"OrderSettlerModel", "moveAt", "[I", wd1623, rfl, List.forall_mem_cons.mpr ⟨⟨RX10, TX10, 43, tyX10, rfl, osinX10, nmX10, tyX10_ok, (Nat.le_of_ble_eq_true rfl), rfl, rfl, rfl, Or.inl rfl⟩, fun _ h => absurd h List.not_mem_nil⟩⟩
theorem fX10_51 : osFd RX10 51 [8] 25 (.array .boolean) true := ⟨"OrderSettlerModel", "isBySea", "[Z", wd1627, rfl, List.forall_mem_cons.mpr ⟨⟨RX10, TX10, 43, tyX10, rfl, osinX10, nmX10, tyX10_ok, (Nat.le_of_ble_eq_true rfl), rfl, rfl, rfl, Or.inl rfl⟩, fun _ h => absurd h List.not_mem_nil⟩⟩
theorem fX10_374 : osFd RX10 374 [8] 28 .int false := ⟨"OrderSettlerModel", "outcome", "I", wd1630, rfl, List.forall_mem_cons.mpr ⟨⟨RX10, TX10, 43, tyX10, rfl, osinX10, nmX10, tyX10_ok, (Nat.le_of_ble_eq_true rfl), rfl, rfl, rfl, Or.inl rfl⟩, fun _ h => absurd h List.not_mem_nil⟩⟩
theorem mdX10_goals : osMd yX10_goals cX10_goals 3 (some .int) 0 := ⟨wd2105, wd160, ⟨by decide +kernel, by decide +kernel⟩, by decide +kernel⟩
theorem sl8_X10_goals_X10_goals : osSl [8] yX10_goals yX10_goals := List.forall_mem_cons.mpr ⟨⟨_, rfl, wd121⟩, fun _ h => absurd h List.not_mem_nil⟩
theorem fX10_380 : osFd RX10 380 [8] 29 .int false := ⟨"OrderSettlerModel", "dislodged", "I", wd1631, rfl, List.forall_mem_cons.mpr ⟨⟨RX10, TX10, 43, tyX10, rfl, osinX10, nmX10, tyX10_ok, (Nat.le_of_ble_eq_true rfl), rfl, rfl, rfl, Or.inl rfl⟩, fun _ h => absurd h List.not_mem_nil⟩⟩
theorem mdX10_succeeds : osMd yX10_succeeds cX10_succeeds 2 (some .boolean) 1 := ⟨wd2109, wd160, ⟨by decide +kernel, by decide +kernel⟩, by decide +kernel⟩
theorem sl8_X10_succeeds_X10_succeeds : osSl [8] yX10_succeeds yX10_succeeds := List.forall_mem_cons.mpr ⟨⟨_, rfl, wd122⟩, fun _ h => absurd h List.not_mem_nil⟩
theorem fX10_386 : osFd RX10 386 [8] 30 .int false := ⟨"OrderSettlerModel", "withPath", "I", wd1632, rfl, List.forall_mem_cons.mpr ⟨⟨RX10, TX10, 43, tyX10, rfl, osinX10, nmX10, tyX10_ok, (Nat.le_of_ble_eq_true rfl), rfl, rfl, rfl, Or.inl rfl⟩, fun _ h => absurd h List.not_mem_nil⟩⟩
theorem fX10_389 : osFd RX10 389 [8] 27 .boolean false := ⟨"OrderSettlerModel", "noSea", "Z", wd1629, rfl, List.forall_mem_cons.mpr ⟨⟨RX10, TX10, 43, tyX10, rfl, osinX10, nmX10, tyX10_ok, (Nat.le_of_ble_eq_true rfl), rfl, rfl, rfl, Or.inl rfl⟩, fun _ h => absurd h List.not_mem_nil⟩⟩
theorem mdX10_isConvoyed : osMd yX10_isConvoyed cX10_isConvoyed 6 (some .boolean) 2 := ⟨wd2117, wd160, ⟨by decide +kernel, by decide +kernel⟩, by decide +kernel⟩
theorem sl8_X10_isConvoyed_X10_isConvoyed : osSl [8] yX10_isConvoyed yX10_isConvoyed := List.forall_mem_cons.mpr ⟨⟨_, rfl, wd124⟩, fun _ h => absurd h List.not_mem_nil⟩
theorem fX10_396 : osFd RX10 396 [8] 31 .int false := ⟨"OrderSettlerModel", "given", "I", wd1633, rfl, List.forall_mem_cons.mpr ⟨⟨RX10, TX10, 43, tyX10, rfl, osinX10, nmX10, tyX10_ok, (Nat.le_of_ble_eq_true rfl), rfl, rfl, rfl, Or.inl rfl⟩, fun _ h => absurd h List.not_mem_nil⟩⟩
theorem mdX10_belongs : osMd yX10_belongs cX10_belongs 3 (some .boolean) 1 := ⟨wd2125, wd160, ⟨by decide +kernel, by decide +kernel⟩, by decide +kernel⟩
theorem sl8_X10_belongs_X10_belongs : osSl [8] yX10_belongs yX10_belongs := List.forall_mem_cons.mpr ⟨⟨_, rfl, wd126⟩, fun _ h => absurd h List.not_mem_nil⟩
theorem mdX10_isCut : osMd yX10_isCut cX10_isCut 4 (some .boolean) 1 := ⟨wd2129, wd160, ⟨by decide +kernel, by decide +kernel⟩, by decide +kernel⟩
theorem sl8_X10_isCut_X10_isCut : osSl [8] yX10_isCut yX10_isCut := List.forall_mem_cons.mpr ⟨⟨_, rfl, wd127⟩, fun _ h => absurd h List.not_mem_nil⟩
theorem fX10_55 : osFd RX10 55 [8] 32 (.array .int) true := ⟨"OrderSettlerModel", "strength", "[I", wd1634, rfl, List.forall_mem_cons.mpr ⟨⟨RX10, TX10, 43, tyX10, rfl, osinX10, nmX10, tyX10_ok, (Nat.le_of_ble_eq_true rfl), rfl, rfl, rfl, Or.inl rfl⟩, fun _ h => absurd h List.not_mem_nil⟩⟩
theorem mdX10_supports : osMd yX10_supports cX10_supports 5 (some .int) 2 := ⟨wd2133, wd160, ⟨by decide +kernel, by decide +kernel⟩, by decide +kernel⟩
theorem sl8_X10_supports_X10_supports : osSl [8] yX10_supports yX10_supports := List.forall_mem_cons.mpr ⟨⟨_, rfl, wd128⟩, fun _ h => absurd h List.not_mem_nil⟩
theorem mdX10_laysDislodged : osMd yX10_laysDislodged cX10_laysDislodged 4 none 0 := ⟨wd2101, wd160, ⟨by decide +kernel, by decide +kernel⟩, by decide +kernel⟩
theorem sl8_X10_laysDislodged_X10_laysDislodged : osSl [8] yX10_laysDislodged yX10_laysDislodged := List.forall_mem_cons.mpr ⟨⟨_, rfl, wd120⟩, fun _ h => absurd h List.not_mem_nil⟩
theorem mdX10_laysPaths : osMd yX10_laysPaths cX10_laysPaths 3 none 0 := ⟨wd2113, wd160, ⟨by decide +kernel, by decide +kernel⟩, by decide +kernel⟩
theorem sl8_X10_laysPaths_X10_laysPaths : osSl [8] yX10_laysPaths yX10_laysPaths := List.forall_mem_cons.mpr ⟨⟨_, rfl, wd123⟩, fun _ h => absurd h List.not_mem_nil⟩
theorem mdX10_laysGiven : osMd yX10_laysGiven cX10_laysGiven 3 none 0 := ⟨wd2121, wd160, ⟨by decide +kernel, by decide +kernel⟩, by decide +kernel⟩
theorem sl8_X10_laysGiven_X10_laysGiven : osSl [8] yX10_laysGiven yX10_laysGiven := List.forall_mem_cons.mpr ⟨⟨_, rfl, wd125⟩, fun _ h => absurd h List.not_mem_nil⟩
theorem fX10_64 : osFd RX10 64 [8] 35 (.array .int) true := ⟨"OrderSettlerModel", "holds", "[I", wd1637, rfl, List.forall_mem_cons.mpr ⟨⟨RX10, TX10, 43, tyX10, rfl, osinX10, nmX10, tyX10_ok, (Nat.le_of_ble_eq_true rfl), rfl, rfl, rfl, Or.inl rfl⟩, fun _ h => absurd h List.not_mem_nil⟩⟩
theorem mdX10_holdOf : osMd yX10_holdOf cX10_holdOf 2 (some .int) 1 := ⟨wd2141, wd160, ⟨by decide +kernel, by decide +kernel⟩, by decide +kernel⟩
theorem sl8_X10_holdOf_X10_holdOf : osSl [8] yX10_holdOf yX10_holdOf := List.forall_mem_cons.mpr ⟨⟨_, rfl, wd130⟩, fun _ h => absurd h List.not_mem_nil⟩
theorem fX10_58 : osFd RX10 58 [8] 33 (.array .int) true := ⟨"OrderSettlerModel", "attack", "[I", wd1635, rfl, List.forall_mem_cons.mpr ⟨⟨RX10, TX10, 43, tyX10, rfl, osinX10, nmX10, tyX10_ok, (Nat.le_of_ble_eq_true rfl), rfl, rfl, rfl, Or.inl rfl⟩, fun _ h => absurd h List.not_mem_nil⟩⟩
theorem mdX10_attackOf : osMd yX10_attackOf cX10_attackOf 5 (some .int) 1 := ⟨wd2137, wd160, ⟨by decide +kernel, by decide +kernel⟩, by decide +kernel⟩
theorem sl8_X10_attackOf_X10_attackOf : osSl [8] yX10_attackOf yX10_attackOf := List.forall_mem_cons.mpr ⟨⟨_, rfl, wd129⟩, fun _ h => absurd h List.not_mem_nil⟩
theorem fX10_61 : osFd RX10 61 [8] 34 (.array .int) true := ⟨"OrderSettlerModel", "prevents", "[I", wd1636, rfl, List.forall_mem_cons.mpr ⟨⟨RX10, TX10, 43, tyX10, rfl, osinX10, nmX10, tyX10_ok, (Nat.le_of_ble_eq_true rfl), rfl, rfl, rfl, Or.inl rfl⟩, fun _ h => absurd h List.not_mem_nil⟩⟩
theorem mdX10_isStronger : osMd yX10_isStronger cX10_isStronger 2 (some .boolean) 1 := ⟨wd2153, wd160, ⟨by decide +kernel, by decide +kernel⟩, by decide +kernel⟩
theorem sl8_X10_isStronger_X10_isStronger : osSl [8] yX10_isStronger yX10_isStronger := List.forall_mem_cons.mpr ⟨⟨_, rfl, wd133⟩, fun _ h => absurd h List.not_mem_nil⟩
theorem mdX10_should : osMd yX10_should cX10_should 3 (some .boolean) 1 := ⟨wd2149, wd160, ⟨by decide +kernel, by decide +kernel⟩, by decide +kernel⟩
theorem sl8_X10_should_X10_should : osSl [8] yX10_should yX10_should := List.forall_mem_cons.mpr ⟨⟨_, rfl, wd132⟩, fun _ h => absurd h List.not_mem_nil⟩
theorem fX10_429 : osFd RX10 429 [8] 36 .int false := ⟨"OrderSettlerModel", "bestOutcome", "I", wd1638, rfl, List.forall_mem_cons.mpr ⟨⟨RX10, TX10, 43, tyX10, rfl, osinX10, nmX10, tyX10_ok, (Nat.le_of_ble_eq_true rfl), rfl, rfl, rfl, Or.inl rfl⟩, fun _ h => absurd h List.not_mem_nil⟩⟩
theorem fX10_432 : osFd RX10 432 [8] 37 .int false := ⟨"OrderSettlerModel", "consistent", "I", wd1639, rfl, List.forall_mem_cons.mpr ⟨⟨RX10, TX10, 43, tyX10, rfl, osinX10, nmX10, tyX10_ok, (Nat.le_of_ble_eq_true rfl), rfl, rfl, rfl, Or.inl rfl⟩, fun _ h => absurd h List.not_mem_nil⟩⟩
theorem mdX10_says : osMd yX10_says cX10_says 3 none 1 := ⟨wd2097, wd160, ⟨by decide +kernel, by decide +kernel⟩, by decide +kernel⟩
theorem sl8_X10_says_X10_says : osSl [8] yX10_says yX10_says := List.forall_mem_cons.mpr ⟨⟨_, rfl, wd119⟩, fun _ h => absurd h List.not_mem_nil⟩
theorem mdX10_isConsistent : osMd yX10_isConsistent cX10_isConsistent 2 (some .boolean) 0 := ⟨wd2145, wd160, ⟨by decide +kernel, by decide +kernel⟩, by decide +kernel⟩
theorem sl8_X10_isConsistent_X10_isConsistent : osSl [8] yX10_isConsistent yX10_isConsistent := List.forall_mem_cons.mpr ⟨⟨_, rfl, wd131⟩, fun _ h => absurd h List.not_mem_nil⟩
theorem mdX10_ones : osMd yX10_ones cX10_ones 3 (some .int) 1 := ⟨wd2156, wd160, ⟨by decide +kernel, by decide +kernel⟩, by decide +kernel⟩
theorem mdX10_laysMoves : osMd yX10_laysMoves cX10_laysMoves 4 none 0 := ⟨wd2089, wd160, ⟨by decide +kernel, by decide +kernel⟩, by decide +kernel⟩
theorem sl8_X10_laysMoves_X10_laysMoves : osSl [8] yX10_laysMoves yX10_laysMoves := List.forall_mem_cons.mpr ⟨⟨_, rfl, wd117⟩, fun _ h => absurd h List.not_mem_nil⟩
theorem mdX10_goesThrough : osMd yX10_goesThrough cX10_goesThrough 4 none 0 := ⟨wd2093, wd160, ⟨by decide +kernel, by decide +kernel⟩, by decide +kernel⟩
theorem sl8_X10_goesThrough_X10_goesThrough : osSl [8] yX10_goesThrough yX10_goesThrough := List.forall_mem_cons.mpr ⟨⟨_, rfl, wd118⟩, fun _ h => absurd h List.not_mem_nil⟩
theorem fX10_450 : osFd RX10 450 [8] 38 .int false := ⟨"OrderSettlerModel", "outcomesNow", "I", wd1640, rfl, List.forall_mem_cons.mpr ⟨⟨RX10, TX10, 43, tyX10, rfl, osinX10, nmX10, tyX10_ok, (Nat.le_of_ble_eq_true rfl), rfl, rfl, rfl, Or.inl rfl⟩, fun _ h => absurd h List.not_mem_nil⟩⟩
theorem mdX10_reasonOf : osMd yX10_reasonOf cX10_reasonOf 2 (some .int) 1 := ⟨wd2164, wd160, ⟨by decide +kernel, by decide +kernel⟩, by decide +kernel⟩
theorem sl8_X10_reasonOf_X10_reasonOf : osSl [8] yX10_reasonOf yX10_reasonOf := List.forall_mem_cons.mpr ⟨⟨_, rfl, wd135⟩, fun _ h => absurd h List.not_mem_nil⟩
theorem fX10_92 : osFd RX10 92 [8] 8 .int false := ⟨"OrderSettlerModel", "undos", "I", wd1610, rfl, List.forall_mem_cons.mpr ⟨⟨RX10, TX10, 43, tyX10, rfl, osinX10, nmX10, tyX10_ok, (Nat.le_of_ble_eq_true rfl), rfl, rfl, rfl, Or.inl rfl⟩, fun _ h => absurd h List.not_mem_nil⟩⟩
theorem fX10_22 : osFd RX10 22 [8] 5 (.array .int) true := ⟨"OrderSettlerModel", "past", "[I", wd1607, rfl, List.forall_mem_cons.mpr ⟨⟨RX10, TX10, 43, tyX10, rfl, osinX10, nmX10, tyX10_ok, (Nat.le_of_ble_eq_true rfl), rfl, rfl, rfl, Or.inl rfl⟩, fun _ h => absurd h List.not_mem_nil⟩⟩
theorem mdX10_allHold : osMd yX10_allHold cX10_allHold 2 none 1 := ⟨wd1593, wd160, ⟨by decide +kernel, by decide +kernel⟩, by decide +kernel⟩
theorem mdX10_goesOn : osMd yX10_goesOn cX10_goesOn 1 none 0 := ⟨wd2180, wd160, ⟨by decide +kernel, by decide +kernel⟩, by decide +kernel⟩
theorem sl8_X10_goesOn_X10_goesOn : osSl [8] yX10_goesOn yX10_goesOn := List.forall_mem_cons.mpr ⟨⟨_, rfl, wd139⟩, fun _ h => absurd h List.not_mem_nil⟩
theorem fX10_67 : osFd RX10 67 [8] 39 (.array .int) true := ⟨"OrderSettlerModel", "newPower", "[I", wd1641, rfl, List.forall_mem_cons.mpr ⟨⟨RX10, TX10, 43, tyX10, rfl, osinX10, nmX10, tyX10_ok, (Nat.le_of_ble_eq_true rfl), rfl, rfl, rfl, Or.inl rfl⟩, fun _ h => absurd h List.not_mem_nil⟩⟩
theorem fX10_70 : osFd RX10 70 [8] 40 (.array .int) true := ⟨"OrderSettlerModel", "newKind", "[I", wd1642, rfl, List.forall_mem_cons.mpr ⟨⟨RX10, TX10, 43, tyX10, rfl, osinX10, nmX10, tyX10_ok, (Nat.le_of_ble_eq_true rfl), rfl, rfl, rfl, Or.inl rfl⟩, fun _ h => absurd h List.not_mem_nil⟩⟩
theorem mdX10_remembers : osMd yX10_remembers cX10_remembers 2 none 0 := ⟨wd2081, wd160, ⟨by decide +kernel, by decide +kernel⟩, by decide +kernel⟩
theorem sl8_X10_remembers_X10_remembers : osSl [8] yX10_remembers yX10_remembers := List.forall_mem_cons.mpr ⟨⟨_, rfl, wd115⟩, fun _ h => absurd h List.not_mem_nil⟩
theorem mdX10_decides : osMd yX10_decides cX10_decides 1 none 0 := ⟨wd2085, wd160, ⟨by decide +kernel, by decide +kernel⟩, by decide +kernel⟩
theorem sl8_X10_decides_X10_decides : osSl [8] yX10_decides yX10_decides := List.forall_mem_cons.mpr ⟨⟨_, rfl, wd116⟩, fun _ h => absurd h List.not_mem_nil⟩
theorem mdX10_leads : osMd yX10_leads cX10_leads 2 none 0 := ⟨wd2168, wd160, ⟨by decide +kernel, by decide +kernel⟩, by decide +kernel⟩
theorem sl8_X10_leads_X10_leads : osSl [8] yX10_leads yX10_leads := List.forall_mem_cons.mpr ⟨⟨_, rfl, wd136⟩, fun _ h => absurd h List.not_mem_nil⟩
theorem mdX10_contestedNow : osMd yX10_contestedNow cX10_contestedNow 4 (some .int) 0 := ⟨wd2172, wd160, ⟨by decide +kernel, by decide +kernel⟩, by decide +kernel⟩
theorem sl8_X10_contestedNow_X10_contestedNow : osSl [8] yX10_contestedNow yX10_contestedNow := List.forall_mem_cons.mpr ⟨⟨_, rfl, wd137⟩, fun _ h => absurd h List.not_mem_nil⟩
theorem mdX10_endsTurn : osMd yX10_endsTurn cX10_endsTurn 3 none 0 := ⟨wd2176, wd160, ⟨by decide +kernel, by decide +kernel⟩, by decide +kernel⟩
theorem sl8_X10_endsTurn_X10_endsTurn : osSl [8] yX10_endsTurn yX10_endsTurn := List.forall_mem_cons.mpr ⟨⟨_, rfl, wd138⟩, fun _ h => absurd h List.not_mem_nil⟩
theorem mdX10_said : osMd yX10_said cX10_said 6 (some .int) 2 := ⟨wd2160, wd160, ⟨by decide +kernel, by decide +kernel⟩, by decide +kernel⟩
theorem sl8_X10_said_X10_said : osSl [8] yX10_said yX10_said := List.forall_mem_cons.mpr ⟨⟨_, rfl, wd134⟩, fun _ h => absurd h List.not_mem_nil⟩
theorem mdX10_isAlone : osMd yX10_isAlone cX10_isAlone 3 (some .boolean) 1 := ⟨wd2204, wd160, ⟨by decide +kernel, by decide +kernel⟩, by decide +kernel⟩
theorem sl8_X10_isAlone_X10_isAlone : osSl [8] yX10_isAlone yX10_isAlone := List.forall_mem_cons.mpr ⟨⟨_, rfl, wd140⟩, fun _ h => absurd h List.not_mem_nil⟩
theorem mdX10_reaching : osMd yX10_reaching cX10_reaching 7 (some .int) 3 := ⟨wd2224, wd160, ⟨by decide +kernel, by decide +kernel⟩, by decide +kernel⟩
theorem sl8_X10_reaching_X10_reaching : osSl [8] yX10_reaching yX10_reaching := List.forall_mem_cons.mpr ⟨⟨_, rfl, wd141⟩, fun _ h => absurd h List.not_mem_nil⟩
theorem mdX10_allCenters : osMd yX10_allCenters cX10_allCenters 3 (some .int) 0 := ⟨wd2240, wd160, ⟨by decide +kernel, by decide +kernel⟩, by decide +kernel⟩
theorem sl8_X10_allCenters_X10_allCenters : osSl [8] yX10_allCenters yX10_allCenters := List.forall_mem_cons.mpr ⟨⟨_, rfl, wd143⟩, fun _ h => absurd h List.not_mem_nil⟩
theorem mdX10_shareOf : osMd yX10_shareOf cX10_shareOf 3 (some .float) 1 := ⟨wd2236, wd160, ⟨by decide +kernel, by decide +kernel⟩, by decide +kernel⟩
theorem sl8_X10_shareOf_X10_shareOf : osSl [8] yX10_shareOf yX10_shareOf := List.forall_mem_cons.mpr ⟨⟨_, rfl, wd142⟩, fun _ h => absurd h List.not_mem_nil⟩
theorem mdX10_unevenNow : osMd yX10_unevenNow cX10_unevenNow 7 (some .double) 0 := ⟨wd2253, wd160, ⟨by decide +kernel, by decide +kernel⟩, by decide +kernel⟩
theorem sl8_X10_unevenNow_X10_unevenNow : osSl [8] yX10_unevenNow yX10_unevenNow := List.forall_mem_cons.mpr ⟨⟨_, rfl, wd144⟩, fun _ h => absurd h List.not_mem_nil⟩
theorem mdX10_isAhead : osMd yX10_isAhead cX10_isAhead 4 (some .boolean) 2 := ⟨wd2268, wd160, ⟨by decide +kernel, by decide +kernel⟩, by decide +kernel⟩
theorem sl8_X10_isAhead_X10_isAhead : osSl [8] yX10_isAhead yX10_isAhead := List.forall_mem_cons.mpr ⟨⟨_, rfl, wd145⟩, fun _ h => absurd h List.not_mem_nil⟩
theorem fX10_73 : osFd RX10 73 [8] 41 (.array .int) true := ⟨"OrderSettlerModel", "output", "[I", wd1643, rfl, List.forall_mem_cons.mpr ⟨⟨RX10, TX10, 43, tyX10, rfl, osinX10, nmX10, tyX10_ok, (Nat.le_of_ble_eq_true rfl), rfl, rfl, rfl, Or.inl rfl⟩, fun _ h => absurd h List.not_mem_nil⟩⟩
theorem fX10_505 : osFd RX10 505 [8] 42 .int false := ⟨"OrderSettlerModel", "outputMany", "I", wd1644, rfl, List.forall_mem_cons.mpr ⟨⟨RX10, TX10, 43, tyX10, rfl, osinX10, nmX10, tyX10_ok, (Nat.le_of_ble_eq_true rfl), rfl, rfl, rfl, Or.inl rfl⟩, fun _ h => absurd h List.not_mem_nil⟩⟩
theorem mdX10_writes : osMd yX10_writes cX10_writes 2 none 1 := ⟨wd2281, wd160, ⟨by decide +kernel, by decide +kernel⟩, by decide +kernel⟩
theorem sl8_X10_writes_X10_writes : osSl [8] yX10_writes yX10_writes := List.forall_mem_cons.mpr ⟨⟨_, rfl, wd147⟩, fun _ h => absurd h List.not_mem_nil⟩
theorem mdX10_writesWord : osMd yX10_writesWord cX10_writesWord 5 none 1 := ⟨wd2276, wd160, ⟨by decide +kernel, by decide +kernel⟩, by decide +kernel⟩
theorem sl8_X10_writesWord_X10_writesWord : osSl [8] yX10_writesWord yX10_writesWord := List.forall_mem_cons.mpr ⟨⟨_, rfl, wd146⟩, fun _ h => absurd h List.not_mem_nil⟩
theorem mdX10_writesNext : osMd yX10_writesNext cX10_writesNext 3 none 1 := ⟨wd2285, wd160, ⟨by decide +kernel, by decide +kernel⟩, by decide +kernel⟩
theorem sl8_X10_writesNext_X10_writesNext : osSl [8] yX10_writesNext yX10_writesNext := List.forall_mem_cons.mpr ⟨⟨_, rfl, wd148⟩, fun _ h => absurd h List.not_mem_nil⟩
theorem mdX10_writesOrder : osMd yX10_writesOrder cX10_writesOrder 3 none 1 := ⟨wd2293, wd160, ⟨by decide +kernel, by decide +kernel⟩, by decide +kernel⟩
theorem sl8_X10_writesOrder_X10_writesOrder : osSl [8] yX10_writesOrder yX10_writesOrder := List.forall_mem_cons.mpr ⟨⟨_, rfl, wd149⟩, fun _ h => absurd h List.not_mem_nil⟩
theorem mdJ0_checkIndex_df160 : osMd yJ0_checkIndex_df160 cJ0_checkIndex_df160 2 none 2 := ⟨wd680, wd172, ⟨by decide +kernel, by decide +kernel⟩, by decide +kernel⟩
theorem mdX9_outputByte : osMd yX9_outputByte cX9_outputByte 2 (some .int) 1 := ⟨wd1564, wd151, ⟨by decide +kernel, by decide +kernel⟩, by decide +kernel⟩
theorem sl7_X9_outputByte_X9_outputByte : osSl [7] yX9_outputByte yX9_outputByte := List.forall_mem_cons.mpr ⟨⟨_, rfl, wd1563⟩, fun _ h => absurd h List.not_mem_nil⟩
theorem mdX0_clear : osMd yX0_clear cX0_clear 2 none 0 := ⟨wd387, wd158, ⟨by decide +kernel, by decide +kernel⟩, by decide +kernel⟩
theorem sl0_X0_clear_X0_clear : osSl [0] yX0_clear yX0_clear := List.forall_mem_cons.mpr ⟨⟨_, rfl, wd386⟩, fun _ h => absurd h List.not_mem_nil⟩
theorem mdX9_has : osMd yX9_has cX9_has 2 (some .boolean) 2 := ⟨wd922, wd151, ⟨by decide +kernel, by decide +kernel⟩, by decide +kernel⟩
theorem mdX9_bit : osMd yX9_bit cX9_bit 1 (some .int) 1 := ⟨wd885, wd151, ⟨by decide +kernel, by decide +kernel⟩, by decide +kernel⟩
theorem mdX0_bordersOf : osMd yX0_bordersOf cX0_bordersOf 3 (some .int) 2 := ⟨wd1241, wd158, ⟨by decide +kernel, by decide +kernel⟩, by decide +kernel⟩
theorem sl0_X0_bordersOf_X0_bordersOf : osSl [0] yX0_bordersOf yX0_bordersOf := List.forall_mem_cons.mpr ⟨⟨_, rfl, wd1240⟩, fun _ h => absurd h List.not_mem_nil⟩
theorem dfX2 : ∀ j, j < 16 → defaultValue (tyX2 j) = vp_V [.int 0, .int 0, .int 0, .int 0, .int 0, .int 0, .null, .null, .null, .null, .null, .null, .null, .null, .null, .null] j := by decide +kernel
theorem mdX2_init : osMd yX2_init cX2_init 1 none 0 := ⟨wd278, wd157, ⟨by decide +kernel, by decide +kernel⟩, by decide +kernel⟩
theorem fX1_12 : osFd RX1 12 [1] 0 (.object "OrderSettler$Links") true := ⟨"OrderSettler$Judge", "links", "LOrderSettler$Links;", wd346, rfl, List.forall_mem_cons.mpr ⟨⟨RX1, TX1, 8, tyX1, rfl, osinX1, nmX1, tyX1_ok, (Nat.le_of_ble_eq_true rfl), rfl, rfl, rfl, Or.inl rfl⟩, fun _ h => absurd h List.not_mem_nil⟩⟩
theorem fX1_18 : osFd RX1 18 [1] 1 .boolean false := ⟨"OrderSettler$Judge", "seaOpen", "Z", wd347, rfl, List.forall_mem_cons.mpr ⟨⟨RX1, TX1, 8, tyX1, rfl, osinX1, nmX1, tyX1_ok, (Nat.le_of_ble_eq_true rfl), rfl, rfl, rfl, Or.inl rfl⟩, fun _ h => absurd h List.not_mem_nil⟩⟩
theorem fX1_22 : osFd RX1 22 [1] 2 .int false := ⟨"OrderSettler$Judge", "paths", "I", wd348, rfl, List.forall_mem_cons.mpr ⟨⟨RX1, TX1, 8, tyX1, rfl, osinX1, nmX1, tyX1_ok, (Nat.le_of_ble_eq_true rfl), rfl, rfl, rfl, Or.inl rfl⟩, fun _ h => absurd h List.not_mem_nil⟩⟩
theorem fX1_26 : osFd RX1 26 [1] 3 .int false := ⟨"OrderSettler$Judge", "given", "I", wd349, rfl, List.forall_mem_cons.mpr ⟨⟨RX1, TX1, 8, tyX1, rfl, osinX1, nmX1, tyX1_ok, (Nat.le_of_ble_eq_true rfl), rfl, rfl, rfl, Or.inl rfl⟩, fun _ h => absurd h List.not_mem_nil⟩⟩
theorem fX1_29 : osFd RX1 29 [1] 4 .int false := ⟨"OrderSettler$Judge", "best", "I", wd350, rfl, List.forall_mem_cons.mpr ⟨⟨RX1, TX1, 8, tyX1, rfl, osinX1, nmX1, tyX1_ok, (Nat.le_of_ble_eq_true rfl), rfl, rfl, rfl, Or.inl rfl⟩, fun _ h => absurd h List.not_mem_nil⟩⟩
theorem fX1_32 : osFd RX1 32 [1] 5 .int false := ⟨"OrderSettler$Judge", "success", "I", wd351, rfl, List.forall_mem_cons.mpr ⟨⟨RX1, TX1, 8, tyX1, rfl, osinX1, nmX1, tyX1_ok, (Nat.le_of_ble_eq_true rfl), rfl, rfl, rfl, Or.inl rfl⟩, fun _ h => absurd h List.not_mem_nil⟩⟩
theorem fX1_35 : osFd RX1 35 [1] 6 .int false := ⟨"OrderSettler$Judge", "dislodged", "I", wd354, rfl, List.forall_mem_cons.mpr ⟨⟨RX1, TX1, 8, tyX1, rfl, osinX1, nmX1, tyX1_ok, (Nat.le_of_ble_eq_true rfl), rfl, rfl, rfl, Or.inl rfl⟩, fun _ h => absurd h List.not_mem_nil⟩⟩
theorem fX1_38 : osFd RX1 38 [1] 7 .int false := ⟨"OrderSettler$Judge", "outcomeCount", "I", wd357, rfl, List.forall_mem_cons.mpr ⟨⟨RX1, TX1, 8, tyX1, rfl, osinX1, nmX1, tyX1_ok, (Nat.le_of_ble_eq_true rfl), rfl, rfl, rfl, Or.inl rfl⟩, fun _ h => absurd h List.not_mem_nil⟩⟩
theorem fX1_86 : osFd RX1 86 [2] 12 (.array .int) true := ⟨"OrderSettler$Links", "carriers", "[I", wd305, rfl, List.forall_mem_cons.mpr ⟨⟨RX2, TX2, 16, tyX2, rfl, osinX2, nmX2, tyX2_ok, (Nat.le_of_ble_eq_true rfl), rfl, rfl, rfl, Or.inl rfl⟩, fun _ h => absurd h List.not_mem_nil⟩⟩
theorem mdX9_entry : osMd yX9_entry cX9_entry 2 (some .int) 2 := ⟨wd641, wd151, ⟨by decide +kernel, by decide +kernel⟩, by decide +kernel⟩
theorem fX1_106 : osFd RX1 106 [2] 13 (.array .int) true := ⟨"OrderSettler$Links", "boarding", "[I", wd307, rfl, List.forall_mem_cons.mpr ⟨⟨RX2, TX2, 16, tyX2, rfl, osinX2, nmX2, tyX2_ok, (Nat.le_of_ble_eq_true rfl), rfl, rfl, rfl, Or.inl rfl⟩, fun _ h => absurd h List.not_mem_nil⟩⟩
theorem fX1_112 : osFd RX1 112 [2] 14 (.array .int) true := ⟨"OrderSettler$Links", "landing", "[I", wd309, rfl, List.forall_mem_cons.mpr ⟨⟨RX2, TX2, 16, tyX2, rfl, osinX2, nmX2, tyX2_ok, (Nat.le_of_ble_eq_true rfl), rfl, rfl, rfl, Or.inl rfl⟩, fun _ h => absurd h List.not_mem_nil⟩⟩
theorem fX1_109 : osFd RX1 109 [2] 15 (.array .int) true := ⟨"OrderSettler$Links", "waters", "[I", wd311, rfl, List.forall_mem_cons.mpr ⟨⟨RX2, TX2, 16, tyX2, rfl, osinX2, nmX2, tyX2_ok, (Nat.le_of_ble_eq_true rfl), rfl, rfl, rfl, Or.inl rfl⟩, fun _ h => absurd h List.not_mem_nil⟩⟩
theorem fX1_127 : osFd RX1 127 [2] 8 (.array .int) true := ⟨"OrderSettler$Links", "backers", "[I", wd297, rfl, List.forall_mem_cons.mpr ⟨⟨RX2, TX2, 16, tyX2, rfl, osinX2, nmX2, tyX2_ok, (Nat.le_of_ble_eq_true rfl), rfl, rfl, rfl, Or.inl rfl⟩, fun _ h => absurd h List.not_mem_nil⟩⟩
theorem mdJ6_bitCount_0f7a4 : osMd yJ6_bitCount_0f7a4 cJ6_bitCount_0f7a4 1 (some .int) 1 := ⟨wd610, wd170, ⟨by decide +kernel, by decide +kernel⟩, by decide +kernel⟩
theorem fX1_76 : osFd RX1 76 [2] 6 (.array .int) true := ⟨"OrderSettler$Links", "goal", "[I", wd293, rfl, List.forall_mem_cons.mpr ⟨⟨RX2, TX2, 16, tyX2, rfl, osinX2, nmX2, tyX2_ok, (Nat.le_of_ble_eq_true rfl), rfl, rfl, rfl, Or.inl rfl⟩, fun _ h => absurd h List.not_mem_nil⟩⟩
theorem fX1_133 : osFd RX1 133 [2] 9 (.array .int) true := ⟨"OrderSettler$Links", "hosts", "[I", wd299, rfl, List.forall_mem_cons.mpr ⟨⟨RX2, TX2, 16, tyX2, rfl, osinX2, nmX2, tyX2_ok, (Nat.le_of_ble_eq_true rfl), rfl, rfl, rfl, Or.inl rfl⟩, fun _ h => absurd h List.not_mem_nil⟩⟩
theorem fX1_130 : osFd RX1 130 [2] 3 .int false := ⟨"OrderSettler$Links", "opposed", "I", wd287, rfl, List.forall_mem_cons.mpr ⟨⟨RX2, TX2, 16, tyX2, rfl, osinX2, nmX2, tyX2_ok, (Nat.le_of_ble_eq_true rfl), rfl, rfl, rfl, Or.inl rfl⟩, fun _ h => absurd h List.not_mem_nil⟩⟩
theorem fX1_80 : osFd RX1 80 [2] 0 .int false := ⟨"OrderSettler$Links", "units", "I", wd281, rfl, List.forall_mem_cons.mpr ⟨⟨RX2, TX2, 16, tyX2, rfl, osinX2, nmX2, tyX2_ok, (Nat.le_of_ble_eq_true rfl), rfl, rfl, rfl, Or.inl rfl⟩, fun _ h => absurd h List.not_mem_nil⟩⟩
theorem fX1_53 : osFd RX1 53 [2] 1 .int false := ⟨"OrderSettler$Links", "moves", "I", wd283, rfl, List.forall_mem_cons.mpr ⟨⟨RX2, TX2, 16, tyX2, rfl, osinX2, nmX2, tyX2_ok, (Nat.le_of_ble_eq_true rfl), rfl, rfl, rfl, Or.inl rfl⟩, fun _ h => absurd h List.not_mem_nil⟩⟩
theorem fX1_136 : osFd RX1 136 [2] 10 (.array .int) true := ⟨"OrderSettler$Links", "hostBackers", "[I", wd301, rfl, List.forall_mem_cons.mpr ⟨⟨RX2, TX2, 16, tyX2, rfl, osinX2, nmX2, tyX2_ok, (Nat.le_of_ble_eq_true rfl), rfl, rfl, rfl, Or.inl rfl⟩, fun _ h => absurd h List.not_mem_nil⟩⟩
theorem fX1_139 : osFd RX1 139 [2] 7 (.array .int) true := ⟨"OrderSettler$Links", "rivals", "[I", wd295, rfl, List.forall_mem_cons.mpr ⟨⟨RX2, TX2, 16, tyX2, rfl, osinX2, nmX2, tyX2_ok, (Nat.le_of_ble_eq_true rfl), rfl, rfl, rfl, Or.inl rfl⟩, fun _ h => absurd h List.not_mem_nil⟩⟩
theorem mdX1_strengthOf : osMd yX1_strengthOf cX1_strengthOf 2 (some .int) 1 := ⟨wd1362, wd156, ⟨by decide +kernel, by decide +kernel⟩, by decide +kernel⟩
theorem sl1_X1_strengthOf_X1_strengthOf : osSl [1] yX1_strengthOf yX1_strengthOf := List.forall_mem_cons.mpr ⟨⟨_, rfl, wd47⟩, fun _ h => absurd h List.not_mem_nil⟩
theorem fX1_83 : osFd RX1 83 [2] 2 .int false := ⟨"OrderSettler$Links", "direct", "I", wd285, rfl, List.forall_mem_cons.mpr ⟨⟨RX2, TX2, 16, tyX2, rfl, osinX2, nmX2, tyX2_ok, (Nat.le_of_ble_eq_true rfl), rfl, rfl, rfl, Or.inl rfl⟩, fun _ h => absurd h List.not_mem_nil⟩⟩
theorem fX1_157 : osFd RX1 157 [2] 4 .int false := ⟨"OrderSettler$Links", "supporting", "I", wd289, rfl, List.forall_mem_cons.mpr ⟨⟨RX2, TX2, 16, tyX2, rfl, osinX2, nmX2, tyX2_ok, (Nat.le_of_ble_eq_true rfl), rfl, rfl, rfl, Or.inl rfl⟩, fun _ h => absurd h List.not_mem_nil⟩⟩
theorem mdX1_attackOf : osMd yX1_attackOf cX1_attackOf 5 (some .int) 1 := ⟨wd1350, wd156, ⟨by decide +kernel, by decide +kernel⟩, by decide +kernel⟩
theorem sl1_X1_attackOf_X1_attackOf : osSl [1] yX1_attackOf yX1_attackOf := List.forall_mem_cons.mpr ⟨⟨_, rfl, wd44⟩, fun _ h => absurd h List.not_mem_nil⟩
theorem mdX1_resistanceTo : osMd yX1_resistanceTo cX1_resistanceTo 3 (some .int) 1 := ⟨wd1354, wd156, ⟨by decide +kernel, by decide +kernel⟩, by decide +kernel⟩
theorem sl1_X1_resistanceTo_X1_resistanceTo : osSl [1] yX1_resistanceTo yX1_resistanceTo := List.forall_mem_cons.mpr ⟨⟨_, rfl, wd45⟩, fun _ h => absurd h List.not_mem_nil⟩
theorem fX2_80 : osFd RX2 80 [5] 12 (.array .int) true := ⟨"OrderSettler$State", "orderKind", "[I", wd486, rfl, List.forall_mem_cons.mpr ⟨⟨RX5, TX5, 16, tyX5, rfl, osinX5, nmX5, tyX5_ok, (Nat.le_of_ble_eq_true rfl), rfl, rfl, rfl, Or.inl rfl⟩, fun _ h => absurd h List.not_mem_nil⟩⟩
theorem fX2_101 : osFd RX2 101 [5] 13 (.array .int) true := ⟨"OrderSettler$State", "orderFirst", "[I", wd489, rfl, List.forall_mem_cons.mpr ⟨⟨RX5, TX5, 16, tyX5, rfl, osinX5, nmX5, tyX5_ok, (Nat.le_of_ble_eq_true rfl), rfl, rfl, rfl, Or.inl rfl⟩, fun _ h => absurd h List.not_mem_nil⟩⟩
theorem fX2_112 : osFd RX2 112 [5] 14 (.array .int) true := ⟨"OrderSettler$State", "orderSecond", "[I", wd492, rfl, List.forall_mem_cons.mpr ⟨⟨RX5, TX5, 16, tyX5, rfl, osinX5, nmX5, tyX5_ok, (Nat.le_of_ble_eq_true rfl), rfl, rfl, rfl, Or.inl rfl⟩, fun _ h => absurd h List.not_mem_nil⟩⟩
theorem fX2_115 : osFd RX2 115 [5] 6 (.array .int) true := ⟨"OrderSettler$State", "unitPower", "[I", wd474, rfl, List.forall_mem_cons.mpr ⟨⟨RX5, TX5, 16, tyX5, rfl, osinX5, nmX5, tyX5_ok, (Nat.le_of_ble_eq_true rfl), rfl, rfl, rfl, Or.inl rfl⟩, fun _ h => absurd h List.not_mem_nil⟩⟩
theorem mdX5_giveOrder : osMd yX5_giveOrder cX5_giveOrder 5 none 4 := ⟨wd459, wd159, ⟨by decide +kernel, by decide +kernel⟩, by decide +kernel⟩
theorem sl5_X5_giveOrder_X5_giveOrder : osSl [5] yX5_giveOrder yX5_giveOrder := List.forall_mem_cons.mpr ⟨⟨_, rfl, wd458⟩, fun _ h => absurd h List.not_mem_nil⟩
theorem fX5_9 : osFd RX5 9 [5] 0 .int false := ⟨"OrderSettler$State", "phase", "I", wd460, rfl, List.forall_mem_cons.mpr ⟨⟨RX5, TX5, 16, tyX5, rfl, osinX5, nmX5, tyX5_ok, (Nat.le_of_ble_eq_true rfl), rfl, rfl, rfl, Or.inl rfl⟩, fun _ h => absurd h List.not_mem_nil⟩⟩
theorem fX5_15 : osFd RX5 15 [5] 1 .int false := ⟨"OrderSettler$State", "turn", "I", wd463, rfl, List.forall_mem_cons.mpr ⟨⟨RX5, TX5, 16, tyX5, rfl, osinX5, nmX5, tyX5_ok, (Nat.le_of_ble_eq_true rfl), rfl, rfl, rfl, Or.inl rfl⟩, fun _ h => absurd h List.not_mem_nil⟩⟩
theorem fX5_18 : osFd RX5 18 [5] 2 .boolean false := ⟨"OrderSettler$State", "settled", "Z", wd465, rfl, List.forall_mem_cons.mpr ⟨⟨RX5, TX5, 16, tyX5, rfl, osinX5, nmX5, tyX5_ok, (Nat.le_of_ble_eq_true rfl), rfl, rfl, rfl, Or.inl rfl⟩, fun _ h => absurd h List.not_mem_nil⟩⟩
theorem fX5_22 : osFd RX5 22 [5] 3 .int false := ⟨"OrderSettler$State", "outcomeCount", "I", wd467, rfl, List.forall_mem_cons.mpr ⟨⟨RX5, TX5, 16, tyX5, rfl, osinX5, nmX5, tyX5_ok, (Nat.le_of_ble_eq_true rfl), rfl, rfl, rfl, Or.inl rfl⟩, fun _ h => absurd h List.not_mem_nil⟩⟩
theorem fX5_25 : osFd RX5 25 [5] 4 .int false := ⟨"OrderSettler$State", "contested", "I", wd469, rfl, List.forall_mem_cons.mpr ⟨⟨RX5, TX5, 16, tyX5, rfl, osinX5, nmX5, tyX5_ok, (Nat.le_of_ble_eq_true rfl), rfl, rfl, rfl, Or.inl rfl⟩, fun _ h => absurd h List.not_mem_nil⟩⟩
theorem mdX5_copyRow : osMd yX5_copyRow cX5_copyRow 2 none 2 := ⟨wd1007, wd159, ⟨by decide +kernel, by decide +kernel⟩, by decide +kernel⟩
theorem fX5_59 : osFd RX5 59 [5] 15 (.array .int) true := ⟨"OrderSettler$State", "results", "[I", wd494, rfl, List.forall_mem_cons.mpr ⟨⟨RX5, TX5, 16, tyX5, rfl, osinX5, nmX5, tyX5_ok, (Nat.le_of_ble_eq_true rfl), rfl, rfl, rfl, Or.inl rfl⟩, fun _ h => absurd h List.not_mem_nil⟩⟩
theorem mdX5_countOf : osMd yX5_countOf cX5_countOf 4 (some .int) 2 := ⟨wd620, wd159, ⟨by decide +kernel, by decide +kernel⟩, by decide +kernel⟩
theorem mdX5_countCenters : osMd yX5_countCenters cX5_countCenters 2 (some .int) 1 := ⟨wd617, wd159, ⟨by decide +kernel, by decide +kernel⟩, by decide +kernel⟩
theorem sl5_X5_countCenters_X5_countCenters : osSl [5] yX5_countCenters yX5_countCenters := List.forall_mem_cons.mpr ⟨⟨_, rfl, wd616⟩, fun _ h => absurd h List.not_mem_nil⟩
theorem mdX5_countUnits : osMd yX5_countUnits cX5_countUnits 2 (some .int) 1 := ⟨wd1139, wd159, ⟨by decide +kernel, by decide +kernel⟩, by decide +kernel⟩
theorem sl5_X5_countUnits_X5_countUnits : osSl [5] yX5_countUnits yX5_countUnits := List.forall_mem_cons.mpr ⟨⟨_, rfl, wd1138⟩, fun _ h => absurd h List.not_mem_nil⟩
theorem mdX5_freeHomes : osMd yX5_freeHomes cX5_freeHomes 5 (some .int) 2 := ⟨wd1130, wd159, ⟨by decide +kernel, by decide +kernel⟩, by decide +kernel⟩
theorem sl5_X5_freeHomes_X5_freeHomes : osSl [5] yX5_freeHomes yX5_freeHomes := List.forall_mem_cons.mpr ⟨⟨_, rfl, wd25⟩, fun _ h => absurd h List.not_mem_nil⟩
theorem mdX5_countAllUnits : osMd yX5_countAllUnits cX5_countAllUnits 1 (some .int) 0 := ⟨wd972, wd159, ⟨by decide +kernel, by decide +kernel⟩, by decide +kernel⟩
theorem sl5_X5_countAllUnits_X5_countAllUnits : osSl [5] yX5_countAllUnits yX5_countAllUnits := List.forall_mem_cons.mpr ⟨⟨_, rfl, wd971⟩, fun _ h => absurd h List.not_mem_nil⟩
theorem mdX5_hasUnit : osMd yX5_hasUnit cX5_hasUnit 2 (some .boolean) 1 := ⟨wd638, wd159, ⟨by decide +kernel, by decide +kernel⟩, by decide +kernel⟩
theorem sl5_X5_hasUnit_X5_hasUnit : osSl [5] yX5_hasUnit yX5_hasUnit := List.forall_mem_cons.mpr ⟨⟨_, rfl, wd637⟩, fun _ h => absurd h List.not_mem_nil⟩
theorem mdX5_canGo : osMd yX5_canGo cX5_canGo 5 (some .boolean) 3 := ⟨wd1056, wd159, ⟨by decide +kernel, by decide +kernel⟩, by decide +kernel⟩
theorem sl5_X5_canGo_X5_canGo : osSl [5] yX5_canGo yX5_canGo := List.forall_mem_cons.mpr ⟨⟨_, rfl, wd1055⟩, fun _ h => absurd h List.not_mem_nil⟩
theorem fX5_151 : osFd RX5 151 [0] 2 .int false := ⟨"OrderSettler$Board", "coasts", "I", wd396, rfl, List.forall_mem_cons.mpr ⟨⟨RX0, TX0, 10, tyX0, rfl, osinX0, nmX0, tyX0_ok, (Nat.le_of_ble_eq_true rfl), rfl, rfl, rfl, Or.inl rfl⟩, fun _ h => absurd h List.not_mem_nil⟩⟩
theorem mdX5_hasDislodged : osMd yX5_hasDislodged cX5_hasDislodged 2 (some .boolean) 1 := ⟨wd1105, wd159, ⟨by decide +kernel, by decide +kernel⟩, by decide +kernel⟩
theorem sl5_X5_hasDislodged_X5_hasDislodged : osSl [5] yX5_hasDislodged yX5_hasDislodged := List.forall_mem_cons.mpr ⟨⟨_, rfl, wd1104⟩, fun _ h => absurd h List.not_mem_nil⟩
theorem mdX5_countBuilds : osMd yX5_countBuilds cX5_countBuilds 5 (some .int) 2 := ⟨wd1134, wd159, ⟨by decide +kernel, by decide +kernel⟩, by decide +kernel⟩
theorem sl5_X5_countBuilds_X5_countBuilds : osSl [5] yX5_countBuilds yX5_countBuilds := List.forall_mem_cons.mpr ⟨⟨_, rfl, wd1133⟩, fun _ h => absurd h List.not_mem_nil⟩
theorem mdX5_clearDislodged : osMd yX5_clearDislodged cX5_clearDislodged 2 none 0 := ⟨wd451, wd159, ⟨by decide +kernel, by decide +kernel⟩, by decide +kernel⟩
theorem sl5_X5_clearDislodged_X5_clearDislodged : osSl [5] yX5_clearDislodged yX5_clearDislodged := List.forall_mem_cons.mpr ⟨⟨_, rfl, wd3⟩, fun _ h => absurd h List.not_mem_nil⟩
theorem mdX5_placeUnit : osMd yX5_placeUnit cX5_placeUnit 4 none 3 := ⟨wd977, wd159, ⟨by decide +kernel, by decide +kernel⟩, by decide +kernel⟩
theorem sl5_X5_placeUnit_X5_placeUnit : osSl [5] yX5_placeUnit yX5_placeUnit := List.forall_mem_cons.mpr ⟨⟨_, rfl, wd976⟩, fun _ h => absurd h List.not_mem_nil⟩
theorem mdX5_holdAll : osMd yX5_holdAll cX5_holdAll 2 none 0 := ⟨wd455, wd159, ⟨by decide +kernel, by decide +kernel⟩, by decide +kernel⟩
theorem sl5_X5_holdAll_X5_holdAll : osSl [5] yX5_holdAll yX5_holdAll := List.forall_mem_cons.mpr ⟨⟨_, rfl, wd4⟩, fun _ h => absurd h List.not_mem_nil⟩
theorem mdX5_needsRemoval : osMd yX5_needsRemoval cX5_needsRemoval 2 (some .boolean) 1 := ⟨wd1156, wd159, ⟨by decide +kernel, by decide +kernel⟩, by decide +kernel⟩
theorem sl5_X5_needsRemoval_X5_needsRemoval : osSl [5] yX5_needsRemoval yX5_needsRemoval := List.forall_mem_cons.mpr ⟨⟨_, rfl, wd1155⟩, fun _ h => absurd h List.not_mem_nil⟩
theorem mdX6_advance : osMd yX6_advance cX6_advance 2 none 0 := ⟨wd832, wd153, ⟨by decide +kernel, by decide +kernel⟩, by decide +kernel⟩
theorem sl3_6_X6_advance_X6_advance : osSl [3, 6] yX6_advance yX6_advance := List.forall_mem_cons.mpr ⟨⟨_, rfl, wd0⟩, List.forall_mem_cons.mpr ⟨⟨_, rfl, wd1⟩, fun _ h => absurd h List.not_mem_nil⟩⟩
theorem mdX6_take : osMd yX6_take cX6_take 2 (some .boolean) 1 := ⟨wd850, wd153, ⟨by decide +kernel, by decide +kernel⟩, by decide +kernel⟩
theorem sl3_6_X6_take_X6_take : osSl [3, 6] yX6_take yX6_take := List.forall_mem_cons.mpr ⟨⟨_, rfl, wd2308⟩, List.forall_mem_cons.mpr ⟨⟨_, rfl, wd2309⟩, fun _ h => absurd h List.not_mem_nil⟩⟩
theorem mdX6_fail : osMd yX6_fail cX6_fail 3 (some .boolean) 2 := ⟨wd860, wd153, ⟨by decide +kernel, by decide +kernel⟩, by decide +kernel⟩
theorem sl3_6_X6_fail_X6_fail : osSl [3, 6] yX6_fail yX6_fail := List.forall_mem_cons.mpr ⟨⟨_, rfl, wd2302⟩, List.forall_mem_cons.mpr ⟨⟨_, rfl, wd2303⟩, fun _ h => absurd h List.not_mem_nil⟩⟩
theorem mdX8_isKeyword : osMd yX8_isKeyword cX8_isKeyword 3 (some .boolean) 1 := ⟨wd869, wd168, ⟨by decide +kernel, by decide +kernel⟩, by decide +kernel⟩
theorem mdX6_takeName : osMd yX6_takeName cX6_takeName 2 (some .int) 0 := ⟨wd866, wd153, ⟨by decide +kernel, by decide +kernel⟩, by decide +kernel⟩
theorem sl3_6_X6_takeName_X6_takeName : osSl [3, 6] yX6_takeName yX6_takeName := List.forall_mem_cons.mpr ⟨⟨_, rfl, wd2305⟩, List.forall_mem_cons.mpr ⟨⟨_, rfl, wd2306⟩, fun _ h => absurd h List.not_mem_nil⟩⟩
theorem mdX0_findArea : osMd yX0_findArea cX0_findArea 3 (some .int) 1 := ⟨wd876, wd158, ⟨by decide +kernel, by decide +kernel⟩, by decide +kernel⟩
theorem sl0_X0_findArea_X0_findArea : osSl [0] yX0_findArea yX0_findArea := List.forall_mem_cons.mpr ⟨⟨_, rfl, wd875⟩, fun _ h => absurd h List.not_mem_nil⟩
theorem mdX6_takeArea : osMd yX6_takeArea cX6_takeArea 4 (some .int) 1 := ⟨wd901, wd153, ⟨by decide +kernel, by decide +kernel⟩, by decide +kernel⟩
theorem sl6_X7itakeArea_X6_takeArea : osSl [6] (⟨RX7, "takeArea", "(LOrderSettler$Board;)I"⟩ : MethodName) yX6_takeArea := List.forall_mem_cons.mpr ⟨⟨_, rfl, wd1032⟩, fun _ h => absurd h List.not_mem_nil⟩
theorem sl6_X7itake_X6_take : osSl [6] (⟨RX7, "take", "(LOrderSettler$Word;)Z"⟩ : MethodName) yX6_take := List.forall_mem_cons.mpr ⟨⟨_, rfl, wd1041⟩, fun _ h => absurd h List.not_mem_nil⟩
theorem mdX5_allowsMoveSupport : osMd yX5_allowsMoveSupport cX5_allowsMoveSupport 5 (some .boolean) 4 := ⟨wd1080, wd159, ⟨by decide +kernel, by decide +kernel⟩, by decide +kernel⟩
theorem sl5_X5_allowsMoveSupport_X5_allowsMoveSupport : osSl [5] yX5_allowsMoveSupport yX5_allowsMoveSupport := List.forall_mem_cons.mpr ⟨⟨_, rfl, wd1079⟩, fun _ h => absurd h List.not_mem_nil⟩
theorem fX7_68 : osFd RX7 68 [6] 7 .int false := ⟨"OrderSettler$TurnReader", "nameStart", "I", wd222, rfl, List.forall_mem_cons.mpr ⟨⟨RX7, TX7, 10, tyX7, rfl, osinX7, nmX7, tyX7_ok, (Nat.le_of_ble_eq_true rfl), rfl, rfl, rfl, Or.inr wd223⟩, fun _ h => absurd h List.not_mem_nil⟩⟩
theorem sl6_X7ifail_X6_fail : osSl [6] (⟨RX7, "fail", "(II)Z"⟩ : MethodName) yX6_fail := List.forall_mem_cons.mpr ⟨⟨_, rfl, wd1036⟩, fun _ h => absurd h List.not_mem_nil⟩
theorem mdX5_allowsUnitSupport : osMd yX5_allowsUnitSupport cX5_allowsUnitSupport 4 (some .boolean) 3 := ⟨wd1075, wd159, ⟨by decide +kernel, by decide +kernel⟩, by decide +kernel⟩
theorem sl5_X5_allowsUnitSupport_X5_allowsUnitSupport : osSl [5] yX5_allowsUnitSupport yX5_allowsUnitSupport := List.forall_mem_cons.mpr ⟨⟨_, rfl, wd1074⟩, fun _ h => absurd h List.not_mem_nil⟩
theorem mdX6_takeOrFail : osMd yX6_takeOrFail cX6_takeOrFail 2 (some .boolean) 1 := ⟨wd1088, wd153, ⟨by decide +kernel, by decide +kernel⟩, by decide +kernel⟩
theorem sl6_X7itakeOrFail_X6_takeOrFail : osSl [6] (⟨RX7, "takeOrFail", "(LOrderSettler$Word;)Z"⟩ : MethodName) yX6_takeOrFail := List.forall_mem_cons.mpr ⟨⟨_, rfl, wd1086⟩, fun _ h => absurd h List.not_mem_nil⟩
theorem mdX5_allowsRetreat : osMd yX5_allowsRetreat cX5_allowsRetreat 4 (some .boolean) 3 := ⟨wd1115, wd159, ⟨by decide +kernel, by decide +kernel⟩, by decide +kernel⟩
theorem sl5_X5_allowsRetreat_X5_allowsRetreat : osSl [5] yX5_allowsRetreat yX5_allowsRetreat := List.forall_mem_cons.mpr ⟨⟨_, rfl, wd1114⟩, fun _ h => absurd h List.not_mem_nil⟩
theorem mdX5_giveRetreat : osMd yX5_giveRetreat cX5_giveRetreat 3 none 2 := ⟨wd1111, wd159, ⟨by decide +kernel, by decide +kernel⟩, by decide +kernel⟩
theorem sl5_X5_giveRetreat_X5_giveRetreat : osSl [5] yX5_giveRetreat yX5_giveRetreat := List.forall_mem_cons.mpr ⟨⟨_, rfl, wd1110⟩, fun _ h => absurd h List.not_mem_nil⟩
theorem mdX5_allowsBuild : osMd yX5_allowsBuild cX5_allowsBuild 4 (some .boolean) 2 := ⟨wd1126, wd159, ⟨by decide +kernel, by decide +kernel⟩, by decide +kernel⟩
theorem sl5_X5_allowsBuild_X5_allowsBuild : osSl [5] yX5_allowsBuild yX5_allowsBuild := List.forall_mem_cons.mpr ⟨⟨_, rfl, wd1125⟩, fun _ h => absurd h List.not_mem_nil⟩
theorem fX7_132 : osFd RX7 132 [6] 6 .int false := ⟨"OrderSettler$TurnReader", "start", "I", wd219, rfl, List.forall_mem_cons.mpr ⟨⟨RX7, TX7, 10, tyX7, rfl, osinX7, nmX7, tyX7_ok, (Nat.le_of_ble_eq_true rfl), rfl, rfl, rfl, Or.inr wd220⟩, fun _ h => absurd h List.not_mem_nil⟩⟩
theorem mdX0_suits : osMd yX0_suits cX0_suits 3 (some .boolean) 2 := ⟨wd919, wd158, ⟨by decide +kernel, by decide +kernel⟩, by decide +kernel⟩
theorem sl0_X0_suits_X0_suits : osSl [0] yX0_suits yX0_suits := List.forall_mem_cons.mpr ⟨⟨_, rfl, wd918⟩, fun _ h => absurd h List.not_mem_nil⟩
theorem fX7_146 : osFd RX7 146 [0] 6 (.array .int) true := ⟨"OrderSettler$Board", "home", "[I", wd408, rfl, List.forall_mem_cons.mpr ⟨⟨RX0, TX0, 10, tyX0, rfl, osinX0, nmX0, tyX0_ok, (Nat.le_of_ble_eq_true rfl), rfl, rfl, rfl, Or.inl rfl⟩, fun _ h => absurd h List.not_mem_nil⟩⟩
theorem fX7_158 : osFd RX7 158 [5] 6 (.array .int) true := ⟨"OrderSettler$State", "unitPower", "[I", wd476, rfl, List.forall_mem_cons.mpr ⟨⟨RX5, TX5, 16, tyX5, rfl, osinX5, nmX5, tyX5_ok, (Nat.le_of_ble_eq_true rfl), rfl, rfl, rfl, Or.inl rfl⟩, fun _ h => absurd h List.not_mem_nil⟩⟩
theorem mdX9_append : osMd yX9_append cX9_append 3 none 1 := ⟨wd785, wd151, ⟨by decide +kernel, by decide +kernel⟩, by decide +kernel⟩
theorem sl7_X9_append_X9_append : osSl [7] yX9_append yX9_append := List.forall_mem_cons.mpr ⟨⟨_, rfl, wd7⟩, fun _ h => absurd h List.not_mem_nil⟩
theorem mdX9_requireArea : osMd yX9_requireArea cX9_requireArea 2 none 1 := ⟨wd1172, wd151, ⟨by decide +kernel, by decide +kernel⟩, by decide +kernel⟩
theorem sl7_X9_requireArea_X9_requireArea : osSl [7] yX9_requireArea yX9_requireArea := List.forall_mem_cons.mpr ⟨⟨_, rfl, wd27⟩, fun _ h => absurd h List.not_mem_nil⟩
theorem mdX9_requireReport : osMd yX9_requireReport cX9_requireReport 3 none 2 := ⟨wd1193, wd151, ⟨by decide +kernel, by decide +kernel⟩, by decide +kernel⟩
theorem sl7_X9_requireReport_X9_requireReport : osSl [7] yX9_requireReport yX9_requireReport := List.forall_mem_cons.mpr ⟨⟨_, rfl, wd28⟩, fun _ h => absurd h List.not_mem_nil⟩
theorem mdX0_kindOf : osMd yX0_kindOf cX0_kindOf 2 (some .int) 1 := ⟨wd1198, wd158, ⟨by decide +kernel, by decide +kernel⟩, by decide +kernel⟩
theorem sl0_X0_kindOf_X0_kindOf : osSl [0] yX0_kindOf yX0_kindOf := List.forall_mem_cons.mpr ⟨⟨_, rfl, wd1197⟩, fun _ h => absurd h List.not_mem_nil⟩
theorem fX9_136 : osFd RX9 136 [0] 4 .int false := ⟨"OrderSettler$Board", "centers", "I", wd401, rfl, List.forall_mem_cons.mpr ⟨⟨RX0, TX0, 10, tyX0, rfl, osinX0, nmX0, tyX0_ok, (Nat.le_of_ble_eq_true rfl), rfl, rfl, rfl, Or.inl rfl⟩, fun _ h => absurd h List.not_mem_nil⟩⟩
theorem fX9_143 : osFd RX9 143 [0] 6 (.array .int) true := ⟨"OrderSettler$Board", "home", "[I", wd407, rfl, List.forall_mem_cons.mpr ⟨⟨RX0, TX0, 10, tyX0, rfl, osinX0, nmX0, tyX0_ok, (Nat.le_of_ble_eq_true rfl), rfl, rfl, rfl, Or.inl rfl⟩, fun _ h => absurd h List.not_mem_nil⟩⟩
theorem fX9_151 : osFd RX9 151 [5] 5 (.array .int) true := ⟨"OrderSettler$State", "owner", "[I", wd472, rfl, List.forall_mem_cons.mpr ⟨⟨RX5, TX5, 16, tyX5, rfl, osinX5, nmX5, tyX5_ok, (Nat.le_of_ble_eq_true rfl), rfl, rfl, rfl, Or.inl rfl⟩, fun _ h => absurd h List.not_mem_nil⟩⟩
theorem fX9_154 : osFd RX9 154 [5] 6 (.array .int) true := ⟨"OrderSettler$State", "unitPower", "[I", wd475, rfl, List.forall_mem_cons.mpr ⟨⟨RX5, TX5, 16, tyX5, rfl, osinX5, nmX5, tyX5_ok, (Nat.le_of_ble_eq_true rfl), rfl, rfl, rfl, Or.inl rfl⟩, fun _ h => absurd h List.not_mem_nil⟩⟩
theorem fX9_157 : osFd RX9 157 [5] 7 (.array .int) true := ⟨"OrderSettler$State", "unitKind", "[I", wd478, rfl, List.forall_mem_cons.mpr ⟨⟨RX5, TX5, 16, tyX5, rfl, osinX5, nmX5, tyX5_ok, (Nat.le_of_ble_eq_true rfl), rfl, rfl, rfl, Or.inl rfl⟩, fun _ h => absurd h List.not_mem_nil⟩⟩
theorem fX9_160 : osFd RX9 160 [5] 8 (.array .int) true := ⟨"OrderSettler$State", "outPower", "[I", wd480, rfl, List.forall_mem_cons.mpr ⟨⟨RX5, TX5, 16, tyX5, rfl, osinX5, nmX5, tyX5_ok, (Nat.le_of_ble_eq_true rfl), rfl, rfl, rfl, Or.inl rfl⟩, fun _ h => absurd h List.not_mem_nil⟩⟩
theorem fX9_163 : osFd RX9 163 [5] 9 (.array .int) true := ⟨"OrderSettler$State", "outKind", "[I", wd482, rfl, List.forall_mem_cons.mpr ⟨⟨RX5, TX5, 16, tyX5, rfl, osinX5, nmX5, tyX5_ok, (Nat.le_of_ble_eq_true rfl), rfl, rfl, rfl, Or.inl rfl⟩, fun _ h => absurd h List.not_mem_nil⟩⟩
theorem mdX0_countBorders : osMd yX0_countBorders cX0_countBorders 8 (some .int) 3 := ⟨wd1237, wd158, ⟨by decide +kernel, by decide +kernel⟩, by decide +kernel⟩
theorem sl0_X0_countBorders_X0_countBorders : osSl [0] yX0_countBorders yX0_countBorders := List.forall_mem_cons.mpr ⟨⟨_, rfl, wd1236⟩, fun _ h => absurd h List.not_mem_nil⟩
theorem mdX9_requirePower : osMd yX9_requirePower cX9_requirePower 2 none 1 := ⟨wd1252, wd151, ⟨by decide +kernel, by decide +kernel⟩, by decide +kernel⟩
theorem sl7_X9_requirePower_X9_requirePower : osSl [7] yX9_requirePower yX9_requirePower := List.forall_mem_cons.mpr ⟨⟨_, rfl, wd30⟩, fun _ h => absurd h List.not_mem_nil⟩
theorem mdX0_countHomes : osMd yX0_countHomes cX0_countHomes 4 (some .int) 1 := ⟨wd1258, wd158, ⟨by decide +kernel, by decide +kernel⟩, by decide +kernel⟩
theorem sl0_X0_countHomes_X0_countHomes : osSl [0] yX0_countHomes yX0_countHomes := List.forall_mem_cons.mpr ⟨⟨_, rfl, wd1257⟩, fun _ h => absurd h List.not_mem_nil⟩
theorem mdX9_requireSettled : osMd yX9_requireSettled cX9_requireSettled 1 none 0 := ⟨wd1414, wd151, ⟨by decide +kernel, by decide +kernel⟩, by decide +kernel⟩
theorem sl7_X9_requireSettled_X9_requireSettled : osSl [7] yX9_requireSettled yX9_requireSettled := List.forall_mem_cons.mpr ⟨⟨_, rfl, wd50⟩, fun _ h => absurd h List.not_mem_nil⟩
theorem fX9_251 : osFd RX9 251 [5] 15 (.array .int) true := ⟨"OrderSettler$State", "results", "[I", wd495, rfl, List.forall_mem_cons.mpr ⟨⟨RX5, TX5, 16, tyX5, rfl, osinX5, nmX5, tyX5_ok, (Nat.le_of_ble_eq_true rfl), rfl, rfl, rfl, Or.inl rfl⟩, fun _ h => absurd h List.not_mem_nil⟩⟩
theorem fX9_254 : osFd RX9 254 [5] 3 .int false := ⟨"OrderSettler$State", "outcomeCount", "I", wd468, rfl, List.forall_mem_cons.mpr ⟨⟨RX5, TX5, 16, tyX5, rfl, osinX5, nmX5, tyX5_ok, (Nat.le_of_ble_eq_true rfl), rfl, rfl, rfl, Or.inl rfl⟩, fun _ h => absurd h List.not_mem_nil⟩⟩
theorem fX9_257 : osFd RX9 257 [5] 4 .int false := ⟨"OrderSettler$State", "contested", "I", wd470, rfl, List.forall_mem_cons.mpr ⟨⟨RX5, TX5, 16, tyX5, rfl, osinX5, nmX5, tyX5_ok, (Nat.le_of_ble_eq_true rfl), rfl, rfl, rfl, Or.inl rfl⟩, fun _ h => absurd h List.not_mem_nil⟩⟩
theorem fX9_53 : osFd RX9 53 [7] 8 (.array (.object "OrderSettler$State")) true := ⟨"OrderSettler", "past", "[LOrderSettler$State;", wd537, rfl, List.forall_mem_cons.mpr ⟨⟨RX9, TX9, 14, tyX9, rfl, osinX9, nmX9, tyX9_ok, (Nat.le_of_ble_eq_true rfl), rfl, rfl, rfl, Or.inl rfl⟩, fun _ h => absurd h List.not_mem_nil⟩⟩
theorem mdX5_copyFrom : osMd yX5_copyFrom cX5_copyFrom 2 none 1 := ⟨wd1004, wd159, ⟨by decide +kernel, by decide +kernel⟩, by decide +kernel⟩
theorem sl5_X5_copyFrom_X5_copyFrom : osSl [5] yX5_copyFrom yX5_copyFrom := List.forall_mem_cons.mpr ⟨⟨_, rfl, wd1003⟩, fun _ h => absurd h List.not_mem_nil⟩
theorem mdX9_isLetter : osMd yX9_isLetter cX9_isLetter 1 (some .boolean) 1 := ⟨wd1213, wd151, ⟨by decide +kernel, by decide +kernel⟩, by decide +kernel⟩
theorem mdX9_letterNumber : osMd yX9_letterNumber cX9_letterNumber 1 (some .int) 1 := ⟨wd1216, wd151, ⟨by decide +kernel, by decide +kernel⟩, by decide +kernel⟩
theorem mdX10_lays : osMd yX10_lays cX10_lays 3 none 1 := ⟨wd1749, wd160, ⟨by decide +kernel, by decide +kernel⟩, by decide +kernel⟩
theorem sl8_X10_lays_X10_lays : osSl [8] yX10_lays yX10_lays := List.forall_mem_cons.mpr ⟨⟨_, rfl, wd58⟩, fun _ h => absurd h List.not_mem_nil⟩
theorem mdX10_joins : osMd yX10_joins cX10_joins 4 none 3 := ⟨wd1866, wd160, ⟨by decide +kernel, by decide +kernel⟩, by decide +kernel⟩
theorem sl8_X10_joins_X10_joins : osSl [8] yX10_joins yX10_joins := List.forall_mem_cons.mpr ⟨⟨_, rfl, wd77⟩, fun _ h => absurd h List.not_mem_nil⟩
theorem mdX10_readNewArea : osMd yX10_readNewArea cX10_readNewArea 3 (some .boolean) 1 := ⟨wd1816, wd160, ⟨by decide +kernel, by decide +kernel⟩, by decide +kernel⟩
theorem sl8_X10_readNewArea_X10_readNewArea : osSl [8] yX10_readNewArea yX10_readNewArea := List.forall_mem_cons.mpr ⟨⟨_, rfl, wd69⟩, fun _ h => absurd h List.not_mem_nil⟩
theorem mdX10_readUnit : osMd yX10_readUnit cX10_readUnit 3 (some .boolean) 1 := ⟨wd1874, wd160, ⟨by decide +kernel, by decide +kernel⟩, by decide +kernel⟩
theorem sl8_X10_readUnit_X10_readUnit : osSl [8] yX10_readUnit yX10_readUnit := List.forall_mem_cons.mpr ⟨⟨_, rfl, wd79⟩, fun _ h => absurd h List.not_mem_nil⟩
theorem mdX10_readPower : osMd yX10_readPower cX10_readPower 2 (some .boolean) 0 := ⟨wd1870, wd160, ⟨by decide +kernel, by decide +kernel⟩, by decide +kernel⟩
theorem sl8_X10_readPower_X10_readPower : osSl [8] yX10_readPower yX10_readPower := List.forall_mem_cons.mpr ⟨⟨_, rfl, wd78⟩, fun _ h => absurd h List.not_mem_nil⟩
theorem mdX10_readBorder : osMd yX10_readBorder cX10_readBorder 6 (some .boolean) 0 := ⟨wd1851, wd160, ⟨by decide +kernel, by decide +kernel⟩, by decide +kernel⟩
theorem sl8_X10_readBorder_X10_readBorder : osSl [8] yX10_readBorder yX10_readBorder := List.forall_mem_cons.mpr ⟨⟨_, rfl, wd74⟩, fun _ h => absurd h List.not_mem_nil⟩
theorem mdX10_readStatement : osMd yX10_readStatement cX10_readStatement 1 (some .boolean) 0 := ⟨wd1788, wd160, ⟨by decide +kernel, by decide +kernel⟩, by decide +kernel⟩
theorem sl8_X10_readStatement_X10_readStatement : osSl [8] yX10_readStatement yX10_readStatement := List.forall_mem_cons.mpr ⟨⟨_, rfl, wd64⟩, fun _ h => absurd h List.not_mem_nil⟩
theorem mdX10_clears : osMd yX10_clears cX10_clears 2 none 0 := ⟨wd1590, wd160, ⟨by decide +kernel, by decide +kernel⟩, by decide +kernel⟩
theorem sl8_X10_clears_X10_clears : osSl [8] yX10_clears yX10_clears := List.forall_mem_cons.mpr ⟨⟨_, rfl, wd54⟩, fun _ h => absurd h List.not_mem_nil⟩
theorem mdX10_readMap : osMd yX10_readMap cX10_readMap 1 (some .boolean) 0 := ⟨wd1776, wd160, ⟨by decide +kernel, by decide +kernel⟩, by decide +kernel⟩
theorem sl8_X10_readMap_X10_readMap : osSl [8] yX10_readMap yX10_readMap := List.forall_mem_cons.mpr ⟨⟨_, rfl, wd61⟩, fun _ h => absurd h List.not_mem_nil⟩
theorem mdX10_settles : osMd yX10_settles cX10_settles 2 none 0 := ⟨wd1597, wd160, ⟨by decide +kernel, by decide +kernel⟩, by decide +kernel⟩
theorem sl8_X10_settles_X10_settles : osSl [8] yX10_settles yX10_settles := List.forall_mem_cons.mpr ⟨⟨_, rfl, wd55⟩, fun _ h => absurd h List.not_mem_nil⟩
theorem mdJ0_coder_7d493 : osMd yJ0_coder_7d493 cJ0_coder_7d493 1 (some .byte) 0 := ⟨wd664, wd172, ⟨by decide +kernel, by decide +kernel⟩, by decide +kernel⟩
theorem mdJ0_isLatin1_aae02 : osMd yJ0_isLatin1_aae02 cJ0_isLatin1_aae02 1 (some .boolean) 0 := ⟨wd674, wd172, ⟨by decide +kernel, by decide +kernel⟩, by decide +kernel⟩
theorem mdJ1_charAt_3b067 : osMd yJ1_charAt_3b067 cJ1_charAt_3b067 2 (some .char) 2 := ⟨wd677, wd173, ⟨by decide +kernel, by decide +kernel⟩, by decide +kernel⟩
theorem mdX9_feed : osMd yX9_feed cX9_feed 6 (some .int) 5 := ⟨wd713, wd151, ⟨by decide +kernel, by decide +kernel⟩, by decide +kernel⟩
theorem sl7_X9_feed_X9_feed : osSl [7] yX9_feed yX9_feed := List.forall_mem_cons.mpr ⟨⟨_, rfl, wd712⟩, fun _ h => absurd h List.not_mem_nil⟩
theorem mdX9_area : osMd yX9_area cX9_area 3 (some .int) 2 := ⟨wd1168, wd151, ⟨by decide +kernel, by decide +kernel⟩, by decide +kernel⟩
theorem sl7_X9_area_X9_area : osSl [7] yX9_area yX9_area := List.forall_mem_cons.mpr ⟨⟨_, rfl, wd1167⟩, fun _ h => absurd h List.not_mem_nil⟩
theorem mdX9_passes : osMd yX9_passes cX9_passes 4 (some .boolean) 3 := ⟨wd1225, wd151, ⟨by decide +kernel, by decide +kernel⟩, by decide +kernel⟩
theorem sl7_X9_passes_X9_passes : osSl [7] yX9_passes yX9_passes := List.forall_mem_cons.mpr ⟨⟨_, rfl, wd1224⟩, fun _ h => absurd h List.not_mem_nil⟩
theorem mdX9_distance : osMd yX9_distance cX9_distance 4 (some .int) 3 := ⟨wd1233, wd151, ⟨by decide +kernel, by decide +kernel⟩, by decide +kernel⟩
theorem sl7_X9_distance_X9_distance : osSl [7] yX9_distance yX9_distance := List.forall_mem_cons.mpr ⟨⟨_, rfl, wd1232⟩, fun _ h => absurd h List.not_mem_nil⟩
theorem mdX9_power : osMd yX9_power cX9_power 3 (some .int) 2 := ⟨wd1248, wd151, ⟨by decide +kernel, by decide +kernel⟩, by decide +kernel⟩
theorem sl7_X9_power_X9_power : osSl [7] yX9_power yX9_power := List.forall_mem_cons.mpr ⟨⟨_, rfl, wd1247⟩, fun _ h => absurd h List.not_mem_nil⟩
theorem mdX9_result : osMd yX9_result cX9_result 3 (some .int) 2 := ⟨wd1410, wd151, ⟨by decide +kernel, by decide +kernel⟩, by decide +kernel⟩
theorem sl7_X9_result_X9_result : osSl [7] yX9_result yX9_result := List.forall_mem_cons.mpr ⟨⟨_, rfl, wd1409⟩, fun _ h => absurd h List.not_mem_nil⟩
theorem mdX9_outcomes : osMd yX9_outcomes cX9_outcomes 1 (some .int) 0 := ⟨wd1422, wd151, ⟨by decide +kernel, by decide +kernel⟩, by decide +kernel⟩
theorem sl7_X9_outcomes_X9_outcomes : osSl [7] yX9_outcomes yX9_outcomes := List.forall_mem_cons.mpr ⟨⟨_, rfl, wd1421⟩, fun _ h => absurd h List.not_mem_nil⟩
theorem mdX9_isContested : osMd yX9_isContested cX9_isContested 2 (some .boolean) 1 := ⟨wd1429, wd151, ⟨by decide +kernel, by decide +kernel⟩, by decide +kernel⟩
theorem sl7_X9_isContested_X9_isContested : osSl [7] yX9_isContested yX9_isContested := List.forall_mem_cons.mpr ⟨⟨_, rfl, wd1428⟩, fun _ h => absurd h List.not_mem_nil⟩
theorem mdX9_mayRetreat : osMd yX9_mayRetreat cX9_mayRetreat 3 (some .boolean) 2 := ⟨wd1436, wd151, ⟨by decide +kernel, by decide +kernel⟩, by decide +kernel⟩
theorem sl7_X9_mayRetreat_X9_mayRetreat : osSl [7] yX9_mayRetreat yX9_mayRetreat := List.forall_mem_cons.mpr ⟨⟨_, rfl, wd1435⟩, fun _ h => absurd h List.not_mem_nil⟩
theorem mdX9_undo : osMd yX9_undo cX9_undo 1 (some .int) 0 := ⟨wd1470, wd151, ⟨by decide +kernel, by decide +kernel⟩, by decide +kernel⟩
theorem sl7_X9_undo_X9_undo : osSl [7] yX9_undo yX9_undo := List.forall_mem_cons.mpr ⟨⟨_, rfl, wd1469⟩, fun _ h => absurd h List.not_mem_nil⟩
theorem mdX9_leader : osMd yX9_leader cX9_leader 5 (some .int) 0 := ⟨wd1536, wd151, ⟨by decide +kernel, by decide +kernel⟩, by decide +kernel⟩
theorem sl7_X9_leader_X9_leader : osSl [7] yX9_leader yX9_leader := List.forall_mem_cons.mpr ⟨⟨_, rfl, wd1535⟩, fun _ h => absurd h List.not_mem_nil⟩
theorem fX1_96 : osFd RX1 96 [2] 5 .int false := ⟨"OrderSettler$Links", "supports", "I", wd291, rfl, List.forall_mem_cons.mpr ⟨⟨RX2, TX2, 16, tyX2, rfl, osinX2, nmX2, tyX2_ok, (Nat.le_of_ble_eq_true rfl), rfl, rfl, rfl, Or.inl rfl⟩, fun _ h => absurd h List.not_mem_nil⟩⟩
theorem fX1_99 : osFd RX1 99 [2] 11 (.array .int) true := ⟨"OrderSettler$Links", "cutters", "[I", wd303, rfl, List.forall_mem_cons.mpr ⟨⟨RX2, TX2, 16, tyX2, rfl, osinX2, nmX2, tyX2_ok, (Nat.le_of_ble_eq_true rfl), rfl, rfl, rfl, Or.inl rfl⟩, fun _ h => absurd h List.not_mem_nil⟩⟩
theorem mdX1_isCarried : osMd yX1_isCarried cX1_isCarried 7 (some .boolean) 1 := ⟨wd1336, wd156, ⟨by decide +kernel, by decide +kernel⟩, by decide +kernel⟩
theorem sl1_X1_isCarried_X1_isCarried : osSl [1] yX1_isCarried yX1_isCarried := List.forall_mem_cons.mpr ⟨⟨_, rfl, wd41⟩, fun _ h => absurd h List.not_mem_nil⟩
theorem mdX1_preventionOf : osMd yX1_preventionOf cX1_preventionOf 6 (some .int) 1 := ⟨wd1358, wd156, ⟨by decide +kernel, by decide +kernel⟩, by decide +kernel⟩
theorem sl1_X1_preventionOf_X1_preventionOf : osSl [1] yX1_preventionOf yX1_preventionOf := List.forall_mem_cons.mpr ⟨⟨_, rfl, wd46⟩, fun _ h => absurd h List.not_mem_nil⟩
theorem mdX1_summaryOf : osMd yX1_summaryOf cX1_summaryOf 2 (some .int) 1 := ⟨wd1391, wd156, ⟨by decide +kernel, by decide +kernel⟩, by decide +kernel⟩
theorem sl1_X1_summaryOf_X1_summaryOf : osSl [1] yX1_summaryOf yX1_summaryOf := List.forall_mem_cons.mpr ⟨⟨_, rfl, wd48⟩, fun _ h => absurd h List.not_mem_nil⟩
theorem mdX1_reasonFor : osMd yX1_reasonFor cX1_reasonFor 2 (some .int) 1 := ⟨wd1395, wd156, ⟨by decide +kernel, by decide +kernel⟩, by decide +kernel⟩
theorem sl1_X1_reasonFor_X1_reasonFor : osSl [1] yX1_reasonFor yX1_reasonFor := List.forall_mem_cons.mpr ⟨⟨_, rfl, wd49⟩, fun _ h => absurd h List.not_mem_nil⟩
theorem fX3_86 : osFd RX3 86 [0] 0 .int false := ⟨"OrderSettler$Board", "areaCount", "I", wd389, rfl, List.forall_mem_cons.mpr ⟨⟨RX0, TX0, 10, tyX0, rfl, osinX0, nmX0, tyX0_ok, (Nat.le_of_ble_eq_true rfl), rfl, rfl, rfl, Or.inl rfl⟩, fun _ h => absurd h List.not_mem_nil⟩⟩
theorem sl3_X3itakeName_X6_takeName : osSl [3] (⟨RX3, "takeName", "()I"⟩ : MethodName) yX6_takeName := List.forall_mem_cons.mpr ⟨⟨_, rfl, wd864⟩, fun _ h => absurd h List.not_mem_nil⟩
theorem fX3_34 : osFd RX3 34 [3] 6 .int false := ⟨"OrderSettler$MapReader", "start", "I", wd217, rfl, List.forall_mem_cons.mpr ⟨⟨RX3, TX3, 10, tyX3, rfl, osinX3, nmX3, tyX3_ok, (Nat.le_of_ble_eq_true rfl), rfl, rfl, rfl, Or.inr wd218⟩, fun _ h => absurd h List.not_mem_nil⟩⟩
theorem sl3_X3itake_X6_take : osSl [3] (⟨RX3, "take", "(LOrderSettler$Word;)Z"⟩ : MethodName) yX6_take := List.forall_mem_cons.mpr ⟨⟨_, rfl, wd848⟩, fun _ h => absurd h List.not_mem_nil⟩
theorem mdX0_addArea : osMd yX0_addArea cX0_addArea 5 none 3 := ⟨wd882, wd158, ⟨by decide +kernel, by decide +kernel⟩, by decide +kernel⟩
theorem sl0_X0_addArea_X0_addArea : osSl [0] yX0_addArea yX0_addArea := List.forall_mem_cons.mpr ⟨⟨_, rfl, wd881⟩, fun _ h => absurd h List.not_mem_nil⟩
theorem sl3_X3ifail_X6_fail : osSl [3] (⟨RX3, "fail", "(II)Z"⟩ : MethodName) yX6_fail := List.forall_mem_cons.mpr ⟨⟨_, rfl, wd858⟩, fun _ h => absurd h List.not_mem_nil⟩
theorem fX3_97 : osFd RX3 97 [3] 7 .int false := ⟨"OrderSettler$MapReader", "nameStart", "I", wd224, rfl, List.forall_mem_cons.mpr ⟨⟨RX3, TX3, 10, tyX3, rfl, osinX3, nmX3, tyX3_ok, (Nat.le_of_ble_eq_true rfl), rfl, rfl, rfl, Or.inr wd225⟩, fun _ h => absurd h List.not_mem_nil⟩⟩
theorem sl3_X3itakeArea_X6_takeArea : osSl [3] (⟨RX3, "takeArea", "(LOrderSettler$Board;)I"⟩ : MethodName) yX6_takeArea := List.forall_mem_cons.mpr ⟨⟨_, rfl, wd899⟩, fun _ h => absurd h List.not_mem_nil⟩
theorem mdX0_hasBorder : osMd yX0_hasBorder cX0_hasBorder 3 (some .boolean) 2 := ⟨wd907, wd158, ⟨by decide +kernel, by decide +kernel⟩, by decide +kernel⟩
theorem sl0_X0_hasBorder_X0_hasBorder : osSl [0] yX0_hasBorder yX0_hasBorder := List.forall_mem_cons.mpr ⟨⟨_, rfl, wd906⟩, fun _ h => absurd h List.not_mem_nil⟩
theorem mdX0_addBorder : osMd yX0_addBorder cX0_addBorder 5 none 4 := ⟨wd926, wd158, ⟨by decide +kernel, by decide +kernel⟩, by decide +kernel⟩
theorem sl0_X0_addBorder_X0_addBorder : osSl [0] yX0_addBorder yX0_addBorder := List.forall_mem_cons.mpr ⟨⟨_, rfl, wd925⟩, fun _ h => absurd h List.not_mem_nil⟩
theorem fX3_136 : osFd RX3 136 [0] 6 (.array .int) true := ⟨"OrderSettler$Board", "home", "[I", wd406, rfl, List.forall_mem_cons.mpr ⟨⟨RX0, TX0, 10, tyX0, rfl, osinX0, nmX0, tyX0_ok, (Nat.le_of_ble_eq_true rfl), rfl, rfl, rfl, Or.inl rfl⟩, fun _ h => absurd h List.not_mem_nil⟩⟩
theorem fX3_144 : osFd RX3 144 [0] 4 .int false := ⟨"OrderSettler$Board", "centers", "I", wd400, rfl, List.forall_mem_cons.mpr ⟨⟨RX0, TX0, 10, tyX0, rfl, osinX0, nmX0, tyX0_ok, (Nat.le_of_ble_eq_true rfl), rfl, rfl, rfl, Or.inl rfl⟩, fun _ h => absurd h List.not_mem_nil⟩⟩
theorem mdX0_makeHome : osMd yX0_makeHome cX0_makeHome 3 none 2 := ⟨wd960, wd158, ⟨by decide +kernel, by decide +kernel⟩, by decide +kernel⟩
theorem sl0_X0_makeHome_X0_makeHome : osSl [0] yX0_makeHome yX0_makeHome := List.forall_mem_cons.mpr ⟨⟨_, rfl, wd959⟩, fun _ h => absurd h List.not_mem_nil⟩
theorem mdX5_giveCenter : osMd yX5_giveCenter cX5_giveCenter 3 none 2 := ⟨wd964, wd159, ⟨by decide +kernel, by decide +kernel⟩, by decide +kernel⟩
theorem sl5_X5_giveCenter_X5_giveCenter : osSl [5] yX5_giveCenter yX5_giveCenter := List.forall_mem_cons.mpr ⟨⟨_, rfl, wd963⟩, fun _ h => absurd h List.not_mem_nil⟩
theorem mdX0_findPower : osMd yX0_findPower cX0_findPower 3 (some .int) 1 := ⟨wd940, wd158, ⟨by decide +kernel, by decide +kernel⟩, by decide +kernel⟩
theorem sl0_X0_findPower_X0_findPower : osSl [0] yX0_findPower yX0_findPower := List.forall_mem_cons.mpr ⟨⟨_, rfl, wd939⟩, fun _ h => absurd h List.not_mem_nil⟩
theorem mdJ0_length_8abf5 : osMd yJ0_length_8abf5 cJ0_length_8abf5 1 (some .int) 0 := ⟨wd660, wd172, ⟨by decide +kernel, by decide +kernel⟩, by decide +kernel⟩
theorem mdJ0_charAt_5068e : osMd yJ0_charAt_5068e cJ0_charAt_5068e 2 (some .char) 1 := ⟨wd670, wd172, ⟨by decide +kernel, by decide +kernel⟩, by decide +kernel⟩
theorem mdX5_clearUnits : osMd yX5_clearUnits cX5_clearUnits 2 none 0 := ⟨wd447, wd159, ⟨by decide +kernel, by decide +kernel⟩, by decide +kernel⟩
theorem sl5_X5_clearUnits_X5_clearUnits : osSl [5] yX5_clearUnits yX5_clearUnits := List.forall_mem_cons.mpr ⟨⟨_, rfl, wd2⟩, fun _ h => absurd h List.not_mem_nil⟩
theorem mdX5_hasArmy : osMd yX5_hasArmy cX5_hasArmy 2 (some .boolean) 1 := ⟨wd1061, wd159, ⟨by decide +kernel, by decide +kernel⟩, by decide +kernel⟩
theorem sl5_X5_hasArmy_X5_hasArmy : osSl [5] yX5_hasArmy yX5_hasArmy := List.forall_mem_cons.mpr ⟨⟨_, rfl, wd20⟩, fun _ h => absurd h List.not_mem_nil⟩
theorem mdX5_joinsCoasts : osMd yX5_joinsCoasts cX5_joinsCoasts 3 (some .boolean) 3 := ⟨wd1064, wd159, ⟨by decide +kernel, by decide +kernel⟩, by decide +kernel⟩
theorem fX5_144 : osFd RX5 144 [0] 3 .int false := ⟨"OrderSettler$Board", "seas", "I", wd398, rfl, List.forall_mem_cons.mpr ⟨⟨RX0, TX0, 10, tyX0, rfl, osinX0, nmX0, tyX0_ok, (Nat.le_of_ble_eq_true rfl), rfl, rfl, rfl, Or.inl rfl⟩, fun _ h => absurd h List.not_mem_nil⟩⟩
theorem fX5_192 : osFd RX5 192 [0] 1 .int false := ⟨"OrderSettler$Board", "powerCount", "I", wd394, rfl, List.forall_mem_cons.mpr ⟨⟨RX0, TX0, 10, tyX0, rfl, osinX0, nmX0, tyX0_ok, (Nat.le_of_ble_eq_true rfl), rfl, rfl, rfl, Or.inl rfl⟩, fun _ h => absurd h List.not_mem_nil⟩⟩
theorem mdX5_beginTurn : osMd yX5_beginTurn cX5_beginTurn 1 none 0 := ⟨wd1403, wd159, ⟨by decide +kernel, by decide +kernel⟩, by decide +kernel⟩
theorem sl5_X5_beginTurn_X5_beginTurn : osSl [5] yX5_beginTurn yX5_beginTurn := List.forall_mem_cons.mpr ⟨⟨_, rfl, wd1402⟩, fun _ h => absurd h List.not_mem_nil⟩
theorem fX5_189 : osFd RX5 189 [0] 4 .int false := ⟨"OrderSettler$Board", "centers", "I", wd402, rfl, List.forall_mem_cons.mpr ⟨⟨RX0, TX0, 10, tyX0, rfl, osinX0, nmX0, tyX0_ok, (Nat.le_of_ble_eq_true rfl), rfl, rfl, rfl, Or.inl rfl⟩, fun _ h => absurd h List.not_mem_nil⟩⟩
theorem mdX5_allowsMove : osMd yX5_allowsMove cX5_allowsMove 4 (some .boolean) 3 := ⟨wd1052, wd159, ⟨by decide +kernel, by decide +kernel⟩, by decide +kernel⟩
theorem sl5_X5_allowsMove_X5_allowsMove : osSl [5] yX5_allowsMove yX5_allowsMove := List.forall_mem_cons.mpr ⟨⟨_, rfl, wd1051⟩, fun _ h => absurd h List.not_mem_nil⟩
theorem mdX5_allowsConvoy : osMd yX5_allowsConvoy cX5_allowsConvoy 5 (some .boolean) 4 := ⟨wd1097, wd159, ⟨by decide +kernel, by decide +kernel⟩, by decide +kernel⟩
theorem sl5_X5_allowsConvoy_X5_allowsConvoy : osSl [5] yX5_allowsConvoy yX5_allowsConvoy := List.forall_mem_cons.mpr ⟨⟨_, rfl, wd1096⟩, fun _ h => absurd h List.not_mem_nil⟩
theorem mdX9_requireLength : osMd yX9_requireLength cX9_requireLength 3 none 2 := ⟨wd797, wd151, ⟨by decide +kernel, by decide +kernel⟩, by decide +kernel⟩
theorem sl7_X9_requireLength_X9_requireLength : osSl [7] yX9_requireLength yX9_requireLength := List.forall_mem_cons.mpr ⟨⟨_, rfl, wd8⟩, fun _ h => absurd h List.not_mem_nil⟩
theorem mdX9_packedInput : osMd yX9_packedInput cX9_packedInput 4 (some .int) 1 := ⟨wd1210, wd151, ⟨by decide +kernel, by decide +kernel⟩, by decide +kernel⟩
theorem sl7_X9_packedInput_X9_packedInput : osSl [7] yX9_packedInput yX9_packedInput := List.forall_mem_cons.mpr ⟨⟨_, rfl, wd29⟩, fun _ h => absurd h List.not_mem_nil⟩
theorem mdX9_requireUnit : osMd yX9_requireUnit cX9_requireUnit 2 none 1 := ⟨wd1270, wd151, ⟨by decide +kernel, by decide +kernel⟩, by decide +kernel⟩
theorem sl7_X9_requireUnit_X9_requireUnit : osSl [7] yX9_requireUnit yX9_requireUnit := List.forall_mem_cons.mpr ⟨⟨_, rfl, wd31⟩, fun _ h => absurd h List.not_mem_nil⟩
theorem mdX9_requirePhase : osMd yX9_requirePhase cX9_requirePhase 2 none 1 := ⟨wd1275, wd151, ⟨by decide +kernel, by decide +kernel⟩, by decide +kernel⟩
theorem sl7_X9_requirePhase_X9_requirePhase : osSl [7] yX9_requirePhase yX9_requirePhase := List.forall_mem_cons.mpr ⟨⟨_, rfl, wd32⟩, fun _ h => absurd h List.not_mem_nil⟩
theorem fX9_213 : osFd RX9 213 [5] 12 (.array .int) true := ⟨"OrderSettler$State", "orderKind", "[I", wd487, rfl, List.forall_mem_cons.mpr ⟨⟨RX5, TX5, 16, tyX5, rfl, osinX5, nmX5, tyX5_ok, (Nat.le_of_ble_eq_true rfl), rfl, rfl, rfl, Or.inl rfl⟩, fun _ h => absurd h List.not_mem_nil⟩⟩
theorem fX9_216 : osFd RX9 216 [5] 13 (.array .int) true := ⟨"OrderSettler$State", "orderFirst", "[I", wd490, rfl, List.forall_mem_cons.mpr ⟨⟨RX5, TX5, 16, tyX5, rfl, osinX5, nmX5, tyX5_ok, (Nat.le_of_ble_eq_true rfl), rfl, rfl, rfl, Or.inl rfl⟩, fun _ h => absurd h List.not_mem_nil⟩⟩
theorem fX9_219 : osFd RX9 219 [5] 14 (.array .int) true := ⟨"OrderSettler$State", "orderSecond", "[I", wd493, rfl, List.forall_mem_cons.mpr ⟨⟨RX5, TX5, 16, tyX5, rfl, osinX5, nmX5, tyX5_ok, (Nat.le_of_ble_eq_true rfl), rfl, rfl, rfl, Or.inl rfl⟩, fun _ h => absurd h List.not_mem_nil⟩⟩
theorem mdX9_remember : osMd yX9_remember cX9_remember 3 none 0 := ⟨wd1287, wd151, ⟨by decide +kernel, by decide +kernel⟩, by decide +kernel⟩
theorem sl7_X9_remember_X9_remember : osSl [7] yX9_remember yX9_remember := List.forall_mem_cons.mpr ⟨⟨_, rfl, wd33⟩, fun _ h => absurd h List.not_mem_nil⟩
theorem mdX5_carryOutRetreats : osMd yX5_carryOutRetreats cX5_carryOutRetreats 5 (some .int) 1 := ⟨wd1450, wd159, ⟨by decide +kernel, by decide +kernel⟩, by decide +kernel⟩
theorem sl5_X5_carryOutRetreats_X5_carryOutRetreats : osSl [5] yX5_carryOutRetreats yX5_carryOutRetreats := List.forall_mem_cons.mpr ⟨⟨_, rfl, wd1449⟩, fun _ h => absurd h List.not_mem_nil⟩
theorem mdX5_closeTurn : osMd yX5_closeTurn cX5_closeTurn 3 none 1 := ⟨wd1399, wd159, ⟨by decide +kernel, by decide +kernel⟩, by decide +kernel⟩
theorem sl5_X5_closeTurn_X5_closeTurn : osSl [5] yX5_closeTurn yX5_closeTurn := List.forall_mem_cons.mpr ⟨⟨_, rfl, wd1398⟩, fun _ h => absurd h List.not_mem_nil⟩
theorem mdX5_disbandSurplus : osMd yX5_disbandSurplus cX5_disbandSurplus 4 (some .int) 1 := ⟨wd1461, wd159, ⟨by decide +kernel, by decide +kernel⟩, by decide +kernel⟩
theorem sl5_X5_disbandSurplus_X5_disbandSurplus : osSl [5] yX5_disbandSurplus yX5_disbandSurplus := List.forall_mem_cons.mpr ⟨⟨_, rfl, wd1460⟩, fun _ h => absurd h List.not_mem_nil⟩
theorem mdX5_countArrivals : osMd yX5_countArrivals cX5_countArrivals 7 (some .int) 4 := ⟨wd1500, wd159, ⟨by decide +kernel, by decide +kernel⟩, by decide +kernel⟩
theorem sl5_X5_countArrivals_X5_countArrivals : osSl [5] yX5_countArrivals yX5_countArrivals := List.forall_mem_cons.mpr ⟨⟨_, rfl, wd1499⟩, fun _ h => absurd h List.not_mem_nil⟩
theorem mdX9_shareOf : osMd yX9_shareOf cX9_shareOf 3 (some .float) 1 := ⟨wd1518, wd151, ⟨by decide +kernel, by decide +kernel⟩, by decide +kernel⟩
theorem sl7_X9_shareOf_X9_shareOf : osSl [7] yX9_shareOf yX9_shareOf := List.forall_mem_cons.mpr ⟨⟨_, rfl, wd51⟩, fun _ h => absurd h List.not_mem_nil⟩
theorem mdX9_floatBits : osMd yX9_floatBits cX9_floatBits 4 (some .int) 1 := ⟨wd1528, wd151, ⟨by decide +kernel, by decide +kernel⟩, by decide +kernel⟩
theorem mdX9_sumOfSquares : osMd yX9_sumOfSquares cX9_sumOfSquares 7 (some .double) 0 := ⟨wd607, wd151, ⟨by decide +kernel, by decide +kernel⟩, by decide +kernel⟩
theorem sl7_X9_sumOfSquares_X9_sumOfSquares : osSl [7] yX9_sumOfSquares yX9_sumOfSquares := List.forall_mem_cons.mpr ⟨⟨_, rfl, wd5⟩, fun _ h => absurd h List.not_mem_nil⟩
theorem mdX9_doubleBits : osMd yX9_doubleBits cX9_doubleBits 7 (some .long) 1 := ⟨wd627, wd151, ⟨by decide +kernel, by decide +kernel⟩, by decide +kernel⟩
theorem fX9_326 : osFd RX9 326 [0] 9 (.array .int) true := ⟨"OrderSettler$Board", "powerName", "[I", wd413, rfl, List.forall_mem_cons.mpr ⟨⟨RX0, TX0, 10, tyX0, rfl, osinX0, nmX0, tyX0_ok, (Nat.le_of_ble_eq_true rfl), rfl, rfl, rfl, Or.inl rfl⟩, fun _ h => absurd h List.not_mem_nil⟩⟩
theorem mdX4_putName : osMd yX4_putName cX4_putName 4 none 1 := ⟨wd646, wd152, ⟨by decide +kernel, by decide +kernel⟩, by decide +kernel⟩
theorem sl4_X4_putName_X4_putName : osSl [4] yX4_putName yX4_putName := List.forall_mem_cons.mpr ⟨⟨_, rfl, wd645⟩, fun _ h => absurd h List.not_mem_nil⟩
theorem mdX4_putText : osMd yX4_putText cX4_putText 3 none 1 := ⟨wd656, wd152, ⟨by decide +kernel, by decide +kernel⟩, by decide +kernel⟩
theorem sl4_X4_putText_X4_putText : osSl [4] yX4_putText yX4_putText := List.forall_mem_cons.mpr ⟨⟨_, rfl, wd655⟩, fun _ h => absurd h List.not_mem_nil⟩
theorem fX9_339 : osFd RX9 339 [0] 5 (.array .int) true := ⟨"OrderSettler$Board", "areaName", "[I", wd404, rfl, List.forall_mem_cons.mpr ⟨⟨RX0, TX0, 10, tyX0, rfl, osinX0, nmX0, tyX0_ok, (Nat.le_of_ble_eq_true rfl), rfl, rfl, rfl, Or.inl rfl⟩, fun _ h => absurd h List.not_mem_nil⟩⟩
theorem mdX9_named : osMd yX9_named cX9_named 3 (some .int) 1 := ⟨wd1206, wd151, ⟨by decide +kernel, by decide +kernel⟩, by decide +kernel⟩
theorem sl7_X9_named_X9_named : osSl [7] yX9_named yX9_named := List.forall_mem_cons.mpr ⟨⟨_, rfl, wd1205⟩, fun _ h => absurd h List.not_mem_nil⟩
theorem mdX9_order : osMd yX9_order cX9_order 3 (some .int) 2 := ⟨wd1266, wd151, ⟨by decide +kernel, by decide +kernel⟩, by decide +kernel⟩
theorem sl7_X9_order_X9_order : osSl [7] yX9_order yX9_order := List.forall_mem_cons.mpr ⟨⟨_, rfl, wd1265⟩, fun _ h => absurd h List.not_mem_nil⟩
theorem mdX9_endRetreats : osMd yX9_endRetreats cX9_endRetreats 2 (some .int) 0 := ⟨wd1446, wd151, ⟨by decide +kernel, by decide +kernel⟩, by decide +kernel⟩
theorem sl7_X9_endRetreats_X9_endRetreats : osSl [7] yX9_endRetreats yX9_endRetreats := List.forall_mem_cons.mpr ⟨⟨_, rfl, wd1445⟩, fun _ h => absurd h List.not_mem_nil⟩
theorem mdX9_endBuilds : osMd yX9_endBuilds cX9_endBuilds 3 (some .int) 0 := ⟨wd1457, wd151, ⟨by decide +kernel, by decide +kernel⟩, by decide +kernel⟩
theorem sl7_X9_endBuilds_X9_endBuilds : osSl [7] yX9_endBuilds yX9_endBuilds := List.forall_mem_cons.mpr ⟨⟨_, rfl, wd1456⟩, fun _ h => absurd h List.not_mem_nil⟩
theorem mdX9_reach : osMd yX9_reach cX9_reach 4 (some .int) 3 := ⟨wd1496, wd151, ⟨by decide +kernel, by decide +kernel⟩, by decide +kernel⟩
theorem sl7_X9_reach_X9_reach : osSl [7] yX9_reach yX9_reach := List.forall_mem_cons.mpr ⟨⟨_, rfl, wd1495⟩, fun _ h => absurd h List.not_mem_nil⟩
theorem mdX9_isThreatened : osMd yX9_isThreatened cX9_isThreatened 5 (some .boolean) 1 := ⟨wd1507, wd151, ⟨by decide +kernel, by decide +kernel⟩, by decide +kernel⟩
theorem sl7_X9_isThreatened_X9_isThreatened : osSl [7] yX9_isThreatened yX9_isThreatened := List.forall_mem_cons.mpr ⟨⟨_, rfl, wd1506⟩, fun _ h => absurd h List.not_mem_nil⟩
theorem mdX9_share : osMd yX9_share cX9_share 2 (some .float) 1 := ⟨wd1514, wd151, ⟨by decide +kernel, by decide +kernel⟩, by decide +kernel⟩
theorem sl7_X9_share_X9_share : osSl [7] yX9_share yX9_share := List.forall_mem_cons.mpr ⟨⟨_, rfl, wd1513⟩, fun _ h => absurd h List.not_mem_nil⟩
theorem mdX9_shareBits : osMd yX9_shareBits cX9_shareBits 2 (some .int) 1 := ⟨wd1525, wd151, ⟨by decide +kernel, by decide +kernel⟩, by decide +kernel⟩
theorem sl7_X9_shareBits_X9_shareBits : osSl [7] yX9_shareBits yX9_shareBits := List.forall_mem_cons.mpr ⟨⟨_, rfl, wd1524⟩, fun _ h => absurd h List.not_mem_nil⟩
theorem mdX1_shouldSucceed : osMd yX1_shouldSucceed cX1_shouldSucceed 3 (some .boolean) 1 := ⟨wd1346, wd156, ⟨by decide +kernel, by decide +kernel⟩, by decide +kernel⟩
theorem sl1_X1_shouldSucceed_X1_shouldSucceed : osSl [1] yX1_shouldSucceed yX1_shouldSucceed := List.forall_mem_cons.mpr ⟨⟨_, rfl, wd43⟩, fun _ h => absurd h List.not_mem_nil⟩
theorem mdX1_explain : osMd yX1_explain cX1_explain 4 (some .int) 2 := ⟨wd1387, wd156, ⟨by decide +kernel, by decide +kernel⟩, by decide +kernel⟩
theorem sl1_X1_explain_X1_explain : osSl [1] yX1_explain yX1_explain := List.forall_mem_cons.mpr ⟨⟨_, rfl, wd1386⟩, fun _ h => absurd h List.not_mem_nil⟩
theorem mdX2_clear : osMd yX2_clear cX2_clear 2 none 0 := ⟨wd1299, wd157, ⟨by decide +kernel, by decide +kernel⟩, by decide +kernel⟩
theorem sl2_X2_clear_X2_clear : osSl [2] yX2_clear yX2_clear := List.forall_mem_cons.mpr ⟨⟨_, rfl, wd34⟩, fun _ h => absurd h List.not_mem_nil⟩
theorem mdX2_linkMove : osMd yX2_linkMove cX2_linkMove 5 none 2 := ⟨wd1321, wd157, ⟨by decide +kernel, by decide +kernel⟩, by decide +kernel⟩
theorem sl2_X2_linkMove_X2_linkMove : osSl [2] yX2_linkMove yX2_linkMove := List.forall_mem_cons.mpr ⟨⟨_, rfl, wd38⟩, fun _ h => absurd h List.not_mem_nil⟩
theorem mdX2_linkSupport : osMd yX2_linkSupport cX2_linkSupport 9 none 2 := ⟨wd1313, wd157, ⟨by decide +kernel, by decide +kernel⟩, by decide +kernel⟩
theorem sl2_X2_linkSupport_X2_linkSupport : osSl [2] yX2_linkSupport yX2_linkSupport := List.forall_mem_cons.mpr ⟨⟨_, rfl, wd36⟩, fun _ h => absurd h List.not_mem_nil⟩
theorem mdX2_linkConvoy : osMd yX2_linkConvoy cX2_linkConvoy 5 none 2 := ⟨wd1317, wd157, ⟨by decide +kernel, by decide +kernel⟩, by decide +kernel⟩
theorem sl2_X2_linkConvoy_X2_linkConvoy : osSl [2] yX2_linkConvoy yX2_linkConvoy := List.forall_mem_cons.mpr ⟨⟨_, rfl, wd37⟩, fun _ h => absurd h List.not_mem_nil⟩
theorem mdX2_noteMove : osMd yX2_noteMove cX2_noteMove 5 none 3 := ⟨wd1306, wd157, ⟨by decide +kernel, by decide +kernel⟩, by decide +kernel⟩
theorem sl2_X2_noteMove_X2_noteMove : osSl [2] yX2_noteMove yX2_noteMove := List.forall_mem_cons.mpr ⟨⟨_, rfl, wd35⟩, fun _ h => absurd h List.not_mem_nil⟩
theorem fX3_121 : osFd RX3 121 [0] 1 .int false := ⟨"OrderSettler$Board", "powerCount", "I", wd392, rfl, List.forall_mem_cons.mpr ⟨⟨RX0, TX0, 10, tyX0, rfl, osinX0, nmX0, tyX0_ok, (Nat.le_of_ble_eq_true rfl), rfl, rfl, rfl, Or.inl rfl⟩, fun _ h => absurd h List.not_mem_nil⟩⟩
theorem mdX0_addPower : osMd yX0_addPower cX0_addPower 3 (some .int) 1 := ⟨wd944, wd158, ⟨by decide +kernel, by decide +kernel⟩, by decide +kernel⟩
theorem sl0_X0_addPower_X0_addPower : osSl [0] yX0_addPower yX0_addPower := List.forall_mem_cons.mpr ⟨⟨_, rfl, wd943⟩, fun _ h => absurd h List.not_mem_nil⟩
theorem mdX6_isAtWord : osMd yX6_isAtWord cX6_isAtWord 1 (some .boolean) 0 := ⟨wd950, wd153, ⟨by decide +kernel, by decide +kernel⟩, by decide +kernel⟩
theorem sl3_X3iisAtWord_X6_isAtWord : osSl [3] (⟨RX3, "isAtWord", "()Z"⟩ : MethodName) yX6_isAtWord := List.forall_mem_cons.mpr ⟨⟨_, rfl, wd948⟩, fun _ h => absurd h List.not_mem_nil⟩
theorem mdX3_readHome : osMd yX3_readHome cX3_readHome 5 (some .boolean) 3 := ⟨wd954, wd154, ⟨by decide +kernel, by decide +kernel⟩, by decide +kernel⟩
theorem sl3_X3_readHome_X3_readHome : osSl [3] yX3_readHome yX3_readHome := List.forall_mem_cons.mpr ⟨⟨_, rfl, wd13⟩, fun _ h => absurd h List.not_mem_nil⟩
theorem mdX5_clear : osMd yX5_clear cX5_clear 2 none 0 := ⟨wd443, wd159, ⟨by decide +kernel, by decide +kernel⟩, by decide +kernel⟩
theorem sl5_X5_clear_X5_clear : osSl [5] yX5_clear yX5_clear := List.forall_mem_cons.mpr ⟨⟨_, rfl, wd442⟩, fun _ h => absurd h List.not_mem_nil⟩
theorem mdX1_findFailedGoals : osMd yX1_findFailedGoals cX1_findFailedGoals 3 (some .int) 0 := ⟨wd1378, wd156, ⟨by decide +kernel, by decide +kernel⟩, by decide +kernel⟩
theorem sl1_X1_findFailedGoals_X1_findFailedGoals : osSl [1] yX1_findFailedGoals yX1_findFailedGoals := List.forall_mem_cons.mpr ⟨⟨_, rfl, wd1377⟩, fun _ h => absurd h List.not_mem_nil⟩
theorem fX5_181 : osFd RX5 181 [1] 7 .int false := ⟨"OrderSettler$Judge", "outcomeCount", "I", wd358, rfl, List.forall_mem_cons.mpr ⟨⟨RX1, TX1, 8, tyX1, rfl, osinX1, nmX1, tyX1_ok, (Nat.le_of_ble_eq_true rfl), rfl, rfl, rfl, Or.inl rfl⟩, fun _ h => absurd h List.not_mem_nil⟩⟩
theorem mdX1_explainAll : osMd yX1_explainAll cX1_explainAll 3 none 1 := ⟨wd1383, wd156, ⟨by decide +kernel, by decide +kernel⟩, by decide +kernel⟩
theorem sl1_X1_explainAll_X1_explainAll : osSl [1] yX1_explainAll yX1_explainAll := List.forall_mem_cons.mpr ⟨⟨_, rfl, wd1382⟩, fun _ h => absurd h List.not_mem_nil⟩
theorem fX5_160 : osFd RX5 160 [1] 5 .int false := ⟨"OrderSettler$Judge", "success", "I", wd353, rfl, List.forall_mem_cons.mpr ⟨⟨RX1, TX1, 8, tyX1, rfl, osinX1, nmX1, tyX1_ok, (Nat.le_of_ble_eq_true rfl), rfl, rfl, rfl, Or.inl rfl⟩, fun _ h => absurd h List.not_mem_nil⟩⟩
theorem fX5_169 : osFd RX5 169 [1] 6 .int false := ⟨"OrderSettler$Judge", "dislodged", "I", wd356, rfl, List.forall_mem_cons.mpr ⟨⟨RX1, TX1, 8, tyX1, rfl, osinX1, nmX1, tyX1_ok, (Nat.le_of_ble_eq_true rfl), rfl, rfl, rfl, Or.inl rfl⟩, fun _ h => absurd h List.not_mem_nil⟩⟩
theorem mdX1_findAttacker : osMd yX1_findAttacker cX1_findAttacker 3 (some .int) 1 := ⟨wd1374, wd156, ⟨by decide +kernel, by decide +kernel⟩, by decide +kernel⟩
theorem sl1_X1_findAttacker_X1_findAttacker : osSl [1] yX1_findAttacker yX1_findAttacker := List.forall_mem_cons.mpr ⟨⟨_, rfl, wd1373⟩, fun _ h => absurd h List.not_mem_nil⟩
theorem mdX7_readConvoy : osMd yX7_readConvoy cX7_readConvoy 6 (some .boolean) 3 := ⟨wd1093, wd155, ⟨by decide +kernel, by decide +kernel⟩, by decide +kernel⟩
theorem sl6_X7_readConvoy_X7_readConvoy : osSl [6] yX7_readConvoy yX7_readConvoy := List.forall_mem_cons.mpr ⟨⟨_, rfl, wd22⟩, fun _ h => absurd h List.not_mem_nil⟩
theorem mdX7_readSupport : osMd yX7_readSupport cX7_readSupport 6 (some .boolean) 3 := ⟨wd1071, wd155, ⟨by decide +kernel, by decide +kernel⟩, by decide +kernel⟩
theorem sl6_X7_readSupport_X7_readSupport : osSl [6] yX7_readSupport yX7_readSupport := List.forall_mem_cons.mpr ⟨⟨_, rfl, wd21⟩, fun _ h => absurd h List.not_mem_nil⟩
theorem mdX7_readMove : osMd yX7_readMove cX7_readMove 5 (some .boolean) 3 := ⟨wd1048, wd155, ⟨by decide +kernel, by decide +kernel⟩, by decide +kernel⟩
theorem sl6_X7_readMove_X7_readMove : osSl [6] yX7_readMove yX7_readMove := List.forall_mem_cons.mpr ⟨⟨_, rfl, wd19⟩, fun _ h => absurd h List.not_mem_nil⟩
theorem dfX4 : ∀ j, j < 2 → defaultValue (tyX4 j) = vp_V [.null, .int 0] j := by decide +kernel
theorem mdX4_init : osMd yX4_init cX4_init 1 none 0 := ⟨wd189, wd152, ⟨by decide +kernel, by decide +kernel⟩, by decide +kernel⟩
theorem dfX3 : ∀ j, j < 10 → defaultValue (tyX3 j) = vp_V [.null, .int 0, .int 0, .int 0, .int 0, .long 0, .int 0, .int 0, .int 0, .int 0] j := by decide +kernel
theorem mdX3_init : osMd yX3_init cX3_init 1 none 0 := ⟨wd205, wd154, ⟨by decide +kernel, by decide +kernel⟩, by decide +kernel⟩
theorem fX9_33 : osFd RX9 33 [7] 5 (.object "OrderSettler$MapReader") true := ⟨"OrderSettler", "mapReader", "LOrderSettler$MapReader;", wd534, rfl, List.forall_mem_cons.mpr ⟨⟨RX9, TX9, 14, tyX9, rfl, osinX9, nmX9, tyX9_ok, (Nat.le_of_ble_eq_true rfl), rfl, rfl, rfl, Or.inl rfl⟩, fun _ h => absurd h List.not_mem_nil⟩⟩
theorem dfX7 : ∀ j, j < 10 → defaultValue (tyX7 j) = vp_V [.null, .int 0, .int 0, .int 0, .int 0, .long 0, .int 0, .int 0, .int 0, .int 0] j := by decide +kernel
theorem mdX7_init : osMd yX7_init cX7_init 1 none 0 := ⟨wd255, wd155, ⟨by decide +kernel, by decide +kernel⟩, by decide +kernel⟩
theorem fX9_40 : osFd RX9 40 [7] 6 (.object "OrderSettler$TurnReader") true := ⟨"OrderSettler", "turnReader", "LOrderSettler$TurnReader;", wd535, rfl, List.forall_mem_cons.mpr ⟨⟨RX9, TX9, 14, tyX9, rfl, osinX9, nmX9, tyX9_ok, (Nat.le_of_ble_eq_true rfl), rfl, rfl, rfl, Or.inl rfl⟩, fun _ h => absurd h List.not_mem_nil⟩⟩
theorem dfX1 : ∀ j, j < 8 → defaultValue (tyX1 j) = vp_V [.null, .int 0, .int 0, .int 0, .int 0, .int 0, .int 0, .int 0] j := by decide +kernel
theorem mdX1_init : osMd yX1_init cX1_init 1 none 0 := ⟨wd272, wd156, ⟨by decide +kernel, by decide +kernel⟩, by decide +kernel⟩
theorem fX9_47 : osFd RX9 47 [7] 7 (.object "OrderSettler$Judge") true := ⟨"OrderSettler", "judge", "LOrderSettler$Judge;", wd536, rfl, List.forall_mem_cons.mpr ⟨⟨RX9, TX9, 14, tyX9, rfl, osinX9, nmX9, tyX9_ok, (Nat.le_of_ble_eq_true rfl), rfl, rfl, rfl, Or.inl rfl⟩, fun _ h => absurd h List.not_mem_nil⟩⟩
theorem dfX0 : ∀ j, j < 10 → defaultValue (tyX0 j) = vp_V [.int 0, .int 0, .int 0, .int 0, .int 0, .null, .null, .null, .null, .null] j := by decide +kernel
theorem mdX0_init : osMd yX0_init cX0_init 1 none 0 := ⟨wd382, wd158, ⟨by decide +kernel, by decide +kernel⟩, by decide +kernel⟩
theorem fX9_67 : osFd RX9 67 [7] 11 (.object "OrderSettler$Board") false := ⟨"OrderSettler", "spareBoard", "LOrderSettler$Board;", wd540, rfl, List.forall_mem_cons.mpr ⟨⟨RX9, TX9, 14, tyX9, rfl, osinX9, nmX9, tyX9_ok, (Nat.le_of_ble_eq_true rfl), rfl, rfl, rfl, Or.inl rfl⟩, fun _ h => absurd h List.not_mem_nil⟩⟩
theorem dfX5 : ∀ j, j < 16 → defaultValue (tyX5 j) = vp_V [.int 0, .int 0, .int 0, .int 0, .int 0, .null, .null, .null, .null, .null, .null, .null, .null, .null, .null, .null] j := by decide +kernel
theorem mdX5_init : osMd yX5_init cX5_init 1 none 0 := ⟨wd438, wd159, ⟨by decide +kernel, by decide +kernel⟩, by decide +kernel⟩
theorem mdX9_putRoute : osMd yX9_putRoute cX9_putRoute 3 none 2 := ⟨wd1554, wd151, ⟨by decide +kernel, by decide +kernel⟩, by decide +kernel⟩
theorem sl7_X9_putRoute_X9_putRoute : osSl [7] yX9_putRoute yX9_putRoute := List.forall_mem_cons.mpr ⟨⟨_, rfl, wd53⟩, fun _ h => absurd h List.not_mem_nil⟩
theorem mdX1_weigh : osMd yX1_weigh cX1_weigh 4 none 1 := ⟨wd1331, wd156, ⟨by decide +kernel, by decide +kernel⟩, by decide +kernel⟩
theorem sl1_X1_weigh_X1_weigh : osSl [1] yX1_weigh yX1_weigh := List.forall_mem_cons.mpr ⟨⟨_, rfl, wd40⟩, fun _ h => absurd h List.not_mem_nil⟩
theorem mdX1_isConsistent : osMd yX1_isConsistent cX1_isConsistent 2 (some .boolean) 0 := ⟨wd1342, wd156, ⟨by decide +kernel, by decide +kernel⟩, by decide +kernel⟩
theorem sl1_X1_isConsistent_X1_isConsistent : osSl [1] yX1_isConsistent yX1_isConsistent := List.forall_mem_cons.mpr ⟨⟨_, rfl, wd42⟩, fun _ h => absurd h List.not_mem_nil⟩
theorem mdX3_readUnit : osMd yX3_readUnit cX3_readUnit 8 (some .boolean) 4 := ⟨wd968, wd154, ⟨by decide +kernel, by decide +kernel⟩, by decide +kernel⟩
theorem sl3_X3_readUnit_X3_readUnit : osSl [3] yX3_readUnit yX3_readUnit := List.forall_mem_cons.mpr ⟨⟨_, rfl, wd14⟩, fun _ h => absurd h List.not_mem_nil⟩
theorem mdX3_readPower : osMd yX3_readPower cX3_readPower 7 (some .boolean) 3 := ⟨wd936, wd154, ⟨by decide +kernel, by decide +kernel⟩, by decide +kernel⟩
theorem sl3_X3_readPower_X3_readPower : osSl [3] yX3_readPower yX3_readPower := List.forall_mem_cons.mpr ⟨⟨_, rfl, wd12⟩, fun _ h => absurd h List.not_mem_nil⟩
theorem mdX3_readBorder : osMd yX3_readBorder cX3_readBorder 9 (some .boolean) 1 := ⟨wd895, wd154, ⟨by decide +kernel, by decide +kernel⟩, by decide +kernel⟩
theorem sl3_X3_readBorder_X3_readBorder : osSl [3] yX3_readBorder yX3_readBorder := List.forall_mem_cons.mpr ⟨⟨_, rfl, wd11⟩, fun _ h => absurd h List.not_mem_nil⟩
theorem mdX3_readArea : osMd yX3_readArea cX3_readArea 7 (some .boolean) 3 := ⟨wd854, wd154, ⟨by decide +kernel, by decide +kernel⟩, by decide +kernel⟩
theorem sl3_X3_readArea_X3_readArea : osSl [3] yX3_readArea yX3_readArea := List.forall_mem_cons.mpr ⟨⟨_, rfl, wd10⟩, fun _ h => absurd h List.not_mem_nil⟩
theorem fX7_26 : osFd RX7 26 [5] 0 .int false := ⟨"OrderSettler$State", "phase", "I", wd461, rfl, List.forall_mem_cons.mpr ⟨⟨RX5, TX5, 16, tyX5, rfl, osinX5, nmX5, tyX5_ok, (Nat.le_of_ble_eq_true rfl), rfl, rfl, rfl, Or.inl rfl⟩, fun _ h => absurd h List.not_mem_nil⟩⟩
theorem mdX7_readRemoval : osMd yX7_readRemoval cX7_readRemoval 4 (some .boolean) 2 := ⟨wd1152, wd155, ⟨by decide +kernel, by decide +kernel⟩, by decide +kernel⟩
theorem sl6_X7_readRemoval_X7_readRemoval : osSl [6] yX7_readRemoval yX7_readRemoval := List.forall_mem_cons.mpr ⟨⟨_, rfl, wd26⟩, fun _ h => absurd h List.not_mem_nil⟩
theorem mdX7_readBuild : osMd yX7_readBuild cX7_readBuild 7 (some .boolean) 2 := ⟨wd1122, wd155, ⟨by decide +kernel, by decide +kernel⟩, by decide +kernel⟩
theorem sl6_X7_readBuild_X7_readBuild : osSl [6] yX7_readBuild yX7_readBuild := List.forall_mem_cons.mpr ⟨⟨_, rfl, wd24⟩, fun _ h => absurd h List.not_mem_nil⟩
theorem mdX7_readRetreat : osMd yX7_readRetreat cX7_readRetreat 5 (some .boolean) 2 := ⟨wd1101, wd155, ⟨by decide +kernel, by decide +kernel⟩, by decide +kernel⟩
theorem sl6_X7_readRetreat_X7_readRetreat : osSl [6] yX7_readRetreat yX7_readRetreat := List.forall_mem_cons.mpr ⟨⟨_, rfl, wd23⟩, fun _ h => absurd h List.not_mem_nil⟩
theorem mdX7_readOrder : osMd yX7_readOrder cX7_readOrder 4 (some .boolean) 2 := ⟨wd1029, wd155, ⟨by decide +kernel, by decide +kernel⟩, by decide +kernel⟩
theorem sl6_X7_readOrder_X7_readOrder : osSl [6] yX7_readOrder yX7_readOrder := List.forall_mem_cons.mpr ⟨⟨_, rfl, wd18⟩, fun _ h => absurd h List.not_mem_nil⟩
theorem mdX9_putOrder : osMd yX9_putOrder cX9_putOrder 4 none 3 := ⟨wd1548, wd151, ⟨by decide +kernel, by decide +kernel⟩, by decide +kernel⟩
theorem sl7_X9_putOrder_X9_putOrder : osSl [7] yX9_putOrder yX9_putOrder := List.forall_mem_cons.mpr ⟨⟨_, rfl, wd52⟩, fun _ h => absurd h List.not_mem_nil⟩
theorem mdX9_writeOrders : osMd yX9_writeOrders cX9_writeOrders 2 (some .int) 0 := ⟨wd1544, wd151, ⟨by decide +kernel, by decide +kernel⟩, by decide +kernel⟩
theorem sl7_X9_writeOrders_X9_writeOrders : osSl [7] yX9_writeOrders yX9_writeOrders := List.forall_mem_cons.mpr ⟨⟨_, rfl, wd1543⟩, fun _ h => absurd h List.not_mem_nil⟩
theorem mdX2_prepare : osMd yX2_prepare cX2_prepare 4 none 2 := ⟨wd1295, wd157, ⟨by decide +kernel, by decide +kernel⟩, by decide +kernel⟩
theorem sl2_X2_prepare_X2_prepare : osSl [2] yX2_prepare yX2_prepare := List.forall_mem_cons.mpr ⟨⟨_, rfl, wd1294⟩, fun _ h => absurd h List.not_mem_nil⟩
theorem mdX1_search : osMd yX1_search cX1_search 9 (some .int) 0 := ⟨wd1325, wd156, ⟨by decide +kernel, by decide +kernel⟩, by decide +kernel⟩
theorem sl1_X1_search_X1_search : osSl [1] yX1_search yX1_search := List.forall_mem_cons.mpr ⟨⟨_, rfl, wd39⟩, fun _ h => absurd h List.not_mem_nil⟩
theorem mdX6_begin : osMd yX6_begin cX6_begin 3 none 2 := ⟨wd825, wd153, ⟨by decide +kernel, by decide +kernel⟩, by decide +kernel⟩
theorem sl3_X3ibegin_X6_begin : osSl [3] (⟨RX3, "begin", "([BI)V"⟩ : MethodName) yX6_begin := List.forall_mem_cons.mpr ⟨⟨_, rfl, wd823⟩, fun _ h => absurd h List.not_mem_nil⟩
theorem mdX6_isAtEnd : osMd yX6_isAtEnd cX6_isAtEnd 1 (some .boolean) 0 := ⟨wd838, wd153, ⟨by decide +kernel, by decide +kernel⟩, by decide +kernel⟩
theorem sl3_X3iisAtEnd_X6_isAtEnd : osSl [3] (⟨RX3, "isAtEnd", "()Z"⟩ : MethodName) yX6_isAtEnd := List.forall_mem_cons.mpr ⟨⟨_, rfl, wd836⟩, fun _ h => absurd h List.not_mem_nil⟩
theorem mdX3_readStatement : osMd yX3_readStatement cX3_readStatement 4 (some .boolean) 2 := ⟨wd842, wd154, ⟨by decide +kernel, by decide +kernel⟩, by decide +kernel⟩
theorem sl3_X3_readStatement_X3_readStatement : osSl [3] yX3_readStatement yX3_readStatement := List.forall_mem_cons.mpr ⟨⟨_, rfl, wd9⟩, fun _ h => absurd h List.not_mem_nil⟩
theorem mdX6_takeSemicolon : osMd yX6_takeSemicolon cX6_takeSemicolon 1 (some .boolean) 0 := ⟨wd983, wd153, ⟨by decide +kernel, by decide +kernel⟩, by decide +kernel⟩
theorem sl3_X3itakeSemicolon_X6_takeSemicolon : osSl [3] (⟨RX3, "takeSemicolon", "()Z"⟩ : MethodName) yX6_takeSemicolon := List.forall_mem_cons.mpr ⟨⟨_, rfl, wd981⟩, fun _ h => absurd h List.not_mem_nil⟩
theorem sl6_X7ibegin_X6_begin : osSl [6] (⟨RX7, "begin", "([BI)V"⟩ : MethodName) yX6_begin := List.forall_mem_cons.mpr ⟨⟨_, rfl, wd1018⟩, fun _ h => absurd h List.not_mem_nil⟩
theorem sl6_X7iisAtEnd_X6_isAtEnd : osSl [6] (⟨RX7, "isAtEnd", "()Z"⟩ : MethodName) yX6_isAtEnd := List.forall_mem_cons.mpr ⟨⟨_, rfl, wd1021⟩, fun _ h => absurd h List.not_mem_nil⟩
theorem mdX7_readOne : osMd yX7_readOne cX7_readOne 3 (some .boolean) 2 := ⟨wd1025, wd155, ⟨by decide +kernel, by decide +kernel⟩, by decide +kernel⟩
theorem sl6_X7_readOne_X7_readOne : osSl [6] yX7_readOne yX7_readOne := List.forall_mem_cons.mpr ⟨⟨_, rfl, wd17⟩, fun _ h => absurd h List.not_mem_nil⟩
theorem sl6_X7itakeSemicolon_X6_takeSemicolon : osSl [6] (⟨RX7, "takeSemicolon", "()Z"⟩ : MethodName) yX6_takeSemicolon := List.forall_mem_cons.mpr ⟨⟨_, rfl, wd1159⟩, fun _ h => absurd h List.not_mem_nil⟩
theorem mdX3_readMap : osMd yX3_readMap cX3_readMap 6 (some .boolean) 4 := ⟨wd817, wd154, ⟨by decide +kernel, by decide +kernel⟩, by decide +kernel⟩
theorem sl3_X3_readMap_X3_readMap : osSl [3] yX3_readMap yX3_readMap := List.forall_mem_cons.mpr ⟨⟨_, rfl, wd816⟩, fun _ h => absurd h List.not_mem_nil⟩
theorem mdX9_noteError : osMd yX9_noteError cX9_noteError 2 none 1 := ⟨wd987, wd151, ⟨by decide +kernel, by decide +kernel⟩, by decide +kernel⟩
theorem sl7_X9_noteError_X9_noteError : osSl [7] yX9_noteError yX9_noteError := List.forall_mem_cons.mpr ⟨⟨_, rfl, wd15⟩, fun _ h => absurd h List.not_mem_nil⟩
theorem mdX9_adoptDraft : osMd yX9_adoptDraft cX9_adoptDraft 2 none 0 := ⟨wd992, wd151, ⟨by decide +kernel, by decide +kernel⟩, by decide +kernel⟩
theorem sl7_X9_adoptDraft_X9_adoptDraft : osSl [7] yX9_adoptDraft yX9_adoptDraft := List.forall_mem_cons.mpr ⟨⟨_, rfl, wd16⟩, fun _ h => absurd h List.not_mem_nil⟩
theorem mdX7_readAll : osMd yX7_readAll cX7_readAll 6 (some .int) 4 := ⟨wd1015, wd155, ⟨by decide +kernel, by decide +kernel⟩, by decide +kernel⟩
theorem sl6_X7_readAll_X7_readAll : osSl [6] yX7_readAll yX7_readAll := List.forall_mem_cons.mpr ⟨⟨_, rfl, wd1014⟩, fun _ h => absurd h List.not_mem_nil⟩
theorem mdX1_decide : osMd yX1_decide cX1_decide 3 none 2 := ⟨wd1291, wd156, ⟨by decide +kernel, by decide +kernel⟩, by decide +kernel⟩
theorem sl1_X1_decide_X1_decide : osSl [1] yX1_decide yX1_decide := List.forall_mem_cons.mpr ⟨⟨_, rfl, wd1290⟩, fun _ h => absurd h List.not_mem_nil⟩
theorem mdX5_carryOut : osMd yX5_carryOut cX5_carryOut 6 none 2 := ⟨wd1369, wd159, ⟨by decide +kernel, by decide +kernel⟩, by decide +kernel⟩
theorem sl5_X5_carryOut_X5_carryOut : osSl [5] yX5_carryOut yX5_carryOut := List.forall_mem_cons.mpr ⟨⟨_, rfl, wd1368⟩, fun _ h => absurd h List.not_mem_nil⟩
theorem fX9_233 : osFd RX9 233 [1] 6 .int false := ⟨"OrderSettler$Judge", "dislodged", "I", wd355, rfl, List.forall_mem_cons.mpr ⟨⟨RX1, TX1, 8, tyX1, rfl, osinX1, nmX1, tyX1_ok, (Nat.le_of_ble_eq_true rfl), rfl, rfl, rfl, Or.inl rfl⟩, fun _ h => absurd h List.not_mem_nil⟩⟩
theorem fX9_240 : osFd RX9 240 [1] 5 .int false := ⟨"OrderSettler$Judge", "success", "I", wd352, rfl, List.forall_mem_cons.mpr ⟨⟨RX1, TX1, 8, tyX1, rfl, osinX1, nmX1, tyX1_ok, (Nat.le_of_ble_eq_true rfl), rfl, rfl, rfl, Or.inl rfl⟩, fun _ h => absurd h List.not_mem_nil⟩⟩
theorem mdX9_load : osMd yX9_load cX9_load 4 (some .int) 1 := ⟨wd793, wd151, ⟨by decide +kernel, by decide +kernel⟩, by decide +kernel⟩
theorem sl7_X9_load_X9_load : osSl [7] yX9_load yX9_load := List.forall_mem_cons.mpr ⟨⟨_, rfl, wd792⟩, fun _ h => absurd h List.not_mem_nil⟩
theorem mdX9_tell : osMd yX9_tell cX9_tell 3 (some .int) 1 := ⟨wd1000, wd151, ⟨by decide +kernel, by decide +kernel⟩, by decide +kernel⟩
theorem sl7_X9_tell_X9_tell : osSl [7] yX9_tell yX9_tell := List.forall_mem_cons.mpr ⟨⟨_, rfl, wd999⟩, fun _ h => absurd h List.not_mem_nil⟩
theorem mdX9_settle : osMd yX9_settle cX9_settle 1 (some .int) 0 := ⟨wd1283, wd151, ⟨by decide +kernel, by decide +kernel⟩, by decide +kernel⟩
theorem sl7_X9_settle_X9_settle : osSl [7] yX9_settle yX9_settle := List.forall_mem_cons.mpr ⟨⟨_, rfl, wd1282⟩, fun _ h => absurd h List.not_mem_nil⟩
theorem mdX9_foresee : osMd yX9_foresee cX9_foresee 3 (some .int) 2 := ⟨wd1478, wd151, ⟨by decide +kernel, by decide +kernel⟩, by decide +kernel⟩
theorem sl7_X9_foresee_X9_foresee : osSl [7] yX9_foresee yX9_foresee := List.forall_mem_cons.mpr ⟨⟨_, rfl, wd1477⟩, fun _ h => absurd h List.not_mem_nil⟩
theorem mdX9_foreseeMove : osMd yX9_foreseeMove cX9_foreseeMove 3 (some .int) 2 := ⟨wd1486, wd151, ⟨by decide +kernel, by decide +kernel⟩, by decide +kernel⟩
theorem sl7_X9_foreseeMove_X9_foreseeMove : osSl [7] yX9_foreseeMove yX9_foreseeMove := List.forall_mem_cons.mpr ⟨⟨_, rfl, wd1485⟩, fun _ h => absurd h List.not_mem_nil⟩
theorem mdX10_feed : osMd yX10_feed cX10_feed 6 (some .int) 5 := ⟨wd1741, wd160, ⟨by decide +kernel, by decide +kernel⟩, by decide +kernel⟩
theorem sl8_X10_feed_X10_feed : osSl [8] yX10_feed yX10_feed := List.forall_mem_cons.mpr ⟨⟨_, rfl, wd1740⟩, fun _ h => absurd h List.not_mem_nil⟩
theorem mdX10_thrown : osMd yX10_thrown cX10_thrown 1 (some .int) 0 := ⟨wd1737, wd160, ⟨by decide +kernel, by decide +kernel⟩, by decide +kernel⟩
theorem sl8_X10_thrown_X10_thrown : osSl [8] yX10_thrown yX10_thrown := List.forall_mem_cons.mpr ⟨⟨_, rfl, wd1736⟩, fun _ h => absurd h List.not_mem_nil⟩
theorem mdX10_load : osMd yX10_load cX10_load 2 (some .int) 1 := ⟨wd1765, wd160, ⟨by decide +kernel, by decide +kernel⟩, by decide +kernel⟩
theorem sl8_X10_load_X10_load : osSl [8] yX10_load yX10_load := List.forall_mem_cons.mpr ⟨⟨_, rfl, wd1764⟩, fun _ h => absurd h List.not_mem_nil⟩
theorem mdX10_tell : osMd yX10_tell cX10_tell 2 (some .int) 1 := ⟨wd1897, wd160, ⟨by decide +kernel, by decide +kernel⟩, by decide +kernel⟩
theorem sl8_X10_tell_X10_tell : osSl [8] yX10_tell yX10_tell := List.forall_mem_cons.mpr ⟨⟨_, rfl, wd1896⟩, fun _ h => absurd h List.not_mem_nil⟩
theorem mdX9_errorCode : osMd yX9_errorCode cX9_errorCode 1 (some .int) 0 := ⟨wd575, wd151, ⟨by decide +kernel, by decide +kernel⟩, by decide +kernel⟩
theorem sl7_X9_errorCode_X9_errorCode : osSl [7] yX9_errorCode yX9_errorCode := List.forall_mem_cons.mpr ⟨⟨_, rfl, wd574⟩, fun _ h => absurd h List.not_mem_nil⟩
theorem mdX10_errorCode : osMd yX10_errorCode cX10_errorCode 1 (some .int) 0 := ⟨wd1753, wd160, ⟨by decide +kernel, by decide +kernel⟩, by decide +kernel⟩
theorem sl8_X10_errorCode_X10_errorCode : osSl [8] yX10_errorCode yX10_errorCode := List.forall_mem_cons.mpr ⟨⟨_, rfl, wd1752⟩, fun _ h => absurd h List.not_mem_nil⟩
theorem mdX9_errorPosition : osMd yX9_errorPosition cX9_errorPosition 1 (some .int) 0 := ⟨wd579, wd151, ⟨by decide +kernel, by decide +kernel⟩, by decide +kernel⟩
theorem sl7_X9_errorPosition_X9_errorPosition : osSl [7] yX9_errorPosition yX9_errorPosition := List.forall_mem_cons.mpr ⟨⟨_, rfl, wd578⟩, fun _ h => absurd h List.not_mem_nil⟩
theorem mdX10_errorPosition : osMd yX10_errorPosition cX10_errorPosition 1 (some .int) 0 := ⟨wd1761, wd160, ⟨by decide +kernel, by decide +kernel⟩, by decide +kernel⟩
theorem sl8_X10_errorPosition_X10_errorPosition : osSl [8] yX10_errorPosition yX10_errorPosition := List.forall_mem_cons.mpr ⟨⟨_, rfl, wd1760⟩, fun _ h => absurd h List.not_mem_nil⟩
theorem mdX9_areas : osMd yX9_areas cX9_areas 1 (some .int) 0 := ⟨wd583, wd151, ⟨by decide +kernel, by decide +kernel⟩, by decide +kernel⟩
theorem sl7_X9_areas_X9_areas : osSl [7] yX9_areas yX9_areas := List.forall_mem_cons.mpr ⟨⟨_, rfl, wd582⟩, fun _ h => absurd h List.not_mem_nil⟩
theorem mdX10_areas : osMd yX10_areas cX10_areas 1 (some .int) 0 := ⟨wd2004, wd160, ⟨by decide +kernel, by decide +kernel⟩, by decide +kernel⟩
theorem sl8_X10_areas_X10_areas : osSl [8] yX10_areas yX10_areas := List.forall_mem_cons.mpr ⟨⟨_, rfl, wd2003⟩, fun _ h => absurd h List.not_mem_nil⟩
theorem mdX9_powers : osMd yX9_powers cX9_powers 1 (some .int) 0 := ⟨wd587, wd151, ⟨by decide +kernel, by decide +kernel⟩, by decide +kernel⟩
theorem sl7_X9_powers_X9_powers : osSl [7] yX9_powers yX9_powers := List.forall_mem_cons.mpr ⟨⟨_, rfl, wd586⟩, fun _ h => absurd h List.not_mem_nil⟩
theorem mdX10_powers : osMd yX10_powers cX10_powers 1 (some .int) 0 := ⟨wd2008, wd160, ⟨by decide +kernel, by decide +kernel⟩, by decide +kernel⟩
theorem sl8_X10_powers_X10_powers : osSl [8] yX10_powers yX10_powers := List.forall_mem_cons.mpr ⟨⟨_, rfl, wd2007⟩, fun _ h => absurd h List.not_mem_nil⟩
theorem mdX10_area : osMd yX10_area cX10_area 3 (some .int) 2 := ⟨wd2012, wd160, ⟨by decide +kernel, by decide +kernel⟩, by decide +kernel⟩
theorem sl8_X10_area_X10_area : osSl [8] yX10_area yX10_area := List.forall_mem_cons.mpr ⟨⟨_, rfl, wd2011⟩, fun _ h => absurd h List.not_mem_nil⟩
theorem mdX10_named : osMd yX10_named cX10_named 5 (some .int) 1 := ⟨wd2024, wd160, ⟨by decide +kernel, by decide +kernel⟩, by decide +kernel⟩
theorem sl8_X10_named_X10_named : osSl [8] yX10_named yX10_named := List.forall_mem_cons.mpr ⟨⟨_, rfl, wd2023⟩, fun _ h => absurd h List.not_mem_nil⟩
theorem mdX10_passes_ : osMd yX10_passes_ cX10_passes_ 4 (some .boolean) 3 := ⟨wd2029, wd160, ⟨by decide +kernel, by decide +kernel⟩, by decide +kernel⟩
theorem sl8_X10_passes__X10_passes_ : osSl [8] yX10_passes_ yX10_passes_ := List.forall_mem_cons.mpr ⟨⟨_, rfl, wd2028⟩, fun _ h => absurd h List.not_mem_nil⟩
theorem mdX10_distance : osMd yX10_distance cX10_distance 6 (some .int) 3 := ⟨wd2033, wd160, ⟨by decide +kernel, by decide +kernel⟩, by decide +kernel⟩
theorem sl8_X10_distance_X10_distance : osSl [8] yX10_distance yX10_distance := List.forall_mem_cons.mpr ⟨⟨_, rfl, wd2032⟩, fun _ h => absurd h List.not_mem_nil⟩
theorem mdX10_power : osMd yX10_power cX10_power 3 (some .int) 2 := ⟨wd2041, wd160, ⟨by decide +kernel, by decide +kernel⟩, by decide +kernel⟩
theorem sl8_X10_power_X10_power : osSl [8] yX10_power yX10_power := List.forall_mem_cons.mpr ⟨⟨_, rfl, wd2040⟩, fun _ h => absurd h List.not_mem_nil⟩
theorem mdX9_phase : osMd yX9_phase cX9_phase 1 (some .int) 0 := ⟨wd591, wd151, ⟨by decide +kernel, by decide +kernel⟩, by decide +kernel⟩
theorem sl7_X9_phase_X9_phase : osSl [7] yX9_phase yX9_phase := List.forall_mem_cons.mpr ⟨⟨_, rfl, wd590⟩, fun _ h => absurd h List.not_mem_nil⟩
theorem mdX10_phase : osMd yX10_phase cX10_phase 1 (some .int) 0 := ⟨wd2053, wd160, ⟨by decide +kernel, by decide +kernel⟩, by decide +kernel⟩
theorem sl8_X10_phase_X10_phase : osSl [8] yX10_phase yX10_phase := List.forall_mem_cons.mpr ⟨⟨_, rfl, wd2052⟩, fun _ h => absurd h List.not_mem_nil⟩
theorem mdX9_turn : osMd yX9_turn cX9_turn 1 (some .int) 0 := ⟨wd595, wd151, ⟨by decide +kernel, by decide +kernel⟩, by decide +kernel⟩
theorem sl7_X9_turn_X9_turn : osSl [7] yX9_turn yX9_turn := List.forall_mem_cons.mpr ⟨⟨_, rfl, wd594⟩, fun _ h => absurd h List.not_mem_nil⟩
theorem mdX10_turn : osMd yX10_turn cX10_turn 1 (some .int) 0 := ⟨wd2057, wd160, ⟨by decide +kernel, by decide +kernel⟩, by decide +kernel⟩
theorem sl8_X10_turn_X10_turn : osSl [8] yX10_turn yX10_turn := List.forall_mem_cons.mpr ⟨⟨_, rfl, wd2056⟩, fun _ h => absurd h List.not_mem_nil⟩
theorem mdX10_order : osMd yX10_order cX10_order 3 (some .int) 2 := ⟨wd2061, wd160, ⟨by decide +kernel, by decide +kernel⟩, by decide +kernel⟩
theorem sl8_X10_order_X10_order : osSl [8] yX10_order yX10_order := List.forall_mem_cons.mpr ⟨⟨_, rfl, wd2060⟩, fun _ h => absurd h List.not_mem_nil⟩
theorem mdX10_settle : osMd yX10_settle cX10_settle 3 (some .int) 0 := ⟨wd2077, wd160, ⟨by decide +kernel, by decide +kernel⟩, by decide +kernel⟩
theorem sl8_X10_settle_X10_settle : osSl [8] yX10_settle yX10_settle := List.forall_mem_cons.mpr ⟨⟨_, rfl, wd2076⟩, fun _ h => absurd h List.not_mem_nil⟩
theorem mdX10_result : osMd yX10_result cX10_result 3 (some .int) 2 := ⟨wd2184, wd160, ⟨by decide +kernel, by decide +kernel⟩, by decide +kernel⟩
theorem sl8_X10_result_X10_result : osSl [8] yX10_result yX10_result := List.forall_mem_cons.mpr ⟨⟨_, rfl, wd2183⟩, fun _ h => absurd h List.not_mem_nil⟩
theorem mdX10_outcomes : osMd yX10_outcomes cX10_outcomes 1 (some .int) 0 := ⟨wd2188, wd160, ⟨by decide +kernel, by decide +kernel⟩, by decide +kernel⟩
theorem sl8_X10_outcomes_X10_outcomes : osSl [8] yX10_outcomes yX10_outcomes := List.forall_mem_cons.mpr ⟨⟨_, rfl, wd2187⟩, fun _ h => absurd h List.not_mem_nil⟩
theorem mdX10_isContested : osMd yX10_isContested cX10_isContested 2 (some .boolean) 1 := ⟨wd2192, wd160, ⟨by decide +kernel, by decide +kernel⟩, by decide +kernel⟩
theorem sl8_X10_isContested_X10_isContested : osSl [8] yX10_isContested yX10_isContested := List.forall_mem_cons.mpr ⟨⟨_, rfl, wd2191⟩, fun _ h => absurd h List.not_mem_nil⟩
theorem mdX10_mayRetreat : osMd yX10_mayRetreat cX10_mayRetreat 4 (some .boolean) 2 := ⟨wd2196, wd160, ⟨by decide +kernel, by decide +kernel⟩, by decide +kernel⟩
theorem sl8_X10_mayRetreat_X10_mayRetreat : osSl [8] yX10_mayRetreat yX10_mayRetreat := List.forall_mem_cons.mpr ⟨⟨_, rfl, wd2195⟩, fun _ h => absurd h List.not_mem_nil⟩
theorem mdX10_endRetreats : osMd yX10_endRetreats cX10_endRetreats 4 (some .int) 0 := ⟨wd2200, wd160, ⟨by decide +kernel, by decide +kernel⟩, by decide +kernel⟩
theorem sl8_X10_endRetreats_X10_endRetreats : osSl [8] yX10_endRetreats yX10_endRetreats := List.forall_mem_cons.mpr ⟨⟨_, rfl, wd2199⟩, fun _ h => absurd h List.not_mem_nil⟩
theorem mdX10_endBuilds : osMd yX10_endBuilds cX10_endBuilds 3 (some .int) 0 := ⟨wd2208, wd160, ⟨by decide +kernel, by decide +kernel⟩, by decide +kernel⟩
theorem sl8_X10_endBuilds_X10_endBuilds : osSl [8] yX10_endBuilds yX10_endBuilds := List.forall_mem_cons.mpr ⟨⟨_, rfl, wd2207⟩, fun _ h => absurd h List.not_mem_nil⟩
theorem mdX10_undo : osMd yX10_undo cX10_undo 2 (some .int) 0 := ⟨wd2069, wd160, ⟨by decide +kernel, by decide +kernel⟩, by decide +kernel⟩
theorem sl8_X10_undo_X10_undo : osSl [8] yX10_undo yX10_undo := List.forall_mem_cons.mpr ⟨⟨_, rfl, wd2068⟩, fun _ h => absurd h List.not_mem_nil⟩
theorem mdX9_undoCount : osMd yX9_undoCount cX9_undoCount 1 (some .int) 0 := ⟨wd599, wd151, ⟨by decide +kernel, by decide +kernel⟩, by decide +kernel⟩
theorem sl7_X9_undoCount_X9_undoCount : osSl [7] yX9_undoCount yX9_undoCount := List.forall_mem_cons.mpr ⟨⟨_, rfl, wd598⟩, fun _ h => absurd h List.not_mem_nil⟩
theorem mdX10_undoCount : osMd yX10_undoCount cX10_undoCount 1 (some .int) 0 := ⟨wd2073, wd160, ⟨by decide +kernel, by decide +kernel⟩, by decide +kernel⟩
theorem sl8_X10_undoCount_X10_undoCount : osSl [8] yX10_undoCount yX10_undoCount := List.forall_mem_cons.mpr ⟨⟨_, rfl, wd2072⟩, fun _ h => absurd h List.not_mem_nil⟩
theorem mdX10_foresee : osMd yX10_foresee cX10_foresee 3 (some .int) 2 := ⟨wd2212, wd160, ⟨by decide +kernel, by decide +kernel⟩, by decide +kernel⟩
theorem sl8_X10_foresee_X10_foresee : osSl [8] yX10_foresee yX10_foresee := List.forall_mem_cons.mpr ⟨⟨_, rfl, wd2211⟩, fun _ h => absurd h List.not_mem_nil⟩
theorem mdX10_foreseeMove : osMd yX10_foreseeMove cX10_foreseeMove 6 (some .int) 2 := ⟨wd2216, wd160, ⟨by decide +kernel, by decide +kernel⟩, by decide +kernel⟩
theorem sl8_X10_foreseeMove_X10_foreseeMove : osSl [8] yX10_foreseeMove yX10_foreseeMove := List.forall_mem_cons.mpr ⟨⟨_, rfl, wd2215⟩, fun _ h => absurd h List.not_mem_nil⟩
theorem mdX10_reach : osMd yX10_reach cX10_reach 4 (some .int) 3 := ⟨wd2220, wd160, ⟨by decide +kernel, by decide +kernel⟩, by decide +kernel⟩
theorem sl8_X10_reach_X10_reach : osSl [8] yX10_reach yX10_reach := List.forall_mem_cons.mpr ⟨⟨_, rfl, wd2219⟩, fun _ h => absurd h List.not_mem_nil⟩
theorem mdX10_isThreatened : osMd yX10_isThreatened cX10_isThreatened 3 (some .boolean) 1 := ⟨wd2228, wd160, ⟨by decide +kernel, by decide +kernel⟩, by decide +kernel⟩
theorem sl8_X10_isThreatened_X10_isThreatened : osSl [8] yX10_isThreatened yX10_isThreatened := List.forall_mem_cons.mpr ⟨⟨_, rfl, wd2227⟩, fun _ h => absurd h List.not_mem_nil⟩
theorem mdX10_share : osMd yX10_share cX10_share 2 (some .float) 1 := ⟨wd2232, wd160, ⟨by decide +kernel, by decide +kernel⟩, by decide +kernel⟩
theorem sl8_X10_share_X10_share : osSl [8] yX10_share yX10_share := List.forall_mem_cons.mpr ⟨⟨_, rfl, wd2231⟩, fun _ h => absurd h List.not_mem_nil⟩
theorem mdX10_shareBits : osMd yX10_shareBits cX10_shareBits 4 (some .int) 1 := ⟨wd2244, wd160, ⟨by decide +kernel, by decide +kernel⟩, by decide +kernel⟩
theorem sl8_X10_shareBits_X10_shareBits : osSl [8] yX10_shareBits yX10_shareBits := List.forall_mem_cons.mpr ⟨⟨_, rfl, wd2243⟩, fun _ h => absurd h List.not_mem_nil⟩
theorem mdX9_unevenness : osMd yX9_unevenness cX9_unevenness 1 (some .double) 0 := ⟨wd603, wd151, ⟨by decide +kernel, by decide +kernel⟩, by decide +kernel⟩
theorem sl7_X9_unevenness_X9_unevenness : osSl [7] yX9_unevenness yX9_unevenness := List.forall_mem_cons.mpr ⟨⟨_, rfl, wd602⟩, fun _ h => absurd h List.not_mem_nil⟩
theorem mdX10_unevenness : osMd yX10_unevenness cX10_unevenness 1 (some .double) 0 := ⟨wd2249, wd160, ⟨by decide +kernel, by decide +kernel⟩, by decide +kernel⟩
theorem sl8_X10_unevenness_X10_unevenness : osSl [8] yX10_unevenness yX10_unevenness := List.forall_mem_cons.mpr ⟨⟨_, rfl, wd2248⟩, fun _ h => absurd h List.not_mem_nil⟩
theorem mdX9_unevennessBits : osMd yX9_unevennessBits cX9_unevennessBits 1 (some .long) 0 := ⟨wd624, wd151, ⟨by decide +kernel, by decide +kernel⟩, by decide +kernel⟩
theorem sl7_X9_unevennessBits_X9_unevennessBits : osSl [7] yX9_unevennessBits yX9_unevennessBits := List.forall_mem_cons.mpr ⟨⟨_, rfl, wd623⟩, fun _ h => absurd h List.not_mem_nil⟩
theorem mdX10_unevennessBits : osMd yX10_unevennessBits cX10_unevennessBits 5 (some .long) 0 := ⟨wd2257, wd160, ⟨by decide +kernel, by decide +kernel⟩, by decide +kernel⟩
theorem sl8_X10_unevennessBits_X10_unevennessBits : osSl [8] yX10_unevennessBits yX10_unevennessBits := List.forall_mem_cons.mpr ⟨⟨_, rfl, wd2256⟩, fun _ h => absurd h List.not_mem_nil⟩
theorem mdX10_leader : osMd yX10_leader cX10_leader 3 (some .int) 0 := ⟨wd2264, wd160, ⟨by decide +kernel, by decide +kernel⟩, by decide +kernel⟩
theorem sl8_X10_leader_X10_leader : osSl [8] yX10_leader yX10_leader := List.forall_mem_cons.mpr ⟨⟨_, rfl, wd2263⟩, fun _ h => absurd h List.not_mem_nil⟩
theorem mdX9_writeUnits : osMd yX9_writeUnits cX9_writeUnits 2 (some .int) 0 := ⟨wd634, wd151, ⟨by decide +kernel, by decide +kernel⟩, by decide +kernel⟩
theorem sl7_X9_writeUnits_X9_writeUnits : osSl [7] yX9_writeUnits yX9_writeUnits := List.forall_mem_cons.mpr ⟨⟨_, rfl, wd633⟩, fun _ h => absurd h List.not_mem_nil⟩
theorem mdX10_writeUnits : osMd yX10_writeUnits cX10_writeUnits 2 (some .int) 0 := ⟨wd2272, wd160, ⟨by decide +kernel, by decide +kernel⟩, by decide +kernel⟩
theorem sl8_X10_writeUnits_X10_writeUnits : osSl [8] yX10_writeUnits yX10_writeUnits := List.forall_mem_cons.mpr ⟨⟨_, rfl, wd2271⟩, fun _ h => absurd h List.not_mem_nil⟩
theorem mdX10_writeOrders : osMd yX10_writeOrders cX10_writeOrders 2 (some .int) 0 := ⟨wd2289, wd160, ⟨by decide +kernel, by decide +kernel⟩, by decide +kernel⟩
theorem sl8_X10_writeOrders_X10_writeOrders : osSl [8] yX10_writeOrders yX10_writeOrders := List.forall_mem_cons.mpr ⟨⟨_, rfl, wd2288⟩, fun _ h => absurd h List.not_mem_nil⟩
theorem mdX10_outputByte : osMd yX10_outputByte cX10_outputByte 2 (some .int) 1 := ⟨wd2297, wd160, ⟨by decide +kernel, by decide +kernel⟩, by decide +kernel⟩
theorem sl8_X10_outputByte_X10_outputByte : osSl [8] yX10_outputByte yX10_outputByte := List.forall_mem_cons.mpr ⟨⟨_, rfl, wd2296⟩, fun _ h => absurd h List.not_mem_nil⟩
theorem dfX9 : ∀ j, j < 14 → defaultValue (tyX9 j) = vp_V [.null, .int 0, .null, .int 0, .int 0, .null, .null, .null, .null, .int 0, .null, .null, .null, .null] j := by decide +kernel
theorem mdX9_init : osMd yX9_init cX9_init 2 none 0 := ⟨wd181, wd151, ⟨by decide +kernel, by decide +kernel⟩, by decide +kernel⟩
theorem dfX10 : ∀ j, j < 43 → defaultValue (tyX10 j) = vp_V [.int 0, .null, .null, .null, .null, .null, .null, .null, .int 0, .null, .int 0, .int 0, .int 0, .int 0, .int 0, .int 0, .int 0, .int 0, .long 0, .int 0, .int 0, .null, .null, .null, .null, .null, .int 0, .int 0, .int 0, .int 0, .int 0, .int 0, .null, .null, .null, .null, .int 0, .int 0, .int 0, .null, .null, .null, .int 0] j := by decide +kernel
theorem mdX10_init : osMd yX10_init cX10_init 1 none 0 := ⟨wd1585, wd160, ⟨by decide +kernel, by decide +kernel⟩, by decide +kernel⟩
theorem mdJ3_checkIndex_8e157 : osMd yJ3_checkIndex_8e157 cJ3_checkIndex_8e157 3 (some .int) 3 := ⟨wd685, wd174, ⟨by decide +kernel, by decide +kernel⟩, by decide +kernel⟩
