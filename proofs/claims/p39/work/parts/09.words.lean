theorem osX_at {ws : List Cond} (ps : List Nat) (hp : ps.map (fun i => lw2[i]?) = ws.map some) (h : ws.all osOt = true) : ∀ w ∈ ws, w ∈ osX := by
  intro w hw
  obtain ⟨j, hj⟩ := List.getElem?_of_mem hw
  have h1 : (ps.map (fun i => lw2[i]?))[j]? = some (some w) := by rw [hp, List.getElem?_map, hj]; rfl
  rw [List.getElem?_map] at h1
  cases hi : ps[j]? with
  | none => rw [hi] at h1; cases h1
  | some i => rw [hi] at h1; exact osX_mem i (Option.some.inj h1) (List.all_eq_true.mp h w hw)
/-! the words that the rows use, and the facts made of them (by program) -/
theorem osinX0 : ∀ w ∈ u_ws RX0 TX0 10, w ∈ osX := osX_at [315, 317, 319, 321, 323, 325, 327, 329, 331, 333] (by decide +kernel) (by decide +kernel)
theorem osinX1 : ∀ w ∈ u_ws RX1 TX1 8, w ∈ osX := osX_at [262, 264, 266, 268, 270, 272, 274, 276] (by decide +kernel) (by decide +kernel)
theorem osinX2 : ∀ w ∈ u_ws RX2 TX2 16, w ∈ osX := osX_at [215, 217, 219, 221, 223, 225, 227, 229, 231, 233, 235, 237, 239, 241, 243, 245] (by decide +kernel) (by decide +kernel)
theorem osinX3 : ∀ w ∈ u_ws RX3 TX3 10, w ∈ osX := osX_at [133, 135, 137, 139, 141, 143, 145, 147, 149, 151] (by decide +kernel) (by decide +kernel)
theorem osinX4 : ∀ w ∈ u_ws RX4 TX4 2, w ∈ osX := osX_at [98, 100] (by decide +kernel) (by decide +kernel)
theorem osinX5 : ∀ w ∈ u_ws RX5 TX5 16, w ∈ osX := osX_at [396, 398, 400, 402, 404, 406, 408, 410, 412, 414, 416, 418, 420, 422, 424, 426] (by decide +kernel) (by decide +kernel)
theorem osinX7 : ∀ w ∈ u_ws RX7 TX7 10, w ∈ osX := osX_at [160, 161, 162, 163, 164, 165, 166, 167, 168, 169] (by decide +kernel) (by decide +kernel)
theorem osinX9 : ∀ w ∈ u_ws RX9 TX9 14, w ∈ osX := osX_at [443, 445, 447, 449, 451, 453, 455, 457, 459, 461, 463, 465, 467, 469] (by decide +kernel) (by decide +kernel)
theorem osinJ0 : ∀ w ∈ u_ws RJ0 TJ0 4, w ∈ osX := osX_at [1034, 1036, 1038, 1040] (by decide +kernel) (by decide +kernel)
theorem osinJ4 : ∀ w ∈ u_ws RJ4 TJ4 4, w ∈ osX := osX_at [855, 857, 859, 861] (by decide +kernel) (by decide +kernel)
def wk0 : List Cond := [.code yX9_init cX9_init 2 none, .code objectInit object_method_1_code 1 none, .code yX4_init cX4_init 1 none, .code yX3_init cX3_init 1 none, .code yX6_init cX6_init 1 none, .code yX7_init cX7_init 1 none, .code yX1_init cX1_init 1 none, .code yX2_init cX2_init 1 none, .code yX0_init cX0_init 1 none, .code yX0_clear cX0_clear 2 none, .code yX5_init cX5_init 1 none, .code yX5_clear cX5_clear 2 none, .code yX5_clearUnits cX5_clearUnits 2 none, .code yX5_clearDislodged cX5_clearDislodged 2 none, .code yX5_holdAll cX5_holdAll 2 none, .code yX5_giveOrder cX5_giveOrder 5 none, .code yX9_areas cX9_areas 1 (some .int), .code yX9_phase cX9_phase 1 (some .int), .code yX9_undoCount cX9_undoCount 1 (some .int), .code yL_next cL_next 1 (some .int), .codeWith yL_load method_4_code 4 (some .int) [(10, 15, 16, 34)], .code yL_type cL_type 5 none, .code yJ0_length_8abf5 cJ0_length_8abf5 1 (some .int), .code yJ0_coder_7d493 cJ0_coder_7d493 1 (some .byte), .code yJ0_charAt_5068e cJ0_charAt_5068e 2 (some .char), .code yJ0_isLatin1_aae02 cJ0_isLatin1_aae02 1 (some .boolean), .code yJ1_charAt_3b067 cJ1_charAt_3b067 2 (some .char), .code yJ0_checkIndex_df160 cJ0_checkIndex_df160 2 none, .code yJ3_checkIndex_8e157 cJ3_checkIndex_8e157 3 (some .int), .code yX9_feed cX9_feed 6 (some .int), .code yX9_append cX9_append 3 none, .code yX9_load cX9_load 4 (some .int), .code yX9_requireLength cX9_requireLength 3 none, .code yX3_readMap cX3_readMap 6 (some .boolean), .code yX6_begin cX6_begin 3 none, .code yJ9_min_7cf53 cJ9_min_7cf53 2 (some .int), .code yX6_advance cX6_advance 2 none, .code yX6_isAtEnd cX6_isAtEnd 1 (some .boolean), .code yX3_readStatement cX3_readStatement 4 (some .boolean), .code yX6_take cX6_take 2 (some .boolean), .code yX3_readArea cX3_readArea 7 (some .boolean), .code yX6_fail cX6_fail 3 (some .boolean), .code yX6_takeName cX6_takeName 2 (some .int), .code yX8_isKeyword cX8_isKeyword 3 (some .boolean), .code yX0_findArea cX0_findArea 3 (some .int), .code yX0_addArea cX0_addArea 5 none, .code yX9_bit cX9_bit 1 (some .int), .code yX3_readBorder cX3_readBorder 9 (some .boolean), .code yX6_takeArea cX6_takeArea 4 (some .int), .code yX0_hasBorder cX0_hasBorder 3 (some .boolean), .code yX0_letsPass cX0_letsPass 5 (some .boolean), .code yX0_suits cX0_suits 3 (some .boolean), .code yX9_has cX9_has 2 (some .boolean), .code yX0_addBorder cX0_addBorder 5 none, .code yX0_isArea cX0_isArea 2 (some .boolean), .code yX3_readPower cX3_readPower 7 (some .boolean), .code yX0_findPower cX0_findPower 3 (some .int), .code yX0_addPower cX0_addPower 3 (some .int), .code yX6_isAtWord cX6_isAtWord 1 (some .boolean), .code yX3_readHome cX3_readHome 5 (some .boolean)]
set_option maxRecDepth 100000 in
theorem wm0 : ∀ w ∈ wk0, w ∈ osX := osX_at [86, 89, 94, 108, 111, 158, 175, 181, 285, 290, 339, 344, 348, 352, 356, 360, 475, 479, 483, 486, 490, 494, 498, 502, 508, 512, 515, 518, 523, 546, 617, 621, 625, 645, 653, 656, 660, 666, 670, 678, 682, 688, 694, 697, 704, 710, 713, 723, 729, 735, 739, 747, 750, 754, 758, 764, 768, 772, 778, 782] rfl (by decide +kernel)
theorem wd86 : (.code yX9_init cX9_init 2 none : Cond) ∈ osX := wm0 _ (List.mem_of_getElem? (i := 0) rfl)
theorem wd89 : (.code objectInit object_method_1_code 1 none : Cond) ∈ osX := wm0 _ (List.mem_of_getElem? (i := 1) rfl)
theorem wd94 : (.code yX4_init cX4_init 1 none : Cond) ∈ osX := wm0 _ (List.mem_of_getElem? (i := 2) rfl)
theorem wd108 : (.code yX3_init cX3_init 1 none : Cond) ∈ osX := wm0 _ (List.mem_of_getElem? (i := 3) rfl)
theorem wd111 : (.code yX6_init cX6_init 1 none : Cond) ∈ osX := wm0 _ (List.mem_of_getElem? (i := 4) rfl)
theorem wd158 : (.code yX7_init cX7_init 1 none : Cond) ∈ osX := wm0 _ (List.mem_of_getElem? (i := 5) rfl)
theorem wd175 : (.code yX1_init cX1_init 1 none : Cond) ∈ osX := wm0 _ (List.mem_of_getElem? (i := 6) rfl)
theorem wd181 : (.code yX2_init cX2_init 1 none : Cond) ∈ osX := wm0 _ (List.mem_of_getElem? (i := 7) rfl)
theorem wd285 : (.code yX0_init cX0_init 1 none : Cond) ∈ osX := wm0 _ (List.mem_of_getElem? (i := 8) rfl)
theorem wd290 : (.code yX0_clear cX0_clear 2 none : Cond) ∈ osX := wm0 _ (List.mem_of_getElem? (i := 9) rfl)
theorem wd339 : (.code yX5_init cX5_init 1 none : Cond) ∈ osX := wm0 _ (List.mem_of_getElem? (i := 10) rfl)
theorem wd344 : (.code yX5_clear cX5_clear 2 none : Cond) ∈ osX := wm0 _ (List.mem_of_getElem? (i := 11) rfl)
theorem wd348 : (.code yX5_clearUnits cX5_clearUnits 2 none : Cond) ∈ osX := wm0 _ (List.mem_of_getElem? (i := 12) rfl)
theorem wd352 : (.code yX5_clearDislodged cX5_clearDislodged 2 none : Cond) ∈ osX := wm0 _ (List.mem_of_getElem? (i := 13) rfl)
theorem wd356 : (.code yX5_holdAll cX5_holdAll 2 none : Cond) ∈ osX := wm0 _ (List.mem_of_getElem? (i := 14) rfl)
theorem wd360 : (.code yX5_giveOrder cX5_giveOrder 5 none : Cond) ∈ osX := wm0 _ (List.mem_of_getElem? (i := 15) rfl)
theorem wd475 : (.code yX9_areas cX9_areas 1 (some .int) : Cond) ∈ osX := wm0 _ (List.mem_of_getElem? (i := 16) rfl)
theorem wd479 : (.code yX9_phase cX9_phase 1 (some .int) : Cond) ∈ osX := wm0 _ (List.mem_of_getElem? (i := 17) rfl)
theorem wd483 : (.code yX9_undoCount cX9_undoCount 1 (some .int) : Cond) ∈ osX := wm0 _ (List.mem_of_getElem? (i := 18) rfl)
theorem wd486 : (.code yL_next cL_next 1 (some .int) : Cond) ∈ osX := wm0 _ (List.mem_of_getElem? (i := 19) rfl)
theorem wd490 : (.codeWith yL_load method_4_code 4 (some .int) [(10, 15, 16, 34)] : Cond) ∈ osX := wm0 _ (List.mem_of_getElem? (i := 20) rfl)
theorem wd494 : (.code yL_type cL_type 5 none : Cond) ∈ osX := wm0 _ (List.mem_of_getElem? (i := 21) rfl)
theorem wd498 : (.code yJ0_length_8abf5 cJ0_length_8abf5 1 (some .int) : Cond) ∈ osX := wm0 _ (List.mem_of_getElem? (i := 22) rfl)
theorem wd502 : (.code yJ0_coder_7d493 cJ0_coder_7d493 1 (some .byte) : Cond) ∈ osX := wm0 _ (List.mem_of_getElem? (i := 23) rfl)
theorem wd508 : (.code yJ0_charAt_5068e cJ0_charAt_5068e 2 (some .char) : Cond) ∈ osX := wm0 _ (List.mem_of_getElem? (i := 24) rfl)
theorem wd512 : (.code yJ0_isLatin1_aae02 cJ0_isLatin1_aae02 1 (some .boolean) : Cond) ∈ osX := wm0 _ (List.mem_of_getElem? (i := 25) rfl)
theorem wd515 : (.code yJ1_charAt_3b067 cJ1_charAt_3b067 2 (some .char) : Cond) ∈ osX := wm0 _ (List.mem_of_getElem? (i := 26) rfl)
theorem wd518 : (.code yJ0_checkIndex_df160 cJ0_checkIndex_df160 2 none : Cond) ∈ osX := wm0 _ (List.mem_of_getElem? (i := 27) rfl)
theorem wd523 : (.code yJ3_checkIndex_8e157 cJ3_checkIndex_8e157 3 (some .int) : Cond) ∈ osX := wm0 _ (List.mem_of_getElem? (i := 28) rfl)
theorem wd546 : (.code yX9_feed cX9_feed 6 (some .int) : Cond) ∈ osX := wm0 _ (List.mem_of_getElem? (i := 29) rfl)
theorem wd617 : (.code yX9_append cX9_append 3 none : Cond) ∈ osX := wm0 _ (List.mem_of_getElem? (i := 30) rfl)
theorem wd621 : (.code yX9_load cX9_load 4 (some .int) : Cond) ∈ osX := wm0 _ (List.mem_of_getElem? (i := 31) rfl)
theorem wd625 : (.code yX9_requireLength cX9_requireLength 3 none : Cond) ∈ osX := wm0 _ (List.mem_of_getElem? (i := 32) rfl)
theorem wd645 : (.code yX3_readMap cX3_readMap 6 (some .boolean) : Cond) ∈ osX := wm0 _ (List.mem_of_getElem? (i := 33) rfl)
theorem wd653 : (.code yX6_begin cX6_begin 3 none : Cond) ∈ osX := wm0 _ (List.mem_of_getElem? (i := 34) rfl)
theorem wd656 : (.code yJ9_min_7cf53 cJ9_min_7cf53 2 (some .int) : Cond) ∈ osX := wm0 _ (List.mem_of_getElem? (i := 35) rfl)
theorem wd660 : (.code yX6_advance cX6_advance 2 none : Cond) ∈ osX := wm0 _ (List.mem_of_getElem? (i := 36) rfl)
theorem wd666 : (.code yX6_isAtEnd cX6_isAtEnd 1 (some .boolean) : Cond) ∈ osX := wm0 _ (List.mem_of_getElem? (i := 37) rfl)
theorem wd670 : (.code yX3_readStatement cX3_readStatement 4 (some .boolean) : Cond) ∈ osX := wm0 _ (List.mem_of_getElem? (i := 38) rfl)
theorem wd678 : (.code yX6_take cX6_take 2 (some .boolean) : Cond) ∈ osX := wm0 _ (List.mem_of_getElem? (i := 39) rfl)
theorem wd682 : (.code yX3_readArea cX3_readArea 7 (some .boolean) : Cond) ∈ osX := wm0 _ (List.mem_of_getElem? (i := 40) rfl)
theorem wd688 : (.code yX6_fail cX6_fail 3 (some .boolean) : Cond) ∈ osX := wm0 _ (List.mem_of_getElem? (i := 41) rfl)
theorem wd694 : (.code yX6_takeName cX6_takeName 2 (some .int) : Cond) ∈ osX := wm0 _ (List.mem_of_getElem? (i := 42) rfl)
theorem wd697 : (.code yX8_isKeyword cX8_isKeyword 3 (some .boolean) : Cond) ∈ osX := wm0 _ (List.mem_of_getElem? (i := 43) rfl)
theorem wd704 : (.code yX0_findArea cX0_findArea 3 (some .int) : Cond) ∈ osX := wm0 _ (List.mem_of_getElem? (i := 44) rfl)
theorem wd710 : (.code yX0_addArea cX0_addArea 5 none : Cond) ∈ osX := wm0 _ (List.mem_of_getElem? (i := 45) rfl)
theorem wd713 : (.code yX9_bit cX9_bit 1 (some .int) : Cond) ∈ osX := wm0 _ (List.mem_of_getElem? (i := 46) rfl)
theorem wd723 : (.code yX3_readBorder cX3_readBorder 9 (some .boolean) : Cond) ∈ osX := wm0 _ (List.mem_of_getElem? (i := 47) rfl)
theorem wd729 : (.code yX6_takeArea cX6_takeArea 4 (some .int) : Cond) ∈ osX := wm0 _ (List.mem_of_getElem? (i := 48) rfl)
theorem wd735 : (.code yX0_hasBorder cX0_hasBorder 3 (some .boolean) : Cond) ∈ osX := wm0 _ (List.mem_of_getElem? (i := 49) rfl)
theorem wd739 : (.code yX0_letsPass cX0_letsPass 5 (some .boolean) : Cond) ∈ osX := wm0 _ (List.mem_of_getElem? (i := 50) rfl)
theorem wd747 : (.code yX0_suits cX0_suits 3 (some .boolean) : Cond) ∈ osX := wm0 _ (List.mem_of_getElem? (i := 51) rfl)
theorem wd750 : (.code yX9_has cX9_has 2 (some .boolean) : Cond) ∈ osX := wm0 _ (List.mem_of_getElem? (i := 52) rfl)
theorem wd754 : (.code yX0_addBorder cX0_addBorder 5 none : Cond) ∈ osX := wm0 _ (List.mem_of_getElem? (i := 53) rfl)
theorem wd758 : (.code yX0_isArea cX0_isArea 2 (some .boolean) : Cond) ∈ osX := wm0 _ (List.mem_of_getElem? (i := 54) rfl)
theorem wd764 : (.code yX3_readPower cX3_readPower 7 (some .boolean) : Cond) ∈ osX := wm0 _ (List.mem_of_getElem? (i := 55) rfl)
theorem wd768 : (.code yX0_findPower cX0_findPower 3 (some .int) : Cond) ∈ osX := wm0 _ (List.mem_of_getElem? (i := 56) rfl)
theorem wd772 : (.code yX0_addPower cX0_addPower 3 (some .int) : Cond) ∈ osX := wm0 _ (List.mem_of_getElem? (i := 57) rfl)
theorem wd778 : (.code yX6_isAtWord cX6_isAtWord 1 (some .boolean) : Cond) ∈ osX := wm0 _ (List.mem_of_getElem? (i := 58) rfl)
theorem wd782 : (.code yX3_readHome cX3_readHome 5 (some .boolean) : Cond) ∈ osX := wm0 _ (List.mem_of_getElem? (i := 59) rfl)
def wk1 : List Cond := [.code yX9_entry cX9_entry 2 (some .int), .code yX0_makeHome cX0_makeHome 3 none, .code yX5_giveCenter cX5_giveCenter 3 none, .code yX3_readUnit cX3_readUnit 8 (some .boolean), .code yX5_countAllUnits cX5_countAllUnits 1 (some .int), .code yX5_countOf cX5_countOf 4 (some .int), .code yX5_hasUnit cX5_hasUnit 2 (some .boolean), .code yX5_placeUnit cX5_placeUnit 4 none, .code yX6_takeSemicolon cX6_takeSemicolon 1 (some .boolean), .code yX9_noteError cX9_noteError 2 none, .code yX9_adoptDraft cX9_adoptDraft 2 none, .code yL_map cL_map 7 (some (.object "java/lang/String")), .code yJ4_init_da8c8 cJ4_init_da8c8 1 none, .code yJ5_init_d00df cJ5_init_d00df 2 none, .code yJ4_append_15ec4 cJ4_append_15ec4 2 (some (.object "java/lang/StringBuilder")), .code yJ5_append_cf1ce cJ5_append_cf1ce 3 (some (.object "java/lang/AbstractStringBuilder")), .code yJ5_ensureCapacityInternal_d00df cJ5_ensureCapacityInternal_d00df 3 none, .code yJ5_newCapacity_0f7a4 cJ5_newCapacity_0f7a4 6 (some .int), .code yJ8_newLength_cabcc cJ8_newLength_cabcc 4 (some .int), .code yJ9_max_7cf53 cJ9_max_7cf53 2 (some .int), .code yJ7_copyOf_9075b cJ7_copyOf_9075b 3 (some (.array .byte)), .code yJ5_isLatin1_aae02 cJ5_isLatin1_aae02 1 (some .boolean), .code yJ5_putStringAt_47b60 cJ5_putStringAt_47b60 3 none, .code yJ5_inflateIfNeededFor_a7421 cJ5_inflateIfNeededFor_a7421 2 none, .code yJ0_getBytes_840e7 cJ0_getBytes_840e7 4 none, .code yJ4_append_cf468 cJ4_append_cf468 2 (some (.object "java/lang/StringBuilder")), .code yJ5_append_3fe6f cJ5_append_3fe6f 2 (some (.object "java/lang/AbstractStringBuilder")), .code yJ1_canEncode_fc78d cJ1_canEncode_fc78d 1 (some .boolean), .code yL_border cL_border 2 (some (.object "java/lang/String")), .code yJ4_toString_0e30d cJ4_toString_0e30d 1 (some (.object "java/lang/String")), .code yJ0_init_81219 cJ0_init_81219 2 none, .code yJ0_init_db425 cJ0_init_db425 5 none, .code yJ5_getValue_6d5f1 cJ5_getValue_6d5f1 1 (some (.array .byte)), .code yJ4_length_8abf5 cJ4_length_8abf5 1 (some .int), .code yJ5_length_8abf5 cJ5_length_8abf5 1 (some .int), .code yJ7_copyOfRange_39247 cJ7_copyOfRange_39247 3 (some (.array .byte)), .code yJ7_copyOfRangeByte_39247 cJ7_copyOfRangeByte_39247 5 (some (.array .byte)), .code yJ7_checkLength_df160 cJ7_checkLength_df160 2 none, .code yL_units cL_units 7 (some (.object "java/lang/String")), .code yL_orders cL_orders 6 (some .int), .code yX9_area cX9_area 3 (some .int), .code yX9_requireArea cX9_requireArea 2 none, .code yX9_requireReport cX9_requireReport 3 none, .code yX0_kindOf cX0_kindOf 2 (some .int), .code yL_order cL_order 5 (some (.object "java/lang/String")), .codeWith yL_tell method_5_code 4 (some .int) [(10, 15, 16, 34)], .code yX9_tell cX9_tell 3 (some .int), .code yX5_copyFrom cX5_copyFrom 2 none, .code yX5_copyRow cX5_copyRow 2 none, .code yX7_readAll cX7_readAll 6 (some .int), .code yX7_readOne cX7_readOne 3 (some .boolean), .code yX7_readOrder cX7_readOrder 4 (some .boolean), .code yX7_readMove cX7_readMove 5 (some .boolean), .code yX5_allowsMove cX5_allowsMove 4 (some .boolean), .code yX5_canGo cX5_canGo 5 (some .boolean), .code yX5_hasArmy cX5_hasArmy 2 (some .boolean), .code yX5_joinsCoasts cX5_joinsCoasts 3 (some .boolean), .code yX7_readSupport cX7_readSupport 6 (some .boolean), .code yX5_allowsUnitSupport cX5_allowsUnitSupport 4 (some .boolean), .code yX5_allowsMoveSupport cX5_allowsMoveSupport 5 (some .boolean)]
set_option maxRecDepth 100000 in
theorem wm1 : ∀ w ∈ wk1, w ∈ osX := osX_at [785, 790, 794, 798, 802, 805, 809, 814, 820, 824, 829, 833, 838, 841, 870, 873, 881, 885, 888, 891, 899, 915, 935, 939, 963, 969, 972, 975, 983, 989, 994, 997, 1003, 1009, 1011, 1015, 1018, 1021, 1046, 1051, 1055, 1059, 1080, 1085, 1090, 1097, 1101, 1105, 1108, 1114, 1124, 1128, 1147, 1151, 1155, 1160, 1163, 1170, 1174, 1179] rfl (by decide +kernel)
theorem wd785 : (.code yX9_entry cX9_entry 2 (some .int) : Cond) ∈ osX := wm1 _ (List.mem_of_getElem? (i := 0) rfl)
theorem wd790 : (.code yX0_makeHome cX0_makeHome 3 none : Cond) ∈ osX := wm1 _ (List.mem_of_getElem? (i := 1) rfl)
theorem wd794 : (.code yX5_giveCenter cX5_giveCenter 3 none : Cond) ∈ osX := wm1 _ (List.mem_of_getElem? (i := 2) rfl)
theorem wd798 : (.code yX3_readUnit cX3_readUnit 8 (some .boolean) : Cond) ∈ osX := wm1 _ (List.mem_of_getElem? (i := 3) rfl)
theorem wd802 : (.code yX5_countAllUnits cX5_countAllUnits 1 (some .int) : Cond) ∈ osX := wm1 _ (List.mem_of_getElem? (i := 4) rfl)
theorem wd805 : (.code yX5_countOf cX5_countOf 4 (some .int) : Cond) ∈ osX := wm1 _ (List.mem_of_getElem? (i := 5) rfl)
theorem wd809 : (.code yX5_hasUnit cX5_hasUnit 2 (some .boolean) : Cond) ∈ osX := wm1 _ (List.mem_of_getElem? (i := 6) rfl)
theorem wd814 : (.code yX5_placeUnit cX5_placeUnit 4 none : Cond) ∈ osX := wm1 _ (List.mem_of_getElem? (i := 7) rfl)
theorem wd820 : (.code yX6_takeSemicolon cX6_takeSemicolon 1 (some .boolean) : Cond) ∈ osX := wm1 _ (List.mem_of_getElem? (i := 8) rfl)
theorem wd824 : (.code yX9_noteError cX9_noteError 2 none : Cond) ∈ osX := wm1 _ (List.mem_of_getElem? (i := 9) rfl)
theorem wd829 : (.code yX9_adoptDraft cX9_adoptDraft 2 none : Cond) ∈ osX := wm1 _ (List.mem_of_getElem? (i := 10) rfl)
theorem wd833 : (.code yL_map cL_map 7 (some (.object "java/lang/String")) : Cond) ∈ osX := wm1 _ (List.mem_of_getElem? (i := 11) rfl)
theorem wd838 : (.code yJ4_init_da8c8 cJ4_init_da8c8 1 none : Cond) ∈ osX := wm1 _ (List.mem_of_getElem? (i := 12) rfl)
theorem wd841 : (.code yJ5_init_d00df cJ5_init_d00df 2 none : Cond) ∈ osX := wm1 _ (List.mem_of_getElem? (i := 13) rfl)
theorem wd870 : (.code yJ4_append_15ec4 cJ4_append_15ec4 2 (some (.object "java/lang/StringBuilder")) : Cond) ∈ osX := wm1 _ (List.mem_of_getElem? (i := 14) rfl)
theorem wd873 : (.code yJ5_append_cf1ce cJ5_append_cf1ce 3 (some (.object "java/lang/AbstractStringBuilder")) : Cond) ∈ osX := wm1 _ (List.mem_of_getElem? (i := 15) rfl)
theorem wd881 : (.code yJ5_ensureCapacityInternal_d00df cJ5_ensureCapacityInternal_d00df 3 none : Cond) ∈ osX := wm1 _ (List.mem_of_getElem? (i := 16) rfl)
theorem wd885 : (.code yJ5_newCapacity_0f7a4 cJ5_newCapacity_0f7a4 6 (some .int) : Cond) ∈ osX := wm1 _ (List.mem_of_getElem? (i := 17) rfl)
theorem wd888 : (.code yJ8_newLength_cabcc cJ8_newLength_cabcc 4 (some .int) : Cond) ∈ osX := wm1 _ (List.mem_of_getElem? (i := 18) rfl)
theorem wd891 : (.code yJ9_max_7cf53 cJ9_max_7cf53 2 (some .int) : Cond) ∈ osX := wm1 _ (List.mem_of_getElem? (i := 19) rfl)
theorem wd899 : (.code yJ7_copyOf_9075b cJ7_copyOf_9075b 3 (some (.array .byte)) : Cond) ∈ osX := wm1 _ (List.mem_of_getElem? (i := 20) rfl)
theorem wd915 : (.code yJ5_isLatin1_aae02 cJ5_isLatin1_aae02 1 (some .boolean) : Cond) ∈ osX := wm1 _ (List.mem_of_getElem? (i := 21) rfl)
theorem wd935 : (.code yJ5_putStringAt_47b60 cJ5_putStringAt_47b60 3 none : Cond) ∈ osX := wm1 _ (List.mem_of_getElem? (i := 22) rfl)
theorem wd939 : (.code yJ5_inflateIfNeededFor_a7421 cJ5_inflateIfNeededFor_a7421 2 none : Cond) ∈ osX := wm1 _ (List.mem_of_getElem? (i := 23) rfl)
theorem wd963 : (.code yJ0_getBytes_840e7 cJ0_getBytes_840e7 4 none : Cond) ∈ osX := wm1 _ (List.mem_of_getElem? (i := 24) rfl)
theorem wd969 : (.code yJ4_append_cf468 cJ4_append_cf468 2 (some (.object "java/lang/StringBuilder")) : Cond) ∈ osX := wm1 _ (List.mem_of_getElem? (i := 25) rfl)
theorem wd972 : (.code yJ5_append_3fe6f cJ5_append_3fe6f 2 (some (.object "java/lang/AbstractStringBuilder")) : Cond) ∈ osX := wm1 _ (List.mem_of_getElem? (i := 26) rfl)
theorem wd975 : (.code yJ1_canEncode_fc78d cJ1_canEncode_fc78d 1 (some .boolean) : Cond) ∈ osX := wm1 _ (List.mem_of_getElem? (i := 27) rfl)
theorem wd983 : (.code yL_border cL_border 2 (some (.object "java/lang/String")) : Cond) ∈ osX := wm1 _ (List.mem_of_getElem? (i := 28) rfl)
theorem wd989 : (.code yJ4_toString_0e30d cJ4_toString_0e30d 1 (some (.object "java/lang/String")) : Cond) ∈ osX := wm1 _ (List.mem_of_getElem? (i := 29) rfl)
theorem wd994 : (.code yJ0_init_81219 cJ0_init_81219 2 none : Cond) ∈ osX := wm1 _ (List.mem_of_getElem? (i := 30) rfl)
theorem wd997 : (.code yJ0_init_db425 cJ0_init_db425 5 none : Cond) ∈ osX := wm1 _ (List.mem_of_getElem? (i := 31) rfl)
theorem wd1003 : (.code yJ5_getValue_6d5f1 cJ5_getValue_6d5f1 1 (some (.array .byte)) : Cond) ∈ osX := wm1 _ (List.mem_of_getElem? (i := 32) rfl)
theorem wd1009 : (.code yJ4_length_8abf5 cJ4_length_8abf5 1 (some .int) : Cond) ∈ osX := wm1 _ (List.mem_of_getElem? (i := 33) rfl)
theorem wd1011 : (.code yJ5_length_8abf5 cJ5_length_8abf5 1 (some .int) : Cond) ∈ osX := wm1 _ (List.mem_of_getElem? (i := 34) rfl)
theorem wd1015 : (.code yJ7_copyOfRange_39247 cJ7_copyOfRange_39247 3 (some (.array .byte)) : Cond) ∈ osX := wm1 _ (List.mem_of_getElem? (i := 35) rfl)
theorem wd1018 : (.code yJ7_copyOfRangeByte_39247 cJ7_copyOfRangeByte_39247 5 (some (.array .byte)) : Cond) ∈ osX := wm1 _ (List.mem_of_getElem? (i := 36) rfl)
theorem wd1021 : (.code yJ7_checkLength_df160 cJ7_checkLength_df160 2 none : Cond) ∈ osX := wm1 _ (List.mem_of_getElem? (i := 37) rfl)
theorem wd1046 : (.code yL_units cL_units 7 (some (.object "java/lang/String")) : Cond) ∈ osX := wm1 _ (List.mem_of_getElem? (i := 38) rfl)
theorem wd1051 : (.code yL_orders cL_orders 6 (some .int) : Cond) ∈ osX := wm1 _ (List.mem_of_getElem? (i := 39) rfl)
theorem wd1055 : (.code yX9_area cX9_area 3 (some .int) : Cond) ∈ osX := wm1 _ (List.mem_of_getElem? (i := 40) rfl)
theorem wd1059 : (.code yX9_requireArea cX9_requireArea 2 none : Cond) ∈ osX := wm1 _ (List.mem_of_getElem? (i := 41) rfl)
theorem wd1080 : (.code yX9_requireReport cX9_requireReport 3 none : Cond) ∈ osX := wm1 _ (List.mem_of_getElem? (i := 42) rfl)
theorem wd1085 : (.code yX0_kindOf cX0_kindOf 2 (some .int) : Cond) ∈ osX := wm1 _ (List.mem_of_getElem? (i := 43) rfl)
theorem wd1090 : (.code yL_order cL_order 5 (some (.object "java/lang/String")) : Cond) ∈ osX := wm1 _ (List.mem_of_getElem? (i := 44) rfl)
theorem wd1097 : (.codeWith yL_tell method_5_code 4 (some .int) [(10, 15, 16, 34)] : Cond) ∈ osX := wm1 _ (List.mem_of_getElem? (i := 45) rfl)
theorem wd1101 : (.code yX9_tell cX9_tell 3 (some .int) : Cond) ∈ osX := wm1 _ (List.mem_of_getElem? (i := 46) rfl)
theorem wd1105 : (.code yX5_copyFrom cX5_copyFrom 2 none : Cond) ∈ osX := wm1 _ (List.mem_of_getElem? (i := 47) rfl)
theorem wd1108 : (.code yX5_copyRow cX5_copyRow 2 none : Cond) ∈ osX := wm1 _ (List.mem_of_getElem? (i := 48) rfl)
theorem wd1114 : (.code yX7_readAll cX7_readAll 6 (some .int) : Cond) ∈ osX := wm1 _ (List.mem_of_getElem? (i := 49) rfl)
theorem wd1124 : (.code yX7_readOne cX7_readOne 3 (some .boolean) : Cond) ∈ osX := wm1 _ (List.mem_of_getElem? (i := 50) rfl)
theorem wd1128 : (.code yX7_readOrder cX7_readOrder 4 (some .boolean) : Cond) ∈ osX := wm1 _ (List.mem_of_getElem? (i := 51) rfl)
theorem wd1147 : (.code yX7_readMove cX7_readMove 5 (some .boolean) : Cond) ∈ osX := wm1 _ (List.mem_of_getElem? (i := 52) rfl)
theorem wd1151 : (.code yX5_allowsMove cX5_allowsMove 4 (some .boolean) : Cond) ∈ osX := wm1 _ (List.mem_of_getElem? (i := 53) rfl)
theorem wd1155 : (.code yX5_canGo cX5_canGo 5 (some .boolean) : Cond) ∈ osX := wm1 _ (List.mem_of_getElem? (i := 54) rfl)
theorem wd1160 : (.code yX5_hasArmy cX5_hasArmy 2 (some .boolean) : Cond) ∈ osX := wm1 _ (List.mem_of_getElem? (i := 55) rfl)
theorem wd1163 : (.code yX5_joinsCoasts cX5_joinsCoasts 3 (some .boolean) : Cond) ∈ osX := wm1 _ (List.mem_of_getElem? (i := 56) rfl)
theorem wd1170 : (.code yX7_readSupport cX7_readSupport 6 (some .boolean) : Cond) ∈ osX := wm1 _ (List.mem_of_getElem? (i := 57) rfl)
theorem wd1174 : (.code yX5_allowsUnitSupport cX5_allowsUnitSupport 4 (some .boolean) : Cond) ∈ osX := wm1 _ (List.mem_of_getElem? (i := 58) rfl)
theorem wd1179 : (.code yX5_allowsMoveSupport cX5_allowsMoveSupport 5 (some .boolean) : Cond) ∈ osX := wm1 _ (List.mem_of_getElem? (i := 59) rfl)
def wk2 : List Cond := [.code yX6_takeOrFail cX6_takeOrFail 2 (some .boolean), .code yX7_readConvoy cX7_readConvoy 6 (some .boolean), .code yX5_allowsConvoy cX5_allowsConvoy 5 (some .boolean), .code yX7_readRetreat cX7_readRetreat 5 (some .boolean), .code yX5_hasDislodged cX5_hasDislodged 2 (some .boolean), .code yX5_giveRetreat cX5_giveRetreat 3 none, .code yX5_allowsRetreat cX5_allowsRetreat 4 (some .boolean), .code yX7_readBuild cX7_readBuild 7 (some .boolean), .code yX5_allowsBuild cX5_allowsBuild 4 (some .boolean), .code yX5_freeHomes cX5_freeHomes 5 (some .int), .code yX5_countBuilds cX5_countBuilds 5 (some .int), .code yX5_countCenters cX5_countCenters 2 (some .int), .code yX5_countUnits cX5_countUnits 2 (some .int), .code yJ6_bitCount_0f7a4 cJ6_bitCount_0f7a4 1 (some .int), .code yX7_readRemoval cX7_readRemoval 4 (some .boolean), .code yX5_needsRemoval cX5_needsRemoval 2 (some .boolean), .code yL_settles cL_settles 16 (some .boolean), .code yX9_order cX9_order 3 (some .int), .code yX9_requireUnit cX9_requireUnit 2 none, .code yX9_requirePhase cX9_requirePhase 2 none, .code yX9_foresee cX9_foresee 3 (some .int), .code yX1_decide cX1_decide 3 none, .code yX2_prepare cX2_prepare 4 none, .code yX2_clear cX2_clear 2 none, .code yX0_bordersOf cX0_bordersOf 3 (some .int), .code yX2_noteMove cX2_noteMove 5 none, .code yX2_linkSupport cX2_linkSupport 9 none, .code yX2_linkConvoy cX2_linkConvoy 5 none, .code yX2_linkMove cX2_linkMove 5 none, .code yX1_search cX1_search 9 (some .int), .code yX1_weigh cX1_weigh 4 none, .code yX1_isCarried cX1_isCarried 7 (some .boolean), .code yX1_isConsistent cX1_isConsistent 2 (some .boolean), .code yX1_shouldSucceed cX1_shouldSucceed 3 (some .boolean), .code yX1_attackOf cX1_attackOf 5 (some .int), .code yX1_resistanceTo cX1_resistanceTo 3 (some .int), .code yX1_preventionOf cX1_preventionOf 6 (some .int), .code yX1_strengthOf cX1_strengthOf 2 (some .int), .code yX1_explain cX1_explain 4 (some .int), .code yX1_summaryOf cX1_summaryOf 2 (some .int), .code yX1_reasonFor cX1_reasonFor 2 (some .int), .code yL_sum cL_sum 4 (some .int), .code yX9_turn cX9_turn 1 (some .int), .code yL_units_ cL_units_ 3 (some .int), .code yX9_settle cX9_settle 1 (some .int), .code yX9_remember cX9_remember 3 none, .code yX5_carryOut cX5_carryOut 6 none, .code yX1_findAttacker cX1_findAttacker 3 (some .int), .code yX1_findFailedGoals cX1_findFailedGoals 3 (some .int), .code yX1_explainAll cX1_explainAll 3 none, .code yX5_closeTurn cX5_closeTurn 3 none, .code yX5_beginTurn cX5_beginTurn 1 none, .code yX9_result cX9_result 3 (some .int), .code yX9_requireSettled cX9_requireSettled 1 none, .code yL_aside cL_aside 3 (some .int), .codeWith yL_undone method_12_code 2 (some .int) [(0, 4, 5, 34)], .code yX9_undo cX9_undo 1 (some .int), .code yL_retreats cL_retreats 9 (some .boolean), .codeWith yL_may method_11_code 4 (some .boolean) [(0, 6, 7, 107)], .code yX9_mayRetreat cX9_mayRetreat 3 (some .boolean)]
set_option maxRecDepth 100000 in
theorem wm2 : ∀ w ∈ wk2, w ∈ osX := osX_at [1187, 1192, 1196, 1200, 1204, 1210, 1214, 1221, 1225, 1229, 1233, 1237, 1241, 1244, 1259, 1263, 1270, 1274, 1278, 1284, 1289, 1293, 1297, 1301, 1305, 1311, 1318, 1322, 1326, 1330, 1336, 1341, 1347, 1351, 1355, 1359, 1363, 1367, 1372, 1376, 1380, 1383, 1387, 1390, 1394, 1398, 1402, 1407, 1411, 1416, 1421, 1425, 1431, 1435, 1439, 1442, 1446, 1450, 1453, 1458] rfl (by decide +kernel)
theorem wd1187 : (.code yX6_takeOrFail cX6_takeOrFail 2 (some .boolean) : Cond) ∈ osX := wm2 _ (List.mem_of_getElem? (i := 0) rfl)
theorem wd1192 : (.code yX7_readConvoy cX7_readConvoy 6 (some .boolean) : Cond) ∈ osX := wm2 _ (List.mem_of_getElem? (i := 1) rfl)
theorem wd1196 : (.code yX5_allowsConvoy cX5_allowsConvoy 5 (some .boolean) : Cond) ∈ osX := wm2 _ (List.mem_of_getElem? (i := 2) rfl)
theorem wd1200 : (.code yX7_readRetreat cX7_readRetreat 5 (some .boolean) : Cond) ∈ osX := wm2 _ (List.mem_of_getElem? (i := 3) rfl)
theorem wd1204 : (.code yX5_hasDislodged cX5_hasDislodged 2 (some .boolean) : Cond) ∈ osX := wm2 _ (List.mem_of_getElem? (i := 4) rfl)
theorem wd1210 : (.code yX5_giveRetreat cX5_giveRetreat 3 none : Cond) ∈ osX := wm2 _ (List.mem_of_getElem? (i := 5) rfl)
theorem wd1214 : (.code yX5_allowsRetreat cX5_allowsRetreat 4 (some .boolean) : Cond) ∈ osX := wm2 _ (List.mem_of_getElem? (i := 6) rfl)
theorem wd1221 : (.code yX7_readBuild cX7_readBuild 7 (some .boolean) : Cond) ∈ osX := wm2 _ (List.mem_of_getElem? (i := 7) rfl)
theorem wd1225 : (.code yX5_allowsBuild cX5_allowsBuild 4 (some .boolean) : Cond) ∈ osX := wm2 _ (List.mem_of_getElem? (i := 8) rfl)
theorem wd1229 : (.code yX5_freeHomes cX5_freeHomes 5 (some .int) : Cond) ∈ osX := wm2 _ (List.mem_of_getElem? (i := 9) rfl)
theorem wd1233 : (.code yX5_countBuilds cX5_countBuilds 5 (some .int) : Cond) ∈ osX := wm2 _ (List.mem_of_getElem? (i := 10) rfl)
theorem wd1237 : (.code yX5_countCenters cX5_countCenters 2 (some .int) : Cond) ∈ osX := wm2 _ (List.mem_of_getElem? (i := 11) rfl)
theorem wd1241 : (.code yX5_countUnits cX5_countUnits 2 (some .int) : Cond) ∈ osX := wm2 _ (List.mem_of_getElem? (i := 12) rfl)
theorem wd1244 : (.code yJ6_bitCount_0f7a4 cJ6_bitCount_0f7a4 1 (some .int) : Cond) ∈ osX := wm2 _ (List.mem_of_getElem? (i := 13) rfl)
theorem wd1259 : (.code yX7_readRemoval cX7_readRemoval 4 (some .boolean) : Cond) ∈ osX := wm2 _ (List.mem_of_getElem? (i := 14) rfl)
theorem wd1263 : (.code yX5_needsRemoval cX5_needsRemoval 2 (some .boolean) : Cond) ∈ osX := wm2 _ (List.mem_of_getElem? (i := 15) rfl)
theorem wd1270 : (.code yL_settles cL_settles 16 (some .boolean) : Cond) ∈ osX := wm2 _ (List.mem_of_getElem? (i := 16) rfl)
theorem wd1274 : (.code yX9_order cX9_order 3 (some .int) : Cond) ∈ osX := wm2 _ (List.mem_of_getElem? (i := 17) rfl)
theorem wd1278 : (.code yX9_requireUnit cX9_requireUnit 2 none : Cond) ∈ osX := wm2 _ (List.mem_of_getElem? (i := 18) rfl)
theorem wd1284 : (.code yX9_requirePhase cX9_requirePhase 2 none : Cond) ∈ osX := wm2 _ (List.mem_of_getElem? (i := 19) rfl)
theorem wd1289 : (.code yX9_foresee cX9_foresee 3 (some .int) : Cond) ∈ osX := wm2 _ (List.mem_of_getElem? (i := 20) rfl)
theorem wd1293 : (.code yX1_decide cX1_decide 3 none : Cond) ∈ osX := wm2 _ (List.mem_of_getElem? (i := 21) rfl)
theorem wd1297 : (.code yX2_prepare cX2_prepare 4 none : Cond) ∈ osX := wm2 _ (List.mem_of_getElem? (i := 22) rfl)
theorem wd1301 : (.code yX2_clear cX2_clear 2 none : Cond) ∈ osX := wm2 _ (List.mem_of_getElem? (i := 23) rfl)
theorem wd1305 : (.code yX0_bordersOf cX0_bordersOf 3 (some .int) : Cond) ∈ osX := wm2 _ (List.mem_of_getElem? (i := 24) rfl)
theorem wd1311 : (.code yX2_noteMove cX2_noteMove 5 none : Cond) ∈ osX := wm2 _ (List.mem_of_getElem? (i := 25) rfl)
theorem wd1318 : (.code yX2_linkSupport cX2_linkSupport 9 none : Cond) ∈ osX := wm2 _ (List.mem_of_getElem? (i := 26) rfl)
theorem wd1322 : (.code yX2_linkConvoy cX2_linkConvoy 5 none : Cond) ∈ osX := wm2 _ (List.mem_of_getElem? (i := 27) rfl)
theorem wd1326 : (.code yX2_linkMove cX2_linkMove 5 none : Cond) ∈ osX := wm2 _ (List.mem_of_getElem? (i := 28) rfl)
theorem wd1330 : (.code yX1_search cX1_search 9 (some .int) : Cond) ∈ osX := wm2 _ (List.mem_of_getElem? (i := 29) rfl)
theorem wd1336 : (.code yX1_weigh cX1_weigh 4 none : Cond) ∈ osX := wm2 _ (List.mem_of_getElem? (i := 30) rfl)
theorem wd1341 : (.code yX1_isCarried cX1_isCarried 7 (some .boolean) : Cond) ∈ osX := wm2 _ (List.mem_of_getElem? (i := 31) rfl)
theorem wd1347 : (.code yX1_isConsistent cX1_isConsistent 2 (some .boolean) : Cond) ∈ osX := wm2 _ (List.mem_of_getElem? (i := 32) rfl)
theorem wd1351 : (.code yX1_shouldSucceed cX1_shouldSucceed 3 (some .boolean) : Cond) ∈ osX := wm2 _ (List.mem_of_getElem? (i := 33) rfl)
theorem wd1355 : (.code yX1_attackOf cX1_attackOf 5 (some .int) : Cond) ∈ osX := wm2 _ (List.mem_of_getElem? (i := 34) rfl)
theorem wd1359 : (.code yX1_resistanceTo cX1_resistanceTo 3 (some .int) : Cond) ∈ osX := wm2 _ (List.mem_of_getElem? (i := 35) rfl)
theorem wd1363 : (.code yX1_preventionOf cX1_preventionOf 6 (some .int) : Cond) ∈ osX := wm2 _ (List.mem_of_getElem? (i := 36) rfl)
theorem wd1367 : (.code yX1_strengthOf cX1_strengthOf 2 (some .int) : Cond) ∈ osX := wm2 _ (List.mem_of_getElem? (i := 37) rfl)
theorem wd1372 : (.code yX1_explain cX1_explain 4 (some .int) : Cond) ∈ osX := wm2 _ (List.mem_of_getElem? (i := 38) rfl)
theorem wd1376 : (.code yX1_summaryOf cX1_summaryOf 2 (some .int) : Cond) ∈ osX := wm2 _ (List.mem_of_getElem? (i := 39) rfl)
theorem wd1380 : (.code yX1_reasonFor cX1_reasonFor 2 (some .int) : Cond) ∈ osX := wm2 _ (List.mem_of_getElem? (i := 40) rfl)
theorem wd1383 : (.code yL_sum cL_sum 4 (some .int) : Cond) ∈ osX := wm2 _ (List.mem_of_getElem? (i := 41) rfl)
theorem wd1387 : (.code yX9_turn cX9_turn 1 (some .int) : Cond) ∈ osX := wm2 _ (List.mem_of_getElem? (i := 42) rfl)
theorem wd1390 : (.code yL_units_ cL_units_ 3 (some .int) : Cond) ∈ osX := wm2 _ (List.mem_of_getElem? (i := 43) rfl)
theorem wd1394 : (.code yX9_settle cX9_settle 1 (some .int) : Cond) ∈ osX := wm2 _ (List.mem_of_getElem? (i := 44) rfl)
theorem wd1398 : (.code yX9_remember cX9_remember 3 none : Cond) ∈ osX := wm2 _ (List.mem_of_getElem? (i := 45) rfl)
theorem wd1402 : (.code yX5_carryOut cX5_carryOut 6 none : Cond) ∈ osX := wm2 _ (List.mem_of_getElem? (i := 46) rfl)
theorem wd1407 : (.code yX1_findAttacker cX1_findAttacker 3 (some .int) : Cond) ∈ osX := wm2 _ (List.mem_of_getElem? (i := 47) rfl)
theorem wd1411 : (.code yX1_findFailedGoals cX1_findFailedGoals 3 (some .int) : Cond) ∈ osX := wm2 _ (List.mem_of_getElem? (i := 48) rfl)
theorem wd1416 : (.code yX1_explainAll cX1_explainAll 3 none : Cond) ∈ osX := wm2 _ (List.mem_of_getElem? (i := 49) rfl)
theorem wd1421 : (.code yX5_closeTurn cX5_closeTurn 3 none : Cond) ∈ osX := wm2 _ (List.mem_of_getElem? (i := 50) rfl)
theorem wd1425 : (.code yX5_beginTurn cX5_beginTurn 1 none : Cond) ∈ osX := wm2 _ (List.mem_of_getElem? (i := 51) rfl)
theorem wd1431 : (.code yX9_result cX9_result 3 (some .int) : Cond) ∈ osX := wm2 _ (List.mem_of_getElem? (i := 52) rfl)
theorem wd1435 : (.code yX9_requireSettled cX9_requireSettled 1 none : Cond) ∈ osX := wm2 _ (List.mem_of_getElem? (i := 53) rfl)
theorem wd1439 : (.code yL_aside cL_aside 3 (some .int) : Cond) ∈ osX := wm2 _ (List.mem_of_getElem? (i := 54) rfl)
theorem wd1442 : (.codeWith yL_undone method_12_code 2 (some .int) [(0, 4, 5, 34)] : Cond) ∈ osX := wm2 _ (List.mem_of_getElem? (i := 55) rfl)
theorem wd1446 : (.code yX9_undo cX9_undo 1 (some .int) : Cond) ∈ osX := wm2 _ (List.mem_of_getElem? (i := 56) rfl)
theorem wd1450 : (.code yL_retreats cL_retreats 9 (some .boolean) : Cond) ∈ osX := wm2 _ (List.mem_of_getElem? (i := 57) rfl)
theorem wd1453 : (.codeWith yL_may method_11_code 4 (some .boolean) [(0, 6, 7, 107)] : Cond) ∈ osX := wm2 _ (List.mem_of_getElem? (i := 58) rfl)
theorem wd1458 : (.code yX9_mayRetreat cX9_mayRetreat 3 (some .boolean) : Cond) ∈ osX := wm2 _ (List.mem_of_getElem? (i := 59) rfl)
def wk3 : List Cond := [.code yX9_isContested cX9_isContested 2 (some .boolean), .code yX9_passes cX9_passes 4 (some .boolean), .code yX9_endRetreats cX9_endRetreats 2 (some .int), .code yX5_carryOutRetreats cX5_carryOutRetreats 5 (some .int), .code yL_builds cL_builds 10 (some .boolean), .code yX9_power cX9_power 3 (some .int), .code yX9_requirePower cX9_requirePower 2 none, .code yX0_countHomes cX0_countHomes 4 (some .int), .code yX9_powers cX9_powers 1 (some .int), .code yX9_endBuilds cX9_endBuilds 3 (some .int), .code yX5_disbandSurplus cX5_disbandSurplus 4 (some .int)]
set_option maxRecDepth 100000 in
theorem wm3 : ∀ w ∈ wk3, w ∈ osX := osX_at [1465, 1469, 1474, 1478, 1481, 1485, 1489, 1496, 1504, 1508, 1512] rfl (by decide +kernel)
theorem wd1465 : (.code yX9_isContested cX9_isContested 2 (some .boolean) : Cond) ∈ osX := wm3 _ (List.mem_of_getElem? (i := 0) rfl)
theorem wd1469 : (.code yX9_passes cX9_passes 4 (some .boolean) : Cond) ∈ osX := wm3 _ (List.mem_of_getElem? (i := 1) rfl)
theorem wd1474 : (.code yX9_endRetreats cX9_endRetreats 2 (some .int) : Cond) ∈ osX := wm3 _ (List.mem_of_getElem? (i := 2) rfl)
theorem wd1478 : (.code yX5_carryOutRetreats cX5_carryOutRetreats 5 (some .int) : Cond) ∈ osX := wm3 _ (List.mem_of_getElem? (i := 3) rfl)
theorem wd1481 : (.code yL_builds cL_builds 10 (some .boolean) : Cond) ∈ osX := wm3 _ (List.mem_of_getElem? (i := 4) rfl)
theorem wd1485 : (.code yX9_power cX9_power 3 (some .int) : Cond) ∈ osX := wm3 _ (List.mem_of_getElem? (i := 5) rfl)
theorem wd1489 : (.code yX9_requirePower cX9_requirePower 2 none : Cond) ∈ osX := wm3 _ (List.mem_of_getElem? (i := 6) rfl)
theorem wd1496 : (.code yX0_countHomes cX0_countHomes 4 (some .int) : Cond) ∈ osX := wm3 _ (List.mem_of_getElem? (i := 7) rfl)
theorem wd1504 : (.code yX9_powers cX9_powers 1 (some .int) : Cond) ∈ osX := wm3 _ (List.mem_of_getElem? (i := 8) rfl)
theorem wd1508 : (.code yX9_endBuilds cX9_endBuilds 3 (some .int) : Cond) ∈ osX := wm3 _ (List.mem_of_getElem? (i := 9) rfl)
theorem wd1512 : (.code yX5_disbandSurplus cX5_disbandSurplus 4 (some .int) : Cond) ∈ osX := wm3 _ (List.mem_of_getElem? (i := 10) rfl)
def ww0 : List Cond := [.selects RX3 yX6_advance yX6_advance, .selects RX7 yX6_advance yX6_advance, .selects RJ4 yJ5_ensureCapacityInternal_d00df yJ5_ensureCapacityInternal_d00df, .selects RJ4 yJ5_newCapacity_0f7a4 yJ5_newCapacity_0f7a4, .selects RJ4 yJ5_putStringAt_47b60 yJ5_putStringAt_47b60, .selects RJ4 yJ5_inflateIfNeededFor_a7421 yJ5_inflateIfNeededFor_a7421, .selects RX5 yX5_clearUnits yX5_clearUnits, .selects RX5 yX5_clearDislodged yX5_clearDislodged, .selects RX5 yX5_holdAll yX5_holdAll, .selects RX9 yX9_append yX9_append, .selects RX9 yX9_requireLength yX9_requireLength, .selects RX3 yX3_readStatement yX3_readStatement, .selects RX3 yX3_readArea yX3_readArea, .selects RX3 yX3_readBorder yX3_readBorder, .selects RX3 yX3_readPower yX3_readPower, .selects RX3 yX3_readHome yX3_readHome, .selects RX3 yX3_readUnit yX3_readUnit, .selects RX9 yX9_noteError yX9_noteError, .selects RX9 yX9_adoptDraft yX9_adoptDraft, .selects RX9 yX9_requireArea yX9_requireArea, .selects RX9 yX9_requireReport yX9_requireReport, .selects RX7 yX7_readOne yX7_readOne, .selects RX7 yX7_readOrder yX7_readOrder, .selects RX7 yX7_readMove yX7_readMove, .selects RX5 yX5_hasArmy yX5_hasArmy, .selects RX7 yX7_readSupport yX7_readSupport, .selects RX7 yX7_readConvoy yX7_readConvoy, .selects RX7 yX7_readRetreat yX7_readRetreat, .selects RX7 yX7_readBuild yX7_readBuild, .selects RX5 yX5_freeHomes yX5_freeHomes, .selects RX7 yX7_readRemoval yX7_readRemoval, .selects RX9 yX9_requireUnit yX9_requireUnit, .selects RX9 yX9_requirePhase yX9_requirePhase, .selects RX2 yX2_clear yX2_clear, .selects RX2 yX2_noteMove yX2_noteMove, .selects RX2 yX2_linkSupport yX2_linkSupport, .selects RX2 yX2_linkConvoy yX2_linkConvoy, .selects RX2 yX2_linkMove yX2_linkMove, .selects RX1 yX1_search yX1_search, .selects RX1 yX1_weigh yX1_weigh, .selects RX1 yX1_isCarried yX1_isCarried, .selects RX1 yX1_isConsistent yX1_isConsistent, .selects RX1 yX1_shouldSucceed yX1_shouldSucceed, .selects RX1 yX1_attackOf yX1_attackOf, .selects RX1 yX1_resistanceTo yX1_resistanceTo, .selects RX1 yX1_preventionOf yX1_preventionOf, .selects RX1 yX1_strengthOf yX1_strengthOf, .selects RX1 yX1_summaryOf yX1_summaryOf, .selects RX1 yX1_reasonFor yX1_reasonFor, .selects RX9 yX9_remember yX9_remember, .selects RX9 yX9_requireSettled yX9_requireSettled, .selects RX9 yX9_requirePower yX9_requirePower, .initialized RL, .initialized RX9, .initialized RX4, .initialized RX6, .initialized RX3, .initialized RX7, .initialized RX1, .initialized RX2]
theorem wv0 : ∀ w ∈ ww0, w ∈ osX := osX_at [0, 1, 2, 3, 4, 5, 6, 7, 8, 10, 11, 12, 13, 14, 15, 16, 17, 18, 19, 20, 21, 22, 23, 24, 25, 26, 27, 28, 29, 30, 31, 32, 33, 34, 35, 36, 37, 38, 39, 40, 41, 42, 43, 44, 45, 46, 47, 48, 49, 50, 51, 52, 53, 54, 55, 56, 57, 58, 59, 60] (by decide +kernel) (by decide +kernel)
theorem wd0 : (.selects RX3 yX6_advance yX6_advance : Cond) ∈ osX := wv0 _ (List.mem_of_getElem? (i := 0) rfl)
theorem wd1 : (.selects RX7 yX6_advance yX6_advance : Cond) ∈ osX := wv0 _ (List.mem_of_getElem? (i := 1) rfl)
theorem wd2 : (.selects RJ4 yJ5_ensureCapacityInternal_d00df yJ5_ensureCapacityInternal_d00df : Cond) ∈ osX := wv0 _ (List.mem_of_getElem? (i := 2) rfl)
theorem wd3 : (.selects RJ4 yJ5_newCapacity_0f7a4 yJ5_newCapacity_0f7a4 : Cond) ∈ osX := wv0 _ (List.mem_of_getElem? (i := 3) rfl)
theorem wd4 : (.selects RJ4 yJ5_putStringAt_47b60 yJ5_putStringAt_47b60 : Cond) ∈ osX := wv0 _ (List.mem_of_getElem? (i := 4) rfl)
theorem wd5 : (.selects RJ4 yJ5_inflateIfNeededFor_a7421 yJ5_inflateIfNeededFor_a7421 : Cond) ∈ osX := wv0 _ (List.mem_of_getElem? (i := 5) rfl)
theorem wd6 : (.selects RX5 yX5_clearUnits yX5_clearUnits : Cond) ∈ osX := wv0 _ (List.mem_of_getElem? (i := 6) rfl)
theorem wd7 : (.selects RX5 yX5_clearDislodged yX5_clearDislodged : Cond) ∈ osX := wv0 _ (List.mem_of_getElem? (i := 7) rfl)
theorem wd8 : (.selects RX5 yX5_holdAll yX5_holdAll : Cond) ∈ osX := wv0 _ (List.mem_of_getElem? (i := 8) rfl)
theorem wd10 : (.selects RX9 yX9_append yX9_append : Cond) ∈ osX := wv0 _ (List.mem_of_getElem? (i := 9) rfl)
theorem wd11 : (.selects RX9 yX9_requireLength yX9_requireLength : Cond) ∈ osX := wv0 _ (List.mem_of_getElem? (i := 10) rfl)
theorem wd12 : (.selects RX3 yX3_readStatement yX3_readStatement : Cond) ∈ osX := wv0 _ (List.mem_of_getElem? (i := 11) rfl)
theorem wd13 : (.selects RX3 yX3_readArea yX3_readArea : Cond) ∈ osX := wv0 _ (List.mem_of_getElem? (i := 12) rfl)
theorem wd14 : (.selects RX3 yX3_readBorder yX3_readBorder : Cond) ∈ osX := wv0 _ (List.mem_of_getElem? (i := 13) rfl)
theorem wd15 : (.selects RX3 yX3_readPower yX3_readPower : Cond) ∈ osX := wv0 _ (List.mem_of_getElem? (i := 14) rfl)
theorem wd16 : (.selects RX3 yX3_readHome yX3_readHome : Cond) ∈ osX := wv0 _ (List.mem_of_getElem? (i := 15) rfl)
theorem wd17 : (.selects RX3 yX3_readUnit yX3_readUnit : Cond) ∈ osX := wv0 _ (List.mem_of_getElem? (i := 16) rfl)
theorem wd18 : (.selects RX9 yX9_noteError yX9_noteError : Cond) ∈ osX := wv0 _ (List.mem_of_getElem? (i := 17) rfl)
theorem wd19 : (.selects RX9 yX9_adoptDraft yX9_adoptDraft : Cond) ∈ osX := wv0 _ (List.mem_of_getElem? (i := 18) rfl)
theorem wd20 : (.selects RX9 yX9_requireArea yX9_requireArea : Cond) ∈ osX := wv0 _ (List.mem_of_getElem? (i := 19) rfl)
theorem wd21 : (.selects RX9 yX9_requireReport yX9_requireReport : Cond) ∈ osX := wv0 _ (List.mem_of_getElem? (i := 20) rfl)
theorem wd22 : (.selects RX7 yX7_readOne yX7_readOne : Cond) ∈ osX := wv0 _ (List.mem_of_getElem? (i := 21) rfl)
theorem wd23 : (.selects RX7 yX7_readOrder yX7_readOrder : Cond) ∈ osX := wv0 _ (List.mem_of_getElem? (i := 22) rfl)
theorem wd24 : (.selects RX7 yX7_readMove yX7_readMove : Cond) ∈ osX := wv0 _ (List.mem_of_getElem? (i := 23) rfl)
theorem wd25 : (.selects RX5 yX5_hasArmy yX5_hasArmy : Cond) ∈ osX := wv0 _ (List.mem_of_getElem? (i := 24) rfl)
theorem wd26 : (.selects RX7 yX7_readSupport yX7_readSupport : Cond) ∈ osX := wv0 _ (List.mem_of_getElem? (i := 25) rfl)
theorem wd27 : (.selects RX7 yX7_readConvoy yX7_readConvoy : Cond) ∈ osX := wv0 _ (List.mem_of_getElem? (i := 26) rfl)
theorem wd28 : (.selects RX7 yX7_readRetreat yX7_readRetreat : Cond) ∈ osX := wv0 _ (List.mem_of_getElem? (i := 27) rfl)
theorem wd29 : (.selects RX7 yX7_readBuild yX7_readBuild : Cond) ∈ osX := wv0 _ (List.mem_of_getElem? (i := 28) rfl)
theorem wd30 : (.selects RX5 yX5_freeHomes yX5_freeHomes : Cond) ∈ osX := wv0 _ (List.mem_of_getElem? (i := 29) rfl)
theorem wd31 : (.selects RX7 yX7_readRemoval yX7_readRemoval : Cond) ∈ osX := wv0 _ (List.mem_of_getElem? (i := 30) rfl)
theorem wd32 : (.selects RX9 yX9_requireUnit yX9_requireUnit : Cond) ∈ osX := wv0 _ (List.mem_of_getElem? (i := 31) rfl)
theorem wd33 : (.selects RX9 yX9_requirePhase yX9_requirePhase : Cond) ∈ osX := wv0 _ (List.mem_of_getElem? (i := 32) rfl)
theorem wd34 : (.selects RX2 yX2_clear yX2_clear : Cond) ∈ osX := wv0 _ (List.mem_of_getElem? (i := 33) rfl)
theorem wd35 : (.selects RX2 yX2_noteMove yX2_noteMove : Cond) ∈ osX := wv0 _ (List.mem_of_getElem? (i := 34) rfl)
theorem wd36 : (.selects RX2 yX2_linkSupport yX2_linkSupport : Cond) ∈ osX := wv0 _ (List.mem_of_getElem? (i := 35) rfl)
theorem wd37 : (.selects RX2 yX2_linkConvoy yX2_linkConvoy : Cond) ∈ osX := wv0 _ (List.mem_of_getElem? (i := 36) rfl)
theorem wd38 : (.selects RX2 yX2_linkMove yX2_linkMove : Cond) ∈ osX := wv0 _ (List.mem_of_getElem? (i := 37) rfl)
theorem wd39 : (.selects RX1 yX1_search yX1_search : Cond) ∈ osX := wv0 _ (List.mem_of_getElem? (i := 38) rfl)
theorem wd40 : (.selects RX1 yX1_weigh yX1_weigh : Cond) ∈ osX := wv0 _ (List.mem_of_getElem? (i := 39) rfl)
theorem wd41 : (.selects RX1 yX1_isCarried yX1_isCarried : Cond) ∈ osX := wv0 _ (List.mem_of_getElem? (i := 40) rfl)
theorem wd42 : (.selects RX1 yX1_isConsistent yX1_isConsistent : Cond) ∈ osX := wv0 _ (List.mem_of_getElem? (i := 41) rfl)
theorem wd43 : (.selects RX1 yX1_shouldSucceed yX1_shouldSucceed : Cond) ∈ osX := wv0 _ (List.mem_of_getElem? (i := 42) rfl)
theorem wd44 : (.selects RX1 yX1_attackOf yX1_attackOf : Cond) ∈ osX := wv0 _ (List.mem_of_getElem? (i := 43) rfl)
theorem wd45 : (.selects RX1 yX1_resistanceTo yX1_resistanceTo : Cond) ∈ osX := wv0 _ (List.mem_of_getElem? (i := 44) rfl)
theorem wd46 : (.selects RX1 yX1_preventionOf yX1_preventionOf : Cond) ∈ osX := wv0 _ (List.mem_of_getElem? (i := 45) rfl)
theorem wd47 : (.selects RX1 yX1_strengthOf yX1_strengthOf : Cond) ∈ osX := wv0 _ (List.mem_of_getElem? (i := 46) rfl)
theorem wd48 : (.selects RX1 yX1_summaryOf yX1_summaryOf : Cond) ∈ osX := wv0 _ (List.mem_of_getElem? (i := 47) rfl)
theorem wd49 : (.selects RX1 yX1_reasonFor yX1_reasonFor : Cond) ∈ osX := wv0 _ (List.mem_of_getElem? (i := 48) rfl)
theorem wd50 : (.selects RX9 yX9_remember yX9_remember : Cond) ∈ osX := wv0 _ (List.mem_of_getElem? (i := 49) rfl)
theorem wd51 : (.selects RX9 yX9_requireSettled yX9_requireSettled : Cond) ∈ osX := wv0 _ (List.mem_of_getElem? (i := 50) rfl)
theorem wd52 : (.selects RX9 yX9_requirePower yX9_requirePower : Cond) ∈ osX := wv0 _ (List.mem_of_getElem? (i := 51) rfl)
theorem wd53 : (.initialized RL : Cond) ∈ osX := wv0 _ (List.mem_of_getElem? (i := 52) rfl)
theorem wd54 : (.initialized RX9 : Cond) ∈ osX := wv0 _ (List.mem_of_getElem? (i := 53) rfl)
theorem wd55 : (.initialized RX4 : Cond) ∈ osX := wv0 _ (List.mem_of_getElem? (i := 54) rfl)
theorem wd56 : (.initialized RX6 : Cond) ∈ osX := wv0 _ (List.mem_of_getElem? (i := 55) rfl)
theorem wd57 : (.initialized RX3 : Cond) ∈ osX := wv0 _ (List.mem_of_getElem? (i := 56) rfl)
theorem wd58 : (.initialized RX7 : Cond) ∈ osX := wv0 _ (List.mem_of_getElem? (i := 57) rfl)
theorem wd59 : (.initialized RX1 : Cond) ∈ osX := wv0 _ (List.mem_of_getElem? (i := 58) rfl)
theorem wd60 : (.initialized RX2 : Cond) ∈ osX := wv0 _ (List.mem_of_getElem? (i := 59) rfl)
def ww1 : List Cond := [.initialized RX0, .initialized RX5, .initialized RJ5, .initialized RJ4, .initialized RJ0, .initialized RJ8, .initialized RJ9, .initialized RJ7, .initialized RJ10, .initialized RJ3, .initialized RJ1, .initialized "java/lang/IllegalStateException", .initialized "java/lang/IllegalArgumentException", .initialized RX8, .initialized RJ6, .classLink RL 19 "OrderSettler", .instantiable RX9 14, .methodLink RL 180 yX9_init, .instanceMethod yX9_init, .methodLink RX9 1 objectInit, .instanceMethod objectInit, .classLink RX9 17 "OrderSettler$Output", .instantiable RX4 2, .methodLinkNest RX9 19 yX4_init "OrderSettler", .instanceMethod yX4_init, .methodLink RX4 3 objectInit, .fieldLink RX4 9 "OrderSettler$Output" "bytes" "[B", .fieldLink RX4 15 "OrderSettler$Output" "length" "I", .arrayClass .byte, .classLink RX9 30 "OrderSettler$MapReader", .instantiable RX3 10, .methodLinkNest RX9 32 yX3_init "OrderSettler", .instanceMethod yX3_init, .methodLinkNest RX3 3 yX6_init "OrderSettler", .instanceMethod yX6_init, .methodLink RX6 3 objectInit, .fieldLink RX6 9 "OrderSettler$TextReader" "bytes" "[B", .fieldLink RX6 15 "OrderSettler$TextReader" "length" "I", .fieldLink RX6 19 "OrderSettler$TextReader" "kind" "I", .fieldLink RX6 22 "OrderSettler$TextReader" "behind" "I", .fieldLink RX6 25 "OrderSettler$TextReader" "letters" "I", .fieldLink RX6 28 "OrderSettler$TextReader" "packed" "J", .fieldLink RX6 32 "OrderSettler$TextReader" "start" "I", .fieldLink RX3 34 "OrderSettler$MapReader" "start" "I", .sameField "OrderSettler$MapReader" "OrderSettler$TextReader" "start" "I", .fieldLink RX7 132 "OrderSettler$TurnReader" "start" "I", .sameField "OrderSettler$TurnReader" "OrderSettler$TextReader" "start" "I", .fieldLink RX6 35 "OrderSettler$TextReader" "nameStart" "I", .fieldLink RX7 68 "OrderSettler$TurnReader" "nameStart" "I", .sameField "OrderSettler$TurnReader" "OrderSettler$TextReader" "nameStart" "I", .fieldLink RX3 97 "OrderSettler$MapReader" "nameStart" "I", .sameField "OrderSettler$MapReader" "OrderSettler$TextReader" "nameStart" "I", .fieldLink RX6 38 "OrderSettler$TextReader" "foundCode" "I", .fieldLink RX9 384 "OrderSettler$TextReader" "foundCode" "I", .fieldLink RX6 41 "OrderSettler$TextReader" "foundPosition" "I", .fieldLink RX9 389 "OrderSettler$TextReader" "foundPosition" "I", .classLink RX9 37 "OrderSettler$TurnReader", .instantiable RX7 10, .methodLinkNest RX9 39 yX7_init "OrderSettler", .instanceMethod yX7_init]
theorem wv1 : ∀ w ∈ ww1, w ∈ osX := osX_at [61, 62, 63, 64, 65, 67, 68, 69, 70, 71, 72, 76, 77, 79, 81, 82, 83, 84, 85, 87, 88, 90, 91, 92, 93, 95, 96, 97, 103, 104, 105, 106, 107, 109, 110, 112, 113, 114, 115, 116, 117, 118, 119, 120, 121, 122, 123, 124, 125, 126, 127, 128, 129, 130, 131, 132, 154, 155, 156, 157] (by decide +kernel) (by decide +kernel)
theorem wd61 : (.initialized RX0 : Cond) ∈ osX := wv1 _ (List.mem_of_getElem? (i := 0) rfl)
theorem wd62 : (.initialized RX5 : Cond) ∈ osX := wv1 _ (List.mem_of_getElem? (i := 1) rfl)
theorem wd63 : (.initialized RJ5 : Cond) ∈ osX := wv1 _ (List.mem_of_getElem? (i := 2) rfl)
theorem wd64 : (.initialized RJ4 : Cond) ∈ osX := wv1 _ (List.mem_of_getElem? (i := 3) rfl)
theorem wd65 : (.initialized RJ0 : Cond) ∈ osX := wv1 _ (List.mem_of_getElem? (i := 4) rfl)
theorem wd67 : (.initialized RJ8 : Cond) ∈ osX := wv1 _ (List.mem_of_getElem? (i := 5) rfl)
theorem wd68 : (.initialized RJ9 : Cond) ∈ osX := wv1 _ (List.mem_of_getElem? (i := 6) rfl)
theorem wd69 : (.initialized RJ7 : Cond) ∈ osX := wv1 _ (List.mem_of_getElem? (i := 7) rfl)
theorem wd70 : (.initialized RJ10 : Cond) ∈ osX := wv1 _ (List.mem_of_getElem? (i := 8) rfl)
theorem wd71 : (.initialized RJ3 : Cond) ∈ osX := wv1 _ (List.mem_of_getElem? (i := 9) rfl)
theorem wd72 : (.initialized RJ1 : Cond) ∈ osX := wv1 _ (List.mem_of_getElem? (i := 10) rfl)
theorem wd76 : (.initialized "java/lang/IllegalStateException" : Cond) ∈ osX := wv1 _ (List.mem_of_getElem? (i := 11) rfl)
theorem wd77 : (.initialized "java/lang/IllegalArgumentException" : Cond) ∈ osX := wv1 _ (List.mem_of_getElem? (i := 12) rfl)
theorem wd79 : (.initialized RX8 : Cond) ∈ osX := wv1 _ (List.mem_of_getElem? (i := 13) rfl)
theorem wd81 : (.initialized RJ6 : Cond) ∈ osX := wv1 _ (List.mem_of_getElem? (i := 14) rfl)
theorem wd82 : (.classLink RL 19 "OrderSettler" : Cond) ∈ osX := wv1 _ (List.mem_of_getElem? (i := 15) rfl)
theorem wd83 : (.instantiable RX9 14 : Cond) ∈ osX := wv1 _ (List.mem_of_getElem? (i := 16) rfl)
theorem wd84 : (.methodLink RL 180 yX9_init : Cond) ∈ osX := wv1 _ (List.mem_of_getElem? (i := 17) rfl)
theorem wd85 : (.instanceMethod yX9_init : Cond) ∈ osX := wv1 _ (List.mem_of_getElem? (i := 18) rfl)
theorem wd87 : (.methodLink RX9 1 objectInit : Cond) ∈ osX := wv1 _ (List.mem_of_getElem? (i := 19) rfl)
theorem wd88 : (.instanceMethod objectInit : Cond) ∈ osX := wv1 _ (List.mem_of_getElem? (i := 20) rfl)
theorem wd90 : (.classLink RX9 17 "OrderSettler$Output" : Cond) ∈ osX := wv1 _ (List.mem_of_getElem? (i := 21) rfl)
theorem wd91 : (.instantiable RX4 2 : Cond) ∈ osX := wv1 _ (List.mem_of_getElem? (i := 22) rfl)
theorem wd92 : (.methodLinkNest RX9 19 yX4_init "OrderSettler" : Cond) ∈ osX := wv1 _ (List.mem_of_getElem? (i := 23) rfl)
theorem wd93 : (.instanceMethod yX4_init : Cond) ∈ osX := wv1 _ (List.mem_of_getElem? (i := 24) rfl)
theorem wd95 : (.methodLink RX4 3 objectInit : Cond) ∈ osX := wv1 _ (List.mem_of_getElem? (i := 25) rfl)
theorem wd96 : (.fieldLink RX4 9 "OrderSettler$Output" "bytes" "[B" : Cond) ∈ osX := wv1 _ (List.mem_of_getElem? (i := 26) rfl)
theorem wd97 : (.fieldLink RX4 15 "OrderSettler$Output" "length" "I" : Cond) ∈ osX := wv1 _ (List.mem_of_getElem? (i := 27) rfl)
theorem wd103 : (.arrayClass .byte : Cond) ∈ osX := wv1 _ (List.mem_of_getElem? (i := 28) rfl)
theorem wd104 : (.classLink RX9 30 "OrderSettler$MapReader" : Cond) ∈ osX := wv1 _ (List.mem_of_getElem? (i := 29) rfl)
theorem wd105 : (.instantiable RX3 10 : Cond) ∈ osX := wv1 _ (List.mem_of_getElem? (i := 30) rfl)
theorem wd106 : (.methodLinkNest RX9 32 yX3_init "OrderSettler" : Cond) ∈ osX := wv1 _ (List.mem_of_getElem? (i := 31) rfl)
theorem wd107 : (.instanceMethod yX3_init : Cond) ∈ osX := wv1 _ (List.mem_of_getElem? (i := 32) rfl)
theorem wd109 : (.methodLinkNest RX3 3 yX6_init "OrderSettler" : Cond) ∈ osX := wv1 _ (List.mem_of_getElem? (i := 33) rfl)
theorem wd110 : (.instanceMethod yX6_init : Cond) ∈ osX := wv1 _ (List.mem_of_getElem? (i := 34) rfl)
theorem wd112 : (.methodLink RX6 3 objectInit : Cond) ∈ osX := wv1 _ (List.mem_of_getElem? (i := 35) rfl)
theorem wd113 : (.fieldLink RX6 9 "OrderSettler$TextReader" "bytes" "[B" : Cond) ∈ osX := wv1 _ (List.mem_of_getElem? (i := 36) rfl)
theorem wd114 : (.fieldLink RX6 15 "OrderSettler$TextReader" "length" "I" : Cond) ∈ osX := wv1 _ (List.mem_of_getElem? (i := 37) rfl)
theorem wd115 : (.fieldLink RX6 19 "OrderSettler$TextReader" "kind" "I" : Cond) ∈ osX := wv1 _ (List.mem_of_getElem? (i := 38) rfl)
theorem wd116 : (.fieldLink RX6 22 "OrderSettler$TextReader" "behind" "I" : Cond) ∈ osX := wv1 _ (List.mem_of_getElem? (i := 39) rfl)
theorem wd117 : (.fieldLink RX6 25 "OrderSettler$TextReader" "letters" "I" : Cond) ∈ osX := wv1 _ (List.mem_of_getElem? (i := 40) rfl)
theorem wd118 : (.fieldLink RX6 28 "OrderSettler$TextReader" "packed" "J" : Cond) ∈ osX := wv1 _ (List.mem_of_getElem? (i := 41) rfl)
theorem wd119 : (.fieldLink RX6 32 "OrderSettler$TextReader" "start" "I" : Cond) ∈ osX := wv1 _ (List.mem_of_getElem? (i := 42) rfl)
theorem wd120 : (.fieldLink RX3 34 "OrderSettler$MapReader" "start" "I" : Cond) ∈ osX := wv1 _ (List.mem_of_getElem? (i := 43) rfl)
theorem wd121 : (.sameField "OrderSettler$MapReader" "OrderSettler$TextReader" "start" "I" : Cond) ∈ osX := wv1 _ (List.mem_of_getElem? (i := 44) rfl)
theorem wd122 : (.fieldLink RX7 132 "OrderSettler$TurnReader" "start" "I" : Cond) ∈ osX := wv1 _ (List.mem_of_getElem? (i := 45) rfl)
theorem wd123 : (.sameField "OrderSettler$TurnReader" "OrderSettler$TextReader" "start" "I" : Cond) ∈ osX := wv1 _ (List.mem_of_getElem? (i := 46) rfl)
theorem wd124 : (.fieldLink RX6 35 "OrderSettler$TextReader" "nameStart" "I" : Cond) ∈ osX := wv1 _ (List.mem_of_getElem? (i := 47) rfl)
theorem wd125 : (.fieldLink RX7 68 "OrderSettler$TurnReader" "nameStart" "I" : Cond) ∈ osX := wv1 _ (List.mem_of_getElem? (i := 48) rfl)
theorem wd126 : (.sameField "OrderSettler$TurnReader" "OrderSettler$TextReader" "nameStart" "I" : Cond) ∈ osX := wv1 _ (List.mem_of_getElem? (i := 49) rfl)
theorem wd127 : (.fieldLink RX3 97 "OrderSettler$MapReader" "nameStart" "I" : Cond) ∈ osX := wv1 _ (List.mem_of_getElem? (i := 50) rfl)
theorem wd128 : (.sameField "OrderSettler$MapReader" "OrderSettler$TextReader" "nameStart" "I" : Cond) ∈ osX := wv1 _ (List.mem_of_getElem? (i := 51) rfl)
theorem wd129 : (.fieldLink RX6 38 "OrderSettler$TextReader" "foundCode" "I" : Cond) ∈ osX := wv1 _ (List.mem_of_getElem? (i := 52) rfl)
theorem wd130 : (.fieldLink RX9 384 "OrderSettler$TextReader" "foundCode" "I" : Cond) ∈ osX := wv1 _ (List.mem_of_getElem? (i := 53) rfl)
theorem wd131 : (.fieldLink RX6 41 "OrderSettler$TextReader" "foundPosition" "I" : Cond) ∈ osX := wv1 _ (List.mem_of_getElem? (i := 54) rfl)
theorem wd132 : (.fieldLink RX9 389 "OrderSettler$TextReader" "foundPosition" "I" : Cond) ∈ osX := wv1 _ (List.mem_of_getElem? (i := 55) rfl)
theorem wd154 : (.classLink RX9 37 "OrderSettler$TurnReader" : Cond) ∈ osX := wv1 _ (List.mem_of_getElem? (i := 56) rfl)
theorem wd155 : (.instantiable RX7 10 : Cond) ∈ osX := wv1 _ (List.mem_of_getElem? (i := 57) rfl)
theorem wd156 : (.methodLinkNest RX9 39 yX7_init "OrderSettler" : Cond) ∈ osX := wv1 _ (List.mem_of_getElem? (i := 58) rfl)
theorem wd157 : (.instanceMethod yX7_init : Cond) ∈ osX := wv1 _ (List.mem_of_getElem? (i := 59) rfl)
def ww2 : List Cond := [.methodLinkNest RX7 3 yX6_init "OrderSettler", .classLink RX9 44 "OrderSettler$Judge", .instantiable RX1 8, .methodLinkNest RX9 46 yX1_init "OrderSettler", .instanceMethod yX1_init, .methodLink RX1 3 objectInit, .classLink RX1 9 "OrderSettler$Links", .instantiable RX2 16, .methodLinkNest RX1 11 yX2_init "OrderSettler", .instanceMethod yX2_init, .methodLink RX2 3 objectInit, .fieldLink RX2 9 "OrderSettler$Links" "units" "I", .fieldLink RX1 80 "OrderSettler$Links" "units" "I", .fieldLink RX2 15 "OrderSettler$Links" "moves" "I", .fieldLink RX1 53 "OrderSettler$Links" "moves" "I", .fieldLink RX2 18 "OrderSettler$Links" "direct" "I", .fieldLink RX1 83 "OrderSettler$Links" "direct" "I", .fieldLink RX2 21 "OrderSettler$Links" "opposed" "I", .fieldLink RX1 130 "OrderSettler$Links" "opposed" "I", .fieldLink RX2 24 "OrderSettler$Links" "supporting" "I", .fieldLink RX1 157 "OrderSettler$Links" "supporting" "I", .fieldLink RX2 27 "OrderSettler$Links" "supports" "I", .fieldLink RX1 96 "OrderSettler$Links" "supports" "I", .fieldLink RX2 30 "OrderSettler$Links" "goal" "[I", .fieldLink RX1 76 "OrderSettler$Links" "goal" "[I", .fieldLink RX2 34 "OrderSettler$Links" "rivals" "[I", .fieldLink RX1 139 "OrderSettler$Links" "rivals" "[I", .fieldLink RX2 37 "OrderSettler$Links" "backers" "[I", .fieldLink RX1 127 "OrderSettler$Links" "backers" "[I", .fieldLink RX2 40 "OrderSettler$Links" "hosts" "[I", .fieldLink RX1 133 "OrderSettler$Links" "hosts" "[I", .fieldLink RX2 43 "OrderSettler$Links" "hostBackers" "[I", .fieldLink RX1 136 "OrderSettler$Links" "hostBackers" "[I", .fieldLink RX2 46 "OrderSettler$Links" "cutters" "[I", .fieldLink RX1 99 "OrderSettler$Links" "cutters" "[I", .fieldLink RX2 49 "OrderSettler$Links" "carriers" "[I", .fieldLink RX1 86 "OrderSettler$Links" "carriers" "[I", .fieldLink RX2 52 "OrderSettler$Links" "boarding" "[I", .fieldLink RX1 106 "OrderSettler$Links" "boarding" "[I", .fieldLink RX2 55 "OrderSettler$Links" "landing" "[I", .fieldLink RX1 112 "OrderSettler$Links" "landing" "[I", .fieldLink RX2 58 "OrderSettler$Links" "waters" "[I", .fieldLink RX1 109 "OrderSettler$Links" "waters" "[I", .arrayClass .int, .fieldLink RX1 12 "OrderSettler$Judge" "links" "LOrderSettler$Links;", .fieldLink RX1 18 "OrderSettler$Judge" "seaOpen" "Z", .fieldLink RX1 22 "OrderSettler$Judge" "paths" "I", .fieldLink RX1 26 "OrderSettler$Judge" "given" "I", .fieldLink RX1 29 "OrderSettler$Judge" "best" "I", .fieldLink RX1 32 "OrderSettler$Judge" "success" "I", .fieldLink RX9 240 "OrderSettler$Judge" "success" "I", .fieldLink RX5 160 "OrderSettler$Judge" "success" "I", .fieldLink RX1 35 "OrderSettler$Judge" "dislodged" "I", .fieldLink RX9 233 "OrderSettler$Judge" "dislodged" "I", .fieldLink RX5 169 "OrderSettler$Judge" "dislodged" "I", .fieldLink RX1 38 "OrderSettler$Judge" "outcomeCount" "I", .fieldLink RX5 181 "OrderSettler$Judge" "outcomeCount" "I", .classLink RX9 51 "OrderSettler$State", .classLink RX9 60 "OrderSettler$Board", .instantiable RX0 10]
theorem wv2 : ∀ w ∈ ww2, w ∈ osX := osX_at [159, 171, 172, 173, 174, 176, 177, 178, 179, 180, 182, 183, 184, 185, 186, 187, 188, 189, 190, 191, 192, 193, 194, 195, 196, 197, 198, 199, 200, 201, 202, 203, 204, 205, 206, 207, 208, 209, 210, 211, 212, 213, 214, 248, 249, 250, 251, 252, 253, 254, 255, 256, 257, 258, 259, 260, 261, 279, 281, 282] (by decide +kernel) (by decide +kernel)
theorem wd159 : (.methodLinkNest RX7 3 yX6_init "OrderSettler" : Cond) ∈ osX := wv2 _ (List.mem_of_getElem? (i := 0) rfl)
theorem wd171 : (.classLink RX9 44 "OrderSettler$Judge" : Cond) ∈ osX := wv2 _ (List.mem_of_getElem? (i := 1) rfl)
theorem wd172 : (.instantiable RX1 8 : Cond) ∈ osX := wv2 _ (List.mem_of_getElem? (i := 2) rfl)
theorem wd173 : (.methodLinkNest RX9 46 yX1_init "OrderSettler" : Cond) ∈ osX := wv2 _ (List.mem_of_getElem? (i := 3) rfl)
theorem wd174 : (.instanceMethod yX1_init : Cond) ∈ osX := wv2 _ (List.mem_of_getElem? (i := 4) rfl)
theorem wd176 : (.methodLink RX1 3 objectInit : Cond) ∈ osX := wv2 _ (List.mem_of_getElem? (i := 5) rfl)
theorem wd177 : (.classLink RX1 9 "OrderSettler$Links" : Cond) ∈ osX := wv2 _ (List.mem_of_getElem? (i := 6) rfl)
theorem wd178 : (.instantiable RX2 16 : Cond) ∈ osX := wv2 _ (List.mem_of_getElem? (i := 7) rfl)
theorem wd179 : (.methodLinkNest RX1 11 yX2_init "OrderSettler" : Cond) ∈ osX := wv2 _ (List.mem_of_getElem? (i := 8) rfl)
theorem wd180 : (.instanceMethod yX2_init : Cond) ∈ osX := wv2 _ (List.mem_of_getElem? (i := 9) rfl)
theorem wd182 : (.methodLink RX2 3 objectInit : Cond) ∈ osX := wv2 _ (List.mem_of_getElem? (i := 10) rfl)
theorem wd183 : (.fieldLink RX2 9 "OrderSettler$Links" "units" "I" : Cond) ∈ osX := wv2 _ (List.mem_of_getElem? (i := 11) rfl)
theorem wd184 : (.fieldLink RX1 80 "OrderSettler$Links" "units" "I" : Cond) ∈ osX := wv2 _ (List.mem_of_getElem? (i := 12) rfl)
theorem wd185 : (.fieldLink RX2 15 "OrderSettler$Links" "moves" "I" : Cond) ∈ osX := wv2 _ (List.mem_of_getElem? (i := 13) rfl)
theorem wd186 : (.fieldLink RX1 53 "OrderSettler$Links" "moves" "I" : Cond) ∈ osX := wv2 _ (List.mem_of_getElem? (i := 14) rfl)
theorem wd187 : (.fieldLink RX2 18 "OrderSettler$Links" "direct" "I" : Cond) ∈ osX := wv2 _ (List.mem_of_getElem? (i := 15) rfl)
theorem wd188 : (.fieldLink RX1 83 "OrderSettler$Links" "direct" "I" : Cond) ∈ osX := wv2 _ (List.mem_of_getElem? (i := 16) rfl)
theorem wd189 : (.fieldLink RX2 21 "OrderSettler$Links" "opposed" "I" : Cond) ∈ osX := wv2 _ (List.mem_of_getElem? (i := 17) rfl)
theorem wd190 : (.fieldLink RX1 130 "OrderSettler$Links" "opposed" "I" : Cond) ∈ osX := wv2 _ (List.mem_of_getElem? (i := 18) rfl)
theorem wd191 : (.fieldLink RX2 24 "OrderSettler$Links" "supporting" "I" : Cond) ∈ osX := wv2 _ (List.mem_of_getElem? (i := 19) rfl)
theorem wd192 : (.fieldLink RX1 157 "OrderSettler$Links" "supporting" "I" : Cond) ∈ osX := wv2 _ (List.mem_of_getElem? (i := 20) rfl)
theorem wd193 : (.fieldLink RX2 27 "OrderSettler$Links" "supports" "I" : Cond) ∈ osX := wv2 _ (List.mem_of_getElem? (i := 21) rfl)
theorem wd194 : (.fieldLink RX1 96 "OrderSettler$Links" "supports" "I" : Cond) ∈ osX := wv2 _ (List.mem_of_getElem? (i := 22) rfl)
theorem wd195 : (.fieldLink RX2 30 "OrderSettler$Links" "goal" "[I" : Cond) ∈ osX := wv2 _ (List.mem_of_getElem? (i := 23) rfl)
theorem wd196 : (.fieldLink RX1 76 "OrderSettler$Links" "goal" "[I" : Cond) ∈ osX := wv2 _ (List.mem_of_getElem? (i := 24) rfl)
theorem wd197 : (.fieldLink RX2 34 "OrderSettler$Links" "rivals" "[I" : Cond) ∈ osX := wv2 _ (List.mem_of_getElem? (i := 25) rfl)
theorem wd198 : (.fieldLink RX1 139 "OrderSettler$Links" "rivals" "[I" : Cond) ∈ osX := wv2 _ (List.mem_of_getElem? (i := 26) rfl)
theorem wd199 : (.fieldLink RX2 37 "OrderSettler$Links" "backers" "[I" : Cond) ∈ osX := wv2 _ (List.mem_of_getElem? (i := 27) rfl)
theorem wd200 : (.fieldLink RX1 127 "OrderSettler$Links" "backers" "[I" : Cond) ∈ osX := wv2 _ (List.mem_of_getElem? (i := 28) rfl)
theorem wd201 : (.fieldLink RX2 40 "OrderSettler$Links" "hosts" "[I" : Cond) ∈ osX := wv2 _ (List.mem_of_getElem? (i := 29) rfl)
theorem wd202 : (.fieldLink RX1 133 "OrderSettler$Links" "hosts" "[I" : Cond) ∈ osX := wv2 _ (List.mem_of_getElem? (i := 30) rfl)
theorem wd203 : (.fieldLink RX2 43 "OrderSettler$Links" "hostBackers" "[I" : Cond) ∈ osX := wv2 _ (List.mem_of_getElem? (i := 31) rfl)
theorem wd204 : (.fieldLink RX1 136 "OrderSettler$Links" "hostBackers" "[I" : Cond) ∈ osX := wv2 _ (List.mem_of_getElem? (i := 32) rfl)
theorem wd205 : (.fieldLink RX2 46 "OrderSettler$Links" "cutters" "[I" : Cond) ∈ osX := wv2 _ (List.mem_of_getElem? (i := 33) rfl)
theorem wd206 : (.fieldLink RX1 99 "OrderSettler$Links" "cutters" "[I" : Cond) ∈ osX := wv2 _ (List.mem_of_getElem? (i := 34) rfl)
theorem wd207 : (.fieldLink RX2 49 "OrderSettler$Links" "carriers" "[I" : Cond) ∈ osX := wv2 _ (List.mem_of_getElem? (i := 35) rfl)
theorem wd208 : (.fieldLink RX1 86 "OrderSettler$Links" "carriers" "[I" : Cond) ∈ osX := wv2 _ (List.mem_of_getElem? (i := 36) rfl)
theorem wd209 : (.fieldLink RX2 52 "OrderSettler$Links" "boarding" "[I" : Cond) ∈ osX := wv2 _ (List.mem_of_getElem? (i := 37) rfl)
theorem wd210 : (.fieldLink RX1 106 "OrderSettler$Links" "boarding" "[I" : Cond) ∈ osX := wv2 _ (List.mem_of_getElem? (i := 38) rfl)
theorem wd211 : (.fieldLink RX2 55 "OrderSettler$Links" "landing" "[I" : Cond) ∈ osX := wv2 _ (List.mem_of_getElem? (i := 39) rfl)
theorem wd212 : (.fieldLink RX1 112 "OrderSettler$Links" "landing" "[I" : Cond) ∈ osX := wv2 _ (List.mem_of_getElem? (i := 40) rfl)
theorem wd213 : (.fieldLink RX2 58 "OrderSettler$Links" "waters" "[I" : Cond) ∈ osX := wv2 _ (List.mem_of_getElem? (i := 41) rfl)
theorem wd214 : (.fieldLink RX1 109 "OrderSettler$Links" "waters" "[I" : Cond) ∈ osX := wv2 _ (List.mem_of_getElem? (i := 42) rfl)
theorem wd248 : (.arrayClass .int : Cond) ∈ osX := wv2 _ (List.mem_of_getElem? (i := 43) rfl)
theorem wd249 : (.fieldLink RX1 12 "OrderSettler$Judge" "links" "LOrderSettler$Links;" : Cond) ∈ osX := wv2 _ (List.mem_of_getElem? (i := 44) rfl)
theorem wd250 : (.fieldLink RX1 18 "OrderSettler$Judge" "seaOpen" "Z" : Cond) ∈ osX := wv2 _ (List.mem_of_getElem? (i := 45) rfl)
theorem wd251 : (.fieldLink RX1 22 "OrderSettler$Judge" "paths" "I" : Cond) ∈ osX := wv2 _ (List.mem_of_getElem? (i := 46) rfl)
theorem wd252 : (.fieldLink RX1 26 "OrderSettler$Judge" "given" "I" : Cond) ∈ osX := wv2 _ (List.mem_of_getElem? (i := 47) rfl)
theorem wd253 : (.fieldLink RX1 29 "OrderSettler$Judge" "best" "I" : Cond) ∈ osX := wv2 _ (List.mem_of_getElem? (i := 48) rfl)
theorem wd254 : (.fieldLink RX1 32 "OrderSettler$Judge" "success" "I" : Cond) ∈ osX := wv2 _ (List.mem_of_getElem? (i := 49) rfl)
theorem wd255 : (.fieldLink RX9 240 "OrderSettler$Judge" "success" "I" : Cond) ∈ osX := wv2 _ (List.mem_of_getElem? (i := 50) rfl)
theorem wd256 : (.fieldLink RX5 160 "OrderSettler$Judge" "success" "I" : Cond) ∈ osX := wv2 _ (List.mem_of_getElem? (i := 51) rfl)
theorem wd257 : (.fieldLink RX1 35 "OrderSettler$Judge" "dislodged" "I" : Cond) ∈ osX := wv2 _ (List.mem_of_getElem? (i := 52) rfl)
theorem wd258 : (.fieldLink RX9 233 "OrderSettler$Judge" "dislodged" "I" : Cond) ∈ osX := wv2 _ (List.mem_of_getElem? (i := 53) rfl)
theorem wd259 : (.fieldLink RX5 169 "OrderSettler$Judge" "dislodged" "I" : Cond) ∈ osX := wv2 _ (List.mem_of_getElem? (i := 54) rfl)
theorem wd260 : (.fieldLink RX1 38 "OrderSettler$Judge" "outcomeCount" "I" : Cond) ∈ osX := wv2 _ (List.mem_of_getElem? (i := 55) rfl)
theorem wd261 : (.fieldLink RX5 181 "OrderSettler$Judge" "outcomeCount" "I" : Cond) ∈ osX := wv2 _ (List.mem_of_getElem? (i := 56) rfl)
theorem wd279 : (.classLink RX9 51 "OrderSettler$State" : Cond) ∈ osX := wv2 _ (List.mem_of_getElem? (i := 57) rfl)
theorem wd281 : (.classLink RX9 60 "OrderSettler$Board" : Cond) ∈ osX := wv2 _ (List.mem_of_getElem? (i := 58) rfl)
theorem wd282 : (.instantiable RX0 10 : Cond) ∈ osX := wv2 _ (List.mem_of_getElem? (i := 59) rfl)
def ww3 : List Cond := [.methodLink RX9 62 yX0_init, .instanceMethod yX0_init, .methodLink RX0 3 objectInit, .methodLink RX0 43 yX0_clear, .instanceMethod yX0_clear, .selects RX0 yX0_clear yX0_clear, .fieldLink RX0 9 "OrderSettler$Board" "areaCount" "I", .fieldLink RX3 86 "OrderSettler$Board" "areaCount" "I", .fieldLink RX9 120 "OrderSettler$Board" "areaCount" "I", .fieldLink RX0 15 "OrderSettler$Board" "powerCount" "I", .fieldLink RX3 121 "OrderSettler$Board" "powerCount" "I", .fieldLink RX9 123 "OrderSettler$Board" "powerCount" "I", .fieldLink RX5 192 "OrderSettler$Board" "powerCount" "I", .fieldLink RX0 18 "OrderSettler$Board" "coasts" "I", .fieldLink RX5 151 "OrderSettler$Board" "coasts" "I", .fieldLink RX0 21 "OrderSettler$Board" "seas" "I", .fieldLink RX5 144 "OrderSettler$Board" "seas" "I", .fieldLink RX0 24 "OrderSettler$Board" "centers" "I", .fieldLink RX3 144 "OrderSettler$Board" "centers" "I", .fieldLink RX9 136 "OrderSettler$Board" "centers" "I", .fieldLink RX5 189 "OrderSettler$Board" "centers" "I", .fieldLink RX0 27 "OrderSettler$Board" "areaName" "[I", .fieldLink RX0 31 "OrderSettler$Board" "home" "[I", .fieldLink RX3 136 "OrderSettler$Board" "home" "[I", .fieldLink RX9 143 "OrderSettler$Board" "home" "[I", .fieldLink RX7 146 "OrderSettler$Board" "home" "[I", .fieldLink RX5 121 "OrderSettler$Board" "home" "[I", .fieldLink RX0 34 "OrderSettler$Board" "armyBorders" "[I", .fieldLink RX0 37 "OrderSettler$Board" "fleetBorders" "[I", .fieldLink RX0 40 "OrderSettler$Board" "powerName" "[I", .instantiable RX5 16, .methodLink RX9 70 yX5_init, .instanceMethod yX5_init, .methodLink RX5 3 objectInit, .methodLink RX5 62 yX5_clear, .instanceMethod yX5_clear, .selects RX5 yX5_clear yX5_clear, .methodLink RX5 65 yX5_clearUnits, .instanceMethod yX5_clearUnits, .methodLink RX5 68 yX5_clearDislodged, .instanceMethod yX5_clearDislodged, .methodLink RX5 71 yX5_holdAll, .instanceMethod yX5_holdAll, .methodLink RX5 74 yX5_giveOrder, .instanceMethod yX5_giveOrder, .selects RX5 yX5_giveOrder yX5_giveOrder, .fieldLink RX5 9 "OrderSettler$State" "phase" "I", .fieldLink RX7 26 "OrderSettler$State" "phase" "I", .fieldLink RX9 201 "OrderSettler$State" "phase" "I", .fieldLink RX5 15 "OrderSettler$State" "turn" "I", .fieldLink RX9 204 "OrderSettler$State" "turn" "I", .fieldLink RX5 18 "OrderSettler$State" "settled" "Z", .fieldLink RX9 372 "OrderSettler$State" "settled" "Z", .fieldLink RX5 22 "OrderSettler$State" "outcomeCount" "I", .fieldLink RX5 25 "OrderSettler$State" "contested" "I", .fieldLink RX9 257 "OrderSettler$State" "contested" "I", .fieldLink RX5 28 "OrderSettler$State" "owner" "[I", .fieldLink RX9 151 "OrderSettler$State" "owner" "[I", .fieldLink RX5 32 "OrderSettler$State" "unitPower" "[I", .fieldLink RX2 115 "OrderSettler$State" "unitPower" "[I"]
theorem wv3 : ∀ w ∈ ww3, w ∈ osX := osX_at [283, 284, 286, 287, 288, 289, 291, 292, 293, 294, 295, 296, 297, 298, 299, 300, 301, 302, 303, 304, 305, 306, 307, 308, 309, 310, 311, 312, 313, 314, 336, 337, 338, 340, 341, 342, 343, 345, 347, 349, 351, 353, 355, 357, 358, 359, 361, 362, 363, 364, 365, 366, 367, 368, 369, 370, 371, 372, 373, 374] (by decide +kernel) (by decide +kernel)
theorem wd283 : (.methodLink RX9 62 yX0_init : Cond) ∈ osX := wv3 _ (List.mem_of_getElem? (i := 0) rfl)
theorem wd284 : (.instanceMethod yX0_init : Cond) ∈ osX := wv3 _ (List.mem_of_getElem? (i := 1) rfl)
theorem wd286 : (.methodLink RX0 3 objectInit : Cond) ∈ osX := wv3 _ (List.mem_of_getElem? (i := 2) rfl)
theorem wd287 : (.methodLink RX0 43 yX0_clear : Cond) ∈ osX := wv3 _ (List.mem_of_getElem? (i := 3) rfl)
theorem wd288 : (.instanceMethod yX0_clear : Cond) ∈ osX := wv3 _ (List.mem_of_getElem? (i := 4) rfl)
theorem wd289 : (.selects RX0 yX0_clear yX0_clear : Cond) ∈ osX := wv3 _ (List.mem_of_getElem? (i := 5) rfl)
theorem wd291 : (.fieldLink RX0 9 "OrderSettler$Board" "areaCount" "I" : Cond) ∈ osX := wv3 _ (List.mem_of_getElem? (i := 6) rfl)
theorem wd292 : (.fieldLink RX3 86 "OrderSettler$Board" "areaCount" "I" : Cond) ∈ osX := wv3 _ (List.mem_of_getElem? (i := 7) rfl)
theorem wd293 : (.fieldLink RX9 120 "OrderSettler$Board" "areaCount" "I" : Cond) ∈ osX := wv3 _ (List.mem_of_getElem? (i := 8) rfl)
theorem wd294 : (.fieldLink RX0 15 "OrderSettler$Board" "powerCount" "I" : Cond) ∈ osX := wv3 _ (List.mem_of_getElem? (i := 9) rfl)
theorem wd295 : (.fieldLink RX3 121 "OrderSettler$Board" "powerCount" "I" : Cond) ∈ osX := wv3 _ (List.mem_of_getElem? (i := 10) rfl)
theorem wd296 : (.fieldLink RX9 123 "OrderSettler$Board" "powerCount" "I" : Cond) ∈ osX := wv3 _ (List.mem_of_getElem? (i := 11) rfl)
theorem wd297 : (.fieldLink RX5 192 "OrderSettler$Board" "powerCount" "I" : Cond) ∈ osX := wv3 _ (List.mem_of_getElem? (i := 12) rfl)
theorem wd298 : (.fieldLink RX0 18 "OrderSettler$Board" "coasts" "I" : Cond) ∈ osX := wv3 _ (List.mem_of_getElem? (i := 13) rfl)
theorem wd299 : (.fieldLink RX5 151 "OrderSettler$Board" "coasts" "I" : Cond) ∈ osX := wv3 _ (List.mem_of_getElem? (i := 14) rfl)
theorem wd300 : (.fieldLink RX0 21 "OrderSettler$Board" "seas" "I" : Cond) ∈ osX := wv3 _ (List.mem_of_getElem? (i := 15) rfl)
theorem wd301 : (.fieldLink RX5 144 "OrderSettler$Board" "seas" "I" : Cond) ∈ osX := wv3 _ (List.mem_of_getElem? (i := 16) rfl)
theorem wd302 : (.fieldLink RX0 24 "OrderSettler$Board" "centers" "I" : Cond) ∈ osX := wv3 _ (List.mem_of_getElem? (i := 17) rfl)
theorem wd303 : (.fieldLink RX3 144 "OrderSettler$Board" "centers" "I" : Cond) ∈ osX := wv3 _ (List.mem_of_getElem? (i := 18) rfl)
theorem wd304 : (.fieldLink RX9 136 "OrderSettler$Board" "centers" "I" : Cond) ∈ osX := wv3 _ (List.mem_of_getElem? (i := 19) rfl)
theorem wd305 : (.fieldLink RX5 189 "OrderSettler$Board" "centers" "I" : Cond) ∈ osX := wv3 _ (List.mem_of_getElem? (i := 20) rfl)
theorem wd306 : (.fieldLink RX0 27 "OrderSettler$Board" "areaName" "[I" : Cond) ∈ osX := wv3 _ (List.mem_of_getElem? (i := 21) rfl)
theorem wd307 : (.fieldLink RX0 31 "OrderSettler$Board" "home" "[I" : Cond) ∈ osX := wv3 _ (List.mem_of_getElem? (i := 22) rfl)
theorem wd308 : (.fieldLink RX3 136 "OrderSettler$Board" "home" "[I" : Cond) ∈ osX := wv3 _ (List.mem_of_getElem? (i := 23) rfl)
theorem wd309 : (.fieldLink RX9 143 "OrderSettler$Board" "home" "[I" : Cond) ∈ osX := wv3 _ (List.mem_of_getElem? (i := 24) rfl)
theorem wd310 : (.fieldLink RX7 146 "OrderSettler$Board" "home" "[I" : Cond) ∈ osX := wv3 _ (List.mem_of_getElem? (i := 25) rfl)
theorem wd311 : (.fieldLink RX5 121 "OrderSettler$Board" "home" "[I" : Cond) ∈ osX := wv3 _ (List.mem_of_getElem? (i := 26) rfl)
theorem wd312 : (.fieldLink RX0 34 "OrderSettler$Board" "armyBorders" "[I" : Cond) ∈ osX := wv3 _ (List.mem_of_getElem? (i := 27) rfl)
theorem wd313 : (.fieldLink RX0 37 "OrderSettler$Board" "fleetBorders" "[I" : Cond) ∈ osX := wv3 _ (List.mem_of_getElem? (i := 28) rfl)
theorem wd314 : (.fieldLink RX0 40 "OrderSettler$Board" "powerName" "[I" : Cond) ∈ osX := wv3 _ (List.mem_of_getElem? (i := 29) rfl)
theorem wd336 : (.instantiable RX5 16 : Cond) ∈ osX := wv3 _ (List.mem_of_getElem? (i := 30) rfl)
theorem wd337 : (.methodLink RX9 70 yX5_init : Cond) ∈ osX := wv3 _ (List.mem_of_getElem? (i := 31) rfl)
theorem wd338 : (.instanceMethod yX5_init : Cond) ∈ osX := wv3 _ (List.mem_of_getElem? (i := 32) rfl)
theorem wd340 : (.methodLink RX5 3 objectInit : Cond) ∈ osX := wv3 _ (List.mem_of_getElem? (i := 33) rfl)
theorem wd341 : (.methodLink RX5 62 yX5_clear : Cond) ∈ osX := wv3 _ (List.mem_of_getElem? (i := 34) rfl)
theorem wd342 : (.instanceMethod yX5_clear : Cond) ∈ osX := wv3 _ (List.mem_of_getElem? (i := 35) rfl)
theorem wd343 : (.selects RX5 yX5_clear yX5_clear : Cond) ∈ osX := wv3 _ (List.mem_of_getElem? (i := 36) rfl)
theorem wd345 : (.methodLink RX5 65 yX5_clearUnits : Cond) ∈ osX := wv3 _ (List.mem_of_getElem? (i := 37) rfl)
theorem wd347 : (.instanceMethod yX5_clearUnits : Cond) ∈ osX := wv3 _ (List.mem_of_getElem? (i := 38) rfl)
theorem wd349 : (.methodLink RX5 68 yX5_clearDislodged : Cond) ∈ osX := wv3 _ (List.mem_of_getElem? (i := 39) rfl)
theorem wd351 : (.instanceMethod yX5_clearDislodged : Cond) ∈ osX := wv3 _ (List.mem_of_getElem? (i := 40) rfl)
theorem wd353 : (.methodLink RX5 71 yX5_holdAll : Cond) ∈ osX := wv3 _ (List.mem_of_getElem? (i := 41) rfl)
theorem wd355 : (.instanceMethod yX5_holdAll : Cond) ∈ osX := wv3 _ (List.mem_of_getElem? (i := 42) rfl)
theorem wd357 : (.methodLink RX5 74 yX5_giveOrder : Cond) ∈ osX := wv3 _ (List.mem_of_getElem? (i := 43) rfl)
theorem wd358 : (.instanceMethod yX5_giveOrder : Cond) ∈ osX := wv3 _ (List.mem_of_getElem? (i := 44) rfl)
theorem wd359 : (.selects RX5 yX5_giveOrder yX5_giveOrder : Cond) ∈ osX := wv3 _ (List.mem_of_getElem? (i := 45) rfl)
theorem wd361 : (.fieldLink RX5 9 "OrderSettler$State" "phase" "I" : Cond) ∈ osX := wv3 _ (List.mem_of_getElem? (i := 46) rfl)
theorem wd362 : (.fieldLink RX7 26 "OrderSettler$State" "phase" "I" : Cond) ∈ osX := wv3 _ (List.mem_of_getElem? (i := 47) rfl)
theorem wd363 : (.fieldLink RX9 201 "OrderSettler$State" "phase" "I" : Cond) ∈ osX := wv3 _ (List.mem_of_getElem? (i := 48) rfl)
theorem wd364 : (.fieldLink RX5 15 "OrderSettler$State" "turn" "I" : Cond) ∈ osX := wv3 _ (List.mem_of_getElem? (i := 49) rfl)
theorem wd365 : (.fieldLink RX9 204 "OrderSettler$State" "turn" "I" : Cond) ∈ osX := wv3 _ (List.mem_of_getElem? (i := 50) rfl)
theorem wd366 : (.fieldLink RX5 18 "OrderSettler$State" "settled" "Z" : Cond) ∈ osX := wv3 _ (List.mem_of_getElem? (i := 51) rfl)
theorem wd367 : (.fieldLink RX9 372 "OrderSettler$State" "settled" "Z" : Cond) ∈ osX := wv3 _ (List.mem_of_getElem? (i := 52) rfl)
theorem wd368 : (.fieldLink RX5 22 "OrderSettler$State" "outcomeCount" "I" : Cond) ∈ osX := wv3 _ (List.mem_of_getElem? (i := 53) rfl)
theorem wd369 : (.fieldLink RX5 25 "OrderSettler$State" "contested" "I" : Cond) ∈ osX := wv3 _ (List.mem_of_getElem? (i := 54) rfl)
theorem wd370 : (.fieldLink RX9 257 "OrderSettler$State" "contested" "I" : Cond) ∈ osX := wv3 _ (List.mem_of_getElem? (i := 55) rfl)
theorem wd371 : (.fieldLink RX5 28 "OrderSettler$State" "owner" "[I" : Cond) ∈ osX := wv3 _ (List.mem_of_getElem? (i := 56) rfl)
theorem wd372 : (.fieldLink RX9 151 "OrderSettler$State" "owner" "[I" : Cond) ∈ osX := wv3 _ (List.mem_of_getElem? (i := 57) rfl)
theorem wd373 : (.fieldLink RX5 32 "OrderSettler$State" "unitPower" "[I" : Cond) ∈ osX := wv3 _ (List.mem_of_getElem? (i := 58) rfl)
theorem wd374 : (.fieldLink RX2 115 "OrderSettler$State" "unitPower" "[I" : Cond) ∈ osX := wv3 _ (List.mem_of_getElem? (i := 59) rfl)
def ww4 : List Cond := [.fieldLink RX9 154 "OrderSettler$State" "unitPower" "[I", .fieldLink RX7 158 "OrderSettler$State" "unitPower" "[I", .fieldLink RX5 35 "OrderSettler$State" "unitKind" "[I", .fieldLink RX9 157 "OrderSettler$State" "unitKind" "[I", .fieldLink RX5 38 "OrderSettler$State" "outPower" "[I", .fieldLink RX9 160 "OrderSettler$State" "outPower" "[I", .fieldLink RX5 41 "OrderSettler$State" "outKind" "[I", .fieldLink RX9 163 "OrderSettler$State" "outKind" "[I", .fieldLink RX5 44 "OrderSettler$State" "attackedFrom" "[I", .fieldLink RX5 47 "OrderSettler$State" "retreatGoal" "[I", .fieldLink RX5 50 "OrderSettler$State" "orderKind" "[I", .fieldLink RX2 80 "OrderSettler$State" "orderKind" "[I", .fieldLink RX9 213 "OrderSettler$State" "orderKind" "[I", .fieldLink RX5 53 "OrderSettler$State" "orderFirst" "[I", .fieldLink RX2 101 "OrderSettler$State" "orderFirst" "[I", .fieldLink RX9 216 "OrderSettler$State" "orderFirst" "[I", .fieldLink RX5 56 "OrderSettler$State" "orderSecond" "[I", .fieldLink RX2 112 "OrderSettler$State" "orderSecond" "[I", .fieldLink RX9 219 "OrderSettler$State" "orderSecond" "[I", .fieldLink RX5 59 "OrderSettler$State" "results" "[I", .fieldLink RX9 251 "OrderSettler$State" "results" "[I", .fieldLink RX9 9 "OrderSettler" "input" "[B", .fieldLink RX9 13 "OrderSettler" "inputLength" "I", .fieldLink RX9 20 "OrderSettler" "output" "LOrderSettler$Output;", .fieldLink RX9 24 "OrderSettler" "errorCode" "I", .fieldLink RX9 27 "OrderSettler" "errorPosition" "I", .fieldLink RX9 33 "OrderSettler" "mapReader" "LOrderSettler$MapReader;", .fieldLink RX9 40 "OrderSettler" "turnReader" "LOrderSettler$TurnReader;", .fieldLink RX9 47 "OrderSettler" "judge" "LOrderSettler$Judge;", .fieldLink RX9 53 "OrderSettler" "past" "[LOrderSettler$State;", .fieldLink RX9 57 "OrderSettler" "undoable" "I", .fieldLink RX9 63 "OrderSettler" "board" "LOrderSettler$Board;", .fieldLink RX9 67 "OrderSettler" "spareBoard" "LOrderSettler$Board;", .fieldLink RX9 71 "OrderSettler" "now" "LOrderSettler$State;", .fieldLink RX9 75 "OrderSettler" "draft" "LOrderSettler$State;", .methodLink RL 89 yX9_areas, .instanceMethod yX9_areas, .selects RX9 yX9_areas yX9_areas, .methodLink RL 112 yX9_phase, .instanceMethod yX9_phase, .selects RX9 yX9_phase yX9_phase, .methodLink RL 130 yX9_undoCount, .instanceMethod yX9_undoCount, .selects RX9 yX9_undoCount yX9_undoCount, .methodLink RL 42 yL_next, .static yL_next, .constant RL 7 (1103515245 : Int32), .methodLink RL 184 yL_load, .static yL_load, .classLink RL 34 "java/lang/IllegalStateException", .methodLink RL 24 yL_type, .static yL_type, .methodLink RL 8 yJ0_length_8abf5, .instanceMethod yJ0_length_8abf5, .selects RJ0 yJ0_length_8abf5 yJ0_length_8abf5, .methodLink RJ0 335 yJ0_coder_7d493, .instanceMethod yJ0_coder_7d493, .selects RJ0 yJ0_coder_7d493 yJ0_coder_7d493, .fieldLink RJ0 38 "java/lang/String" "COMPACT_STRINGS" "Z", .methodLink RL 14 yJ0_charAt_5068e]
theorem wv4 : ∀ w ∈ ww4, w ∈ osX := osX_at [375, 376, 377, 378, 379, 380, 381, 382, 383, 384, 385, 386, 387, 388, 389, 390, 391, 392, 393, 394, 395, 429, 430, 431, 432, 433, 434, 435, 436, 437, 438, 439, 440, 441, 442, 472, 473, 474, 476, 477, 478, 480, 481, 482, 484, 485, 487, 488, 489, 491, 492, 493, 495, 496, 497, 499, 500, 501, 503, 505] (by decide +kernel) (by decide +kernel)
theorem wd375 : (.fieldLink RX9 154 "OrderSettler$State" "unitPower" "[I" : Cond) ∈ osX := wv4 _ (List.mem_of_getElem? (i := 0) rfl)
theorem wd376 : (.fieldLink RX7 158 "OrderSettler$State" "unitPower" "[I" : Cond) ∈ osX := wv4 _ (List.mem_of_getElem? (i := 1) rfl)
theorem wd377 : (.fieldLink RX5 35 "OrderSettler$State" "unitKind" "[I" : Cond) ∈ osX := wv4 _ (List.mem_of_getElem? (i := 2) rfl)
theorem wd378 : (.fieldLink RX9 157 "OrderSettler$State" "unitKind" "[I" : Cond) ∈ osX := wv4 _ (List.mem_of_getElem? (i := 3) rfl)
theorem wd379 : (.fieldLink RX5 38 "OrderSettler$State" "outPower" "[I" : Cond) ∈ osX := wv4 _ (List.mem_of_getElem? (i := 4) rfl)
theorem wd380 : (.fieldLink RX9 160 "OrderSettler$State" "outPower" "[I" : Cond) ∈ osX := wv4 _ (List.mem_of_getElem? (i := 5) rfl)
theorem wd381 : (.fieldLink RX5 41 "OrderSettler$State" "outKind" "[I" : Cond) ∈ osX := wv4 _ (List.mem_of_getElem? (i := 6) rfl)
theorem wd382 : (.fieldLink RX9 163 "OrderSettler$State" "outKind" "[I" : Cond) ∈ osX := wv4 _ (List.mem_of_getElem? (i := 7) rfl)
theorem wd383 : (.fieldLink RX5 44 "OrderSettler$State" "attackedFrom" "[I" : Cond) ∈ osX := wv4 _ (List.mem_of_getElem? (i := 8) rfl)
theorem wd384 : (.fieldLink RX5 47 "OrderSettler$State" "retreatGoal" "[I" : Cond) ∈ osX := wv4 _ (List.mem_of_getElem? (i := 9) rfl)
theorem wd385 : (.fieldLink RX5 50 "OrderSettler$State" "orderKind" "[I" : Cond) ∈ osX := wv4 _ (List.mem_of_getElem? (i := 10) rfl)
theorem wd386 : (.fieldLink RX2 80 "OrderSettler$State" "orderKind" "[I" : Cond) ∈ osX := wv4 _ (List.mem_of_getElem? (i := 11) rfl)
theorem wd387 : (.fieldLink RX9 213 "OrderSettler$State" "orderKind" "[I" : Cond) ∈ osX := wv4 _ (List.mem_of_getElem? (i := 12) rfl)
theorem wd388 : (.fieldLink RX5 53 "OrderSettler$State" "orderFirst" "[I" : Cond) ∈ osX := wv4 _ (List.mem_of_getElem? (i := 13) rfl)
theorem wd389 : (.fieldLink RX2 101 "OrderSettler$State" "orderFirst" "[I" : Cond) ∈ osX := wv4 _ (List.mem_of_getElem? (i := 14) rfl)
theorem wd390 : (.fieldLink RX9 216 "OrderSettler$State" "orderFirst" "[I" : Cond) ∈ osX := wv4 _ (List.mem_of_getElem? (i := 15) rfl)
theorem wd391 : (.fieldLink RX5 56 "OrderSettler$State" "orderSecond" "[I" : Cond) ∈ osX := wv4 _ (List.mem_of_getElem? (i := 16) rfl)
theorem wd392 : (.fieldLink RX2 112 "OrderSettler$State" "orderSecond" "[I" : Cond) ∈ osX := wv4 _ (List.mem_of_getElem? (i := 17) rfl)
theorem wd393 : (.fieldLink RX9 219 "OrderSettler$State" "orderSecond" "[I" : Cond) ∈ osX := wv4 _ (List.mem_of_getElem? (i := 18) rfl)
theorem wd394 : (.fieldLink RX5 59 "OrderSettler$State" "results" "[I" : Cond) ∈ osX := wv4 _ (List.mem_of_getElem? (i := 19) rfl)
theorem wd395 : (.fieldLink RX9 251 "OrderSettler$State" "results" "[I" : Cond) ∈ osX := wv4 _ (List.mem_of_getElem? (i := 20) rfl)
theorem wd429 : (.fieldLink RX9 9 "OrderSettler" "input" "[B" : Cond) ∈ osX := wv4 _ (List.mem_of_getElem? (i := 21) rfl)
theorem wd430 : (.fieldLink RX9 13 "OrderSettler" "inputLength" "I" : Cond) ∈ osX := wv4 _ (List.mem_of_getElem? (i := 22) rfl)
theorem wd431 : (.fieldLink RX9 20 "OrderSettler" "output" "LOrderSettler$Output;" : Cond) ∈ osX := wv4 _ (List.mem_of_getElem? (i := 23) rfl)
theorem wd432 : (.fieldLink RX9 24 "OrderSettler" "errorCode" "I" : Cond) ∈ osX := wv4 _ (List.mem_of_getElem? (i := 24) rfl)
theorem wd433 : (.fieldLink RX9 27 "OrderSettler" "errorPosition" "I" : Cond) ∈ osX := wv4 _ (List.mem_of_getElem? (i := 25) rfl)
theorem wd434 : (.fieldLink RX9 33 "OrderSettler" "mapReader" "LOrderSettler$MapReader;" : Cond) ∈ osX := wv4 _ (List.mem_of_getElem? (i := 26) rfl)
theorem wd435 : (.fieldLink RX9 40 "OrderSettler" "turnReader" "LOrderSettler$TurnReader;" : Cond) ∈ osX := wv4 _ (List.mem_of_getElem? (i := 27) rfl)
theorem wd436 : (.fieldLink RX9 47 "OrderSettler" "judge" "LOrderSettler$Judge;" : Cond) ∈ osX := wv4 _ (List.mem_of_getElem? (i := 28) rfl)
theorem wd437 : (.fieldLink RX9 53 "OrderSettler" "past" "[LOrderSettler$State;" : Cond) ∈ osX := wv4 _ (List.mem_of_getElem? (i := 29) rfl)
theorem wd438 : (.fieldLink RX9 57 "OrderSettler" "undoable" "I" : Cond) ∈ osX := wv4 _ (List.mem_of_getElem? (i := 30) rfl)
theorem wd439 : (.fieldLink RX9 63 "OrderSettler" "board" "LOrderSettler$Board;" : Cond) ∈ osX := wv4 _ (List.mem_of_getElem? (i := 31) rfl)
theorem wd440 : (.fieldLink RX9 67 "OrderSettler" "spareBoard" "LOrderSettler$Board;" : Cond) ∈ osX := wv4 _ (List.mem_of_getElem? (i := 32) rfl)
theorem wd441 : (.fieldLink RX9 71 "OrderSettler" "now" "LOrderSettler$State;" : Cond) ∈ osX := wv4 _ (List.mem_of_getElem? (i := 33) rfl)
theorem wd442 : (.fieldLink RX9 75 "OrderSettler" "draft" "LOrderSettler$State;" : Cond) ∈ osX := wv4 _ (List.mem_of_getElem? (i := 34) rfl)
theorem wd472 : (.methodLink RL 89 yX9_areas : Cond) ∈ osX := wv4 _ (List.mem_of_getElem? (i := 35) rfl)
theorem wd473 : (.instanceMethod yX9_areas : Cond) ∈ osX := wv4 _ (List.mem_of_getElem? (i := 36) rfl)
theorem wd474 : (.selects RX9 yX9_areas yX9_areas : Cond) ∈ osX := wv4 _ (List.mem_of_getElem? (i := 37) rfl)
theorem wd476 : (.methodLink RL 112 yX9_phase : Cond) ∈ osX := wv4 _ (List.mem_of_getElem? (i := 38) rfl)
theorem wd477 : (.instanceMethod yX9_phase : Cond) ∈ osX := wv4 _ (List.mem_of_getElem? (i := 39) rfl)
theorem wd478 : (.selects RX9 yX9_phase yX9_phase : Cond) ∈ osX := wv4 _ (List.mem_of_getElem? (i := 40) rfl)
theorem wd480 : (.methodLink RL 130 yX9_undoCount : Cond) ∈ osX := wv4 _ (List.mem_of_getElem? (i := 41) rfl)
theorem wd481 : (.instanceMethod yX9_undoCount : Cond) ∈ osX := wv4 _ (List.mem_of_getElem? (i := 42) rfl)
theorem wd482 : (.selects RX9 yX9_undoCount yX9_undoCount : Cond) ∈ osX := wv4 _ (List.mem_of_getElem? (i := 43) rfl)
theorem wd484 : (.methodLink RL 42 yL_next : Cond) ∈ osX := wv4 _ (List.mem_of_getElem? (i := 44) rfl)
theorem wd485 : (.static yL_next : Cond) ∈ osX := wv4 _ (List.mem_of_getElem? (i := 45) rfl)
theorem wd487 : (.constant RL 7 (1103515245 : Int32) : Cond) ∈ osX := wv4 _ (List.mem_of_getElem? (i := 46) rfl)
theorem wd488 : (.methodLink RL 184 yL_load : Cond) ∈ osX := wv4 _ (List.mem_of_getElem? (i := 47) rfl)
theorem wd489 : (.static yL_load : Cond) ∈ osX := wv4 _ (List.mem_of_getElem? (i := 48) rfl)
theorem wd491 : (.classLink RL 34 "java/lang/IllegalStateException" : Cond) ∈ osX := wv4 _ (List.mem_of_getElem? (i := 49) rfl)
theorem wd492 : (.methodLink RL 24 yL_type : Cond) ∈ osX := wv4 _ (List.mem_of_getElem? (i := 50) rfl)
theorem wd493 : (.static yL_type : Cond) ∈ osX := wv4 _ (List.mem_of_getElem? (i := 51) rfl)
theorem wd495 : (.methodLink RL 8 yJ0_length_8abf5 : Cond) ∈ osX := wv4 _ (List.mem_of_getElem? (i := 52) rfl)
theorem wd496 : (.instanceMethod yJ0_length_8abf5 : Cond) ∈ osX := wv4 _ (List.mem_of_getElem? (i := 53) rfl)
theorem wd497 : (.selects RJ0 yJ0_length_8abf5 yJ0_length_8abf5 : Cond) ∈ osX := wv4 _ (List.mem_of_getElem? (i := 54) rfl)
theorem wd499 : (.methodLink RJ0 335 yJ0_coder_7d493 : Cond) ∈ osX := wv4 _ (List.mem_of_getElem? (i := 55) rfl)
theorem wd500 : (.instanceMethod yJ0_coder_7d493 : Cond) ∈ osX := wv4 _ (List.mem_of_getElem? (i := 56) rfl)
theorem wd501 : (.selects RJ0 yJ0_coder_7d493 yJ0_coder_7d493 : Cond) ∈ osX := wv4 _ (List.mem_of_getElem? (i := 57) rfl)
theorem wd503 : (.fieldLink RJ0 38 "java/lang/String" "COMPACT_STRINGS" "Z" : Cond) ∈ osX := wv4 _ (List.mem_of_getElem? (i := 58) rfl)
theorem wd505 : (.methodLink RL 14 yJ0_charAt_5068e : Cond) ∈ osX := wv4 _ (List.mem_of_getElem? (i := 59) rfl)
def ww5 : List Cond := [.instanceMethod yJ0_charAt_5068e, .selects RJ0 yJ0_charAt_5068e yJ0_charAt_5068e, .methodLink RJ0 492 yJ0_isLatin1_aae02, .instanceMethod yJ0_isLatin1_aae02, .selects RJ0 yJ0_isLatin1_aae02 yJ0_isLatin1_aae02, .methodLink RJ0 495 yJ1_charAt_3b067, .static yJ1_charAt_3b067, .methodLink RJ1 9 yJ0_checkIndex_df160, .static yJ0_checkIndex_df160, .fieldLink RJ0 1053 "jdk/internal/util/Preconditions" "SIOOBE_FORMATTER" "Ljava/util/function/BiFunction;", .methodLink RJ0 1059 yJ3_checkIndex_8e157, .static yJ3_checkIndex_8e157, .methodLink RL 18 yX9_feed, .instanceMethod yX9_feed, .selects RX9 yX9_feed yX9_feed, .classLink RX9 78 "java/lang/IllegalStateException", .castable "java/lang/IllegalStateException" "java/lang/IllegalStateException", .methodLink RX9 85 yX9_append, .instanceMethod yX9_append, .methodLink RL 30 yX9_load, .instanceMethod yX9_load, .selects RX9 yX9_load yX9_load, .methodLink RX9 89 yX9_requireLength, .instanceMethod yX9_requireLength, .classLink RX9 289 "java/lang/IllegalArgumentException", .methodLink RX9 93 yX3_readMap, .instanceMethod yX3_readMap, .selects RX3 yX3_readMap yX3_readMap, .methodLink RX3 9 yX0_clear, .methodLink RX3 14 yX5_clear, .methodLink RX3 17 ⟨"OrderSettler$MapReader", "begin", "([BI)V"⟩, .sameMethod "OrderSettler$MapReader" "OrderSettler$TextReader" "begin" "([BI)V", .selects RX3 ⟨"OrderSettler$MapReader", "begin", "([BI)V"⟩ yX6_begin, .instanceMethod yX6_begin, .methodLink RX6 44 yJ9_min_7cf53, .static yJ9_min_7cf53, .methodLink RX6 50 yX6_advance, .instanceMethod yX6_advance, .methodLink RX3 23 ⟨"OrderSettler$MapReader", "isAtEnd", "()Z"⟩, .sameMethod "OrderSettler$MapReader" "OrderSettler$TextReader" "isAtEnd" "()Z", .selects RX3 ⟨"OrderSettler$MapReader", "isAtEnd", "()Z"⟩ yX6_isAtEnd, .instanceMethod yX6_isAtEnd, .methodLink RX3 27 yX3_readStatement, .instanceMethod yX3_readStatement, .fieldLink RX3 38 "OrderSettler$Word" "LAND" "LOrderSettler$Word;", .methodLink RX3 44 ⟨"OrderSettler$MapReader", "take", "(LOrderSettler$Word;)Z"⟩, .sameMethod "OrderSettler$MapReader" "OrderSettler$TextReader" "take" "(LOrderSettler$Word;)Z", .selects RX3 ⟨"OrderSettler$MapReader", "take", "(LOrderSettler$Word;)Z"⟩ yX6_take, .instanceMethod yX6_take, .methodLink RX3 48 yX3_readArea, .instanceMethod yX3_readArea, .methodLink RX3 82 ⟨"OrderSettler$MapReader", "fail", "(II)Z"⟩, .sameMethod "OrderSettler$MapReader" "OrderSettler$TextReader" "fail" "(II)Z", .selects RX3 ⟨"OrderSettler$MapReader", "fail", "(II)Z"⟩ yX6_fail, .instanceMethod yX6_fail, .methodLink RX3 89 ⟨"OrderSettler$MapReader", "takeName", "()I"⟩, .sameMethod "OrderSettler$MapReader" "OrderSettler$TextReader" "takeName" "()I", .selects RX3 ⟨"OrderSettler$MapReader", "takeName", "()I"⟩ yX6_takeName, .instanceMethod yX6_takeName, .methodLink RX6 64 yX8_isKeyword]
theorem wv5 : ∀ w ∈ ww5, w ∈ osX := osX_at [506, 507, 509, 510, 511, 513, 514, 516, 517, 519, 521, 522, 543, 544, 545, 547, 549, 614, 616, 618, 619, 620, 622, 624, 626, 642, 643, 644, 646, 647, 648, 649, 651, 652, 654, 655, 657, 659, 661, 662, 664, 665, 667, 669, 671, 673, 674, 676, 677, 679, 681, 683, 684, 686, 687, 689, 690, 692, 693, 695] (by decide +kernel) (by decide +kernel)
theorem wd506 : (.instanceMethod yJ0_charAt_5068e : Cond) ∈ osX := wv5 _ (List.mem_of_getElem? (i := 0) rfl)
theorem wd507 : (.selects RJ0 yJ0_charAt_5068e yJ0_charAt_5068e : Cond) ∈ osX := wv5 _ (List.mem_of_getElem? (i := 1) rfl)
theorem wd509 : (.methodLink RJ0 492 yJ0_isLatin1_aae02 : Cond) ∈ osX := wv5 _ (List.mem_of_getElem? (i := 2) rfl)
theorem wd510 : (.instanceMethod yJ0_isLatin1_aae02 : Cond) ∈ osX := wv5 _ (List.mem_of_getElem? (i := 3) rfl)
theorem wd511 : (.selects RJ0 yJ0_isLatin1_aae02 yJ0_isLatin1_aae02 : Cond) ∈ osX := wv5 _ (List.mem_of_getElem? (i := 4) rfl)
theorem wd513 : (.methodLink RJ0 495 yJ1_charAt_3b067 : Cond) ∈ osX := wv5 _ (List.mem_of_getElem? (i := 5) rfl)
theorem wd514 : (.static yJ1_charAt_3b067 : Cond) ∈ osX := wv5 _ (List.mem_of_getElem? (i := 6) rfl)
theorem wd516 : (.methodLink RJ1 9 yJ0_checkIndex_df160 : Cond) ∈ osX := wv5 _ (List.mem_of_getElem? (i := 7) rfl)
theorem wd517 : (.static yJ0_checkIndex_df160 : Cond) ∈ osX := wv5 _ (List.mem_of_getElem? (i := 8) rfl)
theorem wd519 : (.fieldLink RJ0 1053 "jdk/internal/util/Preconditions" "SIOOBE_FORMATTER" "Ljava/util/function/BiFunction;" : Cond) ∈ osX := wv5 _ (List.mem_of_getElem? (i := 9) rfl)
theorem wd521 : (.methodLink RJ0 1059 yJ3_checkIndex_8e157 : Cond) ∈ osX := wv5 _ (List.mem_of_getElem? (i := 10) rfl)
theorem wd522 : (.static yJ3_checkIndex_8e157 : Cond) ∈ osX := wv5 _ (List.mem_of_getElem? (i := 11) rfl)
theorem wd543 : (.methodLink RL 18 yX9_feed : Cond) ∈ osX := wv5 _ (List.mem_of_getElem? (i := 12) rfl)
theorem wd544 : (.instanceMethod yX9_feed : Cond) ∈ osX := wv5 _ (List.mem_of_getElem? (i := 13) rfl)
theorem wd545 : (.selects RX9 yX9_feed yX9_feed : Cond) ∈ osX := wv5 _ (List.mem_of_getElem? (i := 14) rfl)
theorem wd547 : (.classLink RX9 78 "java/lang/IllegalStateException" : Cond) ∈ osX := wv5 _ (List.mem_of_getElem? (i := 15) rfl)
theorem wd549 : (.castable "java/lang/IllegalStateException" "java/lang/IllegalStateException" : Cond) ∈ osX := wv5 _ (List.mem_of_getElem? (i := 16) rfl)
theorem wd614 : (.methodLink RX9 85 yX9_append : Cond) ∈ osX := wv5 _ (List.mem_of_getElem? (i := 17) rfl)
theorem wd616 : (.instanceMethod yX9_append : Cond) ∈ osX := wv5 _ (List.mem_of_getElem? (i := 18) rfl)
theorem wd618 : (.methodLink RL 30 yX9_load : Cond) ∈ osX := wv5 _ (List.mem_of_getElem? (i := 19) rfl)
theorem wd619 : (.instanceMethod yX9_load : Cond) ∈ osX := wv5 _ (List.mem_of_getElem? (i := 20) rfl)
theorem wd620 : (.selects RX9 yX9_load yX9_load : Cond) ∈ osX := wv5 _ (List.mem_of_getElem? (i := 21) rfl)
theorem wd622 : (.methodLink RX9 89 yX9_requireLength : Cond) ∈ osX := wv5 _ (List.mem_of_getElem? (i := 22) rfl)
theorem wd624 : (.instanceMethod yX9_requireLength : Cond) ∈ osX := wv5 _ (List.mem_of_getElem? (i := 23) rfl)
theorem wd626 : (.classLink RX9 289 "java/lang/IllegalArgumentException" : Cond) ∈ osX := wv5 _ (List.mem_of_getElem? (i := 24) rfl)
theorem wd642 : (.methodLink RX9 93 yX3_readMap : Cond) ∈ osX := wv5 _ (List.mem_of_getElem? (i := 25) rfl)
theorem wd643 : (.instanceMethod yX3_readMap : Cond) ∈ osX := wv5 _ (List.mem_of_getElem? (i := 26) rfl)
theorem wd644 : (.selects RX3 yX3_readMap yX3_readMap : Cond) ∈ osX := wv5 _ (List.mem_of_getElem? (i := 27) rfl)
theorem wd646 : (.methodLink RX3 9 yX0_clear : Cond) ∈ osX := wv5 _ (List.mem_of_getElem? (i := 28) rfl)
theorem wd647 : (.methodLink RX3 14 yX5_clear : Cond) ∈ osX := wv5 _ (List.mem_of_getElem? (i := 29) rfl)
theorem wd648 : (.methodLink RX3 17 ⟨"OrderSettler$MapReader", "begin", "([BI)V"⟩ : Cond) ∈ osX := wv5 _ (List.mem_of_getElem? (i := 30) rfl)
theorem wd649 : (.sameMethod "OrderSettler$MapReader" "OrderSettler$TextReader" "begin" "([BI)V" : Cond) ∈ osX := wv5 _ (List.mem_of_getElem? (i := 31) rfl)
theorem wd651 : (.selects RX3 ⟨"OrderSettler$MapReader", "begin", "([BI)V"⟩ yX6_begin : Cond) ∈ osX := wv5 _ (List.mem_of_getElem? (i := 32) rfl)
theorem wd652 : (.instanceMethod yX6_begin : Cond) ∈ osX := wv5 _ (List.mem_of_getElem? (i := 33) rfl)
theorem wd654 : (.methodLink RX6 44 yJ9_min_7cf53 : Cond) ∈ osX := wv5 _ (List.mem_of_getElem? (i := 34) rfl)
theorem wd655 : (.static yJ9_min_7cf53 : Cond) ∈ osX := wv5 _ (List.mem_of_getElem? (i := 35) rfl)
theorem wd657 : (.methodLink RX6 50 yX6_advance : Cond) ∈ osX := wv5 _ (List.mem_of_getElem? (i := 36) rfl)
theorem wd659 : (.instanceMethod yX6_advance : Cond) ∈ osX := wv5 _ (List.mem_of_getElem? (i := 37) rfl)
theorem wd661 : (.methodLink RX3 23 ⟨"OrderSettler$MapReader", "isAtEnd", "()Z"⟩ : Cond) ∈ osX := wv5 _ (List.mem_of_getElem? (i := 38) rfl)
theorem wd662 : (.sameMethod "OrderSettler$MapReader" "OrderSettler$TextReader" "isAtEnd" "()Z" : Cond) ∈ osX := wv5 _ (List.mem_of_getElem? (i := 39) rfl)
theorem wd664 : (.selects RX3 ⟨"OrderSettler$MapReader", "isAtEnd", "()Z"⟩ yX6_isAtEnd : Cond) ∈ osX := wv5 _ (List.mem_of_getElem? (i := 40) rfl)
theorem wd665 : (.instanceMethod yX6_isAtEnd : Cond) ∈ osX := wv5 _ (List.mem_of_getElem? (i := 41) rfl)
theorem wd667 : (.methodLink RX3 27 yX3_readStatement : Cond) ∈ osX := wv5 _ (List.mem_of_getElem? (i := 42) rfl)
theorem wd669 : (.instanceMethod yX3_readStatement : Cond) ∈ osX := wv5 _ (List.mem_of_getElem? (i := 43) rfl)
theorem wd671 : (.fieldLink RX3 38 "OrderSettler$Word" "LAND" "LOrderSettler$Word;" : Cond) ∈ osX := wv5 _ (List.mem_of_getElem? (i := 44) rfl)
theorem wd673 : (.methodLink RX3 44 ⟨"OrderSettler$MapReader", "take", "(LOrderSettler$Word;)Z"⟩ : Cond) ∈ osX := wv5 _ (List.mem_of_getElem? (i := 45) rfl)
theorem wd674 : (.sameMethod "OrderSettler$MapReader" "OrderSettler$TextReader" "take" "(LOrderSettler$Word;)Z" : Cond) ∈ osX := wv5 _ (List.mem_of_getElem? (i := 46) rfl)
theorem wd676 : (.selects RX3 ⟨"OrderSettler$MapReader", "take", "(LOrderSettler$Word;)Z"⟩ yX6_take : Cond) ∈ osX := wv5 _ (List.mem_of_getElem? (i := 47) rfl)
theorem wd677 : (.instanceMethod yX6_take : Cond) ∈ osX := wv5 _ (List.mem_of_getElem? (i := 48) rfl)
theorem wd679 : (.methodLink RX3 48 yX3_readArea : Cond) ∈ osX := wv5 _ (List.mem_of_getElem? (i := 49) rfl)
theorem wd681 : (.instanceMethod yX3_readArea : Cond) ∈ osX := wv5 _ (List.mem_of_getElem? (i := 50) rfl)
theorem wd683 : (.methodLink RX3 82 ⟨"OrderSettler$MapReader", "fail", "(II)Z"⟩ : Cond) ∈ osX := wv5 _ (List.mem_of_getElem? (i := 51) rfl)
theorem wd684 : (.sameMethod "OrderSettler$MapReader" "OrderSettler$TextReader" "fail" "(II)Z" : Cond) ∈ osX := wv5 _ (List.mem_of_getElem? (i := 52) rfl)
theorem wd686 : (.selects RX3 ⟨"OrderSettler$MapReader", "fail", "(II)Z"⟩ yX6_fail : Cond) ∈ osX := wv5 _ (List.mem_of_getElem? (i := 53) rfl)
theorem wd687 : (.instanceMethod yX6_fail : Cond) ∈ osX := wv5 _ (List.mem_of_getElem? (i := 54) rfl)
theorem wd689 : (.methodLink RX3 89 ⟨"OrderSettler$MapReader", "takeName", "()I"⟩ : Cond) ∈ osX := wv5 _ (List.mem_of_getElem? (i := 55) rfl)
theorem wd690 : (.sameMethod "OrderSettler$MapReader" "OrderSettler$TextReader" "takeName" "()I" : Cond) ∈ osX := wv5 _ (List.mem_of_getElem? (i := 56) rfl)
theorem wd692 : (.selects RX3 ⟨"OrderSettler$MapReader", "takeName", "()I"⟩ yX6_takeName : Cond) ∈ osX := wv5 _ (List.mem_of_getElem? (i := 57) rfl)
theorem wd693 : (.instanceMethod yX6_takeName : Cond) ∈ osX := wv5 _ (List.mem_of_getElem? (i := 58) rfl)
theorem wd695 : (.methodLink RX6 64 yX8_isKeyword : Cond) ∈ osX := wv5 _ (List.mem_of_getElem? (i := 59) rfl)
def ww6 : List Cond := [.static yX8_isKeyword, .fieldLink RX8 88 "OrderSettler$Word" "ALL" "[LOrderSettler$Word;", .methodLink RX6 60 yX6_fail, .methodLink RX3 93 yX0_findArea, .instanceMethod yX0_findArea, .selects RX0 yX0_findArea yX0_findArea, .fieldLink RX3 100 "OrderSettler$Word" "CENTER" "LOrderSettler$Word;", .methodLink RX3 103 yX0_addArea, .instanceMethod yX0_addArea, .selects RX0 yX0_addArea yX0_addArea, .methodLinkNest RX0 50 yX9_bit "OrderSettler", .static yX9_bit, .fieldLink RX3 52 "OrderSettler$Word" "COAST" "LOrderSettler$Word;", .fieldLink RX3 55 "OrderSettler$Word" "SEA" "LOrderSettler$Word;", .fieldLink RX3 58 "OrderSettler$Word" "BORDER" "LOrderSettler$Word;", .methodLink RX3 61 yX3_readBorder, .instanceMethod yX3_readBorder, .methodLink RX3 107 ⟨"OrderSettler$MapReader", "takeArea", "(LOrderSettler$Board;)I"⟩, .sameMethod "OrderSettler$MapReader" "OrderSettler$TextReader" "takeArea" "(LOrderSettler$Board;)I", .selects RX3 ⟨"OrderSettler$MapReader", "takeArea", "(LOrderSettler$Board;)I"⟩ yX6_takeArea, .instanceMethod yX6_takeArea, .methodLink RX6 68 yX6_takeName, .methodLink RX6 72 yX0_findArea, .methodLink RX3 111 yX0_hasBorder, .instanceMethod yX0_hasBorder, .selects RX0 yX0_hasBorder yX0_hasBorder, .methodLink RX0 58 yX0_letsPass, .instanceMethod yX0_letsPass, .selects RX0 yX0_letsPass yX0_letsPass, .fieldLink RX3 72 "OrderSettler$Word" "ARMY" "LOrderSettler$Word;", .fieldLink RX3 79 "OrderSettler$Word" "FLEET" "LOrderSettler$Word;", .methodLink RX3 114 yX0_suits, .instanceMethod yX0_suits, .selects RX0 yX0_suits yX0_suits, .methodLinkNest RX0 46 yX9_has "OrderSettler", .static yX9_has, .methodLink RX3 117 yX0_addBorder, .instanceMethod yX0_addBorder, .selects RX0 yX0_addBorder yX0_addBorder, .methodLink RX0 54 yX0_isArea, .instanceMethod yX0_isArea, .selects RX0 yX0_isArea yX0_isArea, .fieldLink RX3 65 "OrderSettler$Word" "POWER" "LOrderSettler$Word;", .methodLink RX3 68 yX3_readPower, .instanceMethod yX3_readPower, .methodLink RX3 124 yX0_findPower, .instanceMethod yX0_findPower, .selects RX0 yX0_findPower yX0_findPower, .methodLink RX3 127 yX0_addPower, .instanceMethod yX0_addPower, .selects RX0 yX0_addPower yX0_addPower, .methodLink RX3 130 ⟨"OrderSettler$MapReader", "isAtWord", "()Z"⟩, .sameMethod "OrderSettler$MapReader" "OrderSettler$TextReader" "isAtWord" "()Z", .selects RX3 ⟨"OrderSettler$MapReader", "isAtWord", "()Z"⟩ yX6_isAtWord, .instanceMethod yX6_isAtWord, .methodLink RX3 133 yX3_readHome, .instanceMethod yX3_readHome, .methodLinkNest RX3 140 yX9_entry "OrderSettler", .static yX9_entry, .methodLinkNest RX3 147 yX9_has "OrderSettler"]
theorem wv6 : ∀ w ∈ ww6, w ∈ osX := osX_at [696, 698, 700, 701, 702, 703, 705, 707, 708, 709, 711, 712, 714, 716, 718, 720, 722, 724, 725, 727, 728, 730, 731, 732, 733, 734, 736, 737, 738, 740, 742, 744, 745, 746, 748, 749, 751, 752, 753, 755, 756, 757, 759, 761, 763, 765, 766, 767, 769, 770, 771, 773, 774, 776, 777, 779, 781, 783, 784, 786] (by decide +kernel) (by decide +kernel)
theorem wd696 : (.static yX8_isKeyword : Cond) ∈ osX := wv6 _ (List.mem_of_getElem? (i := 0) rfl)
theorem wd698 : (.fieldLink RX8 88 "OrderSettler$Word" "ALL" "[LOrderSettler$Word;" : Cond) ∈ osX := wv6 _ (List.mem_of_getElem? (i := 1) rfl)
theorem wd700 : (.methodLink RX6 60 yX6_fail : Cond) ∈ osX := wv6 _ (List.mem_of_getElem? (i := 2) rfl)
theorem wd701 : (.methodLink RX3 93 yX0_findArea : Cond) ∈ osX := wv6 _ (List.mem_of_getElem? (i := 3) rfl)
theorem wd702 : (.instanceMethod yX0_findArea : Cond) ∈ osX := wv6 _ (List.mem_of_getElem? (i := 4) rfl)
theorem wd703 : (.selects RX0 yX0_findArea yX0_findArea : Cond) ∈ osX := wv6 _ (List.mem_of_getElem? (i := 5) rfl)
theorem wd705 : (.fieldLink RX3 100 "OrderSettler$Word" "CENTER" "LOrderSettler$Word;" : Cond) ∈ osX := wv6 _ (List.mem_of_getElem? (i := 6) rfl)
theorem wd707 : (.methodLink RX3 103 yX0_addArea : Cond) ∈ osX := wv6 _ (List.mem_of_getElem? (i := 7) rfl)
theorem wd708 : (.instanceMethod yX0_addArea : Cond) ∈ osX := wv6 _ (List.mem_of_getElem? (i := 8) rfl)
theorem wd709 : (.selects RX0 yX0_addArea yX0_addArea : Cond) ∈ osX := wv6 _ (List.mem_of_getElem? (i := 9) rfl)
theorem wd711 : (.methodLinkNest RX0 50 yX9_bit "OrderSettler" : Cond) ∈ osX := wv6 _ (List.mem_of_getElem? (i := 10) rfl)
theorem wd712 : (.static yX9_bit : Cond) ∈ osX := wv6 _ (List.mem_of_getElem? (i := 11) rfl)
theorem wd714 : (.fieldLink RX3 52 "OrderSettler$Word" "COAST" "LOrderSettler$Word;" : Cond) ∈ osX := wv6 _ (List.mem_of_getElem? (i := 12) rfl)
theorem wd716 : (.fieldLink RX3 55 "OrderSettler$Word" "SEA" "LOrderSettler$Word;" : Cond) ∈ osX := wv6 _ (List.mem_of_getElem? (i := 13) rfl)
theorem wd718 : (.fieldLink RX3 58 "OrderSettler$Word" "BORDER" "LOrderSettler$Word;" : Cond) ∈ osX := wv6 _ (List.mem_of_getElem? (i := 14) rfl)
theorem wd720 : (.methodLink RX3 61 yX3_readBorder : Cond) ∈ osX := wv6 _ (List.mem_of_getElem? (i := 15) rfl)
theorem wd722 : (.instanceMethod yX3_readBorder : Cond) ∈ osX := wv6 _ (List.mem_of_getElem? (i := 16) rfl)
theorem wd724 : (.methodLink RX3 107 ⟨"OrderSettler$MapReader", "takeArea", "(LOrderSettler$Board;)I"⟩ : Cond) ∈ osX := wv6 _ (List.mem_of_getElem? (i := 17) rfl)
theorem wd725 : (.sameMethod "OrderSettler$MapReader" "OrderSettler$TextReader" "takeArea" "(LOrderSettler$Board;)I" : Cond) ∈ osX := wv6 _ (List.mem_of_getElem? (i := 18) rfl)
theorem wd727 : (.selects RX3 ⟨"OrderSettler$MapReader", "takeArea", "(LOrderSettler$Board;)I"⟩ yX6_takeArea : Cond) ∈ osX := wv6 _ (List.mem_of_getElem? (i := 19) rfl)
theorem wd728 : (.instanceMethod yX6_takeArea : Cond) ∈ osX := wv6 _ (List.mem_of_getElem? (i := 20) rfl)
theorem wd730 : (.methodLink RX6 68 yX6_takeName : Cond) ∈ osX := wv6 _ (List.mem_of_getElem? (i := 21) rfl)
theorem wd731 : (.methodLink RX6 72 yX0_findArea : Cond) ∈ osX := wv6 _ (List.mem_of_getElem? (i := 22) rfl)
theorem wd732 : (.methodLink RX3 111 yX0_hasBorder : Cond) ∈ osX := wv6 _ (List.mem_of_getElem? (i := 23) rfl)
theorem wd733 : (.instanceMethod yX0_hasBorder : Cond) ∈ osX := wv6 _ (List.mem_of_getElem? (i := 24) rfl)
theorem wd734 : (.selects RX0 yX0_hasBorder yX0_hasBorder : Cond) ∈ osX := wv6 _ (List.mem_of_getElem? (i := 25) rfl)
theorem wd736 : (.methodLink RX0 58 yX0_letsPass : Cond) ∈ osX := wv6 _ (List.mem_of_getElem? (i := 26) rfl)
theorem wd737 : (.instanceMethod yX0_letsPass : Cond) ∈ osX := wv6 _ (List.mem_of_getElem? (i := 27) rfl)
theorem wd738 : (.selects RX0 yX0_letsPass yX0_letsPass : Cond) ∈ osX := wv6 _ (List.mem_of_getElem? (i := 28) rfl)
theorem wd740 : (.fieldLink RX3 72 "OrderSettler$Word" "ARMY" "LOrderSettler$Word;" : Cond) ∈ osX := wv6 _ (List.mem_of_getElem? (i := 29) rfl)
theorem wd742 : (.fieldLink RX3 79 "OrderSettler$Word" "FLEET" "LOrderSettler$Word;" : Cond) ∈ osX := wv6 _ (List.mem_of_getElem? (i := 30) rfl)
theorem wd744 : (.methodLink RX3 114 yX0_suits : Cond) ∈ osX := wv6 _ (List.mem_of_getElem? (i := 31) rfl)
theorem wd745 : (.instanceMethod yX0_suits : Cond) ∈ osX := wv6 _ (List.mem_of_getElem? (i := 32) rfl)
theorem wd746 : (.selects RX0 yX0_suits yX0_suits : Cond) ∈ osX := wv6 _ (List.mem_of_getElem? (i := 33) rfl)
theorem wd748 : (.methodLinkNest RX0 46 yX9_has "OrderSettler" : Cond) ∈ osX := wv6 _ (List.mem_of_getElem? (i := 34) rfl)
theorem wd749 : (.static yX9_has : Cond) ∈ osX := wv6 _ (List.mem_of_getElem? (i := 35) rfl)
theorem wd751 : (.methodLink RX3 117 yX0_addBorder : Cond) ∈ osX := wv6 _ (List.mem_of_getElem? (i := 36) rfl)
theorem wd752 : (.instanceMethod yX0_addBorder : Cond) ∈ osX := wv6 _ (List.mem_of_getElem? (i := 37) rfl)
theorem wd753 : (.selects RX0 yX0_addBorder yX0_addBorder : Cond) ∈ osX := wv6 _ (List.mem_of_getElem? (i := 38) rfl)
theorem wd755 : (.methodLink RX0 54 yX0_isArea : Cond) ∈ osX := wv6 _ (List.mem_of_getElem? (i := 39) rfl)
theorem wd756 : (.instanceMethod yX0_isArea : Cond) ∈ osX := wv6 _ (List.mem_of_getElem? (i := 40) rfl)
theorem wd757 : (.selects RX0 yX0_isArea yX0_isArea : Cond) ∈ osX := wv6 _ (List.mem_of_getElem? (i := 41) rfl)
theorem wd759 : (.fieldLink RX3 65 "OrderSettler$Word" "POWER" "LOrderSettler$Word;" : Cond) ∈ osX := wv6 _ (List.mem_of_getElem? (i := 42) rfl)
theorem wd761 : (.methodLink RX3 68 yX3_readPower : Cond) ∈ osX := wv6 _ (List.mem_of_getElem? (i := 43) rfl)
theorem wd763 : (.instanceMethod yX3_readPower : Cond) ∈ osX := wv6 _ (List.mem_of_getElem? (i := 44) rfl)
theorem wd765 : (.methodLink RX3 124 yX0_findPower : Cond) ∈ osX := wv6 _ (List.mem_of_getElem? (i := 45) rfl)
theorem wd766 : (.instanceMethod yX0_findPower : Cond) ∈ osX := wv6 _ (List.mem_of_getElem? (i := 46) rfl)
theorem wd767 : (.selects RX0 yX0_findPower yX0_findPower : Cond) ∈ osX := wv6 _ (List.mem_of_getElem? (i := 47) rfl)
theorem wd769 : (.methodLink RX3 127 yX0_addPower : Cond) ∈ osX := wv6 _ (List.mem_of_getElem? (i := 48) rfl)
theorem wd770 : (.instanceMethod yX0_addPower : Cond) ∈ osX := wv6 _ (List.mem_of_getElem? (i := 49) rfl)
theorem wd771 : (.selects RX0 yX0_addPower yX0_addPower : Cond) ∈ osX := wv6 _ (List.mem_of_getElem? (i := 50) rfl)
theorem wd773 : (.methodLink RX3 130 ⟨"OrderSettler$MapReader", "isAtWord", "()Z"⟩ : Cond) ∈ osX := wv6 _ (List.mem_of_getElem? (i := 51) rfl)
theorem wd774 : (.sameMethod "OrderSettler$MapReader" "OrderSettler$TextReader" "isAtWord" "()Z" : Cond) ∈ osX := wv6 _ (List.mem_of_getElem? (i := 52) rfl)
theorem wd776 : (.selects RX3 ⟨"OrderSettler$MapReader", "isAtWord", "()Z"⟩ yX6_isAtWord : Cond) ∈ osX := wv6 _ (List.mem_of_getElem? (i := 53) rfl)
theorem wd777 : (.instanceMethod yX6_isAtWord : Cond) ∈ osX := wv6 _ (List.mem_of_getElem? (i := 54) rfl)
theorem wd779 : (.methodLink RX3 133 yX3_readHome : Cond) ∈ osX := wv6 _ (List.mem_of_getElem? (i := 55) rfl)
theorem wd781 : (.instanceMethod yX3_readHome : Cond) ∈ osX := wv6 _ (List.mem_of_getElem? (i := 56) rfl)
theorem wd783 : (.methodLinkNest RX3 140 yX9_entry "OrderSettler" : Cond) ∈ osX := wv6 _ (List.mem_of_getElem? (i := 57) rfl)
theorem wd784 : (.static yX9_entry : Cond) ∈ osX := wv6 _ (List.mem_of_getElem? (i := 58) rfl)
theorem wd786 : (.methodLinkNest RX3 147 yX9_has "OrderSettler" : Cond) ∈ osX := wv6 _ (List.mem_of_getElem? (i := 59) rfl)
def ww7 : List Cond := [.methodLink RX3 150 yX0_makeHome, .instanceMethod yX0_makeHome, .selects RX0 yX0_makeHome yX0_makeHome, .methodLink RX3 154 yX5_giveCenter, .instanceMethod yX5_giveCenter, .selects RX5 yX5_giveCenter yX5_giveCenter, .methodLink RX3 75 yX3_readUnit, .instanceMethod yX3_readUnit, .methodLink RX3 157 yX5_countAllUnits, .instanceMethod yX5_countAllUnits, .selects RX5 yX5_countAllUnits yX5_countAllUnits, .methodLink RX5 98 yX5_countOf, .static yX5_countOf, .methodLink RX3 160 yX5_hasUnit, .instanceMethod yX5_hasUnit, .selects RX5 yX5_hasUnit yX5_hasUnit, .methodLinkNest RX5 94 yX9_entry "OrderSettler", .methodLink RX3 164 yX5_placeUnit, .instanceMethod yX5_placeUnit, .selects RX5 yX5_placeUnit yX5_placeUnit, .methodLink RX3 31 ⟨"OrderSettler$MapReader", "takeSemicolon", "()Z"⟩, .sameMethod "OrderSettler$MapReader" "OrderSettler$TextReader" "takeSemicolon" "()Z", .selects RX3 ⟨"OrderSettler$MapReader", "takeSemicolon", "()Z"⟩ yX6_takeSemicolon, .instanceMethod yX6_takeSemicolon, .methodLink RX9 97 yX9_noteError, .instanceMethod yX9_noteError, .methodLink RX9 103 yX9_adoptDraft, .instanceMethod yX9_adoptDraft, .methodLink RX9 106 yX5_countAllUnits, .methodLink RL 181 yL_map, .static yL_map, .classLink RL 39 "java/lang/StringBuilder", .instantiable RJ4 4, .methodLink RL 41 yJ4_init_da8c8, .instanceMethod yJ4_init_da8c8, .methodLink RJ4 1 yJ5_init_d00df, .instanceMethod yJ5_init_d00df, .methodLink RJ5 3 objectInit, .fieldLink RJ5 18 "java/lang/String" "COMPACT_STRINGS" "Z", .fieldLink RJ5 15 "java/lang/AbstractStringBuilder" "value" "[B", .fieldLink RJ5 22 "java/lang/AbstractStringBuilder" "coder" "B", .fieldLink RJ0 1048 "java/lang/AbstractStringBuilder" "maybeLatin1" "Z", .fieldLink RJ5 79 "java/lang/AbstractStringBuilder" "count" "I", .superclass "java/lang/StringBuilder" "java/lang/AbstractStringBuilder", .methodLink RL 52 yJ4_append_15ec4, .instanceMethod yJ4_append_15ec4, .selects RJ4 yJ4_append_15ec4 yJ4_append_15ec4, .methodLink RJ4 29 yJ5_append_cf1ce, .instanceMethod yJ5_append_cf1ce, .methodLink RJ5 100 yJ5_ensureCapacityInternal_d00df, .instanceMethod yJ5_ensureCapacityInternal_d00df, .methodLink RJ5 104 yJ5_newCapacity_0f7a4, .instanceMethod yJ5_newCapacity_0f7a4, .methodLink RJ5 114 yJ8_newLength_cabcc, .static yJ8_newLength_cabcc, .methodLink RJ8 194 yJ9_max_7cf53, .static yJ9_max_7cf53, .constant RJ8 200 (2147483639 : Int32), .constant RJ5 39 (2147483647 : Int32), .methodLink RJ5 108 yJ7_copyOf_9075b]
theorem wv7 : ∀ w ∈ ww7, w ∈ osX := osX_at [787, 788, 789, 791, 792, 793, 795, 797, 799, 800, 801, 803, 804, 806, 807, 808, 810, 811, 812, 813, 815, 816, 818, 819, 821, 823, 826, 828, 830, 831, 832, 834, 835, 836, 837, 839, 840, 842, 843, 851, 852, 853, 854, 863, 867, 868, 869, 871, 872, 878, 880, 882, 884, 886, 887, 889, 890, 892, 896, 897] (by decide +kernel) (by decide +kernel)
theorem wd787 : (.methodLink RX3 150 yX0_makeHome : Cond) ∈ osX := wv7 _ (List.mem_of_getElem? (i := 0) rfl)
theorem wd788 : (.instanceMethod yX0_makeHome : Cond) ∈ osX := wv7 _ (List.mem_of_getElem? (i := 1) rfl)
theorem wd789 : (.selects RX0 yX0_makeHome yX0_makeHome : Cond) ∈ osX := wv7 _ (List.mem_of_getElem? (i := 2) rfl)
theorem wd791 : (.methodLink RX3 154 yX5_giveCenter : Cond) ∈ osX := wv7 _ (List.mem_of_getElem? (i := 3) rfl)
theorem wd792 : (.instanceMethod yX5_giveCenter : Cond) ∈ osX := wv7 _ (List.mem_of_getElem? (i := 4) rfl)
theorem wd793 : (.selects RX5 yX5_giveCenter yX5_giveCenter : Cond) ∈ osX := wv7 _ (List.mem_of_getElem? (i := 5) rfl)
theorem wd795 : (.methodLink RX3 75 yX3_readUnit : Cond) ∈ osX := wv7 _ (List.mem_of_getElem? (i := 6) rfl)
theorem wd797 : (.instanceMethod yX3_readUnit : Cond) ∈ osX := wv7 _ (List.mem_of_getElem? (i := 7) rfl)
theorem wd799 : (.methodLink RX3 157 yX5_countAllUnits : Cond) ∈ osX := wv7 _ (List.mem_of_getElem? (i := 8) rfl)
theorem wd800 : (.instanceMethod yX5_countAllUnits : Cond) ∈ osX := wv7 _ (List.mem_of_getElem? (i := 9) rfl)
theorem wd801 : (.selects RX5 yX5_countAllUnits yX5_countAllUnits : Cond) ∈ osX := wv7 _ (List.mem_of_getElem? (i := 10) rfl)
theorem wd803 : (.methodLink RX5 98 yX5_countOf : Cond) ∈ osX := wv7 _ (List.mem_of_getElem? (i := 11) rfl)
theorem wd804 : (.static yX5_countOf : Cond) ∈ osX := wv7 _ (List.mem_of_getElem? (i := 12) rfl)
theorem wd806 : (.methodLink RX3 160 yX5_hasUnit : Cond) ∈ osX := wv7 _ (List.mem_of_getElem? (i := 13) rfl)
theorem wd807 : (.instanceMethod yX5_hasUnit : Cond) ∈ osX := wv7 _ (List.mem_of_getElem? (i := 14) rfl)
theorem wd808 : (.selects RX5 yX5_hasUnit yX5_hasUnit : Cond) ∈ osX := wv7 _ (List.mem_of_getElem? (i := 15) rfl)
theorem wd810 : (.methodLinkNest RX5 94 yX9_entry "OrderSettler" : Cond) ∈ osX := wv7 _ (List.mem_of_getElem? (i := 16) rfl)
theorem wd811 : (.methodLink RX3 164 yX5_placeUnit : Cond) ∈ osX := wv7 _ (List.mem_of_getElem? (i := 17) rfl)
theorem wd812 : (.instanceMethod yX5_placeUnit : Cond) ∈ osX := wv7 _ (List.mem_of_getElem? (i := 18) rfl)
theorem wd813 : (.selects RX5 yX5_placeUnit yX5_placeUnit : Cond) ∈ osX := wv7 _ (List.mem_of_getElem? (i := 19) rfl)
theorem wd815 : (.methodLink RX3 31 ⟨"OrderSettler$MapReader", "takeSemicolon", "()Z"⟩ : Cond) ∈ osX := wv7 _ (List.mem_of_getElem? (i := 20) rfl)
theorem wd816 : (.sameMethod "OrderSettler$MapReader" "OrderSettler$TextReader" "takeSemicolon" "()Z" : Cond) ∈ osX := wv7 _ (List.mem_of_getElem? (i := 21) rfl)
theorem wd818 : (.selects RX3 ⟨"OrderSettler$MapReader", "takeSemicolon", "()Z"⟩ yX6_takeSemicolon : Cond) ∈ osX := wv7 _ (List.mem_of_getElem? (i := 22) rfl)
theorem wd819 : (.instanceMethod yX6_takeSemicolon : Cond) ∈ osX := wv7 _ (List.mem_of_getElem? (i := 23) rfl)
theorem wd821 : (.methodLink RX9 97 yX9_noteError : Cond) ∈ osX := wv7 _ (List.mem_of_getElem? (i := 24) rfl)
theorem wd823 : (.instanceMethod yX9_noteError : Cond) ∈ osX := wv7 _ (List.mem_of_getElem? (i := 25) rfl)
theorem wd826 : (.methodLink RX9 103 yX9_adoptDraft : Cond) ∈ osX := wv7 _ (List.mem_of_getElem? (i := 26) rfl)
theorem wd828 : (.instanceMethod yX9_adoptDraft : Cond) ∈ osX := wv7 _ (List.mem_of_getElem? (i := 27) rfl)
theorem wd830 : (.methodLink RX9 106 yX5_countAllUnits : Cond) ∈ osX := wv7 _ (List.mem_of_getElem? (i := 28) rfl)
theorem wd831 : (.methodLink RL 181 yL_map : Cond) ∈ osX := wv7 _ (List.mem_of_getElem? (i := 29) rfl)
theorem wd832 : (.static yL_map : Cond) ∈ osX := wv7 _ (List.mem_of_getElem? (i := 30) rfl)
theorem wd834 : (.classLink RL 39 "java/lang/StringBuilder" : Cond) ∈ osX := wv7 _ (List.mem_of_getElem? (i := 31) rfl)
theorem wd835 : (.instantiable RJ4 4 : Cond) ∈ osX := wv7 _ (List.mem_of_getElem? (i := 32) rfl)
theorem wd836 : (.methodLink RL 41 yJ4_init_da8c8 : Cond) ∈ osX := wv7 _ (List.mem_of_getElem? (i := 33) rfl)
theorem wd837 : (.instanceMethod yJ4_init_da8c8 : Cond) ∈ osX := wv7 _ (List.mem_of_getElem? (i := 34) rfl)
theorem wd839 : (.methodLink RJ4 1 yJ5_init_d00df : Cond) ∈ osX := wv7 _ (List.mem_of_getElem? (i := 35) rfl)
theorem wd840 : (.instanceMethod yJ5_init_d00df : Cond) ∈ osX := wv7 _ (List.mem_of_getElem? (i := 36) rfl)
theorem wd842 : (.methodLink RJ5 3 objectInit : Cond) ∈ osX := wv7 _ (List.mem_of_getElem? (i := 37) rfl)
theorem wd843 : (.fieldLink RJ5 18 "java/lang/String" "COMPACT_STRINGS" "Z" : Cond) ∈ osX := wv7 _ (List.mem_of_getElem? (i := 38) rfl)
theorem wd851 : (.fieldLink RJ5 15 "java/lang/AbstractStringBuilder" "value" "[B" : Cond) ∈ osX := wv7 _ (List.mem_of_getElem? (i := 39) rfl)
theorem wd852 : (.fieldLink RJ5 22 "java/lang/AbstractStringBuilder" "coder" "B" : Cond) ∈ osX := wv7 _ (List.mem_of_getElem? (i := 40) rfl)
theorem wd853 : (.fieldLink RJ0 1048 "java/lang/AbstractStringBuilder" "maybeLatin1" "Z" : Cond) ∈ osX := wv7 _ (List.mem_of_getElem? (i := 41) rfl)
theorem wd854 : (.fieldLink RJ5 79 "java/lang/AbstractStringBuilder" "count" "I" : Cond) ∈ osX := wv7 _ (List.mem_of_getElem? (i := 42) rfl)
theorem wd863 : (.superclass "java/lang/StringBuilder" "java/lang/AbstractStringBuilder" : Cond) ∈ osX := wv7 _ (List.mem_of_getElem? (i := 43) rfl)
theorem wd867 : (.methodLink RL 52 yJ4_append_15ec4 : Cond) ∈ osX := wv7 _ (List.mem_of_getElem? (i := 44) rfl)
theorem wd868 : (.instanceMethod yJ4_append_15ec4 : Cond) ∈ osX := wv7 _ (List.mem_of_getElem? (i := 45) rfl)
theorem wd869 : (.selects RJ4 yJ4_append_15ec4 yJ4_append_15ec4 : Cond) ∈ osX := wv7 _ (List.mem_of_getElem? (i := 46) rfl)
theorem wd871 : (.methodLink RJ4 29 yJ5_append_cf1ce : Cond) ∈ osX := wv7 _ (List.mem_of_getElem? (i := 47) rfl)
theorem wd872 : (.instanceMethod yJ5_append_cf1ce : Cond) ∈ osX := wv7 _ (List.mem_of_getElem? (i := 48) rfl)
theorem wd878 : (.methodLink RJ5 100 yJ5_ensureCapacityInternal_d00df : Cond) ∈ osX := wv7 _ (List.mem_of_getElem? (i := 49) rfl)
theorem wd880 : (.instanceMethod yJ5_ensureCapacityInternal_d00df : Cond) ∈ osX := wv7 _ (List.mem_of_getElem? (i := 50) rfl)
theorem wd882 : (.methodLink RJ5 104 yJ5_newCapacity_0f7a4 : Cond) ∈ osX := wv7 _ (List.mem_of_getElem? (i := 51) rfl)
theorem wd884 : (.instanceMethod yJ5_newCapacity_0f7a4 : Cond) ∈ osX := wv7 _ (List.mem_of_getElem? (i := 52) rfl)
theorem wd886 : (.methodLink RJ5 114 yJ8_newLength_cabcc : Cond) ∈ osX := wv7 _ (List.mem_of_getElem? (i := 53) rfl)
theorem wd887 : (.static yJ8_newLength_cabcc : Cond) ∈ osX := wv7 _ (List.mem_of_getElem? (i := 54) rfl)
theorem wd889 : (.methodLink RJ8 194 yJ9_max_7cf53 : Cond) ∈ osX := wv7 _ (List.mem_of_getElem? (i := 55) rfl)
theorem wd890 : (.static yJ9_max_7cf53 : Cond) ∈ osX := wv7 _ (List.mem_of_getElem? (i := 56) rfl)
theorem wd892 : (.constant RJ8 200 (2147483639 : Int32) : Cond) ∈ osX := wv7 _ (List.mem_of_getElem? (i := 57) rfl)
theorem wd896 : (.constant RJ5 39 (2147483647 : Int32) : Cond) ∈ osX := wv7 _ (List.mem_of_getElem? (i := 58) rfl)
theorem wd897 : (.methodLink RJ5 108 yJ7_copyOf_9075b : Cond) ∈ osX := wv7 _ (List.mem_of_getElem? (i := 59) rfl)
def ww8 : List Cond := [.static yJ7_copyOf_9075b, .methodLink RJ7 310 ⟨"[B", "clone", "()Ljava/lang/Object;"⟩, .sameMethod "[B" "java/lang/Object" "clone" "()Ljava/lang/Object;", .native ⟨"java/lang/Object", "clone", "()Ljava/lang/Object;"⟩, .instanceMethod ⟨"java/lang/Object", "clone", "()Ljava/lang/Object;"⟩, .selects "[B" ⟨"[B", "clone", "()Ljava/lang/Object;"⟩ ⟨"java/lang/Object", "clone", "()Ljava/lang/Object;"⟩, .castable "[B" "java/lang/Cloneable", .classLink RJ7 311 "[B", .methodLink RJ7 304 yJ9_min_7cf53, .methodLink RJ7 150 ⟨"java/lang/System", "arraycopy", "(Ljava/lang/Object;ILjava/lang/Object;II)V"⟩, .static ⟨"java/lang/System", "arraycopy", "(Ljava/lang/Object;ILjava/lang/Object;II)V"⟩, .native ⟨"java/lang/System", "arraycopy", "(Ljava/lang/Object;ILjava/lang/Object;II)V"⟩, .methodLink RJ5 83 yJ5_isLatin1_aae02, .instanceMethod yJ5_isLatin1_aae02, .selects RJ4 yJ5_isLatin1_aae02 yJ5_isLatin1_aae02, .methodLink RJ5 32 yJ0_length_8abf5, .methodLink RJ5 208 yJ5_putStringAt_47b60, .instanceMethod yJ5_putStringAt_47b60, .methodLink RJ5 397 yJ5_inflateIfNeededFor_a7421, .instanceMethod yJ5_inflateIfNeededFor_a7421, .methodLink RJ5 40 yJ0_coder_7d493, .methodLink RJ5 399 yJ0_getBytes_840e7, .instanceMethod yJ0_getBytes_840e7, .selects RJ0 yJ0_getBytes_840e7 yJ0_getBytes_840e7, .methodLink RJ0 212 ⟨"java/lang/System", "arraycopy", "(Ljava/lang/Object;ILjava/lang/Object;II)V"⟩, .methodLink RL 56 yJ4_append_cf468, .instanceMethod yJ4_append_cf468, .selects RJ4 yJ4_append_cf468 yJ4_append_cf468, .methodLink RJ4 50 yJ5_append_3fe6f, .instanceMethod yJ5_append_3fe6f, .methodLink RJ5 191 yJ1_canEncode_fc78d, .static yJ1_canEncode_fc78d, .methodLink RL 63 yL_border, .static yL_border, .methodLink RL 69 yJ4_toString_0e30d, .instanceMethod yJ4_toString_0e30d, .selects RJ4 yJ4_toString_0e30d yJ4_toString_0e30d, .classLink RJ4 18 "java/lang/String", .instantiable RJ0 4, .methodLink RJ4 137 yJ0_init_81219, .instanceMethod yJ0_init_81219, .methodLink RJ0 489 yJ0_init_db425, .instanceMethod yJ0_init_db425, .methodLink RJ0 1 objectInit, .methodLink RJ0 552 yJ5_getValue_6d5f1, .instanceMethod yJ5_getValue_6d5f1, .selects RJ4 yJ5_getValue_6d5f1 yJ5_getValue_6d5f1, .methodLink RJ0 549 yJ5_length_8abf5, .instanceMethod yJ5_length_8abf5, .sameMethod "java/lang/AbstractStringBuilder" "java/lang/AbstractStringBuilder" "length" "()I", .selects RJ4 yJ5_length_8abf5 yJ4_length_8abf5, .instanceMethod yJ4_length_8abf5, .methodLink RJ4 343 yJ5_length_8abf5, .methodLink RJ0 1047 yJ5_isLatin1_aae02, .methodLink RJ0 54 yJ7_copyOfRange_39247, .static yJ7_copyOfRange_39247, .methodLink RJ7 339 yJ7_copyOfRangeByte_39247, .static yJ7_copyOfRangeByte_39247, .methodLink RJ7 343 yJ7_checkLength_df160, .static yJ7_checkLength_df160]
theorem wv8 : ∀ w ∈ ww8, w ∈ osX := osX_at [898, 900, 901, 902, 903, 904, 905, 906, 907, 908, 909, 910, 911, 912, 914, 931, 932, 934, 936, 938, 940, 960, 961, 962, 964, 966, 967, 968, 970, 971, 973, 974, 981, 982, 986, 987, 988, 990, 991, 992, 993, 995, 996, 998, 999, 1000, 1002, 1004, 1005, 1006, 1007, 1008, 1010, 1012, 1013, 1014, 1016, 1017, 1019, 1020] (by decide +kernel) (by decide +kernel)
theorem wd898 : (.static yJ7_copyOf_9075b : Cond) ∈ osX := wv8 _ (List.mem_of_getElem? (i := 0) rfl)
theorem wd900 : (.methodLink RJ7 310 ⟨"[B", "clone", "()Ljava/lang/Object;"⟩ : Cond) ∈ osX := wv8 _ (List.mem_of_getElem? (i := 1) rfl)
theorem wd901 : (.sameMethod "[B" "java/lang/Object" "clone" "()Ljava/lang/Object;" : Cond) ∈ osX := wv8 _ (List.mem_of_getElem? (i := 2) rfl)
theorem wd902 : (.native ⟨"java/lang/Object", "clone", "()Ljava/lang/Object;"⟩ : Cond) ∈ osX := wv8 _ (List.mem_of_getElem? (i := 3) rfl)
theorem wd903 : (.instanceMethod ⟨"java/lang/Object", "clone", "()Ljava/lang/Object;"⟩ : Cond) ∈ osX := wv8 _ (List.mem_of_getElem? (i := 4) rfl)
theorem wd904 : (.selects "[B" ⟨"[B", "clone", "()Ljava/lang/Object;"⟩ ⟨"java/lang/Object", "clone", "()Ljava/lang/Object;"⟩ : Cond) ∈ osX := wv8 _ (List.mem_of_getElem? (i := 5) rfl)
theorem wd905 : (.castable "[B" "java/lang/Cloneable" : Cond) ∈ osX := wv8 _ (List.mem_of_getElem? (i := 6) rfl)
theorem wd906 : (.classLink RJ7 311 "[B" : Cond) ∈ osX := wv8 _ (List.mem_of_getElem? (i := 7) rfl)
theorem wd907 : (.methodLink RJ7 304 yJ9_min_7cf53 : Cond) ∈ osX := wv8 _ (List.mem_of_getElem? (i := 8) rfl)
theorem wd908 : (.methodLink RJ7 150 ⟨"java/lang/System", "arraycopy", "(Ljava/lang/Object;ILjava/lang/Object;II)V"⟩ : Cond) ∈ osX := wv8 _ (List.mem_of_getElem? (i := 9) rfl)
theorem wd909 : (.static ⟨"java/lang/System", "arraycopy", "(Ljava/lang/Object;ILjava/lang/Object;II)V"⟩ : Cond) ∈ osX := wv8 _ (List.mem_of_getElem? (i := 10) rfl)
theorem wd910 : (.native ⟨"java/lang/System", "arraycopy", "(Ljava/lang/Object;ILjava/lang/Object;II)V"⟩ : Cond) ∈ osX := wv8 _ (List.mem_of_getElem? (i := 11) rfl)
theorem wd911 : (.methodLink RJ5 83 yJ5_isLatin1_aae02 : Cond) ∈ osX := wv8 _ (List.mem_of_getElem? (i := 12) rfl)
theorem wd912 : (.instanceMethod yJ5_isLatin1_aae02 : Cond) ∈ osX := wv8 _ (List.mem_of_getElem? (i := 13) rfl)
theorem wd914 : (.selects RJ4 yJ5_isLatin1_aae02 yJ5_isLatin1_aae02 : Cond) ∈ osX := wv8 _ (List.mem_of_getElem? (i := 14) rfl)
theorem wd931 : (.methodLink RJ5 32 yJ0_length_8abf5 : Cond) ∈ osX := wv8 _ (List.mem_of_getElem? (i := 15) rfl)
theorem wd932 : (.methodLink RJ5 208 yJ5_putStringAt_47b60 : Cond) ∈ osX := wv8 _ (List.mem_of_getElem? (i := 16) rfl)
theorem wd934 : (.instanceMethod yJ5_putStringAt_47b60 : Cond) ∈ osX := wv8 _ (List.mem_of_getElem? (i := 17) rfl)
theorem wd936 : (.methodLink RJ5 397 yJ5_inflateIfNeededFor_a7421 : Cond) ∈ osX := wv8 _ (List.mem_of_getElem? (i := 18) rfl)
theorem wd938 : (.instanceMethod yJ5_inflateIfNeededFor_a7421 : Cond) ∈ osX := wv8 _ (List.mem_of_getElem? (i := 19) rfl)
theorem wd940 : (.methodLink RJ5 40 yJ0_coder_7d493 : Cond) ∈ osX := wv8 _ (List.mem_of_getElem? (i := 20) rfl)
theorem wd960 : (.methodLink RJ5 399 yJ0_getBytes_840e7 : Cond) ∈ osX := wv8 _ (List.mem_of_getElem? (i := 21) rfl)
theorem wd961 : (.instanceMethod yJ0_getBytes_840e7 : Cond) ∈ osX := wv8 _ (List.mem_of_getElem? (i := 22) rfl)
theorem wd962 : (.selects RJ0 yJ0_getBytes_840e7 yJ0_getBytes_840e7 : Cond) ∈ osX := wv8 _ (List.mem_of_getElem? (i := 23) rfl)
theorem wd964 : (.methodLink RJ0 212 ⟨"java/lang/System", "arraycopy", "(Ljava/lang/Object;ILjava/lang/Object;II)V"⟩ : Cond) ∈ osX := wv8 _ (List.mem_of_getElem? (i := 24) rfl)
theorem wd966 : (.methodLink RL 56 yJ4_append_cf468 : Cond) ∈ osX := wv8 _ (List.mem_of_getElem? (i := 25) rfl)
theorem wd967 : (.instanceMethod yJ4_append_cf468 : Cond) ∈ osX := wv8 _ (List.mem_of_getElem? (i := 26) rfl)
theorem wd968 : (.selects RJ4 yJ4_append_cf468 yJ4_append_cf468 : Cond) ∈ osX := wv8 _ (List.mem_of_getElem? (i := 27) rfl)
theorem wd970 : (.methodLink RJ4 50 yJ5_append_3fe6f : Cond) ∈ osX := wv8 _ (List.mem_of_getElem? (i := 28) rfl)
theorem wd971 : (.instanceMethod yJ5_append_3fe6f : Cond) ∈ osX := wv8 _ (List.mem_of_getElem? (i := 29) rfl)
theorem wd973 : (.methodLink RJ5 191 yJ1_canEncode_fc78d : Cond) ∈ osX := wv8 _ (List.mem_of_getElem? (i := 30) rfl)
theorem wd974 : (.static yJ1_canEncode_fc78d : Cond) ∈ osX := wv8 _ (List.mem_of_getElem? (i := 31) rfl)
theorem wd981 : (.methodLink RL 63 yL_border : Cond) ∈ osX := wv8 _ (List.mem_of_getElem? (i := 32) rfl)
theorem wd982 : (.static yL_border : Cond) ∈ osX := wv8 _ (List.mem_of_getElem? (i := 33) rfl)
theorem wd986 : (.methodLink RL 69 yJ4_toString_0e30d : Cond) ∈ osX := wv8 _ (List.mem_of_getElem? (i := 34) rfl)
theorem wd987 : (.instanceMethod yJ4_toString_0e30d : Cond) ∈ osX := wv8 _ (List.mem_of_getElem? (i := 35) rfl)
theorem wd988 : (.selects RJ4 yJ4_toString_0e30d yJ4_toString_0e30d : Cond) ∈ osX := wv8 _ (List.mem_of_getElem? (i := 36) rfl)
theorem wd990 : (.classLink RJ4 18 "java/lang/String" : Cond) ∈ osX := wv8 _ (List.mem_of_getElem? (i := 37) rfl)
theorem wd991 : (.instantiable RJ0 4 : Cond) ∈ osX := wv8 _ (List.mem_of_getElem? (i := 38) rfl)
theorem wd992 : (.methodLink RJ4 137 yJ0_init_81219 : Cond) ∈ osX := wv8 _ (List.mem_of_getElem? (i := 39) rfl)
theorem wd993 : (.instanceMethod yJ0_init_81219 : Cond) ∈ osX := wv8 _ (List.mem_of_getElem? (i := 40) rfl)
theorem wd995 : (.methodLink RJ0 489 yJ0_init_db425 : Cond) ∈ osX := wv8 _ (List.mem_of_getElem? (i := 41) rfl)
theorem wd996 : (.instanceMethod yJ0_init_db425 : Cond) ∈ osX := wv8 _ (List.mem_of_getElem? (i := 42) rfl)
theorem wd998 : (.methodLink RJ0 1 objectInit : Cond) ∈ osX := wv8 _ (List.mem_of_getElem? (i := 43) rfl)
theorem wd999 : (.methodLink RJ0 552 yJ5_getValue_6d5f1 : Cond) ∈ osX := wv8 _ (List.mem_of_getElem? (i := 44) rfl)
theorem wd1000 : (.instanceMethod yJ5_getValue_6d5f1 : Cond) ∈ osX := wv8 _ (List.mem_of_getElem? (i := 45) rfl)
theorem wd1002 : (.selects RJ4 yJ5_getValue_6d5f1 yJ5_getValue_6d5f1 : Cond) ∈ osX := wv8 _ (List.mem_of_getElem? (i := 46) rfl)
theorem wd1004 : (.methodLink RJ0 549 yJ5_length_8abf5 : Cond) ∈ osX := wv8 _ (List.mem_of_getElem? (i := 47) rfl)
theorem wd1005 : (.instanceMethod yJ5_length_8abf5 : Cond) ∈ osX := wv8 _ (List.mem_of_getElem? (i := 48) rfl)
theorem wd1006 : (.sameMethod "java/lang/AbstractStringBuilder" "java/lang/AbstractStringBuilder" "length" "()I" : Cond) ∈ osX := wv8 _ (List.mem_of_getElem? (i := 49) rfl)
theorem wd1007 : (.selects RJ4 yJ5_length_8abf5 yJ4_length_8abf5 : Cond) ∈ osX := wv8 _ (List.mem_of_getElem? (i := 50) rfl)
theorem wd1008 : (.instanceMethod yJ4_length_8abf5 : Cond) ∈ osX := wv8 _ (List.mem_of_getElem? (i := 51) rfl)
theorem wd1010 : (.methodLink RJ4 343 yJ5_length_8abf5 : Cond) ∈ osX := wv8 _ (List.mem_of_getElem? (i := 52) rfl)
theorem wd1012 : (.methodLink RJ0 1047 yJ5_isLatin1_aae02 : Cond) ∈ osX := wv8 _ (List.mem_of_getElem? (i := 53) rfl)
theorem wd1013 : (.methodLink RJ0 54 yJ7_copyOfRange_39247 : Cond) ∈ osX := wv8 _ (List.mem_of_getElem? (i := 54) rfl)
theorem wd1014 : (.static yJ7_copyOfRange_39247 : Cond) ∈ osX := wv8 _ (List.mem_of_getElem? (i := 55) rfl)
theorem wd1016 : (.methodLink RJ7 339 yJ7_copyOfRangeByte_39247 : Cond) ∈ osX := wv8 _ (List.mem_of_getElem? (i := 56) rfl)
theorem wd1017 : (.static yJ7_copyOfRangeByte_39247 : Cond) ∈ osX := wv8 _ (List.mem_of_getElem? (i := 57) rfl)
theorem wd1019 : (.methodLink RJ7 343 yJ7_checkLength_df160 : Cond) ∈ osX := wv8 _ (List.mem_of_getElem? (i := 58) rfl)
theorem wd1020 : (.static yJ7_checkLength_df160 : Cond) ∈ osX := wv8 _ (List.mem_of_getElem? (i := 59) rfl)
def ww9 : List Cond := [.fieldLink RJ0 9 "java/lang/String" "value" "[B", .fieldLink RJ0 15 "java/lang/String" "coder" "B", .methodLink RL 186 yL_units, .static yL_units, .methodLink RL 188 yL_orders, .static yL_orders, .methodLink RL 92 yX9_area, .instanceMethod yX9_area, .selects RX9 yX9_area yX9_area, .methodLink RX9 126 yX9_requireArea, .instanceMethod yX9_requireArea, .methodLink RX9 361 yX0_isArea, .castable "java/util/NoSuchElementException" "java/util/NoSuchElementException", .methodLink RX9 129 yX9_requireReport, .instanceMethod yX9_requireReport, .methodLink RX9 132 yX0_kindOf, .instanceMethod yX0_kindOf, .selects RX0 yX0_kindOf yX0_kindOf, .methodLink RX9 139 yX9_has, .methodLink RX9 147 yX9_entry, .methodLink RL 96 yL_order, .static yL_order, .methodLink RL 100 yL_tell, .static yL_tell, .methodLink RL 36 yX9_tell, .instanceMethod yX9_tell, .selects RX9 yX9_tell yX9_tell, .methodLink RX9 110 yX5_copyFrom, .instanceMethod yX5_copyFrom, .selects RX5 yX5_copyFrom yX5_copyFrom, .methodLink RX5 78 yX5_copyRow, .static yX5_copyRow, .methodLink RX5 82 yJ9_min_7cf53, .methodLink RX5 88 ⟨"java/lang/System", "arraycopy", "(Ljava/lang/Object;ILjava/lang/Object;II)V"⟩, .methodLink RX9 114 yX7_readAll, .instanceMethod yX7_readAll, .selects RX7 yX7_readAll yX7_readAll, .methodLink RX7 9 ⟨"OrderSettler$TurnReader", "begin", "([BI)V"⟩, .sameMethod "OrderSettler$TurnReader" "OrderSettler$TextReader" "begin" "([BI)V", .selects RX7 ⟨"OrderSettler$TurnReader", "begin", "([BI)V"⟩ yX6_begin, .methodLink RX7 15 ⟨"OrderSettler$TurnReader", "isAtEnd", "()Z"⟩, .sameMethod "OrderSettler$TurnReader" "OrderSettler$TextReader" "isAtEnd" "()Z", .selects RX7 ⟨"OrderSettler$TurnReader", "isAtEnd", "()Z"⟩ yX6_isAtEnd, .methodLink RX7 19 yX7_readOne, .instanceMethod yX7_readOne, .methodLink RX7 32 yX7_readOrder, .instanceMethod yX7_readOrder, .methodLink RX7 60 ⟨"OrderSettler$TurnReader", "takeArea", "(LOrderSettler$Board;)I"⟩, .sameMethod "OrderSettler$TurnReader" "OrderSettler$TextReader" "takeArea" "(LOrderSettler$Board;)I", .selects RX7 ⟨"OrderSettler$TurnReader", "takeArea", "(LOrderSettler$Board;)I"⟩ yX6_takeArea, .methodLink RX7 64 yX5_hasUnit, .methodLink RX7 71 ⟨"OrderSettler$TurnReader", "fail", "(II)Z"⟩, .sameMethod "OrderSettler$TurnReader" "OrderSettler$TextReader" "fail" "(II)Z", .selects RX7 ⟨"OrderSettler$TurnReader", "fail", "(II)Z"⟩ yX6_fail, .fieldLink RX7 75 "OrderSettler$Word" "HOLD" "LOrderSettler$Word;", .methodLink RX7 44 ⟨"OrderSettler$TurnReader", "take", "(LOrderSettler$Word;)Z"⟩, .sameMethod "OrderSettler$TurnReader" "OrderSettler$TextReader" "take" "(LOrderSettler$Word;)Z", .selects RX7 ⟨"OrderSettler$TurnReader", "take", "(LOrderSettler$Word;)Z"⟩ yX6_take, .methodLink RX7 78 yX5_giveOrder, .fieldLink RX7 82 "OrderSettler$Word" "TO" "LOrderSettler$Word;"]
theorem wv9 : ∀ w ∈ ww9, w ∈ osX := osX_at [1032, 1033, 1044, 1045, 1049, 1050, 1052, 1053, 1054, 1056, 1058, 1060, 1063, 1077, 1079, 1082, 1083, 1084, 1086, 1087, 1088, 1089, 1095, 1096, 1098, 1099, 1100, 1102, 1103, 1104, 1106, 1107, 1109, 1110, 1111, 1112, 1113, 1115, 1116, 1117, 1118, 1119, 1120, 1121, 1123, 1125, 1127, 1129, 1130, 1131, 1132, 1133, 1134, 1135, 1136, 1138, 1139, 1140, 1141, 1142] (by decide +kernel) (by decide +kernel)
theorem wd1032 : (.fieldLink RJ0 9 "java/lang/String" "value" "[B" : Cond) ∈ osX := wv9 _ (List.mem_of_getElem? (i := 0) rfl)
theorem wd1033 : (.fieldLink RJ0 15 "java/lang/String" "coder" "B" : Cond) ∈ osX := wv9 _ (List.mem_of_getElem? (i := 1) rfl)
theorem wd1044 : (.methodLink RL 186 yL_units : Cond) ∈ osX := wv9 _ (List.mem_of_getElem? (i := 2) rfl)
theorem wd1045 : (.static yL_units : Cond) ∈ osX := wv9 _ (List.mem_of_getElem? (i := 3) rfl)
theorem wd1049 : (.methodLink RL 188 yL_orders : Cond) ∈ osX := wv9 _ (List.mem_of_getElem? (i := 4) rfl)
theorem wd1050 : (.static yL_orders : Cond) ∈ osX := wv9 _ (List.mem_of_getElem? (i := 5) rfl)
theorem wd1052 : (.methodLink RL 92 yX9_area : Cond) ∈ osX := wv9 _ (List.mem_of_getElem? (i := 6) rfl)
theorem wd1053 : (.instanceMethod yX9_area : Cond) ∈ osX := wv9 _ (List.mem_of_getElem? (i := 7) rfl)
theorem wd1054 : (.selects RX9 yX9_area yX9_area : Cond) ∈ osX := wv9 _ (List.mem_of_getElem? (i := 8) rfl)
theorem wd1056 : (.methodLink RX9 126 yX9_requireArea : Cond) ∈ osX := wv9 _ (List.mem_of_getElem? (i := 9) rfl)
theorem wd1058 : (.instanceMethod yX9_requireArea : Cond) ∈ osX := wv9 _ (List.mem_of_getElem? (i := 10) rfl)
theorem wd1060 : (.methodLink RX9 361 yX0_isArea : Cond) ∈ osX := wv9 _ (List.mem_of_getElem? (i := 11) rfl)
theorem wd1063 : (.castable "java/util/NoSuchElementException" "java/util/NoSuchElementException" : Cond) ∈ osX := wv9 _ (List.mem_of_getElem? (i := 12) rfl)
theorem wd1077 : (.methodLink RX9 129 yX9_requireReport : Cond) ∈ osX := wv9 _ (List.mem_of_getElem? (i := 13) rfl)
theorem wd1079 : (.instanceMethod yX9_requireReport : Cond) ∈ osX := wv9 _ (List.mem_of_getElem? (i := 14) rfl)
theorem wd1082 : (.methodLink RX9 132 yX0_kindOf : Cond) ∈ osX := wv9 _ (List.mem_of_getElem? (i := 15) rfl)
theorem wd1083 : (.instanceMethod yX0_kindOf : Cond) ∈ osX := wv9 _ (List.mem_of_getElem? (i := 16) rfl)
theorem wd1084 : (.selects RX0 yX0_kindOf yX0_kindOf : Cond) ∈ osX := wv9 _ (List.mem_of_getElem? (i := 17) rfl)
theorem wd1086 : (.methodLink RX9 139 yX9_has : Cond) ∈ osX := wv9 _ (List.mem_of_getElem? (i := 18) rfl)
theorem wd1087 : (.methodLink RX9 147 yX9_entry : Cond) ∈ osX := wv9 _ (List.mem_of_getElem? (i := 19) rfl)
theorem wd1088 : (.methodLink RL 96 yL_order : Cond) ∈ osX := wv9 _ (List.mem_of_getElem? (i := 20) rfl)
theorem wd1089 : (.static yL_order : Cond) ∈ osX := wv9 _ (List.mem_of_getElem? (i := 21) rfl)
theorem wd1095 : (.methodLink RL 100 yL_tell : Cond) ∈ osX := wv9 _ (List.mem_of_getElem? (i := 22) rfl)
theorem wd1096 : (.static yL_tell : Cond) ∈ osX := wv9 _ (List.mem_of_getElem? (i := 23) rfl)
theorem wd1098 : (.methodLink RL 36 yX9_tell : Cond) ∈ osX := wv9 _ (List.mem_of_getElem? (i := 24) rfl)
theorem wd1099 : (.instanceMethod yX9_tell : Cond) ∈ osX := wv9 _ (List.mem_of_getElem? (i := 25) rfl)
theorem wd1100 : (.selects RX9 yX9_tell yX9_tell : Cond) ∈ osX := wv9 _ (List.mem_of_getElem? (i := 26) rfl)
theorem wd1102 : (.methodLink RX9 110 yX5_copyFrom : Cond) ∈ osX := wv9 _ (List.mem_of_getElem? (i := 27) rfl)
theorem wd1103 : (.instanceMethod yX5_copyFrom : Cond) ∈ osX := wv9 _ (List.mem_of_getElem? (i := 28) rfl)
theorem wd1104 : (.selects RX5 yX5_copyFrom yX5_copyFrom : Cond) ∈ osX := wv9 _ (List.mem_of_getElem? (i := 29) rfl)
theorem wd1106 : (.methodLink RX5 78 yX5_copyRow : Cond) ∈ osX := wv9 _ (List.mem_of_getElem? (i := 30) rfl)
theorem wd1107 : (.static yX5_copyRow : Cond) ∈ osX := wv9 _ (List.mem_of_getElem? (i := 31) rfl)
theorem wd1109 : (.methodLink RX5 82 yJ9_min_7cf53 : Cond) ∈ osX := wv9 _ (List.mem_of_getElem? (i := 32) rfl)
theorem wd1110 : (.methodLink RX5 88 ⟨"java/lang/System", "arraycopy", "(Ljava/lang/Object;ILjava/lang/Object;II)V"⟩ : Cond) ∈ osX := wv9 _ (List.mem_of_getElem? (i := 33) rfl)
theorem wd1111 : (.methodLink RX9 114 yX7_readAll : Cond) ∈ osX := wv9 _ (List.mem_of_getElem? (i := 34) rfl)
theorem wd1112 : (.instanceMethod yX7_readAll : Cond) ∈ osX := wv9 _ (List.mem_of_getElem? (i := 35) rfl)
theorem wd1113 : (.selects RX7 yX7_readAll yX7_readAll : Cond) ∈ osX := wv9 _ (List.mem_of_getElem? (i := 36) rfl)
theorem wd1115 : (.methodLink RX7 9 ⟨"OrderSettler$TurnReader", "begin", "([BI)V"⟩ : Cond) ∈ osX := wv9 _ (List.mem_of_getElem? (i := 37) rfl)
theorem wd1116 : (.sameMethod "OrderSettler$TurnReader" "OrderSettler$TextReader" "begin" "([BI)V" : Cond) ∈ osX := wv9 _ (List.mem_of_getElem? (i := 38) rfl)
theorem wd1117 : (.selects RX7 ⟨"OrderSettler$TurnReader", "begin", "([BI)V"⟩ yX6_begin : Cond) ∈ osX := wv9 _ (List.mem_of_getElem? (i := 39) rfl)
theorem wd1118 : (.methodLink RX7 15 ⟨"OrderSettler$TurnReader", "isAtEnd", "()Z"⟩ : Cond) ∈ osX := wv9 _ (List.mem_of_getElem? (i := 40) rfl)
theorem wd1119 : (.sameMethod "OrderSettler$TurnReader" "OrderSettler$TextReader" "isAtEnd" "()Z" : Cond) ∈ osX := wv9 _ (List.mem_of_getElem? (i := 41) rfl)
theorem wd1120 : (.selects RX7 ⟨"OrderSettler$TurnReader", "isAtEnd", "()Z"⟩ yX6_isAtEnd : Cond) ∈ osX := wv9 _ (List.mem_of_getElem? (i := 42) rfl)
theorem wd1121 : (.methodLink RX7 19 yX7_readOne : Cond) ∈ osX := wv9 _ (List.mem_of_getElem? (i := 43) rfl)
theorem wd1123 : (.instanceMethod yX7_readOne : Cond) ∈ osX := wv9 _ (List.mem_of_getElem? (i := 44) rfl)
theorem wd1125 : (.methodLink RX7 32 yX7_readOrder : Cond) ∈ osX := wv9 _ (List.mem_of_getElem? (i := 45) rfl)
theorem wd1127 : (.instanceMethod yX7_readOrder : Cond) ∈ osX := wv9 _ (List.mem_of_getElem? (i := 46) rfl)
theorem wd1129 : (.methodLink RX7 60 ⟨"OrderSettler$TurnReader", "takeArea", "(LOrderSettler$Board;)I"⟩ : Cond) ∈ osX := wv9 _ (List.mem_of_getElem? (i := 47) rfl)
theorem wd1130 : (.sameMethod "OrderSettler$TurnReader" "OrderSettler$TextReader" "takeArea" "(LOrderSettler$Board;)I" : Cond) ∈ osX := wv9 _ (List.mem_of_getElem? (i := 48) rfl)
theorem wd1131 : (.selects RX7 ⟨"OrderSettler$TurnReader", "takeArea", "(LOrderSettler$Board;)I"⟩ yX6_takeArea : Cond) ∈ osX := wv9 _ (List.mem_of_getElem? (i := 49) rfl)
theorem wd1132 : (.methodLink RX7 64 yX5_hasUnit : Cond) ∈ osX := wv9 _ (List.mem_of_getElem? (i := 50) rfl)
theorem wd1133 : (.methodLink RX7 71 ⟨"OrderSettler$TurnReader", "fail", "(II)Z"⟩ : Cond) ∈ osX := wv9 _ (List.mem_of_getElem? (i := 51) rfl)
theorem wd1134 : (.sameMethod "OrderSettler$TurnReader" "OrderSettler$TextReader" "fail" "(II)Z" : Cond) ∈ osX := wv9 _ (List.mem_of_getElem? (i := 52) rfl)
theorem wd1135 : (.selects RX7 ⟨"OrderSettler$TurnReader", "fail", "(II)Z"⟩ yX6_fail : Cond) ∈ osX := wv9 _ (List.mem_of_getElem? (i := 53) rfl)
theorem wd1136 : (.fieldLink RX7 75 "OrderSettler$Word" "HOLD" "LOrderSettler$Word;" : Cond) ∈ osX := wv9 _ (List.mem_of_getElem? (i := 54) rfl)
theorem wd1138 : (.methodLink RX7 44 ⟨"OrderSettler$TurnReader", "take", "(LOrderSettler$Word;)Z"⟩ : Cond) ∈ osX := wv9 _ (List.mem_of_getElem? (i := 55) rfl)
theorem wd1139 : (.sameMethod "OrderSettler$TurnReader" "OrderSettler$TextReader" "take" "(LOrderSettler$Word;)Z" : Cond) ∈ osX := wv9 _ (List.mem_of_getElem? (i := 56) rfl)
theorem wd1140 : (.selects RX7 ⟨"OrderSettler$TurnReader", "take", "(LOrderSettler$Word;)Z"⟩ yX6_take : Cond) ∈ osX := wv9 _ (List.mem_of_getElem? (i := 57) rfl)
theorem wd1141 : (.methodLink RX7 78 yX5_giveOrder : Cond) ∈ osX := wv9 _ (List.mem_of_getElem? (i := 58) rfl)
theorem wd1142 : (.fieldLink RX7 82 "OrderSettler$Word" "TO" "LOrderSettler$Word;" : Cond) ∈ osX := wv9 _ (List.mem_of_getElem? (i := 59) rfl)
def ww10 : List Cond := [.methodLink RX7 85 yX7_readMove, .instanceMethod yX7_readMove, .methodLink RX7 101 yX5_allowsMove, .instanceMethod yX5_allowsMove, .selects RX5 yX5_allowsMove yX5_allowsMove, .methodLink RX5 130 yX5_canGo, .instanceMethod yX5_canGo, .selects RX5 yX5_canGo yX5_canGo, .methodLink RX5 134 yX0_letsPass, .methodLink RX5 138 yX5_hasArmy, .instanceMethod yX5_hasArmy, .methodLink RX5 141 yX5_joinsCoasts, .static yX5_joinsCoasts, .methodLinkNest RX5 147 yX9_has "OrderSettler", .fieldLink RX7 89 "OrderSettler$Word" "SUPPORT" "LOrderSettler$Word;", .methodLink RX7 92 yX7_readSupport, .instanceMethod yX7_readSupport, .methodLink RX7 105 yX5_allowsUnitSupport, .instanceMethod yX5_allowsUnitSupport, .selects RX5 yX5_allowsUnitSupport yX5_allowsUnitSupport, .methodLink RX5 126 yX5_hasUnit, .methodLink RX7 108 yX5_allowsMoveSupport, .instanceMethod yX5_allowsMoveSupport, .selects RX5 yX5_allowsMoveSupport yX5_allowsMoveSupport, .fieldLink RX7 95 "OrderSettler$Word" "CONVOY" "LOrderSettler$Word;", .methodLink RX7 54 ⟨"OrderSettler$TurnReader", "takeOrFail", "(LOrderSettler$Word;)Z"⟩, .sameMethod "OrderSettler$TurnReader" "OrderSettler$TextReader" "takeOrFail" "(LOrderSettler$Word;)Z", .selects RX7 ⟨"OrderSettler$TurnReader", "takeOrFail", "(LOrderSettler$Word;)Z"⟩ yX6_takeOrFail, .instanceMethod yX6_takeOrFail, .methodLink RX6 56 yX6_take, .methodLink RX7 98 yX7_readConvoy, .instanceMethod yX7_readConvoy, .methodLink RX7 112 yX5_allowsConvoy, .instanceMethod yX5_allowsConvoy, .selects RX5 yX5_allowsConvoy yX5_allowsConvoy, .methodLink RX7 35 yX7_readRetreat, .instanceMethod yX7_readRetreat, .methodLink RX7 115 yX5_hasDislodged, .instanceMethod yX5_hasDislodged, .selects RX5 yX5_hasDislodged yX5_hasDislodged, .fieldLink RX7 118 "OrderSettler$Word" "DISBAND" "LOrderSettler$Word;", .methodLink RX7 121 yX5_giveRetreat, .instanceMethod yX5_giveRetreat, .selects RX5 yX5_giveRetreat yX5_giveRetreat, .methodLink RX7 125 yX5_allowsRetreat, .instanceMethod yX5_allowsRetreat, .selects RX5 yX5_allowsRetreat yX5_allowsRetreat, .methodLink RX5 154 yX5_hasDislodged, .fieldLink RX7 38 "OrderSettler$Word" "BUILD" "LOrderSettler$Word;", .methodLink RX7 48 yX7_readBuild, .instanceMethod yX7_readBuild, .methodLink RX7 128 yX5_allowsBuild, .instanceMethod yX5_allowsBuild, .selects RX5 yX5_allowsBuild yX5_allowsBuild, .methodLink RX5 108 yX5_freeHomes, .instanceMethod yX5_freeHomes, .methodLink RX5 157 yX5_countBuilds, .instanceMethod yX5_countBuilds, .selects RX5 yX5_countBuilds yX5_countBuilds, .methodLink RX5 101 yX5_countCenters]
theorem wv10 : ∀ w ∈ ww10, w ∈ osX := osX_at [1144, 1146, 1148, 1149, 1150, 1152, 1153, 1154, 1156, 1157, 1159, 1161, 1162, 1164, 1165, 1167, 1169, 1171, 1172, 1173, 1175, 1176, 1177, 1178, 1180, 1182, 1183, 1185, 1186, 1188, 1189, 1191, 1193, 1194, 1195, 1197, 1199, 1201, 1202, 1203, 1205, 1207, 1208, 1209, 1211, 1212, 1213, 1215, 1216, 1218, 1220, 1222, 1223, 1224, 1226, 1228, 1230, 1231, 1232, 1234] (by decide +kernel) (by decide +kernel)
theorem wd1144 : (.methodLink RX7 85 yX7_readMove : Cond) ∈ osX := wv10 _ (List.mem_of_getElem? (i := 0) rfl)
theorem wd1146 : (.instanceMethod yX7_readMove : Cond) ∈ osX := wv10 _ (List.mem_of_getElem? (i := 1) rfl)
theorem wd1148 : (.methodLink RX7 101 yX5_allowsMove : Cond) ∈ osX := wv10 _ (List.mem_of_getElem? (i := 2) rfl)
theorem wd1149 : (.instanceMethod yX5_allowsMove : Cond) ∈ osX := wv10 _ (List.mem_of_getElem? (i := 3) rfl)
theorem wd1150 : (.selects RX5 yX5_allowsMove yX5_allowsMove : Cond) ∈ osX := wv10 _ (List.mem_of_getElem? (i := 4) rfl)
theorem wd1152 : (.methodLink RX5 130 yX5_canGo : Cond) ∈ osX := wv10 _ (List.mem_of_getElem? (i := 5) rfl)
theorem wd1153 : (.instanceMethod yX5_canGo : Cond) ∈ osX := wv10 _ (List.mem_of_getElem? (i := 6) rfl)
theorem wd1154 : (.selects RX5 yX5_canGo yX5_canGo : Cond) ∈ osX := wv10 _ (List.mem_of_getElem? (i := 7) rfl)
theorem wd1156 : (.methodLink RX5 134 yX0_letsPass : Cond) ∈ osX := wv10 _ (List.mem_of_getElem? (i := 8) rfl)
theorem wd1157 : (.methodLink RX5 138 yX5_hasArmy : Cond) ∈ osX := wv10 _ (List.mem_of_getElem? (i := 9) rfl)
theorem wd1159 : (.instanceMethod yX5_hasArmy : Cond) ∈ osX := wv10 _ (List.mem_of_getElem? (i := 10) rfl)
theorem wd1161 : (.methodLink RX5 141 yX5_joinsCoasts : Cond) ∈ osX := wv10 _ (List.mem_of_getElem? (i := 11) rfl)
theorem wd1162 : (.static yX5_joinsCoasts : Cond) ∈ osX := wv10 _ (List.mem_of_getElem? (i := 12) rfl)
theorem wd1164 : (.methodLinkNest RX5 147 yX9_has "OrderSettler" : Cond) ∈ osX := wv10 _ (List.mem_of_getElem? (i := 13) rfl)
theorem wd1165 : (.fieldLink RX7 89 "OrderSettler$Word" "SUPPORT" "LOrderSettler$Word;" : Cond) ∈ osX := wv10 _ (List.mem_of_getElem? (i := 14) rfl)
theorem wd1167 : (.methodLink RX7 92 yX7_readSupport : Cond) ∈ osX := wv10 _ (List.mem_of_getElem? (i := 15) rfl)
theorem wd1169 : (.instanceMethod yX7_readSupport : Cond) ∈ osX := wv10 _ (List.mem_of_getElem? (i := 16) rfl)
theorem wd1171 : (.methodLink RX7 105 yX5_allowsUnitSupport : Cond) ∈ osX := wv10 _ (List.mem_of_getElem? (i := 17) rfl)
theorem wd1172 : (.instanceMethod yX5_allowsUnitSupport : Cond) ∈ osX := wv10 _ (List.mem_of_getElem? (i := 18) rfl)
theorem wd1173 : (.selects RX5 yX5_allowsUnitSupport yX5_allowsUnitSupport : Cond) ∈ osX := wv10 _ (List.mem_of_getElem? (i := 19) rfl)
theorem wd1175 : (.methodLink RX5 126 yX5_hasUnit : Cond) ∈ osX := wv10 _ (List.mem_of_getElem? (i := 20) rfl)
theorem wd1176 : (.methodLink RX7 108 yX5_allowsMoveSupport : Cond) ∈ osX := wv10 _ (List.mem_of_getElem? (i := 21) rfl)
theorem wd1177 : (.instanceMethod yX5_allowsMoveSupport : Cond) ∈ osX := wv10 _ (List.mem_of_getElem? (i := 22) rfl)
theorem wd1178 : (.selects RX5 yX5_allowsMoveSupport yX5_allowsMoveSupport : Cond) ∈ osX := wv10 _ (List.mem_of_getElem? (i := 23) rfl)
theorem wd1180 : (.fieldLink RX7 95 "OrderSettler$Word" "CONVOY" "LOrderSettler$Word;" : Cond) ∈ osX := wv10 _ (List.mem_of_getElem? (i := 24) rfl)
theorem wd1182 : (.methodLink RX7 54 ⟨"OrderSettler$TurnReader", "takeOrFail", "(LOrderSettler$Word;)Z"⟩ : Cond) ∈ osX := wv10 _ (List.mem_of_getElem? (i := 25) rfl)
theorem wd1183 : (.sameMethod "OrderSettler$TurnReader" "OrderSettler$TextReader" "takeOrFail" "(LOrderSettler$Word;)Z" : Cond) ∈ osX := wv10 _ (List.mem_of_getElem? (i := 26) rfl)
theorem wd1185 : (.selects RX7 ⟨"OrderSettler$TurnReader", "takeOrFail", "(LOrderSettler$Word;)Z"⟩ yX6_takeOrFail : Cond) ∈ osX := wv10 _ (List.mem_of_getElem? (i := 27) rfl)
theorem wd1186 : (.instanceMethod yX6_takeOrFail : Cond) ∈ osX := wv10 _ (List.mem_of_getElem? (i := 28) rfl)
theorem wd1188 : (.methodLink RX6 56 yX6_take : Cond) ∈ osX := wv10 _ (List.mem_of_getElem? (i := 29) rfl)
theorem wd1189 : (.methodLink RX7 98 yX7_readConvoy : Cond) ∈ osX := wv10 _ (List.mem_of_getElem? (i := 30) rfl)
theorem wd1191 : (.instanceMethod yX7_readConvoy : Cond) ∈ osX := wv10 _ (List.mem_of_getElem? (i := 31) rfl)
theorem wd1193 : (.methodLink RX7 112 yX5_allowsConvoy : Cond) ∈ osX := wv10 _ (List.mem_of_getElem? (i := 32) rfl)
theorem wd1194 : (.instanceMethod yX5_allowsConvoy : Cond) ∈ osX := wv10 _ (List.mem_of_getElem? (i := 33) rfl)
theorem wd1195 : (.selects RX5 yX5_allowsConvoy yX5_allowsConvoy : Cond) ∈ osX := wv10 _ (List.mem_of_getElem? (i := 34) rfl)
theorem wd1197 : (.methodLink RX7 35 yX7_readRetreat : Cond) ∈ osX := wv10 _ (List.mem_of_getElem? (i := 35) rfl)
theorem wd1199 : (.instanceMethod yX7_readRetreat : Cond) ∈ osX := wv10 _ (List.mem_of_getElem? (i := 36) rfl)
theorem wd1201 : (.methodLink RX7 115 yX5_hasDislodged : Cond) ∈ osX := wv10 _ (List.mem_of_getElem? (i := 37) rfl)
theorem wd1202 : (.instanceMethod yX5_hasDislodged : Cond) ∈ osX := wv10 _ (List.mem_of_getElem? (i := 38) rfl)
theorem wd1203 : (.selects RX5 yX5_hasDislodged yX5_hasDislodged : Cond) ∈ osX := wv10 _ (List.mem_of_getElem? (i := 39) rfl)
theorem wd1205 : (.fieldLink RX7 118 "OrderSettler$Word" "DISBAND" "LOrderSettler$Word;" : Cond) ∈ osX := wv10 _ (List.mem_of_getElem? (i := 40) rfl)
theorem wd1207 : (.methodLink RX7 121 yX5_giveRetreat : Cond) ∈ osX := wv10 _ (List.mem_of_getElem? (i := 41) rfl)
theorem wd1208 : (.instanceMethod yX5_giveRetreat : Cond) ∈ osX := wv10 _ (List.mem_of_getElem? (i := 42) rfl)
theorem wd1209 : (.selects RX5 yX5_giveRetreat yX5_giveRetreat : Cond) ∈ osX := wv10 _ (List.mem_of_getElem? (i := 43) rfl)
theorem wd1211 : (.methodLink RX7 125 yX5_allowsRetreat : Cond) ∈ osX := wv10 _ (List.mem_of_getElem? (i := 44) rfl)
theorem wd1212 : (.instanceMethod yX5_allowsRetreat : Cond) ∈ osX := wv10 _ (List.mem_of_getElem? (i := 45) rfl)
theorem wd1213 : (.selects RX5 yX5_allowsRetreat yX5_allowsRetreat : Cond) ∈ osX := wv10 _ (List.mem_of_getElem? (i := 46) rfl)
theorem wd1215 : (.methodLink RX5 154 yX5_hasDislodged : Cond) ∈ osX := wv10 _ (List.mem_of_getElem? (i := 47) rfl)
theorem wd1216 : (.fieldLink RX7 38 "OrderSettler$Word" "BUILD" "LOrderSettler$Word;" : Cond) ∈ osX := wv10 _ (List.mem_of_getElem? (i := 48) rfl)
theorem wd1218 : (.methodLink RX7 48 yX7_readBuild : Cond) ∈ osX := wv10 _ (List.mem_of_getElem? (i := 49) rfl)
theorem wd1220 : (.instanceMethod yX7_readBuild : Cond) ∈ osX := wv10 _ (List.mem_of_getElem? (i := 50) rfl)
theorem wd1222 : (.methodLink RX7 128 yX5_allowsBuild : Cond) ∈ osX := wv10 _ (List.mem_of_getElem? (i := 51) rfl)
theorem wd1223 : (.instanceMethod yX5_allowsBuild : Cond) ∈ osX := wv10 _ (List.mem_of_getElem? (i := 52) rfl)
theorem wd1224 : (.selects RX5 yX5_allowsBuild yX5_allowsBuild : Cond) ∈ osX := wv10 _ (List.mem_of_getElem? (i := 53) rfl)
theorem wd1226 : (.methodLink RX5 108 yX5_freeHomes : Cond) ∈ osX := wv10 _ (List.mem_of_getElem? (i := 54) rfl)
theorem wd1228 : (.instanceMethod yX5_freeHomes : Cond) ∈ osX := wv10 _ (List.mem_of_getElem? (i := 55) rfl)
theorem wd1230 : (.methodLink RX5 157 yX5_countBuilds : Cond) ∈ osX := wv10 _ (List.mem_of_getElem? (i := 56) rfl)
theorem wd1231 : (.instanceMethod yX5_countBuilds : Cond) ∈ osX := wv10 _ (List.mem_of_getElem? (i := 57) rfl)
theorem wd1232 : (.selects RX5 yX5_countBuilds yX5_countBuilds : Cond) ∈ osX := wv10 _ (List.mem_of_getElem? (i := 58) rfl)
theorem wd1234 : (.methodLink RX5 101 yX5_countCenters : Cond) ∈ osX := wv10 _ (List.mem_of_getElem? (i := 59) rfl)
def ww11 : List Cond := [.instanceMethod yX5_countCenters, .selects RX5 yX5_countCenters yX5_countCenters, .methodLink RX5 105 yX5_countUnits, .instanceMethod yX5_countUnits, .selects RX5 yX5_countUnits yX5_countUnits, .methodLink RX5 112 yJ6_bitCount_0f7a4, .static yJ6_bitCount_0f7a4, .constant RJ6 265 (1431655765 : Int32), .constant RJ6 266 (858993459 : Int32), .constant RJ6 267 (252645135 : Int32), .methodLink RX5 117 yX5_countAllUnits, .fieldLink RX7 135 "OrderSettler$Word" "FLEET" "LOrderSettler$Word;", .fieldLink RX7 138 "OrderSettler$Word" "ARMY" "LOrderSettler$Word;", .methodLink RX7 141 yX0_suits, .methodLinkNest RX7 150 yX9_entry "OrderSettler", .methodLink RX7 154 yX5_placeUnit, .fieldLink RX7 51 "OrderSettler$Word" "REMOVE" "LOrderSettler$Word;", .methodLink RX7 57 yX7_readRemoval, .instanceMethod yX7_readRemoval, .methodLink RX7 161 yX5_needsRemoval, .instanceMethod yX5_needsRemoval, .selects RX5 yX5_needsRemoval yX5_needsRemoval, .methodLink RX7 23 ⟨"OrderSettler$TurnReader", "takeSemicolon", "()Z"⟩, .sameMethod "OrderSettler$TurnReader" "OrderSettler$TextReader" "takeSemicolon" "()Z", .selects RX7 ⟨"OrderSettler$TurnReader", "takeSemicolon", "()Z"⟩ yX6_takeSemicolon, .methodLink RL 192 yL_settles, .static yL_settles, .methodLink RL 118 yX9_order, .instanceMethod yX9_order, .selects RX9 yX9_order yX9_order, .methodLink RX9 207 yX9_requireUnit, .instanceMethod yX9_requireUnit, .methodLink RX9 323 yX5_hasUnit, .methodLink RX9 210 yX9_requirePhase, .instanceMethod yX9_requirePhase, .methodLink RL 120 yX9_foresee, .instanceMethod yX9_foresee, .selects RX9 yX9_foresee yX9_foresee, .methodLink RX9 225 yX1_decide, .instanceMethod yX1_decide, .selects RX1 yX1_decide yX1_decide, .methodLink RX1 41 yX2_prepare, .instanceMethod yX2_prepare, .selects RX2 yX2_prepare yX2_prepare, .methodLink RX2 61 yX2_clear, .instanceMethod yX2_clear, .methodLink RX2 64 yX0_bordersOf, .instanceMethod yX0_bordersOf, .selects RX0 yX0_bordersOf yX0_bordersOf, .methodLink RX2 70 yX5_hasUnit, .methodLinkNest RX2 76 yX9_bit "OrderSettler", .methodLink RX2 83 yX2_noteMove, .instanceMethod yX2_noteMove, .methodLinkNest RX2 104 yX9_entry "OrderSettler", .methodLink RX2 108 yX5_canGo, .methodLinkNest RX2 87 yX9_has "OrderSettler", .methodLink RX2 91 yX2_linkSupport, .instanceMethod yX2_linkSupport, .methodLink RX2 95 yX2_linkConvoy, .instanceMethod yX2_linkConvoy]
theorem wv11 : ∀ w ∈ ww11, w ∈ osX := osX_at [1235, 1236, 1238, 1239, 1240, 1242, 1243, 1245, 1246, 1247, 1248, 1249, 1250, 1251, 1252, 1253, 1254, 1256, 1258, 1260, 1261, 1262, 1264, 1265, 1266, 1268, 1269, 1271, 1272, 1273, 1275, 1277, 1279, 1281, 1283, 1286, 1287, 1288, 1290, 1291, 1292, 1294, 1295, 1296, 1298, 1300, 1302, 1303, 1304, 1306, 1307, 1308, 1310, 1312, 1313, 1314, 1315, 1317, 1319, 1321] (by decide +kernel) (by decide +kernel)
theorem wd1235 : (.instanceMethod yX5_countCenters : Cond) ∈ osX := wv11 _ (List.mem_of_getElem? (i := 0) rfl)
theorem wd1236 : (.selects RX5 yX5_countCenters yX5_countCenters : Cond) ∈ osX := wv11 _ (List.mem_of_getElem? (i := 1) rfl)
theorem wd1238 : (.methodLink RX5 105 yX5_countUnits : Cond) ∈ osX := wv11 _ (List.mem_of_getElem? (i := 2) rfl)
theorem wd1239 : (.instanceMethod yX5_countUnits : Cond) ∈ osX := wv11 _ (List.mem_of_getElem? (i := 3) rfl)
theorem wd1240 : (.selects RX5 yX5_countUnits yX5_countUnits : Cond) ∈ osX := wv11 _ (List.mem_of_getElem? (i := 4) rfl)
theorem wd1242 : (.methodLink RX5 112 yJ6_bitCount_0f7a4 : Cond) ∈ osX := wv11 _ (List.mem_of_getElem? (i := 5) rfl)
theorem wd1243 : (.static yJ6_bitCount_0f7a4 : Cond) ∈ osX := wv11 _ (List.mem_of_getElem? (i := 6) rfl)
theorem wd1245 : (.constant RJ6 265 (1431655765 : Int32) : Cond) ∈ osX := wv11 _ (List.mem_of_getElem? (i := 7) rfl)
theorem wd1246 : (.constant RJ6 266 (858993459 : Int32) : Cond) ∈ osX := wv11 _ (List.mem_of_getElem? (i := 8) rfl)
theorem wd1247 : (.constant RJ6 267 (252645135 : Int32) : Cond) ∈ osX := wv11 _ (List.mem_of_getElem? (i := 9) rfl)
theorem wd1248 : (.methodLink RX5 117 yX5_countAllUnits : Cond) ∈ osX := wv11 _ (List.mem_of_getElem? (i := 10) rfl)
theorem wd1249 : (.fieldLink RX7 135 "OrderSettler$Word" "FLEET" "LOrderSettler$Word;" : Cond) ∈ osX := wv11 _ (List.mem_of_getElem? (i := 11) rfl)
theorem wd1250 : (.fieldLink RX7 138 "OrderSettler$Word" "ARMY" "LOrderSettler$Word;" : Cond) ∈ osX := wv11 _ (List.mem_of_getElem? (i := 12) rfl)
theorem wd1251 : (.methodLink RX7 141 yX0_suits : Cond) ∈ osX := wv11 _ (List.mem_of_getElem? (i := 13) rfl)
theorem wd1252 : (.methodLinkNest RX7 150 yX9_entry "OrderSettler" : Cond) ∈ osX := wv11 _ (List.mem_of_getElem? (i := 14) rfl)
theorem wd1253 : (.methodLink RX7 154 yX5_placeUnit : Cond) ∈ osX := wv11 _ (List.mem_of_getElem? (i := 15) rfl)
theorem wd1254 : (.fieldLink RX7 51 "OrderSettler$Word" "REMOVE" "LOrderSettler$Word;" : Cond) ∈ osX := wv11 _ (List.mem_of_getElem? (i := 16) rfl)
theorem wd1256 : (.methodLink RX7 57 yX7_readRemoval : Cond) ∈ osX := wv11 _ (List.mem_of_getElem? (i := 17) rfl)
theorem wd1258 : (.instanceMethod yX7_readRemoval : Cond) ∈ osX := wv11 _ (List.mem_of_getElem? (i := 18) rfl)
theorem wd1260 : (.methodLink RX7 161 yX5_needsRemoval : Cond) ∈ osX := wv11 _ (List.mem_of_getElem? (i := 19) rfl)
theorem wd1261 : (.instanceMethod yX5_needsRemoval : Cond) ∈ osX := wv11 _ (List.mem_of_getElem? (i := 20) rfl)
theorem wd1262 : (.selects RX5 yX5_needsRemoval yX5_needsRemoval : Cond) ∈ osX := wv11 _ (List.mem_of_getElem? (i := 21) rfl)
theorem wd1264 : (.methodLink RX7 23 ⟨"OrderSettler$TurnReader", "takeSemicolon", "()Z"⟩ : Cond) ∈ osX := wv11 _ (List.mem_of_getElem? (i := 22) rfl)
theorem wd1265 : (.sameMethod "OrderSettler$TurnReader" "OrderSettler$TextReader" "takeSemicolon" "()Z" : Cond) ∈ osX := wv11 _ (List.mem_of_getElem? (i := 23) rfl)
theorem wd1266 : (.selects RX7 ⟨"OrderSettler$TurnReader", "takeSemicolon", "()Z"⟩ yX6_takeSemicolon : Cond) ∈ osX := wv11 _ (List.mem_of_getElem? (i := 24) rfl)
theorem wd1268 : (.methodLink RL 192 yL_settles : Cond) ∈ osX := wv11 _ (List.mem_of_getElem? (i := 25) rfl)
theorem wd1269 : (.static yL_settles : Cond) ∈ osX := wv11 _ (List.mem_of_getElem? (i := 26) rfl)
theorem wd1271 : (.methodLink RL 118 yX9_order : Cond) ∈ osX := wv11 _ (List.mem_of_getElem? (i := 27) rfl)
theorem wd1272 : (.instanceMethod yX9_order : Cond) ∈ osX := wv11 _ (List.mem_of_getElem? (i := 28) rfl)
theorem wd1273 : (.selects RX9 yX9_order yX9_order : Cond) ∈ osX := wv11 _ (List.mem_of_getElem? (i := 29) rfl)
theorem wd1275 : (.methodLink RX9 207 yX9_requireUnit : Cond) ∈ osX := wv11 _ (List.mem_of_getElem? (i := 30) rfl)
theorem wd1277 : (.instanceMethod yX9_requireUnit : Cond) ∈ osX := wv11 _ (List.mem_of_getElem? (i := 31) rfl)
theorem wd1279 : (.methodLink RX9 323 yX5_hasUnit : Cond) ∈ osX := wv11 _ (List.mem_of_getElem? (i := 32) rfl)
theorem wd1281 : (.methodLink RX9 210 yX9_requirePhase : Cond) ∈ osX := wv11 _ (List.mem_of_getElem? (i := 33) rfl)
theorem wd1283 : (.instanceMethod yX9_requirePhase : Cond) ∈ osX := wv11 _ (List.mem_of_getElem? (i := 34) rfl)
theorem wd1286 : (.methodLink RL 120 yX9_foresee : Cond) ∈ osX := wv11 _ (List.mem_of_getElem? (i := 35) rfl)
theorem wd1287 : (.instanceMethod yX9_foresee : Cond) ∈ osX := wv11 _ (List.mem_of_getElem? (i := 36) rfl)
theorem wd1288 : (.selects RX9 yX9_foresee yX9_foresee : Cond) ∈ osX := wv11 _ (List.mem_of_getElem? (i := 37) rfl)
theorem wd1290 : (.methodLink RX9 225 yX1_decide : Cond) ∈ osX := wv11 _ (List.mem_of_getElem? (i := 38) rfl)
theorem wd1291 : (.instanceMethod yX1_decide : Cond) ∈ osX := wv11 _ (List.mem_of_getElem? (i := 39) rfl)
theorem wd1292 : (.selects RX1 yX1_decide yX1_decide : Cond) ∈ osX := wv11 _ (List.mem_of_getElem? (i := 40) rfl)
theorem wd1294 : (.methodLink RX1 41 yX2_prepare : Cond) ∈ osX := wv11 _ (List.mem_of_getElem? (i := 41) rfl)
theorem wd1295 : (.instanceMethod yX2_prepare : Cond) ∈ osX := wv11 _ (List.mem_of_getElem? (i := 42) rfl)
theorem wd1296 : (.selects RX2 yX2_prepare yX2_prepare : Cond) ∈ osX := wv11 _ (List.mem_of_getElem? (i := 43) rfl)
theorem wd1298 : (.methodLink RX2 61 yX2_clear : Cond) ∈ osX := wv11 _ (List.mem_of_getElem? (i := 44) rfl)
theorem wd1300 : (.instanceMethod yX2_clear : Cond) ∈ osX := wv11 _ (List.mem_of_getElem? (i := 45) rfl)
theorem wd1302 : (.methodLink RX2 64 yX0_bordersOf : Cond) ∈ osX := wv11 _ (List.mem_of_getElem? (i := 46) rfl)
theorem wd1303 : (.instanceMethod yX0_bordersOf : Cond) ∈ osX := wv11 _ (List.mem_of_getElem? (i := 47) rfl)
theorem wd1304 : (.selects RX0 yX0_bordersOf yX0_bordersOf : Cond) ∈ osX := wv11 _ (List.mem_of_getElem? (i := 48) rfl)
theorem wd1306 : (.methodLink RX2 70 yX5_hasUnit : Cond) ∈ osX := wv11 _ (List.mem_of_getElem? (i := 49) rfl)
theorem wd1307 : (.methodLinkNest RX2 76 yX9_bit "OrderSettler" : Cond) ∈ osX := wv11 _ (List.mem_of_getElem? (i := 50) rfl)
theorem wd1308 : (.methodLink RX2 83 yX2_noteMove : Cond) ∈ osX := wv11 _ (List.mem_of_getElem? (i := 51) rfl)
theorem wd1310 : (.instanceMethod yX2_noteMove : Cond) ∈ osX := wv11 _ (List.mem_of_getElem? (i := 52) rfl)
theorem wd1312 : (.methodLinkNest RX2 104 yX9_entry "OrderSettler" : Cond) ∈ osX := wv11 _ (List.mem_of_getElem? (i := 53) rfl)
theorem wd1313 : (.methodLink RX2 108 yX5_canGo : Cond) ∈ osX := wv11 _ (List.mem_of_getElem? (i := 54) rfl)
theorem wd1314 : (.methodLinkNest RX2 87 yX9_has "OrderSettler" : Cond) ∈ osX := wv11 _ (List.mem_of_getElem? (i := 55) rfl)
theorem wd1315 : (.methodLink RX2 91 yX2_linkSupport : Cond) ∈ osX := wv11 _ (List.mem_of_getElem? (i := 56) rfl)
theorem wd1317 : (.instanceMethod yX2_linkSupport : Cond) ∈ osX := wv11 _ (List.mem_of_getElem? (i := 57) rfl)
theorem wd1319 : (.methodLink RX2 95 yX2_linkConvoy : Cond) ∈ osX := wv11 _ (List.mem_of_getElem? (i := 58) rfl)
theorem wd1321 : (.instanceMethod yX2_linkConvoy : Cond) ∈ osX := wv11 _ (List.mem_of_getElem? (i := 59) rfl)
def ww12 : List Cond := [.methodLink RX2 98 yX2_linkMove, .instanceMethod yX2_linkMove, .methodLink RX1 45 yX1_search, .instanceMethod yX1_search, .methodLink RX1 56 yJ6_bitCount_0f7a4, .methodLink RX1 62 yJ9_min_7cf53, .methodLink RX1 49 yX1_weigh, .instanceMethod yX1_weigh, .methodLinkNest RX1 72 yX9_has "OrderSettler", .methodLink RX1 89 yX1_isCarried, .instanceMethod yX1_isCarried, .methodLinkNest RX1 102 yX9_entry "OrderSettler", .methodLinkNest RX1 93 yX9_bit "OrderSettler", .methodLink RX1 68 yX1_isConsistent, .instanceMethod yX1_isConsistent, .methodLink RX1 115 yX1_shouldSucceed, .instanceMethod yX1_shouldSucceed, .methodLink RX1 118 yX1_attackOf, .instanceMethod yX1_attackOf, .methodLink RX1 121 yX1_resistanceTo, .instanceMethod yX1_resistanceTo, .methodLink RX1 124 yX1_preventionOf, .instanceMethod yX1_preventionOf, .methodLink RX1 142 yX1_strengthOf, .instanceMethod yX1_strengthOf, .methodLink RX1 145 yJ9_max_7cf53, .methodLink RX9 282 yX1_explain, .instanceMethod yX1_explain, .selects RX1 yX1_explain yX1_explain, .methodLink RX1 151 yX1_summaryOf, .instanceMethod yX1_summaryOf, .methodLink RX1 154 yX1_reasonFor, .instanceMethod yX1_reasonFor, .methodLink RL 123 yL_sum, .static yL_sum, .methodLink RL 115 yX9_turn, .instanceMethod yX9_turn, .selects RX9 yX9_turn yX9_turn, .methodLink RL 127 yL_units_, .static yL_units_, .methodLink RL 133 yX9_settle, .instanceMethod yX9_settle, .selects RX9 yX9_settle yX9_settle, .methodLink RX9 222 yX9_remember, .instanceMethod yX9_remember, .methodLink RX9 229 yX5_carryOut, .instanceMethod yX5_carryOut, .selects RX5 yX5_carryOut yX5_carryOut, .methodLink RX5 165 yX5_placeUnit, .methodLink RX5 172 yX1_findAttacker, .instanceMethod yX1_findAttacker, .selects RX1 yX1_findAttacker yX1_findAttacker, .methodLink RX5 175 yX1_findFailedGoals, .instanceMethod yX1_findFailedGoals, .selects RX1 yX1_findFailedGoals yX1_findFailedGoals, .methodLinkNest RX5 178 yX9_bit "OrderSettler", .methodLink RX5 182 yX1_explainAll, .instanceMethod yX1_explainAll, .selects RX1 yX1_explainAll yX1_explainAll, .methodLink RX1 148 yX1_explain]
theorem wv12 : ∀ w ∈ ww12, w ∈ osX := osX_at [1323, 1325, 1327, 1329, 1331, 1332, 1333, 1335, 1337, 1338, 1340, 1342, 1343, 1344, 1346, 1348, 1350, 1352, 1354, 1356, 1358, 1360, 1362, 1364, 1366, 1368, 1369, 1370, 1371, 1373, 1375, 1377, 1379, 1381, 1382, 1384, 1385, 1386, 1388, 1389, 1391, 1392, 1393, 1395, 1397, 1399, 1400, 1401, 1403, 1404, 1405, 1406, 1408, 1409, 1410, 1412, 1413, 1414, 1415, 1417] (by decide +kernel) (by decide +kernel)
theorem wd1323 : (.methodLink RX2 98 yX2_linkMove : Cond) ∈ osX := wv12 _ (List.mem_of_getElem? (i := 0) rfl)
theorem wd1325 : (.instanceMethod yX2_linkMove : Cond) ∈ osX := wv12 _ (List.mem_of_getElem? (i := 1) rfl)
theorem wd1327 : (.methodLink RX1 45 yX1_search : Cond) ∈ osX := wv12 _ (List.mem_of_getElem? (i := 2) rfl)
theorem wd1329 : (.instanceMethod yX1_search : Cond) ∈ osX := wv12 _ (List.mem_of_getElem? (i := 3) rfl)
theorem wd1331 : (.methodLink RX1 56 yJ6_bitCount_0f7a4 : Cond) ∈ osX := wv12 _ (List.mem_of_getElem? (i := 4) rfl)
theorem wd1332 : (.methodLink RX1 62 yJ9_min_7cf53 : Cond) ∈ osX := wv12 _ (List.mem_of_getElem? (i := 5) rfl)
theorem wd1333 : (.methodLink RX1 49 yX1_weigh : Cond) ∈ osX := wv12 _ (List.mem_of_getElem? (i := 6) rfl)
theorem wd1335 : (.instanceMethod yX1_weigh : Cond) ∈ osX := wv12 _ (List.mem_of_getElem? (i := 7) rfl)
theorem wd1337 : (.methodLinkNest RX1 72 yX9_has "OrderSettler" : Cond) ∈ osX := wv12 _ (List.mem_of_getElem? (i := 8) rfl)
theorem wd1338 : (.methodLink RX1 89 yX1_isCarried : Cond) ∈ osX := wv12 _ (List.mem_of_getElem? (i := 9) rfl)
theorem wd1340 : (.instanceMethod yX1_isCarried : Cond) ∈ osX := wv12 _ (List.mem_of_getElem? (i := 10) rfl)
theorem wd1342 : (.methodLinkNest RX1 102 yX9_entry "OrderSettler" : Cond) ∈ osX := wv12 _ (List.mem_of_getElem? (i := 11) rfl)
theorem wd1343 : (.methodLinkNest RX1 93 yX9_bit "OrderSettler" : Cond) ∈ osX := wv12 _ (List.mem_of_getElem? (i := 12) rfl)
theorem wd1344 : (.methodLink RX1 68 yX1_isConsistent : Cond) ∈ osX := wv12 _ (List.mem_of_getElem? (i := 13) rfl)
theorem wd1346 : (.instanceMethod yX1_isConsistent : Cond) ∈ osX := wv12 _ (List.mem_of_getElem? (i := 14) rfl)
theorem wd1348 : (.methodLink RX1 115 yX1_shouldSucceed : Cond) ∈ osX := wv12 _ (List.mem_of_getElem? (i := 15) rfl)
theorem wd1350 : (.instanceMethod yX1_shouldSucceed : Cond) ∈ osX := wv12 _ (List.mem_of_getElem? (i := 16) rfl)
theorem wd1352 : (.methodLink RX1 118 yX1_attackOf : Cond) ∈ osX := wv12 _ (List.mem_of_getElem? (i := 17) rfl)
theorem wd1354 : (.instanceMethod yX1_attackOf : Cond) ∈ osX := wv12 _ (List.mem_of_getElem? (i := 18) rfl)
theorem wd1356 : (.methodLink RX1 121 yX1_resistanceTo : Cond) ∈ osX := wv12 _ (List.mem_of_getElem? (i := 19) rfl)
theorem wd1358 : (.instanceMethod yX1_resistanceTo : Cond) ∈ osX := wv12 _ (List.mem_of_getElem? (i := 20) rfl)
theorem wd1360 : (.methodLink RX1 124 yX1_preventionOf : Cond) ∈ osX := wv12 _ (List.mem_of_getElem? (i := 21) rfl)
theorem wd1362 : (.instanceMethod yX1_preventionOf : Cond) ∈ osX := wv12 _ (List.mem_of_getElem? (i := 22) rfl)
theorem wd1364 : (.methodLink RX1 142 yX1_strengthOf : Cond) ∈ osX := wv12 _ (List.mem_of_getElem? (i := 23) rfl)
theorem wd1366 : (.instanceMethod yX1_strengthOf : Cond) ∈ osX := wv12 _ (List.mem_of_getElem? (i := 24) rfl)
theorem wd1368 : (.methodLink RX1 145 yJ9_max_7cf53 : Cond) ∈ osX := wv12 _ (List.mem_of_getElem? (i := 25) rfl)
theorem wd1369 : (.methodLink RX9 282 yX1_explain : Cond) ∈ osX := wv12 _ (List.mem_of_getElem? (i := 26) rfl)
theorem wd1370 : (.instanceMethod yX1_explain : Cond) ∈ osX := wv12 _ (List.mem_of_getElem? (i := 27) rfl)
theorem wd1371 : (.selects RX1 yX1_explain yX1_explain : Cond) ∈ osX := wv12 _ (List.mem_of_getElem? (i := 28) rfl)
theorem wd1373 : (.methodLink RX1 151 yX1_summaryOf : Cond) ∈ osX := wv12 _ (List.mem_of_getElem? (i := 29) rfl)
theorem wd1375 : (.instanceMethod yX1_summaryOf : Cond) ∈ osX := wv12 _ (List.mem_of_getElem? (i := 30) rfl)
theorem wd1377 : (.methodLink RX1 154 yX1_reasonFor : Cond) ∈ osX := wv12 _ (List.mem_of_getElem? (i := 31) rfl)
theorem wd1379 : (.instanceMethod yX1_reasonFor : Cond) ∈ osX := wv12 _ (List.mem_of_getElem? (i := 32) rfl)
theorem wd1381 : (.methodLink RL 123 yL_sum : Cond) ∈ osX := wv12 _ (List.mem_of_getElem? (i := 33) rfl)
theorem wd1382 : (.static yL_sum : Cond) ∈ osX := wv12 _ (List.mem_of_getElem? (i := 34) rfl)
theorem wd1384 : (.methodLink RL 115 yX9_turn : Cond) ∈ osX := wv12 _ (List.mem_of_getElem? (i := 35) rfl)
theorem wd1385 : (.instanceMethod yX9_turn : Cond) ∈ osX := wv12 _ (List.mem_of_getElem? (i := 36) rfl)
theorem wd1386 : (.selects RX9 yX9_turn yX9_turn : Cond) ∈ osX := wv12 _ (List.mem_of_getElem? (i := 37) rfl)
theorem wd1388 : (.methodLink RL 127 yL_units_ : Cond) ∈ osX := wv12 _ (List.mem_of_getElem? (i := 38) rfl)
theorem wd1389 : (.static yL_units_ : Cond) ∈ osX := wv12 _ (List.mem_of_getElem? (i := 39) rfl)
theorem wd1391 : (.methodLink RL 133 yX9_settle : Cond) ∈ osX := wv12 _ (List.mem_of_getElem? (i := 40) rfl)
theorem wd1392 : (.instanceMethod yX9_settle : Cond) ∈ osX := wv12 _ (List.mem_of_getElem? (i := 41) rfl)
theorem wd1393 : (.selects RX9 yX9_settle yX9_settle : Cond) ∈ osX := wv12 _ (List.mem_of_getElem? (i := 42) rfl)
theorem wd1395 : (.methodLink RX9 222 yX9_remember : Cond) ∈ osX := wv12 _ (List.mem_of_getElem? (i := 43) rfl)
theorem wd1397 : (.instanceMethod yX9_remember : Cond) ∈ osX := wv12 _ (List.mem_of_getElem? (i := 44) rfl)
theorem wd1399 : (.methodLink RX9 229 yX5_carryOut : Cond) ∈ osX := wv12 _ (List.mem_of_getElem? (i := 45) rfl)
theorem wd1400 : (.instanceMethod yX5_carryOut : Cond) ∈ osX := wv12 _ (List.mem_of_getElem? (i := 46) rfl)
theorem wd1401 : (.selects RX5 yX5_carryOut yX5_carryOut : Cond) ∈ osX := wv12 _ (List.mem_of_getElem? (i := 47) rfl)
theorem wd1403 : (.methodLink RX5 165 yX5_placeUnit : Cond) ∈ osX := wv12 _ (List.mem_of_getElem? (i := 48) rfl)
theorem wd1404 : (.methodLink RX5 172 yX1_findAttacker : Cond) ∈ osX := wv12 _ (List.mem_of_getElem? (i := 49) rfl)
theorem wd1405 : (.instanceMethod yX1_findAttacker : Cond) ∈ osX := wv12 _ (List.mem_of_getElem? (i := 50) rfl)
theorem wd1406 : (.selects RX1 yX1_findAttacker yX1_findAttacker : Cond) ∈ osX := wv12 _ (List.mem_of_getElem? (i := 51) rfl)
theorem wd1408 : (.methodLink RX5 175 yX1_findFailedGoals : Cond) ∈ osX := wv12 _ (List.mem_of_getElem? (i := 52) rfl)
theorem wd1409 : (.instanceMethod yX1_findFailedGoals : Cond) ∈ osX := wv12 _ (List.mem_of_getElem? (i := 53) rfl)
theorem wd1410 : (.selects RX1 yX1_findFailedGoals yX1_findFailedGoals : Cond) ∈ osX := wv12 _ (List.mem_of_getElem? (i := 54) rfl)
theorem wd1412 : (.methodLinkNest RX5 178 yX9_bit "OrderSettler" : Cond) ∈ osX := wv12 _ (List.mem_of_getElem? (i := 55) rfl)
theorem wd1413 : (.methodLink RX5 182 yX1_explainAll : Cond) ∈ osX := wv12 _ (List.mem_of_getElem? (i := 56) rfl)
theorem wd1414 : (.instanceMethod yX1_explainAll : Cond) ∈ osX := wv12 _ (List.mem_of_getElem? (i := 57) rfl)
theorem wd1415 : (.selects RX1 yX1_explainAll yX1_explainAll : Cond) ∈ osX := wv12 _ (List.mem_of_getElem? (i := 58) rfl)
theorem wd1417 : (.methodLink RX1 148 yX1_explain : Cond) ∈ osX := wv12 _ (List.mem_of_getElem? (i := 59) rfl)
def ww13 : List Cond := [.methodLink RX9 236 yX5_closeTurn, .instanceMethod yX5_closeTurn, .selects RX5 yX5_closeTurn yX5_closeTurn, .methodLink RX5 186 yX5_beginTurn, .instanceMethod yX5_beginTurn, .selects RX5 yX5_beginTurn yX5_beginTurn, .methodLink RX9 243 yJ6_bitCount_0f7a4, .methodLink RL 136 yJ9_min_7cf53, .methodLink RL 141 yX9_result, .instanceMethod yX9_result, .selects RX9 yX9_result yX9_result, .methodLink RX9 248 yX9_requireSettled, .instanceMethod yX9_requireSettled, .methodLink RL 144 yL_aside, .static yL_aside, .methodLink RL 147 yL_undone, .static yL_undone, .methodLink RL 109 yX9_undo, .instanceMethod yX9_undo, .selects RX9 yX9_undo yX9_undo, .methodLink RL 196 yL_retreats, .static yL_retreats, .methodLink RL 150 yL_may, .static yL_may, .classLink RL 107 "java/util/NoSuchElementException", .methodLink RL 103 yX9_mayRetreat, .instanceMethod yX9_mayRetreat, .selects RX9 yX9_mayRetreat yX9_mayRetreat, .methodLink RX9 260 yX5_hasDislodged, .methodLink RX9 266 yX5_allowsRetreat, .methodLink RL 154 yX9_isContested, .instanceMethod yX9_isContested, .selects RX9 yX9_isContested yX9_isContested, .methodLink RL 158 yX9_passes, .instanceMethod yX9_passes, .selects RX9 yX9_passes yX9_passes, .methodLink RX9 177 yX0_letsPass, .methodLink RL 162 yX9_endRetreats, .instanceMethod yX9_endRetreats, .selects RX9 yX9_endRetreats yX9_endRetreats, .methodLink RX9 270 yX5_carryOutRetreats, .instanceMethod yX5_carryOutRetreats, .selects RX5 yX5_carryOutRetreats yX5_carryOutRetreats, .methodLink RL 200 yL_builds, .static yL_builds, .methodLink RL 165 yX9_power, .instanceMethod yX9_power, .selects RX9 yX9_power yX9_power, .methodLink RX9 185 yX9_requirePower, .instanceMethod yX9_requirePower, .methodLink RX9 188 yX5_countCenters, .methodLink RX9 191 yX5_countUnits, .methodLink RX9 194 yX0_countHomes, .instanceMethod yX0_countHomes, .selects RX0 yX0_countHomes yX0_countHomes, .methodLink RX9 197 yX5_countBuilds, .methodLink RL 174 yX9_powers, .instanceMethod yX9_powers, .selects RX9 yX9_powers yX9_powers, .methodLink RL 177 yX9_endBuilds]
theorem wv13 : ∀ w ∈ ww13, w ∈ osX := osX_at [1418, 1419, 1420, 1422, 1423, 1424, 1426, 1427, 1428, 1429, 1430, 1432, 1434, 1437, 1438, 1440, 1441, 1443, 1444, 1445, 1448, 1449, 1451, 1452, 1454, 1455, 1456, 1457, 1459, 1461, 1462, 1463, 1464, 1466, 1467, 1468, 1470, 1471, 1472, 1473, 1475, 1476, 1477, 1479, 1480, 1482, 1483, 1484, 1486, 1488, 1491, 1492, 1493, 1494, 1495, 1497, 1501, 1502, 1503, 1505] (by decide +kernel) (by decide +kernel)
theorem wd1418 : (.methodLink RX9 236 yX5_closeTurn : Cond) ∈ osX := wv13 _ (List.mem_of_getElem? (i := 0) rfl)
theorem wd1419 : (.instanceMethod yX5_closeTurn : Cond) ∈ osX := wv13 _ (List.mem_of_getElem? (i := 1) rfl)
theorem wd1420 : (.selects RX5 yX5_closeTurn yX5_closeTurn : Cond) ∈ osX := wv13 _ (List.mem_of_getElem? (i := 2) rfl)
theorem wd1422 : (.methodLink RX5 186 yX5_beginTurn : Cond) ∈ osX := wv13 _ (List.mem_of_getElem? (i := 3) rfl)
theorem wd1423 : (.instanceMethod yX5_beginTurn : Cond) ∈ osX := wv13 _ (List.mem_of_getElem? (i := 4) rfl)
theorem wd1424 : (.selects RX5 yX5_beginTurn yX5_beginTurn : Cond) ∈ osX := wv13 _ (List.mem_of_getElem? (i := 5) rfl)
theorem wd1426 : (.methodLink RX9 243 yJ6_bitCount_0f7a4 : Cond) ∈ osX := wv13 _ (List.mem_of_getElem? (i := 6) rfl)
theorem wd1427 : (.methodLink RL 136 yJ9_min_7cf53 : Cond) ∈ osX := wv13 _ (List.mem_of_getElem? (i := 7) rfl)
theorem wd1428 : (.methodLink RL 141 yX9_result : Cond) ∈ osX := wv13 _ (List.mem_of_getElem? (i := 8) rfl)
theorem wd1429 : (.instanceMethod yX9_result : Cond) ∈ osX := wv13 _ (List.mem_of_getElem? (i := 9) rfl)
theorem wd1430 : (.selects RX9 yX9_result yX9_result : Cond) ∈ osX := wv13 _ (List.mem_of_getElem? (i := 10) rfl)
theorem wd1432 : (.methodLink RX9 248 yX9_requireSettled : Cond) ∈ osX := wv13 _ (List.mem_of_getElem? (i := 11) rfl)
theorem wd1434 : (.instanceMethod yX9_requireSettled : Cond) ∈ osX := wv13 _ (List.mem_of_getElem? (i := 12) rfl)
theorem wd1437 : (.methodLink RL 144 yL_aside : Cond) ∈ osX := wv13 _ (List.mem_of_getElem? (i := 13) rfl)
theorem wd1438 : (.static yL_aside : Cond) ∈ osX := wv13 _ (List.mem_of_getElem? (i := 14) rfl)
theorem wd1440 : (.methodLink RL 147 yL_undone : Cond) ∈ osX := wv13 _ (List.mem_of_getElem? (i := 15) rfl)
theorem wd1441 : (.static yL_undone : Cond) ∈ osX := wv13 _ (List.mem_of_getElem? (i := 16) rfl)
theorem wd1443 : (.methodLink RL 109 yX9_undo : Cond) ∈ osX := wv13 _ (List.mem_of_getElem? (i := 17) rfl)
theorem wd1444 : (.instanceMethod yX9_undo : Cond) ∈ osX := wv13 _ (List.mem_of_getElem? (i := 18) rfl)
theorem wd1445 : (.selects RX9 yX9_undo yX9_undo : Cond) ∈ osX := wv13 _ (List.mem_of_getElem? (i := 19) rfl)
theorem wd1448 : (.methodLink RL 196 yL_retreats : Cond) ∈ osX := wv13 _ (List.mem_of_getElem? (i := 20) rfl)
theorem wd1449 : (.static yL_retreats : Cond) ∈ osX := wv13 _ (List.mem_of_getElem? (i := 21) rfl)
theorem wd1451 : (.methodLink RL 150 yL_may : Cond) ∈ osX := wv13 _ (List.mem_of_getElem? (i := 22) rfl)
theorem wd1452 : (.static yL_may : Cond) ∈ osX := wv13 _ (List.mem_of_getElem? (i := 23) rfl)
theorem wd1454 : (.classLink RL 107 "java/util/NoSuchElementException" : Cond) ∈ osX := wv13 _ (List.mem_of_getElem? (i := 24) rfl)
theorem wd1455 : (.methodLink RL 103 yX9_mayRetreat : Cond) ∈ osX := wv13 _ (List.mem_of_getElem? (i := 25) rfl)
theorem wd1456 : (.instanceMethod yX9_mayRetreat : Cond) ∈ osX := wv13 _ (List.mem_of_getElem? (i := 26) rfl)
theorem wd1457 : (.selects RX9 yX9_mayRetreat yX9_mayRetreat : Cond) ∈ osX := wv13 _ (List.mem_of_getElem? (i := 27) rfl)
theorem wd1459 : (.methodLink RX9 260 yX5_hasDislodged : Cond) ∈ osX := wv13 _ (List.mem_of_getElem? (i := 28) rfl)
theorem wd1461 : (.methodLink RX9 266 yX5_allowsRetreat : Cond) ∈ osX := wv13 _ (List.mem_of_getElem? (i := 29) rfl)
theorem wd1462 : (.methodLink RL 154 yX9_isContested : Cond) ∈ osX := wv13 _ (List.mem_of_getElem? (i := 30) rfl)
theorem wd1463 : (.instanceMethod yX9_isContested : Cond) ∈ osX := wv13 _ (List.mem_of_getElem? (i := 31) rfl)
theorem wd1464 : (.selects RX9 yX9_isContested yX9_isContested : Cond) ∈ osX := wv13 _ (List.mem_of_getElem? (i := 32) rfl)
theorem wd1466 : (.methodLink RL 158 yX9_passes : Cond) ∈ osX := wv13 _ (List.mem_of_getElem? (i := 33) rfl)
theorem wd1467 : (.instanceMethod yX9_passes : Cond) ∈ osX := wv13 _ (List.mem_of_getElem? (i := 34) rfl)
theorem wd1468 : (.selects RX9 yX9_passes yX9_passes : Cond) ∈ osX := wv13 _ (List.mem_of_getElem? (i := 35) rfl)
theorem wd1470 : (.methodLink RX9 177 yX0_letsPass : Cond) ∈ osX := wv13 _ (List.mem_of_getElem? (i := 36) rfl)
theorem wd1471 : (.methodLink RL 162 yX9_endRetreats : Cond) ∈ osX := wv13 _ (List.mem_of_getElem? (i := 37) rfl)
theorem wd1472 : (.instanceMethod yX9_endRetreats : Cond) ∈ osX := wv13 _ (List.mem_of_getElem? (i := 38) rfl)
theorem wd1473 : (.selects RX9 yX9_endRetreats yX9_endRetreats : Cond) ∈ osX := wv13 _ (List.mem_of_getElem? (i := 39) rfl)
theorem wd1475 : (.methodLink RX9 270 yX5_carryOutRetreats : Cond) ∈ osX := wv13 _ (List.mem_of_getElem? (i := 40) rfl)
theorem wd1476 : (.instanceMethod yX5_carryOutRetreats : Cond) ∈ osX := wv13 _ (List.mem_of_getElem? (i := 41) rfl)
theorem wd1477 : (.selects RX5 yX5_carryOutRetreats yX5_carryOutRetreats : Cond) ∈ osX := wv13 _ (List.mem_of_getElem? (i := 42) rfl)
theorem wd1479 : (.methodLink RL 200 yL_builds : Cond) ∈ osX := wv13 _ (List.mem_of_getElem? (i := 43) rfl)
theorem wd1480 : (.static yL_builds : Cond) ∈ osX := wv13 _ (List.mem_of_getElem? (i := 44) rfl)
theorem wd1482 : (.methodLink RL 165 yX9_power : Cond) ∈ osX := wv13 _ (List.mem_of_getElem? (i := 45) rfl)
theorem wd1483 : (.instanceMethod yX9_power : Cond) ∈ osX := wv13 _ (List.mem_of_getElem? (i := 46) rfl)
theorem wd1484 : (.selects RX9 yX9_power yX9_power : Cond) ∈ osX := wv13 _ (List.mem_of_getElem? (i := 47) rfl)
theorem wd1486 : (.methodLink RX9 185 yX9_requirePower : Cond) ∈ osX := wv13 _ (List.mem_of_getElem? (i := 48) rfl)
theorem wd1488 : (.instanceMethod yX9_requirePower : Cond) ∈ osX := wv13 _ (List.mem_of_getElem? (i := 49) rfl)
theorem wd1491 : (.methodLink RX9 188 yX5_countCenters : Cond) ∈ osX := wv13 _ (List.mem_of_getElem? (i := 50) rfl)
theorem wd1492 : (.methodLink RX9 191 yX5_countUnits : Cond) ∈ osX := wv13 _ (List.mem_of_getElem? (i := 51) rfl)
theorem wd1493 : (.methodLink RX9 194 yX0_countHomes : Cond) ∈ osX := wv13 _ (List.mem_of_getElem? (i := 52) rfl)
theorem wd1494 : (.instanceMethod yX0_countHomes : Cond) ∈ osX := wv13 _ (List.mem_of_getElem? (i := 53) rfl)
theorem wd1495 : (.selects RX0 yX0_countHomes yX0_countHomes : Cond) ∈ osX := wv13 _ (List.mem_of_getElem? (i := 54) rfl)
theorem wd1497 : (.methodLink RX9 197 yX5_countBuilds : Cond) ∈ osX := wv13 _ (List.mem_of_getElem? (i := 55) rfl)
theorem wd1501 : (.methodLink RL 174 yX9_powers : Cond) ∈ osX := wv13 _ (List.mem_of_getElem? (i := 56) rfl)
theorem wd1502 : (.instanceMethod yX9_powers : Cond) ∈ osX := wv13 _ (List.mem_of_getElem? (i := 57) rfl)
theorem wd1503 : (.selects RX9 yX9_powers yX9_powers : Cond) ∈ osX := wv13 _ (List.mem_of_getElem? (i := 58) rfl)
theorem wd1505 : (.methodLink RL 177 yX9_endBuilds : Cond) ∈ osX := wv13 _ (List.mem_of_getElem? (i := 59) rfl)
def ww14 : List Cond := [.instanceMethod yX9_endBuilds, .selects RX9 yX9_endBuilds yX9_endBuilds, .methodLink RX9 274 yX5_disbandSurplus, .instanceMethod yX5_disbandSurplus, .selects RX5 yX5_disbandSurplus yX5_disbandSurplus, .methodLink RX5 195 yX5_needsRemoval, .methodLink RX9 277 yX5_beginTurn, .selects RX3 yX6_fail yX6_fail, .selects RX7 yX6_fail yX6_fail, .selects RX3 yX6_takeName yX6_takeName, .selects RX7 yX6_takeName yX6_takeName, .sameMethod "java/lang/AbstractStringBuilder" "java/lang/AbstractStringBuilder" "append" "(Ljava/lang/String;)Ljava/lang/AbstractStringBuilder;", .sameMethod "java/lang/AbstractStringBuilder" "java/lang/AbstractStringBuilder" "append" "(C)Ljava/lang/AbstractStringBuilder;", .selects RX3 yX6_take yX6_take, .selects RX7 yX6_take yX6_take, .fieldLinkNest RX6 53 "OrderSettler$Word" "packed" "J" "OrderSettler", .fieldLink RX8 84 "OrderSettler$Word" "packed" "J"]
theorem wv14 : ∀ w ∈ ww14, w ∈ osX := osX_at [1506, 1507, 1509, 1510, 1511, 1513, 1514, 1518, 1519, 1521, 1522, 1523, 1530, 1532, 1533, 1549, 1550] (by decide +kernel) (by decide +kernel)
theorem wd1506 : (.instanceMethod yX9_endBuilds : Cond) ∈ osX := wv14 _ (List.mem_of_getElem? (i := 0) rfl)
theorem wd1507 : (.selects RX9 yX9_endBuilds yX9_endBuilds : Cond) ∈ osX := wv14 _ (List.mem_of_getElem? (i := 1) rfl)
theorem wd1509 : (.methodLink RX9 274 yX5_disbandSurplus : Cond) ∈ osX := wv14 _ (List.mem_of_getElem? (i := 2) rfl)
theorem wd1510 : (.instanceMethod yX5_disbandSurplus : Cond) ∈ osX := wv14 _ (List.mem_of_getElem? (i := 3) rfl)
theorem wd1511 : (.selects RX5 yX5_disbandSurplus yX5_disbandSurplus : Cond) ∈ osX := wv14 _ (List.mem_of_getElem? (i := 4) rfl)
theorem wd1513 : (.methodLink RX5 195 yX5_needsRemoval : Cond) ∈ osX := wv14 _ (List.mem_of_getElem? (i := 5) rfl)
theorem wd1514 : (.methodLink RX9 277 yX5_beginTurn : Cond) ∈ osX := wv14 _ (List.mem_of_getElem? (i := 6) rfl)
theorem wd1518 : (.selects RX3 yX6_fail yX6_fail : Cond) ∈ osX := wv14 _ (List.mem_of_getElem? (i := 7) rfl)
theorem wd1519 : (.selects RX7 yX6_fail yX6_fail : Cond) ∈ osX := wv14 _ (List.mem_of_getElem? (i := 8) rfl)
theorem wd1521 : (.selects RX3 yX6_takeName yX6_takeName : Cond) ∈ osX := wv14 _ (List.mem_of_getElem? (i := 9) rfl)
theorem wd1522 : (.selects RX7 yX6_takeName yX6_takeName : Cond) ∈ osX := wv14 _ (List.mem_of_getElem? (i := 10) rfl)
theorem wd1523 : (.sameMethod "java/lang/AbstractStringBuilder" "java/lang/AbstractStringBuilder" "append" "(Ljava/lang/String;)Ljava/lang/AbstractStringBuilder;" : Cond) ∈ osX := wv14 _ (List.mem_of_getElem? (i := 11) rfl)
theorem wd1530 : (.sameMethod "java/lang/AbstractStringBuilder" "java/lang/AbstractStringBuilder" "append" "(C)Ljava/lang/AbstractStringBuilder;" : Cond) ∈ osX := wv14 _ (List.mem_of_getElem? (i := 12) rfl)
theorem wd1532 : (.selects RX3 yX6_take yX6_take : Cond) ∈ osX := wv14 _ (List.mem_of_getElem? (i := 13) rfl)
theorem wd1533 : (.selects RX7 yX6_take yX6_take : Cond) ∈ osX := wv14 _ (List.mem_of_getElem? (i := 14) rfl)
theorem wd1549 : (.fieldLinkNest RX6 53 "OrderSettler$Word" "packed" "J" "OrderSettler" : Cond) ∈ osX := wv14 _ (List.mem_of_getElem? (i := 15) rfl)
theorem wd1550 : (.fieldLink RX8 84 "OrderSettler$Word" "packed" "J" : Cond) ∈ osX := wv14 _ (List.mem_of_getElem? (i := 16) rfl)
theorem plX0 : plainName RX0 = true := by decide +kernel
theorem plX1 : plainName RX1 = true := by decide +kernel
theorem plX2 : plainName RX2 = true := by decide +kernel
theorem plX3 : plainName RX3 = true := by decide +kernel
theorem plX4 : plainName RX4 = true := by decide +kernel
theorem plX5 : plainName RX5 = true := by decide +kernel
theorem plX6 : plainName RX6 = true := by decide +kernel
theorem plX7 : plainName RX7 = true := by decide +kernel
theorem plX8 : plainName RX8 = true := by decide +kernel
theorem plX9 : plainName RX9 = true := by decide +kernel
theorem plJ0 : plainName RJ0 = true := by decide +kernel
theorem plJ1 : plainName RJ1 = true := by decide +kernel
theorem plJ3 : plainName RJ3 = true := by decide +kernel
theorem plJ4 : plainName RJ4 = true := by decide +kernel
theorem plJ5 : plainName RJ5 = true := by decide +kernel
theorem plJ6 : plainName RJ6 = true := by decide +kernel
theorem plJ7 : plainName RJ7 = true := by decide +kernel
theorem plJ8 : plainName RJ8 = true := by decide +kernel
theorem plL : plainName RL = true := by decide +kernel
theorem wmax : Cond.code Lib.Math.max.name Lib.Math.max.code 2 (some .int) ∈ osX := wd891
theorem wmin : Cond.code Lib.Math.min.name Lib.Math.min.code 2 (some .int) ∈ osX := wd656
theorem fJ5_15 : osFd RJ5 15 [9] 0 (.array .byte) false := ⟨"java/lang/AbstractStringBuilder", "value", "[B", wd851, rfl, List.forall_mem_cons.mpr ⟨⟨RJ4, TJ4, 4, tyJ4, rfl, osinJ4, nmJ4, tyJ4_ok, (Nat.le_of_ble_eq_true rfl), rfl, rfl, rfl, Or.inl rfl⟩, fun _ h => absurd h List.not_mem_nil⟩⟩
theorem fJ5_22 : osFd RJ5 22 [9] 1 .byte false := ⟨"java/lang/AbstractStringBuilder", "coder", "B", wd852, rfl, List.forall_mem_cons.mpr ⟨⟨RJ4, TJ4, 4, tyJ4, rfl, osinJ4, nmJ4, tyJ4_ok, (Nat.le_of_ble_eq_true rfl), rfl, rfl, rfl, Or.inl rfl⟩, fun _ h => absurd h List.not_mem_nil⟩⟩
theorem fJ5_79 : osFd RJ5 79 [9] 3 .int false := ⟨"java/lang/AbstractStringBuilder", "count", "I", wd854, rfl, List.forall_mem_cons.mpr ⟨⟨RJ4, TJ4, 4, tyJ4, rfl, osinJ4, nmJ4, tyJ4_ok, (Nat.le_of_ble_eq_true rfl), rfl, rfl, rfl, Or.inl rfl⟩, fun _ h => absurd h List.not_mem_nil⟩⟩
theorem fJ0_15 : osFd RJ0 15 [8] 1 .byte true := ⟨"java/lang/String", "coder", "B", wd1033, rfl, List.forall_mem_cons.mpr ⟨⟨RJ0, TJ0, 4, tyJ0, rfl, osinJ0, nmJ0, tyJ0_ok, (Nat.le_of_ble_eq_true rfl), rfl, rfl, rfl, Or.inl rfl⟩, fun _ h => absurd h List.not_mem_nil⟩⟩
theorem mdJ5_init_d00df : osMd yJ5_init_d00df cJ5_init_d00df 2 none 1 := ⟨wd841, wd63, ⟨by decide +kernel, by decide +kernel⟩, by decide +kernel⟩
theorem mdJ5_length_8abf5 : osMd yJ5_length_8abf5 cJ5_length_8abf5 1 (some .int) 0 := ⟨wd1011, wd63, ⟨by decide +kernel, by decide +kernel⟩, by decide +kernel⟩
theorem mdJ0_checkIndex_df160 : osMd yJ0_checkIndex_df160 cJ0_checkIndex_df160 2 none 2 := ⟨wd518, wd65, ⟨by decide +kernel, by decide +kernel⟩, by decide +kernel⟩
theorem mdJ7_checkLength_df160 : osMd yJ7_checkLength_df160 cJ7_checkLength_df160 2 none 2 := ⟨wd1021, wd69, ⟨by decide +kernel, by decide +kernel⟩, by decide +kernel⟩
theorem mdJ8_newLength_cabcc : osMd yJ8_newLength_cabcc cJ8_newLength_cabcc 4 (some .int) 3 := ⟨wd888, wd67, ⟨by decide +kernel, by decide +kernel⟩, by decide +kernel⟩
theorem mdJ0_coder_7d493 : osMd yJ0_coder_7d493 cJ0_coder_7d493 1 (some .byte) 0 := ⟨wd502, wd65, ⟨by decide +kernel, by decide +kernel⟩, by decide +kernel⟩
theorem fJ0_9 : osFd RJ0 9 [8] 0 (.array .byte) true := ⟨"java/lang/String", "value", "[B", wd1032, rfl, List.forall_mem_cons.mpr ⟨⟨RJ0, TJ0, 4, tyJ0, rfl, osinJ0, nmJ0, tyJ0_ok, (Nat.le_of_ble_eq_true rfl), rfl, rfl, rfl, Or.inl rfl⟩, fun _ h => absurd h List.not_mem_nil⟩⟩
theorem mdJ0_isLatin1_aae02 : osMd yJ0_isLatin1_aae02 cJ0_isLatin1_aae02 1 (some .boolean) 0 := ⟨wd512, wd65, ⟨by decide +kernel, by decide +kernel⟩, by decide +kernel⟩
theorem mdJ1_charAt_3b067 : osMd yJ1_charAt_3b067 cJ1_charAt_3b067 2 (some .char) 2 := ⟨wd515, wd72, ⟨by decide +kernel, by decide +kernel⟩, by decide +kernel⟩
theorem mdJ7_copyOfRangeByte_39247 : osMd yJ7_copyOfRangeByte_39247 cJ7_copyOfRangeByte_39247 5 (some (.array .byte)) 3 := ⟨wd1018, wd69, ⟨by decide +kernel, by decide +kernel⟩, by decide +kernel⟩
theorem mdJ5_newCapacity_0f7a4 : osMd yJ5_newCapacity_0f7a4 cJ5_newCapacity_0f7a4 6 (some .int) 1 := ⟨wd885, wd63, ⟨by decide +kernel, by decide +kernel⟩, by decide +kernel⟩
theorem sl9_J5_newCapacity_0f7a4_J5_newCapacity_0f7a4 : osSl [9] yJ5_newCapacity_0f7a4 yJ5_newCapacity_0f7a4 := List.forall_mem_cons.mpr ⟨⟨_, rfl, wd3⟩, fun _ h => absurd h List.not_mem_nil⟩
theorem mdJ7_copyOf_9075b : osMd yJ7_copyOf_9075b cJ7_copyOf_9075b 3 (some (.array .byte)) 2 := ⟨wd899, wd69, ⟨by decide +kernel, by decide +kernel⟩, by decide +kernel⟩
theorem mdJ5_ensureCapacityInternal_d00df : osMd yJ5_ensureCapacityInternal_d00df cJ5_ensureCapacityInternal_d00df 3 none 1 := ⟨wd881, wd63, ⟨by decide +kernel, by decide +kernel⟩, by decide +kernel⟩
theorem sl9_J5_ensureCapacityInternal_d00df_J5_ensureCapacityInternal_d00df : osSl [9] yJ5_ensureCapacityInternal_d00df yJ5_ensureCapacityInternal_d00df := List.forall_mem_cons.mpr ⟨⟨_, rfl, wd2⟩, fun _ h => absurd h List.not_mem_nil⟩
theorem mdJ5_isLatin1_aae02 : osMd yJ5_isLatin1_aae02 cJ5_isLatin1_aae02 1 (some .boolean) 0 := ⟨wd915, wd63, ⟨by decide +kernel, by decide +kernel⟩, by decide +kernel⟩
theorem sl9_J5_isLatin1_aae02_J5_isLatin1_aae02 : osSl [9] yJ5_isLatin1_aae02 yJ5_isLatin1_aae02 := List.forall_mem_cons.mpr ⟨⟨_, rfl, wd914⟩, fun _ h => absurd h List.not_mem_nil⟩
theorem mdJ1_canEncode_fc78d : osMd yJ1_canEncode_fc78d cJ1_canEncode_fc78d 1 (some .boolean) 1 := ⟨wd975, wd72, ⟨by decide +kernel, by decide +kernel⟩, by decide +kernel⟩
theorem mdJ5_inflateIfNeededFor_a7421 : osMd yJ5_inflateIfNeededFor_a7421 cJ5_inflateIfNeededFor_a7421 2 none 1 := ⟨wd939, wd63, ⟨by decide +kernel, by decide +kernel⟩, by decide +kernel⟩
theorem sl9_J5_inflateIfNeededFor_a7421_J5_inflateIfNeededFor_a7421 : osSl [9] yJ5_inflateIfNeededFor_a7421 yJ5_inflateIfNeededFor_a7421 := List.forall_mem_cons.mpr ⟨⟨_, rfl, wd5⟩, fun _ h => absurd h List.not_mem_nil⟩
theorem mdJ0_getBytes_840e7 : osMd yJ0_getBytes_840e7 cJ0_getBytes_840e7 4 none 3 := ⟨wd963, wd65, ⟨by decide +kernel, by decide +kernel⟩, by decide +kernel⟩
theorem mdJ5_getValue_6d5f1 : osMd yJ5_getValue_6d5f1 cJ5_getValue_6d5f1 1 (some (.array .byte)) 0 := ⟨wd1003, wd63, ⟨by decide +kernel, by decide +kernel⟩, by decide +kernel⟩
theorem sl9_J5_getValue_6d5f1_J5_getValue_6d5f1 : osSl [9] yJ5_getValue_6d5f1 yJ5_getValue_6d5f1 := List.forall_mem_cons.mpr ⟨⟨_, rfl, wd1002⟩, fun _ h => absurd h List.not_mem_nil⟩
theorem mdJ4_length_8abf5 : osMd yJ4_length_8abf5 cJ4_length_8abf5 1 (some .int) 0 := ⟨wd1009, wd64, ⟨by decide +kernel, by decide +kernel⟩, by decide +kernel⟩
theorem sl9_O : osSl [9] yJ5_length_8abf5 yJ4_length_8abf5 := List.forall_mem_cons.mpr ⟨⟨_, rfl, wd1007⟩, fun _ h => absurd h List.not_mem_nil⟩
theorem mdJ7_copyOfRange_39247 : osMd yJ7_copyOfRange_39247 cJ7_copyOfRange_39247 3 (some (.array .byte)) 3 := ⟨wd1015, wd69, ⟨by decide +kernel, by decide +kernel⟩, by decide +kernel⟩
theorem fJ0_1048 : osFd RJ0 1048 [9] 2 .boolean false := ⟨"java/lang/AbstractStringBuilder", "maybeLatin1", "Z", wd853, rfl, List.forall_mem_cons.mpr ⟨⟨RJ4, TJ4, 4, tyJ4, rfl, osinJ4, nmJ4, tyJ4_ok, (Nat.le_of_ble_eq_true rfl), rfl, rfl, rfl, Or.inl rfl⟩, fun _ h => absurd h List.not_mem_nil⟩⟩
theorem mdJ5_append_3fe6f : osMd yJ5_append_3fe6f cJ5_append_3fe6f 2 (some (.object "java/lang/AbstractStringBuilder")) 1 := ⟨wd972, wd63, ⟨by decide +kernel, by decide +kernel⟩, by decide +kernel⟩
theorem mdJ0_length_8abf5 : osMd yJ0_length_8abf5 cJ0_length_8abf5 1 (some .int) 0 := ⟨wd498, wd65, ⟨by decide +kernel, by decide +kernel⟩, by decide +kernel⟩
theorem mdJ5_putStringAt_47b60 : osMd yJ5_putStringAt_47b60 cJ5_putStringAt_47b60 3 none 2 := ⟨wd935, wd63, ⟨by decide +kernel, by decide +kernel⟩, by decide +kernel⟩
theorem sl9_J5_putStringAt_47b60_J5_putStringAt_47b60 : osSl [9] yJ5_putStringAt_47b60 yJ5_putStringAt_47b60 := List.forall_mem_cons.mpr ⟨⟨_, rfl, wd4⟩, fun _ h => absurd h List.not_mem_nil⟩
theorem mdJ0_init_db425 : osMd yJ0_init_db425 cJ0_init_db425 5 none 2 := ⟨wd997, wd65, ⟨by decide +kernel, by decide +kernel⟩, by decide +kernel⟩
theorem mdJ5_append_cf1ce : osMd yJ5_append_cf1ce cJ5_append_cf1ce 3 (some (.object "java/lang/AbstractStringBuilder")) 1 := ⟨wd873, wd63, ⟨by decide +kernel, by decide +kernel⟩, by decide +kernel⟩
theorem dfJ0 : ∀ j, j < 4 → defaultValue (tyJ0 j) = vp_V [.null, .int 0, .int 0, .int 0] j := by decide +kernel
theorem mdJ0_init_81219 : osMd yJ0_init_81219 cJ0_init_81219 2 none 1 := ⟨wd994, wd65, ⟨by decide +kernel, by decide +kernel⟩, by decide +kernel⟩
theorem fX0_9 : osFd RX0 9 [0] 0 .int false := ⟨"OrderSettler$Board", "areaCount", "I", wd291, rfl, List.forall_mem_cons.mpr ⟨⟨RX0, TX0, 10, tyX0, rfl, osinX0, nmX0, tyX0_ok, (Nat.le_of_ble_eq_true rfl), rfl, rfl, rfl, Or.inl rfl⟩, fun _ h => absurd h List.not_mem_nil⟩⟩
theorem fX0_15 : osFd RX0 15 [0] 1 .int false := ⟨"OrderSettler$Board", "powerCount", "I", wd294, rfl, List.forall_mem_cons.mpr ⟨⟨RX0, TX0, 10, tyX0, rfl, osinX0, nmX0, tyX0_ok, (Nat.le_of_ble_eq_true rfl), rfl, rfl, rfl, Or.inl rfl⟩, fun _ h => absurd h List.not_mem_nil⟩⟩
theorem fX0_18 : osFd RX0 18 [0] 2 .int false := ⟨"OrderSettler$Board", "coasts", "I", wd298, rfl, List.forall_mem_cons.mpr ⟨⟨RX0, TX0, 10, tyX0, rfl, osinX0, nmX0, tyX0_ok, (Nat.le_of_ble_eq_true rfl), rfl, rfl, rfl, Or.inl rfl⟩, fun _ h => absurd h List.not_mem_nil⟩⟩
theorem fX0_21 : osFd RX0 21 [0] 3 .int false := ⟨"OrderSettler$Board", "seas", "I", wd300, rfl, List.forall_mem_cons.mpr ⟨⟨RX0, TX0, 10, tyX0, rfl, osinX0, nmX0, tyX0_ok, (Nat.le_of_ble_eq_true rfl), rfl, rfl, rfl, Or.inl rfl⟩, fun _ h => absurd h List.not_mem_nil⟩⟩
theorem fX0_24 : osFd RX0 24 [0] 4 .int false := ⟨"OrderSettler$Board", "centers", "I", wd302, rfl, List.forall_mem_cons.mpr ⟨⟨RX0, TX0, 10, tyX0, rfl, osinX0, nmX0, tyX0_ok, (Nat.le_of_ble_eq_true rfl), rfl, rfl, rfl, Or.inl rfl⟩, fun _ h => absurd h List.not_mem_nil⟩⟩
theorem fX0_31 : osFd RX0 31 [0] 6 (.array .int) true := ⟨"OrderSettler$Board", "home", "[I", wd307, rfl, List.forall_mem_cons.mpr ⟨⟨RX0, TX0, 10, tyX0, rfl, osinX0, nmX0, tyX0_ok, (Nat.le_of_ble_eq_true rfl), rfl, rfl, rfl, Or.inl rfl⟩, fun _ h => absurd h List.not_mem_nil⟩⟩
theorem fX0_34 : osFd RX0 34 [0] 7 (.array .int) true := ⟨"OrderSettler$Board", "armyBorders", "[I", wd312, rfl, List.forall_mem_cons.mpr ⟨⟨RX0, TX0, 10, tyX0, rfl, osinX0, nmX0, tyX0_ok, (Nat.le_of_ble_eq_true rfl), rfl, rfl, rfl, Or.inl rfl⟩, fun _ h => absurd h List.not_mem_nil⟩⟩
theorem fX0_37 : osFd RX0 37 [0] 8 (.array .int) true := ⟨"OrderSettler$Board", "fleetBorders", "[I", wd313, rfl, List.forall_mem_cons.mpr ⟨⟨RX0, TX0, 10, tyX0, rfl, osinX0, nmX0, tyX0_ok, (Nat.le_of_ble_eq_true rfl), rfl, rfl, rfl, Or.inl rfl⟩, fun _ h => absurd h List.not_mem_nil⟩⟩
theorem fX0_27 : osFd RX0 27 [0] 5 (.array .int) true := ⟨"OrderSettler$Board", "areaName", "[I", wd306, rfl, List.forall_mem_cons.mpr ⟨⟨RX0, TX0, 10, tyX0, rfl, osinX0, nmX0, tyX0_ok, (Nat.le_of_ble_eq_true rfl), rfl, rfl, rfl, Or.inl rfl⟩, fun _ h => absurd h List.not_mem_nil⟩⟩
theorem fX0_40 : osFd RX0 40 [0] 9 (.array .int) true := ⟨"OrderSettler$Board", "powerName", "[I", wd314, rfl, List.forall_mem_cons.mpr ⟨⟨RX0, TX0, 10, tyX0, rfl, osinX0, nmX0, tyX0_ok, (Nat.le_of_ble_eq_true rfl), rfl, rfl, rfl, Or.inl rfl⟩, fun _ h => absurd h List.not_mem_nil⟩⟩
theorem mdX0_isArea : osMd yX0_isArea cX0_isArea 2 (some .boolean) 1 := ⟨wd758, wd61, ⟨by decide +kernel, by decide +kernel⟩, by decide +kernel⟩
theorem sl0_X0_isArea_X0_isArea : osSl [0] yX0_isArea yX0_isArea := List.forall_mem_cons.mpr ⟨⟨_, rfl, wd757⟩, fun _ h => absurd h List.not_mem_nil⟩
theorem mdX0_letsPass : osMd yX0_letsPass cX0_letsPass 5 (some .boolean) 3 := ⟨wd739, wd61, ⟨by decide +kernel, by decide +kernel⟩, by decide +kernel⟩
theorem sl0_X0_letsPass_X0_letsPass : osSl [0] yX0_letsPass yX0_letsPass := List.forall_mem_cons.mpr ⟨⟨_, rfl, wd738⟩, fun _ h => absurd h List.not_mem_nil⟩
theorem fX2_9 : osFd RX2 9 [2] 0 .int false := ⟨"OrderSettler$Links", "units", "I", wd183, rfl, List.forall_mem_cons.mpr ⟨⟨RX2, TX2, 16, tyX2, rfl, osinX2, nmX2, tyX2_ok, (Nat.le_of_ble_eq_true rfl), rfl, rfl, rfl, Or.inl rfl⟩, fun _ h => absurd h List.not_mem_nil⟩⟩
theorem fX2_15 : osFd RX2 15 [2] 1 .int false := ⟨"OrderSettler$Links", "moves", "I", wd185, rfl, List.forall_mem_cons.mpr ⟨⟨RX2, TX2, 16, tyX2, rfl, osinX2, nmX2, tyX2_ok, (Nat.le_of_ble_eq_true rfl), rfl, rfl, rfl, Or.inl rfl⟩, fun _ h => absurd h List.not_mem_nil⟩⟩
theorem fX2_18 : osFd RX2 18 [2] 2 .int false := ⟨"OrderSettler$Links", "direct", "I", wd187, rfl, List.forall_mem_cons.mpr ⟨⟨RX2, TX2, 16, tyX2, rfl, osinX2, nmX2, tyX2_ok, (Nat.le_of_ble_eq_true rfl), rfl, rfl, rfl, Or.inl rfl⟩, fun _ h => absurd h List.not_mem_nil⟩⟩
theorem fX2_21 : osFd RX2 21 [2] 3 .int false := ⟨"OrderSettler$Links", "opposed", "I", wd189, rfl, List.forall_mem_cons.mpr ⟨⟨RX2, TX2, 16, tyX2, rfl, osinX2, nmX2, tyX2_ok, (Nat.le_of_ble_eq_true rfl), rfl, rfl, rfl, Or.inl rfl⟩, fun _ h => absurd h List.not_mem_nil⟩⟩
theorem fX2_24 : osFd RX2 24 [2] 4 .int false := ⟨"OrderSettler$Links", "supporting", "I", wd191, rfl, List.forall_mem_cons.mpr ⟨⟨RX2, TX2, 16, tyX2, rfl, osinX2, nmX2, tyX2_ok, (Nat.le_of_ble_eq_true rfl), rfl, rfl, rfl, Or.inl rfl⟩, fun _ h => absurd h List.not_mem_nil⟩⟩
theorem fX2_27 : osFd RX2 27 [2] 5 .int false := ⟨"OrderSettler$Links", "supports", "I", wd193, rfl, List.forall_mem_cons.mpr ⟨⟨RX2, TX2, 16, tyX2, rfl, osinX2, nmX2, tyX2_ok, (Nat.le_of_ble_eq_true rfl), rfl, rfl, rfl, Or.inl rfl⟩, fun _ h => absurd h List.not_mem_nil⟩⟩
theorem fX2_30 : osFd RX2 30 [2] 6 (.array .int) true := ⟨"OrderSettler$Links", "goal", "[I", wd195, rfl, List.forall_mem_cons.mpr ⟨⟨RX2, TX2, 16, tyX2, rfl, osinX2, nmX2, tyX2_ok, (Nat.le_of_ble_eq_true rfl), rfl, rfl, rfl, Or.inl rfl⟩, fun _ h => absurd h List.not_mem_nil⟩⟩
theorem fX2_34 : osFd RX2 34 [2] 7 (.array .int) true := ⟨"OrderSettler$Links", "rivals", "[I", wd197, rfl, List.forall_mem_cons.mpr ⟨⟨RX2, TX2, 16, tyX2, rfl, osinX2, nmX2, tyX2_ok, (Nat.le_of_ble_eq_true rfl), rfl, rfl, rfl, Or.inl rfl⟩, fun _ h => absurd h List.not_mem_nil⟩⟩
theorem fX2_37 : osFd RX2 37 [2] 8 (.array .int) true := ⟨"OrderSettler$Links", "backers", "[I", wd199, rfl, List.forall_mem_cons.mpr ⟨⟨RX2, TX2, 16, tyX2, rfl, osinX2, nmX2, tyX2_ok, (Nat.le_of_ble_eq_true rfl), rfl, rfl, rfl, Or.inl rfl⟩, fun _ h => absurd h List.not_mem_nil⟩⟩
theorem fX2_40 : osFd RX2 40 [2] 9 (.array .int) true := ⟨"OrderSettler$Links", "hosts", "[I", wd201, rfl, List.forall_mem_cons.mpr ⟨⟨RX2, TX2, 16, tyX2, rfl, osinX2, nmX2, tyX2_ok, (Nat.le_of_ble_eq_true rfl), rfl, rfl, rfl, Or.inl rfl⟩, fun _ h => absurd h List.not_mem_nil⟩⟩
theorem fX2_43 : osFd RX2 43 [2] 10 (.array .int) true := ⟨"OrderSettler$Links", "hostBackers", "[I", wd203, rfl, List.forall_mem_cons.mpr ⟨⟨RX2, TX2, 16, tyX2, rfl, osinX2, nmX2, tyX2_ok, (Nat.le_of_ble_eq_true rfl), rfl, rfl, rfl, Or.inl rfl⟩, fun _ h => absurd h List.not_mem_nil⟩⟩
theorem fX2_46 : osFd RX2 46 [2] 11 (.array .int) true := ⟨"OrderSettler$Links", "cutters", "[I", wd205, rfl, List.forall_mem_cons.mpr ⟨⟨RX2, TX2, 16, tyX2, rfl, osinX2, nmX2, tyX2_ok, (Nat.le_of_ble_eq_true rfl), rfl, rfl, rfl, Or.inl rfl⟩, fun _ h => absurd h List.not_mem_nil⟩⟩
theorem fX2_49 : osFd RX2 49 [2] 12 (.array .int) true := ⟨"OrderSettler$Links", "carriers", "[I", wd207, rfl, List.forall_mem_cons.mpr ⟨⟨RX2, TX2, 16, tyX2, rfl, osinX2, nmX2, tyX2_ok, (Nat.le_of_ble_eq_true rfl), rfl, rfl, rfl, Or.inl rfl⟩, fun _ h => absurd h List.not_mem_nil⟩⟩
theorem fX2_52 : osFd RX2 52 [2] 13 (.array .int) true := ⟨"OrderSettler$Links", "boarding", "[I", wd209, rfl, List.forall_mem_cons.mpr ⟨⟨RX2, TX2, 16, tyX2, rfl, osinX2, nmX2, tyX2_ok, (Nat.le_of_ble_eq_true rfl), rfl, rfl, rfl, Or.inl rfl⟩, fun _ h => absurd h List.not_mem_nil⟩⟩
theorem fX2_55 : osFd RX2 55 [2] 14 (.array .int) true := ⟨"OrderSettler$Links", "landing", "[I", wd211, rfl, List.forall_mem_cons.mpr ⟨⟨RX2, TX2, 16, tyX2, rfl, osinX2, nmX2, tyX2_ok, (Nat.le_of_ble_eq_true rfl), rfl, rfl, rfl, Or.inl rfl⟩, fun _ h => absurd h List.not_mem_nil⟩⟩
theorem fX2_58 : osFd RX2 58 [2] 15 (.array .int) true := ⟨"OrderSettler$Links", "waters", "[I", wd213, rfl, List.forall_mem_cons.mpr ⟨⟨RX2, TX2, 16, tyX2, rfl, osinX2, nmX2, tyX2_ok, (Nat.le_of_ble_eq_true rfl), rfl, rfl, rfl, Or.inl rfl⟩, fun _ h => absurd h List.not_mem_nil⟩⟩
theorem fX4_9 : osFd RX4 9 [4] 0 (.array .byte) true := ⟨"OrderSettler$Output", "bytes", "[B", wd96, rfl, List.forall_mem_cons.mpr ⟨⟨RX4, TX4, 2, tyX4, rfl, osinX4, nmX4, tyX4_ok, (Nat.le_of_ble_eq_true rfl), rfl, rfl, rfl, Or.inl rfl⟩, fun _ h => absurd h List.not_mem_nil⟩⟩
theorem fX4_15 : osFd RX4 15 [4] 1 .int false := ⟨"OrderSettler$Output", "length", "I", wd97, rfl, List.forall_mem_cons.mpr ⟨⟨RX4, TX4, 2, tyX4, rfl, osinX4, nmX4, tyX4_ok, (Nat.le_of_ble_eq_true rfl), rfl, rfl, rfl, Or.inl rfl⟩, fun _ h => absurd h List.not_mem_nil⟩⟩
theorem fX5_32 : osFd RX5 32 [5] 6 (.array .int) true := ⟨"OrderSettler$State", "unitPower", "[I", wd373, rfl, List.forall_mem_cons.mpr ⟨⟨RX5, TX5, 16, tyX5, rfl, osinX5, nmX5, tyX5_ok, (Nat.le_of_ble_eq_true rfl), rfl, rfl, rfl, Or.inl rfl⟩, fun _ h => absurd h List.not_mem_nil⟩⟩
theorem fX5_35 : osFd RX5 35 [5] 7 (.array .int) true := ⟨"OrderSettler$State", "unitKind", "[I", wd377, rfl, List.forall_mem_cons.mpr ⟨⟨RX5, TX5, 16, tyX5, rfl, osinX5, nmX5, tyX5_ok, (Nat.le_of_ble_eq_true rfl), rfl, rfl, rfl, Or.inl rfl⟩, fun _ h => absurd h List.not_mem_nil⟩⟩
theorem fX5_38 : osFd RX5 38 [5] 8 (.array .int) true := ⟨"OrderSettler$State", "outPower", "[I", wd379, rfl, List.forall_mem_cons.mpr ⟨⟨RX5, TX5, 16, tyX5, rfl, osinX5, nmX5, tyX5_ok, (Nat.le_of_ble_eq_true rfl), rfl, rfl, rfl, Or.inl rfl⟩, fun _ h => absurd h List.not_mem_nil⟩⟩
theorem fX5_41 : osFd RX5 41 [5] 9 (.array .int) true := ⟨"OrderSettler$State", "outKind", "[I", wd381, rfl, List.forall_mem_cons.mpr ⟨⟨RX5, TX5, 16, tyX5, rfl, osinX5, nmX5, tyX5_ok, (Nat.le_of_ble_eq_true rfl), rfl, rfl, rfl, Or.inl rfl⟩, fun _ h => absurd h List.not_mem_nil⟩⟩
theorem fX5_44 : osFd RX5 44 [5] 10 (.array .int) true := ⟨"OrderSettler$State", "attackedFrom", "[I", wd383, rfl, List.forall_mem_cons.mpr ⟨⟨RX5, TX5, 16, tyX5, rfl, osinX5, nmX5, tyX5_ok, (Nat.le_of_ble_eq_true rfl), rfl, rfl, rfl, Or.inl rfl⟩, fun _ h => absurd h List.not_mem_nil⟩⟩
theorem fX5_47 : osFd RX5 47 [5] 11 (.array .int) true := ⟨"OrderSettler$State", "retreatGoal", "[I", wd384, rfl, List.forall_mem_cons.mpr ⟨⟨RX5, TX5, 16, tyX5, rfl, osinX5, nmX5, tyX5_ok, (Nat.le_of_ble_eq_true rfl), rfl, rfl, rfl, Or.inl rfl⟩, fun _ h => absurd h List.not_mem_nil⟩⟩
theorem fX5_50 : osFd RX5 50 [5] 12 (.array .int) true := ⟨"OrderSettler$State", "orderKind", "[I", wd385, rfl, List.forall_mem_cons.mpr ⟨⟨RX5, TX5, 16, tyX5, rfl, osinX5, nmX5, tyX5_ok, (Nat.le_of_ble_eq_true rfl), rfl, rfl, rfl, Or.inl rfl⟩, fun _ h => absurd h List.not_mem_nil⟩⟩
theorem fX5_53 : osFd RX5 53 [5] 13 (.array .int) true := ⟨"OrderSettler$State", "orderFirst", "[I", wd388, rfl, List.forall_mem_cons.mpr ⟨⟨RX5, TX5, 16, tyX5, rfl, osinX5, nmX5, tyX5_ok, (Nat.le_of_ble_eq_true rfl), rfl, rfl, rfl, Or.inl rfl⟩, fun _ h => absurd h List.not_mem_nil⟩⟩
theorem fX5_56 : osFd RX5 56 [5] 14 (.array .int) true := ⟨"OrderSettler$State", "orderSecond", "[I", wd391, rfl, List.forall_mem_cons.mpr ⟨⟨RX5, TX5, 16, tyX5, rfl, osinX5, nmX5, tyX5_ok, (Nat.le_of_ble_eq_true rfl), rfl, rfl, rfl, Or.inl rfl⟩, fun _ h => absurd h List.not_mem_nil⟩⟩
theorem fX5_28 : osFd RX5 28 [5] 5 (.array .int) true := ⟨"OrderSettler$State", "owner", "[I", wd371, rfl, List.forall_mem_cons.mpr ⟨⟨RX5, TX5, 16, tyX5, rfl, osinX5, nmX5, tyX5_ok, (Nat.le_of_ble_eq_true rfl), rfl, rfl, rfl, Or.inl rfl⟩, fun _ h => absurd h List.not_mem_nil⟩⟩
theorem fX5_121 : osFd RX5 121 [0] 6 (.array .int) true := ⟨"OrderSettler$Board", "home", "[I", wd311, rfl, List.forall_mem_cons.mpr ⟨⟨RX0, TX0, 10, tyX0, rfl, osinX0, nmX0, tyX0_ok, (Nat.le_of_ble_eq_true rfl), rfl, rfl, rfl, Or.inl rfl⟩, fun _ h => absurd h List.not_mem_nil⟩⟩
theorem fX6_9 : osFd RX6 9 [3, 6] 0 (.array .byte) false := ⟨"OrderSettler$TextReader", "bytes", "[B", wd113, rfl, List.forall_mem_cons.mpr ⟨⟨RX3, TX3, 10, tyX3, rfl, osinX3, nmX3, tyX3_ok, (Nat.le_of_ble_eq_true rfl), rfl, rfl, rfl, Or.inl rfl⟩, List.forall_mem_cons.mpr ⟨⟨RX7, TX7, 10, tyX7, rfl, osinX7, nmX7, tyX7_ok, (Nat.le_of_ble_eq_true rfl), rfl, rfl, rfl, Or.inl rfl⟩, fun _ h => absurd h List.not_mem_nil⟩⟩⟩
theorem fX6_15 : osFd RX6 15 [3, 6] 1 .int false := ⟨"OrderSettler$TextReader", "length", "I", wd114, rfl, List.forall_mem_cons.mpr ⟨⟨RX3, TX3, 10, tyX3, rfl, osinX3, nmX3, tyX3_ok, (Nat.le_of_ble_eq_true rfl), rfl, rfl, rfl, Or.inl rfl⟩, List.forall_mem_cons.mpr ⟨⟨RX7, TX7, 10, tyX7, rfl, osinX7, nmX7, tyX7_ok, (Nat.le_of_ble_eq_true rfl), rfl, rfl, rfl, Or.inl rfl⟩, fun _ h => absurd h List.not_mem_nil⟩⟩⟩
theorem fX6_19 : osFd RX6 19 [3, 6] 2 .int false := ⟨"OrderSettler$TextReader", "kind", "I", wd115, rfl, List.forall_mem_cons.mpr ⟨⟨RX3, TX3, 10, tyX3, rfl, osinX3, nmX3, tyX3_ok, (Nat.le_of_ble_eq_true rfl), rfl, rfl, rfl, Or.inl rfl⟩, List.forall_mem_cons.mpr ⟨⟨RX7, TX7, 10, tyX7, rfl, osinX7, nmX7, tyX7_ok, (Nat.le_of_ble_eq_true rfl), rfl, rfl, rfl, Or.inl rfl⟩, fun _ h => absurd h List.not_mem_nil⟩⟩⟩
theorem fX6_22 : osFd RX6 22 [3, 6] 3 .int false := ⟨"OrderSettler$TextReader", "behind", "I", wd116, rfl, List.forall_mem_cons.mpr ⟨⟨RX3, TX3, 10, tyX3, rfl, osinX3, nmX3, tyX3_ok, (Nat.le_of_ble_eq_true rfl), rfl, rfl, rfl, Or.inl rfl⟩, List.forall_mem_cons.mpr ⟨⟨RX7, TX7, 10, tyX7, rfl, osinX7, nmX7, tyX7_ok, (Nat.le_of_ble_eq_true rfl), rfl, rfl, rfl, Or.inl rfl⟩, fun _ h => absurd h List.not_mem_nil⟩⟩⟩
theorem fX6_25 : osFd RX6 25 [3, 6] 4 .int false := ⟨"OrderSettler$TextReader", "letters", "I", wd117, rfl, List.forall_mem_cons.mpr ⟨⟨RX3, TX3, 10, tyX3, rfl, osinX3, nmX3, tyX3_ok, (Nat.le_of_ble_eq_true rfl), rfl, rfl, rfl, Or.inl rfl⟩, List.forall_mem_cons.mpr ⟨⟨RX7, TX7, 10, tyX7, rfl, osinX7, nmX7, tyX7_ok, (Nat.le_of_ble_eq_true rfl), rfl, rfl, rfl, Or.inl rfl⟩, fun _ h => absurd h List.not_mem_nil⟩⟩⟩
theorem fX6_28 : osFd RX6 28 [3, 6] 5 .long false := ⟨"OrderSettler$TextReader", "packed", "J", wd118, rfl, List.forall_mem_cons.mpr ⟨⟨RX3, TX3, 10, tyX3, rfl, osinX3, nmX3, tyX3_ok, (Nat.le_of_ble_eq_true rfl), rfl, rfl, rfl, Or.inl rfl⟩, List.forall_mem_cons.mpr ⟨⟨RX7, TX7, 10, tyX7, rfl, osinX7, nmX7, tyX7_ok, (Nat.le_of_ble_eq_true rfl), rfl, rfl, rfl, Or.inl rfl⟩, fun _ h => absurd h List.not_mem_nil⟩⟩⟩
theorem fX6_32 : osFd RX6 32 [3, 6] 6 .int false := ⟨"OrderSettler$TextReader", "start", "I", wd119, rfl, List.forall_mem_cons.mpr ⟨⟨RX3, TX3, 10, tyX3, rfl, osinX3, nmX3, tyX3_ok, (Nat.le_of_ble_eq_true rfl), rfl, rfl, rfl, Or.inl rfl⟩, List.forall_mem_cons.mpr ⟨⟨RX7, TX7, 10, tyX7, rfl, osinX7, nmX7, tyX7_ok, (Nat.le_of_ble_eq_true rfl), rfl, rfl, rfl, Or.inl rfl⟩, fun _ h => absurd h List.not_mem_nil⟩⟩⟩
theorem fX6_35 : osFd RX6 35 [3, 6] 7 .int false := ⟨"OrderSettler$TextReader", "nameStart", "I", wd124, rfl, List.forall_mem_cons.mpr ⟨⟨RX3, TX3, 10, tyX3, rfl, osinX3, nmX3, tyX3_ok, (Nat.le_of_ble_eq_true rfl), rfl, rfl, rfl, Or.inl rfl⟩, List.forall_mem_cons.mpr ⟨⟨RX7, TX7, 10, tyX7, rfl, osinX7, nmX7, tyX7_ok, (Nat.le_of_ble_eq_true rfl), rfl, rfl, rfl, Or.inl rfl⟩, fun _ h => absurd h List.not_mem_nil⟩⟩⟩
theorem fX6_38 : osFd RX6 38 [3, 6] 8 .int false := ⟨"OrderSettler$TextReader", "foundCode", "I", wd129, rfl, List.forall_mem_cons.mpr ⟨⟨RX3, TX3, 10, tyX3, rfl, osinX3, nmX3, tyX3_ok, (Nat.le_of_ble_eq_true rfl), rfl, rfl, rfl, Or.inl rfl⟩, List.forall_mem_cons.mpr ⟨⟨RX7, TX7, 10, tyX7, rfl, osinX7, nmX7, tyX7_ok, (Nat.le_of_ble_eq_true rfl), rfl, rfl, rfl, Or.inl rfl⟩, fun _ h => absurd h List.not_mem_nil⟩⟩⟩
theorem fX6_41 : osFd RX6 41 [3, 6] 9 .int false := ⟨"OrderSettler$TextReader", "foundPosition", "I", wd131, rfl, List.forall_mem_cons.mpr ⟨⟨RX3, TX3, 10, tyX3, rfl, osinX3, nmX3, tyX3_ok, (Nat.le_of_ble_eq_true rfl), rfl, rfl, rfl, Or.inl rfl⟩, List.forall_mem_cons.mpr ⟨⟨RX7, TX7, 10, tyX7, rfl, osinX7, nmX7, tyX7_ok, (Nat.le_of_ble_eq_true rfl), rfl, rfl, rfl, Or.inl rfl⟩, fun _ h => absurd h List.not_mem_nil⟩⟩⟩
theorem mdX6_init : osMd yX6_init cX6_init 1 none 0 := ⟨wd111, wd56, ⟨by decide +kernel, by decide +kernel⟩, by decide +kernel⟩
theorem fX9_63 : osFd RX9 63 [7] 10 (.object "OrderSettler$Board") false := ⟨"OrderSettler", "board", "LOrderSettler$Board;", wd439, rfl, List.forall_mem_cons.mpr ⟨⟨RX9, TX9, 14, tyX9, rfl, osinX9, nmX9, tyX9_ok, (Nat.le_of_ble_eq_true rfl), rfl, rfl, rfl, Or.inl rfl⟩, fun _ h => absurd h List.not_mem_nil⟩⟩
theorem fX9_120 : osFd RX9 120 [0] 0 .int false := ⟨"OrderSettler$Board", "areaCount", "I", wd293, rfl, List.forall_mem_cons.mpr ⟨⟨RX0, TX0, 10, tyX0, rfl, osinX0, nmX0, tyX0_ok, (Nat.le_of_ble_eq_true rfl), rfl, rfl, rfl, Or.inl rfl⟩, fun _ h => absurd h List.not_mem_nil⟩⟩
theorem fX9_123 : osFd RX9 123 [0] 1 .int false := ⟨"OrderSettler$Board", "powerCount", "I", wd296, rfl, List.forall_mem_cons.mpr ⟨⟨RX0, TX0, 10, tyX0, rfl, osinX0, nmX0, tyX0_ok, (Nat.le_of_ble_eq_true rfl), rfl, rfl, rfl, Or.inl rfl⟩, fun _ h => absurd h List.not_mem_nil⟩⟩
theorem fX9_71 : osFd RX9 71 [7] 12 (.object "OrderSettler$State") false := ⟨"OrderSettler", "now", "LOrderSettler$State;", wd441, rfl, List.forall_mem_cons.mpr ⟨⟨RX9, TX9, 14, tyX9, rfl, osinX9, nmX9, tyX9_ok, (Nat.le_of_ble_eq_true rfl), rfl, rfl, rfl, Or.inl rfl⟩, fun _ h => absurd h List.not_mem_nil⟩⟩
theorem fX9_201 : osFd RX9 201 [5] 0 .int false := ⟨"OrderSettler$State", "phase", "I", wd363, rfl, List.forall_mem_cons.mpr ⟨⟨RX5, TX5, 16, tyX5, rfl, osinX5, nmX5, tyX5_ok, (Nat.le_of_ble_eq_true rfl), rfl, rfl, rfl, Or.inl rfl⟩, fun _ h => absurd h List.not_mem_nil⟩⟩
theorem fX9_204 : osFd RX9 204 [5] 1 .int false := ⟨"OrderSettler$State", "turn", "I", wd365, rfl, List.forall_mem_cons.mpr ⟨⟨RX5, TX5, 16, tyX5, rfl, osinX5, nmX5, tyX5_ok, (Nat.le_of_ble_eq_true rfl), rfl, rfl, rfl, Or.inl rfl⟩, fun _ h => absurd h List.not_mem_nil⟩⟩
theorem fX9_57 : osFd RX9 57 [7] 9 .int false := ⟨"OrderSettler", "undoable", "I", wd438, rfl, List.forall_mem_cons.mpr ⟨⟨RX9, TX9, 14, tyX9, rfl, osinX9, nmX9, tyX9_ok, (Nat.le_of_ble_eq_true rfl), rfl, rfl, rfl, Or.inl rfl⟩, fun _ h => absurd h List.not_mem_nil⟩⟩
theorem xth293 : osThrows 289 293 "java/lang/IllegalArgumentException" := osThrows.of (by decide +kernel) wd626 wd77 (fun w hw => List.mem_filter.mpr ⟨(by decide +kernel : ∀ w ∈ vx_atS RX9 293 "java/lang/IllegalArgumentException" ["java/lang/RuntimeException", "java/lang/Exception"], w ∈ lw2) w hw, List.all_eq_true.mp (by decide +kernel : (vx_atS RX9 293 "java/lang/IllegalArgumentException" ["java/lang/RuntimeException", "java/lang/Exception"]).all osOt = true) w hw⟩) (fun w hw => List.all_eq_true.mp (by decide +kernel : (Cond.classLink RX9 289 "java/lang/IllegalArgumentException" :: Cond.initialized "java/lang/IllegalArgumentException" :: vx_atS RX9 293 "java/lang/IllegalArgumentException" ["java/lang/RuntimeException", "java/lang/Exception"]).all vx_ot = true) w hw)
theorem fX9_13 : osFd RX9 13 [7] 1 .int false := ⟨"OrderSettler", "inputLength", "I", wd430, rfl, List.forall_mem_cons.mpr ⟨⟨RX9, TX9, 14, tyX9, rfl, osinX9, nmX9, tyX9_ok, (Nat.le_of_ble_eq_true rfl), rfl, rfl, rfl, Or.inl rfl⟩, fun _ h => absurd h List.not_mem_nil⟩⟩
theorem xth176 : osThrows 172 176 "java/util/NoSuchElementException" := nt_osThrows (by decide +kernel) (List.mem_filter.mpr ⟨(by decide +kernel : (Cond.classLink RX9 172 "java/util/NoSuchElementException" : Cond) ∈ lw2), (by decide +kernel : osOt (Cond.classLink RX9 172 "java/util/NoSuchElementException" : Cond) = true)⟩) (List.mem_filter.mpr ⟨(by decide +kernel : (Cond.initialized "java/util/NoSuchElementException" : Cond) ∈ lw2), (by decide +kernel : osOt (Cond.initialized "java/util/NoSuchElementException" : Cond) = true)⟩) (fun w hw => List.mem_filter.mpr ⟨(by decide +kernel : ∀ w ∈ (nt_atoms RX9 176 "java/util/NoSuchElementException" "java/lang/RuntimeException" ["java/lang/Exception"]).filter vx_no, w ∈ lw2) w hw, List.all_eq_true.mp (by decide +kernel : ((nt_atoms RX9 176 "java/util/NoSuchElementException" "java/lang/RuntimeException" ["java/lang/Exception"]).filter vx_no).all osOt = true) w hw⟩) (fun w hw => List.all_eq_true.mp (by decide +kernel : (Cond.classLink RX9 172 "java/util/NoSuchElementException" :: Cond.initialized "java/util/NoSuchElementException" :: (nt_atoms RX9 176 "java/util/NoSuchElementException" "java/lang/RuntimeException" ["java/lang/Exception"]).filter vx_no).all vx_ot = true) w hw)
theorem xth82 : osThrows 78 82 "java/lang/IllegalStateException" := osThrows.of (by decide +kernel) wd547 wd76 (fun w hw => List.mem_filter.mpr ⟨(by decide +kernel : ∀ w ∈ vx_atS RX9 82 "java/lang/IllegalStateException" ["java/lang/RuntimeException", "java/lang/Exception"], w ∈ lw2) w hw, List.all_eq_true.mp (by decide +kernel : (vx_atS RX9 82 "java/lang/IllegalStateException" ["java/lang/RuntimeException", "java/lang/Exception"]).all osOt = true) w hw⟩) (fun w hw => List.all_eq_true.mp (by decide +kernel : (Cond.classLink RX9 78 "java/lang/IllegalStateException" :: Cond.initialized "java/lang/IllegalStateException" :: vx_atS RX9 82 "java/lang/IllegalStateException" ["java/lang/RuntimeException", "java/lang/Exception"]).all vx_ot = true) w hw)
theorem fX9_372 : osFd RX9 372 [5] 2 .boolean false := ⟨"OrderSettler$State", "settled", "Z", wd367, rfl, List.forall_mem_cons.mpr ⟨⟨RX5, TX5, 16, tyX5, rfl, osinX5, nmX5, tyX5_ok, (Nat.le_of_ble_eq_true rfl), rfl, rfl, rfl, Or.inl rfl⟩, fun _ h => absurd h List.not_mem_nil⟩⟩
theorem fX9_9 : osFd RX9 9 [7] 0 (.array .byte) true := ⟨"OrderSettler", "input", "[B", wd429, rfl, List.forall_mem_cons.mpr ⟨⟨RX9, TX9, 14, tyX9, rfl, osinX9, nmX9, tyX9_ok, (Nat.le_of_ble_eq_true rfl), rfl, rfl, rfl, Or.inl rfl⟩, fun _ h => absurd h List.not_mem_nil⟩⟩
theorem fX9_384 : osFd RX9 384 [3, 6] 8 .int false := ⟨"OrderSettler$TextReader", "foundCode", "I", wd130, rfl, List.forall_mem_cons.mpr ⟨⟨RX3, TX3, 10, tyX3, rfl, osinX3, nmX3, tyX3_ok, (Nat.le_of_ble_eq_true rfl), rfl, rfl, rfl, Or.inl rfl⟩, List.forall_mem_cons.mpr ⟨⟨RX7, TX7, 10, tyX7, rfl, osinX7, nmX7, tyX7_ok, (Nat.le_of_ble_eq_true rfl), rfl, rfl, rfl, Or.inl rfl⟩, fun _ h => absurd h List.not_mem_nil⟩⟩⟩
theorem fX9_24 : osFd RX9 24 [7] 3 .int false := ⟨"OrderSettler", "errorCode", "I", wd432, rfl, List.forall_mem_cons.mpr ⟨⟨RX9, TX9, 14, tyX9, rfl, osinX9, nmX9, tyX9_ok, (Nat.le_of_ble_eq_true rfl), rfl, rfl, rfl, Or.inl rfl⟩, fun _ h => absurd h List.not_mem_nil⟩⟩
theorem fX9_389 : osFd RX9 389 [3, 6] 9 .int false := ⟨"OrderSettler$TextReader", "foundPosition", "I", wd132, rfl, List.forall_mem_cons.mpr ⟨⟨RX3, TX3, 10, tyX3, rfl, osinX3, nmX3, tyX3_ok, (Nat.le_of_ble_eq_true rfl), rfl, rfl, rfl, Or.inl rfl⟩, List.forall_mem_cons.mpr ⟨⟨RX7, TX7, 10, tyX7, rfl, osinX7, nmX7, tyX7_ok, (Nat.le_of_ble_eq_true rfl), rfl, rfl, rfl, Or.inl rfl⟩, fun _ h => absurd h List.not_mem_nil⟩⟩⟩
theorem fX9_27 : osFd RX9 27 [7] 4 .int false := ⟨"OrderSettler", "errorPosition", "I", wd433, rfl, List.forall_mem_cons.mpr ⟨⟨RX9, TX9, 14, tyX9, rfl, osinX9, nmX9, tyX9_ok, (Nat.le_of_ble_eq_true rfl), rfl, rfl, rfl, Or.inl rfl⟩, fun _ h => absurd h List.not_mem_nil⟩⟩
theorem fX9_75 : osFd RX9 75 [7] 13 (.object "OrderSettler$State") false := ⟨"OrderSettler", "draft", "LOrderSettler$State;", wd442, rfl, List.forall_mem_cons.mpr ⟨⟨RX9, TX9, 14, tyX9, rfl, osinX9, nmX9, tyX9_ok, (Nat.le_of_ble_eq_true rfl), rfl, rfl, rfl, Or.inl rfl⟩, fun _ h => absurd h List.not_mem_nil⟩⟩
theorem dfJ4 : ∀ j, j < 4 → defaultValue (tyJ4 j) = vp_V [.null, .int 0, .int 0, .int 0] j := by decide +kernel
theorem mdJ4_init_da8c8 : osMd yJ4_init_da8c8 cJ4_init_da8c8 1 none 0 := ⟨wd838, wd64, ⟨by decide +kernel, by decide +kernel⟩, by decide +kernel⟩
theorem mdJ4_append_15ec4 : osMd yJ4_append_15ec4 cJ4_append_15ec4 2 (some (.object "java/lang/StringBuilder")) 1 := ⟨wd870, wd64, ⟨by decide +kernel, by decide +kernel⟩, by decide +kernel⟩
theorem sl9_J4_append_15ec4_J4_append_15ec4 : osSl [9] yJ4_append_15ec4 yJ4_append_15ec4 := List.forall_mem_cons.mpr ⟨⟨_, rfl, wd869⟩, fun _ h => absurd h List.not_mem_nil⟩
theorem mdJ4_append_cf468 : osMd yJ4_append_cf468 cJ4_append_cf468 2 (some (.object "java/lang/StringBuilder")) 1 := ⟨wd969, wd64, ⟨by decide +kernel, by decide +kernel⟩, by decide +kernel⟩
theorem sl9_J4_append_cf468_J4_append_cf468 : osSl [9] yJ4_append_cf468 yJ4_append_cf468 := List.forall_mem_cons.mpr ⟨⟨_, rfl, wd968⟩, fun _ h => absurd h List.not_mem_nil⟩
theorem mdJ4_toString_0e30d : osMd yJ4_toString_0e30d cJ4_toString_0e30d 1 (some (.object "java/lang/String")) 0 := ⟨wd989, wd64, ⟨by decide +kernel, by decide +kernel⟩, by decide +kernel⟩
theorem sl9_J4_toString_0e30d_J4_toString_0e30d : osSl [9] yJ4_toString_0e30d yJ4_toString_0e30d := List.forall_mem_cons.mpr ⟨⟨_, rfl, wd988⟩, fun _ h => absurd h List.not_mem_nil⟩
theorem mdL_next : osMd yL_next cL_next 1 (some .int) 1 := ⟨wd486, wd53, ⟨by decide +kernel, by decide +kernel⟩, by decide +kernel⟩
theorem mdX0_clear : osMd yX0_clear cX0_clear 2 none 0 := ⟨wd290, wd61, ⟨by decide +kernel, by decide +kernel⟩, by decide +kernel⟩
theorem sl0_X0_clear_X0_clear : osSl [0] yX0_clear yX0_clear := List.forall_mem_cons.mpr ⟨⟨_, rfl, wd289⟩, fun _ h => absurd h List.not_mem_nil⟩
theorem mdX9_has : osMd yX9_has cX9_has 2 (some .boolean) 2 := ⟨wd750, wd54, ⟨by decide +kernel, by decide +kernel⟩, by decide +kernel⟩
theorem mdX9_bit : osMd yX9_bit cX9_bit 1 (some .int) 1 := ⟨wd713, wd54, ⟨by decide +kernel, by decide +kernel⟩, by decide +kernel⟩
theorem dfX2 : ∀ j, j < 16 → defaultValue (tyX2 j) = vp_V [.int 0, .int 0, .int 0, .int 0, .int 0, .int 0, .null, .null, .null, .null, .null, .null, .null, .null, .null, .null] j := by decide +kernel
theorem mdX2_init : osMd yX2_init cX2_init 1 none 0 := ⟨wd181, wd60, ⟨by decide +kernel, by decide +kernel⟩, by decide +kernel⟩
theorem fX1_12 : osFd RX1 12 [1] 0 (.object "OrderSettler$Links") true := ⟨"OrderSettler$Judge", "links", "LOrderSettler$Links;", wd249, rfl, List.forall_mem_cons.mpr ⟨⟨RX1, TX1, 8, tyX1, rfl, osinX1, nmX1, tyX1_ok, (Nat.le_of_ble_eq_true rfl), rfl, rfl, rfl, Or.inl rfl⟩, fun _ h => absurd h List.not_mem_nil⟩⟩
theorem fX1_18 : osFd RX1 18 [1] 1 .boolean false := ⟨"OrderSettler$Judge", "seaOpen", "Z", wd250, rfl, List.forall_mem_cons.mpr ⟨⟨RX1, TX1, 8, tyX1, rfl, osinX1, nmX1, tyX1_ok, (Nat.le_of_ble_eq_true rfl), rfl, rfl, rfl, Or.inl rfl⟩, fun _ h => absurd h List.not_mem_nil⟩⟩
theorem fX1_22 : osFd RX1 22 [1] 2 .int false := ⟨"OrderSettler$Judge", "paths", "I", wd251, rfl, List.forall_mem_cons.mpr ⟨⟨RX1, TX1, 8, tyX1, rfl, osinX1, nmX1, tyX1_ok, (Nat.le_of_ble_eq_true rfl), rfl, rfl, rfl, Or.inl rfl⟩, fun _ h => absurd h List.not_mem_nil⟩⟩
theorem fX1_26 : osFd RX1 26 [1] 3 .int false := ⟨"OrderSettler$Judge", "given", "I", wd252, rfl, List.forall_mem_cons.mpr ⟨⟨RX1, TX1, 8, tyX1, rfl, osinX1, nmX1, tyX1_ok, (Nat.le_of_ble_eq_true rfl), rfl, rfl, rfl, Or.inl rfl⟩, fun _ h => absurd h List.not_mem_nil⟩⟩
theorem fX1_29 : osFd RX1 29 [1] 4 .int false := ⟨"OrderSettler$Judge", "best", "I", wd253, rfl, List.forall_mem_cons.mpr ⟨⟨RX1, TX1, 8, tyX1, rfl, osinX1, nmX1, tyX1_ok, (Nat.le_of_ble_eq_true rfl), rfl, rfl, rfl, Or.inl rfl⟩, fun _ h => absurd h List.not_mem_nil⟩⟩
theorem fX1_32 : osFd RX1 32 [1] 5 .int false := ⟨"OrderSettler$Judge", "success", "I", wd254, rfl, List.forall_mem_cons.mpr ⟨⟨RX1, TX1, 8, tyX1, rfl, osinX1, nmX1, tyX1_ok, (Nat.le_of_ble_eq_true rfl), rfl, rfl, rfl, Or.inl rfl⟩, fun _ h => absurd h List.not_mem_nil⟩⟩
theorem fX1_35 : osFd RX1 35 [1] 6 .int false := ⟨"OrderSettler$Judge", "dislodged", "I", wd257, rfl, List.forall_mem_cons.mpr ⟨⟨RX1, TX1, 8, tyX1, rfl, osinX1, nmX1, tyX1_ok, (Nat.le_of_ble_eq_true rfl), rfl, rfl, rfl, Or.inl rfl⟩, fun _ h => absurd h List.not_mem_nil⟩⟩
theorem fX1_38 : osFd RX1 38 [1] 7 .int false := ⟨"OrderSettler$Judge", "outcomeCount", "I", wd260, rfl, List.forall_mem_cons.mpr ⟨⟨RX1, TX1, 8, tyX1, rfl, osinX1, nmX1, tyX1_ok, (Nat.le_of_ble_eq_true rfl), rfl, rfl, rfl, Or.inl rfl⟩, fun _ h => absurd h List.not_mem_nil⟩⟩
theorem fX1_86 : osFd RX1 86 [2] 12 (.array .int) true := ⟨"OrderSettler$Links", "carriers", "[I", wd208, rfl, List.forall_mem_cons.mpr ⟨⟨RX2, TX2, 16, tyX2, rfl, osinX2, nmX2, tyX2_ok, (Nat.le_of_ble_eq_true rfl), rfl, rfl, rfl, Or.inl rfl⟩, fun _ h => absurd h List.not_mem_nil⟩⟩
theorem mdX9_entry : osMd yX9_entry cX9_entry 2 (some .int) 2 := ⟨wd785, wd54, ⟨by decide +kernel, by decide +kernel⟩, by decide +kernel⟩
theorem fX1_106 : osFd RX1 106 [2] 13 (.array .int) true := ⟨"OrderSettler$Links", "boarding", "[I", wd210, rfl, List.forall_mem_cons.mpr ⟨⟨RX2, TX2, 16, tyX2, rfl, osinX2, nmX2, tyX2_ok, (Nat.le_of_ble_eq_true rfl), rfl, rfl, rfl, Or.inl rfl⟩, fun _ h => absurd h List.not_mem_nil⟩⟩
theorem fX1_112 : osFd RX1 112 [2] 14 (.array .int) true := ⟨"OrderSettler$Links", "landing", "[I", wd212, rfl, List.forall_mem_cons.mpr ⟨⟨RX2, TX2, 16, tyX2, rfl, osinX2, nmX2, tyX2_ok, (Nat.le_of_ble_eq_true rfl), rfl, rfl, rfl, Or.inl rfl⟩, fun _ h => absurd h List.not_mem_nil⟩⟩
theorem fX1_109 : osFd RX1 109 [2] 15 (.array .int) true := ⟨"OrderSettler$Links", "waters", "[I", wd214, rfl, List.forall_mem_cons.mpr ⟨⟨RX2, TX2, 16, tyX2, rfl, osinX2, nmX2, tyX2_ok, (Nat.le_of_ble_eq_true rfl), rfl, rfl, rfl, Or.inl rfl⟩, fun _ h => absurd h List.not_mem_nil⟩⟩
theorem fX1_127 : osFd RX1 127 [2] 8 (.array .int) true := ⟨"OrderSettler$Links", "backers", "[I", wd200, rfl, List.forall_mem_cons.mpr ⟨⟨RX2, TX2, 16, tyX2, rfl, osinX2, nmX2, tyX2_ok, (Nat.le_of_ble_eq_true rfl), rfl, rfl, rfl, Or.inl rfl⟩, fun _ h => absurd h List.not_mem_nil⟩⟩
theorem mdJ6_bitCount_0f7a4 : osMd yJ6_bitCount_0f7a4 cJ6_bitCount_0f7a4 1 (some .int) 1 := ⟨wd1244, wd81, ⟨by decide +kernel, by decide +kernel⟩, by decide +kernel⟩
theorem fX1_76 : osFd RX1 76 [2] 6 (.array .int) true := ⟨"OrderSettler$Links", "goal", "[I", wd196, rfl, List.forall_mem_cons.mpr ⟨⟨RX2, TX2, 16, tyX2, rfl, osinX2, nmX2, tyX2_ok, (Nat.le_of_ble_eq_true rfl), rfl, rfl, rfl, Or.inl rfl⟩, fun _ h => absurd h List.not_mem_nil⟩⟩
theorem fX1_133 : osFd RX1 133 [2] 9 (.array .int) true := ⟨"OrderSettler$Links", "hosts", "[I", wd202, rfl, List.forall_mem_cons.mpr ⟨⟨RX2, TX2, 16, tyX2, rfl, osinX2, nmX2, tyX2_ok, (Nat.le_of_ble_eq_true rfl), rfl, rfl, rfl, Or.inl rfl⟩, fun _ h => absurd h List.not_mem_nil⟩⟩
theorem fX1_130 : osFd RX1 130 [2] 3 .int false := ⟨"OrderSettler$Links", "opposed", "I", wd190, rfl, List.forall_mem_cons.mpr ⟨⟨RX2, TX2, 16, tyX2, rfl, osinX2, nmX2, tyX2_ok, (Nat.le_of_ble_eq_true rfl), rfl, rfl, rfl, Or.inl rfl⟩, fun _ h => absurd h List.not_mem_nil⟩⟩
theorem fX1_80 : osFd RX1 80 [2] 0 .int false := ⟨"OrderSettler$Links", "units", "I", wd184, rfl, List.forall_mem_cons.mpr ⟨⟨RX2, TX2, 16, tyX2, rfl, osinX2, nmX2, tyX2_ok, (Nat.le_of_ble_eq_true rfl), rfl, rfl, rfl, Or.inl rfl⟩, fun _ h => absurd h List.not_mem_nil⟩⟩
theorem fX1_53 : osFd RX1 53 [2] 1 .int false := ⟨"OrderSettler$Links", "moves", "I", wd186, rfl, List.forall_mem_cons.mpr ⟨⟨RX2, TX2, 16, tyX2, rfl, osinX2, nmX2, tyX2_ok, (Nat.le_of_ble_eq_true rfl), rfl, rfl, rfl, Or.inl rfl⟩, fun _ h => absurd h List.not_mem_nil⟩⟩
theorem fX1_136 : osFd RX1 136 [2] 10 (.array .int) true := ⟨"OrderSettler$Links", "hostBackers", "[I", wd204, rfl, List.forall_mem_cons.mpr ⟨⟨RX2, TX2, 16, tyX2, rfl, osinX2, nmX2, tyX2_ok, (Nat.le_of_ble_eq_true rfl), rfl, rfl, rfl, Or.inl rfl⟩, fun _ h => absurd h List.not_mem_nil⟩⟩
theorem fX1_139 : osFd RX1 139 [2] 7 (.array .int) true := ⟨"OrderSettler$Links", "rivals", "[I", wd198, rfl, List.forall_mem_cons.mpr ⟨⟨RX2, TX2, 16, tyX2, rfl, osinX2, nmX2, tyX2_ok, (Nat.le_of_ble_eq_true rfl), rfl, rfl, rfl, Or.inl rfl⟩, fun _ h => absurd h List.not_mem_nil⟩⟩
theorem mdX1_strengthOf : osMd yX1_strengthOf cX1_strengthOf 2 (some .int) 1 := ⟨wd1367, wd59, ⟨by decide +kernel, by decide +kernel⟩, by decide +kernel⟩
theorem sl1_X1_strengthOf_X1_strengthOf : osSl [1] yX1_strengthOf yX1_strengthOf := List.forall_mem_cons.mpr ⟨⟨_, rfl, wd47⟩, fun _ h => absurd h List.not_mem_nil⟩
theorem fX1_83 : osFd RX1 83 [2] 2 .int false := ⟨"OrderSettler$Links", "direct", "I", wd188, rfl, List.forall_mem_cons.mpr ⟨⟨RX2, TX2, 16, tyX2, rfl, osinX2, nmX2, tyX2_ok, (Nat.le_of_ble_eq_true rfl), rfl, rfl, rfl, Or.inl rfl⟩, fun _ h => absurd h List.not_mem_nil⟩⟩
theorem fX1_157 : osFd RX1 157 [2] 4 .int false := ⟨"OrderSettler$Links", "supporting", "I", wd192, rfl, List.forall_mem_cons.mpr ⟨⟨RX2, TX2, 16, tyX2, rfl, osinX2, nmX2, tyX2_ok, (Nat.le_of_ble_eq_true rfl), rfl, rfl, rfl, Or.inl rfl⟩, fun _ h => absurd h List.not_mem_nil⟩⟩
theorem mdX1_attackOf : osMd yX1_attackOf cX1_attackOf 5 (some .int) 1 := ⟨wd1355, wd59, ⟨by decide +kernel, by decide +kernel⟩, by decide +kernel⟩
theorem sl1_X1_attackOf_X1_attackOf : osSl [1] yX1_attackOf yX1_attackOf := List.forall_mem_cons.mpr ⟨⟨_, rfl, wd44⟩, fun _ h => absurd h List.not_mem_nil⟩
theorem mdX1_resistanceTo : osMd yX1_resistanceTo cX1_resistanceTo 3 (some .int) 1 := ⟨wd1359, wd59, ⟨by decide +kernel, by decide +kernel⟩, by decide +kernel⟩
theorem sl1_X1_resistanceTo_X1_resistanceTo : osSl [1] yX1_resistanceTo yX1_resistanceTo := List.forall_mem_cons.mpr ⟨⟨_, rfl, wd45⟩, fun _ h => absurd h List.not_mem_nil⟩
theorem fX2_80 : osFd RX2 80 [5] 12 (.array .int) true := ⟨"OrderSettler$State", "orderKind", "[I", wd386, rfl, List.forall_mem_cons.mpr ⟨⟨RX5, TX5, 16, tyX5, rfl, osinX5, nmX5, tyX5_ok, (Nat.le_of_ble_eq_true rfl), rfl, rfl, rfl, Or.inl rfl⟩, fun _ h => absurd h List.not_mem_nil⟩⟩
theorem fX2_101 : osFd RX2 101 [5] 13 (.array .int) true := ⟨"OrderSettler$State", "orderFirst", "[I", wd389, rfl, List.forall_mem_cons.mpr ⟨⟨RX5, TX5, 16, tyX5, rfl, osinX5, nmX5, tyX5_ok, (Nat.le_of_ble_eq_true rfl), rfl, rfl, rfl, Or.inl rfl⟩, fun _ h => absurd h List.not_mem_nil⟩⟩
theorem fX2_112 : osFd RX2 112 [5] 14 (.array .int) true := ⟨"OrderSettler$State", "orderSecond", "[I", wd392, rfl, List.forall_mem_cons.mpr ⟨⟨RX5, TX5, 16, tyX5, rfl, osinX5, nmX5, tyX5_ok, (Nat.le_of_ble_eq_true rfl), rfl, rfl, rfl, Or.inl rfl⟩, fun _ h => absurd h List.not_mem_nil⟩⟩
theorem fX2_115 : osFd RX2 115 [5] 6 (.array .int) true := ⟨"OrderSettler$State", "unitPower", "[I", wd374, rfl, List.forall_mem_cons.mpr ⟨⟨RX5, TX5, 16, tyX5, rfl, osinX5, nmX5, tyX5_ok, (Nat.le_of_ble_eq_true rfl), rfl, rfl, rfl, Or.inl rfl⟩, fun _ h => absurd h List.not_mem_nil⟩⟩
theorem mdX5_giveOrder : osMd yX5_giveOrder cX5_giveOrder 5 none 4 := ⟨wd360, wd62, ⟨by decide +kernel, by decide +kernel⟩, by decide +kernel⟩
theorem sl5_X5_giveOrder_X5_giveOrder : osSl [5] yX5_giveOrder yX5_giveOrder := List.forall_mem_cons.mpr ⟨⟨_, rfl, wd359⟩, fun _ h => absurd h List.not_mem_nil⟩
theorem fX5_9 : osFd RX5 9 [5] 0 .int false := ⟨"OrderSettler$State", "phase", "I", wd361, rfl, List.forall_mem_cons.mpr ⟨⟨RX5, TX5, 16, tyX5, rfl, osinX5, nmX5, tyX5_ok, (Nat.le_of_ble_eq_true rfl), rfl, rfl, rfl, Or.inl rfl⟩, fun _ h => absurd h List.not_mem_nil⟩⟩
theorem fX5_15 : osFd RX5 15 [5] 1 .int false := ⟨"OrderSettler$State", "turn", "I", wd364, rfl, List.forall_mem_cons.mpr ⟨⟨RX5, TX5, 16, tyX5, rfl, osinX5, nmX5, tyX5_ok, (Nat.le_of_ble_eq_true rfl), rfl, rfl, rfl, Or.inl rfl⟩, fun _ h => absurd h List.not_mem_nil⟩⟩
theorem fX5_18 : osFd RX5 18 [5] 2 .boolean false := ⟨"OrderSettler$State", "settled", "Z", wd366, rfl, List.forall_mem_cons.mpr ⟨⟨RX5, TX5, 16, tyX5, rfl, osinX5, nmX5, tyX5_ok, (Nat.le_of_ble_eq_true rfl), rfl, rfl, rfl, Or.inl rfl⟩, fun _ h => absurd h List.not_mem_nil⟩⟩
theorem fX5_22 : osFd RX5 22 [5] 3 .int false := ⟨"OrderSettler$State", "outcomeCount", "I", wd368, rfl, List.forall_mem_cons.mpr ⟨⟨RX5, TX5, 16, tyX5, rfl, osinX5, nmX5, tyX5_ok, (Nat.le_of_ble_eq_true rfl), rfl, rfl, rfl, Or.inl rfl⟩, fun _ h => absurd h List.not_mem_nil⟩⟩
theorem fX5_25 : osFd RX5 25 [5] 4 .int false := ⟨"OrderSettler$State", "contested", "I", wd369, rfl, List.forall_mem_cons.mpr ⟨⟨RX5, TX5, 16, tyX5, rfl, osinX5, nmX5, tyX5_ok, (Nat.le_of_ble_eq_true rfl), rfl, rfl, rfl, Or.inl rfl⟩, fun _ h => absurd h List.not_mem_nil⟩⟩
theorem mdX5_copyRow : osMd yX5_copyRow cX5_copyRow 2 none 2 := ⟨wd1108, wd62, ⟨by decide +kernel, by decide +kernel⟩, by decide +kernel⟩
theorem fX5_59 : osFd RX5 59 [5] 15 (.array .int) true := ⟨"OrderSettler$State", "results", "[I", wd394, rfl, List.forall_mem_cons.mpr ⟨⟨RX5, TX5, 16, tyX5, rfl, osinX5, nmX5, tyX5_ok, (Nat.le_of_ble_eq_true rfl), rfl, rfl, rfl, Or.inl rfl⟩, fun _ h => absurd h List.not_mem_nil⟩⟩
theorem mdX5_countOf : osMd yX5_countOf cX5_countOf 4 (some .int) 2 := ⟨wd805, wd62, ⟨by decide +kernel, by decide +kernel⟩, by decide +kernel⟩
theorem mdX5_countCenters : osMd yX5_countCenters cX5_countCenters 2 (some .int) 1 := ⟨wd1237, wd62, ⟨by decide +kernel, by decide +kernel⟩, by decide +kernel⟩
theorem sl5_X5_countCenters_X5_countCenters : osSl [5] yX5_countCenters yX5_countCenters := List.forall_mem_cons.mpr ⟨⟨_, rfl, wd1236⟩, fun _ h => absurd h List.not_mem_nil⟩
theorem mdX5_countUnits : osMd yX5_countUnits cX5_countUnits 2 (some .int) 1 := ⟨wd1241, wd62, ⟨by decide +kernel, by decide +kernel⟩, by decide +kernel⟩
theorem sl5_X5_countUnits_X5_countUnits : osSl [5] yX5_countUnits yX5_countUnits := List.forall_mem_cons.mpr ⟨⟨_, rfl, wd1240⟩, fun _ h => absurd h List.not_mem_nil⟩
theorem mdX5_freeHomes : osMd yX5_freeHomes cX5_freeHomes 5 (some .int) 2 := ⟨wd1229, wd62, ⟨by decide +kernel, by decide +kernel⟩, by decide +kernel⟩
theorem sl5_X5_freeHomes_X5_freeHomes : osSl [5] yX5_freeHomes yX5_freeHomes := List.forall_mem_cons.mpr ⟨⟨_, rfl, wd30⟩, fun _ h => absurd h List.not_mem_nil⟩
theorem mdX5_countAllUnits : osMd yX5_countAllUnits cX5_countAllUnits 1 (some .int) 0 := ⟨wd802, wd62, ⟨by decide +kernel, by decide +kernel⟩, by decide +kernel⟩
theorem sl5_X5_countAllUnits_X5_countAllUnits : osSl [5] yX5_countAllUnits yX5_countAllUnits := List.forall_mem_cons.mpr ⟨⟨_, rfl, wd801⟩, fun _ h => absurd h List.not_mem_nil⟩
theorem mdX5_hasUnit : osMd yX5_hasUnit cX5_hasUnit 2 (some .boolean) 1 := ⟨wd809, wd62, ⟨by decide +kernel, by decide +kernel⟩, by decide +kernel⟩
theorem sl5_X5_hasUnit_X5_hasUnit : osSl [5] yX5_hasUnit yX5_hasUnit := List.forall_mem_cons.mpr ⟨⟨_, rfl, wd808⟩, fun _ h => absurd h List.not_mem_nil⟩
theorem mdX5_canGo : osMd yX5_canGo cX5_canGo 5 (some .boolean) 3 := ⟨wd1155, wd62, ⟨by decide +kernel, by decide +kernel⟩, by decide +kernel⟩
theorem sl5_X5_canGo_X5_canGo : osSl [5] yX5_canGo yX5_canGo := List.forall_mem_cons.mpr ⟨⟨_, rfl, wd1154⟩, fun _ h => absurd h List.not_mem_nil⟩
theorem fX5_151 : osFd RX5 151 [0] 2 .int false := ⟨"OrderSettler$Board", "coasts", "I", wd299, rfl, List.forall_mem_cons.mpr ⟨⟨RX0, TX0, 10, tyX0, rfl, osinX0, nmX0, tyX0_ok, (Nat.le_of_ble_eq_true rfl), rfl, rfl, rfl, Or.inl rfl⟩, fun _ h => absurd h List.not_mem_nil⟩⟩
theorem mdX5_hasDislodged : osMd yX5_hasDislodged cX5_hasDislodged 2 (some .boolean) 1 := ⟨wd1204, wd62, ⟨by decide +kernel, by decide +kernel⟩, by decide +kernel⟩
theorem sl5_X5_hasDislodged_X5_hasDislodged : osSl [5] yX5_hasDislodged yX5_hasDislodged := List.forall_mem_cons.mpr ⟨⟨_, rfl, wd1203⟩, fun _ h => absurd h List.not_mem_nil⟩
theorem mdX5_countBuilds : osMd yX5_countBuilds cX5_countBuilds 5 (some .int) 2 := ⟨wd1233, wd62, ⟨by decide +kernel, by decide +kernel⟩, by decide +kernel⟩
theorem sl5_X5_countBuilds_X5_countBuilds : osSl [5] yX5_countBuilds yX5_countBuilds := List.forall_mem_cons.mpr ⟨⟨_, rfl, wd1232⟩, fun _ h => absurd h List.not_mem_nil⟩
theorem mdX5_clearDislodged : osMd yX5_clearDislodged cX5_clearDislodged 2 none 0 := ⟨wd352, wd62, ⟨by decide +kernel, by decide +kernel⟩, by decide +kernel⟩
theorem sl5_X5_clearDislodged_X5_clearDislodged : osSl [5] yX5_clearDislodged yX5_clearDislodged := List.forall_mem_cons.mpr ⟨⟨_, rfl, wd7⟩, fun _ h => absurd h List.not_mem_nil⟩
theorem mdX5_placeUnit : osMd yX5_placeUnit cX5_placeUnit 4 none 3 := ⟨wd814, wd62, ⟨by decide +kernel, by decide +kernel⟩, by decide +kernel⟩
theorem sl5_X5_placeUnit_X5_placeUnit : osSl [5] yX5_placeUnit yX5_placeUnit := List.forall_mem_cons.mpr ⟨⟨_, rfl, wd813⟩, fun _ h => absurd h List.not_mem_nil⟩
theorem mdX5_holdAll : osMd yX5_holdAll cX5_holdAll 2 none 0 := ⟨wd356, wd62, ⟨by decide +kernel, by decide +kernel⟩, by decide +kernel⟩
theorem sl5_X5_holdAll_X5_holdAll : osSl [5] yX5_holdAll yX5_holdAll := List.forall_mem_cons.mpr ⟨⟨_, rfl, wd8⟩, fun _ h => absurd h List.not_mem_nil⟩
theorem mdX5_needsRemoval : osMd yX5_needsRemoval cX5_needsRemoval 2 (some .boolean) 1 := ⟨wd1263, wd62, ⟨by decide +kernel, by decide +kernel⟩, by decide +kernel⟩
theorem sl5_X5_needsRemoval_X5_needsRemoval : osSl [5] yX5_needsRemoval yX5_needsRemoval := List.forall_mem_cons.mpr ⟨⟨_, rfl, wd1262⟩, fun _ h => absurd h List.not_mem_nil⟩
theorem mdX6_advance : osMd yX6_advance cX6_advance 2 none 0 := ⟨wd660, wd56, ⟨by decide +kernel, by decide +kernel⟩, by decide +kernel⟩
theorem sl3_6_X6_advance_X6_advance : osSl [3, 6] yX6_advance yX6_advance := List.forall_mem_cons.mpr ⟨⟨_, rfl, wd0⟩, List.forall_mem_cons.mpr ⟨⟨_, rfl, wd1⟩, fun _ h => absurd h List.not_mem_nil⟩⟩
theorem mdX6_take : osMd yX6_take cX6_take 2 (some .boolean) 1 := ⟨wd678, wd56, ⟨by decide +kernel, by decide +kernel⟩, by decide +kernel⟩
theorem sl3_6_X6_take_X6_take : osSl [3, 6] yX6_take yX6_take := List.forall_mem_cons.mpr ⟨⟨_, rfl, wd1532⟩, List.forall_mem_cons.mpr ⟨⟨_, rfl, wd1533⟩, fun _ h => absurd h List.not_mem_nil⟩⟩
theorem mdX6_fail : osMd yX6_fail cX6_fail 3 (some .boolean) 2 := ⟨wd688, wd56, ⟨by decide +kernel, by decide +kernel⟩, by decide +kernel⟩
theorem sl3_6_X6_fail_X6_fail : osSl [3, 6] yX6_fail yX6_fail := List.forall_mem_cons.mpr ⟨⟨_, rfl, wd1518⟩, List.forall_mem_cons.mpr ⟨⟨_, rfl, wd1519⟩, fun _ h => absurd h List.not_mem_nil⟩⟩
theorem mdX8_isKeyword : osMd yX8_isKeyword cX8_isKeyword 3 (some .boolean) 1 := ⟨wd697, wd79, ⟨by decide +kernel, by decide +kernel⟩, by decide +kernel⟩
theorem mdX6_takeName : osMd yX6_takeName cX6_takeName 2 (some .int) 0 := ⟨wd694, wd56, ⟨by decide +kernel, by decide +kernel⟩, by decide +kernel⟩
theorem sl3_6_X6_takeName_X6_takeName : osSl [3, 6] yX6_takeName yX6_takeName := List.forall_mem_cons.mpr ⟨⟨_, rfl, wd1521⟩, List.forall_mem_cons.mpr ⟨⟨_, rfl, wd1522⟩, fun _ h => absurd h List.not_mem_nil⟩⟩
theorem mdX0_findArea : osMd yX0_findArea cX0_findArea 3 (some .int) 1 := ⟨wd704, wd61, ⟨by decide +kernel, by decide +kernel⟩, by decide +kernel⟩
theorem sl0_X0_findArea_X0_findArea : osSl [0] yX0_findArea yX0_findArea := List.forall_mem_cons.mpr ⟨⟨_, rfl, wd703⟩, fun _ h => absurd h List.not_mem_nil⟩
theorem mdX6_takeArea : osMd yX6_takeArea cX6_takeArea 4 (some .int) 1 := ⟨wd729, wd56, ⟨by decide +kernel, by decide +kernel⟩, by decide +kernel⟩
theorem sl6_X7itakeArea_X6_takeArea : osSl [6] (⟨RX7, "takeArea", "(LOrderSettler$Board;)I"⟩ : MethodName) yX6_takeArea := List.forall_mem_cons.mpr ⟨⟨_, rfl, wd1131⟩, fun _ h => absurd h List.not_mem_nil⟩
theorem sl6_X7itake_X6_take : osSl [6] (⟨RX7, "take", "(LOrderSettler$Word;)Z"⟩ : MethodName) yX6_take := List.forall_mem_cons.mpr ⟨⟨_, rfl, wd1140⟩, fun _ h => absurd h List.not_mem_nil⟩
theorem mdX5_allowsMoveSupport : osMd yX5_allowsMoveSupport cX5_allowsMoveSupport 5 (some .boolean) 4 := ⟨wd1179, wd62, ⟨by decide +kernel, by decide +kernel⟩, by decide +kernel⟩
theorem sl5_X5_allowsMoveSupport_X5_allowsMoveSupport : osSl [5] yX5_allowsMoveSupport yX5_allowsMoveSupport := List.forall_mem_cons.mpr ⟨⟨_, rfl, wd1178⟩, fun _ h => absurd h List.not_mem_nil⟩
theorem fX7_68 : osFd RX7 68 [6] 7 .int false := ⟨"OrderSettler$TurnReader", "nameStart", "I", wd125, rfl, List.forall_mem_cons.mpr ⟨⟨RX7, TX7, 10, tyX7, rfl, osinX7, nmX7, tyX7_ok, (Nat.le_of_ble_eq_true rfl), rfl, rfl, rfl, Or.inr wd126⟩, fun _ h => absurd h List.not_mem_nil⟩⟩
theorem sl6_X7ifail_X6_fail : osSl [6] (⟨RX7, "fail", "(II)Z"⟩ : MethodName) yX6_fail := List.forall_mem_cons.mpr ⟨⟨_, rfl, wd1135⟩, fun _ h => absurd h List.not_mem_nil⟩
theorem mdX5_allowsUnitSupport : osMd yX5_allowsUnitSupport cX5_allowsUnitSupport 4 (some .boolean) 3 := ⟨wd1174, wd62, ⟨by decide +kernel, by decide +kernel⟩, by decide +kernel⟩
theorem sl5_X5_allowsUnitSupport_X5_allowsUnitSupport : osSl [5] yX5_allowsUnitSupport yX5_allowsUnitSupport := List.forall_mem_cons.mpr ⟨⟨_, rfl, wd1173⟩, fun _ h => absurd h List.not_mem_nil⟩
theorem mdX6_takeOrFail : osMd yX6_takeOrFail cX6_takeOrFail 2 (some .boolean) 1 := ⟨wd1187, wd56, ⟨by decide +kernel, by decide +kernel⟩, by decide +kernel⟩
theorem sl6_X7itakeOrFail_X6_takeOrFail : osSl [6] (⟨RX7, "takeOrFail", "(LOrderSettler$Word;)Z"⟩ : MethodName) yX6_takeOrFail := List.forall_mem_cons.mpr ⟨⟨_, rfl, wd1185⟩, fun _ h => absurd h List.not_mem_nil⟩
theorem mdX5_allowsRetreat : osMd yX5_allowsRetreat cX5_allowsRetreat 4 (some .boolean) 3 := ⟨wd1214, wd62, ⟨by decide +kernel, by decide +kernel⟩, by decide +kernel⟩
theorem sl5_X5_allowsRetreat_X5_allowsRetreat : osSl [5] yX5_allowsRetreat yX5_allowsRetreat := List.forall_mem_cons.mpr ⟨⟨_, rfl, wd1213⟩, fun _ h => absurd h List.not_mem_nil⟩
theorem mdX5_giveRetreat : osMd yX5_giveRetreat cX5_giveRetreat 3 none 2 := ⟨wd1210, wd62, ⟨by decide +kernel, by decide +kernel⟩, by decide +kernel⟩
theorem sl5_X5_giveRetreat_X5_giveRetreat : osSl [5] yX5_giveRetreat yX5_giveRetreat := List.forall_mem_cons.mpr ⟨⟨_, rfl, wd1209⟩, fun _ h => absurd h List.not_mem_nil⟩
theorem mdX5_allowsBuild : osMd yX5_allowsBuild cX5_allowsBuild 4 (some .boolean) 2 := ⟨wd1225, wd62, ⟨by decide +kernel, by decide +kernel⟩, by decide +kernel⟩
theorem sl5_X5_allowsBuild_X5_allowsBuild : osSl [5] yX5_allowsBuild yX5_allowsBuild := List.forall_mem_cons.mpr ⟨⟨_, rfl, wd1224⟩, fun _ h => absurd h List.not_mem_nil⟩
theorem fX7_132 : osFd RX7 132 [6] 6 .int false := ⟨"OrderSettler$TurnReader", "start", "I", wd122, rfl, List.forall_mem_cons.mpr ⟨⟨RX7, TX7, 10, tyX7, rfl, osinX7, nmX7, tyX7_ok, (Nat.le_of_ble_eq_true rfl), rfl, rfl, rfl, Or.inr wd123⟩, fun _ h => absurd h List.not_mem_nil⟩⟩
theorem mdX0_suits : osMd yX0_suits cX0_suits 3 (some .boolean) 2 := ⟨wd747, wd61, ⟨by decide +kernel, by decide +kernel⟩, by decide +kernel⟩
theorem sl0_X0_suits_X0_suits : osSl [0] yX0_suits yX0_suits := List.forall_mem_cons.mpr ⟨⟨_, rfl, wd746⟩, fun _ h => absurd h List.not_mem_nil⟩
theorem fX7_146 : osFd RX7 146 [0] 6 (.array .int) true := ⟨"OrderSettler$Board", "home", "[I", wd310, rfl, List.forall_mem_cons.mpr ⟨⟨RX0, TX0, 10, tyX0, rfl, osinX0, nmX0, tyX0_ok, (Nat.le_of_ble_eq_true rfl), rfl, rfl, rfl, Or.inl rfl⟩, fun _ h => absurd h List.not_mem_nil⟩⟩
theorem fX7_158 : osFd RX7 158 [5] 6 (.array .int) true := ⟨"OrderSettler$State", "unitPower", "[I", wd376, rfl, List.forall_mem_cons.mpr ⟨⟨RX5, TX5, 16, tyX5, rfl, osinX5, nmX5, tyX5_ok, (Nat.le_of_ble_eq_true rfl), rfl, rfl, rfl, Or.inl rfl⟩, fun _ h => absurd h List.not_mem_nil⟩⟩
theorem mdX9_append : osMd yX9_append cX9_append 3 none 1 := ⟨wd617, wd54, ⟨by decide +kernel, by decide +kernel⟩, by decide +kernel⟩
theorem sl7_X9_append_X9_append : osSl [7] yX9_append yX9_append := List.forall_mem_cons.mpr ⟨⟨_, rfl, wd10⟩, fun _ h => absurd h List.not_mem_nil⟩
theorem mdX9_requireArea : osMd yX9_requireArea cX9_requireArea 2 none 1 := ⟨wd1059, wd54, ⟨by decide +kernel, by decide +kernel⟩, by decide +kernel⟩
theorem sl7_X9_requireArea_X9_requireArea : osSl [7] yX9_requireArea yX9_requireArea := List.forall_mem_cons.mpr ⟨⟨_, rfl, wd20⟩, fun _ h => absurd h List.not_mem_nil⟩
theorem mdX9_requireReport : osMd yX9_requireReport cX9_requireReport 3 none 2 := ⟨wd1080, wd54, ⟨by decide +kernel, by decide +kernel⟩, by decide +kernel⟩
theorem sl7_X9_requireReport_X9_requireReport : osSl [7] yX9_requireReport yX9_requireReport := List.forall_mem_cons.mpr ⟨⟨_, rfl, wd21⟩, fun _ h => absurd h List.not_mem_nil⟩
theorem mdX0_kindOf : osMd yX0_kindOf cX0_kindOf 2 (some .int) 1 := ⟨wd1085, wd61, ⟨by decide +kernel, by decide +kernel⟩, by decide +kernel⟩
theorem sl0_X0_kindOf_X0_kindOf : osSl [0] yX0_kindOf yX0_kindOf := List.forall_mem_cons.mpr ⟨⟨_, rfl, wd1084⟩, fun _ h => absurd h List.not_mem_nil⟩
theorem fX9_136 : osFd RX9 136 [0] 4 .int false := ⟨"OrderSettler$Board", "centers", "I", wd304, rfl, List.forall_mem_cons.mpr ⟨⟨RX0, TX0, 10, tyX0, rfl, osinX0, nmX0, tyX0_ok, (Nat.le_of_ble_eq_true rfl), rfl, rfl, rfl, Or.inl rfl⟩, fun _ h => absurd h List.not_mem_nil⟩⟩
theorem fX9_143 : osFd RX9 143 [0] 6 (.array .int) true := ⟨"OrderSettler$Board", "home", "[I", wd309, rfl, List.forall_mem_cons.mpr ⟨⟨RX0, TX0, 10, tyX0, rfl, osinX0, nmX0, tyX0_ok, (Nat.le_of_ble_eq_true rfl), rfl, rfl, rfl, Or.inl rfl⟩, fun _ h => absurd h List.not_mem_nil⟩⟩
theorem fX9_151 : osFd RX9 151 [5] 5 (.array .int) true := ⟨"OrderSettler$State", "owner", "[I", wd372, rfl, List.forall_mem_cons.mpr ⟨⟨RX5, TX5, 16, tyX5, rfl, osinX5, nmX5, tyX5_ok, (Nat.le_of_ble_eq_true rfl), rfl, rfl, rfl, Or.inl rfl⟩, fun _ h => absurd h List.not_mem_nil⟩⟩
theorem fX9_154 : osFd RX9 154 [5] 6 (.array .int) true := ⟨"OrderSettler$State", "unitPower", "[I", wd375, rfl, List.forall_mem_cons.mpr ⟨⟨RX5, TX5, 16, tyX5, rfl, osinX5, nmX5, tyX5_ok, (Nat.le_of_ble_eq_true rfl), rfl, rfl, rfl, Or.inl rfl⟩, fun _ h => absurd h List.not_mem_nil⟩⟩
theorem fX9_157 : osFd RX9 157 [5] 7 (.array .int) true := ⟨"OrderSettler$State", "unitKind", "[I", wd378, rfl, List.forall_mem_cons.mpr ⟨⟨RX5, TX5, 16, tyX5, rfl, osinX5, nmX5, tyX5_ok, (Nat.le_of_ble_eq_true rfl), rfl, rfl, rfl, Or.inl rfl⟩, fun _ h => absurd h List.not_mem_nil⟩⟩
theorem fX9_160 : osFd RX9 160 [5] 8 (.array .int) true := ⟨"OrderSettler$State", "outPower", "[I", wd380, rfl, List.forall_mem_cons.mpr ⟨⟨RX5, TX5, 16, tyX5, rfl, osinX5, nmX5, tyX5_ok, (Nat.le_of_ble_eq_true rfl), rfl, rfl, rfl, Or.inl rfl⟩, fun _ h => absurd h List.not_mem_nil⟩⟩
theorem fX9_163 : osFd RX9 163 [5] 9 (.array .int) true := ⟨"OrderSettler$State", "outKind", "[I", wd382, rfl, List.forall_mem_cons.mpr ⟨⟨RX5, TX5, 16, tyX5, rfl, osinX5, nmX5, tyX5_ok, (Nat.le_of_ble_eq_true rfl), rfl, rfl, rfl, Or.inl rfl⟩, fun _ h => absurd h List.not_mem_nil⟩⟩
theorem mdX9_requirePower : osMd yX9_requirePower cX9_requirePower 2 none 1 := ⟨wd1489, wd54, ⟨by decide +kernel, by decide +kernel⟩, by decide +kernel⟩
theorem sl7_X9_requirePower_X9_requirePower : osSl [7] yX9_requirePower yX9_requirePower := List.forall_mem_cons.mpr ⟨⟨_, rfl, wd52⟩, fun _ h => absurd h List.not_mem_nil⟩
theorem mdX0_countHomes : osMd yX0_countHomes cX0_countHomes 4 (some .int) 1 := ⟨wd1496, wd61, ⟨by decide +kernel, by decide +kernel⟩, by decide +kernel⟩
theorem sl0_X0_countHomes_X0_countHomes : osSl [0] yX0_countHomes yX0_countHomes := List.forall_mem_cons.mpr ⟨⟨_, rfl, wd1495⟩, fun _ h => absurd h List.not_mem_nil⟩
theorem mdX9_requireSettled : osMd yX9_requireSettled cX9_requireSettled 1 none 0 := ⟨wd1435, wd54, ⟨by decide +kernel, by decide +kernel⟩, by decide +kernel⟩
theorem sl7_X9_requireSettled_X9_requireSettled : osSl [7] yX9_requireSettled yX9_requireSettled := List.forall_mem_cons.mpr ⟨⟨_, rfl, wd51⟩, fun _ h => absurd h List.not_mem_nil⟩
theorem fX9_251 : osFd RX9 251 [5] 15 (.array .int) true := ⟨"OrderSettler$State", "results", "[I", wd395, rfl, List.forall_mem_cons.mpr ⟨⟨RX5, TX5, 16, tyX5, rfl, osinX5, nmX5, tyX5_ok, (Nat.le_of_ble_eq_true rfl), rfl, rfl, rfl, Or.inl rfl⟩, fun _ h => absurd h List.not_mem_nil⟩⟩
theorem fX9_257 : osFd RX9 257 [5] 4 .int false := ⟨"OrderSettler$State", "contested", "I", wd370, rfl, List.forall_mem_cons.mpr ⟨⟨RX5, TX5, 16, tyX5, rfl, osinX5, nmX5, tyX5_ok, (Nat.le_of_ble_eq_true rfl), rfl, rfl, rfl, Or.inl rfl⟩, fun _ h => absurd h List.not_mem_nil⟩⟩
theorem fX9_53 : osFd RX9 53 [7] 8 (.array (.object "OrderSettler$State")) true := ⟨"OrderSettler", "past", "[LOrderSettler$State;", wd437, rfl, List.forall_mem_cons.mpr ⟨⟨RX9, TX9, 14, tyX9, rfl, osinX9, nmX9, tyX9_ok, (Nat.le_of_ble_eq_true rfl), rfl, rfl, rfl, Or.inl rfl⟩, fun _ h => absurd h List.not_mem_nil⟩⟩
theorem mdX5_copyFrom : osMd yX5_copyFrom cX5_copyFrom 2 none 1 := ⟨wd1105, wd62, ⟨by decide +kernel, by decide +kernel⟩, by decide +kernel⟩
theorem sl5_X5_copyFrom_X5_copyFrom : osSl [5] yX5_copyFrom yX5_copyFrom := List.forall_mem_cons.mpr ⟨⟨_, rfl, wd1104⟩, fun _ h => absurd h List.not_mem_nil⟩
theorem mdX9_feed : osMd yX9_feed cX9_feed 6 (some .int) 5 := ⟨wd546, wd54, ⟨by decide +kernel, by decide +kernel⟩, by decide +kernel⟩
theorem sl7_X9_feed_X9_feed : osSl [7] yX9_feed yX9_feed := List.forall_mem_cons.mpr ⟨⟨_, rfl, wd545⟩, fun _ h => absurd h List.not_mem_nil⟩
theorem mdJ0_charAt_5068e : osMd yJ0_charAt_5068e cJ0_charAt_5068e 2 (some .char) 1 := ⟨wd508, wd65, ⟨by decide +kernel, by decide +kernel⟩, by decide +kernel⟩
theorem mdL_border : osMd yL_border cL_border 2 (some (.object "java/lang/String")) 2 := ⟨wd983, wd53, ⟨by decide +kernel, by decide +kernel⟩, by decide +kernel⟩
theorem mdX9_mayRetreat : osMd yX9_mayRetreat cX9_mayRetreat 3 (some .boolean) 2 := ⟨wd1458, wd54, ⟨by decide +kernel, by decide +kernel⟩, by decide +kernel⟩
theorem sl7_X9_mayRetreat_X9_mayRetreat : osSl [7] yX9_mayRetreat yX9_mayRetreat := List.forall_mem_cons.mpr ⟨⟨_, rfl, wd1457⟩, fun _ h => absurd h List.not_mem_nil⟩
theorem mdX9_undo : osMd yX9_undo cX9_undo 1 (some .int) 0 := ⟨wd1446, wd54, ⟨by decide +kernel, by decide +kernel⟩, by decide +kernel⟩
theorem sl7_X9_undo_X9_undo : osSl [7] yX9_undo yX9_undo := List.forall_mem_cons.mpr ⟨⟨_, rfl, wd1445⟩, fun _ h => absurd h List.not_mem_nil⟩
theorem mdX9_areas : osMd yX9_areas cX9_areas 1 (some .int) 0 := ⟨wd475, wd54, ⟨by decide +kernel, by decide +kernel⟩, by decide +kernel⟩
theorem sl7_X9_areas_X9_areas : osSl [7] yX9_areas yX9_areas := List.forall_mem_cons.mpr ⟨⟨_, rfl, wd474⟩, fun _ h => absurd h List.not_mem_nil⟩
theorem mdX9_area : osMd yX9_area cX9_area 3 (some .int) 2 := ⟨wd1055, wd54, ⟨by decide +kernel, by decide +kernel⟩, by decide +kernel⟩
theorem sl7_X9_area_X9_area : osSl [7] yX9_area yX9_area := List.forall_mem_cons.mpr ⟨⟨_, rfl, wd1054⟩, fun _ h => absurd h List.not_mem_nil⟩
theorem mdX9_phase : osMd yX9_phase cX9_phase 1 (some .int) 0 := ⟨wd479, wd54, ⟨by decide +kernel, by decide +kernel⟩, by decide +kernel⟩
theorem sl7_X9_phase_X9_phase : osSl [7] yX9_phase yX9_phase := List.forall_mem_cons.mpr ⟨⟨_, rfl, wd478⟩, fun _ h => absurd h List.not_mem_nil⟩
theorem mdX9_turn : osMd yX9_turn cX9_turn 1 (some .int) 0 := ⟨wd1387, wd54, ⟨by decide +kernel, by decide +kernel⟩, by decide +kernel⟩
theorem sl7_X9_turn_X9_turn : osSl [7] yX9_turn yX9_turn := List.forall_mem_cons.mpr ⟨⟨_, rfl, wd1386⟩, fun _ h => absurd h List.not_mem_nil⟩
theorem fX1_96 : osFd RX1 96 [2] 5 .int false := ⟨"OrderSettler$Links", "supports", "I", wd194, rfl, List.forall_mem_cons.mpr ⟨⟨RX2, TX2, 16, tyX2, rfl, osinX2, nmX2, tyX2_ok, (Nat.le_of_ble_eq_true rfl), rfl, rfl, rfl, Or.inl rfl⟩, fun _ h => absurd h List.not_mem_nil⟩⟩
theorem fX1_99 : osFd RX1 99 [2] 11 (.array .int) true := ⟨"OrderSettler$Links", "cutters", "[I", wd206, rfl, List.forall_mem_cons.mpr ⟨⟨RX2, TX2, 16, tyX2, rfl, osinX2, nmX2, tyX2_ok, (Nat.le_of_ble_eq_true rfl), rfl, rfl, rfl, Or.inl rfl⟩, fun _ h => absurd h List.not_mem_nil⟩⟩
theorem mdX1_isCarried : osMd yX1_isCarried cX1_isCarried 7 (some .boolean) 1 := ⟨wd1341, wd59, ⟨by decide +kernel, by decide +kernel⟩, by decide +kernel⟩
theorem sl1_X1_isCarried_X1_isCarried : osSl [1] yX1_isCarried yX1_isCarried := List.forall_mem_cons.mpr ⟨⟨_, rfl, wd41⟩, fun _ h => absurd h List.not_mem_nil⟩
theorem mdX1_preventionOf : osMd yX1_preventionOf cX1_preventionOf 6 (some .int) 1 := ⟨wd1363, wd59, ⟨by decide +kernel, by decide +kernel⟩, by decide +kernel⟩
theorem sl1_X1_preventionOf_X1_preventionOf : osSl [1] yX1_preventionOf yX1_preventionOf := List.forall_mem_cons.mpr ⟨⟨_, rfl, wd46⟩, fun _ h => absurd h List.not_mem_nil⟩
theorem mdX1_summaryOf : osMd yX1_summaryOf cX1_summaryOf 2 (some .int) 1 := ⟨wd1376, wd59, ⟨by decide +kernel, by decide +kernel⟩, by decide +kernel⟩
theorem sl1_X1_summaryOf_X1_summaryOf : osSl [1] yX1_summaryOf yX1_summaryOf := List.forall_mem_cons.mpr ⟨⟨_, rfl, wd48⟩, fun _ h => absurd h List.not_mem_nil⟩
theorem mdX1_reasonFor : osMd yX1_reasonFor cX1_reasonFor 2 (some .int) 1 := ⟨wd1380, wd59, ⟨by decide +kernel, by decide +kernel⟩, by decide +kernel⟩
theorem sl1_X1_reasonFor_X1_reasonFor : osSl [1] yX1_reasonFor yX1_reasonFor := List.forall_mem_cons.mpr ⟨⟨_, rfl, wd49⟩, fun _ h => absurd h List.not_mem_nil⟩
theorem mdX0_bordersOf : osMd yX0_bordersOf cX0_bordersOf 3 (some .int) 2 := ⟨wd1305, wd61, ⟨by decide +kernel, by decide +kernel⟩, by decide +kernel⟩
theorem sl0_X0_bordersOf_X0_bordersOf : osSl [0] yX0_bordersOf yX0_bordersOf := List.forall_mem_cons.mpr ⟨⟨_, rfl, wd1304⟩, fun _ h => absurd h List.not_mem_nil⟩
theorem fX3_86 : osFd RX3 86 [0] 0 .int false := ⟨"OrderSettler$Board", "areaCount", "I", wd292, rfl, List.forall_mem_cons.mpr ⟨⟨RX0, TX0, 10, tyX0, rfl, osinX0, nmX0, tyX0_ok, (Nat.le_of_ble_eq_true rfl), rfl, rfl, rfl, Or.inl rfl⟩, fun _ h => absurd h List.not_mem_nil⟩⟩
theorem sl3_X3itakeName_X6_takeName : osSl [3] (⟨RX3, "takeName", "()I"⟩ : MethodName) yX6_takeName := List.forall_mem_cons.mpr ⟨⟨_, rfl, wd692⟩, fun _ h => absurd h List.not_mem_nil⟩
theorem fX3_34 : osFd RX3 34 [3] 6 .int false := ⟨"OrderSettler$MapReader", "start", "I", wd120, rfl, List.forall_mem_cons.mpr ⟨⟨RX3, TX3, 10, tyX3, rfl, osinX3, nmX3, tyX3_ok, (Nat.le_of_ble_eq_true rfl), rfl, rfl, rfl, Or.inr wd121⟩, fun _ h => absurd h List.not_mem_nil⟩⟩
theorem sl3_X3itake_X6_take : osSl [3] (⟨RX3, "take", "(LOrderSettler$Word;)Z"⟩ : MethodName) yX6_take := List.forall_mem_cons.mpr ⟨⟨_, rfl, wd676⟩, fun _ h => absurd h List.not_mem_nil⟩
theorem mdX0_addArea : osMd yX0_addArea cX0_addArea 5 none 3 := ⟨wd710, wd61, ⟨by decide +kernel, by decide +kernel⟩, by decide +kernel⟩
theorem sl0_X0_addArea_X0_addArea : osSl [0] yX0_addArea yX0_addArea := List.forall_mem_cons.mpr ⟨⟨_, rfl, wd709⟩, fun _ h => absurd h List.not_mem_nil⟩
theorem sl3_X3ifail_X6_fail : osSl [3] (⟨RX3, "fail", "(II)Z"⟩ : MethodName) yX6_fail := List.forall_mem_cons.mpr ⟨⟨_, rfl, wd686⟩, fun _ h => absurd h List.not_mem_nil⟩
theorem fX3_97 : osFd RX3 97 [3] 7 .int false := ⟨"OrderSettler$MapReader", "nameStart", "I", wd127, rfl, List.forall_mem_cons.mpr ⟨⟨RX3, TX3, 10, tyX3, rfl, osinX3, nmX3, tyX3_ok, (Nat.le_of_ble_eq_true rfl), rfl, rfl, rfl, Or.inr wd128⟩, fun _ h => absurd h List.not_mem_nil⟩⟩
theorem sl3_X3itakeArea_X6_takeArea : osSl [3] (⟨RX3, "takeArea", "(LOrderSettler$Board;)I"⟩ : MethodName) yX6_takeArea := List.forall_mem_cons.mpr ⟨⟨_, rfl, wd727⟩, fun _ h => absurd h List.not_mem_nil⟩
theorem mdX0_hasBorder : osMd yX0_hasBorder cX0_hasBorder 3 (some .boolean) 2 := ⟨wd735, wd61, ⟨by decide +kernel, by decide +kernel⟩, by decide +kernel⟩
theorem sl0_X0_hasBorder_X0_hasBorder : osSl [0] yX0_hasBorder yX0_hasBorder := List.forall_mem_cons.mpr ⟨⟨_, rfl, wd734⟩, fun _ h => absurd h List.not_mem_nil⟩
theorem mdX0_addBorder : osMd yX0_addBorder cX0_addBorder 5 none 4 := ⟨wd754, wd61, ⟨by decide +kernel, by decide +kernel⟩, by decide +kernel⟩
theorem sl0_X0_addBorder_X0_addBorder : osSl [0] yX0_addBorder yX0_addBorder := List.forall_mem_cons.mpr ⟨⟨_, rfl, wd753⟩, fun _ h => absurd h List.not_mem_nil⟩
theorem fX3_136 : osFd RX3 136 [0] 6 (.array .int) true := ⟨"OrderSettler$Board", "home", "[I", wd308, rfl, List.forall_mem_cons.mpr ⟨⟨RX0, TX0, 10, tyX0, rfl, osinX0, nmX0, tyX0_ok, (Nat.le_of_ble_eq_true rfl), rfl, rfl, rfl, Or.inl rfl⟩, fun _ h => absurd h List.not_mem_nil⟩⟩
theorem fX3_144 : osFd RX3 144 [0] 4 .int false := ⟨"OrderSettler$Board", "centers", "I", wd303, rfl, List.forall_mem_cons.mpr ⟨⟨RX0, TX0, 10, tyX0, rfl, osinX0, nmX0, tyX0_ok, (Nat.le_of_ble_eq_true rfl), rfl, rfl, rfl, Or.inl rfl⟩, fun _ h => absurd h List.not_mem_nil⟩⟩
theorem mdX0_makeHome : osMd yX0_makeHome cX0_makeHome 3 none 2 := ⟨wd790, wd61, ⟨by decide +kernel, by decide +kernel⟩, by decide +kernel⟩
theorem sl0_X0_makeHome_X0_makeHome : osSl [0] yX0_makeHome yX0_makeHome := List.forall_mem_cons.mpr ⟨⟨_, rfl, wd789⟩, fun _ h => absurd h List.not_mem_nil⟩
theorem mdX5_giveCenter : osMd yX5_giveCenter cX5_giveCenter 3 none 2 := ⟨wd794, wd62, ⟨by decide +kernel, by decide +kernel⟩, by decide +kernel⟩
theorem sl5_X5_giveCenter_X5_giveCenter : osSl [5] yX5_giveCenter yX5_giveCenter := List.forall_mem_cons.mpr ⟨⟨_, rfl, wd793⟩, fun _ h => absurd h List.not_mem_nil⟩
theorem mdX0_findPower : osMd yX0_findPower cX0_findPower 3 (some .int) 1 := ⟨wd768, wd61, ⟨by decide +kernel, by decide +kernel⟩, by decide +kernel⟩
theorem sl0_X0_findPower_X0_findPower : osSl [0] yX0_findPower yX0_findPower := List.forall_mem_cons.mpr ⟨⟨_, rfl, wd767⟩, fun _ h => absurd h List.not_mem_nil⟩
theorem mdX5_clearUnits : osMd yX5_clearUnits cX5_clearUnits 2 none 0 := ⟨wd348, wd62, ⟨by decide +kernel, by decide +kernel⟩, by decide +kernel⟩
theorem sl5_X5_clearUnits_X5_clearUnits : osSl [5] yX5_clearUnits yX5_clearUnits := List.forall_mem_cons.mpr ⟨⟨_, rfl, wd6⟩, fun _ h => absurd h List.not_mem_nil⟩
theorem mdX5_hasArmy : osMd yX5_hasArmy cX5_hasArmy 2 (some .boolean) 1 := ⟨wd1160, wd62, ⟨by decide +kernel, by decide +kernel⟩, by decide +kernel⟩
theorem sl5_X5_hasArmy_X5_hasArmy : osSl [5] yX5_hasArmy yX5_hasArmy := List.forall_mem_cons.mpr ⟨⟨_, rfl, wd25⟩, fun _ h => absurd h List.not_mem_nil⟩
theorem mdX5_joinsCoasts : osMd yX5_joinsCoasts cX5_joinsCoasts 3 (some .boolean) 3 := ⟨wd1163, wd62, ⟨by decide +kernel, by decide +kernel⟩, by decide +kernel⟩
theorem fX5_144 : osFd RX5 144 [0] 3 .int false := ⟨"OrderSettler$Board", "seas", "I", wd301, rfl, List.forall_mem_cons.mpr ⟨⟨RX0, TX0, 10, tyX0, rfl, osinX0, nmX0, tyX0_ok, (Nat.le_of_ble_eq_true rfl), rfl, rfl, rfl, Or.inl rfl⟩, fun _ h => absurd h List.not_mem_nil⟩⟩
theorem fX5_192 : osFd RX5 192 [0] 1 .int false := ⟨"OrderSettler$Board", "powerCount", "I", wd297, rfl, List.forall_mem_cons.mpr ⟨⟨RX0, TX0, 10, tyX0, rfl, osinX0, nmX0, tyX0_ok, (Nat.le_of_ble_eq_true rfl), rfl, rfl, rfl, Or.inl rfl⟩, fun _ h => absurd h List.not_mem_nil⟩⟩
theorem mdX5_beginTurn : osMd yX5_beginTurn cX5_beginTurn 1 none 0 := ⟨wd1425, wd62, ⟨by decide +kernel, by decide +kernel⟩, by decide +kernel⟩
theorem sl5_X5_beginTurn_X5_beginTurn : osSl [5] yX5_beginTurn yX5_beginTurn := List.forall_mem_cons.mpr ⟨⟨_, rfl, wd1424⟩, fun _ h => absurd h List.not_mem_nil⟩
theorem fX5_189 : osFd RX5 189 [0] 4 .int false := ⟨"OrderSettler$Board", "centers", "I", wd305, rfl, List.forall_mem_cons.mpr ⟨⟨RX0, TX0, 10, tyX0, rfl, osinX0, nmX0, tyX0_ok, (Nat.le_of_ble_eq_true rfl), rfl, rfl, rfl, Or.inl rfl⟩, fun _ h => absurd h List.not_mem_nil⟩⟩
theorem mdX5_allowsMove : osMd yX5_allowsMove cX5_allowsMove 4 (some .boolean) 3 := ⟨wd1151, wd62, ⟨by decide +kernel, by decide +kernel⟩, by decide +kernel⟩
theorem sl5_X5_allowsMove_X5_allowsMove : osSl [5] yX5_allowsMove yX5_allowsMove := List.forall_mem_cons.mpr ⟨⟨_, rfl, wd1150⟩, fun _ h => absurd h List.not_mem_nil⟩
theorem mdX5_allowsConvoy : osMd yX5_allowsConvoy cX5_allowsConvoy 5 (some .boolean) 4 := ⟨wd1196, wd62, ⟨by decide +kernel, by decide +kernel⟩, by decide +kernel⟩
theorem sl5_X5_allowsConvoy_X5_allowsConvoy : osSl [5] yX5_allowsConvoy yX5_allowsConvoy := List.forall_mem_cons.mpr ⟨⟨_, rfl, wd1195⟩, fun _ h => absurd h List.not_mem_nil⟩
theorem mdX9_requireUnit : osMd yX9_requireUnit cX9_requireUnit 2 none 1 := ⟨wd1278, wd54, ⟨by decide +kernel, by decide +kernel⟩, by decide +kernel⟩
theorem sl7_X9_requireUnit_X9_requireUnit : osSl [7] yX9_requireUnit yX9_requireUnit := List.forall_mem_cons.mpr ⟨⟨_, rfl, wd32⟩, fun _ h => absurd h List.not_mem_nil⟩
theorem mdX9_requirePhase : osMd yX9_requirePhase cX9_requirePhase 2 none 1 := ⟨wd1284, wd54, ⟨by decide +kernel, by decide +kernel⟩, by decide +kernel⟩
theorem sl7_X9_requirePhase_X9_requirePhase : osSl [7] yX9_requirePhase yX9_requirePhase := List.forall_mem_cons.mpr ⟨⟨_, rfl, wd33⟩, fun _ h => absurd h List.not_mem_nil⟩
theorem fX9_213 : osFd RX9 213 [5] 12 (.array .int) true := ⟨"OrderSettler$State", "orderKind", "[I", wd387, rfl, List.forall_mem_cons.mpr ⟨⟨RX5, TX5, 16, tyX5, rfl, osinX5, nmX5, tyX5_ok, (Nat.le_of_ble_eq_true rfl), rfl, rfl, rfl, Or.inl rfl⟩, fun _ h => absurd h List.not_mem_nil⟩⟩
theorem fX9_216 : osFd RX9 216 [5] 13 (.array .int) true := ⟨"OrderSettler$State", "orderFirst", "[I", wd390, rfl, List.forall_mem_cons.mpr ⟨⟨RX5, TX5, 16, tyX5, rfl, osinX5, nmX5, tyX5_ok, (Nat.le_of_ble_eq_true rfl), rfl, rfl, rfl, Or.inl rfl⟩, fun _ h => absurd h List.not_mem_nil⟩⟩
theorem fX9_219 : osFd RX9 219 [5] 14 (.array .int) true := ⟨"OrderSettler$State", "orderSecond", "[I", wd393, rfl, List.forall_mem_cons.mpr ⟨⟨RX5, TX5, 16, tyX5, rfl, osinX5, nmX5, tyX5_ok, (Nat.le_of_ble_eq_true rfl), rfl, rfl, rfl, Or.inl rfl⟩, fun _ h => absurd h List.not_mem_nil⟩⟩
theorem mdX9_remember : osMd yX9_remember cX9_remember 3 none 0 := ⟨wd1398, wd54, ⟨by decide +kernel, by decide +kernel⟩, by decide +kernel⟩
theorem sl7_X9_remember_X9_remember : osSl [7] yX9_remember yX9_remember := List.forall_mem_cons.mpr ⟨⟨_, rfl, wd50⟩, fun _ h => absurd h List.not_mem_nil⟩
theorem mdX5_carryOutRetreats : osMd yX5_carryOutRetreats cX5_carryOutRetreats 5 (some .int) 1 := ⟨wd1478, wd62, ⟨by decide +kernel, by decide +kernel⟩, by decide +kernel⟩
theorem sl5_X5_carryOutRetreats_X5_carryOutRetreats : osSl [5] yX5_carryOutRetreats yX5_carryOutRetreats := List.forall_mem_cons.mpr ⟨⟨_, rfl, wd1477⟩, fun _ h => absurd h List.not_mem_nil⟩
theorem mdX5_closeTurn : osMd yX5_closeTurn cX5_closeTurn 3 none 1 := ⟨wd1421, wd62, ⟨by decide +kernel, by decide +kernel⟩, by decide +kernel⟩
theorem sl5_X5_closeTurn_X5_closeTurn : osSl [5] yX5_closeTurn yX5_closeTurn := List.forall_mem_cons.mpr ⟨⟨_, rfl, wd1420⟩, fun _ h => absurd h List.not_mem_nil⟩
theorem mdX5_disbandSurplus : osMd yX5_disbandSurplus cX5_disbandSurplus 4 (some .int) 1 := ⟨wd1512, wd62, ⟨by decide +kernel, by decide +kernel⟩, by decide +kernel⟩
theorem sl5_X5_disbandSurplus_X5_disbandSurplus : osSl [5] yX5_disbandSurplus yX5_disbandSurplus := List.forall_mem_cons.mpr ⟨⟨_, rfl, wd1511⟩, fun _ h => absurd h List.not_mem_nil⟩
theorem mdX1_shouldSucceed : osMd yX1_shouldSucceed cX1_shouldSucceed 3 (some .boolean) 1 := ⟨wd1351, wd59, ⟨by decide +kernel, by decide +kernel⟩, by decide +kernel⟩
theorem sl1_X1_shouldSucceed_X1_shouldSucceed : osSl [1] yX1_shouldSucceed yX1_shouldSucceed := List.forall_mem_cons.mpr ⟨⟨_, rfl, wd43⟩, fun _ h => absurd h List.not_mem_nil⟩
theorem mdX1_explain : osMd yX1_explain cX1_explain 4 (some .int) 2 := ⟨wd1372, wd59, ⟨by decide +kernel, by decide +kernel⟩, by decide +kernel⟩
theorem sl1_X1_explain_X1_explain : osSl [1] yX1_explain yX1_explain := List.forall_mem_cons.mpr ⟨⟨_, rfl, wd1371⟩, fun _ h => absurd h List.not_mem_nil⟩
theorem mdX2_clear : osMd yX2_clear cX2_clear 2 none 0 := ⟨wd1301, wd60, ⟨by decide +kernel, by decide +kernel⟩, by decide +kernel⟩
theorem sl2_X2_clear_X2_clear : osSl [2] yX2_clear yX2_clear := List.forall_mem_cons.mpr ⟨⟨_, rfl, wd34⟩, fun _ h => absurd h List.not_mem_nil⟩
theorem mdX2_linkMove : osMd yX2_linkMove cX2_linkMove 5 none 2 := ⟨wd1326, wd60, ⟨by decide +kernel, by decide +kernel⟩, by decide +kernel⟩
theorem sl2_X2_linkMove_X2_linkMove : osSl [2] yX2_linkMove yX2_linkMove := List.forall_mem_cons.mpr ⟨⟨_, rfl, wd38⟩, fun _ h => absurd h List.not_mem_nil⟩
theorem mdX2_linkSupport : osMd yX2_linkSupport cX2_linkSupport 9 none 2 := ⟨wd1318, wd60, ⟨by decide +kernel, by decide +kernel⟩, by decide +kernel⟩
theorem sl2_X2_linkSupport_X2_linkSupport : osSl [2] yX2_linkSupport yX2_linkSupport := List.forall_mem_cons.mpr ⟨⟨_, rfl, wd36⟩, fun _ h => absurd h List.not_mem_nil⟩
theorem mdX2_linkConvoy : osMd yX2_linkConvoy cX2_linkConvoy 5 none 2 := ⟨wd1322, wd60, ⟨by decide +kernel, by decide +kernel⟩, by decide +kernel⟩
theorem sl2_X2_linkConvoy_X2_linkConvoy : osSl [2] yX2_linkConvoy yX2_linkConvoy := List.forall_mem_cons.mpr ⟨⟨_, rfl, wd37⟩, fun _ h => absurd h List.not_mem_nil⟩
theorem mdX2_noteMove : osMd yX2_noteMove cX2_noteMove 5 none 3 := ⟨wd1311, wd60, ⟨by decide +kernel, by decide +kernel⟩, by decide +kernel⟩
theorem sl2_X2_noteMove_X2_noteMove : osSl [2] yX2_noteMove yX2_noteMove := List.forall_mem_cons.mpr ⟨⟨_, rfl, wd35⟩, fun _ h => absurd h List.not_mem_nil⟩
theorem fX3_121 : osFd RX3 121 [0] 1 .int false := ⟨"OrderSettler$Board", "powerCount", "I", wd295, rfl, List.forall_mem_cons.mpr ⟨⟨RX0, TX0, 10, tyX0, rfl, osinX0, nmX0, tyX0_ok, (Nat.le_of_ble_eq_true rfl), rfl, rfl, rfl, Or.inl rfl⟩, fun _ h => absurd h List.not_mem_nil⟩⟩
theorem mdX0_addPower : osMd yX0_addPower cX0_addPower 3 (some .int) 1 := ⟨wd772, wd61, ⟨by decide +kernel, by decide +kernel⟩, by decide +kernel⟩
theorem sl0_X0_addPower_X0_addPower : osSl [0] yX0_addPower yX0_addPower := List.forall_mem_cons.mpr ⟨⟨_, rfl, wd771⟩, fun _ h => absurd h List.not_mem_nil⟩
theorem mdX6_isAtWord : osMd yX6_isAtWord cX6_isAtWord 1 (some .boolean) 0 := ⟨wd778, wd56, ⟨by decide +kernel, by decide +kernel⟩, by decide +kernel⟩
theorem sl3_X3iisAtWord_X6_isAtWord : osSl [3] (⟨RX3, "isAtWord", "()Z"⟩ : MethodName) yX6_isAtWord := List.forall_mem_cons.mpr ⟨⟨_, rfl, wd776⟩, fun _ h => absurd h List.not_mem_nil⟩
theorem mdX3_readHome : osMd yX3_readHome cX3_readHome 5 (some .boolean) 3 := ⟨wd782, wd57, ⟨by decide +kernel, by decide +kernel⟩, by decide +kernel⟩
theorem sl3_X3_readHome_X3_readHome : osSl [3] yX3_readHome yX3_readHome := List.forall_mem_cons.mpr ⟨⟨_, rfl, wd16⟩, fun _ h => absurd h List.not_mem_nil⟩
theorem mdX5_clear : osMd yX5_clear cX5_clear 2 none 0 := ⟨wd344, wd62, ⟨by decide +kernel, by decide +kernel⟩, by decide +kernel⟩
theorem sl5_X5_clear_X5_clear : osSl [5] yX5_clear yX5_clear := List.forall_mem_cons.mpr ⟨⟨_, rfl, wd343⟩, fun _ h => absurd h List.not_mem_nil⟩
theorem mdX1_findFailedGoals : osMd yX1_findFailedGoals cX1_findFailedGoals 3 (some .int) 0 := ⟨wd1411, wd59, ⟨by decide +kernel, by decide +kernel⟩, by decide +kernel⟩
theorem sl1_X1_findFailedGoals_X1_findFailedGoals : osSl [1] yX1_findFailedGoals yX1_findFailedGoals := List.forall_mem_cons.mpr ⟨⟨_, rfl, wd1410⟩, fun _ h => absurd h List.not_mem_nil⟩
theorem fX5_181 : osFd RX5 181 [1] 7 .int false := ⟨"OrderSettler$Judge", "outcomeCount", "I", wd261, rfl, List.forall_mem_cons.mpr ⟨⟨RX1, TX1, 8, tyX1, rfl, osinX1, nmX1, tyX1_ok, (Nat.le_of_ble_eq_true rfl), rfl, rfl, rfl, Or.inl rfl⟩, fun _ h => absurd h List.not_mem_nil⟩⟩
theorem mdX1_explainAll : osMd yX1_explainAll cX1_explainAll 3 none 1 := ⟨wd1416, wd59, ⟨by decide +kernel, by decide +kernel⟩, by decide +kernel⟩
theorem sl1_X1_explainAll_X1_explainAll : osSl [1] yX1_explainAll yX1_explainAll := List.forall_mem_cons.mpr ⟨⟨_, rfl, wd1415⟩, fun _ h => absurd h List.not_mem_nil⟩
theorem fX5_160 : osFd RX5 160 [1] 5 .int false := ⟨"OrderSettler$Judge", "success", "I", wd256, rfl, List.forall_mem_cons.mpr ⟨⟨RX1, TX1, 8, tyX1, rfl, osinX1, nmX1, tyX1_ok, (Nat.le_of_ble_eq_true rfl), rfl, rfl, rfl, Or.inl rfl⟩, fun _ h => absurd h List.not_mem_nil⟩⟩
theorem fX5_169 : osFd RX5 169 [1] 6 .int false := ⟨"OrderSettler$Judge", "dislodged", "I", wd259, rfl, List.forall_mem_cons.mpr ⟨⟨RX1, TX1, 8, tyX1, rfl, osinX1, nmX1, tyX1_ok, (Nat.le_of_ble_eq_true rfl), rfl, rfl, rfl, Or.inl rfl⟩, fun _ h => absurd h List.not_mem_nil⟩⟩
theorem mdX1_findAttacker : osMd yX1_findAttacker cX1_findAttacker 3 (some .int) 1 := ⟨wd1407, wd59, ⟨by decide +kernel, by decide +kernel⟩, by decide +kernel⟩
theorem sl1_X1_findAttacker_X1_findAttacker : osSl [1] yX1_findAttacker yX1_findAttacker := List.forall_mem_cons.mpr ⟨⟨_, rfl, wd1406⟩, fun _ h => absurd h List.not_mem_nil⟩
theorem mdX7_readConvoy : osMd yX7_readConvoy cX7_readConvoy 6 (some .boolean) 3 := ⟨wd1192, wd58, ⟨by decide +kernel, by decide +kernel⟩, by decide +kernel⟩
theorem sl6_X7_readConvoy_X7_readConvoy : osSl [6] yX7_readConvoy yX7_readConvoy := List.forall_mem_cons.mpr ⟨⟨_, rfl, wd27⟩, fun _ h => absurd h List.not_mem_nil⟩
theorem mdX7_readSupport : osMd yX7_readSupport cX7_readSupport 6 (some .boolean) 3 := ⟨wd1170, wd58, ⟨by decide +kernel, by decide +kernel⟩, by decide +kernel⟩
theorem sl6_X7_readSupport_X7_readSupport : osSl [6] yX7_readSupport yX7_readSupport := List.forall_mem_cons.mpr ⟨⟨_, rfl, wd26⟩, fun _ h => absurd h List.not_mem_nil⟩
theorem mdX7_readMove : osMd yX7_readMove cX7_readMove 5 (some .boolean) 3 := ⟨wd1147, wd58, ⟨by decide +kernel, by decide +kernel⟩, by decide +kernel⟩
theorem sl6_X7_readMove_X7_readMove : osSl [6] yX7_readMove yX7_readMove := List.forall_mem_cons.mpr ⟨⟨_, rfl, wd24⟩, fun _ h => absurd h List.not_mem_nil⟩
theorem dfX4 : ∀ j, j < 2 → defaultValue (tyX4 j) = vp_V [.null, .int 0] j := by decide +kernel
theorem mdX4_init : osMd yX4_init cX4_init 1 none 0 := ⟨wd94, wd55, ⟨by decide +kernel, by decide +kernel⟩, by decide +kernel⟩
theorem fX9_20 : osFd RX9 20 [7] 2 (.object "OrderSettler$Output") true := ⟨"OrderSettler", "output", "LOrderSettler$Output;", wd431, rfl, List.forall_mem_cons.mpr ⟨⟨RX9, TX9, 14, tyX9, rfl, osinX9, nmX9, tyX9_ok, (Nat.le_of_ble_eq_true rfl), rfl, rfl, rfl, Or.inl rfl⟩, fun _ h => absurd h List.not_mem_nil⟩⟩
theorem dfX3 : ∀ j, j < 10 → defaultValue (tyX3 j) = vp_V [.null, .int 0, .int 0, .int 0, .int 0, .long 0, .int 0, .int 0, .int 0, .int 0] j := by decide +kernel
theorem mdX3_init : osMd yX3_init cX3_init 1 none 0 := ⟨wd108, wd57, ⟨by decide +kernel, by decide +kernel⟩, by decide +kernel⟩
theorem fX9_33 : osFd RX9 33 [7] 5 (.object "OrderSettler$MapReader") true := ⟨"OrderSettler", "mapReader", "LOrderSettler$MapReader;", wd434, rfl, List.forall_mem_cons.mpr ⟨⟨RX9, TX9, 14, tyX9, rfl, osinX9, nmX9, tyX9_ok, (Nat.le_of_ble_eq_true rfl), rfl, rfl, rfl, Or.inl rfl⟩, fun _ h => absurd h List.not_mem_nil⟩⟩
theorem dfX7 : ∀ j, j < 10 → defaultValue (tyX7 j) = vp_V [.null, .int 0, .int 0, .int 0, .int 0, .long 0, .int 0, .int 0, .int 0, .int 0] j := by decide +kernel
theorem mdX7_init : osMd yX7_init cX7_init 1 none 0 := ⟨wd158, wd58, ⟨by decide +kernel, by decide +kernel⟩, by decide +kernel⟩
theorem fX9_40 : osFd RX9 40 [7] 6 (.object "OrderSettler$TurnReader") true := ⟨"OrderSettler", "turnReader", "LOrderSettler$TurnReader;", wd435, rfl, List.forall_mem_cons.mpr ⟨⟨RX9, TX9, 14, tyX9, rfl, osinX9, nmX9, tyX9_ok, (Nat.le_of_ble_eq_true rfl), rfl, rfl, rfl, Or.inl rfl⟩, fun _ h => absurd h List.not_mem_nil⟩⟩
theorem dfX1 : ∀ j, j < 8 → defaultValue (tyX1 j) = vp_V [.null, .int 0, .int 0, .int 0, .int 0, .int 0, .int 0, .int 0] j := by decide +kernel
theorem mdX1_init : osMd yX1_init cX1_init 1 none 0 := ⟨wd175, wd59, ⟨by decide +kernel, by decide +kernel⟩, by decide +kernel⟩
theorem fX9_47 : osFd RX9 47 [7] 7 (.object "OrderSettler$Judge") true := ⟨"OrderSettler", "judge", "LOrderSettler$Judge;", wd436, rfl, List.forall_mem_cons.mpr ⟨⟨RX9, TX9, 14, tyX9, rfl, osinX9, nmX9, tyX9_ok, (Nat.le_of_ble_eq_true rfl), rfl, rfl, rfl, Or.inl rfl⟩, fun _ h => absurd h List.not_mem_nil⟩⟩
theorem dfX0 : ∀ j, j < 10 → defaultValue (tyX0 j) = vp_V [.int 0, .int 0, .int 0, .int 0, .int 0, .null, .null, .null, .null, .null] j := by decide +kernel
theorem mdX0_init : osMd yX0_init cX0_init 1 none 0 := ⟨wd285, wd61, ⟨by decide +kernel, by decide +kernel⟩, by decide +kernel⟩
theorem fX9_67 : osFd RX9 67 [7] 11 (.object "OrderSettler$Board") false := ⟨"OrderSettler", "spareBoard", "LOrderSettler$Board;", wd440, rfl, List.forall_mem_cons.mpr ⟨⟨RX9, TX9, 14, tyX9, rfl, osinX9, nmX9, tyX9_ok, (Nat.le_of_ble_eq_true rfl), rfl, rfl, rfl, Or.inl rfl⟩, fun _ h => absurd h List.not_mem_nil⟩⟩
theorem dfX5 : ∀ j, j < 16 → defaultValue (tyX5 j) = vp_V [.int 0, .int 0, .int 0, .int 0, .int 0, .null, .null, .null, .null, .null, .null, .null, .null, .null, .null, .null] j := by decide +kernel
theorem mdX5_init : osMd yX5_init cX5_init 1 none 0 := ⟨wd339, wd62, ⟨by decide +kernel, by decide +kernel⟩, by decide +kernel⟩
theorem mdX1_weigh : osMd yX1_weigh cX1_weigh 4 none 1 := ⟨wd1336, wd59, ⟨by decide +kernel, by decide +kernel⟩, by decide +kernel⟩
theorem sl1_X1_weigh_X1_weigh : osSl [1] yX1_weigh yX1_weigh := List.forall_mem_cons.mpr ⟨⟨_, rfl, wd40⟩, fun _ h => absurd h List.not_mem_nil⟩
theorem mdX1_isConsistent : osMd yX1_isConsistent cX1_isConsistent 2 (some .boolean) 0 := ⟨wd1347, wd59, ⟨by decide +kernel, by decide +kernel⟩, by decide +kernel⟩
theorem sl1_X1_isConsistent_X1_isConsistent : osSl [1] yX1_isConsistent yX1_isConsistent := List.forall_mem_cons.mpr ⟨⟨_, rfl, wd42⟩, fun _ h => absurd h List.not_mem_nil⟩
theorem mdX3_readUnit : osMd yX3_readUnit cX3_readUnit 8 (some .boolean) 4 := ⟨wd798, wd57, ⟨by decide +kernel, by decide +kernel⟩, by decide +kernel⟩
theorem sl3_X3_readUnit_X3_readUnit : osSl [3] yX3_readUnit yX3_readUnit := List.forall_mem_cons.mpr ⟨⟨_, rfl, wd17⟩, fun _ h => absurd h List.not_mem_nil⟩
theorem mdX3_readPower : osMd yX3_readPower cX3_readPower 7 (some .boolean) 3 := ⟨wd764, wd57, ⟨by decide +kernel, by decide +kernel⟩, by decide +kernel⟩
theorem sl3_X3_readPower_X3_readPower : osSl [3] yX3_readPower yX3_readPower := List.forall_mem_cons.mpr ⟨⟨_, rfl, wd15⟩, fun _ h => absurd h List.not_mem_nil⟩
theorem mdX3_readBorder : osMd yX3_readBorder cX3_readBorder 9 (some .boolean) 1 := ⟨wd723, wd57, ⟨by decide +kernel, by decide +kernel⟩, by decide +kernel⟩
theorem sl3_X3_readBorder_X3_readBorder : osSl [3] yX3_readBorder yX3_readBorder := List.forall_mem_cons.mpr ⟨⟨_, rfl, wd14⟩, fun _ h => absurd h List.not_mem_nil⟩
theorem mdX3_readArea : osMd yX3_readArea cX3_readArea 7 (some .boolean) 3 := ⟨wd682, wd57, ⟨by decide +kernel, by decide +kernel⟩, by decide +kernel⟩
theorem sl3_X3_readArea_X3_readArea : osSl [3] yX3_readArea yX3_readArea := List.forall_mem_cons.mpr ⟨⟨_, rfl, wd13⟩, fun _ h => absurd h List.not_mem_nil⟩
theorem fX7_26 : osFd RX7 26 [5] 0 .int false := ⟨"OrderSettler$State", "phase", "I", wd362, rfl, List.forall_mem_cons.mpr ⟨⟨RX5, TX5, 16, tyX5, rfl, osinX5, nmX5, tyX5_ok, (Nat.le_of_ble_eq_true rfl), rfl, rfl, rfl, Or.inl rfl⟩, fun _ h => absurd h List.not_mem_nil⟩⟩
theorem mdX7_readRemoval : osMd yX7_readRemoval cX7_readRemoval 4 (some .boolean) 2 := ⟨wd1259, wd58, ⟨by decide +kernel, by decide +kernel⟩, by decide +kernel⟩
theorem sl6_X7_readRemoval_X7_readRemoval : osSl [6] yX7_readRemoval yX7_readRemoval := List.forall_mem_cons.mpr ⟨⟨_, rfl, wd31⟩, fun _ h => absurd h List.not_mem_nil⟩
theorem mdX7_readBuild : osMd yX7_readBuild cX7_readBuild 7 (some .boolean) 2 := ⟨wd1221, wd58, ⟨by decide +kernel, by decide +kernel⟩, by decide +kernel⟩
theorem sl6_X7_readBuild_X7_readBuild : osSl [6] yX7_readBuild yX7_readBuild := List.forall_mem_cons.mpr ⟨⟨_, rfl, wd29⟩, fun _ h => absurd h List.not_mem_nil⟩
theorem mdX7_readRetreat : osMd yX7_readRetreat cX7_readRetreat 5 (some .boolean) 2 := ⟨wd1200, wd58, ⟨by decide +kernel, by decide +kernel⟩, by decide +kernel⟩
theorem sl6_X7_readRetreat_X7_readRetreat : osSl [6] yX7_readRetreat yX7_readRetreat := List.forall_mem_cons.mpr ⟨⟨_, rfl, wd28⟩, fun _ h => absurd h List.not_mem_nil⟩
theorem mdX7_readOrder : osMd yX7_readOrder cX7_readOrder 4 (some .boolean) 2 := ⟨wd1128, wd58, ⟨by decide +kernel, by decide +kernel⟩, by decide +kernel⟩
theorem sl6_X7_readOrder_X7_readOrder : osSl [6] yX7_readOrder yX7_readOrder := List.forall_mem_cons.mpr ⟨⟨_, rfl, wd23⟩, fun _ h => absurd h List.not_mem_nil⟩
theorem mdX2_prepare : osMd yX2_prepare cX2_prepare 4 none 2 := ⟨wd1297, wd60, ⟨by decide +kernel, by decide +kernel⟩, by decide +kernel⟩
theorem sl2_X2_prepare_X2_prepare : osSl [2] yX2_prepare yX2_prepare := List.forall_mem_cons.mpr ⟨⟨_, rfl, wd1296⟩, fun _ h => absurd h List.not_mem_nil⟩
theorem mdX1_search : osMd yX1_search cX1_search 9 (some .int) 0 := ⟨wd1330, wd59, ⟨by decide +kernel, by decide +kernel⟩, by decide +kernel⟩
theorem sl1_X1_search_X1_search : osSl [1] yX1_search yX1_search := List.forall_mem_cons.mpr ⟨⟨_, rfl, wd39⟩, fun _ h => absurd h List.not_mem_nil⟩
theorem mdX6_begin : osMd yX6_begin cX6_begin 3 none 2 := ⟨wd653, wd56, ⟨by decide +kernel, by decide +kernel⟩, by decide +kernel⟩
theorem sl3_X3ibegin_X6_begin : osSl [3] (⟨RX3, "begin", "([BI)V"⟩ : MethodName) yX6_begin := List.forall_mem_cons.mpr ⟨⟨_, rfl, wd651⟩, fun _ h => absurd h List.not_mem_nil⟩
theorem mdX6_isAtEnd : osMd yX6_isAtEnd cX6_isAtEnd 1 (some .boolean) 0 := ⟨wd666, wd56, ⟨by decide +kernel, by decide +kernel⟩, by decide +kernel⟩
theorem sl3_X3iisAtEnd_X6_isAtEnd : osSl [3] (⟨RX3, "isAtEnd", "()Z"⟩ : MethodName) yX6_isAtEnd := List.forall_mem_cons.mpr ⟨⟨_, rfl, wd664⟩, fun _ h => absurd h List.not_mem_nil⟩
theorem mdX3_readStatement : osMd yX3_readStatement cX3_readStatement 4 (some .boolean) 2 := ⟨wd670, wd57, ⟨by decide +kernel, by decide +kernel⟩, by decide +kernel⟩
theorem sl3_X3_readStatement_X3_readStatement : osSl [3] yX3_readStatement yX3_readStatement := List.forall_mem_cons.mpr ⟨⟨_, rfl, wd12⟩, fun _ h => absurd h List.not_mem_nil⟩
theorem mdX6_takeSemicolon : osMd yX6_takeSemicolon cX6_takeSemicolon 1 (some .boolean) 0 := ⟨wd820, wd56, ⟨by decide +kernel, by decide +kernel⟩, by decide +kernel⟩
theorem sl3_X3itakeSemicolon_X6_takeSemicolon : osSl [3] (⟨RX3, "takeSemicolon", "()Z"⟩ : MethodName) yX6_takeSemicolon := List.forall_mem_cons.mpr ⟨⟨_, rfl, wd818⟩, fun _ h => absurd h List.not_mem_nil⟩
theorem sl6_X7ibegin_X6_begin : osSl [6] (⟨RX7, "begin", "([BI)V"⟩ : MethodName) yX6_begin := List.forall_mem_cons.mpr ⟨⟨_, rfl, wd1117⟩, fun _ h => absurd h List.not_mem_nil⟩
theorem sl6_X7iisAtEnd_X6_isAtEnd : osSl [6] (⟨RX7, "isAtEnd", "()Z"⟩ : MethodName) yX6_isAtEnd := List.forall_mem_cons.mpr ⟨⟨_, rfl, wd1120⟩, fun _ h => absurd h List.not_mem_nil⟩
theorem mdX7_readOne : osMd yX7_readOne cX7_readOne 3 (some .boolean) 2 := ⟨wd1124, wd58, ⟨by decide +kernel, by decide +kernel⟩, by decide +kernel⟩
theorem sl6_X7_readOne_X7_readOne : osSl [6] yX7_readOne yX7_readOne := List.forall_mem_cons.mpr ⟨⟨_, rfl, wd22⟩, fun _ h => absurd h List.not_mem_nil⟩
theorem sl6_X7itakeSemicolon_X6_takeSemicolon : osSl [6] (⟨RX7, "takeSemicolon", "()Z"⟩ : MethodName) yX6_takeSemicolon := List.forall_mem_cons.mpr ⟨⟨_, rfl, wd1266⟩, fun _ h => absurd h List.not_mem_nil⟩
theorem mdX9_requireLength : osMd yX9_requireLength cX9_requireLength 3 none 2 := ⟨wd625, wd54, ⟨by decide +kernel, by decide +kernel⟩, by decide +kernel⟩
theorem sl7_X9_requireLength_X9_requireLength : osSl [7] yX9_requireLength yX9_requireLength := List.forall_mem_cons.mpr ⟨⟨_, rfl, wd11⟩, fun _ h => absurd h List.not_mem_nil⟩
theorem mdX3_readMap : osMd yX3_readMap cX3_readMap 6 (some .boolean) 4 := ⟨wd645, wd57, ⟨by decide +kernel, by decide +kernel⟩, by decide +kernel⟩
theorem sl3_X3_readMap_X3_readMap : osSl [3] yX3_readMap yX3_readMap := List.forall_mem_cons.mpr ⟨⟨_, rfl, wd644⟩, fun _ h => absurd h List.not_mem_nil⟩
theorem mdX9_noteError : osMd yX9_noteError cX9_noteError 2 none 1 := ⟨wd824, wd54, ⟨by decide +kernel, by decide +kernel⟩, by decide +kernel⟩
theorem sl7_X9_noteError_X9_noteError : osSl [7] yX9_noteError yX9_noteError := List.forall_mem_cons.mpr ⟨⟨_, rfl, wd18⟩, fun _ h => absurd h List.not_mem_nil⟩
theorem mdX9_adoptDraft : osMd yX9_adoptDraft cX9_adoptDraft 2 none 0 := ⟨wd829, wd54, ⟨by decide +kernel, by decide +kernel⟩, by decide +kernel⟩
theorem sl7_X9_adoptDraft_X9_adoptDraft : osSl [7] yX9_adoptDraft yX9_adoptDraft := List.forall_mem_cons.mpr ⟨⟨_, rfl, wd19⟩, fun _ h => absurd h List.not_mem_nil⟩
theorem mdX7_readAll : osMd yX7_readAll cX7_readAll 6 (some .int) 4 := ⟨wd1114, wd58, ⟨by decide +kernel, by decide +kernel⟩, by decide +kernel⟩
theorem sl6_X7_readAll_X7_readAll : osSl [6] yX7_readAll yX7_readAll := List.forall_mem_cons.mpr ⟨⟨_, rfl, wd1113⟩, fun _ h => absurd h List.not_mem_nil⟩
theorem mdX1_decide : osMd yX1_decide cX1_decide 3 none 2 := ⟨wd1293, wd59, ⟨by decide +kernel, by decide +kernel⟩, by decide +kernel⟩
theorem sl1_X1_decide_X1_decide : osSl [1] yX1_decide yX1_decide := List.forall_mem_cons.mpr ⟨⟨_, rfl, wd1292⟩, fun _ h => absurd h List.not_mem_nil⟩
theorem mdX5_carryOut : osMd yX5_carryOut cX5_carryOut 6 none 2 := ⟨wd1402, wd62, ⟨by decide +kernel, by decide +kernel⟩, by decide +kernel⟩
theorem sl5_X5_carryOut_X5_carryOut : osSl [5] yX5_carryOut yX5_carryOut := List.forall_mem_cons.mpr ⟨⟨_, rfl, wd1401⟩, fun _ h => absurd h List.not_mem_nil⟩
theorem fX9_233 : osFd RX9 233 [1] 6 .int false := ⟨"OrderSettler$Judge", "dislodged", "I", wd258, rfl, List.forall_mem_cons.mpr ⟨⟨RX1, TX1, 8, tyX1, rfl, osinX1, nmX1, tyX1_ok, (Nat.le_of_ble_eq_true rfl), rfl, rfl, rfl, Or.inl rfl⟩, fun _ h => absurd h List.not_mem_nil⟩⟩
theorem fX9_240 : osFd RX9 240 [1] 5 .int false := ⟨"OrderSettler$Judge", "success", "I", wd255, rfl, List.forall_mem_cons.mpr ⟨⟨RX1, TX1, 8, tyX1, rfl, osinX1, nmX1, tyX1_ok, (Nat.le_of_ble_eq_true rfl), rfl, rfl, rfl, Or.inl rfl⟩, fun _ h => absurd h List.not_mem_nil⟩⟩
theorem mdL_type : osMd yL_type cL_type 5 none 2 := ⟨wd494, wd53, ⟨by decide +kernel, by decide +kernel⟩, by decide +kernel⟩
theorem mdX9_load : osMd yX9_load cX9_load 4 (some .int) 1 := ⟨wd621, wd54, ⟨by decide +kernel, by decide +kernel⟩, by decide +kernel⟩
theorem sl7_X9_load_X9_load : osSl [7] yX9_load yX9_load := List.forall_mem_cons.mpr ⟨⟨_, rfl, wd620⟩, fun _ h => absurd h List.not_mem_nil⟩
theorem mdX9_tell : osMd yX9_tell cX9_tell 3 (some .int) 1 := ⟨wd1101, wd54, ⟨by decide +kernel, by decide +kernel⟩, by decide +kernel⟩
theorem sl7_X9_tell_X9_tell : osSl [7] yX9_tell yX9_tell := List.forall_mem_cons.mpr ⟨⟨_, rfl, wd1100⟩, fun _ h => absurd h List.not_mem_nil⟩
theorem mdL_order : osMd yL_order cL_order 5 (some (.object "java/lang/String")) 3 := ⟨wd1090, wd53, ⟨by decide +kernel, by decide +kernel⟩, by decide +kernel⟩
theorem mdL_sum : osMd yL_sum cL_sum 4 (some .int) 1 := ⟨wd1383, wd53, ⟨by decide +kernel, by decide +kernel⟩, by decide +kernel⟩
theorem mdL_units_ : osMd yL_units_ cL_units_ 3 (some .int) 1 := ⟨wd1390, wd53, ⟨by decide +kernel, by decide +kernel⟩, by decide +kernel⟩
theorem mdX9_undoCount : osMd yX9_undoCount cX9_undoCount 1 (some .int) 0 := ⟨wd483, wd54, ⟨by decide +kernel, by decide +kernel⟩, by decide +kernel⟩
theorem sl7_X9_undoCount_X9_undoCount : osSl [7] yX9_undoCount yX9_undoCount := List.forall_mem_cons.mpr ⟨⟨_, rfl, wd482⟩, fun _ h => absurd h List.not_mem_nil⟩
theorem mdX9_settle : osMd yX9_settle cX9_settle 1 (some .int) 0 := ⟨wd1394, wd54, ⟨by decide +kernel, by decide +kernel⟩, by decide +kernel⟩
theorem sl7_X9_settle_X9_settle : osSl [7] yX9_settle yX9_settle := List.forall_mem_cons.mpr ⟨⟨_, rfl, wd1393⟩, fun _ h => absurd h List.not_mem_nil⟩
theorem mdL_aside : osMd yL_aside cL_aside 3 (some .int) 1 := ⟨wd1439, wd53, ⟨by decide +kernel, by decide +kernel⟩, by decide +kernel⟩
theorem mdX9_result : osMd yX9_result cX9_result 3 (some .int) 2 := ⟨wd1431, wd54, ⟨by decide +kernel, by decide +kernel⟩, by decide +kernel⟩
theorem sl7_X9_result_X9_result : osSl [7] yX9_result yX9_result := List.forall_mem_cons.mpr ⟨⟨_, rfl, wd1430⟩, fun _ h => absurd h List.not_mem_nil⟩
theorem mdX9_foresee : osMd yX9_foresee cX9_foresee 3 (some .int) 2 := ⟨wd1289, wd54, ⟨by decide +kernel, by decide +kernel⟩, by decide +kernel⟩
theorem sl7_X9_foresee_X9_foresee : osSl [7] yX9_foresee yX9_foresee := List.forall_mem_cons.mpr ⟨⟨_, rfl, wd1288⟩, fun _ h => absurd h List.not_mem_nil⟩
theorem mdX9_order : osMd yX9_order cX9_order 3 (some .int) 2 := ⟨wd1274, wd54, ⟨by decide +kernel, by decide +kernel⟩, by decide +kernel⟩
theorem sl7_X9_order_X9_order : osSl [7] yX9_order yX9_order := List.forall_mem_cons.mpr ⟨⟨_, rfl, wd1273⟩, fun _ h => absurd h List.not_mem_nil⟩
theorem mdX9_endRetreats : osMd yX9_endRetreats cX9_endRetreats 2 (some .int) 0 := ⟨wd1474, wd54, ⟨by decide +kernel, by decide +kernel⟩, by decide +kernel⟩
theorem sl7_X9_endRetreats_X9_endRetreats : osSl [7] yX9_endRetreats yX9_endRetreats := List.forall_mem_cons.mpr ⟨⟨_, rfl, wd1473⟩, fun _ h => absurd h List.not_mem_nil⟩
theorem mdX9_isContested : osMd yX9_isContested cX9_isContested 2 (some .boolean) 1 := ⟨wd1465, wd54, ⟨by decide +kernel, by decide +kernel⟩, by decide +kernel⟩
theorem sl7_X9_isContested_X9_isContested : osSl [7] yX9_isContested yX9_isContested := List.forall_mem_cons.mpr ⟨⟨_, rfl, wd1464⟩, fun _ h => absurd h List.not_mem_nil⟩
theorem mdX9_passes : osMd yX9_passes cX9_passes 4 (some .boolean) 3 := ⟨wd1469, wd54, ⟨by decide +kernel, by decide +kernel⟩, by decide +kernel⟩
theorem sl7_X9_passes_X9_passes : osSl [7] yX9_passes yX9_passes := List.forall_mem_cons.mpr ⟨⟨_, rfl, wd1468⟩, fun _ h => absurd h List.not_mem_nil⟩
theorem mdX9_powers : osMd yX9_powers cX9_powers 1 (some .int) 0 := ⟨wd1504, wd54, ⟨by decide +kernel, by decide +kernel⟩, by decide +kernel⟩
theorem sl7_X9_powers_X9_powers : osSl [7] yX9_powers yX9_powers := List.forall_mem_cons.mpr ⟨⟨_, rfl, wd1503⟩, fun _ h => absurd h List.not_mem_nil⟩
theorem mdX9_endBuilds : osMd yX9_endBuilds cX9_endBuilds 3 (some .int) 0 := ⟨wd1508, wd54, ⟨by decide +kernel, by decide +kernel⟩, by decide +kernel⟩
theorem sl7_X9_endBuilds_X9_endBuilds : osSl [7] yX9_endBuilds yX9_endBuilds := List.forall_mem_cons.mpr ⟨⟨_, rfl, wd1507⟩, fun _ h => absurd h List.not_mem_nil⟩
theorem mdX9_power : osMd yX9_power cX9_power 3 (some .int) 2 := ⟨wd1485, wd54, ⟨by decide +kernel, by decide +kernel⟩, by decide +kernel⟩
theorem sl7_X9_power_X9_power : osSl [7] yX9_power yX9_power := List.forall_mem_cons.mpr ⟨⟨_, rfl, wd1484⟩, fun _ h => absurd h List.not_mem_nil⟩
theorem dfX9 : ∀ j, j < 14 → defaultValue (tyX9 j) = vp_V [.null, .int 0, .null, .int 0, .int 0, .null, .null, .null, .null, .int 0, .null, .null, .null, .null] j := by decide +kernel
theorem mdX9_init : osMd yX9_init cX9_init 2 none 0 := ⟨wd86, wd54, ⟨by decide +kernel, by decide +kernel⟩, by decide +kernel⟩
theorem mdL_map : osMd yL_map cL_map 7 (some (.object "java/lang/String")) 3 := ⟨wd833, wd53, ⟨by decide +kernel, by decide +kernel⟩, by decide +kernel⟩
theorem mdL_orders : osMd yL_orders cL_orders 6 (some .int) 3 := ⟨wd1051, wd53, ⟨by decide +kernel, by decide +kernel⟩, by decide +kernel⟩
theorem mdL_builds : osMd yL_builds cL_builds 10 (some .boolean) 2 := ⟨wd1481, wd53, ⟨by decide +kernel, by decide +kernel⟩, by decide +kernel⟩
theorem mdL_retreats : osMd yL_retreats cL_retreats 9 (some .boolean) 2 := ⟨wd1450, wd53, ⟨by decide +kernel, by decide +kernel⟩, by decide +kernel⟩
theorem mdL_settles : osMd yL_settles cL_settles 16 (some .boolean) 1 := ⟨wd1270, wd53, ⟨by decide +kernel, by decide +kernel⟩, by decide +kernel⟩
theorem mdL_units : osMd yL_units cL_units 7 (some (.object "java/lang/String")) 3 := ⟨wd1046, wd53, ⟨by decide +kernel, by decide +kernel⟩, by decide +kernel⟩
theorem mdJ3_checkIndex_8e157 : osMd yJ3_checkIndex_8e157 cJ3_checkIndex_8e157 3 (some .int) 3 := ⟨wd523, wd71, ⟨by decide +kernel, by decide +kernel⟩, by decide +kernel⟩
