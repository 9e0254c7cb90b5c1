section
-- ===== PART A: goes FIRST, ahead of the names: the tables' words, and 'selects' of the private methods out of them =====
/-- a private method of a class that the tables say can be made, by its rows of tables_1 -/
def lw_okq (q : MethodName × Nat) : Prop := (q.1.cls ≠ "java/lang/invoke/MethodHandle" ∧ q.1.cls ≠ "java/lang/invoke/VarHandle") ∧ Cond.instantiable q.1.cls q.2 ∈ tables_1 ∧ Cond.privateMethod q.1 ∈ tables_1 ∧ Cond.instanceMethod q.1 ∈ tables_1
theorem lw_p0 : lw_okq (⟨"OrderSettler$State", "clearUnits", "()V"⟩, 16) := ⟨⟨by decide +kernel, by decide +kernel⟩, List.mem_of_getElem? (i := 283) (by decide +kernel), List.mem_of_getElem? (i := 293) (by decide +kernel), List.mem_of_getElem? (i := 294) (by decide +kernel)⟩
theorem lw_p1 : lw_okq (⟨"OrderSettler$State", "clearDislodged", "()V"⟩, 16) := ⟨⟨by decide +kernel, by decide +kernel⟩, List.mem_of_getElem? (i := 283) (by decide +kernel), List.mem_of_getElem? (i := 297) (by decide +kernel), List.mem_of_getElem? (i := 298) (by decide +kernel)⟩
theorem lw_p2 : lw_okq (⟨"OrderSettler$State", "holdAll", "()V"⟩, 16) := ⟨⟨by decide +kernel, by decide +kernel⟩, List.mem_of_getElem? (i := 283) (by decide +kernel), List.mem_of_getElem? (i := 301) (by decide +kernel), List.mem_of_getElem? (i := 302) (by decide +kernel)⟩
theorem lw_p3 : lw_okq (⟨"java/lang/Throwable", "fillInStackTrace", "(I)Ljava/lang/Throwable;"⟩, 6) := ⟨⟨by decide +kernel, by decide +kernel⟩, List.mem_of_getElem? (i := 533) (by decide +kernel), List.mem_of_getElem? (i := 531) (by decide +kernel), List.mem_of_getElem? (i := 532) (by decide +kernel)⟩
theorem lw_p4 : lw_okq (⟨"OrderSettler", "append", "(I)V"⟩, 14) := ⟨⟨by decide +kernel, by decide +kernel⟩, List.mem_of_getElem? (i := 30) (by decide +kernel), List.mem_of_getElem? (i := 562) (by decide +kernel), List.mem_of_getElem? (i := 563) (by decide +kernel)⟩
theorem lw_p5 : lw_okq (⟨"OrderSettler", "requireLength", "(II)V"⟩, 14) := ⟨⟨by decide +kernel, by decide +kernel⟩, List.mem_of_getElem? (i := 30) (by decide +kernel), List.mem_of_getElem? (i := 570) (by decide +kernel), List.mem_of_getElem? (i := 571) (by decide +kernel)⟩
theorem lw_p6 : lw_okq (⟨"OrderSettler$MapReader", "readStatement", "(LOrderSettler$Board;LOrderSettler$State;)Z"⟩, 10) := ⟨⟨by decide +kernel, by decide +kernel⟩, List.mem_of_getElem? (i := 52) (by decide +kernel), List.mem_of_getElem? (i := 615) (by decide +kernel), List.mem_of_getElem? (i := 616) (by decide +kernel)⟩
theorem lw_p7 : lw_okq (⟨"OrderSettler$MapReader", "readArea", "(LOrderSettler$Board;II)Z"⟩, 10) := ⟨⟨by decide +kernel, by decide +kernel⟩, List.mem_of_getElem? (i := 52) (by decide +kernel), List.mem_of_getElem? (i := 627) (by decide +kernel), List.mem_of_getElem? (i := 628) (by decide +kernel)⟩
theorem lw_p8 : lw_okq (⟨"OrderSettler$MapReader", "readBorder", "(LOrderSettler$Board;)Z"⟩, 10) := ⟨⟨by decide +kernel, by decide +kernel⟩, List.mem_of_getElem? (i := 52) (by decide +kernel), List.mem_of_getElem? (i := 668) (by decide +kernel), List.mem_of_getElem? (i := 669) (by decide +kernel)⟩
theorem lw_p9 : lw_okq (⟨"OrderSettler$MapReader", "readPower", "(LOrderSettler$Board;LOrderSettler$State;I)Z"⟩, 10) := ⟨⟨by decide +kernel, by decide +kernel⟩, List.mem_of_getElem? (i := 52) (by decide +kernel), List.mem_of_getElem? (i := 709) (by decide +kernel), List.mem_of_getElem? (i := 710) (by decide +kernel)⟩
theorem lw_p10 : lw_okq (⟨"OrderSettler$MapReader", "readHome", "(LOrderSettler$Board;LOrderSettler$State;I)Z"⟩, 10) := ⟨⟨by decide +kernel, by decide +kernel⟩, List.mem_of_getElem? (i := 52) (by decide +kernel), List.mem_of_getElem? (i := 727) (by decide +kernel), List.mem_of_getElem? (i := 728) (by decide +kernel)⟩
theorem lw_p11 : lw_okq (⟨"OrderSettler$MapReader", "readUnit", "(LOrderSettler$Board;LOrderSettler$State;II)Z"⟩, 10) := ⟨⟨by decide +kernel, by decide +kernel⟩, List.mem_of_getElem? (i := 52) (by decide +kernel), List.mem_of_getElem? (i := 743) (by decide +kernel), List.mem_of_getElem? (i := 744) (by decide +kernel)⟩
theorem lw_p12 : lw_okq (⟨"OrderSettler", "noteError", "(LOrderSettler$TextReader;)V"⟩, 14) := ⟨⟨by decide +kernel, by decide +kernel⟩, List.mem_of_getElem? (i := 30) (by decide +kernel), List.mem_of_getElem? (i := 769) (by decide +kernel), List.mem_of_getElem? (i := 770) (by decide +kernel)⟩
theorem lw_p13 : lw_okq (⟨"OrderSettler", "adoptDraft", "()V"⟩, 14) := ⟨⟨by decide +kernel, by decide +kernel⟩, List.mem_of_getElem? (i := 30) (by decide +kernel), List.mem_of_getElem? (i := 774) (by decide +kernel), List.mem_of_getElem? (i := 775) (by decide +kernel)⟩
theorem lw_p14 : lw_okq (⟨"OrderSettler", "requireArea", "(I)V"⟩, 14) := ⟨⟨by decide +kernel, by decide +kernel⟩, List.mem_of_getElem? (i := 30) (by decide +kernel), List.mem_of_getElem? (i := 1004) (by decide +kernel), List.mem_of_getElem? (i := 1005) (by decide +kernel)⟩
theorem lw_p15 : lw_okq (⟨"OrderSettler", "requireReport", "(II)V"⟩, 14) := ⟨⟨by decide +kernel, by decide +kernel⟩, List.mem_of_getElem? (i := 30) (by decide +kernel), List.mem_of_getElem? (i := 1025) (by decide +kernel), List.mem_of_getElem? (i := 1026) (by decide +kernel)⟩
def lw_privs_1 : List (MethodName × Nat) := [(⟨"OrderSettler$State", "clearUnits", "()V"⟩, 16), (⟨"OrderSettler$State", "clearDislodged", "()V"⟩, 16), (⟨"OrderSettler$State", "holdAll", "()V"⟩, 16), (⟨"java/lang/Throwable", "fillInStackTrace", "(I)Ljava/lang/Throwable;"⟩, 6), (⟨"OrderSettler", "append", "(I)V"⟩, 14), (⟨"OrderSettler", "requireLength", "(II)V"⟩, 14), (⟨"OrderSettler$MapReader", "readStatement", "(LOrderSettler$Board;LOrderSettler$State;)Z"⟩, 10), (⟨"OrderSettler$MapReader", "readArea", "(LOrderSettler$Board;II)Z"⟩, 10), (⟨"OrderSettler$MapReader", "readBorder", "(LOrderSettler$Board;)Z"⟩, 10), (⟨"OrderSettler$MapReader", "readPower", "(LOrderSettler$Board;LOrderSettler$State;I)Z"⟩, 10), (⟨"OrderSettler$MapReader", "readHome", "(LOrderSettler$Board;LOrderSettler$State;I)Z"⟩, 10), (⟨"OrderSettler$MapReader", "readUnit", "(LOrderSettler$Board;LOrderSettler$State;II)Z"⟩, 10), (⟨"OrderSettler", "noteError", "(LOrderSettler$TextReader;)V"⟩, 14), (⟨"OrderSettler", "adoptDraft", "()V"⟩, 14), (⟨"OrderSettler", "requireArea", "(I)V"⟩, 14), (⟨"OrderSettler", "requireReport", "(II)V"⟩, 14)]
theorem lw_r1 : ∀ q ∈ lw_privs_1, lw_okq q := List.forall_mem_cons.mpr ⟨lw_p0, List.forall_mem_cons.mpr ⟨lw_p1, List.forall_mem_cons.mpr ⟨lw_p2, List.forall_mem_cons.mpr ⟨lw_p3, List.forall_mem_cons.mpr ⟨lw_p4, List.forall_mem_cons.mpr ⟨lw_p5, List.forall_mem_cons.mpr ⟨lw_p6, List.forall_mem_cons.mpr ⟨lw_p7, List.forall_mem_cons.mpr ⟨lw_p8, List.forall_mem_cons.mpr ⟨lw_p9, List.forall_mem_cons.mpr ⟨lw_p10, List.forall_mem_cons.mpr ⟨lw_p11, List.forall_mem_cons.mpr ⟨lw_p12, List.forall_mem_cons.mpr ⟨lw_p13, List.forall_mem_cons.mpr ⟨lw_p14, List.forall_mem_cons.mpr ⟨lw_p15, fun _ h => absurd h List.not_mem_nil⟩⟩⟩⟩⟩⟩⟩⟩⟩⟩⟩⟩⟩⟩⟩⟩
theorem lw_p16 : lw_okq (⟨"OrderSettler$TurnReader", "readOne", "(LOrderSettler$Board;LOrderSettler$State;)Z"⟩, 10) := ⟨⟨by decide +kernel, by decide +kernel⟩, List.mem_of_getElem? (i := 102) (by decide +kernel), List.mem_of_getElem? (i := 1069) (by decide +kernel), List.mem_of_getElem? (i := 1070) (by decide +kernel)⟩
theorem lw_p17 : lw_okq (⟨"OrderSettler$TurnReader", "readOrder", "(LOrderSettler$Board;LOrderSettler$State;)Z"⟩, 10) := ⟨⟨by decide +kernel, by decide +kernel⟩, List.mem_of_getElem? (i := 102) (by decide +kernel), List.mem_of_getElem? (i := 1073) (by decide +kernel), List.mem_of_getElem? (i := 1074) (by decide +kernel)⟩
theorem lw_p18 : lw_okq (⟨"OrderSettler$TurnReader", "readMove", "(LOrderSettler$Board;LOrderSettler$State;I)Z"⟩, 10) := ⟨⟨by decide +kernel, by decide +kernel⟩, List.mem_of_getElem? (i := 102) (by decide +kernel), List.mem_of_getElem? (i := 1092) (by decide +kernel), List.mem_of_getElem? (i := 1093) (by decide +kernel)⟩
theorem lw_p19 : lw_okq (⟨"OrderSettler$State", "hasArmy", "(I)Z"⟩, 16) := ⟨⟨by decide +kernel, by decide +kernel⟩, List.mem_of_getElem? (i := 283) (by decide +kernel), List.mem_of_getElem? (i := 1105) (by decide +kernel), List.mem_of_getElem? (i := 1106) (by decide +kernel)⟩
theorem lw_p20 : lw_okq (⟨"OrderSettler$TurnReader", "readSupport", "(LOrderSettler$Board;LOrderSettler$State;I)Z"⟩, 10) := ⟨⟨by decide +kernel, by decide +kernel⟩, List.mem_of_getElem? (i := 102) (by decide +kernel), List.mem_of_getElem? (i := 1115) (by decide +kernel), List.mem_of_getElem? (i := 1116) (by decide +kernel)⟩
theorem lw_p21 : lw_okq (⟨"OrderSettler$TurnReader", "readConvoy", "(LOrderSettler$Board;LOrderSettler$State;I)Z"⟩, 10) := ⟨⟨by decide +kernel, by decide +kernel⟩, List.mem_of_getElem? (i := 102) (by decide +kernel), List.mem_of_getElem? (i := 1137) (by decide +kernel), List.mem_of_getElem? (i := 1138) (by decide +kernel)⟩
theorem lw_p22 : lw_okq (⟨"OrderSettler$TurnReader", "readRetreat", "(LOrderSettler$Board;LOrderSettler$State;)Z"⟩, 10) := ⟨⟨by decide +kernel, by decide +kernel⟩, List.mem_of_getElem? (i := 102) (by decide +kernel), List.mem_of_getElem? (i := 1145) (by decide +kernel), List.mem_of_getElem? (i := 1146) (by decide +kernel)⟩
theorem lw_p23 : lw_okq (⟨"OrderSettler$TurnReader", "readBuild", "(LOrderSettler$Board;LOrderSettler$State;)Z"⟩, 10) := ⟨⟨by decide +kernel, by decide +kernel⟩, List.mem_of_getElem? (i := 102) (by decide +kernel), List.mem_of_getElem? (i := 1166) (by decide +kernel), List.mem_of_getElem? (i := 1167) (by decide +kernel)⟩
theorem lw_p24 : lw_okq (⟨"OrderSettler$State", "freeHomes", "(LOrderSettler$Board;I)I"⟩, 16) := ⟨⟨by decide +kernel, by decide +kernel⟩, List.mem_of_getElem? (i := 283) (by decide +kernel), List.mem_of_getElem? (i := 1174) (by decide +kernel), List.mem_of_getElem? (i := 1175) (by decide +kernel)⟩
theorem lw_p25 : lw_okq (⟨"OrderSettler$TurnReader", "readRemoval", "(LOrderSettler$Board;LOrderSettler$State;)Z"⟩, 10) := ⟨⟨by decide +kernel, by decide +kernel⟩, List.mem_of_getElem? (i := 102) (by decide +kernel), List.mem_of_getElem? (i := 1204) (by decide +kernel), List.mem_of_getElem? (i := 1205) (by decide +kernel)⟩
theorem lw_p26 : lw_okq (⟨"OrderSettler", "requireUnit", "(I)V"⟩, 14) := ⟨⟨by decide +kernel, by decide +kernel⟩, List.mem_of_getElem? (i := 30) (by decide +kernel), List.mem_of_getElem? (i := 1223) (by decide +kernel), List.mem_of_getElem? (i := 1224) (by decide +kernel)⟩
theorem lw_p27 : lw_okq (⟨"OrderSettler", "requirePhase", "(I)V"⟩, 14) := ⟨⟨by decide +kernel, by decide +kernel⟩, List.mem_of_getElem? (i := 30) (by decide +kernel), List.mem_of_getElem? (i := 1229) (by decide +kernel), List.mem_of_getElem? (i := 1230) (by decide +kernel)⟩
theorem lw_p28 : lw_okq (⟨"OrderSettler$Links", "clear", "()V"⟩, 16) := ⟨⟨by decide +kernel, by decide +kernel⟩, List.mem_of_getElem? (i := 125) (by decide +kernel), List.mem_of_getElem? (i := 1246) (by decide +kernel), List.mem_of_getElem? (i := 1247) (by decide +kernel)⟩
theorem lw_p29 : lw_okq (⟨"OrderSettler$Links", "noteMove", "(LOrderSettler$Board;LOrderSettler$State;I)V"⟩, 16) := ⟨⟨by decide +kernel, by decide +kernel⟩, List.mem_of_getElem? (i := 125) (by decide +kernel), List.mem_of_getElem? (i := 1256) (by decide +kernel), List.mem_of_getElem? (i := 1257) (by decide +kernel)⟩
theorem lw_p30 : lw_okq (⟨"OrderSettler$Links", "linkSupport", "(LOrderSettler$State;I)V"⟩, 16) := ⟨⟨by decide +kernel, by decide +kernel⟩, List.mem_of_getElem? (i := 125) (by decide +kernel), List.mem_of_getElem? (i := 1263) (by decide +kernel), List.mem_of_getElem? (i := 1264) (by decide +kernel)⟩
theorem lw_p31 : lw_okq (⟨"OrderSettler$Links", "linkConvoy", "(LOrderSettler$State;I)V"⟩, 16) := ⟨⟨by decide +kernel, by decide +kernel⟩, List.mem_of_getElem? (i := 125) (by decide +kernel), List.mem_of_getElem? (i := 1267) (by decide +kernel), List.mem_of_getElem? (i := 1268) (by decide +kernel)⟩
def lw_privs_2 : List (MethodName × Nat) := [(⟨"OrderSettler$TurnReader", "readOne", "(LOrderSettler$Board;LOrderSettler$State;)Z"⟩, 10), (⟨"OrderSettler$TurnReader", "readOrder", "(LOrderSettler$Board;LOrderSettler$State;)Z"⟩, 10), (⟨"OrderSettler$TurnReader", "readMove", "(LOrderSettler$Board;LOrderSettler$State;I)Z"⟩, 10), (⟨"OrderSettler$State", "hasArmy", "(I)Z"⟩, 16), (⟨"OrderSettler$TurnReader", "readSupport", "(LOrderSettler$Board;LOrderSettler$State;I)Z"⟩, 10), (⟨"OrderSettler$TurnReader", "readConvoy", "(LOrderSettler$Board;LOrderSettler$State;I)Z"⟩, 10), (⟨"OrderSettler$TurnReader", "readRetreat", "(LOrderSettler$Board;LOrderSettler$State;)Z"⟩, 10), (⟨"OrderSettler$TurnReader", "readBuild", "(LOrderSettler$Board;LOrderSettler$State;)Z"⟩, 10), (⟨"OrderSettler$State", "freeHomes", "(LOrderSettler$Board;I)I"⟩, 16), (⟨"OrderSettler$TurnReader", "readRemoval", "(LOrderSettler$Board;LOrderSettler$State;)Z"⟩, 10), (⟨"OrderSettler", "requireUnit", "(I)V"⟩, 14), (⟨"OrderSettler", "requirePhase", "(I)V"⟩, 14), (⟨"OrderSettler$Links", "clear", "()V"⟩, 16), (⟨"OrderSettler$Links", "noteMove", "(LOrderSettler$Board;LOrderSettler$State;I)V"⟩, 16), (⟨"OrderSettler$Links", "linkSupport", "(LOrderSettler$State;I)V"⟩, 16), (⟨"OrderSettler$Links", "linkConvoy", "(LOrderSettler$State;I)V"⟩, 16)]
theorem lw_r2 : ∀ q ∈ lw_privs_2, lw_okq q := List.forall_mem_cons.mpr ⟨lw_p16, List.forall_mem_cons.mpr ⟨lw_p17, List.forall_mem_cons.mpr ⟨lw_p18, List.forall_mem_cons.mpr ⟨lw_p19, List.forall_mem_cons.mpr ⟨lw_p20, List.forall_mem_cons.mpr ⟨lw_p21, List.forall_mem_cons.mpr ⟨lw_p22, List.forall_mem_cons.mpr ⟨lw_p23, List.forall_mem_cons.mpr ⟨lw_p24, List.forall_mem_cons.mpr ⟨lw_p25, List.forall_mem_cons.mpr ⟨lw_p26, List.forall_mem_cons.mpr ⟨lw_p27, List.forall_mem_cons.mpr ⟨lw_p28, List.forall_mem_cons.mpr ⟨lw_p29, List.forall_mem_cons.mpr ⟨lw_p30, List.forall_mem_cons.mpr ⟨lw_p31, fun _ h => absurd h List.not_mem_nil⟩⟩⟩⟩⟩⟩⟩⟩⟩⟩⟩⟩⟩⟩⟩⟩
theorem lw_p32 : lw_okq (⟨"OrderSettler$Links", "linkMove", "(LOrderSettler$State;I)V"⟩, 16) := ⟨⟨by decide +kernel, by decide +kernel⟩, List.mem_of_getElem? (i := 125) (by decide +kernel), List.mem_of_getElem? (i := 1271) (by decide +kernel), List.mem_of_getElem? (i := 1272) (by decide +kernel)⟩
theorem lw_p33 : lw_okq (⟨"OrderSettler$Judge", "search", "()I"⟩, 8) := ⟨⟨by decide +kernel, by decide +kernel⟩, List.mem_of_getElem? (i := 119) (by decide +kernel), List.mem_of_getElem? (i := 1275) (by decide +kernel), List.mem_of_getElem? (i := 1276) (by decide +kernel)⟩
theorem lw_p34 : lw_okq (⟨"OrderSettler$Judge", "weigh", "(I)V"⟩, 8) := ⟨⟨by decide +kernel, by decide +kernel⟩, List.mem_of_getElem? (i := 119) (by decide +kernel), List.mem_of_getElem? (i := 1281) (by decide +kernel), List.mem_of_getElem? (i := 1282) (by decide +kernel)⟩
theorem lw_p35 : lw_okq (⟨"OrderSettler$Judge", "isCarried", "(I)Z"⟩, 8) := ⟨⟨by decide +kernel, by decide +kernel⟩, List.mem_of_getElem? (i := 119) (by decide +kernel), List.mem_of_getElem? (i := 1286) (by decide +kernel), List.mem_of_getElem? (i := 1287) (by decide +kernel)⟩
theorem lw_p36 : lw_okq (⟨"OrderSettler$Judge", "isConsistent", "()Z"⟩, 8) := ⟨⟨by decide +kernel, by decide +kernel⟩, List.mem_of_getElem? (i := 119) (by decide +kernel), List.mem_of_getElem? (i := 1292) (by decide +kernel), List.mem_of_getElem? (i := 1293) (by decide +kernel)⟩
theorem lw_p37 : lw_okq (⟨"OrderSettler$Judge", "shouldSucceed", "(I)Z"⟩, 8) := ⟨⟨by decide +kernel, by decide +kernel⟩, List.mem_of_getElem? (i := 119) (by decide +kernel), List.mem_of_getElem? (i := 1296) (by decide +kernel), List.mem_of_getElem? (i := 1297) (by decide +kernel)⟩
theorem lw_p38 : lw_okq (⟨"OrderSettler$Judge", "attackOf", "(I)I"⟩, 8) := ⟨⟨by decide +kernel, by decide +kernel⟩, List.mem_of_getElem? (i := 119) (by decide +kernel), List.mem_of_getElem? (i := 1300) (by decide +kernel), List.mem_of_getElem? (i := 1301) (by decide +kernel)⟩
theorem lw_p39 : lw_okq (⟨"OrderSettler$Judge", "resistanceTo", "(I)I"⟩, 8) := ⟨⟨by decide +kernel, by decide +kernel⟩, List.mem_of_getElem? (i := 119) (by decide +kernel), List.mem_of_getElem? (i := 1304) (by decide +kernel), List.mem_of_getElem? (i := 1305) (by decide +kernel)⟩
theorem lw_p40 : lw_okq (⟨"OrderSettler$Judge", "preventionOf", "(I)I"⟩, 8) := ⟨⟨by decide +kernel, by decide +kernel⟩, List.mem_of_getElem? (i := 119) (by decide +kernel), List.mem_of_getElem? (i := 1308) (by decide +kernel), List.mem_of_getElem? (i := 1309) (by decide +kernel)⟩
theorem lw_p41 : lw_okq (⟨"OrderSettler$Judge", "strengthOf", "(I)I"⟩, 8) := ⟨⟨by decide +kernel, by decide +kernel⟩, List.mem_of_getElem? (i := 119) (by decide +kernel), List.mem_of_getElem? (i := 1312) (by decide +kernel), List.mem_of_getElem? (i := 1313) (by decide +kernel)⟩
theorem lw_p42 : lw_okq (⟨"OrderSettler$Judge", "summaryOf", "(I)I"⟩, 8) := ⟨⟨by decide +kernel, by decide +kernel⟩, List.mem_of_getElem? (i := 119) (by decide +kernel), List.mem_of_getElem? (i := 1321) (by decide +kernel), List.mem_of_getElem? (i := 1322) (by decide +kernel)⟩
theorem lw_p43 : lw_okq (⟨"OrderSettler$Judge", "reasonFor", "(I)I"⟩, 8) := ⟨⟨by decide +kernel, by decide +kernel⟩, List.mem_of_getElem? (i := 119) (by decide +kernel), List.mem_of_getElem? (i := 1325) (by decide +kernel), List.mem_of_getElem? (i := 1326) (by decide +kernel)⟩
theorem lw_p44 : lw_okq (⟨"OrderSettler", "remember", "()V"⟩, 14) := ⟨⟨by decide +kernel, by decide +kernel⟩, List.mem_of_getElem? (i := 30) (by decide +kernel), List.mem_of_getElem? (i := 1343) (by decide +kernel), List.mem_of_getElem? (i := 1344) (by decide +kernel)⟩
theorem lw_p45 : lw_okq (⟨"OrderSettler", "requireSettled", "()V"⟩, 14) := ⟨⟨by decide +kernel, by decide +kernel⟩, List.mem_of_getElem? (i := 30) (by decide +kernel), List.mem_of_getElem? (i := 1380) (by decide +kernel), List.mem_of_getElem? (i := 1381) (by decide +kernel)⟩
theorem lw_p46 : lw_okq (⟨"OrderSettler", "requirePower", "(I)V"⟩, 14) := ⟨⟨by decide +kernel, by decide +kernel⟩, List.mem_of_getElem? (i := 30) (by decide +kernel), List.mem_of_getElem? (i := 1434) (by decide +kernel), List.mem_of_getElem? (i := 1435) (by decide +kernel)⟩
def lw_privs_3 : List (MethodName × Nat) := [(⟨"OrderSettler$Links", "linkMove", "(LOrderSettler$State;I)V"⟩, 16), (⟨"OrderSettler$Judge", "search", "()I"⟩, 8), (⟨"OrderSettler$Judge", "weigh", "(I)V"⟩, 8), (⟨"OrderSettler$Judge", "isCarried", "(I)Z"⟩, 8), (⟨"OrderSettler$Judge", "isConsistent", "()Z"⟩, 8), (⟨"OrderSettler$Judge", "shouldSucceed", "(I)Z"⟩, 8), (⟨"OrderSettler$Judge", "attackOf", "(I)I"⟩, 8), (⟨"OrderSettler$Judge", "resistanceTo", "(I)I"⟩, 8), (⟨"OrderSettler$Judge", "preventionOf", "(I)I"⟩, 8), (⟨"OrderSettler$Judge", "strengthOf", "(I)I"⟩, 8), (⟨"OrderSettler$Judge", "summaryOf", "(I)I"⟩, 8), (⟨"OrderSettler$Judge", "reasonFor", "(I)I"⟩, 8), (⟨"OrderSettler", "remember", "()V"⟩, 14), (⟨"OrderSettler", "requireSettled", "()V"⟩, 14), (⟨"OrderSettler", "requirePower", "(I)V"⟩, 14)]
theorem lw_r3 : ∀ q ∈ lw_privs_3, lw_okq q := List.forall_mem_cons.mpr ⟨lw_p32, List.forall_mem_cons.mpr ⟨lw_p33, List.forall_mem_cons.mpr ⟨lw_p34, List.forall_mem_cons.mpr ⟨lw_p35, List.forall_mem_cons.mpr ⟨lw_p36, List.forall_mem_cons.mpr ⟨lw_p37, List.forall_mem_cons.mpr ⟨lw_p38, List.forall_mem_cons.mpr ⟨lw_p39, List.forall_mem_cons.mpr ⟨lw_p40, List.forall_mem_cons.mpr ⟨lw_p41, List.forall_mem_cons.mpr ⟨lw_p42, List.forall_mem_cons.mpr ⟨lw_p43, List.forall_mem_cons.mpr ⟨lw_p44, List.forall_mem_cons.mpr ⟨lw_p45, List.forall_mem_cons.mpr ⟨lw_p46, fun _ h => absurd h List.not_mem_nil⟩⟩⟩⟩⟩⟩⟩⟩⟩⟩⟩⟩⟩⟩⟩
def lw_privs : List (MethodName × Nat) := lw_privs_1 ++ (lw_privs_2 ++ (lw_privs_3))
def lw_tbl : List Cond := k2_sels lw_privs ++ tables_1
theorem lw_privs_ok : ∀ q ∈ lw_privs, lw_okq q := by
  show ∀ q ∈ lw_privs_1 ++ (lw_privs_2 ++ (lw_privs_3)), lw_okq q
  exact List.forall_mem_append.mpr ⟨lw_r1, List.forall_mem_append.mpr ⟨lw_r2, lw_r3⟩⟩
end
section
/-! ===== BEGIN words of one list among another's, by their places ===== -/
theorem goodIn_r {big : List Cond} (ws : List Cond) (ps : List Nat) (hp : ws = ps.filterMap (fun i => big[i]?)) (h : ws.all goodWord = true) : GoodIn big ws := by
  intro w hw
  have h1 := List.all_eq_true.mp h w hw
  rw [hp] at hw
  obtain ⟨i, -, hi⟩ := List.mem_filterMap.mp hw
  have hm : w ∈ big := by first | exact List.mem_of_getElem? hi | exact List.getElem?_mem hi
  exact ⟨hm, good_of_word h1⟩
theorem goodIn_app {big a b : List Cond} (ha : GoodIn big a) (hb : GoodIn big b) : GoodIn big (a ++ b) := fun w h => (List.mem_append.mp h).elim (ha w) (hb w)
theorem goodIn_ca {big a b : List Cond} {c : Cond} (ha : GoodIn big (c :: a)) (hb : GoodIn big b) : GoodIn big (c :: (a ++ b)) := fun w h => (List.mem_cons.mp h).elim (fun e => ha w (List.mem_cons.mpr (Or.inl e))) (fun h => (List.mem_append.mp h).elim (fun h => ha w (List.mem_cons.mpr (Or.inr h))) (hb w))
theorem goodIn_sub {big ws : List Cond} (hm : ∀ w ∈ ws, w ∈ big) (h : ws.all goodWord = true) : GoodIn big ws := fun w hw => ⟨hm w hw, good_of_word (List.all_eq_true.mp h w hw)⟩
/-! ===== END ===== -/
/-! ===== BEGIN exceptions that leave a method, and their catching by the caller (launches without stack traces) ===== -/
section VXA
/-! The laws vx_back, vx_callV, vx_callS, vx_callSW, vx_throw0, vx_throwS follow proofs of the library, with one case more: JvmDerived/Free/Laws.lean (Back.of_free), Shelf42/LK1.lean (callV, callS), Shelf/KitTraced.lean (throwNew0V, throwNewS). -/
/-- where a method has thrown q: the class by its name, the cell, what was written, the world -/
def vx_T (XC : String → State → State → Prop) (st : State) (q : Addr) (t : State) (mc ms : Nat) (free : Addr → Prop) : Prop :=
  ∃ (E : String) (ce : Cell) (L : List Loc), XC E st t ∧ t.heap[q]? = some ce ∧ ce.vm = .none ∧ st.vm.findClass E = some ce.cls ∧ st.WarmedH t.vm ∧ st.sameButNew ({ t with vm := st.vm } : State) L mc ms ∧ ∀ z ∈ L, free z.base
def vx_Q (Qc : Array Value → State → Outcome → State → Prop) (XC : String → State → State → Prop) (mc ms : Nat) (free : Addr → Prop) : Array Value → State → Outcome → State → Prop := fun a st o t =>
  (Qc a st o t ∧ ∃ L, FrameEnd st o t L mc ms ∧ ∀ q ∈ L, free q.base) ∨ ∃ q, o = .threw q ∧ vx_T XC st q t mc ms free
/-- a callee that returns or throws -/
def vx_Met (l : Launch) (y : MethodName) (ws : List Cond) (rm : Room) (Pc : Array Value → State → Prop) (Qc : Array Value → State → Outcome → State → Prop) (XC : String → State → State → Prop) (mc ms : Nat) (free : Addr → Prop) : Prop :=
  MetFree l y (headSpec ws rm) Pc (fun _ _ _ _ _ => True) (vx_Q Qc XC mc ms free)
def vx_Post (XC : String → State → State → Prop) (mc ms : Nat) (free : Addr → Prop) : Pt → Array Value → Addr → Pt → Prop := fun A a q B =>
  ∃ (g : JFrame) (mk : MethodId) (t : State) (L : List Loc) (E : String) (ce : Cell), B.U.heap = t.heap ∧ B.U.vm = t.vm ∧ XC E (A.U.calling g mk a) t ∧ t.heap[q]? = some ce ∧ ce.vm = .none ∧ A.U.vm.findClass E = some ce.cls ∧ B.locs = A.locs ++ L ∧ (∀ z ∈ L, free z.base) ∧ B.cells = A.cells + mc ∧ B.slots = A.slots + ms
def vx_Back (l : Launch) (R : Room) (p : Program) (e : Env) (below : List Frame) (s : State) (sargs : Array Value) (y : MethodName) (len W9 : Nat)
    (Pre : Pt → Array Value → Prop) (Post : Pt → Array Value → Option Value → Pt → Prop) (PostX : Pt → Array Value → Addr → Pt → Prop) : Prop :=
  ∀ (m : MethodId) (meth : Method) (c : Code) (A : Pt) (g : JFrame) (ig : Instr) (mk : MethodId) (a : Array Value),
    Stand p l e R s m sargs below meth c A.U A.locs A.cells A.slots → g.method = m → g.locals.size = c.maxLocals → decode c.code g.pc = .ok (ig, len) →
    2 * g.monitorRoom + (g.stack.map fun v => v.category).sum ≤ W9 → A.U.methodNamed? y = some mk → Pre A a →
    (∃ (v : Option Value) (B : Pt), Stand p l e R s m sargs below meth c B.U B.locs B.cells B.slots ∧ Post A a v B ∧
      Steps p.tables e below (doInvoke e (A.U.setTop g) [] mk a).1 (B.U.setTop { g with pc := g.pc + len, stack := v.toList ++ g.stack })) ∨
    (∃ (q : Addr) (B : Pt), Stand p l e R s m sargs below meth c B.U B.locs B.cells B.slots ∧ PostX A a q B ∧
      Steps p.tables e below (doInvoke e (A.U.setTop g) [] mk a).1 ((B.U.setTop g).pushFrame (.throwing q)))
section Payer
variable {l : Launch} {R : Room} {p : Program} {e : Env} {below : List Frame} {s : State} {sargs : Array Value} {y : MethodName} {len W9 : Nat}
theorem vx_back {ws : List Cond} {rm : Room} {Pc : Array Value → State → Prop} {Qc : Array Value → State → Outcome → State → Prop} {XC : String → State → State → Prop} {mc ms : Nat} {free : Addr → Prop} {bytes : ByteArray} {maxL : Nat} {ret : Option FieldType}
    (hM : vx_Met l y ws rm Pc Qc XC mc ms free) (hblind : FrameBlind Pc) (hrc : rm.cells = mc) (hrs : rm.slots = ms)
    (hframes : rm.frames + 1 ≤ R.frames) (hlocals : W9 + (maxL + 11) + rm.locals ≤ R.locals)
    (hws : ∀ w ∈ ws, ∀ a' U, s.WarmedH U.vm → w.before a' U = true) (hcode : Cond.code y bytes maxL ret ∈ ws) (hinit : ∀ a' U, s.WarmedH U.vm → (Cond.initialized y.cls).before a' U = true) :
    vx_Back l R p e below s sargs y len W9 (PreOf R mc ms Pc) (PostOf Qc mc ms free) (vx_Post XC mc ms free) := by
  intro m meth c A g ig mk a X hg hsize hdg hW hn hp
  have h1 : (headSpec ws rm).pre.before a A.U = true := atoms_intro fun w hw => hws w hw _ _ X.warmed
  have h2 : (Cond.code y bytes maxL ret).before a A.U = true := hws _ hcode _ _ X.warmed
  have h3 : (Cond.initialized y.cls).before a A.U = true := hinit _ _ X.warmed
  have h4 : A.cells + (headSpec ws rm).room.cells ≤ R.cells := by rw [show (headSpec ws rm).room.cells = mc from hrc]; exact hp.1
  have h5 : A.slots + (headSpec ws rm).room.slots ≤ R.slots := by rw [show (headSpec ws rm).room.slots = ms from hrs]; exact hp.2.1
  have hPc : Pc a (A.U.calling g mk a) := hblind _ _ _ _ hp.2.2
  obtain ⟨U, Ls, c0, s0⟩ := A
  dsimp only [Pt.U, Pt.locs, Pt.cells, Pt.slots] at h1 h2 h3 h4 h5 X hn hPc ⊢
  obtain ⟨methY, cY, hmY, hcY, -, hlY, -, -, -, -⟩ := Cond.code_spec hn h2
  obtain ⟨kY, hkY, -⟩ := className_of_methodNamed hn
  have hinitY : kY.init = .initialized := Cond.initialized_spec (findClass_of_methodNamed hn) hkY h3
  have h : At U g.method c below := by rw [hg]; exact X.here
  have hlocals9 : W9 + (maxL + 11) + (headSpec ws rm).room.locals ≤ R.locals := hlocals
  have happ : (headSpec ws rm).appliesLoose y e.platform (U.calling g mk a) = true :=
    Spec.appliesLoose_calling (g := g) h hdg hn hkY hinitY
      (X.room_calling (g := g) (R' := (headSpec ws rm).room) hsize hmY hcY hframes (by rw [hlY]; omega) h4 h5) h1
  obtain ⟨mid, hmid⟩ := h.above
  have hfr : (U.setTop g).frames = (.java g :: mid) ++ below := by rw [State.frames_setTop' g h.top, hmid]; rfl
  obtain ⟨o, s₂, hsteps, -, hend, hq⟩ := Steps.callFree hM p X.admits X.cas X.clock (acts := []) hfr happ hPc trivial
  have hq' : vx_Q Qc XC mc ms free a (U.calling g mk a) o s₂ := hq
  rw [State.frames_setTop' g h.top] at hend
  obtain ⟨g₀, hg0⟩ := Option.isSome_iff_exists.mp h.top
  obtain ⟨r, hr⟩ := State.topJava?_eq_some.mp hg0
  have hr' : (({ U with heap := s₂.heap, slotsUsed := s₂.slotsUsed } : State).setVm s₂.vm).frames = .java g₀ :: r := hr
  rcases hq' with ⟨hqc, L, hfe, hL⟩ | ⟨q, rfl, E, ce, L, hx, hce, hcv, hcl, hW₂, hsm, hL⟩
  · obtain ⟨⟨v, rfl⟩, hW₂, e2, q2, q3, q4, q5, q6⟩ := id hfe
    have e3 : s₂ = ({ (U.calling g mk a).setFrames s₂.frames with heap := s₂.heap, slotsUsed := s₂.slotsUsed } : State).setVm s₂.vm := by
      have : s₂ = ({ s₂ with vm := (U.calling g mk a).vm } : State).setVm s₂.vm := rfl
      rw [e2] at this
      exact this
    obtain ⟨c₂, i₂, len₂, hc₂, hd₂, hf₂⟩ := hend
    have hW' : U.WarmedH s₂.vm := hW₂
    have hcc : c₂ = c := by
      have h1 : s₂.code? g.method = U.code? g.method := by
        rw [State.code?_eq, State.code?_eq, hW'.alike.method?]
      exact Option.some.inj (hc₂.symm.trans (h1.trans h.code))
    subst hcc
    have hlen : len₂ = len := by rw [hdg] at hd₂; cases hd₂; rfl
    subst hlen
    have hs₂ : s₂ = (({ U with heap := s₂.heap, slotsUsed := s₂.slotsUsed } : State).setVm s₂.vm).setTop { g with pc := g.pc + len₂, stack := v.toList ++ g.stack } := by
      refine e3.trans ?_
      rw [hf₂, State.calling_eq h.top, State.setFrames_setFrames, State.setTop_of_frames _ hr', hr]
      rfl
    have hsame : U.sameButNew ({ U with heap := s₂.heap, slotsUsed := s₂.slotsUsed } : State) L mc ms := by
      refine ⟨?_, q2, q3, q4, q5, q6⟩
      obtain ⟨t, ht, -⟩ := State.frames_cons hr
      show ({ U with heap := s₂.heap, slotsUsed := s₂.slotsUsed } : State) = { U.setFrames U.frames with heap := s₂.heap, slotsUsed := s₂.slotsUsed }
      rw [State.setFrames_self ht]
    subst hg
    refine Or.inl ⟨v, ⟨(({ U with heap := s₂.heap, slotsUsed := s₂.slotsUsed } : State).setVm s₂.vm), Ls ++ L, c0 + mc, s0 + ms⟩,
      ⟨X.admits, X.cas, X.clock, X.frames, X.room, X.hears, X.method, X.code, (X.here.setHeapUsed s₂.heap s₂.slotsUsed).setVm hW'.alike, X.tail, State.WarmedH.trans X.warmed hW', X.limits, X.bytes, X.same.trans (hsame.setVm s.vm)⟩,
      ⟨g, mk, s₂, L, rfl, rfl, hqc, rfl, hL, rfl, rfl⟩, ?_⟩
    show Steps p.tables e below _ ((({ U with heap := s₂.heap, slotsUsed := s₂.slotsUsed } : State).setVm s₂.vm).setTop { g with pc := g.pc + len₂, stack := v.toList ++ g.stack })
    rw [← hs₂]
    exact hsteps
  · obtain ⟨e2, q2, q3, q4, q5, q6⟩ := id hsm
    have e3 : s₂ = ({ (U.calling g mk a).setFrames s₂.frames with heap := s₂.heap, slotsUsed := s₂.slotsUsed } : State).setVm s₂.vm := by
      have : s₂ = ({ s₂ with vm := (U.calling g mk a).vm } : State).setVm s₂.vm := rfl
      rw [e2] at this
      exact this
    have hf₂ : s₂.frames = .throwing q :: .java g :: U.frames.tail := hend
    have hW' : U.WarmedH s₂.vm := hW₂
    have hs₂ : s₂ = ((({ U with heap := s₂.heap, slotsUsed := s₂.slotsUsed } : State).setVm s₂.vm).setTop g).pushFrame (.throwing q) := by
      refine e3.trans ?_
      rw [hf₂, State.calling_eq h.top, State.setFrames_setFrames, State.pushFrame, State.frames_setTop _ hr', State.setTop_of_frames _ hr', State.setFrames_setFrames, hr]
      rfl
    have hsame : U.sameButNew ({ U with heap := s₂.heap, slotsUsed := s₂.slotsUsed } : State) L mc ms := by
      refine ⟨?_, q2, q3, q4, q5, q6⟩
      obtain ⟨t, ht, -⟩ := State.frames_cons hr
      show ({ U with heap := s₂.heap, slotsUsed := s₂.slotsUsed } : State) = { U.setFrames U.frames with heap := s₂.heap, slotsUsed := s₂.slotsUsed }
      rw [State.setFrames_self ht]
    subst hg
    refine Or.inr ⟨q, ⟨(({ U with heap := s₂.heap, slotsUsed := s₂.slotsUsed } : State).setVm s₂.vm), Ls ++ L, c0 + mc, s0 + ms⟩,
      ⟨X.admits, X.cas, X.clock, X.frames, X.room, X.hears, X.method, X.code, (X.here.setHeapUsed s₂.heap s₂.slotsUsed).setVm hW'.alike, X.tail, State.WarmedH.trans X.warmed hW', X.limits, X.bytes, X.same.trans (hsame.setVm s.vm)⟩,
      ⟨g, mk, s₂, L, E, ce, rfl, rfl, hx, hce, hcv, hcl, rfl, hL, rfl, rfl⟩, ?_⟩
    show Steps p.tables e below _ (((({ U with heap := s₂.heap, slotsUsed := s₂.slotsUsed } : State).setVm s₂.vm).setTop g).pushFrame (.throwing q))
    rw [← hs₂]
    exact hsteps
end Payer
section Calls
variable {p : Program} {l : Launch} {e : Env} {R : Room} {s : State} {m : MethodId} {args : Array Value} {below : List Frame} {meth : Method} {c : Code} {T : State} {locs : List Loc} {cells slots : Nat}
theorem vx_callV (X : Stand p l e R s m args below meth c T locs cells slots) (hexec : p.tables.exec = Jvm.exec) {own C : String} {index : Nat} {y : MethodName} {bytes : ByteArray} {maxL : Nat} {ret : Option FieldType}
    (hown : s.vm.findClass own = some m.cls) (hlink : (Cond.methodLink own index y).before args s = true) (hinst : (Cond.instanceMethod y).before args s = true) (hsel : (Cond.selects C y y).before args s = true)
    (hcode : (Cond.code y bytes maxL ret).before args s = true) (hy : y.cls ≠ "java/lang/invoke/MethodHandle" ∧ y.cls ≠ "java/lang/invoke/VarHandle")
    {W9 : Nat} {Pre : Pt → Array Value → Prop} {Post : Pt → Array Value → Option Value → Pt → Prop} {PostX : Pt → Array Value → Addr → Pt → Prop} (hK : vx_Back l R p e below s args y 3 W9 Pre Post PostX)
    {b : Addr} {cellB : Cell} (hcell : T.heap[b]? = some cellB) (hobj : cellB.vm.isStatics = false) (hcls : s.vm.findClass C = some cellB.cls)
    {g : JFrame} (hg : g.method = m) (hsize : g.locals.size = c.maxLocals) {argsL rest : List Value} (hlen : ∀ sig, parseMethodDescriptor y.desc = some sig → argsL.length = sig.parameters.length)
    (hstack : g.stack = argsL.reverse ++ .ref b :: rest) (hW : 2 * g.monitorRoom + (rest.map fun v => v.category).sum ≤ W9) (hdg : decode c.code g.pc = .ok (.invokevirtual index, 3))
    (hpre : ∀ vm₁, s.WarmedH vm₁ → Pre ⟨T.setVm vm₁, locs, cells, slots⟩ (Value.ref b :: argsL).toArray) :
    (∃ (v : Option Value) (vm₁ : Vm) (B : Pt), s.WarmedH vm₁ ∧ Stand p l e R s m args below meth c B.U B.locs B.cells B.slots ∧ Post ⟨T.setVm vm₁, locs, cells, slots⟩ (Value.ref b :: argsL).toArray v B ∧
      ∀ target, Steps p.tables e below (B.U.setTop { g with pc := g.pc + 3, stack := v.toList ++ rest }) target → Steps p.tables e below (T.setTop g) target) ∨
    (∃ (q : Addr) (vm₁ : Vm) (B : Pt), s.WarmedH vm₁ ∧ Stand p l e R s m args below meth c B.U B.locs B.cells B.slots ∧ PostX ⟨T.setVm vm₁, locs, cells, slots⟩ (Value.ref b :: argsL).toArray q B ∧
      Steps p.tables e below (T.setTop g) ((B.U.setTop { g with stack := rest }).pushFrame (.throwing q))) := by
  obtain ⟨mk, methM, hnamed, hmethM, hstM, habM⟩ := Cond.instanceMethod_spec hinst
  obtain ⟨methM', cM, hmethM', -, -, -, -, -, -, hsigM⟩ := Cond.code_spec hnamed hcode
  cases hmethM.symm.trans hmethM'
  obtain ⟨c2, r2, m2, q1, q2, q3, q4, kP, hkP, hkPi⟩ := Cond.selects_spec hsel
  cases hcls.symm.trans q1
  cases (State.methodFound?_of_named hnamed hy).symm.trans q2
  cases hnamed.symm.trans q3
  have hselP : selectMethod e.platform s.vm cellB.cls mk = .method mk := by rw [Launch.admits_selectMethod X.admits]; exact q4
  obtain ⟨vm₁, X₁, hstep₁⟩ := X.invokevirtual hexec hown hlink hnamed hmethM hstM hkP hkPi hy (a := b) (cell := cellB) hcell
    (fun z h => by rw [h] at hobj; cases hobj) hselP hmethM habM hkP hkPi (g := g) hg (argsL := argsL) (rest := rest) (hlen _ hsigM) hstack hdg
  rcases hK m meth c ⟨T.setVm vm₁, locs, cells, slots⟩ { g with stack := rest } (.invokevirtual index) mk (Value.ref b :: argsL).toArray X₁ hg hsize hdg hW (X₁.named hnamed) (hpre vm₁ X₁.warmed) with ⟨v, B, X', hpost, hsteps⟩ | ⟨q, B, X', hpost, hsteps⟩
  · exact Or.inl ⟨v, vm₁, B, X₁.warmed, X', hpost, fun target h => hstep₁ _ fun acts => by rw [doInvoke_state]; exact hsteps.trans h⟩
  · exact Or.inr ⟨q, vm₁, B, X₁.warmed, X', hpost, hstep₁ _ fun acts => by rw [doInvoke_state]; exact hsteps⟩
theorem vx_callS (X : Stand p l e R s m args below meth c T locs cells slots) (hexec : p.tables.exec = Jvm.exec) {own : String} {index : Nat} {y : MethodName} {bytes : ByteArray} {maxL : Nat} {ret : Option FieldType}
    (hown : s.vm.findClass own = some m.cls) (hlink : (Cond.methodLink own index y).before args s = true) (hstat : (Cond.static y).before args s = true) (hinit : (Cond.initialized y.cls).before args s = true)
    (hcode : (Cond.code y bytes maxL ret).before args s = true) (hy : y.cls ≠ "java/lang/invoke/MethodHandle" ∧ y.cls ≠ "java/lang/invoke/VarHandle")
    {W9 : Nat} {Pre : Pt → Array Value → Prop} {Post : Pt → Array Value → Option Value → Pt → Prop} {PostX : Pt → Array Value → Addr → Pt → Prop} (hK : vx_Back l R p e below s args y 3 W9 Pre Post PostX)
    {g : JFrame} (hg : g.method = m) (hsize : g.locals.size = c.maxLocals) {argsL rest : List Value} (hlen : ∀ sig, parseMethodDescriptor y.desc = some sig → argsL.length = sig.parameters.length)
    (hstack : g.stack = argsL.reverse ++ rest) (hW : 2 * g.monitorRoom + (rest.map fun v => v.category).sum ≤ W9) (hdg : decode c.code g.pc = .ok (.invokestatic index, 3))
    (hpre : ∀ vm₁, s.WarmedH vm₁ → Pre ⟨T.setVm vm₁, locs, cells, slots⟩ argsL.toArray) :
    (∃ (v : Option Value) (vm₁ : Vm) (B : Pt), s.WarmedH vm₁ ∧ Stand p l e R s m args below meth c B.U B.locs B.cells B.slots ∧ Post ⟨T.setVm vm₁, locs, cells, slots⟩ argsL.toArray v B ∧
      ∀ target, Steps p.tables e below (B.U.setTop { g with pc := g.pc + 3, stack := v.toList ++ rest }) target → Steps p.tables e below (T.setTop g) target) ∨
    (∃ (q : Addr) (vm₁ : Vm) (B : Pt), s.WarmedH vm₁ ∧ Stand p l e R s m args below meth c B.U B.locs B.cells B.slots ∧ PostX ⟨T.setVm vm₁, locs, cells, slots⟩ argsL.toArray q B ∧
      Steps p.tables e below (T.setTop g) ((B.U.setTop { g with stack := rest }).pushFrame (.throwing q))) := by
  obtain ⟨mk, hnamed⟩ := Cond.code_named hcode
  obtain ⟨methM, cM, hmethM, -, -, -, -, -, -, hsigM⟩ := Cond.code_spec hnamed hcode
  have hstatic : methM.isStatic = true := Cond.static_spec hnamed hmethM hstat
  obtain ⟨kP, hkP, -⟩ := className_of_methodNamed hnamed
  have hinitP : kP.init = .initialized := Cond.initialized_spec (findClass_of_methodNamed hnamed) hkP hinit
  obtain ⟨vm₁, X₁, hstep₁⟩ := X.invokestatic hexec hown hlink hnamed hmethM hstatic hkP hinitP hy (g := g) hg (argsL := argsL) (rest := rest) (hlen _ hsigM) hstack hdg
  rcases hK m meth c ⟨T.setVm vm₁, locs, cells, slots⟩ { g with stack := rest } (.invokestatic index) mk argsL.toArray X₁ hg hsize hdg hW (X₁.named hnamed) (hpre vm₁ X₁.warmed) with ⟨v, B, X', hpost, hsteps⟩ | ⟨q, B, X', hpost, hsteps⟩
  · exact Or.inl ⟨v, vm₁, B, X₁.warmed, X', hpost, fun target h => hstep₁ _ fun acts => by rw [doInvoke_state]; exact hsteps.trans h⟩
  · exact Or.inr ⟨q, vm₁, B, X₁.warmed, X', hpost, hstep₁ _ fun acts => by rw [doInvoke_state]; exact hsteps⟩
end Calls
theorem vx_cls {s : State} {T : State} {vm₁ : Vm} {E : String} {k : ClassId} (hW : s.WarmedH vm₁) (h : (T.setVm vm₁).vm.findClass E = some k) : s.vm.findClass E = some k := by
  have h1 : vm₁.findClass E = some k := h
  rw [hW.alike.findClass] at h1
  exact h1
/-- the method's frame g, with q thrown over it -/
def vx_W (p : Program) (l : Launch) (e : Env) (R : Room) (s : State) (m : MethodId) (args : Array Value) (below : List Frame) (meth : Method) (c : Code) (H : Heap) (locs : List Loc) (cells slots : Nat) (Q : State → Prop) (g : JFrame) (q : Addr) : Prop :=
  ∀ T : State, T.heap = H → Stand p l e R s m args below meth c T locs cells slots → ∃ t, Steps p.tables e below ((T.setTop g).pushFrame (.throwing q)) t ∧ Q t
def vx_Run (p : Program) (l : Launch) (e : Env) (R : Room) (s : State) (m : MethodId) (args : Array Value) (below : List Frame) (meth : Method) (c : Code) (H : Heap) (locs : List Loc) (cells slots mc ms : Nat) (g : JFrame) (rest : List Value) (Qa : State → Outcome → State → Prop) (XC : String → State → State → Prop) (free : Addr → Prop) : Prop :=
  ∀ T : State, T.heap = H → Stand p l e R s m args below meth c T locs cells slots →
    (∃ (v : Option Value) (st₀ t T' : State) (L : List Loc), st₀.heap = H ∧ Stand p l e R s m args below meth c T' (locs ++ L) (cells + mc) (slots + ms) ∧ (∀ q ∈ L, free q.base) ∧ T'.heap = t.heap ∧ T'.vm = t.vm ∧ Qa st₀ (.returned v) t ∧
      Goes p e below T g T' { g with pc := g.pc + 3, stack := v.toList ++ rest }) ∨
    (∃ (q : Addr) (st₀ t T' : State) (L : List Loc) (E : String) (ce : Cell), st₀.heap = H ∧ Stand p l e R s m args below meth c T' (locs ++ L) (cells + mc) (slots + ms) ∧ (∀ z ∈ L, free z.base) ∧ T'.heap = t.heap ∧ T'.vm = t.vm ∧ XC E st₀ t ∧ t.heap[q]? = some ce ∧ ce.vm = .none ∧ s.vm.findClass E = some ce.cls ∧
      Steps p.tables e below (T.setTop g) ((T'.setTop { g with stack := rest }).pushFrame (.throwing q)))
def vx_X {S : Type} (px : S → Prop) (B : String → S → State → Prop) (A : Nat → Prop) : String → State → State → Prop := fun E st t => ∃ u : S, px u ∧ B E u t ∧ va_F A st t
section Runs
variable {p : Program} {l : Launch} {e : Env} {R : Room} {s : State} {m : MethodId} {args : Array Value} {below : List Frame} {meth : Method} {c : Code} {H : Heap} {locs : List Loc} {cells slots : Nat}
variable {y : MethodName} {bytes cc : ByteArray} {maxL nL mc ms n index : Nat} {ret : Option FieldType} {ws : List Cond} {rm : Room} {Pc : Array Value → State → Prop} {Qc : Array Value → State → Outcome → State → Prop} {XC : String → State → State → Prop} {free : Addr → Prop} {Ts : List Cond} {own C : String} {b : Addr} {As rest : List Value} {g : JFrame}
theorem vx_callBack (cb : CallB R s args own index y bytes maxL ret ws rm mc ms n) (hM : vx_Met l y ws rm Pc Qc XC mc ms free) (hbl : FrameBlind Pc) : vx_Back l R p e below s args y 3 8 (PreOf R mc ms Pc) (PostOf Qc mc ms free) (vx_Post XC mc ms free) := by
  obtain ⟨hrc, hrs, hfr, hlo, hws, hcw, -, hini, -⟩ := cb
  exact vx_back (bytes := bytes) (maxL := maxL) (ret := ret) hM hbl hrc hrs hfr hlo hws hcw (fun a' U hW => word_at hW (Or.inl (by first | rfl | simp [Cond.onTables, Cond.keeps, Cond.steady])) hini)
theorem vx_runV (S : CallFix p m c cc nL s args Ts own) (hM : vx_Met l y ws rm Pc Qc XC mc ms free) (cw : CallW R s args own C index y bytes maxL ret ws rm mc ms n) (hp : PreV s H C b Pc As)
    (hg : g.method = m) (hn : As.length = n) (hsize : g.locals.size = nL) (hstack : g.stack = As.reverse ++ .ref b :: rest) (hW : 2 * g.monitorRoom + (rest.map fun v => v.category).sum ≤ 8) (hdg : decode cc g.pc = .ok (.invokevirtual index, 3)) (hf : cells + mc ≤ R.cells ∧ slots + ms ≤ R.slots) :
    vx_Run p l e R s m args below meth c H locs cells slots mc ms g rest (Qc (Value.ref b :: As).toArray) XC free := by
  have hK : vx_Back l R p e below s args y 3 8 (PreOf R mc ms Pc) (PostOf Qc mc ms free) (vx_Post XC mc ms free) := vx_callBack cw.1 hM hp.1
  obtain ⟨⟨-, -, -, -, -, -, hcode, -, hy, hlen, hl⟩, hin, hse⟩ := cw
  obtain ⟨hx, hb, hml, ho, -⟩ := S
  obtain ⟨-, ⟨cellB, hcB, hoB, hclB⟩, hPc⟩ := hp
  intro T hT X
  rcases vx_callV X hx (C := C) (bytes := bytes) (maxL := maxL) (ret := ret) ho hl hin hse hcode hy hK (by rw [hT]; exact hcB) hoB hclB hg (hsize.trans hml.symm) (argsL := As) (rest := rest) (fun sig h => hn.trans (hlen sig h)) hstack hW (by rw [hb]; exact hdg)
    (fun vm₁ hW₁ => ⟨hf.1, hf.2, hPc (T.setVm vm₁) hT hW₁⟩) with ⟨v, vm₁, ⟨U', l2, c2, s2⟩, hW₁, X', ⟨g', mk, t, L, e1, e2, hq, h1, hL, h2, h3⟩, st⟩ | ⟨q, vm₁, ⟨U', l2, c2, s2⟩, hW₁, X', ⟨g', mk, t, L, E, ce, e1, e2, hq, hce, hcv, hcl, h1, hL, h2, h3⟩, st⟩
  · dsimp only [Pt.U, Pt.locs, Pt.cells, Pt.slots] at X' e1 e2 h1 h2 h3 st
    subst h1; subst h2; subst h3
    exact Or.inl ⟨v, (T.setVm vm₁).calling g' mk (Value.ref b :: As).toArray, t, U', L, hT, X', hL, e1, e2, hq, st⟩
  · dsimp only [Pt.U, Pt.locs, Pt.cells, Pt.slots] at X' e1 e2 h1 h2 h3 st hcl
    subst h1; subst h2; subst h3
    exact Or.inr ⟨q, (T.setVm vm₁).calling g' mk (Value.ref b :: As).toArray, t, U', L, E, ce, hT, X', hL, e1, e2, hq, hce, hcv, vx_cls hW₁ hcl, st⟩
theorem vx_runS (S : CallFix p m c cc nL s args Ts own) (hM : vx_Met l y ws rm Pc Qc XC mc ms free) (cw : CallB R s args own index y bytes maxL ret ws rm mc ms n ∧ (Cond.static y).before args s = true) (hp : PreS s H Pc As)
    (hg : g.method = m) (hn : As.length = n) (hsize : g.locals.size = nL) (hstack : g.stack = As.reverse ++ rest) (hW : 2 * g.monitorRoom + (rest.map fun v => v.category).sum ≤ 8) (hdg : decode cc g.pc = .ok (.invokestatic index, 3)) (hf : cells + mc ≤ R.cells ∧ slots + ms ≤ R.slots) :
    vx_Run p l e R s m args below meth c H locs cells slots mc ms g rest (Qc As.toArray) XC free := by
  have hK : vx_Back l R p e below s args y 3 8 (PreOf R mc ms Pc) (PostOf Qc mc ms free) (vx_Post XC mc ms free) := vx_callBack cw.1 hM hp.1
  obtain ⟨⟨-, -, -, -, -, -, hcode, hini, hy, hlen, hl⟩, hstt⟩ := cw
  obtain ⟨hx, hb, hml, ho, -⟩ := S
  intro T hT X
  rcases vx_callS X hx (bytes := bytes) (maxL := maxL) (ret := ret) ho hl hstt hini hcode hy hK hg (hsize.trans hml.symm) (argsL := As) (rest := rest) (fun sig h => hn.trans (hlen sig h)) hstack hW (by rw [hb]; exact hdg)
    (fun vm₁ hW₁ => ⟨hf.1, hf.2, hp.2 (T.setVm vm₁) hT hW₁⟩) with ⟨v, vm₁, ⟨U', l2, c2, s2⟩, hW₁, X', ⟨g', mk, t, L, e1, e2, hq, h1, hL, h2, h3⟩, st⟩ | ⟨q, vm₁, ⟨U', l2, c2, s2⟩, hW₁, X', ⟨g', mk, t, L, E, ce, e1, e2, hq, hce, hcv, hcl, h1, hL, h2, h3⟩, st⟩
  · dsimp only [Pt.U, Pt.locs, Pt.cells, Pt.slots] at X' e1 e2 h1 h2 h3 st
    subst h1; subst h2; subst h3
    exact Or.inl ⟨v, (T.setVm vm₁).calling g' mk As.toArray, t, U', L, hT, X', hL, e1, e2, hq, st⟩
  · dsimp only [Pt.U, Pt.locs, Pt.cells, Pt.slots] at X' e1 e2 h1 h2 h3 st hcl
    subst h1; subst h2; subst h3
    exact Or.inr ⟨q, (T.setVm vm₁).calling g' mk As.toArray, t, U', L, E, ce, hT, X', hL, e1, e2, hq, hce, hcv, vx_cls hW₁ hcl, st⟩
end Runs
section Rows
variable {p : Program} {l : Launch} {e : Env} {R : Room} {s : State} {m : MethodId} {args : Array Value} {below : List Frame} {meth : Method} {c : Code} {H : Heap} {locs : List Loc} {cells slots : Nat} {Q : State → Prop}
variable {mc ms : Nat} {free : Addr → Prop} {A0 A1 : Nat → Prop} {H0 : Heap} {a : Array Value} {pc : Nat} {ls : Array Slot} {st0 rest : List Value}
theorem vx_keep {st₀ t T' : State} {L : List Loc} (h0 : st₀.heap = H) (e1 : T'.heap = t.heap) (hS : va_S A0 H0 H locs) (hA : ∀ q, q < H.size → A1 q → A0 q) (hf : ∀ q, free q → A0 q) (hL : ∀ q ∈ L, free q.base) (hF : va_F A1 st₀ t) :
    H.size ≤ T'.heap.size ∧ (∀ q : Nat, q < H.size → ¬ A1 q → T'.heap[q]? = H[q]?) ∧ va_S A0 H0 T'.heap (locs ++ L) := by
  obtain ⟨hz, hk⟩ := hF
  rw [h0] at hz hk
  exact ⟨by rw [e1]; exact hz, fun q h1 h2 => by rw [e1]; exact hk q h1 h2,
    ⟨Nat.le_trans hS.1 (by rw [e1]; exact hz), fun q h1 h2 => by rw [e1, hk q (Nat.lt_of_lt_of_le h1 hS.1) (fun z => h2 (hA q (Nat.lt_of_lt_of_le h1 hS.1) z))]; exact hS.2.1 q h1 h2, fun q hq => by
      rcases List.mem_append.mp hq with h | h
      · exact hS.2.2 q h
      · exact hf _ (hL q h)⟩⟩
theorem vx_calli {S SX : Type} {post : Int32 → S → Prop} {px : SX → Prop} {B : S → State → Prop} {BX : String → SX → State → Prop} {AX : Nat → Prop} (hr : vx_Run p l e R s m args below meth c H locs cells slots mc ms (F0 m pc ls st0) rest (va_Qi post B A1 a) (vx_X px BX AX) free) (hS : va_S A0 H0 H locs) (hA : ∀ q, q < H.size → A1 q → A0 q) (hf : ∀ q, free q → A0 q) (hAX : ∀ q, q < H.size → AX q → A0 q)
    (kx : ∀ (E : String) (ce : Cell) (q9 : Addr) (u : SX) (t : State) (H1 : Heap) (locs1 : List Loc), t.heap = H1 → s.vm.Alike t.vm → px u → BX E u t → H.size ≤ H1.size → (∀ q : Nat, q < H.size → ¬ AX q → H1[q]? = H[q]?) → va_S A0 H0 H1 locs1 → H1[q9]? = some ce → ce.vm = .none → s.vm.findClass E = some ce.cls → vx_W p l e R s m args below meth c H1 locs1 (cells + mc) (slots + ms) Q (F0 m pc ls rest) q9)
    (kk : ∀ (r : Int32) (u : S) (t : State) (H1 : Heap) (locs1 : List Loc), t.heap = H1 → s.vm.Alike t.vm → post r u → B u t → H.size ≤ H1.size → (∀ q : Nat, q < H.size → ¬ A1 q → H1[q]? = H[q]?) → va_S A0 H0 H1 locs1 → W p l e R s m args below meth c H1 locs1 (cells + mc) (slots + ms) Q (F0 m (pc + 3) ls (.int r :: rest))) : W p l e R s m args below meth c H locs cells slots Q (F0 m pc ls st0) := by
  intro T hT X
  rcases hr T hT X with ⟨v, st₀, t, T', L, h0, X', hL, e1, e2, ⟨⟨r, u, hv, hp, hb⟩, hF⟩, st⟩ | ⟨q, st₀, t, T', L, E, ce, h0, X', hL, e1, e2, ⟨u, hp, hb, hF⟩, hce, hcv, hcl, st⟩
  · cases hv
    obtain ⟨k1, k2, k3⟩ := vx_keep h0 e1 hS hA hf hL hF
    obtain ⟨t2, a1, b1⟩ := kk r u t T'.heap (locs ++ L) e1.symm (by rw [← e2]; exact X'.warmed.alike) hp hb k1 k2 k3 T' rfl X'
    exact ⟨t2, st t2 a1, b1⟩
  · obtain ⟨k1, k2, k3⟩ := vx_keep h0 e1 hS hAX hf hL hF
    obtain ⟨t2, a1, b1⟩ := kx E ce q u t T'.heap (locs ++ L) e1.symm (by rw [← e2]; exact X'.warmed.alike) hp hb k1 k2 k3 (by rw [e1]; exact hce) hcv hcl T' rfl X'
    exact ⟨t2, st.trans a1, b1⟩
theorem vx_calll {S SX : Type} {post : Int64 → S → Prop} {px : SX → Prop} {B : S → State → Prop} {BX : String → SX → State → Prop} {AX : Nat → Prop} (hr : vx_Run p l e R s m args below meth c H locs cells slots mc ms (F0 m pc ls st0) rest (va_Ql post B A1 a) (vx_X px BX AX) free) (hS : va_S A0 H0 H locs) (hA : ∀ q, q < H.size → A1 q → A0 q) (hf : ∀ q, free q → A0 q) (hAX : ∀ q, q < H.size → AX q → A0 q)
    (kx : ∀ (E : String) (ce : Cell) (q9 : Addr) (u : SX) (t : State) (H1 : Heap) (locs1 : List Loc), t.heap = H1 → s.vm.Alike t.vm → px u → BX E u t → H.size ≤ H1.size → (∀ q : Nat, q < H.size → ¬ AX q → H1[q]? = H[q]?) → va_S A0 H0 H1 locs1 → H1[q9]? = some ce → ce.vm = .none → s.vm.findClass E = some ce.cls → vx_W p l e R s m args below meth c H1 locs1 (cells + mc) (slots + ms) Q (F0 m pc ls rest) q9)
    (kk : ∀ (r : Int64) (u : S) (t : State) (H1 : Heap) (locs1 : List Loc), t.heap = H1 → s.vm.Alike t.vm → post r u → B u t → H.size ≤ H1.size → (∀ q : Nat, q < H.size → ¬ A1 q → H1[q]? = H[q]?) → va_S A0 H0 H1 locs1 → W p l e R s m args below meth c H1 locs1 (cells + mc) (slots + ms) Q (F0 m (pc + 3) ls (.long r :: rest))) : W p l e R s m args below meth c H locs cells slots Q (F0 m pc ls st0) := by
  intro T hT X
  rcases hr T hT X with ⟨v, st₀, t, T', L, h0, X', hL, e1, e2, ⟨⟨r, u, hv, hp, hb⟩, hF⟩, st⟩ | ⟨q, st₀, t, T', L, E, ce, h0, X', hL, e1, e2, ⟨u, hp, hb, hF⟩, hce, hcv, hcl, st⟩
  · cases hv
    obtain ⟨k1, k2, k3⟩ := vx_keep h0 e1 hS hA hf hL hF
    obtain ⟨t2, a1, b1⟩ := kk r u t T'.heap (locs ++ L) e1.symm (by rw [← e2]; exact X'.warmed.alike) hp hb k1 k2 k3 T' rfl X'
    exact ⟨t2, st t2 a1, b1⟩
  · obtain ⟨k1, k2, k3⟩ := vx_keep h0 e1 hS hAX hf hL hF
    obtain ⟨t2, a1, b1⟩ := kx E ce q u t T'.heap (locs ++ L) e1.symm (by rw [← e2]; exact X'.warmed.alike) hp hb k1 k2 k3 (by rw [e1]; exact hce) hcv hcl T' rfl X'
    exact ⟨t2, st.trans a1, b1⟩
theorem vx_callf {S SX : Type} {post : UInt32 → S → Prop} {px : SX → Prop} {B : S → State → Prop} {BX : String → SX → State → Prop} {AX : Nat → Prop} (hr : vx_Run p l e R s m args below meth c H locs cells slots mc ms (F0 m pc ls st0) rest (va_Qf post B A1 a) (vx_X px BX AX) free) (hS : va_S A0 H0 H locs) (hA : ∀ q, q < H.size → A1 q → A0 q) (hf : ∀ q, free q → A0 q) (hAX : ∀ q, q < H.size → AX q → A0 q)
    (kx : ∀ (E : String) (ce : Cell) (q9 : Addr) (u : SX) (t : State) (H1 : Heap) (locs1 : List Loc), t.heap = H1 → s.vm.Alike t.vm → px u → BX E u t → H.size ≤ H1.size → (∀ q : Nat, q < H.size → ¬ AX q → H1[q]? = H[q]?) → va_S A0 H0 H1 locs1 → H1[q9]? = some ce → ce.vm = .none → s.vm.findClass E = some ce.cls → vx_W p l e R s m args below meth c H1 locs1 (cells + mc) (slots + ms) Q (F0 m pc ls rest) q9)
    (kk : ∀ (r : UInt32) (u : S) (t : State) (H1 : Heap) (locs1 : List Loc), t.heap = H1 → s.vm.Alike t.vm → post r u → B u t → H.size ≤ H1.size → (∀ q : Nat, q < H.size → ¬ A1 q → H1[q]? = H[q]?) → va_S A0 H0 H1 locs1 → W p l e R s m args below meth c H1 locs1 (cells + mc) (slots + ms) Q (F0 m (pc + 3) ls (.float r :: rest))) : W p l e R s m args below meth c H locs cells slots Q (F0 m pc ls st0) := by
  intro T hT X
  rcases hr T hT X with ⟨v, st₀, t, T', L, h0, X', hL, e1, e2, ⟨⟨r, u, hv, hp, hb⟩, hF⟩, st⟩ | ⟨q, st₀, t, T', L, E, ce, h0, X', hL, e1, e2, ⟨u, hp, hb, hF⟩, hce, hcv, hcl, st⟩
  · cases hv
    obtain ⟨k1, k2, k3⟩ := vx_keep h0 e1 hS hA hf hL hF
    obtain ⟨t2, a1, b1⟩ := kk r u t T'.heap (locs ++ L) e1.symm (by rw [← e2]; exact X'.warmed.alike) hp hb k1 k2 k3 T' rfl X'
    exact ⟨t2, st t2 a1, b1⟩
  · obtain ⟨k1, k2, k3⟩ := vx_keep h0 e1 hS hAX hf hL hF
    obtain ⟨t2, a1, b1⟩ := kx E ce q u t T'.heap (locs ++ L) e1.symm (by rw [← e2]; exact X'.warmed.alike) hp hb k1 k2 k3 (by rw [e1]; exact hce) hcv hcl T' rfl X'
    exact ⟨t2, st.trans a1, b1⟩
theorem vx_calld {S SX : Type} {post : UInt64 → S → Prop} {px : SX → Prop} {B : S → State → Prop} {BX : String → SX → State → Prop} {AX : Nat → Prop} (hr : vx_Run p l e R s m args below meth c H locs cells slots mc ms (F0 m pc ls st0) rest (va_Qd post B A1 a) (vx_X px BX AX) free) (hS : va_S A0 H0 H locs) (hA : ∀ q, q < H.size → A1 q → A0 q) (hf : ∀ q, free q → A0 q) (hAX : ∀ q, q < H.size → AX q → A0 q)
    (kx : ∀ (E : String) (ce : Cell) (q9 : Addr) (u : SX) (t : State) (H1 : Heap) (locs1 : List Loc), t.heap = H1 → s.vm.Alike t.vm → px u → BX E u t → H.size ≤ H1.size → (∀ q : Nat, q < H.size → ¬ AX q → H1[q]? = H[q]?) → va_S A0 H0 H1 locs1 → H1[q9]? = some ce → ce.vm = .none → s.vm.findClass E = some ce.cls → vx_W p l e R s m args below meth c H1 locs1 (cells + mc) (slots + ms) Q (F0 m pc ls rest) q9)
    (kk : ∀ (r : UInt64) (u : S) (t : State) (H1 : Heap) (locs1 : List Loc), t.heap = H1 → s.vm.Alike t.vm → post r u → B u t → H.size ≤ H1.size → (∀ q : Nat, q < H.size → ¬ A1 q → H1[q]? = H[q]?) → va_S A0 H0 H1 locs1 → W p l e R s m args below meth c H1 locs1 (cells + mc) (slots + ms) Q (F0 m (pc + 3) ls (.double r :: rest))) : W p l e R s m args below meth c H locs cells slots Q (F0 m pc ls st0) := by
  intro T hT X
  rcases hr T hT X with ⟨v, st₀, t, T', L, h0, X', hL, e1, e2, ⟨⟨r, u, hv, hp, hb⟩, hF⟩, st⟩ | ⟨q, st₀, t, T', L, E, ce, h0, X', hL, e1, e2, ⟨u, hp, hb, hF⟩, hce, hcv, hcl, st⟩
  · cases hv
    obtain ⟨k1, k2, k3⟩ := vx_keep h0 e1 hS hA hf hL hF
    obtain ⟨t2, a1, b1⟩ := kk r u t T'.heap (locs ++ L) e1.symm (by rw [← e2]; exact X'.warmed.alike) hp hb k1 k2 k3 T' rfl X'
    exact ⟨t2, st t2 a1, b1⟩
  · obtain ⟨k1, k2, k3⟩ := vx_keep h0 e1 hS hAX hf hL hF
    obtain ⟨t2, a1, b1⟩ := kx E ce q u t T'.heap (locs ++ L) e1.symm (by rw [← e2]; exact X'.warmed.alike) hp hb k1 k2 k3 (by rw [e1]; exact hce) hcv hcl T' rfl X'
    exact ⟨t2, st.trans a1, b1⟩
theorem vx_callv {S SX : Type} {post : S → Prop} {px : SX → Prop} {B : S → State → Prop} {BX : String → SX → State → Prop} {AX : Nat → Prop} (hr : vx_Run p l e R s m args below meth c H locs cells slots mc ms (F0 m pc ls st0) rest (va_Qv post B A1 a) (vx_X px BX AX) free) (hS : va_S A0 H0 H locs) (hA : ∀ q, q < H.size → A1 q → A0 q) (hf : ∀ q, free q → A0 q) (hAX : ∀ q, q < H.size → AX q → A0 q)
    (kx : ∀ (E : String) (ce : Cell) (q9 : Addr) (u : SX) (t : State) (H1 : Heap) (locs1 : List Loc), t.heap = H1 → s.vm.Alike t.vm → px u → BX E u t → H.size ≤ H1.size → (∀ q : Nat, q < H.size → ¬ AX q → H1[q]? = H[q]?) → va_S A0 H0 H1 locs1 → H1[q9]? = some ce → ce.vm = .none → s.vm.findClass E = some ce.cls → vx_W p l e R s m args below meth c H1 locs1 (cells + mc) (slots + ms) Q (F0 m pc ls rest) q9)
    (kk : ∀ (u : S) (t : State) (H1 : Heap) (locs1 : List Loc), t.heap = H1 → s.vm.Alike t.vm → post u → B u t → H.size ≤ H1.size → (∀ q : Nat, q < H.size → ¬ A1 q → H1[q]? = H[q]?) → va_S A0 H0 H1 locs1 → W p l e R s m args below meth c H1 locs1 (cells + mc) (slots + ms) Q (F0 m (pc + 3) ls (rest))) : W p l e R s m args below meth c H locs cells slots Q (F0 m pc ls st0) := by
  intro T hT X
  rcases hr T hT X with ⟨v, st₀, t, T', L, h0, X', hL, e1, e2, ⟨⟨u, hv, hp, hb⟩, hF⟩, st⟩ | ⟨q, st₀, t, T', L, E, ce, h0, X', hL, e1, e2, ⟨u, hp, hb, hF⟩, hce, hcv, hcl, st⟩
  · cases hv
    obtain ⟨k1, k2, k3⟩ := vx_keep h0 e1 hS hA hf hL hF
    obtain ⟨t2, a1, b1⟩ := kk u t T'.heap (locs ++ L) e1.symm (by rw [← e2]; exact X'.warmed.alike) hp hb k1 k2 k3 T' rfl X'
    exact ⟨t2, st t2 a1, b1⟩
  · obtain ⟨k1, k2, k3⟩ := vx_keep h0 e1 hS hAX hf hL hF
    obtain ⟨t2, a1, b1⟩ := kx E ce q u t T'.heap (locs ++ L) e1.symm (by rw [← e2]; exact X'.warmed.alike) hp hb k1 k2 k3 (by rw [e1]; exact hce) hcv hcl T' rfl X'
    exact ⟨t2, st.trans a1, b1⟩
/-- caught by the row x of this method's table; the rows ahead don't take it -/
theorem vx_catch {own name : String} {E : String} {ce : Cell} {q : Addr} (hown : s.vm.findClass own = some m.cls) (pre : List ExceptionTableEntry) (x : ExceptionTableEntry) (suf : List ExceptionTableEntry) (hsplit : c.exceptionTable.toList = pre ++ x :: suf)
    (hpass : ∀ z ∈ pre, covers z pc = false ∨ (z.catchType ≠ 0 ∧ ∃ nm : String, (Cond.classLink own z.catchType nm).before args s = true ∧ va_Nc E nm s)) (hx : covers x pc = true) (h0 : x.catchType ≠ 0)
    (hlink : (Cond.classLink own x.catchType name).before args s = true) (hcast : (Cond.castable E name).before args s = true) (hcell : H[q]? = some ce) (hv : ce.vm = .none) (hcl : s.vm.findClass E = some ce.cls)
    (kk : W p l e R s m args below meth c H locs cells slots Q (F0 m x.handlerPc ls [.ref q])) : vx_W p l e R s m args below meth c H locs cells slots Q (F0 m pc ls rest) q := by
  intro T hT X
  have hpl : e.platform.magicAccessors = ({} : Platform).magicAccessors := by rw [X.admits.platform]
  obtain ⟨c3, c4, hc3, hc4, hasg⟩ := Cond.castable_spec hcast
  cases Option.some.inj (hc3.symm.trans hcl)
  obtain ⟨c5, hc5, hcl5⟩ := Cond.classLink_spec hown hlink e.platform hpl
  cases Option.some.inj (hc4.symm.trans hc5)
  obtain ⟨vm', X', st⟩ := X.thenCaughtThrough q (g := F0 m pc ls rest) rfl (Steps.refl _) (by rw [hT]; exact hcell) (by rw [hv]; rfl) (by obtain ⟨k9, h9, -⟩ := Vm.findClass_spec hcl; exact ⟨k9, h9⟩) pre x suf hsplit
    (fun z hz => by
      rcases hpass z hz with h | ⟨hz0, nm, hl1, hn1⟩
      · exact Or.inl h
      · obtain ⟨c6, hc6, hcl6⟩ := Cond.classLink_spec hown hl1 e.platform hpl
        obtain ⟨a8, b8, h1, h2, h3⟩ := hn1
        cases Option.some.inj (h1.symm.trans hcl)
        cases Option.some.inj (h2.symm.trans hc6)
        exact Or.inr ⟨hz0, _, hcl6, h3⟩) hx (Or.inr ⟨h0, c4, hcl5, hasg⟩)
  obtain ⟨t, a1, b1⟩ := kk (T.setVm vm') hT X'
  exact ⟨t, st.trans a1, b1⟩
end Rows
section Ends
variable {p : Program} {l : Launch} {e : Env} {R : Room} {s : State} {m : MethodId} {args : Array Value} {below : List Frame} {meth : Method} {c : Code} {H : Heap} {locs : List Loc} {cells slots : Nat} {Q : State → Prop}
variable {mc ms : Nat} {free : Addr → Prop} {A0 A1 : Nat → Prop} {H0 : Heap} {a : Array Value} {ls : Array Slot} {st0 rest : List Value}
variable {Qc : Array Value → State → Outcome → State → Prop} {XC : String → State → State → Prop}
/-- what a body that may throw owes at its end -/
def vx_MQ (below : List Frame) (Qc : Array Value → State → Outcome → State → Prop) (XC : String → State → State → Prop) (a : Array Value) (s : State) (mc ms : Nat) (free : Addr → Prop) : State → Prop := fun t =>
  ∃ o, t.status = .running ∧ Ended t below o ∧ vx_Q Qc XC mc ms free a s o t
theorem vx_ret {g : JFrame} {mc ms : Nat} (k : W p l e R s m args below meth c H locs cells slots (MQ below Qc args s mc ms free) g) : W p l e R s m args below meth c H locs cells slots (vx_MQ below Qc XC args s mc ms free) g := by
  intro T hT X
  obtain ⟨t, a1, o, b1, b2, b3, b4⟩ := k T hT X
  exact ⟨t, a1, o, b1, b2, Or.inl ⟨b3, b4⟩⟩
/-- not caught here: it goes on to the caller -/
theorem vx_widen {g : JFrame} {q : Addr} {k n : Nat} (h1 : cells ≤ k) (h2 : slots ≤ n) (kk : vx_W p l e R s m args below meth c H locs k n Q g q) : vx_W p l e R s m args below meth c H locs cells slots Q g q := fun T hT X => kk T hT (stand_widen X h1 h2)
theorem vx_out {pc : Nat} {E : String} {ce : Cell} {q : Addr} {mc ms : Nat} (hout : ∀ x ∈ c.exceptionTable.toList, covers x pc = false) (hlocks : meth.locks = false) (hcell : H[q]? = some ce) (hv : ce.vm = .none) (hcl : s.vm.findClass E = some ce.cls)
    (hx : ∀ t : State, t.heap = H → s.vm.Alike t.vm → XC E s t) (hf : ∀ z ∈ locs, free z.base) (hc : cells ≤ mc) (hs : slots ≤ ms) :
    vx_W p l e R s m args below meth c H locs cells slots (vx_MQ below Qc XC args s mc ms free) (F0 m pc ls rest) q := by
  intro T hT X
  obtain ⟨st1, hrun, hend, hW, hsm⟩ := X.leaveThrown q (g := F0 m pc ls rest) rfl rfl rfl hout hlocks
  have hcell9 : (T.setFrames (.throwing q :: below)).heap[q]? = some ce := by
    show T.heap[q]? = some ce
    rw [hT]; exact hcell
  exact ⟨_, st1, .threw q, hrun, hend, Or.inr ⟨q, rfl, E, ce, locs, hx _ hT hW.alike, hcell9, hv, hcl, hW, hsm.mono hc hs, hf⟩⟩
theorem vx_frame {U : State} {k n : Nat} (h : s.sameButNew ({ U with vm := s.vm } : State) locs k n) : s.heap.size ≤ U.heap.size ∧ ∀ q : Nat, q < s.heap.size → (∀ z ∈ locs, z.base ≠ q) → U.heap[q]? = s.heap[q]? := by
  obtain ⟨-, h2, -, -, -, h6⟩ := h
  refine ⟨h2, fun q hq hz => ?_⟩
  obtain ⟨c9, e1, e2, e3, e4⟩ := h6 q _ (Array.getElem?_eq_getElem hq)
  have hs : c9.slots = (s.heap[q]).slots := Array.ext_getElem? fun i => e4 i fun hm => hz _ hm rfl
  have h9 : c9 = s.heap[q] := by
    rw [hs] at e2
    exact e2
  have e5 : U.heap[q]? = some c9 := e1
  rw [e5, h9, Array.getElem?_eq_getElem hq]
/-- the words of a throw but the four that speak of the heap -/
def vx_no (w : Cond) : Bool := decide (w ≠ .isRef (.static Bundle.tN "UNASSIGNED_STACK" Bundle.steD)) && decide (w ≠ .isRef (.static Bundle.tN "SUPPRESSED_SENTINEL" Bundle.listD)) && decide (w ≠ .laysStatic Bundle.tN "UNASSIGNED_STACK" Bundle.steD) && decide (w ≠ .laysStatic Bundle.tN "SUPPRESSED_SENTINEL" Bundle.listD)
def vx_at0 (own : String) (ic : Nat) (X : String) (names : List String) : List Cond := (Bundle.ownAtoms0 own ic X names).filter vx_no
def vx_atS (own : String) (ic : Nat) (X : String) (names : List String) : List Cond := (Bundle.ownAtoms own ic X names).filter vx_no
/-- a word that the tables alone decide, or a good one -/
def vx_ot (w : Cond) : Bool := w.onTables || goodWord w
theorem vx_ot_at {args a' : Array Value} {s U : State} {w : Cond} (hW : s.WarmedH U.vm) (hvm : s.vm = U.vm) (hg : vx_ot w = true) (h : w.before args s = true) : w.before a' U = true := by
  simp only [vx_ot, Bool.or_eq_true] at hg
  rcases hg with hg | hg
  · exact va_tabs hg hvm h
  · exact word_at hW (good_of_word hg) h
/-- a list's words: the good ones out of the method's own list, the others by premises of their own -/
theorem vx_hat {args : Array Value} {s : State} {L B : List Cond} (h1 : ∀ w ∈ L.filter goodWord, w.before args s = true) (h2 : ∀ w ∈ L.filter (fun w => !goodWord w), w ∈ B) (h3 : ∀ w ∈ B, w.before args s = true) : ∀ w ∈ L, w.before args s = true := by
  intro w hw
  by_cases g : goodWord w = true
  · exact h1 w (List.mem_filter.mpr ⟨hw, g⟩)
  · refine h3 w (h2 w (List.mem_filter.mpr ⟨hw, ?_⟩))
    show (!goodWord w) = true
    cases hgw : goodWord w
    · rfl
    · exact absurd hgw g
theorem vx_c {args : Array Value} {s : State} {w : Cond} {B : List Cond} (h : w.before args s = true) (t : ∀ w ∈ B, w.before args s = true) : ∀ w' ∈ w :: B, w'.before args s = true := fun w' h' => (List.mem_cons.mp h').elim (fun e => by rw [e]; exact h) (t w')
theorem vx_n {args : Array Value} {s : State} : ∀ w ∈ ([] : List Cond), w.before args s = true := fun _ h => nomatch h
theorem vx_own {args : Array Value} {s : State} {L : List Cond} (h1 : ∀ w ∈ L.filter vx_no, w.before args s = true)
    (hU : (Cond.isRef (.static Bundle.tN "UNASSIGNED_STACK" Bundle.steD)).before args s = true) (hN : (Cond.isRef (.static Bundle.tN "SUPPRESSED_SENTINEL" Bundle.listD)).before args s = true)
    (lU : (Cond.laysStatic Bundle.tN "UNASSIGNED_STACK" Bundle.steD).before args s = true) (lN : (Cond.laysStatic Bundle.tN "SUPPRESSED_SENTINEL" Bundle.listD).before args s = true) : ∀ w ∈ L, w.before args s = true := by
  intro w hw
  by_cases e1 : w = .isRef (.static Bundle.tN "UNASSIGNED_STACK" Bundle.steD)
  · rw [e1]; exact hU
  · by_cases e2 : w = .isRef (.static Bundle.tN "SUPPRESSED_SENTINEL" Bundle.listD)
    · rw [e2]; exact hN
    · by_cases e3 : w = .laysStatic Bundle.tN "UNASSIGNED_STACK" Bundle.steD
      · rw [e3]; exact lU
      · by_cases e4 : w = .laysStatic Bundle.tN "SUPPRESSED_SENTINEL" Bundle.listD
        · rw [e4]; exact lN
        · exact h1 w (List.mem_filter.mpr ⟨hw, by unfold vx_no; rw [decide_eq_true e1, decide_eq_true e2, decide_eq_true e3, decide_eq_true e4]; rfl⟩)
/-- where a static field lies, its class's statics cell in H -/
def vx_L (C n d : String) (A : Nat → Prop) (U : State) (H : Heap) : Prop := ∃ (c : ClassId) (k : Class) (i : Nat) (f : Field) (a : Nat) (cell : Cell), U.vm.findClass C = some c ∧ U.fieldFound? C n d = some (c, k, i, f) ∧ f.isStatic = true ∧ k.statics = some a ∧ H[a]? = some cell ∧ cell.vm.isStatics = true ∧ cell.cls = c ∧ f.slot < cell.slots.size ∧ k.staticTypes[f.slot]? = some f.type ∧ ¬ A a
theorem vx_L.moved {C n d : String} {A : Nat → Prop} {u U : State} {H : Heap} (hvm : u.vm.Alike U.vm) (h : vx_L C n d A u H) : vx_L C n d A U H := by
  obtain ⟨c, k, i, f, a, cell, h1, h2, h3, h4, h5, h6, h7, h8, h9, h10⟩ := h
  obtain ⟨k', hi', he⟩ := State.fieldFound?_setVm hvm h2
  exact ⟨c, k', i, f, a, cell, by rw [hvm.findClass]; exact h1, hi', h3, by rw [he]; exact h4, h5, h6, h7, h8, by rw [he]; exact h9, h10⟩
theorem vx_L.kept {C n d : String} {A : Nat → Prop} {U : State} {H H1 : Heap} (h : vx_L C n d A U H) (hq : ∀ a : Nat, a < H.size → ¬ A a → H1[a]? = H[a]?) : vx_L C n d A U H1 := by
  obtain ⟨c, k, i, f, a, cell, h1, h2, h3, h4, h5, h6, h7, h8, h9, h10⟩ := h
  exact ⟨c, k, i, f, a, cell, h1, h2, h3, h4, by rw [hq a (Array.getElem?_eq_some_iff.mp h5).1 h10]; exact h5, h6, h7, h8, h9, h10⟩
theorem vx_L.narrow {C n d : String} {A B : Nat → Prop} {U : State} {H : Heap} (h : vx_L C n d A U H) (hAB : ∀ q, B q → A q) : vx_L C n d B U H := by
  obtain ⟨c, k, i, f, a, cell, h1, h2, h3, h4, h5, h6, h7, h8, h9, h10⟩ := h
  exact ⟨c, k, i, f, a, cell, h1, h2, h3, h4, h5, h6, h7, h8, h9, fun z => h10 (hAB _ z)⟩
theorem vx_L.word {C n d : String} {A : Nat → Prop} {s : State} {args : Array Value} (h : vx_L C n d A s s.heap) : (Cond.laysStatic C n d).before args s = true := by
  obtain ⟨c, k, i, f, a, cell, h1, h2, h3, h4, h5, h6, h7, h8, h9, -⟩ := h
  show (Cond.laysStatic C n d).holds args s none s [] = true
  exact Cond.laysStatic_of h1 h2 h3 h4 h5 h6 h7 h8 h9
/-- .. and what it holds: null or some reference -/
def vx_Zq (C n d : String) (A : Nat → Prop) (U : State) (H : Heap) : Prop := va_Zq C n d A U H ∧ vx_L C n d A U H
theorem vx_Zq.moved {C n d : String} {A : Nat → Prop} {u U : State} {H : Heap} (hvm : u.vm.Alike U.vm) (h : vx_Zq C n d A u H) : vx_Zq C n d A U H := ⟨va_Zq.moved hvm h.1, vx_L.moved hvm h.2⟩
theorem vx_Zq.kept {C n d : String} {A : Nat → Prop} {U : State} {H H1 : Heap} (h : vx_Zq C n d A U H) (hq : ∀ a : Nat, a < H.size → ¬ A a → H1[a]? = H[a]?) : vx_Zq C n d A U H1 := ⟨va_Zq.kept h.1 hq, vx_L.kept h.2 hq⟩
theorem vx_Zq.narrow {C n d : String} {A B : Nat → Prop} {U : State} {H : Heap} (h : vx_Zq C n d A U H) (hAB : ∀ q, B q → A q) : vx_Zq C n d B U H := ⟨va_Zq.narrow h.1 hAB, vx_L.narrow h.2 hAB⟩
theorem vx_Zqof {args : Array Value} {s : State} {C n d : String} {A : Nat → Prop} (hl : (Cond.laysStatic C n d).before args s = true) (hini : (Cond.initialized C).before args s = true) (h : (Cond.isRef (.static C n d)).before args s = true) (hA : ∀ a : Nat, a < s.heap.size → ¬ A a) : vx_Zq C n d A s s.heap := by
  refine ⟨va_Zqof hl hini h hA, ?_⟩
  obtain ⟨c, k, i, f, a, cell, h1, h2, h3, h4, h5, h6, h7, h8, h9⟩ := Cond.laysStatic_spec hl
  exact ⟨c, k, i, f, a, cell, h1, h2, h3, h4, h5, h6, h7, h8, h9, hA a (Array.getElem?_eq_some_iff.mp h5).1⟩
theorem vx_isRef {C n d : String} {v : Value} {A : Nat → Prop} {s : State} {args : Array Value} (h : va_Z C n d v A s s.heap) (hv : v.isRef = true) : (Cond.isRef (.static C n d)).before args s = true := by
  obtain ⟨cf, kf, fi, f, a, cell, h1, h2, h3, h4, h5, h6, h7, -⟩ := h
  have he : (Term.static C n d).eval args s none [] s = some v := by
    simp [Term.eval, State.fieldNamed?, h1, h2, h4, h5, h6, h7]
  simp only [Cond.before, Cond.holds, Cond.value, he]
  cases v <;> simp_all [Value.isRef]
theorem vx_isRefq {C n d : String} {A : Nat → Prop} {s : State} {args : Array Value} (h : va_Zq C n d A s s.heap) : (Cond.isRef (.static C n d)).before args s = true := by
  rcases h with h | ⟨t, h⟩
  · exact vx_isRef h rfl
  · exact vx_isRef h rfl
/-- the same frame, seen from here: as if the method were called anew in this heap -/
theorem vx_rebase {T : State} (X : Stand p l e R s m args below meth c T locs cells slots) {R' : Room} (hf : R'.frames ≤ R.frames) (hl : R'.locals ≤ R.locals) (hc : cells + R'.cells ≤ R.cells) (hs : slots + R'.slots ≤ R.slots) :
    Stand p l e R' ((T.setVm s.vm).setFrames (.invoking m args :: below)) m args below meth c T [] 0 0 := by
  have htop : (T.setVm s.vm).topJava?.isSome := X.here.top
  have hF : ((T.setVm s.vm).setFrames (.invoking m args :: below)).frames = .invoking m args :: below := State.frames_setFrames _ (State.cur_lt_of_top htop)
  obtain ⟨g₀, hg0⟩ := Option.isSome_iff_exists.mp htop
  obtain ⟨r, hr⟩ := State.topJava?_eq_some.mp hg0
  have hl9 : e.platform.stackLimits (T.setVm s.vm).me = e.platform.stackLimits s.me := X.limits
  have hb9 : (T.setVm s.vm).me.stackBytes = s.me.stackBytes := X.bytes
  refine ⟨X.admits, X.cas, X.clock, hF, ?_, X.hears, X.method, X.code, X.here, X.tail, X.warmed, ?_, ?_, ?_⟩
  · have h := X.room
    have hU : ((T.setVm s.vm).setFrames (.invoking m args :: below)).localsInUse = s.localsInUse := by
      rw [State.localsInUse_invoking hF (meth := meth) (c := c) X.method X.code, State.localsInUse_invoking X.frames X.method X.code]
    simp only [State.hasRoom, Bool.and_eq_true, decide_eq_true_eq] at h ⊢
    obtain ⟨⟨⟨⟨h1, h2, h3, h4, h5, h6⟩, h7⟩, h8⟩, h9⟩ := h
    rw [X.frames, List.length_cons] at h2 h3
    have q1 := X.heapSize
    have q2 := X.used
    simp only [hF, hU, List.length_cons, State.stackLimits_setFrames, State.stackBytes_setFrames, hl9, hb9]
    refine ⟨⟨⟨⟨by omega, by omega, by omega, by omega, by omega, h6⟩, ?_⟩, ?_⟩, X.book⟩
    · show T.heap.size + R'.cells ≤ e.platform.maxCells
      omega
    · show T.slotsUsed + R'.slots ≤ e.platform.maxSlots
      omega
  · rw [State.stackLimits_setFrames]; rfl
  · rw [State.stackBytes_setFrames]; rfl
  · refine ⟨?_, Nat.le_refl _, Nat.le_refl _, ?_, ?_, fun a c9 h9 => ⟨c9, h9, rfl, rfl, fun _ _ => rfl⟩⟩
    · obtain ⟨t, ht, -⟩ := State.frames_cons hr
      show T.setVm s.vm = { ((T.setVm s.vm).setFrames (.invoking m args :: below)).setFrames (T.setVm s.vm).frames with heap := T.heap, slotsUsed := T.slotsUsed }
      rw [State.setFrames_setFrames, State.setFrames_self ht]
      rfl
    · show T.slotsUsed = T.slotsUsed + ((T.heap.toList.drop T.heap.size).map (·.slots.size)).sum
      rw [List.drop_eq_nil_of_le (Nat.le_of_eq Array.length_toList)]
      rfl
    · show ((T.heap.toList.drop T.heap.size).map (·.slots.size)).sum ≤ 0
      rw [List.drop_eq_nil_of_le (Nat.le_of_eq Array.length_toList)]
      exact Nat.le_refl _
/-- 'throw new E()': new; dup; invokespecial; athrow -/
theorem vx_throw0 {cc : ByteArray} {pc : Nat} (hexec : p.tables.exec = Jvm.exec) (hb : c.code = cc) (hl : l.stackTraces = false) {own cls : String} {names : List String} {ik ic mc ms : Nat} {A : Nat → Prop}
    (hown : s.vm.findClass own = some m.cls) (hcls : Bundle.fit cls = true) (hnames : ∀ n ∈ names, Bundle.fit n = true)
    (hk : (Cond.classLink own ik cls).before args s = true) (hini : (Cond.initialized cls).before args s = true) (hat : ∀ w ∈ vx_at0 own ic cls names, w.before args s = true)
    (hgood : ∀ w ∈ Cond.classLink own ik cls :: Cond.initialized cls :: vx_at0 own ic cls names, vx_ot w = true)
    (hU : vx_Zq Bundle.tN "UNASSIGNED_STACK" Bundle.steD A s s.heap) (hN : vx_Zq Bundle.tN "SUPPRESSED_SENTINEL" Bundle.listD A s s.heap) (hS : va_S A s.heap H locs) (hsize : ls.size = c.maxLocals)
    (d0 : decode cc pc = .ok (.new ik, 3)) (d3 : decode cc (pc + 3) = .ok (.dup, 1)) (d4 : decode cc (pc + 4) = .ok (.invokespecial ic, 3)) (d7 : decode cc (pc + 7) = .ok (.athrow, 1))
    (hout : ∀ x ∈ c.exceptionTable.toList, covers x (pc + 7) = false)
    (hRframes : names.length + 3 < R.frames) (hRlocals : (rest.map fun v => v.category).sum + (13 * (names.length + 1) + 42) ≤ R.locals) (hRcells : cells + 1 ≤ R.cells) (hRslots : slots + 6 ≤ R.slots) (hlocks : meth.locks = false)
    (hx : ∀ t : State, s.vm.Alike t.vm → H.size ≤ t.heap.size → (∀ q : Nat, q < H.size → t.heap[q]? = H[q]?) → XC cls s t)
    (hf : ∀ z ∈ locs, free z.base) (hc : cells + 1 ≤ mc) (hs : slots + 6 ≤ ms) :
    W p l e R s m args below meth c H locs cells slots (vx_MQ below Qc XC args s mc ms free) (F0 m pc ls rest) := by
  intro T hT X
  have htr : e.platform.stackTraces = false := (show e.platform.stackTraces = l.stackTraces by rw [X.admits.platform]).trans hl
  have Y := vx_rebase X (R' := { frames := R.frames, locals := R.locals, cells := 1, slots := 6 }) (Nat.le_refl _) (Nat.le_refl _) hRcells hRslots
  obtain ⟨s', hA⟩ : ∃ z, z = (T.setVm s.vm).setFrames (.invoking m args :: below) := ⟨_, rfl⟩
  rw [← hA] at Y
  have hvm : s'.vm = s.vm := by rw [hA]; rfl
  have hhp : s'.heap = H := by rw [hA]; exact hT
  have hW0 : s.WarmedH s'.vm := by rw [hvm]; exact State.WarmedH.refl s
  have hat' : ∀ w ∈ vx_at0 own ic cls names, w.before args s' = true := fun w hw => vx_ot_at hW0 hvm.symm (hgood w (List.mem_cons_of_mem _ (List.mem_cons_of_mem _ hw))) (hat w hw)
  have hk' : (Cond.classLink own ik cls).before args s' = true := vx_ot_at hW0 hvm.symm (hgood _ List.mem_cons_self) hk
  have hini' : (Cond.initialized cls).before args s' = true := vx_ot_at hW0 hvm.symm (hgood _ (List.mem_cons_of_mem _ List.mem_cons_self)) hini
  have hU' : vx_Zq Bundle.tN "UNASSIGNED_STACK" Bundle.steD A s' s'.heap := by rw [hhp]; exact vx_Zq.moved hW0.alike (hU.kept hS.2.1)
  have hN' : vx_Zq Bundle.tN "SUPPRESSED_SENTINEL" Bundle.listD A s' s'.heap := by rw [hhp]; exact vx_Zq.moved hW0.alike (hN.kept hS.2.1)
  have h : ∀ w ∈ Bundle.ownAtoms0 own ic cls names, w.before args s' = true := vx_own hat' (vx_isRefq hU'.1) (vx_isRefq hN'.1) hU'.2.word hN'.2.word
  have hown' : s'.vm.findClass own = some m.cls := by rw [hvm]; exact hown
  have hins : (Cond.instantiable cls 6).before args s' = true := h _ (by simp [Bundle.ownAtoms0])
  obtain ⟨vm₁, cX, kX, hfX, hkX, -, -, X₁, st1⟩ := Y.newCold hexec (own := own) (C := cls) (index := ik) (n := 6) hown' hk' hins hini'
    (g := F0 m pc ls rest) rfl (by rw [hb]; exact d0) (Nat.le_refl _) (Nat.le_refl _)
  generalize hT1 : (T.setVm vm₁).pushCell { cls := cX, slots := kX.instanceTypes.map defaultValue, vm := .none } = T1 at X₁ st1
  have hcat : (Value.ref T.heap.size).category = 1 := rfl
  have hcellA : T1.heap[T.heap.size]? = some (freshCell cX kX) := by rw [← hT1]; exact State.heap_pushCell_size _ _
  have d3' : decode c.code (pc + 3) = .ok (.dup, 1) := by rw [hb]; exact d3
  obtain ⟨U, hsteps, hrun, hend, hW, hsame, ce, hce, hO⟩ := X₁.ctorThrow0 hexec htr (own := own) (cls := cls) (names := names) (ic := ic) hown' hcls hnames h (fun x hx => nomatch hx) hfX hkX hcellA (by rw [hhp, hT]; exact Nat.le_refl _)
    (g := { method := m, pc := pc + 4, locals := ls, stack := .ref T.heap.size :: .ref T.heap.size :: rest, locked := none }) rfl hsize rfl rfl (rest := rest) rfl
    (by rw [hb]; exact d4) (by rw [hb]; exact d7) hout hRframes (by simp only [List.map_cons, List.sum_cons, hcat]; omega) hlocks
  obtain ⟨f1, f2⟩ := vx_frame hsame
  rw [hhp] at f1 f2
  have hWs : s.WarmedH U.vm := State.WarmedH.trans hW0 hW
  have hcl : s.vm.findClass cls = some ce.cls := by
    have h9 := hO.cls
    rw [hvm] at h9
    exact h9
  have hall : s.sameButNew ({ U with vm := s.vm } : State) locs mc ms := by
    subst hA
    obtain ⟨e1, e2⟩ := hsame
    rw [State.setFrames_setFrames] at e1
    have h2 : (T.setVm s.vm).sameButNew ({ U with vm := s.vm } : State) [] (0 + 1) (0 + 6) := ⟨e1, e2⟩
    have h3 := X.same.trans h2
    rw [List.append_nil] at h3
    exact h3.mono hc hs
  refine ⟨U, ?_, .threw T.heap.size, hrun, hend, Or.inr ⟨T.heap.size, rfl, cls, ce, locs, hx U hWs.alike f1 (fun q hq => f2 q hq (fun z hz => nomatch hz)), hce, hO.vm, hcl, hWs, hall, hf⟩⟩
  refine st1 _ ?_
  show Steps p.tables e below (T1.setTop { method := m, pc := pc + 3, locals := ls, stack := .ref T.heap.size :: rest, locked := none }) _
  jvm_step X₁.here [X₁.here.top, hexec, d3', Value.category]
  exact hsteps
/-- 'throw new E("text")': new; dup; ldc; invokespecial; athrow -/
theorem vx_throwS {cc : ByteArray} {pc : Nat} (hexec : p.tables.exec = Jvm.exec) (hb : c.code = cc) (hl : l.stackTraces = false) {own cls text : String} {names : List String} {ik is ic mc ms sa : Nat} {A : Nat → Prop}
    (hown : s.vm.findClass own = some m.cls) (hcls : Bundle.fit cls = true) (hnames : ∀ n ∈ names, Bundle.fit n = true)
    (hk : (Cond.classLink own ik cls).before args s = true) (hini : (Cond.initialized cls).before args s = true) (hstr : vk_R own is text sa s) (hat : ∀ w ∈ vx_atS own ic cls names, w.before args s = true)
    (hgood : ∀ w ∈ Cond.classLink own ik cls :: Cond.initialized cls :: vx_atS own ic cls names, vx_ot w = true)
    (hU : vx_Zq Bundle.tN "UNASSIGNED_STACK" Bundle.steD A s s.heap) (hN : vx_Zq Bundle.tN "SUPPRESSED_SENTINEL" Bundle.listD A s s.heap) (hS : va_S A s.heap H locs) (hsize : ls.size = c.maxLocals)
    (d0 : decode cc pc = .ok (.new ik, 3)) (d3 : decode cc (pc + 3) = .ok (.dup, 1)) (d4 : decode cc (pc + 4) = .ok (.ldc is, 2)) (d6 : decode cc (pc + 6) = .ok (.invokespecial ic, 3)) (d9 : decode cc (pc + 9) = .ok (.athrow, 1))
    (hout : ∀ x ∈ c.exceptionTable.toList, covers x (pc + 9) = false)
    (hRframes : names.length + 3 < R.frames) (hRlocals : (rest.map fun v => v.category).sum + (13 * (names.length + 1) + 43) ≤ R.locals) (hRcells : cells + 1 ≤ R.cells) (hRslots : slots + 6 ≤ R.slots) (hlocks : meth.locks = false)
    (hx : ∀ t : State, s.vm.Alike t.vm → t.heap.size = H.size + 1 → (∀ q : Nat, q < H.size → t.heap[q]? = H[q]?) → XC cls s t)
    (hf : ∀ z ∈ locs, free z.base) (hc : cells + 1 ≤ mc) (hs : slots + 6 ≤ ms) :
    W p l e R s m args below meth c H locs cells slots (vx_MQ below Qc XC args s mc ms free) (F0 m pc ls rest) := by
  intro T hT X
  have htr : e.platform.stackTraces = false := (show e.platform.stackTraces = l.stackTraces by rw [X.admits.platform]).trans hl
  have Y := vx_rebase X (R' := { frames := R.frames, locals := R.locals, cells := 1, slots := 6 }) (Nat.le_refl _) (Nat.le_refl _) hRcells hRslots
  obtain ⟨s', hA⟩ : ∃ z, z = (T.setVm s.vm).setFrames (.invoking m args :: below) := ⟨_, rfl⟩
  rw [← hA] at Y
  have hvm : s'.vm = s.vm := by rw [hA]; rfl
  have hhp : s'.heap = H := by rw [hA]; exact hT
  have hW0 : s.WarmedH s'.vm := by rw [hvm]; exact State.WarmedH.refl s
  have hat' : ∀ w ∈ vx_atS own ic cls names, w.before args s' = true := fun w hw => vx_ot_at hW0 hvm.symm (hgood w (List.mem_cons_of_mem _ (List.mem_cons_of_mem _ hw))) (hat w hw)
  have hk' : (Cond.classLink own ik cls).before args s' = true := vx_ot_at hW0 hvm.symm (hgood _ List.mem_cons_self) hk
  have hini' : (Cond.initialized cls).before args s' = true := vx_ot_at hW0 hvm.symm (hgood _ (List.mem_cons_of_mem _ List.mem_cons_self)) hini
  have hU' : vx_Zq Bundle.tN "UNASSIGNED_STACK" Bundle.steD A s' s'.heap := by rw [hhp]; exact vx_Zq.moved hW0.alike (hU.kept hS.2.1)
  have hN' : vx_Zq Bundle.tN "SUPPRESSED_SENTINEL" Bundle.listD A s' s'.heap := by rw [hhp]; exact vx_Zq.moved hW0.alike (hN.kept hS.2.1)
  have h : ∀ w ∈ Bundle.ownAtoms own ic cls names, w.before args s' = true := vx_own hat' (vx_isRefq hU'.1) (vx_isRefq hN'.1) hU'.2.word hN'.2.word
  have hown' : s'.vm.findClass own = some m.cls := by rw [hvm]; exact hown
  have hins : (Cond.instantiable cls 6).before args s' = true := h _ (by simp [Bundle.ownAtoms])
  obtain ⟨vm₁, cX, kX, hfX, hkX, -, -, X₁, st1⟩ := Y.newCold hexec (own := own) (C := cls) (index := ik) (n := 6) hown' hk' hins hini'
    (g := F0 m pc ls rest) rfl (by rw [hb]; exact d0) (Nat.le_refl _) (Nat.le_refl _)
  generalize hT1 : (T.setVm vm₁).pushCell { cls := cX, slots := kX.instanceTypes.map defaultValue, vm := .none } = T1 at X₁ st1
  have hcat : (Value.ref T.heap.size).category = 1 := rfl
  have hcellA : T1.heap[T.heap.size]? = some (freshCell cX kX) := by rw [← hT1]; exact State.heap_pushCell_size _ _
  have d3' : decode c.code (pc + 3) = .ok (.dup, 1) := by rw [hb]; exact d3
  have d4' : decode c.code (pc + 4) = .ok (.ldc is, 2) := by rw [hb]; exact d4
  have hstr' : vk_R own is text sa s' := vk_R.warm hW0 hstr
  obtain ⟨U, hsteps, hrun, hend, hW, hsame, ce, hce, hO⟩ := X₁.ctorThrowS hexec htr (own := own) (cls := cls) (names := names) (ic := ic) hown' hcls hnames h (fun x hx => nomatch hx) hfX hkX hcellA (by rw [hhp, hT]; exact Nat.le_refl _) (msg := .ref sa) rfl
    (g := { method := m, pc := pc + 6, locals := ls, stack := .ref sa :: .ref T.heap.size :: .ref T.heap.size :: rest, locked := none }) rfl hsize rfl rfl (rest := rest) rfl
    (by rw [hb]; exact d6) (by rw [hb]; exact d9) hout hRframes (by simp only [List.map_cons, List.sum_cons, hcat]; omega) hlocks
  obtain ⟨f1, f2⟩ := vx_frame hsame
  rw [hhp] at f1 f2
  have fex : U.heap.size = H.size + 1 := by
    have g1 : U.heap.size ≤ s'.heap.size + (0 + 1) := hsame.2.2.1
    rw [hhp] at g1
    have g2 := (Array.getElem?_eq_some_iff.mp hce).1
    rw [hT] at g2
    omega
  have hWs : s.WarmedH U.vm := State.WarmedH.trans hW0 hW
  have hcl : s.vm.findClass cls = some ce.cls := by
    have h9 := hO.cls
    rw [hvm] at h9
    exact h9
  have hall : s.sameButNew ({ U with vm := s.vm } : State) locs mc ms := by
    subst hA
    obtain ⟨e1, e2⟩ := hsame
    rw [State.setFrames_setFrames] at e1
    have h2 : (T.setVm s.vm).sameButNew ({ U with vm := s.vm } : State) [] (0 + 1) (0 + 6) := ⟨e1, e2⟩
    have h3 := X.same.trans h2
    rw [List.append_nil] at h3
    exact h3.mono hc hs
  refine ⟨U, ?_, .threw T.heap.size, hrun, hend, Or.inr ⟨T.heap.size, rfl, cls, ce, locs, hx U hWs.alike fex (fun q hq => f2 q hq (fun z hz => nomatch hz)), hce, hO.vm, hcl, hWs, hall, hf⟩⟩
  refine st1 _ ?_
  show Steps p.tables e below (T1.setTop { method := m, pc := pc + 3, locals := ls, stack := .ref T.heap.size :: rest, locked := none }) _
  jvm_step X₁.here [X₁.here.top, hexec, d3', Value.category]
  exact X₁.ldcString hexec (own := own) (text := text) (index := is) (a := sa) hown' hstr'.1 hstr'.2
    (g := { method := m, pc := pc + 4, locals := ls, stack := .ref T.heap.size :: .ref T.heap.size :: rest, locked := none }) rfl d4' _ hsteps
/-- 'throw new E("text")', the text by a wide index -/
theorem vx_throwSW {cc : ByteArray} {pc : Nat} (hexec : p.tables.exec = Jvm.exec) (hb : c.code = cc) (hl : l.stackTraces = false) {own cls text : String} {names : List String} {ik is ic mc ms sa : Nat} {A : Nat → Prop}
    (hown : s.vm.findClass own = some m.cls) (hcls : Bundle.fit cls = true) (hnames : ∀ n ∈ names, Bundle.fit n = true)
    (hk : (Cond.classLink own ik cls).before args s = true) (hini : (Cond.initialized cls).before args s = true) (hstr : vk_R own is text sa s) (hat : ∀ w ∈ vx_atS own ic cls names, w.before args s = true)
    (hgood : ∀ w ∈ Cond.classLink own ik cls :: Cond.initialized cls :: vx_atS own ic cls names, vx_ot w = true)
    (hU : vx_Zq Bundle.tN "UNASSIGNED_STACK" Bundle.steD A s s.heap) (hN : vx_Zq Bundle.tN "SUPPRESSED_SENTINEL" Bundle.listD A s s.heap) (hS : va_S A s.heap H locs) (hsize : ls.size = c.maxLocals)
    (d0 : decode cc pc = .ok (.new ik, 3)) (d3 : decode cc (pc + 3) = .ok (.dup, 1)) (d4 : decode cc (pc + 4) = .ok (.ldc_w is, 3)) (d7 : decode cc (pc + 7) = .ok (.invokespecial ic, 3)) (d10 : decode cc (pc + 10) = .ok (.athrow, 1))
    (hout : ∀ x ∈ c.exceptionTable.toList, covers x (pc + 10) = false)
    (hRframes : names.length + 3 < R.frames) (hRlocals : (rest.map fun v => v.category).sum + (13 * (names.length + 1) + 43) ≤ R.locals) (hRcells : cells + 1 ≤ R.cells) (hRslots : slots + 6 ≤ R.slots) (hlocks : meth.locks = false)
    (hx : ∀ t : State, s.vm.Alike t.vm → t.heap.size = H.size + 1 → (∀ q : Nat, q < H.size → t.heap[q]? = H[q]?) → XC cls s t)
    (hf : ∀ z ∈ locs, free z.base) (hc : cells + 1 ≤ mc) (hs : slots + 6 ≤ ms) :
    W p l e R s m args below meth c H locs cells slots (vx_MQ below Qc XC args s mc ms free) (F0 m pc ls rest) := by
  intro T hT X
  have htr : e.platform.stackTraces = false := (show e.platform.stackTraces = l.stackTraces by rw [X.admits.platform]).trans hl
  have Y := vx_rebase X (R' := { frames := R.frames, locals := R.locals, cells := 1, slots := 6 }) (Nat.le_refl _) (Nat.le_refl _) hRcells hRslots
  obtain ⟨s', hA⟩ : ∃ z, z = (T.setVm s.vm).setFrames (.invoking m args :: below) := ⟨_, rfl⟩
  rw [← hA] at Y
  have hvm : s'.vm = s.vm := by rw [hA]; rfl
  have hhp : s'.heap = H := by rw [hA]; exact hT
  have hW0 : s.WarmedH s'.vm := by rw [hvm]; exact State.WarmedH.refl s
  have hat' : ∀ w ∈ vx_atS own ic cls names, w.before args s' = true := fun w hw => vx_ot_at hW0 hvm.symm (hgood w (List.mem_cons_of_mem _ (List.mem_cons_of_mem _ hw))) (hat w hw)
  have hk' : (Cond.classLink own ik cls).before args s' = true := vx_ot_at hW0 hvm.symm (hgood _ List.mem_cons_self) hk
  have hini' : (Cond.initialized cls).before args s' = true := vx_ot_at hW0 hvm.symm (hgood _ (List.mem_cons_of_mem _ List.mem_cons_self)) hini
  have hU' : vx_Zq Bundle.tN "UNASSIGNED_STACK" Bundle.steD A s' s'.heap := by rw [hhp]; exact vx_Zq.moved hW0.alike (hU.kept hS.2.1)
  have hN' : vx_Zq Bundle.tN "SUPPRESSED_SENTINEL" Bundle.listD A s' s'.heap := by rw [hhp]; exact vx_Zq.moved hW0.alike (hN.kept hS.2.1)
  have h : ∀ w ∈ Bundle.ownAtoms own ic cls names, w.before args s' = true := vx_own hat' (vx_isRefq hU'.1) (vx_isRefq hN'.1) hU'.2.word hN'.2.word
  have hown' : s'.vm.findClass own = some m.cls := by rw [hvm]; exact hown
  have hins : (Cond.instantiable cls 6).before args s' = true := h _ (by simp [Bundle.ownAtoms])
  obtain ⟨vm₁, cX, kX, hfX, hkX, -, -, X₁, st1⟩ := Y.newCold hexec (own := own) (C := cls) (index := ik) (n := 6) hown' hk' hins hini'
    (g := F0 m pc ls rest) rfl (by rw [hb]; exact d0) (Nat.le_refl _) (Nat.le_refl _)
  generalize hT1 : (T.setVm vm₁).pushCell { cls := cX, slots := kX.instanceTypes.map defaultValue, vm := .none } = T1 at X₁ st1
  have hcat : (Value.ref T.heap.size).category = 1 := rfl
  have hcellA : T1.heap[T.heap.size]? = some (freshCell cX kX) := by rw [← hT1]; exact State.heap_pushCell_size _ _
  have d3' : decode c.code (pc + 3) = .ok (.dup, 1) := by rw [hb]; exact d3
  have d4' : decode c.code (pc + 4) = .ok (.ldc_w is, 3) := by rw [hb]; exact d4
  have hstr' : vk_R own is text sa s' := vk_R.warm hW0 hstr
  obtain ⟨U, hsteps, hrun, hend, hW, hsame, ce, hce, hO⟩ := X₁.ctorThrowS hexec htr (own := own) (cls := cls) (names := names) (ic := ic) hown' hcls hnames h (fun x hx => nomatch hx) hfX hkX hcellA (by rw [hhp, hT]; exact Nat.le_refl _) (msg := .ref sa) rfl
    (g := { method := m, pc := pc + 7, locals := ls, stack := .ref sa :: .ref T.heap.size :: .ref T.heap.size :: rest, locked := none }) rfl hsize rfl rfl (rest := rest) rfl
    (by rw [hb]; exact d7) (by rw [hb]; exact d10) hout hRframes (by simp only [List.map_cons, List.sum_cons, hcat]; omega) hlocks
  obtain ⟨f1, f2⟩ := vx_frame hsame
  rw [hhp] at f1 f2
  have fex : U.heap.size = H.size + 1 := by
    have g1 : U.heap.size ≤ s'.heap.size + (0 + 1) := hsame.2.2.1
    rw [hhp] at g1
    have g2 := (Array.getElem?_eq_some_iff.mp hce).1
    rw [hT] at g2
    omega
  have hWs : s.WarmedH U.vm := State.WarmedH.trans hW0 hW
  have hcl : s.vm.findClass cls = some ce.cls := by
    have h9 := hO.cls
    rw [hvm] at h9
    exact h9
  have hall : s.sameButNew ({ U with vm := s.vm } : State) locs mc ms := by
    subst hA
    obtain ⟨e1, e2⟩ := hsame
    rw [State.setFrames_setFrames] at e1
    have h2 : (T.setVm s.vm).sameButNew ({ U with vm := s.vm } : State) [] (0 + 1) (0 + 6) := ⟨e1, e2⟩
    have h3 := X.same.trans h2
    rw [List.append_nil] at h3
    exact h3.mono hc hs
  refine ⟨U, ?_, .threw T.heap.size, hrun, hend, Or.inr ⟨T.heap.size, rfl, cls, ce, locs, hx U hWs.alike fex (fun q hq => f2 q hq (fun z hz => nomatch hz)), hce, hO.vm, hcl, hWs, hall, hf⟩⟩
  refine st1 _ ?_
  show Steps p.tables e below (T1.setTop { method := m, pc := pc + 3, locals := ls, stack := .ref T.heap.size :: rest, locked := none }) _
  jvm_step X₁.here [X₁.here.top, hexec, d3', Value.category]
  exact X₁.ldcStringW hexec (own := own) (text := text) (index := is) (a := sa) hown' hstr'.1 hstr'.2
    (g := { method := m, pc := pc + 4, locals := ls, stack := .ref T.heap.size :: .ref T.heap.size :: rest, locked := none }) rfl d4' _ hsteps
end Ends
section Bodies
variable {l : Launch}
theorem vx_ofW {y : MethodName} {ws ws' : List Cond} {rm : Room} {Pc : Array Value → State → Prop} {Qc : Array Value → State → Outcome → State → Prop} {XC : String → State → State → Prop} {mc ms : Nat} {free : Addr → Prop} {cc : ByteArray} {maxL : Nat} {ret : Option FieldType}
    (hy : plainName y.cls = true) (hw : ws = Cond.code y cc maxL ret :: ws')
    (body : ∀ p e s m args below meth c s₁, BodyLoose p l y (headSpec ws rm) cc maxL ret e s m args below meth c s₁ → c.maxLocals = maxL → (∀ x ∈ c.exceptionTable.toList, False) → Pc args s →
      W p l e (headSpec ws rm).room s m args below meth c s.heap [] 0 0 (vx_MQ below Qc XC args s mc ms free) (entryFrame m args maxL)) : vx_Met l y ws rm Pc Qc XC mc ms free := by
  refine MetFree.of_bodyS (code := cc) (maxLocals := maxL) (ret := ret) hy ?_ ?_
  · intro args s m h hn
    obtain ⟨meth, c, h1, h2, h3, h4, h5, h6, -, -⟩ := Cond.code_spec hn (atoms_spec (ws := ws) h _ (by rw [hw]; exact List.mem_cons_self))
    exact ⟨meth, c, h1, h2, h3, h4, h5, h6⟩
  · intro p e s m args below meth c s₁ B hml hP _
    have hh0 : s₁.heap = s.heap := by rw [B.state]; rfl
    have ht : ∀ x ∈ c.exceptionTable.toList, False := by
      obtain ⟨meth9, c9, h1, h2, -, -, -, -, h7, -⟩ := Cond.code_spec B.named (atoms_spec (ws := ws) B.pre _ (by rw [hw]; exact List.mem_cons_self))
      cases Option.some.inj (h1.symm.trans B.method)
      cases Option.some.inj (h2.symm.trans (Stand.of_body B).code)
      intro x hx
      rw [Array.isEmpty_iff.mp h7] at hx
      cases hx
    obtain ⟨t, a1, o, b1, b2, b3⟩ := body p e s m args below meth c s₁ B hml ht hP s₁ hh0 (Stand.of_body B)
    exact ⟨t, o, a1, b1, b2, b3⟩
/-- the table of a body with handlers -/
theorem vx_table {p : Program} {x y : MethodName} {S : Spec} {cc bytes : ByteArray} {maxL maxL' : Nat} {ret ret' : Option FieldType} {e : Env} {s s₁ : State} {m : MethodId} {args : Array Value} {below : List Frame} {meth : Method} {c : Code} {hh : List (Nat × Nat × Nat × Nat)}
    (B : BodyLoose p l y S cc maxL ret e s m args below meth c s₁) (h : (Cond.codeWith y bytes maxL' ret' hh).before args s = true) : c.exceptionTable.toList = tableOf hh := by
  obtain ⟨m9, meth9, c9, hn9, h1, h2, -, -, h6, -⟩ := Cond.codeWith_spec h
  cases Option.some.inj (hn9.symm.trans B.named)
  cases Option.some.inj (h1.symm.trans B.method)
  cases Option.some.inj (h2.symm.trans (Stand.of_body B).code)
  rw [← h6, table_eq]
end Bodies
end VXA
/-! ===== END ===== -/
/-! ===== BEGIN a static call of a method with an exception table ===== -/
section VXS
variable {p : Program} {l : Launch} {e : Env} {R : Room} {s : State} {m : MethodId} {args : Array Value} {below : List Frame} {meth : Method} {c : Code} {T : State} {H : Heap} {locs : List Loc} {cells slots : Nat}
abbrev vx_CSW (R : Room) (s : State) (args : Array Value) (own : String) (index : Nat) (y : MethodName) (bytes : ByteArray) (maxL : Nat) (ret : Option FieldType) (hh : List (Nat × Nat × Nat × Nat)) (ws : List Cond) (rm : Room) (mc ms n : Nat) : Prop :=
  (rm.cells = mc ∧ rm.slots = ms ∧ rm.frames + 1 ≤ R.frames ∧ 8 + (maxL + 11) + rm.locals ≤ R.locals ∧ (∀ w ∈ ws, ∀ (a' : Array Value) (U : State), s.WarmedH U.vm → w.before a' U = true) ∧ Cond.codeWith y bytes maxL ret hh ∈ ws) ∧
  (Cond.codeWith y bytes maxL ret hh).before args s = true ∧ (Cond.initialized y.cls).before args s = true ∧ (y.cls ≠ "java/lang/invoke/MethodHandle" ∧ y.cls ≠ "java/lang/invoke/VarHandle") ∧
  (∀ sig, parseMethodDescriptor y.desc = some sig → n = sig.parameters.length) ∧ (Cond.methodLink own index y).before args s = true ∧ (Cond.static y).before args s = true
theorem vx_cwSW {own : String} {index maxL mc ms : Nat} {y : MethodName} {bytes : ByteArray} {ret : Option FieldType} {hh : List (Nat × Nat × Nat × Nat)} {Ts ws ws' : List Cond} {rm : Room} (n : Nat) (ht : ∀ w ∈ Ts, w.before args s = true) (hT : GoodIn Ts (va_wsS own index y ws)) (hw : ws = Cond.codeWith y bytes maxL ret hh :: ws') (hrc : rm.cells = mc) (hrs : rm.slots = ms)
    (hd : y.cls ≠ "java/lang/invoke/MethodHandle" ∧ y.cls ≠ "java/lang/invoke/VarHandle" ∧ (parseMethodDescriptor y.desc).map (fun d => d.parameters.length) = some n) (hR : rm.frames + 1 ≤ R.frames ∧ 8 + (maxL + 11) + rm.locals ≤ R.locals) :
    vx_CSW R s args own index y bytes maxL ret hh ws rm mc ms n := by
  have ok : ∀ w ∈ va_wsS own index y ws, w.before args s = true := fun w h => ht w (hT w h).1
  have hG : GoodIn Ts ws := fun w h => hT w (by unfold va_wsS; exact List.mem_append_right _ h)
  have hc : Cond.codeWith y bytes maxL ret hh ∈ ws := by rw [hw]; exact List.mem_cons_self
  refine ⟨⟨hrc, hrs, hR.1, hR.2, pay_in ht hG, hc⟩, ht _ (hG _ hc).1, ok _ (by simp [va_wsS]), ⟨hd.1, hd.2.1⟩, fun sig h => ?_, ok _ (by simp [va_wsS]), ok _ (by simp [va_wsS])⟩
  have h2 := hd.2.2
  rw [h] at h2
  exact (Option.some.inj h2).symm
theorem vx_callSW (X : Stand p l e R s m args below meth c T locs cells slots) (hexec : p.tables.exec = Jvm.exec) {own : String} {index : Nat} {y : MethodName} {bytes : ByteArray} {maxL : Nat} {ret : Option FieldType} {hh : List (Nat × Nat × Nat × Nat)}
    (hown : s.vm.findClass own = some m.cls) (hlink : (Cond.methodLink own index y).before args s = true) (hstat : (Cond.static y).before args s = true) (hinit : (Cond.initialized y.cls).before args s = true)
    (hcode : (Cond.codeWith y bytes maxL ret hh).before args s = true) (hy : y.cls ≠ "java/lang/invoke/MethodHandle" ∧ y.cls ≠ "java/lang/invoke/VarHandle")
    {W9 : Nat} {Pre : Pt → Array Value → Prop} {Post : Pt → Array Value → Option Value → Pt → Prop} (hK : Back l R p e below s args y 3 W9 Pre Post)
    {g : JFrame} (hg : g.method = m) (hsize : g.locals.size = c.maxLocals) {argsL rest : List Value} (hlen : ∀ sig, parseMethodDescriptor y.desc = some sig → argsL.length = sig.parameters.length)
    (hstack : g.stack = argsL.reverse ++ rest) (hW : 2 * g.monitorRoom + (rest.map fun v => v.category).sum ≤ W9) (hdg : decode c.code g.pc = .ok (.invokestatic index, 3))
    (hpre : ∀ vm₁, s.WarmedH vm₁ → Pre ⟨T.setVm vm₁, locs, cells, slots⟩ argsL.toArray) :
    ∃ (v : Option Value) (vm₁ : Vm) (B : Pt), s.WarmedH vm₁ ∧ Stand p l e R s m args below meth c B.U B.locs B.cells B.slots ∧ Post ⟨T.setVm vm₁, locs, cells, slots⟩ argsL.toArray v B ∧
      ∀ target, Steps p.tables e below (B.U.setTop { g with pc := g.pc + 3, stack := v.toList ++ rest }) target → Steps p.tables e below (T.setTop g) target := by
  obtain ⟨mk, methM, cM, hnamed, hmethM, -, -, -, -, -, -, hsigM⟩ := Cond.codeWith_spec hcode
  have hstatic : methM.isStatic = true := Cond.static_spec hnamed hmethM hstat
  obtain ⟨kP, hkP, -⟩ := className_of_methodNamed hnamed
  have hinitP : kP.init = .initialized := Cond.initialized_spec (findClass_of_methodNamed hnamed) hkP hinit
  obtain ⟨vm₁, X₁, hstep₁⟩ := X.invokestatic hexec hown hlink hnamed hmethM hstatic hkP hinitP hy (g := g) hg (argsL := argsL) (rest := rest) (hlen _ hsigM) hstack hdg
  obtain ⟨v, B, X', hpost, hsteps⟩ := hK m meth c ⟨T.setVm vm₁, locs, cells, slots⟩ { g with stack := rest } (.invokestatic index) mk argsL.toArray X₁ hg hsize hdg hW (X₁.named hnamed) (hpre vm₁ X₁.warmed)
  exact ⟨v, vm₁, B, X₁.warmed, X', hpost, fun target h => hstep₁ _ fun acts => by rw [doInvoke_state]; exact hsteps.trans h⟩
theorem vx_runSW {y : MethodName} {bytes cc : ByteArray} {maxL nL mc ms n index : Nat} {ret : Option FieldType} {hh : List (Nat × Nat × Nat × Nat)} {ws : List Cond} {rm : Room} {Pc : Array Value → State → Prop} {Qc : Array Value → State → Outcome → State → Prop} {free : Addr → Prop} {Ts : List Cond} {own : String} {As rest : List Value} {g : JFrame}
    (S : CallFix p m c cc nL s args Ts own) (hM : Met l y ws rm Pc Qc mc ms free) (cw : vx_CSW R s args own index y bytes maxL ret hh ws rm mc ms n) (hp : PreS s H Pc As)
    (hg : g.method = m) (hn : As.length = n) (hsize : g.locals.size = nL) (hstack : g.stack = As.reverse ++ rest) (hW : 2 * g.monitorRoom + (rest.map fun v => v.category).sum ≤ 8) (hdg : decode cc g.pc = .ok (.invokestatic index, 3)) (hf : cells + mc ≤ R.cells ∧ slots + ms ≤ R.slots) :
    va_Run p l e R s m args below meth c H locs cells slots mc ms g rest (Qc As.toArray) (free) := by
  obtain ⟨⟨hrc, hrs, hfr, hlo, hws, hcw⟩, hcode, hini, hy, hlen, hl, hstt⟩ := cw
  have hK : Back l R p e below s args y 3 8 (PreOf R mc ms Pc) (PostOf Qc mc ms free) := va_backW (hh := hh) (bytes := bytes) (maxL := maxL) (ret := ret) hM hp.1 hrc hrs hfr hlo hws hcw (fun a' U hW => word_at hW (Or.inl (by first | rfl | simp [Cond.onTables, Cond.keeps, Cond.steady])) hini)
  obtain ⟨hx, hb, hml, ho, -⟩ := S
  intro T hT X
  obtain ⟨v, vm₁, ⟨U', l2, c2, s2⟩, hW₁, X', ⟨g', mk, t, L, e1, e2, hq, h1, hL, h2, h3⟩, st⟩ := vx_callSW X hx (hh := hh) (bytes := bytes) (maxL := maxL) (ret := ret) ho hl hstt hini hcode hy hK hg (hsize.trans hml.symm) (argsL := As) (rest := rest) (fun sig h => hn.trans (hlen sig h)) hstack hW (by rw [hb]; exact hdg)
    (fun vm₁ hW₁ => ⟨hf.1, hf.2, hp.2 (T.setVm vm₁) hT hW₁⟩)
  dsimp only [Pt.U, Pt.locs, Pt.cells, Pt.slots] at X' e1 e2 h1 h2 h3 st
  subst h1; subst h2; subst h3
  exact ⟨v, (T.setVm vm₁).calling g' mk As.toArray, t, U', L, hT, X', hL, e1, e2, hq, st⟩
/-- not caught here, past rows that name other classes: it goes on to the caller -/
theorem vx_outP {p : Program} {l : Launch} {e : Env} {R : Room} {s : State} {m : MethodId} {args : Array Value} {below : List Frame} {meth : Method} {c : Code} {H : Heap} {locs : List Loc} {cells slots : Nat} {free : Addr → Prop} {ls : Array Slot} {rest : List Value} {Qc : Array Value → State → Outcome → State → Prop} {XC : String → State → State → Prop}
    {pc : Nat} {own E : String} {ce : Cell} {q : Addr} {mc ms : Nat} (hown : s.vm.findClass own = some m.cls) (hlocks : meth.locks = false)
    (hpass : ∀ z ∈ c.exceptionTable.toList, covers z pc = false ∨ (z.catchType ≠ 0 ∧ ∃ nm : String, (Cond.classLink own z.catchType nm).before args s = true ∧ va_Nc E nm s)) (hcell : H[q]? = some ce) (hv : ce.vm = .none) (hcl : s.vm.findClass E = some ce.cls)
    (hx : ∀ t : State, t.heap = H → s.vm.Alike t.vm → XC E s t) (hf : ∀ z ∈ locs, free z.base) (hc : cells ≤ mc) (hs : slots ≤ ms) :
    vx_W p l e R s m args below meth c H locs cells slots (vx_MQ below Qc XC args s mc ms free) (F0 m pc ls rest) q := by
  intro T hT X
  have hpl : e.platform.magicAccessors = ({} : Platform).magicAccessors := by rw [X.admits.platform]
  obtain ⟨vm', hW', X', st⟩ := X.outThrough hlocks q (g := F0 m pc ls rest) rfl rfl rfl (cell := ce) (by rw [hT]; exact hcell) (by rw [hv]; rfl)
    (by obtain ⟨k9, h9, -⟩ := Vm.findClass_spec hcl; exact ⟨k9, h9⟩) (fun z hz => by
      rcases hpass z hz with h | ⟨hz0, nm, hl1, hn1⟩
      · exact Or.inl h
      · obtain ⟨c6, hc6, hcl6⟩ := Cond.classLink_spec hown hl1 e.platform hpl
        obtain ⟨a8, b8, h1, h2, h3⟩ := hn1
        cases Option.some.inj (h1.symm.trans hcl)
        cases Option.some.inj (h2.symm.trans hc6)
        exact Or.inr ⟨hz0, _, hcl6, h3⟩)
  obtain ⟨g₀, hfr⟩ := X'.frames_eq
  have hcell9 : ((T.setVm vm').setFrames (.throwing q :: below)).heap[q]? = some ce := by
    show T.heap[q]? = some ce
    rw [hT]; exact hcell
  have hend : Ended ((T.setVm vm').setFrames (.throwing q :: below)) below (.threw q) := State.frames_setFrames _ (State.cur_lt_of_frames hfr)
  refine ⟨(T.setVm vm').setFrames (.throwing q :: below), ?_, .threw q, X'.here.running, hend, Or.inr ⟨q, rfl, E, ce, locs, hx _ hT (X'.ends _).1.alike, hcell9, hv, hcl, (X'.ends _).1, (X'.ends _).2.mono hc hs, hf⟩⟩
  rw [X.pushThrowing_eq]
  exact st
/-- a thing of a world lies in the heap -/
theorem vx_lt {D : va_G} {cl : List vw_C} {ws : va_W} {H1 : Heap} (h : va_P D cl ws H1) {k : Nat} {q : Nat × va_E} (hk : ws[k]? = some q) : q.1 < H1.size := (h k q hk).lt
end VXS
/-! ===== END ===== -/
/-! ===== BEGIN methods with a table of their own: called by a name, returning or throwing ===== -/
section VXH
/-! vx_backW, vx_callVX, vx_callSX, vx_callVW, vx_runVW, vx_runVX, vx_runSX, vx_ofWH follow the same proofs as their sisters above (Free/Laws.lean, Shelf42/LK1.lean); vx_outP calls Shelf42/NT130.lean (outThrough). -/
section
variable {l : Launch} {R : Room} {p : Program} {e : Env} {below : List Frame} {s : State} {sargs : Array Value} {y : MethodName} {len W9 : Nat}
theorem vx_backW {ws : List Cond} {rm : Room} {Pc : Array Value → State → Prop} {Qc : Array Value → State → Outcome → State → Prop} {XC : String → State → State → Prop} {mc ms : Nat} {free : Addr → Prop} {bytes : ByteArray} {maxL : Nat} {ret : Option FieldType} {hh : List (Nat × Nat × Nat × Nat)}
    (hM : vx_Met l y ws rm Pc Qc XC mc ms free) (hblind : FrameBlind Pc) (hrc : rm.cells = mc) (hrs : rm.slots = ms)
    (hframes : rm.frames + 1 ≤ R.frames) (hlocals : W9 + (maxL + 11) + rm.locals ≤ R.locals)
    (hws : ∀ w ∈ ws, ∀ a' U, s.WarmedH U.vm → w.before a' U = true) (hcode : Cond.codeWith y bytes maxL ret hh ∈ ws) (hinit : ∀ a' U, s.WarmedH U.vm → (Cond.initialized y.cls).before a' U = true) :
    vx_Back l R p e below s sargs y len W9 (PreOf R mc ms Pc) (PostOf Qc mc ms free) (vx_Post XC mc ms free) := by
  intro m meth c A g ig mk a X hg hsize hdg hW hn hp
  have h1 : (headSpec ws rm).pre.before a A.U = true := atoms_intro fun w hw => hws w hw _ _ X.warmed
  have h2 : (Cond.codeWith y bytes maxL ret hh).before a A.U = true := hws _ hcode _ _ X.warmed
  have h3 : (Cond.initialized y.cls).before a A.U = true := hinit _ _ X.warmed
  have h4 : A.cells + (headSpec ws rm).room.cells ≤ R.cells := by rw [show (headSpec ws rm).room.cells = mc from hrc]; exact hp.1
  have h5 : A.slots + (headSpec ws rm).room.slots ≤ R.slots := by rw [show (headSpec ws rm).room.slots = ms from hrs]; exact hp.2.1
  have hPc : Pc a (A.U.calling g mk a) := hblind _ _ _ _ hp.2.2
  obtain ⟨U, Ls, c0, s0⟩ := A
  dsimp only [Pt.U, Pt.locs, Pt.cells, Pt.slots] at h1 h2 h3 h4 h5 X hn hPc ⊢
  obtain ⟨m9, methY, cY, hn9, hmY, hcY, -, hlY, -⟩ := Cond.codeWith_spec h2
  cases Option.some.inj (hn9.symm.trans hn)
  obtain ⟨kY, hkY, -⟩ := className_of_methodNamed hn
  have hinitY : kY.init = .initialized := Cond.initialized_spec (findClass_of_methodNamed hn) hkY h3
  have h : At U g.method c below := by rw [hg]; exact X.here
  have hlocals9 : W9 + (maxL + 11) + (headSpec ws rm).room.locals ≤ R.locals := hlocals
  have happ : (headSpec ws rm).appliesLoose y e.platform (U.calling g mk a) = true :=
    Spec.appliesLoose_calling (g := g) h hdg hn hkY hinitY
      (X.room_calling (g := g) (R' := (headSpec ws rm).room) hsize hmY hcY hframes (by rw [hlY]; omega) h4 h5) h1
  obtain ⟨mid, hmid⟩ := h.above
  have hfr : (U.setTop g).frames = (.java g :: mid) ++ below := by rw [State.frames_setTop' g h.top, hmid]; rfl
  obtain ⟨o, s₂, hsteps, -, hend, hq⟩ := Steps.callFree hM p X.admits X.cas X.clock (acts := []) hfr happ hPc trivial
  have hq' : vx_Q Qc XC mc ms free a (U.calling g mk a) o s₂ := hq
  rw [State.frames_setTop' g h.top] at hend
  obtain ⟨g₀, hg0⟩ := Option.isSome_iff_exists.mp h.top
  obtain ⟨r, hr⟩ := State.topJava?_eq_some.mp hg0
  have hr' : (({ U with heap := s₂.heap, slotsUsed := s₂.slotsUsed } : State).setVm s₂.vm).frames = .java g₀ :: r := hr
  rcases hq' with ⟨hqc, L, hfe, hL⟩ | ⟨q, rfl, E, ce, L, hx, hce, hcv, hcl, hW₂, hsm, hL⟩
  · obtain ⟨⟨v, rfl⟩, hW₂, e2, q2, q3, q4, q5, q6⟩ := id hfe
    have e3 : s₂ = ({ (U.calling g mk a).setFrames s₂.frames with heap := s₂.heap, slotsUsed := s₂.slotsUsed } : State).setVm s₂.vm := by
      have : s₂ = ({ s₂ with vm := (U.calling g mk a).vm } : State).setVm s₂.vm := rfl
      rw [e2] at this
      exact this
    obtain ⟨c₂, i₂, len₂, hc₂, hd₂, hf₂⟩ := hend
    have hW' : U.WarmedH s₂.vm := hW₂
    have hcc : c₂ = c := by
      have h1 : s₂.code? g.method = U.code? g.method := by
        rw [State.code?_eq, State.code?_eq, hW'.alike.method?]
      exact Option.some.inj (hc₂.symm.trans (h1.trans h.code))
    subst hcc
    have hlen : len₂ = len := by rw [hdg] at hd₂; cases hd₂; rfl
    subst hlen
    have hs₂ : s₂ = (({ U with heap := s₂.heap, slotsUsed := s₂.slotsUsed } : State).setVm s₂.vm).setTop { g with pc := g.pc + len₂, stack := v.toList ++ g.stack } := by
      refine e3.trans ?_
      rw [hf₂, State.calling_eq h.top, State.setFrames_setFrames, State.setTop_of_frames _ hr', hr]
      rfl
    have hsame : U.sameButNew ({ U with heap := s₂.heap, slotsUsed := s₂.slotsUsed } : State) L mc ms := by
      refine ⟨?_, q2, q3, q4, q5, q6⟩
      obtain ⟨t, ht, -⟩ := State.frames_cons hr
      show ({ U with heap := s₂.heap, slotsUsed := s₂.slotsUsed } : State) = { U.setFrames U.frames with heap := s₂.heap, slotsUsed := s₂.slotsUsed }
      rw [State.setFrames_self ht]
    subst hg
    refine Or.inl ⟨v, ⟨(({ U with heap := s₂.heap, slotsUsed := s₂.slotsUsed } : State).setVm s₂.vm), Ls ++ L, c0 + mc, s0 + ms⟩,
      ⟨X.admits, X.cas, X.clock, X.frames, X.room, X.hears, X.method, X.code, (X.here.setHeapUsed s₂.heap s₂.slotsUsed).setVm hW'.alike, X.tail, State.WarmedH.trans X.warmed hW', X.limits, X.bytes, X.same.trans (hsame.setVm s.vm)⟩,
      ⟨g, mk, s₂, L, rfl, rfl, hqc, rfl, hL, rfl, rfl⟩, ?_⟩
    show Steps p.tables e below _ ((({ U with heap := s₂.heap, slotsUsed := s₂.slotsUsed } : State).setVm s₂.vm).setTop { g with pc := g.pc + len₂, stack := v.toList ++ g.stack })
    rw [← hs₂]
    exact hsteps
  · obtain ⟨e2, q2, q3, q4, q5, q6⟩ := id hsm
    have e3 : s₂ = ({ (U.calling g mk a).setFrames s₂.frames with heap := s₂.heap, slotsUsed := s₂.slotsUsed } : State).setVm s₂.vm := by
      have : s₂ = ({ s₂ with vm := (U.calling g mk a).vm } : State).setVm s₂.vm := rfl
      rw [e2] at this
      exact this
    have hf₂ : s₂.frames = .throwing q :: .java g :: U.frames.tail := hend
    have hW' : U.WarmedH s₂.vm := hW₂
    have hs₂ : s₂ = ((({ U with heap := s₂.heap, slotsUsed := s₂.slotsUsed } : State).setVm s₂.vm).setTop g).pushFrame (.throwing q) := by
      refine e3.trans ?_
      rw [hf₂, State.calling_eq h.top, State.setFrames_setFrames, State.pushFrame, State.frames_setTop _ hr', State.setTop_of_frames _ hr', State.setFrames_setFrames, hr]
      rfl
    have hsame : U.sameButNew ({ U with heap := s₂.heap, slotsUsed := s₂.slotsUsed } : State) L mc ms := by
      refine ⟨?_, q2, q3, q4, q5, q6⟩
      obtain ⟨t, ht, -⟩ := State.frames_cons hr
      show ({ U with heap := s₂.heap, slotsUsed := s₂.slotsUsed } : State) = { U.setFrames U.frames with heap := s₂.heap, slotsUsed := s₂.slotsUsed }
      rw [State.setFrames_self ht]
    subst hg
    refine Or.inr ⟨q, ⟨(({ U with heap := s₂.heap, slotsUsed := s₂.slotsUsed } : State).setVm s₂.vm), Ls ++ L, c0 + mc, s0 + ms⟩,
      ⟨X.admits, X.cas, X.clock, X.frames, X.room, X.hears, X.method, X.code, (X.here.setHeapUsed s₂.heap s₂.slotsUsed).setVm hW'.alike, X.tail, State.WarmedH.trans X.warmed hW', X.limits, X.bytes, X.same.trans (hsame.setVm s.vm)⟩,
      ⟨g, mk, s₂, L, E, ce, rfl, rfl, hx, hce, hcv, hcl, rfl, hL, rfl, rfl⟩, ?_⟩
    show Steps p.tables e below _ (((({ U with heap := s₂.heap, slotsUsed := s₂.slotsUsed } : State).setVm s₂.vm).setTop g).pushFrame (.throwing q))
    rw [← hs₂]
    exact hsteps
end
variable {p : Program} {l : Launch} {e : Env} {R : Room} {s : State} {m : MethodId} {args : Array Value} {below : List Frame} {meth : Method} {c : Code} {T : State} {H : Heap} {locs : List Loc} {cells slots : Nat}
theorem vx_callVX (X : Stand p l e R s m args below meth c T locs cells slots) (hexec : p.tables.exec = Jvm.exec) {own C : String} {index : Nat} {y : MethodName} {bytes : ByteArray} {maxL : Nat} {ret : Option FieldType} {hh : List (Nat × Nat × Nat × Nat)}
    (hown : s.vm.findClass own = some m.cls) (hlink : (Cond.methodLink own index y).before args s = true) (hinst : (Cond.instanceMethod y).before args s = true) (hsel : (Cond.selects C y y).before args s = true)
    (hcode : (Cond.codeWith y bytes maxL ret hh).before args s = true) (hy : y.cls ≠ "java/lang/invoke/MethodHandle" ∧ y.cls ≠ "java/lang/invoke/VarHandle")
    {W9 : Nat} {Pre : Pt → Array Value → Prop} {Post : Pt → Array Value → Option Value → Pt → Prop} {PostX : Pt → Array Value → Addr → Pt → Prop} (hK : vx_Back l R p e below s args y 3 W9 Pre Post PostX)
    {b : Addr} {cellB : Cell} (hcell : T.heap[b]? = some cellB) (hobj : cellB.vm.isStatics = false) (hcls : s.vm.findClass C = some cellB.cls)
    {g : JFrame} (hg : g.method = m) (hsize : g.locals.size = c.maxLocals) {argsL rest : List Value} (hlen : ∀ sig, parseMethodDescriptor y.desc = some sig → argsL.length = sig.parameters.length)
    (hstack : g.stack = argsL.reverse ++ .ref b :: rest) (hW : 2 * g.monitorRoom + (rest.map fun v => v.category).sum ≤ W9) (hdg : decode c.code g.pc = .ok (.invokevirtual index, 3))
    (hpre : ∀ vm₁, s.WarmedH vm₁ → Pre ⟨T.setVm vm₁, locs, cells, slots⟩ (Value.ref b :: argsL).toArray) :
    (∃ (v : Option Value) (vm₁ : Vm) (B : Pt), s.WarmedH vm₁ ∧ Stand p l e R s m args below meth c B.U B.locs B.cells B.slots ∧ Post ⟨T.setVm vm₁, locs, cells, slots⟩ (Value.ref b :: argsL).toArray v B ∧
      ∀ target, Steps p.tables e below (B.U.setTop { g with pc := g.pc + 3, stack := v.toList ++ rest }) target → Steps p.tables e below (T.setTop g) target) ∨
    (∃ (q : Addr) (vm₁ : Vm) (B : Pt), s.WarmedH vm₁ ∧ Stand p l e R s m args below meth c B.U B.locs B.cells B.slots ∧ PostX ⟨T.setVm vm₁, locs, cells, slots⟩ (Value.ref b :: argsL).toArray q B ∧
      Steps p.tables e below (T.setTop g) ((B.U.setTop { g with stack := rest }).pushFrame (.throwing q))) := by
  obtain ⟨mk, methM, hnamed, hmethM, hstM, habM⟩ := Cond.instanceMethod_spec hinst
  obtain ⟨m8, methM', cM, hn8, hmethM', -, -, -, -, -, -, hsigM⟩ := Cond.codeWith_spec hcode
  cases Option.some.inj (hn8.symm.trans hnamed)
  cases hmethM.symm.trans hmethM'
  obtain ⟨c2, r2, m2, q1, q2, q3, q4, kP, hkP, hkPi⟩ := Cond.selects_spec hsel
  cases hcls.symm.trans q1
  cases (State.methodFound?_of_named hnamed hy).symm.trans q2
  cases hnamed.symm.trans q3
  have hselP : selectMethod e.platform s.vm cellB.cls mk = .method mk := by rw [Launch.admits_selectMethod X.admits]; exact q4
  obtain ⟨vm₁, X₁, hstep₁⟩ := X.invokevirtual hexec hown hlink hnamed hmethM hstM hkP hkPi hy (a := b) (cell := cellB) hcell
    (fun z h => by rw [h] at hobj; cases hobj) hselP hmethM habM hkP hkPi (g := g) hg (argsL := argsL) (rest := rest) (hlen _ hsigM) hstack hdg
  rcases hK m meth c ⟨T.setVm vm₁, locs, cells, slots⟩ { g with stack := rest } (.invokevirtual index) mk (Value.ref b :: argsL).toArray X₁ hg hsize hdg hW (X₁.named hnamed) (hpre vm₁ X₁.warmed) with ⟨v, B, X', hpost, hsteps⟩ | ⟨q, B, X', hpost, hsteps⟩
  · exact Or.inl ⟨v, vm₁, B, X₁.warmed, X', hpost, fun target h => hstep₁ _ fun acts => by rw [doInvoke_state]; exact hsteps.trans h⟩
  · exact Or.inr ⟨q, vm₁, B, X₁.warmed, X', hpost, hstep₁ _ fun acts => by rw [doInvoke_state]; exact hsteps⟩
theorem vx_callSX (X : Stand p l e R s m args below meth c T locs cells slots) (hexec : p.tables.exec = Jvm.exec) {own : String} {index : Nat} {y : MethodName} {bytes : ByteArray} {maxL : Nat} {ret : Option FieldType} {hh : List (Nat × Nat × Nat × Nat)}
    (hown : s.vm.findClass own = some m.cls) (hlink : (Cond.methodLink own index y).before args s = true) (hstat : (Cond.static y).before args s = true) (hinit : (Cond.initialized y.cls).before args s = true)
    (hcode : (Cond.codeWith y bytes maxL ret hh).before args s = true) (hy : y.cls ≠ "java/lang/invoke/MethodHandle" ∧ y.cls ≠ "java/lang/invoke/VarHandle")
    {W9 : Nat} {Pre : Pt → Array Value → Prop} {Post : Pt → Array Value → Option Value → Pt → Prop} {PostX : Pt → Array Value → Addr → Pt → Prop} (hK : vx_Back l R p e below s args y 3 W9 Pre Post PostX)
    {g : JFrame} (hg : g.method = m) (hsize : g.locals.size = c.maxLocals) {argsL rest : List Value} (hlen : ∀ sig, parseMethodDescriptor y.desc = some sig → argsL.length = sig.parameters.length)
    (hstack : g.stack = argsL.reverse ++ rest) (hW : 2 * g.monitorRoom + (rest.map fun v => v.category).sum ≤ W9) (hdg : decode c.code g.pc = .ok (.invokestatic index, 3))
    (hpre : ∀ vm₁, s.WarmedH vm₁ → Pre ⟨T.setVm vm₁, locs, cells, slots⟩ argsL.toArray) :
    (∃ (v : Option Value) (vm₁ : Vm) (B : Pt), s.WarmedH vm₁ ∧ Stand p l e R s m args below meth c B.U B.locs B.cells B.slots ∧ Post ⟨T.setVm vm₁, locs, cells, slots⟩ argsL.toArray v B ∧
      ∀ target, Steps p.tables e below (B.U.setTop { g with pc := g.pc + 3, stack := v.toList ++ rest }) target → Steps p.tables e below (T.setTop g) target) ∨
    (∃ (q : Addr) (vm₁ : Vm) (B : Pt), s.WarmedH vm₁ ∧ Stand p l e R s m args below meth c B.U B.locs B.cells B.slots ∧ PostX ⟨T.setVm vm₁, locs, cells, slots⟩ argsL.toArray q B ∧
      Steps p.tables e below (T.setTop g) ((B.U.setTop { g with stack := rest }).pushFrame (.throwing q))) := by
  obtain ⟨mk, methM, cM, hnamed, hmethM, -, -, -, -, -, -, hsigM⟩ := Cond.codeWith_spec hcode
  have hstatic : methM.isStatic = true := Cond.static_spec hnamed hmethM hstat
  obtain ⟨kP, hkP, -⟩ := className_of_methodNamed hnamed
  have hinitP : kP.init = .initialized := Cond.initialized_spec (findClass_of_methodNamed hnamed) hkP hinit
  obtain ⟨vm₁, X₁, hstep₁⟩ := X.invokestatic hexec hown hlink hnamed hmethM hstatic hkP hinitP hy (g := g) hg (argsL := argsL) (rest := rest) (hlen _ hsigM) hstack hdg
  rcases hK m meth c ⟨T.setVm vm₁, locs, cells, slots⟩ { g with stack := rest } (.invokestatic index) mk argsL.toArray X₁ hg hsize hdg hW (X₁.named hnamed) (hpre vm₁ X₁.warmed) with ⟨v, B, X', hpost, hsteps⟩ | ⟨q, B, X', hpost, hsteps⟩
  · exact Or.inl ⟨v, vm₁, B, X₁.warmed, X', hpost, fun target h => hstep₁ _ fun acts => by rw [doInvoke_state]; exact hsteps.trans h⟩
  · exact Or.inr ⟨q, vm₁, B, X₁.warmed, X', hpost, hstep₁ _ fun acts => by rw [doInvoke_state]; exact hsteps⟩
theorem vx_callVW (X : Stand p l e R s m args below meth c T locs cells slots) (hexec : p.tables.exec = Jvm.exec) {own C : String} {index : Nat} {y : MethodName} {bytes : ByteArray} {maxL : Nat} {ret : Option FieldType} {hh : List (Nat × Nat × Nat × Nat)}
    (hown : s.vm.findClass own = some m.cls) (hlink : (Cond.methodLink own index y).before args s = true) (hinst : (Cond.instanceMethod y).before args s = true) (hsel : (Cond.selects C y y).before args s = true)
    (hcode : (Cond.codeWith y bytes maxL ret hh).before args s = true) (hy : y.cls ≠ "java/lang/invoke/MethodHandle" ∧ y.cls ≠ "java/lang/invoke/VarHandle")
    {W9 : Nat} {Pre : Pt → Array Value → Prop} {Post : Pt → Array Value → Option Value → Pt → Prop} (hK : Back l R p e below s args y 3 W9 Pre Post)
    {b : Addr} {cellB : Cell} (hcell : T.heap[b]? = some cellB) (hobj : cellB.vm.isStatics = false) (hcls : s.vm.findClass C = some cellB.cls)
    {g : JFrame} (hg : g.method = m) (hsize : g.locals.size = c.maxLocals) {argsL rest : List Value} (hlen : ∀ sig, parseMethodDescriptor y.desc = some sig → argsL.length = sig.parameters.length)
    (hstack : g.stack = argsL.reverse ++ .ref b :: rest) (hW : 2 * g.monitorRoom + (rest.map fun v => v.category).sum ≤ W9) (hdg : decode c.code g.pc = .ok (.invokevirtual index, 3))
    (hpre : ∀ vm₁, s.WarmedH vm₁ → Pre ⟨T.setVm vm₁, locs, cells, slots⟩ (Value.ref b :: argsL).toArray) :
    ∃ (v : Option Value) (vm₁ : Vm) (B : Pt), s.WarmedH vm₁ ∧ Stand p l e R s m args below meth c B.U B.locs B.cells B.slots ∧ Post ⟨T.setVm vm₁, locs, cells, slots⟩ (Value.ref b :: argsL).toArray v B ∧
      ∀ target, Steps p.tables e below (B.U.setTop { g with pc := g.pc + 3, stack := v.toList ++ rest }) target → Steps p.tables e below (T.setTop g) target := by
  obtain ⟨mk, methM, hnamed, hmethM, hstM, habM⟩ := Cond.instanceMethod_spec hinst
  obtain ⟨m8, methM', cM, hn8, hmethM', -, -, -, -, -, -, hsigM⟩ := Cond.codeWith_spec hcode
  cases Option.some.inj (hn8.symm.trans hnamed)
  cases hmethM.symm.trans hmethM'
  obtain ⟨c2, r2, m2, q1, q2, q3, q4, kP, hkP, hkPi⟩ := Cond.selects_spec hsel
  cases hcls.symm.trans q1
  cases (State.methodFound?_of_named hnamed hy).symm.trans q2
  cases hnamed.symm.trans q3
  have hselP : selectMethod e.platform s.vm cellB.cls mk = .method mk := by rw [Launch.admits_selectMethod X.admits]; exact q4
  obtain ⟨vm₁, X₁, hstep₁⟩ := X.invokevirtual hexec hown hlink hnamed hmethM hstM hkP hkPi hy (a := b) (cell := cellB) hcell
    (fun z h => by rw [h] at hobj; cases hobj) hselP hmethM habM hkP hkPi (g := g) hg (argsL := argsL) (rest := rest) (hlen _ hsigM) hstack hdg
  obtain ⟨v, B, X', hpost, hsteps⟩ := hK m meth c ⟨T.setVm vm₁, locs, cells, slots⟩ { g with stack := rest } (.invokevirtual index) mk (Value.ref b :: argsL).toArray X₁ hg hsize hdg hW (X₁.named hnamed) (hpre vm₁ X₁.warmed)
  exact ⟨v, vm₁, B, X₁.warmed, X', hpost, fun target h => hstep₁ _ fun acts => by rw [doInvoke_state]; exact hsteps.trans h⟩
abbrev vx_CVW (R : Room) (s : State) (args : Array Value) (own C : String) (index : Nat) (y : MethodName) (bytes : ByteArray) (maxL : Nat) (ret : Option FieldType) (hh : List (Nat × Nat × Nat × Nat)) (ws : List Cond) (rm : Room) (mc ms n : Nat) : Prop :=
  (rm.cells = mc ∧ rm.slots = ms ∧ rm.frames + 1 ≤ R.frames ∧ 8 + (maxL + 11) + rm.locals ≤ R.locals ∧ (∀ w ∈ ws, ∀ (a' : Array Value) (U : State), s.WarmedH U.vm → w.before a' U = true) ∧ Cond.codeWith y bytes maxL ret hh ∈ ws) ∧
  (Cond.codeWith y bytes maxL ret hh).before args s = true ∧ (Cond.initialized y.cls).before args s = true ∧ (y.cls ≠ "java/lang/invoke/MethodHandle" ∧ y.cls ≠ "java/lang/invoke/VarHandle") ∧
  (∀ sig, parseMethodDescriptor y.desc = some sig → n = sig.parameters.length) ∧ (Cond.methodLink own index y).before args s = true ∧ (Cond.instanceMethod y).before args s = true ∧ (Cond.selects C y y).before args s = true
theorem vx_cwVW {own C : String} {index maxL mc ms : Nat} {y : MethodName} {bytes : ByteArray} {ret : Option FieldType} {hh : List (Nat × Nat × Nat × Nat)} {Ts ws ws' : List Cond} {rm : Room} (n : Nat) (ht : ∀ w ∈ Ts, w.before args s = true) (hT : GoodIn Ts (wsV own index C y ws)) (hw : ws = Cond.codeWith y bytes maxL ret hh :: ws') (hrc : rm.cells = mc) (hrs : rm.slots = ms)
    (hd : y.cls = C ∧ y.cls ≠ "java/lang/invoke/MethodHandle" ∧ y.cls ≠ "java/lang/invoke/VarHandle" ∧ (parseMethodDescriptor y.desc).map (fun d => d.parameters.length) = some n) (hR : rm.frames + 1 ≤ R.frames ∧ 8 + (maxL + 11) + rm.locals ≤ R.locals) :
    vx_CVW R s args own C index y bytes maxL ret hh ws rm mc ms n := by
  obtain ⟨hC, hd⟩ := hd
  subst hC
  have ok : ∀ w ∈ wsV own index y.cls y ws, w.before args s = true := fun w h => ht w (hT w h).1
  have hG : GoodIn Ts ws := fun w h => hT w (by unfold wsV; exact List.mem_append_right _ h)
  have hc : Cond.codeWith y bytes maxL ret hh ∈ ws := by rw [hw]; exact List.mem_cons_self
  refine ⟨⟨hrc, hrs, hR.1, hR.2, pay_in ht hG, hc⟩, ht _ (hG _ hc).1, ok _ (by simp [wsV]), ⟨hd.1, hd.2.1⟩, fun sig h => ?_, ok _ (by simp [wsV]), ok _ (by simp [wsV]), ok _ (by simp [wsV])⟩
  have h2 := hd.2.2
  rw [h] at h2
  exact (Option.some.inj h2).symm
theorem vx_runVW {y : MethodName} {bytes cc : ByteArray} {maxL nL mc ms n index : Nat} {ret : Option FieldType} {hh : List (Nat × Nat × Nat × Nat)} {ws : List Cond} {rm : Room} {Pc : Array Value → State → Prop} {Qc : Array Value → State → Outcome → State → Prop} {free : Addr → Prop} {Ts : List Cond} {own C : String} {b : Addr} {As rest : List Value} {g : JFrame}
    (S : CallFix p m c cc nL s args Ts own) (hM : Met l y ws rm Pc Qc mc ms free) (cw : vx_CVW R s args own C index y bytes maxL ret hh ws rm mc ms n) (hp : PreV s H C b Pc As)
    (hg : g.method = m) (hn : As.length = n) (hsize : g.locals.size = nL) (hstack : g.stack = As.reverse ++ .ref b :: rest) (hW : 2 * g.monitorRoom + (rest.map fun v => v.category).sum ≤ 8) (hdg : decode cc g.pc = .ok (.invokevirtual index, 3)) (hf : cells + mc ≤ R.cells ∧ slots + ms ≤ R.slots) :
    va_Run p l e R s m args below meth c H locs cells slots mc ms g rest (Qc (Value.ref b :: As).toArray) free := by
  obtain ⟨⟨hrc, hrs, hfr, hlo, hws, hcw⟩, hcode, hini, hy, hlen, hl, hin, hse⟩ := cw
  have hK : Back l R p e below s args y 3 8 (PreOf R mc ms Pc) (PostOf Qc mc ms free) := va_backW (hh := hh) (bytes := bytes) (maxL := maxL) (ret := ret) hM hp.1 hrc hrs hfr hlo hws hcw (fun a' U hW => word_at hW (Or.inl (by first | rfl | simp [Cond.onTables, Cond.keeps, Cond.steady])) hini)
  obtain ⟨hx, hb, hml, ho, -⟩ := S
  obtain ⟨-, ⟨cellB, hcB, hoB, hclB⟩, hPc⟩ := hp
  intro T hT X
  obtain ⟨v, vm₁, ⟨U', l2, c2, s2⟩, hW₁, X', ⟨g', mk, t, L, e1, e2, hq, h1, hL, h2, h3⟩, st⟩ := vx_callVW X hx (C := C) (hh := hh) (bytes := bytes) (maxL := maxL) (ret := ret) ho hl hin hse hcode hy hK (by rw [hT]; exact hcB) hoB hclB hg (hsize.trans hml.symm) (argsL := As) (rest := rest) (fun sig h => hn.trans (hlen sig h)) hstack hW (by rw [hb]; exact hdg)
    (fun vm₁ hW₁ => ⟨hf.1, hf.2, hPc (T.setVm vm₁) hT hW₁⟩)
  dsimp only [Pt.U, Pt.locs, Pt.cells, Pt.slots] at X' e1 e2 h1 h2 h3 st
  subst h1; subst h2; subst h3
  exact ⟨v, (T.setVm vm₁).calling g' mk (Value.ref b :: As).toArray, t, U', L, hT, X', hL, e1, e2, hq, st⟩
section
variable {y : MethodName} {bytes cc : ByteArray} {maxL nL mc ms n index : Nat} {ret : Option FieldType} {ws : List Cond} {rm : Room} {Pc : Array Value → State → Prop} {Qc : Array Value → State → Outcome → State → Prop} {XC : String → State → State → Prop} {free : Addr → Prop} {Ts : List Cond} {own C : String} {b : Addr} {As rest : List Value} {g : JFrame}
theorem vx_runVX {hh : List (Nat × Nat × Nat × Nat)} (S : CallFix p m c cc nL s args Ts own) (hM : vx_Met l y ws rm Pc Qc XC mc ms free) (cw : vx_CVW R s args own C index y bytes maxL ret hh ws rm mc ms n) (hp : PreV s H C b Pc As)
    (hg : g.method = m) (hn : As.length = n) (hsize : g.locals.size = nL) (hstack : g.stack = As.reverse ++ .ref b :: rest) (hW : 2 * g.monitorRoom + (rest.map fun v => v.category).sum ≤ 8) (hdg : decode cc g.pc = .ok (.invokevirtual index, 3)) (hf : cells + mc ≤ R.cells ∧ slots + ms ≤ R.slots) :
    vx_Run p l e R s m args below meth c H locs cells slots mc ms g rest (Qc (Value.ref b :: As).toArray) XC free := by
  obtain ⟨⟨hrc, hrs, hfr, hlo, hws, hcw⟩, hcode, hini, hy, hlen, hl, hin, hse⟩ := cw
  have hK : vx_Back l R p e below s args y 3 8 (PreOf R mc ms Pc) (PostOf Qc mc ms free) (vx_Post XC mc ms free) := vx_backW (hh := hh) (bytes := bytes) (maxL := maxL) (ret := ret) hM hp.1 hrc hrs hfr hlo hws hcw (fun a' U hW => word_at hW (Or.inl (by first | rfl | simp [Cond.onTables, Cond.keeps, Cond.steady])) hini)
  obtain ⟨hx, hb, hml, ho, -⟩ := S
  obtain ⟨-, ⟨cellB, hcB, hoB, hclB⟩, hPc⟩ := hp
  intro T hT X
  rcases vx_callVX X hx (C := C) (hh := hh) (bytes := bytes) (maxL := maxL) (ret := ret) ho hl hin hse hcode hy hK (by rw [hT]; exact hcB) hoB hclB hg (hsize.trans hml.symm) (argsL := As) (rest := rest) (fun sig h => hn.trans (hlen sig h)) hstack hW (by rw [hb]; exact hdg)
    (fun vm₁ hW₁ => ⟨hf.1, hf.2, hPc (T.setVm vm₁) hT hW₁⟩) with ⟨v, vm₁, ⟨U', l2, c2, s2⟩, hW₁, X', ⟨g', mk, t, L, e1, e2, hq, h1, hL, h2, h3⟩, st⟩ | ⟨q, vm₁, ⟨U', l2, c2, s2⟩, hW₁, X', ⟨g', mk, t, L, E, ce, e1, e2, hq, hce, hcv, hcl, h1, hL, h2, h3⟩, st⟩
  · dsimp only [Pt.U, Pt.locs, Pt.cells, Pt.slots] at X' e1 e2 h1 h2 h3 st
    subst h1; subst h2; subst h3
    exact Or.inl ⟨v, (T.setVm vm₁).calling g' mk (Value.ref b :: As).toArray, t, U', L, hT, X', hL, e1, e2, hq, st⟩
  · dsimp only [Pt.U, Pt.locs, Pt.cells, Pt.slots] at X' e1 e2 h1 h2 h3 st hcl
    subst h1; subst h2; subst h3
    exact Or.inr ⟨q, (T.setVm vm₁).calling g' mk (Value.ref b :: As).toArray, t, U', L, E, ce, hT, X', hL, e1, e2, hq, hce, hcv, vx_cls hW₁ hcl, st⟩
theorem vx_runSX {hh : List (Nat × Nat × Nat × Nat)} (S : CallFix p m c cc nL s args Ts own) (hM : vx_Met l y ws rm Pc Qc XC mc ms free) (cw : vx_CSW R s args own index y bytes maxL ret hh ws rm mc ms n) (hp : PreS s H Pc As)
    (hg : g.method = m) (hn : As.length = n) (hsize : g.locals.size = nL) (hstack : g.stack = As.reverse ++ rest) (hW : 2 * g.monitorRoom + (rest.map fun v => v.category).sum ≤ 8) (hdg : decode cc g.pc = .ok (.invokestatic index, 3)) (hf : cells + mc ≤ R.cells ∧ slots + ms ≤ R.slots) :
    vx_Run p l e R s m args below meth c H locs cells slots mc ms g rest (Qc As.toArray) XC free := by
  obtain ⟨⟨hrc, hrs, hfr, hlo, hws, hcw⟩, hcode, hini, hy, hlen, hl, hstt⟩ := cw
  have hK : vx_Back l R p e below s args y 3 8 (PreOf R mc ms Pc) (PostOf Qc mc ms free) (vx_Post XC mc ms free) := vx_backW (hh := hh) (bytes := bytes) (maxL := maxL) (ret := ret) hM hp.1 hrc hrs hfr hlo hws hcw (fun a' U hW => word_at hW (Or.inl (by first | rfl | simp [Cond.onTables, Cond.keeps, Cond.steady])) hini)
  obtain ⟨hx, hb, hml, ho, -⟩ := S
  intro T hT X
  rcases vx_callSX X hx (hh := hh) (bytes := bytes) (maxL := maxL) (ret := ret) ho hl hstt hini hcode hy hK hg (hsize.trans hml.symm) (argsL := As) (rest := rest) (fun sig h => hn.trans (hlen sig h)) hstack hW (by rw [hb]; exact hdg)
    (fun vm₁ hW₁ => ⟨hf.1, hf.2, hp.2 (T.setVm vm₁) hT hW₁⟩) with ⟨v, vm₁, ⟨U', l2, c2, s2⟩, hW₁, X', ⟨g', mk, t, L, e1, e2, hq, h1, hL, h2, h3⟩, st⟩ | ⟨q, vm₁, ⟨U', l2, c2, s2⟩, hW₁, X', ⟨g', mk, t, L, E, ce, e1, e2, hq, hce, hcv, hcl, h1, hL, h2, h3⟩, st⟩
  · dsimp only [Pt.U, Pt.locs, Pt.cells, Pt.slots] at X' e1 e2 h1 h2 h3 st
    subst h1; subst h2; subst h3
    exact Or.inl ⟨v, (T.setVm vm₁).calling g' mk As.toArray, t, U', L, hT, X', hL, e1, e2, hq, st⟩
  · dsimp only [Pt.U, Pt.locs, Pt.cells, Pt.slots] at X' e1 e2 h1 h2 h3 st hcl
    subst h1; subst h2; subst h3
    exact Or.inr ⟨q, (T.setVm vm₁).calling g' mk As.toArray, t, U', L, E, ce, hT, X', hL, e1, e2, hq, hce, hcv, vx_cls hW₁ hcl, st⟩
end
end VXH
theorem vx_ofWH {l : Launch} {y : MethodName} {ws ws' : List Cond} {rm : Room} {Pc : Array Value → State → Prop} {Qc : Array Value → State → Outcome → State → Prop} {XC : String → State → State → Prop} {mc ms : Nat} {free : Addr → Prop} {cc : ByteArray} {maxL : Nat} {ret : Option FieldType} {hh : List (Nat × Nat × Nat × Nat)}
    (hy : plainName y.cls = true) (hw : ws = Cond.codeWith y cc maxL ret hh :: ws')
    (body : ∀ p e s m args below meth c s₁, BodyLoose p l y (headSpec ws rm) cc maxL ret e s m args below meth c s₁ → c.maxLocals = maxL → Pc args s →
      W p l e (headSpec ws rm).room s m args below meth c s.heap [] 0 0 (vx_MQ below Qc XC args s mc ms free) (entryFrame m args maxL)) : vx_Met l y ws rm Pc Qc XC mc ms free := by
  refine MetFree.of_bodyS (code := cc) (maxLocals := maxL) (ret := ret) hy ?_ ?_
  · intro args s m h hn
    obtain ⟨m9, meth, c, hn9, h1, h2, h3, h4, -, h5, h6, -⟩ := Cond.codeWith_spec (atoms_spec (ws := ws) h _ (by rw [hw]; exact List.mem_cons_self))
    cases hn.symm.trans hn9
    exact ⟨meth, c, h1, h2, h3, h4, h5, h6⟩
  · intro p e s m args below meth c s₁ B hml hP _
    have hh0 : s₁.heap = s.heap := by rw [B.state]; rfl
    obtain ⟨t, a1, o, b1, b2, b3⟩ := body p e s m args below meth c s₁ B hml hP s₁ hh0 (Stand.of_body B)
    exact ⟨t, o, a1, b1, b2, b3⟩
/-! ===== END ===== -/
/-! ===== BEGIN what the machine throws by itself, no traces kept ===== -/
section VXM
set_option maxHeartbeats 1000000 in
/-- the machine throws cls with the message text, no traces kept: from its note over the frame g to 'throwing' over the same frame (follows the proofs of Stand.vmThrowsMessage, Shelf/KitTracedVmS.lean, and Stand.throwsMessageColdBareV, StandMessageColdV.lean, without the step out of the frame) -/
theorem vx_vmAt {p : Program} {l : Launch} {e : Env} {R : Room} {s : State} {m₀ : MethodId} {args : Array Value} {below : List Frame} {meth : Method} {c : Code} {W : State} {locs : List Loc} {cells slots : Nat}
    (X : Stand p l e R s m₀ args below meth c W locs cells slots) (hexec : p.tables.exec = Jvm.exec) (htr : e.platform.stackTraces = false) {cls : String} {names : List String} {text : String}
    (hcls : Bundle.fit cls = true) (hnames : ∀ n ∈ names, Bundle.fit n = true) (hsoe : (cls == "java/lang/StackOverflowError") = false) (hoom : (cls == "java/lang/OutOfMemoryError") = false)
    (h : ∀ a ∈ Bundle.messageArmAtoms cls names, a.before args s = true)
    (hlocs : ∀ x ∈ locs, ∀ cell, s.heap[x.base]? = some cell → cell.vm.isStatics = false)
    (htext : (text == notModelled) = false) (hlimit : ¬ (stringBytes (stringToUtf16 text)).size > e.platform.arrayLengthLimit) (hheap : ¬ (stringBytes (stringToUtf16 text)).size * componentBytes .byte > e.platform.maxHeapBytes)
    {g : JFrame} (hg : g.method = m₀) (hsize : g.locals.size = c.maxLocals)
    (hRframes : names.length + 4 < R.frames) (hRlocals : 2 * g.monitorRoom + (g.stack.map fun v => v.category).sum + 10240 ≤ R.locals) (hshort : 13 * names.length + 55 ≤ 10240)
    (hRcells : cells + 3 ≤ R.cells) (hRslots : slots + ((stringBytes (stringToUtf16 text)).size + 4 + 6) ≤ R.slots) (hlocks : meth.locks = false) :
    ∃ (S : State) (q : Addr) (ce : Cell), (∀ target, Steps p.tables e below ((S.setTop g).pushFrame (.throwing q)) target → Steps p.tables e below ((W.setTop g).pushFrame (.throwNew cls (some text) none)) target) ∧
      Stand p l e R s m₀ args below meth c S locs (cells + 3) (slots + ((stringBytes (stringToUtf16 text)).size + 4 + 6)) ∧ S.heap[q]? = some ce ∧ s.vm.findClass cls = some ce.cls ∧ ce.vm = .none := by
  have howns : e.platform.frameOwnsMonitors = true := by rw [X.admits.platform]
  have hfin : e.platform.finalization = false := by rw [X.admits.platform]
  have hpl : e.platform.magicAccessors = ({} : Platform).magicAccessors := by rw [X.admits.platform]
  have a : ∀ x, x ∈ Bundle.messageArmAtoms cls names → x.holds args s none s [] = true := fun x hx => h x hx
  obtain ⟨T, Z0, L, -, Y⟩ := ThrowableC.of_atoms (args := args) howns hfin hpl (fun x hx => h x (by simp [Bundle.messageArmAtoms, hx]))
  obtain ⟨Z, M, LZ, LM, hnZ⟩ := Init0T.ofS_atoms (args := args) hpl L Y (fun x hx => h x (by simp [Bundle.messageArmAtoms, hx]))
  obtain ⟨P1, Ps, hlen, L1, hL, hP1m, hlink1, hlink⟩ := Bundle.chainS (args := args) hpl hnZ names cls hcls hnames (fun x hx => h x (by simp [Bundle.messageArmAtoms, hx]))
  obtain ⟨Zs, LZs, hn4, hfitv, hfitc⟩ := StringT.of_atoms (args := args) (fun x hx => h x (by simp [Bundle.messageArmAtoms, hx]))
  have hfound : s.vm.findClass cls = some P1.m.cls := findClass_of_methodNamed hP1m
  obtain ⟨c1, kX, hc1, hk, hord, -, -, hn6⟩ := Cond.instantiable_spec (a (.instantiable cls 6) (by simp [Bundle.messageArmAtoms]))
  cases Option.some.inj (hc1.symm.trans hfound)
  have hinit := Cond.initialized_spec hfound hk (a (.initialized cls) (by simp [Bundle.messageArmAtoms]))
  have hctor : kX.findMethod "<init>" "(Ljava/lang/String;)V" = some P1.m.idx := findMethod_of_methodNamed hP1m hk
  have hsel0 : selectMethod e.platform s.vm P1.m.cls T.fill0 = .method T.fill0 := by
    obtain ⟨c2, r2, m2, q1, q2, q3, q4, -⟩ := Cond.selects_spec (a (.selects cls Bundle.tFill0 Bundle.tFill0) (by simp [Bundle.messageArmAtoms]))
    cases Option.some.inj (q1.symm.trans hfound)
    cases Option.some.inj (q2.symm.trans (State.methodFound?_of_named Y.fill0 (by decide)))
    cases Option.some.inj (q3.symm.trans Y.fill0)
    rw [Launch.admits_selectMethod X.admits]; exact q4
  have hselF : selectMethod e.platform s.vm P1.m.cls T.fill = .method T.fill := by
    obtain ⟨c2, r2, m2, q1, q2, q3, q4, -⟩ := Cond.selects_spec (a (.selects cls Bundle.tFill Bundle.tFill) (by simp [Bundle.messageArmAtoms]))
    cases Option.some.inj (q1.symm.trans hfound)
    cases Option.some.inj (q2.symm.trans (State.methodFound?_of_named Y.fill (by decide)))
    cases Option.some.inj (q3.symm.trans Y.fill)
    rw [Launch.admits_selectMethod X.admits]; exact q4
  obtain ⟨cellS0, hcS0, hiss⟩ := Y.statics
  obtain ⟨u0, hu0⟩ := Cond.staticRefV Y.unassigned L.unassignedStatic L.statics hcS0 hiss (a (.isRef (.static Bundle.tN "UNASSIGNED_STACK" Bundle.steD)) (by simp [Bundle.messageArmAtoms]))
  obtain ⟨sen, hsen⟩ := Cond.staticRefV Y.sentinel L.sentinelStatic L.statics hcS0 hiss (a (.isRef (.static Bundle.tN "SUPPRESSED_SENTINEL" Bundle.listD)) (by simp [Bundle.messageArmAtoms]))
  obtain ⟨ci198, i198, fB, hk198, hg198, ha198, hsB, -, hnB, htB, hffB⟩ := Cond.ownField (t := .object "java/lang/Object") Y.found L.cls (by decide +kernel) (a (.fieldLink Bundle.tN 198 Bundle.tN "backtrace" "Ljava/lang/Object;") (by simp [Bundle.messageArmAtoms])) (a (.lays Bundle.tN Bundle.tN "backtrace" "Ljava/lang/Object;") (by simp [Bundle.messageArmAtoms])) e.platform hpl
  obtain ⟨cellS, hcS', heS, -, hkeep⟩ := X.same.2.2.2.2.2 T.aS cellS0 hcS0
  have hcellS : W.heap[T.aS]? = some cellS := hcS'
  have hout' : ∀ i, (⟨T.aS, i⟩ : Loc) ∉ locs := fun i hmem => by
    have := hlocs _ hmem cellS0 hcS0
    rw [hiss] at this; cases this
  have hknownS : cellS.vm ≠ .unknown := by
    rw [heS]; intro hu
    rw [show cellS0.vm = .unknown from hu] at hiss
    cases hiss
  have hvU : cellS.slots[T.fUnassigned.slot]? = some u0.v := by rw [hkeep _ (hout' _)]; exact hu0
  have hvSen : cellS.slots[T.fSentinel.slot]? = some sen.v := by rw [hkeep _ (hout' _)]; exact hsen
  obtain ⟨iM, hffM⟩ := Y.msg
  obtain ⟨tyC, dC, hdC, hdnC⟩ := Cond.laysAt hfound hk Y.cause (a (.lays cls Bundle.tN "cause" "Ljava/lang/Throwable;") (by simp [Bundle.messageArmAtoms]))
  obtain ⟨tyS, dS, hdS, hdnS⟩ := Cond.laysAt hfound hk Y.stack (a (.lays cls Bundle.tN "stackTrace" Bundle.steD) (by simp [Bundle.messageArmAtoms]))
  obtain ⟨tyP, dP, hdP, hdnP⟩ := Cond.laysAt hfound hk Y.supp (a (.lays cls Bundle.tN "suppressedExceptions" Bundle.listD) (by simp [Bundle.messageArmAtoms]))
  obtain ⟨tyM, dM, hdM, hdnM⟩ := Cond.laysAt hfound hk hffM (a (.lays cls Bundle.tN "detailMessage" "Ljava/lang/String;") (by simp [Bundle.messageArmAtoms]))
  obtain ⟨tyB, dB, hdB, hdnB⟩ := Cond.laysAt hfound hk hffB (a (.lays cls Bundle.tN "backtrace" "Ljava/lang/Object;") (by simp [Bundle.messageArmAtoms]))
  have bC := Cond.laysApart hdB hdC hdnB hdnC (by rw [hnB, Y.causeName]; decide)
  have bS := Cond.laysApart hdB hdS hdnB hdnS (by rw [hnB, Y.stackName]; decide)
  have bP := Cond.laysApart hdB hdP hdnB hdnP (by rw [hnB, Y.suppName]; decide)
  have hbk : ((preparedCellV T.toThrowableT (freshCell P1.m.cls kX) (W.heap.size + 2) u0 sen).withEntry W.cur).slots[fB.slot]? = some .null := by
    have := fresh_default (c := P1.m.cls) tyB
    rw [htB] at this
    simpa [preparedCellV, Cell.setSlot, Cell.withEntry, Array.getElem?_setIfInBounds, bC, bS, bP, bC.symm, bS.symm, bP.symm, defaultValue] using this
  have tkC := Takes.of_laid (v := .ref (W.heap.size + 2)) hk hord tyC (by rw [Y.causeType]; rfl)
  have tkS := Takes.of_laid (v := u0.v) hk hord tyS (by rw [Y.stackType]; exact fits_refV_array _ u0)
  have tkP := Takes.of_laid (v := sen.v) hk hord tyP (by rw [Y.suppType]; exact fits_refV_object _ sen)
  have tkM := Takes.of_laid (v := .ref (W.heap.size + 1)) hk hord tyM (by rw [Y.msgType]; rfl)
  have hskip : SkipFacts T e.platform s (fun u => u) u0 ((preparedCellV T.toThrowableT (freshCell P1.m.cls kX) (W.heap.size + 2) u0 sen).withEntry W.cur) := ⟨{ ci198 := ci198, i198 := i198, fBack := fB }, ⟨hk198, hg198, ha198, hsB⟩, hbk, fun _ _ => rfl⟩
  have h0 : At W g.method c below := by rw [hg]; exact X.here
  obtain ⟨hbeyond, hfreeW⟩ := X.vmMayThrow hsize (.throwNew cls (some text) none) (fun f hf => by cases hf) rfl hRlocals
  have hfr' : W.frames.length + Ps.length + 4 < (e.platform.stackLimits W.me).1 := by have := X.framesAbove hRframes; omega
  have hwd' : (stackUse (.java g :: W.frames.tail)).2 + 13 * Ps.length + 55 ≤ (e.platform.stackLimits W.me).2 := by have := X.stackAbove hsize (K := 13 * Ps.length + 55) (by omega); omega
  have hslots : W.slotsUsed + (stringBytes (stringToUtf16 text)).size + Zs.kS.instanceTypes.size + kX.instanceTypes.size ≤ e.platform.maxSlots := by
    have := X.slotsAbove hRslots
    rw [hn4, hn6]
    omega
  obtain ⟨vm', hW', st⟩ := Steps.vmThrowsMessageColdByV p (s₀ := s) (S := W) (g := g) h0 hexec T L Z LZ M LM X.warmed (t := W.cur) rfl Zs LZs P1 L1 Ps hL hlink1 hlink hsoe hoom hfound hk hinit hord hctor
    (Launch.admits_hotImplicitExceptions X.admits) hbeyond hfreeW htext hlimit hheap (X.cellsAbove hRcells) hslots (hfitv _) (hfitc _)
    (Nn := fun u => u) heapOnly_id (fun _ _ => rfl) (fun _ => rfl) (fun u x y => setCell_twice _ _ _ _) (fun _ => Nat.le_refl _) (cN := ((preparedCellV T.toThrowableT (freshCell P1.m.cls kX) (W.heap.size + 2) u0 sen).withEntry W.cur))
    hsel0 hcellS hknownS hvU tkS (fun _ hu => hu) (fun _ hu => hu) rfl rfl rfl (by simp [preparedCellV, Cell.setSlot, Cell.withEntry]) hskip (fun _ _ hA hW _ hroom _ hrest => L.nativeOff p htr hA hW hroom hrest) hselF hvSen tkC tkP tkM Y.objLocals rfl hfr' hwd'
  rw [plainBareV_eq T.toThrowableT (W.heap.size + 2) u0 sen (.ref (W.heap.size + 1)) W.cur rfl rfl] at st
  obtain ⟨-, -, w3, w4, -, -, -⟩ := withThrown_facts e.platform W Zs text P1.m.cls kX
  have X3 := ((X.pushed (bytesOf Zs.cB (stringToUtf16 text))).pushed (stringAt Zs.cS Zs.kS Zs.fv Zs.fc (stringToUtf16 text) W.heap.size)).pushed (freshCell P1.m.cls kX)
  rw [← withString_eq] at X3
  have X4 := X3.noted hW'
  have ha : (W.heap.size + 2) < ((withThrown W Zs text P1.m.cls kX).setVm vm').heap.size := by show _ < (withThrown W Zs text P1.m.cls kX).heap.size; rw [w3]; omega
  have hcell : ((withThrown W Zs text P1.m.cls kX).setVm vm').heap[(W.heap.size + 2)]? = some (freshCell P1.m.cls kX) := w4
  have X5 := ((((X4.stored hcell T.fCause.slot (.ref (W.heap.size + 2))).storedAgain ha T.fStack.slot u0.v).storedAgain ha T.fSupp.slot sen.v).storedAgain ha T.fStack.slot u0.v).storedAgain ha T.fMsg.slot (.ref (W.heap.size + 1))
  obtain ⟨g₁, hfrM⟩ := X5.frames_eq
  have hU : ((((withThrown W Zs text P1.m.cls kX).setVm vm').setCell (W.heap.size + 2) (plainBareV T.toThrowableT (freshCell P1.m.cls kX) (W.heap.size + 2) u0 sen (.ref (W.heap.size + 1)))).setTop g).pushFrame (.throwing (W.heap.size + 2)) = (((withThrown W Zs text P1.m.cls kX).setVm vm').setCell (W.heap.size + 2) (plainBareV T.toThrowableT (freshCell P1.m.cls kX) (W.heap.size + 2) u0 sen (.ref (W.heap.size + 1)))).setFrames (.throwing (W.heap.size + 2) :: .java g :: below) := by
    rw [State.pushFrame, State.frames_setTop _ hfrM, State.setTop_of_frames _ hfrM, State.setFrames_setFrames]
  have b1 : (bytesOf Zs.cB (stringToUtf16 text)).slots.size = (stringBytes (stringToUtf16 text)).size := by
    rw [(Cell.writeAll_facts _ _).2.2]; simp [bytes0]
  have b2 : (stringAt Zs.cS Zs.kS Zs.fv Zs.fc (stringToUtf16 text) W.heap.size).slots.size = 4 := by simp [string0, Cell.setSlot, hn4]
  have b3 : (freshCell P1.m.cls kX).slots.size = 6 := by simp [hn6]
  rw [b1, b2, b3] at X5
  have e9 : slots + (stringBytes (stringToUtf16 text)).size + 4 + 6 = slots + ((stringBytes (stringToUtf16 text)).size + 4 + 6) := by omega
  rw [e9] at X5
  simp only [List.append_assoc, List.cons_append, List.nil_append] at X5
  refine ⟨((withThrown W Zs text P1.m.cls kX).setVm vm').setCell (W.heap.size + 2) (plainBareV T.toThrowableT (freshCell P1.m.cls kX) (W.heap.size + 2) u0 sen (.ref (W.heap.size + 1))), W.heap.size + 2, _, fun target ht => st _ (by rw [X.tail, ← hU]; exact ht),
    X5.forget (fun y hy => ?_), heapAt_setCell_self _ ha, hfound, rfl⟩
  simp only [List.mem_cons, List.not_mem_nil, or_false] at hy
  have hge : s.heap.size ≤ W.heap.size := X.same.2.1
  rcases hy with rfl | rfl | rfl | rfl | rfl <;> exact Nat.le_trans hge (Nat.le_add_right _ 2)
set_option maxHeartbeats 1000000 in
/-- the machine throws NullPointerException, no traces kept: from its note over the frame g to 'throwing' over the same frame (follows the proof of Stand.vmThrowsNpe, Shelf42/KT2.lean; throwsNpeColdBareVAt, Shelf42/NT91.lean, called) -/
theorem vx_npeAt {p : Program} {l : Launch} {e : Env} {R : Room} {s : State} {m₀ : MethodId} {args : Array Value} {below : List Frame} {meth : Method} {c : Code} {W : State} {locs : List Loc} {cells slots : Nat}
    (X : Stand p l e R s m₀ args below meth c W locs cells slots) (hexec : p.tables.exec = Jvm.exec) (htr : e.platform.stackTraces = false) {n : Nat}
    (h : ∀ a ∈ Bundle.npeArmAtoms n, a.before args s = true)
    (hlocs : ∀ x ∈ locs, ∀ cell, s.heap[x.base]? = some cell → cell.vm.isStatics = false)
    {g : JFrame} (hg : g.method = m₀) (hsize : g.locals.size = c.maxLocals)
    (hRframes : 7 < R.frames) (hRlocals : 2 * g.monitorRoom + (g.stack.map fun v => v.category).sum + 10240 ≤ R.locals)
    (hRcells : cells + 1 ≤ R.cells) (hRslots : slots + n ≤ R.slots) (hlocks : meth.locks = false) :
    ∃ (S : State) (q : Addr) (ce : Cell), (∀ target, Steps p.tables e below ((S.setTop g).pushFrame (.throwing q)) target → Steps p.tables e below ((W.setTop g).pushFrame (.throwNew "java/lang/NullPointerException" none none)) target) ∧
      Stand p l e R s m₀ args below meth c S locs (cells + 1) (slots + n) ∧ S.heap[q]? = some ce ∧ s.vm.findClass "java/lang/NullPointerException" = some ce.cls ∧ ce.vm = .none := by
  have howns : e.platform.frameOwnsMonitors = true := by rw [X.admits.platform]
  have hfin : e.platform.finalization = false := by rw [X.admits.platform]
  have hpl : e.platform.magicAccessors = ({} : Platform).magicAccessors := by rw [X.admits.platform]
  have hpl2 : e.platform.arrayCloneIsPublic = true := by rw [X.admits.platform]
  have a' : ∀ x, x ∈ Bundle.npeArmAtoms n → x.holds args s none s [] = true := fun x hx => h x hx
  obtain ⟨T, Z, L, LZ, Y⟩ := ThrowableC.of_atoms (args := args) howns hfin hpl (fun x hx => h x (by simp [Bundle.npeArmAtoms, hx]))
  obtain ⟨N, LN, hcN, hnNF, hordN, hffS⟩ := NpeC.of_atoms (args := args) hpl hpl2 L Y (fun x hx => h x (by simp [Bundle.npeArmAtoms, hx]))
  obtain ⟨P1, L1, hP1m, hP1s⟩ := PassC.of_atoms (args := args) (s := s) hpl (X := Bundle.nN) (Y := Bundle.rN) (by decide) (by decide) LibCode.NullPointerException.Init0.at_0 LibCode.NullPointerException.Init0.at_1 LibCode.NullPointerException.Init0.at_4 (fun x hx => h x (by simp [Bundle.npeArmAtoms, hx]))
  obtain ⟨PR, LR, hPRm, hPRs⟩ := PassC.of_atoms (args := args) (s := s) hpl (X := Bundle.rN) (Y := Bundle.eN) (by decide) (by decide) LibCode.RuntimeException.Init0.at_0 LibCode.RuntimeException.Init0.at_1 LibCode.RuntimeException.Init0.at_4 (fun x hx => h x (by simp [Bundle.npeArmAtoms, hx]))
  obtain ⟨PE, LEx, hPEm, hPEs⟩ := PassC.of_atoms (args := args) (s := s) hpl (X := Bundle.eN) (Y := Bundle.tN) (by decide) (by decide) LibCode.Exception.Init0.at_0 LibCode.Exception.Init0.at_1 LibCode.Exception.Init0.at_4 (fun x hx => h x (by simp [Bundle.npeArmAtoms, hx]))
  have hfound : s.vm.findClass Bundle.nN = some P1.m.cls := findClass_of_methodNamed hP1m
  have ecls : N.cN = P1.m.cls := Option.some.inj (hcN.symm.trans hfound)
  have hk : s.vm.classes[P1.m.cls]? = some N.kN := by rw [← ecls]; exact LN.cls
  have hinit := Cond.initialized_spec hfound hk (a' (.initialized Bundle.nN) (by simp [Bundle.npeArmAtoms]))
  have hctor : N.kN.findMethod "<init>" "()V" = some P1.m.idx := findMethod_of_methodNamed hP1m hk
  obtain ⟨c1, k1, hc1, hk1, -, -, -, hn⟩ := Cond.instantiable_spec (a' (.instantiable Bundle.nN n) (by simp [Bundle.npeArmAtoms]))
  cases Option.some.inj (hc1.symm.trans hfound)
  cases Option.some.inj (hk1.symm.trans hk)
  have hfsz : (freshCell P1.m.cls N.kN).slots.size = n := by simp [hn]
  have hlink1 : P1.sup = PR.m := Option.some.inj (hP1s.symm.trans hPRm)
  have hlinkR : PR.sup = PE.m := Option.some.inj (hPRs.symm.trans hPEm)
  have hlinkE : PE.sup = Z.m T.toThrowableT := Option.some.inj (hPEs.symm.trans Y.init0)
  have hLs : ∀ P, P ∈ [PR, PE] → P.Links0 e.platform s := fun P hP => by
    simp only [List.mem_cons, List.not_mem_nil, or_false] at hP
    rcases hP with rfl | rfl
    · exact LR
    · exact LEx
  have hsel0 : selectMethod e.platform s.vm P1.m.cls T.fill0 = .method T.fill0 := by
    obtain ⟨c2, r2, m2, q1, q2, q3, q4, -⟩ := Cond.selects_spec (a' (.selects Bundle.nN Bundle.tFill0 Bundle.tFill0) (by simp [Bundle.npeArmAtoms]))
    cases Option.some.inj (q1.symm.trans hfound)
    cases Option.some.inj (q2.symm.trans (State.methodFound?_of_named Y.fill0 (by decide)))
    cases Option.some.inj (q3.symm.trans Y.fill0)
    rw [Launch.admits_selectMethod X.admits]; exact q4
  have hselF : selectMethod e.platform s.vm P1.m.cls T.fill = .method N.fill := by
    obtain ⟨c2, r2, m2, q1, q2, q3, q4, -⟩ := Cond.selects_spec (a' (.selects Bundle.nN Bundle.tFill Bundle.nFill) (by simp [Bundle.npeArmAtoms]))
    cases Option.some.inj (q1.symm.trans hfound)
    cases Option.some.inj (q2.symm.trans (State.methodFound?_of_named Y.fill (by decide)))
    cases Option.some.inj (q3.symm.trans hnNF)
    rw [Launch.admits_selectMethod X.admits]; exact q4
  obtain ⟨cellS0, hcS0, hiss⟩ := Y.statics
  obtain ⟨u0, hu0⟩ := Cond.staticRefV Y.unassigned L.unassignedStatic L.statics hcS0 hiss (a' (.isRef (.static Bundle.tN "UNASSIGNED_STACK" Bundle.steD)) (by simp [Bundle.npeArmAtoms]))
  obtain ⟨sen, hsen⟩ := Cond.staticRefV Y.sentinel L.sentinelStatic L.statics hcS0 hiss (a' (.isRef (.static Bundle.tN "SUPPRESSED_SENTINEL" Bundle.listD)) (by simp [Bundle.npeArmAtoms]))
  obtain ⟨ci198, i198, fB, hk198, hg198, ha198, hsB, -, hnB, htB, hffB⟩ := Cond.ownField (t := .object "java/lang/Object") Y.found L.cls (by decide +kernel) (a' (.fieldLink Bundle.tN 198 Bundle.tN "backtrace" Bundle.objD) (by simp [Bundle.npeArmAtoms])) (a' (.lays Bundle.tN Bundle.tN "backtrace" Bundle.objD) (by simp [Bundle.npeArmAtoms])) e.platform hpl
  obtain ⟨cellS, hcS', heS, -, hkeep⟩ := X.same.2.2.2.2.2 T.aS cellS0 hcS0
  have hcellS : W.heap[T.aS]? = some cellS := hcS'
  have hout' : ∀ i, (⟨T.aS, i⟩ : Loc) ∉ locs := fun i hmem => by
    have := hlocs _ hmem cellS0 hcS0
    rw [hiss] at this; cases this
  have hknownS : cellS.vm ≠ .unknown := by
    rw [heS]; intro hu
    rw [show cellS0.vm = .unknown from hu] at hiss
    cases hiss
  have hvU : cellS.slots[T.fUnassigned.slot]? = some u0.v := by rw [hkeep _ (hout' _)]; exact hu0
  have hvSen : cellS.slots[T.fSentinel.slot]? = some sen.v := by rw [hkeep _ (hout' _)]; exact hsen
  obtain ⟨tyC, dC, hdC, hdnC⟩ := Cond.laysAt hfound hk Y.cause (a' (.lays Bundle.nN Bundle.tN "cause" "Ljava/lang/Throwable;") (by simp [Bundle.npeArmAtoms]))
  obtain ⟨tyS, dS, hdS, hdnS⟩ := Cond.laysAt hfound hk Y.stack (a' (.lays Bundle.nN Bundle.tN "stackTrace" Bundle.steD) (by simp [Bundle.npeArmAtoms]))
  obtain ⟨tyP, dP, hdP, hdnP⟩ := Cond.laysAt hfound hk Y.supp (a' (.lays Bundle.nN Bundle.tN "suppressedExceptions" Bundle.listD) (by simp [Bundle.npeArmAtoms]))
  obtain ⟨tyX, dX, hdX, hdnX⟩ := Cond.laysAt hfound hk hffS (a' (.lays Bundle.nN Bundle.nN "extendedMessageState" "I") (by simp [Bundle.npeArmAtoms, Bundle.npeAtoms]))
  obtain ⟨hnX, htX⟩ := State.fieldFound?_type hffS (t := .int) (by decide +kernel)
  have xC := Cond.laysApart hdC hdX hdnC hdnX (by rw [hnX, Y.causeName]; decide)
  have xS := Cond.laysApart hdS hdX hdnS hdnX (by rw [hnX, Y.stackName]; decide)
  have xP := Cond.laysApart hdP hdX hdnP hdnX (by rw [hnX, Y.suppName]; decide)
  have hv0 : (freshCell P1.m.cls N.kN).slots[N.fState.slot]? = some (.int 0) := by
    have := fresh_default (c := P1.m.cls) tyX
    rw [htX] at this; exact this
  obtain ⟨tyB, dB, hdB, hdnB⟩ := Cond.laysAt hfound hk hffB (a' (.lays Bundle.nN Bundle.tN "backtrace" Bundle.objD) (by simp [Bundle.npeArmAtoms]))
  have bC := Cond.laysApart hdB hdC hdnB hdnC (by rw [hnB, Y.causeName]; decide)
  have bS := Cond.laysApart hdB hdS hdnB hdnS (by rw [hnB, Y.stackName]; decide)
  have bP := Cond.laysApart hdB hdP hdnB hdnP (by rw [hnB, Y.suppName]; decide)
  have bX := Cond.laysApart hdB hdX hdnB hdnX (by rw [hnB, hnX]; decide)
  have hbk : ((npeCell N.toNpeT (preparedCellV T.toThrowableT (freshCell P1.m.cls N.kN) W.heap.size u0 sen) W.cur).withEntry W.cur).slots[fB.slot]? = some .null := by
    have := fresh_default (c := P1.m.cls) tyB
    rw [htB] at this
    simpa [npeCell, preparedCellV, Cell.setSlot, Cell.withEntry, Array.getElem?_setIfInBounds, bC, bS, bP, bX, bC.symm, bS.symm, bP.symm, bX.symm, defaultValue] using this
  have tkC := Takes.of_laid (v := .ref W.heap.size) hk hordN tyC (by rw [Y.causeType]; rfl)
  have tkS := Takes.of_laid (v := u0.v) hk hordN tyS (by rw [Y.stackType]; exact fits_refV_array _ u0)
  have tkP := Takes.of_laid (v := sen.v) hk hordN tyP (by rw [Y.suppType]; exact fits_refV_object _ sen)
  have tkX := Takes.of_laid (v := .int 1) hk hordN tyX (by rw [htX]; rfl)
  have hskip : SkipFacts T e.platform s (fun u => u) u0 ((npeCell N.toNpeT (preparedCellV T.toThrowableT (freshCell P1.m.cls N.kN) W.heap.size u0 sen) W.cur).withEntry W.cur) := ⟨{ ci198 := ci198, i198 := i198, fBack := fB }, ⟨hk198, hg198, ha198, hsB⟩, hbk, fun _ _ => rfl⟩
  obtain ⟨vm', X3, st, -⟩ := X.throwsNpeColdBareVAt hexec hg hsize T L Z LZ N LN P1 L1 [PR, PE] hLs hlink1 ⟨hlinkR, hlinkE, trivial⟩ hfound hk hinit hordN hctor hsel0 hselF hcellS hknownS hvU hvSen
    hv0 xC xS xP tkC tkS tkP tkX Y.objLocals hskip (fun _ _ hA hW _ hroom _ hrest => L.nativeOff p htr hA hW hroom hrest) (by simpa using hRframes) hRlocals (by simp) hRcells (by rw [hn]; exact hRslots)
  have hlt : W.heap.size < ((W.pushCell (freshCell P1.m.cls N.kN)).setVm vm').heap.size := by
    show W.heap.size < (W.pushCell (freshCell P1.m.cls N.kN)).heap.size
    rw [State.heap_size_pushCell]; omega
  rw [hfsz] at X3
  obtain ⟨g₁, hfrM⟩ := X3.frames_eq
  have hU : ((((W.pushCell (freshCell P1.m.cls N.kN)).setVm vm').setCell W.heap.size (npeBareV T.toThrowableT N.toNpeT (freshCell P1.m.cls N.kN) W.heap.size u0 sen)).setTop g).pushFrame (.throwing W.heap.size) = (((W.pushCell (freshCell P1.m.cls N.kN)).setVm vm').setCell W.heap.size (npeBareV T.toThrowableT N.toNpeT (freshCell P1.m.cls N.kN) W.heap.size u0 sen)).setFrames (.throwing W.heap.size :: .java g :: below) := by
    rw [State.pushFrame, State.frames_setTop _ hfrM, State.setTop_of_frames _ hfrM, State.setFrames_setFrames]
  refine ⟨_, W.heap.size, _, fun target ht => st.trans (by rw [← hU]; exact ht), X3.forget (fun y hy => ?_), heapAt_setCell_self _ hlt, hfound, rfl⟩
  simp only [List.mem_cons, List.not_mem_nil, or_false] at hy
  have hge : s.heap.size ≤ W.heap.size := X.same.2.1
  rcases hy with rfl | rfl | rfl | rfl | rfl <;> exact hge
/-- the words of a machine's NullPointerException, but the four that speak of the heap -/
def vx_atN (n : Nat) : List Cond := (Bundle.npeArmAtoms n).filter vx_no
/-- the words of a machine's throw with a message, but the four that speak of the heap -/
def vx_atM (X : String) (names : List String) : List Cond := (Bundle.messageArmAtoms X names).filter vx_no
section
variable {p : Program} {l : Launch} {e : Env} {R : Room} {s : State} {m : MethodId} {args : Array Value} {below : List Frame} {meth : Method} {c : Code} {H : Heap} {locs : List Loc} {cells slots : Nat}
/-- a frame seen from a rebased start, seen from the first start again -/
theorem vx_back9 {T S : State} {R' : Room} {k n : Nat} (X : Stand p l e R s m args below meth c T locs cells slots) (Y : Stand p l e R' ((T.setVm s.vm).setFrames (.invoking m args :: below)) m args below meth c T [] 0 0) (Z : Stand p l e R' ((T.setVm s.vm).setFrames (.invoking m args :: below)) m args below meth c S [] k n) :
    Stand p l e R s m args below meth c S locs (cells + k) (slots + n) := by
  have hW0 : s.WarmedH ((T.setVm s.vm).setFrames (.invoking m args :: below)).vm := State.WarmedH.refl s
  refine { admits := X.admits, cas := X.cas, clock := X.clock, frames := X.frames, room := X.room, hears := X.hears, method := X.method, code := X.code, here := Z.here, tail := Z.tail, warmed := State.WarmedH.trans hW0 Z.warmed, limits := Z.limits.trans (Y.limits.symm.trans X.limits), bytes := Z.bytes.trans (Y.bytes.symm.trans X.bytes), same := ?_ }
  obtain ⟨e1, e2⟩ := Z.same
  rw [State.setFrames_setFrames] at e1
  have h2 : (T.setVm s.vm).sameButNew (S.setVm s.vm) [] k n := ⟨e1, e2⟩
  have h3 := X.same.trans h2
  rw [List.append_nil] at h3
  exact h3
/-- from the machine's note that E is thrown here with this text -/
def vx_Note (p : Program) (l : Launch) (e : Env) (R : Room) (s : State) (m : MethodId) (args : Array Value) (below : List Frame) (meth : Method) (c : Code) (H : Heap) (locs : List Loc) (cells slots : Nat) (Q : State → Prop) (g : JFrame) (E text : String) : Prop :=
  ∀ T : State, T.heap = H → Stand p l e R s m args below meth c T locs cells slots → ∃ t, Steps p.tables e below ((T.setTop g).pushFrame (.throwNew E (some text) none)) t ∧ Q t
theorem vx_vm {pc : Nat} {ls : Array Slot} {rest : List Value} {Q : State → Prop} (hexec : p.tables.exec = Jvm.exec) (hl : l.stackTraces = false) {cls text : String} {names : List String} {nb : Nat} {A : Nat → Prop}
    (hcls : Bundle.fit cls = true) (hnames : ∀ n ∈ names, Bundle.fit n = true) (hsoe : (cls == "java/lang/StackOverflowError") = false) (hoom : (cls == "java/lang/OutOfMemoryError") = false)
    (hat : ∀ w ∈ vx_atM cls names, w.before args s = true) (hgood : ∀ w ∈ vx_atM cls names, vx_ot w = true)
    (hU : vx_Zq Bundle.tN "UNASSIGNED_STACK" Bundle.steD A s s.heap) (hN : vx_Zq Bundle.tN "SUPPRESSED_SENTINEL" Bundle.listD A s s.heap) (hS : va_S A s.heap H locs) (hsize : ls.size = c.maxLocals)
    (htext : (text == notModelled) = false) (hnb : (stringBytes (stringToUtf16 text)).size ≤ nb) (hnb1 : nb ≤ 1000)
    (hRframes : names.length + 4 < R.frames) (hRlocals : (rest.map fun v => v.category).sum + 10240 ≤ R.locals) (hshort : 13 * names.length + 55 ≤ 10240) (hRcells : cells + 3 ≤ R.cells) (hRslots : slots + (nb + 10) ≤ R.slots) (hlocks : meth.locks = false)
    (k : ∀ (H1 : Heap) (q9 : Addr) (ce : Cell), H.size ≤ H1.size → (∀ q : Nat, q < H.size → H1[q]? = H[q]?) → va_S A s.heap H1 locs → H1[q9]? = some ce → ce.vm = .none → s.vm.findClass cls = some ce.cls → vx_W p l e R s m args below meth c H1 locs (cells + 3) (slots + (nb + 10)) Q (F0 m pc ls rest) q9) :
    vx_Note p l e R s m args below meth c H locs cells slots Q (F0 m pc ls rest) cls text := by
  intro T hT X
  have htr : e.platform.stackTraces = false := (show e.platform.stackTraces = l.stackTraces by rw [X.admits.platform]).trans hl
  have Y := vx_rebase X (R' := { frames := R.frames, locals := R.locals, cells := 3, slots := nb + 10 }) (Nat.le_refl _) (Nat.le_refl _) hRcells hRslots
  have hhp : ((T.setVm s.vm).setFrames (.invoking m args :: below)).heap = H := hT
  have hW0 : s.WarmedH ((T.setVm s.vm).setFrames (.invoking m args :: below)).vm := State.WarmedH.refl s
  have hat' : ∀ w ∈ vx_atM cls names, w.before args ((T.setVm s.vm).setFrames (.invoking m args :: below)) = true := fun w hw => vx_ot_at hW0 rfl (hgood w hw) (hat w hw)
  have hU' : vx_Zq Bundle.tN "UNASSIGNED_STACK" Bundle.steD A ((T.setVm s.vm).setFrames (.invoking m args :: below)) ((T.setVm s.vm).setFrames (.invoking m args :: below)).heap := by rw [hhp]; exact vx_Zq.moved hW0.alike (hU.kept hS.2.1)
  have hN' : vx_Zq Bundle.tN "SUPPRESSED_SENTINEL" Bundle.listD A ((T.setVm s.vm).setFrames (.invoking m args :: below)) ((T.setVm s.vm).setFrames (.invoking m args :: below)).heap := by rw [hhp]; exact vx_Zq.moved hW0.alike (hN.kept hS.2.1)
  obtain ⟨S, q, ce, st, Z, hce, hcl', hv⟩ := vx_vmAt Y hexec htr (cls := cls) (names := names) (text := text) hcls hnames hsoe hoom (vx_own hat' (vx_isRefq hU'.1) (vx_isRefq hN'.1) hU'.2.word hN'.2.word) (fun x hx => nomatch hx) htext
    (by rw [Launch.admits_arrayLengthLimit X.admits]; omega) (by rw [Launch.admits_maxHeapBytes X.admits]; simp only [componentBytes]; omega)
    (g := F0 m pc ls rest) rfl hsize hRframes (by show 2 * 0 + (rest.map fun v => v.category).sum + 10240 ≤ R.locals; omega) hshort (by show 0 + 3 ≤ 3; omega) (by show 0 + (_ + 4 + 6) ≤ nb + 10; omega) hlocks
  obtain ⟨f1, f2⟩ := vx_frame Z.same
  have f1' : H.size ≤ S.heap.size := by rw [← hT]; exact f1
  have f2' : ∀ q : Nat, q < H.size → S.heap[q]? = H[q]? := fun q hq => by
    rw [← hT]
    exact f2 q (by rw [← hT] at hq; exact hq) (fun z hz => nomatch hz)
  have X5 := vx_back9 X Y Z
  have X6 : Stand p l e R s m args below meth c S locs (cells + 3) (slots + (nb + 10)) := { X5 with same := X5.same.mono (by omega) (by omega) }
  obtain ⟨t, a1, b1⟩ := k S.heap q ce f1' f2' ⟨Nat.le_trans hS.1 f1', fun q h1 h2 => (f2' q (Nat.lt_of_lt_of_le h1 hS.1)).trans (hS.2.1 q h1 h2), hS.2.2⟩ hce hv hcl' S rfl X6
  exact ⟨t, st t a1, b1⟩
/-- from the machine's note that NullPointerException is thrown here -/
def vx_NoteN (p : Program) (l : Launch) (e : Env) (R : Room) (s : State) (m : MethodId) (args : Array Value) (below : List Frame) (meth : Method) (c : Code) (H : Heap) (locs : List Loc) (cells slots : Nat) (Q : State → Prop) (g : JFrame) : Prop :=
  ∀ T : State, T.heap = H → Stand p l e R s m args below meth c T locs cells slots → ∃ t, Steps p.tables e below ((T.setTop g).pushFrame (.throwNew "java/lang/NullPointerException" none none)) t ∧ Q t
theorem vx_npe {pc : Nat} {ls : Array Slot} {rest : List Value} {Q : State → Prop} (hexec : p.tables.exec = Jvm.exec) (hl : l.stackTraces = false) {nb : Nat} {A : Nat → Prop}
    (hat : ∀ w ∈ vx_atN nb, w.before args s = true) (hgood : ∀ w ∈ vx_atN nb, vx_ot w = true)
    (hU : vx_Zq Bundle.tN "UNASSIGNED_STACK" Bundle.steD A s s.heap) (hN : vx_Zq Bundle.tN "SUPPRESSED_SENTINEL" Bundle.listD A s s.heap) (hS : va_S A s.heap H locs) (hsize : ls.size = c.maxLocals)
    (hRframes : 7 < R.frames) (hRlocals : (rest.map fun v => v.category).sum + 10240 ≤ R.locals) (hRcells : cells + 1 ≤ R.cells) (hRslots : slots + nb ≤ R.slots) (hlocks : meth.locks = false)
    (k : ∀ (H1 : Heap) (q9 : Addr) (ce : Cell), H.size ≤ H1.size → (∀ q : Nat, q < H.size → H1[q]? = H[q]?) → va_S A s.heap H1 locs → H1[q9]? = some ce → ce.vm = .none → s.vm.findClass "java/lang/NullPointerException" = some ce.cls → vx_W p l e R s m args below meth c H1 locs (cells + 1) (slots + nb) Q (F0 m pc ls rest) q9) :
    vx_NoteN p l e R s m args below meth c H locs cells slots Q (F0 m pc ls rest) := by
  intro T hT X
  have htr : e.platform.stackTraces = false := (show e.platform.stackTraces = l.stackTraces by rw [X.admits.platform]).trans hl
  have Y := vx_rebase X (R' := { frames := R.frames, locals := R.locals, cells := 1, slots := nb }) (Nat.le_refl _) (Nat.le_refl _) hRcells hRslots
  have hhp : ((T.setVm s.vm).setFrames (.invoking m args :: below)).heap = H := hT
  have hW0 : s.WarmedH ((T.setVm s.vm).setFrames (.invoking m args :: below)).vm := State.WarmedH.refl s
  have hat' : ∀ w ∈ vx_atN nb, w.before args ((T.setVm s.vm).setFrames (.invoking m args :: below)) = true := fun w hw => vx_ot_at hW0 rfl (hgood w hw) (hat w hw)
  have hU' : vx_Zq Bundle.tN "UNASSIGNED_STACK" Bundle.steD A ((T.setVm s.vm).setFrames (.invoking m args :: below)) ((T.setVm s.vm).setFrames (.invoking m args :: below)).heap := by rw [hhp]; exact vx_Zq.moved hW0.alike (hU.kept hS.2.1)
  have hN' : vx_Zq Bundle.tN "SUPPRESSED_SENTINEL" Bundle.listD A ((T.setVm s.vm).setFrames (.invoking m args :: below)) ((T.setVm s.vm).setFrames (.invoking m args :: below)).heap := by rw [hhp]; exact vx_Zq.moved hW0.alike (hN.kept hS.2.1)
  obtain ⟨S, q, ce, st, Z, hce, hcl', hv⟩ := vx_npeAt Y hexec htr (n := nb) (vx_own hat' (vx_isRefq hU'.1) (vx_isRefq hN'.1) hU'.2.word hN'.2.word) (fun x hx => nomatch hx)
    (g := F0 m pc ls rest) rfl hsize hRframes (by show 2 * 0 + (rest.map fun v => v.category).sum + 10240 ≤ R.locals; omega) (by show 0 + 1 ≤ 1; omega) (by show 0 + nb ≤ nb; omega) hlocks
  obtain ⟨f1, f2⟩ := vx_frame Z.same
  have f1' : H.size ≤ S.heap.size := by rw [← hT]; exact f1
  have f2' : ∀ q : Nat, q < H.size → S.heap[q]? = H[q]? := fun q hq => by
    rw [← hT]
    exact f2 q (by rw [← hT] at hq; exact hq) (fun z hz => nomatch hz)
  have X5 := vx_back9 X Y Z
  have X6 : Stand p l e R s m args below meth c S locs (cells + 1) (slots + nb) := { X5 with same := X5.same.mono (by omega) (by omega) }
  obtain ⟨t, a1, b1⟩ := k S.heap q ce f1' f2' ⟨Nat.le_trans hS.1 f1', fun q h1 h2 => (f2' q (Nat.lt_of_lt_of_le h1 hS.1)).trans (hS.2.1 q h1 h2), hS.2.2⟩ hce hv hcl' S rfl X6
  exact ⟨t, st t a1, b1⟩
variable {Q : State → Prop} {cc : ByteArray} {pc : Nat} {ls : Array Slot} {rest : List Value}
theorem vx_idivZ (hexec : p.tables.exec = Jvm.exec) (hb : c.code = cc) {a b : Int32} (h0 : b = 0) (d : decode cc pc = .ok (.idiv, 1)) (k : vx_Note p l e R s m args below meth c H locs cells slots Q (F0 m pc ls rest) "java/lang/ArithmeticException" "/ by zero") :
    W p l e R s m args below meth c H locs cells slots Q (F0 m pc ls (.int b :: .int a :: rest)) := by
  intro T hT X
  obtain ⟨t, st, q⟩ := k T hT X
  exact ⟨t, X.idivZero hexec (g := F0 m pc ls (.int b :: .int a :: rest)) rfl (a := a) (rest := rest) (by rw [h0]) (by rw [hb]; exact d) t st, q⟩
theorem vx_iremZ (hexec : p.tables.exec = Jvm.exec) (hb : c.code = cc) {a b : Int32} (h0 : b = 0) (d : decode cc pc = .ok (.irem, 1)) (k : vx_Note p l e R s m args below meth c H locs cells slots Q (F0 m pc ls rest) "java/lang/ArithmeticException" "/ by zero") :
    W p l e R s m args below meth c H locs cells slots Q (F0 m pc ls (.int b :: .int a :: rest)) := by
  intro T hT X
  obtain ⟨t, st, q⟩ := k T hT X
  exact ⟨t, X.iremZero hexec (g := F0 m pc ls (.int b :: .int a :: rest)) rfl (a := a) (rest := rest) (by rw [h0]) (by rw [hb]; exact d) t st, q⟩
theorem vx_ldivZ (hexec : p.tables.exec = Jvm.exec) (hb : c.code = cc) {a b : Int64} (h0 : b = 0) (d : decode cc pc = .ok (.ldiv, 1)) (k : vx_Note p l e R s m args below meth c H locs cells slots Q (F0 m pc ls rest) "java/lang/ArithmeticException" "/ by zero") :
    W p l e R s m args below meth c H locs cells slots Q (F0 m pc ls (.long b :: .long a :: rest)) := by
  intro T hT X
  obtain ⟨t, st, q⟩ := k T hT X
  exact ⟨t, X.ldivZero hexec (g := F0 m pc ls (.long b :: .long a :: rest)) rfl (a := a) (rest := rest) (by rw [h0]) (by rw [hb]; exact d) t st, q⟩
theorem vx_lremZ (hexec : p.tables.exec = Jvm.exec) (hb : c.code = cc) {a b : Int64} (h0 : b = 0) (d : decode cc pc = .ok (.lrem, 1)) (k : vx_Note p l e R s m args below meth c H locs cells slots Q (F0 m pc ls rest) "java/lang/ArithmeticException" "/ by zero") :
    W p l e R s m args below meth c H locs cells slots Q (F0 m pc ls (.long b :: .long a :: rest)) := by
  intro T hT X
  obtain ⟨t, st, q⟩ := k T hT X
  exact ⟨t, X.lremZero hexec (g := F0 m pc ls (.long b :: .long a :: rest)) rfl (a := a) (rest := rest) (by rw [h0]) (by rw [hb]; exact d) t st, q⟩
theorem vx_ialdZ {D : va_G} {cl : List vw_C} {ws : va_W} {tys : List (ClassId × FieldType)} {a : Nat} (hexec : p.tables.exec = Jvm.exec) (hb : c.code = cc) (hK : va_K D cl tys s) (hP : va_P D cl ws H) (q0 t0 : Nat) {cA : ClassId} {n : Nat} {f : Nat → Int32} (ha : ws[q0]? = some (a, .inl (cA, n, .inl f))) (ht : tys[t0]? = some (cA, .int)) {i : Int32} (hout : ¬ vp_in i n) (hdg : decode cc pc = .ok (.iaload, 1))
    (k : ∀ tx : String, tx = (toString "Index " ++ toString i ++ toString " out of bounds for length " ++ toString n : String) → vx_Note p l e R s m args below meth c H locs cells slots Q (F0 m pc ls rest) "java/lang/ArrayIndexOutOfBoundsException" tx) : W p l e R s m args below meth c H locs cells slots Q (F0 m pc ls (.int i :: .ref a :: rest)) := by
  intro T hT X
  obtain ⟨t, st, q⟩ := k _ rfl T hT X
  refine ⟨t, ?_, q⟩
  have h1 := X.ialoadOut hexec (by rw [hT]; exact hP q0 _ ha) ((hK.2 t0 _ ht).1 n (fun j => .int (f j))) (j := i) (by show (i < 0 ∨ (arrV _ _ _).slots.size ≤ _); rw [arrV_size]; exact Classical.byContradiction hout) (g := F0 m pc ls (.int i :: .ref a :: rest)) rfl (rest := rest) rfl (by rw [hb]; exact hdg) t
  simp only [arrV_size] at h1
  exact h1 st
theorem vx_iastZ {D : va_G} {cl : List vw_C} {ws : va_W} {tys : List (ClassId × FieldType)} {a : Nat} (hexec : p.tables.exec = Jvm.exec) (hb : c.code = cc) (hK : va_K D cl tys s) (hP : va_P D cl ws H) (q0 t0 : Nat) {cA : ClassId} {n : Nat} {f : Nat → Int32} (ha : ws[q0]? = some (a, .inl (cA, n, .inl f))) (ht : tys[t0]? = some (cA, .int)) {i : Int32} {x : Int32} (hout : ¬ vp_in i n) (hdg : decode cc pc = .ok (.iastore, 1))
    (k : ∀ tx : String, tx = (toString "Index " ++ toString i ++ toString " out of bounds for length " ++ toString n : String) → vx_Note p l e R s m args below meth c H locs cells slots Q (F0 m pc ls rest) "java/lang/ArrayIndexOutOfBoundsException" tx) : W p l e R s m args below meth c H locs cells slots Q (F0 m pc ls (.int x :: .int i :: .ref a :: rest)) := by
  intro T hT X
  obtain ⟨t, st, q⟩ := k _ rfl T hT X
  refine ⟨t, ?_, q⟩
  have h1 := X.iastoreOut hexec (by rw [hT]; exact hP q0 _ ha) ((hK.2 t0 _ ht).1 n (fun j => .int (f j))) (j := i) (by show (i < 0 ∨ (arrV _ _ _).slots.size ≤ _); rw [arrV_size]; exact Classical.byContradiction hout) (g := F0 m pc ls (.int x :: .int i :: .ref a :: rest)) rfl (rest := rest) rfl (by rw [hb]; exact hdg) t
  simp only [arrV_size] at h1
  exact h1 st
theorem vx_baldZ {D : va_G} {cl : List vw_C} {ws : va_W} {tys : List (ClassId × FieldType)} {a : Nat} (hexec : p.tables.exec = Jvm.exec) (hb : c.code = cc) (hK : va_K D cl tys s) (hP : va_P D cl ws H) (q0 t0 : Nat) {cA : ClassId} {n : Nat} {f : Nat → Int32} (ha : ws[q0]? = some (a, .inl (cA, n, .inl f))) (ht : tys[t0]? = some (cA, .byte)) {i : Int32} (hout : ¬ vp_in i n) (hdg : decode cc pc = .ok (.baload, 1))
    (k : ∀ tx : String, tx = (toString "Index " ++ toString i ++ toString " out of bounds for length " ++ toString n : String) → vx_Note p l e R s m args below meth c H locs cells slots Q (F0 m pc ls rest) "java/lang/ArrayIndexOutOfBoundsException" tx) : W p l e R s m args below meth c H locs cells slots Q (F0 m pc ls (.int i :: .ref a :: rest)) := by
  intro T hT X
  obtain ⟨t, st, q⟩ := k _ rfl T hT X
  refine ⟨t, ?_, q⟩
  have h1 := X.baloadOut hexec (by rw [hT]; exact hP q0 _ ha) ((hK.2 t0 _ ht).1 n (fun j => .int (f j))) (j := i) (by show (i < 0 ∨ (arrV _ _ _).slots.size ≤ _); rw [arrV_size]; exact Classical.byContradiction hout) (g := F0 m pc ls (.int i :: .ref a :: rest)) rfl (rest := rest) rfl (by rw [hb]; exact hdg) t
  simp only [arrV_size] at h1
  exact h1 st
theorem vx_bastZ {D : va_G} {cl : List vw_C} {ws : va_W} {tys : List (ClassId × FieldType)} {a : Nat} (hexec : p.tables.exec = Jvm.exec) (hb : c.code = cc) (hK : va_K D cl tys s) (hP : va_P D cl ws H) (q0 t0 : Nat) {cA : ClassId} {n : Nat} {f : Nat → Int32} (ha : ws[q0]? = some (a, .inl (cA, n, .inl f))) (ht : tys[t0]? = some (cA, .byte)) {i : Int32} {x : Int32} (hout : ¬ vp_in i n) (hdg : decode cc pc = .ok (.bastore, 1))
    (k : ∀ tx : String, tx = (toString "Index " ++ toString i ++ toString " out of bounds for length " ++ toString n : String) → vx_Note p l e R s m args below meth c H locs cells slots Q (F0 m pc ls rest) "java/lang/ArrayIndexOutOfBoundsException" tx) : W p l e R s m args below meth c H locs cells slots Q (F0 m pc ls (.int x :: .int i :: .ref a :: rest)) := by
  intro T hT X
  obtain ⟨t, st, q⟩ := k _ rfl T hT X
  refine ⟨t, ?_, q⟩
  have h1 := X.bastoreOut hexec (by rw [hT]; exact hP q0 _ ha) ((hK.2 t0 _ ht).1 n (fun j => .int (f j))) (j := i) (by show (i < 0 ∨ (arrV _ _ _).slots.size ≤ _); rw [arrV_size]; exact Classical.byContradiction hout) (g := F0 m pc ls (.int x :: .int i :: .ref a :: rest)) rfl (rest := rest) rfl (by rw [hb]; exact hdg) t
  simp only [arrV_size] at h1
  exact h1 st
theorem vx_zaldZ {D : va_G} {cl : List vw_C} {ws : va_W} {tys : List (ClassId × FieldType)} {a : Nat} (hexec : p.tables.exec = Jvm.exec) (hb : c.code = cc) (hK : va_K D cl tys s) (hP : va_P D cl ws H) (q0 t0 : Nat) {cA : ClassId} {n : Nat} {f : Nat → Int32} (ha : ws[q0]? = some (a, .inl (cA, n, .inl f))) (ht : tys[t0]? = some (cA, .boolean)) {i : Int32} (hout : ¬ vp_in i n) (hdg : decode cc pc = .ok (.baload, 1))
    (k : ∀ tx : String, tx = (toString "Index " ++ toString i ++ toString " out of bounds for length " ++ toString n : String) → vx_Note p l e R s m args below meth c H locs cells slots Q (F0 m pc ls rest) "java/lang/ArrayIndexOutOfBoundsException" tx) : W p l e R s m args below meth c H locs cells slots Q (F0 m pc ls (.int i :: .ref a :: rest)) := by
  intro T hT X
  obtain ⟨t, st, q⟩ := k _ rfl T hT X
  refine ⟨t, ?_, q⟩
  have h1 := X.baloadOut hexec (by rw [hT]; exact hP q0 _ ha) ((hK.2 t0 _ ht).1 n (fun j => .int (f j))) (j := i) (by show (i < 0 ∨ (arrV _ _ _).slots.size ≤ _); rw [arrV_size]; exact Classical.byContradiction hout) (g := F0 m pc ls (.int i :: .ref a :: rest)) rfl (rest := rest) rfl (by rw [hb]; exact hdg) t
  simp only [arrV_size] at h1
  exact h1 st
theorem vx_zastZ {D : va_G} {cl : List vw_C} {ws : va_W} {tys : List (ClassId × FieldType)} {a : Nat} (hexec : p.tables.exec = Jvm.exec) (hb : c.code = cc) (hK : va_K D cl tys s) (hP : va_P D cl ws H) (q0 t0 : Nat) {cA : ClassId} {n : Nat} {f : Nat → Int32} (ha : ws[q0]? = some (a, .inl (cA, n, .inl f))) (ht : tys[t0]? = some (cA, .boolean)) {i : Int32} {x : Int32} (hout : ¬ vp_in i n) (hdg : decode cc pc = .ok (.bastore, 1))
    (k : ∀ tx : String, tx = (toString "Index " ++ toString i ++ toString " out of bounds for length " ++ toString n : String) → vx_Note p l e R s m args below meth c H locs cells slots Q (F0 m pc ls rest) "java/lang/ArrayIndexOutOfBoundsException" tx) : W p l e R s m args below meth c H locs cells slots Q (F0 m pc ls (.int x :: .int i :: .ref a :: rest)) := by
  intro T hT X
  obtain ⟨t, st, q⟩ := k _ rfl T hT X
  refine ⟨t, ?_, q⟩
  have h1 := X.bastoreOut hexec (by rw [hT]; exact hP q0 _ ha) ((hK.2 t0 _ ht).1 n (fun j => .int (f j))) (j := i) (by show (i < 0 ∨ (arrV _ _ _).slots.size ≤ _); rw [arrV_size]; exact Classical.byContradiction hout) (g := F0 m pc ls (.int x :: .int i :: .ref a :: rest)) rfl (rest := rest) rfl (by rw [hb]; exact hdg) t
  simp only [arrV_size] at h1
  exact h1 st
theorem vx_caldZ {D : va_G} {cl : List vw_C} {ws : va_W} {tys : List (ClassId × FieldType)} {a : Nat} (hexec : p.tables.exec = Jvm.exec) (hb : c.code = cc) (hK : va_K D cl tys s) (hP : va_P D cl ws H) (q0 t0 : Nat) {cA : ClassId} {n : Nat} {f : Nat → Int32} (ha : ws[q0]? = some (a, .inl (cA, n, .inl f))) (ht : tys[t0]? = some (cA, .char)) {i : Int32} (hout : ¬ vp_in i n) (hdg : decode cc pc = .ok (.caload, 1))
    (k : ∀ tx : String, tx = (toString "Index " ++ toString i ++ toString " out of bounds for length " ++ toString n : String) → vx_Note p l e R s m args below meth c H locs cells slots Q (F0 m pc ls rest) "java/lang/ArrayIndexOutOfBoundsException" tx) : W p l e R s m args below meth c H locs cells slots Q (F0 m pc ls (.int i :: .ref a :: rest)) := by
  intro T hT X
  obtain ⟨t, st, q⟩ := k _ rfl T hT X
  refine ⟨t, ?_, q⟩
  have h1 := X.caloadOut hexec (by rw [hT]; exact hP q0 _ ha) ((hK.2 t0 _ ht).1 n (fun j => .int (f j))) (j := i) (by show (i < 0 ∨ (arrV _ _ _).slots.size ≤ _); rw [arrV_size]; exact Classical.byContradiction hout) (g := F0 m pc ls (.int i :: .ref a :: rest)) rfl (rest := rest) rfl (by rw [hb]; exact hdg) t
  simp only [arrV_size] at h1
  exact h1 st
theorem vx_castZ {D : va_G} {cl : List vw_C} {ws : va_W} {tys : List (ClassId × FieldType)} {a : Nat} (hexec : p.tables.exec = Jvm.exec) (hb : c.code = cc) (hK : va_K D cl tys s) (hP : va_P D cl ws H) (q0 t0 : Nat) {cA : ClassId} {n : Nat} {f : Nat → Int32} (ha : ws[q0]? = some (a, .inl (cA, n, .inl f))) (ht : tys[t0]? = some (cA, .char)) {i : Int32} {x : Int32} (hout : ¬ vp_in i n) (hdg : decode cc pc = .ok (.castore, 1))
    (k : ∀ tx : String, tx = (toString "Index " ++ toString i ++ toString " out of bounds for length " ++ toString n : String) → vx_Note p l e R s m args below meth c H locs cells slots Q (F0 m pc ls rest) "java/lang/ArrayIndexOutOfBoundsException" tx) : W p l e R s m args below meth c H locs cells slots Q (F0 m pc ls (.int x :: .int i :: .ref a :: rest)) := by
  intro T hT X
  obtain ⟨t, st, q⟩ := k _ rfl T hT X
  refine ⟨t, ?_, q⟩
  have h1 := X.castoreOut hexec (by rw [hT]; exact hP q0 _ ha) ((hK.2 t0 _ ht).1 n (fun j => .int (f j))) (j := i) (by show (i < 0 ∨ (arrV _ _ _).slots.size ≤ _); rw [arrV_size]; exact Classical.byContradiction hout) (g := F0 m pc ls (.int x :: .int i :: .ref a :: rest)) rfl (rest := rest) rfl (by rw [hb]; exact hdg) t
  simp only [arrV_size] at h1
  exact h1 st
theorem vx_saldZ {D : va_G} {cl : List vw_C} {ws : va_W} {tys : List (ClassId × FieldType)} {a : Nat} (hexec : p.tables.exec = Jvm.exec) (hb : c.code = cc) (hK : va_K D cl tys s) (hP : va_P D cl ws H) (q0 t0 : Nat) {cA : ClassId} {n : Nat} {f : Nat → Int32} (ha : ws[q0]? = some (a, .inl (cA, n, .inl f))) (ht : tys[t0]? = some (cA, .short)) {i : Int32} (hout : ¬ vp_in i n) (hdg : decode cc pc = .ok (.saload, 1))
    (k : ∀ tx : String, tx = (toString "Index " ++ toString i ++ toString " out of bounds for length " ++ toString n : String) → vx_Note p l e R s m args below meth c H locs cells slots Q (F0 m pc ls rest) "java/lang/ArrayIndexOutOfBoundsException" tx) : W p l e R s m args below meth c H locs cells slots Q (F0 m pc ls (.int i :: .ref a :: rest)) := by
  intro T hT X
  obtain ⟨t, st, q⟩ := k _ rfl T hT X
  refine ⟨t, ?_, q⟩
  have h1 := X.saloadOut hexec (by rw [hT]; exact hP q0 _ ha) ((hK.2 t0 _ ht).1 n (fun j => .int (f j))) (j := i) (by show (i < 0 ∨ (arrV _ _ _).slots.size ≤ _); rw [arrV_size]; exact Classical.byContradiction hout) (g := F0 m pc ls (.int i :: .ref a :: rest)) rfl (rest := rest) rfl (by rw [hb]; exact hdg) t
  simp only [arrV_size] at h1
  exact h1 st
theorem vx_sastZ {D : va_G} {cl : List vw_C} {ws : va_W} {tys : List (ClassId × FieldType)} {a : Nat} (hexec : p.tables.exec = Jvm.exec) (hb : c.code = cc) (hK : va_K D cl tys s) (hP : va_P D cl ws H) (q0 t0 : Nat) {cA : ClassId} {n : Nat} {f : Nat → Int32} (ha : ws[q0]? = some (a, .inl (cA, n, .inl f))) (ht : tys[t0]? = some (cA, .short)) {i : Int32} {x : Int32} (hout : ¬ vp_in i n) (hdg : decode cc pc = .ok (.sastore, 1))
    (k : ∀ tx : String, tx = (toString "Index " ++ toString i ++ toString " out of bounds for length " ++ toString n : String) → vx_Note p l e R s m args below meth c H locs cells slots Q (F0 m pc ls rest) "java/lang/ArrayIndexOutOfBoundsException" tx) : W p l e R s m args below meth c H locs cells slots Q (F0 m pc ls (.int x :: .int i :: .ref a :: rest)) := by
  intro T hT X
  obtain ⟨t, st, q⟩ := k _ rfl T hT X
  refine ⟨t, ?_, q⟩
  have h1 := X.sastoreOut hexec (by rw [hT]; exact hP q0 _ ha) ((hK.2 t0 _ ht).1 n (fun j => .int (f j))) (j := i) (by show (i < 0 ∨ (arrV _ _ _).slots.size ≤ _); rw [arrV_size]; exact Classical.byContradiction hout) (g := F0 m pc ls (.int x :: .int i :: .ref a :: rest)) rfl (rest := rest) rfl (by rw [hb]; exact hdg) t
  simp only [arrV_size] at h1
  exact h1 st
theorem vx_laldZ {D : va_G} {cl : List vw_C} {ws : va_W} {tys : List (ClassId × FieldType)} {a : Nat} (hexec : p.tables.exec = Jvm.exec) (hb : c.code = cc) (hK : va_K D cl tys s) (hP : va_P D cl ws H) (q0 t0 : Nat) {cA : ClassId} {n : Nat} {f : Nat → Int64} (ha : ws[q0]? = some (a, .inl (cA, n, .inr (.inl f)))) (ht : tys[t0]? = some (cA, .long)) {i : Int32} (hout : ¬ vp_in i n) (hdg : decode cc pc = .ok (.laload, 1))
    (k : ∀ tx : String, tx = (toString "Index " ++ toString i ++ toString " out of bounds for length " ++ toString n : String) → vx_Note p l e R s m args below meth c H locs cells slots Q (F0 m pc ls rest) "java/lang/ArrayIndexOutOfBoundsException" tx) : W p l e R s m args below meth c H locs cells slots Q (F0 m pc ls (.int i :: .ref a :: rest)) := by
  intro T hT X
  obtain ⟨t, st, q⟩ := k _ rfl T hT X
  refine ⟨t, ?_, q⟩
  have h1 := X.laloadOut hexec (by rw [hT]; exact hP q0 _ ha) ((hK.2 t0 _ ht).1 n (fun j => .long (f j))) (j := i) (by show (i < 0 ∨ (arrV _ _ _).slots.size ≤ _); rw [arrV_size]; exact Classical.byContradiction hout) (g := F0 m pc ls (.int i :: .ref a :: rest)) rfl (rest := rest) rfl (by rw [hb]; exact hdg) t
  simp only [arrV_size] at h1
  exact h1 st
theorem vx_lastZ {D : va_G} {cl : List vw_C} {ws : va_W} {tys : List (ClassId × FieldType)} {a : Nat} (hexec : p.tables.exec = Jvm.exec) (hb : c.code = cc) (hK : va_K D cl tys s) (hP : va_P D cl ws H) (q0 t0 : Nat) {cA : ClassId} {n : Nat} {f : Nat → Int64} (ha : ws[q0]? = some (a, .inl (cA, n, .inr (.inl f)))) (ht : tys[t0]? = some (cA, .long)) {i : Int32} {x : Int64} (hout : ¬ vp_in i n) (hdg : decode cc pc = .ok (.lastore, 1))
    (k : ∀ tx : String, tx = (toString "Index " ++ toString i ++ toString " out of bounds for length " ++ toString n : String) → vx_Note p l e R s m args below meth c H locs cells slots Q (F0 m pc ls rest) "java/lang/ArrayIndexOutOfBoundsException" tx) : W p l e R s m args below meth c H locs cells slots Q (F0 m pc ls (.long x :: .int i :: .ref a :: rest)) := by
  intro T hT X
  obtain ⟨t, st, q⟩ := k _ rfl T hT X
  refine ⟨t, ?_, q⟩
  have h1 := X.lastoreOut hexec (by rw [hT]; exact hP q0 _ ha) ((hK.2 t0 _ ht).1 n (fun j => .long (f j))) (j := i) (by show (i < 0 ∨ (arrV _ _ _).slots.size ≤ _); rw [arrV_size]; exact Classical.byContradiction hout) (g := F0 m pc ls (.long x :: .int i :: .ref a :: rest)) rfl (rest := rest) rfl (by rw [hb]; exact hdg) t
  simp only [arrV_size] at h1
  exact h1 st
theorem vx_faldZ {D : va_G} {cl : List vw_C} {ws : va_W} {tys : List (ClassId × FieldType)} {a : Nat} (hexec : p.tables.exec = Jvm.exec) (hb : c.code = cc) (hK : va_K D cl tys s) (hP : va_P D cl ws H) (q0 t0 : Nat) {cA : ClassId} {n : Nat} {f : Nat → UInt32} (ha : ws[q0]? = some (a, .inl (cA, n, .inr (.inr (.inl f))))) (ht : tys[t0]? = some (cA, .float)) {i : Int32} (hout : ¬ vp_in i n) (hdg : decode cc pc = .ok (.faload, 1))
    (k : ∀ tx : String, tx = (toString "Index " ++ toString i ++ toString " out of bounds for length " ++ toString n : String) → vx_Note p l e R s m args below meth c H locs cells slots Q (F0 m pc ls rest) "java/lang/ArrayIndexOutOfBoundsException" tx) : W p l e R s m args below meth c H locs cells slots Q (F0 m pc ls (.int i :: .ref a :: rest)) := by
  intro T hT X
  obtain ⟨t, st, q⟩ := k _ rfl T hT X
  refine ⟨t, ?_, q⟩
  have h1 := X.faloadOut hexec (by rw [hT]; exact hP q0 _ ha) ((hK.2 t0 _ ht).1 n (fun j => .float (f j))) (j := i) (by show (i < 0 ∨ (arrV _ _ _).slots.size ≤ _); rw [arrV_size]; exact Classical.byContradiction hout) (g := F0 m pc ls (.int i :: .ref a :: rest)) rfl (rest := rest) rfl (by rw [hb]; exact hdg) t
  simp only [arrV_size] at h1
  exact h1 st
theorem vx_fastZ {D : va_G} {cl : List vw_C} {ws : va_W} {tys : List (ClassId × FieldType)} {a : Nat} (hexec : p.tables.exec = Jvm.exec) (hb : c.code = cc) (hK : va_K D cl tys s) (hP : va_P D cl ws H) (q0 t0 : Nat) {cA : ClassId} {n : Nat} {f : Nat → UInt32} (ha : ws[q0]? = some (a, .inl (cA, n, .inr (.inr (.inl f))))) (ht : tys[t0]? = some (cA, .float)) {i : Int32} {x : UInt32} (hout : ¬ vp_in i n) (hdg : decode cc pc = .ok (.fastore, 1))
    (k : ∀ tx : String, tx = (toString "Index " ++ toString i ++ toString " out of bounds for length " ++ toString n : String) → vx_Note p l e R s m args below meth c H locs cells slots Q (F0 m pc ls rest) "java/lang/ArrayIndexOutOfBoundsException" tx) : W p l e R s m args below meth c H locs cells slots Q (F0 m pc ls (.float x :: .int i :: .ref a :: rest)) := by
  intro T hT X
  obtain ⟨t, st, q⟩ := k _ rfl T hT X
  refine ⟨t, ?_, q⟩
  have h1 := X.fastoreOut hexec (by rw [hT]; exact hP q0 _ ha) ((hK.2 t0 _ ht).1 n (fun j => .float (f j))) (j := i) (by show (i < 0 ∨ (arrV _ _ _).slots.size ≤ _); rw [arrV_size]; exact Classical.byContradiction hout) (g := F0 m pc ls (.float x :: .int i :: .ref a :: rest)) rfl (rest := rest) rfl (by rw [hb]; exact hdg) t
  simp only [arrV_size] at h1
  exact h1 st
theorem vx_daldZ {D : va_G} {cl : List vw_C} {ws : va_W} {tys : List (ClassId × FieldType)} {a : Nat} (hexec : p.tables.exec = Jvm.exec) (hb : c.code = cc) (hK : va_K D cl tys s) (hP : va_P D cl ws H) (q0 t0 : Nat) {cA : ClassId} {n : Nat} {f : Nat → UInt64} (ha : ws[q0]? = some (a, .inl (cA, n, .inr (.inr (.inr (.inl f)))))) (ht : tys[t0]? = some (cA, .double)) {i : Int32} (hout : ¬ vp_in i n) (hdg : decode cc pc = .ok (.daload, 1))
    (k : ∀ tx : String, tx = (toString "Index " ++ toString i ++ toString " out of bounds for length " ++ toString n : String) → vx_Note p l e R s m args below meth c H locs cells slots Q (F0 m pc ls rest) "java/lang/ArrayIndexOutOfBoundsException" tx) : W p l e R s m args below meth c H locs cells slots Q (F0 m pc ls (.int i :: .ref a :: rest)) := by
  intro T hT X
  obtain ⟨t, st, q⟩ := k _ rfl T hT X
  refine ⟨t, ?_, q⟩
  have h1 := X.daloadOut hexec (by rw [hT]; exact hP q0 _ ha) ((hK.2 t0 _ ht).1 n (fun j => .double (f j))) (j := i) (by show (i < 0 ∨ (arrV _ _ _).slots.size ≤ _); rw [arrV_size]; exact Classical.byContradiction hout) (g := F0 m pc ls (.int i :: .ref a :: rest)) rfl (rest := rest) rfl (by rw [hb]; exact hdg) t
  simp only [arrV_size] at h1
  exact h1 st
theorem vx_dastZ {D : va_G} {cl : List vw_C} {ws : va_W} {tys : List (ClassId × FieldType)} {a : Nat} (hexec : p.tables.exec = Jvm.exec) (hb : c.code = cc) (hK : va_K D cl tys s) (hP : va_P D cl ws H) (q0 t0 : Nat) {cA : ClassId} {n : Nat} {f : Nat → UInt64} (ha : ws[q0]? = some (a, .inl (cA, n, .inr (.inr (.inr (.inl f)))))) (ht : tys[t0]? = some (cA, .double)) {i : Int32} {x : UInt64} (hout : ¬ vp_in i n) (hdg : decode cc pc = .ok (.dastore, 1))
    (k : ∀ tx : String, tx = (toString "Index " ++ toString i ++ toString " out of bounds for length " ++ toString n : String) → vx_Note p l e R s m args below meth c H locs cells slots Q (F0 m pc ls rest) "java/lang/ArrayIndexOutOfBoundsException" tx) : W p l e R s m args below meth c H locs cells slots Q (F0 m pc ls (.double x :: .int i :: .ref a :: rest)) := by
  intro T hT X
  obtain ⟨t, st, q⟩ := k _ rfl T hT X
  refine ⟨t, ?_, q⟩
  have h1 := X.dastoreOut hexec (by rw [hT]; exact hP q0 _ ha) ((hK.2 t0 _ ht).1 n (fun j => .double (f j))) (j := i) (by show (i < 0 ∨ (arrV _ _ _).slots.size ≤ _); rw [arrV_size]; exact Classical.byContradiction hout) (g := F0 m pc ls (.double x :: .int i :: .ref a :: rest)) rfl (rest := rest) rfl (by rw [hb]; exact hdg) t
  simp only [arrV_size] at h1
  exact h1 st
theorem vx_arraylengthN (hexec : p.tables.exec = Jvm.exec) (hb : c.code = cc) (hdg : decode cc pc = .ok (.arraylength, 1)) (k : vx_NoteN p l e R s m args below meth c H locs cells slots Q (F0 m pc ls rest)) : W p l e R s m args below meth c H locs cells slots Q (F0 m pc ls (.null :: rest)) := by
  intro T hT X
  obtain ⟨t, st, q⟩ := k T hT X
  exact ⟨t, X.arraylengthNull hexec (g := F0 m pc ls (.null :: rest)) rfl (rest := rest) rfl (by rw [hb]; exact hdg) t st, q⟩
theorem vx_ialoadN (hexec : p.tables.exec = Jvm.exec) (hb : c.code = cc) {i : Int32} (hdg : decode cc pc = .ok (.iaload, 1)) (k : vx_NoteN p l e R s m args below meth c H locs cells slots Q (F0 m pc ls rest)) : W p l e R s m args below meth c H locs cells slots Q (F0 m pc ls (.int i :: .null :: rest)) := by
  intro T hT X
  obtain ⟨t, st, q⟩ := k T hT X
  exact ⟨t, X.ialoadNull hexec (g := F0 m pc ls (.int i :: .null :: rest)) rfl (rest := rest) rfl (by rw [hb]; exact hdg) t st, q⟩
theorem vx_laloadN (hexec : p.tables.exec = Jvm.exec) (hb : c.code = cc) {i : Int32} (hdg : decode cc pc = .ok (.laload, 1)) (k : vx_NoteN p l e R s m args below meth c H locs cells slots Q (F0 m pc ls rest)) : W p l e R s m args below meth c H locs cells slots Q (F0 m pc ls (.int i :: .null :: rest)) := by
  intro T hT X
  obtain ⟨t, st, q⟩ := k T hT X
  exact ⟨t, X.laloadNull hexec (g := F0 m pc ls (.int i :: .null :: rest)) rfl (rest := rest) rfl (by rw [hb]; exact hdg) t st, q⟩
theorem vx_faloadN (hexec : p.tables.exec = Jvm.exec) (hb : c.code = cc) {i : Int32} (hdg : decode cc pc = .ok (.faload, 1)) (k : vx_NoteN p l e R s m args below meth c H locs cells slots Q (F0 m pc ls rest)) : W p l e R s m args below meth c H locs cells slots Q (F0 m pc ls (.int i :: .null :: rest)) := by
  intro T hT X
  obtain ⟨t, st, q⟩ := k T hT X
  exact ⟨t, X.faloadNull hexec (g := F0 m pc ls (.int i :: .null :: rest)) rfl (rest := rest) rfl (by rw [hb]; exact hdg) t st, q⟩
theorem vx_daloadN (hexec : p.tables.exec = Jvm.exec) (hb : c.code = cc) {i : Int32} (hdg : decode cc pc = .ok (.daload, 1)) (k : vx_NoteN p l e R s m args below meth c H locs cells slots Q (F0 m pc ls rest)) : W p l e R s m args below meth c H locs cells slots Q (F0 m pc ls (.int i :: .null :: rest)) := by
  intro T hT X
  obtain ⟨t, st, q⟩ := k T hT X
  exact ⟨t, X.daloadNull hexec (g := F0 m pc ls (.int i :: .null :: rest)) rfl (rest := rest) rfl (by rw [hb]; exact hdg) t st, q⟩
theorem vx_aaloadN (hexec : p.tables.exec = Jvm.exec) (hb : c.code = cc) {i : Int32} (hdg : decode cc pc = .ok (.aaload, 1)) (k : vx_NoteN p l e R s m args below meth c H locs cells slots Q (F0 m pc ls rest)) : W p l e R s m args below meth c H locs cells slots Q (F0 m pc ls (.int i :: .null :: rest)) := by
  intro T hT X
  obtain ⟨t, st, q⟩ := k T hT X
  exact ⟨t, X.aaloadNull hexec (g := F0 m pc ls (.int i :: .null :: rest)) rfl (rest := rest) rfl (by rw [hb]; exact hdg) t st, q⟩
theorem vx_baloadN (hexec : p.tables.exec = Jvm.exec) (hb : c.code = cc) {i : Int32} (hdg : decode cc pc = .ok (.baload, 1)) (k : vx_NoteN p l e R s m args below meth c H locs cells slots Q (F0 m pc ls rest)) : W p l e R s m args below meth c H locs cells slots Q (F0 m pc ls (.int i :: .null :: rest)) := by
  intro T hT X
  obtain ⟨t, st, q⟩ := k T hT X
  exact ⟨t, X.baloadNull hexec (g := F0 m pc ls (.int i :: .null :: rest)) rfl (rest := rest) rfl (by rw [hb]; exact hdg) t st, q⟩
theorem vx_caloadN (hexec : p.tables.exec = Jvm.exec) (hb : c.code = cc) {i : Int32} (hdg : decode cc pc = .ok (.caload, 1)) (k : vx_NoteN p l e R s m args below meth c H locs cells slots Q (F0 m pc ls rest)) : W p l e R s m args below meth c H locs cells slots Q (F0 m pc ls (.int i :: .null :: rest)) := by
  intro T hT X
  obtain ⟨t, st, q⟩ := k T hT X
  exact ⟨t, X.caloadNull hexec (g := F0 m pc ls (.int i :: .null :: rest)) rfl (rest := rest) rfl (by rw [hb]; exact hdg) t st, q⟩
theorem vx_saloadN (hexec : p.tables.exec = Jvm.exec) (hb : c.code = cc) {i : Int32} (hdg : decode cc pc = .ok (.saload, 1)) (k : vx_NoteN p l e R s m args below meth c H locs cells slots Q (F0 m pc ls rest)) : W p l e R s m args below meth c H locs cells slots Q (F0 m pc ls (.int i :: .null :: rest)) := by
  intro T hT X
  obtain ⟨t, st, q⟩ := k T hT X
  exact ⟨t, X.saloadNull hexec (g := F0 m pc ls (.int i :: .null :: rest)) rfl (rest := rest) rfl (by rw [hb]; exact hdg) t st, q⟩
theorem vx_iastoreN (hexec : p.tables.exec = Jvm.exec) (hb : c.code = cc) {x : Int32} {i : Int32} (hdg : decode cc pc = .ok (.iastore, 1)) (k : vx_NoteN p l e R s m args below meth c H locs cells slots Q (F0 m pc ls rest)) : W p l e R s m args below meth c H locs cells slots Q (F0 m pc ls (.int x :: .int i :: .null :: rest)) := by
  intro T hT X
  obtain ⟨t, st, q⟩ := k T hT X
  exact ⟨t, X.iastoreNull hexec (g := F0 m pc ls (.int x :: .int i :: .null :: rest)) rfl (rest := rest) rfl (by rw [hb]; exact hdg) t st, q⟩
theorem vx_lastoreN (hexec : p.tables.exec = Jvm.exec) (hb : c.code = cc) {x : Int64} {i : Int32} (hdg : decode cc pc = .ok (.lastore, 1)) (k : vx_NoteN p l e R s m args below meth c H locs cells slots Q (F0 m pc ls rest)) : W p l e R s m args below meth c H locs cells slots Q (F0 m pc ls (.long x :: .int i :: .null :: rest)) := by
  intro T hT X
  obtain ⟨t, st, q⟩ := k T hT X
  exact ⟨t, X.lastoreNull hexec (g := F0 m pc ls (.long x :: .int i :: .null :: rest)) rfl (rest := rest) rfl (by rw [hb]; exact hdg) t st, q⟩
theorem vx_fastoreN (hexec : p.tables.exec = Jvm.exec) (hb : c.code = cc) {x : UInt32} {i : Int32} (hdg : decode cc pc = .ok (.fastore, 1)) (k : vx_NoteN p l e R s m args below meth c H locs cells slots Q (F0 m pc ls rest)) : W p l e R s m args below meth c H locs cells slots Q (F0 m pc ls (.float x :: .int i :: .null :: rest)) := by
  intro T hT X
  obtain ⟨t, st, q⟩ := k T hT X
  exact ⟨t, X.fastoreNull hexec (g := F0 m pc ls (.float x :: .int i :: .null :: rest)) rfl (rest := rest) rfl (by rw [hb]; exact hdg) t st, q⟩
theorem vx_dastoreN (hexec : p.tables.exec = Jvm.exec) (hb : c.code = cc) {x : UInt64} {i : Int32} (hdg : decode cc pc = .ok (.dastore, 1)) (k : vx_NoteN p l e R s m args below meth c H locs cells slots Q (F0 m pc ls rest)) : W p l e R s m args below meth c H locs cells slots Q (F0 m pc ls (.double x :: .int i :: .null :: rest)) := by
  intro T hT X
  obtain ⟨t, st, q⟩ := k T hT X
  exact ⟨t, X.dastoreNull hexec (g := F0 m pc ls (.double x :: .int i :: .null :: rest)) rfl (rest := rest) rfl (by rw [hb]; exact hdg) t st, q⟩
theorem vx_bastoreN (hexec : p.tables.exec = Jvm.exec) (hb : c.code = cc) {x : Int32} {i : Int32} (hdg : decode cc pc = .ok (.bastore, 1)) (k : vx_NoteN p l e R s m args below meth c H locs cells slots Q (F0 m pc ls rest)) : W p l e R s m args below meth c H locs cells slots Q (F0 m pc ls (.int x :: .int i :: .null :: rest)) := by
  intro T hT X
  obtain ⟨t, st, q⟩ := k T hT X
  exact ⟨t, X.bastoreNull hexec (g := F0 m pc ls (.int x :: .int i :: .null :: rest)) rfl (rest := rest) rfl (by rw [hb]; exact hdg) t st, q⟩
theorem vx_castoreN (hexec : p.tables.exec = Jvm.exec) (hb : c.code = cc) {x : Int32} {i : Int32} (hdg : decode cc pc = .ok (.castore, 1)) (k : vx_NoteN p l e R s m args below meth c H locs cells slots Q (F0 m pc ls rest)) : W p l e R s m args below meth c H locs cells slots Q (F0 m pc ls (.int x :: .int i :: .null :: rest)) := by
  intro T hT X
  obtain ⟨t, st, q⟩ := k T hT X
  exact ⟨t, X.castoreNull hexec (g := F0 m pc ls (.int x :: .int i :: .null :: rest)) rfl (rest := rest) rfl (by rw [hb]; exact hdg) t st, q⟩
theorem vx_sastoreN (hexec : p.tables.exec = Jvm.exec) (hb : c.code = cc) {x : Int32} {i : Int32} (hdg : decode cc pc = .ok (.sastore, 1)) (k : vx_NoteN p l e R s m args below meth c H locs cells slots Q (F0 m pc ls rest)) : W p l e R s m args below meth c H locs cells slots Q (F0 m pc ls (.int x :: .int i :: .null :: rest)) := by
  intro T hT X
  obtain ⟨t, st, q⟩ := k T hT X
  exact ⟨t, X.sastoreNull hexec (g := F0 m pc ls (.int x :: .int i :: .null :: rest)) rfl (rest := rest) rfl (by rw [hb]; exact hdg) t st, q⟩
theorem vx_invokeN {own C : String} {index maxL : Nat} {y : MethodName} {bytes : ByteArray} {ret : Option FieldType} (hexec : p.tables.exec = Jvm.exec) (hb : c.code = cc) (hown : s.vm.findClass own = some m.cls) (hlink : (Cond.methodLink own index y).before args s = true) (hinst : (Cond.instanceMethod y).before args s = true) (hcode : (Cond.code y bytes maxL ret).before args s = true) (hsel : (Cond.selects C y y).before args s = true)
    (hx : y.cls ≠ "java/lang/invoke/MethodHandle" ∧ y.cls ≠ "java/lang/invoke/VarHandle") {As : List Value} (hlen : (parseMethodDescriptor y.desc).map (fun d => d.parameters.length) = some As.length) (hdg : decode cc pc = .ok (.invokevirtual index, 3))
    (k : vx_NoteN p l e R s m args below meth c H locs cells slots Q (F0 m pc ls rest)) {st0 : List Value} (hst : st0 = As.reverse ++ .null :: rest) : W p l e R s m args below meth c H locs cells slots Q (F0 m pc ls st0) := by
  intro T hT X
  obtain ⟨r0, r, hn, hrm, hstR, hsigR⟩ := va_Decl.of hinst hcode
  obtain ⟨c2, r2, m2, q1, q2, q3, q4, kP, hkP, hkPi⟩ := Cond.selects_spec hsel
  cases hn.symm.trans q3
  have hl9 : As.length = r.sig.parameters.length := by
    rw [hsigR] at hlen
    exact (Option.some.inj hlen).symm
  obtain ⟨vm', X1, st1⟩ := X.invokevirtualNull hexec hown hlink hn hrm hstR hkP hkPi hx (g := F0 m pc ls st0) rfl (argsL := As) (rest := rest) hl9 hst (by rw [hb]; exact hdg)
  obtain ⟨t, st, q⟩ := k (T.setVm vm') hT X1
  exact ⟨t, st1 t st, q⟩
theorem vx_newarrayZ {atype : ArrayType} (hexec : p.tables.exec = Jvm.exec) (hb : c.code = cc) {n : Int32} (h0 : n < 0) (hdg : decode cc pc = .ok (.newarray atype, 2)) (k : ∀ tx : String, tx = toString n → vx_Note p l e R s m args below meth c H locs cells slots Q (F0 m pc ls rest) "java/lang/NegativeArraySizeException" tx) : W p l e R s m args below meth c H locs cells slots Q (F0 m pc ls (.int n :: rest)) := by
  intro T hT X
  obtain ⟨t, st, q⟩ := k _ rfl T hT X
  exact ⟨t, X.newarrayNegative hexec (g := F0 m pc ls (.int n :: rest)) rfl h0 (rest := rest) rfl (by rw [hb]; exact hdg) t st, q⟩
end
end VXM
/-! ===== END ===== -/
/-! ===== BEGIN an exception as an object: made, kept, thrown later (no traces kept) ===== -/
section VXK
variable {p : Program} {l : Launch} {e : Env} {R : Room} {s : State} {m₀ : MethodId} {args : Array Value} {below : List Frame} {meth : Method} {c : Code} {W : State} {locs : List Loc} {cells slots : Nat}
set_option maxHeartbeats 1000000 in
theorem vx_ctorMadeS (X : Stand p l e R s m₀ args below meth c W locs cells slots) (hexec : p.tables.exec = Jvm.exec) (htr : e.platform.stackTraces = false) {own cls : String} {names : List String} {ic : Nat}
    (hown : s.vm.findClass own = some m₀.cls) (hcls : Bundle.fit cls = true) (hnames : ∀ n ∈ names, Bundle.fit n = true)
    (h : ∀ a ∈ Bundle.ownAtoms own ic cls names, a.before args s = true)
    (hlocs : ∀ x ∈ locs, ∀ cell, s.heap[x.base]? = some cell → cell.vm.isStatics = false)
    {a : Addr} {cX : ClassId} {kX : Class} (hfoundX : s.vm.findClass cls = some cX) (hkX : s.vm.classes[cX]? = some kX) (hcell : W.heap[a]? = some (freshCell cX kX)) (hnew : s.heap.size ≤ a)
    {msg : Value} (hmsg : msg.isRef = true)
    {g : JFrame} (hg : g.method = m₀) (hsize : g.locals.size = c.maxLocals) {rest : List Value} (hstack : g.stack = msg :: .ref a :: .ref a :: rest)
    (hd6 : decode c.code g.pc = .ok (.invokespecial ic, 3))
    (hRframes : names.length + 3 < R.frames) (hRlocals : 2 * g.monitorRoom + ((Value.ref a :: rest).map fun v => v.category).sum + (13 * (names.length + 1) + 42) ≤ R.locals) :
    ∃ (V : State) (ce : Cell) (L : List Loc), Stand p l e R s m₀ args below meth c (V.setCell a ce) (locs ++ L) cells slots ∧ (∀ y ∈ L, y.base = a) ∧ a < V.heap.size ∧ ce.cls = cX ∧ ce.vm = .none ∧
      ∀ target, Steps p.tables e below ((V.setCell a ce).setTop { g with stack := .ref a :: rest, pc := g.pc + 3 }) target → Steps p.tables e below (W.setTop g) target := by
  have howns : e.platform.frameOwnsMonitors = true := by rw [X.admits.platform]
  have hfin : e.platform.finalization = false := by rw [X.admits.platform]
  have hpl : e.platform.magicAccessors = ({} : Platform).magicAccessors := by rw [X.admits.platform]
  have a' : ∀ x, x ∈ Bundle.ownAtoms own ic cls names → x.holds args s none s [] = true := fun x hx => h x hx
  obtain ⟨T, Z0, L, -, Y⟩ := ThrowableC.of_atoms (args := args) howns hfin hpl (fun x hx => h x (by simp [Bundle.ownAtoms, hx]))
  obtain ⟨Z, M, LZ, LM, hnZ⟩ := Init0T.ofS_atoms (args := args) hpl L Y (fun x hx => h x (by simp [Bundle.ownAtoms, hx]))
  obtain ⟨P1, Ps, hlen, L1, hL, hP1m, hlink1, hlink⟩ := Bundle.chainS (args := args) hpl hnZ names cls hcls hnames (fun x hx => h x (by simp [Bundle.ownAtoms, hx]))
  have hfound : s.vm.findClass cls = some P1.m.cls := findClass_of_methodNamed hP1m
  cases Option.some.inj (hfoundX.symm.trans hfound)
  obtain ⟨c1, kX', hc1, hk, hord, -, -, hn6⟩ := Cond.instantiable_spec (a' (.instantiable cls 6) (by simp [Bundle.ownAtoms]))
  cases Option.some.inj (hc1.symm.trans hfound)
  cases Option.some.inj (hkX.symm.trans hk)
  have hsel0 : selectMethod e.platform s.vm P1.m.cls T.fill0 = .method T.fill0 := by
    obtain ⟨c2, r2, m2, q1, q2, q3, q4, -⟩ := Cond.selects_spec (a' (.selects cls Bundle.tFill0 Bundle.tFill0) (by simp [Bundle.ownAtoms]))
    cases Option.some.inj (q1.symm.trans hfound)
    cases Option.some.inj (q2.symm.trans (State.methodFound?_of_named Y.fill0 (by decide)))
    cases Option.some.inj (q3.symm.trans Y.fill0)
    rw [Launch.admits_selectMethod X.admits]; exact q4
  have hselF : selectMethod e.platform s.vm P1.m.cls T.fill = .method T.fill := by
    obtain ⟨c2, r2, m2, q1, q2, q3, q4, -⟩ := Cond.selects_spec (a' (.selects cls Bundle.tFill Bundle.tFill) (by simp [Bundle.ownAtoms]))
    cases Option.some.inj (q1.symm.trans hfound)
    cases Option.some.inj (q2.symm.trans (State.methodFound?_of_named Y.fill (by decide)))
    cases Option.some.inj (q3.symm.trans Y.fill)
    rw [Launch.admits_selectMethod X.admits]; exact q4
  obtain ⟨cellS0, hcS0, hiss⟩ := Y.statics
  obtain ⟨u0, hu0⟩ := Cond.staticRefV Y.unassigned L.unassignedStatic L.statics hcS0 hiss (a' (.isRef (.static Bundle.tN "UNASSIGNED_STACK" Bundle.steD)) (by simp [Bundle.ownAtoms]))
  obtain ⟨sen, hsen⟩ := Cond.staticRefV Y.sentinel L.sentinelStatic L.statics hcS0 hiss (a' (.isRef (.static Bundle.tN "SUPPRESSED_SENTINEL" Bundle.listD)) (by simp [Bundle.ownAtoms]))
  obtain ⟨ci198, i198, fB, hk198, hg198, ha198, hsB, -, hnB, htB, hffB⟩ := Cond.ownField (t := .object "java/lang/Object") Y.found L.cls (by decide +kernel) (a' (.fieldLink Bundle.tN 198 Bundle.tN "backtrace" "Ljava/lang/Object;") (by simp [Bundle.ownAtoms])) (a' (.lays Bundle.tN Bundle.tN "backtrace" "Ljava/lang/Object;") (by simp [Bundle.ownAtoms])) e.platform hpl
  obtain ⟨cellS, hcS', heS, -, hkeep⟩ := X.same.2.2.2.2.2 T.aS cellS0 hcS0
  have hcellS : W.heap[T.aS]? = some cellS := hcS'
  have hout' : ∀ i, (⟨T.aS, i⟩ : Loc) ∉ locs := fun i hmem => by
    have := hlocs _ hmem cellS0 hcS0
    rw [hiss] at this; cases this
  have hknownS : cellS.vm ≠ .unknown := by
    rw [heS]; intro hu
    rw [show cellS0.vm = .unknown from hu] at hiss
    cases hiss
  have hneS : T.aS ≠ a := Nat.ne_of_lt (Nat.lt_of_lt_of_le (Array.getElem?_eq_some_iff.mp hcS0).1 hnew)
  obtain ⟨iM, hffM⟩ := Y.msg
  obtain ⟨tyC, dC, hdC, hdnC⟩ := Cond.laysAt hfound hk Y.cause (a' (.lays cls Bundle.tN "cause" "Ljava/lang/Throwable;") (by simp [Bundle.ownAtoms]))
  obtain ⟨tyS, dS, hdS, hdnS⟩ := Cond.laysAt hfound hk Y.stack (a' (.lays cls Bundle.tN "stackTrace" Bundle.steD) (by simp [Bundle.ownAtoms]))
  obtain ⟨tyP, dP, hdP, hdnP⟩ := Cond.laysAt hfound hk Y.supp (a' (.lays cls Bundle.tN "suppressedExceptions" Bundle.listD) (by simp [Bundle.ownAtoms]))
  obtain ⟨tyM, dM, hdM, hdnM⟩ := Cond.laysAt hfound hk hffM (a' (.lays cls Bundle.tN "detailMessage" "Ljava/lang/String;") (by simp [Bundle.ownAtoms]))
  obtain ⟨tyB, dB, hdB, hdnB⟩ := Cond.laysAt hfound hk hffB (a' (.lays cls Bundle.tN "backtrace" "Ljava/lang/Object;") (by simp [Bundle.ownAtoms]))
  have bC := Cond.laysApart hdB hdC hdnB hdnC (by rw [hnB, Y.causeName]; decide)
  have bS := Cond.laysApart hdB hdS hdnB hdnS (by rw [hnB, Y.stackName]; decide)
  have bP := Cond.laysApart hdB hdP hdnB hdnP (by rw [hnB, Y.suppName]; decide)
  have hskip : SkipFacts T e.platform s (fun u => u) u0 ((preparedCellV T.toThrowableT (freshCell P1.m.cls kX) a u0 sen).withEntry W.cur) :=
    ⟨{ ci198 := ci198, i198 := i198, fBack := fB }, ⟨hk198, hg198, ha198, hsB⟩, by
      have := fresh_default (c := P1.m.cls) tyB
      rw [htB] at this
      simpa [preparedCellV, Cell.setSlot, Cell.withEntry, Array.getElem?_setIfInBounds, bC, bS, bP, bC.symm, bS.symm, bP.symm, defaultValue] using this, fun _ _ => rfl⟩
  obtain ⟨tm, methC, cdC, kC, vm₁, hnC, -, -, -, -, -, -, -, hW₁, st1⟩ := Steps.initColdS (tb := p.tables) (e := e) (below := below) (s := s) (U := W) X.here hexec X.warmed hpl hown (t := Bundle.initS cls) rfl rfl (Bundle.fit_spec hcls).2
    (a' (.methodLink own ic (Bundle.initS cls)) (by simp [Bundle.ownAtoms])) (h (.instanceMethod (Bundle.initS cls)) (by cases names <;> simp [Bundle.ownAtoms, Bundle.chainSAtoms, Bundle.passSAtoms])) (bytes := Bundle.six) (maxL := 2) (h (.code (Bundle.initS cls) Bundle.six 2 none) (by cases names <;> simp [Bundle.ownAtoms, Bundle.chainSAtoms, Bundle.passSAtoms]))
    (f := g) hg (a := a) (msg := msg) (rest := .ref a :: rest) hstack hd6
  cases Option.some.inj (hnC.symm.trans hP1m)
  have X₁ := X.noted hW₁
  obtain ⟨vm₂, X₂, st2⟩ := X₁.ctorMessageOffV hexec (g := { g with stack := .ref a :: rest }) hg hsize T L Z LZ M LM (P1 :: Ps)
    (fun P hP => by rcases List.mem_cons.mp hP with rfl | hP; exact L1; exact hL P hP) ⟨hlink1, hlink⟩ (u0 := u0) (sen := sen) (self := a) hmsg (cell := freshCell P1.m.cls kX) (cellS := cellS)
    hcell (fun _ => by simp) (by simp) rfl rfl hsel0 hselF hcellS hneS hknownS (by rw [hkeep _ (hout' _)]; exact hu0) (by rw [hkeep _ (hout' _)]; exact hsen)
    (Takes.of_laid hk hord tyC (by rw [Y.causeType]; rfl)) (Takes.of_laid hk hord tyS (by rw [Y.stackType]; exact fits_refV_array _ u0)) (Takes.of_laid hk hord tyP (by rw [Y.suppType]; exact fits_refV_object _ sen))
    (Takes.of_laid hk hord tyM (by rw [Y.msgType]; exact fits_refV_object _ ⟨msg, hmsg⟩)) Y.objLocals hskip htr [] hd6
    (by simp only [List.length_cons, hlen]; omega) (by simp only [List.length_cons, hlen]; exact hRlocals)
  have hlt : a < ((W.setVm vm₁).setVm vm₂).heap.size := (Array.getElem?_eq_some_iff.mp hcell).1
  refine ⟨(W.setVm vm₁).setVm vm₂, _, _, X₂, fun y hy => ?_, hlt, rfl, rfl, fun target hwalk => st1 _ (fun acts => ?_)⟩
  · simp only [List.mem_cons, List.not_mem_nil, or_false] at hy
    rcases hy with rfl | rfl | rfl | rfl | rfl <;> rfl
  · rw [doInvoke_state]
    exact st2 _ hwalk
set_option maxHeartbeats 1000000 in
theorem vx_ctorMade0 (X : Stand p l e R s m₀ args below meth c W locs cells slots) (hexec : p.tables.exec = Jvm.exec) (htr : e.platform.stackTraces = false) {own cls : String} {names : List String} {ic : Nat}
    (hown : s.vm.findClass own = some m₀.cls) (hcls : Bundle.fit cls = true) (hnames : ∀ n ∈ names, Bundle.fit n = true)
    (h : ∀ a ∈ Bundle.ownAtoms0 own ic cls names, a.before args s = true)
    (hlocs : ∀ x ∈ locs, ∀ cell, s.heap[x.base]? = some cell → cell.vm.isStatics = false)
    {a : Addr} {cX : ClassId} {kX : Class} (hfoundX : s.vm.findClass cls = some cX) (hkX : s.vm.classes[cX]? = some kX) (hcell : W.heap[a]? = some (freshCell cX kX)) (hnew : s.heap.size ≤ a)
    {g : JFrame} (hg : g.method = m₀) (hsize : g.locals.size = c.maxLocals) {rest : List Value} (hstack : g.stack = .ref a :: .ref a :: rest)
    (hd6 : decode c.code g.pc = .ok (.invokespecial ic, 3))
    (hRframes : names.length + 3 < R.frames) (hRlocals : 2 * g.monitorRoom + ((Value.ref a :: rest).map fun v => v.category).sum + (13 * (names.length + 1) + 41) ≤ R.locals) :
    ∃ (V : State) (ce : Cell) (L : List Loc), Stand p l e R s m₀ args below meth c (V.setCell a ce) (locs ++ L) cells slots ∧ (∀ y ∈ L, y.base = a) ∧ a < V.heap.size ∧ ce.cls = cX ∧ ce.vm = .none ∧
      ∀ target, Steps p.tables e below ((V.setCell a ce).setTop { g with stack := .ref a :: rest, pc := g.pc + 3 }) target → Steps p.tables e below (W.setTop g) target := by
  have howns : e.platform.frameOwnsMonitors = true := by rw [X.admits.platform]
  have hfin : e.platform.finalization = false := by rw [X.admits.platform]
  have hpl : e.platform.magicAccessors = ({} : Platform).magicAccessors := by rw [X.admits.platform]
  have a' : ∀ x, x ∈ Bundle.ownAtoms0 own ic cls names → x.holds args s none s [] = true := fun x hx => h x hx
  obtain ⟨T, Z, L, LZ, Y⟩ := ThrowableC.of_atoms (args := args) howns hfin hpl (fun x hx => h x (by simp [Bundle.ownAtoms0, hx]))
  obtain ⟨P1, Ps, hlen, L1, hL, hP1m, hlink1, hlink⟩ := Bundle.chain0 (args := args) hpl Y.init0 names cls hcls hnames (fun x hx => h x (by simp [Bundle.ownAtoms0, hx]))
  have hfound : s.vm.findClass cls = some P1.m.cls := findClass_of_methodNamed hP1m
  cases Option.some.inj (hfoundX.symm.trans hfound)
  obtain ⟨c1, kX', hc1, hk, hord, -, -, hn6⟩ := Cond.instantiable_spec (a' (.instantiable cls 6) (by simp [Bundle.ownAtoms0]))
  cases Option.some.inj (hc1.symm.trans hfound)
  cases Option.some.inj (hkX.symm.trans hk)
  have hsel0 : selectMethod e.platform s.vm P1.m.cls T.fill0 = .method T.fill0 := by
    obtain ⟨c2, r2, m2, q1, q2, q3, q4, -⟩ := Cond.selects_spec (a' (.selects cls Bundle.tFill0 Bundle.tFill0) (by simp [Bundle.ownAtoms0]))
    cases Option.some.inj (q1.symm.trans hfound)
    cases Option.some.inj (q2.symm.trans (State.methodFound?_of_named Y.fill0 (by decide)))
    cases Option.some.inj (q3.symm.trans Y.fill0)
    rw [Launch.admits_selectMethod X.admits]; exact q4
  have hselF : selectMethod e.platform s.vm P1.m.cls T.fill = .method T.fill := by
    obtain ⟨c2, r2, m2, q1, q2, q3, q4, -⟩ := Cond.selects_spec (a' (.selects cls Bundle.tFill Bundle.tFill) (by simp [Bundle.ownAtoms0]))
    cases Option.some.inj (q1.symm.trans hfound)
    cases Option.some.inj (q2.symm.trans (State.methodFound?_of_named Y.fill (by decide)))
    cases Option.some.inj (q3.symm.trans Y.fill)
    rw [Launch.admits_selectMethod X.admits]; exact q4
  obtain ⟨cellS0, hcS0, hiss⟩ := Y.statics
  obtain ⟨u0, hu0⟩ := Cond.staticRefV Y.unassigned L.unassignedStatic L.statics hcS0 hiss (a' (.isRef (.static Bundle.tN "UNASSIGNED_STACK" Bundle.steD)) (by simp [Bundle.ownAtoms0]))
  obtain ⟨sen, hsen⟩ := Cond.staticRefV Y.sentinel L.sentinelStatic L.statics hcS0 hiss (a' (.isRef (.static Bundle.tN "SUPPRESSED_SENTINEL" Bundle.listD)) (by simp [Bundle.ownAtoms0]))
  obtain ⟨ci198, i198, fB, hk198, hg198, ha198, hsB, -, hnB, htB, hffB⟩ := Cond.ownField (t := .object "java/lang/Object") Y.found L.cls (by decide +kernel) (a' (.fieldLink Bundle.tN 198 Bundle.tN "backtrace" "Ljava/lang/Object;") (by simp [Bundle.ownAtoms0])) (a' (.lays Bundle.tN Bundle.tN "backtrace" "Ljava/lang/Object;") (by simp [Bundle.ownAtoms0])) e.platform hpl
  obtain ⟨cellS, hcS', heS, -, hkeep⟩ := X.same.2.2.2.2.2 T.aS cellS0 hcS0
  have hcellS : W.heap[T.aS]? = some cellS := hcS'
  have hout' : ∀ i, (⟨T.aS, i⟩ : Loc) ∉ locs := fun i hmem => by
    have := hlocs _ hmem cellS0 hcS0
    rw [hiss] at this; cases this
  have hknownS : cellS.vm ≠ .unknown := by
    rw [heS]; intro hu
    rw [show cellS0.vm = .unknown from hu] at hiss
    cases hiss
  have hneS : T.aS ≠ a := Nat.ne_of_lt (Nat.lt_of_lt_of_le (Array.getElem?_eq_some_iff.mp hcS0).1 hnew)
  obtain ⟨iM, hffM⟩ := Y.msg
  obtain ⟨tyC, dC, hdC, hdnC⟩ := Cond.laysAt hfound hk Y.cause (a' (.lays cls Bundle.tN "cause" "Ljava/lang/Throwable;") (by simp [Bundle.ownAtoms0]))
  obtain ⟨tyS, dS, hdS, hdnS⟩ := Cond.laysAt hfound hk Y.stack (a' (.lays cls Bundle.tN "stackTrace" Bundle.steD) (by simp [Bundle.ownAtoms0]))
  obtain ⟨tyP, dP, hdP, hdnP⟩ := Cond.laysAt hfound hk Y.supp (a' (.lays cls Bundle.tN "suppressedExceptions" Bundle.listD) (by simp [Bundle.ownAtoms0]))
  obtain ⟨tyM, dM, hdM, hdnM⟩ := Cond.laysAt hfound hk hffM (a' (.lays cls Bundle.tN "detailMessage" "Ljava/lang/String;") (by simp [Bundle.ownAtoms0]))
  obtain ⟨tyB, dB, hdB, hdnB⟩ := Cond.laysAt hfound hk hffB (a' (.lays cls Bundle.tN "backtrace" "Ljava/lang/Object;") (by simp [Bundle.ownAtoms0]))
  have bC := Cond.laysApart hdB hdC hdnB hdnC (by rw [hnB, Y.causeName]; decide)
  have bS := Cond.laysApart hdB hdS hdnB hdnS (by rw [hnB, Y.stackName]; decide)
  have bP := Cond.laysApart hdB hdP hdnB hdnP (by rw [hnB, Y.suppName]; decide)
  have hskip : SkipFacts T e.platform s (fun u => u) u0 ((preparedCellV T.toThrowableT (freshCell P1.m.cls kX) a u0 sen).withEntry W.cur) :=
    ⟨{ ci198 := ci198, i198 := i198, fBack := fB }, ⟨hk198, hg198, ha198, hsB⟩, by
      have := fresh_default (c := P1.m.cls) tyB
      rw [htB] at this
      simpa [preparedCellV, Cell.setSlot, Cell.withEntry, Array.getElem?_setIfInBounds, bC, bS, bP, bC.symm, bS.symm, bP.symm, defaultValue] using this, fun _ _ => rfl⟩
  obtain ⟨tm, methC, cdC, kC, vm₁, hnC, -, -, -, -, -, -, -, hW₁, st1⟩ := Steps.initCold (tb := p.tables) (e := e) (below := below) (s := s) (U := W) X.here hexec X.warmed hpl hown (t := Bundle.init0 cls) rfl rfl (Bundle.fit_spec hcls).2
    (a' (.methodLink own ic (Bundle.init0 cls)) (by simp [Bundle.ownAtoms0])) (h (.instanceMethod (Bundle.init0 cls)) (by cases names <;> simp [Bundle.ownAtoms0, Bundle.chain0Atoms, Bundle.passAtoms])) (bytes := Bundle.five) (maxL := 1) (h (.code (Bundle.init0 cls) Bundle.five 1 none) (by cases names <;> simp [Bundle.ownAtoms0, Bundle.chain0Atoms, Bundle.passAtoms]))
    (f := g) hg (a := a) (rest := .ref a :: rest) hstack hd6
  cases Option.some.inj (hnC.symm.trans hP1m)
  have X₁ := X.noted hW₁
  obtain ⟨vm₂, X₂, st2⟩ := X₁.ctorPlainOffV hexec (g := { g with stack := .ref a :: rest }) hg hsize T L Z LZ (P1 :: Ps)
    (fun P hP => by rcases List.mem_cons.mp hP with rfl | hP; exact L1; exact hL P hP) ⟨hlink1, hlink⟩ (u0 := u0) (sen := sen) (self := a) (cell := freshCell P1.m.cls kX) (cellS := cellS)
    hcell (fun _ => by simp) (by simp) rfl rfl hsel0 hselF hcellS hneS hknownS (by rw [hkeep _ (hout' _)]; exact hu0) (by rw [hkeep _ (hout' _)]; exact hsen)
    (Takes.of_laid hk hord tyC (by rw [Y.causeType]; rfl)) (Takes.of_laid hk hord tyS (by rw [Y.stackType]; exact fits_refV_array _ u0)) (Takes.of_laid hk hord tyP (by rw [Y.suppType]; exact fits_refV_object _ sen)) Y.objLocals hskip htr [] hd6
    (by simp only [List.length_cons, hlen]; omega) (by simp only [List.length_cons, hlen]; exact hRlocals)
  have hlt : a < ((W.setVm vm₁).setVm vm₂).heap.size := (Array.getElem?_eq_some_iff.mp hcell).1
  refine ⟨(W.setVm vm₁).setVm vm₂, _, _, X₂, fun y hy => ?_, hlt, rfl, rfl, fun target hwalk => st1 _ (fun acts => ?_)⟩
  · simp only [List.mem_cons, List.not_mem_nil, or_false] at hy
    rcases hy with rfl | rfl | rfl | rfl <;> rfl
  · rw [doInvoke_state]
    exact st2 _ hwalk
end VXK
section VXK2
variable {p : Program} {l : Launch} {e : Env} {R : Room} {s : State} {m : MethodId} {args : Array Value} {below : List Frame} {meth : Method} {c : Code} {H : Heap} {locs : List Loc} {cells slots : Nat} {Q : State → Prop}
variable {ls : Array Slot} {rest : List Value} {D : va_G} {cl : List vw_C} {tys : List (ClassId × FieldType)} {ws : va_W}
/-- 'new E("text")' that isn't thrown at once: the object goes on the stack -/
theorem vx_makeS {cc : ByteArray} {pc : Nat} (hexec : p.tables.exec = Jvm.exec) (hb : c.code = cc) (hl : l.stackTraces = false) {own cls text : String} {names : List String} {ik is ic sa ci : Nat} {A : Nat → Prop} {T0 : u_T}
    (hown : s.vm.findClass own = some m.cls) (hcls : Bundle.fit cls = true) (hnames : ∀ n ∈ names, Bundle.fit n = true)
    (hk : (Cond.classLink own ik cls).before args s = true) (hini : (Cond.initialized cls).before args s = true) (hstr : vk_R own is text sa s) (hat : ∀ w ∈ vx_atS own ic cls names, w.before args s = true)
    (hgood : ∀ w ∈ Cond.classLink own ik cls :: Cond.initialized cls :: vx_atS own ic cls names, vx_ot w = true)
    (hU : vx_Zq Bundle.tN "UNASSIGNED_STACK" Bundle.steD A s s.heap) (hN : vx_Zq Bundle.tN "SUPPRESSED_SENTINEL" Bundle.listD A s s.heap) (hS : va_S A s.heap H locs) (hsize : ls.size = c.maxLocals)
    (d0 : decode cc pc = .ok (.new ik, 3)) (d3 : decode cc (pc + 3) = .ok (.dup, 1)) (d4 : decode cc (pc + 4) = .ok (.ldc is, 2)) (d6 : decode cc (pc + 6) = .ok (.invokespecial ic, 3))
    (hK : va_K D cl tys s) (hP : va_P D cl ws H) (hD : va_D A ws) (hA : ∀ q, s.heap.size ≤ q → A q) (hc : cl[ci]? = some (cls, T0, 0))
    (hRframes : names.length + 3 < R.frames) (hRlocals : (rest.map fun v => v.category).sum + (13 * (names.length + 1) + 43) ≤ R.locals) (hRcells : cells + 1 ≤ R.cells) (hRslots : slots + 6 ≤ R.slots)
    (kk : ∀ (q : Nat) (H1 : Heap), va_P D cl (ws ++ [(q, .inr (ci, []))]) H1 → va_D A (ws ++ [(q, .inr (ci, []))]) → va_S A s.heap H1 locs → W p l e R s m args below meth c H1 locs (cells + 1) (slots + 6) Q (F0 m (pc + 9) ls (.ref q :: rest))) :
    W p l e R s m args below meth c H locs cells slots Q (F0 m pc ls rest) := by
  intro T hT X
  subst hT
  have htr : e.platform.stackTraces = false := (show e.platform.stackTraces = l.stackTraces by rw [X.admits.platform]).trans hl
  have Y := vx_rebase X (R' := { frames := R.frames, locals := R.locals, cells := 1, slots := 6 }) (Nat.le_refl _) (Nat.le_refl _) hRcells hRslots
  obtain ⟨s', hA'⟩ : ∃ z, z = (T.setVm s.vm).setFrames (.invoking m args :: below) := ⟨_, rfl⟩
  rw [← hA'] at Y
  have hvm : s'.vm = s.vm := by rw [hA']; rfl
  have hhp : s'.heap = T.heap := by rw [hA']; rfl
  have hW0 : s.WarmedH s'.vm := by rw [hvm]; exact State.WarmedH.refl s
  have hat' : ∀ w ∈ vx_atS own ic cls names, w.before args s' = true := fun w hw => vx_ot_at hW0 hvm.symm (hgood w (List.mem_cons_of_mem _ (List.mem_cons_of_mem _ hw))) (hat w hw)
  have hk' : (Cond.classLink own ik cls).before args s' = true := vx_ot_at hW0 hvm.symm (hgood _ List.mem_cons_self) hk
  have hini' : (Cond.initialized cls).before args s' = true := vx_ot_at hW0 hvm.symm (hgood _ (List.mem_cons_of_mem _ List.mem_cons_self)) hini
  have hU' : vx_Zq Bundle.tN "UNASSIGNED_STACK" Bundle.steD A s' s'.heap := by rw [hhp]; exact vx_Zq.moved hW0.alike (hU.kept hS.2.1)
  have hN' : vx_Zq Bundle.tN "SUPPRESSED_SENTINEL" Bundle.listD A s' s'.heap := by rw [hhp]; exact vx_Zq.moved hW0.alike (hN.kept hS.2.1)
  have h : ∀ w ∈ Bundle.ownAtoms own ic cls names, w.before args s' = true := vx_own hat' (vx_isRefq hU'.1) (vx_isRefq hN'.1) hU'.2.word hN'.2.word
  have hown' : s'.vm.findClass own = some m.cls := by rw [hvm]; exact hown
  have hins : (Cond.instantiable cls 6).before args s' = true := h _ (by simp [Bundle.ownAtoms])
  obtain ⟨vm₁, cX, kX, hfX, hkX, -, -, X₁, st1⟩ := Y.newCold hexec (own := own) (C := cls) (index := ik) (n := 6) hown' hk' hins hini'
    (g := F0 m pc ls rest) rfl (by rw [hb]; exact d0) (Nat.le_refl _) (Nat.le_refl _)
  generalize hT1 : (T.setVm vm₁).pushCell { cls := cX, slots := kX.instanceTypes.map defaultValue, vm := .none } = T1 at X₁ st1
  have hcat : (Value.ref T.heap.size).category = 1 := rfl
  have hcellA : T1.heap[T.heap.size]? = some (freshCell cX kX) := by rw [← hT1]; exact State.heap_pushCell_size _ _
  have d3' : decode c.code (pc + 3) = .ok (.dup, 1) := by rw [hb]; exact d3
  have d4' : decode c.code (pc + 4) = .ok (.ldc is, 2) := by rw [hb]; exact d4
  have hstr' : vk_R own is text sa s' := vk_R.warm hW0 hstr
  obtain ⟨V, ce, L, Z, hL, hlt, hcl9, hvm9, st⟩ := vx_ctorMadeS X₁ hexec htr (own := own) (cls := cls) (names := names) (ic := ic) hown' hcls hnames h (fun x hx => nomatch hx) hfX hkX hcellA (by rw [hhp]; exact Nat.le_refl _) (msg := .ref sa) rfl
    (g := { method := m, pc := pc + 6, locals := ls, stack := .ref sa :: .ref T.heap.size :: .ref T.heap.size :: rest, locked := none }) rfl hsize (rest := rest) rfl
    (by rw [hb]; exact d6) hRframes (by simp only [List.map_cons, List.sum_cons, hcat]; omega)
  have Z0 := Stand.forget (locs := []) Z (fun y hy => by rw [hL y hy, hhp]; exact Nat.le_refl _)
  obtain ⟨f1, f2⟩ := vx_frame Z0.same
  rw [hhp] at f1 f2
  have hcid : ce.cls = D.1 ci := by
    rw [hcl9]
    have h1 := (hK.1 ci _ hc).2.1
    rw [hvm] at hfX
    exact Option.some.inj (hfX.symm.trans h1)
  have hh : (V.setCell T.heap.size ce).heap[T.heap.size]? = some ce := heapAt_setCell_self (s := V) ce hlt
  subst hA'
  have X5 := vx_back9 X Y Z0
  have X6 : Stand p l e R s m args below meth c (V.setCell T.heap.size ce) locs (cells + 1) (slots + 6) := { X5 with same := X5.same.mono (by omega) (by omega) }
  have hk9 : ∀ (k : Nat) (x : Nat × va_E), ws[k]? = some x → (V.setCell T.heap.size ce).heap[x.1]? = T.heap[x.1]? := fun k x hx => f2 x.1 ((hP k x hx).lt) (fun z hz => nomatch hz)
  obtain ⟨t, a1, b1⟩ := kk T.heap.size (V.setCell T.heap.size ce).heap ((hP.kept hk9).app (fun k x hx => by
      have hz : k < 1 := (List.getElem?_eq_some_iff.mp hx).1
      rw [show k = 0 by omega] at hx
      cases hx
      exact ⟨_, hc, ce, hh, hcid, hvm9, fun k hk => absurd hk (Nat.not_lt_zero k)⟩)) (hD.push hP rfl (hA _ hS.1)) ⟨Nat.le_trans hS.1 f1, fun q h1 h2 => (f2 q (Nat.lt_of_lt_of_le h1 hS.1) (fun z hz => nomatch hz)).trans (hS.2.1 q h1 h2), hS.2.2⟩ _ rfl X6
  refine ⟨t, st1 _ ?_, b1⟩
  show Steps p.tables e below (T1.setTop { method := m, pc := pc + 3, locals := ls, stack := .ref T.heap.size :: rest, locked := none }) _
  jvm_step X₁.here [X₁.here.top, hexec, d3', Value.category]
  exact X₁.ldcString hexec (own := own) (text := text) (index := is) (a := sa) hown' hstr'.1 hstr'.2
    (g := { method := m, pc := pc + 4, locals := ls, stack := .ref T.heap.size :: .ref T.heap.size :: rest, locked := none }) rfl d4' _ (st _ a1)
/-- 'new E()' that isn't thrown at once: the object goes on the stack -/
theorem vx_make0 {cc : ByteArray} {pc : Nat} (hexec : p.tables.exec = Jvm.exec) (hb : c.code = cc) (hl : l.stackTraces = false) {own cls : String} {names : List String} {ik ic ci : Nat} {A : Nat → Prop} {T0 : u_T}
    (hown : s.vm.findClass own = some m.cls) (hcls : Bundle.fit cls = true) (hnames : ∀ n ∈ names, Bundle.fit n = true)
    (hk : (Cond.classLink own ik cls).before args s = true) (hini : (Cond.initialized cls).before args s = true) (hat : ∀ w ∈ vx_at0 own ic cls names, w.before args s = true)
    (hgood : ∀ w ∈ Cond.classLink own ik cls :: Cond.initialized cls :: vx_at0 own ic cls names, vx_ot w = true)
    (hU : vx_Zq Bundle.tN "UNASSIGNED_STACK" Bundle.steD A s s.heap) (hN : vx_Zq Bundle.tN "SUPPRESSED_SENTINEL" Bundle.listD A s s.heap) (hS : va_S A s.heap H locs) (hsize : ls.size = c.maxLocals)
    (d0 : decode cc pc = .ok (.new ik, 3)) (d3 : decode cc (pc + 3) = .ok (.dup, 1)) (d4 : decode cc (pc + 4) = .ok (.invokespecial ic, 3))
    (hK : va_K D cl tys s) (hP : va_P D cl ws H) (hD : va_D A ws) (hA : ∀ q, s.heap.size ≤ q → A q) (hc : cl[ci]? = some (cls, T0, 0))
    (hRframes : names.length + 3 < R.frames) (hRlocals : (rest.map fun v => v.category).sum + (13 * (names.length + 1) + 42) ≤ R.locals) (hRcells : cells + 1 ≤ R.cells) (hRslots : slots + 6 ≤ R.slots)
    (kk : ∀ (q : Nat) (H1 : Heap), va_P D cl (ws ++ [(q, .inr (ci, []))]) H1 → va_D A (ws ++ [(q, .inr (ci, []))]) → va_S A s.heap H1 locs → W p l e R s m args below meth c H1 locs (cells + 1) (slots + 6) Q (F0 m (pc + 7) ls (.ref q :: rest))) :
    W p l e R s m args below meth c H locs cells slots Q (F0 m pc ls rest) := by
  intro T hT X
  subst hT
  have htr : e.platform.stackTraces = false := (show e.platform.stackTraces = l.stackTraces by rw [X.admits.platform]).trans hl
  have Y := vx_rebase X (R' := { frames := R.frames, locals := R.locals, cells := 1, slots := 6 }) (Nat.le_refl _) (Nat.le_refl _) hRcells hRslots
  obtain ⟨s', hA'⟩ : ∃ z, z = (T.setVm s.vm).setFrames (.invoking m args :: below) := ⟨_, rfl⟩
  rw [← hA'] at Y
  have hvm : s'.vm = s.vm := by rw [hA']; rfl
  have hhp : s'.heap = T.heap := by rw [hA']; rfl
  have hW0 : s.WarmedH s'.vm := by rw [hvm]; exact State.WarmedH.refl s
  have hat' : ∀ w ∈ vx_at0 own ic cls names, w.before args s' = true := fun w hw => vx_ot_at hW0 hvm.symm (hgood w (List.mem_cons_of_mem _ (List.mem_cons_of_mem _ hw))) (hat w hw)
  have hk' : (Cond.classLink own ik cls).before args s' = true := vx_ot_at hW0 hvm.symm (hgood _ List.mem_cons_self) hk
  have hini' : (Cond.initialized cls).before args s' = true := vx_ot_at hW0 hvm.symm (hgood _ (List.mem_cons_of_mem _ List.mem_cons_self)) hini
  have hU' : vx_Zq Bundle.tN "UNASSIGNED_STACK" Bundle.steD A s' s'.heap := by rw [hhp]; exact vx_Zq.moved hW0.alike (hU.kept hS.2.1)
  have hN' : vx_Zq Bundle.tN "SUPPRESSED_SENTINEL" Bundle.listD A s' s'.heap := by rw [hhp]; exact vx_Zq.moved hW0.alike (hN.kept hS.2.1)
  have h : ∀ w ∈ Bundle.ownAtoms0 own ic cls names, w.before args s' = true := vx_own hat' (vx_isRefq hU'.1) (vx_isRefq hN'.1) hU'.2.word hN'.2.word
  have hown' : s'.vm.findClass own = some m.cls := by rw [hvm]; exact hown
  have hins : (Cond.instantiable cls 6).before args s' = true := h _ (by simp [Bundle.ownAtoms0])
  obtain ⟨vm₁, cX, kX, hfX, hkX, -, -, X₁, st1⟩ := Y.newCold hexec (own := own) (C := cls) (index := ik) (n := 6) hown' hk' hins hini'
    (g := F0 m pc ls rest) rfl (by rw [hb]; exact d0) (Nat.le_refl _) (Nat.le_refl _)
  generalize hT1 : (T.setVm vm₁).pushCell { cls := cX, slots := kX.instanceTypes.map defaultValue, vm := .none } = T1 at X₁ st1
  have hcat : (Value.ref T.heap.size).category = 1 := rfl
  have hcellA : T1.heap[T.heap.size]? = some (freshCell cX kX) := by rw [← hT1]; exact State.heap_pushCell_size _ _
  have d3' : decode c.code (pc + 3) = .ok (.dup, 1) := by rw [hb]; exact d3
  obtain ⟨V, ce, L, Z, hL, hlt, hcl9, hvm9, st⟩ := vx_ctorMade0 X₁ hexec htr (own := own) (cls := cls) (names := names) (ic := ic) hown' hcls hnames h (fun x hx => nomatch hx) hfX hkX hcellA (by rw [hhp]; exact Nat.le_refl _)
    (g := { method := m, pc := pc + 4, locals := ls, stack := .ref T.heap.size :: .ref T.heap.size :: rest, locked := none }) rfl hsize (rest := rest) rfl
    (by rw [hb]; exact d4) hRframes (by simp only [List.map_cons, List.sum_cons, hcat]; omega)
  have Z0 := Stand.forget (locs := []) Z (fun y hy => by rw [hL y hy, hhp]; exact Nat.le_refl _)
  obtain ⟨f1, f2⟩ := vx_frame Z0.same
  rw [hhp] at f1 f2
  have hcid : ce.cls = D.1 ci := by
    rw [hcl9]
    have h1 := (hK.1 ci _ hc).2.1
    rw [hvm] at hfX
    exact Option.some.inj (hfX.symm.trans h1)
  have hh : (V.setCell T.heap.size ce).heap[T.heap.size]? = some ce := heapAt_setCell_self (s := V) ce hlt
  subst hA'
  have X5 := vx_back9 X Y Z0
  have X6 : Stand p l e R s m args below meth c (V.setCell T.heap.size ce) locs (cells + 1) (slots + 6) := { X5 with same := X5.same.mono (by omega) (by omega) }
  have hk9 : ∀ (k : Nat) (x : Nat × va_E), ws[k]? = some x → (V.setCell T.heap.size ce).heap[x.1]? = T.heap[x.1]? := fun k x hx => f2 x.1 ((hP k x hx).lt) (fun z hz => nomatch hz)
  obtain ⟨t, a1, b1⟩ := kk T.heap.size (V.setCell T.heap.size ce).heap ((hP.kept hk9).app (fun k x hx => by
      have hz : k < 1 := (List.getElem?_eq_some_iff.mp hx).1
      rw [show k = 0 by omega] at hx
      cases hx
      exact ⟨_, hc, ce, hh, hcid, hvm9, fun k hk => absurd hk (Nat.not_lt_zero k)⟩)) (hD.push hP rfl (hA _ hS.1)) ⟨Nat.le_trans hS.1 f1, fun q h1 h2 => (f2 q (Nat.lt_of_lt_of_le h1 hS.1) (fun z hz => nomatch hz)).trans (hS.2.1 q h1 h2), hS.2.2⟩ _ rfl X6
  refine ⟨t, st1 _ ?_, b1⟩
  show Steps p.tables e below (T1.setTop { method := m, pc := pc + 3, locals := ls, stack := .ref T.heap.size :: rest, locked := none }) _
  jvm_step X₁.here [X₁.here.top, hexec, d3', Value.category]
  exact st _ a1
/-- 'throw x' of an object that was made before -/
theorem vx_athrow {cc : ByteArray} {pc : Nat} (hexec : p.tables.exec = Jvm.exec) (hb : c.code = cc) {q : Addr} (hdg : decode cc pc = .ok (.athrow, 1)) (k : vx_W p l e R s m args below meth c H locs cells slots Q (F0 m pc ls rest) q) : W p l e R s m args below meth c H locs cells slots Q (F0 m pc ls (.ref q :: rest)) := by
  intro T hT X
  obtain ⟨t, st, hq⟩ := k T hT X
  refine ⟨t, ?_, hq⟩
  have hdg' : decode c.code pc = .ok (.athrow, 1) := by rw [hb]; exact hdg
  jvm_step X.here [X.here.top, hexec, hdg', athrow.wp_sem]
  exact st
end VXK2
/-! ===== END ===== -/
/-! ===== BEGIN a constructor that throws (launches without stack traces) ===== -/
section VXIA
variable {p : Program} {l : Launch} {e : Env} {R : Room} {s : State} {m : MethodId} {args : Array Value} {below : List Frame} {meth : Method} {c : Code} {T : State} {locs : List Loc} {cells slots : Nat}
theorem vx_callI (X : Stand p l e R s m args below meth c T locs cells slots) (hexec : p.tables.exec = Jvm.exec) {own : String} {index : Nat} {y : MethodName} {bytes : ByteArray} {maxL : Nat}
    (hown : s.vm.findClass own = some m.cls) (hy1 : y.name = "<init>") (hlink : (Cond.methodLink own index y).before args s = true) (hinst : (Cond.instanceMethod y).before args s = true)
    (hcode : (Cond.code y bytes maxL none).before args s = true) (hy : y.cls ≠ "java/lang/invoke/MethodHandle" ∧ y.cls ≠ "java/lang/invoke/VarHandle")
    {W9 : Nat} {Pre : Pt → Array Value → Prop} {Post : Pt → Array Value → Option Value → Pt → Prop} {PostX : Pt → Array Value → Addr → Pt → Prop} (hK : vx_Back l R p e below s args y 3 W9 Pre Post PostX)
    {g : JFrame} (hg : g.method = m) (hsize : g.locals.size = c.maxLocals) {a : Addr} {argsL rest : List Value} (hlen : ∀ sig, parseMethodDescriptor y.desc = some sig → argsL.length = sig.parameters.length)
    (hstack : g.stack = argsL.reverse ++ .ref a :: rest) (hW : 2 * g.monitorRoom + (rest.map fun v => v.category).sum ≤ W9) (hdg : decode c.code g.pc = .ok (.invokespecial index, 3))
    (hpre : ∀ vm₁, s.WarmedH vm₁ → Pre ⟨T.setVm vm₁, locs, cells, slots⟩ (Value.ref a :: argsL).toArray) :
    (∃ (v : Option Value) (vm₁ : Vm) (B : Pt), s.WarmedH vm₁ ∧ Stand p l e R s m args below meth c B.U B.locs B.cells B.slots ∧ Post ⟨T.setVm vm₁, locs, cells, slots⟩ (Value.ref a :: argsL).toArray v B ∧
      ∀ target, Steps p.tables e below (B.U.setTop { g with pc := g.pc + 3, stack := v.toList ++ rest }) target → Steps p.tables e below (T.setTop g) target) ∨
    (∃ (q : Addr) (vm₁ : Vm) (B : Pt), s.WarmedH vm₁ ∧ Stand p l e R s m args below meth c B.U B.locs B.cells B.slots ∧ PostX ⟨T.setVm vm₁, locs, cells, slots⟩ (Value.ref a :: argsL).toArray q B ∧
      Steps p.tables e below (T.setTop g) ((B.U.setTop { g with stack := rest }).pushFrame (.throwing q))) := by
  subst hg
  have hpl : e.platform.magicAccessors = ({} : Platform).magicAccessors := by rw [X.admits.platform]
  obtain ⟨mk, methM, cM, kP, vm₁, hnamed, hmethM, hcodeM, -, hlocalsM, -, hkP, -, hW₁, hstep₁⟩ := Steps.initColdArgs (e := e) X.here hexec X.warmed hpl hown hy1 hy hlink hinst hcode (f := g) rfl hlen hstack hdg
  have X₁ := X.noted hW₁
  rcases hK g.method meth c ⟨T.setVm vm₁, locs, cells, slots⟩ { g with stack := rest } (.invokespecial index) mk (Value.ref a :: argsL).toArray X₁ rfl hsize hdg hW (X₁.named hnamed) (hpre vm₁ X₁.warmed) with ⟨v, B, X', hpost, hsteps⟩ | ⟨q, B, X', hpost, hsteps⟩
  · exact Or.inl ⟨v, vm₁, B, X₁.warmed, X', hpost, fun target h => hstep₁ _ fun acts => by rw [doInvoke_state]; exact hsteps.trans h⟩
  · exact Or.inr ⟨q, vm₁, B, X₁.warmed, X', hpost, hstep₁ _ fun acts => by rw [doInvoke_state]; exact hsteps⟩
end VXIA
section VXIB
variable {p : Program} {l : Launch} {e : Env} {R : Room} {s : State} {m : MethodId} {args : Array Value} {below : List Frame} {meth : Method} {c : Code} {H : Heap} {locs : List Loc} {cells slots : Nat}
variable {y : MethodName} {bytes cc : ByteArray} {maxL nL mc ms n index : Nat} {ret : Option FieldType} {ws : List Cond} {rm : Room} {Pc : Array Value → State → Prop} {Qc : Array Value → State → Outcome → State → Prop} {XC : String → State → State → Prop} {free : Addr → Prop} {Ts : List Cond} {own C : String} {b : Addr} {As rest : List Value} {g : JFrame}
theorem vx_runI (S : CallFix p m c cc nL s args Ts own) (hM : vx_Met l y ws rm Pc Qc XC mc ms free) (cw : CallB R s args own index y bytes maxL none ws rm mc ms n ∧ y.name = "<init>" ∧ (Cond.instanceMethod y).before args s = true) (hp : PreS s H Pc (.ref b :: As))
    (hg : g.method = m) (hn : As.length = n) (hsize : g.locals.size = nL) (hstack : g.stack = As.reverse ++ .ref b :: rest) (hW : 2 * g.monitorRoom + (rest.map fun v => v.category).sum ≤ 8) (hdg : decode cc g.pc = .ok (.invokespecial index, 3)) (hf : cells + mc ≤ R.cells ∧ slots + ms ≤ R.slots) :
    vx_Run p l e R s m args below meth c H locs cells slots mc ms g rest (Qc (Value.ref b :: As).toArray) XC free := by
  have hK : vx_Back l R p e below s args y 3 8 (PreOf R mc ms Pc) (PostOf Qc mc ms free) (vx_Post XC mc ms free) := vx_callBack cw.1 hM hp.1
  obtain ⟨⟨-, -, -, -, -, -, hcode, -, hy, hlen, hl⟩, hy1, hin⟩ := cw
  obtain ⟨hx, hb, hml, ho, -⟩ := S
  have hPc := hp.2
  intro T hT X
  rcases vx_callI X hx (bytes := bytes) (maxL := maxL) ho hy1 hl hin hcode hy hK hg (hsize.trans hml.symm) (a := b) (argsL := As) (rest := rest) (fun sig h => hn.trans (hlen sig h)) hstack hW (by rw [hb]; exact hdg)
    (fun vm₁ hW₁ => ⟨hf.1, hf.2, hPc (T.setVm vm₁) hT hW₁⟩) with ⟨v, vm₁, ⟨U', l2, c2, s2⟩, hW₁, X', ⟨g', mk, t, L, e1, e2, hq, h1, hL, h2, h3⟩, st⟩ | ⟨q, vm₁, ⟨U', l2, c2, s2⟩, hW₁, X', ⟨g', mk, t, L, E, ce, e1, e2, hq, hce, hcv, hcl, h1, hL, h2, h3⟩, st⟩
  · dsimp only [Pt.U, Pt.locs, Pt.cells, Pt.slots] at X' e1 e2 h1 h2 h3 st
    subst h1; subst h2; subst h3
    exact Or.inl ⟨v, (T.setVm vm₁).calling g' mk (Value.ref b :: As).toArray, t, U', L, hT, X', hL, e1, e2, hq, st⟩
  · dsimp only [Pt.U, Pt.locs, Pt.cells, Pt.slots] at X' e1 e2 h1 h2 h3 st hcl
    subst h1; subst h2; subst h3
    exact Or.inr ⟨q, (T.setVm vm₁).calling g' mk (Value.ref b :: As).toArray, t, U', L, E, ce, hT, X', hL, e1, e2, hq, hce, hcv, vx_cls hW₁ hcl, st⟩
end VXIB
/-! ===== END ===== -/
/-! ===== BEGIN a private constructor of a nest mate that throws ===== -/
section VXIC
variable {p : Program} {l : Launch} {e : Env} {R : Room} {s : State} {m : MethodId} {args : Array Value} {below : List Frame} {meth : Method} {c : Code} {T : State} {locs : List Loc} {cells slots : Nat}
theorem vx_callIN (X : Stand p l e R s m args below meth c T locs cells slots) (hexec : p.tables.exec = Jvm.exec) {own : String} {index : Nat} {host : String} {y : MethodName} {bytes : ByteArray} {maxL : Nat}
    (hown : s.vm.findClass own = some m.cls) (hy1 : y.name = "<init>") (hlink : (Cond.methodLinkNest own index y host).before args s = true) (hinst : (Cond.instanceMethod y).before args s = true)
    (hcode : (Cond.code y bytes maxL none).before args s = true) (hy : y.cls ≠ "java/lang/invoke/MethodHandle" ∧ y.cls ≠ "java/lang/invoke/VarHandle")
    {W9 : Nat} {Pre : Pt → Array Value → Prop} {Post : Pt → Array Value → Option Value → Pt → Prop} {PostX : Pt → Array Value → Addr → Pt → Prop} (hK : vx_Back l R p e below s args y 3 W9 Pre Post PostX)
    {g : JFrame} (hg : g.method = m) (hsize : g.locals.size = c.maxLocals) {a : Addr} {argsL rest : List Value} (hlen : ∀ sig, parseMethodDescriptor y.desc = some sig → argsL.length = sig.parameters.length)
    (hstack : g.stack = argsL.reverse ++ .ref a :: rest) (hW : 2 * g.monitorRoom + (rest.map fun v => v.category).sum ≤ W9) (hdg : decode c.code g.pc = .ok (.invokespecial index, 3))
    (hpre : ∀ vm₁, s.WarmedH vm₁ → Pre ⟨T.setVm vm₁, locs, cells, slots⟩ (Value.ref a :: argsL).toArray) :
    (∃ (v : Option Value) (vm₁ : Vm) (B : Pt), s.WarmedH vm₁ ∧ Stand p l e R s m args below meth c B.U B.locs B.cells B.slots ∧ Post ⟨T.setVm vm₁, locs, cells, slots⟩ (Value.ref a :: argsL).toArray v B ∧
      ∀ target, Steps p.tables e below (B.U.setTop { g with pc := g.pc + 3, stack := v.toList ++ rest }) target → Steps p.tables e below (T.setTop g) target) ∨
    (∃ (q : Addr) (vm₁ : Vm) (B : Pt), s.WarmedH vm₁ ∧ Stand p l e R s m args below meth c B.U B.locs B.cells B.slots ∧ PostX ⟨T.setVm vm₁, locs, cells, slots⟩ (Value.ref a :: argsL).toArray q B ∧
      Steps p.tables e below (T.setTop g) ((B.U.setTop { g with stack := rest }).pushFrame (.throwing q))) := by
  subst hg
  have hpl : e.platform.magicAccessors = ({} : Platform).magicAccessors := by rw [X.admits.platform]
  obtain ⟨mk, methM, cM, kP, vm₁, hnamed, hmethM, hcodeM, -, hlocalsM, -, hkP, -, hW₁, hstep₁⟩ := Steps.initColdArgsNest (e := e) X.here hexec X.warmed hpl hown hy1 hy hlink hinst hcode (f := g) rfl hlen hstack hdg
  have X₁ := X.noted hW₁
  rcases hK g.method meth c ⟨T.setVm vm₁, locs, cells, slots⟩ { g with stack := rest } (.invokespecial index) mk (Value.ref a :: argsL).toArray X₁ rfl hsize hdg hW (X₁.named hnamed) (hpre vm₁ X₁.warmed) with ⟨v, B, X', hpost, hsteps⟩ | ⟨q, B, X', hpost, hsteps⟩
  · exact Or.inl ⟨v, vm₁, B, X₁.warmed, X', hpost, fun target h => hstep₁ _ fun acts => by rw [doInvoke_state]; exact hsteps.trans h⟩
  · exact Or.inr ⟨q, vm₁, B, X₁.warmed, X', hpost, hstep₁ _ fun acts => by rw [doInvoke_state]; exact hsteps⟩
end VXIC
section VXID
variable {p : Program} {l : Launch} {e : Env} {R : Room} {s : State} {m : MethodId} {args : Array Value} {below : List Frame} {meth : Method} {c : Code} {H : Heap} {locs : List Loc} {cells slots : Nat}
theorem vx_runIN {y : MethodName} {bytes cc : ByteArray} {maxL nL mc ms n index : Nat} {ws : List Cond} {rm : Room} {Pc : Array Value → State → Prop} {Qc : Array Value → State → Outcome → State → Prop} {XC : String → State → State → Prop} {free : Addr → Prop} {Ts : List Cond} {own host : String} {b : Addr} {As rest : List Value} {g : JFrame}
    (S : CallFix p m c cc nL s args Ts own) (hM : vx_Met l y ws rm Pc Qc XC mc ms free) (cw : va_CN R s args own index y host bytes maxL none ws rm mc ms n ∧ y.name = "<init>" ∧ (Cond.instanceMethod y).before args s = true) (hp : PreS s H Pc (.ref b :: As))
    (hg : g.method = m) (hn : As.length = n) (hsize : g.locals.size = nL) (hstack : g.stack = As.reverse ++ .ref b :: rest) (hW : 2 * g.monitorRoom + (rest.map fun v => v.category).sum ≤ 8) (hdg : decode cc g.pc = .ok (.invokespecial index, 3)) (hf : cells + mc ≤ R.cells ∧ slots + ms ≤ R.slots) :
    vx_Run p l e R s m args below meth c H locs cells slots mc ms g rest (Qc (Value.ref b :: As).toArray) XC free := by
  obtain ⟨⟨⟨hrc, hrs, hfr, hlo, hws, hcw⟩, hcode, hini, hy, hlen, hl⟩, hx1, hx2⟩ := cw
  have hK : vx_Back l R p e below s args y 3 8 (PreOf R mc ms Pc) (PostOf Qc mc ms free) (vx_Post XC mc ms free) := vx_back (bytes := bytes) (maxL := maxL) (ret := none) hM hp.1 hrc hrs hfr hlo hws hcw (fun a' U hW => word_at hW (Or.inl (by first | rfl | simp [Cond.onTables, Cond.keeps, Cond.steady])) hini)
  obtain ⟨hx, hb, hml, ho, -⟩ := S
  have hPc := hp.2
  intro T hT X
  rcases vx_callIN X hx (bytes := bytes) (maxL := maxL) ho hx1 hl hx2 hcode hy hK hg (hsize.trans hml.symm) (a := b) (argsL := As) (rest := rest) (fun sig h => hn.trans (hlen sig h)) hstack hW (by rw [hb]; exact hdg)
    (fun vm₁ hW₁ => ⟨hf.1, hf.2, hPc (T.setVm vm₁) hT hW₁⟩) with ⟨v, vm₁, ⟨U', l2, c2, s2⟩, hW₁, X', ⟨g', mk, t, L, e1, e2, hq, h1, hL, h2, h3⟩, st⟩ | ⟨q, vm₁, ⟨U', l2, c2, s2⟩, hW₁, X', ⟨g', mk, t, L, E, ce, e1, e2, hq, hce, hcv, hcl, h1, hL, h2, h3⟩, st⟩
  · dsimp only [Pt.U, Pt.locs, Pt.cells, Pt.slots] at X' e1 e2 h1 h2 h3 st
    subst h1; subst h2; subst h3
    exact Or.inl ⟨v, (T.setVm vm₁).calling g' mk (Value.ref b :: As).toArray, t, U', L, hT, X', hL, e1, e2, hq, st⟩
  · dsimp only [Pt.U, Pt.locs, Pt.cells, Pt.slots] at X' e1 e2 h1 h2 h3 st hcl
    subst h1; subst h2; subst h3
    exact Or.inr ⟨q, (T.setVm vm₁).calling g' mk (Value.ref b :: As).toArray, t, U', L, E, ce, hT, X', hL, e1, e2, hq, hce, hcv, vx_cls hW₁ hcl, st⟩
end VXID
/-! ===== END ===== -/
/-! ===== BEGIN a method of a class above, found by the receiver, that may throw (follows va_callVU, va_runU of this kit) ===== -/
section
variable {p : Program} {l : Launch} {e : Env} {R : Room} {s : State} {m : MethodId} {args : Array Value} {below : List Frame} {meth : Method} {c : Code} {H : Heap} {locs : List Loc} {cells slots : Nat}
theorem vx_callVU {T : State} {locs : List Loc} {cells slots : Nat} (X : Stand p l e R s m args below meth c T locs cells slots) (hexec : p.tables.exec = Jvm.exec) {own C owner : String} {index : Nat} {x y : MethodName} {bytes : ByteArray} {maxL : Nat} {ret : Option FieldType}
    (hown : s.vm.findClass own = some m.cls) (hlink : (Cond.methodLink own index x).before args s = true) (hsame : (Cond.sameMethod x.cls owner x.name x.desc).before args s = true)
    (hd0 : va_Decl s ⟨owner, x.name, x.desc⟩) (howner : owner ≠ "java/lang/invoke/MethodHandle" ∧ owner ≠ "java/lang/invoke/VarHandle")
    (hsel : (Cond.selects C x y).before args s = true) (hinst : (Cond.instanceMethod y).before args s = true) (hcode : (Cond.code y bytes maxL ret).before args s = true)
    {W : Nat} {Pre : Pt → Array Value → Prop} {Post : Pt → Array Value → Option Value → Pt → Prop} {PostX : Pt → Array Value → Addr → Pt → Prop} (hK : vx_Back l R p e below s args y 3 W Pre Post PostX)
    {b : Addr} {cellB : Cell} (hcell : T.heap[b]? = some cellB) (hobj : cellB.vm.isStatics = false) (hcls : s.vm.findClass C = some cellB.cls)
    {g : JFrame} (hg : g.method = m) (hsize : g.locals.size = c.maxLocals) {argsL rest : List Value} (hlen : ∀ sig, parseMethodDescriptor x.desc = some sig → argsL.length = sig.parameters.length)
    (hstack : g.stack = argsL.reverse ++ .ref b :: rest) (hW : 2 * g.monitorRoom + (rest.map fun v => v.category).sum ≤ W) (hdg : decode c.code g.pc = .ok (.invokevirtual index, 3))
    (hpre : ∀ vm₁, s.WarmedH vm₁ → Pre ⟨T.setVm vm₁, locs, cells, slots⟩ (Value.ref b :: argsL).toArray) :
    (∃ (v : Option Value) (vm₁ : Vm) (B : Pt), s.WarmedH vm₁ ∧ Stand p l e R s m args below meth c B.U B.locs B.cells B.slots ∧ Post ⟨T.setVm vm₁, locs, cells, slots⟩ (Value.ref b :: argsL).toArray v B ∧
      ∀ target, Steps p.tables e below (B.U.setTop { g with pc := g.pc + 3, stack := v.toList ++ rest }) target → Steps p.tables e below (T.setTop g) target) ∨
    (∃ (q : Addr) (vm₁ : Vm) (B : Pt), s.WarmedH vm₁ ∧ Stand p l e R s m args below meth c B.U B.locs B.cells B.slots ∧ PostX ⟨T.setVm vm₁, locs, cells, slots⟩ (Value.ref b :: argsL).toArray q B ∧
      Steps p.tables e below (T.setTop g) ((B.U.setTop { g with stack := rest }).pushFrame (.throwing q))) := by
  obtain ⟨r0, r, hn, hrm, hstR, hsigR⟩ := hd0
  obtain ⟨cn, ck, r1, hcn, hck, hni, hf, hn1⟩ := Cond.sameMethod_found hsame
  cases hn.symm.trans hn1
  obtain ⟨mk, methM, hnamed, hmethM, -, habM⟩ := Cond.instanceMethod_spec hinst
  obtain ⟨c2, r2, m2, q1, q2, q3, q4, kP, hkP, hkPi⟩ := Cond.selects_spec hsel
  cases hcls.symm.trans q1
  cases hf.symm.trans q2
  cases hnamed.symm.trans q3
  have hselP : selectMethod e.platform s.vm cellB.cls r0 = .method mk := by rw [Launch.admits_selectMethod X.admits]; exact q4
  obtain ⟨vm₁, X₁, hstep₁⟩ := X.invokevirtualUp hexec hown hlink hsame howner hn hrm hstR (a := b) (cell := cellB) hcell
    (fun z h => by rw [h] at hobj; cases hobj) hselP hmethM habM hkP hkPi (g := g) hg (argsL := argsL) (rest := rest) (hlen _ hsigR) hstack hdg
  rcases hK m meth c ⟨T.setVm vm₁, locs, cells, slots⟩ { g with stack := rest } (.invokevirtual index) mk (Value.ref b :: argsL).toArray X₁ hg hsize hdg hW (X₁.named hnamed) (hpre vm₁ X₁.warmed) with ⟨v, B, X', hpost, hsteps⟩ | ⟨q, B, X', hpost, hsteps⟩
  · exact Or.inl ⟨v, vm₁, B, X₁.warmed, X', hpost, fun target h => hstep₁ _ fun acts => by rw [doInvoke_state]; exact hsteps.trans h⟩
  · exact Or.inr ⟨q, vm₁, B, X₁.warmed, X', hpost, hstep₁ _ fun acts => by rw [doInvoke_state]; exact hsteps⟩
theorem vx_runU {x y : MethodName} {bytes cc : ByteArray} {maxL nL mc ms n index : Nat} {ret : Option FieldType} {ws : List Cond} {rm : Room} {Pc : Array Value → State → Prop} {Qc : Array Value → State → Outcome → State → Prop} {XC : String → State → State → Prop} {free : Addr → Prop} {Ts : List Cond} {own C owner : String} {b : Addr} {As rest : List Value} {g : JFrame}
    (S : CallFix p m c cc nL s args Ts own) (hM : vx_Met l y ws rm Pc Qc XC mc ms free) (cw : va_CU R s args own C owner index x y bytes maxL ret ws rm mc ms n) (hp : PreV s H C b Pc As)
    (hg : g.method = m) (hn : As.length = n) (hsize : g.locals.size = nL) (hstack : g.stack = As.reverse ++ .ref b :: rest) (hW : 2 * g.monitorRoom + (rest.map fun v => v.category).sum ≤ 8) (hdg : decode cc g.pc = .ok (.invokevirtual index, 3)) (hf : cells + mc ≤ R.cells ∧ slots + ms ≤ R.slots) :
    vx_Run p l e R s m args below meth c H locs cells slots mc ms g rest (Qc (Value.ref b :: As).toArray) XC free := by
  obtain ⟨hrc, hrs, hfr, hlo, hws, hcw⟩ := cw.back
  have hini := cw.init
  have hK : vx_Back l R p e below s args y 3 8 (PreOf R mc ms Pc) (PostOf Qc mc ms free) (vx_Post XC mc ms free) := vx_back (bytes := bytes) (maxL := maxL) (ret := ret) hM hp.1 hrc hrs hfr hlo hws hcw (fun a' U hW => word_at hW (Or.inl (by first | rfl | simp [Cond.onTables, Cond.keeps, Cond.steady])) hini)
  obtain ⟨hx, hb, hml, ho, -⟩ := S
  obtain ⟨-, ⟨cellB, hcB, hoB, hclB⟩, hPc⟩ := hp
  intro T hT X
  rcases vx_callVU X hx (C := C) (owner := owner) (bytes := bytes) (maxL := maxL) (ret := ret) ho cw.link cw.same cw.decl cw.notMH cw.sel cw.inst cw.code hK (by rw [hT]; exact hcB) hoB hclB hg (hsize.trans hml.symm) (argsL := As) (rest := rest) (fun sig h => hn.trans (cw.len sig h)) hstack hW (by rw [hb]; exact hdg)
    (fun vm₁ hW₁ => ⟨hf.1, hf.2, hPc (T.setVm vm₁) hT hW₁⟩) with ⟨v, vm₁, ⟨U', l2, c2, s2⟩, hW₁, X', ⟨g', mk, t, L, e1, e2, hq, h1, hL, h2, h3⟩, st⟩ | ⟨q, vm₁, ⟨U', l2, c2, s2⟩, hW₁, X', ⟨g', mk, t, L, E, ce, e1, e2, hq, hce, hcv, hcl, h1, hL, h2, h3⟩, st⟩
  · dsimp only [Pt.U, Pt.locs, Pt.cells, Pt.slots] at X' e1 e2 h1 h2 h3 st
    subst h1; subst h2; subst h3
    exact Or.inl ⟨v, (T.setVm vm₁).calling g' mk (Value.ref b :: As).toArray, t, U', L, hT, X', hL, e1, e2, hq, st⟩
  · dsimp only [Pt.U, Pt.locs, Pt.cells, Pt.slots] at X' e1 e2 h1 h2 h3 st hcl
    subst h1; subst h2; subst h3
    exact Or.inr ⟨q, (T.setVm vm₁).calling g' mk (Value.ref b :: As).toArray, t, U', L, E, ce, hT, X', hL, e1, e2, hq, hce, hcv, vx_cls hW₁ hcl, st⟩
end
/-! ===== END ===== -/
/-! ===== BEGIN super.m(..) that may throw (follows va_callSU, va_runSU) ===== -/
section
variable {p : Program} {l : Launch} {e : Env} {R : Room} {s : State} {m : MethodId} {args : Array Value} {below : List Frame} {meth : Method} {c : Code} {H : Heap} {locs : List Loc} {cells slots : Nat}
theorem vx_callSU {T : State} {locs : List Loc} {cells slots : Nat} (X : Stand p l e R s m args below meth c T locs cells slots) (hexec : p.tables.exec = Jvm.exec) {own : String} {index : Nat} {y : MethodName} {bytes : ByteArray} {maxL : Nat} {ret : Option FieldType}
    (hown : s.vm.findClass own = some m.cls) (hlink : (Cond.methodLink own index y).before args s = true) (hsame : (Cond.sameMethod y.cls y.cls y.name y.desc).before args s = true) (hsup : (Cond.superclass own y.cls).before args s = true)
    (hinst : (Cond.instanceMethod y).before args s = true) (hcode : (Cond.code y bytes maxL ret).before args s = true) (hno : y.name ≠ "<init>")
    {W : Nat} {Pre : Pt → Array Value → Prop} {Post : Pt → Array Value → Option Value → Pt → Prop} {PostX : Pt → Array Value → Addr → Pt → Prop} (hK : vx_Back l R p e below s args y 3 W Pre Post PostX)
    {b : Addr} {cellB : Cell} {kB : Class} (hcell : T.heap[b]? = some cellB) (hobj : cellB.vm.isStatics = false) (hkB : s.vm.classes[cellB.cls]? = some kB)
    {g : JFrame} (hg : g.method = m) (hsize : g.locals.size = c.maxLocals) {argsL rest : List Value} (hlen : ∀ sig, parseMethodDescriptor y.desc = some sig → argsL.length = sig.parameters.length)
    (hstack : g.stack = argsL.reverse ++ .ref b :: rest) (hW : 2 * g.monitorRoom + (rest.map fun v => v.category).sum ≤ W) (hdg : decode c.code g.pc = .ok (.invokespecial index, 3))
    (hpre : ∀ vm₁, s.WarmedH vm₁ → Pre ⟨T.setVm vm₁, locs, cells, slots⟩ (Value.ref b :: argsL).toArray) :
    (∃ (v : Option Value) (vm₁ : Vm) (B : Pt), s.WarmedH vm₁ ∧ Stand p l e R s m args below meth c B.U B.locs B.cells B.slots ∧ Post ⟨T.setVm vm₁, locs, cells, slots⟩ (Value.ref b :: argsL).toArray v B ∧
      ∀ target, Steps p.tables e below (B.U.setTop { g with pc := g.pc + 3, stack := v.toList ++ rest }) target → Steps p.tables e below (T.setTop g) target) ∨
    (∃ (q : Addr) (vm₁ : Vm) (B : Pt), s.WarmedH vm₁ ∧ Stand p l e R s m args below meth c B.U B.locs B.cells B.slots ∧ PostX ⟨T.setVm vm₁, locs, cells, slots⟩ (Value.ref b :: argsL).toArray q B ∧
      Steps p.tables e below (T.setTop g) ((B.U.setTop { g with stack := rest }).pushFrame (.throwing q))) := by
  obtain ⟨mk, methM, hnamed, hmethM, hstM, habM⟩ := Cond.instanceMethod_spec hinst
  obtain ⟨methM', cM, hmethM', -, -, -, -, -, -, hsigM⟩ := Cond.code_spec hnamed hcode
  cases hmethM.symm.trans hmethM'
  obtain ⟨ps, dk, kp, hps, hdk, hkp, hsuper, -, -, hnid⟩ := Cond.superclass_spec hown hsup
  have hn : s.methodNamed? ⟨y.cls, y.name, y.desc⟩ = some mk := hnamed
  have hpm : ps = mk.cls := Option.some.inj (hps.symm.trans (findClass_of_methodNamed hnamed))
  have hsub : s.vm.isSubclass ps mk.cls = true := by rw [hpm]; simp [Vm.isSubclass, Vm.isSubclassAux]
  obtain ⟨vm₁, X₁, hstep₁⟩ := X.invokespecialUp hexec hown hlink hsame hn hmethM hstM habM hno hdk hnid hps hsuper hsub (a := b) (cell := cellB) hcell
    (fun z h => by rw [h] at hobj; cases hobj) hkB (g := g) hg (argsL := argsL) (rest := rest) (hlen _ hsigM) hstack hdg
  rcases hK m meth c ⟨T.setVm vm₁, locs, cells, slots⟩ { g with stack := rest } (.invokespecial index) mk (Value.ref b :: argsL).toArray X₁ hg hsize hdg hW (X₁.named hnamed) (hpre vm₁ X₁.warmed) with ⟨v, B, X', hpost, hsteps⟩ | ⟨q, B, X', hpost, hsteps⟩
  · exact Or.inl ⟨v, vm₁, B, X₁.warmed, X', hpost, fun target h => hstep₁ _ (by rw [doInvoke_state]; exact hsteps.trans h)⟩
  · exact Or.inr ⟨q, vm₁, B, X₁.warmed, X', hpost, hstep₁ _ (by rw [doInvoke_state]; exact hsteps)⟩
theorem vx_runSU {y : MethodName} {bytes cc : ByteArray} {maxL nL mc ms n index : Nat} {ret : Option FieldType} {ws : List Cond} {rm : Room} {Pc : Array Value → State → Prop} {Qc : Array Value → State → Outcome → State → Prop} {XC : String → State → State → Prop} {free : Addr → Prop} {Ts : List Cond} {own C : String} {cC : ClassId} {b : Addr} {As rest : List Value} {g : JFrame}
    (hat : ClassAt s C cC) (S : CallFix p m c cc nL s args Ts own) (hM : vx_Met l y ws rm Pc Qc XC mc ms free) (cw : va_CS R s args own index y bytes maxL ret ws rm mc ms n) (hp : PreV s H C b Pc As)
    (hg : g.method = m) (hn : As.length = n) (hsize : g.locals.size = nL) (hstack : g.stack = As.reverse ++ .ref b :: rest) (hW : 2 * g.monitorRoom + (rest.map fun v => v.category).sum ≤ 8) (hdg : decode cc g.pc = .ok (.invokespecial index, 3)) (hf : cells + mc ≤ R.cells ∧ slots + ms ≤ R.slots) :
    vx_Run p l e R s m args below meth c H locs cells slots mc ms g rest (Qc (Value.ref b :: As).toArray) XC free := by
  obtain ⟨⟨hrc, hrs, hfr, hlo, hws, hcw⟩, hl1, hl2, hl3, hl4, hini, hcode, hno, hlen⟩ := cw
  have hK : vx_Back l R p e below s args y 3 8 (PreOf R mc ms Pc) (PostOf Qc mc ms free) (vx_Post XC mc ms free) := vx_back (bytes := bytes) (maxL := maxL) (ret := ret) hM hp.1 hrc hrs hfr hlo hws hcw (fun a' U hW => word_at hW (Or.inl (by first | rfl | simp [Cond.onTables, Cond.keeps, Cond.steady])) hini)
  obtain ⟨hx, hb, hml, ho, -⟩ := S
  obtain ⟨-, ⟨cellB, hcB, hoB, hclB⟩, hPc⟩ := hp
  obtain ⟨hfc, kB, hkB, -⟩ := hat
  cases hfc.symm.trans hclB
  intro T hT X
  rcases vx_callSU X hx (bytes := bytes) (maxL := maxL) (ret := ret) ho hl1 hl2 hl3 hl4 hcode hno hK (by rw [hT]; exact hcB) hoB hkB hg (hsize.trans hml.symm) (argsL := As) (rest := rest) (fun sig h => hn.trans (hlen sig h)) hstack hW (by rw [hb]; exact hdg)
    (fun vm₁ hW₁ => ⟨hf.1, hf.2, hPc (T.setVm vm₁) hT hW₁⟩) with ⟨v, vm₁, ⟨U', l2, c2, s2⟩, hW₁, X', ⟨g', mk, t, L, e1, e2, hq, h1, hL, h2, h3⟩, st⟩ | ⟨q, vm₁, ⟨U', l2, c2, s2⟩, hW₁, X', ⟨g', mk, t, L, E, ce, e1, e2, hq, hce, hcv, hcl, h1, hL, h2, h3⟩, st⟩
  · dsimp only [Pt.U, Pt.locs, Pt.cells, Pt.slots] at X' e1 e2 h1 h2 h3 st
    subst h1; subst h2; subst h3
    exact Or.inl ⟨v, (T.setVm vm₁).calling g' mk (Value.ref b :: As).toArray, t, U', L, hT, X', hL, e1, e2, hq, st⟩
  · dsimp only [Pt.U, Pt.locs, Pt.cells, Pt.slots] at X' e1 e2 h1 h2 h3 st hcl
    subst h1; subst h2; subst h3
    exact Or.inr ⟨q, (T.setVm vm₁).calling g' mk (Value.ref b :: As).toArray, t, U', L, E, ce, hT, X', hL, e1, e2, hq, hce, hcv, vx_cls hW₁ hcl, st⟩
end
/-! ===== END ===== -/
/-! ===== BEGIN a private method of a nest mate that may throw (follows va_callVN, va_callSN, va_runVN, va_runSN) ===== -/
section
variable {p : Program} {l : Launch} {e : Env} {R : Room} {s : State} {m : MethodId} {args : Array Value} {below : List Frame} {meth : Method} {c : Code} {H : Heap} {locs : List Loc} {cells slots : Nat}
variable {T : State}
theorem vx_callVN (X : Stand p l e R s m args below meth c T locs cells slots) (hexec : p.tables.exec = Jvm.exec) {own C : String} {index : Nat} {host : String} {y : MethodName} {bytes : ByteArray} {maxL : Nat} {ret : Option FieldType}
    (hown : s.vm.findClass own = some m.cls) (hlink : (Cond.methodLinkNest own index y host).before args s = true) (hinst : (Cond.instanceMethod y).before args s = true) (hsel : (Cond.selects C y y).before args s = true)
    (hcode : (Cond.code y bytes maxL ret).before args s = true) (hy : y.cls ≠ "java/lang/invoke/MethodHandle" ∧ y.cls ≠ "java/lang/invoke/VarHandle")
    {W : Nat} {Pre : Pt → Array Value → Prop} {Post : Pt → Array Value → Option Value → Pt → Prop} {PostX : Pt → Array Value → Addr → Pt → Prop} (hK : vx_Back l R p e below s args y 3 W Pre Post PostX)
    {b : Addr} {cellB : Cell} (hcell : T.heap[b]? = some cellB) (hobj : cellB.vm.isStatics = false) (hcls : s.vm.findClass C = some cellB.cls)
    {g : JFrame} (hg : g.method = m) (hsize : g.locals.size = c.maxLocals) {argsL rest : List Value} (hlen : ∀ sig, parseMethodDescriptor y.desc = some sig → argsL.length = sig.parameters.length)
    (hstack : g.stack = argsL.reverse ++ .ref b :: rest) (hW : 2 * g.monitorRoom + (rest.map fun v => v.category).sum ≤ W) (hdg : decode c.code g.pc = .ok (.invokevirtual index, 3))
    (hpre : ∀ vm₁, s.WarmedH vm₁ → Pre ⟨T.setVm vm₁, locs, cells, slots⟩ (Value.ref b :: argsL).toArray) :
    (∃ (v : Option Value) (vm₁ : Vm) (B : Pt), s.WarmedH vm₁ ∧ Stand p l e R s m args below meth c B.U B.locs B.cells B.slots ∧ Post ⟨T.setVm vm₁, locs, cells, slots⟩ (Value.ref b :: argsL).toArray v B ∧
      ∀ target, Steps p.tables e below (B.U.setTop { g with pc := g.pc + 3, stack := v.toList ++ rest }) target → Steps p.tables e below (T.setTop g) target) ∨
    (∃ (q : Addr) (vm₁ : Vm) (B : Pt), s.WarmedH vm₁ ∧ Stand p l e R s m args below meth c B.U B.locs B.cells B.slots ∧ PostX ⟨T.setVm vm₁, locs, cells, slots⟩ (Value.ref b :: argsL).toArray q B ∧
      Steps p.tables e below (T.setTop g) ((B.U.setTop { g with stack := rest }).pushFrame (.throwing q))) := by
  obtain ⟨mk, methM, hnamed, hmethM, hstM, habM⟩ := Cond.instanceMethod_spec hinst
  obtain ⟨methM', cM, hmethM', -, -, -, -, -, -, hsigM⟩ := Cond.code_spec hnamed hcode
  cases hmethM.symm.trans hmethM'
  obtain ⟨c2, r2, m2, q1, q2, q3, q4, kP, hkP, hkPi⟩ := Cond.selects_spec hsel
  cases hcls.symm.trans q1
  cases (State.methodFound?_of_named hnamed hy).symm.trans q2
  cases hnamed.symm.trans q3
  have hselP : selectMethod e.platform s.vm cellB.cls mk = .method mk := by rw [Launch.admits_selectMethod X.admits]; exact q4
  obtain ⟨vm₁, X₁, hstep₁⟩ := X.invokevirtualNest hexec hown hlink hnamed hmethM hstM hkP hkPi hy (a := b) (cell := cellB) hcell
    (fun z h => by rw [h] at hobj; cases hobj) hselP hmethM habM hkP hkPi (g := g) hg (argsL := argsL) (rest := rest) (hlen _ hsigM) hstack hdg
  rcases hK m meth c ⟨T.setVm vm₁, locs, cells, slots⟩ { g with stack := rest } (.invokevirtual index) mk (Value.ref b :: argsL).toArray X₁ hg hsize hdg hW (X₁.named hnamed) (hpre vm₁ X₁.warmed) with ⟨v, B, X', hpost, hsteps⟩ | ⟨q, B, X', hpost, hsteps⟩
  · exact Or.inl ⟨v, vm₁, B, X₁.warmed, X', hpost, fun target h => hstep₁ _ fun acts => by rw [doInvoke_state]; exact hsteps.trans h⟩
  · exact Or.inr ⟨q, vm₁, B, X₁.warmed, X', hpost, hstep₁ _ fun acts => by rw [doInvoke_state]; exact hsteps⟩
theorem vx_callSN (X : Stand p l e R s m args below meth c T locs cells slots) (hexec : p.tables.exec = Jvm.exec) {own : String} {index : Nat} {host : String} {y : MethodName} {bytes : ByteArray} {maxL : Nat} {ret : Option FieldType}
    (hown : s.vm.findClass own = some m.cls) (hlink : (Cond.methodLinkNest own index y host).before args s = true) (hstat : (Cond.static y).before args s = true) (hinit : (Cond.initialized y.cls).before args s = true)
    (hcode : (Cond.code y bytes maxL ret).before args s = true) (hy : y.cls ≠ "java/lang/invoke/MethodHandle" ∧ y.cls ≠ "java/lang/invoke/VarHandle")
    {W : Nat} {Pre : Pt → Array Value → Prop} {Post : Pt → Array Value → Option Value → Pt → Prop} {PostX : Pt → Array Value → Addr → Pt → Prop} (hK : vx_Back l R p e below s args y 3 W Pre Post PostX)
    {g : JFrame} (hg : g.method = m) (hsize : g.locals.size = c.maxLocals) {argsL rest : List Value} (hlen : ∀ sig, parseMethodDescriptor y.desc = some sig → argsL.length = sig.parameters.length)
    (hstack : g.stack = argsL.reverse ++ rest) (hW : 2 * g.monitorRoom + (rest.map fun v => v.category).sum ≤ W) (hdg : decode c.code g.pc = .ok (.invokestatic index, 3))
    (hpre : ∀ vm₁, s.WarmedH vm₁ → Pre ⟨T.setVm vm₁, locs, cells, slots⟩ argsL.toArray) :
    (∃ (v : Option Value) (vm₁ : Vm) (B : Pt), s.WarmedH vm₁ ∧ Stand p l e R s m args below meth c B.U B.locs B.cells B.slots ∧ Post ⟨T.setVm vm₁, locs, cells, slots⟩ argsL.toArray v B ∧
      ∀ target, Steps p.tables e below (B.U.setTop { g with pc := g.pc + 3, stack := v.toList ++ rest }) target → Steps p.tables e below (T.setTop g) target) ∨
    (∃ (q : Addr) (vm₁ : Vm) (B : Pt), s.WarmedH vm₁ ∧ Stand p l e R s m args below meth c B.U B.locs B.cells B.slots ∧ PostX ⟨T.setVm vm₁, locs, cells, slots⟩ argsL.toArray q B ∧
      Steps p.tables e below (T.setTop g) ((B.U.setTop { g with stack := rest }).pushFrame (.throwing q))) := by
  obtain ⟨mk, hnamed⟩ := Cond.code_named hcode
  obtain ⟨methM, cM, hmethM, -, -, -, -, -, -, hsigM⟩ := Cond.code_spec hnamed hcode
  have hstatic : methM.isStatic = true := Cond.static_spec hnamed hmethM hstat
  obtain ⟨kP, hkP, -⟩ := className_of_methodNamed hnamed
  have hinitP : kP.init = .initialized := Cond.initialized_spec (findClass_of_methodNamed hnamed) hkP hinit
  obtain ⟨vm₁, X₁, hstep₁⟩ := X.invokestaticNest hexec hown hlink hnamed hmethM hstatic hkP hinitP hy (g := g) hg (argsL := argsL) (rest := rest) (hlen _ hsigM) hstack hdg
  rcases hK m meth c ⟨T.setVm vm₁, locs, cells, slots⟩ { g with stack := rest } (.invokestatic index) mk argsL.toArray X₁ hg hsize hdg hW (X₁.named hnamed) (hpre vm₁ X₁.warmed) with ⟨v, B, X', hpost, hsteps⟩ | ⟨q, B, X', hpost, hsteps⟩
  · exact Or.inl ⟨v, vm₁, B, X₁.warmed, X', hpost, fun target h => hstep₁ _ fun acts => by rw [doInvoke_state]; exact hsteps.trans h⟩
  · exact Or.inr ⟨q, vm₁, B, X₁.warmed, X', hpost, hstep₁ _ fun acts => by rw [doInvoke_state]; exact hsteps⟩
theorem vx_runVN {y : MethodName} {bytes cc : ByteArray} {maxL nL mc ms n index : Nat} {ret : Option FieldType} {ws : List Cond} {rm : Room} {Pc : Array Value → State → Prop} {Qc : Array Value → State → Outcome → State → Prop} {XC : String → State → State → Prop} {free : Addr → Prop} {Ts : List Cond} {own C host : String} {b : Addr} {As rest : List Value} {g : JFrame}
    (S : CallFix p m c cc nL s args Ts own) (hM : vx_Met l y ws rm Pc Qc XC mc ms free) (cw : va_CN R s args own index y host bytes maxL ret ws rm mc ms n ∧ (Cond.instanceMethod y).before args s = true ∧ (Cond.selects C y y).before args s = true) (hp : PreV s H C b Pc As)
    (hg : g.method = m) (hn : As.length = n) (hsize : g.locals.size = nL) (hstack : g.stack = As.reverse ++ .ref b :: rest) (hW : 2 * g.monitorRoom + (rest.map fun v => v.category).sum ≤ 8) (hdg : decode cc g.pc = .ok (.invokevirtual index, 3)) (hf : cells + mc ≤ R.cells ∧ slots + ms ≤ R.slots) :
    vx_Run p l e R s m args below meth c H locs cells slots mc ms g rest (Qc (Value.ref b :: As).toArray) XC free := by
  obtain ⟨⟨⟨hrc, hrs, hfr, hlo, hws, hcw⟩, hcode, hini, hy, hlen, hl⟩, hx1, hx2⟩ := cw
  have hK : vx_Back l R p e below s args y 3 8 (PreOf R mc ms Pc) (PostOf Qc mc ms free) (vx_Post XC mc ms free) := vx_back (bytes := bytes) (maxL := maxL) (ret := ret) hM hp.1 hrc hrs hfr hlo hws hcw (fun a' U hW => word_at hW (Or.inl (by first | rfl | simp [Cond.onTables, Cond.keeps, Cond.steady])) hini)
  obtain ⟨hx, hb, hml, ho, -⟩ := S
  obtain ⟨-, ⟨cellB, hcB, hoB, hclB⟩, hPc⟩ := hp
  intro T hT X
  rcases vx_callVN X hx (C := C) (bytes := bytes) (maxL := maxL) (ret := ret) ho hl hx1 hx2 hcode hy hK (by rw [hT]; exact hcB) hoB hclB hg (hsize.trans hml.symm) (argsL := As) (rest := rest) (fun sig h => hn.trans (hlen sig h)) hstack hW (by rw [hb]; exact hdg)
    (fun vm₁ hW₁ => ⟨hf.1, hf.2, hPc (T.setVm vm₁) hT hW₁⟩) with ⟨v, vm₁, ⟨U', l2, c2, s2⟩, hW₁, X', ⟨g', mk, t, L, e1, e2, hq, h1, hL, h2, h3⟩, st⟩ | ⟨q, vm₁, ⟨U', l2, c2, s2⟩, hW₁, X', ⟨g', mk, t, L, E, ce, e1, e2, hq, hce, hcv, hcl, h1, hL, h2, h3⟩, st⟩
  · dsimp only [Pt.U, Pt.locs, Pt.cells, Pt.slots] at X' e1 e2 h1 h2 h3 st
    subst h1; subst h2; subst h3
    exact Or.inl ⟨v, (T.setVm vm₁).calling g' mk (Value.ref b :: As).toArray, t, U', L, hT, X', hL, e1, e2, hq, st⟩
  · dsimp only [Pt.U, Pt.locs, Pt.cells, Pt.slots] at X' e1 e2 h1 h2 h3 st hcl
    subst h1; subst h2; subst h3
    exact Or.inr ⟨q, (T.setVm vm₁).calling g' mk (Value.ref b :: As).toArray, t, U', L, E, ce, hT, X', hL, e1, e2, hq, hce, hcv, vx_cls hW₁ hcl, st⟩
theorem vx_runSN {y : MethodName} {bytes cc : ByteArray} {maxL nL mc ms n index : Nat} {ret : Option FieldType} {ws : List Cond} {rm : Room} {Pc : Array Value → State → Prop} {Qc : Array Value → State → Outcome → State → Prop} {XC : String → State → State → Prop} {free : Addr → Prop} {Ts : List Cond} {own host : String} {As rest : List Value} {g : JFrame}
    (S : CallFix p m c cc nL s args Ts own) (hM : vx_Met l y ws rm Pc Qc XC mc ms free) (cw : va_CN R s args own index y host bytes maxL ret ws rm mc ms n ∧ (Cond.static y).before args s = true ∧ True) (hp : PreS s H Pc As)
    (hg : g.method = m) (hn : As.length = n) (hsize : g.locals.size = nL) (hstack : g.stack = As.reverse ++ rest) (hW : 2 * g.monitorRoom + (rest.map fun v => v.category).sum ≤ 8) (hdg : decode cc g.pc = .ok (.invokestatic index, 3)) (hf : cells + mc ≤ R.cells ∧ slots + ms ≤ R.slots) :
    vx_Run p l e R s m args below meth c H locs cells slots mc ms g rest (Qc As.toArray) XC free := by
  obtain ⟨⟨⟨hrc, hrs, hfr, hlo, hws, hcw⟩, hcode, hini, hy, hlen, hl⟩, hx1, hx2⟩ := cw
  have hK : vx_Back l R p e below s args y 3 8 (PreOf R mc ms Pc) (PostOf Qc mc ms free) (vx_Post XC mc ms free) := vx_back (bytes := bytes) (maxL := maxL) (ret := ret) hM hp.1 hrc hrs hfr hlo hws hcw (fun a' U hW => word_at hW (Or.inl (by first | rfl | simp [Cond.onTables, Cond.keeps, Cond.steady])) hini)
  obtain ⟨hx, hb, hml, ho, -⟩ := S
  have hPc := hp.2
  intro T hT X
  rcases vx_callSN X hx (bytes := bytes) (maxL := maxL) (ret := ret) ho hl hx1 hini hcode hy hK hg (hsize.trans hml.symm) (argsL := As) (rest := rest) (fun sig h => hn.trans (hlen sig h)) hstack hW (by rw [hb]; exact hdg)
    (fun vm₁ hW₁ => ⟨hf.1, hf.2, hPc (T.setVm vm₁) hT hW₁⟩) with ⟨v, vm₁, ⟨U', l2, c2, s2⟩, hW₁, X', ⟨g', mk, t, L, e1, e2, hq, h1, hL, h2, h3⟩, st⟩ | ⟨q, vm₁, ⟨U', l2, c2, s2⟩, hW₁, X', ⟨g', mk, t, L, E, ce, e1, e2, hq, hce, hcv, hcl, h1, hL, h2, h3⟩, st⟩
  · dsimp only [Pt.U, Pt.locs, Pt.cells, Pt.slots] at X' e1 e2 h1 h2 h3 st
    subst h1; subst h2; subst h3
    exact Or.inl ⟨v, (T.setVm vm₁).calling g' mk As.toArray, t, U', L, hT, X', hL, e1, e2, hq, st⟩
  · dsimp only [Pt.U, Pt.locs, Pt.cells, Pt.slots] at X' e1 e2 h1 h2 h3 st hcl
    subst h1; subst h2; subst h3
    exact Or.inr ⟨q, (T.setVm vm₁).calling g' mk As.toArray, t, U', L, E, ce, hT, X', hL, e1, e2, hq, hce, hcv, vx_cls hW₁ hcl, st⟩
end
/-! ===== END ===== -/
/-! ===== BEGIN calls by an interface of methods that may throw (vx_callIF, vx_runF follow va_callIF, va_runF of this kit) ===== -/
section
variable {p : Program} {l : Launch} {e : Env} {R : Room} {s : State} {m : MethodId} {args : Array Value} {below : List Frame} {meth : Method} {c : Code} {H : Heap} {locs : List Loc} {cells slots : Nat} {Q : State → Prop}
variable {mc ms : Nat} {free : Addr → Prop} {A0 A1 : Nat → Prop} {H0 : Heap} {a : Array Value} {pc : Nat} {ls : Array Slot} {st0 rest : List Value}
def vx_Run5 (p : Program) (l : Launch) (e : Env) (R : Room) (s : State) (m : MethodId) (args : Array Value) (below : List Frame) (meth : Method) (c : Code) (H : Heap) (locs : List Loc) (cells slots mc ms : Nat) (g : JFrame) (rest : List Value) (Qa : State → Outcome → State → Prop) (XC : String → State → State → Prop) (free : Addr → Prop) : Prop :=
  ∀ T : State, T.heap = H → Stand p l e R s m args below meth c T locs cells slots →
    (∃ (v : Option Value) (st₀ t T' : State) (L : List Loc), st₀.heap = H ∧ Stand p l e R s m args below meth c T' (locs ++ L) (cells + mc) (slots + ms) ∧ (∀ q ∈ L, free q.base) ∧ T'.heap = t.heap ∧ T'.vm = t.vm ∧ Qa st₀ (.returned v) t ∧
      Goes p e below T g T' { g with pc := g.pc + 5, stack := v.toList ++ rest }) ∨
    (∃ (q : Addr) (st₀ t T' : State) (L : List Loc) (E : String) (ce : Cell), st₀.heap = H ∧ Stand p l e R s m args below meth c T' (locs ++ L) (cells + mc) (slots + ms) ∧ (∀ z ∈ L, free z.base) ∧ T'.heap = t.heap ∧ T'.vm = t.vm ∧ XC E st₀ t ∧ t.heap[q]? = some ce ∧ ce.vm = .none ∧ s.vm.findClass E = some ce.cls ∧
      Steps p.tables e below (T.setTop g) ((T'.setTop { g with stack := rest }).pushFrame (.throwing q)))
theorem vx_callIF {T : State} (X : Stand p l e R s m args below meth c T locs cells slots) (hexec : p.tables.exec = Jvm.exec) {own C : String} {index count : Nat} {x y : MethodName} {bytes : ByteArray} {maxL : Nat} {ret : Option FieldType}
    (hown : s.vm.findClass own = some m.cls) (hlink : (Cond.methodLink own index x).before args s = true) (hdecl : (Cond.declares x).before args s = true) (hface : (Cond.interfaceMethod x.cls x.cls x.name x.desc).before args s = true)
    (hsel : (Cond.selects C x y).before args s = true) (hinst : (Cond.instanceMethod y).before args s = true) (hpub : (Cond.publicMethod y).before args s = true) (hunh : (Cond.unhidden C x.name x.desc).before args s = true)
    (hcast : (Cond.castable C x.cls).before args s = true) (hcode : (Cond.code y bytes maxL ret).before args s = true) (hx : x.cls ≠ "java/lang/invoke/MethodHandle" ∧ x.cls ≠ "java/lang/invoke/VarHandle")
    {W9 : Nat} {Pre : Pt → Array Value → Prop} {Post : Pt → Array Value → Option Value → Pt → Prop} {PostX : Pt → Array Value → Addr → Pt → Prop} (hK : vx_Back l R p e below s args y 5 W9 Pre Post PostX)
    {b : Addr} {cellB : Cell} {kB : Class} (hcell : T.heap[b]? = some cellB) (hobj : cellB.vm.isStatics = false) (hcls : s.vm.findClass C = some cellB.cls) (hkB : s.vm.classes[cellB.cls]? = some kB)
    {g : JFrame} (hg : g.method = m) (hsize : g.locals.size = c.maxLocals) {argsL rest : List Value} (hlen : ∀ sig, parseMethodDescriptor x.desc = some sig → argsL.length = sig.parameters.length)
    (hstack : g.stack = argsL.reverse ++ .ref b :: rest) (hW : 2 * g.monitorRoom + (rest.map fun v => v.category).sum ≤ W9) (hdg : decode c.code g.pc = .ok (.invokeinterface index count, 5))
    (hpre : ∀ vm₁, s.WarmedH vm₁ → Pre ⟨T.setVm vm₁, locs, cells, slots⟩ (Value.ref b :: argsL).toArray) :
    (∃ (v : Option Value) (vm₁ : Vm) (B : Pt), s.WarmedH vm₁ ∧ Stand p l e R s m args below meth c B.U B.locs B.cells B.slots ∧ Post ⟨T.setVm vm₁, locs, cells, slots⟩ (Value.ref b :: argsL).toArray v B ∧
      ∀ target, Steps p.tables e below (B.U.setTop { g with pc := g.pc + 5, stack := v.toList ++ rest }) target → Steps p.tables e below (T.setTop g) target) ∨
    (∃ (q : Addr) (vm₁ : Vm) (B : Pt), s.WarmedH vm₁ ∧ Stand p l e R s m args below meth c B.U B.locs B.cells B.slots ∧ PostX ⟨T.setVm vm₁, locs, cells, slots⟩ (Value.ref b :: argsL).toArray q B ∧
      Steps p.tables e below (T.setTop g) ((B.U.setTop { g with stack := rest }).pushFrame (.throwing q))) := by
  obtain ⟨r0, r, hn, hrm, hstR, hsigR⟩ := Cond.declares_spec hdecl
  obtain ⟨cL, kL, r1, hcL, hkL, hiL, hfoundL, hn1⟩ := Cond.interfaceMethod_spec hface
  cases hn.symm.trans hn1
  have hr0cls : r0.cls = cL := Option.some.inj ((findClass_of_methodNamed hn).symm.trans hcL)
  obtain ⟨hnameR, hdescR⟩ := name_of_methodNamed hn hrm
  obtain ⟨mk, methM, hnamed, hmethM, -, habM⟩ := Cond.instanceMethod_spec hinst
  obtain ⟨c2, r2, m2, q1, q2, q3, q4, -⟩ := Cond.selects_spec hsel
  cases hcls.symm.trans q1
  cases hfoundL.symm.trans q2
  cases hnamed.symm.trans q3
  have hselP : selectMethod e.platform s.vm cellB.cls r0 = .method mk := by rw [Launch.admits_selectMethod X.admits]; exact q4
  have hpubM : hasFlag methM.accessFlags Acc.public_ = true := Cond.publicMethod_spec hnamed hmethM hpub
  have hway : ((cellB.cls :: s.vm.superclasses cellB.cls).any fun k => (declaredIn s.vm r.name r.desc k).any fun (_, z) => z.isPrivate || z.isStatic) = false := by
    rw [hnameR, hdescR]; exact Cond.unhidden_spec hcls hunh
  obtain ⟨c3, t3, w1, w2, w3⟩ := Cond.castable_spec hcast
  cases hcls.symm.trans w1
  cases hcL.symm.trans w2
  obtain ⟨vm₁, X₁, hstep₁⟩ := X.invokeinterface hexec hown hlink hn hrm hstR (by rw [hr0cls]; exact hkL) hiL hx (a := b) (cell := cellB) (kcell := kB) hcell
    (fun z h => by rw [h] at hobj; cases hobj) hkB (by rw [hr0cls]; exact w3) hselP hmethM hway hpubM habM (g := g) hg (argsL := argsL) (rest := rest) (hlen _ hsigR) hstack hdg
  rcases hK m meth c ⟨T.setVm vm₁, locs, cells, slots⟩ { g with stack := rest } (.invokeinterface index count) mk (Value.ref b :: argsL).toArray X₁ hg hsize hdg hW (X₁.named hnamed) (hpre vm₁ X₁.warmed) with ⟨v, B, X', hpost, hsteps⟩ | ⟨q, B, X', hpost, hsteps⟩
  · exact Or.inl ⟨v, vm₁, B, X₁.warmed, X', hpost, fun target h => hstep₁ _ fun acts => by rw [doInvoke_state]; exact hsteps.trans h⟩
  · exact Or.inr ⟨q, vm₁, B, X₁.warmed, X', hpost, hstep₁ _ fun acts => by rw [doInvoke_state]; exact hsteps⟩
theorem vx_runF {x y : MethodName} {bytes cc : ByteArray} {maxL nL mc ms n index count : Nat} {ret : Option FieldType} {ws : List Cond} {rm : Room} {Pc : Array Value → State → Prop} {Qc : Array Value → State → Outcome → State → Prop} {XC : String → State → State → Prop} {free : Addr → Prop} {Ts : List Cond} {own C : String} {cC : ClassId} {b : Addr} {As rest : List Value} {g : JFrame}
    (hat : ClassAt s C cC) (S : CallFix p m c cc nL s args Ts own) (hM : vx_Met l y ws rm Pc Qc XC mc ms free) (cw : va_CI R s args own C index x y bytes maxL ret ws rm mc ms n) (hp : PreV s H C b Pc As)
    (hg : g.method = m) (hn : As.length = n) (hsize : g.locals.size = nL) (hstack : g.stack = As.reverse ++ .ref b :: rest) (hW : 2 * g.monitorRoom + (rest.map fun v => v.category).sum ≤ 8) (hdg : decode cc g.pc = .ok (.invokeinterface index count, 5)) (hf : cells + mc ≤ R.cells ∧ slots + ms ≤ R.slots) :
    vx_Run5 p l e R s m args below meth c H locs cells slots mc ms g rest (Qc (Value.ref b :: As).toArray) XC free := by
  obtain ⟨hrc, hrs, hfr, hlo, hws, hcw⟩ := cw.back
  have hini := cw.init
  have hK : vx_Back l R p e below s args y 5 8 (PreOf R mc ms Pc) (PostOf Qc mc ms free) (vx_Post XC mc ms free) := vx_back (bytes := bytes) (maxL := maxL) (ret := ret) hM hp.1 hrc hrs hfr hlo hws hcw (fun a' U hW => word_at hW (Or.inl (by first | rfl | simp [Cond.onTables, Cond.keeps, Cond.steady])) hini)
  obtain ⟨hx, hb, hml, ho, -⟩ := S
  obtain ⟨-, ⟨cellB, hcB, hoB, hclB⟩, hPc⟩ := hp
  obtain ⟨hfc, kB, hkB, -⟩ := hat
  cases hfc.symm.trans hclB
  intro T hT X
  rcases vx_callIF X hx (C := C) (bytes := bytes) (maxL := maxL) (ret := ret) ho cw.link cw.decl cw.face cw.sel cw.inst cw.pub cw.unh cw.cast cw.code cw.notMH hK (by rw [hT]; exact hcB) hoB hclB hkB hg (hsize.trans hml.symm) (argsL := As) (rest := rest) (fun sig h => hn.trans (cw.len sig h)) hstack hW (by rw [hb]; exact hdg)
    (fun vm₁ hW₁ => ⟨hf.1, hf.2, hPc (T.setVm vm₁) hT hW₁⟩) with ⟨v, vm₁, ⟨U', l2, c2, s2⟩, hW₁, X', ⟨g', mk, t, L, e1, e2, hq, h1, hL, h2, h3⟩, st⟩ | ⟨q, vm₁, ⟨U', l2, c2, s2⟩, hW₁, X', ⟨g', mk, t, L, E, ce, e1, e2, hq, hce, hcv, hcl, h1, hL, h2, h3⟩, st⟩
  · dsimp only [Pt.U, Pt.locs, Pt.cells, Pt.slots] at X' e1 e2 h1 h2 h3 st
    subst h1; subst h2; subst h3
    exact Or.inl ⟨v, (T.setVm vm₁).calling g' mk (Value.ref b :: As).toArray, t, U', L, hT, X', hL, e1, e2, hq, st⟩
  · dsimp only [Pt.U, Pt.locs, Pt.cells, Pt.slots] at X' e1 e2 h1 h2 h3 st hcl
    subst h1; subst h2; subst h3
    exact Or.inr ⟨q, (T.setVm vm₁).calling g' mk (Value.ref b :: As).toArray, t, U', L, E, ce, hT, X', hL, e1, e2, hq, hce, hcv, vx_cls hW₁ hcl, st⟩
theorem vx_callFv {S SX : Type} {post : S → Prop} {px : SX → Prop} {B : S → State → Prop} {BX : String → SX → State → Prop} {AX : Nat → Prop} (hr : vx_Run5 p l e R s m args below meth c H locs cells slots mc ms (F0 m pc ls st0) rest (va_Qv post B A1 a) (vx_X px BX AX) free) (hS : va_S A0 H0 H locs) (hA : ∀ q, q < H.size → A1 q → A0 q) (hf : ∀ q, free q → A0 q) (hAX : ∀ q, q < H.size → AX q → A0 q)
    (kx : ∀ (E : String) (ce : Cell) (q9 : Addr) (u : SX) (t : State) (H1 : Heap) (locs1 : List Loc), t.heap = H1 → s.vm.Alike t.vm → px u → BX E u t → H.size ≤ H1.size → (∀ q : Nat, q < H.size → ¬ AX q → H1[q]? = H[q]?) → va_S A0 H0 H1 locs1 → H1[q9]? = some ce → ce.vm = .none → s.vm.findClass E = some ce.cls → vx_W p l e R s m args below meth c H1 locs1 (cells + mc) (slots + ms) Q (F0 m pc ls rest) q9)
    (kk : ∀ (u : S) (t : State) (H1 : Heap) (locs1 : List Loc), t.heap = H1 → s.vm.Alike t.vm → post u → B u t → H.size ≤ H1.size → (∀ q : Nat, q < H.size → ¬ A1 q → H1[q]? = H[q]?) → va_S A0 H0 H1 locs1 → W p l e R s m args below meth c H1 locs1 (cells + mc) (slots + ms) Q (F0 m (pc + 5) ls (rest))) : W p l e R s m args below meth c H locs cells slots Q (F0 m pc ls st0) := by
  intro T hT X
  rcases hr T hT X with ⟨v, st₀, t, T', L, h0, X', hL, e1, e2, ⟨⟨u, hv, hp, hb⟩, hF⟩, st⟩ | ⟨q, st₀, t, T', L, E, ce, h0, X', hL, e1, e2, ⟨u, hp, hb, hF⟩, hce, hcv, hcl, st⟩
  · cases hv
    obtain ⟨k1, k2, k3⟩ := vx_keep h0 e1 hS hA hf hL hF
    obtain ⟨t2, a1, b1⟩ := kk u t T'.heap (locs ++ L) e1.symm (by rw [← e2]; exact X'.warmed.alike) hp hb k1 k2 k3 T' rfl X'
    exact ⟨t2, st t2 a1, b1⟩
  · obtain ⟨k1, k2, k3⟩ := vx_keep h0 e1 hS hAX hf hL hF
    obtain ⟨t2, a1, b1⟩ := kx E ce q u t T'.heap (locs ++ L) e1.symm (by rw [← e2]; exact X'.warmed.alike) hp hb k1 k2 k3 (by rw [e1]; exact hce) hcv hcl T' rfl X'
    exact ⟨t2, st.trans a1, b1⟩
theorem vx_callFi {S SX : Type} {post : Int32 → S → Prop} {px : SX → Prop} {B : S → State → Prop} {BX : String → SX → State → Prop} {AX : Nat → Prop} (hr : vx_Run5 p l e R s m args below meth c H locs cells slots mc ms (F0 m pc ls st0) rest (va_Qi post B A1 a) (vx_X px BX AX) free) (hS : va_S A0 H0 H locs) (hA : ∀ q, q < H.size → A1 q → A0 q) (hf : ∀ q, free q → A0 q) (hAX : ∀ q, q < H.size → AX q → A0 q)
    (kx : ∀ (E : String) (ce : Cell) (q9 : Addr) (u : SX) (t : State) (H1 : Heap) (locs1 : List Loc), t.heap = H1 → s.vm.Alike t.vm → px u → BX E u t → H.size ≤ H1.size → (∀ q : Nat, q < H.size → ¬ AX q → H1[q]? = H[q]?) → va_S A0 H0 H1 locs1 → H1[q9]? = some ce → ce.vm = .none → s.vm.findClass E = some ce.cls → vx_W p l e R s m args below meth c H1 locs1 (cells + mc) (slots + ms) Q (F0 m pc ls rest) q9)
    (kk : ∀ (r : Int32) (u : S) (t : State) (H1 : Heap) (locs1 : List Loc), t.heap = H1 → s.vm.Alike t.vm → post r u → B u t → H.size ≤ H1.size → (∀ q : Nat, q < H.size → ¬ A1 q → H1[q]? = H[q]?) → va_S A0 H0 H1 locs1 → W p l e R s m args below meth c H1 locs1 (cells + mc) (slots + ms) Q (F0 m (pc + 5) ls (.int r :: rest))) : W p l e R s m args below meth c H locs cells slots Q (F0 m pc ls st0) := by
  intro T hT X
  rcases hr T hT X with ⟨v, st₀, t, T', L, h0, X', hL, e1, e2, ⟨⟨r, u, hv, hp, hb⟩, hF⟩, st⟩ | ⟨q, st₀, t, T', L, E, ce, h0, X', hL, e1, e2, ⟨u, hp, hb, hF⟩, hce, hcv, hcl, st⟩
  · cases hv
    obtain ⟨k1, k2, k3⟩ := vx_keep h0 e1 hS hA hf hL hF
    obtain ⟨t2, a1, b1⟩ := kk r u t T'.heap (locs ++ L) e1.symm (by rw [← e2]; exact X'.warmed.alike) hp hb k1 k2 k3 T' rfl X'
    exact ⟨t2, st t2 a1, b1⟩
  · obtain ⟨k1, k2, k3⟩ := vx_keep h0 e1 hS hAX hf hL hF
    obtain ⟨t2, a1, b1⟩ := kx E ce q u t T'.heap (locs ++ L) e1.symm (by rw [← e2]; exact X'.warmed.alike) hp hb k1 k2 k3 (by rw [e1]; exact hce) hcv hcl T' rfl X'
    exact ⟨t2, st.trans a1, b1⟩
theorem vx_callFl {S SX : Type} {post : Int64 → S → Prop} {px : SX → Prop} {B : S → State → Prop} {BX : String → SX → State → Prop} {AX : Nat → Prop} (hr : vx_Run5 p l e R s m args below meth c H locs cells slots mc ms (F0 m pc ls st0) rest (va_Ql post B A1 a) (vx_X px BX AX) free) (hS : va_S A0 H0 H locs) (hA : ∀ q, q < H.size → A1 q → A0 q) (hf : ∀ q, free q → A0 q) (hAX : ∀ q, q < H.size → AX q → A0 q)
    (kx : ∀ (E : String) (ce : Cell) (q9 : Addr) (u : SX) (t : State) (H1 : Heap) (locs1 : List Loc), t.heap = H1 → s.vm.Alike t.vm → px u → BX E u t → H.size ≤ H1.size → (∀ q : Nat, q < H.size → ¬ AX q → H1[q]? = H[q]?) → va_S A0 H0 H1 locs1 → H1[q9]? = some ce → ce.vm = .none → s.vm.findClass E = some ce.cls → vx_W p l e R s m args below meth c H1 locs1 (cells + mc) (slots + ms) Q (F0 m pc ls rest) q9)
    (kk : ∀ (r : Int64) (u : S) (t : State) (H1 : Heap) (locs1 : List Loc), t.heap = H1 → s.vm.Alike t.vm → post r u → B u t → H.size ≤ H1.size → (∀ q : Nat, q < H.size → ¬ A1 q → H1[q]? = H[q]?) → va_S A0 H0 H1 locs1 → W p l e R s m args below meth c H1 locs1 (cells + mc) (slots + ms) Q (F0 m (pc + 5) ls (.long r :: rest))) : W p l e R s m args below meth c H locs cells slots Q (F0 m pc ls st0) := by
  intro T hT X
  rcases hr T hT X with ⟨v, st₀, t, T', L, h0, X', hL, e1, e2, ⟨⟨r, u, hv, hp, hb⟩, hF⟩, st⟩ | ⟨q, st₀, t, T', L, E, ce, h0, X', hL, e1, e2, ⟨u, hp, hb, hF⟩, hce, hcv, hcl, st⟩
  · cases hv
    obtain ⟨k1, k2, k3⟩ := vx_keep h0 e1 hS hA hf hL hF
    obtain ⟨t2, a1, b1⟩ := kk r u t T'.heap (locs ++ L) e1.symm (by rw [← e2]; exact X'.warmed.alike) hp hb k1 k2 k3 T' rfl X'
    exact ⟨t2, st t2 a1, b1⟩
  · obtain ⟨k1, k2, k3⟩ := vx_keep h0 e1 hS hAX hf hL hF
    obtain ⟨t2, a1, b1⟩ := kx E ce q u t T'.heap (locs ++ L) e1.symm (by rw [← e2]; exact X'.warmed.alike) hp hb k1 k2 k3 (by rw [e1]; exact hce) hcv hcl T' rfl X'
    exact ⟨t2, st.trans a1, b1⟩
theorem vx_callFf {S SX : Type} {post : UInt32 → S → Prop} {px : SX → Prop} {B : S → State → Prop} {BX : String → SX → State → Prop} {AX : Nat → Prop} (hr : vx_Run5 p l e R s m args below meth c H locs cells slots mc ms (F0 m pc ls st0) rest (va_Qf post B A1 a) (vx_X px BX AX) free) (hS : va_S A0 H0 H locs) (hA : ∀ q, q < H.size → A1 q → A0 q) (hf : ∀ q, free q → A0 q) (hAX : ∀ q, q < H.size → AX q → A0 q)
    (kx : ∀ (E : String) (ce : Cell) (q9 : Addr) (u : SX) (t : State) (H1 : Heap) (locs1 : List Loc), t.heap = H1 → s.vm.Alike t.vm → px u → BX E u t → H.size ≤ H1.size → (∀ q : Nat, q < H.size → ¬ AX q → H1[q]? = H[q]?) → va_S A0 H0 H1 locs1 → H1[q9]? = some ce → ce.vm = .none → s.vm.findClass E = some ce.cls → vx_W p l e R s m args below meth c H1 locs1 (cells + mc) (slots + ms) Q (F0 m pc ls rest) q9)
    (kk : ∀ (r : UInt32) (u : S) (t : State) (H1 : Heap) (locs1 : List Loc), t.heap = H1 → s.vm.Alike t.vm → post r u → B u t → H.size ≤ H1.size → (∀ q : Nat, q < H.size → ¬ A1 q → H1[q]? = H[q]?) → va_S A0 H0 H1 locs1 → W p l e R s m args below meth c H1 locs1 (cells + mc) (slots + ms) Q (F0 m (pc + 5) ls (.float r :: rest))) : W p l e R s m args below meth c H locs cells slots Q (F0 m pc ls st0) := by
  intro T hT X
  rcases hr T hT X with ⟨v, st₀, t, T', L, h0, X', hL, e1, e2, ⟨⟨r, u, hv, hp, hb⟩, hF⟩, st⟩ | ⟨q, st₀, t, T', L, E, ce, h0, X', hL, e1, e2, ⟨u, hp, hb, hF⟩, hce, hcv, hcl, st⟩
  · cases hv
    obtain ⟨k1, k2, k3⟩ := vx_keep h0 e1 hS hA hf hL hF
    obtain ⟨t2, a1, b1⟩ := kk r u t T'.heap (locs ++ L) e1.symm (by rw [← e2]; exact X'.warmed.alike) hp hb k1 k2 k3 T' rfl X'
    exact ⟨t2, st t2 a1, b1⟩
  · obtain ⟨k1, k2, k3⟩ := vx_keep h0 e1 hS hAX hf hL hF
    obtain ⟨t2, a1, b1⟩ := kx E ce q u t T'.heap (locs ++ L) e1.symm (by rw [← e2]; exact X'.warmed.alike) hp hb k1 k2 k3 (by rw [e1]; exact hce) hcv hcl T' rfl X'
    exact ⟨t2, st.trans a1, b1⟩
theorem vx_callFd {S SX : Type} {post : UInt64 → S → Prop} {px : SX → Prop} {B : S → State → Prop} {BX : String → SX → State → Prop} {AX : Nat → Prop} (hr : vx_Run5 p l e R s m args below meth c H locs cells slots mc ms (F0 m pc ls st0) rest (va_Qd post B A1 a) (vx_X px BX AX) free) (hS : va_S A0 H0 H locs) (hA : ∀ q, q < H.size → A1 q → A0 q) (hf : ∀ q, free q → A0 q) (hAX : ∀ q, q < H.size → AX q → A0 q)
    (kx : ∀ (E : String) (ce : Cell) (q9 : Addr) (u : SX) (t : State) (H1 : Heap) (locs1 : List Loc), t.heap = H1 → s.vm.Alike t.vm → px u → BX E u t → H.size ≤ H1.size → (∀ q : Nat, q < H.size → ¬ AX q → H1[q]? = H[q]?) → va_S A0 H0 H1 locs1 → H1[q9]? = some ce → ce.vm = .none → s.vm.findClass E = some ce.cls → vx_W p l e R s m args below meth c H1 locs1 (cells + mc) (slots + ms) Q (F0 m pc ls rest) q9)
    (kk : ∀ (r : UInt64) (u : S) (t : State) (H1 : Heap) (locs1 : List Loc), t.heap = H1 → s.vm.Alike t.vm → post r u → B u t → H.size ≤ H1.size → (∀ q : Nat, q < H.size → ¬ A1 q → H1[q]? = H[q]?) → va_S A0 H0 H1 locs1 → W p l e R s m args below meth c H1 locs1 (cells + mc) (slots + ms) Q (F0 m (pc + 5) ls (.double r :: rest))) : W p l e R s m args below meth c H locs cells slots Q (F0 m pc ls st0) := by
  intro T hT X
  rcases hr T hT X with ⟨v, st₀, t, T', L, h0, X', hL, e1, e2, ⟨⟨r, u, hv, hp, hb⟩, hF⟩, st⟩ | ⟨q, st₀, t, T', L, E, ce, h0, X', hL, e1, e2, ⟨u, hp, hb, hF⟩, hce, hcv, hcl, st⟩
  · cases hv
    obtain ⟨k1, k2, k3⟩ := vx_keep h0 e1 hS hA hf hL hF
    obtain ⟨t2, a1, b1⟩ := kk r u t T'.heap (locs ++ L) e1.symm (by rw [← e2]; exact X'.warmed.alike) hp hb k1 k2 k3 T' rfl X'
    exact ⟨t2, st t2 a1, b1⟩
  · obtain ⟨k1, k2, k3⟩ := vx_keep h0 e1 hS hAX hf hL hF
    obtain ⟨t2, a1, b1⟩ := kx E ce q u t T'.heap (locs ++ L) e1.symm (by rw [← e2]; exact X'.warmed.alike) hp hb k1 k2 k3 (by rw [e1]; exact hce) hcv hcl T' rfl X'
    exact ⟨t2, st.trans a1, b1⟩
end
/-! ===== END ===== -/
/-! ===== BEGIN by an interface, a method with a table of its own that may throw (follows va_callIFW, va_runFW) ===== -/
section
variable {p : Program} {l : Launch} {e : Env} {R : Room} {s : State} {m : MethodId} {args : Array Value} {below : List Frame} {meth : Method} {c : Code} {H : Heap} {locs : List Loc} {cells slots : Nat}
theorem vx_callIFW {T : State} (X : Stand p l e R s m args below meth c T locs cells slots) (hexec : p.tables.exec = Jvm.exec) {own C : String} {index count : Nat} {x y : MethodName} {bytes : ByteArray} {maxL : Nat} {ret : Option FieldType} {hh : List (Nat × Nat × Nat × Nat)}
    (hown : s.vm.findClass own = some m.cls) (hlink : (Cond.methodLink own index x).before args s = true) (hdecl : (Cond.declares x).before args s = true) (hface : (Cond.interfaceMethod x.cls x.cls x.name x.desc).before args s = true)
    (hsel : (Cond.selects C x y).before args s = true) (hinst : (Cond.instanceMethod y).before args s = true) (hpub : (Cond.publicMethod y).before args s = true) (hunh : (Cond.unhidden C x.name x.desc).before args s = true)
    (hcast : (Cond.castable C x.cls).before args s = true) (hcode : (Cond.codeWith y bytes maxL ret hh).before args s = true) (hx : x.cls ≠ "java/lang/invoke/MethodHandle" ∧ x.cls ≠ "java/lang/invoke/VarHandle")
    {W : Nat} {Pre : Pt → Array Value → Prop} {Post : Pt → Array Value → Option Value → Pt → Prop} {PostX : Pt → Array Value → Addr → Pt → Prop} (hK : vx_Back l R p e below s args y 5 W Pre Post PostX)
    {b : Addr} {cellB : Cell} {kB : Class} (hcell : T.heap[b]? = some cellB) (hobj : cellB.vm.isStatics = false) (hcls : s.vm.findClass C = some cellB.cls) (hkB : s.vm.classes[cellB.cls]? = some kB)
    {g : JFrame} (hg : g.method = m) (hsize : g.locals.size = c.maxLocals) {argsL rest : List Value} (hlen : ∀ sig, parseMethodDescriptor x.desc = some sig → argsL.length = sig.parameters.length)
    (hstack : g.stack = argsL.reverse ++ .ref b :: rest) (hW : 2 * g.monitorRoom + (rest.map fun v => v.category).sum ≤ W) (hdg : decode c.code g.pc = .ok (.invokeinterface index count, 5))
    (hpre : ∀ vm₁, s.WarmedH vm₁ → Pre ⟨T.setVm vm₁, locs, cells, slots⟩ (Value.ref b :: argsL).toArray) :
    (∃ (v : Option Value) (vm₁ : Vm) (B : Pt), s.WarmedH vm₁ ∧ Stand p l e R s m args below meth c B.U B.locs B.cells B.slots ∧ Post ⟨T.setVm vm₁, locs, cells, slots⟩ (Value.ref b :: argsL).toArray v B ∧
      ∀ target, Steps p.tables e below (B.U.setTop { g with pc := g.pc + 5, stack := v.toList ++ rest }) target → Steps p.tables e below (T.setTop g) target) ∨
    (∃ (q : Addr) (vm₁ : Vm) (B : Pt), s.WarmedH vm₁ ∧ Stand p l e R s m args below meth c B.U B.locs B.cells B.slots ∧ PostX ⟨T.setVm vm₁, locs, cells, slots⟩ (Value.ref b :: argsL).toArray q B ∧
      Steps p.tables e below (T.setTop g) ((B.U.setTop { g with stack := rest }).pushFrame (.throwing q))) := by
  obtain ⟨r0, r, hn, hrm, hstR, hsigR⟩ := Cond.declares_spec hdecl
  obtain ⟨cL, kL, r1, hcL, hkL, hiL, hfoundL, hn1⟩ := Cond.interfaceMethod_spec hface
  cases hn.symm.trans hn1
  have hr0cls : r0.cls = cL := Option.some.inj ((findClass_of_methodNamed hn).symm.trans hcL)
  obtain ⟨hnameR, hdescR⟩ := name_of_methodNamed hn hrm
  obtain ⟨mk, methM, hnamed, hmethM, -, habM⟩ := Cond.instanceMethod_spec hinst
  obtain ⟨c2, r2, m2, q1, q2, q3, q4, -⟩ := Cond.selects_spec hsel
  cases hcls.symm.trans q1
  cases hfoundL.symm.trans q2
  cases hnamed.symm.trans q3
  have hselP : selectMethod e.platform s.vm cellB.cls r0 = .method mk := by rw [Launch.admits_selectMethod X.admits]; exact q4
  have hpubM : hasFlag methM.accessFlags Acc.public_ = true := Cond.publicMethod_spec hnamed hmethM hpub
  have hway : ((cellB.cls :: s.vm.superclasses cellB.cls).any fun k => (declaredIn s.vm r.name r.desc k).any fun (_, z) => z.isPrivate || z.isStatic) = false := by
    rw [hnameR, hdescR]; exact Cond.unhidden_spec hcls hunh
  obtain ⟨c3, t3, w1, w2, w3⟩ := Cond.castable_spec hcast
  cases hcls.symm.trans w1
  cases hcL.symm.trans w2
  obtain ⟨vm₁, X₁, hstep₁⟩ := X.invokeinterface hexec hown hlink hn hrm hstR (by rw [hr0cls]; exact hkL) hiL hx (a := b) (cell := cellB) (kcell := kB) hcell
    (fun z h => by rw [h] at hobj; cases hobj) hkB (by rw [hr0cls]; exact w3) hselP hmethM hway hpubM habM (g := g) hg (argsL := argsL) (rest := rest) (hlen _ hsigR) hstack hdg
  rcases hK m meth c ⟨T.setVm vm₁, locs, cells, slots⟩ { g with stack := rest } (.invokeinterface index count) mk (Value.ref b :: argsL).toArray X₁ hg hsize hdg hW (X₁.named hnamed) (hpre vm₁ X₁.warmed) with ⟨v, B, X', hpost, hsteps⟩ | ⟨q, B, X', hpost, hsteps⟩
  · exact Or.inl ⟨v, vm₁, B, X₁.warmed, X', hpost, fun target h => hstep₁ _ fun acts => by rw [doInvoke_state]; exact hsteps.trans h⟩
  · exact Or.inr ⟨q, vm₁, B, X₁.warmed, X', hpost, hstep₁ _ fun acts => by rw [doInvoke_state]; exact hsteps⟩
theorem vx_runFW {x y : MethodName} {bytes cc : ByteArray} {maxL nL mc ms n index count : Nat} {ret : Option FieldType} {hh : List (Nat × Nat × Nat × Nat)} {ws : List Cond} {rm : Room} {Pc : Array Value → State → Prop} {Qc : Array Value → State → Outcome → State → Prop} {XC : String → State → State → Prop} {free : Addr → Prop} {Ts : List Cond} {own C : String} {cC : ClassId} {b : Addr} {As rest : List Value} {g : JFrame}
    (hat : ClassAt s C cC) (S : CallFix p m c cc nL s args Ts own) (hM : vx_Met l y ws rm Pc Qc XC mc ms free) (cw : va_CIW R s args own C index x y bytes maxL ret hh ws rm mc ms n) (hp : PreV s H C b Pc As)
    (hg : g.method = m) (hn : As.length = n) (hsize : g.locals.size = nL) (hstack : g.stack = As.reverse ++ .ref b :: rest) (hW : 2 * g.monitorRoom + (rest.map fun v => v.category).sum ≤ 8) (hdg : decode cc g.pc = .ok (.invokeinterface index count, 5)) (hf : cells + mc ≤ R.cells ∧ slots + ms ≤ R.slots) :
    vx_Run5 p l e R s m args below meth c H locs cells slots mc ms g rest (Qc (Value.ref b :: As).toArray) XC free := by
  obtain ⟨hrc, hrs, hfr, hlo, hws, hcw⟩ := cw.back
  have hini := cw.init
  have hK : vx_Back l R p e below s args y 5 8 (PreOf R mc ms Pc) (PostOf Qc mc ms free) (vx_Post XC mc ms free) := vx_backW (hh := hh) (bytes := bytes) (maxL := maxL) (ret := ret) hM hp.1 hrc hrs hfr hlo hws hcw (fun a' U hW => word_at hW (Or.inl (by first | rfl | simp [Cond.onTables, Cond.keeps, Cond.steady])) hini)
  obtain ⟨hx, hb, hml, ho, -⟩ := S
  obtain ⟨-, ⟨cellB, hcB, hoB, hclB⟩, hPc⟩ := hp
  obtain ⟨hfc, kB, hkB, -⟩ := hat
  cases hfc.symm.trans hclB
  intro T hT X
  rcases vx_callIFW X hx (C := C) (hh := hh) (bytes := bytes) (maxL := maxL) (ret := ret) ho cw.link cw.decl cw.face cw.sel cw.inst cw.pub cw.unh cw.cast cw.code cw.notMH hK (by rw [hT]; exact hcB) hoB hclB hkB hg (hsize.trans hml.symm) (argsL := As) (rest := rest) (fun sig h => hn.trans (cw.len sig h)) hstack hW (by rw [hb]; exact hdg)
    (fun vm₁ hW₁ => ⟨hf.1, hf.2, hPc (T.setVm vm₁) hT hW₁⟩) with ⟨v, vm₁, ⟨U', l2, c2, s2⟩, hW₁, X', ⟨g', mk, t, L, e1, e2, hq, h1, hL, h2, h3⟩, st⟩ | ⟨q, vm₁, ⟨U', l2, c2, s2⟩, hW₁, X', ⟨g', mk, t, L, E, ce, e1, e2, hq, hce, hcv, hcl, h1, hL, h2, h3⟩, st⟩
  · dsimp only [Pt.U, Pt.locs, Pt.cells, Pt.slots] at X' e1 e2 h1 h2 h3 st
    subst h1; subst h2; subst h3
    exact Or.inl ⟨v, (T.setVm vm₁).calling g' mk (Value.ref b :: As).toArray, t, U', L, hT, X', hL, e1, e2, hq, st⟩
  · dsimp only [Pt.U, Pt.locs, Pt.cells, Pt.slots] at X' e1 e2 h1 h2 h3 st hcl
    subst h1; subst h2; subst h3
    exact Or.inr ⟨q, (T.setVm vm₁).calling g' mk (Value.ref b :: As).toArray, t, U', L, E, ce, hT, X', hL, e1, e2, hq, hce, hcv, vx_cls hW₁ hcl, st⟩
end
/-! ===== END ===== -/
/-! ===== BEGIN .. of methods that hand back an object of the pool ===== -/
section
variable {p : Program} {l : Launch} {e : Env} {R : Room} {s : State} {m : MethodId} {args : Array Value} {below : List Frame} {meth : Method} {c : Code} {H : Heap} {locs : List Loc} {cells slots : Nat} {Q : State → Prop}
variable {mc ms : Nat} {free : Addr → Prop} {A0 A1 : Nat → Prop} {H0 : Heap} {a : Array Value} {pc : Nat} {ls : Array Slot} {st0 rest : List Value}
theorem vx_callq {S SX : Type} {post : Option Nat → S → Prop} {px : SX → Prop} {B : S → State → Prop} {BX : String → SX → State → Prop} {AX : Nat → Prop} (hr : vx_Run p l e R s m args below meth c H locs cells slots mc ms (F0 m pc ls st0) rest (va_Qq post B A1 a) (vx_X px BX AX) free) (hS : va_S A0 H0 H locs) (hA : ∀ q, q < H.size → A1 q → A0 q) (hf : ∀ q, free q → A0 q) (hAX : ∀ q, q < H.size → AX q → A0 q)
    (kx : ∀ (E : String) (ce : Cell) (q9 : Addr) (u : SX) (t : State) (H1 : Heap) (locs1 : List Loc), t.heap = H1 → s.vm.Alike t.vm → px u → BX E u t → H.size ≤ H1.size → (∀ q : Nat, q < H.size → ¬ AX q → H1[q]? = H[q]?) → va_S A0 H0 H1 locs1 → H1[q9]? = some ce → ce.vm = .none → s.vm.findClass E = some ce.cls → vx_W p l e R s m args below meth c H1 locs1 (cells + mc) (slots + ms) Q (F0 m pc ls rest) q9)
    (kk : ∀ (r : Option Nat) (u : S) (t : State) (H1 : Heap) (locs1 : List Loc), t.heap = H1 → s.vm.Alike t.vm → post r u → B u t → H.size ≤ H1.size → (∀ q : Nat, q < H.size → ¬ A1 q → H1[q]? = H[q]?) → va_S A0 H0 H1 locs1 → W p l e R s m args below meth c H1 locs1 (cells + mc) (slots + ms) Q (F0 m (pc + 3) ls (va_rf r :: rest))) : W p l e R s m args below meth c H locs cells slots Q (F0 m pc ls st0) := by
  intro T hT X
  rcases hr T hT X with ⟨v, st₀, t, T', L, h0, X', hL, e1, e2, ⟨⟨r, u, hv, hp, hb⟩, hF⟩, st⟩ | ⟨q, st₀, t, T', L, E, ce, h0, X', hL, e1, e2, ⟨u, hp, hb, hF⟩, hce, hcv, hcl, st⟩
  · cases hv
    obtain ⟨k1, k2, k3⟩ := vx_keep h0 e1 hS hA hf hL hF
    obtain ⟨t2, a1, b1⟩ := kk r u t T'.heap (locs ++ L) e1.symm (by rw [← e2]; exact X'.warmed.alike) hp hb k1 k2 k3 T' rfl X'
    exact ⟨t2, st t2 a1, b1⟩
  · obtain ⟨k1, k2, k3⟩ := vx_keep h0 e1 hS hAX hf hL hF
    obtain ⟨t2, a1, b1⟩ := kx E ce q u t T'.heap (locs ++ L) e1.symm (by rw [← e2]; exact X'.warmed.alike) hp hb k1 k2 k3 (by rw [e1]; exact hce) hcv hcl T' rfl X'
    exact ⟨t2, st.trans a1, b1⟩
end
/-! ===== END ===== -/
/-! ===== BEGIN .. a constant ===== -/
section
variable {p : Program} {l : Launch} {e : Env} {R : Room} {s : State} {m : MethodId} {args : Array Value} {below : List Frame} {meth : Method} {c : Code} {H : Heap} {locs : List Loc} {cells slots : Nat} {Q : State → Prop}
variable {mc ms : Nat} {free : Addr → Prop} {A0 A1 : Nat → Prop} {H0 : Heap} {a : Array Value} {pc : Nat} {ls : Array Slot} {st0 rest : List Value}
theorem vx_calle {ad : Nat → Nat} {S SX : Type} {post : Option Nat → S → Prop} {px : SX → Prop} {B : S → State → Prop} {BX : String → SX → State → Prop} {AX : Nat → Prop} (hr : vx_Run p l e R s m args below meth c H locs cells slots mc ms (F0 m pc ls st0) rest (va_Qe ad post B A1 a) (vx_X px BX AX) free) (hS : va_S A0 H0 H locs) (hA : ∀ q, q < H.size → A1 q → A0 q) (hf : ∀ q, free q → A0 q) (hAX : ∀ q, q < H.size → AX q → A0 q)
    (kx : ∀ (E : String) (ce : Cell) (q9 : Addr) (u : SX) (t : State) (H1 : Heap) (locs1 : List Loc), t.heap = H1 → s.vm.Alike t.vm → px u → BX E u t → H.size ≤ H1.size → (∀ q : Nat, q < H.size → ¬ AX q → H1[q]? = H[q]?) → va_S A0 H0 H1 locs1 → H1[q9]? = some ce → ce.vm = .none → s.vm.findClass E = some ce.cls → vx_W p l e R s m args below meth c H1 locs1 (cells + mc) (slots + ms) Q (F0 m pc ls rest) q9)
    (kk : ∀ (r : Option Nat) (u : S) (t : State) (H1 : Heap) (locs1 : List Loc), t.heap = H1 → s.vm.Alike t.vm → post r u → B u t → H.size ≤ H1.size → (∀ q : Nat, q < H.size → ¬ A1 q → H1[q]? = H[q]?) → va_S A0 H0 H1 locs1 → W p l e R s m args below meth c H1 locs1 (cells + mc) (slots + ms) Q (F0 m (pc + 3) ls (va_re ad r :: rest))) : W p l e R s m args below meth c H locs cells slots Q (F0 m pc ls st0) := by
  intro T hT X
  rcases hr T hT X with ⟨v, st₀, t, T', L, h0, X', hL, e1, e2, ⟨⟨r, u, hv, hp, hb⟩, hF⟩, st⟩ | ⟨q, st₀, t, T', L, E, ce, h0, X', hL, e1, e2, ⟨u, hp, hb, hF⟩, hce, hcv, hcl, st⟩
  · cases hv
    obtain ⟨k1, k2, k3⟩ := vx_keep h0 e1 hS hA hf hL hF
    obtain ⟨t2, a1, b1⟩ := kk r u t T'.heap (locs ++ L) e1.symm (by rw [← e2]; exact X'.warmed.alike) hp hb k1 k2 k3 T' rfl X'
    exact ⟨t2, st t2 a1, b1⟩
  · obtain ⟨k1, k2, k3⟩ := vx_keep h0 e1 hS hAX hf hL hF
    obtain ⟨t2, a1, b1⟩ := kx E ce q u t T'.heap (locs ++ L) e1.symm (by rw [← e2]; exact X'.warmed.alike) hp hb k1 k2 k3 (by rw [e1]; exact hce) hcv hcl T' rfl X'
    exact ⟨t2, st.trans a1, b1⟩
end
/-! ===== END ===== -/
/-! ===== BEGIN .. by an interface, an object ===== -/
section
variable {p : Program} {l : Launch} {e : Env} {R : Room} {s : State} {m : MethodId} {args : Array Value} {below : List Frame} {meth : Method} {c : Code} {H : Heap} {locs : List Loc} {cells slots : Nat} {Q : State → Prop}
variable {mc ms : Nat} {free : Addr → Prop} {A0 A1 : Nat → Prop} {H0 : Heap} {a : Array Value} {pc : Nat} {ls : Array Slot} {st0 rest : List Value}
theorem vx_callFq {S SX : Type} {post : Option Nat → S → Prop} {px : SX → Prop} {B : S → State → Prop} {BX : String → SX → State → Prop} {AX : Nat → Prop} (hr : vx_Run5 p l e R s m args below meth c H locs cells slots mc ms (F0 m pc ls st0) rest (va_Qq post B A1 a) (vx_X px BX AX) free) (hS : va_S A0 H0 H locs) (hA : ∀ q, q < H.size → A1 q → A0 q) (hf : ∀ q, free q → A0 q) (hAX : ∀ q, q < H.size → AX q → A0 q)
    (kx : ∀ (E : String) (ce : Cell) (q9 : Addr) (u : SX) (t : State) (H1 : Heap) (locs1 : List Loc), t.heap = H1 → s.vm.Alike t.vm → px u → BX E u t → H.size ≤ H1.size → (∀ q : Nat, q < H.size → ¬ AX q → H1[q]? = H[q]?) → va_S A0 H0 H1 locs1 → H1[q9]? = some ce → ce.vm = .none → s.vm.findClass E = some ce.cls → vx_W p l e R s m args below meth c H1 locs1 (cells + mc) (slots + ms) Q (F0 m pc ls rest) q9)
    (kk : ∀ (r : Option Nat) (u : S) (t : State) (H1 : Heap) (locs1 : List Loc), t.heap = H1 → s.vm.Alike t.vm → post r u → B u t → H.size ≤ H1.size → (∀ q : Nat, q < H.size → ¬ A1 q → H1[q]? = H[q]?) → va_S A0 H0 H1 locs1 → W p l e R s m args below meth c H1 locs1 (cells + mc) (slots + ms) Q (F0 m (pc + 5) ls (va_rf r :: rest))) : W p l e R s m args below meth c H locs cells slots Q (F0 m pc ls st0) := by
  intro T hT X
  rcases hr T hT X with ⟨v, st₀, t, T', L, h0, X', hL, e1, e2, ⟨⟨r, u, hv, hp, hb⟩, hF⟩, st⟩ | ⟨q, st₀, t, T', L, E, ce, h0, X', hL, e1, e2, ⟨u, hp, hb, hF⟩, hce, hcv, hcl, st⟩
  · cases hv
    obtain ⟨k1, k2, k3⟩ := vx_keep h0 e1 hS hA hf hL hF
    obtain ⟨t2, a1, b1⟩ := kk r u t T'.heap (locs ++ L) e1.symm (by rw [← e2]; exact X'.warmed.alike) hp hb k1 k2 k3 T' rfl X'
    exact ⟨t2, st t2 a1, b1⟩
  · obtain ⟨k1, k2, k3⟩ := vx_keep h0 e1 hS hAX hf hL hF
    obtain ⟨t2, a1, b1⟩ := kx E ce q u t T'.heap (locs ++ L) e1.symm (by rw [← e2]; exact X'.warmed.alike) hp hb k1 k2 k3 (by rw [e1]; exact hce) hcv hcl T' rfl X'
    exact ⟨t2, st.trans a1, b1⟩
end
/-! ===== END ===== -/
/-! ===== BEGIN .. by an interface, a constant ===== -/
section
variable {p : Program} {l : Launch} {e : Env} {R : Room} {s : State} {m : MethodId} {args : Array Value} {below : List Frame} {meth : Method} {c : Code} {H : Heap} {locs : List Loc} {cells slots : Nat} {Q : State → Prop}
variable {mc ms : Nat} {free : Addr → Prop} {A0 A1 : Nat → Prop} {H0 : Heap} {a : Array Value} {pc : Nat} {ls : Array Slot} {st0 rest : List Value}
theorem vx_callFe {ad : Nat → Nat} {S SX : Type} {post : Option Nat → S → Prop} {px : SX → Prop} {B : S → State → Prop} {BX : String → SX → State → Prop} {AX : Nat → Prop} (hr : vx_Run5 p l e R s m args below meth c H locs cells slots mc ms (F0 m pc ls st0) rest (va_Qe ad post B A1 a) (vx_X px BX AX) free) (hS : va_S A0 H0 H locs) (hA : ∀ q, q < H.size → A1 q → A0 q) (hf : ∀ q, free q → A0 q) (hAX : ∀ q, q < H.size → AX q → A0 q)
    (kx : ∀ (E : String) (ce : Cell) (q9 : Addr) (u : SX) (t : State) (H1 : Heap) (locs1 : List Loc), t.heap = H1 → s.vm.Alike t.vm → px u → BX E u t → H.size ≤ H1.size → (∀ q : Nat, q < H.size → ¬ AX q → H1[q]? = H[q]?) → va_S A0 H0 H1 locs1 → H1[q9]? = some ce → ce.vm = .none → s.vm.findClass E = some ce.cls → vx_W p l e R s m args below meth c H1 locs1 (cells + mc) (slots + ms) Q (F0 m pc ls rest) q9)
    (kk : ∀ (r : Option Nat) (u : S) (t : State) (H1 : Heap) (locs1 : List Loc), t.heap = H1 → s.vm.Alike t.vm → post r u → B u t → H.size ≤ H1.size → (∀ q : Nat, q < H.size → ¬ A1 q → H1[q]? = H[q]?) → va_S A0 H0 H1 locs1 → W p l e R s m args below meth c H1 locs1 (cells + mc) (slots + ms) Q (F0 m (pc + 5) ls (va_re ad r :: rest))) : W p l e R s m args below meth c H locs cells slots Q (F0 m pc ls st0) := by
  intro T hT X
  rcases hr T hT X with ⟨v, st₀, t, T', L, h0, X', hL, e1, e2, ⟨⟨r, u, hv, hp, hb⟩, hF⟩, st⟩ | ⟨q, st₀, t, T', L, E, ce, h0, X', hL, e1, e2, ⟨u, hp, hb, hF⟩, hce, hcv, hcl, st⟩
  · cases hv
    obtain ⟨k1, k2, k3⟩ := vx_keep h0 e1 hS hA hf hL hF
    obtain ⟨t2, a1, b1⟩ := kk r u t T'.heap (locs ++ L) e1.symm (by rw [← e2]; exact X'.warmed.alike) hp hb k1 k2 k3 T' rfl X'
    exact ⟨t2, st t2 a1, b1⟩
  · obtain ⟨k1, k2, k3⟩ := vx_keep h0 e1 hS hAX hf hL hF
    obtain ⟨t2, a1, b1⟩ := kx E ce q u t T'.heap (locs ++ L) e1.symm (by rw [← e2]; exact X'.warmed.alike) hp hb k1 k2 k3 (by rw [e1]; exact hce) hcv hcl T' rfl X'
    exact ⟨t2, st.trans a1, b1⟩
end
/-! ===== END ===== -/
/-! ===== BEGIN what the machine throws by itself: null at a field, at athrow ===== -/
section VXM2
variable {p : Program} {l : Launch} {e : Env} {R : Room} {s : State} {m : MethodId} {args : Array Value} {below : List Frame} {meth : Method} {c : Code} {H : Heap} {locs : List Loc} {cells slots : Nat}
variable {Q : State → Prop} {cc : ByteArray} {pc : Nat} {ls : Array Slot} {rest : List Value}
theorem vx_getfN {D cl tys} {own ref C : String} {T : u_T} {N ci index : Nat} {Ts : List Cond} (hexec : p.tables.exec = Jvm.exec) (hb : c.code = cc) (hts : ∀ w ∈ Ts, w.before args s = true) (hin : ∀ w ∈ u_ws C T N, w ∈ Ts) (hown : s.vm.findClass own = some m.cls) (hK : va_K D cl tys s) (hc : cl[ci]? = some (C, T, N)) (k : Nat) (hk : k < N) (hlink : (Cond.fieldLink own index ref (T k).2.1 (T k).2.2.1).before args s = true) (hsame : ∀ x, s.fieldFound? (T k).1 (T k).2.1 (T k).2.2.1 = some x → s.fieldFound? ref (T k).2.1 (T k).2.2.1 = some x) (hdg : decode cc pc = .ok (.getfield index, 3)) (kk : vx_NoteN p l e R s m args below meth c H locs cells slots Q (F0 m pc ls rest)) : W p l e R s m args below meth c H locs cells slots Q (F0 m pc ls (.null :: rest)) := by
  obtain ⟨hS, hfc, kC, hkC, -⟩ := hK.1 ci _ hc
  obtain ⟨cf, kf, fi, f, hi, -⟩ := hS k hk
  intro U hU X
  obtain ⟨vm', X1, st1⟩ := X.getfieldNull hexec hown hlink (hsame _ hi) (u_facts hfc hkC (u_lays hts hin hk) hi).1 (g := F0 m pc ls (.null :: rest)) rfl (rest := rest) rfl (by rw [hb]; exact hdg)
  obtain ⟨t, st, q⟩ := kk (U.setVm vm') hU X1
  exact ⟨t, st1 t st, q⟩
theorem vx_getfNN {D cl tys} {own ref C host : String} {T : u_T} {N ci index : Nat} {Ts : List Cond} (hexec : p.tables.exec = Jvm.exec) (hb : c.code = cc) (hts : ∀ w ∈ Ts, w.before args s = true) (hin : ∀ w ∈ u_ws C T N, w ∈ Ts) (hown : s.vm.findClass own = some m.cls) (hK : va_K D cl tys s) (hc : cl[ci]? = some (C, T, N)) (k : Nat) (hk : k < N) (hlink : (Cond.fieldLinkNest own index ref (T k).2.1 (T k).2.2.1 host).before args s = true) (hsame : ∀ x, s.fieldFound? (T k).1 (T k).2.1 (T k).2.2.1 = some x → s.fieldFound? ref (T k).2.1 (T k).2.2.1 = some x) (hdg : decode cc pc = .ok (.getfield index, 3)) (kk : vx_NoteN p l e R s m args below meth c H locs cells slots Q (F0 m pc ls rest)) : W p l e R s m args below meth c H locs cells slots Q (F0 m pc ls (.null :: rest)) := by
  obtain ⟨hS, hfc, kC, hkC, -⟩ := hK.1 ci _ hc
  obtain ⟨cf, kf, fi, f, hi, -⟩ := hS k hk
  intro U hU X
  obtain ⟨vm', X1, st1⟩ := X.getfieldNullNest hexec hown hlink (hsame _ hi) (u_facts hfc hkC (u_lays hts hin hk) hi).1 (g := F0 m pc ls (.null :: rest)) rfl (rest := rest) rfl (by rw [hb]; exact hdg)
  obtain ⟨t, st, q⟩ := kk (U.setVm vm') hU X1
  exact ⟨t, st1 t st, q⟩
theorem vx_putfN {D cl tys} {own ref C : String} {T : u_T} {N ci index : Nat} {Ts : List Cond} (hexec : p.tables.exec = Jvm.exec) (hb : c.code = cc) (hts : ∀ w ∈ Ts, w.before args s = true) (hin : ∀ w ∈ u_ws C T N, w ∈ Ts) (hown : s.vm.findClass own = some m.cls) (hK : va_K D cl tys s) (hc : cl[ci]? = some (C, T, N)) (k : Nat) (hk : k < N) (hlink : (Cond.fieldLink own index ref (T k).2.1 (T k).2.2.1).before args s = true) (hsame : ∀ x, s.fieldFound? (T k).1 (T k).2.1 (T k).2.2.1 = some x → s.fieldFound? ref (T k).2.1 (T k).2.2.1 = some x) (hfin : (T k).2.2.2 = false) {v : Value} (hdg : decode cc pc = .ok (.putfield index, 3)) (kk : vx_NoteN p l e R s m args below meth c H locs cells slots Q (F0 m pc ls rest)) : W p l e R s m args below meth c H locs cells slots Q (F0 m pc ls (v :: .null :: rest)) := by
  obtain ⟨hS, hfc, kC, hkC, -⟩ := hK.1 ci _ hc
  obtain ⟨cf, kf, fi, f, hi, -⟩ := hS k hk
  have hlay := hts _ (hin _ (u_in_lay hk))
  unfold u_lay at hlay
  rw [if_neg (by rw [hfin]; decide)] at hlay
  obtain ⟨c9, k9, cf9, kf9, fi9, f9, -, -, hi9, hst9, hnf9, -⟩ := Cond.lays_spec hlay
  cases hi.symm.trans hi9
  intro U hU X
  obtain ⟨vm', X1, st1⟩ := X.putfieldNull hexec hown hlink (hsame _ hi) hst9 hnf9 (g := F0 m pc ls (v :: .null :: rest)) rfl (v := v) (rest := rest) rfl (by rw [hb]; exact hdg)
  obtain ⟨t, st, q⟩ := kk (U.setVm vm') hU X1
  exact ⟨t, st1 t st, q⟩
theorem vx_putfNN {D cl tys} {own ref C host : String} {T : u_T} {N ci index : Nat} {Ts : List Cond} (hexec : p.tables.exec = Jvm.exec) (hb : c.code = cc) (hts : ∀ w ∈ Ts, w.before args s = true) (hin : ∀ w ∈ u_ws C T N, w ∈ Ts) (hown : s.vm.findClass own = some m.cls) (hK : va_K D cl tys s) (hc : cl[ci]? = some (C, T, N)) (k : Nat) (hk : k < N) (hlink : (Cond.fieldLinkNest own index ref (T k).2.1 (T k).2.2.1 host).before args s = true) (hsame : ∀ x, s.fieldFound? (T k).1 (T k).2.1 (T k).2.2.1 = some x → s.fieldFound? ref (T k).2.1 (T k).2.2.1 = some x) (hfin : (T k).2.2.2 = false) {v : Value} (hdg : decode cc pc = .ok (.putfield index, 3)) (kk : vx_NoteN p l e R s m args below meth c H locs cells slots Q (F0 m pc ls rest)) : W p l e R s m args below meth c H locs cells slots Q (F0 m pc ls (v :: .null :: rest)) := by
  obtain ⟨hS, hfc, kC, hkC, -⟩ := hK.1 ci _ hc
  obtain ⟨cf, kf, fi, f, hi, -⟩ := hS k hk
  have hlay := hts _ (hin _ (u_in_lay hk))
  unfold u_lay at hlay
  rw [if_neg (by rw [hfin]; decide)] at hlay
  obtain ⟨c9, k9, cf9, kf9, fi9, f9, -, -, hi9, hst9, hnf9, -⟩ := Cond.lays_spec hlay
  cases hi.symm.trans hi9
  intro U hU X
  obtain ⟨vm', X1, st1⟩ := X.putfieldNullNest hexec hown hlink (hsame _ hi) hst9 hnf9 (g := F0 m pc ls (v :: .null :: rest)) rfl (v := v) (rest := rest) rfl (by rw [hb]; exact hdg)
  obtain ⟨t, st, q⟩ := kk (U.setVm vm') hU X1
  exact ⟨t, st1 t st, q⟩
theorem vx_athrowN (hexec : p.tables.exec = Jvm.exec) (hb : c.code = cc) (hdg : decode cc pc = .ok (.athrow, 1)) (k : vx_NoteN p l e R s m args below meth c H locs cells slots Q (F0 m pc ls rest)) : W p l e R s m args below meth c H locs cells slots Q (F0 m pc ls (.null :: rest)) := by
  intro T hT X
  obtain ⟨t, st, q⟩ := k T hT X
  exact ⟨t, X.athrowNull hexec (g := F0 m pc ls (.null :: rest)) rfl (rest := rest) rfl (by rw [hb]; exact hdg) t st, q⟩
end VXM2
/-! ===== END ===== -/
end
section
def RX0 : String := "OrderSettler$Board"
def TX0 : u_T := fun k => match k with
  | 0 => ("OrderSettler$Board", "areaCount", "I", false)
  | 1 => ("OrderSettler$Board", "powerCount", "I", false)
  | 2 => ("OrderSettler$Board", "coasts", "I", false)
  | 3 => ("OrderSettler$Board", "seas", "I", false)
  | 4 => ("OrderSettler$Board", "centers", "I", false)
  | 5 => ("OrderSettler$Board", "areaName", "[I", true)
  | 6 => ("OrderSettler$Board", "home", "[I", true)
  | 7 => ("OrderSettler$Board", "armyBorders", "[I", true)
  | 8 => ("OrderSettler$Board", "fleetBorders", "[I", true)
  | _ => ("OrderSettler$Board", "powerName", "[I", true)
def tyX0 : Nat → FieldType := fun k => match k with
  | 0 => .int
  | 1 => .int
  | 2 => .int
  | 3 => .int
  | 4 => .int
  | 5 => .array .int
  | 6 => .array .int
  | 7 => .array .int
  | 8 => .array .int
  | _ => .array .int
theorem nmX0 : ∀ a, a < 10 → ∀ b, b < 10 → a ≠ b → (TX0 a).2.1 ≠ (TX0 b).2.1 := by decide +kernel
theorem tyX0_ok : ∀ k, k < 10 → parseFieldDescriptor (TX0 k).2.2.1 = some (tyX0 k) := by decide +kernel
abbrev cX0_init : ByteArray := prog_2_method_1_code
def yX0_init : MethodName := ⟨RX0, "<init>", "()V"⟩
abbrev cX0_clear : ByteArray := prog_2_method_2_code
def yX0_clear : MethodName := ⟨RX0, "clear", "()V"⟩
abbrev cX0_isArea : ByteArray := prog_2_method_3_code
def yX0_isArea : MethodName := ⟨RX0, "isArea", "(I)Z"⟩
abbrev cX0_kindOf : ByteArray := prog_2_method_4_code
def yX0_kindOf : MethodName := ⟨RX0, "kindOf", "(I)I"⟩
abbrev cX0_findArea : ByteArray := prog_2_method_5_code
def yX0_findArea : MethodName := ⟨RX0, "findArea", "(I)I"⟩
abbrev cX0_findPower : ByteArray := prog_2_method_6_code
def yX0_findPower : MethodName := ⟨RX0, "findPower", "(I)I"⟩
abbrev cX0_addArea : ByteArray := prog_2_method_7_code
def yX0_addArea : MethodName := ⟨RX0, "addArea", "(IIZ)V"⟩
abbrev cX0_addPower : ByteArray := prog_2_method_8_code
def yX0_addPower : MethodName := ⟨RX0, "addPower", "(I)I"⟩
abbrev cX0_addBorder : ByteArray := prog_2_method_9_code
def yX0_addBorder : MethodName := ⟨RX0, "addBorder", "(IIZZ)V"⟩
abbrev cX0_makeHome : ByteArray := prog_2_method_10_code
def yX0_makeHome : MethodName := ⟨RX0, "makeHome", "(II)V"⟩
abbrev cX0_suits : ByteArray := prog_2_method_11_code
def yX0_suits : MethodName := ⟨RX0, "suits", "(II)Z"⟩
abbrev cX0_bordersOf : ByteArray := prog_2_method_12_code
def yX0_bordersOf : MethodName := ⟨RX0, "bordersOf", "(II)I"⟩
abbrev cX0_letsPass : ByteArray := prog_2_method_13_code
def yX0_letsPass : MethodName := ⟨RX0, "letsPass", "(III)Z"⟩
abbrev cX0_hasBorder : ByteArray := prog_2_method_14_code
def yX0_hasBorder : MethodName := ⟨RX0, "hasBorder", "(II)Z"⟩
abbrev cX0_countHomes : ByteArray := prog_2_method_16_code
def yX0_countHomes : MethodName := ⟨RX0, "countHomes", "(I)I"⟩
def RX1 : String := "OrderSettler$Judge"
def TX1 : u_T := fun k => match k with
  | 0 => ("OrderSettler$Judge", "links", "LOrderSettler$Links;", true)
  | 1 => ("OrderSettler$Judge", "seaOpen", "Z", false)
  | 2 => ("OrderSettler$Judge", "paths", "I", false)
  | 3 => ("OrderSettler$Judge", "given", "I", false)
  | 4 => ("OrderSettler$Judge", "best", "I", false)
  | 5 => ("OrderSettler$Judge", "success", "I", false)
  | 6 => ("OrderSettler$Judge", "dislodged", "I", false)
  | _ => ("OrderSettler$Judge", "outcomeCount", "I", false)
def tyX1 : Nat → FieldType := fun k => match k with
  | 0 => .object "OrderSettler$Links"
  | 1 => .boolean
  | 2 => .int
  | 3 => .int
  | 4 => .int
  | 5 => .int
  | 6 => .int
  | _ => .int
theorem nmX1 : ∀ a, a < 8 → ∀ b, b < 8 → a ≠ b → (TX1 a).2.1 ≠ (TX1 b).2.1 := by decide +kernel
theorem tyX1_ok : ∀ k, k < 8 → parseFieldDescriptor (TX1 k).2.2.1 = some (tyX1 k) := by decide +kernel
abbrev cX1_init : ByteArray := prog_3_method_1_code
def yX1_init : MethodName := ⟨RX1, "<init>", "()V"⟩
abbrev cX1_decide : ByteArray := prog_3_method_2_code
def yX1_decide : MethodName := ⟨RX1, "decide", "(LOrderSettler$Board;LOrderSettler$State;)V"⟩
abbrev cX1_search : ByteArray := prog_3_method_3_code
def yX1_search : MethodName := ⟨RX1, "search", "()I"⟩
abbrev cX1_weigh : ByteArray := prog_3_method_4_code
def yX1_weigh : MethodName := ⟨RX1, "weigh", "(I)V"⟩
abbrev cX1_isCarried : ByteArray := prog_3_method_5_code
def yX1_isCarried : MethodName := ⟨RX1, "isCarried", "(I)Z"⟩
abbrev cX1_isConsistent : ByteArray := prog_3_method_6_code
def yX1_isConsistent : MethodName := ⟨RX1, "isConsistent", "()Z"⟩
abbrev cX1_shouldSucceed : ByteArray := prog_3_method_7_code
def yX1_shouldSucceed : MethodName := ⟨RX1, "shouldSucceed", "(I)Z"⟩
abbrev cX1_strengthOf : ByteArray := prog_3_method_8_code
def yX1_strengthOf : MethodName := ⟨RX1, "strengthOf", "(I)I"⟩
abbrev cX1_attackOf : ByteArray := prog_3_method_9_code
def yX1_attackOf : MethodName := ⟨RX1, "attackOf", "(I)I"⟩
abbrev cX1_resistanceTo : ByteArray := prog_3_method_10_code
def yX1_resistanceTo : MethodName := ⟨RX1, "resistanceTo", "(I)I"⟩
abbrev cX1_preventionOf : ByteArray := prog_3_method_11_code
def yX1_preventionOf : MethodName := ⟨RX1, "preventionOf", "(I)I"⟩
abbrev cX1_findAttacker : ByteArray := prog_3_method_12_code
def yX1_findAttacker : MethodName := ⟨RX1, "findAttacker", "(I)I"⟩
abbrev cX1_findFailedGoals : ByteArray := prog_3_method_13_code
def yX1_findFailedGoals : MethodName := ⟨RX1, "findFailedGoals", "()I"⟩
abbrev cX1_explainAll : ByteArray := prog_3_method_14_code
def yX1_explainAll : MethodName := ⟨RX1, "explainAll", "([I)V"⟩
abbrev cX1_explain : ByteArray := prog_3_method_15_code
def yX1_explain : MethodName := ⟨RX1, "explain", "(II)I"⟩
abbrev cX1_summaryOf : ByteArray := prog_3_method_16_code
def yX1_summaryOf : MethodName := ⟨RX1, "summaryOf", "(I)I"⟩
abbrev cX1_reasonFor : ByteArray := prog_3_method_17_code
def yX1_reasonFor : MethodName := ⟨RX1, "reasonFor", "(I)I"⟩
def RX2 : String := "OrderSettler$Links"
def TX2 : u_T := fun k => match k with
  | 0 => ("OrderSettler$Links", "units", "I", false)
  | 1 => ("OrderSettler$Links", "moves", "I", false)
  | 2 => ("OrderSettler$Links", "direct", "I", false)
  | 3 => ("OrderSettler$Links", "opposed", "I", false)
  | 4 => ("OrderSettler$Links", "supporting", "I", false)
  | 5 => ("OrderSettler$Links", "supports", "I", false)
  | 6 => ("OrderSettler$Links", "goal", "[I", true)
  | 7 => ("OrderSettler$Links", "rivals", "[I", true)
  | 8 => ("OrderSettler$Links", "backers", "[I", true)
  | 9 => ("OrderSettler$Links", "hosts", "[I", true)
  | 10 => ("OrderSettler$Links", "hostBackers", "[I", true)
  | 11 => ("OrderSettler$Links", "cutters", "[I", true)
  | 12 => ("OrderSettler$Links", "carriers", "[I", true)
  | 13 => ("OrderSettler$Links", "boarding", "[I", true)
  | 14 => ("OrderSettler$Links", "landing", "[I", true)
  | _ => ("OrderSettler$Links", "waters", "[I", true)
def tyX2 : Nat → FieldType := fun k => match k with
  | 0 => .int
  | 1 => .int
  | 2 => .int
  | 3 => .int
  | 4 => .int
  | 5 => .int
  | 6 => .array .int
  | 7 => .array .int
  | 8 => .array .int
  | 9 => .array .int
  | 10 => .array .int
  | 11 => .array .int
  | 12 => .array .int
  | 13 => .array .int
  | 14 => .array .int
  | _ => .array .int
theorem nmX2 : ∀ a, a < 16 → ∀ b, b < 16 → a ≠ b → (TX2 a).2.1 ≠ (TX2 b).2.1 := by decide +kernel
theorem tyX2_ok : ∀ k, k < 16 → parseFieldDescriptor (TX2 k).2.2.1 = some (tyX2 k) := by decide +kernel
abbrev cX2_init : ByteArray := prog_4_method_1_code
def yX2_init : MethodName := ⟨RX2, "<init>", "()V"⟩
abbrev cX2_prepare : ByteArray := prog_4_method_2_code
def yX2_prepare : MethodName := ⟨RX2, "prepare", "(LOrderSettler$Board;LOrderSettler$State;)V"⟩
abbrev cX2_clear : ByteArray := prog_4_method_3_code
def yX2_clear : MethodName := ⟨RX2, "clear", "()V"⟩
abbrev cX2_noteMove : ByteArray := prog_4_method_4_code
def yX2_noteMove : MethodName := ⟨RX2, "noteMove", "(LOrderSettler$Board;LOrderSettler$State;I)V"⟩
abbrev cX2_linkSupport : ByteArray := prog_4_method_5_code
def yX2_linkSupport : MethodName := ⟨RX2, "linkSupport", "(LOrderSettler$State;I)V"⟩
abbrev cX2_linkConvoy : ByteArray := prog_4_method_6_code
def yX2_linkConvoy : MethodName := ⟨RX2, "linkConvoy", "(LOrderSettler$State;I)V"⟩
abbrev cX2_linkMove : ByteArray := prog_4_method_7_code
def yX2_linkMove : MethodName := ⟨RX2, "linkMove", "(LOrderSettler$State;I)V"⟩
def RX3 : String := "OrderSettler$MapReader"
def TX3 : u_T := fun k => match k with
  | 0 => ("OrderSettler$TextReader", "bytes", "[B", false)
  | 1 => ("OrderSettler$TextReader", "length", "I", false)
  | 2 => ("OrderSettler$TextReader", "kind", "I", false)
  | 3 => ("OrderSettler$TextReader", "behind", "I", false)
  | 4 => ("OrderSettler$TextReader", "letters", "I", false)
  | 5 => ("OrderSettler$TextReader", "packed", "J", false)
  | 6 => ("OrderSettler$TextReader", "start", "I", false)
  | 7 => ("OrderSettler$TextReader", "nameStart", "I", false)
  | 8 => ("OrderSettler$TextReader", "foundCode", "I", false)
  | _ => ("OrderSettler$TextReader", "foundPosition", "I", false)
def tyX3 : Nat → FieldType := fun k => match k with
  | 0 => .array .byte
  | 1 => .int
  | 2 => .int
  | 3 => .int
  | 4 => .int
  | 5 => .long
  | 6 => .int
  | 7 => .int
  | 8 => .int
  | _ => .int
theorem nmX3 : ∀ a, a < 10 → ∀ b, b < 10 → a ≠ b → (TX3 a).2.1 ≠ (TX3 b).2.1 := by decide +kernel
theorem tyX3_ok : ∀ k, k < 10 → parseFieldDescriptor (TX3 k).2.2.1 = some (tyX3 k) := by decide +kernel
abbrev cX3_init : ByteArray := prog_5_method_1_code
def yX3_init : MethodName := ⟨RX3, "<init>", "()V"⟩
abbrev cX3_readMap : ByteArray := prog_5_method_2_code
def yX3_readMap : MethodName := ⟨RX3, "readMap", "([BILOrderSettler$Board;LOrderSettler$State;)Z"⟩
abbrev cX3_readStatement : ByteArray := prog_5_method_3_code
def yX3_readStatement : MethodName := ⟨RX3, "readStatement", "(LOrderSettler$Board;LOrderSettler$State;)Z"⟩
abbrev cX3_readArea : ByteArray := prog_5_method_4_code
def yX3_readArea : MethodName := ⟨RX3, "readArea", "(LOrderSettler$Board;II)Z"⟩
abbrev cX3_readBorder : ByteArray := prog_5_method_5_code
def yX3_readBorder : MethodName := ⟨RX3, "readBorder", "(LOrderSettler$Board;)Z"⟩
abbrev cX3_readPower : ByteArray := prog_5_method_6_code
def yX3_readPower : MethodName := ⟨RX3, "readPower", "(LOrderSettler$Board;LOrderSettler$State;I)Z"⟩
abbrev cX3_readHome : ByteArray := prog_5_method_7_code
def yX3_readHome : MethodName := ⟨RX3, "readHome", "(LOrderSettler$Board;LOrderSettler$State;I)Z"⟩
abbrev cX3_readUnit : ByteArray := prog_5_method_8_code
def yX3_readUnit : MethodName := ⟨RX3, "readUnit", "(LOrderSettler$Board;LOrderSettler$State;II)Z"⟩
def RX4 : String := "OrderSettler$Output"
def TX4 : u_T := fun k => match k with
  | 0 => ("OrderSettler$Output", "bytes", "[B", true)
  | _ => ("OrderSettler$Output", "length", "I", false)
def tyX4 : Nat → FieldType := fun k => match k with
  | 0 => .array .byte
  | _ => .int
theorem nmX4 : ∀ a, a < 2 → ∀ b, b < 2 → a ≠ b → (TX4 a).2.1 ≠ (TX4 b).2.1 := by decide +kernel
theorem tyX4_ok : ∀ k, k < 2 → parseFieldDescriptor (TX4 k).2.2.1 = some (tyX4 k) := by decide +kernel
abbrev cX4_init : ByteArray := prog_6_method_1_code
def yX4_init : MethodName := ⟨RX4, "<init>", "()V"⟩
def RX5 : String := "OrderSettler$State"
def TX5 : u_T := fun k => match k with
  | 0 => ("OrderSettler$State", "phase", "I", false)
  | 1 => ("OrderSettler$State", "turn", "I", false)
  | 2 => ("OrderSettler$State", "settled", "Z", false)
  | 3 => ("OrderSettler$State", "outcomeCount", "I", false)
  | 4 => ("OrderSettler$State", "contested", "I", false)
  | 5 => ("OrderSettler$State", "owner", "[I", true)
  | 6 => ("OrderSettler$State", "unitPower", "[I", true)
  | 7 => ("OrderSettler$State", "unitKind", "[I", true)
  | 8 => ("OrderSettler$State", "outPower", "[I", true)
  | 9 => ("OrderSettler$State", "outKind", "[I", true)
  | 10 => ("OrderSettler$State", "attackedFrom", "[I", true)
  | 11 => ("OrderSettler$State", "retreatGoal", "[I", true)
  | 12 => ("OrderSettler$State", "orderKind", "[I", true)
  | 13 => ("OrderSettler$State", "orderFirst", "[I", true)
  | 14 => ("OrderSettler$State", "orderSecond", "[I", true)
  | _ => ("OrderSettler$State", "results", "[I", true)
def tyX5 : Nat → FieldType := fun k => match k with
  | 0 => .int
  | 1 => .int
  | 2 => .boolean
  | 3 => .int
  | 4 => .int
  | 5 => .array .int
  | 6 => .array .int
  | 7 => .array .int
  | 8 => .array .int
  | 9 => .array .int
  | 10 => .array .int
  | 11 => .array .int
  | 12 => .array .int
  | 13 => .array .int
  | 14 => .array .int
  | _ => .array .int
theorem nmX5 : ∀ a, a < 16 → ∀ b, b < 16 → a ≠ b → (TX5 a).2.1 ≠ (TX5 b).2.1 := by decide +kernel
theorem tyX5_ok : ∀ k, k < 16 → parseFieldDescriptor (TX5 k).2.2.1 = some (tyX5 k) := by decide +kernel
abbrev cX5_init : ByteArray := prog_7_method_1_code
def yX5_init : MethodName := ⟨RX5, "<init>", "()V"⟩
abbrev cX5_clear : ByteArray := prog_7_method_2_code
def yX5_clear : MethodName := ⟨RX5, "clear", "()V"⟩
abbrev cX5_clearUnits : ByteArray := prog_7_method_3_code
def yX5_clearUnits : MethodName := ⟨RX5, "clearUnits", "()V"⟩
abbrev cX5_clearDislodged : ByteArray := prog_7_method_4_code
def yX5_clearDislodged : MethodName := ⟨RX5, "clearDislodged", "()V"⟩
abbrev cX5_holdAll : ByteArray := prog_7_method_5_code
def yX5_holdAll : MethodName := ⟨RX5, "holdAll", "()V"⟩
abbrev cX5_copyFrom : ByteArray := prog_7_method_6_code
def yX5_copyFrom : MethodName := ⟨RX5, "copyFrom", "(LOrderSettler$State;)V"⟩
abbrev cX5_copyRow : ByteArray := prog_7_method_7_code
def yX5_copyRow : MethodName := ⟨RX5, "copyRow", "([I[I)V"⟩
abbrev cX5_hasUnit : ByteArray := prog_7_method_8_code
def yX5_hasUnit : MethodName := ⟨RX5, "hasUnit", "(I)Z"⟩
abbrev cX5_hasDislodged : ByteArray := prog_7_method_9_code
def yX5_hasDislodged : MethodName := ⟨RX5, "hasDislodged", "(I)Z"⟩
abbrev cX5_placeUnit : ByteArray := prog_7_method_10_code
def yX5_placeUnit : MethodName := ⟨RX5, "placeUnit", "(III)V"⟩
abbrev cX5_giveOrder : ByteArray := prog_7_method_11_code
def yX5_giveOrder : MethodName := ⟨RX5, "giveOrder", "(IIII)V"⟩
abbrev cX5_giveRetreat : ByteArray := prog_7_method_12_code
def yX5_giveRetreat : MethodName := ⟨RX5, "giveRetreat", "(II)V"⟩
abbrev cX5_giveCenter : ByteArray := prog_7_method_13_code
def yX5_giveCenter : MethodName := ⟨RX5, "giveCenter", "(II)V"⟩
abbrev cX5_countCenters : ByteArray := prog_7_method_14_code
def yX5_countCenters : MethodName := ⟨RX5, "countCenters", "(I)I"⟩
abbrev cX5_countUnits : ByteArray := prog_7_method_15_code
def yX5_countUnits : MethodName := ⟨RX5, "countUnits", "(I)I"⟩
abbrev cX5_countAllUnits : ByteArray := prog_7_method_16_code
def yX5_countAllUnits : MethodName := ⟨RX5, "countAllUnits", "()I"⟩
abbrev cX5_countOf : ByteArray := prog_7_method_17_code
def yX5_countOf : MethodName := ⟨RX5, "countOf", "([II)I"⟩
abbrev cX5_countBuilds : ByteArray := prog_7_method_18_code
def yX5_countBuilds : MethodName := ⟨RX5, "countBuilds", "(LOrderSettler$Board;I)I"⟩
abbrev cX5_freeHomes : ByteArray := prog_7_method_19_code
def yX5_freeHomes : MethodName := ⟨RX5, "freeHomes", "(LOrderSettler$Board;I)I"⟩
abbrev cX5_canGo : ByteArray := prog_7_method_21_code
def yX5_canGo : MethodName := ⟨RX5, "canGo", "(LOrderSettler$Board;II)Z"⟩
abbrev cX5_hasArmy : ByteArray := prog_7_method_22_code
def yX5_hasArmy : MethodName := ⟨RX5, "hasArmy", "(I)Z"⟩
abbrev cX5_allowsMove : ByteArray := prog_7_method_23_code
def yX5_allowsMove : MethodName := ⟨RX5, "allowsMove", "(LOrderSettler$Board;II)Z"⟩
abbrev cX5_allowsUnitSupport : ByteArray := prog_7_method_24_code
def yX5_allowsUnitSupport : MethodName := ⟨RX5, "allowsUnitSupport", "(LOrderSettler$Board;II)Z"⟩
abbrev cX5_allowsMoveSupport : ByteArray := prog_7_method_25_code
def yX5_allowsMoveSupport : MethodName := ⟨RX5, "allowsMoveSupport", "(LOrderSettler$Board;III)Z"⟩
abbrev cX5_allowsConvoy : ByteArray := prog_7_method_26_code
def yX5_allowsConvoy : MethodName := ⟨RX5, "allowsConvoy", "(LOrderSettler$Board;III)Z"⟩
abbrev cX5_joinsCoasts : ByteArray := prog_7_method_27_code
def yX5_joinsCoasts : MethodName := ⟨RX5, "joinsCoasts", "(LOrderSettler$Board;II)Z"⟩
abbrev cX5_allowsRetreat : ByteArray := prog_7_method_28_code
def yX5_allowsRetreat : MethodName := ⟨RX5, "allowsRetreat", "(LOrderSettler$Board;II)Z"⟩
abbrev cX5_allowsBuild : ByteArray := prog_7_method_29_code
def yX5_allowsBuild : MethodName := ⟨RX5, "allowsBuild", "(LOrderSettler$Board;I)Z"⟩
abbrev cX5_needsRemoval : ByteArray := prog_7_method_30_code
def yX5_needsRemoval : MethodName := ⟨RX5, "needsRemoval", "(I)Z"⟩
abbrev cX5_carryOut : ByteArray := prog_7_method_31_code
def yX5_carryOut : MethodName := ⟨RX5, "carryOut", "(LOrderSettler$State;LOrderSettler$Judge;)V"⟩
abbrev cX5_carryOutRetreats : ByteArray := prog_7_method_32_code
def yX5_carryOutRetreats : MethodName := ⟨RX5, "carryOutRetreats", "(LOrderSettler$State;)I"⟩
abbrev cX5_closeTurn : ByteArray := prog_7_method_33_code
def yX5_closeTurn : MethodName := ⟨RX5, "closeTurn", "(LOrderSettler$Board;)V"⟩
abbrev cX5_beginTurn : ByteArray := prog_7_method_34_code
def yX5_beginTurn : MethodName := ⟨RX5, "beginTurn", "()V"⟩
abbrev cX5_disbandSurplus : ByteArray := prog_7_method_35_code
def yX5_disbandSurplus : MethodName := ⟨RX5, "disbandSurplus", "(I)I"⟩
def RX6 : String := "OrderSettler$TextReader"
def TX6 : u_T := fun k => match k with
  | _ => ("", "", "", false)
def tyX6 : Nat → FieldType := fun k => match k with
  | _ => .int
theorem nmX6 : ∀ a, a < 0 → ∀ b, b < 0 → a ≠ b → (TX6 a).2.1 ≠ (TX6 b).2.1 := by decide +kernel
theorem tyX6_ok : ∀ k, k < 0 → parseFieldDescriptor (TX6 k).2.2.1 = some (tyX6 k) := by decide +kernel
abbrev cX6_init : ByteArray := prog_8_method_1_code
def yX6_init : MethodName := ⟨RX6, "<init>", "()V"⟩
abbrev cX6_begin : ByteArray := prog_8_method_2_code
def yX6_begin : MethodName := ⟨RX6, "begin", "([BI)V"⟩
abbrev cX6_isAtEnd : ByteArray := prog_8_method_3_code
def yX6_isAtEnd : MethodName := ⟨RX6, "isAtEnd", "()Z"⟩
abbrev cX6_isAtWord : ByteArray := prog_8_method_4_code
def yX6_isAtWord : MethodName := ⟨RX6, "isAtWord", "()Z"⟩
abbrev cX6_take : ByteArray := prog_8_method_5_code
def yX6_take : MethodName := ⟨RX6, "take", "(LOrderSettler$Word;)Z"⟩
abbrev cX6_takeOrFail : ByteArray := prog_8_method_6_code
def yX6_takeOrFail : MethodName := ⟨RX6, "takeOrFail", "(LOrderSettler$Word;)Z"⟩
abbrev cX6_takeSemicolon : ByteArray := prog_8_method_7_code
def yX6_takeSemicolon : MethodName := ⟨RX6, "takeSemicolon", "()Z"⟩
abbrev cX6_takeName : ByteArray := prog_8_method_8_code
def yX6_takeName : MethodName := ⟨RX6, "takeName", "()I"⟩
abbrev cX6_takeArea : ByteArray := prog_8_method_9_code
def yX6_takeArea : MethodName := ⟨RX6, "takeArea", "(LOrderSettler$Board;)I"⟩
abbrev cX6_fail : ByteArray := prog_8_method_10_code
def yX6_fail : MethodName := ⟨RX6, "fail", "(II)Z"⟩
abbrev cX6_advance : ByteArray := prog_8_method_11_code
def yX6_advance : MethodName := ⟨RX6, "advance", "()V"⟩
def RX7 : String := "OrderSettler$TurnReader"
def TX7 : u_T := fun k => match k with
  | 0 => ("OrderSettler$TextReader", "bytes", "[B", false)
  | 1 => ("OrderSettler$TextReader", "length", "I", false)
  | 2 => ("OrderSettler$TextReader", "kind", "I", false)
  | 3 => ("OrderSettler$TextReader", "behind", "I", false)
  | 4 => ("OrderSettler$TextReader", "letters", "I", false)
  | 5 => ("OrderSettler$TextReader", "packed", "J", false)
  | 6 => ("OrderSettler$TextReader", "start", "I", false)
  | 7 => ("OrderSettler$TextReader", "nameStart", "I", false)
  | 8 => ("OrderSettler$TextReader", "foundCode", "I", false)
  | _ => ("OrderSettler$TextReader", "foundPosition", "I", false)
def tyX7 : Nat → FieldType := fun k => match k with
  | 0 => .array .byte
  | 1 => .int
  | 2 => .int
  | 3 => .int
  | 4 => .int
  | 5 => .long
  | 6 => .int
  | 7 => .int
  | 8 => .int
  | _ => .int
theorem nmX7 : ∀ a, a < 10 → ∀ b, b < 10 → a ≠ b → (TX7 a).2.1 ≠ (TX7 b).2.1 := by decide +kernel
theorem tyX7_ok : ∀ k, k < 10 → parseFieldDescriptor (TX7 k).2.2.1 = some (tyX7 k) := by decide +kernel
abbrev cX7_init : ByteArray := prog_9_method_1_code
def yX7_init : MethodName := ⟨RX7, "<init>", "()V"⟩
abbrev cX7_readAll : ByteArray := prog_9_method_2_code
def yX7_readAll : MethodName := ⟨RX7, "readAll", "([BILOrderSettler$Board;LOrderSettler$State;)I"⟩
abbrev cX7_readOne : ByteArray := prog_9_method_3_code
def yX7_readOne : MethodName := ⟨RX7, "readOne", "(LOrderSettler$Board;LOrderSettler$State;)Z"⟩
abbrev cX7_readOrder : ByteArray := prog_9_method_4_code
def yX7_readOrder : MethodName := ⟨RX7, "readOrder", "(LOrderSettler$Board;LOrderSettler$State;)Z"⟩
abbrev cX7_readMove : ByteArray := prog_9_method_5_code
def yX7_readMove : MethodName := ⟨RX7, "readMove", "(LOrderSettler$Board;LOrderSettler$State;I)Z"⟩
abbrev cX7_readSupport : ByteArray := prog_9_method_6_code
def yX7_readSupport : MethodName := ⟨RX7, "readSupport", "(LOrderSettler$Board;LOrderSettler$State;I)Z"⟩
abbrev cX7_readConvoy : ByteArray := prog_9_method_7_code
def yX7_readConvoy : MethodName := ⟨RX7, "readConvoy", "(LOrderSettler$Board;LOrderSettler$State;I)Z"⟩
abbrev cX7_readRetreat : ByteArray := prog_9_method_8_code
def yX7_readRetreat : MethodName := ⟨RX7, "readRetreat", "(LOrderSettler$Board;LOrderSettler$State;)Z"⟩
abbrev cX7_readBuild : ByteArray := prog_9_method_9_code
def yX7_readBuild : MethodName := ⟨RX7, "readBuild", "(LOrderSettler$Board;LOrderSettler$State;)Z"⟩
abbrev cX7_readRemoval : ByteArray := prog_9_method_10_code
def yX7_readRemoval : MethodName := ⟨RX7, "readRemoval", "(LOrderSettler$Board;LOrderSettler$State;)Z"⟩
def RX8 : String := "OrderSettler$Word"
def TX8 : u_T := fun k => match k with
  | _ => ("", "", "", false)
def tyX8 : Nat → FieldType := fun k => match k with
  | _ => .int
theorem nmX8 : ∀ a, a < 0 → ∀ b, b < 0 → a ≠ b → (TX8 a).2.1 ≠ (TX8 b).2.1 := by decide +kernel
theorem tyX8_ok : ∀ k, k < 0 → parseFieldDescriptor (TX8 k).2.2.1 = some (tyX8 k) := by decide +kernel
abbrev cX8_isKeyword : ByteArray := prog_10_method_4_code
def yX8_isKeyword : MethodName := ⟨RX8, "isKeyword", "(J)Z"⟩
def RX9 : String := "OrderSettler"
def TX9 : u_T := fun k => match k with
  | 0 => ("OrderSettler", "input", "[B", true)
  | 1 => ("OrderSettler", "inputLength", "I", false)
  | 2 => ("OrderSettler", "output", "LOrderSettler$Output;", true)
  | 3 => ("OrderSettler", "errorCode", "I", false)
  | 4 => ("OrderSettler", "errorPosition", "I", false)
  | 5 => ("OrderSettler", "mapReader", "LOrderSettler$MapReader;", true)
  | 6 => ("OrderSettler", "turnReader", "LOrderSettler$TurnReader;", true)
  | 7 => ("OrderSettler", "judge", "LOrderSettler$Judge;", true)
  | 8 => ("OrderSettler", "past", "[LOrderSettler$State;", true)
  | 9 => ("OrderSettler", "undoable", "I", false)
  | 10 => ("OrderSettler", "board", "LOrderSettler$Board;", false)
  | 11 => ("OrderSettler", "spareBoard", "LOrderSettler$Board;", false)
  | 12 => ("OrderSettler", "now", "LOrderSettler$State;", false)
  | _ => ("OrderSettler", "draft", "LOrderSettler$State;", false)
def tyX9 : Nat → FieldType := fun k => match k with
  | 0 => .array .byte
  | 1 => .int
  | 2 => .object "OrderSettler$Output"
  | 3 => .int
  | 4 => .int
  | 5 => .object "OrderSettler$MapReader"
  | 6 => .object "OrderSettler$TurnReader"
  | 7 => .object "OrderSettler$Judge"
  | 8 => .array (.object "OrderSettler$State")
  | 9 => .int
  | 10 => .object "OrderSettler$Board"
  | 11 => .object "OrderSettler$Board"
  | 12 => .object "OrderSettler$State"
  | _ => .object "OrderSettler$State"
theorem nmX9 : ∀ a, a < 14 → ∀ b, b < 14 → a ≠ b → (TX9 a).2.1 ≠ (TX9 b).2.1 := by decide +kernel
theorem tyX9_ok : ∀ k, k < 14 → parseFieldDescriptor (TX9 k).2.2.1 = some (tyX9 k) := by decide +kernel
abbrev cX9_init : ByteArray := prog_1_method_1_code
def yX9_init : MethodName := ⟨RX9, "<init>", "()V"⟩
abbrev cX9_feed : ByteArray := prog_1_method_2_code
def yX9_feed : MethodName := ⟨RX9, "feed", "(IIIII)I"⟩
abbrev cX9_load : ByteArray := prog_1_method_3_code
def yX9_load : MethodName := ⟨RX9, "load", "(I)I"⟩
abbrev cX9_tell : ByteArray := prog_1_method_4_code
def yX9_tell : MethodName := ⟨RX9, "tell", "(I)I"⟩
abbrev cX9_areas : ByteArray := prog_1_method_7_code
def yX9_areas : MethodName := ⟨RX9, "areas", "()I"⟩
abbrev cX9_powers : ByteArray := prog_1_method_8_code
def yX9_powers : MethodName := ⟨RX9, "powers", "()I"⟩
abbrev cX9_area : ByteArray := prog_1_method_9_code
def yX9_area : MethodName := ⟨RX9, "area", "(II)I"⟩
abbrev cX9_passes : ByteArray := prog_1_method_11_code
def yX9_passes : MethodName := ⟨RX9, "passes", "(IIZ)Z"⟩
abbrev cX9_power : ByteArray := prog_1_method_13_code
def yX9_power : MethodName := ⟨RX9, "power", "(II)I"⟩
abbrev cX9_phase : ByteArray := prog_1_method_14_code
def yX9_phase : MethodName := ⟨RX9, "phase", "()I"⟩
abbrev cX9_turn : ByteArray := prog_1_method_15_code
def yX9_turn : MethodName := ⟨RX9, "turn", "()I"⟩
abbrev cX9_order : ByteArray := prog_1_method_16_code
def yX9_order : MethodName := ⟨RX9, "order", "(II)I"⟩
abbrev cX9_settle : ByteArray := prog_1_method_17_code
def yX9_settle : MethodName := ⟨RX9, "settle", "()I"⟩
abbrev cX9_result : ByteArray := prog_1_method_18_code
def yX9_result : MethodName := ⟨RX9, "result", "(II)I"⟩
abbrev cX9_isContested : ByteArray := prog_1_method_20_code
def yX9_isContested : MethodName := ⟨RX9, "isContested", "(I)Z"⟩
abbrev cX9_mayRetreat : ByteArray := prog_1_method_21_code
def yX9_mayRetreat : MethodName := ⟨RX9, "mayRetreat", "(II)Z"⟩
abbrev cX9_endRetreats : ByteArray := prog_1_method_22_code
def yX9_endRetreats : MethodName := ⟨RX9, "endRetreats", "()I"⟩
abbrev cX9_endBuilds : ByteArray := prog_1_method_23_code
def yX9_endBuilds : MethodName := ⟨RX9, "endBuilds", "()I"⟩
abbrev cX9_undo : ByteArray := prog_1_method_24_code
def yX9_undo : MethodName := ⟨RX9, "undo", "()I"⟩
abbrev cX9_undoCount : ByteArray := prog_1_method_25_code
def yX9_undoCount : MethodName := ⟨RX9, "undoCount", "()I"⟩
abbrev cX9_foresee : ByteArray := prog_1_method_26_code
def yX9_foresee : MethodName := ⟨RX9, "foresee", "(II)I"⟩
abbrev cX9_requireLength : ByteArray := prog_1_method_38_code
def yX9_requireLength : MethodName := ⟨RX9, "requireLength", "(II)V"⟩
abbrev cX9_requireReport : ByteArray := prog_1_method_39_code
def yX9_requireReport : MethodName := ⟨RX9, "requireReport", "(II)V"⟩
abbrev cX9_requireArea : ByteArray := prog_1_method_40_code
def yX9_requireArea : MethodName := ⟨RX9, "requireArea", "(I)V"⟩
abbrev cX9_requirePower : ByteArray := prog_1_method_41_code
def yX9_requirePower : MethodName := ⟨RX9, "requirePower", "(I)V"⟩
abbrev cX9_requireUnit : ByteArray := prog_1_method_42_code
def yX9_requireUnit : MethodName := ⟨RX9, "requireUnit", "(I)V"⟩
abbrev cX9_requirePhase : ByteArray := prog_1_method_43_code
def yX9_requirePhase : MethodName := ⟨RX9, "requirePhase", "(I)V"⟩
abbrev cX9_requireSettled : ByteArray := prog_1_method_44_code
def yX9_requireSettled : MethodName := ⟨RX9, "requireSettled", "()V"⟩
abbrev cX9_append : ByteArray := prog_1_method_45_code
def yX9_append : MethodName := ⟨RX9, "append", "(I)V"⟩
abbrev cX9_noteError : ByteArray := prog_1_method_47_code
def yX9_noteError : MethodName := ⟨RX9, "noteError", "(LOrderSettler$TextReader;)V"⟩
abbrev cX9_adoptDraft : ByteArray := prog_1_method_48_code
def yX9_adoptDraft : MethodName := ⟨RX9, "adoptDraft", "()V"⟩
abbrev cX9_remember : ByteArray := prog_1_method_49_code
def yX9_remember : MethodName := ⟨RX9, "remember", "()V"⟩
abbrev cX9_bit : ByteArray := prog_1_method_56_code
def yX9_bit : MethodName := ⟨RX9, "bit", "(I)I"⟩
abbrev cX9_has : ByteArray := prog_1_method_57_code
def yX9_has : MethodName := ⟨RX9, "has", "(II)Z"⟩
abbrev cX9_entry : ByteArray := prog_1_method_58_code
def yX9_entry : MethodName := ⟨RX9, "entry", "([II)I"⟩
def RX10 : String := "OrderSettlerModel"
def TX10 : u_T := fun k => match k with
  | _ => ("", "", "", false)
def tyX10 : Nat → FieldType := fun k => match k with
  | _ => .int
theorem nmX10 : ∀ a, a < 0 → ∀ b, b < 0 → a ≠ b → (TX10 a).2.1 ≠ (TX10 b).2.1 := by decide +kernel
theorem tyX10_ok : ∀ k, k < 0 → parseFieldDescriptor (TX10 k).2.2.1 = some (tyX10 k) := by decide +kernel
def RJ5 : String := "java/lang/AbstractStringBuilder"
abbrev cJ5_init_d00df : ByteArray := prog_14_method_2_code
def yJ5_init_d00df : MethodName := ⟨RJ5, "<init>", "(I)V"⟩
abbrev cJ5_length_8abf5 : ByteArray := prog_14_method_6_code
def yJ5_length_8abf5 : MethodName := ⟨RJ5, "length", "()I"⟩
abbrev cJ5_ensureCapacityInternal_d00df : ByteArray := prog_14_method_9_code
def yJ5_ensureCapacityInternal_d00df : MethodName := ⟨RJ5, "ensureCapacityInternal", "(I)V"⟩
abbrev cJ5_newCapacity_0f7a4 : ByteArray := prog_14_method_10_code
def yJ5_newCapacity_0f7a4 : MethodName := ⟨RJ5, "newCapacity", "(I)I"⟩
abbrev cJ5_inflate_da8c8 : ByteArray := prog_14_method_11_code
def yJ5_inflate_da8c8 : MethodName := ⟨RJ5, "inflate", "()V"⟩
abbrev cJ5_append_cf1ce : ByteArray := prog_14_method_22_code
def yJ5_append_cf1ce : MethodName := ⟨RJ5, "append", "(Ljava/lang/String;)Ljava/lang/AbstractStringBuilder;"⟩
abbrev cJ5_appendNull_278bc : ByteArray := prog_14_method_26_code
def yJ5_appendNull_278bc : MethodName := ⟨RJ5, "appendNull", "()Ljava/lang/AbstractStringBuilder;"⟩
abbrev cJ5_append_3fe6f : ByteArray := prog_14_method_31_code
def yJ5_append_3fe6f : MethodName := ⟨RJ5, "append", "(C)Ljava/lang/AbstractStringBuilder;"⟩
abbrev cJ5_getValue_6d5f1 : ByteArray := prog_14_method_64_code
def yJ5_getValue_6d5f1 : MethodName := ⟨RJ5, "getValue", "()[B"⟩
abbrev cJ5_isLatin1_aae02 : ByteArray := prog_14_method_68_code
def yJ5_isLatin1_aae02 : MethodName := ⟨RJ5, "isLatin1", "()Z"⟩
abbrev cJ5_inflateIfNeededFor_a7421 : ByteArray := prog_14_method_71_code
def yJ5_inflateIfNeededFor_a7421 : MethodName := ⟨RJ5, "inflateIfNeededFor", "(Ljava/lang/String;)V"⟩
abbrev cJ5_putStringAt_47b60 : ByteArray := prog_14_method_73_code
def yJ5_putStringAt_47b60 : MethodName := ⟨RJ5, "putStringAt", "(ILjava/lang/String;)V"⟩
def RJ6 : String := "java/lang/Integer"
abbrev cJ6_bitCount_0f7a4 : ByteArray := prog_23_method_49_code
def yJ6_bitCount_0f7a4 : MethodName := ⟨RJ6, "bitCount", "(I)I"⟩
def RJ9 : String := "java/lang/Math"
abbrev cJ9_max_7cf53 : ByteArray := prog_24_method_65_code
def yJ9_max_7cf53 : MethodName := ⟨RJ9, "max", "(II)I"⟩
abbrev cJ9_min_7cf53 : ByteArray := prog_24_method_69_code
def yJ9_min_7cf53 : MethodName := ⟨RJ9, "min", "(II)I"⟩
def RJ0 : String := "java/lang/String"
def TJ0 : u_T := fun k => match k with
  | 0 => ("java/lang/String", "value", "[B", true)
  | 1 => ("java/lang/String", "coder", "B", true)
  | 2 => ("java/lang/String", "hash", "I", false)
  | _ => ("java/lang/String", "hashIsZero", "Z", false)
def tyJ0 : Nat → FieldType := fun k => match k with
  | 0 => .array .byte
  | 1 => .byte
  | 2 => .int
  | _ => .boolean
theorem nmJ0 : ∀ a, a < 4 → ∀ b, b < 4 → a ≠ b → (TJ0 a).2.1 ≠ (TJ0 b).2.1 := by decide +kernel
theorem tyJ0_ok : ∀ k, k < 4 → parseFieldDescriptor (TJ0 k).2.2.1 = some (tyJ0 k) := by decide +kernel
abbrev cJ0_init_81219 : ByteArray := prog_26_method_53_code
def yJ0_init_81219 : MethodName := ⟨RJ0, "<init>", "(Ljava/lang/StringBuilder;)V"⟩
abbrev cJ0_length_8abf5 : ByteArray := prog_26_method_54_code
def yJ0_length_8abf5 : MethodName := ⟨RJ0, "length", "()I"⟩
abbrev cJ0_charAt_5068e : ByteArray := prog_26_method_56_code
def yJ0_charAt_5068e : MethodName := ⟨RJ0, "charAt", "(I)C"⟩
abbrev cJ0_getBytes_840e7 : ByteArray := prog_26_method_147_code
def yJ0_getBytes_840e7 : MethodName := ⟨RJ0, "getBytes", "([BIB)V"⟩
abbrev cJ0_init_db425 : ByteArray := prog_26_method_150_code
def yJ0_init_db425 : MethodName := ⟨RJ0, "<init>", "(Ljava/lang/AbstractStringBuilder;Ljava/lang/Void;)V"⟩
abbrev cJ0_coder_7d493 : ByteArray := prog_26_method_152_code
def yJ0_coder_7d493 : MethodName := ⟨RJ0, "coder", "()B"⟩
abbrev cJ0_isLatin1_aae02 : ByteArray := prog_26_method_154_code
def yJ0_isLatin1_aae02 : MethodName := ⟨RJ0, "isLatin1", "()Z"⟩
abbrev cJ0_checkIndex_df160 : ByteArray := prog_26_method_155_code
def yJ0_checkIndex_df160 : MethodName := ⟨RJ0, "checkIndex", "(II)V"⟩
abbrev cJ0_checkBoundsOffCount_cabcc : ByteArray := prog_26_method_157_code
def yJ0_checkBoundsOffCount_cabcc : MethodName := ⟨RJ0, "checkBoundsOffCount", "(III)I"⟩
abbrev cJ0_checkBoundsBeginEnd_23922 : ByteArray := prog_26_method_158_code
def yJ0_checkBoundsBeginEnd_23922 : MethodName := ⟨RJ0, "checkBoundsBeginEnd", "(III)V"⟩
def RJ4 : String := "java/lang/StringBuilder"
def TJ4 : u_T := fun k => match k with
  | 0 => ("java/lang/AbstractStringBuilder", "value", "[B", false)
  | 1 => ("java/lang/AbstractStringBuilder", "coder", "B", false)
  | 2 => ("java/lang/AbstractStringBuilder", "maybeLatin1", "Z", false)
  | _ => ("java/lang/AbstractStringBuilder", "count", "I", false)
def tyJ4 : Nat → FieldType := fun k => match k with
  | 0 => .array .byte
  | 1 => .byte
  | 2 => .boolean
  | _ => .int
theorem nmJ4 : ∀ a, a < 4 → ∀ b, b < 4 → a ≠ b → (TJ4 a).2.1 ≠ (TJ4 b).2.1 := by decide +kernel
theorem tyJ4_ok : ∀ k, k < 4 → parseFieldDescriptor (TJ4 k).2.2.1 = some (tyJ4 k) := by decide +kernel
abbrev cJ4_init_da8c8 : ByteArray := prog_27_method_1_code
def yJ4_init_da8c8 : MethodName := ⟨RJ4, "<init>", "()V"⟩
abbrev cJ4_append_15ec4 : ByteArray := prog_27_method_7_code
def yJ4_append_15ec4 : MethodName := ⟨RJ4, "append", "(Ljava/lang/String;)Ljava/lang/StringBuilder;"⟩
abbrev cJ4_append_cf468 : ByteArray := prog_27_method_14_code
def yJ4_append_cf468 : MethodName := ⟨RJ4, "append", "(C)Ljava/lang/StringBuilder;"⟩
abbrev cJ4_toString_0e30d : ByteArray := prog_27_method_42_code
def yJ4_toString_0e30d : MethodName := ⟨RJ4, "toString", "()Ljava/lang/String;"⟩
abbrev cJ4_length_8abf5 : ByteArray := prog_27_method_93_code
def yJ4_length_8abf5 : MethodName := ⟨RJ4, "length", "()I"⟩
def RJ1 : String := "java/lang/StringLatin1"
abbrev cJ1_charAt_3b067 : ByteArray := prog_28_method_2_code
def yJ1_charAt_3b067 : MethodName := ⟨RJ1, "charAt", "([BI)C"⟩
abbrev cJ1_canEncode_fc78d : ByteArray := prog_28_method_3_code
def yJ1_canEncode_fc78d : MethodName := ⟨RJ1, "canEncode", "(C)Z"⟩
abbrev cJ1_inflate_0e8fd : ByteArray := prog_28_method_50_code
def yJ1_inflate_0e8fd : MethodName := ⟨RJ1, "inflate", "([BI[BII)V"⟩
def RJ2 : String := "java/lang/StringUTF16"
abbrev cJ2_newBytesFor_77867 : ByteArray := prog_29_method_2_code
def yJ2_newBytesFor_77867 : MethodName := ⟨RJ2, "newBytesFor", "(I)[B"⟩
abbrev cJ2_newBytesLength_0f7a4 : ByteArray := prog_29_method_3_code
def yJ2_newBytesLength_0f7a4 : MethodName := ⟨RJ2, "newBytesLength", "(I)I"⟩
abbrev cJ2_putChar_b72d1 : ByteArray := prog_29_method_4_code
def yJ2_putChar_b72d1 : MethodName := ⟨RJ2, "putChar", "([BII)V"⟩
abbrev cJ2_getChar_3b067 : ByteArray := prog_29_method_5_code
def yJ2_getChar_3b067 : MethodName := ⟨RJ2, "getChar", "([BI)C"⟩
abbrev cJ2_length_9d52b : ByteArray := prog_29_method_6_code
def yJ2_length_9d52b : MethodName := ⟨RJ2, "length", "([B)I"⟩
abbrev cJ2_coderFromArrayLen_85cad : ByteArray := prog_29_method_15_code
def yJ2_coderFromArrayLen_85cad : MethodName := ⟨RJ2, "coderFromArrayLen", "([BI)B"⟩
abbrev cJ2_compress_39247 : ByteArray := prog_29_method_17_code
def yJ2_compress_39247 : MethodName := ⟨RJ2, "compress", "([BII)[B"⟩
abbrev cJ2_compress_5af95 : ByteArray := prog_29_method_22_code
def yJ2_compress_5af95 : MethodName := ⟨RJ2, "compress", "([BI[BII)I"⟩
abbrev cJ2_putCharSB_b72d1 : ByteArray := prog_29_method_71_code
def yJ2_putCharSB_b72d1 : MethodName := ⟨RJ2, "putCharSB", "([BII)V"⟩
abbrev cJ2_putCharsAt_cd4e5 : ByteArray := prog_29_method_81_code
def yJ2_putCharsAt_cd4e5 : MethodName := ⟨RJ2, "putCharsAt", "([BICCCC)I"⟩
abbrev cJ2_charAt_3b067 : ByteArray := prog_29_method_83_code
def yJ2_charAt_3b067 : MethodName := ⟨RJ2, "charAt", "([BI)C"⟩
abbrev cJ2_inflate_0e8fd : ByteArray := prog_29_method_86_code
def yJ2_inflate_0e8fd : MethodName := ⟨RJ2, "inflate", "([BI[BII)V"⟩
abbrev cJ2_checkIndex_2214a : ByteArray := prog_29_method_91_code
def yJ2_checkIndex_2214a : MethodName := ⟨RJ2, "checkIndex", "(I[B)V"⟩
abbrev cJ2_checkBoundsBeginEnd_d044e : ByteArray := prog_29_method_93_code
def yJ2_checkBoundsBeginEnd_d044e : MethodName := ⟨RJ2, "checkBoundsBeginEnd", "(II[B)V"⟩
abbrev cJ2_checkBoundsOffCount_d044e : ByteArray := prog_29_method_94_code
def yJ2_checkBoundsOffCount_d044e : MethodName := ⟨RJ2, "checkBoundsOffCount", "(II[B)V"⟩
def RJ10 : String := "java/lang/System"
def RJ7 : String := "java/util/Arrays"
abbrev cJ7_copyOf_9075b : ByteArray := prog_34_method_121_code
def yJ7_copyOf_9075b : MethodName := ⟨RJ7, "copyOf", "([BI)[B"⟩
abbrev cJ7_checkLength_df160 : ByteArray := prog_34_method_131_code
def yJ7_checkLength_df160 : MethodName := ⟨RJ7, "checkLength", "(II)V"⟩
abbrev cJ7_copyOfRange_39247 : ByteArray := prog_34_method_132_code
def yJ7_copyOfRange_39247 : MethodName := ⟨RJ7, "copyOfRange", "([BII)[B"⟩
abbrev cJ7_copyOfRangeByte_39247 : ByteArray := prog_34_method_133_code
def yJ7_copyOfRangeByte_39247 : MethodName := ⟨RJ7, "copyOfRangeByte", "([BII)[B"⟩
def RJ8 : String := "jdk/internal/util/ArraysSupport"
abbrev cJ8_newLength_cabcc : ByteArray := prog_36_method_27_code
def yJ8_newLength_cabcc : MethodName := ⟨RJ8, "newLength", "(III)I"⟩
abbrev cJ8_hugeLength_7cf53 : ByteArray := prog_36_method_28_code
def yJ8_hugeLength_7cf53 : MethodName := ⟨RJ8, "hugeLength", "(II)I"⟩
def RJ3 : String := "jdk/internal/util/Preconditions"
abbrev cJ3_checkIndex_8e157 : ByteArray := prog_37_method_11_code
def yJ3_checkIndex_8e157 : MethodName := ⟨RJ3, "checkIndex", "(IILjava/util/function/BiFunction;)I"⟩
abbrev cJ3_checkFromToIndex_8c36e : ByteArray := prog_37_method_12_code
def yJ3_checkFromToIndex_8c36e : MethodName := ⟨RJ3, "checkFromToIndex", "(IIILjava/util/function/BiFunction;)I"⟩
abbrev cJ3_checkFromIndexSize_8c36e : ByteArray := prog_37_method_13_code
def yJ3_checkFromIndexSize_8c36e : MethodName := ⟨RJ3, "checkFromIndexSize", "(IIILjava/util/function/BiFunction;)I"⟩
def RL : String := "OrderSettlerLaw"
abbrev cL_next : ByteArray := method_2_code
def yL_next : MethodName := ⟨RL, "next", "([I)I"⟩
abbrev cL_type : ByteArray := method_3_code
def yL_type : MethodName := ⟨RL, "type", "(LOrderSettler;Ljava/lang/String;)V"⟩
abbrev cL_load : ByteArray := method_4_code
def yL_load : MethodName := ⟨RL, "load", "(LOrderSettler;Ljava/lang/String;)I"⟩
abbrev cL_tell : ByteArray := method_5_code
def yL_tell : MethodName := ⟨RL, "tell", "(LOrderSettler;Ljava/lang/String;)I"⟩
abbrev cL_map : ByteArray := method_6_code
def yL_map : MethodName := ⟨RL, "map", "([III)Ljava/lang/String;"⟩
abbrev cL_border : ByteArray := method_7_code
def yL_border : MethodName := ⟨RL, "border", "(II)Ljava/lang/String;"⟩
abbrev cL_units : ByteArray := method_8_code
def yL_units : MethodName := ⟨RL, "units", "([III)Ljava/lang/String;"⟩
abbrev cL_order : ByteArray := method_9_code
def yL_order : MethodName := ⟨RL, "order", "([III)Ljava/lang/String;"⟩
abbrev cL_orders : ByteArray := method_10_code
def yL_orders : MethodName := ⟨RL, "orders", "(LOrderSettler;[II)I"⟩
abbrev cL_may : ByteArray := method_11_code
def yL_may : MethodName := ⟨RL, "may", "(LOrderSettler;II)Z"⟩
abbrev cL_undone : ByteArray := method_12_code
def yL_undone : MethodName := ⟨RL, "undone", "(LOrderSettler;)I"⟩
abbrev cL_units_ : ByteArray := method_13_code
def yL_units_ : MethodName := ⟨RL, "units", "(LOrderSettler;)I"⟩
abbrev cL_aside : ByteArray := method_14_code
def yL_aside : MethodName := ⟨RL, "aside", "(LOrderSettler;)I"⟩
abbrev cL_sum : ByteArray := method_15_code
def yL_sum : MethodName := ⟨RL, "sum", "(LOrderSettler;)I"⟩
abbrev cL_settles : ByteArray := method_16_code
def yL_settles : MethodName := ⟨RL, "settles", "(LOrderSettler;)Z"⟩
abbrev cL_retreats : ByteArray := method_17_code
def yL_retreats : MethodName := ⟨RL, "retreats", "(LOrderSettler;[I)Z"⟩
abbrev cL_builds : ByteArray := method_18_code
def yL_builds : MethodName := ⟨RL, "builds", "(LOrderSettler;[I)Z"⟩
abbrev cL_law : ByteArray := code
def yL_law : MethodName := ⟨RL, "law", "([I)Z"⟩
abbrev vwCl : List vw_C := [(RX0, TX0, 10), (RX1, TX1, 8), (RX2, TX2, 16), (RX3, TX3, 10), (RX4, TX4, 2), (RX5, TX5, 16), (RX7, TX7, 10), (RX9, TX9, 14), (RJ0, TJ0, 4), (RJ4, TJ4, 4)]
end
section
/-! The road: the law's code is read as plain functions over a plain memory; each function is tied to its bytecode by the judgement osW, row by row (03 to 05); the functions are then compared. -/
/-- a cell as the functions see it: an array (its kind's number, its length, its places) or an object (its class' number in vwCl, its fields) -/
abbrev osE : Type := (Nat × vp_A) ⊕ (Nat × List Value)
/-- the memory: what is known, by address; the heap's exact size where it is known -/
abbrev osS : Type := (Nat → Option osE) × Option Nat
/-- class ids and slots; the array kinds' class ids; the first address that may be written; the constants' addresses; the texts' addresses -/
abbrev osG : Type := va_G × (Nat → ClassId) × Nat × (Nat → Nat) × (Nat → Nat)
abbrev osM (α : Type) : Type := osG → osS → Option (α × osS)
def osA (G : osG) : Nat → Prop := fun q => G.2.2.1 ≤ q
def osTy : List FieldType := [.int, .byte, .int, .int, .int, .object "OrderSettler$State", .int]
def osTys (G : osG) : List (ClassId × FieldType) := [(G.2.1 0, .int), (G.2.1 1, .byte), (G.2.1 2, .int), (G.2.1 3, .int), (G.2.1 4, .int), (G.2.1 5, .object "OrderSettler$State"), (G.2.1 6, .int)]
theorem osTys_at {G : osG} {t : Nat} {ty : FieldType} (h : osTy[t]? = some ty) : (osTys G)[t]? = some (G.2.1 t, ty) := by
  match t, h with
  | 0, h => cases h; rfl
  | 1, h => cases h; rfl
  | 2, h => cases h; rfl
  | 3, h => cases h; rfl
  | 4, h => cases h; rfl
  | 5, h => cases h; rfl
  | 6, h => cases h; rfl
  | n + 7, h => simp [osTy] at h
/-- what a known cell says of the heap -/
def osAt (G : osG) (a : Nat) (e : osE) (H : Heap) : Prop := match e with
  | .inl x => H[a]? = some (vp_cell (G.2.1 x.1) x.2) ∧ x.1 < 7
  | .inr o => va_at G.1 vwCl (a, .inr o) H
def osMem (G : osG) (z : osS) (H : Heap) : Prop := (∀ a e, z.1 a = some e → osAt G a e H) ∧ ∀ k, z.2 = some k → H.size = k
/-- the words that stay true while the machine runs -/
def osOt : Cond → Bool
  | .methodLinkNest .. | .fieldLinkNest .. | .castable .. | .declares .. => true
  | w => goodWord w
theorem osOt_at {a a' : Array Value} {s U : State} {w : Cond} (hg : osOt w = true) (hW : s.WarmedH U.vm) (h : w.before a s = true) : w.before a' U = true := by
  by_cases hgw : goodWord w = true
  · exact word_at hW (good_of_word hgw) h
  · cases w with
    | methodLinkNest c i x ho => exact va_Nw.use rfl (va_Nw.warmM hW (va_Nw.of rfl h))
    | fieldLinkNest c i b n d ho => exact va_Nw.use rfl (va_Nw.warmF hW (va_Nw.of rfl h))
    | castable c t => exact va_Nw.use rfl (va_Nw.warmC hW (va_Nw.of rfl h))
    | declares x => exact va_Nw.use rfl (va_Nw.warmD hW (va_Nw.of rfl h))
    | _ => exact absurd hg hgw
/-- a private method that a subclass' objects take: said by the tables' other words -/
def osXt : List Cond := [.selects RX3 yX6_advance yX6_advance, .selects RX7 yX6_advance yX6_advance, .selects RJ4 yJ5_ensureCapacityInternal_d00df yJ5_ensureCapacityInternal_d00df, .selects RJ4 yJ5_newCapacity_0f7a4 yJ5_newCapacity_0f7a4, .selects RJ4 yJ5_putStringAt_47b60 yJ5_putStringAt_47b60, .selects RJ4 yJ5_inflateIfNeededFor_a7421 yJ5_inflateIfNeededFor_a7421]
def lw2 : List Cond := osXt ++ lw_tbl
def osX : List Cond := lw2.filter osOt
theorem osX_mem {w : Cond} (i : Nat) (h : lw2[i]? = some w) (g : osOt w = true) : w ∈ osX := List.mem_filter.mpr ⟨List.mem_of_getElem? h, g⟩
/-- the texts of the class: the pool's number and the text -/
def osTx : List (String × Nat × String) := [("OrderSettlerLaw", 46, "sea "), ("OrderSettlerLaw", 48, "coast "), ("OrderSettlerLaw", 50, "land "), ("OrderSettlerLaw", 59, " center;"), ("OrderSettlerLaw", 61, ";"), ("OrderSettlerLaw", 73, "border "), ("OrderSettlerLaw", 75, " "), ("OrderSettlerLaw", 67, "power "), ("OrderSettlerLaw", 77, "fleet "), ("OrderSettlerLaw", 79, "army "), ("OrderSettlerLaw", 81, " support "), ("OrderSettlerLaw", 83, " to "), ("OrderSettlerLaw", 85, " convoy "), ("OrderSettlerLaw", 87, " hold;"), ("OrderSettlerLaw", 168, "build "), ("OrderSettlerLaw", 170, " army;"), ("OrderSettlerLaw", 172, "remove "), ("OrderSettler", 80, "the input buffer is full"), ("OrderSettler", 101, "the map has an error"), ("OrderSettler", 118, "the text has an error"), ("OrderSettler", 264, "no dislodged unit is there"), ("OrderSettler", 280, "nothing can be undone"), ("OrderSettler", 357, "the length is out of range"), ("OrderSettler", 359, "there is no such report"), ("OrderSettler", 364, "there is no such area"), ("OrderSettler", 366, "there is no such power"), ("OrderSettler", 368, "there is no unit at such an area"), ("OrderSettler", 370, "the phase is another one"), ("OrderSettler", 376, "nothing was settled")]
/-- what the tables say, of a state -/
def osV (G : osG) (U : State) : Prop := (∀ w ∈ osX, w.before #[] U = true) ∧ va_K G.1 vwCl (osTys G) U ∧ (∀ (j : Nat) (q : String × Nat × String), osTx[j]? = some q → vk_R q.1 q.2.1 q.2.2 (G.2.2.2.2 j) U)
def osPk : List Int64 := [394692, 3638900, 19617, 106385586, 83431602, 51641, 6689972, 17292466, 277892, 655, 21123055188, 116873721, 4616947140, 2794884, 609664709]
def osWd : List String := ["LAND", "COAST", "SEA", "CENTER", "BORDER", "ARMY", "FLEET", "POWER", "HOLD", "TO", "SUPPORT", "CONVOY", "DISBAND", "BUILD", "REMOVE"]
/-- a word's constant: where it lies and what it holds -/
def osWc (G : osG) (a : Nat) (v : Int64) (U : State) (H : Heap) : Prop := ∃ (c : ClassId) (k : Class) (i : Nat) (f : Field) (cell : Cell), U.fieldFound? "OrderSettler$Word" "packed" "J" = some (c, k, i, f) ∧ f.isStatic = false ∧ H[a]? = some cell ∧ cell.vm ≠ .unknown ∧ cell.slots[f.slot]? = some (.long v) ∧ ¬ osA G a
/-- the exceptions that are thrown -/
def osEx : List String := ["java/lang/IllegalStateException", "java/lang/IllegalArgumentException", "java/util/NoSuchElementException", "java/lang/IndexOutOfBoundsException"]
/-- none of them is another -/
def osNx (U : State) : Prop := ∀ (i j : Nat) (A B : String), osEx[i]? = some A → osEx[j]? = some B → i ≠ j → va_Nc A B U
/-- the texts' bytes -/
def osTs : List (List Int32) := [[115, 101, 97, 32], [99, 111, 97, 115, 116, 32], [108, 97, 110, 100, 32], [32, 99, 101, 110, 116, 101, 114, 59], [59], [98, 111, 114, 100, 101, 114, 32], [32], [112, 111, 119, 101, 114, 32], [102, 108, 101, 101, 116, 32], [97, 114, 109, 121, 32], [32, 115, 117, 112, 112, 111, 114, 116, 32], [32, 116, 111, 32], [32, 99, 111, 110, 118, 111, 121, 32], [32, 104, 111, 108, 100, 59], [98, 117, 105, 108, 100, 32], [32, 97, 114, 109, 121, 59], [114, 101, 109, 111, 118, 101, 32]]
/-- constant arrays and texts: the words' array, a text's parts (its bytes lie at the place 100 + j), two statics of the JDK's -/
def osSt (G : osG) (U : State) (H : Heap) : Prop := va_T (.object "OrderSettler$Word") (G.2.2.2.1 15) 15 (fun j => .ref (G.2.2.2.1 j)) (osA G) U H ∧ (∀ (j : Nat) (bs : List Int32), osTs[j]? = some bs → va_O "java/lang/String" (G.2.2.2.2 j) (osA G) U H ∧ va_OF "java/lang/String" "coder" "B" (.int 0) (G.2.2.2.2 j) (osA G) U H ∧ va_OF "java/lang/String" "value" "[B" (.ref (G.2.2.2.2 (100 + j))) (G.2.2.2.2 j) (osA G) U H ∧ va_T .byte (G.2.2.2.2 (100 + j)) bs.length (fun i => .int (bs.getD i 0)) (osA G) U H) ∧
  va_Z "java/lang/String" "COMPACT_STRINGS" "Z" (.int 1) (osA G) U H ∧ va_Zq "jdk/internal/util/Preconditions" "SIOOBE_FORMATTER" "Ljava/util/function/BiFunction;" (osA G) U H ∧ osNx U ∧ va_AO "OrderSettler$State" U
theorem osSt.moved {G : osG} {u U : State} {H : Heap} (hvm : u.vm.Alike U.vm) (h : osSt G u H) : osSt G U H := ⟨va_T.moved hvm h.1, fun j bs hj => ⟨va_O.moved hvm (h.2.1 j bs hj).1, va_OF.moved hvm (h.2.1 j bs hj).2.1, va_OF.moved hvm (h.2.1 j bs hj).2.2.1, va_T.moved hvm (h.2.1 j bs hj).2.2.2⟩, va_Z.moved hvm h.2.2.1, va_Zq.moved hvm h.2.2.2.1, fun i j A B h1 h2 h3 => va_Nc.moved hvm (h.2.2.2.2.1 i j A B h1 h2 h3), va_AO.moved hvm h.2.2.2.2.2⟩
theorem osSt.kept {G : osG} {U : State} {H H1 : Heap} (h : osSt G U H) (hq : ∀ a : Nat, a < H.size → ¬ osA G a → H1[a]? = H[a]?) : osSt G U H1 := ⟨h.1.kept hq, fun j bs hj => ⟨(h.2.1 j bs hj).1.kept hq, (h.2.1 j bs hj).2.1.kept hq, (h.2.1 j bs hj).2.2.1.kept hq, (h.2.1 j bs hj).2.2.2.kept hq⟩, h.2.2.1.kept hq, h.2.2.2.1.kept hq, h.2.2.2.2⟩
def osZ (G : osG) (U : State) (H : Heap) : Prop := (∀ (j : Nat) (n : String), osWd[j]? = some n → va_Z "OrderSettler$Word" n "LOrderSettler$Word;" (.ref (G.2.2.2.1 j)) (osA G) U H) ∧ va_Z "OrderSettler$Word" "ALL" "[LOrderSettler$Word;" (.ref (G.2.2.2.1 15)) (osA G) U H ∧ (∀ (j : Nat) (v : Int64), osPk[j]? = some v → osWc G (G.2.2.2.1 j) v U H) ∧
  vx_Zq Bundle.tN "UNASSIGNED_STACK" Bundle.steD (osA G) U H ∧ vx_Zq Bundle.tN "SUPPRESSED_SENTINEL" Bundle.listD (osA G) U H ∧ osSt G U H
def osR (G : osG) (z : osS) (U : State) : Prop := osV G U ∧ osZ G U U.heap ∧ osMem G z U.heap
theorem osV.moved {G : osG} {u U : State} (hW : u.WarmedH U.vm) (h : osV G u) : osV G U := ⟨fun w hw => osOt_at (List.mem_filter.mp hw).2 hW (h.1 w hw), va_K.moved hW.alike h.2.1, fun j q hq => vk_R.warm hW (h.2.2 j q hq)⟩
theorem osV.word {G : osG} {u : State} (h : osV G u) {args : Array Value} : ∀ w ∈ osX, w.before args u = true := fun w hw => osOt_at (List.mem_filter.mp hw).2 (State.WarmedH.refl u) (h.1 w hw)
theorem osWc.moved {G : osG} {a : Nat} {v : Int64} {u U : State} {H : Heap} (hvm : u.vm.Alike U.vm) (h : osWc G a v u H) : osWc G a v U H := by
  obtain ⟨c, k, i, f, cell, h1, h2⟩ := h
  obtain ⟨k', hi', -⟩ := State.fieldFound?_setVm hvm h1
  exact ⟨c, k', i, f, cell, hi', h2⟩
theorem osWc.kept {G : osG} {a : Nat} {v : Int64} {U : State} {H H1 : Heap} (h : osWc G a v U H) (hq : ∀ a : Nat, a < H.size → ¬ osA G a → H1[a]? = H[a]?) : osWc G a v U H1 := by
  obtain ⟨c, k, i, f, cell, h1, h2, h3, h4, h5, h6⟩ := h
  exact ⟨c, k, i, f, cell, h1, h2, by rw [hq a (Array.getElem?_eq_some_iff.mp h3).1 h6]; exact h3, h4, h5, h6⟩
theorem osZ.moved {G : osG} {u U : State} {H : Heap} (hvm : u.vm.Alike U.vm) (h : osZ G u H) : osZ G U H := ⟨fun j n hn => va_Z.moved hvm (h.1 j n hn), va_Z.moved hvm h.2.1, fun j v hv => osWc.moved hvm (h.2.2.1 j v hv), vx_Zq.moved hvm h.2.2.2.1, vx_Zq.moved hvm h.2.2.2.2.1, h.2.2.2.2.2.moved hvm⟩
theorem osZ.kept {G : osG} {U : State} {H H1 : Heap} (h : osZ G U H) (hq : ∀ a : Nat, a < H.size → ¬ osA G a → H1[a]? = H[a]?) : osZ G U H1 := ⟨fun j n hn => va_Z.kept (h.1 j n hn) hq, va_Z.kept h.2.1 hq, fun j v hv => osWc.kept (h.2.2.1 j v hv) hq, vx_Zq.kept h.2.2.2.1 hq, vx_Zq.kept h.2.2.2.2.1 hq, h.2.2.2.2.2.kept hq⟩
/-- at a method's end -/
theorem osR.end {G : osG} {z : osS} {s t : State} {H : Heap} {locs : List Loc} (hV : osV G s) (hZ : osZ G s s.heap) (hM : osMem G z H) (hS : va_S (osA G) s.heap H locs) (ht : t.heap = H) (hW : s.WarmedH t.vm) : osR G z t := by
  refine ⟨hV.moved hW, ?_, by rw [ht]; exact hM⟩
  rw [ht]
  exact (hZ.kept hS.2.1).moved hW.alike
theorem osR.blind {G : osG} {z : osS} {As : List Value} : FrameBlind (fun a U => a = As.toArray ∧ osR G z U) := fun a U g mk q => ⟨q.1, osV.moved (u := U) (U := U.calling g mk a) (State.WarmedH.refl U) q.2.1, osZ.moved (u := U) (U := U.calling g mk a) (Vm.Alike.refl U.vm) q.2.2.1, q.2.2.2⟩
abbrev osF (ρ : Type) : Type := osG → ρ → osS → List Frame → Array Value → State → State → Prop
/-- the body's constants -/
def osB (p : Program) (l : Launch) (s : State) (m : MethodId) (meth : Method) (c : Code) (y : MethodName) (cc : ByteArray) (nL : Nat) (ret : Option FieldType) (hh : List (Nat × Nat × Nat × Nat)) : Prop :=
  p.tables.exec = Jvm.exec ∧ c.code = cc ∧ c.maxLocals = nL ∧ s.vm.findClass y.cls = some m.cls ∧ meth.sig.returnType = ret ∧ meth.locks = false ∧ c.exceptionTable.toList = tableOf hh ∧ l.stackTraces = false ∧ meth.name = y.name
/-- from the frame at pc with these locals and this stack, and any memory for which the function F answers, the machine comes to what Fin says of that answer -/
def osW {ρ : Type} (Fin : osF ρ) (y : MethodName) (cc : ByteArray) (nL : Nat) (ret : Option FieldType) (hh : List (Nat × Nat × Nat × Nat)) (R : Room) (k n : Nat) (pc : Nat) (lv : List (Nat × Value)) (st : List Value) (F : osM ρ) : Prop :=
  ∀ (p : Program) (l : Launch) (e : Env) (s : State) (m : MethodId) (args : Array Value) (below : List Frame) (meth : Method) (c : Code), osB p l s m meth c y cc nL ret hh → ∀ (G : osG) (z : osS) (r : ρ) (z' : osS), osV G s → osZ G s s.heap → F G z = some (r, z') →
    ∀ (H : Heap) (locs : List Loc) (ls : Array Slot), osMem G z H → va_S (osA G) s.heap H locs → lv_has ls nL lv → W p l e R s m args below meth c H locs k n (Fin G r z' below args s) (F0 m pc ls st)
def osFinM {ρ : Type} (rv : ρ → Option Value) (mc ms : Nat) : osF ρ := fun G r z' below args s => MQ below (fun _ st o t => o = .returned (rv r) ∧ osR G z' t ∧ va_F (osA G) st t) args s mc ms (osA G)
/-- a method that throws nothing does what the function f does -/
def osMet {ρ : Type} (y : MethodName) (cc : ByteArray) (nL : Nat) (ret : Option FieldType) (fr lo mc ms : Nat) (rv : ρ → Option Value) (As : List Value) (f : osM ρ) : Prop :=
  ∀ l : Launch, l.stackTraces = false → ∀ (G : osG) (z : osS) (r : ρ) (z' : osS), f G z = some (r, z') → Met l y [.code y cc nL ret] { frames := fr, cells := mc, slots := ms, locals := lo } (fun a U => a = As.toArray ∧ osR G z U) (fun _ st o t => o = .returned (rv r) ∧ osR G z' t ∧ va_F (osA G) st t) mc ms (osA G)
theorem osMet.of {ρ : Type} {y : MethodName} {cc : ByteArray} {nL : Nat} {ret : Option FieldType} {fr lo mc ms : Nat} {rv : ρ → Option Value} {As : List Value} {f : osM ρ} (hy : plainName y.cls = true) (hn : (lg_sl As).length ≤ nL)
    (h : osW (osFinM rv mc ms) y cc nL ret [] { frames := fr, cells := mc, slots := ms, locals := lo } 0 0 0 (lv_args 0 As) [] f) : osMet y cc nL ret fr lo mc ms rv As f := by
  intro l hl G z r z' hf
  refine MetFree.of_bodyS (code := cc) (maxLocals := nL) (ret := ret) hy ?_ ?_
  · intro args s m h hn
    obtain ⟨meth, c, h1, h2, h3, h4, h5, h6, -, -⟩ := Cond.code_spec hn (atoms_spec (ws := [Cond.code y cc nL ret]) h _ List.mem_cons_self)
    exact ⟨meth, c, h1, h2, h3, h4, h5, h6⟩
  · intro p e s m args below meth c s₁ B hml hP _
    have hh0 : s₁.heap = s.heap := by rw [B.state]; rfl
    have ht : c.exceptionTable.toList = tableOf [] := by
      obtain ⟨meth9, c9, h1, h2, -, -, -, -, h7, -⟩ := Cond.code_spec B.named (atoms_spec (ws := [Cond.code y cc nL ret]) B.pre _ List.mem_cons_self)
      cases Option.some.inj (h1.symm.trans B.method)
      cases Option.some.inj (h2.symm.trans (Stand.of_body B).code)
      rw [Array.isEmpty_iff.mp h7]
      rfl
    obtain ⟨rfl, hV, hZ, hM⟩ := hP
    have hl0 := lv_entry As hn
    have K := h p l e s m As.toArray below meth c ⟨B.exec, B.bytes, hml, findClass_of_methodNamed B.named, B.returns, B.notSynchronized, ht, hl, (name_of_methodNamed B.named B.method).1⟩ G z r z' hV hZ hf s.heap [] _ hM va_S.rf hl0
    have K2 : W p l e (headSpec [Cond.code y cc nL ret] { frames := fr, cells := mc, slots := ms, locals := lo }).room s m As.toArray below meth c s.heap [] 0 0 (MQ below (fun _ st o t => o = .returned (rv r) ∧ osR G z' t ∧ va_F (osA G) st t) As.toArray s mc ms (osA G)) (entryFrame m As.toArray nL) := by
      rw [lg_entry_eq]
      exact K
    obtain ⟨t, a1, o, b1, b2, b3⟩ := K2 s₁ hh0 (Stand.of_body B)
    exact ⟨t, o, a1, b1, b2, ⟨b3.1, b3.2⟩⟩
end
section
def osbind {α β : Type} (m : osM α) (f : α → osM β) : osM β := fun G z => match m G z with
  | some (a, z') => f a G z'
  | none => none
def osret {α : Type} (a : α) : osM α := fun _ z => some (a, z)
def osite {α : Type} (c : Prop) [Decidable c] (t e : osM α) : osM α := fun G z => if c then t G z else e G z
def osno {α : Type} : osM α := fun _ _ => none
def osguard {α : Type} (c : Prop) [Decidable c] (t : osM α) : osM α := fun G z => if c then t G z else none
/-- an instruction at pc, and where the next one stands -/
def osD (cc : ByteArray) (pc len pc' : Nat) (i : Instr) : Prop := decode cc pc = .ok (i, len) ∧ pc + len = pc'
def osDs (cc : ByteArray) (L : List (Nat × Nat × Instr)) : Prop := ∀ q ∈ L, decode cc q.1 = .ok (q.2.2, q.2.1)
theorem osDs.at {cc : ByteArray} {L : List (Nat × Nat × Instr)} (h : osDs cc L) (j : Nat) {pc len pc' : Nat} {i : Instr} (hj : L[j]? = some (pc, len, i)) (hp : pc + len = pc') : osD cc pc len pc' i := ⟨h (pc, len, i) (List.mem_of_getElem? hj), hp⟩
theorem osite_some {α : Type} {c : Prop} [Decidable c] {t e : osM α} {G : osG} {z : osS} {r : α × osS} (h : osite c t e G z = some r) : (c → t G z = some r) ∧ (¬ c → e G z = some r) := by
  unfold osite at h
  by_cases hc : c
  · rw [if_pos hc] at h; exact ⟨fun _ => h, fun q => absurd hc q⟩
  · rw [if_neg hc] at h; exact ⟨fun q => absurd q hc, fun _ => h⟩
theorem osbind_some {α β : Type} {m : osM α} {f : α → osM β} {G : osG} {z : osS} {r : β × osS} (h : osbind m f G z = some r) : ∃ a z1, m G z = some (a, z1) ∧ f a G z1 = some r := by
  unfold osbind at h
  cases hm : m G z with
  | none => rw [hm] at h; cases h
  | some q => rw [hm] at h; exact ⟨q.1, q.2, rfl, h⟩
section R
variable {ρ : Type} {Fi : osF ρ} {y : MethodName} {cc : ByteArray} {nL : Nat} {ret : Option FieldType} {hh : List (Nat × Nat × Nat × Nat)} {R : Room} {k n : Nat} {pc pc' : Nat} {lv : List (Nat × Value)} {st : List Value} {F : osM ρ}
theorem osW.rw {pc2 : Nat} {lv2 : List (Nat × Value)} {st2 : List Value} (kk : osW Fi y cc nL ret hh R k n pc2 lv2 st2 F) (h1 : pc = pc2) (h2 : lv = lv2) (h3 : st = st2) : osW Fi y cc nL ret hh R k n pc lv st F := by
  subst h1; subst h2; subst h3; exact kk
/-- fewer locals are known further on -/
theorem osW.sub {lv' : List (Nat × Value)} (ks : List Nat) (hp : lv_pick lv ks = lv') (kk : osW Fi y cc nL ret hh R k n pc lv' st F) : osW Fi y cc nL ret hh R k n pc lv st F := by
  intro p l e s m args below meth c B G z r z' hV hZ hF H locs ls hM hS hl
  exact kk p l e s m args below meth c B G z r z' hV hZ hF H locs ls hM hS (lv_sub hl ks hp)
theorem osW.widen {k' n' : Nat} (h1 : k ≤ k') (h2 : n ≤ n') (kk : osW Fi y cc nL ret hh R k' n' pc lv st F) : osW Fi y cc nL ret hh R k n pc lv st F := by
  intro p l e s m args below meth c B G z r z' hV hZ hF H locs ls hM hS hl
  exact W.widen h1 h2 (kk p l e s m args below meth c B G z r z' hV hZ hF H locs ls hM hS hl)
theorem os_guard {c : Prop} [Decidable c] (kk : c → osW Fi y cc nL ret hh R k n pc lv st F) : osW Fi y cc nL ret hh R k n pc lv st (osguard c F) := by
  intro p l e s m args below meth c9 B G z r z' hV hZ hF H locs ls hM hS hl
  unfold osguard at hF
  by_cases hc : c
  · rw [if_pos hc] at hF; exact kk hc p l e s m args below meth c9 B G z r z' hV hZ hF H locs ls hM hS hl
  · rw [if_neg hc] at hF; cases hF
theorem os_iconst {i : Int} {v : Int32} (hv : Int32.ofInt i = v) (hd : osD cc pc 1 pc' (.iconst i)) (kk : osW Fi y cc nL ret hh R k n pc' lv (.int v :: st) F) : osW Fi y cc nL ret hh R k n pc lv st F := by
  intro p l e s m args below meth c B G z r z' hV hZ hF H locs ls hM hS hl
  obtain ⟨hx, hb, hml, hown, hr, hlk, htab, hst, hnm⟩ := id B
  obtain ⟨hd, rfl⟩ := hd
  exact lv_iconst hx hb hd hv (kk p l e s m args below meth c B G z r z' hV hZ hF H locs ls hM hS hl)
theorem os_bipush {i : Int} {v : Int32} (hv : (Int8.ofInt i).toInt32 = v) (hd : osD cc pc 2 pc' (.bipush i)) (kk : osW Fi y cc nL ret hh R k n pc' lv (.int v :: st) F) : osW Fi y cc nL ret hh R k n pc lv st F := by
  intro p l e s m args below meth c B G z r z' hV hZ hF H locs ls hM hS hl
  obtain ⟨hx, hb, hml, hown, hr, hlk, htab, hst, hnm⟩ := id B
  obtain ⟨hd, rfl⟩ := hd
  exact lv_bipush hx hb hd hv (kk p l e s m args below meth c B G z r z' hV hZ hF H locs ls hM hS hl)
theorem os_sipush {i : Int} {v : Int32} (hv : (Int16.ofInt i).toInt32 = v) (hd : osD cc pc 3 pc' (.sipush i)) (kk : osW Fi y cc nL ret hh R k n pc' lv (.int v :: st) F) : osW Fi y cc nL ret hh R k n pc lv st F := by
  intro p l e s m args below meth c B G z r z' hV hZ hF H locs ls hM hS hl
  obtain ⟨hx, hb, hml, hown, hr, hlk, htab, hst, hnm⟩ := id B
  obtain ⟨hd, rfl⟩ := hd
  exact lv_sipush hx hb hd hv (kk p l e s m args below meth c B G z r z' hV hZ hF H locs ls hM hS hl)
theorem os_lconst {i : Fin 2} {v : Int64} (hv : Int64.ofNat (i : Nat) = v) (hd : osD cc pc 1 pc' (.lconst i)) (kk : osW Fi y cc nL ret hh R k n pc' lv (.long v :: st) F) : osW Fi y cc nL ret hh R k n pc lv st F := by
  intro p l e s m args below meth c B G z r z' hV hZ hF H locs ls hM hS hl
  obtain ⟨hx, hb, hml, hown, hr, hlk, htab, hst, hnm⟩ := id B
  obtain ⟨hd, rfl⟩ := hd
  exact lv_lconst hx hb hd hv (kk p l e s m args below meth c B G z r z' hV hZ hF H locs ls hM hS hl)
theorem os_ldc {ix : Nat} {v : Int32} (hw : Cond.constant y.cls ix v ∈ osX) (hd : osD cc pc 2 pc' (.ldc ix)) (kk : osW Fi y cc nL ret hh R k n pc' lv (.int v :: st) F) : osW Fi y cc nL ret hh R k n pc lv st F := by
  intro p l e s m args below meth c B G z r z' hV hZ hF H locs ls hM hS hl
  obtain ⟨hx, hb, hml, hown, hr, hlk, htab, hst, hnm⟩ := id B
  obtain ⟨hd, rfl⟩ := hd
  exact lv_ldc hx hb hown (hV.word _ hw) hd (kk p l e s m args below meth c B G z r z' hV hZ hF H locs ls hM hS hl)
theorem os_ldcw {ix : Nat} {v : Int32} (hw : Cond.constant y.cls ix v ∈ osX) (hd : osD cc pc 3 pc' (.ldc_w ix)) (kk : osW Fi y cc nL ret hh R k n pc' lv (.int v :: st) F) : osW Fi y cc nL ret hh R k n pc lv st F := by
  intro p l e s m args below meth c B G z r z' hV hZ hF H locs ls hM hS hl
  obtain ⟨hx, hb, hml, hown, hr, hlk, htab, hst, hnm⟩ := id B
  obtain ⟨hd, rfl⟩ := hd
  exact lv_ldcw hx hb hown (hV.word _ hw) hd (kk p l e s m args below meth c B G z r z' hV hZ hF H locs ls hM hS hl)
theorem os_ldc2 {ix : Nat} {v : Int64} (hw : Cond.constantLong y.cls ix v ∈ osX) (hd : osD cc pc 3 pc' (.ldc2_w ix)) (kk : osW Fi y cc nL ret hh R k n pc' lv (.long v :: st) F) : osW Fi y cc nL ret hh R k n pc lv st F := by
  intro p l e s m args below meth c B G z r z' hV hZ hF H locs ls hM hS hl
  obtain ⟨hx, hb, hml, hown, hr, hlk, htab, hst, hnm⟩ := id B
  obtain ⟨hd, rfl⟩ := hd
  exact lv_ldc2 hx hb hown (hV.word _ hw) hd (kk p l e s m args below meth c B G z r z' hV hZ hF H locs ls hM hS hl)
theorem os_ldc2d {ix : Nat} {v : UInt64} (hw : Cond.constantDouble y.cls ix v ∈ osX) (hd : osD cc pc 3 pc' (.ldc2_w ix)) (kk : osW Fi y cc nL ret hh R k n pc' lv (.double v :: st) F) : osW Fi y cc nL ret hh R k n pc lv st F := by
  intro p l e s m args below meth c B G z r z' hV hZ hF H locs ls hM hS hl
  obtain ⟨hx, hb, hml, hown, hr, hlk, htab, hst, hnm⟩ := id B
  obtain ⟨hd, rfl⟩ := hd
  exact lv_ldc2d hx hb hown (hV.word _ hw) hd (kk p l e s m args below meth c B G z r z' hV hZ hF H locs ls hM hS hl)
theorem os_iload {i : Nat} {v : Int32} (j : Nat) (hj : lv[j]? = some (i, .int v)) (hd : osD cc pc 2 pc' (.iload i)) (kk : osW Fi y cc nL ret hh R k n pc' lv (.int v :: st) F) : osW Fi y cc nL ret hh R k n pc lv st F := by
  intro p l e s m args below meth c B G z r z' hV hZ hF H locs ls hM hS hl
  obtain ⟨hx, hb, hml, hown, hr, hlk, htab, hst, hnm⟩ := id B
  obtain ⟨hd, rfl⟩ := hd
  exact lv_iload hx hb hd (lv_at hl j hj) (kk p l e s m args below meth c B G z r z' hV hZ hF H locs ls hM hS hl)
theorem os_iload_n {i : Nat} {q : Fin 4} {v : Int32} (j : Nat) (hi : (q : Nat) = i) (hj : lv[j]? = some (i, .int v)) (hd : osD cc pc 1 pc' (.iload_n q)) (kk : osW Fi y cc nL ret hh R k n pc' lv (.int v :: st) F) : osW Fi y cc nL ret hh R k n pc lv st F := by
  intro p l e s m args below meth c B G z r z' hV hZ hF H locs ls hM hS hl
  obtain ⟨hx, hb, hml, hown, hr, hlk, htab, hst, hnm⟩ := id B
  obtain ⟨hd, rfl⟩ := hd
  exact lv_iload_n hx hb hd hi (lv_at hl j hj) (kk p l e s m args below meth c B G z r z' hV hZ hF H locs ls hM hS hl)
theorem os_lload {i : Nat} {v : Int64} (j : Nat) (hj : lv[j]? = some (i, .long v)) (hd : osD cc pc 2 pc' (.lload i)) (kk : osW Fi y cc nL ret hh R k n pc' lv (.long v :: st) F) : osW Fi y cc nL ret hh R k n pc lv st F := by
  intro p l e s m args below meth c B G z r z' hV hZ hF H locs ls hM hS hl
  obtain ⟨hx, hb, hml, hown, hr, hlk, htab, hst, hnm⟩ := id B
  obtain ⟨hd, rfl⟩ := hd
  exact lv_lload hx hb hd (lv_at hl j hj) (kk p l e s m args below meth c B G z r z' hV hZ hF H locs ls hM hS hl)
theorem os_lload_n {i : Nat} {q : Fin 4} {v : Int64} (j : Nat) (hi : (q : Nat) = i) (hj : lv[j]? = some (i, .long v)) (hd : osD cc pc 1 pc' (.lload_n q)) (kk : osW Fi y cc nL ret hh R k n pc' lv (.long v :: st) F) : osW Fi y cc nL ret hh R k n pc lv st F := by
  intro p l e s m args below meth c B G z r z' hV hZ hF H locs ls hM hS hl
  obtain ⟨hx, hb, hml, hown, hr, hlk, htab, hst, hnm⟩ := id B
  obtain ⟨hd, rfl⟩ := hd
  exact lv_lload_n hx hb hd hi (lv_at hl j hj) (kk p l e s m args below meth c B G z r z' hV hZ hF H locs ls hM hS hl)
theorem os_fload {i : Nat} {v : UInt32} (j : Nat) (hj : lv[j]? = some (i, .float v)) (hd : osD cc pc 2 pc' (.fload i)) (kk : osW Fi y cc nL ret hh R k n pc' lv (.float v :: st) F) : osW Fi y cc nL ret hh R k n pc lv st F := by
  intro p l e s m args below meth c B G z r z' hV hZ hF H locs ls hM hS hl
  obtain ⟨hx, hb, hml, hown, hr, hlk, htab, hst, hnm⟩ := id B
  obtain ⟨hd, rfl⟩ := hd
  exact lv_fload hx hb hd (lv_at hl j hj) (kk p l e s m args below meth c B G z r z' hV hZ hF H locs ls hM hS hl)
theorem os_fload_n {i : Nat} {q : Fin 4} {v : UInt32} (j : Nat) (hi : (q : Nat) = i) (hj : lv[j]? = some (i, .float v)) (hd : osD cc pc 1 pc' (.fload_n q)) (kk : osW Fi y cc nL ret hh R k n pc' lv (.float v :: st) F) : osW Fi y cc nL ret hh R k n pc lv st F := by
  intro p l e s m args below meth c B G z r z' hV hZ hF H locs ls hM hS hl
  obtain ⟨hx, hb, hml, hown, hr, hlk, htab, hst, hnm⟩ := id B
  obtain ⟨hd, rfl⟩ := hd
  exact lv_fload_n hx hb hd hi (lv_at hl j hj) (kk p l e s m args below meth c B G z r z' hV hZ hF H locs ls hM hS hl)
theorem os_dload {i : Nat} {v : UInt64} (j : Nat) (hj : lv[j]? = some (i, .double v)) (hd : osD cc pc 2 pc' (.dload i)) (kk : osW Fi y cc nL ret hh R k n pc' lv (.double v :: st) F) : osW Fi y cc nL ret hh R k n pc lv st F := by
  intro p l e s m args below meth c B G z r z' hV hZ hF H locs ls hM hS hl
  obtain ⟨hx, hb, hml, hown, hr, hlk, htab, hst, hnm⟩ := id B
  obtain ⟨hd, rfl⟩ := hd
  exact lv_dload hx hb hd (lv_at hl j hj) (kk p l e s m args below meth c B G z r z' hV hZ hF H locs ls hM hS hl)
theorem os_dload_n {i : Nat} {q : Fin 4} {v : UInt64} (j : Nat) (hi : (q : Nat) = i) (hj : lv[j]? = some (i, .double v)) (hd : osD cc pc 1 pc' (.dload_n q)) (kk : osW Fi y cc nL ret hh R k n pc' lv (.double v :: st) F) : osW Fi y cc nL ret hh R k n pc lv st F := by
  intro p l e s m args below meth c B G z r z' hV hZ hF H locs ls hM hS hl
  obtain ⟨hx, hb, hml, hown, hr, hlk, htab, hst, hnm⟩ := id B
  obtain ⟨hd, rfl⟩ := hd
  exact lv_dload_n hx hb hd hi (lv_at hl j hj) (kk p l e s m args below meth c B G z r z' hV hZ hF H locs ls hM hS hl)
theorem os_aload {i : Nat} {v : Nat} (j : Nat) (hj : lv[j]? = some (i, .ref v)) (hd : osD cc pc 2 pc' (.aload i)) (kk : osW Fi y cc nL ret hh R k n pc' lv (.ref v :: st) F) : osW Fi y cc nL ret hh R k n pc lv st F := by
  intro p l e s m args below meth c B G z r z' hV hZ hF H locs ls hM hS hl
  obtain ⟨hx, hb, hml, hown, hr, hlk, htab, hst, hnm⟩ := id B
  obtain ⟨hd, rfl⟩ := hd
  exact lv_aload hx hb hd (lv_at hl j hj) (kk p l e s m args below meth c B G z r z' hV hZ hF H locs ls hM hS hl)
theorem os_aload_n {i : Nat} {q : Fin 4} {v : Nat} (j : Nat) (hi : (q : Nat) = i) (hj : lv[j]? = some (i, .ref v)) (hd : osD cc pc 1 pc' (.aload_n q)) (kk : osW Fi y cc nL ret hh R k n pc' lv (.ref v :: st) F) : osW Fi y cc nL ret hh R k n pc lv st F := by
  intro p l e s m args below meth c B G z r z' hV hZ hF H locs ls hM hS hl
  obtain ⟨hx, hb, hml, hown, hr, hlk, htab, hst, hnm⟩ := id B
  obtain ⟨hd, rfl⟩ := hd
  exact lv_aload_n hx hb hd hi (lv_at hl j hj) (kk p l e s m args below meth c B G z r z' hV hZ hF H locs ls hM hS hl)
theorem os_istore {i : Nat}  {v : Int32} {lv' : List (Nat × Value)} (hn : i < nL) (hlv : (i, Value.int v) :: lv.filter (fun q => !(q.1 == i) && !(q.1 + 1 == i && q.2.category == 2)) = lv') (hd : osD cc pc 2 pc' (.istore i)) (kk : osW Fi y cc nL ret hh R k n pc' lv' st F) : osW Fi y cc nL ret hh R k n pc lv (.int v :: st) F := by
  intro p l e s m args below meth c B G z r z' hV hZ hF H locs ls hM hS hl
  obtain ⟨hx, hb, hml, hown, hr, hlk, htab, hst, hnm⟩ := id B
  obtain ⟨hd, rfl⟩ := hd
  exact lv_istore hx hb hd hl hn hlv (fun ls2 hl => (kk p l e s m args below meth c B G z r z' hV hZ hF H locs ls2 hM hS hl))
theorem os_istore_n {i : Nat} {q : Fin 4} (hi : (q : Nat) = i) {v : Int32} {lv' : List (Nat × Value)} (hn : i < nL) (hlv : (i, Value.int v) :: lv.filter (fun q => !(q.1 == i) && !(q.1 + 1 == i && q.2.category == 2)) = lv') (hd : osD cc pc 1 pc' (.istore_n q)) (kk : osW Fi y cc nL ret hh R k n pc' lv' st F) : osW Fi y cc nL ret hh R k n pc lv (.int v :: st) F := by
  intro p l e s m args below meth c B G z r z' hV hZ hF H locs ls hM hS hl
  obtain ⟨hx, hb, hml, hown, hr, hlk, htab, hst, hnm⟩ := id B
  obtain ⟨hd, rfl⟩ := hd
  exact lv_istore_n hx hb hd hi hl hn hlv (fun ls2 hl => (kk p l e s m args below meth c B G z r z' hV hZ hF H locs ls2 hM hS hl))
theorem os_lstore {i : Nat}  {v : Int64} {lv' : List (Nat × Value)} (hn : i + 1 < nL) (hlv : (i, Value.long v) :: lv.filter (fun q => !(q.1 == i) && (!(q.1 == i + 1) && !(q.1 + 1 == i && q.2.category == 2))) = lv') (hd : osD cc pc 2 pc' (.lstore i)) (kk : osW Fi y cc nL ret hh R k n pc' lv' st F) : osW Fi y cc nL ret hh R k n pc lv (.long v :: st) F := by
  intro p l e s m args below meth c B G z r z' hV hZ hF H locs ls hM hS hl
  obtain ⟨hx, hb, hml, hown, hr, hlk, htab, hst, hnm⟩ := id B
  obtain ⟨hd, rfl⟩ := hd
  exact lv_lstore hx hb hd hl hn hlv (fun ls2 hl => (kk p l e s m args below meth c B G z r z' hV hZ hF H locs ls2 hM hS hl))
theorem os_lstore_n {i : Nat} {q : Fin 4} (hi : (q : Nat) = i) {v : Int64} {lv' : List (Nat × Value)} (hn : i + 1 < nL) (hlv : (i, Value.long v) :: lv.filter (fun q => !(q.1 == i) && (!(q.1 == i + 1) && !(q.1 + 1 == i && q.2.category == 2))) = lv') (hd : osD cc pc 1 pc' (.lstore_n q)) (kk : osW Fi y cc nL ret hh R k n pc' lv' st F) : osW Fi y cc nL ret hh R k n pc lv (.long v :: st) F := by
  intro p l e s m args below meth c B G z r z' hV hZ hF H locs ls hM hS hl
  obtain ⟨hx, hb, hml, hown, hr, hlk, htab, hst, hnm⟩ := id B
  obtain ⟨hd, rfl⟩ := hd
  exact lv_lstore_n hx hb hd hi hl hn hlv (fun ls2 hl => (kk p l e s m args below meth c B G z r z' hV hZ hF H locs ls2 hM hS hl))
theorem os_fstore {i : Nat}  {v : UInt32} {lv' : List (Nat × Value)} (hn : i < nL) (hlv : (i, Value.float v) :: lv.filter (fun q => !(q.1 == i) && !(q.1 + 1 == i && q.2.category == 2)) = lv') (hd : osD cc pc 2 pc' (.fstore i)) (kk : osW Fi y cc nL ret hh R k n pc' lv' st F) : osW Fi y cc nL ret hh R k n pc lv (.float v :: st) F := by
  intro p l e s m args below meth c B G z r z' hV hZ hF H locs ls hM hS hl
  obtain ⟨hx, hb, hml, hown, hr, hlk, htab, hst, hnm⟩ := id B
  obtain ⟨hd, rfl⟩ := hd
  exact lv_fstore hx hb hd hl hn hlv (fun ls2 hl => (kk p l e s m args below meth c B G z r z' hV hZ hF H locs ls2 hM hS hl))
theorem os_fstore_n {i : Nat} {q : Fin 4} (hi : (q : Nat) = i) {v : UInt32} {lv' : List (Nat × Value)} (hn : i < nL) (hlv : (i, Value.float v) :: lv.filter (fun q => !(q.1 == i) && !(q.1 + 1 == i && q.2.category == 2)) = lv') (hd : osD cc pc 1 pc' (.fstore_n q)) (kk : osW Fi y cc nL ret hh R k n pc' lv' st F) : osW Fi y cc nL ret hh R k n pc lv (.float v :: st) F := by
  intro p l e s m args below meth c B G z r z' hV hZ hF H locs ls hM hS hl
  obtain ⟨hx, hb, hml, hown, hr, hlk, htab, hst, hnm⟩ := id B
  obtain ⟨hd, rfl⟩ := hd
  exact lv_fstore_n hx hb hd hi hl hn hlv (fun ls2 hl => (kk p l e s m args below meth c B G z r z' hV hZ hF H locs ls2 hM hS hl))
theorem os_dstore {i : Nat}  {v : UInt64} {lv' : List (Nat × Value)} (hn : i + 1 < nL) (hlv : (i, Value.double v) :: lv.filter (fun q => !(q.1 == i) && (!(q.1 == i + 1) && !(q.1 + 1 == i && q.2.category == 2))) = lv') (hd : osD cc pc 2 pc' (.dstore i)) (kk : osW Fi y cc nL ret hh R k n pc' lv' st F) : osW Fi y cc nL ret hh R k n pc lv (.double v :: st) F := by
  intro p l e s m args below meth c B G z r z' hV hZ hF H locs ls hM hS hl
  obtain ⟨hx, hb, hml, hown, hr, hlk, htab, hst, hnm⟩ := id B
  obtain ⟨hd, rfl⟩ := hd
  exact lv_dstore hx hb hd hl hn hlv (fun ls2 hl => (kk p l e s m args below meth c B G z r z' hV hZ hF H locs ls2 hM hS hl))
theorem os_dstore_n {i : Nat} {q : Fin 4} (hi : (q : Nat) = i) {v : UInt64} {lv' : List (Nat × Value)} (hn : i + 1 < nL) (hlv : (i, Value.double v) :: lv.filter (fun q => !(q.1 == i) && (!(q.1 == i + 1) && !(q.1 + 1 == i && q.2.category == 2))) = lv') (hd : osD cc pc 1 pc' (.dstore_n q)) (kk : osW Fi y cc nL ret hh R k n pc' lv' st F) : osW Fi y cc nL ret hh R k n pc lv (.double v :: st) F := by
  intro p l e s m args below meth c B G z r z' hV hZ hF H locs ls hM hS hl
  obtain ⟨hx, hb, hml, hown, hr, hlk, htab, hst, hnm⟩ := id B
  obtain ⟨hd, rfl⟩ := hd
  exact lv_dstore_n hx hb hd hi hl hn hlv (fun ls2 hl => (kk p l e s m args below meth c B G z r z' hV hZ hF H locs ls2 hM hS hl))
theorem os_astore {i : Nat}  {v : Nat} {lv' : List (Nat × Value)} (hn : i < nL) (hlv : (i, Value.ref v) :: lv.filter (fun q => !(q.1 == i) && !(q.1 + 1 == i && q.2.category == 2)) = lv') (hd : osD cc pc 2 pc' (.astore i)) (kk : osW Fi y cc nL ret hh R k n pc' lv' st F) : osW Fi y cc nL ret hh R k n pc lv (.ref v :: st) F := by
  intro p l e s m args below meth c B G z r z' hV hZ hF H locs ls hM hS hl
  obtain ⟨hx, hb, hml, hown, hr, hlk, htab, hst, hnm⟩ := id B
  obtain ⟨hd, rfl⟩ := hd
  exact lv_astore hx hb hd hl hn hlv (fun ls2 hl => (kk p l e s m args below meth c B G z r z' hV hZ hF H locs ls2 hM hS hl))
theorem os_astore_n {i : Nat} {q : Fin 4} (hi : (q : Nat) = i) {v : Nat} {lv' : List (Nat × Value)} (hn : i < nL) (hlv : (i, Value.ref v) :: lv.filter (fun q => !(q.1 == i) && !(q.1 + 1 == i && q.2.category == 2)) = lv') (hd : osD cc pc 1 pc' (.astore_n q)) (kk : osW Fi y cc nL ret hh R k n pc' lv' st F) : osW Fi y cc nL ret hh R k n pc lv (.ref v :: st) F := by
  intro p l e s m args below meth c B G z r z' hV hZ hF H locs ls hM hS hl
  obtain ⟨hx, hb, hml, hown, hr, hlk, htab, hst, hnm⟩ := id B
  obtain ⟨hd, rfl⟩ := hd
  exact lv_astore_n hx hb hd hi hl hn hlv (fun ls2 hl => (kk p l e s m args below meth c B G z r z' hV hZ hF H locs ls2 hM hS hl))
theorem os_iinc {i : Nat} {d : Int} {x v : Int32} {lv' : List (Nat × Value)} (j : Nat) (hj : lv[j]? = some (i, .int x)) (hc : Int32.ofInt d = v) (hn : i < nL) (hlv : (i, Value.int (x + v)) :: lv.filter (fun q => !(q.1 == i) && !(q.1 + 1 == i && q.2.category == 2)) = lv') (hd : osD cc pc 3 pc' (.iinc i d)) (kk : osW Fi y cc nL ret hh R k n pc' lv' st F) : osW Fi y cc nL ret hh R k n pc lv st F := by
  intro p l e s m args below meth c B G z r z' hV hZ hF H locs ls hM hS hl
  obtain ⟨hx, hb, hml, hown, hr, hlk, htab, hst, hnm⟩ := id B
  obtain ⟨hd, rfl⟩ := hd
  exact lv_iinc hx hb hd hl hj (by rw [hc]) hn hlv (fun ls2 hl => (kk p l e s m args below meth c B G z r z' hV hZ hF H locs ls2 hM hS hl))
theorem os_iadd {x w : Int32} (hd : osD cc pc 1 pc' .iadd) (kk : osW Fi y cc nL ret hh R k n pc' lv (.int (x + w) :: st) F) : osW Fi y cc nL ret hh R k n pc lv (.int w :: .int x :: st) F := by
  intro p l e s m args below meth c B G z r z' hV hZ hF H locs ls hM hS hl
  obtain ⟨hx, hb, hml, hown, hr, hlk, htab, hst, hnm⟩ := id B
  obtain ⟨hd, rfl⟩ := hd
  exact lv_iadd hx hb hd (kk p l e s m args below meth c B G z r z' hV hZ hF H locs ls hM hS hl)
theorem os_isub {x w : Int32} (hd : osD cc pc 1 pc' .isub) (kk : osW Fi y cc nL ret hh R k n pc' lv (.int (x - w) :: st) F) : osW Fi y cc nL ret hh R k n pc lv (.int w :: .int x :: st) F := by
  intro p l e s m args below meth c B G z r z' hV hZ hF H locs ls hM hS hl
  obtain ⟨hx, hb, hml, hown, hr, hlk, htab, hst, hnm⟩ := id B
  obtain ⟨hd, rfl⟩ := hd
  exact lv_isub hx hb hd (kk p l e s m args below meth c B G z r z' hV hZ hF H locs ls hM hS hl)
theorem os_imul {x w : Int32} (hd : osD cc pc 1 pc' .imul) (kk : osW Fi y cc nL ret hh R k n pc' lv (.int (x * w) :: st) F) : osW Fi y cc nL ret hh R k n pc lv (.int w :: .int x :: st) F := by
  intro p l e s m args below meth c B G z r z' hV hZ hF H locs ls hM hS hl
  obtain ⟨hx, hb, hml, hown, hr, hlk, htab, hst, hnm⟩ := id B
  obtain ⟨hd, rfl⟩ := hd
  exact lv_imul hx hb hd (kk p l e s m args below meth c B G z r z' hV hZ hF H locs ls hM hS hl)
theorem os_iand {x w : Int32} (hd : osD cc pc 1 pc' .iand) (kk : osW Fi y cc nL ret hh R k n pc' lv (.int (x &&& w) :: st) F) : osW Fi y cc nL ret hh R k n pc lv (.int w :: .int x :: st) F := by
  intro p l e s m args below meth c B G z r z' hV hZ hF H locs ls hM hS hl
  obtain ⟨hx, hb, hml, hown, hr, hlk, htab, hst, hnm⟩ := id B
  obtain ⟨hd, rfl⟩ := hd
  exact lv_iand hx hb hd (kk p l e s m args below meth c B G z r z' hV hZ hF H locs ls hM hS hl)
theorem os_ior {x w : Int32} (hd : osD cc pc 1 pc' .ior) (kk : osW Fi y cc nL ret hh R k n pc' lv (.int (x ||| w) :: st) F) : osW Fi y cc nL ret hh R k n pc lv (.int w :: .int x :: st) F := by
  intro p l e s m args below meth c B G z r z' hV hZ hF H locs ls hM hS hl
  obtain ⟨hx, hb, hml, hown, hr, hlk, htab, hst, hnm⟩ := id B
  obtain ⟨hd, rfl⟩ := hd
  exact lv_ior hx hb hd (kk p l e s m args below meth c B G z r z' hV hZ hF H locs ls hM hS hl)
theorem os_ixor {x w : Int32} (hd : osD cc pc 1 pc' .ixor) (kk : osW Fi y cc nL ret hh R k n pc' lv (.int (x ^^^ w) :: st) F) : osW Fi y cc nL ret hh R k n pc lv (.int w :: .int x :: st) F := by
  intro p l e s m args below meth c B G z r z' hV hZ hF H locs ls hM hS hl
  obtain ⟨hx, hb, hml, hown, hr, hlk, htab, hst, hnm⟩ := id B
  obtain ⟨hd, rfl⟩ := hd
  exact lv_ixor hx hb hd (kk p l e s m args below meth c B G z r z' hV hZ hF H locs ls hM hS hl)
theorem os_ladd {x w : Int64} (hd : osD cc pc 1 pc' .ladd) (kk : osW Fi y cc nL ret hh R k n pc' lv (.long (x + w) :: st) F) : osW Fi y cc nL ret hh R k n pc lv (.long w :: .long x :: st) F := by
  intro p l e s m args below meth c B G z r z' hV hZ hF H locs ls hM hS hl
  obtain ⟨hx, hb, hml, hown, hr, hlk, htab, hst, hnm⟩ := id B
  obtain ⟨hd, rfl⟩ := hd
  exact lv_ladd hx hb hd (kk p l e s m args below meth c B G z r z' hV hZ hF H locs ls hM hS hl)
theorem os_lsub {x w : Int64} (hd : osD cc pc 1 pc' .lsub) (kk : osW Fi y cc nL ret hh R k n pc' lv (.long (x - w) :: st) F) : osW Fi y cc nL ret hh R k n pc lv (.long w :: .long x :: st) F := by
  intro p l e s m args below meth c B G z r z' hV hZ hF H locs ls hM hS hl
  obtain ⟨hx, hb, hml, hown, hr, hlk, htab, hst, hnm⟩ := id B
  obtain ⟨hd, rfl⟩ := hd
  exact lv_lsub hx hb hd (kk p l e s m args below meth c B G z r z' hV hZ hF H locs ls hM hS hl)
theorem os_lmul {x w : Int64} (hd : osD cc pc 1 pc' .lmul) (kk : osW Fi y cc nL ret hh R k n pc' lv (.long (x * w) :: st) F) : osW Fi y cc nL ret hh R k n pc lv (.long w :: .long x :: st) F := by
  intro p l e s m args below meth c B G z r z' hV hZ hF H locs ls hM hS hl
  obtain ⟨hx, hb, hml, hown, hr, hlk, htab, hst, hnm⟩ := id B
  obtain ⟨hd, rfl⟩ := hd
  exact lv_lmul hx hb hd (kk p l e s m args below meth c B G z r z' hV hZ hF H locs ls hM hS hl)
theorem os_land {x w : Int64} (hd : osD cc pc 1 pc' .land) (kk : osW Fi y cc nL ret hh R k n pc' lv (.long (x &&& w) :: st) F) : osW Fi y cc nL ret hh R k n pc lv (.long w :: .long x :: st) F := by
  intro p l e s m args below meth c B G z r z' hV hZ hF H locs ls hM hS hl
  obtain ⟨hx, hb, hml, hown, hr, hlk, htab, hst, hnm⟩ := id B
  obtain ⟨hd, rfl⟩ := hd
  exact lv_land hx hb hd (kk p l e s m args below meth c B G z r z' hV hZ hF H locs ls hM hS hl)
theorem os_lor {x w : Int64} (hd : osD cc pc 1 pc' .lor) (kk : osW Fi y cc nL ret hh R k n pc' lv (.long (x ||| w) :: st) F) : osW Fi y cc nL ret hh R k n pc lv (.long w :: .long x :: st) F := by
  intro p l e s m args below meth c B G z r z' hV hZ hF H locs ls hM hS hl
  obtain ⟨hx, hb, hml, hown, hr, hlk, htab, hst, hnm⟩ := id B
  obtain ⟨hd, rfl⟩ := hd
  exact lv_lor hx hb hd (kk p l e s m args below meth c B G z r z' hV hZ hF H locs ls hM hS hl)
theorem os_lxor {x w : Int64} (hd : osD cc pc 1 pc' .lxor) (kk : osW Fi y cc nL ret hh R k n pc' lv (.long (x ^^^ w) :: st) F) : osW Fi y cc nL ret hh R k n pc lv (.long w :: .long x :: st) F := by
  intro p l e s m args below meth c B G z r z' hV hZ hF H locs ls hM hS hl
  obtain ⟨hx, hb, hml, hown, hr, hlk, htab, hst, hnm⟩ := id B
  obtain ⟨hd, rfl⟩ := hd
  exact lv_lxor hx hb hd (kk p l e s m args below meth c B G z r z' hV hZ hF H locs ls hM hS hl)
theorem os_i2l {x : Int32} (hd : osD cc pc 1 pc' .i2l) (kk : osW Fi y cc nL ret hh R k n pc' lv (.long x.toInt64 :: st) F) : osW Fi y cc nL ret hh R k n pc lv (.int x :: st) F := by
  intro p l e s m args below meth c B G z r z' hV hZ hF H locs ls hM hS hl
  obtain ⟨hx, hb, hml, hown, hr, hlk, htab, hst, hnm⟩ := id B
  obtain ⟨hd, rfl⟩ := hd
  exact lv_i2l hx hb hd rfl (kk p l e s m args below meth c B G z r z' hV hZ hF H locs ls hM hS hl)
theorem os_l2i {x : Int64} (hd : osD cc pc 1 pc' .l2i) (kk : osW Fi y cc nL ret hh R k n pc' lv (.int x.toInt32 :: st) F) : osW Fi y cc nL ret hh R k n pc lv (.long x :: st) F := by
  intro p l e s m args below meth c B G z r z' hV hZ hF H locs ls hM hS hl
  obtain ⟨hx, hb, hml, hown, hr, hlk, htab, hst, hnm⟩ := id B
  obtain ⟨hd, rfl⟩ := hd
  exact lv_l2i hx hb hd rfl (kk p l e s m args below meth c B G z r z' hV hZ hF H locs ls hM hS hl)
theorem os_i2b {x : Int32} (hd : osD cc pc 1 pc' .i2b) (kk : osW Fi y cc nL ret hh R k n pc' lv (.int x.toInt8.toInt32 :: st) F) : osW Fi y cc nL ret hh R k n pc lv (.int x :: st) F := by
  intro p l e s m args below meth c B G z r z' hV hZ hF H locs ls hM hS hl
  obtain ⟨hx, hb, hml, hown, hr, hlk, htab, hst, hnm⟩ := id B
  obtain ⟨hd, rfl⟩ := hd
  exact lv_i2b hx hb hd rfl (kk p l e s m args below meth c B G z r z' hV hZ hF H locs ls hM hS hl)
theorem os_i2f {x : Int32} (hd : osD cc pc 1 pc' .i2f) (kk : osW Fi y cc nL ret hh R k n pc' lv (.float (FP.i2f x) :: st) F) : osW Fi y cc nL ret hh R k n pc lv (.int x :: st) F := by
  intro p l e s m args below meth c B G z r z' hV hZ hF H locs ls hM hS hl
  obtain ⟨hx, hb, hml, hown, hr, hlk, htab, hst, hnm⟩ := id B
  obtain ⟨hd, rfl⟩ := hd
  exact lv_i2f hx hb hd (kk p l e s m args below meth c B G z r z' hV hZ hF H locs ls hM hS hl)
theorem os_i2d {x : Int32} (hd : osD cc pc 1 pc' .i2d) (kk : osW Fi y cc nL ret hh R k n pc' lv (.double (FP.i2d x) :: st) F) : osW Fi y cc nL ret hh R k n pc lv (.int x :: st) F := by
  intro p l e s m args below meth c B G z r z' hV hZ hF H locs ls hM hS hl
  obtain ⟨hx, hb, hml, hown, hr, hlk, htab, hst, hnm⟩ := id B
  obtain ⟨hd, rfl⟩ := hd
  exact lv_i2d hx hb hd (kk p l e s m args below meth c B G z r z' hV hZ hF H locs ls hM hS hl)
theorem os_f2i {x : UInt32} (hd : osD cc pc 1 pc' .f2i) (kk : osW Fi y cc nL ret hh R k n pc' lv (.int (FP.f2i x) :: st) F) : osW Fi y cc nL ret hh R k n pc lv (.float x :: st) F := by
  intro p l e s m args below meth c B G z r z' hV hZ hF H locs ls hM hS hl
  obtain ⟨hx, hb, hml, hown, hr, hlk, htab, hst, hnm⟩ := id B
  obtain ⟨hd, rfl⟩ := hd
  exact lv_f2i hx hb hd (kk p l e s m args below meth c B G z r z' hV hZ hF H locs ls hM hS hl)
theorem os_d2l {x : UInt64} (hd : osD cc pc 1 pc' .d2l) (kk : osW Fi y cc nL ret hh R k n pc' lv (.long (FP.d2l x) :: st) F) : osW Fi y cc nL ret hh R k n pc lv (.double x :: st) F := by
  intro p l e s m args below meth c B G z r z' hV hZ hF H locs ls hM hS hl
  obtain ⟨hx, hb, hml, hown, hr, hlk, htab, hst, hnm⟩ := id B
  obtain ⟨hd, rfl⟩ := hd
  exact lv_d2l hx hb hd (kk p l e s m args below meth c B G z r z' hV hZ hF H locs ls hM hS hl)
/-- the shifts, under names of their own -/
def osshl (x w : Int32) : Int32 := x <<< (w &&& 31)
def osshr (x w : Int32) : Int32 := x >>> (w &&& 31)
def osushr (x w : Int32) : Int32 := (x.toUInt32 >>> (w.toUInt32 &&& Int32.toUInt32 31)).toInt32
def oslshl (x : Int64) (w : Int32) : Int64 := x <<< (w.toInt64 &&& 63)
def oslshr (x : Int64) (w : Int32) : Int64 := x >>> (w.toInt64 &&& 63)
theorem os_ishl {x w : Int32} (hd : osD cc pc 1 pc' .ishl) (kk : osW Fi y cc nL ret hh R k n pc' lv (.int (osshl x w) :: st) F) : osW Fi y cc nL ret hh R k n pc lv (.int w :: .int x :: st) F := by
  intro p l e s m args below meth c B G z r z' hV hZ hF H locs ls hM hS hl
  obtain ⟨hx, hb, hml, hown, hr, hlk, htab, hst, hnm⟩ := id B
  obtain ⟨hd, rfl⟩ := hd
  exact lv_ishl hx hb hd (kk p l e s m args below meth c B G z r z' hV hZ hF H locs ls hM hS hl)
theorem os_ishr {x w : Int32} (hd : osD cc pc 1 pc' .ishr) (kk : osW Fi y cc nL ret hh R k n pc' lv (.int (osshr x w) :: st) F) : osW Fi y cc nL ret hh R k n pc lv (.int w :: .int x :: st) F := by
  intro p l e s m args below meth c B G z r z' hV hZ hF H locs ls hM hS hl
  obtain ⟨hx, hb, hml, hown, hr, hlk, htab, hst, hnm⟩ := id B
  obtain ⟨hd, rfl⟩ := hd
  exact lv_ishr hx hb hd (kk p l e s m args below meth c B G z r z' hV hZ hF H locs ls hM hS hl)
theorem os_iushr {x w : Int32} (hd : osD cc pc 1 pc' .iushr) (kk : osW Fi y cc nL ret hh R k n pc' lv (.int (osushr x w) :: st) F) : osW Fi y cc nL ret hh R k n pc lv (.int w :: .int x :: st) F := by
  intro p l e s m args below meth c B G z r z' hV hZ hF H locs ls hM hS hl
  obtain ⟨hx, hb, hml, hown, hr, hlk, htab, hst, hnm⟩ := id B
  obtain ⟨hd, rfl⟩ := hd
  exact lv_iushr hx hb hd rfl (kk p l e s m args below meth c B G z r z' hV hZ hF H locs ls hM hS hl)
theorem os_lshl {x : Int64} {w : Int32} (hd : osD cc pc 1 pc' .lshl) (kk : osW Fi y cc nL ret hh R k n pc' lv (.long (oslshl x w) :: st) F) : osW Fi y cc nL ret hh R k n pc lv (.int w :: .long x :: st) F := by
  intro p l e s m args below meth c B G z r z' hV hZ hF H locs ls hM hS hl
  obtain ⟨hx, hb, hml, hown, hr, hlk, htab, hst, hnm⟩ := id B
  obtain ⟨hd, rfl⟩ := hd
  exact lv_lshl hx hb hd rfl (kk p l e s m args below meth c B G z r z' hV hZ hF H locs ls hM hS hl)
theorem os_lshr {x : Int64} {w : Int32} (hd : osD cc pc 1 pc' .lshr) (kk : osW Fi y cc nL ret hh R k n pc' lv (.long (oslshr x w) :: st) F) : osW Fi y cc nL ret hh R k n pc lv (.int w :: .long x :: st) F := by
  intro p l e s m args below meth c B G z r z' hV hZ hF H locs ls hM hS hl
  obtain ⟨hx, hb, hml, hown, hr, hlk, htab, hst, hnm⟩ := id B
  obtain ⟨hd, rfl⟩ := hd
  exact lv_lshr hx hb hd rfl (kk p l e s m args below meth c B G z r z' hV hZ hF H locs ls hM hS hl)
theorem os_lcmp {x w : Int64} (hd : osD cc pc 1 pc' .lcmp) (kk : osW Fi y cc nL ret hh R k n pc' lv (.int (lg_cmp x w) :: st) F) : osW Fi y cc nL ret hh R k n pc lv (.long w :: .long x :: st) F := by
  intro p l e s m args below meth c B G z r z' hV hZ hF H locs ls hM hS hl
  obtain ⟨hx, hb, hml, hown, hr, hlk, htab, hst, hnm⟩ := id B
  obtain ⟨hd, rfl⟩ := hd
  exact W.lcmp hx hb hd (kk p l e s m args below meth c B G z r z' hV hZ hF H locs ls hM hS hl)
theorem os_fcmp {x w : UInt32} {op : CmpOp} (hd : osD cc pc 1 pc' (.fcmp op)) (kk : osW Fi y cc nL ret hh R k n pc' lv (.int (Op.cmpValue (FP.fcmp x w) op) :: st) F) : osW Fi y cc nL ret hh R k n pc lv (.float w :: .float x :: st) F := by
  intro p l e s m args below meth c B G z r z' hV hZ hF H locs ls hM hS hl
  obtain ⟨hx, hb, hml, hown, hr, hlk, htab, hst, hnm⟩ := id B
  obtain ⟨hd, rfl⟩ := hd
  exact lv_fcmp hx hb hd (kk p l e s m args below meth c B G z r z' hV hZ hF H locs ls hM hS hl)
theorem os_dcmp {x w : UInt64} {op : CmpOp} (hd : osD cc pc 1 pc' (.dcmp op)) (kk : osW Fi y cc nL ret hh R k n pc' lv (.int (Op.cmpValue (FP.dcmp x w) op) :: st) F) : osW Fi y cc nL ret hh R k n pc lv (.double w :: .double x :: st) F := by
  intro p l e s m args below meth c B G z r z' hV hZ hF H locs ls hM hS hl
  obtain ⟨hx, hb, hml, hown, hr, hlk, htab, hst, hnm⟩ := id B
  obtain ⟨hd, rfl⟩ := hd
  exact lv_dcmp hx hb hd (kk p l e s m args below meth c B G z r z' hV hZ hF H locs ls hM hS hl)
theorem os_fsub {x w : UInt32} (hne : vf_n32 (FP.fsub x w)) (hd : osD cc pc 1 pc' .fsub) (kk : osW Fi y cc nL ret hh R k n pc' lv (.float (FP.fsub x w) :: st) F) : osW Fi y cc nL ret hh R k n pc lv (.float w :: .float x :: st) F := by
  intro p l e s m args below meth c B G z r z' hV hZ hF H locs ls hM hS hl
  obtain ⟨hx, hb, hml, hown, hr, hlk, htab, hst, hnm⟩ := id B
  obtain ⟨hd, rfl⟩ := hd
  exact lv_fsub hx hb hd hne (kk p l e s m args below meth c B G z r z' hV hZ hF H locs ls hM hS hl)
theorem os_fmul {x w : UInt32} (hne : vf_n32 (FP.fmul x w)) (hd : osD cc pc 1 pc' .fmul) (kk : osW Fi y cc nL ret hh R k n pc' lv (.float (FP.fmul x w) :: st) F) : osW Fi y cc nL ret hh R k n pc lv (.float w :: .float x :: st) F := by
  intro p l e s m args below meth c B G z r z' hV hZ hF H locs ls hM hS hl
  obtain ⟨hx, hb, hml, hown, hr, hlk, htab, hst, hnm⟩ := id B
  obtain ⟨hd, rfl⟩ := hd
  exact lv_fmul hx hb hd hne (kk p l e s m args below meth c B G z r z' hV hZ hF H locs ls hM hS hl)
theorem os_fdiv {x w : UInt32} (hne : vf_n32 (FP.fdiv x w)) (hd : osD cc pc 1 pc' .fdiv) (kk : osW Fi y cc nL ret hh R k n pc' lv (.float (FP.fdiv x w) :: st) F) : osW Fi y cc nL ret hh R k n pc lv (.float w :: .float x :: st) F := by
  intro p l e s m args below meth c B G z r z' hV hZ hF H locs ls hM hS hl
  obtain ⟨hx, hb, hml, hown, hr, hlk, htab, hst, hnm⟩ := id B
  obtain ⟨hd, rfl⟩ := hd
  exact lv_fdiv hx hb hd hne (kk p l e s m args below meth c B G z r z' hV hZ hF H locs ls hM hS hl)
theorem os_dadd {x w : UInt64} (hne : vf_n64 (FP.dadd x w)) (hd : osD cc pc 1 pc' .dadd) (kk : osW Fi y cc nL ret hh R k n pc' lv (.double (FP.dadd x w) :: st) F) : osW Fi y cc nL ret hh R k n pc lv (.double w :: .double x :: st) F := by
  intro p l e s m args below meth c B G z r z' hV hZ hF H locs ls hM hS hl
  obtain ⟨hx, hb, hml, hown, hr, hlk, htab, hst, hnm⟩ := id B
  obtain ⟨hd, rfl⟩ := hd
  exact lv_dadd hx hb hd hne (kk p l e s m args below meth c B G z r z' hV hZ hF H locs ls hM hS hl)
theorem os_dsub {x w : UInt64} (hne : vf_n64 (FP.dsub x w)) (hd : osD cc pc 1 pc' .dsub) (kk : osW Fi y cc nL ret hh R k n pc' lv (.double (FP.dsub x w) :: st) F) : osW Fi y cc nL ret hh R k n pc lv (.double w :: .double x :: st) F := by
  intro p l e s m args below meth c B G z r z' hV hZ hF H locs ls hM hS hl
  obtain ⟨hx, hb, hml, hown, hr, hlk, htab, hst, hnm⟩ := id B
  obtain ⟨hd, rfl⟩ := hd
  exact lv_dsub hx hb hd hne (kk p l e s m args below meth c B G z r z' hV hZ hF H locs ls hM hS hl)
theorem os_dmul {x w : UInt64} (hne : vf_n64 (FP.dmul x w)) (hd : osD cc pc 1 pc' .dmul) (kk : osW Fi y cc nL ret hh R k n pc' lv (.double (FP.dmul x w) :: st) F) : osW Fi y cc nL ret hh R k n pc lv (.double w :: .double x :: st) F := by
  intro p l e s m args below meth c B G z r z' hV hZ hF H locs ls hM hS hl
  obtain ⟨hx, hb, hml, hown, hr, hlk, htab, hst, hnm⟩ := id B
  obtain ⟨hd, rfl⟩ := hd
  exact lv_dmul hx hb hd hne (kk p l e s m args below meth c B G z r z' hV hZ hF H locs ls hM hS hl)
theorem os_ddiv {x w : UInt64} (hne : vf_n64 (FP.ddiv x w)) (hd : osD cc pc 1 pc' .ddiv) (kk : osW Fi y cc nL ret hh R k n pc' lv (.double (FP.ddiv x w) :: st) F) : osW Fi y cc nL ret hh R k n pc lv (.double w :: .double x :: st) F := by
  intro p l e s m args below meth c B G z r z' hV hZ hF H locs ls hM hS hl
  obtain ⟨hx, hb, hml, hown, hr, hlk, htab, hst, hnm⟩ := id B
  obtain ⟨hd, rfl⟩ := hd
  exact lv_ddiv hx hb hd hne (kk p l e s m args below meth c B G z r z' hV hZ hF H locs ls hM hS hl)
theorem os_f2d {x : UInt32} (hne : vf_n64 (FP.f2d x)) (hd : osD cc pc 1 pc' .f2d) (kk : osW Fi y cc nL ret hh R k n pc' lv (.double (FP.f2d x) :: st) F) : osW Fi y cc nL ret hh R k n pc lv (.float x :: st) F := by
  intro p l e s m args below meth c B G z r z' hV hZ hF H locs ls hM hS hl
  obtain ⟨hx, hb, hml, hown, hr, hlk, htab, hst, hnm⟩ := id B
  obtain ⟨hd, rfl⟩ := hd
  exact lv_f2d hx hb hd hne (kk p l e s m args below meth c B G z r z' hV hZ hF H locs ls hM hS hl)
theorem os_idiv {x w : Int32} (hne : ¬ w = 0) (hd : osD cc pc 1 pc' .idiv) (kk : osW Fi y cc nL ret hh R k n pc' lv (.int (x / w) :: st) F) : osW Fi y cc nL ret hh R k n pc lv (.int w :: .int x :: st) F := by
  intro p l e s m args below meth c B G z r z' hV hZ hF H locs ls hM hS hl
  obtain ⟨hx, hb, hml, hown, hr, hlk, htab, hst, hnm⟩ := id B
  obtain ⟨hd, rfl⟩ := hd
  exact lv_idiv hx hb hd hne (kk p l e s m args below meth c B G z r z' hV hZ hF H locs ls hM hS hl)
theorem os_irem {x w : Int32} (hne : ¬ w = 0) (hd : osD cc pc 1 pc' .irem) (kk : osW Fi y cc nL ret hh R k n pc' lv (.int (x - x / w * w) :: st) F) : osW Fi y cc nL ret hh R k n pc lv (.int w :: .int x :: st) F := by
  intro p l e s m args below meth c B G z r z' hV hZ hF H locs ls hM hS hl
  obtain ⟨hx, hb, hml, hown, hr, hlk, htab, hst, hnm⟩ := id B
  obtain ⟨hd, rfl⟩ := hd
  exact lv_irem hx hb hd hne (kk p l e s m args below meth c B G z r z' hV hZ hF H locs ls hM hS hl)
theorem os_dup {v : Value} (hc : v.category = 1) (hd : osD cc pc 1 pc' .dup) (kk : osW Fi y cc nL ret hh R k n pc' lv (v :: v :: st) F) : osW Fi y cc nL ret hh R k n pc lv (v :: st) F := by
  intro p l e s m args below meth c B G z r z' hV hZ hF H locs ls hM hS hl
  obtain ⟨hx, hb, hml, hown, hr, hlk, htab, hst, hnm⟩ := id B
  obtain ⟨hd, rfl⟩ := hd
  exact lv_dup hx hb hd hc (kk p l e s m args below meth c B G z r z' hV hZ hF H locs ls hM hS hl)
theorem os_pop {v : Value} (hc : v.category = 1) (hd : osD cc pc 1 pc' .pop) (kk : osW Fi y cc nL ret hh R k n pc' lv st F) : osW Fi y cc nL ret hh R k n pc lv (v :: st) F := by
  intro p l e s m args below meth c B G z r z' hV hZ hF H locs ls hM hS hl
  obtain ⟨hx, hb, hml, hown, hr, hlk, htab, hst, hnm⟩ := id B
  obtain ⟨hd, rfl⟩ := hd
  exact lv_pop hx hb hd hc (kk p l e s m args below meth c B G z r z' hV hZ hF H locs ls hM hS hl)
theorem os_dup2_11 {v w : Value} (hv : v.category = 1) (hw : w.category = 1) (hd : osD cc pc 1 pc' .dup2) (kk : osW Fi y cc nL ret hh R k n pc' lv (v :: w :: v :: w :: st) F) : osW Fi y cc nL ret hh R k n pc lv (v :: w :: st) F := by
  intro p l e s m args below meth c B G z r z' hV hZ hF H locs ls hM hS hl
  obtain ⟨hx, hb, hml, hown, hr, hlk, htab, hst, hnm⟩ := id B
  obtain ⟨hd, rfl⟩ := hd
  exact lv_dup2_11 hx hb hd hv hw (kk p l e s m args below meth c B G z r z' hV hZ hF H locs ls hM hS hl)
theorem os_goto {off : Int} {tgt : Nat} (ht : (pc : Int) + off = (tgt : Int)) (hd : osD cc pc 3 pc' (.goto off)) (kk : osW Fi y cc nL ret hh R k n tgt lv st F) : osW Fi y cc nL ret hh R k n pc lv st F := by
  intro p l e s m args below meth c B G z r z' hV hZ hF H locs ls hM hS hl
  obtain ⟨hx, hb, hml, hown, hr, hlk, htab, hst, hnm⟩ := id B
  exact lv_goto hx hb hd.1 ht (kk p l e s m args below meth c B G z r z' hV hZ hF H locs ls hM hS hl)
theorem os_if_eq {x : Int32} {off : Int} {tgt : Nat} {F1 F2 : osM ρ} (ht : (pc : Int) + off = (tgt : Int)) (hd : osD cc pc 3 pc' (.ifCond .eq off)) (k1 : osW Fi y cc nL ret hh R k n tgt lv st F1) (k2 : osW Fi y cc nL ret hh R k n pc' lv st F2) : osW Fi y cc nL ret hh R k n pc lv (.int x :: st) (osite (x = 0) F1 F2) := by
  intro p l e s m args below meth c B G z r z' hV hZ hF H locs ls hM hS hl
  obtain ⟨hx, hb, hml, hown, hr, hlk, htab, hst, hnm⟩ := id B
  obtain ⟨hd, rfl⟩ := hd
  have hq := osite_some hF
  exact lv_if_eq hx hb hd ht (fun h => (k1 p l e s m args below meth c B G z r z' hV hZ (hq.1 h) H locs ls hM hS hl)) (fun h => (k2 p l e s m args below meth c B G z r z' hV hZ (hq.2 h) H locs ls hM hS hl))
theorem os_icmp_eq {x w : Int32} {off : Int} {tgt : Nat} {F1 F2 : osM ρ} (ht : (pc : Int) + off = (tgt : Int)) (hd : osD cc pc 3 pc' (.if_icmp .eq off)) (k1 : osW Fi y cc nL ret hh R k n tgt lv st F1) (k2 : osW Fi y cc nL ret hh R k n pc' lv st F2) : osW Fi y cc nL ret hh R k n pc lv (.int w :: .int x :: st) (osite (x = w) F1 F2) := by
  intro p l e s m args below meth c B G z r z' hV hZ hF H locs ls hM hS hl
  obtain ⟨hx, hb, hml, hown, hr, hlk, htab, hst, hnm⟩ := id B
  obtain ⟨hd, rfl⟩ := hd
  have hq := osite_some hF
  exact lv_icmp_eq hx hb hd ht (fun h => (k1 p l e s m args below meth c B G z r z' hV hZ (hq.1 h) H locs ls hM hS hl)) (fun h => (k2 p l e s m args below meth c B G z r z' hV hZ (hq.2 h) H locs ls hM hS hl))
theorem os_if_ne {x : Int32} {off : Int} {tgt : Nat} {F1 F2 : osM ρ} (ht : (pc : Int) + off = (tgt : Int)) (hd : osD cc pc 3 pc' (.ifCond .ne off)) (k1 : osW Fi y cc nL ret hh R k n tgt lv st F1) (k2 : osW Fi y cc nL ret hh R k n pc' lv st F2) : osW Fi y cc nL ret hh R k n pc lv (.int x :: st) (osite (x = 0) F2 F1) := by
  intro p l e s m args below meth c B G z r z' hV hZ hF H locs ls hM hS hl
  obtain ⟨hx, hb, hml, hown, hr, hlk, htab, hst, hnm⟩ := id B
  obtain ⟨hd, rfl⟩ := hd
  have hq := osite_some hF
  exact lv_if_ne hx hb hd ht (fun h => (k1 p l e s m args below meth c B G z r z' hV hZ (hq.2 h) H locs ls hM hS hl)) (fun h => (k2 p l e s m args below meth c B G z r z' hV hZ (hq.1 h) H locs ls hM hS hl))
theorem os_icmp_ne {x w : Int32} {off : Int} {tgt : Nat} {F1 F2 : osM ρ} (ht : (pc : Int) + off = (tgt : Int)) (hd : osD cc pc 3 pc' (.if_icmp .ne off)) (k1 : osW Fi y cc nL ret hh R k n tgt lv st F1) (k2 : osW Fi y cc nL ret hh R k n pc' lv st F2) : osW Fi y cc nL ret hh R k n pc lv (.int w :: .int x :: st) (osite (x = w) F2 F1) := by
  intro p l e s m args below meth c B G z r z' hV hZ hF H locs ls hM hS hl
  obtain ⟨hx, hb, hml, hown, hr, hlk, htab, hst, hnm⟩ := id B
  obtain ⟨hd, rfl⟩ := hd
  have hq := osite_some hF
  exact lv_icmp_ne hx hb hd ht (fun h => (k1 p l e s m args below meth c B G z r z' hV hZ (hq.2 h) H locs ls hM hS hl)) (fun h => (k2 p l e s m args below meth c B G z r z' hV hZ (hq.1 h) H locs ls hM hS hl))
theorem os_if_lt {x : Int32} {off : Int} {tgt : Nat} {F1 F2 : osM ρ} (ht : (pc : Int) + off = (tgt : Int)) (hd : osD cc pc 3 pc' (.ifCond .lt off)) (k1 : osW Fi y cc nL ret hh R k n tgt lv st F1) (k2 : osW Fi y cc nL ret hh R k n pc' lv st F2) : osW Fi y cc nL ret hh R k n pc lv (.int x :: st) (osite (x < 0) F1 F2) := by
  intro p l e s m args below meth c B G z r z' hV hZ hF H locs ls hM hS hl
  obtain ⟨hx, hb, hml, hown, hr, hlk, htab, hst, hnm⟩ := id B
  obtain ⟨hd, rfl⟩ := hd
  have hq := osite_some hF
  exact lv_if_lt hx hb hd ht (fun h => (k1 p l e s m args below meth c B G z r z' hV hZ (hq.1 h) H locs ls hM hS hl)) (fun h => (k2 p l e s m args below meth c B G z r z' hV hZ (hq.2 h) H locs ls hM hS hl))
theorem os_icmp_lt {x w : Int32} {off : Int} {tgt : Nat} {F1 F2 : osM ρ} (ht : (pc : Int) + off = (tgt : Int)) (hd : osD cc pc 3 pc' (.if_icmp .lt off)) (k1 : osW Fi y cc nL ret hh R k n tgt lv st F1) (k2 : osW Fi y cc nL ret hh R k n pc' lv st F2) : osW Fi y cc nL ret hh R k n pc lv (.int w :: .int x :: st) (osite (x < w) F1 F2) := by
  intro p l e s m args below meth c B G z r z' hV hZ hF H locs ls hM hS hl
  obtain ⟨hx, hb, hml, hown, hr, hlk, htab, hst, hnm⟩ := id B
  obtain ⟨hd, rfl⟩ := hd
  have hq := osite_some hF
  exact lv_icmp_lt hx hb hd ht (fun h => (k1 p l e s m args below meth c B G z r z' hV hZ (hq.1 h) H locs ls hM hS hl)) (fun h => (k2 p l e s m args below meth c B G z r z' hV hZ (hq.2 h) H locs ls hM hS hl))
theorem os_if_ge {x : Int32} {off : Int} {tgt : Nat} {F1 F2 : osM ρ} (ht : (pc : Int) + off = (tgt : Int)) (hd : osD cc pc 3 pc' (.ifCond .ge off)) (k1 : osW Fi y cc nL ret hh R k n tgt lv st F1) (k2 : osW Fi y cc nL ret hh R k n pc' lv st F2) : osW Fi y cc nL ret hh R k n pc lv (.int x :: st) (osite (0 ≤ x) F1 F2) := by
  intro p l e s m args below meth c B G z r z' hV hZ hF H locs ls hM hS hl
  obtain ⟨hx, hb, hml, hown, hr, hlk, htab, hst, hnm⟩ := id B
  obtain ⟨hd, rfl⟩ := hd
  have hq := osite_some hF
  exact lv_if_ge hx hb hd ht (fun h => (k1 p l e s m args below meth c B G z r z' hV hZ (hq.1 h) H locs ls hM hS hl)) (fun h => (k2 p l e s m args below meth c B G z r z' hV hZ (hq.2 h) H locs ls hM hS hl))
theorem os_icmp_ge {x w : Int32} {off : Int} {tgt : Nat} {F1 F2 : osM ρ} (ht : (pc : Int) + off = (tgt : Int)) (hd : osD cc pc 3 pc' (.if_icmp .ge off)) (k1 : osW Fi y cc nL ret hh R k n tgt lv st F1) (k2 : osW Fi y cc nL ret hh R k n pc' lv st F2) : osW Fi y cc nL ret hh R k n pc lv (.int w :: .int x :: st) (osite (w ≤ x) F1 F2) := by
  intro p l e s m args below meth c B G z r z' hV hZ hF H locs ls hM hS hl
  obtain ⟨hx, hb, hml, hown, hr, hlk, htab, hst, hnm⟩ := id B
  obtain ⟨hd, rfl⟩ := hd
  have hq := osite_some hF
  exact lv_icmp_ge hx hb hd ht (fun h => (k1 p l e s m args below meth c B G z r z' hV hZ (hq.1 h) H locs ls hM hS hl)) (fun h => (k2 p l e s m args below meth c B G z r z' hV hZ (hq.2 h) H locs ls hM hS hl))
theorem os_if_gt {x : Int32} {off : Int} {tgt : Nat} {F1 F2 : osM ρ} (ht : (pc : Int) + off = (tgt : Int)) (hd : osD cc pc 3 pc' (.ifCond .gt off)) (k1 : osW Fi y cc nL ret hh R k n tgt lv st F1) (k2 : osW Fi y cc nL ret hh R k n pc' lv st F2) : osW Fi y cc nL ret hh R k n pc lv (.int x :: st) (osite (0 < x) F1 F2) := by
  intro p l e s m args below meth c B G z r z' hV hZ hF H locs ls hM hS hl
  obtain ⟨hx, hb, hml, hown, hr, hlk, htab, hst, hnm⟩ := id B
  obtain ⟨hd, rfl⟩ := hd
  have hq := osite_some hF
  exact lv_if_gt hx hb hd ht (fun h => (k1 p l e s m args below meth c B G z r z' hV hZ (hq.1 h) H locs ls hM hS hl)) (fun h => (k2 p l e s m args below meth c B G z r z' hV hZ (hq.2 h) H locs ls hM hS hl))
theorem os_icmp_gt {x w : Int32} {off : Int} {tgt : Nat} {F1 F2 : osM ρ} (ht : (pc : Int) + off = (tgt : Int)) (hd : osD cc pc 3 pc' (.if_icmp .gt off)) (k1 : osW Fi y cc nL ret hh R k n tgt lv st F1) (k2 : osW Fi y cc nL ret hh R k n pc' lv st F2) : osW Fi y cc nL ret hh R k n pc lv (.int w :: .int x :: st) (osite (w < x) F1 F2) := by
  intro p l e s m args below meth c B G z r z' hV hZ hF H locs ls hM hS hl
  obtain ⟨hx, hb, hml, hown, hr, hlk, htab, hst, hnm⟩ := id B
  obtain ⟨hd, rfl⟩ := hd
  have hq := osite_some hF
  exact lv_icmp_gt hx hb hd ht (fun h => (k1 p l e s m args below meth c B G z r z' hV hZ (hq.1 h) H locs ls hM hS hl)) (fun h => (k2 p l e s m args below meth c B G z r z' hV hZ (hq.2 h) H locs ls hM hS hl))
theorem os_if_le {x : Int32} {off : Int} {tgt : Nat} {F1 F2 : osM ρ} (ht : (pc : Int) + off = (tgt : Int)) (hd : osD cc pc 3 pc' (.ifCond .le off)) (k1 : osW Fi y cc nL ret hh R k n tgt lv st F1) (k2 : osW Fi y cc nL ret hh R k n pc' lv st F2) : osW Fi y cc nL ret hh R k n pc lv (.int x :: st) (osite (x ≤ 0) F1 F2) := by
  intro p l e s m args below meth c B G z r z' hV hZ hF H locs ls hM hS hl
  obtain ⟨hx, hb, hml, hown, hr, hlk, htab, hst, hnm⟩ := id B
  obtain ⟨hd, rfl⟩ := hd
  have hq := osite_some hF
  exact lv_if_le hx hb hd ht (fun h => (k1 p l e s m args below meth c B G z r z' hV hZ (hq.1 h) H locs ls hM hS hl)) (fun h => (k2 p l e s m args below meth c B G z r z' hV hZ (hq.2 h) H locs ls hM hS hl))
theorem os_icmp_le {x w : Int32} {off : Int} {tgt : Nat} {F1 F2 : osM ρ} (ht : (pc : Int) + off = (tgt : Int)) (hd : osD cc pc 3 pc' (.if_icmp .le off)) (k1 : osW Fi y cc nL ret hh R k n tgt lv st F1) (k2 : osW Fi y cc nL ret hh R k n pc' lv st F2) : osW Fi y cc nL ret hh R k n pc lv (.int w :: .int x :: st) (osite (x ≤ w) F1 F2) := by
  intro p l e s m args below meth c B G z r z' hV hZ hF H locs ls hM hS hl
  obtain ⟨hx, hb, hml, hown, hr, hlk, htab, hst, hnm⟩ := id B
  obtain ⟨hd, rfl⟩ := hd
  have hq := osite_some hF
  exact lv_icmp_le hx hb hd ht (fun h => (k1 p l e s m args below meth c B G z r z' hV hZ (hq.1 h) H locs ls hM hS hl)) (fun h => (k2 p l e s m args below meth c B G z r z' hV hZ (hq.2 h) H locs ls hM hS hl))
end R
end
section
/-! fields, arrays, new cells, constants: the rows of osW that look at the memory -/
def osup (z : osS) (a : Nat) (e : osE) : osS := (fun b => if b = a then some e else z.1 b, z.2)
/-- a field's reference: the pool's number idx in the class own stands for the field k of the classes cis, of type ty, final or not -/
def osFd (own : String) (idx : Nat) (cis : List Nat) (k : Nat) (ty : FieldType) (fin : Bool) : Prop := ∃ ref name desc, Cond.fieldLink own idx ref name desc ∈ osX ∧ parseFieldDescriptor desc = some ty ∧ ∀ ci ∈ cis, ∃ (C : String) (T : u_T) (N : Nat) (ty0 : Nat → FieldType), vwCl[ci]? = some (C, T, N) ∧ (∀ w ∈ u_ws C T N, w ∈ osX) ∧ (∀ a, a < N → ∀ b, b < N → a ≠ b → (T a).2.1 ≠ (T b).2.1) ∧ (∀ k, k < N → parseFieldDescriptor (T k).2.2.1 = some (ty0 k)) ∧ k < N ∧ (T k).2.1 = name ∧ (T k).2.2.1 = desc ∧ (T k).2.2.2 = fin ∧ (ref = (T k).1 ∨ Cond.sameField ref (T k).1 name desc ∈ osX)
def osget (cis : List Nat) (k a : Nat) (z : osS) : Option Value := match z.1 a with
  | some (.inr (c, fs)) => if c ∈ cis then fs[k]? else none
  | _ => none
theorem osget_some {cis : List Nat} {k a : Nat} {z : osS} {v : Value} (h : osget cis k a z = some v) : ∃ c fs, z.1 a = some (.inr (c, fs)) ∧ c ∈ cis ∧ fs[k]? = some v := by
  unfold osget at h
  cases hz : z.1 a with
  | none => rw [hz] at h; cases h
  | some q =>
    cases q with
    | inl x => rw [hz] at h; cases h
    | inr x =>
      rw [hz] at h
      obtain ⟨c, fs⟩ := x
      by_cases hc : c ∈ cis
      · rw [show (match (some (Sum.inr (c, fs)) : Option osE) with | some (.inr (c, fs)) => if c ∈ cis then fs[k]? else none | _ => none) = if c ∈ cis then fs[k]? else none from rfl, if_pos hc] at h
        exact ⟨c, fs, rfl, hc, h⟩
      · rw [show (match (some (Sum.inr (c, fs)) : Option osE) with | some (.inr (c, fs)) => if c ∈ cis then fs[k]? else none | _ => none) = if c ∈ cis then fs[k]? else none from rfl, if_neg hc] at h
        cases h
def osgI (cis : List Nat) (k a : Nat) : osM Int32 := fun _ z => match osget cis k a z with
  | some (.int v) => some (v, z)
  | _ => none
def osgJ (cis : List Nat) (k a : Nat) : osM Int64 := fun _ z => match osget cis k a z with
  | some (.long v) => some (v, z)
  | _ => none
def osgR (cis : List Nat) (k a : Nat) : osM Nat := fun _ z => match osget cis k a z with
  | some (.ref v) => some (v, z)
  | _ => none
theorem osgI_some {cis : List Nat} {k a : Nat} {G : osG} {z z1 : osS} {v : Int32} (h : osgI cis k a G z = some (v, z1)) : osget cis k a z = some (.int v) ∧ z1 = z := by
  unfold osgI at h
  cases hq : osget cis k a z with
  | none => rw [hq] at h; cases h
  | some q => rw [hq] at h; cases q <;> first | (cases h; exact ⟨rfl, rfl⟩) | cases h
theorem osgJ_some {cis : List Nat} {k a : Nat} {G : osG} {z z1 : osS} {v : Int64} (h : osgJ cis k a G z = some (v, z1)) : osget cis k a z = some (.long v) ∧ z1 = z := by
  unfold osgJ at h
  cases hq : osget cis k a z with
  | none => rw [hq] at h; cases h
  | some q => rw [hq] at h; cases q <;> first | (cases h; exact ⟨rfl, rfl⟩) | cases h
theorem osgR_some {cis : List Nat} {k a : Nat} {G : osG} {z z1 : osS} {v : Nat} (h : osgR cis k a G z = some (v, z1)) : osget cis k a z = some (.ref v) ∧ z1 = z := by
  unfold osgR at h
  cases hq : osget cis k a z with
  | none => rw [hq] at h; cases h
  | some q => rw [hq] at h; cases q <;> first | (cases h; exact ⟨rfl, rfl⟩) | cases h
/-- a write: the class must be one of cis, the cell one that may be written -/
def osput (cis : List Nat) (k a : Nat) (v : Value) : osM Unit := fun G z => match z.1 a with
  | some (.inr (c, fs)) => if c ∈ cis ∧ k < fs.length ∧ G.2.2.1 ≤ a then some ((), osup z a (.inr (c, fs.set k v))) else none
  | _ => none
theorem osput_some {cis : List Nat} {k a : Nat} {v : Value} {G : osG} {z z1 : osS} {u : Unit} (h : osput cis k a v G z = some (u, z1)) : ∃ c fs, z.1 a = some (.inr (c, fs)) ∧ c ∈ cis ∧ k < fs.length ∧ osA G a ∧ z1 = osup z a (.inr (c, fs.set k v)) := by
  unfold osput at h
  cases hz : z.1 a with
  | none => rw [hz] at h; cases h
  | some q =>
    cases q with
    | inl x => rw [hz] at h; cases h
    | inr x =>
      rw [hz] at h
      obtain ⟨c, fs⟩ := x
      by_cases hc : c ∈ cis ∧ k < fs.length ∧ G.2.2.1 ≤ a
      · replace h : (if c ∈ cis ∧ k < fs.length ∧ G.2.2.1 ≤ a then some ((), osup z a (.inr (c, fs.set k v))) else none) = some (u, z1) := h
        rw [if_pos hc] at h
        cases h
        exact ⟨c, fs, rfl, hc.1, hc.2.1, hc.2.2, rfl⟩
      · replace h : (if c ∈ cis ∧ k < fs.length ∧ G.2.2.1 ≤ a then some ((), osup z a (.inr (c, fs.set k v))) else none) = some (u, z1) := h
        rw [if_neg hc] at h
        cases h
theorem osMem.up {G : osG} {z : osS} {H H1 : Heap} {a : Nat} {e : osE} (h : osMem G z H) (hs : H1.size = H.size) (ho : ∀ q, q ≠ a → H1[q]? = H[q]?) (ha : osAt G a e H1) : osMem G (osup z a e) H1 := by
  refine ⟨fun b f hb => ?_, fun k hk => by rw [hs]; exact h.2 k hk⟩
  by_cases hba : b = a
  · subst hba
    have : some e = some f := by simpa [osup] using hb
    cases this
    exact ha
  · have h1 : z.1 b = some f := by simpa [osup, hba] using hb
    have h2 := h.1 b f h1
    cases f with
    | inl x => exact ⟨by rw [ho b hba]; exact h2.1, h2.2⟩
    | inr o => exact va_at.kept (q := (b, .inr o)) h2 (ho b hba)
theorem va_P1 {D : va_G} {a : Nat} {e : va_E} {H : Heap} (h : va_at D vwCl (a, e) H) : va_P D vwCl [(a, e)] H := by
  intro k q hq
  match k, hq with
  | 0, hq => cases hq; exact h
theorem osS_put {G : osG} {H0 H H1 : Heap} {locs : List Loc} {a i : Nat} (h : va_S (osA G) H0 H locs) (hs : H1.size = H.size) (ho : ∀ q, q ≠ a → H1[q]? = H[q]?) (ha : osA G a) : va_S (osA G) H0 H1 (locs ++ [⟨a, i⟩]) := va_S.put h hs ho ha
section R
variable {ρ : Type} {Fi : osF ρ} {y : MethodName} {cc : ByteArray} {nL : Nat} {ret : Option FieldType} {hh : List (Nat × Nat × Nat × Nat)} {R : Room} {k n : Nat} {pc pc' : Nat} {lv : List (Nat × Value)} {st : List Value} {F : osM ρ}
theorem osFd.same {own : String} {s : State} {m : MethodId} {args : Array Value} {ref f1 name desc : String} (hV : ∀ w ∈ osX, w.before args s = true) (h : ref = f1 ∨ Cond.sameField ref f1 name desc ∈ osX) : ∀ x, s.fieldFound? f1 name desc = some x → s.fieldFound? ref name desc = some x := by
  intro x hx
  rcases h with h | h
  · rw [h]; exact hx
  · exact u_same (hV _ h) x hx
/-- a field's value, whatever it is -/
theorem os_getV {cis : List Nat} {kf a idx : Nat} {ty : FieldType} {fin : Bool} {v : Value} (hf : osFd y.cls idx cis kf ty fin) (hd : osD cc pc 3 pc' (.getfield idx)) (z : osS) (hv : osget cis kf a z = some v)
    {p : Program} {l : Launch} {e : Env} {s : State} {m : MethodId} {args : Array Value} {below : List Frame} {meth : Method} {c : Code} {G : osG} {H : Heap} {locs : List Loc} {ls : Array Slot} {Q : State → Prop} (B : osB p l s m meth c y cc nL ret hh) (hV : osV G s) (hM : osMem G z H)
    (kk : W p l e R s m args below meth c H locs k n Q (F0 m pc' ls (v :: st))) : W p l e R s m args below meth c H locs k n Q (F0 m pc ls (.ref a :: st)) := by
  obtain ⟨hx, hb, hml, hown, hr, hlk, htab, hst, hnm⟩ := id B
  obtain ⟨hd, rfl⟩ := hd
  obtain ⟨ref, name, desc, hl, hty, hcis⟩ := hf
  obtain ⟨ci, fs, hz, hc, hk⟩ := osget_some hv
  obtain ⟨C, T, N, ty0, h1, h2, h3, h4, h5, h6, h7, h8, h9⟩ := hcis ci hc
  subst h6; subst h7
  have hat : va_at G.1 vwCl (a, .inr (ci, fs)) H := hM.1 a _ hz
  exact va_get (tys := osTys G) hx hb (hV.word (args := args)) h2 hown hV.2.1 (va_P1 hat) 0 rfl h1 kf h5 (hV.word _ hl) (osFd.same (own := y.cls) (m := m) (hV.word (args := args)) h9) hk hd kk
theorem os_getI {cis : List Nat} {kf a idx : Nat} {ty : FieldType} {fin : Bool} {f : Int32 → osM ρ} (hf : osFd y.cls idx cis kf ty fin) (hd : osD cc pc 3 pc' (.getfield idx)) (kk : ∀ v, osW Fi y cc nL ret hh R k n pc' lv (.int v :: st) (f v)) : osW Fi y cc nL ret hh R k n pc lv (.ref a :: st) (osbind (osgI cis kf a) f) := by
  intro p l e s m args below meth c B G z r z' hV hZ hF H locs ls hM hS hl
  obtain ⟨v, z1, h1, h2⟩ := osbind_some hF
  obtain ⟨h3, rfl⟩ := osgI_some h1
  exact os_getV hf hd z1 h3 B hV hM (kk v p l e s m args below meth c B G z1 r z' hV hZ h2 H locs ls hM hS hl)
theorem os_getJ {cis : List Nat} {kf a idx : Nat} {ty : FieldType} {fin : Bool} {f : Int64 → osM ρ} (hf : osFd y.cls idx cis kf ty fin) (hd : osD cc pc 3 pc' (.getfield idx)) (kk : ∀ v, osW Fi y cc nL ret hh R k n pc' lv (.long v :: st) (f v)) : osW Fi y cc nL ret hh R k n pc lv (.ref a :: st) (osbind (osgJ cis kf a) f) := by
  intro p l e s m args below meth c B G z r z' hV hZ hF H locs ls hM hS hl
  obtain ⟨v, z1, h1, h2⟩ := osbind_some hF
  obtain ⟨h3, rfl⟩ := osgJ_some h1
  exact os_getV hf hd z1 h3 B hV hM (kk v p l e s m args below meth c B G z1 r z' hV hZ h2 H locs ls hM hS hl)
theorem os_getR {cis : List Nat} {kf a idx : Nat} {ty : FieldType} {fin : Bool} {f : Nat → osM ρ} (hf : osFd y.cls idx cis kf ty fin) (hd : osD cc pc 3 pc' (.getfield idx)) (kk : ∀ v, osW Fi y cc nL ret hh R k n pc' lv (.ref v :: st) (f v)) : osW Fi y cc nL ret hh R k n pc lv (.ref a :: st) (osbind (osgR cis kf a) f) := by
  intro p l e s m args below meth c B G z r z' hV hZ hF H locs ls hM hS hl
  obtain ⟨v, z1, h1, h2⟩ := osbind_some hF
  obtain ⟨h3, rfl⟩ := osgR_some h1
  exact os_getV hf hd z1 h3 B hV hM (kk v p l e s m args below meth c B G z1 r z' hV hZ h2 H locs ls hM hS hl)
/-- a write to a field that is not final -/
theorem os_put {cis : List Nat} {kf a idx : Nat} {ty : FieldType} {v : Value} (hf : osFd y.cls idx cis kf ty false) (hn : narrow ty v = v) (hfit : fits ty v = true) (hd : osD cc pc 3 pc' (.putfield idx)) (kk : osW Fi y cc nL ret hh R k n pc' lv st F) : osW Fi y cc nL ret hh R k n pc lv (v :: .ref a :: st) (osbind (osput cis kf a v) fun _ => F) := by
  intro p l e s m args below meth c B G z r z' hV hZ hF H locs ls hM hS hl
  obtain ⟨hx, hb, hml, hown, hr, hlk, htab, hst, hnm⟩ := id B
  obtain ⟨u, z1, g1, g2⟩ := osbind_some hF
  obtain ⟨ci, fs, hz, hc, hlen, hA, rfl⟩ := osput_some g1
  obtain ⟨hd, rfl⟩ := hd
  obtain ⟨ref, name, desc, hlk2, hty, hcis⟩ := hf
  obtain ⟨C, T, N, ty0, h1, h2, h3, h4, h5, h6, h7, h8, h9⟩ := hcis ci hc
  subst h6; subst h7
  have hts := hV.word (args := args)
  have hat : va_at G.1 vwCl (a, .inr (ci, fs)) H := hM.1 a _ hz
  obtain ⟨q', hq', cell, q1, q2, q3, q4⟩ := hat
  cases Option.some.inj (hq'.symm.trans h1)
  have hap := va_apart (own := y.cls) hts h2 ty0 h4 h3 hV.2.1 h1
  obtain ⟨hSl, hfc, kC, hkC, hkind⟩ := hV.2.1.1 ci _ h1
  obtain ⟨cf, kf2, fi, f, hi, hsl⟩ := hSl kf h5
  have hlay := hts _ (h2 _ (u_in_lay h5))
  unfold u_lay at hlay
  rw [if_neg (by rw [h8]; decide)] at hlay
  have hst2 := (u_facts hfc hkC (u_lays hts h2 h5) hi).1
  have h6 := u_store hfc hkC hkind hlay hi hty hn hfit
  refine W.putK hx hb (f := f) ⟨hown, hts _ hlk2, ⟨_, _, _, osFd.same (own := y.cls) (m := m) hts h9 _ hi⟩, hst2⟩ (by rw [q2]; exact h6) q1 q3 (by rw [hsl]; exact k2_hasslot (q4 kf h5)) rfl rfl hd fun H1 e1 e2 e3 => ?_
  rw [hsl] at e1 ⊢
  have hat1 : osAt G a (.inr (ci, fs.set kf v)) H1 := ⟨_, h1, t_OB.to (V := updV (vp_V fs) kf v) ⟨_, e1, q2, q3, t_set q4 hap h5 v⟩ (fun j _ => vp_updV_set hlen v j)⟩
  exact kk p l e s m args below meth c B G _ r z' hV hZ g2 H1 _ ls (hM.up e2 e3 hat1) (osS_put hS e2 e3 hA) hl
/-- .. to a final one, in a constructor -/
theorem os_putF {cis : List Nat} {kf a idx : Nat} {ty : FieldType} {v : Value} (hf : osFd y.cls idx cis kf ty true) (hin : y.name = "<init>") (hdc : ∀ ci ∈ cis, ∀ q, vwCl[ci]? = some q → (q.2.1 kf).1 = y.cls) (hn : narrow ty v = v) (hfit : fits ty v = true) (hd : osD cc pc 3 pc' (.putfield idx)) (kk : osW Fi y cc nL ret hh R k n pc' lv st F) : osW Fi y cc nL ret hh R k n pc lv (v :: .ref a :: st) (osbind (osput cis kf a v) fun _ => F) := by
  intro p l e s m args below meth c B G z r z' hV hZ hF H locs ls hM hS hl
  obtain ⟨hx, hb, hml, hown, hr, hlk, htab, hst, hnm⟩ := id B
  obtain ⟨u, z1, g1, g2⟩ := osbind_some hF
  obtain ⟨ci, fs, hz, hc, hlen, hA, rfl⟩ := osput_some g1
  obtain ⟨hd, rfl⟩ := hd
  obtain ⟨ref, name, desc, hlk2, hty, hcis⟩ := hf
  obtain ⟨C, T, N, ty0, h1, h2, h3, h4, h5, h6, h7, h8, h9⟩ := hcis ci hc
  have hdecl : (T kf).1 = y.cls := hdc ci hc _ h1
  subst h6; subst h7
  have hts := hV.word (args := args)
  have hat : va_at G.1 vwCl (a, .inr (ci, fs)) H := hM.1 a _ hz
  obtain ⟨q', hq', cell, q1, q2, q3, q4⟩ := hat
  cases Option.some.inj (hq'.symm.trans h1)
  have hap := va_apart (own := y.cls) hts h2 ty0 h4 h3 hV.2.1 h1
  obtain ⟨hSl, hfc, kC, hkC, hkind⟩ := hV.2.1.1 ci _ h1
  obtain ⟨cf, kf2, fi, f, hi, hsl⟩ := hSl kf h5
  have hlay := hts _ (h2 _ (u_in_lay h5))
  unfold u_lay at hlay
  rw [if_pos h8] at hlay
  have hst2 := (u_facts hfc hkC (u_lays hts h2 h5) hi).1
  have hcf : m.cls = cf := by
    obtain ⟨_, _, c', _, _, _, -, -, hf', -, -, -, hown2, -⟩ := Cond.laysFinal_spec hlay
    have e1 : c' = cf := by have := hi.symm.trans hf'; simp at this; exact this.1.symm
    rw [hdecl] at hown2
    rw [← e1]; exact Option.some.inj (hown.symm.trans hown2)
  have h6 := u_fits hfc hkC hkind (Or.inr hlay) hi hty hn hfit
  refine W.putFinK hx hb hown (hts _ hlk2) (osFd.same (own := y.cls) (m := m) hts h9 _ hi) hst2 hcf (hnm.trans hin) (by rw [q2]; exact h6) q1 q3 (by rw [hsl]; exact k2_hasslot (q4 kf h5)) rfl rfl hd fun H1 e1 e2 e3 => ?_
  rw [hsl] at e1 ⊢
  have hat1 : osAt G a (.inr (ci, fs.set kf v)) H1 := ⟨_, h1, t_OB.to (V := updV (vp_V fs) kf v) ⟨_, e1, q2, q3, t_set q4 hap h5 v⟩ (fun j _ => vp_updV_set hlen v j)⟩
  exact kk p l e s m args below meth c B G _ r z' hV hZ g2 H1 _ ls (hM.up e2 e3 hat1) (osS_put hS e2 e3 hA) hl
end R
end
section
/-! arrays, new cells, constants -/
abbrev osin (i : Int32) (n : Nat) : Prop := ¬ (i < 0 ∨ n ≤ i.toNatClampNeg)
def osga (t a : Nat) (z : osS) : Option vp_A := match z.1 a with
  | some (.inl (t', x)) => if t' = t then some x else none
  | _ => none
theorem osga_some {t a : Nat} {z : osS} {x : vp_A} (h : osga t a z = some x) : z.1 a = some (.inl (t, x)) := by
  unfold osga at h
  cases hz : z.1 a with
  | none => rw [hz] at h; cases h
  | some q =>
    cases q with
    | inr o => rw [hz] at h; cases h
    | inl w =>
      rw [hz] at h
      obtain ⟨t', x'⟩ := w
      replace h : (if t' = t then some x' else none) = some x := h
      by_cases ht : t' = t
      · rw [if_pos ht] at h; cases h; rw [ht]
      · rw [if_neg ht] at h; cases h
def osaI (t a : Nat) (i : Int32) : osM Int32 := fun _ z => match osga t a z with
  | some (n, .inl f) => if osin i n then some (f i.toNatClampNeg, z) else none
  | _ => none
theorem osaI_some {t a : Nat} {i : Int32} {G : osG} {z z1 : osS} {v : Int32} (h : osaI t a i G z = some (v, z1)) : ∃ n f, z.1 a = some (.inl (t, (n, .inl f))) ∧ osin i n ∧ f i.toNatClampNeg = v ∧ z1 = z := by
  unfold osaI at h
  cases hq : osga t a z with
  | none => rw [hq] at h; cases h
  | some q =>
    rw [hq] at h
    obtain ⟨n, f | f | f | f | f⟩ := q <;> first | cases h | skip
    replace h : (if osin i n then some (f i.toNatClampNeg, z) else none) = some (v, z1) := h
    by_cases hi : osin i n
    · rw [if_pos hi] at h; cases h; exact ⟨n, f, osga_some hq, hi, rfl, rfl⟩
    · rw [if_neg hi] at h; cases h
def osaJ (t a : Nat) (i : Int32) : osM Int64 := fun _ z => match osga t a z with
  | some (n, .inr (.inl f)) => if osin i n then some (f i.toNatClampNeg, z) else none
  | _ => none
theorem osaJ_some {t a : Nat} {i : Int32} {G : osG} {z z1 : osS} {v : Int64} (h : osaJ t a i G z = some (v, z1)) : ∃ n f, z.1 a = some (.inl (t, (n, .inr (.inl f)))) ∧ osin i n ∧ f i.toNatClampNeg = v ∧ z1 = z := by
  unfold osaJ at h
  cases hq : osga t a z with
  | none => rw [hq] at h; cases h
  | some q =>
    rw [hq] at h
    obtain ⟨n, f | f | f | f | f⟩ := q <;> first | cases h | skip
    replace h : (if osin i n then some (f i.toNatClampNeg, z) else none) = some (v, z1) := h
    by_cases hi : osin i n
    · rw [if_pos hi] at h; cases h; exact ⟨n, f, osga_some hq, hi, rfl, rfl⟩
    · rw [if_neg hi] at h; cases h
def osaD (t a : Nat) (i : Int32) : osM UInt64 := fun _ z => match osga t a z with
  | some (n, .inr (.inr (.inr (.inl f)))) => if osin i n then some (f i.toNatClampNeg, z) else none
  | _ => none
theorem osaD_some {t a : Nat} {i : Int32} {G : osG} {z z1 : osS} {v : UInt64} (h : osaD t a i G z = some (v, z1)) : ∃ n f, z.1 a = some (.inl (t, (n, .inr (.inr (.inr (.inl f)))))) ∧ osin i n ∧ f i.toNatClampNeg = v ∧ z1 = z := by
  unfold osaD at h
  cases hq : osga t a z with
  | none => rw [hq] at h; cases h
  | some q =>
    rw [hq] at h
    obtain ⟨n, f | f | f | f | f⟩ := q <;> first | cases h | skip
    replace h : (if osin i n then some (f i.toNatClampNeg, z) else none) = some (v, z1) := h
    by_cases hi : osin i n
    · rw [if_pos hi] at h; cases h; exact ⟨n, f, osga_some hq, hi, rfl, rfl⟩
    · rw [if_neg hi] at h; cases h
def osaR (t a : Nat) (i : Int32) : osM Nat := fun _ z => match osga t a z with
  | some (n, .inr (.inr (.inr (.inr f)))) => if osin i n then (match f i.toNatClampNeg with | some v => some (v, z) | none => none) else none
  | _ => none
theorem osaR_some {t a : Nat} {i : Int32} {G : osG} {z z1 : osS} {v : Nat} (h : osaR t a i G z = some (v, z1)) : ∃ n f, z.1 a = some (.inl (t, (n, .inr (.inr (.inr (.inr f)))))) ∧ osin i n ∧ f i.toNatClampNeg = some v ∧ z1 = z := by
  unfold osaR at h
  cases hq : osga t a z with
  | none => rw [hq] at h; cases h
  | some q =>
    rw [hq] at h
    obtain ⟨n, f | f | f | f | f⟩ := q <;> first | cases h | skip
    replace h : (if osin i n then (match f i.toNatClampNeg with | some v => some (v, z) | none => none) else none) = some (v, z1) := h
    by_cases hi : osin i n
    · rw [if_pos hi] at h
      cases hv : f i.toNatClampNeg with
      | none => rw [hv] at h; cases h
      | some w => rw [hv] at h; cases h; exact ⟨n, f, osga_some hq, hi, hv, rfl⟩
    · rw [if_neg hi] at h; cases h
def ossI (t a : Nat) (i : Int32) (v : Int32) : osM Unit := fun G z => match osga t a z with
  | some (n, .inl f) => if osin i n ∧ G.2.2.1 ≤ a then some ((), osup z a (.inl (t, (n, .inl (upd f i.toNatClampNeg (v)))))) else none
  | _ => none
theorem ossI_some {t a : Nat} {i : Int32} {v : Int32} {G : osG} {z z1 : osS} {u : Unit} (h : ossI t a i v G z = some (u, z1)) : ∃ n f, z.1 a = some (.inl (t, (n, .inl f))) ∧ osin i n ∧ osA G a ∧ z1 = osup z a (.inl (t, (n, .inl (upd f i.toNatClampNeg (v))))) := by
  unfold ossI at h
  cases hq : osga t a z with
  | none => rw [hq] at h; cases h
  | some q =>
    rw [hq] at h
    obtain ⟨n, f | f | f | f | f⟩ := q <;> first | cases h | skip
    replace h : (if osin i n ∧ G.2.2.1 ≤ a then some ((), osup z a (.inl (t, (n, .inl (upd f i.toNatClampNeg (v)))))) else none) = some (u, z1) := h
    by_cases hi : osin i n ∧ G.2.2.1 ≤ a
    · rw [if_pos hi] at h; cases h; exact ⟨n, f, osga_some hq, hi.1, hi.2, rfl⟩
    · rw [if_neg hi] at h; cases h
def ossJ (t a : Nat) (i : Int32) (v : Int64) : osM Unit := fun G z => match osga t a z with
  | some (n, .inr (.inl f)) => if osin i n ∧ G.2.2.1 ≤ a then some ((), osup z a (.inl (t, (n, .inr (.inl (vp_updL f i.toNatClampNeg (v))))))) else none
  | _ => none
theorem ossJ_some {t a : Nat} {i : Int32} {v : Int64} {G : osG} {z z1 : osS} {u : Unit} (h : ossJ t a i v G z = some (u, z1)) : ∃ n f, z.1 a = some (.inl (t, (n, .inr (.inl f)))) ∧ osin i n ∧ osA G a ∧ z1 = osup z a (.inl (t, (n, .inr (.inl (vp_updL f i.toNatClampNeg (v)))))) := by
  unfold ossJ at h
  cases hq : osga t a z with
  | none => rw [hq] at h; cases h
  | some q =>
    rw [hq] at h
    obtain ⟨n, f | f | f | f | f⟩ := q <;> first | cases h | skip
    replace h : (if osin i n ∧ G.2.2.1 ≤ a then some ((), osup z a (.inl (t, (n, .inr (.inl (vp_updL f i.toNatClampNeg (v))))))) else none) = some (u, z1) := h
    by_cases hi : osin i n ∧ G.2.2.1 ≤ a
    · rw [if_pos hi] at h; cases h; exact ⟨n, f, osga_some hq, hi.1, hi.2, rfl⟩
    · rw [if_neg hi] at h; cases h
def ossD (t a : Nat) (i : Int32) (v : UInt64) : osM Unit := fun G z => match osga t a z with
  | some (n, .inr (.inr (.inr (.inl f)))) => if osin i n ∧ G.2.2.1 ≤ a then some ((), osup z a (.inl (t, (n, .inr (.inr (.inr (.inl (vf_upd f i.toNatClampNeg (v))))))))) else none
  | _ => none
theorem ossD_some {t a : Nat} {i : Int32} {v : UInt64} {G : osG} {z z1 : osS} {u : Unit} (h : ossD t a i v G z = some (u, z1)) : ∃ n f, z.1 a = some (.inl (t, (n, .inr (.inr (.inr (.inl f)))))) ∧ osin i n ∧ osA G a ∧ z1 = osup z a (.inl (t, (n, .inr (.inr (.inr (.inl (vf_upd f i.toNatClampNeg (v)))))))) := by
  unfold ossD at h
  cases hq : osga t a z with
  | none => rw [hq] at h; cases h
  | some q =>
    rw [hq] at h
    obtain ⟨n, f | f | f | f | f⟩ := q <;> first | cases h | skip
    replace h : (if osin i n ∧ G.2.2.1 ≤ a then some ((), osup z a (.inl (t, (n, .inr (.inr (.inr (.inl (vf_upd f i.toNatClampNeg (v))))))))) else none) = some (u, z1) := h
    by_cases hi : osin i n ∧ G.2.2.1 ≤ a
    · rw [if_pos hi] at h; cases h; exact ⟨n, f, osga_some hq, hi.1, hi.2, rfl⟩
    · rw [if_neg hi] at h; cases h
def ossR (t a : Nat) (i : Int32) (v : Nat) : osM Unit := fun G z => match osga t a z with
  | some (n, .inr (.inr (.inr (.inr f)))) => if osin i n ∧ G.2.2.1 ≤ a then some ((), osup z a (.inl (t, (n, .inr (.inr (.inr (.inr (va_up f i.toNatClampNeg (some v))))))))) else none
  | _ => none
theorem ossR_some {t a : Nat} {i : Int32} {v : Nat} {G : osG} {z z1 : osS} {u : Unit} (h : ossR t a i v G z = some (u, z1)) : ∃ n f, z.1 a = some (.inl (t, (n, .inr (.inr (.inr (.inr f)))))) ∧ osin i n ∧ osA G a ∧ z1 = osup z a (.inl (t, (n, .inr (.inr (.inr (.inr (va_up f i.toNatClampNeg (some v)))))))) := by
  unfold ossR at h
  cases hq : osga t a z with
  | none => rw [hq] at h; cases h
  | some q =>
    rw [hq] at h
    obtain ⟨n, f | f | f | f | f⟩ := q <;> first | cases h | skip
    replace h : (if osin i n ∧ G.2.2.1 ≤ a then some ((), osup z a (.inl (t, (n, .inr (.inr (.inr (.inr (va_up f i.toNatClampNeg (some v))))))))) else none) = some (u, z1) := h
    by_cases hi : osin i n ∧ G.2.2.1 ≤ a
    · rw [if_pos hi] at h; cases h; exact ⟨n, f, osga_some hq, hi.1, hi.2, rfl⟩
    · rw [if_neg hi] at h; cases h
def ossQ (t ci a : Nat) (i : Int32) (v : Nat) : osM Unit := fun G z => match z.1 v with | some (.inr (c, _)) => if c = ci then ossR t a i v G z else none | _ => none
def oslen (a : Nat) : osM Int32 := fun _ z => match z.1 a with
  | some (.inl (_, x)) => some (Int32.ofNat x.1, z)
  | _ => none
theorem oslen_some {a : Nat} {G : osG} {z z1 : osS} {v : Int32} (h : oslen a G z = some (v, z1)) : ∃ t x, z.1 a = some (.inl (t, x)) ∧ Int32.ofNat x.1 = v ∧ z1 = z := by
  unfold oslen at h
  cases hz : z.1 a with
  | none => rw [hz] at h; cases h
  | some q =>
    cases q with
    | inr o => rw [hz] at h; cases h
    | inl w => rw [hz] at h; cases h; exact ⟨w.1, w.2, rfl, rfl, rfl⟩
/-- a new cell: its address is the heap's size -/
def osnew (e : osE) : osM Nat := fun G z => match z.2 with
  | some q => if G.2.2.1 ≤ q then some (q, (fun b => if b = q then some e else z.1 b, some (q + 1))) else none
  | none => none
theorem osnew_some {e : osE} {G : osG} {z z1 : osS} {q : Nat} (h : osnew e G z = some (q, z1)) : z.2 = some q ∧ osA G q ∧ z1 = (fun b => if b = q then some e else z.1 b, some (q + 1)) := by
  unfold osnew at h
  cases hz : z.2 with
  | none => rw [hz] at h; cases h
  | some w =>
    rw [hz] at h
    replace h : (if G.2.2.1 ≤ w then some (w, (fun b => if b = w then some e else z.1 b, some (w + 1))) else none) = some (q, z1) := h
    by_cases hw : G.2.2.1 ≤ w
    · rw [if_pos hw] at h; cases h; exact ⟨rfl, hw, rfl⟩
    · rw [if_neg hw] at h; cases h
theorem osMem.new {G : osG} {z : osS} {H H1 : Heap} {q : Nat} {e : osE} (h : osMem G z H) (hq : z.2 = some q) (hs : H1.size = q + 1) (ho : ∀ b, b < q → H1[b]? = H[b]?) (ha : osAt G q e H1) : osMem G (fun b => if b = q then some e else z.1 b, some (q + 1)) H1 := by
  have hsz := h.2 q hq
  refine ⟨fun b f hb => ?_, fun k hk => by cases hk; exact hs⟩
  by_cases hbq : b = q
  · subst hbq
    have : some e = some f := by simpa using hb
    cases this
    exact ha
  · have h1 : z.1 b = some f := by simpa [hbq] using hb
    have h2 := h.1 b f h1
    cases f with
    | inl x =>
      have hlt : b < H.size := (Array.getElem?_eq_some_iff.mp h2.1).1
      exact ⟨by rw [ho b (by omega)]; exact h2.1, h2.2⟩
    | inr o =>
      have hlt : b < H.size := va_at.lt (q := (b, .inr o)) h2
      exact va_at.kept (q := (b, .inr o)) h2 (ho b (by omega))
theorem osS_new {G : osG} {H0 H H1 : Heap} {locs : List Loc} {q : Nat} (h : va_S (osA G) H0 H locs) (hq : H.size = q) (hs : H1.size = q + 1) (ho : ∀ b, b < q → H1[b]? = H[b]?) : va_S (osA G) H0 H1 locs :=
  ⟨Nat.le_trans h.1 (by omega), fun x h1 h2 => (ho x (Nat.lt_of_lt_of_le h1 (by rw [← hq]; exact h.1))).trans (h.2.1 x h1 h2), h.2.2⟩
def osstat (j : Nat) : osM Nat := fun G z => some (G.2.2.2.1 j, z)
/-- what a word's constant holds, by its address -/
def oswp (a : Nat) : osM Int64 := fun G z => match (List.range 15).find? (fun j => G.2.2.2.1 j == a) with
  | some j => (match osPk[j]? with | some v => some (v, z) | none => none)
  | none => none
theorem oswp_some {a : Nat} {G : osG} {z z1 : osS} {v : Int64} (h : oswp a G z = some (v, z1)) : ∃ j, G.2.2.2.1 j = a ∧ osPk[j]? = some v ∧ z1 = z := by
  unfold oswp at h
  cases hq : (List.range 15).find? (fun j => G.2.2.2.1 j == a) with
  | none => rw [hq] at h; cases h
  | some j =>
    rw [hq] at h
    have h1 := List.find?_some hq
    cases hv : osPk[j]? with
    | none => simp [hv] at h
    | some w => simp [hv] at h; exact ⟨j, by simpa using h1, by rw [← h.1]; exact hv, h.2.symm⟩
section R
variable {ρ : Type} {Fi : osF ρ} {y : MethodName} {cc : ByteArray} {nL : Nat} {ret : Option FieldType} {hh : List (Nat × Nat × Nat × Nat)} {R : Room} {k n : Nat} {pc pc' : Nat} {lv : List (Nat × Value)} {st : List Value} {F : osM ρ}
theorem os_iaload {a : Nat} {i : Int32} {f : Int32 → osM ρ} (hd : osD cc pc 1 pc' .iaload) (kk : ∀ v, osW Fi y cc nL ret hh R k n pc' lv (.int v :: st) (f v)) : osW Fi y cc nL ret hh R k n pc lv (.int i :: .ref a :: st) (osbind (osaI 0 a i) f) := by
  intro p l e s m args below meth c B G z r z' hV hZ hF H locs ls hM hS hl
  obtain ⟨hx, hb, hml, hown, hr, hlk, htab, hst, hnm⟩ := id B
  obtain ⟨v, z1, g1, g2⟩ := osbind_some hF
  obtain ⟨N, g, hz, hin, rfl, rfl⟩ := osaI_some g1
  obtain ⟨hd, rfl⟩ := hd
  have ht : (osTys G)[0]? = some (G.2.1 0, .int) := rfl
  exact va_iald (D := G.1) (cl := vwCl) hx hb hV.2.1 (va_P1 (show va_at G.1 vwCl (a, .inl (G.2.1 0, _)) H from (hM.1 a _ hz).1)) 0 0 rfl ht hin hd (kk _ p l e s m args below meth c B G z1 r z' hV hZ g2 H locs ls hM hS hl)
theorem os_baload {a : Nat} {i : Int32} {f : Int32 → osM ρ} (hd : osD cc pc 1 pc' .baload) (kk : ∀ v, osW Fi y cc nL ret hh R k n pc' lv (.int v :: st) (f v)) : osW Fi y cc nL ret hh R k n pc lv (.int i :: .ref a :: st) (osbind (osaI 1 a i) f) := by
  intro p l e s m args below meth c B G z r z' hV hZ hF H locs ls hM hS hl
  obtain ⟨hx, hb, hml, hown, hr, hlk, htab, hst, hnm⟩ := id B
  obtain ⟨v, z1, g1, g2⟩ := osbind_some hF
  obtain ⟨N, g, hz, hin, rfl, rfl⟩ := osaI_some g1
  obtain ⟨hd, rfl⟩ := hd
  have ht : (osTys G)[1]? = some (G.2.1 1, .byte) := rfl
  exact va_bald (D := G.1) (cl := vwCl) hx hb hV.2.1 (va_P1 (show va_at G.1 vwCl (a, .inl (G.2.1 1, _)) H from (hM.1 a _ hz).1)) 0 1 rfl ht hin hd (kk _ p l e s m args below meth c B G z1 r z' hV hZ g2 H locs ls hM hS hl)
theorem os_aaload {t a : Nat} {C : String} {i : Int32} {f : Nat → osM ρ} (ht0 : osTy[t]? = some (.object C)) (hd : osD cc pc 1 pc' .aaload) (kk : ∀ v, osW Fi y cc nL ret hh R k n pc' lv (.ref v :: st) (f v)) : osW Fi y cc nL ret hh R k n pc lv (.int i :: .ref a :: st) (osbind (osaR t a i) f) := by
  intro p l e s m args below meth c B G z r z' hV hZ hF H locs ls hM hS hl
  obtain ⟨hx, hb, hml, hown, hr, hlk, htab, hst, hnm⟩ := id B
  obtain ⟨v, z1, g1, g2⟩ := osbind_some hF
  obtain ⟨N, g, hz, hin, hv, rfl⟩ := osaR_some g1
  obtain ⟨hd, rfl⟩ := hd
  refine va_aldq (D := G.1) (cl := vwCl) hx hb hV.2.1 (va_P1 (show va_at G.1 vwCl (a, .inl (G.2.1 t, _)) H from (hM.1 a _ hz).1)) 0 t rfl (osTys_at ht0) hin hd ?_
  rw [hv]
  exact kk v p l e s m args below meth c B G z1 r z' hV hZ g2 H locs ls hM hS hl
theorem os_iastore {a : Nat} {i : Int32} {x : Int32} (hd : osD cc pc 1 pc' .iastore) (kk : osW Fi y cc nL ret hh R k n pc' lv st F) : osW Fi y cc nL ret hh R k n pc lv (.int x :: .int i :: .ref a :: st) (osbind (ossI 0 a i x) fun _ => F) := by
  intro p l e s m args below meth c B G z r z' hV hZ hF H locs ls hM hS hl
  obtain ⟨hx, hb, hml, hown, hr, hlk, htab, hst, hnm⟩ := id B
  obtain ⟨u, z1, g1, g2⟩ := osbind_some hF
  obtain ⟨N, f, hz, hin, hA, rfl⟩ := ossI_some g1
  obtain ⟨hd, rfl⟩ := hd
  have ht : (osTys G)[0]? = some (G.2.1 0, .int) := rfl
  have hc0 := (hM.1 a _ hz).1
  refine W.iast hx hb hc0 ((hV.2.1.2 0 _ ht).1 N (fun j => .int (f j))) (fun q => by cases q) (by show ¬ (i < 0 ∨ (arrV _ _ _).slots.size ≤ _); rw [arrV_size]; exact hin) rfl rfl hd fun H1 e1 e2 e3 => ?_
  have hat1 : osAt G a (.inl (0, (N, .inl (upd f i.toNatClampNeg x)))) H1 := by
    refine ⟨?_, (hM.1 a _ hz).2⟩
    rw [e1, vp_cell_i, vp_cell_i, arrV_store]
    congr 2
    funext q
    by_cases hq : q = i.toNatClampNeg
    · subst hq; simp [updV, upd]
    · simp [updV, upd, hq]
  exact kk p l e s m args below meth c B G _ r z' hV hZ g2 H1 _ ls (hM.up e2 e3 hat1) (osS_put hS e2 e3 hA) hl
theorem os_bastore {a : Nat} {i : Int32} {x : Int32} (hd : osD cc pc 1 pc' .bastore) (kk : osW Fi y cc nL ret hh R k n pc' lv st F) : osW Fi y cc nL ret hh R k n pc lv (.int x :: .int i :: .ref a :: st) (osbind (ossI 1 a i (vp_nar .byte x)) fun _ => F) := by
  intro p l e s m args below meth c B G z r z' hV hZ hF H locs ls hM hS hl
  obtain ⟨hx, hb, hml, hown, hr, hlk, htab, hst, hnm⟩ := id B
  obtain ⟨u, z1, g1, g2⟩ := osbind_some hF
  obtain ⟨N, f, hz, hin, hA, rfl⟩ := ossI_some g1
  obtain ⟨hd, rfl⟩ := hd
  have ht : (osTys G)[1]? = some (G.2.1 1, .byte) := rfl
  have hc0 := (hM.1 a _ hz).1
  refine W.bast hx hb hc0 ((hV.2.1.2 1 _ ht).1 N (fun j => .int (f j))) (fun q => by cases q) (by show ¬ (i < 0 ∨ (arrV _ _ _).slots.size ≤ _); rw [arrV_size]; exact hin) rfl rfl hd fun H1 e1 e2 e3 => ?_
  have hat1 : osAt G a (.inl (1, (N, .inl (upd f i.toNatClampNeg (vp_nar .byte x))))) H1 := by
    refine ⟨?_, (hM.1 a _ hz).2⟩
    rw [e1, vp_cell_i, vp_cell_i, arrV_store]
    congr 2
    funext q
    by_cases hq : q = i.toNatClampNeg
    · subst hq; simp [updV, upd, vp_nar, narrow]
    · simp [updV, upd, hq]
  exact kk p l e s m args below meth c B G _ r z' hV hZ g2 H1 _ ls (hM.up e2 e3 hat1) (osS_put hS e2 e3 hA) hl
theorem os_aastore {t a v ci : Nat} {C : String} {T : u_T} {N0 : Nat} {i : Int32} (ht0 : osTy[t]? = some (.object C)) (hc : vwCl[ci]? = some (C, T, N0)) (hd : osD cc pc 1 pc' .aastore) (kk : osW Fi y cc nL ret hh R k n pc' lv st F) : osW Fi y cc nL ret hh R k n pc lv (.ref v :: .int i :: .ref a :: st) (osbind (ossQ t ci a i v) fun _ => F) := by
  intro p l e s m args below meth c B G z r z' hV hZ hF H locs ls hM hS hl
  obtain ⟨hx, hb, hml, hown, hr, hlk, htab, hst, hnm⟩ := id B
  obtain ⟨u, z1, g0, g2⟩ := osbind_some hF
  unfold ossQ at g0
  obtain ⟨fs, hzv, g1⟩ : ∃ fs, z.1 v = some (.inr (ci, fs)) ∧ ossR t a i v G z = some (u, z1) := by
    cases hz : z.1 v with
    | none => simp [hz] at g0
    | some q =>
      cases q with
      | inl w => simp [hz] at g0
      | inr w =>
        obtain ⟨c9, fs⟩ := w
        simp only [hz] at g0
        by_cases hcc : c9 = ci
        · rw [if_pos hcc] at g0; exact ⟨fs, by rw [hcc], g0⟩
        · rw [if_neg hcc] at g0; cases g0
  obtain ⟨N, f, hz, hin, hA, rfl⟩ := ossR_some g1
  obtain ⟨hd, rfl⟩ := hd
  have ht := osTys_at (G := G) ht0
  have hc0 := (hM.1 a _ hz).1
  obtain ⟨r', hr', cellV, q1, q2, q3, -⟩ := (show va_at G.1 vwCl (v, .inr (ci, fs)) H from hM.1 v _ hzv)
  have hcls := (hV.2.1.1 ci _ hc).2
  obtain ⟨kA, comp, k1, k2, k3, -⟩ := (hV.2.1.2 t _ ht).2
  have hcomp : comp = G.1.1 ci := Option.some.inj (k3.symm.trans hcls.1)
  subst hcomp
  obtain ⟨kC, hkC, -⟩ := hcls.2
  have h0 : ¬ i < 0 := fun q => hin (Or.inl q)
  have hlt : i.toNatClampNeg < N := Nat.not_le.mp fun q => hin (Or.inr q)
  refine W.aast hx hb hc0 (fun q h => by cases h) (fun h => by cases h) k1 k2 rfl hkC ⟨h0, by show _ < (arrV _ _ _).slots.size; rw [arrV_size]; exact hlt⟩ q1 (fun q h => by rw [q3] at h; cases h) (by rw [q2]; exact hkC) (by rw [q2]; exact va_assign hcls) rfl rfl hd fun H1 e1 e2 e3 => ?_
  have hat1 : osAt G a (.inl (t, (N, .inr (.inr (.inr (.inr (va_up f i.toNatClampNeg (some v)))))))) H1 := by
    refine ⟨?_, (hM.1 a _ hz).2⟩
    rw [e1, vp_cell_q, vp_cell_q, arrV_store]
    congr 2
    funext q
    by_cases hq : q = i.toNatClampNeg
    · subst hq; simp [updV, va_up, va_rf]
    · simp [updV, va_up, hq]
  exact kk p l e s m args below meth c B G _ r z' hV hZ g2 H1 _ ls (hM.up e2 e3 hat1) (osS_put hS e2 e3 hA) hl
theorem os_arraylength {a : Nat} {f : Int32 → osM ρ} (hd : osD cc pc 1 pc' .arraylength) (kk : ∀ v, osW Fi y cc nL ret hh R k n pc' lv (.int v :: st) (f v)) : osW Fi y cc nL ret hh R k n pc lv (.ref a :: st) (osbind (oslen a) f) := by
  intro p l e s m args below meth c B G z r z' hV hZ hF H locs ls hM hS hl
  obtain ⟨hx, hb, hml, hown, hr, hlk, htab, hst, hnm⟩ := id B
  obtain ⟨v, z1, g1, g2⟩ := osbind_some hF
  obtain ⟨t, x, hz, hv, rfl⟩ := oslen_some g1
  obtain ⟨hd, rfl⟩ := hd
  have h7 := (hM.1 a _ hz).2
  have ht : ∃ ty, osTy[t]? = some ty := by
    match t, h7 with
    | 0, _ => exact ⟨_, rfl⟩
    | 1, _ => exact ⟨_, rfl⟩
    | 2, _ => exact ⟨_, rfl⟩
    | 3, _ => exact ⟨_, rfl⟩
    | 4, _ => exact ⟨_, rfl⟩
    | 5, _ => exact ⟨_, rfl⟩
    | 6, _ => exact ⟨_, rfl⟩
    | n + 7, h => exact absurd h (by omega)
  obtain ⟨ty, ht⟩ := ht
  exact va_alen (D := G.1) (cl := vwCl) hx hb hV.2.1 (va_P1 (show va_at G.1 vwCl (a, .inl (G.2.1 t, _)) H from (hM.1 a _ hz).1)) 0 t rfl (osTys_at ht) hv hd (kk v p l e s m args below meth c B G z1 r z' hV hZ g2 H locs ls hM hS hl)
theorem os_new {C : String} {T : u_T} {N ci idx : Nat} {ty0 : Nat → FieldType} {fs : List Value} {f : Nat → osM ρ} (hc : vwCl[ci]? = some (C, T, N)) (hty : ∀ j, j < N → parseFieldDescriptor (T j).2.2.1 = some (ty0 j)) (hin : ∀ w ∈ u_ws C T N, w ∈ osX) (h1 : Cond.classLink y.cls idx C ∈ osX) (h2 : Cond.instantiable C N ∈ osX) (h3 : Cond.initialized C ∈ osX) (hfs : ∀ j, j < N → defaultValue (ty0 j) = vp_V fs j) (hk : k + 1 ≤ R.cells) (hn : n + N ≤ R.slots) (hd : osD cc pc 3 pc' (.new idx)) (kk : ∀ q, osW Fi y cc nL ret hh R (k + 1) (n + N) pc' lv (.ref q :: st) (f q)) : osW Fi y cc nL ret hh R k n pc lv st (osbind (osnew (.inr (ci, fs))) f) := by
  intro p l e s m args below meth c B G z r z' hV hZ hF H locs ls hM hS hl
  obtain ⟨hx, hb, hml, hown, hr, hlk, htab, hst, hnm⟩ := id B
  obtain ⟨q, z1, g1, g2⟩ := osbind_some hF
  obtain ⟨hz, hA, rfl⟩ := osnew_some g1
  obtain ⟨hd, rfl⟩ := hd
  have hts := hV.word (args := args)
  have hKn := hV.2.1.1 ci _ hc
  have hsz := hM.2 q hz
  refine W.newcK hx hb hown (hts _ h1) (hts _ h2) (hts _ h3) rfl hd hk hn hKn.2.1 hsz fun H1 kC hkC e1 e2 e3 => ?_
  have hat1 : osAt G q (.inr (ci, fs)) H1 := ⟨_, hc, (u_born ty0 hts hin hKn hkC e1 hty).to hfs⟩
  exact kk q p l e s m args below meth c B G _ r z' hV hZ g2 H1 locs ls (hM.new hz e2 e3 hat1) (osS_new hS hsz e2 e3) hl
theorem os_newarray {at9 : ArrayType} {i : Int32} {t N : Nat} {ty : FieldType} {x : vp_A} {f : Nat → osM ρ} (hty : newarray.typeOf at9 = ty) (ht0 : osTy[t]? = some ty) (hnr : (match ty with | .object _ => false | _ => true) = true) (hw : Cond.arrayClass ty ∈ osX) (hx0 : ∀ cA : ClassId, vp_cell cA x = arrV cA N (fun _ => defaultValue ty)) (hi : ¬ i < 0) (hN : i.toNatClampNeg = N) (hby : N * componentBytes ty ≤ 536870912) (hk : k + 1 ≤ R.cells) (hn : n + N ≤ R.slots) (hd : osD cc pc 2 pc' (.newarray at9)) (kk : ∀ q, osW Fi y cc nL ret hh R (k + 1) (n + N) pc' lv (.ref q :: st) (f q)) : osW Fi y cc nL ret hh R k n pc lv (.int i :: st) (osbind (osnew (.inl (t, x))) f) := by
  intro p l e s m args below meth c B G z r z' hV hZ hF H locs ls hM hS hl
  obtain ⟨hx, hb, hml, hown, hr, hlk, htab, hst, hnm⟩ := id B
  obtain ⟨q, z1, g1, g2⟩ := osbind_some hF
  obtain ⟨hz, hA, rfl⟩ := osnew_some g1
  obtain ⟨hd, rfl⟩ := hd
  subst hty
  have hts := hV.word (args := args)
  have hsz := hM.2 q hz
  refine va_newaK hx hb (hts _ hw) rfl hd rfl hi hN hby hk hn hsz fun H1 cA e1 e2 e3 hAr hNm => ?_
  have ht := osTys_at (G := G) ht0
  have hra := (hV.2.1.2 t _ ht).2
  have hcA : s.vm.findClass ("[" ++ (newarray.typeOf at9).toString) = some (G.2.1 t) := by
    clear hx0 kk hw e1 hAr hNm hby
    cases at9 <;> exact hra
  have hce : cA = G.2.1 t := Option.some.inj (hNm.symm.trans hcA)
  subst hce
  have h7 : t < 7 := (List.getElem?_eq_some_iff.mp ht0).1
  have hat1 : osAt G q (.inl (t, x)) H1 := ⟨by rw [hx0]; exact e1, h7⟩
  exact kk q p l e s m args below meth c B G _ r z' hV hZ g2 H1 locs ls (hM.new hz e2 e3 hat1) (osS_new hS hsz e2 e3) hl
-- anewarray: below, in a part of its own
theorem os_getstatic {j idx : Nat} {C nm ds : String} {f : Nat → osM ρ} (hw : Cond.fieldLink y.cls idx C nm ds ∈ osX) (hj : C = "OrderSettler$Word" ∧ (osWd[j]? = some nm ∧ ds = "LOrderSettler$Word;" ∨ j = 15 ∧ nm = "ALL" ∧ ds = "[LOrderSettler$Word;")) (hd : osD cc pc 3 pc' (.getstatic idx)) (kk : ∀ v, osW Fi y cc nL ret hh R k n pc' lv (.ref v :: st) (f v)) : osW Fi y cc nL ret hh R k n pc lv st (osbind (osstat j) f) := by
  intro p l e s m args below meth c B G z r z' hV hZ hF H locs ls hM hS hl
  obtain ⟨hx, hb, hml, hown, hr, hlk, htab, hst, hnm⟩ := id B
  obtain ⟨v, z1, g1, g2⟩ := osbind_some hF
  cases g1
  obtain ⟨hd, rfl⟩ := hd
  have hZ1 : va_Z C nm ds (.ref (G.2.2.2.1 j)) (osA G) s s.heap := by
    obtain ⟨rfl, h⟩ := hj
    rcases h with ⟨h, rfl⟩ | ⟨rfl, rfl, rfl⟩
    · exact hZ.1 j nm h
    · exact hZ.2.1
  exact va_gets hx hb hZ1 hS hown (hV.word _ hw) (fun x hx => hx) hd (kk _ p l e s m args below meth c B G z r z' hV hZ g2 H locs ls hM hS hl)
theorem os_wordPacked {a idx : Nat} {host : String} {f : Int64 → osM ρ} (hw : Cond.fieldLinkNest y.cls idx "OrderSettler$Word" "packed" "J" host ∈ osX) (hd : osD cc pc 3 pc' (.getfield idx)) (kk : ∀ v, osW Fi y cc nL ret hh R k n pc' lv (.long v :: st) (f v)) : osW Fi y cc nL ret hh R k n pc lv (.ref a :: st) (osbind (oswp a) f) := by
  intro p l e s m args below meth c B G z r z' hV hZ hF H locs ls hM hS hl
  obtain ⟨hx, hb, hml, hown, hr, hlk, htab, hst, hnm⟩ := id B
  obtain ⟨v, z1, g1, g2⟩ := osbind_some hF
  obtain ⟨j, rfl, hv, rfl⟩ := oswp_some g1
  obtain ⟨hd, rfl⟩ := hd
  obtain ⟨cf, k9, i9, f9, cell, h1, h2, h3, h4, h5, h6⟩ := hZ.2.2.1 j v hv
  exact va_Wgetf hx hb hown (hV.word _ hw) h1 h2 (by rw [hS.2.1 _ (Array.getElem?_eq_some_iff.mp h3).1 h6]; exact h3) h4 h5 rfl rfl hd (kk v p l e s m args below meth c B G z1 r z' hV hZ g2 H locs ls hM hS hl)
theorem os_wordPackedOwn {a idx : Nat} {f : Int64 → osM ρ} (hw : Cond.fieldLink y.cls idx "OrderSettler$Word" "packed" "J" ∈ osX) (hd : osD cc pc 3 pc' (.getfield idx)) (kk : ∀ v, osW Fi y cc nL ret hh R k n pc' lv (.long v :: st) (f v)) : osW Fi y cc nL ret hh R k n pc lv (.ref a :: st) (osbind (oswp a) f) := by
  intro p l e s m args below meth c B G z r z' hV hZ hF H locs ls hM hS hl
  obtain ⟨hx, hb, hml, hown, hr, hlk, htab, hst, hnm⟩ := id B
  obtain ⟨v, z1, g1, g2⟩ := osbind_some hF
  obtain ⟨j, rfl, hv, rfl⟩ := oswp_some g1
  obtain ⟨hd, rfl⟩ := hd
  obtain ⟨cf, k9, i9, f9, cell, h1, h2, h3, h4, h5, h6⟩ := hZ.2.2.1 j v hv
  exact W.getf hx hb hown (hV.word _ hw) h1 h2 (by rw [hS.2.1 _ (Array.getElem?_eq_some_iff.mp h3).1 h6]; exact h3) h4 h5 rfl rfl hd (kk v p l e s m args below meth c B G z1 r z' hV hZ g2 H locs ls hM hS hl)
end R
end
section
/-! calls and ends -/
def osrecv {α : Type} (cis : List Nat) (b : Nat) (g : osM α) : osM α := fun G z => match z.1 b with
  | some (.inr (c, _)) => if c ∈ cis then g G z else none
  | _ => none
theorem osrecv_some {α : Type} {cis : List Nat} {b : Nat} {g : osM α} {G : osG} {z : osS} {r : α × osS} (h : osrecv cis b g G z = some r) : ∃ c fs, z.1 b = some (.inr (c, fs)) ∧ c ∈ cis ∧ g G z = some r := by
  unfold osrecv at h
  cases hz : z.1 b with
  | none => rw [hz] at h; cases h
  | some q =>
    cases q with
    | inl w => rw [hz] at h; cases h
    | inr w =>
      rw [hz] at h
      obtain ⟨c, fs⟩ := w
      replace h : (if c ∈ cis then g G z else none) = some r := h
      by_cases hc : c ∈ cis
      · rw [if_pos hc] at h; exact ⟨c, fs, rfl, hc, h⟩
      · rw [if_neg hc] at h; cases h
/-- a method's own words -/
def osMd (y : MethodName) (cc : ByteArray) (nL : Nat) (ret : Option FieldType) (np : Nat) : Prop := Cond.code y cc nL ret ∈ osX ∧ Cond.initialized y.cls ∈ osX ∧ (y.cls ≠ "java/lang/invoke/MethodHandle" ∧ y.cls ≠ "java/lang/invoke/VarHandle") ∧ (parseMethodDescriptor y.desc).map (fun d => d.parameters.length) = some np
theorem osMd.len {y : MethodName} {cc : ByteArray} {nL : Nat} {ret : Option FieldType} {np : Nat} (h : osMd y cc nL ret np) : ∀ sig, parseMethodDescriptor y.desc = some sig → np = sig.parameters.length := by
  intro sig hs
  have h2 := h.2.2.2
  rw [hs] at h2
  exact (Option.some.inj h2).symm
def osQc {α : Type} (rv : α → Option Value) (G : osG) (r : α) (z : osS) : State → Outcome → State → Prop := fun st o t => o = .returned (rv r) ∧ osR G z t ∧ va_F (osA G) st t
theorem osQc.next {p : Program} {l : Launch} {e : Env} {R : Room} {s : State} {m : MethodId} {args : Array Value} {below : List Frame} {meth : Method} {c : Code} {H : Heap} {locs : List Loc} {k n mc ms : Nat} {Q : State → Prop} {α : Type} {rv : α → Option Value} {G : osG} {r : α} {z : osS} {pc : Nat} {ls : Array Slot} {st st0 : List Value}
    (hr : va_Run p l e R s m args below meth c H locs k n mc ms (F0 m pc ls st0) st (osQc rv G r z) (osA G)) (hS : va_S (osA G) s.heap H locs)
    (kk : ∀ (H1 : Heap) (locs1 : List Loc), osMem G z H1 → va_S (osA G) s.heap H1 locs1 → W p l e R s m args below meth c H1 locs1 (k + mc) (n + ms) Q (F0 m (pc + 3) ls ((rv r).toList ++ st))) : W p l e R s m args below meth c H locs k n Q (F0 m pc ls st0) := by
  intro T hT X
  obtain ⟨v, st₀, t, T', L, h0, X', hL, e1, e2, ⟨hv, hR, hF⟩, stp⟩ := hr T hT X
  cases hv
  obtain ⟨hz, hk⟩ := hF
  rw [h0] at hz hk
  obtain ⟨t2, a1, b1⟩ := kk T'.heap (locs ++ L) (by rw [e1]; exact hR.2.2)
    ⟨Nat.le_trans hS.1 (by rw [e1]; exact hz), fun q h1 h2 => by rw [e1, hk q (Nat.lt_of_lt_of_le h1 hS.1) h2]; exact hS.2.1 q h1 h2, fun q hq => by
      rcases List.mem_append.mp hq with h | h
      · exact hS.2.2 q h
      · exact hL q h⟩ T' rfl X'
  exact ⟨t2, stp t2 a1, b1⟩
section R
variable {ρ : Type} {Fi : osF ρ} {y : MethodName} {cc : ByteArray} {nL : Nat} {ret : Option FieldType} {hh : List (Nat × Nat × Nat × Nat)} {R : Room} {k n k' n' : Nat} {pc pc' : Nat} {lv : List (Nat × Value)} {st : List Value} {F : osM ρ}
variable {α : Type} {rv : α → Option Value} {y' : MethodName} {cc' : ByteArray} {nL' : Nat} {ret' : Option FieldType} {fr lo mc ms np idx b : Nat} {As : List Value} {g : osM α} {f : α → osM ρ} {stk : List Value} {st' : α → List Value}
/-- which classes a receiver may have, and that they all take the method y' for x -/
def osSl (cis : List Nat) (x y' : MethodName) : Prop := ∀ ci ∈ cis, ∃ q : vw_C, vwCl[ci]? = some q ∧ Cond.selects q.1 x y' ∈ osX
theorem osOne {s : State} {w : Cond} {G : osG} (hV : osV G s) (h : w ∈ osX) : ∀ w' ∈ [w], ∀ (a' : Array Value) (U : State), s.WarmedH U.vm → w'.before a' U = true := fun w' hw a' U hW => by
  rw [List.mem_singleton.mp hw]
  exact osOt_at (List.mem_filter.mp h).2 hW (hV.1 w h)
theorem os_callV {cis : List Nat} (hsl : osSl cis y' y') (hd' : osMd y' cc' nL' ret' np) (h3 : Cond.methodLink y.cls idx y' ∈ osX) (h4 : Cond.instanceMethod y' ∈ osX) (hMt : osMet y' cc' nL' ret' fr lo mc ms rv (.ref b :: As) g) (hn : As.length = np) (hst : stk = As.reverse ++ .ref b :: st) (hsp : ∀ r, (rv r).toList ++ st = st' r) (hcat : (st.map fun v => v.category).sum ≤ 8) (hfr : fr + 1 ≤ R.frames) (hlo : 8 + (nL' + 11) + lo ≤ R.locals) (hk : k + mc = k') (hk2 : k' ≤ R.cells) (hn1 : n + ms = n') (hn2 : n' ≤ R.slots) (hd : osD cc pc 3 pc' (.invokevirtual idx)) (kk : ∀ r, osW Fi y cc nL ret hh R k' n' pc' lv (st' r) (f r)) : osW Fi y cc nL ret hh R k n pc lv stk (osbind (osrecv cis b g) f) := by
  intro p l e s m args below meth c B G z r z' hV hZ hF H locs ls hM hS hl
  obtain ⟨hx, hb, hml, hown, hr, hlk, htab, hst9, hnm⟩ := id B
  obtain ⟨v, z1, g0, g2⟩ := osbind_some hF
  obtain ⟨ci, fs, hz, hc, g1⟩ := osrecv_some g0
  obtain ⟨q9, hq9, hsel⟩ := hsl ci hc
  obtain ⟨hd, rfl⟩ := hd
  subst hk; subst hn1; subst hst
  have hts := hV.word (args := args)
  have hM0 := hMt l hst9 G z v z1 g1
  have cw : CallW R s args y.cls q9.1 idx y' cc' nL' ret' [.code y' cc' nL' ret'] { frames := fr, cells := mc, slots := ms, locals := lo } mc ms np :=
    ⟨⟨rfl, rfl, hfr, hlo, osOne hV hd'.1, List.mem_cons_self, hts _ hd'.1, hts _ hd'.2.1, hd'.2.2.1, hd'.len, hts _ h3⟩, hts _ h4, hts _ hsel⟩
  have hrc := va_recv (q0 := 0) hV.2.1 (va_P1 (show va_at G.1 vwCl (b, .inr (ci, fs)) H from hM.1 b _ hz)) hq9 rfl
  have hrun := va_runV (e := e) (below := below) (meth := meth) (H := H) (locs := locs) (cells := k) (slots := n) (rest := st) (g := F0 m pc ls (As.reverse ++ .ref b :: st)) ⟨hx, hb, hml, hown, hts⟩ hM0 cw ⟨osR.blind, hrc, fun U hU hW => ⟨rfl, osR.end hV hZ hM hS hU hW⟩⟩ rfl hn hl.1 rfl (lv_room hcat) hd ⟨hk2, hn2⟩
  refine osQc.next (rv := rv) (G := G) (r := v) (z := z1) hrun hS fun H1 locs1 hM1 hS1 => ?_
  rw [hsp v]
  exact kk v p l e s m args below meth c B G z1 r z' hV hZ g2 H1 locs1 ls hM1 hS1 hl
/-- .. a method that the receiver's class inherits -/
theorem os_callU {cis : List Nat} {x : MethodName} {owner : String} (hsl : osSl cis x y') (hd' : osMd y' cc' nL' ret' np) (hy : y' = ⟨owner, x.name, x.desc⟩) (h3 : Cond.methodLink y.cls idx x ∈ osX) (h5 : Cond.sameMethod x.cls owner x.name x.desc ∈ osX) (h4 : Cond.instanceMethod y' ∈ osX) (hMt : osMet y' cc' nL' ret' fr lo mc ms rv (.ref b :: As) g) (hn : As.length = np) (hst : stk = As.reverse ++ .ref b :: st) (hsp : ∀ r, (rv r).toList ++ st = st' r) (hcat : (st.map fun v => v.category).sum ≤ 8) (hfr : fr + 1 ≤ R.frames) (hlo : 8 + (nL' + 11) + lo ≤ R.locals) (hk : k + mc = k') (hk2 : k' ≤ R.cells) (hn1 : n + ms = n') (hn2 : n' ≤ R.slots) (hd : osD cc pc 3 pc' (.invokevirtual idx)) (kk : ∀ r, osW Fi y cc nL ret hh R k' n' pc' lv (st' r) (f r)) : osW Fi y cc nL ret hh R k n pc lv stk (osbind (osrecv cis b g) f) := by
  intro p l e s m args below meth c B G z r z' hV hZ hF H locs ls hM hS hl
  obtain ⟨hx, hb, hml, hown, hr, hlk, htab, hst9, hnm⟩ := id B
  obtain ⟨v, z1, g0, g2⟩ := osbind_some hF
  obtain ⟨ci, fs, hz, hc, g1⟩ := osrecv_some g0
  obtain ⟨q9, hq9, hsel⟩ := hsl ci hc
  obtain ⟨hd, rfl⟩ := hd
  subst hk; subst hn1; subst hst
  have hts := hV.word (args := args)
  have hM0 := hMt l hst9 G z v z1 g1
  have hyc : y'.cls = owner := by rw [hy]
  have hyd : y'.desc = x.desc := by rw [hy]
  have cw : va_CU R s args y.cls q9.1 owner idx x y' cc' nL' ret' [.code y' cc' nL' ret'] { frames := fr, cells := mc, slots := ms, locals := lo } mc ms np :=
    ⟨⟨rfl, rfl, hfr, hlo, osOne hV hd'.1, List.mem_cons_self⟩, hts _ hd'.1, hts _ hd'.2.1, by rw [← hyc]; exact hd'.2.2.1, by rw [← hyd]; exact hd'.len, hts _ h3, hts _ h5, by rw [← hy]; exact va_Decl.of (hts _ h4) (hts _ hd'.1), hts _ hsel, hts _ h4⟩
  have hrc := va_recv (q0 := 0) hV.2.1 (va_P1 (show va_at G.1 vwCl (b, .inr (ci, fs)) H from hM.1 b _ hz)) hq9 rfl
  have hrun := va_runU (e := e) (below := below) (meth := meth) (H := H) (locs := locs) (cells := k) (slots := n) (rest := st) (g := F0 m pc ls (As.reverse ++ .ref b :: st)) ⟨hx, hb, hml, hown, hts⟩ hM0 cw ⟨osR.blind, hrc, fun U hU hW => ⟨rfl, osR.end hV hZ hM hS hU hW⟩⟩ rfl hn hl.1 rfl (lv_room hcat) hd ⟨hk2, hn2⟩
  refine osQc.next (rv := rv) (G := G) (r := v) (z := z1) hrun hS fun H1 locs1 hM1 hS1 => ?_
  rw [hsp v]
  exact kk v p l e s m args below meth c B G z1 r z' hV hZ g2 H1 locs1 ls hM1 hS1 hl
/-- static methods -/
theorem os_callS (hd' : osMd y' cc' nL' ret' np) (h3 : Cond.methodLink y.cls idx y' ∈ osX) (h4 : Cond.static y' ∈ osX) (hMt : osMet y' cc' nL' ret' fr lo mc ms rv As g) (hn : As.length = np) (hst : stk = As.reverse ++ st) (hsp : ∀ r, (rv r).toList ++ st = st' r) (hcat : (st.map fun v => v.category).sum ≤ 8) (hfr : fr + 1 ≤ R.frames) (hlo : 8 + (nL' + 11) + lo ≤ R.locals) (hk : k + mc = k') (hk2 : k' ≤ R.cells) (hn1 : n + ms = n') (hn2 : n' ≤ R.slots) (hd : osD cc pc 3 pc' (.invokestatic idx)) (kk : ∀ r, osW Fi y cc nL ret hh R k' n' pc' lv (st' r) (f r)) : osW Fi y cc nL ret hh R k n pc lv stk (osbind g f) := by
  intro p l e s m args below meth c B G z r z' hV hZ hF H locs ls hM hS hl
  obtain ⟨hx, hb, hml, hown, hr, hlk, htab, hst9, hnm⟩ := id B
  obtain ⟨v, z1, g1, g2⟩ := osbind_some hF
  obtain ⟨hd, rfl⟩ := hd
  subst hk; subst hn1; subst hst
  have hts := hV.word (args := args)
  have hM0 := hMt l hst9 G z v z1 g1
  have cw : CallB R s args y.cls idx y' cc' nL' ret' [.code y' cc' nL' ret'] { frames := fr, cells := mc, slots := ms, locals := lo } mc ms np ∧ (Cond.static y').before args s = true :=
    ⟨⟨rfl, rfl, hfr, hlo, osOne hV hd'.1, List.mem_cons_self, hts _ hd'.1, hts _ hd'.2.1, hd'.2.2.1, hd'.len, hts _ h3⟩, hts _ h4⟩
  have hrun := va_runS (e := e) (below := below) (meth := meth) (H := H) (locs := locs) (cells := k) (slots := n) (rest := st) (g := F0 m pc ls (As.reverse ++ st)) ⟨hx, hb, hml, hown, hts⟩ hM0 cw ⟨osR.blind, fun U hU hW => ⟨rfl, osR.end hV hZ hM hS hU hW⟩⟩ rfl hn hl.1 rfl (lv_room hcat) hd ⟨hk2, hn2⟩
  refine osQc.next (rv := rv) (G := G) (r := v) (z := z1) hrun hS fun H1 locs1 hM1 hS1 => ?_
  rw [hsp v]
  exact kk v p l e s m args below meth c B G z1 r z' hV hZ g2 H1 locs1 ls hM1 hS1 hl
/-- .. private ones of a nest mate -/
theorem os_callSN {host : String} (hd' : osMd y' cc' nL' ret' np) (h3 : Cond.methodLinkNest y.cls idx y' host ∈ osX) (h4 : Cond.static y' ∈ osX) (hMt : osMet y' cc' nL' ret' fr lo mc ms rv As g) (hn : As.length = np) (hst : stk = As.reverse ++ st) (hsp : ∀ r, (rv r).toList ++ st = st' r) (hcat : (st.map fun v => v.category).sum ≤ 8) (hfr : fr + 1 ≤ R.frames) (hlo : 8 + (nL' + 11) + lo ≤ R.locals) (hk : k + mc = k') (hk2 : k' ≤ R.cells) (hn1 : n + ms = n') (hn2 : n' ≤ R.slots) (hd : osD cc pc 3 pc' (.invokestatic idx)) (kk : ∀ r, osW Fi y cc nL ret hh R k' n' pc' lv (st' r) (f r)) : osW Fi y cc nL ret hh R k n pc lv stk (osbind g f) := by
  intro p l e s m args below meth c B G z r z' hV hZ hF H locs ls hM hS hl
  obtain ⟨hx, hb, hml, hown, hr, hlk, htab, hst9, hnm⟩ := id B
  obtain ⟨v, z1, g1, g2⟩ := osbind_some hF
  obtain ⟨hd, rfl⟩ := hd
  subst hk; subst hn1; subst hst
  have hts := hV.word (args := args)
  have hM0 := hMt l hst9 G z v z1 g1
  have cw : va_CN R s args y.cls idx y' host cc' nL' ret' [.code y' cc' nL' ret'] { frames := fr, cells := mc, slots := ms, locals := lo } mc ms np ∧ (Cond.static y').before args s = true ∧ True :=
    ⟨⟨⟨rfl, rfl, hfr, hlo, osOne hV hd'.1, List.mem_cons_self⟩, hts _ hd'.1, hts _ hd'.2.1, hd'.2.2.1, hd'.len, hts _ h3⟩, hts _ h4, trivial⟩
  have hrun := va_runSN (e := e) (below := below) (meth := meth) (H := H) (locs := locs) (cells := k) (slots := n) (rest := st) (g := F0 m pc ls (As.reverse ++ st)) ⟨hx, hb, hml, hown, hts⟩ hM0 cw ⟨osR.blind, fun U hU hW => ⟨rfl, osR.end hV hZ hM hS hU hW⟩⟩ rfl hn hl.1 rfl (lv_room hcat) hd ⟨hk2, hn2⟩
  refine osQc.next (rv := rv) (G := G) (r := v) (z := z1) hrun hS fun H1 locs1 hM1 hS1 => ?_
  rw [hsp v]
  exact kk v p l e s m args below meth c B G z1 r z' hV hZ g2 H1 locs1 ls hM1 hS1 hl
/-- constructors -/
theorem os_callI (hd' : osMd y' cc' nL' none np) (hi : y'.name = "<init>") (h3 : Cond.methodLink y.cls idx y' ∈ osX) (h4 : Cond.instanceMethod y' ∈ osX) (hMt : osMet y' cc' nL' none fr lo mc ms rv (.ref b :: As) g) (hn : As.length = np) (hst : stk = As.reverse ++ .ref b :: st) (hsp : ∀ r, (rv r).toList ++ st = st' r) (hcat : (st.map fun v => v.category).sum ≤ 8) (hfr : fr + 1 ≤ R.frames) (hlo : 8 + (nL' + 11) + lo ≤ R.locals) (hk : k + mc = k') (hk2 : k' ≤ R.cells) (hn1 : n + ms = n') (hn2 : n' ≤ R.slots) (hd : osD cc pc 3 pc' (.invokespecial idx)) (kk : ∀ r, osW Fi y cc nL ret hh R k' n' pc' lv (st' r) (f r)) : osW Fi y cc nL ret hh R k n pc lv stk (osbind g f) := by
  intro p l e s m args below meth c B G z r z' hV hZ hF H locs ls hM hS hl
  obtain ⟨hx, hb, hml, hown, hr, hlk, htab, hst9, hnm⟩ := id B
  obtain ⟨v, z1, g1, g2⟩ := osbind_some hF
  obtain ⟨hd, rfl⟩ := hd
  subst hk; subst hn1; subst hst
  have hts := hV.word (args := args)
  have hM0 := hMt l hst9 G z v z1 g1
  have cw : CallB R s args y.cls idx y' cc' nL' none [.code y' cc' nL' none] { frames := fr, cells := mc, slots := ms, locals := lo } mc ms np ∧ y'.name = "<init>" ∧ (Cond.instanceMethod y').before args s = true :=
    ⟨⟨rfl, rfl, hfr, hlo, osOne hV hd'.1, List.mem_cons_self, hts _ hd'.1, hts _ hd'.2.1, hd'.2.2.1, hd'.len, hts _ h3⟩, hi, hts _ h4⟩
  have hrun := va_runI (e := e) (below := below) (meth := meth) (H := H) (locs := locs) (cells := k) (slots := n) (rest := st) (g := F0 m pc ls (As.reverse ++ .ref b :: st)) ⟨hx, hb, hml, hown, hts⟩ hM0 cw ⟨osR.blind, fun U hU hW => ⟨rfl, osR.end hV hZ hM hS hU hW⟩⟩ rfl hn hl.1 rfl (lv_room hcat) hd ⟨hk2, hn2⟩
  refine osQc.next (rv := rv) (G := G) (r := v) (z := z1) hrun hS fun H1 locs1 hM1 hS1 => ?_
  rw [hsp v]
  exact kk v p l e s m args below meth c B G z1 r z' hV hZ g2 H1 locs1 ls hM1 hS1 hl
theorem os_callIN {host : String} (hd' : osMd y' cc' nL' none np) (hi : y'.name = "<init>") (h3 : Cond.methodLinkNest y.cls idx y' host ∈ osX) (h4 : Cond.instanceMethod y' ∈ osX) (hMt : osMet y' cc' nL' none fr lo mc ms rv (.ref b :: As) g) (hn : As.length = np) (hst : stk = As.reverse ++ .ref b :: st) (hsp : ∀ r, (rv r).toList ++ st = st' r) (hcat : (st.map fun v => v.category).sum ≤ 8) (hfr : fr + 1 ≤ R.frames) (hlo : 8 + (nL' + 11) + lo ≤ R.locals) (hk : k + mc = k') (hk2 : k' ≤ R.cells) (hn1 : n + ms = n') (hn2 : n' ≤ R.slots) (hd : osD cc pc 3 pc' (.invokespecial idx)) (kk : ∀ r, osW Fi y cc nL ret hh R k' n' pc' lv (st' r) (f r)) : osW Fi y cc nL ret hh R k n pc lv stk (osbind g f) := by
  intro p l e s m args below meth c B G z r z' hV hZ hF H locs ls hM hS hl
  obtain ⟨hx, hb, hml, hown, hr, hlk, htab, hst9, hnm⟩ := id B
  obtain ⟨v, z1, g1, g2⟩ := osbind_some hF
  obtain ⟨hd, rfl⟩ := hd
  subst hk; subst hn1; subst hst
  have hts := hV.word (args := args)
  have hM0 := hMt l hst9 G z v z1 g1
  have cw : va_CN R s args y.cls idx y' host cc' nL' none [.code y' cc' nL' none] { frames := fr, cells := mc, slots := ms, locals := lo } mc ms np ∧ y'.name = "<init>" ∧ (Cond.instanceMethod y').before args s = true :=
    ⟨⟨⟨rfl, rfl, hfr, hlo, osOne hV hd'.1, List.mem_cons_self⟩, hts _ hd'.1, hts _ hd'.2.1, hd'.2.2.1, hd'.len, hts _ h3⟩, hi, hts _ h4⟩
  have hrun := va_runIN (e := e) (below := below) (meth := meth) (H := H) (locs := locs) (cells := k) (slots := n) (rest := st) (g := F0 m pc ls (As.reverse ++ .ref b :: st)) ⟨hx, hb, hml, hown, hts⟩ hM0 cw ⟨osR.blind, fun U hU hW => ⟨rfl, osR.end hV hZ hM hS hU hW⟩⟩ rfl hn hl.1 rfl (lv_room hcat) hd ⟨hk2, hn2⟩
  refine osQc.next (rv := rv) (G := G) (r := v) (z := z1) hrun hS fun H1 locs1 hM1 hS1 => ?_
  rw [hsp v]
  exact kk v p l e s m args below meth c B G z1 r z' hV hZ g2 H1 locs1 ls hM1 hS1 hl
/-- Object.<init> -/
theorem os_objInit (h1 : Cond.methodLink y.cls idx objectInit ∈ osX) (h2 : Cond.instanceMethod objectInit ∈ osX) (h3 : Cond.code objectInit ⟨#[0xb1]⟩ 1 none ∈ osX) (hcat : (st.map fun v => v.category).sum ≤ 8) (hfr : 1 ≤ R.frames) (hlo : 20 ≤ R.locals) (hd : osD cc pc 3 pc' (.invokespecial idx)) (kk : osW Fi y cc nL ret hh R k n pc' lv st F) : osW Fi y cc nL ret hh R k n pc lv (.ref b :: st) F := by
  intro p l e s m args below meth c B G z r z' hV hZ hF H locs ls hM hS hl
  obtain ⟨hx, hb, hml, hown, hr, hlk, htab, hst9, hnm⟩ := id B
  obtain ⟨hd, rfl⟩ := hd
  have hts := hV.word (args := args)
  refine W.objInit hx hb hown (hts _ h1) (hts _ h2) (hts _ h3) rfl (by rw [hml]; exact hl.1) rfl hd hfr (by show 2 * 0 + _ + 12 ≤ _; omega) ?_
  exact kk p l e s m args below meth c B G z r z' hV hZ hF H locs ls hM hS hl
end R
section E
variable {y : MethodName} {cc : ByteArray} {nL : Nat} {hh : List (Nat × Nat × Nat × Nat)} {R : Room} {k n mc ms : Nat} {pc : Nat} {lv : List (Nat × Value)}
theorem osEndF {G : osG} {z : osS} {s t : State} {H : Heap} {locs : List Loc} (hV : osV G s) (hZ : osZ G s s.heap) (hM : osMem G z H) (hS : va_S (osA G) s.heap H locs) (ht : t.heap = H) (hW : s.WarmedH t.vm) : osR G z t ∧ va_F (osA G) s t := ⟨osR.end hV hZ hM hS ht hW, hS.F ht⟩
theorem os_iret {v : Int32} (hk : k ≤ mc) (hn : n ≤ ms) (hd : decode cc pc = .ok (.ireturn, 1)) : osW (osFinM (fun r : Int32 => some (.int r)) mc ms) y cc nL (some .int) hh R k n pc lv [.int v] (osret v) := by
  intro p l e s m args below meth c B G z r z' hV hZ hF H locs ls hM hS hl
  obtain ⟨hx, hb, hml, hown, hr, hlk, htab, hst9, hnm⟩ := id B
  cases hF
  exact W.widen hk hn (W.iret hx hb hr (fun t ht hW => ⟨rfl, osEndF hV hZ hM hS ht hW⟩) hS.2.2 hd hlk)
def osretZ (v : Int32) : osM Int32 := fun _ z => if v = 0 ∨ v = 1 then some (v, z) else none
theorem os_zret {v : Int32} (hk : k ≤ mc) (hn : n ≤ ms) (hd : decode cc pc = .ok (.ireturn, 1)) : osW (osFinM (fun r : Int32 => some (.int r)) mc ms) y cc nL (some .boolean) hh R k n pc lv [.int v] (osretZ v) := by
  intro p l e s m args below meth c B G z r z' hV hZ hF H locs ls hM hS hl
  obtain ⟨hx, hb, hml, hown, hr, hlk, htab, hst9, hnm⟩ := id B
  have hv : v = 0 ∨ v = 1 := by
    by_cases h : v = 0 ∨ v = 1
    · exact h
    · unfold osretZ at hF; rw [if_neg h] at hF; cases hF
  unfold osretZ at hF
  rw [if_pos hv] at hF
  cases hF
  have hn9 : narrow .boolean (.int v) = .int v := by
    rcases hv with rfl | rfl <;> rfl
  exact W.widen hk hn (W.zret hx hb hr hn9 (fun t ht hW => ⟨rfl, osEndF hV hZ hM hS ht hW⟩) hS.2.2 hd hlk)
theorem os_lret {v : Int64} (hk : k ≤ mc) (hn : n ≤ ms) (hd : decode cc pc = .ok (.lreturn, 1)) : osW (osFinM (fun r : Int64 => some (.long r)) mc ms) y cc nL (some .long) hh R k n pc lv [.long v] (osret v) := by
  intro p l e s m args below meth c B G z r z' hV hZ hF H locs ls hM hS hl
  obtain ⟨hx, hb, hml, hown, hr, hlk, htab, hst9, hnm⟩ := id B
  cases hF
  exact W.widen hk hn (W.lret hx hb hr (fun t ht hW => ⟨rfl, osEndF hV hZ hM hS ht hW⟩) hS.2.2 hd hlk)
theorem os_fret {v : UInt32} (hk : k ≤ mc) (hn : n ≤ ms) (hd : decode cc pc = .ok (.freturn, 1)) : osW (osFinM (fun r : UInt32 => some (.float r)) mc ms) y cc nL (some .float) hh R k n pc lv [.float v] (osret v) := by
  intro p l e s m args below meth c B G z r z' hV hZ hF H locs ls hM hS hl
  obtain ⟨hx, hb, hml, hown, hr, hlk, htab, hst9, hnm⟩ := id B
  cases hF
  exact W.widen hk hn (W.fret hx hb hr (fun t ht hW => ⟨rfl, osEndF hV hZ hM hS ht hW⟩) hS.2.2 hd hlk)
theorem os_dret {v : UInt64} (hk : k ≤ mc) (hn : n ≤ ms) (hd : decode cc pc = .ok (.dreturn, 1)) : osW (osFinM (fun r : UInt64 => some (.double r)) mc ms) y cc nL (some .double) hh R k n pc lv [.double v] (osret v) := by
  intro p l e s m args below meth c B G z r z' hV hZ hF H locs ls hM hS hl
  obtain ⟨hx, hb, hml, hown, hr, hlk, htab, hst9, hnm⟩ := id B
  cases hF
  exact W.widen hk hn (W.dret hx hb hr (fun t ht hW => ⟨rfl, osEndF hV hZ hM hS ht hW⟩) hS.2.2 hd hlk)
theorem os_vret (hk : k ≤ mc) (hn : n ≤ ms) (hd : decode cc pc = .ok (.return_, 1)) : osW (osFinM (fun _ : Unit => none) mc ms) y cc nL none hh R k n pc lv [] (osret ()) := by
  intro p l e s m args below meth c B G z r z' hV hZ hF H locs ls hM hS hl
  obtain ⟨hx, hb, hml, hown, hr, hlk, htab, hst9, hnm⟩ := id B
  cases hF
  exact W.widen hk hn (W.vret hx hb hr (fun t ht hW => ⟨rfl, osEndF hV hZ hM hS ht hW⟩) hS.2.2 hd hlk)
end E
end
section
/-! loops, switches, numbers with points, array copies -/
def osloop {β ρ : Type} (b : (β → osM ρ) → β → osM ρ) (n : Nat) : β → osM ρ := Nat.rec (motive := fun _ => β → osM ρ) (fun _ => osno) (fun _ ih => b ih) n
theorem osloop_s {β ρ : Type} (b : (β → osM ρ) → β → osM ρ) (n : Nat) (p : β) : osloop b (n + 1) p = b (osloop b n) p := rfl
theorem osloop_0 {β ρ : Type} (b : (β → osM ρ) → β → osM ρ) (p : β) (G : osG) (z : osS) : osloop b 0 p G z = none := rfl
abbrev osn32 (r : UInt32) : Prop := r &&& 0x7fffffff ≤ 0x7f800000
abbrev osn64 (r : UInt64) : Prop := r &&& 0x7fffffffffffffff ≤ 0x7ff0000000000000
theorem osn32_ok {r : UInt32} (h : osn32 r) : vf_n32 r := h
theorem osn64_ok {r : UInt64} (h : osn64 r) : vf_n64 r := h
theorem osz_narrow {v : Int32} (h : v = 0 ∨ v = 1) : narrow .boolean (.int v) = .int v := by rcases h with rfl | rfl <;> rfl
theorem osz_fits {v : Int32} (h : v = 0 ∨ v = 1) : fits .boolean (.int v) = true := by rcases h with rfl | rfl <;> rfl
theorem osHd1 {ci kf : Nat} {q0 : vw_C} {C : String} (h : vwCl[ci]? = some q0) (h2 : (q0.2.1 kf).1 = C) : ∀ c ∈ [ci], ∀ q, vwCl[c]? = some q → (q.2.1 kf).1 = C := by
  intro c hc q hq
  rw [List.mem_singleton.mp hc, h] at hq
  cases hq
  exact h2
/-- a switch over x: the cases from lo on, and what is left -/
def osswitch {α : Type} (x : Int32) (lo : Int) (Fs : List (osM α)) (Fd : osM α) : osM α := fun G z => if lo ≤ x.toInt ∧ x.toInt < lo + Fs.length then (Fs.getD (x.toInt - lo).toNat osno) G z else Fd G z
/-- copies n places of an int array -/
def oscopy (a0 : Nat) (sp : Int32) (a : Nat) (dp n : Int32) : osM Unit := fun G z => match osga 0 a0 z, osga 0 a z with
  | some (n0, .inl f), some (n1, .inl g) => if ¬ sp < 0 ∧ ¬ dp < 0 ∧ ¬ n < 0 ∧ sp.toNatClampNeg + n.toNatClampNeg ≤ n0 ∧ dp.toNatClampNeg + n.toNatClampNeg ≤ n1 ∧ G.2.2.1 ≤ a then some ((), osup z a (.inl (0, (n1, .inl (va_cpy f g sp.toNatClampNeg dp.toNatClampNeg n.toNatClampNeg))))) else none
  | _, _ => none
theorem oscopy_some {a0 a : Nat} {sp dp n : Int32} {G : osG} {z z1 : osS} {u : Unit} (h : oscopy a0 sp a dp n G z = some (u, z1)) : ∃ n0 f n1 g, z.1 a0 = some (.inl (0, (n0, .inl f))) ∧ z.1 a = some (.inl (0, (n1, .inl g))) ∧ ¬ sp < 0 ∧ ¬ dp < 0 ∧ ¬ n < 0 ∧ sp.toNatClampNeg + n.toNatClampNeg ≤ n0 ∧ dp.toNatClampNeg + n.toNatClampNeg ≤ n1 ∧ osA G a ∧ z1 = osup z a (.inl (0, (n1, .inl (va_cpy f g sp.toNatClampNeg dp.toNatClampNeg n.toNatClampNeg)))) := by
  unfold oscopy at h
  cases h0 : osga 0 a0 z with
  | none => rw [h0] at h; cases h
  | some q0 =>
    cases h1 : osga 0 a z with
    | none => rw [h0, h1] at h; obtain ⟨n0, f | f | f | f | f⟩ := q0 <;> cases h
    | some q1 =>
      rw [h0, h1] at h
      obtain ⟨n0, f | f | f | f | f⟩ := q0 <;> obtain ⟨n1, g | g | g | g | g⟩ := q1 <;> first | cases h | skip
      replace h : (if ¬ sp < 0 ∧ ¬ dp < 0 ∧ ¬ n < 0 ∧ sp.toNatClampNeg + n.toNatClampNeg ≤ n0 ∧ dp.toNatClampNeg + n.toNatClampNeg ≤ n1 ∧ G.2.2.1 ≤ a then some ((), osup z a (.inl (0, (n1, .inl (va_cpy f g sp.toNatClampNeg dp.toNatClampNeg n.toNatClampNeg))))) else none) = some (u, z1) := h
      by_cases hc : ¬ sp < 0 ∧ ¬ dp < 0 ∧ ¬ n < 0 ∧ sp.toNatClampNeg + n.toNatClampNeg ≤ n0 ∧ dp.toNatClampNeg + n.toNatClampNeg ≤ n1 ∧ G.2.2.1 ≤ a
      · rw [if_pos hc] at h; cases h
        exact ⟨n0, f, n1, g, osga_some h0, osga_some h1, hc.1, hc.2.1, hc.2.2.1, hc.2.2.2.1, hc.2.2.2.2.1, hc.2.2.2.2.2, rfl⟩
      · rw [if_neg hc] at h; cases h
section R
variable {ρ : Type} {Fi : osF ρ} {y : MethodName} {cc : ByteArray} {nL : Nat} {ret : Option FieldType} {hh : List (Nat × Nat × Nat × Nat)} {R : Room} {k n : Nat} {pc pc' : Nat} {lv : List (Nat × Value)} {st : List Value} {F : osM ρ}
theorem osloop_W {β : Type} {b : (β → osM ρ) → β → osM ρ} {lvf : β → List (Nat × Value)} {stf : β → List Value} (h : ∀ ih : β → osM ρ, (∀ p, osW Fi y cc nL ret hh R k n pc (lvf p) (stf p) (ih p)) → ∀ p, osW Fi y cc nL ret hh R k n pc (lvf p) (stf p) (b ih p)) (N : Nat) (p : β) : osW Fi y cc nL ret hh R k n pc (lvf p) (stf p) (osloop b N p) := by
  revert p
  induction N with
  | zero => intro p p9 l e s m args below meth c B G z r z' hV hZ hF; cases hF
  | succ N ih => intro p; exact h (osloop b N) ih p
theorem os_fconst0 (hd : osD cc pc 1 pc' (.fconst 0)) (kk : osW Fi y cc nL ret hh R k n pc' lv (.float (0 : UInt32) :: st) F) : osW Fi y cc nL ret hh R k n pc lv st F := by
  intro p l e s m args below meth c B G z r z' hV hZ hF H locs ls hM hS hl
  obtain ⟨hx, hb, hml, hown, hr, hlk, htab, hst, hnm⟩ := id B
  obtain ⟨hd, rfl⟩ := hd
  refine lv_fconst0 hx hb hd ?_
  rw [show FP.fconst0 = (0 : UInt32) from by decide +kernel]
  exact kk p l e s m args below meth c B G z r z' hV hZ hF H locs ls hM hS hl
theorem os_fconst1 (hd : osD cc pc 1 pc' (.fconst 1)) (kk : osW Fi y cc nL ret hh R k n pc' lv (.float (1065353216 : UInt32) :: st) F) : osW Fi y cc nL ret hh R k n pc lv st F := by
  intro p l e s m args below meth c B G z r z' hV hZ hF H locs ls hM hS hl
  obtain ⟨hx, hb, hml, hown, hr, hlk, htab, hst, hnm⟩ := id B
  obtain ⟨hd, rfl⟩ := hd
  refine lv_fconst1 hx hb hd ?_
  rw [show FP.fconst1 = (1065353216 : UInt32) from by decide +kernel]
  exact kk p l e s m args below meth c B G z r z' hV hZ hF H locs ls hM hS hl
theorem os_fconst2 (hd : osD cc pc 1 pc' (.fconst 2)) (kk : osW Fi y cc nL ret hh R k n pc' lv (.float (1073741824 : UInt32) :: st) F) : osW Fi y cc nL ret hh R k n pc lv st F := by
  intro p l e s m args below meth c B G z r z' hV hZ hF H locs ls hM hS hl
  obtain ⟨hx, hb, hml, hown, hr, hlk, htab, hst, hnm⟩ := id B
  obtain ⟨hd, rfl⟩ := hd
  refine lv_fconst2 hx hb hd ?_
  rw [show FP.fconst2 = (1073741824 : UInt32) from by decide +kernel]
  exact kk p l e s m args below meth c B G z r z' hV hZ hF H locs ls hM hS hl
theorem os_dconst0 (hd : osD cc pc 1 pc' (.dconst 0)) (kk : osW Fi y cc nL ret hh R k n pc' lv (.double (0 : UInt64) :: st) F) : osW Fi y cc nL ret hh R k n pc lv st F := by
  intro p l e s m args below meth c B G z r z' hV hZ hF H locs ls hM hS hl
  obtain ⟨hx, hb, hml, hown, hr, hlk, htab, hst, hnm⟩ := id B
  obtain ⟨hd, rfl⟩ := hd
  refine lv_dconst0 hx hb hd ?_
  rw [show FP.dconst0 = (0 : UInt64) from by decide +kernel]
  exact kk p l e s m args below meth c B G z r z' hV hZ hF H locs ls hM hS hl
theorem os_dconst1 (hd : osD cc pc 1 pc' (.dconst 1)) (kk : osW Fi y cc nL ret hh R k n pc' lv (.double (4607182418800017408 : UInt64) :: st) F) : osW Fi y cc nL ret hh R k n pc lv st F := by
  intro p l e s m args below meth c B G z r z' hV hZ hF H locs ls hM hS hl
  obtain ⟨hx, hb, hml, hown, hr, hlk, htab, hst, hnm⟩ := id B
  obtain ⟨hd, rfl⟩ := hd
  refine lv_dconst1 hx hb hd ?_
  rw [show FP.dconst1 = (4607182418800017408 : UInt64) from by decide +kernel]
  exact kk p l e s m args below meth c B G z r z' hV hZ hF H locs ls hM hS hl
theorem os_ldcf {ix : Nat} {v : UInt32} (hw : Cond.constantFloat y.cls ix v ∈ osX) (hd : osD cc pc 2 pc' (.ldc ix)) (kk : osW Fi y cc nL ret hh R k n pc' lv (.float v :: st) F) : osW Fi y cc nL ret hh R k n pc lv st F := by
  intro p l e s m args below meth c B G z r z' hV hZ hF H locs ls hM hS hl
  obtain ⟨hx, hb, hml, hown, hr, hlk, htab, hst, hnm⟩ := id B
  obtain ⟨hd, rfl⟩ := hd
  exact lv_ldcf hx hb hown (hV.word _ hw) hd (kk p l e s m args below meth c B G z r z' hV hZ hF H locs ls hM hS hl)
theorem os_ldcwf {ix : Nat} {v : UInt32} (hw : Cond.constantFloat y.cls ix v ∈ osX) (hd : osD cc pc 3 pc' (.ldc_w ix)) (kk : osW Fi y cc nL ret hh R k n pc' lv (.float v :: st) F) : osW Fi y cc nL ret hh R k n pc lv st F := by
  intro p l e s m args below meth c B G z r z' hV hZ hF H locs ls hM hS hl
  obtain ⟨hx, hb, hml, hown, hr, hlk, htab, hst, hnm⟩ := id B
  obtain ⟨hd, rfl⟩ := hd
  have K := kk p l e s m args below meth c B G z r z' hV hZ hF H locs ls hM hS hl
  intro T hT X
  obtain ⟨t, a1, b1⟩ := K T hT X
  refine ⟨t, ?_, b1⟩
  obtain ⟨k9, cf, hk9, hcf, hcp⟩ := Cond.constantFloat_spec hown (hV.word (args := args) _ hw)
  obtain ⟨k', hk', he⟩ := X.warmed.alike.2.2 _ _ hk9
  have hd' : decode c.code pc = .ok (.ldc_w ix, 3) := by rw [hb]; exact hd
  jvm_step X.here [hx, hd', ldc_w.wp_float (s := T) (f := F0 m pc ls st) X.here.top hk' (by rw [he]; exact hcf) hcp]
  exact a1
/-- the cases of a switch, each with its target -/
def osSw (Fi : osF ρ) (y : MethodName) (cc : ByteArray) (nL : Nat) (ret : Option FieldType) (hh : List (Nat × Nat × Nat × Nat)) (R : Room) (k n pc : Nat) (lv : List (Nat × Value)) (st : List Value) : List Int → List (osM ρ) → Prop
  | [], [] => True
  | o :: os, F :: Fs => (∃ tgt : Nat, (pc : Int) + o = (tgt : Int) ∧ osW Fi y cc nL ret hh R k n tgt lv st F) ∧ osSw Fi y cc nL ret hh R k n pc lv st os Fs
  | _, _ => False
theorem osSw.at : ∀ {os : List Int} {Fs : List (osM ρ)}, osSw Fi y cc nL ret hh R k n pc lv st os Fs → os.length = Fs.length ∧ ∀ j, j < Fs.length → ∃ (o : Int) (tgt : Nat), os[j]? = some o ∧ (pc : Int) + o = (tgt : Int) ∧ osW Fi y cc nL ret hh R k n tgt lv st (Fs.getD j osno)
  | [], [], _ => ⟨rfl, fun j h => absurd h (Nat.not_lt_zero j)⟩
  | o :: os, F :: Fs, h => by
    obtain ⟨⟨tgt, h1, h2⟩, h3⟩ := h
    obtain ⟨e, k9⟩ := osSw.at h3
    refine ⟨by simp [e], fun j hj => ?_⟩
    cases j with
    | zero => exact ⟨o, tgt, rfl, h1, h2⟩
    | succ j =>
      obtain ⟨o', t', q1, q2, q3⟩ := k9 j (by simpa using hj)
      exact ⟨o', t', by simpa using q1, q2, by simpa using q3⟩
  | [], _ :: _, h => h.elim
  | _ :: _, [], h => h.elim
theorem os_tableswitch {dflt lo hi : Int} {offs : Array Int} {len tgt : Nat} {x : Int32} {Fs : List (osM ρ)} {Fd : osM ρ} (hhi : hi = lo + (offs.size : Int) - 1) (ht : (pc : Int) + dflt = (tgt : Int)) (hd : osD cc pc len pc' (.tableswitch dflt lo hi offs)) (hc : osSw Fi y cc nL ret hh R k n pc lv st offs.toList Fs) (kd : osW Fi y cc nL ret hh R k n tgt lv st Fd) : osW Fi y cc nL ret hh R k n pc lv (.int x :: st) (osswitch x lo Fs Fd) := by
  intro p l e s m args below meth c B G z r z' hV hZ hF H locs ls hM hS hl
  obtain ⟨hx, hb, hml, hown, hr, hlk, htab, hst, hnm⟩ := id B
  obtain ⟨hlen, hat⟩ := osSw.at hc
  have hsz : offs.size = Fs.length := by rw [← hlen]; simp
  unfold osswitch at hF
  by_cases hin : lo ≤ x.toInt ∧ x.toInt < lo + Fs.length
  · rw [if_pos hin] at hF
    obtain ⟨o, tg, q1, q2, q3⟩ := hat (x.toInt - lo).toNat (by omega)
    exact lv_tableIn hx hb hd.1 (by omega) (by omega) (by rw [← Array.getElem?_toList]; exact q1) q2 (q3 p l e s m args below meth c B G z r z' hV hZ hF H locs ls hM hS hl)
  · rw [if_neg hin] at hF
    exact lv_tableOut hx hb hd.1 (by omega) ht (kd p l e s m args below meth c B G z r z' hV hZ hF H locs ls hM hS hl)
theorem os_arraycopy {a0 a idx : Nat} {sp dp i : Int32} (hw1 : Cond.methodLink y.cls idx arraycopyName ∈ osX) (hw2 : Cond.native arraycopyName ∈ osX) (hw3 : Cond.static arraycopyName ∈ osX) (hw4 : Cond.initialized "java/lang/System" ∈ osX) (hcat : (st.map fun v => v.category).sum ≤ 8) (hfr : 1 ≤ R.frames) (hlo : 8 + (nativeFrameWords "java/lang/System" "arraycopy" 5 + 11) ≤ R.locals) (hd : osD cc pc 3 pc' (.invokestatic idx)) (kk : osW Fi y cc nL ret hh R k n pc' lv st F) : osW Fi y cc nL ret hh R k n pc lv (.int i :: .int dp :: .ref a :: .int sp :: .ref a0 :: st) (osbind (oscopy a0 sp a dp i) fun _ => F) := by
  intro p l e s m args below meth c B G z r z' hV hZ hF H locs ls hM hS hl
  obtain ⟨hx, hb, hml, hown, hr, hlk, htab, hst, hnm⟩ := id B
  obtain ⟨u, z1, g1, g2⟩ := osbind_some hF
  obtain ⟨n0, f, n1, g, hz0, hz1, h1, h2, h3, h4, h5, hA, rfl⟩ := oscopy_some g1
  obtain ⟨hd, rfl⟩ := hd
  have hts := hV.word (args := args)
  have nn : ∀ z : Int32, ¬ z < 0 → z.toInt = (z.toNatClampNeg : Int) := by
    intro z hz
    have hz0 : (0 : Int) ≤ z.toInt := by
      have := Int32.not_lt.mp hz
      simpa using Int32.le_iff_toInt_le.mp this
    show z.toInt = ((z.toInt.toNat : Nat) : Int)
    omega
  intro T hT X
  have hc0 : H[a0]? = some (vp_cell (G.2.1 0) (n0, .inl f)) := (hM.1 a0 _ hz0).1
  have hc1 : H[a]? = some (vp_cell (G.2.1 0) (n1, .inl g)) := (hM.1 a _ hz1).1
  have ht0 : (osTys G)[0]? = some (G.2.1 0, .int) := rfl
  obtain ⟨-, k0, hk0, cm0, hkk0⟩ := (hV.2.1.2 0 _ ht0).1 n0 (fun j => .int (f j))
  obtain ⟨vm', X', step⟩ := X.arraycopy hx hown (hts _ hw1) (hts _ hw2) (hts _ hw3) (hts _ hw4) (src := a0) (dst := a) (cs := vp_cell (G.2.1 0) (n0, .inl f)) (cd := vp_cell (G.2.1 0) (n1, .inl g)) (srcPos := sp) (destPos := dp) (n := i) (by rw [hT]; exact hc0) (by rw [hT]; exact hc1)
    (fun _ h => by cases h) (fun _ h => by cases h) (fun h => by cases h) (fun h => by cases h) hk0 hk0 hkk0 hkk0 (by rfl) h1 h2 h3
    (by rw [nn sp h1, nn i h3]; show ¬ _ > ((arrV (G.2.1 0) n0 (fun j => .int (f j))).slots.size : Int); rw [arrV_size]; omega)
    (by rw [nn dp h2, nn i h3]; show ¬ _ > ((arrV (G.2.1 0) n1 (fun j => .int (g j))).slots.size : Int); rw [arrV_size]; omega)
    (fun vm₁ _ i9 hi => by
      have e : (vp_cell (G.2.1 0) (n0, .inl f)).slots.getD (sp.toNatClampNeg + i9) .null = .int (f (sp.toNatClampNeg + i9)) := by
        show (arrV (G.2.1 0) n0 (fun j => .int (f j))).slots.getD _ _ = _
        rw [Array.getD_eq_getD_getElem?, arrV_read _ _ (by omega)]
        rfl
      refine ⟨?_, ?_⟩
      · rw [e]
        rfl
      · rw [e]
        exact trivial)
    (g := F0 m pc ls (.int i :: .int dp :: .ref a :: .int sp :: .ref a0 :: st)) rfl (by rw [hml]; exact hl.1) (rest := st) rfl (by rw [hb]; exact hd) hfr (by show 2 * 0 + _ + _ ≤ _; omega)
  have e1 : copied (vp_cell (G.2.1 0) (n0, .inl f)) (vp_cell (G.2.1 0) (n1, .inl g)) sp dp i = vp_cell (G.2.1 0) (n1, .inl (va_cpy f g sp.toNatClampNeg dp.toNatClampNeg i.toNatClampNeg)) := va_copied (fun z => .int z) (G.2.1 0) (G.2.1 0) f g h4
  rw [e1] at X' step
  have hlt : a < H.size := (Array.getElem?_eq_some_iff.mp hc1).1
  have hheap : ((T.setVm vm').setCell a (vp_cell (G.2.1 0) (n1, .inl (va_cpy f g sp.toNatClampNeg dp.toNatClampNeg i.toNatClampNeg)))).heap = H.setIfInBounds a (vp_cell (G.2.1 0) (n1, .inl (va_cpy f g sp.toNatClampNeg dp.toNatClampNeg i.toNatClampNeg))) := by rw [← hT]; rfl
  have oq : ∀ q : Nat, q ≠ a → (H.setIfInBounds a (vp_cell (G.2.1 0) (n1, .inl (va_cpy f g sp.toNatClampNeg dp.toNatClampNeg i.toNatClampNeg))))[q]? = H[q]? := fun q hq => by simp [Array.getElem?_setIfInBounds, Ne.symm hq]
  have hat1 : osAt G a (.inl (0, (n1, .inl (va_cpy f g sp.toNatClampNeg dp.toNatClampNeg i.toNatClampNeg)))) (H.setIfInBounds a (vp_cell (G.2.1 0) (n1, .inl (va_cpy f g sp.toNatClampNeg dp.toNatClampNeg i.toNatClampNeg)))) := ⟨by simp [Array.getElem?_setIfInBounds, hlt], (hM.1 a _ hz1).2⟩
  obtain ⟨t, a1, b1⟩ := kk p l e s m args below meth c B G _ r z' hV hZ g2 _ _ ls (hM.up (by simp) oq hat1) ⟨by simp; exact hS.1, fun q g1 g2 => by
      rw [oq q (fun e => g2 (by rw [e]; exact hA))]
      exact hS.2.1 q g1 g2, fun q hq => by
      rcases List.mem_append.mp hq with h | h
      · exact hS.2.2 q h
      · obtain ⟨z, -, hz⟩ := List.mem_map.mp h
        rw [← hz]
        exact hA⟩ hl _ hheap X'
  exact ⟨t, step t a1, b1⟩
def osmax (x w : Int32) : Int32 := if x < w then w else x
def osmin (x w : Int32) : Int32 := if w < x then w else x
theorem os_max {x w : Int32} {idx : Nat} (h1 : Cond.methodLink y.cls idx Lib.Math.max.name ∈ osX) (h2 : Cond.static Lib.Math.max.name ∈ osX) (h3 : Cond.initialized "java/lang/Math" ∈ osX) (h4 : Cond.code Lib.Math.max.name Lib.Math.max.code 2 (some .int) ∈ osX) (hcat : (st.map fun v => v.category).sum ≤ 8) (hfr : 1 ≤ R.frames) (hlo : 21 ≤ R.locals) (hk : k ≤ R.cells) (hn : n ≤ R.slots) (hd : osD cc pc 3 pc' (.invokestatic idx)) (kk : osW Fi y cc nL ret hh R k n pc' lv (.int (osmax x w) :: st) F) : osW Fi y cc nL ret hh R k n pc lv (.int w :: .int x :: st) F := by
  intro p l e s m args below meth c B G z r z' hV hZ hF H locs ls hM hS hl
  obtain ⟨hx, hb, hml, hown, hr, hlk, htab, hst, hnm⟩ := id B
  obtain ⟨hd, rfl⟩ := hd
  have hts := hV.word (args := args)
  exact va_mmax hx hb (hml.trans hl.1.symm) hown (hts _ h1) (hts _ h2) (hts _ h3) (hts _ h4) hfr (by omega) hk hn hd (kk p l e s m args below meth c B G z r z' hV hZ hF H locs ls hM hS hl)
theorem os_min {x w : Int32} {idx : Nat} (h1 : Cond.methodLink y.cls idx Lib.Math.min.name ∈ osX) (h2 : Cond.static Lib.Math.min.name ∈ osX) (h3 : Cond.initialized "java/lang/Math" ∈ osX) (h4 : Cond.code Lib.Math.min.name Lib.Math.min.code 2 (some .int) ∈ osX) (hcat : (st.map fun v => v.category).sum ≤ 8) (hfr : 1 ≤ R.frames) (hlo : 21 ≤ R.locals) (hk : k ≤ R.cells) (hn : n ≤ R.slots) (hd : osD cc pc 3 pc' (.invokestatic idx)) (kk : osW Fi y cc nL ret hh R k n pc' lv (.int (osmin x w) :: st) F) : osW Fi y cc nL ret hh R k n pc lv (.int w :: .int x :: st) F := by
  intro p l e s m args below meth c B G z r z' hV hZ hF H locs ls hM hS hl
  obtain ⟨hx, hb, hml, hown, hr, hlk, htab, hst, hnm⟩ := id B
  obtain ⟨hd, rfl⟩ := hd
  have hts := hV.word (args := args)
  exact va_mmin hx hb (hml.trans hl.1.symm) hown (hts _ h1) (hts _ h2) (hts _ h3) (hts _ h4) hfr (by omega) hk hn hd (kk p l e s m args below meth c B G z r z' hV hZ hF H locs ls hM hS hl)
theorem os_nameI {x : Int32} {f : Int32 → osM ρ} (kk : ∀ v, osW Fi y cc nL ret hh R k n pc lv (.int v :: st) (f v)) : osW Fi y cc nL ret hh R k n pc lv (.int x :: st) (osbind (osret x) f) := kk x
theorem os_nameJ {x : Int64} {f : Int64 → osM ρ} (kk : ∀ v, osW Fi y cc nL ret hh R k n pc lv (.long v :: st) (f v)) : osW Fi y cc nL ret hh R k n pc lv (.long x :: st) (osbind (osret x) f) := kk x
theorem os_nameF {x : UInt32} {f : UInt32 → osM ρ} (kk : ∀ v, osW Fi y cc nL ret hh R k n pc lv (.float v :: st) (f v)) : osW Fi y cc nL ret hh R k n pc lv (.float x :: st) (osbind (osret x) f) := kk x
theorem os_nameD {x : UInt64} {f : UInt64 → osM ρ} (kk : ∀ v, osW Fi y cc nL ret hh R k n pc lv (.double v :: st) (f v)) : osW Fi y cc nL ret hh R k n pc lv (.double x :: st) (osbind (osret x) f) := kk x
end R
end
section
/-! constant arrays and texts -/
def oswlen (a : Nat) : osM Int32 := fun G z => if a = G.2.2.2.1 15 then some (15, z) else none
def oswld (a : Nat) (i : Int32) : osM Nat := fun G z => if a = G.2.2.2.1 15 ∧ osin i 15 then some (G.2.2.2.1 i.toNatClampNeg, z) else none
def osfind (G : osG) (k a : Nat) : Option Nat := (List.range 17).find? (fun j => G.2.2.2.2 (k + j) == a)
theorem osfind_some {G : osG} {k a j : Nat} (h : osfind G k a = some j) : j < 17 ∧ G.2.2.2.2 (k + j) = a := by
  unfold osfind at h
  have h1 := List.mem_of_find?_eq_some h
  have h2 := List.find?_some h
  exact ⟨List.mem_range.mp h1, beq_iff_eq.mp h2⟩
theorem osTs_at {j : Nat} (h : j < 17) : osTs[j]? = some (osTs.getD j []) := by
  match j, h with
  | 0, _ => rfl
  | 1, _ => rfl
  | 2, _ => rfl
  | 3, _ => rfl
  | 4, _ => rfl
  | 5, _ => rfl
  | 6, _ => rfl
  | 7, _ => rfl
  | 8, _ => rfl
  | 9, _ => rfl
  | 10, _ => rfl
  | 11, _ => rfl
  | 12, _ => rfl
  | 13, _ => rfl
  | 14, _ => rfl
  | 15, _ => rfl
  | 16, _ => rfl
  | n + 17, h => omega
def ossval (a : Nat) : osM Nat := fun G z => match osfind G 0 a with
  | some j => some (G.2.2.2.2 (100 + j), z)
  | none => osgR [8] 0 a G z
def osscod (a : Nat) : osM Int32 := fun G z => match osfind G 0 a with
  | some _ => some (0, z)
  | none => osgI [8] 1 a G z
def osblen (a : Nat) : osM Int32 := fun G z => match osfind G 100 a with
  | some j => some (Int32.ofNat (osTs.getD j []).length, z)
  | none => oslen a G z
def osbld (a : Nat) (i : Int32) : osM Int32 := fun G z => match osfind G 100 a with
  | some j => if osin i (osTs.getD j []).length then some ((osTs.getD j []).getD i.toNatClampNeg 0, z) else none
  | none => osaI 1 a i G z
def ostext (j : Nat) : osM Nat := fun G z => some (G.2.2.2.2 j, z)
def osonstr {α : Type} (a : Nat) (g : osM α) : osM α := fun G z => match osfind G 0 a with
  | some _ => g G z
  | none => osrecv [8] a g G z
theorem osfind_cs {α : Type} {G : osG} {k a : Nat} {f : Nat → Option α} {e : Option α} {r : α} (h : (match osfind G k a with | some j => f j | none => e) = some r) : (∃ j, j < 17 ∧ G.2.2.2.2 (k + j) = a ∧ f j = some r) ∨ e = some r := by
  cases hq : osfind G k a with
  | none => rw [hq] at h; exact Or.inr h
  | some j =>
    rw [hq] at h
    obtain ⟨h1, h2⟩ := osfind_some hq
    exact Or.inl ⟨j, h1, h2, h⟩
def osretB (v : Int32) : osM Int32 := fun _ z => if v.toInt8.toInt32 = v then some (v, z) else none
def osretC (v : Int32) : osM Int32 := fun _ z => if v.toUInt32.toUInt16.toUInt32.toInt32 = v then some (v, z) else none
section R
variable {ρ : Type} {Fi : osF ρ} {y : MethodName} {cc : ByteArray} {nL : Nat} {ret : Option FieldType} {hh : List (Nat × Nat × Nat × Nat)} {R : Room} {k n k' n' : Nat} {pc pc' : Nat} {lv : List (Nat × Value)} {st : List Value} {F : osM ρ}
theorem os_wlen {a : Nat} {f : Int32 → osM ρ} (hd : osD cc pc 1 pc' .arraylength) (kk : ∀ v, osW Fi y cc nL ret hh R k n pc' lv (.int v :: st) (f v)) : osW Fi y cc nL ret hh R k n pc lv (.ref a :: st) (osbind (oswlen a) f) := by
  intro p l e s m args below meth c B G z r z' hV hZ hF H locs ls hM hS hl
  obtain ⟨hx, hb, hml, hown, hr, hlk, htab, hst, hnm⟩ := id B
  obtain ⟨v, z1, g1, g2⟩ := osbind_some hF
  obtain ⟨hd, rfl⟩ := hd
  unfold oswlen at g1
  by_cases hc : a = G.2.2.2.1 15
  · rw [if_pos hc] at g1
    cases g1
    subst hc
    exact va_tlen hx hb hZ.2.2.2.2.2.1 hS (v := 15) rfl hd (kk 15 p l e s m args below meth c B G z r z' hV hZ g2 H locs ls hM hS hl)
  · rw [if_neg hc] at g1; cases g1
theorem os_wld {a : Nat} {i : Int32} {f : Nat → osM ρ} (hd : osD cc pc 1 pc' .aaload) (kk : ∀ v, osW Fi y cc nL ret hh R k n pc' lv (.ref v :: st) (f v)) : osW Fi y cc nL ret hh R k n pc lv (.int i :: .ref a :: st) (osbind (oswld a i) f) := by
  intro p l e s m args below meth c B G z r z' hV hZ hF H locs ls hM hS hl
  obtain ⟨hx, hb, hml, hown, hr, hlk, htab, hst, hnm⟩ := id B
  obtain ⟨v, z1, g1, g2⟩ := osbind_some hF
  obtain ⟨hd, rfl⟩ := hd
  unfold oswld at g1
  by_cases hc : a = G.2.2.2.1 15 ∧ osin i 15
  · rw [if_pos hc] at g1
    cases g1
    obtain ⟨rfl, hin⟩ := hc
    exact vb_tq hx hb hZ.2.2.2.2.2.1 hS hin rfl hd (kk _ p l e s m args below meth c B G z r z' hV hZ g2 H locs ls hM hS hl)
  · rw [if_neg hc] at g1; cases g1
theorem os_sval {a idx : Nat} {f : Nat → osM ρ} (hw : Cond.fieldLink y.cls idx "java/lang/String" "value" "[B" ∈ osX) (hf : osFd y.cls idx [8] 0 (.array .byte) true) (hd : osD cc pc 3 pc' (.getfield idx)) (kk : ∀ v, osW Fi y cc nL ret hh R k n pc' lv (.ref v :: st) (f v)) : osW Fi y cc nL ret hh R k n pc lv (.ref a :: st) (osbind (ossval a) f) := by
  intro p l e s m args below meth c B G z r z' hV hZ hF H locs ls hM hS hl
  obtain ⟨hx, hb, hml, hown, hr, hlk, htab, hst, hnm⟩ := id B
  obtain ⟨v, z1, g1, g2⟩ := osbind_some hF
  rcases osfind_cs g1 with ⟨j, hj, hja, g3⟩ | g3
  · obtain ⟨hd, rfl⟩ := hd
    cases g3
    rw [Nat.zero_add] at hja
    subst hja
    exact vk_getf hx hb (hZ.2.2.2.2.2.2.1 j _ (osTs_at hj)).2.2.1 hS hown (hV.word _ hw) (fun _ h => h) hd (kk _ p l e s m args below meth c B G z r z' hV hZ g2 H locs ls hM hS hl)
  · obtain ⟨h3, rfl⟩ := osgR_some g3
    exact os_getV hf hd z1 h3 B hV hM (kk v p l e s m args below meth c B G z1 r z' hV hZ g2 H locs ls hM hS hl)
theorem os_scod {a idx : Nat} {f : Int32 → osM ρ} (hw : Cond.fieldLink y.cls idx "java/lang/String" "coder" "B" ∈ osX) (hf : osFd y.cls idx [8] 1 .byte true) (hd : osD cc pc 3 pc' (.getfield idx)) (kk : ∀ v, osW Fi y cc nL ret hh R k n pc' lv (.int v :: st) (f v)) : osW Fi y cc nL ret hh R k n pc lv (.ref a :: st) (osbind (osscod a) f) := by
  intro p l e s m args below meth c B G z r z' hV hZ hF H locs ls hM hS hl
  obtain ⟨hx, hb, hml, hown, hr, hlk, htab, hst, hnm⟩ := id B
  obtain ⟨v, z1, g1, g2⟩ := osbind_some hF
  rcases osfind_cs g1 with ⟨j, hj, hja, g3⟩ | g3
  · obtain ⟨hd, rfl⟩ := hd
    cases g3
    rw [Nat.zero_add] at hja
    subst hja
    exact vk_getf hx hb (hZ.2.2.2.2.2.2.1 j _ (osTs_at hj)).2.1 hS hown (hV.word _ hw) (fun _ h => h) hd (kk _ p l e s m args below meth c B G z r z' hV hZ g2 H locs ls hM hS hl)
  · obtain ⟨h3, rfl⟩ := osgI_some g3
    exact os_getV hf hd z1 h3 B hV hM (kk v p l e s m args below meth c B G z1 r z' hV hZ g2 H locs ls hM hS hl)
theorem os_blen {a : Nat} {f : Int32 → osM ρ} (hd : osD cc pc 1 pc' .arraylength) (kk : ∀ v, osW Fi y cc nL ret hh R k n pc' lv (.int v :: st) (f v)) : osW Fi y cc nL ret hh R k n pc lv (.ref a :: st) (osbind (osblen a) f) := by
  intro p l e s m args below meth c B G z r z' hV hZ hF H locs ls hM hS hl
  obtain ⟨v, z1, g1, g2⟩ := osbind_some hF
  rcases osfind_cs g1 with ⟨j, hj, hja, g3⟩ | g3
  · obtain ⟨hx, hb, hml, hown, hr, hlk, htab, hst, hnm⟩ := id B
    obtain ⟨hd, rfl⟩ := hd
    cases g3
    subst hja
    exact va_tlen hx hb (hZ.2.2.2.2.2.2.1 j _ (osTs_at hj)).2.2.2 hS rfl hd (kk _ p l e s m args below meth c B G z r z' hV hZ g2 H locs ls hM hS hl)
  · exact os_arraylength hd kk p l e s m args below meth c B G z r z' hV hZ (show osbind (oslen a) f G z = _ by unfold osbind; rw [g3]; exact g2) H locs ls hM hS hl
theorem os_bld {a : Nat} {i : Int32} {f : Int32 → osM ρ} (hd : osD cc pc 1 pc' .baload) (kk : ∀ v, osW Fi y cc nL ret hh R k n pc' lv (.int v :: st) (f v)) : osW Fi y cc nL ret hh R k n pc lv (.int i :: .ref a :: st) (osbind (osbld a i) f) := by
  intro p l e s m args below meth c B G z r z' hV hZ hF H locs ls hM hS hl
  obtain ⟨v, z1, g1, g2⟩ := osbind_some hF
  rcases osfind_cs g1 with ⟨j, hj, hja, g3⟩ | g3
  · obtain ⟨hx, hb, hml, hown, hr, hlk, htab, hst, hnm⟩ := id B
    obtain ⟨hd, rfl⟩ := hd
    by_cases hin : osin i (osTs.getD j []).length
    · rw [if_pos hin] at g3
      cases g3
      subst hja
      exact va_tb hx hb (hZ.2.2.2.2.2.2.1 j _ (osTs_at hj)).2.2.2 hS hin rfl hd (kk _ p l e s m args below meth c B G z r z' hV hZ g2 H locs ls hM hS hl)
    · rw [if_neg hin] at g3
      cases g3
  · exact os_baload hd kk p l e s m args below meth c B G z r z' hV hZ (show osbind (osaI 1 a i) f G z = _ by unfold osbind; rw [g3]; exact g2) H locs ls hM hS hl
theorem os_compact {idx : Nat} (hw : Cond.fieldLink y.cls idx "java/lang/String" "COMPACT_STRINGS" "Z" ∈ osX) (hd : osD cc pc 3 pc' (.getstatic idx)) (kk : osW Fi y cc nL ret hh R k n pc' lv (.int (1 : Int32) :: st) F) : osW Fi y cc nL ret hh R k n pc lv st F := by
  intro p l e s m args below meth c B G z r z' hV hZ hF H locs ls hM hS hl
  obtain ⟨hx, hb, hml, hown, hr, hlk, htab, hst, hnm⟩ := id B
  obtain ⟨hd, rfl⟩ := hd
  exact va_gets hx hb hZ.2.2.2.2.2.2.2.1 hS hown (hV.word _ hw) (fun x hx => hx) hd (kk p l e s m args below meth c B G z r z' hV hZ hF H locs ls hM hS hl)
theorem os_sioobe {idx : Nat} (hw : Cond.fieldLink y.cls idx "jdk/internal/util/Preconditions" "SIOOBE_FORMATTER" "Ljava/util/function/BiFunction;" ∈ osX) (hd : osD cc pc 3 pc' (.getstatic idx)) (kk : ∀ v : Value, (v = .null ∨ ∃ t : Nat, v = .ref t) → osW Fi y cc nL ret hh R k n pc' lv (v :: st) F) : osW Fi y cc nL ret hh R k n pc lv st F := by
  intro p l e s m args below meth c B G z r z' hV hZ hF H locs ls hM hS hl
  obtain ⟨hx, hb, hml, hown, hr, hlk, htab, hst, hnm⟩ := id B
  obtain ⟨hd, rfl⟩ := hd
  rcases hZ.2.2.2.2.2.2.2.2.1 with hq | ⟨t, hq⟩
  · exact va_gets hx hb hq hS hown (hV.word _ hw) (fun x hx => hx) hd (kk .null (Or.inl rfl) p l e s m args below meth c B G z r z' hV hZ hF H locs ls hM hS hl)
  · exact va_gets hx hb hq hS hown (hV.word _ hw) (fun x hx => hx) hd (kk (.ref t) (Or.inr ⟨t, rfl⟩) p l e s m args below meth c B G z r z' hV hZ hF H locs ls hM hS hl)
theorem os_text {j : Nat} {q : String × Nat × String} {f : Nat → osM ρ} (hj : osTx[j]? = some q) (hy : y.cls = q.1) (hd : osD cc pc 2 pc' (.ldc q.2.1)) (kk : ∀ v, osW Fi y cc nL ret hh R k n pc' lv (.ref v :: st) (f v)) : osW Fi y cc nL ret hh R k n pc lv st (osbind (ostext j) f) := by
  intro p l e s m args below meth c B G z r z' hV hZ hF H locs ls hM hS hl
  obtain ⟨hx, hb, hml, hown, hr, hlk, htab, hst, hnm⟩ := id B
  obtain ⟨v, z1, g1, g2⟩ := osbind_some hF
  cases g1
  obtain ⟨hd, rfl⟩ := hd
  have hR := hV.2.2 j q hj
  rw [hy] at hown
  intro T hT X
  obtain ⟨t, a1, b1⟩ := kk _ p l e s m args below meth c B G z r z' hV hZ g2 H locs ls hM hS hl T hT X
  exact ⟨t, X.ldcString hx hown hR.1 hR.2 (g := F0 m pc ls st) rfl (by rw [hb]; exact hd) t a1, b1⟩
theorem os_i2c {x : Int32} (hd : osD cc pc 1 pc' .i2c) (kk : osW Fi y cc nL ret hh R k n pc' lv (.int ((x.toUInt32 % 65536).toInt32) :: st) F) : osW Fi y cc nL ret hh R k n pc lv (.int x :: st) F := by
  intro p l e s m args below meth c B G z r z' hV hZ hF H locs ls hM hS hl
  obtain ⟨hx, hb, hml, hown, hr, hlk, htab, hst, hnm⟩ := id B
  obtain ⟨hd, rfl⟩ := hd
  exact lv_i2c hx hb hd rfl (kk p l e s m args below meth c B G z r z' hV hZ hF H locs ls hM hS hl)
theorem os_no {F : osM ρ} (h : F = osno) : osW Fi y cc nL ret hh R k n pc lv st F := by
  intro p l e s m args below meth c B G z r z' hV hZ hF
  rw [h] at hF
  cases hF
end R
section S
variable {ρ : Type} {Fi : osF ρ} {y : MethodName} {cc : ByteArray} {nL : Nat} {ret : Option FieldType} {hh : List (Nat × Nat × Nat × Nat)} {R : Room} {k n k' n' : Nat} {pc pc' : Nat} {lv : List (Nat × Value)} {st : List Value} {F : osM ρ}
variable {α : Type} {rv : α → Option Value} {y' : MethodName} {cc' : ByteArray} {nL' : Nat} {ret' : Option FieldType} {fr lo mc ms np idx b : Nat} {As : List Value} {g : osM α} {f : α → osM ρ} {stk : List Value} {st' : α → List Value}
/-- a method of a text -/
theorem os_callStr (hsl : Cond.selects "java/lang/String" y' y' ∈ osX) (hd' : osMd y' cc' nL' ret' np) (h3 : Cond.methodLink y.cls idx y' ∈ osX) (h4 : Cond.instanceMethod y' ∈ osX) (hMt : osMet y' cc' nL' ret' fr lo mc ms rv (.ref b :: As) g) (hn : As.length = np) (hst : stk = As.reverse ++ .ref b :: st) (hsp : ∀ r, (rv r).toList ++ st = st' r) (hcat : (st.map fun v => v.category).sum ≤ 8) (hfr : fr + 1 ≤ R.frames) (hlo : 8 + (nL' + 11) + lo ≤ R.locals) (hk : k + mc = k') (hk2 : k' ≤ R.cells) (hn1 : n + ms = n') (hn2 : n' ≤ R.slots) (hd : osD cc pc 3 pc' (.invokevirtual idx)) (kk : ∀ r, osW Fi y cc nL ret hh R k' n' pc' lv (st' r) (f r)) : osW Fi y cc nL ret hh R k n pc lv stk (osbind (osonstr b g) f) := by
  intro p l e s m args below meth c B G z r z' hV hZ hF H locs ls hM hS hl
  obtain ⟨hx, hb, hml, hown, hr, hlk, htab, hst9, hnm⟩ := id B
  obtain ⟨v, z1, g0, g2⟩ := osbind_some hF
  obtain ⟨hd, rfl⟩ := hd
  subst hk; subst hn1; subst hst
  have hts := hV.word (args := args)
  obtain ⟨g1, hrc⟩ : g G z = some (v, z1) ∧ ∃ cell : Cell, H[b]? = some cell ∧ cell.vm.isStatics = false ∧ s.vm.findClass "java/lang/String" = some cell.cls := by
    rcases osfind_cs g0 with ⟨j, hj, hja, g1⟩ | g1
    · rw [Nat.zero_add] at hja
      obtain ⟨cell, h1, h2, h5, -⟩ := (hZ.2.2.2.2.2.2.1 j _ (osTs_at hj)).1.kept hS.2.1
      subst hja
      exact ⟨g1, cell, h1, h2, h5⟩
    · obtain ⟨ci, fs, hz, hc, g2⟩ := osrecv_some g1
      cases List.mem_singleton.mp hc
      exact ⟨g2, va_recv (q0 := 0) hV.2.1 (va_P1 (show va_at G.1 vwCl (b, .inr (8, fs)) H from hM.1 b _ hz)) (show vwCl[8]? = some (RJ0, TJ0, 4) from rfl) rfl⟩
  have hM0 := hMt l hst9 G z v z1 g1
  have cw : CallW R s args y.cls "java/lang/String" idx y' cc' nL' ret' [.code y' cc' nL' ret'] { frames := fr, cells := mc, slots := ms, locals := lo } mc ms np :=
    ⟨⟨rfl, rfl, hfr, hlo, osOne hV hd'.1, List.mem_cons_self, hts _ hd'.1, hts _ hd'.2.1, hd'.2.2.1, hd'.len, hts _ h3⟩, hts _ h4, hts _ hsl⟩
  have hrun := va_runV (e := e) (below := below) (meth := meth) (H := H) (locs := locs) (cells := k) (slots := n) (rest := st) (g := F0 m pc ls (As.reverse ++ .ref b :: st)) ⟨hx, hb, hml, hown, hts⟩ hM0 cw ⟨osR.blind, hrc, fun U hU hW => ⟨rfl, osR.end hV hZ hM hS hU hW⟩⟩ rfl hn hl.1 rfl (lv_room hcat) hd ⟨hk2, hn2⟩
  refine osQc.next (rv := rv) (G := G) (r := v) (z := z1) hrun hS fun H1 locs1 hM1 hS1 => ?_
  rw [hsp v]
  exact kk v p l e s m args below meth c B G z1 r z' hV hZ g2 H1 locs1 ls hM1 hS1 hl
end S
section E
variable {y : MethodName} {cc : ByteArray} {nL : Nat} {hh : List (Nat × Nat × Nat × Nat)} {R : Room} {k n mc ms : Nat} {pc : Nat} {lv : List (Nat × Value)}
theorem os_bret {v : Int32} (hk : k ≤ mc) (hn : n ≤ ms) (hd : decode cc pc = .ok (.ireturn, 1)) : osW (osFinM (fun r : Int32 => some (.int r)) mc ms) y cc nL (some .byte) hh R k n pc lv [.int v] (osretB v) := by
  intro p l e s m args below meth c B G z r z' hV hZ hF H locs ls hM hS hl
  obtain ⟨hx, hb, hml, hown, hr, hlk, htab, hst9, hnm⟩ := id B
  unfold osretB at hF
  by_cases hv : v.toInt8.toInt32 = v
  · rw [if_pos hv] at hF
    cases hF
    exact W.widen hk hn (W.zret hx hb hr (show Value.int v.toInt8.toInt32 = .int v by rw [hv]) (fun t ht hW => ⟨rfl, osEndF hV hZ hM hS ht hW⟩) hS.2.2 hd hlk)
  · rw [if_neg hv] at hF; cases hF
theorem os_cret {v : Int32} (hk : k ≤ mc) (hn : n ≤ ms) (hd : decode cc pc = .ok (.ireturn, 1)) : osW (osFinM (fun r : Int32 => some (.int r)) mc ms) y cc nL (some .char) hh R k n pc lv [.int v] (osretC v) := by
  intro p l e s m args below meth c B G z r z' hV hZ hF H locs ls hM hS hl
  obtain ⟨hx, hb, hml, hown, hr, hlk, htab, hst9, hnm⟩ := id B
  unfold osretC at hF
  by_cases hv : v.toUInt32.toUInt16.toUInt32.toInt32 = v
  · rw [if_pos hv] at hF
    cases hF
    exact W.widen hk hn (W.zret hx hb hr (show Value.int v.toUInt32.toUInt16.toUInt32.toInt32 = .int v by rw [hv]) (fun t ht hW => ⟨rfl, osEndF hV hZ hM hS ht hW⟩) hS.2.2 hd hlk)
  · rw [if_neg hv] at hF; cases hF
end E
end
section
/-! methods that throw, and their catching -/
def osthrow {ρ : Type} (j : Nat) : osM (Nat ⊕ ρ) := fun _ z => some (.inl j, (z.1, z.2.map (· + 1)))
def osbindT {α ρ : Type} (m : osM (Nat ⊕ α)) (f : α → osM (Nat ⊕ ρ)) : osM (Nat ⊕ ρ) := fun G z => match m G z with
  | some (.inr a, z') => f a G z'
  | some (.inl j, z') => some (.inl j, z')
  | none => none
def osbindC {α ρ : Type} (m : osM (Nat ⊕ α)) (h : Nat → osM ρ) (f : α → osM ρ) : osM ρ := fun G z => match m G z with
  | some (.inr a, z') => f a G z'
  | some (.inl j, z') => h j G z'
  | none => none
def osRt {ρ : Type} (m : osM ρ) : osM (Nat ⊕ ρ) := fun G z => match m G z with
  | some (v, z') => some (.inr v, z')
  | none => none
theorem osbindT_some {α ρ : Type} {m : osM (Nat ⊕ α)} {f : α → osM (Nat ⊕ ρ)} {G : osG} {z z' : osS} {r : Nat ⊕ ρ} (h : osbindT m f G z = some (r, z')) : (∃ a z1, m G z = some (.inr a, z1) ∧ f a G z1 = some (r, z')) ∨ ∃ j, m G z = some (.inl j, z') ∧ r = .inl j := by
  unfold osbindT at h
  cases hm : m G z with
  | none => rw [hm] at h; cases h
  | some q =>
    obtain ⟨a, z1⟩ := q
    rw [hm] at h
    cases a with
    | inl j => cases h; exact Or.inr ⟨j, rfl, rfl⟩
    | inr a => exact Or.inl ⟨a, z1, rfl, h⟩
theorem osbindC_some {α ρ : Type} {m : osM (Nat ⊕ α)} {h0 : Nat → osM ρ} {f : α → osM ρ} {G : osG} {z z' : osS} {r : ρ} (h : osbindC m h0 f G z = some (r, z')) : (∃ a z1, m G z = some (.inr a, z1) ∧ f a G z1 = some (r, z')) ∨ ∃ j z1, m G z = some (.inl j, z1) ∧ h0 j G z1 = some (r, z') := by
  unfold osbindC at h
  cases hm : m G z with
  | none => rw [hm] at h; cases h
  | some q =>
    obtain ⟨a, z1⟩ := q
    rw [hm] at h
    cases a with
    | inl j => exact Or.inr ⟨j, z1, rfl, h⟩
    | inr a => exact Or.inl ⟨a, z1, rfl, h⟩
def osQT {α : Type} (rv : α → Option Value) (G : osG) (r : Nat ⊕ α) (z : osS) : State → Outcome → State → Prop := fun st o t => ∃ v, r = .inr v ∧ o = .returned (rv v) ∧ osR G z t ∧ va_F (osA G) st t
def osXC {α : Type} (G : osG) (r : Nat ⊕ α) (z : osS) : String → State → State → Prop := fun E st t => ∃ j, r = .inl j ∧ osEx[j]? = some E ∧ osMem G z t.heap ∧ va_F (osA G) st t
def osFinT {α : Type} (rv : α → Option Value) (mc ms : Nat) : osF (Nat ⊕ α) := fun G r z' below args s => vx_MQ below (fun _ => osQT rv G r z') (osXC G r z') args s mc ms (osA G)
def osMetT {α : Type} (y : MethodName) (cc : ByteArray) (nL : Nat) (ret : Option FieldType) (fr lo mc ms : Nat) (rv : α → Option Value) (As : List Value) (f : osM (Nat ⊕ α)) : Prop :=
  ∀ l : Launch, l.stackTraces = false → ∀ (G : osG) (z : osS) (r : Nat ⊕ α) (z' : osS), f G z = some (r, z') → vx_Met l y [.code y cc nL ret] { frames := fr, cells := mc, slots := ms, locals := lo } (fun a U => a = As.toArray ∧ osR G z U) (fun _ => osQT rv G r z') (osXC G r z') mc ms (osA G)
theorem osMetT.of {ρ : Type} {y : MethodName} {cc : ByteArray} {nL : Nat} {ret : Option FieldType} {fr lo mc ms : Nat} {rv : ρ → Option Value} {As : List Value} {f : osM (Nat ⊕ ρ)} (hy : plainName y.cls = true) (hn : (lg_sl As).length ≤ nL)
    (h : osW (osFinT rv mc ms) y cc nL ret [] { frames := fr, cells := mc, slots := ms, locals := lo } 0 0 0 (lv_args 0 As) [] f) : osMetT y cc nL ret fr lo mc ms rv As f := by
  intro l hl G z r z' hf
  refine MetFree.of_bodyS (code := cc) (maxLocals := nL) (ret := ret) hy ?_ ?_
  · intro args s m h hn
    obtain ⟨meth, c, h1, h2, h3, h4, h5, h6, -, -⟩ := Cond.code_spec hn (atoms_spec (ws := [Cond.code y cc nL ret]) h _ List.mem_cons_self)
    exact ⟨meth, c, h1, h2, h3, h4, h5, h6⟩
  · intro p e s m args below meth c s₁ B hml hP _
    have hh0 : s₁.heap = s.heap := by rw [B.state]; rfl
    have ht : c.exceptionTable.toList = tableOf [] := by
      obtain ⟨meth9, c9, h1, h2, -, -, -, -, h7, -⟩ := Cond.code_spec B.named (atoms_spec (ws := [Cond.code y cc nL ret]) B.pre _ List.mem_cons_self)
      cases Option.some.inj (h1.symm.trans B.method)
      cases Option.some.inj (h2.symm.trans (Stand.of_body B).code)
      rw [Array.isEmpty_iff.mp h7]
      rfl
    obtain ⟨rfl, hV, hZ, hM⟩ := hP
    have hl0 := lv_entry As hn
    have K := h p l e s m As.toArray below meth c ⟨B.exec, B.bytes, hml, findClass_of_methodNamed B.named, B.returns, B.notSynchronized, ht, hl, (name_of_methodNamed B.named B.method).1⟩ G z r z' hV hZ hf s.heap [] _ hM va_S.rf hl0
    have K2 : W p l e (headSpec [Cond.code y cc nL ret] { frames := fr, cells := mc, slots := ms, locals := lo }).room s m As.toArray below meth c s.heap [] 0 0 (vx_MQ below (fun _ => osQT rv G r z') (osXC G r z') As.toArray s mc ms (osA G)) (entryFrame m As.toArray nL) := by
      rw [lg_entry_eq]
      exact K
    obtain ⟨t, a1, o, b1, b2, b3⟩ := K2 s₁ hh0 (Stand.of_body B)
    exact ⟨t, o, a1, b1, b2, b3⟩
/-- a method with a table of its own, that lets nothing out -/
def osMetH {ρ : Type} (y : MethodName) (cc : ByteArray) (nL : Nat) (ret : Option FieldType) (hh : List (Nat × Nat × Nat × Nat)) (fr lo mc ms : Nat) (rv : ρ → Option Value) (As : List Value) (f : osM ρ) : Prop :=
  ∀ l : Launch, l.stackTraces = false → ∀ (G : osG) (z : osS) (r : ρ) (z' : osS), f G z = some (r, z') → Met l y [.codeWith y cc nL ret hh] { frames := fr, cells := mc, slots := ms, locals := lo } (fun a U => a = As.toArray ∧ osR G z U) (fun _ st o t => o = .returned (rv r) ∧ osR G z' t ∧ va_F (osA G) st t) mc ms (osA G)
theorem osMetH.of {ρ : Type} {y : MethodName} {cc : ByteArray} {nL : Nat} {ret : Option FieldType} {hh : List (Nat × Nat × Nat × Nat)} {fr lo mc ms : Nat} {rv : ρ → Option Value} {As : List Value} {f : osM ρ} (hy : plainName y.cls = true) (hn : (lg_sl As).length ≤ nL)
    (h : osW (osFinM rv mc ms) y cc nL ret hh { frames := fr, cells := mc, slots := ms, locals := lo } 0 0 0 (lv_args 0 As) [] f) : osMetH y cc nL ret hh fr lo mc ms rv As f := by
  intro l hl G z r z' hf
  refine MetFree.of_bodyS (code := cc) (maxLocals := nL) (ret := ret) hy ?_ ?_
  · intro args s m h hn
    obtain ⟨m9, meth, c, hn9, h1, h2, h3, h4, -, h5, h6, -⟩ := Cond.codeWith_spec (atoms_spec (ws := [Cond.codeWith y cc nL ret hh]) h _ List.mem_cons_self)
    cases hn.symm.trans hn9
    exact ⟨meth, c, h1, h2, h3, h4, h5, h6⟩
  · intro p e s m args below meth c s₁ B hml hP _
    have hh0 : s₁.heap = s.heap := by rw [B.state]; rfl
    have ht : c.exceptionTable.toList = tableOf hh := vx_table (x := y) B (atoms_spec (ws := [Cond.codeWith y cc nL ret hh]) B.pre _ List.mem_cons_self)
    obtain ⟨rfl, hV, hZ, hM⟩ := hP
    have hl0 := lv_entry As hn
    have K := h p l e s m As.toArray below meth c ⟨B.exec, B.bytes, hml, findClass_of_methodNamed B.named, B.returns, B.notSynchronized, ht, hl, (name_of_methodNamed B.named B.method).1⟩ G z r z' hV hZ hf s.heap [] _ hM va_S.rf hl0
    have K2 : W p l e (headSpec [Cond.codeWith y cc nL ret hh] { frames := fr, cells := mc, slots := ms, locals := lo }).room s m As.toArray below meth c s.heap [] 0 0 (MQ below (fun _ st o t => o = .returned (rv r) ∧ osR G z' t ∧ va_F (osA G) st t) As.toArray s mc ms (osA G)) (entryFrame m As.toArray nL) := by
      rw [lg_entry_eq]
      exact K
    obtain ⟨t, a1, o, b1, b2, b3⟩ := K2 s₁ hh0 (Stand.of_body B)
    exact ⟨t, o, a1, b1, b2, ⟨b3.1, b3.2⟩⟩
theorem osQT.next {p : Program} {l : Launch} {e : Env} {R : Room} {s : State} {m : MethodId} {args : Array Value} {below : List Frame} {meth : Method} {c : Code} {H : Heap} {locs : List Loc} {k n mc ms : Nat} {Q : State → Prop} {α : Type} {rv : α → Option Value} {G : osG} {r : Nat ⊕ α} {z : osS} {pc : Nat} {ls : Array Slot} {st st0 : List Value}
    (hr : vx_Run p l e R s m args below meth c H locs k n mc ms (F0 m pc ls st0) st (osQT rv G r z) (osXC G r z) (osA G)) (hS : va_S (osA G) s.heap H locs)
    (kr : ∀ v, r = .inr v → ∀ (H1 : Heap) (locs1 : List Loc), osMem G z H1 → va_S (osA G) s.heap H1 locs1 → W p l e R s m args below meth c H1 locs1 (k + mc) (n + ms) Q (F0 m (pc + 3) ls ((rv v).toList ++ st)))
    (kx : ∀ (j : Nat) (E : String), r = .inl j → osEx[j]? = some E → ∀ (H1 : Heap) (locs1 : List Loc) (q : Addr) (ce : Cell), osMem G z H1 → va_S (osA G) s.heap H1 locs1 → H1[q]? = some ce → ce.vm = .none → s.vm.findClass E = some ce.cls → vx_W p l e R s m args below meth c H1 locs1 (k + mc) (n + ms) Q (F0 m pc ls st) q) : W p l e R s m args below meth c H locs k n Q (F0 m pc ls st0) := by
  intro T hT X
  have hkeep : ∀ {st₀ t T' : State} {L : List Loc}, st₀.heap = H → T'.heap = t.heap → (∀ q ∈ L, osA G q.base) → va_F (osA G) st₀ t → va_S (osA G) s.heap T'.heap (locs ++ L) := by
    intro st₀ t T' L h0 e1 hL hF
    obtain ⟨hz, hk⟩ := hF
    rw [h0] at hz hk
    exact ⟨Nat.le_trans hS.1 (by rw [e1]; exact hz), fun q h1 h2 => by rw [e1, hk q (Nat.lt_of_lt_of_le h1 hS.1) h2]; exact hS.2.1 q h1 h2, fun q hq => by
      rcases List.mem_append.mp hq with h | h
      · exact hS.2.2 q h
      · exact hL q h⟩
  rcases hr T hT X with ⟨v, st₀, t, T', L, h0, X', hL, e1, e2, ⟨v', hrv, hv, hR, hF⟩, stp⟩ | ⟨q, st₀, t, T', L, E, ce, h0, X', hL, e1, e2, ⟨j, hj, hE, hMt, hF⟩, hce, hcv, hcl, stp⟩
  · cases hv
    obtain ⟨t2, a1, b1⟩ := kr v' hrv T'.heap (locs ++ L) (by rw [e1]; exact hR.2.2) (hkeep h0 e1 hL hF) T' rfl X'
    exact ⟨t2, stp t2 a1, b1⟩
  · obtain ⟨t2, a1, b1⟩ := kx j E hj hE T'.heap (locs ++ L) q ce (by rw [e1]; exact hMt) (hkeep h0 e1 hL hF) (by rw [e1]; exact hce) hcv hcl T' rfl X'
    exact ⟨t2, stp.trans a1, b1⟩
section T
variable {ρ : Type} {rv0 : ρ → Option Value} {mc0 ms0 : Nat} {y : MethodName} {cc : ByteArray} {nL : Nat} {ret : Option FieldType} {R : Room} {k n k' n' : Nat} {pc pc' : Nat} {lv : List (Nat × Value)} {st : List Value}
variable {α : Type} {rv : α → Option Value} {y' : MethodName} {cc' : ByteArray} {nL' : Nat} {ret' : Option FieldType} {fr lo mc ms np idx b : Nat} {As : List Value} {g : osM (Nat ⊕ α)} {f : α → osM (Nat ⊕ ρ)} {stk : List Value} {st' : α → List Value}
/-- the end of a way that returns -/
theorem os_ofM {F : osM ρ} (h : osW (osFinM rv0 mc0 ms0) y cc nL ret [] R k n pc lv st F) : osW (osFinT rv0 mc0 ms0) y cc nL ret [] R k n pc lv st (osRt F) := by
  intro p l e s m args below meth c B G z r z' hV hZ hF H locs ls hM hS hl
  unfold osRt at hF
  cases hm : F G z with
  | none => rw [hm] at hF; cases hF
  | some q =>
    obtain ⟨v, z1⟩ := q
    rw [hm] at hF
    cases hF
    refine vx_ret (Qc := fun _ => osQT rv0 G (.inr v) z') ?_
    have K := h p l e s m args below meth c B G z v z' hV hZ hm H locs ls hM hS hl
    intro T hT X
    obtain ⟨t, a1, o, b1, b2, b3, b4⟩ := K T hT X
    exact ⟨t, a1, o, b1, b2, ⟨v, rfl, b3⟩, b4⟩
/-- what a method throws that this one calls, it lets go on -/
theorem osOut {p : Program} {l : Launch} {e : Env} {s : State} {m : MethodId} {args : Array Value} {below : List Frame} {meth : Method} {c : Code} {G : osG} {z : osS} {j : Nat} {E : String} {H1 : Heap} {locs1 : List Loc} {q : Addr} {ce : Cell} {ls : Array Slot} (B : osB p l s m meth c y cc nL ret []) (hE : osEx[j]? = some E) (hM : osMem G z H1) (hS : va_S (osA G) s.heap H1 locs1) (hq : H1[q]? = some ce) (hv : ce.vm = .none) (hc : s.vm.findClass E = some ce.cls) (hk : k ≤ mc0) (hn : n ≤ ms0) : vx_W p l e R s m args below meth c H1 locs1 k n (osFinT rv0 mc0 ms0 G (.inl j) z below args s) (F0 m pc ls st) q := by
  obtain ⟨hx, hb, hml, hown, hr, hlk, htab, hst, hnm⟩ := id B
  refine vx_out (Qc := fun _ => osQT rv0 G (.inl j) z) (XC := osXC (α := ρ) G (.inl j) z) (fun x hx => ?_) hlk hq hv hc (fun t ht hA => ⟨j, rfl, hE, by rw [ht]; exact hM, hS.F ht⟩) hS.2.2 hk hn
  rw [htab] at hx
  cases hx
theorem os_callVT {cis : List Nat} (hsl : osSl cis y' y') (hd' : osMd y' cc' nL' ret' np) (h3 : Cond.methodLink y.cls idx y' ∈ osX) (h4 : Cond.instanceMethod y' ∈ osX) (hMt : osMetT y' cc' nL' ret' fr lo mc ms rv (.ref b :: As) g) (hn : As.length = np) (hst : stk = As.reverse ++ .ref b :: st) (hsp : ∀ r, (rv r).toList ++ st = st' r) (hcat : (st.map fun v => v.category).sum ≤ 8) (hfr : fr + 1 ≤ R.frames) (hlo : 8 + (nL' + 11) + lo ≤ R.locals) (hk : k + mc = k') (hk2 : k' ≤ R.cells) (hn1 : n + ms = n') (hn2 : n' ≤ R.slots) (hk3 : k' ≤ mc0) (hn3 : n' ≤ ms0) (hd : osD cc pc 3 pc' (.invokevirtual idx)) (kk : ∀ r, osW (osFinT rv0 mc0 ms0) y cc nL ret [] R k' n' pc' lv (st' r) (f r)) : osW (osFinT rv0 mc0 ms0) y cc nL ret [] R k n pc lv stk (osbindT (osrecv cis b g) f) := by
  intro p l e s m args below meth c B G z r z' hV hZ hF H locs ls hM hS hl
  obtain ⟨hx, hb, hml, hown, hr, hlk, htab, hst9, hnm⟩ := id B
  obtain ⟨hd, rfl⟩ := hd
  subst hk; subst hn1; subst hst
  have hts := hV.word (args := args)
  have go : ∀ (w : Nat ⊕ α) (z1 : osS), osrecv cis b g G z = some (w, z1) → vx_Run p l e R s m args below meth c H locs k n mc ms (F0 m pc ls (As.reverse ++ .ref b :: st)) st (osQT rv G w z1) (osXC G w z1) (osA G) := by
    intro w z1 hw
    obtain ⟨ci, fs, hz, hc, g1⟩ := osrecv_some hw
    obtain ⟨q9, hq9, hsel⟩ := hsl ci hc
    have hM0 := hMt l hst9 G z w z1 g1
    have cw : CallW R s args y.cls q9.1 idx y' cc' nL' ret' [.code y' cc' nL' ret'] { frames := fr, cells := mc, slots := ms, locals := lo } mc ms np :=
      ⟨⟨rfl, rfl, hfr, hlo, osOne hV hd'.1, List.mem_cons_self, hts _ hd'.1, hts _ hd'.2.1, hd'.2.2.1, hd'.len, hts _ h3⟩, hts _ h4, hts _ hsel⟩
    have hrc := va_recv (q0 := 0) hV.2.1 (va_P1 (show va_at G.1 vwCl (b, .inr (ci, fs)) H from hM.1 b _ hz)) hq9 rfl
    exact vx_runV (e := e) (below := below) (meth := meth) (H := H) (locs := locs) (cells := k) (slots := n) (rest := st) (g := F0 m pc ls (As.reverse ++ .ref b :: st)) ⟨hx, hb, hml, hown, hts⟩ hM0 cw ⟨osR.blind, hrc, fun U hU hW => ⟨rfl, osR.end hV hZ hM hS hU hW⟩⟩ rfl hn hl.1 rfl (lv_room hcat) hd ⟨hk2, hn2⟩
  rcases osbindT_some hF with ⟨a, z1, g0, g2⟩ | ⟨j, g0, rfl⟩
  · refine osQT.next (rv := rv) (go _ _ g0) hS (fun v hv H1 locs1 hM1 hS1 => ?_) (fun j E hj => by cases hj)
    cases hv
    rw [hsp a]
    exact kk a p l e s m args below meth c B G z1 r z' hV hZ g2 H1 locs1 ls hM1 hS1 hl
  · refine osQT.next (rv := rv) (go _ _ g0) hS (fun v hv => by cases hv) (fun j9 E hj hE H1 locs1 q ce hM1 hS1 hq hv hc => ?_)
    cases hj
    exact osOut B hE hM1 hS1 hq hv hc hk3 hn3
/-- a method that throws nothing, in one that may -/
theorem osbindM {β : Type} {mm : osM β} {ff : β → osM (Nat ⊕ ρ)} : osbind mm ff = osbind mm ff := rfl
/-- throw new E("text") -/
theorem os_throw {j jt ik ic : Nat} {q : String × Nat × String} {cls : String} {names : List String} {pd p3 p4 p7 pa : Nat} (hy : y.cls = q.1) (hj : osEx[j]? = some cls) (hcls : Bundle.fit cls = true) (hnames : ∀ n ∈ names, Bundle.fit n = true) (hk : Cond.classLink y.cls ik cls ∈ osX) (hini : Cond.initialized cls ∈ osX) (hat : ∀ w ∈ vx_atS y.cls ic cls names, w ∈ osX) (hgood : ∀ w ∈ Cond.classLink y.cls ik cls :: Cond.initialized cls :: vx_atS y.cls ic cls names, vx_ot w = true) (hjt : osTx[jt]? = some q)
    (d0 : osD cc pc 3 pd (.new ik)) (d3 : osD cc pd 1 p3 .dup) (d4 : (∃ h : q.2.1 < 256, osD cc p3 2 p4 (.ldc q.2.1)) ∨ osD cc p3 3 p4 (.ldc_w q.2.1)) (d7 : osD cc p4 3 p7 (.invokespecial ic)) (d10 : osD cc p7 1 pa .athrow)
    (hfr : names.length + 3 < R.frames) (hlo : (st.map fun v => v.category).sum + (13 * (names.length + 1) + 43) ≤ R.locals) (hc : k + 1 ≤ R.cells) (hn : n + 6 ≤ R.slots) (hk2 : k + 1 ≤ mc0) (hn2 : n + 6 ≤ ms0) : osW (osFinT rv0 mc0 ms0) y cc nL ret [] R k n pc lv st (osthrow j) := by
  intro p l e s m args below meth c B G z r z' hV hZ hF H locs ls hM hS hl
  obtain ⟨hx, hb, hml, hown, hr, hlk, htab, hst9, hnm⟩ := id B
  have hts := hV.word (args := args)
  obtain ⟨d0, rfl⟩ := d0
  obtain ⟨d3, rfl⟩ := d3
  obtain ⟨d7, rfl⟩ := d7
  have d10 := d10.1
  cases hF
  have hX : ∀ t : State, s.vm.Alike t.vm → t.heap.size = H.size + 1 → (∀ q : Nat, q < H.size → t.heap[q]? = H[q]?) → osXC (α := ρ) G (.inl j) (z.1, z.2.map (· + 1)) cls s t := by
    intro t hA hs1 hs2
    refine ⟨j, rfl, hj, ⟨fun a e9 ha => ?_, fun k9 hk9 => ?_⟩, Nat.le_trans hS.1 (by omega), fun q h1 h2 => by rw [hs2 q (Nat.lt_of_lt_of_le h1 hS.1)]; exact hS.2.1 q h1 h2⟩
    · have h9 := hM.1 a e9 ha
      cases e9 with
      | inl x9 => exact ⟨by rw [hs2 a (Array.getElem?_eq_some_iff.mp h9.1).1]; exact h9.1, h9.2⟩
      | inr o9 =>
        refine va_at.kept (q := (a, .inr o9)) h9 (hs2 a ?_)
        obtain ⟨q', hq', cell, q1, -⟩ := h9
        exact (Array.getElem?_eq_some_iff.mp q1).1
    · cases h2 : z.2 with
      | none => rw [h2] at hk9; cases hk9
      | some w => rw [h2] at hk9; cases hk9; rw [hs1, hM.2 w h2]
  have hout : ∀ (w : Nat), ∀ x ∈ c.exceptionTable.toList, covers x w = false := by
    intro w x hx9
    rw [htab] at hx9
    cases hx9
  have hR := hV.2.2 jt q hjt
  rw [← hy] at hR
  rcases d4 with ⟨-, d4, rfl⟩ | ⟨d4, rfl⟩
  · exact vx_throwS (Qc := fun _ => osQT rv0 G (.inl j) (z.1, z.2.map (· + 1))) (XC := osXC (α := ρ) G (.inl j) (z.1, z.2.map (· + 1))) (text := q.2.2) (is := q.2.1) (sa := G.2.2.2.2 jt) (A := osA G) hx hb hst9 hown hcls hnames (hts _ hk) (hts _ hini) hR (fun w hw => hts _ (hat w hw)) hgood hZ.2.2.2.1 hZ.2.2.2.2.1 hS (by rw [hml]; exact hl.1) d0 d3 d4 d7 d10 (hout _) hfr hlo hc hn hlk hX hS.2.2 hk2 hn2
  · exact vx_throwSW (Qc := fun _ => osQT rv0 G (.inl j) (z.1, z.2.map (· + 1))) (XC := osXC (α := ρ) G (.inl j) (z.1, z.2.map (· + 1))) (text := q.2.2) (is := q.2.1) (sa := G.2.2.2.2 jt) (A := osA G) hx hb hst9 hown hcls hnames (hts _ hk) (hts _ hini) hR (fun w hw => hts _ (hat w hw)) hgood hZ.2.2.2.1 hZ.2.2.2.2.1 hS (by rw [hml]; exact hl.1) d0 d3 d4 d7 d10 (hout _) hfr hlo hc hn hlk hX hS.2.2 hk2 hn2
end T
/-- the first pair with j -/
theorem osFirst : ∀ (L : List (Nat × Nat × Nat × Nat × Nat)) (j : Nat), j ∉ L.map (·.1) ∨ ∃ pre x suf, L = pre ++ x :: suf ∧ x.1 = j ∧ ∀ z ∈ pre, z.1 ≠ j
  | [], j => Or.inl (fun h => nomatch h)
  | y :: L, j => by
    by_cases hy : y.1 = j
    · exact Or.inr ⟨[], y, L, rfl, hy, fun z h => nomatch h⟩
    · rcases osFirst L j with h | ⟨pre, x, suf, h1, h2, h3⟩
      · refine Or.inl (fun h9 => ?_)
        rcases List.mem_cons.mp h9 with q | q
        · exact hy q.symm
        · exact h q
      · refine Or.inr ⟨y :: pre, x, suf, by rw [h1]; rfl, h2, fun z hz => ?_⟩
        rcases List.mem_cons.mp hz with q | q
        · rw [q]; exact hy
        · exact h3 z q
section C
variable {ρ : Type} {Fi : osF ρ} {y : MethodName} {cc : ByteArray} {nL : Nat} {ret : Option FieldType} {hh : List (Nat × Nat × Nat × Nat)} {R : Room} {k n k' n' : Nat} {pc pc' : Nat} {lv : List (Nat × Value)} {st : List Value}
variable {α : Type} {rv : α → Option Value} {y' : MethodName} {cc' : ByteArray} {nL' : Nat} {ret' : Option FieldType} {fr lo mc ms np idx b : Nat} {As : List Value} {g : osM (Nat ⊕ α)} {f : α → osM ρ} {stk : List Value} {st' : α → List Value}
/-- a call of a method that may throw, in one that catches; L: the table's rows, each with its exception's number -/
theorem os_callVC {cis : List Nat} {L : List (Nat × Nat × Nat × Nat × Nat)} {h0 : Nat → osM ρ} (hL : hh = L.map (·.2)) (hrow : ∀ x ∈ L, covers ⟨x.2.1, x.2.2.1, x.2.2.2.1, x.2.2.2.2⟩ pc = true ∧ x.2.2.2.2 ≠ 0 ∧ ∃ E, osEx[x.1]? = some E ∧ Cond.classLink y.cls x.2.2.2.2 E ∈ osX ∧ Cond.castable E E ∈ osX) (hno : ∀ j, j ∉ L.map (·.1) → h0 j = osno)
    (hsl : osSl cis y' y') (hd' : osMd y' cc' nL' ret' np) (h3 : Cond.methodLink y.cls idx y' ∈ osX) (h4 : Cond.instanceMethod y' ∈ osX) (hMt : osMetT y' cc' nL' ret' fr lo mc ms rv (.ref b :: As) g) (hn : As.length = np) (hst : stk = As.reverse ++ .ref b :: st) (hsp : ∀ r, (rv r).toList ++ st = st' r) (hcat : (st.map fun v => v.category).sum ≤ 8) (hfr : fr + 1 ≤ R.frames) (hlo : 8 + (nL' + 11) + lo ≤ R.locals) (hk : k + mc = k') (hk2 : k' ≤ R.cells) (hn1 : n + ms = n') (hn2 : n' ≤ R.slots) (hd : osD cc pc 3 pc' (.invokevirtual idx))
    (kk : ∀ r, osW Fi y cc nL ret hh R k' n' pc' lv (st' r) (f r)) (kh : ∀ x ∈ L, ∀ q : Nat, osW Fi y cc nL ret hh R k' n' x.2.2.2.1 lv [.ref q] (h0 x.1)) : osW Fi y cc nL ret hh R k n pc lv stk (osbindC (osrecv cis b g) h0 f) := by
  intro p l e s m args below meth c B G z r z' hV hZ hF H locs ls hM hS hl
  obtain ⟨hx, hb, hml, hown, hr, hlk, htab, hst9, hnm⟩ := id B
  obtain ⟨hd, rfl⟩ := hd
  subst hk; subst hn1; subst hst
  have hts := hV.word (args := args)
  have go : ∀ (w : Nat ⊕ α) (z1 : osS), osrecv cis b g G z = some (w, z1) → vx_Run p l e R s m args below meth c H locs k n mc ms (F0 m pc ls (As.reverse ++ .ref b :: st)) st (osQT rv G w z1) (osXC G w z1) (osA G) := by
    intro w z1 hw
    obtain ⟨ci, fs, hz, hc, g1⟩ := osrecv_some hw
    obtain ⟨q9, hq9, hsel⟩ := hsl ci hc
    have hM0 := hMt l hst9 G z w z1 g1
    have cw : CallW R s args y.cls q9.1 idx y' cc' nL' ret' [.code y' cc' nL' ret'] { frames := fr, cells := mc, slots := ms, locals := lo } mc ms np :=
      ⟨⟨rfl, rfl, hfr, hlo, osOne hV hd'.1, List.mem_cons_self, hts _ hd'.1, hts _ hd'.2.1, hd'.2.2.1, hd'.len, hts _ h3⟩, hts _ h4, hts _ hsel⟩
    have hrc := va_recv (q0 := 0) hV.2.1 (va_P1 (show va_at G.1 vwCl (b, .inr (ci, fs)) H from hM.1 b _ hz)) hq9 rfl
    exact vx_runV (e := e) (below := below) (meth := meth) (H := H) (locs := locs) (cells := k) (slots := n) (rest := st) (g := F0 m pc ls (As.reverse ++ .ref b :: st)) ⟨hx, hb, hml, hown, hts⟩ hM0 cw ⟨osR.blind, hrc, fun U hU hW => ⟨rfl, osR.end hV hZ hM hS hU hW⟩⟩ rfl hn hl.1 rfl (lv_room hcat) hd ⟨hk2, hn2⟩
  rcases osbindC_some hF with ⟨a, z1, g0, g2⟩ | ⟨j, z1, g0, g2⟩
  · refine osQT.next (rv := rv) (go _ _ g0) hS (fun v hv H1 locs1 hM1 hS1 => ?_) (fun j E hj => by cases hj)
    cases hv
    rw [hsp a]
    exact kk a p l e s m args below meth c B G z1 r z' hV hZ g2 H1 locs1 ls hM1 hS1 hl
  · refine osQT.next (rv := rv) (go _ _ g0) hS (fun v hv => by cases hv) (fun j9 E hj hE H1 locs1 q ce hM1 hS1 hq hv hc => ?_)
    cases hj
    rcases osFirst L j with h9 | ⟨pre, x, suf, h1, h2, h5⟩
    · rw [hno j h9] at g2; cases g2
    · subst h2
      have hxm : x ∈ L := by rw [h1]; exact List.mem_append_right _ List.mem_cons_self
      obtain ⟨c1, c2, E1, c3, c4, c5⟩ := hrow x hxm
      cases hE.symm.trans c3
      have htab2 : c.exceptionTable.toList = tableOf (pre.map (·.2)) ++ (⟨x.2.1, x.2.2.1, x.2.2.2.1, x.2.2.2.2⟩ : ExceptionTableEntry) :: tableOf (suf.map (·.2)) := by
        rw [htab, hL, h1]
        simp [tableOf]
      refine vx_catch (own := y.cls) (name := E) (E := E) hown _ _ _ htab2 (fun z9 hz9 => ?_) c1 c2 (hts _ c4) (hts _ c5) hq hv hc ?_
      · right
        unfold tableOf at hz9
        rw [List.map_map] at hz9
        obtain ⟨x9, hx9, rfl⟩ := List.mem_map.mp hz9
        obtain ⟨-, d2, E2, d3, d4, -⟩ := hrow x9 (by rw [h1]; exact List.mem_append_left _ hx9)
        exact ⟨d2, E2, hts _ d4, hZ.2.2.2.2.2.2.2.2.2.1 x.1 x9.1 E E2 hE d3 (fun e => h5 x9 hx9 e.symm)⟩
      · exact kh x hxm q p l e s m args below meth c B G z1 r z' hV hZ g2 H1 locs1 ls hM1 hS1 hl
/-- a static method with a table of its own -/
theorem os_callSH {hh' : List (Nat × Nat × Nat × Nat)} {g : osM α} (h1 : Cond.codeWith y' cc' nL' ret' hh' ∈ osX) (h2 : Cond.initialized y'.cls ∈ osX) (h5 : y'.cls ≠ "java/lang/invoke/MethodHandle" ∧ y'.cls ≠ "java/lang/invoke/VarHandle") (h6 : (parseMethodDescriptor y'.desc).map (fun d => d.parameters.length) = some np) (h3 : Cond.methodLink y.cls idx y' ∈ osX) (h4 : Cond.static y' ∈ osX) (hMt : osMetH y' cc' nL' ret' hh' fr lo mc ms rv As g) (hn : As.length = np) (hst : stk = As.reverse ++ st) (hsp : ∀ r, (rv r).toList ++ st = st' r) (hcat : (st.map fun v => v.category).sum ≤ 8) (hfr : fr + 1 ≤ R.frames) (hlo : 8 + (nL' + 11) + lo ≤ R.locals) (hk : k + mc = k') (hk2 : k' ≤ R.cells) (hn1 : n + ms = n') (hn2 : n' ≤ R.slots) (hd : osD cc pc 3 pc' (.invokestatic idx)) (kk : ∀ r, osW Fi y cc nL ret hh R k' n' pc' lv (st' r) (f r)) : osW Fi y cc nL ret hh R k n pc lv stk (osbind g f) := by
  intro p l e s m args below meth c B G z r z' hV hZ hF H locs ls hM hS hl
  obtain ⟨hx, hb, hml, hown, hr, hlk, htab, hst9, hnm⟩ := id B
  obtain ⟨v, z1, g1, g2⟩ := osbind_some hF
  obtain ⟨hd, rfl⟩ := hd
  subst hk; subst hn1; subst hst
  have hts := hV.word (args := args)
  have hM0 := hMt l hst9 G z v z1 g1
  have cw : vx_CSW R s args y.cls idx y' cc' nL' ret' hh' [.codeWith y' cc' nL' ret' hh'] { frames := fr, cells := mc, slots := ms, locals := lo } mc ms np :=
    ⟨⟨rfl, rfl, hfr, hlo, osOne hV h1, List.mem_cons_self⟩, hts _ h1, hts _ h2, h5, fun sig h => by rw [h] at h6; exact (Option.some.inj h6).symm, hts _ h3, hts _ h4⟩
  have hrun := vx_runSW (e := e) (below := below) (meth := meth) (H := H) (locs := locs) (cells := k) (slots := n) (rest := st) (g := F0 m pc ls (As.reverse ++ st)) ⟨hx, hb, hml, hown, hts⟩ hM0 cw ⟨osR.blind, fun U hU hW => ⟨rfl, osR.end hV hZ hM hS hU hW⟩⟩ rfl hn hl.1 rfl (lv_room hcat) hd ⟨hk2, hn2⟩
  refine osQc.next (rv := rv) (G := G) (r := v) (z := z1) hrun hS fun H1 locs1 hM1 hS1 => ?_
  rw [hsp v]
  exact kk v p l e s m args below meth c B G z1 r z' hV hZ g2 H1 locs1 ls hM1 hS1 hl
end C
/-- a throw of a new exception of the class cls with a text, wherever it stands in OrderSettler -/
def osThrows (ik ic : Nat) (cls : String) : Prop := ∀ {ρ : Type} {rv0 : ρ → Option Value} {mc0 ms0 : Nat} {y : MethodName} {cc : ByteArray} {nL : Nat} {ret : Option FieldType} {R : Room} {k n pc : Nat} {lv : List (Nat × Value)} {st : List Value} {j jt : Nat} {q : String × Nat × String} {pd p3 p4 p7 pa : Nat}, y.cls = "OrderSettler" → q.1 = "OrderSettler" → osEx[j]? = some cls → osTx[jt]? = some q →
    osD cc pc 3 pd (.new ik) → osD cc pd 1 p3 .dup → ((∃ h : q.2.1 < 256, osD cc p3 2 p4 (.ldc q.2.1)) ∨ osD cc p3 3 p4 (.ldc_w q.2.1)) → osD cc p4 3 p7 (.invokespecial ic) → osD cc p7 1 pa .athrow → 6 ≤ R.frames → (st.map fun v => v.category).sum + 82 ≤ R.locals → k + 1 ≤ R.cells → n + 6 ≤ R.slots → k + 1 ≤ mc0 → n + 6 ≤ ms0 → osW (osFinT rv0 mc0 ms0) y cc nL ret [] R k n pc lv st (osthrow j)
theorem osThrows.of {ik ic : Nat} {cls : String} (hcls : Bundle.fit cls = true) (hk : Cond.classLink "OrderSettler" ik cls ∈ osX) (hini : Cond.initialized cls ∈ osX) (hat : ∀ w ∈ vx_atS "OrderSettler" ic cls ["java/lang/RuntimeException", "java/lang/Exception"], w ∈ osX) (hgood : ∀ w ∈ Cond.classLink "OrderSettler" ik cls :: Cond.initialized cls :: vx_atS "OrderSettler" ic cls ["java/lang/RuntimeException", "java/lang/Exception"], vx_ot w = true) : osThrows ik ic cls := by
  intro ρ rv0 mc0 ms0 y cc nL ret R k n pc lv st j jt q pd p3 p4 p7 pa hy hq1 hj hjt d0 d3 d4 d7 d10 hfr hlo hc hn hk2 hn2
  rw [← hy] at hk hat hgood
  exact os_throw (names := ["java/lang/RuntimeException", "java/lang/Exception"]) (hy.trans hq1.symm) hj hcls (by decide +kernel) hk hini hat hgood hjt d0 d3 d4 d7 d10 (by show 5 < R.frames; omega) (by show _ + (13 * 3 + 43) ≤ _; omega) hc hn hk2 hn2
end
section
/-! a switch of two keys; new rows of states; the heap's size forgotten -/
section R
variable {ρ : Type} {Fi : osF ρ} {y : MethodName} {cc : ByteArray} {nL : Nat} {ret : Option FieldType} {hh : List (Nat × Nat × Nat × Nat)} {R : Room} {k n k' n' : Nat} {pc pc' : Nat} {lv : List (Nat × Value)} {st : List Value} {F : osM ρ}
theorem os_lookup2 {a b oa ob dflt : Int} {len ta tb td : Nat} {x : Int32} {Fa Fb Fd : osM ρ} (hab : a < b) (hta : (pc : Int) + oa = (ta : Int)) (htb : (pc : Int) + ob = (tb : Int)) (htd : (pc : Int) + dflt = (td : Int)) (hd : osD cc pc len pc' (.lookupswitch dflt #[(a, oa), (b, ob)])) (ka : osW Fi y cc nL ret hh R k n ta lv st Fa) (kb : osW Fi y cc nL ret hh R k n tb lv st Fb) (kd : osW Fi y cc nL ret hh R k n td lv st Fd) : osW Fi y cc nL ret hh R k n pc lv (.int x :: st) (osite (x.toInt = a) Fa (osite (x.toInt = b) Fb Fd)) := by
  intro p l e s m args below meth c B G z r z' hV hZ hF H locs ls hM hS hl
  obtain ⟨hx, hb, hml, hown, hr, hlk, htab, hst, hnm⟩ := id B
  have hq := osite_some hF
  have hp : ((#[(a, oa), (b, ob)] : Array (Int × Int)).toList.zip ((#[(a, oa), (b, ob)] : Array (Int × Int)).toList.drop 1)).all (fun (a, next) => a.1 < next.1) = true := by simp [hab]
  by_cases h1 : x.toInt = a
  · exact lv_lookup (off := oa) hx hb hd.1 hp (by simp [Op.lookupswitch.offset, h1]) hta (ka p l e s m args below meth c B G z r z' hV hZ (hq.1 h1) H locs ls hM hS hl)
  · have hq2 := osite_some (hq.2 h1)
    by_cases h2 : x.toInt = b
    · exact lv_lookup (off := ob) hx hb hd.1 hp (by simp [Op.lookupswitch.offset, h2]; intro h; omega) htb (kb p l e s m args below meth c B G z r z' hV hZ (hq2.1 h2) H locs ls hM hS hl)
    · exact lv_lookup (off := dflt) hx hb hd.1 hp (by simp [Op.lookupswitch.offset]; omega) htd (kd p l e s m args below meth c B G z r z' hV hZ (hq2.2 h2) H locs ls hM hS hl)
theorem os_anewarray {i : Int32} {t N idx : Nat} {C : String} {f : Nat → osM ρ} (hC : C = "OrderSettler$State") (ht : t = 5) (hw : Cond.classLink y.cls idx C ∈ osX) (hi : ¬ i < 0) (hN : i.toNatClampNeg = N) (hby : N * 4 ≤ 536870912) (hk : k + 1 ≤ R.cells) (hn : n + N ≤ R.slots) (hd : osD cc pc 3 pc' (.anewarray idx)) (kk : ∀ q, osW Fi y cc nL ret hh R (k + 1) (n + N) pc' lv (.ref q :: st) (f q)) : osW Fi y cc nL ret hh R k n pc lv (.int i :: st) (osbind (osnew (.inl (t, (N, .inr (.inr (.inr (.inr fun _ => none))))))) f) := by
  intro p l e s m args below meth c B G z r z' hV hZ hF H locs ls hM hS hl
  obtain ⟨hx, hb, hml, hown, hr, hlk, htab, hst, hnm⟩ := id B
  obtain ⟨q, z1, g1, g2⟩ := osbind_some hF
  obtain ⟨hz, hA, rfl⟩ := osnew_some g1
  obtain ⟨hd, rfl⟩ := hd
  subst ht; subst hC; subst hN
  have hts := hV.word (args := args)
  have hsz := hM.2 q hz
  refine W.anew hx hb hown (hts _ hw) (va_AO.use hZ.2.2.2.2.2.2.2.2.2.2) rfl hd rfl hi hby hk hn fun cA kA comp f1 f2 f3 f4 => ?_
  have ht := osTys_at (G := G) (t := 5) (ty := .object "OrderSettler$State") rfl
  have hra := (hV.2.1.2 5 _ ht).2
  have hcA : s.vm.findClass ("[" ++ (FieldType.object "OrderSettler$State").toString) = some (G.2.1 5) := by
    obtain ⟨kA9, comp9, r1, r2, r3, r4⟩ := hra
    exact r4
  have hce : cA = G.2.1 5 := Option.some.inj (f1.symm.trans hcA)
  subst hce
  have e1 : (H.push ({ cls := G.2.1 5, slots := Array.replicate i.toNatClampNeg .null, vm := .none } : Cell))[q]? = some (vp_cell (G.2.1 5) (i.toNatClampNeg, .inr (.inr (.inr (.inr fun _ => none))))) := by
    rw [← hsz, Array.getElem?_push_size, vp_cell_q, ← arrV_new]
    rfl
  have e2 : (H.push ({ cls := G.2.1 5, slots := Array.replicate i.toNatClampNeg .null, vm := .none } : Cell)).size = q + 1 := by rw [Array.size_push, hsz]
  have e3 : ∀ b : Nat, b < q → (H.push ({ cls := G.2.1 5, slots := Array.replicate i.toNatClampNeg .null, vm := .none } : Cell))[b]? = H[b]? := fun b hb9 => by rw [Array.getElem?_push, if_neg (by omega)]
  rw [hsz]
  exact kk q p l e s m args below meth c B G _ r z' hV hZ g2 _ locs ls (hM.new hz e2 e3 ⟨e1, show (5 : Nat) < 7 by decide⟩) (osS_new hS hsz e2 e3) hl
/-- from here on the heap's size isn't known -/
def osforget : osM Unit := fun _ z => some ((), (z.1, none))
theorem os_forget (kk : osW Fi y cc nL ret hh R k n pc lv st F) : osW Fi y cc nL ret hh R k n pc lv st (osbind osforget fun _ => F) := by
  intro p l e s m args below meth c B G z r z' hV hZ hF H locs ls hM hS hl
  obtain ⟨v, z1, g1, g2⟩ := osbind_some hF
  cases g1
  exact kk p l e s m args below meth c B G _ r z' hV hZ g2 H locs ls ⟨hM.1, fun k h => by cases h⟩ hS hl
end R
def oshand (L : List (Nat × Int32)) : Nat → osM Int32 := fun j => match L.find? (fun x => x.1 == j) with
  | some x => osret x.2
  | none => osno
theorem oshand_no (L : List (Nat × Int32)) : ∀ j, j ∉ L.map (·.1) → oshand L j = osno := by
  intro j hj
  unfold oshand
  cases h : L.find? (fun x => x.1 == j) with
  | none => rfl
  | some x =>
    have h1 := List.mem_of_find?_eq_some h
    have h2 := List.find?_some h
    exact absurd (List.mem_map.mpr ⟨x, h1, beq_iff_eq.mp h2⟩) hj
theorem oshand_no2 (L : List (Nat × Int32)) {ks : List Nat} (hk : ks = L.map (·.1)) : ∀ j, j ∉ ks → oshand L j = osno := by
  rw [hk]; exact oshand_no L
theorem osW.toF {ρ : Type} {Fi : osF ρ} {y : MethodName} {cc : ByteArray} {nL : Nat} {ret : Option FieldType} {hh : List (Nat × Nat × Nat × Nat)} {R : Room} {k n pc : Nat} {lv : List (Nat × Value)} {st : List Value} {F F9 : osM ρ} (h : F = F9) (kk : osW Fi y cc nL ret hh R k n pc lv st F9) : osW Fi y cc nL ret hh R k n pc lv st F := by
  rw [h]; exact kk
/-! the law's own end and its script -/
/-- what the law's walk knows of its script at the start -/
def osPL (b L : Nat) (xs : Nat → Int32) (A : Nat → Prop) (args : Array Value) (s : State) : Prop := va_X b L xs s s.heap ∧ b < s.heap.size ∧ ¬ A b ∧ args = #[.ref b] ∧ ∀ q, A q → s.heap.size ≤ q
def osFinL (b L : Nat) (xs : Nat → Int32) (Qf : List Frame → State → State → Prop) : osF Int32 := fun G r _ below args s => fun t => osPL b L xs (osA G) args s → r = 1 → Qf below s t
def ossld (L : Nat) (xs : Nat → Int32) (i : Int32) : osM Int32 := fun _ z => if osin i L then some (xs i.toNatClampNeg, z) else none
def osslen2 (L : Nat) : osM Int32 := fun _ z => if L < 2147483648 then some (Int32.ofNat L, z) else none
section L
variable {b L : Nat} {xs : Nat → Int32} {Qf : List Frame → State → State → Prop} {y : MethodName} {cc : ByteArray} {nL : Nat} {ret : Option FieldType} {hh : List (Nat × Nat × Nat × Nat)} {R : Room} {k n k' n' : Nat} {pc pc' : Nat} {lv : List (Nat × Value)} {st : List Value} {F : osM Int32}
theorem osFinL_by {p : Program} {l : Launch} {e : Env} {s : State} {m : MethodId} {args : Array Value} {below : List Frame} {meth : Method} {c : Code} {H : Heap} {locs : List Loc} {G : osG} {r : Int32} {z' : osS} {g : JFrame} (h : osPL b L xs (osA G) args s → r = 1 → W p l e R s m args below meth c H locs k n (osFinL b L xs Qf G r z' below args s) g) : W p l e R s m args below meth c H locs k n (osFinL b L xs Qf G r z' below args s) g := by
  intro T hT X
  by_cases h1 : osPL b L xs (osA G) args s
  · by_cases h2 : r = 1
    · exact h h1 h2 T hT X
    · exact ⟨_, Steps.refl _, fun _ q => absurd q h2⟩
  · exact ⟨_, Steps.refl _, fun q _ => absurd q h1⟩
theorem os_sld {i : Int32} {f : Int32 → osM Int32} (hd : osD cc pc 1 pc' .iaload) (kk : ∀ v, osW (osFinL b L xs Qf) y cc nL ret hh R k n pc' lv (.int v :: st) (f v)) : osW (osFinL b L xs Qf) y cc nL ret hh R k n pc lv (.int i :: .ref b :: st) (osbind (ossld L xs i) f) := by
  intro p l e s m args below meth c B G z r z' hV hZ hF H locs ls hM hS hl
  obtain ⟨hx, hb, hml, hown, hr, hlk, htab, hst, hnm⟩ := id B
  obtain ⟨v, z1, g1, g2⟩ := osbind_some hF
  obtain ⟨hd, rfl⟩ := hd
  unfold ossld at g1
  by_cases hc : osin i L
  · rw [if_pos hc] at g1
    cases g1
    refine osFinL_by fun h1 _ => ?_
    obtain ⟨hX, hbl, hbA, -⟩ := h1
    exact va_sld hx hb hX hbl hbA hS hc hd (kk _ p l e s m args below meth c B G z r z' hV hZ g2 H locs ls hM hS hl)
  · rw [if_neg hc] at g1; cases g1
theorem os_slen {f : Int32 → osM Int32} (hd : osD cc pc 1 pc' .arraylength) (kk : ∀ v, osW (osFinL b L xs Qf) y cc nL ret hh R k n pc' lv (.int v :: st) (f v)) : osW (osFinL b L xs Qf) y cc nL ret hh R k n pc lv (.ref b :: st) (osbind (osslen2 L) f) := by
  intro p l e s m args below meth c B G z r z' hV hZ hF H locs ls hM hS hl
  obtain ⟨hx, hb, hml, hown, hr, hlk, htab, hst, hnm⟩ := id B
  obtain ⟨v, z1, g1, g2⟩ := osbind_some hF
  obtain ⟨hd, rfl⟩ := hd
  unfold osslen2 at g1
  by_cases hc : L < 2147483648
  · rw [if_pos hc] at g1
    cases g1
    refine osFinL_by fun h1 _ => ?_
    obtain ⟨hX, hbl, hbA, -⟩ := h1
    exact va_slen hx hb hX hbl hbA hS hd (kk _ p l e s m args below meth c B G z r z' hV hZ g2 H locs ls hM hS hl)
  · rw [if_neg hc] at g1; cases g1
theorem os_lawno (v : Int32) (hv : ¬ v = 1) : osW (osFinL b L xs Qf) y cc nL ret hh R k n pc lv st (osret v) := by
  intro p l e s m args below meth c B G z r z' hV hZ hF H locs ls hM hS hl
  cases hF
  exact osFinL_by fun _ h => absurd h hv
end L
end
section
/-! NoSuchElementException: its constructor with a text calls that of RuntimeException by the number 13 of its pool -/
def nt_six : ByteArray := ⟨#[0x2a, 0x2b, 0xb7, 0x00, 0x0d, 0xb1]⟩
theorem nt_six_0 : decode nt_six 0 = .ok (.aload_n 0, 1) := by decide +kernel
theorem nt_six_1 : decode nt_six 1 = .ok (.aload_n 1, 1) := by decide +kernel
theorem nt_six_2 : decode nt_six 2 = .ok (.invokespecial 13, 3) := by decide +kernel
theorem nt_six_5 : decode nt_six 5 = .ok (.return_, 1) := by decide +kernel
def nt_links (X Y : String) (r : List String) : List Cond := Bundle.passSAtoms X Y 13 nt_six ++ Bundle.chainSAtoms Y r
/-- the way up: the first step by 13, the others as ever -/
theorem nt_chain {args : Array Value} {s : State} {pl : Platform} (hpl : pl.magicAccessors = ({} : Platform).magicAccessors) {top : MethodId} (htop : s.methodNamed? (Bundle.initS Bundle.tN) = some top) (r : List String) (X Y : String)
    (hX : Bundle.fit X = true) (hY : Bundle.fit Y = true) (hn : ∀ n ∈ r, Bundle.fit n = true) (h : ∀ c ∈ nt_links X Y r, c.before args s = true) :
    ∃ (P1 : PassC) (Ps : List PassC), Ps.length = r.length + 1 ∧ P1.LinksS pl s ∧ (∀ P, P ∈ Ps → P.LinksS pl s) ∧ s.methodNamed? (Bundle.initS X) = some P1.m ∧
      P1.sup = firstOf top (Ps.map (·.toPassT)) ∧ PassesOn top (Ps.map (·.toPassT)) := by
  obtain ⟨P, L, hm, hs⟩ := PassC.ofS_atoms (args := args) (s := s) hpl (X := X) (Y := Y) (Bundle.fit_spec hX).1 (Bundle.fit_spec hY).2 nt_six_0 nt_six_1 nt_six_2 nt_six_5 (fun c hc => h c (List.mem_append_left _ hc))
  obtain ⟨P', Ps, hlen, L', hL, hm', hsup, hpass⟩ := Bundle.chainS (args := args) hpl htop r Y hY hn (fun c hc => h c (List.mem_append_right _ hc))
  refine ⟨P, P' :: Ps, by simp [hlen], L, fun Q hQ => ?_, hm, Option.some.inj (hs.symm.trans hm'), hsup, hpass⟩
  rcases List.mem_cons.mp hQ with rfl | hQ
  · exact L'
  · exact hL Q hQ
/-- the words of such a throw: those of any throw, but for the first step -/
def nt_atoms (own : String) (ic : Nat) (X Y : String) (r : List String) : List Cond :=
  Bundle.throwableAtoms ++ Bundle.throwableSAtoms ++ nt_links X Y r ++ (Bundle.ownAtoms own ic X (Y :: r)).drop (Bundle.throwableAtoms ++ Bundle.throwableSAtoms ++ Bundle.chainSAtoms X (Y :: r)).length
theorem nt_tail (own : String) (ic : Nat) (X Y : String) (r : List String) (w : Cond) (h : w ∈ (Bundle.ownAtoms own ic X (Y :: r)).drop (Bundle.throwableAtoms ++ Bundle.throwableSAtoms ++ Bundle.chainSAtoms X (Y :: r)).length) : w ∈ nt_atoms own ic X Y r := List.mem_append_right _ h
theorem nt_drop (own : String) (ic : Nat) (X Y : String) (r : List String) : (Bundle.ownAtoms own ic X (Y :: r)).drop (Bundle.throwableAtoms ++ Bundle.throwableSAtoms ++ Bundle.chainSAtoms X (Y :: r)).length = [.methodLink own ic (Bundle.initS X), .instantiable X 6, .castable X X, .selects X Bundle.tFill0 Bundle.tFill0, .selects X Bundle.tFill Bundle.tFill, .lays X Bundle.tN "cause" "Ljava/lang/Throwable;", .lays X Bundle.tN "stackTrace" Bundle.steD, .lays X Bundle.tN "suppressedExceptions" Bundle.listD, .lays X Bundle.tN "detailMessage" "Ljava/lang/String;", .isRef (.static Bundle.tN "UNASSIGNED_STACK" Bundle.steD), .isRef (.static Bundle.tN "SUPPRESSED_SENTINEL" Bundle.listD), .fieldLink Bundle.tN 198 Bundle.tN "backtrace" "Ljava/lang/Object;", .lays Bundle.tN Bundle.tN "backtrace" "Ljava/lang/Object;", .lays X Bundle.tN "backtrace" "Ljava/lang/Object;"] := by
  unfold Bundle.ownAtoms
  exact List.drop_left
section NTA
variable {p : Program} {l : Launch} {e : Env} {R : Room} {s : State} {m₀ : MethodId} {args : Array Value} {below : List Frame} {meth : Method} {c : Code} {W : State} {locs : List Loc} {cells slots : Nat}
set_option maxHeartbeats 1000000 in
theorem nt_made (X : Stand p l e R s m₀ args below meth c W locs cells slots) (hexec : p.tables.exec = Jvm.exec) (htr : e.platform.stackTraces = false) {own cls Y1 : String} {names : List String} {ic : Nat}
    (hown : s.vm.findClass own = some m₀.cls) (hcls : Bundle.fit cls = true) (hY1 : Bundle.fit Y1 = true) (hnames : ∀ n ∈ names, Bundle.fit n = true)
    (h : ∀ a ∈ nt_atoms own ic cls Y1 names, a.before args s = true)
    (hlocs : ∀ x ∈ locs, ∀ cell, s.heap[x.base]? = some cell → cell.vm.isStatics = false)
    {a : Addr} {cX : ClassId} {kX : Class} (hfoundX : s.vm.findClass cls = some cX) (hkX : s.vm.classes[cX]? = some kX) (hcell : W.heap[a]? = some (freshCell cX kX)) (hnew : s.heap.size ≤ a)
    {msg : Value} (hmsg : msg.isRef = true)
    {g : JFrame} (hg : g.method = m₀) (hsize : g.locals.size = c.maxLocals) {rest : List Value} (hstack : g.stack = msg :: .ref a :: .ref a :: rest)
    (hd6 : decode c.code g.pc = .ok (.invokespecial ic, 3))
    (hRframes : names.length + 4 < R.frames) (hRlocals : 2 * g.monitorRoom + ((Value.ref a :: rest).map fun v => v.category).sum + (13 * (names.length + 2) + 42) ≤ R.locals) :
    ∃ (V : State) (ce : Cell) (L : List Loc), Stand p l e R s m₀ args below meth c (V.setCell a ce) (locs ++ L) cells slots ∧ (∀ y ∈ L, y.base = a) ∧ a < V.heap.size ∧ ce.cls = cX ∧ ce.vm = .none ∧
      ∀ target, Steps p.tables e below ((V.setCell a ce).setTop { g with stack := .ref a :: rest, pc := g.pc + 3 }) target → Steps p.tables e below (W.setTop g) target := by
  have howns : e.platform.frameOwnsMonitors = true := by rw [X.admits.platform]
  have hfin : e.platform.finalization = false := by rw [X.admits.platform]
  have hpl : e.platform.magicAccessors = ({} : Platform).magicAccessors := by rw [X.admits.platform]
  have a' : ∀ x, x ∈ nt_atoms own ic cls Y1 names → x.holds args s none s [] = true := fun x hx => h x hx
  obtain ⟨T, Z0, L, -, Y⟩ := ThrowableC.of_atoms (args := args) howns hfin hpl (fun x hx => h x (by simp [nt_atoms, hx]))
  obtain ⟨Z, M, LZ, LM, hnZ⟩ := Init0T.ofS_atoms (args := args) hpl L Y (fun x hx => h x (by simp [nt_atoms, hx]))
  obtain ⟨P1, Ps, hlen, L1, hL, hP1m, hlink1, hlink⟩ := nt_chain (args := args) hpl hnZ names cls Y1 hcls hY1 hnames (fun x hx => h x (by simp [nt_atoms, hx]))
  have hfound : s.vm.findClass cls = some P1.m.cls := findClass_of_methodNamed hP1m
  cases Option.some.inj (hfoundX.symm.trans hfound)
  obtain ⟨c1, kX', hc1, hk, hord, -, -, hn6⟩ := Cond.instantiable_spec (a' (.instantiable cls 6) (by apply nt_tail; rw [nt_drop]; simp))
  cases Option.some.inj (hc1.symm.trans hfound)
  cases Option.some.inj (hkX.symm.trans hk)
  have hsel0 : selectMethod e.platform s.vm P1.m.cls T.fill0 = .method T.fill0 := by
    obtain ⟨c2, r2, m2, q1, q2, q3, q4, -⟩ := Cond.selects_spec (a' (.selects cls Bundle.tFill0 Bundle.tFill0) (by apply nt_tail; rw [nt_drop]; simp))
    cases Option.some.inj (q1.symm.trans hfound)
    cases Option.some.inj (q2.symm.trans (State.methodFound?_of_named Y.fill0 (by decide)))
    cases Option.some.inj (q3.symm.trans Y.fill0)
    rw [Launch.admits_selectMethod X.admits]; exact q4
  have hselF : selectMethod e.platform s.vm P1.m.cls T.fill = .method T.fill := by
    obtain ⟨c2, r2, m2, q1, q2, q3, q4, -⟩ := Cond.selects_spec (a' (.selects cls Bundle.tFill Bundle.tFill) (by apply nt_tail; rw [nt_drop]; simp))
    cases Option.some.inj (q1.symm.trans hfound)
    cases Option.some.inj (q2.symm.trans (State.methodFound?_of_named Y.fill (by decide)))
    cases Option.some.inj (q3.symm.trans Y.fill)
    rw [Launch.admits_selectMethod X.admits]; exact q4
  obtain ⟨cellS0, hcS0, hiss⟩ := Y.statics
  obtain ⟨u0, hu0⟩ := Cond.staticRefV Y.unassigned L.unassignedStatic L.statics hcS0 hiss (a' (.isRef (.static Bundle.tN "UNASSIGNED_STACK" Bundle.steD)) (by apply nt_tail; rw [nt_drop]; simp))
  obtain ⟨sen, hsen⟩ := Cond.staticRefV Y.sentinel L.sentinelStatic L.statics hcS0 hiss (a' (.isRef (.static Bundle.tN "SUPPRESSED_SENTINEL" Bundle.listD)) (by apply nt_tail; rw [nt_drop]; simp))
  obtain ⟨ci198, i198, fB, hk198, hg198, ha198, hsB, -, hnB, htB, hffB⟩ := Cond.ownField (t := .object "java/lang/Object") Y.found L.cls (by decide +kernel) (a' (.fieldLink Bundle.tN 198 Bundle.tN "backtrace" "Ljava/lang/Object;") (by apply nt_tail; rw [nt_drop]; simp)) (a' (.lays Bundle.tN Bundle.tN "backtrace" "Ljava/lang/Object;") (by apply nt_tail; rw [nt_drop]; simp)) e.platform hpl
  obtain ⟨cellS, hcS', heS, -, hkeep⟩ := X.same.2.2.2.2.2 T.aS cellS0 hcS0
  have hcellS : W.heap[T.aS]? = some cellS := hcS'
  have hout' : ∀ i, (⟨T.aS, i⟩ : Loc) ∉ locs := fun i hmem => by
    have := hlocs _ hmem cellS0 hcS0
    rw [hiss] at this; cases this
  have hknownS : cellS.vm ≠ .unknown := by
    rw [heS]; intro hu
    rw [show cellS0.vm = .unknown from hu] at hiss
    cases hiss
  have hneS : T.aS ≠ a := Nat.ne_of_lt (Nat.lt_of_lt_of_le (Array.getElem?_eq_some_iff.mp hcS0).1 hnew)
  obtain ⟨iM, hffM⟩ := Y.msg
  obtain ⟨tyC, dC, hdC, hdnC⟩ := Cond.laysAt hfound hk Y.cause (a' (.lays cls Bundle.tN "cause" "Ljava/lang/Throwable;") (by apply nt_tail; rw [nt_drop]; simp))
  obtain ⟨tyS, dS, hdS, hdnS⟩ := Cond.laysAt hfound hk Y.stack (a' (.lays cls Bundle.tN "stackTrace" Bundle.steD) (by apply nt_tail; rw [nt_drop]; simp))
  obtain ⟨tyP, dP, hdP, hdnP⟩ := Cond.laysAt hfound hk Y.supp (a' (.lays cls Bundle.tN "suppressedExceptions" Bundle.listD) (by apply nt_tail; rw [nt_drop]; simp))
  obtain ⟨tyM, dM, hdM, hdnM⟩ := Cond.laysAt hfound hk hffM (a' (.lays cls Bundle.tN "detailMessage" "Ljava/lang/String;") (by apply nt_tail; rw [nt_drop]; simp))
  obtain ⟨tyB, dB, hdB, hdnB⟩ := Cond.laysAt hfound hk hffB (a' (.lays cls Bundle.tN "backtrace" "Ljava/lang/Object;") (by apply nt_tail; rw [nt_drop]; simp))
  have bC := Cond.laysApart hdB hdC hdnB hdnC (by rw [hnB, Y.causeName]; decide)
  have bS := Cond.laysApart hdB hdS hdnB hdnS (by rw [hnB, Y.stackName]; decide)
  have bP := Cond.laysApart hdB hdP hdnB hdnP (by rw [hnB, Y.suppName]; decide)
  have hskip : SkipFacts T e.platform s (fun u => u) u0 ((preparedCellV T.toThrowableT (freshCell P1.m.cls kX) a u0 sen).withEntry W.cur) :=
    ⟨{ ci198 := ci198, i198 := i198, fBack := fB }, ⟨hk198, hg198, ha198, hsB⟩, by
      have := fresh_default (c := P1.m.cls) tyB
      rw [htB] at this
      simpa [preparedCellV, Cell.setSlot, Cell.withEntry, Array.getElem?_setIfInBounds, bC, bS, bP, bC.symm, bS.symm, bP.symm, defaultValue] using this, fun _ _ => rfl⟩
  obtain ⟨tm, methC, cdC, kC, vm₁, hnC, -, -, -, -, -, -, -, hW₁, st1⟩ := Steps.initColdS (tb := p.tables) (e := e) (below := below) (s := s) (U := W) X.here hexec X.warmed hpl hown (t := Bundle.initS cls) rfl rfl (Bundle.fit_spec hcls).2
    (a' (.methodLink own ic (Bundle.initS cls)) (by apply nt_tail; rw [nt_drop]; simp)) (h (.instanceMethod (Bundle.initS cls)) (by simp [nt_atoms, nt_links, Bundle.passSAtoms])) (bytes := nt_six) (maxL := 2) (h (.code (Bundle.initS cls) nt_six 2 none) (by simp [nt_atoms, nt_links, Bundle.passSAtoms]))
    (f := g) hg (a := a) (msg := msg) (rest := .ref a :: rest) hstack hd6
  cases Option.some.inj (hnC.symm.trans hP1m)
  have X₁ := X.noted hW₁
  obtain ⟨vm₂, X₂, st2⟩ := X₁.ctorMessageOffV hexec (g := { g with stack := .ref a :: rest }) hg hsize T L Z LZ M LM (P1 :: Ps)
    (fun P hP => by rcases List.mem_cons.mp hP with rfl | hP; exact L1; exact hL P hP) ⟨hlink1, hlink⟩ (u0 := u0) (sen := sen) (self := a) hmsg (cell := freshCell P1.m.cls kX) (cellS := cellS)
    hcell (fun _ => by simp) (by simp) rfl rfl hsel0 hselF hcellS hneS hknownS (by rw [hkeep _ (hout' _)]; exact hu0) (by rw [hkeep _ (hout' _)]; exact hsen)
    (Takes.of_laid hk hord tyC (by rw [Y.causeType]; rfl)) (Takes.of_laid hk hord tyS (by rw [Y.stackType]; exact fits_refV_array _ u0)) (Takes.of_laid hk hord tyP (by rw [Y.suppType]; exact fits_refV_object _ sen))
    (Takes.of_laid hk hord tyM (by rw [Y.msgType]; exact fits_refV_object _ ⟨msg, hmsg⟩)) Y.objLocals hskip htr [] hd6
    (by simp only [List.length_cons, hlen]; omega) (by simp only [List.length_cons, hlen]; exact hRlocals)
  have hlt : a < ((W.setVm vm₁).setVm vm₂).heap.size := (Array.getElem?_eq_some_iff.mp hcell).1
  refine ⟨(W.setVm vm₁).setVm vm₂, _, _, X₂, fun y hy => ?_, hlt, rfl, rfl, fun target hwalk => st1 _ (fun acts => ?_)⟩
  · simp only [List.mem_cons, List.not_mem_nil, or_false] at hy
    rcases hy with rfl | rfl | rfl | rfl | rfl <;> rfl
  · rw [doInvoke_state]
    exact st2 _ hwalk
/-- .. and thrown -/
theorem nt_thrown (X : Stand p l e R s m₀ args below meth c W locs cells slots) (hexec : p.tables.exec = Jvm.exec) (htr : e.platform.stackTraces = false) {own cls Y1 : String} {names : List String} {ic : Nat}
    (hown : s.vm.findClass own = some m₀.cls) (hcls : Bundle.fit cls = true) (hY1 : Bundle.fit Y1 = true) (hnames : ∀ n ∈ names, Bundle.fit n = true)
    (h : ∀ a ∈ nt_atoms own ic cls Y1 names, a.before args s = true)
    (hlocs : ∀ x ∈ locs, ∀ cell, s.heap[x.base]? = some cell → cell.vm.isStatics = false)
    {a : Addr} {cX : ClassId} {kX : Class} (hfoundX : s.vm.findClass cls = some cX) (hkX : s.vm.classes[cX]? = some kX) (hcell : W.heap[a]? = some (freshCell cX kX)) (hnew : s.heap.size ≤ a)
    {msg : Value} (hmsg : msg.isRef = true)
    {g : JFrame} (hg : g.method = m₀) (hsize : g.locals.size = c.maxLocals) (hlocked : g.locked = none) (hentered : g.entered = []) {rest : List Value} (hstack : g.stack = msg :: .ref a :: .ref a :: rest)
    (hd6 : decode c.code g.pc = .ok (.invokespecial ic, 3)) (hd9 : decode c.code (g.pc + 3) = .ok (.athrow, 1)) (hout : ∀ x ∈ c.exceptionTable.toList, covers x (g.pc + 3) = false)
    (hRframes : names.length + 4 < R.frames) (hRlocals : 2 * g.monitorRoom + ((Value.ref a :: rest).map fun v => v.category).sum + (13 * (names.length + 2) + 42) ≤ R.locals) (hlocks : meth.locks = false) :
    ∃ U : State, Steps p.tables e below (W.setTop g) U ∧ U.status = .running ∧ Ended U below (.threw a) ∧ s.WarmedH U.vm ∧ s.sameButNew ({ U with vm := s.vm } : State) locs cells slots ∧
      ∃ ce, U.heap[a]? = some ce ∧ ce.cls = cX ∧ ce.vm = .none := by
  obtain ⟨V, ce, L, X2, hb, hlt, hc, hv, st⟩ := nt_made X hexec htr hown hcls hY1 hnames h hlocs hfoundX hkX hcell hnew hmsg hg hsize hstack hd6 hRframes hRlocals
  obtain ⟨hwalk, hrun, hended, hWU, hsame⟩ := X2.athrowLeaves hexec (g := { g with stack := .ref a :: rest, pc := g.pc + 3 }) hg hlocked hentered hout (a := a) (rest := rest) rfl hd9
  refine ⟨_, st _ hwalk, hrun, hended, hWU, hsame.weaken (fun y hy hlt' => ?_) (Nat.le_refl _) (Nat.le_refl _), ce, heapAt_setCell_self (s := V) ce hlt, hc, hv⟩
  rcases List.mem_append.mp hy with h1 | h1
  · exact h1
  · exfalso
    rw [hb y h1] at hlt'
    exact Nat.not_lt.mpr hnew hlt'
end NTA
section NTB
variable {p : Program} {l : Launch} {e : Env} {R : Room} {s : State} {m : MethodId} {args : Array Value} {below : List Frame} {meth : Method} {c : Code} {H : Heap} {locs : List Loc} {cells slots : Nat}
variable {mc ms : Nat} {free : Addr → Prop} {ls : Array Slot} {rest : List Value}
variable {Qc : Array Value → State → Outcome → State → Prop} {XC : String → State → State → Prop}
theorem nt_throwS {cc : ByteArray} {pc : Nat} (hexec : p.tables.exec = Jvm.exec) (hb : c.code = cc) (hl : l.stackTraces = false) {own cls Y1 text : String} {gi : Instr} {wi : Nat} {names : List String} {ik is ic mc ms sa : Nat} {A : Nat → Prop}
    (hown : s.vm.findClass own = some m.cls) (hcls : Bundle.fit cls = true) (hY1 : Bundle.fit Y1 = true) (hnames : ∀ n ∈ names, Bundle.fit n = true)
    (hk : (Cond.classLink own ik cls).before args s = true) (hini : (Cond.initialized cls).before args s = true) (hstr : vk_R own is text sa s) (hat : ∀ w ∈ (nt_atoms own ic cls Y1 names).filter vx_no, w.before args s = true)
    (hgood : ∀ w ∈ Cond.classLink own ik cls :: Cond.initialized cls :: (nt_atoms own ic cls Y1 names).filter vx_no, vx_ot w = true)
    (hU : vx_Zq Bundle.tN "UNASSIGNED_STACK" Bundle.steD A s s.heap) (hN : vx_Zq Bundle.tN "SUPPRESSED_SENTINEL" Bundle.listD A s s.heap) (hS : va_S A s.heap H locs) (hsize : ls.size = c.maxLocals)
    (d0 : decode cc pc = .ok (.new ik, 3)) (d3 : decode cc (pc + 3) = .ok (.dup, 1)) (hgi : gi = .ldc is ∧ wi = 2 ∨ gi = .ldc_w is ∧ wi = 3) (d4 : decode cc (pc + 4) = .ok (gi, wi)) (d6 : decode cc (pc + 4 + wi) = .ok (.invokespecial ic, 3)) (d9 : decode cc (pc + 4 + wi + 3) = .ok (.athrow, 1))
    (hout : ∀ x ∈ c.exceptionTable.toList, covers x (pc + 4 + wi + 3) = false)
    (hRframes : names.length + 4 < R.frames) (hRlocals : (rest.map fun v => v.category).sum + (13 * (names.length + 2) + 43) ≤ R.locals) (hRcells : cells + 1 ≤ R.cells) (hRslots : slots + 6 ≤ R.slots) (hlocks : meth.locks = false)
    (hx : ∀ t : State, s.vm.Alike t.vm → t.heap.size = H.size + 1 → (∀ q : Nat, q < H.size → t.heap[q]? = H[q]?) → XC cls s t)
    (hf : ∀ z ∈ locs, free z.base) (hc : cells + 1 ≤ mc) (hs : slots + 6 ≤ ms) :
    W p l e R s m args below meth c H locs cells slots (vx_MQ below Qc XC args s mc ms free) (F0 m pc ls rest) := by
  intro T hT X
  have htr : e.platform.stackTraces = false := (show e.platform.stackTraces = l.stackTraces by rw [X.admits.platform]).trans hl
  have Y := vx_rebase X (R' := { frames := R.frames, locals := R.locals, cells := 1, slots := 6 }) (Nat.le_refl _) (Nat.le_refl _) hRcells hRslots
  obtain ⟨s', hA⟩ : ∃ z, z = (T.setVm s.vm).setFrames (.invoking m args :: below) := ⟨_, rfl⟩
  rw [← hA] at Y
  have hvm : s'.vm = s.vm := by rw [hA]; rfl
  have hhp : s'.heap = H := by rw [hA]; exact hT
  have hW0 : s.WarmedH s'.vm := by rw [hvm]; exact State.WarmedH.refl s
  have hat' : ∀ w ∈ (nt_atoms own ic cls Y1 names).filter vx_no, w.before args s' = true := fun w hw => vx_ot_at hW0 hvm.symm (hgood w (List.mem_cons_of_mem _ (List.mem_cons_of_mem _ hw))) (hat w hw)
  have hk' : (Cond.classLink own ik cls).before args s' = true := vx_ot_at hW0 hvm.symm (hgood _ List.mem_cons_self) hk
  have hini' : (Cond.initialized cls).before args s' = true := vx_ot_at hW0 hvm.symm (hgood _ (List.mem_cons_of_mem _ List.mem_cons_self)) hini
  have hU' : vx_Zq Bundle.tN "UNASSIGNED_STACK" Bundle.steD A s' s'.heap := by rw [hhp]; exact vx_Zq.moved hW0.alike (hU.kept hS.2.1)
  have hN' : vx_Zq Bundle.tN "SUPPRESSED_SENTINEL" Bundle.listD A s' s'.heap := by rw [hhp]; exact vx_Zq.moved hW0.alike (hN.kept hS.2.1)
  have h : ∀ w ∈ nt_atoms own ic cls Y1 names, w.before args s' = true := vx_own hat' (vx_isRefq hU'.1) (vx_isRefq hN'.1) hU'.2.word hN'.2.word
  have hown' : s'.vm.findClass own = some m.cls := by rw [hvm]; exact hown
  have hins : (Cond.instantiable cls 6).before args s' = true := h _ (by apply nt_tail; rw [nt_drop]; simp)
  obtain ⟨vm₁, cX, kX, hfX, hkX, -, -, X₁, st1⟩ := Y.newCold hexec (own := own) (C := cls) (index := ik) (n := 6) hown' hk' hins hini'
    (g := F0 m pc ls rest) rfl (by rw [hb]; exact d0) (Nat.le_refl _) (Nat.le_refl _)
  generalize hT1 : (T.setVm vm₁).pushCell { cls := cX, slots := kX.instanceTypes.map defaultValue, vm := .none } = T1 at X₁ st1
  have hcat : (Value.ref T.heap.size).category = 1 := rfl
  have hcellA : T1.heap[T.heap.size]? = some (freshCell cX kX) := by rw [← hT1]; exact State.heap_pushCell_size _ _
  have d3' : decode c.code (pc + 3) = .ok (.dup, 1) := by rw [hb]; exact d3
  have d4' : decode c.code (pc + 4) = .ok (gi, wi) := by rw [hb]; exact d4
  have hstr' : vk_R own is text sa s' := vk_R.warm hW0 hstr
  obtain ⟨U, hsteps, hrun, hend, hW, hsame, ce, hce, hO, hOv⟩ := nt_thrown X₁ hexec htr (own := own) (cls := cls) (Y1 := Y1) (names := names) (ic := ic) hown' hcls hY1 hnames h (fun x hx => nomatch hx) hfX hkX hcellA (by rw [hhp, hT]; exact Nat.le_refl _) (msg := .ref sa) rfl
    (g := { method := m, pc := pc + 4 + wi, locals := ls, stack := .ref sa :: .ref T.heap.size :: .ref T.heap.size :: rest, locked := none }) rfl hsize rfl rfl (rest := rest) rfl
    (by rw [hb]; exact d6) (by rw [hb]; exact d9) hout hRframes (by simp only [List.map_cons, List.sum_cons, hcat]; omega) hlocks
  obtain ⟨f1, f2⟩ := vx_frame hsame
  rw [hhp] at f1 f2
  have fex : U.heap.size = H.size + 1 := by
    have g1 : U.heap.size ≤ s'.heap.size + (0 + 1) := hsame.2.2.1
    rw [hhp] at g1
    have g2 := (Array.getElem?_eq_some_iff.mp hce).1
    rw [hT] at g2
    omega
  have hWs : s.WarmedH U.vm := State.WarmedH.trans hW0 hW
  have hcl : s.vm.findClass cls = some ce.cls := by
    rw [hO, ← hvm]
    exact hfX
  have hall : s.sameButNew ({ U with vm := s.vm } : State) locs mc ms := by
    subst hA
    obtain ⟨e1, e2⟩ := hsame
    rw [State.setFrames_setFrames] at e1
    have h2 : (T.setVm s.vm).sameButNew ({ U with vm := s.vm } : State) [] (0 + 1) (0 + 6) := ⟨e1, e2⟩
    have h3 := X.same.trans h2
    rw [List.append_nil] at h3
    exact h3.mono hc hs
  refine ⟨U, ?_, .threw T.heap.size, hrun, hend, Or.inr ⟨T.heap.size, rfl, cls, ce, locs, hx U hWs.alike fex (fun q hq => f2 q hq (fun z hz => nomatch hz)), hce, hOv, hcl, hWs, hall, hf⟩⟩
  refine st1 _ ?_
  show Steps p.tables e below (T1.setTop { method := m, pc := pc + 3, locals := ls, stack := .ref T.heap.size :: rest, locked := none }) _
  jvm_step X₁.here [X₁.here.top, hexec, d3', Value.category]
  rcases hgi with ⟨rfl, rfl⟩ | ⟨rfl, rfl⟩
  · exact X₁.ldcString hexec (own := own) (text := text) (index := is) (a := sa) hown' hstr'.1 hstr'.2
      (g := { method := m, pc := pc + 4, locals := ls, stack := .ref T.heap.size :: .ref T.heap.size :: rest, locked := none }) rfl d4' _ hsteps
  · exact X₁.ldcStringW hexec (own := own) (text := text) (index := is) (a := sa) hown' hstr'.1 hstr'.2
      (g := { method := m, pc := pc + 4, locals := ls, stack := .ref T.heap.size :: .ref T.heap.size :: rest, locked := none }) rfl d4' _ hsteps
end NTB
/-- such a throw of NoSuchElementException, wherever it stands in OrderSettler -/
theorem nt_osThrows {ik ic : Nat} {cls : String} (hcls : Bundle.fit cls = true) (hk : Cond.classLink "OrderSettler" ik cls ∈ osX) (hini : Cond.initialized cls ∈ osX) (hat : ∀ w ∈ (nt_atoms "OrderSettler" ic cls "java/lang/RuntimeException" ["java/lang/Exception"]).filter vx_no, w ∈ osX) (hgood : ∀ w ∈ Cond.classLink "OrderSettler" ik cls :: Cond.initialized cls :: (nt_atoms "OrderSettler" ic cls "java/lang/RuntimeException" ["java/lang/Exception"]).filter vx_no, vx_ot w = true) : osThrows ik ic cls := by
  intro ρ rv0 mc0 ms0 y cc nL ret R k n pc lv st j jt q pd p3 p4 p7 pa hy hq1 hj hjt d0 d3 d4 d7 d10 hfr hlo hc hn hk2 hn2
  rw [← hy] at hk hat hgood
  intro p l e s m args below meth c B G z r z' hV hZ hF H locs ls hM hS hl
  obtain ⟨hx, hb, hml, hown, hr, hlk, htab, hst9, hnm⟩ := id B
  have hts := hV.word (args := args)
  obtain ⟨d0, rfl⟩ := d0
  obtain ⟨d3, rfl⟩ := d3
  obtain ⟨d7, rfl⟩ := d7
  have d10 := d10.1
  cases hF
  have hX : ∀ t : State, s.vm.Alike t.vm → t.heap.size = H.size + 1 → (∀ q : Nat, q < H.size → t.heap[q]? = H[q]?) → osXC (α := ρ) G (.inl j) (z.1, z.2.map (· + 1)) cls s t := by
    intro t hA hs1 hs2
    refine ⟨j, rfl, hj, ⟨fun a e9 ha => ?_, fun k9 hk9 => ?_⟩, Nat.le_trans hS.1 (by omega), fun q h1 h2 => by rw [hs2 q (Nat.lt_of_lt_of_le h1 hS.1)]; exact hS.2.1 q h1 h2⟩
    · have h9 := hM.1 a e9 ha
      cases e9 with
      | inl x9 => exact ⟨by rw [hs2 a (Array.getElem?_eq_some_iff.mp h9.1).1]; exact h9.1, h9.2⟩
      | inr o9 =>
        refine va_at.kept (q := (a, .inr o9)) h9 (hs2 a ?_)
        obtain ⟨q', hq', cell, q1, -⟩ := h9
        exact (Array.getElem?_eq_some_iff.mp q1).1
    · cases h2 : z.2 with
      | none => rw [h2] at hk9; cases hk9
      | some w => rw [h2] at hk9; cases hk9; rw [hs1, hM.2 w h2]
  have hout : ∀ (w : Nat), ∀ x ∈ c.exceptionTable.toList, covers x w = false := by
    intro w x hx9
    rw [htab] at hx9
    cases hx9
  have hR := hV.2.2 jt q hjt
  rw [hq1, ← hy] at hR
  rcases d4 with ⟨-, d4, rfl⟩ | ⟨d4, rfl⟩
  · exact nt_throwS (Qc := fun _ => osQT rv0 G (.inl j) (z.1, z.2.map (· + 1))) (XC := osXC (α := ρ) G (.inl j) (z.1, z.2.map (· + 1))) (text := q.2.2) (is := q.2.1) (sa := G.2.2.2.2 jt) (A := osA G) (names := ["java/lang/Exception"]) hx hb hst9 hown hcls (by decide +kernel) (by decide +kernel) (hts _ hk) (hts _ hini) hR (fun w hw => hts _ (hat w hw)) hgood hZ.2.2.2.1 hZ.2.2.2.2.1 hS (by rw [hml]; exact hl.1) d0 d3 (Or.inl ⟨rfl, rfl⟩) d4 d7 d10 (hout _) (by show 5 < R.frames; omega) (by show _ + (13 * 3 + 43) ≤ _; omega) hc hn hlk hX hS.2.2 hk2 hn2
  · exact nt_throwS (Qc := fun _ => osQT rv0 G (.inl j) (z.1, z.2.map (· + 1))) (XC := osXC (α := ρ) G (.inl j) (z.1, z.2.map (· + 1))) (text := q.2.2) (is := q.2.1) (sa := G.2.2.2.2 jt) (A := osA G) (names := ["java/lang/Exception"]) hx hb hst9 hown hcls (by decide +kernel) (by decide +kernel) (hts _ hk) (hts _ hini) hR (fun w hw => hts _ (hat w hw)) hgood hZ.2.2.2.1 hZ.2.2.2.2.1 hS (by rw [hml]; exact hl.1) d0 d3 (Or.inr ⟨rfl, rfl⟩) d4 d7 d10 (hout _) (by show 5 < R.frames; omega) (by show _ + (13 * 3 + 43) ≤ _; omega) hc hn hlk hX hS.2.2 hk2 hn2
end
section
/-! what strings made while it runs want: computed lengths, copies of bytes, clones, super calls, calls that surely don't throw -/
def osRV {α : Type} (m : osM (Nat ⊕ α)) : osM α := fun G z => match m G z with
  | some (.inr v, z') => some (v, z')
  | _ => none
theorem osRV_some {α : Type} {m : osM (Nat ⊕ α)} {G : osG} {z z' : osS} {v : α} (h : osRV m G z = some (v, z')) : m G z = some (.inr v, z') := by
  unfold osRV at h
  cases hm : m G z with
  | none => rw [hm] at h; cases h
  | some q =>
    obtain ⟨a, z1⟩ := q
    rw [hm] at h
    cases a with
    | inl j => cases h
    | inr a => cases h; rfl
theorem osMetT.sure {α : Type} {y : MethodName} {cc : ByteArray} {nL : Nat} {ret : Option FieldType} {fr lo mc ms : Nat} {rv : α → Option Value} {As : List Value} {f : osM (Nat ⊕ α)} (h : osMetT y cc nL ret fr lo mc ms rv As f) : osMet y cc nL ret fr lo mc ms rv As (osRV f) := by
  intro l hl G z r z' hf
  refine MetFree.mono (h l hl G z (.inr r) z' (osRV_some hf)) (fun _ _ q => q) (fun _ _ _ _ _ q => q) (fun a st o t hp hq => ?_)
  rcases hq with ⟨⟨v, hv, ho, hR, hF⟩, L, hL⟩ | ⟨q, -, E, ce, L, ⟨j, hj, -⟩, -⟩
  · cases hv; exact ⟨⟨ho, hR, hF⟩, L, hL⟩
  · cases hj
/-- new byte[i], at most B -/
def osnewB (B : Nat) (i : Int32) : osM Nat := fun G z => if ¬ i < 0 ∧ i.toNatClampNeg ≤ B ∧ i.toNatClampNeg ≤ 65536 then osnew (.inl (1, (i.toNatClampNeg, .inl fun _ => 0))) G z else none
/-- .. int[i] -/
def osnewI (B : Nat) (i : Int32) : osM Nat := fun G z => if ¬ i < 0 ∧ i.toNatClampNeg ≤ B ∧ i.toNatClampNeg ≤ 65536 then osnew (.inl (0, (i.toNatClampNeg, .inl fun _ => 0))) G z else none
/-- the bytes that a copy takes: a constant text's, or those of an array that is known -/
def osbsrc (G : osG) (z : osS) (a0 : Nat) : Option (Nat × (Nat → Int32)) := match osfind G 100 a0 with
  | some j => some ((osTs.getD j []).length, fun i => (osTs.getD j []).getD i 0)
  | none => match osga 1 a0 z with
    | some (n0, .inl f) => some (n0, f)
    | _ => none
def osbcopy (a0 : Nat) (sp : Int32) (a : Nat) (dp n : Int32) : osM Unit := fun G z => match osbsrc G z a0, osga 1 a z with
  | some (n0, f), some (n1, .inl g) => if (¬ sp < 0 ∧ ¬ dp < 0 ∧ ¬ n < 0 ∧ sp.toNatClampNeg + n.toNatClampNeg ≤ n0 ∧ dp.toNatClampNeg + n.toNatClampNeg ≤ n1 ∧ G.2.2.1 ≤ a) ∧ ∀ i, i < n.toNatClampNeg → fits .byte (.int (f (sp.toNatClampNeg + i))) = true then some ((), osup z a (.inl (1, (n1, .inl (va_cpy f g sp.toNatClampNeg dp.toNatClampNeg n.toNatClampNeg))))) else none
  | _, _ => none
theorem osbcopy_some {a0 a : Nat} {sp dp n : Int32} {G : osG} {z z1 : osS} {u : Unit} (h : osbcopy a0 sp a dp n G z = some (u, z1)) : ∃ n0 f n1 g, osbsrc G z a0 = some (n0, f) ∧ z.1 a = some (.inl (1, (n1, .inl g))) ∧ ¬ sp < 0 ∧ ¬ dp < 0 ∧ ¬ n < 0 ∧ sp.toNatClampNeg + n.toNatClampNeg ≤ n0 ∧ dp.toNatClampNeg + n.toNatClampNeg ≤ n1 ∧ osA G a ∧ (∀ i, i < n.toNatClampNeg → fits .byte (.int (f (sp.toNatClampNeg + i))) = true) ∧ z1 = osup z a (.inl (1, (n1, .inl (va_cpy f g sp.toNatClampNeg dp.toNatClampNeg n.toNatClampNeg)))) := by
  unfold osbcopy at h
  cases h0 : osbsrc G z a0 with
  | none => rw [h0] at h; cases h
  | some q0 =>
    obtain ⟨n0, f⟩ := q0
    cases h1 : osga 1 a z with
    | none => rw [h0, h1] at h; cases h
    | some q1 =>
      rw [h0, h1] at h
      obtain ⟨n1, g | g | g | g | g⟩ := q1 <;> first | cases h | skip
      replace h : (if (¬ sp < 0 ∧ ¬ dp < 0 ∧ ¬ n < 0 ∧ sp.toNatClampNeg + n.toNatClampNeg ≤ n0 ∧ dp.toNatClampNeg + n.toNatClampNeg ≤ n1 ∧ G.2.2.1 ≤ a) ∧ ∀ i, i < n.toNatClampNeg → fits .byte (.int (f (sp.toNatClampNeg + i))) = true then some ((), osup z a (.inl (1, (n1, .inl (va_cpy f g sp.toNatClampNeg dp.toNatClampNeg n.toNatClampNeg))))) else none) = some (u, z1) := h
      split at h
      · rename_i hc
        cases h
        exact ⟨n0, f, n1, g, rfl, osga_some h1, hc.1.1, hc.1.2.1, hc.1.2.2.1, hc.1.2.2.2.1, hc.1.2.2.2.2.1, hc.1.2.2.2.2.2, hc.2, rfl⟩
      · cases h
/-- a clone of an array of bytes, at most B -/
def osbclone (B : Nat) (a : Nat) : osM Nat := fun G z => match osga 1 a z with
  | some (n, .inl f) => if n ≤ B ∧ ∀ i, i < n → fits .byte (.int (f i)) = true then osnew (.inl (1, (n, .inl f))) G z else none
  | _ => none
theorem osbclone_some {B a q : Nat} {G : osG} {z z1 : osS} (h : osbclone B a G z = some (q, z1)) : ∃ n f, z.1 a = some (.inl (1, (n, .inl f))) ∧ n ≤ B ∧ (∀ i, i < n → fits .byte (.int (f i)) = true) ∧ osnew (.inl (1, (n, .inl f))) G z = some (q, z1) := by
  unfold osbclone at h
  cases h1 : osga 1 a z with
  | none => rw [h1] at h; cases h
  | some q1 =>
    rw [h1] at h
    obtain ⟨n, f | f | f | f | f⟩ := q1 <;> first | cases h | skip
    replace h : (if n ≤ B ∧ ∀ i, i < n → fits .byte (.int (f i)) = true then osnew (.inl (1, (n, .inl f))) G z else none) = some (q, z1) := h
    split at h
    · rename_i hc
      exact ⟨n, f, osga_some h1, hc.1, hc.2, h⟩
    · cases h
/-- a cast to byte[] -/
def osbcast (a : Nat) : osM Unit := fun _ z => match osga 1 a z with
  | some (_, .inl _) => some ((), z)
  | _ => none
theorem osbcast_some {a : Nat} {G : osG} {z z1 : osS} {u : Unit} (h : osbcast a G z = some (u, z1)) : z1 = z ∧ ∃ n f, z.1 a = some (.inl (1, (n, .inl f))) := by
  unfold osbcast at h
  cases h1 : osga 1 a z with
  | none => rw [h1] at h; cases h
  | some q1 =>
    rw [h1] at h
    obtain ⟨n, f | f | f | f | f⟩ := q1 <;> cases h
    exact ⟨rfl, n, f, osga_some h1⟩
section R
variable {ρ : Type} {Fi : osF ρ} {y : MethodName} {cc : ByteArray} {nL : Nat} {ret : Option FieldType} {hh : List (Nat × Nat × Nat × Nat)} {R : Room} {k n k' n' : Nat} {pc pc' : Nat} {lv : List (Nat × Value)} {st : List Value} {F : osM ρ}
theorem os_dup_x1 {va vb : Value} (ha : va.category = 1) (hb9 : vb.category = 1) (hd : osD cc pc 1 pc' .dup_x1) (kk : osW Fi y cc nL ret hh R k n pc' lv (va :: vb :: va :: st) F) : osW Fi y cc nL ret hh R k n pc lv (va :: vb :: st) F := by
  intro p l e s m args below meth c B G z r z' hV hZ hF H locs ls hM hS hl
  obtain ⟨hx, hb, hml, hown, hr, hlk, htab, hst, hnm⟩ := id B
  obtain ⟨hd, rfl⟩ := hd
  exact lv_dup_x1 hx hb hd ha hb9 (kk p l e s m args below meth c B G z r z' hV hZ hF H locs ls hM hS hl)
theorem os_null (hd : osD cc pc 1 pc' .aconst_null) (kk : osW Fi y cc nL ret hh R k n pc' lv (.null :: st) F) : osW Fi y cc nL ret hh R k n pc lv st F := by
  intro p l e s m args below meth c B G z r z' hV hZ hF H locs ls hM hS hl
  obtain ⟨hx, hb, hml, hown, hr, hlk, htab, hst, hnm⟩ := id B
  obtain ⟨hd, rfl⟩ := hd
  exact lv_null hx hb hd (kk p l e s m args below meth c B G z r z' hV hZ hF H locs ls hM hS hl)
theorem os_nonnull {v : Nat} {off : Int} {tgt : Nat} (ht : (pc : Int) + off = (tgt : Int)) (hd : osD cc pc 3 pc' (.ifnonnull off)) (kk : osW Fi y cc nL ret hh R k n tgt lv st F) : osW Fi y cc nL ret hh R k n pc lv (.ref v :: st) F := by
  intro p l e s m args below meth c B G z r z' hV hZ hF H locs ls hM hS hl
  obtain ⟨hx, hb, hml, hown, hr, hlk, htab, hst, hnm⟩ := id B
  obtain ⟨hd, rfl⟩ := hd
  exact lv_ifnonnull hx hb hd ht (kk p l e s m args below meth c B G z r z' hV hZ hF H locs ls hM hS hl)
theorem os_newB {B9 : Nat} {i : Int32} {f : Nat → osM ρ} (hw : Cond.arrayClass .byte ∈ osX) (hk : k + 1 ≤ R.cells) (hn : n + B9 ≤ R.slots) (hd : osD cc pc 2 pc' (.newarray .byte)) (kk : ∀ q, osW Fi y cc nL ret hh R (k + 1) (n + B9) pc' lv (.ref q :: st) (f q)) : osW Fi y cc nL ret hh R k n pc lv (.int i :: st) (osbind (osnewB B9 i) f) := by
  intro p l e s m args below meth c B G z r z' hV hZ hF H locs ls hM hS hl
  obtain ⟨q, z1, g1, g2⟩ := osbind_some hF
  unfold osnewB at g1
  split at g1
  · rename_i hc
    have h5 : i.toNatClampNeg ≤ B9 := hc.2.1
    exact os_newarray (at9 := .byte) (ty := .byte) (t := 1) (N := i.toNatClampNeg) rfl rfl rfl hw (fun _ => rfl) hc.1 rfl (by show _ * 1 ≤ _; omega) hk (by omega) hd (fun q9 => osW.widen (Nat.le_refl _) (by omega) (kk q9)) p l e s m args below meth c B G z r z' hV hZ (show osbind _ f G z = _ by unfold osbind; rw [g1]; exact g2) H locs ls hM hS hl
  · cases g1
theorem os_newI {B9 : Nat} {i : Int32} {f : Nat → osM ρ} (hw : Cond.arrayClass .int ∈ osX) (hk : k + 1 ≤ R.cells) (hn : n + B9 ≤ R.slots) (hd : osD cc pc 2 pc' (.newarray .int)) (kk : ∀ q, osW Fi y cc nL ret hh R (k + 1) (n + B9) pc' lv (.ref q :: st) (f q)) : osW Fi y cc nL ret hh R k n pc lv (.int i :: st) (osbind (osnewI B9 i) f) := by
  intro p l e s m args below meth c B G z r z' hV hZ hF H locs ls hM hS hl
  obtain ⟨q, z1, g1, g2⟩ := osbind_some hF
  unfold osnewI at g1
  split at g1
  · rename_i hc
    have h5 : i.toNatClampNeg ≤ B9 := hc.2.1
    exact os_newarray (at9 := .int) (ty := .int) (t := 0) (N := i.toNatClampNeg) rfl rfl rfl hw (fun _ => rfl) hc.1 rfl (by show _ * 4 ≤ _; omega) hk (by omega) hd (fun q9 => osW.widen (Nat.le_refl _) (by omega) (kk q9)) p l e s m args below meth c B G z r z' hV hZ (show osbind _ f G z = _ by unfold osbind; rw [g1]; exact g2) H locs ls hM hS hl
  · cases g1
theorem os_bcopy {a0 a idx : Nat} {sp dp i : Int32} (hw1 : Cond.methodLink y.cls idx arraycopyName ∈ osX) (hw2 : Cond.native arraycopyName ∈ osX) (hw3 : Cond.static arraycopyName ∈ osX) (hw4 : Cond.initialized "java/lang/System" ∈ osX) (hcat : (st.map fun v => v.category).sum ≤ 8) (hfr : 1 ≤ R.frames) (hlo : 8 + (nativeFrameWords "java/lang/System" "arraycopy" 5 + 11) ≤ R.locals) (hd : osD cc pc 3 pc' (.invokestatic idx)) (kk : osW Fi y cc nL ret hh R k n pc' lv st F) : osW Fi y cc nL ret hh R k n pc lv (.int i :: .int dp :: .ref a :: .int sp :: .ref a0 :: st) (osbind (osbcopy a0 sp a dp i) fun _ => F) := by
  intro p l e s m args below meth c B G z r z' hV hZ hF H locs ls hM hS hl
  obtain ⟨hx, hb, hml, hown, hr, hlk, htab, hst, hnm⟩ := id B
  obtain ⟨u, z1, g1, g2⟩ := osbind_some hF
  obtain ⟨n0, f, n1, g, hz0, hz1, h1, h2, h3, h4, h5, hA, hft, rfl⟩ := osbcopy_some g1
  obtain ⟨hd, rfl⟩ := hd
  have hts := hV.word (args := args)
  have nn : ∀ z : Int32, ¬ z < 0 → z.toInt = (z.toNatClampNeg : Int) := by
    intro z hz
    have hz0 : (0 : Int) ≤ z.toInt := by
      have := Int32.not_lt.mp hz
      simpa using Int32.le_iff_toInt_le.mp this
    show z.toInt = ((z.toInt.toNat : Nat) : Int)
    omega
  have hc1 : H[a]? = some (vp_cell (G.2.1 1) (n1, .inl g)) := (hM.1 a _ hz1).1
  have ht0 : (osTys G)[1]? = some (G.2.1 1, .byte) := rfl
  obtain ⟨-, k1, hk1, cm1, hkk1⟩ := (hV.2.1.2 1 _ ht0).1 n1 (fun j => .int (g j))
  obtain ⟨scr, hc0, hs6, hs3, k0, hk0, cm0, hkk0, hs4, hs5⟩ : ∃ scr : Cell, H[a0]? = some scr ∧ (∀ k, scr.vm = .statics k → False) ∧ scr.vm ≠ .unknown ∧ ∃ k0, s.vm.classes[scr.cls]? = some k0 ∧ ∃ cm0, k0.kind = .array cm0 .byte ∧ n0 ≤ scr.slots.size ∧ ∀ j : Nat, j < n0 → scr.slots[j]? = some (.int (f j)) := by
    unfold osbsrc at hz0
    rcases osfind_cs hz0 with ⟨j, hj, hja, g3⟩ | g3
    · cases g3
      obtain ⟨scr, hs1, ⟨hs6, k0, hk0, cm0, hkk0⟩, hs3, hs4, -, hs5, hs7⟩ := (hZ.2.2.2.2.2.2.1 j _ (osTs_at hj)).2.2.2
      rw [hja] at hs1 hs7
      exact ⟨scr, by rw [hS.2.1 a0 (Array.getElem?_eq_some_iff.mp hs1).1 hs7]; exact hs1, hs6, hs3, k0, hk0, cm0, hkk0, hs4, hs5⟩
    · cases h7 : osga 1 a0 z with
      | none => rw [h7] at g3; cases g3
      | some w =>
        rw [h7] at g3
        obtain ⟨n9, f9 | f9 | f9 | f9 | f9⟩ := w <;> first | cases g3 | skip
        obtain ⟨-, k0, hk0, cm0, hkk0⟩ := (hV.2.1.2 1 _ ht0).1 n0 (fun j => .int (f j))
        exact ⟨vp_cell (G.2.1 1) (n0, .inl f), (hM.1 a0 _ (osga_some h7)).1, (fun _ h => by cases h), (fun h => by cases h), k0, hk0, cm0, hkk0, by show n0 ≤ (arrV _ _ _).slots.size; rw [arrV_size]; exact Nat.le_refl _, fun j hj => by show (arrV _ _ _).slots[j]? = _; rw [arrV_read _ _ hj]⟩
  intro T hT X
  obtain ⟨vm', X', step⟩ := X.arraycopy hx hown (hts _ hw1) (hts _ hw2) (hts _ hw3) (hts _ hw4) (src := a0) (dst := a) (cs := scr) (cd := vp_cell (G.2.1 1) (n1, .inl g)) (srcPos := sp) (destPos := dp) (n := i) (by rw [hT]; exact hc0) (by rw [hT]; exact hc1)
    hs6 (fun _ h => by cases h) hs3 (fun h => by cases h) hk0 hk1 hkk0 hkk1 (by simp [refKind]) h1 h2 h3
    (by rw [nn sp h1, nn i h3]; omega)
    (by rw [nn dp h2, nn i h3]; show ¬ _ > ((arrV (G.2.1 1) n1 (fun j => .int (g j))).slots.size : Int); rw [arrV_size]; omega)
    (fun vm₁ _ i9 hi => by
      have e : scr.slots.getD (sp.toNatClampNeg + i9) .null = .int (f (sp.toNatClampNeg + i9)) := by
        rw [Array.getD_eq_getD_getElem?, hs5 _ (by omega)]
        rfl
      refine ⟨?_, ?_⟩
      · rw [e]
        exact hft i9 hi
      · rw [e]
        exact trivial)
    (g := F0 m pc ls (.int i :: .int dp :: .ref a :: .int sp :: .ref a0 :: st)) rfl (by rw [hml]; exact hl.1) (rest := st) rfl (by rw [hb]; exact hd) hfr (by show 2 * 0 + _ + _ ≤ _; omega)
  have e1 : copied scr (vp_cell (G.2.1 1) (n1, .inl g)) sp dp i = vp_cell (G.2.1 1) (n1, .inl (va_cpy f g sp.toNatClampNeg dp.toNatClampNeg i.toNatClampNeg)) := va_copiedX (fun z => .int z) scr (G.2.1 1) f g hs5 h4
  rw [e1] at X' step
  have hlt : a < H.size := (Array.getElem?_eq_some_iff.mp hc1).1
  have hheap : ((T.setVm vm').setCell a (vp_cell (G.2.1 1) (n1, .inl (va_cpy f g sp.toNatClampNeg dp.toNatClampNeg i.toNatClampNeg)))).heap = H.setIfInBounds a (vp_cell (G.2.1 1) (n1, .inl (va_cpy f g sp.toNatClampNeg dp.toNatClampNeg i.toNatClampNeg))) := by rw [← hT]; rfl
  have oq : ∀ q : Nat, q ≠ a → (H.setIfInBounds a (vp_cell (G.2.1 1) (n1, .inl (va_cpy f g sp.toNatClampNeg dp.toNatClampNeg i.toNatClampNeg))))[q]? = H[q]? := fun q hq => by simp [Array.getElem?_setIfInBounds, Ne.symm hq]
  have hat1 : osAt G a (.inl (1, (n1, .inl (va_cpy f g sp.toNatClampNeg dp.toNatClampNeg i.toNatClampNeg)))) (H.setIfInBounds a (vp_cell (G.2.1 1) (n1, .inl (va_cpy f g sp.toNatClampNeg dp.toNatClampNeg i.toNatClampNeg)))) := ⟨by simp [Array.getElem?_setIfInBounds, hlt], (hM.1 a _ hz1).2⟩
  obtain ⟨t, a1, b1⟩ := kk p l e s m args below meth c B G _ r z' hV hZ g2 _ _ ls (hM.up (by simp) oq hat1) ⟨by simp; exact hS.1, fun q g1 g2 => by
      rw [oq q (fun e => g2 (by rw [e]; exact hA))]
      exact hS.2.1 q g1 g2, fun q hq => by
      rcases List.mem_append.mp hq with h | h
      · exact hS.2.2 q h
      · obtain ⟨z, -, hz⟩ := List.mem_map.mp h
        rw [← hz]
        exact hA⟩ hl _ hheap X'
  exact ⟨t, step t a1, b1⟩
theorem os_bclone {B9 a idx : Nat} {f : Nat → osM ρ} (hw1 : Cond.methodLink y.cls idx ⟨"[B", "clone", "()Ljava/lang/Object;"⟩ ∈ osX) (hw2 : Cond.sameMethod "[B" "java/lang/Object" "clone" "()Ljava/lang/Object;" ∈ osX) (hw3 : Cond.native ⟨"java/lang/Object", "clone", "()Ljava/lang/Object;"⟩ ∈ osX) (hw4 : Cond.instanceMethod ⟨"java/lang/Object", "clone", "()Ljava/lang/Object;"⟩ ∈ osX) (hw5 : Cond.selects "[B" ⟨"[B", "clone", "()Ljava/lang/Object;"⟩ ⟨"java/lang/Object", "clone", "()Ljava/lang/Object;"⟩ ∈ osX) (hw6 : Cond.castable "[B" "java/lang/Cloneable" ∈ osX)
    (hcat : (st.map fun v => v.category).sum ≤ 8) (hfr : 1 ≤ R.frames) (hlo : 22 ≤ R.locals) (hk : k + 1 ≤ R.cells) (hn : n + B9 ≤ R.slots) (hd : osD cc pc 3 pc' (.invokevirtual idx)) (kk : ∀ q, osW Fi y cc nL ret hh R (k + 1) (n + B9) pc' lv (.ref q :: st) (f q)) : osW Fi y cc nL ret hh R k n pc lv (.ref a :: st) (osbind (osbclone B9 a) f) := by
  intro p l e s m args below meth c B G z r z' hV hZ hF H locs ls hM hS hl
  obtain ⟨hx, hb, hml, hown, hr, hlk, htab, hst, hnm⟩ := id B
  obtain ⟨q, z1, g1, g2⟩ := osbind_some hF
  obtain ⟨n1, f1, hz, hn1, hft, g3⟩ := osbclone_some g1
  obtain ⟨hz2, hA, rfl⟩ := osnew_some g3
  obtain ⟨hd, rfl⟩ := hd
  have hts := hV.word (args := args)
  have hsz := hM.2 q hz2
  have hc0 : H[a]? = some (vp_cell (G.2.1 1) (n1, .inl f1)) := (hM.1 a _ hz).1
  have ht0 : (osTys G)[1]? = some (G.2.1 1, .byte) := rfl
  obtain ⟨hAr, hra⟩ := hV.2.1.2 1 _ ht0
  have hnmB : s.vm.findClass "[B" = some (G.2.1 1) := hra
  obtain ⟨c0, t0', f0, f2, f3⟩ := Cond.castable_spec (hts _ hw6)
  cases hnmB.symm.trans f0
  intro T hT X
  have hcellT : T.heap[a]? = some (vp_cell (G.2.1 1) (n1, .inl f1)) := by rw [hT]; exact hc0
  obtain ⟨-, kA, hkA, comp, hkind⟩ := State.isArrayOf_alike X.warmed.alike (hAr 0 (fun _ => .null))
  obtain ⟨-, kS, hkS, compS, hkindS⟩ := hAr 0 (fun _ => .null)
  have hss : (vp_cell (G.2.1 1) (n1, .inl f1)).slots.size = n1 := arrV_size _ _ _
  obtain ⟨vm', X', st9⟩ := X.cloneArray hx hown (hts _ hw1) (hts _ hw2) (hts _ hw3) (hts _ hw4) (hts _ hw5) (a := a) (cell := vp_cell (G.2.1 1) (n1, .inl f1)) hcellT (fun k h => by cases h) (fun h => by cases h) hnmB f2 f3
    (fun i v hv => by
      have hk' : T.vm.classes[G.2.1 1]? = some kA := hkA
      have hv2 : (arrV (G.2.1 1) n1 (fun j => .int (f1 j))).slots[i]? = some v := hv
      have hi : i < n1 := by
        have := (Array.getElem?_eq_some_iff.mp hv2).1
        rwa [arrV_size] at this
      rw [arrV_read _ _ hi] at hv2
      cases hv2
      have := hft i hi
      simpa [State.fitsSlot, State.slotType?, hk', hkind, vp_cell, arrV] using this)
    (g := F0 m pc ls (.ref a :: st)) rfl (by rw [hml]; exact hl.1) rfl (by rw [hb]; exact hd) hfr (by show 2 * 0 + _ + 14 ≤ _; omega) hk (by rw [hss]; omega) (hloader := Vm.clonesLoader_of_array hkS hkindS)
  have hcellE : ({ cls := (vp_cell (G.2.1 1) (n1, .inl f1)).cls, slots := (vp_cell (G.2.1 1) (n1, .inl f1)).slots } : Cell) = vp_cell (G.2.1 1) (n1, .inl f1) := rfl
  rw [hcellE, hss] at X'
  generalize hH1 : H.push (vp_cell (G.2.1 1) (n1, .inl f1)) = H1
  have z1 : H1.size = q + 1 := by rw [← hH1, Array.size_push, hsz]
  have e1 : H1[q]? = some (vp_cell (G.2.1 1) (n1, .inl f1)) := by rw [← hH1, ← hsz, Array.getElem?_push_size]
  have o1 : ∀ b : Nat, b < q → H1[b]? = H[b]? := fun b hb => by rw [← hH1, Array.getElem?_push, if_neg (by omega)]
  have hat1 : osAt G q (.inl (1, (n1, .inl f1))) H1 := ⟨e1, (hM.1 a _ hz).2⟩
  obtain ⟨t, b1, b2⟩ := osW.widen (k' := k + 1) (n' := n + B9) (k := k + 1) (n := n + n1) (Nat.le_refl _) (by omega) (kk q) p l e s m args below meth c B G _ r z' hV hZ g2 H1 locs ls (hM.new hz2 z1 o1 hat1) (osS_new hS hsz z1 o1) hl ((T.setVm vm').pushCell (vp_cell (G.2.1 1) (n1, .inl f1))) (by rw [← hH1, ← hT]; rfl) X'
  refine ⟨t, st9 t ?_, b2⟩
  rw [hcellE, hT, hsz]
  exact b1
theorem os_bcast {a idx : Nat} (hw : Cond.classLink y.cls idx "[B" ∈ osX) (hd : osD cc pc 3 pc' (.checkcast idx)) (kk : osW Fi y cc nL ret hh R k n pc' lv (.ref a :: st) F) : osW Fi y cc nL ret hh R k n pc lv (.ref a :: st) (osbind (osbcast a) fun _ => F) := by
  intro p l e s m args below meth c B G z r z' hV hZ hF H locs ls hM hS hl
  obtain ⟨hx, hb, hml, hown, hr, hlk, htab, hst, hnm⟩ := id B
  obtain ⟨u, z1, g1, g2⟩ := osbind_some hF
  obtain ⟨rfl, n1, f1, hz⟩ := osbcast_some g1
  obtain ⟨hd, rfl⟩ := hd
  have hts := hV.word (args := args)
  have ht0 : (osTys G)[1]? = some (G.2.1 1, .byte) := rfl
  exact va_castA (D := G.1) (cl := vwCl) hx hb hown (hts _ hw) (va_P1 (e := .inl (G.2.1 1, (n1, .inl f1))) (hM.1 a _ hz).1) 0 rfl (hV.2.1.2 1 _ ht0).2 hd (kk p l e s m args below meth c B G z1 r z' hV hZ g2 H locs ls hM hS hl)
end R
section S
variable {ρ : Type} {Fi : osF ρ} {y : MethodName} {cc : ByteArray} {nL : Nat} {ret : Option FieldType} {hh : List (Nat × Nat × Nat × Nat)} {R : Room} {k n k' n' : Nat} {pc pc' : Nat} {lv : List (Nat × Value)} {st : List Value} {F : osM ρ}
variable {α : Type} {rv : α → Option Value} {y' : MethodName} {cc' : ByteArray} {nL' : Nat} {ret' : Option FieldType} {fr lo mc ms np idx b : Nat} {As : List Value} {g : osM α} {f : α → osM ρ} {stk : List Value} {st' : α → List Value}
/-- super.m(..) -/
theorem os_callSU {cis : List Nat} (hd' : osMd y' cc' nL' ret' np) (h3 : Cond.methodLink y.cls idx y' ∈ osX) (h5 : Cond.sameMethod y'.cls y'.cls y'.name y'.desc ∈ osX) (h6 : Cond.superclass y.cls y'.cls ∈ osX) (h4 : Cond.instanceMethod y' ∈ osX) (hno : y'.name ≠ "<init>") (hMt : osMet y' cc' nL' ret' fr lo mc ms rv (.ref b :: As) g) (hn : As.length = np) (hst : stk = As.reverse ++ .ref b :: st) (hsp : ∀ r, (rv r).toList ++ st = st' r) (hcat : (st.map fun v => v.category).sum ≤ 8) (hfr : fr + 1 ≤ R.frames) (hlo : 8 + (nL' + 11) + lo ≤ R.locals) (hk : k + mc = k') (hk2 : k' ≤ R.cells) (hn1 : n + ms = n') (hn2 : n' ≤ R.slots) (hd : osD cc pc 3 pc' (.invokespecial idx)) (kk : ∀ r, osW Fi y cc nL ret hh R k' n' pc' lv (st' r) (f r)) : osW Fi y cc nL ret hh R k n pc lv stk (osbind (osrecv cis b g) f) := by
  intro p l e s m args below meth c B G z r z' hV hZ hF H locs ls hM hS hl
  obtain ⟨hx, hb, hml, hown, hr, hlk, htab, hst9, hnm⟩ := id B
  obtain ⟨v, z1, g0, g2⟩ := osbind_some hF
  obtain ⟨ci, fs, hz, hc, g1⟩ := osrecv_some g0
  obtain ⟨hd, rfl⟩ := hd
  subst hk; subst hn1; subst hst
  have hts := hV.word (args := args)
  have hM0 := hMt l hst9 G z v z1 g1
  have cw : va_CS R s args y.cls idx y' cc' nL' ret' [.code y' cc' nL' ret'] { frames := fr, cells := mc, slots := ms, locals := lo } mc ms np :=
    ⟨⟨rfl, rfl, hfr, hlo, osOne hV hd'.1, List.mem_cons_self⟩, hts _ h3, hts _ h5, hts _ h6, hts _ h4, hts _ hd'.2.1, hts _ hd'.1, hno, hd'.len⟩
  obtain ⟨q9, hq9, -⟩ := id (hM.1 b _ hz)
  have hrc := va_recv (q0 := 0) hV.2.1 (va_P1 (show va_at G.1 vwCl (b, .inr (ci, fs)) H from hM.1 b _ hz)) hq9 rfl
  have hrun := va_runSU (e := e) (below := below) (meth := meth) (H := H) (locs := locs) (cells := k) (slots := n) (rest := st) (g := F0 m pc ls (As.reverse ++ .ref b :: st)) (hV.2.1.1 ci _ hq9).2 ⟨hx, hb, hml, hown, hts⟩ hM0 cw ⟨osR.blind, hrc, fun U hU hW => ⟨rfl, osR.end hV hZ hM hS hU hW⟩⟩ rfl hn hl.1 rfl (lv_room hcat) hd ⟨hk2, hn2⟩
  refine osQc.next (rv := rv) (G := G) (r := v) (z := z1) hrun hS fun H1 locs1 hM1 hS1 => ?_
  rw [hsp v]
  exact kk v p l e s m args below meth c B G z1 r z' hV hZ g2 H1 locs1 ls hM1 hS1 hl
end S
end
