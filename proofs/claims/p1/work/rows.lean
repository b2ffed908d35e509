section
-- ===== PART A: goes FIRST, ahead of the names: the tables' words, and 'selects' of the private methods out of them =====
/-- a private method of a class that the tables say can be made, by its rows of tables_1 -/
def lw_okq (q : MethodName × Nat) : Prop := (q.1.cls ≠ "java/lang/invoke/MethodHandle" ∧ q.1.cls ≠ "java/lang/invoke/VarHandle") ∧ Cond.instantiable q.1.cls q.2 ∈ tables_1 ∧ Cond.privateMethod q.1 ∈ tables_1 ∧ Cond.instanceMethod q.1 ∈ tables_1
theorem lw_p0 : lw_okq (⟨"TripleTrains$SetupText", "advance", "()V"⟩, 8) := ⟨⟨by decide +kernel, by decide +kernel⟩, List.mem_of_getElem? (i := 38) (by decide +kernel), List.mem_of_getElem? (i := 343) (by decide +kernel), List.mem_of_getElem? (i := 344) (by decide +kernel)⟩
theorem lw_p1 : lw_okq (⟨"TripleTrains$SetupText", "byteAt", "(I)I"⟩, 8) := ⟨⟨by decide +kernel, by decide +kernel⟩, List.mem_of_getElem? (i := 38) (by decide +kernel), List.mem_of_getElem? (i := 347) (by decide +kernel), List.mem_of_getElem? (i := 348) (by decide +kernel)⟩
theorem lw_p2 : lw_okq (⟨"TripleTrains$SetupText", "readWord", "()V"⟩, 8) := ⟨⟨by decide +kernel, by decide +kernel⟩, List.mem_of_getElem? (i := 38) (by decide +kernel), List.mem_of_getElem? (i := 354) (by decide +kernel), List.mem_of_getElem? (i := 355) (by decide +kernel)⟩
theorem lw_p3 : lw_okq (⟨"TripleTrains$SetupText", "readNumber", "()V"⟩, 8) := ⟨⟨by decide +kernel, by decide +kernel⟩, List.mem_of_getElem? (i := 38) (by decide +kernel), List.mem_of_getElem? (i := 361) (by decide +kernel), List.mem_of_getElem? (i := 362) (by decide +kernel)⟩
theorem lw_p4 : lw_okq (⟨"TripleTrains$SetupText", "readPoints", "(LTripleTrains$Board;)Z"⟩, 8) := ⟨⟨by decide +kernel, by decide +kernel⟩, List.mem_of_getElem? (i := 38) (by decide +kernel), List.mem_of_getElem? (i := 365) (by decide +kernel), List.mem_of_getElem? (i := 366) (by decide +kernel)⟩
theorem lw_p5 : lw_okq (⟨"TripleTrains$SetupText", "isWord", "(Ljava/lang/String;)Z"⟩, 8) := ⟨⟨by decide +kernel, by decide +kernel⟩, List.mem_of_getElem? (i := 38) (by decide +kernel), List.mem_of_getElem? (i := 370) (by decide +kernel), List.mem_of_getElem? (i := 371) (by decide +kernel)⟩
theorem lw_p6 : lw_okq (⟨"TripleTrains$SetupText", "fail", "(I)Z"⟩, 8) := ⟨⟨by decide +kernel, by decide +kernel⟩, List.mem_of_getElem? (i := 38) (by decide +kernel), List.mem_of_getElem? (i := 422) (by decide +kernel), List.mem_of_getElem? (i := 423) (by decide +kernel)⟩
theorem lw_p7 : lw_okq (⟨"TripleTrains$SetupText", "readStatement", "(LTripleTrains$Board;)Z"⟩, 8) := ⟨⟨by decide +kernel, by decide +kernel⟩, List.mem_of_getElem? (i := 38) (by decide +kernel), List.mem_of_getElem? (i := 427) (by decide +kernel), List.mem_of_getElem? (i := 428) (by decide +kernel)⟩
theorem lw_p8 : lw_okq (⟨"TripleTrains$Board", "join", "(III)V"⟩, 6) := ⟨⟨by decide +kernel, by decide +kernel⟩, List.mem_of_getElem? (i := 73) (by decide +kernel), List.mem_of_getElem? (i := 470) (by decide +kernel), List.mem_of_getElem? (i := 471) (by decide +kernel)⟩
theorem lw_p9 : lw_okq (⟨"TripleTrains", "settle", "()V"⟩, 12) := ⟨⟨by decide +kernel, by decide +kernel⟩, List.mem_of_getElem? (i := 30) (by decide +kernel), List.mem_of_getElem? (i := 490) (by decide +kernel), List.mem_of_getElem? (i := 491) (by decide +kernel)⟩
theorem lw_p10 : lw_okq (⟨"TripleTrains$Board", "number", "(III)V"⟩, 6) := ⟨⟨by decide +kernel, by decide +kernel⟩, List.mem_of_getElem? (i := 73) (by decide +kernel), List.mem_of_getElem? (i := 502) (by decide +kernel), List.mem_of_getElem? (i := 503) (by decide +kernel)⟩
theorem lw_p11 : lw_okq (⟨"TripleTrains$Board", "numberPair", "(II)V"⟩, 6) := ⟨⟨by decide +kernel, by decide +kernel⟩, List.mem_of_getElem? (i := 73) (by decide +kernel), List.mem_of_getElem? (i := 509) (by decide +kernel), List.mem_of_getElem? (i := 510) (by decide +kernel)⟩
theorem lw_p12 : lw_okq (⟨"TripleTrains$Quads", "keep", "(IIIII)V"⟩, 3) := ⟨⟨by decide +kernel, by decide +kernel⟩, List.mem_of_getElem? (i := 169) (by decide +kernel), List.mem_of_getElem? (i := 534) (by decide +kernel), List.mem_of_getElem? (i := 535) (by decide +kernel)⟩
theorem lw_p13 : lw_okq (⟨"TripleTrains", "remember", "()V"⟩, 12) := ⟨⟨by decide +kernel, by decide +kernel⟩, List.mem_of_getElem? (i := 30) (by decide +kernel), List.mem_of_getElem? (i := 559) (by decide +kernel), List.mem_of_getElem? (i := 560) (by decide +kernel)⟩
theorem lw_p14 : lw_okq (⟨"TripleTrains$History", "forgetOldest", "()V"⟩, 4) := ⟨⟨by decide +kernel, by decide +kernel⟩, List.mem_of_getElem? (i := 127) (by decide +kernel), List.mem_of_getElem? (i := 567) (by decide +kernel), List.mem_of_getElem? (i := 568) (by decide +kernel)⟩
theorem lw_p15 : lw_okq (⟨"TripleTrains$Board", "part", "(II)V"⟩, 6) := ⟨⟨by decide +kernel, by decide +kernel⟩, List.mem_of_getElem? (i := 73) (by decide +kernel), List.mem_of_getElem? (i := 604) (by decide +kernel), List.mem_of_getElem? (i := 605) (by decide +kernel)⟩
def lw_privs_1 : List (MethodName × Nat) := [(⟨"TripleTrains$SetupText", "advance", "()V"⟩, 8), (⟨"TripleTrains$SetupText", "byteAt", "(I)I"⟩, 8), (⟨"TripleTrains$SetupText", "readWord", "()V"⟩, 8), (⟨"TripleTrains$SetupText", "readNumber", "()V"⟩, 8), (⟨"TripleTrains$SetupText", "readPoints", "(LTripleTrains$Board;)Z"⟩, 8), (⟨"TripleTrains$SetupText", "isWord", "(Ljava/lang/String;)Z"⟩, 8), (⟨"TripleTrains$SetupText", "fail", "(I)Z"⟩, 8), (⟨"TripleTrains$SetupText", "readStatement", "(LTripleTrains$Board;)Z"⟩, 8), (⟨"TripleTrains$Board", "join", "(III)V"⟩, 6), (⟨"TripleTrains", "settle", "()V"⟩, 12), (⟨"TripleTrains$Board", "number", "(III)V"⟩, 6), (⟨"TripleTrains$Board", "numberPair", "(II)V"⟩, 6), (⟨"TripleTrains$Quads", "keep", "(IIIII)V"⟩, 3), (⟨"TripleTrains", "remember", "()V"⟩, 12), (⟨"TripleTrains$History", "forgetOldest", "()V"⟩, 4), (⟨"TripleTrains$Board", "part", "(II)V"⟩, 6)]
theorem lw_r1 : ∀ q ∈ lw_privs_1, lw_okq q := List.forall_mem_cons.mpr ⟨lw_p0, List.forall_mem_cons.mpr ⟨lw_p1, List.forall_mem_cons.mpr ⟨lw_p2, List.forall_mem_cons.mpr ⟨lw_p3, List.forall_mem_cons.mpr ⟨lw_p4, List.forall_mem_cons.mpr ⟨lw_p5, List.forall_mem_cons.mpr ⟨lw_p6, List.forall_mem_cons.mpr ⟨lw_p7, List.forall_mem_cons.mpr ⟨lw_p8, List.forall_mem_cons.mpr ⟨lw_p9, List.forall_mem_cons.mpr ⟨lw_p10, List.forall_mem_cons.mpr ⟨lw_p11, List.forall_mem_cons.mpr ⟨lw_p12, List.forall_mem_cons.mpr ⟨lw_p13, List.forall_mem_cons.mpr ⟨lw_p14, List.forall_mem_cons.mpr ⟨lw_p15, fun _ h => absurd h List.not_mem_nil⟩⟩⟩⟩⟩⟩⟩⟩⟩⟩⟩⟩⟩⟩⟩⟩
theorem lw_p16 : lw_okq (⟨"TripleTrains$Quads", "maskOf", "(I)J"⟩, 3) := ⟨⟨by decide +kernel, by decide +kernel⟩, List.mem_of_getElem? (i := 169) (by decide +kernel), List.mem_of_getElem? (i := 620) (by decide +kernel), List.mem_of_getElem? (i := 621) (by decide +kernel)⟩
theorem lw_p17 : lw_okq (⟨"TripleTrains", "quadsBehindExchange", "()I"⟩, 12) := ⟨⟨by decide +kernel, by decide +kernel⟩, List.mem_of_getElem? (i := 30) (by decide +kernel), List.mem_of_getElem? (i := 646) (by decide +kernel), List.mem_of_getElem? (i := 647) (by decide +kernel)⟩
theorem lw_p18 : lw_okq (⟨"TripleTrains$Cycles", "walk", "(LTripleTrains$Board;I)I"⟩, 6) := ⟨⟨by decide +kernel, by decide +kernel⟩, List.mem_of_getElem? (i := 187) (by decide +kernel), List.mem_of_getElem? (i := 675) (by decide +kernel), List.mem_of_getElem? (i := 676) (by decide +kernel)⟩
theorem lw_p19 : lw_okq (⟨"TripleTrains$Cycles", "beginOf", "(I)I"⟩, 6) := ⟨⟨by decide +kernel, by decide +kernel⟩, List.mem_of_getElem? (i := 187) (by decide +kernel), List.mem_of_getElem? (i := 679) (by decide +kernel), List.mem_of_getElem? (i := 680) (by decide +kernel)⟩
theorem lw_p20 : lw_okq (⟨"TripleTrains$Cycles", "keep", "(I)I"⟩, 6) := ⟨⟨by decide +kernel, by decide +kernel⟩, List.mem_of_getElem? (i := 187) (by decide +kernel), List.mem_of_getElem? (i := 684) (by decide +kernel), List.mem_of_getElem? (i := 685) (by decide +kernel)⟩
theorem lw_p21 : lw_okq (⟨"TripleTrains$Trades", "gatherAmong", "(LTripleTrains$Cycles;I)V"⟩, 2) := ⟨⟨by decide +kernel, by decide +kernel⟩, List.mem_of_getElem? (i := 214) (by decide +kernel), List.mem_of_getElem? (i := 709) (by decide +kernel), List.mem_of_getElem? (i := 710) (by decide +kernel)⟩
theorem lw_p22 : lw_okq (⟨"TripleTrains$Trades", "insert", "(J)V"⟩, 2) := ⟨⟨by decide +kernel, by decide +kernel⟩, List.mem_of_getElem? (i := 214) (by decide +kernel), List.mem_of_getElem? (i := 718) (by decide +kernel), List.mem_of_getElem? (i := 719) (by decide +kernel)⟩
theorem lw_p23 : lw_okq (⟨"TripleTrains", "isPerfect", "(II)Z"⟩, 12) := ⟨⟨by decide +kernel, by decide +kernel⟩, List.mem_of_getElem? (i := 30) (by decide +kernel), List.mem_of_getElem? (i := 730) (by decide +kernel), List.mem_of_getElem? (i := 731) (by decide +kernel)⟩
theorem lw_p24 : lw_okq (⟨"java/lang/Throwable", "fillInStackTrace", "(I)Ljava/lang/Throwable;"⟩, 6) := ⟨⟨by decide +kernel, by decide +kernel⟩, List.mem_of_getElem? (i := 897) (by decide +kernel), List.mem_of_getElem? (i := 895) (by decide +kernel), List.mem_of_getElem? (i := 896) (by decide +kernel)⟩
theorem lw_p25 : lw_okq (⟨"TripleTrains", "requireTriple", "(I)V"⟩, 12) := ⟨⟨by decide +kernel, by decide +kernel⟩, List.mem_of_getElem? (i := 30) (by decide +kernel), List.mem_of_getElem? (i := 934) (by decide +kernel), List.mem_of_getElem? (i := 935) (by decide +kernel)⟩
theorem lw_p26 : lw_okq (⟨"TripleTrains", "requireThree", "(III)V"⟩, 12) := ⟨⟨by decide +kernel, by decide +kernel⟩, List.mem_of_getElem? (i := 30) (by decide +kernel), List.mem_of_getElem? (i := 963) (by decide +kernel), List.mem_of_getElem? (i := 964) (by decide +kernel)⟩
theorem lw_p27 : lw_okq (⟨"TripleTrains", "requirePoint", "(I)V"⟩, 12) := ⟨⟨by decide +kernel, by decide +kernel⟩, List.mem_of_getElem? (i := 30) (by decide +kernel), List.mem_of_getElem? (i := 967) (by decide +kernel), List.mem_of_getElem? (i := 968) (by decide +kernel)⟩
theorem lw_p28 : lw_okq (⟨"TripleTrains", "requireTwo", "(II)V"⟩, 12) := ⟨⟨by decide +kernel, by decide +kernel⟩, List.mem_of_getElem? (i := 30) (by decide +kernel), List.mem_of_getElem? (i := 982) (by decide +kernel), List.mem_of_getElem? (i := 983) (by decide +kernel)⟩
theorem lw_p29 : lw_okq (⟨"TripleTrains", "requireQuad", "(I)V"⟩, 12) := ⟨⟨by decide +kernel, by decide +kernel⟩, List.mem_of_getElem? (i := 30) (by decide +kernel), List.mem_of_getElem? (i := 1064) (by decide +kernel), List.mem_of_getElem? (i := 1065) (by decide +kernel)⟩
theorem lw_p30 : lw_okq (⟨"TripleTrains", "exchangeQuad", "(I)V"⟩, 12) := ⟨⟨by decide +kernel, by decide +kernel⟩, List.mem_of_getElem? (i := 30) (by decide +kernel), List.mem_of_getElem? (i := 1108) (by decide +kernel), List.mem_of_getElem? (i := 1109) (by decide +kernel)⟩
theorem lw_p31 : lw_okq (⟨"TripleTrains", "quadsBehindSwitchOf", "(I)I"⟩, 12) := ⟨⟨by decide +kernel, by decide +kernel⟩, List.mem_of_getElem? (i := 30) (by decide +kernel), List.mem_of_getElem? (i := 1119) (by decide +kernel), List.mem_of_getElem? (i := 1120) (by decide +kernel)⟩
def lw_privs_2 : List (MethodName × Nat) := [(⟨"TripleTrains$Quads", "maskOf", "(I)J"⟩, 3), (⟨"TripleTrains", "quadsBehindExchange", "()I"⟩, 12), (⟨"TripleTrains$Cycles", "walk", "(LTripleTrains$Board;I)I"⟩, 6), (⟨"TripleTrains$Cycles", "beginOf", "(I)I"⟩, 6), (⟨"TripleTrains$Cycles", "keep", "(I)I"⟩, 6), (⟨"TripleTrains$Trades", "gatherAmong", "(LTripleTrains$Cycles;I)V"⟩, 2), (⟨"TripleTrains$Trades", "insert", "(J)V"⟩, 2), (⟨"TripleTrains", "isPerfect", "(II)Z"⟩, 12), (⟨"java/lang/Throwable", "fillInStackTrace", "(I)Ljava/lang/Throwable;"⟩, 6), (⟨"TripleTrains", "requireTriple", "(I)V"⟩, 12), (⟨"TripleTrains", "requireThree", "(III)V"⟩, 12), (⟨"TripleTrains", "requirePoint", "(I)V"⟩, 12), (⟨"TripleTrains", "requireTwo", "(II)V"⟩, 12), (⟨"TripleTrains", "requireQuad", "(I)V"⟩, 12), (⟨"TripleTrains", "exchangeQuad", "(I)V"⟩, 12), (⟨"TripleTrains", "quadsBehindSwitchOf", "(I)I"⟩, 12)]
theorem lw_r2 : ∀ q ∈ lw_privs_2, lw_okq q := List.forall_mem_cons.mpr ⟨lw_p16, List.forall_mem_cons.mpr ⟨lw_p17, List.forall_mem_cons.mpr ⟨lw_p18, List.forall_mem_cons.mpr ⟨lw_p19, List.forall_mem_cons.mpr ⟨lw_p20, List.forall_mem_cons.mpr ⟨lw_p21, List.forall_mem_cons.mpr ⟨lw_p22, List.forall_mem_cons.mpr ⟨lw_p23, List.forall_mem_cons.mpr ⟨lw_p24, List.forall_mem_cons.mpr ⟨lw_p25, List.forall_mem_cons.mpr ⟨lw_p26, List.forall_mem_cons.mpr ⟨lw_p27, List.forall_mem_cons.mpr ⟨lw_p28, List.forall_mem_cons.mpr ⟨lw_p29, List.forall_mem_cons.mpr ⟨lw_p30, List.forall_mem_cons.mpr ⟨lw_p31, fun _ h => absurd h List.not_mem_nil⟩⟩⟩⟩⟩⟩⟩⟩⟩⟩⟩⟩⟩⟩⟩⟩
theorem lw_p32 : lw_okq (⟨"TripleTrains", "requireCycle", "(III)V"⟩, 12) := ⟨⟨by decide +kernel, by decide +kernel⟩, List.mem_of_getElem? (i := 30) (by decide +kernel), List.mem_of_getElem? (i := 1147) (by decide +kernel), List.mem_of_getElem? (i := 1148) (by decide +kernel)⟩
theorem lw_p33 : lw_okq (⟨"TripleTrains", "requireTrain", "(III)V"⟩, 12) := ⟨⟨by decide +kernel, by decide +kernel⟩, List.mem_of_getElem? (i := 30) (by decide +kernel), List.mem_of_getElem? (i := 1212) (by decide +kernel), List.mem_of_getElem? (i := 1213) (by decide +kernel)⟩
theorem lw_p34 : lw_okq (⟨"TripleTrains", "requireComplete", "()V"⟩, 12) := ⟨⟨by decide +kernel, by decide +kernel⟩, List.mem_of_getElem? (i := 30) (by decide +kernel), List.mem_of_getElem? (i := 1216) (by decide +kernel), List.mem_of_getElem? (i := 1217) (by decide +kernel)⟩
theorem lw_p35 : lw_okq (⟨"TripleTrains$Trains", "lead", "(I)V"⟩, 4) := ⟨⟨by decide +kernel, by decide +kernel⟩, List.mem_of_getElem? (i := 228) (by decide +kernel), List.mem_of_getElem? (i := 1246) (by decide +kernel), List.mem_of_getElem? (i := 1247) (by decide +kernel)⟩
theorem lw_p36 : lw_okq (⟨"TripleTrains$Trains", "nextOf", "(I)I"⟩, 4) := ⟨⟨by decide +kernel, by decide +kernel⟩, List.mem_of_getElem? (i := 228) (by decide +kernel), List.mem_of_getElem? (i := 1270) (by decide +kernel), List.mem_of_getElem? (i := 1271) (by decide +kernel)⟩
theorem lw_p37 : lw_okq (⟨"TripleTrains$Trains", "markOf", "(I)I"⟩, 4) := ⟨⟨by decide +kernel, by decide +kernel⟩, List.mem_of_getElem? (i := 228) (by decide +kernel), List.mem_of_getElem? (i := 1274) (by decide +kernel), List.mem_of_getElem? (i := 1275) (by decide +kernel)⟩
theorem lw_p38 : lw_okq (⟨"TripleTrains$Trains", "mark", "(II)V"⟩, 4) := ⟨⟨by decide +kernel, by decide +kernel⟩, List.mem_of_getElem? (i := 228) (by decide +kernel), List.mem_of_getElem? (i := 1278) (by decide +kernel), List.mem_of_getElem? (i := 1279) (by decide +kernel)⟩
theorem lw_p39 : lw_okq (⟨"TripleTrains$Trains", "endsOnItself", "(II)Z"⟩, 4) := ⟨⟨by decide +kernel, by decide +kernel⟩, List.mem_of_getElem? (i := 228) (by decide +kernel), List.mem_of_getElem? (i := 1313) (by decide +kernel), List.mem_of_getElem? (i := 1314) (by decide +kernel)⟩
theorem lw_p40 : lw_okq (⟨"TripleTrains", "writeTriple", "(I)V"⟩, 12) := ⟨⟨by decide +kernel, by decide +kernel⟩, List.mem_of_getElem? (i := 30) (by decide +kernel), List.mem_of_getElem? (i := 1382) (by decide +kernel), List.mem_of_getElem? (i := 1383) (by decide +kernel)⟩
theorem lw_p41 : lw_okq (⟨"TripleTrains", "write", "(I)V"⟩, 12) := ⟨⟨by decide +kernel, by decide +kernel⟩, List.mem_of_getElem? (i := 30) (by decide +kernel), List.mem_of_getElem? (i := 1386) (by decide +kernel), List.mem_of_getElem? (i := 1387) (by decide +kernel)⟩
theorem lw_p42 : lw_okq (⟨"TripleTrainsModel", "empties", "(I)V"⟩, 33) := ⟨⟨by decide +kernel, by decide +kernel⟩, List.mem_of_getElem? (i := 1402) (by decide +kernel), List.mem_of_getElem? (i := 1408) (by decide +kernel), List.mem_of_getElem? (i := 1409) (by decide +kernel)⟩
theorem lw_p43 : lw_okq (⟨"TripleTrainsModel", "appendWord", "(I)V"⟩, 33) := ⟨⟨by decide +kernel, by decide +kernel⟩, List.mem_of_getElem? (i := 1402) (by decide +kernel), List.mem_of_getElem? (i := 1520) (by decide +kernel), List.mem_of_getElem? (i := 1521) (by decide +kernel)⟩
theorem lw_p44 : lw_okq (⟨"TripleTrainsModel", "advanceToken", "()V"⟩, 33) := ⟨⟨by decide +kernel, by decide +kernel⟩, List.mem_of_getElem? (i := 1402) (by decide +kernel), List.mem_of_getElem? (i := 1538) (by decide +kernel), List.mem_of_getElem? (i := 1539) (by decide +kernel)⟩
theorem lw_p45 : lw_okq (⟨"TripleTrainsModel", "byteAt", "(I)I"⟩, 33) := ⟨⟨by decide +kernel, by decide +kernel⟩, List.mem_of_getElem? (i := 1402) (by decide +kernel), List.mem_of_getElem? (i := 1542) (by decide +kernel), List.mem_of_getElem? (i := 1543) (by decide +kernel)⟩
theorem lw_p46 : lw_okq (⟨"TripleTrainsModel", "readText", "()Z"⟩, 33) := ⟨⟨by decide +kernel, by decide +kernel⟩, List.mem_of_getElem? (i := 1402) (by decide +kernel), List.mem_of_getElem? (i := 1546) (by decide +kernel), List.mem_of_getElem? (i := 1547) (by decide +kernel)⟩
theorem lw_p47 : lw_okq (⟨"TripleTrainsModel", "readPoints", "()Z"⟩, 33) := ⟨⟨by decide +kernel, by decide +kernel⟩, List.mem_of_getElem? (i := 1402) (by decide +kernel), List.mem_of_getElem? (i := 1550) (by decide +kernel), List.mem_of_getElem? (i := 1551) (by decide +kernel)⟩
def lw_privs_3 : List (MethodName × Nat) := [(⟨"TripleTrains", "requireCycle", "(III)V"⟩, 12), (⟨"TripleTrains", "requireTrain", "(III)V"⟩, 12), (⟨"TripleTrains", "requireComplete", "()V"⟩, 12), (⟨"TripleTrains$Trains", "lead", "(I)V"⟩, 4), (⟨"TripleTrains$Trains", "nextOf", "(I)I"⟩, 4), (⟨"TripleTrains$Trains", "markOf", "(I)I"⟩, 4), (⟨"TripleTrains$Trains", "mark", "(II)V"⟩, 4), (⟨"TripleTrains$Trains", "endsOnItself", "(II)Z"⟩, 4), (⟨"TripleTrains", "writeTriple", "(I)V"⟩, 12), (⟨"TripleTrains", "write", "(I)V"⟩, 12), (⟨"TripleTrainsModel", "empties", "(I)V"⟩, 33), (⟨"TripleTrainsModel", "appendWord", "(I)V"⟩, 33), (⟨"TripleTrainsModel", "advanceToken", "()V"⟩, 33), (⟨"TripleTrainsModel", "byteAt", "(I)I"⟩, 33), (⟨"TripleTrainsModel", "readText", "()Z"⟩, 33), (⟨"TripleTrainsModel", "readPoints", "()Z"⟩, 33)]
theorem lw_r3 : ∀ q ∈ lw_privs_3, lw_okq q := List.forall_mem_cons.mpr ⟨lw_p32, List.forall_mem_cons.mpr ⟨lw_p33, List.forall_mem_cons.mpr ⟨lw_p34, List.forall_mem_cons.mpr ⟨lw_p35, List.forall_mem_cons.mpr ⟨lw_p36, List.forall_mem_cons.mpr ⟨lw_p37, List.forall_mem_cons.mpr ⟨lw_p38, List.forall_mem_cons.mpr ⟨lw_p39, List.forall_mem_cons.mpr ⟨lw_p40, List.forall_mem_cons.mpr ⟨lw_p41, List.forall_mem_cons.mpr ⟨lw_p42, List.forall_mem_cons.mpr ⟨lw_p43, List.forall_mem_cons.mpr ⟨lw_p44, List.forall_mem_cons.mpr ⟨lw_p45, List.forall_mem_cons.mpr ⟨lw_p46, List.forall_mem_cons.mpr ⟨lw_p47, fun _ h => absurd h List.not_mem_nil⟩⟩⟩⟩⟩⟩⟩⟩⟩⟩⟩⟩⟩⟩⟩⟩
theorem lw_p48 : lw_okq (⟨"TripleTrainsModel", "isWord", "(Ljava/lang/String;)Z"⟩, 33) := ⟨⟨by decide +kernel, by decide +kernel⟩, List.mem_of_getElem? (i := 1402) (by decide +kernel), List.mem_of_getElem? (i := 1555) (by decide +kernel), List.mem_of_getElem? (i := 1556) (by decide +kernel)⟩
theorem lw_p49 : lw_okq (⟨"TripleTrainsModel", "tokenLength", "()I"⟩, 33) := ⟨⟨by decide +kernel, by decide +kernel⟩, List.mem_of_getElem? (i := 1402) (by decide +kernel), List.mem_of_getElem? (i := 1559) (by decide +kernel), List.mem_of_getElem? (i := 1560) (by decide +kernel)⟩
theorem lw_p50 : lw_okq (⟨"TripleTrainsModel", "failsAt", "(I)Z"⟩, 33) := ⟨⟨by decide +kernel, by decide +kernel⟩, List.mem_of_getElem? (i := 1402) (by decide +kernel), List.mem_of_getElem? (i := 1565) (by decide +kernel), List.mem_of_getElem? (i := 1566) (by decide +kernel)⟩
theorem lw_p51 : lw_okq (⟨"TripleTrainsModel", "takesPoint", "(III)Z"⟩, 33) := ⟨⟨by decide +kernel, by decide +kernel⟩, List.mem_of_getElem? (i := 1402) (by decide +kernel), List.mem_of_getElem? (i := 1569) (by decide +kernel), List.mem_of_getElem? (i := 1570) (by decide +kernel)⟩
theorem lw_p52 : lw_okq (⟨"TripleTrainsModel", "readStatement", "()Z"⟩, 33) := ⟨⟨by decide +kernel, by decide +kernel⟩, List.mem_of_getElem? (i := 1402) (by decide +kernel), List.mem_of_getElem? (i := 1573) (by decide +kernel), List.mem_of_getElem? (i := 1574) (by decide +kernel)⟩
theorem lw_p53 : lw_okq (⟨"TripleTrainsModel", "readTriple", "(Z)Z"⟩, 33) := ⟨⟨by decide +kernel, by decide +kernel⟩, List.mem_of_getElem? (i := 1402) (by decide +kernel), List.mem_of_getElem? (i := 1578) (by decide +kernel), List.mem_of_getElem? (i := 1579) (by decide +kernel)⟩
theorem lw_p54 : lw_okq (⟨"TripleTrainsModel", "points", "()I"⟩, 33) := ⟨⟨by decide +kernel, by decide +kernel⟩, List.mem_of_getElem? (i := 1402) (by decide +kernel), List.mem_of_getElem? (i := 1582) (by decide +kernel), List.mem_of_getElem? (i := 1583) (by decide +kernel)⟩
theorem lw_p55 : lw_okq (⟨"TripleTrainsModel", "develops", "(III)I"⟩, 33) := ⟨⟨by decide +kernel, by decide +kernel⟩, List.mem_of_getElem? (i := 1402) (by decide +kernel), List.mem_of_getElem? (i := 1586) (by decide +kernel), List.mem_of_getElem? (i := 1587) (by decide +kernel)⟩
theorem lw_p56 : lw_okq (⟨"TripleTrainsModel", "turned", "(II)I"⟩, 33) := ⟨⟨by decide +kernel, by decide +kernel⟩, List.mem_of_getElem? (i := 1402) (by decide +kernel), List.mem_of_getElem? (i := 1590) (by decide +kernel), List.mem_of_getElem? (i := 1591) (by decide +kernel)⟩
theorem lw_p57 : lw_okq (⟨"TripleTrainsModel", "isFree", "(III)Z"⟩, 33) := ⟨⟨by decide +kernel, by decide +kernel⟩, List.mem_of_getElem? (i := 1402) (by decide +kernel), List.mem_of_getElem? (i := 1594) (by decide +kernel), List.mem_of_getElem? (i := 1595) (by decide +kernel)⟩
theorem lw_p58 : lw_okq (⟨"TripleTrainsModel", "coveredIn", "(III)I"⟩, 33) := ⟨⟨by decide +kernel, by decide +kernel⟩, List.mem_of_getElem? (i := 1402) (by decide +kernel), List.mem_of_getElem? (i := 1598) (by decide +kernel), List.mem_of_getElem? (i := 1599) (by decide +kernel)⟩
theorem lw_p59 : lw_okq (⟨"TripleTrainsModel", "coveredOf", "(II)I"⟩, 33) := ⟨⟨by decide +kernel, by decide +kernel⟩, List.mem_of_getElem? (i := 1402) (by decide +kernel), List.mem_of_getElem? (i := 1602) (by decide +kernel), List.mem_of_getElem? (i := 1603) (by decide +kernel)⟩
theorem lw_p60 : lw_okq (⟨"TripleTrainsModel", "thirdOf", "(II)I"⟩, 33) := ⟨⟨by decide +kernel, by decide +kernel⟩, List.mem_of_getElem? (i := 1402) (by decide +kernel), List.mem_of_getElem? (i := 1606) (by decide +kernel), List.mem_of_getElem? (i := 1607) (by decide +kernel)⟩
theorem lw_p61 : lw_okq (⟨"TripleTrainsModel", "puts", "(III)V"⟩, 33) := ⟨⟨by decide +kernel, by decide +kernel⟩, List.mem_of_getElem? (i := 1402) (by decide +kernel), List.mem_of_getElem? (i := 1610) (by decide +kernel), List.mem_of_getElem? (i := 1611) (by decide +kernel)⟩
theorem lw_p62 : lw_okq (⟨"TripleTrainsModel", "lays", "(III)V"⟩, 33) := ⟨⟨by decide +kernel, by decide +kernel⟩, List.mem_of_getElem? (i := 1402) (by decide +kernel), List.mem_of_getElem? (i := 1614) (by decide +kernel), List.mem_of_getElem? (i := 1615) (by decide +kernel)⟩
theorem lw_p63 : lw_okq (⟨"TripleTrainsModel", "triplesMany", "()I"⟩, 33) := ⟨⟨by decide +kernel, by decide +kernel⟩, List.mem_of_getElem? (i := 1402) (by decide +kernel), List.mem_of_getElem? (i := 1619) (by decide +kernel), List.mem_of_getElem? (i := 1620) (by decide +kernel)⟩
def lw_privs_4 : List (MethodName × Nat) := [(⟨"TripleTrainsModel", "isWord", "(Ljava/lang/String;)Z"⟩, 33), (⟨"TripleTrainsModel", "tokenLength", "()I"⟩, 33), (⟨"TripleTrainsModel", "failsAt", "(I)Z"⟩, 33), (⟨"TripleTrainsModel", "takesPoint", "(III)Z"⟩, 33), (⟨"TripleTrainsModel", "readStatement", "()Z"⟩, 33), (⟨"TripleTrainsModel", "readTriple", "(Z)Z"⟩, 33), (⟨"TripleTrainsModel", "points", "()I"⟩, 33), (⟨"TripleTrainsModel", "develops", "(III)I"⟩, 33), (⟨"TripleTrainsModel", "turned", "(II)I"⟩, 33), (⟨"TripleTrainsModel", "isFree", "(III)Z"⟩, 33), (⟨"TripleTrainsModel", "coveredIn", "(III)I"⟩, 33), (⟨"TripleTrainsModel", "coveredOf", "(II)I"⟩, 33), (⟨"TripleTrainsModel", "thirdOf", "(II)I"⟩, 33), (⟨"TripleTrainsModel", "puts", "(III)V"⟩, 33), (⟨"TripleTrainsModel", "lays", "(III)V"⟩, 33), (⟨"TripleTrainsModel", "triplesMany", "()I"⟩, 33)]
theorem lw_r4 : ∀ q ∈ lw_privs_4, lw_okq q := List.forall_mem_cons.mpr ⟨lw_p48, List.forall_mem_cons.mpr ⟨lw_p49, List.forall_mem_cons.mpr ⟨lw_p50, List.forall_mem_cons.mpr ⟨lw_p51, List.forall_mem_cons.mpr ⟨lw_p52, List.forall_mem_cons.mpr ⟨lw_p53, List.forall_mem_cons.mpr ⟨lw_p54, List.forall_mem_cons.mpr ⟨lw_p55, List.forall_mem_cons.mpr ⟨lw_p56, List.forall_mem_cons.mpr ⟨lw_p57, List.forall_mem_cons.mpr ⟨lw_p58, List.forall_mem_cons.mpr ⟨lw_p59, List.forall_mem_cons.mpr ⟨lw_p60, List.forall_mem_cons.mpr ⟨lw_p61, List.forall_mem_cons.mpr ⟨lw_p62, List.forall_mem_cons.mpr ⟨lw_p63, fun _ h => absurd h List.not_mem_nil⟩⟩⟩⟩⟩⟩⟩⟩⟩⟩⟩⟩⟩⟩⟩⟩
theorem lw_p64 : lw_okq (⟨"TripleTrainsModel", "laysTriples", "()V"⟩, 33) := ⟨⟨by decide +kernel, by decide +kernel⟩, List.mem_of_getElem? (i := 1402) (by decide +kernel), List.mem_of_getElem? (i := 1623) (by decide +kernel), List.mem_of_getElem? (i := 1624) (by decide +kernel)⟩
theorem lw_p65 : lw_okq (⟨"TripleTrainsModel", "fails", "(ZI)Z"⟩, 33) := ⟨⟨by decide +kernel, by decide +kernel⟩, List.mem_of_getElem? (i := 1402) (by decide +kernel), List.mem_of_getElem? (i := 1639) (by decide +kernel), List.mem_of_getElem? (i := 1640) (by decide +kernel)⟩
theorem lw_p66 : lw_okq (⟨"TripleTrainsModel", "uncoveredMany", "()I"⟩, 33) := ⟨⟨by decide +kernel, by decide +kernel⟩, List.mem_of_getElem? (i := 1402) (by decide +kernel), List.mem_of_getElem? (i := 1643) (by decide +kernel), List.mem_of_getElem? (i := 1644) (by decide +kernel)⟩
theorem lw_p67 : lw_okq (⟨"TripleTrainsModel", "pairsMany", "()I"⟩, 33) := ⟨⟨by decide +kernel, by decide +kernel⟩, List.mem_of_getElem? (i := 1402) (by decide +kernel), List.mem_of_getElem? (i := 1647) (by decide +kernel), List.mem_of_getElem? (i := 1648) (by decide +kernel)⟩
theorem lw_p68 : lw_okq (⟨"TripleTrainsModel", "quadsNow", "()I"⟩, 33) := ⟨⟨by decide +kernel, by decide +kernel⟩, List.mem_of_getElem? (i := 1402) (by decide +kernel), List.mem_of_getElem? (i := 1651) (by decide +kernel), List.mem_of_getElem? (i := 1652) (by decide +kernel)⟩
theorem lw_p69 : lw_okq (⟨"TripleTrainsModel", "laysQuads", "()V"⟩, 33) := ⟨⟨by decide +kernel, by decide +kernel⟩, List.mem_of_getElem? (i := 1402) (by decide +kernel), List.mem_of_getElem? (i := 1655) (by decide +kernel), List.mem_of_getElem? (i := 1656) (by decide +kernel)⟩
theorem lw_p70 : lw_okq (⟨"TripleTrainsModel", "isTriple", "(I)Z"⟩, 33) := ⟨⟨by decide +kernel, by decide +kernel⟩, List.mem_of_getElem? (i := 1402) (by decide +kernel), List.mem_of_getElem? (i := 1659) (by decide +kernel), List.mem_of_getElem? (i := 1660) (by decide +kernel)⟩
theorem lw_p71 : lw_okq (⟨"TripleTrainsModel", "numberOf", "(I)I"⟩, 33) := ⟨⟨by decide +kernel, by decide +kernel⟩, List.mem_of_getElem? (i := 1402) (by decide +kernel), List.mem_of_getElem? (i := 1668) (by decide +kernel), List.mem_of_getElem? (i := 1669) (by decide +kernel)⟩
theorem lw_p72 : lw_okq (⟨"TripleTrainsModel", "addsQuad", "(IIII)V"⟩, 33) := ⟨⟨by decide +kernel, by decide +kernel⟩, List.mem_of_getElem? (i := 1402) (by decide +kernel), List.mem_of_getElem? (i := 1672) (by decide +kernel), List.mem_of_getElem? (i := 1673) (by decide +kernel)⟩
theorem lw_p73 : lw_okq (⟨"TripleTrainsModel", "isWhole", "()Z"⟩, 33) := ⟨⟨by decide +kernel, by decide +kernel⟩, List.mem_of_getElem? (i := 1402) (by decide +kernel), List.mem_of_getElem? (i := 1680) (by decide +kernel), List.mem_of_getElem? (i := 1681) (by decide +kernel)⟩
theorem lw_p74 : lw_okq (⟨"TripleTrainsModel", "noTriple", "(I)Z"⟩, 33) := ⟨⟨by decide +kernel, by decide +kernel⟩, List.mem_of_getElem? (i := 1402) (by decide +kernel), List.mem_of_getElem? (i := 1688) (by decide +kernel), List.mem_of_getElem? (i := 1689) (by decide +kernel)⟩
theorem lw_p75 : lw_okq (⟨"TripleTrainsModel", "noSet", "(III)Z"⟩, 33) := ⟨⟨by decide +kernel, by decide +kernel⟩, List.mem_of_getElem? (i := 1402) (by decide +kernel), List.mem_of_getElem? (i := 1696) (by decide +kernel), List.mem_of_getElem? (i := 1697) (by decide +kernel)⟩
theorem lw_p76 : lw_okq (⟨"TripleTrainsModel", "noPoint", "(I)Z"⟩, 33) := ⟨⟨by decide +kernel, by decide +kernel⟩, List.mem_of_getElem? (i := 1402) (by decide +kernel), List.mem_of_getElem? (i := 1700) (by decide +kernel), List.mem_of_getElem? (i := 1701) (by decide +kernel)⟩
theorem lw_p77 : lw_okq (⟨"TripleTrainsModel", "noPair", "(II)Z"⟩, 33) := ⟨⟨by decide +kernel, by decide +kernel⟩, List.mem_of_getElem? (i := 1402) (by decide +kernel), List.mem_of_getElem? (i := 1708) (by decide +kernel), List.mem_of_getElem? (i := 1709) (by decide +kernel)⟩
theorem lw_p78 : lw_okq (⟨"TripleTrainsModel", "reasonOf", "(III)I"⟩, 33) := ⟨⟨by decide +kernel, by decide +kernel⟩, List.mem_of_getElem? (i := 1402) (by decide +kernel), List.mem_of_getElem? (i := 1724) (by decide +kernel), List.mem_of_getElem? (i := 1725) (by decide +kernel)⟩
theorem lw_p79 : lw_okq (⟨"TripleTrainsModel", "remembers", "()V"⟩, 33) := ⟨⟨by decide +kernel, by decide +kernel⟩, List.mem_of_getElem? (i := 1402) (by decide +kernel), List.mem_of_getElem? (i := 1736) (by decide +kernel), List.mem_of_getElem? (i := 1737) (by decide +kernel)⟩
def lw_privs_5 : List (MethodName × Nat) := [(⟨"TripleTrainsModel", "laysTriples", "()V"⟩, 33), (⟨"TripleTrainsModel", "fails", "(ZI)Z"⟩, 33), (⟨"TripleTrainsModel", "uncoveredMany", "()I"⟩, 33), (⟨"TripleTrainsModel", "pairsMany", "()I"⟩, 33), (⟨"TripleTrainsModel", "quadsNow", "()I"⟩, 33), (⟨"TripleTrainsModel", "laysQuads", "()V"⟩, 33), (⟨"TripleTrainsModel", "isTriple", "(I)Z"⟩, 33), (⟨"TripleTrainsModel", "numberOf", "(I)I"⟩, 33), (⟨"TripleTrainsModel", "addsQuad", "(IIII)V"⟩, 33), (⟨"TripleTrainsModel", "isWhole", "()Z"⟩, 33), (⟨"TripleTrainsModel", "noTriple", "(I)Z"⟩, 33), (⟨"TripleTrainsModel", "noSet", "(III)Z"⟩, 33), (⟨"TripleTrainsModel", "noPoint", "(I)Z"⟩, 33), (⟨"TripleTrainsModel", "noPair", "(II)Z"⟩, 33), (⟨"TripleTrainsModel", "reasonOf", "(III)I"⟩, 33), (⟨"TripleTrainsModel", "remembers", "()V"⟩, 33)]
theorem lw_r5 : ∀ q ∈ lw_privs_5, lw_okq q := List.forall_mem_cons.mpr ⟨lw_p64, List.forall_mem_cons.mpr ⟨lw_p65, List.forall_mem_cons.mpr ⟨lw_p66, List.forall_mem_cons.mpr ⟨lw_p67, List.forall_mem_cons.mpr ⟨lw_p68, List.forall_mem_cons.mpr ⟨lw_p69, List.forall_mem_cons.mpr ⟨lw_p70, List.forall_mem_cons.mpr ⟨lw_p71, List.forall_mem_cons.mpr ⟨lw_p72, List.forall_mem_cons.mpr ⟨lw_p73, List.forall_mem_cons.mpr ⟨lw_p74, List.forall_mem_cons.mpr ⟨lw_p75, List.forall_mem_cons.mpr ⟨lw_p76, List.forall_mem_cons.mpr ⟨lw_p77, List.forall_mem_cons.mpr ⟨lw_p78, List.forall_mem_cons.mpr ⟨lw_p79, fun _ h => absurd h List.not_mem_nil⟩⟩⟩⟩⟩⟩⟩⟩⟩⟩⟩⟩⟩⟩⟩⟩
theorem lw_p80 : lw_okq (⟨"TripleTrainsModel", "takes", "(III)V"⟩, 33) := ⟨⟨by decide +kernel, by decide +kernel⟩, List.mem_of_getElem? (i := 1402) (by decide +kernel), List.mem_of_getElem? (i := 1744) (by decide +kernel), List.mem_of_getElem? (i := 1745) (by decide +kernel)⟩
theorem lw_p81 : lw_okq (⟨"TripleTrainsModel", "begins", "()V"⟩, 33) := ⟨⟨by decide +kernel, by decide +kernel⟩, List.mem_of_getElem? (i := 1402) (by decide +kernel), List.mem_of_getElem? (i := 1752) (by decide +kernel), List.mem_of_getElem? (i := 1753) (by decide +kernel)⟩
theorem lw_p82 : lw_okq (⟨"TripleTrainsModel", "ends", "()V"⟩, 33) := ⟨⟨by decide +kernel, by decide +kernel⟩, List.mem_of_getElem? (i := 1402) (by decide +kernel), List.mem_of_getElem? (i := 1756) (by decide +kernel), List.mem_of_getElem? (i := 1757) (by decide +kernel)⟩
theorem lw_p83 : lw_okq (⟨"TripleTrainsModel", "removes", "(II)I"⟩, 33) := ⟨⟨by decide +kernel, by decide +kernel⟩, List.mem_of_getElem? (i := 1402) (by decide +kernel), List.mem_of_getElem? (i := 1768) (by decide +kernel), List.mem_of_getElem? (i := 1769) (by decide +kernel)⟩
theorem lw_p84 : lw_okq (⟨"TripleTrainsModel", "by", "(I)I"⟩, 33) := ⟨⟨by decide +kernel, by decide +kernel⟩, List.mem_of_getElem? (i := 1402) (by decide +kernel), List.mem_of_getElem? (i := 1787) (by decide +kernel), List.mem_of_getElem? (i := 1788) (by decide +kernel)⟩
theorem lw_p85 : lw_okq (⟨"TripleTrainsModel", "completionsFrom", "()I"⟩, 33) := ⟨⟨by decide +kernel, by decide +kernel⟩, List.mem_of_getElem? (i := 1402) (by decide +kernel), List.mem_of_getElem? (i := 1795) (by decide +kernel), List.mem_of_getElem? (i := 1796) (by decide +kernel)⟩
theorem lw_p86 : lw_okq (⟨"TripleTrainsModel", "tightestPair", "()I"⟩, 33) := ⟨⟨by decide +kernel, by decide +kernel⟩, List.mem_of_getElem? (i := 1402) (by decide +kernel), List.mem_of_getElem? (i := 1799) (by decide +kernel), List.mem_of_getElem? (i := 1800) (by decide +kernel)⟩
theorem lw_p87 : lw_okq (⟨"TripleTrainsModel", "waysOf", "(II)I"⟩, 33) := ⟨⟨by decide +kernel, by decide +kernel⟩, List.mem_of_getElem? (i := 1402) (by decide +kernel), List.mem_of_getElem? (i := 1803) (by decide +kernel), List.mem_of_getElem? (i := 1804) (by decide +kernel)⟩
theorem lw_p88 : lw_okq (⟨"TripleTrainsModel", "noQuad", "(I)Z"⟩, 33) := ⟨⟨by decide +kernel, by decide +kernel⟩, List.mem_of_getElem? (i := 1402) (by decide +kernel), List.mem_of_getElem? (i := 1815) (by decide +kernel), List.mem_of_getElem? (i := 1816) (by decide +kernel)⟩
theorem lw_p89 : lw_okq (⟨"TripleTrainsModel", "quadPoints", "(I)I"⟩, 33) := ⟨⟨by decide +kernel, by decide +kernel⟩, List.mem_of_getElem? (i := 1402) (by decide +kernel), List.mem_of_getElem? (i := 1819) (by decide +kernel), List.mem_of_getElem? (i := 1820) (by decide +kernel)⟩
theorem lw_p90 : lw_okq (⟨"TripleTrainsModel", "bitAt", "(II)I"⟩, 33) := ⟨⟨by decide +kernel, by decide +kernel⟩, List.mem_of_getElem? (i := 1402) (by decide +kernel), List.mem_of_getElem? (i := 1823) (by decide +kernel), List.mem_of_getElem? (i := 1824) (by decide +kernel)⟩
theorem lw_p91 : lw_okq (⟨"TripleTrainsModel", "oppositeOf", "(II)I"⟩, 33) := ⟨⟨by decide +kernel, by decide +kernel⟩, List.mem_of_getElem? (i := 1402) (by decide +kernel), List.mem_of_getElem? (i := 1831) (by decide +kernel), List.mem_of_getElem? (i := 1832) (by decide +kernel)⟩
theorem lw_p92 : lw_okq (⟨"TripleTrainsModel", "switchesQuad", "(I)V"⟩, 33) := ⟨⟨by decide +kernel, by decide +kernel⟩, List.mem_of_getElem? (i := 1402) (by decide +kernel), List.mem_of_getElem? (i := 1847) (by decide +kernel), List.mem_of_getElem? (i := 1848) (by decide +kernel)⟩
theorem lw_p93 : lw_okq (⟨"TripleTrainsModel", "quadsBehind", "(I)I"⟩, 33) := ⟨⟨by decide +kernel, by decide +kernel⟩, List.mem_of_getElem? (i := 1402) (by decide +kernel), List.mem_of_getElem? (i := 1855) (by decide +kernel), List.mem_of_getElem? (i := 1856) (by decide +kernel)⟩
theorem lw_p94 : lw_okq (⟨"TripleTrainsModel", "quadsCounted", "()I"⟩, 33) := ⟨⟨by decide +kernel, by decide +kernel⟩, List.mem_of_getElem? (i := 1402) (by decide +kernel), List.mem_of_getElem? (i := 1859) (by decide +kernel), List.mem_of_getElem? (i := 1860) (by decide +kernel)⟩
theorem lw_p95 : lw_okq (⟨"TripleTrainsModel", "bestQuad", "(Z)I"⟩, 33) := ⟨⟨by decide +kernel, by decide +kernel⟩, List.mem_of_getElem? (i := 1402) (by decide +kernel), List.mem_of_getElem? (i := 1867) (by decide +kernel), List.mem_of_getElem? (i := 1868) (by decide +kernel)⟩
def lw_privs_6 : List (MethodName × Nat) := [(⟨"TripleTrainsModel", "takes", "(III)V"⟩, 33), (⟨"TripleTrainsModel", "begins", "()V"⟩, 33), (⟨"TripleTrainsModel", "ends", "()V"⟩, 33), (⟨"TripleTrainsModel", "removes", "(II)I"⟩, 33), (⟨"TripleTrainsModel", "by", "(I)I"⟩, 33), (⟨"TripleTrainsModel", "completionsFrom", "()I"⟩, 33), (⟨"TripleTrainsModel", "tightestPair", "()I"⟩, 33), (⟨"TripleTrainsModel", "waysOf", "(II)I"⟩, 33), (⟨"TripleTrainsModel", "noQuad", "(I)Z"⟩, 33), (⟨"TripleTrainsModel", "quadPoints", "(I)I"⟩, 33), (⟨"TripleTrainsModel", "bitAt", "(II)I"⟩, 33), (⟨"TripleTrainsModel", "oppositeOf", "(II)I"⟩, 33), (⟨"TripleTrainsModel", "switchesQuad", "(I)V"⟩, 33), (⟨"TripleTrainsModel", "quadsBehind", "(I)I"⟩, 33), (⟨"TripleTrainsModel", "quadsCounted", "()I"⟩, 33), (⟨"TripleTrainsModel", "bestQuad", "(Z)I"⟩, 33)]
theorem lw_r6 : ∀ q ∈ lw_privs_6, lw_okq q := List.forall_mem_cons.mpr ⟨lw_p80, List.forall_mem_cons.mpr ⟨lw_p81, List.forall_mem_cons.mpr ⟨lw_p82, List.forall_mem_cons.mpr ⟨lw_p83, List.forall_mem_cons.mpr ⟨lw_p84, List.forall_mem_cons.mpr ⟨lw_p85, List.forall_mem_cons.mpr ⟨lw_p86, List.forall_mem_cons.mpr ⟨lw_p87, List.forall_mem_cons.mpr ⟨lw_p88, List.forall_mem_cons.mpr ⟨lw_p89, List.forall_mem_cons.mpr ⟨lw_p90, List.forall_mem_cons.mpr ⟨lw_p91, List.forall_mem_cons.mpr ⟨lw_p92, List.forall_mem_cons.mpr ⟨lw_p93, List.forall_mem_cons.mpr ⟨lw_p94, List.forall_mem_cons.mpr ⟨lw_p95, fun _ h => absurd h List.not_mem_nil⟩⟩⟩⟩⟩⟩⟩⟩⟩⟩⟩⟩⟩⟩⟩⟩
theorem lw_p96 : lw_okq (⟨"TripleTrainsModel", "cyclesMany", "(II)I"⟩, 33) := ⟨⟨by decide +kernel, by decide +kernel⟩, List.mem_of_getElem? (i := 1402) (by decide +kernel), List.mem_of_getElem? (i := 1883) (by decide +kernel), List.mem_of_getElem? (i := 1884) (by decide +kernel)⟩
theorem lw_p97 : lw_okq (⟨"TripleTrainsModel", "isCycleFrom", "(III)Z"⟩, 33) := ⟨⟨by decide +kernel, by decide +kernel⟩, List.mem_of_getElem? (i := 1402) (by decide +kernel), List.mem_of_getElem? (i := 1887) (by decide +kernel), List.mem_of_getElem? (i := 1888) (by decide +kernel)⟩
theorem lw_p98 : lw_okq (⟨"TripleTrainsModel", "walks", "(III)Z"⟩, 33) := ⟨⟨by decide +kernel, by decide +kernel⟩, List.mem_of_getElem? (i := 1402) (by decide +kernel), List.mem_of_getElem? (i := 1891) (by decide +kernel), List.mem_of_getElem? (i := 1892) (by decide +kernel)⟩
theorem lw_p99 : lw_okq (⟨"TripleTrainsModel", "noCycle", "(III)Z"⟩, 33) := ⟨⟨by decide +kernel, by decide +kernel⟩, List.mem_of_getElem? (i := 1402) (by decide +kernel), List.mem_of_getElem? (i := 1899) (by decide +kernel), List.mem_of_getElem? (i := 1900) (by decide +kernel)⟩
theorem lw_p100 : lw_okq (⟨"TripleTrainsModel", "laysCycle", "(III)Z"⟩, 33) := ⟨⟨by decide +kernel, by decide +kernel⟩, List.mem_of_getElem? (i := 1402) (by decide +kernel), List.mem_of_getElem? (i := 1903) (by decide +kernel), List.mem_of_getElem? (i := 1904) (by decide +kernel)⟩
theorem lw_p101 : lw_okq (⟨"TripleTrainsModel", "switchesCycle", "(II)V"⟩, 33) := ⟨⟨by decide +kernel, by decide +kernel⟩, List.mem_of_getElem? (i := 1402) (by decide +kernel), List.mem_of_getElem? (i := 1915) (by decide +kernel), List.mem_of_getElem? (i := 1916) (by decide +kernel)⟩
theorem lw_p102 : lw_okq (⟨"TripleTrainsModel", "laysTrades", "(I)V"⟩, 33) := ⟨⟨by decide +kernel, by decide +kernel⟩, List.mem_of_getElem? (i := 1402) (by decide +kernel), List.mem_of_getElem? (i := 1931) (by decide +kernel), List.mem_of_getElem? (i := 1932) (by decide +kernel)⟩
theorem lw_p103 : lw_okq (⟨"TripleTrainsModel", "replacedBy", "(II)J"⟩, 33) := ⟨⟨by decide +kernel, by decide +kernel⟩, List.mem_of_getElem? (i := 1402) (by decide +kernel), List.mem_of_getElem? (i := 1935) (by decide +kernel), List.mem_of_getElem? (i := 1936) (by decide +kernel)⟩
theorem lw_p104 : lw_okq (⟨"TripleTrainsModel", "addsTrade", "(J)V"⟩, 33) := ⟨⟨by decide +kernel, by decide +kernel⟩, List.mem_of_getElem? (i := 1402) (by decide +kernel), List.mem_of_getElem? (i := 1939) (by decide +kernel), List.mem_of_getElem? (i := 1940) (by decide +kernel)⟩
theorem lw_p105 : lw_okq (⟨"TripleTrainsModel", "isPerfect", "(II)Z"⟩, 33) := ⟨⟨by decide +kernel, by decide +kernel⟩, List.mem_of_getElem? (i := 1402) (by decide +kernel), List.mem_of_getElem? (i := 1951) (by decide +kernel), List.mem_of_getElem? (i := 1952) (by decide +kernel)⟩
theorem lw_p106 : lw_okq (⟨"TripleTrainsModel", "quadSet", "(I)J"⟩, 33) := ⟨⟨by decide +kernel, by decide +kernel⟩, List.mem_of_getElem? (i := 1402) (by decide +kernel), List.mem_of_getElem? (i := 1959) (by decide +kernel), List.mem_of_getElem? (i := 1960) (by decide +kernel)⟩
theorem lw_p107 : lw_okq (⟨"TripleTrainsModel", "noTrain", "(III)Z"⟩, 33) := ⟨⟨by decide +kernel, by decide +kernel⟩, List.mem_of_getElem? (i := 1402) (by decide +kernel), List.mem_of_getElem? (i := 1967) (by decide +kernel), List.mem_of_getElem? (i := 1968) (by decide +kernel)⟩
theorem lw_p108 : lw_okq (⟨"TripleTrainsModel", "next", "(I)I"⟩, 33) := ⟨⟨by decide +kernel, by decide +kernel⟩, List.mem_of_getElem? (i := 1402) (by decide +kernel), List.mem_of_getElem? (i := 1976) (by decide +kernel), List.mem_of_getElem? (i := 1977) (by decide +kernel)⟩
theorem lw_p109 : lw_okq (⟨"TripleTrainsModel", "leadTo", "(I)I"⟩, 33) := ⟨⟨by decide +kernel, by decide +kernel⟩, List.mem_of_getElem? (i := 1402) (by decide +kernel), List.mem_of_getElem? (i := 1984) (by decide +kernel), List.mem_of_getElem? (i := 1985) (by decide +kernel)⟩
theorem lw_p110 : lw_okq (⟨"TripleTrainsModel", "roundFrom", "(I)I"⟩, 33) := ⟨⟨by decide +kernel, by decide +kernel⟩, List.mem_of_getElem? (i := 1402) (by decide +kernel), List.mem_of_getElem? (i := 1992) (by decide +kernel), List.mem_of_getElem? (i := 1993) (by decide +kernel)⟩
theorem lw_p111 : lw_okq (⟨"TripleTrainsModel", "beginsRound", "(I)Z"⟩, 33) := ⟨⟨by decide +kernel, by decide +kernel⟩, List.mem_of_getElem? (i := 1402) (by decide +kernel), List.mem_of_getElem? (i := 2008) (by decide +kernel), List.mem_of_getElem? (i := 2009) (by decide +kernel)⟩
def lw_privs_7 : List (MethodName × Nat) := [(⟨"TripleTrainsModel", "cyclesMany", "(II)I"⟩, 33), (⟨"TripleTrainsModel", "isCycleFrom", "(III)Z"⟩, 33), (⟨"TripleTrainsModel", "walks", "(III)Z"⟩, 33), (⟨"TripleTrainsModel", "noCycle", "(III)Z"⟩, 33), (⟨"TripleTrainsModel", "laysCycle", "(III)Z"⟩, 33), (⟨"TripleTrainsModel", "switchesCycle", "(II)V"⟩, 33), (⟨"TripleTrainsModel", "laysTrades", "(I)V"⟩, 33), (⟨"TripleTrainsModel", "replacedBy", "(II)J"⟩, 33), (⟨"TripleTrainsModel", "addsTrade", "(J)V"⟩, 33), (⟨"TripleTrainsModel", "isPerfect", "(II)Z"⟩, 33), (⟨"TripleTrainsModel", "quadSet", "(I)J"⟩, 33), (⟨"TripleTrainsModel", "noTrain", "(III)Z"⟩, 33), (⟨"TripleTrainsModel", "next", "(I)I"⟩, 33), (⟨"TripleTrainsModel", "leadTo", "(I)I"⟩, 33), (⟨"TripleTrainsModel", "roundFrom", "(I)I"⟩, 33), (⟨"TripleTrainsModel", "beginsRound", "(I)Z"⟩, 33)]
theorem lw_r7 : ∀ q ∈ lw_privs_7, lw_okq q := List.forall_mem_cons.mpr ⟨lw_p96, List.forall_mem_cons.mpr ⟨lw_p97, List.forall_mem_cons.mpr ⟨lw_p98, List.forall_mem_cons.mpr ⟨lw_p99, List.forall_mem_cons.mpr ⟨lw_p100, List.forall_mem_cons.mpr ⟨lw_p101, List.forall_mem_cons.mpr ⟨lw_p102, List.forall_mem_cons.mpr ⟨lw_p103, List.forall_mem_cons.mpr ⟨lw_p104, List.forall_mem_cons.mpr ⟨lw_p105, List.forall_mem_cons.mpr ⟨lw_p106, List.forall_mem_cons.mpr ⟨lw_p107, List.forall_mem_cons.mpr ⟨lw_p108, List.forall_mem_cons.mpr ⟨lw_p109, List.forall_mem_cons.mpr ⟨lw_p110, List.forall_mem_cons.mpr ⟨lw_p111, fun _ h => absurd h List.not_mem_nil⟩⟩⟩⟩⟩⟩⟩⟩⟩⟩⟩⟩⟩⟩⟩⟩
theorem lw_p112 : lw_okq (⟨"TripleTrainsModel", "isTurnedBy", "(I)Z"⟩, 33) := ⟨⟨by decide +kernel, by decide +kernel⟩, List.mem_of_getElem? (i := 1402) (by decide +kernel), List.mem_of_getElem? (i := 2016) (by decide +kernel), List.mem_of_getElem? (i := 2017) (by decide +kernel)⟩
theorem lw_p113 : lw_okq (⟨"TripleTrainsModel", "leastOf", "()I"⟩, 33) := ⟨⟨by decide +kernel, by decide +kernel⟩, List.mem_of_getElem? (i := 1402) (by decide +kernel), List.mem_of_getElem? (i := 2024) (by decide +kernel), List.mem_of_getElem? (i := 2025) (by decide +kernel)⟩
theorem lw_p114 : lw_okq (⟨"TripleTrainsModel", "isLeastOfOrbit", "(II)Z"⟩, 33) := ⟨⟨by decide +kernel, by decide +kernel⟩, List.mem_of_getElem? (i := 1402) (by decide +kernel), List.mem_of_getElem? (i := 2032) (by decide +kernel), List.mem_of_getElem? (i := 2033) (by decide +kernel)⟩
theorem lw_p115 : lw_okq (⟨"TripleTrainsModel", "closed", "(I)I"⟩, 33) := ⟨⟨by decide +kernel, by decide +kernel⟩, List.mem_of_getElem? (i := 1402) (by decide +kernel), List.mem_of_getElem? (i := 2044) (by decide +kernel), List.mem_of_getElem? (i := 2045) (by decide +kernel)⟩
theorem lw_p116 : lw_okq (⟨"TripleTrainsModel", "isClosed", "(I)Z"⟩, 33) := ⟨⟨by decide +kernel, by decide +kernel⟩, List.mem_of_getElem? (i := 1402) (by decide +kernel), List.mem_of_getElem? (i := 2052) (by decide +kernel), List.mem_of_getElem? (i := 2053) (by decide +kernel)⟩
theorem lw_p117 : lw_okq (⟨"TripleTrainsModel", "holdsNone", "(I)Z"⟩, 33) := ⟨⟨by decide +kernel, by decide +kernel⟩, List.mem_of_getElem? (i := 1402) (by decide +kernel), List.mem_of_getElem? (i := 2060) (by decide +kernel), List.mem_of_getElem? (i := 2061) (by decide +kernel)⟩
theorem lw_p118 : lw_okq (⟨"TripleTrainsModel", "mostFrom", "(II)I"⟩, 33) := ⟨⟨by decide +kernel, by decide +kernel⟩, List.mem_of_getElem? (i := 1402) (by decide +kernel), List.mem_of_getElem? (i := 2072) (by decide +kernel), List.mem_of_getElem? (i := 2073) (by decide +kernel)⟩
theorem lw_p119 : lw_okq (⟨"TripleTrainsModel", "write", "(I)V"⟩, 33) := ⟨⟨by decide +kernel, by decide +kernel⟩, List.mem_of_getElem? (i := 1402) (by decide +kernel), List.mem_of_getElem? (i := 2080) (by decide +kernel), List.mem_of_getElem? (i := 2081) (by decide +kernel)⟩
theorem lw_p120 : lw_okq (⟨"TripleTrainsModel", "writePoint", "(I)V"⟩, 33) := ⟨⟨by decide +kernel, by decide +kernel⟩, List.mem_of_getElem? (i := 1402) (by decide +kernel), List.mem_of_getElem? (i := 2084) (by decide +kernel), List.mem_of_getElem? (i := 2085) (by decide +kernel)⟩
def lw_privs_8 : List (MethodName × Nat) := [(⟨"TripleTrainsModel", "isTurnedBy", "(I)Z"⟩, 33), (⟨"TripleTrainsModel", "leastOf", "()I"⟩, 33), (⟨"TripleTrainsModel", "isLeastOfOrbit", "(II)Z"⟩, 33), (⟨"TripleTrainsModel", "closed", "(I)I"⟩, 33), (⟨"TripleTrainsModel", "isClosed", "(I)Z"⟩, 33), (⟨"TripleTrainsModel", "holdsNone", "(I)Z"⟩, 33), (⟨"TripleTrainsModel", "mostFrom", "(II)I"⟩, 33), (⟨"TripleTrainsModel", "write", "(I)V"⟩, 33), (⟨"TripleTrainsModel", "writePoint", "(I)V"⟩, 33)]
theorem lw_r8 : ∀ q ∈ lw_privs_8, lw_okq q := List.forall_mem_cons.mpr ⟨lw_p112, List.forall_mem_cons.mpr ⟨lw_p113, List.forall_mem_cons.mpr ⟨lw_p114, List.forall_mem_cons.mpr ⟨lw_p115, List.forall_mem_cons.mpr ⟨lw_p116, List.forall_mem_cons.mpr ⟨lw_p117, List.forall_mem_cons.mpr ⟨lw_p118, List.forall_mem_cons.mpr ⟨lw_p119, List.forall_mem_cons.mpr ⟨lw_p120, fun _ h => absurd h List.not_mem_nil⟩⟩⟩⟩⟩⟩⟩⟩⟩
def lw_privs : List (MethodName × Nat) := lw_privs_1 ++ (lw_privs_2 ++ (lw_privs_3 ++ (lw_privs_4 ++ (lw_privs_5 ++ (lw_privs_6 ++ (lw_privs_7 ++ (lw_privs_8)))))))
def lw_tbl : List Cond := k2_sels lw_privs ++ tables_1
theorem lw_privs_ok : ∀ q ∈ lw_privs, lw_okq q := by
  show ∀ q ∈ lw_privs_1 ++ (lw_privs_2 ++ (lw_privs_3 ++ (lw_privs_4 ++ (lw_privs_5 ++ (lw_privs_6 ++ (lw_privs_7 ++ (lw_privs_8))))))), lw_okq q
  exact List.forall_mem_append.mpr ⟨lw_r1, List.forall_mem_append.mpr ⟨lw_r2, List.forall_mem_append.mpr ⟨lw_r3, List.forall_mem_append.mpr ⟨lw_r4, List.forall_mem_append.mpr ⟨lw_r5, List.forall_mem_append.mpr ⟨lw_r6, List.forall_mem_append.mpr ⟨lw_r7, lw_r8⟩⟩⟩⟩⟩⟩⟩
/-- the streams that the claim lets the run draw from -/
abbrev lw_cs : List Choice := [Jvm.Choice.named "NaN.bits"]
theorem lw_bits : nanBits ∈ lw_cs := by first | decide | exact List.mem_cons_self | simp [lw_cs, nanBits]
/-! ===== BEGIN words of one list among another's, by their places ===== -/
theorem goodIn_r {big : List Cond} (ws : List Cond) (ps : List Nat) (hp : ws = ps.filterMap (fun i => big[i]?)) (h : ws.all goodWord = true) : GoodIn big ws := by
  intro w hw
  have h1 := List.all_eq_true.mp h w hw
  rw [hp] at hw
  obtain ⟨i, -, hi⟩ := List.mem_filterMap.mp hw
  have hm : w ∈ big := by first | exact List.mem_of_getElem? hi | exact List.getElem?_mem hi
  exact ⟨hm, good_of_word h1⟩
theorem goodIn_app {big a b : List Cond} (ha : GoodIn big a) (hb : GoodIn big b) : GoodIn big (a ++ b) := fun w h => (List.mem_append.mp h).elim (ha w) (hb w)
theorem goodIn_ca {big a b : List Cond} {c : Cond} (ha : GoodIn big (c :: a)) (hb : GoodIn big b) : GoodIn big (c :: (a ++ b)) := fun w h => (List.mem_cons.mp h).elim (fun e => ha w (List.mem_cons.mpr (Or.inl e))) (fun h => (List.mem_append.mp h).elim (fun h => ha w (List.mem_cons.mpr (Or.inr h))) (hb w))
theorem goodIn_sub {big ws : List Cond} (hm : ∀ w ∈ ws, w ∈ big) (h : ws.all goodWord = true) : GoodIn big ws := fun w hw => ⟨hm w hw, good_of_word (List.all_eq_true.mp h w hw)⟩
/-! ===== END ===== -/

/-! ===== BEGIN exceptions that leave a method, and their catching by the caller (launches without stack traces) ===== -/
section VXA
/-! The laws vx_back, vx_callV, vx_callS, vx_callSW, vx_throw0, vx_throwS follow proofs of the library, with one case more: JvmDerived/Free/Laws.lean (Back.of_free), Shelf42/LK1.lean (callV, callS), Shelf/KitTraced.lean (throwNew0V, throwNewS). -/
/-- where a method has thrown q: the class by its name, the cell, what was written, the world -/
def vx_T (XC : String → State → State → Prop) (st : State) (q : Addr) (t : State) (mc ms : Nat) (free : Addr → Prop) : Prop :=
  ∃ (E : String) (ce : Cell) (L : List Loc), XC E st t ∧ t.heap[q]? = some ce ∧ ce.vm = .none ∧ st.vm.findClass E = some ce.cls ∧ st.WarmedH t.vm ∧ st.sameButNew ({ t with vm := st.vm } : State) L mc ms ∧ ∀ z ∈ L, free z.base
def vx_Q (Qc : Array Value → State → Outcome → State → Prop) (XC : String → State → State → Prop) (mc ms : Nat) (free : Addr → Prop) : Array Value → State → Outcome → State → Prop := fun a st o t =>
  (Qc a st o t ∧ ∃ L, FrameEnd st o t L mc ms ∧ ∀ q ∈ L, free q.base) ∨ ∃ q, o = .threw q ∧ vx_T XC st q t mc ms free
/-- a callee that returns or throws -/
def vx_Met (l : Launch) (y : MethodName) (ws : List Cond) (rm : Room) (Pc : Array Value → State → Prop) (Qc : Array Value → State → Outcome → State → Prop) (XC : String → State → State → Prop) (mc ms : Nat) (free : Addr → Prop) : Prop :=
  MetFree l y (headSpec ws rm) Pc (fun _ _ _ _ _ => True) (vx_Q Qc XC mc ms free)
def vx_Post (XC : String → State → State → Prop) (mc ms : Nat) (free : Addr → Prop) : Pt → Array Value → Addr → Pt → Prop := fun A a q B =>
  ∃ (g : JFrame) (mk : MethodId) (t : State) (L : List Loc) (E : String) (ce : Cell), B.U.heap = t.heap ∧ B.U.vm = t.vm ∧ XC E (A.U.calling g mk a) t ∧ t.heap[q]? = some ce ∧ ce.vm = .none ∧ A.U.vm.findClass E = some ce.cls ∧ B.locs = A.locs ++ L ∧ (∀ z ∈ L, free z.base) ∧ B.cells = A.cells + mc ∧ B.slots = A.slots + ms
def vx_Back (l : Launch) (R : Room) (p : Program) (e : Env) (below : List Frame) (s : State) (sargs : Array Value) (y : MethodName) (len W9 : Nat)
    (Pre : Pt → Array Value → Prop) (Post : Pt → Array Value → Option Value → Pt → Prop) (PostX : Pt → Array Value → Addr → Pt → Prop) : Prop :=
  ∀ (m : MethodId) (meth : Method) (c : Code) (A : Pt) (g : JFrame) (ig : Instr) (mk : MethodId) (a : Array Value),
    Stand p l e R s m sargs below meth c A.U A.locs A.cells A.slots → g.method = m → g.locals.size = c.maxLocals → decode c.code g.pc = .ok (ig, len) →
    2 * g.monitorRoom + (g.stack.map fun v => v.category).sum ≤ W9 → A.U.methodNamed? y = some mk → Pre A a →
    (∃ (v : Option Value) (B : Pt), Stand p l e R s m sargs below meth c B.U B.locs B.cells B.slots ∧ Post A a v B ∧
      Steps p.tables e below (doInvoke e (A.U.setTop g) [] mk a).1 (B.U.setTop { g with pc := g.pc + len, stack := v.toList ++ g.stack })) ∨
    (∃ (q : Addr) (B : Pt), Stand p l e R s m sargs below meth c B.U B.locs B.cells B.slots ∧ PostX A a q B ∧
      Steps p.tables e below (doInvoke e (A.U.setTop g) [] mk a).1 ((B.U.setTop g).pushFrame (.throwing q)))
section Payer
variable {l : Launch} {R : Room} {p : Program} {e : Env} {below : List Frame} {s : State} {sargs : Array Value} {y : MethodName} {len W9 : Nat}
theorem vx_back {ws : List Cond} {rm : Room} {Pc : Array Value → State → Prop} {Qc : Array Value → State → Outcome → State → Prop} {XC : String → State → State → Prop} {mc ms : Nat} {free : Addr → Prop} {bytes : ByteArray} {maxL : Nat} {ret : Option FieldType}
    (hM : vx_Met l y ws rm Pc Qc XC mc ms free) (hblind : FrameBlind Pc) (hrc : rm.cells = mc) (hrs : rm.slots = ms)
    (hframes : rm.frames + 1 ≤ R.frames) (hlocals : W9 + (maxL + 11) + rm.locals ≤ R.locals)
    (hws : ∀ w ∈ ws, ∀ a' U, s.WarmedH U.vm → w.before a' U = true) (hcode : Cond.code y bytes maxL ret ∈ ws) (hinit : ∀ a' U, s.WarmedH U.vm → (Cond.initialized y.cls).before a' U = true) :
    vx_Back l R p e below s sargs y len W9 (PreOf R mc ms Pc) (PostOf Qc mc ms free) (vx_Post XC mc ms free) := by
  intro m meth c A g ig mk a X hg hsize hdg hW hn hp
  have h1 : (headSpec ws rm).pre.before a A.U = true := atoms_intro fun w hw => hws w hw _ _ X.warmed
  have h2 : (Cond.code y bytes maxL ret).before a A.U = true := hws _ hcode _ _ X.warmed
  have h3 : (Cond.initialized y.cls).before a A.U = true := hinit _ _ X.warmed
  have h4 : A.cells + (headSpec ws rm).room.cells ≤ R.cells := by rw [show (headSpec ws rm).room.cells = mc from hrc]; exact hp.1
  have h5 : A.slots + (headSpec ws rm).room.slots ≤ R.slots := by rw [show (headSpec ws rm).room.slots = ms from hrs]; exact hp.2.1
  have hPc : Pc a (A.U.calling g mk a) := hblind _ _ _ _ hp.2.2
  obtain ⟨U, Ls, c0, s0⟩ := A
  dsimp only [Pt.U, Pt.locs, Pt.cells, Pt.slots] at h1 h2 h3 h4 h5 X hn hPc ⊢
  obtain ⟨methY, cY, hmY, hcY, -, hlY, -, -, -, -⟩ := Cond.code_spec hn h2
  obtain ⟨kY, hkY, -⟩ := className_of_methodNamed hn
  have hinitY : kY.init = .initialized := Cond.initialized_spec (findClass_of_methodNamed hn) hkY h3
  have h : At U g.method c below := by rw [hg]; exact X.here
  have hlocals9 : W9 + (maxL + 11) + (headSpec ws rm).room.locals ≤ R.locals := hlocals
  have happ : (headSpec ws rm).appliesLoose y e.platform (U.calling g mk a) = true :=
    Spec.appliesLoose_calling (g := g) h hdg hn hkY hinitY
      (X.room_calling (g := g) (R' := (headSpec ws rm).room) hsize hmY hcY hframes (by rw [hlY]; omega) h4 h5) h1
  obtain ⟨mid, hmid⟩ := h.above
  have hfr : (U.setTop g).frames = (.java g :: mid) ++ below := by rw [State.frames_setTop' g h.top, hmid]; rfl
  obtain ⟨o, s₂, hsteps, -, hend, hq⟩ := Steps.callFree hM p X.admits X.cas X.clock (acts := []) hfr happ hPc trivial
  have hq' : vx_Q Qc XC mc ms free a (U.calling g mk a) o s₂ := hq
  rw [State.frames_setTop' g h.top] at hend
  obtain ⟨g₀, hg0⟩ := Option.isSome_iff_exists.mp h.top
  obtain ⟨r, hr⟩ := State.topJava?_eq_some.mp hg0
  have hr' : (({ U with heap := s₂.heap, slotsUsed := s₂.slotsUsed } : State).setVm s₂.vm).frames = .java g₀ :: r := hr
  rcases hq' with ⟨hqc, L, hfe, hL⟩ | ⟨q, rfl, E, ce, L, hx, hce, hcv, hcl, hW₂, hsm, hL⟩
  · obtain ⟨⟨v, rfl⟩, hW₂, e2, q2, q3, q4, q5, q6⟩ := id hfe
    have e3 : s₂ = ({ (U.calling g mk a).setFrames s₂.frames with heap := s₂.heap, slotsUsed := s₂.slotsUsed } : State).setVm s₂.vm := by
      have : s₂ = ({ s₂ with vm := (U.calling g mk a).vm } : State).setVm s₂.vm := rfl
      rw [e2] at this
      exact this
    obtain ⟨c₂, i₂, len₂, hc₂, hd₂, hf₂⟩ := hend
    have hW' : U.WarmedH s₂.vm := hW₂
    have hcc : c₂ = c := by
      have h1 : s₂.code? g.method = U.code? g.method := by
        rw [State.code?_eq, State.code?_eq, hW'.alike.method?]
      exact Option.some.inj (hc₂.symm.trans (h1.trans h.code))
    subst hcc
    have hlen : len₂ = len := by rw [hdg] at hd₂; cases hd₂; rfl
    subst hlen
    have hs₂ : s₂ = (({ U with heap := s₂.heap, slotsUsed := s₂.slotsUsed } : State).setVm s₂.vm).setTop { g with pc := g.pc + len₂, stack := v.toList ++ g.stack } := by
      refine e3.trans ?_
      rw [hf₂, State.calling_eq h.top, State.setFrames_setFrames, State.setTop_of_frames _ hr', hr]
      rfl
    have hsame : U.sameButNew ({ U with heap := s₂.heap, slotsUsed := s₂.slotsUsed } : State) L mc ms := by
      refine ⟨?_, q2, q3, q4, q5, q6⟩
      obtain ⟨t, ht, -⟩ := State.frames_cons hr
      show ({ U with heap := s₂.heap, slotsUsed := s₂.slotsUsed } : State) = { U.setFrames U.frames with heap := s₂.heap, slotsUsed := s₂.slotsUsed }
      rw [State.setFrames_self ht]
    subst hg
    refine Or.inl ⟨v, ⟨(({ U with heap := s₂.heap, slotsUsed := s₂.slotsUsed } : State).setVm s₂.vm), Ls ++ L, c0 + mc, s0 + ms⟩,
      ⟨X.admits, X.cas, X.clock, X.frames, X.room, X.hears, X.method, X.code, (X.here.setHeapUsed s₂.heap s₂.slotsUsed).setVm hW'.alike, X.tail, State.WarmedH.trans X.warmed hW', X.limits, X.bytes, X.same.trans (hsame.setVm s.vm)⟩,
      ⟨g, mk, s₂, L, rfl, rfl, hqc, rfl, hL, rfl, rfl⟩, ?_⟩
    show Steps p.tables e below _ ((({ U with heap := s₂.heap, slotsUsed := s₂.slotsUsed } : State).setVm s₂.vm).setTop { g with pc := g.pc + len₂, stack := v.toList ++ g.stack })
    rw [← hs₂]
    exact hsteps
  · obtain ⟨e2, q2, q3, q4, q5, q6⟩ := id hsm
    have e3 : s₂ = ({ (U.calling g mk a).setFrames s₂.frames with heap := s₂.heap, slotsUsed := s₂.slotsUsed } : State).setVm s₂.vm := by
      have : s₂ = ({ s₂ with vm := (U.calling g mk a).vm } : State).setVm s₂.vm := rfl
      rw [e2] at this
      exact this
    have hf₂ : s₂.frames = .throwing q :: .java g :: U.frames.tail := hend
    have hW' : U.WarmedH s₂.vm := hW₂
    have hs₂ : s₂ = ((({ U with heap := s₂.heap, slotsUsed := s₂.slotsUsed } : State).setVm s₂.vm).setTop g).pushFrame (.throwing q) := by
      refine e3.trans ?_
      rw [hf₂, State.calling_eq h.top, State.setFrames_setFrames, State.pushFrame, State.frames_setTop _ hr', State.setTop_of_frames _ hr', State.setFrames_setFrames, hr]
      rfl
    have hsame : U.sameButNew ({ U with heap := s₂.heap, slotsUsed := s₂.slotsUsed } : State) L mc ms := by
      refine ⟨?_, q2, q3, q4, q5, q6⟩
      obtain ⟨t, ht, -⟩ := State.frames_cons hr
      show ({ U with heap := s₂.heap, slotsUsed := s₂.slotsUsed } : State) = { U.setFrames U.frames with heap := s₂.heap, slotsUsed := s₂.slotsUsed }
      rw [State.setFrames_self ht]
    subst hg
    refine Or.inr ⟨q, ⟨(({ U with heap := s₂.heap, slotsUsed := s₂.slotsUsed } : State).setVm s₂.vm), Ls ++ L, c0 + mc, s0 + ms⟩,
      ⟨X.admits, X.cas, X.clock, X.frames, X.room, X.hears, X.method, X.code, (X.here.setHeapUsed s₂.heap s₂.slotsUsed).setVm hW'.alike, X.tail, State.WarmedH.trans X.warmed hW', X.limits, X.bytes, X.same.trans (hsame.setVm s.vm)⟩,
      ⟨g, mk, s₂, L, E, ce, rfl, rfl, hx, hce, hcv, hcl, rfl, hL, rfl, rfl⟩, ?_⟩
    show Steps p.tables e below _ (((({ U with heap := s₂.heap, slotsUsed := s₂.slotsUsed } : State).setVm s₂.vm).setTop g).pushFrame (.throwing q))
    rw [← hs₂]
    exact hsteps
end Payer
section Calls
variable {p : Program} {l : Launch} {e : Env} {R : Room} {s : State} {m : MethodId} {args : Array Value} {below : List Frame} {meth : Method} {c : Code} {T : State} {locs : List Loc} {cells slots : Nat}
theorem vx_callV (X : Stand p l e R s m args below meth c T locs cells slots) (hexec : p.tables.exec = Jvm.exec) {own C : String} {index : Nat} {y : MethodName} {bytes : ByteArray} {maxL : Nat} {ret : Option FieldType}
    (hown : s.vm.findClass own = some m.cls) (hlink : (Cond.methodLink own index y).before args s = true) (hinst : (Cond.instanceMethod y).before args s = true) (hsel : (Cond.selects C y y).before args s = true)
    (hcode : (Cond.code y bytes maxL ret).before args s = true) (hy : y.cls ≠ "java/lang/invoke/MethodHandle" ∧ y.cls ≠ "java/lang/invoke/VarHandle")
    {W9 : Nat} {Pre : Pt → Array Value → Prop} {Post : Pt → Array Value → Option Value → Pt → Prop} {PostX : Pt → Array Value → Addr → Pt → Prop} (hK : vx_Back l R p e below s args y 3 W9 Pre Post PostX)
    {b : Addr} {cellB : Cell} (hcell : T.heap[b]? = some cellB) (hobj : cellB.vm.isStatics = false) (hcls : s.vm.findClass C = some cellB.cls)
    {g : JFrame} (hg : g.method = m) (hsize : g.locals.size = c.maxLocals) {argsL rest : List Value} (hlen : ∀ sig, parseMethodDescriptor y.desc = some sig → argsL.length = sig.parameters.length)
    (hstack : g.stack = argsL.reverse ++ .ref b :: rest) (hW : 2 * g.monitorRoom + (rest.map fun v => v.category).sum ≤ W9) (hdg : decode c.code g.pc = .ok (.invokevirtual index, 3))
    (hpre : ∀ vm₁, s.WarmedH vm₁ → Pre ⟨T.setVm vm₁, locs, cells, slots⟩ (Value.ref b :: argsL).toArray) :
    (∃ (v : Option Value) (vm₁ : Vm) (B : Pt), s.WarmedH vm₁ ∧ Stand p l e R s m args below meth c B.U B.locs B.cells B.slots ∧ Post ⟨T.setVm vm₁, locs, cells, slots⟩ (Value.ref b :: argsL).toArray v B ∧
      ∀ target, Steps p.tables e below (B.U.setTop { g with pc := g.pc + 3, stack := v.toList ++ rest }) target → Steps p.tables e below (T.setTop g) target) ∨
    (∃ (q : Addr) (vm₁ : Vm) (B : Pt), s.WarmedH vm₁ ∧ Stand p l e R s m args below meth c B.U B.locs B.cells B.slots ∧ PostX ⟨T.setVm vm₁, locs, cells, slots⟩ (Value.ref b :: argsL).toArray q B ∧
      Steps p.tables e below (T.setTop g) ((B.U.setTop { g with stack := rest }).pushFrame (.throwing q))) := by
  obtain ⟨mk, methM, hnamed, hmethM, hstM, habM⟩ := Cond.instanceMethod_spec hinst
  obtain ⟨methM', cM, hmethM', -, -, -, -, -, -, hsigM⟩ := Cond.code_spec hnamed hcode
  cases hmethM.symm.trans hmethM'
  obtain ⟨c2, r2, m2, q1, q2, q3, q4, kP, hkP, hkPi⟩ := Cond.selects_spec hsel
  cases hcls.symm.trans q1
  cases (State.methodFound?_of_named hnamed hy).symm.trans q2
  cases hnamed.symm.trans q3
  have hselP : selectMethod e.platform s.vm cellB.cls mk = .method mk := by rw [Launch.admits_selectMethod X.admits]; exact q4
  obtain ⟨vm₁, X₁, hstep₁⟩ := X.invokevirtual hexec hown hlink hnamed hmethM hstM hkP hkPi hy (a := b) (cell := cellB) hcell
    (fun z h => by rw [h] at hobj; cases hobj) hselP hmethM habM hkP hkPi (g := g) hg (argsL := argsL) (rest := rest) (hlen _ hsigM) hstack hdg
  rcases hK m meth c ⟨T.setVm vm₁, locs, cells, slots⟩ { g with stack := rest } (.invokevirtual index) mk (Value.ref b :: argsL).toArray X₁ hg hsize hdg hW (X₁.named hnamed) (hpre vm₁ X₁.warmed) with ⟨v, B, X', hpost, hsteps⟩ | ⟨q, B, X', hpost, hsteps⟩
  · exact Or.inl ⟨v, vm₁, B, X₁.warmed, X', hpost, fun target h => hstep₁ _ fun acts => by rw [doInvoke_state]; exact hsteps.trans h⟩
  · exact Or.inr ⟨q, vm₁, B, X₁.warmed, X', hpost, hstep₁ _ fun acts => by rw [doInvoke_state]; exact hsteps⟩
theorem vx_callS (X : Stand p l e R s m args below meth c T locs cells slots) (hexec : p.tables.exec = Jvm.exec) {own : String} {index : Nat} {y : MethodName} {bytes : ByteArray} {maxL : Nat} {ret : Option FieldType}
    (hown : s.vm.findClass own = some m.cls) (hlink : (Cond.methodLink own index y).before args s = true) (hstat : (Cond.static y).before args s = true) (hinit : (Cond.initialized y.cls).before args s = true)
    (hcode : (Cond.code y bytes maxL ret).before args s = true) (hy : y.cls ≠ "java/lang/invoke/MethodHandle" ∧ y.cls ≠ "java/lang/invoke/VarHandle")
    {W9 : Nat} {Pre : Pt → Array Value → Prop} {Post : Pt → Array Value → Option Value → Pt → Prop} {PostX : Pt → Array Value → Addr → Pt → Prop} (hK : vx_Back l R p e below s args y 3 W9 Pre Post PostX)
    {g : JFrame} (hg : g.method = m) (hsize : g.locals.size = c.maxLocals) {argsL rest : List Value} (hlen : ∀ sig, parseMethodDescriptor y.desc = some sig → argsL.length = sig.parameters.length)
    (hstack : g.stack = argsL.reverse ++ rest) (hW : 2 * g.monitorRoom + (rest.map fun v => v.category).sum ≤ W9) (hdg : decode c.code g.pc = .ok (.invokestatic index, 3))
    (hpre : ∀ vm₁, s.WarmedH vm₁ → Pre ⟨T.setVm vm₁, locs, cells, slots⟩ argsL.toArray) :
    (∃ (v : Option Value) (vm₁ : Vm) (B : Pt), s.WarmedH vm₁ ∧ Stand p l e R s m args below meth c B.U B.locs B.cells B.slots ∧ Post ⟨T.setVm vm₁, locs, cells, slots⟩ argsL.toArray v B ∧
      ∀ target, Steps p.tables e below (B.U.setTop { g with pc := g.pc + 3, stack := v.toList ++ rest }) target → Steps p.tables e below (T.setTop g) target) ∨
    (∃ (q : Addr) (vm₁ : Vm) (B : Pt), s.WarmedH vm₁ ∧ Stand p l e R s m args below meth c B.U B.locs B.cells B.slots ∧ PostX ⟨T.setVm vm₁, locs, cells, slots⟩ argsL.toArray q B ∧
      Steps p.tables e below (T.setTop g) ((B.U.setTop { g with stack := rest }).pushFrame (.throwing q))) := by
  obtain ⟨mk, hnamed⟩ := Cond.code_named hcode
  obtain ⟨methM, cM, hmethM, -, -, -, -, -, -, hsigM⟩ := Cond.code_spec hnamed hcode
  have hstatic : methM.isStatic = true := Cond.static_spec hnamed hmethM hstat
  obtain ⟨kP, hkP, -⟩ := className_of_methodNamed hnamed
  have hinitP : kP.init = .initialized := Cond.initialized_spec (findClass_of_methodNamed hnamed) hkP hinit
  obtain ⟨vm₁, X₁, hstep₁⟩ := X.invokestatic hexec hown hlink hnamed hmethM hstatic hkP hinitP hy (g := g) hg (argsL := argsL) (rest := rest) (hlen _ hsigM) hstack hdg
  rcases hK m meth c ⟨T.setVm vm₁, locs, cells, slots⟩ { g with stack := rest } (.invokestatic index) mk argsL.toArray X₁ hg hsize hdg hW (X₁.named hnamed) (hpre vm₁ X₁.warmed) with ⟨v, B, X', hpost, hsteps⟩ | ⟨q, B, X', hpost, hsteps⟩
  · exact Or.inl ⟨v, vm₁, B, X₁.warmed, X', hpost, fun target h => hstep₁ _ fun acts => by rw [doInvoke_state]; exact hsteps.trans h⟩
  · exact Or.inr ⟨q, vm₁, B, X₁.warmed, X', hpost, hstep₁ _ fun acts => by rw [doInvoke_state]; exact hsteps⟩
end Calls
theorem vx_cls {s : State} {T : State} {vm₁ : Vm} {E : String} {k : ClassId} (hW : s.WarmedH vm₁) (h : (T.setVm vm₁).vm.findClass E = some k) : s.vm.findClass E = some k := by
  have h1 : vm₁.findClass E = some k := h
  rw [hW.alike.findClass] at h1
  exact h1
/-- the method's frame g, with q thrown over it -/
def vx_W (p : Program) (l : Launch) (e : Env) (R : Room) (s : State) (m : MethodId) (args : Array Value) (below : List Frame) (meth : Method) (c : Code) (H : Heap) (locs : List Loc) (cells slots : Nat) (Q : State → Prop) (g : JFrame) (q : Addr) : Prop :=
  ∀ T : State, T.heap = H → Stand p l e R s m args below meth c T locs cells slots → ∃ t, Steps p.tables e below ((T.setTop g).pushFrame (.throwing q)) t ∧ Q t
def vx_Run (p : Program) (l : Launch) (e : Env) (R : Room) (s : State) (m : MethodId) (args : Array Value) (below : List Frame) (meth : Method) (c : Code) (H : Heap) (locs : List Loc) (cells slots mc ms : Nat) (g : JFrame) (rest : List Value) (Qa : State → Outcome → State → Prop) (XC : String → State → State → Prop) (free : Addr → Prop) : Prop :=
  ∀ T : State, T.heap = H → Stand p l e R s m args below meth c T locs cells slots →
    (∃ (v : Option Value) (st₀ t T' : State) (L : List Loc), st₀.heap = H ∧ Stand p l e R s m args below meth c T' (locs ++ L) (cells + mc) (slots + ms) ∧ (∀ q ∈ L, free q.base) ∧ T'.heap = t.heap ∧ T'.vm = t.vm ∧ Qa st₀ (.returned v) t ∧
      Goes p e below T g T' { g with pc := g.pc + 3, stack := v.toList ++ rest }) ∨
    (∃ (q : Addr) (st₀ t T' : State) (L : List Loc) (E : String) (ce : Cell), st₀.heap = H ∧ Stand p l e R s m args below meth c T' (locs ++ L) (cells + mc) (slots + ms) ∧ (∀ z ∈ L, free z.base) ∧ T'.heap = t.heap ∧ T'.vm = t.vm ∧ XC E st₀ t ∧ t.heap[q]? = some ce ∧ ce.vm = .none ∧ s.vm.findClass E = some ce.cls ∧
      Steps p.tables e below (T.setTop g) ((T'.setTop { g with stack := rest }).pushFrame (.throwing q)))
def vx_X {S : Type} (px : S → Prop) (B : String → S → State → Prop) (A : Nat → Prop) : String → State → State → Prop := fun E st t => ∃ u : S, px u ∧ B E u t ∧ va_F A st t
section Runs
variable {p : Program} {l : Launch} {e : Env} {R : Room} {s : State} {m : MethodId} {args : Array Value} {below : List Frame} {meth : Method} {c : Code} {H : Heap} {locs : List Loc} {cells slots : Nat}
variable {y : MethodName} {bytes cc : ByteArray} {maxL nL mc ms n index : Nat} {ret : Option FieldType} {ws : List Cond} {rm : Room} {Pc : Array Value → State → Prop} {Qc : Array Value → State → Outcome → State → Prop} {XC : String → State → State → Prop} {free : Addr → Prop} {Ts : List Cond} {own C : String} {b : Addr} {As rest : List Value} {g : JFrame}
theorem vx_callBack (cb : CallB R s args own index y bytes maxL ret ws rm mc ms n) (hM : vx_Met l y ws rm Pc Qc XC mc ms free) (hbl : FrameBlind Pc) : vx_Back l R p e below s args y 3 8 (PreOf R mc ms Pc) (PostOf Qc mc ms free) (vx_Post XC mc ms free) := by
  obtain ⟨hrc, hrs, hfr, hlo, hws, hcw, -, hini, -⟩ := cb
  exact vx_back (bytes := bytes) (maxL := maxL) (ret := ret) hM hbl hrc hrs hfr hlo hws hcw (fun a' U hW => word_at hW (Or.inl (by first | rfl | simp [Cond.onTables, Cond.keeps, Cond.steady])) hini)
theorem vx_runV (S : CallFix p m c cc nL s args Ts own) (hM : vx_Met l y ws rm Pc Qc XC mc ms free) (cw : CallW R s args own C index y bytes maxL ret ws rm mc ms n) (hp : PreV s H C b Pc As)
    (hg : g.method = m) (hn : As.length = n) (hsize : g.locals.size = nL) (hstack : g.stack = As.reverse ++ .ref b :: rest) (hW : 2 * g.monitorRoom + (rest.map fun v => v.category).sum ≤ 8) (hdg : decode cc g.pc = .ok (.invokevirtual index, 3)) (hf : cells + mc ≤ R.cells ∧ slots + ms ≤ R.slots) :
    vx_Run p l e R s m args below meth c H locs cells slots mc ms g rest (Qc (Value.ref b :: As).toArray) XC free := by
  have hK : vx_Back l R p e below s args y 3 8 (PreOf R mc ms Pc) (PostOf Qc mc ms free) (vx_Post XC mc ms free) := vx_callBack cw.1 hM hp.1
  obtain ⟨⟨-, -, -, -, -, -, hcode, -, hy, hlen, hl⟩, hin, hse⟩ := cw
  obtain ⟨hx, hb, hml, ho, -⟩ := S
  obtain ⟨-, ⟨cellB, hcB, hoB, hclB⟩, hPc⟩ := hp
  intro T hT X
  rcases vx_callV X hx (C := C) (bytes := bytes) (maxL := maxL) (ret := ret) ho hl hin hse hcode hy hK (by rw [hT]; exact hcB) hoB hclB hg (hsize.trans hml.symm) (argsL := As) (rest := rest) (fun sig h => hn.trans (hlen sig h)) hstack hW (by rw [hb]; exact hdg)
    (fun vm₁ hW₁ => ⟨hf.1, hf.2, hPc (T.setVm vm₁) hT hW₁⟩) with ⟨v, vm₁, ⟨U', l2, c2, s2⟩, hW₁, X', ⟨g', mk, t, L, e1, e2, hq, h1, hL, h2, h3⟩, st⟩ | ⟨q, vm₁, ⟨U', l2, c2, s2⟩, hW₁, X', ⟨g', mk, t, L, E, ce, e1, e2, hq, hce, hcv, hcl, h1, hL, h2, h3⟩, st⟩
  · dsimp only [Pt.U, Pt.locs, Pt.cells, Pt.slots] at X' e1 e2 h1 h2 h3 st
    subst h1; subst h2; subst h3
    exact Or.inl ⟨v, (T.setVm vm₁).calling g' mk (Value.ref b :: As).toArray, t, U', L, hT, X', hL, e1, e2, hq, st⟩
  · dsimp only [Pt.U, Pt.locs, Pt.cells, Pt.slots] at X' e1 e2 h1 h2 h3 st hcl
    subst h1; subst h2; subst h3
    exact Or.inr ⟨q, (T.setVm vm₁).calling g' mk (Value.ref b :: As).toArray, t, U', L, E, ce, hT, X', hL, e1, e2, hq, hce, hcv, vx_cls hW₁ hcl, st⟩
theorem vx_runS (S : CallFix p m c cc nL s args Ts own) (hM : vx_Met l y ws rm Pc Qc XC mc ms free) (cw : CallB R s args own index y bytes maxL ret ws rm mc ms n ∧ (Cond.static y).before args s = true) (hp : PreS s H Pc As)
    (hg : g.method = m) (hn : As.length = n) (hsize : g.locals.size = nL) (hstack : g.stack = As.reverse ++ rest) (hW : 2 * g.monitorRoom + (rest.map fun v => v.category).sum ≤ 8) (hdg : decode cc g.pc = .ok (.invokestatic index, 3)) (hf : cells + mc ≤ R.cells ∧ slots + ms ≤ R.slots) :
    vx_Run p l e R s m args below meth c H locs cells slots mc ms g rest (Qc As.toArray) XC free := by
  have hK : vx_Back l R p e below s args y 3 8 (PreOf R mc ms Pc) (PostOf Qc mc ms free) (vx_Post XC mc ms free) := vx_callBack cw.1 hM hp.1
  obtain ⟨⟨-, -, -, -, -, -, hcode, hini, hy, hlen, hl⟩, hstt⟩ := cw
  obtain ⟨hx, hb, hml, ho, -⟩ := S
  intro T hT X
  rcases vx_callS X hx (bytes := bytes) (maxL := maxL) (ret := ret) ho hl hstt hini hcode hy hK hg (hsize.trans hml.symm) (argsL := As) (rest := rest) (fun sig h => hn.trans (hlen sig h)) hstack hW (by rw [hb]; exact hdg)
    (fun vm₁ hW₁ => ⟨hf.1, hf.2, hp.2 (T.setVm vm₁) hT hW₁⟩) with ⟨v, vm₁, ⟨U', l2, c2, s2⟩, hW₁, X', ⟨g', mk, t, L, e1, e2, hq, h1, hL, h2, h3⟩, st⟩ | ⟨q, vm₁, ⟨U', l2, c2, s2⟩, hW₁, X', ⟨g', mk, t, L, E, ce, e1, e2, hq, hce, hcv, hcl, h1, hL, h2, h3⟩, st⟩
  · dsimp only [Pt.U, Pt.locs, Pt.cells, Pt.slots] at X' e1 e2 h1 h2 h3 st
    subst h1; subst h2; subst h3
    exact Or.inl ⟨v, (T.setVm vm₁).calling g' mk As.toArray, t, U', L, hT, X', hL, e1, e2, hq, st⟩
  · dsimp only [Pt.U, Pt.locs, Pt.cells, Pt.slots] at X' e1 e2 h1 h2 h3 st hcl
    subst h1; subst h2; subst h3
    exact Or.inr ⟨q, (T.setVm vm₁).calling g' mk As.toArray, t, U', L, E, ce, hT, X', hL, e1, e2, hq, hce, hcv, vx_cls hW₁ hcl, st⟩
end Runs
section Rows
variable {p : Program} {l : Launch} {e : Env} {R : Room} {s : State} {m : MethodId} {args : Array Value} {below : List Frame} {meth : Method} {c : Code} {H : Heap} {locs : List Loc} {cells slots : Nat} {Q : State → Prop}
variable {mc ms : Nat} {free : Addr → Prop} {A0 A1 : Nat → Prop} {H0 : Heap} {a : Array Value} {pc : Nat} {ls : Array Slot} {st0 rest : List Value}
theorem vx_keep {st₀ t T' : State} {L : List Loc} (h0 : st₀.heap = H) (e1 : T'.heap = t.heap) (hS : va_S A0 H0 H locs) (hA : ∀ q, q < H.size → A1 q → A0 q) (hf : ∀ q, free q → A0 q) (hL : ∀ q ∈ L, free q.base) (hF : va_F A1 st₀ t) :
    H.size ≤ T'.heap.size ∧ (∀ q : Nat, q < H.size → ¬ A1 q → T'.heap[q]? = H[q]?) ∧ va_S A0 H0 T'.heap (locs ++ L) := by
  obtain ⟨hz, hk⟩ := hF
  rw [h0] at hz hk
  exact ⟨by rw [e1]; exact hz, fun q h1 h2 => by rw [e1]; exact hk q h1 h2,
    ⟨Nat.le_trans hS.1 (by rw [e1]; exact hz), fun q h1 h2 => by rw [e1, hk q (Nat.lt_of_lt_of_le h1 hS.1) (fun z => h2 (hA q (Nat.lt_of_lt_of_le h1 hS.1) z))]; exact hS.2.1 q h1 h2, fun q hq => by
      rcases List.mem_append.mp hq with h | h
      · exact hS.2.2 q h
      · exact hf _ (hL q h)⟩⟩
theorem vx_calli {S SX : Type} {post : Int32 → S → Prop} {px : SX → Prop} {B : S → State → Prop} {BX : String → SX → State → Prop} {AX : Nat → Prop} (hr : vx_Run p l e R s m args below meth c H locs cells slots mc ms (F0 m pc ls st0) rest (va_Qi post B A1 a) (vx_X px BX AX) free) (hS : va_S A0 H0 H locs) (hA : ∀ q, q < H.size → A1 q → A0 q) (hf : ∀ q, free q → A0 q) (hAX : ∀ q, q < H.size → AX q → A0 q)
    (kx : ∀ (E : String) (ce : Cell) (q9 : Addr) (u : SX) (t : State) (H1 : Heap) (locs1 : List Loc), t.heap = H1 → s.vm.Alike t.vm → px u → BX E u t → H.size ≤ H1.size → (∀ q : Nat, q < H.size → ¬ AX q → H1[q]? = H[q]?) → va_S A0 H0 H1 locs1 → H1[q9]? = some ce → ce.vm = .none → s.vm.findClass E = some ce.cls → vx_W p l e R s m args below meth c H1 locs1 (cells + mc) (slots + ms) Q (F0 m pc ls rest) q9)
    (kk : ∀ (r : Int32) (u : S) (t : State) (H1 : Heap) (locs1 : List Loc), t.heap = H1 → s.vm.Alike t.vm → post r u → B u t → H.size ≤ H1.size → (∀ q : Nat, q < H.size → ¬ A1 q → H1[q]? = H[q]?) → va_S A0 H0 H1 locs1 → W p l e R s m args below meth c H1 locs1 (cells + mc) (slots + ms) Q (F0 m (pc + 3) ls (.int r :: rest))) : W p l e R s m args below meth c H locs cells slots Q (F0 m pc ls st0) := by
  intro T hT X
  rcases hr T hT X with ⟨v, st₀, t, T', L, h0, X', hL, e1, e2, ⟨⟨r, u, hv, hp, hb⟩, hF⟩, st⟩ | ⟨q, st₀, t, T', L, E, ce, h0, X', hL, e1, e2, ⟨u, hp, hb, hF⟩, hce, hcv, hcl, st⟩
  · cases hv
    obtain ⟨k1, k2, k3⟩ := vx_keep h0 e1 hS hA hf hL hF
    obtain ⟨t2, a1, b1⟩ := kk r u t T'.heap (locs ++ L) e1.symm (by rw [← e2]; exact X'.warmed.alike) hp hb k1 k2 k3 T' rfl X'
    exact ⟨t2, st t2 a1, b1⟩
  · obtain ⟨k1, k2, k3⟩ := vx_keep h0 e1 hS hAX hf hL hF
    obtain ⟨t2, a1, b1⟩ := kx E ce q u t T'.heap (locs ++ L) e1.symm (by rw [← e2]; exact X'.warmed.alike) hp hb k1 k2 k3 (by rw [e1]; exact hce) hcv hcl T' rfl X'
    exact ⟨t2, st.trans a1, b1⟩
theorem vx_calll {S SX : Type} {post : Int64 → S → Prop} {px : SX → Prop} {B : S → State → Prop} {BX : String → SX → State → Prop} {AX : Nat → Prop} (hr : vx_Run p l e R s m args below meth c H locs cells slots mc ms (F0 m pc ls st0) rest (va_Ql post B A1 a) (vx_X px BX AX) free) (hS : va_S A0 H0 H locs) (hA : ∀ q, q < H.size → A1 q → A0 q) (hf : ∀ q, free q → A0 q) (hAX : ∀ q, q < H.size → AX q → A0 q)
    (kx : ∀ (E : String) (ce : Cell) (q9 : Addr) (u : SX) (t : State) (H1 : Heap) (locs1 : List Loc), t.heap = H1 → s.vm.Alike t.vm → px u → BX E u t → H.size ≤ H1.size → (∀ q : Nat, q < H.size → ¬ AX q → H1[q]? = H[q]?) → va_S A0 H0 H1 locs1 → H1[q9]? = some ce → ce.vm = .none → s.vm.findClass E = some ce.cls → vx_W p l e R s m args below meth c H1 locs1 (cells + mc) (slots + ms) Q (F0 m pc ls rest) q9)
    (kk : ∀ (r : Int64) (u : S) (t : State) (H1 : Heap) (locs1 : List Loc), t.heap = H1 → s.vm.Alike t.vm → post r u → B u t → H.size ≤ H1.size → (∀ q : Nat, q < H.size → ¬ A1 q → H1[q]? = H[q]?) → va_S A0 H0 H1 locs1 → W p l e R s m args below meth c H1 locs1 (cells + mc) (slots + ms) Q (F0 m (pc + 3) ls (.long r :: rest))) : W p l e R s m args below meth c H locs cells slots Q (F0 m pc ls st0) := by
  intro T hT X
  rcases hr T hT X with ⟨v, st₀, t, T', L, h0, X', hL, e1, e2, ⟨⟨r, u, hv, hp, hb⟩, hF⟩, st⟩ | ⟨q, st₀, t, T', L, E, ce, h0, X', hL, e1, e2, ⟨u, hp, hb, hF⟩, hce, hcv, hcl, st⟩
  · cases hv
    obtain ⟨k1, k2, k3⟩ := vx_keep h0 e1 hS hA hf hL hF
    obtain ⟨t2, a1, b1⟩ := kk r u t T'.heap (locs ++ L) e1.symm (by rw [← e2]; exact X'.warmed.alike) hp hb k1 k2 k3 T' rfl X'
    exact ⟨t2, st t2 a1, b1⟩
  · obtain ⟨k1, k2, k3⟩ := vx_keep h0 e1 hS hAX hf hL hF
    obtain ⟨t2, a1, b1⟩ := kx E ce q u t T'.heap (locs ++ L) e1.symm (by rw [← e2]; exact X'.warmed.alike) hp hb k1 k2 k3 (by rw [e1]; exact hce) hcv hcl T' rfl X'
    exact ⟨t2, st.trans a1, b1⟩
theorem vx_callf {S SX : Type} {post : UInt32 → S → Prop} {px : SX → Prop} {B : S → State → Prop} {BX : String → SX → State → Prop} {AX : Nat → Prop} (hr : vx_Run p l e R s m args below meth c H locs cells slots mc ms (F0 m pc ls st0) rest (va_Qf post B A1 a) (vx_X px BX AX) free) (hS : va_S A0 H0 H locs) (hA : ∀ q, q < H.size → A1 q → A0 q) (hf : ∀ q, free q → A0 q) (hAX : ∀ q, q < H.size → AX q → A0 q)
    (kx : ∀ (E : String) (ce : Cell) (q9 : Addr) (u : SX) (t : State) (H1 : Heap) (locs1 : List Loc), t.heap = H1 → s.vm.Alike t.vm → px u → BX E u t → H.size ≤ H1.size → (∀ q : Nat, q < H.size → ¬ AX q → H1[q]? = H[q]?) → va_S A0 H0 H1 locs1 → H1[q9]? = some ce → ce.vm = .none → s.vm.findClass E = some ce.cls → vx_W p l e R s m args below meth c H1 locs1 (cells + mc) (slots + ms) Q (F0 m pc ls rest) q9)
    (kk : ∀ (r : UInt32) (u : S) (t : State) (H1 : Heap) (locs1 : List Loc), t.heap = H1 → s.vm.Alike t.vm → post r u → B u t → H.size ≤ H1.size → (∀ q : Nat, q < H.size → ¬ A1 q → H1[q]? = H[q]?) → va_S A0 H0 H1 locs1 → W p l e R s m args below meth c H1 locs1 (cells + mc) (slots + ms) Q (F0 m (pc + 3) ls (.float r :: rest))) : W p l e R s m args below meth c H locs cells slots Q (F0 m pc ls st0) := by
  intro T hT X
  rcases hr T hT X with ⟨v, st₀, t, T', L, h0, X', hL, e1, e2, ⟨⟨r, u, hv, hp, hb⟩, hF⟩, st⟩ | ⟨q, st₀, t, T', L, E, ce, h0, X', hL, e1, e2, ⟨u, hp, hb, hF⟩, hce, hcv, hcl, st⟩
  · cases hv
    obtain ⟨k1, k2, k3⟩ := vx_keep h0 e1 hS hA hf hL hF
    obtain ⟨t2, a1, b1⟩ := kk r u t T'.heap (locs ++ L) e1.symm (by rw [← e2]; exact X'.warmed.alike) hp hb k1 k2 k3 T' rfl X'
    exact ⟨t2, st t2 a1, b1⟩
  · obtain ⟨k1, k2, k3⟩ := vx_keep h0 e1 hS hAX hf hL hF
    obtain ⟨t2, a1, b1⟩ := kx E ce q u t T'.heap (locs ++ L) e1.symm (by rw [← e2]; exact X'.warmed.alike) hp hb k1 k2 k3 (by rw [e1]; exact hce) hcv hcl T' rfl X'
    exact ⟨t2, st.trans a1, b1⟩
theorem vx_calld {S SX : Type} {post : UInt64 → S → Prop} {px : SX → Prop} {B : S → State → Prop} {BX : String → SX → State → Prop} {AX : Nat → Prop} (hr : vx_Run p l e R s m args below meth c H locs cells slots mc ms (F0 m pc ls st0) rest (va_Qd post B A1 a) (vx_X px BX AX) free) (hS : va_S A0 H0 H locs) (hA : ∀ q, q < H.size → A1 q → A0 q) (hf : ∀ q, free q → A0 q) (hAX : ∀ q, q < H.size → AX q → A0 q)
    (kx : ∀ (E : String) (ce : Cell) (q9 : Addr) (u : SX) (t : State) (H1 : Heap) (locs1 : List Loc), t.heap = H1 → s.vm.Alike t.vm → px u → BX E u t → H.size ≤ H1.size → (∀ q : Nat, q < H.size → ¬ AX q → H1[q]? = H[q]?) → va_S A0 H0 H1 locs1 → H1[q9]? = some ce → ce.vm = .none → s.vm.findClass E = some ce.cls → vx_W p l e R s m args below meth c H1 locs1 (cells + mc) (slots + ms) Q (F0 m pc ls rest) q9)
    (kk : ∀ (r : UInt64) (u : S) (t : State) (H1 : Heap) (locs1 : List Loc), t.heap = H1 → s.vm.Alike t.vm → post r u → B u t → H.size ≤ H1.size → (∀ q : Nat, q < H.size → ¬ A1 q → H1[q]? = H[q]?) → va_S A0 H0 H1 locs1 → W p l e R s m args below meth c H1 locs1 (cells + mc) (slots + ms) Q (F0 m (pc + 3) ls (.double r :: rest))) : W p l e R s m args below meth c H locs cells slots Q (F0 m pc ls st0) := by
  intro T hT X
  rcases hr T hT X with ⟨v, st₀, t, T', L, h0, X', hL, e1, e2, ⟨⟨r, u, hv, hp, hb⟩, hF⟩, st⟩ | ⟨q, st₀, t, T', L, E, ce, h0, X', hL, e1, e2, ⟨u, hp, hb, hF⟩, hce, hcv, hcl, st⟩
  · cases hv
    obtain ⟨k1, k2, k3⟩ := vx_keep h0 e1 hS hA hf hL hF
    obtain ⟨t2, a1, b1⟩ := kk r u t T'.heap (locs ++ L) e1.symm (by rw [← e2]; exact X'.warmed.alike) hp hb k1 k2 k3 T' rfl X'
    exact ⟨t2, st t2 a1, b1⟩
  · obtain ⟨k1, k2, k3⟩ := vx_keep h0 e1 hS hAX hf hL hF
    obtain ⟨t2, a1, b1⟩ := kx E ce q u t T'.heap (locs ++ L) e1.symm (by rw [← e2]; exact X'.warmed.alike) hp hb k1 k2 k3 (by rw [e1]; exact hce) hcv hcl T' rfl X'
    exact ⟨t2, st.trans a1, b1⟩
theorem vx_callv {S SX : Type} {post : S → Prop} {px : SX → Prop} {B : S → State → Prop} {BX : String → SX → State → Prop} {AX : Nat → Prop} (hr : vx_Run p l e R s m args below meth c H locs cells slots mc ms (F0 m pc ls st0) rest (va_Qv post B A1 a) (vx_X px BX AX) free) (hS : va_S A0 H0 H locs) (hA : ∀ q, q < H.size → A1 q → A0 q) (hf : ∀ q, free q → A0 q) (hAX : ∀ q, q < H.size → AX q → A0 q)
    (kx : ∀ (E : String) (ce : Cell) (q9 : Addr) (u : SX) (t : State) (H1 : Heap) (locs1 : List Loc), t.heap = H1 → s.vm.Alike t.vm → px u → BX E u t → H.size ≤ H1.size → (∀ q : Nat, q < H.size → ¬ AX q → H1[q]? = H[q]?) → va_S A0 H0 H1 locs1 → H1[q9]? = some ce → ce.vm = .none → s.vm.findClass E = some ce.cls → vx_W p l e R s m args below meth c H1 locs1 (cells + mc) (slots + ms) Q (F0 m pc ls rest) q9)
    (kk : ∀ (u : S) (t : State) (H1 : Heap) (locs1 : List Loc), t.heap = H1 → s.vm.Alike t.vm → post u → B u t → H.size ≤ H1.size → (∀ q : Nat, q < H.size → ¬ A1 q → H1[q]? = H[q]?) → va_S A0 H0 H1 locs1 → W p l e R s m args below meth c H1 locs1 (cells + mc) (slots + ms) Q (F0 m (pc + 3) ls (rest))) : W p l e R s m args below meth c H locs cells slots Q (F0 m pc ls st0) := by
  intro T hT X
  rcases hr T hT X with ⟨v, st₀, t, T', L, h0, X', hL, e1, e2, ⟨⟨u, hv, hp, hb⟩, hF⟩, st⟩ | ⟨q, st₀, t, T', L, E, ce, h0, X', hL, e1, e2, ⟨u, hp, hb, hF⟩, hce, hcv, hcl, st⟩
  · cases hv
    obtain ⟨k1, k2, k3⟩ := vx_keep h0 e1 hS hA hf hL hF
    obtain ⟨t2, a1, b1⟩ := kk u t T'.heap (locs ++ L) e1.symm (by rw [← e2]; exact X'.warmed.alike) hp hb k1 k2 k3 T' rfl X'
    exact ⟨t2, st t2 a1, b1⟩
  · obtain ⟨k1, k2, k3⟩ := vx_keep h0 e1 hS hAX hf hL hF
    obtain ⟨t2, a1, b1⟩ := kx E ce q u t T'.heap (locs ++ L) e1.symm (by rw [← e2]; exact X'.warmed.alike) hp hb k1 k2 k3 (by rw [e1]; exact hce) hcv hcl T' rfl X'
    exact ⟨t2, st.trans a1, b1⟩
/-- caught by the row x of this method's table; the rows ahead don't take it -/
theorem vx_catch {own name : String} {E : String} {ce : Cell} {q : Addr} (hown : s.vm.findClass own = some m.cls) (pre : List ExceptionTableEntry) (x : ExceptionTableEntry) (suf : List ExceptionTableEntry) (hsplit : c.exceptionTable.toList = pre ++ x :: suf)
    (hpass : ∀ z ∈ pre, covers z pc = false ∨ (z.catchType ≠ 0 ∧ ∃ nm : String, (Cond.classLink own z.catchType nm).before args s = true ∧ va_Nc E nm s)) (hx : covers x pc = true) (h0 : x.catchType ≠ 0)
    (hlink : (Cond.classLink own x.catchType name).before args s = true) (hcast : (Cond.castable E name).before args s = true) (hcell : H[q]? = some ce) (hv : ce.vm = .none) (hcl : s.vm.findClass E = some ce.cls)
    (kk : W p l e R s m args below meth c H locs cells slots Q (F0 m x.handlerPc ls [.ref q])) : vx_W p l e R s m args below meth c H locs cells slots Q (F0 m pc ls rest) q := by
  intro T hT X
  have hpl : e.platform.magicAccessors = ({} : Platform).magicAccessors := by rw [X.admits.platform]
  obtain ⟨c3, c4, hc3, hc4, hasg⟩ := Cond.castable_spec hcast
  cases Option.some.inj (hc3.symm.trans hcl)
  obtain ⟨c5, hc5, hcl5⟩ := Cond.classLink_spec hown hlink e.platform hpl
  cases Option.some.inj (hc4.symm.trans hc5)
  obtain ⟨vm', X', st⟩ := X.thenCaughtThrough q (g := F0 m pc ls rest) rfl (Steps.refl _) (by rw [hT]; exact hcell) (by rw [hv]; rfl) (by obtain ⟨k9, h9, -⟩ := Vm.findClass_spec hcl; exact ⟨k9, h9⟩) pre x suf hsplit
    (fun z hz => by
      rcases hpass z hz with h | ⟨hz0, nm, hl1, hn1⟩
      · exact Or.inl h
      · obtain ⟨c6, hc6, hcl6⟩ := Cond.classLink_spec hown hl1 e.platform hpl
        obtain ⟨a8, b8, h1, h2, h3⟩ := hn1
        cases Option.some.inj (h1.symm.trans hcl)
        cases Option.some.inj (h2.symm.trans hc6)
        exact Or.inr ⟨hz0, _, hcl6, h3⟩) hx (Or.inr ⟨h0, c4, hcl5, hasg⟩)
  obtain ⟨t, a1, b1⟩ := kk (T.setVm vm') hT X'
  exact ⟨t, st.trans a1, b1⟩
end Rows
section Ends
variable {p : Program} {l : Launch} {e : Env} {R : Room} {s : State} {m : MethodId} {args : Array Value} {below : List Frame} {meth : Method} {c : Code} {H : Heap} {locs : List Loc} {cells slots : Nat} {Q : State → Prop}
variable {mc ms : Nat} {free : Addr → Prop} {A0 A1 : Nat → Prop} {H0 : Heap} {a : Array Value} {ls : Array Slot} {st0 rest : List Value}
variable {Qc : Array Value → State → Outcome → State → Prop} {XC : String → State → State → Prop}
/-- what a body that may throw owes at its end -/
def vx_MQ (below : List Frame) (Qc : Array Value → State → Outcome → State → Prop) (XC : String → State → State → Prop) (a : Array Value) (s : State) (mc ms : Nat) (free : Addr → Prop) : State → Prop := fun t =>
  ∃ o, t.status = .running ∧ Ended t below o ∧ vx_Q Qc XC mc ms free a s o t
theorem vx_ret {g : JFrame} {mc ms : Nat} (k : W p l e R s m args below meth c H locs cells slots (MQ below Qc args s mc ms free) g) : W p l e R s m args below meth c H locs cells slots (vx_MQ below Qc XC args s mc ms free) g := by
  intro T hT X
  obtain ⟨t, a1, o, b1, b2, b3, b4⟩ := k T hT X
  exact ⟨t, a1, o, b1, b2, Or.inl ⟨b3, b4⟩⟩
/-- not caught here: it goes on to the caller -/
theorem vx_widen {g : JFrame} {q : Addr} {k n : Nat} (h1 : cells ≤ k) (h2 : slots ≤ n) (kk : vx_W p l e R s m args below meth c H locs k n Q g q) : vx_W p l e R s m args below meth c H locs cells slots Q g q := fun T hT X => kk T hT (stand_widen X h1 h2)
theorem vx_out {pc : Nat} {E : String} {ce : Cell} {q : Addr} {mc ms : Nat} (hout : ∀ x ∈ c.exceptionTable.toList, covers x pc = false) (hlocks : meth.locks = false) (hcell : H[q]? = some ce) (hv : ce.vm = .none) (hcl : s.vm.findClass E = some ce.cls)
    (hx : ∀ t : State, t.heap = H → s.vm.Alike t.vm → XC E s t) (hf : ∀ z ∈ locs, free z.base) (hc : cells ≤ mc) (hs : slots ≤ ms) :
    vx_W p l e R s m args below meth c H locs cells slots (vx_MQ below Qc XC args s mc ms free) (F0 m pc ls rest) q := by
  intro T hT X
  obtain ⟨st1, hrun, hend, hW, hsm⟩ := X.leaveThrown q (g := F0 m pc ls rest) rfl rfl rfl hout hlocks
  have hcell9 : (T.setFrames (.throwing q :: below)).heap[q]? = some ce := by
    show T.heap[q]? = some ce
    rw [hT]; exact hcell
  exact ⟨_, st1, .threw q, hrun, hend, Or.inr ⟨q, rfl, E, ce, locs, hx _ hT hW.alike, hcell9, hv, hcl, hW, hsm.mono hc hs, hf⟩⟩
theorem vx_frame {U : State} {k n : Nat} (h : s.sameButNew ({ U with vm := s.vm } : State) locs k n) : s.heap.size ≤ U.heap.size ∧ ∀ q : Nat, q < s.heap.size → (∀ z ∈ locs, z.base ≠ q) → U.heap[q]? = s.heap[q]? := by
  obtain ⟨-, h2, -, -, -, h6⟩ := h
  refine ⟨h2, fun q hq hz => ?_⟩
  obtain ⟨c9, e1, e2, e3, e4⟩ := h6 q _ (Array.getElem?_eq_getElem hq)
  have hs : c9.slots = (s.heap[q]).slots := Array.ext_getElem? fun i => e4 i fun hm => hz _ hm rfl
  have h9 : c9 = s.heap[q] := by
    rw [hs] at e2
    exact e2
  have e5 : U.heap[q]? = some c9 := e1
  rw [e5, h9, Array.getElem?_eq_getElem hq]
/-- the words of a throw but the four that speak of the heap -/
def vx_no (w : Cond) : Bool := decide (w ≠ .isRef (.static Bundle.tN "UNASSIGNED_STACK" Bundle.steD)) && decide (w ≠ .isRef (.static Bundle.tN "SUPPRESSED_SENTINEL" Bundle.listD)) && decide (w ≠ .laysStatic Bundle.tN "UNASSIGNED_STACK" Bundle.steD) && decide (w ≠ .laysStatic Bundle.tN "SUPPRESSED_SENTINEL" Bundle.listD)
def vx_at0 (own : String) (ic : Nat) (X : String) (names : List String) : List Cond := (Bundle.ownAtoms0 own ic X names).filter vx_no
def vx_atS (own : String) (ic : Nat) (X : String) (names : List String) : List Cond := (Bundle.ownAtoms own ic X names).filter vx_no
/-- a word that the tables alone decide, or a good one -/
def vx_ot (w : Cond) : Bool := w.onTables || goodWord w
theorem vx_ot_at {args a' : Array Value} {s U : State} {w : Cond} (hW : s.WarmedH U.vm) (hvm : s.vm = U.vm) (hg : vx_ot w = true) (h : w.before args s = true) : w.before a' U = true := by
  simp only [vx_ot, Bool.or_eq_true] at hg
  rcases hg with hg | hg
  · exact va_tabs hg hvm h
  · exact word_at hW (good_of_word hg) h
/-- a list's words: the good ones out of the method's own list, the others by premises of their own -/
theorem vx_hat {args : Array Value} {s : State} {L B : List Cond} (h1 : ∀ w ∈ L.filter goodWord, w.before args s = true) (h2 : ∀ w ∈ L.filter (fun w => !goodWord w), w ∈ B) (h3 : ∀ w ∈ B, w.before args s = true) : ∀ w ∈ L, w.before args s = true := by
  intro w hw
  by_cases g : goodWord w = true
  · exact h1 w (List.mem_filter.mpr ⟨hw, g⟩)
  · refine h3 w (h2 w (List.mem_filter.mpr ⟨hw, ?_⟩))
    show (!goodWord w) = true
    cases hgw : goodWord w
    · rfl
    · exact absurd hgw g
theorem vx_c {args : Array Value} {s : State} {w : Cond} {B : List Cond} (h : w.before args s = true) (t : ∀ w ∈ B, w.before args s = true) : ∀ w' ∈ w :: B, w'.before args s = true := fun w' h' => (List.mem_cons.mp h').elim (fun e => by rw [e]; exact h) (t w')
theorem vx_n {args : Array Value} {s : State} : ∀ w ∈ ([] : List Cond), w.before args s = true := fun _ h => nomatch h
theorem vx_own {args : Array Value} {s : State} {L : List Cond} (h1 : ∀ w ∈ L.filter vx_no, w.before args s = true)
    (hU : (Cond.isRef (.static Bundle.tN "UNASSIGNED_STACK" Bundle.steD)).before args s = true) (hN : (Cond.isRef (.static Bundle.tN "SUPPRESSED_SENTINEL" Bundle.listD)).before args s = true)
    (lU : (Cond.laysStatic Bundle.tN "UNASSIGNED_STACK" Bundle.steD).before args s = true) (lN : (Cond.laysStatic Bundle.tN "SUPPRESSED_SENTINEL" Bundle.listD).before args s = true) : ∀ w ∈ L, w.before args s = true := by
  intro w hw
  by_cases e1 : w = .isRef (.static Bundle.tN "UNASSIGNED_STACK" Bundle.steD)
  · rw [e1]; exact hU
  · by_cases e2 : w = .isRef (.static Bundle.tN "SUPPRESSED_SENTINEL" Bundle.listD)
    · rw [e2]; exact hN
    · by_cases e3 : w = .laysStatic Bundle.tN "UNASSIGNED_STACK" Bundle.steD
      · rw [e3]; exact lU
      · by_cases e4 : w = .laysStatic Bundle.tN "SUPPRESSED_SENTINEL" Bundle.listD
        · rw [e4]; exact lN
        · exact h1 w (List.mem_filter.mpr ⟨hw, by unfold vx_no; rw [decide_eq_true e1, decide_eq_true e2, decide_eq_true e3, decide_eq_true e4]; rfl⟩)
/-- where a static field lies, its class's statics cell in H -/
def vx_L (C n d : String) (A : Nat → Prop) (U : State) (H : Heap) : Prop := ∃ (c : ClassId) (k : Class) (i : Nat) (f : Field) (a : Nat) (cell : Cell), U.vm.findClass C = some c ∧ U.fieldFound? C n d = some (c, k, i, f) ∧ f.isStatic = true ∧ k.statics = some a ∧ H[a]? = some cell ∧ cell.vm.isStatics = true ∧ cell.cls = c ∧ f.slot < cell.slots.size ∧ k.staticTypes[f.slot]? = some f.type ∧ ¬ A a
theorem vx_L.moved {C n d : String} {A : Nat → Prop} {u U : State} {H : Heap} (hvm : u.vm.Alike U.vm) (h : vx_L C n d A u H) : vx_L C n d A U H := by
  obtain ⟨c, k, i, f, a, cell, h1, h2, h3, h4, h5, h6, h7, h8, h9, h10⟩ := h
  obtain ⟨k', hi', he⟩ := State.fieldFound?_setVm hvm h2
  exact ⟨c, k', i, f, a, cell, by rw [hvm.findClass]; exact h1, hi', h3, by rw [he]; exact h4, h5, h6, h7, h8, by rw [he]; exact h9, h10⟩
theorem vx_L.kept {C n d : String} {A : Nat → Prop} {U : State} {H H1 : Heap} (h : vx_L C n d A U H) (hq : ∀ a : Nat, a < H.size → ¬ A a → H1[a]? = H[a]?) : vx_L C n d A U H1 := by
  obtain ⟨c, k, i, f, a, cell, h1, h2, h3, h4, h5, h6, h7, h8, h9, h10⟩ := h
  exact ⟨c, k, i, f, a, cell, h1, h2, h3, h4, by rw [hq a (Array.getElem?_eq_some_iff.mp h5).1 h10]; exact h5, h6, h7, h8, h9, h10⟩
theorem vx_L.narrow {C n d : String} {A B : Nat → Prop} {U : State} {H : Heap} (h : vx_L C n d A U H) (hAB : ∀ q, B q → A q) : vx_L C n d B U H := by
  obtain ⟨c, k, i, f, a, cell, h1, h2, h3, h4, h5, h6, h7, h8, h9, h10⟩ := h
  exact ⟨c, k, i, f, a, cell, h1, h2, h3, h4, h5, h6, h7, h8, h9, fun z => h10 (hAB _ z)⟩
theorem vx_L.word {C n d : String} {A : Nat → Prop} {s : State} {args : Array Value} (h : vx_L C n d A s s.heap) : (Cond.laysStatic C n d).before args s = true := by
  obtain ⟨c, k, i, f, a, cell, h1, h2, h3, h4, h5, h6, h7, h8, h9, -⟩ := h
  show (Cond.laysStatic C n d).holds args s none s [] = true
  exact Cond.laysStatic_of h1 h2 h3 h4 h5 h6 h7 h8 h9
/-- .. and what it holds: null or some reference -/
def vx_Zq (C n d : String) (A : Nat → Prop) (U : State) (H : Heap) : Prop := va_Zq C n d A U H ∧ vx_L C n d A U H
theorem vx_Zq.moved {C n d : String} {A : Nat → Prop} {u U : State} {H : Heap} (hvm : u.vm.Alike U.vm) (h : vx_Zq C n d A u H) : vx_Zq C n d A U H := ⟨va_Zq.moved hvm h.1, vx_L.moved hvm h.2⟩
theorem vx_Zq.kept {C n d : String} {A : Nat → Prop} {U : State} {H H1 : Heap} (h : vx_Zq C n d A U H) (hq : ∀ a : Nat, a < H.size → ¬ A a → H1[a]? = H[a]?) : vx_Zq C n d A U H1 := ⟨va_Zq.kept h.1 hq, vx_L.kept h.2 hq⟩
theorem vx_Zq.narrow {C n d : String} {A B : Nat → Prop} {U : State} {H : Heap} (h : vx_Zq C n d A U H) (hAB : ∀ q, B q → A q) : vx_Zq C n d B U H := ⟨va_Zq.narrow h.1 hAB, vx_L.narrow h.2 hAB⟩
theorem vx_Zqof {args : Array Value} {s : State} {C n d : String} {A : Nat → Prop} (hl : (Cond.laysStatic C n d).before args s = true) (hini : (Cond.initialized C).before args s = true) (h : (Cond.isRef (.static C n d)).before args s = true) (hA : ∀ a : Nat, a < s.heap.size → ¬ A a) : vx_Zq C n d A s s.heap := by
  refine ⟨va_Zqof hl hini h hA, ?_⟩
  obtain ⟨c, k, i, f, a, cell, h1, h2, h3, h4, h5, h6, h7, h8, h9⟩ := Cond.laysStatic_spec hl
  exact ⟨c, k, i, f, a, cell, h1, h2, h3, h4, h5, h6, h7, h8, h9, hA a (Array.getElem?_eq_some_iff.mp h5).1⟩
theorem vx_isRef {C n d : String} {v : Value} {A : Nat → Prop} {s : State} {args : Array Value} (h : va_Z C n d v A s s.heap) (hv : v.isRef = true) : (Cond.isRef (.static C n d)).before args s = true := by
  obtain ⟨cf, kf, fi, f, a, cell, h1, h2, h3, h4, h5, h6, h7, -⟩ := h
  have he : (Term.static C n d).eval args s none [] s = some v := by
    simp [Term.eval, State.fieldNamed?, h1, h2, h4, h5, h6, h7]
  simp only [Cond.before, Cond.holds, Cond.value, he]
  cases v <;> simp_all [Value.isRef]
theorem vx_isRefq {C n d : String} {A : Nat → Prop} {s : State} {args : Array Value} (h : va_Zq C n d A s s.heap) : (Cond.isRef (.static C n d)).before args s = true := by
  rcases h with h | ⟨t, h⟩
  · exact vx_isRef h rfl
  · exact vx_isRef h rfl
/-- the same frame, seen from here: as if the method were called anew in this heap -/
theorem vx_rebase {T : State} (X : Stand p l e R s m args below meth c T locs cells slots) {R' : Room} (hf : R'.frames ≤ R.frames) (hl : R'.locals ≤ R.locals) (hc : cells + R'.cells ≤ R.cells) (hs : slots + R'.slots ≤ R.slots) :
    Stand p l e R' ((T.setVm s.vm).setFrames (.invoking m args :: below)) m args below meth c T [] 0 0 := by
  have htop : (T.setVm s.vm).topJava?.isSome := X.here.top
  have hF : ((T.setVm s.vm).setFrames (.invoking m args :: below)).frames = .invoking m args :: below := State.frames_setFrames _ (State.cur_lt_of_top htop)
  obtain ⟨g₀, hg0⟩ := Option.isSome_iff_exists.mp htop
  obtain ⟨r, hr⟩ := State.topJava?_eq_some.mp hg0
  have hl9 : e.platform.stackLimits (T.setVm s.vm).me = e.platform.stackLimits s.me := X.limits
  have hb9 : (T.setVm s.vm).me.stackBytes = s.me.stackBytes := X.bytes
  refine ⟨X.admits, X.cas, X.clock, hF, ?_, X.hears, X.method, X.code, X.here, X.tail, X.warmed, ?_, ?_, ?_⟩
  · have h := X.room
    have hU : ((T.setVm s.vm).setFrames (.invoking m args :: below)).localsInUse = s.localsInUse := by
      rw [State.localsInUse_invoking hF (meth := meth) (c := c) X.method X.code, State.localsInUse_invoking X.frames X.method X.code]
    simp only [State.hasRoom, Bool.and_eq_true, decide_eq_true_eq] at h ⊢
    obtain ⟨⟨⟨⟨h1, h2, h3, h4, h5, h6⟩, h7⟩, h8⟩, h9⟩ := h
    rw [X.frames, List.length_cons] at h2 h3
    have q1 := X.heapSize
    have q2 := X.used
    simp only [hF, hU, List.length_cons, State.stackLimits_setFrames, State.stackBytes_setFrames, hl9, hb9]
    refine ⟨⟨⟨⟨by omega, by omega, by omega, by omega, by omega, h6⟩, ?_⟩, ?_⟩, X.book⟩
    · show T.heap.size + R'.cells ≤ e.platform.maxCells
      omega
    · show T.slotsUsed + R'.slots ≤ e.platform.maxSlots
      omega
  · rw [State.stackLimits_setFrames]; rfl
  · rw [State.stackBytes_setFrames]; rfl
  · refine ⟨?_, Nat.le_refl _, Nat.le_refl _, ?_, ?_, fun a c9 h9 => ⟨c9, h9, rfl, rfl, fun _ _ => rfl⟩⟩
    · obtain ⟨t, ht, -⟩ := State.frames_cons hr
      show T.setVm s.vm = { ((T.setVm s.vm).setFrames (.invoking m args :: below)).setFrames (T.setVm s.vm).frames with heap := T.heap, slotsUsed := T.slotsUsed }
      rw [State.setFrames_setFrames, State.setFrames_self ht]
      rfl
    · show T.slotsUsed = T.slotsUsed + ((T.heap.toList.drop T.heap.size).map (·.slots.size)).sum
      rw [List.drop_eq_nil_of_le (Nat.le_of_eq Array.length_toList)]
      rfl
    · show ((T.heap.toList.drop T.heap.size).map (·.slots.size)).sum ≤ 0
      rw [List.drop_eq_nil_of_le (Nat.le_of_eq Array.length_toList)]
      exact Nat.le_refl _
/-- 'throw new E()': new; dup; invokespecial; athrow -/
theorem vx_throw0 {cc : ByteArray} {pc : Nat} (hexec : p.tables.exec = Jvm.exec) (hb : c.code = cc) (hl : l.stackTraces = false) {own cls : String} {names : List String} {ik ic mc ms : Nat} {A : Nat → Prop}
    (hown : s.vm.findClass own = some m.cls) (hcls : Bundle.fit cls = true) (hnames : ∀ n ∈ names, Bundle.fit n = true)
    (hk : (Cond.classLink own ik cls).before args s = true) (hini : (Cond.initialized cls).before args s = true) (hat : ∀ w ∈ vx_at0 own ic cls names, w.before args s = true)
    (hgood : ∀ w ∈ Cond.classLink own ik cls :: Cond.initialized cls :: vx_at0 own ic cls names, vx_ot w = true)
    (hU : vx_Zq Bundle.tN "UNASSIGNED_STACK" Bundle.steD A s s.heap) (hN : vx_Zq Bundle.tN "SUPPRESSED_SENTINEL" Bundle.listD A s s.heap) (hS : va_S A s.heap H locs) (hsize : ls.size = c.maxLocals)
    (d0 : decode cc pc = .ok (.new ik, 3)) (d3 : decode cc (pc + 3) = .ok (.dup, 1)) (d4 : decode cc (pc + 4) = .ok (.invokespecial ic, 3)) (d7 : decode cc (pc + 7) = .ok (.athrow, 1))
    (hout : ∀ x ∈ c.exceptionTable.toList, covers x (pc + 7) = false)
    (hRframes : names.length + 3 < R.frames) (hRlocals : (rest.map fun v => v.category).sum + (13 * (names.length + 1) + 42) ≤ R.locals) (hRcells : cells + 1 ≤ R.cells) (hRslots : slots + 6 ≤ R.slots) (hlocks : meth.locks = false)
    (hx : ∀ t : State, s.vm.Alike t.vm → H.size ≤ t.heap.size → (∀ q : Nat, q < H.size → t.heap[q]? = H[q]?) → XC cls s t)
    (hf : ∀ z ∈ locs, free z.base) (hc : cells + 1 ≤ mc) (hs : slots + 6 ≤ ms) :
    W p l e R s m args below meth c H locs cells slots (vx_MQ below Qc XC args s mc ms free) (F0 m pc ls rest) := by
  intro T hT X
  have htr : e.platform.stackTraces = false := (show e.platform.stackTraces = l.stackTraces by rw [X.admits.platform]).trans hl
  have Y := vx_rebase X (R' := { frames := R.frames, locals := R.locals, cells := 1, slots := 6 }) (Nat.le_refl _) (Nat.le_refl _) hRcells hRslots
  obtain ⟨s', hA⟩ : ∃ z, z = (T.setVm s.vm).setFrames (.invoking m args :: below) := ⟨_, rfl⟩
  rw [← hA] at Y
  have hvm : s'.vm = s.vm := by rw [hA]; rfl
  have hhp : s'.heap = H := by rw [hA]; exact hT
  have hW0 : s.WarmedH s'.vm := by rw [hvm]; exact State.WarmedH.refl s
  have hat' : ∀ w ∈ vx_at0 own ic cls names, w.before args s' = true := fun w hw => vx_ot_at hW0 hvm.symm (hgood w (List.mem_cons_of_mem _ (List.mem_cons_of_mem _ hw))) (hat w hw)
  have hk' : (Cond.classLink own ik cls).before args s' = true := vx_ot_at hW0 hvm.symm (hgood _ List.mem_cons_self) hk
  have hini' : (Cond.initialized cls).before args s' = true := vx_ot_at hW0 hvm.symm (hgood _ (List.mem_cons_of_mem _ List.mem_cons_self)) hini
  have hU' : vx_Zq Bundle.tN "UNASSIGNED_STACK" Bundle.steD A s' s'.heap := by rw [hhp]; exact vx_Zq.moved hW0.alike (hU.kept hS.2.1)
  have hN' : vx_Zq Bundle.tN "SUPPRESSED_SENTINEL" Bundle.listD A s' s'.heap := by rw [hhp]; exact vx_Zq.moved hW0.alike (hN.kept hS.2.1)
  have h : ∀ w ∈ Bundle.ownAtoms0 own ic cls names, w.before args s' = true := vx_own hat' (vx_isRefq hU'.1) (vx_isRefq hN'.1) hU'.2.word hN'.2.word
  have hown' : s'.vm.findClass own = some m.cls := by rw [hvm]; exact hown
  have hins : (Cond.instantiable cls 6).before args s' = true := h _ (by simp [Bundle.ownAtoms0])
  obtain ⟨vm₁, cX, kX, hfX, hkX, -, -, X₁, st1⟩ := Y.newCold hexec (own := own) (C := cls) (index := ik) (n := 6) hown' hk' hins hini'
    (g := F0 m pc ls rest) rfl (by rw [hb]; exact d0) (Nat.le_refl _) (Nat.le_refl _)
  generalize hT1 : (T.setVm vm₁).pushCell { cls := cX, slots := kX.instanceTypes.map defaultValue, vm := .none } = T1 at X₁ st1
  have hcat : (Value.ref T.heap.size).category = 1 := rfl
  have hcellA : T1.heap[T.heap.size]? = some (freshCell cX kX) := by rw [← hT1]; exact State.heap_pushCell_size _ _
  have d3' : decode c.code (pc + 3) = .ok (.dup, 1) := by rw [hb]; exact d3
  obtain ⟨U, hsteps, hrun, hend, hW, hsame, ce, hce, hO⟩ := X₁.ctorThrow0 hexec htr (own := own) (cls := cls) (names := names) (ic := ic) hown' hcls hnames h (fun x hx => nomatch hx) hfX hkX hcellA (by rw [hhp, hT]; exact Nat.le_refl _)
    (g := { method := m, pc := pc + 4, locals := ls, stack := .ref T.heap.size :: .ref T.heap.size :: rest, locked := none }) rfl hsize rfl rfl (rest := rest) rfl
    (by rw [hb]; exact d4) (by rw [hb]; exact d7) hout hRframes (by simp only [List.map_cons, List.sum_cons, hcat]; omega) hlocks
  obtain ⟨f1, f2⟩ := vx_frame hsame
  rw [hhp] at f1 f2
  have hWs : s.WarmedH U.vm := State.WarmedH.trans hW0 hW
  have hcl : s.vm.findClass cls = some ce.cls := by
    have h9 := hO.cls
    rw [hvm] at h9
    exact h9
  have hall : s.sameButNew ({ U with vm := s.vm } : State) locs mc ms := by
    subst hA
    obtain ⟨e1, e2⟩ := hsame
    rw [State.setFrames_setFrames] at e1
    have h2 : (T.setVm s.vm).sameButNew ({ U with vm := s.vm } : State) [] (0 + 1) (0 + 6) := ⟨e1, e2⟩
    have h3 := X.same.trans h2
    rw [List.append_nil] at h3
    exact h3.mono hc hs
  refine ⟨U, ?_, .threw T.heap.size, hrun, hend, Or.inr ⟨T.heap.size, rfl, cls, ce, locs, hx U hWs.alike f1 (fun q hq => f2 q hq (fun z hz => nomatch hz)), hce, hO.vm, hcl, hWs, hall, hf⟩⟩
  refine st1 _ ?_
  show Steps p.tables e below (T1.setTop { method := m, pc := pc + 3, locals := ls, stack := .ref T.heap.size :: rest, locked := none }) _
  jvm_step X₁.here [X₁.here.top, hexec, d3', Value.category]
  exact hsteps
/-- 'throw new E("text")': new; dup; ldc; invokespecial; athrow -/
theorem vx_throwS {cc : ByteArray} {pc : Nat} (hexec : p.tables.exec = Jvm.exec) (hb : c.code = cc) (hl : l.stackTraces = false) {own cls text : String} {names : List String} {ik is ic mc ms sa : Nat} {A : Nat → Prop}
    (hown : s.vm.findClass own = some m.cls) (hcls : Bundle.fit cls = true) (hnames : ∀ n ∈ names, Bundle.fit n = true)
    (hk : (Cond.classLink own ik cls).before args s = true) (hini : (Cond.initialized cls).before args s = true) (hstr : vk_R own is text sa s) (hat : ∀ w ∈ vx_atS own ic cls names, w.before args s = true)
    (hgood : ∀ w ∈ Cond.classLink own ik cls :: Cond.initialized cls :: vx_atS own ic cls names, vx_ot w = true)
    (hU : vx_Zq Bundle.tN "UNASSIGNED_STACK" Bundle.steD A s s.heap) (hN : vx_Zq Bundle.tN "SUPPRESSED_SENTINEL" Bundle.listD A s s.heap) (hS : va_S A s.heap H locs) (hsize : ls.size = c.maxLocals)
    (d0 : decode cc pc = .ok (.new ik, 3)) (d3 : decode cc (pc + 3) = .ok (.dup, 1)) (d4 : decode cc (pc + 4) = .ok (.ldc is, 2)) (d6 : decode cc (pc + 6) = .ok (.invokespecial ic, 3)) (d9 : decode cc (pc + 9) = .ok (.athrow, 1))
    (hout : ∀ x ∈ c.exceptionTable.toList, covers x (pc + 9) = false)
    (hRframes : names.length + 3 < R.frames) (hRlocals : (rest.map fun v => v.category).sum + (13 * (names.length + 1) + 43) ≤ R.locals) (hRcells : cells + 1 ≤ R.cells) (hRslots : slots + 6 ≤ R.slots) (hlocks : meth.locks = false)
    (hx : ∀ t : State, s.vm.Alike t.vm → H.size ≤ t.heap.size → (∀ q : Nat, q < H.size → t.heap[q]? = H[q]?) → XC cls s t)
    (hf : ∀ z ∈ locs, free z.base) (hc : cells + 1 ≤ mc) (hs : slots + 6 ≤ ms) :
    W p l e R s m args below meth c H locs cells slots (vx_MQ below Qc XC args s mc ms free) (F0 m pc ls rest) := by
  intro T hT X
  have htr : e.platform.stackTraces = false := (show e.platform.stackTraces = l.stackTraces by rw [X.admits.platform]).trans hl
  have Y := vx_rebase X (R' := { frames := R.frames, locals := R.locals, cells := 1, slots := 6 }) (Nat.le_refl _) (Nat.le_refl _) hRcells hRslots
  obtain ⟨s', hA⟩ : ∃ z, z = (T.setVm s.vm).setFrames (.invoking m args :: below) := ⟨_, rfl⟩
  rw [← hA] at Y
  have hvm : s'.vm = s.vm := by rw [hA]; rfl
  have hhp : s'.heap = H := by rw [hA]; exact hT
  have hW0 : s.WarmedH s'.vm := by rw [hvm]; exact State.WarmedH.refl s
  have hat' : ∀ w ∈ vx_atS own ic cls names, w.before args s' = true := fun w hw => vx_ot_at hW0 hvm.symm (hgood w (List.mem_cons_of_mem _ (List.mem_cons_of_mem _ hw))) (hat w hw)
  have hk' : (Cond.classLink own ik cls).before args s' = true := vx_ot_at hW0 hvm.symm (hgood _ List.mem_cons_self) hk
  have hini' : (Cond.initialized cls).before args s' = true := vx_ot_at hW0 hvm.symm (hgood _ (List.mem_cons_of_mem _ List.mem_cons_self)) hini
  have hU' : vx_Zq Bundle.tN "UNASSIGNED_STACK" Bundle.steD A s' s'.heap := by rw [hhp]; exact vx_Zq.moved hW0.alike (hU.kept hS.2.1)
  have hN' : vx_Zq Bundle.tN "SUPPRESSED_SENTINEL" Bundle.listD A s' s'.heap := by rw [hhp]; exact vx_Zq.moved hW0.alike (hN.kept hS.2.1)
  have h : ∀ w ∈ Bundle.ownAtoms own ic cls names, w.before args s' = true := vx_own hat' (vx_isRefq hU'.1) (vx_isRefq hN'.1) hU'.2.word hN'.2.word
  have hown' : s'.vm.findClass own = some m.cls := by rw [hvm]; exact hown
  have hins : (Cond.instantiable cls 6).before args s' = true := h _ (by simp [Bundle.ownAtoms])
  obtain ⟨vm₁, cX, kX, hfX, hkX, -, -, X₁, st1⟩ := Y.newCold hexec (own := own) (C := cls) (index := ik) (n := 6) hown' hk' hins hini'
    (g := F0 m pc ls rest) rfl (by rw [hb]; exact d0) (Nat.le_refl _) (Nat.le_refl _)
  generalize hT1 : (T.setVm vm₁).pushCell { cls := cX, slots := kX.instanceTypes.map defaultValue, vm := .none } = T1 at X₁ st1
  have hcat : (Value.ref T.heap.size).category = 1 := rfl
  have hcellA : T1.heap[T.heap.size]? = some (freshCell cX kX) := by rw [← hT1]; exact State.heap_pushCell_size _ _
  have d3' : decode c.code (pc + 3) = .ok (.dup, 1) := by rw [hb]; exact d3
  have d4' : decode c.code (pc + 4) = .ok (.ldc is, 2) := by rw [hb]; exact d4
  have hstr' : vk_R own is text sa s' := vk_R.warm hW0 hstr
  obtain ⟨U, hsteps, hrun, hend, hW, hsame, ce, hce, hO⟩ := X₁.ctorThrowS hexec htr (own := own) (cls := cls) (names := names) (ic := ic) hown' hcls hnames h (fun x hx => nomatch hx) hfX hkX hcellA (by rw [hhp, hT]; exact Nat.le_refl _) (msg := .ref sa) rfl
    (g := { method := m, pc := pc + 6, locals := ls, stack := .ref sa :: .ref T.heap.size :: .ref T.heap.size :: rest, locked := none }) rfl hsize rfl rfl (rest := rest) rfl
    (by rw [hb]; exact d6) (by rw [hb]; exact d9) hout hRframes (by simp only [List.map_cons, List.sum_cons, hcat]; omega) hlocks
  obtain ⟨f1, f2⟩ := vx_frame hsame
  rw [hhp] at f1 f2
  have hWs : s.WarmedH U.vm := State.WarmedH.trans hW0 hW
  have hcl : s.vm.findClass cls = some ce.cls := by
    have h9 := hO.cls
    rw [hvm] at h9
    exact h9
  have hall : s.sameButNew ({ U with vm := s.vm } : State) locs mc ms := by
    subst hA
    obtain ⟨e1, e2⟩ := hsame
    rw [State.setFrames_setFrames] at e1
    have h2 : (T.setVm s.vm).sameButNew ({ U with vm := s.vm } : State) [] (0 + 1) (0 + 6) := ⟨e1, e2⟩
    have h3 := X.same.trans h2
    rw [List.append_nil] at h3
    exact h3.mono hc hs
  refine ⟨U, ?_, .threw T.heap.size, hrun, hend, Or.inr ⟨T.heap.size, rfl, cls, ce, locs, hx U hWs.alike f1 (fun q hq => f2 q hq (fun z hz => nomatch hz)), hce, hO.vm, hcl, hWs, hall, hf⟩⟩
  refine st1 _ ?_
  show Steps p.tables e below (T1.setTop { method := m, pc := pc + 3, locals := ls, stack := .ref T.heap.size :: rest, locked := none }) _
  jvm_step X₁.here [X₁.here.top, hexec, d3', Value.category]
  exact X₁.ldcString hexec (own := own) (text := text) (index := is) (a := sa) hown' hstr'.1 hstr'.2
    (g := { method := m, pc := pc + 4, locals := ls, stack := .ref T.heap.size :: .ref T.heap.size :: rest, locked := none }) rfl d4' _ hsteps
/-- 'throw new E("text")', the text by a wide index -/
theorem vx_throwSW {cc : ByteArray} {pc : Nat} (hexec : p.tables.exec = Jvm.exec) (hb : c.code = cc) (hl : l.stackTraces = false) {own cls text : String} {names : List String} {ik is ic mc ms sa : Nat} {A : Nat → Prop}
    (hown : s.vm.findClass own = some m.cls) (hcls : Bundle.fit cls = true) (hnames : ∀ n ∈ names, Bundle.fit n = true)
    (hk : (Cond.classLink own ik cls).before args s = true) (hini : (Cond.initialized cls).before args s = true) (hstr : vk_R own is text sa s) (hat : ∀ w ∈ vx_atS own ic cls names, w.before args s = true)
    (hgood : ∀ w ∈ Cond.classLink own ik cls :: Cond.initialized cls :: vx_atS own ic cls names, vx_ot w = true)
    (hU : vx_Zq Bundle.tN "UNASSIGNED_STACK" Bundle.steD A s s.heap) (hN : vx_Zq Bundle.tN "SUPPRESSED_SENTINEL" Bundle.listD A s s.heap) (hS : va_S A s.heap H locs) (hsize : ls.size = c.maxLocals)
    (d0 : decode cc pc = .ok (.new ik, 3)) (d3 : decode cc (pc + 3) = .ok (.dup, 1)) (d4 : decode cc (pc + 4) = .ok (.ldc_w is, 3)) (d7 : decode cc (pc + 7) = .ok (.invokespecial ic, 3)) (d10 : decode cc (pc + 10) = .ok (.athrow, 1))
    (hout : ∀ x ∈ c.exceptionTable.toList, covers x (pc + 10) = false)
    (hRframes : names.length + 3 < R.frames) (hRlocals : (rest.map fun v => v.category).sum + (13 * (names.length + 1) + 43) ≤ R.locals) (hRcells : cells + 1 ≤ R.cells) (hRslots : slots + 6 ≤ R.slots) (hlocks : meth.locks = false)
    (hx : ∀ t : State, s.vm.Alike t.vm → H.size ≤ t.heap.size → (∀ q : Nat, q < H.size → t.heap[q]? = H[q]?) → XC cls s t)
    (hf : ∀ z ∈ locs, free z.base) (hc : cells + 1 ≤ mc) (hs : slots + 6 ≤ ms) :
    W p l e R s m args below meth c H locs cells slots (vx_MQ below Qc XC args s mc ms free) (F0 m pc ls rest) := by
  intro T hT X
  have htr : e.platform.stackTraces = false := (show e.platform.stackTraces = l.stackTraces by rw [X.admits.platform]).trans hl
  have Y := vx_rebase X (R' := { frames := R.frames, locals := R.locals, cells := 1, slots := 6 }) (Nat.le_refl _) (Nat.le_refl _) hRcells hRslots
  obtain ⟨s', hA⟩ : ∃ z, z = (T.setVm s.vm).setFrames (.invoking m args :: below) := ⟨_, rfl⟩
  rw [← hA] at Y
  have hvm : s'.vm = s.vm := by rw [hA]; rfl
  have hhp : s'.heap = H := by rw [hA]; exact hT
  have hW0 : s.WarmedH s'.vm := by rw [hvm]; exact State.WarmedH.refl s
  have hat' : ∀ w ∈ vx_atS own ic cls names, w.before args s' = true := fun w hw => vx_ot_at hW0 hvm.symm (hgood w (List.mem_cons_of_mem _ (List.mem_cons_of_mem _ hw))) (hat w hw)
  have hk' : (Cond.classLink own ik cls).before args s' = true := vx_ot_at hW0 hvm.symm (hgood _ List.mem_cons_self) hk
  have hini' : (Cond.initialized cls).before args s' = true := vx_ot_at hW0 hvm.symm (hgood _ (List.mem_cons_of_mem _ List.mem_cons_self)) hini
  have hU' : vx_Zq Bundle.tN "UNASSIGNED_STACK" Bundle.steD A s' s'.heap := by rw [hhp]; exact vx_Zq.moved hW0.alike (hU.kept hS.2.1)
  have hN' : vx_Zq Bundle.tN "SUPPRESSED_SENTINEL" Bundle.listD A s' s'.heap := by rw [hhp]; exact vx_Zq.moved hW0.alike (hN.kept hS.2.1)
  have h : ∀ w ∈ Bundle.ownAtoms own ic cls names, w.before args s' = true := vx_own hat' (vx_isRefq hU'.1) (vx_isRefq hN'.1) hU'.2.word hN'.2.word
  have hown' : s'.vm.findClass own = some m.cls := by rw [hvm]; exact hown
  have hins : (Cond.instantiable cls 6).before args s' = true := h _ (by simp [Bundle.ownAtoms])
  obtain ⟨vm₁, cX, kX, hfX, hkX, -, -, X₁, st1⟩ := Y.newCold hexec (own := own) (C := cls) (index := ik) (n := 6) hown' hk' hins hini'
    (g := F0 m pc ls rest) rfl (by rw [hb]; exact d0) (Nat.le_refl _) (Nat.le_refl _)
  generalize hT1 : (T.setVm vm₁).pushCell { cls := cX, slots := kX.instanceTypes.map defaultValue, vm := .none } = T1 at X₁ st1
  have hcat : (Value.ref T.heap.size).category = 1 := rfl
  have hcellA : T1.heap[T.heap.size]? = some (freshCell cX kX) := by rw [← hT1]; exact State.heap_pushCell_size _ _
  have d3' : decode c.code (pc + 3) = .ok (.dup, 1) := by rw [hb]; exact d3
  have d4' : decode c.code (pc + 4) = .ok (.ldc_w is, 3) := by rw [hb]; exact d4
  have hstr' : vk_R own is text sa s' := vk_R.warm hW0 hstr
  obtain ⟨U, hsteps, hrun, hend, hW, hsame, ce, hce, hO⟩ := X₁.ctorThrowS hexec htr (own := own) (cls := cls) (names := names) (ic := ic) hown' hcls hnames h (fun x hx => nomatch hx) hfX hkX hcellA (by rw [hhp, hT]; exact Nat.le_refl _) (msg := .ref sa) rfl
    (g := { method := m, pc := pc + 7, locals := ls, stack := .ref sa :: .ref T.heap.size :: .ref T.heap.size :: rest, locked := none }) rfl hsize rfl rfl (rest := rest) rfl
    (by rw [hb]; exact d7) (by rw [hb]; exact d10) hout hRframes (by simp only [List.map_cons, List.sum_cons, hcat]; omega) hlocks
  obtain ⟨f1, f2⟩ := vx_frame hsame
  rw [hhp] at f1 f2
  have hWs : s.WarmedH U.vm := State.WarmedH.trans hW0 hW
  have hcl : s.vm.findClass cls = some ce.cls := by
    have h9 := hO.cls
    rw [hvm] at h9
    exact h9
  have hall : s.sameButNew ({ U with vm := s.vm } : State) locs mc ms := by
    subst hA
    obtain ⟨e1, e2⟩ := hsame
    rw [State.setFrames_setFrames] at e1
    have h2 : (T.setVm s.vm).sameButNew ({ U with vm := s.vm } : State) [] (0 + 1) (0 + 6) := ⟨e1, e2⟩
    have h3 := X.same.trans h2
    rw [List.append_nil] at h3
    exact h3.mono hc hs
  refine ⟨U, ?_, .threw T.heap.size, hrun, hend, Or.inr ⟨T.heap.size, rfl, cls, ce, locs, hx U hWs.alike f1 (fun q hq => f2 q hq (fun z hz => nomatch hz)), hce, hO.vm, hcl, hWs, hall, hf⟩⟩
  refine st1 _ ?_
  show Steps p.tables e below (T1.setTop { method := m, pc := pc + 3, locals := ls, stack := .ref T.heap.size :: rest, locked := none }) _
  jvm_step X₁.here [X₁.here.top, hexec, d3', Value.category]
  exact X₁.ldcStringW hexec (own := own) (text := text) (index := is) (a := sa) hown' hstr'.1 hstr'.2
    (g := { method := m, pc := pc + 4, locals := ls, stack := .ref T.heap.size :: .ref T.heap.size :: rest, locked := none }) rfl d4' _ hsteps
end Ends
section Bodies
variable {l : Launch}
theorem vx_ofW {y : MethodName} {ws ws' : List Cond} {rm : Room} {Pc : Array Value → State → Prop} {Qc : Array Value → State → Outcome → State → Prop} {XC : String → State → State → Prop} {mc ms : Nat} {free : Addr → Prop} {cc : ByteArray} {maxL : Nat} {ret : Option FieldType}
    (hy : plainName y.cls = true) (hw : ws = Cond.code y cc maxL ret :: ws')
    (body : ∀ p e s m args below meth c s₁, BodyLoose p l y (headSpec ws rm) cc maxL ret e s m args below meth c s₁ → c.maxLocals = maxL → (∀ x ∈ c.exceptionTable.toList, False) → Pc args s →
      W p l e (headSpec ws rm).room s m args below meth c s.heap [] 0 0 (vx_MQ below Qc XC args s mc ms free) (entryFrame m args maxL)) : vx_Met l y ws rm Pc Qc XC mc ms free := by
  refine MetFree.of_bodyS (code := cc) (maxLocals := maxL) (ret := ret) hy ?_ ?_
  · intro args s m h hn
    obtain ⟨meth, c, h1, h2, h3, h4, h5, h6, -, -⟩ := Cond.code_spec hn (atoms_spec (ws := ws) h _ (by rw [hw]; exact List.mem_cons_self))
    exact ⟨meth, c, h1, h2, h3, h4, h5, h6⟩
  · intro p e s m args below meth c s₁ B hml hP _
    have hh0 : s₁.heap = s.heap := by rw [B.state]; rfl
    have ht : ∀ x ∈ c.exceptionTable.toList, False := by
      obtain ⟨meth9, c9, h1, h2, -, -, -, -, h7, -⟩ := Cond.code_spec B.named (atoms_spec (ws := ws) B.pre _ (by rw [hw]; exact List.mem_cons_self))
      cases Option.some.inj (h1.symm.trans B.method)
      cases Option.some.inj (h2.symm.trans (Stand.of_body B).code)
      intro x hx
      rw [Array.isEmpty_iff.mp h7] at hx
      cases hx
    obtain ⟨t, a1, o, b1, b2, b3⟩ := body p e s m args below meth c s₁ B hml ht hP s₁ hh0 (Stand.of_body B)
    exact ⟨t, o, a1, b1, b2, b3⟩
/-- the table of a body with handlers -/
theorem vx_table {p : Program} {x y : MethodName} {S : Spec} {cc bytes : ByteArray} {maxL maxL' : Nat} {ret ret' : Option FieldType} {e : Env} {s s₁ : State} {m : MethodId} {args : Array Value} {below : List Frame} {meth : Method} {c : Code} {hh : List (Nat × Nat × Nat × Nat)}
    (B : BodyLoose p l y S cc maxL ret e s m args below meth c s₁) (h : (Cond.codeWith y bytes maxL' ret' hh).before args s = true) : c.exceptionTable.toList = tableOf hh := by
  obtain ⟨m9, meth9, c9, hn9, h1, h2, -, -, h6, -⟩ := Cond.codeWith_spec h
  cases Option.some.inj (hn9.symm.trans B.named)
  cases Option.some.inj (h1.symm.trans B.method)
  cases Option.some.inj (h2.symm.trans (Stand.of_body B).code)
  rw [← h6, table_eq]
end Bodies
end VXA
/-! ===== END ===== -/
/-! ===== BEGIN a static call of a method with an exception table ===== -/
section VXS
variable {p : Program} {l : Launch} {e : Env} {R : Room} {s : State} {m : MethodId} {args : Array Value} {below : List Frame} {meth : Method} {c : Code} {T : State} {H : Heap} {locs : List Loc} {cells slots : Nat}
abbrev vx_CSW (R : Room) (s : State) (args : Array Value) (own : String) (index : Nat) (y : MethodName) (bytes : ByteArray) (maxL : Nat) (ret : Option FieldType) (hh : List (Nat × Nat × Nat × Nat)) (ws : List Cond) (rm : Room) (mc ms n : Nat) : Prop :=
  (rm.cells = mc ∧ rm.slots = ms ∧ rm.frames + 1 ≤ R.frames ∧ 8 + (maxL + 11) + rm.locals ≤ R.locals ∧ (∀ w ∈ ws, ∀ (a' : Array Value) (U : State), s.WarmedH U.vm → w.before a' U = true) ∧ Cond.codeWith y bytes maxL ret hh ∈ ws) ∧
  (Cond.codeWith y bytes maxL ret hh).before args s = true ∧ (Cond.initialized y.cls).before args s = true ∧ (y.cls ≠ "java/lang/invoke/MethodHandle" ∧ y.cls ≠ "java/lang/invoke/VarHandle") ∧
  (∀ sig, parseMethodDescriptor y.desc = some sig → n = sig.parameters.length) ∧ (Cond.methodLink own index y).before args s = true ∧ (Cond.static y).before args s = true
theorem vx_cwSW {own : String} {index maxL mc ms : Nat} {y : MethodName} {bytes : ByteArray} {ret : Option FieldType} {hh : List (Nat × Nat × Nat × Nat)} {Ts ws ws' : List Cond} {rm : Room} (n : Nat) (ht : ∀ w ∈ Ts, w.before args s = true) (hT : GoodIn Ts (va_wsS own index y ws)) (hw : ws = Cond.codeWith y bytes maxL ret hh :: ws') (hrc : rm.cells = mc) (hrs : rm.slots = ms)
    (hd : y.cls ≠ "java/lang/invoke/MethodHandle" ∧ y.cls ≠ "java/lang/invoke/VarHandle" ∧ (parseMethodDescriptor y.desc).map (fun d => d.parameters.length) = some n) (hR : rm.frames + 1 ≤ R.frames ∧ 8 + (maxL + 11) + rm.locals ≤ R.locals) :
    vx_CSW R s args own index y bytes maxL ret hh ws rm mc ms n := by
  have ok : ∀ w ∈ va_wsS own index y ws, w.before args s = true := fun w h => ht w (hT w h).1
  have hG : GoodIn Ts ws := fun w h => hT w (by unfold va_wsS; exact List.mem_append_right _ h)
  have hc : Cond.codeWith y bytes maxL ret hh ∈ ws := by rw [hw]; exact List.mem_cons_self
  refine ⟨⟨hrc, hrs, hR.1, hR.2, pay_in ht hG, hc⟩, ht _ (hG _ hc).1, ok _ (by simp [va_wsS]), ⟨hd.1, hd.2.1⟩, fun sig h => ?_, ok _ (by simp [va_wsS]), ok _ (by simp [va_wsS])⟩
  have h2 := hd.2.2
  rw [h] at h2
  exact (Option.some.inj h2).symm
theorem vx_callSW (X : Stand p l e R s m args below meth c T locs cells slots) (hexec : p.tables.exec = Jvm.exec) {own : String} {index : Nat} {y : MethodName} {bytes : ByteArray} {maxL : Nat} {ret : Option FieldType} {hh : List (Nat × Nat × Nat × Nat)}
    (hown : s.vm.findClass own = some m.cls) (hlink : (Cond.methodLink own index y).before args s = true) (hstat : (Cond.static y).before args s = true) (hinit : (Cond.initialized y.cls).before args s = true)
    (hcode : (Cond.codeWith y bytes maxL ret hh).before args s = true) (hy : y.cls ≠ "java/lang/invoke/MethodHandle" ∧ y.cls ≠ "java/lang/invoke/VarHandle")
    {W9 : Nat} {Pre : Pt → Array Value → Prop} {Post : Pt → Array Value → Option Value → Pt → Prop} (hK : Back l R p e below s args y 3 W9 Pre Post)
    {g : JFrame} (hg : g.method = m) (hsize : g.locals.size = c.maxLocals) {argsL rest : List Value} (hlen : ∀ sig, parseMethodDescriptor y.desc = some sig → argsL.length = sig.parameters.length)
    (hstack : g.stack = argsL.reverse ++ rest) (hW : 2 * g.monitorRoom + (rest.map fun v => v.category).sum ≤ W9) (hdg : decode c.code g.pc = .ok (.invokestatic index, 3))
    (hpre : ∀ vm₁, s.WarmedH vm₁ → Pre ⟨T.setVm vm₁, locs, cells, slots⟩ argsL.toArray) :
    ∃ (v : Option Value) (vm₁ : Vm) (B : Pt), s.WarmedH vm₁ ∧ Stand p l e R s m args below meth c B.U B.locs B.cells B.slots ∧ Post ⟨T.setVm vm₁, locs, cells, slots⟩ argsL.toArray v B ∧
      ∀ target, Steps p.tables e below (B.U.setTop { g with pc := g.pc + 3, stack := v.toList ++ rest }) target → Steps p.tables e below (T.setTop g) target := by
  obtain ⟨mk, methM, cM, hnamed, hmethM, -, -, -, -, -, -, hsigM⟩ := Cond.codeWith_spec hcode
  have hstatic : methM.isStatic = true := Cond.static_spec hnamed hmethM hstat
  obtain ⟨kP, hkP, -⟩ := className_of_methodNamed hnamed
  have hinitP : kP.init = .initialized := Cond.initialized_spec (findClass_of_methodNamed hnamed) hkP hinit
  obtain ⟨vm₁, X₁, hstep₁⟩ := X.invokestatic hexec hown hlink hnamed hmethM hstatic hkP hinitP hy (g := g) hg (argsL := argsL) (rest := rest) (hlen _ hsigM) hstack hdg
  obtain ⟨v, B, X', hpost, hsteps⟩ := hK m meth c ⟨T.setVm vm₁, locs, cells, slots⟩ { g with stack := rest } (.invokestatic index) mk argsL.toArray X₁ hg hsize hdg hW (X₁.named hnamed) (hpre vm₁ X₁.warmed)
  exact ⟨v, vm₁, B, X₁.warmed, X', hpost, fun target h => hstep₁ _ fun acts => by rw [doInvoke_state]; exact hsteps.trans h⟩
theorem vx_runSW {y : MethodName} {bytes cc : ByteArray} {maxL nL mc ms n index : Nat} {ret : Option FieldType} {hh : List (Nat × Nat × Nat × Nat)} {ws : List Cond} {rm : Room} {Pc : Array Value → State → Prop} {Qc : Array Value → State → Outcome → State → Prop} {free : Addr → Prop} {Ts : List Cond} {own : String} {As rest : List Value} {g : JFrame}
    (S : CallFix p m c cc nL s args Ts own) (hM : Met l y ws rm Pc Qc mc ms free) (cw : vx_CSW R s args own index y bytes maxL ret hh ws rm mc ms n) (hp : PreS s H Pc As)
    (hg : g.method = m) (hn : As.length = n) (hsize : g.locals.size = nL) (hstack : g.stack = As.reverse ++ rest) (hW : 2 * g.monitorRoom + (rest.map fun v => v.category).sum ≤ 8) (hdg : decode cc g.pc = .ok (.invokestatic index, 3)) (hf : cells + mc ≤ R.cells ∧ slots + ms ≤ R.slots) :
    va_Run p l e R s m args below meth c H locs cells slots mc ms g rest (Qc As.toArray) (free) := by
  obtain ⟨⟨hrc, hrs, hfr, hlo, hws, hcw⟩, hcode, hini, hy, hlen, hl, hstt⟩ := cw
  have hK : Back l R p e below s args y 3 8 (PreOf R mc ms Pc) (PostOf Qc mc ms free) := va_backW (hh := hh) (bytes := bytes) (maxL := maxL) (ret := ret) hM hp.1 hrc hrs hfr hlo hws hcw (fun a' U hW => word_at hW (Or.inl (by first | rfl | simp [Cond.onTables, Cond.keeps, Cond.steady])) hini)
  obtain ⟨hx, hb, hml, ho, -⟩ := S
  intro T hT X
  obtain ⟨v, vm₁, ⟨U', l2, c2, s2⟩, hW₁, X', ⟨g', mk, t, L, e1, e2, hq, h1, hL, h2, h3⟩, st⟩ := vx_callSW X hx (hh := hh) (bytes := bytes) (maxL := maxL) (ret := ret) ho hl hstt hini hcode hy hK hg (hsize.trans hml.symm) (argsL := As) (rest := rest) (fun sig h => hn.trans (hlen sig h)) hstack hW (by rw [hb]; exact hdg)
    (fun vm₁ hW₁ => ⟨hf.1, hf.2, hp.2 (T.setVm vm₁) hT hW₁⟩)
  dsimp only [Pt.U, Pt.locs, Pt.cells, Pt.slots] at X' e1 e2 h1 h2 h3 st
  subst h1; subst h2; subst h3
  exact ⟨v, (T.setVm vm₁).calling g' mk As.toArray, t, U', L, hT, X', hL, e1, e2, hq, st⟩
/-- not caught here, past rows that name other classes: it goes on to the caller -/
theorem vx_outP {p : Program} {l : Launch} {e : Env} {R : Room} {s : State} {m : MethodId} {args : Array Value} {below : List Frame} {meth : Method} {c : Code} {H : Heap} {locs : List Loc} {cells slots : Nat} {free : Addr → Prop} {ls : Array Slot} {rest : List Value} {Qc : Array Value → State → Outcome → State → Prop} {XC : String → State → State → Prop}
    {pc : Nat} {own E : String} {ce : Cell} {q : Addr} {mc ms : Nat} (hown : s.vm.findClass own = some m.cls) (hlocks : meth.locks = false)
    (hpass : ∀ z ∈ c.exceptionTable.toList, covers z pc = false ∨ (z.catchType ≠ 0 ∧ ∃ nm : String, (Cond.classLink own z.catchType nm).before args s = true ∧ va_Nc E nm s)) (hcell : H[q]? = some ce) (hv : ce.vm = .none) (hcl : s.vm.findClass E = some ce.cls)
    (hx : ∀ t : State, t.heap = H → s.vm.Alike t.vm → XC E s t) (hf : ∀ z ∈ locs, free z.base) (hc : cells ≤ mc) (hs : slots ≤ ms) :
    vx_W p l e R s m args below meth c H locs cells slots (vx_MQ below Qc XC args s mc ms free) (F0 m pc ls rest) q := by
  intro T hT X
  have hpl : e.platform.magicAccessors = ({} : Platform).magicAccessors := by rw [X.admits.platform]
  obtain ⟨vm', hW', X', st⟩ := X.outThrough hlocks q (g := F0 m pc ls rest) rfl rfl rfl (cell := ce) (by rw [hT]; exact hcell) (by rw [hv]; rfl)
    (by obtain ⟨k9, h9, -⟩ := Vm.findClass_spec hcl; exact ⟨k9, h9⟩) (fun z hz => by
      rcases hpass z hz with h | ⟨hz0, nm, hl1, hn1⟩
      · exact Or.inl h
      · obtain ⟨c6, hc6, hcl6⟩ := Cond.classLink_spec hown hl1 e.platform hpl
        obtain ⟨a8, b8, h1, h2, h3⟩ := hn1
        cases Option.some.inj (h1.symm.trans hcl)
        cases Option.some.inj (h2.symm.trans hc6)
        exact Or.inr ⟨hz0, _, hcl6, h3⟩)
  obtain ⟨g₀, hfr⟩ := X'.frames_eq
  have hcell9 : ((T.setVm vm').setFrames (.throwing q :: below)).heap[q]? = some ce := by
    show T.heap[q]? = some ce
    rw [hT]; exact hcell
  have hend : Ended ((T.setVm vm').setFrames (.throwing q :: below)) below (.threw q) := State.frames_setFrames _ (State.cur_lt_of_frames hfr)
  refine ⟨(T.setVm vm').setFrames (.throwing q :: below), ?_, .threw q, X'.here.running, hend, Or.inr ⟨q, rfl, E, ce, locs, hx _ hT (X'.ends _).1.alike, hcell9, hv, hcl, (X'.ends _).1, (X'.ends _).2.mono hc hs, hf⟩⟩
  rw [X.pushThrowing_eq]
  exact st
/-- a thing of a world lies in the heap -/
theorem vx_lt {D : va_G} {cl : List vw_C} {ws : va_W} {H1 : Heap} (h : va_P D cl ws H1) {k : Nat} {q : Nat × va_E} (hk : ws[k]? = some q) : q.1 < H1.size := (h k q hk).lt
end VXS
/-! ===== END ===== -/
/-! ===== BEGIN methods with a table of their own: called by a name, returning or throwing ===== -/
section VXH
/-! vx_backW, vx_callVX, vx_callSX, vx_callVW, vx_runVW, vx_runVX, vx_runSX, vx_ofWH follow the same proofs as their sisters above (Free/Laws.lean, Shelf42/LK1.lean); vx_outP calls Shelf42/NT130.lean (outThrough). -/
section
variable {l : Launch} {R : Room} {p : Program} {e : Env} {below : List Frame} {s : State} {sargs : Array Value} {y : MethodName} {len W9 : Nat}
theorem vx_backW {ws : List Cond} {rm : Room} {Pc : Array Value → State → Prop} {Qc : Array Value → State → Outcome → State → Prop} {XC : String → State → State → Prop} {mc ms : Nat} {free : Addr → Prop} {bytes : ByteArray} {maxL : Nat} {ret : Option FieldType} {hh : List (Nat × Nat × Nat × Nat)}
    (hM : vx_Met l y ws rm Pc Qc XC mc ms free) (hblind : FrameBlind Pc) (hrc : rm.cells = mc) (hrs : rm.slots = ms)
    (hframes : rm.frames + 1 ≤ R.frames) (hlocals : W9 + (maxL + 11) + rm.locals ≤ R.locals)
    (hws : ∀ w ∈ ws, ∀ a' U, s.WarmedH U.vm → w.before a' U = true) (hcode : Cond.codeWith y bytes maxL ret hh ∈ ws) (hinit : ∀ a' U, s.WarmedH U.vm → (Cond.initialized y.cls).before a' U = true) :
    vx_Back l R p e below s sargs y len W9 (PreOf R mc ms Pc) (PostOf Qc mc ms free) (vx_Post XC mc ms free) := by
  intro m meth c A g ig mk a X hg hsize hdg hW hn hp
  have h1 : (headSpec ws rm).pre.before a A.U = true := atoms_intro fun w hw => hws w hw _ _ X.warmed
  have h2 : (Cond.codeWith y bytes maxL ret hh).before a A.U = true := hws _ hcode _ _ X.warmed
  have h3 : (Cond.initialized y.cls).before a A.U = true := hinit _ _ X.warmed
  have h4 : A.cells + (headSpec ws rm).room.cells ≤ R.cells := by rw [show (headSpec ws rm).room.cells = mc from hrc]; exact hp.1
  have h5 : A.slots + (headSpec ws rm).room.slots ≤ R.slots := by rw [show (headSpec ws rm).room.slots = ms from hrs]; exact hp.2.1
  have hPc : Pc a (A.U.calling g mk a) := hblind _ _ _ _ hp.2.2
  obtain ⟨U, Ls, c0, s0⟩ := A
  dsimp only [Pt.U, Pt.locs, Pt.cells, Pt.slots] at h1 h2 h3 h4 h5 X hn hPc ⊢
  obtain ⟨m9, methY, cY, hn9, hmY, hcY, -, hlY, -⟩ := Cond.codeWith_spec h2
  cases Option.some.inj (hn9.symm.trans hn)
  obtain ⟨kY, hkY, -⟩ := className_of_methodNamed hn
  have hinitY : kY.init = .initialized := Cond.initialized_spec (findClass_of_methodNamed hn) hkY h3
  have h : At U g.method c below := by rw [hg]; exact X.here
  have hlocals9 : W9 + (maxL + 11) + (headSpec ws rm).room.locals ≤ R.locals := hlocals
  have happ : (headSpec ws rm).appliesLoose y e.platform (U.calling g mk a) = true :=
    Spec.appliesLoose_calling (g := g) h hdg hn hkY hinitY
      (X.room_calling (g := g) (R' := (headSpec ws rm).room) hsize hmY hcY hframes (by rw [hlY]; omega) h4 h5) h1
  obtain ⟨mid, hmid⟩ := h.above
  have hfr : (U.setTop g).frames = (.java g :: mid) ++ below := by rw [State.frames_setTop' g h.top, hmid]; rfl
  obtain ⟨o, s₂, hsteps, -, hend, hq⟩ := Steps.callFree hM p X.admits X.cas X.clock (acts := []) hfr happ hPc trivial
  have hq' : vx_Q Qc XC mc ms free a (U.calling g mk a) o s₂ := hq
  rw [State.frames_setTop' g h.top] at hend
  obtain ⟨g₀, hg0⟩ := Option.isSome_iff_exists.mp h.top
  obtain ⟨r, hr⟩ := State.topJava?_eq_some.mp hg0
  have hr' : (({ U with heap := s₂.heap, slotsUsed := s₂.slotsUsed } : State).setVm s₂.vm).frames = .java g₀ :: r := hr
  rcases hq' with ⟨hqc, L, hfe, hL⟩ | ⟨q, rfl, E, ce, L, hx, hce, hcv, hcl, hW₂, hsm, hL⟩
  · obtain ⟨⟨v, rfl⟩, hW₂, e2, q2, q3, q4, q5, q6⟩ := id hfe
    have e3 : s₂ = ({ (U.calling g mk a).setFrames s₂.frames with heap := s₂.heap, slotsUsed := s₂.slotsUsed } : State).setVm s₂.vm := by
      have : s₂ = ({ s₂ with vm := (U.calling g mk a).vm } : State).setVm s₂.vm := rfl
      rw [e2] at this
      exact this
    obtain ⟨c₂, i₂, len₂, hc₂, hd₂, hf₂⟩ := hend
    have hW' : U.WarmedH s₂.vm := hW₂
    have hcc : c₂ = c := by
      have h1 : s₂.code? g.method = U.code? g.method := by
        rw [State.code?_eq, State.code?_eq, hW'.alike.method?]
      exact Option.some.inj (hc₂.symm.trans (h1.trans h.code))
    subst hcc
    have hlen : len₂ = len := by rw [hdg] at hd₂; cases hd₂; rfl
    subst hlen
    have hs₂ : s₂ = (({ U with heap := s₂.heap, slotsUsed := s₂.slotsUsed } : State).setVm s₂.vm).setTop { g with pc := g.pc + len₂, stack := v.toList ++ g.stack } := by
      refine e3.trans ?_
      rw [hf₂, State.calling_eq h.top, State.setFrames_setFrames, State.setTop_of_frames _ hr', hr]
      rfl
    have hsame : U.sameButNew ({ U with heap := s₂.heap, slotsUsed := s₂.slotsUsed } : State) L mc ms := by
      refine ⟨?_, q2, q3, q4, q5, q6⟩
      obtain ⟨t, ht, -⟩ := State.frames_cons hr
      show ({ U with heap := s₂.heap, slotsUsed := s₂.slotsUsed } : State) = { U.setFrames U.frames with heap := s₂.heap, slotsUsed := s₂.slotsUsed }
      rw [State.setFrames_self ht]
    subst hg
    refine Or.inl ⟨v, ⟨(({ U with heap := s₂.heap, slotsUsed := s₂.slotsUsed } : State).setVm s₂.vm), Ls ++ L, c0 + mc, s0 + ms⟩,
      ⟨X.admits, X.cas, X.clock, X.frames, X.room, X.hears, X.method, X.code, (X.here.setHeapUsed s₂.heap s₂.slotsUsed).setVm hW'.alike, X.tail, State.WarmedH.trans X.warmed hW', X.limits, X.bytes, X.same.trans (hsame.setVm s.vm)⟩,
      ⟨g, mk, s₂, L, rfl, rfl, hqc, rfl, hL, rfl, rfl⟩, ?_⟩
    show Steps p.tables e below _ ((({ U with heap := s₂.heap, slotsUsed := s₂.slotsUsed } : State).setVm s₂.vm).setTop { g with pc := g.pc + len₂, stack := v.toList ++ g.stack })
    rw [← hs₂]
    exact hsteps
  · obtain ⟨e2, q2, q3, q4, q5, q6⟩ := id hsm
    have e3 : s₂ = ({ (U.calling g mk a).setFrames s₂.frames with heap := s₂.heap, slotsUsed := s₂.slotsUsed } : State).setVm s₂.vm := by
      have : s₂ = ({ s₂ with vm := (U.calling g mk a).vm } : State).setVm s₂.vm := rfl
      rw [e2] at this
      exact this
    have hf₂ : s₂.frames = .throwing q :: .java g :: U.frames.tail := hend
    have hW' : U.WarmedH s₂.vm := hW₂
    have hs₂ : s₂ = ((({ U with heap := s₂.heap, slotsUsed := s₂.slotsUsed } : State).setVm s₂.vm).setTop g).pushFrame (.throwing q) := by
      refine e3.trans ?_
      rw [hf₂, State.calling_eq h.top, State.setFrames_setFrames, State.pushFrame, State.frames_setTop _ hr', State.setTop_of_frames _ hr', State.setFrames_setFrames, hr]
      rfl
    have hsame : U.sameButNew ({ U with heap := s₂.heap, slotsUsed := s₂.slotsUsed } : State) L mc ms := by
      refine ⟨?_, q2, q3, q4, q5, q6⟩
      obtain ⟨t, ht, -⟩ := State.frames_cons hr
      show ({ U with heap := s₂.heap, slotsUsed := s₂.slotsUsed } : State) = { U.setFrames U.frames with heap := s₂.heap, slotsUsed := s₂.slotsUsed }
      rw [State.setFrames_self ht]
    subst hg
    refine Or.inr ⟨q, ⟨(({ U with heap := s₂.heap, slotsUsed := s₂.slotsUsed } : State).setVm s₂.vm), Ls ++ L, c0 + mc, s0 + ms⟩,
      ⟨X.admits, X.cas, X.clock, X.frames, X.room, X.hears, X.method, X.code, (X.here.setHeapUsed s₂.heap s₂.slotsUsed).setVm hW'.alike, X.tail, State.WarmedH.trans X.warmed hW', X.limits, X.bytes, X.same.trans (hsame.setVm s.vm)⟩,
      ⟨g, mk, s₂, L, E, ce, rfl, rfl, hx, hce, hcv, hcl, rfl, hL, rfl, rfl⟩, ?_⟩
    show Steps p.tables e below _ (((({ U with heap := s₂.heap, slotsUsed := s₂.slotsUsed } : State).setVm s₂.vm).setTop g).pushFrame (.throwing q))
    rw [← hs₂]
    exact hsteps
end
variable {p : Program} {l : Launch} {e : Env} {R : Room} {s : State} {m : MethodId} {args : Array Value} {below : List Frame} {meth : Method} {c : Code} {T : State} {H : Heap} {locs : List Loc} {cells slots : Nat}
theorem vx_callVX (X : Stand p l e R s m args below meth c T locs cells slots) (hexec : p.tables.exec = Jvm.exec) {own C : String} {index : Nat} {y : MethodName} {bytes : ByteArray} {maxL : Nat} {ret : Option FieldType} {hh : List (Nat × Nat × Nat × Nat)}
    (hown : s.vm.findClass own = some m.cls) (hlink : (Cond.methodLink own index y).before args s = true) (hinst : (Cond.instanceMethod y).before args s = true) (hsel : (Cond.selects C y y).before args s = true)
    (hcode : (Cond.codeWith y bytes maxL ret hh).before args s = true) (hy : y.cls ≠ "java/lang/invoke/MethodHandle" ∧ y.cls ≠ "java/lang/invoke/VarHandle")
    {W9 : Nat} {Pre : Pt → Array Value → Prop} {Post : Pt → Array Value → Option Value → Pt → Prop} {PostX : Pt → Array Value → Addr → Pt → Prop} (hK : vx_Back l R p e below s args y 3 W9 Pre Post PostX)
    {b : Addr} {cellB : Cell} (hcell : T.heap[b]? = some cellB) (hobj : cellB.vm.isStatics = false) (hcls : s.vm.findClass C = some cellB.cls)
    {g : JFrame} (hg : g.method = m) (hsize : g.locals.size = c.maxLocals) {argsL rest : List Value} (hlen : ∀ sig, parseMethodDescriptor y.desc = some sig → argsL.length = sig.parameters.length)
    (hstack : g.stack = argsL.reverse ++ .ref b :: rest) (hW : 2 * g.monitorRoom + (rest.map fun v => v.category).sum ≤ W9) (hdg : decode c.code g.pc = .ok (.invokevirtual index, 3))
    (hpre : ∀ vm₁, s.WarmedH vm₁ → Pre ⟨T.setVm vm₁, locs, cells, slots⟩ (Value.ref b :: argsL).toArray) :
    (∃ (v : Option Value) (vm₁ : Vm) (B : Pt), s.WarmedH vm₁ ∧ Stand p l e R s m args below meth c B.U B.locs B.cells B.slots ∧ Post ⟨T.setVm vm₁, locs, cells, slots⟩ (Value.ref b :: argsL).toArray v B ∧
      ∀ target, Steps p.tables e below (B.U.setTop { g with pc := g.pc + 3, stack := v.toList ++ rest }) target → Steps p.tables e below (T.setTop g) target) ∨
    (∃ (q : Addr) (vm₁ : Vm) (B : Pt), s.WarmedH vm₁ ∧ Stand p l e R s m args below meth c B.U B.locs B.cells B.slots ∧ PostX ⟨T.setVm vm₁, locs, cells, slots⟩ (Value.ref b :: argsL).toArray q B ∧
      Steps p.tables e below (T.setTop g) ((B.U.setTop { g with stack := rest }).pushFrame (.throwing q))) := by
  obtain ⟨mk, methM, hnamed, hmethM, hstM, habM⟩ := Cond.instanceMethod_spec hinst
  obtain ⟨m8, methM', cM, hn8, hmethM', -, -, -, -, -, -, hsigM⟩ := Cond.codeWith_spec hcode
  cases Option.some.inj (hn8.symm.trans hnamed)
  cases hmethM.symm.trans hmethM'
  obtain ⟨c2, r2, m2, q1, q2, q3, q4, kP, hkP, hkPi⟩ := Cond.selects_spec hsel
  cases hcls.symm.trans q1
  cases (State.methodFound?_of_named hnamed hy).symm.trans q2
  cases hnamed.symm.trans q3
  have hselP : selectMethod e.platform s.vm cellB.cls mk = .method mk := by rw [Launch.admits_selectMethod X.admits]; exact q4
  obtain ⟨vm₁, X₁, hstep₁⟩ := X.invokevirtual hexec hown hlink hnamed hmethM hstM hkP hkPi hy (a := b) (cell := cellB) hcell
    (fun z h => by rw [h] at hobj; cases hobj) hselP hmethM habM hkP hkPi (g := g) hg (argsL := argsL) (rest := rest) (hlen _ hsigM) hstack hdg
  rcases hK m meth c ⟨T.setVm vm₁, locs, cells, slots⟩ { g with stack := rest } (.invokevirtual index) mk (Value.ref b :: argsL).toArray X₁ hg hsize hdg hW (X₁.named hnamed) (hpre vm₁ X₁.warmed) with ⟨v, B, X', hpost, hsteps⟩ | ⟨q, B, X', hpost, hsteps⟩
  · exact Or.inl ⟨v, vm₁, B, X₁.warmed, X', hpost, fun target h => hstep₁ _ fun acts => by rw [doInvoke_state]; exact hsteps.trans h⟩
  · exact Or.inr ⟨q, vm₁, B, X₁.warmed, X', hpost, hstep₁ _ fun acts => by rw [doInvoke_state]; exact hsteps⟩
theorem vx_callSX (X : Stand p l e R s m args below meth c T locs cells slots) (hexec : p.tables.exec = Jvm.exec) {own : String} {index : Nat} {y : MethodName} {bytes : ByteArray} {maxL : Nat} {ret : Option FieldType} {hh : List (Nat × Nat × Nat × Nat)}
    (hown : s.vm.findClass own = some m.cls) (hlink : (Cond.methodLink own index y).before args s = true) (hstat : (Cond.static y).before args s = true) (hinit : (Cond.initialized y.cls).before args s = true)
    (hcode : (Cond.codeWith y bytes maxL ret hh).before args s = true) (hy : y.cls ≠ "java/lang/invoke/MethodHandle" ∧ y.cls ≠ "java/lang/invoke/VarHandle")
    {W9 : Nat} {Pre : Pt → Array Value → Prop} {Post : Pt → Array Value → Option Value → Pt → Prop} {PostX : Pt → Array Value → Addr → Pt → Prop} (hK : vx_Back l R p e below s args y 3 W9 Pre Post PostX)
    {g : JFrame} (hg : g.method = m) (hsize : g.locals.size = c.maxLocals) {argsL rest : List Value} (hlen : ∀ sig, parseMethodDescriptor y.desc = some sig → argsL.length = sig.parameters.length)
    (hstack : g.stack = argsL.reverse ++ rest) (hW : 2 * g.monitorRoom + (rest.map fun v => v.category).sum ≤ W9) (hdg : decode c.code g.pc = .ok (.invokestatic index, 3))
    (hpre : ∀ vm₁, s.WarmedH vm₁ → Pre ⟨T.setVm vm₁, locs, cells, slots⟩ argsL.toArray) :
    (∃ (v : Option Value) (vm₁ : Vm) (B : Pt), s.WarmedH vm₁ ∧ Stand p l e R s m args below meth c B.U B.locs B.cells B.slots ∧ Post ⟨T.setVm vm₁, locs, cells, slots⟩ argsL.toArray v B ∧
      ∀ target, Steps p.tables e below (B.U.setTop { g with pc := g.pc + 3, stack := v.toList ++ rest }) target → Steps p.tables e below (T.setTop g) target) ∨
    (∃ (q : Addr) (vm₁ : Vm) (B : Pt), s.WarmedH vm₁ ∧ Stand p l e R s m args below meth c B.U B.locs B.cells B.slots ∧ PostX ⟨T.setVm vm₁, locs, cells, slots⟩ argsL.toArray q B ∧
      Steps p.tables e below (T.setTop g) ((B.U.setTop { g with stack := rest }).pushFrame (.throwing q))) := by
  obtain ⟨mk, methM, cM, hnamed, hmethM, -, -, -, -, -, -, hsigM⟩ := Cond.codeWith_spec hcode
  have hstatic : methM.isStatic = true := Cond.static_spec hnamed hmethM hstat
  obtain ⟨kP, hkP, -⟩ := className_of_methodNamed hnamed
  have hinitP : kP.init = .initialized := Cond.initialized_spec (findClass_of_methodNamed hnamed) hkP hinit
  obtain ⟨vm₁, X₁, hstep₁⟩ := X.invokestatic hexec hown hlink hnamed hmethM hstatic hkP hinitP hy (g := g) hg (argsL := argsL) (rest := rest) (hlen _ hsigM) hstack hdg
  rcases hK m meth c ⟨T.setVm vm₁, locs, cells, slots⟩ { g with stack := rest } (.invokestatic index) mk argsL.toArray X₁ hg hsize hdg hW (X₁.named hnamed) (hpre vm₁ X₁.warmed) with ⟨v, B, X', hpost, hsteps⟩ | ⟨q, B, X', hpost, hsteps⟩
  · exact Or.inl ⟨v, vm₁, B, X₁.warmed, X', hpost, fun target h => hstep₁ _ fun acts => by rw [doInvoke_state]; exact hsteps.trans h⟩
  · exact Or.inr ⟨q, vm₁, B, X₁.warmed, X', hpost, hstep₁ _ fun acts => by rw [doInvoke_state]; exact hsteps⟩
theorem vx_callVW (X : Stand p l e R s m args below meth c T locs cells slots) (hexec : p.tables.exec = Jvm.exec) {own C : String} {index : Nat} {y : MethodName} {bytes : ByteArray} {maxL : Nat} {ret : Option FieldType} {hh : List (Nat × Nat × Nat × Nat)}
    (hown : s.vm.findClass own = some m.cls) (hlink : (Cond.methodLink own index y).before args s = true) (hinst : (Cond.instanceMethod y).before args s = true) (hsel : (Cond.selects C y y).before args s = true)
    (hcode : (Cond.codeWith y bytes maxL ret hh).before args s = true) (hy : y.cls ≠ "java/lang/invoke/MethodHandle" ∧ y.cls ≠ "java/lang/invoke/VarHandle")
    {W9 : Nat} {Pre : Pt → Array Value → Prop} {Post : Pt → Array Value → Option Value → Pt → Prop} (hK : Back l R p e below s args y 3 W9 Pre Post)
    {b : Addr} {cellB : Cell} (hcell : T.heap[b]? = some cellB) (hobj : cellB.vm.isStatics = false) (hcls : s.vm.findClass C = some cellB.cls)
    {g : JFrame} (hg : g.method = m) (hsize : g.locals.size = c.maxLocals) {argsL rest : List Value} (hlen : ∀ sig, parseMethodDescriptor y.desc = some sig → argsL.length = sig.parameters.length)
    (hstack : g.stack = argsL.reverse ++ .ref b :: rest) (hW : 2 * g.monitorRoom + (rest.map fun v => v.category).sum ≤ W9) (hdg : decode c.code g.pc = .ok (.invokevirtual index, 3))
    (hpre : ∀ vm₁, s.WarmedH vm₁ → Pre ⟨T.setVm vm₁, locs, cells, slots⟩ (Value.ref b :: argsL).toArray) :
    ∃ (v : Option Value) (vm₁ : Vm) (B : Pt), s.WarmedH vm₁ ∧ Stand p l e R s m args below meth c B.U B.locs B.cells B.slots ∧ Post ⟨T.setVm vm₁, locs, cells, slots⟩ (Value.ref b :: argsL).toArray v B ∧
      ∀ target, Steps p.tables e below (B.U.setTop { g with pc := g.pc + 3, stack := v.toList ++ rest }) target → Steps p.tables e below (T.setTop g) target := by
  obtain ⟨mk, methM, hnamed, hmethM, hstM, habM⟩ := Cond.instanceMethod_spec hinst
  obtain ⟨m8, methM', cM, hn8, hmethM', -, -, -, -, -, -, hsigM⟩ := Cond.codeWith_spec hcode
  cases Option.some.inj (hn8.symm.trans hnamed)
  cases hmethM.symm.trans hmethM'
  obtain ⟨c2, r2, m2, q1, q2, q3, q4, kP, hkP, hkPi⟩ := Cond.selects_spec hsel
  cases hcls.symm.trans q1
  cases (State.methodFound?_of_named hnamed hy).symm.trans q2
  cases hnamed.symm.trans q3
  have hselP : selectMethod e.platform s.vm cellB.cls mk = .method mk := by rw [Launch.admits_selectMethod X.admits]; exact q4
  obtain ⟨vm₁, X₁, hstep₁⟩ := X.invokevirtual hexec hown hlink hnamed hmethM hstM hkP hkPi hy (a := b) (cell := cellB) hcell
    (fun z h => by rw [h] at hobj; cases hobj) hselP hmethM habM hkP hkPi (g := g) hg (argsL := argsL) (rest := rest) (hlen _ hsigM) hstack hdg
  obtain ⟨v, B, X', hpost, hsteps⟩ := hK m meth c ⟨T.setVm vm₁, locs, cells, slots⟩ { g with stack := rest } (.invokevirtual index) mk (Value.ref b :: argsL).toArray X₁ hg hsize hdg hW (X₁.named hnamed) (hpre vm₁ X₁.warmed)
  exact ⟨v, vm₁, B, X₁.warmed, X', hpost, fun target h => hstep₁ _ fun acts => by rw [doInvoke_state]; exact hsteps.trans h⟩
abbrev vx_CVW (R : Room) (s : State) (args : Array Value) (own C : String) (index : Nat) (y : MethodName) (bytes : ByteArray) (maxL : Nat) (ret : Option FieldType) (hh : List (Nat × Nat × Nat × Nat)) (ws : List Cond) (rm : Room) (mc ms n : Nat) : Prop :=
  (rm.cells = mc ∧ rm.slots = ms ∧ rm.frames + 1 ≤ R.frames ∧ 8 + (maxL + 11) + rm.locals ≤ R.locals ∧ (∀ w ∈ ws, ∀ (a' : Array Value) (U : State), s.WarmedH U.vm → w.before a' U = true) ∧ Cond.codeWith y bytes maxL ret hh ∈ ws) ∧
  (Cond.codeWith y bytes maxL ret hh).before args s = true ∧ (Cond.initialized y.cls).before args s = true ∧ (y.cls ≠ "java/lang/invoke/MethodHandle" ∧ y.cls ≠ "java/lang/invoke/VarHandle") ∧
  (∀ sig, parseMethodDescriptor y.desc = some sig → n = sig.parameters.length) ∧ (Cond.methodLink own index y).before args s = true ∧ (Cond.instanceMethod y).before args s = true ∧ (Cond.selects C y y).before args s = true
theorem vx_cwVW {own C : String} {index maxL mc ms : Nat} {y : MethodName} {bytes : ByteArray} {ret : Option FieldType} {hh : List (Nat × Nat × Nat × Nat)} {Ts ws ws' : List Cond} {rm : Room} (n : Nat) (ht : ∀ w ∈ Ts, w.before args s = true) (hT : GoodIn Ts (wsV own index C y ws)) (hw : ws = Cond.codeWith y bytes maxL ret hh :: ws') (hrc : rm.cells = mc) (hrs : rm.slots = ms)
    (hd : y.cls = C ∧ y.cls ≠ "java/lang/invoke/MethodHandle" ∧ y.cls ≠ "java/lang/invoke/VarHandle" ∧ (parseMethodDescriptor y.desc).map (fun d => d.parameters.length) = some n) (hR : rm.frames + 1 ≤ R.frames ∧ 8 + (maxL + 11) + rm.locals ≤ R.locals) :
    vx_CVW R s args own C index y bytes maxL ret hh ws rm mc ms n := by
  obtain ⟨hC, hd⟩ := hd
  subst hC
  have ok : ∀ w ∈ wsV own index y.cls y ws, w.before args s = true := fun w h => ht w (hT w h).1
  have hG : GoodIn Ts ws := fun w h => hT w (by unfold wsV; exact List.mem_append_right _ h)
  have hc : Cond.codeWith y bytes maxL ret hh ∈ ws := by rw [hw]; exact List.mem_cons_self
  refine ⟨⟨hrc, hrs, hR.1, hR.2, pay_in ht hG, hc⟩, ht _ (hG _ hc).1, ok _ (by simp [wsV]), ⟨hd.1, hd.2.1⟩, fun sig h => ?_, ok _ (by simp [wsV]), ok _ (by simp [wsV]), ok _ (by simp [wsV])⟩
  have h2 := hd.2.2
  rw [h] at h2
  exact (Option.some.inj h2).symm
theorem vx_runVW {y : MethodName} {bytes cc : ByteArray} {maxL nL mc ms n index : Nat} {ret : Option FieldType} {hh : List (Nat × Nat × Nat × Nat)} {ws : List Cond} {rm : Room} {Pc : Array Value → State → Prop} {Qc : Array Value → State → Outcome → State → Prop} {free : Addr → Prop} {Ts : List Cond} {own C : String} {b : Addr} {As rest : List Value} {g : JFrame}
    (S : CallFix p m c cc nL s args Ts own) (hM : Met l y ws rm Pc Qc mc ms free) (cw : vx_CVW R s args own C index y bytes maxL ret hh ws rm mc ms n) (hp : PreV s H C b Pc As)
    (hg : g.method = m) (hn : As.length = n) (hsize : g.locals.size = nL) (hstack : g.stack = As.reverse ++ .ref b :: rest) (hW : 2 * g.monitorRoom + (rest.map fun v => v.category).sum ≤ 8) (hdg : decode cc g.pc = .ok (.invokevirtual index, 3)) (hf : cells + mc ≤ R.cells ∧ slots + ms ≤ R.slots) :
    va_Run p l e R s m args below meth c H locs cells slots mc ms g rest (Qc (Value.ref b :: As).toArray) free := by
  obtain ⟨⟨hrc, hrs, hfr, hlo, hws, hcw⟩, hcode, hini, hy, hlen, hl, hin, hse⟩ := cw
  have hK : Back l R p e below s args y 3 8 (PreOf R mc ms Pc) (PostOf Qc mc ms free) := va_backW (hh := hh) (bytes := bytes) (maxL := maxL) (ret := ret) hM hp.1 hrc hrs hfr hlo hws hcw (fun a' U hW => word_at hW (Or.inl (by first | rfl | simp [Cond.onTables, Cond.keeps, Cond.steady])) hini)
  obtain ⟨hx, hb, hml, ho, -⟩ := S
  obtain ⟨-, ⟨cellB, hcB, hoB, hclB⟩, hPc⟩ := hp
  intro T hT X
  obtain ⟨v, vm₁, ⟨U', l2, c2, s2⟩, hW₁, X', ⟨g', mk, t, L, e1, e2, hq, h1, hL, h2, h3⟩, st⟩ := vx_callVW X hx (C := C) (hh := hh) (bytes := bytes) (maxL := maxL) (ret := ret) ho hl hin hse hcode hy hK (by rw [hT]; exact hcB) hoB hclB hg (hsize.trans hml.symm) (argsL := As) (rest := rest) (fun sig h => hn.trans (hlen sig h)) hstack hW (by rw [hb]; exact hdg)
    (fun vm₁ hW₁ => ⟨hf.1, hf.2, hPc (T.setVm vm₁) hT hW₁⟩)
  dsimp only [Pt.U, Pt.locs, Pt.cells, Pt.slots] at X' e1 e2 h1 h2 h3 st
  subst h1; subst h2; subst h3
  exact ⟨v, (T.setVm vm₁).calling g' mk (Value.ref b :: As).toArray, t, U', L, hT, X', hL, e1, e2, hq, st⟩
section
variable {y : MethodName} {bytes cc : ByteArray} {maxL nL mc ms n index : Nat} {ret : Option FieldType} {ws : List Cond} {rm : Room} {Pc : Array Value → State → Prop} {Qc : Array Value → State → Outcome → State → Prop} {XC : String → State → State → Prop} {free : Addr → Prop} {Ts : List Cond} {own C : String} {b : Addr} {As rest : List Value} {g : JFrame}
theorem vx_runVX {hh : List (Nat × Nat × Nat × Nat)} (S : CallFix p m c cc nL s args Ts own) (hM : vx_Met l y ws rm Pc Qc XC mc ms free) (cw : vx_CVW R s args own C index y bytes maxL ret hh ws rm mc ms n) (hp : PreV s H C b Pc As)
    (hg : g.method = m) (hn : As.length = n) (hsize : g.locals.size = nL) (hstack : g.stack = As.reverse ++ .ref b :: rest) (hW : 2 * g.monitorRoom + (rest.map fun v => v.category).sum ≤ 8) (hdg : decode cc g.pc = .ok (.invokevirtual index, 3)) (hf : cells + mc ≤ R.cells ∧ slots + ms ≤ R.slots) :
    vx_Run p l e R s m args below meth c H locs cells slots mc ms g rest (Qc (Value.ref b :: As).toArray) XC free := by
  obtain ⟨⟨hrc, hrs, hfr, hlo, hws, hcw⟩, hcode, hini, hy, hlen, hl, hin, hse⟩ := cw
  have hK : vx_Back l R p e below s args y 3 8 (PreOf R mc ms Pc) (PostOf Qc mc ms free) (vx_Post XC mc ms free) := vx_backW (hh := hh) (bytes := bytes) (maxL := maxL) (ret := ret) hM hp.1 hrc hrs hfr hlo hws hcw (fun a' U hW => word_at hW (Or.inl (by first | rfl | simp [Cond.onTables, Cond.keeps, Cond.steady])) hini)
  obtain ⟨hx, hb, hml, ho, -⟩ := S
  obtain ⟨-, ⟨cellB, hcB, hoB, hclB⟩, hPc⟩ := hp
  intro T hT X
  rcases vx_callVX X hx (C := C) (hh := hh) (bytes := bytes) (maxL := maxL) (ret := ret) ho hl hin hse hcode hy hK (by rw [hT]; exact hcB) hoB hclB hg (hsize.trans hml.symm) (argsL := As) (rest := rest) (fun sig h => hn.trans (hlen sig h)) hstack hW (by rw [hb]; exact hdg)
    (fun vm₁ hW₁ => ⟨hf.1, hf.2, hPc (T.setVm vm₁) hT hW₁⟩) with ⟨v, vm₁, ⟨U', l2, c2, s2⟩, hW₁, X', ⟨g', mk, t, L, e1, e2, hq, h1, hL, h2, h3⟩, st⟩ | ⟨q, vm₁, ⟨U', l2, c2, s2⟩, hW₁, X', ⟨g', mk, t, L, E, ce, e1, e2, hq, hce, hcv, hcl, h1, hL, h2, h3⟩, st⟩
  · dsimp only [Pt.U, Pt.locs, Pt.cells, Pt.slots] at X' e1 e2 h1 h2 h3 st
    subst h1; subst h2; subst h3
    exact Or.inl ⟨v, (T.setVm vm₁).calling g' mk (Value.ref b :: As).toArray, t, U', L, hT, X', hL, e1, e2, hq, st⟩
  · dsimp only [Pt.U, Pt.locs, Pt.cells, Pt.slots] at X' e1 e2 h1 h2 h3 st hcl
    subst h1; subst h2; subst h3
    exact Or.inr ⟨q, (T.setVm vm₁).calling g' mk (Value.ref b :: As).toArray, t, U', L, E, ce, hT, X', hL, e1, e2, hq, hce, hcv, vx_cls hW₁ hcl, st⟩
theorem vx_runSX {hh : List (Nat × Nat × Nat × Nat)} (S : CallFix p m c cc nL s args Ts own) (hM : vx_Met l y ws rm Pc Qc XC mc ms free) (cw : vx_CSW R s args own index y bytes maxL ret hh ws rm mc ms n) (hp : PreS s H Pc As)
    (hg : g.method = m) (hn : As.length = n) (hsize : g.locals.size = nL) (hstack : g.stack = As.reverse ++ rest) (hW : 2 * g.monitorRoom + (rest.map fun v => v.category).sum ≤ 8) (hdg : decode cc g.pc = .ok (.invokestatic index, 3)) (hf : cells + mc ≤ R.cells ∧ slots + ms ≤ R.slots) :
    vx_Run p l e R s m args below meth c H locs cells slots mc ms g rest (Qc As.toArray) XC free := by
  obtain ⟨⟨hrc, hrs, hfr, hlo, hws, hcw⟩, hcode, hini, hy, hlen, hl, hstt⟩ := cw
  have hK : vx_Back l R p e below s args y 3 8 (PreOf R mc ms Pc) (PostOf Qc mc ms free) (vx_Post XC mc ms free) := vx_backW (hh := hh) (bytes := bytes) (maxL := maxL) (ret := ret) hM hp.1 hrc hrs hfr hlo hws hcw (fun a' U hW => word_at hW (Or.inl (by first | rfl | simp [Cond.onTables, Cond.keeps, Cond.steady])) hini)
  obtain ⟨hx, hb, hml, ho, -⟩ := S
  intro T hT X
  rcases vx_callSX X hx (hh := hh) (bytes := bytes) (maxL := maxL) (ret := ret) ho hl hstt hini hcode hy hK hg (hsize.trans hml.symm) (argsL := As) (rest := rest) (fun sig h => hn.trans (hlen sig h)) hstack hW (by rw [hb]; exact hdg)
    (fun vm₁ hW₁ => ⟨hf.1, hf.2, hp.2 (T.setVm vm₁) hT hW₁⟩) with ⟨v, vm₁, ⟨U', l2, c2, s2⟩, hW₁, X', ⟨g', mk, t, L, e1, e2, hq, h1, hL, h2, h3⟩, st⟩ | ⟨q, vm₁, ⟨U', l2, c2, s2⟩, hW₁, X', ⟨g', mk, t, L, E, ce, e1, e2, hq, hce, hcv, hcl, h1, hL, h2, h3⟩, st⟩
  · dsimp only [Pt.U, Pt.locs, Pt.cells, Pt.slots] at X' e1 e2 h1 h2 h3 st
    subst h1; subst h2; subst h3
    exact Or.inl ⟨v, (T.setVm vm₁).calling g' mk As.toArray, t, U', L, hT, X', hL, e1, e2, hq, st⟩
  · dsimp only [Pt.U, Pt.locs, Pt.cells, Pt.slots] at X' e1 e2 h1 h2 h3 st hcl
    subst h1; subst h2; subst h3
    exact Or.inr ⟨q, (T.setVm vm₁).calling g' mk As.toArray, t, U', L, E, ce, hT, X', hL, e1, e2, hq, hce, hcv, vx_cls hW₁ hcl, st⟩
end
end VXH
theorem vx_ofWH {l : Launch} {y : MethodName} {ws ws' : List Cond} {rm : Room} {Pc : Array Value → State → Prop} {Qc : Array Value → State → Outcome → State → Prop} {XC : String → State → State → Prop} {mc ms : Nat} {free : Addr → Prop} {cc : ByteArray} {maxL : Nat} {ret : Option FieldType} {hh : List (Nat × Nat × Nat × Nat)}
    (hy : plainName y.cls = true) (hw : ws = Cond.codeWith y cc maxL ret hh :: ws')
    (body : ∀ p e s m args below meth c s₁, BodyLoose p l y (headSpec ws rm) cc maxL ret e s m args below meth c s₁ → c.maxLocals = maxL → Pc args s →
      W p l e (headSpec ws rm).room s m args below meth c s.heap [] 0 0 (vx_MQ below Qc XC args s mc ms free) (entryFrame m args maxL)) : vx_Met l y ws rm Pc Qc XC mc ms free := by
  refine MetFree.of_bodyS (code := cc) (maxLocals := maxL) (ret := ret) hy ?_ ?_
  · intro args s m h hn
    obtain ⟨m9, meth, c, hn9, h1, h2, h3, h4, -, h5, h6, -⟩ := Cond.codeWith_spec (atoms_spec (ws := ws) h _ (by rw [hw]; exact List.mem_cons_self))
    cases hn.symm.trans hn9
    exact ⟨meth, c, h1, h2, h3, h4, h5, h6⟩
  · intro p e s m args below meth c s₁ B hml hP _
    have hh0 : s₁.heap = s.heap := by rw [B.state]; rfl
    obtain ⟨t, a1, o, b1, b2, b3⟩ := body p e s m args below meth c s₁ B hml hP s₁ hh0 (Stand.of_body B)
    exact ⟨t, o, a1, b1, b2, b3⟩
/-! ===== END ===== -/

def RX0 : String := "TripleTrains$Board"
def TX0 : u_T := fun k => match k with
  | 0 => ("TripleTrains$Board", "points", "I", false)
  | 1 => ("TripleTrains$Board", "size", "I", false)
  | 2 => ("TripleTrains$Board", "thirds", "[I", true)
  | 3 => ("TripleTrains$Board", "numbers", "[I", true)
  | 4 => ("TripleTrains$Board", "open", "[I", true)
  | _ => ("TripleTrains$Board", "sets", "[I", true)
def tyX0 : Nat → FieldType := fun k => match k with
  | 0 => .int
  | 1 => .int
  | 2 => .array .int
  | 3 => .array .int
  | 4 => .array .int
  | _ => .array .int
abbrev wsX00 : List Cond := u_ws RX0 TX0 6
theorem nmX0 : ∀ a, a < 6 → ∀ b, b < 6 → a ≠ b → (TX0 a).2.1 ≠ (TX0 b).2.1 := by decide +kernel
theorem tyX0_ok : ∀ k, k < 6 → parseFieldDescriptor (TX0 k).2.2.1 = some (tyX0 k) := by decide +kernel
abbrev cX0_init : ByteArray := prog_2_method_1_code
def yX0_init : MethodName := ⟨RX0, "<init>", "()V"⟩
abbrev cX0_reset : ByteArray := prog_2_method_2_code
def yX0_reset : MethodName := ⟨RX0, "reset", "(I)V"⟩
abbrev cX0_copy : ByteArray := prog_2_method_3_code
def yX0_copy : MethodName := ⟨RX0, "copy", "(LTripleTrains$Board;)V"⟩
abbrev cX0_isPoint : ByteArray := prog_2_method_4_code
def yX0_isPoint : MethodName := ⟨RX0, "isPoint", "(I)Z"⟩
abbrev cX0_allPoints : ByteArray := prog_2_method_5_code
def yX0_allPoints : MethodName := ⟨RX0, "allPoints", "()I"⟩
abbrev cX0_turnWithin : ByteArray := prog_2_method_6_code
def yX0_turnWithin : MethodName := ⟨RX0, "turnWithin", "(I)I"⟩
abbrev cX0_pairs : ByteArray := prog_2_method_7_code
def yX0_pairs : MethodName := ⟨RX0, "pairs", "()I"⟩
abbrev cX0_thirdOf : ByteArray := prog_2_method_8_code
def yX0_thirdOf : MethodName := ⟨RX0, "thirdOf", "(II)I"⟩
abbrev cX0_openOf : ByteArray := prog_2_method_9_code
def yX0_openOf : MethodName := ⟨RX0, "openOf", "(I)I"⟩
abbrev cX0_setOf : ByteArray := prog_2_method_10_code
def yX0_setOf : MethodName := ⟨RX0, "setOf", "(I)I"⟩
abbrev cX0_numberCovering : ByteArray := prog_2_method_11_code
def yX0_numberCovering : MethodName := ⟨RX0, "numberCovering", "(II)I"⟩
abbrev cX0_numberOf : ByteArray := prog_2_method_12_code
def yX0_numberOf : MethodName := ⟨RX0, "numberOf", "(I)I"⟩
abbrev cX0_holds : ByteArray := prog_2_method_13_code
def yX0_holds : MethodName := ⟨RX0, "holds", "(I)Z"⟩
abbrev cX0_takes : ByteArray := prog_2_method_14_code
def yX0_takes : MethodName := ⟨RX0, "takes", "(I)Z"⟩
abbrev cX0_put : ByteArray := prog_2_method_15_code
def yX0_put : MethodName := ⟨RX0, "put", "(I)V"⟩
abbrev cX0_drop : ByteArray := prog_2_method_16_code
def yX0_drop : MethodName := ⟨RX0, "drop", "(I)V"⟩
abbrev cX0_join : ByteArray := prog_2_method_17_code
def yX0_join : MethodName := ⟨RX0, "join", "(III)V"⟩
abbrev cX0_part : ByteArray := prog_2_method_18_code
def yX0_part : MethodName := ⟨RX0, "part", "(II)V"⟩
abbrev cX0_list : ByteArray := prog_2_method_19_code
def yX0_list : MethodName := ⟨RX0, "list", "()V"⟩
abbrev cX0_number : ByteArray := prog_2_method_20_code
def yX0_number : MethodName := ⟨RX0, "number", "(III)V"⟩
abbrev cX0_numberPair : ByteArray := prog_2_method_21_code
def yX0_numberPair : MethodName := ⟨RX0, "numberPair", "(II)V"⟩
abbrev cX0_putAllTurns : ByteArray := prog_2_method_22_code
def yX0_putAllTurns : MethodName := ⟨RX0, "putAllTurns", "(I)I"⟩
abbrev cX0_putAllThatFit : ByteArray := prog_2_method_23_code
def yX0_putAllThatFit : MethodName := ⟨RX0, "putAllThatFit", "()I"⟩
abbrev cX0_openPairs : ByteArray := prog_2_method_24_code
def yX0_openPairs : MethodName := ⟨RX0, "openPairs", "()I"⟩
abbrev cX0_openPair : ByteArray := prog_2_method_25_code
def yX0_openPair : MethodName := ⟨RX0, "openPair", "(I)I"⟩
abbrev cX0_tightestPair : ByteArray := prog_2_method_26_code
def yX0_tightestPair : MethodName := ⟨RX0, "tightestPair", "()I"⟩
abbrev cX0_meeting : ByteArray := prog_2_method_27_code
def yX0_meeting : MethodName := ⟨RX0, "meeting", "(II)I"⟩
abbrev cX0_dropMeeting : ByteArray := prog_2_method_28_code
def yX0_dropMeeting : MethodName := ⟨RX0, "dropMeeting", "(II)I"⟩
abbrev cX0_trainFrom : ByteArray := prog_2_method_29_code
def yX0_trainFrom : MethodName := ⟨RX0, "trainFrom", "(I)I"⟩
abbrev cX0_turnKeeps : ByteArray := prog_2_method_30_code
def yX0_turnKeeps : MethodName := ⟨RX0, "turnKeeps", "(I)Z"⟩
abbrev cX0_leastKeptTurn : ByteArray := prog_2_method_31_code
def yX0_leastKeptTurn : MethodName := ⟨RX0, "leastKeptTurn", "()I"⟩
abbrev cX0_orbitOf : ByteArray := prog_2_method_32_code
def yX0_orbitOf : MethodName := ⟨RX0, "orbitOf", "(II)J"⟩
abbrev cX0_isClosed : ByteArray := prog_2_method_33_code
def yX0_isClosed : MethodName := ⟨RX0, "isClosed", "(I)Z"⟩
abbrev cX0_closed : ByteArray := prog_2_method_34_code
def yX0_closed : MethodName := ⟨RX0, "closed", "(I)I"⟩
abbrev cX0_hasTripleWithin : ByteArray := prog_2_method_35_code
def yX0_hasTripleWithin : MethodName := ⟨RX0, "hasTripleWithin", "(I)Z"⟩
def RX1 : String := "TripleTrains$Cycles"
def TX1 : u_T := fun k => match k with
  | 0 => ("TripleTrains$Cycles", "size", "I", false)
  | 1 => ("TripleTrains$Cycles", "first", "I", false)
  | 2 => ("TripleTrains$Cycles", "second", "I", false)
  | 3 => ("TripleTrains$Cycles", "begins", "[I", true)
  | 4 => ("TripleTrains$Cycles", "row", "[I", true)
  | _ => ("TripleTrains$Cycles", "steps", "[J", true)
def tyX1 : Nat → FieldType := fun k => match k with
  | 0 => .int
  | 1 => .int
  | 2 => .int
  | 3 => .array .int
  | 4 => .array .int
  | _ => .array .long
abbrev wsX10 : List Cond := u_ws RX1 TX1 6
theorem nmX1 : ∀ a, a < 6 → ∀ b, b < 6 → a ≠ b → (TX1 a).2.1 ≠ (TX1 b).2.1 := by decide +kernel
theorem tyX1_ok : ∀ k, k < 6 → parseFieldDescriptor (TX1 k).2.2.1 = some (tyX1 k) := by decide +kernel
abbrev cX1_init : ByteArray := prog_3_method_1_code
def yX1_init : MethodName := ⟨RX1, "<init>", "()V"⟩
abbrev cX1_gather : ByteArray := prog_3_method_2_code
def yX1_gather : MethodName := ⟨RX1, "gather", "(LTripleTrains$Board;II)V"⟩
abbrev cX1_walk : ByteArray := prog_3_method_3_code
def yX1_walk : MethodName := ⟨RX1, "walk", "(LTripleTrains$Board;I)I"⟩
abbrev cX1_keep : ByteArray := prog_3_method_4_code
def yX1_keep : MethodName := ⟨RX1, "keep", "(I)I"⟩
abbrev cX1_beginOf : ByteArray := prog_3_method_5_code
def yX1_beginOf : MethodName := ⟨RX1, "beginOf", "(I)I"⟩
abbrev cX1_lengthOf : ByteArray := prog_3_method_6_code
def yX1_lengthOf : MethodName := ⟨RX1, "lengthOf", "(I)I"⟩
abbrev cX1_pointAt : ByteArray := prog_3_method_7_code
def yX1_pointAt : MethodName := ⟨RX1, "pointAt", "(II)I"⟩
abbrev cX1_countOfLength : ByteArray := prog_3_method_8_code
def yX1_countOfLength : MethodName := ⟨RX1, "countOfLength", "(I)I"⟩
abbrev cX1_tradeOf : ByteArray := prog_3_method_9_code
def yX1_tradeOf : MethodName := ⟨RX1, "tradeOf", "(I)J"⟩
abbrev cX1_planSwitch : ByteArray := prog_3_method_10_code
def yX1_planSwitch : MethodName := ⟨RX1, "planSwitch", "(ILTripleTrains$Exchange;)V"⟩
def RX2 : String := "TripleTrains$Exchange"
def TX2 : u_T := fun k => match k with
  | 0 => ("TripleTrains$Exchange", "size", "I", false)
  | 1 => ("TripleTrains$Exchange", "goneNumbers", "J", false)
  | 2 => ("TripleTrains$Exchange", "gone", "[I", true)
  | _ => ("TripleTrains$Exchange", "come", "[I", true)
def tyX2 : Nat → FieldType := fun k => match k with
  | 0 => .int
  | 1 => .long
  | 2 => .array .int
  | _ => .array .int
abbrev wsX20 : List Cond := u_ws RX2 TX2 4
theorem nmX2 : ∀ a, a < 4 → ∀ b, b < 4 → a ≠ b → (TX2 a).2.1 ≠ (TX2 b).2.1 := by decide +kernel
theorem tyX2_ok : ∀ k, k < 4 → parseFieldDescriptor (TX2 k).2.2.1 = some (tyX2 k) := by decide +kernel
abbrev cX2_init : ByteArray := prog_4_method_1_code
def yX2_init : MethodName := ⟨RX2, "<init>", "()V"⟩
abbrev cX2_begin : ByteArray := prog_4_method_2_code
def yX2_begin : MethodName := ⟨RX2, "begin", "(J)V"⟩
abbrev cX2_plan : ByteArray := prog_4_method_3_code
def yX2_plan : MethodName := ⟨RX2, "plan", "(II)V"⟩
abbrev cX2_applyTo : ByteArray := prog_4_method_4_code
def yX2_applyTo : MethodName := ⟨RX2, "applyTo", "(LTripleTrains$Board;)I"⟩
def RX3 : String := "TripleTrains$History"
def TX3 : u_T := fun k => match k with
  | 0 => ("TripleTrains$History", "depth", "I", false)
  | 1 => ("TripleTrains$History", "past", "[LTripleTrains$Snapshot;", true)
  | 2 => ("TripleTrains$History", "saved", "LTripleTrains$Snapshot;", true)
  | _ => ("TripleTrains$History", "isSaved", "Z", false)
def tyX3 : Nat → FieldType := fun k => match k with
  | 0 => .int
  | 1 => .array (.object "TripleTrains$Snapshot")
  | 2 => .object "TripleTrains$Snapshot"
  | _ => .boolean
abbrev wsX30 : List Cond := u_ws RX3 TX3 4
theorem nmX3 : ∀ a, a < 4 → ∀ b, b < 4 → a ≠ b → (TX3 a).2.1 ≠ (TX3 b).2.1 := by decide +kernel
theorem tyX3_ok : ∀ k, k < 4 → parseFieldDescriptor (TX3 k).2.2.1 = some (tyX3 k) := by decide +kernel
abbrev cX3_init : ByteArray := prog_5_method_1_code
def yX3_init : MethodName := ⟨RX3, "<init>", "()V"⟩
abbrev cX3_push : ByteArray := prog_5_method_2_code
def yX3_push : MethodName := ⟨RX3, "push", "(LTripleTrains$Board;LTripleTrains$Tally;)V"⟩
abbrev cX3_forgetOldest : ByteArray := prog_5_method_3_code
def yX3_forgetOldest : MethodName := ⟨RX3, "forgetOldest", "()V"⟩
abbrev cX3_takeBack : ByteArray := prog_5_method_4_code
def yX3_takeBack : MethodName := ⟨RX3, "takeBack", "(LTripleTrains$Board;LTripleTrains$Tally;)Z"⟩
abbrev cX3_save : ByteArray := prog_5_method_5_code
def yX3_save : MethodName := ⟨RX3, "save", "(LTripleTrains$Board;LTripleTrains$Tally;)V"⟩
abbrev cX3_restore : ByteArray := prog_5_method_6_code
def yX3_restore : MethodName := ⟨RX3, "restore", "(LTripleTrains$Board;LTripleTrains$Tally;)Z"⟩
abbrev cX3_forgetAll : ByteArray := prog_5_method_7_code
def yX3_forgetAll : MethodName := ⟨RX3, "forgetAll", "()V"⟩
def RX4 : String := "TripleTrains$Quads"
def TX4 : u_T := fun k => match k with
  | 0 => ("TripleTrains$Quads", "size", "I", false)
  | 1 => ("TripleTrains$Quads", "masks", "[J", true)
  | _ => ("TripleTrains$Quads", "unions", "[I", true)
def tyX4 : Nat → FieldType := fun k => match k with
  | 0 => .int
  | 1 => .array .long
  | _ => .array .int
abbrev wsX40 : List Cond := u_ws RX4 TX4 3
theorem nmX4 : ∀ a, a < 3 → ∀ b, b < 3 → a ≠ b → (TX4 a).2.1 ≠ (TX4 b).2.1 := by decide +kernel
theorem tyX4_ok : ∀ k, k < 3 → parseFieldDescriptor (TX4 k).2.2.1 = some (tyX4 k) := by decide +kernel
abbrev cX4_init : ByteArray := prog_6_method_1_code
def yX4_init : MethodName := ⟨RX4, "<init>", "()V"⟩
abbrev cX4_gather : ByteArray := prog_6_method_2_code
def yX4_gather : MethodName := ⟨RX4, "gather", "(LTripleTrains$Board;)V"⟩
abbrev cX4_keep : ByteArray := prog_6_method_3_code
def yX4_keep : MethodName := ⟨RX4, "keep", "(IIIII)V"⟩
abbrev cX4_tripleOf : ByteArray := prog_6_method_4_code
def yX4_tripleOf : MethodName := ⟨RX4, "tripleOf", "(II)I"⟩
abbrev cX4_pointsOf : ByteArray := prog_6_method_5_code
def yX4_pointsOf : MethodName := ⟨RX4, "pointsOf", "(I)I"⟩
abbrev cX4_oppositeOf : ByteArray := prog_6_method_6_code
def yX4_oppositeOf : MethodName := ⟨RX4, "oppositeOf", "(LTripleTrains$Board;II)I"⟩
abbrev cX4_holdingPoint : ByteArray := prog_6_method_7_code
def yX4_holdingPoint : MethodName := ⟨RX4, "holdingPoint", "(I)I"⟩
abbrev cX4_holdingAny : ByteArray := prog_6_method_8_code
def yX4_holdingAny : MethodName := ⟨RX4, "holdingAny", "(J)I"⟩
abbrev cX4_maskOf : ByteArray := prog_6_method_9_code
def yX4_maskOf : MethodName := ⟨RX4, "maskOf", "(I)J"⟩
abbrev cX4_hasMask : ByteArray := prog_6_method_10_code
def yX4_hasMask : MethodName := ⟨RX4, "hasMask", "(J)Z"⟩
abbrev cX4_planSwitch : ByteArray := prog_6_method_11_code
def yX4_planSwitch : MethodName := ⟨RX4, "planSwitch", "(LTripleTrains$Board;ILTripleTrains$Exchange;)V"⟩
abbrev cX4_countWith : ByteArray := prog_6_method_12_code
def yX4_countWith : MethodName := ⟨RX4, "countWith", "(LTripleTrains$Board;I)I"⟩
def RX5 : String := "TripleTrains$Sets"
def TX5 : u_T := fun k => match k with
  | _ => ("", "", "", false)
def tyX5 : Nat → FieldType := fun k => match k with
  | _ => .int
abbrev wsX50 : List Cond := u_ws RX5 TX5 0
theorem nmX5 : ∀ a, a < 0 → ∀ b, b < 0 → a ≠ b → (TX5 a).2.1 ≠ (TX5 b).2.1 := by decide +kernel
theorem tyX5_ok : ∀ k, k < 0 → parseFieldDescriptor (TX5 k).2.2.1 = some (tyX5 k) := by decide +kernel
abbrev cX5_three : ByteArray := prog_7_method_2_code
def yX5_three : MethodName := ⟨RX5, "three", "(III)I"⟩
abbrev cX5_has : ByteArray := prog_7_method_3_code
def yX5_has : MethodName := ⟨RX5, "has", "(II)Z"⟩
abbrev cX5_member : ByteArray := prog_7_method_4_code
def yX5_member : MethodName := ⟨RX5, "member", "(II)I"⟩
abbrev cX5_turned : ByteArray := prog_7_method_5_code
def yX5_turned : MethodName := ⟨RX5, "turned", "(III)I"⟩
abbrev cX5_exchanged : ByteArray := prog_7_method_6_code
def yX5_exchanged : MethodName := ⟨RX5, "exchanged", "(III)I"⟩
abbrev cX5_digits : ByteArray := prog_7_method_7_code
def yX5_digits : MethodName := ⟨RX5, "digits", "(I)I"⟩
def RX6 : String := "TripleTrains$SetupText"
def TX6 : u_T := fun k => match k with
  | 0 => ("TripleTrains$SetupText", "length", "I", false)
  | 1 => ("TripleTrains$SetupText", "code", "I", false)
  | 2 => ("TripleTrains$SetupText", "offset", "I", false)
  | 3 => ("TripleTrains$SetupText", "bytes", "[B", true)
  | 4 => ("TripleTrains$SetupText", "at", "I", false)
  | 5 => ("TripleTrains$SetupText", "kind", "I", false)
  | 6 => ("TripleTrains$SetupText", "start", "I", false)
  | _ => ("TripleTrains$SetupText", "value", "I", false)
def tyX6 : Nat → FieldType := fun k => match k with
  | 0 => .int
  | 1 => .int
  | 2 => .int
  | 3 => .array .byte
  | 4 => .int
  | 5 => .int
  | 6 => .int
  | _ => .int
abbrev wsX60 : List Cond := u_ws RX6 TX6 8
theorem nmX6 : ∀ a, a < 8 → ∀ b, b < 8 → a ≠ b → (TX6 a).2.1 ≠ (TX6 b).2.1 := by decide +kernel
theorem tyX6_ok : ∀ k, k < 8 → parseFieldDescriptor (TX6 k).2.2.1 = some (tyX6 k) := by decide +kernel
abbrev cX6_init : ByteArray := prog_8_method_1_code
def yX6_init : MethodName := ⟨RX6, "<init>", "()V"⟩
abbrev cX6_hasRoom : ByteArray := prog_8_method_2_code
def yX6_hasRoom : MethodName := ⟨RX6, "hasRoom", "()Z"⟩
abbrev cX6_append : ByteArray := prog_8_method_3_code
def yX6_append : MethodName := ⟨RX6, "append", "(I)V"⟩
abbrev cX6_read : ByteArray := prog_8_method_4_code
def yX6_read : MethodName := ⟨RX6, "read", "(LTripleTrains$Board;)Z"⟩
abbrev cX6_readPoints : ByteArray := prog_8_method_5_code
def yX6_readPoints : MethodName := ⟨RX6, "readPoints", "(LTripleTrains$Board;)Z"⟩
abbrev cX6_readStatement : ByteArray := prog_8_method_6_code
def yX6_readStatement : MethodName := ⟨RX6, "readStatement", "(LTripleTrains$Board;)Z"⟩
abbrev cX6_fail : ByteArray := prog_8_method_7_code
def yX6_fail : MethodName := ⟨RX6, "fail", "(I)Z"⟩
abbrev cX6_advance : ByteArray := prog_8_method_8_code
def yX6_advance : MethodName := ⟨RX6, "advance", "()V"⟩
abbrev cX6_readWord : ByteArray := prog_8_method_9_code
def yX6_readWord : MethodName := ⟨RX6, "readWord", "()V"⟩
abbrev cX6_readNumber : ByteArray := prog_8_method_10_code
def yX6_readNumber : MethodName := ⟨RX6, "readNumber", "()V"⟩
abbrev cX6_isWord : ByteArray := prog_8_method_11_code
def yX6_isWord : MethodName := ⟨RX6, "isWord", "(Ljava/lang/String;)Z"⟩
abbrev cX6_byteAt : ByteArray := prog_8_method_12_code
def yX6_byteAt : MethodName := ⟨RX6, "byteAt", "(I)I"⟩
abbrev cX6_isLetter : ByteArray := prog_8_method_13_code
def yX6_isLetter : MethodName := ⟨RX6, "isLetter", "(I)Z"⟩
abbrev cX6_isDigit : ByteArray := prog_8_method_14_code
def yX6_isDigit : MethodName := ⟨RX6, "isDigit", "(I)Z"⟩
def RX7 : String := "TripleTrains$Snapshot"
def TX7 : u_T := fun k => match k with
  | 0 => ("TripleTrains$Snapshot", "points", "I", false)
  | 1 => ("TripleTrains$Snapshot", "size", "I", false)
  | 2 => ("TripleTrains$Snapshot", "sets", "[I", true)
  | _ => ("TripleTrains$Snapshot", "tally", "LTripleTrains$Tally;", true)
def tyX7 : Nat → FieldType := fun k => match k with
  | 0 => .int
  | 1 => .int
  | 2 => .array .int
  | _ => .object "TripleTrains$Tally"
abbrev wsX70 : List Cond := u_ws RX7 TX7 4
theorem nmX7 : ∀ a, a < 4 → ∀ b, b < 4 → a ≠ b → (TX7 a).2.1 ≠ (TX7 b).2.1 := by decide +kernel
theorem tyX7_ok : ∀ k, k < 4 → parseFieldDescriptor (TX7 k).2.2.1 = some (tyX7 k) := by decide +kernel
abbrev cX7_init : ByteArray := prog_9_method_1_code
def yX7_init : MethodName := ⟨RX7, "<init>", "()V"⟩
abbrev cX7_keep : ByteArray := prog_9_method_2_code
def yX7_keep : MethodName := ⟨RX7, "keep", "(LTripleTrains$Board;LTripleTrains$Tally;)V"⟩
abbrev cX7_giveBack : ByteArray := prog_9_method_3_code
def yX7_giveBack : MethodName := ⟨RX7, "giveBack", "(LTripleTrains$Board;LTripleTrains$Tally;)V"⟩
def RX8 : String := "TripleTrains$Tally"
def TX8 : u_T := fun k => match k with
  | 0 => ("TripleTrains$Tally", "quads", "I", false)
  | 1 => ("TripleTrains$Tally", "cycles", "I", false)
  | _ => ("TripleTrains$Tally", "replaced", "I", false)
def tyX8 : Nat → FieldType := fun k => match k with
  | 0 => .int
  | 1 => .int
  | _ => .int
abbrev wsX80 : List Cond := u_ws RX8 TX8 3
theorem nmX8 : ∀ a, a < 3 → ∀ b, b < 3 → a ≠ b → (TX8 a).2.1 ≠ (TX8 b).2.1 := by decide +kernel
theorem tyX8_ok : ∀ k, k < 3 → parseFieldDescriptor (TX8 k).2.2.1 = some (tyX8 k) := by decide +kernel
abbrev cX8_init : ByteArray := prog_10_method_1_code
def yX8_init : MethodName := ⟨RX8, "<init>", "()V"⟩
abbrev cX8_reset : ByteArray := prog_10_method_2_code
def yX8_reset : MethodName := ⟨RX8, "reset", "()V"⟩
abbrev cX8_copy : ByteArray := prog_10_method_3_code
def yX8_copy : MethodName := ⟨RX8, "copy", "(LTripleTrains$Tally;)V"⟩
def RX9 : String := "TripleTrains$Trades"
def TX9 : u_T := fun k => match k with
  | 0 => ("TripleTrains$Trades", "size", "I", false)
  | _ => ("TripleTrains$Trades", "masks", "[J", true)
def tyX9 : Nat → FieldType := fun k => match k with
  | 0 => .int
  | _ => .array .long
abbrev wsX90 : List Cond := u_ws RX9 TX9 2
theorem nmX9 : ∀ a, a < 2 → ∀ b, b < 2 → a ≠ b → (TX9 a).2.1 ≠ (TX9 b).2.1 := by decide +kernel
theorem tyX9_ok : ∀ k, k < 2 → parseFieldDescriptor (TX9 k).2.2.1 = some (tyX9 k) := by decide +kernel
abbrev cX9_init : ByteArray := prog_11_method_1_code
def yX9_init : MethodName := ⟨RX9, "<init>", "()V"⟩
abbrev cX9_gather : ByteArray := prog_11_method_2_code
def yX9_gather : MethodName := ⟨RX9, "gather", "(LTripleTrains$Board;LTripleTrains$Cycles;I)V"⟩
abbrev cX9_gatherAmong : ByteArray := prog_11_method_3_code
def yX9_gatherAmong : MethodName := ⟨RX9, "gatherAmong", "(LTripleTrains$Cycles;I)V"⟩
abbrev cX9_insert : ByteArray := prog_11_method_4_code
def yX9_insert : MethodName := ⟨RX9, "insert", "(J)V"⟩
abbrev cX9_maskAt : ByteArray := prog_11_method_5_code
def yX9_maskAt : MethodName := ⟨RX9, "maskAt", "(I)J"⟩
def RX10 : String := "TripleTrains$Trains"
def TX10 : u_T := fun k => match k with
  | 0 => ("TripleTrains$Trains", "size", "I", false)
  | 1 => ("TripleTrains$Trains", "nexts", "[I", true)
  | 2 => ("TripleTrains$Trains", "arrivals", "[I", true)
  | _ => ("TripleTrains$Trains", "marks", "[I", true)
def tyX10 : Nat → FieldType := fun k => match k with
  | 0 => .int
  | 1 => .array .int
  | 2 => .array .int
  | _ => .array .int
abbrev wsX100 : List Cond := u_ws RX10 TX10 4
theorem nmX10 : ∀ a, a < 4 → ∀ b, b < 4 → a ≠ b → (TX10 a).2.1 ≠ (TX10 b).2.1 := by decide +kernel
theorem tyX10_ok : ∀ k, k < 4 → parseFieldDescriptor (TX10 k).2.2.1 = some (tyX10 k) := by decide +kernel
abbrev cX10_init : ByteArray := prog_12_method_1_code
def yX10_init : MethodName := ⟨RX10, "<init>", "()V"⟩
abbrev cX10_gather : ByteArray := prog_12_method_2_code
def yX10_gather : MethodName := ⟨RX10, "gather", "(LTripleTrains$Board;)V"⟩
abbrev cX10_lead : ByteArray := prog_12_method_3_code
def yX10_lead : MethodName := ⟨RX10, "lead", "(I)V"⟩
abbrev cX10_rankOf : ByteArray := prog_12_method_4_code
def yX10_rankOf : MethodName := ⟨RX10, "rankOf", "(I)I"⟩
abbrev cX10_arrivalsAt : ByteArray := prog_12_method_5_code
def yX10_arrivalsAt : MethodName := ⟨RX10, "arrivalsAt", "(I)I"⟩
abbrev cX10_nextOf : ByteArray := prog_12_method_6_code
def yX10_nextOf : MethodName := ⟨RX10, "nextOf", "(I)I"⟩
abbrev cX10_markOf : ByteArray := prog_12_method_7_code
def yX10_markOf : MethodName := ⟨RX10, "markOf", "(I)I"⟩
abbrev cX10_mark : ByteArray := prog_12_method_8_code
def yX10_mark : MethodName := ⟨RX10, "mark", "(II)V"⟩
abbrev cX10_roundFrom : ByteArray := prog_12_method_9_code
def yX10_roundFrom : MethodName := ⟨RX10, "roundFrom", "(I)I"⟩
abbrev cX10_tailFrom : ByteArray := prog_12_method_10_code
def yX10_tailFrom : MethodName := ⟨RX10, "tailFrom", "(I)I"⟩
abbrev cX10_setsWithArrivals : ByteArray := prog_12_method_11_code
def yX10_setsWithArrivals : MethodName := ⟨RX10, "setsWithArrivals", "(I)I"⟩
abbrev cX10_countRounds : ByteArray := prog_12_method_12_code
def yX10_countRounds : MethodName := ⟨RX10, "countRounds", "()I"⟩
abbrev cX10_endsOnItself : ByteArray := prog_12_method_13_code
def yX10_endsOnItself : MethodName := ⟨RX10, "endsOnItself", "(II)Z"⟩
def RX11 : String := "TripleTrains"
def TX11 : u_T := fun k => match k with
  | 0 => ("TripleTrains", "text", "LTripleTrains$SetupText;", true)
  | 1 => ("TripleTrains", "board", "LTripleTrains$Board;", true)
  | 2 => ("TripleTrains", "spare", "LTripleTrains$Board;", true)
  | 3 => ("TripleTrains", "tally", "LTripleTrains$Tally;", true)
  | 4 => ("TripleTrains", "history", "LTripleTrains$History;", true)
  | 5 => ("TripleTrains", "quads", "LTripleTrains$Quads;", true)
  | 6 => ("TripleTrains", "around", "LTripleTrains$Cycles;", true)
  | 7 => ("TripleTrains", "traded", "LTripleTrains$Trades;", true)
  | 8 => ("TripleTrains", "trains", "LTripleTrains$Trains;", true)
  | 9 => ("TripleTrains", "exchange", "LTripleTrains$Exchange;", true)
  | 10 => ("TripleTrains", "output", "[B", true)
  | _ => ("TripleTrains", "outputLength", "I", false)
def tyX11 : Nat → FieldType := fun k => match k with
  | 0 => .object "TripleTrains$SetupText"
  | 1 => .object "TripleTrains$Board"
  | 2 => .object "TripleTrains$Board"
  | 3 => .object "TripleTrains$Tally"
  | 4 => .object "TripleTrains$History"
  | 5 => .object "TripleTrains$Quads"
  | 6 => .object "TripleTrains$Cycles"
  | 7 => .object "TripleTrains$Trades"
  | 8 => .object "TripleTrains$Trains"
  | 9 => .object "TripleTrains$Exchange"
  | 10 => .array .byte
  | _ => .int
abbrev wsX110 : List Cond := u_ws RX11 TX11 12
theorem nmX11 : ∀ a, a < 12 → ∀ b, b < 12 → a ≠ b → (TX11 a).2.1 ≠ (TX11 b).2.1 := by decide +kernel
theorem tyX11_ok : ∀ k, k < 12 → parseFieldDescriptor (TX11 k).2.2.1 = some (tyX11 k) := by decide +kernel
abbrev cX11_init : ByteArray := prog_1_method_1_code
def yX11_init : MethodName := ⟨RX11, "<init>", "()V"⟩
abbrev cX11_appendInput : ByteArray := prog_1_method_2_code
def yX11_appendInput : MethodName := ⟨RX11, "appendInput", "(IIIII)I"⟩
abbrev cX11_truncateInput : ByteArray := prog_1_method_3_code
def yX11_truncateInput : MethodName := ⟨RX11, "truncateInput", "(I)Z"⟩
abbrev cX11_loadSystem : ByteArray := prog_1_method_4_code
def yX11_loadSystem : MethodName := ⟨RX11, "loadSystem", "()I"⟩
abbrev cX11_errorCode : ByteArray := prog_1_method_5_code
def yX11_errorCode : MethodName := ⟨RX11, "errorCode", "()I"⟩
abbrev cX11_errorOffset : ByteArray := prog_1_method_6_code
def yX11_errorOffset : MethodName := ⟨RX11, "errorOffset", "()I"⟩
abbrev cX11_count : ByteArray := prog_1_method_7_code
def yX11_count : MethodName := ⟨RX11, "count", "(I)I"⟩
abbrev cX11_isComplete : ByteArray := prog_1_method_8_code
def yX11_isComplete : MethodName := ⟨RX11, "isComplete", "()Z"⟩
abbrev cX11_triple : ByteArray := prog_1_method_9_code
def yX11_triple : MethodName := ⟨RX11, "triple", "(II)I"⟩
abbrev cX11_find : ByteArray := prog_1_method_10_code
def yX11_find : MethodName := ⟨RX11, "find", "(III)I"⟩
abbrev cX11_third : ByteArray := prog_1_method_11_code
def yX11_third : MethodName := ⟨RX11, "third", "(II)I"⟩
abbrev cX11_degree : ByteArray := prog_1_method_12_code
def yX11_degree : MethodName := ⟨RX11, "degree", "(I)I"⟩
abbrev cX11_uncovered : ByteArray := prog_1_method_13_code
def yX11_uncovered : MethodName := ⟨RX11, "uncovered", "(I)I"⟩
abbrev cX11_reason : ByteArray := prog_1_method_14_code
def yX11_reason : MethodName := ⟨RX11, "reason", "(III)I"⟩
abbrev cX11_add : ByteArray := prog_1_method_15_code
def yX11_add : MethodName := ⟨RX11, "add", "(III)I"⟩
abbrev cX11_remove : ByteArray := prog_1_method_16_code
def yX11_remove : MethodName := ⟨RX11, "remove", "(I)I"⟩
abbrev cX11_develop : ByteArray := prog_1_method_17_code
def yX11_develop : MethodName := ⟨RX11, "develop", "(III)I"⟩
abbrev cX11_fill : ByteArray := prog_1_method_18_code
def yX11_fill : MethodName := ⟨RX11, "fill", "()I"⟩
abbrev cX11_completions : ByteArray := prog_1_method_19_code
def yX11_completions : MethodName := ⟨RX11, "completions", "()I"⟩
abbrev cX11_tightest : ByteArray := prog_1_method_20_code
def yX11_tightest : MethodName := ⟨RX11, "tightest", "()I"⟩
abbrev cX11_quad : ByteArray := prog_1_method_21_code
def yX11_quad : MethodName := ⟨RX11, "quad", "(II)I"⟩
abbrev cX11_opposite : ByteArray := prog_1_method_22_code
def yX11_opposite : MethodName := ⟨RX11, "opposite", "(II)I"⟩
abbrev cX11_quadsAt : ByteArray := prog_1_method_23_code
def yX11_quadsAt : MethodName := ⟨RX11, "quadsAt", "(I)I"⟩
abbrev cX11_quadsOf : ByteArray := prog_1_method_24_code
def yX11_quadsOf : MethodName := ⟨RX11, "quadsOf", "(I)I"⟩
abbrev cX11_switchQuad : ByteArray := prog_1_method_25_code
def yX11_switchQuad : MethodName := ⟨RX11, "switchQuad", "(I)I"⟩
abbrev cX11_wouldHave : ByteArray := prog_1_method_26_code
def yX11_wouldHave : MethodName := ⟨RX11, "wouldHave", "(I)I"⟩
abbrev cX11_bestSwitch : ByteArray := prog_1_method_27_code
def yX11_bestSwitch : MethodName := ⟨RX11, "bestSwitch", "(Z)I"⟩
abbrev cX11_descend : ByteArray := prog_1_method_28_code
def yX11_descend : MethodName := ⟨RX11, "descend", "(I)I"⟩
abbrev cX11_cycles : ByteArray := prog_1_method_29_code
def yX11_cycles : MethodName := ⟨RX11, "cycles", "(II)I"⟩
abbrev cX11_cycleLength : ByteArray := prog_1_method_30_code
def yX11_cycleLength : MethodName := ⟨RX11, "cycleLength", "(III)I"⟩
abbrev cX11_cyclePoint : ByteArray := prog_1_method_31_code
def yX11_cyclePoint : MethodName := ⟨RX11, "cyclePoint", "(IIII)I"⟩
abbrev cX11_switchCycle : ByteArray := prog_1_method_32_code
def yX11_switchCycle : MethodName := ⟨RX11, "switchCycle", "(III)I"⟩
abbrev cX11_wouldHaveBy : ByteArray := prog_1_method_33_code
def yX11_wouldHaveBy : MethodName := ⟨RX11, "wouldHaveBy", "(III)I"⟩
abbrev cX11_cyclesOf : ByteArray := prog_1_method_34_code
def yX11_cyclesOf : MethodName := ⟨RX11, "cyclesOf", "(I)I"⟩
abbrev cX11_trades : ByteArray := prog_1_method_35_code
def yX11_trades : MethodName := ⟨RX11, "trades", "(I)I"⟩
abbrev cX11_trade : ByteArray := prog_1_method_36_code
def yX11_trade : MethodName := ⟨RX11, "trade", "(II)J"⟩
abbrev cX11_perfectPairs : ByteArray := prog_1_method_37_code
def yX11_perfectPairs : MethodName := ⟨RX11, "perfectPairs", "()I"⟩
abbrev cX11_agrees : ByteArray := prog_1_method_38_code
def yX11_agrees : MethodName := ⟨RX11, "agrees", "()Z"⟩
abbrev cX11_train : ByteArray := prog_1_method_39_code
def yX11_train : MethodName := ⟨RX11, "train", "(III)I"⟩
abbrev cX11_trainsTo : ByteArray := prog_1_method_40_code
def yX11_trainsTo : MethodName := ⟨RX11, "trainsTo", "(III)I"⟩
abbrev cX11_tail : ByteArray := prog_1_method_41_code
def yX11_tail : MethodName := ⟨RX11, "tail", "(III)I"⟩
abbrev cX11_roundOf : ByteArray := prog_1_method_42_code
def yX11_roundOf : MethodName := ⟨RX11, "roundOf", "(III)I"⟩
abbrev cX11_trainProfile : ByteArray := prog_1_method_43_code
def yX11_trainProfile : MethodName := ⟨RX11, "trainProfile", "(I)I"⟩
abbrev cX11_rounds : ByteArray := prog_1_method_44_code
def yX11_rounds : MethodName := ⟨RX11, "rounds", "()I"⟩
abbrev cX11_isTurned : ByteArray := prog_1_method_45_code
def yX11_isTurned : MethodName := ⟨RX11, "isTurned", "(I)Z"⟩
abbrev cX11_leastTurn : ByteArray := prog_1_method_46_code
def yX11_leastTurn : MethodName := ⟨RX11, "leastTurn", "()I"⟩
abbrev cX11_orbits : ByteArray := prog_1_method_47_code
def yX11_orbits : MethodName := ⟨RX11, "orbits", "()I"⟩
abbrev cX11_turn : ByteArray := prog_1_method_48_code
def yX11_turn : MethodName := ⟨RX11, "turn", "(I)I"⟩
abbrev cX11_meanQuads : ByteArray := prog_1_method_49_code
def yX11_meanQuads : MethodName := ⟨RX11, "meanQuads", "()D"⟩
abbrev cX11_coverage : ByteArray := prog_1_method_50_code
def yX11_coverage : MethodName := ⟨RX11, "coverage", "()F"⟩
abbrev cX11_closure : ByteArray := prog_1_method_51_code
def yX11_closure : MethodName := ⟨RX11, "closure", "(I)I"⟩
abbrev cX11_subsystems : ByteArray := prog_1_method_52_code
def yX11_subsystems : MethodName := ⟨RX11, "subsystems", "()I"⟩
abbrev cX11_independent : ByteArray := prog_1_method_53_code
def yX11_independent : MethodName := ⟨RX11, "independent", "()I"⟩
abbrev cX11_apart : ByteArray := prog_1_method_54_code
def yX11_apart : MethodName := ⟨RX11, "apart", "(I)I"⟩
abbrev cX11_mostApart : ByteArray := prog_1_method_55_code
def yX11_mostApart : MethodName := ⟨RX11, "mostApart", "()I"⟩
abbrev cX11_swap : ByteArray := prog_1_method_56_code
def yX11_swap : MethodName := ⟨RX11, "swap", "(II)I"⟩
abbrev cX11_clear : ByteArray := prog_1_method_57_code
def yX11_clear : MethodName := ⟨RX11, "clear", "(I)I"⟩
abbrev cX11_inTheWay : ByteArray := prog_1_method_58_code
def yX11_inTheWay : MethodName := ⟨RX11, "inTheWay", "(III)I"⟩
abbrev cX11_force : ByteArray := prog_1_method_59_code
def yX11_force : MethodName := ⟨RX11, "force", "(III)I"⟩
abbrev cX11_printAt : ByteArray := prog_1_method_60_code
def yX11_printAt : MethodName := ⟨RX11, "printAt", "(I)I"⟩
abbrev cX11_outputByte : ByteArray := prog_1_method_61_code
def yX11_outputByte : MethodName := ⟨RX11, "outputByte", "(I)I"⟩
abbrev cX11_undo : ByteArray := prog_1_method_62_code
def yX11_undo : MethodName := ⟨RX11, "undo", "()I"⟩
abbrev cX11_saveState : ByteArray := prog_1_method_63_code
def yX11_saveState : MethodName := ⟨RX11, "saveState", "()I"⟩
abbrev cX11_restoreState : ByteArray := prog_1_method_64_code
def yX11_restoreState : MethodName := ⟨RX11, "restoreState", "()I"⟩
abbrev cX11_requirePoint : ByteArray := prog_1_method_65_code
def yX11_requirePoint : MethodName := ⟨RX11, "requirePoint", "(I)V"⟩
abbrev cX11_requireTwo : ByteArray := prog_1_method_66_code
def yX11_requireTwo : MethodName := ⟨RX11, "requireTwo", "(II)V"⟩
abbrev cX11_requireThree : ByteArray := prog_1_method_67_code
def yX11_requireThree : MethodName := ⟨RX11, "requireThree", "(III)V"⟩
abbrev cX11_requireTriple : ByteArray := prog_1_method_68_code
def yX11_requireTriple : MethodName := ⟨RX11, "requireTriple", "(I)V"⟩
abbrev cX11_requireQuad : ByteArray := prog_1_method_69_code
def yX11_requireQuad : MethodName := ⟨RX11, "requireQuad", "(I)V"⟩
abbrev cX11_requireCycle : ByteArray := prog_1_method_70_code
def yX11_requireCycle : MethodName := ⟨RX11, "requireCycle", "(III)V"⟩
abbrev cX11_requireComplete : ByteArray := prog_1_method_71_code
def yX11_requireComplete : MethodName := ⟨RX11, "requireComplete", "()V"⟩
abbrev cX11_requireTrain : ByteArray := prog_1_method_72_code
def yX11_requireTrain : MethodName := ⟨RX11, "requireTrain", "(III)V"⟩
abbrev cX11_remember : ByteArray := prog_1_method_73_code
def yX11_remember : MethodName := ⟨RX11, "remember", "()V"⟩
abbrev cX11_settle : ByteArray := prog_1_method_74_code
def yX11_settle : MethodName := ⟨RX11, "settle", "()V"⟩
abbrev cX11_exchangeQuad : ByteArray := prog_1_method_75_code
def yX11_exchangeQuad : MethodName := ⟨RX11, "exchangeQuad", "(I)V"⟩
abbrev cX11_quadsBehindSwitchOf : ByteArray := prog_1_method_76_code
def yX11_quadsBehindSwitchOf : MethodName := ⟨RX11, "quadsBehindSwitchOf", "(I)I"⟩
abbrev cX11_quadsBehindExchange : ByteArray := prog_1_method_77_code
def yX11_quadsBehindExchange : MethodName := ⟨RX11, "quadsBehindExchange", "()I"⟩
abbrev cX11_isPerfect : ByteArray := prog_1_method_78_code
def yX11_isPerfect : MethodName := ⟨RX11, "isPerfect", "(II)Z"⟩
abbrev cX11_writeTriple : ByteArray := prog_1_method_79_code
def yX11_writeTriple : MethodName := ⟨RX11, "writeTriple", "(I)V"⟩
abbrev cX11_write : ByteArray := prog_1_method_80_code
def yX11_write : MethodName := ⟨RX11, "write", "(I)V"⟩
abbrev cX11_completionsOf : ByteArray := prog_1_method_81_code
def yX11_completionsOf : MethodName := ⟨RX11, "completionsOf", "(LTripleTrains$Board;I)I"⟩
abbrev cX11_mostApartFrom : ByteArray := prog_1_method_82_code
def yX11_mostApartFrom : MethodName := ⟨RX11, "mostApartFrom", "(LTripleTrains$Board;III)I"⟩
def RX12 : String := "TripleTrainsModel"
def TX12 : u_T := fun k => match k with
  | 0 => ("TripleTrainsModel", "w", "[I", true)
  | 1 => ("TripleTrainsModel", "wKept", "[I", true)
  | 2 => ("TripleTrainsModel", "aside", "[I", true)
  | 3 => ("TripleTrainsModel", "savedRow", "[I", true)
  | 4 => ("TripleTrainsModel", "past", "[I", true)
  | 5 => ("TripleTrainsModel", "pastMany", "I", false)
  | 6 => ("TripleTrainsModel", "isSaved", "Z", false)
  | 7 => ("TripleTrainsModel", "thrown", "I", false)
  | 8 => ("TripleTrainsModel", "one", "[I", true)
  | 9 => ("TripleTrainsModel", "two", "[I", true)
  | 10 => ("TripleTrainsModel", "three", "[I", true)
  | 11 => ("TripleTrainsModel", "masks", "[I", true)
  | 12 => ("TripleTrainsModel", "many", "I", false)
  | 13 => ("TripleTrainsModel", "quads", "[I", true)
  | 14 => ("TripleTrainsModel", "quadMany", "I", false)
  | 15 => ("TripleTrainsModel", "replaced", "[I", true)
  | 16 => ("TripleTrainsModel", "row", "[I", true)
  | 17 => ("TripleTrainsModel", "rowMany", "I", false)
  | 18 => ("TripleTrainsModel", "trades", "[J", true)
  | 19 => ("TripleTrainsModel", "tradeMany", "I", false)
  | 20 => ("TripleTrainsModel", "input", "[I", true)
  | 21 => ("TripleTrainsModel", "inputMany", "I", false)
  | 22 => ("TripleTrainsModel", "lastError", "I", false)
  | 23 => ("TripleTrainsModel", "lastOffset", "I", false)
  | 24 => ("TripleTrainsModel", "error", "I", false)
  | 25 => ("TripleTrainsModel", "offset", "I", false)
  | 26 => ("TripleTrainsModel", "nextByte", "I", false)
  | 27 => ("TripleTrainsModel", "begin", "I", false)
  | 28 => ("TripleTrainsModel", "value", "I", false)
  | 29 => ("TripleTrainsModel", "token", "I", false)
  | 30 => ("TripleTrainsModel", "read", "[I", true)
  | 31 => ("TripleTrainsModel", "output", "[I", true)
  | _ => ("TripleTrainsModel", "outputMany", "I", false)
def tyX12 : Nat → FieldType := fun k => match k with
  | 0 => .array .int
  | 1 => .array .int
  | 2 => .array .int
  | 3 => .array .int
  | 4 => .array .int
  | 5 => .int
  | 6 => .boolean
  | 7 => .int
  | 8 => .array .int
  | 9 => .array .int
  | 10 => .array .int
  | 11 => .array .int
  | 12 => .int
  | 13 => .array .int
  | 14 => .int
  | 15 => .array .int
  | 16 => .array .int
  | 17 => .int
  | 18 => .array .long
  | 19 => .int
  | 20 => .array .int
  | 21 => .int
  | 22 => .int
  | 23 => .int
  | 24 => .int
  | 25 => .int
  | 26 => .int
  | 27 => .int
  | 28 => .int
  | 29 => .int
  | 30 => .array .int
  | 31 => .array .int
  | _ => .int
abbrev wsX120 : List Cond := u_ws RX12 TX12 33
theorem nmX12 : ∀ a, a < 33 → ∀ b, b < 33 → a ≠ b → (TX12 a).2.1 ≠ (TX12 b).2.1 := by decide +kernel
theorem tyX12_ok : ∀ k, k < 33 → parseFieldDescriptor (TX12 k).2.2.1 = some (tyX12 k) := by decide +kernel
abbrev cX12_init : ByteArray := prog_14_method_1_code
def yX12_init : MethodName := ⟨RX12, "<init>", "()V"⟩
abbrev cX12_thrown : ByteArray := prog_14_method_2_code
def yX12_thrown : MethodName := ⟨RX12, "thrown", "()I"⟩
abbrev cX12_inRange : ByteArray := prog_14_method_3_code
def yX12_inRange : MethodName := ⟨RX12, "inRange", "(III)Z"⟩
abbrev cX12_fails : ByteArray := prog_14_method_4_code
def yX12_fails : MethodName := ⟨RX12, "fails", "(ZI)Z"⟩
abbrev cX12_copies : ByteArray := prog_14_method_5_code
def yX12_copies : MethodName := ⟨RX12, "copies", "([II[III)V"⟩
abbrev cX12_empties : ByteArray := prog_14_method_6_code
def yX12_empties : MethodName := ⟨RX12, "empties", "(I)V"⟩
abbrev cX12_remembers : ByteArray := prog_14_method_7_code
def yX12_remembers : MethodName := ⟨RX12, "remembers", "()V"⟩
abbrev cX12_begins : ByteArray := prog_14_method_8_code
def yX12_begins : MethodName := ⟨RX12, "begins", "()V"⟩
abbrev cX12_ends : ByteArray := prog_14_method_9_code
def yX12_ends : MethodName := ⟨RX12, "ends", "()V"⟩
abbrev cX12_points : ByteArray := prog_14_method_10_code
def yX12_points : MethodName := ⟨RX12, "points", "()I"⟩
abbrev cX12_thirdOf : ByteArray := prog_14_method_11_code
def yX12_thirdOf : MethodName := ⟨RX12, "thirdOf", "(II)I"⟩
abbrev cX12_lays : ByteArray := prog_14_method_12_code
def yX12_lays : MethodName := ⟨RX12, "lays", "(III)V"⟩
abbrev cX12_puts : ByteArray := prog_14_method_13_code
def yX12_puts : MethodName := ⟨RX12, "puts", "(III)V"⟩
abbrev cX12_takes : ByteArray := prog_14_method_14_code
def yX12_takes : MethodName := ⟨RX12, "takes", "(III)V"⟩
abbrev cX12_coveredOf : ByteArray := prog_14_method_15_code
def yX12_coveredOf : MethodName := ⟨RX12, "coveredOf", "(II)I"⟩
abbrev cX12_coveredIn : ByteArray := prog_14_method_16_code
def yX12_coveredIn : MethodName := ⟨RX12, "coveredIn", "(III)I"⟩
abbrev cX12_isFree : ByteArray := prog_14_method_17_code
def yX12_isFree : MethodName := ⟨RX12, "isFree", "(III)Z"⟩
abbrev cX12_laysTriples : ByteArray := prog_14_method_18_code
def yX12_laysTriples : MethodName := ⟨RX12, "laysTriples", "()V"⟩
abbrev cX12_numberOf : ByteArray := prog_14_method_19_code
def yX12_numberOf : MethodName := ⟨RX12, "numberOf", "(I)I"⟩
abbrev cX12_triplesMany : ByteArray := prog_14_method_20_code
def yX12_triplesMany : MethodName := ⟨RX12, "triplesMany", "()I"⟩
abbrev cX12_pairsMany : ByteArray := prog_14_method_21_code
def yX12_pairsMany : MethodName := ⟨RX12, "pairsMany", "()I"⟩
abbrev cX12_uncoveredMany : ByteArray := prog_14_method_22_code
def yX12_uncoveredMany : MethodName := ⟨RX12, "uncoveredMany", "()I"⟩
abbrev cX12_laysQuads : ByteArray := prog_14_method_23_code
def yX12_laysQuads : MethodName := ⟨RX12, "laysQuads", "()V"⟩
abbrev cX12_addsQuad : ByteArray := prog_14_method_24_code
def yX12_addsQuad : MethodName := ⟨RX12, "addsQuad", "(IIII)V"⟩
abbrev cX12_quadPoints : ByteArray := prog_14_method_25_code
def yX12_quadPoints : MethodName := ⟨RX12, "quadPoints", "(I)I"⟩
abbrev cX12_oppositeOf : ByteArray := prog_14_method_26_code
def yX12_oppositeOf : MethodName := ⟨RX12, "oppositeOf", "(II)I"⟩
abbrev cX12_switchesQuad : ByteArray := prog_14_method_27_code
def yX12_switchesQuad : MethodName := ⟨RX12, "switchesQuad", "(I)V"⟩
abbrev cX12_isTriple : ByteArray := prog_14_method_28_code
def yX12_isTriple : MethodName := ⟨RX12, "isTriple", "(I)Z"⟩
abbrev cX12_quadsCounted : ByteArray := prog_14_method_29_code
def yX12_quadsCounted : MethodName := ⟨RX12, "quadsCounted", "()I"⟩
abbrev cX12_quadsBehind : ByteArray := prog_14_method_30_code
def yX12_quadsBehind : MethodName := ⟨RX12, "quadsBehind", "(I)I"⟩
abbrev cX12_bestQuad : ByteArray := prog_14_method_31_code
def yX12_bestQuad : MethodName := ⟨RX12, "bestQuad", "(Z)I"⟩
abbrev cX12_walks : ByteArray := prog_14_method_32_code
def yX12_walks : MethodName := ⟨RX12, "walks", "(III)Z"⟩
abbrev cX12_isCycleFrom : ByteArray := prog_14_method_33_code
def yX12_isCycleFrom : MethodName := ⟨RX12, "isCycleFrom", "(III)Z"⟩
abbrev cX12_cyclesMany : ByteArray := prog_14_method_34_code
def yX12_cyclesMany : MethodName := ⟨RX12, "cyclesMany", "(II)I"⟩
abbrev cX12_laysCycle : ByteArray := prog_14_method_35_code
def yX12_laysCycle : MethodName := ⟨RX12, "laysCycle", "(III)Z"⟩
abbrev cX12_replacedBy : ByteArray := prog_14_method_36_code
def yX12_replacedBy : MethodName := ⟨RX12, "replacedBy", "(II)J"⟩
abbrev cX12_switchesCycle : ByteArray := prog_14_method_37_code
def yX12_switchesCycle : MethodName := ⟨RX12, "switchesCycle", "(II)V"⟩
abbrev cX12_addsTrade : ByteArray := prog_14_method_38_code
def yX12_addsTrade : MethodName := ⟨RX12, "addsTrade", "(J)V"⟩
abbrev cX12_laysTrades : ByteArray := prog_14_method_39_code
def yX12_laysTrades : MethodName := ⟨RX12, "laysTrades", "(I)V"⟩
abbrev cX12_turned : ByteArray := prog_14_method_40_code
def yX12_turned : MethodName := ⟨RX12, "turned", "(II)I"⟩
abbrev cX12_by : ByteArray := prog_14_method_41_code
def yX12_by : MethodName := ⟨RX12, "by", "(I)I"⟩
abbrev cX12_isTurnedBy : ByteArray := prog_14_method_42_code
def yX12_isTurnedBy : MethodName := ⟨RX12, "isTurnedBy", "(I)Z"⟩
abbrev cX12_leastOf : ByteArray := prog_14_method_43_code
def yX12_leastOf : MethodName := ⟨RX12, "leastOf", "()I"⟩
abbrev cX12_develops : ByteArray := prog_14_method_44_code
def yX12_develops : MethodName := ⟨RX12, "develops", "(III)I"⟩
abbrev cX12_appendWord : ByteArray := prog_14_method_45_code
def yX12_appendWord : MethodName := ⟨RX12, "appendWord", "(I)V"⟩
abbrev cX12_appendInput : ByteArray := prog_14_method_46_code
def yX12_appendInput : MethodName := ⟨RX12, "appendInput", "(IIIII)I"⟩
abbrev cX12_truncateInput : ByteArray := prog_14_method_47_code
def yX12_truncateInput : MethodName := ⟨RX12, "truncateInput", "(I)Z"⟩
abbrev cX12_byteAt : ByteArray := prog_14_method_48_code
def yX12_byteAt : MethodName := ⟨RX12, "byteAt", "(I)I"⟩
abbrev cX12_advanceToken : ByteArray := prog_14_method_49_code
def yX12_advanceToken : MethodName := ⟨RX12, "advanceToken", "()V"⟩
abbrev cX12_tokenLength : ByteArray := prog_14_method_50_code
def yX12_tokenLength : MethodName := ⟨RX12, "tokenLength", "()I"⟩
abbrev cX12_failsAt : ByteArray := prog_14_method_51_code
def yX12_failsAt : MethodName := ⟨RX12, "failsAt", "(I)Z"⟩
abbrev cX12_isWord : ByteArray := prog_14_method_52_code
def yX12_isWord : MethodName := ⟨RX12, "isWord", "(Ljava/lang/String;)Z"⟩
abbrev cX12_takesPoint : ByteArray := prog_14_method_53_code
def yX12_takesPoint : MethodName := ⟨RX12, "takesPoint", "(III)Z"⟩
abbrev cX12_readTriple : ByteArray := prog_14_method_54_code
def yX12_readTriple : MethodName := ⟨RX12, "readTriple", "(Z)Z"⟩
abbrev cX12_readPoints : ByteArray := prog_14_method_55_code
def yX12_readPoints : MethodName := ⟨RX12, "readPoints", "()Z"⟩
abbrev cX12_readStatement : ByteArray := prog_14_method_56_code
def yX12_readStatement : MethodName := ⟨RX12, "readStatement", "()Z"⟩
abbrev cX12_readText : ByteArray := prog_14_method_57_code
def yX12_readText : MethodName := ⟨RX12, "readText", "()Z"⟩
abbrev cX12_loadSystem : ByteArray := prog_14_method_58_code
def yX12_loadSystem : MethodName := ⟨RX12, "loadSystem", "()I"⟩
abbrev cX12_errorCode : ByteArray := prog_14_method_59_code
def yX12_errorCode : MethodName := ⟨RX12, "errorCode", "()I"⟩
abbrev cX12_errorOffset : ByteArray := prog_14_method_60_code
def yX12_errorOffset : MethodName := ⟨RX12, "errorOffset", "()I"⟩
abbrev cX12_noPoint : ByteArray := prog_14_method_61_code
def yX12_noPoint : MethodName := ⟨RX12, "noPoint", "(I)Z"⟩
abbrev cX12_noPair : ByteArray := prog_14_method_62_code
def yX12_noPair : MethodName := ⟨RX12, "noPair", "(II)Z"⟩
abbrev cX12_noSet : ByteArray := prog_14_method_63_code
def yX12_noSet : MethodName := ⟨RX12, "noSet", "(III)Z"⟩
abbrev cX12_noTriple : ByteArray := prog_14_method_64_code
def yX12_noTriple : MethodName := ⟨RX12, "noTriple", "(I)Z"⟩
abbrev cX12_noQuad : ByteArray := prog_14_method_65_code
def yX12_noQuad : MethodName := ⟨RX12, "noQuad", "(I)Z"⟩
abbrev cX12_noCycle : ByteArray := prog_14_method_66_code
def yX12_noCycle : MethodName := ⟨RX12, "noCycle", "(III)Z"⟩
abbrev cX12_count : ByteArray := prog_14_method_67_code
def yX12_count : MethodName := ⟨RX12, "count", "(I)I"⟩
abbrev cX12_quadsNow : ByteArray := prog_14_method_68_code
def yX12_quadsNow : MethodName := ⟨RX12, "quadsNow", "()I"⟩
abbrev cX12_isWhole : ByteArray := prog_14_method_69_code
def yX12_isWhole : MethodName := ⟨RX12, "isWhole", "()Z"⟩
abbrev cX12_isComplete : ByteArray := prog_14_method_70_code
def yX12_isComplete : MethodName := ⟨RX12, "isComplete", "()Z"⟩
abbrev cX12_triple : ByteArray := prog_14_method_71_code
def yX12_triple : MethodName := ⟨RX12, "triple", "(II)I"⟩
abbrev cX12_find : ByteArray := prog_14_method_72_code
def yX12_find : MethodName := ⟨RX12, "find", "(III)I"⟩
abbrev cX12_third : ByteArray := prog_14_method_73_code
def yX12_third : MethodName := ⟨RX12, "third", "(II)I"⟩
abbrev cX12_degree : ByteArray := prog_14_method_74_code
def yX12_degree : MethodName := ⟨RX12, "degree", "(I)I"⟩
abbrev cX12_uncovered : ByteArray := prog_14_method_75_code
def yX12_uncovered : MethodName := ⟨RX12, "uncovered", "(I)I"⟩
abbrev cX12_reasonOf : ByteArray := prog_14_method_76_code
def yX12_reasonOf : MethodName := ⟨RX12, "reasonOf", "(III)I"⟩
abbrev cX12_reason : ByteArray := prog_14_method_77_code
def yX12_reason : MethodName := ⟨RX12, "reason", "(III)I"⟩
abbrev cX12_inTheWay : ByteArray := prog_14_method_78_code
def yX12_inTheWay : MethodName := ⟨RX12, "inTheWay", "(III)I"⟩
abbrev cX12_add : ByteArray := prog_14_method_79_code
def yX12_add : MethodName := ⟨RX12, "add", "(III)I"⟩
abbrev cX12_remove : ByteArray := prog_14_method_80_code
def yX12_remove : MethodName := ⟨RX12, "remove", "(I)I"⟩
abbrev cX12_develop : ByteArray := prog_14_method_81_code
def yX12_develop : MethodName := ⟨RX12, "develop", "(III)I"⟩
abbrev cX12_fill : ByteArray := prog_14_method_82_code
def yX12_fill : MethodName := ⟨RX12, "fill", "()I"⟩
abbrev cX12_force : ByteArray := prog_14_method_83_code
def yX12_force : MethodName := ⟨RX12, "force", "(III)I"⟩
abbrev cX12_removes : ByteArray := prog_14_method_84_code
def yX12_removes : MethodName := ⟨RX12, "removes", "(II)I"⟩
abbrev cX12_clear : ByteArray := prog_14_method_85_code
def yX12_clear : MethodName := ⟨RX12, "clear", "(I)I"⟩
abbrev cX12_swap : ByteArray := prog_14_method_86_code
def yX12_swap : MethodName := ⟨RX12, "swap", "(II)I"⟩
abbrev cX12_swapped : ByteArray := prog_14_method_87_code
def yX12_swapped : MethodName := ⟨RX12, "swapped", "(III)I"⟩
abbrev cX12_turn : ByteArray := prog_14_method_88_code
def yX12_turn : MethodName := ⟨RX12, "turn", "(I)I"⟩
abbrev cX12_waysOf : ByteArray := prog_14_method_89_code
def yX12_waysOf : MethodName := ⟨RX12, "waysOf", "(II)I"⟩
abbrev cX12_tightestPair : ByteArray := prog_14_method_90_code
def yX12_tightestPair : MethodName := ⟨RX12, "tightestPair", "()I"⟩
abbrev cX12_completionsFrom : ByteArray := prog_14_method_91_code
def yX12_completionsFrom : MethodName := ⟨RX12, "completionsFrom", "()I"⟩
abbrev cX12_completions : ByteArray := prog_14_method_92_code
def yX12_completions : MethodName := ⟨RX12, "completions", "()I"⟩
abbrev cX12_tightest : ByteArray := prog_14_method_93_code
def yX12_tightest : MethodName := ⟨RX12, "tightest", "()I"⟩
abbrev cX12_bitAt : ByteArray := prog_14_method_94_code
def yX12_bitAt : MethodName := ⟨RX12, "bitAt", "(II)I"⟩
abbrev cX12_quad : ByteArray := prog_14_method_95_code
def yX12_quad : MethodName := ⟨RX12, "quad", "(II)I"⟩
abbrev cX12_opposite : ByteArray := prog_14_method_96_code
def yX12_opposite : MethodName := ⟨RX12, "opposite", "(II)I"⟩
abbrev cX12_quadsAt : ByteArray := prog_14_method_97_code
def yX12_quadsAt : MethodName := ⟨RX12, "quadsAt", "(I)I"⟩
abbrev cX12_quadsOf : ByteArray := prog_14_method_98_code
def yX12_quadsOf : MethodName := ⟨RX12, "quadsOf", "(I)I"⟩
abbrev cX12_switchQuad : ByteArray := prog_14_method_99_code
def yX12_switchQuad : MethodName := ⟨RX12, "switchQuad", "(I)I"⟩
abbrev cX12_wouldHave : ByteArray := prog_14_method_100_code
def yX12_wouldHave : MethodName := ⟨RX12, "wouldHave", "(I)I"⟩
abbrev cX12_bestSwitch : ByteArray := prog_14_method_101_code
def yX12_bestSwitch : MethodName := ⟨RX12, "bestSwitch", "(Z)I"⟩
abbrev cX12_descend : ByteArray := prog_14_method_102_code
def yX12_descend : MethodName := ⟨RX12, "descend", "(I)I"⟩
abbrev cX12_meanQuads : ByteArray := prog_14_method_103_code
def yX12_meanQuads : MethodName := ⟨RX12, "meanQuads", "()D"⟩
abbrev cX12_cycles : ByteArray := prog_14_method_104_code
def yX12_cycles : MethodName := ⟨RX12, "cycles", "(II)I"⟩
abbrev cX12_cycleLength : ByteArray := prog_14_method_105_code
def yX12_cycleLength : MethodName := ⟨RX12, "cycleLength", "(III)I"⟩
abbrev cX12_cyclePoint : ByteArray := prog_14_method_106_code
def yX12_cyclePoint : MethodName := ⟨RX12, "cyclePoint", "(IIII)I"⟩
abbrev cX12_switchCycle : ByteArray := prog_14_method_107_code
def yX12_switchCycle : MethodName := ⟨RX12, "switchCycle", "(III)I"⟩
abbrev cX12_wouldHaveBy : ByteArray := prog_14_method_108_code
def yX12_wouldHaveBy : MethodName := ⟨RX12, "wouldHaveBy", "(III)I"⟩
abbrev cX12_cyclesOf : ByteArray := prog_14_method_109_code
def yX12_cyclesOf : MethodName := ⟨RX12, "cyclesOf", "(I)I"⟩
abbrev cX12_trades : ByteArray := prog_14_method_110_code
def yX12_trades : MethodName := ⟨RX12, "trades", "(I)I"⟩
abbrev cX12_trade : ByteArray := prog_14_method_111_code
def yX12_trade : MethodName := ⟨RX12, "trade", "(II)J"⟩
abbrev cX12_isPerfect : ByteArray := prog_14_method_112_code
def yX12_isPerfect : MethodName := ⟨RX12, "isPerfect", "(II)Z"⟩
abbrev cX12_perfectPairs : ByteArray := prog_14_method_113_code
def yX12_perfectPairs : MethodName := ⟨RX12, "perfectPairs", "()I"⟩
abbrev cX12_quadSet : ByteArray := prog_14_method_114_code
def yX12_quadSet : MethodName := ⟨RX12, "quadSet", "(I)J"⟩
abbrev cX12_agrees : ByteArray := prog_14_method_115_code
def yX12_agrees : MethodName := ⟨RX12, "agrees", "()Z"⟩
abbrev cX12_noTrain : ByteArray := prog_14_method_116_code
def yX12_noTrain : MethodName := ⟨RX12, "noTrain", "(III)Z"⟩
abbrev cX12_codeOf : ByteArray := prog_14_method_117_code
def yX12_codeOf : MethodName := ⟨RX12, "codeOf", "(III)I"⟩
abbrev cX12_next : ByteArray := prog_14_method_118_code
def yX12_next : MethodName := ⟨RX12, "next", "(I)I"⟩
abbrev cX12_leadTo : ByteArray := prog_14_method_119_code
def yX12_leadTo : MethodName := ⟨RX12, "leadTo", "(I)I"⟩
abbrev cX12_roundFrom : ByteArray := prog_14_method_120_code
def yX12_roundFrom : MethodName := ⟨RX12, "roundFrom", "(I)I"⟩
abbrev cX12_train : ByteArray := prog_14_method_121_code
def yX12_train : MethodName := ⟨RX12, "train", "(III)I"⟩
abbrev cX12_trainsTo : ByteArray := prog_14_method_122_code
def yX12_trainsTo : MethodName := ⟨RX12, "trainsTo", "(III)I"⟩
abbrev cX12_tail : ByteArray := prog_14_method_123_code
def yX12_tail : MethodName := ⟨RX12, "tail", "(III)I"⟩
abbrev cX12_roundOf : ByteArray := prog_14_method_124_code
def yX12_roundOf : MethodName := ⟨RX12, "roundOf", "(III)I"⟩
abbrev cX12_trainProfile : ByteArray := prog_14_method_125_code
def yX12_trainProfile : MethodName := ⟨RX12, "trainProfile", "(I)I"⟩
abbrev cX12_beginsRound : ByteArray := prog_14_method_126_code
def yX12_beginsRound : MethodName := ⟨RX12, "beginsRound", "(I)Z"⟩
abbrev cX12_rounds : ByteArray := prog_14_method_127_code
def yX12_rounds : MethodName := ⟨RX12, "rounds", "()I"⟩
abbrev cX12_isTurned : ByteArray := prog_14_method_128_code
def yX12_isTurned : MethodName := ⟨RX12, "isTurned", "(I)Z"⟩
abbrev cX12_leastTurn : ByteArray := prog_14_method_129_code
def yX12_leastTurn : MethodName := ⟨RX12, "leastTurn", "()I"⟩
abbrev cX12_orbits : ByteArray := prog_14_method_130_code
def yX12_orbits : MethodName := ⟨RX12, "orbits", "()I"⟩
abbrev cX12_isLeastOfOrbit : ByteArray := prog_14_method_131_code
def yX12_isLeastOfOrbit : MethodName := ⟨RX12, "isLeastOfOrbit", "(II)Z"⟩
abbrev cX12_coverage : ByteArray := prog_14_method_132_code
def yX12_coverage : MethodName := ⟨RX12, "coverage", "()F"⟩
abbrev cX12_closed : ByteArray := prog_14_method_133_code
def yX12_closed : MethodName := ⟨RX12, "closed", "(I)I"⟩
abbrev cX12_closure : ByteArray := prog_14_method_134_code
def yX12_closure : MethodName := ⟨RX12, "closure", "(I)I"⟩
abbrev cX12_isClosed : ByteArray := prog_14_method_135_code
def yX12_isClosed : MethodName := ⟨RX12, "isClosed", "(I)Z"⟩
abbrev cX12_subsystems : ByteArray := prog_14_method_136_code
def yX12_subsystems : MethodName := ⟨RX12, "subsystems", "()I"⟩
abbrev cX12_holdsNone : ByteArray := prog_14_method_137_code
def yX12_holdsNone : MethodName := ⟨RX12, "holdsNone", "(I)Z"⟩
abbrev cX12_independent : ByteArray := prog_14_method_138_code
def yX12_independent : MethodName := ⟨RX12, "independent", "()I"⟩
abbrev cX12_apart : ByteArray := prog_14_method_139_code
def yX12_apart : MethodName := ⟨RX12, "apart", "(I)I"⟩
abbrev cX12_mostFrom : ByteArray := prog_14_method_140_code
def yX12_mostFrom : MethodName := ⟨RX12, "mostFrom", "(II)I"⟩
abbrev cX12_mostApart : ByteArray := prog_14_method_141_code
def yX12_mostApart : MethodName := ⟨RX12, "mostApart", "()I"⟩
abbrev cX12_write : ByteArray := prog_14_method_142_code
def yX12_write : MethodName := ⟨RX12, "write", "(I)V"⟩
abbrev cX12_writePoint : ByteArray := prog_14_method_143_code
def yX12_writePoint : MethodName := ⟨RX12, "writePoint", "(I)V"⟩
abbrev cX12_printAt : ByteArray := prog_14_method_144_code
def yX12_printAt : MethodName := ⟨RX12, "printAt", "(I)I"⟩
abbrev cX12_outputByte : ByteArray := prog_14_method_145_code
def yX12_outputByte : MethodName := ⟨RX12, "outputByte", "(I)I"⟩
abbrev cX12_undo : ByteArray := prog_14_method_146_code
def yX12_undo : MethodName := ⟨RX12, "undo", "()I"⟩
abbrev cX12_saveState : ByteArray := prog_14_method_147_code
def yX12_saveState : MethodName := ⟨RX12, "saveState", "()I"⟩
abbrev cX12_restoreState : ByteArray := prog_14_method_148_code
def yX12_restoreState : MethodName := ⟨RX12, "restoreState", "()I"⟩
def RJx145de : String := "java/io/Serializable"
def TJx145de : u_T := fun k => match k with
  | _ => ("", "", "", false)
def tyJx145de : Nat → FieldType := fun k => match k with
  | _ => .int
abbrev wsJx145de0 : List Cond := u_ws RJx145de TJx145de 0
theorem nmJx145de : ∀ a, a < 0 → ∀ b, b < 0 → a ≠ b → (TJx145de a).2.1 ≠ (TJx145de b).2.1 := by decide +kernel
theorem tyJx145de_ok : ∀ k, k < 0 → parseFieldDescriptor (TJx145de k).2.2.1 = some (tyJx145de k) := by decide +kernel
def RJx9f9b0 : String := "java/lang/CharSequence"
def TJx9f9b0 : u_T := fun k => match k with
  | _ => ("", "", "", false)
def tyJx9f9b0 : Nat → FieldType := fun k => match k with
  | _ => .int
abbrev wsJx9f9b00 : List Cond := u_ws RJx9f9b0 TJx9f9b0 0
theorem nmJx9f9b0 : ∀ a, a < 0 → ∀ b, b < 0 → a ≠ b → (TJx9f9b0 a).2.1 ≠ (TJx9f9b0 b).2.1 := by decide +kernel
theorem tyJx9f9b0_ok : ∀ k, k < 0 → parseFieldDescriptor (TJx9f9b0 k).2.2.1 = some (tyJx9f9b0 k) := by decide +kernel
def RJxb160c : String := "java/lang/Comparable"
def TJxb160c : u_T := fun k => match k with
  | _ => ("", "", "", false)
def tyJxb160c : Nat → FieldType := fun k => match k with
  | _ => .int
abbrev wsJxb160c0 : List Cond := u_ws RJxb160c TJxb160c 0
theorem nmJxb160c : ∀ a, a < 0 → ∀ b, b < 0 → a ≠ b → (TJxb160c a).2.1 ≠ (TJxb160c b).2.1 := by decide +kernel
theorem tyJxb160c_ok : ∀ k, k < 0 → parseFieldDescriptor (TJxb160c k).2.2.1 = some (tyJxb160c k) := by decide +kernel
def RJ6 : String := "java/lang/Integer"
def TJ6 : u_T := fun k => match k with
  | _ => ("", "", "", false)
def tyJ6 : Nat → FieldType := fun k => match k with
  | _ => .int
abbrev wsJ60 : List Cond := u_ws RJ6 TJ6 0
theorem nmJ6 : ∀ a, a < 0 → ∀ b, b < 0 → a ≠ b → (TJ6 a).2.1 ≠ (TJ6 b).2.1 := by decide +kernel
theorem tyJ6_ok : ∀ k, k < 0 → parseFieldDescriptor (TJ6 k).2.2.1 = some (tyJ6 k) := by decide +kernel
abbrev cJ6_numberOfTrailingZeros_0f7a4 : ByteArray := prog_22_method_48_code
def yJ6_numberOfTrailingZeros_0f7a4 : MethodName := ⟨RJ6, "numberOfTrailingZeros", "(I)I"⟩
abbrev cJ6_bitCount_0f7a4 : ByteArray := prog_22_method_49_code
def yJ6_bitCount_0f7a4 : MethodName := ⟨RJ6, "bitCount", "(I)I"⟩
def RJ13 : String := "java/lang/Long"
def TJ13 : u_T := fun k => match k with
  | _ => ("", "", "", false)
def tyJ13 : Nat → FieldType := fun k => match k with
  | _ => .int
abbrev wsJ130 : List Cond := u_ws RJ13 TJ13 0
theorem nmJ13 : ∀ a, a < 0 → ∀ b, b < 0 → a ≠ b → (TJ13 a).2.1 ≠ (TJ13 b).2.1 := by decide +kernel
theorem tyJ13_ok : ∀ k, k < 0 → parseFieldDescriptor (TJ13 k).2.2.1 = some (tyJ13 k) := by decide +kernel
abbrev cJ13_bitCount_95d88 : ByteArray := prog_23_method_50_code
def yJ13_bitCount_95d88 : MethodName := ⟨RJ13, "bitCount", "(J)I"⟩
def RJ9 : String := "java/lang/Math"
def TJ9 : u_T := fun k => match k with
  | _ => ("", "", "", false)
def tyJ9 : Nat → FieldType := fun k => match k with
  | _ => .int
abbrev wsJ90 : List Cond := u_ws RJ9 TJ9 0
theorem nmJ9 : ∀ a, a < 0 → ∀ b, b < 0 → a ≠ b → (TJ9 a).2.1 ≠ (TJ9 b).2.1 := by decide +kernel
theorem tyJ9_ok : ∀ k, k < 0 → parseFieldDescriptor (TJ9 k).2.2.1 = some (tyJ9 k) := by decide +kernel
abbrev cJ9_floorMod_7cf53 : ByteArray := prog_24_method_50_code
def yJ9_floorMod_7cf53 : MethodName := ⟨RJ9, "floorMod", "(II)I"⟩
abbrev cJ9_max_7cf53 : ByteArray := prog_24_method_65_code
def yJ9_max_7cf53 : MethodName := ⟨RJ9, "max", "(II)I"⟩
abbrev cJ9_min_7cf53 : ByteArray := prog_24_method_69_code
def yJ9_min_7cf53 : MethodName := ⟨RJ9, "min", "(II)I"⟩
def RJ0 : String := "java/lang/String"
def TJ0 : u_T := fun k => match k with
  | _ => ("", "", "", false)
def tyJ0 : Nat → FieldType := fun k => match k with
  | _ => .int
abbrev wsJ00 : List Cond := u_ws RJ0 TJ0 0
theorem nmJ0 : ∀ a, a < 0 → ∀ b, b < 0 → a ≠ b → (TJ0 a).2.1 ≠ (TJ0 b).2.1 := by decide +kernel
theorem tyJ0_ok : ∀ k, k < 0 → parseFieldDescriptor (TJ0 k).2.2.1 = some (tyJ0 k) := by decide +kernel
abbrev cJ0_length_8abf5 : ByteArray := prog_26_method_54_code
def yJ0_length_8abf5 : MethodName := ⟨RJ0, "length", "()I"⟩
abbrev cJ0_charAt_5068e : ByteArray := prog_26_method_56_code
def yJ0_charAt_5068e : MethodName := ⟨RJ0, "charAt", "(I)C"⟩
abbrev cJ0_coder_7d493 : ByteArray := prog_26_method_152_code
def yJ0_coder_7d493 : MethodName := ⟨RJ0, "coder", "()B"⟩
abbrev cJ0_isLatin1_aae02 : ByteArray := prog_26_method_154_code
def yJ0_isLatin1_aae02 : MethodName := ⟨RJ0, "isLatin1", "()Z"⟩
abbrev cJ0_checkIndex_df160 : ByteArray := prog_26_method_155_code
def yJ0_checkIndex_df160 : MethodName := ⟨RJ0, "checkIndex", "(II)V"⟩
def RJ1 : String := "java/lang/StringLatin1"
def TJ1 : u_T := fun k => match k with
  | _ => ("", "", "", false)
def tyJ1 : Nat → FieldType := fun k => match k with
  | _ => .int
abbrev wsJ10 : List Cond := u_ws RJ1 TJ1 0
theorem nmJ1 : ∀ a, a < 0 → ∀ b, b < 0 → a ≠ b → (TJ1 a).2.1 ≠ (TJ1 b).2.1 := by decide +kernel
theorem tyJ1_ok : ∀ k, k < 0 → parseFieldDescriptor (TJ1 k).2.2.1 = some (tyJ1 k) := by decide +kernel
abbrev cJ1_charAt_3b067 : ByteArray := prog_27_method_2_code
def yJ1_charAt_3b067 : MethodName := ⟨RJ1, "charAt", "([BI)C"⟩
def RJ2 : String := "java/lang/StringUTF16"
def TJ2 : u_T := fun k => match k with
  | _ => ("", "", "", false)
def tyJ2 : Nat → FieldType := fun k => match k with
  | _ => .int
abbrev wsJ20 : List Cond := u_ws RJ2 TJ2 0
theorem nmJ2 : ∀ a, a < 0 → ∀ b, b < 0 → a ≠ b → (TJ2 a).2.1 ≠ (TJ2 b).2.1 := by decide +kernel
theorem tyJ2_ok : ∀ k, k < 0 → parseFieldDescriptor (TJ2 k).2.2.1 = some (tyJ2 k) := by decide +kernel
abbrev cJ2_getChar_3b067 : ByteArray := prog_28_method_5_code
def yJ2_getChar_3b067 : MethodName := ⟨RJ2, "getChar", "([BI)C"⟩
abbrev cJ2_length_9d52b : ByteArray := prog_28_method_6_code
def yJ2_length_9d52b : MethodName := ⟨RJ2, "length", "([B)I"⟩
abbrev cJ2_charAt_3b067 : ByteArray := prog_28_method_83_code
def yJ2_charAt_3b067 : MethodName := ⟨RJ2, "charAt", "([BI)C"⟩
abbrev cJ2_checkIndex_2214a : ByteArray := prog_28_method_91_code
def yJ2_checkIndex_2214a : MethodName := ⟨RJ2, "checkIndex", "(I[B)V"⟩
def RJ10 : String := "java/lang/System"
def TJ10 : u_T := fun k => match k with
  | _ => ("", "", "", false)
def tyJ10 : Nat → FieldType := fun k => match k with
  | _ => .int
abbrev wsJ100 : List Cond := u_ws RJ10 TJ10 0
theorem nmJ10 : ∀ a, a < 0 → ∀ b, b < 0 → a ≠ b → (TJ10 a).2.1 ≠ (TJ10 b).2.1 := by decide +kernel
theorem tyJ10_ok : ∀ k, k < 0 → parseFieldDescriptor (TJ10 k).2.2.1 = some (tyJ10 k) := by decide +kernel
def RJxfd54e : String := "java/lang/constant/Constable"
def TJxfd54e : u_T := fun k => match k with
  | _ => ("", "", "", false)
def tyJxfd54e : Nat → FieldType := fun k => match k with
  | _ => .int
abbrev wsJxfd54e0 : List Cond := u_ws RJxfd54e TJxfd54e 0
theorem nmJxfd54e : ∀ a, a < 0 → ∀ b, b < 0 → a ≠ b → (TJxfd54e a).2.1 ≠ (TJxfd54e b).2.1 := by decide +kernel
theorem tyJxfd54e_ok : ∀ k, k < 0 → parseFieldDescriptor (TJxfd54e k).2.2.1 = some (tyJxfd54e k) := by decide +kernel
def RJx3cf43 : String := "java/lang/constant/ConstantDesc"
def TJx3cf43 : u_T := fun k => match k with
  | _ => ("", "", "", false)
def tyJx3cf43 : Nat → FieldType := fun k => match k with
  | _ => .int
abbrev wsJx3cf430 : List Cond := u_ws RJx3cf43 TJx3cf43 0
theorem nmJx3cf43 : ∀ a, a < 0 → ∀ b, b < 0 → a ≠ b → (TJx3cf43 a).2.1 ≠ (TJx3cf43 b).2.1 := by decide +kernel
theorem tyJx3cf43_ok : ∀ k, k < 0 → parseFieldDescriptor (TJx3cf43 k).2.2.1 = some (tyJx3cf43 k) := by decide +kernel
def RJ3 : String := "jdk/internal/util/Preconditions"
def TJ3 : u_T := fun k => match k with
  | _ => ("", "", "", false)
def tyJ3 : Nat → FieldType := fun k => match k with
  | _ => .int
abbrev wsJ30 : List Cond := u_ws RJ3 TJ3 0
theorem nmJ3 : ∀ a, a < 0 → ∀ b, b < 0 → a ≠ b → (TJ3 a).2.1 ≠ (TJ3 b).2.1 := by decide +kernel
theorem tyJ3_ok : ∀ k, k < 0 → parseFieldDescriptor (TJ3 k).2.2.1 = some (tyJ3 k) := by decide +kernel
abbrev cJ3_checkIndex_8e157 : ByteArray := prog_34_method_11_code
def yJ3_checkIndex_8e157 : MethodName := ⟨RJ3, "checkIndex", "(IILjava/util/function/BiFunction;)I"⟩
def RL : String := "TripleTrainsLaw"
abbrev cL_count : ByteArray := method_3_code
def yL_count : MethodName := ⟨RL, "count", "(LTripleTrains;I[J)I"⟩
abbrev cL_triple : ByteArray := method_4_code
def yL_triple : MethodName := ⟨RL, "triple", "(LTripleTrains;II[J)I"⟩
abbrev cL_find : ByteArray := method_5_code
def yL_find : MethodName := ⟨RL, "find", "(LTripleTrains;III[J)I"⟩
abbrev cL_third : ByteArray := method_6_code
def yL_third : MethodName := ⟨RL, "third", "(LTripleTrains;II[J)I"⟩
abbrev cL_degree : ByteArray := method_7_code
def yL_degree : MethodName := ⟨RL, "degree", "(LTripleTrains;I[J)I"⟩
abbrev cL_uncovered : ByteArray := method_8_code
def yL_uncovered : MethodName := ⟨RL, "uncovered", "(LTripleTrains;I[J)I"⟩
abbrev cL_reason : ByteArray := method_9_code
def yL_reason : MethodName := ⟨RL, "reason", "(LTripleTrains;III[J)I"⟩
abbrev cL_add : ByteArray := method_10_code
def yL_add : MethodName := ⟨RL, "add", "(LTripleTrains;III[J)I"⟩
abbrev cL_remove : ByteArray := method_11_code
def yL_remove : MethodName := ⟨RL, "remove", "(LTripleTrains;I[J)I"⟩
abbrev cL_develop : ByteArray := method_12_code
def yL_develop : MethodName := ⟨RL, "develop", "(LTripleTrains;III[J)I"⟩
abbrev cL_quad : ByteArray := method_13_code
def yL_quad : MethodName := ⟨RL, "quad", "(LTripleTrains;II[J)I"⟩
abbrev cL_opposite : ByteArray := method_14_code
def yL_opposite : MethodName := ⟨RL, "opposite", "(LTripleTrains;II[J)I"⟩
abbrev cL_quadsAt : ByteArray := method_15_code
def yL_quadsAt : MethodName := ⟨RL, "quadsAt", "(LTripleTrains;I[J)I"⟩
abbrev cL_quadsOf : ByteArray := method_16_code
def yL_quadsOf : MethodName := ⟨RL, "quadsOf", "(LTripleTrains;I[J)I"⟩
abbrev cL_switchQuad : ByteArray := method_17_code
def yL_switchQuad : MethodName := ⟨RL, "switchQuad", "(LTripleTrains;I[J)I"⟩
abbrev cL_wouldHave : ByteArray := method_18_code
def yL_wouldHave : MethodName := ⟨RL, "wouldHave", "(LTripleTrains;I[J)I"⟩
abbrev cL_descend : ByteArray := method_19_code
def yL_descend : MethodName := ⟨RL, "descend", "(LTripleTrains;I[J)I"⟩
abbrev cL_cycles : ByteArray := method_20_code
def yL_cycles : MethodName := ⟨RL, "cycles", "(LTripleTrains;II[J)I"⟩
abbrev cL_cycleLength : ByteArray := method_21_code
def yL_cycleLength : MethodName := ⟨RL, "cycleLength", "(LTripleTrains;III[J)I"⟩
abbrev cL_cyclePoint : ByteArray := method_22_code
def yL_cyclePoint : MethodName := ⟨RL, "cyclePoint", "(LTripleTrains;IIII[J)I"⟩
abbrev cL_switchCycle : ByteArray := method_23_code
def yL_switchCycle : MethodName := ⟨RL, "switchCycle", "(LTripleTrains;III[J)I"⟩
abbrev cL_wouldHaveBy : ByteArray := method_24_code
def yL_wouldHaveBy : MethodName := ⟨RL, "wouldHaveBy", "(LTripleTrains;III[J)I"⟩
abbrev cL_trade : ByteArray := method_25_code
def yL_trade : MethodName := ⟨RL, "trade", "(LTripleTrains;II[J)I"⟩
abbrev cL_train : ByteArray := method_26_code
def yL_train : MethodName := ⟨RL, "train", "(LTripleTrains;III[J)I"⟩
abbrev cL_trainsTo : ByteArray := method_27_code
def yL_trainsTo : MethodName := ⟨RL, "trainsTo", "(LTripleTrains;III[J)I"⟩
abbrev cL_tail : ByteArray := method_28_code
def yL_tail : MethodName := ⟨RL, "tail", "(LTripleTrains;III[J)I"⟩
abbrev cL_roundOf : ByteArray := method_29_code
def yL_roundOf : MethodName := ⟨RL, "roundOf", "(LTripleTrains;III[J)I"⟩
abbrev cL_trainProfile : ByteArray := method_30_code
def yL_trainProfile : MethodName := ⟨RL, "trainProfile", "(LTripleTrains;I[J)I"⟩
abbrev cL_rounds : ByteArray := method_31_code
def yL_rounds : MethodName := ⟨RL, "rounds", "(LTripleTrains;[J)I"⟩
abbrev cL_closure : ByteArray := method_32_code
def yL_closure : MethodName := ⟨RL, "closure", "(LTripleTrains;I[J)I"⟩
abbrev cL_apart : ByteArray := method_33_code
def yL_apart : MethodName := ⟨RL, "apart", "(LTripleTrains;I[J)I"⟩
abbrev cL_swap : ByteArray := method_34_code
def yL_swap : MethodName := ⟨RL, "swap", "(LTripleTrains;II[J)I"⟩
abbrev cL_clear : ByteArray := method_35_code
def yL_clear : MethodName := ⟨RL, "clear", "(LTripleTrains;I[J)I"⟩
abbrev cL_inTheWay : ByteArray := method_36_code
def yL_inTheWay : MethodName := ⟨RL, "inTheWay", "(LTripleTrains;III[J)I"⟩
abbrev cL_force : ByteArray := method_37_code
def yL_force : MethodName := ⟨RL, "force", "(LTripleTrains;III[J)I"⟩
abbrev cL_printAt : ByteArray := method_38_code
def yL_printAt : MethodName := ⟨RL, "printAt", "(LTripleTrains;I[J)I"⟩
abbrev cL_restoreState : ByteArray := method_39_code
def yL_restoreState : MethodName := ⟨RL, "restoreState", "(LTripleTrains;[J)I"⟩
abbrev cL_law : ByteArray := code
def yL_law : MethodName := ⟨RL, "law", "([I)Z"⟩
abbrev vwCl : List vw_C := [(RX0, TX0, 6), (RX1, TX1, 6), (RX2, TX2, 4), (RX3, TX3, 4), (RX4, TX4, 3), (RX6, TX6, 8), (RX7, TX7, 4), (RX8, TX8, 3), (RX9, TX9, 2), (RX10, TX10, 4), (RX11, TX11, 12), (RX12, TX12, 33)]
end
section
/-! ===== the abstract machine (am_): a frame's locals, stack and a heap of numbered cells; what one instruction does ===== -/
abbrev amC : Type := Nat × List Value
abbrev amH : Type := List amC
abbrev amL : Type := List (Nat × Value)
/-- numbers from here on name constants, not cells -/
def amK : Nat := 1000000
/-- the script's number -/
def amS : Nat := 1999999
def amV (ad : Nat → Nat) : Value → Value
  | .ref i => .ref (ad i)
  | v => v
def amInt : Value → Int32
  | .int x => x
  | _ => 0
def amLong : Value → Int64
  | .long x => x
  | _ => 0
def amRef (ad : Nat → Nat) : Value → Option Nat
  | .ref i => some (ad i)
  | _ => none
def amTys (dA : Nat → ClassId) : List (ClassId × FieldType) := [(dA 0, .int), (dA 1, .long), (dA 2, .byte), (dA 3, .object "TripleTrains$Snapshot")]
/-- a cell as the kit's worlds have it: rows by their kinds from 32 on, objects by their classes' places -/
def amE (dA : Nat → ClassId) (ad : Nat → Nat) (c : amC) : va_E :=
  if c.1 = 32 then .inl (dA 0, c.2.length, .inl (fun j => amInt (c.2.getD j .null)))
  else if c.1 = 33 then .inl (dA 1, c.2.length, .inr (.inl (fun j => amLong (c.2.getD j .null))))
  else if c.1 = 34 then .inl (dA 2, c.2.length, .inl (fun j => amInt (c.2.getD j .null)))
  else if c.1 = 35 then .inl (dA 3, c.2.length, .inr (.inr (.inr (.inr (fun j => amRef ad (c.2.getD j .null))))))
  else .inr (c.1, c.2.map (amV ad))
def amW (dA : Nat → ClassId) (ad : Nat → Nat) (hp : amH) : va_W := hp.mapIdx (fun i c => (ad i, amE dA ad c))
def amLs (ad : Nat → Nat) (ls : amL) : List (Nat × Value) := ls.map (fun q => (q.1, amV ad q.2))
theorem amW_get {dA : Nat → ClassId} {ad : Nat → Nat} {hp : amH} {i : Nat} {c : amC} (h : hp[i]? = some c) : (amW dA ad hp)[i]? = some (ad i, amE dA ad c) := by
  simp [amW, h]
theorem amW_set {dA : Nat → ClassId} {ad : Nat → Nat} {hp : amH} {i : Nat} {c : amC} : (amW dA ad hp).set i (ad i, amE dA ad c) = amW dA ad (hp.set i c) := by
  apply List.ext_getElem?
  intro j
  simp only [amW, List.getElem?_set, List.getElem?_mapIdx, List.length_mapIdx]
  by_cases h : i = j
  · subst h
    by_cases h2 : i < hp.length
    · simp [h2]
    · simp [h2]
  · simp [h]
theorem amW_push {dA : Nat → ClassId} {ad : Nat → Nat} {hp : amH} {c : amC} : amW dA ad (hp ++ [c]) = amW dA ad hp ++ [(ad hp.length, amE dA ad c)] := by
  simp [amW, List.mapIdx_append]
theorem amV_cat (ad : Nat → Nat) (v : Value) : (amV ad v).category = v.category := by cases v <;> rfl
theorem amLs_mem {ad : Nat → Nat} {ls : amL} {i : Nat} {v : Value} (h : (i, v) ∈ ls) : (i, amV ad v) ∈ amLs ad ls := List.mem_map.mpr ⟨(i, v), h, rfl⟩
def amGet : amL → Nat → Option Value
  | [], _ => none
  | q :: r, i => if q.1 = i then some q.2 else amGet r i
theorem amGet_mem {ls : amL} {i : Nat} {v : Value} (h : amGet ls i = some v) : (i, v) ∈ ls := by
  induction ls with
  | nil => cases h
  | cons q r ih =>
    unfold amGet at h
    split at h
    · next e => cases h; subst e; exact List.mem_cons_self
    · exact List.mem_cons_of_mem _ (ih h)
theorem amGet_has {ad : Nat → Nat} {ls : amL} {i nL : Nat} {v : Value} {lsA : Array Slot} (hl : lv_has lsA nL (amLs ad ls)) (h : amGet ls i = some v) : lsA[i]? = some (.val (amV ad v)) := hl.2.2 _ (amLs_mem (amGet_mem h))
def amSet1 (ls : amL) (i : Nat) (v : Value) : amL := (i, v) :: ls.filter (fun q => !(q.1 == i) && !(q.1 + 1 == i && q.2.category == 2))
def amSet2 (ls : amL) (i : Nat) (v : Value) : amL := (i, v) :: ls.filter (fun q => !(q.1 == i) && (!(q.1 == i + 1) && !(q.1 + 1 == i && q.2.category == 2)))
theorem amSet1_ls (ad : Nat → Nat) (ls : amL) (i : Nat) (v : Value) : (i, amV ad v) :: (amLs ad ls).filter (fun q => !(q.1 == i) && !(q.1 + 1 == i && q.2.category == 2)) = amLs ad (amSet1 ls i v) := by
  simp [amLs, amSet1, List.filter_map, Function.comp_def, amV_cat]
theorem amSet2_ls (ad : Nat → Nat) (ls : amL) (i : Nat) (v : Value) : (i, amV ad v) :: (amLs ad ls).filter (fun q => !(q.1 == i) && (!(q.1 == i + 1) && !(q.1 + 1 == i && q.2.category == 2))) = amLs ad (amSet2 ls i v) := by
  simp [amLs, amSet2, List.filter_map, Function.comp_def, amV_cat]
theorem amV_narrow {ad : Nat → Nat} {ty : FieldType} {v : Value} (h : narrow ty v = v) : narrow ty (amV ad v) = amV ad v := by
  cases v <;> first | exact h | (cases ty <;> rfl)
theorem amV_fits {ad : Nat → Nat} {ty : FieldType} {v : Value} (h : fits ty v = true) : fits ty (amV ad v) = true := by
  cases v <;> first | exact h | (cases ty <;> first | exact h | rfl)
/-! what one instruction does to the stack -/
def amII (f : Int32 → Int32 → Int32) : List Value → Option (List Value)
  | .int y :: .int x :: r => some (.int (f x y) :: r)
  | _ => none
def amI (f : Int32 → Value) : List Value → Option (List Value)
  | .int x :: r => some (f x :: r)
  | _ => none
def amLL (f : Int64 → Int64 → Value) : List Value → Option (List Value)
  | .long y :: .long x :: r => some (f x y :: r)
  | _ => none
def amJ (f : Int64 → Value) : List Value → Option (List Value)
  | .long x :: r => some (f x :: r)
  | _ => none
def amLI (f : Int64 → Int32 → Int64) : List Value → Option (List Value)
  | .int y :: .long x :: r => some (.long (f x y) :: r)
  | _ => none
def amDiv (f : Int32 → Int32 → Int32) : List Value → Option (List Value)
  | .int y :: .int x :: r => if y = 0 then none else some (.int (f x y) :: r)
  | _ => none
def amIf (p : Int32 → Bool) (t e : Nat) : List Value → Option (Nat × List Value)
  | .int x :: r => some (if p x then t else e, r)
  | _ => none
def amCmp (p : Int32 → Int32 → Bool) (t e : Nat) : List Value → Option (Nat × List Value)
  | .int y :: .int x :: r => some (if p x y then t else e, r)
  | _ => none
theorem amII_s {f : Int32 → Int32 → Int32} {st r : List Value} (h : amII f st = some r) : ∃ x y q, st = .int y :: .int x :: q ∧ r = .int (f x y) :: q := by
  unfold amII at h
  split at h
  · cases h; exact ⟨_, _, _, rfl, rfl⟩
  · cases h
theorem amI_s {f : Int32 → Value} {st r : List Value} (h : amI f st = some r) : ∃ x q, st = .int x :: q ∧ r = f x :: q := by
  unfold amI at h
  split at h
  · cases h; exact ⟨_, _, rfl, rfl⟩
  · cases h
theorem amLL_s {f : Int64 → Int64 → Value} {st r : List Value} (h : amLL f st = some r) : ∃ x y q, st = .long y :: .long x :: q ∧ r = f x y :: q := by
  unfold amLL at h
  split at h
  · cases h; exact ⟨_, _, _, rfl, rfl⟩
  · cases h
theorem amJ_s {f : Int64 → Value} {st r : List Value} (h : amJ f st = some r) : ∃ x q, st = .long x :: q ∧ r = f x :: q := by
  unfold amJ at h
  split at h
  · cases h; exact ⟨_, _, rfl, rfl⟩
  · cases h
theorem amLI_s {f : Int64 → Int32 → Int64} {st r : List Value} (h : amLI f st = some r) : ∃ x y q, st = .int y :: .long x :: q ∧ r = .long (f x y) :: q := by
  unfold amLI at h
  split at h
  · cases h; exact ⟨_, _, _, rfl, rfl⟩
  · cases h
theorem amDiv_s {f : Int32 → Int32 → Int32} {st r : List Value} (h : amDiv f st = some r) : ∃ x y q, st = .int y :: .int x :: q ∧ ¬ y = 0 ∧ r = .int (f x y) :: q := by
  unfold amDiv at h
  split at h
  · split at h
    · cases h
    · next hn => cases h; exact ⟨_, _, _, rfl, hn, rfl⟩
  · cases h
theorem amIf_s {p : Int32 → Bool} {t e : Nat} {st : List Value} {r : Nat × List Value} (h : amIf p t e st = some r) : ∃ x q, st = .int x :: q ∧ r = (if p x then t else e, q) := by
  unfold amIf at h
  split at h
  · cases h; exact ⟨_, _, rfl, rfl⟩
  · cases h
theorem amCmp_s {p : Int32 → Int32 → Bool} {t e : Nat} {st : List Value} {r : Nat × List Value} (h : amCmp p t e st = some r) : ∃ x y q, st = .int y :: .int x :: q ∧ r = (if p x y then t else e, q) := by
  unfold amCmp at h
  split at h
  · cases h; exact ⟨_, _, _, rfl, rfl⟩
  · cases h
def amIfP : Jvm.ClassFile.Cond → Int32 → Bool
  | .eq, x => decide (x = 0)
  | .ne, x => decide (¬ x = 0)
  | .lt, x => decide (x < 0)
  | .ge, x => decide (0 ≤ x)
  | .gt, x => decide (0 < x)
  | .le, x => decide (x ≤ 0)
def amCmpP : Jvm.ClassFile.Cond → Int32 → Int32 → Bool
  | .eq, x, y => decide (x = y)
  | .ne, x, y => decide (¬ x = y)
  | .lt, x, y => decide (x < y)
  | .ge, x, y => decide (y ≤ x)
  | .gt, x, y => decide (y < x)
  | .le, x, y => decide (x ≤ y)
/-! what one instruction does to locals and cells -/
def amIn (i : Int32) (n : Nat) : Bool := decide (¬ (i < 0 ∨ n ≤ i.toNatClampNeg))
theorem amIn_s {i : Int32} {n : Nat} (h : amIn i n = true) : vp_in i n := of_decide_eq_true (p := ¬ (i < 0 ∨ n ≤ i.toNatClampNeg)) h
def amLd (p : Value → Bool) (ls : amL) (k : Nat) (st : List Value) : Option (List Value) := match amGet ls k with
  | some v => if p v then some (v :: st) else none
  | none => none
def amIsI : Value → Bool
  | .int _ => true
  | _ => false
def amIsJ : Value → Bool
  | .long _ => true
  | _ => false
def amIsD : Value → Bool
  | .double _ => true
  | _ => false
def amIsF : Value → Bool
  | .float _ => true
  | _ => false
def amIsA : Value → Bool
  | .ref _ => true
  | .null => true
  | _ => false
def amSt1 (p : Value → Bool) (nL : Nat) (ls : amL) (k : Nat) : List Value → Option (amL × List Value)
  | v :: r => if p v && decide (k < nL) then some (amSet1 ls k v, r) else none
  | [] => none
def amSt2 (p : Value → Bool) (nL : Nat) (ls : amL) (k : Nat) : List Value → Option (amL × List Value)
  | v :: r => if p v && decide (k + 1 < nL) then some (amSet2 ls k v, r) else none
  | [] => none
theorem amLd_s {p : Value → Bool} {ls : amL} {k : Nat} {st r : List Value} (h : amLd p ls k st = some r) : ∃ v, amGet ls k = some v ∧ p v = true ∧ r = v :: st := by
  unfold amLd at h
  split at h
  · next v e =>
    split at h
    · next e2 => cases h; exact ⟨v, e, e2, rfl⟩
    · cases h
  · cases h
theorem amSt1_s {p : Value → Bool} {nL : Nat} {ls : amL} {k : Nat} {st : List Value} {r : amL × List Value} (h : amSt1 p nL ls k st = some r) : ∃ v q, st = v :: q ∧ p v = true ∧ k < nL ∧ r = (amSet1 ls k v, q) := by
  unfold amSt1 at h
  split at h
  · next v q =>
    split at h
    · next e2 =>
      simp only [Bool.and_eq_true, decide_eq_true_eq] at e2
      cases h; exact ⟨v, q, rfl, e2.1, e2.2, rfl⟩
    · cases h
  · cases h
theorem amSt2_s {p : Value → Bool} {nL : Nat} {ls : amL} {k : Nat} {st : List Value} {r : amL × List Value} (h : amSt2 p nL ls k st = some r) : ∃ v q, st = v :: q ∧ p v = true ∧ k + 1 < nL ∧ r = (amSet2 ls k v, q) := by
  unfold amSt2 at h
  split at h
  · next v q =>
    split at h
    · next e2 =>
      simp only [Bool.and_eq_true, decide_eq_true_eq] at e2
      cases h; exact ⟨v, q, rfl, e2.1, e2.2, rfl⟩
    · cases h
  · cases h
theorem amIsI_s {v : Value} (h : amIsI v = true) : ∃ x, v = .int x := by cases v <;> first | exact ⟨_, rfl⟩ | cases h
theorem amIsJ_s {v : Value} (h : amIsJ v = true) : ∃ x, v = .long x := by cases v <;> first | exact ⟨_, rfl⟩ | cases h
theorem amIsD_s {v : Value} (h : amIsD v = true) : ∃ x, v = .double x := by cases v <;> first | exact ⟨_, rfl⟩ | cases h
theorem amIsF_s {v : Value} (h : amIsF v = true) : ∃ x, v = .float x := by cases v <;> first | exact ⟨_, rfl⟩ | cases h
theorem amIsA_s {v : Value} (h : amIsA v = true) : v = .null ∨ ∃ x, v = .ref x := by cases v <;> first | exact Or.inr ⟨_, rfl⟩ | exact Or.inl rfl | cases h
def amInc (nL : Nat) (ls : amL) (k : Nat) (n : Int) : Option amL := match amGet ls k with
  | some (.int x) => if k < nL then some (amSet1 ls k (.int (x + Int32.ofInt n))) else none
  | _ => none
theorem amInc_s {nL : Nat} {ls r : amL} {k : Nat} {n : Int} (h : amInc nL ls k n = some r) : ∃ x, amGet ls k = some (.int x) ∧ k < nL ∧ r = amSet1 ls k (.int (x + Int32.ofInt n)) := by
  unfold amInc at h
  split at h
  · next x e =>
    split at h
    · next e2 => cases h; exact ⟨x, e, e2, rfl⟩
    · cases h
  · cases h
/-- a row read: of the kind t -/
def amALd (t : Nat) (p : Value → Bool) (hp : amH) : List Value → Option (List Value)
  | .int i :: .ref a :: r => match hp[a]? with
    | some c => if c.1 = t ∧ amIn i c.2.length = true ∧ p (c.2.getD i.toNatClampNeg .null) = true then some (c.2.getD i.toNatClampNeg .null :: r) else none
    | none => none
  | _ => none
theorem amALd_s {t : Nat} {p : Value → Bool} {hp : amH} {st r : List Value} (h : amALd t p hp st = some r) : ∃ i a q c, st = .int i :: .ref a :: q ∧ hp[a]? = some (t, c) ∧ vp_in i c.length ∧ p (c.getD i.toNatClampNeg .null) = true ∧ r = c.getD i.toNatClampNeg .null :: q := by
  unfold amALd at h
  split at h
  · next i a q =>
    split at h
    · next c e =>
      split at h
      · next e2 =>
        obtain ⟨t', c⟩ := c
        obtain ⟨e3, e4, e5⟩ := e2
        dsimp only at e3
        subst e3
        cases h; exact ⟨i, a, q, c, rfl, e, amIn_s e4, e5, rfl⟩
      · cases h
    · cases h
  · cases h
/-- a row written -/
def amASt (t : Nat) (p : Value → Bool) (g : Value → Value) (hp : amH) : List Value → Option (List Value × amH)
  | v :: .int i :: .ref a :: r => match hp[a]? with
    | some c => if c.1 = t ∧ amIn i c.2.length = true ∧ p v = true then some (r, hp.set a (t, c.2.set i.toNatClampNeg (g v))) else none
    | none => none
  | _ => none
theorem amASt_s {t : Nat} {p : Value → Bool} {g : Value → Value} {hp : amH} {st : List Value} {r : List Value × amH} (h : amASt t p g hp st = some r) : ∃ v i a q c, st = v :: .int i :: .ref a :: q ∧ hp[a]? = some (t, c) ∧ vp_in i c.length ∧ p v = true ∧ r = (q, hp.set a (t, c.set i.toNatClampNeg (g v))) := by
  unfold amASt at h
  split at h
  · next v i a q =>
    split at h
    · next c e =>
      split at h
      · next e2 =>
        obtain ⟨t', c⟩ := c
        obtain ⟨e3, e4, e5⟩ := e2
        dsimp only at e3
        subst e3
        cases h; exact ⟨v, i, a, q, c, rfl, e, amIn_s e4, e5, rfl⟩
      · cases h
    · cases h
  · cases h
def amNarB : Value → Value
  | .int x => .int (vp_nar .byte x)
  | v => v
/-- an object's field read -/
def amFGet (ci k : Nat) (hp : amH) : List Value → Option (List Value)
  | .ref a :: r => match hp[a]? with
    | some c => if c.1 = ci ∧ ci < 32 then (match c.2[k]? with
      | some v => some (v :: r)
      | none => none) else none
    | none => none
  | _ => none
theorem amFGet_s {ci k : Nat} {hp : amH} {st r : List Value} (h : amFGet ci k hp st = some r) : ∃ a q c v, st = .ref a :: q ∧ hp[a]? = some (ci, c) ∧ ci < 32 ∧ c[k]? = some v ∧ r = v :: q := by
  unfold amFGet at h
  split at h
  · next a q =>
    split at h
    · next c e =>
      split at h
      · next e2 =>
        obtain ⟨t', c⟩ := c
        obtain ⟨e3, e4⟩ := e2
        dsimp only at e3
        subst e3
        split at h
        · next v e5 => cases h; exact ⟨a, q, c, v, rfl, e, e4, e5, rfl⟩
        · cases h
      · cases h
    · cases h
  · cases h
/-- an object's field written: its type is ty -/
def amFSet (ci k : Nat) (ty : FieldType) (hp : amH) : List Value → Option (List Value × amH)
  | v :: .ref a :: r => match hp[a]? with
    | some c => if c.1 = ci ∧ ci < 32 ∧ k < c.2.length ∧ narrow ty v = v ∧ fits ty v = true then some (r, hp.set a (ci, c.2.set k v)) else none
    | none => none
  | _ => none
theorem amFSet_s {ci k : Nat} {ty : FieldType} {hp : amH} {st : List Value} {r : List Value × amH} (h : amFSet ci k ty hp st = some r) : ∃ v a q c, st = v :: .ref a :: q ∧ hp[a]? = some (ci, c) ∧ ci < 32 ∧ k < c.length ∧ narrow ty v = v ∧ fits ty v = true ∧ r = (q, hp.set a (ci, c.set k v)) := by
  unfold amFSet at h
  split at h
  · next v a q =>
    split at h
    · next c e =>
      split at h
      · next e2 =>
        obtain ⟨t', c⟩ := c
        obtain ⟨e3, e4, e5, e6, e7⟩ := e2
        dsimp only at e3
        subst e3
        cases h; exact ⟨v, a, q, c, rfl, e, e4, e5, e6, e7, rfl⟩
      · cases h
    · cases h
  · cases h
def amLen (hp : amH) : List Value → Option (List Value)
  | .ref a :: r => match hp[a]? with
    | some c => if 32 ≤ c.1 ∧ c.1 ≤ 35 then some (.int (Int32.ofNat c.2.length) :: r) else none
    | none => none
  | _ => none
theorem amLen_s {hp : amH} {st r : List Value} (h : amLen hp st = some r) : ∃ a q t c, st = .ref a :: q ∧ hp[a]? = some (t, c) ∧ 32 ≤ t ∧ t ≤ 35 ∧ r = .int (Int32.ofNat c.length) :: q := by
  unfold amLen at h
  split at h
  · next a q =>
    split at h
    · next c e =>
      split at h
      · next e2 => cases h; exact ⟨a, q, c.1, c.2, rfl, e, e2.1, e2.2, rfl⟩
      · cases h
    · cases h
  · cases h
/-- the script read -/
def amSc (sc : Option (List Int32)) : List Value → Option (List Value)
  | .int i :: .ref a :: r => match sc with
    | some l => if a = amS ∧ amIn i l.length = true then some (.int (l.getD i.toNatClampNeg 0) :: r) else none
    | none => none
  | _ => none
theorem amSc_s {sc : Option (List Int32)} {st r : List Value} (h : amSc sc st = some r) : ∃ i q l, sc = some l ∧ st = .int i :: .ref amS :: q ∧ vp_in i l.length ∧ r = .int (l.getD i.toNatClampNeg 0) :: q := by
  unfold amSc at h
  split at h
  · next i a q =>
    split at h
    · next l =>
      split at h
      · next e =>
        obtain ⟨e1, e2⟩ := e
        subst e1
        cases h; exact ⟨i, q, l, rfl, rfl, amIn_s e2, rfl⟩
      · cases h
    · cases h
  · cases h
def amScLen (sc : Option (List Int32)) : List Value → Option (List Value)
  | .ref a :: r => match sc with
    | some l => if a = amS then some (.int (Int32.ofNat l.length) :: r) else none
    | none => none
  | _ => none
theorem amScLen_s {sc : Option (List Int32)} {st r : List Value} (h : amScLen sc st = some r) : ∃ q l, sc = some l ∧ st = .ref amS :: q ∧ r = .int (Int32.ofNat l.length) :: q := by
  unfold amScLen at h
  split at h
  · next a q =>
    split at h
    · next l =>
      split at h
      · next e =>
        subst e
        cases h; exact ⟨q, l, rfl, rfl, rfl⟩
      · cases h
    · cases h
  · cases h
/-- the types of the fields, by class and place -/
def amFty (ci k : Nat) : FieldType := match vwCl[ci]? with
  | some r => (parseFieldDescriptor (r.2.1 k).2.2.1).getD .int
  | none => .int
def amOff (x dflt lo hi : Int) (offs : Array Int) : Option Int := if x < lo ∨ hi < x then some dflt else offs[(x - lo).toNat]?
def amTbl (pc : Nat) (dflt lo hi : Int) (offs : Array Int) : List Value → Option (Nat × List Value)
  | .int x :: r => match amOff x.toInt dflt lo hi offs with
    | some o => if 0 ≤ (pc : Int) + o then some (((pc : Int) + o).toNat, r) else none
    | none => none
  | _ => none
def amIsSn (hp : amH) : Value → Bool
  | .ref k => (match hp[k]? with
    | some c => decide (c.1 = 6)
    | none => false)
  | _ => false
abbrev amR : Type := Nat × amL × List Value × amH
/-- one instruction that neither calls nor makes nor ends; a, b: what it is linked to; nL: how many locals -/
def amStep (sc : Option (List Int32)) (nL : Nat) (i : Instr) (a b : Nat) (pc : Nat) (ls : amL) (st : List Value) (hp : amH) : Option amR :=
  match i with
  | .iconst n => some (pc + 1, ls, .int (Int32.ofInt n) :: st, hp)
  | .bipush n => some (pc + 2, ls, .int (Int8.ofInt n).toInt32 :: st, hp)
  | .sipush n => some (pc + 3, ls, .int (Int16.ofInt n).toInt32 :: st, hp)
  | .lconst n => some (pc + 1, ls, .long (Int64.ofNat (n : Nat)) :: st, hp)
  | .fconst n => if n = 0 then some (pc + 1, ls, .float FP.fconst0 :: st, hp) else none
  | .dconst n => if n = 0 then some (pc + 1, ls, .double FP.dconst0 :: st, hp) else none
  | .ldc _ => if b = 0 then some (pc + 2, ls, .int (Int32.ofNat a) :: st, hp) else some (pc + 2, ls, .ref (amK + a) :: st, hp)
  | .ldc_w _ => if b = 0 then some (pc + 3, ls, .int (Int32.ofNat a) :: st, hp) else none
  | .ldc2_w _ => some (pc + 3, ls, .long (Int64.ofNat a) :: st, hp)
  | .iload k => (amLd amIsI ls k st).map (fun s => (pc + 2, ls, s, hp))
  | .iload_n k => (amLd amIsI ls k st).map (fun s => (pc + 1, ls, s, hp))
  | .lload k => (amLd amIsJ ls k st).map (fun s => (pc + 2, ls, s, hp))
  | .lload_n k => (amLd amIsJ ls k st).map (fun s => (pc + 1, ls, s, hp))
  | .dload k => (amLd amIsD ls k st).map (fun s => (pc + 2, ls, s, hp))
  | .dload_n k => (amLd amIsD ls k st).map (fun s => (pc + 1, ls, s, hp))
  | .aload k => (amLd amIsA ls k st).map (fun s => (pc + 2, ls, s, hp))
  | .aload_n k => (amLd amIsA ls k st).map (fun s => (pc + 1, ls, s, hp))
  | .istore k => (amSt1 amIsI nL ls k st).map (fun q => (pc + 2, q.1, q.2, hp))
  | .istore_n k => (amSt1 amIsI nL ls k st).map (fun q => (pc + 1, q.1, q.2, hp))
  | .lstore k => (amSt2 amIsJ nL ls k st).map (fun q => (pc + 2, q.1, q.2, hp))
  | .lstore_n k => (amSt2 amIsJ nL ls k st).map (fun q => (pc + 1, q.1, q.2, hp))
  | .dstore k => (amSt2 amIsD nL ls k st).map (fun q => (pc + 2, q.1, q.2, hp))
  | .astore k => (amSt1 amIsA nL ls k st).map (fun q => (pc + 2, q.1, q.2, hp))
  | .astore_n k => (amSt1 amIsA nL ls k st).map (fun q => (pc + 1, q.1, q.2, hp))
  | .iinc k n => (amInc nL ls k n).map (fun q => (pc + 3, q, st, hp))
  | .dup => match st with
    | v :: r => if v.category = 1 then some (pc + 1, ls, v :: v :: r, hp) else none
    | [] => none
  | .dup2 => match st with
    | v :: w :: r => if v.category = 1 ∧ w.category = 1 then some (pc + 1, ls, v :: w :: v :: w :: r, hp) else none
    | _ => none
  | .pop => match st with
    | v :: r => if v.category = 1 then some (pc + 1, ls, r, hp) else none
    | [] => none
  | .iadd => (amII (fun x y => x + y) st).map (fun s => (pc + 1, ls, s, hp))
  | .isub => (amII (fun x y => x - y) st).map (fun s => (pc + 1, ls, s, hp))
  | .imul => (amII (fun x y => x * y) st).map (fun s => (pc + 1, ls, s, hp))
  | .iand => (amII (fun x y => x &&& y) st).map (fun s => (pc + 1, ls, s, hp))
  | .ior => (amII (fun x y => x ||| y) st).map (fun s => (pc + 1, ls, s, hp))
  | .ixor => (amII (fun x y => x ^^^ y) st).map (fun s => (pc + 1, ls, s, hp))
  | .ishl => (amII (fun x y => x <<< (y &&& 31)) st).map (fun s => (pc + 1, ls, s, hp))
  | .ishr => (amII (fun x y => x >>> (y &&& 31)) st).map (fun s => (pc + 1, ls, s, hp))
  | .iushr => (amII (fun x y => (x.toUInt32 >>> (y.toUInt32 &&& Int32.toUInt32 31)).toInt32) st).map (fun s => (pc + 1, ls, s, hp))
  | .idiv => (amDiv (fun x y => x / y) st).map (fun s => (pc + 1, ls, s, hp))
  | .irem => (amDiv (fun x y => x - x / y * y) st).map (fun s => (pc + 1, ls, s, hp))
  | .ineg => (amI (fun x => .int (-x)) st).map (fun s => (pc + 1, ls, s, hp))
  | .i2b => (amI (fun x => .int x.toInt8.toInt32) st).map (fun s => (pc + 1, ls, s, hp))
  | .i2l => (amI (fun x => .long x.toInt64) st).map (fun s => (pc + 1, ls, s, hp))
  | .i2f => (amI (fun x => .float (FP.i2f x)) st).map (fun s => (pc + 1, ls, s, hp))
  | .i2d => (amI (fun x => .double (FP.i2d x)) st).map (fun s => (pc + 1, ls, s, hp))
  | .l2i => (amJ (fun x => .int x.toInt32) st).map (fun s => (pc + 1, ls, s, hp))
  | .lneg => (amJ (fun x => .long (-x)) st).map (fun s => (pc + 1, ls, s, hp))
  | .ladd => (amLL (fun x y => .long (x + y)) st).map (fun s => (pc + 1, ls, s, hp))
  | .lsub => (amLL (fun x y => .long (x - y)) st).map (fun s => (pc + 1, ls, s, hp))
  | .land => (amLL (fun x y => .long (x &&& y)) st).map (fun s => (pc + 1, ls, s, hp))
  | .lor => (amLL (fun x y => .long (x ||| y)) st).map (fun s => (pc + 1, ls, s, hp))
  | .lcmp => (amLL (fun x y => .int (lg_cmp x y)) st).map (fun s => (pc + 1, ls, s, hp))
  | .lshl => (amLI (fun x y => x <<< (y.toInt64 &&& 63)) st).map (fun s => (pc + 1, ls, s, hp))
  | .lshr => (amLI (fun x y => x >>> (y.toInt64 &&& 63)) st).map (fun s => (pc + 1, ls, s, hp))
  | .lushr => (amLI (fun x y => (x.toUInt64 >>> (y.toInt64.toUInt64 &&& Int64.toUInt64 63)).toInt64) st).map (fun s => (pc + 1, ls, s, hp))
  | .fdiv => match st with
    | .float y :: .float x :: r => if FP.fdiv x y &&& 0x7fffffff ≤ 0x7f800000 then some (pc + 1, ls, .float (FP.fdiv x y) :: r, hp) else none
    | _ => none
  | .ddiv => match st with
    | .double y :: .double x :: r => if FP.ddiv x y &&& 0x7fffffffffffffff ≤ 0x7ff0000000000000 then some (pc + 1, ls, .double (FP.ddiv x y) :: r, hp) else none
    | _ => none
  | .f2d => match st with
    | .float x :: r => if FP.f2d x &&& 0x7fffffffffffffff ≤ 0x7ff0000000000000 then some (pc + 1, ls, .double (FP.f2d x) :: r, hp) else none
    | _ => none
  | .dcmp op => match st with
    | .double y :: .double x :: r => some (pc + 1, ls, .int (Op.cmpValue (FP.dcmp x y) op) :: r, hp)
    | _ => none
  | .goto _ => some (a, ls, st, hp)
  | .ifCond c _ => (amIf (amIfP c) a (pc + 3) st).map (fun q => (q.1, ls, q.2, hp))
  | .if_icmp c _ => (amCmp (amCmpP c) a (pc + 3) st).map (fun q => (q.1, ls, q.2, hp))
  | .ifnull _ => match st with
    | .ref _ :: r => some (pc + 3, ls, r, hp)
    | .null :: r => some (a, ls, r, hp)
    | _ => none
  | .ifnonnull _ => match st with
    | .ref _ :: r => some (a, ls, r, hp)
    | .null :: r => some (pc + 3, ls, r, hp)
    | _ => none
  | .tableswitch d lo hi offs => (amTbl pc d lo hi offs st).map (fun q => (q.1, ls, q.2, hp))
  | .getfield _ => (amFGet a b hp st).map (fun s => (pc + 3, ls, s, hp))
  | .putfield _ => (amFSet a b (amFty a b) hp st).map (fun q => (pc + 3, ls, q.1, q.2))
  | .iaload => match amSc sc st with
    | some s => some (pc + 1, ls, s, hp)
    | none => (amALd 32 amIsI hp st).map (fun s => (pc + 1, ls, s, hp))
  | .laload => (amALd 33 amIsJ hp st).map (fun s => (pc + 1, ls, s, hp))
  | .baload => (amALd 34 amIsI hp st).map (fun s => (pc + 1, ls, s, hp))
  | .aaload => (amALd 35 amIsA hp st).map (fun s => (pc + 1, ls, s, hp))
  | .iastore => (amASt 32 amIsI id hp st).map (fun q => (pc + 1, ls, q.1, q.2))
  | .lastore => (amASt 33 amIsJ id hp st).map (fun q => (pc + 1, ls, q.1, q.2))
  | .bastore => (amASt 34 amIsI amNarB hp st).map (fun q => (pc + 1, ls, q.1, q.2))
  | .aastore => (amASt 35 (amIsSn hp) id hp st).map (fun q => (pc + 1, ls, q.1, q.2))
  | .arraylength => match amScLen sc st with
    | some s => some (pc + 1, ls, s, hp)
    | none => (amLen hp st).map (fun s => (pc + 1, ls, s, hp))
  | _ => none
end
section
/-! ===== the abstract machine's steps are the machine's ===== -/
/-- the text constants: class, place, text -/
def amStr : List (String × Nat × String) := [("TripleTrains$SetupText", 41, "points"), ("TripleTrains$SetupText", 60, "develop"), ("TripleTrains$SetupText", 62, "triple"), ("TripleTrains", 143, "no such number"), ("TripleTrains", 424, "no such triple"), ("TripleTrains", 151, "no such index"), ("TripleTrains", 420, "no such point"), ("TripleTrains", 422, "the same point twice"), ("TripleTrains", 189, "a negative index"), ("TripleTrains", 204, "a pair is covered"), ("TripleTrains", 219, "a pair would be covered twice"), ("TripleTrains", 426, "no such quadrilateral"), ("TripleTrains", 264, "not 1 to 20 times"), ("TripleTrains", 428, "no such cycle"), ("TripleTrains", 302, "no such trade"), ("TripleTrains", 430, "the system is not complete"), ("TripleTrains", 370, "other bits than those of points"), ("TripleTrains", 396, "the triple is in the system"), ("TripleTrains", 415, "no state is saved"), ("TripleTrainsModel", 245, "points"), ("TripleTrainsModel", 250, "triple"), ("TripleTrainsModel", 256, "develop")]
/-- an instruction's length; 0: any -/
def amSz : Instr → Nat
  | .bipush _ => 2
  | .sipush _ => 3
  | .ldc _ => 2
  | .ldc_w _ => 3
  | .ldc2_w _ => 3
  | .iload _ => 2
  | .lload _ => 2
  | .dload _ => 2
  | .aload _ => 2
  | .istore _ => 2
  | .lstore _ => 2
  | .dstore _ => 2
  | .astore _ => 2
  | .iinc _ _ => 3
  | .goto _ => 3
  | .ifCond _ _ => 3
  | .if_icmp _ _ => 3
  | .ifnull _ => 3
  | .ifnonnull _ => 3
  | .tableswitch _ _ _ _ => 0
  | .getfield _ => 3
  | .putfield _ => 3
  | .new _ => 3
  | .newarray _ => 2
  | .anewarray _ => 3
  | .invokevirtual _ => 3
  | .invokestatic _ => 3
  | .invokespecial _ => 3
  | _ => 1
/-- what an instruction is linked to, by the words -/
def amLk (Ts : List Jvm.Cond) (own : String) (ini : Bool) (pc : Nat) (i : Instr) (a b : Nat) : Prop :=
  match i with
  | .ldc k => (b = 0 → Jvm.Cond.constant own k (Int32.ofNat a) ∈ Ts) ∧ (b ≠ 0 → ∃ tx, amStr[a]? = some (own, k, tx))
  | .ldc_w k => b = 0 → Jvm.Cond.constant own k (Int32.ofNat a) ∈ Ts
  | .ldc2_w k => Jvm.Cond.constantLong own k (Int64.ofNat a) ∈ Ts
  | .goto o => (pc : Int) + o = (a : Int)
  | .ifCond _ o => (pc : Int) + o = (a : Int)
  | .if_icmp _ o => (pc : Int) + o = (a : Int)
  | .ifnull o => (pc : Int) + o = (a : Int)
  | .ifnonnull o => (pc : Int) + o = (a : Int)
  | .getfield k => ∃ r, vwCl[a]? = some r ∧ b < r.2.2 ∧ Jvm.Cond.fieldLink own k (r.2.1 b).1 (r.2.1 b).2.1 (r.2.1 b).2.2.1 ∈ Ts
  | .putfield k => ∃ r, vwCl[a]? = some r ∧ b < r.2.2 ∧ Jvm.Cond.fieldLink own k (r.2.1 b).1 (r.2.1 b).2.1 (r.2.1 b).2.2.1 ∈ Ts ∧ ((r.2.1 b).2.2.2 = true → ini = true ∧ (r.2.1 b).1 = own)
  | _ => True
theorem amE_obj {dA : Nat → ClassId} {ad : Nat → Nat} {ci : Nat} {fs : List Value} (h : ci < 32) : amE dA ad (ci, fs) = .inr (ci, fs.map (amV ad)) := by
  unfold amE
  dsimp only
  rw [if_neg (by omega), if_neg (by omega), if_neg (by omega), if_neg (by omega)]
theorem amIn_lt {i : Int32} {n : Nat} (h : vp_in i n) : i.toNatClampNeg < n := Nat.not_le.mp fun q => h (Or.inr q)
theorem am_set_i {c : List Value} {k : Nat} {v : Value} {x : Int32} (hk : k < c.length) (hv : amInt v = x) : (fun j => amInt ((c.set k v).getD j .null)) = upd (fun j => amInt (c.getD j .null)) k x := by
  funext j
  by_cases hj : j = k
  · subst hj
    simp [upd, hk, hv]
  · simp [upd, hj, List.getElem?_set, Ne.symm hj]
theorem am_set_l {c : List Value} {k : Nat} {v : Value} {x : Int64} (hk : k < c.length) (hv : amLong v = x) : (fun j => amLong ((c.set k v).getD j .null)) = vp_updL (fun j => amLong (c.getD j .null)) k x := by
  funext j
  by_cases hj : j = k
  · subst hj
    simp [vp_updL, hk, hv]
  · simp [vp_updL, hj, List.getElem?_set, Ne.symm hj]
theorem am_set_q {ad : Nat → Nat} {c : List Value} {k : Nat} {v : Value} {x : Nat} (hk : k < c.length) (hv : amRef ad v = some x) : (fun j => amRef ad ((c.set k v).getD j .null)) = va_up (fun j => amRef ad (c.getD j .null)) k (some x) := by
  funext j
  by_cases hj : j = k
  · subst hj
    simp [va_up, hk, hv]
  · simp [va_up, hj, List.getElem?_set, Ne.symm hj]
theorem amIsI_v {ad : Nat → Nat} {v : Value} (h : amIsI v = true) : amV ad v = .int (amInt v) := by cases v <;> first | rfl | cases h
theorem amIsJ_v {ad : Nat → Nat} {v : Value} (h : amIsJ v = true) : amV ad v = .long (amLong v) := by cases v <;> first | rfl | cases h
theorem amIsA_v {ad : Nat → Nat} {v : Value} (h : amIsA v = true) : amV ad v = va_rf (amRef ad v) := by cases v <;> first | rfl | cases h
/-- the classes' tables -/
def amClOk : Prop := ∀ (ci : Nat) (r : vw_C), vwCl[ci]? = some r → (∀ k, k < r.2.2 → parseFieldDescriptor (r.2.1 k).2.2.1 = some (amFty ci k)) ∧ (∀ a, a < r.2.2 → ∀ b, b < r.2.2 → a ≠ b → (r.2.1 a).2.1 ≠ (r.2.1 b).2.1)
section AMS
variable {p : Program} {l : Launch} {e : Env} {R : Room} {s : State} {m : MethodId} {args : Array Value} {below : List Frame} {meth : Method} {c : Code} {H : Heap} {locs : List Loc} {cells slots : Nat} {Q : State → Prop}
variable {cc : ByteArray} {D : va_G} {dA : Nat → ClassId} {A : Nat → Prop} {H0 : Heap}
set_option maxHeartbeats 4000000 in
set_option maxRecDepth 20000 in
theorem amStep_ok (hx : p.tables.exec = Jvm.exec) (hb : c.code = cc) {Ts : List Jvm.Cond} (hts : ∀ w ∈ Ts, w.before args s = true) {own : String} (hown : s.vm.findClass own = some m.cls) (hK : va_K D vwCl (amTys dA) s) (hus : ∀ (ci : Nat) (r : vw_C), vwCl[ci]? = some r → ∀ w ∈ u_ws r.1 r.2.1 r.2.2, w ∈ Ts) (hcl : amClOk) {ini : Bool} (hini : ini = true → meth.name = "<init>") {sA : Nat → Nat} (hstr : ∀ (k : Nat) (r : String × Nat × String), amStr[k]? = some r → vk_R r.1 r.2.1 r.2.2 (sA k) s) {sc : Option (List Int32)} {ad : Nat → Nat} (hsA : ∀ k, ad (amK + k) = sA k) (hsc : ∀ l9, sc = some l9 → va_X (ad amS) l9.length (fun j => l9.getD j 0) s H0 ∧ ad amS < H0.size ∧ ¬ A (ad amS))
    {nL pc a b : Nat} {i : Instr} (hd : ∃ n, decode cc pc = .ok (i, n) ∧ (amSz i = 0 ∨ n = amSz i)) (hlk : amLk Ts own ini pc i a b) {ls : amL} {st : List Value} {hp : amH} {r : amR} (h : amStep sc nL i a b pc ls st hp = some r) {lsA : Array Slot} (hl : lv_has lsA nL (amLs ad ls)) (hP : va_P D vwCl (amW dA ad hp) H) (hD : va_D A (amW dA ad hp)) (hS : va_S A H0 H locs)
    (kk : ∀ (H1 : Heap) (locs1 : List Loc) (lsA1 : Array Slot), va_P D vwCl (amW dA ad r.2.2.2) H1 → va_D A (amW dA ad r.2.2.2) → va_S A H0 H1 locs1 → lv_has lsA1 nL (amLs ad r.2.1) → W p l e R s m args below meth c H1 locs1 cells slots Q (F0 m r.1 lsA1 (r.2.2.1.map (amV ad)))) :
    W p l e R s m args below meth c H locs cells slots Q (F0 m pc lsA (st.map (amV ad))) := by
  obtain ⟨n, hd, hn⟩ := hd
  cases i
  all_goals first
    | exact absurd (show (none : Option amR) = some r from h) (by intro z; cases z)
    | skip
  case iconst z =>
    obtain rfl : n = 1 := by rcases hn with hn | hn <;> first | exact hn | cases hn
    cases h
    exact lv_iconst hx hb hd rfl (kk H locs lsA hP hD hS hl)
  case bipush z =>
    obtain rfl : n = 2 := by rcases hn with hn | hn <;> first | exact hn | cases hn
    cases h
    exact lv_bipush hx hb hd rfl (kk H locs lsA hP hD hS hl)
  case sipush z =>
    obtain rfl : n = 3 := by rcases hn with hn | hn <;> first | exact hn | cases hn
    cases h
    exact lv_sipush hx hb hd rfl (kk H locs lsA hP hD hS hl)
  case lconst z =>
    obtain rfl : n = 1 := by rcases hn with hn | hn <;> first | exact hn | cases hn
    cases h
    exact lv_lconst hx hb hd rfl (kk H locs lsA hP hD hS hl)
  case fconst z =>
    obtain rfl : n = 1 := by rcases hn with hn | hn <;> first | exact hn | cases hn
    simp only [amStep] at h
    split at h
    · next e => subst e; cases h; exact lv_fconst0 hx hb hd (kk H locs lsA hP hD hS hl)
    · cases h
  case dconst z =>
    obtain rfl : n = 1 := by rcases hn with hn | hn <;> first | exact hn | cases hn
    simp only [amStep] at h
    split at h
    · next e => subst e; cases h; exact lv_dconst0 hx hb hd (kk H locs lsA hP hD hS hl)
    · cases h
  case ldc z =>
    obtain rfl : n = 2 := by rcases hn with hn | hn <;> first | exact hn | cases hn
    simp only [amStep] at h
    split at h
    · next e => cases h; exact lv_ldc hx hb hown (hts _ (hlk.1 e)) hd (kk H locs lsA hP hD hS hl)
    · next e =>
      cases h
      obtain ⟨tx, ht⟩ := hlk.2 e
      have k0 := kk H locs lsA hP hD hS hl
      have e2 : amV ad (.ref (amK + a)) = .ref (sA a) := by show Value.ref (ad (amK + a)) = _; rw [hsA]
      exact va_ldcS hx hb hown (hstr _ _ ht) hd (W.eq (congrArg (fun v => F0 m (pc + 2) lsA (v :: st.map (amV ad))) e2.symm) k0)
  case ldc_w z =>
    obtain rfl : n = 3 := by rcases hn with hn | hn <;> first | exact hn | cases hn
    simp only [amStep] at h
    split at h
    · next e => cases h; exact lv_ldcw hx hb hown (hts _ (hlk e)) hd (kk H locs lsA hP hD hS hl)
    · cases h
  case ldc2_w z =>
    obtain rfl : n = 3 := by rcases hn with hn | hn <;> first | exact hn | cases hn
    cases h
    exact lv_ldc2 hx hb hown (hts _ hlk) hd (kk H locs lsA hP hD hS hl)
  case iload k =>
    obtain rfl : n = 2 := by rcases hn with hn | hn <;> first | exact hn | cases hn
    simp only [amStep] at h
    obtain ⟨s1, h1, rfl⟩ := Option.map_eq_some_iff.mp h
    obtain ⟨v, hv, hp1, rfl⟩ := amLd_s h1
    obtain ⟨x, rfl⟩ := amIsI_s hp1
    exact lv_iload hx hb hd (amGet_has hl hv) (kk H locs lsA hP hD hS hl)
  case iload_n k =>
    obtain rfl : n = 1 := by rcases hn with hn | hn <;> first | exact hn | cases hn
    simp only [amStep] at h
    obtain ⟨s1, h1, rfl⟩ := Option.map_eq_some_iff.mp h
    obtain ⟨v, hv, hp1, rfl⟩ := amLd_s h1
    obtain ⟨x, rfl⟩ := amIsI_s hp1
    exact lv_iload_n hx hb hd rfl (amGet_has hl hv) (kk H locs lsA hP hD hS hl)
  case lload k =>
    obtain rfl : n = 2 := by rcases hn with hn | hn <;> first | exact hn | cases hn
    simp only [amStep] at h
    obtain ⟨s1, h1, rfl⟩ := Option.map_eq_some_iff.mp h
    obtain ⟨v, hv, hp1, rfl⟩ := amLd_s h1
    obtain ⟨x, rfl⟩ := amIsJ_s hp1
    exact lv_lload hx hb hd (amGet_has hl hv) (kk H locs lsA hP hD hS hl)
  case lload_n k =>
    obtain rfl : n = 1 := by rcases hn with hn | hn <;> first | exact hn | cases hn
    simp only [amStep] at h
    obtain ⟨s1, h1, rfl⟩ := Option.map_eq_some_iff.mp h
    obtain ⟨v, hv, hp1, rfl⟩ := amLd_s h1
    obtain ⟨x, rfl⟩ := amIsJ_s hp1
    exact lv_lload_n hx hb hd rfl (amGet_has hl hv) (kk H locs lsA hP hD hS hl)
  case dload k =>
    obtain rfl : n = 2 := by rcases hn with hn | hn <;> first | exact hn | cases hn
    simp only [amStep] at h
    obtain ⟨s1, h1, rfl⟩ := Option.map_eq_some_iff.mp h
    obtain ⟨v, hv, hp1, rfl⟩ := amLd_s h1
    obtain ⟨x, rfl⟩ := amIsD_s hp1
    exact lv_dload hx hb hd (amGet_has hl hv) (kk H locs lsA hP hD hS hl)
  case dload_n k =>
    obtain rfl : n = 1 := by rcases hn with hn | hn <;> first | exact hn | cases hn
    simp only [amStep] at h
    obtain ⟨s1, h1, rfl⟩ := Option.map_eq_some_iff.mp h
    obtain ⟨v, hv, hp1, rfl⟩ := amLd_s h1
    obtain ⟨x, rfl⟩ := amIsD_s hp1
    exact lv_dload_n hx hb hd rfl (amGet_has hl hv) (kk H locs lsA hP hD hS hl)
  case aload k =>
    obtain rfl : n = 2 := by rcases hn with hn | hn <;> first | exact hn | cases hn
    simp only [amStep] at h
    obtain ⟨s1, h1, rfl⟩ := Option.map_eq_some_iff.mp h
    obtain ⟨v, hv, hp1, rfl⟩ := amLd_s h1
    rcases amIsA_s hp1 with rfl | ⟨x, rfl⟩
    · exact lv_aloadN hx hb hd (amGet_has hl hv) (kk H locs lsA hP hD hS hl)
    · exact lv_aload hx hb hd (amGet_has hl hv) (kk H locs lsA hP hD hS hl)
  case aload_n k =>
    obtain rfl : n = 1 := by rcases hn with hn | hn <;> first | exact hn | cases hn
    simp only [amStep] at h
    obtain ⟨s1, h1, rfl⟩ := Option.map_eq_some_iff.mp h
    obtain ⟨v, hv, hp1, rfl⟩ := amLd_s h1
    rcases amIsA_s hp1 with rfl | ⟨x, rfl⟩
    · exact lv_aload_nN hx hb hd rfl (amGet_has hl hv) (kk H locs lsA hP hD hS hl)
    · exact lv_aload_n hx hb hd rfl (amGet_has hl hv) (kk H locs lsA hP hD hS hl)
  case istore k =>
    obtain rfl : n = 2 := by rcases hn with hn | hn <;> first | exact hn | cases hn
    simp only [amStep] at h
    obtain ⟨s1, h1, rfl⟩ := Option.map_eq_some_iff.mp h
    obtain ⟨v, q, rfl, hp1, hk, rfl⟩ := amSt1_s h1
    obtain ⟨x, rfl⟩ := amIsI_s hp1
    exact lv_istore hx hb hd hl hk (amSet1_ls ad ls k (.int x)) (fun ls1 hl1 => kk H locs ls1 hP hD hS hl1)
  case istore_n k =>
    obtain rfl : n = 1 := by rcases hn with hn | hn <;> first | exact hn | cases hn
    simp only [amStep] at h
    obtain ⟨s1, h1, rfl⟩ := Option.map_eq_some_iff.mp h
    obtain ⟨v, q, rfl, hp1, hk, rfl⟩ := amSt1_s h1
    obtain ⟨x, rfl⟩ := amIsI_s hp1
    exact lv_istore_n hx hb hd rfl hl hk (amSet1_ls ad ls (k : Nat) (.int x)) (fun ls1 hl1 => kk H locs ls1 hP hD hS hl1)
  case lstore k =>
    obtain rfl : n = 2 := by rcases hn with hn | hn <;> first | exact hn | cases hn
    simp only [amStep] at h
    obtain ⟨s1, h1, rfl⟩ := Option.map_eq_some_iff.mp h
    obtain ⟨v, q, rfl, hp1, hk, rfl⟩ := amSt2_s h1
    obtain ⟨x, rfl⟩ := amIsJ_s hp1
    exact lv_lstore hx hb hd hl hk (amSet2_ls ad ls k (.long x)) (fun ls1 hl1 => kk H locs ls1 hP hD hS hl1)
  case lstore_n k =>
    obtain rfl : n = 1 := by rcases hn with hn | hn <;> first | exact hn | cases hn
    simp only [amStep] at h
    obtain ⟨s1, h1, rfl⟩ := Option.map_eq_some_iff.mp h
    obtain ⟨v, q, rfl, hp1, hk, rfl⟩ := amSt2_s h1
    obtain ⟨x, rfl⟩ := amIsJ_s hp1
    exact lv_lstore_n hx hb hd rfl hl hk (amSet2_ls ad ls (k : Nat) (.long x)) (fun ls1 hl1 => kk H locs ls1 hP hD hS hl1)
  case dstore k =>
    obtain rfl : n = 2 := by rcases hn with hn | hn <;> first | exact hn | cases hn
    simp only [amStep] at h
    obtain ⟨s1, h1, rfl⟩ := Option.map_eq_some_iff.mp h
    obtain ⟨v, q, rfl, hp1, hk, rfl⟩ := amSt2_s h1
    obtain ⟨x, rfl⟩ := amIsD_s hp1
    exact lv_dstore hx hb hd hl hk (amSet2_ls ad ls k (.double x)) (fun ls1 hl1 => kk H locs ls1 hP hD hS hl1)
  case astore k =>
    obtain rfl : n = 2 := by rcases hn with hn | hn <;> first | exact hn | cases hn
    simp only [amStep] at h
    obtain ⟨s1, h1, rfl⟩ := Option.map_eq_some_iff.mp h
    obtain ⟨v, q, rfl, hp1, hk, rfl⟩ := amSt1_s h1
    rcases amIsA_s hp1 with rfl | ⟨x, rfl⟩
    · exact lv_astoreN hx hb hd hl hk (amSet1_ls ad ls k .null) (fun ls1 hl1 => kk H locs ls1 hP hD hS hl1)
    · exact lv_astore hx hb hd hl hk (amSet1_ls ad ls k (.ref x)) (fun ls1 hl1 => kk H locs ls1 hP hD hS hl1)
  case astore_n k =>
    obtain rfl : n = 1 := by rcases hn with hn | hn <;> first | exact hn | cases hn
    simp only [amStep] at h
    obtain ⟨s1, h1, rfl⟩ := Option.map_eq_some_iff.mp h
    obtain ⟨v, q, rfl, hp1, hk, rfl⟩ := amSt1_s h1
    rcases amIsA_s hp1 with rfl | ⟨x, rfl⟩
    · exact lv_astore_nN hx hb hd rfl hl hk (amSet1_ls ad ls (k : Nat) .null) (fun ls1 hl1 => kk H locs ls1 hP hD hS hl1)
    · exact lv_astore_n hx hb hd rfl hl hk (amSet1_ls ad ls (k : Nat) (.ref x)) (fun ls1 hl1 => kk H locs ls1 hP hD hS hl1)
  case iinc k z =>
    obtain rfl : n = 3 := by rcases hn with hn | hn <;> first | exact hn | cases hn
    simp only [amStep] at h
    obtain ⟨s1, h1, rfl⟩ := Option.map_eq_some_iff.mp h
    obtain ⟨x, hv, hk, rfl⟩ := amInc_s h1
    obtain ⟨j, hj⟩ := List.getElem?_of_mem (amLs_mem (ad := ad) (amGet_mem hv))
    exact lv_iinc hx hb hd hl hj rfl hk (amSet1_ls ad ls k (.int (x + Int32.ofInt z))) (fun ls1 hl1 => kk H locs ls1 hP hD hS hl1)
  case dup =>
    obtain rfl : n = 1 := by rcases hn with hn | hn <;> first | exact hn | cases hn
    simp only [amStep] at h
    split at h
    · split at h
      · next v q e => cases h; exact lv_dup hx hb hd (by rw [amV_cat]; exact e) (kk H locs lsA hP hD hS hl)
      · cases h
    · cases h
  case dup2 =>
    obtain rfl : n = 1 := by rcases hn with hn | hn <;> first | exact hn | cases hn
    simp only [amStep] at h
    split at h
    · split at h
      · next v w q e => cases h; exact lv_dup2_11 hx hb hd (by rw [amV_cat]; exact e.1) (by rw [amV_cat]; exact e.2) (kk H locs lsA hP hD hS hl)
      · cases h
    · cases h
  case pop =>
    obtain rfl : n = 1 := by rcases hn with hn | hn <;> first | exact hn | cases hn
    simp only [amStep] at h
    split at h
    · split at h
      · next v q e => cases h; exact lv_pop hx hb hd (by rw [amV_cat]; exact e) (kk H locs lsA hP hD hS hl)
      · cases h
    · cases h
  case iadd =>
    obtain rfl : n = 1 := by rcases hn with hn | hn <;> first | exact hn | cases hn
    simp only [amStep] at h
    obtain ⟨s1, h1, rfl⟩ := Option.map_eq_some_iff.mp h
    obtain ⟨x, y, q, rfl, rfl⟩ := amII_s h1
    exact lv_iadd hx hb hd (kk H locs lsA hP hD hS hl)
  case isub =>
    obtain rfl : n = 1 := by rcases hn with hn | hn <;> first | exact hn | cases hn
    simp only [amStep] at h
    obtain ⟨s1, h1, rfl⟩ := Option.map_eq_some_iff.mp h
    obtain ⟨x, y, q, rfl, rfl⟩ := amII_s h1
    exact lv_isub hx hb hd (kk H locs lsA hP hD hS hl)
  case imul =>
    obtain rfl : n = 1 := by rcases hn with hn | hn <;> first | exact hn | cases hn
    simp only [amStep] at h
    obtain ⟨s1, h1, rfl⟩ := Option.map_eq_some_iff.mp h
    obtain ⟨x, y, q, rfl, rfl⟩ := amII_s h1
    exact lv_imul hx hb hd (kk H locs lsA hP hD hS hl)
  case iand =>
    obtain rfl : n = 1 := by rcases hn with hn | hn <;> first | exact hn | cases hn
    simp only [amStep] at h
    obtain ⟨s1, h1, rfl⟩ := Option.map_eq_some_iff.mp h
    obtain ⟨x, y, q, rfl, rfl⟩ := amII_s h1
    exact lv_iand hx hb hd (kk H locs lsA hP hD hS hl)
  case ior =>
    obtain rfl : n = 1 := by rcases hn with hn | hn <;> first | exact hn | cases hn
    simp only [amStep] at h
    obtain ⟨s1, h1, rfl⟩ := Option.map_eq_some_iff.mp h
    obtain ⟨x, y, q, rfl, rfl⟩ := amII_s h1
    exact lv_ior hx hb hd (kk H locs lsA hP hD hS hl)
  case ixor =>
    obtain rfl : n = 1 := by rcases hn with hn | hn <;> first | exact hn | cases hn
    simp only [amStep] at h
    obtain ⟨s1, h1, rfl⟩ := Option.map_eq_some_iff.mp h
    obtain ⟨x, y, q, rfl, rfl⟩ := amII_s h1
    exact lv_ixor hx hb hd (kk H locs lsA hP hD hS hl)
  case ishl =>
    obtain rfl : n = 1 := by rcases hn with hn | hn <;> first | exact hn | cases hn
    simp only [amStep] at h
    obtain ⟨s1, h1, rfl⟩ := Option.map_eq_some_iff.mp h
    obtain ⟨x, y, q, rfl, rfl⟩ := amII_s h1
    exact lv_ishl hx hb hd (kk H locs lsA hP hD hS hl)
  case ishr =>
    obtain rfl : n = 1 := by rcases hn with hn | hn <;> first | exact hn | cases hn
    simp only [amStep] at h
    obtain ⟨s1, h1, rfl⟩ := Option.map_eq_some_iff.mp h
    obtain ⟨x, y, q, rfl, rfl⟩ := amII_s h1
    exact lv_ishr hx hb hd (kk H locs lsA hP hD hS hl)
  case iushr =>
    obtain rfl : n = 1 := by rcases hn with hn | hn <;> first | exact hn | cases hn
    simp only [amStep] at h
    obtain ⟨s1, h1, rfl⟩ := Option.map_eq_some_iff.mp h
    obtain ⟨x, y, q, rfl, rfl⟩ := amII_s h1
    exact lv_iushr hx hb hd rfl (kk H locs lsA hP hD hS hl)
  case idiv =>
    obtain rfl : n = 1 := by rcases hn with hn | hn <;> first | exact hn | cases hn
    simp only [amStep] at h
    obtain ⟨s1, h1, rfl⟩ := Option.map_eq_some_iff.mp h
    obtain ⟨x, y, q, rfl, hne, rfl⟩ := amDiv_s h1
    exact lv_idiv hx hb hd hne (kk H locs lsA hP hD hS hl)
  case irem =>
    obtain rfl : n = 1 := by rcases hn with hn | hn <;> first | exact hn | cases hn
    simp only [amStep] at h
    obtain ⟨s1, h1, rfl⟩ := Option.map_eq_some_iff.mp h
    obtain ⟨x, y, q, rfl, hne, rfl⟩ := amDiv_s h1
    exact lv_irem hx hb hd hne (kk H locs lsA hP hD hS hl)
  case ineg =>
    obtain rfl : n = 1 := by rcases hn with hn | hn <;> first | exact hn | cases hn
    simp only [amStep] at h
    obtain ⟨s1, h1, rfl⟩ := Option.map_eq_some_iff.mp h
    obtain ⟨x, q, rfl, rfl⟩ := amI_s h1
    exact lv_ineg hx hb hd (kk H locs lsA hP hD hS hl)
  case i2b =>
    obtain rfl : n = 1 := by rcases hn with hn | hn <;> first | exact hn | cases hn
    simp only [amStep] at h
    obtain ⟨s1, h1, rfl⟩ := Option.map_eq_some_iff.mp h
    obtain ⟨x, q, rfl, rfl⟩ := amI_s h1
    exact lv_i2b hx hb hd rfl (kk H locs lsA hP hD hS hl)
  case i2l =>
    obtain rfl : n = 1 := by rcases hn with hn | hn <;> first | exact hn | cases hn
    simp only [amStep] at h
    obtain ⟨s1, h1, rfl⟩ := Option.map_eq_some_iff.mp h
    obtain ⟨x, q, rfl, rfl⟩ := amI_s h1
    exact lv_i2l hx hb hd rfl (kk H locs lsA hP hD hS hl)
  case i2f =>
    obtain rfl : n = 1 := by rcases hn with hn | hn <;> first | exact hn | cases hn
    simp only [amStep] at h
    obtain ⟨s1, h1, rfl⟩ := Option.map_eq_some_iff.mp h
    obtain ⟨x, q, rfl, rfl⟩ := amI_s h1
    exact lv_i2f hx hb hd (kk H locs lsA hP hD hS hl)
  case i2d =>
    obtain rfl : n = 1 := by rcases hn with hn | hn <;> first | exact hn | cases hn
    simp only [amStep] at h
    obtain ⟨s1, h1, rfl⟩ := Option.map_eq_some_iff.mp h
    obtain ⟨x, q, rfl, rfl⟩ := amI_s h1
    exact lv_i2d hx hb hd (kk H locs lsA hP hD hS hl)
  case l2i =>
    obtain rfl : n = 1 := by rcases hn with hn | hn <;> first | exact hn | cases hn
    simp only [amStep] at h
    obtain ⟨s1, h1, rfl⟩ := Option.map_eq_some_iff.mp h
    obtain ⟨x, q, rfl, rfl⟩ := amJ_s h1
    exact lv_l2i hx hb hd rfl (kk H locs lsA hP hD hS hl)
  case lneg =>
    obtain rfl : n = 1 := by rcases hn with hn | hn <;> first | exact hn | cases hn
    simp only [amStep] at h
    obtain ⟨s1, h1, rfl⟩ := Option.map_eq_some_iff.mp h
    obtain ⟨x, q, rfl, rfl⟩ := amJ_s h1
    exact lv_lneg hx hb hd (kk H locs lsA hP hD hS hl)
  case ladd =>
    obtain rfl : n = 1 := by rcases hn with hn | hn <;> first | exact hn | cases hn
    simp only [amStep] at h
    obtain ⟨s1, h1, rfl⟩ := Option.map_eq_some_iff.mp h
    obtain ⟨x, y, q, rfl, rfl⟩ := amLL_s h1
    exact lv_ladd hx hb hd (kk H locs lsA hP hD hS hl)
  case lsub =>
    obtain rfl : n = 1 := by rcases hn with hn | hn <;> first | exact hn | cases hn
    simp only [amStep] at h
    obtain ⟨s1, h1, rfl⟩ := Option.map_eq_some_iff.mp h
    obtain ⟨x, y, q, rfl, rfl⟩ := amLL_s h1
    exact lv_lsub hx hb hd (kk H locs lsA hP hD hS hl)
  case land =>
    obtain rfl : n = 1 := by rcases hn with hn | hn <;> first | exact hn | cases hn
    simp only [amStep] at h
    obtain ⟨s1, h1, rfl⟩ := Option.map_eq_some_iff.mp h
    obtain ⟨x, y, q, rfl, rfl⟩ := amLL_s h1
    exact lv_land hx hb hd (kk H locs lsA hP hD hS hl)
  case lor =>
    obtain rfl : n = 1 := by rcases hn with hn | hn <;> first | exact hn | cases hn
    simp only [amStep] at h
    obtain ⟨s1, h1, rfl⟩ := Option.map_eq_some_iff.mp h
    obtain ⟨x, y, q, rfl, rfl⟩ := amLL_s h1
    exact lv_lor hx hb hd (kk H locs lsA hP hD hS hl)
  case lcmp =>
    obtain rfl : n = 1 := by rcases hn with hn | hn <;> first | exact hn | cases hn
    simp only [amStep] at h
    obtain ⟨s1, h1, rfl⟩ := Option.map_eq_some_iff.mp h
    obtain ⟨x, y, q, rfl, rfl⟩ := amLL_s h1
    exact W.lcmp hx hb hd (kk H locs lsA hP hD hS hl)
  case lshl =>
    obtain rfl : n = 1 := by rcases hn with hn | hn <;> first | exact hn | cases hn
    simp only [amStep] at h
    obtain ⟨s1, h1, rfl⟩ := Option.map_eq_some_iff.mp h
    obtain ⟨x, y, q, rfl, rfl⟩ := amLI_s h1
    exact lv_lshl hx hb hd rfl (kk H locs lsA hP hD hS hl)
  case lshr =>
    obtain rfl : n = 1 := by rcases hn with hn | hn <;> first | exact hn | cases hn
    simp only [amStep] at h
    obtain ⟨s1, h1, rfl⟩ := Option.map_eq_some_iff.mp h
    obtain ⟨x, y, q, rfl, rfl⟩ := amLI_s h1
    exact lv_lshr hx hb hd rfl (kk H locs lsA hP hD hS hl)
  case lushr =>
    obtain rfl : n = 1 := by rcases hn with hn | hn <;> first | exact hn | cases hn
    simp only [amStep] at h
    obtain ⟨s1, h1, rfl⟩ := Option.map_eq_some_iff.mp h
    obtain ⟨x, y, q, rfl, rfl⟩ := amLI_s h1
    exact lv_lushr hx hb hd rfl (kk H locs lsA hP hD hS hl)
  case fdiv =>
    obtain rfl : n = 1 := by rcases hn with hn | hn <;> first | exact hn | cases hn
    simp only [amStep] at h
    split at h
    · split at h
      · next e => cases h; exact lv_fdiv hx hb hd e (kk H locs lsA hP hD hS hl)
      · cases h
    · cases h
  case ddiv =>
    obtain rfl : n = 1 := by rcases hn with hn | hn <;> first | exact hn | cases hn
    simp only [amStep] at h
    split at h
    · split at h
      · next e => cases h; exact lv_ddiv hx hb hd e (kk H locs lsA hP hD hS hl)
      · cases h
    · cases h
  case f2d =>
    obtain rfl : n = 1 := by rcases hn with hn | hn <;> first | exact hn | cases hn
    simp only [amStep] at h
    split at h
    · split at h
      · next e => cases h; exact lv_f2d hx hb hd e (kk H locs lsA hP hD hS hl)
      · cases h
    · cases h
  case dcmp op =>
    obtain rfl : n = 1 := by rcases hn with hn | hn <;> first | exact hn | cases hn
    simp only [amStep] at h
    split at h
    · cases h; exact lv_dcmp hx hb hd (kk H locs lsA hP hD hS hl)
    · cases h
  case goto z =>
    obtain rfl : n = 3 := by rcases hn with hn | hn <;> first | exact hn | cases hn
    cases h
    exact lv_goto hx hb hd hlk (kk H locs lsA hP hD hS hl)
  case ifCond cd z =>
    obtain rfl : n = 3 := by rcases hn with hn | hn <;> first | exact hn | cases hn
    simp only [amStep] at h
    obtain ⟨s1, h1, rfl⟩ := Option.map_eq_some_iff.mp h
    obtain ⟨x, q, rfl, rfl⟩ := amIf_s h1
    have k0 := kk H locs lsA hP hD hS hl
    dsimp only at k0
    cases cd
    case eq => exact lv_if_eq hx hb hd hlk (fun e2 => by rw [show amIfP .eq x = true from decide_eq_true e2, if_pos rfl] at k0; exact k0) (fun e2 => by rw [show amIfP .eq x = false from decide_eq_false e2, if_neg (by decide)] at k0; exact k0)
    case ne => exact lv_if_ne hx hb hd hlk (fun e2 => by rw [show amIfP .ne x = true from decide_eq_true e2, if_pos rfl] at k0; exact k0) (fun e2 => by rw [show amIfP .ne x = false from decide_eq_false (fun z => z e2), if_neg (by decide)] at k0; exact k0)
    case lt => exact lv_if_lt hx hb hd hlk (fun e2 => by rw [show amIfP .lt x = true from decide_eq_true e2, if_pos rfl] at k0; exact k0) (fun e2 => by rw [show amIfP .lt x = false from decide_eq_false e2, if_neg (by decide)] at k0; exact k0)
    case ge => exact lv_if_ge hx hb hd hlk (fun e2 => by rw [show amIfP .ge x = true from decide_eq_true e2, if_pos rfl] at k0; exact k0) (fun e2 => by rw [show amIfP .ge x = false from decide_eq_false e2, if_neg (by decide)] at k0; exact k0)
    case gt => exact lv_if_gt hx hb hd hlk (fun e2 => by rw [show amIfP .gt x = true from decide_eq_true e2, if_pos rfl] at k0; exact k0) (fun e2 => by rw [show amIfP .gt x = false from decide_eq_false e2, if_neg (by decide)] at k0; exact k0)
    case le => exact lv_if_le hx hb hd hlk (fun e2 => by rw [show amIfP .le x = true from decide_eq_true e2, if_pos rfl] at k0; exact k0) (fun e2 => by rw [show amIfP .le x = false from decide_eq_false e2, if_neg (by decide)] at k0; exact k0)
  case if_icmp cd z =>
    obtain rfl : n = 3 := by rcases hn with hn | hn <;> first | exact hn | cases hn
    simp only [amStep] at h
    obtain ⟨s1, h1, rfl⟩ := Option.map_eq_some_iff.mp h
    obtain ⟨x, y, q, rfl, rfl⟩ := amCmp_s h1
    have k0 := kk H locs lsA hP hD hS hl
    dsimp only at k0
    cases cd
    case eq => exact lv_icmp_eq hx hb hd hlk (fun e2 => by rw [show amCmpP .eq x y = true from decide_eq_true e2, if_pos rfl] at k0; exact k0) (fun e2 => by rw [show amCmpP .eq x y = false from decide_eq_false e2, if_neg (by decide)] at k0; exact k0)
    case ne => exact lv_icmp_ne hx hb hd hlk (fun e2 => by rw [show amCmpP .ne x y = true from decide_eq_true e2, if_pos rfl] at k0; exact k0) (fun e2 => by rw [show amCmpP .ne x y = false from decide_eq_false (fun z => z e2), if_neg (by decide)] at k0; exact k0)
    case lt => exact lv_icmp_lt hx hb hd hlk (fun e2 => by rw [show amCmpP .lt x y = true from decide_eq_true e2, if_pos rfl] at k0; exact k0) (fun e2 => by rw [show amCmpP .lt x y = false from decide_eq_false e2, if_neg (by decide)] at k0; exact k0)
    case ge => exact lv_icmp_ge hx hb hd hlk (fun e2 => by rw [show amCmpP .ge x y = true from decide_eq_true e2, if_pos rfl] at k0; exact k0) (fun e2 => by rw [show amCmpP .ge x y = false from decide_eq_false e2, if_neg (by decide)] at k0; exact k0)
    case gt => exact lv_icmp_gt hx hb hd hlk (fun e2 => by rw [show amCmpP .gt x y = true from decide_eq_true e2, if_pos rfl] at k0; exact k0) (fun e2 => by rw [show amCmpP .gt x y = false from decide_eq_false e2, if_neg (by decide)] at k0; exact k0)
    case le => exact lv_icmp_le hx hb hd hlk (fun e2 => by rw [show amCmpP .le x y = true from decide_eq_true e2, if_pos rfl] at k0; exact k0) (fun e2 => by rw [show amCmpP .le x y = false from decide_eq_false e2, if_neg (by decide)] at k0; exact k0)
  case ifnull z =>
    obtain rfl : n = 3 := by rcases hn with hn | hn <;> first | exact hn | cases hn
    simp only [amStep] at h
    split at h
    · cases h; exact lv_ifnull hx hb hd (kk H locs lsA hP hD hS hl)
    · cases h; exact lv_ifnullN hx hb hd hlk (kk H locs lsA hP hD hS hl)
    · cases h
  case ifnonnull z =>
    obtain rfl : n = 3 := by rcases hn with hn | hn <;> first | exact hn | cases hn
    simp only [amStep] at h
    split at h
    · cases h; exact lv_ifnonnull hx hb hd hlk (kk H locs lsA hP hD hS hl)
    · cases h; exact lv_ifnonnullN hx hb hd (kk H locs lsA hP hD hS hl)
    · cases h
  case tableswitch d lo hi offs =>
    simp only [amStep] at h
    obtain ⟨s1, h1, rfl⟩ := Option.map_eq_some_iff.mp h
    unfold amTbl at h1
    split at h1
    · next x q =>
      split at h1
      · next o ho =>
        split at h1
        · next e =>
          cases h1
          by_cases hr : x.toInt < lo ∨ hi < x.toInt
          · unfold amOff at ho
            rw [if_pos hr] at ho
            cases ho
            exact lv_tableOut hx hb hd hr (Int.toNat_of_nonneg e).symm (kk H locs lsA hP hD hS hl)
          · unfold amOff at ho
            rw [if_neg hr] at ho
            exact lv_tableIn hx hb hd (fun z => hr (Or.inl z)) (fun z => hr (Or.inr z)) ho (Int.toNat_of_nonneg e).symm (kk H locs lsA hP hD hS hl)
        · cases h1
      · cases h1
    · cases h1
  case getfield k =>
    obtain rfl : n = 3 := by rcases hn with hn | hn <;> first | exact hn | cases hn
    simp only [amStep] at h
    obtain ⟨s1, h1, rfl⟩ := Option.map_eq_some_iff.mp h
    obtain ⟨o, q, fs, v, rfl, hc, hlt, hv, rfl⟩ := amFGet_s h1
    obtain ⟨⟨C, T, N⟩, hr, hkN, hw⟩ := hlk
    have hg := amW_get (dA := dA) (ad := ad) hc
    rw [amE_obj hlt] at hg
    exact va_get (D := D) hx hb hts (hus _ _ hr) hown hK hP o hg hr b hkN (hts _ hw) (fun _ h => h) (v := amV ad v) (by simp [hv]) hd (kk H locs lsA hP hD hS hl)
  case putfield k =>
    obtain rfl : n = 3 := by rcases hn with hn | hn <;> first | exact hn | cases hn
    simp only [amStep] at h
    obtain ⟨s1, h1, rfl⟩ := Option.map_eq_some_iff.mp h
    obtain ⟨v, o, q, fs, rfl, hc, hlt, hlen, hnar, hfit, rfl⟩ := amFSet_s h1
    obtain ⟨⟨C, T, N⟩, hr, hkN, hw, hfin⟩ := hlk
    obtain ⟨hty, hnm⟩ := hcl _ _ hr
    have hg := amW_get (dA := dA) (ad := ad) hc
    rw [amE_obj hlt] at hg
    have hset : (amW dA ad hp).set o (ad o, .inr (a, (fs.map (amV ad)).set b (amV ad v))) = amW dA ad (hp.set o (a, fs.set b v)) := by
      rw [← amW_set, amE_obj hlt, List.map_set]
    have kk2 : ∀ (H1 : Heap) (locs1 : List Loc), va_P D vwCl ((amW dA ad hp).set o (ad o, .inr (a, (fs.map (amV ad)).set b (amV ad v)))) H1 → va_D A ((amW dA ad hp).set o (ad o, .inr (a, (fs.map (amV ad)).set b (amV ad v)))) → va_S A H0 H1 locs1 → W p l e R s m args below meth c H1 locs1 cells slots Q (F0 m (pc + 3) lsA (q.map (amV ad))) := fun H1 locs1 h2 h3 h4 => kk H1 locs1 lsA (hset ▸ h2) (hset ▸ h3) h4 hl
    by_cases hf : (T b).2.2.2 = true
    · obtain ⟨hi, ho⟩ := hfin hf
      exact va_putF (D := D) hx hb hts (hus _ _ hr) (amFty a) hty hnm hown hK hP hD hS o hg hr b hkN (hts _ hw) (fun _ h => h) hf (hini hi) ho (hty b hkN) (amV_narrow hnar) (amV_fits hfit) (by rw [List.length_map]; exact hlen) hd kk2
    · exact va_put (D := D) hx hb hts (hus _ _ hr) (amFty a) hty hnm hown hK hP hD hS o hg hr b hkN (hts _ hw) (fun _ h => h) (Bool.eq_false_iff.mpr hf) (hty b hkN) (amV_narrow hnar) (amV_fits hfit) (by rw [List.length_map]; exact hlen) hd kk2
  case iaload =>
    obtain rfl : n = 1 := by rcases hn with hn | hn <;> first | exact hn | cases hn
    simp only [amStep] at h
    split at h
    · next s1 hs1 =>
      cases h
      obtain ⟨i, q, l9, h0, rfl, hin, rfl⟩ := amSc_s hs1
      obtain ⟨hX, hbl, hbA⟩ := hsc l9 h0
      exact va_sld hx hb hX hbl hbA hS hin hd (kk H locs lsA hP hD hS hl)
    · obtain ⟨s1, h1, rfl⟩ := Option.map_eq_some_iff.mp h
      obtain ⟨i, o, q, cs, rfl, hc, hin, hpv, rfl⟩ := amALd_s h1
      have hg := amW_get (dA := dA) (ad := ad) hc
      have k0 := kk H locs lsA hP hD hS hl
      exact va_iald (D := D) hx hb hK hP o 0 hg rfl hin hd (W.eq (congrArg (fun v => F0 m (pc + 1) lsA (v :: q.map (amV ad))) (amIsI_v (ad := ad) hpv).symm) k0)
  case laload =>
    obtain rfl : n = 1 := by rcases hn with hn | hn <;> first | exact hn | cases hn
    simp only [amStep] at h
    obtain ⟨s1, h1, rfl⟩ := Option.map_eq_some_iff.mp h
    obtain ⟨i, o, q, cs, rfl, hc, hin, hpv, rfl⟩ := amALd_s h1
    have hg := amW_get (dA := dA) (ad := ad) hc
    have k0 := kk H locs lsA hP hD hS hl
    exact va_lald (D := D) hx hb hK hP o 1 hg rfl hin hd (W.eq (congrArg (fun v => F0 m (pc + 1) lsA (v :: q.map (amV ad))) (amIsJ_v (ad := ad) hpv).symm) k0)
  case baload =>
    obtain rfl : n = 1 := by rcases hn with hn | hn <;> first | exact hn | cases hn
    simp only [amStep] at h
    obtain ⟨s1, h1, rfl⟩ := Option.map_eq_some_iff.mp h
    obtain ⟨i, o, q, cs, rfl, hc, hin, hpv, rfl⟩ := amALd_s h1
    have hg := amW_get (dA := dA) (ad := ad) hc
    have k0 := kk H locs lsA hP hD hS hl
    exact va_bald (D := D) hx hb hK hP o 2 hg rfl hin hd (W.eq (congrArg (fun v => F0 m (pc + 1) lsA (v :: q.map (amV ad))) (amIsI_v (ad := ad) hpv).symm) k0)
  case aaload =>
    obtain rfl : n = 1 := by rcases hn with hn | hn <;> first | exact hn | cases hn
    simp only [amStep] at h
    obtain ⟨s1, h1, rfl⟩ := Option.map_eq_some_iff.mp h
    obtain ⟨i, o, q, cs, rfl, hc, hin, hpv, rfl⟩ := amALd_s h1
    have hg := amW_get (dA := dA) (ad := ad) hc
    have k0 := kk H locs lsA hP hD hS hl
    exact va_aldq (D := D) hx hb hK hP o 3 hg rfl hin hd (W.eq (congrArg (fun v => F0 m (pc + 1) lsA (v :: q.map (amV ad))) (amIsA_v (ad := ad) hpv).symm) k0)
  case iastore =>
    obtain rfl : n = 1 := by rcases hn with hn | hn <;> first | exact hn | cases hn
    simp only [amStep] at h
    obtain ⟨s1, h1, rfl⟩ := Option.map_eq_some_iff.mp h
    obtain ⟨v, i, o, q, cs, rfl, hc, hin, hpv, rfl⟩ := amASt_s h1
    obtain ⟨x, rfl⟩ := amIsI_s hpv
    have hg := amW_get (dA := dA) (ad := ad) hc
    have hset : (amW dA ad hp).set o (ad o, .inl (dA 0, cs.length, .inl (upd (fun j => amInt (cs.getD j .null)) i.toNatClampNeg x))) = amW dA ad (hp.set o (32, cs.set i.toNatClampNeg (.int x))) := by
      rw [← amW_set]
      show _ = (amW dA ad hp).set o (ad o, .inl (dA 0, (cs.set i.toNatClampNeg _).length, _))
      rw [am_set_i (amIn_lt hin) rfl, List.length_set]
      rfl
    exact va_iast (D := D) hx hb hK hP hD hS o 0 hg rfl hin hd (fun H1 locs1 h2 h3 h4 => kk H1 locs1 lsA (hset ▸ h2) (hset ▸ h3) h4 hl)
  case lastore =>
    obtain rfl : n = 1 := by rcases hn with hn | hn <;> first | exact hn | cases hn
    simp only [amStep] at h
    obtain ⟨s1, h1, rfl⟩ := Option.map_eq_some_iff.mp h
    obtain ⟨v, i, o, q, cs, rfl, hc, hin, hpv, rfl⟩ := amASt_s h1
    obtain ⟨x, rfl⟩ := amIsJ_s hpv
    have hg := amW_get (dA := dA) (ad := ad) hc
    have hset : (amW dA ad hp).set o (ad o, .inl (dA 1, cs.length, .inr (.inl (vp_updL (fun j => amLong (cs.getD j .null)) i.toNatClampNeg x)))) = amW dA ad (hp.set o (33, cs.set i.toNatClampNeg (.long x))) := by
      rw [← amW_set]
      show _ = (amW dA ad hp).set o (ad o, .inl (dA 1, (cs.set i.toNatClampNeg _).length, _))
      rw [am_set_l (amIn_lt hin) rfl, List.length_set]
      rfl
    exact va_last (D := D) hx hb hK hP hD hS o 1 hg rfl hin hd (fun H1 locs1 h2 h3 h4 => kk H1 locs1 lsA (hset ▸ h2) (hset ▸ h3) h4 hl)
  case bastore =>
    obtain rfl : n = 1 := by rcases hn with hn | hn <;> first | exact hn | cases hn
    simp only [amStep] at h
    obtain ⟨s1, h1, rfl⟩ := Option.map_eq_some_iff.mp h
    obtain ⟨v, i, o, q, cs, rfl, hc, hin, hpv, rfl⟩ := amASt_s h1
    obtain ⟨x, rfl⟩ := amIsI_s hpv
    have hg := amW_get (dA := dA) (ad := ad) hc
    have hset : (amW dA ad hp).set o (ad o, .inl (dA 2, cs.length, .inl (upd (fun j => amInt (cs.getD j .null)) i.toNatClampNeg (vp_nar .byte x)))) = amW dA ad (hp.set o (34, cs.set i.toNatClampNeg (.int (vp_nar .byte x)))) := by
      rw [← amW_set]
      show _ = (amW dA ad hp).set o (ad o, .inl (dA 2, (cs.set i.toNatClampNeg _).length, _))
      rw [am_set_i (amIn_lt hin) rfl, List.length_set]
      rfl
    exact va_bast (D := D) hx hb hK hP hD hS o 2 hg rfl hin hd (fun H1 locs1 h2 h3 h4 => kk H1 locs1 lsA (hset ▸ h2) (hset ▸ h3) h4 hl)
  case aastore =>
    obtain rfl : n = 1 := by rcases hn with hn | hn <;> first | exact hn | cases hn
    simp only [amStep] at h
    obtain ⟨s1, h1, rfl⟩ := Option.map_eq_some_iff.mp h
    obtain ⟨v, i, o, q, cs, rfl, hc, hin, hpv, rfl⟩ := amASt_s h1
    unfold amIsSn at hpv
    split at hpv
    · next k =>
      split at hpv
      · next cv hcv =>
        obtain ⟨t, fs⟩ := cv
        have ht : t = 6 := of_decide_eq_true hpv
        subst ht
        have hg := amW_get (dA := dA) (ad := ad) hc
        have hgv := amW_get (dA := dA) (ad := ad) hcv
        rw [amE_obj (by decide)] at hgv
        have hset : (amW dA ad hp).set o (ad o, .inl (dA 3, cs.length, .inr (.inr (.inr (.inr (va_up (fun j => amRef ad (cs.getD j .null)) i.toNatClampNeg (some (ad k)))))))) = amW dA ad (hp.set o (35, cs.set i.toNatClampNeg (.ref k))) := by
          rw [← amW_set]
          show _ = (amW dA ad hp).set o (ad o, .inl (dA 3, (cs.set i.toNatClampNeg _).length, _))
          rw [am_set_q (amIn_lt hin) rfl, List.length_set]
        exact va_astq (D := D) (r := (RX7, TX7, 4)) hx hb hK hP hD hS o 3 k 6 hg rfl hgv rfl hin hd (fun H1 locs1 h2 h3 h4 => kk H1 locs1 lsA (hset ▸ h2) (hset ▸ h3) h4 hl)
      · cases hpv
    · cases hpv
  case arraylength =>
    obtain rfl : n = 1 := by rcases hn with hn | hn <;> first | exact hn | cases hn
    simp only [amStep] at h
    split at h
    · next s1 hs1 =>
      cases h
      obtain ⟨q, l9, h0, rfl, rfl⟩ := amScLen_s hs1
      obtain ⟨hX, hbl, hbA⟩ := hsc l9 h0
      exact va_slen hx hb hX hbl hbA hS hd (kk H locs lsA hP hD hS hl)
    · obtain ⟨s1, h1, rfl⟩ := Option.map_eq_some_iff.mp h
      obtain ⟨o, q, t, cs, rfl, hc, ht1, ht2, rfl⟩ := amLen_s h1
      have hg := amW_get (dA := dA) (ad := ad) hc
      rcases (show t = 32 ∨ t = 33 ∨ t = 34 ∨ t = 35 by omega) with rfl | rfl | rfl | rfl
      · exact va_alen (D := D) hx hb hK hP o 0 hg rfl rfl hd (kk H locs lsA hP hD hS hl)
      · exact va_alen (D := D) hx hb hK hP o 1 hg rfl rfl hd (kk H locs lsA hP hD hS hl)
      · exact va_alen (D := D) hx hb hK hP o 2 hg rfl rfl hd (kk H locs lsA hP hD hS hl)
      · exact va_alen (D := D) hx hb hK hP o 3 hg rfl rfl hd (kk H locs lsA hP hD hS hl)
end AMS
end
section
/-! ===== the abstract machine: making, calling, ending; whole runs ===== -/
abbrev amIn1 : Type := Instr × Nat × Nat
abbrev amP : Type := List (Nat × amIn1)
/-- a method: its code; how many locals; how many arguments, the receiver with them; is it a constructor; what it answers; its handlers (from, to, at, exception, local, behind); its class's place -/
abbrev amM : Type := amP × Nat × Nat × Bool × Option FieldType × List (Nat × Nat × Nat × Nat × Nat × Nat) × Nat
/-- what comes of an instruction: on (with cells and slots made), an answer, a throw, a call (method, arguments, the rest of the stack) -/
abbrev amAct : Type := (amR × Nat × Nat) ⊕ Option Value ⊕ Nat ⊕ (Nat × List Value × List Value)
abbrev amRes : Type := (Option Value ⊕ Nat) × amH × Nat × Nat
def amOk (n : Nat) : Value → Bool
  | .ref i => decide (i < n) || decide (amK ≤ i)
  | _ => true
def amOkL (n : Nat) (ls : amL) : Bool := ls.all (fun q => amOk n q.2)
def amOkS (n : Nat) (st : List Value) : Bool := st.all (amOk n)
def amOkH (n : Nat) (hp : amH) : Bool := hp.all (fun c => (decide (32 ≤ c.1) && decide (c.1 ≤ 34)) || c.2.all (amOk n))
def amDef (ci : Nat) : List Value := match vwCl[ci]? with
  | some r => (List.range r.2.2).map (fun k => defaultValue (amFty ci k))
  | none => []
def amKind : ArrayType → Option (Nat × Value)
  | .int => some (32, .int 0)
  | .long => some (33, .long 0)
  | .byte => some (34, .int 0)
  | _ => none
/-- a new cell at the end -/
def amMake (pc : Nat) (ls : amL) (r : List Value) (hp : amH) (c : amC) : Option amAct :=
  if (amOkL hp.length ls && amOkS hp.length r && amOkH hp.length hp && decide (hp.length < amK)) = true then some (.inl ((pc, ls, .ref hp.length :: r, hp ++ [c]), 1, c.2.length)) else none
def amMakeA (pc : Nat) (ls : amL) (hp : amH) (k : Option (Nat × Value)) : List Value → Option amAct
  | .int x :: r => match k with
    | some (t, v) => if ¬ x < 0 ∧ x.toNatClampNeg ≤ 100000 then amMake pc ls r hp (t, List.replicate x.toNatClampNeg v) else none
    | none => none
  | _ => none
def amCopy (pc : Nat) (ls : amL) (hp : amH) : List Value → Option amAct
  | .int n :: .int dp :: .ref a :: .int sp :: .ref a0 :: r => match hp[a0]?, hp[a]? with
    | some c0, some c1 => if c0.1 = 32 ∧ c1.1 = 32 ∧ ¬ sp < 0 ∧ ¬ dp < 0 ∧ ¬ n < 0 ∧ sp.toNatClampNeg + n.toNatClampNeg ≤ c0.2.length ∧ dp.toNatClampNeg + n.toNatClampNeg ≤ c1.2.length ∧ (r.map fun v => v.category).sum ≤ 8 then
        some (.inl ((pc, ls, r, hp.set a (32, c1.2.take dp.toNatClampNeg ++ ((c0.2.drop sp.toNatClampNeg).take n.toNatClampNeg ++ c1.2.drop (dp.toNatClampNeg + n.toNatClampNeg)))), 0, 0)) else none
    | _, _ => none
  | _ => none
def amObj (pc : Nat) (ls : amL) (hp : amH) : List Value → Option amAct
  | .ref _ :: r => if (r.map fun v => v.category).sum ≤ 8 then some (.inl ((pc, ls, r, hp), 0, 0)) else none
  | _ => none
def amRetV (ret : Option FieldType) (i : Instr) (st : List Value) : Option (Option Value) :=
  match i with
  | .ireturn => match ret, st with
    | some ty, [.int x] => if narrow ty (.int x) = .int x then some (some (.int x)) else none
    | _, _ => none
  | .lreturn => match ret, st with
    | some .long, [.long x] => some (some (.long x))
    | _, _ => none
  | .freturn => match ret, st with
    | some .float, [.float x] => some (some (.float x))
    | _, _ => none
  | .dreturn => match ret, st with
    | some .double, [.double x] => some (some (.double x))
    | _, _ => none
  | .return_ => match ret, st with
    | none, [] => some none
    | _, _ => none
  | _ => none
/-- the receiver: of the class at the place ci (virt), or any cell (a constructor), or none (static) -/
def amRecv (k ci : Nat) (hp : amH) : List Value → Bool
  | .ref o :: _ => if k = 0 then (match hp[o]? with
      | some c => decide (c.1 = ci ∧ ci < 32)
      | none => false) else true
  | _ => decide (k = 1)
/-- k: 0 by the receiver's class, 1 static, 2 a constructor -/
def amCall (G : Nat → Option amM) (k a : Nat) (ls : amL) (st : List Value) (hp : amH) : Option amAct := match G a with
  | some N => if N.2.2.1 ≤ st.length ∧ ((st.take N.2.2.1).map fun v => v.category).sum ≤ N.2.1 ∧ (amOkL hp.length ls && amOkS hp.length (st.drop N.2.2.1) && amRecv k N.2.2.2.2.2.2 hp (st.take N.2.2.1).reverse) = true ∧ ((st.drop N.2.2.1).map fun v => v.category).sum ≤ 8 then
      some (.inr (.inr (.inr (a, (st.take N.2.2.1).reverse, st.drop N.2.2.1)))) else none
  | none => none
def amDo (G : Nat → Option amM) (M : amM) (sc : Option (List Int32)) (i : Instr) (a b : Nat) (pc : Nat) (ls : amL) (st : List Value) (hp : amH) : Option amAct :=
  match i with
  | .new _ => if b = 0 then amMake (pc + 3) ls st hp (a, amDef a) else if (st.map fun v => v.category).sum ≤ 8 ∧ M.2.2.2.2.2.1 = [] then some (.inr (.inr (.inl a))) else none
  | .newarray t => amMakeA (pc + 2) ls hp (amKind t) st
  | .anewarray _ => amMakeA (pc + 3) ls hp (some (35, .null)) st
  | .invokevirtual _ => amCall G 0 a ls st hp
  | .invokestatic _ => if b = 6 then amCopy (pc + 3) ls hp st else amCall G 1 a ls st hp
  | .invokespecial _ => if b = 5 then amObj (pc + 3) ls hp st else amCall G 2 a ls st hp
  | .ireturn => (amRetV M.2.2.2.2.1 .ireturn st).map (fun v => .inr (.inl v))
  | .lreturn => (amRetV M.2.2.2.2.1 .lreturn st).map (fun v => .inr (.inl v))
  | .freturn => (amRetV M.2.2.2.2.1 .freturn st).map (fun v => .inr (.inl v))
  | .dreturn => (amRetV M.2.2.2.2.1 .dreturn st).map (fun v => .inr (.inl v))
  | .return_ => (amRetV M.2.2.2.2.1 .return_ st).map (fun v => .inr (.inl v))
  | j => (amStep sc M.2.1 j a b pc ls st hp).map (fun r => .inl (r, 0, 0))
def amSeek (cs : amP) (pc : Nat) : amP := cs.dropWhile (fun q => q.1 != pc)
def amNext (M : amM) (cs : amP) (pc : Nat) : amP := match cs with
  | q :: _ => if q.1 = pc then cs else amSeek M.1 pc
  | [] => amSeek M.1 pc
def amHand (hs : List (Nat × Nat × Nat × Nat × Nat × Nat)) (pc E : Nat) : Option (Nat × Nat × Nat) := match hs with
  | [] => none
  | h :: r => if h.1 ≤ pc ∧ pc < h.2.1 ∧ h.2.2.2.1 = E then some (h.2.2.1, h.2.2.2.2) else amHand r pc E
def amDrop (ls : amL) (i : Nat) : amL := ls.filter (fun q => !(q.1 == i) && !(q.1 + 1 == i && q.2.category == 2))
/-- the calls that may throw -/
def amMay : Instr → Nat → Bool
  | .invokevirtual _, _ => true
  | .invokestatic _, b => decide (b = 0)
  | _, _ => false
/-- a run: f steps at most, calls d deep at most -/
def amRun (G : Nat → Option amM) (sc : Option (List Int32)) : Nat → Nat → amM → amP → Nat → amL → List Value → amH → Nat → Nat → Option amRes
  | 0, _, _, _, _, _, _, _, _, _ => none
  | _ + 1, _, _, [], _, _, _, _, _, _ => none
  | f + 1, d, M, q :: cs, pc, ls, st, hp, kc, ks =>
    if q.1 = pc then
      match amDo G M sc q.2.1 q.2.2.1 q.2.2.2 pc ls st hp with
      | none => none
      | some (.inl (r, dk, ds)) => amRun G sc f d M (amNext M cs r.1) r.1 r.2.1 r.2.2.1 r.2.2.2 (kc + dk) (ks + ds)
      | some (.inr (.inl v)) => some (.inl v, hp, kc, ks)
      | some (.inr (.inr (.inl E))) => some (.inr E, hp, kc + 1, ks + 6)
      | some (.inr (.inr (.inr (k, av, rest)))) =>
        match d, G k with
        | d' + 1, some N =>
          match amRun G none f d' N N.1 0 (lv_args 0 av) [] hp 0 0 with
          | some (.inl v, hp1, mc, ms) => amRun G sc f (d' + 1) M (amNext M cs (pc + 3)) (pc + 3) ls (v.toList ++ rest) hp1 (kc + mc) (ks + ms)
          | some (.inr E, hp1, mc, ms) =>
            if amMay q.2.1 q.2.2.2 = false then none
            else if M.2.2.2.2.2.1 = [] then some (.inr E, hp1, kc + mc, ks + ms)
            else match amHand M.2.2.2.2.2.1 pc E with
              | some (_, x, to) => amRun G sc f (d' + 1) M (amSeek M.1 to) to (amDrop ls x) [] hp1 (kc + mc) (ks + ms)
              | none => none
          | none => none
        | _, _ => none
    else none
theorem amStep_len {sc : Option (List Int32)} {nL : Nat} {i : Instr} {a b pc : Nat} {ls : amL} {st : List Value} {hp : amH} {r : amR} (h : amStep sc nL i a b pc ls st hp = some r) : r.2.2.2.length = hp.length := by
  cases i
  all_goals first
    | exact absurd (show (none : Option amR) = some r from h) (by intro z; cases z)
    | (cases h; rfl)
    | (simp only [amStep] at h
       obtain ⟨s1, h1, rfl⟩ := Option.map_eq_some_iff.mp h
       first
         | rfl
         | (obtain ⟨v, i, o, q, cs, rfl, hc, hin, hpv, rfl⟩ := amASt_s h1; simp)
         | (obtain ⟨v, o, q, fs, rfl, hc, hlt, hlen, hnar, hfit, rfl⟩ := amFSet_s h1; simp))
    | (simp only [amStep] at h
       repeat' split at h
       all_goals first
         | (cases h; rfl)
         | cases h
         | (obtain ⟨s1, h1, rfl⟩ := Option.map_eq_some_iff.mp h; rfl))
theorem amMake_s {pc : Nat} {ls : amL} {r : List Value} {hp : amH} {c : amC} {x : amAct} (h : amMake pc ls r hp c = some x) : amOkL hp.length ls = true ∧ amOkS hp.length r = true ∧ amOkH hp.length hp = true ∧ hp.length < amK ∧ x = .inl ((pc, ls, .ref hp.length :: r, hp ++ [c]), 1, c.2.length) := by
  unfold amMake at h
  split at h
  · next e =>
    simp only [Bool.and_eq_true, decide_eq_true_eq] at e
    cases h
    exact ⟨e.1.1.1, e.1.1.2, e.1.2, e.2, rfl⟩
  · cases h
theorem amMakeA_s {pc : Nat} {ls : amL} {st : List Value} {hp : amH} {k : Option (Nat × Value)} {x : amAct} (h : amMakeA pc ls hp k st = some x) : ∃ n r t v, st = .int n :: r ∧ k = some (t, v) ∧ ¬ n < 0 ∧ n.toNatClampNeg ≤ 100000 ∧ amMake pc ls r hp (t, List.replicate n.toNatClampNeg v) = some x := by
  unfold amMakeA at h
  split at h
  · next n r =>
    split at h
    · next t v =>
      split at h
      · next e => exact ⟨n, r, t, v, rfl, rfl, e.1, e.2, h⟩
      · cases h
    · cases h
  · cases h
theorem amCopy_s {pc : Nat} {ls : amL} {st : List Value} {hp : amH} {x : amAct} (h : amCopy pc ls hp st = some x) : ∃ n dp a sp a0 r c0 c1, st = .int n :: .int dp :: .ref a :: .int sp :: .ref a0 :: r ∧ hp[a0]? = some (32, c0) ∧ hp[a]? = some (32, c1) ∧ ¬ sp < 0 ∧ ¬ dp < 0 ∧ ¬ n < 0 ∧ sp.toNatClampNeg + n.toNatClampNeg ≤ c0.length ∧ dp.toNatClampNeg + n.toNatClampNeg ≤ c1.length ∧ (r.map fun v => v.category).sum ≤ 8 ∧
    x = .inl ((pc, ls, r, hp.set a (32, c1.take dp.toNatClampNeg ++ ((c0.drop sp.toNatClampNeg).take n.toNatClampNeg ++ c1.drop (dp.toNatClampNeg + n.toNatClampNeg)))), 0, 0) := by
  unfold amCopy at h
  split at h
  · next n dp a sp a0 r =>
    split at h
    · next c0 c1 e0 e1 =>
      split at h
      · next e =>
        obtain ⟨t0, c0⟩ := c0
        obtain ⟨t1, c1⟩ := c1
        obtain ⟨q1, q2, q3, q4, q5, q6, q7, q8⟩ := e
        dsimp only at q1 q2 q6 q7
        subst q1; subst q2
        cases h
        exact ⟨n, dp, a, sp, a0, r, c0, c1, rfl, e0, e1, q3, q4, q5, q6, q7, q8, rfl⟩
      · cases h
    · cases h
  · cases h
theorem amObj_s {pc : Nat} {ls : amL} {st : List Value} {hp : amH} {x : amAct} (h : amObj pc ls hp st = some x) : ∃ a r, st = .ref a :: r ∧ (r.map fun v => v.category).sum ≤ 8 ∧ x = .inl ((pc, ls, r, hp), 0, 0) := by
  unfold amObj at h
  split at h
  · next a r =>
    split at h
    · next e => cases h; exact ⟨a, r, rfl, e, rfl⟩
    · cases h
  · cases h
theorem amCall_s {G : Nat → Option amM} {k a : Nat} {ls : amL} {st : List Value} {hp : amH} {x : amAct} (h : amCall G k a ls st hp = some x) : ∃ N av rest, G a = some N ∧ st = av.reverse ++ rest ∧ av.length = N.2.2.1 ∧ amOkL hp.length ls = true ∧ amOkS hp.length rest = true ∧ amRecv k N.2.2.2.2.2.2 hp av = true ∧ (rest.map fun v => v.category).sum ≤ 8 ∧ (av.map fun v => v.category).sum ≤ N.2.1 ∧ x = .inr (.inr (.inr (a, av, rest))) := by
  unfold amCall at h
  split at h
  · next N e =>
    split at h
    · next q =>
      obtain ⟨q1, q0, q2, q3⟩ := q
      simp only [Bool.and_eq_true] at q2
      cases h
      refine ⟨N, _, _, e, ?_, ?_, q2.1.1, q2.1.2, q2.2, q3, by rw [List.map_reverse, List.sum_reverse]; exact q0, rfl⟩
      · rw [List.reverse_reverse, List.take_append_drop]
      · rw [List.length_reverse, List.length_take]; omega
    · cases h
  · cases h
/-- what goes on leaves the cells in their places -/
theorem amDo_len {G : Nat → Option amM} {M : amM} {sc : Option (List Int32)} {i : Instr} {a b pc : Nat} {ls : amL} {st : List Value} {hp : amH} {r : amR} {dk ds : Nat} (h : amDo G M sc i a b pc ls st hp = some (.inl (r, dk, ds))) : hp.length ≤ r.2.2.2.length := by
  unfold amDo at h
  split at h
  case h_1 => 
    split at h
    · obtain ⟨-, -, -, -, e⟩ := amMake_s h; cases e; simp
    · split at h <;> cases h
  case h_2 => obtain ⟨n, q, t, v, rfl, -, -, -, h⟩ := amMakeA_s h; obtain ⟨-, -, -, -, e⟩ := amMake_s h; cases e; simp
  case h_3 => obtain ⟨n, q, t, v, rfl, -, -, -, h⟩ := amMakeA_s h; obtain ⟨-, -, -, -, e⟩ := amMake_s h; cases e; simp
  case h_4 => obtain ⟨N, av, rest, -, -, -, -, -, -, -, -, e⟩ := amCall_s h; cases e
  case h_5 =>
    split at h
    · obtain ⟨n, dp, o, sp, a0, q, c0, c1, rfl, -, -, -, -, -, -, -, -, e⟩ := amCopy_s h; cases e; simp
    · obtain ⟨N, av, rest, -, -, -, -, -, -, -, -, e⟩ := amCall_s h; cases e
  case h_6 =>
    split at h
    · obtain ⟨o, q, rfl, -, e⟩ := amObj_s h; cases e; simp
    · obtain ⟨N, av, rest, -, -, -, -, -, -, -, -, e⟩ := amCall_s h; cases e
  case h_7 => obtain ⟨v, -, e⟩ := Option.map_eq_some_iff.mp h; cases e
  case h_8 => obtain ⟨v, -, e⟩ := Option.map_eq_some_iff.mp h; cases e
  case h_9 => obtain ⟨v, -, e⟩ := Option.map_eq_some_iff.mp h; cases e
  case h_10 => obtain ⟨v, -, e⟩ := Option.map_eq_some_iff.mp h; cases e
  case h_11 => obtain ⟨v, -, e⟩ := Option.map_eq_some_iff.mp h; cases e
  case h_12 => obtain ⟨v, h1, e⟩ := Option.map_eq_some_iff.mp h; cases e; rw [amStep_len h1]; exact Nat.le_refl _
theorem amRun_mono {G : Nat → Option amM} : ∀ (f : Nat) (sc : Option (List Int32)) (d : Nat) (M : amM) (cs : amP) (pc : Nat) (ls : amL) (st : List Value) (hp : amH) (kc ks : Nat) (x : Option Value ⊕ Nat) (hp1 : amH) (mc ms : Nat), amRun G sc f d M cs pc ls st hp kc ks = some (x, hp1, mc, ms) → kc ≤ mc ∧ ks ≤ ms ∧ hp.length ≤ hp1.length := by
  intro f
  induction f with
  | zero => intro sc d M cs pc ls st hp kc ks x hp1 mc ms h; unfold amRun at h; cases h
  | succ f ih =>
    intro sc d M cs pc ls st hp kc ks x hp1 mc ms h
    cases cs with
    | nil => unfold amRun at h; cases h
    | cons q cs =>
      unfold amRun at h
      split at h
      · split at h
        · cases h
        · next r dk ds e =>
          obtain ⟨h1, h2, h3⟩ := ih _ _ _ _ _ _ _ _ _ _ _ _ _ _ h
          have := amDo_len e
          exact ⟨by omega, by omega, by omega⟩
        · cases h; exact ⟨Nat.le_refl _, Nat.le_refl _, Nat.le_refl _⟩
        · cases h; exact ⟨Nat.le_add_right _ _, Nat.le_add_right _ _, Nat.le_refl _⟩
        · split at h
          · split at h
            · next e =>
              obtain ⟨g1, g2, g3⟩ := ih _ _ _ _ _ _ _ _ _ _ _ _ _ _ e
              obtain ⟨h1, h2, h3⟩ := ih _ _ _ _ _ _ _ _ _ _ _ _ _ _ h
              exact ⟨by omega, by omega, by omega⟩
            · next e =>
              obtain ⟨g1, g2, g3⟩ := ih _ _ _ _ _ _ _ _ _ _ _ _ _ _ e
              split at h
              · cases h
              split at h
              · cases h; exact ⟨by omega, by omega, by omega⟩
              · split at h
                · obtain ⟨h1, h2, h3⟩ := ih _ _ _ _ _ _ _ _ _ _ _ _ _ _ h
                  exact ⟨by omega, by omega, by omega⟩
                · cases h
            · cases h
          · cases h
      · cases h
end
section
/-! ===== contracts of the abstract machine's runs; calls ===== -/
/-- a method's names: name, bytes, table of handlers -/
abbrev amN : Type := MethodName × ByteArray × List (Nat × Nat × Nat × Nat)
def amEx : List String := ["java/lang/IllegalArgumentException", "java/lang/IndexOutOfBoundsException", "java/lang/IllegalStateException", "java/util/NoSuchElementException"]
def amXn : List String := ["java/lang/RuntimeException", "java/lang/Exception"]
def amNk : Jvm.Cond → Bool
  | .methodLinkNest .. => true
  | .castable .. => true
  | .declares .. => true
  | _ => false
def amNc : List (String × String) := [("java/lang/IllegalArgumentException", "java/lang/IndexOutOfBoundsException"), ("java/lang/IllegalStateException", "java/lang/IndexOutOfBoundsException"), ("java/lang/IllegalStateException", "java/lang/IllegalArgumentException"), ("java/util/NoSuchElementException", "java/lang/IndexOutOfBoundsException"), ("java/util/NoSuchElementException", "java/lang/IllegalArgumentException")]
/-- the words that every method is handed -/
def amWL : List Jvm.Cond := lw_tbl.filter goodWord
theorem amWL_good {ws : List Jvm.Cond} (h : ∀ w ∈ ws, w ∈ amWL) : GoodIn amWL ws := fun w hw => ⟨h w hw, good_of_word (List.mem_filter.mp (h w hw)).2⟩
theorem amWL_in {w : Jvm.Cond} (h : w ∈ lw_tbl) (hg : goodWord w = true) : w ∈ amWL := List.mem_filter.mpr ⟨h, hg⟩
def amRm (d mc ms : Nat) : Room := { frames := d + 8, cells := mc, slots := ms, locals := 128 * (d + 1) }
theorem amNk_warm {w : Jvm.Cond} {s U : State} (h : amNk w = true) (hW : s.WarmedH U.vm) (hZ : va_Nw w s) : va_Nw w U := by
  cases w <;> first
    | exact va_Nw.warmM hW hZ
    | exact va_Nw.warmC hW hZ
    | exact va_Nw.warmD hW hZ
    | cases h
/-- what the tables say at a state, beside the words -/
def amG (D : va_G) (dA : Nat → ClassId) (sA : Nat → Nat) (U : State) : Prop :=
  va_K D vwCl (amTys dA) U ∧ (∀ (k : Nat) (r : String × Nat × String), amStr[k]? = some r → vk_R r.1 r.2.1 r.2.2 (sA k) U) ∧ (∀ w ∈ lw_tbl, amNk w = true → va_Nw w U) ∧ (∀ q ∈ amNc, va_Nc q.1 q.2 U) ∧ va_AO "TripleTrains$Snapshot" U
theorem amG.warm {D : va_G} {dA : Nat → ClassId} {sA : Nat → Nat} {s U : State} (hW : s.WarmedH U.vm) (h : amG D dA sA s) : amG D dA sA U :=
  ⟨va_K.moved hW.alike h.1, fun k r hk => vk_R.warm hW (h.2.1 k r hk), fun w hw hk => amNk_warm hk hW (h.2.2.1 w hw hk), fun q hq => va_Nc.moved hW.alike (h.2.2.2.1 q hq), va_AO.moved hW.alike h.2.2.2.2⟩
/-- the two statics that a throw reads -/
def amZ (A : Nat → Prop) (U : State) (H : Heap) : Prop := vx_Zq Bundle.tN "UNASSIGNED_STACK" Bundle.steD A U H ∧ vx_Zq Bundle.tN "SUPPRESSED_SENTINEL" Bundle.listD A U H
theorem amZ.moved {A : Nat → Prop} {u U : State} {H : Heap} (hvm : u.vm.Alike U.vm) (h : amZ A u H) : amZ A U H := ⟨vx_Zq.moved hvm h.1, vx_Zq.moved hvm h.2⟩
theorem amZ.kept {A : Nat → Prop} {U : State} {H H1 : Heap} (h : amZ A U H) (hq : ∀ a : Nat, a < H.size → ¬ A a → H1[a]? = H[a]?) : amZ A U H1 := ⟨h.1.kept hq, h.2.kept hq⟩
theorem amZ.narrow {A B : Nat → Prop} {U : State} {H : Heap} (h : amZ A U H) (hAB : ∀ q, B q → A q) : amZ B U H := ⟨h.1.narrow hAB, h.2.narrow hAB⟩
def amAg (n : Nat) (ad ad1 : Nat → Nat) : Prop := ∀ i, i < n ∨ amK ≤ i → ad1 i = ad i
theorem amAg.refl (n : Nat) (ad : Nat → Nat) : amAg n ad ad := fun _ _ => rfl
theorem amAg.trans {n k : Nat} {a b c : Nat → Nat} (h : n ≤ k) (h1 : amAg n a b) (h2 : amAg k b c) : amAg n a c := fun i hi => (h2 i (hi.imp (fun z => Nat.lt_of_lt_of_le z h) id)).trans (h1 i hi)
theorem amV_ag {n : Nat} {ad ad1 : Nat → Nat} {v : Value} (h : amOk n v = true) (hag : amAg n ad ad1) : amV ad1 v = amV ad v := by
  cases v <;> first
    | rfl
    | (simp only [amOk, Bool.or_eq_true, decide_eq_true_eq] at h
       exact congrArg Value.ref (hag _ h))
theorem amSt_ag {n : Nat} {ad ad1 : Nat → Nat} {st : List Value} (h : amOkS n st = true) (hag : amAg n ad ad1) : st.map (amV ad1) = st.map (amV ad) :=
  List.map_congr_left fun v hv => amV_ag (List.all_eq_true.mp h v hv) hag
theorem amLs_ag {n : Nat} {ad ad1 : Nat → Nat} {ls : amL} (h : amOkL n ls = true) (hag : amAg n ad ad1) : amLs ad1 ls = amLs ad ls :=
  List.map_congr_left fun q hq => by rw [amV_ag (List.all_eq_true.mp h q hq) hag]
theorem amE_ag {dA : Nat → ClassId} {n : Nat} {ad ad1 : Nat → Nat} {c : amC} (h : ((decide (32 ≤ c.1) && decide (c.1 ≤ 34)) || c.2.all (amOk n)) = true) (hag : amAg n ad ad1) : amE dA ad1 c = amE dA ad c := by
  obtain ⟨t, vs⟩ := c
  unfold amE
  dsimp only at h ⊢
  by_cases h1 : t = 32
  · rw [if_pos h1, if_pos h1]
  · by_cases h2 : t = 33
    · rw [if_neg h1, if_pos h2, if_neg h1, if_pos h2]
    · by_cases h3 : t = 34
      · rw [if_neg h1, if_neg h2, if_pos h3, if_neg h1, if_neg h2, if_pos h3]
      · have hv : vs.all (amOk n) = true := by
          simp only [Bool.or_eq_true, Bool.and_eq_true, decide_eq_true_eq] at h
          rcases h with h | h
          · omega
          · exact h
        by_cases h4 : t = 35
        · rw [if_neg h1, if_neg h2, if_neg h3, if_pos h4, if_neg h1, if_neg h2, if_neg h3, if_pos h4]
          have e : (fun j => amRef ad1 (vs.getD j .null)) = (fun j => amRef ad (vs.getD j .null)) := by
            funext j
            by_cases hj : j < vs.length
            · have hm : amOk n (vs.getD j .null) = true := by
                rw [List.getD_eq_getElem?_getD, List.getElem?_eq_getElem hj]
                exact List.all_eq_true.mp hv _ (List.getElem_mem hj)
              have := amV_ag hm hag
              generalize vs.getD j .null = w at this
              cases w <;> first
                | rfl
                | (simp only [amV, Value.ref.injEq] at this; simp [amRef, this])
            · rw [List.getD_eq_getElem?_getD, List.getElem?_eq_none (by omega)]; rfl
          rw [e]
        · rw [if_neg h1, if_neg h2, if_neg h3, if_neg h4, if_neg h1, if_neg h2, if_neg h3, if_neg h4]
          have e : vs.map (amV ad1) = vs.map (amV ad) := amSt_ag hv hag
          rw [e]
theorem amW_ag {dA : Nat → ClassId} {hp : amH} {ad ad1 : Nat → Nat} (h : amOkH hp.length hp = true) (hag : amAg hp.length ad ad1) : amW dA ad1 hp = amW dA ad hp := by
  apply List.ext_getElem?
  intro j
  by_cases hj : j < hp.length
  · have hc : hp[j]? = some hp[j] := List.getElem?_eq_getElem hj
    rw [amW_get hc, amW_get hc, amE_ag (List.all_eq_true.mp h _ (List.getElem_mem hj)) hag, hag j (Or.inl hj)]
  · rw [List.getElem?_eq_none (by simp [amW]; omega), List.getElem?_eq_none (by simp [amW]; omega)]
/-- what a run answers, over the machine -/
def amQ (D : va_G) (dA : Nat → ClassId) (ad : Nat → Nat) (n : Nat) (A : Nat → Prop) (x : Option Value ⊕ Nat) (hp1 : amH) : Array Value → State → Outcome → State → Prop := fun _ st o t =>
  ∃ (v : Option Value) (ad1 : Nat → Nat), x = .inl v ∧ o = .returned (v.map (amV ad1)) ∧ amAg n ad ad1 ∧ va_P D vwCl (amW dA ad1 hp1) t.heap ∧ va_D A (amW dA ad1 hp1) ∧ va_F A st t
def amX (D : va_G) (dA : Nat → ClassId) (ad : Nat → Nat) (n : Nat) (A : Nat → Prop) (x : Option Value ⊕ Nat) (hp1 : amH) : String → State → State → Prop := fun E st t =>
  ∃ (k : Nat) (ad1 : Nat → Nat), x = .inr k ∧ amEx[k]? = some E ∧ amAg n ad ad1 ∧ va_P D vwCl (amW dA ad1 hp1) t.heap ∧ va_D A (amW dA ad1 hp1) ∧ va_F A st t
def amPc (D : va_G) (dA : Nat → ClassId) (sA : Nat → Nat) (ad : Nat → Nat) (hp : amH) (av : List Value) (sz : Nat) : Array Value → State → Prop := fun v U =>
  v = (av.map (amV ad)).toArray ∧ U.heap.size = sz ∧ amG D dA sA U ∧ va_P D vwCl (amW dA ad hp) U.heap ∧ va_D (fun _ => True) (amW dA ad hp) ∧ amZ (va_A (amW dA ad hp) sz) U U.heap
theorem amPc_blind {D : va_G} {dA : Nat → ClassId} {sA : Nat → Nat} {ad : Nat → Nat} {hp : amH} {av : List Value} {sz : Nat} : FrameBlind (amPc D dA sA ad hp av sz) := fun a U g mk q => by
  obtain ⟨q0, q1, q2, q3, q4, q5⟩ := q
  exact ⟨q0, q1, amG.warm (s := U) (U := U.calling g mk a) (State.WarmedH.refl U) q2, q3, q4, amZ.moved (u := U) (U := U.calling g mk a) (Vm.Alike.refl U.vm) q5⟩
theorem am_toMet {l : Launch} {y : MethodName} {ws : List Jvm.Cond} {rm : Room} {Pc : Array Value → State → Prop} {Qc : Array Value → State → Outcome → State → Prop} {XC : String → State → State → Prop} {mc ms : Nat} {free : Addr → Prop} (h : vx_Met l y ws rm Pc Qc XC mc ms free) (hno : ∀ E st t, ¬ XC E st t) : Met l y ws rm Pc Qc mc ms free := by
  intro p e ha hc hk s m args below hf happ hP hK
  obtain ⟨n, o, h1, h2, h3, h4⟩ := h p e ha hc hk s m args below hf happ hP hK
  refine ⟨n, o, h1, h2, h3, ?_⟩
  rcases h4 with h4 | ⟨q, -, E, ce, L, hx, -⟩
  · exact h4
  · exact absurd hx (hno _ _ _)
section AMC
variable {p : Program} {l : Launch} {e : Env} {R : Room} {s : State} {m : MethodId} {args : Array Value} {below : List Frame} {meth : Method} {c : Code} {H : Heap} {locs : List Loc} {cells slots : Nat} {Q : State → Prop}
variable {cc : ByteArray} {D : va_G} {dA : Nat → ClassId} {A : Nat → Prop} {sA : Nat → Nat} {nL : Nat} {own : String}
theorem am_pre {ad : Nat → Nat} {hp : amH} {av : List Value} (hG : amG D dA sA s) (hZ : amZ A s s.heap) (hA : ∀ q, s.heap.size ≤ q → A q) (hP : va_P D vwCl (amW dA ad hp) H) (hD : va_D A (amW dA ad hp)) (hS : va_S A s.heap H locs) (hF : ∀ q, va_A (amW dA ad hp) H.size q → A q) : ∀ U : State, U.heap = H → s.WarmedH U.vm → amPc D dA sA ad hp av H.size (av.map (amV ad)).toArray U := by
  intro U hU hW
  refine ⟨rfl, by rw [hU], amG.warm hW hG, by rw [hU]; exact hP, hD.weaken (fun _ _ _ _ => trivial), ?_⟩
  rw [hU]
  exact amZ.moved hW.alike ((hZ.kept hS.2.1).narrow hF)
theorem am_free {ad : Nat → Nat} {hp : amH} (hA : ∀ q, s.heap.size ≤ q → A q) (hD : va_D A (amW dA ad hp)) (hS : va_S A s.heap H locs) : ∀ q, va_A (amW dA ad hp) H.size q → A q := by
  intro q h
  rcases h with ⟨k, e, h⟩ | h
  · exact hD.2 k _ h
  · exact hA q (Nat.le_trans hS.1 h)
/-- behind a call -/
theorem am_call {ad : Nat → Nat} {n mc ms pc : Nat} {A1 : Nat → Prop} {x : Option Value ⊕ Nat} {hp1 : amH} {lsA : Array Slot} {st0 rest : List Value} {a : Array Value} (hr : vx_Run p l e R s m args below meth c H locs cells slots mc ms (F0 m pc lsA st0) (rest.map (amV ad)) (amQ D dA ad n A1 x hp1 a) (amX D dA ad n A1 x hp1) A1) (hS : va_S A s.heap H locs) (hf : ∀ q, A1 q → A q) (hok : amOkS n rest = true)
    (kk : ∀ (v : Option Value) (ad1 : Nat → Nat) (H1 : Heap) (locs1 : List Loc), x = .inl v → amAg n ad ad1 → va_P D vwCl (amW dA ad1 hp1) H1 → va_D A (amW dA ad1 hp1) → va_S A s.heap H1 locs1 → W p l e R s m args below meth c H1 locs1 (cells + mc) (slots + ms) Q (F0 m (pc + 3) lsA ((v.toList ++ rest).map (amV ad1))))
    (kx : ∀ (k : Nat) (E : String) (ce : Cell) (q9 : Addr) (ad1 : Nat → Nat) (H1 : Heap) (locs1 : List Loc), x = .inr k → amEx[k]? = some E → amAg n ad ad1 → va_P D vwCl (amW dA ad1 hp1) H1 → va_D A (amW dA ad1 hp1) → va_S A s.heap H1 locs1 → H1[q9]? = some ce → ce.vm = .none → s.vm.findClass E = some ce.cls → vx_W p l e R s m args below meth c H1 locs1 (cells + mc) (slots + ms) Q (F0 m pc lsA (rest.map (amV ad))) q9) :
    W p l e R s m args below meth c H locs cells slots Q (F0 m pc lsA st0) := by
  intro T hT X
  rcases hr T hT X with ⟨v, st₀, t, T', L, h0, X', hL, e1, e2, ⟨w, ad1, ex, hv, hag, hp, hd, hF⟩, st⟩ | ⟨q, st₀, t, T', L, E, ce, h0, X', hL, e1, e2, ⟨k, ad1, ex, hE, hag, hp, hd, hF⟩, hce, hcv, hcl, st⟩
  · cases hv
    obtain ⟨k1, k2, k3⟩ := vx_keep h0 e1 hS (fun q _ h => hf q h) hf hL hF
    obtain ⟨t2, a1, b1⟩ := kk w ad1 T'.heap (locs ++ L) ex hag (by rw [e1]; exact hp) (hd.weaken (fun _ _ _ h => hf _ h)) k3 T' rfl X'
    refine ⟨t2, st t2 ?_, b1⟩
    have e3 : (w.toList ++ rest).map (amV ad1) = (w.map (amV ad1)).toList ++ rest.map (amV ad) := by
      rw [List.map_append, amSt_ag hok hag]
      cases w <;> rfl
    rw [e3] at a1
    exact a1
  · obtain ⟨k1, k2, k3⟩ := vx_keep h0 e1 hS (fun q _ h => hf q h) hf hL hF
    obtain ⟨t2, a1, b1⟩ := kx k E ce q ad1 T'.heap (locs ++ L) ex hE hag (by rw [e1]; exact hp) (hd.weaken (fun _ _ _ h => hf _ h)) k3 (by rw [e1]; exact hce) hcv hcl T' rfl X'
    exact ⟨t2, st.trans a1, b1⟩
theorem am_runX {mc ms : Nat} {g : JFrame} {rest : List Value} {Qa : State → Outcome → State → Prop} {XC : String → State → State → Prop} {free : Addr → Prop} (h : va_Run p l e R s m args below meth c H locs cells slots mc ms g rest Qa free) : vx_Run p l e R s m args below meth c H locs cells slots mc ms g rest Qa XC free := fun T hT X => Or.inl (h T hT X)
/-- what a call needs of the room -/
theorem am_roomOk {d mc ms nLc : Nat} (hR : d + 9 ≤ R.frames ∧ 128 * (d + 2) ≤ R.locals) (hn : nLc ≤ 100) : (amRm d mc ms).frames + 1 ≤ R.frames ∧ 8 + (nLc + 11) + (amRm d mc ms).locals ≤ R.locals := by
  unfold amRm
  dsimp only
  omega
/-- a call by the receiver's class -/
theorem am_callV (S : CallFix p m c cc nL s args amWL own) (hG : amG D dA sA s) (hZ : amZ A s s.heap) (hA : ∀ q, s.heap.size ≤ q → A q) {ad : Nat → Nat} {hp hp1 : amH} (hP : va_P D vwCl (amW dA ad hp) H) (hD : va_D A (amW dA ad hp)) (hS : va_S A s.heap H locs) {d mc ms pc idx nLc n ci o : Nat} {y : MethodName} {bytes : ByteArray} {retc : Option FieldType} {r : vw_C} {fs : List Value} {lsA : Array Slot} {As rest : List Value} {x : Option Value ⊕ Nat}
    (hM : vx_Met l y (Jvm.Cond.code y bytes nLc retc :: amWL) (amRm d mc ms) (amPc D dA sA ad hp (.ref o :: As) H.size) (amQ D dA ad hp.length (va_A (amW dA ad hp) H.size) x hp1) (amX D dA ad hp.length (va_A (amW dA ad hp) H.size) x hp1) mc ms (va_A (amW dA ad hp) H.size))
    (hc : vwCl[ci]? = some r) (hci : ci < 32) (ho : hp[o]? = some (ci, fs)) (hcls : y.cls = r.1) (w1 : Jvm.Cond.methodLink own idx y ∈ amWL) (w2 : Jvm.Cond.instanceMethod y ∈ amWL) (w3 : Jvm.Cond.selects r.1 y y ∈ amWL) (w4 : Jvm.Cond.initialized r.1 ∈ amWL) (w5 : Jvm.Cond.code y bytes nLc retc ∈ amWL) (hd : y.cls ≠ "java/lang/invoke/MethodHandle" ∧ y.cls ≠ "java/lang/invoke/VarHandle" ∧ (parseMethodDescriptor y.desc).map (fun d => d.parameters.length) = some n) (hn : As.length = n) (hnL : nLc ≤ 100)
    (hR : d + 9 ≤ R.frames ∧ 128 * (d + 2) ≤ R.locals) (hf : cells + mc ≤ R.cells ∧ slots + ms ≤ R.slots) (hsz : lsA.size = nL) (hok : amOkS hp.length rest = true) (hw : (rest.map fun v => v.category).sum ≤ 8) (hdg : decode cc pc = .ok (.invokevirtual idx, 3))
    (kk : ∀ (v : Option Value) (ad1 : Nat → Nat) (H1 : Heap) (locs1 : List Loc), x = .inl v → amAg hp.length ad ad1 → va_P D vwCl (amW dA ad1 hp1) H1 → va_D A (amW dA ad1 hp1) → va_S A s.heap H1 locs1 → W p l e R s m args below meth c H1 locs1 (cells + mc) (slots + ms) Q (F0 m (pc + 3) lsA ((v.toList ++ rest).map (amV ad1))))
    (kx : ∀ (k : Nat) (E : String) (ce : Cell) (q9 : Addr) (ad1 : Nat → Nat) (H1 : Heap) (locs1 : List Loc), x = .inr k → amEx[k]? = some E → amAg hp.length ad ad1 → va_P D vwCl (amW dA ad1 hp1) H1 → va_D A (amW dA ad1 hp1) → va_S A s.heap H1 locs1 → H1[q9]? = some ce → ce.vm = .none → s.vm.findClass E = some ce.cls → vx_W p l e R s m args below meth c H1 locs1 (cells + mc) (slots + ms) Q (F0 m pc lsA (rest.map (amV ad))) q9) :
    W p l e R s m args below meth c H locs cells slots Q (F0 m pc lsA ((((.ref o :: As) : List Value).reverse ++ rest).map (amV ad))) := by
  have hF := am_free hA hD hS
  have hg := amW_get (dA := dA) (ad := ad) ho
  rw [amE_obj hci] at hg
  have hcat : ((rest.map (amV ad)).map fun v => v.category).sum ≤ 8 := by
    rw [List.map_map]
    simpa [Function.comp_def, amV_cat] using hw
  refine am_call (vx_runV (As := As.map (amV ad)) (rest := rest.map (amV ad)) (b := ad o) (C := r.1) S hM (cwV n S.2.2.2.2 (amWL_good (fun w hw => ?_)) rfl rfl rfl ⟨hcls, hd⟩ (am_roomOk hR hnL)) ⟨amPc_blind, va_recv hG.1 hP hc hg, am_pre (av := .ref o :: As) hG hZ hA hP hD hS hF⟩ rfl (by rw [List.length_map]; exact hn) hsz (by simp [F0, amV]) (lv_room hcat) hdg hf) hS hF hok kk kx
  simp only [wsV, List.cons_append, List.nil_append, List.mem_cons] at hw
  rcases hw with rfl | rfl | rfl | rfl | rfl | hw
  · exact w1
  · exact w2
  · exact w3
  · exact w4
  · exact w5
  · exact hw
/-- a static call -/
theorem am_callS (S : CallFix p m c cc nL s args amWL own) (hG : amG D dA sA s) (hZ : amZ A s s.heap) (hA : ∀ q, s.heap.size ≤ q → A q) {ad : Nat → Nat} {hp hp1 : amH} (hP : va_P D vwCl (amW dA ad hp) H) (hD : va_D A (amW dA ad hp)) (hS : va_S A s.heap H locs) {d mc ms pc idx nLc n : Nat} {y : MethodName} {bytes : ByteArray} {retc : Option FieldType} {lsA : Array Slot} {As rest : List Value} {x : Option Value ⊕ Nat}
    (hM : vx_Met l y (Jvm.Cond.code y bytes nLc retc :: amWL) (amRm d mc ms) (amPc D dA sA ad hp As H.size) (amQ D dA ad hp.length (va_A (amW dA ad hp) H.size) x hp1) (amX D dA ad hp.length (va_A (amW dA ad hp) H.size) x hp1) mc ms (va_A (amW dA ad hp) H.size))
    (w1 : Jvm.Cond.methodLink own idx y ∈ amWL) (w2 : Jvm.Cond.static y ∈ amWL) (w4 : Jvm.Cond.initialized y.cls ∈ amWL) (w5 : Jvm.Cond.code y bytes nLc retc ∈ amWL) (hd : y.cls ≠ "java/lang/invoke/MethodHandle" ∧ y.cls ≠ "java/lang/invoke/VarHandle" ∧ (parseMethodDescriptor y.desc).map (fun d => d.parameters.length) = some n) (hn : As.length = n) (hnL : nLc ≤ 100)
    (hR : d + 9 ≤ R.frames ∧ 128 * (d + 2) ≤ R.locals) (hf : cells + mc ≤ R.cells ∧ slots + ms ≤ R.slots) (hsz : lsA.size = nL) (hok : amOkS hp.length rest = true) (hw : (rest.map fun v => v.category).sum ≤ 8) (hdg : decode cc pc = .ok (.invokestatic idx, 3))
    (kk : ∀ (v : Option Value) (ad1 : Nat → Nat) (H1 : Heap) (locs1 : List Loc), x = .inl v → amAg hp.length ad ad1 → va_P D vwCl (amW dA ad1 hp1) H1 → va_D A (amW dA ad1 hp1) → va_S A s.heap H1 locs1 → W p l e R s m args below meth c H1 locs1 (cells + mc) (slots + ms) Q (F0 m (pc + 3) lsA ((v.toList ++ rest).map (amV ad1))))
    (kx : ∀ (k : Nat) (E : String) (ce : Cell) (q9 : Addr) (ad1 : Nat → Nat) (H1 : Heap) (locs1 : List Loc), x = .inr k → amEx[k]? = some E → amAg hp.length ad ad1 → va_P D vwCl (amW dA ad1 hp1) H1 → va_D A (amW dA ad1 hp1) → va_S A s.heap H1 locs1 → H1[q9]? = some ce → ce.vm = .none → s.vm.findClass E = some ce.cls → vx_W p l e R s m args below meth c H1 locs1 (cells + mc) (slots + ms) Q (F0 m pc lsA (rest.map (amV ad))) q9) :
    W p l e R s m args below meth c H locs cells slots Q (F0 m pc lsA ((As.reverse ++ rest).map (amV ad))) := by
  have hF := am_free hA hD hS
  have hcat : ((rest.map (amV ad)).map fun v => v.category).sum ≤ 8 := by
    rw [List.map_map]
    simpa [Function.comp_def, amV_cat] using hw
  refine am_call (vx_runS (As := As.map (amV ad)) (rest := rest.map (amV ad)) S hM (va_cwS n S.2.2.2.2 (amWL_good (fun w hw => ?_)) rfl rfl rfl hd (am_roomOk hR hnL)) ⟨amPc_blind, am_pre (av := As) hG hZ hA hP hD hS hF⟩ rfl (by rw [List.length_map]; exact hn) hsz (by simp [F0]) (lv_room hcat) hdg hf) hS hF hok kk kx
  simp only [va_wsS, List.cons_append, List.nil_append, List.mem_cons] at hw
  rcases hw with rfl | rfl | rfl | rfl | hw
  · exact w1
  · exact w2
  · exact w4
  · exact w5
  · exact hw
theorem amX_no {ad : Nat → Nat} {n : Nat} {A1 : Nat → Prop} {v : Option Value} {hp1 : amH} : ∀ E st t, ¬ amX D dA ad n A1 (.inl v) hp1 E st t := by
  intro E st t h
  obtain ⟨k, ad1, h1, -⟩ := h
  cases h1
/-- a static call of a method with a table, that returns -/
theorem am_callSW (S : CallFix p m c cc nL s args amWL own) (hG : amG D dA sA s) (hZ : amZ A s s.heap) (hA : ∀ q, s.heap.size ≤ q → A q) {ad : Nat → Nat} {hp hp1 : amH} (hP : va_P D vwCl (amW dA ad hp) H) (hD : va_D A (amW dA ad hp)) (hS : va_S A s.heap H locs) {d mc ms pc idx nLc n : Nat} {y : MethodName} {bytes : ByteArray} {hh : List (Nat × Nat × Nat × Nat)} {retc : Option FieldType} {lsA : Array Slot} {As rest : List Value} {v : Option Value}
    (hM : vx_Met l y (Jvm.Cond.codeWith y bytes nLc retc hh :: amWL) (amRm d mc ms) (amPc D dA sA ad hp As H.size) (amQ D dA ad hp.length (va_A (amW dA ad hp) H.size) (.inl v) hp1) (amX D dA ad hp.length (va_A (amW dA ad hp) H.size) (.inl v) hp1) mc ms (va_A (amW dA ad hp) H.size))
    (w1 : Jvm.Cond.methodLink own idx y ∈ amWL) (w2 : Jvm.Cond.static y ∈ amWL) (w4 : Jvm.Cond.initialized y.cls ∈ amWL) (w5 : Jvm.Cond.codeWith y bytes nLc retc hh ∈ amWL) (hd : y.cls ≠ "java/lang/invoke/MethodHandle" ∧ y.cls ≠ "java/lang/invoke/VarHandle" ∧ (parseMethodDescriptor y.desc).map (fun d => d.parameters.length) = some n) (hn : As.length = n) (hnL : nLc ≤ 100)
    (hR : d + 9 ≤ R.frames ∧ 128 * (d + 2) ≤ R.locals) (hf : cells + mc ≤ R.cells ∧ slots + ms ≤ R.slots) (hsz : lsA.size = nL) (hok : amOkS hp.length rest = true) (hw : (rest.map fun v => v.category).sum ≤ 8) (hdg : decode cc pc = .ok (.invokestatic idx, 3))
    (kk : ∀ (ad1 : Nat → Nat) (H1 : Heap) (locs1 : List Loc), amAg hp.length ad ad1 → va_P D vwCl (amW dA ad1 hp1) H1 → va_D A (amW dA ad1 hp1) → va_S A s.heap H1 locs1 → W p l e R s m args below meth c H1 locs1 (cells + mc) (slots + ms) Q (F0 m (pc + 3) lsA ((v.toList ++ rest).map (amV ad1)))) :
    W p l e R s m args below meth c H locs cells slots Q (F0 m pc lsA ((As.reverse ++ rest).map (amV ad))) := by
  have hF := am_free hA hD hS
  have hcat : ((rest.map (amV ad)).map fun v => v.category).sum ≤ 8 := by
    rw [List.map_map]
    simpa [Function.comp_def, amV_cat] using hw
  refine am_call (x := .inl v) (am_runX (vx_runSW (hh := hh) (As := As.map (amV ad)) (rest := rest.map (amV ad)) S (am_toMet hM amX_no) (vx_cwSW n S.2.2.2.2 (amWL_good (fun w hw => ?_)) rfl rfl rfl hd (am_roomOk hR hnL)) ⟨amPc_blind, am_pre (av := As) hG hZ hA hP hD hS hF⟩ rfl (by rw [List.length_map]; exact hn) hsz (by simp [F0]) (lv_room hcat) hdg hf)) hS hF hok (fun w ad1 H1 locs1 ex => by cases ex; exact kk ad1 H1 locs1) (fun k E ce q9 ad1 H1 locs1 ex => by cases ex)
  simp only [va_wsS, List.cons_append, List.nil_append, List.mem_cons] at hw
  rcases hw with rfl | rfl | rfl | rfl | hw
  · exact w1
  · exact w2
  · exact w4
  · exact w5
  · exact hw
/-- a constructor's call -/
theorem am_callI (S : CallFix p m c cc nL s args amWL own) (hG : amG D dA sA s) (hZ : amZ A s s.heap) (hA : ∀ q, s.heap.size ≤ q → A q) {ad : Nat → Nat} {hp hp1 : amH} (hP : va_P D vwCl (amW dA ad hp) H) (hD : va_D A (amW dA ad hp)) (hS : va_S A s.heap H locs) {d mc ms pc idx nLc n o : Nat} {y : MethodName} {bytes : ByteArray} {lsA : Array Slot} {As rest : List Value} {v : Option Value}
    (hM : vx_Met l y (Jvm.Cond.code y bytes nLc none :: amWL) (amRm d mc ms) (amPc D dA sA ad hp (.ref o :: As) H.size) (amQ D dA ad hp.length (va_A (amW dA ad hp) H.size) (.inl v) hp1) (amX D dA ad hp.length (va_A (amW dA ad hp) H.size) (.inl v) hp1) mc ms (va_A (amW dA ad hp) H.size))
    (w1 : Jvm.Cond.methodLink own idx y ∈ amWL ∨ ∃ host, Jvm.Cond.methodLinkNest own idx y host ∈ lw_tbl) (w2 : Jvm.Cond.instanceMethod y ∈ amWL) (w4 : Jvm.Cond.initialized y.cls ∈ amWL) (w5 : Jvm.Cond.code y bytes nLc none ∈ amWL) (hy1 : y.name = "<init>") (hd : y.cls ≠ "java/lang/invoke/MethodHandle" ∧ y.cls ≠ "java/lang/invoke/VarHandle" ∧ (parseMethodDescriptor y.desc).map (fun d => d.parameters.length) = some n) (hn : As.length = n) (hnL : nLc ≤ 100)
    (hR : d + 9 ≤ R.frames ∧ 128 * (d + 2) ≤ R.locals) (hf : cells + mc ≤ R.cells ∧ slots + ms ≤ R.slots) (hsz : lsA.size = nL) (hok : amOkS hp.length rest = true) (hw : (rest.map fun v => v.category).sum ≤ 8) (hdg : decode cc pc = .ok (.invokespecial idx, 3))
    (kk : ∀ (ad1 : Nat → Nat) (H1 : Heap) (locs1 : List Loc), amAg hp.length ad ad1 → va_P D vwCl (amW dA ad1 hp1) H1 → va_D A (amW dA ad1 hp1) → va_S A s.heap H1 locs1 → W p l e R s m args below meth c H1 locs1 (cells + mc) (slots + ms) Q (F0 m (pc + 3) lsA ((v.toList ++ rest).map (amV ad1)))) :
    W p l e R s m args below meth c H locs cells slots Q (F0 m pc lsA ((((.ref o :: As) : List Value).reverse ++ rest).map (amV ad))) := by
  have hF := am_free hA hD hS
  have hts := S.2.2.2.2
  have hgw : GoodIn amWL (Jvm.Cond.code y bytes nLc none :: amWL) := amWL_good (fun w hw => by
    rcases List.mem_cons.mp hw with rfl | hw
    · exact w5
    · exact hw)
  have hcat : ((rest.map (amV ad)).map fun v => v.category).sum ≤ 8 := by
    rw [List.map_map]
    simpa [Function.comp_def, amV_cat] using hw
  have hpre := am_pre (av := .ref o :: As) hG hZ hA hP hD hS hF
  rcases w1 with w1 | ⟨host, w1⟩
  · exact am_call (x := .inl v) (am_runX (va_runI (As := As.map (amV ad)) (rest := rest.map (amV ad)) (b := ad o) S (am_toMet hM amX_no) (cwI n hts hgw rfl rfl rfl (hts _ w4) (hts _ w1) (hts _ w2) hy1 hd (am_roomOk hR hnL)) ⟨amPc_blind, hpre⟩ rfl (by rw [List.length_map]; exact hn) hsz (by simp [F0, amV]) (lv_room hcat) hdg hf)) hS hF hok (fun w ad1 H1 locs1 ex => by cases ex; exact kk ad1 H1 locs1) (fun k E ce q9 ad1 H1 locs1 ex => by cases ex)
  · exact am_call (x := .inl v) (am_runX (va_runIN (As := As.map (amV ad)) (rest := rest.map (amV ad)) (b := ad o) S (am_toMet hM amX_no) ⟨va_cnB n hts hgw rfl rfl rfl (hG.2.2.1 _ w1 rfl) (hts _ w4) hd (am_roomOk hR hnL), hy1, hts _ w2⟩ ⟨amPc_blind, hpre⟩ rfl (by rw [List.length_map]; exact hn) hsz (by simp [F0, amV]) (lv_room hcat) hdg hf)) hS hF hok (fun w ad1 H1 locs1 ex => by cases ex; exact kk ad1 H1 locs1) (fun k E ce q9 ad1 H1 locs1 ex => by cases ex)
end AMC
end
section
/-! ===== a throw of an exception whose constructor links its super's at a place of its own (NoSuchElementException).
The two theorems follow proofs of the library and of the kit (ctorThrowS, vx_throwS): what differs is the first link of the chain. ===== -/
abbrev amNS : String := "java/util/NoSuchElementException"
abbrev amRE : String := "java/lang/RuntimeException"
abbrev am_rx : ByteArray := prog_33_method_4_code
theorem am_rx0 : decode am_rx 0 = .ok (.aload_n 0, 1) := by decide +kernel
theorem am_rx1 : decode am_rx 1 = .ok (.aload_n 1, 1) := by decide +kernel
theorem am_rx2 : decode am_rx 2 = .ok (.invokespecial 13, 3) := by decide +kernel
theorem am_rx5 : decode am_rx 5 = .ok (.return_, 1) := by decide +kernel
/-- the tail of the library's list, which doesn't speak of the chain -/
def am_nt : List Jvm.Cond := (Bundle.ownAtoms "TripleTrains" 283 amNS []).drop (Bundle.throwableAtoms.length + Bundle.throwableSAtoms.length + 5)
def am_nw : List Jvm.Cond := Bundle.throwableAtoms ++ Bundle.throwableSAtoms ++ Bundle.passSAtoms amNS amRE 13 am_rx ++ Bundle.chainSAtoms amRE ["java/lang/Exception"] ++ am_nt
theorem am_nFit : Bundle.fit amNS = true ∧ Bundle.fit amRE = true ∧ ∀ n ∈ ["java/lang/Exception"], Bundle.fit n = true := by decide +kernel
section AMN
variable {p : Program} {l : Launch} {e : Env} {R : Room} {s : State} {m₀ : MethodId} {args : Array Value} {below : List Frame} {meth : Method} {c : Code} {W : State} {locs : List Loc} {cells slots : Nat}
set_option maxHeartbeats 4000000 in
theorem am_ctorN (X : Stand p l e R s m₀ args below meth c W locs cells slots) (hexec : p.tables.exec = Jvm.exec) (htr : e.platform.stackTraces = false)
    (hown : s.vm.findClass "TripleTrains" = some m₀.cls) (h : ∀ a ∈ am_nw, a.before args s = true)
    (hlocs : ∀ x ∈ locs, ∀ cell, s.heap[x.base]? = some cell → cell.vm.isStatics = false)
    {a : Addr} {cX : ClassId} {kX : Class} (hfoundX : s.vm.findClass amNS = some cX) (hkX : s.vm.classes[cX]? = some kX) (hcell : W.heap[a]? = some (freshCell cX kX)) (hnew : s.heap.size ≤ a)
    {msg : Value} (hmsg : msg.isRef = true)
    {g : JFrame} (hg : g.method = m₀) (hsize : g.locals.size = c.maxLocals) (hlocked : g.locked = none) (hentered : g.entered = []) {rest : List Value} (hstack : g.stack = msg :: .ref a :: .ref a :: rest)
    (hd6 : decode c.code g.pc = .ok (.invokespecial 283, 3)) (hd9 : decode c.code (g.pc + 3) = .ok (.athrow, 1)) (hout : ∀ x ∈ c.exceptionTable.toList, covers x (g.pc + 3) = false)
    (hRframes : 5 < R.frames) (hRlocals : 2 * g.monitorRoom + ((Value.ref a :: rest).map fun v => v.category).sum + 81 ≤ R.locals) (hlocks : meth.locks = false) :
    ∃ U : State, Steps p.tables e below (W.setTop g) U ∧ U.status = .running ∧ Ended U below (.threw a) ∧ s.WarmedH U.vm ∧ s.sameButNew ({ U with vm := s.vm } : State) locs cells slots ∧
      ∃ ce, U.heap[a]? = some ce ∧ s.vm.findClass amNS = some ce.cls ∧ ce.vm = .none := by
  have howns : e.platform.frameOwnsMonitors = true := by rw [X.admits.platform]
  have hfin : e.platform.finalization = false := by rw [X.admits.platform]
  have hpl : e.platform.magicAccessors = ({} : Platform).magicAccessors := by rw [X.admits.platform]
  have a' : ∀ x, x ∈ am_nw → x.holds args s none s [] = true := fun x hx => h x hx
  obtain ⟨T, Z0, L, -, Y⟩ := ThrowableC.of_atoms (args := args) howns hfin hpl (fun x hx => h x (by simp [am_nw, hx]))
  obtain ⟨Z, M, LZ, LM, hnZ⟩ := Init0T.ofS_atoms (args := args) hpl L Y (fun x hx => h x (by simp [am_nw, hx]))
  obtain ⟨P1, L1, hP1m, hs1⟩ := PassC.ofS_atoms (args := args) (s := s) hpl (X := amNS) (Y := amRE) (Bundle.fit_spec am_nFit.1).1 (Bundle.fit_spec am_nFit.2.1).2 am_rx0 am_rx1 am_rx2 am_rx5 (fun x hx => h x (by simp only [am_nw, List.mem_append]; exact Or.inl (Or.inl (Or.inr hx))))
  obtain ⟨P2, Ps, hlen, L2, hL, hP2m, hlink1, hlink⟩ := Bundle.chainS (args := args) hpl hnZ ["java/lang/Exception"] amRE am_nFit.2.1 am_nFit.2.2 (fun x hx => h x (by simp only [am_nw, List.mem_append]; exact Or.inl (Or.inr hx)))
  have hfound : s.vm.findClass amNS = some P1.m.cls := findClass_of_methodNamed hP1m
  cases Option.some.inj (hfoundX.symm.trans hfound)
  obtain ⟨c1, kX', hc1, hk, hord, -, -, hn6⟩ := Cond.instantiable_spec (a' (.instantiable amNS 6) (by decide +kernel))
  cases Option.some.inj (hc1.symm.trans hfound)
  cases Option.some.inj (hkX.symm.trans hk)
  have hsel0 : selectMethod e.platform s.vm P1.m.cls T.fill0 = .method T.fill0 := by
    obtain ⟨c2, r2, m2, q1, q2, q3, q4, -⟩ := Cond.selects_spec (a' (.selects amNS Bundle.tFill0 Bundle.tFill0) (by decide +kernel))
    cases Option.some.inj (q1.symm.trans hfound)
    cases Option.some.inj (q2.symm.trans (State.methodFound?_of_named Y.fill0 (by decide)))
    cases Option.some.inj (q3.symm.trans Y.fill0)
    rw [Launch.admits_selectMethod X.admits]; exact q4
  have hselF : selectMethod e.platform s.vm P1.m.cls T.fill = .method T.fill := by
    obtain ⟨c2, r2, m2, q1, q2, q3, q4, -⟩ := Cond.selects_spec (a' (.selects amNS Bundle.tFill Bundle.tFill) (by decide +kernel))
    cases Option.some.inj (q1.symm.trans hfound)
    cases Option.some.inj (q2.symm.trans (State.methodFound?_of_named Y.fill (by decide)))
    cases Option.some.inj (q3.symm.trans Y.fill)
    rw [Launch.admits_selectMethod X.admits]; exact q4
  obtain ⟨cellS0, hcS0, hiss⟩ := Y.statics
  obtain ⟨u0, hu0⟩ := Cond.staticRefV Y.unassigned L.unassignedStatic L.statics hcS0 hiss (a' (.isRef (.static Bundle.tN "UNASSIGNED_STACK" Bundle.steD)) (by decide +kernel))
  obtain ⟨sen, hsen⟩ := Cond.staticRefV Y.sentinel L.sentinelStatic L.statics hcS0 hiss (a' (.isRef (.static Bundle.tN "SUPPRESSED_SENTINEL" Bundle.listD)) (by decide +kernel))
  obtain ⟨ci198, i198, fB, hk198, hg198, ha198, hsB, -, hnB, htB, hffB⟩ := Cond.ownField (t := .object "java/lang/Object") Y.found L.cls (by decide +kernel) (a' (.fieldLink Bundle.tN 198 Bundle.tN "backtrace" "Ljava/lang/Object;") (by decide +kernel)) (a' (.lays Bundle.tN Bundle.tN "backtrace" "Ljava/lang/Object;") (by decide +kernel)) e.platform hpl
  obtain ⟨cellS, hcS', heS, -, hkeep⟩ := X.same.2.2.2.2.2 T.aS cellS0 hcS0
  have hcellS : W.heap[T.aS]? = some cellS := hcS'
  have hout' : ∀ i, (⟨T.aS, i⟩ : Loc) ∉ locs := fun i hmem => by
    have := hlocs _ hmem cellS0 hcS0
    rw [hiss] at this; cases this
  have hknownS : cellS.vm ≠ .unknown := by
    rw [heS]; intro hu
    rw [show cellS0.vm = .unknown from hu] at hiss
    cases hiss
  have hneS : T.aS ≠ a := Nat.ne_of_lt (Nat.lt_of_lt_of_le (Array.getElem?_eq_some_iff.mp hcS0).1 hnew)
  obtain ⟨iM, hffM⟩ := Y.msg
  obtain ⟨tyC, dC, hdC, hdnC⟩ := Cond.laysAt hfound hk Y.cause (a' (.lays amNS Bundle.tN "cause" "Ljava/lang/Throwable;") (by decide +kernel))
  obtain ⟨tyS, dS, hdS, hdnS⟩ := Cond.laysAt hfound hk Y.stack (a' (.lays amNS Bundle.tN "stackTrace" Bundle.steD) (by decide +kernel))
  obtain ⟨tyP, dP, hdP, hdnP⟩ := Cond.laysAt hfound hk Y.supp (a' (.lays amNS Bundle.tN "suppressedExceptions" Bundle.listD) (by decide +kernel))
  obtain ⟨tyM, dM, hdM, hdnM⟩ := Cond.laysAt hfound hk hffM (a' (.lays amNS Bundle.tN "detailMessage" "Ljava/lang/String;") (by decide +kernel))
  obtain ⟨tyB, dB, hdB, hdnB⟩ := Cond.laysAt hfound hk hffB (a' (.lays amNS Bundle.tN "backtrace" "Ljava/lang/Object;") (by decide +kernel))
  have bC := Cond.laysApart hdB hdC hdnB hdnC (by rw [hnB, Y.causeName]; decide)
  have bS := Cond.laysApart hdB hdS hdnB hdnS (by rw [hnB, Y.stackName]; decide)
  have bP := Cond.laysApart hdB hdP hdnB hdnP (by rw [hnB, Y.suppName]; decide)
  have hskip : SkipFacts T e.platform s (fun u => u) u0 ((preparedCellV T.toThrowableT (freshCell P1.m.cls kX) a u0 sen).withEntry W.cur) :=
    ⟨{ ci198 := ci198, i198 := i198, fBack := fB }, ⟨hk198, hg198, ha198, hsB⟩, by
      have := fresh_default (c := P1.m.cls) tyB
      rw [htB] at this
      simpa [preparedCellV, Cell.setSlot, Cell.withEntry, Array.getElem?_setIfInBounds, bC, bS, bP, bC.symm, bS.symm, bP.symm, defaultValue] using this, fun _ _ => rfl⟩
  obtain ⟨tm, methC, cdC, kC, vm₁, hnC, -, -, -, -, -, -, -, hW₁, st1⟩ := Steps.initColdS (tb := p.tables) (e := e) (below := below) (s := s) (U := W) X.here hexec X.warmed hpl hown (t := Bundle.initS amNS) rfl rfl (Bundle.fit_spec am_nFit.1).2
    (a' (.methodLink "TripleTrains" 283 (Bundle.initS amNS)) (by decide +kernel)) (h (.instanceMethod (Bundle.initS amNS)) (by decide +kernel)) (bytes := am_rx) (maxL := 2) (h (.code (Bundle.initS amNS) am_rx 2 none) (by decide +kernel))
    (f := g) hg (a := a) (msg := msg) (rest := .ref a :: rest) hstack hd6
  cases Option.some.inj (hnC.symm.trans hP1m)
  have X₁ := X.noted hW₁
  have hsup : P1.sup = P2.m := Option.some.inj (hs1.symm.trans hP2m)
  obtain ⟨vm₂, X₂, st2⟩ := X₁.ctorMessageOffV hexec (g := { g with stack := .ref a :: rest }) hg hsize T L Z LZ M LM (P1 :: P2 :: Ps)
    (fun P hP => by
      rcases List.mem_cons.mp hP with rfl | hP
      · exact L1
      · rcases List.mem_cons.mp hP with rfl | hP
        · exact L2
        · exact hL P hP) ⟨hsup, hlink1, hlink⟩ (u0 := u0) (sen := sen) (self := a) hmsg (cell := freshCell P1.m.cls kX) (cellS := cellS)
    hcell (fun _ => by simp) (by simp) rfl rfl hsel0 hselF hcellS hneS hknownS (by rw [hkeep _ (hout' _)]; exact hu0) (by rw [hkeep _ (hout' _)]; exact hsen)
    (Takes.of_laid hk hord tyC (by rw [Y.causeType]; rfl)) (Takes.of_laid hk hord tyS (by rw [Y.stackType]; exact fits_refV_array _ u0)) (Takes.of_laid hk hord tyP (by rw [Y.suppType]; exact fits_refV_object _ sen))
    (Takes.of_laid hk hord tyM (by rw [Y.msgType]; exact fits_refV_object _ ⟨msg, hmsg⟩)) Y.objLocals hskip htr [] hd6
    (by simp only [List.length_cons, hlen, List.length_nil]; omega) (by simp only [List.length_cons, hlen, List.length_nil]; exact hRlocals)
  obtain ⟨hwalk, hrun, hended, hWU, hsame⟩ := X₂.athrowLeaves hexec (g := { g with stack := .ref a :: rest, pc := g.pc + 3 }) hg hlocked hentered hout (a := a) (rest := rest) rfl hd9
  have hlt : a < ((W.setVm vm₁).setVm vm₂).heap.size := (Array.getElem?_eq_some_iff.mp hcell).1
  have hU := heapAt_setCell_self (s := (W.setVm vm₁).setVm vm₂) (plainBareV T.toThrowableT (freshCell P1.m.cls kX) a u0 sen msg) hlt
  refine ⟨_, st1 _ (fun acts => ?_), hrun, hended, hWU, hsame.weaken (fun y hy hlt' => ?_) (Nat.le_refl _) (Nat.le_refl _), _, hU, hfound, rfl⟩
  · rw [doInvoke_state]
    exact st2 _ hwalk
  · rcases List.mem_append.mp hy with h1 | h1
    · exact h1
    · exfalso
      have hb : y.base = a := by
        simp only [List.mem_cons, List.not_mem_nil, or_false] at h1
        rcases h1 with rfl | rfl | rfl | rfl | rfl <;> rfl
      rw [hb] at hlt'
      exact Nat.not_lt.mpr hnew hlt'
end AMN
section AMN2
variable {p : Program} {l : Launch} {e : Env} {R : Room} {s : State} {m : MethodId} {args : Array Value} {below : List Frame} {meth : Method} {c : Code} {H : Heap} {locs : List Loc} {cells slots : Nat}
variable {free : Addr → Prop} {ls : Array Slot} {rest : List Value} {Qc : Array Value → State → Outcome → State → Prop} {XC : String → State → State → Prop}
set_option maxHeartbeats 4000000 in
theorem am_throwN {cc : ByteArray} {pc : Nat} (hexec : p.tables.exec = Jvm.exec) (hb : c.code = cc) (hl : l.stackTraces = false) {text : String} {ik is k mc ms sa : Nat} {A : Nat → Prop}
    (hown : s.vm.findClass "TripleTrains" = some m.cls)
    (hk : (Jvm.Cond.classLink "TripleTrains" ik amNS).before args s = true) (hini : (Jvm.Cond.initialized amNS).before args s = true) (hstr : vk_R "TripleTrains" is text sa s) (hat : ∀ w ∈ am_nw.filter vx_no, w.before args s = true)
    (hgood : ∀ w ∈ am_nw.filter vx_no, vx_ot w = true)
    (hU : vx_Zq Bundle.tN "UNASSIGNED_STACK" Bundle.steD A s s.heap) (hN : vx_Zq Bundle.tN "SUPPRESSED_SENTINEL" Bundle.listD A s s.heap) (hS : va_S A s.heap H locs) (hsize : ls.size = c.maxLocals)
    (d0 : decode cc pc = .ok (.new ik, 3)) (d3 : decode cc (pc + 3) = .ok (.dup, 1)) (hld : (decode cc (pc + 4) = .ok (.ldc is, 2) ∧ k = 6) ∨ (decode cc (pc + 4) = .ok (.ldc_w is, 3) ∧ k = 7)) (d6 : decode cc (pc + k) = .ok (.invokespecial 283, 3)) (d9 : decode cc (pc + k + 3) = .ok (.athrow, 1))
    (hout : ∀ x ∈ c.exceptionTable.toList, covers x (pc + k + 3) = false)
    (hRframes : 5 < R.frames) (hRlocals : (rest.map fun v => v.category).sum + 82 ≤ R.locals) (hRcells : cells + 1 ≤ R.cells) (hRslots : slots + 6 ≤ R.slots) (hlocks : meth.locks = false)
    (hx : ∀ t : State, s.vm.Alike t.vm → H.size ≤ t.heap.size → (∀ q : Nat, q < H.size → t.heap[q]? = H[q]?) → XC amNS s t)
    (hf : ∀ z ∈ locs, free z.base) (hc : cells + 1 ≤ mc) (hs : slots + 6 ≤ ms) :
    W p l e R s m args below meth c H locs cells slots (vx_MQ below Qc XC args s mc ms free) (F0 m pc ls rest) := by
  intro T hT X
  have htr : e.platform.stackTraces = false := (show e.platform.stackTraces = l.stackTraces by rw [X.admits.platform]).trans hl
  have Y := vx_rebase X (R' := { frames := R.frames, locals := R.locals, cells := 1, slots := 6 }) (Nat.le_refl _) (Nat.le_refl _) hRcells hRslots
  obtain ⟨s', hA⟩ : ∃ z, z = (T.setVm s.vm).setFrames (.invoking m args :: below) := ⟨_, rfl⟩
  rw [← hA] at Y
  have hvm : s'.vm = s.vm := by rw [hA]; rfl
  have hhp : s'.heap = H := by rw [hA]; exact hT
  have hW0 : s.WarmedH s'.vm := by rw [hvm]; exact State.WarmedH.refl s
  have hat' : ∀ w ∈ am_nw.filter vx_no, w.before args s' = true := fun w hw => vx_ot_at hW0 hvm.symm (hgood w hw) (hat w hw)
  have hk' : (Jvm.Cond.classLink "TripleTrains" ik amNS).before args s' = true := vx_ot_at hW0 hvm.symm rfl hk
  have hini' : (Jvm.Cond.initialized amNS).before args s' = true := vx_ot_at hW0 hvm.symm rfl hini
  have hU' : vx_Zq Bundle.tN "UNASSIGNED_STACK" Bundle.steD A s' s'.heap := by rw [hhp]; exact vx_Zq.moved hW0.alike (hU.kept hS.2.1)
  have hN' : vx_Zq Bundle.tN "SUPPRESSED_SENTINEL" Bundle.listD A s' s'.heap := by rw [hhp]; exact vx_Zq.moved hW0.alike (hN.kept hS.2.1)
  have h : ∀ w ∈ am_nw, w.before args s' = true := vx_own hat' (vx_isRefq hU'.1) (vx_isRefq hN'.1) hU'.2.word hN'.2.word
  have hown' : s'.vm.findClass "TripleTrains" = some m.cls := by rw [hvm]; exact hown
  have hins : (Jvm.Cond.instantiable amNS 6).before args s' = true := h _ (by decide +kernel)
  obtain ⟨vm₁, cX, kX, hfX, hkX, -, -, X₁, st1⟩ := Y.newCold hexec (own := "TripleTrains") (C := amNS) (index := ik) (n := 6) hown' hk' hins hini'
    (g := F0 m pc ls rest) rfl (by rw [hb]; exact d0) (Nat.le_refl _) (Nat.le_refl _)
  generalize hT1 : (T.setVm vm₁).pushCell { cls := cX, slots := kX.instanceTypes.map defaultValue, vm := .none } = T1 at X₁ st1
  have hcat : (Value.ref T.heap.size).category = 1 := rfl
  have hcellA : T1.heap[T.heap.size]? = some (freshCell cX kX) := by rw [← hT1]; exact State.heap_pushCell_size _ _
  have d3' : decode c.code (pc + 3) = .ok (.dup, 1) := by rw [hb]; exact d3
  have hstr' : vk_R "TripleTrains" is text sa s' := vk_R.warm hW0 hstr
  obtain ⟨U, hsteps, hrun, hend, hW, hsame, ce, hce, hcl9, hv9⟩ := am_ctorN X₁ hexec htr hown' h (fun x hx => nomatch hx) hfX hkX hcellA (by rw [hhp, hT]; exact Nat.le_refl _) (msg := .ref sa) rfl
    (g := { method := m, pc := pc + k, locals := ls, stack := .ref sa :: .ref T.heap.size :: .ref T.heap.size :: rest, locked := none }) rfl hsize rfl rfl (rest := rest) rfl
    (by rw [hb]; exact d6) (by rw [hb]; exact d9) hout hRframes (by simp only [List.map_cons, List.sum_cons, hcat]; show 2 * 0 + _ + 81 ≤ R.locals; omega) hlocks
  obtain ⟨f1, f2⟩ := vx_frame hsame
  rw [hhp] at f1 f2
  have hWs : s.WarmedH U.vm := State.WarmedH.trans hW0 hW
  have hcl : s.vm.findClass amNS = some ce.cls := by
    rw [hvm] at hcl9
    exact hcl9
  have hall : s.sameButNew ({ U with vm := s.vm } : State) locs mc ms := by
    subst hA
    obtain ⟨e1, e2⟩ := hsame
    rw [State.setFrames_setFrames] at e1
    have h2 : (T.setVm s.vm).sameButNew ({ U with vm := s.vm } : State) [] (0 + 1) (0 + 6) := ⟨e1, e2⟩
    have h3 := X.same.trans h2
    rw [List.append_nil] at h3
    exact h3.mono hc hs
  refine ⟨U, ?_, .threw T.heap.size, hrun, hend, Or.inr ⟨T.heap.size, rfl, amNS, ce, locs, hx U hWs.alike f1 (fun q hq => f2 q hq (fun z hz => nomatch hz)), hce, hv9, hcl, hWs, hall, hf⟩⟩
  refine st1 _ ?_
  show Steps p.tables e below (T1.setTop { method := m, pc := pc + 3, locals := ls, stack := .ref T.heap.size :: rest, locked := none }) _
  jvm_step X₁.here [X₁.here.top, hexec, d3', Value.category]
  rcases hld with ⟨d4, rfl⟩ | ⟨d4, rfl⟩
  · exact X₁.ldcString hexec (own := "TripleTrains") (text := text) (index := is) (a := sa) hown' hstr'.1 hstr'.2
      (g := { method := m, pc := pc + 4, locals := ls, stack := .ref T.heap.size :: .ref T.heap.size :: rest, locked := none }) rfl (by rw [hb]; exact d4) _ hsteps
  · exact X₁.ldcStringW hexec (own := "TripleTrains") (text := text) (index := is) (a := sa) hown' hstr'.1 hstr'.2
      (g := { method := m, pc := pc + 4, locals := ls, stack := .ref T.heap.size :: .ref T.heap.size :: rest, locked := none }) rfl (by rw [hb]; exact d4) _ hsteps
end AMN2
theorem am_nOk : ∀ w ∈ am_nw.filter vx_no, vx_ot w = true ∧ w ∈ lw_tbl ∧ (goodWord w = true ∨ (amNk w = true ∧ w.onTables = true)) := by decide +kernel
end
section
/-! ===== making cells; ends ===== -/
def amThr (own : String) (cc : ByteArray) (pc k a b : Nat) : Prop :=
  ∃ (cls : String) (is : Nat) (text : String) (ic : Nat), amEx[a]? = some cls ∧ amStr[(b - 1) / 2]? = some (own, is, text) ∧ Bundle.fit cls = true ∧ Jvm.Cond.classLink own k cls ∈ amWL ∧ Jvm.Cond.initialized cls ∈ amWL ∧
    ((a = 3 ∧ own = "TripleTrains" ∧ ic = 283) ∨ ∀ w ∈ vx_atS own ic cls amXn, vx_ot w = true ∧ w ∈ lw_tbl ∧ (goodWord w = true ∨ (amNk w = true ∧ w.onTables = true))) ∧ decode cc (pc + 3) = .ok (.dup, 1) ∧
    (if (b - 1) % 2 = 0 then decode cc (pc + 4) = .ok (.ldc is, 2) ∧ decode cc (pc + 6) = .ok (.invokespecial ic, 3) ∧ decode cc (pc + 9) = .ok (.athrow, 1)
     else decode cc (pc + 4) = .ok (.ldc_w is, 3) ∧ decode cc (pc + 7) = .ok (.invokespecial ic, 3) ∧ decode cc (pc + 10) = .ok (.athrow, 1))
def amNotMH (y : MethodName) : Prop := y.cls ≠ "java/lang/invoke/MethodHandle" ∧ y.cls ≠ "java/lang/invoke/VarHandle"
/-- what a making or calling instruction is linked to -/
def amLk2 (G : Nat → Option amM) (X : Nat → Option amN) (own : String) (cc : ByteArray) (pc : Nat) (i : Instr) (a b : Nat) : Prop :=
  match i with
  | .new k => if b = 0 then (∃ r, vwCl[a]? = some r ∧ Jvm.Cond.classLink own k r.1 ∈ amWL ∧ Jvm.Cond.instantiable r.1 r.2.2 ∈ amWL ∧ Jvm.Cond.initialized r.1 ∈ amWL) else amThr own cc pc k a b
  | .newarray t => ∀ q, amKind t = some q → Jvm.Cond.arrayClass (newarray.typeOf t) ∈ amWL
  | .anewarray k => Jvm.Cond.classLink own k "TripleTrains$Snapshot" ∈ amWL
  | .invokevirtual k => ∃ N M r n, X a = some N ∧ G a = some M ∧ N.2.2 = [] ∧ vwCl[M.2.2.2.2.2.2]? = some r ∧ N.1.cls = r.1 ∧ Jvm.Cond.methodLink own k N.1 ∈ amWL ∧ Jvm.Cond.instanceMethod N.1 ∈ amWL ∧ Jvm.Cond.selects r.1 N.1 N.1 ∈ amWL ∧ Jvm.Cond.initialized r.1 ∈ amWL ∧ Jvm.Cond.code N.1 N.2.1 M.2.1 M.2.2.2.2.1 ∈ amWL ∧ amNotMH N.1 ∧ (parseMethodDescriptor N.1.desc).map (fun d => d.parameters.length) = some n ∧ M.2.2.1 = n + 1
  | .invokestatic k => if b = 6 then Jvm.Cond.methodLink own k arraycopyName ∈ amWL ∧ Jvm.Cond.native arraycopyName ∈ amWL ∧ Jvm.Cond.static arraycopyName ∈ amWL ∧ Jvm.Cond.initialized "java/lang/System" ∈ amWL
      else ∃ N M, X a = some N ∧ G a = some M ∧ (if b = 0 then N.2.2 = [] ∧ Jvm.Cond.code N.1 N.2.1 M.2.1 M.2.2.2.2.1 ∈ amWL else N.2.2 ≠ [] ∧ Jvm.Cond.codeWith N.1 N.2.1 M.2.1 M.2.2.2.2.1 N.2.2 ∈ amWL) ∧ Jvm.Cond.methodLink own k N.1 ∈ amWL ∧ Jvm.Cond.static N.1 ∈ amWL ∧ Jvm.Cond.initialized N.1.cls ∈ amWL ∧ amNotMH N.1 ∧ (parseMethodDescriptor N.1.desc).map (fun d => d.parameters.length) = some M.2.2.1
  | .invokespecial k => if b = 5 then Jvm.Cond.methodLink own k Lib.objectInit ∈ amWL ∧ Jvm.Cond.instanceMethod Lib.objectInit ∈ amWL ∧ Jvm.Cond.code Lib.objectInit ⟨#[0xb1]⟩ 1 none ∈ amWL
      else ∃ N M n, X a = some N ∧ G a = some M ∧ N.2.2 = [] ∧ M.2.2.2.2.1 = none ∧ (Jvm.Cond.methodLink own k N.1 ∈ amWL ∨ ∃ host, Jvm.Cond.methodLinkNest own k N.1 host ∈ lw_tbl) ∧ Jvm.Cond.instanceMethod N.1 ∈ amWL ∧ Jvm.Cond.initialized N.1.cls ∈ amWL ∧ Jvm.Cond.code N.1 N.2.1 M.2.1 none ∈ amWL ∧ N.1.name = "<init>" ∧ amNotMH N.1 ∧ (parseMethodDescriptor N.1.desc).map (fun d => d.parameters.length) = some n ∧ M.2.2.1 = n + 1
  | _ => True
/-- an entry of a method's code -/
def amEok (G : Nat → Option amM) (X : Nat → Option amN) (N : amN) (M : amM) (q : Nat × amIn1) : Prop :=
  (∃ n, decode N.2.1 q.1 = .ok (q.2.1, n) ∧ (amSz q.2.1 = 0 ∨ n = amSz q.2.1)) ∧ amLk amWL N.1.cls M.2.2.2.1 q.1 q.2.1 q.2.2.1 q.2.2.2 ∧ amLk2 G X N.1.cls N.2.1 q.1 q.2.1 q.2.2.1 q.2.2.2
theorem am_up_ag {hp : amH} {ad : Nat → Nat} {q : Nat} (h : hp.length < amK) : amAg hp.length ad (va_up ad hp.length q) := by
  intro i hi
  unfold va_up
  rw [if_neg]
  rcases hi with hi | hi <;> omega
theorem am_rep_i {n : Nat} : (fun j => amInt ((List.replicate n (.int 0)).getD j .null)) = fun _ => (0 : Int32) := by
  funext j
  by_cases h : j < n
  · simp [List.getElem?_replicate, h, amInt]
  · simp [List.getElem?_replicate, h, amInt]
theorem am_rep_l {n : Nat} : (fun j => amLong ((List.replicate n (.long 0)).getD j .null)) = fun _ => (0 : Int64) := by
  funext j
  by_cases h : j < n
  · simp [List.getElem?_replicate, h, amLong]
  · simp [List.getElem?_replicate, h, amLong]
theorem am_rep_q {ad : Nat → Nat} {n : Nat} : (fun j => amRef ad ((List.replicate n .null).getD j .null)) = fun _ => (none : Option Nat) := by
  funext j
  by_cases h : j < n
  · simp [List.getElem?_replicate, h, amRef]
  · simp [List.getElem?_replicate, h, amRef]
theorem amDef_len {ci : Nat} {r : vw_C} (h : vwCl[ci]? = some r) : (amDef ci).length = r.2.2 := by simp [amDef, h]
theorem amDef_at {ci : Nat} {r : vw_C} (h : vwCl[ci]? = some r) {j : Nat} (hj : j < r.2.2) : defaultValue (amFty ci j) = vp_V (amDef ci) j := by
  simp [vp_V, amDef, h, hj]
theorem am_default (ad : Nat → Nat) (ty : FieldType) : amV ad (defaultValue ty) = defaultValue ty := by cases ty <;> rfl
theorem amDef_map (ad : Nat → Nat) (ci : Nat) : (amDef ci).map (amV ad) = amDef ci := by
  unfold amDef
  split
  · rw [List.map_map]
    exact List.map_congr_left fun k _ => am_default ad _
  · rfl
theorem am_lt32 {a : Nat} {r : vw_C} (h : vwCl[a]? = some r) : a < 32 := by
  have h1 := (List.getElem?_eq_some_iff.mp h).1
  have h2 : vwCl.length = 12 := rfl
  omega
theorem am_cpy {c0 c1 : List Value} {sp dp n : Nat} (h0 : sp + n ≤ c0.length) (h1 : dp + n ≤ c1.length) : (fun j => amInt ((c1.take dp ++ ((c0.drop sp).take n ++ c1.drop (dp + n))).getD j .null)) = va_cpy (fun j => amInt (c0.getD j .null)) (fun j => amInt (c1.getD j .null)) sp dp n := by
  funext j
  unfold va_cpy
  dsimp only
  by_cases h2 : dp ≤ j ∧ j < dp + n
  · rw [if_pos h2]
    congr 1
    rw [List.getD_eq_getElem?_getD, List.getD_eq_getElem?_getD, List.getElem?_append_right (by simp; omega), List.getElem?_append_left (by simp; omega)]
    simp only [List.length_take]
    rw [List.getElem?_take, if_pos (by omega), List.getElem?_drop]
    congr 2
    omega
  · rw [if_neg h2]
    congr 1
    rw [List.getD_eq_getElem?_getD, List.getD_eq_getElem?_getD]
    by_cases h3 : j < dp
    · rw [List.getElem?_append_left (by simp; omega), List.getElem?_take, if_pos h3]
    · rw [List.getElem?_append_right (by simp; omega), List.getElem?_append_right (by simp; omega), List.getElem?_drop]
      congr 2
      simp only [List.length_take, List.length_drop]
      omega
theorem am_cpy_len {c0 c1 : List Value} {sp dp n : Nat} (h0 : sp + n ≤ c0.length) (h1 : dp + n ≤ c1.length) : (c1.take dp ++ ((c0.drop sp).take n ++ c1.drop (dp + n))).length = c1.length := by
  simp
  omega
section AMD
variable {p : Program} {l : Launch} {e : Env} {R : Room} {s : State} {m : MethodId} {args : Array Value} {below : List Frame} {meth : Method} {c : Code} {H : Heap} {locs : List Loc} {cells slots : Nat} {Q : State → Prop}
variable {D : va_G} {dA : Nat → ClassId} {A : Nat → Prop} {sA : Nat → Nat}
theorem am_new {dA : Nat → ClassId} {ad : Nat → Nat} {hp : amH} {q : Nat} {t : Nat} {vs : List Value} {E : va_E} (hH : amOkH hp.length hp = true) (hk : hp.length < amK) (hE : amE dA (va_up ad hp.length q) (t, vs) = E) : amW dA ad hp ++ [(q, E)] = amW dA (va_up ad hp.length q) (hp ++ [(t, vs)]) := by
  rw [amW_push, amW_ag hH (am_up_ag hk), hE]
  simp [va_up]
theorem am_newst {ad : Nat → Nat} {hp : amH} {q : Nat} {r : List Value} (hr : amOkS hp.length r = true) (hk : hp.length < amK) : (Value.ref hp.length :: r).map (amV (va_up ad hp.length q)) = .ref q :: r.map (amV ad) := by
  rw [List.map_cons, amSt_ag hr (am_up_ag hk)]
  simp [amV, va_up]
set_option maxHeartbeats 1000000 in
theorem am_act (hx : p.tables.exec = Jvm.exec) {G : Nat → Option amM} {X : Nat → Option amN} {N : amN} {M : amM} (hb : c.code = N.2.1) (hml : c.maxLocals = M.2.1) (hts : ∀ w ∈ amWL, w.before args s = true) (hown : s.vm.findClass N.1.cls = some m.cls) (hG : amG D dA sA s) (hus : ∀ (ci : Nat) (r : vw_C), vwCl[ci]? = some r → ∀ w ∈ u_ws r.1 r.2.1 r.2.2, w ∈ amWL) (hcl : amClOk) (hini : M.2.2.2.1 = true → meth.name = "<init>") {sc : Option (List Int32)} {ad : Nat → Nat} (hsA : ∀ k, ad (amK + k) = sA k) (hsc : ∀ l9, sc = some l9 → va_X (sA 999999) l9.length (fun j => l9.getD j 0) s s.heap ∧ sA 999999 < s.heap.size ∧ ¬ A (sA 999999)) (hA : ∀ q, s.heap.size ≤ q → A q)
    {pc a b : Nat} {i : Instr} (hE : amEok G X N M (pc, i, a, b)) (hR : 1 ≤ R.frames ∧ 100 ≤ R.locals) {ls : amL} {st : List Value} {hp : amH} {r : amR} {dk ds : Nat} (h : amDo G M sc i a b pc ls st hp = some (.inl (r, dk, ds))) (hroom : cells + dk ≤ R.cells ∧ slots + ds ≤ R.slots) {lsA : Array Slot} (hl : lv_has lsA M.2.1 (amLs ad ls)) (hP : va_P D vwCl (amW dA ad hp) H) (hD : va_D A (amW dA ad hp)) (hS : va_S A s.heap H locs)
    (kk : ∀ (ad1 : Nat → Nat) (H1 : Heap) (locs1 : List Loc) (lsA1 : Array Slot), amAg hp.length ad ad1 → va_P D vwCl (amW dA ad1 r.2.2.2) H1 → va_D A (amW dA ad1 r.2.2.2) → va_S A s.heap H1 locs1 → lv_has lsA1 M.2.1 (amLs ad1 r.2.1) → W p l e R s m args below meth c H1 locs1 (cells + dk) (slots + ds) Q (F0 m r.1 lsA1 (r.2.2.1.map (amV ad1)))) :
    W p l e R s m args below meth c H locs cells slots Q (F0 m pc lsA (st.map (amV ad))) := by
  obtain ⟨hd, hlk, hlk2⟩ := hE
  dsimp only at hd hlk hlk2
  have hK := hG.1
  unfold amDo at h
  split at h
  case h_1 z =>
    split at h
    · next hb0 =>
      obtain ⟨o1, o2, o3, o4, e1⟩ := amMake_s h
      cases e1
      unfold amLk2 at hlk2
      dsimp only at hlk2
      rw [if_pos hb0] at hlk2
      obtain ⟨r, hc, w1, w2, w3⟩ := hlk2
      obtain ⟨n, hd, hn⟩ := hd
      obtain rfl : n = 3 := by rcases hn with hn | hn <;> first | exact hn | cases hn
      dsimp only at hroom kk
      rw [amDef_len hc] at hroom kk
      refine va_new (c0 := c) (D := D) (ci := a) (fs := amDef a) hx hb hts (hus a r hc) (amFty a) (hcl a r hc).1 hown (hts _ w1) (hts _ w2) (hts _ w3) hK hP hD hS hA hc (fun j hj => amDef_at hc hj) hroom.1 hroom.2 hd (fun q H1 hP1 hD1 hS1 => ?_)
      have e2 := am_new (q := q) (E := .inr (a, amDef a)) (t := a) (vs := amDef a) (dA := dA) (ad := ad) o3 o4 (by rw [amE_obj (am_lt32 hc), amDef_map])
      rw [e2] at hP1 hD1
      exact W.eq (congrArg (fun z => F0 m (pc + 3) lsA z) (am_newst (q := q) (ad := ad) o2 o4).symm) (kk (va_up ad hp.length q) H1 locs lsA (am_up_ag o4) hP1 hD1 hS1 (by rw [amLs_ag o1 (am_up_ag o4)]; exact hl))
    · split at h <;> cases h
  case h_2 t =>
    obtain ⟨n, q, t0, v, rfl, hk, hn0, hn1, h⟩ := amMakeA_s h
    obtain ⟨o1, o2, o3, o4, e1⟩ := amMake_s h
    cases e1
    have hw := hlk2 _ hk
    obtain ⟨k, hd, hn⟩ := hd
    obtain rfl : k = 2 := by rcases hn with hn | hn <;> first | exact hn | cases hn
    dsimp only [List.length_replicate] at hroom kk
    rw [List.length_replicate] at hroom kk
    cases t <;> cases hk
    case refl.byte.refl =>
      refine va_newa (D := D) (ty := .byte) (a0 := (n.toNatClampNeg, .inl fun _ => 0)) hx hb (hts _ hw) rfl hK hP hD hS hA (fun _ => rfl) hn0 rfl (by show n.toNatClampNeg * 1 ≤ _; omega) hroom.1 hroom.2 hd (fun q1 cA H1 hK1 hP1 hD1 hS1 => ?_)
      have hcA : cA = dA 2 := Option.some.inj ((hK1.2 4 (cA, .byte) rfl).2.symm.trans (hK.2 2 (dA 2, .byte) rfl).2)
      subst hcA
      have e2 := am_new (q := q1) (E := .inl (dA 2, n.toNatClampNeg, .inl fun _ => 0)) (t := 34) (vs := List.replicate n.toNatClampNeg (.int 0)) (dA := dA) (ad := ad) o3 o4 (by show Sum.inl _ = _; rw [am_rep_i, List.length_replicate])
      rw [e2] at hP1 hD1
      exact W.eq (congrArg (fun z => F0 m (pc + 2) lsA z) (am_newst (q := q1) (ad := ad) o2 o4).symm) (kk (va_up ad hp.length q1) H1 locs lsA (am_up_ag o4) hP1 hD1 hS1 (by rw [amLs_ag o1 (am_up_ag o4)]; exact hl))
    case refl.int.refl =>
      refine va_newa (D := D) (ty := .int) (a0 := (n.toNatClampNeg, .inl fun _ => 0)) hx hb (hts _ hw) rfl hK hP hD hS hA (fun _ => rfl) hn0 rfl (by show n.toNatClampNeg * 4 ≤ _; omega) hroom.1 hroom.2 hd (fun q1 cA H1 hK1 hP1 hD1 hS1 => ?_)
      have hcA : cA = dA 0 := Option.some.inj ((hK1.2 4 (cA, .int) rfl).2.symm.trans (hK.2 0 (dA 0, .int) rfl).2)
      subst hcA
      have e2 := am_new (q := q1) (E := .inl (dA 0, n.toNatClampNeg, .inl fun _ => 0)) (t := 32) (vs := List.replicate n.toNatClampNeg (.int 0)) (dA := dA) (ad := ad) o3 o4 (by show Sum.inl _ = _; rw [am_rep_i, List.length_replicate])
      rw [e2] at hP1 hD1
      exact W.eq (congrArg (fun z => F0 m (pc + 2) lsA z) (am_newst (q := q1) (ad := ad) o2 o4).symm) (kk (va_up ad hp.length q1) H1 locs lsA (am_up_ag o4) hP1 hD1 hS1 (by rw [amLs_ag o1 (am_up_ag o4)]; exact hl))
    case refl.long.refl =>
      refine va_newa (D := D) (ty := .long) (a0 := (n.toNatClampNeg, .inr (.inl fun _ => 0))) hx hb (hts _ hw) rfl hK hP hD hS hA (fun _ => rfl) hn0 rfl (by show n.toNatClampNeg * 8 ≤ _; omega) hroom.1 hroom.2 hd (fun q1 cA H1 hK1 hP1 hD1 hS1 => ?_)
      have hcA : cA = dA 1 := Option.some.inj ((hK1.2 4 (cA, .long) rfl).2.symm.trans (hK.2 1 (dA 1, .long) rfl).2)
      subst hcA
      have e2 := am_new (q := q1) (E := .inl (dA 1, n.toNatClampNeg, .inr (.inl fun _ => 0))) (t := 33) (vs := List.replicate n.toNatClampNeg (.long 0)) (dA := dA) (ad := ad) o3 o4 (by show Sum.inl _ = _; rw [am_rep_l, List.length_replicate])
      rw [e2] at hP1 hD1
      exact W.eq (congrArg (fun z => F0 m (pc + 2) lsA z) (am_newst (q := q1) (ad := ad) o2 o4).symm) (kk (va_up ad hp.length q1) H1 locs lsA (am_up_ag o4) hP1 hD1 hS1 (by rw [amLs_ag o1 (am_up_ag o4)]; exact hl))
  case h_3 z =>
    obtain ⟨n, q, t0, v, rfl, hk, hn0, hn1, h⟩ := amMakeA_s h
    obtain ⟨o1, o2, o3, o4, e1⟩ := amMake_s h
    cases e1
    cases hk
    obtain ⟨k, hd, hn⟩ := hd
    obtain rfl : k = 3 := by rcases hn with hn | hn <;> first | exact hn | cases hn
    dsimp only at hroom kk
    rw [List.length_replicate] at hroom kk
    refine va_newq (D := D) (C := "TripleTrains$Snapshot") hx hb hown (hts _ hlk2) hG.2.2.2.2 hK hP hD hS hA hn0 rfl (by omega) hroom.1 hroom.2 hd (fun q1 cA H1 hK1 hP1 hD1 hS1 => ?_)
    have hcA : cA = dA 3 := by
      obtain ⟨_, _, -, -, -, g1⟩ := (hK1.2 4 (cA, .object "TripleTrains$Snapshot") rfl).2
      obtain ⟨_, _, -, -, -, g2⟩ := (hK.2 3 (dA 3, .object "TripleTrains$Snapshot") rfl).2
      exact Option.some.inj (g1.symm.trans g2)
    subst hcA
    have e2 := am_new (q := q1) (E := .inl (dA 3, n.toNatClampNeg, .inr (.inr (.inr (.inr fun _ => none))))) (t := 35) (vs := List.replicate n.toNatClampNeg .null) (dA := dA) (ad := ad) o3 o4 (by show Sum.inl _ = _; rw [am_rep_q, List.length_replicate])
    rw [e2] at hP1 hD1
    exact W.eq (congrArg (fun z => F0 m (pc + 3) lsA z) (am_newst (q := q1) (ad := ad) o2 o4).symm) (kk (va_up ad hp.length q1) H1 locs lsA (am_up_ag o4) hP1 hD1 hS1 (by rw [amLs_ag o1 (am_up_ag o4)]; exact hl))
  case h_4 => obtain ⟨_, _, _, -, -, -, -, -, -, -, -, e1⟩ := amCall_s h; cases e1
  case h_5 z =>
    split at h
    · next hb6 =>
      obtain ⟨n, dp, o, sp, a0, q, c0, c1, rfl, g0, g1, h1, h2, h3, h4, h5, h6, e1⟩ := amCopy_s h
      cases e1
      unfold amLk2 at hlk2
      dsimp only at hlk2
      rw [if_pos hb6] at hlk2
      obtain ⟨w1, w2, w3, w4⟩ := hlk2
      obtain ⟨k, hd, hn⟩ := hd
      obtain rfl : k = 3 := by rcases hn with hn | hn <;> first | exact hn | cases hn
      have e0 := amW_get (dA := dA) (ad := ad) g0
      have e1 := amW_get (dA := dA) (ad := ad) g1
      have hset : (amW dA ad hp).set o (ad o, .inl (dA 0, c1.length, .inl (va_cpy (fun j => amInt (c0.getD j .null)) (fun j => amInt (c1.getD j .null)) sp.toNatClampNeg dp.toNatClampNeg n.toNatClampNeg))) = amW dA ad (hp.set o (32, c1.take dp.toNatClampNeg ++ ((c0.drop sp.toNatClampNeg).take n.toNatClampNeg ++ c1.drop (dp.toNatClampNeg + n.toNatClampNeg)))) := by
        rw [← amW_set]
        show _ = (amW dA ad hp).set o (ad o, .inl (dA 0, List.length _, _))
        rw [am_cpy h4 h5, am_cpy_len h4 h5]
      have hcat : ((q.map (amV ad)).map fun v => v.category).sum ≤ 8 := by
        rw [List.map_map]
        simpa [Function.comp_def, amV_cat] using h6
      exact va_copyi (D := D) (ty := .int) hx hb (hml.trans hl.1.symm) hown (hts _ w1) (hts _ w2) (hts _ w3) (hts _ w4) hK hP hD hS a0 o 0 0 e0 e1 rfl rfl rfl h1 h2 h3 h4 h5 (fun _ _ => rfl) hR.1 (by
        have : nativeFrameWords "java/lang/System" "arraycopy" 5 + 11 ≤ 90 := by decide +kernel
        omega) hd (fun H1 locs1 p2 p3 p4 => kk ad H1 locs1 lsA (amAg.refl _ _) (hset ▸ p2) (hset ▸ p3) p4 hl)
    · obtain ⟨_, _, _, -, -, -, -, -, -, -, -, e1⟩ := amCall_s h; cases e1
  case h_6 z =>
    split at h
    · next hb5 =>
      obtain ⟨o, q, rfl, h6, e1⟩ := amObj_s h
      cases e1
      unfold amLk2 at hlk2
      dsimp only at hlk2
      rw [if_pos hb5] at hlk2
      obtain ⟨w1, w2, w3⟩ := hlk2
      obtain ⟨k, hd, hn⟩ := hd
      obtain rfl : k = 3 := by rcases hn with hn | hn <;> first | exact hn | cases hn
      have hcat : ((q.map (amV ad)).map fun v => v.category).sum ≤ 8 := by
        rw [List.map_map]
        simpa [Function.comp_def, amV_cat] using h6
      refine W.objInit hx hb hown (hts _ w1) (hts _ w2) (hts _ w3) rfl (hl.1.trans hml.symm) rfl hd hR.1 ?_ ?_
      · show 2 * 0 + _ + 12 ≤ _
        omega
      · exact kk ad H locs lsA (amAg.refl _ _) hP hD hS hl
    · obtain ⟨_, _, _, -, -, -, -, -, -, -, -, e1⟩ := amCall_s h; cases e1
  case h_7 => obtain ⟨v, -, e1⟩ := Option.map_eq_some_iff.mp h; cases e1
  case h_8 => obtain ⟨v, -, e1⟩ := Option.map_eq_some_iff.mp h; cases e1
  case h_9 => obtain ⟨v, -, e1⟩ := Option.map_eq_some_iff.mp h; cases e1
  case h_10 => obtain ⟨v, -, e1⟩ := Option.map_eq_some_iff.mp h; cases e1
  case h_11 => obtain ⟨v, -, e1⟩ := Option.map_eq_some_iff.mp h; cases e1
  case h_12 =>
    obtain ⟨v, h1, e1⟩ := Option.map_eq_some_iff.mp h
    cases e1
    exact amStep_ok (sA := sA) (D := D) hx hb hts hown hK hus hcl hini hG.2.1 hsA (fun l9 z => by
      have e9 : ad amS = sA 999999 := hsA 999999
      rw [e9]
      exact hsc l9 z) hd hlk h1 hl hP hD hS (fun H1 locs1 lsA1 p2 p3 p4 p5 => kk ad H1 locs1 lsA1 (amAg.refl _ _) p2 p3 p4 p5)
end AMD
end
section
/-! ===== whole frames ===== -/
/-- a method's handlers: where one takes what a call throws -/
def amHok (N : amN) (M : amM) : Prop :=
  (M.2.2.2.2.2.1 = [] → N.2.2 = []) ∧ ∀ (pc E h x to : Nat) (En : String), amHand M.2.2.2.2.2.1 pc E = some (h, x, to) → amEx[E]? = some En →
    ∃ (pre : List ExceptionTableEntry) (z : ExceptionTableEntry) (suf : List ExceptionTableEntry), tableOf N.2.2 = pre ++ z :: suf ∧ (∀ y ∈ pre, covers y pc = false ∨ (y.catchType ≠ 0 ∧ ∃ nm : String, Jvm.Cond.classLink N.1.cls y.catchType nm ∈ amWL ∧ (En, nm) ∈ amNc)) ∧ covers z pc = true ∧ z.catchType ≠ 0 ∧ z.handlerPc = h ∧
      Jvm.Cond.classLink N.1.cls z.catchType En ∈ amWL ∧ Jvm.Cond.castable En En ∈ lw_tbl ∧ x < M.2.1 ∧ ((∃ j : Fin 4, (j : Nat) = x ∧ decode N.2.1 h = .ok (.astore_n j, 1) ∧ to = h + 1) ∨ (decode N.2.1 h = .ok (.astore x, 2) ∧ to = h + 2))
/-- a method, its code and names -/
def amMk (G : Nat → Option amM) (X : Nat → Option amN) (N : amN) (M : amM) : Prop :=
  plainFor N.1 = true ∧ M.2.1 ≤ 100 ∧ (M.2.2.2.1 = true → N.1.name = "<init>") ∧ amHok N M ∧ ∀ q ∈ M.1, amEok G X N M q
def amCx (p : Program) (R : Room) (s : State) (m : MethodId) (args : Array Value) (meth : Method) (c : Code) (A : Nat → Prop) (D : va_G) (dA : Nat → ClassId) (sA : Nat → Nat) (G : Nat → Option amM) (X : Nat → Option amN) (N : amN) (M : amM) (sc : Option (List Int32)) (d mc ms : Nat) : Prop :=
  p.tables.exec = Jvm.exec ∧ c.code = N.2.1 ∧ c.maxLocals = M.2.1 ∧ s.vm.findClass N.1.cls = some m.cls ∧ (∀ w ∈ amWL, w.before args s = true) ∧ amG D dA sA s ∧ amZ A s s.heap ∧ (∀ q, s.heap.size ≤ q → A q) ∧ (M.2.2.2.1 = true → meth.name = "<init>") ∧ c.exceptionTable.toList = tableOf N.2.2 ∧ amMk G X N M ∧ (d + 8 ≤ R.frames ∧ 128 * (d + 1) ≤ R.locals ∧ mc ≤ R.cells ∧ ms ≤ R.slots) ∧ (∀ l9, sc = some l9 → va_X (sA 999999) l9.length (fun j => l9.getD j 0) s s.heap ∧ sA 999999 < s.heap.size ∧ ¬ A (sA 999999))
def amFR (l : Launch) (D : va_G) (dA : Nat → ClassId) (sA : Nat → Nat) (G : Nat → Option amM) (X : Nat → Option amN) (f : Nat) : Prop :=
  ∀ (p : Program) (e : Env) (R : Room) (s : State) (m : MethodId) (args : Array Value) (below : List Frame) (meth : Method) (c : Code) (A : Nat → Prop) (Q : State → Prop) (N : amN) (M : amM) (sc : Option (List Int32)) (d n0 : Nat) (ad0 : Nat → Nat) (x : Option Value ⊕ Nat) (hp1 : amH) (mc ms : Nat),
    amCx p R s m args meth c A D dA sA G X N M sc d mc ms → (∀ j, ad0 (amK + j) = sA j) →
    (∀ (v : Option Value) (i : Instr) (pc : Nat) (st : List Value) (ad : Nat → Nat) (H : Heap) (locs : List Loc) (lsA : Array Slot), x = .inl v → decode N.2.1 pc = .ok (i, 1) → amRetV M.2.2.2.2.1 i st = some v → amAg n0 ad0 ad → va_P D vwCl (amW dA ad hp1) H → va_D A (amW dA ad hp1) → va_S A s.heap H locs → W p l e R s m args below meth c H locs mc ms Q (F0 m pc lsA (st.map (amV ad)))) →
    (∀ (a b k kc ks pc : Nat) (st : List Value) (ad : Nat → Nat) (H : Heap) (locs : List Loc) (lsA : Array Slot), x = .inr a → decode N.2.1 pc = .ok (.new k, 3) → amThr N.1.cls N.2.1 pc k a b → M.2.2.2.2.2.1 = [] → (st.map fun v => v.category).sum ≤ 8 → lsA.size = M.2.1 → kc + 1 = mc → ks + 6 = ms → amAg n0 ad0 ad → va_P D vwCl (amW dA ad hp1) H → va_D A (amW dA ad hp1) → va_S A s.heap H locs → W p l e R s m args below meth c H locs kc ks Q (F0 m pc lsA (st.map (amV ad)))) →
    (∀ (E : Nat) (En : String) (ce : Cell) (q9 pc : Nat) (st : List Value) (ad : Nat → Nat) (H : Heap) (locs : List Loc) (lsA : Array Slot), x = .inr E → amEx[E]? = some En → M.2.2.2.2.2.1 = [] → amAg n0 ad0 ad → va_P D vwCl (amW dA ad hp1) H → va_D A (amW dA ad hp1) → va_S A s.heap H locs → H[q9]? = some ce → ce.vm = .none → s.vm.findClass En = some ce.cls → vx_W p l e R s m args below meth c H locs mc ms Q (F0 m pc lsA st) q9) →
    ∀ (cs : amP) (pc : Nat) (ls : amL) (st : List Value) (hp : amH) (kc ks : Nat) (ad : Nat → Nat) (H : Heap) (locs : List Loc) (lsA : Array Slot), (∀ q ∈ cs, q ∈ M.1) → amRun G sc f d M cs pc ls st hp kc ks = some (x, hp1, mc, ms) → amAg n0 ad0 ad → n0 ≤ hp.length → lv_has lsA M.2.1 (amLs ad ls) → va_P D vwCl (amW dA ad hp) H → va_D A (amW dA ad hp) → va_S A s.heap H locs → W p l e R s m args below meth c H locs kc ks Q (F0 m pc lsA (st.map (amV ad)))
def amHd (N : amN) (M : amM) : Jvm.Cond := if N.2.2 = [] then Jvm.Cond.code N.1 N.2.1 M.2.1 M.2.2.2.2.1 else Jvm.Cond.codeWith N.1 N.2.1 M.2.1 M.2.2.2.2.1 N.2.2
def amCT (l : Launch) (D : va_G) (dA : Nat → ClassId) (sA : Nat → Nat) (G : Nat → Option amM) (X : Nat → Option amN) (f : Nat) : Prop :=
  ∀ (k : Nat) (N : amN) (M : amM) (d : Nat) (av : List Value) (hp hp1 : amH) (x : Option Value ⊕ Nat) (mc ms : Nat) (ad : Nat → Nat) (sz : Nat), X k = some N → G k = some M → (∀ j, ad (amK + j) = sA j) → (av.map fun v => v.category).sum ≤ M.2.1 → amRun G none f d M M.1 0 (lv_args 0 av) [] hp 0 0 = some (x, hp1, mc, ms) →
    vx_Met l N.1 (amHd N M :: amWL) (amRm d mc ms) (amPc D dA sA ad hp av sz) (amQ D dA ad hp.length (va_A (amW dA ad hp) sz) x hp1) (amX D dA ad hp.length (va_A (amW dA ad hp) sz) x hp1) mc ms (va_A (amW dA ad hp) sz)
theorem amRetV_s {ret : Option FieldType} {i : Instr} {st : List Value} {v : Option Value} (h : amRetV ret i st = some v) :
    (∃ ty x, i = .ireturn ∧ ret = some ty ∧ st = [.int x] ∧ narrow ty (.int x) = .int x ∧ v = some (.int x)) ∨ (∃ x, i = .lreturn ∧ ret = some .long ∧ st = [.long x] ∧ v = some (.long x)) ∨ (∃ x, i = .freturn ∧ ret = some .float ∧ st = [.float x] ∧ v = some (.float x)) ∨ (∃ x, i = .dreturn ∧ ret = some .double ∧ st = [.double x] ∧ v = some (.double x)) ∨ (i = .return_ ∧ ret = none ∧ st = [] ∧ v = none) := by
  unfold amRetV at h
  split at h
  · split at h
    · next ty x =>
      split at h
      · next e => cases h; exact Or.inl ⟨ty, x, rfl, rfl, rfl, e, rfl⟩
      · cases h
    · cases h
  · split at h
    · next x => cases h; exact Or.inr (Or.inl ⟨x, rfl, rfl, rfl, rfl⟩)
    · cases h
  · split at h
    · next x => cases h; exact Or.inr (Or.inr (Or.inl ⟨x, rfl, rfl, rfl, rfl⟩))
    · cases h
  · split at h
    · next x => cases h; exact Or.inr (Or.inr (Or.inr (Or.inl ⟨x, rfl, rfl, rfl, rfl⟩)))
    · cases h
  · split at h
    · cases h; exact Or.inr (Or.inr (Or.inr (Or.inr ⟨rfl, rfl, rfl, rfl⟩)))
    · cases h
  · cases h
theorem am_seek_in {cs : amP} {pc : Nat} : ∀ q ∈ amSeek cs pc, q ∈ cs := fun q h => (List.dropWhile_suffix _).subset h
theorem am_next_in {M : amM} {cs : amP} {pc : Nat} (h : ∀ q ∈ cs, q ∈ M.1) : ∀ q ∈ amNext M cs pc, q ∈ M.1 := by
  intro q hq
  unfold amNext at hq
  split at hq
  · split at hq
    · exact h q hq
    · exact am_seek_in q hq
  · exact am_seek_in q hq
theorem am_args_ls (ad : Nat → Nat) : ∀ (av : List Value) (i : Nat), amLs ad (lv_args i av) = lv_args i (av.map (amV ad))
  | [], _ => rfl
  | v :: r, i => by
    show (i, amV ad v) :: amLs ad (lv_args _ r) = (i, amV ad v) :: lv_args _ (r.map (amV ad))
    rw [am_args_ls ad r, amV_cat]
theorem am_sl_len : ∀ (vs : List Value), (lg_sl vs).length = (vs.map fun v => v.category).sum
  | [] => rfl
  | v :: r => by
    have ih := am_sl_len r
    rw [show lg_sl (v :: r) = (if v.category = 2 then [.val v, .second] else [.val v]) ++ lg_sl r from rfl, List.length_append, ih]
    rcases lv_cat v with h | h <;> simp [h]
section AMF
variable {l : Launch} {D : va_G} {dA : Nat → ClassId} {sA : Nat → Nat} {G : Nat → Option amM} {X : Nat → Option amN}
/-- the calls -/
theorem am_callAct {p : Program} {e : Env} {R : Room} {s : State} {m : MethodId} {args : Array Value} {below : List Frame} {meth : Method} {c : Code} {A : Nat → Prop} {Q : State → Prop} {N : amN} {M : amM} {sc : Option (List Int32)} {d mcT msT : Nat} (C : amCx p R s m args meth c A D dA sA G X N M sc (d + 1) mcT msT)
    {pc a b k : Nat} {i : Instr} (hE : amEok G X N M (pc, i, a, b)) {ls : amL} {st av rest : List Value} {hp hp1 : amH} (h : amDo G M sc i a b pc ls st hp = some (.inr (.inr (.inr (k, av, rest))))) {Mk : amM} (hGk : G k = some Mk) {x : Option Value ⊕ Nat} {mc ms kc ks : Nat} {ad : Nat → Nat} {H : Heap} {locs : List Loc} {lsA : Array Slot}
    (hM : ∀ (Nk : amN), X k = some Nk → (av.map fun v => v.category).sum ≤ Mk.2.1 → vx_Met l Nk.1 (amHd Nk Mk :: amWL) (amRm d mc ms) (amPc D dA sA ad hp av H.size) (amQ D dA ad hp.length (va_A (amW dA ad hp) H.size) x hp1) (amX D dA ad hp.length (va_A (amW dA ad hp) H.size) x hp1) mc ms (va_A (amW dA ad hp) H.size)) (hnL : Mk.2.1 ≤ 100)
    (hmay : amMay i b = false → ∃ v, x = .inl v) (hroom : kc + mc ≤ R.cells ∧ ks + ms ≤ R.slots) (hl : lv_has lsA M.2.1 (amLs ad ls)) (hP : va_P D vwCl (amW dA ad hp) H) (hD : va_D A (amW dA ad hp)) (hS : va_S A s.heap H locs)
    (kk : ∀ (v : Option Value) (ad1 : Nat → Nat) (H1 : Heap) (locs1 : List Loc), x = .inl v → amAg hp.length ad ad1 → va_P D vwCl (amW dA ad1 hp1) H1 → va_D A (amW dA ad1 hp1) → va_S A s.heap H1 locs1 → W p l e R s m args below meth c H1 locs1 (kc + mc) (ks + ms) Q (F0 m (pc + 3) lsA ((v.toList ++ rest).map (amV ad1))))
    (kx : ∀ (k : Nat) (E : String) (ce : Cell) (q9 : Addr) (ad1 : Nat → Nat) (H1 : Heap) (locs1 : List Loc), x = .inr k → amEx[k]? = some E → amAg hp.length ad ad1 → va_P D vwCl (amW dA ad1 hp1) H1 → va_D A (amW dA ad1 hp1) → va_S A s.heap H1 locs1 → H1[q9]? = some ce → ce.vm = .none → s.vm.findClass E = some ce.cls → vx_W p l e R s m args below meth c H1 locs1 (kc + mc) (ks + ms) Q (F0 m pc lsA (rest.map (amV ad))) q9) :
    amOkL hp.length ls = true ∧ W p l e R s m args below meth c H locs kc ks Q (F0 m pc lsA (st.map (amV ad))) := by
  obtain ⟨hx, hb, hml, hown, hts, hG, hZ, hA, hini, htab, hMk, hR, hsc⟩ := C
  obtain ⟨⟨n, hd, hn⟩, hlk, hlk2⟩ := hE
  dsimp only at hd hn hlk hlk2
  have S : CallFix p m c N.2.1 M.2.1 s args amWL N.1.cls := ⟨hx, hb, hml, hown, hts⟩
  have hR2 : d + 9 ≤ R.frames ∧ 128 * (d + 2) ≤ R.locals := ⟨by omega, by omega⟩
  unfold amDo at h
  split at h
  case h_1 =>
    split at h
    · obtain ⟨-, -, -, -, e1⟩ := amMake_s h; cases e1
    · split at h <;> cases h
  case h_2 => obtain ⟨_, _, _, _, -, -, -, -, h⟩ := amMakeA_s h; obtain ⟨-, -, -, -, e1⟩ := amMake_s h; cases e1
  case h_3 => obtain ⟨_, _, _, _, -, -, -, -, h⟩ := amMakeA_s h; obtain ⟨-, -, -, -, e1⟩ := amMake_s h; cases e1
  case h_4 z =>
    obtain rfl : n = 3 := by rcases hn with hn | hn <;> first | exact hn | cases hn
    obtain ⟨M9, av9, rest9, g1, rfl, g2, g3, g4, g5, g6, g7, e1⟩ := amCall_s h
    cases e1
    obtain ⟨Nk, M8, r, n8, q1, q2, q3, q4, q5, w1, w2, w3, w4, w5, q6, q7, q8⟩ := hlk2
    cases hGk.symm.trans g1
    cases q2.symm.trans g1
    have hM1 := hM Nk q1 g7
    unfold amHd at hM1
    rw [if_pos q3] at hM1
    unfold amRecv at g5
    split at g5
    · next o As =>
      rw [if_pos rfl] at g5
      split at g5
      · next cl hcl =>
        obtain ⟨t, fs⟩ := cl
        have g5 := of_decide_eq_true g5
        obtain ⟨e5, e6⟩ := g5
        dsimp only at e5
        subst e5
        refine ⟨g3, am_callV S hG hZ hA hP hD hS hM1 q4 e6 hcl q5 w1 w2 w3 w4 w5 ⟨q6.1, q6.2, q7⟩ (by rw [List.length_cons] at g2; omega) hnL hR2 hroom hl.1 g4 g6 hd kk kx⟩
      · cases g5
    · cases g5
  case h_5 z =>
    obtain rfl : n = 3 := by rcases hn with hn | hn <;> first | exact hn | cases hn
    split at h
    · obtain ⟨_, _, _, _, _, _, _, _, -, -, -, -, -, -, -, -, -, e1⟩ := amCopy_s h; cases e1
    · next hb6 =>
      obtain ⟨M9, av9, rest9, g1, rfl, g2, g3, g4, g5, g6, g7, e1⟩ := amCall_s h
      cases e1
      unfold amLk2 at hlk2
      dsimp only at hlk2
      rw [if_neg hb6] at hlk2
      obtain ⟨Nk, M8, q1, q2, q3, w1, w2, w4, q6, q7⟩ := hlk2
      cases hGk.symm.trans g1
      cases q2.symm.trans g1
      have hM1 := hM Nk q1 g7
      unfold amHd at hM1
      by_cases hb0 : b = 0
      · rw [if_pos hb0] at q3
        rw [if_pos q3.1] at hM1
        exact ⟨g3, am_callS S hG hZ hA hP hD hS hM1 w1 w2 w4 q3.2 ⟨q6.1, q6.2, q7⟩ g2 hnL hR2 hroom hl.1 g4 g6 hd kk kx⟩
      · rw [if_neg hb0] at q3
        rw [if_neg q3.1] at hM1
        obtain ⟨v, rfl⟩ := hmay (decide_eq_false hb0)
        exact ⟨g3, am_callSW S hG hZ hA hP hD hS hM1 w1 w2 w4 q3.2 ⟨q6.1, q6.2, q7⟩ g2 hnL hR2 hroom hl.1 g4 g6 hd (fun ad1 H1 locs1 => kk v ad1 H1 locs1 rfl)⟩
  case h_6 z =>
    obtain rfl : n = 3 := by rcases hn with hn | hn <;> first | exact hn | cases hn
    split at h
    · obtain ⟨_, _, -, -, e1⟩ := amObj_s h; cases e1
    · next hb5 =>
      obtain ⟨M9, av9, rest9, g1, rfl, g2, g3, g4, g5, g6, g7, e1⟩ := amCall_s h
      cases e1
      unfold amLk2 at hlk2
      dsimp only at hlk2
      rw [if_neg hb5] at hlk2
      obtain ⟨Nk, M8, n8, q1, q2, q3, q4, w1, w2, w4, w5, q5, q6, q7, q8⟩ := hlk2
      cases hGk.symm.trans g1
      cases q2.symm.trans g1
      have hM1 := hM Nk q1 g7
      unfold amHd at hM1
      rw [if_pos q3, q4] at hM1
      obtain ⟨v, rfl⟩ := hmay rfl
      unfold amRecv at g5
      split at g5
      · next o As =>
        exact ⟨g3, am_callI S hG hZ hA hP hD hS hM1 w1 w2 w4 w5 q5 ⟨q6.1, q6.2, q7⟩ (by rw [List.length_cons] at g2; omega) hnL hR2 hroom hl.1 g4 g6 hd (fun ad1 H1 locs1 => kk v ad1 H1 locs1 rfl)⟩
      · cases g5
  case h_7 => obtain ⟨v, -, e1⟩ := Option.map_eq_some_iff.mp h; cases e1
  case h_8 => obtain ⟨v, -, e1⟩ := Option.map_eq_some_iff.mp h; cases e1
  case h_9 => obtain ⟨v, -, e1⟩ := Option.map_eq_some_iff.mp h; cases e1
  case h_10 => obtain ⟨v, -, e1⟩ := Option.map_eq_some_iff.mp h; cases e1
  case h_11 => obtain ⟨v, -, e1⟩ := Option.map_eq_some_iff.mp h; cases e1
  case h_12 => obtain ⟨v, -, e1⟩ := Option.map_eq_some_iff.mp h; cases e1
end AMF
end
section
/-! ===== whole frames: the induction ===== -/
section AMF
variable {l : Launch} {D : va_G} {dA : Nat → ClassId} {sA : Nat → Nat} {G : Nat → Option amM} {X : Nat → Option amN}
theorem amDo_ret {M : amM} {sc : Option (List Int32)} {i : Instr} {a b pc : Nat} {ls : amL} {st : List Value} {hp : amH} {v : Option Value} (h : amDo G M sc i a b pc ls st hp = some (.inr (.inl v))) : amRetV M.2.2.2.2.1 i st = some v ∧ amSz i = 1 := by
  unfold amDo at h
  split at h
  case h_1 =>
    split at h
    · obtain ⟨-, -, -, -, e1⟩ := amMake_s h; cases e1
    · split at h <;> cases h
  case h_2 => obtain ⟨_, _, _, _, -, -, -, -, h⟩ := amMakeA_s h; obtain ⟨-, -, -, -, e1⟩ := amMake_s h; cases e1
  case h_3 => obtain ⟨_, _, _, _, -, -, -, -, h⟩ := amMakeA_s h; obtain ⟨-, -, -, -, e1⟩ := amMake_s h; cases e1
  case h_4 => obtain ⟨_, _, _, -, -, -, -, -, -, -, -, e1⟩ := amCall_s h; cases e1
  case h_5 =>
    split at h
    · obtain ⟨_, _, _, _, _, _, _, _, -, -, -, -, -, -, -, -, -, e1⟩ := amCopy_s h; cases e1
    · obtain ⟨_, _, _, -, -, -, -, -, -, -, -, e1⟩ := amCall_s h; cases e1
  case h_6 =>
    split at h
    · obtain ⟨_, _, -, -, e1⟩ := amObj_s h; cases e1
    · obtain ⟨_, _, _, -, -, -, -, -, -, -, -, e1⟩ := amCall_s h; cases e1
  case h_7 => obtain ⟨w, h1, e1⟩ := Option.map_eq_some_iff.mp h; cases e1; exact ⟨h1, rfl⟩
  case h_8 => obtain ⟨w, h1, e1⟩ := Option.map_eq_some_iff.mp h; cases e1; exact ⟨h1, rfl⟩
  case h_9 => obtain ⟨w, h1, e1⟩ := Option.map_eq_some_iff.mp h; cases e1; exact ⟨h1, rfl⟩
  case h_10 => obtain ⟨w, h1, e1⟩ := Option.map_eq_some_iff.mp h; cases e1; exact ⟨h1, rfl⟩
  case h_11 => obtain ⟨w, h1, e1⟩ := Option.map_eq_some_iff.mp h; cases e1; exact ⟨h1, rfl⟩
  case h_12 => obtain ⟨w, h1, e1⟩ := Option.map_eq_some_iff.mp h; cases e1
theorem amDo_thr {M : amM} {sc : Option (List Int32)} {i : Instr} {a b pc E : Nat} {ls : amL} {st : List Value} {hp : amH} (h : amDo G M sc i a b pc ls st hp = some (.inr (.inr (.inl E)))) : ∃ k, i = .new k ∧ ¬ b = 0 ∧ E = a ∧ (st.map fun v => v.category).sum ≤ 8 ∧ M.2.2.2.2.2.1 = [] := by
  unfold amDo at h
  split at h
  case h_1 k =>
    split at h
    · obtain ⟨-, -, -, -, e1⟩ := amMake_s h; cases e1
    · next hb =>
      split at h
      · next e2 => cases h; exact ⟨k, rfl, hb, rfl, e2.1, e2.2⟩
      · cases h
  case h_2 => obtain ⟨_, _, _, _, -, -, -, -, h⟩ := amMakeA_s h; obtain ⟨-, -, -, -, e1⟩ := amMake_s h; cases e1
  case h_3 => obtain ⟨_, _, _, _, -, -, -, -, h⟩ := amMakeA_s h; obtain ⟨-, -, -, -, e1⟩ := amMake_s h; cases e1
  case h_4 => obtain ⟨_, _, _, -, -, -, -, -, -, -, -, e1⟩ := amCall_s h; cases e1
  case h_5 =>
    split at h
    · obtain ⟨_, _, _, _, _, _, _, _, -, -, -, -, -, -, -, -, -, e1⟩ := amCopy_s h; cases e1
    · obtain ⟨_, _, _, -, -, -, -, -, -, -, -, e1⟩ := amCall_s h; cases e1
  case h_6 =>
    split at h
    · obtain ⟨_, _, -, -, e1⟩ := amObj_s h; cases e1
    · obtain ⟨_, _, _, -, -, -, -, -, -, -, -, e1⟩ := amCall_s h; cases e1
  case h_7 => obtain ⟨w, h1, e1⟩ := Option.map_eq_some_iff.mp h; cases e1
  case h_8 => obtain ⟨w, h1, e1⟩ := Option.map_eq_some_iff.mp h; cases e1
  case h_9 => obtain ⟨w, h1, e1⟩ := Option.map_eq_some_iff.mp h; cases e1
  case h_10 => obtain ⟨w, h1, e1⟩ := Option.map_eq_some_iff.mp h; cases e1
  case h_11 => obtain ⟨w, h1, e1⟩ := Option.map_eq_some_iff.mp h; cases e1
  case h_12 => obtain ⟨w, h1, e1⟩ := Option.map_eq_some_iff.mp h; cases e1
theorem amDrop_ls {ad : Nat → Nat} {ls : amL} {i : Nat} {nL : Nat} {v : Value} {lsA : Array Slot} (h : lv_has lsA nL ((i, v) :: (amLs ad ls).filter (fun q => !(q.1 == i) && !(q.1 + 1 == i && q.2.category == 2)))) : lv_has lsA nL (amLs ad (amDrop ls i)) := by
  refine ⟨h.1, h.2.1, fun q hq => h.2.2 q (List.mem_cons_of_mem _ ?_)⟩
  have e : amLs ad (amDrop ls i) = (amLs ad ls).filter (fun q => !(q.1 == i) && !(q.1 + 1 == i && q.2.category == 2)) := by
    simp [amLs, amDrop, List.filter_map, Function.comp_def, amV_cat]
  rw [← e]
  exact hq
theorem amOkL_drop {n : Nat} {ls : amL} {i : Nat} (h : amOkL n ls = true) : amOkL n (amDrop ls i) = true := by
  unfold amOkL at h ⊢
  rw [List.all_eq_true] at h ⊢
  intro q hq
  exact h q (List.mem_filter.mp hq).1
set_option maxHeartbeats 4000000 in
theorem am_FR_succ (hus : ∀ (ci : Nat) (r : vw_C), vwCl[ci]? = some r → ∀ w ∈ u_ws r.1 r.2.1 r.2.2, w ∈ amWL) (hcl : amClOk) (hGM : ∀ k M, G k = some M → M.2.1 ≤ 100) {f : Nat} (hFR : amFR l D dA sA G X f) (hCT : amCT l D dA sA G X f) : amFR l D dA sA G X (f + 1) := by
  intro p e R s m args below meth c A Q N M sc d n0 ad0 x hp1 mc ms C hs0 Er Et Ex cs pc ls st hp kc ks ad H locs lsA hcs h hag hn0 hl hP hD hS
  have hsA : ∀ j, ad (amK + j) = sA j := fun j => (hag _ (Or.inr (Nat.le_add_right _ _))).trans (hs0 j)
  obtain ⟨hx, hb, hml, hown, hts, hG, hZ, hA, hini, htab, hMk, hR, hsc⟩ := id C
  have next := hFR p e R s m args below meth c A Q N M sc d n0 ad0 x hp1 mc ms C hs0 Er Et Ex
  cases cs with
  | nil => unfold amRun at h; cases h
  | cons q cs =>
    obtain ⟨q0, i, a, b⟩ := q
    have hcs' : ∀ z ∈ cs, z ∈ M.1 := fun z hz => hcs z (List.mem_cons_of_mem _ hz)
    have hE : amEok G X N M (q0, i, a, b) := hMk.2.2.2.2 _ (hcs _ List.mem_cons_self)
    unfold amRun at h
    dsimp only at h
    split at h
    · next hq =>
      subst hq
      split at h
      · cases h
      · next r dk ds ea =>
        obtain ⟨m1, m2, m3⟩ := amRun_mono _ _ _ _ _ _ _ _ _ _ _ _ _ _ _ h
        refine am_act hx hb hml hts hown hG hus hcl hini hsA hsc hA hE ⟨by omega, by omega⟩ ea ⟨by omega, by omega⟩ hl hP hD hS (fun ad1 H1 locs1 lsA1 g1 g2 g3 g4 g5 => ?_)
        have hlen := amDo_len ea
        exact next _ _ _ _ _ _ _ ad1 H1 locs1 lsA1 (am_next_in hcs') h (hag.trans hn0 g1) (Nat.le_trans hn0 hlen) g5 g2 g3 g4
      · next v ea =>
        cases h
        obtain ⟨e1, e2⟩ := amDo_ret ea
        obtain ⟨⟨n, hd, hn⟩, -, -⟩ := hE
        dsimp only at hd hn
        rw [e2] at hn
        obtain rfl : n = 1 := by rcases hn with hn | hn <;> first | exact hn | cases hn
        exact Er v i _ st ad H locs lsA rfl hd e1 hag hP hD hS
      · next E ea =>
        cases h
        obtain ⟨k, rfl, hb0, rfl, hcat, hh⟩ := amDo_thr ea
        obtain ⟨⟨n, hd, hn⟩, -, hlk2⟩ := hE
        dsimp only at hd hn hlk2
        obtain rfl : n = 3 := by rcases hn with hn | hn <;> first | exact hn | cases hn
        unfold amLk2 at hlk2
        dsimp only at hlk2
        rw [if_neg hb0] at hlk2
        exact Et _ b k kc ks _ st ad H locs lsA rfl hd hlk2 hh hcat hl.1 rfl rfl hag hP hD hS
      · next k av rest ea =>
        split at h
        · next d' Nk eG =>
          split at h
          · next v hp2 mc2 ms2 er =>
            obtain ⟨m1, m2, m3⟩ := amRun_mono _ _ _ _ _ _ _ _ _ _ _ _ _ _ _ h
            obtain ⟨-, -, m4⟩ := amRun_mono _ _ _ _ _ _ _ _ _ _ _ _ _ _ _ er
            have key := am_callAct (e := e) (below := below) (Q := Q) C hE ea eG (x := .inl v) (mc := mc2) (ms := ms2) (kc := kc) (ks := ks) (fun Nk2 hX hav => hCT k Nk2 Nk d' av hp hp2 (.inl v) mc2 ms2 ad H.size hX eG hsA hav er) (hGM _ _ eG) (fun _ => ⟨v, rfl⟩) ⟨by omega, by omega⟩ hl hP hD hS
            have hok : amOkL hp.length ls = true := by
              unfold amDo at ea
              split at ea
              case h_1 =>
                split at ea
                · obtain ⟨-, -, -, -, e1⟩ := amMake_s ea; cases e1
                · split at ea <;> cases ea
              case h_2 => obtain ⟨_, _, _, _, -, -, -, -, ea⟩ := amMakeA_s ea; obtain ⟨-, -, -, -, e1⟩ := amMake_s ea; cases e1
              case h_3 => obtain ⟨_, _, _, _, -, -, -, -, ea⟩ := amMakeA_s ea; obtain ⟨-, -, -, -, e1⟩ := amMake_s ea; cases e1
              case h_4 => obtain ⟨_, _, _, -, -, -, o, -⟩ := amCall_s ea; exact o
              case h_5 =>
                split at ea
                · obtain ⟨_, _, _, _, _, _, _, _, -, -, -, -, -, -, -, -, -, e1⟩ := amCopy_s ea; cases e1
                · obtain ⟨_, _, _, -, -, -, o, -⟩ := amCall_s ea; exact o
              case h_6 =>
                split at ea
                · obtain ⟨_, _, -, -, e1⟩ := amObj_s ea; cases e1
                · obtain ⟨_, _, _, -, -, -, o, -⟩ := amCall_s ea; exact o
              case h_7 => obtain ⟨w, -, e1⟩ := Option.map_eq_some_iff.mp ea; cases e1
              case h_8 => obtain ⟨w, -, e1⟩ := Option.map_eq_some_iff.mp ea; cases e1
              case h_9 => obtain ⟨w, -, e1⟩ := Option.map_eq_some_iff.mp ea; cases e1
              case h_10 => obtain ⟨w, -, e1⟩ := Option.map_eq_some_iff.mp ea; cases e1
              case h_11 => obtain ⟨w, -, e1⟩ := Option.map_eq_some_iff.mp ea; cases e1
              case h_12 => obtain ⟨w, -, e1⟩ := Option.map_eq_some_iff.mp ea; cases e1
            exact (key (fun w ad1 H1 locs1 ew g1 g2 g3 g4 => by
              cases ew
              exact next _ _ _ _ _ _ _ ad1 H1 locs1 lsA (am_next_in hcs') h (hag.trans hn0 g1) (Nat.le_trans hn0 m4) (by rw [amLs_ag hok g1]; exact hl) g2 g3 g4) (fun k9 E ce q9 ad1 H1 locs1 ew => by cases ew)).2
          · next E hp2 mc2 ms2 er =>
            split at h
            · cases h
            · next hmay =>
              obtain ⟨-, -, m4⟩ := amRun_mono _ _ _ _ _ _ _ _ _ _ _ _ _ _ _ er
              split at h
              · next hh =>
                cases h
                exact (am_callAct (Q := Q) C hE ea eG (x := .inr E) (mc := mc2) (ms := ms2) (kc := kc) (ks := ks) (fun Nk2 hX hav => hCT k Nk2 Nk d' av hp hp1 (.inr E) mc2 ms2 ad H.size hX eG hsA hav er) (hGM _ _ eG) (fun z => absurd z hmay) ⟨by omega, by omega⟩ hl hP hD hS
                  (fun w ad1 H1 locs1 ew => by cases ew)
                  (fun k9 En ce q9 ad1 H1 locs1 ew hEn g1 g2 g3 g4 g5 g6 g7 => by
                    cases ew
                    exact Ex E En ce q9 _ _ ad1 H1 locs1 lsA rfl hEn hh (hag.trans hn0 g1) g2 g3 g4 g5 g6 g7)).2
              · next hh =>
                split at h
                · next hq x9 to eh =>
                  obtain ⟨m1, m2, m3⟩ := amRun_mono _ _ _ _ _ _ _ _ _ _ _ _ _ _ _ h
                  have key := am_callAct (e := e) (below := below) (Q := Q) C hE ea eG (x := .inr E) (mc := mc2) (ms := ms2) (kc := kc) (ks := ks) (fun Nk2 hX hav => hCT k Nk2 Nk d' av hp hp2 (.inr E) mc2 ms2 ad H.size hX eG hsA hav er) (hGM _ _ eG) (fun z => absurd z hmay) ⟨by omega, by omega⟩ hl hP hD hS (fun w ad1 H1 locs1 ew => by cases ew)
                  have hok : amOkL hp.length ls = true := by
                    unfold amDo at ea
                    split at ea
                    case h_1 =>
                      split at ea
                      · obtain ⟨-, -, -, -, e1⟩ := amMake_s ea; cases e1
                      · split at ea <;> cases ea
                    case h_2 => obtain ⟨_, _, _, _, -, -, -, -, ea⟩ := amMakeA_s ea; obtain ⟨-, -, -, -, e1⟩ := amMake_s ea; cases e1
                    case h_3 => obtain ⟨_, _, _, _, -, -, -, -, ea⟩ := amMakeA_s ea; obtain ⟨-, -, -, -, e1⟩ := amMake_s ea; cases e1
                    case h_4 => obtain ⟨_, _, _, -, -, -, o, -⟩ := amCall_s ea; exact o
                    case h_5 =>
                      split at ea
                      · obtain ⟨_, _, _, _, _, _, _, _, -, -, -, -, -, -, -, -, -, e1⟩ := amCopy_s ea; cases e1
                      · obtain ⟨_, _, _, -, -, -, o, -⟩ := amCall_s ea; exact o
                    case h_6 =>
                      split at ea
                      · obtain ⟨_, _, -, -, e1⟩ := amObj_s ea; cases e1
                      · obtain ⟨_, _, _, -, -, -, o, -⟩ := amCall_s ea; exact o
                    case h_7 => obtain ⟨w, -, e1⟩ := Option.map_eq_some_iff.mp ea; cases e1
                    case h_8 => obtain ⟨w, -, e1⟩ := Option.map_eq_some_iff.mp ea; cases e1
                    case h_9 => obtain ⟨w, -, e1⟩ := Option.map_eq_some_iff.mp ea; cases e1
                    case h_10 => obtain ⟨w, -, e1⟩ := Option.map_eq_some_iff.mp ea; cases e1
                    case h_11 => obtain ⟨w, -, e1⟩ := Option.map_eq_some_iff.mp ea; cases e1
                    case h_12 => obtain ⟨w, -, e1⟩ := Option.map_eq_some_iff.mp ea; cases e1
                  refine (key (fun k9 En ce q9 ad1 H1 locs1 ew hEn g1 g2 g3 g4 g5 g6 g7 => ?_)).2
                  cases ew
                  obtain ⟨pre, z, suf, t1, t2, t3, t4, t5, t6, t7, t8, t9⟩ := hMk.2.2.2.1.2 _ _ _ _ _ En eh hEn
                  refine vx_catch (name := En) hown pre z suf (htab.trans t1) (fun y hy => (t2 y hy).imp id (fun ⟨w1, nm, w2, w3⟩ => ⟨w1, nm, hts _ w2, hG.2.2.2.1 _ w3⟩)) t3 t4 (hts _ t6) (va_Nw.use rfl (hG.2.2.1 _ t7 rfl)) g5 g6 g7 ?_
                  rw [t5]
                  have fin : ∀ lsB : Array Slot, lv_has lsB M.2.1 ((x9, Value.ref q9) :: (amLs ad1 ls).filter (fun q => !(q.1 == x9) && !(q.1 + 1 == x9 && q.2.category == 2))) → W p l e R s m args below meth c H1 locs1 (kc + mc2) (ks + ms2) Q (F0 m to lsB []) := fun lsB hB =>
                    next _ _ _ _ _ _ _ ad1 H1 locs1 lsB (am_seek_in) h (hag.trans hn0 g1) (Nat.le_trans hn0 m4) (amDrop_ls hB) g2 g3 g4
                  have hl1 : lv_has lsA M.2.1 (amLs ad1 ls) := by rw [amLs_ag hok g1]; exact hl
                  rcases t9 with ⟨j, hj, hdj, rfl⟩ | ⟨hdj, rfl⟩
                  · exact lv_astore_n hx hb hdj hj hl1 t8 rfl fin
                  · exact lv_astore hx hb hdj hl1 t8 rfl fin
                · cases h
          · cases h
        · cases h
    · cases h
/-- a method's body, with a table of handlers or none -/
theorem am_ofW {y : MethodName} {ws' : List Jvm.Cond} {rm : Room} {Pc : Array Value → State → Prop} {Qc : Array Value → State → Outcome → State → Prop} {XC : String → State → State → Prop} {mc ms : Nat} {free : Addr → Prop} {cc : ByteArray} {maxL : Nat} {ret : Option FieldType} {hh : List (Nat × Nat × Nat × Nat)} {hd : Jvm.Cond}
    (hy : plainFor y = true) (hhd : hd = if hh = [] then Jvm.Cond.code y cc maxL ret else Jvm.Cond.codeWith y cc maxL ret hh)
    (body : ∀ p e s m args below meth c s₁, BodyLoose p l y (headSpec (hd :: ws') rm) cc maxL ret e s m args below meth c s₁ → c.maxLocals = maxL → c.exceptionTable.toList = tableOf hh → Pc args s →
      W p l e (headSpec (hd :: ws') rm).room s m args below meth c s.heap [] 0 0 (vx_MQ below Qc XC args s mc ms free) (entryFrame m args maxL)) : vx_Met l y (hd :: ws') rm Pc Qc XC mc ms free := by
  by_cases h0 : hh = []
  · rw [if_pos h0] at hhd
    refine MetFree.of_bodySF (code := cc) (maxLocals := maxL) (ret := ret) hy ?_ ?_
    · intro args s m h hn
      obtain ⟨meth, c, h1, h2, h3, h4, h5, h6, -, -⟩ := Cond.code_spec hn (atoms_spec (ws := hd :: ws') h _ (by rw [hhd]; exact List.mem_cons_self))
      exact ⟨meth, c, h1, h2, h3, h4, h5, h6⟩
    · intro p e s m args below meth c s₁ B hml hP _
      have hh0 : s₁.heap = s.heap := by rw [B.state]; rfl
      have ht : c.exceptionTable.toList = tableOf hh := by
        obtain ⟨meth9, c9, h1, h2, -, -, -, -, h7, -⟩ := Cond.code_spec B.named (atoms_spec (ws := hd :: ws') B.pre _ (by rw [hhd]; exact List.mem_cons_self))
        cases Option.some.inj (h1.symm.trans B.method)
        cases Option.some.inj (h2.symm.trans (Stand.of_body B).code)
        rw [Array.isEmpty_iff.mp h7, h0]
        rfl
      obtain ⟨t, a1, o, b1, b2, b3⟩ := body p e s m args below meth c s₁ B hml ht hP s₁ hh0 (Stand.of_body B)
      exact ⟨t, o, a1, b1, b2, b3⟩
  · rw [if_neg h0] at hhd
    refine MetFree.of_bodySF (code := cc) (maxLocals := maxL) (ret := ret) hy ?_ ?_
    · intro args s m h hn
      obtain ⟨m9, meth, c, hn9, h1, h2, h3, h4, -, h5, h6, -⟩ := Cond.codeWith_spec (atoms_spec (ws := hd :: ws') h _ (by rw [hhd]; exact List.mem_cons_self))
      cases hn.symm.trans hn9
      exact ⟨meth, c, h1, h2, h3, h4, h5, h6⟩
    · intro p e s m args below meth c s₁ B hml hP _
      have hh0 : s₁.heap = s.heap := by rw [B.state]; rfl
      have ht : c.exceptionTable.toList = tableOf hh := vx_table (x := y) (y := y) B (atoms_spec (ws := hd :: ws') B.pre _ (by rw [hhd]; exact List.mem_cons_self))
      obtain ⟨t, a1, o, b1, b2, b3⟩ := body p e s m args below meth c s₁ B hml ht hP s₁ hh0 (Stand.of_body B)
      exact ⟨t, o, a1, b1, b2, b3⟩
set_option maxHeartbeats 8000000 in
theorem am_con (hlt : l.stackTraces = false) (hT : ∀ k N M, X k = some N → G k = some M → amMk G X N M) {f : Nat} (hFR : amFR l D dA sA G X f) : amCT l D dA sA G X f := by
  intro k N M d av hp hp1 x mc ms ad sz hX hG' hsA hcat h
  have hMk := hT k N M hX hG'
  refine am_ofW (cc := N.2.1) (maxL := M.2.1) (ret := M.2.2.2.2.1) (hh := N.2.2) hMk.1 rfl ?_
  intro p e s m args below meth c s₁ B hml htab hv
  obtain ⟨rfl, rfl, hG, hP, hD, hZ⟩ := hv
  have hpre := atoms_spec (ws := amHd N M :: amWL) B.pre
  have hlocks := B.notSynchronized
  have hx := B.exec
  have hb := B.bytes
  have hown : s.vm.findClass N.1.cls = some m.cls := findClass_of_methodNamed B.named
  have C : amCx p (headSpec (amHd N M :: amWL) (amRm d mc ms)).room s m (av.map (amV ad)).toArray meth c (va_A (amW dA ad hp) s.heap.size) D dA sA G X N M none d mc ms :=
    ⟨hx, hb, hml, hown, fun w hw => hpre w (List.mem_cons_of_mem _ hw), hG, hZ, fun q h => Or.inr h, fun hi => (name_of_methodNamed B.named B.method).1.trans (hMk.2.2.1 hi), htab, hMk, ⟨Nat.le_refl _, Nat.le_refl _, Nat.le_refl _, Nat.le_refl _⟩, fun l z => by cases z⟩
  rw [lg_entry_eq]
  have hlen : (lg_sl (av.map (amV ad))).length ≤ M.2.1 := by
    rw [am_sl_len, List.map_map]
    simpa [Function.comp_def, amV_cat] using hcat
  have hl := lv_entry (av.map (amV ad)) hlen
  rw [← am_args_ls] at hl
  refine hFR p e _ s m _ below meth c _ (vx_MQ below (amQ D dA ad hp.length (va_A (amW dA ad hp) s.heap.size) x hp1) (amX D dA ad hp.length (va_A (amW dA ad hp) s.heap.size) x hp1) (av.map (amV ad)).toArray s mc ms (va_A (amW dA ad hp) s.heap.size)) N M none d hp.length ad x hp1 mc ms C hsA ?_ ?_ ?_ M.1 0 (lv_args 0 av) [] hp 0 0 ad s.heap [] _ (fun q h => h) h (amAg.refl _ _) (Nat.le_refl _) hl hP hD.self va_S.rf
  · intro v i pc st ad1 H locs lsA hxv hd hret hag hP1 hD1 hS1
    refine vx_ret ?_
    have post : ∀ t : State, t.heap = H → amQ D dA ad hp.length (va_A (amW dA ad hp) s.heap.size) x hp1 (av.map (amV ad)).toArray s (.returned (v.map (amV ad1))) t := fun t ht => ⟨v, ad1, hxv, rfl, hag, by rw [ht]; exact hP1, hD1, hS1.F ht⟩
    rcases amRetV_s hret with ⟨ty, z, rfl, e1, rfl, e2, rfl⟩ | ⟨z, rfl, e1, rfl, rfl⟩ | ⟨z, rfl, e1, rfl, rfl⟩ | ⟨z, rfl, e1, rfl, rfl⟩ | ⟨rfl, e1, rfl, rfl⟩
    · exact W.zret hx hb (B.returns.trans e1) e2 (fun t ht _ => post t ht) hS1.2.2 hd
    · exact W.lret hx hb (B.returns.trans e1) (fun t ht _ => post t ht) hS1.2.2 hd
    · exact W.fret hx hb (B.returns.trans e1) (fun t ht _ => post t ht) hS1.2.2 hd
    · exact W.dret hx hb (B.returns.trans e1) (fun t ht _ => post t ht) hS1.2.2 hd
    · exact W.vret hx hb (B.returns.trans e1) (fun t ht _ => post t ht) hS1.2.2 hd
  · intro a b kk kc ks pc st ad1 H locs lsA hxv hd hthr hh hcat1 hsz hkc hks hag hP1 hD1 hS1
    obtain ⟨cls, is, text, ic, t1, t2, t3, t4, t5, t6, t7, t8⟩ := hthr
    have hts := fun w hw => hpre w (List.mem_cons_of_mem _ hw)
    have hempty : c.exceptionTable.toList = [] := by
      rw [htab]
      rw [hMk.2.2.2.1.1 hh]
      rfl
    have hcat2 : ((st.map (amV ad1)).map fun v => v.category).sum ≤ 8 := by
      rw [List.map_map]
      simpa [Function.comp_def, amV_cat] using hcat1
    have hfr : amXn.length + 3 < (headSpec (amHd N M :: amWL) (amRm d mc ms)).room.frames := by show 2 + 3 < d + 8; omega
    have hlo : ((st.map (amV ad1)).map fun v => v.category).sum + (13 * (amXn.length + 1) + 43) ≤ (headSpec (amHd N M :: amWL) (amRm d mc ms)).room.locals := by show _ + (13 * (2 + 1) + 43) ≤ 128 * (d + 1); omega
    have hxx : ∀ t : State, s.vm.Alike t.vm → H.size ≤ t.heap.size → (∀ q : Nat, q < H.size → t.heap[q]? = H[q]?) → amX D dA ad hp.length (va_A (amW dA ad hp) s.heap.size) x hp1 cls s t := fun t _ u1 u2 =>
      ⟨a, ad1, hxv, t1, hag, hP1.kept (fun k q hk => u2 q.1 ((hP1 k q hk).lt)), hD1, Nat.le_trans hS1.1 u1, fun q v1 v2 => (u2 q (Nat.lt_of_lt_of_le v1 hS1.1)).trans (hS1.2.1 q v1 v2)⟩
    rcases t6 with ⟨rfl, hown9, rfl⟩ | t6
    · have hcls : cls = amNS := (Option.some.inj t1).symm
      subst hcls
      have hat : ∀ w ∈ am_nw.filter vx_no, w.before (av.map (amV ad)).toArray s = true := fun w hw => by
        obtain ⟨u1, u2, u3⟩ := am_nOk w hw
        rcases u3 with u3 | ⟨u3, u4⟩
        · exact hts w (amWL_in u2 u3)
        · exact va_Nw.use u4 (hG.2.2.1 w u2 u3)
      rw [hown9] at t4
      have hown1 : s.vm.findClass "TripleTrains" = some m.cls := hown9 ▸ hown
      have hstr1 := hG.2.1 _ _ t2
      dsimp only at hstr1
      rw [hown9] at hstr1
      split at t8
      · exact am_throwN (k := 6) (sa := sA ((b - 1) / 2)) hx hb hlt hown1 (hts _ t4) (hts _ t5) hstr1 hat (fun w hw => (am_nOk w hw).1) hZ.1 hZ.2 hS1 (hsz.trans hml.symm) hd t7 (Or.inl ⟨t8.1, rfl⟩) t8.2.1 t8.2.2 (by rw [hempty]; intro z hz; cases hz) (by show 5 < d + 8; omega) (by show _ + 82 ≤ 128 * (d + 1); omega) (by show kc + 1 ≤ mc; omega) (by show ks + 6 ≤ ms; omega) hlocks hxx hS1.2.2 (by omega) (by omega)
      · exact am_throwN (k := 7) (sa := sA ((b - 1) / 2)) hx hb hlt hown1 (hts _ t4) (hts _ t5) hstr1 hat (fun w hw => (am_nOk w hw).1) hZ.1 hZ.2 hS1 (hsz.trans hml.symm) hd t7 (Or.inr ⟨t8.1, rfl⟩) t8.2.1 t8.2.2 (by rw [hempty]; intro z hz; cases hz) (by show 5 < d + 8; omega) (by show _ + 82 ≤ 128 * (d + 1); omega) (by show kc + 1 ≤ mc; omega) (by show ks + 6 ≤ ms; omega) hlocks hxx hS1.2.2 (by omega) (by omega)
    · have hat : ∀ w ∈ vx_atS N.1.cls ic cls amXn, w.before (av.map (amV ad)).toArray s = true := fun w hw => by
        obtain ⟨u1, u2, u3⟩ := t6 w hw
        rcases u3 with u3 | ⟨u3, u4⟩
        · exact hts w (amWL_in u2 u3)
        · exact va_Nw.use u4 (hG.2.2.1 w u2 u3)
      have hgood : ∀ w ∈ Jvm.Cond.classLink N.1.cls kk cls :: Jvm.Cond.initialized cls :: vx_atS N.1.cls ic cls amXn, vx_ot w = true := fun w hw => by
        rcases List.mem_cons.mp hw with rfl | hw
        · rfl
        · rcases List.mem_cons.mp hw with rfl | hw
          · rfl
          · exact (t6 w hw).1
      have hfit : ∀ n ∈ amXn, Bundle.fit n = true := by decide +kernel
      split at t8
      · exact vx_throwS (sa := sA ((b - 1) / 2)) hx hb hlt hown t3 hfit (hts _ t4) (hts _ t5) (hG.2.1 _ _ t2) hat hgood hZ.1 hZ.2 hS1 (hsz.trans hml.symm) hd t7 t8.1 t8.2.1 t8.2.2 (by rw [hempty]; intro z hz; cases hz) hfr hlo (by show kc + 1 ≤ mc; omega) (by show ks + 6 ≤ ms; omega) hlocks hxx hS1.2.2 (by omega) (by omega)
      · exact vx_throwSW (sa := sA ((b - 1) / 2)) hx hb hlt hown t3 hfit (hts _ t4) (hts _ t5) (hG.2.1 _ _ t2) hat hgood hZ.1 hZ.2 hS1 (hsz.trans hml.symm) hd t7 t8.1 t8.2.1 t8.2.2 (by rw [hempty]; intro z hz; cases hz) hfr hlo (by show kc + 1 ≤ mc; omega) (by show ks + 6 ≤ ms; omega) hlocks hxx hS1.2.2 (by omega) (by omega)
  · intro E En ce q9 pc st ad1 H locs lsA hxv hEn hh hag hP1 hD1 hS1 g1 g2 g3
    have hempty : c.exceptionTable.toList = [] := by
      rw [htab, hMk.2.2.2.1.1 hh]
      rfl
    exact vx_out (by rw [hempty]; intro z hz; cases hz) hlocks g1 g2 g3 (fun t ht _ => ⟨E, ad1, hxv, hEn, hag, by rw [ht]; exact hP1, hD1, hS1.F ht⟩) hS1.2.2 (Nat.le_refl _) (Nat.le_refl _)
theorem am_all (hlt : l.stackTraces = false) (hus : ∀ (ci : Nat) (r : vw_C), vwCl[ci]? = some r → ∀ w ∈ u_ws r.1 r.2.1 r.2.2, w ∈ amWL) (hcl : amClOk) (hGM : ∀ k M, G k = some M → M.2.1 ≤ 100) (hT : ∀ k N M, X k = some N → G k = some M → amMk G X N M) : ∀ f, amFR l D dA sA G X f := by
  intro f
  induction f with
  | zero =>
    intro p e R s m args below meth c A Q N M sc d n0 ad0 x hp1 mc ms C hs0 Er Et Ex cs pc ls st hp kc ks ad H locs lsA hcs h
    unfold amRun at h
    cases h
  | succ f ih => exact am_FR_succ hus hcl hGM ih (am_con hlt hT ih)
end AMF
end
section
/-! ===== the words of the throws ===== -/
/-- where TripleTrains links the constructors of its exceptions -/
def amXic : List Nat := [145, 191, 206, 283]
theorem am_x0 : ∀ w ∈ vx_atS "TripleTrains" 145 "java/lang/IllegalArgumentException" amXn, vx_ot w = true ∧ w ∈ lw_tbl ∧ (goodWord w = true ∨ (amNk w = true ∧ w.onTables = true)) := by decide +kernel
theorem am_x1 : ∀ w ∈ vx_atS "TripleTrains" 191 "java/lang/IndexOutOfBoundsException" amXn, vx_ot w = true ∧ w ∈ lw_tbl ∧ (goodWord w = true ∨ (amNk w = true ∧ w.onTables = true)) := by decide +kernel
theorem am_x2 : ∀ w ∈ vx_atS "TripleTrains" 206 "java/lang/IllegalStateException" amXn, vx_ot w = true ∧ w ∈ lw_tbl ∧ (goodWord w = true ∨ (amNk w = true ∧ w.onTables = true)) := by decide +kernel
theorem am_fit : ∀ n ∈ amEx, Bundle.fit n = true := by decide +kernel
end
section
/-! ===== tables of methods, checked by program ===== -/
def amAt (i : Nat) (w : Jvm.Cond) : Bool := goodWord w && decide (lw_tbl[i]? = some w)
def amAts : List Nat → List Jvm.Cond → Bool
  | i :: is, w :: ws => amAt i w && amAts is ws
  | [], [] => true
  | _, _ => false
theorem amAt_s {i : Nat} {w : Jvm.Cond} (h : amAt i w = true) : w ∈ amWL := by
  simp only [amAt, Bool.and_eq_true, decide_eq_true_eq] at h
  exact amWL_in (List.mem_of_getElem? h.2) h.1
theorem amAts_s : ∀ {is : List Nat} {ws : List Jvm.Cond}, amAts is ws = true → ∀ w ∈ ws, w ∈ amWL
  | [], [], _, w, hw => by cases hw
  | i :: is, w' :: ws, h, w, hw => by
    simp only [amAts, Bool.and_eq_true] at h
    rcases List.mem_cons.mp hw with rfl | hw
    · exact amAt_s h.1
    · exact amAts_s h.2 w hw
  | [], _ :: _, h, _, _ => by cases h
  | _ :: _, [], h, _, _ => by cases h
def amMHB (y : MethodName) : Bool := decide (y.cls ≠ "java/lang/invoke/MethodHandle") && decide (y.cls ≠ "java/lang/invoke/VarHandle")
theorem amMHB_s {y : MethodName} (h : amMHB y = true) : amNotMH y := by
  simp only [amMHB, Bool.and_eq_true, decide_eq_true_eq] at h
  exact h
def amPar (y : MethodName) : Option Nat := (parseMethodDescriptor y.desc).map (fun d => d.parameters.length)
def amThrB (own : String) (cc : ByteArray) (pc k a b : Nat) (h : List Nat) : Bool := match amEx[a]?, amXic[a]?, amStr[(b - 1) / 2]? with
  | some cls, some ic, some r => decide (own = "TripleTrains") && decide (r.1 = own) && amAts h [Jvm.Cond.classLink own k cls, Jvm.Cond.initialized cls] && decide (decode cc (pc + 3) = .ok (.dup, 1)) &&
      (if (b - 1) % 2 = 0 then decide (decode cc (pc + 4) = .ok (.ldc r.2.1, 2)) && decide (decode cc (pc + 6) = .ok (.invokespecial ic, 3)) && decide (decode cc (pc + 9) = .ok (.athrow, 1))
       else decide (decode cc (pc + 4) = .ok (.ldc_w r.2.1, 3)) && decide (decode cc (pc + 7) = .ok (.invokespecial ic, 3)) && decide (decode cc (pc + 10) = .ok (.athrow, 1)))
  | _, _, _ => false
theorem amThrB_s {own : String} {cc : ByteArray} {pc k a b : Nat} {h : List Nat} (hh : amThrB own cc pc k a b h = true) : amThr own cc pc k a b := by
  unfold amThrB at hh
  split at hh
  · next cls ic r e1 e2 e3 =>
    simp only [Bool.and_eq_true, decide_eq_true_eq] at hh
    obtain ⟨⟨⟨⟨h1, h2⟩, h3⟩, h4⟩, h5⟩ := hh
    have w := amAts_s h3
    refine ⟨cls, r.2.1, r.2.2, ic, e1, by rw [e3, ← h2], am_fit _ (List.mem_of_getElem? e1), w _ (by simp), w _ (by simp), ?_, h4, ?_⟩
    · subst h1
      match a, e1, e2 with
      | 0, e1, e2 => cases e1; cases e2; exact Or.inr am_x0
      | 1, e1, e2 => cases e1; cases e2; exact Or.inr am_x1
      | 2, e1, e2 => cases e1; cases e2; exact Or.inr am_x2
      | 3, e1, e2 => cases e1; cases e2; exact Or.inl ⟨rfl, rfl, rfl⟩
      | a + 4, e1, _ => simp [amEx] at e1
    · split at h5
      · next e => rw [if_pos e]; simp only [Bool.and_eq_true, decide_eq_true_eq] at h5; exact ⟨h5.1.1, h5.1.2, h5.2⟩
      · next e => rw [if_neg e]; simp only [Bool.and_eq_true, decide_eq_true_eq] at h5; exact ⟨h5.1.1, h5.1.2, h5.2⟩
  · cases hh
def amNestB (own : String) (k : Nat) (y : MethodName) (i : Nat) : Bool := match lw_tbl[i]? with
  | some (.methodLinkNest o k' y' _) => decide (o = own ∧ k' = k ∧ y' = y)
  | _ => false
theorem amNestB_s {own : String} {k : Nat} {y : MethodName} {i : Nat} (h : amNestB own k y i = true) : ∃ host, Jvm.Cond.methodLinkNest own k y host ∈ lw_tbl := by
  unfold amNestB at h
  split at h
  · next o k' y' host e =>
    have h := of_decide_eq_true h
    obtain ⟨rfl, rfl, rfl⟩ := h
    exact ⟨host, List.mem_of_getElem? e⟩
  · cases h
def amDecB (cc : ByteArray) (pc : Nat) (i : Instr) : Bool := match decode cc pc with
  | .ok (j, n) => decide (j = i) && (decide (amSz i = 0) || decide (n = amSz i))
  | _ => false
theorem amDecB_s {cc : ByteArray} {pc : Nat} {i : Instr} (h : amDecB cc pc i = true) : ∃ n, decode cc pc = .ok (i, n) ∧ (amSz i = 0 ∨ n = amSz i) := by
  unfold amDecB at h
  split at h
  · next j n e =>
    simp only [Bool.and_eq_true, Bool.or_eq_true, decide_eq_true_eq] at h
    obtain ⟨rfl, h2⟩ := h
    exact ⟨n, e, h2⟩
  · cases h
def amLkB (own : String) (ini : Bool) (pc : Nat) (i : Instr) (a b : Nat) (h : List Nat) : Bool :=
  match i with
  | .ldc k => if b = 0 then amAts h [Jvm.Cond.constant own k (Int32.ofNat a)] else (match amStr[a]? with
    | some r => decide (r.1 = own) && decide (r.2.1 = k)
    | none => false)
  | .ldc_w k => if b = 0 then amAts h [Jvm.Cond.constant own k (Int32.ofNat a)] else true
  | .ldc2_w k => amAts h [Jvm.Cond.constantLong own k (Int64.ofNat a)]
  | .goto o => decide ((pc : Int) + o = (a : Int))
  | .ifCond _ o => decide ((pc : Int) + o = (a : Int))
  | .if_icmp _ o => decide ((pc : Int) + o = (a : Int))
  | .ifnull o => decide ((pc : Int) + o = (a : Int))
  | .ifnonnull o => decide ((pc : Int) + o = (a : Int))
  | .getfield k => (match vwCl[a]? with
    | some r => decide (b < r.2.2) && amAts h [Jvm.Cond.fieldLink own k (r.2.1 b).1 (r.2.1 b).2.1 (r.2.1 b).2.2.1]
    | none => false)
  | .putfield k => (match vwCl[a]? with
    | some r => decide (b < r.2.2) && amAts h [Jvm.Cond.fieldLink own k (r.2.1 b).1 (r.2.1 b).2.1 (r.2.1 b).2.2.1] && (!(r.2.1 b).2.2.2 || (ini && decide ((r.2.1 b).1 = own)))
    | none => false)
  | _ => true
theorem amLkB_s {own : String} {ini : Bool} {pc : Nat} {i : Instr} {a b : Nat} {h : List Nat} (hh : amLkB own ini pc i a b h = true) : amLk amWL own ini pc i a b := by
  cases i
  case ldc k =>
    unfold amLkB at hh
    dsimp only at hh
    split at hh
    · next e => exact ⟨fun _ => amAts_s hh _ (by simp), fun z => absurd e z⟩
    · next e =>
      refine ⟨fun z => absurd z e, fun _ => ?_⟩
      split at hh
      · next r er =>
        simp only [Bool.and_eq_true, decide_eq_true_eq] at hh
        exact ⟨r.2.2, by rw [er, ← hh.1, ← hh.2]⟩
      · cases hh
  case ldc_w k =>
    intro e
    unfold amLkB at hh
    dsimp only at hh
    rw [if_pos e] at hh
    exact amAts_s hh _ (by simp)
  case ldc2_w k => exact amAts_s hh _ (by simp)
  case goto o => exact of_decide_eq_true (p := (pc : Int) + o = (a : Int)) hh
  case ifCond _ o => exact of_decide_eq_true (p := (pc : Int) + o = (a : Int)) hh
  case if_icmp _ o => exact of_decide_eq_true (p := (pc : Int) + o = (a : Int)) hh
  case ifnull o => exact of_decide_eq_true (p := (pc : Int) + o = (a : Int)) hh
  case ifnonnull o => exact of_decide_eq_true (p := (pc : Int) + o = (a : Int)) hh
  case getfield k =>
    unfold amLkB at hh
    dsimp only at hh
    split at hh
    · next r er =>
      simp only [Bool.and_eq_true, decide_eq_true_eq] at hh
      exact ⟨r, er, hh.1, amAts_s hh.2 _ (by simp)⟩
    · cases hh
  case putfield k =>
    unfold amLkB at hh
    dsimp only at hh
    split at hh
    · next r er =>
      simp only [Bool.and_eq_true, Bool.or_eq_true, Bool.not_eq_true', decide_eq_true_eq] at hh
      refine ⟨r, er, hh.1.1, amAts_s hh.1.2 _ (by simp), fun hf => ?_⟩
      rcases hh.2 with z | z
      · rw [hf] at z; cases z
      · exact z
    · cases hh
  all_goals exact trivial
def amLk2B (G : Nat → Option amM) (X : Nat → Option amN) (own : String) (cc : ByteArray) (pc : Nat) (i : Instr) (a b : Nat) (h : List Nat) : Bool :=
  match i with
  | .new k => if b = 0 then (match vwCl[a]? with
    | some r => amAts h [Jvm.Cond.classLink own k r.1, Jvm.Cond.instantiable r.1 r.2.2, Jvm.Cond.initialized r.1]
    | none => false) else amThrB own cc pc k a b h
  | .newarray t => (match amKind t with
    | some _ => amAts h [Jvm.Cond.arrayClass (newarray.typeOf t)]
    | none => true)
  | .anewarray k => amAts h [Jvm.Cond.classLink own k "TripleTrains$Snapshot"]
  | .invokevirtual k => (match X a, G a with
    | some N, some M => N.2.2.isEmpty && (match vwCl[M.2.2.2.2.2.2]? with
      | some r => decide (N.1.cls = r.1) && amAts h [Jvm.Cond.methodLink own k N.1, Jvm.Cond.instanceMethod N.1, Jvm.Cond.selects r.1 N.1 N.1, Jvm.Cond.initialized r.1, Jvm.Cond.code N.1 N.2.1 M.2.1 M.2.2.2.2.1]
      | none => false) && amMHB N.1 && (match amPar N.1 with
      | some n => decide (M.2.2.1 = n + 1)
      | none => false)
    | _, _ => false)
  | .invokestatic k => if b = 6 then amAts h [Jvm.Cond.methodLink own k arraycopyName, Jvm.Cond.native arraycopyName, Jvm.Cond.static arraycopyName, Jvm.Cond.initialized "java/lang/System"]
      else (match X a, G a with
    | some N, some M => (if b = 0 then N.2.2.isEmpty && amAts h [Jvm.Cond.methodLink own k N.1, Jvm.Cond.static N.1, Jvm.Cond.initialized N.1.cls, Jvm.Cond.code N.1 N.2.1 M.2.1 M.2.2.2.2.1]
        else !N.2.2.isEmpty && amAts h [Jvm.Cond.methodLink own k N.1, Jvm.Cond.static N.1, Jvm.Cond.initialized N.1.cls, Jvm.Cond.codeWith N.1 N.2.1 M.2.1 M.2.2.2.2.1 N.2.2]) && amMHB N.1 && decide (amPar N.1 = some M.2.2.1)
    | _, _ => false)
  | .invokespecial k => if b = 5 then amAts h [Jvm.Cond.methodLink own k Lib.objectInit, Jvm.Cond.instanceMethod Lib.objectInit, Jvm.Cond.code Lib.objectInit ⟨#[0xb1]⟩ 1 none]
      else (match X a, G a, h with
    | some N, some M, h0 :: hs => N.2.2.isEmpty && decide (M.2.2.2.2.1 = none) && (amAt h0 (Jvm.Cond.methodLink own k N.1) || amNestB own k N.1 h0) && amAts hs [Jvm.Cond.instanceMethod N.1, Jvm.Cond.initialized N.1.cls, Jvm.Cond.code N.1 N.2.1 M.2.1 none] && decide (N.1.name = "<init>") && amMHB N.1 && (match amPar N.1 with
      | some n => decide (M.2.2.1 = n + 1)
      | none => false)
    | _, _, _ => false)
  | _ => true
theorem amLk2B_s {G : Nat → Option amM} {X : Nat → Option amN} {own : String} {cc : ByteArray} {pc : Nat} {i : Instr} {a b : Nat} {h : List Nat} (hh : amLk2B G X own cc pc i a b h = true) : amLk2 G X own cc pc i a b := by
  cases i
  case new k =>
    unfold amLk2B at hh
    unfold amLk2
    dsimp only at hh ⊢
    split at hh
    · next e =>
      rw [if_pos e]
      split at hh
      · next r er =>
        have w := amAts_s hh
        exact ⟨r, er, w _ (by simp), w _ (by simp), w _ (by simp)⟩
      · cases hh
    · next e => rw [if_neg e]; exact amThrB_s hh
  case newarray t =>
    intro q hq
    unfold amLk2B at hh
    dsimp only at hh
    rw [hq] at hh
    exact amAts_s hh _ (by simp)
  case anewarray k => exact amAts_s hh _ (by simp)
  case invokevirtual k =>
    unfold amLk2B at hh
    dsimp only at hh
    split at hh
    · next N M e1 e2 =>
      simp only [Bool.and_eq_true] at hh
      obtain ⟨⟨⟨h1, h2⟩, h3⟩, h4⟩ := hh
      split at h2
      · next r er =>
        simp only [Bool.and_eq_true, decide_eq_true_eq] at h2
        have w := amAts_s h2.2
        split at h4
        · next n en => exact ⟨N, M, r, n, e1, e2, List.isEmpty_iff.mp h1, er, h2.1, w _ (by simp), w _ (by simp), w _ (by simp), w _ (by simp), w _ (by simp), amMHB_s h3, en, of_decide_eq_true h4⟩
        · cases h4
      · cases h2
    · cases hh
  case invokestatic k =>
    unfold amLk2B at hh
    unfold amLk2
    dsimp only at hh ⊢
    split at hh
    · next e =>
      rw [if_pos e]
      have w := amAts_s hh
      exact ⟨w _ (by simp), w _ (by simp), w _ (by simp), w _ (by simp)⟩
    · next e =>
      rw [if_neg e]
      split at hh
      · next N M e1 e2 =>
        simp only [Bool.and_eq_true, decide_eq_true_eq] at hh
        obtain ⟨⟨h1, h2⟩, h3⟩ := hh
        refine ⟨N, M, e1, e2, ?_⟩
        split at h1
        · next e0 =>
          simp only [Bool.and_eq_true] at h1
          have w := amAts_s h1.2
          rw [if_pos e0]
          exact ⟨⟨List.isEmpty_iff.mp h1.1, w _ (by simp)⟩, w _ (by simp), w _ (by simp), w _ (by simp), amMHB_s h2, h3⟩
        · next e0 =>
          simp only [Bool.and_eq_true, Bool.not_eq_true'] at h1
          have w := amAts_s h1.2
          rw [if_neg e0]
          exact ⟨⟨fun z => (by rw [z] at h1; exact absurd h1.1 (by decide)), w _ (by simp)⟩, w _ (by simp), w _ (by simp), w _ (by simp), amMHB_s h2, h3⟩
      · cases hh
  case invokespecial k =>
    unfold amLk2B at hh
    unfold amLk2
    dsimp only at hh ⊢
    split at hh
    · next e =>
      rw [if_pos e]
      have w := amAts_s hh
      exact ⟨w _ (by simp), w _ (by simp), w _ (by simp)⟩
    · next e =>
      rw [if_neg e]
      split at hh
      · next N M h0 hs e1 e2 =>
        simp only [Bool.and_eq_true, decide_eq_true_eq] at hh
        obtain ⟨⟨⟨⟨⟨⟨h1, h2⟩, h3⟩, h4⟩, h5⟩, h6⟩, h7⟩ := hh
        have w := amAts_s h4
        split at h7
        · next n en =>
          refine ⟨N, M, n, e1, e2, List.isEmpty_iff.mp h1, h2, ?_, w _ (by simp), w _ (by simp), w _ (by simp), h5, amMHB_s h6, en, of_decide_eq_true h7⟩
          simp only [Bool.or_eq_true] at h3
          exact h3.imp amAt_s amNestB_s
        · cases h7
      · cases hh
  all_goals exact trivial
/-- a method's code, entry by entry, with the places of its words -/
def amCode (G : Nat → Option amM) (X : Nat → Option amN) (own : String) (cc : ByteArray) (ini : Bool) : amP → List (List Nat) → Bool
  | [], _ => true
  | q :: r, hs => amDecB cc q.1 q.2.1 && amLkB own ini q.1 q.2.1 q.2.2.1 q.2.2.2 (hs.headD []) && amLk2B G X own cc q.1 q.2.1 q.2.2.1 q.2.2.2 (hs.headD []) && amCode G X own cc ini r hs.tail
theorem amCode_s {G : Nat → Option amM} {X : Nat → Option amN} {N : amN} {M : amM} : ∀ {cs : amP} {hs : List (List Nat)}, amCode G X N.1.cls N.2.1 M.2.2.2.1 cs hs = true → ∀ q ∈ cs, amEok G X N M q
  | [], _, _, q, hq => by cases hq
  | q' :: r, hs, h, q, hq => by
    simp only [amCode, Bool.and_eq_true] at h
    rcases List.mem_cons.mp hq with rfl | hq
    · exact ⟨amDecB_s h.1.1.1, amLkB_s h.1.1.2, amLk2B_s h.1.2⟩
    · exact amCode_s h.2 q hq
/-- handlers, entry by entry -/
def amHanB (own : String) (cc : ByteArray) (nL : Nat) : List (Nat × Nat × Nat × Nat × Nat × Nat) → List (Nat × Nat × Nat × Nat) → List (Nat × Nat) → Bool
  | [], [], _ => true
  | h :: r, t :: ts, g :: gs => (match amEx[h.2.2.2.1]? with
      | some En => amAt g.1 (Jvm.Cond.classLink own t.2.2.2 En) && decide (lw_tbl[g.2]? = some (Jvm.Cond.castable En En)) && r.all (fun z => match amEx[z.2.2.2.1]? with
        | some Ez => decide ((Ez, En) ∈ amNc)
        | none => false)
      | none => false) && decide (t.2.2.2 ≠ 0) && decide (h.1 = t.1) && decide (h.2.1 = t.2.1) && decide (h.2.2.1 = t.2.2.1) && decide (h.2.2.2.2.1 < nL) &&
      (match decode cc h.2.2.1 with
        | .ok (.astore_n j, 1) => decide ((j : Nat) = h.2.2.2.2.1) && decide (h.2.2.2.2.2 = h.2.2.1 + 1)
        | .ok (.astore k, 2) => decide (k = h.2.2.2.2.1) && decide (h.2.2.2.2.2 = h.2.2.1 + 2)
        | _ => false) && amHanB own cc nL r ts gs
  | _, _, _ => false
theorem amHand_in {hs : List (Nat × Nat × Nat × Nat × Nat × Nat)} {pc E : Nat} {o : Nat × Nat × Nat} (h : amHand hs pc E = some o) : ∃ z ∈ hs, z.2.2.2.1 = E := by
  induction hs with
  | nil => cases h
  | cons z r ih =>
    unfold amHand at h
    split at h
    · next e => exact ⟨z, List.mem_cons_self, e.2.2⟩
    · obtain ⟨w, h1, h2⟩ := ih h
      exact ⟨w, List.mem_cons_of_mem _ h1, h2⟩
theorem amHanB_s {own : String} {cc : ByteArray} {nL : Nat} : ∀ {hs : List (Nat × Nat × Nat × Nat × Nat × Nat)} {ts : List (Nat × Nat × Nat × Nat)} {gs : List (Nat × Nat)}, amHanB own cc nL hs ts gs = true → ∀ (pc E h x to : Nat) (En : String), amHand hs pc E = some (h, x, to) → amEx[E]? = some En →
    ∃ (pre : List ExceptionTableEntry) (z : ExceptionTableEntry) (suf : List ExceptionTableEntry), tableOf ts = pre ++ z :: suf ∧ (∀ y ∈ pre, covers y pc = false ∨ (y.catchType ≠ 0 ∧ ∃ nm : String, Jvm.Cond.classLink own y.catchType nm ∈ amWL ∧ (En, nm) ∈ amNc)) ∧ covers z pc = true ∧ z.catchType ≠ 0 ∧ z.handlerPc = h ∧
      Jvm.Cond.classLink own z.catchType En ∈ amWL ∧ Jvm.Cond.castable En En ∈ lw_tbl ∧ x < nL ∧ ((∃ j : Fin 4, (j : Nat) = x ∧ decode cc h = .ok (.astore_n j, 1) ∧ to = h + 1) ∨ (decode cc h = .ok (.astore x, 2) ∧ to = h + 2))
  | [], _, _, _, pc, E, h, x, to, En, hh, _ => by cases hh
  | h0 :: r, [], [], hB, _, _, _, _, _, _, _, _ => by cases hB
  | h0 :: r, [], _ :: _, hB, _, _, _, _, _, _, _, _ => by cases hB
  | h0 :: r, t :: ts, [], hB, _, _, _, _, _, _, _, _ => by cases hB
  | h0 :: r, t :: ts, g :: gs, hB, pc, E, h, x, to, En, hh, hE => by
    simp only [amHanB, Bool.and_eq_true, decide_eq_true_eq] at hB
    obtain ⟨⟨⟨⟨⟨⟨⟨b1, b2⟩, b3⟩, b4⟩, b5⟩, b6⟩, b7⟩, b8⟩ := hB
    split at b1
    · next E0 e0 =>
      simp only [Bool.and_eq_true, decide_eq_true_eq] at b1
      obtain ⟨⟨c1, c2⟩, c3⟩ := b1
      unfold amHand at hh
      split at hh
      · next e =>
        obtain ⟨f0, t0, a0, E1, x0, to0⟩ := h0
        dsimp only at e b3 b4 b5 b6 b7 e0 hh
        cases hh
        have : E0 = En := Option.some.inj (e0.symm.trans (by rw [e.2.2]; exact hE))
        subst this
        refine ⟨[], ⟨t.1, t.2.1, t.2.2.1, t.2.2.2⟩, tableOf ts, rfl, (fun y hy => by cases hy), ?_, b2, b5.symm, amAt_s c1, List.mem_of_getElem? c2, b6, ?_⟩
        · simp only [covers, Bool.and_eq_true, decide_eq_true_eq]
          exact ⟨by omega, by omega⟩
        · split at b7
          · next j ej =>
            simp only [Bool.and_eq_true, decide_eq_true_eq] at b7
            exact Or.inl ⟨j, b7.1, ej, b7.2⟩
          · next k ek =>
            simp only [Bool.and_eq_true, decide_eq_true_eq] at b7
            rw [b7.1] at ek
            exact Or.inr ⟨ek, b7.2⟩
          · cases b7
      · next e =>
        obtain ⟨pre, z, suf, g1, g2, g3⟩ := amHanB_s b8 pc E h x to En hh hE
        refine ⟨⟨t.1, t.2.1, t.2.2.1, t.2.2.2⟩ :: pre, z, suf, by rw [List.cons_append, ← g1]; rfl, fun y hy => ?_, g3⟩
        rcases List.mem_cons.mp hy with rfl | hy
        · refine Or.inr ⟨b2, E0, amAt_s c1, ?_⟩
          obtain ⟨w, w1, w2⟩ := amHand_in hh
          have c4 := List.all_eq_true.mp c3 w w1
          rw [w2, hE] at c4
          exact of_decide_eq_true c4
        · exact g2 y hy
    · cases b1
def amMkB (N : amN) (M : amM) (gs : List (Nat × Nat)) : Bool := plainFor N.1 && decide (M.2.1 ≤ 100) && (!M.2.2.2.1 || decide (N.1.name = "<init>")) && (!M.2.2.2.2.2.1.isEmpty || N.2.2.isEmpty) && amHanB N.1.cls N.2.1 M.2.1 M.2.2.2.2.2.1 N.2.2 gs
theorem amMkB_s {G : Nat → Option amM} {X : Nat → Option amN} {N : amN} {M : amM} {gs : List (Nat × Nat)} {hs : List (List Nat)} (h : amMkB N M gs = true) (hc : amCode G X N.1.cls N.2.1 M.2.2.2.1 M.1 hs = true) : amMk G X N M := by
  simp only [amMkB, Bool.and_eq_true, Bool.or_eq_true, Bool.not_eq_true', decide_eq_true_eq] at h
  obtain ⟨⟨⟨⟨h1, h2⟩, h3⟩, h4⟩, h5⟩ := h
  refine ⟨h1, h2, fun hi => ?_, ⟨fun hh => ?_, amHanB_s h5⟩, amCode_s hc⟩
  · rcases h3 with z | z
    · rw [hi] at z; cases z
    · exact z
  · rcases h4 with z | z
    · rw [hh] at z; cases z
    · exact List.isEmpty_iff.mp z
end
section
/-! ===== the tables of methods, laid by program ===== -/
def am_m0 : amM := ([(0, .aload_n 0, 0, 0), (1, .invokespecial 3, 0, 5), (4, .aload_n 0, 0, 0), (5, .sipush 225, 0, 0), (8, .newarray .int, 0, 0), (10, .putfield 9, 0, 2), (13, .aload_n 0, 0, 0), (14, .sipush 225, 0, 0), (17, .newarray .int, 0, 0), (19, .putfield 15, 0, 3), (22, .aload_n 0, 0, 0), (23, .bipush 15, 0, 0),
  (25, .newarray .int, 0, 0), (27, .putfield 18, 0, 4), (30, .aload_n 0, 0, 0), (31, .bipush 35, 0, 0), (33, .newarray .int, 0, 0), (35, .putfield 21, 0, 5), (38, .return_, 0, 0)], 1, 1, true, none, [], 0)
def am_n0 : amN := (yX0_init, cX0_init, [])
def am_h0 : List (List Nat) := [[], [198, 156, 157], [], [], [227], [210], [], [], [227], [211], [], [], [227], [212], [], [], [227], [213], []]
def am_g0 : List (Nat × Nat) := []
def am_m1 : amM := ([(0, .aload_n 0, 0, 0), (1, .iconst 3, 0, 0), (2, .iload_n 1, 0, 0), (3, .bipush 15, 0, 0), (5, .invokestatic 24, 347, 0), (8, .invokestatic 30, 346, 0), (11, .putfield 33, 0, 0), (14, .aload_n 0, 0, 0), (15, .iconst 0, 0, 0), (16, .putfield 37, 0, 1), (19, .iconst 0, 0, 0), (20, .istore_n 2, 0, 0),
  (21, .iload_n 2, 0, 0), (22, .aload_n 0, 0, 0), (23, .getfield 9, 0, 2), (26, .arraylength, 0, 0), (27, .if_icmp .ge 16, 43, 0), (30, .aload_n 0, 0, 0), (31, .getfield 9, 0, 2), (34, .iload_n 2, 0, 0), (35, .iconst (-1), 0, 0), (36, .iastore, 0, 0), (37, .iinc 2 1, 0, 0), (40, .goto (-19), 21, 0),
  (43, .iconst 0, 0, 0), (44, .istore_n 2, 0, 0), (45, .iload_n 2, 0, 0), (46, .aload_n 0, 0, 0), (47, .getfield 18, 0, 4), (50, .arraylength, 0, 0), (51, .if_icmp .ge 37, 88, 0), (54, .aload_n 0, 0, 0), (55, .getfield 18, 0, 4), (58, .iload_n 2, 0, 0), (59, .iload_n 2, 0, 0), (60, .aload_n 0, 0, 0),
  (61, .getfield 33, 0, 0), (64, .if_icmp .ge 16, 80, 0), (67, .aload_n 0, 0, 0), (68, .invokevirtual 40, 4, 0), (71, .iconst 1, 0, 0), (72, .iload_n 2, 0, 0), (73, .ishl, 0, 0), (74, .iconst (-1), 0, 0), (75, .ixor, 0, 0), (76, .iand, 0, 0), (77, .goto 4, 81, 0), (80, .iconst 0, 0, 0),
  (81, .iastore, 0, 0), (82, .iinc 2 1, 0, 0), (85, .goto (-40), 45, 0), (88, .return_, 0, 0)], 3, 2, false, none, [], 0)
def am_n1 : amN := (yX0_reset, cX0_reset, [])
def am_h1 : List (List Nat) := [[], [], [], [], [392, 393, 133, 394], [395, 396, 133, 397], [200], [], [], [208], [], [], [], [], [210], [], [], [], [210], [], [], [], [], [], [], [], [], [], [212], [], [], [], [212], [], [], [], [200], [], [], [398, 399, 400, 124, 401], [], [], [], [], [], [], [], [], [], [], [], []]
def am_g1 : List (Nat × Nat) := []
def am_m2 : amM := ([(0, .aload_n 0, 0, 0), (1, .aload_n 1, 0, 0), (2, .getfield 33, 0, 0), (5, .putfield 33, 0, 0), (8, .aload_n 0, 0, 0), (9, .iconst 0, 0, 0), (10, .putfield 37, 0, 1), (13, .aload_n 1, 0, 0), (14, .getfield 9, 0, 2), (17, .iconst 0, 0, 0), (18, .aload_n 0, 0, 0), (19, .getfield 9, 0, 2),
  (22, .iconst 0, 0, 0), (23, .aload_n 0, 0, 0), (24, .getfield 9, 0, 2), (27, .arraylength, 0, 0), (28, .invokestatic 44, 0, 6), (31, .aload_n 1, 0, 0), (32, .getfield 18, 0, 4), (35, .iconst 0, 0, 0), (36, .aload_n 0, 0, 0), (37, .getfield 18, 0, 4), (40, .iconst 0, 0, 0), (41, .aload_n 0, 0, 0),
  (42, .getfield 18, 0, 4), (45, .arraylength, 0, 0), (46, .invokestatic 44, 0, 6), (49, .return_, 0, 0)], 2, 2, false, none, [], 0)
def am_n2 : amN := (yX0_copy, cX0_copy, [])
def am_h2 : List (List Nat) := [[], [], [200], [200], [], [], [208], [], [210], [], [], [210], [], [], [210], [], [599, 601, 600, 141], [], [212], [], [], [212], [], [], [212], [], [599, 601, 600, 141], []]
def am_g2 : List (Nat × Nat) := []
def am_m3 : amM := ([(0, .iload_n 1, 0, 0), (1, .ifCond .lt 15, 16, 0), (4, .iload_n 1, 0, 0), (5, .aload_n 0, 0, 0), (6, .getfield 33, 0, 0), (9, .if_icmp .ge 7, 16, 0), (12, .iconst 1, 0, 0), (13, .goto 4, 17, 0), (16, .iconst 0, 0, 0), (17, .ireturn, 0, 0)], 2, 2, false, (some .boolean), [], 0)
def am_n3 : amN := (yX0_isPoint, cX0_isPoint, [])
def am_h3 : List (List Nat) := [[], [], [], [], [200], [], [], [], [], []]
def am_g3 : List (Nat × Nat) := []
def am_m4 : amM := ([(0, .iconst 1, 0, 0), (1, .aload_n 0, 0, 0), (2, .getfield 33, 0, 0), (5, .ishl, 0, 0), (6, .iconst 1, 0, 0), (7, .isub, 0, 0), (8, .ireturn, 0, 0)], 1, 1, false, (some .int), [], 0)
def am_n4 : amN := (yX0_allPoints, cX0_allPoints, [])
def am_h4 : List (List Nat) := [[], [], [200], [], [], [], []]
def am_g4 : List (Nat × Nat) := []
def am_m5 : amM := ([(0, .aload_n 0, 0, 0), (1, .getfield 33, 0, 0), (4, .iconst 1, 0, 0), (5, .if_icmp .ge 7, 12, 0), (8, .iconst 0, 0, 0), (9, .goto 11, 20, 0), (12, .iload_n 1, 0, 0), (13, .aload_n 0, 0, 0), (14, .getfield 33, 0, 0), (17, .invokestatic 50, 345, 0), (20, .ireturn, 0, 0)], 2, 2, false, (some .int), [], 0)
def am_n5 : amN := (yX0_turnWithin, cX0_turnWithin, [])
def am_h5 : List (List Nat) := [[], [200], [], [], [], [], [], [], [200], [873, 874, 133, 875], []]
def am_g5 : List (Nat × Nat) := []
def am_m6 : amM := ([(0, .aload_n 0, 0, 0), (1, .getfield 33, 0, 0), (4, .aload_n 0, 0, 0), (5, .getfield 33, 0, 0), (8, .iconst 1, 0, 0), (9, .isub, 0, 0), (10, .imul, 0, 0), (11, .iconst 2, 0, 0), (12, .idiv, 0, 0), (13, .ireturn, 0, 0)], 1, 1, false, (some .int), [], 0)
def am_n6 : amN := (yX0_pairs, cX0_pairs, [])
def am_h6 : List (List Nat) := [[], [200], [], [200], [], [], [], [], [], []]
def am_g6 : List (Nat × Nat) := []
def am_m7 : amM := ([(0, .iload_n 1, 0, 0), (1, .ifCond .lt 37, 38, 0), (4, .iload_n 1, 0, 0), (5, .aload_n 0, 0, 0), (6, .getfield 33, 0, 0), (9, .if_icmp .ge 29, 38, 0), (12, .iload_n 2, 0, 0), (13, .ifCond .lt 25, 38, 0), (16, .iload_n 2, 0, 0), (17, .aload_n 0, 0, 0), (18, .getfield 33, 0, 0), (21, .if_icmp .ge 17, 38, 0),
  (24, .aload_n 0, 0, 0), (25, .getfield 9, 0, 2), (28, .iload_n 1, 0, 0), (29, .bipush 15, 0, 0), (31, .imul, 0, 0), (32, .iload_n 2, 0, 0), (33, .iadd, 0, 0), (34, .iaload, 0, 0), (35, .goto 4, 39, 0), (38, .iconst (-1), 0, 0), (39, .ireturn, 0, 0)], 3, 3, false, (some .int), [], 0)
def am_n7 : amN := (yX0_thirdOf, cX0_thirdOf, [])
def am_h7 : List (List Nat) := [[], [], [], [], [200], [], [], [], [], [], [200], [], [], [210], [], [], [], [], [], [], [], [], []]
def am_g7 : List (Nat × Nat) := []
def am_m8 : amM := ([(0, .aload_n 0, 0, 0), (1, .iload_n 1, 0, 0), (2, .invokevirtual 53, 3, 0), (5, .ifCond .eq 12, 17, 0), (8, .aload_n 0, 0, 0), (9, .getfield 18, 0, 4), (12, .iload_n 1, 0, 0), (13, .iaload, 0, 0), (14, .goto 4, 18, 0), (17, .iconst 0, 0, 0), (18, .ireturn, 0, 0)], 2, 2, false, (some .int), [], 0)
def am_n8 : amN := (yX0_openOf, cX0_openOf, [])
def am_h8 : List (List Nat) := [[], [], [577, 554, 555, 124, 556], [], [], [212], [], [], [], [], []]
def am_g8 : List (Nat × Nat) := []
def am_m9 : amM := ([(0, .iload_n 1, 0, 0), (1, .ifCond .lt 20, 21, 0), (4, .iload_n 1, 0, 0), (5, .aload_n 0, 0, 0), (6, .getfield 37, 0, 1), (9, .if_icmp .ge 12, 21, 0), (12, .aload_n 0, 0, 0), (13, .getfield 21, 0, 5), (16, .iload_n 1, 0, 0), (17, .iaload, 0, 0), (18, .goto 4, 22, 0), (21, .iconst 0, 0, 0),
  (22, .ireturn, 0, 0)], 2, 2, false, (some .int), [], 0)
def am_n9 : amN := (yX0_setOf, cX0_setOf, [])
def am_h9 : List (List Nat) := [[], [], [], [], [208], [], [], [213], [], [], [], [], []]
def am_g9 : List (Nat × Nat) := []
def am_m10 : amM := ([(0, .aload_n 0, 0, 0), (1, .iload_n 1, 0, 0), (2, .invokevirtual 53, 3, 0), (5, .ifCond .eq 25, 30, 0), (8, .aload_n 0, 0, 0), (9, .iload_n 2, 0, 0), (10, .invokevirtual 53, 3, 0), (13, .ifCond .eq 17, 30, 0), (16, .aload_n 0, 0, 0), (17, .iload_n 1, 0, 0), (18, .iload_n 2, 0, 0), (19, .invokevirtual 57, 7, 0),
  (22, .iconst (-1), 0, 0), (23, .if_icmp .eq 7, 30, 0), (26, .iconst 1, 0, 0), (27, .goto 4, 31, 0), (30, .iconst 0, 0, 0), (31, .istore_n 3, 0, 0), (32, .iload_n 3, 0, 0), (33, .ifCond .eq 17, 50, 0), (36, .aload_n 0, 0, 0), (37, .getfield 15, 0, 3), (40, .iload_n 1, 0, 0), (41, .bipush 15, 0, 0),
  (43, .imul, 0, 0), (44, .iload_n 2, 0, 0), (45, .iadd, 0, 0), (46, .iaload, 0, 0), (47, .goto 4, 51, 0), (50, .iconst (-1), 0, 0), (51, .ireturn, 0, 0)], 4, 3, false, (some .int), [], 0)
def am_n10 : amN := (yX0_numberCovering, cX0_numberCovering, [])
def am_h10 : List (List Nat) := [[], [], [577, 554, 555, 124, 556], [], [], [], [577, 554, 555, 124, 556], [], [], [], [], [618, 619, 620, 124, 621], [], [], [], [], [], [], [], [], [], [211], [], [], [], [], [], [], [], [], []]
def am_g10 : List (Nat × Nat) := []
def am_m11 : amM := ([(0, .aload_n 0, 0, 0), (1, .iload_n 1, 0, 0), (2, .invokevirtual 60, 12, 0), (5, .ifCond .eq 20, 25, 0), (8, .aload_n 0, 0, 0), (9, .iload_n 1, 0, 0), (10, .iconst 0, 0, 0), (11, .invokestatic 63, 70, 0), (14, .iload_n 1, 0, 0), (15, .iconst 1, 0, 0), (16, .invokestatic 63, 70, 0), (19, .invokevirtual 68, 10, 0),
  (22, .goto 4, 26, 0), (25, .iconst (-1), 0, 0), (26, .ireturn, 0, 0)], 2, 2, false, (some .int), [], 0)
def am_n11 : amN := (yX0_numberOf, cX0_numberOf, [])
def am_h11 : List (List Nat) := [[], [], [646, 647, 648, 124, 649], [], [], [], [], [564, 565, 139, 566], [], [], [564, 565, 139, 566], [650, 651, 652, 124, 653], [], [], []]
def am_g11 : List (Nat × Nat) := []
def am_m12 : amM := ([(0, .iload_n 1, 0, 0), (1, .iconst 2, 0, 0), (2, .invokestatic 63, 70, 0), (5, .istore_n 2, 0, 0), (6, .iload_n 2, 0, 0), (7, .iconst (-1), 0, 0), (8, .if_icmp .eq 25, 33, 0), (11, .aload_n 0, 0, 0), (12, .iload_n 1, 0, 0), (13, .iconst 0, 0, 0), (14, .invokestatic 63, 70, 0), (17, .iload_n 1, 0, 0),
  (18, .iconst 1, 0, 0), (19, .invokestatic 63, 70, 0), (22, .invokevirtual 57, 7, 0), (25, .iload_n 2, 0, 0), (26, .if_icmp .ne 7, 33, 0), (29, .iconst 1, 0, 0), (30, .goto 4, 34, 0), (33, .iconst 0, 0, 0), (34, .ireturn, 0, 0)], 3, 2, false, (some .boolean), [], 0)
def am_n12 : amN := (yX0_holds, cX0_holds, [])
def am_h12 : List (List Nat) := [[], [], [564, 565, 139, 566], [], [], [], [], [], [], [], [564, 565, 139, 566], [], [], [564, 565, 139, 566], [618, 619, 620, 124, 621], [], [], [], [], [], []]
def am_g12 : List (Nat × Nat) := []
def am_m13 : amM := ([(0, .iload_n 1, 0, 0), (1, .iconst 0, 0, 0), (2, .invokestatic 63, 70, 0), (5, .istore_n 2, 0, 0), (6, .iload_n 1, 0, 0), (7, .iconst 1, 0, 0), (8, .invokestatic 63, 70, 0), (11, .istore_n 3, 0, 0), (12, .aload_n 0, 0, 0), (13, .iload_n 2, 0, 0), (14, .invokevirtual 71, 8, 0), (17, .iload_n 1, 0, 0),
  (18, .iand, 0, 0), (19, .iload_n 1, 0, 0), (20, .iconst 1, 0, 0), (21, .iload_n 2, 0, 0), (22, .ishl, 0, 0), (23, .iconst (-1), 0, 0), (24, .ixor, 0, 0), (25, .iand, 0, 0), (26, .if_icmp .ne 24, 50, 0), (29, .aload_n 0, 0, 0), (30, .iload_n 3, 0, 0), (31, .invokevirtual 71, 8, 0),
  (34, .iload_n 1, 0, 0), (35, .iand, 0, 0), (36, .iload_n 1, 0, 0), (37, .iconst 1, 0, 0), (38, .iload_n 3, 0, 0), (39, .ishl, 0, 0), (40, .iconst (-1), 0, 0), (41, .ixor, 0, 0), (42, .iand, 0, 0), (43, .if_icmp .ne 7, 50, 0), (46, .iconst 1, 0, 0), (47, .goto 4, 51, 0),
  (50, .iconst 0, 0, 0), (51, .ireturn, 0, 0)], 4, 2, false, (some .boolean), [], 0)
def am_n13 : amN := (yX0_takes, cX0_takes, [])
def am_h13 : List (List Nat) := [[], [], [564, 565, 139, 566], [], [], [], [564, 565, 139, 566], [], [], [], [573, 574, 575, 124, 576], [], [], [], [], [], [], [], [], [], [], [], [], [573, 574, 575, 124, 576], [], [], [], [], [], [], [], [], [], [], [], [], [], []]
def am_g13 : List (Nat × Nat) := []
def am_m14 : amM := ([(0, .iload_n 1, 0, 0), (1, .iconst 0, 0, 0), (2, .invokestatic 63, 70, 0), (5, .istore_n 2, 0, 0), (6, .iload_n 1, 0, 0), (7, .iconst 1, 0, 0), (8, .invokestatic 63, 70, 0), (11, .istore_n 3, 0, 0), (12, .iload_n 1, 0, 0), (13, .iconst 2, 0, 0), (14, .invokestatic 63, 70, 0), (17, .istore 4, 0, 0),
  (19, .aload_n 0, 0, 0), (20, .iload_n 2, 0, 0), (21, .iload_n 3, 0, 0), (22, .iload 4, 0, 0), (24, .invokevirtual 75, 16, 0), (27, .aload_n 0, 0, 0), (28, .iload_n 2, 0, 0), (29, .iload 4, 0, 0), (31, .iload_n 3, 0, 0), (32, .invokevirtual 75, 16, 0), (35, .aload_n 0, 0, 0), (36, .iload_n 3, 0, 0),
  (37, .iload 4, 0, 0), (39, .iload_n 2, 0, 0), (40, .invokevirtual 75, 16, 0), (43, .return_, 0, 0)], 5, 2, false, none, [], 0)
def am_n14 : amN := (yX0_put, cX0_put, [])
def am_h14 : List (List Nat) := [[], [], [564, 565, 139, 566], [], [], [], [564, 565, 139, 566], [], [], [], [564, 565, 139, 566], [], [], [], [], [], [590, 592, 8, 124, 593], [], [], [], [], [590, 592, 8, 124, 593], [], [], [], [], [590, 592, 8, 124, 593], []]
def am_g14 : List (Nat × Nat) := []
def am_m15 : amM := ([(0, .iload_n 1, 0, 0), (1, .iconst 0, 0, 0), (2, .invokestatic 63, 70, 0), (5, .istore_n 2, 0, 0), (6, .iload_n 1, 0, 0), (7, .iconst 1, 0, 0), (8, .invokestatic 63, 70, 0), (11, .istore_n 3, 0, 0), (12, .iload_n 1, 0, 0), (13, .iconst 2, 0, 0), (14, .invokestatic 63, 70, 0), (17, .istore 4, 0, 0),
  (19, .aload_n 0, 0, 0), (20, .iload_n 2, 0, 0), (21, .iload_n 3, 0, 0), (22, .invokevirtual 79, 17, 0), (25, .aload_n 0, 0, 0), (26, .iload_n 2, 0, 0), (27, .iload 4, 0, 0), (29, .invokevirtual 79, 17, 0), (32, .aload_n 0, 0, 0), (33, .iload_n 3, 0, 0), (34, .iload 4, 0, 0), (36, .invokevirtual 79, 17, 0),
  (39, .return_, 0, 0)], 5, 2, false, none, [], 0)
def am_n15 : amN := (yX0_drop, cX0_drop, [])
def am_h15 : List (List Nat) := [[], [], [564, 565, 139, 566], [], [], [], [564, 565, 139, 566], [], [], [], [564, 565, 139, 566], [], [], [], [], [724, 726, 15, 124, 727], [], [], [], [724, 726, 15, 124, 727], [], [], [], [724, 726, 15, 124, 727], []]
def am_g15 : List (Nat × Nat) := []
def am_m16 : amM := ([(0, .aload_n 0, 0, 0), (1, .iload_n 1, 0, 0), (2, .invokevirtual 53, 3, 0), (5, .ifCond .eq 63, 68, 0), (8, .aload_n 0, 0, 0), (9, .iload_n 2, 0, 0), (10, .invokevirtual 53, 3, 0), (13, .ifCond .eq 55, 68, 0), (16, .aload_n 0, 0, 0), (17, .getfield 9, 0, 2), (20, .iload_n 1, 0, 0), (21, .bipush 15, 0, 0),
  (23, .imul, 0, 0), (24, .iload_n 2, 0, 0), (25, .iadd, 0, 0), (26, .iload_n 3, 0, 0), (27, .iastore, 0, 0), (28, .aload_n 0, 0, 0), (29, .getfield 9, 0, 2), (32, .iload_n 2, 0, 0), (33, .bipush 15, 0, 0), (35, .imul, 0, 0), (36, .iload_n 1, 0, 0), (37, .iadd, 0, 0),
  (38, .iload_n 3, 0, 0), (39, .iastore, 0, 0), (40, .aload_n 0, 0, 0), (41, .getfield 18, 0, 4), (44, .iload_n 1, 0, 0), (45, .dup2, 0, 0), (46, .iaload, 0, 0), (47, .iconst 1, 0, 0), (48, .iload_n 2, 0, 0), (49, .ishl, 0, 0), (50, .iconst (-1), 0, 0), (51, .ixor, 0, 0),
  (52, .iand, 0, 0), (53, .iastore, 0, 0), (54, .aload_n 0, 0, 0), (55, .getfield 18, 0, 4), (58, .iload_n 2, 0, 0), (59, .dup2, 0, 0), (60, .iaload, 0, 0), (61, .iconst 1, 0, 0), (62, .iload_n 1, 0, 0), (63, .ishl, 0, 0), (64, .iconst (-1), 0, 0), (65, .ixor, 0, 0),
  (66, .iand, 0, 0), (67, .iastore, 0, 0), (68, .return_, 0, 0)], 4, 4, false, none, [], 0)
def am_n16 : amN := (yX0_join, cX0_join, [])
def am_h16 : List (List Nat) := [[], [], [577, 554, 555, 124, 556], [], [], [], [577, 554, 555, 124, 556], [], [], [210], [], [], [], [], [], [], [], [], [210], [], [], [], [], [], [], [], [], [212], [], [], [], [], [], [], [], [], [], [], [], [212], [], [], [], [], [], [], [], [], [], [], []]
def am_g16 : List (Nat × Nat) := []
def am_m17 : amM := ([(0, .aload_n 0, 0, 0), (1, .iload_n 1, 0, 0), (2, .invokevirtual 53, 3, 0), (5, .ifCond .eq 59, 64, 0), (8, .aload_n 0, 0, 0), (9, .iload_n 2, 0, 0), (10, .invokevirtual 53, 3, 0), (13, .ifCond .eq 51, 64, 0), (16, .aload_n 0, 0, 0), (17, .getfield 9, 0, 2), (20, .iload_n 1, 0, 0), (21, .bipush 15, 0, 0),
  (23, .imul, 0, 0), (24, .iload_n 2, 0, 0), (25, .iadd, 0, 0), (26, .iconst (-1), 0, 0), (27, .iastore, 0, 0), (28, .aload_n 0, 0, 0), (29, .getfield 9, 0, 2), (32, .iload_n 2, 0, 0), (33, .bipush 15, 0, 0), (35, .imul, 0, 0), (36, .iload_n 1, 0, 0), (37, .iadd, 0, 0),
  (38, .iconst (-1), 0, 0), (39, .iastore, 0, 0), (40, .aload_n 0, 0, 0), (41, .getfield 18, 0, 4), (44, .iload_n 1, 0, 0), (45, .dup2, 0, 0), (46, .iaload, 0, 0), (47, .iconst 1, 0, 0), (48, .iload_n 2, 0, 0), (49, .ishl, 0, 0), (50, .ior, 0, 0), (51, .iastore, 0, 0),
  (52, .aload_n 0, 0, 0), (53, .getfield 18, 0, 4), (56, .iload_n 2, 0, 0), (57, .dup2, 0, 0), (58, .iaload, 0, 0), (59, .iconst 1, 0, 0), (60, .iload_n 1, 0, 0), (61, .ishl, 0, 0), (62, .ior, 0, 0), (63, .iastore, 0, 0), (64, .return_, 0, 0)], 3, 3, false, none, [], 0)
def am_n17 : amN := (yX0_part, cX0_part, [])
def am_h17 : List (List Nat) := [[], [], [577, 554, 555, 124, 556], [], [], [], [577, 554, 555, 124, 556], [], [], [210], [], [], [], [], [], [], [], [], [210], [], [], [], [], [], [], [], [], [212], [], [], [], [], [], [], [], [], [], [212], [], [], [], [], [], [], [], [], []]
def am_g17 : List (Nat × Nat) := []
def am_m18 : amM := ([(0, .aload_n 0, 0, 0), (1, .iconst 0, 0, 0), (2, .putfield 37, 0, 1), (5, .iconst 0, 0, 0), (6, .istore_n 1, 0, 0), (7, .iload_n 1, 0, 0), (8, .aload_n 0, 0, 0), (9, .getfield 33, 0, 0), (12, .if_icmp .ge 46, 58, 0), (15, .iload_n 1, 0, 0), (16, .iconst 1, 0, 0), (17, .iadd, 0, 0),
  (18, .istore_n 2, 0, 0), (19, .iload_n 2, 0, 0), (20, .aload_n 0, 0, 0), (21, .getfield 33, 0, 0), (24, .if_icmp .ge 28, 52, 0), (27, .aload_n 0, 0, 0), (28, .iload_n 1, 0, 0), (29, .iload_n 2, 0, 0), (30, .invokevirtual 57, 7, 0), (33, .istore_n 3, 0, 0), (34, .iload_n 3, 0, 0), (35, .iload_n 2, 0, 0),
  (36, .if_icmp .le 10, 46, 0), (39, .aload_n 0, 0, 0), (40, .iload_n 1, 0, 0), (41, .iload_n 2, 0, 0), (42, .iload_n 3, 0, 0), (43, .invokevirtual 83, 19, 0), (46, .iinc 2 1, 0, 0), (49, .goto (-30), 19, 0), (52, .iinc 1 1, 0, 0), (55, .goto (-48), 7, 0), (58, .return_, 0, 0)], 4, 1, false, none, [], 0)
def am_n18 : amN := (yX0_list, cX0_list, [])
def am_h18 : List (List Nat) := [[], [], [208], [], [], [], [], [200], [], [], [], [], [], [], [], [200], [], [], [], [], [618, 619, 620, 124, 621], [], [], [], [], [], [], [], [], [622, 624, 10, 124, 625], [], [], [], [], []]
def am_g18 : List (Nat × Nat) := []
def am_m19 : amM := ([(0, .aload_n 0, 0, 0), (1, .getfield 37, 0, 1), (4, .aload_n 0, 0, 0), (5, .getfield 21, 0, 5), (8, .arraylength, 0, 0), (9, .if_icmp .ge 46, 55, 0), (12, .aload_n 0, 0, 0), (13, .getfield 21, 0, 5), (16, .aload_n 0, 0, 0), (17, .getfield 37, 0, 1), (20, .iload_n 1, 0, 0), (21, .iload_n 2, 0, 0),
  (22, .iload_n 3, 0, 0), (23, .invokestatic 86, 68, 0), (26, .iastore, 0, 0), (27, .aload_n 0, 0, 0), (28, .iload_n 1, 0, 0), (29, .iload_n 2, 0, 0), (30, .invokevirtual 90, 20, 0), (33, .aload_n 0, 0, 0), (34, .iload_n 1, 0, 0), (35, .iload_n 3, 0, 0), (36, .invokevirtual 90, 20, 0), (39, .aload_n 0, 0, 0),
  (40, .iload_n 2, 0, 0), (41, .iload_n 3, 0, 0), (42, .invokevirtual 90, 20, 0), (45, .aload_n 0, 0, 0), (46, .dup, 0, 0), (47, .getfield 37, 0, 1), (50, .iconst 1, 0, 0), (51, .iadd, 0, 0), (52, .putfield 37, 0, 1), (55, .return_, 0, 0)], 4, 4, false, none, [], 0)
def am_n19 : amN := (yX0_number, cX0_number, [])
def am_h19 : List (List Nat) := [[], [208], [], [213], [], [], [], [213], [], [208], [], [], [], [626, 627, 139, 628], [], [], [], [], [629, 631, 11, 124, 632], [], [], [], [629, 631, 11, 124, 632], [], [], [], [629, 631, 11, 124, 632], [], [], [208], [], [], [208], []]
def am_g19 : List (Nat × Nat) := []
def am_m20 : amM := ([(0, .aload_n 0, 0, 0), (1, .iload_n 1, 0, 0), (2, .invokevirtual 53, 3, 0), (5, .ifCond .eq 41, 46, 0), (8, .aload_n 0, 0, 0), (9, .iload_n 2, 0, 0), (10, .invokevirtual 53, 3, 0), (13, .ifCond .eq 33, 46, 0), (16, .aload_n 0, 0, 0), (17, .getfield 15, 0, 3), (20, .iload_n 1, 0, 0), (21, .bipush 15, 0, 0),
  (23, .imul, 0, 0), (24, .iload_n 2, 0, 0), (25, .iadd, 0, 0), (26, .aload_n 0, 0, 0), (27, .getfield 37, 0, 1), (30, .iastore, 0, 0), (31, .aload_n 0, 0, 0), (32, .getfield 15, 0, 3), (35, .iload_n 2, 0, 0), (36, .bipush 15, 0, 0), (38, .imul, 0, 0), (39, .iload_n 1, 0, 0),
  (40, .iadd, 0, 0), (41, .aload_n 0, 0, 0), (42, .getfield 37, 0, 1), (45, .iastore, 0, 0), (46, .return_, 0, 0)], 3, 3, false, none, [], 0)
def am_n20 : amN := (yX0_numberPair, cX0_numberPair, [])
def am_h20 : List (List Nat) := [[], [], [577, 554, 555, 124, 556], [], [], [], [577, 554, 555, 124, 556], [], [], [211], [], [], [], [], [], [], [208], [], [], [211], [], [], [], [], [], [], [208], [], []]
def am_g20 : List (Nat × Nat) := []
def am_m21 : amM := ([(0, .iconst 0, 0, 0), (1, .istore_n 2, 0, 0), (2, .iconst 0, 0, 0), (3, .istore_n 3, 0, 0), (4, .iload_n 3, 0, 0), (5, .aload_n 0, 0, 0), (6, .getfield 33, 0, 0), (9, .if_icmp .ge 53, 62, 0), (12, .iload_n 1, 0, 0), (13, .iload_n 3, 0, 0), (14, .aload_n 0, 0, 0), (15, .getfield 33, 0, 0),
  (18, .invokestatic 93, 71, 0), (21, .istore 4, 0, 0), (23, .iload_n 3, 0, 0), (24, .ifCond .le 12, 36, 0), (27, .iload 4, 0, 0), (29, .iload_n 1, 0, 0), (30, .if_icmp .ne 6, 36, 0), (33, .goto 29, 62, 0), (36, .aload_n 0, 0, 0), (37, .iload 4, 0, 0), (39, .invokevirtual 96, 13, 0), (42, .ifCond .ne 5, 47, 0),
  (45, .iconst (-1), 0, 0), (46, .ireturn, 0, 0), (47, .aload_n 0, 0, 0), (48, .iload 4, 0, 0), (50, .invokevirtual 99, 14, 0), (53, .iinc 2 1, 0, 0), (56, .iinc 3 1, 0, 0), (59, .goto (-55), 4, 0), (62, .iload_n 2, 0, 0), (63, .ireturn, 0, 0)], 5, 2, false, (some .int), [], 0)
def am_n21 : amN := (yX0_putAllTurns, cX0_putAllTurns, [])
def am_h21 : List (List Nat) := [[], [], [], [], [], [], [200], [], [], [], [], [200], [582, 583, 139, 584], [], [], [], [], [], [], [], [], [], [585, 561, 562, 124, 563], [], [], [], [], [], [586, 587, 588, 124, 589], [], [], [], [], []]
def am_g21 : List (Nat × Nat) := []
def am_m22 : amM := ([(0, .iconst 0, 0, 0), (1, .istore_n 1, 0, 0), (2, .iconst 0, 0, 0), (3, .istore_n 2, 0, 0), (4, .iload_n 2, 0, 0), (5, .aload_n 0, 0, 0), (6, .getfield 33, 0, 0), (9, .if_icmp .ge 75, 84, 0), (12, .iload_n 2, 0, 0), (13, .iconst 1, 0, 0), (14, .iadd, 0, 0), (15, .istore_n 3, 0, 0),
  (16, .iload_n 3, 0, 0), (17, .aload_n 0, 0, 0), (18, .getfield 33, 0, 0), (21, .if_icmp .ge 57, 78, 0), (24, .iload_n 3, 0, 0), (25, .iconst 1, 0, 0), (26, .iadd, 0, 0), (27, .istore 4, 0, 0), (29, .iload 4, 0, 0), (31, .aload_n 0, 0, 0), (32, .getfield 33, 0, 0), (35, .if_icmp .ge 37, 72, 0),
  (38, .aload_n 0, 0, 0), (39, .iload_n 2, 0, 0), (40, .iload_n 3, 0, 0), (41, .iload 4, 0, 0), (43, .invokestatic 86, 68, 0), (46, .invokevirtual 96, 13, 0), (49, .ifCond .eq 17, 66, 0), (52, .aload_n 0, 0, 0), (53, .iload_n 2, 0, 0), (54, .iload_n 3, 0, 0), (55, .iload 4, 0, 0), (57, .invokestatic 86, 68, 0),
  (60, .invokevirtual 99, 14, 0), (63, .iinc 1 1, 0, 0), (66, .iinc 4 1, 0, 0), (69, .goto (-40), 29, 0), (72, .iinc 3 1, 0, 0), (75, .goto (-59), 16, 0), (78, .iinc 2 1, 0, 0), (81, .goto (-77), 4, 0), (84, .iload_n 1, 0, 0), (85, .ireturn, 0, 0)], 5, 1, false, (some .int), [], 0)
def am_n22 : amN := (yX0_putAllThatFit, cX0_putAllThatFit, [])
def am_h22 : List (List Nat) := [[], [], [], [], [], [], [200], [], [], [], [], [], [], [], [200], [], [], [], [], [], [], [], [200], [], [], [], [], [], [626, 627, 139, 628], [585, 561, 562, 124, 563], [], [], [], [], [], [626, 627, 139, 628], [586, 587, 588, 124, 589], [], [], [], [], [], [], [], [], []]
def am_g22 : List (Nat × Nat) := []
def am_m23 : amM := ([(0, .iconst 0, 0, 0), (1, .istore_n 1, 0, 0), (2, .iconst 0, 0, 0), (3, .istore_n 2, 0, 0), (4, .iload_n 2, 0, 0), (5, .aload_n 0, 0, 0), (6, .getfield 33, 0, 0), (9, .if_icmp .ge 20, 29, 0), (12, .iload_n 1, 0, 0), (13, .aload_n 0, 0, 0), (14, .iload_n 2, 0, 0), (15, .invokevirtual 71, 8, 0),
  (18, .invokestatic 103, 343, 0), (21, .iadd, 0, 0), (22, .istore_n 1, 0, 0), (23, .iinc 2 1, 0, 0), (26, .goto (-22), 4, 0), (29, .iload_n 1, 0, 0), (30, .iconst 2, 0, 0), (31, .idiv, 0, 0), (32, .ireturn, 0, 0)], 3, 1, false, (some .int), [], 0)
def am_n23 : amN := (yX0_openPairs, cX0_openPairs, [])
def am_h23 : List (List Nat) := [[], [], [], [], [], [], [200], [], [], [], [], [573, 574, 575, 124, 576], [674, 568, 140, 569], [], [], [], [], [], [], [], []]
def am_g23 : List (Nat × Nat) := []
def am_m24 : amM := ([(0, .iconst 0, 0, 0), (1, .istore_n 2, 0, 0), (2, .iconst 0, 0, 0), (3, .istore_n 3, 0, 0), (4, .iload_n 3, 0, 0), (5, .aload_n 0, 0, 0), (6, .getfield 33, 0, 0), (9, .if_icmp .ge 58, 67, 0), (12, .iload_n 3, 0, 0), (13, .iconst 1, 0, 0), (14, .iadd, 0, 0), (15, .istore 4, 0, 0),
  (17, .iload 4, 0, 0), (19, .aload_n 0, 0, 0), (20, .getfield 33, 0, 0), (23, .if_icmp .ge 38, 61, 0), (26, .aload_n 0, 0, 0), (27, .iload_n 3, 0, 0), (28, .invokevirtual 71, 8, 0), (31, .iload 4, 0, 0), (33, .invokestatic 108, 69, 0), (36, .ifCond .eq 19, 55, 0), (39, .iload_n 2, 0, 0), (40, .iload_n 1, 0, 0),
  (41, .if_icmp .ne 11, 52, 0), (44, .bipush 16, 0, 0), (46, .iload_n 3, 0, 0), (47, .imul, 0, 0), (48, .iload 4, 0, 0), (50, .iadd, 0, 0), (51, .ireturn, 0, 0), (52, .iinc 2 1, 0, 0), (55, .iinc 4 1, 0, 0), (58, .goto (-41), 17, 0), (61, .iinc 3 1, 0, 0), (64, .goto (-60), 4, 0),
  (67, .iconst (-1), 0, 0), (68, .ireturn, 0, 0)], 5, 2, false, (some .int), [], 0)
def am_n24 : amN := (yX0_openPair, cX0_openPair, [])
def am_h24 : List (List Nat) := [[], [], [], [], [], [], [200], [], [], [], [], [], [], [], [200], [], [], [], [573, 574, 575, 124, 576], [], [715, 558, 139, 559], [], [], [], [], [], [], [], [], [], [], [], [], [], [], [], [], []]
def am_g24 : List (Nat × Nat) := []
def am_m25 : amM := ([(0, .iconst (-1), 0, 0), (1, .istore_n 1, 0, 0), (2, .bipush 15, 0, 0), (4, .istore_n 2, 0, 0), (5, .iconst 0, 0, 0), (6, .istore_n 3, 0, 0), (7, .iload_n 3, 0, 0), (8, .aload_n 0, 0, 0), (9, .getfield 33, 0, 0), (12, .if_icmp .ge 76, 88, 0), (15, .iload_n 3, 0, 0), (16, .iconst 1, 0, 0),
  (17, .iadd, 0, 0), (18, .istore 4, 0, 0), (20, .iload 4, 0, 0), (22, .aload_n 0, 0, 0), (23, .getfield 33, 0, 0), (26, .if_icmp .ge 56, 82, 0), (29, .aload_n 0, 0, 0), (30, .iload_n 3, 0, 0), (31, .invokevirtual 71, 8, 0), (34, .aload_n 0, 0, 0), (35, .iload 4, 0, 0), (37, .invokevirtual 71, 8, 0),
  (40, .iand, 0, 0), (41, .invokestatic 103, 343, 0), (44, .istore 5, 0, 0), (46, .aload_n 0, 0, 0), (47, .iload_n 3, 0, 0), (48, .invokevirtual 71, 8, 0), (51, .iload 4, 0, 0), (53, .invokestatic 108, 69, 0), (56, .ifCond .eq 20, 76, 0), (59, .iload 5, 0, 0), (61, .iload_n 2, 0, 0), (62, .if_icmp .ge 14, 76, 0),
  (65, .bipush 16, 0, 0), (67, .iload_n 3, 0, 0), (68, .imul, 0, 0), (69, .iload 4, 0, 0), (71, .iadd, 0, 0), (72, .istore_n 1, 0, 0), (73, .iload 5, 0, 0), (75, .istore_n 2, 0, 0), (76, .iinc 4 1, 0, 0), (79, .goto (-59), 20, 0), (82, .iinc 3 1, 0, 0), (85, .goto (-78), 7, 0),
  (88, .iload_n 1, 0, 0), (89, .ireturn, 0, 0)], 6, 1, false, (some .int), [], 0)
def am_n25 : amN := (yX0_tightestPair, cX0_tightestPair, [])
def am_h25 : List (List Nat) := [[], [], [], [], [], [], [], [], [200], [], [], [], [], [], [], [], [200], [], [], [], [573, 574, 575, 124, 576], [], [], [573, 574, 575, 124, 576], [], [674, 568, 140, 569], [], [], [], [573, 574, 575, 124, 576], [], [715, 558, 139, 559], [], [], [], [], [], [], [], [], [], [], [], [], [], [], [], [], [], []]
def am_g25 : List (Nat × Nat) := []
def am_m26 : amM := ([(0, .iconst 0, 0, 0), (1, .istore_n 3, 0, 0), (2, .iconst 0, 0, 0), (3, .istore 4, 0, 0), (5, .iload 4, 0, 0), (7, .aload_n 0, 0, 0), (8, .getfield 37, 0, 1), (11, .if_icmp .ge 27, 38, 0), (14, .aload_n 0, 0, 0), (15, .iload 4, 0, 0), (17, .invokevirtual 112, 9, 0), (20, .iload_n 1, 0, 0),
  (21, .iand, 0, 0), (22, .invokestatic 103, 343, 0), (25, .iload_n 2, 0, 0), (26, .if_icmp .lt 6, 32, 0), (29, .iinc 3 1, 0, 0), (32, .iinc 4 1, 0, 0), (35, .goto (-30), 5, 0), (38, .iload_n 3, 0, 0), (39, .ireturn, 0, 0)], 5, 3, false, (some .int), [], 0)
def am_n26 : amN := (yX0_meeting, cX0_meeting, [])
def am_h26 : List (List Nat) := [[], [], [], [], [], [], [208], [], [], [], [880, 638, 639, 124, 640], [], [], [674, 568, 140, 569], [], [], [], [], [], [], []]
def am_g26 : List (Nat × Nat) := []
def am_m27 : amM := ([(0, .iconst 0, 0, 0), (1, .istore_n 3, 0, 0), (2, .iconst 0, 0, 0), (3, .istore 4, 0, 0), (5, .iload 4, 0, 0), (7, .aload_n 0, 0, 0), (8, .getfield 37, 0, 1), (11, .if_icmp .ge 37, 48, 0), (14, .aload_n 0, 0, 0), (15, .iload 4, 0, 0), (17, .invokevirtual 112, 9, 0), (20, .iload_n 1, 0, 0),
  (21, .iand, 0, 0), (22, .invokestatic 103, 343, 0), (25, .iload_n 2, 0, 0), (26, .if_icmp .lt 16, 42, 0), (29, .aload_n 0, 0, 0), (30, .aload_n 0, 0, 0), (31, .iload 4, 0, 0), (33, .invokevirtual 112, 9, 0), (36, .invokevirtual 115, 15, 0), (39, .iinc 3 1, 0, 0), (42, .iinc 4 1, 0, 0), (45, .goto (-40), 5, 0),
  (48, .iload_n 3, 0, 0), (49, .ireturn, 0, 0)], 5, 3, false, (some .int), [], 0)
def am_n27 : amN := (yX0_dropMeeting, cX0_dropMeeting, [])
def am_h27 : List (List Nat) := [[], [], [], [], [], [], [208], [], [], [], [880, 638, 639, 124, 640], [], [], [674, 568, 140, 569], [], [], [], [], [], [880, 638, 639, 124, 640], [1479, 721, 722, 124, 723], [], [], [], [], []]
def am_g27 : List (Nat × Nat) := []
def am_m28 : amM := ([(0, .iload_n 1, 0, 0), (1, .iconst 0, 0, 0), (2, .invokestatic 63, 70, 0), (5, .istore_n 2, 0, 0), (6, .iload_n 1, 0, 0), (7, .iconst 1, 0, 0), (8, .invokestatic 63, 70, 0), (11, .istore_n 3, 0, 0), (12, .iload_n 1, 0, 0), (13, .iconst 2, 0, 0), (14, .invokestatic 63, 70, 0), (17, .istore 4, 0, 0),
  (19, .aload_n 0, 0, 0), (20, .iload_n 3, 0, 0), (21, .iload 4, 0, 0), (23, .invokevirtual 57, 7, 0), (26, .aload_n 0, 0, 0), (27, .iload_n 2, 0, 0), (28, .iload 4, 0, 0), (30, .invokevirtual 57, 7, 0), (33, .aload_n 0, 0, 0), (34, .iload_n 2, 0, 0), (35, .iload_n 3, 0, 0), (36, .invokevirtual 57, 7, 0),
  (39, .invokestatic 86, 68, 0), (42, .ireturn, 0, 0)], 5, 2, false, (some .int), [], 0)
def am_n28 : amN := (yX0_trainFrom, cX0_trainFrom, [])
def am_h28 : List (List Nat) := [[], [], [564, 565, 139, 566], [], [], [], [564, 565, 139, 566], [], [], [], [564, 565, 139, 566], [], [], [], [], [618, 619, 620, 124, 621], [], [], [], [618, 619, 620, 124, 621], [], [], [], [618, 619, 620, 124, 621], [626, 627, 139, 628], []]
def am_g28 : List (Nat × Nat) := []
def am_m29 : amM := ([(0, .iconst 0, 0, 0), (1, .istore_n 2, 0, 0), (2, .iload_n 2, 0, 0), (3, .aload_n 0, 0, 0), (4, .getfield 37, 0, 1), (7, .if_icmp .ge 31, 38, 0), (10, .aload_n 0, 0, 0), (11, .aload_n 0, 0, 0), (12, .iload_n 2, 0, 0), (13, .invokevirtual 112, 9, 0), (16, .iload_n 1, 0, 0), (17, .aload_n 0, 0, 0),
  (18, .getfield 33, 0, 0), (21, .invokestatic 93, 71, 0), (24, .invokevirtual 60, 12, 0), (27, .ifCond .ne 5, 32, 0), (30, .iconst 0, 0, 0), (31, .ireturn, 0, 0), (32, .iinc 2 1, 0, 0), (35, .goto (-33), 2, 0), (38, .iconst 1, 0, 0), (39, .ireturn, 0, 0)], 3, 2, false, (some .boolean), [], 0)
def am_n29 : amN := (yX0_turnKeeps, cX0_turnKeeps, [])
def am_h29 : List (List Nat) := [[], [], [], [], [208], [], [], [], [], [880, 638, 639, 124, 640], [], [], [200], [582, 583, 139, 584], [646, 647, 648, 124, 649], [], [], [], [], [], [], []]
def am_g29 : List (Nat × Nat) := []
def am_m30 : amM := ([(0, .iconst 1, 0, 0), (1, .istore_n 1, 0, 0), (2, .iload_n 1, 0, 0), (3, .aload_n 0, 0, 0), (4, .getfield 33, 0, 0), (7, .if_icmp .ge 19, 26, 0), (10, .aload_n 0, 0, 0), (11, .iload_n 1, 0, 0), (12, .invokevirtual 118, 29, 0), (15, .ifCond .eq 5, 20, 0), (18, .iload_n 1, 0, 0), (19, .ireturn, 0, 0),
  (20, .iinc 1 1, 0, 0), (23, .goto (-21), 2, 0), (26, .aload_n 0, 0, 0), (27, .getfield 33, 0, 0), (30, .ireturn, 0, 0)], 2, 1, false, (some .int), [], 0)
def am_n30 : amN := (yX0_leastKeptTurn, cX0_leastKeptTurn, [])
def am_h30 : List (List Nat) := [[], [], [], [], [200], [], [], [], [889, 877, 878, 124, 879], [], [], [], [], [], [], [200], []]
def am_g30 : List (Nat × Nat) := []
def am_m31 : amM := ([(0, .lconst 0, 0, 0), (1, .lstore_n 3, 0, 0), (2, .aload_n 0, 0, 0), (3, .iload_n 1, 0, 0), (4, .invokevirtual 112, 9, 0), (7, .istore 5, 0, 0), (9, .iconst 0, 0, 0), (10, .istore 6, 0, 0), (12, .iload 6, 0, 0), (14, .aload_n 0, 0, 0), (15, .getfield 33, 0, 0), (18, .if_icmp .ge 32, 50, 0),
  (21, .lload_n 3, 0, 0), (22, .lconst 1, 0, 0), (23, .aload_n 0, 0, 0), (24, .iload 5, 0, 0), (26, .invokevirtual 121, 11, 0), (29, .lshl, 0, 0), (30, .lor, 0, 0), (31, .lstore_n 3, 0, 0), (32, .iload 5, 0, 0), (34, .iload_n 2, 0, 0), (35, .aload_n 0, 0, 0), (36, .getfield 33, 0, 0),
  (39, .invokestatic 93, 71, 0), (42, .istore 5, 0, 0), (44, .iinc 6 1, 0, 0), (47, .goto (-35), 12, 0), (50, .lload_n 3, 0, 0), (51, .lreturn, 0, 0)], 7, 3, false, (some .long), [], 0)
def am_n31 : amN := (yX0_orbitOf, cX0_orbitOf, [])
def am_h31 : List (List Nat) := [[], [], [], [], [880, 638, 639, 124, 640], [], [], [], [], [], [200], [], [], [], [], [], [898, 643, 644, 124, 645], [], [], [], [], [], [], [200], [582, 583, 139, 584], [], [], [], [], []]
def am_g31 : List (Nat × Nat) := []
def am_m32 : amM := ([(0, .iconst 0, 0, 0), (1, .istore_n 2, 0, 0), (2, .iload_n 2, 0, 0), (3, .aload_n 0, 0, 0), (4, .getfield 37, 0, 1), (7, .if_icmp .ge 25, 32, 0), (10, .aload_n 0, 0, 0), (11, .iload_n 2, 0, 0), (12, .invokevirtual 112, 9, 0), (15, .iload_n 1, 0, 0), (16, .iand, 0, 0), (17, .invokestatic 103, 343, 0),
  (20, .iconst 2, 0, 0), (21, .if_icmp .ne 5, 26, 0), (24, .iconst 0, 0, 0), (25, .ireturn, 0, 0), (26, .iinc 2 1, 0, 0), (29, .goto (-27), 2, 0), (32, .iconst 1, 0, 0), (33, .ireturn, 0, 0)], 3, 2, false, (some .boolean), [], 0)
def am_n32 : amN := (yX0_isClosed, cX0_isClosed, [])
def am_h32 : List (List Nat) := [[], [], [], [], [208], [], [], [], [880, 638, 639, 124, 640], [], [], [674, 568, 140, 569], [], [], [], [], [], [], [], []]
def am_g32 : List (Nat × Nat) := []
def am_m33 : amM := ([(0, .iload_n 1, 0, 0), (1, .istore_n 2, 0, 0), (2, .iconst 0, 0, 0), (3, .istore_n 3, 0, 0), (4, .iload_n 3, 0, 0), (5, .bipush 15, 0, 0), (7, .if_icmp .ge 59, 66, 0), (10, .aload_n 0, 0, 0), (11, .iload_n 2, 0, 0), (12, .invokevirtual 124, 32, 0), (15, .ifCond .ne 51, 66, 0), (18, .iconst 0, 0, 0),
  (19, .istore 4, 0, 0), (21, .iload 4, 0, 0), (23, .aload_n 0, 0, 0), (24, .getfield 37, 0, 1), (27, .if_icmp .ge 33, 60, 0), (30, .aload_n 0, 0, 0), (31, .iload 4, 0, 0), (33, .invokevirtual 112, 9, 0), (36, .iload_n 2, 0, 0), (37, .iand, 0, 0), (38, .invokestatic 103, 343, 0), (41, .iconst 2, 0, 0),
  (42, .if_icmp .ne 12, 54, 0), (45, .iload_n 2, 0, 0), (46, .aload_n 0, 0, 0), (47, .iload 4, 0, 0), (49, .invokevirtual 112, 9, 0), (52, .ior, 0, 0), (53, .istore_n 2, 0, 0), (54, .iinc 4 1, 0, 0), (57, .goto (-36), 21, 0), (60, .iinc 3 1, 0, 0), (63, .goto (-59), 4, 0), (66, .iload_n 2, 0, 0),
  (67, .ireturn, 0, 0)], 5, 2, false, (some .int), [], 0)
def am_n33 : amN := (yX0_closed, cX0_closed, [])
def am_h33 : List (List Nat) := [[], [], [], [], [], [], [], [], [], [1449, 925, 926, 124, 927], [], [], [], [], [], [208], [], [], [], [880, 638, 639, 124, 640], [], [], [674, 568, 140, 569], [], [], [], [], [], [880, 638, 639, 124, 640], [], [], [], [], [], [], [], []]
def am_g33 : List (Nat × Nat) := []
def am_m34 : amM := ([(0, .iconst 0, 0, 0), (1, .istore_n 2, 0, 0), (2, .iload_n 2, 0, 0), (3, .aload_n 0, 0, 0), (4, .getfield 37, 0, 1), (7, .if_icmp .ge 23, 30, 0), (10, .aload_n 0, 0, 0), (11, .iload_n 2, 0, 0), (12, .invokevirtual 112, 9, 0), (15, .iload_n 1, 0, 0), (16, .iconst (-1), 0, 0), (17, .ixor, 0, 0),
  (18, .iand, 0, 0), (19, .ifCond .ne 5, 24, 0), (22, .iconst 1, 0, 0), (23, .ireturn, 0, 0), (24, .iinc 2 1, 0, 0), (27, .goto (-25), 2, 0), (30, .iconst 0, 0, 0), (31, .ireturn, 0, 0)], 3, 2, false, (some .boolean), [], 0)
def am_n34 : amN := (yX0_hasTripleWithin, cX0_hasTripleWithin, [])
def am_h34 : List (List Nat) := [[], [], [], [], [208], [], [], [], [880, 638, 639, 124, 640], [], [], [], [], [], [], [], [], [], [], []]
def am_g34 : List (Nat × Nat) := []
def am_m35 : amM := ([(0, .aload_n 0, 0, 0), (1, .invokespecial 3, 0, 5), (4, .aload_n 0, 0, 0), (5, .iconst 4, 0, 0), (6, .newarray .int, 0, 0), (8, .putfield 9, 1, 3), (11, .aload_n 0, 0, 0), (12, .bipush 30, 0, 0), (14, .newarray .int, 0, 0), (16, .putfield 15, 1, 4), (19, .aload_n 0, 0, 0), (20, .bipush 30, 0, 0),
  (22, .newarray .long, 0, 0), (24, .putfield 18, 1, 5), (27, .return_, 0, 0)], 1, 1, true, none, [], 1)
def am_n35 : amN := (yX1_init, cX1_init, [])
def am_h35 : List (List Nat) := [[], [312, 156, 157], [], [], [227], [318], [], [], [227], [319], [], [], [306], [320], []]
def am_g35 : List (Nat × Nat) := []
def am_m36 : amM := ([(0, .aload_n 0, 0, 0), (1, .iconst 0, 0, 0), (2, .putfield 22, 1, 0), (5, .aload_n 0, 0, 0), (6, .iload_n 2, 0, 0), (7, .putfield 26, 1, 1), (10, .aload_n 0, 0, 0), (11, .iload_n 3, 0, 0), (12, .putfield 29, 1, 2), (15, .aload_n 1, 0, 0), (16, .iload_n 2, 0, 0), (17, .iload_n 3, 0, 0),
  (18, .invokevirtual 32, 7, 0), (21, .istore 4, 0, 0), (23, .iconst 1, 0, 0), (24, .iload_n 2, 0, 0), (25, .ishl, 0, 0), (26, .iconst 1, 0, 0), (27, .iload_n 3, 0, 0), (28, .ishl, 0, 0), (29, .ior, 0, 0), (30, .iload 4, 0, 0), (32, .iconst (-1), 0, 0), (33, .if_icmp .ne 7, 40, 0),
  (36, .iconst 0, 0, 0), (37, .goto 7, 44, 0), (40, .iconst 1, 0, 0), (41, .iload 4, 0, 0), (43, .ishl, 0, 0), (44, .ior, 0, 0), (45, .istore 5, 0, 0), (47, .iconst 0, 0, 0), (48, .istore 6, 0, 0), (50, .iload 6, 0, 0), (52, .aload_n 1, 0, 0), (53, .getfield 38, 0, 0),
  (56, .if_icmp .ge 44, 100, 0), (59, .iload 5, 0, 0), (61, .iload 6, 0, 0), (63, .invokestatic 41, 69, 0), (66, .ifCond .ne 28, 94, 0), (69, .aload_n 0, 0, 0), (70, .aload_n 1, 0, 0), (71, .iload 6, 0, 0), (73, .invokevirtual 47, 37, 0), (76, .istore 7, 0, 0), (78, .iload 7, 0, 0), (80, .ifCond .le 14, 94, 0),
  (83, .iload 5, 0, 0), (85, .aload_n 0, 0, 0), (86, .iload 7, 0, 0), (88, .invokevirtual 51, 38, 0), (91, .ior, 0, 0), (92, .istore 5, 0, 0), (94, .iinc 6 1, 0, 0), (97, .goto (-47), 50, 0), (100, .return_, 0, 0)], 8, 4, false, none, [], 1)
def am_n36 : amN := (yX1_gather, cX1_gather, [])
def am_h36 : List (List Nat) := [[], [], [313], [], [], [316], [], [], [317], [], [], [], [793, 619, 620, 124, 621], [], [], [], [], [], [], [], [], [], [], [], [], [], [], [], [], [], [], [], [], [], [], [203], [], [], [], [794, 558, 139, 559], [], [], [], [], [795, 797, 18, 129, 798], [], [], [], [], [], [], [804, 806, 20, 129, 807], [], [], [], [], []]
def am_g36 : List (Nat × Nat) := []
def am_m37 : amM := ([(0, .aload_n 0, 0, 0), (1, .aload_n 0, 0, 0), (2, .getfield 22, 1, 0), (5, .invokevirtual 55, 39, 0), (8, .istore_n 3, 0, 0), (9, .iload_n 2, 0, 0), (10, .istore 4, 0, 0), (12, .iconst 0, 0, 0), (13, .istore 5, 0, 0), (15, .iload 5, 0, 0), (17, .bipush 15, 0, 0), (19, .if_icmp .ge 109, 128, 0),
  (22, .iload_n 3, 0, 0), (23, .iload 5, 0, 0), (25, .iadd, 0, 0), (26, .aload_n 0, 0, 0), (27, .getfield 15, 1, 4), (30, .arraylength, 0, 0), (31, .if_icmp .ge 97, 128, 0), (34, .iload 5, 0, 0), (36, .iconst 2, 0, 0), (37, .irem, 0, 0), (38, .ifCond .ne 10, 48, 0), (41, .aload_n 0, 0, 0),
  (42, .getfield 26, 1, 1), (45, .goto 7, 52, 0), (48, .aload_n 0, 0, 0), (49, .getfield 29, 1, 2), (52, .istore 6, 0, 0), (54, .aload_n 0, 0, 0), (55, .getfield 15, 1, 4), (58, .iload_n 3, 0, 0), (59, .iload 5, 0, 0), (61, .iadd, 0, 0), (62, .iload 4, 0, 0), (64, .iastore, 0, 0),
  (65, .aload_n 0, 0, 0), (66, .getfield 18, 1, 5), (69, .iload_n 3, 0, 0), (70, .iload 5, 0, 0), (72, .iadd, 0, 0), (73, .lconst 1, 0, 0), (74, .aload_n 1, 0, 0), (75, .iload 6, 0, 0), (77, .iload 4, 0, 0), (79, .invokevirtual 58, 10, 0), (82, .lshl, 0, 0), (83, .lastore, 0, 0),
  (84, .aload_n 1, 0, 0), (85, .iload 6, 0, 0), (87, .iload 4, 0, 0), (89, .invokevirtual 32, 7, 0), (92, .istore 4, 0, 0), (94, .iload 4, 0, 0), (96, .iconst (-1), 0, 0), (97, .if_icmp .ne 5, 102, 0), (100, .iconst 0, 0, 0), (101, .ireturn, 0, 0), (102, .iload 4, 0, 0), (104, .iload_n 2, 0, 0),
  (105, .if_icmp .ne 17, 122, 0), (108, .iload 6, 0, 0), (110, .aload_n 0, 0, 0), (111, .getfield 29, 1, 2), (114, .if_icmp .ne 8, 122, 0), (117, .iload 5, 0, 0), (119, .iconst 1, 0, 0), (120, .iadd, 0, 0), (121, .ireturn, 0, 0), (122, .iinc 5 1, 0, 0), (125, .goto (-110), 15, 0), (128, .iconst 0, 0, 0),
  (129, .ireturn, 0, 0)], 7, 3, false, (some .int), [], 1)
def am_n37 : amN := (yX1_walk, cX1_walk, [])
def am_h37 : List (List Nat) := [[], [], [313], [799, 801, 19, 129, 802], [], [], [], [], [], [], [], [], [], [], [], [], [319], [], [], [], [], [], [], [], [316], [], [], [317], [], [], [319], [], [], [], [], [], [], [320], [], [], [], [], [], [], [], [803, 651, 652, 124, 653], [], [], [], [], [], [793, 619, 620, 124, 621], [], [], [], [], [], [], [], [], [], [], [], [317], [], [], [], [], [], [], [], [], []]
def am_g37 : List (Nat × Nat) := []
def am_m38 : amM := ([(0, .iconst 0, 0, 0), (1, .istore_n 2, 0, 0), (2, .aload_n 0, 0, 0), (3, .getfield 22, 1, 0), (6, .iconst 3, 0, 0), (7, .if_icmp .ge 64, 71, 0), (10, .aload_n 0, 0, 0), (11, .getfield 9, 1, 3), (14, .aload_n 0, 0, 0), (15, .getfield 22, 1, 0), (18, .iconst 1, 0, 0), (19, .iadd, 0, 0),
  (20, .aload_n 0, 0, 0), (21, .getfield 9, 1, 3), (24, .aload_n 0, 0, 0), (25, .getfield 22, 1, 0), (28, .iaload, 0, 0), (29, .iload_n 1, 0, 0), (30, .iadd, 0, 0), (31, .iastore, 0, 0), (32, .aload_n 0, 0, 0), (33, .dup, 0, 0), (34, .getfield 22, 1, 0), (37, .iconst 1, 0, 0),
  (38, .iadd, 0, 0), (39, .putfield 22, 1, 0), (42, .iconst 0, 0, 0), (43, .istore_n 3, 0, 0), (44, .iload_n 3, 0, 0), (45, .iload_n 1, 0, 0), (46, .if_icmp .ge 25, 71, 0), (49, .iload_n 2, 0, 0), (50, .iconst 1, 0, 0), (51, .aload_n 0, 0, 0), (52, .aload_n 0, 0, 0), (53, .getfield 22, 1, 0),
  (56, .iconst 1, 0, 0), (57, .isub, 0, 0), (58, .iload_n 3, 0, 0), (59, .invokevirtual 61, 41, 0), (62, .ishl, 0, 0), (63, .ior, 0, 0), (64, .istore_n 2, 0, 0), (65, .iinc 3 1, 0, 0), (68, .goto (-24), 44, 0), (71, .iload_n 2, 0, 0), (72, .ireturn, 0, 0)], 4, 2, false, (some .int), [], 1)
def am_n38 : amN := (yX1_keep, cX1_keep, [])
def am_h38 : List (List Nat) := [[], [], [], [313], [], [], [], [318], [], [313], [], [], [], [318], [], [313], [], [], [], [], [], [], [313], [], [], [313], [], [], [], [], [], [], [], [], [], [313], [], [], [], [808, 809, 810, 129, 811], [], [], [], [], [], [], []]
def am_g38 : List (Nat × Nat) := []
def am_m39 : amM := ([(0, .iload_n 1, 0, 0), (1, .ifCond .lt 21, 22, 0), (4, .iload_n 1, 0, 0), (5, .aload_n 0, 0, 0), (6, .getfield 9, 1, 3), (9, .arraylength, 0, 0), (10, .if_icmp .ge 12, 22, 0), (13, .aload_n 0, 0, 0), (14, .getfield 9, 1, 3), (17, .iload_n 1, 0, 0), (18, .iaload, 0, 0), (19, .goto 4, 23, 0),
  (22, .iconst 0, 0, 0), (23, .ireturn, 0, 0)], 2, 2, false, (some .int), [], 1)
def am_n39 : amN := (yX1_beginOf, cX1_beginOf, [])
def am_h39 : List (List Nat) := [[], [], [], [], [318], [], [], [], [318], [], [], [], [], []]
def am_g39 : List (Nat × Nat) := []
def am_m40 : amM := ([(0, .iload_n 1, 0, 0), (1, .ifCond .lt 27, 28, 0), (4, .iload_n 1, 0, 0), (5, .aload_n 0, 0, 0), (6, .getfield 22, 1, 0), (9, .if_icmp .ge 19, 28, 0), (12, .aload_n 0, 0, 0), (13, .iload_n 1, 0, 0), (14, .iconst 1, 0, 0), (15, .iadd, 0, 0), (16, .invokevirtual 55, 39, 0), (19, .aload_n 0, 0, 0),
  (20, .iload_n 1, 0, 0), (21, .invokevirtual 55, 39, 0), (24, .isub, 0, 0), (25, .goto 4, 29, 0), (28, .iconst 0, 0, 0), (29, .ireturn, 0, 0)], 2, 2, false, (some .int), [], 1)
def am_n40 : amN := (yX1_lengthOf, cX1_lengthOf, [])
def am_h40 : List (List Nat) := [[], [], [], [], [313], [], [], [], [], [], [799, 801, 19, 129, 802], [], [], [799, 801, 19, 129, 802], [], [], [], []]
def am_g40 : List (Nat × Nat) := []
def am_m41 : amM := ([(0, .aload_n 0, 0, 0), (1, .iload_n 1, 0, 0), (2, .invokevirtual 55, 39, 0), (5, .iload_n 2, 0, 0), (6, .iadd, 0, 0), (7, .istore_n 3, 0, 0), (8, .iload_n 3, 0, 0), (9, .ifCond .lt 21, 30, 0), (12, .iload_n 3, 0, 0), (13, .aload_n 0, 0, 0), (14, .getfield 15, 1, 4), (17, .arraylength, 0, 0),
  (18, .if_icmp .ge 12, 30, 0), (21, .aload_n 0, 0, 0), (22, .getfield 15, 1, 4), (25, .iload_n 3, 0, 0), (26, .iaload, 0, 0), (27, .goto 4, 31, 0), (30, .iconst (-1), 0, 0), (31, .ireturn, 0, 0)], 4, 3, false, (some .int), [], 1)
def am_n41 : amN := (yX1_pointAt, cX1_pointAt, [])
def am_h41 : List (List Nat) := [[], [], [799, 801, 19, 129, 802], [], [], [], [], [], [], [], [319], [], [], [], [319], [], [], [], [], []]
def am_g41 : List (Nat × Nat) := []
def am_m42 : amM := ([(0, .iconst 0, 0, 0), (1, .istore_n 2, 0, 0), (2, .iconst 0, 0, 0), (3, .istore_n 3, 0, 0), (4, .iload_n 3, 0, 0), (5, .aload_n 0, 0, 0), (6, .getfield 22, 1, 0), (9, .if_icmp .ge 21, 30, 0), (12, .aload_n 0, 0, 0), (13, .iload_n 3, 0, 0), (14, .invokevirtual 64, 40, 0), (17, .iload_n 1, 0, 0),
  (18, .if_icmp .ne 6, 24, 0), (21, .iinc 2 1, 0, 0), (24, .iinc 3 1, 0, 0), (27, .goto (-23), 4, 0), (30, .iload_n 2, 0, 0), (31, .ireturn, 0, 0)], 4, 2, false, (some .int), [], 1)
def am_n42 : amN := (yX1_countOfLength, cX1_countOfLength, [])
def am_h42 : List (List Nat) := [[], [], [], [], [], [], [313], [], [], [], [816, 817, 818, 129, 819], [], [], [], [], [], [], []]
def am_g42 : List (Nat × Nat) := []
def am_m43 : amM := ([(0, .lconst 0, 0, 0), (1, .lstore_n 2, 0, 0), (2, .aload_n 0, 0, 0), (3, .iload_n 1, 0, 0), (4, .iconst 1, 0, 0), (5, .iadd, 0, 0), (6, .invokevirtual 55, 39, 0), (9, .istore 4, 0, 0), (11, .aload_n 0, 0, 0), (12, .iload_n 1, 0, 0), (13, .invokevirtual 55, 39, 0), (16, .istore 5, 0, 0),
  (18, .iload 5, 0, 0), (20, .iload 4, 0, 0), (22, .if_icmp .ge 29, 51, 0), (25, .iload 5, 0, 0), (27, .aload_n 0, 0, 0), (28, .getfield 18, 1, 5), (31, .arraylength, 0, 0), (32, .if_icmp .ge 19, 51, 0), (35, .lload_n 2, 0, 0), (36, .aload_n 0, 0, 0), (37, .getfield 18, 1, 5), (40, .iload 5, 0, 0),
  (42, .laload, 0, 0), (43, .lor, 0, 0), (44, .lstore_n 2, 0, 0), (45, .iinc 5 1, 0, 0), (48, .goto (-30), 18, 0), (51, .lload_n 2, 0, 0), (52, .lreturn, 0, 0)], 6, 2, false, (some .long), [], 1)
def am_n43 : amN := (yX1_tradeOf, cX1_tradeOf, [])
def am_h43 : List (List Nat) := [[], [], [], [], [], [], [799, 801, 19, 129, 802], [], [], [], [799, 801, 19, 129, 802], [], [], [], [], [], [], [320], [], [], [], [], [320], [], [], [], [], [], [], [], []]
def am_g43 : List (Nat × Nat) := []
def am_m44 : amM := ([(0, .aload_n 2, 0, 0), (1, .aload_n 0, 0, 0), (2, .iload_n 1, 0, 0), (3, .invokevirtual 67, 43, 0), (6, .invokevirtual 71, 46, 0), (9, .aload_n 0, 0, 0), (10, .iload_n 1, 0, 0), (11, .invokevirtual 64, 40, 0), (14, .istore_n 3, 0, 0), (15, .iconst 0, 0, 0), (16, .istore 4, 0, 0), (18, .iload 4, 0, 0),
  (20, .iload_n 3, 0, 0), (21, .if_icmp .ge 103, 124, 0), (24, .aload_n 0, 0, 0), (25, .iload_n 1, 0, 0), (26, .iload 4, 0, 0), (28, .invokevirtual 61, 41, 0), (31, .istore 5, 0, 0), (33, .aload_n 0, 0, 0), (34, .iload_n 1, 0, 0), (35, .iload 4, 0, 0), (37, .iconst 1, 0, 0), (38, .iadd, 0, 0),
  (39, .iload_n 3, 0, 0), (40, .if_icmp .ge 10, 50, 0), (43, .iload 4, 0, 0), (45, .iconst 1, 0, 0), (46, .iadd, 0, 0), (47, .goto 4, 51, 0), (50, .iconst 0, 0, 0), (51, .invokevirtual 61, 41, 0), (54, .istore 6, 0, 0), (56, .iload 4, 0, 0), (58, .iconst 2, 0, 0), (59, .irem, 0, 0),
  (60, .ifCond .ne 10, 70, 0), (63, .aload_n 0, 0, 0), (64, .getfield 26, 1, 1), (67, .goto 7, 74, 0), (70, .aload_n 0, 0, 0), (71, .getfield 29, 1, 2), (74, .istore 7, 0, 0), (76, .iload 4, 0, 0), (78, .iconst 2, 0, 0), (79, .irem, 0, 0), (80, .ifCond .ne 10, 90, 0), (83, .aload_n 0, 0, 0),
  (84, .getfield 29, 1, 2), (87, .goto 7, 94, 0), (90, .aload_n 0, 0, 0), (91, .getfield 26, 1, 1), (94, .istore 8, 0, 0), (96, .aload_n 2, 0, 0), (97, .iload 7, 0, 0), (99, .iload 5, 0, 0), (101, .iload 6, 0, 0), (103, .invokestatic 77, 68, 0), (106, .iload 8, 0, 0), (108, .iload 5, 0, 0),
  (110, .iload 6, 0, 0), (112, .invokestatic 77, 68, 0), (115, .invokevirtual 81, 47, 0), (118, .iinc 4 1, 0, 0), (121, .goto (-103), 18, 0), (124, .return_, 0, 0)], 9, 3, false, none, [], 1)
def am_n44 : amN := (yX1_planSwitch, cX1_planSwitch, [])
def am_h44 : List (List Nat) := [[], [], [], [1306, 835, 836, 129, 837], [1307, 745, 746, 132, 747], [], [], [816, 817, 818, 129, 819], [], [], [], [], [], [], [], [], [], [808, 809, 810, 129, 811], [], [], [], [], [], [], [], [], [], [], [], [], [], [808, 809, 810, 129, 811], [], [], [], [], [], [], [316], [], [], [317], [], [], [], [], [], [], [317], [], [], [316], [], [], [], [], [], [1308, 627, 139, 628], [], [], [], [1308, 627, 139, 628], [1309, 763, 764, 132, 765], [], [], []]
def am_g44 : List (Nat × Nat) := []
def am_m45 : amM := ([(0, .aload_n 0, 0, 0), (1, .invokespecial 3, 0, 5), (4, .aload_n 0, 0, 0), (5, .bipush 12, 0, 0), (7, .newarray .int, 0, 0), (9, .putfield 9, 2, 2), (12, .aload_n 0, 0, 0), (13, .bipush 12, 0, 0), (15, .newarray .int, 0, 0), (17, .putfield 15, 2, 3), (20, .return_, 0, 0)], 1, 1, true, none, [], 2)
def am_n45 : amN := (yX2_init, cX2_init, [])
def am_h45 : List (List Nat) := [[], [372, 156, 157], [], [], [227], [377], [], [], [227], [378], []]
def am_g45 : List (Nat × Nat) := []
def am_m46 : amM := ([(0, .aload_n 0, 0, 0), (1, .iconst 0, 0, 0), (2, .putfield 18, 2, 0), (5, .aload_n 0, 0, 0), (6, .lload_n 1, 0, 0), (7, .putfield 22, 2, 1), (10, .return_, 0, 0)], 3, 2, false, none, [], 2)
def am_n46 : amN := (yX2_begin, cX2_begin, [])
def am_h46 : List (List Nat) := [[], [], [373], [], [], [375], []]
def am_g46 : List (Nat × Nat) := []
def am_m47 : amM := ([(0, .aload_n 0, 0, 0), (1, .getfield 18, 2, 0), (4, .bipush 12, 0, 0), (6, .if_icmp .ge 33, 39, 0), (9, .aload_n 0, 0, 0), (10, .getfield 9, 2, 2), (13, .aload_n 0, 0, 0), (14, .getfield 18, 2, 0), (17, .iload_n 1, 0, 0), (18, .iastore, 0, 0), (19, .aload_n 0, 0, 0), (20, .getfield 15, 2, 3),
  (23, .aload_n 0, 0, 0), (24, .getfield 18, 2, 0), (27, .iload_n 2, 0, 0), (28, .iastore, 0, 0), (29, .aload_n 0, 0, 0), (30, .dup, 0, 0), (31, .getfield 18, 2, 0), (34, .iconst 1, 0, 0), (35, .iadd, 0, 0), (36, .putfield 18, 2, 0), (39, .return_, 0, 0)], 3, 3, false, none, [], 2)
def am_n47 : amN := (yX2_plan, cX2_plan, [])
def am_h47 : List (List Nat) := [[], [373], [], [], [], [377], [], [373], [], [], [], [378], [], [373], [], [], [], [], [373], [], [], [373], []]
def am_g47 : List (Nat × Nat) := []
def am_m48 : amM := ([(0, .iconst 0, 0, 0), (1, .istore_n 2, 0, 0), (2, .iload_n 2, 0, 0), (3, .aload_n 0, 0, 0), (4, .getfield 18, 2, 0), (7, .if_icmp .ge 28, 35, 0), (10, .iload_n 2, 0, 0), (11, .aload_n 0, 0, 0), (12, .getfield 9, 2, 2), (15, .arraylength, 0, 0), (16, .if_icmp .ge 19, 35, 0), (19, .aload_n 1, 0, 0),
  (20, .aload_n 0, 0, 0), (21, .getfield 9, 2, 2), (24, .iload_n 2, 0, 0), (25, .iaload, 0, 0), (26, .invokevirtual 26, 15, 0), (29, .iinc 2 1, 0, 0), (32, .goto (-30), 2, 0), (35, .iconst 0, 0, 0), (36, .istore_n 2, 0, 0), (37, .iconst 0, 0, 0), (38, .istore_n 3, 0, 0), (39, .iload_n 3, 0, 0),
  (40, .aload_n 0, 0, 0), (41, .getfield 18, 2, 0), (44, .if_icmp .ge 41, 85, 0), (47, .iload_n 3, 0, 0), (48, .aload_n 0, 0, 0), (49, .getfield 15, 2, 3), (52, .arraylength, 0, 0), (53, .if_icmp .ge 32, 85, 0), (56, .aload_n 1, 0, 0), (57, .aload_n 0, 0, 0), (58, .getfield 15, 2, 3), (61, .iload_n 3, 0, 0),
  (62, .iaload, 0, 0), (63, .invokevirtual 32, 14, 0), (66, .iload_n 2, 0, 0), (67, .aload_n 1, 0, 0), (68, .aload_n 0, 0, 0), (69, .getfield 15, 2, 3), (72, .iload_n 3, 0, 0), (73, .iaload, 0, 0), (74, .invokestatic 35, 67, 0), (77, .iadd, 0, 0), (78, .istore_n 2, 0, 0), (79, .iinc 3 1, 0, 0),
  (82, .goto (-43), 39, 0), (85, .iload_n 2, 0, 0), (86, .ireturn, 0, 0)], 4, 2, false, (some .int), [], 2)
def am_n48 : amN := (yX2_applyTo, cX2_applyTo, [])
def am_h48 : List (List Nat) := [[], [], [], [], [373], [], [], [], [377], [], [], [], [], [377], [], [], [778, 721, 722, 124, 723], [], [], [], [], [], [], [], [], [373], [], [], [], [378], [], [], [], [], [378], [], [], [779, 587, 588, 124, 589], [], [], [], [378], [], [], [780, 781, 128, 782], [], [], [], [], [], []]
def am_g48 : List (Nat × Nat) := []
def am_m49 : amM := ([(0, .aload_n 0, 0, 0), (1, .invokespecial 3, 0, 5), (4, .aload_n 0, 0, 0), (5, .bipush 10, 0, 0), (7, .anewarray 9, 0, 0), (10, .putfield 11, 3, 1), (13, .aload_n 0, 0, 0), (14, .new 9, 6, 0), (17, .dup, 0, 0), (18, .invokespecial 17, 88, 3), (21, .putfield 18, 3, 2), (24, .iconst 0, 0, 0),
  (25, .istore_n 1, 0, 0), (26, .iload_n 1, 0, 0), (27, .aload_n 0, 0, 0), (28, .getfield 11, 3, 1), (31, .arraylength, 0, 0), (32, .if_icmp .ge 22, 54, 0), (35, .aload_n 0, 0, 0), (36, .getfield 11, 3, 1), (39, .iload_n 1, 0, 0), (40, .new 9, 6, 0), (43, .dup, 0, 0), (44, .invokespecial 17, 88, 3),
  (47, .aastore, 0, 0), (48, .iinc 1 1, 0, 0), (51, .goto (-25), 26, 0), (54, .return_, 0, 0)], 2, 1, true, none, [], 3)
def am_n49 : amN := (yX3_init, cX3_init, [])
def am_h49 : List (List Nat) := [[], [252, 156, 157], [], [], [253], [277], [], [253, 255, 127], [], [256, 257, 127, 258], [278], [], [], [], [], [277], [], [], [], [277], [], [253, 255, 127], [], [256, 257, 127, 258], [], [], [], []]
def am_g49 : List (Nat × Nat) := []
def am_m50 : amM := ([(0, .aload_n 0, 0, 0), (1, .getfield 22, 3, 0), (4, .aload_n 0, 0, 0), (5, .getfield 11, 3, 1), (8, .arraylength, 0, 0), (9, .if_icmp .ne 7, 16, 0), (12, .aload_n 0, 0, 0), (13, .invokevirtual 26, 51, 0), (16, .aload_n 0, 0, 0), (17, .getfield 22, 3, 0), (20, .aload_n 0, 0, 0), (21, .getfield 11, 3, 1),
  (24, .arraylength, 0, 0), (25, .if_icmp .ge 39, 64, 0), (28, .aload_n 0, 0, 0), (29, .getfield 11, 3, 1), (32, .aload_n 0, 0, 0), (33, .getfield 22, 3, 0), (36, .aaload, 0, 0), (37, .ifnull 27, 64, 0), (40, .aload_n 0, 0, 0), (41, .getfield 11, 3, 1), (44, .aload_n 0, 0, 0), (45, .getfield 22, 3, 0),
  (48, .aaload, 0, 0), (49, .aload_n 1, 0, 0), (50, .aload_n 2, 0, 0), (51, .invokevirtual 29, 89, 0), (54, .aload_n 0, 0, 0), (55, .dup, 0, 0), (56, .getfield 22, 3, 0), (59, .iconst 1, 0, 0), (60, .iadd, 0, 0), (61, .putfield 22, 3, 0), (64, .return_, 0, 0)], 3, 3, false, none, [], 3)
def am_n50 : amN := (yX3_push, cX3_push, [])
def am_h50 : List (List Nat) := [[], [275], [], [277], [], [], [], [687, 689, 14, 126, 690], [], [275], [], [277], [], [], [], [277], [], [275], [], [], [], [277], [], [275], [], [], [], [691, 692, 693, 127, 694], [], [], [275], [], [], [275], []]
def am_g50 : List (Nat × Nat) := []
def am_m51 : amM := ([(0, .aload_n 0, 0, 0), (1, .getfield 11, 3, 1), (4, .iconst 0, 0, 0), (5, .aaload, 0, 0), (6, .astore_n 1, 0, 0), (7, .iconst 1, 0, 0), (8, .istore_n 2, 0, 0), (9, .iload_n 2, 0, 0), (10, .aload_n 0, 0, 0), (11, .getfield 11, 3, 1), (14, .arraylength, 0, 0), (15, .if_icmp .ge 23, 38, 0),
  (18, .aload_n 0, 0, 0), (19, .getfield 11, 3, 1), (22, .iload_n 2, 0, 0), (23, .iconst 1, 0, 0), (24, .isub, 0, 0), (25, .aload_n 0, 0, 0), (26, .getfield 11, 3, 1), (29, .iload_n 2, 0, 0), (30, .aaload, 0, 0), (31, .aastore, 0, 0), (32, .iinc 2 1, 0, 0), (35, .goto (-26), 9, 0),
  (38, .aload_n 0, 0, 0), (39, .getfield 11, 3, 1), (42, .aload_n 0, 0, 0), (43, .getfield 11, 3, 1), (46, .arraylength, 0, 0), (47, .iconst 1, 0, 0), (48, .isub, 0, 0), (49, .aload_n 1, 0, 0), (50, .aastore, 0, 0), (51, .aload_n 0, 0, 0), (52, .aload_n 0, 0, 0), (53, .getfield 11, 3, 1),
  (56, .arraylength, 0, 0), (57, .iconst 1, 0, 0), (58, .isub, 0, 0), (59, .putfield 22, 3, 0), (62, .return_, 0, 0)], 3, 1, false, none, [], 3)
def am_n51 : amN := (yX3_forgetOldest, cX3_forgetOldest, [])
def am_h51 : List (List Nat) := [[], [277], [], [], [], [], [], [], [], [277], [], [], [], [277], [], [], [], [], [277], [], [], [], [], [], [], [277], [], [277], [], [], [], [], [], [], [], [277], [], [], [], [275], []]
def am_g51 : List (Nat × Nat) := []
def am_m52 : amM := ([(0, .aload_n 0, 0, 0), (1, .getfield 22, 3, 0), (4, .iconst 1, 0, 0), (5, .if_icmp .lt 29, 34, 0), (8, .aload_n 0, 0, 0), (9, .getfield 22, 3, 0), (12, .aload_n 0, 0, 0), (13, .getfield 11, 3, 1), (16, .arraylength, 0, 0), (17, .if_icmp .gt 17, 34, 0), (20, .aload_n 0, 0, 0), (21, .getfield 11, 3, 1),
  (24, .aload_n 0, 0, 0), (25, .getfield 22, 3, 0), (28, .iconst 1, 0, 0), (29, .isub, 0, 0), (30, .aaload, 0, 0), (31, .ifnonnull 5, 36, 0), (34, .iconst 0, 0, 0), (35, .ireturn, 0, 0), (36, .aload_n 0, 0, 0), (37, .dup, 0, 0), (38, .getfield 22, 3, 0), (41, .iconst 1, 0, 0),
  (42, .isub, 0, 0), (43, .putfield 22, 3, 0), (46, .aload_n 0, 0, 0), (47, .getfield 11, 3, 1), (50, .aload_n 0, 0, 0), (51, .getfield 22, 3, 0), (54, .aaload, 0, 0), (55, .aload_n 1, 0, 0), (56, .aload_n 2, 0, 0), (57, .invokevirtual 33, 90, 0), (60, .iconst 1, 0, 0), (61, .ireturn, 0, 0)], 3, 3, false, (some .boolean), [], 3)
def am_n52 : amN := (yX3_takeBack, cX3_takeBack, [])
def am_h52 : List (List Nat) := [[], [275], [], [], [], [275], [], [277], [], [], [], [277], [], [275], [], [], [], [], [], [], [], [], [275], [], [], [275], [], [277], [], [275], [], [], [], [956, 957, 958, 127, 959], [], []]
def am_g52 : List (Nat × Nat) := []
def am_m53 : amM := ([(0, .aload_n 0, 0, 0), (1, .getfield 18, 3, 2), (4, .aload_n 1, 0, 0), (5, .aload_n 2, 0, 0), (6, .invokevirtual 29, 89, 0), (9, .aload_n 0, 0, 0), (10, .iconst 1, 0, 0), (11, .putfield 36, 3, 3), (14, .return_, 0, 0)], 3, 3, false, none, [], 3)
def am_n53 : amN := (yX3_save, cX3_save, [])
def am_h53 : List (List Nat) := [[], [278], [], [], [691, 692, 693, 127, 694], [], [], [279], []]
def am_g53 : List (Nat × Nat) := []
def am_m54 : amM := ([(0, .aload_n 0, 0, 0), (1, .getfield 36, 3, 3), (4, .ifCond .ne 5, 9, 0), (7, .iconst 0, 0, 0), (8, .ireturn, 0, 0), (9, .aload_n 0, 0, 0), (10, .getfield 18, 3, 2), (13, .aload_n 1, 0, 0), (14, .aload_n 2, 0, 0), (15, .invokevirtual 33, 90, 0), (18, .aload_n 0, 0, 0), (19, .iconst 0, 0, 0),
  (20, .putfield 22, 3, 0), (23, .iconst 1, 0, 0), (24, .ireturn, 0, 0)], 3, 3, false, (some .boolean), [], 3)
def am_n54 : amN := (yX3_restore, cX3_restore, [])
def am_h54 : List (List Nat) := [[], [279], [], [], [], [], [278], [], [], [956, 957, 958, 127, 959], [], [], [275], [], []]
def am_g54 : List (Nat × Nat) := []
def am_m55 : amM := ([(0, .aload_n 0, 0, 0), (1, .iconst 0, 0, 0), (2, .putfield 22, 3, 0), (5, .aload_n 0, 0, 0), (6, .iconst 0, 0, 0), (7, .putfield 36, 3, 3), (10, .return_, 0, 0)], 1, 1, false, none, [], 3)
def am_n55 : amN := (yX3_forgetAll, cX3_forgetAll, [])
def am_h55 : List (List Nat) := [[], [], [275], [], [], [279], []]
def am_g55 : List (Nat × Nat) := []
def am_m56 : amM := ([(0, .aload_n 0, 0, 0), (1, .invokespecial 3, 0, 5), (4, .aload_n 0, 0, 0), (5, .bipush 105, 0, 0), (7, .newarray .long, 0, 0), (9, .putfield 9, 4, 1), (12, .aload_n 0, 0, 0), (13, .bipush 105, 0, 0), (15, .newarray .int, 0, 0), (17, .putfield 15, 4, 2), (20, .return_, 0, 0)], 1, 1, true, none, [], 4)
def am_n56 : amN := (yX4_init, cX4_init, [])
def am_h56 : List (List Nat) := [[], [294, 156, 157], [], [], [306], [297], [], [], [227], [298], []]
def am_g56 : List (Nat × Nat) := []
def am_m57 : amM := ([(0, .aload_n 0, 0, 0), (1, .iconst 0, 0, 0), (2, .putfield 19, 4, 0), (5, .iconst 0, 0, 0), (6, .istore_n 2, 0, 0), (7, .iload_n 2, 0, 0), (8, .aload_n 1, 0, 0), (9, .getfield 23, 0, 1), (12, .if_icmp .ge 149, 161, 0), (15, .iload_n 2, 0, 0), (16, .iconst 1, 0, 0), (17, .iadd, 0, 0),
  (18, .istore_n 3, 0, 0), (19, .iload_n 3, 0, 0), (20, .aload_n 1, 0, 0), (21, .getfield 23, 0, 1), (24, .if_icmp .ge 131, 155, 0), (27, .aload_n 1, 0, 0), (28, .iload_n 2, 0, 0), (29, .invokevirtual 26, 9, 0), (32, .aload_n 1, 0, 0), (33, .iload_n 3, 0, 0), (34, .invokevirtual 26, 9, 0), (37, .iand, 0, 0),
  (38, .ifCond .eq 7, 45, 0), (41, .iconst 1, 0, 0), (42, .goto 4, 46, 0), (45, .iconst 0, 0, 0), (46, .istore 4, 0, 0), (48, .aload_n 1, 0, 0), (49, .iload_n 2, 0, 0), (50, .invokevirtual 26, 9, 0), (53, .aload_n 1, 0, 0), (54, .iload_n 3, 0, 0), (55, .invokevirtual 26, 9, 0), (58, .ixor, 0, 0),
  (59, .istore 5, 0, 0), (61, .iload_n 3, 0, 0), (62, .iconst 1, 0, 0), (63, .iadd, 0, 0), (64, .istore 6, 0, 0), (66, .iload 6, 0, 0), (68, .aload_n 1, 0, 0), (69, .getfield 23, 0, 1), (72, .if_icmp .ge 77, 149, 0), (75, .iload 4, 0, 0), (77, .ifCond .eq 72, 149, 0), (80, .iload 5, 0, 0),
  (82, .aload_n 1, 0, 0), (83, .iload 6, 0, 0), (85, .invokevirtual 26, 9, 0), (88, .ixor, 0, 0), (89, .istore 7, 0, 0), (91, .iload 7, 0, 0), (93, .invokestatic 30, 343, 0), (96, .iconst 3, 0, 0), (97, .if_icmp .ne 12, 109, 0), (100, .aload_n 1, 0, 0), (101, .iload 7, 0, 0), (103, .invokevirtual 35, 11, 0),
  (106, .goto 4, 110, 0), (109, .iconst (-1), 0, 0), (110, .istore 8, 0, 0), (112, .iload 8, 0, 0), (114, .iload 6, 0, 0), (116, .if_icmp .le 27, 143, 0), (119, .aload_n 0, 0, 0), (120, .iload_n 2, 0, 0), (121, .iload_n 3, 0, 0), (122, .iload 6, 0, 0), (124, .iload 8, 0, 0), (126, .aload_n 1, 0, 0),
  (127, .iload_n 2, 0, 0), (128, .invokevirtual 26, 9, 0), (131, .aload_n 1, 0, 0), (132, .iload_n 3, 0, 0), (133, .invokevirtual 26, 9, 0), (136, .ior, 0, 0), (137, .iload 7, 0, 0), (139, .ior, 0, 0), (140, .invokevirtual 38, 58, 0), (143, .iinc 6 1, 0, 0), (146, .goto (-80), 66, 0), (149, .iinc 3 1, 0, 0),
  (152, .goto (-133), 19, 0), (155, .iinc 2 1, 0, 0), (158, .goto (-151), 7, 0), (161, .return_, 0, 0)], 9, 2, false, none, [], 4)
def am_n57 : amN := (yX4_gather, cX4_gather, [])
def am_h57 : List (List Nat) := [[], [], [295], [], [], [], [], [206], [], [], [], [], [], [], [], [206], [], [], [], [637, 638, 639, 124, 640], [], [], [637, 638, 639, 124, 640], [], [], [], [], [], [], [], [], [637, 638, 639, 124, 640], [], [], [637, 638, 639, 124, 640], [], [], [], [], [], [], [], [], [206], [], [], [], [], [], [], [637, 638, 639, 124, 640], [], [], [], [641, 568, 140, 569], [], [], [], [], [642, 643, 644, 124, 645], [], [], [], [], [], [], [], [], [], [], [], [], [], [637, 638, 639, 124, 640], [], [], [637, 638, 639, 124, 640], [], [], [], [654, 656, 12, 128, 657], [], [], [], [], [], [], []]
def am_g57 : List (Nat × Nat) := []
def am_m58 : amM := ([(0, .aload_n 0, 0, 0), (1, .getfield 19, 4, 0), (4, .bipush 105, 0, 0), (6, .if_icmp .ge 49, 55, 0), (9, .aload_n 0, 0, 0), (10, .getfield 9, 4, 1), (13, .aload_n 0, 0, 0), (14, .getfield 19, 4, 0), (17, .lconst 1, 0, 0), (18, .iload_n 1, 0, 0), (19, .lshl, 0, 0), (20, .lconst 1, 0, 0),
  (21, .iload_n 2, 0, 0), (22, .lshl, 0, 0), (23, .lor, 0, 0), (24, .lconst 1, 0, 0), (25, .iload_n 3, 0, 0), (26, .lshl, 0, 0), (27, .lor, 0, 0), (28, .lconst 1, 0, 0), (29, .iload 4, 0, 0), (31, .lshl, 0, 0), (32, .lor, 0, 0), (33, .lastore, 0, 0),
  (34, .aload_n 0, 0, 0), (35, .getfield 15, 4, 2), (38, .aload_n 0, 0, 0), (39, .getfield 19, 4, 0), (42, .iload 5, 0, 0), (44, .iastore, 0, 0), (45, .aload_n 0, 0, 0), (46, .dup, 0, 0), (47, .getfield 19, 4, 0), (50, .iconst 1, 0, 0), (51, .iadd, 0, 0), (52, .putfield 19, 4, 0),
  (55, .return_, 0, 0)], 6, 6, false, none, [], 4)
def am_n58 : amN := (yX4_keep, cX4_keep, [])
def am_h58 : List (List Nat) := [[], [295], [], [], [], [297], [], [295], [], [], [], [], [], [], [], [], [], [], [], [], [], [], [], [], [], [298], [], [295], [], [], [], [], [295], [], [], [295], []]
def am_g58 : List (Nat × Nat) := []
def am_m59 : amM := ([(0, .aload_n 0, 0, 0), (1, .iload_n 1, 0, 0), (2, .invokevirtual 42, 64, 0), (5, .lstore_n 3, 0, 0), (6, .iconst 0, 0, 0), (7, .istore 5, 0, 0), (9, .iload 5, 0, 0), (11, .iload_n 2, 0, 0), (12, .if_icmp .ge 15, 27, 0), (15, .lload_n 3, 0, 0), (16, .lload_n 3, 0, 0), (17, .lconst 1, 0, 0),
  (18, .lsub, 0, 0), (19, .land, 0, 0), (20, .lstore_n 3, 0, 0), (21, .iinc 5 1, 0, 0), (24, .goto (-15), 9, 0), (27, .lload_n 3, 0, 0), (28, .lconst 0, 0, 0), (29, .lcmp, 0, 0), (30, .ifCond .ne 7, 37, 0), (33, .iconst (-1), 0, 0), (34, .goto 12, 46, 0), (37, .lload_n 3, 0, 0),
  (38, .lload_n 3, 0, 0), (39, .lneg, 0, 0), (40, .land, 0, 0), (41, .lconst 1, 0, 0), (42, .lsub, 0, 0), (43, .invokestatic 46, 344, 0), (46, .ireturn, 0, 0)], 6, 3, false, (some .int), [], 4)
def am_n59 : amN := (yX4_tripleOf, cX4_tripleOf, [])
def am_h59 : List (List Nat) := [[], [], [740, 742, 16, 128, 743], [], [], [], [], [], [], [], [], [], [], [], [], [], [], [], [], [], [], [], [], [], [], [], [], [], [], [752, 753, 148, 754], []]
def am_g59 : List (Nat × Nat) := []
def am_m60 : amM := ([(0, .iload_n 1, 0, 0), (1, .ifCond .lt 20, 21, 0), (4, .iload_n 1, 0, 0), (5, .aload_n 0, 0, 0), (6, .getfield 19, 4, 0), (9, .if_icmp .ge 12, 21, 0), (12, .aload_n 0, 0, 0), (13, .getfield 15, 4, 2), (16, .iload_n 1, 0, 0), (17, .iaload, 0, 0), (18, .goto 4, 22, 0), (21, .iconst 0, 0, 0),
  (22, .ireturn, 0, 0)], 2, 2, false, (some .int), [], 4)
def am_n60 : amN := (yX4_pointsOf, cX4_pointsOf, [])
def am_h60 : List (List Nat) := [[], [], [], [], [295], [], [], [298], [], [], [], [], []]
def am_g60 : List (Nat × Nat) := []
def am_m61 : amM := ([(0, .aload_n 0, 0, 0), (1, .iload_n 2, 0, 0), (2, .invokevirtual 51, 60, 0), (5, .iload_n 3, 0, 0), (6, .invokestatic 54, 69, 0), (9, .ifCond .ne 5, 14, 0), (12, .iconst (-1), 0, 0), (13, .ireturn, 0, 0), (14, .aload_n 0, 0, 0), (15, .iload_n 2, 0, 0), (16, .invokevirtual 51, 60, 0), (19, .istore 4, 0, 0),
  (21, .iconst 0, 0, 0), (22, .istore 5, 0, 0), (24, .iload 5, 0, 0), (26, .iconst 4, 0, 0), (27, .if_icmp .ge 40, 67, 0), (30, .aload_n 1, 0, 0), (31, .aload_n 0, 0, 0), (32, .iload_n 2, 0, 0), (33, .iload 5, 0, 0), (35, .invokevirtual 60, 59, 0), (38, .invokevirtual 26, 9, 0), (41, .istore 6, 0, 0),
  (43, .iload 6, 0, 0), (45, .iload_n 3, 0, 0), (46, .invokestatic 54, 69, 0), (49, .ifCond .eq 12, 61, 0), (52, .iload 4, 0, 0), (54, .iload 6, 0, 0), (56, .iconst (-1), 0, 0), (57, .ixor, 0, 0), (58, .iand, 0, 0), (59, .istore 4, 0, 0), (61, .iinc 5 1, 0, 0), (64, .goto (-40), 24, 0),
  (67, .iload 4, 0, 0), (69, .iconst 0, 0, 0), (70, .invokestatic 64, 70, 0), (73, .ireturn, 0, 0)], 7, 4, false, (some .int), [], 4)
def am_n61 : amN := (yX4_oppositeOf, cX4_oppositeOf, [])
def am_h61 : List (List Nat) := [[], [], [758, 759, 760, 128, 761], [], [1202, 558, 139, 559], [], [], [], [], [], [758, 759, 760, 128, 761], [], [], [], [], [], [], [], [], [], [], [748, 749, 750, 128, 751], [637, 638, 639, 124, 640], [], [], [], [1202, 558, 139, 559], [], [], [], [], [], [], [], [], [], [], [], [783, 565, 139, 566], []]
def am_g61 : List (Nat × Nat) := []
def am_m62 : amM := ([(0, .iconst 0, 0, 0), (1, .istore_n 2, 0, 0), (2, .iconst 0, 0, 0), (3, .istore_n 3, 0, 0), (4, .iload_n 3, 0, 0), (5, .aload_n 0, 0, 0), (6, .getfield 19, 4, 0), (9, .if_icmp .ge 24, 33, 0), (12, .aload_n 0, 0, 0), (13, .iload_n 3, 0, 0), (14, .invokevirtual 51, 60, 0), (17, .iload_n 1, 0, 0),
  (18, .invokestatic 54, 69, 0), (21, .ifCond .eq 6, 27, 0), (24, .iinc 2 1, 0, 0), (27, .iinc 3 1, 0, 0), (30, .goto (-26), 4, 0), (33, .iload_n 2, 0, 0), (34, .ireturn, 0, 0)], 4, 2, false, (some .int), [], 4)
def am_n62 : amN := (yX4_holdingPoint, cX4_holdingPoint, [])
def am_h62 : List (List Nat) := [[], [], [], [], [], [], [295], [], [], [], [758, 759, 760, 128, 761], [], [1202, 558, 139, 559], [], [], [], [], [], []]
def am_g62 : List (Nat × Nat) := []
def am_m63 : amM := ([(0, .iconst 0, 0, 0), (1, .istore_n 3, 0, 0), (2, .iconst 0, 0, 0), (3, .istore 4, 0, 0), (5, .iload 4, 0, 0), (7, .aload_n 0, 0, 0), (8, .getfield 19, 4, 0), (11, .if_icmp .ge 25, 36, 0), (14, .aload_n 0, 0, 0), (15, .iload 4, 0, 0), (17, .invokevirtual 42, 64, 0), (20, .lload_n 1, 0, 0),
  (21, .land, 0, 0), (22, .lconst 0, 0, 0), (23, .lcmp, 0, 0), (24, .ifCond .eq 6, 30, 0), (27, .iinc 3 1, 0, 0), (30, .iinc 4 1, 0, 0), (33, .goto (-28), 5, 0), (36, .iload_n 3, 0, 0), (37, .ireturn, 0, 0)], 5, 2, false, (some .int), [], 4)
def am_n63 : amN := (yX4_holdingAny, cX4_holdingAny, [])
def am_h63 : List (List Nat) := [[], [], [], [], [], [], [295], [], [], [], [740, 742, 16, 128, 743], [], [], [], [], [], [], [], [], [], []]
def am_g63 : List (Nat × Nat) := []
def am_m64 : amM := ([(0, .iload_n 1, 0, 0), (1, .ifCond .lt 20, 21, 0), (4, .iload_n 1, 0, 0), (5, .aload_n 0, 0, 0), (6, .getfield 19, 4, 0), (9, .if_icmp .ge 12, 21, 0), (12, .aload_n 0, 0, 0), (13, .getfield 9, 4, 1), (16, .iload_n 1, 0, 0), (17, .laload, 0, 0), (18, .goto 4, 22, 0), (21, .lconst 0, 0, 0),
  (22, .lreturn, 0, 0)], 2, 2, false, (some .long), [], 4)
def am_n64 : amN := (yX4_maskOf, cX4_maskOf, [])
def am_h64 : List (List Nat) := [[], [], [], [], [295], [], [], [297], [], [], [], [], []]
def am_g64 : List (Nat × Nat) := []
def am_m65 : amM := ([(0, .iconst 0, 0, 0), (1, .istore_n 3, 0, 0), (2, .iload_n 3, 0, 0), (3, .aload_n 0, 0, 0), (4, .getfield 19, 4, 0), (7, .if_icmp .ge 21, 28, 0), (10, .aload_n 0, 0, 0), (11, .iload_n 3, 0, 0), (12, .invokevirtual 42, 64, 0), (15, .lload_n 1, 0, 0), (16, .lcmp, 0, 0), (17, .ifCond .ne 5, 22, 0),
  (20, .iconst 1, 0, 0), (21, .ireturn, 0, 0), (22, .iinc 3 1, 0, 0), (25, .goto (-23), 2, 0), (28, .iconst 0, 0, 0), (29, .ireturn, 0, 0)], 4, 2, false, (some .boolean), [], 4)
def am_n65 : amN := (yX4_hasMask, cX4_hasMask, [])
def am_h65 : List (List Nat) := [[], [], [], [], [295], [], [], [], [740, 742, 16, 128, 743], [], [], [], [], [], [], [], [], []]
def am_g65 : List (Nat × Nat) := []
def am_m66 : amM := ([(0, .aload_n 3, 0, 0), (1, .aload_n 0, 0, 0), (2, .iload_n 2, 0, 0), (3, .invokevirtual 42, 64, 0), (6, .invokevirtual 67, 46, 0), (9, .iconst 0, 0, 0), (10, .istore 4, 0, 0), (12, .iload 4, 0, 0), (14, .iconst 4, 0, 0), (15, .if_icmp .ge 38, 53, 0), (18, .aload_n 1, 0, 0), (19, .aload_n 0, 0, 0),
  (20, .iload_n 2, 0, 0), (21, .iload 4, 0, 0), (23, .invokevirtual 60, 59, 0), (26, .invokevirtual 26, 9, 0), (29, .istore 5, 0, 0), (31, .aload_n 3, 0, 0), (32, .iload 5, 0, 0), (34, .aload_n 0, 0, 0), (35, .iload_n 2, 0, 0), (36, .invokevirtual 51, 60, 0), (39, .iload 5, 0, 0), (41, .iconst (-1), 0, 0),
  (42, .ixor, 0, 0), (43, .iand, 0, 0), (44, .invokevirtual 73, 47, 0), (47, .iinc 4 1, 0, 0), (50, .goto (-38), 12, 0), (53, .return_, 0, 0)], 6, 4, false, none, [], 4)
def am_n66 : amN := (yX4_planSwitch, cX4_planSwitch, [])
def am_h66 : List (List Nat) := [[], [], [], [740, 742, 16, 128, 743], [744, 745, 746, 132, 747], [], [], [], [], [], [], [], [], [], [748, 749, 750, 128, 751], [637, 638, 639, 124, 640], [], [], [], [], [], [758, 759, 760, 128, 761], [], [], [], [], [762, 763, 764, 132, 765], [], [], []]
def am_g66 : List (Nat × Nat) := []
def am_m67 : amM := ([(0, .iload_n 1, 0, 0), (1, .iconst 0, 0, 0), (2, .invokestatic 64, 70, 0), (5, .istore_n 2, 0, 0), (6, .iload_n 1, 0, 0), (7, .iconst 1, 0, 0), (8, .invokestatic 64, 70, 0), (11, .istore_n 3, 0, 0), (12, .iload_n 1, 0, 0), (13, .iconst 2, 0, 0), (14, .invokestatic 64, 70, 0), (17, .istore 4, 0, 0),
  (19, .iconst 0, 0, 0), (20, .istore 5, 0, 0), (22, .iconst 0, 0, 0), (23, .istore 6, 0, 0), (25, .iload 6, 0, 0), (27, .aload_n 0, 0, 0), (28, .getfield 77, 0, 0), (31, .if_icmp .ge 75, 106, 0), (34, .aload_n 0, 0, 0), (35, .iload_n 2, 0, 0), (36, .iload 6, 0, 0), (38, .invokevirtual 80, 7, 0),
  (41, .istore 7, 0, 0), (43, .iload 7, 0, 0), (45, .iconst (-1), 0, 0), (46, .if_icmp .eq 54, 100, 0), (49, .iload 6, 0, 0), (51, .iload_n 3, 0, 0), (52, .if_icmp .eq 48, 100, 0), (55, .iload 6, 0, 0), (57, .iload 4, 0, 0), (59, .if_icmp .eq 41, 100, 0), (62, .aload_n 0, 0, 0), (63, .iload_n 3, 0, 0),
  (64, .iload 6, 0, 0), (66, .invokevirtual 80, 7, 0), (69, .istore 8, 0, 0), (71, .iload 5, 0, 0), (73, .iload 8, 0, 0), (75, .iconst (-1), 0, 0), (76, .if_icmp .eq 20, 96, 0), (79, .iload 8, 0, 0), (81, .aload_n 0, 0, 0), (82, .iload 4, 0, 0), (84, .iload 7, 0, 0), (86, .invokevirtual 80, 7, 0),
  (89, .if_icmp .ne 7, 96, 0), (92, .iconst 1, 0, 0), (93, .goto 4, 97, 0), (96, .iconst 0, 0, 0), (97, .iadd, 0, 0), (98, .istore 5, 0, 0), (100, .iinc 6 1, 0, 0), (103, .goto (-78), 25, 0), (106, .iload 5, 0, 0), (108, .ireturn, 0, 0)], 9, 2, false, (some .int), [], 4)
def am_n67 : amN := (yX4_countWith, cX4_countWith, [])
def am_h67 : List (List Nat) := [[], [], [783, 565, 139, 566], [], [], [], [783, 565, 139, 566], [], [], [], [783, 565, 139, 566], [], [], [], [], [], [], [], [205], [], [], [], [], [784, 619, 620, 124, 621], [], [], [], [], [], [], [], [], [], [], [], [], [], [784, 619, 620, 124, 621], [], [], [], [], [], [], [], [], [], [784, 619, 620, 124, 621], [], [], [], [], [], [], [], [], [], []]
def am_g67 : List (Nat × Nat) := []
def am_m68 : amM := ([(0, .iconst 1, 0, 0), (1, .iload_n 0, 0, 0), (2, .ishl, 0, 0), (3, .iconst 1, 0, 0), (4, .iload_n 1, 0, 0), (5, .ishl, 0, 0), (6, .ior, 0, 0), (7, .iconst 1, 0, 0), (8, .iload_n 2, 0, 0), (9, .ishl, 0, 0), (10, .ior, 0, 0), (11, .ireturn, 0, 0)], 3, 3, false, (some .int), [], 99)
def am_n68 : amN := (yX5_three, cX5_three, [])
def am_h68 : List (List Nat) := [[], [], [], [], [], [], [], [], [], [], [], []]
def am_g68 : List (Nat × Nat) := []
def am_m69 : amM := ([(0, .iload_n 0, 0, 0), (1, .iload_n 1, 0, 0), (2, .ishr, 0, 0), (3, .iconst 1, 0, 0), (4, .iand, 0, 0), (5, .iconst 1, 0, 0), (6, .if_icmp .ne 7, 13, 0), (9, .iconst 1, 0, 0), (10, .goto 4, 14, 0), (13, .iconst 0, 0, 0), (14, .ireturn, 0, 0)], 2, 2, false, (some .boolean), [], 99)
def am_n69 : amN := (yX5_has, cX5_has, [])
def am_h69 : List (List Nat) := [[], [], [], [], [], [], [], [], [], [], []]
def am_g69 : List (Nat × Nat) := []
def am_m70 : amM := ([(0, .iload_n 0, 0, 0), (1, .istore_n 2, 0, 0), (2, .iconst 0, 0, 0), (3, .istore_n 3, 0, 0), (4, .iload_n 3, 0, 0), (5, .iload_n 1, 0, 0), (6, .if_icmp .ge 15, 21, 0), (9, .iload_n 2, 0, 0), (10, .iload_n 2, 0, 0), (11, .iconst 1, 0, 0), (12, .isub, 0, 0), (13, .iand, 0, 0),
  (14, .istore_n 2, 0, 0), (15, .iinc 3 1, 0, 0), (18, .goto (-14), 4, 0), (21, .iload_n 2, 0, 0), (22, .ifCond .ne 7, 29, 0), (25, .iconst (-1), 0, 0), (26, .goto 12, 38, 0), (29, .iload_n 2, 0, 0), (30, .iload_n 2, 0, 0), (31, .ineg, 0, 0), (32, .iand, 0, 0), (33, .iconst 1, 0, 0),
  (34, .isub, 0, 0), (35, .invokestatic 9, 343, 0), (38, .ireturn, 0, 0)], 4, 2, false, (some .int), [], 99)
def am_n70 : amN := (yX5_member, cX5_member, [])
def am_h70 : List (List Nat) := [[], [], [], [], [], [], [], [], [], [], [], [], [], [], [], [], [], [], [], [], [], [], [], [], [], [567, 568, 140, 569], []]
def am_g70 : List (Nat × Nat) := []
def am_m71 : amM := ([(0, .iload_n 0, 0, 0), (1, .iload_n 1, 0, 0), (2, .ishl, 0, 0), (3, .iload_n 0, 0, 0), (4, .iload_n 2, 0, 0), (5, .iload_n 1, 0, 0), (6, .isub, 0, 0), (7, .ishr, 0, 0), (8, .ior, 0, 0), (9, .iconst 1, 0, 0), (10, .iload_n 2, 0, 0), (11, .ishl, 0, 0),
  (12, .iconst 1, 0, 0), (13, .isub, 0, 0), (14, .iand, 0, 0), (15, .ireturn, 0, 0)], 3, 3, false, (some .int), [], 99)
def am_n71 : amN := (yX5_turned, cX5_turned, [])
def am_h71 : List (List Nat) := [[], [], [], [], [], [], [], [], [], [], [], [], [], [], [], []]
def am_g71 : List (Nat × Nat) := []
def am_m72 : amM := ([(0, .iload_n 0, 0, 0), (1, .iload_n 1, 0, 0), (2, .invokestatic 15, 69, 0), (5, .iload_n 0, 0, 0), (6, .iload_n 2, 0, 0), (7, .invokestatic 15, 69, 0), (10, .if_icmp .ne 7, 17, 0), (13, .iload_n 0, 0, 0), (14, .goto 12, 26, 0), (17, .iload_n 0, 0, 0), (18, .iconst 1, 0, 0), (19, .iload_n 1, 0, 0),
  (20, .ishl, 0, 0), (21, .iconst 1, 0, 0), (22, .iload_n 2, 0, 0), (23, .ishl, 0, 0), (24, .ior, 0, 0), (25, .ixor, 0, 0), (26, .ireturn, 0, 0)], 3, 3, false, (some .int), [], 99)
def am_n72 : amN := (yX5_exchanged, cX5_exchanged, [])
def am_h72 : List (List Nat) := [[], [], [1467, 558, 139, 559], [], [], [1467, 558, 139, 559], [], [], [], [], [], [], [], [], [], [], [], [], []]
def am_g72 : List (Nat × Nat) := []
def am_m73 : amM := ([(0, .iload_n 0, 0, 0), (1, .iconst 2, 0, 0), (2, .invokestatic 21, 70, 0), (5, .bipush 8, 0, 0), (7, .ishl, 0, 0), (8, .iload_n 0, 0, 0), (9, .iconst 1, 0, 0), (10, .invokestatic 21, 70, 0), (13, .iconst 4, 0, 0), (14, .ishl, 0, 0), (15, .ior, 0, 0), (16, .iload_n 0, 0, 0),
  (17, .iconst 0, 0, 0), (18, .invokestatic 21, 70, 0), (21, .ior, 0, 0), (22, .ireturn, 0, 0)], 1, 1, false, (some .int), [], 99)
def am_n73 : amN := (yX5_digits, cX5_digits, [])
def am_h73 : List (List Nat) := [[], [], [1348, 565, 139, 566], [], [], [], [], [1348, 565, 139, 566], [], [], [], [], [], [1348, 565, 139, 566], [], []]
def am_g73 : List (Nat × Nat) := []
def am_m74 : amM := ([(0, .aload_n 0, 0, 0), (1, .invokespecial 3, 0, 5), (4, .aload_n 0, 0, 0), (5, .iconst 0, 0, 0), (6, .putfield 9, 5, 1), (9, .aload_n 0, 0, 0), (10, .iconst (-1), 0, 0), (11, .putfield 15, 5, 2), (14, .aload_n 0, 0, 0), (15, .sipush 600, 0, 0), (18, .newarray .byte, 0, 0), (20, .putfield 18, 5, 3),
  (23, .return_, 0, 0)], 1, 1, true, none, [], 5)
def am_n74 : amN := (yX6_init, cX6_init, [])
def am_h74 : List (List Nat) := [[], [163, 156, 157], [], [], [166], [], [], [168], [], [], [192], [170], []]
def am_g74 : List (Nat × Nat) := []
def am_m75 : amM := ([(0, .aload_n 0, 0, 0), (1, .getfield 22, 5, 0), (4, .bipush 20, 0, 0), (6, .iadd, 0, 0), (7, .sipush 600, 0, 0), (10, .if_icmp .gt 7, 17, 0), (13, .iconst 1, 0, 0), (14, .goto 4, 18, 0), (17, .iconst 0, 0, 0), (18, .ireturn, 0, 0)], 1, 1, false, (some .boolean), [], 5)
def am_n75 : amN := (yX6_hasRoom, cX6_hasRoom, [])
def am_h75 : List (List Nat) := [[], [164], [], [], [], [], [], [], [], []]
def am_g75 : List (Nat × Nat) := []
def am_m76 : amM := ([(0, .bipush 24, 0, 0), (2, .istore_n 2, 0, 0), (3, .iload_n 2, 0, 0), (4, .ifCond .lt 44, 48, 0), (7, .aload_n 0, 0, 0), (8, .getfield 22, 5, 0), (11, .aload_n 0, 0, 0), (12, .getfield 18, 5, 3), (15, .arraylength, 0, 0), (16, .if_icmp .ge 32, 48, 0), (19, .aload_n 0, 0, 0), (20, .getfield 18, 5, 3),
  (23, .aload_n 0, 0, 0), (24, .getfield 22, 5, 0), (27, .iload_n 1, 0, 0), (28, .iload_n 2, 0, 0), (29, .ishr, 0, 0), (30, .i2b, 0, 0), (31, .bastore, 0, 0), (32, .aload_n 0, 0, 0), (33, .dup, 0, 0), (34, .getfield 22, 5, 0), (37, .iconst 1, 0, 0), (38, .iadd, 0, 0),
  (39, .putfield 22, 5, 0), (42, .iinc 2 (-8), 0, 0), (45, .goto (-42), 3, 0), (48, .return_, 0, 0)], 3, 2, false, none, [], 5)
def am_n76 : amN := (yX6_append, cX6_append, [])
def am_h76 : List (List Nat) := [[], [], [], [], [], [164], [], [170], [], [], [], [170], [], [164], [], [], [], [], [], [], [], [164], [], [], [164], [], [], []]
def am_g76 : List (Nat × Nat) := []
def am_m77 : amM := ([(0, .aload_n 0, 0, 0), (1, .iconst 0, 0, 0), (2, .putfield 9, 5, 1), (5, .aload_n 0, 0, 0), (6, .iconst (-1), 0, 0), (7, .putfield 15, 5, 2), (10, .aload_n 0, 0, 0), (11, .iconst 0, 0, 0), (12, .putfield 25, 5, 4), (15, .aload_n 0, 0, 0), (16, .invokevirtual 28, 81, 0), (19, .aload_n 0, 0, 0),
  (20, .aload_n 1, 0, 0), (21, .invokevirtual 31, 78, 0), (24, .istore_n 2, 0, 0), (25, .iconst 0, 0, 0), (26, .istore_n 3, 0, 0), (27, .iload_n 3, 0, 0), (28, .sipush 600, 0, 0), (31, .if_icmp .ge 26, 57, 0), (34, .iload_n 2, 0, 0), (35, .ifCond .eq 22, 57, 0), (38, .aload_n 0, 0, 0), (39, .getfield 35, 5, 5),
  (42, .ifCond .eq 15, 57, 0), (45, .aload_n 0, 0, 0), (46, .aload_n 1, 0, 0), (47, .invokevirtual 38, 79, 0), (50, .istore_n 2, 0, 0), (51, .iinc 3 1, 0, 0), (54, .goto (-27), 27, 0), (57, .iload_n 2, 0, 0), (58, .ireturn, 0, 0)], 4, 2, false, (some .boolean), [], 5)
def am_n77 : amN := (yX6_read, cX6_read, [])
def am_h77 : List (List Nat) := [[], [], [166], [], [], [168], [], [], [171], [], [463, 465, 0, 123, 466], [], [], [485, 487, 4, 123, 488], [], [], [], [], [], [], [], [], [], [172], [], [], [], [547, 549, 7, 123, 550], [], [], [], [], []]
def am_g77 : List (Nat × Nat) := []
def am_m78 : amM := ([(0, .aload_n 0, 0, 0), (1, .ldc 41, 0, 1), (3, .invokevirtual 43, 84, 0), (6, .ifCond .ne 9, 15, 0), (9, .aload_n 0, 0, 0), (10, .iconst 1, 0, 0), (11, .invokevirtual 47, 80, 0), (14, .ireturn, 0, 0), (15, .aload_n 0, 0, 0), (16, .invokevirtual 28, 81, 0), (19, .aload_n 0, 0, 0), (20, .getfield 35, 5, 5),
  (23, .iconst 2, 0, 0), (24, .if_icmp .eq 9, 33, 0), (27, .aload_n 0, 0, 0), (28, .iconst 1, 0, 0), (29, .invokevirtual 47, 80, 0), (32, .ireturn, 0, 0), (33, .aload_n 0, 0, 0), (34, .getfield 51, 5, 7), (37, .iconst 3, 0, 0), (38, .if_icmp .lt 12, 50, 0), (41, .aload_n 0, 0, 0), (42, .getfield 51, 5, 7),
  (45, .bipush 15, 0, 0), (47, .if_icmp .le 9, 56, 0), (50, .aload_n 0, 0, 0), (51, .iconst 2, 0, 0), (52, .invokevirtual 47, 80, 0), (55, .ireturn, 0, 0), (56, .aload_n 1, 0, 0), (57, .aload_n 0, 0, 0), (58, .getfield 51, 5, 7), (61, .invokevirtual 54, 1, 0), (64, .aload_n 0, 0, 0), (65, .invokevirtual 28, 81, 0),
  (68, .aload_n 0, 0, 0), (69, .getfield 35, 5, 5), (72, .iconst 3, 0, 0), (73, .if_icmp .eq 9, 82, 0), (76, .aload_n 0, 0, 0), (77, .iconst 1, 0, 0), (78, .invokevirtual 47, 80, 0), (81, .ireturn, 0, 0), (82, .aload_n 0, 0, 0), (83, .invokevirtual 28, 81, 0), (86, .iconst 1, 0, 0), (87, .ireturn, 0, 0)], 2, 2, false, (some .boolean), [], 5)
def am_n78 : amN := (yX6_readPoints, cX6_readPoints, [])
def am_h78 : List (List Nat) := [[], [], [490, 492, 5, 123, 493], [], [], [], [542, 544, 6, 123, 545], [], [], [463, 465, 0, 123, 466], [], [172], [], [], [], [], [542, 544, 6, 123, 545], [], [], [174], [], [], [], [174], [], [], [], [], [542, 544, 6, 123, 545], [], [], [], [174], [546, 389, 390, 124, 391], [], [463, 465, 0, 123, 466], [], [172], [], [], [], [], [542, 544, 6, 123, 545], [], [], [463, 465, 0, 123, 466], [], []]
def am_g78 : List (Nat × Nat) := []
def am_m79 : amM := ([(0, .aload_n 0, 0, 0), (1, .ldc 60, 1, 1), (3, .invokevirtual 43, 84, 0), (6, .istore_n 2, 0, 0), (7, .iload_n 2, 0, 0), (8, .ifCond .ne 18, 26, 0), (11, .aload_n 0, 0, 0), (12, .ldc 62, 2, 1), (14, .invokevirtual 43, 84, 0), (17, .ifCond .ne 9, 26, 0), (20, .aload_n 0, 0, 0), (21, .iconst 1, 0, 0),
  (22, .invokevirtual 47, 80, 0), (25, .ireturn, 0, 0), (26, .aload_n 0, 0, 0), (27, .invokevirtual 28, 81, 0), (30, .iconst 0, 0, 0), (31, .istore_n 3, 0, 0), (32, .iconst 0, 0, 0), (33, .istore 4, 0, 0), (35, .iload 4, 0, 0), (37, .iconst 3, 0, 0), (38, .if_icmp .ge 64, 102, 0), (41, .aload_n 0, 0, 0),
  (42, .getfield 35, 5, 5), (45, .iconst 2, 0, 0), (46, .if_icmp .eq 9, 55, 0), (49, .aload_n 0, 0, 0), (50, .iconst 1, 0, 0), (51, .invokevirtual 47, 80, 0), (54, .ireturn, 0, 0), (55, .aload_n 1, 0, 0), (56, .aload_n 0, 0, 0), (57, .getfield 51, 5, 7), (60, .invokevirtual 64, 3, 0), (63, .ifCond .eq 14, 77, 0),
  (66, .iload_n 3, 0, 0), (67, .aload_n 0, 0, 0), (68, .getfield 51, 5, 7), (71, .invokestatic 67, 69, 0), (74, .ifCond .eq 9, 83, 0), (77, .aload_n 0, 0, 0), (78, .iconst 2, 0, 0), (79, .invokevirtual 47, 80, 0), (82, .ireturn, 0, 0), (83, .iload_n 3, 0, 0), (84, .iconst 1, 0, 0), (85, .aload_n 0, 0, 0),
  (86, .getfield 51, 5, 7), (89, .ishl, 0, 0), (90, .ior, 0, 0), (91, .istore_n 3, 0, 0), (92, .aload_n 0, 0, 0), (93, .invokevirtual 28, 81, 0), (96, .iinc 4 1, 0, 0), (99, .goto (-64), 35, 0), (102, .aload_n 0, 0, 0), (103, .getfield 35, 5, 5), (106, .iconst 3, 0, 0), (107, .if_icmp .eq 9, 116, 0),
  (110, .aload_n 0, 0, 0), (111, .iconst 1, 0, 0), (112, .invokevirtual 47, 80, 0), (115, .ireturn, 0, 0), (116, .aload_n 1, 0, 0), (117, .iload_n 3, 0, 0), (118, .invokevirtual 73, 13, 0), (121, .ifCond .eq 16, 137, 0), (124, .iload_n 2, 0, 0), (125, .ifCond .eq 18, 143, 0), (128, .aload_n 1, 0, 0), (129, .iload_n 3, 0, 0),
  (130, .invokevirtual 76, 21, 0), (133, .iconst (-1), 0, 0), (134, .if_icmp .ne 9, 143, 0), (137, .aload_n 0, 0, 0), (138, .iconst 3, 0, 0), (139, .invokevirtual 47, 80, 0), (142, .ireturn, 0, 0), (143, .iload_n 2, 0, 0), (144, .ifCond .ne 8, 152, 0), (147, .aload_n 1, 0, 0), (148, .iload_n 3, 0, 0), (149, .invokevirtual 80, 14, 0),
  (152, .aload_n 0, 0, 0), (153, .invokevirtual 28, 81, 0), (156, .iconst 1, 0, 0), (157, .ireturn, 0, 0)], 5, 2, false, (some .boolean), [], 5)
def am_n79 : amN := (yX6_readStatement, cX6_readStatement, [])
def am_h79 : List (List Nat) := [[], [], [490, 492, 5, 123, 493], [], [], [], [], [], [490, 492, 5, 123, 493], [], [], [], [542, 544, 6, 123, 545], [], [], [463, 465, 0, 123, 466], [], [], [], [], [], [], [], [], [172], [], [], [], [], [542, 544, 6, 123, 545], [], [], [], [174], [553, 554, 555, 124, 556], [], [], [], [174], [557, 558, 139, 559], [], [], [], [542, 544, 6, 123, 545], [], [], [], [], [174], [], [], [], [], [463, 465, 0, 123, 466], [], [], [], [172], [], [], [], [], [542, 544, 6, 123, 545], [], [], [], [560, 561, 562, 124, 563], [], [], [], [], [], [578, 579, 580, 124, 581], [], [], [], [], [542, 544, 6, 123, 545], [], [], [], [], [], [594, 587, 588, 124, 589], [], [463, 465, 0, 123, 466], [], []]
def am_g79 : List (Nat × Nat) := []
def am_m80 : amM := ([(0, .aload_n 0, 0, 0), (1, .iload_n 1, 0, 0), (2, .putfield 9, 5, 1), (5, .aload_n 0, 0, 0), (6, .aload_n 0, 0, 0), (7, .getfield 83, 5, 6), (10, .putfield 15, 5, 2), (13, .iconst 0, 0, 0), (14, .ireturn, 0, 0)], 2, 2, false, (some .boolean), [], 5)
def am_n80 : amN := (yX6_fail, cX6_fail, [])
def am_h80 : List (List Nat) := [[], [], [166], [], [], [173], [168], [], []]
def am_g80 : List (Nat × Nat) := []
def am_m81 : amM := ([(0, .aload_n 0, 0, 0), (1, .getfield 25, 5, 4), (4, .aload_n 0, 0, 0), (5, .getfield 22, 5, 0), (8, .if_icmp .ge 42, 50, 0), (11, .aload_n 0, 0, 0), (12, .aload_n 0, 0, 0), (13, .getfield 25, 5, 4), (16, .invokevirtual 86, 85, 0), (19, .bipush 32, 0, 0), (21, .if_icmp .eq 16, 37, 0), (24, .aload_n 0, 0, 0),
  (25, .aload_n 0, 0, 0), (26, .getfield 25, 5, 4), (29, .invokevirtual 86, 85, 0), (32, .bipush 10, 0, 0), (34, .if_icmp .ne 16, 50, 0), (37, .aload_n 0, 0, 0), (38, .dup, 0, 0), (39, .getfield 25, 5, 4), (42, .iconst 1, 0, 0), (43, .iadd, 0, 0), (44, .putfield 25, 5, 4), (47, .goto (-47), 0, 0),
  (50, .aload_n 0, 0, 0), (51, .aload_n 0, 0, 0), (52, .getfield 25, 5, 4), (55, .putfield 83, 5, 6), (58, .aload_n 0, 0, 0), (59, .aload_n 0, 0, 0), (60, .getfield 25, 5, 4), (63, .invokevirtual 86, 85, 0), (66, .istore_n 1, 0, 0), (67, .iload_n 1, 0, 0), (68, .iconst (-1), 0, 0), (69, .if_icmp .ne 11, 80, 0),
  (72, .aload_n 0, 0, 0), (73, .iconst 0, 0, 0), (74, .putfield 35, 5, 5), (77, .goto 56, 133, 0), (80, .iload_n 1, 0, 0), (81, .invokestatic 89, 86, 0), (84, .ifCond .eq 10, 94, 0), (87, .aload_n 0, 0, 0), (88, .invokevirtual 92, 82, 0), (91, .goto 42, 133, 0), (94, .iload_n 1, 0, 0), (95, .invokestatic 95, 87, 0),
  (98, .ifCond .eq 10, 108, 0), (101, .aload_n 0, 0, 0), (102, .invokevirtual 98, 83, 0), (105, .goto 28, 133, 0), (108, .aload_n 0, 0, 0), (109, .iload_n 1, 0, 0), (110, .bipush 59, 0, 0), (112, .if_icmp .ne 7, 119, 0), (115, .iconst 3, 0, 0), (116, .goto 4, 120, 0), (119, .iconst 4, 0, 0), (120, .putfield 35, 5, 5),
  (123, .aload_n 0, 0, 0), (124, .dup, 0, 0), (125, .getfield 25, 5, 4), (128, .iconst 1, 0, 0), (129, .iadd, 0, 0), (130, .putfield 25, 5, 4), (133, .return_, 0, 0)], 2, 1, false, none, [], 5)
def am_n81 : amN := (yX6_advance, cX6_advance, [])
def am_h81 : List (List Nat) := [[], [171], [], [164], [], [], [], [171], [467, 469, 1, 123, 470], [], [], [], [], [171], [467, 469, 1, 123, 470], [], [], [], [], [171], [], [], [171], [], [], [], [171], [173], [], [], [171], [467, 469, 1, 123, 470], [], [], [], [], [], [], [172], [], [], [471, 472, 123, 473], [], [], [474, 476, 2, 123, 477], [], [], [478, 479, 123, 480], [], [], [481, 483, 3, 123, 484], [], [], [], [], [], [], [], [], [172], [], [], [171], [], [], [171], []]
def am_g81 : List (Nat × Nat) := []
def am_m82 : amM := ([(0, .aload_n 0, 0, 0), (1, .iconst 1, 0, 0), (2, .putfield 35, 5, 5), (5, .aload_n 0, 0, 0), (6, .getfield 25, 5, 4), (9, .aload_n 0, 0, 0), (10, .getfield 22, 5, 0), (13, .if_icmp .ge 30, 43, 0), (16, .aload_n 0, 0, 0), (17, .aload_n 0, 0, 0), (18, .getfield 25, 5, 4), (21, .invokevirtual 86, 85, 0),
  (24, .invokestatic 89, 86, 0), (27, .ifCond .eq 16, 43, 0), (30, .aload_n 0, 0, 0), (31, .dup, 0, 0), (32, .getfield 25, 5, 4), (35, .iconst 1, 0, 0), (36, .iadd, 0, 0), (37, .putfield 25, 5, 4), (40, .goto (-35), 5, 0), (43, .return_, 0, 0)], 1, 1, false, none, [], 5)
def am_n82 : amN := (yX6_readWord, cX6_readWord, [])
def am_h82 : List (List Nat) := [[], [], [172], [], [171], [], [164], [], [], [], [171], [467, 469, 1, 123, 470], [471, 472, 123, 473], [], [], [], [171], [], [], [171], [], []]
def am_g82 : List (Nat × Nat) := []
def am_m83 : amM := ([(0, .aload_n 0, 0, 0), (1, .iconst 0, 0, 0), (2, .putfield 51, 5, 7), (5, .aload_n 0, 0, 0), (6, .getfield 25, 5, 4), (9, .aload_n 0, 0, 0), (10, .getfield 22, 5, 0), (13, .if_icmp .ge 53, 66, 0), (16, .aload_n 0, 0, 0), (17, .aload_n 0, 0, 0), (18, .getfield 25, 5, 4), (21, .invokevirtual 86, 85, 0),
  (24, .invokestatic 95, 87, 0), (27, .ifCond .eq 39, 66, 0), (30, .aload_n 0, 0, 0), (31, .aload_n 0, 0, 0), (32, .getfield 51, 5, 7), (35, .bipush 10, 0, 0), (37, .imul, 0, 0), (38, .aload_n 0, 0, 0), (39, .aload_n 0, 0, 0), (40, .getfield 25, 5, 4), (43, .invokevirtual 86, 85, 0), (46, .iadd, 0, 0),
  (47, .bipush 48, 0, 0), (49, .isub, 0, 0), (50, .putfield 51, 5, 7), (53, .aload_n 0, 0, 0), (54, .dup, 0, 0), (55, .getfield 25, 5, 4), (58, .iconst 1, 0, 0), (59, .iadd, 0, 0), (60, .putfield 25, 5, 4), (63, .goto (-58), 5, 0), (66, .aload_n 0, 0, 0), (67, .aload_n 0, 0, 0),
  (68, .getfield 25, 5, 4), (71, .aload_n 0, 0, 0), (72, .getfield 83, 5, 6), (75, .isub, 0, 0), (76, .iconst 2, 0, 0), (77, .if_icmp .gt 7, 84, 0), (80, .iconst 2, 0, 0), (81, .goto 4, 85, 0), (84, .iconst 4, 0, 0), (85, .putfield 35, 5, 5), (88, .return_, 0, 0)], 1, 1, false, none, [], 5)
def am_n83 : amN := (yX6_readNumber, cX6_readNumber, [])
def am_h83 : List (List Nat) := [[], [], [174], [], [171], [], [164], [], [], [], [171], [467, 469, 1, 123, 470], [478, 479, 123, 480], [], [], [], [174], [], [], [], [], [171], [467, 469, 1, 123, 470], [], [], [], [174], [], [], [171], [], [], [171], [], [], [], [171], [], [173], [], [], [], [], [], [], [172], []]
def am_g83 : List (Nat × Nat) := []
def am_m84 : amM := ([(0, .aload_n 0, 0, 0), (1, .getfield 35, 5, 5), (4, .iconst 1, 0, 0), (5, .if_icmp .ne 19, 24, 0), (8, .aload_n 0, 0, 0), (9, .getfield 25, 5, 4), (12, .aload_n 0, 0, 0), (13, .getfield 83, 5, 6), (16, .isub, 0, 0), (17, .aload_n 1, 0, 0), (21, .if_icmp .eq 5, 26, 0), (24, .iconst 0, 0, 0),
  (25, .ireturn, 0, 0), (26, .iconst 0, 0, 0), (27, .istore_n 2, 0, 0), (28, .iload_n 2, 0, 0), (29, .aload_n 1, 0, 0), (33, .if_icmp .ge 29, 62, 0), (36, .aload_n 0, 0, 0), (37, .aload_n 0, 0, 0), (38, .getfield 83, 5, 6), (41, .iload_n 2, 0, 0), (42, .iadd, 0, 0), (43, .invokevirtual 86, 85, 0),
  (46, .aload_n 1, 0, 0), (47, .iload_n 2, 0, 0), (51, .if_icmp .eq 5, 56, 0), (54, .iconst 0, 0, 0), (55, .ireturn, 0, 0), (56, .iinc 2 1, 0, 0), (59, .goto (-31), 28, 0), (62, .iconst 1, 0, 0), (63, .ireturn, 0, 0)], 3, 2, false, (some .boolean), [], 5)
def am_n84 : amN := (yX6_isWord, cX6_isWord, [])
def am_h84 : List (List Nat) := [[], [172], [], [], [], [171], [], [173], [], [], [], [], [], [], [], [], [], [], [], [], [173], [], [], [467, 469, 1, 123, 470], [], [], [], [], [], [], [], [], []]
def am_g84 : List (Nat × Nat) := []
def am_m85 : amM := ([(0, .iload_n 1, 0, 0), (1, .ifCond .lt 33, 34, 0), (4, .iload_n 1, 0, 0), (5, .aload_n 0, 0, 0), (6, .getfield 22, 5, 0), (9, .if_icmp .ge 25, 34, 0), (12, .iload_n 1, 0, 0), (13, .aload_n 0, 0, 0), (14, .getfield 18, 5, 3), (17, .arraylength, 0, 0), (18, .if_icmp .ge 16, 34, 0), (21, .aload_n 0, 0, 0),
  (22, .getfield 18, 5, 3), (25, .iload_n 1, 0, 0), (26, .baload, 0, 0), (27, .sipush 255, 0, 0), (30, .iand, 0, 0), (31, .goto 4, 35, 0), (34, .iconst (-1), 0, 0), (35, .ireturn, 0, 0)], 2, 2, false, (some .int), [], 5)
def am_n85 : amN := (yX6_byteAt, cX6_byteAt, [])
def am_h85 : List (List Nat) := [[], [], [], [], [164], [], [], [], [170], [], [], [], [170], [], [], [], [], [], [], []]
def am_g85 : List (Nat × Nat) := []
def am_m86 : amM := ([(0, .iload_n 0, 0, 0), (1, .bipush 97, 0, 0), (3, .if_icmp .lt 13, 16, 0), (6, .iload_n 0, 0, 0), (7, .bipush 122, 0, 0), (9, .if_icmp .gt 7, 16, 0), (12, .iconst 1, 0, 0), (13, .goto 4, 17, 0), (16, .iconst 0, 0, 0), (17, .ireturn, 0, 0)], 1, 1, false, (some .boolean), [], 5)
def am_n86 : amN := (yX6_isLetter, cX6_isLetter, [])
def am_h86 : List (List Nat) := [[], [], [], [], [], [], [], [], [], []]
def am_g86 : List (Nat × Nat) := []
def am_m87 : amM := ([(0, .iload_n 0, 0, 0), (1, .bipush 48, 0, 0), (3, .if_icmp .lt 13, 16, 0), (6, .iload_n 0, 0, 0), (7, .bipush 57, 0, 0), (9, .if_icmp .gt 7, 16, 0), (12, .iconst 1, 0, 0), (13, .goto 4, 17, 0), (16, .iconst 0, 0, 0), (17, .ireturn, 0, 0)], 1, 1, false, (some .boolean), [], 5)
def am_n87 : amN := (yX6_isDigit, cX6_isDigit, [])
def am_h87 : List (List Nat) := [[], [], [], [], [], [], [], [], [], []]
def am_g87 : List (Nat × Nat) := []
def am_m88 : amM := ([(0, .aload_n 0, 0, 0), (1, .invokespecial 3, 0, 5), (4, .aload_n 0, 0, 0), (5, .bipush 35, 0, 0), (7, .newarray .int, 0, 0), (9, .putfield 9, 6, 2), (12, .aload_n 0, 0, 0), (13, .new 15, 7, 0), (16, .dup, 0, 0), (17, .invokespecial 17, 91, 3), (20, .putfield 18, 6, 3), (23, .return_, 0, 0)], 1, 1, true, none, [], 6)
def am_n88 : amN := (yX7_init, cX7_init, [])
def am_h88 : List (List Nat) := [[], [259, 156, 157], [], [], [227], [264], [], [260, 229, 125], [], [261, 231, 125, 232], [265], []]
def am_g88 : List (Nat × Nat) := []
def am_m89 : amM := ([(0, .aload_n 0, 0, 0), (1, .aload_n 1, 0, 0), (2, .getfield 22, 0, 0), (5, .putfield 28, 6, 0), (8, .aload_n 0, 0, 0), (9, .aload_n 1, 0, 0), (10, .getfield 29, 0, 1), (13, .putfield 32, 6, 1), (16, .iconst 0, 0, 0), (17, .istore_n 3, 0, 0), (18, .iload_n 3, 0, 0), (19, .aload_n 0, 0, 0),
  (20, .getfield 9, 6, 2), (23, .arraylength, 0, 0), (24, .if_icmp .ge 20, 44, 0), (27, .aload_n 0, 0, 0), (28, .getfield 9, 6, 2), (31, .iload_n 3, 0, 0), (32, .aload_n 1, 0, 0), (33, .iload_n 3, 0, 0), (34, .invokevirtual 33, 9, 0), (37, .iastore, 0, 0), (38, .iinc 3 1, 0, 0), (41, .goto (-23), 18, 0),
  (44, .aload_n 0, 0, 0), (45, .getfield 18, 6, 3), (48, .aload_n 2, 0, 0), (49, .invokevirtual 37, 93, 0), (52, .return_, 0, 0)], 4, 3, false, none, [], 6)
def am_n89 : amN := (yX7_keep, cX7_keep, [])
def am_h89 : List (List Nat) := [[], [], [199], [262], [], [], [207], [263], [], [], [], [], [264], [], [], [], [264], [], [], [], [695, 638, 639, 124, 640], [], [], [], [], [265], [], [696, 697, 698, 125, 699], []]
def am_g89 : List (Nat × Nat) := []
def am_m90 : amM := ([(0, .aload_n 1, 0, 0), (1, .aload_n 0, 0, 0), (2, .getfield 28, 6, 0), (5, .invokevirtual 41, 1, 0), (8, .iconst 0, 0, 0), (9, .istore_n 3, 0, 0), (10, .iload_n 3, 0, 0), (11, .aload_n 0, 0, 0), (12, .getfield 32, 6, 1), (15, .if_icmp .ge 28, 43, 0), (18, .iload_n 3, 0, 0), (19, .aload_n 0, 0, 0),
  (20, .getfield 9, 6, 2), (23, .arraylength, 0, 0), (24, .if_icmp .ge 19, 43, 0), (27, .aload_n 1, 0, 0), (28, .aload_n 0, 0, 0), (29, .getfield 9, 6, 2), (32, .iload_n 3, 0, 0), (33, .iaload, 0, 0), (34, .invokevirtual 45, 14, 0), (37, .iinc 3 1, 0, 0), (40, .goto (-30), 10, 0), (43, .aload_n 2, 0, 0),
  (44, .aload_n 0, 0, 0), (45, .getfield 18, 6, 3), (48, .invokevirtual 37, 93, 0), (51, .return_, 0, 0)], 4, 3, false, none, [], 6)
def am_n90 : amN := (yX7_giveBack, cX7_giveBack, [])
def am_h90 : List (List Nat) := [[], [], [262], [960, 389, 390, 124, 391], [], [], [], [], [263], [], [], [], [264], [], [], [], [], [264], [], [], [961, 587, 588, 124, 589], [], [], [], [], [265], [696, 697, 698, 125, 699], []]
def am_g90 : List (Nat × Nat) := []
def am_m91 : amM := ([(0, .aload_n 0, 0, 0), (1, .invokespecial 1, 0, 5), (4, .return_, 0, 0)], 1, 1, true, none, [], 7)
def am_n91 : amN := (yX8_init, cX8_init, [])
def am_h91 : List (List Nat) := [[], [233, 156, 157], []]
def am_g91 : List (Nat × Nat) := []
def am_m92 : amM := ([(0, .aload_n 0, 0, 0), (1, .iconst 0, 0, 0), (2, .putfield 7, 7, 0), (5, .aload_n 0, 0, 0), (6, .iconst 0, 0, 0), (7, .putfield 13, 7, 1), (10, .aload_n 0, 0, 0), (11, .iconst 0, 0, 0), (12, .putfield 16, 7, 2), (15, .return_, 0, 0)], 1, 1, false, none, [], 7)
def am_n92 : amN := (yX8_reset, cX8_reset, [])
def am_h92 : List (List Nat) := [[], [], [234], [], [], [236], [], [], [238], []]
def am_g92 : List (Nat × Nat) := []
def am_m93 : amM := ([(0, .aload_n 0, 0, 0), (1, .aload_n 1, 0, 0), (2, .getfield 7, 7, 0), (5, .putfield 7, 7, 0), (8, .aload_n 0, 0, 0), (9, .aload_n 1, 0, 0), (10, .getfield 13, 7, 1), (13, .putfield 13, 7, 1), (16, .aload_n 0, 0, 0), (17, .aload_n 1, 0, 0), (18, .getfield 16, 7, 2), (21, .putfield 16, 7, 2),
  (24, .return_, 0, 0)], 2, 2, false, none, [], 7)
def am_n93 : amN := (yX8_copy, cX8_copy, [])
def am_h93 : List (List Nat) := [[], [], [234], [234], [], [], [236], [236], [], [], [238], [238], []]
def am_g93 : List (Nat × Nat) := []
def am_m94 : amM := ([(0, .aload_n 0, 0, 0), (1, .invokespecial 3, 0, 5), (4, .aload_n 0, 0, 0), (5, .sipush 315, 0, 0), (8, .newarray .long, 0, 0), (10, .putfield 9, 8, 1), (13, .return_, 0, 0)], 1, 1, true, none, [], 8)
def am_n94 : amN := (yX9_init, cX9_init, [])
def am_h94 : List (List Nat) := [[], [339, 156, 157], [], [], [306], [342], []]
def am_g94 : List (Nat × Nat) := []
def am_m95 : amM := ([(0, .aload_n 0, 0, 0), (1, .iconst 0, 0, 0), (2, .putfield 15, 8, 0), (5, .iconst 0, 0, 0), (6, .istore 4, 0, 0), (8, .iload 4, 0, 0), (10, .aload_n 1, 0, 0), (11, .getfield 19, 0, 0), (14, .if_icmp .ge 45, 59, 0), (17, .iload 4, 0, 0), (19, .iconst 1, 0, 0), (20, .iadd, 0, 0),
  (21, .istore 5, 0, 0), (23, .iload 5, 0, 0), (25, .aload_n 1, 0, 0), (26, .getfield 19, 0, 0), (29, .if_icmp .ge 24, 53, 0), (32, .aload_n 2, 0, 0), (33, .aload_n 1, 0, 0), (34, .iload 4, 0, 0), (36, .iload 5, 0, 0), (38, .invokevirtual 24, 36, 0), (41, .aload_n 0, 0, 0), (42, .aload_n 2, 0, 0),
  (43, .iload_n 3, 0, 0), (44, .invokevirtual 30, 96, 0), (47, .iinc 5 1, 0, 0), (50, .goto (-27), 23, 0), (53, .iinc 4 1, 0, 0), (56, .goto (-48), 8, 0), (59, .return_, 0, 0)], 6, 4, false, none, [], 8)
def am_n95 : amN := (yX9_gather, cX9_gather, [])
def am_h95 : List (List Nat) := [[], [], [340], [], [], [], [], [201], [], [], [], [], [], [], [], [201], [], [], [], [], [], [828, 790, 791, 129, 792], [], [], [], [829, 831, 21, 130, 832], [], [], [], [], []]
def am_g95 : List (Nat × Nat) := []
def am_m96 : amM := ([(0, .iconst 0, 0, 0), (1, .istore_n 3, 0, 0), (2, .iload_n 3, 0, 0), (3, .aload_n 1, 0, 0), (4, .getfield 34, 1, 0), (7, .if_icmp .ge 27, 34, 0), (10, .aload_n 1, 0, 0), (11, .iload_n 3, 0, 0), (12, .invokevirtual 35, 40, 0), (15, .iload_n 2, 0, 0), (16, .if_icmp .ne 12, 28, 0), (19, .aload_n 0, 0, 0),
  (20, .aload_n 1, 0, 0), (21, .iload_n 3, 0, 0), (22, .invokevirtual 39, 43, 0), (25, .invokevirtual 43, 97, 0), (28, .iinc 3 1, 0, 0), (31, .goto (-29), 2, 0), (34, .return_, 0, 0)], 4, 3, false, none, [], 8)
def am_n96 : amN := (yX9_gatherAmong, cX9_gatherAmong, [])
def am_h96 : List (List Nat) := [[], [], [], [], [314], [], [], [], [833, 817, 818, 129, 819], [], [], [], [], [], [834, 835, 836, 129, 837], [838, 840, 22, 130, 841], [], [], []]
def am_g96 : List (Nat × Nat) := []
def am_m97 : amM := ([(0, .iconst 0, 0, 0), (1, .istore_n 3, 0, 0), (2, .iload_n 3, 0, 0), (3, .aload_n 0, 0, 0), (4, .getfield 15, 8, 0), (7, .if_icmp .ge 19, 26, 0), (10, .aload_n 0, 0, 0), (11, .iload_n 3, 0, 0), (12, .invokevirtual 47, 98, 0), (15, .lload_n 1, 0, 0), (16, .lcmp, 0, 0), (17, .ifCond .ge 9, 26, 0),
  (20, .iinc 3 1, 0, 0), (23, .goto (-21), 2, 0), (26, .aload_n 0, 0, 0), (27, .getfield 15, 8, 0), (30, .aload_n 0, 0, 0), (31, .getfield 9, 8, 1), (34, .arraylength, 0, 0), (35, .if_icmp .ge 21, 56, 0), (38, .iload_n 3, 0, 0), (39, .aload_n 0, 0, 0), (40, .getfield 15, 8, 0), (43, .if_icmp .ge 14, 57, 0),
  (46, .aload_n 0, 0, 0), (47, .iload_n 3, 0, 0), (48, .invokevirtual 47, 98, 0), (51, .lload_n 1, 0, 0), (52, .lcmp, 0, 0), (53, .ifCond .ne 4, 57, 0), (56, .return_, 0, 0), (57, .aload_n 0, 0, 0), (58, .getfield 15, 8, 0), (61, .istore 4, 0, 0), (63, .iload 4, 0, 0), (65, .iload_n 3, 0, 0),
  (66, .if_icmp .le 25, 91, 0), (69, .aload_n 0, 0, 0), (70, .getfield 9, 8, 1), (73, .iload 4, 0, 0), (75, .aload_n 0, 0, 0), (76, .getfield 9, 8, 1), (79, .iload 4, 0, 0), (81, .iconst 1, 0, 0), (82, .isub, 0, 0), (83, .laload, 0, 0), (84, .lastore, 0, 0), (85, .iinc 4 (-1), 0, 0),
  (88, .goto (-25), 63, 0), (91, .aload_n 0, 0, 0), (92, .getfield 9, 8, 1), (95, .iload_n 3, 0, 0), (96, .lload_n 1, 0, 0), (97, .lastore, 0, 0), (98, .aload_n 0, 0, 0), (99, .dup, 0, 0), (100, .getfield 15, 8, 0), (103, .iconst 1, 0, 0), (104, .iadd, 0, 0), (105, .putfield 15, 8, 0),
  (108, .return_, 0, 0)], 5, 2, false, none, [], 8)
def am_n97 : amN := (yX9_insert, cX9_insert, [])
def am_h97 : List (List Nat) := [[], [], [], [], [340], [], [], [], [842, 843, 844, 130, 845], [], [], [], [], [], [], [340], [], [342], [], [], [], [], [340], [], [], [], [842, 843, 844, 130, 845], [], [], [], [], [], [340], [], [], [], [], [], [342], [], [], [342], [], [], [], [], [], [], [], [], [342], [], [], [], [], [], [340], [], [], [340], []]
def am_g97 : List (Nat × Nat) := []
def am_m98 : amM := ([(0, .iload_n 1, 0, 0), (1, .ifCond .lt 20, 21, 0), (4, .iload_n 1, 0, 0), (5, .aload_n 0, 0, 0), (6, .getfield 15, 8, 0), (9, .if_icmp .ge 12, 21, 0), (12, .aload_n 0, 0, 0), (13, .getfield 9, 8, 1), (16, .iload_n 1, 0, 0), (17, .laload, 0, 0), (18, .goto 4, 22, 0), (21, .lconst 0, 0, 0),
  (22, .lreturn, 0, 0)], 2, 2, false, (some .long), [], 8)
def am_n98 : amN := (yX9_maskAt, cX9_maskAt, [])
def am_h98 : List (List Nat) := [[], [], [], [], [340], [], [], [342], [], [], [], [], []]
def am_g98 : List (Nat × Nat) := []
def am_m99 : amM := ([(0, .aload_n 0, 0, 0), (1, .invokespecial 3, 0, 5), (4, .aload_n 0, 0, 0), (5, .sipush 455, 0, 0), (8, .newarray .int, 0, 0), (10, .putfield 9, 9, 1), (13, .aload_n 0, 0, 0), (14, .sipush 455, 0, 0), (17, .newarray .int, 0, 0), (19, .putfield 15, 9, 2), (22, .aload_n 0, 0, 0), (23, .sipush 455, 0, 0),
  (26, .newarray .int, 0, 0), (28, .putfield 18, 9, 3), (31, .return_, 0, 0)], 1, 1, true, none, [], 9)
def am_n99 : amN := (yX10_init, cX10_init, [])
def am_h99 : List (List Nat) := [[], [353, 156, 157], [], [], [227], [355], [], [], [227], [356], [], [], [227], [357], []]
def am_g99 : List (Nat × Nat) := []
def am_m100 : amM := ([(0, .aload_n 0, 0, 0), (1, .iconst 0, 0, 0), (2, .putfield 21, 9, 0), (5, .iconst 0, 0, 0), (6, .istore_n 2, 0, 0), (7, .iload_n 2, 0, 0), (8, .sipush 455, 0, 0), (11, .if_icmp .ge 23, 34, 0), (14, .aload_n 0, 0, 0), (15, .getfield 15, 9, 2), (18, .iload_n 2, 0, 0), (19, .iconst 0, 0, 0),
  (20, .iastore, 0, 0), (21, .aload_n 0, 0, 0), (22, .getfield 18, 9, 3), (25, .iload_n 2, 0, 0), (26, .iconst 0, 0, 0), (27, .iastore, 0, 0), (28, .iinc 2 1, 0, 0), (31, .goto (-24), 7, 0), (34, .iconst 2, 0, 0), (35, .istore_n 2, 0, 0), (36, .iload_n 2, 0, 0), (37, .aload_n 1, 0, 0),
  (38, .getfield 25, 0, 0), (41, .if_icmp .ge 55, 96, 0), (44, .iconst 1, 0, 0), (45, .istore_n 3, 0, 0), (46, .iload_n 3, 0, 0), (47, .iload_n 2, 0, 0), (48, .if_icmp .ge 42, 90, 0), (51, .iconst 0, 0, 0), (52, .istore 4, 0, 0), (54, .iload 4, 0, 0), (56, .iload_n 3, 0, 0), (57, .if_icmp .ge 27, 84, 0),
  (60, .aload_n 0, 0, 0), (61, .aload_n 1, 0, 0), (62, .iload 4, 0, 0), (64, .iload_n 3, 0, 0), (65, .iload_n 2, 0, 0), (66, .invokestatic 30, 68, 0), (69, .invokevirtual 36, 28, 0), (72, .invokestatic 40, 102, 0), (75, .invokevirtual 43, 101, 0), (78, .iinc 4 1, 0, 0), (81, .goto (-27), 54, 0), (84, .iinc 3 1, 0, 0),
  (87, .goto (-41), 46, 0), (90, .iinc 2 1, 0, 0), (93, .goto (-57), 36, 0), (96, .return_, 0, 0)], 5, 2, false, none, [], 9)
def am_n100 : amN := (yX10_gather, cX10_gather, [])
def am_h100 : List (List Nat) := [[], [], [354], [], [], [], [], [], [], [356], [], [], [], [], [357], [], [], [], [], [], [], [], [], [], [202], [], [], [], [], [], [], [], [], [], [], [], [], [], [], [], [], [1360, 627, 139, 628], [1361, 1342, 1343, 124, 1344], [1362, 1363, 131, 1364], [1366, 1368, 35, 131, 1369], [], [], [], [], [], [], []]
def am_g100 : List (Nat × Nat) := []
def am_m101 : amM := ([(0, .aload_n 0, 0, 0), (1, .getfield 21, 9, 0), (4, .aload_n 0, 0, 0), (5, .getfield 9, 9, 1), (8, .arraylength, 0, 0), (9, .if_icmp .ge 46, 55, 0), (12, .iload_n 1, 0, 0), (13, .ifCond .lt 42, 55, 0), (16, .iload_n 1, 0, 0), (17, .aload_n 0, 0, 0), (18, .getfield 15, 9, 2), (21, .arraylength, 0, 0),
  (22, .if_icmp .ge 33, 55, 0), (25, .aload_n 0, 0, 0), (26, .getfield 9, 9, 1), (29, .aload_n 0, 0, 0), (30, .getfield 21, 9, 0), (33, .iload_n 1, 0, 0), (34, .iastore, 0, 0), (35, .aload_n 0, 0, 0), (36, .getfield 15, 9, 2), (39, .iload_n 1, 0, 0), (40, .dup2, 0, 0), (41, .iaload, 0, 0),
  (42, .iconst 1, 0, 0), (43, .iadd, 0, 0), (44, .iastore, 0, 0), (45, .aload_n 0, 0, 0), (46, .dup, 0, 0), (47, .getfield 21, 9, 0), (50, .iconst 1, 0, 0), (51, .iadd, 0, 0), (52, .putfield 21, 9, 0), (55, .return_, 0, 0)], 2, 2, false, none, [], 9)
def am_n101 : amN := (yX10_lead, cX10_lead, [])
def am_h101 : List (List Nat) := [[], [354], [], [355], [], [], [], [], [], [], [356], [], [], [], [355], [], [354], [], [], [], [356], [], [], [], [], [], [], [], [], [354], [], [], [354], []]
def am_g101 : List (Nat × Nat) := []
def am_m102 : amM := ([(0, .iload_n 0, 0, 0), (1, .iconst 0, 0, 0), (2, .invokestatic 47, 70, 0), (5, .istore_n 1, 0, 0), (6, .iload_n 0, 0, 0), (7, .iconst 1, 0, 0), (8, .invokestatic 47, 70, 0), (11, .istore_n 2, 0, 0), (12, .iload_n 0, 0, 0), (13, .iconst 2, 0, 0), (14, .invokestatic 47, 70, 0), (17, .istore_n 3, 0, 0),
  (18, .iload_n 3, 0, 0), (19, .iload_n 3, 0, 0), (20, .iconst 1, 0, 0), (21, .isub, 0, 0), (22, .imul, 0, 0), (23, .iload_n 3, 0, 0), (24, .iconst 2, 0, 0), (25, .isub, 0, 0), (26, .imul, 0, 0), (27, .bipush 6, 0, 0), (29, .idiv, 0, 0), (30, .iload_n 2, 0, 0),
  (31, .iload_n 2, 0, 0), (32, .iconst 1, 0, 0), (33, .isub, 0, 0), (34, .imul, 0, 0), (35, .iconst 2, 0, 0), (36, .idiv, 0, 0), (37, .iadd, 0, 0), (38, .iload_n 1, 0, 0), (39, .iadd, 0, 0), (40, .ireturn, 0, 0)], 4, 1, false, (some .int), [], 9)
def am_n102 : amN := (yX10_rankOf, cX10_rankOf, [])
def am_h102 : List (List Nat) := [[], [], [1365, 565, 139, 566], [], [], [], [1365, 565, 139, 566], [], [], [], [1365, 565, 139, 566], [], [], [], [], [], [], [], [], [], [], [], [], [], [], [], [], [], [], [], [], [], [], []]
def am_g102 : List (Nat × Nat) := []
def am_m103 : amM := ([(0, .iload_n 1, 0, 0), (1, .ifCond .lt 20, 21, 0), (4, .iload_n 1, 0, 0), (5, .aload_n 0, 0, 0), (6, .getfield 21, 9, 0), (9, .if_icmp .ge 12, 21, 0), (12, .aload_n 0, 0, 0), (13, .getfield 15, 9, 2), (16, .iload_n 1, 0, 0), (17, .iaload, 0, 0), (18, .goto 4, 22, 0), (21, .iconst 0, 0, 0),
  (22, .ireturn, 0, 0)], 2, 2, false, (some .int), [], 9)
def am_n103 : amN := (yX10_arrivalsAt, cX10_arrivalsAt, [])
def am_h103 : List (List Nat) := [[], [], [], [], [354], [], [], [356], [], [], [], [], []]
def am_g103 : List (Nat × Nat) := []
def am_m104 : amM := ([(0, .iload_n 1, 0, 0), (1, .ifCond .lt 20, 21, 0), (4, .iload_n 1, 0, 0), (5, .aload_n 0, 0, 0), (6, .getfield 21, 9, 0), (9, .if_icmp .ge 12, 21, 0), (12, .aload_n 0, 0, 0), (13, .getfield 9, 9, 1), (16, .iload_n 1, 0, 0), (17, .iaload, 0, 0), (18, .goto 4, 22, 0), (21, .iconst 0, 0, 0),
  (22, .ireturn, 0, 0)], 2, 2, false, (some .int), [], 9)
def am_n104 : amN := (yX10_nextOf, cX10_nextOf, [])
def am_h104 : List (List Nat) := [[], [], [], [], [354], [], [], [355], [], [], [], [], []]
def am_g104 : List (Nat × Nat) := []
def am_m105 : amM := ([(0, .iload_n 1, 0, 0), (1, .ifCond .lt 20, 21, 0), (4, .iload_n 1, 0, 0), (5, .aload_n 0, 0, 0), (6, .getfield 21, 9, 0), (9, .if_icmp .ge 12, 21, 0), (12, .aload_n 0, 0, 0), (13, .getfield 18, 9, 3), (16, .iload_n 1, 0, 0), (17, .iaload, 0, 0), (18, .goto 4, 22, 0), (21, .iconst 0, 0, 0),
  (22, .ireturn, 0, 0)], 2, 2, false, (some .int), [], 9)
def am_n105 : amN := (yX10_markOf, cX10_markOf, [])
def am_h105 : List (List Nat) := [[], [], [], [], [354], [], [], [357], [], [], [], [], []]
def am_g105 : List (Nat × Nat) := []
def am_m106 : amM := ([(0, .iload_n 1, 0, 0), (1, .ifCond .lt 18, 19, 0), (4, .iload_n 1, 0, 0), (5, .aload_n 0, 0, 0), (6, .getfield 21, 9, 0), (9, .if_icmp .ge 10, 19, 0), (12, .aload_n 0, 0, 0), (13, .getfield 18, 9, 3), (16, .iload_n 1, 0, 0), (17, .iload_n 2, 0, 0), (18, .iastore, 0, 0), (19, .return_, 0, 0)], 3, 3, false, none, [], 9)
def am_n106 : amN := (yX10_mark, cX10_mark, [])
def am_h106 : List (List Nat) := [[], [], [], [], [354], [], [], [357], [], [], [], []]
def am_g106 : List (Nat × Nat) := []
def am_m107 : amM := ([(0, .iload_n 1, 0, 0), (1, .istore_n 2, 0, 0), (2, .iconst 0, 0, 0), (3, .istore_n 3, 0, 0), (4, .iload_n 3, 0, 0), (5, .aload_n 0, 0, 0), (6, .getfield 21, 9, 0), (9, .if_icmp .ge 15, 24, 0), (12, .aload_n 0, 0, 0), (13, .iload_n 2, 0, 0), (14, .invokevirtual 51, 104, 0), (17, .istore_n 2, 0, 0),
  (18, .iinc 3 1, 0, 0), (21, .goto (-17), 4, 0), (24, .iconst 0, 0, 0), (25, .istore_n 3, 0, 0), (26, .iload_n 3, 0, 0), (27, .aload_n 0, 0, 0), (28, .getfield 21, 9, 0), (31, .if_icmp .ge 29, 60, 0), (34, .aload_n 0, 0, 0), (35, .iload_n 2, 0, 0), (36, .invokevirtual 54, 105, 0), (39, .ifCond .ne 21, 60, 0),
  (42, .aload_n 0, 0, 0), (43, .iload_n 2, 0, 0), (44, .iconst 1, 0, 0), (45, .invokevirtual 57, 106, 0), (48, .aload_n 0, 0, 0), (49, .iload_n 2, 0, 0), (50, .invokevirtual 51, 104, 0), (53, .istore_n 2, 0, 0), (54, .iinc 3 1, 0, 0), (57, .goto (-31), 26, 0), (60, .iload_n 3, 0, 0), (61, .ireturn, 0, 0)], 4, 2, false, (some .int), [], 9)
def am_n107 : amN := (yX10_roundFrom, cX10_roundFrom, [])
def am_h107 : List (List Nat) := [[], [], [], [], [], [], [354], [], [], [], [1390, 1392, 36, 131, 1393], [], [], [], [], [], [], [], [354], [], [], [], [1394, 1396, 37, 131, 1397], [], [], [], [], [1398, 1400, 38, 131, 1401], [], [], [1390, 1392, 36, 131, 1393], [], [], [], [], []]
def am_g107 : List (Nat × Nat) := []
def am_m108 : amM := ([(0, .aload_n 0, 0, 0), (1, .iload_n 1, 0, 0), (2, .invokevirtual 61, 107, 0), (5, .pop, 0, 0), (6, .iload_n 1, 0, 0), (7, .istore_n 2, 0, 0), (8, .iconst 0, 0, 0), (9, .istore_n 3, 0, 0), (10, .iload_n 3, 0, 0), (11, .aload_n 0, 0, 0), (12, .getfield 21, 9, 0), (15, .if_icmp .ge 23, 38, 0),
  (18, .aload_n 0, 0, 0), (19, .iload_n 2, 0, 0), (20, .invokevirtual 54, 105, 0), (23, .ifCond .ne 15, 38, 0), (26, .aload_n 0, 0, 0), (27, .iload_n 2, 0, 0), (28, .invokevirtual 51, 104, 0), (31, .istore_n 2, 0, 0), (32, .iinc 3 1, 0, 0), (35, .goto (-25), 10, 0), (38, .iload_n 3, 0, 0), (39, .ireturn, 0, 0)], 4, 2, false, (some .int), [], 9)
def am_n108 : amN := (yX10_tailFrom, cX10_tailFrom, [])
def am_h108 : List (List Nat) := [[], [], [1386, 1387, 1388, 131, 1389], [], [], [], [], [], [], [], [354], [], [], [], [1394, 1396, 37, 131, 1397], [], [], [], [1390, 1392, 36, 131, 1393], [], [], [], [], []]
def am_g108 : List (Nat × Nat) := []
def am_m109 : amM := ([(0, .iconst 0, 0, 0), (1, .istore_n 2, 0, 0), (2, .iconst 0, 0, 0), (3, .istore_n 3, 0, 0), (4, .iload_n 3, 0, 0), (5, .aload_n 0, 0, 0), (6, .getfield 21, 9, 0), (9, .if_icmp .ge 21, 30, 0), (12, .aload_n 0, 0, 0), (13, .iload_n 3, 0, 0), (14, .invokevirtual 64, 103, 0), (17, .iload_n 1, 0, 0),
  (18, .if_icmp .ne 6, 24, 0), (21, .iinc 2 1, 0, 0), (24, .iinc 3 1, 0, 0), (27, .goto (-23), 4, 0), (30, .iload_n 2, 0, 0), (31, .ireturn, 0, 0)], 4, 2, false, (some .int), [], 9)
def am_n109 : amN := (yX10_setsWithArrivals, cX10_setsWithArrivals, [])
def am_h109 : List (List Nat) := [[], [], [], [], [], [], [354], [], [], [], [1421, 1372, 1373, 131, 1374], [], [], [], [], [], [], []]
def am_g109 : List (Nat × Nat) := []
def am_m110 : amM := ([(0, .iconst 0, 0, 0), (1, .istore_n 1, 0, 0), (2, .iconst 0, 0, 0), (3, .istore_n 2, 0, 0), (4, .iload_n 2, 0, 0), (5, .aload_n 0, 0, 0), (6, .getfield 21, 9, 0), (9, .if_icmp .ge 23, 32, 0), (12, .aload_n 0, 0, 0), (13, .iload_n 2, 0, 0), (14, .iload_n 2, 0, 0), (15, .iconst 1, 0, 0),
  (16, .iadd, 0, 0), (17, .invokevirtual 67, 111, 0), (20, .ifCond .eq 6, 26, 0), (23, .iinc 1 1, 0, 0), (26, .iinc 2 1, 0, 0), (29, .goto (-25), 4, 0), (32, .iload_n 1, 0, 0), (33, .ireturn, 0, 0)], 3, 1, false, (some .int), [], 9)
def am_n110 : amN := (yX10_countRounds, cX10_countRounds, [])
def am_h110 : List (List Nat) := [[], [], [], [], [], [], [354], [], [], [], [], [], [], [1433, 1435, 39, 131, 1436], [], [], [], [], [], []]
def am_g110 : List (Nat × Nat) := []
def am_m111 : amM := ([(0, .iload_n 1, 0, 0), (1, .istore_n 3, 0, 0), (2, .iconst 0, 0, 0), (3, .istore 4, 0, 0), (5, .iload 4, 0, 0), (7, .aload_n 0, 0, 0), (8, .getfield 21, 9, 0), (11, .if_icmp .ge 29, 40, 0), (14, .aload_n 0, 0, 0), (15, .iload_n 3, 0, 0), (16, .invokevirtual 54, 105, 0), (19, .ifCond .ne 21, 40, 0),
  (22, .aload_n 0, 0, 0), (23, .iload_n 3, 0, 0), (24, .iload_n 2, 0, 0), (25, .invokevirtual 57, 106, 0), (28, .aload_n 0, 0, 0), (29, .iload_n 3, 0, 0), (30, .invokevirtual 51, 104, 0), (33, .istore_n 3, 0, 0), (34, .iinc 4 1, 0, 0), (37, .goto (-32), 5, 0), (40, .iload 4, 0, 0), (42, .ifCond .le 16, 58, 0),
  (45, .aload_n 0, 0, 0), (46, .iload_n 3, 0, 0), (47, .invokevirtual 54, 105, 0), (50, .iload_n 2, 0, 0), (51, .if_icmp .ne 7, 58, 0), (54, .iconst 1, 0, 0), (55, .goto 4, 59, 0), (58, .iconst 0, 0, 0), (59, .ireturn, 0, 0)], 5, 3, false, (some .boolean), [], 9)
def am_n111 : amN := (yX10_endsOnItself, cX10_endsOnItself, [])
def am_h111 : List (List Nat) := [[], [], [], [], [], [], [354], [], [], [], [1394, 1396, 37, 131, 1397], [], [], [], [], [1398, 1400, 38, 131, 1401], [], [], [1390, 1392, 36, 131, 1393], [], [], [], [], [], [], [], [1394, 1396, 37, 131, 1397], [], [], [], [], [], []]
def am_g111 : List (Nat × Nat) := []
def am_m112 : amM := ([(0, .aload_n 0, 0, 0), (1, .invokespecial 1, 0, 5), (4, .aload_n 0, 0, 0), (5, .new 7, 5, 0), (8, .dup, 0, 0), (9, .invokespecial 9, 74, 3), (12, .putfield 10, 10, 0), (15, .aload_n 0, 0, 0), (16, .new 16, 0, 0), (19, .dup, 0, 0), (20, .invokespecial 18, 0, 3), (23, .putfield 19, 10, 1),
  (26, .aload_n 0, 0, 0), (27, .new 16, 0, 0), (30, .dup, 0, 0), (31, .invokespecial 18, 0, 3), (34, .putfield 23, 10, 2), (37, .aload_n 0, 0, 0), (38, .new 26, 7, 0), (41, .dup, 0, 0), (42, .invokespecial 28, 91, 3), (45, .putfield 29, 10, 3), (48, .aload_n 0, 0, 0), (49, .new 33, 3, 0),
  (52, .dup, 0, 0), (53, .invokespecial 35, 49, 2), (56, .putfield 36, 10, 4), (59, .aload_n 0, 0, 0), (60, .new 40, 4, 0), (63, .dup, 0, 0), (64, .invokespecial 42, 56, 3), (67, .putfield 43, 10, 5), (70, .aload_n 0, 0, 0), (71, .new 47, 1, 0), (74, .dup, 0, 0), (75, .invokespecial 49, 35, 3),
  (78, .putfield 50, 10, 6), (81, .aload_n 0, 0, 0), (82, .new 54, 8, 0), (85, .dup, 0, 0), (86, .invokespecial 56, 94, 3), (89, .putfield 57, 10, 7), (92, .aload_n 0, 0, 0), (93, .new 61, 9, 0), (96, .dup, 0, 0), (97, .invokespecial 63, 99, 3), (100, .putfield 64, 10, 8), (103, .aload_n 0, 0, 0),
  (104, .new 68, 2, 0), (107, .dup, 0, 0), (108, .invokespecial 70, 45, 3), (111, .putfield 71, 10, 9), (114, .aload_n 0, 0, 0), (115, .bipush 27, 0, 0), (117, .newarray .byte, 0, 0), (119, .putfield 75, 10, 10), (122, .aload_n 0, 0, 0), (123, .getfield 19, 10, 1), (126, .iconst 3, 0, 0), (127, .invokevirtual 79, 1, 0),
  (130, .return_, 0, 0)], 1, 1, true, none, [], 10)
def am_n112 : amN := (yX11_init, cX11_init, [])
def am_h112 : List (List Nat) := [[], [155, 156, 157], [], [158, 159, 123], [], [160, 161, 123, 162], [402], [], [193, 194, 124], [], [195, 196, 124, 197], [403], [], [193, 194, 124], [], [195, 196, 124, 197], [404], [], [228, 229, 125], [], [230, 231, 125, 232], [405], [], [247, 248, 126], [], [249, 250, 126, 251], [406], [], [289, 290, 128], [], [291, 292, 128, 293], [407], [], [307, 308, 129], [], [309, 310, 129, 311], [408], [], [334, 335, 130], [], [336, 337, 130, 338], [409], [], [348, 349, 131], [], [350, 351, 131, 352], [410], [], [367, 368, 132], [], [369, 370, 132, 371], [411], [], [], [192], [412], [], [403], [], [388, 389, 390, 124, 391], []]
def am_g112 : List (Nat × Nat) := []
def am_m113 : amM := ([(0, .aload_n 0, 0, 0), (1, .getfield 10, 10, 0), (4, .invokevirtual 83, 75, 0), (7, .ifCond .ne 5, 12, 0), (10, .iconst (-1), 0, 0), (11, .ireturn, 0, 0), (12, .aload_n 0, 0, 0), (13, .getfield 10, 10, 0), (16, .iload_n 1, 0, 0), (17, .invokevirtual 87, 76, 0), (20, .aload_n 0, 0, 0), (21, .getfield 10, 10, 0),
  (24, .iload_n 2, 0, 0), (25, .invokevirtual 87, 76, 0), (28, .aload_n 0, 0, 0), (29, .getfield 10, 10, 0), (32, .iload_n 3, 0, 0), (33, .invokevirtual 87, 76, 0), (36, .aload_n 0, 0, 0), (37, .getfield 10, 10, 0), (40, .iload 4, 0, 0), (42, .invokevirtual 87, 76, 0), (45, .aload_n 0, 0, 0), (46, .getfield 10, 10, 0),
  (49, .iload 5, 0, 0), (51, .invokevirtual 87, 76, 0), (54, .aload_n 0, 0, 0), (55, .getfield 10, 10, 0), (58, .getfield 90, 5, 0), (61, .ireturn, 0, 0)], 6, 6, false, (some .int), [], 10)
def am_n113 : amN := (yX11_appendInput, cX11_appendInput, [])
def am_h113 : List (List Nat) := [[], [402], [443, 444, 445, 123, 446], [], [], [], [], [402], [], [447, 448, 449, 123, 450], [], [402], [], [447, 448, 449, 123, 450], [], [402], [], [447, 448, 449, 123, 450], [], [402], [], [447, 448, 449, 123, 450], [], [402], [], [447, 448, 449, 123, 450], [], [402], [165], []]
def am_g113 : List (Nat × Nat) := []
def am_m114 : amM := ([(0, .iload_n 1, 0, 0), (1, .ifCond .lt 14, 15, 0), (4, .iload_n 1, 0, 0), (5, .aload_n 0, 0, 0), (6, .getfield 10, 10, 0), (9, .getfield 90, 5, 0), (12, .if_icmp .le 5, 17, 0), (15, .iconst 0, 0, 0), (16, .ireturn, 0, 0), (17, .aload_n 0, 0, 0), (18, .getfield 10, 10, 0), (21, .iload_n 1, 0, 0),
  (22, .putfield 90, 5, 0), (25, .iconst 1, 0, 0), (26, .ireturn, 0, 0)], 2, 2, false, (some .boolean), [], 10)
def am_n114 : amN := (yX11_truncateInput, cX11_truncateInput, [])
def am_h114 : List (List Nat) := [[], [], [], [], [402], [165], [], [], [], [], [402], [], [165], [], []]
def am_g114 : List (Nat × Nat) := []
def am_m115 : amM := ([(0, .aload_n 0, 0, 0), (1, .getfield 10, 10, 0), (4, .aload_n 0, 0, 0), (5, .getfield 23, 10, 2), (8, .invokevirtual 94, 77, 0), (11, .istore_n 1, 0, 0), (12, .aload_n 0, 0, 0), (13, .getfield 10, 10, 0), (16, .iconst 0, 0, 0), (17, .putfield 90, 5, 0), (20, .iload_n 1, 0, 0), (21, .ifCond .ne 5, 26, 0),
  (24, .iconst (-1), 0, 0), (25, .ireturn, 0, 0), (26, .aload_n 0, 0, 0), (27, .getfield 19, 10, 1), (30, .aload_n 0, 0, 0), (31, .getfield 23, 10, 2), (34, .invokevirtual 98, 2, 0), (37, .aload_n 0, 0, 0), (38, .getfield 29, 10, 3), (41, .invokevirtual 102, 92, 0), (44, .aload_n 0, 0, 0), (45, .getfield 36, 10, 4),
  (48, .invokevirtual 104, 55, 0), (51, .aload_n 0, 0, 0), (52, .iconst 0, 0, 0), (53, .putfield 107, 10, 11), (56, .aload_n 0, 0, 0), (57, .invokevirtual 110, 185, 0), (60, .aload_n 0, 0, 0), (61, .getfield 19, 10, 1), (64, .getfield 113, 0, 1), (67, .ireturn, 0, 0)], 2, 1, false, (some .int), [], 10)
def am_n115 : amN := (yX11_loadSystem, cX11_loadSystem, [])
def am_h115 : List (List Nat) := [[], [402], [], [404], [459, 460, 461, 123, 462], [], [], [402], [], [165], [], [], [], [], [], [403], [], [404], [595, 596, 597, 124, 598], [], [405], [602, 603, 604, 125, 605], [], [406], [606, 607, 608, 126, 609], [], [], [413], [], [610, 612, 9, 122, 613], [], [403], [209], []]
def am_g115 : List (Nat × Nat) := []
def am_m116 : amM := ([(0, .aload_n 0, 0, 0), (1, .getfield 10, 10, 0), (4, .getfield 116, 5, 1), (7, .ireturn, 0, 0)], 1, 1, false, (some .int), [], 10)
def am_n116 : amN := (yX11_errorCode, cX11_errorCode, [])
def am_h116 : List (List Nat) := [[], [402], [167], []]
def am_g116 : List (Nat × Nat) := []
def am_m117 : amM := ([(0, .aload_n 0, 0, 0), (1, .getfield 10, 10, 0), (4, .getfield 119, 5, 2), (7, .ireturn, 0, 0)], 1, 1, false, (some .int), [], 10)
def am_n117 : amN := (yX11_errorOffset, cX11_errorOffset, [])
def am_h117 : List (List Nat) := [[], [402], [169], []]
def am_g117 : List (Nat × Nat) := []
def am_m118 : amM := ([(0, .iload_n 1, 0, 0), (1, .tableswitch 111 0 7 #[47, 55, 63, 71, 79, 87, 95, 103], 0, 0), (48, .aload_n 0, 0, 0), (49, .getfield 19, 10, 1), (52, .getfield 122, 0, 0), (55, .ireturn, 0, 0), (56, .aload_n 0, 0, 0), (57, .getfield 19, 10, 1), (60, .getfield 113, 0, 1), (63, .ireturn, 0, 0), (64, .aload_n 0, 0, 0), (65, .getfield 19, 10, 1),
  (68, .invokevirtual 125, 23, 0), (71, .ireturn, 0, 0), (72, .aload_n 0, 0, 0), (73, .getfield 43, 10, 5), (76, .getfield 129, 4, 0), (79, .ireturn, 0, 0), (80, .aload_n 0, 0, 0), (81, .getfield 29, 10, 3), (84, .getfield 130, 7, 0), (87, .ireturn, 0, 0), (88, .aload_n 0, 0, 0), (89, .getfield 29, 10, 3),
  (92, .getfield 132, 7, 1), (95, .ireturn, 0, 0), (96, .aload_n 0, 0, 0), (97, .getfield 29, 10, 3), (100, .getfield 135, 7, 2), (103, .ireturn, 0, 0), (104, .aload_n 0, 0, 0), (105, .getfield 36, 10, 4), (108, .getfield 138, 3, 0), (111, .ireturn, 0, 0), (112, .new 141, 0, 7)], 2, 2, false, (some .int), [], 10)
def am_n118 : amN := (yX11_count, cX11_count, [])
def am_h118 : List (List Nat) := [[], [], [], [403], [204], [], [], [403], [209], [], [], [403], [670, 671, 672, 124, 673], [], [], [407], [296], [], [], [405], [235], [], [], [405], [237], [], [], [405], [239], [], [], [406], [276], [], [978, 145]]
def am_g118 : List (Nat × Nat) := []
def am_m119 : amM := ([(0, .aload_n 0, 0, 0), (1, .getfield 19, 10, 1), (4, .invokevirtual 125, 23, 0), (7, .ifCond .ne 7, 14, 0), (10, .iconst 1, 0, 0), (11, .goto 4, 15, 0), (14, .iconst 0, 0, 0), (15, .ireturn, 0, 0)], 1, 1, false, (some .boolean), [], 10)
def am_n119 : amN := (yX11_isComplete, cX11_isComplete, [])
def am_h119 : List (List Nat) := [[], [403], [670, 671, 672, 124, 673], [], [], [], [], []]
def am_g119 : List (Nat × Nat) := []
def am_m120 : amM := ([(0, .aload_n 0, 0, 0), (1, .iload_n 1, 0, 0), (2, .invokevirtual 148, 179, 0), (5, .iload_n 2, 0, 0), (6, .ifCond .lt 8, 14, 0), (9, .iload_n 2, 0, 0), (10, .iconst 2, 0, 0), (11, .if_icmp .le 13, 24, 0), (14, .new 141, 0, 11), (24, .aload_n 0, 0, 0), (25, .getfield 19, 10, 1), (28, .iload_n 1, 0, 0),
  (29, .invokevirtual 153, 9, 0), (32, .iload_n 2, 0, 0), (33, .invokestatic 157, 70, 0), (36, .ireturn, 0, 0)], 3, 3, false, (some .int), [], 10)
def am_n120 : amN := (yX11_triple, cX11_triple, [])
def am_h120 : List (List Nat) := [[], [], [1054, 1056, 25, 122, 1057], [], [], [], [], [], [978, 145], [], [403], [], [903, 638, 639, 124, 640], [], [1075, 565, 139, 566], []]
def am_g120 : List (Nat × Nat) := []
def am_m121 : amM := ([(0, .aload_n 0, 0, 0), (1, .iload_n 1, 0, 0), (2, .iload_n 2, 0, 0), (3, .iload_n 3, 0, 0), (4, .invokevirtual 163, 178, 0), (7, .aload_n 0, 0, 0), (8, .getfield 19, 10, 1), (11, .iload_n 1, 0, 0), (12, .iload_n 2, 0, 0), (13, .iload_n 3, 0, 0), (14, .invokestatic 167, 68, 0), (17, .invokevirtual 171, 11, 0),
  (20, .ireturn, 0, 0)], 4, 4, false, (some .int), [], 10)
def am_n121 : amN := (yX11_find, cX11_find, [])
def am_h121 : List (List Nat) := [[], [], [], [], [1083, 1085, 26, 122, 1086], [], [403], [], [], [], [718, 627, 139, 628], [1094, 643, 644, 124, 645], []]
def am_g121 : List (Nat × Nat) := []
def am_m122 : amM := ([(0, .aload_n 0, 0, 0), (1, .iload_n 1, 0, 0), (2, .iload_n 2, 0, 0), (3, .invokevirtual 174, 177, 0), (6, .aload_n 0, 0, 0), (7, .getfield 19, 10, 1), (10, .iload_n 1, 0, 0), (11, .iload_n 2, 0, 0), (12, .invokevirtual 178, 7, 0), (15, .ireturn, 0, 0)], 3, 3, false, (some .int), [], 10)
def am_n122 : amN := (yX11_third, cX11_third, [])
def am_h122 : List (List Nat) := [[], [], [], [1102, 1104, 28, 122, 1105], [], [403], [], [], [854, 619, 620, 124, 621], []]
def am_g122 : List (Nat × Nat) := []
def am_m123 : amM := ([(0, .aload_n 0, 0, 0), (1, .iload_n 1, 0, 0), (2, .invokevirtual 181, 176, 0), (5, .aload_n 0, 0, 0), (6, .getfield 19, 10, 1), (9, .iconst 1, 0, 0), (10, .iload_n 1, 0, 0), (11, .ishl, 0, 0), (12, .iconst 1, 0, 0), (13, .invokevirtual 184, 26, 0), (16, .ireturn, 0, 0)], 2, 2, false, (some .int), [], 10)
def am_n123 : amN := (yX11_degree, cX11_degree, [])
def am_h123 : List (List Nat) := [[], [], [1087, 1089, 27, 122, 1090], [], [403], [], [], [], [], [1113, 1114, 1115, 124, 1116], []]
def am_g123 : List (Nat × Nat) := []
def am_m124 : amM := ([(0, .iload_n 1, 0, 0), (1, .ifCond .ge 13, 14, 0), (4, .new 187, 1, 17), (14, .aload_n 0, 0, 0), (15, .getfield 19, 10, 1), (18, .iload_n 1, 0, 0), (19, .invokevirtual 192, 24, 0), (22, .ireturn, 0, 0)], 2, 2, false, (some .int), [], 10)
def am_n124 : amN := (yX11_uncovered, cX11_uncovered, [])
def am_h124 : List (List Nat) := [[], [], [1058, 146], [], [403], [], [1125, 1126, 1127, 124, 1128], []]
def am_g124 : List (Nat × Nat) := []
def am_m125 : amM := ([(0, .aload_n 0, 0, 0), (1, .iload_n 1, 0, 0), (2, .iload_n 2, 0, 0), (3, .iload_n 3, 0, 0), (4, .invokevirtual 163, 178, 0), (7, .iload_n 1, 0, 0), (8, .iload_n 2, 0, 0), (9, .iload_n 3, 0, 0), (10, .invokestatic 167, 68, 0), (13, .istore 4, 0, 0), (15, .aload_n 0, 0, 0), (16, .getfield 19, 10, 1),
  (19, .iload 4, 0, 0), (21, .invokevirtual 195, 12, 0), (24, .ifCond .eq 5, 29, 0), (27, .iconst 1, 0, 0), (28, .ireturn, 0, 0), (29, .aload_n 0, 0, 0), (30, .getfield 19, 10, 1), (33, .iload 4, 0, 0), (35, .iconst 2, 0, 0), (36, .invokevirtual 184, 26, 0), (39, .istore 5, 0, 0), (41, .iload 5, 0, 0),
  (43, .ifCond .ne 7, 50, 0), (46, .iconst 0, 0, 0), (47, .goto 7, 54, 0), (50, .iconst 1, 0, 0), (51, .iload 5, 0, 0), (53, .iadd, 0, 0), (54, .ireturn, 0, 0)], 6, 4, false, (some .int), [], 10)
def am_n125 : amN := (yX11_reason, cX11_reason, [])
def am_h125 : List (List Nat) := [[], [], [], [], [1083, 1085, 26, 122, 1086], [], [], [], [718, 627, 139, 628], [], [], [403], [], [905, 647, 648, 124, 649], [], [], [], [], [403], [], [], [1113, 1114, 1115, 124, 1116], [], [], [], [], [], [], [], [], []]
def am_g125 : List (Nat × Nat) := []
def am_m126 : amM := ([(0, .aload_n 0, 0, 0), (1, .iload_n 1, 0, 0), (2, .iload_n 2, 0, 0), (3, .iload_n 3, 0, 0), (4, .invokevirtual 163, 178, 0), (7, .iload_n 1, 0, 0), (8, .iload_n 2, 0, 0), (9, .iload_n 3, 0, 0), (10, .invokestatic 167, 68, 0), (13, .istore 4, 0, 0), (15, .aload_n 0, 0, 0), (16, .getfield 19, 10, 1),
  (19, .iload 4, 0, 0), (21, .invokevirtual 199, 13, 0), (24, .ifCond .ne 13, 37, 0), (27, .new 202, 2, 19), (37, .aload_n 0, 0, 0), (38, .invokevirtual 207, 184, 0), (41, .aload_n 0, 0, 0), (42, .getfield 19, 10, 1), (45, .iload 4, 0, 0), (47, .invokevirtual 210, 14, 0), (50, .aload_n 0, 0, 0), (51, .invokevirtual 110, 185, 0),
  (54, .aload_n 0, 0, 0), (55, .getfield 19, 10, 1), (58, .iload 4, 0, 0), (60, .invokevirtual 171, 11, 0), (63, .ireturn, 0, 0)], 5, 4, false, (some .int), [], 10)
def am_n126 : amN := (yX11_add, cX11_add, [])
def am_h126 : List (List Nat) := [[], [], [], [], [1083, 1085, 26, 122, 1086], [], [], [], [718, 627, 139, 628], [], [], [403], [], [1144, 561, 562, 124, 563], [], [1145, 147], [], [679, 681, 13, 122, 682], [], [403], [], [719, 587, 588, 124, 589], [], [610, 612, 9, 122, 613], [], [403], [], [1094, 643, 644, 124, 645], []]
def am_g126 : List (Nat × Nat) := []
def am_m127 : amM := ([(0, .aload_n 0, 0, 0), (1, .iload_n 1, 0, 0), (2, .invokevirtual 148, 179, 0), (5, .aload_n 0, 0, 0), (6, .invokevirtual 207, 184, 0), (9, .aload_n 0, 0, 0), (10, .getfield 19, 10, 1), (13, .aload_n 0, 0, 0), (14, .getfield 19, 10, 1), (17, .iload_n 1, 0, 0), (18, .invokevirtual 153, 9, 0), (21, .invokevirtual 213, 15, 0),
  (24, .aload_n 0, 0, 0), (25, .invokevirtual 110, 185, 0), (28, .aload_n 0, 0, 0), (29, .getfield 19, 10, 1), (32, .getfield 113, 0, 1), (35, .ireturn, 0, 0)], 2, 2, false, (some .int), [], 10)
def am_n127 : amN := (yX11_remove, cX11_remove, [])
def am_h127 : List (List Nat) := [[], [], [1054, 1056, 25, 122, 1057], [], [679, 681, 13, 122, 682], [], [403], [], [403], [], [903, 638, 639, 124, 640], [720, 721, 722, 124, 723], [], [610, 612, 9, 122, 613], [], [403], [209], []]
def am_g127 : List (Nat × Nat) := []
def am_m128 : amM := ([(0, .aload_n 0, 0, 0), (1, .iload_n 1, 0, 0), (2, .iload_n 2, 0, 0), (3, .iload_n 3, 0, 0), (4, .invokevirtual 163, 178, 0), (7, .aload_n 0, 0, 0), (8, .getfield 23, 10, 2), (11, .aload_n 0, 0, 0), (12, .getfield 19, 10, 1), (15, .invokevirtual 98, 2, 0), (18, .aload_n 0, 0, 0), (19, .getfield 23, 10, 2),
  (22, .iload_n 1, 0, 0), (23, .iload_n 2, 0, 0), (24, .iload_n 3, 0, 0), (25, .invokestatic 167, 68, 0), (28, .invokevirtual 216, 21, 0), (31, .istore 4, 0, 0), (33, .iload 4, 0, 0), (35, .iconst (-1), 0, 0), (36, .if_icmp .ne 13, 49, 0), (39, .new 202, 2, 21), (49, .aload_n 0, 0, 0), (50, .invokevirtual 207, 184, 0),
  (53, .aload_n 0, 0, 0), (54, .getfield 19, 10, 1), (57, .aload_n 0, 0, 0), (58, .getfield 23, 10, 2), (61, .invokevirtual 98, 2, 0), (64, .aload_n 0, 0, 0), (65, .invokevirtual 110, 185, 0), (68, .iload 4, 0, 0), (70, .ireturn, 0, 0)], 5, 4, false, (some .int), [], 10)
def am_n128 : amN := (yX11_develop, cX11_develop, [])
def am_h128 : List (List Nat) := [[], [], [], [], [1083, 1085, 26, 122, 1086], [], [404], [], [403], [595, 596, 597, 124, 598], [], [404], [], [], [], [718, 627, 139, 628], [1175, 579, 580, 124, 581], [], [], [], [], [1145, 147], [], [679, 681, 13, 122, 682], [], [403], [], [404], [595, 596, 597, 124, 598], [], [610, 612, 9, 122, 613], [], []]
def am_g128 : List (Nat × Nat) := []
def am_m129 : amM := ([(0, .aload_n 0, 0, 0), (1, .invokevirtual 207, 184, 0), (4, .aload_n 0, 0, 0), (5, .getfield 19, 10, 1), (8, .invokevirtual 221, 22, 0), (11, .istore_n 1, 0, 0), (12, .aload_n 0, 0, 0), (13, .invokevirtual 110, 185, 0), (16, .iload_n 1, 0, 0), (17, .ireturn, 0, 0)], 2, 1, false, (some .int), [], 10)
def am_n129 : amN := (yX11_fill, cX11_fill, [])
def am_h129 : List (List Nat) := [[], [679, 681, 13, 122, 682], [], [403], [700, 701, 702, 124, 703], [], [], [610, 612, 9, 122, 613], [], []]
def am_g129 : List (Nat × Nat) := []
def am_m130 : amM := ([(0, .aload_n 0, 0, 0), (1, .getfield 19, 10, 1), (4, .invokevirtual 125, 23, 0), (7, .bipush 30, 0, 0), (9, .if_icmp .le 6, 15, 0), (12, .bipush (-2), 0, 0), (14, .ireturn, 0, 0), (15, .aload_n 0, 0, 0), (16, .getfield 23, 10, 2), (19, .aload_n 0, 0, 0), (20, .getfield 19, 10, 1), (23, .invokevirtual 98, 2, 0),
  (26, .aload_n 0, 0, 0), (27, .getfield 23, 10, 2), (30, .iconst 0, 0, 0), (31, .invokestatic 224, 192, 0), (34, .ireturn, 0, 0)], 1, 1, false, (some .int), [], 10)
def am_n130 : amN := (yX11_completions, cX11_completions, [])
def am_h130 : List (List Nat) := [[], [403], [670, 671, 672, 124, 673], [], [], [], [], [], [404], [], [403], [595, 596, 597, 124, 598], [], [404], [], [708, 709, 122, 710], []]
def am_g130 : List (Nat × Nat) := []
def am_m131 : amM := ([(0, .aload_n 0, 0, 0), (1, .getfield 19, 10, 1), (4, .invokevirtual 228, 25, 0), (7, .ireturn, 0, 0)], 1, 1, false, (some .int), [], 10)
def am_n131 : amN := (yX11_tightest, cX11_tightest, [])
def am_h131 : List (List Nat) := [[], [403], [711, 712, 713, 124, 714], []]
def am_g131 : List (Nat × Nat) := []
def am_m132 : amM := ([(0, .aload_n 0, 0, 0), (1, .iload_n 1, 0, 0), (2, .invokevirtual 231, 180, 0), (5, .iload_n 2, 0, 0), (6, .ifCond .lt 9, 15, 0), (9, .iload_n 2, 0, 0), (10, .bipush 9, 0, 0), (12, .if_icmp .le 13, 25, 0), (15, .new 141, 0, 7), (25, .iload_n 2, 0, 0), (26, .iconst 4, 0, 0), (27, .if_icmp .ge 15, 42, 0),
  (30, .aload_n 0, 0, 0), (31, .getfield 43, 10, 5), (34, .iload_n 1, 0, 0), (35, .iload_n 2, 0, 0), (36, .invokevirtual 234, 59, 0), (39, .goto 17, 56, 0), (42, .aload_n 0, 0, 0), (43, .getfield 43, 10, 5), (46, .iload_n 1, 0, 0), (47, .invokevirtual 237, 60, 0), (50, .iload_n 2, 0, 0), (51, .iconst 4, 0, 0),
  (52, .isub, 0, 0), (53, .invokestatic 157, 70, 0), (56, .ireturn, 0, 0)], 3, 3, false, (some .int), [], 10)
def am_n132 : amN := (yX11_quad, cX11_quad, [])
def am_h132 : List (List Nat) := [[], [], [1184, 1186, 29, 122, 1187], [], [], [], [], [], [978, 145], [], [], [], [], [407], [], [], [1189, 749, 750, 128, 751], [], [], [407], [], [1190, 759, 760, 128, 761], [], [], [], [1075, 565, 139, 566], []]
def am_g132 : List (Nat × Nat) := []
def am_m133 : amM := ([(0, .aload_n 0, 0, 0), (1, .iload_n 1, 0, 0), (2, .invokevirtual 231, 180, 0), (5, .aload_n 0, 0, 0), (6, .iload_n 2, 0, 0), (7, .invokevirtual 181, 176, 0), (10, .aload_n 0, 0, 0), (11, .getfield 43, 10, 5), (14, .aload_n 0, 0, 0), (15, .getfield 19, 10, 1), (18, .iload_n 1, 0, 0), (19, .iload_n 2, 0, 0),
  (20, .invokevirtual 240, 61, 0), (23, .ireturn, 0, 0)], 3, 3, false, (some .int), [], 10)
def am_n133 : amN := (yX11_opposite, cX11_opposite, [])
def am_h133 : List (List Nat) := [[], [], [1184, 1186, 29, 122, 1187], [], [], [1087, 1089, 27, 122, 1090], [], [407], [], [403], [], [], [1198, 1199, 1200, 128, 1201], []]
def am_g133 : List (Nat × Nat) := []
def am_m134 : amM := ([(0, .aload_n 0, 0, 0), (1, .iload_n 1, 0, 0), (2, .invokevirtual 181, 176, 0), (5, .aload_n 0, 0, 0), (6, .getfield 43, 10, 5), (9, .iload_n 1, 0, 0), (10, .invokevirtual 244, 62, 0), (13, .ireturn, 0, 0)], 2, 2, false, (some .int), [], 10)
def am_n134 : amN := (yX11_quadsAt, cX11_quadsAt, [])
def am_h134 : List (List Nat) := [[], [], [1087, 1089, 27, 122, 1090], [], [407], [], [1210, 1211, 1212, 128, 1213], []]
def am_g134 : List (Nat × Nat) := []
def am_m135 : amM := ([(0, .aload_n 0, 0, 0), (1, .iload_n 1, 0, 0), (2, .invokevirtual 148, 179, 0), (5, .aload_n 0, 0, 0), (6, .getfield 43, 10, 5), (9, .lconst 1, 0, 0), (10, .iload_n 1, 0, 0), (11, .lshl, 0, 0), (12, .invokevirtual 247, 63, 0), (15, .ireturn, 0, 0)], 2, 2, false, (some .int), [], 10)
def am_n135 : amN := (yX11_quadsOf, cX11_quadsOf, [])
def am_h135 : List (List Nat) := [[], [], [1054, 1056, 25, 122, 1057], [], [407], [], [], [], [770, 771, 772, 128, 773], []]
def am_g135 : List (Nat × Nat) := []
def am_m136 : amM := ([(0, .aload_n 0, 0, 0), (1, .iload_n 1, 0, 0), (2, .invokevirtual 231, 180, 0), (5, .aload_n 0, 0, 0), (6, .invokevirtual 207, 184, 0), (9, .aload_n 0, 0, 0), (10, .iload_n 1, 0, 0), (11, .invokevirtual 251, 186, 0), (14, .aload_n 0, 0, 0), (15, .getfield 43, 10, 5), (18, .getfield 129, 4, 0), (21, .ireturn, 0, 0)], 2, 2, false, (some .int), [], 10)
def am_n136 : amN := (yX11_switchQuad, cX11_switchQuad, [])
def am_h136 : List (List Nat) := [[], [], [1184, 1186, 29, 122, 1187], [], [679, 681, 13, 122, 682], [], [], [1228, 1230, 30, 122, 1231], [], [407], [296], []]
def am_g136 : List (Nat × Nat) := []
def am_m137 : amM := ([(0, .aload_n 0, 0, 0), (1, .iload_n 1, 0, 0), (2, .invokevirtual 231, 180, 0), (5, .aload_n 0, 0, 0), (6, .iload_n 1, 0, 0), (7, .invokevirtual 254, 187, 0), (10, .ireturn, 0, 0)], 2, 2, false, (some .int), [], 10)
def am_n137 : amN := (yX11_wouldHave, cX11_wouldHave, [])
def am_h137 : List (List Nat) := [[], [], [1184, 1186, 29, 122, 1187], [], [], [1239, 1241, 31, 122, 1242], []]
def am_g137 : List (Nat × Nat) := []
def am_m138 : amM := ([(0, .iconst (-1), 0, 0), (1, .istore_n 2, 0, 0), (2, .iconst 0, 0, 0), (3, .istore_n 3, 0, 0), (4, .iconst 0, 0, 0), (5, .istore 4, 0, 0), (7, .iload 4, 0, 0), (9, .aload_n 0, 0, 0), (10, .getfield 43, 10, 5), (13, .getfield 129, 4, 0), (16, .if_icmp .ge 62, 78, 0), (19, .aload_n 0, 0, 0),
  (20, .getfield 43, 10, 5), (23, .aload_n 0, 0, 0), (24, .getfield 19, 10, 1), (27, .iload 4, 0, 0), (29, .aload_n 0, 0, 0), (30, .getfield 71, 10, 9), (33, .invokevirtual 257, 66, 0), (36, .aload_n 0, 0, 0), (37, .invokevirtual 261, 188, 0), (40, .istore 5, 0, 0), (42, .iload_n 2, 0, 0), (43, .iconst (-1), 0, 0),
  (44, .if_icmp .eq 22, 66, 0), (47, .iload_n 1, 0, 0), (48, .ifCond .eq 12, 60, 0), (51, .iload 5, 0, 0), (53, .iload_n 3, 0, 0), (54, .if_icmp .le 18, 72, 0), (57, .goto 9, 66, 0), (60, .iload 5, 0, 0), (62, .iload_n 3, 0, 0), (63, .if_icmp .ge 9, 72, 0), (66, .iload 4, 0, 0), (68, .istore_n 2, 0, 0),
  (69, .iload 5, 0, 0), (71, .istore_n 3, 0, 0), (72, .iinc 4 1, 0, 0), (75, .goto (-68), 7, 0), (78, .iload_n 2, 0, 0), (79, .ireturn, 0, 0)], 6, 2, false, (some .int), [], 10)
def am_n138 : amN := (yX11_bestSwitch, cX11_bestSwitch, [])
def am_h138 : List (List Nat) := [[], [], [], [], [], [], [], [], [407], [296], [], [], [407], [], [403], [], [], [411], [736, 737, 738, 128, 739], [], [766, 768, 17, 122, 769], [], [], [], [], [], [], [], [], [], [], [], [], [], [], [], [], [], [], [], [], []]
def am_g138 : List (Nat × Nat) := []
def am_m139 : amM := ([(0, .iload_n 1, 0, 0), (1, .iconst 1, 0, 0), (2, .if_icmp .lt 9, 11, 0), (5, .iload_n 1, 0, 0), (6, .bipush 20, 0, 0), (8, .if_icmp .le 14, 22, 0), (11, .new 141, 0, 26), (22, .aload_n 0, 0, 0), (23, .invokevirtual 207, 184, 0), (26, .iconst 0, 0, 0), (27, .istore_n 2, 0, 0), (28, .iload_n 2, 0, 0),
  (29, .iload_n 1, 0, 0), (30, .if_icmp .ge 43, 73, 0), (33, .aload_n 0, 0, 0), (34, .iconst 0, 0, 0), (35, .invokevirtual 266, 138, 0), (38, .istore_n 3, 0, 0), (39, .iload_n 3, 0, 0), (40, .iconst (-1), 0, 0), (41, .if_icmp .eq 32, 73, 0), (44, .aload_n 0, 0, 0), (45, .iload_n 3, 0, 0), (46, .invokevirtual 254, 187, 0),
  (49, .aload_n 0, 0, 0), (50, .getfield 43, 10, 5), (53, .getfield 129, 4, 0), (56, .if_icmp .lt 6, 62, 0), (59, .goto 14, 73, 0), (62, .aload_n 0, 0, 0), (63, .iload_n 3, 0, 0), (64, .invokevirtual 251, 186, 0), (67, .iinc 2 1, 0, 0), (70, .goto (-42), 28, 0), (73, .iload_n 2, 0, 0), (74, .ireturn, 0, 0)], 4, 2, false, (some .int), [], 10)
def am_n139 : amN := (yX11_descend, cX11_descend, [])
def am_h139 : List (List Nat) := [[], [], [], [], [], [], [978, 145], [], [679, 681, 13, 122, 682], [], [], [], [], [], [], [], [1251, 733, 734, 122, 735], [], [], [], [], [], [], [1239, 1241, 31, 122, 1242], [], [407], [296], [], [], [], [], [1228, 1230, 30, 122, 1231], [], [], [], []]
def am_g139 : List (Nat × Nat) := []
def am_m140 : amM := ([(0, .aload_n 0, 0, 0), (1, .iload_n 1, 0, 0), (2, .iload_n 2, 0, 0), (3, .invokevirtual 174, 177, 0), (6, .aload_n 0, 0, 0), (7, .getfield 50, 10, 6), (10, .aload_n 0, 0, 0), (11, .getfield 19, 10, 1), (14, .iload_n 1, 0, 0), (15, .iload_n 2, 0, 0), (16, .invokevirtual 270, 36, 0), (19, .aload_n 0, 0, 0),
  (20, .getfield 50, 10, 6), (23, .getfield 274, 1, 0), (26, .ireturn, 0, 0)], 3, 3, false, (some .int), [], 10)
def am_n140 : amN := (yX11_cycles, cX11_cycles, [])
def am_h140 : List (List Nat) := [[], [], [], [1102, 1104, 28, 122, 1105], [], [408], [], [403], [], [], [789, 790, 791, 129, 792], [], [408], [315], []]
def am_g140 : List (Nat × Nat) := []
def am_m141 : amM := ([(0, .aload_n 0, 0, 0), (1, .iload_n 1, 0, 0), (2, .iload_n 2, 0, 0), (3, .iload_n 3, 0, 0), (4, .invokevirtual 275, 181, 0), (7, .aload_n 0, 0, 0), (8, .getfield 50, 10, 6), (11, .iload_n 3, 0, 0), (12, .invokevirtual 278, 40, 0), (15, .ireturn, 0, 0)], 4, 4, false, (some .int), [], 10)
def am_n141 : amN := (yX11_cycleLength, cX11_cycleLength, [])
def am_h141 : List (List Nat) := [[], [], [], [], [1267, 1269, 32, 122, 1270], [], [408], [], [855, 817, 818, 129, 819], []]
def am_g141 : List (Nat × Nat) := []
def am_m142 : amM := ([(0, .aload_n 0, 0, 0), (1, .iload_n 1, 0, 0), (2, .iload_n 2, 0, 0), (3, .iload_n 3, 0, 0), (4, .invokevirtual 275, 181, 0), (7, .iload 4, 0, 0), (9, .ifCond .lt 16, 25, 0), (12, .iload 4, 0, 0), (14, .aload_n 0, 0, 0), (15, .getfield 50, 10, 6), (18, .iload_n 3, 0, 0), (19, .invokevirtual 278, 40, 0),
  (22, .if_icmp .lt 13, 35, 0), (25, .new 281, 3, 11), (35, .aload_n 0, 0, 0), (36, .getfield 50, 10, 6), (39, .iload_n 3, 0, 0), (40, .iload 4, 0, 0), (42, .invokevirtual 284, 41, 0), (45, .ireturn, 0, 0)], 5, 5, false, (some .int), [], 10)
def am_n142 : amN := (yX11_cyclePoint, cX11_cyclePoint, [])
def am_h142 : List (List Nat) := [[], [], [], [], [1267, 1269, 32, 122, 1270], [], [], [], [], [408], [], [855, 817, 818, 129, 819], [], [1271, 149], [], [408], [], [], [1294, 809, 810, 129, 811], []]
def am_g142 : List (Nat × Nat) := []
def am_m143 : amM := ([(0, .aload_n 0, 0, 0), (1, .iload_n 1, 0, 0), (2, .iload_n 2, 0, 0), (3, .iload_n 3, 0, 0), (4, .invokevirtual 275, 181, 0), (7, .aload_n 0, 0, 0), (8, .invokevirtual 207, 184, 0), (11, .aload_n 0, 0, 0), (12, .getfield 50, 10, 6), (15, .iload_n 3, 0, 0), (16, .aload_n 0, 0, 0), (17, .getfield 71, 10, 9),
  (20, .invokevirtual 287, 44, 0), (23, .aload_n 0, 0, 0), (24, .getfield 71, 10, 9), (27, .aload_n 0, 0, 0), (28, .getfield 19, 10, 1), (31, .invokevirtual 290, 48, 0), (34, .pop, 0, 0), (35, .aload_n 0, 0, 0), (36, .getfield 29, 10, 3), (39, .dup, 0, 0), (40, .getfield 132, 7, 1), (43, .iconst 1, 0, 0),
  (44, .iadd, 0, 0), (45, .putfield 132, 7, 1), (48, .aload_n 0, 0, 0), (49, .getfield 29, 10, 3), (52, .dup, 0, 0), (53, .getfield 135, 7, 2), (56, .aload_n 0, 0, 0), (57, .getfield 71, 10, 9), (60, .getfield 294, 2, 0), (63, .iadd, 0, 0), (64, .putfield 135, 7, 2), (67, .aload_n 0, 0, 0),
  (68, .invokevirtual 110, 185, 0), (71, .aload_n 0, 0, 0), (72, .getfield 71, 10, 9), (75, .getfield 294, 2, 0), (78, .ireturn, 0, 0)], 4, 4, false, (some .int), [], 10)
def am_n143 : amN := (yX11_switchCycle, cX11_switchCycle, [])
def am_h143 : List (List Nat) := [[], [], [], [], [1267, 1269, 32, 122, 1270], [], [679, 681, 13, 122, 682], [], [408], [], [], [411], [1302, 1303, 1304, 129, 1305], [], [411], [], [403], [774, 775, 776, 132, 777], [], [], [405], [], [237], [], [], [237], [], [405], [], [239], [], [411], [374], [], [239], [], [610, 612, 9, 122, 613], [], [411], [374], []]
def am_g143 : List (Nat × Nat) := []
def am_m144 : amM := ([(0, .aload_n 0, 0, 0), (1, .iload_n 1, 0, 0), (2, .iload_n 2, 0, 0), (3, .iload_n 3, 0, 0), (4, .invokevirtual 275, 181, 0), (7, .aload_n 0, 0, 0), (8, .getfield 50, 10, 6), (11, .iload_n 3, 0, 0), (12, .aload_n 0, 0, 0), (13, .getfield 71, 10, 9), (16, .invokevirtual 287, 44, 0), (19, .aload_n 0, 0, 0),
  (20, .invokevirtual 261, 188, 0), (23, .ireturn, 0, 0)], 4, 4, false, (some .int), [], 10)
def am_n144 : amN := (yX11_wouldHaveBy, cX11_wouldHaveBy, [])
def am_h144 : List (List Nat) := [[], [], [], [], [1267, 1269, 32, 122, 1270], [], [408], [], [], [411], [1302, 1303, 1304, 129, 1305], [], [766, 768, 17, 122, 769], []]
def am_g144 : List (Nat × Nat) := []
def am_m145 : amM := ([(0, .iconst 0, 0, 0), (1, .istore_n 2, 0, 0), (2, .iconst 0, 0, 0), (3, .istore_n 3, 0, 0), (4, .iload_n 3, 0, 0), (5, .aload_n 0, 0, 0), (6, .getfield 19, 10, 1), (9, .getfield 122, 0, 0), (12, .if_icmp .ge 57, 69, 0), (15, .iload_n 3, 0, 0), (16, .iconst 1, 0, 0), (17, .iadd, 0, 0),
  (18, .istore 4, 0, 0), (20, .iload 4, 0, 0), (22, .aload_n 0, 0, 0), (23, .getfield 19, 10, 1), (26, .getfield 122, 0, 0), (29, .if_icmp .ge 34, 63, 0), (32, .aload_n 0, 0, 0), (33, .getfield 50, 10, 6), (36, .aload_n 0, 0, 0), (37, .getfield 19, 10, 1), (40, .iload_n 3, 0, 0), (41, .iload 4, 0, 0),
  (43, .invokevirtual 270, 36, 0), (46, .iload_n 2, 0, 0), (47, .aload_n 0, 0, 0), (48, .getfield 50, 10, 6), (51, .iload_n 1, 0, 0), (52, .invokevirtual 295, 42, 0), (55, .iadd, 0, 0), (56, .istore_n 2, 0, 0), (57, .iinc 4 1, 0, 0), (60, .goto (-40), 20, 0), (63, .iinc 3 1, 0, 0), (66, .goto (-62), 4, 0),
  (69, .iload_n 2, 0, 0), (70, .ireturn, 0, 0)], 5, 2, false, (some .int), [], 10)
def am_n145 : amN := (yX11_cyclesOf, cX11_cyclesOf, [])
def am_h145 : List (List Nat) := [[], [], [], [], [], [], [403], [204], [], [], [], [], [], [], [], [403], [204], [], [], [408], [], [403], [], [], [789, 790, 791, 129, 792], [], [], [408], [], [812, 813, 814, 129, 815], [], [], [], [], [], [], [], []]
def am_g145 : List (Nat × Nat) := []
def am_m146 : amM := ([(0, .aload_n 0, 0, 0), (1, .getfield 57, 10, 7), (4, .aload_n 0, 0, 0), (5, .getfield 19, 10, 1), (8, .aload_n 0, 0, 0), (9, .getfield 50, 10, 6), (12, .iload_n 1, 0, 0), (13, .invokevirtual 298, 95, 0), (16, .aload_n 0, 0, 0), (17, .getfield 57, 10, 7), (20, .getfield 301, 8, 0), (23, .ireturn, 0, 0)], 2, 2, false, (some .int), [], 10)
def am_n146 : amN := (yX11_trades, cX11_trades, [])
def am_h146 : List (List Nat) := [[], [409], [], [403], [], [408], [], [824, 825, 826, 130, 827], [], [409], [341], []]
def am_g146 : List (Nat × Nat) := []
def am_m147 : amM := ([(0, .aload_n 0, 0, 0), (1, .getfield 57, 10, 7), (4, .aload_n 0, 0, 0), (5, .getfield 19, 10, 1), (8, .aload_n 0, 0, 0), (9, .getfield 50, 10, 6), (12, .iload_n 1, 0, 0), (13, .invokevirtual 298, 95, 0), (16, .iload_n 2, 0, 0), (17, .ifCond .lt 14, 31, 0), (20, .iload_n 2, 0, 0), (21, .aload_n 0, 0, 0),
  (22, .getfield 57, 10, 7), (25, .getfield 301, 8, 0), (28, .if_icmp .lt 14, 42, 0), (31, .new 281, 3, 30), (42, .aload_n 0, 0, 0), (43, .getfield 57, 10, 7), (46, .iload_n 2, 0, 0), (47, .invokevirtual 304, 98, 0), (50, .lreturn, 0, 0)], 3, 3, false, (some .long), [], 10)
def am_n147 : amN := (yX11_trade, cX11_trade, [])
def am_h147 : List (List Nat) := [[], [409], [], [403], [], [408], [], [824, 825, 826, 130, 827], [], [], [], [], [409], [341], [], [1271, 149], [], [409], [], [860, 843, 844, 130, 845], []]
def am_g147 : List (Nat × Nat) := []
def am_m148 : amM := ([(0, .aload_n 0, 0, 0), (1, .getfield 19, 10, 1), (4, .getfield 122, 0, 0), (7, .bipush 7, 0, 0), (9, .if_icmp .ge 5, 14, 0), (12, .iconst 0, 0, 0), (13, .ireturn, 0, 0), (14, .iconst 0, 0, 0), (15, .istore_n 1, 0, 0), (16, .iconst 0, 0, 0), (17, .istore_n 2, 0, 0), (18, .iload_n 2, 0, 0),
  (19, .aload_n 0, 0, 0), (20, .getfield 19, 10, 1), (23, .getfield 122, 0, 0), (26, .if_icmp .ge 42, 68, 0), (29, .iload_n 2, 0, 0), (30, .iconst 1, 0, 0), (31, .iadd, 0, 0), (32, .istore_n 3, 0, 0), (33, .iload_n 3, 0, 0), (34, .aload_n 0, 0, 0), (35, .getfield 19, 10, 1), (38, .getfield 122, 0, 0),
  (41, .if_icmp .ge 21, 62, 0), (44, .aload_n 0, 0, 0), (45, .iload_n 2, 0, 0), (46, .iload_n 3, 0, 0), (47, .invokevirtual 308, 189, 0), (50, .ifCond .eq 6, 56, 0), (53, .iinc 1 1, 0, 0), (56, .iinc 3 1, 0, 0), (59, .goto (-26), 33, 0), (62, .iinc 2 1, 0, 0), (65, .goto (-47), 18, 0), (68, .iload_n 1, 0, 0),
  (69, .ireturn, 0, 0)], 4, 1, false, (some .int), [], 10)
def am_n148 : amN := (yX11_perfectPairs, cX11_perfectPairs, [])
def am_h148 : List (List Nat) := [[], [403], [204], [], [], [], [], [], [], [], [], [], [], [403], [204], [], [], [], [], [], [], [], [403], [204], [], [], [], [], [850, 852, 23, 122, 853], [], [], [], [], [], [], [], []]
def am_g148 : List (Nat × Nat) := []
def am_m149 : amM := ([(0, .aload_n 0, 0, 0), (1, .getfield 57, 10, 7), (4, .aload_n 0, 0, 0), (5, .getfield 19, 10, 1), (8, .aload_n 0, 0, 0), (9, .getfield 50, 10, 6), (12, .iconst 4, 0, 0), (13, .invokevirtual 298, 95, 0), (16, .aload_n 0, 0, 0), (17, .getfield 57, 10, 7), (20, .getfield 301, 8, 0), (23, .aload_n 0, 0, 0),
  (24, .getfield 43, 10, 5), (27, .getfield 129, 4, 0), (30, .if_icmp .eq 5, 35, 0), (33, .iconst 0, 0, 0), (34, .ireturn, 0, 0), (35, .iconst 0, 0, 0), (36, .istore_n 1, 0, 0), (37, .iload_n 1, 0, 0), (38, .aload_n 0, 0, 0), (39, .getfield 57, 10, 7), (42, .getfield 301, 8, 0), (45, .if_icmp .ge 29, 74, 0),
  (48, .aload_n 0, 0, 0), (49, .getfield 43, 10, 5), (52, .aload_n 0, 0, 0), (53, .getfield 57, 10, 7), (56, .iload_n 1, 0, 0), (57, .invokevirtual 304, 98, 0), (60, .invokevirtual 312, 65, 0), (63, .ifCond .ne 5, 68, 0), (66, .iconst 0, 0, 0), (67, .ireturn, 0, 0), (68, .iinc 1 1, 0, 0), (71, .goto (-34), 37, 0),
  (74, .iconst 1, 0, 0), (75, .ireturn, 0, 0)], 2, 1, false, (some .boolean), [], 10)
def am_n149 : amN := (yX11_agrees, cX11_agrees, [])
def am_h149 : List (List Nat) := [[], [409], [], [403], [], [408], [], [824, 825, 826, 130, 827], [], [409], [341], [], [407], [296], [], [], [], [], [], [], [], [409], [341], [], [], [407], [], [409], [], [860, 843, 844, 130, 845], [861, 862, 863, 128, 864], [], [], [], [], [], [], []]
def am_g149 : List (Nat × Nat) := []
def am_m150 : amM := ([(0, .aload_n 0, 0, 0), (1, .iload_n 1, 0, 0), (2, .iload_n 2, 0, 0), (3, .iload_n 3, 0, 0), (4, .invokevirtual 316, 183, 0), (7, .aload_n 0, 0, 0), (8, .getfield 19, 10, 1), (11, .iload_n 1, 0, 0), (12, .iload_n 2, 0, 0), (13, .iload_n 3, 0, 0), (14, .invokestatic 167, 68, 0), (17, .invokevirtual 319, 28, 0),
  (20, .invokestatic 322, 73, 0), (23, .ireturn, 0, 0)], 4, 4, false, (some .int), [], 10)
def am_n150 : amN := (yX11_train, cX11_train, [])
def am_h150 : List (List Nat) := [[], [], [], [], [1332, 1334, 33, 122, 1335], [], [403], [], [], [], [718, 627, 139, 628], [1341, 1342, 1343, 124, 1344], [1345, 1346, 139, 1347], []]
def am_g150 : List (Nat × Nat) := []
def am_m151 : amM := ([(0, .aload_n 0, 0, 0), (1, .iload_n 1, 0, 0), (2, .iload_n 2, 0, 0), (3, .iload_n 3, 0, 0), (4, .invokevirtual 316, 183, 0), (7, .aload_n 0, 0, 0), (8, .getfield 64, 10, 8), (11, .aload_n 0, 0, 0), (12, .getfield 19, 10, 1), (15, .invokevirtual 325, 100, 0), (18, .aload_n 0, 0, 0), (19, .getfield 64, 10, 8),
  (22, .iload_n 1, 0, 0), (23, .iload_n 2, 0, 0), (24, .iload_n 3, 0, 0), (25, .invokestatic 167, 68, 0), (28, .invokestatic 327, 102, 0), (31, .invokevirtual 330, 103, 0), (34, .ireturn, 0, 0)], 4, 4, false, (some .int), [], 10)
def am_n151 : amN := (yX11_trainsTo, cX11_trainsTo, [])
def am_h151 : List (List Nat) := [[], [], [], [], [1332, 1334, 33, 122, 1335], [], [410], [], [403], [1356, 1357, 1358, 131, 1359], [], [410], [], [], [], [718, 627, 139, 628], [1370, 1363, 131, 1364], [1371, 1372, 1373, 131, 1374], []]
def am_g151 : List (Nat × Nat) := []
def am_m152 : amM := ([(0, .aload_n 0, 0, 0), (1, .iload_n 1, 0, 0), (2, .iload_n 2, 0, 0), (3, .iload_n 3, 0, 0), (4, .invokevirtual 316, 183, 0), (7, .aload_n 0, 0, 0), (8, .getfield 64, 10, 8), (11, .aload_n 0, 0, 0), (12, .getfield 19, 10, 1), (15, .invokevirtual 325, 100, 0), (18, .aload_n 0, 0, 0), (19, .getfield 64, 10, 8),
  (22, .iload_n 1, 0, 0), (23, .iload_n 2, 0, 0), (24, .iload_n 3, 0, 0), (25, .invokestatic 167, 68, 0), (28, .invokestatic 327, 102, 0), (31, .invokevirtual 333, 108, 0), (34, .ireturn, 0, 0)], 4, 4, false, (some .int), [], 10)
def am_n152 : amN := (yX11_tail, cX11_tail, [])
def am_h152 : List (List Nat) := [[], [], [], [], [1332, 1334, 33, 122, 1335], [], [410], [], [403], [1356, 1357, 1358, 131, 1359], [], [410], [], [], [], [718, 627, 139, 628], [1370, 1363, 131, 1364], [1382, 1383, 1384, 131, 1385], []]
def am_g152 : List (Nat × Nat) := []
def am_m153 : amM := ([(0, .aload_n 0, 0, 0), (1, .iload_n 1, 0, 0), (2, .iload_n 2, 0, 0), (3, .iload_n 3, 0, 0), (4, .invokevirtual 316, 183, 0), (7, .aload_n 0, 0, 0), (8, .getfield 64, 10, 8), (11, .aload_n 0, 0, 0), (12, .getfield 19, 10, 1), (15, .invokevirtual 325, 100, 0), (18, .aload_n 0, 0, 0), (19, .getfield 64, 10, 8),
  (22, .iload_n 1, 0, 0), (23, .iload_n 2, 0, 0), (24, .iload_n 3, 0, 0), (25, .invokestatic 167, 68, 0), (28, .invokestatic 327, 102, 0), (31, .invokevirtual 336, 107, 0), (34, .ireturn, 0, 0)], 4, 4, false, (some .int), [], 10)
def am_n153 : amN := (yX11_roundOf, cX11_roundOf, [])
def am_h153 : List (List Nat) := [[], [], [], [], [1332, 1334, 33, 122, 1335], [], [410], [], [403], [1356, 1357, 1358, 131, 1359], [], [410], [], [], [], [718, 627, 139, 628], [1370, 1363, 131, 1364], [1409, 1387, 1388, 131, 1389], []]
def am_g153 : List (Nat × Nat) := []
def am_m154 : amM := ([(0, .aload_n 0, 0, 0), (1, .invokevirtual 339, 182, 0), (4, .aload_n 0, 0, 0), (5, .getfield 64, 10, 8), (8, .aload_n 0, 0, 0), (9, .getfield 19, 10, 1), (12, .invokevirtual 325, 100, 0), (15, .aload_n 0, 0, 0), (16, .getfield 64, 10, 8), (19, .iload_n 1, 0, 0), (20, .invokevirtual 342, 109, 0), (23, .ireturn, 0, 0)], 2, 2, false, (some .int), [], 10)
def am_n154 : amN := (yX11_trainProfile, cX11_trainProfile, [])
def am_h154 : List (List Nat) := [[], [1336, 1338, 34, 122, 1339], [], [410], [], [403], [1356, 1357, 1358, 131, 1359], [], [410], [], [1417, 1418, 1419, 131, 1420], []]
def am_g154 : List (Nat × Nat) := []
def am_m155 : amM := ([(0, .aload_n 0, 0, 0), (1, .invokevirtual 339, 182, 0), (4, .aload_n 0, 0, 0), (5, .getfield 64, 10, 8), (8, .aload_n 0, 0, 0), (9, .getfield 19, 10, 1), (12, .invokevirtual 325, 100, 0), (15, .aload_n 0, 0, 0), (16, .getfield 64, 10, 8), (19, .invokevirtual 345, 110, 0), (22, .ireturn, 0, 0)], 1, 1, false, (some .int), [], 10)
def am_n155 : amN := (yX11_rounds, cX11_rounds, [])
def am_h155 : List (List Nat) := [[], [1336, 1338, 34, 122, 1339], [], [410], [], [403], [1356, 1357, 1358, 131, 1359], [], [410], [1429, 1430, 1431, 131, 1432], []]
def am_g155 : List (Nat × Nat) := []
def am_m156 : amM := ([(0, .aload_n 0, 0, 0), (1, .getfield 19, 10, 1), (4, .aload_n 0, 0, 0), (5, .getfield 19, 10, 1), (8, .iload_n 1, 0, 0), (9, .invokevirtual 348, 5, 0), (12, .invokevirtual 351, 29, 0), (15, .ireturn, 0, 0)], 2, 2, false, (some .boolean), [], 10)
def am_n156 : amN := (yX11_isTurned, cX11_isTurned, [])
def am_h156 : List (List Nat) := [[], [403], [], [403], [], [869, 870, 871, 124, 872], [876, 877, 878, 124, 879], []]
def am_g156 : List (Nat × Nat) := []
def am_m157 : amM := ([(0, .aload_n 0, 0, 0), (1, .getfield 19, 10, 1), (4, .invokevirtual 354, 30, 0), (7, .ireturn, 0, 0)], 1, 1, false, (some .int), [], 10)
def am_n157 : amN := (yX11_leastTurn, cX11_leastTurn, [])
def am_h157 : List (List Nat) := [[], [403], [885, 886, 887, 124, 888], []]
def am_g157 : List (Nat × Nat) := []
def am_m158 : amM := ([(0, .aload_n 0, 0, 0), (1, .getfield 19, 10, 1), (4, .invokevirtual 354, 30, 0), (7, .istore_n 1, 0, 0), (8, .lconst 0, 0, 0), (9, .lstore_n 2, 0, 0), (10, .iconst 0, 0, 0), (11, .istore 4, 0, 0), (13, .iconst 0, 0, 0), (14, .istore 5, 0, 0), (16, .iload 5, 0, 0), (18, .aload_n 0, 0, 0),
  (19, .getfield 19, 10, 1), (22, .getfield 113, 0, 1), (25, .if_icmp .ge 36, 61, 0), (28, .lload_n 2, 0, 0), (29, .iload 5, 0, 0), (31, .lshr, 0, 0), (32, .lconst 1, 0, 0), (33, .land, 0, 0), (34, .lconst 0, 0, 0), (35, .lcmp, 0, 0), (36, .ifCond .ne 19, 55, 0), (39, .lload_n 2, 0, 0),
  (40, .aload_n 0, 0, 0), (41, .getfield 19, 10, 1), (44, .iload 5, 0, 0), (46, .iload_n 1, 0, 0), (47, .invokevirtual 357, 31, 0), (50, .lor, 0, 0), (51, .lstore_n 2, 0, 0), (52, .iinc 4 1, 0, 0), (55, .iinc 5 1, 0, 0), (58, .goto (-42), 16, 0), (61, .iload 4, 0, 0), (63, .ireturn, 0, 0)], 6, 1, false, (some .int), [], 10)
def am_n158 : amN := (yX11_orbits, cX11_orbits, [])
def am_h158 : List (List Nat) := [[], [403], [885, 886, 887, 124, 888], [], [], [], [], [], [], [], [], [], [403], [209], [], [], [], [], [], [], [], [], [], [], [], [403], [], [], [894, 895, 896, 124, 897], [], [], [], [], [], [], []]
def am_g158 : List (Nat × Nat) := []
def am_m159 : amM := ([(0, .aload_n 0, 0, 0), (1, .invokevirtual 207, 184, 0), (4, .aload_n 0, 0, 0), (5, .getfield 19, 10, 1), (8, .iload_n 1, 0, 0), (9, .invokevirtual 348, 5, 0), (12, .istore_n 2, 0, 0), (13, .aload_n 0, 0, 0), (14, .getfield 23, 10, 2), (17, .aload_n 0, 0, 0), (18, .getfield 19, 10, 1), (21, .getfield 122, 0, 0),
  (24, .invokevirtual 79, 1, 0), (27, .iconst 0, 0, 0), (28, .istore_n 3, 0, 0), (29, .iconst 0, 0, 0), (30, .istore 4, 0, 0), (32, .iload 4, 0, 0), (34, .aload_n 0, 0, 0), (35, .getfield 19, 10, 1), (38, .getfield 113, 0, 1), (41, .if_icmp .ge 60, 101, 0), (44, .aload_n 0, 0, 0), (45, .getfield 19, 10, 1),
  (48, .iload 4, 0, 0), (50, .invokevirtual 153, 9, 0), (53, .iload_n 2, 0, 0), (54, .aload_n 0, 0, 0), (55, .getfield 19, 10, 1), (58, .getfield 122, 0, 0), (61, .invokestatic 361, 71, 0), (64, .istore 5, 0, 0), (66, .aload_n 0, 0, 0), (67, .getfield 23, 10, 2), (70, .iload 5, 0, 0), (72, .invokevirtual 210, 14, 0),
  (75, .iload_n 3, 0, 0), (76, .aload_n 0, 0, 0), (77, .getfield 19, 10, 1), (80, .iload 5, 0, 0), (82, .invokevirtual 195, 12, 0), (85, .ifCond .eq 7, 92, 0), (88, .iconst 1, 0, 0), (89, .goto 4, 93, 0), (92, .iconst 0, 0, 0), (93, .iadd, 0, 0), (94, .istore_n 3, 0, 0), (95, .iinc 4 1, 0, 0),
  (98, .goto (-66), 32, 0), (101, .aload_n 0, 0, 0), (102, .getfield 19, 10, 1), (105, .aload_n 0, 0, 0), (106, .getfield 23, 10, 2), (109, .invokevirtual 98, 2, 0), (112, .aload_n 0, 0, 0), (113, .invokevirtual 110, 185, 0), (116, .iload_n 3, 0, 0), (117, .ireturn, 0, 0)], 6, 2, false, (some .int), [], 10)
def am_n159 : amN := (yX11_turn, cX11_turn, [])
def am_h159 : List (List Nat) := [[], [679, 681, 13, 122, 682], [], [403], [], [869, 870, 871, 124, 872], [], [], [404], [], [403], [204], [388, 389, 390, 124, 391], [], [], [], [], [], [], [403], [209], [], [], [403], [], [903, 638, 639, 124, 640], [], [], [403], [204], [904, 583, 139, 584], [], [], [404], [], [719, 587, 588, 124, 589], [], [], [403], [], [905, 647, 648, 124, 649], [], [], [], [], [], [], [], [], [], [403], [], [404], [595, 596, 597, 124, 598], [], [610, 612, 9, 122, 613], [], []]
def am_g159 : List (Nat × Nat) := []
def am_m160 : amM := ([(0, .aload_n 0, 0, 0), (1, .getfield 19, 10, 1), (4, .getfield 113, 0, 1), (7, .ifCond .ne 7, 14, 0), (10, .dconst 0, 0, 0), (11, .goto 22, 33, 0), (14, .iconst 4, 0, 0), (15, .aload_n 0, 0, 0), (16, .getfield 43, 10, 5), (19, .getfield 129, 4, 0), (22, .imul, 0, 0), (23, .i2d, 0, 0),
  (24, .aload_n 0, 0, 0), (25, .getfield 19, 10, 1), (28, .getfield 113, 0, 1), (31, .i2d, 0, 0), (32, .ddiv, 0, 0), (33, .dreturn, 0, 0)], 1, 1, false, (some .double), [], 10)
def am_n160 : amN := (yX11_meanQuads, cX11_meanQuads, [])
def am_h160 : List (List Nat) := [[], [403], [209], [], [], [], [], [], [407], [296], [], [], [], [403], [209], [], [], []]
def am_g160 : List (Nat × Nat) := []
def am_m161 : amM := ([(0, .aload_n 0, 0, 0), (1, .getfield 19, 10, 1), (4, .invokevirtual 364, 6, 0), (7, .istore_n 1, 0, 0), (8, .iload_n 1, 0, 0), (9, .ifCond .ne 7, 16, 0), (12, .fconst 0, 0, 0), (13, .goto 16, 29, 0), (16, .iload_n 1, 0, 0), (17, .aload_n 0, 0, 0), (18, .getfield 19, 10, 1), (21, .invokevirtual 125, 23, 0),
  (24, .isub, 0, 0), (25, .i2f, 0, 0), (26, .iload_n 1, 0, 0), (27, .i2f, 0, 0), (28, .fdiv, 0, 0), (29, .freturn, 0, 0)], 2, 1, false, (some .float), [], 10)
def am_n161 : amN := (yX11_coverage, cX11_coverage, [])
def am_h161 : List (List Nat) := [[], [403], [914, 915, 916, 124, 917], [], [], [], [], [], [], [], [403], [670, 671, 672, 124, 673], [], [], [], [], [], []]
def am_g161 : List (Nat × Nat) := []
def am_m162 : amM := ([(0, .iload_n 1, 0, 0), (1, .aload_n 0, 0, 0), (2, .getfield 19, 10, 1), (5, .invokevirtual 367, 4, 0), (8, .iconst (-1), 0, 0), (9, .ixor, 0, 0), (10, .iand, 0, 0), (11, .ifCond .eq 14, 25, 0), (14, .new 141, 0, 34), (25, .aload_n 0, 0, 0), (26, .getfield 19, 10, 1), (29, .iload_n 1, 0, 0),
  (30, .invokevirtual 372, 33, 0), (33, .ireturn, 0, 0)], 2, 2, false, (some .int), [], 10)
def am_n162 : amN := (yX11_closure, cX11_closure, [])
def am_h162 : List (List Nat) := [[], [], [403], [922, 399, 400, 124, 401], [], [], [], [], [978, 145], [], [403], [], [1445, 1446, 1447, 124, 1448], []]
def am_g162 : List (Nat × Nat) := []
def am_m163 : amM := ([(0, .aload_n 0, 0, 0), (1, .getfield 19, 10, 1), (4, .invokevirtual 367, 4, 0), (7, .istore_n 1, 0, 0), (8, .iconst 0, 0, 0), (9, .istore_n 2, 0, 0), (10, .iconst 0, 0, 0), (11, .istore_n 3, 0, 0), (12, .iload_n 3, 0, 0), (13, .iload_n 1, 0, 0), (14, .if_icmp .ge 31, 45, 0), (17, .iload_n 3, 0, 0),
  (18, .invokestatic 375, 343, 0), (21, .iconst 3, 0, 0), (22, .if_icmp .le 17, 39, 0), (25, .aload_n 0, 0, 0), (26, .getfield 19, 10, 1), (29, .iload_n 3, 0, 0), (30, .invokevirtual 380, 32, 0), (33, .ifCond .eq 6, 39, 0), (36, .iinc 2 1, 0, 0), (39, .iinc 3 1, 0, 0), (42, .goto (-30), 12, 0), (45, .iload_n 2, 0, 0),
  (46, .ireturn, 0, 0)], 4, 1, false, (some .int), [], 10)
def am_n163 : amN := (yX11_subsystems, cX11_subsystems, [])
def am_h163 : List (List Nat) := [[], [403], [922, 399, 400, 124, 401], [], [], [], [], [], [], [], [], [], [923, 568, 140, 569], [], [], [], [403], [], [924, 925, 926, 124, 927], [], [], [], [], [], []]
def am_g163 : List (Nat × Nat) := []
def am_m164 : amM := ([(0, .aload_n 0, 0, 0), (1, .getfield 19, 10, 1), (4, .invokevirtual 367, 4, 0), (7, .istore_n 1, 0, 0), (8, .iconst 0, 0, 0), (9, .istore_n 2, 0, 0), (10, .iconst 0, 0, 0), (11, .istore_n 3, 0, 0), (12, .iload_n 3, 0, 0), (13, .iload_n 1, 0, 0), (14, .if_icmp .gt 33, 47, 0), (17, .iload_n 3, 0, 0),
  (18, .invokestatic 375, 343, 0), (21, .iload_n 2, 0, 0), (22, .invokestatic 375, 343, 0), (25, .if_icmp .le 16, 41, 0), (28, .aload_n 0, 0, 0), (29, .getfield 19, 10, 1), (32, .iload_n 3, 0, 0), (33, .invokevirtual 383, 34, 0), (36, .ifCond .ne 5, 41, 0), (39, .iload_n 3, 0, 0), (40, .istore_n 2, 0, 0), (41, .iinc 3 1, 0, 0),
  (44, .goto (-32), 12, 0), (47, .iload_n 2, 0, 0), (48, .ireturn, 0, 0)], 4, 1, false, (some .int), [], 10)
def am_n164 : amN := (yX11_independent, cX11_independent, [])
def am_h164 : List (List Nat) := [[], [403], [922, 399, 400, 124, 401], [], [], [], [], [], [], [], [], [], [923, 568, 140, 569], [], [923, 568, 140, 569], [], [], [403], [], [932, 933, 934, 124, 935], [], [], [], [], [], [], []]
def am_g164 : List (Nat × Nat) := []
def am_m165 : amM := ([(0, .aload_n 0, 0, 0), (1, .iload_n 1, 0, 0), (2, .invokevirtual 148, 179, 0), (5, .aload_n 0, 0, 0), (6, .getfield 19, 10, 1), (9, .getfield 113, 0, 1), (12, .aload_n 0, 0, 0), (13, .getfield 19, 10, 1), (16, .aload_n 0, 0, 0), (17, .getfield 19, 10, 1), (20, .iload_n 1, 0, 0), (21, .invokevirtual 153, 9, 0),
  (24, .iconst 1, 0, 0), (25, .invokevirtual 184, 26, 0), (28, .isub, 0, 0), (29, .ireturn, 0, 0)], 2, 2, false, (some .int), [], 10)
def am_n165 : amN := (yX11_apart, cX11_apart, [])
def am_h165 : List (List Nat) := [[], [], [1054, 1056, 25, 122, 1057], [], [403], [209], [], [403], [], [403], [], [903, 638, 639, 124, 640], [], [1113, 1114, 1115, 124, 1116], [], []]
def am_g165 : List (Nat × Nat) := []
def am_m166 : amM := ([(0, .aload_n 0, 0, 0), (1, .getfield 19, 10, 1), (4, .iconst 0, 0, 0), (5, .iconst 0, 0, 0), (6, .iconst 0, 0, 0), (7, .invokestatic 386, 193, 0), (10, .ireturn, 0, 0)], 1, 1, false, (some .int), [], 10)
def am_n166 : amN := (yX11_mostApart, cX11_mostApart, [])
def am_h166 : List (List Nat) := [[], [403], [], [], [], [940, 941, 122, 942], []]
def am_g166 : List (Nat × Nat) := []
def am_m167 : amM := ([(0, .aload_n 0, 0, 0), (1, .iload_n 1, 0, 0), (2, .iload_n 2, 0, 0), (3, .invokevirtual 174, 177, 0), (6, .aload_n 0, 0, 0), (7, .invokevirtual 207, 184, 0), (10, .aload_n 0, 0, 0), (11, .getfield 23, 10, 2), (14, .aload_n 0, 0, 0), (15, .getfield 19, 10, 1), (18, .getfield 122, 0, 0), (21, .invokevirtual 79, 1, 0),
  (24, .iconst 0, 0, 0), (25, .istore_n 3, 0, 0), (26, .iconst 0, 0, 0), (27, .istore 4, 0, 0), (29, .iload 4, 0, 0), (31, .aload_n 0, 0, 0), (32, .getfield 19, 10, 1), (35, .getfield 113, 0, 1), (38, .if_icmp .ge 54, 92, 0), (41, .aload_n 0, 0, 0), (42, .getfield 19, 10, 1), (45, .iload 4, 0, 0),
  (47, .invokevirtual 153, 9, 0), (50, .iload_n 1, 0, 0), (51, .iload_n 2, 0, 0), (52, .invokestatic 390, 72, 0), (55, .istore 5, 0, 0), (57, .aload_n 0, 0, 0), (58, .getfield 23, 10, 2), (61, .iload 5, 0, 0), (63, .invokevirtual 210, 14, 0), (66, .iload_n 3, 0, 0), (67, .aload_n 0, 0, 0), (68, .getfield 19, 10, 1),
  (71, .iload 5, 0, 0), (73, .invokevirtual 195, 12, 0), (76, .ifCond .eq 7, 83, 0), (79, .iconst 0, 0, 0), (80, .goto 4, 84, 0), (83, .iconst 1, 0, 0), (84, .iadd, 0, 0), (85, .istore_n 3, 0, 0), (86, .iinc 4 1, 0, 0), (89, .goto (-60), 29, 0), (92, .aload_n 0, 0, 0), (93, .getfield 19, 10, 1),
  (96, .aload_n 0, 0, 0), (97, .getfield 23, 10, 2), (100, .invokevirtual 98, 2, 0), (103, .aload_n 0, 0, 0), (104, .invokevirtual 110, 185, 0), (107, .iload_n 3, 0, 0), (108, .ireturn, 0, 0)], 6, 3, false, (some .int), [], 10)
def am_n167 : amN := (yX11_swap, cX11_swap, [])
def am_h167 : List (List Nat) := [[], [], [], [1102, 1104, 28, 122, 1105], [], [679, 681, 13, 122, 682], [], [404], [], [403], [204], [388, 389, 390, 124, 391], [], [], [], [], [], [], [403], [209], [], [], [403], [], [903, 638, 639, 124, 640], [], [], [1464, 1465, 139, 1466], [], [], [404], [], [719, 587, 588, 124, 589], [], [], [403], [], [905, 647, 648, 124, 649], [], [], [], [], [], [], [], [], [], [403], [], [404], [595, 596, 597, 124, 598], [], [610, 612, 9, 122, 613], [], []]
def am_g167 : List (Nat × Nat) := []
def am_m168 : amM := ([(0, .aload_n 0, 0, 0), (1, .iload_n 1, 0, 0), (2, .invokevirtual 181, 176, 0), (5, .aload_n 0, 0, 0), (6, .invokevirtual 207, 184, 0), (9, .aload_n 0, 0, 0), (10, .getfield 19, 10, 1), (13, .iconst 1, 0, 0), (14, .iload_n 1, 0, 0), (15, .ishl, 0, 0), (16, .iconst 1, 0, 0), (17, .invokevirtual 393, 27, 0),
  (20, .istore_n 2, 0, 0), (21, .aload_n 0, 0, 0), (22, .invokevirtual 110, 185, 0), (25, .iload_n 2, 0, 0), (26, .ireturn, 0, 0)], 3, 2, false, (some .int), [], 10)
def am_n168 : amN := (yX11_clear, cX11_clear, [])
def am_h168 : List (List Nat) := [[], [], [1087, 1089, 27, 122, 1090], [], [679, 681, 13, 122, 682], [], [403], [], [], [], [], [1475, 1476, 1477, 124, 1478], [], [], [610, 612, 9, 122, 613], [], []]
def am_g168 : List (Nat × Nat) := []
def am_m169 : amM := ([(0, .aload_n 0, 0, 0), (1, .iload_n 1, 0, 0), (2, .iload_n 2, 0, 0), (3, .iload_n 3, 0, 0), (4, .invokevirtual 163, 178, 0), (7, .aload_n 0, 0, 0), (8, .getfield 19, 10, 1), (11, .iload_n 1, 0, 0), (12, .iload_n 2, 0, 0), (13, .iload_n 3, 0, 0), (14, .invokestatic 167, 68, 0), (17, .iconst 2, 0, 0),
  (18, .invokevirtual 184, 26, 0), (21, .ireturn, 0, 0)], 4, 4, false, (some .int), [], 10)
def am_n169 : amN := (yX11_inTheWay, cX11_inTheWay, [])
def am_h169 : List (List Nat) := [[], [], [], [], [1083, 1085, 26, 122, 1086], [], [403], [], [], [], [718, 627, 139, 628], [], [1113, 1114, 1115, 124, 1116], []]
def am_g169 : List (Nat × Nat) := []
def am_m170 : amM := ([(0, .aload_n 0, 0, 0), (1, .iload_n 1, 0, 0), (2, .iload_n 2, 0, 0), (3, .iload_n 3, 0, 0), (4, .invokevirtual 163, 178, 0), (7, .iload_n 1, 0, 0), (8, .iload_n 2, 0, 0), (9, .iload_n 3, 0, 0), (10, .invokestatic 167, 68, 0), (13, .istore 4, 0, 0), (15, .aload_n 0, 0, 0), (16, .getfield 19, 10, 1),
  (19, .iload 4, 0, 0), (21, .invokevirtual 195, 12, 0), (24, .ifCond .eq 14, 38, 0), (27, .new 202, 2, 36), (38, .aload_n 0, 0, 0), (39, .invokevirtual 207, 184, 0), (42, .aload_n 0, 0, 0), (43, .getfield 19, 10, 1), (46, .iload 4, 0, 0), (48, .iconst 2, 0, 0), (49, .invokevirtual 393, 27, 0), (52, .istore 5, 0, 0),
  (54, .aload_n 0, 0, 0), (55, .getfield 19, 10, 1), (58, .iload 4, 0, 0), (60, .invokevirtual 210, 14, 0), (63, .aload_n 0, 0, 0), (64, .invokevirtual 110, 185, 0), (67, .iload 5, 0, 0), (69, .ireturn, 0, 0)], 6, 4, false, (some .int), [], 10)
def am_n170 : amN := (yX11_force, cX11_force, [])
def am_h170 : List (List Nat) := [[], [], [], [], [1083, 1085, 26, 122, 1086], [], [], [], [718, 627, 139, 628], [], [], [403], [], [905, 647, 648, 124, 649], [], [1145, 147], [], [679, 681, 13, 122, 682], [], [403], [], [], [1475, 1476, 1477, 124, 1478], [], [], [403], [], [719, 587, 588, 124, 589], [], [610, 612, 9, 122, 613], [], []]
def am_g170 : List (Nat × Nat) := []
def am_m171 : amM := ([(0, .aload_n 0, 0, 0), (1, .iload_n 1, 0, 0), (2, .invokevirtual 181, 176, 0), (5, .aload_n 0, 0, 0), (6, .iconst 0, 0, 0), (7, .putfield 107, 10, 11), (10, .iconst 0, 0, 0), (11, .istore_n 2, 0, 0), (12, .iload_n 2, 0, 0), (13, .aload_n 0, 0, 0), (14, .getfield 19, 10, 1), (17, .getfield 113, 0, 1),
  (20, .if_icmp .ge 36, 56, 0), (23, .aload_n 0, 0, 0), (24, .getfield 19, 10, 1), (27, .iload_n 2, 0, 0), (28, .invokevirtual 153, 9, 0), (31, .iload_n 1, 0, 0), (32, .invokestatic 398, 69, 0), (35, .ifCond .eq 15, 50, 0), (38, .aload_n 0, 0, 0), (39, .aload_n 0, 0, 0), (40, .getfield 19, 10, 1), (43, .iload_n 2, 0, 0),
  (44, .invokevirtual 153, 9, 0), (47, .invokevirtual 401, 190, 0), (50, .iinc 2 1, 0, 0), (53, .goto (-41), 12, 0), (56, .aload_n 0, 0, 0), (57, .getfield 107, 10, 11), (60, .ireturn, 0, 0)], 3, 2, false, (some .int), [], 10)
def am_n171 : amN := (yX11_printAt, cX11_printAt, [])
def am_h171 : List (List Nat) := [[], [], [1087, 1089, 27, 122, 1090], [], [], [413], [], [], [], [], [403], [209], [], [], [403], [], [903, 638, 639, 124, 640], [], [717, 558, 139, 559], [], [], [], [403], [], [903, 638, 639, 124, 640], [1502, 1504, 40, 122, 1505], [], [], [], [413], []]
def am_g171 : List (Nat × Nat) := []
def am_m172 : amM := ([(0, .iload_n 1, 0, 0), (1, .ifCond .lt 20, 21, 0), (4, .iload_n 1, 0, 0), (5, .aload_n 0, 0, 0), (6, .getfield 107, 10, 11), (9, .if_icmp .ge 12, 21, 0), (12, .iload_n 1, 0, 0), (13, .aload_n 0, 0, 0), (14, .getfield 75, 10, 10), (17, .arraylength, 0, 0), (18, .if_icmp .lt 7, 25, 0), (21, .iconst (-1), 0, 0),
  (22, .goto 9, 31, 0), (25, .aload_n 0, 0, 0), (26, .getfield 75, 10, 10), (29, .iload_n 1, 0, 0), (30, .baload, 0, 0), (31, .ireturn, 0, 0)], 2, 2, false, (some .int), [], 10)
def am_n172 : amN := (yX11_outputByte, cX11_outputByte, [])
def am_h172 : List (List Nat) := [[], [], [], [], [413], [], [], [], [412], [], [], [], [], [], [412], [], [], []]
def am_g172 : List (Nat × Nat) := []
def am_m173 : amM := ([(0, .aload_n 0, 0, 0), (1, .getfield 36, 10, 4), (4, .aload_n 0, 0, 0), (5, .getfield 19, 10, 1), (8, .aload_n 0, 0, 0), (9, .getfield 29, 10, 3), (12, .invokevirtual 404, 52, 0), (15, .ifCond .ne 5, 20, 0), (18, .iconst (-1), 0, 0), (19, .ireturn, 0, 0), (20, .aload_n 0, 0, 0), (21, .invokevirtual 110, 185, 0),
  (24, .aload_n 0, 0, 0), (25, .getfield 36, 10, 4), (28, .getfield 138, 3, 0), (31, .ireturn, 0, 0)], 1, 1, false, (some .int), [], 10)
def am_n173 : amN := (yX11_undo, cX11_undo, [])
def am_h173 : List (List Nat) := [[], [406], [], [403], [], [405], [952, 953, 954, 126, 955], [], [], [], [], [610, 612, 9, 122, 613], [], [406], [276], []]
def am_g173 : List (Nat × Nat) := []
def am_m174 : amM := ([(0, .aload_n 0, 0, 0), (1, .getfield 36, 10, 4), (4, .aload_n 0, 0, 0), (5, .getfield 19, 10, 1), (8, .aload_n 0, 0, 0), (9, .getfield 29, 10, 3), (12, .invokevirtual 408, 53, 0), (15, .aload_n 0, 0, 0), (16, .getfield 19, 10, 1), (19, .getfield 113, 0, 1), (22, .ireturn, 0, 0)], 1, 1, false, (some .int), [], 10)
def am_n174 : amN := (yX11_saveState, cX11_saveState, [])
def am_h174 : List (List Nat) := [[], [406], [], [403], [], [405], [966, 967, 968, 126, 969], [], [403], [209], []]
def am_g174 : List (Nat × Nat) := []
def am_m175 : amM := ([(0, .aload_n 0, 0, 0), (1, .getfield 36, 10, 4), (4, .aload_n 0, 0, 0), (5, .getfield 19, 10, 1), (8, .aload_n 0, 0, 0), (9, .getfield 29, 10, 3), (12, .invokevirtual 412, 54, 0), (15, .ifCond .ne 14, 29, 0), (18, .new 202, 2, 38), (29, .aload_n 0, 0, 0), (30, .invokevirtual 110, 185, 0), (33, .aload_n 0, 0, 0),
  (34, .getfield 19, 10, 1), (37, .getfield 113, 0, 1), (40, .ireturn, 0, 0)], 1, 1, false, (some .int), [], 10)
def am_n175 : amN := (yX11_restoreState, cX11_restoreState, [])
def am_h175 : List (List Nat) := [[], [406], [], [403], [], [405], [1517, 1518, 1519, 126, 1520], [], [1145, 147], [], [610, 612, 9, 122, 613], [], [403], [209], []]
def am_g175 : List (Nat × Nat) := []
def am_m176 : amM := ([(0, .aload_n 0, 0, 0), (1, .getfield 19, 10, 1), (4, .iload_n 1, 0, 0), (5, .invokevirtual 417, 3, 0), (8, .ifCond .ne 14, 22, 0), (11, .new 187, 1, 14), (22, .return_, 0, 0)], 2, 2, false, none, [], 10)
def am_n176 : amN := (yX11_requirePoint, cX11_requirePoint, [])
def am_h176 : List (List Nat) := [[], [403], [], [1091, 554, 555, 124, 556], [], [1058, 146], []]
def am_g176 : List (Nat × Nat) := []
def am_m177 : amM := ([(0, .aload_n 0, 0, 0), (1, .iload_n 1, 0, 0), (2, .invokevirtual 181, 176, 0), (5, .aload_n 0, 0, 0), (6, .iload_n 2, 0, 0), (7, .invokevirtual 181, 176, 0), (10, .iload_n 1, 0, 0), (11, .iload_n 2, 0, 0), (12, .if_icmp .ne 14, 26, 0), (15, .new 141, 0, 16), (26, .return_, 0, 0)], 3, 3, false, none, [], 10)
def am_n177 : amN := (yX11_requireTwo, cX11_requireTwo, [])
def am_h177 : List (List Nat) := [[], [], [1087, 1089, 27, 122, 1090], [], [], [1087, 1089, 27, 122, 1090], [], [], [], [978, 145], []]
def am_g177 : List (Nat × Nat) := []
def am_m178 : amM := ([(0, .aload_n 0, 0, 0), (1, .iload_n 1, 0, 0), (2, .invokevirtual 181, 176, 0), (5, .aload_n 0, 0, 0), (6, .iload_n 2, 0, 0), (7, .invokevirtual 181, 176, 0), (10, .aload_n 0, 0, 0), (11, .iload_n 3, 0, 0), (12, .invokevirtual 181, 176, 0), (15, .iload_n 1, 0, 0), (16, .iload_n 2, 0, 0), (17, .if_icmp .eq 13, 30, 0),
  (20, .iload_n 1, 0, 0), (21, .iload_n 3, 0, 0), (22, .if_icmp .eq 8, 30, 0), (25, .iload_n 2, 0, 0), (26, .iload_n 3, 0, 0), (27, .if_icmp .ne 14, 41, 0), (30, .new 141, 0, 16), (41, .return_, 0, 0)], 4, 4, false, none, [], 10)
def am_n178 : amN := (yX11_requireThree, cX11_requireThree, [])
def am_h178 : List (List Nat) := [[], [], [1087, 1089, 27, 122, 1090], [], [], [1087, 1089, 27, 122, 1090], [], [], [1087, 1089, 27, 122, 1090], [], [], [], [], [], [], [], [], [], [978, 145], []]
def am_g178 : List (Nat × Nat) := []
def am_m179 : amM := ([(0, .iload_n 1, 0, 0), (1, .ifCond .lt 14, 15, 0), (4, .iload_n 1, 0, 0), (5, .aload_n 0, 0, 0), (6, .getfield 19, 10, 1), (9, .getfield 113, 0, 1), (12, .if_icmp .lt 14, 26, 0), (15, .new 187, 1, 10), (26, .return_, 0, 0)], 2, 2, false, none, [], 10)
def am_n179 : amN := (yX11_requireTriple, cX11_requireTriple, [])
def am_h179 : List (List Nat) := [[], [], [], [], [403], [209], [], [1058, 146], []]
def am_g179 : List (Nat × Nat) := []
def am_m180 : amM := ([(0, .iload_n 1, 0, 0), (1, .ifCond .lt 14, 15, 0), (4, .iload_n 1, 0, 0), (5, .aload_n 0, 0, 0), (6, .getfield 43, 10, 5), (9, .getfield 129, 4, 0), (12, .if_icmp .lt 14, 26, 0), (15, .new 187, 1, 24), (26, .return_, 0, 0)], 2, 2, false, none, [], 10)
def am_n180 : amN := (yX11_requireQuad, cX11_requireQuad, [])
def am_h180 : List (List Nat) := [[], [], [], [], [407], [296], [], [1058, 146], []]
def am_g180 : List (Nat × Nat) := []
def am_m181 : amM := ([(0, .aload_n 0, 0, 0), (1, .iload_n 1, 0, 0), (2, .iload_n 2, 0, 0), (3, .invokevirtual 174, 177, 0), (6, .aload_n 0, 0, 0), (7, .getfield 50, 10, 6), (10, .aload_n 0, 0, 0), (11, .getfield 19, 10, 1), (14, .iload_n 1, 0, 0), (15, .iload_n 2, 0, 0), (16, .invokevirtual 270, 36, 0), (19, .iload_n 3, 0, 0),
  (20, .ifCond .lt 14, 34, 0), (23, .iload_n 3, 0, 0), (24, .aload_n 0, 0, 0), (25, .getfield 50, 10, 6), (28, .getfield 274, 1, 0), (31, .if_icmp .lt 14, 45, 0), (34, .new 281, 3, 28), (45, .return_, 0, 0)], 4, 4, false, none, [], 10)
def am_n181 : amN := (yX11_requireCycle, cX11_requireCycle, [])
def am_h181 : List (List Nat) := [[], [], [], [1102, 1104, 28, 122, 1105], [], [408], [], [403], [], [], [789, 790, 791, 129, 792], [], [], [], [], [408], [315], [], [1271, 149], []]
def am_g181 : List (Nat × Nat) := []
def am_m182 : amM := ([(0, .aload_n 0, 0, 0), (1, .getfield 19, 10, 1), (4, .invokevirtual 125, 23, 0), (7, .ifCond .eq 14, 21, 0), (10, .new 202, 2, 32), (21, .return_, 0, 0)], 1, 1, false, none, [], 10)
def am_n182 : amN := (yX11_requireComplete, cX11_requireComplete, [])
def am_h182 : List (List Nat) := [[], [403], [670, 671, 672, 124, 673], [], [1145, 147], []]
def am_g182 : List (Nat × Nat) := []
def am_m183 : amM := ([(0, .aload_n 0, 0, 0), (1, .iload_n 1, 0, 0), (2, .iload_n 2, 0, 0), (3, .iload_n 3, 0, 0), (4, .invokevirtual 163, 178, 0), (7, .aload_n 0, 0, 0), (8, .invokevirtual 339, 182, 0), (11, .return_, 0, 0)], 4, 4, false, none, [], 10)
def am_n183 : amN := (yX11_requireTrain, cX11_requireTrain, [])
def am_h183 : List (List Nat) := [[], [], [], [], [1083, 1085, 26, 122, 1086], [], [1336, 1338, 34, 122, 1339], []]
def am_g183 : List (Nat × Nat) := []
def am_m184 : amM := ([(0, .aload_n 0, 0, 0), (1, .getfield 36, 10, 4), (4, .aload_n 0, 0, 0), (5, .getfield 19, 10, 1), (8, .aload_n 0, 0, 0), (9, .getfield 29, 10, 3), (12, .invokevirtual 432, 50, 0), (15, .return_, 0, 0)], 1, 1, false, none, [], 10)
def am_n184 : amN := (yX11_remember, cX11_remember, [])
def am_h184 : List (List Nat) := [[], [406], [], [403], [], [405], [683, 684, 685, 126, 686], []]
def am_g184 : List (Nat × Nat) := []
def am_m185 : amM := ([(0, .aload_n 0, 0, 0), (1, .getfield 19, 10, 1), (4, .invokevirtual 435, 18, 0), (7, .aload_n 0, 0, 0), (8, .getfield 43, 10, 5), (11, .aload_n 0, 0, 0), (12, .getfield 19, 10, 1), (15, .invokevirtual 438, 57, 0), (18, .return_, 0, 0)], 1, 1, false, none, [], 10)
def am_n185 : amN := (yX11_settle, cX11_settle, [])
def am_h185 : List (List Nat) := [[], [403], [614, 615, 616, 124, 617], [], [407], [], [403], [633, 634, 635, 128, 636], []]
def am_g185 : List (Nat × Nat) := []
def am_m186 : amM := ([(0, .aload_n 0, 0, 0), (1, .getfield 43, 10, 5), (4, .aload_n 0, 0, 0), (5, .getfield 19, 10, 1), (8, .iload_n 1, 0, 0), (9, .aload_n 0, 0, 0), (10, .getfield 71, 10, 9), (13, .invokevirtual 257, 66, 0), (16, .aload_n 0, 0, 0), (17, .getfield 71, 10, 9), (20, .aload_n 0, 0, 0), (21, .getfield 19, 10, 1),
  (24, .invokevirtual 290, 48, 0), (27, .pop, 0, 0), (28, .aload_n 0, 0, 0), (29, .getfield 29, 10, 3), (32, .dup, 0, 0), (33, .getfield 130, 7, 0), (36, .iconst 1, 0, 0), (37, .iadd, 0, 0), (38, .putfield 130, 7, 0), (41, .aload_n 0, 0, 0), (42, .getfield 29, 10, 3), (45, .dup, 0, 0),
  (46, .getfield 135, 7, 2), (49, .aload_n 0, 0, 0), (50, .getfield 71, 10, 9), (53, .getfield 294, 2, 0), (56, .iadd, 0, 0), (57, .putfield 135, 7, 2), (60, .aload_n 0, 0, 0), (61, .invokevirtual 110, 185, 0), (64, .return_, 0, 0)], 2, 2, false, none, [], 10)
def am_n186 : amN := (yX11_exchangeQuad, cX11_exchangeQuad, [])
def am_h186 : List (List Nat) := [[], [407], [], [403], [], [], [411], [736, 737, 738, 128, 739], [], [411], [], [403], [774, 775, 776, 132, 777], [], [], [405], [], [235], [], [], [235], [], [405], [], [239], [], [411], [374], [], [239], [], [610, 612, 9, 122, 613], []]
def am_g186 : List (Nat × Nat) := []
def am_m187 : amM := ([(0, .aload_n 0, 0, 0), (1, .getfield 43, 10, 5), (4, .aload_n 0, 0, 0), (5, .getfield 19, 10, 1), (8, .iload_n 1, 0, 0), (9, .aload_n 0, 0, 0), (10, .getfield 71, 10, 9), (13, .invokevirtual 257, 66, 0), (16, .aload_n 0, 0, 0), (17, .invokevirtual 261, 188, 0), (20, .ireturn, 0, 0)], 2, 2, false, (some .int), [], 10)
def am_n187 : amN := (yX11_quadsBehindSwitchOf, cX11_quadsBehindSwitchOf, [])
def am_h187 : List (List Nat) := [[], [407], [], [403], [], [], [411], [736, 737, 738, 128, 739], [], [766, 768, 17, 122, 769], []]
def am_g187 : List (Nat × Nat) := []
def am_m188 : amM := ([(0, .aload_n 0, 0, 0), (1, .getfield 23, 10, 2), (4, .aload_n 0, 0, 0), (5, .getfield 19, 10, 1), (8, .invokevirtual 98, 2, 0), (11, .aload_n 0, 0, 0), (12, .getfield 43, 10, 5), (15, .aload_n 0, 0, 0), (16, .getfield 71, 10, 9), (19, .getfield 439, 2, 1), (22, .invokevirtual 247, 63, 0), (25, .istore_n 1, 0, 0),
  (26, .aload_n 0, 0, 0), (27, .getfield 43, 10, 5), (30, .getfield 129, 4, 0), (33, .iload_n 1, 0, 0), (34, .isub, 0, 0), (35, .aload_n 0, 0, 0), (36, .getfield 71, 10, 9), (39, .aload_n 0, 0, 0), (40, .getfield 23, 10, 2), (43, .invokevirtual 290, 48, 0), (46, .iadd, 0, 0), (47, .ireturn, 0, 0)], 2, 1, false, (some .int), [], 10)
def am_n188 : amN := (yX11_quadsBehindExchange, cX11_quadsBehindExchange, [])
def am_h188 : List (List Nat) := [[], [404], [], [403], [595, 596, 597, 124, 598], [], [407], [], [411], [376], [770, 771, 772, 128, 773], [], [], [407], [296], [], [], [], [411], [], [404], [774, 775, 776, 132, 777], [], []]
def am_g188 : List (Nat × Nat) := []
def am_m189 : amM := ([(0, .aload_n 0, 0, 0), (1, .getfield 19, 10, 1), (4, .getfield 122, 0, 0), (7, .aload_n 0, 0, 0), (8, .getfield 19, 10, 1), (11, .iload_n 1, 0, 0), (12, .iload_n 2, 0, 0), (13, .invokevirtual 178, 7, 0), (16, .iconst (-1), 0, 0), (17, .if_icmp .ne 7, 24, 0), (20, .iconst 2, 0, 0), (21, .goto 4, 25, 0),
  (24, .iconst 3, 0, 0), (25, .isub, 0, 0), (26, .istore_n 3, 0, 0), (27, .aload_n 0, 0, 0), (28, .getfield 50, 10, 6), (31, .aload_n 0, 0, 0), (32, .getfield 19, 10, 1), (35, .iload_n 1, 0, 0), (36, .iload_n 2, 0, 0), (37, .invokevirtual 270, 36, 0), (40, .aload_n 0, 0, 0), (41, .getfield 50, 10, 6),
  (44, .getfield 274, 1, 0), (47, .iconst 1, 0, 0), (48, .if_icmp .ne 19, 67, 0), (51, .aload_n 0, 0, 0), (52, .getfield 50, 10, 6), (55, .iconst 0, 0, 0), (56, .invokevirtual 278, 40, 0), (59, .iload_n 3, 0, 0), (60, .if_icmp .ne 7, 67, 0), (63, .iconst 1, 0, 0), (64, .goto 4, 68, 0), (67, .iconst 0, 0, 0),
  (68, .ireturn, 0, 0)], 4, 3, false, (some .boolean), [], 10)
def am_n189 : amN := (yX11_isPerfect, cX11_isPerfect, [])
def am_h189 : List (List Nat) := [[], [403], [204], [], [403], [], [], [854, 619, 620, 124, 621], [], [], [], [], [], [], [], [], [408], [], [403], [], [], [789, 790, 791, 129, 792], [], [408], [315], [], [], [], [408], [], [855, 817, 818, 129, 819], [], [], [], [], [], []]
def am_g189 : List (Nat × Nat) := []
def am_m190 : amM := ([(0, .aload_n 0, 0, 0), (1, .getfield 107, 10, 11), (4, .ifCond .le 9, 13, 0), (7, .aload_n 0, 0, 0), (8, .bipush 32, 0, 0), (10, .invokevirtual 443, 191, 0), (13, .iconst 0, 0, 0), (14, .istore_n 2, 0, 0), (15, .iload_n 2, 0, 0), (16, .iconst 3, 0, 0), (17, .if_icmp .ge 39, 56, 0), (20, .iload_n 1, 0, 0),
  (21, .iload_n 2, 0, 0), (22, .invokestatic 157, 70, 0), (25, .istore_n 3, 0, 0), (26, .aload_n 0, 0, 0), (27, .iload_n 3, 0, 0), (28, .bipush 10, 0, 0), (30, .if_icmp .ge 10, 40, 0), (33, .bipush 48, 0, 0), (35, .iload_n 3, 0, 0), (36, .iadd, 0, 0), (37, .goto 10, 47, 0), (40, .bipush 97, 0, 0),
  (42, .iload_n 3, 0, 0), (43, .iadd, 0, 0), (44, .bipush 10, 0, 0), (46, .isub, 0, 0), (47, .invokevirtual 443, 191, 0), (50, .iinc 2 1, 0, 0), (53, .goto (-38), 15, 0), (56, .return_, 0, 0)], 4, 2, false, none, [], 10)
def am_n190 : amN := (yX11_writeTriple, cX11_writeTriple, [])
def am_h190 : List (List Nat) := [[], [413], [], [], [], [1506, 1508, 41, 122, 1509], [], [], [], [], [], [], [], [1075, 565, 139, 566], [], [], [], [], [], [], [], [], [], [], [], [], [], [], [1506, 1508, 41, 122, 1509], [], [], []]
def am_g190 : List (Nat × Nat) := []
def am_m191 : amM := ([(0, .aload_n 0, 0, 0), (1, .getfield 107, 10, 11), (4, .aload_n 0, 0, 0), (5, .getfield 75, 10, 10), (8, .arraylength, 0, 0), (9, .if_icmp .ge 24, 33, 0), (12, .aload_n 0, 0, 0), (13, .getfield 75, 10, 10), (16, .aload_n 0, 0, 0), (17, .getfield 107, 10, 11), (20, .iload_n 1, 0, 0), (21, .i2b, 0, 0),
  (22, .bastore, 0, 0), (23, .aload_n 0, 0, 0), (24, .dup, 0, 0), (25, .getfield 107, 10, 11), (28, .iconst 1, 0, 0), (29, .iadd, 0, 0), (30, .putfield 107, 10, 11), (33, .return_, 0, 0)], 2, 2, false, none, [], 10)
def am_n191 : amN := (yX11_write, cX11_write, [])
def am_h191 : List (List Nat) := [[], [413], [], [412], [], [], [], [412], [], [413], [], [], [], [], [], [413], [], [], [413], []]
def am_g191 : List (Nat × Nat) := []
def am_m192 : amM := ([(0, .aload_n 0, 0, 0), (1, .invokevirtual 228, 25, 0), (4, .istore_n 2, 0, 0), (5, .iload_n 2, 0, 0), (6, .iconst (-1), 0, 0), (7, .if_icmp .ne 5, 12, 0), (10, .iconst 1, 0, 0), (11, .ireturn, 0, 0), (12, .iload_n 1, 0, 0), (13, .bipush 10, 0, 0), (15, .if_icmp .lt 5, 20, 0), (18, .iconst 0, 0, 0),
  (19, .ireturn, 0, 0), (20, .iload_n 2, 0, 0), (21, .iconst 4, 0, 0), (22, .ishr, 0, 0), (23, .istore_n 3, 0, 0), (24, .iload_n 2, 0, 0), (25, .bipush 15, 0, 0), (27, .iand, 0, 0), (28, .istore 4, 0, 0), (30, .aload_n 0, 0, 0), (31, .iload_n 3, 0, 0), (32, .invokevirtual 446, 8, 0),
  (35, .aload_n 0, 0, 0), (36, .iload 4, 0, 0), (38, .invokevirtual 446, 8, 0), (41, .iand, 0, 0), (42, .istore 5, 0, 0), (44, .iconst 0, 0, 0), (45, .istore 6, 0, 0), (47, .iconst 0, 0, 0), (48, .istore 7, 0, 0), (50, .iload 7, 0, 0), (52, .aload_n 0, 0, 0), (53, .getfield 122, 0, 0),
  (56, .if_icmp .ge 55, 111, 0), (59, .iload 5, 0, 0), (61, .iload 7, 0, 0), (63, .invokestatic 398, 69, 0), (66, .ifCond .eq 39, 105, 0), (69, .aload_n 0, 0, 0), (70, .iload_n 3, 0, 0), (71, .iload 4, 0, 0), (73, .iload 7, 0, 0), (75, .invokestatic 167, 68, 0), (78, .invokevirtual 210, 14, 0), (81, .iload 6, 0, 0),
  (83, .aload_n 0, 0, 0), (84, .iload_n 1, 0, 0), (85, .iconst 1, 0, 0), (86, .iadd, 0, 0), (87, .invokestatic 224, 192, 0), (90, .iadd, 0, 0), (91, .istore 6, 0, 0), (93, .aload_n 0, 0, 0), (94, .iload_n 3, 0, 0), (95, .iload 4, 0, 0), (97, .iload 7, 0, 0), (99, .invokestatic 167, 68, 0),
  (102, .invokevirtual 213, 15, 0), (105, .iinc 7 1, 0, 0), (108, .goto (-58), 50, 0), (111, .iload 6, 0, 0), (113, .ireturn, 0, 0)], 8, 2, false, (some .int), [], 10)
def am_n192 : amN := (yX11_completionsOf, cX11_completionsOf, [])
def am_h192 : List (List Nat) := [[], [711, 712, 713, 124, 714], [], [], [], [], [], [], [], [], [], [], [], [], [], [], [], [], [], [], [], [], [], [716, 574, 575, 124, 576], [], [], [716, 574, 575, 124, 576], [], [], [], [], [], [], [], [], [204], [], [], [], [717, 558, 139, 559], [], [], [], [], [], [718, 627, 139, 628], [719, 587, 588, 124, 589], [], [], [], [], [], [708, 709, 122, 710], [], [], [], [], [], [], [718, 627, 139, 628], [720, 721, 722, 124, 723], [], [], [], []]
def am_g192 : List (Nat × Nat) := []
def am_m193 : amM := ([(0, .iload_n 3, 0, 0), (1, .iconst 5, 0, 0), (2, .if_icmp .lt 5, 7, 0), (5, .iconst 0, 0, 0), (6, .ireturn, 0, 0), (7, .iconst 0, 0, 0), (8, .istore 4, 0, 0), (10, .iload_n 1, 0, 0), (11, .istore 5, 0, 0), (13, .iload 5, 0, 0), (15, .aload_n 0, 0, 0), (16, .getfield 113, 0, 1),
  (19, .if_icmp .ge 48, 67, 0), (22, .aload_n 0, 0, 0), (23, .iload 5, 0, 0), (25, .invokevirtual 153, 9, 0), (28, .istore 6, 0, 0), (30, .iload 6, 0, 0), (32, .iload_n 2, 0, 0), (33, .iand, 0, 0), (34, .ifCond .ne 27, 61, 0), (37, .iload 4, 0, 0), (39, .iconst 1, 0, 0), (40, .aload_n 0, 0, 0),
  (41, .iload 5, 0, 0), (43, .iconst 1, 0, 0), (44, .iadd, 0, 0), (45, .iload_n 2, 0, 0), (46, .iload 6, 0, 0), (48, .ior, 0, 0), (49, .iload_n 3, 0, 0), (50, .iconst 1, 0, 0), (51, .iadd, 0, 0), (52, .invokestatic 386, 193, 0), (55, .iadd, 0, 0), (56, .invokestatic 449, 346, 0),
  (59, .istore 4, 0, 0), (61, .iinc 5 1, 0, 0), (64, .goto (-51), 13, 0), (67, .iload 4, 0, 0), (69, .ireturn, 0, 0)], 7, 4, false, (some .int), [], 10)
def am_n193 : amN := (yX11_mostApartFrom, cX11_mostApartFrom, [])
def am_h193 : List (List Nat) := [[], [], [], [], [], [], [], [], [], [], [], [209], [], [], [], [903, 638, 639, 124, 640], [], [], [], [], [], [], [], [], [], [], [], [], [], [], [], [], [], [940, 941, 122, 942], [], [943, 396, 133, 397], [], [], [], [], []]
def am_g193 : List (Nat × Nat) := []
def am_m194 : amM := ([(0, .aload_n 0, 0, 0), (1, .invokespecial 1, 0, 5), (4, .aload_n 0, 0, 0), (5, .sipush 229, 0, 0), (8, .newarray .int, 0, 0), (10, .putfield 7, 11, 0), (13, .aload_n 0, 0, 0), (14, .sipush 229, 0, 0), (17, .newarray .int, 0, 0), (19, .putfield 13, 11, 1), (22, .aload_n 0, 0, 0), (23, .sipush 229, 0, 0),
  (26, .newarray .int, 0, 0), (28, .putfield 16, 11, 2), (31, .aload_n 0, 0, 0), (32, .sipush 229, 0, 0), (35, .newarray .int, 0, 0), (37, .putfield 19, 11, 3), (40, .aload_n 0, 0, 0), (41, .sipush 2290, 0, 0), (44, .newarray .int, 0, 0), (46, .putfield 22, 11, 4), (49, .aload_n 0, 0, 0), (50, .bipush 35, 0, 0),
  (52, .newarray .int, 0, 0), (54, .putfield 25, 11, 8), (57, .aload_n 0, 0, 0), (58, .bipush 35, 0, 0), (60, .newarray .int, 0, 0), (62, .putfield 28, 11, 9), (65, .aload_n 0, 0, 0), (66, .bipush 35, 0, 0), (68, .newarray .int, 0, 0), (70, .putfield 31, 11, 10), (73, .aload_n 0, 0, 0), (74, .bipush 35, 0, 0),
  (76, .newarray .int, 0, 0), (78, .putfield 34, 11, 11), (81, .aload_n 0, 0, 0), (82, .sipush 800, 0, 0), (85, .newarray .int, 0, 0), (87, .putfield 37, 11, 13), (90, .aload_n 0, 0, 0), (91, .bipush 24, 0, 0), (93, .newarray .int, 0, 0), (95, .putfield 40, 11, 15), (98, .aload_n 0, 0, 0), (99, .bipush 15, 0, 0),
  (101, .newarray .int, 0, 0), (103, .putfield 43, 11, 16), (106, .aload_n 0, 0, 0), (107, .sipush 400, 0, 0), (110, .newarray .long, 0, 0), (112, .putfield 46, 11, 18), (115, .aload_n 0, 0, 0), (116, .sipush 600, 0, 0), (119, .newarray .int, 0, 0), (121, .putfield 50, 11, 20), (124, .aload_n 0, 0, 0), (125, .iconst (-1), 0, 0),
  (126, .putfield 53, 11, 23), (129, .aload_n 0, 0, 0), (130, .iconst 3, 0, 0), (131, .newarray .int, 0, 0), (133, .putfield 57, 11, 30), (136, .aload_n 0, 0, 0), (137, .bipush 30, 0, 0), (139, .newarray .int, 0, 0), (141, .putfield 60, 11, 31), (144, .aload_n 0, 0, 0), (145, .iconst 3, 0, 0), (146, .invokevirtual 63, 199, 0),
  (149, .return_, 0, 0)], 1, 1, true, none, [], 11)
def am_n194 : amN := (yX12_init, cX12_init, [])
def am_h194 : List (List Nat) := [[], [1527, 156, 157], [], [], [227], [1532], [], [], [227], [1533], [], [], [227], [1534], [], [], [227], [1535], [], [], [227], [1536], [], [], [227], [1540], [], [], [227], [1541], [], [], [227], [1542], [], [], [227], [1543], [], [], [227], [1545], [], [], [227], [1547], [], [], [227], [1548], [], [], [306], [1550], [], [], [227], [1552], [], [], [1555], [], [], [227], [1562], [], [], [227], [1563], [], [], [1528, 1530, 42, 134, 1531], []]
def am_g194 : List (Nat × Nat) := []
def am_m195 : amM := ([(0, .aload_n 0, 0, 0), (1, .getfield 67, 11, 7), (4, .ireturn, 0, 0)], 1, 1, false, (some .int), [], 11)
def am_n195 : amN := (yX12_thrown, cX12_thrown, [])
def am_h195 : List (List Nat) := [[], [1539], []]
def am_g195 : List (Nat × Nat) := []
def am_m196 : amM := ([(0, .iload_n 0, 0, 0), (1, .iload_n 1, 0, 0), (2, .if_icmp .lt 12, 14, 0), (5, .iload_n 0, 0, 0), (6, .iload_n 2, 0, 0), (7, .if_icmp .gt 7, 14, 0), (10, .iconst 1, 0, 0), (11, .goto 4, 15, 0), (14, .iconst 0, 0, 0), (15, .ireturn, 0, 0)], 3, 3, false, (some .boolean), [], 11)
def am_n196 : amN := (yX12_inRange, cX12_inRange, [])
def am_h196 : List (List Nat) := [[], [], [], [], [], [], [], [], [], []]
def am_g196 : List (Nat × Nat) := []
def am_m197 : amM := ([(0, .iload_n 1, 0, 0), (1, .ifCond .eq 8, 9, 0), (4, .aload_n 0, 0, 0), (5, .iload_n 2, 0, 0), (6, .putfield 67, 11, 7), (9, .iload_n 1, 0, 0), (10, .ireturn, 0, 0)], 3, 3, false, (some .boolean), [], 11)
def am_n197 : amN := (yX12_fails, cX12_fails, [])
def am_h197 : List (List Nat) := [[], [], [], [], [1539], [], []]
def am_g197 : List (Nat × Nat) := []
def am_m198 : amM := ([(0, .iconst 0, 0, 0), (1, .istore 5, 0, 0), (3, .iload 5, 0, 0), (5, .iload 4, 0, 0), (7, .if_icmp .ge 21, 28, 0), (10, .aload_n 2, 0, 0), (11, .iload_n 3, 0, 0), (12, .iload 5, 0, 0), (14, .iadd, 0, 0), (15, .aload_n 0, 0, 0), (16, .iload_n 1, 0, 0), (17, .iload 5, 0, 0),
  (19, .iadd, 0, 0), (20, .iaload, 0, 0), (21, .iastore, 0, 0), (22, .iinc 5 1, 0, 0), (25, .goto (-22), 3, 0), (28, .return_, 0, 0)], 6, 5, false, none, [], 11)
def am_n198 : amN := (yX12_copies, cX12_copies, [])
def am_h198 : List (List Nat) := [[], [], [], [], [], [], [], [], [], [], [], [], [], [], [], [], [], []]
def am_g198 : List (Nat × Nat) := []
def am_m199 : amM := ([(0, .iconst 0, 0, 0), (1, .istore_n 2, 0, 0), (2, .iload_n 2, 0, 0), (3, .sipush 229, 0, 0), (6, .if_icmp .ge 25, 31, 0), (9, .aload_n 0, 0, 0), (10, .getfield 7, 11, 0), (13, .iload_n 2, 0, 0), (14, .iload_n 2, 0, 0), (15, .iconst 4, 0, 0), (16, .if_icmp .ge 7, 23, 0), (19, .iconst 0, 0, 0),
  (20, .goto 4, 24, 0), (23, .iconst (-1), 0, 0), (24, .iastore, 0, 0), (25, .iinc 2 1, 0, 0), (28, .goto (-26), 2, 0), (31, .aload_n 0, 0, 0), (32, .getfield 7, 11, 0), (35, .iconst 0, 0, 0), (36, .iload_n 1, 0, 0), (37, .iastore, 0, 0), (38, .return_, 0, 0)], 3, 2, false, none, [], 11)
def am_n199 : amN := (yX12_empties, cX12_empties, [])
def am_h199 : List (List Nat) := [[], [], [], [], [], [], [1532], [], [], [], [], [], [], [], [], [], [], [], [1532], [], [], [], []]
def am_g199 : List (Nat × Nat) := []
def am_m200 : amM := ([(0, .aload_n 0, 0, 0), (1, .getfield 70, 11, 5), (4, .bipush 10, 0, 0), (6, .if_icmp .ne 31, 37, 0), (9, .aload_n 0, 0, 0), (10, .getfield 22, 11, 4), (13, .sipush 229, 0, 0), (16, .aload_n 0, 0, 0), (17, .getfield 22, 11, 4), (20, .iconst 0, 0, 0), (21, .sipush 2061, 0, 0), (24, .invokestatic 73, 198, 0),
  (27, .aload_n 0, 0, 0), (28, .dup, 0, 0), (29, .getfield 70, 11, 5), (32, .iconst 1, 0, 0), (33, .isub, 0, 0), (34, .putfield 70, 11, 5), (37, .aload_n 0, 0, 0), (38, .getfield 7, 11, 0), (41, .iconst 0, 0, 0), (42, .aload_n 0, 0, 0), (43, .getfield 22, 11, 4), (46, .sipush 229, 0, 0),
  (49, .aload_n 0, 0, 0), (50, .getfield 70, 11, 5), (53, .imul, 0, 0), (54, .sipush 229, 0, 0), (57, .invokestatic 73, 198, 0), (60, .aload_n 0, 0, 0), (61, .dup, 0, 0), (62, .getfield 70, 11, 5), (65, .iconst 1, 0, 0), (66, .iadd, 0, 0), (67, .putfield 70, 11, 5), (70, .return_, 0, 0)], 1, 1, false, none, [], 11)
def am_n200 : amN := (yX12_remembers, cX12_remembers, [])
def am_h200 : List (List Nat) := [[], [1537], [], [], [], [1536], [], [], [1536], [], [], [1655, 1656, 134, 1657], [], [], [1537], [], [], [1537], [], [1532], [], [], [1536], [], [], [1537], [], [], [1655, 1656, 134, 1657], [], [], [1537], [], [], [1537], []]
def am_g200 : List (Nat × Nat) := []
def am_m201 : amM := ([(0, .aload_n 0, 0, 0), (1, .getfield 7, 11, 0), (4, .iconst 0, 0, 0), (5, .aload_n 0, 0, 0), (6, .getfield 16, 11, 2), (9, .iconst 0, 0, 0), (10, .sipush 229, 0, 0), (13, .invokestatic 73, 198, 0), (16, .return_, 0, 0)], 1, 1, false, none, [], 11)
def am_n201 : amN := (yX12_begins, cX12_begins, [])
def am_h201 : List (List Nat) := [[], [1532], [], [], [1534], [], [], [1655, 1656, 134, 1657], []]
def am_g201 : List (Nat × Nat) := []
def am_m202 : amM := ([(0, .aload_n 0, 0, 0), (1, .getfield 16, 11, 2), (4, .iconst 0, 0, 0), (5, .aload_n 0, 0, 0), (6, .getfield 7, 11, 0), (9, .iconst 0, 0, 0), (10, .sipush 229, 0, 0), (13, .invokestatic 73, 198, 0), (16, .return_, 0, 0)], 1, 1, false, none, [], 11)
def am_n202 : amN := (yX12_ends, cX12_ends, [])
def am_h202 : List (List Nat) := [[], [1534], [], [], [1532], [], [], [1655, 1656, 134, 1657], []]
def am_g202 : List (Nat × Nat) := []
def am_m203 : amM := ([(0, .aload_n 0, 0, 0), (1, .getfield 7, 11, 0), (4, .iconst 0, 0, 0), (5, .iaload, 0, 0), (6, .ireturn, 0, 0)], 1, 1, false, (some .int), [], 11)
def am_n203 : amN := (yX12_points, cX12_points, [])
def am_h203 : List (List Nat) := [[], [1532], [], [], []]
def am_g203 : List (Nat × Nat) := []
def am_m204 : amM := ([(0, .aload_n 0, 0, 0), (1, .getfield 7, 11, 0), (4, .iconst 4, 0, 0), (5, .bipush 15, 0, 0), (7, .iload_n 1, 0, 0), (8, .imul, 0, 0), (9, .iadd, 0, 0), (10, .iload_n 2, 0, 0), (11, .iadd, 0, 0), (12, .iaload, 0, 0), (13, .ireturn, 0, 0)], 3, 3, false, (some .int), [], 11)
def am_n204 : amN := (yX12_thirdOf, cX12_thirdOf, [])
def am_h204 : List (List Nat) := [[], [1532], [], [], [], [], [], [], [], [], []]
def am_g204 : List (Nat × Nat) := []
def am_m205 : amM := ([(0, .aload_n 0, 0, 0), (1, .getfield 7, 11, 0), (4, .iconst 4, 0, 0), (5, .bipush 15, 0, 0), (7, .iload_n 1, 0, 0), (8, .imul, 0, 0), (9, .iadd, 0, 0), (10, .iload_n 2, 0, 0), (11, .iadd, 0, 0), (12, .iload_n 3, 0, 0), (13, .iastore, 0, 0), (14, .aload_n 0, 0, 0),
  (15, .getfield 7, 11, 0), (18, .iconst 4, 0, 0), (19, .bipush 15, 0, 0), (21, .iload_n 2, 0, 0), (22, .imul, 0, 0), (23, .iadd, 0, 0), (24, .iload_n 1, 0, 0), (25, .iadd, 0, 0), (26, .iload_n 3, 0, 0), (27, .iastore, 0, 0), (28, .return_, 0, 0)], 4, 4, false, none, [], 11)
def am_n205 : amN := (yX12_lays, cX12_lays, [])
def am_h205 : List (List Nat) := [[], [1532], [], [], [], [], [], [], [], [], [], [], [1532], [], [], [], [], [], [], [], [], [], []]
def am_g205 : List (Nat × Nat) := []
def am_m206 : amM := ([(0, .aload_n 0, 0, 0), (1, .iload_n 1, 0, 0), (2, .iload_n 2, 0, 0), (3, .iload_n 3, 0, 0), (4, .invokevirtual 77, 205, 0), (7, .aload_n 0, 0, 0), (8, .iload_n 2, 0, 0), (9, .iload_n 3, 0, 0), (10, .iload_n 1, 0, 0), (11, .invokevirtual 77, 205, 0), (14, .aload_n 0, 0, 0), (15, .iload_n 1, 0, 0),
  (16, .iload_n 3, 0, 0), (17, .iload_n 2, 0, 0), (18, .invokevirtual 77, 205, 0), (21, .return_, 0, 0)], 4, 4, false, none, [], 11)
def am_n206 : amN := (yX12_puts, cX12_puts, [])
def am_h206 : List (List Nat) := [[], [], [], [], [1734, 1736, 62, 134, 1737], [], [], [], [], [1734, 1736, 62, 134, 1737], [], [], [], [], [1734, 1736, 62, 134, 1737], []]
def am_g206 : List (Nat × Nat) := []
def am_m207 : amM := ([(0, .aload_n 0, 0, 0), (1, .iload_n 1, 0, 0), (2, .iload_n 2, 0, 0), (3, .iconst (-1), 0, 0), (4, .invokevirtual 77, 205, 0), (7, .aload_n 0, 0, 0), (8, .iload_n 2, 0, 0), (9, .iload_n 3, 0, 0), (10, .iconst (-1), 0, 0), (11, .invokevirtual 77, 205, 0), (14, .aload_n 0, 0, 0), (15, .iload_n 1, 0, 0),
  (16, .iload_n 3, 0, 0), (17, .iconst (-1), 0, 0), (18, .invokevirtual 77, 205, 0), (21, .return_, 0, 0)], 4, 4, false, none, [], 11)
def am_n207 : amN := (yX12_takes, cX12_takes, [])
def am_h207 : List (List Nat) := [[], [], [], [], [1734, 1736, 62, 134, 1737], [], [], [], [], [1734, 1736, 62, 134, 1737], [], [], [], [], [1734, 1736, 62, 134, 1737], []]
def am_g207 : List (Nat × Nat) := []
def am_m208 : amM := ([(0, .aload_n 0, 0, 0), (1, .iload_n 1, 0, 0), (2, .iload_n 2, 0, 0), (3, .invokevirtual 81, 204, 0), (6, .iconst (-1), 0, 0), (7, .if_icmp .ne 7, 14, 0), (10, .iconst 0, 0, 0), (11, .goto 4, 15, 0), (14, .iconst 1, 0, 0), (15, .ireturn, 0, 0)], 3, 3, false, (some .int), [], 11)
def am_n208 : amN := (yX12_coveredOf, cX12_coveredOf, [])
def am_h208 : List (List Nat) := [[], [], [], [1726, 1728, 60, 134, 1729], [], [], [], [], [], []]
def am_g208 : List (Nat × Nat) := []
def am_m209 : amM := ([(0, .aload_n 0, 0, 0), (1, .iload_n 1, 0, 0), (2, .iload_n 2, 0, 0), (3, .invokevirtual 85, 208, 0), (6, .aload_n 0, 0, 0), (7, .iload_n 2, 0, 0), (8, .iload_n 3, 0, 0), (9, .invokevirtual 85, 208, 0), (12, .iadd, 0, 0), (13, .aload_n 0, 0, 0), (14, .iload_n 1, 0, 0), (15, .iload_n 3, 0, 0),
  (16, .invokevirtual 85, 208, 0), (19, .iadd, 0, 0), (20, .ireturn, 0, 0)], 4, 4, false, (some .int), [], 11)
def am_n209 : amN := (yX12_coveredIn, cX12_coveredIn, [])
def am_h209 : List (List Nat) := [[], [], [], [1722, 1724, 59, 134, 1725], [], [], [], [1722, 1724, 59, 134, 1725], [], [], [], [], [1722, 1724, 59, 134, 1725], [], []]
def am_g209 : List (Nat × Nat) := []
def am_m210 : amM := ([(0, .aload_n 0, 0, 0), (1, .iload_n 1, 0, 0), (2, .iload_n 2, 0, 0), (3, .iload_n 3, 0, 0), (4, .invokevirtual 88, 209, 0), (7, .ifCond .ne 7, 14, 0), (10, .iconst 1, 0, 0), (11, .goto 4, 15, 0), (14, .iconst 0, 0, 0), (15, .ireturn, 0, 0)], 4, 4, false, (some .boolean), [], 11)
def am_n210 : amN := (yX12_isFree, cX12_isFree, [])
def am_h210 : List (List Nat) := [[], [], [], [], [1718, 1720, 58, 134, 1721], [], [], [], [], []]
def am_g210 : List (Nat × Nat) := []
def am_m211 : amM := ([(0, .aload_n 0, 0, 0), (1, .iconst 0, 0, 0), (2, .putfield 92, 11, 12), (5, .iconst 0, 0, 0), (6, .istore_n 1, 0, 0), (7, .iload_n 1, 0, 0), (8, .aload_n 0, 0, 0), (9, .invokevirtual 95, 203, 0), (12, .if_icmp .ge 102, 114, 0), (15, .iload_n 1, 0, 0), (16, .iconst 1, 0, 0), (17, .iadd, 0, 0),
  (18, .istore_n 2, 0, 0), (19, .iload_n 2, 0, 0), (20, .aload_n 0, 0, 0), (21, .invokevirtual 95, 203, 0), (24, .if_icmp .ge 84, 108, 0), (27, .aload_n 0, 0, 0), (28, .iload_n 1, 0, 0), (29, .iload_n 2, 0, 0), (30, .invokevirtual 81, 204, 0), (33, .istore_n 3, 0, 0), (34, .iload_n 3, 0, 0), (35, .iload_n 2, 0, 0),
  (36, .if_icmp .ge 6, 42, 0), (39, .goto 63, 102, 0), (42, .aload_n 0, 0, 0), (43, .getfield 25, 11, 8), (46, .aload_n 0, 0, 0), (47, .getfield 92, 11, 12), (50, .iload_n 1, 0, 0), (51, .iastore, 0, 0), (52, .aload_n 0, 0, 0), (53, .getfield 28, 11, 9), (56, .aload_n 0, 0, 0), (57, .getfield 92, 11, 12),
  (60, .iload_n 2, 0, 0), (61, .iastore, 0, 0), (62, .aload_n 0, 0, 0), (63, .getfield 31, 11, 10), (66, .aload_n 0, 0, 0), (67, .getfield 92, 11, 12), (70, .iload_n 3, 0, 0), (71, .iastore, 0, 0), (72, .aload_n 0, 0, 0), (73, .getfield 34, 11, 11), (76, .aload_n 0, 0, 0), (77, .getfield 92, 11, 12),
  (80, .iconst 1, 0, 0), (81, .iload_n 1, 0, 0), (82, .ishl, 0, 0), (83, .iconst 1, 0, 0), (84, .iload_n 2, 0, 0), (85, .ishl, 0, 0), (86, .ior, 0, 0), (87, .iconst 1, 0, 0), (88, .iload_n 3, 0, 0), (89, .ishl, 0, 0), (90, .ior, 0, 0), (91, .iastore, 0, 0),
  (92, .aload_n 0, 0, 0), (93, .dup, 0, 0), (94, .getfield 92, 11, 12), (97, .iconst 1, 0, 0), (98, .iadd, 0, 0), (99, .putfield 92, 11, 12), (102, .iinc 2 1, 0, 0), (105, .goto (-86), 19, 0), (108, .iinc 1 1, 0, 0), (111, .goto (-104), 7, 0), (114, .return_, 0, 0)], 4, 1, false, none, [], 11)
def am_n211 : amN := (yX12_laysTriples, cX12_laysTriples, [])
def am_h211 : List (List Nat) := [[], [], [1544], [], [], [], [], [1702, 1704, 54, 134, 1705], [], [], [], [], [], [], [], [1702, 1704, 54, 134, 1705], [], [], [], [], [1726, 1728, 60, 134, 1729], [], [], [], [], [], [], [1540], [], [1544], [], [], [], [1541], [], [1544], [], [], [], [1542], [], [1544], [], [], [], [1543], [], [1544], [], [], [], [], [], [], [], [], [], [], [], [], [], [], [1544], [], [], [1544], [], [], [], [], []]
def am_g211 : List (Nat × Nat) := []
def am_m212 : amM := ([(0, .iconst 0, 0, 0), (1, .istore_n 2, 0, 0), (2, .iload_n 2, 0, 0), (3, .aload_n 0, 0, 0), (4, .getfield 92, 11, 12), (7, .if_icmp .ge 21, 28, 0), (10, .aload_n 0, 0, 0), (11, .getfield 34, 11, 11), (14, .iload_n 2, 0, 0), (15, .iaload, 0, 0), (16, .iload_n 1, 0, 0), (17, .if_icmp .ne 5, 22, 0),
  (20, .iload_n 2, 0, 0), (21, .ireturn, 0, 0), (22, .iinc 2 1, 0, 0), (25, .goto (-23), 2, 0), (28, .iconst (-1), 0, 0), (29, .ireturn, 0, 0)], 3, 2, false, (some .int), [], 11)
def am_n212 : amN := (yX12_numberOf, cX12_numberOf, [])
def am_h212 : List (List Nat) := [[], [], [], [], [1544], [], [], [1543], [], [], [], [], [], [], [], [], [], []]
def am_g212 : List (Nat × Nat) := []
def am_m213 : amM := ([(0, .aload_n 0, 0, 0), (1, .invokevirtual 99, 211, 0), (4, .aload_n 0, 0, 0), (5, .getfield 92, 11, 12), (8, .ireturn, 0, 0)], 1, 1, false, (some .int), [], 11)
def am_n213 : amN := (yX12_triplesMany, cX12_triplesMany, [])
def am_h213 : List (List Nat) := [[], [1743, 1745, 64, 134, 1746], [], [1544], []]
def am_g213 : List (Nat × Nat) := []
def am_m214 : amM := ([(0, .aload_n 0, 0, 0), (1, .invokevirtual 95, 203, 0), (4, .aload_n 0, 0, 0), (5, .invokevirtual 95, 203, 0), (8, .iconst 1, 0, 0), (9, .isub, 0, 0), (10, .imul, 0, 0), (11, .iconst 2, 0, 0), (12, .idiv, 0, 0), (13, .ireturn, 0, 0)], 1, 1, false, (some .int), [], 11)
def am_n214 : amN := (yX12_pairsMany, cX12_pairsMany, [])
def am_h214 : List (List Nat) := [[], [1702, 1704, 54, 134, 1705], [], [1702, 1704, 54, 134, 1705], [], [], [], [], [], []]
def am_g214 : List (Nat × Nat) := []
def am_m215 : amM := ([(0, .aload_n 0, 0, 0), (1, .invokevirtual 102, 214, 0), (4, .iconst 3, 0, 0), (5, .aload_n 0, 0, 0), (6, .invokevirtual 105, 213, 0), (9, .imul, 0, 0), (10, .isub, 0, 0), (11, .ireturn, 0, 0)], 1, 1, false, (some .int), [], 11)
def am_n215 : amN := (yX12_uncoveredMany, cX12_uncoveredMany, [])
def am_h215 : List (List Nat) := [[], [1767, 1769, 67, 134, 1770], [], [], [1739, 1741, 63, 134, 1742], [], [], []]
def am_g215 : List (Nat × Nat) := []
def am_m216 : amM := ([(0, .aload_n 0, 0, 0), (1, .invokevirtual 99, 211, 0), (4, .aload_n 0, 0, 0), (5, .iconst 0, 0, 0), (6, .putfield 108, 11, 14), (9, .iconst 0, 0, 0), (10, .istore_n 1, 0, 0), (11, .iload_n 1, 0, 0), (12, .aload_n 0, 0, 0), (13, .getfield 92, 11, 12), (16, .if_icmp .ge 122, 138, 0), (19, .iload_n 1, 0, 0),
  (20, .iconst 1, 0, 0), (21, .iadd, 0, 0), (22, .istore_n 2, 0, 0), (23, .iload_n 2, 0, 0), (24, .aload_n 0, 0, 0), (25, .getfield 92, 11, 12), (28, .if_icmp .ge 104, 132, 0), (31, .aload_n 0, 0, 0), (32, .getfield 34, 11, 11), (35, .iload_n 1, 0, 0), (36, .iaload, 0, 0), (37, .aload_n 0, 0, 0),
  (38, .getfield 34, 11, 11), (41, .iload_n 2, 0, 0), (42, .iaload, 0, 0), (43, .iand, 0, 0), (44, .ifCond .ne 6, 50, 0), (47, .goto 79, 126, 0), (50, .iload_n 2, 0, 0), (51, .iconst 1, 0, 0), (52, .iadd, 0, 0), (53, .istore_n 3, 0, 0), (54, .iload_n 3, 0, 0), (55, .aload_n 0, 0, 0),
  (56, .getfield 92, 11, 12), (59, .if_icmp .ge 67, 126, 0), (62, .aload_n 0, 0, 0), (63, .getfield 34, 11, 11), (66, .iload_n 1, 0, 0), (67, .iaload, 0, 0), (68, .aload_n 0, 0, 0), (69, .getfield 34, 11, 11), (72, .iload_n 2, 0, 0), (73, .iaload, 0, 0), (74, .ixor, 0, 0), (75, .aload_n 0, 0, 0),
  (76, .getfield 34, 11, 11), (79, .iload_n 3, 0, 0), (80, .iaload, 0, 0), (81, .ixor, 0, 0), (82, .istore 4, 0, 0), (84, .aload_n 0, 0, 0), (85, .iload 4, 0, 0), (87, .invokevirtual 111, 221, 0), (90, .ifCond .eq 12, 102, 0), (93, .aload_n 0, 0, 0), (94, .iload 4, 0, 0), (96, .invokevirtual 115, 212, 0),
  (99, .goto 4, 103, 0), (102, .iconst (-1), 0, 0), (103, .istore 5, 0, 0), (105, .iload 5, 0, 0), (107, .iload_n 3, 0, 0), (108, .if_icmp .le 12, 120, 0), (111, .aload_n 0, 0, 0), (112, .iload_n 1, 0, 0), (113, .iload_n 2, 0, 0), (114, .iload_n 3, 0, 0), (115, .iload 5, 0, 0), (117, .invokevirtual 119, 217, 0),
  (120, .iinc 3 1, 0, 0), (123, .goto (-69), 54, 0), (126, .iinc 2 1, 0, 0), (129, .goto (-106), 23, 0), (132, .iinc 1 1, 0, 0), (135, .goto (-124), 11, 0), (138, .return_, 0, 0)], 6, 1, false, none, [], 11)
def am_n216 : amN := (yX12_laysQuads, cX12_laysQuads, [])
def am_h216 : List (List Nat) := [[], [1743, 1745, 64, 134, 1746], [], [], [1546], [], [], [], [], [1544], [], [], [], [], [], [], [], [1544], [], [], [1543], [], [], [], [1543], [], [], [], [], [], [], [], [], [], [], [], [1544], [], [], [1543], [], [], [], [1543], [], [], [], [], [1543], [], [], [], [], [], [], [1779, 1781, 70, 134, 1782], [], [], [], [1788, 1790, 71, 134, 1791], [], [], [], [], [], [], [], [], [], [], [], [1792, 1794, 72, 134, 1795], [], [], [], [], [], [], []]
def am_g216 : List (Nat × Nat) := []
def am_m217 : amM := ([(0, .aload_n 0, 0, 0), (1, .getfield 108, 11, 14), (4, .sipush 200, 0, 0), (7, .if_icmp .ne 4, 11, 0), (10, .return_, 0, 0), (11, .aload_n 0, 0, 0), (12, .getfield 37, 11, 13), (15, .iconst 4, 0, 0), (16, .aload_n 0, 0, 0), (17, .getfield 108, 11, 14), (20, .imul, 0, 0), (21, .iload_n 1, 0, 0),
  (22, .iastore, 0, 0), (23, .aload_n 0, 0, 0), (24, .getfield 37, 11, 13), (27, .iconst 4, 0, 0), (28, .aload_n 0, 0, 0), (29, .getfield 108, 11, 14), (32, .imul, 0, 0), (33, .iconst 1, 0, 0), (34, .iadd, 0, 0), (35, .iload_n 2, 0, 0), (36, .iastore, 0, 0), (37, .aload_n 0, 0, 0),
  (38, .getfield 37, 11, 13), (41, .iconst 4, 0, 0), (42, .aload_n 0, 0, 0), (43, .getfield 108, 11, 14), (46, .imul, 0, 0), (47, .iconst 2, 0, 0), (48, .iadd, 0, 0), (49, .iload_n 3, 0, 0), (50, .iastore, 0, 0), (51, .aload_n 0, 0, 0), (52, .getfield 37, 11, 13), (55, .iconst 4, 0, 0),
  (56, .aload_n 0, 0, 0), (57, .getfield 108, 11, 14), (60, .imul, 0, 0), (61, .iconst 3, 0, 0), (62, .iadd, 0, 0), (63, .iload 4, 0, 0), (65, .iastore, 0, 0), (66, .aload_n 0, 0, 0), (67, .dup, 0, 0), (68, .getfield 108, 11, 14), (71, .iconst 1, 0, 0), (72, .iadd, 0, 0),
  (73, .putfield 108, 11, 14), (76, .return_, 0, 0)], 5, 5, false, none, [], 11)
def am_n217 : amN := (yX12_addsQuad, cX12_addsQuad, [])
def am_h217 : List (List Nat) := [[], [1546], [], [], [], [], [1545], [], [], [1546], [], [], [], [], [1545], [], [], [1546], [], [], [], [], [], [], [1545], [], [], [1546], [], [], [], [], [], [], [1545], [], [], [1546], [], [], [], [], [], [], [], [1546], [], [], [1546], []]
def am_g217 : List (Nat × Nat) := []
def am_m218 : amM := ([(0, .aload_n 0, 0, 0), (1, .getfield 34, 11, 11), (4, .aload_n 0, 0, 0), (5, .getfield 37, 11, 13), (8, .iconst 4, 0, 0), (9, .iload_n 1, 0, 0), (10, .imul, 0, 0), (11, .iaload, 0, 0), (12, .iaload, 0, 0), (13, .aload_n 0, 0, 0), (14, .getfield 34, 11, 11), (17, .aload_n 0, 0, 0),
  (18, .getfield 37, 11, 13), (21, .iconst 4, 0, 0), (22, .iload_n 1, 0, 0), (23, .imul, 0, 0), (24, .iconst 1, 0, 0), (25, .iadd, 0, 0), (26, .iaload, 0, 0), (27, .iaload, 0, 0), (28, .ior, 0, 0), (29, .aload_n 0, 0, 0), (30, .getfield 34, 11, 11), (33, .aload_n 0, 0, 0),
  (34, .getfield 37, 11, 13), (37, .iconst 4, 0, 0), (38, .iload_n 1, 0, 0), (39, .imul, 0, 0), (40, .iconst 2, 0, 0), (41, .iadd, 0, 0), (42, .iaload, 0, 0), (43, .iaload, 0, 0), (44, .ior, 0, 0), (45, .aload_n 0, 0, 0), (46, .getfield 34, 11, 11), (49, .aload_n 0, 0, 0),
  (50, .getfield 37, 11, 13), (53, .iconst 4, 0, 0), (54, .iload_n 1, 0, 0), (55, .imul, 0, 0), (56, .iconst 3, 0, 0), (57, .iadd, 0, 0), (58, .iaload, 0, 0), (59, .iaload, 0, 0), (60, .ior, 0, 0), (61, .ireturn, 0, 0)], 2, 2, false, (some .int), [], 11)
def am_n218 : amN := (yX12_quadPoints, cX12_quadPoints, [])
def am_h218 : List (List Nat) := [[], [1543], [], [1545], [], [], [], [], [], [], [1543], [], [1545], [], [], [], [], [], [], [], [], [], [1543], [], [1545], [], [], [], [], [], [], [], [], [], [1543], [], [1545], [], [], [], [], [], [], [], [], []]
def am_g218 : List (Nat × Nat) := []
def am_m219 : amM := ([(0, .aload_n 0, 0, 0), (1, .iload_n 1, 0, 0), (2, .invokevirtual 123, 218, 0), (5, .iconst 1, 0, 0), (6, .iload_n 2, 0, 0), (7, .ishl, 0, 0), (8, .iconst (-1), 0, 0), (9, .ixor, 0, 0), (10, .iand, 0, 0), (11, .istore_n 3, 0, 0), (12, .iconst 0, 0, 0), (13, .istore 4, 0, 0),
  (15, .iload 4, 0, 0), (17, .iconst 4, 0, 0), (18, .if_icmp .ge 44, 62, 0), (21, .aload_n 0, 0, 0), (22, .getfield 34, 11, 11), (25, .aload_n 0, 0, 0), (26, .getfield 37, 11, 13), (29, .iconst 4, 0, 0), (30, .iload_n 1, 0, 0), (31, .imul, 0, 0), (32, .iload 4, 0, 0), (34, .iadd, 0, 0),
  (35, .iaload, 0, 0), (36, .iaload, 0, 0), (37, .istore 5, 0, 0), (39, .iload 5, 0, 0), (41, .iload_n 2, 0, 0), (42, .ishr, 0, 0), (43, .iconst 1, 0, 0), (44, .iand, 0, 0), (45, .iconst 1, 0, 0), (46, .if_icmp .ne 10, 56, 0), (49, .iload_n 3, 0, 0), (50, .iload 5, 0, 0),
  (52, .iconst (-1), 0, 0), (53, .ixor, 0, 0), (54, .iand, 0, 0), (55, .istore_n 3, 0, 0), (56, .iinc 4 1, 0, 0), (59, .goto (-44), 15, 0), (62, .iload_n 3, 0, 0), (63, .invokestatic 126, 342, 0), (66, .ireturn, 0, 0)], 6, 3, false, (some .int), [], 11)
def am_n219 : amN := (yX12_oppositeOf, cX12_oppositeOf, [])
def am_h219 : List (List Nat) := [[], [], [1939, 1941, 89, 134, 1942], [], [], [], [], [], [], [], [], [], [], [], [], [], [1543], [], [1545], [], [], [], [], [], [], [], [], [], [], [], [], [], [], [], [], [], [], [], [], [], [], [], [], [1784, 1785, 140, 1786], []]
def am_g219 : List (Nat × Nat) := []
def am_m220 : amM := ([(0, .iconst 0, 0, 0), (1, .istore_n 2, 0, 0), (2, .iload_n 2, 0, 0), (3, .iconst 4, 0, 0), (4, .if_icmp .ge 135, 139, 0), (7, .aload_n 0, 0, 0), (8, .getfield 37, 11, 13), (11, .iconst 4, 0, 0), (12, .iload_n 1, 0, 0), (13, .imul, 0, 0), (14, .iload_n 2, 0, 0), (15, .iadd, 0, 0),
  (16, .iaload, 0, 0), (17, .istore_n 3, 0, 0), (18, .aload_n 0, 0, 0), (19, .getfield 40, 11, 15), (22, .bipush 6, 0, 0), (24, .iload_n 2, 0, 0), (25, .imul, 0, 0), (26, .aload_n 0, 0, 0), (27, .getfield 25, 11, 8), (30, .iload_n 3, 0, 0), (31, .iaload, 0, 0), (32, .iastore, 0, 0),
  (33, .aload_n 0, 0, 0), (34, .getfield 40, 11, 15), (37, .bipush 6, 0, 0), (39, .iload_n 2, 0, 0), (40, .imul, 0, 0), (41, .iconst 1, 0, 0), (42, .iadd, 0, 0), (43, .aload_n 0, 0, 0), (44, .getfield 28, 11, 9), (47, .iload_n 3, 0, 0), (48, .iaload, 0, 0), (49, .iastore, 0, 0),
  (50, .aload_n 0, 0, 0), (51, .getfield 40, 11, 15), (54, .bipush 6, 0, 0), (56, .iload_n 2, 0, 0), (57, .imul, 0, 0), (58, .iconst 2, 0, 0), (59, .iadd, 0, 0), (60, .aload_n 0, 0, 0), (61, .getfield 31, 11, 10), (64, .iload_n 3, 0, 0), (65, .iaload, 0, 0), (66, .iastore, 0, 0),
  (67, .aload_n 0, 0, 0), (68, .getfield 40, 11, 15), (71, .bipush 6, 0, 0), (73, .iload_n 2, 0, 0), (74, .imul, 0, 0), (75, .iconst 3, 0, 0), (76, .iadd, 0, 0), (77, .aload_n 0, 0, 0), (78, .iload_n 1, 0, 0), (79, .aload_n 0, 0, 0), (80, .getfield 25, 11, 8), (83, .iload_n 3, 0, 0),
  (84, .iaload, 0, 0), (85, .invokevirtual 131, 219, 0), (88, .iastore, 0, 0), (89, .aload_n 0, 0, 0), (90, .getfield 40, 11, 15), (93, .bipush 6, 0, 0), (95, .iload_n 2, 0, 0), (96, .imul, 0, 0), (97, .iconst 4, 0, 0), (98, .iadd, 0, 0), (99, .aload_n 0, 0, 0), (100, .iload_n 1, 0, 0),
  (101, .aload_n 0, 0, 0), (102, .getfield 28, 11, 9), (105, .iload_n 3, 0, 0), (106, .iaload, 0, 0), (107, .invokevirtual 131, 219, 0), (110, .iastore, 0, 0), (111, .aload_n 0, 0, 0), (112, .getfield 40, 11, 15), (115, .bipush 6, 0, 0), (117, .iload_n 2, 0, 0), (118, .imul, 0, 0), (119, .iconst 5, 0, 0),
  (120, .iadd, 0, 0), (121, .aload_n 0, 0, 0), (122, .iload_n 1, 0, 0), (123, .aload_n 0, 0, 0), (124, .getfield 31, 11, 10), (127, .iload_n 3, 0, 0), (128, .iaload, 0, 0), (129, .invokevirtual 131, 219, 0), (132, .iastore, 0, 0), (133, .iinc 2 1, 0, 0), (136, .goto (-134), 2, 0), (139, .iconst 0, 0, 0),
  (140, .istore_n 2, 0, 0), (141, .iload_n 2, 0, 0), (142, .bipush 24, 0, 0), (144, .if_icmp .ge 35, 179, 0), (147, .aload_n 0, 0, 0), (148, .aload_n 0, 0, 0), (149, .getfield 40, 11, 15), (152, .iload_n 2, 0, 0), (153, .iaload, 0, 0), (154, .aload_n 0, 0, 0), (155, .getfield 40, 11, 15), (158, .iload_n 2, 0, 0),
  (159, .iconst 1, 0, 0), (160, .iadd, 0, 0), (161, .iaload, 0, 0), (162, .aload_n 0, 0, 0), (163, .getfield 40, 11, 15), (166, .iload_n 2, 0, 0), (167, .iconst 2, 0, 0), (168, .iadd, 0, 0), (169, .iaload, 0, 0), (170, .invokevirtual 134, 207, 0), (173, .iinc 2 6, 0, 0), (176, .goto (-35), 141, 0),
  (179, .iconst 0, 0, 0), (180, .istore_n 2, 0, 0), (181, .iload_n 2, 0, 0), (182, .bipush 24, 0, 0), (184, .if_icmp .ge 37, 221, 0), (187, .aload_n 0, 0, 0), (188, .aload_n 0, 0, 0), (189, .getfield 40, 11, 15), (192, .iload_n 2, 0, 0), (193, .iconst 3, 0, 0), (194, .iadd, 0, 0), (195, .iaload, 0, 0),
  (196, .aload_n 0, 0, 0), (197, .getfield 40, 11, 15), (200, .iload_n 2, 0, 0), (201, .iconst 4, 0, 0), (202, .iadd, 0, 0), (203, .iaload, 0, 0), (204, .aload_n 0, 0, 0), (205, .getfield 40, 11, 15), (208, .iload_n 2, 0, 0), (209, .iconst 5, 0, 0), (210, .iadd, 0, 0), (211, .iaload, 0, 0),
  (212, .invokevirtual 137, 206, 0), (215, .iinc 2 6, 0, 0), (218, .goto (-37), 181, 0), (221, .aload_n 0, 0, 0), (222, .getfield 7, 11, 0), (225, .iconst 1, 0, 0), (226, .dup2, 0, 0), (227, .iaload, 0, 0), (228, .iconst 1, 0, 0), (229, .iadd, 0, 0), (230, .iastore, 0, 0), (231, .aload_n 0, 0, 0),
  (232, .getfield 7, 11, 0), (235, .iconst 3, 0, 0), (236, .dup2, 0, 0), (237, .iaload, 0, 0), (238, .iconst 4, 0, 0), (239, .iadd, 0, 0), (240, .iastore, 0, 0), (241, .return_, 0, 0)], 4, 2, false, none, [], 11)
def am_n220 : amN := (yX12_switchesQuad, cX12_switchesQuad, [])
def am_h220 : List (List Nat) := [[], [], [], [], [], [], [1545], [], [], [], [], [], [], [], [], [1547], [], [], [], [], [1540], [], [], [], [], [1547], [], [], [], [], [], [], [1541], [], [], [], [], [1547], [], [], [], [], [], [], [1542], [], [], [], [], [1547], [], [], [], [], [], [], [], [], [1540], [], [], [1951, 1953, 91, 134, 1954], [], [], [1547], [], [], [], [], [], [], [], [], [1541], [], [], [1951, 1953, 91, 134, 1954], [], [], [1547], [], [], [], [], [], [], [], [], [1542], [], [], [1951, 1953, 91, 134, 1954], [], [], [], [], [], [], [], [], [], [], [1547], [], [], [], [1547], [], [], [], [], [], [1547], [], [], [], [], [1864, 1866, 80, 134, 1867], [], [], [], [], [], [], [], [], [], [1547], [], [], [], [], [], [1547], [], [], [], [], [], [1547], [], [], [], [], [1730, 1732, 61, 134, 1733], [], [], [], [1532], [], [], [], [], [], [], [], [1532], [], [], [], [], [], [], []]
def am_g220 : List (Nat × Nat) := []
def am_m221 : amM := ([(0, .iload_n 1, 0, 0), (1, .invokestatic 140, 343, 0), (4, .iconst 3, 0, 0), (5, .if_icmp .eq 5, 10, 0), (8, .iconst 0, 0, 0), (9, .ireturn, 0, 0), (10, .iload_n 1, 0, 0), (11, .invokestatic 126, 342, 0), (14, .istore_n 2, 0, 0), (15, .iload_n 1, 0, 0), (16, .iload_n 1, 0, 0), (17, .iconst 1, 0, 0),
  (18, .isub, 0, 0), (19, .iand, 0, 0), (20, .invokestatic 126, 342, 0), (23, .istore_n 3, 0, 0), (24, .aload_n 0, 0, 0), (25, .iload_n 2, 0, 0), (26, .iload_n 3, 0, 0), (27, .invokevirtual 81, 204, 0), (30, .istore 4, 0, 0), (32, .iload 4, 0, 0), (34, .iconst (-1), 0, 0), (35, .if_icmp .eq 17, 52, 0),
  (38, .iload_n 1, 0, 0), (39, .iload 4, 0, 0), (41, .ishr, 0, 0), (42, .iconst 1, 0, 0), (43, .iand, 0, 0), (44, .iconst 1, 0, 0), (45, .if_icmp .ne 7, 52, 0), (48, .iconst 1, 0, 0), (49, .goto 4, 53, 0), (52, .iconst 0, 0, 0), (53, .ireturn, 0, 0)], 5, 2, false, (some .boolean), [], 11)
def am_n221 : amN := (yX12_isTriple, cX12_isTriple, [])
def am_h221 : List (List Nat) := [[], [1783, 568, 140, 569], [], [], [], [], [], [1784, 1785, 140, 1786], [], [], [], [], [], [], [1784, 1785, 140, 1786], [], [], [], [], [1726, 1728, 60, 134, 1729], [], [], [], [], [], [], [], [], [], [], [], [], [], [], []]
def am_g221 : List (Nat × Nat) := []
def am_m222 : amM := ([(0, .aload_n 0, 0, 0), (1, .invokevirtual 99, 211, 0), (4, .iconst 0, 0, 0), (5, .istore_n 1, 0, 0), (6, .iconst 0, 0, 0), (7, .istore_n 2, 0, 0), (8, .iload_n 2, 0, 0), (9, .aload_n 0, 0, 0), (10, .getfield 92, 11, 12), (13, .if_icmp .ge 102, 115, 0), (16, .iload_n 2, 0, 0), (17, .iconst 1, 0, 0),
  (18, .iadd, 0, 0), (19, .istore_n 3, 0, 0), (20, .iload_n 3, 0, 0), (21, .aload_n 0, 0, 0), (22, .getfield 92, 11, 12), (25, .if_icmp .ge 84, 109, 0), (28, .aload_n 0, 0, 0), (29, .getfield 34, 11, 11), (32, .iload_n 2, 0, 0), (33, .iaload, 0, 0), (34, .aload_n 0, 0, 0), (35, .getfield 34, 11, 11),
  (38, .iload_n 3, 0, 0), (39, .iaload, 0, 0), (40, .iand, 0, 0), (41, .ifCond .ne 6, 47, 0), (44, .goto 59, 103, 0), (47, .iload_n 3, 0, 0), (48, .iconst 1, 0, 0), (49, .iadd, 0, 0), (50, .istore 4, 0, 0), (52, .iload 4, 0, 0), (54, .aload_n 0, 0, 0), (55, .getfield 92, 11, 12),
  (58, .if_icmp .ge 45, 103, 0), (61, .iload_n 1, 0, 0), (62, .aload_n 0, 0, 0), (63, .aload_n 0, 0, 0), (64, .getfield 34, 11, 11), (67, .iload_n 2, 0, 0), (68, .iaload, 0, 0), (69, .aload_n 0, 0, 0), (70, .getfield 34, 11, 11), (73, .iload_n 3, 0, 0), (74, .iaload, 0, 0), (75, .ixor, 0, 0),
  (76, .aload_n 0, 0, 0), (77, .getfield 34, 11, 11), (80, .iload 4, 0, 0), (82, .iaload, 0, 0), (83, .ixor, 0, 0), (84, .invokevirtual 111, 221, 0), (87, .ifCond .eq 7, 94, 0), (90, .iconst 1, 0, 0), (91, .goto 4, 95, 0), (94, .iconst 0, 0, 0), (95, .iadd, 0, 0), (96, .istore_n 1, 0, 0),
  (97, .iinc 4 1, 0, 0), (100, .goto (-48), 52, 0), (103, .iinc 3 1, 0, 0), (106, .goto (-86), 20, 0), (109, .iinc 2 1, 0, 0), (112, .goto (-104), 8, 0), (115, .iload_n 1, 0, 0), (116, .iconst 4, 0, 0), (117, .idiv, 0, 0), (118, .ireturn, 0, 0)], 5, 1, false, (some .int), [], 11)
def am_n222 : amN := (yX12_quadsCounted, cX12_quadsCounted, [])
def am_h222 : List (List Nat) := [[], [1743, 1745, 64, 134, 1746], [], [], [], [], [], [], [1544], [], [], [], [], [], [], [], [1544], [], [], [1543], [], [], [], [1543], [], [], [], [], [], [], [], [], [], [], [], [1544], [], [], [], [], [1543], [], [], [], [1543], [], [], [], [], [1543], [], [], [], [1779, 1781, 70, 134, 1782], [], [], [], [], [], [], [], [], [], [], [], [], [], [], [], []]
def am_g222 : List (Nat × Nat) := []
def am_m223 : amM := ([(0, .aload_n 0, 0, 0), (1, .invokevirtual 143, 201, 0), (4, .aload_n 0, 0, 0), (5, .iload_n 1, 0, 0), (6, .invokevirtual 146, 220, 0), (9, .aload_n 0, 0, 0), (10, .invokevirtual 149, 222, 0), (13, .istore_n 2, 0, 0), (14, .aload_n 0, 0, 0), (15, .invokevirtual 152, 202, 0), (18, .aload_n 0, 0, 0), (19, .invokevirtual 99, 211, 0),
  (22, .iload_n 2, 0, 0), (23, .ireturn, 0, 0)], 3, 2, false, (some .int), [], 11)
def am_n223 : amN := (yX12_quadsBehind, cX12_quadsBehind, [])
def am_h223 : List (List Nat) := [[], [1872, 1874, 81, 134, 1875], [], [], [1967, 1969, 92, 134, 1970], [], [1979, 1981, 94, 134, 1982], [], [], [1876, 1878, 82, 134, 1879], [], [1743, 1745, 64, 134, 1746], [], []]
def am_g223 : List (Nat × Nat) := []
def am_m224 : amM := ([(0, .aload_n 0, 0, 0), (1, .invokevirtual 155, 216, 0), (4, .iconst (-1), 0, 0), (5, .istore_n 2, 0, 0), (6, .iconst 0, 0, 0), (7, .istore_n 3, 0, 0), (8, .iconst 0, 0, 0), (9, .istore 4, 0, 0), (11, .iload 4, 0, 0), (13, .aload_n 0, 0, 0), (14, .getfield 108, 11, 14), (17, .if_icmp .ge 50, 67, 0),
  (20, .aload_n 0, 0, 0), (21, .iload 4, 0, 0), (23, .invokevirtual 158, 223, 0), (26, .istore 5, 0, 0), (28, .iload_n 2, 0, 0), (29, .iconst (-1), 0, 0), (30, .if_icmp .eq 25, 55, 0), (33, .iload_n 1, 0, 0), (34, .ifCond .eq 12, 46, 0), (37, .iload 5, 0, 0), (39, .iload_n 3, 0, 0), (40, .if_icmp .gt 15, 55, 0),
  (43, .goto 18, 61, 0), (46, .iload 5, 0, 0), (48, .iload_n 3, 0, 0), (49, .if_icmp .lt 6, 55, 0), (52, .goto 9, 61, 0), (55, .iload 4, 0, 0), (57, .istore_n 2, 0, 0), (58, .iload 5, 0, 0), (60, .istore_n 3, 0, 0), (61, .iinc 4 1, 0, 0), (64, .goto (-53), 11, 0), (67, .iload_n 2, 0, 0),
  (68, .ireturn, 0, 0)], 6, 2, false, (some .int), [], 11)
def am_n224 : amN := (yX12_bestQuad, cX12_bestQuad, [])
def am_h224 : List (List Nat) := [[], [1775, 1777, 69, 134, 1778], [], [], [], [], [], [], [], [], [1546], [], [], [], [1975, 1977, 93, 134, 1978], [], [], [], [], [], [], [], [], [], [], [], [], [], [], [], [], [], [], [], [], [], []]
def am_g224 : List (Nat × Nat) := []
def am_m225 : amM := ([(0, .aload_n 0, 0, 0), (1, .iconst 0, 0, 0), (2, .putfield 161, 11, 17), (5, .iload_n 3, 0, 0), (6, .istore 4, 0, 0), (8, .aload_n 0, 0, 0), (9, .getfield 161, 11, 17), (12, .bipush 15, 0, 0), (14, .if_icmp .ge 70, 84, 0), (17, .aload_n 0, 0, 0), (18, .getfield 43, 11, 16), (21, .aload_n 0, 0, 0),
  (22, .getfield 161, 11, 17), (25, .iload 4, 0, 0), (27, .iastore, 0, 0), (28, .aload_n 0, 0, 0), (29, .dup, 0, 0), (30, .getfield 161, 11, 17), (33, .iconst 1, 0, 0), (34, .iadd, 0, 0), (35, .putfield 161, 11, 17), (38, .aload_n 0, 0, 0), (39, .iload 4, 0, 0), (41, .aload_n 0, 0, 0),
  (42, .getfield 161, 11, 17), (45, .iconst 2, 0, 0), (46, .irem, 0, 0), (47, .iconst 1, 0, 0), (48, .if_icmp .ne 7, 55, 0), (51, .iload_n 1, 0, 0), (52, .goto 4, 56, 0), (55, .iload_n 2, 0, 0), (56, .invokevirtual 81, 204, 0), (59, .istore 5, 0, 0), (61, .iload 5, 0, 0), (63, .iconst (-1), 0, 0),
  (64, .if_icmp .ne 5, 69, 0), (67, .iconst 0, 0, 0), (68, .ireturn, 0, 0), (69, .iload 5, 0, 0), (71, .istore 4, 0, 0), (73, .iload 4, 0, 0), (75, .iload_n 3, 0, 0), (76, .if_icmp .ne 5, 81, 0), (79, .iconst 1, 0, 0), (80, .ireturn, 0, 0), (81, .goto (-73), 8, 0), (84, .iconst 0, 0, 0),
  (85, .ireturn, 0, 0)], 6, 4, false, (some .boolean), [], 11)
def am_n225 : amN := (yX12_walks, cX12_walks, [])
def am_h225 : List (List Nat) := [[], [], [1549], [], [], [], [1549], [], [], [], [1548], [], [1549], [], [], [], [], [1549], [], [], [1549], [], [], [], [1549], [], [], [], [], [], [], [], [1726, 1728, 60, 134, 1729], [], [], [], [], [], [], [], [], [], [], [], [], [], [], [], []]
def am_g225 : List (Nat × Nat) := []
def am_m226 : amM := ([(0, .iload_n 3, 0, 0), (1, .iload_n 1, 0, 0), (2, .if_icmp .eq 28, 30, 0), (5, .iload_n 3, 0, 0), (6, .iload_n 2, 0, 0), (7, .if_icmp .eq 23, 30, 0), (10, .aload_n 0, 0, 0), (11, .iload_n 1, 0, 0), (12, .iload_n 2, 0, 0), (13, .invokevirtual 81, 204, 0), (16, .iload_n 3, 0, 0), (17, .if_icmp .eq 13, 30, 0),
  (20, .aload_n 0, 0, 0), (21, .iload_n 1, 0, 0), (22, .iload_n 2, 0, 0), (23, .iload_n 3, 0, 0), (24, .invokevirtual 164, 225, 0), (27, .ifCond .ne 5, 32, 0), (30, .iconst 0, 0, 0), (31, .ireturn, 0, 0), (32, .iconst 1, 0, 0), (33, .istore 4, 0, 0), (35, .iload 4, 0, 0), (37, .aload_n 0, 0, 0),
  (38, .getfield 161, 11, 17), (41, .if_icmp .ge 22, 63, 0), (44, .aload_n 0, 0, 0), (45, .getfield 43, 11, 16), (48, .iload 4, 0, 0), (50, .iaload, 0, 0), (51, .iload_n 3, 0, 0), (52, .if_icmp .ge 5, 57, 0), (55, .iconst 0, 0, 0), (56, .ireturn, 0, 0), (57, .iinc 4 1, 0, 0), (60, .goto (-25), 35, 0),
  (63, .iconst 1, 0, 0), (64, .ireturn, 0, 0)], 5, 4, false, (some .boolean), [], 11)
def am_n226 : amN := (yX12_isCycleFrom, cX12_isCycleFrom, [])
def am_h226 : List (List Nat) := [[], [], [], [], [], [], [], [], [], [1726, 1728, 60, 134, 1729], [], [], [], [], [], [], [2011, 2013, 98, 134, 2014], [], [], [], [], [], [], [], [1549], [], [], [1548], [], [], [], [], [], [], [], [], [], []]
def am_g226 : List (Nat × Nat) := []
def am_m227 : amM := ([(0, .iconst 0, 0, 0), (1, .istore_n 3, 0, 0), (2, .iconst 0, 0, 0), (3, .istore 4, 0, 0), (5, .iload 4, 0, 0), (7, .aload_n 0, 0, 0), (8, .invokevirtual 95, 203, 0), (11, .if_icmp .ge 28, 39, 0), (14, .iload_n 3, 0, 0), (15, .aload_n 0, 0, 0), (16, .iload_n 1, 0, 0), (17, .iload_n 2, 0, 0),
  (18, .iload 4, 0, 0), (20, .invokevirtual 168, 226, 0), (23, .ifCond .eq 7, 30, 0), (26, .iconst 1, 0, 0), (27, .goto 4, 31, 0), (30, .iconst 0, 0, 0), (31, .iadd, 0, 0), (32, .istore_n 3, 0, 0), (33, .iinc 4 1, 0, 0), (36, .goto (-31), 5, 0), (39, .iload_n 3, 0, 0), (40, .ireturn, 0, 0)], 5, 3, false, (some .int), [], 11)
def am_n227 : amN := (yX12_cyclesMany, cX12_cyclesMany, [])
def am_h227 : List (List Nat) := [[], [], [], [], [], [], [1702, 1704, 54, 134, 1705], [], [], [], [], [], [], [2007, 2009, 97, 134, 2010], [], [], [], [], [], [], [], [], [], []]
def am_g227 : List (Nat × Nat) := []
def am_m228 : amM := ([(0, .iload_n 3, 0, 0), (1, .istore 4, 0, 0), (3, .iconst 0, 0, 0), (4, .istore 5, 0, 0), (6, .iload 5, 0, 0), (8, .aload_n 0, 0, 0), (9, .invokevirtual 95, 203, 0), (12, .if_icmp .ge 38, 50, 0), (15, .iload 4, 0, 0), (17, .ifCond .lt 33, 50, 0), (20, .aload_n 0, 0, 0), (21, .iload_n 1, 0, 0),
  (22, .iload_n 2, 0, 0), (23, .iload 5, 0, 0), (25, .invokevirtual 168, 226, 0), (28, .ifCond .ne 6, 34, 0), (31, .goto 13, 44, 0), (34, .iload 4, 0, 0), (36, .ifCond .ne 5, 41, 0), (39, .iconst 1, 0, 0), (40, .ireturn, 0, 0), (41, .iinc 4 (-1), 0, 0), (44, .iinc 5 1, 0, 0), (47, .goto (-41), 6, 0),
  (50, .iconst 0, 0, 0), (51, .ireturn, 0, 0)], 6, 4, false, (some .boolean), [], 11)
def am_n228 : amN := (yX12_laysCycle, cX12_laysCycle, [])
def am_h228 : List (List Nat) := [[], [], [], [], [], [], [1702, 1704, 54, 134, 1705], [], [], [], [], [], [], [], [2007, 2009, 97, 134, 2010], [], [], [], [], [], [], [], [], [], [], []]
def am_g228 : List (Nat × Nat) := []
def am_m229 : amM := ([(0, .lconst 0, 0, 0), (1, .lstore_n 3, 0, 0), (2, .iconst 0, 0, 0), (3, .istore 5, 0, 0), (5, .iload 5, 0, 0), (7, .aload_n 0, 0, 0), (8, .getfield 161, 11, 17), (11, .if_icmp .ge 63, 74, 0), (14, .iconst 1, 0, 0), (15, .iload 5, 0, 0), (17, .iconst 2, 0, 0), (18, .irem, 0, 0),
  (19, .ifCond .ne 7, 26, 0), (22, .iload_n 1, 0, 0), (23, .goto 4, 27, 0), (26, .iload_n 2, 0, 0), (27, .ishl, 0, 0), (28, .iconst 1, 0, 0), (29, .aload_n 0, 0, 0), (30, .getfield 43, 11, 16), (33, .iload 5, 0, 0), (35, .iaload, 0, 0), (36, .ishl, 0, 0), (37, .ior, 0, 0),
  (38, .iconst 1, 0, 0), (39, .aload_n 0, 0, 0), (40, .getfield 43, 11, 16), (43, .iload 5, 0, 0), (45, .iconst 1, 0, 0), (46, .iadd, 0, 0), (47, .aload_n 0, 0, 0), (48, .getfield 161, 11, 17), (51, .irem, 0, 0), (52, .iaload, 0, 0), (53, .ishl, 0, 0), (54, .ior, 0, 0),
  (55, .istore 6, 0, 0), (57, .lload_n 3, 0, 0), (58, .lconst 1, 0, 0), (59, .aload_n 0, 0, 0), (60, .iload 6, 0, 0), (62, .invokevirtual 115, 212, 0), (65, .lshl, 0, 0), (66, .lor, 0, 0), (67, .lstore_n 3, 0, 0), (68, .iinc 5 1, 0, 0), (71, .goto (-66), 5, 0), (74, .lload_n 3, 0, 0),
  (75, .lreturn, 0, 0)], 7, 3, false, (some .long), [], 11)
def am_n229 : amN := (yX12_replacedBy, cX12_replacedBy, [])
def am_h229 : List (List Nat) := [[], [], [], [], [], [], [1549], [], [], [], [], [], [], [], [], [], [], [], [], [1548], [], [], [], [], [], [], [1548], [], [], [], [], [1549], [], [], [], [], [], [], [], [], [], [1788, 1790, 71, 134, 1791], [], [], [], [], [], [], []]
def am_g229 : List (Nat × Nat) := []
def am_m230 : amM := ([(0, .iconst 0, 0, 0), (1, .istore_n 3, 0, 0), (2, .iload_n 3, 0, 0), (3, .aload_n 0, 0, 0), (4, .getfield 161, 11, 17), (7, .if_icmp .ge 43, 50, 0), (10, .aload_n 0, 0, 0), (11, .iload_n 3, 0, 0), (12, .iconst 2, 0, 0), (13, .irem, 0, 0), (14, .ifCond .ne 7, 21, 0), (17, .iload_n 1, 0, 0),
  (18, .goto 4, 22, 0), (21, .iload_n 2, 0, 0), (22, .aload_n 0, 0, 0), (23, .getfield 43, 11, 16), (26, .iload_n 3, 0, 0), (27, .iaload, 0, 0), (28, .aload_n 0, 0, 0), (29, .getfield 43, 11, 16), (32, .iload_n 3, 0, 0), (33, .iconst 1, 0, 0), (34, .iadd, 0, 0), (35, .aload_n 0, 0, 0),
  (36, .getfield 161, 11, 17), (39, .irem, 0, 0), (40, .iaload, 0, 0), (41, .invokevirtual 134, 207, 0), (44, .iinc 3 1, 0, 0), (47, .goto (-45), 2, 0), (50, .iconst 0, 0, 0), (51, .istore_n 3, 0, 0), (52, .iload_n 3, 0, 0), (53, .aload_n 0, 0, 0), (54, .getfield 161, 11, 17), (57, .if_icmp .ge 43, 100, 0),
  (60, .aload_n 0, 0, 0), (61, .iload_n 3, 0, 0), (62, .iconst 2, 0, 0), (63, .irem, 0, 0), (64, .ifCond .ne 7, 71, 0), (67, .iload_n 2, 0, 0), (68, .goto 4, 72, 0), (71, .iload_n 1, 0, 0), (72, .aload_n 0, 0, 0), (73, .getfield 43, 11, 16), (76, .iload_n 3, 0, 0), (77, .iaload, 0, 0),
  (78, .aload_n 0, 0, 0), (79, .getfield 43, 11, 16), (82, .iload_n 3, 0, 0), (83, .iconst 1, 0, 0), (84, .iadd, 0, 0), (85, .aload_n 0, 0, 0), (86, .getfield 161, 11, 17), (89, .irem, 0, 0), (90, .iaload, 0, 0), (91, .invokevirtual 137, 206, 0), (94, .iinc 3 1, 0, 0), (97, .goto (-45), 52, 0),
  (100, .aload_n 0, 0, 0), (101, .getfield 7, 11, 0), (104, .iconst 2, 0, 0), (105, .dup2, 0, 0), (106, .iaload, 0, 0), (107, .iconst 1, 0, 0), (108, .iadd, 0, 0), (109, .iastore, 0, 0), (110, .aload_n 0, 0, 0), (111, .getfield 7, 11, 0), (114, .iconst 3, 0, 0), (115, .dup2, 0, 0),
  (116, .iaload, 0, 0), (117, .aload_n 0, 0, 0), (118, .getfield 161, 11, 17), (121, .iadd, 0, 0), (122, .iastore, 0, 0), (123, .return_, 0, 0)], 4, 3, false, none, [], 11)
def am_n230 : amN := (yX12_switchesCycle, cX12_switchesCycle, [])
def am_h230 : List (List Nat) := [[], [], [], [], [1549], [], [], [], [], [], [], [], [], [], [], [1548], [], [], [], [1548], [], [], [], [], [1549], [], [], [1864, 1866, 80, 134, 1867], [], [], [], [], [], [], [1549], [], [], [], [], [], [], [], [], [], [], [1548], [], [], [], [1548], [], [], [], [], [1549], [], [], [1730, 1732, 61, 134, 1733], [], [], [], [1532], [], [], [], [], [], [], [], [1532], [], [], [], [], [1549], [], [], []]
def am_g230 : List (Nat × Nat) := []
def am_m231 : amM := ([(0, .aload_n 0, 0, 0), (1, .getfield 171, 11, 19), (4, .istore_n 3, 0, 0), (5, .iload_n 3, 0, 0), (6, .ifCond .le 22, 28, 0), (9, .aload_n 0, 0, 0), (10, .getfield 46, 11, 18), (13, .iload_n 3, 0, 0), (14, .iconst 1, 0, 0), (15, .isub, 0, 0), (16, .laload, 0, 0), (17, .lload_n 1, 0, 0),
  (18, .lcmp, 0, 0), (19, .ifCond .le 9, 28, 0), (22, .iinc 3 (-1), 0, 0), (25, .goto (-20), 5, 0), (28, .iload_n 3, 0, 0), (29, .ifCond .le 16, 45, 0), (32, .aload_n 0, 0, 0), (33, .getfield 46, 11, 18), (36, .iload_n 3, 0, 0), (37, .iconst 1, 0, 0), (38, .isub, 0, 0), (39, .laload, 0, 0),
  (40, .lload_n 1, 0, 0), (41, .lcmp, 0, 0), (42, .ifCond .eq 13, 55, 0), (45, .aload_n 0, 0, 0), (46, .getfield 171, 11, 19), (49, .sipush 400, 0, 0), (52, .if_icmp .ne 4, 56, 0), (55, .return_, 0, 0), (56, .aload_n 0, 0, 0), (57, .getfield 171, 11, 19), (60, .istore 4, 0, 0), (62, .iload 4, 0, 0),
  (64, .iload_n 3, 0, 0), (65, .if_icmp .le 25, 90, 0), (68, .aload_n 0, 0, 0), (69, .getfield 46, 11, 18), (72, .iload 4, 0, 0), (74, .aload_n 0, 0, 0), (75, .getfield 46, 11, 18), (78, .iload 4, 0, 0), (80, .iconst 1, 0, 0), (81, .isub, 0, 0), (82, .laload, 0, 0), (83, .lastore, 0, 0),
  (84, .iinc 4 (-1), 0, 0), (87, .goto (-25), 62, 0), (90, .aload_n 0, 0, 0), (91, .getfield 46, 11, 18), (94, .iload_n 3, 0, 0), (95, .lload_n 1, 0, 0), (96, .lastore, 0, 0), (97, .aload_n 0, 0, 0), (98, .dup, 0, 0), (99, .getfield 171, 11, 19), (102, .iconst 1, 0, 0), (103, .iadd, 0, 0),
  (104, .putfield 171, 11, 19), (107, .return_, 0, 0)], 5, 2, false, none, [], 11)
def am_n231 : amN := (yX12_addsTrade, cX12_addsTrade, [])
def am_h231 : List (List Nat) := [[], [1551], [], [], [], [], [1550], [], [], [], [], [], [], [], [], [], [], [], [], [1550], [], [], [], [], [], [], [], [], [1551], [], [], [], [], [1551], [], [], [], [], [], [1550], [], [], [1550], [], [], [], [], [], [], [], [], [1550], [], [], [], [], [], [1551], [], [], [1551], []]
def am_g231 : List (Nat × Nat) := []
def am_m232 : amM := ([(0, .aload_n 0, 0, 0), (1, .invokevirtual 99, 211, 0), (4, .aload_n 0, 0, 0), (5, .iconst 0, 0, 0), (6, .putfield 171, 11, 19), (9, .iconst 0, 0, 0), (10, .istore_n 2, 0, 0), (11, .iload_n 2, 0, 0), (12, .aload_n 0, 0, 0), (13, .invokevirtual 95, 203, 0), (16, .if_icmp .ge 74, 90, 0), (19, .iload_n 2, 0, 0),
  (20, .iconst 1, 0, 0), (21, .iadd, 0, 0), (22, .istore_n 3, 0, 0), (23, .iload_n 3, 0, 0), (24, .aload_n 0, 0, 0), (25, .invokevirtual 95, 203, 0), (28, .if_icmp .ge 56, 84, 0), (31, .iconst 0, 0, 0), (32, .istore 4, 0, 0), (34, .iload 4, 0, 0), (36, .aload_n 0, 0, 0), (37, .invokevirtual 95, 203, 0),
  (40, .if_icmp .ge 38, 78, 0), (43, .aload_n 0, 0, 0), (44, .iload_n 2, 0, 0), (45, .iload_n 3, 0, 0), (46, .iload 4, 0, 0), (48, .invokevirtual 168, 226, 0), (51, .ifCond .eq 21, 72, 0), (54, .aload_n 0, 0, 0), (55, .getfield 161, 11, 17), (58, .iload_n 1, 0, 0), (59, .if_icmp .ne 13, 72, 0), (62, .aload_n 0, 0, 0),
  (63, .aload_n 0, 0, 0), (64, .iload_n 2, 0, 0), (65, .iload_n 3, 0, 0), (66, .invokevirtual 174, 229, 0), (69, .invokevirtual 178, 231, 0), (72, .iinc 4 1, 0, 0), (75, .goto (-41), 34, 0), (78, .iinc 3 1, 0, 0), (81, .goto (-58), 23, 0), (84, .iinc 2 1, 0, 0), (87, .goto (-76), 11, 0), (90, .return_, 0, 0)], 5, 2, false, none, [], 11)
def am_n232 : amN := (yX12_laysTrades, cX12_laysTrades, [])
def am_h232 : List (List Nat) := [[], [1743, 1745, 64, 134, 1746], [], [], [1551], [], [], [], [], [1702, 1704, 54, 134, 1705], [], [], [], [], [], [], [], [1702, 1704, 54, 134, 1705], [], [], [], [], [], [1702, 1704, 54, 134, 1705], [], [], [], [], [], [2007, 2009, 97, 134, 2010], [], [], [1549], [], [], [], [], [], [], [2055, 2057, 103, 134, 2058], [2059, 2061, 104, 134, 2062], [], [], [], [], [], [], []]
def am_g232 : List (Nat × Nat) := []
def am_m233 : amM := ([(0, .iload_n 1, 0, 0), (1, .iload_n 2, 0, 0), (2, .iadd, 0, 0), (3, .aload_n 0, 0, 0), (4, .invokevirtual 95, 203, 0), (7, .irem, 0, 0), (8, .ireturn, 0, 0)], 3, 3, false, (some .int), [], 11)
def am_n233 : amN := (yX12_turned, cX12_turned, [])
def am_h233 : List (List Nat) := [[], [], [], [], [1702, 1704, 54, 134, 1705], [], []]
def am_g233 : List (Nat × Nat) := []
def am_m234 : amM := ([(0, .iload_n 1, 0, 0), (1, .aload_n 0, 0, 0), (2, .invokevirtual 95, 203, 0), (5, .irem, 0, 0), (6, .istore_n 2, 0, 0), (7, .iload_n 2, 0, 0), (8, .ifCond .ge 12, 20, 0), (11, .iload_n 2, 0, 0), (12, .aload_n 0, 0, 0), (13, .invokevirtual 95, 203, 0), (16, .iadd, 0, 0), (17, .goto 4, 21, 0),
  (20, .iload_n 2, 0, 0), (21, .ireturn, 0, 0)], 3, 2, false, (some .int), [], 11)
def am_n234 : amN := (yX12_by, cX12_by, [])
def am_h234 : List (List Nat) := [[], [], [1702, 1704, 54, 134, 1705], [], [], [], [], [], [], [1702, 1704, 54, 134, 1705], [], [], [], []]
def am_g234 : List (Nat × Nat) := []
def am_m235 : amM := ([(0, .iconst 1, 0, 0), (1, .istore_n 2, 0, 0), (2, .iconst 0, 0, 0), (3, .istore_n 3, 0, 0), (4, .iload_n 3, 0, 0), (5, .aload_n 0, 0, 0), (6, .getfield 92, 11, 12), (9, .if_icmp .ge 59, 68, 0), (12, .iload_n 2, 0, 0), (13, .ifCond .eq 47, 60, 0), (16, .aload_n 0, 0, 0), (17, .aload_n 0, 0, 0),
  (18, .aload_n 0, 0, 0), (19, .getfield 25, 11, 8), (22, .iload_n 3, 0, 0), (23, .iaload, 0, 0), (24, .iload_n 1, 0, 0), (25, .invokevirtual 182, 233, 0), (28, .aload_n 0, 0, 0), (29, .aload_n 0, 0, 0), (30, .getfield 28, 11, 9), (33, .iload_n 3, 0, 0), (34, .iaload, 0, 0), (35, .iload_n 1, 0, 0),
  (36, .invokevirtual 182, 233, 0), (39, .invokevirtual 81, 204, 0), (42, .aload_n 0, 0, 0), (43, .aload_n 0, 0, 0), (44, .getfield 31, 11, 10), (47, .iload_n 3, 0, 0), (48, .iaload, 0, 0), (49, .iload_n 1, 0, 0), (50, .invokevirtual 182, 233, 0), (53, .if_icmp .ne 7, 60, 0), (56, .iconst 1, 0, 0), (57, .goto 4, 61, 0),
  (60, .iconst 0, 0, 0), (61, .istore_n 2, 0, 0), (62, .iinc 3 1, 0, 0), (65, .goto (-61), 4, 0), (68, .iload_n 2, 0, 0), (69, .ireturn, 0, 0)], 4, 2, false, (some .boolean), [], 11)
def am_n235 : amN := (yX12_isTurnedBy, cX12_isTurnedBy, [])
def am_h235 : List (List Nat) := [[], [], [], [], [], [], [1544], [], [], [], [], [], [], [1540], [], [], [], [1710, 1712, 56, 134, 1713], [], [], [1541], [], [], [], [1710, 1712, 56, 134, 1713], [1726, 1728, 60, 134, 1729], [], [], [1542], [], [], [], [1710, 1712, 56, 134, 1713], [], [], [], [], [], [], [], [], []]
def am_g235 : List (Nat × Nat) := []
def am_m236 : amM := ([(0, .aload_n 0, 0, 0), (1, .invokevirtual 99, 211, 0), (4, .iconst 1, 0, 0), (5, .istore_n 1, 0, 0), (6, .aload_n 0, 0, 0), (7, .iload_n 1, 0, 0), (8, .aload_n 0, 0, 0), (9, .invokevirtual 95, 203, 0), (12, .irem, 0, 0), (13, .invokevirtual 185, 235, 0), (16, .ifCond .ne 9, 25, 0), (19, .iinc 1 1, 0, 0),
  (22, .goto (-16), 6, 0), (25, .iload_n 1, 0, 0), (26, .ireturn, 0, 0)], 2, 1, false, (some .int), [], 11)
def am_n236 : amN := (yX12_leastOf, cX12_leastOf, [])
def am_h236 : List (List Nat) := [[], [1743, 1745, 64, 134, 1746], [], [], [], [], [], [1702, 1704, 54, 134, 1705], [], [2136, 2138, 112, 134, 2139], [], [], [], [], []]
def am_g236 : List (Nat × Nat) := []
def am_m237 : amM := ([(0, .iconst 0, 0, 0), (1, .istore 4, 0, 0), (3, .iconst 1, 0, 0), (4, .iload_n 1, 0, 0), (5, .ishl, 0, 0), (6, .iconst 1, 0, 0), (7, .iload_n 2, 0, 0), (8, .ishl, 0, 0), (9, .ior, 0, 0), (10, .iconst 1, 0, 0), (11, .iload_n 3, 0, 0), (12, .ishl, 0, 0),
  (13, .ior, 0, 0), (14, .istore 5, 0, 0), (16, .iconst 0, 0, 0), (17, .istore 6, 0, 0), (19, .iload 6, 0, 0), (21, .aload_n 0, 0, 0), (22, .invokevirtual 95, 203, 0), (25, .if_icmp .ge 91, 116, 0), (28, .aload_n 0, 0, 0), (29, .iload_n 1, 0, 0), (30, .iload 6, 0, 0), (32, .invokevirtual 182, 233, 0),
  (35, .istore 7, 0, 0), (37, .aload_n 0, 0, 0), (38, .iload_n 2, 0, 0), (39, .iload 6, 0, 0), (41, .invokevirtual 182, 233, 0), (44, .istore 8, 0, 0), (46, .aload_n 0, 0, 0), (47, .iload_n 3, 0, 0), (48, .iload 6, 0, 0), (50, .invokevirtual 182, 233, 0), (53, .istore 9, 0, 0), (55, .iload 6, 0, 0),
  (57, .ifCond .le 25, 82, 0), (60, .iconst 1, 0, 0), (61, .iload 7, 0, 0), (63, .ishl, 0, 0), (64, .iconst 1, 0, 0), (65, .iload 8, 0, 0), (67, .ishl, 0, 0), (68, .ior, 0, 0), (69, .iconst 1, 0, 0), (70, .iload 9, 0, 0), (72, .ishl, 0, 0), (73, .ior, 0, 0),
  (74, .iload 5, 0, 0), (76, .if_icmp .ne 6, 82, 0), (79, .iload 4, 0, 0), (81, .ireturn, 0, 0), (82, .aload_n 0, 0, 0), (83, .iload 7, 0, 0), (85, .iload 8, 0, 0), (87, .iload 9, 0, 0), (89, .invokevirtual 188, 210, 0), (92, .ifCond .ne 5, 97, 0), (95, .iconst (-1), 0, 0), (96, .ireturn, 0, 0),
  (97, .aload_n 0, 0, 0), (98, .iload 7, 0, 0), (100, .iload 8, 0, 0), (102, .iload 9, 0, 0), (104, .invokevirtual 137, 206, 0), (107, .iinc 4 1, 0, 0), (110, .iinc 6 1, 0, 0), (113, .goto (-94), 19, 0), (116, .iload 4, 0, 0), (118, .ireturn, 0, 0)], 10, 4, false, (some .int), [], 11)
def am_n237 : amN := (yX12_develops, cX12_develops, [])
def am_h237 : List (List Nat) := [[], [], [], [], [], [], [], [], [], [], [], [], [], [], [], [], [], [], [1702, 1704, 54, 134, 1705], [], [], [], [], [1710, 1712, 56, 134, 1713], [], [], [], [], [1710, 1712, 56, 134, 1713], [], [], [], [], [1710, 1712, 56, 134, 1713], [], [], [], [], [], [], [], [], [], [], [], [], [], [], [], [], [], [], [], [], [], [], [1714, 1716, 57, 134, 1717], [], [], [], [], [], [], [], [1730, 1732, 61, 134, 1733], [], [], [], [], []]
def am_g237 : List (Nat × Nat) := []
def am_m238 : amM := ([(0, .bipush 24, 0, 0), (2, .istore_n 2, 0, 0), (3, .iload_n 2, 0, 0), (4, .ifCond .lt 35, 39, 0), (7, .aload_n 0, 0, 0), (8, .getfield 50, 11, 20), (11, .aload_n 0, 0, 0), (12, .getfield 191, 11, 21), (15, .iload_n 1, 0, 0), (16, .iload_n 2, 0, 0), (17, .ishr, 0, 0), (18, .sipush 255, 0, 0),
  (21, .iand, 0, 0), (22, .iastore, 0, 0), (23, .aload_n 0, 0, 0), (24, .dup, 0, 0), (25, .getfield 191, 11, 21), (28, .iconst 1, 0, 0), (29, .iadd, 0, 0), (30, .putfield 191, 11, 21), (33, .iinc 2 (-8), 0, 0), (36, .goto (-33), 3, 0), (39, .return_, 0, 0)], 3, 2, false, none, [], 11)
def am_n238 : amN := (yX12_appendWord, cX12_appendWord, [])
def am_h238 : List (List Nat) := [[], [], [], [], [], [1552], [], [1553], [], [], [], [], [], [], [], [], [1553], [], [], [1553], [], [], []]
def am_g238 : List (Nat × Nat) := []
def am_m239 : amM := ([(0, .aload_n 0, 0, 0), (1, .iconst 0, 0, 0), (2, .putfield 67, 11, 7), (5, .aload_n 0, 0, 0), (6, .getfield 191, 11, 21), (9, .bipush 20, 0, 0), (11, .iadd, 0, 0), (12, .sipush 600, 0, 0), (15, .if_icmp .le 5, 20, 0), (18, .iconst (-1), 0, 0), (19, .ireturn, 0, 0), (20, .aload_n 0, 0, 0),
  (21, .iload_n 1, 0, 0), (22, .invokevirtual 194, 238, 0), (25, .aload_n 0, 0, 0), (26, .iload_n 2, 0, 0), (27, .invokevirtual 194, 238, 0), (30, .aload_n 0, 0, 0), (31, .iload_n 3, 0, 0), (32, .invokevirtual 194, 238, 0), (35, .aload_n 0, 0, 0), (36, .iload 4, 0, 0), (38, .invokevirtual 194, 238, 0), (41, .aload_n 0, 0, 0),
  (42, .iload 5, 0, 0), (44, .invokevirtual 194, 238, 0), (47, .aload_n 0, 0, 0), (48, .getfield 191, 11, 21), (51, .ireturn, 0, 0)], 6, 6, false, (some .int), [], 11)
def am_n239 : amN := (yX12_appendInput, cX12_appendInput, [])
def am_h239 : List (List Nat) := [[], [], [1539], [], [1553], [], [], [], [], [], [], [], [], [1640, 1642, 43, 134, 1643], [], [], [1640, 1642, 43, 134, 1643], [], [], [1640, 1642, 43, 134, 1643], [], [], [1640, 1642, 43, 134, 1643], [], [], [1640, 1642, 43, 134, 1643], [], [1553], []]
def am_g239 : List (Nat × Nat) := []
def am_m240 : amM := ([(0, .aload_n 0, 0, 0), (1, .iconst 0, 0, 0), (2, .putfield 67, 11, 7), (5, .iload_n 1, 0, 0), (6, .iconst 0, 0, 0), (7, .aload_n 0, 0, 0), (8, .getfield 191, 11, 21), (11, .invokestatic 197, 196, 0), (14, .ifCond .ne 5, 19, 0), (17, .iconst 0, 0, 0), (18, .ireturn, 0, 0), (19, .aload_n 0, 0, 0),
  (20, .iload_n 1, 0, 0), (21, .putfield 191, 11, 21), (24, .iconst 1, 0, 0), (25, .ireturn, 0, 0)], 2, 2, false, (some .boolean), [], 11)
def am_n240 : amN := (yX12_truncateInput, cX12_truncateInput, [])
def am_h240 : List (List Nat) := [[], [], [1539], [], [], [], [1553], [1648, 1649, 134, 1650], [], [], [], [], [], [1553], [], []]
def am_g240 : List (Nat × Nat) := []
def am_m241 : amM := ([(0, .iload_n 1, 0, 0), (1, .aload_n 0, 0, 0), (2, .getfield 191, 11, 21), (5, .if_icmp .ge 12, 17, 0), (8, .aload_n 0, 0, 0), (9, .getfield 50, 11, 20), (12, .iload_n 1, 0, 0), (13, .iaload, 0, 0), (14, .goto 4, 18, 0), (17, .iconst (-1), 0, 0), (18, .ireturn, 0, 0)], 2, 2, false, (some .int), [], 11)
def am_n241 : amN := (yX12_byteAt, cX12_byteAt, [])
def am_h241 : List (List Nat) := [[], [], [1553], [], [], [1552], [], [], [], [], []]
def am_g241 : List (Nat × Nat) := []
def am_m242 : amM := ([(0, .aload_n 0, 0, 0), (1, .aload_n 0, 0, 0), (2, .getfield 200, 11, 26), (5, .invokevirtual 203, 241, 0), (8, .bipush 32, 0, 0), (10, .if_icmp .eq 16, 26, 0), (13, .aload_n 0, 0, 0), (14, .aload_n 0, 0, 0), (15, .getfield 200, 11, 26), (18, .invokevirtual 203, 241, 0), (21, .bipush 10, 0, 0), (23, .if_icmp .ne 16, 39, 0),
  (26, .aload_n 0, 0, 0), (27, .dup, 0, 0), (28, .getfield 200, 11, 26), (31, .iconst 1, 0, 0), (32, .iadd, 0, 0), (33, .putfield 200, 11, 26), (36, .goto (-36), 0, 0), (39, .aload_n 0, 0, 0), (40, .aload_n 0, 0, 0), (41, .getfield 200, 11, 26), (44, .putfield 206, 11, 27), (47, .aload_n 0, 0, 0),
  (48, .aload_n 0, 0, 0), (49, .getfield 200, 11, 26), (52, .invokevirtual 203, 241, 0), (55, .istore_n 1, 0, 0), (56, .aload_n 0, 0, 0), (57, .iconst 0, 0, 0), (58, .putfield 209, 11, 28), (61, .iload_n 1, 0, 0), (62, .iconst (-1), 0, 0), (63, .if_icmp .ne 11, 74, 0), (66, .aload_n 0, 0, 0), (67, .iconst 0, 0, 0),
  (68, .putfield 212, 11, 29), (71, .goto 158, 229, 0), (74, .iload_n 1, 0, 0), (75, .bipush 97, 0, 0), (77, .bipush 122, 0, 0), (79, .invokestatic 197, 196, 0), (82, .ifCond .eq 39, 121, 0), (85, .aload_n 0, 0, 0), (86, .iconst 1, 0, 0), (87, .putfield 212, 11, 29), (90, .aload_n 0, 0, 0), (91, .aload_n 0, 0, 0),
  (92, .getfield 200, 11, 26), (95, .invokevirtual 203, 241, 0), (98, .bipush 97, 0, 0), (100, .bipush 122, 0, 0), (102, .invokestatic 197, 196, 0), (105, .ifCond .eq 124, 229, 0), (108, .aload_n 0, 0, 0), (109, .dup, 0, 0), (110, .getfield 200, 11, 26), (113, .iconst 1, 0, 0), (114, .iadd, 0, 0), (115, .putfield 200, 11, 26),
  (118, .goto (-28), 90, 0), (121, .iload_n 1, 0, 0), (122, .bipush 48, 0, 0), (124, .bipush 57, 0, 0), (126, .invokestatic 197, 196, 0), (129, .ifCond .eq 75, 204, 0), (132, .aload_n 0, 0, 0), (133, .iconst 2, 0, 0), (134, .putfield 212, 11, 29), (137, .aload_n 0, 0, 0), (138, .aload_n 0, 0, 0), (139, .getfield 200, 11, 26),
  (142, .invokevirtual 203, 241, 0), (145, .bipush 48, 0, 0), (147, .bipush 57, 0, 0), (149, .invokestatic 197, 196, 0), (152, .ifCond .eq 77, 229, 0), (155, .aload_n 0, 0, 0), (156, .getfield 200, 11, 26), (159, .aload_n 0, 0, 0), (160, .getfield 206, 11, 27), (163, .isub, 0, 0), (164, .iconst 2, 0, 0), (165, .if_icmp .ge 26, 191, 0),
  (168, .aload_n 0, 0, 0), (169, .bipush 10, 0, 0), (171, .aload_n 0, 0, 0), (172, .getfield 209, 11, 28), (175, .imul, 0, 0), (176, .aload_n 0, 0, 0), (177, .aload_n 0, 0, 0), (178, .getfield 200, 11, 26), (181, .invokevirtual 203, 241, 0), (184, .iadd, 0, 0), (185, .bipush 48, 0, 0), (187, .isub, 0, 0),
  (188, .putfield 209, 11, 28), (191, .aload_n 0, 0, 0), (192, .dup, 0, 0), (193, .getfield 200, 11, 26), (196, .iconst 1, 0, 0), (197, .iadd, 0, 0), (198, .putfield 200, 11, 26), (201, .goto (-64), 137, 0), (204, .aload_n 0, 0, 0), (205, .iload_n 1, 0, 0), (206, .bipush 59, 0, 0), (208, .if_icmp .ne 7, 215, 0),
  (211, .iconst 3, 0, 0), (212, .goto 4, 216, 0), (215, .iconst 4, 0, 0), (216, .putfield 212, 11, 29), (219, .aload_n 0, 0, 0), (220, .dup, 0, 0), (221, .getfield 200, 11, 26), (224, .iconst 1, 0, 0), (225, .iadd, 0, 0), (226, .putfield 200, 11, 26), (229, .return_, 0, 0)], 2, 1, false, none, [], 11)
def am_n242 : amN := (yX12_advanceToken, cX12_advanceToken, [])
def am_h242 : List (List Nat) := [[], [], [1558], [1662, 1664, 45, 134, 1665], [], [], [], [], [1558], [1662, 1664, 45, 134, 1665], [], [], [], [], [1558], [], [], [1558], [], [], [], [1558], [1559], [], [], [1558], [1662, 1664, 45, 134, 1665], [], [], [], [1560], [], [], [], [], [], [1561], [], [], [], [], [1648, 1649, 134, 1650], [], [], [], [1561], [], [], [1558], [1662, 1664, 45, 134, 1665], [], [], [1648, 1649, 134, 1650], [], [], [], [1558], [], [], [1558], [], [], [], [], [1648, 1649, 134, 1650], [], [], [], [1561], [], [], [1558], [1662, 1664, 45, 134, 1665], [], [], [1648, 1649, 134, 1650], [], [], [1558], [], [1559], [], [], [], [], [], [], [1560], [], [], [], [1558], [1662, 1664, 45, 134, 1665], [], [], [], [1560], [], [], [1558], [], [], [1558], [], [], [], [], [], [], [], [], [1561], [], [], [1558], [], [], [1558], []]
def am_g242 : List (Nat × Nat) := []
def am_m243 : amM := ([(0, .aload_n 0, 0, 0), (1, .getfield 200, 11, 26), (4, .aload_n 0, 0, 0), (5, .getfield 206, 11, 27), (8, .isub, 0, 0), (9, .ireturn, 0, 0)], 1, 1, false, (some .int), [], 11)
def am_n243 : amN := (yX12_tokenLength, cX12_tokenLength, [])
def am_h243 : List (List Nat) := [[], [1558], [], [1559], [], []]
def am_g243 : List (Nat × Nat) := []
def am_m244 : amM := ([(0, .aload_n 0, 0, 0), (1, .getfield 215, 11, 24), (4, .ifCond .ne 16, 20, 0), (7, .aload_n 0, 0, 0), (8, .iload_n 1, 0, 0), (9, .putfield 215, 11, 24), (12, .aload_n 0, 0, 0), (13, .aload_n 0, 0, 0), (14, .getfield 206, 11, 27), (17, .putfield 218, 11, 25), (20, .iconst 0, 0, 0), (21, .ireturn, 0, 0)], 2, 2, false, (some .boolean), [], 11)
def am_n244 : amN := (yX12_failsAt, cX12_failsAt, [])
def am_h244 : List (List Nat) := [[], [1556], [], [], [], [1556], [], [], [1559], [1557], [], []]
def am_g244 : List (Nat × Nat) := []
def am_m245 : amM := ([(0, .aload_n 0, 0, 0), (1, .getfield 212, 11, 29), (4, .iconst 1, 0, 0), (5, .if_icmp .ne 14, 19, 0), (8, .aload_n 0, 0, 0), (9, .invokevirtual 221, 243, 0), (12, .aload_n 1, 0, 0), (16, .if_icmp .eq 5, 21, 0), (19, .iconst 0, 0, 0), (20, .ireturn, 0, 0), (21, .iconst 0, 0, 0), (22, .istore_n 2, 0, 0),
  (23, .iload_n 2, 0, 0), (24, .aload_n 1, 0, 0), (28, .if_icmp .ge 30, 58, 0), (31, .aload_n 0, 0, 0), (32, .getfield 50, 11, 20), (35, .aload_n 0, 0, 0), (36, .getfield 206, 11, 27), (39, .iload_n 2, 0, 0), (40, .iadd, 0, 0), (41, .iaload, 0, 0), (42, .aload_n 1, 0, 0), (43, .iload_n 2, 0, 0),
  (47, .if_icmp .eq 5, 52, 0), (50, .iconst 0, 0, 0), (51, .ireturn, 0, 0), (52, .iinc 2 1, 0, 0), (55, .goto (-32), 23, 0), (58, .iconst 1, 0, 0), (59, .ireturn, 0, 0)], 3, 2, false, (some .boolean), [], 11)
def am_n245 : amN := (yX12_isWord, cX12_isWord, [])
def am_h245 : List (List Nat) := [[], [1561], [], [], [], [1679, 1681, 49, 134, 1682], [], [], [], [], [], [], [], [], [], [], [1552], [], [1559], [], [], [], [], [], [], [], [], [], [], [], []]
def am_g245 : List (Nat × Nat) := []
def am_m246 : amM := ([(0, .aload_n 0, 0, 0), (1, .getfield 212, 11, 29), (4, .iconst 2, 0, 0), (5, .if_icmp .ne 11, 16, 0), (8, .aload_n 0, 0, 0), (9, .invokevirtual 221, 243, 0), (12, .iconst 2, 0, 0), (13, .if_icmp .le 9, 22, 0), (16, .aload_n 0, 0, 0), (17, .iconst 1, 0, 0), (18, .invokevirtual 233, 244, 0), (21, .ireturn, 0, 0),
  (22, .aload_n 0, 0, 0), (23, .getfield 209, 11, 28), (26, .iload_n 2, 0, 0), (27, .iload_n 3, 0, 0), (28, .invokestatic 197, 196, 0), (31, .ifCond .ne 9, 40, 0), (34, .aload_n 0, 0, 0), (35, .iconst 2, 0, 0), (36, .invokevirtual 233, 244, 0), (39, .ireturn, 0, 0), (40, .iconst 0, 0, 0), (41, .istore 4, 0, 0),
  (43, .iload 4, 0, 0), (45, .iload_n 1, 0, 0), (46, .if_icmp .ge 29, 75, 0), (49, .aload_n 0, 0, 0), (50, .getfield 57, 11, 30), (53, .iload 4, 0, 0), (55, .iaload, 0, 0), (56, .aload_n 0, 0, 0), (57, .getfield 209, 11, 28), (60, .if_icmp .ne 9, 69, 0), (63, .aload_n 0, 0, 0), (64, .iconst 2, 0, 0),
  (65, .invokevirtual 233, 244, 0), (68, .ireturn, 0, 0), (69, .iinc 4 1, 0, 0), (72, .goto (-29), 43, 0), (75, .aload_n 0, 0, 0), (76, .getfield 57, 11, 30), (79, .iload_n 1, 0, 0), (80, .aload_n 0, 0, 0), (81, .getfield 209, 11, 28), (84, .iastore, 0, 0), (85, .aload_n 0, 0, 0), (86, .invokevirtual 236, 242, 0),
  (89, .iconst 1, 0, 0), (90, .ireturn, 0, 0)], 5, 4, false, (some .boolean), [], 11)
def am_n246 : amN := (yX12_takesPoint, cX12_takesPoint, [])
def am_h246 : List (List Nat) := [[], [1561], [], [], [], [1679, 1681, 49, 134, 1682], [], [], [], [], [1685, 1687, 50, 134, 1688], [], [], [1560], [], [], [1648, 1649, 134, 1650], [], [], [], [1685, 1687, 50, 134, 1688], [], [], [], [], [], [], [], [1562], [], [], [], [1560], [], [], [], [1685, 1687, 50, 134, 1688], [], [], [], [], [1562], [], [], [1560], [], [], [1658, 1660, 44, 134, 1661], [], []]
def am_g246 : List (Nat × Nat) := []
def am_m247 : amM := ([(0, .aload_n 0, 0, 0), (1, .invokevirtual 236, 242, 0), (4, .iconst 0, 0, 0), (5, .istore_n 2, 0, 0), (6, .iload_n 2, 0, 0), (7, .iconst 3, 0, 0), (8, .if_icmp .ge 26, 34, 0), (11, .aload_n 0, 0, 0), (12, .iload_n 2, 0, 0), (13, .iconst 0, 0, 0), (14, .aload_n 0, 0, 0), (15, .invokevirtual 95, 203, 0),
  (18, .iconst 1, 0, 0), (19, .isub, 0, 0), (20, .invokevirtual 239, 246, 0), (23, .ifCond .ne 5, 28, 0), (26, .iconst 0, 0, 0), (27, .ireturn, 0, 0), (28, .iinc 2 1, 0, 0), (31, .goto (-25), 6, 0), (34, .aload_n 0, 0, 0), (35, .getfield 212, 11, 29), (38, .iconst 3, 0, 0), (39, .if_icmp .eq 9, 48, 0),
  (42, .aload_n 0, 0, 0), (43, .iconst 1, 0, 0), (44, .invokevirtual 233, 244, 0), (47, .ireturn, 0, 0), (48, .iload_n 1, 0, 0), (49, .ifCond .eq 43, 92, 0), (52, .aload_n 0, 0, 0), (53, .aload_n 0, 0, 0), (54, .getfield 57, 11, 30), (57, .iconst 0, 0, 0), (58, .iaload, 0, 0), (59, .aload_n 0, 0, 0),
  (60, .getfield 57, 11, 30), (63, .iconst 1, 0, 0), (64, .iaload, 0, 0), (65, .aload_n 0, 0, 0), (66, .getfield 57, 11, 30), (69, .iconst 2, 0, 0), (70, .iaload, 0, 0), (71, .invokevirtual 242, 237, 0), (74, .iconst (-1), 0, 0), (75, .if_icmp .ne 11, 86, 0), (78, .aload_n 0, 0, 0), (79, .iconst 3, 0, 0),
  (80, .invokevirtual 233, 244, 0), (83, .ifCond .eq 7, 90, 0), (86, .iconst 1, 0, 0), (87, .goto 4, 91, 0), (90, .iconst 0, 0, 0), (91, .ireturn, 0, 0), (92, .aload_n 0, 0, 0), (93, .aload_n 0, 0, 0), (94, .getfield 57, 11, 30), (97, .iconst 0, 0, 0), (98, .iaload, 0, 0), (99, .aload_n 0, 0, 0),
  (100, .getfield 57, 11, 30), (103, .iconst 1, 0, 0), (104, .iaload, 0, 0), (105, .aload_n 0, 0, 0), (106, .getfield 57, 11, 30), (109, .iconst 2, 0, 0), (110, .iaload, 0, 0), (111, .invokevirtual 188, 210, 0), (114, .ifCond .ne 9, 123, 0), (117, .aload_n 0, 0, 0), (118, .iconst 3, 0, 0), (119, .invokevirtual 233, 244, 0),
  (122, .ireturn, 0, 0), (123, .aload_n 0, 0, 0), (124, .aload_n 0, 0, 0), (125, .getfield 57, 11, 30), (128, .iconst 0, 0, 0), (129, .iaload, 0, 0), (130, .aload_n 0, 0, 0), (131, .getfield 57, 11, 30), (134, .iconst 1, 0, 0), (135, .iaload, 0, 0), (136, .aload_n 0, 0, 0), (137, .getfield 57, 11, 30),
  (140, .iconst 2, 0, 0), (141, .iaload, 0, 0), (142, .invokevirtual 137, 206, 0), (145, .iconst 1, 0, 0), (146, .ireturn, 0, 0)], 3, 2, false, (some .boolean), [], 11)
def am_n247 : amN := (yX12_readTriple, cX12_readTriple, [])
def am_h247 : List (List Nat) := [[], [1658, 1660, 44, 134, 1661], [], [], [], [], [], [], [], [], [], [1702, 1704, 54, 134, 1705], [], [], [1689, 1691, 51, 134, 1692], [], [], [], [], [], [], [1561], [], [], [], [], [1685, 1687, 50, 134, 1688], [], [], [], [], [], [1562], [], [], [], [1562], [], [], [], [1562], [], [], [1706, 1708, 55, 134, 1709], [], [], [], [], [1685, 1687, 50, 134, 1688], [], [], [], [], [], [], [], [1562], [], [], [], [1562], [], [], [], [1562], [], [], [1714, 1716, 57, 134, 1717], [], [], [], [1685, 1687, 50, 134, 1688], [], [], [], [1562], [], [], [], [1562], [], [], [], [1562], [], [], [1730, 1732, 61, 134, 1733], [], []]
def am_g247 : List (Nat × Nat) := []
def am_m248 : amM := ([(0, .aload_n 0, 0, 0), (1, .ldc 245, 19, 1), (3, .invokevirtual 246, 245, 0), (6, .ifCond .ne 9, 15, 0), (9, .aload_n 0, 0, 0), (10, .iconst 1, 0, 0), (11, .invokevirtual 233, 244, 0), (14, .ireturn, 0, 0), (15, .aload_n 0, 0, 0), (16, .invokevirtual 236, 242, 0), (19, .aload_n 0, 0, 0), (20, .iconst 0, 0, 0),
  (21, .iconst 3, 0, 0), (22, .bipush 15, 0, 0), (24, .invokevirtual 239, 246, 0), (27, .ifCond .ne 5, 32, 0), (30, .iconst 0, 0, 0), (31, .ireturn, 0, 0), (32, .aload_n 0, 0, 0), (33, .getfield 7, 11, 0), (36, .iconst 0, 0, 0), (37, .aload_n 0, 0, 0), (38, .getfield 57, 11, 30), (41, .iconst 0, 0, 0),
  (42, .iaload, 0, 0), (43, .iastore, 0, 0), (44, .aload_n 0, 0, 0), (45, .getfield 212, 11, 29), (48, .iconst 3, 0, 0), (49, .if_icmp .eq 11, 60, 0), (52, .aload_n 0, 0, 0), (53, .iconst 1, 0, 0), (54, .invokevirtual 233, 244, 0), (57, .ifCond .eq 7, 64, 0), (60, .iconst 1, 0, 0), (61, .goto 4, 65, 0),
  (64, .iconst 0, 0, 0), (65, .ireturn, 0, 0)], 1, 1, false, (some .boolean), [], 11)
def am_n248 : amN := (yX12_readPoints, cX12_readPoints, [])
def am_h248 : List (List Nat) := [[], [], [1675, 1677, 48, 134, 1678], [], [], [], [1685, 1687, 50, 134, 1688], [], [], [1658, 1660, 44, 134, 1661], [], [], [], [], [1689, 1691, 51, 134, 1692], [], [], [], [], [1532], [], [], [1562], [], [], [], [], [1561], [], [], [], [], [1685, 1687, 50, 134, 1688], [], [], [], [], []]
def am_g248 : List (Nat × Nat) := []
def am_m249 : amM := ([(0, .aload_n 0, 0, 0), (1, .ldc 250, 20, 1), (3, .invokevirtual 246, 245, 0), (6, .ifCond .eq 9, 15, 0), (9, .aload_n 0, 0, 0), (10, .iconst 0, 0, 0), (11, .invokevirtual 252, 247, 0), (14, .ireturn, 0, 0), (15, .aload_n 0, 0, 0), (19, .invokevirtual 246, 245, 0), (22, .ifCond .eq 11, 33, 0), (25, .aload_n 0, 0, 0),
  (26, .iconst 1, 0, 0), (27, .invokevirtual 252, 247, 0), (30, .goto 8, 38, 0), (33, .aload_n 0, 0, 0), (34, .iconst 1, 0, 0), (35, .invokevirtual 233, 244, 0), (38, .ireturn, 0, 0)], 1, 1, false, (some .boolean), [], 11)
def am_n249 : amN := (yX12_readStatement, cX12_readStatement, [])
def am_h249 : List (List Nat) := [[], [], [1675, 1677, 48, 134, 1678], [], [], [], [1698, 1700, 53, 134, 1701], [], [], [1675, 1677, 48, 134, 1678], [], [], [], [1698, 1700, 53, 134, 1701], [], [], [], [1685, 1687, 50, 134, 1688], []]
def am_g249 : List (Nat × Nat) := []
def am_m250 : amM := ([(0, .aload_n 0, 0, 0), (1, .invokevirtual 258, 248, 0), (4, .ifCond .ne 5, 9, 0), (7, .iconst 0, 0, 0), (8, .ireturn, 0, 0), (9, .aload_n 0, 0, 0), (10, .invokevirtual 236, 242, 0), (13, .aload_n 0, 0, 0), (14, .getfield 212, 11, 29), (17, .ifCond .eq 19, 36, 0), (20, .aload_n 0, 0, 0), (21, .invokevirtual 262, 249, 0),
  (24, .ifCond .ne 5, 29, 0), (27, .iconst 0, 0, 0), (28, .ireturn, 0, 0), (29, .aload_n 0, 0, 0), (30, .invokevirtual 236, 242, 0), (33, .goto (-20), 13, 0), (36, .iconst 1, 0, 0), (37, .ireturn, 0, 0)], 1, 1, false, (some .boolean), [], 11)
def am_n250 : amN := (yX12_readText, cX12_readText, [])
def am_h250 : List (List Nat) := [[], [1670, 1672, 47, 134, 1673], [], [], [], [], [1658, 1660, 44, 134, 1661], [], [1561], [], [], [1693, 1695, 52, 134, 1696], [], [], [], [], [1658, 1660, 44, 134, 1661], [], [], []]
def am_g250 : List (Nat × Nat) := []
def am_m251 : amM := ([(0, .aload_n 0, 0, 0), (1, .iconst 0, 0, 0), (2, .putfield 67, 11, 7), (5, .aload_n 0, 0, 0), (6, .getfield 7, 11, 0), (9, .iconst 0, 0, 0), (10, .aload_n 0, 0, 0), (11, .getfield 13, 11, 1), (14, .iconst 0, 0, 0), (15, .sipush 229, 0, 0), (18, .invokestatic 73, 198, 0), (21, .aload_n 0, 0, 0),
  (22, .iconst 3, 0, 0), (23, .invokevirtual 63, 199, 0), (26, .aload_n 0, 0, 0), (27, .iconst 0, 0, 0), (28, .putfield 215, 11, 24), (31, .aload_n 0, 0, 0), (32, .iconst (-1), 0, 0), (33, .putfield 218, 11, 25), (36, .aload_n 0, 0, 0), (37, .iconst 0, 0, 0), (38, .putfield 200, 11, 26), (41, .aload_n 0, 0, 0),
  (42, .invokevirtual 236, 242, 0), (45, .aload_n 0, 0, 0), (46, .invokevirtual 265, 250, 0), (49, .istore_n 1, 0, 0), (50, .aload_n 0, 0, 0), (51, .iconst 0, 0, 0), (52, .putfield 191, 11, 21), (55, .aload_n 0, 0, 0), (56, .aload_n 0, 0, 0), (57, .getfield 215, 11, 24), (60, .putfield 268, 11, 22), (63, .aload_n 0, 0, 0),
  (64, .aload_n 0, 0, 0), (65, .getfield 218, 11, 25), (68, .putfield 53, 11, 23), (71, .iload_n 1, 0, 0), (72, .ifCond .ne 21, 93, 0), (75, .aload_n 0, 0, 0), (76, .getfield 13, 11, 1), (79, .iconst 0, 0, 0), (80, .aload_n 0, 0, 0), (81, .getfield 7, 11, 0), (84, .iconst 0, 0, 0), (85, .sipush 229, 0, 0),
  (88, .invokestatic 73, 198, 0), (91, .iconst (-1), 0, 0), (92, .ireturn, 0, 0), (93, .aload_n 0, 0, 0), (94, .iconst 0, 0, 0), (95, .putfield 70, 11, 5), (98, .aload_n 0, 0, 0), (99, .iconst 0, 0, 0), (100, .putfield 271, 11, 6), (103, .aload_n 0, 0, 0), (104, .invokevirtual 105, 213, 0), (107, .ireturn, 0, 0)], 2, 1, false, (some .int), [], 11)
def am_n251 : amN := (yX12_loadSystem, cX12_loadSystem, [])
def am_h251 : List (List Nat) := [[], [], [1539], [], [1532], [], [], [1533], [], [], [1655, 1656, 134, 1657], [], [], [1528, 1530, 42, 134, 1531], [], [], [1556], [], [], [1557], [], [], [1558], [], [1658, 1660, 44, 134, 1661], [], [1666, 1668, 46, 134, 1669], [], [], [], [1553], [], [], [1556], [1554], [], [], [1557], [1555], [], [], [], [1533], [], [], [1532], [], [], [1655, 1656, 134, 1657], [], [], [], [], [1537], [], [], [1538], [], [1739, 1741, 63, 134, 1742], []]
def am_g251 : List (Nat × Nat) := []
def am_m252 : amM := ([(0, .aload_n 0, 0, 0), (1, .iconst 0, 0, 0), (2, .putfield 67, 11, 7), (5, .aload_n 0, 0, 0), (6, .getfield 268, 11, 22), (9, .ireturn, 0, 0)], 1, 1, false, (some .int), [], 11)
def am_n252 : amN := (yX12_errorCode, cX12_errorCode, [])
def am_h252 : List (List Nat) := [[], [], [1539], [], [1554], []]
def am_g252 : List (Nat × Nat) := []
def am_m253 : amM := ([(0, .aload_n 0, 0, 0), (1, .iconst 0, 0, 0), (2, .putfield 67, 11, 7), (5, .aload_n 0, 0, 0), (6, .getfield 53, 11, 23), (9, .ireturn, 0, 0)], 1, 1, false, (some .int), [], 11)
def am_n253 : amN := (yX12_errorOffset, cX12_errorOffset, [])
def am_h253 : List (List Nat) := [[], [], [1539], [], [1555], []]
def am_g253 : List (Nat × Nat) := []
def am_m254 : amM := ([(0, .aload_n 0, 0, 0), (1, .iconst 0, 0, 0), (2, .putfield 67, 11, 7), (5, .aload_n 0, 0, 0), (6, .iload_n 1, 0, 0), (7, .iconst 0, 0, 0), (8, .aload_n 0, 0, 0), (9, .invokevirtual 95, 203, 0), (12, .iconst 1, 0, 0), (13, .isub, 0, 0), (14, .invokestatic 197, 196, 0), (17, .ifCond .ne 7, 24, 0),
  (20, .iconst 1, 0, 0), (21, .goto 4, 25, 0), (24, .iconst 0, 0, 0), (25, .iconst 1, 0, 0), (26, .invokevirtual 275, 197, 0), (29, .ireturn, 0, 0)], 2, 2, false, (some .boolean), [], 11)
def am_n254 : amN := (yX12_noPoint, cX12_noPoint, [])
def am_h254 : List (List Nat) := [[], [], [1539], [], [], [], [], [1702, 1704, 54, 134, 1705], [], [], [1648, 1649, 134, 1650], [], [], [], [], [], [1759, 1761, 65, 134, 1762], []]
def am_g254 : List (Nat × Nat) := []
def am_m255 : amM := ([(0, .aload_n 0, 0, 0), (1, .iload_n 1, 0, 0), (2, .invokevirtual 279, 254, 0), (5, .ifCond .ne 29, 34, 0), (8, .aload_n 0, 0, 0), (9, .iload_n 2, 0, 0), (10, .invokevirtual 279, 254, 0), (13, .ifCond .ne 21, 34, 0), (16, .aload_n 0, 0, 0), (17, .iload_n 1, 0, 0), (18, .iload_n 2, 0, 0), (19, .if_icmp .ne 7, 26, 0),
  (22, .iconst 1, 0, 0), (23, .goto 4, 27, 0), (26, .iconst 0, 0, 0), (27, .iconst 2, 0, 0), (28, .invokevirtual 275, 197, 0), (31, .ifCond .eq 7, 38, 0), (34, .iconst 1, 0, 0), (35, .goto 4, 39, 0), (38, .iconst 0, 0, 0), (39, .ireturn, 0, 0)], 3, 3, false, (some .boolean), [], 11)
def am_n255 : amN := (yX12_noPair, cX12_noPair, [])
def am_h255 : List (List Nat) := [[], [], [1820, 1822, 76, 134, 1823], [], [], [], [1820, 1822, 76, 134, 1823], [], [], [], [], [], [], [], [], [], [1759, 1761, 65, 134, 1762], [], [], [], [], []]
def am_g255 : List (Nat × Nat) := []
def am_m256 : amM := ([(0, .aload_n 0, 0, 0), (1, .iload_n 1, 0, 0), (2, .invokevirtual 279, 254, 0), (5, .ifCond .ne 47, 52, 0), (8, .aload_n 0, 0, 0), (9, .iload_n 2, 0, 0), (10, .invokevirtual 279, 254, 0), (13, .ifCond .ne 39, 52, 0), (16, .aload_n 0, 0, 0), (17, .iload_n 3, 0, 0), (18, .invokevirtual 279, 254, 0), (21, .ifCond .ne 31, 52, 0),
  (24, .aload_n 0, 0, 0), (25, .iload_n 1, 0, 0), (26, .iload_n 2, 0, 0), (27, .if_icmp .eq 13, 40, 0), (30, .iload_n 2, 0, 0), (31, .iload_n 3, 0, 0), (32, .if_icmp .eq 8, 40, 0), (35, .iload_n 1, 0, 0), (36, .iload_n 3, 0, 0), (37, .if_icmp .ne 7, 44, 0), (40, .iconst 1, 0, 0), (41, .goto 4, 45, 0),
  (44, .iconst 0, 0, 0), (45, .iconst 2, 0, 0), (46, .invokevirtual 275, 197, 0), (49, .ifCond .eq 7, 56, 0), (52, .iconst 1, 0, 0), (53, .goto 4, 57, 0), (56, .iconst 0, 0, 0), (57, .ireturn, 0, 0)], 4, 4, false, (some .boolean), [], 11)
def am_n256 : amN := (yX12_noSet, cX12_noSet, [])
def am_h256 : List (List Nat) := [[], [], [1820, 1822, 76, 134, 1823], [], [], [], [1820, 1822, 76, 134, 1823], [], [], [], [1820, 1822, 76, 134, 1823], [], [], [], [], [], [], [], [], [], [], [], [], [], [], [], [1759, 1761, 65, 134, 1762], [], [], [], [], []]
def am_g256 : List (Nat × Nat) := []
def am_m257 : amM := ([(0, .aload_n 0, 0, 0), (1, .iconst 0, 0, 0), (2, .putfield 67, 11, 7), (5, .aload_n 0, 0, 0), (6, .invokevirtual 99, 211, 0), (9, .aload_n 0, 0, 0), (10, .iload_n 1, 0, 0), (11, .iconst 0, 0, 0), (12, .aload_n 0, 0, 0), (13, .getfield 92, 11, 12), (16, .iconst 1, 0, 0), (17, .isub, 0, 0),
  (18, .invokestatic 197, 196, 0), (21, .ifCond .ne 7, 28, 0), (24, .iconst 1, 0, 0), (25, .goto 4, 29, 0), (28, .iconst 0, 0, 0), (29, .iconst 1, 0, 0), (30, .invokevirtual 275, 197, 0), (33, .ireturn, 0, 0)], 2, 2, false, (some .boolean), [], 11)
def am_n257 : amN := (yX12_noTriple, cX12_noTriple, [])
def am_h257 : List (List Nat) := [[], [], [1539], [], [1743, 1745, 64, 134, 1746], [], [], [], [], [1544], [], [], [1648, 1649, 134, 1650], [], [], [], [], [], [1759, 1761, 65, 134, 1762], []]
def am_g257 : List (Nat × Nat) := []
def am_m258 : amM := ([(0, .aload_n 0, 0, 0), (1, .iconst 0, 0, 0), (2, .putfield 67, 11, 7), (5, .aload_n 0, 0, 0), (6, .invokevirtual 155, 216, 0), (9, .aload_n 0, 0, 0), (10, .iload_n 1, 0, 0), (11, .iconst 0, 0, 0), (12, .aload_n 0, 0, 0), (13, .getfield 108, 11, 14), (16, .iconst 1, 0, 0), (17, .isub, 0, 0),
  (18, .invokestatic 197, 196, 0), (21, .ifCond .ne 7, 28, 0), (24, .iconst 1, 0, 0), (25, .goto 4, 29, 0), (28, .iconst 0, 0, 0), (29, .iconst 1, 0, 0), (30, .invokevirtual 275, 197, 0), (33, .ireturn, 0, 0)], 2, 2, false, (some .boolean), [], 11)
def am_n258 : amN := (yX12_noQuad, cX12_noQuad, [])
def am_h258 : List (List Nat) := [[], [], [1539], [], [1775, 1777, 69, 134, 1778], [], [], [], [], [1546], [], [], [1648, 1649, 134, 1650], [], [], [], [], [], [1759, 1761, 65, 134, 1762], []]
def am_g258 : List (Nat × Nat) := []
def am_m259 : amM := ([(0, .aload_n 0, 0, 0), (1, .iload_n 1, 0, 0), (2, .iload_n 2, 0, 0), (3, .invokevirtual 282, 255, 0), (6, .ifCond .eq 5, 11, 0), (9, .iconst 1, 0, 0), (10, .ireturn, 0, 0), (11, .aload_n 0, 0, 0), (12, .invokevirtual 99, 211, 0), (15, .aload_n 0, 0, 0), (16, .aload_n 0, 0, 0), (17, .iload_n 1, 0, 0),
  (18, .iload_n 2, 0, 0), (19, .iload_n 3, 0, 0), (20, .invokevirtual 286, 228, 0), (23, .ifCond .ne 7, 30, 0), (26, .iconst 1, 0, 0), (27, .goto 4, 31, 0), (30, .iconst 0, 0, 0), (31, .iconst 3, 0, 0), (32, .invokevirtual 275, 197, 0), (35, .ireturn, 0, 0)], 4, 4, false, (some .boolean), [], 11)
def am_n259 : amN := (yX12_noCycle, cX12_noCycle, [])
def am_h259 : List (List Nat) := [[], [], [], [1828, 1830, 77, 134, 1831], [], [], [], [], [1743, 1745, 64, 134, 1746], [], [], [], [], [], [2023, 2025, 100, 134, 2026], [], [], [], [], [], [1759, 1761, 65, 134, 1762], []]
def am_g259 : List (Nat × Nat) := []
def am_m260 : amM := ([(0, .aload_n 0, 0, 0), (1, .iconst 0, 0, 0), (2, .putfield 67, 11, 7), (5, .aload_n 0, 0, 0), (6, .iload_n 1, 0, 0), (7, .iconst 0, 0, 0), (8, .bipush 7, 0, 0), (10, .invokestatic 197, 196, 0), (13, .ifCond .ne 7, 20, 0), (16, .iconst 1, 0, 0), (17, .goto 4, 21, 0), (20, .iconst 0, 0, 0),
  (21, .iconst 1, 0, 0), (22, .invokevirtual 275, 197, 0), (25, .ifCond .eq 5, 30, 0), (28, .iconst 0, 0, 0), (29, .ireturn, 0, 0), (30, .iload_n 1, 0, 0), (31, .tableswitch 70 0 7 #[45, 50, 55, 60, 70, 70, 70, 65], 0, 0), (76, .aload_n 0, 0, 0), (77, .invokevirtual 95, 203, 0), (80, .ireturn, 0, 0), (81, .aload_n 0, 0, 0), (82, .invokevirtual 105, 213, 0),
  (85, .ireturn, 0, 0), (86, .aload_n 0, 0, 0), (87, .invokevirtual 289, 215, 0), (90, .ireturn, 0, 0), (91, .aload_n 0, 0, 0), (92, .invokevirtual 292, 261, 0), (95, .ireturn, 0, 0), (96, .aload_n 0, 0, 0), (97, .getfield 70, 11, 5), (100, .ireturn, 0, 0), (101, .aload_n 0, 0, 0), (102, .getfield 7, 11, 0),
  (105, .iconst 1, 0, 0), (106, .iload_n 1, 0, 0), (107, .iadd, 0, 0), (108, .iconst 4, 0, 0), (109, .isub, 0, 0), (110, .iaload, 0, 0), (111, .ireturn, 0, 0)], 2, 2, false, (some .int), [], 11)
def am_n260 : amN := (yX12_count, cX12_count, [])
def am_h260 : List (List Nat) := [[], [], [1539], [], [], [], [], [1648, 1649, 134, 1650], [], [], [], [], [], [1759, 1761, 65, 134, 1762], [], [], [], [], [], [], [1702, 1704, 54, 134, 1705], [], [], [1739, 1741, 63, 134, 1742], [], [], [1763, 1765, 66, 134, 1766], [], [], [1771, 1773, 68, 134, 1774], [], [], [1537], [], [], [1532], [], [], [], [], [], [], []]
def am_g260 : List (Nat × Nat) := []
def am_m261 : amM := ([(0, .aload_n 0, 0, 0), (1, .invokevirtual 155, 216, 0), (4, .aload_n 0, 0, 0), (5, .getfield 108, 11, 14), (8, .ireturn, 0, 0)], 1, 1, false, (some .int), [], 11)
def am_n261 : amN := (yX12_quadsNow, cX12_quadsNow, [])
def am_h261 : List (List Nat) := [[], [1775, 1777, 69, 134, 1778], [], [1546], []]
def am_g261 : List (Nat × Nat) := []
def am_m262 : amM := ([(0, .aload_n 0, 0, 0), (1, .invokevirtual 289, 215, 0), (4, .ifCond .ne 7, 11, 0), (7, .iconst 1, 0, 0), (8, .goto 4, 12, 0), (11, .iconst 0, 0, 0), (12, .ireturn, 0, 0)], 1, 1, false, (some .boolean), [], 11)
def am_n262 : amN := (yX12_isWhole, cX12_isWhole, [])
def am_h262 : List (List Nat) := [[], [1763, 1765, 66, 134, 1766], [], [], [], [], []]
def am_g262 : List (Nat × Nat) := []
def am_m263 : amM := ([(0, .aload_n 0, 0, 0), (1, .iconst 0, 0, 0), (2, .putfield 67, 11, 7), (5, .aload_n 0, 0, 0), (6, .invokevirtual 295, 262, 0), (9, .ireturn, 0, 0)], 1, 1, false, (some .boolean), [], 11)
def am_n263 : amN := (yX12_isComplete, cX12_isComplete, [])
def am_h263 : List (List Nat) := [[], [], [1539], [], [1800, 1802, 73, 134, 1803], []]
def am_g263 : List (Nat × Nat) := []
def am_m264 : amM := ([(0, .aload_n 0, 0, 0), (1, .iload_n 1, 0, 0), (2, .invokevirtual 298, 257, 0), (5, .ifCond .ne 25, 30, 0), (8, .aload_n 0, 0, 0), (9, .iload_n 2, 0, 0), (10, .iconst 0, 0, 0), (11, .iconst 2, 0, 0), (12, .invokestatic 197, 196, 0), (15, .ifCond .ne 7, 22, 0), (18, .iconst 1, 0, 0), (19, .goto 4, 23, 0),
  (22, .iconst 0, 0, 0), (23, .iconst 2, 0, 0), (24, .invokevirtual 275, 197, 0), (27, .ifCond .eq 5, 32, 0), (30, .iconst 0, 0, 0), (31, .ireturn, 0, 0), (32, .iload_n 2, 0, 0), (33, .ifCond .ne 12, 45, 0), (36, .aload_n 0, 0, 0), (37, .getfield 25, 11, 8), (40, .iload_n 1, 0, 0), (41, .iaload, 0, 0),
  (42, .goto 23, 65, 0), (45, .iload_n 2, 0, 0), (46, .iconst 1, 0, 0), (47, .if_icmp .ne 12, 59, 0), (50, .aload_n 0, 0, 0), (51, .getfield 28, 11, 9), (54, .iload_n 1, 0, 0), (55, .iaload, 0, 0), (56, .goto 9, 65, 0), (59, .aload_n 0, 0, 0), (60, .getfield 31, 11, 10), (63, .iload_n 1, 0, 0),
  (64, .iaload, 0, 0), (65, .ireturn, 0, 0)], 3, 3, false, (some .int), [], 11)
def am_n264 : amN := (yX12_triple, cX12_triple, [])
def am_h264 : List (List Nat) := [[], [], [1808, 1810, 74, 134, 1811], [], [], [], [], [], [1648, 1649, 134, 1650], [], [], [], [], [], [1759, 1761, 65, 134, 1762], [], [], [], [], [], [], [1540], [], [], [], [], [], [], [], [1541], [], [], [], [], [1542], [], [], []]
def am_g264 : List (Nat × Nat) := []
def am_m265 : amM := ([(0, .aload_n 0, 0, 0), (1, .iload_n 1, 0, 0), (2, .iload_n 2, 0, 0), (3, .iload_n 3, 0, 0), (4, .invokevirtual 301, 256, 0), (7, .ifCond .eq 5, 12, 0), (10, .iconst 0, 0, 0), (11, .ireturn, 0, 0), (12, .aload_n 0, 0, 0), (13, .invokevirtual 99, 211, 0), (16, .aload_n 0, 0, 0), (17, .iconst 1, 0, 0),
  (18, .iload_n 1, 0, 0), (19, .ishl, 0, 0), (20, .iconst 1, 0, 0), (21, .iload_n 2, 0, 0), (22, .ishl, 0, 0), (23, .ior, 0, 0), (24, .iconst 1, 0, 0), (25, .iload_n 3, 0, 0), (26, .ishl, 0, 0), (27, .ior, 0, 0), (28, .invokevirtual 115, 212, 0), (31, .ireturn, 0, 0)], 4, 4, false, (some .int), [], 11)
def am_n265 : amN := (yX12_find, cX12_find, [])
def am_h265 : List (List Nat) := [[], [], [], [], [1816, 1818, 75, 134, 1819], [], [], [], [], [1743, 1745, 64, 134, 1746], [], [], [], [], [], [], [], [], [], [], [], [], [1788, 1790, 71, 134, 1791], []]
def am_g265 : List (Nat × Nat) := []
def am_m266 : amM := ([(0, .aload_n 0, 0, 0), (1, .iload_n 1, 0, 0), (2, .iload_n 2, 0, 0), (3, .invokevirtual 282, 255, 0), (6, .ifCond .eq 7, 13, 0), (9, .iconst 0, 0, 0), (10, .goto 9, 19, 0), (13, .aload_n 0, 0, 0), (14, .iload_n 1, 0, 0), (15, .iload_n 2, 0, 0), (16, .invokevirtual 81, 204, 0), (19, .ireturn, 0, 0)], 3, 3, false, (some .int), [], 11)
def am_n266 : amN := (yX12_third, cX12_third, [])
def am_h266 : List (List Nat) := [[], [], [], [1828, 1830, 77, 134, 1831], [], [], [], [], [], [], [1726, 1728, 60, 134, 1729], []]
def am_g266 : List (Nat × Nat) := []
def am_m267 : amM := ([(0, .aload_n 0, 0, 0), (1, .iload_n 1, 0, 0), (2, .invokevirtual 279, 254, 0), (5, .ifCond .eq 5, 10, 0), (8, .iconst 0, 0, 0), (9, .ireturn, 0, 0), (10, .iconst 0, 0, 0), (11, .istore_n 2, 0, 0), (12, .iconst 0, 0, 0), (13, .istore_n 3, 0, 0), (14, .iload_n 3, 0, 0), (15, .aload_n 0, 0, 0),
  (16, .invokevirtual 95, 203, 0), (19, .if_icmp .ge 32, 51, 0), (22, .iload_n 2, 0, 0), (23, .iload_n 3, 0, 0), (24, .iload_n 1, 0, 0), (25, .if_icmp .eq 17, 42, 0), (28, .aload_n 0, 0, 0), (29, .iload_n 1, 0, 0), (30, .iload_n 3, 0, 0), (31, .invokevirtual 81, 204, 0), (34, .iconst (-1), 0, 0), (35, .if_icmp .eq 7, 42, 0),
  (38, .iconst 1, 0, 0), (39, .goto 4, 43, 0), (42, .iconst 0, 0, 0), (43, .iadd, 0, 0), (44, .istore_n 2, 0, 0), (45, .iinc 3 1, 0, 0), (48, .goto (-34), 14, 0), (51, .iload_n 2, 0, 0), (52, .iconst 2, 0, 0), (53, .idiv, 0, 0), (54, .ireturn, 0, 0)], 4, 2, false, (some .int), [], 11)
def am_n267 : amN := (yX12_degree, cX12_degree, [])
def am_h267 : List (List Nat) := [[], [], [1820, 1822, 76, 134, 1823], [], [], [], [], [], [], [], [], [], [1702, 1704, 54, 134, 1705], [], [], [], [], [], [], [], [], [1726, 1728, 60, 134, 1729], [], [], [], [], [], [], [], [], [], [], [], [], []]
def am_g267 : List (Nat × Nat) := []
def am_m268 : amM := ([(0, .aload_n 0, 0, 0), (1, .iconst 0, 0, 0), (2, .putfield 67, 11, 7), (5, .aload_n 0, 0, 0), (6, .iload_n 1, 0, 0), (7, .ifCond .ge 7, 14, 0), (10, .iconst 1, 0, 0), (11, .goto 4, 15, 0), (14, .iconst 0, 0, 0), (15, .iconst 1, 0, 0), (16, .invokevirtual 275, 197, 0), (19, .ifCond .eq 5, 24, 0),
  (22, .iconst 0, 0, 0), (23, .ireturn, 0, 0), (24, .iload_n 1, 0, 0), (25, .istore_n 2, 0, 0), (26, .iconst 0, 0, 0), (27, .istore_n 3, 0, 0), (28, .iload_n 3, 0, 0), (29, .aload_n 0, 0, 0), (30, .invokevirtual 95, 203, 0), (33, .if_icmp .ge 58, 91, 0), (36, .iload_n 3, 0, 0), (37, .iconst 1, 0, 0),
  (38, .iadd, 0, 0), (39, .istore 4, 0, 0), (41, .iload 4, 0, 0), (43, .aload_n 0, 0, 0), (44, .invokevirtual 95, 203, 0), (47, .if_icmp .ge 38, 85, 0), (50, .aload_n 0, 0, 0), (51, .iload_n 3, 0, 0), (52, .iload 4, 0, 0), (54, .invokevirtual 81, 204, 0), (57, .iconst (-1), 0, 0), (58, .if_icmp .eq 6, 64, 0),
  (61, .goto 18, 79, 0), (64, .iload_n 2, 0, 0), (65, .ifCond .ne 11, 76, 0), (68, .bipush 16, 0, 0), (70, .iload_n 3, 0, 0), (71, .imul, 0, 0), (72, .iload 4, 0, 0), (74, .iadd, 0, 0), (75, .ireturn, 0, 0), (76, .iinc 2 (-1), 0, 0), (79, .iinc 4 1, 0, 0), (82, .goto (-41), 41, 0),
  (85, .iinc 3 1, 0, 0), (88, .goto (-60), 28, 0), (91, .iconst (-1), 0, 0), (92, .ireturn, 0, 0)], 5, 2, false, (some .int), [], 11)
def am_n268 : amN := (yX12_uncovered, cX12_uncovered, [])
def am_h268 : List (List Nat) := [[], [], [1539], [], [], [], [], [], [], [], [1759, 1761, 65, 134, 1762], [], [], [], [], [], [], [], [], [], [1702, 1704, 54, 134, 1705], [], [], [], [], [], [], [], [1702, 1704, 54, 134, 1705], [], [], [], [], [1726, 1728, 60, 134, 1729], [], [], [], [], [], [], [], [], [], [], [], [], [], [], [], [], [], []]
def am_g268 : List (Nat × Nat) := []
def am_m269 : amM := ([(0, .aload_n 0, 0, 0), (1, .iload_n 1, 0, 0), (2, .iload_n 2, 0, 0), (3, .invokevirtual 81, 204, 0), (6, .iload_n 3, 0, 0), (7, .if_icmp .ne 5, 12, 0), (10, .iconst 1, 0, 0), (11, .ireturn, 0, 0), (12, .aload_n 0, 0, 0), (13, .iload_n 1, 0, 0), (14, .iload_n 2, 0, 0), (15, .iload_n 3, 0, 0),
  (16, .invokevirtual 88, 209, 0), (19, .istore 4, 0, 0), (21, .iload 4, 0, 0), (23, .ifCond .ne 7, 30, 0), (26, .iconst 0, 0, 0), (27, .goto 7, 34, 0), (30, .iconst 1, 0, 0), (31, .iload 4, 0, 0), (33, .iadd, 0, 0), (34, .ireturn, 0, 0)], 5, 4, false, (some .int), [], 11)
def am_n269 : amN := (yX12_reasonOf, cX12_reasonOf, [])
def am_h269 : List (List Nat) := [[], [], [], [1726, 1728, 60, 134, 1729], [], [], [], [], [], [], [], [], [1718, 1720, 58, 134, 1721], [], [], [], [], [], [], [], [], []]
def am_g269 : List (Nat × Nat) := []
def am_m270 : amM := ([(0, .aload_n 0, 0, 0), (1, .iload_n 1, 0, 0), (2, .iload_n 2, 0, 0), (3, .iload_n 3, 0, 0), (4, .invokevirtual 301, 256, 0), (7, .ifCond .eq 7, 14, 0), (10, .iconst 0, 0, 0), (11, .goto 10, 21, 0), (14, .aload_n 0, 0, 0), (15, .iload_n 1, 0, 0), (16, .iload_n 2, 0, 0), (17, .iload_n 3, 0, 0),
  (18, .invokevirtual 304, 269, 0), (21, .ireturn, 0, 0)], 4, 4, false, (some .int), [], 11)
def am_n270 : amN := (yX12_reason, cX12_reason, [])
def am_h270 : List (List Nat) := [[], [], [], [], [1816, 1818, 75, 134, 1819], [], [], [], [], [], [], [], [1844, 1846, 78, 134, 1847], []]
def am_g270 : List (Nat × Nat) := []
def am_m271 : amM := ([(0, .aload_n 0, 0, 0), (1, .iload_n 1, 0, 0), (2, .iload_n 2, 0, 0), (3, .iload_n 3, 0, 0), (4, .invokevirtual 301, 256, 0), (7, .ifCond .eq 5, 12, 0), (10, .iconst 0, 0, 0), (11, .ireturn, 0, 0), (12, .aload_n 0, 0, 0), (13, .iload_n 1, 0, 0), (14, .iload_n 2, 0, 0), (15, .invokevirtual 81, 204, 0),
  (18, .iload_n 3, 0, 0), (19, .if_icmp .ne 7, 26, 0), (22, .iconst 1, 0, 0), (23, .goto 10, 33, 0), (26, .aload_n 0, 0, 0), (27, .iload_n 1, 0, 0), (28, .iload_n 2, 0, 0), (29, .iload_n 3, 0, 0), (30, .invokevirtual 88, 209, 0), (33, .ireturn, 0, 0)], 4, 4, false, (some .int), [], 11)
def am_n271 : amN := (yX12_inTheWay, cX12_inTheWay, [])
def am_h271 : List (List Nat) := [[], [], [], [], [1816, 1818, 75, 134, 1819], [], [], [], [], [], [], [1726, 1728, 60, 134, 1729], [], [], [], [], [], [], [], [], [1718, 1720, 58, 134, 1721], []]
def am_g271 : List (Nat × Nat) := []
def am_m272 : amM := ([(0, .aload_n 0, 0, 0), (1, .iload_n 1, 0, 0), (2, .iload_n 2, 0, 0), (3, .iload_n 3, 0, 0), (4, .invokevirtual 301, 256, 0), (7, .ifCond .ne 26, 33, 0), (10, .aload_n 0, 0, 0), (11, .aload_n 0, 0, 0), (12, .iload_n 1, 0, 0), (13, .iload_n 2, 0, 0), (14, .iload_n 3, 0, 0), (15, .invokevirtual 304, 269, 0),
  (18, .ifCond .eq 7, 25, 0), (21, .iconst 1, 0, 0), (22, .goto 4, 26, 0), (25, .iconst 0, 0, 0), (26, .iconst 3, 0, 0), (27, .invokevirtual 275, 197, 0), (30, .ifCond .eq 5, 35, 0), (33, .iconst 0, 0, 0), (34, .ireturn, 0, 0), (35, .aload_n 0, 0, 0), (36, .invokevirtual 307, 200, 0), (39, .aload_n 0, 0, 0),
  (40, .iload_n 1, 0, 0), (41, .iload_n 2, 0, 0), (42, .iload_n 3, 0, 0), (43, .invokevirtual 137, 206, 0), (46, .aload_n 0, 0, 0), (47, .invokevirtual 99, 211, 0), (50, .aload_n 0, 0, 0), (51, .iconst 1, 0, 0), (52, .iload_n 1, 0, 0), (53, .ishl, 0, 0), (54, .iconst 1, 0, 0), (55, .iload_n 2, 0, 0),
  (56, .ishl, 0, 0), (57, .ior, 0, 0), (58, .iconst 1, 0, 0), (59, .iload_n 3, 0, 0), (60, .ishl, 0, 0), (61, .ior, 0, 0), (62, .invokevirtual 115, 212, 0), (65, .ireturn, 0, 0)], 4, 4, false, (some .int), [], 11)
def am_n272 : amN := (yX12_add, cX12_add, [])
def am_h272 : List (List Nat) := [[], [], [], [], [1816, 1818, 75, 134, 1819], [], [], [], [], [], [], [1844, 1846, 78, 134, 1847], [], [], [], [], [], [1759, 1761, 65, 134, 1762], [], [], [], [], [1856, 1858, 79, 134, 1859], [], [], [], [], [1730, 1732, 61, 134, 1733], [], [1743, 1745, 64, 134, 1746], [], [], [], [], [], [], [], [], [], [], [], [], [1788, 1790, 71, 134, 1791], []]
def am_g272 : List (Nat × Nat) := []
def am_m273 : amM := ([(0, .aload_n 0, 0, 0), (1, .iload_n 1, 0, 0), (2, .invokevirtual 298, 257, 0), (5, .ifCond .eq 5, 10, 0), (8, .iconst 0, 0, 0), (9, .ireturn, 0, 0), (10, .aload_n 0, 0, 0), (11, .invokevirtual 307, 200, 0), (14, .aload_n 0, 0, 0), (15, .aload_n 0, 0, 0), (16, .getfield 25, 11, 8), (19, .iload_n 1, 0, 0),
  (20, .iaload, 0, 0), (21, .aload_n 0, 0, 0), (22, .getfield 28, 11, 9), (25, .iload_n 1, 0, 0), (26, .iaload, 0, 0), (27, .aload_n 0, 0, 0), (28, .getfield 31, 11, 10), (31, .iload_n 1, 0, 0), (32, .iaload, 0, 0), (33, .invokevirtual 134, 207, 0), (36, .aload_n 0, 0, 0), (37, .getfield 92, 11, 12),
  (40, .iconst 1, 0, 0), (41, .isub, 0, 0), (42, .ireturn, 0, 0)], 2, 2, false, (some .int), [], 11)
def am_n273 : amN := (yX12_remove, cX12_remove, [])
def am_h273 : List (List Nat) := [[], [], [1808, 1810, 74, 134, 1811], [], [], [], [], [1856, 1858, 79, 134, 1859], [], [], [1540], [], [], [], [1541], [], [], [], [1542], [], [], [1864, 1866, 80, 134, 1867], [], [1544], [], [], []]
def am_g273 : List (Nat × Nat) := []
def am_m274 : amM := ([(0, .aload_n 0, 0, 0), (1, .iload_n 1, 0, 0), (2, .iload_n 2, 0, 0), (3, .iload_n 3, 0, 0), (4, .invokevirtual 301, 256, 0), (7, .ifCond .eq 5, 12, 0), (10, .iconst 0, 0, 0), (11, .ireturn, 0, 0), (12, .aload_n 0, 0, 0), (13, .invokevirtual 143, 201, 0), (16, .aload_n 0, 0, 0), (17, .iload_n 1, 0, 0),
  (18, .iload_n 2, 0, 0), (19, .iload_n 3, 0, 0), (20, .invokevirtual 242, 237, 0), (23, .istore 4, 0, 0), (25, .aload_n 0, 0, 0), (26, .invokevirtual 152, 202, 0), (29, .aload_n 0, 0, 0), (30, .iload 4, 0, 0), (32, .iconst (-1), 0, 0), (33, .if_icmp .ne 7, 40, 0), (36, .iconst 1, 0, 0), (37, .goto 4, 41, 0),
  (40, .iconst 0, 0, 0), (41, .iconst 3, 0, 0), (42, .invokevirtual 275, 197, 0), (45, .ifCond .eq 5, 50, 0), (48, .iconst 0, 0, 0), (49, .ireturn, 0, 0), (50, .aload_n 0, 0, 0), (51, .invokevirtual 307, 200, 0), (54, .aload_n 0, 0, 0), (55, .iload_n 1, 0, 0), (56, .iload_n 2, 0, 0), (57, .iload_n 3, 0, 0),
  (58, .invokevirtual 242, 237, 0), (61, .ireturn, 0, 0)], 5, 4, false, (some .int), [], 11)
def am_n274 : amN := (yX12_develop, cX12_develop, [])
def am_h274 : List (List Nat) := [[], [], [], [], [1816, 1818, 75, 134, 1819], [], [], [], [], [1872, 1874, 81, 134, 1875], [], [], [], [], [1706, 1708, 55, 134, 1709], [], [], [1876, 1878, 82, 134, 1879], [], [], [], [], [], [], [], [], [1759, 1761, 65, 134, 1762], [], [], [], [], [1856, 1858, 79, 134, 1859], [], [], [], [], [1706, 1708, 55, 134, 1709], []]
def am_g274 : List (Nat × Nat) := []
def am_m275 : amM := ([(0, .aload_n 0, 0, 0), (1, .iconst 0, 0, 0), (2, .putfield 67, 11, 7), (5, .aload_n 0, 0, 0), (6, .invokevirtual 307, 200, 0), (9, .iconst 0, 0, 0), (10, .istore_n 1, 0, 0), (11, .iconst 0, 0, 0), (12, .istore_n 2, 0, 0), (13, .iload_n 2, 0, 0), (14, .aload_n 0, 0, 0), (15, .invokevirtual 95, 203, 0),
  (18, .if_icmp .ge 72, 90, 0), (21, .iload_n 2, 0, 0), (22, .iconst 1, 0, 0), (23, .iadd, 0, 0), (24, .istore_n 3, 0, 0), (25, .iload_n 3, 0, 0), (26, .aload_n 0, 0, 0), (27, .invokevirtual 95, 203, 0), (30, .if_icmp .ge 54, 84, 0), (33, .iload_n 3, 0, 0), (34, .iconst 1, 0, 0), (35, .iadd, 0, 0),
  (36, .istore 4, 0, 0), (38, .iload 4, 0, 0), (40, .aload_n 0, 0, 0), (41, .invokevirtual 95, 203, 0), (44, .if_icmp .ge 34, 78, 0), (47, .aload_n 0, 0, 0), (48, .iload_n 2, 0, 0), (49, .iload_n 3, 0, 0), (50, .iload 4, 0, 0), (52, .invokevirtual 188, 210, 0), (55, .ifCond .ne 6, 61, 0), (58, .goto 14, 72, 0),
  (61, .aload_n 0, 0, 0), (62, .iload_n 2, 0, 0), (63, .iload_n 3, 0, 0), (64, .iload 4, 0, 0), (66, .invokevirtual 137, 206, 0), (69, .iinc 1 1, 0, 0), (72, .iinc 4 1, 0, 0), (75, .goto (-37), 38, 0), (78, .iinc 3 1, 0, 0), (81, .goto (-56), 25, 0), (84, .iinc 2 1, 0, 0), (87, .goto (-74), 13, 0),
  (90, .iload_n 1, 0, 0), (91, .ireturn, 0, 0)], 5, 1, false, (some .int), [], 11)
def am_n275 : amN := (yX12_fill, cX12_fill, [])
def am_h275 : List (List Nat) := [[], [], [1539], [], [1856, 1858, 79, 134, 1859], [], [], [], [], [], [], [1702, 1704, 54, 134, 1705], [], [], [], [], [], [], [], [1702, 1704, 54, 134, 1705], [], [], [], [], [], [], [], [1702, 1704, 54, 134, 1705], [], [], [], [], [], [1714, 1716, 57, 134, 1717], [], [], [], [], [], [], [1730, 1732, 61, 134, 1733], [], [], [], [], [], [], [], [], []]
def am_g275 : List (Nat × Nat) := []
def am_m276 : amM := ([(0, .aload_n 0, 0, 0), (1, .iload_n 1, 0, 0), (2, .iload_n 2, 0, 0), (3, .iload_n 3, 0, 0), (4, .invokevirtual 301, 256, 0), (7, .ifCond .ne 26, 33, 0), (10, .aload_n 0, 0, 0), (11, .aload_n 0, 0, 0), (12, .iload_n 1, 0, 0), (13, .iload_n 2, 0, 0), (14, .invokevirtual 81, 204, 0), (17, .iload_n 3, 0, 0),
  (18, .if_icmp .ne 7, 25, 0), (21, .iconst 1, 0, 0), (22, .goto 4, 26, 0), (25, .iconst 0, 0, 0), (26, .iconst 3, 0, 0), (27, .invokevirtual 275, 197, 0), (30, .ifCond .eq 5, 35, 0), (33, .iconst 0, 0, 0), (34, .ireturn, 0, 0), (35, .aload_n 0, 0, 0), (36, .invokevirtual 307, 200, 0), (39, .aload_n 0, 0, 0),
  (40, .iload_n 1, 0, 0), (41, .iload_n 2, 0, 0), (42, .invokevirtual 310, 277, 0), (45, .aload_n 0, 0, 0), (46, .iload_n 2, 0, 0), (47, .iload_n 3, 0, 0), (48, .invokevirtual 310, 277, 0), (51, .iadd, 0, 0), (52, .aload_n 0, 0, 0), (53, .iload_n 1, 0, 0), (54, .iload_n 3, 0, 0), (55, .invokevirtual 310, 277, 0),
  (58, .iadd, 0, 0), (59, .istore 4, 0, 0), (61, .aload_n 0, 0, 0), (62, .iload_n 1, 0, 0), (63, .iload_n 2, 0, 0), (64, .iload_n 3, 0, 0), (65, .invokevirtual 137, 206, 0), (68, .iload 4, 0, 0), (70, .ireturn, 0, 0)], 5, 4, false, (some .int), [], 11)
def am_n276 : amN := (yX12_force, cX12_force, [])
def am_h276 : List (List Nat) := [[], [], [], [], [1816, 1818, 75, 134, 1819], [], [], [], [], [], [1726, 1728, 60, 134, 1729], [], [], [], [], [], [], [1759, 1761, 65, 134, 1762], [], [], [], [], [1856, 1858, 79, 134, 1859], [], [], [], [1888, 1890, 83, 134, 1891], [], [], [], [1888, 1890, 83, 134, 1891], [], [], [], [], [1888, 1890, 83, 134, 1891], [], [], [], [], [], [], [1730, 1732, 61, 134, 1733], [], []]
def am_g276 : List (Nat × Nat) := []
def am_m277 : amM := ([(0, .aload_n 0, 0, 0), (1, .iload_n 1, 0, 0), (2, .iload_n 2, 0, 0), (3, .invokevirtual 81, 204, 0), (6, .istore_n 3, 0, 0), (7, .iload_n 3, 0, 0), (8, .iconst (-1), 0, 0), (9, .if_icmp .ne 5, 14, 0), (12, .iconst 0, 0, 0), (13, .ireturn, 0, 0), (14, .aload_n 0, 0, 0), (15, .iload_n 1, 0, 0),
  (16, .iload_n 2, 0, 0), (17, .iload_n 3, 0, 0), (18, .invokevirtual 134, 207, 0), (21, .iconst 1, 0, 0), (22, .ireturn, 0, 0)], 4, 3, false, (some .int), [], 11)
def am_n277 : amN := (yX12_removes, cX12_removes, [])
def am_h277 : List (List Nat) := [[], [], [], [1726, 1728, 60, 134, 1729], [], [], [], [], [], [], [], [], [], [], [1864, 1866, 80, 134, 1867], [], []]
def am_g277 : List (Nat × Nat) := []
def am_m278 : amM := ([(0, .aload_n 0, 0, 0), (1, .iload_n 1, 0, 0), (2, .invokevirtual 279, 254, 0), (5, .ifCond .eq 5, 10, 0), (8, .iconst 0, 0, 0), (9, .ireturn, 0, 0), (10, .aload_n 0, 0, 0), (11, .invokevirtual 307, 200, 0), (14, .iconst 0, 0, 0), (15, .istore_n 2, 0, 0), (16, .iconst 0, 0, 0), (17, .istore_n 3, 0, 0),
  (18, .iload_n 3, 0, 0), (19, .aload_n 0, 0, 0), (20, .invokevirtual 95, 203, 0), (23, .if_icmp .ge 23, 46, 0), (26, .iload_n 3, 0, 0), (27, .iload_n 1, 0, 0), (28, .if_icmp .eq 12, 40, 0), (31, .iload_n 2, 0, 0), (32, .aload_n 0, 0, 0), (33, .iload_n 1, 0, 0), (34, .iload_n 3, 0, 0), (35, .invokevirtual 310, 277, 0),
  (38, .iadd, 0, 0), (39, .istore_n 2, 0, 0), (40, .iinc 3 1, 0, 0), (43, .goto (-25), 18, 0), (46, .iload_n 2, 0, 0), (47, .ireturn, 0, 0)], 4, 2, false, (some .int), [], 11)
def am_n278 : amN := (yX12_clear, cX12_clear, [])
def am_h278 : List (List Nat) := [[], [], [1820, 1822, 76, 134, 1823], [], [], [], [], [1856, 1858, 79, 134, 1859], [], [], [], [], [], [], [1702, 1704, 54, 134, 1705], [], [], [], [], [], [], [], [], [1888, 1890, 83, 134, 1891], [], [], [], [], [], []]
def am_g278 : List (Nat × Nat) := []
def am_m279 : amM := ([(0, .aload_n 0, 0, 0), (1, .iload_n 1, 0, 0), (2, .iload_n 2, 0, 0), (3, .invokevirtual 282, 255, 0), (6, .ifCond .eq 5, 11, 0), (9, .iconst 0, 0, 0), (10, .ireturn, 0, 0), (11, .aload_n 0, 0, 0), (12, .invokevirtual 307, 200, 0), (15, .aload_n 0, 0, 0), (16, .invokevirtual 99, 211, 0), (19, .iconst 0, 0, 0),
  (20, .istore_n 3, 0, 0), (21, .aload_n 0, 0, 0), (22, .getfield 7, 11, 0), (25, .iconst 4, 0, 0), (26, .aload_n 0, 0, 0), (27, .getfield 13, 11, 1), (30, .iconst 4, 0, 0), (31, .sipush 225, 0, 0), (34, .invokestatic 73, 198, 0), (37, .iconst 0, 0, 0), (38, .istore 4, 0, 0), (40, .iload 4, 0, 0),
  (42, .aload_n 0, 0, 0), (43, .getfield 92, 11, 12), (46, .if_icmp .ge 34, 80, 0), (49, .aload_n 0, 0, 0), (50, .aload_n 0, 0, 0), (51, .getfield 25, 11, 8), (54, .iload 4, 0, 0), (56, .iaload, 0, 0), (57, .aload_n 0, 0, 0), (58, .getfield 28, 11, 9), (61, .iload 4, 0, 0), (63, .iaload, 0, 0),
  (64, .aload_n 0, 0, 0), (65, .getfield 31, 11, 10), (68, .iload 4, 0, 0), (70, .iaload, 0, 0), (71, .invokevirtual 134, 207, 0), (74, .iinc 4 1, 0, 0), (77, .goto (-37), 40, 0), (80, .iconst 0, 0, 0), (81, .istore 4, 0, 0), (83, .iload 4, 0, 0), (85, .aload_n 0, 0, 0), (86, .getfield 92, 11, 12),
  (89, .if_icmp .ge 89, 178, 0), (92, .aload_n 0, 0, 0), (93, .getfield 25, 11, 8), (96, .iload 4, 0, 0), (98, .iaload, 0, 0), (99, .iload_n 1, 0, 0), (100, .iload_n 2, 0, 0), (101, .invokestatic 313, 280, 0), (104, .istore 5, 0, 0), (106, .aload_n 0, 0, 0), (107, .getfield 28, 11, 9), (110, .iload 4, 0, 0),
  (112, .iaload, 0, 0), (113, .iload_n 1, 0, 0), (114, .iload_n 2, 0, 0), (115, .invokestatic 313, 280, 0), (118, .istore 6, 0, 0), (120, .aload_n 0, 0, 0), (121, .getfield 31, 11, 10), (124, .iload 4, 0, 0), (126, .iaload, 0, 0), (127, .iload_n 1, 0, 0), (128, .iload_n 2, 0, 0), (129, .invokestatic 313, 280, 0),
  (132, .istore 7, 0, 0), (134, .aload_n 0, 0, 0), (135, .iload 5, 0, 0), (137, .iload 6, 0, 0), (139, .iload 7, 0, 0), (141, .invokevirtual 137, 206, 0), (144, .iload_n 3, 0, 0), (145, .aload_n 0, 0, 0), (146, .getfield 13, 11, 1), (149, .iconst 4, 0, 0), (150, .bipush 15, 0, 0), (152, .iload 5, 0, 0),
  (154, .imul, 0, 0), (155, .iadd, 0, 0), (156, .iload 6, 0, 0), (158, .iadd, 0, 0), (159, .iaload, 0, 0), (160, .iload 7, 0, 0), (162, .if_icmp .ne 7, 169, 0), (165, .iconst 0, 0, 0), (166, .goto 4, 170, 0), (169, .iconst 1, 0, 0), (170, .iadd, 0, 0), (171, .istore_n 3, 0, 0),
  (172, .iinc 4 1, 0, 0), (175, .goto (-92), 83, 0), (178, .iload_n 3, 0, 0), (179, .ireturn, 0, 0)], 8, 3, false, (some .int), [], 11)
def am_n279 : amN := (yX12_swap, cX12_swap, [])
def am_h279 : List (List Nat) := [[], [], [], [1828, 1830, 77, 134, 1831], [], [], [], [], [1856, 1858, 79, 134, 1859], [], [1743, 1745, 64, 134, 1746], [], [], [], [1532], [], [], [1533], [], [], [1655, 1656, 134, 1657], [], [], [], [], [1544], [], [], [], [1540], [], [], [], [1541], [], [], [], [1542], [], [], [1864, 1866, 80, 134, 1867], [], [], [], [], [], [], [1544], [], [], [1540], [], [], [], [], [1900, 1901, 134, 1902], [], [], [1541], [], [], [], [], [1900, 1901, 134, 1902], [], [], [1542], [], [], [], [], [1900, 1901, 134, 1902], [], [], [], [], [], [1730, 1732, 61, 134, 1733], [], [], [1533], [], [], [], [], [], [], [], [], [], [], [], [], [], [], [], [], [], [], []]
def am_g279 : List (Nat × Nat) := []
def am_m280 : amM := ([(0, .iload_n 0, 0, 0), (1, .iload_n 1, 0, 0), (2, .if_icmp .ne 7, 9, 0), (5, .iload_n 2, 0, 0), (6, .goto 13, 19, 0), (9, .iload_n 0, 0, 0), (10, .iload_n 2, 0, 0), (11, .if_icmp .ne 7, 18, 0), (14, .iload_n 1, 0, 0), (15, .goto 4, 19, 0), (18, .iload_n 0, 0, 0), (19, .ireturn, 0, 0)], 3, 3, false, (some .int), [], 11)
def am_n280 : amN := (yX12_swapped, cX12_swapped, [])
def am_h280 : List (List Nat) := [[], [], [], [], [], [], [], [], [], [], [], []]
def am_g280 : List (Nat × Nat) := []
def am_m281 : amM := ([(0, .aload_n 0, 0, 0), (1, .iconst 0, 0, 0), (2, .putfield 67, 11, 7), (5, .aload_n 0, 0, 0), (6, .invokevirtual 307, 200, 0), (9, .aload_n 0, 0, 0), (10, .invokevirtual 99, 211, 0), (13, .iconst 0, 0, 0), (14, .istore_n 2, 0, 0), (15, .aload_n 0, 0, 0), (16, .getfield 7, 11, 0), (19, .iconst 4, 0, 0),
  (20, .aload_n 0, 0, 0), (21, .getfield 13, 11, 1), (24, .iconst 4, 0, 0), (25, .sipush 225, 0, 0), (28, .invokestatic 73, 198, 0), (31, .iconst 0, 0, 0), (32, .istore_n 3, 0, 0), (33, .iload_n 3, 0, 0), (34, .aload_n 0, 0, 0), (35, .getfield 92, 11, 12), (38, .if_icmp .ge 31, 69, 0), (41, .aload_n 0, 0, 0),
  (42, .aload_n 0, 0, 0), (43, .getfield 25, 11, 8), (46, .iload_n 3, 0, 0), (47, .iaload, 0, 0), (48, .aload_n 0, 0, 0), (49, .getfield 28, 11, 9), (52, .iload_n 3, 0, 0), (53, .iaload, 0, 0), (54, .aload_n 0, 0, 0), (55, .getfield 31, 11, 10), (58, .iload_n 3, 0, 0), (59, .iaload, 0, 0),
  (60, .invokevirtual 134, 207, 0), (63, .iinc 3 1, 0, 0), (66, .goto (-33), 33, 0), (69, .iconst 0, 0, 0), (70, .istore_n 3, 0, 0), (71, .iload_n 3, 0, 0), (72, .aload_n 0, 0, 0), (73, .getfield 92, 11, 12), (76, .if_icmp .ge 98, 174, 0), (79, .aload_n 0, 0, 0), (80, .aload_n 0, 0, 0), (81, .getfield 25, 11, 8),
  (84, .iload_n 3, 0, 0), (85, .iaload, 0, 0), (86, .aload_n 0, 0, 0), (87, .iload_n 1, 0, 0), (88, .invokevirtual 316, 234, 0), (91, .invokevirtual 182, 233, 0), (94, .istore 4, 0, 0), (96, .aload_n 0, 0, 0), (97, .aload_n 0, 0, 0), (98, .getfield 28, 11, 9), (101, .iload_n 3, 0, 0), (102, .iaload, 0, 0),
  (103, .aload_n 0, 0, 0), (104, .iload_n 1, 0, 0), (105, .invokevirtual 316, 234, 0), (108, .invokevirtual 182, 233, 0), (111, .istore 5, 0, 0), (113, .aload_n 0, 0, 0), (114, .aload_n 0, 0, 0), (115, .getfield 31, 11, 10), (118, .iload_n 3, 0, 0), (119, .iaload, 0, 0), (120, .aload_n 0, 0, 0), (121, .iload_n 1, 0, 0),
  (122, .invokevirtual 316, 234, 0), (125, .invokevirtual 182, 233, 0), (128, .istore 6, 0, 0), (130, .aload_n 0, 0, 0), (131, .iload 4, 0, 0), (133, .iload 5, 0, 0), (135, .iload 6, 0, 0), (137, .invokevirtual 137, 206, 0), (140, .iload_n 2, 0, 0), (141, .aload_n 0, 0, 0), (142, .getfield 13, 11, 1), (145, .iconst 4, 0, 0),
  (146, .bipush 15, 0, 0), (148, .iload 4, 0, 0), (150, .imul, 0, 0), (151, .iadd, 0, 0), (152, .iload 5, 0, 0), (154, .iadd, 0, 0), (155, .iaload, 0, 0), (156, .iload 6, 0, 0), (158, .if_icmp .ne 7, 165, 0), (161, .iconst 1, 0, 0), (162, .goto 4, 166, 0), (165, .iconst 0, 0, 0),
  (166, .iadd, 0, 0), (167, .istore_n 2, 0, 0), (168, .iinc 3 1, 0, 0), (171, .goto (-100), 71, 0), (174, .iload_n 2, 0, 0), (175, .ireturn, 0, 0)], 7, 2, false, (some .int), [], 11)
def am_n281 : amN := (yX12_turn, cX12_turn, [])
def am_h281 : List (List Nat) := [[], [], [1539], [], [1856, 1858, 79, 134, 1859], [], [1743, 1745, 64, 134, 1746], [], [], [], [1532], [], [], [1533], [], [], [1655, 1656, 134, 1657], [], [], [], [], [1544], [], [], [], [1540], [], [], [], [1541], [], [], [], [1542], [], [], [1864, 1866, 80, 134, 1867], [], [], [], [], [], [], [1544], [], [], [], [1540], [], [], [], [], [1907, 1909, 84, 134, 1910], [1710, 1712, 56, 134, 1713], [], [], [], [1541], [], [], [], [], [1907, 1909, 84, 134, 1910], [1710, 1712, 56, 134, 1713], [], [], [], [1542], [], [], [], [], [1907, 1909, 84, 134, 1910], [1710, 1712, 56, 134, 1713], [], [], [], [], [], [1730, 1732, 61, 134, 1733], [], [], [1533], [], [], [], [], [], [], [], [], [], [], [], [], [], [], [], [], [], [], []]
def am_g281 : List (Nat × Nat) := []
def am_m282 : amM := ([(0, .iconst 0, 0, 0), (1, .istore_n 3, 0, 0), (2, .iconst 0, 0, 0), (3, .istore 4, 0, 0), (5, .iload 4, 0, 0), (7, .aload_n 0, 0, 0), (8, .invokevirtual 95, 203, 0), (11, .if_icmp .ge 40, 51, 0), (14, .iload_n 3, 0, 0), (15, .iload 4, 0, 0), (17, .iload_n 1, 0, 0), (18, .if_icmp .eq 24, 42, 0),
  (21, .iload 4, 0, 0), (23, .iload_n 2, 0, 0), (24, .if_icmp .eq 18, 42, 0), (27, .aload_n 0, 0, 0), (28, .iload_n 1, 0, 0), (29, .iload_n 2, 0, 0), (30, .iload 4, 0, 0), (32, .invokevirtual 188, 210, 0), (35, .ifCond .eq 7, 42, 0), (38, .iconst 1, 0, 0), (39, .goto 4, 43, 0), (42, .iconst 0, 0, 0),
  (43, .iadd, 0, 0), (44, .istore_n 3, 0, 0), (45, .iinc 4 1, 0, 0), (48, .goto (-43), 5, 0), (51, .iload_n 3, 0, 0), (52, .ireturn, 0, 0)], 5, 3, false, (some .int), [], 11)
def am_n282 : amN := (yX12_waysOf, cX12_waysOf, [])
def am_h282 : List (List Nat) := [[], [], [], [], [], [], [1702, 1704, 54, 134, 1705], [], [], [], [], [], [], [], [], [], [], [], [], [1714, 1716, 57, 134, 1717], [], [], [], [], [], [], [], [], [], []]
def am_g282 : List (Nat × Nat) := []
def am_m283 : amM := ([(0, .iconst (-1), 0, 0), (1, .istore_n 1, 0, 0), (2, .iconst 0, 0, 0), (3, .istore_n 2, 0, 0), (4, .iconst 0, 0, 0), (5, .istore_n 3, 0, 0), (6, .iload_n 3, 0, 0), (7, .aload_n 0, 0, 0), (8, .invokevirtual 95, 203, 0), (11, .if_icmp .ge 77, 88, 0), (14, .iload_n 3, 0, 0), (15, .iconst 1, 0, 0),
  (16, .iadd, 0, 0), (17, .istore 4, 0, 0), (19, .iload 4, 0, 0), (21, .aload_n 0, 0, 0), (22, .invokevirtual 95, 203, 0), (25, .if_icmp .ge 57, 82, 0), (28, .aload_n 0, 0, 0), (29, .iload_n 3, 0, 0), (30, .iload 4, 0, 0), (32, .invokevirtual 81, 204, 0), (35, .iconst (-1), 0, 0), (36, .if_icmp .eq 6, 42, 0),
  (39, .goto 37, 76, 0), (42, .aload_n 0, 0, 0), (43, .iload_n 3, 0, 0), (44, .iload 4, 0, 0), (46, .invokevirtual 319, 282, 0), (49, .istore 5, 0, 0), (51, .iload_n 1, 0, 0), (52, .iconst (-1), 0, 0), (53, .if_icmp .eq 12, 65, 0), (56, .iload 5, 0, 0), (58, .iload_n 2, 0, 0), (59, .if_icmp .lt 6, 65, 0),
  (62, .goto 14, 76, 0), (65, .bipush 16, 0, 0), (67, .iload_n 3, 0, 0), (68, .imul, 0, 0), (69, .iload 4, 0, 0), (71, .iadd, 0, 0), (72, .istore_n 1, 0, 0), (73, .iload 5, 0, 0), (75, .istore_n 2, 0, 0), (76, .iinc 4 1, 0, 0), (79, .goto (-60), 19, 0), (82, .iinc 3 1, 0, 0),
  (85, .goto (-79), 6, 0), (88, .iload_n 1, 0, 0), (89, .ireturn, 0, 0)], 6, 1, false, (some .int), [], 11)
def am_n283 : amN := (yX12_tightestPair, cX12_tightestPair, [])
def am_h283 : List (List Nat) := [[], [], [], [], [], [], [], [], [1702, 1704, 54, 134, 1705], [], [], [], [], [], [], [], [1702, 1704, 54, 134, 1705], [], [], [], [], [1726, 1728, 60, 134, 1729], [], [], [], [], [], [], [1923, 1925, 87, 134, 1926], [], [], [], [], [], [], [], [], [], [], [], [], [], [], [], [], [], [], [], [], [], []]
def am_g283 : List (Nat × Nat) := []
def am_m284 : amM := ([(0, .aload_n 0, 0, 0), (1, .invokevirtual 322, 283, 0), (4, .istore_n 1, 0, 0), (5, .iload_n 1, 0, 0), (6, .iconst (-1), 0, 0), (7, .if_icmp .ne 5, 12, 0), (10, .iconst 1, 0, 0), (11, .ireturn, 0, 0), (12, .iload_n 1, 0, 0), (13, .bipush 16, 0, 0), (15, .idiv, 0, 0), (16, .istore_n 2, 0, 0),
  (17, .iload_n 1, 0, 0), (18, .bipush 16, 0, 0), (20, .irem, 0, 0), (21, .istore_n 3, 0, 0), (22, .iconst 0, 0, 0), (23, .istore 4, 0, 0), (25, .iconst 0, 0, 0), (26, .istore 5, 0, 0), (28, .iload 5, 0, 0), (30, .aload_n 0, 0, 0), (31, .invokevirtual 95, 203, 0), (34, .if_icmp .ge 60, 94, 0),
  (37, .iload 5, 0, 0), (39, .iload_n 2, 0, 0), (40, .if_icmp .eq 48, 88, 0), (43, .iload 5, 0, 0), (45, .iload_n 3, 0, 0), (46, .if_icmp .eq 42, 88, 0), (49, .aload_n 0, 0, 0), (50, .iload_n 2, 0, 0), (51, .iload_n 3, 0, 0), (52, .iload 5, 0, 0), (54, .invokevirtual 188, 210, 0), (57, .ifCond .ne 6, 63, 0),
  (60, .goto 28, 88, 0), (63, .aload_n 0, 0, 0), (64, .iload_n 2, 0, 0), (65, .iload_n 3, 0, 0), (66, .iload 5, 0, 0), (68, .invokevirtual 137, 206, 0), (71, .iload 4, 0, 0), (73, .aload_n 0, 0, 0), (74, .invokevirtual 325, 284, 0), (77, .iadd, 0, 0), (78, .istore 4, 0, 0), (80, .aload_n 0, 0, 0),
  (81, .iload_n 2, 0, 0), (82, .iload_n 3, 0, 0), (83, .iload 5, 0, 0), (85, .invokevirtual 134, 207, 0), (88, .iinc 5 1, 0, 0), (91, .goto (-63), 28, 0), (94, .iload 4, 0, 0), (96, .ireturn, 0, 0)], 6, 1, false, (some .int), [], 11)
def am_n284 : amN := (yX12_completionsFrom, cX12_completionsFrom, [])
def am_h284 : List (List Nat) := [[], [1919, 1921, 86, 134, 1922], [], [], [], [], [], [], [], [], [], [], [], [], [], [], [], [], [], [], [], [], [1702, 1704, 54, 134, 1705], [], [], [], [], [], [], [], [], [], [], [], [1714, 1716, 57, 134, 1717], [], [], [], [], [], [], [1730, 1732, 61, 134, 1733], [], [], [1915, 1917, 85, 134, 1918], [], [], [], [], [], [], [1864, 1866, 80, 134, 1867], [], [], [], []]
def am_g284 : List (Nat × Nat) := []
def am_m285 : amM := ([(0, .aload_n 0, 0, 0), (1, .iconst 0, 0, 0), (2, .putfield 67, 11, 7), (5, .aload_n 0, 0, 0), (6, .invokevirtual 289, 215, 0), (9, .bipush 30, 0, 0), (11, .if_icmp .le 8, 19, 0), (14, .bipush (-2), 0, 0), (16, .goto 7, 23, 0), (19, .aload_n 0, 0, 0), (20, .invokevirtual 325, 284, 0), (23, .ireturn, 0, 0)], 1, 1, false, (some .int), [], 11)
def am_n285 : amN := (yX12_completions, cX12_completions, [])
def am_h285 : List (List Nat) := [[], [], [1539], [], [1763, 1765, 66, 134, 1766], [], [], [], [], [], [1915, 1917, 85, 134, 1918], []]
def am_g285 : List (Nat × Nat) := []
def am_m286 : amM := ([(0, .aload_n 0, 0, 0), (1, .iconst 0, 0, 0), (2, .putfield 67, 11, 7), (5, .aload_n 0, 0, 0), (6, .invokevirtual 322, 283, 0), (9, .ireturn, 0, 0)], 1, 1, false, (some .int), [], 11)
def am_n286 : amN := (yX12_tightest, cX12_tightest, [])
def am_h286 : List (List Nat) := [[], [], [1539], [], [1919, 1921, 86, 134, 1922], []]
def am_g286 : List (Nat × Nat) := []
def am_m287 : amM := ([(0, .iload_n 1, 0, 0), (1, .istore_n 3, 0, 0), (2, .iconst 0, 0, 0), (3, .istore 4, 0, 0), (5, .iload 4, 0, 0), (7, .iload_n 2, 0, 0), (8, .if_icmp .ge 15, 23, 0), (11, .iload_n 3, 0, 0), (12, .iload_n 3, 0, 0), (13, .iconst 1, 0, 0), (14, .isub, 0, 0), (15, .iand, 0, 0),
  (16, .istore_n 3, 0, 0), (17, .iinc 4 1, 0, 0), (20, .goto (-15), 5, 0), (23, .iload_n 3, 0, 0), (24, .invokestatic 126, 342, 0), (27, .ireturn, 0, 0)], 5, 3, false, (some .int), [], 11)
def am_n287 : amN := (yX12_bitAt, cX12_bitAt, [])
def am_h287 : List (List Nat) := [[], [], [], [], [], [], [], [], [], [], [], [], [], [], [], [], [1784, 1785, 140, 1786], []]
def am_g287 : List (Nat × Nat) := []
def am_m288 : amM := ([(0, .aload_n 0, 0, 0), (1, .iload_n 1, 0, 0), (2, .invokevirtual 328, 258, 0), (5, .ifCond .ne 26, 31, 0), (8, .aload_n 0, 0, 0), (9, .iload_n 2, 0, 0), (10, .iconst 0, 0, 0), (11, .bipush 9, 0, 0), (13, .invokestatic 197, 196, 0), (16, .ifCond .ne 7, 23, 0), (19, .iconst 1, 0, 0), (20, .goto 4, 24, 0),
  (23, .iconst 0, 0, 0), (24, .iconst 2, 0, 0), (25, .invokevirtual 275, 197, 0), (28, .ifCond .eq 5, 33, 0), (31, .iconst 0, 0, 0), (32, .ireturn, 0, 0), (33, .iload_n 2, 0, 0), (34, .iconst 4, 0, 0), (35, .if_icmp .ge 16, 51, 0), (38, .aload_n 0, 0, 0), (39, .getfield 37, 11, 13), (42, .iconst 4, 0, 0),
  (43, .iload_n 1, 0, 0), (44, .imul, 0, 0), (45, .iload_n 2, 0, 0), (46, .iadd, 0, 0), (47, .iaload, 0, 0), (48, .goto 15, 63, 0), (51, .aload_n 0, 0, 0), (52, .aload_n 0, 0, 0), (53, .iload_n 1, 0, 0), (54, .invokevirtual 123, 218, 0), (57, .iload_n 2, 0, 0), (58, .iconst 4, 0, 0),
  (59, .isub, 0, 0), (60, .invokevirtual 331, 287, 0), (63, .ireturn, 0, 0)], 3, 3, false, (some .int), [], 11)
def am_n288 : amN := (yX12_quad, cX12_quad, [])
def am_h288 : List (List Nat) := [[], [], [1935, 1937, 88, 134, 1938], [], [], [], [], [], [1648, 1649, 134, 1650], [], [], [], [], [], [1759, 1761, 65, 134, 1762], [], [], [], [], [], [], [], [1545], [], [], [], [], [], [], [], [], [], [], [1939, 1941, 89, 134, 1942], [], [], [], [1943, 1945, 90, 134, 1946], []]
def am_g288 : List (Nat × Nat) := []
def am_m289 : amM := ([(0, .aload_n 0, 0, 0), (1, .iload_n 1, 0, 0), (2, .invokevirtual 328, 258, 0), (5, .ifCond .ne 11, 16, 0), (8, .aload_n 0, 0, 0), (9, .iload_n 2, 0, 0), (10, .invokevirtual 279, 254, 0), (13, .ifCond .eq 5, 18, 0), (16, .iconst 0, 0, 0), (17, .ireturn, 0, 0), (18, .aload_n 0, 0, 0), (19, .iload_n 1, 0, 0),
  (20, .invokevirtual 123, 218, 0), (23, .iload_n 2, 0, 0), (24, .ishr, 0, 0), (25, .iconst 1, 0, 0), (26, .iand, 0, 0), (27, .iconst 1, 0, 0), (28, .if_icmp .ne 12, 40, 0), (31, .aload_n 0, 0, 0), (32, .iload_n 1, 0, 0), (33, .iload_n 2, 0, 0), (34, .invokevirtual 131, 219, 0), (37, .goto 4, 41, 0),
  (40, .iconst (-1), 0, 0), (41, .ireturn, 0, 0)], 3, 3, false, (some .int), [], 11)
def am_n289 : amN := (yX12_opposite, cX12_opposite, [])
def am_h289 : List (List Nat) := [[], [], [1935, 1937, 88, 134, 1938], [], [], [], [1820, 1822, 76, 134, 1823], [], [], [], [], [], [1939, 1941, 89, 134, 1942], [], [], [], [], [], [], [], [], [], [1951, 1953, 91, 134, 1954], [], [], []]
def am_g289 : List (Nat × Nat) := []
def am_m290 : amM := ([(0, .aload_n 0, 0, 0), (1, .iload_n 1, 0, 0), (2, .invokevirtual 279, 254, 0), (5, .ifCond .eq 5, 10, 0), (8, .iconst 0, 0, 0), (9, .ireturn, 0, 0), (10, .aload_n 0, 0, 0), (11, .invokevirtual 155, 216, 0), (14, .iconst 0, 0, 0), (15, .istore_n 2, 0, 0), (16, .iconst 0, 0, 0), (17, .istore_n 3, 0, 0),
  (18, .iload_n 3, 0, 0), (19, .aload_n 0, 0, 0), (20, .getfield 108, 11, 14), (23, .if_icmp .ge 21, 44, 0), (26, .iload_n 2, 0, 0), (27, .aload_n 0, 0, 0), (28, .iload_n 3, 0, 0), (29, .invokevirtual 123, 218, 0), (32, .iload_n 1, 0, 0), (33, .ishr, 0, 0), (34, .iconst 1, 0, 0), (35, .iand, 0, 0),
  (36, .iadd, 0, 0), (37, .istore_n 2, 0, 0), (38, .iinc 3 1, 0, 0), (41, .goto (-23), 18, 0), (44, .iload_n 2, 0, 0), (45, .ireturn, 0, 0)], 4, 2, false, (some .int), [], 11)
def am_n290 : amN := (yX12_quadsAt, cX12_quadsAt, [])
def am_h290 : List (List Nat) := [[], [], [1820, 1822, 76, 134, 1823], [], [], [], [], [1775, 1777, 69, 134, 1778], [], [], [], [], [], [], [1546], [], [], [], [], [1939, 1941, 89, 134, 1942], [], [], [], [], [], [], [], [], [], []]
def am_g290 : List (Nat × Nat) := []
def am_m291 : amM := ([(0, .aload_n 0, 0, 0), (1, .iload_n 1, 0, 0), (2, .invokevirtual 298, 257, 0), (5, .ifCond .eq 5, 10, 0), (8, .iconst 0, 0, 0), (9, .ireturn, 0, 0), (10, .aload_n 0, 0, 0), (11, .invokevirtual 155, 216, 0), (14, .iconst 0, 0, 0), (15, .istore_n 2, 0, 0), (16, .iconst 0, 0, 0), (17, .istore_n 3, 0, 0),
  (18, .iload_n 3, 0, 0), (19, .iconst 4, 0, 0), (20, .aload_n 0, 0, 0), (21, .getfield 108, 11, 14), (24, .imul, 0, 0), (25, .if_icmp .ge 27, 52, 0), (28, .iload_n 2, 0, 0), (29, .aload_n 0, 0, 0), (30, .getfield 37, 11, 13), (33, .iload_n 3, 0, 0), (34, .iaload, 0, 0), (35, .iload_n 1, 0, 0),
  (36, .if_icmp .ne 7, 43, 0), (39, .iconst 1, 0, 0), (40, .goto 4, 44, 0), (43, .iconst 0, 0, 0), (44, .iadd, 0, 0), (45, .istore_n 2, 0, 0), (46, .iinc 3 1, 0, 0), (49, .goto (-31), 18, 0), (52, .iload_n 2, 0, 0), (53, .ireturn, 0, 0)], 4, 2, false, (some .int), [], 11)
def am_n291 : amN := (yX12_quadsOf, cX12_quadsOf, [])
def am_h291 : List (List Nat) := [[], [], [1808, 1810, 74, 134, 1811], [], [], [], [], [1775, 1777, 69, 134, 1778], [], [], [], [], [], [], [], [1546], [], [], [], [], [1545], [], [], [], [], [], [], [], [], [], [], [], [], []]
def am_g291 : List (Nat × Nat) := []
def am_m292 : amM := ([(0, .aload_n 0, 0, 0), (1, .iload_n 1, 0, 0), (2, .invokevirtual 328, 258, 0), (5, .ifCond .eq 5, 10, 0), (8, .iconst 0, 0, 0), (9, .ireturn, 0, 0), (10, .aload_n 0, 0, 0), (11, .invokevirtual 307, 200, 0), (14, .aload_n 0, 0, 0), (15, .iload_n 1, 0, 0), (16, .invokevirtual 146, 220, 0), (19, .aload_n 0, 0, 0),
  (20, .invokevirtual 292, 261, 0), (23, .ireturn, 0, 0)], 2, 2, false, (some .int), [], 11)
def am_n292 : amN := (yX12_switchQuad, cX12_switchQuad, [])
def am_h292 : List (List Nat) := [[], [], [1935, 1937, 88, 134, 1938], [], [], [], [], [1856, 1858, 79, 134, 1859], [], [], [1967, 1969, 92, 134, 1970], [], [1771, 1773, 68, 134, 1774], []]
def am_g292 : List (Nat × Nat) := []
def am_m293 : amM := ([(0, .aload_n 0, 0, 0), (1, .iload_n 1, 0, 0), (2, .invokevirtual 328, 258, 0), (5, .ifCond .eq 7, 12, 0), (8, .iconst 0, 0, 0), (9, .goto 8, 17, 0), (12, .aload_n 0, 0, 0), (13, .iload_n 1, 0, 0), (14, .invokevirtual 158, 223, 0), (17, .ireturn, 0, 0)], 2, 2, false, (some .int), [], 11)
def am_n293 : amN := (yX12_wouldHave, cX12_wouldHave, [])
def am_h293 : List (List Nat) := [[], [], [1935, 1937, 88, 134, 1938], [], [], [], [], [], [1975, 1977, 93, 134, 1978], []]
def am_g293 : List (Nat × Nat) := []
def am_m294 : amM := ([(0, .aload_n 0, 0, 0), (1, .iconst 0, 0, 0), (2, .putfield 67, 11, 7), (5, .aload_n 0, 0, 0), (6, .iload_n 1, 0, 0), (7, .invokevirtual 334, 224, 0), (10, .ireturn, 0, 0)], 2, 2, false, (some .int), [], 11)
def am_n294 : amN := (yX12_bestSwitch, cX12_bestSwitch, [])
def am_h294 : List (List Nat) := [[], [], [1539], [], [], [1987, 1989, 95, 134, 1990], []]
def am_g294 : List (Nat × Nat) := []
def am_m295 : amM := ([(0, .aload_n 0, 0, 0), (1, .iconst 0, 0, 0), (2, .putfield 67, 11, 7), (5, .aload_n 0, 0, 0), (6, .iload_n 1, 0, 0), (7, .iconst 1, 0, 0), (8, .bipush 20, 0, 0), (10, .invokestatic 197, 196, 0), (13, .ifCond .ne 7, 20, 0), (16, .iconst 1, 0, 0), (17, .goto 4, 21, 0), (20, .iconst 0, 0, 0),
  (21, .iconst 1, 0, 0), (22, .invokevirtual 275, 197, 0), (25, .ifCond .eq 5, 30, 0), (28, .iconst 0, 0, 0), (29, .ireturn, 0, 0), (30, .aload_n 0, 0, 0), (31, .invokevirtual 307, 200, 0), (34, .iconst 0, 0, 0), (35, .istore_n 2, 0, 0), (36, .iload_n 2, 0, 0), (37, .iload_n 1, 0, 0), (38, .if_icmp .ge 39, 77, 0),
  (41, .aload_n 0, 0, 0), (42, .iconst 0, 0, 0), (43, .invokevirtual 334, 224, 0), (46, .istore_n 3, 0, 0), (47, .iload_n 3, 0, 0), (48, .iconst (-1), 0, 0), (49, .if_icmp .eq 15, 64, 0), (52, .aload_n 0, 0, 0), (53, .iload_n 3, 0, 0), (54, .invokevirtual 158, 223, 0), (57, .aload_n 0, 0, 0), (58, .getfield 108, 11, 14),
  (61, .if_icmp .lt 5, 66, 0), (64, .iload_n 2, 0, 0), (65, .ireturn, 0, 0), (66, .aload_n 0, 0, 0), (67, .iload_n 3, 0, 0), (68, .invokevirtual 146, 220, 0), (71, .iinc 2 1, 0, 0), (74, .goto (-38), 36, 0), (77, .iload_n 1, 0, 0), (78, .ireturn, 0, 0)], 4, 2, false, (some .int), [], 11)
def am_n295 : amN := (yX12_descend, cX12_descend, [])
def am_h295 : List (List Nat) := [[], [], [1539], [], [], [], [], [1648, 1649, 134, 1650], [], [], [], [], [], [1759, 1761, 65, 134, 1762], [], [], [], [], [1856, 1858, 79, 134, 1859], [], [], [], [], [], [], [], [1987, 1989, 95, 134, 1990], [], [], [], [], [], [], [1975, 1977, 93, 134, 1978], [], [1546], [], [], [], [], [], [1967, 1969, 92, 134, 1970], [], [], [], []]
def am_g295 : List (Nat × Nat) := []
def am_m296 : amM := ([(0, .aload_n 0, 0, 0), (1, .iconst 0, 0, 0), (2, .putfield 67, 11, 7), (5, .aload_n 0, 0, 0), (6, .invokevirtual 155, 216, 0), (9, .aload_n 0, 0, 0), (10, .getfield 92, 11, 12), (13, .ifCond .ne 7, 20, 0), (16, .dconst 0, 0, 0), (17, .goto 16, 33, 0), (20, .iconst 4, 0, 0), (21, .aload_n 0, 0, 0),
  (22, .getfield 108, 11, 14), (25, .imul, 0, 0), (26, .i2d, 0, 0), (27, .aload_n 0, 0, 0), (28, .getfield 92, 11, 12), (31, .i2d, 0, 0), (32, .ddiv, 0, 0), (33, .dreturn, 0, 0)], 1, 1, false, (some .double), [], 11)
def am_n296 : amN := (yX12_meanQuads, cX12_meanQuads, [])
def am_h296 : List (List Nat) := [[], [], [1539], [], [1775, 1777, 69, 134, 1778], [], [1544], [], [], [], [], [], [1546], [], [], [], [1544], [], [], []]
def am_g296 : List (Nat × Nat) := []
def am_m297 : amM := ([(0, .aload_n 0, 0, 0), (1, .iload_n 1, 0, 0), (2, .iload_n 2, 0, 0), (3, .invokevirtual 282, 255, 0), (6, .ifCond .eq 7, 13, 0), (9, .iconst 0, 0, 0), (10, .goto 9, 19, 0), (13, .aload_n 0, 0, 0), (14, .iload_n 1, 0, 0), (15, .iload_n 2, 0, 0), (16, .invokevirtual 338, 227, 0), (19, .ireturn, 0, 0)], 3, 3, false, (some .int), [], 11)
def am_n297 : amN := (yX12_cycles, cX12_cycles, [])
def am_h297 : List (List Nat) := [[], [], [], [1828, 1830, 77, 134, 1831], [], [], [], [], [], [], [2003, 2005, 96, 134, 2006], []]
def am_g297 : List (Nat × Nat) := []
def am_m298 : amM := ([(0, .aload_n 0, 0, 0), (1, .iload_n 1, 0, 0), (2, .iload_n 2, 0, 0), (3, .iload_n 3, 0, 0), (4, .invokevirtual 341, 259, 0), (7, .ifCond .eq 7, 14, 0), (10, .iconst 0, 0, 0), (11, .goto 7, 18, 0), (14, .aload_n 0, 0, 0), (15, .getfield 161, 11, 17), (18, .ireturn, 0, 0)], 4, 4, false, (some .int), [], 11)
def am_n298 : amN := (yX12_cycleLength, cX12_cycleLength, [])
def am_h298 : List (List Nat) := [[], [], [], [], [2019, 2021, 99, 134, 2022], [], [], [], [], [1549], []]
def am_g298 : List (Nat × Nat) := []
def am_m299 : amM := ([(0, .aload_n 0, 0, 0), (1, .iload_n 1, 0, 0), (2, .iload_n 2, 0, 0), (3, .iload_n 3, 0, 0), (4, .invokevirtual 341, 259, 0), (7, .ifCond .ne 31, 38, 0), (10, .aload_n 0, 0, 0), (11, .iload 4, 0, 0), (13, .iconst 0, 0, 0), (14, .aload_n 0, 0, 0), (15, .getfield 161, 11, 17), (18, .iconst 1, 0, 0),
  (19, .isub, 0, 0), (20, .invokestatic 197, 196, 0), (23, .ifCond .ne 7, 30, 0), (26, .iconst 1, 0, 0), (27, .goto 4, 31, 0), (30, .iconst 0, 0, 0), (31, .iconst 3, 0, 0), (32, .invokevirtual 275, 197, 0), (35, .ifCond .eq 5, 40, 0), (38, .iconst 0, 0, 0), (39, .ireturn, 0, 0), (40, .aload_n 0, 0, 0),
  (41, .getfield 43, 11, 16), (44, .iload 4, 0, 0), (46, .iaload, 0, 0), (47, .ireturn, 0, 0)], 5, 5, false, (some .int), [], 11)
def am_n299 : amN := (yX12_cyclePoint, cX12_cyclePoint, [])
def am_h299 : List (List Nat) := [[], [], [], [], [2019, 2021, 99, 134, 2022], [], [], [], [], [], [1549], [], [], [1648, 1649, 134, 1650], [], [], [], [], [], [1759, 1761, 65, 134, 1762], [], [], [], [], [1548], [], [], []]
def am_g299 : List (Nat × Nat) := []
def am_m300 : amM := ([(0, .aload_n 0, 0, 0), (1, .iload_n 1, 0, 0), (2, .iload_n 2, 0, 0), (3, .iload_n 3, 0, 0), (4, .invokevirtual 341, 259, 0), (7, .ifCond .eq 5, 12, 0), (10, .iconst 0, 0, 0), (11, .ireturn, 0, 0), (12, .aload_n 0, 0, 0), (13, .invokevirtual 307, 200, 0), (16, .aload_n 0, 0, 0), (17, .iload_n 1, 0, 0),
  (18, .iload_n 2, 0, 0), (19, .invokevirtual 344, 230, 0), (22, .aload_n 0, 0, 0), (23, .getfield 161, 11, 17), (26, .ireturn, 0, 0)], 4, 4, false, (some .int), [], 11)
def am_n300 : amN := (yX12_switchCycle, cX12_switchCycle, [])
def am_h300 : List (List Nat) := [[], [], [], [], [2019, 2021, 99, 134, 2022], [], [], [], [], [1856, 1858, 79, 134, 1859], [], [], [], [2035, 2037, 101, 134, 2038], [], [1549], []]
def am_g300 : List (Nat × Nat) := []
def am_m301 : amM := ([(0, .aload_n 0, 0, 0), (1, .iload_n 1, 0, 0), (2, .iload_n 2, 0, 0), (3, .iload_n 3, 0, 0), (4, .invokevirtual 341, 259, 0), (7, .ifCond .eq 5, 12, 0), (10, .iconst 0, 0, 0), (11, .ireturn, 0, 0), (12, .aload_n 0, 0, 0), (13, .invokevirtual 143, 201, 0), (16, .aload_n 0, 0, 0), (17, .iload_n 1, 0, 0),
  (18, .iload_n 2, 0, 0), (19, .invokevirtual 344, 230, 0), (22, .aload_n 0, 0, 0), (23, .invokevirtual 292, 261, 0), (26, .istore 4, 0, 0), (28, .aload_n 0, 0, 0), (29, .invokevirtual 152, 202, 0), (32, .iload 4, 0, 0), (34, .ireturn, 0, 0)], 5, 4, false, (some .int), [], 11)
def am_n301 : amN := (yX12_wouldHaveBy, cX12_wouldHaveBy, [])
def am_h301 : List (List Nat) := [[], [], [], [], [2019, 2021, 99, 134, 2022], [], [], [], [], [1872, 1874, 81, 134, 1875], [], [], [], [2035, 2037, 101, 134, 2038], [], [1771, 1773, 68, 134, 1774], [], [], [1876, 1878, 82, 134, 1879], [], []]
def am_g301 : List (Nat × Nat) := []
def am_m302 : amM := ([(0, .aload_n 0, 0, 0), (1, .iconst 0, 0, 0), (2, .putfield 67, 11, 7), (5, .iconst 0, 0, 0), (6, .istore_n 2, 0, 0), (7, .iconst 0, 0, 0), (8, .istore_n 3, 0, 0), (9, .iload_n 3, 0, 0), (10, .aload_n 0, 0, 0), (11, .invokevirtual 95, 203, 0), (14, .if_icmp .ge 75, 89, 0), (17, .iload_n 3, 0, 0),
  (18, .iconst 1, 0, 0), (19, .iadd, 0, 0), (20, .istore 4, 0, 0), (22, .iload 4, 0, 0), (24, .aload_n 0, 0, 0), (25, .invokevirtual 95, 203, 0), (28, .if_icmp .ge 55, 83, 0), (31, .iconst 0, 0, 0), (32, .istore 5, 0, 0), (34, .iload 5, 0, 0), (36, .aload_n 0, 0, 0), (37, .invokevirtual 95, 203, 0),
  (40, .if_icmp .ge 37, 77, 0), (43, .iload_n 2, 0, 0), (44, .aload_n 0, 0, 0), (45, .iload_n 3, 0, 0), (46, .iload 4, 0, 0), (48, .iload 5, 0, 0), (50, .invokevirtual 168, 226, 0), (53, .ifCond .eq 15, 68, 0), (56, .aload_n 0, 0, 0), (57, .getfield 161, 11, 17), (60, .iload_n 1, 0, 0), (61, .if_icmp .ne 7, 68, 0),
  (64, .iconst 1, 0, 0), (65, .goto 4, 69, 0), (68, .iconst 0, 0, 0), (69, .iadd, 0, 0), (70, .istore_n 2, 0, 0), (71, .iinc 5 1, 0, 0), (74, .goto (-40), 34, 0), (77, .iinc 4 1, 0, 0), (80, .goto (-58), 22, 0), (83, .iinc 3 1, 0, 0), (86, .goto (-77), 9, 0), (89, .iload_n 2, 0, 0),
  (90, .ireturn, 0, 0)], 6, 2, false, (some .int), [], 11)
def am_n302 : amN := (yX12_cyclesOf, cX12_cyclesOf, [])
def am_h302 : List (List Nat) := [[], [], [1539], [], [], [], [], [], [], [1702, 1704, 54, 134, 1705], [], [], [], [], [], [], [], [1702, 1704, 54, 134, 1705], [], [], [], [], [], [1702, 1704, 54, 134, 1705], [], [], [], [], [], [], [2007, 2009, 97, 134, 2010], [], [], [1549], [], [], [], [], [], [], [], [], [], [], [], [], [], [], []]
def am_g302 : List (Nat × Nat) := []
def am_m303 : amM := ([(0, .aload_n 0, 0, 0), (1, .iconst 0, 0, 0), (2, .putfield 67, 11, 7), (5, .aload_n 0, 0, 0), (6, .iload_n 1, 0, 0), (7, .invokevirtual 348, 232, 0), (10, .aload_n 0, 0, 0), (11, .getfield 171, 11, 19), (14, .ireturn, 0, 0)], 2, 2, false, (some .int), [], 11)
def am_n303 : amN := (yX12_trades, cX12_trades, [])
def am_h303 : List (List Nat) := [[], [], [1539], [], [], [2051, 2053, 102, 134, 2054], [], [1551], []]
def am_g303 : List (Nat × Nat) := []
def am_m304 : amM := ([(0, .aload_n 0, 0, 0), (1, .iconst 0, 0, 0), (2, .putfield 67, 11, 7), (5, .aload_n 0, 0, 0), (6, .iload_n 1, 0, 0), (7, .invokevirtual 348, 232, 0), (10, .aload_n 0, 0, 0), (11, .iload_n 2, 0, 0), (12, .iconst 0, 0, 0), (13, .aload_n 0, 0, 0), (14, .getfield 171, 11, 19), (17, .iconst 1, 0, 0),
  (18, .isub, 0, 0), (19, .invokestatic 197, 196, 0), (22, .ifCond .ne 7, 29, 0), (25, .iconst 1, 0, 0), (26, .goto 4, 30, 0), (29, .iconst 0, 0, 0), (30, .iconst 1, 0, 0), (31, .invokevirtual 275, 197, 0), (34, .ifCond .eq 7, 41, 0), (37, .lconst 0, 0, 0), (38, .goto 9, 47, 0), (41, .aload_n 0, 0, 0),
  (42, .getfield 46, 11, 18), (45, .iload_n 2, 0, 0), (46, .laload, 0, 0), (47, .lreturn, 0, 0)], 3, 3, false, (some .long), [], 11)
def am_n304 : amN := (yX12_trade, cX12_trade, [])
def am_h304 : List (List Nat) := [[], [], [1539], [], [], [2051, 2053, 102, 134, 2054], [], [], [], [], [1551], [], [], [1648, 1649, 134, 1650], [], [], [], [], [], [1759, 1761, 65, 134, 1762], [], [], [], [], [1550], [], [], []]
def am_g304 : List (Nat × Nat) := []
def am_m305 : amM := ([(0, .aload_n 0, 0, 0), (1, .invokevirtual 95, 203, 0), (4, .iconst 2, 0, 0), (5, .isub, 0, 0), (6, .aload_n 0, 0, 0), (7, .iload_n 1, 0, 0), (8, .iload_n 2, 0, 0), (9, .invokevirtual 85, 208, 0), (12, .isub, 0, 0), (13, .istore_n 3, 0, 0), (14, .iconst 0, 0, 0), (15, .istore 4, 0, 0),
  (17, .iconst 0, 0, 0), (18, .istore 5, 0, 0), (20, .iload 5, 0, 0), (22, .aload_n 0, 0, 0), (23, .invokevirtual 95, 203, 0), (26, .if_icmp .ge 40, 66, 0), (29, .iload 4, 0, 0), (31, .ifCond .ne 22, 53, 0), (34, .aload_n 0, 0, 0), (35, .iload_n 1, 0, 0), (36, .iload_n 2, 0, 0), (37, .iload 5, 0, 0),
  (39, .invokevirtual 168, 226, 0), (42, .ifCond .eq 15, 57, 0), (45, .aload_n 0, 0, 0), (46, .getfield 161, 11, 17), (49, .iload_n 3, 0, 0), (50, .if_icmp .ne 7, 57, 0), (53, .iconst 1, 0, 0), (54, .goto 4, 58, 0), (57, .iconst 0, 0, 0), (58, .istore 4, 0, 0), (60, .iinc 5 1, 0, 0), (63, .goto (-43), 20, 0),
  (66, .iload 4, 0, 0), (68, .ireturn, 0, 0)], 6, 3, false, (some .boolean), [], 11)
def am_n305 : amN := (yX12_isPerfect, cX12_isPerfect, [])
def am_h305 : List (List Nat) := [[], [1702, 1704, 54, 134, 1705], [], [], [], [], [], [1722, 1724, 59, 134, 1725], [], [], [], [], [], [], [], [], [1702, 1704, 54, 134, 1705], [], [], [], [], [], [], [], [2007, 2009, 97, 134, 2010], [], [], [1549], [], [], [], [], [], [], [], [], [], []]
def am_g305 : List (Nat × Nat) := []
def am_m306 : amM := ([(0, .aload_n 0, 0, 0), (1, .iconst 0, 0, 0), (2, .putfield 67, 11, 7), (5, .iconst 0, 0, 0), (6, .istore_n 1, 0, 0), (7, .iconst 0, 0, 0), (8, .istore_n 2, 0, 0), (9, .iload_n 2, 0, 0), (10, .aload_n 0, 0, 0), (11, .invokevirtual 95, 203, 0), (14, .if_icmp .ge 53, 67, 0), (17, .aload_n 0, 0, 0),
  (18, .invokevirtual 95, 203, 0), (21, .bipush 6, 0, 0), (23, .if_icmp .le 44, 67, 0), (26, .iload_n 2, 0, 0), (27, .iconst 1, 0, 0), (28, .iadd, 0, 0), (29, .istore_n 3, 0, 0), (30, .iload_n 3, 0, 0), (31, .aload_n 0, 0, 0), (32, .invokevirtual 95, 203, 0), (35, .if_icmp .ge 26, 61, 0), (38, .iload_n 1, 0, 0),
  (39, .aload_n 0, 0, 0), (40, .iload_n 2, 0, 0), (41, .iload_n 3, 0, 0), (42, .invokevirtual 351, 305, 0), (45, .ifCond .eq 7, 52, 0), (48, .iconst 1, 0, 0), (49, .goto 4, 53, 0), (52, .iconst 0, 0, 0), (53, .iadd, 0, 0), (54, .istore_n 1, 0, 0), (55, .iinc 3 1, 0, 0), (58, .goto (-28), 30, 0),
  (61, .iinc 2 1, 0, 0), (64, .goto (-55), 9, 0), (67, .iload_n 1, 0, 0), (68, .ireturn, 0, 0)], 4, 1, false, (some .int), [], 11)
def am_n306 : amN := (yX12_perfectPairs, cX12_perfectPairs, [])
def am_h306 : List (List Nat) := [[], [], [1539], [], [], [], [], [], [], [1702, 1704, 54, 134, 1705], [], [], [1702, 1704, 54, 134, 1705], [], [], [], [], [], [], [], [], [1702, 1704, 54, 134, 1705], [], [], [], [], [], [2071, 2073, 105, 134, 2074], [], [], [], [], [], [], [], [], [], [], [], []]
def am_g306 : List (Nat × Nat) := []
def am_m307 : amM := ([(0, .lconst 0, 0, 0), (1, .lstore_n 2, 0, 0), (2, .iconst 0, 0, 0), (3, .istore 4, 0, 0), (5, .iload 4, 0, 0), (7, .iconst 4, 0, 0), (8, .if_icmp .ge 25, 33, 0), (11, .lload_n 2, 0, 0), (12, .lconst 1, 0, 0), (13, .aload_n 0, 0, 0), (14, .getfield 37, 11, 13), (17, .iconst 4, 0, 0),
  (18, .iload_n 1, 0, 0), (19, .imul, 0, 0), (20, .iload 4, 0, 0), (22, .iadd, 0, 0), (23, .iaload, 0, 0), (24, .lshl, 0, 0), (25, .lor, 0, 0), (26, .lstore_n 2, 0, 0), (27, .iinc 4 1, 0, 0), (30, .goto (-25), 5, 0), (33, .lload_n 2, 0, 0), (34, .lreturn, 0, 0)], 5, 2, false, (some .long), [], 11)
def am_n307 : amN := (yX12_quadSet, cX12_quadSet, [])
def am_h307 : List (List Nat) := [[], [], [], [], [], [], [], [], [], [], [1545], [], [], [], [], [], [], [], [], [], [], [], [], []]
def am_g307 : List (Nat × Nat) := []
def am_m308 : amM := ([(0, .aload_n 0, 0, 0), (1, .iconst 0, 0, 0), (2, .putfield 67, 11, 7), (5, .aload_n 0, 0, 0), (6, .invokevirtual 155, 216, 0), (9, .aload_n 0, 0, 0), (10, .iconst 4, 0, 0), (11, .invokevirtual 348, 232, 0), (14, .aload_n 0, 0, 0), (15, .getfield 171, 11, 19), (18, .aload_n 0, 0, 0), (19, .getfield 108, 11, 14),
  (22, .if_icmp .eq 5, 27, 0), (25, .iconst 0, 0, 0), (26, .ireturn, 0, 0), (27, .iconst 0, 0, 0), (28, .istore_n 1, 0, 0), (29, .iconst 0, 0, 0), (30, .istore_n 2, 0, 0), (31, .iload_n 2, 0, 0), (32, .aload_n 0, 0, 0), (33, .getfield 171, 11, 19), (36, .if_icmp .ge 48, 84, 0), (39, .iconst 0, 0, 0),
  (40, .istore_n 3, 0, 0), (41, .iload_n 3, 0, 0), (42, .aload_n 0, 0, 0), (43, .getfield 108, 11, 14), (46, .if_icmp .ge 32, 78, 0), (49, .iload_n 1, 0, 0), (50, .aload_n 0, 0, 0), (51, .iload_n 3, 0, 0), (52, .invokevirtual 354, 307, 0), (55, .aload_n 0, 0, 0), (56, .getfield 46, 11, 18), (59, .iload_n 2, 0, 0),
  (60, .laload, 0, 0), (61, .lcmp, 0, 0), (62, .ifCond .ne 7, 69, 0), (65, .iconst 1, 0, 0), (66, .goto 4, 70, 0), (69, .iconst 0, 0, 0), (70, .iadd, 0, 0), (71, .istore_n 1, 0, 0), (72, .iinc 3 1, 0, 0), (75, .goto (-34), 41, 0), (78, .iinc 2 1, 0, 0), (81, .goto (-50), 31, 0),
  (84, .iload_n 1, 0, 0), (85, .aload_n 0, 0, 0), (86, .getfield 171, 11, 19), (89, .if_icmp .ne 7, 96, 0), (92, .iconst 1, 0, 0), (93, .goto 4, 97, 0), (96, .iconst 0, 0, 0), (97, .ireturn, 0, 0)], 4, 1, false, (some .boolean), [], 11)
def am_n308 : amN := (yX12_agrees, cX12_agrees, [])
def am_h308 : List (List Nat) := [[], [], [1539], [], [1775, 1777, 69, 134, 1778], [], [], [2051, 2053, 102, 134, 2054], [], [1551], [], [1546], [], [], [], [], [], [], [], [], [], [1551], [], [], [], [], [], [1546], [], [], [], [], [2079, 2081, 106, 134, 2082], [], [1550], [], [], [], [], [], [], [], [], [], [], [], [], [], [], [], [1551], [], [], [], [], []]
def am_g308 : List (Nat × Nat) := []
def am_m309 : amM := ([(0, .aload_n 0, 0, 0), (1, .iload_n 1, 0, 0), (2, .iload_n 2, 0, 0), (3, .iload_n 3, 0, 0), (4, .invokevirtual 301, 256, 0), (7, .ifCond .ne 23, 30, 0), (10, .aload_n 0, 0, 0), (11, .aload_n 0, 0, 0), (12, .invokevirtual 295, 262, 0), (15, .ifCond .ne 7, 22, 0), (18, .iconst 1, 0, 0), (19, .goto 4, 23, 0),
  (22, .iconst 0, 0, 0), (23, .iconst 3, 0, 0), (24, .invokevirtual 275, 197, 0), (27, .ifCond .eq 7, 34, 0), (30, .iconst 1, 0, 0), (31, .goto 4, 35, 0), (34, .iconst 0, 0, 0), (35, .ireturn, 0, 0)], 4, 4, false, (some .boolean), [], 11)
def am_n309 : amN := (yX12_noTrain, cX12_noTrain, [])
def am_h309 : List (List Nat) := [[], [], [], [], [1816, 1818, 75, 134, 1819], [], [], [], [1800, 1802, 73, 134, 1803], [], [], [], [], [], [1759, 1761, 65, 134, 1762], [], [], [], [], []]
def am_g309 : List (Nat × Nat) := []
def am_m310 : amM := ([(0, .iload_n 0, 0, 0), (1, .iload_n 1, 0, 0), (2, .iload_n 2, 0, 0), (3, .invokestatic 358, 346, 0), (6, .invokestatic 358, 346, 0), (9, .istore_n 3, 0, 0), (10, .iload_n 0, 0, 0), (11, .iload_n 1, 0, 0), (12, .iload_n 2, 0, 0), (13, .invokestatic 363, 347, 0), (16, .invokestatic 363, 347, 0), (19, .istore 4, 0, 0),
  (21, .sipush 256, 0, 0), (24, .iload_n 3, 0, 0), (25, .imul, 0, 0), (26, .bipush 16, 0, 0), (28, .iload_n 0, 0, 0), (29, .iload_n 1, 0, 0), (30, .iadd, 0, 0), (31, .iload_n 2, 0, 0), (32, .iadd, 0, 0), (33, .iload_n 3, 0, 0), (34, .isub, 0, 0), (35, .iload 4, 0, 0),
  (37, .isub, 0, 0), (38, .imul, 0, 0), (39, .iadd, 0, 0), (40, .iload 4, 0, 0), (42, .iadd, 0, 0), (43, .ireturn, 0, 0)], 5, 3, false, (some .int), [], 11)
def am_n310 : amN := (yX12_codeOf, cX12_codeOf, [])
def am_h310 : List (List Nat) := [[], [], [], [2094, 396, 133, 397], [2094, 396, 133, 397], [], [], [], [], [2095, 393, 133, 394], [2095, 393, 133, 394], [], [], [], [], [], [], [], [], [], [], [], [], [], [], [], [], [], [], []]
def am_g310 : List (Nat × Nat) := []
def am_m311 : amM := ([(0, .iload_n 1, 0, 0), (1, .sipush 256, 0, 0), (4, .idiv, 0, 0), (5, .istore_n 2, 0, 0), (6, .iload_n 1, 0, 0), (7, .bipush 16, 0, 0), (9, .idiv, 0, 0), (10, .bipush 16, 0, 0), (12, .irem, 0, 0), (13, .istore_n 3, 0, 0), (14, .iload_n 1, 0, 0), (15, .bipush 16, 0, 0),
  (17, .irem, 0, 0), (18, .istore 4, 0, 0), (20, .aload_n 0, 0, 0), (21, .iload_n 2, 0, 0), (22, .iload_n 3, 0, 0), (23, .invokevirtual 81, 204, 0), (26, .iload 4, 0, 0), (28, .if_icmp .ne 5, 33, 0), (31, .iload_n 1, 0, 0), (32, .ireturn, 0, 0), (33, .aload_n 0, 0, 0), (34, .iload_n 3, 0, 0),
  (35, .iload 4, 0, 0), (37, .invokevirtual 81, 204, 0), (40, .aload_n 0, 0, 0), (41, .iload_n 2, 0, 0), (42, .iload 4, 0, 0), (44, .invokevirtual 81, 204, 0), (47, .aload_n 0, 0, 0), (48, .iload_n 2, 0, 0), (49, .iload_n 3, 0, 0), (50, .invokevirtual 81, 204, 0), (53, .invokestatic 366, 310, 0), (56, .ireturn, 0, 0)], 5, 2, false, (some .int), [], 11)
def am_n311 : amN := (yX12_next, cX12_next, [])
def am_h311 : List (List Nat) := [[], [], [], [], [], [], [], [], [], [], [], [], [], [], [], [], [], [1726, 1728, 60, 134, 1729], [], [], [], [], [], [], [], [1726, 1728, 60, 134, 1729], [], [], [], [1726, 1728, 60, 134, 1729], [], [], [], [1726, 1728, 60, 134, 1729], [2091, 2092, 134, 2093], []]
def am_g311 : List (Nat × Nat) := []
def am_m312 : amM := ([(0, .iconst 0, 0, 0), (1, .istore_n 2, 0, 0), (2, .iconst 0, 0, 0), (3, .istore_n 3, 0, 0), (4, .iload_n 3, 0, 0), (5, .aload_n 0, 0, 0), (6, .invokevirtual 95, 203, 0), (9, .if_icmp .ge 64, 73, 0), (12, .iconst 0, 0, 0), (13, .istore 4, 0, 0), (15, .iload 4, 0, 0), (17, .iload_n 3, 0, 0),
  (18, .if_icmp .ge 49, 67, 0), (21, .iconst 0, 0, 0), (22, .istore 5, 0, 0), (24, .iload 5, 0, 0), (26, .iload 4, 0, 0), (28, .if_icmp .ge 33, 61, 0), (31, .iload_n 2, 0, 0), (32, .aload_n 0, 0, 0), (33, .iload_n 3, 0, 0), (34, .iload 4, 0, 0), (36, .iload 5, 0, 0), (38, .invokestatic 366, 310, 0),
  (41, .invokevirtual 369, 311, 0), (44, .iload_n 1, 0, 0), (45, .if_icmp .ne 7, 52, 0), (48, .iconst 1, 0, 0), (49, .goto 4, 53, 0), (52, .iconst 0, 0, 0), (53, .iadd, 0, 0), (54, .istore_n 2, 0, 0), (55, .iinc 5 1, 0, 0), (58, .goto (-34), 24, 0), (61, .iinc 4 1, 0, 0), (64, .goto (-49), 15, 0),
  (67, .iinc 3 1, 0, 0), (70, .goto (-66), 4, 0), (73, .iload_n 2, 0, 0), (74, .ireturn, 0, 0)], 6, 2, false, (some .int), [], 11)
def am_n312 : amN := (yX12_leadTo, cX12_leadTo, [])
def am_h312 : List (List Nat) := [[], [], [], [], [], [], [1702, 1704, 54, 134, 1705], [], [], [], [], [], [], [], [], [], [], [], [], [], [], [], [], [2091, 2092, 134, 2093], [2096, 2098, 108, 134, 2099], [], [], [], [], [], [], [], [], [], [], [], [], [], [], []]
def am_g312 : List (Nat × Nat) := []
def am_m313 : amM := ([(0, .aload_n 0, 0, 0), (1, .iload_n 1, 0, 0), (2, .invokevirtual 369, 311, 0), (5, .istore_n 2, 0, 0), (6, .iconst 1, 0, 0), (7, .istore_n 3, 0, 0), (8, .iload_n 2, 0, 0), (9, .iload_n 1, 0, 0), (10, .if_icmp .eq 22, 32, 0), (13, .iload_n 3, 0, 0), (14, .sipush 455, 0, 0), (17, .if_icmp .gt 15, 32, 0),
  (20, .aload_n 0, 0, 0), (21, .iload_n 2, 0, 0), (22, .invokevirtual 369, 311, 0), (25, .istore_n 2, 0, 0), (26, .iinc 3 1, 0, 0), (29, .goto (-21), 8, 0), (32, .iload_n 2, 0, 0), (33, .iload_n 1, 0, 0), (34, .if_icmp .ne 7, 41, 0), (37, .iload_n 3, 0, 0), (38, .goto 4, 42, 0), (41, .iconst 0, 0, 0),
  (42, .ireturn, 0, 0)], 4, 2, false, (some .int), [], 11)
def am_n313 : amN := (yX12_roundFrom, cX12_roundFrom, [])
def am_h313 : List (List Nat) := [[], [], [2096, 2098, 108, 134, 2099], [], [], [], [], [], [], [], [], [], [], [], [2096, 2098, 108, 134, 2099], [], [], [], [], [], [], [], [], [], []]
def am_g313 : List (Nat × Nat) := []
def am_m314 : amM := ([(0, .aload_n 0, 0, 0), (1, .iload_n 1, 0, 0), (2, .iload_n 2, 0, 0), (3, .iload_n 3, 0, 0), (4, .invokevirtual 372, 309, 0), (7, .ifCond .eq 7, 14, 0), (10, .iconst 0, 0, 0), (11, .goto 13, 24, 0), (14, .aload_n 0, 0, 0), (15, .iload_n 1, 0, 0), (16, .iload_n 2, 0, 0), (17, .iload_n 3, 0, 0),
  (18, .invokestatic 366, 310, 0), (21, .invokevirtual 369, 311, 0), (24, .ireturn, 0, 0)], 4, 4, false, (some .int), [], 11)
def am_n314 : amN := (yX12_train, cX12_train, [])
def am_h314 : List (List Nat) := [[], [], [], [], [2087, 2089, 107, 134, 2090], [], [], [], [], [], [], [], [2091, 2092, 134, 2093], [2096, 2098, 108, 134, 2099], []]
def am_g314 : List (Nat × Nat) := []
def am_m315 : amM := ([(0, .aload_n 0, 0, 0), (1, .iload_n 1, 0, 0), (2, .iload_n 2, 0, 0), (3, .iload_n 3, 0, 0), (4, .invokevirtual 372, 309, 0), (7, .ifCond .eq 7, 14, 0), (10, .iconst 0, 0, 0), (11, .goto 13, 24, 0), (14, .aload_n 0, 0, 0), (15, .iload_n 1, 0, 0), (16, .iload_n 2, 0, 0), (17, .iload_n 3, 0, 0),
  (18, .invokestatic 366, 310, 0), (21, .invokevirtual 375, 312, 0), (24, .ireturn, 0, 0)], 4, 4, false, (some .int), [], 11)
def am_n315 : amN := (yX12_trainsTo, cX12_trainsTo, [])
def am_h315 : List (List Nat) := [[], [], [], [], [2087, 2089, 107, 134, 2090], [], [], [], [], [], [], [], [2091, 2092, 134, 2093], [2104, 2106, 109, 134, 2107], []]
def am_g315 : List (Nat × Nat) := []
def am_m316 : amM := ([(0, .aload_n 0, 0, 0), (1, .iload_n 1, 0, 0), (2, .iload_n 2, 0, 0), (3, .iload_n 3, 0, 0), (4, .invokevirtual 372, 309, 0), (7, .ifCond .eq 5, 12, 0), (10, .iconst 0, 0, 0), (11, .ireturn, 0, 0), (12, .iconst 0, 0, 0), (13, .istore 4, 0, 0), (15, .iload_n 1, 0, 0), (16, .iload_n 2, 0, 0),
  (17, .iload_n 3, 0, 0), (18, .invokestatic 366, 310, 0), (21, .istore 5, 0, 0), (23, .aload_n 0, 0, 0), (24, .iload 5, 0, 0), (26, .invokevirtual 378, 313, 0), (29, .ifCond .ne 17, 46, 0), (32, .iinc 4 1, 0, 0), (35, .aload_n 0, 0, 0), (36, .iload 5, 0, 0), (38, .invokevirtual 369, 311, 0), (41, .istore 5, 0, 0),
  (43, .goto (-20), 23, 0), (46, .iload 4, 0, 0), (48, .ireturn, 0, 0)], 6, 4, false, (some .int), [], 11)
def am_n316 : amN := (yX12_tail, cX12_tail, [])
def am_h316 : List (List Nat) := [[], [], [], [], [2087, 2089, 107, 134, 2090], [], [], [], [], [], [], [], [], [2091, 2092, 134, 2093], [], [], [], [2112, 2114, 110, 134, 2115], [], [], [], [], [2096, 2098, 108, 134, 2099], [], [], [], []]
def am_g316 : List (Nat × Nat) := []
def am_m317 : amM := ([(0, .aload_n 0, 0, 0), (1, .iload_n 1, 0, 0), (2, .iload_n 2, 0, 0), (3, .iload_n 3, 0, 0), (4, .invokevirtual 372, 309, 0), (7, .ifCond .eq 5, 12, 0), (10, .iconst 0, 0, 0), (11, .ireturn, 0, 0), (12, .iload_n 1, 0, 0), (13, .iload_n 2, 0, 0), (14, .iload_n 3, 0, 0), (15, .invokestatic 366, 310, 0),
  (18, .istore 4, 0, 0), (20, .aload_n 0, 0, 0), (21, .iload 4, 0, 0), (23, .invokevirtual 378, 313, 0), (26, .ifCond .ne 14, 40, 0), (29, .aload_n 0, 0, 0), (30, .iload 4, 0, 0), (32, .invokevirtual 369, 311, 0), (35, .istore 4, 0, 0), (37, .goto (-17), 20, 0), (40, .aload_n 0, 0, 0), (41, .iload 4, 0, 0),
  (43, .invokevirtual 378, 313, 0), (46, .ireturn, 0, 0)], 5, 4, false, (some .int), [], 11)
def am_n317 : amN := (yX12_roundOf, cX12_roundOf, [])
def am_h317 : List (List Nat) := [[], [], [], [], [2087, 2089, 107, 134, 2090], [], [], [], [], [], [], [2091, 2092, 134, 2093], [], [], [], [2112, 2114, 110, 134, 2115], [], [], [], [2096, 2098, 108, 134, 2099], [], [], [], [], [2112, 2114, 110, 134, 2115], []]
def am_g317 : List (Nat × Nat) := []
def am_m318 : amM := ([(0, .aload_n 0, 0, 0), (1, .iconst 0, 0, 0), (2, .putfield 67, 11, 7), (5, .aload_n 0, 0, 0), (6, .aload_n 0, 0, 0), (7, .invokevirtual 295, 262, 0), (10, .ifCond .ne 7, 17, 0), (13, .iconst 1, 0, 0), (14, .goto 4, 18, 0), (17, .iconst 0, 0, 0), (18, .iconst 1, 0, 0), (19, .invokevirtual 275, 197, 0),
  (22, .ifCond .eq 5, 27, 0), (25, .iconst 0, 0, 0), (26, .ireturn, 0, 0), (27, .iconst 0, 0, 0), (28, .istore_n 2, 0, 0), (29, .iconst 0, 0, 0), (30, .istore_n 3, 0, 0), (31, .iload_n 3, 0, 0), (32, .aload_n 0, 0, 0), (33, .invokevirtual 95, 203, 0), (36, .if_icmp .ge 64, 100, 0), (39, .iconst 0, 0, 0),
  (40, .istore 4, 0, 0), (42, .iload 4, 0, 0), (44, .iload_n 3, 0, 0), (45, .if_icmp .ge 49, 94, 0), (48, .iconst 0, 0, 0), (49, .istore 5, 0, 0), (51, .iload 5, 0, 0), (53, .iload 4, 0, 0), (55, .if_icmp .ge 33, 88, 0), (58, .iload_n 2, 0, 0), (59, .aload_n 0, 0, 0), (60, .iload_n 3, 0, 0),
  (61, .iload 4, 0, 0), (63, .iload 5, 0, 0), (65, .invokestatic 366, 310, 0), (68, .invokevirtual 375, 312, 0), (71, .iload_n 1, 0, 0), (72, .if_icmp .ne 7, 79, 0), (75, .iconst 1, 0, 0), (76, .goto 4, 80, 0), (79, .iconst 0, 0, 0), (80, .iadd, 0, 0), (81, .istore_n 2, 0, 0), (82, .iinc 5 1, 0, 0),
  (85, .goto (-34), 51, 0), (88, .iinc 4 1, 0, 0), (91, .goto (-49), 42, 0), (94, .iinc 3 1, 0, 0), (97, .goto (-66), 31, 0), (100, .iload_n 2, 0, 0), (101, .ireturn, 0, 0)], 6, 2, false, (some .int), [], 11)
def am_n318 : amN := (yX12_trainProfile, cX12_trainProfile, [])
def am_h318 : List (List Nat) := [[], [], [1539], [], [], [1800, 1802, 73, 134, 1803], [], [], [], [], [], [1759, 1761, 65, 134, 1762], [], [], [], [], [], [], [], [], [], [1702, 1704, 54, 134, 1705], [], [], [], [], [], [], [], [], [], [], [], [], [], [], [], [], [2091, 2092, 134, 2093], [2104, 2106, 109, 134, 2107], [], [], [], [], [], [], [], [], [], [], [], [], [], [], []]
def am_g318 : List (Nat × Nat) := []
def am_m319 : amM := ([(0, .aload_n 0, 0, 0), (1, .iload_n 1, 0, 0), (2, .invokevirtual 378, 313, 0), (5, .ifCond .ne 5, 10, 0), (8, .iconst 0, 0, 0), (9, .ireturn, 0, 0), (10, .aload_n 0, 0, 0), (11, .iload_n 1, 0, 0), (12, .invokevirtual 369, 311, 0), (15, .istore_n 2, 0, 0), (16, .iload_n 2, 0, 0), (17, .iload_n 1, 0, 0),
  (18, .if_icmp .eq 19, 37, 0), (21, .iload_n 2, 0, 0), (22, .iload_n 1, 0, 0), (23, .if_icmp .ge 5, 28, 0), (26, .iconst 0, 0, 0), (27, .ireturn, 0, 0), (28, .aload_n 0, 0, 0), (29, .iload_n 2, 0, 0), (30, .invokevirtual 369, 311, 0), (33, .istore_n 2, 0, 0), (34, .goto (-18), 16, 0), (37, .iconst 1, 0, 0),
  (38, .ireturn, 0, 0)], 3, 2, false, (some .boolean), [], 11)
def am_n319 : amN := (yX12_beginsRound, cX12_beginsRound, [])
def am_h319 : List (List Nat) := [[], [], [2112, 2114, 110, 134, 2115], [], [], [], [], [], [2096, 2098, 108, 134, 2099], [], [], [], [], [], [], [], [], [], [], [], [2096, 2098, 108, 134, 2099], [], [], [], []]
def am_g319 : List (Nat × Nat) := []
def am_m320 : amM := ([(0, .aload_n 0, 0, 0), (1, .iconst 0, 0, 0), (2, .putfield 67, 11, 7), (5, .aload_n 0, 0, 0), (6, .aload_n 0, 0, 0), (7, .invokevirtual 295, 262, 0), (10, .ifCond .ne 7, 17, 0), (13, .iconst 1, 0, 0), (14, .goto 4, 18, 0), (17, .iconst 0, 0, 0), (18, .iconst 1, 0, 0), (19, .invokevirtual 275, 197, 0),
  (22, .ifCond .eq 5, 27, 0), (25, .iconst 0, 0, 0), (26, .ireturn, 0, 0), (27, .iconst 0, 0, 0), (28, .istore_n 1, 0, 0), (29, .iconst 0, 0, 0), (30, .istore_n 2, 0, 0), (31, .iload_n 2, 0, 0), (32, .aload_n 0, 0, 0), (33, .invokevirtual 95, 203, 0), (36, .if_icmp .ge 59, 95, 0), (39, .iconst 0, 0, 0),
  (40, .istore_n 3, 0, 0), (41, .iload_n 3, 0, 0), (42, .iload_n 2, 0, 0), (43, .if_icmp .ge 46, 89, 0), (46, .iconst 0, 0, 0), (47, .istore 4, 0, 0), (49, .iload 4, 0, 0), (51, .iload_n 3, 0, 0), (52, .if_icmp .ge 31, 83, 0), (55, .iload_n 1, 0, 0), (56, .aload_n 0, 0, 0), (57, .iload_n 2, 0, 0),
  (58, .iload_n 3, 0, 0), (59, .iload 4, 0, 0), (61, .invokestatic 366, 310, 0), (64, .invokevirtual 381, 319, 0), (67, .ifCond .eq 7, 74, 0), (70, .iconst 1, 0, 0), (71, .goto 4, 75, 0), (74, .iconst 0, 0, 0), (75, .iadd, 0, 0), (76, .istore_n 1, 0, 0), (77, .iinc 4 1, 0, 0), (80, .goto (-31), 49, 0),
  (83, .iinc 3 1, 0, 0), (86, .goto (-45), 41, 0), (89, .iinc 2 1, 0, 0), (92, .goto (-61), 31, 0), (95, .iload_n 1, 0, 0), (96, .ireturn, 0, 0)], 5, 1, false, (some .int), [], 11)
def am_n320 : amN := (yX12_rounds, cX12_rounds, [])
def am_h320 : List (List Nat) := [[], [], [1539], [], [], [1800, 1802, 73, 134, 1803], [], [], [], [], [], [1759, 1761, 65, 134, 1762], [], [], [], [], [], [], [], [], [], [1702, 1704, 54, 134, 1705], [], [], [], [], [], [], [], [], [], [], [], [], [], [], [], [], [2091, 2092, 134, 2093], [2128, 2130, 111, 134, 2131], [], [], [], [], [], [], [], [], [], [], [], [], [], []]
def am_g320 : List (Nat × Nat) := []
def am_m321 : amM := ([(0, .aload_n 0, 0, 0), (1, .iconst 0, 0, 0), (2, .putfield 67, 11, 7), (5, .aload_n 0, 0, 0), (6, .invokevirtual 99, 211, 0), (9, .aload_n 0, 0, 0), (10, .aload_n 0, 0, 0), (11, .iload_n 1, 0, 0), (12, .invokevirtual 316, 234, 0), (15, .invokevirtual 185, 235, 0), (18, .ireturn, 0, 0)], 2, 2, false, (some .boolean), [], 11)
def am_n321 : amN := (yX12_isTurned, cX12_isTurned, [])
def am_h321 : List (List Nat) := [[], [], [1539], [], [1743, 1745, 64, 134, 1746], [], [], [], [1907, 1909, 84, 134, 1910], [2136, 2138, 112, 134, 2139], []]
def am_g321 : List (Nat × Nat) := []
def am_m322 : amM := ([(0, .aload_n 0, 0, 0), (1, .iconst 0, 0, 0), (2, .putfield 67, 11, 7), (5, .aload_n 0, 0, 0), (6, .invokevirtual 384, 236, 0), (9, .ireturn, 0, 0)], 1, 1, false, (some .int), [], 11)
def am_n322 : amN := (yX12_leastTurn, cX12_leastTurn, [])
def am_h322 : List (List Nat) := [[], [], [1539], [], [2144, 2146, 113, 134, 2147], []]
def am_g322 : List (Nat × Nat) := []
def am_m323 : amM := ([(0, .aload_n 0, 0, 0), (1, .iconst 0, 0, 0), (2, .putfield 67, 11, 7), (5, .aload_n 0, 0, 0), (6, .invokevirtual 384, 236, 0), (9, .aload_n 0, 0, 0), (10, .invokevirtual 95, 203, 0), (13, .irem, 0, 0), (14, .istore_n 1, 0, 0), (15, .iconst 0, 0, 0), (16, .istore_n 2, 0, 0), (17, .iconst 0, 0, 0),
  (18, .istore_n 3, 0, 0), (19, .iload_n 3, 0, 0), (20, .aload_n 0, 0, 0), (21, .getfield 92, 11, 12), (24, .if_icmp .ge 26, 50, 0), (27, .iload_n 2, 0, 0), (28, .aload_n 0, 0, 0), (29, .iload_n 3, 0, 0), (30, .iload_n 1, 0, 0), (31, .invokevirtual 387, 324, 0), (34, .ifCond .eq 7, 41, 0), (37, .iconst 1, 0, 0),
  (38, .goto 4, 42, 0), (41, .iconst 0, 0, 0), (42, .iadd, 0, 0), (43, .istore_n 2, 0, 0), (44, .iinc 3 1, 0, 0), (47, .goto (-28), 19, 0), (50, .iload_n 2, 0, 0), (51, .ireturn, 0, 0)], 4, 1, false, (some .int), [], 11)
def am_n323 : amN := (yX12_orbits, cX12_orbits, [])
def am_h323 : List (List Nat) := [[], [], [1539], [], [2144, 2146, 113, 134, 2147], [], [1702, 1704, 54, 134, 1705], [], [], [], [], [], [], [], [], [1544], [], [], [], [], [], [2152, 2154, 114, 134, 2155], [], [], [], [], [], [], [], [], [], []]
def am_g323 : List (Nat × Nat) := []
def am_m324 : amM := ([(0, .aload_n 0, 0, 0), (1, .getfield 25, 11, 8), (4, .iload_n 1, 0, 0), (5, .iaload, 0, 0), (6, .istore_n 3, 0, 0), (7, .aload_n 0, 0, 0), (8, .getfield 28, 11, 9), (11, .iload_n 1, 0, 0), (12, .iaload, 0, 0), (13, .istore 4, 0, 0), (15, .aload_n 0, 0, 0), (16, .getfield 31, 11, 10),
  (19, .iload_n 1, 0, 0), (20, .iaload, 0, 0), (21, .istore 5, 0, 0), (23, .iconst 0, 0, 0), (24, .istore 6, 0, 0), (26, .iload 6, 0, 0), (28, .aload_n 0, 0, 0), (29, .invokevirtual 95, 203, 0), (32, .if_icmp .ge 57, 89, 0), (35, .aload_n 0, 0, 0), (36, .iload_n 3, 0, 0), (37, .iload_n 2, 0, 0),
  (38, .invokevirtual 182, 233, 0), (41, .istore_n 3, 0, 0), (42, .aload_n 0, 0, 0), (43, .iload 4, 0, 0), (45, .iload_n 2, 0, 0), (46, .invokevirtual 182, 233, 0), (49, .istore 4, 0, 0), (51, .aload_n 0, 0, 0), (52, .iload 5, 0, 0), (54, .iload_n 2, 0, 0), (55, .invokevirtual 182, 233, 0), (58, .istore 5, 0, 0),
  (60, .aload_n 0, 0, 0), (61, .iconst 1, 0, 0), (62, .iload_n 3, 0, 0), (63, .ishl, 0, 0), (64, .iconst 1, 0, 0), (65, .iload 4, 0, 0), (67, .ishl, 0, 0), (68, .ior, 0, 0), (69, .iconst 1, 0, 0), (70, .iload 5, 0, 0), (72, .ishl, 0, 0), (73, .ior, 0, 0),
  (74, .invokevirtual 115, 212, 0), (77, .iload_n 1, 0, 0), (78, .if_icmp .ge 5, 83, 0), (81, .iconst 0, 0, 0), (82, .ireturn, 0, 0), (83, .iinc 6 1, 0, 0), (86, .goto (-60), 26, 0), (89, .iconst 1, 0, 0), (90, .ireturn, 0, 0)], 7, 3, false, (some .boolean), [], 11)
def am_n324 : amN := (yX12_isLeastOfOrbit, cX12_isLeastOfOrbit, [])
def am_h324 : List (List Nat) := [[], [1540], [], [], [], [], [1541], [], [], [], [], [1542], [], [], [], [], [], [], [], [1702, 1704, 54, 134, 1705], [], [], [], [], [1710, 1712, 56, 134, 1713], [], [], [], [], [1710, 1712, 56, 134, 1713], [], [], [], [], [1710, 1712, 56, 134, 1713], [], [], [], [], [], [], [], [], [], [], [], [], [], [1788, 1790, 71, 134, 1791], [], [], [], [], [], [], [], []]
def am_g324 : List (Nat × Nat) := []
def am_m325 : amM := ([(0, .aload_n 0, 0, 0), (1, .iconst 0, 0, 0), (2, .putfield 67, 11, 7), (5, .iconst 3, 0, 0), (6, .aload_n 0, 0, 0), (7, .invokevirtual 105, 213, 0), (10, .imul, 0, 0), (11, .i2f, 0, 0), (12, .aload_n 0, 0, 0), (13, .invokevirtual 102, 214, 0), (16, .i2f, 0, 0), (17, .fdiv, 0, 0),
  (18, .freturn, 0, 0)], 1, 1, false, (some .float), [], 11)
def am_n325 : amN := (yX12_coverage, cX12_coverage, [])
def am_h325 : List (List Nat) := [[], [], [1539], [], [], [1739, 1741, 63, 134, 1742], [], [], [], [1767, 1769, 67, 134, 1770], [], [], []]
def am_g325 : List (Nat × Nat) := []
def am_m326 : amM := ([(0, .iload_n 1, 0, 0), (1, .istore_n 2, 0, 0), (2, .iconst 0, 0, 0), (3, .istore_n 3, 0, 0), (4, .iload_n 3, 0, 0), (5, .aload_n 0, 0, 0), (6, .invokevirtual 95, 203, 0), (9, .if_icmp .ge 78, 87, 0), (12, .iconst 0, 0, 0), (13, .istore 4, 0, 0), (15, .iload 4, 0, 0), (17, .iload_n 3, 0, 0),
  (18, .if_icmp .ge 63, 81, 0), (21, .iload_n 2, 0, 0), (22, .iload_n 3, 0, 0), (23, .ishr, 0, 0), (24, .iconst 1, 0, 0), (25, .iand, 0, 0), (26, .iconst 1, 0, 0), (27, .if_icmp .ne 17, 44, 0), (30, .iload_n 2, 0, 0), (31, .iload 4, 0, 0), (33, .ishr, 0, 0), (34, .iconst 1, 0, 0),
  (35, .iand, 0, 0), (36, .iconst 1, 0, 0), (37, .if_icmp .ne 7, 44, 0), (40, .iconst 1, 0, 0), (41, .goto 4, 45, 0), (44, .iconst 0, 0, 0), (45, .istore 5, 0, 0), (47, .iload 5, 0, 0), (49, .ifCond .eq 26, 75, 0), (52, .aload_n 0, 0, 0), (53, .iload_n 3, 0, 0), (54, .iload 4, 0, 0),
  (56, .invokevirtual 81, 204, 0), (59, .iconst (-1), 0, 0), (60, .if_icmp .eq 15, 75, 0), (63, .iload_n 2, 0, 0), (64, .iconst 1, 0, 0), (65, .aload_n 0, 0, 0), (66, .iload_n 3, 0, 0), (67, .iload 4, 0, 0), (69, .invokevirtual 81, 204, 0), (72, .ishl, 0, 0), (73, .ior, 0, 0), (74, .istore_n 2, 0, 0),
  (75, .iinc 4 1, 0, 0), (78, .goto (-63), 15, 0), (81, .iinc 3 1, 0, 0), (84, .goto (-80), 4, 0), (87, .iload_n 2, 0, 0), (88, .iload_n 1, 0, 0), (89, .if_icmp .ne 7, 96, 0), (92, .iload_n 1, 0, 0), (93, .goto 8, 101, 0), (96, .aload_n 0, 0, 0), (97, .iload_n 2, 0, 0), (98, .invokevirtual 390, 326, 0),
  (101, .ireturn, 0, 0)], 6, 2, false, (some .int), [], 11)
def am_n326 : amN := (yX12_closed, cX12_closed, [])
def am_h326 : List (List Nat) := [[], [], [], [], [], [], [1702, 1704, 54, 134, 1705], [], [], [], [], [], [], [], [], [], [], [], [], [], [], [], [], [], [], [], [], [], [], [], [], [], [], [], [], [], [1726, 1728, 60, 134, 1729], [], [], [], [], [], [], [], [1726, 1728, 60, 134, 1729], [], [], [], [], [], [], [], [], [], [], [], [], [], [], [2164, 2166, 115, 134, 2167], []]
def am_g326 : List (Nat × Nat) := []
def am_m327 : amM := ([(0, .aload_n 0, 0, 0), (1, .iconst 0, 0, 0), (2, .putfield 67, 11, 7), (5, .aload_n 0, 0, 0), (6, .iload_n 1, 0, 0), (7, .ifCond .lt 12, 19, 0), (10, .iload_n 1, 0, 0), (11, .aload_n 0, 0, 0), (12, .invokevirtual 95, 203, 0), (15, .ishr, 0, 0), (16, .ifCond .eq 7, 23, 0), (19, .iconst 1, 0, 0),
  (20, .goto 4, 24, 0), (23, .iconst 0, 0, 0), (24, .iconst 1, 0, 0), (25, .invokevirtual 275, 197, 0), (28, .ifCond .eq 7, 35, 0), (31, .iconst 0, 0, 0), (32, .goto 8, 40, 0), (35, .aload_n 0, 0, 0), (36, .iload_n 1, 0, 0), (37, .invokevirtual 390, 326, 0), (40, .ireturn, 0, 0)], 2, 2, false, (some .int), [], 11)
def am_n327 : amN := (yX12_closure, cX12_closure, [])
def am_h327 : List (List Nat) := [[], [], [1539], [], [], [], [], [], [1702, 1704, 54, 134, 1705], [], [], [], [], [], [], [1759, 1761, 65, 134, 1762], [], [], [], [], [], [2164, 2166, 115, 134, 2167], []]
def am_g327 : List (Nat × Nat) := []
def am_m328 : amM := ([(0, .iconst 0, 0, 0), (1, .istore_n 2, 0, 0), (2, .iload_n 2, 0, 0), (3, .aload_n 0, 0, 0), (4, .getfield 92, 11, 12), (7, .if_icmp .ge 26, 33, 0), (10, .aload_n 0, 0, 0), (11, .getfield 34, 11, 11), (14, .iload_n 2, 0, 0), (15, .iaload, 0, 0), (16, .iload_n 1, 0, 0), (17, .iand, 0, 0),
  (18, .invokestatic 140, 343, 0), (21, .iconst 2, 0, 0), (22, .if_icmp .ne 5, 27, 0), (25, .iconst 0, 0, 0), (26, .ireturn, 0, 0), (27, .iinc 2 1, 0, 0), (30, .goto (-28), 2, 0), (33, .iconst 1, 0, 0), (34, .ireturn, 0, 0)], 3, 2, false, (some .boolean), [], 11)
def am_n328 : amN := (yX12_isClosed, cX12_isClosed, [])
def am_h328 : List (List Nat) := [[], [], [], [], [1544], [], [], [1543], [], [], [], [], [1783, 568, 140, 569], [], [], [], [], [], [], [], []]
def am_g328 : List (Nat × Nat) := []
def am_m329 : amM := ([(0, .aload_n 0, 0, 0), (1, .iconst 0, 0, 0), (2, .putfield 67, 11, 7), (5, .aload_n 0, 0, 0), (6, .invokevirtual 99, 211, 0), (9, .iconst 0, 0, 0), (10, .istore_n 1, 0, 0), (11, .iconst 0, 0, 0), (12, .istore_n 2, 0, 0), (13, .iload_n 2, 0, 0), (14, .iconst 1, 0, 0), (15, .aload_n 0, 0, 0),
  (16, .invokevirtual 95, 203, 0), (19, .ishl, 0, 0), (20, .iconst 1, 0, 0), (21, .isub, 0, 0), (22, .if_icmp .ge 33, 55, 0), (25, .iload_n 1, 0, 0), (26, .iload_n 2, 0, 0), (27, .invokestatic 140, 343, 0), (30, .iconst 3, 0, 0), (31, .if_icmp .le 15, 46, 0), (34, .aload_n 0, 0, 0), (35, .iload_n 2, 0, 0),
  (36, .invokevirtual 393, 328, 0), (39, .ifCond .eq 7, 46, 0), (42, .iconst 1, 0, 0), (43, .goto 4, 47, 0), (46, .iconst 0, 0, 0), (47, .iadd, 0, 0), (48, .istore_n 1, 0, 0), (49, .iinc 2 1, 0, 0), (52, .goto (-39), 13, 0), (55, .iload_n 1, 0, 0), (56, .ireturn, 0, 0)], 3, 1, false, (some .int), [], 11)
def am_n329 : amN := (yX12_subsystems, cX12_subsystems, [])
def am_h329 : List (List Nat) := [[], [], [1539], [], [1743, 1745, 64, 134, 1746], [], [], [], [], [], [], [], [1702, 1704, 54, 134, 1705], [], [], [], [], [], [], [1783, 568, 140, 569], [], [], [], [], [2172, 2174, 116, 134, 2175], [], [], [], [], [], [], [], [], [], []]
def am_g329 : List (Nat × Nat) := []
def am_m330 : amM := ([(0, .iconst 0, 0, 0), (1, .istore_n 2, 0, 0), (2, .iload_n 2, 0, 0), (3, .aload_n 0, 0, 0), (4, .getfield 92, 11, 12), (7, .if_icmp .ge 28, 35, 0), (10, .aload_n 0, 0, 0), (11, .getfield 34, 11, 11), (14, .iload_n 2, 0, 0), (15, .iaload, 0, 0), (16, .iload_n 1, 0, 0), (17, .iand, 0, 0),
  (18, .aload_n 0, 0, 0), (19, .getfield 34, 11, 11), (22, .iload_n 2, 0, 0), (23, .iaload, 0, 0), (24, .if_icmp .ne 5, 29, 0), (27, .iconst 0, 0, 0), (28, .ireturn, 0, 0), (29, .iinc 2 1, 0, 0), (32, .goto (-30), 2, 0), (35, .iconst 1, 0, 0), (36, .ireturn, 0, 0)], 3, 2, false, (some .boolean), [], 11)
def am_n330 : amN := (yX12_holdsNone, cX12_holdsNone, [])
def am_h330 : List (List Nat) := [[], [], [], [], [1544], [], [], [1543], [], [], [], [], [], [1543], [], [], [], [], [], [], [], [], []]
def am_g330 : List (Nat × Nat) := []
def am_m331 : amM := ([(0, .aload_n 0, 0, 0), (1, .iconst 0, 0, 0), (2, .putfield 67, 11, 7), (5, .aload_n 0, 0, 0), (6, .invokevirtual 99, 211, 0), (9, .iconst 0, 0, 0), (10, .istore_n 1, 0, 0), (11, .iconst 1, 0, 0), (12, .istore_n 2, 0, 0), (13, .iload_n 2, 0, 0), (14, .iconst 1, 0, 0), (15, .aload_n 0, 0, 0),
  (16, .invokevirtual 95, 203, 0), (19, .ishl, 0, 0), (20, .if_icmp .ge 30, 50, 0), (23, .iload_n 2, 0, 0), (24, .invokestatic 140, 343, 0), (27, .iload_n 1, 0, 0), (28, .invokestatic 140, 343, 0), (31, .if_icmp .le 13, 44, 0), (34, .aload_n 0, 0, 0), (35, .iload_n 2, 0, 0), (36, .invokevirtual 396, 330, 0), (39, .ifCond .eq 5, 44, 0),
  (42, .iload_n 2, 0, 0), (43, .istore_n 1, 0, 0), (44, .iinc 2 1, 0, 0), (47, .goto (-34), 13, 0), (50, .iload_n 1, 0, 0), (51, .ireturn, 0, 0)], 3, 1, false, (some .int), [], 11)
def am_n331 : amN := (yX12_independent, cX12_independent, [])
def am_h331 : List (List Nat) := [[], [], [1539], [], [1743, 1745, 64, 134, 1746], [], [], [], [], [], [], [], [1702, 1704, 54, 134, 1705], [], [], [], [1783, 568, 140, 569], [], [1783, 568, 140, 569], [], [], [], [2180, 2182, 117, 134, 2183], [], [], [], [], [], [], []]
def am_g331 : List (Nat × Nat) := []
def am_m332 : amM := ([(0, .aload_n 0, 0, 0), (1, .iload_n 1, 0, 0), (2, .invokevirtual 298, 257, 0), (5, .ifCond .eq 5, 10, 0), (8, .iconst 0, 0, 0), (9, .ireturn, 0, 0), (10, .iconst 0, 0, 0), (11, .istore_n 2, 0, 0), (12, .iconst 0, 0, 0), (13, .istore_n 3, 0, 0), (14, .iload_n 3, 0, 0), (15, .aload_n 0, 0, 0),
  (16, .getfield 92, 11, 12), (19, .if_icmp .ge 33, 52, 0), (22, .iload_n 2, 0, 0), (23, .aload_n 0, 0, 0), (24, .getfield 34, 11, 11), (27, .iload_n 3, 0, 0), (28, .iaload, 0, 0), (29, .aload_n 0, 0, 0), (30, .getfield 34, 11, 11), (33, .iload_n 1, 0, 0), (34, .iaload, 0, 0), (35, .iand, 0, 0),
  (36, .ifCond .ne 7, 43, 0), (39, .iconst 1, 0, 0), (40, .goto 4, 44, 0), (43, .iconst 0, 0, 0), (44, .iadd, 0, 0), (45, .istore_n 2, 0, 0), (46, .iinc 3 1, 0, 0), (49, .goto (-35), 14, 0), (52, .iload_n 2, 0, 0), (53, .ireturn, 0, 0)], 4, 2, false, (some .int), [], 11)
def am_n332 : amN := (yX12_apart, cX12_apart, [])
def am_h332 : List (List Nat) := [[], [], [1808, 1810, 74, 134, 1811], [], [], [], [], [], [], [], [], [], [1544], [], [], [], [1543], [], [], [], [1543], [], [], [], [], [], [], [], [], [], [], [], [], []]
def am_g332 : List (Nat × Nat) := []
def am_m333 : amM := ([(0, .iconst 0, 0, 0), (1, .istore_n 3, 0, 0), (2, .iload_n 1, 0, 0), (3, .istore 4, 0, 0), (5, .iload 4, 0, 0), (7, .aload_n 0, 0, 0), (8, .getfield 92, 11, 12), (11, .if_icmp .ge 45, 56, 0), (14, .aload_n 0, 0, 0), (15, .getfield 34, 11, 11), (18, .iload 4, 0, 0), (20, .iaload, 0, 0),
  (21, .iload_n 2, 0, 0), (22, .iand, 0, 0), (23, .ifCond .ne 27, 50, 0), (26, .iload_n 3, 0, 0), (27, .iconst 1, 0, 0), (28, .aload_n 0, 0, 0), (29, .iload 4, 0, 0), (31, .iconst 1, 0, 0), (32, .iadd, 0, 0), (33, .iload_n 2, 0, 0), (34, .aload_n 0, 0, 0), (35, .getfield 34, 11, 11),
  (38, .iload 4, 0, 0), (40, .iaload, 0, 0), (41, .ior, 0, 0), (42, .invokevirtual 399, 333, 0), (45, .iadd, 0, 0), (46, .invokestatic 358, 346, 0), (49, .istore_n 3, 0, 0), (50, .iinc 4 1, 0, 0), (53, .goto (-48), 5, 0), (56, .iload_n 3, 0, 0), (57, .ireturn, 0, 0)], 5, 3, false, (some .int), [], 11)
def am_n333 : amN := (yX12_mostFrom, cX12_mostFrom, [])
def am_h333 : List (List Nat) := [[], [], [], [], [], [], [1544], [], [], [1543], [], [], [], [], [], [], [], [], [], [], [], [], [], [1543], [], [], [], [2192, 2194, 118, 134, 2195], [], [2094, 396, 133, 397], [], [], [], [], []]
def am_g333 : List (Nat × Nat) := []
def am_m334 : amM := ([(0, .aload_n 0, 0, 0), (1, .iconst 0, 0, 0), (2, .putfield 67, 11, 7), (5, .aload_n 0, 0, 0), (6, .invokevirtual 99, 211, 0), (9, .aload_n 0, 0, 0), (10, .iconst 0, 0, 0), (11, .iconst 0, 0, 0), (12, .invokevirtual 399, 333, 0), (15, .ireturn, 0, 0)], 1, 1, false, (some .int), [], 11)
def am_n334 : amN := (yX12_mostApart, cX12_mostApart, [])
def am_h334 : List (List Nat) := [[], [], [1539], [], [1743, 1745, 64, 134, 1746], [], [], [], [2192, 2194, 118, 134, 2195], []]
def am_g334 : List (Nat × Nat) := []
def am_m335 : amM := ([(0, .aload_n 0, 0, 0), (1, .getfield 60, 11, 31), (4, .aload_n 0, 0, 0), (5, .getfield 402, 11, 32), (8, .iload_n 1, 0, 0), (9, .iastore, 0, 0), (10, .aload_n 0, 0, 0), (11, .dup, 0, 0), (12, .getfield 402, 11, 32), (15, .iconst 1, 0, 0), (16, .iadd, 0, 0), (17, .putfield 402, 11, 32),
  (20, .return_, 0, 0)], 2, 2, false, none, [], 11)
def am_n335 : amN := (yX12_write, cX12_write, [])
def am_h335 : List (List Nat) := [[], [1563], [], [1564], [], [], [], [], [1564], [], [], [1564], []]
def am_g335 : List (Nat × Nat) := []
def am_m336 : amM := ([(0, .aload_n 0, 0, 0), (1, .iload_n 1, 0, 0), (2, .bipush 10, 0, 0), (4, .if_icmp .ge 10, 14, 0), (7, .bipush 48, 0, 0), (9, .iload_n 1, 0, 0), (10, .iadd, 0, 0), (11, .goto 10, 21, 0), (14, .bipush 97, 0, 0), (16, .iload_n 1, 0, 0), (17, .iadd, 0, 0), (18, .bipush 10, 0, 0),
  (20, .isub, 0, 0), (21, .invokevirtual 405, 335, 0), (24, .return_, 0, 0)], 2, 2, false, none, [], 11)
def am_n336 : amN := (yX12_writePoint, cX12_writePoint, [])
def am_h336 : List (List Nat) := [[], [], [], [], [], [], [], [], [], [], [], [], [], [2200, 2202, 119, 134, 2203], []]
def am_g336 : List (Nat × Nat) := []
def am_m337 : amM := ([(0, .aload_n 0, 0, 0), (1, .iload_n 1, 0, 0), (2, .invokevirtual 279, 254, 0), (5, .ifCond .eq 5, 10, 0), (8, .iconst 0, 0, 0), (9, .ireturn, 0, 0), (10, .aload_n 0, 0, 0), (11, .invokevirtual 99, 211, 0), (14, .aload_n 0, 0, 0), (15, .iconst 0, 0, 0), (16, .putfield 402, 11, 32), (19, .iconst 0, 0, 0),
  (20, .istore_n 2, 0, 0), (21, .iload_n 2, 0, 0), (22, .aload_n 0, 0, 0), (23, .getfield 92, 11, 12), (26, .if_icmp .ge 68, 94, 0), (29, .aload_n 0, 0, 0), (30, .getfield 34, 11, 11), (33, .iload_n 2, 0, 0), (34, .iaload, 0, 0), (35, .iload_n 1, 0, 0), (36, .ishr, 0, 0), (37, .iconst 1, 0, 0),
  (38, .iand, 0, 0), (39, .ifCond .ne 6, 45, 0), (42, .goto 46, 88, 0), (45, .aload_n 0, 0, 0), (46, .getfield 402, 11, 32), (49, .ifCond .le 9, 58, 0), (52, .aload_n 0, 0, 0), (53, .bipush 32, 0, 0), (55, .invokevirtual 405, 335, 0), (58, .aload_n 0, 0, 0), (59, .aload_n 0, 0, 0), (60, .getfield 25, 11, 8),
  (63, .iload_n 2, 0, 0), (64, .iaload, 0, 0), (65, .invokevirtual 408, 336, 0), (68, .aload_n 0, 0, 0), (69, .aload_n 0, 0, 0), (70, .getfield 28, 11, 9), (73, .iload_n 2, 0, 0), (74, .iaload, 0, 0), (75, .invokevirtual 408, 336, 0), (78, .aload_n 0, 0, 0), (79, .aload_n 0, 0, 0), (80, .getfield 31, 11, 10),
  (83, .iload_n 2, 0, 0), (84, .iaload, 0, 0), (85, .invokevirtual 408, 336, 0), (88, .iinc 2 1, 0, 0), (91, .goto (-70), 21, 0), (94, .aload_n 0, 0, 0), (95, .getfield 402, 11, 32), (98, .ireturn, 0, 0)], 3, 2, false, (some .int), [], 11)
def am_n337 : amN := (yX12_printAt, cX12_printAt, [])
def am_h337 : List (List Nat) := [[], [], [1820, 1822, 76, 134, 1823], [], [], [], [], [1743, 1745, 64, 134, 1746], [], [], [1564], [], [], [], [], [1544], [], [], [1543], [], [], [], [], [], [], [], [], [], [1564], [], [], [], [2200, 2202, 119, 134, 2203], [], [], [1540], [], [], [2204, 2206, 120, 134, 2207], [], [], [1541], [], [], [2204, 2206, 120, 134, 2207], [], [], [1542], [], [], [2204, 2206, 120, 134, 2207], [], [], [], [1564], []]
def am_g337 : List (Nat × Nat) := []
def am_m338 : amM := ([(0, .aload_n 0, 0, 0), (1, .iconst 0, 0, 0), (2, .putfield 67, 11, 7), (5, .iload_n 1, 0, 0), (6, .iconst 0, 0, 0), (7, .aload_n 0, 0, 0), (8, .getfield 402, 11, 32), (11, .iconst 1, 0, 0), (12, .isub, 0, 0), (13, .invokestatic 197, 196, 0), (16, .ifCond .eq 12, 28, 0), (19, .aload_n 0, 0, 0),
  (20, .getfield 60, 11, 31), (23, .iload_n 1, 0, 0), (24, .iaload, 0, 0), (25, .goto 4, 29, 0), (28, .iconst (-1), 0, 0), (29, .ireturn, 0, 0)], 2, 2, false, (some .int), [], 11)
def am_n338 : amN := (yX12_outputByte, cX12_outputByte, [])
def am_h338 : List (List Nat) := [[], [], [1539], [], [], [], [1564], [], [], [1648, 1649, 134, 1650], [], [], [1563], [], [], [], [], []]
def am_g338 : List (Nat × Nat) := []
def am_m339 : amM := ([(0, .aload_n 0, 0, 0), (1, .iconst 0, 0, 0), (2, .putfield 67, 11, 7), (5, .aload_n 0, 0, 0), (6, .getfield 70, 11, 5), (9, .ifCond .ne 5, 14, 0), (12, .iconst (-1), 0, 0), (13, .ireturn, 0, 0), (14, .aload_n 0, 0, 0), (15, .dup, 0, 0), (16, .getfield 70, 11, 5), (19, .iconst 1, 0, 0),
  (20, .isub, 0, 0), (21, .putfield 70, 11, 5), (24, .aload_n 0, 0, 0), (25, .getfield 22, 11, 4), (28, .sipush 229, 0, 0), (31, .aload_n 0, 0, 0), (32, .getfield 70, 11, 5), (35, .imul, 0, 0), (36, .aload_n 0, 0, 0), (37, .getfield 7, 11, 0), (40, .iconst 0, 0, 0), (41, .sipush 229, 0, 0),
  (44, .invokestatic 73, 198, 0), (47, .aload_n 0, 0, 0), (48, .getfield 70, 11, 5), (51, .ireturn, 0, 0)], 1, 1, false, (some .int), [], 11)
def am_n339 : amN := (yX12_undo, cX12_undo, [])
def am_h339 : List (List Nat) := [[], [], [1539], [], [1537], [], [], [], [], [], [1537], [], [], [1537], [], [1536], [], [], [1537], [], [], [1532], [], [], [1655, 1656, 134, 1657], [], [1537], []]
def am_g339 : List (Nat × Nat) := []
def am_m340 : amM := ([(0, .aload_n 0, 0, 0), (1, .iconst 0, 0, 0), (2, .putfield 67, 11, 7), (5, .aload_n 0, 0, 0), (6, .getfield 7, 11, 0), (9, .iconst 0, 0, 0), (10, .aload_n 0, 0, 0), (11, .getfield 19, 11, 3), (14, .iconst 0, 0, 0), (15, .sipush 229, 0, 0), (18, .invokestatic 73, 198, 0), (21, .aload_n 0, 0, 0),
  (22, .iconst 1, 0, 0), (23, .putfield 271, 11, 6), (26, .aload_n 0, 0, 0), (27, .invokevirtual 105, 213, 0), (30, .ireturn, 0, 0)], 1, 1, false, (some .int), [], 11)
def am_n340 : amN := (yX12_saveState, cX12_saveState, [])
def am_h340 : List (List Nat) := [[], [], [1539], [], [1532], [], [], [1535], [], [], [1655, 1656, 134, 1657], [], [], [1538], [], [1739, 1741, 63, 134, 1742], []]
def am_g340 : List (Nat × Nat) := []
def am_m341 : amM := ([(0, .aload_n 0, 0, 0), (1, .iconst 0, 0, 0), (2, .putfield 67, 11, 7), (5, .aload_n 0, 0, 0), (6, .aload_n 0, 0, 0), (7, .getfield 271, 11, 6), (10, .ifCond .ne 7, 17, 0), (13, .iconst 1, 0, 0), (14, .goto 4, 18, 0), (17, .iconst 0, 0, 0), (18, .iconst 1, 0, 0), (19, .invokevirtual 275, 197, 0),
  (22, .ifCond .eq 5, 27, 0), (25, .iconst 0, 0, 0), (26, .ireturn, 0, 0), (27, .aload_n 0, 0, 0), (28, .getfield 19, 11, 3), (31, .iconst 0, 0, 0), (32, .aload_n 0, 0, 0), (33, .getfield 7, 11, 0), (36, .iconst 0, 0, 0), (37, .sipush 229, 0, 0), (40, .invokestatic 73, 198, 0), (43, .aload_n 0, 0, 0),
  (44, .iconst 0, 0, 0), (45, .putfield 70, 11, 5), (48, .aload_n 0, 0, 0), (49, .invokevirtual 105, 213, 0), (52, .ireturn, 0, 0)], 1, 1, false, (some .int), [], 11)
def am_n341 : amN := (yX12_restoreState, cX12_restoreState, [])
def am_h341 : List (List Nat) := [[], [], [1539], [], [], [1538], [], [], [], [], [], [1759, 1761, 65, 134, 1762], [], [], [], [], [1535], [], [], [1532], [], [], [1655, 1656, 134, 1657], [], [], [1537], [], [1739, 1741, 63, 134, 1742], []]
def am_g341 : List (Nat × Nat) := []
def am_m342 : amM := ([(0, .iload_n 0, 0, 0), (1, .iconst (-1), 0, 0), (2, .ixor, 0, 0), (3, .iload_n 0, 0, 0), (4, .iconst 1, 0, 0), (5, .isub, 0, 0), (6, .iand, 0, 0), (7, .istore_n 0, 0, 0), (8, .iload_n 0, 0, 0), (9, .ifCond .gt 8, 17, 0), (12, .iload_n 0, 0, 0), (13, .bipush 32, 0, 0),
  (15, .iand, 0, 0), (16, .ireturn, 0, 0), (17, .iconst 1, 0, 0), (18, .istore_n 1, 0, 0), (19, .iload_n 0, 0, 0), (20, .ldc_w 264, 65536, 0), (23, .if_icmp .le 11, 34, 0), (26, .iinc 1 16, 0, 0), (29, .iload_n 0, 0, 0), (30, .bipush 16, 0, 0), (32, .iushr, 0, 0), (33, .istore_n 0, 0, 0),
  (34, .iload_n 0, 0, 0), (35, .sipush 256, 0, 0), (38, .if_icmp .le 11, 49, 0), (41, .iinc 1 8, 0, 0), (44, .iload_n 0, 0, 0), (45, .bipush 8, 0, 0), (47, .iushr, 0, 0), (48, .istore_n 0, 0, 0), (49, .iload_n 0, 0, 0), (50, .bipush 16, 0, 0), (52, .if_icmp .le 10, 62, 0), (55, .iinc 1 4, 0, 0),
  (58, .iload_n 0, 0, 0), (59, .iconst 4, 0, 0), (60, .iushr, 0, 0), (61, .istore_n 0, 0, 0), (62, .iload_n 0, 0, 0), (63, .iconst 4, 0, 0), (64, .if_icmp .le 10, 74, 0), (67, .iinc 1 2, 0, 0), (70, .iload_n 0, 0, 0), (71, .iconst 2, 0, 0), (72, .iushr, 0, 0), (73, .istore_n 0, 0, 0),
  (74, .iload_n 1, 0, 0), (75, .iload_n 0, 0, 0), (76, .iconst 1, 0, 0), (77, .iushr, 0, 0), (78, .iadd, 0, 0), (79, .ireturn, 0, 0)], 2, 1, false, (some .int), [], 99)
def am_n342 : amN := (yJ6_numberOfTrailingZeros_0f7a4, cJ6_numberOfTrailingZeros_0f7a4, [])
def am_h342 : List (List Nat) := [[], [], [], [], [], [], [], [], [], [], [], [], [], [], [], [], [], [1787], [], [], [], [], [], [], [], [], [], [], [], [], [], [], [], [], [], [], [], [], [], [], [], [], [], [], [], [], [], [], [], [], [], [], [], []]
def am_g342 : List (Nat × Nat) := []
def am_m343 : amM := ([(0, .iload_n 0, 0, 0), (1, .iload_n 0, 0, 0), (2, .iconst 1, 0, 0), (3, .iushr, 0, 0), (4, .ldc_w 265, 1431655765, 0), (7, .iand, 0, 0), (8, .isub, 0, 0), (9, .istore_n 0, 0, 0), (10, .iload_n 0, 0, 0), (11, .ldc_w 266, 858993459, 0), (14, .iand, 0, 0), (15, .iload_n 0, 0, 0),
  (16, .iconst 2, 0, 0), (17, .iushr, 0, 0), (18, .ldc_w 266, 858993459, 0), (21, .iand, 0, 0), (22, .iadd, 0, 0), (23, .istore_n 0, 0, 0), (24, .iload_n 0, 0, 0), (25, .iload_n 0, 0, 0), (26, .iconst 4, 0, 0), (27, .iushr, 0, 0), (28, .iadd, 0, 0), (29, .ldc_w 267, 252645135, 0),
  (32, .iand, 0, 0), (33, .istore_n 0, 0, 0), (34, .iload_n 0, 0, 0), (35, .iload_n 0, 0, 0), (36, .bipush 8, 0, 0), (38, .iushr, 0, 0), (39, .iadd, 0, 0), (40, .istore_n 0, 0, 0), (41, .iload_n 0, 0, 0), (42, .iload_n 0, 0, 0), (43, .bipush 16, 0, 0), (45, .iushr, 0, 0),
  (46, .iadd, 0, 0), (47, .istore_n 0, 0, 0), (48, .iload_n 0, 0, 0), (49, .bipush 63, 0, 0), (51, .iand, 0, 0), (52, .ireturn, 0, 0)], 1, 1, false, (some .int), [], 99)
def am_n343 : amN := (yJ6_bitCount_0f7a4, cJ6_bitCount_0f7a4, [])
def am_h343 : List (List Nat) := [[], [], [], [], [570], [], [], [], [], [571], [], [], [], [], [571], [], [], [], [], [], [], [], [], [572], [], [], [], [], [], [], [], [], [], [], [], [], [], [], [], [], [], []]
def am_g343 : List (Nat × Nat) := []
def am_m344 : amM := ([(0, .lload_n 0, 0, 0), (1, .lload_n 0, 0, 0), (2, .iconst 1, 0, 0), (3, .lushr, 0, 0), (4, .ldc2_w 314, 6148914691236517205, 0), (7, .land, 0, 0), (8, .lsub, 0, 0), (9, .lstore_n 0, 0, 0), (10, .lload_n 0, 0, 0), (11, .ldc2_w 316, 3689348814741910323, 0), (14, .land, 0, 0), (15, .lload_n 0, 0, 0),
  (16, .iconst 2, 0, 0), (17, .lushr, 0, 0), (18, .ldc2_w 316, 3689348814741910323, 0), (21, .land, 0, 0), (22, .ladd, 0, 0), (23, .lstore_n 0, 0, 0), (24, .lload_n 0, 0, 0), (25, .lload_n 0, 0, 0), (26, .iconst 4, 0, 0), (27, .lushr, 0, 0), (28, .ladd, 0, 0), (29, .ldc2_w 318, 1085102592571150095, 0),
  (32, .land, 0, 0), (33, .lstore_n 0, 0, 0), (34, .lload_n 0, 0, 0), (35, .lload_n 0, 0, 0), (36, .bipush 8, 0, 0), (38, .lushr, 0, 0), (39, .ladd, 0, 0), (40, .lstore_n 0, 0, 0), (41, .lload_n 0, 0, 0), (42, .lload_n 0, 0, 0), (43, .bipush 16, 0, 0), (45, .lushr, 0, 0),
  (46, .ladd, 0, 0), (47, .lstore_n 0, 0, 0), (48, .lload_n 0, 0, 0), (49, .lload_n 0, 0, 0), (50, .bipush 32, 0, 0), (52, .lushr, 0, 0), (53, .ladd, 0, 0), (54, .lstore_n 0, 0, 0), (55, .lload_n 0, 0, 0), (56, .l2i, 0, 0), (57, .bipush 127, 0, 0), (59, .iand, 0, 0),
  (60, .ireturn, 0, 0)], 2, 1, false, (some .int), [], 99)
def am_n344 : amN := (yJ13_bitCount_95d88, cJ13_bitCount_95d88, [])
def am_h344 : List (List Nat) := [[], [], [], [], [755], [], [], [], [], [756], [], [], [], [], [756], [], [], [], [], [], [], [], [], [757], [], [], [], [], [], [], [], [], [], [], [], [], [], [], [], [], [], [], [], [], [], [], [], [], []]
def am_g344 : List (Nat × Nat) := []
def am_m345 : amM := ([(0, .iload_n 0, 0, 0), (1, .iload_n 1, 0, 0), (2, .irem, 0, 0), (3, .istore_n 2, 0, 0), (4, .iload_n 0, 0, 0), (5, .iload_n 1, 0, 0), (6, .ixor, 0, 0), (7, .ifCond .ge 11, 18, 0), (10, .iload_n 2, 0, 0), (11, .ifCond .eq 7, 18, 0), (14, .iload_n 2, 0, 0), (15, .iload_n 1, 0, 0),
  (16, .iadd, 0, 0), (17, .ireturn, 0, 0), (18, .iload_n 2, 0, 0), (19, .ireturn, 0, 0)], 3, 2, false, (some .int), [], 99)
def am_n345 : amN := (yJ9_floorMod_7cf53, cJ9_floorMod_7cf53, [])
def am_h345 : List (List Nat) := [[], [], [], [], [], [], [], [], [], [], [], [], [], [], [], []]
def am_g345 : List (Nat × Nat) := []
def am_m346 : amM := ([(0, .iload_n 0, 0, 0), (1, .iload_n 1, 0, 0), (2, .if_icmp .lt 7, 9, 0), (5, .iload_n 0, 0, 0), (6, .goto 4, 10, 0), (9, .iload_n 1, 0, 0), (10, .ireturn, 0, 0)], 2, 2, false, (some .int), [], 99)
def am_n346 : amN := (yJ9_max_7cf53, cJ9_max_7cf53, [])
def am_h346 : List (List Nat) := [[], [], [], [], [], [], []]
def am_g346 : List (Nat × Nat) := []
def am_m347 : amM := ([(0, .iload_n 0, 0, 0), (1, .iload_n 1, 0, 0), (2, .if_icmp .gt 7, 9, 0), (5, .iload_n 0, 0, 0), (6, .goto 4, 10, 0), (9, .iload_n 1, 0, 0), (10, .ireturn, 0, 0)], 2, 2, false, (some .int), [], 99)
def am_n347 : amN := (yJ9_min_7cf53, cJ9_min_7cf53, [])
def am_h347 : List (List Nat) := [[], [], [], [], [], [], []]
def am_g347 : List (Nat × Nat) := []
def am_m348 : amM := ([(0, .aload_n 2, 0, 0), (1, .iconst 0, 0, 0), (2, .aload_n 0, 0, 0), (3, .iload_n 1, 0, 0), (4, .invokevirtual 7, 118, 0), (7, .i2l, 0, 0), (8, .lastore, 0, 0), (9, .goto 6, 15, 0), (12, .astore_n 3, 0, 0), (13, .iconst 1, 0, 0), (14, .ireturn, 0, 0), (15, .iconst 0, 0, 0),
  (16, .ireturn, 0, 0)], 4, 3, false, (some .int), [(0, 9, 12, 0, 3, 13)], 99)
def am_n348 : amN := (yL_count, cL_count, [(0, 9, 12, 13)])
def am_h348 : List (List Nat) := [[], [], [], [], [974, 975, 976, 122, 977], [], [], [], [], [], [], [], []]
def am_g348 : List (Nat × Nat) := [(973, 980)]
def am_m349 : amM := ([(0, .aload_n 3, 0, 0), (1, .iconst 0, 0, 0), (2, .aload_n 0, 0, 0), (3, .iload_n 1, 0, 0), (4, .iload_n 2, 0, 0), (5, .invokevirtual 15, 120, 0), (8, .i2l, 0, 0), (9, .lastore, 0, 0), (10, .goto 11, 21, 0), (13, .astore 4, 0, 0), (15, .iconst 1, 0, 0), (16, .ireturn, 0, 0),
  (17, .astore 4, 0, 0), (19, .iconst 2, 0, 0), (20, .ireturn, 0, 0), (21, .iconst 0, 0, 0), (22, .ireturn, 0, 0)], 5, 4, false, (some .int), [(0, 10, 13, 1, 4, 15), (0, 10, 17, 0, 4, 19)], 99)
def am_n349 : amN := (yL_triple, cL_triple, [(0, 10, 13, 19), (0, 10, 17, 13)])
def am_h349 : List (List Nat) := [[], [], [], [], [], [1050, 1051, 1052, 122, 1053], [], [], [], [], [], [], [], [], [], [], []]
def am_g349 : List (Nat × Nat) := [(1049, 1060), (973, 980)]
def am_m350 : amM := ([(0, .aload 4, 0, 0), (2, .iconst 0, 0, 0), (3, .aload_n 0, 0, 0), (4, .iload_n 1, 0, 0), (5, .iload_n 2, 0, 0), (6, .iload_n 3, 0, 0), (7, .invokevirtual 21, 121, 0), (10, .i2l, 0, 0), (11, .lastore, 0, 0), (12, .goto 11, 23, 0), (15, .astore 5, 0, 0), (17, .iconst 1, 0, 0),
  (18, .ireturn, 0, 0), (19, .astore 5, 0, 0), (21, .iconst 2, 0, 0), (22, .ireturn, 0, 0), (23, .iconst 0, 0, 0), (24, .ireturn, 0, 0)], 6, 5, false, (some .int), [(0, 12, 15, 1, 5, 17), (0, 12, 19, 0, 5, 21)], 99)
def am_n350 : amN := (yL_find, cL_find, [(0, 12, 15, 19), (0, 12, 19, 13)])
def am_h350 : List (List Nat) := [[], [], [], [], [], [], [1079, 1080, 1081, 122, 1082], [], [], [], [], [], [], [], [], [], [], []]
def am_g350 : List (Nat × Nat) := [(1049, 1060), (973, 980)]
def am_m351 : amM := ([(0, .aload_n 3, 0, 0), (1, .iconst 0, 0, 0), (2, .aload_n 0, 0, 0), (3, .iload_n 1, 0, 0), (4, .iload_n 2, 0, 0), (5, .invokevirtual 25, 122, 0), (8, .i2l, 0, 0), (9, .lastore, 0, 0), (10, .goto 11, 21, 0), (13, .astore 4, 0, 0), (15, .iconst 1, 0, 0), (16, .ireturn, 0, 0),
  (17, .astore 4, 0, 0), (19, .iconst 2, 0, 0), (20, .ireturn, 0, 0), (21, .iconst 0, 0, 0), (22, .ireturn, 0, 0)], 5, 4, false, (some .int), [(0, 10, 13, 1, 4, 15), (0, 10, 17, 0, 4, 19)], 99)
def am_n351 : amN := (yL_third, cL_third, [(0, 10, 13, 19), (0, 10, 17, 13)])
def am_h351 : List (List Nat) := [[], [], [], [], [], [1098, 1099, 1100, 122, 1101], [], [], [], [], [], [], [], [], [], [], []]
def am_g351 : List (Nat × Nat) := [(1049, 1060), (973, 980)]
def am_m352 : amM := ([(0, .aload_n 2, 0, 0), (1, .iconst 0, 0, 0), (2, .aload_n 0, 0, 0), (3, .iload_n 1, 0, 0), (4, .invokevirtual 28, 123, 0), (7, .i2l, 0, 0), (8, .lastore, 0, 0), (9, .goto 6, 15, 0), (12, .astore_n 3, 0, 0), (13, .iconst 1, 0, 0), (14, .ireturn, 0, 0), (15, .iconst 0, 0, 0),
  (16, .ireturn, 0, 0)], 4, 3, false, (some .int), [(0, 9, 12, 1, 3, 13)], 99)
def am_n352 : amN := (yL_degree, cL_degree, [(0, 9, 12, 19)])
def am_h352 : List (List Nat) := [[], [], [], [], [1109, 1110, 1111, 122, 1112], [], [], [], [], [], [], [], []]
def am_g352 : List (Nat × Nat) := [(1049, 1060)]
def am_m353 : amM := ([(0, .aload_n 2, 0, 0), (1, .iconst 0, 0, 0), (2, .aload_n 0, 0, 0), (3, .iload_n 1, 0, 0), (4, .invokevirtual 31, 124, 0), (7, .i2l, 0, 0), (8, .lastore, 0, 0), (9, .goto 6, 15, 0), (12, .astore_n 3, 0, 0), (13, .iconst 1, 0, 0), (14, .ireturn, 0, 0), (15, .iconst 0, 0, 0),
  (16, .ireturn, 0, 0)], 4, 3, false, (some .int), [(0, 9, 12, 1, 3, 13)], 99)
def am_n353 : amN := (yL_uncovered, cL_uncovered, [(0, 9, 12, 19)])
def am_h353 : List (List Nat) := [[], [], [], [], [1120, 1121, 1122, 122, 1123], [], [], [], [], [], [], [], []]
def am_g353 : List (Nat × Nat) := [(1049, 1060)]
def am_m354 : amM := ([(0, .aload 4, 0, 0), (2, .iconst 0, 0, 0), (3, .aload_n 0, 0, 0), (4, .iload_n 1, 0, 0), (5, .iload_n 2, 0, 0), (6, .iload_n 3, 0, 0), (7, .invokevirtual 34, 125, 0), (10, .i2l, 0, 0), (11, .lastore, 0, 0), (12, .goto 11, 23, 0), (15, .astore 5, 0, 0), (17, .iconst 1, 0, 0),
  (18, .ireturn, 0, 0), (19, .astore 5, 0, 0), (21, .iconst 2, 0, 0), (22, .ireturn, 0, 0), (23, .iconst 0, 0, 0), (24, .ireturn, 0, 0)], 6, 5, false, (some .int), [(0, 12, 15, 1, 5, 17), (0, 12, 19, 0, 5, 21)], 99)
def am_n354 : amN := (yL_reason, cL_reason, [(0, 12, 15, 19), (0, 12, 19, 13)])
def am_h354 : List (List Nat) := [[], [], [], [], [], [], [1132, 1133, 1134, 122, 1135], [], [], [], [], [], [], [], [], [], [], []]
def am_g354 : List (Nat × Nat) := [(1049, 1060), (973, 980)]
def am_m355 : amM := ([(0, .aload 4, 0, 0), (2, .iconst 0, 0, 0), (3, .aload_n 0, 0, 0), (4, .iload_n 1, 0, 0), (5, .iload_n 2, 0, 0), (6, .iload_n 3, 0, 0), (7, .invokevirtual 37, 126, 0), (10, .i2l, 0, 0), (11, .lastore, 0, 0), (12, .goto 15, 27, 0), (15, .astore 5, 0, 0), (17, .iconst 1, 0, 0),
  (18, .ireturn, 0, 0), (19, .astore 5, 0, 0), (21, .iconst 2, 0, 0), (22, .ireturn, 0, 0), (23, .astore 5, 0, 0), (25, .iconst 3, 0, 0), (26, .ireturn, 0, 0), (27, .iconst 0, 0, 0), (28, .ireturn, 0, 0)], 6, 5, false, (some .int), [(0, 12, 15, 1, 5, 17), (0, 12, 19, 0, 5, 21), (0, 12, 23, 2, 5, 25)], 99)
def am_n355 : amN := (yL_add, cL_add, [(0, 12, 15, 19), (0, 12, 19, 13), (0, 12, 23, 40)])
def am_h355 : List (List Nat) := [[], [], [], [], [], [], [1140, 1141, 1142, 122, 1143], [], [], [], [], [], [], [], [], [], [], [], [], [], []]
def am_g355 : List (Nat × Nat) := [(1049, 1060), (973, 980), (1139, 1147)]
def am_m356 : amM := ([(0, .aload_n 2, 0, 0), (1, .iconst 0, 0, 0), (2, .aload_n 0, 0, 0), (3, .iload_n 1, 0, 0), (4, .invokevirtual 42, 127, 0), (7, .i2l, 0, 0), (8, .lastore, 0, 0), (9, .goto 6, 15, 0), (12, .astore_n 3, 0, 0), (13, .iconst 1, 0, 0), (14, .ireturn, 0, 0), (15, .iconst 0, 0, 0),
  (16, .ireturn, 0, 0)], 4, 3, false, (some .int), [(0, 9, 12, 1, 3, 13)], 99)
def am_n356 : amN := (yL_remove, cL_remove, [(0, 9, 12, 19)])
def am_h356 : List (List Nat) := [[], [], [], [], [1164, 1165, 1166, 122, 1167], [], [], [], [], [], [], [], []]
def am_g356 : List (Nat × Nat) := [(1049, 1060)]
def am_m357 : amM := ([(0, .aload 4, 0, 0), (2, .iconst 0, 0, 0), (3, .aload_n 0, 0, 0), (4, .iload_n 1, 0, 0), (5, .iload_n 2, 0, 0), (6, .iload_n 3, 0, 0), (7, .invokevirtual 45, 128, 0), (10, .i2l, 0, 0), (11, .lastore, 0, 0), (12, .goto 15, 27, 0), (15, .astore 5, 0, 0), (17, .iconst 1, 0, 0),
  (18, .ireturn, 0, 0), (19, .astore 5, 0, 0), (21, .iconst 2, 0, 0), (22, .ireturn, 0, 0), (23, .astore 5, 0, 0), (25, .iconst 3, 0, 0), (26, .ireturn, 0, 0), (27, .iconst 0, 0, 0), (28, .ireturn, 0, 0)], 6, 5, false, (some .int), [(0, 12, 15, 1, 5, 17), (0, 12, 19, 0, 5, 21), (0, 12, 23, 2, 5, 25)], 99)
def am_n357 : amN := (yL_develop, cL_develop, [(0, 12, 15, 19), (0, 12, 19, 13), (0, 12, 23, 40)])
def am_h357 : List (List Nat) := [[], [], [], [], [], [], [1171, 1172, 1173, 122, 1174], [], [], [], [], [], [], [], [], [], [], [], [], [], []]
def am_g357 : List (Nat × Nat) := [(1049, 1060), (973, 980), (1139, 1147)]
def am_m358 : amM := ([(0, .aload_n 3, 0, 0), (1, .iconst 0, 0, 0), (2, .aload_n 0, 0, 0), (3, .iload_n 1, 0, 0), (4, .iload_n 2, 0, 0), (5, .invokevirtual 48, 132, 0), (8, .i2l, 0, 0), (9, .lastore, 0, 0), (10, .goto 11, 21, 0), (13, .astore 4, 0, 0), (15, .iconst 1, 0, 0), (16, .ireturn, 0, 0),
  (17, .astore 4, 0, 0), (19, .iconst 2, 0, 0), (20, .ireturn, 0, 0), (21, .iconst 0, 0, 0), (22, .ireturn, 0, 0)], 5, 4, false, (some .int), [(0, 10, 13, 1, 4, 15), (0, 10, 17, 0, 4, 19)], 99)
def am_n358 : amN := (yL_quad, cL_quad, [(0, 10, 13, 19), (0, 10, 17, 13)])
def am_h358 : List (List Nat) := [[], [], [], [], [], [1180, 1181, 1182, 122, 1183], [], [], [], [], [], [], [], [], [], [], []]
def am_g358 : List (Nat × Nat) := [(1049, 1060), (973, 980)]
def am_m359 : amM := ([(0, .aload_n 3, 0, 0), (1, .iconst 0, 0, 0), (2, .aload_n 0, 0, 0), (3, .iload_n 1, 0, 0), (4, .iload_n 2, 0, 0), (5, .invokevirtual 51, 133, 0), (8, .i2l, 0, 0), (9, .lastore, 0, 0), (10, .goto 7, 17, 0), (13, .astore 4, 0, 0), (15, .iconst 1, 0, 0), (16, .ireturn, 0, 0),
  (17, .iconst 0, 0, 0), (18, .ireturn, 0, 0)], 5, 4, false, (some .int), [(0, 10, 13, 1, 4, 15)], 99)
def am_n359 : amN := (yL_opposite, cL_opposite, [(0, 10, 13, 19)])
def am_h359 : List (List Nat) := [[], [], [], [], [], [1194, 1195, 1196, 122, 1197], [], [], [], [], [], [], [], []]
def am_g359 : List (Nat × Nat) := [(1049, 1060)]
def am_m360 : amM := ([(0, .aload_n 2, 0, 0), (1, .iconst 0, 0, 0), (2, .aload_n 0, 0, 0), (3, .iload_n 1, 0, 0), (4, .invokevirtual 54, 134, 0), (7, .i2l, 0, 0), (8, .lastore, 0, 0), (9, .goto 6, 15, 0), (12, .astore_n 3, 0, 0), (13, .iconst 1, 0, 0), (14, .ireturn, 0, 0), (15, .iconst 0, 0, 0),
  (16, .ireturn, 0, 0)], 4, 3, false, (some .int), [(0, 9, 12, 1, 3, 13)], 99)
def am_n360 : amN := (yL_quadsAt, cL_quadsAt, [(0, 9, 12, 19)])
def am_h360 : List (List Nat) := [[], [], [], [], [1206, 1207, 1208, 122, 1209], [], [], [], [], [], [], [], []]
def am_g360 : List (Nat × Nat) := [(1049, 1060)]
def am_m361 : amM := ([(0, .aload_n 2, 0, 0), (1, .iconst 0, 0, 0), (2, .aload_n 0, 0, 0), (3, .iload_n 1, 0, 0), (4, .invokevirtual 57, 135, 0), (7, .i2l, 0, 0), (8, .lastore, 0, 0), (9, .goto 6, 15, 0), (12, .astore_n 3, 0, 0), (13, .iconst 1, 0, 0), (14, .ireturn, 0, 0), (15, .iconst 0, 0, 0),
  (16, .ireturn, 0, 0)], 4, 3, false, (some .int), [(0, 9, 12, 1, 3, 13)], 99)
def am_n361 : amN := (yL_quadsOf, cL_quadsOf, [(0, 9, 12, 19)])
def am_h361 : List (List Nat) := [[], [], [], [], [1217, 1218, 1219, 122, 1220], [], [], [], [], [], [], [], []]
def am_g361 : List (Nat × Nat) := [(1049, 1060)]
def am_m362 : amM := ([(0, .aload_n 2, 0, 0), (1, .iconst 0, 0, 0), (2, .aload_n 0, 0, 0), (3, .iload_n 1, 0, 0), (4, .invokevirtual 60, 136, 0), (7, .i2l, 0, 0), (8, .lastore, 0, 0), (9, .goto 6, 15, 0), (12, .astore_n 3, 0, 0), (13, .iconst 1, 0, 0), (14, .ireturn, 0, 0), (15, .iconst 0, 0, 0),
  (16, .ireturn, 0, 0)], 4, 3, false, (some .int), [(0, 9, 12, 1, 3, 13)], 99)
def am_n362 : amN := (yL_switchQuad, cL_switchQuad, [(0, 9, 12, 19)])
def am_h362 : List (List Nat) := [[], [], [], [], [1224, 1225, 1226, 122, 1227], [], [], [], [], [], [], [], []]
def am_g362 : List (Nat × Nat) := [(1049, 1060)]
def am_m363 : amM := ([(0, .aload_n 2, 0, 0), (1, .iconst 0, 0, 0), (2, .aload_n 0, 0, 0), (3, .iload_n 1, 0, 0), (4, .invokevirtual 63, 137, 0), (7, .i2l, 0, 0), (8, .lastore, 0, 0), (9, .goto 6, 15, 0), (12, .astore_n 3, 0, 0), (13, .iconst 1, 0, 0), (14, .ireturn, 0, 0), (15, .iconst 0, 0, 0),
  (16, .ireturn, 0, 0)], 4, 3, false, (some .int), [(0, 9, 12, 1, 3, 13)], 99)
def am_n363 : amN := (yL_wouldHave, cL_wouldHave, [(0, 9, 12, 19)])
def am_h363 : List (List Nat) := [[], [], [], [], [1235, 1236, 1237, 122, 1238], [], [], [], [], [], [], [], []]
def am_g363 : List (Nat × Nat) := [(1049, 1060)]
def am_m364 : amM := ([(0, .aload_n 2, 0, 0), (1, .iconst 0, 0, 0), (2, .aload_n 0, 0, 0), (3, .iload_n 1, 0, 0), (4, .invokevirtual 66, 139, 0), (7, .i2l, 0, 0), (8, .lastore, 0, 0), (9, .goto 6, 15, 0), (12, .astore_n 3, 0, 0), (13, .iconst 1, 0, 0), (14, .ireturn, 0, 0), (15, .iconst 0, 0, 0),
  (16, .ireturn, 0, 0)], 4, 3, false, (some .int), [(0, 9, 12, 0, 3, 13)], 99)
def am_n364 : amN := (yL_descend, cL_descend, [(0, 9, 12, 13)])
def am_h364 : List (List Nat) := [[], [], [], [], [1246, 1247, 1248, 122, 1249], [], [], [], [], [], [], [], []]
def am_g364 : List (Nat × Nat) := [(973, 980)]
def am_m365 : amM := ([(0, .aload_n 3, 0, 0), (1, .iconst 0, 0, 0), (2, .aload_n 0, 0, 0), (3, .iload_n 1, 0, 0), (4, .iload_n 2, 0, 0), (5, .invokevirtual 69, 140, 0), (8, .i2l, 0, 0), (9, .lastore, 0, 0), (10, .goto 11, 21, 0), (13, .astore 4, 0, 0), (15, .iconst 1, 0, 0), (16, .ireturn, 0, 0),
  (17, .astore 4, 0, 0), (19, .iconst 2, 0, 0), (20, .ireturn, 0, 0), (21, .iconst 0, 0, 0), (22, .ireturn, 0, 0)], 5, 4, false, (some .int), [(0, 10, 13, 1, 4, 15), (0, 10, 17, 0, 4, 19)], 99)
def am_n365 : amN := (yL_cycles, cL_cycles, [(0, 10, 13, 19), (0, 10, 17, 13)])
def am_h365 : List (List Nat) := [[], [], [], [], [], [1255, 1256, 1257, 122, 1258], [], [], [], [], [], [], [], [], [], [], []]
def am_g365 : List (Nat × Nat) := [(1049, 1060), (973, 980)]
def am_m366 : amM := ([(0, .aload 4, 0, 0), (2, .iconst 0, 0, 0), (3, .aload_n 0, 0, 0), (4, .iload_n 1, 0, 0), (5, .iload_n 2, 0, 0), (6, .iload_n 3, 0, 0), (7, .invokevirtual 72, 141, 0), (10, .i2l, 0, 0), (11, .lastore, 0, 0), (12, .goto 15, 27, 0), (15, .astore 5, 0, 0), (17, .iconst 1, 0, 0),
  (18, .ireturn, 0, 0), (19, .astore 5, 0, 0), (21, .iconst 2, 0, 0), (22, .ireturn, 0, 0), (23, .astore 5, 0, 0), (25, .iconst 3, 0, 0), (26, .ireturn, 0, 0), (27, .iconst 0, 0, 0), (28, .ireturn, 0, 0)], 6, 5, false, (some .int), [(0, 12, 15, 1, 5, 17), (0, 12, 19, 0, 5, 21), (0, 12, 23, 3, 5, 25)], 99)
def am_n366 : amN := (yL_cycleLength, cL_cycleLength, [(0, 12, 15, 19), (0, 12, 19, 13), (0, 12, 23, 75)])
def am_h366 : List (List Nat) := [[], [], [], [], [], [], [1263, 1264, 1265, 122, 1266], [], [], [], [], [], [], [], [], [], [], [], [], [], []]
def am_g366 : List (Nat × Nat) := [(1049, 1060), (973, 980), (1262, 1273)]
def am_m367 : amM := ([(0, .aload 5, 0, 0), (2, .iconst 0, 0, 0), (3, .aload_n 0, 0, 0), (4, .iload_n 1, 0, 0), (5, .iload_n 2, 0, 0), (6, .iload_n 3, 0, 0), (7, .iload 4, 0, 0), (9, .invokevirtual 77, 142, 0), (12, .i2l, 0, 0), (13, .lastore, 0, 0), (14, .goto 15, 29, 0), (17, .astore 6, 0, 0),
  (19, .iconst 1, 0, 0), (20, .ireturn, 0, 0), (21, .astore 6, 0, 0), (23, .iconst 2, 0, 0), (24, .ireturn, 0, 0), (25, .astore 6, 0, 0), (27, .iconst 3, 0, 0), (28, .ireturn, 0, 0), (29, .iconst 0, 0, 0), (30, .ireturn, 0, 0)], 7, 6, false, (some .int), [(0, 14, 17, 1, 6, 19), (0, 14, 21, 0, 6, 23), (0, 14, 25, 3, 6, 27)], 99)
def am_n367 : amN := (yL_cyclePoint, cL_cyclePoint, [(0, 14, 17, 19), (0, 14, 21, 13), (0, 14, 25, 75)])
def am_h367 : List (List Nat) := [[], [], [], [], [], [], [], [1290, 1291, 1292, 122, 1293], [], [], [], [], [], [], [], [], [], [], [], [], [], []]
def am_g367 : List (Nat × Nat) := [(1049, 1060), (973, 980), (1262, 1273)]
def am_m368 : amM := ([(0, .aload 4, 0, 0), (2, .iconst 0, 0, 0), (3, .aload_n 0, 0, 0), (4, .iload_n 1, 0, 0), (5, .iload_n 2, 0, 0), (6, .iload_n 3, 0, 0), (7, .invokevirtual 81, 143, 0), (10, .i2l, 0, 0), (11, .lastore, 0, 0), (12, .goto 15, 27, 0), (15, .astore 5, 0, 0), (17, .iconst 1, 0, 0),
  (18, .ireturn, 0, 0), (19, .astore 5, 0, 0), (21, .iconst 2, 0, 0), (22, .ireturn, 0, 0), (23, .astore 5, 0, 0), (25, .iconst 3, 0, 0), (26, .ireturn, 0, 0), (27, .iconst 0, 0, 0), (28, .ireturn, 0, 0)], 6, 5, false, (some .int), [(0, 12, 15, 1, 5, 17), (0, 12, 19, 0, 5, 21), (0, 12, 23, 3, 5, 25)], 99)
def am_n368 : amN := (yL_switchCycle, cL_switchCycle, [(0, 12, 15, 19), (0, 12, 19, 13), (0, 12, 23, 75)])
def am_h368 : List (List Nat) := [[], [], [], [], [], [], [1298, 1299, 1300, 122, 1301], [], [], [], [], [], [], [], [], [], [], [], [], [], []]
def am_g368 : List (Nat × Nat) := [(1049, 1060), (973, 980), (1262, 1273)]
def am_m369 : amM := ([(0, .aload 4, 0, 0), (2, .iconst 0, 0, 0), (3, .aload_n 0, 0, 0), (4, .iload_n 1, 0, 0), (5, .iload_n 2, 0, 0), (6, .iload_n 3, 0, 0), (7, .invokevirtual 84, 144, 0), (10, .i2l, 0, 0), (11, .lastore, 0, 0), (12, .goto 15, 27, 0), (15, .astore 5, 0, 0), (17, .iconst 1, 0, 0),
  (18, .ireturn, 0, 0), (19, .astore 5, 0, 0), (21, .iconst 2, 0, 0), (22, .ireturn, 0, 0), (23, .astore 5, 0, 0), (25, .iconst 3, 0, 0), (26, .ireturn, 0, 0), (27, .iconst 0, 0, 0), (28, .ireturn, 0, 0)], 6, 5, false, (some .int), [(0, 12, 15, 1, 5, 17), (0, 12, 19, 0, 5, 21), (0, 12, 23, 3, 5, 25)], 99)
def am_n369 : amN := (yL_wouldHaveBy, cL_wouldHaveBy, [(0, 12, 15, 19), (0, 12, 19, 13), (0, 12, 23, 75)])
def am_h369 : List (List Nat) := [[], [], [], [], [], [], [1313, 1314, 1315, 122, 1316], [], [], [], [], [], [], [], [], [], [], [], [], [], []]
def am_g369 : List (Nat × Nat) := [(1049, 1060), (973, 980), (1262, 1273)]
def am_m370 : amM := ([(0, .aload_n 3, 0, 0), (1, .iconst 0, 0, 0), (2, .aload_n 0, 0, 0), (3, .iload_n 1, 0, 0), (4, .iload_n 2, 0, 0), (5, .invokevirtual 87, 147, 0), (8, .lastore, 0, 0), (9, .goto 7, 16, 0), (12, .astore 4, 0, 0), (14, .iconst 1, 0, 0), (15, .ireturn, 0, 0), (16, .iconst 0, 0, 0),
  (17, .ireturn, 0, 0)], 5, 4, false, (some .int), [(0, 9, 12, 3, 4, 14)], 99)
def am_n370 : amN := (yL_trade, cL_trade, [(0, 9, 12, 75)])
def am_h370 : List (List Nat) := [[], [], [], [], [], [1320, 1321, 1322, 122, 1323], [], [], [], [], [], [], []]
def am_g370 : List (Nat × Nat) := [(1262, 1273)]
def am_m371 : amM := ([(0, .aload 4, 0, 0), (2, .iconst 0, 0, 0), (3, .aload_n 0, 0, 0), (4, .iload_n 1, 0, 0), (5, .iload_n 2, 0, 0), (6, .iload_n 3, 0, 0), (7, .invokevirtual 91, 150, 0), (10, .i2l, 0, 0), (11, .lastore, 0, 0), (12, .goto 15, 27, 0), (15, .astore 5, 0, 0), (17, .iconst 1, 0, 0),
  (18, .ireturn, 0, 0), (19, .astore 5, 0, 0), (21, .iconst 2, 0, 0), (22, .ireturn, 0, 0), (23, .astore 5, 0, 0), (25, .iconst 3, 0, 0), (26, .ireturn, 0, 0), (27, .iconst 0, 0, 0), (28, .ireturn, 0, 0)], 6, 5, false, (some .int), [(0, 12, 15, 1, 5, 17), (0, 12, 19, 0, 5, 21), (0, 12, 23, 2, 5, 25)], 99)
def am_n371 : amN := (yL_train, cL_train, [(0, 12, 15, 19), (0, 12, 19, 13), (0, 12, 23, 40)])
def am_h371 : List (List Nat) := [[], [], [], [], [], [], [1328, 1329, 1330, 122, 1331], [], [], [], [], [], [], [], [], [], [], [], [], [], []]
def am_g371 : List (Nat × Nat) := [(1049, 1060), (973, 980), (1139, 1147)]
def am_m372 : amM := ([(0, .aload 4, 0, 0), (2, .iconst 0, 0, 0), (3, .aload_n 0, 0, 0), (4, .iload_n 1, 0, 0), (5, .iload_n 2, 0, 0), (6, .iload_n 3, 0, 0), (7, .invokevirtual 94, 151, 0), (10, .i2l, 0, 0), (11, .lastore, 0, 0), (12, .goto 15, 27, 0), (15, .astore 5, 0, 0), (17, .iconst 1, 0, 0),
  (18, .ireturn, 0, 0), (19, .astore 5, 0, 0), (21, .iconst 2, 0, 0), (22, .ireturn, 0, 0), (23, .astore 5, 0, 0), (25, .iconst 3, 0, 0), (26, .ireturn, 0, 0), (27, .iconst 0, 0, 0), (28, .ireturn, 0, 0)], 6, 5, false, (some .int), [(0, 12, 15, 1, 5, 17), (0, 12, 19, 0, 5, 21), (0, 12, 23, 2, 5, 25)], 99)
def am_n372 : amN := (yL_trainsTo, cL_trainsTo, [(0, 12, 15, 19), (0, 12, 19, 13), (0, 12, 23, 40)])
def am_h372 : List (List Nat) := [[], [], [], [], [], [], [1352, 1353, 1354, 122, 1355], [], [], [], [], [], [], [], [], [], [], [], [], [], []]
def am_g372 : List (Nat × Nat) := [(1049, 1060), (973, 980), (1139, 1147)]
def am_m373 : amM := ([(0, .aload 4, 0, 0), (2, .iconst 0, 0, 0), (3, .aload_n 0, 0, 0), (4, .iload_n 1, 0, 0), (5, .iload_n 2, 0, 0), (6, .iload_n 3, 0, 0), (7, .invokevirtual 97, 152, 0), (10, .i2l, 0, 0), (11, .lastore, 0, 0), (12, .goto 15, 27, 0), (15, .astore 5, 0, 0), (17, .iconst 1, 0, 0),
  (18, .ireturn, 0, 0), (19, .astore 5, 0, 0), (21, .iconst 2, 0, 0), (22, .ireturn, 0, 0), (23, .astore 5, 0, 0), (25, .iconst 3, 0, 0), (26, .ireturn, 0, 0), (27, .iconst 0, 0, 0), (28, .ireturn, 0, 0)], 6, 5, false, (some .int), [(0, 12, 15, 1, 5, 17), (0, 12, 19, 0, 5, 21), (0, 12, 23, 2, 5, 25)], 99)
def am_n373 : amN := (yL_tail, cL_tail, [(0, 12, 15, 19), (0, 12, 19, 13), (0, 12, 23, 40)])
def am_h373 : List (List Nat) := [[], [], [], [], [], [], [1378, 1379, 1380, 122, 1381], [], [], [], [], [], [], [], [], [], [], [], [], [], []]
def am_g373 : List (Nat × Nat) := [(1049, 1060), (973, 980), (1139, 1147)]
def am_m374 : amM := ([(0, .aload 4, 0, 0), (2, .iconst 0, 0, 0), (3, .aload_n 0, 0, 0), (4, .iload_n 1, 0, 0), (5, .iload_n 2, 0, 0), (6, .iload_n 3, 0, 0), (7, .invokevirtual 100, 153, 0), (10, .i2l, 0, 0), (11, .lastore, 0, 0), (12, .goto 15, 27, 0), (15, .astore 5, 0, 0), (17, .iconst 1, 0, 0),
  (18, .ireturn, 0, 0), (19, .astore 5, 0, 0), (21, .iconst 2, 0, 0), (22, .ireturn, 0, 0), (23, .astore 5, 0, 0), (25, .iconst 3, 0, 0), (26, .ireturn, 0, 0), (27, .iconst 0, 0, 0), (28, .ireturn, 0, 0)], 6, 5, false, (some .int), [(0, 12, 15, 1, 5, 17), (0, 12, 19, 0, 5, 21), (0, 12, 23, 2, 5, 25)], 99)
def am_n374 : amN := (yL_roundOf, cL_roundOf, [(0, 12, 15, 19), (0, 12, 19, 13), (0, 12, 23, 40)])
def am_h374 : List (List Nat) := [[], [], [], [], [], [], [1405, 1406, 1407, 122, 1408], [], [], [], [], [], [], [], [], [], [], [], [], [], []]
def am_g374 : List (Nat × Nat) := [(1049, 1060), (973, 980), (1139, 1147)]
def am_m375 : amM := ([(0, .aload_n 2, 0, 0), (1, .iconst 0, 0, 0), (2, .aload_n 0, 0, 0), (3, .iload_n 1, 0, 0), (4, .invokevirtual 103, 154, 0), (7, .i2l, 0, 0), (8, .lastore, 0, 0), (9, .goto 6, 15, 0), (12, .astore_n 3, 0, 0), (13, .iconst 1, 0, 0), (14, .ireturn, 0, 0), (15, .iconst 0, 0, 0),
  (16, .ireturn, 0, 0)], 4, 3, false, (some .int), [(0, 9, 12, 2, 3, 13)], 99)
def am_n375 : amN := (yL_trainProfile, cL_trainProfile, [(0, 9, 12, 40)])
def am_h375 : List (List Nat) := [[], [], [], [], [1413, 1414, 1415, 122, 1416], [], [], [], [], [], [], [], []]
def am_g375 : List (Nat × Nat) := [(1139, 1147)]
def am_m376 : amM := ([(0, .aload_n 1, 0, 0), (1, .iconst 0, 0, 0), (2, .aload_n 0, 0, 0), (3, .invokevirtual 106, 155, 0), (6, .i2l, 0, 0), (7, .lastore, 0, 0), (8, .goto 6, 14, 0), (11, .astore_n 2, 0, 0), (12, .iconst 1, 0, 0), (13, .ireturn, 0, 0), (14, .iconst 0, 0, 0), (15, .ireturn, 0, 0)], 3, 2, false, (some .int), [(0, 8, 11, 2, 2, 12)], 99)
def am_n376 : amN := (yL_rounds, cL_rounds, [(0, 8, 11, 40)])
def am_h376 : List (List Nat) := [[], [], [], [1425, 1426, 1427, 122, 1428], [], [], [], [], [], [], [], []]
def am_g376 : List (Nat × Nat) := [(1139, 1147)]
def am_m377 : amM := ([(0, .aload_n 2, 0, 0), (1, .iconst 0, 0, 0), (2, .aload_n 0, 0, 0), (3, .iload_n 1, 0, 0), (4, .invokevirtual 110, 162, 0), (7, .i2l, 0, 0), (8, .lastore, 0, 0), (9, .goto 6, 15, 0), (12, .astore_n 3, 0, 0), (13, .iconst 1, 0, 0), (14, .ireturn, 0, 0), (15, .iconst 0, 0, 0),
  (16, .ireturn, 0, 0)], 4, 3, false, (some .int), [(0, 9, 12, 0, 3, 13)], 99)
def am_n377 : amN := (yL_closure, cL_closure, [(0, 9, 12, 13)])
def am_h377 : List (List Nat) := [[], [], [], [], [1440, 1441, 1442, 122, 1443], [], [], [], [], [], [], [], []]
def am_g377 : List (Nat × Nat) := [(973, 980)]
def am_m378 : amM := ([(0, .aload_n 2, 0, 0), (1, .iconst 0, 0, 0), (2, .aload_n 0, 0, 0), (3, .iload_n 1, 0, 0), (4, .invokevirtual 113, 165, 0), (7, .i2l, 0, 0), (8, .lastore, 0, 0), (9, .goto 6, 15, 0), (12, .astore_n 3, 0, 0), (13, .iconst 1, 0, 0), (14, .ireturn, 0, 0), (15, .iconst 0, 0, 0),
  (16, .ireturn, 0, 0)], 4, 3, false, (some .int), [(0, 9, 12, 1, 3, 13)], 99)
def am_n378 : amN := (yL_apart, cL_apart, [(0, 9, 12, 19)])
def am_h378 : List (List Nat) := [[], [], [], [], [1453, 1454, 1455, 122, 1456], [], [], [], [], [], [], [], []]
def am_g378 : List (Nat × Nat) := [(1049, 1060)]
def am_m379 : amM := ([(0, .aload_n 3, 0, 0), (1, .iconst 0, 0, 0), (2, .aload_n 0, 0, 0), (3, .iload_n 1, 0, 0), (4, .iload_n 2, 0, 0), (5, .invokevirtual 116, 167, 0), (8, .i2l, 0, 0), (9, .lastore, 0, 0), (10, .goto 11, 21, 0), (13, .astore 4, 0, 0), (15, .iconst 1, 0, 0), (16, .ireturn, 0, 0),
  (17, .astore 4, 0, 0), (19, .iconst 2, 0, 0), (20, .ireturn, 0, 0), (21, .iconst 0, 0, 0), (22, .ireturn, 0, 0)], 5, 4, false, (some .int), [(0, 10, 13, 1, 4, 15), (0, 10, 17, 0, 4, 19)], 99)
def am_n379 : amN := (yL_swap, cL_swap, [(0, 10, 13, 19), (0, 10, 17, 13)])
def am_h379 : List (List Nat) := [[], [], [], [], [], [1460, 1461, 1462, 122, 1463], [], [], [], [], [], [], [], [], [], [], []]
def am_g379 : List (Nat × Nat) := [(1049, 1060), (973, 980)]
def am_m380 : amM := ([(0, .aload_n 2, 0, 0), (1, .iconst 0, 0, 0), (2, .aload_n 0, 0, 0), (3, .iload_n 1, 0, 0), (4, .invokevirtual 119, 168, 0), (7, .i2l, 0, 0), (8, .lastore, 0, 0), (9, .goto 6, 15, 0), (12, .astore_n 3, 0, 0), (13, .iconst 1, 0, 0), (14, .ireturn, 0, 0), (15, .iconst 0, 0, 0),
  (16, .ireturn, 0, 0)], 4, 3, false, (some .int), [(0, 9, 12, 1, 3, 13)], 99)
def am_n380 : amN := (yL_clear, cL_clear, [(0, 9, 12, 19)])
def am_h380 : List (List Nat) := [[], [], [], [], [1471, 1472, 1473, 122, 1474], [], [], [], [], [], [], [], []]
def am_g380 : List (Nat × Nat) := [(1049, 1060)]
def am_m381 : amM := ([(0, .aload 4, 0, 0), (2, .iconst 0, 0, 0), (3, .aload_n 0, 0, 0), (4, .iload_n 1, 0, 0), (5, .iload_n 2, 0, 0), (6, .iload_n 3, 0, 0), (7, .invokevirtual 122, 169, 0), (10, .i2l, 0, 0), (11, .lastore, 0, 0), (12, .goto 11, 23, 0), (15, .astore 5, 0, 0), (17, .iconst 1, 0, 0),
  (18, .ireturn, 0, 0), (19, .astore 5, 0, 0), (21, .iconst 2, 0, 0), (22, .ireturn, 0, 0), (23, .iconst 0, 0, 0), (24, .ireturn, 0, 0)], 6, 5, false, (some .int), [(0, 12, 15, 1, 5, 17), (0, 12, 19, 0, 5, 21)], 99)
def am_n381 : amN := (yL_inTheWay, cL_inTheWay, [(0, 12, 15, 19), (0, 12, 19, 13)])
def am_h381 : List (List Nat) := [[], [], [], [], [], [], [1483, 1484, 1485, 122, 1486], [], [], [], [], [], [], [], [], [], [], []]
def am_g381 : List (Nat × Nat) := [(1049, 1060), (973, 980)]
def am_m382 : amM := ([(0, .aload 4, 0, 0), (2, .iconst 0, 0, 0), (3, .aload_n 0, 0, 0), (4, .iload_n 1, 0, 0), (5, .iload_n 2, 0, 0), (6, .iload_n 3, 0, 0), (7, .invokevirtual 125, 170, 0), (10, .i2l, 0, 0), (11, .lastore, 0, 0), (12, .goto 15, 27, 0), (15, .astore 5, 0, 0), (17, .iconst 1, 0, 0),
  (18, .ireturn, 0, 0), (19, .astore 5, 0, 0), (21, .iconst 2, 0, 0), (22, .ireturn, 0, 0), (23, .astore 5, 0, 0), (25, .iconst 3, 0, 0), (26, .ireturn, 0, 0), (27, .iconst 0, 0, 0), (28, .ireturn, 0, 0)], 6, 5, false, (some .int), [(0, 12, 15, 1, 5, 17), (0, 12, 19, 0, 5, 21), (0, 12, 23, 2, 5, 25)], 99)
def am_n382 : amN := (yL_force, cL_force, [(0, 12, 15, 19), (0, 12, 19, 13), (0, 12, 23, 40)])
def am_h382 : List (List Nat) := [[], [], [], [], [], [], [1490, 1491, 1492, 122, 1493], [], [], [], [], [], [], [], [], [], [], [], [], [], []]
def am_g382 : List (Nat × Nat) := [(1049, 1060), (973, 980), (1139, 1147)]
def am_m383 : amM := ([(0, .aload_n 2, 0, 0), (1, .iconst 0, 0, 0), (2, .aload_n 0, 0, 0), (3, .iload_n 1, 0, 0), (4, .invokevirtual 128, 171, 0), (7, .i2l, 0, 0), (8, .lastore, 0, 0), (9, .goto 6, 15, 0), (12, .astore_n 3, 0, 0), (13, .iconst 1, 0, 0), (14, .ireturn, 0, 0), (15, .iconst 0, 0, 0),
  (16, .ireturn, 0, 0)], 4, 3, false, (some .int), [(0, 9, 12, 1, 3, 13)], 99)
def am_n383 : amN := (yL_printAt, cL_printAt, [(0, 9, 12, 19)])
def am_h383 : List (List Nat) := [[], [], [], [], [1498, 1499, 1500, 122, 1501], [], [], [], [], [], [], [], []]
def am_g383 : List (Nat × Nat) := [(1049, 1060)]
def am_m384 : amM := ([(0, .aload_n 1, 0, 0), (1, .iconst 0, 0, 0), (2, .aload_n 0, 0, 0), (3, .invokevirtual 131, 175, 0), (6, .i2l, 0, 0), (7, .lastore, 0, 0), (8, .goto 6, 14, 0), (11, .astore_n 2, 0, 0), (12, .iconst 1, 0, 0), (13, .ireturn, 0, 0), (14, .iconst 0, 0, 0), (15, .ireturn, 0, 0)], 3, 2, false, (some .int), [(0, 8, 11, 2, 2, 12)], 99)
def am_n384 : amN := (yL_restoreState, cL_restoreState, [(0, 8, 11, 40)])
def am_h384 : List (List Nat) := [[], [], [], [1513, 1514, 1515, 122, 1516], [], [], [], [], [], [], [], []]
def am_g384 : List (Nat × Nat) := [(1139, 1147)]
def am_mL_0 : amP := [(0, .new 8, 10, 0), (3, .dup, 0, 0), (4, .invokespecial 134, 112, 2), (7, .astore_n 1, 0, 0), (8, .new 135, 11, 0), (11, .dup, 0, 0), (12, .invokespecial 137, 194, 2), (15, .astore_n 2, 0, 0), (16, .iconst 1, 0, 0), (17, .newarray .long, 0, 0), (19, .astore_n 3, 0, 0), (20, .iconst 0, 0, 0),
  (21, .istore 4, 0, 0), (23, .iload 4, 0, 0), (25, .aload_n 0, 0, 0), (26, .arraylength, 0, 0), (27, .bipush 6, 0, 0), (29, .isub, 0, 0), (30, .if_icmp .gt 3319, 3349, 0), (33, .aload_n 0, 0, 0), (34, .iload 4, 0, 0), (36, .iaload, 0, 0), (37, .bipush 63, 0, 0), (39, .iand, 0, 0),
  (40, .tableswitch 3303 0 62 #[268, 341, 366, 379, 392, 405, 461, 474, 542, 622, 690, 746, 802, 882, 962, 1018, 1098, 1111, 1124, 1137, 1205, 1273, 1329, 1385, 1441, 1497, 1538, 1594, 1662, 1742, 1834, 1914, 1994, 2019, 2044, 2111, 2124, 2137, 2217, 2297, 2377, 2457, 2513, 2557, 2582, 2595, 2608, 2633, 2674, 2717, 2773, 2786, 2799, 2855, 2868, 2936, 2992, 3072, 3152, 3208, 3233, 3246, 3259], 0, 0), (308, .aload_n 1, 0, 0), (309, .aload_n 0, 0, 0), (310, .iload 4, 0, 0), (312, .iconst 1, 0, 0), (313, .iadd, 0, 0), (314, .iaload, 0, 0), (315, .aload_n 0, 0, 0), (316, .iload 4, 0, 0), (318, .iconst 2, 0, 0), (319, .iadd, 0, 0), (320, .iaload, 0, 0),
  (321, .aload_n 0, 0, 0), (322, .iload 4, 0, 0), (324, .iconst 3, 0, 0), (325, .iadd, 0, 0), (326, .iaload, 0, 0), (327, .aload_n 0, 0, 0), (328, .iload 4, 0, 0), (330, .iconst 4, 0, 0), (331, .iadd, 0, 0), (332, .iaload, 0, 0), (333, .aload_n 0, 0, 0), (334, .iload 4, 0, 0),
  (336, .iconst 5, 0, 0), (337, .iadd, 0, 0), (338, .iaload, 0, 0), (339, .invokevirtual 138, 113, 0), (342, .aload_n 2, 0, 0), (343, .aload_n 0, 0, 0), (344, .iload 4, 0, 0), (346, .iconst 1, 0, 0), (347, .iadd, 0, 0), (348, .iaload, 0, 0), (349, .aload_n 0, 0, 0), (350, .iload 4, 0, 0),
  (352, .iconst 2, 0, 0), (353, .iadd, 0, 0), (354, .iaload, 0, 0), (355, .aload_n 0, 0, 0), (356, .iload 4, 0, 0), (358, .iconst 3, 0, 0), (359, .iadd, 0, 0), (360, .iaload, 0, 0), (361, .aload_n 0, 0, 0), (362, .iload 4, 0, 0), (364, .iconst 4, 0, 0), (365, .iadd, 0, 0),
  (366, .iaload, 0, 0), (367, .aload_n 0, 0, 0), (368, .iload 4, 0, 0), (370, .iconst 5, 0, 0), (371, .iadd, 0, 0), (372, .iaload, 0, 0), (373, .invokevirtual 142, 239, 0), (376, .if_icmp .eq 2967, 3343, 0), (379, .iconst 0, 0, 0), (380, .ireturn, 0, 0), (381, .aload_n 1, 0, 0), (382, .aload_n 0, 0, 0),
  (383, .iload 4, 0, 0), (385, .iconst 1, 0, 0), (386, .iadd, 0, 0), (387, .iaload, 0, 0), (388, .invokevirtual 143, 114, 0), (391, .aload_n 2, 0, 0), (392, .aload_n 0, 0, 0), (393, .iload 4, 0, 0), (395, .iconst 1, 0, 0), (396, .iadd, 0, 0), (397, .iaload, 0, 0), (398, .invokevirtual 147, 240, 0),
  (401, .if_icmp .eq 2942, 3343, 0), (404, .iconst 0, 0, 0), (405, .ireturn, 0, 0), (406, .aload_n 1, 0, 0), (407, .invokevirtual 148, 115, 0), (410, .aload_n 2, 0, 0), (411, .invokevirtual 151, 251, 0), (414, .if_icmp .eq 2929, 3343, 0), (417, .iconst 0, 0, 0), (418, .ireturn, 0, 0), (419, .aload_n 1, 0, 0), (420, .invokevirtual 152, 116, 0),
  (423, .aload_n 2, 0, 0), (424, .invokevirtual 155, 252, 0), (427, .if_icmp .eq 2916, 3343, 0), (430, .iconst 0, 0, 0), (431, .ireturn, 0, 0), (432, .aload_n 1, 0, 0), (433, .invokevirtual 156, 117, 0), (436, .aload_n 2, 0, 0), (437, .invokevirtual 159, 253, 0), (440, .if_icmp .eq 2903, 3343, 0), (443, .iconst 0, 0, 0), (444, .ireturn, 0, 0),
  (445, .aload_n 1, 0, 0), (446, .aload_n 0, 0, 0), (447, .iload 4, 0, 0), (449, .iconst 1, 0, 0), (450, .iadd, 0, 0), (451, .iaload, 0, 0), (452, .aload_n 3, 0, 0), (453, .invokestatic 160, 348, 4), (456, .istore 5, 0, 0), (458, .aload_n 2, 0, 0), (459, .aload_n 0, 0, 0), (460, .iload 4, 0, 0),
  (462, .iconst 1, 0, 0), (463, .iadd, 0, 0), (464, .iaload, 0, 0), (465, .invokevirtual 165, 260, 0), (468, .istore 6, 0, 0), (470, .aload_n 2, 0, 0), (471, .invokevirtual 166, 195, 0), (474, .iload 5, 0, 0), (476, .if_icmp .eq 5, 481, 0), (479, .iconst 0, 0, 0), (480, .ireturn, 0, 0), (481, .iload 5, 0, 0),
  (483, .ifCond .ne 15, 498, 0), (486, .aload_n 3, 0, 0), (487, .iconst 0, 0, 0), (488, .laload, 0, 0), (489, .iload 6, 0, 0), (491, .i2l, 0, 0), (492, .lcmp, 0, 0), (493, .ifCond .eq 5, 498, 0), (496, .iconst 0, 0, 0), (497, .ireturn, 0, 0), (498, .goto 2845, 3343, 0), (501, .aload_n 1, 0, 0),
  (502, .invokevirtual 169, 119, 0), (505, .aload_n 2, 0, 0), (506, .invokevirtual 173, 263, 0), (509, .if_icmp .eq 2834, 3343, 0), (512, .iconst 0, 0, 0), (513, .ireturn, 0, 0), (514, .aload_n 1, 0, 0), (515, .aload_n 0, 0, 0), (516, .iload 4, 0, 0), (518, .iconst 1, 0, 0), (519, .iadd, 0, 0), (520, .iaload, 0, 0),
  (521, .aload_n 0, 0, 0), (522, .iload 4, 0, 0), (524, .iconst 2, 0, 0), (525, .iadd, 0, 0), (526, .iaload, 0, 0), (527, .aload_n 3, 0, 0), (528, .invokestatic 174, 349, 4), (531, .istore 5, 0, 0), (533, .aload_n 2, 0, 0), (534, .aload_n 0, 0, 0), (535, .iload 4, 0, 0), (537, .iconst 1, 0, 0),
  (538, .iadd, 0, 0), (539, .iaload, 0, 0), (540, .aload_n 0, 0, 0), (541, .iload 4, 0, 0), (543, .iconst 2, 0, 0), (544, .iadd, 0, 0), (545, .iaload, 0, 0), (546, .invokevirtual 177, 264, 0), (549, .istore 6, 0, 0), (551, .aload_n 2, 0, 0), (552, .invokevirtual 166, 195, 0), (555, .iload 5, 0, 0),
  (557, .if_icmp .eq 5, 562, 0), (560, .iconst 0, 0, 0), (561, .ireturn, 0, 0), (562, .iload 5, 0, 0), (564, .ifCond .ne 15, 579, 0), (567, .aload_n 3, 0, 0), (568, .iconst 0, 0, 0), (569, .laload, 0, 0), (570, .iload 6, 0, 0), (572, .i2l, 0, 0), (573, .lcmp, 0, 0), (574, .ifCond .eq 5, 579, 0),
  (577, .iconst 0, 0, 0), (578, .ireturn, 0, 0), (579, .goto 2764, 3343, 0), (582, .aload_n 1, 0, 0), (583, .aload_n 0, 0, 0), (584, .iload 4, 0, 0), (586, .iconst 1, 0, 0), (587, .iadd, 0, 0), (588, .iaload, 0, 0), (589, .aload_n 0, 0, 0), (590, .iload 4, 0, 0), (592, .iconst 2, 0, 0),
  (593, .iadd, 0, 0), (594, .iaload, 0, 0), (595, .aload_n 0, 0, 0), (596, .iload 4, 0, 0), (598, .iconst 3, 0, 0), (599, .iadd, 0, 0), (600, .iaload, 0, 0), (601, .aload_n 3, 0, 0), (602, .invokestatic 178, 350, 4), (605, .istore 5, 0, 0), (607, .aload_n 2, 0, 0), (608, .aload_n 0, 0, 0),
  (609, .iload 4, 0, 0), (611, .iconst 1, 0, 0), (612, .iadd, 0, 0), (613, .iaload, 0, 0), (614, .aload_n 0, 0, 0), (615, .iload 4, 0, 0), (617, .iconst 2, 0, 0), (618, .iadd, 0, 0), (619, .iaload, 0, 0), (620, .aload_n 0, 0, 0), (621, .iload 4, 0, 0), (623, .iconst 3, 0, 0),
  (624, .iadd, 0, 0), (625, .iaload, 0, 0), (626, .invokevirtual 181, 265, 0), (629, .istore 6, 0, 0), (631, .aload_n 2, 0, 0), (632, .invokevirtual 166, 195, 0), (635, .iload 5, 0, 0), (637, .if_icmp .eq 5, 642, 0), (640, .iconst 0, 0, 0), (641, .ireturn, 0, 0)]
def am_hL_0 : List (List Nat) := [[150, 151, 122], [], [152, 153, 122, 154], [], [1522, 1523, 134], [], [1524, 1525, 134, 1526], [], [], [306], [], [], [], [], [], [], [], [], [], [], [], [], [], [], [], [], [], [], [], [], [], [], [], [], [], [], [], [], [], [], [], [], [], [], [], [], [], [], [], [], [], [439, 440, 441, 122, 442], [], [], [], [], [], [], [], [], [], [], [], [], [], [], [], [], [], [], [], [], [], [], [], [], [], [], [1636, 1637, 1638, 134, 1639], [], [], [], [], [], [], [], [], [], [451, 452, 453, 122, 454], [], [], [], [], [], [], [1644, 1645, 1646, 134, 1647], [], [], [], [], [455, 456, 457, 122, 458], [], [1651, 1652, 1653, 134, 1654], [], [], [], [], [658, 659, 660, 122, 661], [], [1747, 1748, 1749, 134, 1750], [], [], [], [], [662, 663, 664, 122, 665], [], [1751, 1752, 1753, 134, 1754], [], [], [], [], [], [], [], [], [], [], [970, 971, 121, 972], [], [], [], [], [], [], [], [1755, 1756, 1757, 134, 1758], [], [], [1632, 1633, 1634, 134, 1635], [], [], [], [], [], [], [], [], [], [], [], [], [], [], [], [], [], [666, 667, 668, 122, 669], [], [1796, 1797, 1798, 134, 1799], [], [], [], [], [], [], [], [], [], [], [], [], [], [], [], [1046, 1047, 121, 1048], [], [], [], [], [], [], [], [], [], [], [], [], [1804, 1805, 1806, 134, 1807], [], [], [1632, 1633, 1634, 134, 1635], [], [], [], [], [], [], [], [], [], [], [], [], [], [], [], [], [], [], [], [], [], [], [], [], [], [], [], [], [], [], [], [], [], [1076, 1077, 121, 1078], [], [], [], [], [], [], [], [], [], [], [], [], [], [], [], [], [], [1812, 1813, 1814, 134, 1815], [], [], [1632, 1633, 1634, 134, 1635], [], [], [], []]
def am_mL_1 : amP := [(642, .iload 5, 0, 0), (644, .ifCond .ne 15, 659, 0), (647, .aload_n 3, 0, 0), (648, .iconst 0, 0, 0), (649, .laload, 0, 0), (650, .iload 6, 0, 0), (652, .i2l, 0, 0), (653, .lcmp, 0, 0), (654, .ifCond .eq 5, 659, 0), (657, .iconst 0, 0, 0), (658, .ireturn, 0, 0), (659, .goto 2684, 3343, 0),
  (662, .aload_n 1, 0, 0), (663, .aload_n 0, 0, 0), (664, .iload 4, 0, 0), (666, .iconst 1, 0, 0), (667, .iadd, 0, 0), (668, .iaload, 0, 0), (669, .aload_n 0, 0, 0), (670, .iload 4, 0, 0), (672, .iconst 2, 0, 0), (673, .iadd, 0, 0), (674, .iaload, 0, 0), (675, .aload_n 3, 0, 0),
  (676, .invokestatic 182, 351, 4), (679, .istore 5, 0, 0), (681, .aload_n 2, 0, 0), (682, .aload_n 0, 0, 0), (683, .iload 4, 0, 0), (685, .iconst 1, 0, 0), (686, .iadd, 0, 0), (687, .iaload, 0, 0), (688, .aload_n 0, 0, 0), (689, .iload 4, 0, 0), (691, .iconst 2, 0, 0), (692, .iadd, 0, 0),
  (693, .iaload, 0, 0), (694, .invokevirtual 184, 266, 0), (697, .istore 6, 0, 0), (699, .aload_n 2, 0, 0), (700, .invokevirtual 166, 195, 0), (703, .iload 5, 0, 0), (705, .if_icmp .eq 5, 710, 0), (708, .iconst 0, 0, 0), (709, .ireturn, 0, 0), (710, .iload 5, 0, 0), (712, .ifCond .ne 15, 727, 0), (715, .aload_n 3, 0, 0),
  (716, .iconst 0, 0, 0), (717, .laload, 0, 0), (718, .iload 6, 0, 0), (720, .i2l, 0, 0), (721, .lcmp, 0, 0), (722, .ifCond .eq 5, 727, 0), (725, .iconst 0, 0, 0), (726, .ireturn, 0, 0), (727, .goto 2616, 3343, 0), (730, .aload_n 1, 0, 0), (731, .aload_n 0, 0, 0), (732, .iload 4, 0, 0),
  (734, .iconst 1, 0, 0), (735, .iadd, 0, 0), (736, .iaload, 0, 0), (737, .aload_n 3, 0, 0), (738, .invokestatic 185, 352, 4), (741, .istore 5, 0, 0), (743, .aload_n 2, 0, 0), (744, .aload_n 0, 0, 0), (745, .iload 4, 0, 0), (747, .iconst 1, 0, 0), (748, .iadd, 0, 0), (749, .iaload, 0, 0),
  (750, .invokevirtual 187, 267, 0), (753, .istore 6, 0, 0), (755, .aload_n 2, 0, 0), (756, .invokevirtual 166, 195, 0), (759, .iload 5, 0, 0), (761, .if_icmp .eq 5, 766, 0), (764, .iconst 0, 0, 0), (765, .ireturn, 0, 0), (766, .iload 5, 0, 0), (768, .ifCond .ne 15, 783, 0), (771, .aload_n 3, 0, 0), (772, .iconst 0, 0, 0),
  (773, .laload, 0, 0), (774, .iload 6, 0, 0), (776, .i2l, 0, 0), (777, .lcmp, 0, 0), (778, .ifCond .eq 5, 783, 0), (781, .iconst 0, 0, 0), (782, .ireturn, 0, 0), (783, .goto 2560, 3343, 0), (786, .aload_n 1, 0, 0), (787, .aload_n 0, 0, 0), (788, .iload 4, 0, 0), (790, .iconst 1, 0, 0),
  (791, .iadd, 0, 0), (792, .iaload, 0, 0), (793, .aload_n 3, 0, 0), (794, .invokestatic 188, 353, 4), (797, .istore 5, 0, 0), (799, .aload_n 2, 0, 0), (800, .aload_n 0, 0, 0), (801, .iload 4, 0, 0), (803, .iconst 1, 0, 0), (804, .iadd, 0, 0), (805, .iaload, 0, 0), (806, .invokevirtual 190, 268, 0),
  (809, .istore 6, 0, 0), (811, .aload_n 2, 0, 0), (812, .invokevirtual 166, 195, 0), (815, .iload 5, 0, 0), (817, .if_icmp .eq 5, 822, 0), (820, .iconst 0, 0, 0), (821, .ireturn, 0, 0), (822, .iload 5, 0, 0), (824, .ifCond .ne 15, 839, 0), (827, .aload_n 3, 0, 0), (828, .iconst 0, 0, 0), (829, .laload, 0, 0),
  (830, .iload 6, 0, 0), (832, .i2l, 0, 0), (833, .lcmp, 0, 0), (834, .ifCond .eq 5, 839, 0), (837, .iconst 0, 0, 0), (838, .ireturn, 0, 0), (839, .goto 2504, 3343, 0), (842, .aload_n 1, 0, 0), (843, .aload_n 0, 0, 0), (844, .iload 4, 0, 0), (846, .iconst 1, 0, 0), (847, .iadd, 0, 0),
  (848, .iaload, 0, 0), (849, .aload_n 0, 0, 0), (850, .iload 4, 0, 0), (852, .iconst 2, 0, 0), (853, .iadd, 0, 0), (854, .iaload, 0, 0), (855, .aload_n 0, 0, 0), (856, .iload 4, 0, 0), (858, .iconst 3, 0, 0), (859, .iadd, 0, 0), (860, .iaload, 0, 0), (861, .aload_n 3, 0, 0),
  (862, .invokestatic 191, 354, 4), (865, .istore 5, 0, 0), (867, .aload_n 2, 0, 0), (868, .aload_n 0, 0, 0), (869, .iload 4, 0, 0), (871, .iconst 1, 0, 0), (872, .iadd, 0, 0), (873, .iaload, 0, 0), (874, .aload_n 0, 0, 0), (875, .iload 4, 0, 0), (877, .iconst 2, 0, 0), (878, .iadd, 0, 0),
  (879, .iaload, 0, 0), (880, .aload_n 0, 0, 0), (881, .iload 4, 0, 0), (883, .iconst 3, 0, 0), (884, .iadd, 0, 0), (885, .iaload, 0, 0), (886, .invokevirtual 193, 270, 0), (889, .istore 6, 0, 0), (891, .aload_n 2, 0, 0), (892, .invokevirtual 166, 195, 0), (895, .iload 5, 0, 0), (897, .if_icmp .eq 5, 902, 0),
  (900, .iconst 0, 0, 0), (901, .ireturn, 0, 0), (902, .iload 5, 0, 0), (904, .ifCond .ne 15, 919, 0), (907, .aload_n 3, 0, 0), (908, .iconst 0, 0, 0), (909, .laload, 0, 0), (910, .iload 6, 0, 0), (912, .i2l, 0, 0), (913, .lcmp, 0, 0), (914, .ifCond .eq 5, 919, 0), (917, .iconst 0, 0, 0),
  (918, .ireturn, 0, 0), (919, .goto 2424, 3343, 0), (922, .aload_n 1, 0, 0), (923, .aload_n 0, 0, 0), (924, .iload 4, 0, 0), (926, .iconst 1, 0, 0), (927, .iadd, 0, 0), (928, .iaload, 0, 0), (929, .aload_n 0, 0, 0), (930, .iload 4, 0, 0), (932, .iconst 2, 0, 0), (933, .iadd, 0, 0),
  (934, .iaload, 0, 0), (935, .aload_n 0, 0, 0), (936, .iload 4, 0, 0), (938, .iconst 3, 0, 0), (939, .iadd, 0, 0), (940, .iaload, 0, 0), (941, .aload_n 3, 0, 0), (942, .invokestatic 194, 355, 4), (945, .istore 5, 0, 0), (947, .aload_n 2, 0, 0), (948, .aload_n 0, 0, 0), (949, .iload 4, 0, 0),
  (951, .iconst 1, 0, 0), (952, .iadd, 0, 0), (953, .iaload, 0, 0), (954, .aload_n 0, 0, 0), (955, .iload 4, 0, 0), (957, .iconst 2, 0, 0), (958, .iadd, 0, 0), (959, .iaload, 0, 0), (960, .aload_n 0, 0, 0), (961, .iload 4, 0, 0), (963, .iconst 3, 0, 0), (964, .iadd, 0, 0),
  (965, .iaload, 0, 0), (966, .invokevirtual 196, 272, 0), (969, .istore 6, 0, 0), (971, .aload_n 2, 0, 0), (972, .invokevirtual 166, 195, 0), (975, .iload 5, 0, 0), (977, .if_icmp .eq 5, 982, 0), (980, .iconst 0, 0, 0), (981, .ireturn, 0, 0), (982, .iload 5, 0, 0), (984, .ifCond .ne 15, 999, 0), (987, .aload_n 3, 0, 0),
  (988, .iconst 0, 0, 0), (989, .laload, 0, 0), (990, .iload 6, 0, 0), (992, .i2l, 0, 0), (993, .lcmp, 0, 0), (994, .ifCond .eq 5, 999, 0), (997, .iconst 0, 0, 0), (998, .ireturn, 0, 0), (999, .goto 2344, 3343, 0), (1002, .aload_n 1, 0, 0), (1003, .aload_n 0, 0, 0), (1004, .iload 4, 0, 0),
  (1006, .iconst 1, 0, 0), (1007, .iadd, 0, 0), (1008, .iaload, 0, 0), (1009, .aload_n 3, 0, 0), (1010, .invokestatic 197, 356, 4), (1013, .istore 5, 0, 0), (1015, .aload_n 2, 0, 0), (1016, .aload_n 0, 0, 0), (1017, .iload 4, 0, 0), (1019, .iconst 1, 0, 0)]
def am_hL_1 : List (List Nat) := [[], [], [], [], [], [], [], [], [], [], [], [], [], [], [], [], [], [], [], [], [], [], [], [], [1095, 1096, 121, 1097], [], [], [], [], [], [], [], [], [], [], [], [], [1824, 1825, 1826, 134, 1827], [], [], [1632, 1633, 1634, 134, 1635], [], [], [], [], [], [], [], [], [], [], [], [], [], [], [], [], [], [], [], [], [], [], [], [1106, 1107, 121, 1108], [], [], [], [], [], [], [], [1832, 1833, 1834, 134, 1835], [], [], [1632, 1633, 1634, 134, 1635], [], [], [], [], [], [], [], [], [], [], [], [], [], [], [], [], [], [], [], [], [], [], [], [1117, 1118, 121, 1119], [], [], [], [], [], [], [], [1836, 1837, 1838, 134, 1839], [], [], [1632, 1633, 1634, 134, 1635], [], [], [], [], [], [], [], [], [], [], [], [], [], [], [], [], [], [], [], [], [], [], [], [], [], [], [], [], [], [], [], [], [], [1129, 1130, 121, 1131], [], [], [], [], [], [], [], [], [], [], [], [], [], [], [], [], [], [1840, 1841, 1842, 134, 1843], [], [], [1632, 1633, 1634, 134, 1635], [], [], [], [], [], [], [], [], [], [], [], [], [], [], [], [], [], [], [], [], [], [], [], [], [], [], [], [], [], [], [], [], [], [1136, 1137, 121, 1138], [], [], [], [], [], [], [], [], [], [], [], [], [], [], [], [], [], [1852, 1853, 1854, 134, 1855], [], [], [1632, 1633, 1634, 134, 1635], [], [], [], [], [], [], [], [], [], [], [], [], [], [], [], [], [], [], [], [], [], [], [], [1161, 1162, 121, 1163], [], [], [], [], []]
def am_mL_2 : amP := [(1020, .iadd, 0, 0), (1021, .iaload, 0, 0), (1022, .invokevirtual 199, 273, 0), (1025, .istore 6, 0, 0), (1027, .aload_n 2, 0, 0), (1028, .invokevirtual 166, 195, 0), (1031, .iload 5, 0, 0), (1033, .if_icmp .eq 5, 1038, 0), (1036, .iconst 0, 0, 0), (1037, .ireturn, 0, 0), (1038, .iload 5, 0, 0), (1040, .ifCond .ne 15, 1055, 0),
  (1043, .aload_n 3, 0, 0), (1044, .iconst 0, 0, 0), (1045, .laload, 0, 0), (1046, .iload 6, 0, 0), (1048, .i2l, 0, 0), (1049, .lcmp, 0, 0), (1050, .ifCond .eq 5, 1055, 0), (1053, .iconst 0, 0, 0), (1054, .ireturn, 0, 0), (1055, .goto 2288, 3343, 0), (1058, .aload_n 1, 0, 0), (1059, .aload_n 0, 0, 0),
  (1060, .iload 4, 0, 0), (1062, .iconst 1, 0, 0), (1063, .iadd, 0, 0), (1064, .iaload, 0, 0), (1065, .aload_n 0, 0, 0), (1066, .iload 4, 0, 0), (1068, .iconst 2, 0, 0), (1069, .iadd, 0, 0), (1070, .iaload, 0, 0), (1071, .aload_n 0, 0, 0), (1072, .iload 4, 0, 0), (1074, .iconst 3, 0, 0),
  (1075, .iadd, 0, 0), (1076, .iaload, 0, 0), (1077, .aload_n 3, 0, 0), (1078, .invokestatic 200, 357, 4), (1081, .istore 5, 0, 0), (1083, .aload_n 2, 0, 0), (1084, .aload_n 0, 0, 0), (1085, .iload 4, 0, 0), (1087, .iconst 1, 0, 0), (1088, .iadd, 0, 0), (1089, .iaload, 0, 0), (1090, .aload_n 0, 0, 0),
  (1091, .iload 4, 0, 0), (1093, .iconst 2, 0, 0), (1094, .iadd, 0, 0), (1095, .iaload, 0, 0), (1096, .aload_n 0, 0, 0), (1097, .iload 4, 0, 0), (1099, .iconst 3, 0, 0), (1100, .iadd, 0, 0), (1101, .iaload, 0, 0), (1102, .invokevirtual 202, 274, 0), (1105, .istore 6, 0, 0), (1107, .aload_n 2, 0, 0),
  (1108, .invokevirtual 166, 195, 0), (1111, .iload 5, 0, 0), (1113, .if_icmp .eq 5, 1118, 0), (1116, .iconst 0, 0, 0), (1117, .ireturn, 0, 0), (1118, .iload 5, 0, 0), (1120, .ifCond .ne 15, 1135, 0), (1123, .aload_n 3, 0, 0), (1124, .iconst 0, 0, 0), (1125, .laload, 0, 0), (1126, .iload 6, 0, 0), (1128, .i2l, 0, 0),
  (1129, .lcmp, 0, 0), (1130, .ifCond .eq 5, 1135, 0), (1133, .iconst 0, 0, 0), (1134, .ireturn, 0, 0), (1135, .goto 2208, 3343, 0), (1138, .aload_n 1, 0, 0), (1139, .invokevirtual 203, 129, 0), (1142, .aload_n 2, 0, 0), (1143, .invokevirtual 206, 275, 0), (1146, .if_icmp .eq 2197, 3343, 0), (1149, .iconst 0, 0, 0), (1150, .ireturn, 0, 0),
  (1151, .aload_n 1, 0, 0), (1152, .invokevirtual 207, 130, 0), (1155, .aload_n 2, 0, 0), (1156, .invokevirtual 210, 285, 0), (1159, .if_icmp .eq 2184, 3343, 0), (1162, .iconst 0, 0, 0), (1163, .ireturn, 0, 0), (1164, .aload_n 1, 0, 0), (1165, .invokevirtual 211, 131, 0), (1168, .aload_n 2, 0, 0), (1169, .invokevirtual 214, 286, 0), (1172, .if_icmp .eq 2171, 3343, 0),
  (1175, .iconst 0, 0, 0), (1176, .ireturn, 0, 0), (1177, .aload_n 1, 0, 0), (1178, .aload_n 0, 0, 0), (1179, .iload 4, 0, 0), (1181, .iconst 1, 0, 0), (1182, .iadd, 0, 0), (1183, .iaload, 0, 0), (1184, .aload_n 0, 0, 0), (1185, .iload 4, 0, 0), (1187, .iconst 2, 0, 0), (1188, .iadd, 0, 0),
  (1189, .iaload, 0, 0), (1190, .aload_n 3, 0, 0), (1191, .invokestatic 215, 358, 4), (1194, .istore 5, 0, 0), (1196, .aload_n 2, 0, 0), (1197, .aload_n 0, 0, 0), (1198, .iload 4, 0, 0), (1200, .iconst 1, 0, 0), (1201, .iadd, 0, 0), (1202, .iaload, 0, 0), (1203, .aload_n 0, 0, 0), (1204, .iload 4, 0, 0),
  (1206, .iconst 2, 0, 0), (1207, .iadd, 0, 0), (1208, .iaload, 0, 0), (1209, .invokevirtual 217, 288, 0), (1212, .istore 6, 0, 0), (1214, .aload_n 2, 0, 0), (1215, .invokevirtual 166, 195, 0), (1218, .iload 5, 0, 0), (1220, .if_icmp .eq 5, 1225, 0), (1223, .iconst 0, 0, 0), (1224, .ireturn, 0, 0), (1225, .iload 5, 0, 0),
  (1227, .ifCond .ne 15, 1242, 0), (1230, .aload_n 3, 0, 0), (1231, .iconst 0, 0, 0), (1232, .laload, 0, 0), (1233, .iload 6, 0, 0), (1235, .i2l, 0, 0), (1236, .lcmp, 0, 0), (1237, .ifCond .eq 5, 1242, 0), (1240, .iconst 0, 0, 0), (1241, .ireturn, 0, 0), (1242, .goto 2101, 3343, 0), (1245, .aload_n 1, 0, 0),
  (1246, .aload_n 0, 0, 0), (1247, .iload 4, 0, 0), (1249, .iconst 1, 0, 0), (1250, .iadd, 0, 0), (1251, .iaload, 0, 0), (1252, .aload_n 0, 0, 0), (1253, .iload 4, 0, 0), (1255, .iconst 2, 0, 0), (1256, .iadd, 0, 0), (1257, .iaload, 0, 0), (1258, .aload_n 3, 0, 0), (1259, .invokestatic 218, 359, 4),
  (1262, .istore 5, 0, 0), (1264, .aload_n 2, 0, 0), (1265, .aload_n 0, 0, 0), (1266, .iload 4, 0, 0), (1268, .iconst 1, 0, 0), (1269, .iadd, 0, 0), (1270, .iaload, 0, 0), (1271, .aload_n 0, 0, 0), (1272, .iload 4, 0, 0), (1274, .iconst 2, 0, 0), (1275, .iadd, 0, 0), (1276, .iaload, 0, 0),
  (1277, .invokevirtual 220, 289, 0), (1280, .istore 6, 0, 0), (1282, .aload_n 2, 0, 0), (1283, .invokevirtual 166, 195, 0), (1286, .iload 5, 0, 0), (1288, .if_icmp .eq 5, 1293, 0), (1291, .iconst 0, 0, 0), (1292, .ireturn, 0, 0), (1293, .iload 5, 0, 0), (1295, .ifCond .ne 15, 1310, 0), (1298, .aload_n 3, 0, 0), (1299, .iconst 0, 0, 0),
  (1300, .laload, 0, 0), (1301, .iload 6, 0, 0), (1303, .i2l, 0, 0), (1304, .lcmp, 0, 0), (1305, .ifCond .eq 5, 1310, 0), (1308, .iconst 0, 0, 0), (1309, .ireturn, 0, 0), (1310, .goto 2033, 3343, 0), (1313, .aload_n 1, 0, 0), (1314, .aload_n 0, 0, 0), (1315, .iload 4, 0, 0), (1317, .iconst 1, 0, 0),
  (1318, .iadd, 0, 0), (1319, .iaload, 0, 0), (1320, .aload_n 3, 0, 0), (1321, .invokestatic 221, 360, 4), (1324, .istore 5, 0, 0), (1326, .aload_n 2, 0, 0), (1327, .aload_n 0, 0, 0), (1328, .iload 4, 0, 0), (1330, .iconst 1, 0, 0), (1331, .iadd, 0, 0), (1332, .iaload, 0, 0), (1333, .invokevirtual 223, 290, 0),
  (1336, .istore 6, 0, 0), (1338, .aload_n 2, 0, 0), (1339, .invokevirtual 166, 195, 0), (1342, .iload 5, 0, 0), (1344, .if_icmp .eq 5, 1349, 0), (1347, .iconst 0, 0, 0), (1348, .ireturn, 0, 0), (1349, .iload 5, 0, 0), (1351, .ifCond .ne 15, 1366, 0), (1354, .aload_n 3, 0, 0), (1355, .iconst 0, 0, 0), (1356, .laload, 0, 0),
  (1357, .iload 6, 0, 0), (1359, .i2l, 0, 0), (1360, .lcmp, 0, 0), (1361, .ifCond .eq 5, 1366, 0), (1364, .iconst 0, 0, 0), (1365, .ireturn, 0, 0), (1366, .goto 1977, 3343, 0), (1369, .aload_n 1, 0, 0), (1370, .aload_n 0, 0, 0), (1371, .iload 4, 0, 0), (1373, .iconst 1, 0, 0), (1374, .iadd, 0, 0),
  (1375, .iaload, 0, 0), (1376, .aload_n 3, 0, 0), (1377, .invokestatic 224, 361, 4), (1380, .istore 5, 0, 0), (1382, .aload_n 2, 0, 0), (1383, .aload_n 0, 0, 0), (1384, .iload 4, 0, 0), (1386, .iconst 1, 0, 0), (1387, .iadd, 0, 0), (1388, .iaload, 0, 0), (1389, .invokevirtual 226, 291, 0), (1392, .istore 6, 0, 0),
  (1394, .aload_n 2, 0, 0), (1395, .invokevirtual 166, 195, 0), (1398, .iload 5, 0, 0), (1400, .if_icmp .eq 5, 1405, 0), (1403, .iconst 0, 0, 0), (1404, .ireturn, 0, 0), (1405, .iload 5, 0, 0), (1407, .ifCond .ne 15, 1422, 0), (1410, .aload_n 3, 0, 0), (1411, .iconst 0, 0, 0)]
def am_hL_2 : List (List Nat) := [[], [], [1860, 1861, 1862, 134, 1863], [], [], [1632, 1633, 1634, 134, 1635], [], [], [], [], [], [], [], [], [], [], [], [], [], [], [], [], [], [], [], [], [], [], [], [], [], [], [], [], [], [], [], [], [], [1168, 1169, 121, 1170], [], [], [], [], [], [], [], [], [], [], [], [], [], [], [], [], [], [1868, 1869, 1870, 134, 1871], [], [], [1632, 1633, 1634, 134, 1635], [], [], [], [], [], [], [], [], [], [], [], [], [], [], [], [], [], [675, 676, 677, 122, 678], [], [1880, 1881, 1882, 134, 1883], [], [], [], [], [704, 705, 706, 122, 707], [], [1911, 1912, 1913, 134, 1914], [], [], [], [], [728, 729, 730, 122, 731], [], [1927, 1928, 1929, 134, 1930], [], [], [], [], [], [], [], [], [], [], [], [], [], [], [], [1177, 1178, 121, 1179], [], [], [], [], [], [], [], [], [], [], [], [], [1931, 1932, 1933, 134, 1934], [], [], [1632, 1633, 1634, 134, 1635], [], [], [], [], [], [], [], [], [], [], [], [], [], [], [], [], [], [], [], [], [], [], [], [], [], [], [], [], [1191, 1192, 121, 1193], [], [], [], [], [], [], [], [], [], [], [], [], [1947, 1948, 1949, 134, 1950], [], [], [1632, 1633, 1634, 134, 1635], [], [], [], [], [], [], [], [], [], [], [], [], [], [], [], [], [], [], [], [], [], [], [], [1203, 1204, 121, 1205], [], [], [], [], [], [], [], [1955, 1956, 1957, 134, 1958], [], [], [1632, 1633, 1634, 134, 1635], [], [], [], [], [], [], [], [], [], [], [], [], [], [], [], [], [], [], [], [], [], [], [], [1214, 1215, 121, 1216], [], [], [], [], [], [], [], [1959, 1960, 1961, 134, 1962], [], [], [1632, 1633, 1634, 134, 1635], [], [], [], [], [], [], [], []]
def am_mL_3 : amP := [(1412, .laload, 0, 0), (1413, .iload 6, 0, 0), (1415, .i2l, 0, 0), (1416, .lcmp, 0, 0), (1417, .ifCond .eq 5, 1422, 0), (1420, .iconst 0, 0, 0), (1421, .ireturn, 0, 0), (1422, .goto 1921, 3343, 0), (1425, .aload_n 1, 0, 0), (1426, .aload_n 0, 0, 0), (1427, .iload 4, 0, 0), (1429, .iconst 1, 0, 0),
  (1430, .iadd, 0, 0), (1431, .iaload, 0, 0), (1432, .aload_n 3, 0, 0), (1433, .invokestatic 227, 362, 4), (1436, .istore 5, 0, 0), (1438, .aload_n 2, 0, 0), (1439, .aload_n 0, 0, 0), (1440, .iload 4, 0, 0), (1442, .iconst 1, 0, 0), (1443, .iadd, 0, 0), (1444, .iaload, 0, 0), (1445, .invokevirtual 229, 292, 0),
  (1448, .istore 6, 0, 0), (1450, .aload_n 2, 0, 0), (1451, .invokevirtual 166, 195, 0), (1454, .iload 5, 0, 0), (1456, .if_icmp .eq 5, 1461, 0), (1459, .iconst 0, 0, 0), (1460, .ireturn, 0, 0), (1461, .iload 5, 0, 0), (1463, .ifCond .ne 15, 1478, 0), (1466, .aload_n 3, 0, 0), (1467, .iconst 0, 0, 0), (1468, .laload, 0, 0),
  (1469, .iload 6, 0, 0), (1471, .i2l, 0, 0), (1472, .lcmp, 0, 0), (1473, .ifCond .eq 5, 1478, 0), (1476, .iconst 0, 0, 0), (1477, .ireturn, 0, 0), (1478, .goto 1865, 3343, 0), (1481, .aload_n 1, 0, 0), (1482, .aload_n 0, 0, 0), (1483, .iload 4, 0, 0), (1485, .iconst 1, 0, 0), (1486, .iadd, 0, 0),
  (1487, .iaload, 0, 0), (1488, .aload_n 3, 0, 0), (1489, .invokestatic 230, 363, 4), (1492, .istore 5, 0, 0), (1494, .aload_n 2, 0, 0), (1495, .aload_n 0, 0, 0), (1496, .iload 4, 0, 0), (1498, .iconst 1, 0, 0), (1499, .iadd, 0, 0), (1500, .iaload, 0, 0), (1501, .invokevirtual 232, 293, 0), (1504, .istore 6, 0, 0),
  (1506, .aload_n 2, 0, 0), (1507, .invokevirtual 166, 195, 0), (1510, .iload 5, 0, 0), (1512, .if_icmp .eq 5, 1517, 0), (1515, .iconst 0, 0, 0), (1516, .ireturn, 0, 0), (1517, .iload 5, 0, 0), (1519, .ifCond .ne 15, 1534, 0), (1522, .aload_n 3, 0, 0), (1523, .iconst 0, 0, 0), (1524, .laload, 0, 0), (1525, .iload 6, 0, 0),
  (1527, .i2l, 0, 0), (1528, .lcmp, 0, 0), (1529, .ifCond .eq 5, 1534, 0), (1532, .iconst 0, 0, 0), (1533, .ireturn, 0, 0), (1534, .goto 1809, 3343, 0), (1537, .aload_n 1, 0, 0), (1538, .aload_n 0, 0, 0), (1539, .iload 4, 0, 0), (1541, .iconst 1, 0, 0), (1542, .iadd, 0, 0), (1543, .iaload, 0, 0),
  (1544, .ifCond .eq 7, 1551, 0), (1547, .iconst 1, 0, 0), (1548, .goto 4, 1552, 0), (1551, .iconst 0, 0, 0), (1552, .invokevirtual 233, 138, 0), (1555, .aload_n 2, 0, 0), (1556, .aload_n 0, 0, 0), (1557, .iload 4, 0, 0), (1559, .iconst 1, 0, 0), (1560, .iadd, 0, 0), (1561, .iaload, 0, 0), (1562, .ifCond .eq 7, 1569, 0),
  (1565, .iconst 1, 0, 0), (1566, .goto 4, 1570, 0), (1569, .iconst 0, 0, 0), (1570, .invokevirtual 237, 294, 0), (1573, .if_icmp .eq 1770, 3343, 0), (1576, .iconst 0, 0, 0), (1577, .ireturn, 0, 0), (1578, .aload_n 1, 0, 0), (1579, .aload_n 0, 0, 0), (1580, .iload 4, 0, 0), (1582, .iconst 1, 0, 0), (1583, .iadd, 0, 0),
  (1584, .iaload, 0, 0), (1585, .aload_n 3, 0, 0), (1586, .invokestatic 238, 364, 4), (1589, .istore 5, 0, 0), (1591, .aload_n 2, 0, 0), (1592, .aload_n 0, 0, 0), (1593, .iload 4, 0, 0), (1595, .iconst 1, 0, 0), (1596, .iadd, 0, 0), (1597, .iaload, 0, 0), (1598, .invokevirtual 240, 295, 0), (1601, .istore 6, 0, 0),
  (1603, .aload_n 2, 0, 0), (1604, .invokevirtual 166, 195, 0), (1607, .iload 5, 0, 0), (1609, .if_icmp .eq 5, 1614, 0), (1612, .iconst 0, 0, 0), (1613, .ireturn, 0, 0), (1614, .iload 5, 0, 0), (1616, .ifCond .ne 15, 1631, 0), (1619, .aload_n 3, 0, 0), (1620, .iconst 0, 0, 0), (1621, .laload, 0, 0), (1622, .iload 6, 0, 0),
  (1624, .i2l, 0, 0), (1625, .lcmp, 0, 0), (1626, .ifCond .eq 5, 1631, 0), (1629, .iconst 0, 0, 0), (1630, .ireturn, 0, 0), (1631, .goto 1712, 3343, 0), (1634, .aload_n 1, 0, 0), (1635, .aload_n 0, 0, 0), (1636, .iload 4, 0, 0), (1638, .iconst 1, 0, 0), (1639, .iadd, 0, 0), (1640, .iaload, 0, 0),
  (1641, .aload_n 0, 0, 0), (1642, .iload 4, 0, 0), (1644, .iconst 2, 0, 0), (1645, .iadd, 0, 0), (1646, .iaload, 0, 0), (1647, .aload_n 3, 0, 0), (1648, .invokestatic 241, 365, 4), (1651, .istore 5, 0, 0), (1653, .aload_n 2, 0, 0), (1654, .aload_n 0, 0, 0), (1655, .iload 4, 0, 0), (1657, .iconst 1, 0, 0),
  (1658, .iadd, 0, 0), (1659, .iaload, 0, 0), (1660, .aload_n 0, 0, 0), (1661, .iload 4, 0, 0), (1663, .iconst 2, 0, 0), (1664, .iadd, 0, 0), (1665, .iaload, 0, 0), (1666, .invokevirtual 243, 297, 0), (1669, .istore 6, 0, 0), (1671, .aload_n 2, 0, 0), (1672, .invokevirtual 166, 195, 0), (1675, .iload 5, 0, 0),
  (1677, .if_icmp .eq 5, 1682, 0), (1680, .iconst 0, 0, 0), (1681, .ireturn, 0, 0), (1682, .iload 5, 0, 0), (1684, .ifCond .ne 15, 1699, 0), (1687, .aload_n 3, 0, 0), (1688, .iconst 0, 0, 0), (1689, .laload, 0, 0), (1690, .iload 6, 0, 0), (1692, .i2l, 0, 0), (1693, .lcmp, 0, 0), (1694, .ifCond .eq 5, 1699, 0),
  (1697, .iconst 0, 0, 0), (1698, .ireturn, 0, 0), (1699, .goto 1644, 3343, 0), (1702, .aload_n 1, 0, 0), (1703, .aload_n 0, 0, 0), (1704, .iload 4, 0, 0), (1706, .iconst 1, 0, 0), (1707, .iadd, 0, 0), (1708, .iaload, 0, 0), (1709, .aload_n 0, 0, 0), (1710, .iload 4, 0, 0), (1712, .iconst 2, 0, 0),
  (1713, .iadd, 0, 0), (1714, .iaload, 0, 0), (1715, .aload_n 0, 0, 0), (1716, .iload 4, 0, 0), (1718, .iconst 3, 0, 0), (1719, .iadd, 0, 0), (1720, .iaload, 0, 0), (1721, .aload_n 3, 0, 0), (1722, .invokestatic 244, 366, 4), (1725, .istore 5, 0, 0), (1727, .aload_n 2, 0, 0), (1728, .aload_n 0, 0, 0),
  (1729, .iload 4, 0, 0), (1731, .iconst 1, 0, 0), (1732, .iadd, 0, 0), (1733, .iaload, 0, 0), (1734, .aload_n 0, 0, 0), (1735, .iload 4, 0, 0), (1737, .iconst 2, 0, 0), (1738, .iadd, 0, 0), (1739, .iaload, 0, 0), (1740, .aload_n 0, 0, 0), (1741, .iload 4, 0, 0), (1743, .iconst 3, 0, 0),
  (1744, .iadd, 0, 0), (1745, .iaload, 0, 0), (1746, .invokevirtual 246, 298, 0), (1749, .istore 6, 0, 0), (1751, .aload_n 2, 0, 0), (1752, .invokevirtual 166, 195, 0), (1755, .iload 5, 0, 0), (1757, .if_icmp .eq 5, 1762, 0), (1760, .iconst 0, 0, 0), (1761, .ireturn, 0, 0), (1762, .iload 5, 0, 0), (1764, .ifCond .ne 15, 1779, 0),
  (1767, .aload_n 3, 0, 0), (1768, .iconst 0, 0, 0), (1769, .laload, 0, 0), (1770, .iload 6, 0, 0), (1772, .i2l, 0, 0), (1773, .lcmp, 0, 0), (1774, .ifCond .eq 5, 1779, 0), (1777, .iconst 0, 0, 0), (1778, .ireturn, 0, 0), (1779, .goto 1564, 3343, 0), (1782, .aload_n 1, 0, 0), (1783, .aload_n 0, 0, 0),
  (1784, .iload 4, 0, 0), (1786, .iconst 1, 0, 0), (1787, .iadd, 0, 0), (1788, .iaload, 0, 0), (1789, .aload_n 0, 0, 0), (1790, .iload 4, 0, 0), (1792, .iconst 2, 0, 0), (1793, .iadd, 0, 0), (1794, .iaload, 0, 0), (1795, .aload_n 0, 0, 0)]
def am_hL_3 : List (List Nat) := [[], [], [], [], [], [], [], [], [], [], [], [], [], [], [], [1221, 1222, 121, 1223], [], [], [], [], [], [], [], [1963, 1964, 1965, 134, 1966], [], [], [1632, 1633, 1634, 134, 1635], [], [], [], [], [], [], [], [], [], [], [], [], [], [], [], [], [], [], [], [], [], [], [], [1232, 1233, 121, 1234], [], [], [], [], [], [], [], [1971, 1972, 1973, 134, 1974], [], [], [1632, 1633, 1634, 134, 1635], [], [], [], [], [], [], [], [], [], [], [], [], [], [], [], [], [], [], [], [], [], [], [], [], [], [], [732, 733, 734, 122, 735], [], [], [], [], [], [], [], [], [], [], [1983, 1984, 1985, 134, 1986], [], [], [], [], [], [], [], [], [], [], [1243, 1244, 121, 1245], [], [], [], [], [], [], [], [1991, 1992, 1993, 134, 1994], [], [], [1632, 1633, 1634, 134, 1635], [], [], [], [], [], [], [], [], [], [], [], [], [], [], [], [], [], [], [], [], [], [], [], [], [], [], [], [], [1252, 1253, 121, 1254], [], [], [], [], [], [], [], [], [], [], [], [], [1999, 2000, 2001, 134, 2002], [], [], [1632, 1633, 1634, 134, 1635], [], [], [], [], [], [], [], [], [], [], [], [], [], [], [], [], [], [], [], [], [], [], [], [], [], [], [], [], [], [], [], [], [], [1259, 1260, 121, 1261], [], [], [], [], [], [], [], [], [], [], [], [], [], [], [], [], [], [2015, 2016, 2017, 134, 2018], [], [], [1632, 1633, 1634, 134, 1635], [], [], [], [], [], [], [], [], [], [], [], [], [], [], [], [], [], [], [], [], [], [], [], [], [], [], [], []]
def am_mL_4 : amP := [(1796, .iload 4, 0, 0), (1798, .iconst 3, 0, 0), (1799, .iadd, 0, 0), (1800, .iaload, 0, 0), (1801, .aload_n 0, 0, 0), (1802, .iload 4, 0, 0), (1804, .iconst 4, 0, 0), (1805, .iadd, 0, 0), (1806, .iaload, 0, 0), (1807, .aload_n 3, 0, 0), (1808, .invokestatic 247, 367, 4), (1811, .istore 5, 0, 0),
  (1813, .aload_n 2, 0, 0), (1814, .aload_n 0, 0, 0), (1815, .iload 4, 0, 0), (1817, .iconst 1, 0, 0), (1818, .iadd, 0, 0), (1819, .iaload, 0, 0), (1820, .aload_n 0, 0, 0), (1821, .iload 4, 0, 0), (1823, .iconst 2, 0, 0), (1824, .iadd, 0, 0), (1825, .iaload, 0, 0), (1826, .aload_n 0, 0, 0),
  (1827, .iload 4, 0, 0), (1829, .iconst 3, 0, 0), (1830, .iadd, 0, 0), (1831, .iaload, 0, 0), (1832, .aload_n 0, 0, 0), (1833, .iload 4, 0, 0), (1835, .iconst 4, 0, 0), (1836, .iadd, 0, 0), (1837, .iaload, 0, 0), (1838, .invokevirtual 250, 299, 0), (1841, .istore 6, 0, 0), (1843, .aload_n 2, 0, 0),
  (1844, .invokevirtual 166, 195, 0), (1847, .iload 5, 0, 0), (1849, .if_icmp .eq 5, 1854, 0), (1852, .iconst 0, 0, 0), (1853, .ireturn, 0, 0), (1854, .iload 5, 0, 0), (1856, .ifCond .ne 15, 1871, 0), (1859, .aload_n 3, 0, 0), (1860, .iconst 0, 0, 0), (1861, .laload, 0, 0), (1862, .iload 6, 0, 0), (1864, .i2l, 0, 0),
  (1865, .lcmp, 0, 0), (1866, .ifCond .eq 5, 1871, 0), (1869, .iconst 0, 0, 0), (1870, .ireturn, 0, 0), (1871, .goto 1472, 3343, 0), (1874, .aload_n 1, 0, 0), (1875, .aload_n 0, 0, 0), (1876, .iload 4, 0, 0), (1878, .iconst 1, 0, 0), (1879, .iadd, 0, 0), (1880, .iaload, 0, 0), (1881, .aload_n 0, 0, 0),
  (1882, .iload 4, 0, 0), (1884, .iconst 2, 0, 0), (1885, .iadd, 0, 0), (1886, .iaload, 0, 0), (1887, .aload_n 0, 0, 0), (1888, .iload 4, 0, 0), (1890, .iconst 3, 0, 0), (1891, .iadd, 0, 0), (1892, .iaload, 0, 0), (1893, .aload_n 3, 0, 0), (1894, .invokestatic 251, 368, 4), (1897, .istore 5, 0, 0),
  (1899, .aload_n 2, 0, 0), (1900, .aload_n 0, 0, 0), (1901, .iload 4, 0, 0), (1903, .iconst 1, 0, 0), (1904, .iadd, 0, 0), (1905, .iaload, 0, 0), (1906, .aload_n 0, 0, 0), (1907, .iload 4, 0, 0), (1909, .iconst 2, 0, 0), (1910, .iadd, 0, 0), (1911, .iaload, 0, 0), (1912, .aload_n 0, 0, 0),
  (1913, .iload 4, 0, 0), (1915, .iconst 3, 0, 0), (1916, .iadd, 0, 0), (1917, .iaload, 0, 0), (1918, .invokevirtual 253, 300, 0), (1921, .istore 6, 0, 0), (1923, .aload_n 2, 0, 0), (1924, .invokevirtual 166, 195, 0), (1927, .iload 5, 0, 0), (1929, .if_icmp .eq 5, 1934, 0), (1932, .iconst 0, 0, 0), (1933, .ireturn, 0, 0),
  (1934, .iload 5, 0, 0), (1936, .ifCond .ne 15, 1951, 0), (1939, .aload_n 3, 0, 0), (1940, .iconst 0, 0, 0), (1941, .laload, 0, 0), (1942, .iload 6, 0, 0), (1944, .i2l, 0, 0), (1945, .lcmp, 0, 0), (1946, .ifCond .eq 5, 1951, 0), (1949, .iconst 0, 0, 0), (1950, .ireturn, 0, 0), (1951, .goto 1392, 3343, 0),
  (1954, .aload_n 1, 0, 0), (1955, .aload_n 0, 0, 0), (1956, .iload 4, 0, 0), (1958, .iconst 1, 0, 0), (1959, .iadd, 0, 0), (1960, .iaload, 0, 0), (1961, .aload_n 0, 0, 0), (1962, .iload 4, 0, 0), (1964, .iconst 2, 0, 0), (1965, .iadd, 0, 0), (1966, .iaload, 0, 0), (1967, .aload_n 0, 0, 0),
  (1968, .iload 4, 0, 0), (1970, .iconst 3, 0, 0), (1971, .iadd, 0, 0), (1972, .iaload, 0, 0), (1973, .aload_n 3, 0, 0), (1974, .invokestatic 254, 369, 4), (1977, .istore 5, 0, 0), (1979, .aload_n 2, 0, 0), (1980, .aload_n 0, 0, 0), (1981, .iload 4, 0, 0), (1983, .iconst 1, 0, 0), (1984, .iadd, 0, 0),
  (1985, .iaload, 0, 0), (1986, .aload_n 0, 0, 0), (1987, .iload 4, 0, 0), (1989, .iconst 2, 0, 0), (1990, .iadd, 0, 0), (1991, .iaload, 0, 0), (1992, .aload_n 0, 0, 0), (1993, .iload 4, 0, 0), (1995, .iconst 3, 0, 0), (1996, .iadd, 0, 0), (1997, .iaload, 0, 0), (1998, .invokevirtual 256, 301, 0),
  (2001, .istore 6, 0, 0), (2003, .aload_n 2, 0, 0), (2004, .invokevirtual 166, 195, 0), (2007, .iload 5, 0, 0), (2009, .if_icmp .eq 5, 2014, 0), (2012, .iconst 0, 0, 0), (2013, .ireturn, 0, 0), (2014, .iload 5, 0, 0), (2016, .ifCond .ne 15, 2031, 0), (2019, .aload_n 3, 0, 0), (2020, .iconst 0, 0, 0), (2021, .laload, 0, 0),
  (2022, .iload 6, 0, 0), (2024, .i2l, 0, 0), (2025, .lcmp, 0, 0), (2026, .ifCond .eq 5, 2031, 0), (2029, .iconst 0, 0, 0), (2030, .ireturn, 0, 0), (2031, .goto 1312, 3343, 0), (2034, .aload_n 1, 0, 0), (2035, .aload_n 0, 0, 0), (2036, .iload 4, 0, 0), (2038, .iconst 1, 0, 0), (2039, .iadd, 0, 0),
  (2040, .iaload, 0, 0), (2041, .invokevirtual 257, 145, 0), (2044, .aload_n 2, 0, 0), (2045, .aload_n 0, 0, 0), (2046, .iload 4, 0, 0), (2048, .iconst 1, 0, 0), (2049, .iadd, 0, 0), (2050, .iaload, 0, 0), (2051, .invokevirtual 260, 302, 0), (2054, .if_icmp .eq 1289, 3343, 0), (2057, .iconst 0, 0, 0), (2058, .ireturn, 0, 0),
  (2059, .aload_n 1, 0, 0), (2060, .aload_n 0, 0, 0), (2061, .iload 4, 0, 0), (2063, .iconst 1, 0, 0), (2064, .iadd, 0, 0), (2065, .iaload, 0, 0), (2066, .invokevirtual 261, 146, 0), (2069, .aload_n 2, 0, 0), (2070, .aload_n 0, 0, 0), (2071, .iload 4, 0, 0), (2073, .iconst 1, 0, 0), (2074, .iadd, 0, 0),
  (2075, .iaload, 0, 0), (2076, .invokevirtual 264, 303, 0), (2079, .if_icmp .eq 1264, 3343, 0), (2082, .iconst 0, 0, 0), (2083, .ireturn, 0, 0), (2084, .aload_n 1, 0, 0), (2085, .aload_n 0, 0, 0), (2086, .iload 4, 0, 0), (2088, .iconst 1, 0, 0), (2089, .iadd, 0, 0), (2090, .iaload, 0, 0), (2091, .aload_n 0, 0, 0),
  (2092, .iload 4, 0, 0), (2094, .iconst 2, 0, 0), (2095, .iadd, 0, 0), (2096, .iaload, 0, 0), (2097, .aload_n 3, 0, 0), (2098, .invokestatic 265, 370, 4), (2101, .istore 5, 0, 0), (2103, .aload_n 2, 0, 0), (2104, .aload_n 0, 0, 0), (2105, .iload 4, 0, 0), (2107, .iconst 1, 0, 0), (2108, .iadd, 0, 0),
  (2109, .iaload, 0, 0), (2110, .aload_n 0, 0, 0), (2111, .iload 4, 0, 0), (2113, .iconst 2, 0, 0), (2114, .iadd, 0, 0), (2115, .iaload, 0, 0), (2116, .invokevirtual 267, 304, 0), (2119, .lstore 6, 0, 0), (2121, .aload_n 2, 0, 0), (2122, .invokevirtual 166, 195, 0), (2125, .iload 5, 0, 0), (2127, .if_icmp .eq 5, 2132, 0),
  (2130, .iconst 0, 0, 0), (2131, .ireturn, 0, 0), (2132, .iload 5, 0, 0), (2134, .ifCond .ne 14, 2148, 0), (2137, .aload_n 3, 0, 0), (2138, .iconst 0, 0, 0), (2139, .laload, 0, 0), (2140, .lload 6, 0, 0), (2142, .lcmp, 0, 0), (2143, .ifCond .eq 5, 2148, 0), (2146, .iconst 0, 0, 0), (2147, .ireturn, 0, 0),
  (2148, .goto 1195, 3343, 0), (2151, .aload_n 1, 0, 0), (2152, .invokevirtual 268, 148, 0), (2155, .aload_n 2, 0, 0), (2156, .invokevirtual 271, 306, 0), (2159, .if_icmp .eq 1184, 3343, 0), (2162, .iconst 0, 0, 0), (2163, .ireturn, 0, 0), (2164, .aload_n 1, 0, 0), (2165, .invokevirtual 272, 149, 0)]
def am_hL_4 : List (List Nat) := [[], [], [], [], [], [], [], [], [], [], [1287, 1288, 121, 1289], [], [], [], [], [], [], [], [], [], [], [], [], [], [], [], [], [], [], [], [], [], [], [2027, 2028, 2029, 134, 2030], [], [], [1632, 1633, 1634, 134, 1635], [], [], [], [], [], [], [], [], [], [], [], [], [], [], [], [], [], [], [], [], [], [], [], [], [], [], [], [], [], [], [], [], [], [1295, 1296, 121, 1297], [], [], [], [], [], [], [], [], [], [], [], [], [], [], [], [], [], [2031, 2032, 2033, 134, 2034], [], [], [1632, 1633, 1634, 134, 1635], [], [], [], [], [], [], [], [], [], [], [], [], [], [], [], [], [], [], [], [], [], [], [], [], [], [], [], [], [], [], [], [], [], [1310, 1311, 121, 1312], [], [], [], [], [], [], [], [], [], [], [], [], [], [], [], [], [], [2039, 2040, 2041, 134, 2042], [], [], [1632, 1633, 1634, 134, 1635], [], [], [], [], [], [], [], [], [], [], [], [], [], [], [], [], [], [], [], [], [], [], [785, 786, 787, 122, 788], [], [], [], [], [], [], [2043, 2044, 2045, 134, 2046], [], [], [], [], [], [], [], [], [], [820, 821, 822, 122, 823], [], [], [], [], [], [], [2047, 2048, 2049, 134, 2050], [], [], [], [], [], [], [], [], [], [], [], [], [], [], [], [1317, 1318, 121, 1319], [], [], [], [], [], [], [], [], [], [], [], [], [2063, 2064, 2065, 134, 2066], [], [], [1632, 1633, 1634, 134, 1635], [], [], [], [], [], [], [], [], [], [], [], [], [], [], [], [], [846, 847, 848, 122, 849], [], [2067, 2068, 2069, 134, 2070], [], [], [], [], [856, 857, 858, 122, 859]]
def am_mL_5 : amP := [(2168, .aload_n 2, 0, 0), (2169, .invokevirtual 275, 308, 0), (2172, .if_icmp .eq 1171, 3343, 0), (2175, .iconst 0, 0, 0), (2176, .ireturn, 0, 0), (2177, .aload_n 1, 0, 0), (2178, .aload_n 0, 0, 0), (2179, .iload 4, 0, 0), (2181, .iconst 1, 0, 0), (2182, .iadd, 0, 0), (2183, .iaload, 0, 0), (2184, .aload_n 0, 0, 0),
  (2185, .iload 4, 0, 0), (2187, .iconst 2, 0, 0), (2188, .iadd, 0, 0), (2189, .iaload, 0, 0), (2190, .aload_n 0, 0, 0), (2191, .iload 4, 0, 0), (2193, .iconst 3, 0, 0), (2194, .iadd, 0, 0), (2195, .iaload, 0, 0), (2196, .aload_n 3, 0, 0), (2197, .invokestatic 276, 371, 4), (2200, .istore 5, 0, 0),
  (2202, .aload_n 2, 0, 0), (2203, .aload_n 0, 0, 0), (2204, .iload 4, 0, 0), (2206, .iconst 1, 0, 0), (2207, .iadd, 0, 0), (2208, .iaload, 0, 0), (2209, .aload_n 0, 0, 0), (2210, .iload 4, 0, 0), (2212, .iconst 2, 0, 0), (2213, .iadd, 0, 0), (2214, .iaload, 0, 0), (2215, .aload_n 0, 0, 0),
  (2216, .iload 4, 0, 0), (2218, .iconst 3, 0, 0), (2219, .iadd, 0, 0), (2220, .iaload, 0, 0), (2221, .invokevirtual 278, 314, 0), (2224, .istore 6, 0, 0), (2226, .aload_n 2, 0, 0), (2227, .invokevirtual 166, 195, 0), (2230, .iload 5, 0, 0), (2232, .if_icmp .eq 5, 2237, 0), (2235, .iconst 0, 0, 0), (2236, .ireturn, 0, 0),
  (2237, .iload 5, 0, 0), (2239, .ifCond .ne 15, 2254, 0), (2242, .aload_n 3, 0, 0), (2243, .iconst 0, 0, 0), (2244, .laload, 0, 0), (2245, .iload 6, 0, 0), (2247, .i2l, 0, 0), (2248, .lcmp, 0, 0), (2249, .ifCond .eq 5, 2254, 0), (2252, .iconst 0, 0, 0), (2253, .ireturn, 0, 0), (2254, .goto 1089, 3343, 0),
  (2257, .aload_n 1, 0, 0), (2258, .aload_n 0, 0, 0), (2259, .iload 4, 0, 0), (2261, .iconst 1, 0, 0), (2262, .iadd, 0, 0), (2263, .iaload, 0, 0), (2264, .aload_n 0, 0, 0), (2265, .iload 4, 0, 0), (2267, .iconst 2, 0, 0), (2268, .iadd, 0, 0), (2269, .iaload, 0, 0), (2270, .aload_n 0, 0, 0),
  (2271, .iload 4, 0, 0), (2273, .iconst 3, 0, 0), (2274, .iadd, 0, 0), (2275, .iaload, 0, 0), (2276, .aload_n 3, 0, 0), (2277, .invokestatic 279, 372, 4), (2280, .istore 5, 0, 0), (2282, .aload_n 2, 0, 0), (2283, .aload_n 0, 0, 0), (2284, .iload 4, 0, 0), (2286, .iconst 1, 0, 0), (2287, .iadd, 0, 0),
  (2288, .iaload, 0, 0), (2289, .aload_n 0, 0, 0), (2290, .iload 4, 0, 0), (2292, .iconst 2, 0, 0), (2293, .iadd, 0, 0), (2294, .iaload, 0, 0), (2295, .aload_n 0, 0, 0), (2296, .iload 4, 0, 0), (2298, .iconst 3, 0, 0), (2299, .iadd, 0, 0), (2300, .iaload, 0, 0), (2301, .invokevirtual 281, 315, 0),
  (2304, .istore 6, 0, 0), (2306, .aload_n 2, 0, 0), (2307, .invokevirtual 166, 195, 0), (2310, .iload 5, 0, 0), (2312, .if_icmp .eq 5, 2317, 0), (2315, .iconst 0, 0, 0), (2316, .ireturn, 0, 0), (2317, .iload 5, 0, 0), (2319, .ifCond .ne 15, 2334, 0), (2322, .aload_n 3, 0, 0), (2323, .iconst 0, 0, 0), (2324, .laload, 0, 0),
  (2325, .iload 6, 0, 0), (2327, .i2l, 0, 0), (2328, .lcmp, 0, 0), (2329, .ifCond .eq 5, 2334, 0), (2332, .iconst 0, 0, 0), (2333, .ireturn, 0, 0), (2334, .goto 1009, 3343, 0), (2337, .aload_n 1, 0, 0), (2338, .aload_n 0, 0, 0), (2339, .iload 4, 0, 0), (2341, .iconst 1, 0, 0), (2342, .iadd, 0, 0),
  (2343, .iaload, 0, 0), (2344, .aload_n 0, 0, 0), (2345, .iload 4, 0, 0), (2347, .iconst 2, 0, 0), (2348, .iadd, 0, 0), (2349, .iaload, 0, 0), (2350, .aload_n 0, 0, 0), (2351, .iload 4, 0, 0), (2353, .iconst 3, 0, 0), (2354, .iadd, 0, 0), (2355, .iaload, 0, 0), (2356, .aload_n 3, 0, 0),
  (2357, .invokestatic 282, 373, 4), (2360, .istore 5, 0, 0), (2362, .aload_n 2, 0, 0), (2363, .aload_n 0, 0, 0), (2364, .iload 4, 0, 0), (2366, .iconst 1, 0, 0), (2367, .iadd, 0, 0), (2368, .iaload, 0, 0), (2369, .aload_n 0, 0, 0), (2370, .iload 4, 0, 0), (2372, .iconst 2, 0, 0), (2373, .iadd, 0, 0),
  (2374, .iaload, 0, 0), (2375, .aload_n 0, 0, 0), (2376, .iload 4, 0, 0), (2378, .iconst 3, 0, 0), (2379, .iadd, 0, 0), (2380, .iaload, 0, 0), (2381, .invokevirtual 284, 316, 0), (2384, .istore 6, 0, 0), (2386, .aload_n 2, 0, 0), (2387, .invokevirtual 166, 195, 0), (2390, .iload 5, 0, 0), (2392, .if_icmp .eq 5, 2397, 0),
  (2395, .iconst 0, 0, 0), (2396, .ireturn, 0, 0), (2397, .iload 5, 0, 0), (2399, .ifCond .ne 15, 2414, 0), (2402, .aload_n 3, 0, 0), (2403, .iconst 0, 0, 0), (2404, .laload, 0, 0), (2405, .iload 6, 0, 0), (2407, .i2l, 0, 0), (2408, .lcmp, 0, 0), (2409, .ifCond .eq 5, 2414, 0), (2412, .iconst 0, 0, 0),
  (2413, .ireturn, 0, 0), (2414, .goto 929, 3343, 0), (2417, .aload_n 1, 0, 0), (2418, .aload_n 0, 0, 0), (2419, .iload 4, 0, 0), (2421, .iconst 1, 0, 0), (2422, .iadd, 0, 0), (2423, .iaload, 0, 0), (2424, .aload_n 0, 0, 0), (2425, .iload 4, 0, 0), (2427, .iconst 2, 0, 0), (2428, .iadd, 0, 0),
  (2429, .iaload, 0, 0), (2430, .aload_n 0, 0, 0), (2431, .iload 4, 0, 0), (2433, .iconst 3, 0, 0), (2434, .iadd, 0, 0), (2435, .iaload, 0, 0), (2436, .aload_n 3, 0, 0), (2437, .invokestatic 285, 374, 4), (2440, .istore 5, 0, 0), (2442, .aload_n 2, 0, 0), (2443, .aload_n 0, 0, 0), (2444, .iload 4, 0, 0),
  (2446, .iconst 1, 0, 0), (2447, .iadd, 0, 0), (2448, .iaload, 0, 0), (2449, .aload_n 0, 0, 0), (2450, .iload 4, 0, 0), (2452, .iconst 2, 0, 0), (2453, .iadd, 0, 0), (2454, .iaload, 0, 0), (2455, .aload_n 0, 0, 0), (2456, .iload 4, 0, 0), (2458, .iconst 3, 0, 0), (2459, .iadd, 0, 0),
  (2460, .iaload, 0, 0), (2461, .invokevirtual 287, 317, 0), (2464, .istore 6, 0, 0), (2466, .aload_n 2, 0, 0), (2467, .invokevirtual 166, 195, 0), (2470, .iload 5, 0, 0), (2472, .if_icmp .eq 5, 2477, 0), (2475, .iconst 0, 0, 0), (2476, .ireturn, 0, 0), (2477, .iload 5, 0, 0), (2479, .ifCond .ne 15, 2494, 0), (2482, .aload_n 3, 0, 0),
  (2483, .iconst 0, 0, 0), (2484, .laload, 0, 0), (2485, .iload 6, 0, 0), (2487, .i2l, 0, 0), (2488, .lcmp, 0, 0), (2489, .ifCond .eq 5, 2494, 0), (2492, .iconst 0, 0, 0), (2493, .ireturn, 0, 0), (2494, .goto 849, 3343, 0), (2497, .aload_n 1, 0, 0), (2498, .aload_n 0, 0, 0), (2499, .iload 4, 0, 0),
  (2501, .iconst 1, 0, 0), (2502, .iadd, 0, 0), (2503, .iaload, 0, 0), (2504, .aload_n 3, 0, 0), (2505, .invokestatic 288, 375, 4), (2508, .istore 5, 0, 0), (2510, .aload_n 2, 0, 0), (2511, .aload_n 0, 0, 0), (2512, .iload 4, 0, 0), (2514, .iconst 1, 0, 0), (2515, .iadd, 0, 0), (2516, .iaload, 0, 0),
  (2517, .invokevirtual 290, 318, 0), (2520, .istore 6, 0, 0), (2522, .aload_n 2, 0, 0), (2523, .invokevirtual 166, 195, 0), (2526, .iload 5, 0, 0), (2528, .if_icmp .eq 5, 2533, 0), (2531, .iconst 0, 0, 0), (2532, .ireturn, 0, 0), (2533, .iload 5, 0, 0), (2535, .ifCond .ne 15, 2550, 0)]
def am_hL_5 : List (List Nat) := [[], [2075, 2076, 2077, 134, 2078], [], [], [], [], [], [], [], [], [], [], [], [], [], [], [], [], [], [], [], [], [1325, 1326, 121, 1327], [], [], [], [], [], [], [], [], [], [], [], [], [], [], [], [], [], [2083, 2084, 2085, 134, 2086], [], [], [1632, 1633, 1634, 134, 1635], [], [], [], [], [], [], [], [], [], [], [], [], [], [], [], [], [], [], [], [], [], [], [], [], [], [], [], [], [], [], [], [], [], [1349, 1350, 121, 1351], [], [], [], [], [], [], [], [], [], [], [], [], [], [], [], [], [], [2100, 2101, 2102, 134, 2103], [], [], [1632, 1633, 1634, 134, 1635], [], [], [], [], [], [], [], [], [], [], [], [], [], [], [], [], [], [], [], [], [], [], [], [], [], [], [], [], [], [], [], [], [], [1375, 1376, 121, 1377], [], [], [], [], [], [], [], [], [], [], [], [], [], [], [], [], [], [2108, 2109, 2110, 134, 2111], [], [], [1632, 1633, 1634, 134, 1635], [], [], [], [], [], [], [], [], [], [], [], [], [], [], [], [], [], [], [], [], [], [], [], [], [], [], [], [], [], [], [], [], [], [1402, 1403, 121, 1404], [], [], [], [], [], [], [], [], [], [], [], [], [], [], [], [], [], [2116, 2117, 2118, 134, 2119], [], [], [1632, 1633, 1634, 134, 1635], [], [], [], [], [], [], [], [], [], [], [], [], [], [], [], [], [], [], [], [], [], [], [], [1410, 1411, 121, 1412], [], [], [], [], [], [], [], [2120, 2121, 2122, 134, 2123], [], [], [1632, 1633, 1634, 134, 1635], [], [], [], [], [], []]
def am_mL_6 : amP := [(2538, .aload_n 3, 0, 0), (2539, .iconst 0, 0, 0), (2540, .laload, 0, 0), (2541, .iload 6, 0, 0), (2543, .i2l, 0, 0), (2544, .lcmp, 0, 0), (2545, .ifCond .eq 5, 2550, 0), (2548, .iconst 0, 0, 0), (2549, .ireturn, 0, 0), (2550, .goto 793, 3343, 0), (2553, .aload_n 1, 0, 0), (2554, .aload_n 3, 0, 0),
  (2555, .invokestatic 291, 376, 4), (2558, .istore 5, 0, 0), (2560, .aload_n 2, 0, 0), (2561, .invokevirtual 294, 320, 0), (2564, .istore 6, 0, 0), (2566, .aload_n 2, 0, 0), (2567, .invokevirtual 166, 195, 0), (2570, .iload 5, 0, 0), (2572, .if_icmp .eq 5, 2577, 0), (2575, .iconst 0, 0, 0), (2576, .ireturn, 0, 0), (2577, .iload 5, 0, 0),
  (2579, .ifCond .ne 15, 2594, 0), (2582, .aload_n 3, 0, 0), (2583, .iconst 0, 0, 0), (2584, .laload, 0, 0), (2585, .iload 6, 0, 0), (2587, .i2l, 0, 0), (2588, .lcmp, 0, 0), (2589, .ifCond .eq 5, 2594, 0), (2592, .iconst 0, 0, 0), (2593, .ireturn, 0, 0), (2594, .goto 749, 3343, 0), (2597, .aload_n 1, 0, 0),
  (2598, .aload_n 0, 0, 0), (2599, .iload 4, 0, 0), (2601, .iconst 1, 0, 0), (2602, .iadd, 0, 0), (2603, .iaload, 0, 0), (2604, .invokevirtual 295, 156, 0), (2607, .aload_n 2, 0, 0), (2608, .aload_n 0, 0, 0), (2609, .iload 4, 0, 0), (2611, .iconst 1, 0, 0), (2612, .iadd, 0, 0), (2613, .iaload, 0, 0),
  (2614, .invokevirtual 298, 321, 0), (2617, .if_icmp .eq 726, 3343, 0), (2620, .iconst 0, 0, 0), (2621, .ireturn, 0, 0), (2622, .aload_n 1, 0, 0), (2623, .invokevirtual 299, 157, 0), (2626, .aload_n 2, 0, 0), (2627, .invokevirtual 302, 322, 0), (2630, .if_icmp .eq 713, 3343, 0), (2633, .iconst 0, 0, 0), (2634, .ireturn, 0, 0), (2635, .aload_n 1, 0, 0),
  (2636, .invokevirtual 303, 158, 0), (2639, .aload_n 2, 0, 0), (2640, .invokevirtual 306, 323, 0), (2643, .if_icmp .eq 700, 3343, 0), (2646, .iconst 0, 0, 0), (2647, .ireturn, 0, 0), (2648, .aload_n 1, 0, 0), (2649, .aload_n 0, 0, 0), (2650, .iload 4, 0, 0), (2652, .iconst 1, 0, 0), (2653, .iadd, 0, 0), (2654, .iaload, 0, 0),
  (2655, .invokevirtual 307, 159, 0), (2658, .aload_n 2, 0, 0), (2659, .aload_n 0, 0, 0), (2660, .iload 4, 0, 0), (2662, .iconst 1, 0, 0), (2663, .iadd, 0, 0), (2664, .iaload, 0, 0), (2665, .invokevirtual 310, 281, 0), (2668, .if_icmp .eq 675, 3343, 0), (2671, .iconst 0, 0, 0), (2672, .ireturn, 0, 0), (2673, .aload_n 1, 0, 0),
  (2674, .invokevirtual 311, 160, 0), (2677, .dstore 5, 0, 0), (2679, .aload_n 2, 0, 0), (2680, .invokevirtual 315, 296, 0), (2683, .dstore 7, 0, 0), (2685, .dload 5, 0, 0), (2687, .dload 7, 0, 0), (2689, .dcmp .l, 0, 0), (2690, .ifCond .eq 21, 2711, 0), (2693, .dload 5, 0, 0), (2695, .dload 5, 0, 0), (2697, .dcmp .l, 0, 0),
  (2698, .ifCond .eq 11, 2709, 0), (2701, .dload 7, 0, 0), (2703, .dload 7, 0, 0), (2705, .dcmp .l, 0, 0), (2706, .ifCond .ne 5, 2711, 0), (2709, .iconst 0, 0, 0), (2710, .ireturn, 0, 0), (2711, .goto 632, 3343, 0), (2714, .aload_n 1, 0, 0), (2715, .invokevirtual 316, 161, 0), (2718, .f2d, 0, 0), (2719, .dstore 5, 0, 0),
  (2721, .aload_n 2, 0, 0), (2722, .invokevirtual 320, 325, 0), (2725, .f2d, 0, 0), (2726, .dstore 7, 0, 0), (2728, .dload 5, 0, 0), (2730, .dload 7, 0, 0), (2732, .dcmp .l, 0, 0), (2733, .ifCond .eq 21, 2754, 0), (2736, .dload 5, 0, 0), (2738, .dload 5, 0, 0), (2740, .dcmp .l, 0, 0), (2741, .ifCond .eq 11, 2752, 0),
  (2744, .dload 7, 0, 0), (2746, .dload 7, 0, 0), (2748, .dcmp .l, 0, 0), (2749, .ifCond .ne 5, 2754, 0), (2752, .iconst 0, 0, 0), (2753, .ireturn, 0, 0), (2754, .goto 589, 3343, 0), (2757, .aload_n 1, 0, 0), (2758, .aload_n 0, 0, 0), (2759, .iload 4, 0, 0), (2761, .iconst 1, 0, 0), (2762, .iadd, 0, 0),
  (2763, .iaload, 0, 0), (2764, .aload_n 3, 0, 0), (2765, .invokestatic 321, 377, 4), (2768, .istore 5, 0, 0), (2770, .aload_n 2, 0, 0), (2771, .aload_n 0, 0, 0), (2772, .iload 4, 0, 0), (2774, .iconst 1, 0, 0), (2775, .iadd, 0, 0), (2776, .iaload, 0, 0), (2777, .invokevirtual 323, 327, 0), (2780, .istore 6, 0, 0),
  (2782, .aload_n 2, 0, 0), (2783, .invokevirtual 166, 195, 0), (2786, .iload 5, 0, 0), (2788, .if_icmp .eq 5, 2793, 0), (2791, .iconst 0, 0, 0), (2792, .ireturn, 0, 0), (2793, .iload 5, 0, 0), (2795, .ifCond .ne 15, 2810, 0), (2798, .aload_n 3, 0, 0), (2799, .iconst 0, 0, 0), (2800, .laload, 0, 0), (2801, .iload 6, 0, 0),
  (2803, .i2l, 0, 0), (2804, .lcmp, 0, 0), (2805, .ifCond .eq 5, 2810, 0), (2808, .iconst 0, 0, 0), (2809, .ireturn, 0, 0), (2810, .goto 533, 3343, 0), (2813, .aload_n 1, 0, 0), (2814, .invokevirtual 324, 163, 0), (2817, .aload_n 2, 0, 0), (2818, .invokevirtual 327, 329, 0), (2821, .if_icmp .eq 522, 3343, 0), (2824, .iconst 0, 0, 0),
  (2825, .ireturn, 0, 0), (2826, .aload_n 1, 0, 0), (2827, .invokevirtual 328, 164, 0), (2830, .aload_n 2, 0, 0), (2831, .invokevirtual 331, 331, 0), (2834, .if_icmp .eq 509, 3343, 0), (2837, .iconst 0, 0, 0), (2838, .ireturn, 0, 0), (2839, .aload_n 1, 0, 0), (2840, .aload_n 0, 0, 0), (2841, .iload 4, 0, 0), (2843, .iconst 1, 0, 0),
  (2844, .iadd, 0, 0), (2845, .iaload, 0, 0), (2846, .aload_n 3, 0, 0), (2847, .invokestatic 332, 378, 4), (2850, .istore 5, 0, 0), (2852, .aload_n 2, 0, 0), (2853, .aload_n 0, 0, 0), (2854, .iload 4, 0, 0), (2856, .iconst 1, 0, 0), (2857, .iadd, 0, 0), (2858, .iaload, 0, 0), (2859, .invokevirtual 334, 332, 0),
  (2862, .istore 6, 0, 0), (2864, .aload_n 2, 0, 0), (2865, .invokevirtual 166, 195, 0), (2868, .iload 5, 0, 0), (2870, .if_icmp .eq 5, 2875, 0), (2873, .iconst 0, 0, 0), (2874, .ireturn, 0, 0), (2875, .iload 5, 0, 0), (2877, .ifCond .ne 15, 2892, 0), (2880, .aload_n 3, 0, 0), (2881, .iconst 0, 0, 0), (2882, .laload, 0, 0),
  (2883, .iload 6, 0, 0), (2885, .i2l, 0, 0), (2886, .lcmp, 0, 0), (2887, .ifCond .eq 5, 2892, 0), (2890, .iconst 0, 0, 0), (2891, .ireturn, 0, 0), (2892, .goto 451, 3343, 0), (2895, .aload_n 1, 0, 0), (2896, .invokevirtual 335, 166, 0), (2899, .aload_n 2, 0, 0), (2900, .invokevirtual 338, 334, 0), (2903, .if_icmp .eq 440, 3343, 0),
  (2906, .iconst 0, 0, 0), (2907, .ireturn, 0, 0), (2908, .aload_n 1, 0, 0), (2909, .aload_n 0, 0, 0), (2910, .iload 4, 0, 0), (2912, .iconst 1, 0, 0), (2913, .iadd, 0, 0), (2914, .iaload, 0, 0), (2915, .aload_n 0, 0, 0), (2916, .iload 4, 0, 0), (2918, .iconst 2, 0, 0), (2919, .iadd, 0, 0),
  (2920, .iaload, 0, 0), (2921, .aload_n 3, 0, 0), (2922, .invokestatic 339, 379, 4), (2925, .istore 5, 0, 0), (2927, .aload_n 2, 0, 0), (2928, .aload_n 0, 0, 0), (2929, .iload 4, 0, 0), (2931, .iconst 1, 0, 0), (2932, .iadd, 0, 0), (2933, .iaload, 0, 0), (2934, .aload_n 0, 0, 0), (2935, .iload 4, 0, 0),
  (2937, .iconst 2, 0, 0), (2938, .iadd, 0, 0), (2939, .iaload, 0, 0), (2940, .invokevirtual 341, 279, 0), (2943, .istore 6, 0, 0), (2945, .aload_n 2, 0, 0), (2946, .invokevirtual 166, 195, 0), (2949, .iload 5, 0, 0), (2951, .if_icmp .eq 5, 2956, 0), (2954, .iconst 0, 0, 0)]
def am_hL_6 : List (List Nat) := [[], [], [], [], [], [], [], [], [], [], [], [], [1422, 1423, 121, 1424], [], [], [2124, 2125, 2126, 134, 2127], [], [], [1632, 1633, 1634, 134, 1635], [], [], [], [], [], [], [], [], [], [], [], [], [], [], [], [], [], [], [], [], [], [], [865, 866, 867, 122, 868], [], [], [], [], [], [], [2132, 2133, 2134, 134, 2135], [], [], [], [], [881, 882, 883, 122, 884], [], [2140, 2141, 2142, 134, 2143], [], [], [], [], [890, 891, 892, 122, 893], [], [2148, 2149, 2150, 134, 2151], [], [], [], [], [], [], [], [], [], [899, 900, 901, 122, 902], [], [], [], [], [], [], [1903, 1904, 1905, 134, 1906], [], [], [], [], [906, 907, 908, 122, 909], [], [], [1995, 1996, 1997, 134, 1998], [], [], [], [], [], [], [], [], [], [], [], [], [], [], [], [], [], [910, 911, 912, 122, 913], [], [], [], [2156, 2157, 2158, 134, 2159], [], [], [], [], [], [], [], [], [], [], [], [], [], [], [], [], [], [], [], [], [], [], [], [], [1437, 1438, 121, 1439], [], [], [], [], [], [], [], [2160, 2161, 2162, 134, 2163], [], [], [1632, 1633, 1634, 134, 1635], [], [], [], [], [], [], [], [], [], [], [], [], [], [], [], [], [], [918, 919, 920, 122, 921], [], [2168, 2169, 2170, 134, 2171], [], [], [], [], [928, 929, 930, 122, 931], [], [2176, 2177, 2178, 134, 2179], [], [], [], [], [], [], [], [], [], [], [1450, 1451, 121, 1452], [], [], [], [], [], [], [], [2184, 2185, 2186, 134, 2187], [], [], [1632, 1633, 1634, 134, 1635], [], [], [], [], [], [], [], [], [], [], [], [], [], [], [], [], [], [936, 937, 938, 122, 939], [], [2188, 2189, 2190, 134, 2191], [], [], [], [], [], [], [], [], [], [], [], [], [], [], [], [1457, 1458, 121, 1459], [], [], [], [], [], [], [], [], [], [], [], [], [1896, 1897, 1898, 134, 1899], [], [], [1632, 1633, 1634, 134, 1635], [], [], []]
def am_mL_7 : amP := [(2955, .ireturn, 0, 0), (2956, .iload 5, 0, 0), (2958, .ifCond .ne 15, 2973, 0), (2961, .aload_n 3, 0, 0), (2962, .iconst 0, 0, 0), (2963, .laload, 0, 0), (2964, .iload 6, 0, 0), (2966, .i2l, 0, 0), (2967, .lcmp, 0, 0), (2968, .ifCond .eq 5, 2973, 0), (2971, .iconst 0, 0, 0), (2972, .ireturn, 0, 0),
  (2973, .goto 370, 3343, 0), (2976, .aload_n 1, 0, 0), (2977, .aload_n 0, 0, 0), (2978, .iload 4, 0, 0), (2980, .iconst 1, 0, 0), (2981, .iadd, 0, 0), (2982, .iaload, 0, 0), (2983, .aload_n 3, 0, 0), (2984, .invokestatic 342, 380, 4), (2987, .istore 5, 0, 0), (2989, .aload_n 2, 0, 0), (2990, .aload_n 0, 0, 0),
  (2991, .iload 4, 0, 0), (2993, .iconst 1, 0, 0), (2994, .iadd, 0, 0), (2995, .iaload, 0, 0), (2996, .invokevirtual 344, 278, 0), (2999, .istore 6, 0, 0), (3001, .aload_n 2, 0, 0), (3002, .invokevirtual 166, 195, 0), (3005, .iload 5, 0, 0), (3007, .if_icmp .eq 5, 3012, 0), (3010, .iconst 0, 0, 0), (3011, .ireturn, 0, 0),
  (3012, .iload 5, 0, 0), (3014, .ifCond .ne 15, 3029, 0), (3017, .aload_n 3, 0, 0), (3018, .iconst 0, 0, 0), (3019, .laload, 0, 0), (3020, .iload 6, 0, 0), (3022, .i2l, 0, 0), (3023, .lcmp, 0, 0), (3024, .ifCond .eq 5, 3029, 0), (3027, .iconst 0, 0, 0), (3028, .ireturn, 0, 0), (3029, .goto 314, 3343, 0),
  (3032, .aload_n 1, 0, 0), (3033, .aload_n 0, 0, 0), (3034, .iload 4, 0, 0), (3036, .iconst 1, 0, 0), (3037, .iadd, 0, 0), (3038, .iaload, 0, 0), (3039, .aload_n 0, 0, 0), (3040, .iload 4, 0, 0), (3042, .iconst 2, 0, 0), (3043, .iadd, 0, 0), (3044, .iaload, 0, 0), (3045, .aload_n 0, 0, 0),
  (3046, .iload 4, 0, 0), (3048, .iconst 3, 0, 0), (3049, .iadd, 0, 0), (3050, .iaload, 0, 0), (3051, .aload_n 3, 0, 0), (3052, .invokestatic 345, 381, 4), (3055, .istore 5, 0, 0), (3057, .aload_n 2, 0, 0), (3058, .aload_n 0, 0, 0), (3059, .iload 4, 0, 0), (3061, .iconst 1, 0, 0), (3062, .iadd, 0, 0),
  (3063, .iaload, 0, 0), (3064, .aload_n 0, 0, 0), (3065, .iload 4, 0, 0), (3067, .iconst 2, 0, 0), (3068, .iadd, 0, 0), (3069, .iaload, 0, 0), (3070, .aload_n 0, 0, 0), (3071, .iload 4, 0, 0), (3073, .iconst 3, 0, 0), (3074, .iadd, 0, 0), (3075, .iaload, 0, 0), (3076, .invokevirtual 347, 271, 0),
  (3079, .istore 6, 0, 0), (3081, .aload_n 2, 0, 0), (3082, .invokevirtual 166, 195, 0), (3085, .iload 5, 0, 0), (3087, .if_icmp .eq 5, 3092, 0), (3090, .iconst 0, 0, 0), (3091, .ireturn, 0, 0), (3092, .iload 5, 0, 0), (3094, .ifCond .ne 15, 3109, 0), (3097, .aload_n 3, 0, 0), (3098, .iconst 0, 0, 0), (3099, .laload, 0, 0),
  (3100, .iload 6, 0, 0), (3102, .i2l, 0, 0), (3103, .lcmp, 0, 0), (3104, .ifCond .eq 5, 3109, 0), (3107, .iconst 0, 0, 0), (3108, .ireturn, 0, 0), (3109, .goto 234, 3343, 0), (3112, .aload_n 1, 0, 0), (3113, .aload_n 0, 0, 0), (3114, .iload 4, 0, 0), (3116, .iconst 1, 0, 0), (3117, .iadd, 0, 0),
  (3118, .iaload, 0, 0), (3119, .aload_n 0, 0, 0), (3120, .iload 4, 0, 0), (3122, .iconst 2, 0, 0), (3123, .iadd, 0, 0), (3124, .iaload, 0, 0), (3125, .aload_n 0, 0, 0), (3126, .iload 4, 0, 0), (3128, .iconst 3, 0, 0), (3129, .iadd, 0, 0), (3130, .iaload, 0, 0), (3131, .aload_n 3, 0, 0),
  (3132, .invokestatic 348, 382, 4), (3135, .istore 5, 0, 0), (3137, .aload_n 2, 0, 0), (3138, .aload_n 0, 0, 0), (3139, .iload 4, 0, 0), (3141, .iconst 1, 0, 0), (3142, .iadd, 0, 0), (3143, .iaload, 0, 0), (3144, .aload_n 0, 0, 0), (3145, .iload 4, 0, 0), (3147, .iconst 2, 0, 0), (3148, .iadd, 0, 0),
  (3149, .iaload, 0, 0), (3150, .aload_n 0, 0, 0), (3151, .iload 4, 0, 0), (3153, .iconst 3, 0, 0), (3154, .iadd, 0, 0), (3155, .iaload, 0, 0), (3156, .invokevirtual 350, 276, 0), (3159, .istore 6, 0, 0), (3161, .aload_n 2, 0, 0), (3162, .invokevirtual 166, 195, 0), (3165, .iload 5, 0, 0), (3167, .if_icmp .eq 5, 3172, 0),
  (3170, .iconst 0, 0, 0), (3171, .ireturn, 0, 0), (3172, .iload 5, 0, 0), (3174, .ifCond .ne 15, 3189, 0), (3177, .aload_n 3, 0, 0), (3178, .iconst 0, 0, 0), (3179, .laload, 0, 0), (3180, .iload 6, 0, 0), (3182, .i2l, 0, 0), (3183, .lcmp, 0, 0), (3184, .ifCond .eq 5, 3189, 0), (3187, .iconst 0, 0, 0),
  (3188, .ireturn, 0, 0), (3189, .goto 154, 3343, 0), (3192, .aload_n 1, 0, 0), (3193, .aload_n 0, 0, 0), (3194, .iload 4, 0, 0), (3196, .iconst 1, 0, 0), (3197, .iadd, 0, 0), (3198, .iaload, 0, 0), (3199, .aload_n 3, 0, 0), (3200, .invokestatic 351, 383, 4), (3203, .istore 5, 0, 0), (3205, .aload_n 2, 0, 0),
  (3206, .aload_n 0, 0, 0), (3207, .iload 4, 0, 0), (3209, .iconst 1, 0, 0), (3210, .iadd, 0, 0), (3211, .iaload, 0, 0), (3212, .invokevirtual 353, 337, 0), (3215, .istore 6, 0, 0), (3217, .aload_n 2, 0, 0), (3218, .invokevirtual 166, 195, 0), (3221, .iload 5, 0, 0), (3223, .if_icmp .eq 5, 3228, 0), (3226, .iconst 0, 0, 0),
  (3227, .ireturn, 0, 0), (3228, .iload 5, 0, 0), (3230, .ifCond .ne 15, 3245, 0), (3233, .aload_n 3, 0, 0), (3234, .iconst 0, 0, 0), (3235, .laload, 0, 0), (3236, .iload 6, 0, 0), (3238, .i2l, 0, 0), (3239, .lcmp, 0, 0), (3240, .ifCond .eq 5, 3245, 0), (3243, .iconst 0, 0, 0), (3244, .ireturn, 0, 0),
  (3245, .goto 98, 3343, 0), (3248, .aload_n 1, 0, 0), (3249, .aload_n 0, 0, 0), (3250, .iload 4, 0, 0), (3252, .iconst 1, 0, 0), (3253, .iadd, 0, 0), (3254, .iaload, 0, 0), (3255, .invokevirtual 354, 172, 0), (3258, .aload_n 2, 0, 0), (3259, .aload_n 0, 0, 0), (3260, .iload 4, 0, 0), (3262, .iconst 1, 0, 0),
  (3263, .iadd, 0, 0), (3264, .iaload, 0, 0), (3265, .invokevirtual 357, 338, 0), (3268, .if_icmp .eq 75, 3343, 0), (3271, .iconst 0, 0, 0), (3272, .ireturn, 0, 0), (3273, .aload_n 1, 0, 0), (3274, .invokevirtual 358, 173, 0), (3277, .aload_n 2, 0, 0), (3278, .invokevirtual 361, 339, 0), (3281, .if_icmp .eq 62, 3343, 0), (3284, .iconst 0, 0, 0),
  (3285, .ireturn, 0, 0), (3286, .aload_n 1, 0, 0), (3287, .invokevirtual 362, 174, 0), (3290, .aload_n 2, 0, 0), (3291, .invokevirtual 365, 340, 0), (3294, .if_icmp .eq 49, 3343, 0), (3297, .iconst 0, 0, 0), (3298, .ireturn, 0, 0), (3299, .aload_n 1, 0, 0), (3300, .aload_n 3, 0, 0), (3301, .invokestatic 366, 384, 4), (3304, .istore 5, 0, 0),
  (3306, .aload_n 2, 0, 0), (3307, .invokevirtual 368, 341, 0), (3310, .istore 6, 0, 0), (3312, .aload_n 2, 0, 0), (3313, .invokevirtual 166, 195, 0), (3316, .iload 5, 0, 0), (3318, .if_icmp .eq 5, 3323, 0), (3321, .iconst 0, 0, 0), (3322, .ireturn, 0, 0), (3323, .iload 5, 0, 0), (3325, .ifCond .ne 15, 3340, 0), (3328, .aload_n 3, 0, 0),
  (3329, .iconst 0, 0, 0), (3330, .laload, 0, 0), (3331, .iload 6, 0, 0), (3333, .i2l, 0, 0), (3334, .lcmp, 0, 0), (3335, .ifCond .eq 5, 3340, 0), (3338, .iconst 0, 0, 0), (3339, .ireturn, 0, 0), (3340, .goto 3, 3343, 0), (3343, .iinc 4 6, 0, 0)]
def am_hL_7 : List (List Nat) := [[], [], [], [], [], [], [], [], [], [], [], [], [], [], [], [], [], [], [], [], [1468, 1469, 121, 1470], [], [], [], [], [], [], [], [1892, 1893, 1894, 134, 1895], [], [], [1632, 1633, 1634, 134, 1635], [], [], [], [], [], [], [], [], [], [], [], [], [], [], [], [], [], [], [], [], [], [], [], [], [], [], [], [], [], [], [], [], [], [1480, 1481, 121, 1482], [], [], [], [], [], [], [], [], [], [], [], [], [], [], [], [], [], [1848, 1849, 1850, 134, 1851], [], [], [1632, 1633, 1634, 134, 1635], [], [], [], [], [], [], [], [], [], [], [], [], [], [], [], [], [], [], [], [], [], [], [], [], [], [], [], [], [], [], [], [], [], [1487, 1488, 121, 1489], [], [], [], [], [], [], [], [], [], [], [], [], [], [], [], [], [], [1884, 1885, 1886, 134, 1887], [], [], [1632, 1633, 1634, 134, 1635], [], [], [], [], [], [], [], [], [], [], [], [], [], [], [], [], [], [], [], [], [], [], [], [1495, 1496, 121, 1497], [], [], [], [], [], [], [], [2196, 2197, 2198, 134, 2199], [], [], [1632, 1633, 1634, 134, 1635], [], [], [], [], [], [], [], [], [], [], [], [], [], [], [], [], [], [], [], [], [], [], [944, 945, 946, 122, 947], [], [], [], [], [], [], [2208, 2209, 2210, 134, 2211], [], [], [], [], [948, 949, 950, 122, 951], [], [2212, 2213, 2214, 134, 2215], [], [], [], [], [962, 963, 964, 122, 965], [], [2216, 2217, 2218, 134, 2219], [], [], [], [], [], [1510, 1511, 121, 1512], [], [], [2220, 2221, 2222, 134, 2223], [], [], [1632, 1633, 1634, 134, 1635], [], [], [], [], [], [], [], [], [], [], [], [], [], [], [], [], []]
def am_mL_8 : amP := [(3346, .goto (-3323), 23, 0), (3349, .iconst 1, 0, 0), (3350, .ireturn, 0, 0)]
def am_hL_8 : List (List Nat) := [[], [], []]
def am_mL : amM := (am_mL_0 ++ (am_mL_1 ++ (am_mL_2 ++ (am_mL_3 ++ (am_mL_4 ++ (am_mL_5 ++ (am_mL_6 ++ (am_mL_7 ++ (am_mL_8)))))))), 9, 2, false, (some .boolean), [], 99)
def am_nL : amN := (yL_law, cL_law, [])
def am_hL : List (List Nat) := am_hL_0 ++ (am_hL_1 ++ (am_hL_2 ++ (am_hL_3 ++ (am_hL_4 ++ (am_hL_5 ++ (am_hL_6 ++ (am_hL_7 ++ (am_hL_8))))))))
def am_gL : List (Nat × Nat) := []
def amTT : List (List (amN × amM)) := [
  [(am_n0, am_m0), (am_n1, am_m1), (am_n2, am_m2), (am_n3, am_m3), (am_n4, am_m4), (am_n5, am_m5), (am_n6, am_m6), (am_n7, am_m7), (am_n8, am_m8), (am_n9, am_m9), (am_n10, am_m10), (am_n11, am_m11), (am_n12, am_m12), (am_n13, am_m13), (am_n14, am_m14), (am_n15, am_m15)],
  [(am_n16, am_m16), (am_n17, am_m17), (am_n18, am_m18), (am_n19, am_m19), (am_n20, am_m20), (am_n21, am_m21), (am_n22, am_m22), (am_n23, am_m23), (am_n24, am_m24), (am_n25, am_m25), (am_n26, am_m26), (am_n27, am_m27), (am_n28, am_m28), (am_n29, am_m29), (am_n30, am_m30), (am_n31, am_m31)],
  [(am_n32, am_m32), (am_n33, am_m33), (am_n34, am_m34), (am_n35, am_m35), (am_n36, am_m36), (am_n37, am_m37), (am_n38, am_m38), (am_n39, am_m39), (am_n40, am_m40), (am_n41, am_m41), (am_n42, am_m42), (am_n43, am_m43), (am_n44, am_m44), (am_n45, am_m45), (am_n46, am_m46), (am_n47, am_m47)],
  [(am_n48, am_m48), (am_n49, am_m49), (am_n50, am_m50), (am_n51, am_m51), (am_n52, am_m52), (am_n53, am_m53), (am_n54, am_m54), (am_n55, am_m55), (am_n56, am_m56), (am_n57, am_m57), (am_n58, am_m58), (am_n59, am_m59), (am_n60, am_m60), (am_n61, am_m61), (am_n62, am_m62), (am_n63, am_m63)],
  [(am_n64, am_m64), (am_n65, am_m65), (am_n66, am_m66), (am_n67, am_m67), (am_n68, am_m68), (am_n69, am_m69), (am_n70, am_m70), (am_n71, am_m71), (am_n72, am_m72), (am_n73, am_m73), (am_n74, am_m74), (am_n75, am_m75), (am_n76, am_m76), (am_n77, am_m77), (am_n78, am_m78), (am_n79, am_m79)],
  [(am_n80, am_m80), (am_n81, am_m81), (am_n82, am_m82), (am_n83, am_m83), (am_n84, am_m84), (am_n85, am_m85), (am_n86, am_m86), (am_n87, am_m87), (am_n88, am_m88), (am_n89, am_m89), (am_n90, am_m90), (am_n91, am_m91), (am_n92, am_m92), (am_n93, am_m93), (am_n94, am_m94), (am_n95, am_m95)],
  [(am_n96, am_m96), (am_n97, am_m97), (am_n98, am_m98), (am_n99, am_m99), (am_n100, am_m100), (am_n101, am_m101), (am_n102, am_m102), (am_n103, am_m103), (am_n104, am_m104), (am_n105, am_m105), (am_n106, am_m106), (am_n107, am_m107), (am_n108, am_m108), (am_n109, am_m109), (am_n110, am_m110), (am_n111, am_m111)],
  [(am_n112, am_m112), (am_n113, am_m113), (am_n114, am_m114), (am_n115, am_m115), (am_n116, am_m116), (am_n117, am_m117), (am_n118, am_m118), (am_n119, am_m119), (am_n120, am_m120), (am_n121, am_m121), (am_n122, am_m122), (am_n123, am_m123), (am_n124, am_m124), (am_n125, am_m125), (am_n126, am_m126), (am_n127, am_m127)],
  [(am_n128, am_m128), (am_n129, am_m129), (am_n130, am_m130), (am_n131, am_m131), (am_n132, am_m132), (am_n133, am_m133), (am_n134, am_m134), (am_n135, am_m135), (am_n136, am_m136), (am_n137, am_m137), (am_n138, am_m138), (am_n139, am_m139), (am_n140, am_m140), (am_n141, am_m141), (am_n142, am_m142), (am_n143, am_m143)],
  [(am_n144, am_m144), (am_n145, am_m145), (am_n146, am_m146), (am_n147, am_m147), (am_n148, am_m148), (am_n149, am_m149), (am_n150, am_m150), (am_n151, am_m151), (am_n152, am_m152), (am_n153, am_m153), (am_n154, am_m154), (am_n155, am_m155), (am_n156, am_m156), (am_n157, am_m157), (am_n158, am_m158), (am_n159, am_m159)],
  [(am_n160, am_m160), (am_n161, am_m161), (am_n162, am_m162), (am_n163, am_m163), (am_n164, am_m164), (am_n165, am_m165), (am_n166, am_m166), (am_n167, am_m167), (am_n168, am_m168), (am_n169, am_m169), (am_n170, am_m170), (am_n171, am_m171), (am_n172, am_m172), (am_n173, am_m173), (am_n174, am_m174), (am_n175, am_m175)],
  [(am_n176, am_m176), (am_n177, am_m177), (am_n178, am_m178), (am_n179, am_m179), (am_n180, am_m180), (am_n181, am_m181), (am_n182, am_m182), (am_n183, am_m183), (am_n184, am_m184), (am_n185, am_m185), (am_n186, am_m186), (am_n187, am_m187), (am_n188, am_m188), (am_n189, am_m189), (am_n190, am_m190), (am_n191, am_m191)],
  [(am_n192, am_m192), (am_n193, am_m193), (am_n194, am_m194), (am_n195, am_m195), (am_n196, am_m196), (am_n197, am_m197), (am_n198, am_m198), (am_n199, am_m199), (am_n200, am_m200), (am_n201, am_m201), (am_n202, am_m202), (am_n203, am_m203), (am_n204, am_m204), (am_n205, am_m205), (am_n206, am_m206), (am_n207, am_m207)],
  [(am_n208, am_m208), (am_n209, am_m209), (am_n210, am_m210), (am_n211, am_m211), (am_n212, am_m212), (am_n213, am_m213), (am_n214, am_m214), (am_n215, am_m215), (am_n216, am_m216), (am_n217, am_m217), (am_n218, am_m218), (am_n219, am_m219), (am_n220, am_m220), (am_n221, am_m221), (am_n222, am_m222), (am_n223, am_m223)],
  [(am_n224, am_m224), (am_n225, am_m225), (am_n226, am_m226), (am_n227, am_m227), (am_n228, am_m228), (am_n229, am_m229), (am_n230, am_m230), (am_n231, am_m231), (am_n232, am_m232), (am_n233, am_m233), (am_n234, am_m234), (am_n235, am_m235), (am_n236, am_m236), (am_n237, am_m237), (am_n238, am_m238), (am_n239, am_m239)],
  [(am_n240, am_m240), (am_n241, am_m241), (am_n242, am_m242), (am_n243, am_m243), (am_n244, am_m244), (am_n245, am_m245), (am_n246, am_m246), (am_n247, am_m247), (am_n248, am_m248), (am_n249, am_m249), (am_n250, am_m250), (am_n251, am_m251), (am_n252, am_m252), (am_n253, am_m253), (am_n254, am_m254), (am_n255, am_m255)],
  [(am_n256, am_m256), (am_n257, am_m257), (am_n258, am_m258), (am_n259, am_m259), (am_n260, am_m260), (am_n261, am_m261), (am_n262, am_m262), (am_n263, am_m263), (am_n264, am_m264), (am_n265, am_m265), (am_n266, am_m266), (am_n267, am_m267), (am_n268, am_m268), (am_n269, am_m269), (am_n270, am_m270), (am_n271, am_m271)],
  [(am_n272, am_m272), (am_n273, am_m273), (am_n274, am_m274), (am_n275, am_m275), (am_n276, am_m276), (am_n277, am_m277), (am_n278, am_m278), (am_n279, am_m279), (am_n280, am_m280), (am_n281, am_m281), (am_n282, am_m282), (am_n283, am_m283), (am_n284, am_m284), (am_n285, am_m285), (am_n286, am_m286), (am_n287, am_m287)],
  [(am_n288, am_m288), (am_n289, am_m289), (am_n290, am_m290), (am_n291, am_m291), (am_n292, am_m292), (am_n293, am_m293), (am_n294, am_m294), (am_n295, am_m295), (am_n296, am_m296), (am_n297, am_m297), (am_n298, am_m298), (am_n299, am_m299), (am_n300, am_m300), (am_n301, am_m301), (am_n302, am_m302), (am_n303, am_m303)],
  [(am_n304, am_m304), (am_n305, am_m305), (am_n306, am_m306), (am_n307, am_m307), (am_n308, am_m308), (am_n309, am_m309), (am_n310, am_m310), (am_n311, am_m311), (am_n312, am_m312), (am_n313, am_m313), (am_n314, am_m314), (am_n315, am_m315), (am_n316, am_m316), (am_n317, am_m317), (am_n318, am_m318), (am_n319, am_m319)],
  [(am_n320, am_m320), (am_n321, am_m321), (am_n322, am_m322), (am_n323, am_m323), (am_n324, am_m324), (am_n325, am_m325), (am_n326, am_m326), (am_n327, am_m327), (am_n328, am_m328), (am_n329, am_m329), (am_n330, am_m330), (am_n331, am_m331), (am_n332, am_m332), (am_n333, am_m333), (am_n334, am_m334), (am_n335, am_m335)],
  [(am_n336, am_m336), (am_n337, am_m337), (am_n338, am_m338), (am_n339, am_m339), (am_n340, am_m340), (am_n341, am_m341), (am_n342, am_m342), (am_n343, am_m343), (am_n344, am_m344), (am_n345, am_m345), (am_n346, am_m346), (am_n347, am_m347), (am_n348, am_m348), (am_n349, am_m349), (am_n350, am_m350), (am_n351, am_m351)],
  [(am_n352, am_m352), (am_n353, am_m353), (am_n354, am_m354), (am_n355, am_m355), (am_n356, am_m356), (am_n357, am_m357), (am_n358, am_m358), (am_n359, am_m359), (am_n360, am_m360), (am_n361, am_m361), (am_n362, am_m362), (am_n363, am_m363), (am_n364, am_m364), (am_n365, am_m365), (am_n366, am_m366), (am_n367, am_m367)],
  [(am_n368, am_m368), (am_n369, am_m369), (am_n370, am_m370), (am_n371, am_m371), (am_n372, am_m372), (am_n373, am_m373), (am_n374, am_m374), (am_n375, am_m375), (am_n376, am_m376), (am_n377, am_m377), (am_n378, am_m378), (am_n379, am_m379), (am_n380, am_m380), (am_n381, am_m381), (am_n382, am_m382), (am_n383, am_m383)],
  [(am_n384, am_m384)]]
def amGx (k : Nat) : Option (amN × amM) := match amTT[k / 16]? with
  | some row => row[k % 16]?
  | none => none
def amGG (k : Nat) : Option amM := (amGx k).map (fun q => q.2)
def amXX (k : Nat) : Option amN := (amGx k).map (fun q => q.1)
end
section
/-! ===== the tables checked, 0 ===== -/
theorem am_c0 : amCode amGG amXX am_n0.1.cls am_n0.2.1 am_m0.2.2.2.1 am_m0.1 am_h0 = true := by decide +kernel
theorem am_k0 : amMkB am_n0 am_m0 am_g0 = true := by decide +kernel
theorem am_c1 : amCode amGG amXX am_n1.1.cls am_n1.2.1 am_m1.2.2.2.1 am_m1.1 am_h1 = true := by decide +kernel
theorem am_k1 : amMkB am_n1 am_m1 am_g1 = true := by decide +kernel
theorem am_c2 : amCode amGG amXX am_n2.1.cls am_n2.2.1 am_m2.2.2.2.1 am_m2.1 am_h2 = true := by decide +kernel
theorem am_k2 : amMkB am_n2 am_m2 am_g2 = true := by decide +kernel
theorem am_c3 : amCode amGG amXX am_n3.1.cls am_n3.2.1 am_m3.2.2.2.1 am_m3.1 am_h3 = true := by decide +kernel
theorem am_k3 : amMkB am_n3 am_m3 am_g3 = true := by decide +kernel
theorem am_c4 : amCode amGG amXX am_n4.1.cls am_n4.2.1 am_m4.2.2.2.1 am_m4.1 am_h4 = true := by decide +kernel
theorem am_k4 : amMkB am_n4 am_m4 am_g4 = true := by decide +kernel
theorem am_c5 : amCode amGG amXX am_n5.1.cls am_n5.2.1 am_m5.2.2.2.1 am_m5.1 am_h5 = true := by decide +kernel
theorem am_k5 : amMkB am_n5 am_m5 am_g5 = true := by decide +kernel
theorem am_c6 : amCode amGG amXX am_n6.1.cls am_n6.2.1 am_m6.2.2.2.1 am_m6.1 am_h6 = true := by decide +kernel
theorem am_k6 : amMkB am_n6 am_m6 am_g6 = true := by decide +kernel
theorem am_c7 : amCode amGG amXX am_n7.1.cls am_n7.2.1 am_m7.2.2.2.1 am_m7.1 am_h7 = true := by decide +kernel
theorem am_k7 : amMkB am_n7 am_m7 am_g7 = true := by decide +kernel
theorem am_c8 : amCode amGG amXX am_n8.1.cls am_n8.2.1 am_m8.2.2.2.1 am_m8.1 am_h8 = true := by decide +kernel
theorem am_k8 : amMkB am_n8 am_m8 am_g8 = true := by decide +kernel
theorem am_c9 : amCode amGG amXX am_n9.1.cls am_n9.2.1 am_m9.2.2.2.1 am_m9.1 am_h9 = true := by decide +kernel
theorem am_k9 : amMkB am_n9 am_m9 am_g9 = true := by decide +kernel
theorem am_c10 : amCode amGG amXX am_n10.1.cls am_n10.2.1 am_m10.2.2.2.1 am_m10.1 am_h10 = true := by decide +kernel
theorem am_k10 : amMkB am_n10 am_m10 am_g10 = true := by decide +kernel
theorem am_c11 : amCode amGG amXX am_n11.1.cls am_n11.2.1 am_m11.2.2.2.1 am_m11.1 am_h11 = true := by decide +kernel
theorem am_k11 : amMkB am_n11 am_m11 am_g11 = true := by decide +kernel
theorem am_c12 : amCode amGG amXX am_n12.1.cls am_n12.2.1 am_m12.2.2.2.1 am_m12.1 am_h12 = true := by decide +kernel
theorem am_k12 : amMkB am_n12 am_m12 am_g12 = true := by decide +kernel
theorem am_c13 : amCode amGG amXX am_n13.1.cls am_n13.2.1 am_m13.2.2.2.1 am_m13.1 am_h13 = true := by decide +kernel
theorem am_k13 : amMkB am_n13 am_m13 am_g13 = true := by decide +kernel
theorem am_c14 : amCode amGG amXX am_n14.1.cls am_n14.2.1 am_m14.2.2.2.1 am_m14.1 am_h14 = true := by decide +kernel
theorem am_k14 : amMkB am_n14 am_m14 am_g14 = true := by decide +kernel
theorem am_c15 : amCode amGG amXX am_n15.1.cls am_n15.2.1 am_m15.2.2.2.1 am_m15.1 am_h15 = true := by decide +kernel
theorem am_k15 : amMkB am_n15 am_m15 am_g15 = true := by decide +kernel
theorem am_c16 : amCode amGG amXX am_n16.1.cls am_n16.2.1 am_m16.2.2.2.1 am_m16.1 am_h16 = true := by decide +kernel
theorem am_k16 : amMkB am_n16 am_m16 am_g16 = true := by decide +kernel
theorem am_c17 : amCode amGG amXX am_n17.1.cls am_n17.2.1 am_m17.2.2.2.1 am_m17.1 am_h17 = true := by decide +kernel
theorem am_k17 : amMkB am_n17 am_m17 am_g17 = true := by decide +kernel
theorem am_c18 : amCode amGG amXX am_n18.1.cls am_n18.2.1 am_m18.2.2.2.1 am_m18.1 am_h18 = true := by decide +kernel
theorem am_k18 : amMkB am_n18 am_m18 am_g18 = true := by decide +kernel
theorem am_c19 : amCode amGG amXX am_n19.1.cls am_n19.2.1 am_m19.2.2.2.1 am_m19.1 am_h19 = true := by decide +kernel
theorem am_k19 : amMkB am_n19 am_m19 am_g19 = true := by decide +kernel
theorem am_c20 : amCode amGG amXX am_n20.1.cls am_n20.2.1 am_m20.2.2.2.1 am_m20.1 am_h20 = true := by decide +kernel
theorem am_k20 : amMkB am_n20 am_m20 am_g20 = true := by decide +kernel
theorem am_c21 : amCode amGG amXX am_n21.1.cls am_n21.2.1 am_m21.2.2.2.1 am_m21.1 am_h21 = true := by decide +kernel
theorem am_k21 : amMkB am_n21 am_m21 am_g21 = true := by decide +kernel
theorem am_c22 : amCode amGG amXX am_n22.1.cls am_n22.2.1 am_m22.2.2.2.1 am_m22.1 am_h22 = true := by decide +kernel
theorem am_k22 : amMkB am_n22 am_m22 am_g22 = true := by decide +kernel
theorem am_c23 : amCode amGG amXX am_n23.1.cls am_n23.2.1 am_m23.2.2.2.1 am_m23.1 am_h23 = true := by decide +kernel
theorem am_k23 : amMkB am_n23 am_m23 am_g23 = true := by decide +kernel
theorem am_c24 : amCode amGG amXX am_n24.1.cls am_n24.2.1 am_m24.2.2.2.1 am_m24.1 am_h24 = true := by decide +kernel
theorem am_k24 : amMkB am_n24 am_m24 am_g24 = true := by decide +kernel
theorem am_c25 : amCode amGG amXX am_n25.1.cls am_n25.2.1 am_m25.2.2.2.1 am_m25.1 am_h25 = true := by decide +kernel
theorem am_k25 : amMkB am_n25 am_m25 am_g25 = true := by decide +kernel
theorem am_c26 : amCode amGG amXX am_n26.1.cls am_n26.2.1 am_m26.2.2.2.1 am_m26.1 am_h26 = true := by decide +kernel
theorem am_k26 : amMkB am_n26 am_m26 am_g26 = true := by decide +kernel
theorem am_c27 : amCode amGG amXX am_n27.1.cls am_n27.2.1 am_m27.2.2.2.1 am_m27.1 am_h27 = true := by decide +kernel
theorem am_k27 : amMkB am_n27 am_m27 am_g27 = true := by decide +kernel
theorem am_c28 : amCode amGG amXX am_n28.1.cls am_n28.2.1 am_m28.2.2.2.1 am_m28.1 am_h28 = true := by decide +kernel
theorem am_k28 : amMkB am_n28 am_m28 am_g28 = true := by decide +kernel
theorem am_c29 : amCode amGG amXX am_n29.1.cls am_n29.2.1 am_m29.2.2.2.1 am_m29.1 am_h29 = true := by decide +kernel
theorem am_k29 : amMkB am_n29 am_m29 am_g29 = true := by decide +kernel
theorem am_c30 : amCode amGG amXX am_n30.1.cls am_n30.2.1 am_m30.2.2.2.1 am_m30.1 am_h30 = true := by decide +kernel
theorem am_k30 : amMkB am_n30 am_m30 am_g30 = true := by decide +kernel
theorem am_c31 : amCode amGG amXX am_n31.1.cls am_n31.2.1 am_m31.2.2.2.1 am_m31.1 am_h31 = true := by decide +kernel
theorem am_k31 : amMkB am_n31 am_m31 am_g31 = true := by decide +kernel
theorem am_c32 : amCode amGG amXX am_n32.1.cls am_n32.2.1 am_m32.2.2.2.1 am_m32.1 am_h32 = true := by decide +kernel
theorem am_k32 : amMkB am_n32 am_m32 am_g32 = true := by decide +kernel
theorem am_c33 : amCode amGG amXX am_n33.1.cls am_n33.2.1 am_m33.2.2.2.1 am_m33.1 am_h33 = true := by decide +kernel
theorem am_k33 : amMkB am_n33 am_m33 am_g33 = true := by decide +kernel
theorem am_c34 : amCode amGG amXX am_n34.1.cls am_n34.2.1 am_m34.2.2.2.1 am_m34.1 am_h34 = true := by decide +kernel
theorem am_k34 : amMkB am_n34 am_m34 am_g34 = true := by decide +kernel
theorem am_c35 : amCode amGG amXX am_n35.1.cls am_n35.2.1 am_m35.2.2.2.1 am_m35.1 am_h35 = true := by decide +kernel
theorem am_k35 : amMkB am_n35 am_m35 am_g35 = true := by decide +kernel
theorem am_c36 : amCode amGG amXX am_n36.1.cls am_n36.2.1 am_m36.2.2.2.1 am_m36.1 am_h36 = true := by decide +kernel
theorem am_k36 : amMkB am_n36 am_m36 am_g36 = true := by decide +kernel
theorem am_c37 : amCode amGG amXX am_n37.1.cls am_n37.2.1 am_m37.2.2.2.1 am_m37.1 am_h37 = true := by decide +kernel
theorem am_k37 : amMkB am_n37 am_m37 am_g37 = true := by decide +kernel
theorem am_c38 : amCode amGG amXX am_n38.1.cls am_n38.2.1 am_m38.2.2.2.1 am_m38.1 am_h38 = true := by decide +kernel
theorem am_k38 : amMkB am_n38 am_m38 am_g38 = true := by decide +kernel
theorem am_c39 : amCode amGG amXX am_n39.1.cls am_n39.2.1 am_m39.2.2.2.1 am_m39.1 am_h39 = true := by decide +kernel
theorem am_k39 : amMkB am_n39 am_m39 am_g39 = true := by decide +kernel
theorem am_c40 : amCode amGG amXX am_n40.1.cls am_n40.2.1 am_m40.2.2.2.1 am_m40.1 am_h40 = true := by decide +kernel
theorem am_k40 : amMkB am_n40 am_m40 am_g40 = true := by decide +kernel
theorem am_c41 : amCode amGG amXX am_n41.1.cls am_n41.2.1 am_m41.2.2.2.1 am_m41.1 am_h41 = true := by decide +kernel
theorem am_k41 : amMkB am_n41 am_m41 am_g41 = true := by decide +kernel
theorem am_c42 : amCode amGG amXX am_n42.1.cls am_n42.2.1 am_m42.2.2.2.1 am_m42.1 am_h42 = true := by decide +kernel
theorem am_k42 : amMkB am_n42 am_m42 am_g42 = true := by decide +kernel
theorem am_c43 : amCode amGG amXX am_n43.1.cls am_n43.2.1 am_m43.2.2.2.1 am_m43.1 am_h43 = true := by decide +kernel
theorem am_k43 : amMkB am_n43 am_m43 am_g43 = true := by decide +kernel
theorem am_c44 : amCode amGG amXX am_n44.1.cls am_n44.2.1 am_m44.2.2.2.1 am_m44.1 am_h44 = true := by decide +kernel
theorem am_k44 : amMkB am_n44 am_m44 am_g44 = true := by decide +kernel
theorem am_c45 : amCode amGG amXX am_n45.1.cls am_n45.2.1 am_m45.2.2.2.1 am_m45.1 am_h45 = true := by decide +kernel
theorem am_k45 : amMkB am_n45 am_m45 am_g45 = true := by decide +kernel
theorem am_c46 : amCode amGG amXX am_n46.1.cls am_n46.2.1 am_m46.2.2.2.1 am_m46.1 am_h46 = true := by decide +kernel
theorem am_k46 : amMkB am_n46 am_m46 am_g46 = true := by decide +kernel
theorem am_c47 : amCode amGG amXX am_n47.1.cls am_n47.2.1 am_m47.2.2.2.1 am_m47.1 am_h47 = true := by decide +kernel
theorem am_k47 : amMkB am_n47 am_m47 am_g47 = true := by decide +kernel
theorem am_t0 : ∀ t ∈ [(am_n0, am_m0), (am_n1, am_m1), (am_n2, am_m2), (am_n3, am_m3), (am_n4, am_m4), (am_n5, am_m5), (am_n6, am_m6), (am_n7, am_m7), (am_n8, am_m8), (am_n9, am_m9), (am_n10, am_m10), (am_n11, am_m11), (am_n12, am_m12), (am_n13, am_m13), (am_n14, am_m14), (am_n15, am_m15), (am_n16, am_m16), (am_n17, am_m17), (am_n18, am_m18), (am_n19, am_m19), (am_n20, am_m20), (am_n21, am_m21), (am_n22, am_m22), (am_n23, am_m23), (am_n24, am_m24), (am_n25, am_m25), (am_n26, am_m26), (am_n27, am_m27), (am_n28, am_m28), (am_n29, am_m29), (am_n30, am_m30), (am_n31, am_m31), (am_n32, am_m32), (am_n33, am_m33), (am_n34, am_m34), (am_n35, am_m35), (am_n36, am_m36), (am_n37, am_m37), (am_n38, am_m38), (am_n39, am_m39), (am_n40, am_m40), (am_n41, am_m41), (am_n42, am_m42), (am_n43, am_m43), (am_n44, am_m44), (am_n45, am_m45), (am_n46, am_m46), (am_n47, am_m47)], amMk amGG amXX t.1 t.2 := by
  intro t ht
  simp only [List.mem_cons, List.not_mem_nil, or_false] at ht
  rcases ht with rfl | rfl | rfl | rfl | rfl | rfl | rfl | rfl | rfl | rfl | rfl | rfl | rfl | rfl | rfl | rfl | rfl | rfl | rfl | rfl | rfl | rfl | rfl | rfl | rfl | rfl | rfl | rfl | rfl | rfl | rfl | rfl | rfl | rfl | rfl | rfl | rfl | rfl | rfl | rfl | rfl | rfl | rfl | rfl | rfl | rfl | rfl | rfl
  · exact amMkB_s am_k0 am_c0
  · exact amMkB_s am_k1 am_c1
  · exact amMkB_s am_k2 am_c2
  · exact amMkB_s am_k3 am_c3
  · exact amMkB_s am_k4 am_c4
  · exact amMkB_s am_k5 am_c5
  · exact amMkB_s am_k6 am_c6
  · exact amMkB_s am_k7 am_c7
  · exact amMkB_s am_k8 am_c8
  · exact amMkB_s am_k9 am_c9
  · exact amMkB_s am_k10 am_c10
  · exact amMkB_s am_k11 am_c11
  · exact amMkB_s am_k12 am_c12
  · exact amMkB_s am_k13 am_c13
  · exact amMkB_s am_k14 am_c14
  · exact amMkB_s am_k15 am_c15
  · exact amMkB_s am_k16 am_c16
  · exact amMkB_s am_k17 am_c17
  · exact amMkB_s am_k18 am_c18
  · exact amMkB_s am_k19 am_c19
  · exact amMkB_s am_k20 am_c20
  · exact amMkB_s am_k21 am_c21
  · exact amMkB_s am_k22 am_c22
  · exact amMkB_s am_k23 am_c23
  · exact amMkB_s am_k24 am_c24
  · exact amMkB_s am_k25 am_c25
  · exact amMkB_s am_k26 am_c26
  · exact amMkB_s am_k27 am_c27
  · exact amMkB_s am_k28 am_c28
  · exact amMkB_s am_k29 am_c29
  · exact amMkB_s am_k30 am_c30
  · exact amMkB_s am_k31 am_c31
  · exact amMkB_s am_k32 am_c32
  · exact amMkB_s am_k33 am_c33
  · exact amMkB_s am_k34 am_c34
  · exact amMkB_s am_k35 am_c35
  · exact amMkB_s am_k36 am_c36
  · exact amMkB_s am_k37 am_c37
  · exact amMkB_s am_k38 am_c38
  · exact amMkB_s am_k39 am_c39
  · exact amMkB_s am_k40 am_c40
  · exact amMkB_s am_k41 am_c41
  · exact amMkB_s am_k42 am_c42
  · exact amMkB_s am_k43 am_c43
  · exact amMkB_s am_k44 am_c44
  · exact amMkB_s am_k45 am_c45
  · exact amMkB_s am_k46 am_c46
  · exact amMkB_s am_k47 am_c47
end
section
/-! ===== the tables checked, 1 ===== -/
theorem am_c48 : amCode amGG amXX am_n48.1.cls am_n48.2.1 am_m48.2.2.2.1 am_m48.1 am_h48 = true := by decide +kernel
theorem am_k48 : amMkB am_n48 am_m48 am_g48 = true := by decide +kernel
theorem am_c49 : amCode amGG amXX am_n49.1.cls am_n49.2.1 am_m49.2.2.2.1 am_m49.1 am_h49 = true := by decide +kernel
theorem am_k49 : amMkB am_n49 am_m49 am_g49 = true := by decide +kernel
theorem am_c50 : amCode amGG amXX am_n50.1.cls am_n50.2.1 am_m50.2.2.2.1 am_m50.1 am_h50 = true := by decide +kernel
theorem am_k50 : amMkB am_n50 am_m50 am_g50 = true := by decide +kernel
theorem am_c51 : amCode amGG amXX am_n51.1.cls am_n51.2.1 am_m51.2.2.2.1 am_m51.1 am_h51 = true := by decide +kernel
theorem am_k51 : amMkB am_n51 am_m51 am_g51 = true := by decide +kernel
theorem am_c52 : amCode amGG amXX am_n52.1.cls am_n52.2.1 am_m52.2.2.2.1 am_m52.1 am_h52 = true := by decide +kernel
theorem am_k52 : amMkB am_n52 am_m52 am_g52 = true := by decide +kernel
theorem am_c53 : amCode amGG amXX am_n53.1.cls am_n53.2.1 am_m53.2.2.2.1 am_m53.1 am_h53 = true := by decide +kernel
theorem am_k53 : amMkB am_n53 am_m53 am_g53 = true := by decide +kernel
theorem am_c54 : amCode amGG amXX am_n54.1.cls am_n54.2.1 am_m54.2.2.2.1 am_m54.1 am_h54 = true := by decide +kernel
theorem am_k54 : amMkB am_n54 am_m54 am_g54 = true := by decide +kernel
theorem am_c55 : amCode amGG amXX am_n55.1.cls am_n55.2.1 am_m55.2.2.2.1 am_m55.1 am_h55 = true := by decide +kernel
theorem am_k55 : amMkB am_n55 am_m55 am_g55 = true := by decide +kernel
theorem am_c56 : amCode amGG amXX am_n56.1.cls am_n56.2.1 am_m56.2.2.2.1 am_m56.1 am_h56 = true := by decide +kernel
theorem am_k56 : amMkB am_n56 am_m56 am_g56 = true := by decide +kernel
theorem am_c57 : amCode amGG amXX am_n57.1.cls am_n57.2.1 am_m57.2.2.2.1 am_m57.1 am_h57 = true := by decide +kernel
theorem am_k57 : amMkB am_n57 am_m57 am_g57 = true := by decide +kernel
theorem am_c58 : amCode amGG amXX am_n58.1.cls am_n58.2.1 am_m58.2.2.2.1 am_m58.1 am_h58 = true := by decide +kernel
theorem am_k58 : amMkB am_n58 am_m58 am_g58 = true := by decide +kernel
theorem am_c59 : amCode amGG amXX am_n59.1.cls am_n59.2.1 am_m59.2.2.2.1 am_m59.1 am_h59 = true := by decide +kernel
theorem am_k59 : amMkB am_n59 am_m59 am_g59 = true := by decide +kernel
theorem am_c60 : amCode amGG amXX am_n60.1.cls am_n60.2.1 am_m60.2.2.2.1 am_m60.1 am_h60 = true := by decide +kernel
theorem am_k60 : amMkB am_n60 am_m60 am_g60 = true := by decide +kernel
theorem am_c61 : amCode amGG amXX am_n61.1.cls am_n61.2.1 am_m61.2.2.2.1 am_m61.1 am_h61 = true := by decide +kernel
theorem am_k61 : amMkB am_n61 am_m61 am_g61 = true := by decide +kernel
theorem am_c62 : amCode amGG amXX am_n62.1.cls am_n62.2.1 am_m62.2.2.2.1 am_m62.1 am_h62 = true := by decide +kernel
theorem am_k62 : amMkB am_n62 am_m62 am_g62 = true := by decide +kernel
theorem am_c63 : amCode amGG amXX am_n63.1.cls am_n63.2.1 am_m63.2.2.2.1 am_m63.1 am_h63 = true := by decide +kernel
theorem am_k63 : amMkB am_n63 am_m63 am_g63 = true := by decide +kernel
theorem am_c64 : amCode amGG amXX am_n64.1.cls am_n64.2.1 am_m64.2.2.2.1 am_m64.1 am_h64 = true := by decide +kernel
theorem am_k64 : amMkB am_n64 am_m64 am_g64 = true := by decide +kernel
theorem am_c65 : amCode amGG amXX am_n65.1.cls am_n65.2.1 am_m65.2.2.2.1 am_m65.1 am_h65 = true := by decide +kernel
theorem am_k65 : amMkB am_n65 am_m65 am_g65 = true := by decide +kernel
theorem am_c66 : amCode amGG amXX am_n66.1.cls am_n66.2.1 am_m66.2.2.2.1 am_m66.1 am_h66 = true := by decide +kernel
theorem am_k66 : amMkB am_n66 am_m66 am_g66 = true := by decide +kernel
theorem am_c67 : amCode amGG amXX am_n67.1.cls am_n67.2.1 am_m67.2.2.2.1 am_m67.1 am_h67 = true := by decide +kernel
theorem am_k67 : amMkB am_n67 am_m67 am_g67 = true := by decide +kernel
theorem am_c68 : amCode amGG amXX am_n68.1.cls am_n68.2.1 am_m68.2.2.2.1 am_m68.1 am_h68 = true := by decide +kernel
theorem am_k68 : amMkB am_n68 am_m68 am_g68 = true := by decide +kernel
theorem am_c69 : amCode amGG amXX am_n69.1.cls am_n69.2.1 am_m69.2.2.2.1 am_m69.1 am_h69 = true := by decide +kernel
theorem am_k69 : amMkB am_n69 am_m69 am_g69 = true := by decide +kernel
theorem am_c70 : amCode amGG amXX am_n70.1.cls am_n70.2.1 am_m70.2.2.2.1 am_m70.1 am_h70 = true := by decide +kernel
theorem am_k70 : amMkB am_n70 am_m70 am_g70 = true := by decide +kernel
theorem am_c71 : amCode amGG amXX am_n71.1.cls am_n71.2.1 am_m71.2.2.2.1 am_m71.1 am_h71 = true := by decide +kernel
theorem am_k71 : amMkB am_n71 am_m71 am_g71 = true := by decide +kernel
theorem am_c72 : amCode amGG amXX am_n72.1.cls am_n72.2.1 am_m72.2.2.2.1 am_m72.1 am_h72 = true := by decide +kernel
theorem am_k72 : amMkB am_n72 am_m72 am_g72 = true := by decide +kernel
theorem am_c73 : amCode amGG amXX am_n73.1.cls am_n73.2.1 am_m73.2.2.2.1 am_m73.1 am_h73 = true := by decide +kernel
theorem am_k73 : amMkB am_n73 am_m73 am_g73 = true := by decide +kernel
theorem am_c74 : amCode amGG amXX am_n74.1.cls am_n74.2.1 am_m74.2.2.2.1 am_m74.1 am_h74 = true := by decide +kernel
theorem am_k74 : amMkB am_n74 am_m74 am_g74 = true := by decide +kernel
theorem am_c75 : amCode amGG amXX am_n75.1.cls am_n75.2.1 am_m75.2.2.2.1 am_m75.1 am_h75 = true := by decide +kernel
theorem am_k75 : amMkB am_n75 am_m75 am_g75 = true := by decide +kernel
theorem am_c76 : amCode amGG amXX am_n76.1.cls am_n76.2.1 am_m76.2.2.2.1 am_m76.1 am_h76 = true := by decide +kernel
theorem am_k76 : amMkB am_n76 am_m76 am_g76 = true := by decide +kernel
theorem am_c77 : amCode amGG amXX am_n77.1.cls am_n77.2.1 am_m77.2.2.2.1 am_m77.1 am_h77 = true := by decide +kernel
theorem am_k77 : amMkB am_n77 am_m77 am_g77 = true := by decide +kernel
theorem am_c78 : amCode amGG amXX am_n78.1.cls am_n78.2.1 am_m78.2.2.2.1 am_m78.1 am_h78 = true := by decide +kernel
theorem am_k78 : amMkB am_n78 am_m78 am_g78 = true := by decide +kernel
theorem am_c79 : amCode amGG amXX am_n79.1.cls am_n79.2.1 am_m79.2.2.2.1 am_m79.1 am_h79 = true := by decide +kernel
theorem am_k79 : amMkB am_n79 am_m79 am_g79 = true := by decide +kernel
theorem am_c80 : amCode amGG amXX am_n80.1.cls am_n80.2.1 am_m80.2.2.2.1 am_m80.1 am_h80 = true := by decide +kernel
theorem am_k80 : amMkB am_n80 am_m80 am_g80 = true := by decide +kernel
theorem am_c81 : amCode amGG amXX am_n81.1.cls am_n81.2.1 am_m81.2.2.2.1 am_m81.1 am_h81 = true := by decide +kernel
theorem am_k81 : amMkB am_n81 am_m81 am_g81 = true := by decide +kernel
theorem am_c82 : amCode amGG amXX am_n82.1.cls am_n82.2.1 am_m82.2.2.2.1 am_m82.1 am_h82 = true := by decide +kernel
theorem am_k82 : amMkB am_n82 am_m82 am_g82 = true := by decide +kernel
theorem am_c83 : amCode amGG amXX am_n83.1.cls am_n83.2.1 am_m83.2.2.2.1 am_m83.1 am_h83 = true := by decide +kernel
theorem am_k83 : amMkB am_n83 am_m83 am_g83 = true := by decide +kernel
theorem am_c84 : amCode amGG amXX am_n84.1.cls am_n84.2.1 am_m84.2.2.2.1 am_m84.1 am_h84 = true := by decide +kernel
theorem am_k84 : amMkB am_n84 am_m84 am_g84 = true := by decide +kernel
theorem am_c85 : amCode amGG amXX am_n85.1.cls am_n85.2.1 am_m85.2.2.2.1 am_m85.1 am_h85 = true := by decide +kernel
theorem am_k85 : amMkB am_n85 am_m85 am_g85 = true := by decide +kernel
theorem am_c86 : amCode amGG amXX am_n86.1.cls am_n86.2.1 am_m86.2.2.2.1 am_m86.1 am_h86 = true := by decide +kernel
theorem am_k86 : amMkB am_n86 am_m86 am_g86 = true := by decide +kernel
theorem am_c87 : amCode amGG amXX am_n87.1.cls am_n87.2.1 am_m87.2.2.2.1 am_m87.1 am_h87 = true := by decide +kernel
theorem am_k87 : amMkB am_n87 am_m87 am_g87 = true := by decide +kernel
theorem am_c88 : amCode amGG amXX am_n88.1.cls am_n88.2.1 am_m88.2.2.2.1 am_m88.1 am_h88 = true := by decide +kernel
theorem am_k88 : amMkB am_n88 am_m88 am_g88 = true := by decide +kernel
theorem am_c89 : amCode amGG amXX am_n89.1.cls am_n89.2.1 am_m89.2.2.2.1 am_m89.1 am_h89 = true := by decide +kernel
theorem am_k89 : amMkB am_n89 am_m89 am_g89 = true := by decide +kernel
theorem am_c90 : amCode amGG amXX am_n90.1.cls am_n90.2.1 am_m90.2.2.2.1 am_m90.1 am_h90 = true := by decide +kernel
theorem am_k90 : amMkB am_n90 am_m90 am_g90 = true := by decide +kernel
theorem am_c91 : amCode amGG amXX am_n91.1.cls am_n91.2.1 am_m91.2.2.2.1 am_m91.1 am_h91 = true := by decide +kernel
theorem am_k91 : amMkB am_n91 am_m91 am_g91 = true := by decide +kernel
theorem am_c92 : amCode amGG amXX am_n92.1.cls am_n92.2.1 am_m92.2.2.2.1 am_m92.1 am_h92 = true := by decide +kernel
theorem am_k92 : amMkB am_n92 am_m92 am_g92 = true := by decide +kernel
theorem am_c93 : amCode amGG amXX am_n93.1.cls am_n93.2.1 am_m93.2.2.2.1 am_m93.1 am_h93 = true := by decide +kernel
theorem am_k93 : amMkB am_n93 am_m93 am_g93 = true := by decide +kernel
theorem am_c94 : amCode amGG amXX am_n94.1.cls am_n94.2.1 am_m94.2.2.2.1 am_m94.1 am_h94 = true := by decide +kernel
theorem am_k94 : amMkB am_n94 am_m94 am_g94 = true := by decide +kernel
theorem am_c95 : amCode amGG amXX am_n95.1.cls am_n95.2.1 am_m95.2.2.2.1 am_m95.1 am_h95 = true := by decide +kernel
theorem am_k95 : amMkB am_n95 am_m95 am_g95 = true := by decide +kernel
theorem am_t1 : ∀ t ∈ [(am_n48, am_m48), (am_n49, am_m49), (am_n50, am_m50), (am_n51, am_m51), (am_n52, am_m52), (am_n53, am_m53), (am_n54, am_m54), (am_n55, am_m55), (am_n56, am_m56), (am_n57, am_m57), (am_n58, am_m58), (am_n59, am_m59), (am_n60, am_m60), (am_n61, am_m61), (am_n62, am_m62), (am_n63, am_m63), (am_n64, am_m64), (am_n65, am_m65), (am_n66, am_m66), (am_n67, am_m67), (am_n68, am_m68), (am_n69, am_m69), (am_n70, am_m70), (am_n71, am_m71), (am_n72, am_m72), (am_n73, am_m73), (am_n74, am_m74), (am_n75, am_m75), (am_n76, am_m76), (am_n77, am_m77), (am_n78, am_m78), (am_n79, am_m79), (am_n80, am_m80), (am_n81, am_m81), (am_n82, am_m82), (am_n83, am_m83), (am_n84, am_m84), (am_n85, am_m85), (am_n86, am_m86), (am_n87, am_m87), (am_n88, am_m88), (am_n89, am_m89), (am_n90, am_m90), (am_n91, am_m91), (am_n92, am_m92), (am_n93, am_m93), (am_n94, am_m94), (am_n95, am_m95)], amMk amGG amXX t.1 t.2 := by
  intro t ht
  simp only [List.mem_cons, List.not_mem_nil, or_false] at ht
  rcases ht with rfl | rfl | rfl | rfl | rfl | rfl | rfl | rfl | rfl | rfl | rfl | rfl | rfl | rfl | rfl | rfl | rfl | rfl | rfl | rfl | rfl | rfl | rfl | rfl | rfl | rfl | rfl | rfl | rfl | rfl | rfl | rfl | rfl | rfl | rfl | rfl | rfl | rfl | rfl | rfl | rfl | rfl | rfl | rfl | rfl | rfl | rfl | rfl
  · exact amMkB_s am_k48 am_c48
  · exact amMkB_s am_k49 am_c49
  · exact amMkB_s am_k50 am_c50
  · exact amMkB_s am_k51 am_c51
  · exact amMkB_s am_k52 am_c52
  · exact amMkB_s am_k53 am_c53
  · exact amMkB_s am_k54 am_c54
  · exact amMkB_s am_k55 am_c55
  · exact amMkB_s am_k56 am_c56
  · exact amMkB_s am_k57 am_c57
  · exact amMkB_s am_k58 am_c58
  · exact amMkB_s am_k59 am_c59
  · exact amMkB_s am_k60 am_c60
  · exact amMkB_s am_k61 am_c61
  · exact amMkB_s am_k62 am_c62
  · exact amMkB_s am_k63 am_c63
  · exact amMkB_s am_k64 am_c64
  · exact amMkB_s am_k65 am_c65
  · exact amMkB_s am_k66 am_c66
  · exact amMkB_s am_k67 am_c67
  · exact amMkB_s am_k68 am_c68
  · exact amMkB_s am_k69 am_c69
  · exact amMkB_s am_k70 am_c70
  · exact amMkB_s am_k71 am_c71
  · exact amMkB_s am_k72 am_c72
  · exact amMkB_s am_k73 am_c73
  · exact amMkB_s am_k74 am_c74
  · exact amMkB_s am_k75 am_c75
  · exact amMkB_s am_k76 am_c76
  · exact amMkB_s am_k77 am_c77
  · exact amMkB_s am_k78 am_c78
  · exact amMkB_s am_k79 am_c79
  · exact amMkB_s am_k80 am_c80
  · exact amMkB_s am_k81 am_c81
  · exact amMkB_s am_k82 am_c82
  · exact amMkB_s am_k83 am_c83
  · exact amMkB_s am_k84 am_c84
  · exact amMkB_s am_k85 am_c85
  · exact amMkB_s am_k86 am_c86
  · exact amMkB_s am_k87 am_c87
  · exact amMkB_s am_k88 am_c88
  · exact amMkB_s am_k89 am_c89
  · exact amMkB_s am_k90 am_c90
  · exact amMkB_s am_k91 am_c91
  · exact amMkB_s am_k92 am_c92
  · exact amMkB_s am_k93 am_c93
  · exact amMkB_s am_k94 am_c94
  · exact amMkB_s am_k95 am_c95
end
section
/-! ===== the tables checked, 2 ===== -/
theorem am_c96 : amCode amGG amXX am_n96.1.cls am_n96.2.1 am_m96.2.2.2.1 am_m96.1 am_h96 = true := by decide +kernel
theorem am_k96 : amMkB am_n96 am_m96 am_g96 = true := by decide +kernel
theorem am_c97 : amCode amGG amXX am_n97.1.cls am_n97.2.1 am_m97.2.2.2.1 am_m97.1 am_h97 = true := by decide +kernel
theorem am_k97 : amMkB am_n97 am_m97 am_g97 = true := by decide +kernel
theorem am_c98 : amCode amGG amXX am_n98.1.cls am_n98.2.1 am_m98.2.2.2.1 am_m98.1 am_h98 = true := by decide +kernel
theorem am_k98 : amMkB am_n98 am_m98 am_g98 = true := by decide +kernel
theorem am_c99 : amCode amGG amXX am_n99.1.cls am_n99.2.1 am_m99.2.2.2.1 am_m99.1 am_h99 = true := by decide +kernel
theorem am_k99 : amMkB am_n99 am_m99 am_g99 = true := by decide +kernel
theorem am_c100 : amCode amGG amXX am_n100.1.cls am_n100.2.1 am_m100.2.2.2.1 am_m100.1 am_h100 = true := by decide +kernel
theorem am_k100 : amMkB am_n100 am_m100 am_g100 = true := by decide +kernel
theorem am_c101 : amCode amGG amXX am_n101.1.cls am_n101.2.1 am_m101.2.2.2.1 am_m101.1 am_h101 = true := by decide +kernel
theorem am_k101 : amMkB am_n101 am_m101 am_g101 = true := by decide +kernel
theorem am_c102 : amCode amGG amXX am_n102.1.cls am_n102.2.1 am_m102.2.2.2.1 am_m102.1 am_h102 = true := by decide +kernel
theorem am_k102 : amMkB am_n102 am_m102 am_g102 = true := by decide +kernel
theorem am_c103 : amCode amGG amXX am_n103.1.cls am_n103.2.1 am_m103.2.2.2.1 am_m103.1 am_h103 = true := by decide +kernel
theorem am_k103 : amMkB am_n103 am_m103 am_g103 = true := by decide +kernel
theorem am_c104 : amCode amGG amXX am_n104.1.cls am_n104.2.1 am_m104.2.2.2.1 am_m104.1 am_h104 = true := by decide +kernel
theorem am_k104 : amMkB am_n104 am_m104 am_g104 = true := by decide +kernel
theorem am_c105 : amCode amGG amXX am_n105.1.cls am_n105.2.1 am_m105.2.2.2.1 am_m105.1 am_h105 = true := by decide +kernel
theorem am_k105 : amMkB am_n105 am_m105 am_g105 = true := by decide +kernel
theorem am_c106 : amCode amGG amXX am_n106.1.cls am_n106.2.1 am_m106.2.2.2.1 am_m106.1 am_h106 = true := by decide +kernel
theorem am_k106 : amMkB am_n106 am_m106 am_g106 = true := by decide +kernel
theorem am_c107 : amCode amGG amXX am_n107.1.cls am_n107.2.1 am_m107.2.2.2.1 am_m107.1 am_h107 = true := by decide +kernel
theorem am_k107 : amMkB am_n107 am_m107 am_g107 = true := by decide +kernel
theorem am_c108 : amCode amGG amXX am_n108.1.cls am_n108.2.1 am_m108.2.2.2.1 am_m108.1 am_h108 = true := by decide +kernel
theorem am_k108 : amMkB am_n108 am_m108 am_g108 = true := by decide +kernel
theorem am_c109 : amCode amGG amXX am_n109.1.cls am_n109.2.1 am_m109.2.2.2.1 am_m109.1 am_h109 = true := by decide +kernel
theorem am_k109 : amMkB am_n109 am_m109 am_g109 = true := by decide +kernel
theorem am_c110 : amCode amGG amXX am_n110.1.cls am_n110.2.1 am_m110.2.2.2.1 am_m110.1 am_h110 = true := by decide +kernel
theorem am_k110 : amMkB am_n110 am_m110 am_g110 = true := by decide +kernel
theorem am_c111 : amCode amGG amXX am_n111.1.cls am_n111.2.1 am_m111.2.2.2.1 am_m111.1 am_h111 = true := by decide +kernel
theorem am_k111 : amMkB am_n111 am_m111 am_g111 = true := by decide +kernel
theorem am_c112 : amCode amGG amXX am_n112.1.cls am_n112.2.1 am_m112.2.2.2.1 am_m112.1 am_h112 = true := by decide +kernel
theorem am_k112 : amMkB am_n112 am_m112 am_g112 = true := by decide +kernel
theorem am_c113 : amCode amGG amXX am_n113.1.cls am_n113.2.1 am_m113.2.2.2.1 am_m113.1 am_h113 = true := by decide +kernel
theorem am_k113 : amMkB am_n113 am_m113 am_g113 = true := by decide +kernel
theorem am_c114 : amCode amGG amXX am_n114.1.cls am_n114.2.1 am_m114.2.2.2.1 am_m114.1 am_h114 = true := by decide +kernel
theorem am_k114 : amMkB am_n114 am_m114 am_g114 = true := by decide +kernel
theorem am_c115 : amCode amGG amXX am_n115.1.cls am_n115.2.1 am_m115.2.2.2.1 am_m115.1 am_h115 = true := by decide +kernel
theorem am_k115 : amMkB am_n115 am_m115 am_g115 = true := by decide +kernel
theorem am_c116 : amCode amGG amXX am_n116.1.cls am_n116.2.1 am_m116.2.2.2.1 am_m116.1 am_h116 = true := by decide +kernel
theorem am_k116 : amMkB am_n116 am_m116 am_g116 = true := by decide +kernel
theorem am_c117 : amCode amGG amXX am_n117.1.cls am_n117.2.1 am_m117.2.2.2.1 am_m117.1 am_h117 = true := by decide +kernel
theorem am_k117 : amMkB am_n117 am_m117 am_g117 = true := by decide +kernel
theorem am_c118 : amCode amGG amXX am_n118.1.cls am_n118.2.1 am_m118.2.2.2.1 am_m118.1 am_h118 = true := by decide +kernel
theorem am_k118 : amMkB am_n118 am_m118 am_g118 = true := by decide +kernel
theorem am_c119 : amCode amGG amXX am_n119.1.cls am_n119.2.1 am_m119.2.2.2.1 am_m119.1 am_h119 = true := by decide +kernel
theorem am_k119 : amMkB am_n119 am_m119 am_g119 = true := by decide +kernel
theorem am_c120 : amCode amGG amXX am_n120.1.cls am_n120.2.1 am_m120.2.2.2.1 am_m120.1 am_h120 = true := by decide +kernel
theorem am_k120 : amMkB am_n120 am_m120 am_g120 = true := by decide +kernel
theorem am_c121 : amCode amGG amXX am_n121.1.cls am_n121.2.1 am_m121.2.2.2.1 am_m121.1 am_h121 = true := by decide +kernel
theorem am_k121 : amMkB am_n121 am_m121 am_g121 = true := by decide +kernel
theorem am_c122 : amCode amGG amXX am_n122.1.cls am_n122.2.1 am_m122.2.2.2.1 am_m122.1 am_h122 = true := by decide +kernel
theorem am_k122 : amMkB am_n122 am_m122 am_g122 = true := by decide +kernel
theorem am_c123 : amCode amGG amXX am_n123.1.cls am_n123.2.1 am_m123.2.2.2.1 am_m123.1 am_h123 = true := by decide +kernel
theorem am_k123 : amMkB am_n123 am_m123 am_g123 = true := by decide +kernel
theorem am_c124 : amCode amGG amXX am_n124.1.cls am_n124.2.1 am_m124.2.2.2.1 am_m124.1 am_h124 = true := by decide +kernel
theorem am_k124 : amMkB am_n124 am_m124 am_g124 = true := by decide +kernel
theorem am_c125 : amCode amGG amXX am_n125.1.cls am_n125.2.1 am_m125.2.2.2.1 am_m125.1 am_h125 = true := by decide +kernel
theorem am_k125 : amMkB am_n125 am_m125 am_g125 = true := by decide +kernel
theorem am_c126 : amCode amGG amXX am_n126.1.cls am_n126.2.1 am_m126.2.2.2.1 am_m126.1 am_h126 = true := by decide +kernel
theorem am_k126 : amMkB am_n126 am_m126 am_g126 = true := by decide +kernel
theorem am_c127 : amCode amGG amXX am_n127.1.cls am_n127.2.1 am_m127.2.2.2.1 am_m127.1 am_h127 = true := by decide +kernel
theorem am_k127 : amMkB am_n127 am_m127 am_g127 = true := by decide +kernel
theorem am_c128 : amCode amGG amXX am_n128.1.cls am_n128.2.1 am_m128.2.2.2.1 am_m128.1 am_h128 = true := by decide +kernel
theorem am_k128 : amMkB am_n128 am_m128 am_g128 = true := by decide +kernel
theorem am_c129 : amCode amGG amXX am_n129.1.cls am_n129.2.1 am_m129.2.2.2.1 am_m129.1 am_h129 = true := by decide +kernel
theorem am_k129 : amMkB am_n129 am_m129 am_g129 = true := by decide +kernel
theorem am_c130 : amCode amGG amXX am_n130.1.cls am_n130.2.1 am_m130.2.2.2.1 am_m130.1 am_h130 = true := by decide +kernel
theorem am_k130 : amMkB am_n130 am_m130 am_g130 = true := by decide +kernel
theorem am_c131 : amCode amGG amXX am_n131.1.cls am_n131.2.1 am_m131.2.2.2.1 am_m131.1 am_h131 = true := by decide +kernel
theorem am_k131 : amMkB am_n131 am_m131 am_g131 = true := by decide +kernel
theorem am_c132 : amCode amGG amXX am_n132.1.cls am_n132.2.1 am_m132.2.2.2.1 am_m132.1 am_h132 = true := by decide +kernel
theorem am_k132 : amMkB am_n132 am_m132 am_g132 = true := by decide +kernel
theorem am_c133 : amCode amGG amXX am_n133.1.cls am_n133.2.1 am_m133.2.2.2.1 am_m133.1 am_h133 = true := by decide +kernel
theorem am_k133 : amMkB am_n133 am_m133 am_g133 = true := by decide +kernel
theorem am_c134 : amCode amGG amXX am_n134.1.cls am_n134.2.1 am_m134.2.2.2.1 am_m134.1 am_h134 = true := by decide +kernel
theorem am_k134 : amMkB am_n134 am_m134 am_g134 = true := by decide +kernel
theorem am_c135 : amCode amGG amXX am_n135.1.cls am_n135.2.1 am_m135.2.2.2.1 am_m135.1 am_h135 = true := by decide +kernel
theorem am_k135 : amMkB am_n135 am_m135 am_g135 = true := by decide +kernel
theorem am_c136 : amCode amGG amXX am_n136.1.cls am_n136.2.1 am_m136.2.2.2.1 am_m136.1 am_h136 = true := by decide +kernel
theorem am_k136 : amMkB am_n136 am_m136 am_g136 = true := by decide +kernel
theorem am_c137 : amCode amGG amXX am_n137.1.cls am_n137.2.1 am_m137.2.2.2.1 am_m137.1 am_h137 = true := by decide +kernel
theorem am_k137 : amMkB am_n137 am_m137 am_g137 = true := by decide +kernel
theorem am_c138 : amCode amGG amXX am_n138.1.cls am_n138.2.1 am_m138.2.2.2.1 am_m138.1 am_h138 = true := by decide +kernel
theorem am_k138 : amMkB am_n138 am_m138 am_g138 = true := by decide +kernel
theorem am_c139 : amCode amGG amXX am_n139.1.cls am_n139.2.1 am_m139.2.2.2.1 am_m139.1 am_h139 = true := by decide +kernel
theorem am_k139 : amMkB am_n139 am_m139 am_g139 = true := by decide +kernel
theorem am_c140 : amCode amGG amXX am_n140.1.cls am_n140.2.1 am_m140.2.2.2.1 am_m140.1 am_h140 = true := by decide +kernel
theorem am_k140 : amMkB am_n140 am_m140 am_g140 = true := by decide +kernel
theorem am_c141 : amCode amGG amXX am_n141.1.cls am_n141.2.1 am_m141.2.2.2.1 am_m141.1 am_h141 = true := by decide +kernel
theorem am_k141 : amMkB am_n141 am_m141 am_g141 = true := by decide +kernel
theorem am_c142 : amCode amGG amXX am_n142.1.cls am_n142.2.1 am_m142.2.2.2.1 am_m142.1 am_h142 = true := by decide +kernel
theorem am_k142 : amMkB am_n142 am_m142 am_g142 = true := by decide +kernel
theorem am_c143 : amCode amGG amXX am_n143.1.cls am_n143.2.1 am_m143.2.2.2.1 am_m143.1 am_h143 = true := by decide +kernel
theorem am_k143 : amMkB am_n143 am_m143 am_g143 = true := by decide +kernel
theorem am_t2 : ∀ t ∈ [(am_n96, am_m96), (am_n97, am_m97), (am_n98, am_m98), (am_n99, am_m99), (am_n100, am_m100), (am_n101, am_m101), (am_n102, am_m102), (am_n103, am_m103), (am_n104, am_m104), (am_n105, am_m105), (am_n106, am_m106), (am_n107, am_m107), (am_n108, am_m108), (am_n109, am_m109), (am_n110, am_m110), (am_n111, am_m111), (am_n112, am_m112), (am_n113, am_m113), (am_n114, am_m114), (am_n115, am_m115), (am_n116, am_m116), (am_n117, am_m117), (am_n118, am_m118), (am_n119, am_m119), (am_n120, am_m120), (am_n121, am_m121), (am_n122, am_m122), (am_n123, am_m123), (am_n124, am_m124), (am_n125, am_m125), (am_n126, am_m126), (am_n127, am_m127), (am_n128, am_m128), (am_n129, am_m129), (am_n130, am_m130), (am_n131, am_m131), (am_n132, am_m132), (am_n133, am_m133), (am_n134, am_m134), (am_n135, am_m135), (am_n136, am_m136), (am_n137, am_m137), (am_n138, am_m138), (am_n139, am_m139), (am_n140, am_m140), (am_n141, am_m141), (am_n142, am_m142), (am_n143, am_m143)], amMk amGG amXX t.1 t.2 := by
  intro t ht
  simp only [List.mem_cons, List.not_mem_nil, or_false] at ht
  rcases ht with rfl | rfl | rfl | rfl | rfl | rfl | rfl | rfl | rfl | rfl | rfl | rfl | rfl | rfl | rfl | rfl | rfl | rfl | rfl | rfl | rfl | rfl | rfl | rfl | rfl | rfl | rfl | rfl | rfl | rfl | rfl | rfl | rfl | rfl | rfl | rfl | rfl | rfl | rfl | rfl | rfl | rfl | rfl | rfl | rfl | rfl | rfl | rfl
  · exact amMkB_s am_k96 am_c96
  · exact amMkB_s am_k97 am_c97
  · exact amMkB_s am_k98 am_c98
  · exact amMkB_s am_k99 am_c99
  · exact amMkB_s am_k100 am_c100
  · exact amMkB_s am_k101 am_c101
  · exact amMkB_s am_k102 am_c102
  · exact amMkB_s am_k103 am_c103
  · exact amMkB_s am_k104 am_c104
  · exact amMkB_s am_k105 am_c105
  · exact amMkB_s am_k106 am_c106
  · exact amMkB_s am_k107 am_c107
  · exact amMkB_s am_k108 am_c108
  · exact amMkB_s am_k109 am_c109
  · exact amMkB_s am_k110 am_c110
  · exact amMkB_s am_k111 am_c111
  · exact amMkB_s am_k112 am_c112
  · exact amMkB_s am_k113 am_c113
  · exact amMkB_s am_k114 am_c114
  · exact amMkB_s am_k115 am_c115
  · exact amMkB_s am_k116 am_c116
  · exact amMkB_s am_k117 am_c117
  · exact amMkB_s am_k118 am_c118
  · exact amMkB_s am_k119 am_c119
  · exact amMkB_s am_k120 am_c120
  · exact amMkB_s am_k121 am_c121
  · exact amMkB_s am_k122 am_c122
  · exact amMkB_s am_k123 am_c123
  · exact amMkB_s am_k124 am_c124
  · exact amMkB_s am_k125 am_c125
  · exact amMkB_s am_k126 am_c126
  · exact amMkB_s am_k127 am_c127
  · exact amMkB_s am_k128 am_c128
  · exact amMkB_s am_k129 am_c129
  · exact amMkB_s am_k130 am_c130
  · exact amMkB_s am_k131 am_c131
  · exact amMkB_s am_k132 am_c132
  · exact amMkB_s am_k133 am_c133
  · exact amMkB_s am_k134 am_c134
  · exact amMkB_s am_k135 am_c135
  · exact amMkB_s am_k136 am_c136
  · exact amMkB_s am_k137 am_c137
  · exact amMkB_s am_k138 am_c138
  · exact amMkB_s am_k139 am_c139
  · exact amMkB_s am_k140 am_c140
  · exact amMkB_s am_k141 am_c141
  · exact amMkB_s am_k142 am_c142
  · exact amMkB_s am_k143 am_c143
end
section
/-! ===== the tables checked, 3 ===== -/
theorem am_c144 : amCode amGG amXX am_n144.1.cls am_n144.2.1 am_m144.2.2.2.1 am_m144.1 am_h144 = true := by decide +kernel
theorem am_k144 : amMkB am_n144 am_m144 am_g144 = true := by decide +kernel
theorem am_c145 : amCode amGG amXX am_n145.1.cls am_n145.2.1 am_m145.2.2.2.1 am_m145.1 am_h145 = true := by decide +kernel
theorem am_k145 : amMkB am_n145 am_m145 am_g145 = true := by decide +kernel
theorem am_c146 : amCode amGG amXX am_n146.1.cls am_n146.2.1 am_m146.2.2.2.1 am_m146.1 am_h146 = true := by decide +kernel
theorem am_k146 : amMkB am_n146 am_m146 am_g146 = true := by decide +kernel
theorem am_c147 : amCode amGG amXX am_n147.1.cls am_n147.2.1 am_m147.2.2.2.1 am_m147.1 am_h147 = true := by decide +kernel
theorem am_k147 : amMkB am_n147 am_m147 am_g147 = true := by decide +kernel
theorem am_c148 : amCode amGG amXX am_n148.1.cls am_n148.2.1 am_m148.2.2.2.1 am_m148.1 am_h148 = true := by decide +kernel
theorem am_k148 : amMkB am_n148 am_m148 am_g148 = true := by decide +kernel
theorem am_c149 : amCode amGG amXX am_n149.1.cls am_n149.2.1 am_m149.2.2.2.1 am_m149.1 am_h149 = true := by decide +kernel
theorem am_k149 : amMkB am_n149 am_m149 am_g149 = true := by decide +kernel
theorem am_c150 : amCode amGG amXX am_n150.1.cls am_n150.2.1 am_m150.2.2.2.1 am_m150.1 am_h150 = true := by decide +kernel
theorem am_k150 : amMkB am_n150 am_m150 am_g150 = true := by decide +kernel
theorem am_c151 : amCode amGG amXX am_n151.1.cls am_n151.2.1 am_m151.2.2.2.1 am_m151.1 am_h151 = true := by decide +kernel
theorem am_k151 : amMkB am_n151 am_m151 am_g151 = true := by decide +kernel
theorem am_c152 : amCode amGG amXX am_n152.1.cls am_n152.2.1 am_m152.2.2.2.1 am_m152.1 am_h152 = true := by decide +kernel
theorem am_k152 : amMkB am_n152 am_m152 am_g152 = true := by decide +kernel
theorem am_c153 : amCode amGG amXX am_n153.1.cls am_n153.2.1 am_m153.2.2.2.1 am_m153.1 am_h153 = true := by decide +kernel
theorem am_k153 : amMkB am_n153 am_m153 am_g153 = true := by decide +kernel
theorem am_c154 : amCode amGG amXX am_n154.1.cls am_n154.2.1 am_m154.2.2.2.1 am_m154.1 am_h154 = true := by decide +kernel
theorem am_k154 : amMkB am_n154 am_m154 am_g154 = true := by decide +kernel
theorem am_c155 : amCode amGG amXX am_n155.1.cls am_n155.2.1 am_m155.2.2.2.1 am_m155.1 am_h155 = true := by decide +kernel
theorem am_k155 : amMkB am_n155 am_m155 am_g155 = true := by decide +kernel
theorem am_c156 : amCode amGG amXX am_n156.1.cls am_n156.2.1 am_m156.2.2.2.1 am_m156.1 am_h156 = true := by decide +kernel
theorem am_k156 : amMkB am_n156 am_m156 am_g156 = true := by decide +kernel
theorem am_c157 : amCode amGG amXX am_n157.1.cls am_n157.2.1 am_m157.2.2.2.1 am_m157.1 am_h157 = true := by decide +kernel
theorem am_k157 : amMkB am_n157 am_m157 am_g157 = true := by decide +kernel
theorem am_c158 : amCode amGG amXX am_n158.1.cls am_n158.2.1 am_m158.2.2.2.1 am_m158.1 am_h158 = true := by decide +kernel
theorem am_k158 : amMkB am_n158 am_m158 am_g158 = true := by decide +kernel
theorem am_c159 : amCode amGG amXX am_n159.1.cls am_n159.2.1 am_m159.2.2.2.1 am_m159.1 am_h159 = true := by decide +kernel
theorem am_k159 : amMkB am_n159 am_m159 am_g159 = true := by decide +kernel
theorem am_c160 : amCode amGG amXX am_n160.1.cls am_n160.2.1 am_m160.2.2.2.1 am_m160.1 am_h160 = true := by decide +kernel
theorem am_k160 : amMkB am_n160 am_m160 am_g160 = true := by decide +kernel
theorem am_c161 : amCode amGG amXX am_n161.1.cls am_n161.2.1 am_m161.2.2.2.1 am_m161.1 am_h161 = true := by decide +kernel
theorem am_k161 : amMkB am_n161 am_m161 am_g161 = true := by decide +kernel
theorem am_c162 : amCode amGG amXX am_n162.1.cls am_n162.2.1 am_m162.2.2.2.1 am_m162.1 am_h162 = true := by decide +kernel
theorem am_k162 : amMkB am_n162 am_m162 am_g162 = true := by decide +kernel
theorem am_c163 : amCode amGG amXX am_n163.1.cls am_n163.2.1 am_m163.2.2.2.1 am_m163.1 am_h163 = true := by decide +kernel
theorem am_k163 : amMkB am_n163 am_m163 am_g163 = true := by decide +kernel
theorem am_c164 : amCode amGG amXX am_n164.1.cls am_n164.2.1 am_m164.2.2.2.1 am_m164.1 am_h164 = true := by decide +kernel
theorem am_k164 : amMkB am_n164 am_m164 am_g164 = true := by decide +kernel
theorem am_c165 : amCode amGG amXX am_n165.1.cls am_n165.2.1 am_m165.2.2.2.1 am_m165.1 am_h165 = true := by decide +kernel
theorem am_k165 : amMkB am_n165 am_m165 am_g165 = true := by decide +kernel
theorem am_c166 : amCode amGG amXX am_n166.1.cls am_n166.2.1 am_m166.2.2.2.1 am_m166.1 am_h166 = true := by decide +kernel
theorem am_k166 : amMkB am_n166 am_m166 am_g166 = true := by decide +kernel
theorem am_c167 : amCode amGG amXX am_n167.1.cls am_n167.2.1 am_m167.2.2.2.1 am_m167.1 am_h167 = true := by decide +kernel
theorem am_k167 : amMkB am_n167 am_m167 am_g167 = true := by decide +kernel
theorem am_c168 : amCode amGG amXX am_n168.1.cls am_n168.2.1 am_m168.2.2.2.1 am_m168.1 am_h168 = true := by decide +kernel
theorem am_k168 : amMkB am_n168 am_m168 am_g168 = true := by decide +kernel
theorem am_c169 : amCode amGG amXX am_n169.1.cls am_n169.2.1 am_m169.2.2.2.1 am_m169.1 am_h169 = true := by decide +kernel
theorem am_k169 : amMkB am_n169 am_m169 am_g169 = true := by decide +kernel
theorem am_c170 : amCode amGG amXX am_n170.1.cls am_n170.2.1 am_m170.2.2.2.1 am_m170.1 am_h170 = true := by decide +kernel
theorem am_k170 : amMkB am_n170 am_m170 am_g170 = true := by decide +kernel
theorem am_c171 : amCode amGG amXX am_n171.1.cls am_n171.2.1 am_m171.2.2.2.1 am_m171.1 am_h171 = true := by decide +kernel
theorem am_k171 : amMkB am_n171 am_m171 am_g171 = true := by decide +kernel
theorem am_c172 : amCode amGG amXX am_n172.1.cls am_n172.2.1 am_m172.2.2.2.1 am_m172.1 am_h172 = true := by decide +kernel
theorem am_k172 : amMkB am_n172 am_m172 am_g172 = true := by decide +kernel
theorem am_c173 : amCode amGG amXX am_n173.1.cls am_n173.2.1 am_m173.2.2.2.1 am_m173.1 am_h173 = true := by decide +kernel
theorem am_k173 : amMkB am_n173 am_m173 am_g173 = true := by decide +kernel
theorem am_c174 : amCode amGG amXX am_n174.1.cls am_n174.2.1 am_m174.2.2.2.1 am_m174.1 am_h174 = true := by decide +kernel
theorem am_k174 : amMkB am_n174 am_m174 am_g174 = true := by decide +kernel
theorem am_c175 : amCode amGG amXX am_n175.1.cls am_n175.2.1 am_m175.2.2.2.1 am_m175.1 am_h175 = true := by decide +kernel
theorem am_k175 : amMkB am_n175 am_m175 am_g175 = true := by decide +kernel
theorem am_c176 : amCode amGG amXX am_n176.1.cls am_n176.2.1 am_m176.2.2.2.1 am_m176.1 am_h176 = true := by decide +kernel
theorem am_k176 : amMkB am_n176 am_m176 am_g176 = true := by decide +kernel
theorem am_c177 : amCode amGG amXX am_n177.1.cls am_n177.2.1 am_m177.2.2.2.1 am_m177.1 am_h177 = true := by decide +kernel
theorem am_k177 : amMkB am_n177 am_m177 am_g177 = true := by decide +kernel
theorem am_c178 : amCode amGG amXX am_n178.1.cls am_n178.2.1 am_m178.2.2.2.1 am_m178.1 am_h178 = true := by decide +kernel
theorem am_k178 : amMkB am_n178 am_m178 am_g178 = true := by decide +kernel
theorem am_c179 : amCode amGG amXX am_n179.1.cls am_n179.2.1 am_m179.2.2.2.1 am_m179.1 am_h179 = true := by decide +kernel
theorem am_k179 : amMkB am_n179 am_m179 am_g179 = true := by decide +kernel
theorem am_c180 : amCode amGG amXX am_n180.1.cls am_n180.2.1 am_m180.2.2.2.1 am_m180.1 am_h180 = true := by decide +kernel
theorem am_k180 : amMkB am_n180 am_m180 am_g180 = true := by decide +kernel
theorem am_c181 : amCode amGG amXX am_n181.1.cls am_n181.2.1 am_m181.2.2.2.1 am_m181.1 am_h181 = true := by decide +kernel
theorem am_k181 : amMkB am_n181 am_m181 am_g181 = true := by decide +kernel
theorem am_c182 : amCode amGG amXX am_n182.1.cls am_n182.2.1 am_m182.2.2.2.1 am_m182.1 am_h182 = true := by decide +kernel
theorem am_k182 : amMkB am_n182 am_m182 am_g182 = true := by decide +kernel
theorem am_c183 : amCode amGG amXX am_n183.1.cls am_n183.2.1 am_m183.2.2.2.1 am_m183.1 am_h183 = true := by decide +kernel
theorem am_k183 : amMkB am_n183 am_m183 am_g183 = true := by decide +kernel
theorem am_c184 : amCode amGG amXX am_n184.1.cls am_n184.2.1 am_m184.2.2.2.1 am_m184.1 am_h184 = true := by decide +kernel
theorem am_k184 : amMkB am_n184 am_m184 am_g184 = true := by decide +kernel
theorem am_c185 : amCode amGG amXX am_n185.1.cls am_n185.2.1 am_m185.2.2.2.1 am_m185.1 am_h185 = true := by decide +kernel
theorem am_k185 : amMkB am_n185 am_m185 am_g185 = true := by decide +kernel
theorem am_c186 : amCode amGG amXX am_n186.1.cls am_n186.2.1 am_m186.2.2.2.1 am_m186.1 am_h186 = true := by decide +kernel
theorem am_k186 : amMkB am_n186 am_m186 am_g186 = true := by decide +kernel
theorem am_c187 : amCode amGG amXX am_n187.1.cls am_n187.2.1 am_m187.2.2.2.1 am_m187.1 am_h187 = true := by decide +kernel
theorem am_k187 : amMkB am_n187 am_m187 am_g187 = true := by decide +kernel
theorem am_c188 : amCode amGG amXX am_n188.1.cls am_n188.2.1 am_m188.2.2.2.1 am_m188.1 am_h188 = true := by decide +kernel
theorem am_k188 : amMkB am_n188 am_m188 am_g188 = true := by decide +kernel
theorem am_c189 : amCode amGG amXX am_n189.1.cls am_n189.2.1 am_m189.2.2.2.1 am_m189.1 am_h189 = true := by decide +kernel
theorem am_k189 : amMkB am_n189 am_m189 am_g189 = true := by decide +kernel
theorem am_c190 : amCode amGG amXX am_n190.1.cls am_n190.2.1 am_m190.2.2.2.1 am_m190.1 am_h190 = true := by decide +kernel
theorem am_k190 : amMkB am_n190 am_m190 am_g190 = true := by decide +kernel
theorem am_c191 : amCode amGG amXX am_n191.1.cls am_n191.2.1 am_m191.2.2.2.1 am_m191.1 am_h191 = true := by decide +kernel
theorem am_k191 : amMkB am_n191 am_m191 am_g191 = true := by decide +kernel
theorem am_t3 : ∀ t ∈ [(am_n144, am_m144), (am_n145, am_m145), (am_n146, am_m146), (am_n147, am_m147), (am_n148, am_m148), (am_n149, am_m149), (am_n150, am_m150), (am_n151, am_m151), (am_n152, am_m152), (am_n153, am_m153), (am_n154, am_m154), (am_n155, am_m155), (am_n156, am_m156), (am_n157, am_m157), (am_n158, am_m158), (am_n159, am_m159), (am_n160, am_m160), (am_n161, am_m161), (am_n162, am_m162), (am_n163, am_m163), (am_n164, am_m164), (am_n165, am_m165), (am_n166, am_m166), (am_n167, am_m167), (am_n168, am_m168), (am_n169, am_m169), (am_n170, am_m170), (am_n171, am_m171), (am_n172, am_m172), (am_n173, am_m173), (am_n174, am_m174), (am_n175, am_m175), (am_n176, am_m176), (am_n177, am_m177), (am_n178, am_m178), (am_n179, am_m179), (am_n180, am_m180), (am_n181, am_m181), (am_n182, am_m182), (am_n183, am_m183), (am_n184, am_m184), (am_n185, am_m185), (am_n186, am_m186), (am_n187, am_m187), (am_n188, am_m188), (am_n189, am_m189), (am_n190, am_m190), (am_n191, am_m191)], amMk amGG amXX t.1 t.2 := by
  intro t ht
  simp only [List.mem_cons, List.not_mem_nil, or_false] at ht
  rcases ht with rfl | rfl | rfl | rfl | rfl | rfl | rfl | rfl | rfl | rfl | rfl | rfl | rfl | rfl | rfl | rfl | rfl | rfl | rfl | rfl | rfl | rfl | rfl | rfl | rfl | rfl | rfl | rfl | rfl | rfl | rfl | rfl | rfl | rfl | rfl | rfl | rfl | rfl | rfl | rfl | rfl | rfl | rfl | rfl | rfl | rfl | rfl | rfl
  · exact amMkB_s am_k144 am_c144
  · exact amMkB_s am_k145 am_c145
  · exact amMkB_s am_k146 am_c146
  · exact amMkB_s am_k147 am_c147
  · exact amMkB_s am_k148 am_c148
  · exact amMkB_s am_k149 am_c149
  · exact amMkB_s am_k150 am_c150
  · exact amMkB_s am_k151 am_c151
  · exact amMkB_s am_k152 am_c152
  · exact amMkB_s am_k153 am_c153
  · exact amMkB_s am_k154 am_c154
  · exact amMkB_s am_k155 am_c155
  · exact amMkB_s am_k156 am_c156
  · exact amMkB_s am_k157 am_c157
  · exact amMkB_s am_k158 am_c158
  · exact amMkB_s am_k159 am_c159
  · exact amMkB_s am_k160 am_c160
  · exact amMkB_s am_k161 am_c161
  · exact amMkB_s am_k162 am_c162
  · exact amMkB_s am_k163 am_c163
  · exact amMkB_s am_k164 am_c164
  · exact amMkB_s am_k165 am_c165
  · exact amMkB_s am_k166 am_c166
  · exact amMkB_s am_k167 am_c167
  · exact amMkB_s am_k168 am_c168
  · exact amMkB_s am_k169 am_c169
  · exact amMkB_s am_k170 am_c170
  · exact amMkB_s am_k171 am_c171
  · exact amMkB_s am_k172 am_c172
  · exact amMkB_s am_k173 am_c173
  · exact amMkB_s am_k174 am_c174
  · exact amMkB_s am_k175 am_c175
  · exact amMkB_s am_k176 am_c176
  · exact amMkB_s am_k177 am_c177
  · exact amMkB_s am_k178 am_c178
  · exact amMkB_s am_k179 am_c179
  · exact amMkB_s am_k180 am_c180
  · exact amMkB_s am_k181 am_c181
  · exact amMkB_s am_k182 am_c182
  · exact amMkB_s am_k183 am_c183
  · exact amMkB_s am_k184 am_c184
  · exact amMkB_s am_k185 am_c185
  · exact amMkB_s am_k186 am_c186
  · exact amMkB_s am_k187 am_c187
  · exact amMkB_s am_k188 am_c188
  · exact amMkB_s am_k189 am_c189
  · exact amMkB_s am_k190 am_c190
  · exact amMkB_s am_k191 am_c191
end
section
/-! ===== the tables checked, 4 ===== -/
theorem am_c192 : amCode amGG amXX am_n192.1.cls am_n192.2.1 am_m192.2.2.2.1 am_m192.1 am_h192 = true := by decide +kernel
theorem am_k192 : amMkB am_n192 am_m192 am_g192 = true := by decide +kernel
theorem am_c193 : amCode amGG amXX am_n193.1.cls am_n193.2.1 am_m193.2.2.2.1 am_m193.1 am_h193 = true := by decide +kernel
theorem am_k193 : amMkB am_n193 am_m193 am_g193 = true := by decide +kernel
theorem am_c194 : amCode amGG amXX am_n194.1.cls am_n194.2.1 am_m194.2.2.2.1 am_m194.1 am_h194 = true := by decide +kernel
theorem am_k194 : amMkB am_n194 am_m194 am_g194 = true := by decide +kernel
theorem am_c195 : amCode amGG amXX am_n195.1.cls am_n195.2.1 am_m195.2.2.2.1 am_m195.1 am_h195 = true := by decide +kernel
theorem am_k195 : amMkB am_n195 am_m195 am_g195 = true := by decide +kernel
theorem am_c196 : amCode amGG amXX am_n196.1.cls am_n196.2.1 am_m196.2.2.2.1 am_m196.1 am_h196 = true := by decide +kernel
theorem am_k196 : amMkB am_n196 am_m196 am_g196 = true := by decide +kernel
theorem am_c197 : amCode amGG amXX am_n197.1.cls am_n197.2.1 am_m197.2.2.2.1 am_m197.1 am_h197 = true := by decide +kernel
theorem am_k197 : amMkB am_n197 am_m197 am_g197 = true := by decide +kernel
theorem am_c198 : amCode amGG amXX am_n198.1.cls am_n198.2.1 am_m198.2.2.2.1 am_m198.1 am_h198 = true := by decide +kernel
theorem am_k198 : amMkB am_n198 am_m198 am_g198 = true := by decide +kernel
theorem am_c199 : amCode amGG amXX am_n199.1.cls am_n199.2.1 am_m199.2.2.2.1 am_m199.1 am_h199 = true := by decide +kernel
theorem am_k199 : amMkB am_n199 am_m199 am_g199 = true := by decide +kernel
theorem am_c200 : amCode amGG amXX am_n200.1.cls am_n200.2.1 am_m200.2.2.2.1 am_m200.1 am_h200 = true := by decide +kernel
theorem am_k200 : amMkB am_n200 am_m200 am_g200 = true := by decide +kernel
theorem am_c201 : amCode amGG amXX am_n201.1.cls am_n201.2.1 am_m201.2.2.2.1 am_m201.1 am_h201 = true := by decide +kernel
theorem am_k201 : amMkB am_n201 am_m201 am_g201 = true := by decide +kernel
theorem am_c202 : amCode amGG amXX am_n202.1.cls am_n202.2.1 am_m202.2.2.2.1 am_m202.1 am_h202 = true := by decide +kernel
theorem am_k202 : amMkB am_n202 am_m202 am_g202 = true := by decide +kernel
theorem am_c203 : amCode amGG amXX am_n203.1.cls am_n203.2.1 am_m203.2.2.2.1 am_m203.1 am_h203 = true := by decide +kernel
theorem am_k203 : amMkB am_n203 am_m203 am_g203 = true := by decide +kernel
theorem am_c204 : amCode amGG amXX am_n204.1.cls am_n204.2.1 am_m204.2.2.2.1 am_m204.1 am_h204 = true := by decide +kernel
theorem am_k204 : amMkB am_n204 am_m204 am_g204 = true := by decide +kernel
theorem am_c205 : amCode amGG amXX am_n205.1.cls am_n205.2.1 am_m205.2.2.2.1 am_m205.1 am_h205 = true := by decide +kernel
theorem am_k205 : amMkB am_n205 am_m205 am_g205 = true := by decide +kernel
theorem am_c206 : amCode amGG amXX am_n206.1.cls am_n206.2.1 am_m206.2.2.2.1 am_m206.1 am_h206 = true := by decide +kernel
theorem am_k206 : amMkB am_n206 am_m206 am_g206 = true := by decide +kernel
theorem am_c207 : amCode amGG amXX am_n207.1.cls am_n207.2.1 am_m207.2.2.2.1 am_m207.1 am_h207 = true := by decide +kernel
theorem am_k207 : amMkB am_n207 am_m207 am_g207 = true := by decide +kernel
theorem am_c208 : amCode amGG amXX am_n208.1.cls am_n208.2.1 am_m208.2.2.2.1 am_m208.1 am_h208 = true := by decide +kernel
theorem am_k208 : amMkB am_n208 am_m208 am_g208 = true := by decide +kernel
theorem am_c209 : amCode amGG amXX am_n209.1.cls am_n209.2.1 am_m209.2.2.2.1 am_m209.1 am_h209 = true := by decide +kernel
theorem am_k209 : amMkB am_n209 am_m209 am_g209 = true := by decide +kernel
theorem am_c210 : amCode amGG amXX am_n210.1.cls am_n210.2.1 am_m210.2.2.2.1 am_m210.1 am_h210 = true := by decide +kernel
theorem am_k210 : amMkB am_n210 am_m210 am_g210 = true := by decide +kernel
theorem am_c211 : amCode amGG amXX am_n211.1.cls am_n211.2.1 am_m211.2.2.2.1 am_m211.1 am_h211 = true := by decide +kernel
theorem am_k211 : amMkB am_n211 am_m211 am_g211 = true := by decide +kernel
theorem am_c212 : amCode amGG amXX am_n212.1.cls am_n212.2.1 am_m212.2.2.2.1 am_m212.1 am_h212 = true := by decide +kernel
theorem am_k212 : amMkB am_n212 am_m212 am_g212 = true := by decide +kernel
theorem am_c213 : amCode amGG amXX am_n213.1.cls am_n213.2.1 am_m213.2.2.2.1 am_m213.1 am_h213 = true := by decide +kernel
theorem am_k213 : amMkB am_n213 am_m213 am_g213 = true := by decide +kernel
theorem am_c214 : amCode amGG amXX am_n214.1.cls am_n214.2.1 am_m214.2.2.2.1 am_m214.1 am_h214 = true := by decide +kernel
theorem am_k214 : amMkB am_n214 am_m214 am_g214 = true := by decide +kernel
theorem am_c215 : amCode amGG amXX am_n215.1.cls am_n215.2.1 am_m215.2.2.2.1 am_m215.1 am_h215 = true := by decide +kernel
theorem am_k215 : amMkB am_n215 am_m215 am_g215 = true := by decide +kernel
theorem am_c216 : amCode amGG amXX am_n216.1.cls am_n216.2.1 am_m216.2.2.2.1 am_m216.1 am_h216 = true := by decide +kernel
theorem am_k216 : amMkB am_n216 am_m216 am_g216 = true := by decide +kernel
theorem am_c217 : amCode amGG amXX am_n217.1.cls am_n217.2.1 am_m217.2.2.2.1 am_m217.1 am_h217 = true := by decide +kernel
theorem am_k217 : amMkB am_n217 am_m217 am_g217 = true := by decide +kernel
theorem am_c218 : amCode amGG amXX am_n218.1.cls am_n218.2.1 am_m218.2.2.2.1 am_m218.1 am_h218 = true := by decide +kernel
theorem am_k218 : amMkB am_n218 am_m218 am_g218 = true := by decide +kernel
theorem am_c219 : amCode amGG amXX am_n219.1.cls am_n219.2.1 am_m219.2.2.2.1 am_m219.1 am_h219 = true := by decide +kernel
theorem am_k219 : amMkB am_n219 am_m219 am_g219 = true := by decide +kernel
theorem am_c220 : amCode amGG amXX am_n220.1.cls am_n220.2.1 am_m220.2.2.2.1 am_m220.1 am_h220 = true := by decide +kernel
theorem am_k220 : amMkB am_n220 am_m220 am_g220 = true := by decide +kernel
theorem am_c221 : amCode amGG amXX am_n221.1.cls am_n221.2.1 am_m221.2.2.2.1 am_m221.1 am_h221 = true := by decide +kernel
theorem am_k221 : amMkB am_n221 am_m221 am_g221 = true := by decide +kernel
theorem am_c222 : amCode amGG amXX am_n222.1.cls am_n222.2.1 am_m222.2.2.2.1 am_m222.1 am_h222 = true := by decide +kernel
theorem am_k222 : amMkB am_n222 am_m222 am_g222 = true := by decide +kernel
theorem am_c223 : amCode amGG amXX am_n223.1.cls am_n223.2.1 am_m223.2.2.2.1 am_m223.1 am_h223 = true := by decide +kernel
theorem am_k223 : amMkB am_n223 am_m223 am_g223 = true := by decide +kernel
theorem am_c224 : amCode amGG amXX am_n224.1.cls am_n224.2.1 am_m224.2.2.2.1 am_m224.1 am_h224 = true := by decide +kernel
theorem am_k224 : amMkB am_n224 am_m224 am_g224 = true := by decide +kernel
theorem am_c225 : amCode amGG amXX am_n225.1.cls am_n225.2.1 am_m225.2.2.2.1 am_m225.1 am_h225 = true := by decide +kernel
theorem am_k225 : amMkB am_n225 am_m225 am_g225 = true := by decide +kernel
theorem am_c226 : amCode amGG amXX am_n226.1.cls am_n226.2.1 am_m226.2.2.2.1 am_m226.1 am_h226 = true := by decide +kernel
theorem am_k226 : amMkB am_n226 am_m226 am_g226 = true := by decide +kernel
theorem am_c227 : amCode amGG amXX am_n227.1.cls am_n227.2.1 am_m227.2.2.2.1 am_m227.1 am_h227 = true := by decide +kernel
theorem am_k227 : amMkB am_n227 am_m227 am_g227 = true := by decide +kernel
theorem am_c228 : amCode amGG amXX am_n228.1.cls am_n228.2.1 am_m228.2.2.2.1 am_m228.1 am_h228 = true := by decide +kernel
theorem am_k228 : amMkB am_n228 am_m228 am_g228 = true := by decide +kernel
theorem am_c229 : amCode amGG amXX am_n229.1.cls am_n229.2.1 am_m229.2.2.2.1 am_m229.1 am_h229 = true := by decide +kernel
theorem am_k229 : amMkB am_n229 am_m229 am_g229 = true := by decide +kernel
theorem am_c230 : amCode amGG amXX am_n230.1.cls am_n230.2.1 am_m230.2.2.2.1 am_m230.1 am_h230 = true := by decide +kernel
theorem am_k230 : amMkB am_n230 am_m230 am_g230 = true := by decide +kernel
theorem am_c231 : amCode amGG amXX am_n231.1.cls am_n231.2.1 am_m231.2.2.2.1 am_m231.1 am_h231 = true := by decide +kernel
theorem am_k231 : amMkB am_n231 am_m231 am_g231 = true := by decide +kernel
theorem am_c232 : amCode amGG amXX am_n232.1.cls am_n232.2.1 am_m232.2.2.2.1 am_m232.1 am_h232 = true := by decide +kernel
theorem am_k232 : amMkB am_n232 am_m232 am_g232 = true := by decide +kernel
theorem am_c233 : amCode amGG amXX am_n233.1.cls am_n233.2.1 am_m233.2.2.2.1 am_m233.1 am_h233 = true := by decide +kernel
theorem am_k233 : amMkB am_n233 am_m233 am_g233 = true := by decide +kernel
theorem am_c234 : amCode amGG amXX am_n234.1.cls am_n234.2.1 am_m234.2.2.2.1 am_m234.1 am_h234 = true := by decide +kernel
theorem am_k234 : amMkB am_n234 am_m234 am_g234 = true := by decide +kernel
theorem am_c235 : amCode amGG amXX am_n235.1.cls am_n235.2.1 am_m235.2.2.2.1 am_m235.1 am_h235 = true := by decide +kernel
theorem am_k235 : amMkB am_n235 am_m235 am_g235 = true := by decide +kernel
theorem am_c236 : amCode amGG amXX am_n236.1.cls am_n236.2.1 am_m236.2.2.2.1 am_m236.1 am_h236 = true := by decide +kernel
theorem am_k236 : amMkB am_n236 am_m236 am_g236 = true := by decide +kernel
theorem am_c237 : amCode amGG amXX am_n237.1.cls am_n237.2.1 am_m237.2.2.2.1 am_m237.1 am_h237 = true := by decide +kernel
theorem am_k237 : amMkB am_n237 am_m237 am_g237 = true := by decide +kernel
theorem am_c238 : amCode amGG amXX am_n238.1.cls am_n238.2.1 am_m238.2.2.2.1 am_m238.1 am_h238 = true := by decide +kernel
theorem am_k238 : amMkB am_n238 am_m238 am_g238 = true := by decide +kernel
theorem am_c239 : amCode amGG amXX am_n239.1.cls am_n239.2.1 am_m239.2.2.2.1 am_m239.1 am_h239 = true := by decide +kernel
theorem am_k239 : amMkB am_n239 am_m239 am_g239 = true := by decide +kernel
theorem am_t4 : ∀ t ∈ [(am_n192, am_m192), (am_n193, am_m193), (am_n194, am_m194), (am_n195, am_m195), (am_n196, am_m196), (am_n197, am_m197), (am_n198, am_m198), (am_n199, am_m199), (am_n200, am_m200), (am_n201, am_m201), (am_n202, am_m202), (am_n203, am_m203), (am_n204, am_m204), (am_n205, am_m205), (am_n206, am_m206), (am_n207, am_m207), (am_n208, am_m208), (am_n209, am_m209), (am_n210, am_m210), (am_n211, am_m211), (am_n212, am_m212), (am_n213, am_m213), (am_n214, am_m214), (am_n215, am_m215), (am_n216, am_m216), (am_n217, am_m217), (am_n218, am_m218), (am_n219, am_m219), (am_n220, am_m220), (am_n221, am_m221), (am_n222, am_m222), (am_n223, am_m223), (am_n224, am_m224), (am_n225, am_m225), (am_n226, am_m226), (am_n227, am_m227), (am_n228, am_m228), (am_n229, am_m229), (am_n230, am_m230), (am_n231, am_m231), (am_n232, am_m232), (am_n233, am_m233), (am_n234, am_m234), (am_n235, am_m235), (am_n236, am_m236), (am_n237, am_m237), (am_n238, am_m238), (am_n239, am_m239)], amMk amGG amXX t.1 t.2 := by
  intro t ht
  simp only [List.mem_cons, List.not_mem_nil, or_false] at ht
  rcases ht with rfl | rfl | rfl | rfl | rfl | rfl | rfl | rfl | rfl | rfl | rfl | rfl | rfl | rfl | rfl | rfl | rfl | rfl | rfl | rfl | rfl | rfl | rfl | rfl | rfl | rfl | rfl | rfl | rfl | rfl | rfl | rfl | rfl | rfl | rfl | rfl | rfl | rfl | rfl | rfl | rfl | rfl | rfl | rfl | rfl | rfl | rfl | rfl
  · exact amMkB_s am_k192 am_c192
  · exact amMkB_s am_k193 am_c193
  · exact amMkB_s am_k194 am_c194
  · exact amMkB_s am_k195 am_c195
  · exact amMkB_s am_k196 am_c196
  · exact amMkB_s am_k197 am_c197
  · exact amMkB_s am_k198 am_c198
  · exact amMkB_s am_k199 am_c199
  · exact amMkB_s am_k200 am_c200
  · exact amMkB_s am_k201 am_c201
  · exact amMkB_s am_k202 am_c202
  · exact amMkB_s am_k203 am_c203
  · exact amMkB_s am_k204 am_c204
  · exact amMkB_s am_k205 am_c205
  · exact amMkB_s am_k206 am_c206
  · exact amMkB_s am_k207 am_c207
  · exact amMkB_s am_k208 am_c208
  · exact amMkB_s am_k209 am_c209
  · exact amMkB_s am_k210 am_c210
  · exact amMkB_s am_k211 am_c211
  · exact amMkB_s am_k212 am_c212
  · exact amMkB_s am_k213 am_c213
  · exact amMkB_s am_k214 am_c214
  · exact amMkB_s am_k215 am_c215
  · exact amMkB_s am_k216 am_c216
  · exact amMkB_s am_k217 am_c217
  · exact amMkB_s am_k218 am_c218
  · exact amMkB_s am_k219 am_c219
  · exact amMkB_s am_k220 am_c220
  · exact amMkB_s am_k221 am_c221
  · exact amMkB_s am_k222 am_c222
  · exact amMkB_s am_k223 am_c223
  · exact amMkB_s am_k224 am_c224
  · exact amMkB_s am_k225 am_c225
  · exact amMkB_s am_k226 am_c226
  · exact amMkB_s am_k227 am_c227
  · exact amMkB_s am_k228 am_c228
  · exact amMkB_s am_k229 am_c229
  · exact amMkB_s am_k230 am_c230
  · exact amMkB_s am_k231 am_c231
  · exact amMkB_s am_k232 am_c232
  · exact amMkB_s am_k233 am_c233
  · exact amMkB_s am_k234 am_c234
  · exact amMkB_s am_k235 am_c235
  · exact amMkB_s am_k236 am_c236
  · exact amMkB_s am_k237 am_c237
  · exact amMkB_s am_k238 am_c238
  · exact amMkB_s am_k239 am_c239
end
section
/-! ===== the tables checked, 5 ===== -/
theorem am_c240 : amCode amGG amXX am_n240.1.cls am_n240.2.1 am_m240.2.2.2.1 am_m240.1 am_h240 = true := by decide +kernel
theorem am_k240 : amMkB am_n240 am_m240 am_g240 = true := by decide +kernel
theorem am_c241 : amCode amGG amXX am_n241.1.cls am_n241.2.1 am_m241.2.2.2.1 am_m241.1 am_h241 = true := by decide +kernel
theorem am_k241 : amMkB am_n241 am_m241 am_g241 = true := by decide +kernel
theorem am_c242 : amCode amGG amXX am_n242.1.cls am_n242.2.1 am_m242.2.2.2.1 am_m242.1 am_h242 = true := by decide +kernel
theorem am_k242 : amMkB am_n242 am_m242 am_g242 = true := by decide +kernel
theorem am_c243 : amCode amGG amXX am_n243.1.cls am_n243.2.1 am_m243.2.2.2.1 am_m243.1 am_h243 = true := by decide +kernel
theorem am_k243 : amMkB am_n243 am_m243 am_g243 = true := by decide +kernel
theorem am_c244 : amCode amGG amXX am_n244.1.cls am_n244.2.1 am_m244.2.2.2.1 am_m244.1 am_h244 = true := by decide +kernel
theorem am_k244 : amMkB am_n244 am_m244 am_g244 = true := by decide +kernel
theorem am_c245 : amCode amGG amXX am_n245.1.cls am_n245.2.1 am_m245.2.2.2.1 am_m245.1 am_h245 = true := by decide +kernel
theorem am_k245 : amMkB am_n245 am_m245 am_g245 = true := by decide +kernel
theorem am_c246 : amCode amGG amXX am_n246.1.cls am_n246.2.1 am_m246.2.2.2.1 am_m246.1 am_h246 = true := by decide +kernel
theorem am_k246 : amMkB am_n246 am_m246 am_g246 = true := by decide +kernel
theorem am_c247 : amCode amGG amXX am_n247.1.cls am_n247.2.1 am_m247.2.2.2.1 am_m247.1 am_h247 = true := by decide +kernel
theorem am_k247 : amMkB am_n247 am_m247 am_g247 = true := by decide +kernel
theorem am_c248 : amCode amGG amXX am_n248.1.cls am_n248.2.1 am_m248.2.2.2.1 am_m248.1 am_h248 = true := by decide +kernel
theorem am_k248 : amMkB am_n248 am_m248 am_g248 = true := by decide +kernel
theorem am_c249 : amCode amGG amXX am_n249.1.cls am_n249.2.1 am_m249.2.2.2.1 am_m249.1 am_h249 = true := by decide +kernel
theorem am_k249 : amMkB am_n249 am_m249 am_g249 = true := by decide +kernel
theorem am_c250 : amCode amGG amXX am_n250.1.cls am_n250.2.1 am_m250.2.2.2.1 am_m250.1 am_h250 = true := by decide +kernel
theorem am_k250 : amMkB am_n250 am_m250 am_g250 = true := by decide +kernel
theorem am_c251 : amCode amGG amXX am_n251.1.cls am_n251.2.1 am_m251.2.2.2.1 am_m251.1 am_h251 = true := by decide +kernel
theorem am_k251 : amMkB am_n251 am_m251 am_g251 = true := by decide +kernel
theorem am_c252 : amCode amGG amXX am_n252.1.cls am_n252.2.1 am_m252.2.2.2.1 am_m252.1 am_h252 = true := by decide +kernel
theorem am_k252 : amMkB am_n252 am_m252 am_g252 = true := by decide +kernel
theorem am_c253 : amCode amGG amXX am_n253.1.cls am_n253.2.1 am_m253.2.2.2.1 am_m253.1 am_h253 = true := by decide +kernel
theorem am_k253 : amMkB am_n253 am_m253 am_g253 = true := by decide +kernel
theorem am_c254 : amCode amGG amXX am_n254.1.cls am_n254.2.1 am_m254.2.2.2.1 am_m254.1 am_h254 = true := by decide +kernel
theorem am_k254 : amMkB am_n254 am_m254 am_g254 = true := by decide +kernel
theorem am_c255 : amCode amGG amXX am_n255.1.cls am_n255.2.1 am_m255.2.2.2.1 am_m255.1 am_h255 = true := by decide +kernel
theorem am_k255 : amMkB am_n255 am_m255 am_g255 = true := by decide +kernel
theorem am_c256 : amCode amGG amXX am_n256.1.cls am_n256.2.1 am_m256.2.2.2.1 am_m256.1 am_h256 = true := by decide +kernel
theorem am_k256 : amMkB am_n256 am_m256 am_g256 = true := by decide +kernel
theorem am_c257 : amCode amGG amXX am_n257.1.cls am_n257.2.1 am_m257.2.2.2.1 am_m257.1 am_h257 = true := by decide +kernel
theorem am_k257 : amMkB am_n257 am_m257 am_g257 = true := by decide +kernel
theorem am_c258 : amCode amGG amXX am_n258.1.cls am_n258.2.1 am_m258.2.2.2.1 am_m258.1 am_h258 = true := by decide +kernel
theorem am_k258 : amMkB am_n258 am_m258 am_g258 = true := by decide +kernel
theorem am_c259 : amCode amGG amXX am_n259.1.cls am_n259.2.1 am_m259.2.2.2.1 am_m259.1 am_h259 = true := by decide +kernel
theorem am_k259 : amMkB am_n259 am_m259 am_g259 = true := by decide +kernel
theorem am_c260 : amCode amGG amXX am_n260.1.cls am_n260.2.1 am_m260.2.2.2.1 am_m260.1 am_h260 = true := by decide +kernel
theorem am_k260 : amMkB am_n260 am_m260 am_g260 = true := by decide +kernel
theorem am_c261 : amCode amGG amXX am_n261.1.cls am_n261.2.1 am_m261.2.2.2.1 am_m261.1 am_h261 = true := by decide +kernel
theorem am_k261 : amMkB am_n261 am_m261 am_g261 = true := by decide +kernel
theorem am_c262 : amCode amGG amXX am_n262.1.cls am_n262.2.1 am_m262.2.2.2.1 am_m262.1 am_h262 = true := by decide +kernel
theorem am_k262 : amMkB am_n262 am_m262 am_g262 = true := by decide +kernel
theorem am_c263 : amCode amGG amXX am_n263.1.cls am_n263.2.1 am_m263.2.2.2.1 am_m263.1 am_h263 = true := by decide +kernel
theorem am_k263 : amMkB am_n263 am_m263 am_g263 = true := by decide +kernel
theorem am_c264 : amCode amGG amXX am_n264.1.cls am_n264.2.1 am_m264.2.2.2.1 am_m264.1 am_h264 = true := by decide +kernel
theorem am_k264 : amMkB am_n264 am_m264 am_g264 = true := by decide +kernel
theorem am_c265 : amCode amGG amXX am_n265.1.cls am_n265.2.1 am_m265.2.2.2.1 am_m265.1 am_h265 = true := by decide +kernel
theorem am_k265 : amMkB am_n265 am_m265 am_g265 = true := by decide +kernel
theorem am_c266 : amCode amGG amXX am_n266.1.cls am_n266.2.1 am_m266.2.2.2.1 am_m266.1 am_h266 = true := by decide +kernel
theorem am_k266 : amMkB am_n266 am_m266 am_g266 = true := by decide +kernel
theorem am_c267 : amCode amGG amXX am_n267.1.cls am_n267.2.1 am_m267.2.2.2.1 am_m267.1 am_h267 = true := by decide +kernel
theorem am_k267 : amMkB am_n267 am_m267 am_g267 = true := by decide +kernel
theorem am_c268 : amCode amGG amXX am_n268.1.cls am_n268.2.1 am_m268.2.2.2.1 am_m268.1 am_h268 = true := by decide +kernel
theorem am_k268 : amMkB am_n268 am_m268 am_g268 = true := by decide +kernel
theorem am_c269 : amCode amGG amXX am_n269.1.cls am_n269.2.1 am_m269.2.2.2.1 am_m269.1 am_h269 = true := by decide +kernel
theorem am_k269 : amMkB am_n269 am_m269 am_g269 = true := by decide +kernel
theorem am_c270 : amCode amGG amXX am_n270.1.cls am_n270.2.1 am_m270.2.2.2.1 am_m270.1 am_h270 = true := by decide +kernel
theorem am_k270 : amMkB am_n270 am_m270 am_g270 = true := by decide +kernel
theorem am_c271 : amCode amGG amXX am_n271.1.cls am_n271.2.1 am_m271.2.2.2.1 am_m271.1 am_h271 = true := by decide +kernel
theorem am_k271 : amMkB am_n271 am_m271 am_g271 = true := by decide +kernel
theorem am_c272 : amCode amGG amXX am_n272.1.cls am_n272.2.1 am_m272.2.2.2.1 am_m272.1 am_h272 = true := by decide +kernel
theorem am_k272 : amMkB am_n272 am_m272 am_g272 = true := by decide +kernel
theorem am_c273 : amCode amGG amXX am_n273.1.cls am_n273.2.1 am_m273.2.2.2.1 am_m273.1 am_h273 = true := by decide +kernel
theorem am_k273 : amMkB am_n273 am_m273 am_g273 = true := by decide +kernel
theorem am_c274 : amCode amGG amXX am_n274.1.cls am_n274.2.1 am_m274.2.2.2.1 am_m274.1 am_h274 = true := by decide +kernel
theorem am_k274 : amMkB am_n274 am_m274 am_g274 = true := by decide +kernel
theorem am_c275 : amCode amGG amXX am_n275.1.cls am_n275.2.1 am_m275.2.2.2.1 am_m275.1 am_h275 = true := by decide +kernel
theorem am_k275 : amMkB am_n275 am_m275 am_g275 = true := by decide +kernel
theorem am_c276 : amCode amGG amXX am_n276.1.cls am_n276.2.1 am_m276.2.2.2.1 am_m276.1 am_h276 = true := by decide +kernel
theorem am_k276 : amMkB am_n276 am_m276 am_g276 = true := by decide +kernel
theorem am_c277 : amCode amGG amXX am_n277.1.cls am_n277.2.1 am_m277.2.2.2.1 am_m277.1 am_h277 = true := by decide +kernel
theorem am_k277 : amMkB am_n277 am_m277 am_g277 = true := by decide +kernel
theorem am_c278 : amCode amGG amXX am_n278.1.cls am_n278.2.1 am_m278.2.2.2.1 am_m278.1 am_h278 = true := by decide +kernel
theorem am_k278 : amMkB am_n278 am_m278 am_g278 = true := by decide +kernel
theorem am_c279 : amCode amGG amXX am_n279.1.cls am_n279.2.1 am_m279.2.2.2.1 am_m279.1 am_h279 = true := by decide +kernel
theorem am_k279 : amMkB am_n279 am_m279 am_g279 = true := by decide +kernel
theorem am_c280 : amCode amGG amXX am_n280.1.cls am_n280.2.1 am_m280.2.2.2.1 am_m280.1 am_h280 = true := by decide +kernel
theorem am_k280 : amMkB am_n280 am_m280 am_g280 = true := by decide +kernel
theorem am_c281 : amCode amGG amXX am_n281.1.cls am_n281.2.1 am_m281.2.2.2.1 am_m281.1 am_h281 = true := by decide +kernel
theorem am_k281 : amMkB am_n281 am_m281 am_g281 = true := by decide +kernel
theorem am_c282 : amCode amGG amXX am_n282.1.cls am_n282.2.1 am_m282.2.2.2.1 am_m282.1 am_h282 = true := by decide +kernel
theorem am_k282 : amMkB am_n282 am_m282 am_g282 = true := by decide +kernel
theorem am_c283 : amCode amGG amXX am_n283.1.cls am_n283.2.1 am_m283.2.2.2.1 am_m283.1 am_h283 = true := by decide +kernel
theorem am_k283 : amMkB am_n283 am_m283 am_g283 = true := by decide +kernel
theorem am_c284 : amCode amGG amXX am_n284.1.cls am_n284.2.1 am_m284.2.2.2.1 am_m284.1 am_h284 = true := by decide +kernel
theorem am_k284 : amMkB am_n284 am_m284 am_g284 = true := by decide +kernel
theorem am_c285 : amCode amGG amXX am_n285.1.cls am_n285.2.1 am_m285.2.2.2.1 am_m285.1 am_h285 = true := by decide +kernel
theorem am_k285 : amMkB am_n285 am_m285 am_g285 = true := by decide +kernel
theorem am_c286 : amCode amGG amXX am_n286.1.cls am_n286.2.1 am_m286.2.2.2.1 am_m286.1 am_h286 = true := by decide +kernel
theorem am_k286 : amMkB am_n286 am_m286 am_g286 = true := by decide +kernel
theorem am_c287 : amCode amGG amXX am_n287.1.cls am_n287.2.1 am_m287.2.2.2.1 am_m287.1 am_h287 = true := by decide +kernel
theorem am_k287 : amMkB am_n287 am_m287 am_g287 = true := by decide +kernel
theorem am_t5 : ∀ t ∈ [(am_n240, am_m240), (am_n241, am_m241), (am_n242, am_m242), (am_n243, am_m243), (am_n244, am_m244), (am_n245, am_m245), (am_n246, am_m246), (am_n247, am_m247), (am_n248, am_m248), (am_n249, am_m249), (am_n250, am_m250), (am_n251, am_m251), (am_n252, am_m252), (am_n253, am_m253), (am_n254, am_m254), (am_n255, am_m255), (am_n256, am_m256), (am_n257, am_m257), (am_n258, am_m258), (am_n259, am_m259), (am_n260, am_m260), (am_n261, am_m261), (am_n262, am_m262), (am_n263, am_m263), (am_n264, am_m264), (am_n265, am_m265), (am_n266, am_m266), (am_n267, am_m267), (am_n268, am_m268), (am_n269, am_m269), (am_n270, am_m270), (am_n271, am_m271), (am_n272, am_m272), (am_n273, am_m273), (am_n274, am_m274), (am_n275, am_m275), (am_n276, am_m276), (am_n277, am_m277), (am_n278, am_m278), (am_n279, am_m279), (am_n280, am_m280), (am_n281, am_m281), (am_n282, am_m282), (am_n283, am_m283), (am_n284, am_m284), (am_n285, am_m285), (am_n286, am_m286), (am_n287, am_m287)], amMk amGG amXX t.1 t.2 := by
  intro t ht
  simp only [List.mem_cons, List.not_mem_nil, or_false] at ht
  rcases ht with rfl | rfl | rfl | rfl | rfl | rfl | rfl | rfl | rfl | rfl | rfl | rfl | rfl | rfl | rfl | rfl | rfl | rfl | rfl | rfl | rfl | rfl | rfl | rfl | rfl | rfl | rfl | rfl | rfl | rfl | rfl | rfl | rfl | rfl | rfl | rfl | rfl | rfl | rfl | rfl | rfl | rfl | rfl | rfl | rfl | rfl | rfl | rfl
  · exact amMkB_s am_k240 am_c240
  · exact amMkB_s am_k241 am_c241
  · exact amMkB_s am_k242 am_c242
  · exact amMkB_s am_k243 am_c243
  · exact amMkB_s am_k244 am_c244
  · exact amMkB_s am_k245 am_c245
  · exact amMkB_s am_k246 am_c246
  · exact amMkB_s am_k247 am_c247
  · exact amMkB_s am_k248 am_c248
  · exact amMkB_s am_k249 am_c249
  · exact amMkB_s am_k250 am_c250
  · exact amMkB_s am_k251 am_c251
  · exact amMkB_s am_k252 am_c252
  · exact amMkB_s am_k253 am_c253
  · exact amMkB_s am_k254 am_c254
  · exact amMkB_s am_k255 am_c255
  · exact amMkB_s am_k256 am_c256
  · exact amMkB_s am_k257 am_c257
  · exact amMkB_s am_k258 am_c258
  · exact amMkB_s am_k259 am_c259
  · exact amMkB_s am_k260 am_c260
  · exact amMkB_s am_k261 am_c261
  · exact amMkB_s am_k262 am_c262
  · exact amMkB_s am_k263 am_c263
  · exact amMkB_s am_k264 am_c264
  · exact amMkB_s am_k265 am_c265
  · exact amMkB_s am_k266 am_c266
  · exact amMkB_s am_k267 am_c267
  · exact amMkB_s am_k268 am_c268
  · exact amMkB_s am_k269 am_c269
  · exact amMkB_s am_k270 am_c270
  · exact amMkB_s am_k271 am_c271
  · exact amMkB_s am_k272 am_c272
  · exact amMkB_s am_k273 am_c273
  · exact amMkB_s am_k274 am_c274
  · exact amMkB_s am_k275 am_c275
  · exact amMkB_s am_k276 am_c276
  · exact amMkB_s am_k277 am_c277
  · exact amMkB_s am_k278 am_c278
  · exact amMkB_s am_k279 am_c279
  · exact amMkB_s am_k280 am_c280
  · exact amMkB_s am_k281 am_c281
  · exact amMkB_s am_k282 am_c282
  · exact amMkB_s am_k283 am_c283
  · exact amMkB_s am_k284 am_c284
  · exact amMkB_s am_k285 am_c285
  · exact amMkB_s am_k286 am_c286
  · exact amMkB_s am_k287 am_c287
end
section
/-! ===== the tables checked, 6 ===== -/
theorem am_c288 : amCode amGG amXX am_n288.1.cls am_n288.2.1 am_m288.2.2.2.1 am_m288.1 am_h288 = true := by decide +kernel
theorem am_k288 : amMkB am_n288 am_m288 am_g288 = true := by decide +kernel
theorem am_c289 : amCode amGG amXX am_n289.1.cls am_n289.2.1 am_m289.2.2.2.1 am_m289.1 am_h289 = true := by decide +kernel
theorem am_k289 : amMkB am_n289 am_m289 am_g289 = true := by decide +kernel
theorem am_c290 : amCode amGG amXX am_n290.1.cls am_n290.2.1 am_m290.2.2.2.1 am_m290.1 am_h290 = true := by decide +kernel
theorem am_k290 : amMkB am_n290 am_m290 am_g290 = true := by decide +kernel
theorem am_c291 : amCode amGG amXX am_n291.1.cls am_n291.2.1 am_m291.2.2.2.1 am_m291.1 am_h291 = true := by decide +kernel
theorem am_k291 : amMkB am_n291 am_m291 am_g291 = true := by decide +kernel
theorem am_c292 : amCode amGG amXX am_n292.1.cls am_n292.2.1 am_m292.2.2.2.1 am_m292.1 am_h292 = true := by decide +kernel
theorem am_k292 : amMkB am_n292 am_m292 am_g292 = true := by decide +kernel
theorem am_c293 : amCode amGG amXX am_n293.1.cls am_n293.2.1 am_m293.2.2.2.1 am_m293.1 am_h293 = true := by decide +kernel
theorem am_k293 : amMkB am_n293 am_m293 am_g293 = true := by decide +kernel
theorem am_c294 : amCode amGG amXX am_n294.1.cls am_n294.2.1 am_m294.2.2.2.1 am_m294.1 am_h294 = true := by decide +kernel
theorem am_k294 : amMkB am_n294 am_m294 am_g294 = true := by decide +kernel
theorem am_c295 : amCode amGG amXX am_n295.1.cls am_n295.2.1 am_m295.2.2.2.1 am_m295.1 am_h295 = true := by decide +kernel
theorem am_k295 : amMkB am_n295 am_m295 am_g295 = true := by decide +kernel
theorem am_c296 : amCode amGG amXX am_n296.1.cls am_n296.2.1 am_m296.2.2.2.1 am_m296.1 am_h296 = true := by decide +kernel
theorem am_k296 : amMkB am_n296 am_m296 am_g296 = true := by decide +kernel
theorem am_c297 : amCode amGG amXX am_n297.1.cls am_n297.2.1 am_m297.2.2.2.1 am_m297.1 am_h297 = true := by decide +kernel
theorem am_k297 : amMkB am_n297 am_m297 am_g297 = true := by decide +kernel
theorem am_c298 : amCode amGG amXX am_n298.1.cls am_n298.2.1 am_m298.2.2.2.1 am_m298.1 am_h298 = true := by decide +kernel
theorem am_k298 : amMkB am_n298 am_m298 am_g298 = true := by decide +kernel
theorem am_c299 : amCode amGG amXX am_n299.1.cls am_n299.2.1 am_m299.2.2.2.1 am_m299.1 am_h299 = true := by decide +kernel
theorem am_k299 : amMkB am_n299 am_m299 am_g299 = true := by decide +kernel
theorem am_c300 : amCode amGG amXX am_n300.1.cls am_n300.2.1 am_m300.2.2.2.1 am_m300.1 am_h300 = true := by decide +kernel
theorem am_k300 : amMkB am_n300 am_m300 am_g300 = true := by decide +kernel
theorem am_c301 : amCode amGG amXX am_n301.1.cls am_n301.2.1 am_m301.2.2.2.1 am_m301.1 am_h301 = true := by decide +kernel
theorem am_k301 : amMkB am_n301 am_m301 am_g301 = true := by decide +kernel
theorem am_c302 : amCode amGG amXX am_n302.1.cls am_n302.2.1 am_m302.2.2.2.1 am_m302.1 am_h302 = true := by decide +kernel
theorem am_k302 : amMkB am_n302 am_m302 am_g302 = true := by decide +kernel
theorem am_c303 : amCode amGG amXX am_n303.1.cls am_n303.2.1 am_m303.2.2.2.1 am_m303.1 am_h303 = true := by decide +kernel
theorem am_k303 : amMkB am_n303 am_m303 am_g303 = true := by decide +kernel
theorem am_c304 : amCode amGG amXX am_n304.1.cls am_n304.2.1 am_m304.2.2.2.1 am_m304.1 am_h304 = true := by decide +kernel
theorem am_k304 : amMkB am_n304 am_m304 am_g304 = true := by decide +kernel
theorem am_c305 : amCode amGG amXX am_n305.1.cls am_n305.2.1 am_m305.2.2.2.1 am_m305.1 am_h305 = true := by decide +kernel
theorem am_k305 : amMkB am_n305 am_m305 am_g305 = true := by decide +kernel
theorem am_c306 : amCode amGG amXX am_n306.1.cls am_n306.2.1 am_m306.2.2.2.1 am_m306.1 am_h306 = true := by decide +kernel
theorem am_k306 : amMkB am_n306 am_m306 am_g306 = true := by decide +kernel
theorem am_c307 : amCode amGG amXX am_n307.1.cls am_n307.2.1 am_m307.2.2.2.1 am_m307.1 am_h307 = true := by decide +kernel
theorem am_k307 : amMkB am_n307 am_m307 am_g307 = true := by decide +kernel
theorem am_c308 : amCode amGG amXX am_n308.1.cls am_n308.2.1 am_m308.2.2.2.1 am_m308.1 am_h308 = true := by decide +kernel
theorem am_k308 : amMkB am_n308 am_m308 am_g308 = true := by decide +kernel
theorem am_c309 : amCode amGG amXX am_n309.1.cls am_n309.2.1 am_m309.2.2.2.1 am_m309.1 am_h309 = true := by decide +kernel
theorem am_k309 : amMkB am_n309 am_m309 am_g309 = true := by decide +kernel
theorem am_c310 : amCode amGG amXX am_n310.1.cls am_n310.2.1 am_m310.2.2.2.1 am_m310.1 am_h310 = true := by decide +kernel
theorem am_k310 : amMkB am_n310 am_m310 am_g310 = true := by decide +kernel
theorem am_c311 : amCode amGG amXX am_n311.1.cls am_n311.2.1 am_m311.2.2.2.1 am_m311.1 am_h311 = true := by decide +kernel
theorem am_k311 : amMkB am_n311 am_m311 am_g311 = true := by decide +kernel
theorem am_c312 : amCode amGG amXX am_n312.1.cls am_n312.2.1 am_m312.2.2.2.1 am_m312.1 am_h312 = true := by decide +kernel
theorem am_k312 : amMkB am_n312 am_m312 am_g312 = true := by decide +kernel
theorem am_c313 : amCode amGG amXX am_n313.1.cls am_n313.2.1 am_m313.2.2.2.1 am_m313.1 am_h313 = true := by decide +kernel
theorem am_k313 : amMkB am_n313 am_m313 am_g313 = true := by decide +kernel
theorem am_c314 : amCode amGG amXX am_n314.1.cls am_n314.2.1 am_m314.2.2.2.1 am_m314.1 am_h314 = true := by decide +kernel
theorem am_k314 : amMkB am_n314 am_m314 am_g314 = true := by decide +kernel
theorem am_c315 : amCode amGG amXX am_n315.1.cls am_n315.2.1 am_m315.2.2.2.1 am_m315.1 am_h315 = true := by decide +kernel
theorem am_k315 : amMkB am_n315 am_m315 am_g315 = true := by decide +kernel
theorem am_c316 : amCode amGG amXX am_n316.1.cls am_n316.2.1 am_m316.2.2.2.1 am_m316.1 am_h316 = true := by decide +kernel
theorem am_k316 : amMkB am_n316 am_m316 am_g316 = true := by decide +kernel
theorem am_c317 : amCode amGG amXX am_n317.1.cls am_n317.2.1 am_m317.2.2.2.1 am_m317.1 am_h317 = true := by decide +kernel
theorem am_k317 : amMkB am_n317 am_m317 am_g317 = true := by decide +kernel
theorem am_c318 : amCode amGG amXX am_n318.1.cls am_n318.2.1 am_m318.2.2.2.1 am_m318.1 am_h318 = true := by decide +kernel
theorem am_k318 : amMkB am_n318 am_m318 am_g318 = true := by decide +kernel
theorem am_c319 : amCode amGG amXX am_n319.1.cls am_n319.2.1 am_m319.2.2.2.1 am_m319.1 am_h319 = true := by decide +kernel
theorem am_k319 : amMkB am_n319 am_m319 am_g319 = true := by decide +kernel
theorem am_c320 : amCode amGG amXX am_n320.1.cls am_n320.2.1 am_m320.2.2.2.1 am_m320.1 am_h320 = true := by decide +kernel
theorem am_k320 : amMkB am_n320 am_m320 am_g320 = true := by decide +kernel
theorem am_c321 : amCode amGG amXX am_n321.1.cls am_n321.2.1 am_m321.2.2.2.1 am_m321.1 am_h321 = true := by decide +kernel
theorem am_k321 : amMkB am_n321 am_m321 am_g321 = true := by decide +kernel
theorem am_c322 : amCode amGG amXX am_n322.1.cls am_n322.2.1 am_m322.2.2.2.1 am_m322.1 am_h322 = true := by decide +kernel
theorem am_k322 : amMkB am_n322 am_m322 am_g322 = true := by decide +kernel
theorem am_c323 : amCode amGG amXX am_n323.1.cls am_n323.2.1 am_m323.2.2.2.1 am_m323.1 am_h323 = true := by decide +kernel
theorem am_k323 : amMkB am_n323 am_m323 am_g323 = true := by decide +kernel
theorem am_c324 : amCode amGG amXX am_n324.1.cls am_n324.2.1 am_m324.2.2.2.1 am_m324.1 am_h324 = true := by decide +kernel
theorem am_k324 : amMkB am_n324 am_m324 am_g324 = true := by decide +kernel
theorem am_c325 : amCode amGG amXX am_n325.1.cls am_n325.2.1 am_m325.2.2.2.1 am_m325.1 am_h325 = true := by decide +kernel
theorem am_k325 : amMkB am_n325 am_m325 am_g325 = true := by decide +kernel
theorem am_c326 : amCode amGG amXX am_n326.1.cls am_n326.2.1 am_m326.2.2.2.1 am_m326.1 am_h326 = true := by decide +kernel
theorem am_k326 : amMkB am_n326 am_m326 am_g326 = true := by decide +kernel
theorem am_c327 : amCode amGG amXX am_n327.1.cls am_n327.2.1 am_m327.2.2.2.1 am_m327.1 am_h327 = true := by decide +kernel
theorem am_k327 : amMkB am_n327 am_m327 am_g327 = true := by decide +kernel
theorem am_c328 : amCode amGG amXX am_n328.1.cls am_n328.2.1 am_m328.2.2.2.1 am_m328.1 am_h328 = true := by decide +kernel
theorem am_k328 : amMkB am_n328 am_m328 am_g328 = true := by decide +kernel
theorem am_c329 : amCode amGG amXX am_n329.1.cls am_n329.2.1 am_m329.2.2.2.1 am_m329.1 am_h329 = true := by decide +kernel
theorem am_k329 : amMkB am_n329 am_m329 am_g329 = true := by decide +kernel
theorem am_c330 : amCode amGG amXX am_n330.1.cls am_n330.2.1 am_m330.2.2.2.1 am_m330.1 am_h330 = true := by decide +kernel
theorem am_k330 : amMkB am_n330 am_m330 am_g330 = true := by decide +kernel
theorem am_c331 : amCode amGG amXX am_n331.1.cls am_n331.2.1 am_m331.2.2.2.1 am_m331.1 am_h331 = true := by decide +kernel
theorem am_k331 : amMkB am_n331 am_m331 am_g331 = true := by decide +kernel
theorem am_c332 : amCode amGG amXX am_n332.1.cls am_n332.2.1 am_m332.2.2.2.1 am_m332.1 am_h332 = true := by decide +kernel
theorem am_k332 : amMkB am_n332 am_m332 am_g332 = true := by decide +kernel
theorem am_c333 : amCode amGG amXX am_n333.1.cls am_n333.2.1 am_m333.2.2.2.1 am_m333.1 am_h333 = true := by decide +kernel
theorem am_k333 : amMkB am_n333 am_m333 am_g333 = true := by decide +kernel
theorem am_c334 : amCode amGG amXX am_n334.1.cls am_n334.2.1 am_m334.2.2.2.1 am_m334.1 am_h334 = true := by decide +kernel
theorem am_k334 : amMkB am_n334 am_m334 am_g334 = true := by decide +kernel
theorem am_c335 : amCode amGG amXX am_n335.1.cls am_n335.2.1 am_m335.2.2.2.1 am_m335.1 am_h335 = true := by decide +kernel
theorem am_k335 : amMkB am_n335 am_m335 am_g335 = true := by decide +kernel
theorem am_t6 : ∀ t ∈ [(am_n288, am_m288), (am_n289, am_m289), (am_n290, am_m290), (am_n291, am_m291), (am_n292, am_m292), (am_n293, am_m293), (am_n294, am_m294), (am_n295, am_m295), (am_n296, am_m296), (am_n297, am_m297), (am_n298, am_m298), (am_n299, am_m299), (am_n300, am_m300), (am_n301, am_m301), (am_n302, am_m302), (am_n303, am_m303), (am_n304, am_m304), (am_n305, am_m305), (am_n306, am_m306), (am_n307, am_m307), (am_n308, am_m308), (am_n309, am_m309), (am_n310, am_m310), (am_n311, am_m311), (am_n312, am_m312), (am_n313, am_m313), (am_n314, am_m314), (am_n315, am_m315), (am_n316, am_m316), (am_n317, am_m317), (am_n318, am_m318), (am_n319, am_m319), (am_n320, am_m320), (am_n321, am_m321), (am_n322, am_m322), (am_n323, am_m323), (am_n324, am_m324), (am_n325, am_m325), (am_n326, am_m326), (am_n327, am_m327), (am_n328, am_m328), (am_n329, am_m329), (am_n330, am_m330), (am_n331, am_m331), (am_n332, am_m332), (am_n333, am_m333), (am_n334, am_m334), (am_n335, am_m335)], amMk amGG amXX t.1 t.2 := by
  intro t ht
  simp only [List.mem_cons, List.not_mem_nil, or_false] at ht
  rcases ht with rfl | rfl | rfl | rfl | rfl | rfl | rfl | rfl | rfl | rfl | rfl | rfl | rfl | rfl | rfl | rfl | rfl | rfl | rfl | rfl | rfl | rfl | rfl | rfl | rfl | rfl | rfl | rfl | rfl | rfl | rfl | rfl | rfl | rfl | rfl | rfl | rfl | rfl | rfl | rfl | rfl | rfl | rfl | rfl | rfl | rfl | rfl | rfl
  · exact amMkB_s am_k288 am_c288
  · exact amMkB_s am_k289 am_c289
  · exact amMkB_s am_k290 am_c290
  · exact amMkB_s am_k291 am_c291
  · exact amMkB_s am_k292 am_c292
  · exact amMkB_s am_k293 am_c293
  · exact amMkB_s am_k294 am_c294
  · exact amMkB_s am_k295 am_c295
  · exact amMkB_s am_k296 am_c296
  · exact amMkB_s am_k297 am_c297
  · exact amMkB_s am_k298 am_c298
  · exact amMkB_s am_k299 am_c299
  · exact amMkB_s am_k300 am_c300
  · exact amMkB_s am_k301 am_c301
  · exact amMkB_s am_k302 am_c302
  · exact amMkB_s am_k303 am_c303
  · exact amMkB_s am_k304 am_c304
  · exact amMkB_s am_k305 am_c305
  · exact amMkB_s am_k306 am_c306
  · exact amMkB_s am_k307 am_c307
  · exact amMkB_s am_k308 am_c308
  · exact amMkB_s am_k309 am_c309
  · exact amMkB_s am_k310 am_c310
  · exact amMkB_s am_k311 am_c311
  · exact amMkB_s am_k312 am_c312
  · exact amMkB_s am_k313 am_c313
  · exact amMkB_s am_k314 am_c314
  · exact amMkB_s am_k315 am_c315
  · exact amMkB_s am_k316 am_c316
  · exact amMkB_s am_k317 am_c317
  · exact amMkB_s am_k318 am_c318
  · exact amMkB_s am_k319 am_c319
  · exact amMkB_s am_k320 am_c320
  · exact amMkB_s am_k321 am_c321
  · exact amMkB_s am_k322 am_c322
  · exact amMkB_s am_k323 am_c323
  · exact amMkB_s am_k324 am_c324
  · exact amMkB_s am_k325 am_c325
  · exact amMkB_s am_k326 am_c326
  · exact amMkB_s am_k327 am_c327
  · exact amMkB_s am_k328 am_c328
  · exact amMkB_s am_k329 am_c329
  · exact amMkB_s am_k330 am_c330
  · exact amMkB_s am_k331 am_c331
  · exact amMkB_s am_k332 am_c332
  · exact amMkB_s am_k333 am_c333
  · exact amMkB_s am_k334 am_c334
  · exact amMkB_s am_k335 am_c335
end
section
/-! ===== the tables checked, 7 ===== -/
theorem am_c336 : amCode amGG amXX am_n336.1.cls am_n336.2.1 am_m336.2.2.2.1 am_m336.1 am_h336 = true := by decide +kernel
theorem am_k336 : amMkB am_n336 am_m336 am_g336 = true := by decide +kernel
theorem am_c337 : amCode amGG amXX am_n337.1.cls am_n337.2.1 am_m337.2.2.2.1 am_m337.1 am_h337 = true := by decide +kernel
theorem am_k337 : amMkB am_n337 am_m337 am_g337 = true := by decide +kernel
theorem am_c338 : amCode amGG amXX am_n338.1.cls am_n338.2.1 am_m338.2.2.2.1 am_m338.1 am_h338 = true := by decide +kernel
theorem am_k338 : amMkB am_n338 am_m338 am_g338 = true := by decide +kernel
theorem am_c339 : amCode amGG amXX am_n339.1.cls am_n339.2.1 am_m339.2.2.2.1 am_m339.1 am_h339 = true := by decide +kernel
theorem am_k339 : amMkB am_n339 am_m339 am_g339 = true := by decide +kernel
theorem am_c340 : amCode amGG amXX am_n340.1.cls am_n340.2.1 am_m340.2.2.2.1 am_m340.1 am_h340 = true := by decide +kernel
theorem am_k340 : amMkB am_n340 am_m340 am_g340 = true := by decide +kernel
theorem am_c341 : amCode amGG amXX am_n341.1.cls am_n341.2.1 am_m341.2.2.2.1 am_m341.1 am_h341 = true := by decide +kernel
theorem am_k341 : amMkB am_n341 am_m341 am_g341 = true := by decide +kernel
theorem am_c342 : amCode amGG amXX am_n342.1.cls am_n342.2.1 am_m342.2.2.2.1 am_m342.1 am_h342 = true := by decide +kernel
theorem am_k342 : amMkB am_n342 am_m342 am_g342 = true := by decide +kernel
theorem am_c343 : amCode amGG amXX am_n343.1.cls am_n343.2.1 am_m343.2.2.2.1 am_m343.1 am_h343 = true := by decide +kernel
theorem am_k343 : amMkB am_n343 am_m343 am_g343 = true := by decide +kernel
theorem am_c344 : amCode amGG amXX am_n344.1.cls am_n344.2.1 am_m344.2.2.2.1 am_m344.1 am_h344 = true := by decide +kernel
theorem am_k344 : amMkB am_n344 am_m344 am_g344 = true := by decide +kernel
theorem am_c345 : amCode amGG amXX am_n345.1.cls am_n345.2.1 am_m345.2.2.2.1 am_m345.1 am_h345 = true := by decide +kernel
theorem am_k345 : amMkB am_n345 am_m345 am_g345 = true := by decide +kernel
theorem am_c346 : amCode amGG amXX am_n346.1.cls am_n346.2.1 am_m346.2.2.2.1 am_m346.1 am_h346 = true := by decide +kernel
theorem am_k346 : amMkB am_n346 am_m346 am_g346 = true := by decide +kernel
theorem am_c347 : amCode amGG amXX am_n347.1.cls am_n347.2.1 am_m347.2.2.2.1 am_m347.1 am_h347 = true := by decide +kernel
theorem am_k347 : amMkB am_n347 am_m347 am_g347 = true := by decide +kernel
theorem am_c348 : amCode amGG amXX am_n348.1.cls am_n348.2.1 am_m348.2.2.2.1 am_m348.1 am_h348 = true := by decide +kernel
theorem am_k348 : amMkB am_n348 am_m348 am_g348 = true := by decide +kernel
theorem am_c349 : amCode amGG amXX am_n349.1.cls am_n349.2.1 am_m349.2.2.2.1 am_m349.1 am_h349 = true := by decide +kernel
theorem am_k349 : amMkB am_n349 am_m349 am_g349 = true := by decide +kernel
theorem am_c350 : amCode amGG amXX am_n350.1.cls am_n350.2.1 am_m350.2.2.2.1 am_m350.1 am_h350 = true := by decide +kernel
theorem am_k350 : amMkB am_n350 am_m350 am_g350 = true := by decide +kernel
theorem am_c351 : amCode amGG amXX am_n351.1.cls am_n351.2.1 am_m351.2.2.2.1 am_m351.1 am_h351 = true := by decide +kernel
theorem am_k351 : amMkB am_n351 am_m351 am_g351 = true := by decide +kernel
theorem am_c352 : amCode amGG amXX am_n352.1.cls am_n352.2.1 am_m352.2.2.2.1 am_m352.1 am_h352 = true := by decide +kernel
theorem am_k352 : amMkB am_n352 am_m352 am_g352 = true := by decide +kernel
theorem am_c353 : amCode amGG amXX am_n353.1.cls am_n353.2.1 am_m353.2.2.2.1 am_m353.1 am_h353 = true := by decide +kernel
theorem am_k353 : amMkB am_n353 am_m353 am_g353 = true := by decide +kernel
theorem am_c354 : amCode amGG amXX am_n354.1.cls am_n354.2.1 am_m354.2.2.2.1 am_m354.1 am_h354 = true := by decide +kernel
theorem am_k354 : amMkB am_n354 am_m354 am_g354 = true := by decide +kernel
theorem am_c355 : amCode amGG amXX am_n355.1.cls am_n355.2.1 am_m355.2.2.2.1 am_m355.1 am_h355 = true := by decide +kernel
theorem am_k355 : amMkB am_n355 am_m355 am_g355 = true := by decide +kernel
theorem am_c356 : amCode amGG amXX am_n356.1.cls am_n356.2.1 am_m356.2.2.2.1 am_m356.1 am_h356 = true := by decide +kernel
theorem am_k356 : amMkB am_n356 am_m356 am_g356 = true := by decide +kernel
theorem am_c357 : amCode amGG amXX am_n357.1.cls am_n357.2.1 am_m357.2.2.2.1 am_m357.1 am_h357 = true := by decide +kernel
theorem am_k357 : amMkB am_n357 am_m357 am_g357 = true := by decide +kernel
theorem am_c358 : amCode amGG amXX am_n358.1.cls am_n358.2.1 am_m358.2.2.2.1 am_m358.1 am_h358 = true := by decide +kernel
theorem am_k358 : amMkB am_n358 am_m358 am_g358 = true := by decide +kernel
theorem am_c359 : amCode amGG amXX am_n359.1.cls am_n359.2.1 am_m359.2.2.2.1 am_m359.1 am_h359 = true := by decide +kernel
theorem am_k359 : amMkB am_n359 am_m359 am_g359 = true := by decide +kernel
theorem am_c360 : amCode amGG amXX am_n360.1.cls am_n360.2.1 am_m360.2.2.2.1 am_m360.1 am_h360 = true := by decide +kernel
theorem am_k360 : amMkB am_n360 am_m360 am_g360 = true := by decide +kernel
theorem am_c361 : amCode amGG amXX am_n361.1.cls am_n361.2.1 am_m361.2.2.2.1 am_m361.1 am_h361 = true := by decide +kernel
theorem am_k361 : amMkB am_n361 am_m361 am_g361 = true := by decide +kernel
theorem am_c362 : amCode amGG amXX am_n362.1.cls am_n362.2.1 am_m362.2.2.2.1 am_m362.1 am_h362 = true := by decide +kernel
theorem am_k362 : amMkB am_n362 am_m362 am_g362 = true := by decide +kernel
theorem am_c363 : amCode amGG amXX am_n363.1.cls am_n363.2.1 am_m363.2.2.2.1 am_m363.1 am_h363 = true := by decide +kernel
theorem am_k363 : amMkB am_n363 am_m363 am_g363 = true := by decide +kernel
theorem am_c364 : amCode amGG amXX am_n364.1.cls am_n364.2.1 am_m364.2.2.2.1 am_m364.1 am_h364 = true := by decide +kernel
theorem am_k364 : amMkB am_n364 am_m364 am_g364 = true := by decide +kernel
theorem am_c365 : amCode amGG amXX am_n365.1.cls am_n365.2.1 am_m365.2.2.2.1 am_m365.1 am_h365 = true := by decide +kernel
theorem am_k365 : amMkB am_n365 am_m365 am_g365 = true := by decide +kernel
theorem am_c366 : amCode amGG amXX am_n366.1.cls am_n366.2.1 am_m366.2.2.2.1 am_m366.1 am_h366 = true := by decide +kernel
theorem am_k366 : amMkB am_n366 am_m366 am_g366 = true := by decide +kernel
theorem am_c367 : amCode amGG amXX am_n367.1.cls am_n367.2.1 am_m367.2.2.2.1 am_m367.1 am_h367 = true := by decide +kernel
theorem am_k367 : amMkB am_n367 am_m367 am_g367 = true := by decide +kernel
theorem am_c368 : amCode amGG amXX am_n368.1.cls am_n368.2.1 am_m368.2.2.2.1 am_m368.1 am_h368 = true := by decide +kernel
theorem am_k368 : amMkB am_n368 am_m368 am_g368 = true := by decide +kernel
theorem am_c369 : amCode amGG amXX am_n369.1.cls am_n369.2.1 am_m369.2.2.2.1 am_m369.1 am_h369 = true := by decide +kernel
theorem am_k369 : amMkB am_n369 am_m369 am_g369 = true := by decide +kernel
theorem am_c370 : amCode amGG amXX am_n370.1.cls am_n370.2.1 am_m370.2.2.2.1 am_m370.1 am_h370 = true := by decide +kernel
theorem am_k370 : amMkB am_n370 am_m370 am_g370 = true := by decide +kernel
theorem am_c371 : amCode amGG amXX am_n371.1.cls am_n371.2.1 am_m371.2.2.2.1 am_m371.1 am_h371 = true := by decide +kernel
theorem am_k371 : amMkB am_n371 am_m371 am_g371 = true := by decide +kernel
theorem am_c372 : amCode amGG amXX am_n372.1.cls am_n372.2.1 am_m372.2.2.2.1 am_m372.1 am_h372 = true := by decide +kernel
theorem am_k372 : amMkB am_n372 am_m372 am_g372 = true := by decide +kernel
theorem am_c373 : amCode amGG amXX am_n373.1.cls am_n373.2.1 am_m373.2.2.2.1 am_m373.1 am_h373 = true := by decide +kernel
theorem am_k373 : amMkB am_n373 am_m373 am_g373 = true := by decide +kernel
theorem am_c374 : amCode amGG amXX am_n374.1.cls am_n374.2.1 am_m374.2.2.2.1 am_m374.1 am_h374 = true := by decide +kernel
theorem am_k374 : amMkB am_n374 am_m374 am_g374 = true := by decide +kernel
theorem am_c375 : amCode amGG amXX am_n375.1.cls am_n375.2.1 am_m375.2.2.2.1 am_m375.1 am_h375 = true := by decide +kernel
theorem am_k375 : amMkB am_n375 am_m375 am_g375 = true := by decide +kernel
theorem am_c376 : amCode amGG amXX am_n376.1.cls am_n376.2.1 am_m376.2.2.2.1 am_m376.1 am_h376 = true := by decide +kernel
theorem am_k376 : amMkB am_n376 am_m376 am_g376 = true := by decide +kernel
theorem am_c377 : amCode amGG amXX am_n377.1.cls am_n377.2.1 am_m377.2.2.2.1 am_m377.1 am_h377 = true := by decide +kernel
theorem am_k377 : amMkB am_n377 am_m377 am_g377 = true := by decide +kernel
theorem am_c378 : amCode amGG amXX am_n378.1.cls am_n378.2.1 am_m378.2.2.2.1 am_m378.1 am_h378 = true := by decide +kernel
theorem am_k378 : amMkB am_n378 am_m378 am_g378 = true := by decide +kernel
theorem am_c379 : amCode amGG amXX am_n379.1.cls am_n379.2.1 am_m379.2.2.2.1 am_m379.1 am_h379 = true := by decide +kernel
theorem am_k379 : amMkB am_n379 am_m379 am_g379 = true := by decide +kernel
theorem am_c380 : amCode amGG amXX am_n380.1.cls am_n380.2.1 am_m380.2.2.2.1 am_m380.1 am_h380 = true := by decide +kernel
theorem am_k380 : amMkB am_n380 am_m380 am_g380 = true := by decide +kernel
theorem am_c381 : amCode amGG amXX am_n381.1.cls am_n381.2.1 am_m381.2.2.2.1 am_m381.1 am_h381 = true := by decide +kernel
theorem am_k381 : amMkB am_n381 am_m381 am_g381 = true := by decide +kernel
theorem am_c382 : amCode amGG amXX am_n382.1.cls am_n382.2.1 am_m382.2.2.2.1 am_m382.1 am_h382 = true := by decide +kernel
theorem am_k382 : amMkB am_n382 am_m382 am_g382 = true := by decide +kernel
theorem am_c383 : amCode amGG amXX am_n383.1.cls am_n383.2.1 am_m383.2.2.2.1 am_m383.1 am_h383 = true := by decide +kernel
theorem am_k383 : amMkB am_n383 am_m383 am_g383 = true := by decide +kernel
theorem am_t7 : ∀ t ∈ [(am_n336, am_m336), (am_n337, am_m337), (am_n338, am_m338), (am_n339, am_m339), (am_n340, am_m340), (am_n341, am_m341), (am_n342, am_m342), (am_n343, am_m343), (am_n344, am_m344), (am_n345, am_m345), (am_n346, am_m346), (am_n347, am_m347), (am_n348, am_m348), (am_n349, am_m349), (am_n350, am_m350), (am_n351, am_m351), (am_n352, am_m352), (am_n353, am_m353), (am_n354, am_m354), (am_n355, am_m355), (am_n356, am_m356), (am_n357, am_m357), (am_n358, am_m358), (am_n359, am_m359), (am_n360, am_m360), (am_n361, am_m361), (am_n362, am_m362), (am_n363, am_m363), (am_n364, am_m364), (am_n365, am_m365), (am_n366, am_m366), (am_n367, am_m367), (am_n368, am_m368), (am_n369, am_m369), (am_n370, am_m370), (am_n371, am_m371), (am_n372, am_m372), (am_n373, am_m373), (am_n374, am_m374), (am_n375, am_m375), (am_n376, am_m376), (am_n377, am_m377), (am_n378, am_m378), (am_n379, am_m379), (am_n380, am_m380), (am_n381, am_m381), (am_n382, am_m382), (am_n383, am_m383)], amMk amGG amXX t.1 t.2 := by
  intro t ht
  simp only [List.mem_cons, List.not_mem_nil, or_false] at ht
  rcases ht with rfl | rfl | rfl | rfl | rfl | rfl | rfl | rfl | rfl | rfl | rfl | rfl | rfl | rfl | rfl | rfl | rfl | rfl | rfl | rfl | rfl | rfl | rfl | rfl | rfl | rfl | rfl | rfl | rfl | rfl | rfl | rfl | rfl | rfl | rfl | rfl | rfl | rfl | rfl | rfl | rfl | rfl | rfl | rfl | rfl | rfl | rfl | rfl
  · exact amMkB_s am_k336 am_c336
  · exact amMkB_s am_k337 am_c337
  · exact amMkB_s am_k338 am_c338
  · exact amMkB_s am_k339 am_c339
  · exact amMkB_s am_k340 am_c340
  · exact amMkB_s am_k341 am_c341
  · exact amMkB_s am_k342 am_c342
  · exact amMkB_s am_k343 am_c343
  · exact amMkB_s am_k344 am_c344
  · exact amMkB_s am_k345 am_c345
  · exact amMkB_s am_k346 am_c346
  · exact amMkB_s am_k347 am_c347
  · exact amMkB_s am_k348 am_c348
  · exact amMkB_s am_k349 am_c349
  · exact amMkB_s am_k350 am_c350
  · exact amMkB_s am_k351 am_c351
  · exact amMkB_s am_k352 am_c352
  · exact amMkB_s am_k353 am_c353
  · exact amMkB_s am_k354 am_c354
  · exact amMkB_s am_k355 am_c355
  · exact amMkB_s am_k356 am_c356
  · exact amMkB_s am_k357 am_c357
  · exact amMkB_s am_k358 am_c358
  · exact amMkB_s am_k359 am_c359
  · exact amMkB_s am_k360 am_c360
  · exact amMkB_s am_k361 am_c361
  · exact amMkB_s am_k362 am_c362
  · exact amMkB_s am_k363 am_c363
  · exact amMkB_s am_k364 am_c364
  · exact amMkB_s am_k365 am_c365
  · exact amMkB_s am_k366 am_c366
  · exact amMkB_s am_k367 am_c367
  · exact amMkB_s am_k368 am_c368
  · exact amMkB_s am_k369 am_c369
  · exact amMkB_s am_k370 am_c370
  · exact amMkB_s am_k371 am_c371
  · exact amMkB_s am_k372 am_c372
  · exact amMkB_s am_k373 am_c373
  · exact amMkB_s am_k374 am_c374
  · exact amMkB_s am_k375 am_c375
  · exact amMkB_s am_k376 am_c376
  · exact amMkB_s am_k377 am_c377
  · exact amMkB_s am_k378 am_c378
  · exact amMkB_s am_k379 am_c379
  · exact amMkB_s am_k380 am_c380
  · exact amMkB_s am_k381 am_c381
  · exact amMkB_s am_k382 am_c382
  · exact amMkB_s am_k383 am_c383
end
section
/-! ===== the tables checked, 8 ===== -/
theorem am_c384 : amCode amGG amXX am_n384.1.cls am_n384.2.1 am_m384.2.2.2.1 am_m384.1 am_h384 = true := by decide +kernel
theorem am_k384 : amMkB am_n384 am_m384 am_g384 = true := by decide +kernel
theorem am_t8 : ∀ t ∈ [(am_n384, am_m384)], amMk amGG amXX t.1 t.2 := by
  intro t ht
  simp only [List.mem_cons, List.not_mem_nil, or_false] at ht
  rcases ht with rfl
  · exact amMkB_s am_k384 am_c384
end
section
/-! ===== the tables checked: all ===== -/
theorem amCode_app {G : Nat → Option amM} {X : Nat → Option amN} {own : String} {cc : ByteArray} {ini : Bool} : ∀ {c1 c2 : amP} {h1 h2 : List (List Nat)}, c1.length = h1.length → amCode G X own cc ini c1 h1 = true → amCode G X own cc ini c2 h2 = true → amCode G X own cc ini (c1 ++ c2) (h1 ++ h2) = true
  | [], _, [], _, _, _, h => h
  | [], _, _ :: _, _, e, _, _ => by cases e
  | _ :: _, _, [], _, e, _, _ => by cases e
  | q :: r, c2, g :: gs, h2, e, h, k => by
    simp only [amCode, Bool.and_eq_true, List.cons_append, List.headD_cons, List.tail_cons] at h ⊢
    exact ⟨h.1, amCode_app (Nat.succ.inj e) h.2 k⟩
theorem am_cL_0 : amCode amGG amXX am_nL.1.cls am_nL.2.1 am_mL.2.2.2.1 am_mL_0 am_hL_0 = true := by decide +kernel
theorem am_lL_0 : am_mL_0.length = am_hL_0.length := by decide +kernel
theorem am_cL_1 : amCode amGG amXX am_nL.1.cls am_nL.2.1 am_mL.2.2.2.1 am_mL_1 am_hL_1 = true := by decide +kernel
theorem am_lL_1 : am_mL_1.length = am_hL_1.length := by decide +kernel
theorem am_cL_2 : amCode amGG amXX am_nL.1.cls am_nL.2.1 am_mL.2.2.2.1 am_mL_2 am_hL_2 = true := by decide +kernel
theorem am_lL_2 : am_mL_2.length = am_hL_2.length := by decide +kernel
theorem am_cL_3 : amCode amGG amXX am_nL.1.cls am_nL.2.1 am_mL.2.2.2.1 am_mL_3 am_hL_3 = true := by decide +kernel
theorem am_lL_3 : am_mL_3.length = am_hL_3.length := by decide +kernel
theorem am_cL_4 : amCode amGG amXX am_nL.1.cls am_nL.2.1 am_mL.2.2.2.1 am_mL_4 am_hL_4 = true := by decide +kernel
theorem am_lL_4 : am_mL_4.length = am_hL_4.length := by decide +kernel
theorem am_cL_5 : amCode amGG amXX am_nL.1.cls am_nL.2.1 am_mL.2.2.2.1 am_mL_5 am_hL_5 = true := by decide +kernel
theorem am_lL_5 : am_mL_5.length = am_hL_5.length := by decide +kernel
theorem am_cL_6 : amCode amGG amXX am_nL.1.cls am_nL.2.1 am_mL.2.2.2.1 am_mL_6 am_hL_6 = true := by decide +kernel
theorem am_lL_6 : am_mL_6.length = am_hL_6.length := by decide +kernel
theorem am_cL_7 : amCode amGG amXX am_nL.1.cls am_nL.2.1 am_mL.2.2.2.1 am_mL_7 am_hL_7 = true := by decide +kernel
theorem am_lL_7 : am_mL_7.length = am_hL_7.length := by decide +kernel
theorem am_cL_8 : amCode amGG amXX am_nL.1.cls am_nL.2.1 am_mL.2.2.2.1 am_mL_8 am_hL_8 = true := by decide +kernel
theorem am_lL_8 : am_mL_8.length = am_hL_8.length := by decide +kernel
theorem am_cL : amCode amGG amXX am_nL.1.cls am_nL.2.1 am_mL.2.2.2.1 am_mL.1 am_hL = true := amCode_app am_lL_0 am_cL_0 (amCode_app am_lL_1 am_cL_1 (amCode_app am_lL_2 am_cL_2 (amCode_app am_lL_3 am_cL_3 (amCode_app am_lL_4 am_cL_4 (amCode_app am_lL_5 am_cL_5 (amCode_app am_lL_6 am_cL_6 (amCode_app am_lL_7 am_cL_7 (am_cL_8))))))))
theorem am_kL : amMkB am_nL am_mL am_gL = true := by decide +kernel
theorem am_law : amMk amGG amXX am_nL am_mL := amMkB_s am_kL am_cL
theorem am_r0 : ∀ t ∈ [(am_n0, am_m0), (am_n1, am_m1), (am_n2, am_m2), (am_n3, am_m3), (am_n4, am_m4), (am_n5, am_m5), (am_n6, am_m6), (am_n7, am_m7), (am_n8, am_m8), (am_n9, am_m9), (am_n10, am_m10), (am_n11, am_m11), (am_n12, am_m12), (am_n13, am_m13), (am_n14, am_m14), (am_n15, am_m15)], amMk amGG amXX t.1 t.2 := fun t ht => am_t0 t (List.mem_of_mem_take (i := 16) ht)
theorem am_r1 : ∀ t ∈ [(am_n16, am_m16), (am_n17, am_m17), (am_n18, am_m18), (am_n19, am_m19), (am_n20, am_m20), (am_n21, am_m21), (am_n22, am_m22), (am_n23, am_m23), (am_n24, am_m24), (am_n25, am_m25), (am_n26, am_m26), (am_n27, am_m27), (am_n28, am_m28), (am_n29, am_m29), (am_n30, am_m30), (am_n31, am_m31)], amMk amGG amXX t.1 t.2 := fun t ht => am_t0 t (List.mem_of_mem_drop (i := 16) (List.mem_of_mem_take (i := 16) ht))
theorem am_r2 : ∀ t ∈ [(am_n32, am_m32), (am_n33, am_m33), (am_n34, am_m34), (am_n35, am_m35), (am_n36, am_m36), (am_n37, am_m37), (am_n38, am_m38), (am_n39, am_m39), (am_n40, am_m40), (am_n41, am_m41), (am_n42, am_m42), (am_n43, am_m43), (am_n44, am_m44), (am_n45, am_m45), (am_n46, am_m46), (am_n47, am_m47)], amMk amGG amXX t.1 t.2 := fun t ht => am_t0 t (List.mem_of_mem_drop (i := 32) (List.mem_of_mem_take (i := 16) ht))
theorem am_r3 : ∀ t ∈ [(am_n48, am_m48), (am_n49, am_m49), (am_n50, am_m50), (am_n51, am_m51), (am_n52, am_m52), (am_n53, am_m53), (am_n54, am_m54), (am_n55, am_m55), (am_n56, am_m56), (am_n57, am_m57), (am_n58, am_m58), (am_n59, am_m59), (am_n60, am_m60), (am_n61, am_m61), (am_n62, am_m62), (am_n63, am_m63)], amMk amGG amXX t.1 t.2 := fun t ht => am_t1 t (List.mem_of_mem_take (i := 16) ht)
theorem am_r4 : ∀ t ∈ [(am_n64, am_m64), (am_n65, am_m65), (am_n66, am_m66), (am_n67, am_m67), (am_n68, am_m68), (am_n69, am_m69), (am_n70, am_m70), (am_n71, am_m71), (am_n72, am_m72), (am_n73, am_m73), (am_n74, am_m74), (am_n75, am_m75), (am_n76, am_m76), (am_n77, am_m77), (am_n78, am_m78), (am_n79, am_m79)], amMk amGG amXX t.1 t.2 := fun t ht => am_t1 t (List.mem_of_mem_drop (i := 16) (List.mem_of_mem_take (i := 16) ht))
theorem am_r5 : ∀ t ∈ [(am_n80, am_m80), (am_n81, am_m81), (am_n82, am_m82), (am_n83, am_m83), (am_n84, am_m84), (am_n85, am_m85), (am_n86, am_m86), (am_n87, am_m87), (am_n88, am_m88), (am_n89, am_m89), (am_n90, am_m90), (am_n91, am_m91), (am_n92, am_m92), (am_n93, am_m93), (am_n94, am_m94), (am_n95, am_m95)], amMk amGG amXX t.1 t.2 := fun t ht => am_t1 t (List.mem_of_mem_drop (i := 32) (List.mem_of_mem_take (i := 16) ht))
theorem am_r6 : ∀ t ∈ [(am_n96, am_m96), (am_n97, am_m97), (am_n98, am_m98), (am_n99, am_m99), (am_n100, am_m100), (am_n101, am_m101), (am_n102, am_m102), (am_n103, am_m103), (am_n104, am_m104), (am_n105, am_m105), (am_n106, am_m106), (am_n107, am_m107), (am_n108, am_m108), (am_n109, am_m109), (am_n110, am_m110), (am_n111, am_m111)], amMk amGG amXX t.1 t.2 := fun t ht => am_t2 t (List.mem_of_mem_take (i := 16) ht)
theorem am_r7 : ∀ t ∈ [(am_n112, am_m112), (am_n113, am_m113), (am_n114, am_m114), (am_n115, am_m115), (am_n116, am_m116), (am_n117, am_m117), (am_n118, am_m118), (am_n119, am_m119), (am_n120, am_m120), (am_n121, am_m121), (am_n122, am_m122), (am_n123, am_m123), (am_n124, am_m124), (am_n125, am_m125), (am_n126, am_m126), (am_n127, am_m127)], amMk amGG amXX t.1 t.2 := fun t ht => am_t2 t (List.mem_of_mem_drop (i := 16) (List.mem_of_mem_take (i := 16) ht))
theorem am_r8 : ∀ t ∈ [(am_n128, am_m128), (am_n129, am_m129), (am_n130, am_m130), (am_n131, am_m131), (am_n132, am_m132), (am_n133, am_m133), (am_n134, am_m134), (am_n135, am_m135), (am_n136, am_m136), (am_n137, am_m137), (am_n138, am_m138), (am_n139, am_m139), (am_n140, am_m140), (am_n141, am_m141), (am_n142, am_m142), (am_n143, am_m143)], amMk amGG amXX t.1 t.2 := fun t ht => am_t2 t (List.mem_of_mem_drop (i := 32) (List.mem_of_mem_take (i := 16) ht))
theorem am_r9 : ∀ t ∈ [(am_n144, am_m144), (am_n145, am_m145), (am_n146, am_m146), (am_n147, am_m147), (am_n148, am_m148), (am_n149, am_m149), (am_n150, am_m150), (am_n151, am_m151), (am_n152, am_m152), (am_n153, am_m153), (am_n154, am_m154), (am_n155, am_m155), (am_n156, am_m156), (am_n157, am_m157), (am_n158, am_m158), (am_n159, am_m159)], amMk amGG amXX t.1 t.2 := fun t ht => am_t3 t (List.mem_of_mem_take (i := 16) ht)
theorem am_r10 : ∀ t ∈ [(am_n160, am_m160), (am_n161, am_m161), (am_n162, am_m162), (am_n163, am_m163), (am_n164, am_m164), (am_n165, am_m165), (am_n166, am_m166), (am_n167, am_m167), (am_n168, am_m168), (am_n169, am_m169), (am_n170, am_m170), (am_n171, am_m171), (am_n172, am_m172), (am_n173, am_m173), (am_n174, am_m174), (am_n175, am_m175)], amMk amGG amXX t.1 t.2 := fun t ht => am_t3 t (List.mem_of_mem_drop (i := 16) (List.mem_of_mem_take (i := 16) ht))
theorem am_r11 : ∀ t ∈ [(am_n176, am_m176), (am_n177, am_m177), (am_n178, am_m178), (am_n179, am_m179), (am_n180, am_m180), (am_n181, am_m181), (am_n182, am_m182), (am_n183, am_m183), (am_n184, am_m184), (am_n185, am_m185), (am_n186, am_m186), (am_n187, am_m187), (am_n188, am_m188), (am_n189, am_m189), (am_n190, am_m190), (am_n191, am_m191)], amMk amGG amXX t.1 t.2 := fun t ht => am_t3 t (List.mem_of_mem_drop (i := 32) (List.mem_of_mem_take (i := 16) ht))
theorem am_r12 : ∀ t ∈ [(am_n192, am_m192), (am_n193, am_m193), (am_n194, am_m194), (am_n195, am_m195), (am_n196, am_m196), (am_n197, am_m197), (am_n198, am_m198), (am_n199, am_m199), (am_n200, am_m200), (am_n201, am_m201), (am_n202, am_m202), (am_n203, am_m203), (am_n204, am_m204), (am_n205, am_m205), (am_n206, am_m206), (am_n207, am_m207)], amMk amGG amXX t.1 t.2 := fun t ht => am_t4 t (List.mem_of_mem_take (i := 16) ht)
theorem am_r13 : ∀ t ∈ [(am_n208, am_m208), (am_n209, am_m209), (am_n210, am_m210), (am_n211, am_m211), (am_n212, am_m212), (am_n213, am_m213), (am_n214, am_m214), (am_n215, am_m215), (am_n216, am_m216), (am_n217, am_m217), (am_n218, am_m218), (am_n219, am_m219), (am_n220, am_m220), (am_n221, am_m221), (am_n222, am_m222), (am_n223, am_m223)], amMk amGG amXX t.1 t.2 := fun t ht => am_t4 t (List.mem_of_mem_drop (i := 16) (List.mem_of_mem_take (i := 16) ht))
theorem am_r14 : ∀ t ∈ [(am_n224, am_m224), (am_n225, am_m225), (am_n226, am_m226), (am_n227, am_m227), (am_n228, am_m228), (am_n229, am_m229), (am_n230, am_m230), (am_n231, am_m231), (am_n232, am_m232), (am_n233, am_m233), (am_n234, am_m234), (am_n235, am_m235), (am_n236, am_m236), (am_n237, am_m237), (am_n238, am_m238), (am_n239, am_m239)], amMk amGG amXX t.1 t.2 := fun t ht => am_t4 t (List.mem_of_mem_drop (i := 32) (List.mem_of_mem_take (i := 16) ht))
theorem am_r15 : ∀ t ∈ [(am_n240, am_m240), (am_n241, am_m241), (am_n242, am_m242), (am_n243, am_m243), (am_n244, am_m244), (am_n245, am_m245), (am_n246, am_m246), (am_n247, am_m247), (am_n248, am_m248), (am_n249, am_m249), (am_n250, am_m250), (am_n251, am_m251), (am_n252, am_m252), (am_n253, am_m253), (am_n254, am_m254), (am_n255, am_m255)], amMk amGG amXX t.1 t.2 := fun t ht => am_t5 t (List.mem_of_mem_take (i := 16) ht)
theorem am_r16 : ∀ t ∈ [(am_n256, am_m256), (am_n257, am_m257), (am_n258, am_m258), (am_n259, am_m259), (am_n260, am_m260), (am_n261, am_m261), (am_n262, am_m262), (am_n263, am_m263), (am_n264, am_m264), (am_n265, am_m265), (am_n266, am_m266), (am_n267, am_m267), (am_n268, am_m268), (am_n269, am_m269), (am_n270, am_m270), (am_n271, am_m271)], amMk amGG amXX t.1 t.2 := fun t ht => am_t5 t (List.mem_of_mem_drop (i := 16) (List.mem_of_mem_take (i := 16) ht))
theorem am_r17 : ∀ t ∈ [(am_n272, am_m272), (am_n273, am_m273), (am_n274, am_m274), (am_n275, am_m275), (am_n276, am_m276), (am_n277, am_m277), (am_n278, am_m278), (am_n279, am_m279), (am_n280, am_m280), (am_n281, am_m281), (am_n282, am_m282), (am_n283, am_m283), (am_n284, am_m284), (am_n285, am_m285), (am_n286, am_m286), (am_n287, am_m287)], amMk amGG amXX t.1 t.2 := fun t ht => am_t5 t (List.mem_of_mem_drop (i := 32) (List.mem_of_mem_take (i := 16) ht))
theorem am_r18 : ∀ t ∈ [(am_n288, am_m288), (am_n289, am_m289), (am_n290, am_m290), (am_n291, am_m291), (am_n292, am_m292), (am_n293, am_m293), (am_n294, am_m294), (am_n295, am_m295), (am_n296, am_m296), (am_n297, am_m297), (am_n298, am_m298), (am_n299, am_m299), (am_n300, am_m300), (am_n301, am_m301), (am_n302, am_m302), (am_n303, am_m303)], amMk amGG amXX t.1 t.2 := fun t ht => am_t6 t (List.mem_of_mem_take (i := 16) ht)
theorem am_r19 : ∀ t ∈ [(am_n304, am_m304), (am_n305, am_m305), (am_n306, am_m306), (am_n307, am_m307), (am_n308, am_m308), (am_n309, am_m309), (am_n310, am_m310), (am_n311, am_m311), (am_n312, am_m312), (am_n313, am_m313), (am_n314, am_m314), (am_n315, am_m315), (am_n316, am_m316), (am_n317, am_m317), (am_n318, am_m318), (am_n319, am_m319)], amMk amGG amXX t.1 t.2 := fun t ht => am_t6 t (List.mem_of_mem_drop (i := 16) (List.mem_of_mem_take (i := 16) ht))
theorem am_r20 : ∀ t ∈ [(am_n320, am_m320), (am_n321, am_m321), (am_n322, am_m322), (am_n323, am_m323), (am_n324, am_m324), (am_n325, am_m325), (am_n326, am_m326), (am_n327, am_m327), (am_n328, am_m328), (am_n329, am_m329), (am_n330, am_m330), (am_n331, am_m331), (am_n332, am_m332), (am_n333, am_m333), (am_n334, am_m334), (am_n335, am_m335)], amMk amGG amXX t.1 t.2 := fun t ht => am_t6 t (List.mem_of_mem_drop (i := 32) (List.mem_of_mem_take (i := 16) ht))
theorem am_r21 : ∀ t ∈ [(am_n336, am_m336), (am_n337, am_m337), (am_n338, am_m338), (am_n339, am_m339), (am_n340, am_m340), (am_n341, am_m341), (am_n342, am_m342), (am_n343, am_m343), (am_n344, am_m344), (am_n345, am_m345), (am_n346, am_m346), (am_n347, am_m347), (am_n348, am_m348), (am_n349, am_m349), (am_n350, am_m350), (am_n351, am_m351)], amMk amGG amXX t.1 t.2 := fun t ht => am_t7 t (List.mem_of_mem_take (i := 16) ht)
theorem am_r22 : ∀ t ∈ [(am_n352, am_m352), (am_n353, am_m353), (am_n354, am_m354), (am_n355, am_m355), (am_n356, am_m356), (am_n357, am_m357), (am_n358, am_m358), (am_n359, am_m359), (am_n360, am_m360), (am_n361, am_m361), (am_n362, am_m362), (am_n363, am_m363), (am_n364, am_m364), (am_n365, am_m365), (am_n366, am_m366), (am_n367, am_m367)], amMk amGG amXX t.1 t.2 := fun t ht => am_t7 t (List.mem_of_mem_drop (i := 16) (List.mem_of_mem_take (i := 16) ht))
theorem am_r23 : ∀ t ∈ [(am_n368, am_m368), (am_n369, am_m369), (am_n370, am_m370), (am_n371, am_m371), (am_n372, am_m372), (am_n373, am_m373), (am_n374, am_m374), (am_n375, am_m375), (am_n376, am_m376), (am_n377, am_m377), (am_n378, am_m378), (am_n379, am_m379), (am_n380, am_m380), (am_n381, am_m381), (am_n382, am_m382), (am_n383, am_m383)], amMk amGG amXX t.1 t.2 := fun t ht => am_t7 t (List.mem_of_mem_drop (i := 32) (List.mem_of_mem_take (i := 16) ht))
theorem am_r24 : ∀ t ∈ [(am_n384, am_m384)], amMk amGG amXX t.1 t.2 := fun t ht => am_t8 t (List.mem_of_mem_take (i := 16) ht)
theorem am_allT : ∀ row ∈ amTT, ∀ t ∈ row, amMk amGG amXX t.1 t.2 := by
  intro row hrow
  rcases List.mem_cons.mp hrow with e | hrow
  · rw [e]; exact am_r0
  rcases List.mem_cons.mp hrow with e | hrow
  · rw [e]; exact am_r1
  rcases List.mem_cons.mp hrow with e | hrow
  · rw [e]; exact am_r2
  rcases List.mem_cons.mp hrow with e | hrow
  · rw [e]; exact am_r3
  rcases List.mem_cons.mp hrow with e | hrow
  · rw [e]; exact am_r4
  rcases List.mem_cons.mp hrow with e | hrow
  · rw [e]; exact am_r5
  rcases List.mem_cons.mp hrow with e | hrow
  · rw [e]; exact am_r6
  rcases List.mem_cons.mp hrow with e | hrow
  · rw [e]; exact am_r7
  rcases List.mem_cons.mp hrow with e | hrow
  · rw [e]; exact am_r8
  rcases List.mem_cons.mp hrow with e | hrow
  · rw [e]; exact am_r9
  rcases List.mem_cons.mp hrow with e | hrow
  · rw [e]; exact am_r10
  rcases List.mem_cons.mp hrow with e | hrow
  · rw [e]; exact am_r11
  rcases List.mem_cons.mp hrow with e | hrow
  · rw [e]; exact am_r12
  rcases List.mem_cons.mp hrow with e | hrow
  · rw [e]; exact am_r13
  rcases List.mem_cons.mp hrow with e | hrow
  · rw [e]; exact am_r14
  rcases List.mem_cons.mp hrow with e | hrow
  · rw [e]; exact am_r15
  rcases List.mem_cons.mp hrow with e | hrow
  · rw [e]; exact am_r16
  rcases List.mem_cons.mp hrow with e | hrow
  · rw [e]; exact am_r17
  rcases List.mem_cons.mp hrow with e | hrow
  · rw [e]; exact am_r18
  rcases List.mem_cons.mp hrow with e | hrow
  · rw [e]; exact am_r19
  rcases List.mem_cons.mp hrow with e | hrow
  · rw [e]; exact am_r20
  rcases List.mem_cons.mp hrow with e | hrow
  · rw [e]; exact am_r21
  rcases List.mem_cons.mp hrow with e | hrow
  · rw [e]; exact am_r22
  rcases List.mem_cons.mp hrow with e | hrow
  · rw [e]; exact am_r23
  rcases List.mem_cons.mp hrow with e | hrow
  · rw [e]; exact am_r24
  cases hrow
theorem am_tabs : ∀ (k : Nat) (N : amN) (M : amM), amXX k = some N → amGG k = some M → amMk amGG amXX N M := by
  intro k N M hX hG
  unfold amXX at hX
  unfold amGG at hG
  obtain ⟨q, h1, rfl⟩ := Option.map_eq_some_iff.mp hX
  rw [h1] at hG
  cases hG
  unfold amGx at h1
  split at h1
  · next row e =>
    exact am_allT row (List.mem_of_getElem? e) q (List.mem_of_getElem? h1)
  · cases h1
theorem am_nLs : ∀ (k : Nat) (M : amM), amGG k = some M → M.2.1 ≤ 100 := by
  intro k M hG
  unfold amGG at hG
  obtain ⟨q, h1, rfl⟩ := Option.map_eq_some_iff.mp hG
  exact (am_tabs k q.1 q.2 (by unfold amXX; rw [h1]; rfl) (by unfold amGG; rw [h1]; rfl)).2.1
end
