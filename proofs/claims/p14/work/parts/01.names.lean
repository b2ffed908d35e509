-- ===== PART A: goes FIRST, ahead of the names: the tables' words, and 'selects' of the private methods out of them =====
/-- a private method of a class that the tables say can be made, by its rows of tables_1 -/
def lw_okq (q : MethodName × Nat) : Prop := (q.1.cls ≠ "java/lang/invoke/MethodHandle" ∧ q.1.cls ≠ "java/lang/invoke/VarHandle") ∧ Cond.instantiable q.1.cls q.2 ∈ tables_1 ∧ Cond.privateMethod q.1 ∈ tables_1 ∧ Cond.instanceMethod q.1 ∈ tables_1
theorem lw_p0 : lw_okq (⟨"TripleTrains$SetupText", "advance", "()V"⟩, 8) := ⟨⟨by decide +kernel, by decide +kernel⟩, List.mem_of_getElem? (i := 38) (by decide +kernel), List.mem_of_getElem? (i := 343) (by decide +kernel), List.mem_of_getElem? (i := 344) (by decide +kernel)⟩
theorem lw_p1 : lw_okq (⟨"TripleTrains$SetupText", "byteAt", "(I)I"⟩, 8) := ⟨⟨by decide +kernel, by decide +kernel⟩, List.mem_of_getElem? (i := 38) (by decide +kernel), List.mem_of_getElem? (i := 347) (by decide +kernel), List.mem_of_getElem? (i := 348) (by decide +kernel)⟩
theorem lw_p2 : lw_okq (⟨"TripleTrains$SetupText", "readWord", "()V"⟩, 8) := ⟨⟨by decide +kernel, by decide +kernel⟩, List.mem_of_getElem? (i := 38) (by decide +kernel), List.mem_of_getElem? (i := 354) (by decide +kernel), List.mem_of_getElem? (i := 355) (by decide +kernel)⟩
theorem lw_p3 : lw_okq (⟨"TripleTrains$SetupText", "readNumber", "()V"⟩, 8) := ⟨⟨by decide +kernel, by decide +kernel⟩, List.mem_of_getElem? (i := 38) (by decide +kernel), List.mem_of_getElem? (i := 361) (by decide +kernel), List.mem_of_getElem? (i := 362) (by decide +kernel)⟩
theorem lw_p4 : lw_okq (⟨"TripleTrains$SetupText", "readPoints", "(LTripleTrains$Board;)Z"⟩, 8) := ⟨⟨by decide +kernel, by decide +kernel⟩, List.mem_of_getElem? (i := 38) (by decide +kernel), List.mem_of_getElem? (i := 365) (by decide +kernel), List.mem_of_getElem? (i := 366) (by decide +kernel)⟩
theorem lw_p5 : lw_okq (⟨"TripleTrains$SetupText", "isWord", "(Ljava/lang/String;)Z"⟩, 8) := ⟨⟨by decide +kernel, by decide +kernel⟩, List.mem_of_getElem? (i := 38) (by decide +kernel), List.mem_of_getElem? (i := 370) (by decide +kernel), List.mem_of_getElem? (i := 371) (by decide +kernel)⟩
theorem lw_p6 : lw_okq (⟨"TripleTrains$SetupText", "fail", "(I)Z"⟩, 8) := ⟨⟨by decide +kernel, by decide +kernel⟩, List.mem_of_getElem? (i := 38) (by decide +kernel), List.mem_of_getElem? (i := 422) (by decide +kernel), List.mem_of_getElem? (i := 423) (by decide +kernel)⟩
theorem lw_p7 : lw_okq (⟨"TripleTrains$SetupText", "readStatement", "(LTripleTrains$Board;)Z"⟩, 8) := ⟨⟨by decide +kernel, by decide +kernel⟩, List.mem_of_getElem? (i := 38) (by decide +kernel), List.mem_of_getElem? (i := 427) (by decide +kernel), List.mem_of_getElem? (i := 428) (by decide +kernel)⟩
theorem lw_p8 : lw_okq (⟨"TripleTrains$Board", "join", "(III)V"⟩, 6) := ⟨⟨by decide +kernel, by decide +kernel⟩, List.mem_of_getElem? (i := 73) (by decide +kernel), List.mem_of_getElem? (i := 470) (by decide +kernel), List.mem_of_getElem? (i := 471) (by decide +kernel)⟩
theorem lw_p9 : lw_okq (⟨"TripleTrains", "settle", "()V"⟩, 12) := ⟨⟨by decide +kernel, by decide +kernel⟩, List.mem_of_getElem? (i := 30) (by decide +kernel), List.mem_of_getElem? (i := 490) (by decide +kernel), List.mem_of_getElem? (i := 491) (by decide +kernel)⟩
theorem lw_p10 : lw_okq (⟨"TripleTrains$Board", "number", "(III)V"⟩, 6) := ⟨⟨by decide +kernel, by decide +kernel⟩, List.mem_of_getElem? (i := 73) (by decide +kernel), List.mem_of_getElem? (i := 502) (by decide +kernel), List.mem_of_getElem? (i := 503) (by decide +kernel)⟩
theorem lw_p11 : lw_okq (⟨"TripleTrains$Board", "numberPair", "(II)V"⟩, 6) := ⟨⟨by decide +kernel, by decide +kernel⟩, List.mem_of_getElem? (i := 73) (by decide +kernel), List.mem_of_getElem? (i := 509) (by decide +kernel), List.mem_of_getElem? (i := 510) (by decide +kernel)⟩
theorem lw_p12 : lw_okq (⟨"TripleTrains$Quads", "keep", "(IIIII)V"⟩, 3) := ⟨⟨by decide +kernel, by decide +kernel⟩, List.mem_of_getElem? (i := 169) (by decide +kernel), List.mem_of_getElem? (i := 534) (by decide +kernel), List.mem_of_getElem? (i := 535) (by decide +kernel)⟩
theorem lw_p13 : lw_okq (⟨"TripleTrains", "remember", "()V"⟩, 12) := ⟨⟨by decide +kernel, by decide +kernel⟩, List.mem_of_getElem? (i := 30) (by decide +kernel), List.mem_of_getElem? (i := 559) (by decide +kernel), List.mem_of_getElem? (i := 560) (by decide +kernel)⟩
theorem lw_p14 : lw_okq (⟨"TripleTrains$History", "forgetOldest", "()V"⟩, 4) := ⟨⟨by decide +kernel, by decide +kernel⟩, List.mem_of_getElem? (i := 127) (by decide +kernel), List.mem_of_getElem? (i := 567) (by decide +kernel), List.mem_of_getElem? (i := 568) (by decide +kernel)⟩
theorem lw_p15 : lw_okq (⟨"TripleTrains$Board", "part", "(II)V"⟩, 6) := ⟨⟨by decide +kernel, by decide +kernel⟩, List.mem_of_getElem? (i := 73) (by decide +kernel), List.mem_of_getElem? (i := 604) (by decide +kernel), List.mem_of_getElem? (i := 605) (by decide +kernel)⟩
def lw_privs_1 : List (MethodName × Nat) := [(⟨"TripleTrains$SetupText", "advance", "()V"⟩, 8), (⟨"TripleTrains$SetupText", "byteAt", "(I)I"⟩, 8), (⟨"TripleTrains$SetupText", "readWord", "()V"⟩, 8), (⟨"TripleTrains$SetupText", "readNumber", "()V"⟩, 8), (⟨"TripleTrains$SetupText", "readPoints", "(LTripleTrains$Board;)Z"⟩, 8), (⟨"TripleTrains$SetupText", "isWord", "(Ljava/lang/String;)Z"⟩, 8), (⟨"TripleTrains$SetupText", "fail", "(I)Z"⟩, 8), (⟨"TripleTrains$SetupText", "readStatement", "(LTripleTrains$Board;)Z"⟩, 8), (⟨"TripleTrains$Board", "join", "(III)V"⟩, 6), (⟨"TripleTrains", "settle", "()V"⟩, 12), (⟨"TripleTrains$Board", "number", "(III)V"⟩, 6), (⟨"TripleTrains$Board", "numberPair", "(II)V"⟩, 6), (⟨"TripleTrains$Quads", "keep", "(IIIII)V"⟩, 3), (⟨"TripleTrains", "remember", "()V"⟩, 12), (⟨"TripleTrains$History", "forgetOldest", "()V"⟩, 4), (⟨"TripleTrains$Board", "part", "(II)V"⟩, 6)]
theorem lw_r1 : ∀ q ∈ lw_privs_1, lw_okq q := List.forall_mem_cons.mpr ⟨lw_p0, List.forall_mem_cons.mpr ⟨lw_p1, List.forall_mem_cons.mpr ⟨lw_p2, List.forall_mem_cons.mpr ⟨lw_p3, List.forall_mem_cons.mpr ⟨lw_p4, List.forall_mem_cons.mpr ⟨lw_p5, List.forall_mem_cons.mpr ⟨lw_p6, List.forall_mem_cons.mpr ⟨lw_p7, List.forall_mem_cons.mpr ⟨lw_p8, List.forall_mem_cons.mpr ⟨lw_p9, List.forall_mem_cons.mpr ⟨lw_p10, List.forall_mem_cons.mpr ⟨lw_p11, List.forall_mem_cons.mpr ⟨lw_p12, List.forall_mem_cons.mpr ⟨lw_p13, List.forall_mem_cons.mpr ⟨lw_p14, List.forall_mem_cons.mpr ⟨lw_p15, fun _ h => absurd h List.not_mem_nil⟩⟩⟩⟩⟩⟩⟩⟩⟩⟩⟩⟩⟩⟩⟩⟩
theorem lw_p16 : lw_okq (⟨"TripleTrains$Quads", "maskOf", "(I)J"⟩, 3) := ⟨⟨by decide +kernel, by decide +kernel⟩, List.mem_of_getElem? (i := 169) (by decide +kernel), List.mem_of_getElem? (i := 620) (by decide +kernel), List.mem_of_getElem? (i := 621) (by decide +kernel)⟩
theorem lw_p17 : lw_okq (⟨"TripleTrains", "quadsBehindExchange", "()I"⟩, 12) := ⟨⟨by decide +kernel, by decide +kernel⟩, List.mem_of_getElem? (i := 30) (by decide +kernel), List.mem_of_getElem? (i := 646) (by decide +kernel), List.mem_of_getElem? (i := 647) (by decide +kernel)⟩
theorem lw_p18 : lw_okq (⟨"TripleTrains$Cycles", "walk", "(LTripleTrains$Board;I)I"⟩, 6) := ⟨⟨by decide +kernel, by decide +kernel⟩, List.mem_of_getElem? (i := 187) (by decide +kernel), List.mem_of_getElem? (i := 675) (by decide +kernel), List.mem_of_getElem? (i := 676) (by decide +kernel)⟩
theorem lw_p19 : lw_okq (⟨"TripleTrains$Cycles", "beginOf", "(I)I"⟩, 6) := ⟨⟨by decide +kernel, by decide +kernel⟩, List.mem_of_getElem? (i := 187) (by decide +kernel), List.mem_of_getElem? (i := 679) (by decide +kernel), List.mem_of_getElem? (i := 680) (by decide +kernel)⟩
theorem lw_p20 : lw_okq (⟨"TripleTrains$Cycles", "keep", "(I)I"⟩, 6) := ⟨⟨by decide +kernel, by decide +kernel⟩, List.mem_of_getElem? (i := 187) (by decide +kernel), List.mem_of_getElem? (i := 684) (by decide +kernel), List.mem_of_getElem? (i := 685) (by decide +kernel)⟩
theorem lw_p21 : lw_okq (⟨"TripleTrains$Trades", "gatherAmong", "(LTripleTrains$Cycles;I)V"⟩, 2) := ⟨⟨by decide +kernel, by decide +kernel⟩, List.mem_of_getElem? (i := 214) (by decide +kernel), List.mem_of_getElem? (i := 709) (by decide +kernel), List.mem_of_getElem? (i := 710) (by decide +kernel)⟩
theorem lw_p22 : lw_okq (⟨"TripleTrains$Trades", "insert", "(J)V"⟩, 2) := ⟨⟨by decide +kernel, by decide +kernel⟩, List.mem_of_getElem? (i := 214) (by decide +kernel), List.mem_of_getElem? (i := 718) (by decide +kernel), List.mem_of_getElem? (i := 719) (by decide +kernel)⟩
theorem lw_p23 : lw_okq (⟨"TripleTrains", "isPerfect", "(II)Z"⟩, 12) := ⟨⟨by decide +kernel, by decide +kernel⟩, List.mem_of_getElem? (i := 30) (by decide +kernel), List.mem_of_getElem? (i := 730) (by decide +kernel), List.mem_of_getElem? (i := 731) (by decide +kernel)⟩
theorem lw_p24 : lw_okq (⟨"java/lang/Throwable", "fillInStackTrace", "(I)Ljava/lang/Throwable;"⟩, 6) := ⟨⟨by decide +kernel, by decide +kernel⟩, List.mem_of_getElem? (i := 897) (by decide +kernel), List.mem_of_getElem? (i := 895) (by decide +kernel), List.mem_of_getElem? (i := 896) (by decide +kernel)⟩
theorem lw_p25 : lw_okq (⟨"TripleTrains", "requireTriple", "(I)V"⟩, 12) := ⟨⟨by decide +kernel, by decide +kernel⟩, List.mem_of_getElem? (i := 30) (by decide +kernel), List.mem_of_getElem? (i := 934) (by decide +kernel), List.mem_of_getElem? (i := 935) (by decide +kernel)⟩
theorem lw_p26 : lw_okq (⟨"TripleTrains", "requireThree", "(III)V"⟩, 12) := ⟨⟨by decide +kernel, by decide +kernel⟩, List.mem_of_getElem? (i := 30) (by decide +kernel), List.mem_of_getElem? (i := 963) (by decide +kernel), List.mem_of_getElem? (i := 964) (by decide +kernel)⟩
theorem lw_p27 : lw_okq (⟨"TripleTrains", "requirePoint", "(I)V"⟩, 12) := ⟨⟨by decide +kernel, by decide +kernel⟩, List.mem_of_getElem? (i := 30) (by decide +kernel), List.mem_of_getElem? (i := 967) (by decide +kernel), List.mem_of_getElem? (i := 968) (by decide +kernel)⟩
theorem lw_p28 : lw_okq (⟨"TripleTrains", "requireTwo", "(II)V"⟩, 12) := ⟨⟨by decide +kernel, by decide +kernel⟩, List.mem_of_getElem? (i := 30) (by decide +kernel), List.mem_of_getElem? (i := 982) (by decide +kernel), List.mem_of_getElem? (i := 983) (by decide +kernel)⟩
theorem lw_p29 : lw_okq (⟨"TripleTrains", "requireQuad", "(I)V"⟩, 12) := ⟨⟨by decide +kernel, by decide +kernel⟩, List.mem_of_getElem? (i := 30) (by decide +kernel), List.mem_of_getElem? (i := 1064) (by decide +kernel), List.mem_of_getElem? (i := 1065) (by decide +kernel)⟩
theorem lw_p30 : lw_okq (⟨"TripleTrains", "exchangeQuad", "(I)V"⟩, 12) := ⟨⟨by decide +kernel, by decide +kernel⟩, List.mem_of_getElem? (i := 30) (by decide +kernel), List.mem_of_getElem? (i := 1108) (by decide +kernel), List.mem_of_getElem? (i := 1109) (by decide +kernel)⟩
theorem lw_p31 : lw_okq (⟨"TripleTrains", "quadsBehindSwitchOf", "(I)I"⟩, 12) := ⟨⟨by decide +kernel, by decide +kernel⟩, List.mem_of_getElem? (i := 30) (by decide +kernel), List.mem_of_getElem? (i := 1119) (by decide +kernel), List.mem_of_getElem? (i := 1120) (by decide +kernel)⟩
def lw_privs_2 : List (MethodName × Nat) := [(⟨"TripleTrains$Quads", "maskOf", "(I)J"⟩, 3), (⟨"TripleTrains", "quadsBehindExchange", "()I"⟩, 12), (⟨"TripleTrains$Cycles", "walk", "(LTripleTrains$Board;I)I"⟩, 6), (⟨"TripleTrains$Cycles", "beginOf", "(I)I"⟩, 6), (⟨"TripleTrains$Cycles", "keep", "(I)I"⟩, 6), (⟨"TripleTrains$Trades", "gatherAmong", "(LTripleTrains$Cycles;I)V"⟩, 2), (⟨"TripleTrains$Trades", "insert", "(J)V"⟩, 2), (⟨"TripleTrains", "isPerfect", "(II)Z"⟩, 12), (⟨"java/lang/Throwable", "fillInStackTrace", "(I)Ljava/lang/Throwable;"⟩, 6), (⟨"TripleTrains", "requireTriple", "(I)V"⟩, 12), (⟨"TripleTrains", "requireThree", "(III)V"⟩, 12), (⟨"TripleTrains", "requirePoint", "(I)V"⟩, 12), (⟨"TripleTrains", "requireTwo", "(II)V"⟩, 12), (⟨"TripleTrains", "requireQuad", "(I)V"⟩, 12), (⟨"TripleTrains", "exchangeQuad", "(I)V"⟩, 12), (⟨"TripleTrains", "quadsBehindSwitchOf", "(I)I"⟩, 12)]
theorem lw_r2 : ∀ q ∈ lw_privs_2, lw_okq q := List.forall_mem_cons.mpr ⟨lw_p16, List.forall_mem_cons.mpr ⟨lw_p17, List.forall_mem_cons.mpr ⟨lw_p18, List.forall_mem_cons.mpr ⟨lw_p19, List.forall_mem_cons.mpr ⟨lw_p20, List.forall_mem_cons.mpr ⟨lw_p21, List.forall_mem_cons.mpr ⟨lw_p22, List.forall_mem_cons.mpr ⟨lw_p23, List.forall_mem_cons.mpr ⟨lw_p24, List.forall_mem_cons.mpr ⟨lw_p25, List.forall_mem_cons.mpr ⟨lw_p26, List.forall_mem_cons.mpr ⟨lw_p27, List.forall_mem_cons.mpr ⟨lw_p28, List.forall_mem_cons.mpr ⟨lw_p29, List.forall_mem_cons.mpr ⟨lw_p30, List.forall_mem_cons.mpr ⟨lw_p31, fun _ h => absurd h List.not_mem_nil⟩⟩⟩⟩⟩⟩⟩⟩⟩⟩⟩⟩⟩⟩⟩⟩
theorem lw_p32 : lw_okq (⟨"TripleTrains", "requireCycle", "(III)V"⟩, 12) := ⟨⟨by decide +kernel, by decide +kernel⟩, List.mem_of_getElem? (i := 30) (by decide +kernel), List.mem_of_getElem? (i := 1147) (by decide +kernel), List.mem_of_getElem? (i := 1148) (by decide +kernel)⟩
theorem lw_p33 : lw_okq (⟨"TripleTrains", "requireTrain", "(III)V"⟩, 12) := ⟨⟨by decide +kernel, by decide +kernel⟩, List.mem_of_getElem? (i := 30) (by decide +kernel), List.mem_of_getElem? (i := 1212) (by decide +kernel), List.mem_of_getElem? (i := 1213) (by decide +kernel)⟩
theorem lw_p34 : lw_okq (⟨"TripleTrains", "requireComplete", "()V"⟩, 12) := ⟨⟨by decide +kernel, by decide +kernel⟩, List.mem_of_getElem? (i := 30) (by decide +kernel), List.mem_of_getElem? (i := 1216) (by decide +kernel), List.mem_of_getElem? (i := 1217) (by decide +kernel)⟩
theorem lw_p35 : lw_okq (⟨"TripleTrains$Trains", "lead", "(I)V"⟩, 4) := ⟨⟨by decide +kernel, by decide +kernel⟩, List.mem_of_getElem? (i := 228) (by decide +kernel), List.mem_of_getElem? (i := 1246) (by decide +kernel), List.mem_of_getElem? (i := 1247) (by decide +kernel)⟩
theorem lw_p36 : lw_okq (⟨"TripleTrains$Trains", "nextOf", "(I)I"⟩, 4) := ⟨⟨by decide +kernel, by decide +kernel⟩, List.mem_of_getElem? (i := 228) (by decide +kernel), List.mem_of_getElem? (i := 1270) (by decide +kernel), List.mem_of_getElem? (i := 1271) (by decide +kernel)⟩
theorem lw_p37 : lw_okq (⟨"TripleTrains$Trains", "markOf", "(I)I"⟩, 4) := ⟨⟨by decide +kernel, by decide +kernel⟩, List.mem_of_getElem? (i := 228) (by decide +kernel), List.mem_of_getElem? (i := 1274) (by decide +kernel), List.mem_of_getElem? (i := 1275) (by decide +kernel)⟩
theorem lw_p38 : lw_okq (⟨"TripleTrains$Trains", "mark", "(II)V"⟩, 4) := ⟨⟨by decide +kernel, by decide +kernel⟩, List.mem_of_getElem? (i := 228) (by decide +kernel), List.mem_of_getElem? (i := 1278) (by decide +kernel), List.mem_of_getElem? (i := 1279) (by decide +kernel)⟩
theorem lw_p39 : lw_okq (⟨"TripleTrains$Trains", "endsOnItself", "(II)Z"⟩, 4) := ⟨⟨by decide +kernel, by decide +kernel⟩, List.mem_of_getElem? (i := 228) (by decide +kernel), List.mem_of_getElem? (i := 1313) (by decide +kernel), List.mem_of_getElem? (i := 1314) (by decide +kernel)⟩
theorem lw_p40 : lw_okq (⟨"TripleTrains", "writeTriple", "(I)V"⟩, 12) := ⟨⟨by decide +kernel, by decide +kernel⟩, List.mem_of_getElem? (i := 30) (by decide +kernel), List.mem_of_getElem? (i := 1382) (by decide +kernel), List.mem_of_getElem? (i := 1383) (by decide +kernel)⟩
theorem lw_p41 : lw_okq (⟨"TripleTrains", "write", "(I)V"⟩, 12) := ⟨⟨by decide +kernel, by decide +kernel⟩, List.mem_of_getElem? (i := 30) (by decide +kernel), List.mem_of_getElem? (i := 1386) (by decide +kernel), List.mem_of_getElem? (i := 1387) (by decide +kernel)⟩
theorem lw_p42 : lw_okq (⟨"TripleTrainsModel", "empties", "(I)V"⟩, 33) := ⟨⟨by decide +kernel, by decide +kernel⟩, List.mem_of_getElem? (i := 1402) (by decide +kernel), List.mem_of_getElem? (i := 1408) (by decide +kernel), List.mem_of_getElem? (i := 1409) (by decide +kernel)⟩
theorem lw_p43 : lw_okq (⟨"TripleTrainsModel", "appendWord", "(I)V"⟩, 33) := ⟨⟨by decide +kernel, by decide +kernel⟩, List.mem_of_getElem? (i := 1402) (by decide +kernel), List.mem_of_getElem? (i := 1520) (by decide +kernel), List.mem_of_getElem? (i := 1521) (by decide +kernel)⟩
theorem lw_p44 : lw_okq (⟨"TripleTrainsModel", "advanceToken", "()V"⟩, 33) := ⟨⟨by decide +kernel, by decide +kernel⟩, List.mem_of_getElem? (i := 1402) (by decide +kernel), List.mem_of_getElem? (i := 1538) (by decide +kernel), List.mem_of_getElem? (i := 1539) (by decide +kernel)⟩
theorem lw_p45 : lw_okq (⟨"TripleTrainsModel", "byteAt", "(I)I"⟩, 33) := ⟨⟨by decide +kernel, by decide +kernel⟩, List.mem_of_getElem? (i := 1402) (by decide +kernel), List.mem_of_getElem? (i := 1542) (by decide +kernel), List.mem_of_getElem? (i := 1543) (by decide +kernel)⟩
theorem lw_p46 : lw_okq (⟨"TripleTrainsModel", "readText", "()Z"⟩, 33) := ⟨⟨by decide +kernel, by decide +kernel⟩, List.mem_of_getElem? (i := 1402) (by decide +kernel), List.mem_of_getElem? (i := 1546) (by decide +kernel), List.mem_of_getElem? (i := 1547) (by decide +kernel)⟩
theorem lw_p47 : lw_okq (⟨"TripleTrainsModel", "readPoints", "()Z"⟩, 33) := ⟨⟨by decide +kernel, by decide +kernel⟩, List.mem_of_getElem? (i := 1402) (by decide +kernel), List.mem_of_getElem? (i := 1550) (by decide +kernel), List.mem_of_getElem? (i := 1551) (by decide +kernel)⟩
def lw_privs_3 : List (MethodName × Nat) := [(⟨"TripleTrains", "requireCycle", "(III)V"⟩, 12), (⟨"TripleTrains", "requireTrain", "(III)V"⟩, 12), (⟨"TripleTrains", "requireComplete", "()V"⟩, 12), (⟨"TripleTrains$Trains", "lead", "(I)V"⟩, 4), (⟨"TripleTrains$Trains", "nextOf", "(I)I"⟩, 4), (⟨"TripleTrains$Trains", "markOf", "(I)I"⟩, 4), (⟨"TripleTrains$Trains", "mark", "(II)V"⟩, 4), (⟨"TripleTrains$Trains", "endsOnItself", "(II)Z"⟩, 4), (⟨"TripleTrains", "writeTriple", "(I)V"⟩, 12), (⟨"TripleTrains", "write", "(I)V"⟩, 12), (⟨"TripleTrainsModel", "empties", "(I)V"⟩, 33), (⟨"TripleTrainsModel", "appendWord", "(I)V"⟩, 33), (⟨"TripleTrainsModel", "advanceToken", "()V"⟩, 33), (⟨"TripleTrainsModel", "byteAt", "(I)I"⟩, 33), (⟨"TripleTrainsModel", "readText", "()Z"⟩, 33), (⟨"TripleTrainsModel", "readPoints", "()Z"⟩, 33)]
theorem lw_r3 : ∀ q ∈ lw_privs_3, lw_okq q := List.forall_mem_cons.mpr ⟨lw_p32, List.forall_mem_cons.mpr ⟨lw_p33, List.forall_mem_cons.mpr ⟨lw_p34, List.forall_mem_cons.mpr ⟨lw_p35, List.forall_mem_cons.mpr ⟨lw_p36, List.forall_mem_cons.mpr ⟨lw_p37, List.forall_mem_cons.mpr ⟨lw_p38, List.forall_mem_cons.mpr ⟨lw_p39, List.forall_mem_cons.mpr ⟨lw_p40, List.forall_mem_cons.mpr ⟨lw_p41, List.forall_mem_cons.mpr ⟨lw_p42, List.forall_mem_cons.mpr ⟨lw_p43, List.forall_mem_cons.mpr ⟨lw_p44, List.forall_mem_cons.mpr ⟨lw_p45, List.forall_mem_cons.mpr ⟨lw_p46, List.forall_mem_cons.mpr ⟨lw_p47, fun _ h => absurd h List.not_mem_nil⟩⟩⟩⟩⟩⟩⟩⟩⟩⟩⟩⟩⟩⟩⟩⟩
theorem lw_p48 : lw_okq (⟨"TripleTrainsModel", "isWord", "(Ljava/lang/String;)Z"⟩, 33) := ⟨⟨by decide +kernel, by decide +kernel⟩, List.mem_of_getElem? (i := 1402) (by decide +kernel), List.mem_of_getElem? (i := 1555) (by decide +kernel), List.mem_of_getElem? (i := 1556) (by decide +kernel)⟩
theorem lw_p49 : lw_okq (⟨"TripleTrainsModel", "tokenLength", "()I"⟩, 33) := ⟨⟨by decide +kernel, by decide +kernel⟩, List.mem_of_getElem? (i := 1402) (by decide +kernel), List.mem_of_getElem? (i := 1559) (by decide +kernel), List.mem_of_getElem? (i := 1560) (by decide +kernel)⟩
theorem lw_p50 : lw_okq (⟨"TripleTrainsModel", "failsAt", "(I)Z"⟩, 33) := ⟨⟨by decide +kernel, by decide +kernel⟩, List.mem_of_getElem? (i := 1402) (by decide +kernel), List.mem_of_getElem? (i := 1565) (by decide +kernel), List.mem_of_getElem? (i := 1566) (by decide +kernel)⟩
theorem lw_p51 : lw_okq (⟨"TripleTrainsModel", "takesPoint", "(III)Z"⟩, 33) := ⟨⟨by decide +kernel, by decide +kernel⟩, List.mem_of_getElem? (i := 1402) (by decide +kernel), List.mem_of_getElem? (i := 1569) (by decide +kernel), List.mem_of_getElem? (i := 1570) (by decide +kernel)⟩
theorem lw_p52 : lw_okq (⟨"TripleTrainsModel", "readStatement", "()Z"⟩, 33) := ⟨⟨by decide +kernel, by decide +kernel⟩, List.mem_of_getElem? (i := 1402) (by decide +kernel), List.mem_of_getElem? (i := 1573) (by decide +kernel), List.mem_of_getElem? (i := 1574) (by decide +kernel)⟩
theorem lw_p53 : lw_okq (⟨"TripleTrainsModel", "readTriple", "(Z)Z"⟩, 33) := ⟨⟨by decide +kernel, by decide +kernel⟩, List.mem_of_getElem? (i := 1402) (by decide +kernel), List.mem_of_getElem? (i := 1578) (by decide +kernel), List.mem_of_getElem? (i := 1579) (by decide +kernel)⟩
theorem lw_p54 : lw_okq (⟨"TripleTrainsModel", "points", "()I"⟩, 33) := ⟨⟨by decide +kernel, by decide +kernel⟩, List.mem_of_getElem? (i := 1402) (by decide +kernel), List.mem_of_getElem? (i := 1582) (by decide +kernel), List.mem_of_getElem? (i := 1583) (by decide +kernel)⟩
theorem lw_p55 : lw_okq (⟨"TripleTrainsModel", "develops", "(III)I"⟩, 33) := ⟨⟨by decide +kernel, by decide +kernel⟩, List.mem_of_getElem? (i := 1402) (by decide +kernel), List.mem_of_getElem? (i := 1586) (by decide +kernel), List.mem_of_getElem? (i := 1587) (by decide +kernel)⟩
theorem lw_p56 : lw_okq (⟨"TripleTrainsModel", "turned", "(II)I"⟩, 33) := ⟨⟨by decide +kernel, by decide +kernel⟩, List.mem_of_getElem? (i := 1402) (by decide +kernel), List.mem_of_getElem? (i := 1590) (by decide +kernel), List.mem_of_getElem? (i := 1591) (by decide +kernel)⟩
theorem lw_p57 : lw_okq (⟨"TripleTrainsModel", "isFree", "(III)Z"⟩, 33) := ⟨⟨by decide +kernel, by decide +kernel⟩, List.mem_of_getElem? (i := 1402) (by decide +kernel), List.mem_of_getElem? (i := 1594) (by decide +kernel), List.mem_of_getElem? (i := 1595) (by decide +kernel)⟩
theorem lw_p58 : lw_okq (⟨"TripleTrainsModel", "coveredIn", "(III)I"⟩, 33) := ⟨⟨by decide +kernel, by decide +kernel⟩, List.mem_of_getElem? (i := 1402) (by decide +kernel), List.mem_of_getElem? (i := 1598) (by decide +kernel), List.mem_of_getElem? (i := 1599) (by decide +kernel)⟩
theorem lw_p59 : lw_okq (⟨"TripleTrainsModel", "coveredOf", "(II)I"⟩, 33) := ⟨⟨by decide +kernel, by decide +kernel⟩, List.mem_of_getElem? (i := 1402) (by decide +kernel), List.mem_of_getElem? (i := 1602) (by decide +kernel), List.mem_of_getElem? (i := 1603) (by decide +kernel)⟩
theorem lw_p60 : lw_okq (⟨"TripleTrainsModel", "thirdOf", "(II)I"⟩, 33) := ⟨⟨by decide +kernel, by decide +kernel⟩, List.mem_of_getElem? (i := 1402) (by decide +kernel), List.mem_of_getElem? (i := 1606) (by decide +kernel), List.mem_of_getElem? (i := 1607) (by decide +kernel)⟩
theorem lw_p61 : lw_okq (⟨"TripleTrainsModel", "puts", "(III)V"⟩, 33) := ⟨⟨by decide +kernel, by decide +kernel⟩, List.mem_of_getElem? (i := 1402) (by decide +kernel), List.mem_of_getElem? (i := 1610) (by decide +kernel), List.mem_of_getElem? (i := 1611) (by decide +kernel)⟩
theorem lw_p62 : lw_okq (⟨"TripleTrainsModel", "lays", "(III)V"⟩, 33) := ⟨⟨by decide +kernel, by decide +kernel⟩, List.mem_of_getElem? (i := 1402) (by decide +kernel), List.mem_of_getElem? (i := 1614) (by decide +kernel), List.mem_of_getElem? (i := 1615) (by decide +kernel)⟩
theorem lw_p63 : lw_okq (⟨"TripleTrainsModel", "triplesMany", "()I"⟩, 33) := ⟨⟨by decide +kernel, by decide +kernel⟩, List.mem_of_getElem? (i := 1402) (by decide +kernel), List.mem_of_getElem? (i := 1619) (by decide +kernel), List.mem_of_getElem? (i := 1620) (by decide +kernel)⟩
def lw_privs_4 : List (MethodName × Nat) := [(⟨"TripleTrainsModel", "isWord", "(Ljava/lang/String;)Z"⟩, 33), (⟨"TripleTrainsModel", "tokenLength", "()I"⟩, 33), (⟨"TripleTrainsModel", "failsAt", "(I)Z"⟩, 33), (⟨"TripleTrainsModel", "takesPoint", "(III)Z"⟩, 33), (⟨"TripleTrainsModel", "readStatement", "()Z"⟩, 33), (⟨"TripleTrainsModel", "readTriple", "(Z)Z"⟩, 33), (⟨"TripleTrainsModel", "points", "()I"⟩, 33), (⟨"TripleTrainsModel", "develops", "(III)I"⟩, 33), (⟨"TripleTrainsModel", "turned", "(II)I"⟩, 33), (⟨"TripleTrainsModel", "isFree", "(III)Z"⟩, 33), (⟨"TripleTrainsModel", "coveredIn", "(III)I"⟩, 33), (⟨"TripleTrainsModel", "coveredOf", "(II)I"⟩, 33), (⟨"TripleTrainsModel", "thirdOf", "(II)I"⟩, 33), (⟨"TripleTrainsModel", "puts", "(III)V"⟩, 33), (⟨"TripleTrainsModel", "lays", "(III)V"⟩, 33), (⟨"TripleTrainsModel", "triplesMany", "()I"⟩, 33)]
theorem lw_r4 : ∀ q ∈ lw_privs_4, lw_okq q := List.forall_mem_cons.mpr ⟨lw_p48, List.forall_mem_cons.mpr ⟨lw_p49, List.forall_mem_cons.mpr ⟨lw_p50, List.forall_mem_cons.mpr ⟨lw_p51, List.forall_mem_cons.mpr ⟨lw_p52, List.forall_mem_cons.mpr ⟨lw_p53, List.forall_mem_cons.mpr ⟨lw_p54, List.forall_mem_cons.mpr ⟨lw_p55, List.forall_mem_cons.mpr ⟨lw_p56, List.forall_mem_cons.mpr ⟨lw_p57, List.forall_mem_cons.mpr ⟨lw_p58, List.forall_mem_cons.mpr ⟨lw_p59, List.forall_mem_cons.mpr ⟨lw_p60, List.forall_mem_cons.mpr ⟨lw_p61, List.forall_mem_cons.mpr ⟨lw_p62, List.forall_mem_cons.mpr ⟨lw_p63, fun _ h => absurd h List.not_mem_nil⟩⟩⟩⟩⟩⟩⟩⟩⟩⟩⟩⟩⟩⟩⟩⟩
theorem lw_p64 : lw_okq (⟨"TripleTrainsModel", "laysTriples", "()V"⟩, 33) := ⟨⟨by decide +kernel, by decide +kernel⟩, List.mem_of_getElem? (i := 1402) (by decide +kernel), List.mem_of_getElem? (i := 1623) (by decide +kernel), List.mem_of_getElem? (i := 1624) (by decide +kernel)⟩
theorem lw_p65 : lw_okq (⟨"TripleTrainsModel", "fails", "(ZI)Z"⟩, 33) := ⟨⟨by decide +kernel, by decide +kernel⟩, List.mem_of_getElem? (i := 1402) (by decide +kernel), List.mem_of_getElem? (i := 1639) (by decide +kernel), List.mem_of_getElem? (i := 1640) (by decide +kernel)⟩
theorem lw_p66 : lw_okq (⟨"TripleTrainsModel", "uncoveredMany", "()I"⟩, 33) := ⟨⟨by decide +kernel, by decide +kernel⟩, List.mem_of_getElem? (i := 1402) (by decide +kernel), List.mem_of_getElem? (i := 1643) (by decide +kernel), List.mem_of_getElem? (i := 1644) (by decide +kernel)⟩
theorem lw_p67 : lw_okq (⟨"TripleTrainsModel", "pairsMany", "()I"⟩, 33) := ⟨⟨by decide +kernel, by decide +kernel⟩, List.mem_of_getElem? (i := 1402) (by decide +kernel), List.mem_of_getElem? (i := 1647) (by decide +kernel), List.mem_of_getElem? (i := 1648) (by decide +kernel)⟩
theorem lw_p68 : lw_okq (⟨"TripleTrainsModel", "quadsNow", "()I"⟩, 33) := ⟨⟨by decide +kernel, by decide +kernel⟩, List.mem_of_getElem? (i := 1402) (by decide +kernel), List.mem_of_getElem? (i := 1651) (by decide +kernel), List.mem_of_getElem? (i := 1652) (by decide +kernel)⟩
theorem lw_p69 : lw_okq (⟨"TripleTrainsModel", "laysQuads", "()V"⟩, 33) := ⟨⟨by decide +kernel, by decide +kernel⟩, List.mem_of_getElem? (i := 1402) (by decide +kernel), List.mem_of_getElem? (i := 1655) (by decide +kernel), List.mem_of_getElem? (i := 1656) (by decide +kernel)⟩
theorem lw_p70 : lw_okq (⟨"TripleTrainsModel", "isTriple", "(I)Z"⟩, 33) := ⟨⟨by decide +kernel, by decide +kernel⟩, List.mem_of_getElem? (i := 1402) (by decide +kernel), List.mem_of_getElem? (i := 1659) (by decide +kernel), List.mem_of_getElem? (i := 1660) (by decide +kernel)⟩
theorem lw_p71 : lw_okq (⟨"TripleTrainsModel", "numberOf", "(I)I"⟩, 33) := ⟨⟨by decide +kernel, by decide +kernel⟩, List.mem_of_getElem? (i := 1402) (by decide +kernel), List.mem_of_getElem? (i := 1668) (by decide +kernel), List.mem_of_getElem? (i := 1669) (by decide +kernel)⟩
theorem lw_p72 : lw_okq (⟨"TripleTrainsModel", "addsQuad", "(IIII)V"⟩, 33) := ⟨⟨by decide +kernel, by decide +kernel⟩, List.mem_of_getElem? (i := 1402) (by decide +kernel), List.mem_of_getElem? (i := 1672) (by decide +kernel), List.mem_of_getElem? (i := 1673) (by decide +kernel)⟩
theorem lw_p73 : lw_okq (⟨"TripleTrainsModel", "isWhole", "()Z"⟩, 33) := ⟨⟨by decide +kernel, by decide +kernel⟩, List.mem_of_getElem? (i := 1402) (by decide +kernel), List.mem_of_getElem? (i := 1680) (by decide +kernel), List.mem_of_getElem? (i := 1681) (by decide +kernel)⟩
theorem lw_p74 : lw_okq (⟨"TripleTrainsModel", "noTriple", "(I)Z"⟩, 33) := ⟨⟨by decide +kernel, by decide +kernel⟩, List.mem_of_getElem? (i := 1402) (by decide +kernel), List.mem_of_getElem? (i := 1688) (by decide +kernel), List.mem_of_getElem? (i := 1689) (by decide +kernel)⟩
theorem lw_p75 : lw_okq (⟨"TripleTrainsModel", "noSet", "(III)Z"⟩, 33) := ⟨⟨by decide +kernel, by decide +kernel⟩, List.mem_of_getElem? (i := 1402) (by decide +kernel), List.mem_of_getElem? (i := 1696) (by decide +kernel), List.mem_of_getElem? (i := 1697) (by decide +kernel)⟩
theorem lw_p76 : lw_okq (⟨"TripleTrainsModel", "noPoint", "(I)Z"⟩, 33) := ⟨⟨by decide +kernel, by decide +kernel⟩, List.mem_of_getElem? (i := 1402) (by decide +kernel), List.mem_of_getElem? (i := 1700) (by decide +kernel), List.mem_of_getElem? (i := 1701) (by decide +kernel)⟩
theorem lw_p77 : lw_okq (⟨"TripleTrainsModel", "noPair", "(II)Z"⟩, 33) := ⟨⟨by decide +kernel, by decide +kernel⟩, List.mem_of_getElem? (i := 1402) (by decide +kernel), List.mem_of_getElem? (i := 1708) (by decide +kernel), List.mem_of_getElem? (i := 1709) (by decide +kernel)⟩
theorem lw_p78 : lw_okq (⟨"TripleTrainsModel", "reasonOf", "(III)I"⟩, 33) := ⟨⟨by decide +kernel, by decide +kernel⟩, List.mem_of_getElem? (i := 1402) (by decide +kernel), List.mem_of_getElem? (i := 1724) (by decide +kernel), List.mem_of_getElem? (i := 1725) (by decide +kernel)⟩
theorem lw_p79 : lw_okq (⟨"TripleTrainsModel", "remembers", "()V"⟩, 33) := ⟨⟨by decide +kernel, by decide +kernel⟩, List.mem_of_getElem? (i := 1402) (by decide +kernel), List.mem_of_getElem? (i := 1736) (by decide +kernel), List.mem_of_getElem? (i := 1737) (by decide +kernel)⟩
def lw_privs_5 : List (MethodName × Nat) := [(⟨"TripleTrainsModel", "laysTriples", "()V"⟩, 33), (⟨"TripleTrainsModel", "fails", "(ZI)Z"⟩, 33), (⟨"TripleTrainsModel", "uncoveredMany", "()I"⟩, 33), (⟨"TripleTrainsModel", "pairsMany", "()I"⟩, 33), (⟨"TripleTrainsModel", "quadsNow", "()I"⟩, 33), (⟨"TripleTrainsModel", "laysQuads", "()V"⟩, 33), (⟨"TripleTrainsModel", "isTriple", "(I)Z"⟩, 33), (⟨"TripleTrainsModel", "numberOf", "(I)I"⟩, 33), (⟨"TripleTrainsModel", "addsQuad", "(IIII)V"⟩, 33), (⟨"TripleTrainsModel", "isWhole", "()Z"⟩, 33), (⟨"TripleTrainsModel", "noTriple", "(I)Z"⟩, 33), (⟨"TripleTrainsModel", "noSet", "(III)Z"⟩, 33), (⟨"TripleTrainsModel", "noPoint", "(I)Z"⟩, 33), (⟨"TripleTrainsModel", "noPair", "(II)Z"⟩, 33), (⟨"TripleTrainsModel", "reasonOf", "(III)I"⟩, 33), (⟨"TripleTrainsModel", "remembers", "()V"⟩, 33)]
theorem lw_r5 : ∀ q ∈ lw_privs_5, lw_okq q := List.forall_mem_cons.mpr ⟨lw_p64, List.forall_mem_cons.mpr ⟨lw_p65, List.forall_mem_cons.mpr ⟨lw_p66, List.forall_mem_cons.mpr ⟨lw_p67, List.forall_mem_cons.mpr ⟨lw_p68, List.forall_mem_cons.mpr ⟨lw_p69, List.forall_mem_cons.mpr ⟨lw_p70, List.forall_mem_cons.mpr ⟨lw_p71, List.forall_mem_cons.mpr ⟨lw_p72, List.forall_mem_cons.mpr ⟨lw_p73, List.forall_mem_cons.mpr ⟨lw_p74, List.forall_mem_cons.mpr ⟨lw_p75, List.forall_mem_cons.mpr ⟨lw_p76, List.forall_mem_cons.mpr ⟨lw_p77, List.forall_mem_cons.mpr ⟨lw_p78, List.forall_mem_cons.mpr ⟨lw_p79, fun _ h => absurd h List.not_mem_nil⟩⟩⟩⟩⟩⟩⟩⟩⟩⟩⟩⟩⟩⟩⟩⟩
theorem lw_p80 : lw_okq (⟨"TripleTrainsModel", "takes", "(III)V"⟩, 33) := ⟨⟨by decide +kernel, by decide +kernel⟩, List.mem_of_getElem? (i := 1402) (by decide +kernel), List.mem_of_getElem? (i := 1744) (by decide +kernel), List.mem_of_getElem? (i := 1745) (by decide +kernel)⟩
theorem lw_p81 : lw_okq (⟨"TripleTrainsModel", "begins", "()V"⟩, 33) := ⟨⟨by decide +kernel, by decide +kernel⟩, List.mem_of_getElem? (i := 1402) (by decide +kernel), List.mem_of_getElem? (i := 1752) (by decide +kernel), List.mem_of_getElem? (i := 1753) (by decide +kernel)⟩
theorem lw_p82 : lw_okq (⟨"TripleTrainsModel", "ends", "()V"⟩, 33) := ⟨⟨by decide +kernel, by decide +kernel⟩, List.mem_of_getElem? (i := 1402) (by decide +kernel), List.mem_of_getElem? (i := 1756) (by decide +kernel), List.mem_of_getElem? (i := 1757) (by decide +kernel)⟩
theorem lw_p83 : lw_okq (⟨"TripleTrainsModel", "removes", "(II)I"⟩, 33) := ⟨⟨by decide +kernel, by decide +kernel⟩, List.mem_of_getElem? (i := 1402) (by decide +kernel), List.mem_of_getElem? (i := 1768) (by decide +kernel), List.mem_of_getElem? (i := 1769) (by decide +kernel)⟩
theorem lw_p84 : lw_okq (⟨"TripleTrainsModel", "by", "(I)I"⟩, 33) := ⟨⟨by decide +kernel, by decide +kernel⟩, List.mem_of_getElem? (i := 1402) (by decide +kernel), List.mem_of_getElem? (i := 1787) (by decide +kernel), List.mem_of_getElem? (i := 1788) (by decide +kernel)⟩
theorem lw_p85 : lw_okq (⟨"TripleTrainsModel", "completionsFrom", "()I"⟩, 33) := ⟨⟨by decide +kernel, by decide +kernel⟩, List.mem_of_getElem? (i := 1402) (by decide +kernel), List.mem_of_getElem? (i := 1795) (by decide +kernel), List.mem_of_getElem? (i := 1796) (by decide +kernel)⟩
theorem lw_p86 : lw_okq (⟨"TripleTrainsModel", "tightestPair", "()I"⟩, 33) := ⟨⟨by decide +kernel, by decide +kernel⟩, List.mem_of_getElem? (i := 1402) (by decide +kernel), List.mem_of_getElem? (i := 1799) (by decide +kernel), List.mem_of_getElem? (i := 1800) (by decide +kernel)⟩
theorem lw_p87 : lw_okq (⟨"TripleTrainsModel", "waysOf", "(II)I"⟩, 33) := ⟨⟨by decide +kernel, by decide +kernel⟩, List.mem_of_getElem? (i := 1402) (by decide +kernel), List.mem_of_getElem? (i := 1803) (by decide +kernel), List.mem_of_getElem? (i := 1804) (by decide +kernel)⟩
theorem lw_p88 : lw_okq (⟨"TripleTrainsModel", "noQuad", "(I)Z"⟩, 33) := ⟨⟨by decide +kernel, by decide +kernel⟩, List.mem_of_getElem? (i := 1402) (by decide +kernel), List.mem_of_getElem? (i := 1815) (by decide +kernel), List.mem_of_getElem? (i := 1816) (by decide +kernel)⟩
theorem lw_p89 : lw_okq (⟨"TripleTrainsModel", "quadPoints", "(I)I"⟩, 33) := ⟨⟨by decide +kernel, by decide +kernel⟩, List.mem_of_getElem? (i := 1402) (by decide +kernel), List.mem_of_getElem? (i := 1819) (by decide +kernel), List.mem_of_getElem? (i := 1820) (by decide +kernel)⟩
theorem lw_p90 : lw_okq (⟨"TripleTrainsModel", "bitAt", "(II)I"⟩, 33) := ⟨⟨by decide +kernel, by decide +kernel⟩, List.mem_of_getElem? (i := 1402) (by decide +kernel), List.mem_of_getElem? (i := 1823) (by decide +kernel), List.mem_of_getElem? (i := 1824) (by decide +kernel)⟩
theorem lw_p91 : lw_okq (⟨"TripleTrainsModel", "oppositeOf", "(II)I"⟩, 33) := ⟨⟨by decide +kernel, by decide +kernel⟩, List.mem_of_getElem? (i := 1402) (by decide +kernel), List.mem_of_getElem? (i := 1831) (by decide +kernel), List.mem_of_getElem? (i := 1832) (by decide +kernel)⟩
theorem lw_p92 : lw_okq (⟨"TripleTrainsModel", "switchesQuad", "(I)V"⟩, 33) := ⟨⟨by decide +kernel, by decide +kernel⟩, List.mem_of_getElem? (i := 1402) (by decide +kernel), List.mem_of_getElem? (i := 1847) (by decide +kernel), List.mem_of_getElem? (i := 1848) (by decide +kernel)⟩
theorem lw_p93 : lw_okq (⟨"TripleTrainsModel", "quadsBehind", "(I)I"⟩, 33) := ⟨⟨by decide +kernel, by decide +kernel⟩, List.mem_of_getElem? (i := 1402) (by decide +kernel), List.mem_of_getElem? (i := 1855) (by decide +kernel), List.mem_of_getElem? (i := 1856) (by decide +kernel)⟩
theorem lw_p94 : lw_okq (⟨"TripleTrainsModel", "quadsCounted", "()I"⟩, 33) := ⟨⟨by decide +kernel, by decide +kernel⟩, List.mem_of_getElem? (i := 1402) (by decide +kernel), List.mem_of_getElem? (i := 1859) (by decide +kernel), List.mem_of_getElem? (i := 1860) (by decide +kernel)⟩
theorem lw_p95 : lw_okq (⟨"TripleTrainsModel", "bestQuad", "(Z)I"⟩, 33) := ⟨⟨by decide +kernel, by decide +kernel⟩, List.mem_of_getElem? (i := 1402) (by decide +kernel), List.mem_of_getElem? (i := 1867) (by decide +kernel), List.mem_of_getElem? (i := 1868) (by decide +kernel)⟩
def lw_privs_6 : List (MethodName × Nat) := [(⟨"TripleTrainsModel", "takes", "(III)V"⟩, 33), (⟨"TripleTrainsModel", "begins", "()V"⟩, 33), (⟨"TripleTrainsModel", "ends", "()V"⟩, 33), (⟨"TripleTrainsModel", "removes", "(II)I"⟩, 33), (⟨"TripleTrainsModel", "by", "(I)I"⟩, 33), (⟨"TripleTrainsModel", "completionsFrom", "()I"⟩, 33), (⟨"TripleTrainsModel", "tightestPair", "()I"⟩, 33), (⟨"TripleTrainsModel", "waysOf", "(II)I"⟩, 33), (⟨"TripleTrainsModel", "noQuad", "(I)Z"⟩, 33), (⟨"TripleTrainsModel", "quadPoints", "(I)I"⟩, 33), (⟨"TripleTrainsModel", "bitAt", "(II)I"⟩, 33), (⟨"TripleTrainsModel", "oppositeOf", "(II)I"⟩, 33), (⟨"TripleTrainsModel", "switchesQuad", "(I)V"⟩, 33), (⟨"TripleTrainsModel", "quadsBehind", "(I)I"⟩, 33), (⟨"TripleTrainsModel", "quadsCounted", "()I"⟩, 33), (⟨"TripleTrainsModel", "bestQuad", "(Z)I"⟩, 33)]
theorem lw_r6 : ∀ q ∈ lw_privs_6, lw_okq q := List.forall_mem_cons.mpr ⟨lw_p80, List.forall_mem_cons.mpr ⟨lw_p81, List.forall_mem_cons.mpr ⟨lw_p82, List.forall_mem_cons.mpr ⟨lw_p83, List.forall_mem_cons.mpr ⟨lw_p84, List.forall_mem_cons.mpr ⟨lw_p85, List.forall_mem_cons.mpr ⟨lw_p86, List.forall_mem_cons.mpr ⟨lw_p87, List.forall_mem_cons.mpr ⟨lw_p88, List.forall_mem_cons.mpr ⟨lw_p89, List.forall_mem_cons.mpr ⟨lw_p90, List.forall_mem_cons.mpr ⟨lw_p91, List.forall_mem_cons.mpr ⟨lw_p92, List.forall_mem_cons.mpr ⟨lw_p93, List.forall_mem_cons.mpr ⟨lw_p94, List.forall_mem_cons.mpr ⟨lw_p95, fun _ h => absurd h List.not_mem_nil⟩⟩⟩⟩⟩⟩⟩⟩⟩⟩⟩⟩⟩⟩⟩⟩
theorem lw_p96 : lw_okq (⟨"TripleTrainsModel", "cyclesMany", "(II)I"⟩, 33) := ⟨⟨by decide +kernel, by decide +kernel⟩, List.mem_of_getElem? (i := 1402) (by decide +kernel), List.mem_of_getElem? (i := 1883) (by decide +kernel), List.mem_of_getElem? (i := 1884) (by decide +kernel)⟩
theorem lw_p97 : lw_okq (⟨"TripleTrainsModel", "isCycleFrom", "(III)Z"⟩, 33) := ⟨⟨by decide +kernel, by decide +kernel⟩, List.mem_of_getElem? (i := 1402) (by decide +kernel), List.mem_of_getElem? (i := 1887) (by decide +kernel), List.mem_of_getElem? (i := 1888) (by decide +kernel)⟩
theorem lw_p98 : lw_okq (⟨"TripleTrainsModel", "walks", "(III)Z"⟩, 33) := ⟨⟨by decide +kernel, by decide +kernel⟩, List.mem_of_getElem? (i := 1402) (by decide +kernel), List.mem_of_getElem? (i := 1891) (by decide +kernel), List.mem_of_getElem? (i := 1892) (by decide +kernel)⟩
theorem lw_p99 : lw_okq (⟨"TripleTrainsModel", "noCycle", "(III)Z"⟩, 33) := ⟨⟨by decide +kernel, by decide +kernel⟩, List.mem_of_getElem? (i := 1402) (by decide +kernel), List.mem_of_getElem? (i := 1899) (by decide +kernel), List.mem_of_getElem? (i := 1900) (by decide +kernel)⟩
theorem lw_p100 : lw_okq (⟨"TripleTrainsModel", "laysCycle", "(III)Z"⟩, 33) := ⟨⟨by decide +kernel, by decide +kernel⟩, List.mem_of_getElem? (i := 1402) (by decide +kernel), List.mem_of_getElem? (i := 1903) (by decide +kernel), List.mem_of_getElem? (i := 1904) (by decide +kernel)⟩
theorem lw_p101 : lw_okq (⟨"TripleTrainsModel", "switchesCycle", "(II)V"⟩, 33) := ⟨⟨by decide +kernel, by decide +kernel⟩, List.mem_of_getElem? (i := 1402) (by decide +kernel), List.mem_of_getElem? (i := 1915) (by decide +kernel), List.mem_of_getElem? (i := 1916) (by decide +kernel)⟩
theorem lw_p102 : lw_okq (⟨"TripleTrainsModel", "laysTrades", "(I)V"⟩, 33) := ⟨⟨by decide +kernel, by decide +kernel⟩, List.mem_of_getElem? (i := 1402) (by decide +kernel), List.mem_of_getElem? (i := 1931) (by decide +kernel), List.mem_of_getElem? (i := 1932) (by decide +kernel)⟩
theorem lw_p103 : lw_okq (⟨"TripleTrainsModel", "replacedBy", "(II)J"⟩, 33) := ⟨⟨by decide +kernel, by decide +kernel⟩, List.mem_of_getElem? (i := 1402) (by decide +kernel), List.mem_of_getElem? (i := 1935) (by decide +kernel), List.mem_of_getElem? (i := 1936) (by decide +kernel)⟩
theorem lw_p104 : lw_okq (⟨"TripleTrainsModel", "addsTrade", "(J)V"⟩, 33) := ⟨⟨by decide +kernel, by decide +kernel⟩, List.mem_of_getElem? (i := 1402) (by decide +kernel), List.mem_of_getElem? (i := 1939) (by decide +kernel), List.mem_of_getElem? (i := 1940) (by decide +kernel)⟩
theorem lw_p105 : lw_okq (⟨"TripleTrainsModel", "isPerfect", "(II)Z"⟩, 33) := ⟨⟨by decide +kernel, by decide +kernel⟩, List.mem_of_getElem? (i := 1402) (by decide +kernel), List.mem_of_getElem? (i := 1951) (by decide +kernel), List.mem_of_getElem? (i := 1952) (by decide +kernel)⟩
theorem lw_p106 : lw_okq (⟨"TripleTrainsModel", "quadSet", "(I)J"⟩, 33) := ⟨⟨by decide +kernel, by decide +kernel⟩, List.mem_of_getElem? (i := 1402) (by decide +kernel), List.mem_of_getElem? (i := 1959) (by decide +kernel), List.mem_of_getElem? (i := 1960) (by decide +kernel)⟩
theorem lw_p107 : lw_okq (⟨"TripleTrainsModel", "noTrain", "(III)Z"⟩, 33) := ⟨⟨by decide +kernel, by decide +kernel⟩, List.mem_of_getElem? (i := 1402) (by decide +kernel), List.mem_of_getElem? (i := 1967) (by decide +kernel), List.mem_of_getElem? (i := 1968) (by decide +kernel)⟩
theorem lw_p108 : lw_okq (⟨"TripleTrainsModel", "next", "(I)I"⟩, 33) := ⟨⟨by decide +kernel, by decide +kernel⟩, List.mem_of_getElem? (i := 1402) (by decide +kernel), List.mem_of_getElem? (i := 1976) (by decide +kernel), List.mem_of_getElem? (i := 1977) (by decide +kernel)⟩
theorem lw_p109 : lw_okq (⟨"TripleTrainsModel", "leadTo", "(I)I"⟩, 33) := ⟨⟨by decide +kernel, by decide +kernel⟩, List.mem_of_getElem? (i := 1402) (by decide +kernel), List.mem_of_getElem? (i := 1984) (by decide +kernel), List.mem_of_getElem? (i := 1985) (by decide +kernel)⟩
theorem lw_p110 : lw_okq (⟨"TripleTrainsModel", "roundFrom", "(I)I"⟩, 33) := ⟨⟨by decide +kernel, by decide +kernel⟩, List.mem_of_getElem? (i := 1402) (by decide +kernel), List.mem_of_getElem? (i := 1992) (by decide +kernel), List.mem_of_getElem? (i := 1993) (by decide +kernel)⟩
theorem lw_p111 : lw_okq (⟨"TripleTrainsModel", "beginsRound", "(I)Z"⟩, 33) := ⟨⟨by decide +kernel, by decide +kernel⟩, List.mem_of_getElem? (i := 1402) (by decide +kernel), List.mem_of_getElem? (i := 2008) (by decide +kernel), List.mem_of_getElem? (i := 2009) (by decide +kernel)⟩
def lw_privs_7 : List (MethodName × Nat) := [(⟨"TripleTrainsModel", "cyclesMany", "(II)I"⟩, 33), (⟨"TripleTrainsModel", "isCycleFrom", "(III)Z"⟩, 33), (⟨"TripleTrainsModel", "walks", "(III)Z"⟩, 33), (⟨"TripleTrainsModel", "noCycle", "(III)Z"⟩, 33), (⟨"TripleTrainsModel", "laysCycle", "(III)Z"⟩, 33), (⟨"TripleTrainsModel", "switchesCycle", "(II)V"⟩, 33), (⟨"TripleTrainsModel", "laysTrades", "(I)V"⟩, 33), (⟨"TripleTrainsModel", "replacedBy", "(II)J"⟩, 33), (⟨"TripleTrainsModel", "addsTrade", "(J)V"⟩, 33), (⟨"TripleTrainsModel", "isPerfect", "(II)Z"⟩, 33), (⟨"TripleTrainsModel", "quadSet", "(I)J"⟩, 33), (⟨"TripleTrainsModel", "noTrain", "(III)Z"⟩, 33), (⟨"TripleTrainsModel", "next", "(I)I"⟩, 33), (⟨"TripleTrainsModel", "leadTo", "(I)I"⟩, 33), (⟨"TripleTrainsModel", "roundFrom", "(I)I"⟩, 33), (⟨"TripleTrainsModel", "beginsRound", "(I)Z"⟩, 33)]
theorem lw_r7 : ∀ q ∈ lw_privs_7, lw_okq q := List.forall_mem_cons.mpr ⟨lw_p96, List.forall_mem_cons.mpr ⟨lw_p97, List.forall_mem_cons.mpr ⟨lw_p98, List.forall_mem_cons.mpr ⟨lw_p99, List.forall_mem_cons.mpr ⟨lw_p100, List.forall_mem_cons.mpr ⟨lw_p101, List.forall_mem_cons.mpr ⟨lw_p102, List.forall_mem_cons.mpr ⟨lw_p103, List.forall_mem_cons.mpr ⟨lw_p104, List.forall_mem_cons.mpr ⟨lw_p105, List.forall_mem_cons.mpr ⟨lw_p106, List.forall_mem_cons.mpr ⟨lw_p107, List.forall_mem_cons.mpr ⟨lw_p108, List.forall_mem_cons.mpr ⟨lw_p109, List.forall_mem_cons.mpr ⟨lw_p110, List.forall_mem_cons.mpr ⟨lw_p111, fun _ h => absurd h List.not_mem_nil⟩⟩⟩⟩⟩⟩⟩⟩⟩⟩⟩⟩⟩⟩⟩⟩
theorem lw_p112 : lw_okq (⟨"TripleTrainsModel", "isTurnedBy", "(I)Z"⟩, 33) := ⟨⟨by decide +kernel, by decide +kernel⟩, List.mem_of_getElem? (i := 1402) (by decide +kernel), List.mem_of_getElem? (i := 2016) (by decide +kernel), List.mem_of_getElem? (i := 2017) (by decide +kernel)⟩
theorem lw_p113 : lw_okq (⟨"TripleTrainsModel", "leastOf", "()I"⟩, 33) := ⟨⟨by decide +kernel, by decide +kernel⟩, List.mem_of_getElem? (i := 1402) (by decide +kernel), List.mem_of_getElem? (i := 2024) (by decide +kernel), List.mem_of_getElem? (i := 2025) (by decide +kernel)⟩
theorem lw_p114 : lw_okq (⟨"TripleTrainsModel", "isLeastOfOrbit", "(II)Z"⟩, 33) := ⟨⟨by decide +kernel, by decide +kernel⟩, List.mem_of_getElem? (i := 1402) (by decide +kernel), List.mem_of_getElem? (i := 2032) (by decide +kernel), List.mem_of_getElem? (i := 2033) (by decide +kernel)⟩
theorem lw_p115 : lw_okq (⟨"TripleTrainsModel", "closed", "(I)I"⟩, 33) := ⟨⟨by decide +kernel, by decide +kernel⟩, List.mem_of_getElem? (i := 1402) (by decide +kernel), List.mem_of_getElem? (i := 2044) (by decide +kernel), List.mem_of_getElem? (i := 2045) (by decide +kernel)⟩
theorem lw_p116 : lw_okq (⟨"TripleTrainsModel", "isClosed", "(I)Z"⟩, 33) := ⟨⟨by decide +kernel, by decide +kernel⟩, List.mem_of_getElem? (i := 1402) (by decide +kernel), List.mem_of_getElem? (i := 2052) (by decide +kernel), List.mem_of_getElem? (i := 2053) (by decide +kernel)⟩
theorem lw_p117 : lw_okq (⟨"TripleTrainsModel", "holdsNone", "(I)Z"⟩, 33) := ⟨⟨by decide +kernel, by decide +kernel⟩, List.mem_of_getElem? (i := 1402) (by decide +kernel), List.mem_of_getElem? (i := 2060) (by decide +kernel), List.mem_of_getElem? (i := 2061) (by decide +kernel)⟩
theorem lw_p118 : lw_okq (⟨"TripleTrainsModel", "mostFrom", "(II)I"⟩, 33) := ⟨⟨by decide +kernel, by decide +kernel⟩, List.mem_of_getElem? (i := 1402) (by decide +kernel), List.mem_of_getElem? (i := 2072) (by decide +kernel), List.mem_of_getElem? (i := 2073) (by decide +kernel)⟩
theorem lw_p119 : lw_okq (⟨"TripleTrainsModel", "write", "(I)V"⟩, 33) := ⟨⟨by decide +kernel, by decide +kernel⟩, List.mem_of_getElem? (i := 1402) (by decide +kernel), List.mem_of_getElem? (i := 2080) (by decide +kernel), List.mem_of_getElem? (i := 2081) (by decide +kernel)⟩
theorem lw_p120 : lw_okq (⟨"TripleTrainsModel", "writePoint", "(I)V"⟩, 33) := ⟨⟨by decide +kernel, by decide +kernel⟩, List.mem_of_getElem? (i := 1402) (by decide +kernel), List.mem_of_getElem? (i := 2084) (by decide +kernel), List.mem_of_getElem? (i := 2085) (by decide +kernel)⟩
def lw_privs_8 : List (MethodName × Nat) := [(⟨"TripleTrainsModel", "isTurnedBy", "(I)Z"⟩, 33), (⟨"TripleTrainsModel", "leastOf", "()I"⟩, 33), (⟨"TripleTrainsModel", "isLeastOfOrbit", "(II)Z"⟩, 33), (⟨"TripleTrainsModel", "closed", "(I)I"⟩, 33), (⟨"TripleTrainsModel", "isClosed", "(I)Z"⟩, 33), (⟨"TripleTrainsModel", "holdsNone", "(I)Z"⟩, 33), (⟨"TripleTrainsModel", "mostFrom", "(II)I"⟩, 33), (⟨"TripleTrainsModel", "write", "(I)V"⟩, 33), (⟨"TripleTrainsModel", "writePoint", "(I)V"⟩, 33)]
theorem lw_r8 : ∀ q ∈ lw_privs_8, lw_okq q := List.forall_mem_cons.mpr ⟨lw_p112, List.forall_mem_cons.mpr ⟨lw_p113, List.forall_mem_cons.mpr ⟨lw_p114, List.forall_mem_cons.mpr ⟨lw_p115, List.forall_mem_cons.mpr ⟨lw_p116, List.forall_mem_cons.mpr ⟨lw_p117, List.forall_mem_cons.mpr ⟨lw_p118, List.forall_mem_cons.mpr ⟨lw_p119, List.forall_mem_cons.mpr ⟨lw_p120, fun _ h => absurd h List.not_mem_nil⟩⟩⟩⟩⟩⟩⟩⟩⟩
def lw_privs : List (MethodName × Nat) := lw_privs_1 ++ (lw_privs_2 ++ (lw_privs_3 ++ (lw_privs_4 ++ (lw_privs_5 ++ (lw_privs_6 ++ (lw_privs_7 ++ (lw_privs_8)))))))
def lw_tbl : List Cond := k2_sels lw_privs ++ tables_1
theorem lw_privs_ok : ∀ q ∈ lw_privs, lw_okq q := by
  show ∀ q ∈ lw_privs_1 ++ (lw_privs_2 ++ (lw_privs_3 ++ (lw_privs_4 ++ (lw_privs_5 ++ (lw_privs_6 ++ (lw_privs_7 ++ (lw_privs_8))))))), lw_okq q
  exact List.forall_mem_append.mpr ⟨lw_r1, List.forall_mem_append.mpr ⟨lw_r2, List.forall_mem_append.mpr ⟨lw_r3, List.forall_mem_append.mpr ⟨lw_r4, List.forall_mem_append.mpr ⟨lw_r5, List.forall_mem_append.mpr ⟨lw_r6, List.forall_mem_append.mpr ⟨lw_r7, lw_r8⟩⟩⟩⟩⟩⟩⟩
/-- the streams that the claim lets the run draw from -/
abbrev lw_cs : List Choice := [Jvm.Choice.named "NaN.bits"]
/-! ===== BEGIN words of one list among another's, by their places ===== -/
/-! ===== END ===== -/

/-! ===== BEGIN exceptions that leave a method, and their catching by the caller (launches without stack traces) ===== -/
section VXA
/-! The laws vx_back, vx_callV, vx_callS, vx_callSW, vx_throw0, vx_throwS follow proofs of the library, with one case more: JvmDerived/Free/Laws.lean (Back.of_free), Shelf42/LK1.lean (callV, callS), Shelf/KitTraced.lean (throwNew0V, throwNewS). -/
/-- where a method has thrown q: the class by its name, the cell, what was written, the world -/
def vx_T (XC : String → State → State → Prop) (st : State) (q : Addr) (t : State) (mc ms : Nat) (free : Addr → Prop) : Prop :=
  ∃ (E : String) (ce : Cell) (L : List Loc), XC E st t ∧ t.heap[q]? = some ce ∧ ce.vm = .none ∧ st.vm.findClass E = some ce.cls ∧ st.WarmedH t.vm ∧ st.sameButNew ({ t with vm := st.vm } : State) L mc ms ∧ ∀ z ∈ L, free z.base
def vx_Q (Qc : Array Value → State → Outcome → State → Prop) (XC : String → State → State → Prop) (mc ms : Nat) (free : Addr → Prop) : Array Value → State → Outcome → State → Prop := fun a st o t =>
  (Qc a st o t ∧ ∃ L, FrameEnd st o t L mc ms ∧ ∀ q ∈ L, free q.base) ∨ ∃ q, o = .threw q ∧ vx_T XC st q t mc ms free
/-- a callee that returns or throws -/
def vx_Met (l : Launch) (y : MethodName) (ws : List Cond) (rm : Room) (Pc : Array Value → State → Prop) (Qc : Array Value → State → Outcome → State → Prop) (XC : String → State → State → Prop) (mc ms : Nat) (free : Addr → Prop) : Prop :=
  MetFree l y (headSpec ws rm) Pc (fun _ _ _ _ _ => True) (vx_Q Qc XC mc ms free)
def vx_Post (XC : String → State → State → Prop) (mc ms : Nat) (free : Addr → Prop) : Pt → Array Value → Addr → Pt → Prop := fun A a q B =>
  ∃ (g : JFrame) (mk : MethodId) (t : State) (L : List Loc) (E : String) (ce : Cell), B.U.heap = t.heap ∧ B.U.vm = t.vm ∧ XC E (A.U.calling g mk a) t ∧ t.heap[q]? = some ce ∧ ce.vm = .none ∧ A.U.vm.findClass E = some ce.cls ∧ B.locs = A.locs ++ L ∧ (∀ z ∈ L, free z.base) ∧ B.cells = A.cells + mc ∧ B.slots = A.slots + ms
def vx_Back (l : Launch) (R : Room) (p : Program) (e : Env) (below : List Frame) (s : State) (sargs : Array Value) (y : MethodName) (len W9 : Nat)
    (Pre : Pt → Array Value → Prop) (Post : Pt → Array Value → Option Value → Pt → Prop) (PostX : Pt → Array Value → Addr → Pt → Prop) : Prop :=
  ∀ (m : MethodId) (meth : Method) (c : Code) (A : Pt) (g : JFrame) (ig : Instr) (mk : MethodId) (a : Array Value),
    Stand p l e R s m sargs below meth c A.U A.locs A.cells A.slots → g.method = m → g.locals.size = c.maxLocals → decode c.code g.pc = .ok (ig, len) →
    2 * g.monitorRoom + (g.stack.map fun v => v.category).sum ≤ W9 → A.U.methodNamed? y = some mk → Pre A a →
    (∃ (v : Option Value) (B : Pt), Stand p l e R s m sargs below meth c B.U B.locs B.cells B.slots ∧ Post A a v B ∧
      Steps p.tables e below (doInvoke e (A.U.setTop g) [] mk a).1 (B.U.setTop { g with pc := g.pc + len, stack := v.toList ++ g.stack })) ∨
    (∃ (q : Addr) (B : Pt), Stand p l e R s m sargs below meth c B.U B.locs B.cells B.slots ∧ PostX A a q B ∧
      Steps p.tables e below (doInvoke e (A.U.setTop g) [] mk a).1 ((B.U.setTop g).pushFrame (.throwing q)))
section Payer
variable {l : Launch} {R : Room} {p : Program} {e : Env} {below : List Frame} {s : State} {sargs : Array Value} {y : MethodName} {len W9 : Nat}
theorem vx_back {ws : List Cond} {rm : Room} {Pc : Array Value → State → Prop} {Qc : Array Value → State → Outcome → State → Prop} {XC : String → State → State → Prop} {mc ms : Nat} {free : Addr → Prop} {bytes : ByteArray} {maxL : Nat} {ret : Option FieldType}
    (hM : vx_Met l y ws rm Pc Qc XC mc ms free) (hblind : FrameBlind Pc) (hrc : rm.cells = mc) (hrs : rm.slots = ms)
    (hframes : rm.frames + 1 ≤ R.frames) (hlocals : W9 + (maxL + 11) + rm.locals ≤ R.locals)
    (hws : ∀ w ∈ ws, ∀ a' U, s.WarmedH U.vm → w.before a' U = true) (hcode : Cond.code y bytes maxL ret ∈ ws) (hinit : ∀ a' U, s.WarmedH U.vm → (Cond.initialized y.cls).before a' U = true) :
    vx_Back l R p e below s sargs y len W9 (PreOf R mc ms Pc) (PostOf Qc mc ms free) (vx_Post XC mc ms free) := by
  intro m meth c A g ig mk a X hg hsize hdg hW hn hp
  have h1 : (headSpec ws rm).pre.before a A.U = true := atoms_intro fun w hw => hws w hw _ _ X.warmed
  have h2 : (Cond.code y bytes maxL ret).before a A.U = true := hws _ hcode _ _ X.warmed
  have h3 : (Cond.initialized y.cls).before a A.U = true := hinit _ _ X.warmed
  have h4 : A.cells + (headSpec ws rm).room.cells ≤ R.cells := by rw [show (headSpec ws rm).room.cells = mc from hrc]; exact hp.1
  have h5 : A.slots + (headSpec ws rm).room.slots ≤ R.slots := by rw [show (headSpec ws rm).room.slots = ms from hrs]; exact hp.2.1
  have hPc : Pc a (A.U.calling g mk a) := hblind _ _ _ _ hp.2.2
  obtain ⟨U, Ls, c0, s0⟩ := A
  dsimp only [Pt.U, Pt.locs, Pt.cells, Pt.slots] at h1 h2 h3 h4 h5 X hn hPc ⊢
  obtain ⟨methY, cY, hmY, hcY, -, hlY, -, -, -, -⟩ := Cond.code_spec hn h2
  obtain ⟨kY, hkY, -⟩ := className_of_methodNamed hn
  have hinitY : kY.init = .initialized := Cond.initialized_spec (findClass_of_methodNamed hn) hkY h3
  have h : At U g.method c below := by rw [hg]; exact X.here
  have hlocals9 : W9 + (maxL + 11) + (headSpec ws rm).room.locals ≤ R.locals := hlocals
  have happ : (headSpec ws rm).appliesLoose y e.platform (U.calling g mk a) = true :=
    Spec.appliesLoose_calling (g := g) h hdg hn hkY hinitY
      (X.room_calling (g := g) (R' := (headSpec ws rm).room) hsize hmY hcY hframes (by rw [hlY]; omega) h4 h5) h1
  obtain ⟨mid, hmid⟩ := h.above
  have hfr : (U.setTop g).frames = (.java g :: mid) ++ below := by rw [State.frames_setTop' g h.top, hmid]; rfl
  obtain ⟨o, s₂, hsteps, -, hend, hq⟩ := Steps.callFree hM p X.admits X.cas X.clock (acts := []) hfr happ hPc trivial
  have hq' : vx_Q Qc XC mc ms free a (U.calling g mk a) o s₂ := hq
  rw [State.frames_setTop' g h.top] at hend
  obtain ⟨g₀, hg0⟩ := Option.isSome_iff_exists.mp h.top
  obtain ⟨r, hr⟩ := State.topJava?_eq_some.mp hg0
  have hr' : (({ U with heap := s₂.heap, slotsUsed := s₂.slotsUsed } : State).setVm s₂.vm).frames = .java g₀ :: r := hr
  rcases hq' with ⟨hqc, L, hfe, hL⟩ | ⟨q, rfl, E, ce, L, hx, hce, hcv, hcl, hW₂, hsm, hL⟩
  · obtain ⟨⟨v, rfl⟩, hW₂, e2, q2, q3, q4, q5, q6⟩ := id hfe
    have e3 : s₂ = ({ (U.calling g mk a).setFrames s₂.frames with heap := s₂.heap, slotsUsed := s₂.slotsUsed } : State).setVm s₂.vm := by
      have : s₂ = ({ s₂ with vm := (U.calling g mk a).vm } : State).setVm s₂.vm := rfl
      rw [e2] at this
      exact this
    obtain ⟨c₂, i₂, len₂, hc₂, hd₂, hf₂⟩ := hend
    have hW' : U.WarmedH s₂.vm := hW₂
    have hcc : c₂ = c := by
      have h1 : s₂.code? g.method = U.code? g.method := by
        rw [State.code?_eq, State.code?_eq, hW'.alike.method?]
      exact Option.some.inj (hc₂.symm.trans (h1.trans h.code))
    subst hcc
    have hlen : len₂ = len := by rw [hdg] at hd₂; cases hd₂; rfl
    subst hlen
    have hs₂ : s₂ = (({ U with heap := s₂.heap, slotsUsed := s₂.slotsUsed } : State).setVm s₂.vm).setTop { g with pc := g.pc + len₂, stack := v.toList ++ g.stack } := by
      refine e3.trans ?_
      rw [hf₂, State.calling_eq h.top, State.setFrames_setFrames, State.setTop_of_frames _ hr', hr]
      rfl
    have hsame : U.sameButNew ({ U with heap := s₂.heap, slotsUsed := s₂.slotsUsed } : State) L mc ms := by
      refine ⟨?_, q2, q3, q4, q5, q6⟩
      obtain ⟨t, ht, -⟩ := State.frames_cons hr
      show ({ U with heap := s₂.heap, slotsUsed := s₂.slotsUsed } : State) = { U.setFrames U.frames with heap := s₂.heap, slotsUsed := s₂.slotsUsed }
      rw [State.setFrames_self ht]
    subst hg
    refine Or.inl ⟨v, ⟨(({ U with heap := s₂.heap, slotsUsed := s₂.slotsUsed } : State).setVm s₂.vm), Ls ++ L, c0 + mc, s0 + ms⟩,
      ⟨X.admits, X.cas, X.clock, X.frames, X.room, X.hears, X.method, X.code, (X.here.setHeapUsed s₂.heap s₂.slotsUsed).setVm hW'.alike, X.tail, State.WarmedH.trans X.warmed hW', X.limits, X.bytes, X.same.trans (hsame.setVm s.vm)⟩,
      ⟨g, mk, s₂, L, rfl, rfl, hqc, rfl, hL, rfl, rfl⟩, ?_⟩
    show Steps p.tables e below _ ((({ U with heap := s₂.heap, slotsUsed := s₂.slotsUsed } : State).setVm s₂.vm).setTop { g with pc := g.pc + len₂, stack := v.toList ++ g.stack })
    rw [← hs₂]
    exact hsteps
  · obtain ⟨e2, q2, q3, q4, q5, q6⟩ := id hsm
    have e3 : s₂ = ({ (U.calling g mk a).setFrames s₂.frames with heap := s₂.heap, slotsUsed := s₂.slotsUsed } : State).setVm s₂.vm := by
      have : s₂ = ({ s₂ with vm := (U.calling g mk a).vm } : State).setVm s₂.vm := rfl
      rw [e2] at this
      exact this
    have hf₂ : s₂.frames = .throwing q :: .java g :: U.frames.tail := hend
    have hW' : U.WarmedH s₂.vm := hW₂
    have hs₂ : s₂ = ((({ U with heap := s₂.heap, slotsUsed := s₂.slotsUsed } : State).setVm s₂.vm).setTop g).pushFrame (.throwing q) := by
      refine e3.trans ?_
      rw [hf₂, State.calling_eq h.top, State.setFrames_setFrames, State.pushFrame, State.frames_setTop _ hr', State.setTop_of_frames _ hr', State.setFrames_setFrames, hr]
      rfl
    have hsame : U.sameButNew ({ U with heap := s₂.heap, slotsUsed := s₂.slotsUsed } : State) L mc ms := by
      refine ⟨?_, q2, q3, q4, q5, q6⟩
      obtain ⟨t, ht, -⟩ := State.frames_cons hr
      show ({ U with heap := s₂.heap, slotsUsed := s₂.slotsUsed } : State) = { U.setFrames U.frames with heap := s₂.heap, slotsUsed := s₂.slotsUsed }
      rw [State.setFrames_self ht]
    subst hg
    refine Or.inr ⟨q, ⟨(({ U with heap := s₂.heap, slotsUsed := s₂.slotsUsed } : State).setVm s₂.vm), Ls ++ L, c0 + mc, s0 + ms⟩,
      ⟨X.admits, X.cas, X.clock, X.frames, X.room, X.hears, X.method, X.code, (X.here.setHeapUsed s₂.heap s₂.slotsUsed).setVm hW'.alike, X.tail, State.WarmedH.trans X.warmed hW', X.limits, X.bytes, X.same.trans (hsame.setVm s.vm)⟩,
      ⟨g, mk, s₂, L, E, ce, rfl, rfl, hx, hce, hcv, hcl, rfl, hL, rfl, rfl⟩, ?_⟩
    show Steps p.tables e below _ (((({ U with heap := s₂.heap, slotsUsed := s₂.slotsUsed } : State).setVm s₂.vm).setTop g).pushFrame (.throwing q))
    rw [← hs₂]
    exact hsteps
end Payer
section Calls
variable {p : Program} {l : Launch} {e : Env} {R : Room} {s : State} {m : MethodId} {args : Array Value} {below : List Frame} {meth : Method} {c : Code} {T : State} {locs : List Loc} {cells slots : Nat}
theorem vx_callV (X : Stand p l e R s m args below meth c T locs cells slots) (hexec : p.tables.exec = Jvm.exec) {own C : String} {index : Nat} {y : MethodName} {bytes : ByteArray} {maxL : Nat} {ret : Option FieldType}
    (hown : s.vm.findClass own = some m.cls) (hlink : (Cond.methodLink own index y).before args s = true) (hinst : (Cond.instanceMethod y).before args s = true) (hsel : (Cond.selects C y y).before args s = true)
    (hcode : (Cond.code y bytes maxL ret).before args s = true) (hy : y.cls ≠ "java/lang/invoke/MethodHandle" ∧ y.cls ≠ "java/lang/invoke/VarHandle")
    {W9 : Nat} {Pre : Pt → Array Value → Prop} {Post : Pt → Array Value → Option Value → Pt → Prop} {PostX : Pt → Array Value → Addr → Pt → Prop} (hK : vx_Back l R p e below s args y 3 W9 Pre Post PostX)
    {b : Addr} {cellB : Cell} (hcell : T.heap[b]? = some cellB) (hobj : cellB.vm.isStatics = false) (hcls : s.vm.findClass C = some cellB.cls)
    {g : JFrame} (hg : g.method = m) (hsize : g.locals.size = c.maxLocals) {argsL rest : List Value} (hlen : ∀ sig, parseMethodDescriptor y.desc = some sig → argsL.length = sig.parameters.length)
    (hstack : g.stack = argsL.reverse ++ .ref b :: rest) (hW : 2 * g.monitorRoom + (rest.map fun v => v.category).sum ≤ W9) (hdg : decode c.code g.pc = .ok (.invokevirtual index, 3))
    (hpre : ∀ vm₁, s.WarmedH vm₁ → Pre ⟨T.setVm vm₁, locs, cells, slots⟩ (Value.ref b :: argsL).toArray) :
    (∃ (v : Option Value) (vm₁ : Vm) (B : Pt), s.WarmedH vm₁ ∧ Stand p l e R s m args below meth c B.U B.locs B.cells B.slots ∧ Post ⟨T.setVm vm₁, locs, cells, slots⟩ (Value.ref b :: argsL).toArray v B ∧
      ∀ target, Steps p.tables e below (B.U.setTop { g with pc := g.pc + 3, stack := v.toList ++ rest }) target → Steps p.tables e below (T.setTop g) target) ∨
    (∃ (q : Addr) (vm₁ : Vm) (B : Pt), s.WarmedH vm₁ ∧ Stand p l e R s m args below meth c B.U B.locs B.cells B.slots ∧ PostX ⟨T.setVm vm₁, locs, cells, slots⟩ (Value.ref b :: argsL).toArray q B ∧
      Steps p.tables e below (T.setTop g) ((B.U.setTop { g with stack := rest }).pushFrame (.throwing q))) := by
  obtain ⟨mk, methM, hnamed, hmethM, hstM, habM⟩ := Cond.instanceMethod_spec hinst
  obtain ⟨methM', cM, hmethM', -, -, -, -, -, -, hsigM⟩ := Cond.code_spec hnamed hcode
  cases hmethM.symm.trans hmethM'
  obtain ⟨c2, r2, m2, q1, q2, q3, q4, kP, hkP, hkPi⟩ := Cond.selects_spec hsel
  cases hcls.symm.trans q1
  cases (State.methodFound?_of_named hnamed hy).symm.trans q2
  cases hnamed.symm.trans q3
  have hselP : selectMethod e.platform s.vm cellB.cls mk = .method mk := by rw [Launch.admits_selectMethod X.admits]; exact q4
  obtain ⟨vm₁, X₁, hstep₁⟩ := X.invokevirtual hexec hown hlink hnamed hmethM hstM hkP hkPi hy (a := b) (cell := cellB) hcell
    (fun z h => by rw [h] at hobj; cases hobj) hselP hmethM habM hkP hkPi (g := g) hg (argsL := argsL) (rest := rest) (hlen _ hsigM) hstack hdg
  rcases hK m meth c ⟨T.setVm vm₁, locs, cells, slots⟩ { g with stack := rest } (.invokevirtual index) mk (Value.ref b :: argsL).toArray X₁ hg hsize hdg hW (X₁.named hnamed) (hpre vm₁ X₁.warmed) with ⟨v, B, X', hpost, hsteps⟩ | ⟨q, B, X', hpost, hsteps⟩
  · exact Or.inl ⟨v, vm₁, B, X₁.warmed, X', hpost, fun target h => hstep₁ _ fun acts => by rw [doInvoke_state]; exact hsteps.trans h⟩
  · exact Or.inr ⟨q, vm₁, B, X₁.warmed, X', hpost, hstep₁ _ fun acts => by rw [doInvoke_state]; exact hsteps⟩
theorem vx_callS (X : Stand p l e R s m args below meth c T locs cells slots) (hexec : p.tables.exec = Jvm.exec) {own : String} {index : Nat} {y : MethodName} {bytes : ByteArray} {maxL : Nat} {ret : Option FieldType}
    (hown : s.vm.findClass own = some m.cls) (hlink : (Cond.methodLink own index y).before args s = true) (hstat : (Cond.static y).before args s = true) (hinit : (Cond.initialized y.cls).before args s = true)
    (hcode : (Cond.code y bytes maxL ret).before args s = true) (hy : y.cls ≠ "java/lang/invoke/MethodHandle" ∧ y.cls ≠ "java/lang/invoke/VarHandle")
    {W9 : Nat} {Pre : Pt → Array Value → Prop} {Post : Pt → Array Value → Option Value → Pt → Prop} {PostX : Pt → Array Value → Addr → Pt → Prop} (hK : vx_Back l R p e below s args y 3 W9 Pre Post PostX)
    {g : JFrame} (hg : g.method = m) (hsize : g.locals.size = c.maxLocals) {argsL rest : List Value} (hlen : ∀ sig, parseMethodDescriptor y.desc = some sig → argsL.length = sig.parameters.length)
    (hstack : g.stack = argsL.reverse ++ rest) (hW : 2 * g.monitorRoom + (rest.map fun v => v.category).sum ≤ W9) (hdg : decode c.code g.pc = .ok (.invokestatic index, 3))
    (hpre : ∀ vm₁, s.WarmedH vm₁ → Pre ⟨T.setVm vm₁, locs, cells, slots⟩ argsL.toArray) :
    (∃ (v : Option Value) (vm₁ : Vm) (B : Pt), s.WarmedH vm₁ ∧ Stand p l e R s m args below meth c B.U B.locs B.cells B.slots ∧ Post ⟨T.setVm vm₁, locs, cells, slots⟩ argsL.toArray v B ∧
      ∀ target, Steps p.tables e below (B.U.setTop { g with pc := g.pc + 3, stack := v.toList ++ rest }) target → Steps p.tables e below (T.setTop g) target) ∨
    (∃ (q : Addr) (vm₁ : Vm) (B : Pt), s.WarmedH vm₁ ∧ Stand p l e R s m args below meth c B.U B.locs B.cells B.slots ∧ PostX ⟨T.setVm vm₁, locs, cells, slots⟩ argsL.toArray q B ∧
      Steps p.tables e below (T.setTop g) ((B.U.setTop { g with stack := rest }).pushFrame (.throwing q))) := by
  obtain ⟨mk, hnamed⟩ := Cond.code_named hcode
  obtain ⟨methM, cM, hmethM, -, -, -, -, -, -, hsigM⟩ := Cond.code_spec hnamed hcode
  have hstatic : methM.isStatic = true := Cond.static_spec hnamed hmethM hstat
  obtain ⟨kP, hkP, -⟩ := className_of_methodNamed hnamed
  have hinitP : kP.init = .initialized := Cond.initialized_spec (findClass_of_methodNamed hnamed) hkP hinit
  obtain ⟨vm₁, X₁, hstep₁⟩ := X.invokestatic hexec hown hlink hnamed hmethM hstatic hkP hinitP hy (g := g) hg (argsL := argsL) (rest := rest) (hlen _ hsigM) hstack hdg
  rcases hK m meth c ⟨T.setVm vm₁, locs, cells, slots⟩ { g with stack := rest } (.invokestatic index) mk argsL.toArray X₁ hg hsize hdg hW (X₁.named hnamed) (hpre vm₁ X₁.warmed) with ⟨v, B, X', hpost, hsteps⟩ | ⟨q, B, X', hpost, hsteps⟩
  · exact Or.inl ⟨v, vm₁, B, X₁.warmed, X', hpost, fun target h => hstep₁ _ fun acts => by rw [doInvoke_state]; exact hsteps.trans h⟩
  · exact Or.inr ⟨q, vm₁, B, X₁.warmed, X', hpost, hstep₁ _ fun acts => by rw [doInvoke_state]; exact hsteps⟩
end Calls
theorem vx_cls {s : State} {T : State} {vm₁ : Vm} {E : String} {k : ClassId} (hW : s.WarmedH vm₁) (h : (T.setVm vm₁).vm.findClass E = some k) : s.vm.findClass E = some k := by
  have h1 : vm₁.findClass E = some k := h
  rw [hW.alike.findClass] at h1
  exact h1
/-- the method's frame g, with q thrown over it -/
def vx_W (p : Program) (l : Launch) (e : Env) (R : Room) (s : State) (m : MethodId) (args : Array Value) (below : List Frame) (meth : Method) (c : Code) (H : Heap) (locs : List Loc) (cells slots : Nat) (Q : State → Prop) (g : JFrame) (q : Addr) : Prop :=
  ∀ T : State, T.heap = H → Stand p l e R s m args below meth c T locs cells slots → ∃ t, Steps p.tables e below ((T.setTop g).pushFrame (.throwing q)) t ∧ Q t
def vx_Run (p : Program) (l : Launch) (e : Env) (R : Room) (s : State) (m : MethodId) (args : Array Value) (below : List Frame) (meth : Method) (c : Code) (H : Heap) (locs : List Loc) (cells slots mc ms : Nat) (g : JFrame) (rest : List Value) (Qa : State → Outcome → State → Prop) (XC : String → State → State → Prop) (free : Addr → Prop) : Prop :=
  ∀ T : State, T.heap = H → Stand p l e R s m args below meth c T locs cells slots →
    (∃ (v : Option Value) (st₀ t T' : State) (L : List Loc), st₀.heap = H ∧ Stand p l e R s m args below meth c T' (locs ++ L) (cells + mc) (slots + ms) ∧ (∀ q ∈ L, free q.base) ∧ T'.heap = t.heap ∧ T'.vm = t.vm ∧ Qa st₀ (.returned v) t ∧
      Goes p e below T g T' { g with pc := g.pc + 3, stack := v.toList ++ rest }) ∨
    (∃ (q : Addr) (st₀ t T' : State) (L : List Loc) (E : String) (ce : Cell), st₀.heap = H ∧ Stand p l e R s m args below meth c T' (locs ++ L) (cells + mc) (slots + ms) ∧ (∀ z ∈ L, free z.base) ∧ T'.heap = t.heap ∧ T'.vm = t.vm ∧ XC E st₀ t ∧ t.heap[q]? = some ce ∧ ce.vm = .none ∧ s.vm.findClass E = some ce.cls ∧
      Steps p.tables e below (T.setTop g) ((T'.setTop { g with stack := rest }).pushFrame (.throwing q)))
section Runs
variable {p : Program} {l : Launch} {e : Env} {R : Room} {s : State} {m : MethodId} {args : Array Value} {below : List Frame} {meth : Method} {c : Code} {H : Heap} {locs : List Loc} {cells slots : Nat}
variable {y : MethodName} {bytes cc : ByteArray} {maxL nL mc ms n index : Nat} {ret : Option FieldType} {ws : List Cond} {rm : Room} {Pc : Array Value → State → Prop} {Qc : Array Value → State → Outcome → State → Prop} {XC : String → State → State → Prop} {free : Addr → Prop} {Ts : List Cond} {own C : String} {b : Addr} {As rest : List Value} {g : JFrame}
theorem vx_callBack (cb : CallB R s args own index y bytes maxL ret ws rm mc ms n) (hM : vx_Met l y ws rm Pc Qc XC mc ms free) (hbl : FrameBlind Pc) : vx_Back l R p e below s args y 3 8 (PreOf R mc ms Pc) (PostOf Qc mc ms free) (vx_Post XC mc ms free) := by
  obtain ⟨hrc, hrs, hfr, hlo, hws, hcw, -, hini, -⟩ := cb
  exact vx_back (bytes := bytes) (maxL := maxL) (ret := ret) hM hbl hrc hrs hfr hlo hws hcw (fun a' U hW => word_at hW (Or.inl (by first | rfl | simp [Cond.onTables, Cond.keeps, Cond.steady])) hini)
theorem vx_runV (S : CallFix p m c cc nL s args Ts own) (hM : vx_Met l y ws rm Pc Qc XC mc ms free) (cw : CallW R s args own C index y bytes maxL ret ws rm mc ms n) (hp : PreV s H C b Pc As)
    (hg : g.method = m) (hn : As.length = n) (hsize : g.locals.size = nL) (hstack : g.stack = As.reverse ++ .ref b :: rest) (hW : 2 * g.monitorRoom + (rest.map fun v => v.category).sum ≤ 8) (hdg : decode cc g.pc = .ok (.invokevirtual index, 3)) (hf : cells + mc ≤ R.cells ∧ slots + ms ≤ R.slots) :
    vx_Run p l e R s m args below meth c H locs cells slots mc ms g rest (Qc (Value.ref b :: As).toArray) XC free := by
  have hK : vx_Back l R p e below s args y 3 8 (PreOf R mc ms Pc) (PostOf Qc mc ms free) (vx_Post XC mc ms free) := vx_callBack cw.1 hM hp.1
  obtain ⟨⟨-, -, -, -, -, -, hcode, -, hy, hlen, hl⟩, hin, hse⟩ := cw
  obtain ⟨hx, hb, hml, ho, -⟩ := S
  obtain ⟨-, ⟨cellB, hcB, hoB, hclB⟩, hPc⟩ := hp
  intro T hT X
  rcases vx_callV X hx (C := C) (bytes := bytes) (maxL := maxL) (ret := ret) ho hl hin hse hcode hy hK (by rw [hT]; exact hcB) hoB hclB hg (hsize.trans hml.symm) (argsL := As) (rest := rest) (fun sig h => hn.trans (hlen sig h)) hstack hW (by rw [hb]; exact hdg)
    (fun vm₁ hW₁ => ⟨hf.1, hf.2, hPc (T.setVm vm₁) hT hW₁⟩) with ⟨v, vm₁, ⟨U', l2, c2, s2⟩, hW₁, X', ⟨g', mk, t, L, e1, e2, hq, h1, hL, h2, h3⟩, st⟩ | ⟨q, vm₁, ⟨U', l2, c2, s2⟩, hW₁, X', ⟨g', mk, t, L, E, ce, e1, e2, hq, hce, hcv, hcl, h1, hL, h2, h3⟩, st⟩
  · dsimp only [Pt.U, Pt.locs, Pt.cells, Pt.slots] at X' e1 e2 h1 h2 h3 st
    subst h1; subst h2; subst h3
    exact Or.inl ⟨v, (T.setVm vm₁).calling g' mk (Value.ref b :: As).toArray, t, U', L, hT, X', hL, e1, e2, hq, st⟩
  · dsimp only [Pt.U, Pt.locs, Pt.cells, Pt.slots] at X' e1 e2 h1 h2 h3 st hcl
    subst h1; subst h2; subst h3
    exact Or.inr ⟨q, (T.setVm vm₁).calling g' mk (Value.ref b :: As).toArray, t, U', L, E, ce, hT, X', hL, e1, e2, hq, hce, hcv, vx_cls hW₁ hcl, st⟩
theorem vx_runS (S : CallFix p m c cc nL s args Ts own) (hM : vx_Met l y ws rm Pc Qc XC mc ms free) (cw : CallB R s args own index y bytes maxL ret ws rm mc ms n ∧ (Cond.static y).before args s = true) (hp : PreS s H Pc As)
    (hg : g.method = m) (hn : As.length = n) (hsize : g.locals.size = nL) (hstack : g.stack = As.reverse ++ rest) (hW : 2 * g.monitorRoom + (rest.map fun v => v.category).sum ≤ 8) (hdg : decode cc g.pc = .ok (.invokestatic index, 3)) (hf : cells + mc ≤ R.cells ∧ slots + ms ≤ R.slots) :
    vx_Run p l e R s m args below meth c H locs cells slots mc ms g rest (Qc As.toArray) XC free := by
  have hK : vx_Back l R p e below s args y 3 8 (PreOf R mc ms Pc) (PostOf Qc mc ms free) (vx_Post XC mc ms free) := vx_callBack cw.1 hM hp.1
  obtain ⟨⟨-, -, -, -, -, -, hcode, hini, hy, hlen, hl⟩, hstt⟩ := cw
  obtain ⟨hx, hb, hml, ho, -⟩ := S
  intro T hT X
  rcases vx_callS X hx (bytes := bytes) (maxL := maxL) (ret := ret) ho hl hstt hini hcode hy hK hg (hsize.trans hml.symm) (argsL := As) (rest := rest) (fun sig h => hn.trans (hlen sig h)) hstack hW (by rw [hb]; exact hdg)
    (fun vm₁ hW₁ => ⟨hf.1, hf.2, hp.2 (T.setVm vm₁) hT hW₁⟩) with ⟨v, vm₁, ⟨U', l2, c2, s2⟩, hW₁, X', ⟨g', mk, t, L, e1, e2, hq, h1, hL, h2, h3⟩, st⟩ | ⟨q, vm₁, ⟨U', l2, c2, s2⟩, hW₁, X', ⟨g', mk, t, L, E, ce, e1, e2, hq, hce, hcv, hcl, h1, hL, h2, h3⟩, st⟩
  · dsimp only [Pt.U, Pt.locs, Pt.cells, Pt.slots] at X' e1 e2 h1 h2 h3 st
    subst h1; subst h2; subst h3
    exact Or.inl ⟨v, (T.setVm vm₁).calling g' mk As.toArray, t, U', L, hT, X', hL, e1, e2, hq, st⟩
  · dsimp only [Pt.U, Pt.locs, Pt.cells, Pt.slots] at X' e1 e2 h1 h2 h3 st hcl
    subst h1; subst h2; subst h3
    exact Or.inr ⟨q, (T.setVm vm₁).calling g' mk As.toArray, t, U', L, E, ce, hT, X', hL, e1, e2, hq, hce, hcv, vx_cls hW₁ hcl, st⟩
end Runs
section Rows
variable {p : Program} {l : Launch} {e : Env} {R : Room} {s : State} {m : MethodId} {args : Array Value} {below : List Frame} {meth : Method} {c : Code} {H : Heap} {locs : List Loc} {cells slots : Nat} {Q : State → Prop}
variable {mc ms : Nat} {free : Addr → Prop} {A0 A1 : Nat → Prop} {H0 : Heap} {a : Array Value} {pc : Nat} {ls : Array Slot} {st0 rest : List Value}
theorem vx_keep {st₀ t T' : State} {L : List Loc} (h0 : st₀.heap = H) (e1 : T'.heap = t.heap) (hS : va_S A0 H0 H locs) (hA : ∀ q, q < H.size → A1 q → A0 q) (hf : ∀ q, free q → A0 q) (hL : ∀ q ∈ L, free q.base) (hF : va_F A1 st₀ t) :
    H.size ≤ T'.heap.size ∧ (∀ q : Nat, q < H.size → ¬ A1 q → T'.heap[q]? = H[q]?) ∧ va_S A0 H0 T'.heap (locs ++ L) := by
  obtain ⟨hz, hk⟩ := hF
  rw [h0] at hz hk
  exact ⟨by rw [e1]; exact hz, fun q h1 h2 => by rw [e1]; exact hk q h1 h2,
    ⟨Nat.le_trans hS.1 (by rw [e1]; exact hz), fun q h1 h2 => by rw [e1, hk q (Nat.lt_of_lt_of_le h1 hS.1) (fun z => h2 (hA q (Nat.lt_of_lt_of_le h1 hS.1) z))]; exact hS.2.1 q h1 h2, fun q hq => by
      rcases List.mem_append.mp hq with h | h
      · exact hS.2.2 q h
      · exact hf _ (hL q h)⟩⟩
/-- caught by the row x of this method's table; the rows ahead don't take it -/
theorem vx_catch {own name : String} {E : String} {ce : Cell} {q : Addr} (hown : s.vm.findClass own = some m.cls) (pre : List ExceptionTableEntry) (x : ExceptionTableEntry) (suf : List ExceptionTableEntry) (hsplit : c.exceptionTable.toList = pre ++ x :: suf)
    (hpass : ∀ z ∈ pre, covers z pc = false ∨ (z.catchType ≠ 0 ∧ ∃ nm : String, (Cond.classLink own z.catchType nm).before args s = true ∧ va_Nc E nm s)) (hx : covers x pc = true) (h0 : x.catchType ≠ 0)
    (hlink : (Cond.classLink own x.catchType name).before args s = true) (hcast : (Cond.castable E name).before args s = true) (hcell : H[q]? = some ce) (hv : ce.vm = .none) (hcl : s.vm.findClass E = some ce.cls)
    (kk : W p l e R s m args below meth c H locs cells slots Q (F0 m x.handlerPc ls [.ref q])) : vx_W p l e R s m args below meth c H locs cells slots Q (F0 m pc ls rest) q := by
  intro T hT X
  have hpl : e.platform.magicAccessors = ({} : Platform).magicAccessors := by rw [X.admits.platform]
  obtain ⟨c3, c4, hc3, hc4, hasg⟩ := Cond.castable_spec hcast
  cases Option.some.inj (hc3.symm.trans hcl)
  obtain ⟨c5, hc5, hcl5⟩ := Cond.classLink_spec hown hlink e.platform hpl
  cases Option.some.inj (hc4.symm.trans hc5)
  obtain ⟨vm', X', st⟩ := X.thenCaughtThrough q (g := F0 m pc ls rest) rfl (Steps.refl _) (by rw [hT]; exact hcell) (by rw [hv]; rfl) (by obtain ⟨k9, h9, -⟩ := Vm.findClass_spec hcl; exact ⟨k9, h9⟩) pre x suf hsplit
    (fun z hz => by
      rcases hpass z hz with h | ⟨hz0, nm, hl1, hn1⟩
      · exact Or.inl h
      · obtain ⟨c6, hc6, hcl6⟩ := Cond.classLink_spec hown hl1 e.platform hpl
        obtain ⟨a8, b8, h1, h2, h3⟩ := hn1
        cases Option.some.inj (h1.symm.trans hcl)
        cases Option.some.inj (h2.symm.trans hc6)
        exact Or.inr ⟨hz0, _, hcl6, h3⟩) hx (Or.inr ⟨h0, c4, hcl5, hasg⟩)
  obtain ⟨t, a1, b1⟩ := kk (T.setVm vm') hT X'
  exact ⟨t, st.trans a1, b1⟩
end Rows
section Ends
variable {p : Program} {l : Launch} {e : Env} {R : Room} {s : State} {m : MethodId} {args : Array Value} {below : List Frame} {meth : Method} {c : Code} {H : Heap} {locs : List Loc} {cells slots : Nat} {Q : State → Prop}
variable {mc ms : Nat} {free : Addr → Prop} {A0 A1 : Nat → Prop} {H0 : Heap} {a : Array Value} {ls : Array Slot} {st0 rest : List Value}
variable {Qc : Array Value → State → Outcome → State → Prop} {XC : String → State → State → Prop}
/-- what a body that may throw owes at its end -/
def vx_MQ (below : List Frame) (Qc : Array Value → State → Outcome → State → Prop) (XC : String → State → State → Prop) (a : Array Value) (s : State) (mc ms : Nat) (free : Addr → Prop) : State → Prop := fun t =>
  ∃ o, t.status = .running ∧ Ended t below o ∧ vx_Q Qc XC mc ms free a s o t
theorem vx_ret {g : JFrame} {mc ms : Nat} (k : W p l e R s m args below meth c H locs cells slots (MQ below Qc args s mc ms free) g) : W p l e R s m args below meth c H locs cells slots (vx_MQ below Qc XC args s mc ms free) g := by
  intro T hT X
  obtain ⟨t, a1, o, b1, b2, b3, b4⟩ := k T hT X
  exact ⟨t, a1, o, b1, b2, Or.inl ⟨b3, b4⟩⟩
theorem vx_out {pc : Nat} {E : String} {ce : Cell} {q : Addr} {mc ms : Nat} (hout : ∀ x ∈ c.exceptionTable.toList, covers x pc = false) (hlocks : meth.locks = false) (hcell : H[q]? = some ce) (hv : ce.vm = .none) (hcl : s.vm.findClass E = some ce.cls)
    (hx : ∀ t : State, t.heap = H → s.vm.Alike t.vm → XC E s t) (hf : ∀ z ∈ locs, free z.base) (hc : cells ≤ mc) (hs : slots ≤ ms) :
    vx_W p l e R s m args below meth c H locs cells slots (vx_MQ below Qc XC args s mc ms free) (F0 m pc ls rest) q := by
  intro T hT X
  obtain ⟨st1, hrun, hend, hW, hsm⟩ := X.leaveThrown q (g := F0 m pc ls rest) rfl rfl rfl hout hlocks
  have hcell9 : (T.setFrames (.throwing q :: below)).heap[q]? = some ce := by
    show T.heap[q]? = some ce
    rw [hT]; exact hcell
  exact ⟨_, st1, .threw q, hrun, hend, Or.inr ⟨q, rfl, E, ce, locs, hx _ hT hW.alike, hcell9, hv, hcl, hW, hsm.mono hc hs, hf⟩⟩
theorem vx_frame {U : State} {k n : Nat} (h : s.sameButNew ({ U with vm := s.vm } : State) locs k n) : s.heap.size ≤ U.heap.size ∧ ∀ q : Nat, q < s.heap.size → (∀ z ∈ locs, z.base ≠ q) → U.heap[q]? = s.heap[q]? := by
  obtain ⟨-, h2, -, -, -, h6⟩ := h
  refine ⟨h2, fun q hq hz => ?_⟩
  obtain ⟨c9, e1, e2, e3, e4⟩ := h6 q _ (Array.getElem?_eq_getElem hq)
  have hs : c9.slots = (s.heap[q]).slots := Array.ext_getElem? fun i => e4 i fun hm => hz _ hm rfl
  have h9 : c9 = s.heap[q] := by
    rw [hs] at e2
    exact e2
  have e5 : U.heap[q]? = some c9 := e1
  rw [e5, h9, Array.getElem?_eq_getElem hq]
/-- the words of a throw but the four that speak of the heap -/
def vx_no (w : Cond) : Bool := decide (w ≠ .isRef (.static Bundle.tN "UNASSIGNED_STACK" Bundle.steD)) && decide (w ≠ .isRef (.static Bundle.tN "SUPPRESSED_SENTINEL" Bundle.listD)) && decide (w ≠ .laysStatic Bundle.tN "UNASSIGNED_STACK" Bundle.steD) && decide (w ≠ .laysStatic Bundle.tN "SUPPRESSED_SENTINEL" Bundle.listD)
def vx_atS (own : String) (ic : Nat) (X : String) (names : List String) : List Cond := (Bundle.ownAtoms own ic X names).filter vx_no
/-- a word that the tables alone decide, or a good one -/
def vx_ot (w : Cond) : Bool := w.onTables || goodWord w
theorem vx_ot_at {args a' : Array Value} {s U : State} {w : Cond} (hW : s.WarmedH U.vm) (hvm : s.vm = U.vm) (hg : vx_ot w = true) (h : w.before args s = true) : w.before a' U = true := by
  simp only [vx_ot, Bool.or_eq_true] at hg
  rcases hg with hg | hg
  · exact va_tabs hg hvm h
  · exact word_at hW (good_of_word hg) h
theorem vx_own {args : Array Value} {s : State} {L : List Cond} (h1 : ∀ w ∈ L.filter vx_no, w.before args s = true)
    (hU : (Cond.isRef (.static Bundle.tN "UNASSIGNED_STACK" Bundle.steD)).before args s = true) (hN : (Cond.isRef (.static Bundle.tN "SUPPRESSED_SENTINEL" Bundle.listD)).before args s = true)
    (lU : (Cond.laysStatic Bundle.tN "UNASSIGNED_STACK" Bundle.steD).before args s = true) (lN : (Cond.laysStatic Bundle.tN "SUPPRESSED_SENTINEL" Bundle.listD).before args s = true) : ∀ w ∈ L, w.before args s = true := by
  intro w hw
  by_cases e1 : w = .isRef (.static Bundle.tN "UNASSIGNED_STACK" Bundle.steD)
  · rw [e1]; exact hU
  · by_cases e2 : w = .isRef (.static Bundle.tN "SUPPRESSED_SENTINEL" Bundle.listD)
    · rw [e2]; exact hN
    · by_cases e3 : w = .laysStatic Bundle.tN "UNASSIGNED_STACK" Bundle.steD
      · rw [e3]; exact lU
      · by_cases e4 : w = .laysStatic Bundle.tN "SUPPRESSED_SENTINEL" Bundle.listD
        · rw [e4]; exact lN
        · exact h1 w (List.mem_filter.mpr ⟨hw, by unfold vx_no; rw [decide_eq_true e1, decide_eq_true e2, decide_eq_true e3, decide_eq_true e4]; rfl⟩)
/-- where a static field lies, its class's statics cell in H -/
def vx_L (C n d : String) (A : Nat → Prop) (U : State) (H : Heap) : Prop := ∃ (c : ClassId) (k : Class) (i : Nat) (f : Field) (a : Nat) (cell : Cell), U.vm.findClass C = some c ∧ U.fieldFound? C n d = some (c, k, i, f) ∧ f.isStatic = true ∧ k.statics = some a ∧ H[a]? = some cell ∧ cell.vm.isStatics = true ∧ cell.cls = c ∧ f.slot < cell.slots.size ∧ k.staticTypes[f.slot]? = some f.type ∧ ¬ A a
theorem vx_L.moved {C n d : String} {A : Nat → Prop} {u U : State} {H : Heap} (hvm : u.vm.Alike U.vm) (h : vx_L C n d A u H) : vx_L C n d A U H := by
  obtain ⟨c, k, i, f, a, cell, h1, h2, h3, h4, h5, h6, h7, h8, h9, h10⟩ := h
  obtain ⟨k', hi', he⟩ := State.fieldFound?_setVm hvm h2
  exact ⟨c, k', i, f, a, cell, by rw [hvm.findClass]; exact h1, hi', h3, by rw [he]; exact h4, h5, h6, h7, h8, by rw [he]; exact h9, h10⟩
theorem vx_L.kept {C n d : String} {A : Nat → Prop} {U : State} {H H1 : Heap} (h : vx_L C n d A U H) (hq : ∀ a : Nat, a < H.size → ¬ A a → H1[a]? = H[a]?) : vx_L C n d A U H1 := by
  obtain ⟨c, k, i, f, a, cell, h1, h2, h3, h4, h5, h6, h7, h8, h9, h10⟩ := h
  exact ⟨c, k, i, f, a, cell, h1, h2, h3, h4, by rw [hq a (Array.getElem?_eq_some_iff.mp h5).1 h10]; exact h5, h6, h7, h8, h9, h10⟩
theorem vx_L.narrow {C n d : String} {A B : Nat → Prop} {U : State} {H : Heap} (h : vx_L C n d A U H) (hAB : ∀ q, B q → A q) : vx_L C n d B U H := by
  obtain ⟨c, k, i, f, a, cell, h1, h2, h3, h4, h5, h6, h7, h8, h9, h10⟩ := h
  exact ⟨c, k, i, f, a, cell, h1, h2, h3, h4, h5, h6, h7, h8, h9, fun z => h10 (hAB _ z)⟩
theorem vx_L.word {C n d : String} {A : Nat → Prop} {s : State} {args : Array Value} (h : vx_L C n d A s s.heap) : (Cond.laysStatic C n d).before args s = true := by
  obtain ⟨c, k, i, f, a, cell, h1, h2, h3, h4, h5, h6, h7, h8, h9, -⟩ := h
  show (Cond.laysStatic C n d).holds args s none s [] = true
  exact Cond.laysStatic_of h1 h2 h3 h4 h5 h6 h7 h8 h9
/-- .. and what it holds: null or some reference -/
def vx_Zq (C n d : String) (A : Nat → Prop) (U : State) (H : Heap) : Prop := va_Zq C n d A U H ∧ vx_L C n d A U H
theorem vx_Zq.moved {C n d : String} {A : Nat → Prop} {u U : State} {H : Heap} (hvm : u.vm.Alike U.vm) (h : vx_Zq C n d A u H) : vx_Zq C n d A U H := ⟨va_Zq.moved hvm h.1, vx_L.moved hvm h.2⟩
theorem vx_Zq.kept {C n d : String} {A : Nat → Prop} {U : State} {H H1 : Heap} (h : vx_Zq C n d A U H) (hq : ∀ a : Nat, a < H.size → ¬ A a → H1[a]? = H[a]?) : vx_Zq C n d A U H1 := ⟨va_Zq.kept h.1 hq, vx_L.kept h.2 hq⟩
theorem vx_Zq.narrow {C n d : String} {A B : Nat → Prop} {U : State} {H : Heap} (h : vx_Zq C n d A U H) (hAB : ∀ q, B q → A q) : vx_Zq C n d B U H := ⟨va_Zq.narrow h.1 hAB, vx_L.narrow h.2 hAB⟩
theorem vx_Zqof {args : Array Value} {s : State} {C n d : String} {A : Nat → Prop} (hl : (Cond.laysStatic C n d).before args s = true) (hini : (Cond.initialized C).before args s = true) (h : (Cond.isRef (.static C n d)).before args s = true) (hA : ∀ a : Nat, a < s.heap.size → ¬ A a) : vx_Zq C n d A s s.heap := by
  refine ⟨va_Zqof hl hini h hA, ?_⟩
  obtain ⟨c, k, i, f, a, cell, h1, h2, h3, h4, h5, h6, h7, h8, h9⟩ := Cond.laysStatic_spec hl
  exact ⟨c, k, i, f, a, cell, h1, h2, h3, h4, h5, h6, h7, h8, h9, hA a (Array.getElem?_eq_some_iff.mp h5).1⟩
theorem vx_isRef {C n d : String} {v : Value} {A : Nat → Prop} {s : State} {args : Array Value} (h : va_Z C n d v A s s.heap) (hv : v.isRef = true) : (Cond.isRef (.static C n d)).before args s = true := by
  obtain ⟨cf, kf, fi, f, a, cell, h1, h2, h3, h4, h5, h6, h7, -⟩ := h
  have he : (Term.static C n d).eval args s none [] s = some v := by
    simp [Term.eval, State.fieldNamed?, h1, h2, h4, h5, h6, h7]
  simp only [Cond.before, Cond.holds, Cond.value, he]
  cases v <;> simp_all [Value.isRef]
theorem vx_isRefq {C n d : String} {A : Nat → Prop} {s : State} {args : Array Value} (h : va_Zq C n d A s s.heap) : (Cond.isRef (.static C n d)).before args s = true := by
  rcases h with h | ⟨t, h⟩
  · exact vx_isRef h rfl
  · exact vx_isRef h rfl
/-- the same frame, seen from here: as if the method were called anew in this heap -/
theorem vx_rebase {T : State} (X : Stand p l e R s m args below meth c T locs cells slots) {R' : Room} (hf : R'.frames ≤ R.frames) (hl : R'.locals ≤ R.locals) (hc : cells + R'.cells ≤ R.cells) (hs : slots + R'.slots ≤ R.slots) :
    Stand p l e R' ((T.setVm s.vm).setFrames (.invoking m args :: below)) m args below meth c T [] 0 0 := by
  have htop : (T.setVm s.vm).topJava?.isSome := X.here.top
  have hF : ((T.setVm s.vm).setFrames (.invoking m args :: below)).frames = .invoking m args :: below := State.frames_setFrames _ (State.cur_lt_of_top htop)
  obtain ⟨g₀, hg0⟩ := Option.isSome_iff_exists.mp htop
  obtain ⟨r, hr⟩ := State.topJava?_eq_some.mp hg0
  have hl9 : e.platform.stackLimits (T.setVm s.vm).me = e.platform.stackLimits s.me := X.limits
  have hb9 : (T.setVm s.vm).me.stackBytes = s.me.stackBytes := X.bytes
  refine ⟨X.admits, X.cas, X.clock, hF, ?_, X.hears, X.method, X.code, X.here, X.tail, X.warmed, ?_, ?_, ?_⟩
  · have h := X.room
    have hU : ((T.setVm s.vm).setFrames (.invoking m args :: below)).localsInUse = s.localsInUse := by
      rw [State.localsInUse_invoking hF (meth := meth) (c := c) X.method X.code, State.localsInUse_invoking X.frames X.method X.code]
    simp only [State.hasRoom, Bool.and_eq_true, decide_eq_true_eq] at h ⊢
    obtain ⟨⟨⟨⟨h1, h2, h3, h4, h5, h6⟩, h7⟩, h8⟩, h9⟩ := h
    rw [X.frames, List.length_cons] at h2 h3
    have q1 := X.heapSize
    have q2 := X.used
    simp only [hF, hU, List.length_cons, State.stackLimits_setFrames, State.stackBytes_setFrames, hl9, hb9]
    refine ⟨⟨⟨⟨by omega, by omega, by omega, by omega, by omega, h6⟩, ?_⟩, ?_⟩, X.book⟩
    · show T.heap.size + R'.cells ≤ e.platform.maxCells
      omega
    · show T.slotsUsed + R'.slots ≤ e.platform.maxSlots
      omega
  · rw [State.stackLimits_setFrames]; rfl
  · rw [State.stackBytes_setFrames]; rfl
  · refine ⟨?_, Nat.le_refl _, Nat.le_refl _, ?_, ?_, fun a c9 h9 => ⟨c9, h9, rfl, rfl, fun _ _ => rfl⟩⟩
    · obtain ⟨t, ht, -⟩ := State.frames_cons hr
      show T.setVm s.vm = { ((T.setVm s.vm).setFrames (.invoking m args :: below)).setFrames (T.setVm s.vm).frames with heap := T.heap, slotsUsed := T.slotsUsed }
      rw [State.setFrames_setFrames, State.setFrames_self ht]
      rfl
    · show T.slotsUsed = T.slotsUsed + ((T.heap.toList.drop T.heap.size).map (·.slots.size)).sum
      rw [List.drop_eq_nil_of_le (Nat.le_of_eq Array.length_toList)]
      rfl
    · show ((T.heap.toList.drop T.heap.size).map (·.slots.size)).sum ≤ 0
      rw [List.drop_eq_nil_of_le (Nat.le_of_eq Array.length_toList)]
      exact Nat.le_refl _
/-- 'throw new E("text")': new; dup; ldc; invokespecial; athrow -/
theorem vx_throwS {cc : ByteArray} {pc : Nat} (hexec : p.tables.exec = Jvm.exec) (hb : c.code = cc) (hl : l.stackTraces = false) {own cls text : String} {names : List String} {ik is ic mc ms sa : Nat} {A : Nat → Prop}
    (hown : s.vm.findClass own = some m.cls) (hcls : Bundle.fit cls = true) (hnames : ∀ n ∈ names, Bundle.fit n = true)
    (hk : (Cond.classLink own ik cls).before args s = true) (hini : (Cond.initialized cls).before args s = true) (hstr : vk_R own is text sa s) (hat : ∀ w ∈ vx_atS own ic cls names, w.before args s = true)
    (hgood : ∀ w ∈ Cond.classLink own ik cls :: Cond.initialized cls :: vx_atS own ic cls names, vx_ot w = true)
    (hU : vx_Zq Bundle.tN "UNASSIGNED_STACK" Bundle.steD A s s.heap) (hN : vx_Zq Bundle.tN "SUPPRESSED_SENTINEL" Bundle.listD A s s.heap) (hS : va_S A s.heap H locs) (hsize : ls.size = c.maxLocals)
    (d0 : decode cc pc = .ok (.new ik, 3)) (d3 : decode cc (pc + 3) = .ok (.dup, 1)) (d4 : decode cc (pc + 4) = .ok (.ldc is, 2)) (d6 : decode cc (pc + 6) = .ok (.invokespecial ic, 3)) (d9 : decode cc (pc + 9) = .ok (.athrow, 1))
    (hout : ∀ x ∈ c.exceptionTable.toList, covers x (pc + 9) = false)
    (hRframes : names.length + 3 < R.frames) (hRlocals : (rest.map fun v => v.category).sum + (13 * (names.length + 1) + 43) ≤ R.locals) (hRcells : cells + 1 ≤ R.cells) (hRslots : slots + 6 ≤ R.slots) (hlocks : meth.locks = false)
    (hx : ∀ t : State, s.vm.Alike t.vm → H.size ≤ t.heap.size → (∀ q : Nat, q < H.size → t.heap[q]? = H[q]?) → XC cls s t)
    (hf : ∀ z ∈ locs, free z.base) (hc : cells + 1 ≤ mc) (hs : slots + 6 ≤ ms) :
    W p l e R s m args below meth c H locs cells slots (vx_MQ below Qc XC args s mc ms free) (F0 m pc ls rest) := by
  intro T hT X
  have htr : e.platform.stackTraces = false := (show e.platform.stackTraces = l.stackTraces by rw [X.admits.platform]).trans hl
  have Y := vx_rebase X (R' := { frames := R.frames, locals := R.locals, cells := 1, slots := 6 }) (Nat.le_refl _) (Nat.le_refl _) hRcells hRslots
  obtain ⟨s', hA⟩ : ∃ z, z = (T.setVm s.vm).setFrames (.invoking m args :: below) := ⟨_, rfl⟩
  rw [← hA] at Y
  have hvm : s'.vm = s.vm := by rw [hA]; rfl
  have hhp : s'.heap = H := by rw [hA]; exact hT
  have hW0 : s.WarmedH s'.vm := by rw [hvm]; exact State.WarmedH.refl s
  have hat' : ∀ w ∈ vx_atS own ic cls names, w.before args s' = true := fun w hw => vx_ot_at hW0 hvm.symm (hgood w (List.mem_cons_of_mem _ (List.mem_cons_of_mem _ hw))) (hat w hw)
  have hk' : (Cond.classLink own ik cls).before args s' = true := vx_ot_at hW0 hvm.symm (hgood _ List.mem_cons_self) hk
  have hini' : (Cond.initialized cls).before args s' = true := vx_ot_at hW0 hvm.symm (hgood _ (List.mem_cons_of_mem _ List.mem_cons_self)) hini
  have hU' : vx_Zq Bundle.tN "UNASSIGNED_STACK" Bundle.steD A s' s'.heap := by rw [hhp]; exact vx_Zq.moved hW0.alike (hU.kept hS.2.1)
  have hN' : vx_Zq Bundle.tN "SUPPRESSED_SENTINEL" Bundle.listD A s' s'.heap := by rw [hhp]; exact vx_Zq.moved hW0.alike (hN.kept hS.2.1)
  have h : ∀ w ∈ Bundle.ownAtoms own ic cls names, w.before args s' = true := vx_own hat' (vx_isRefq hU'.1) (vx_isRefq hN'.1) hU'.2.word hN'.2.word
  have hown' : s'.vm.findClass own = some m.cls := by rw [hvm]; exact hown
  have hins : (Cond.instantiable cls 6).before args s' = true := h _ (by simp [Bundle.ownAtoms])
  obtain ⟨vm₁, cX, kX, hfX, hkX, -, -, X₁, st1⟩ := Y.newCold hexec (own := own) (C := cls) (index := ik) (n := 6) hown' hk' hins hini'
    (g := F0 m pc ls rest) rfl (by rw [hb]; exact d0) (Nat.le_refl _) (Nat.le_refl _)
  generalize hT1 : (T.setVm vm₁).pushCell { cls := cX, slots := kX.instanceTypes.map defaultValue, vm := .none } = T1 at X₁ st1
  have hcat : (Value.ref T.heap.size).category = 1 := rfl
  have hcellA : T1.heap[T.heap.size]? = some (freshCell cX kX) := by rw [← hT1]; exact State.heap_pushCell_size _ _
  have d3' : decode c.code (pc + 3) = .ok (.dup, 1) := by rw [hb]; exact d3
  have d4' : decode c.code (pc + 4) = .ok (.ldc is, 2) := by rw [hb]; exact d4
  have hstr' : vk_R own is text sa s' := vk_R.warm hW0 hstr
  obtain ⟨U, hsteps, hrun, hend, hW, hsame, ce, hce, hO⟩ := X₁.ctorThrowS hexec htr (own := own) (cls := cls) (names := names) (ic := ic) hown' hcls hnames h (fun x hx => nomatch hx) hfX hkX hcellA (by rw [hhp, hT]; exact Nat.le_refl _) (msg := .ref sa) rfl
    (g := { method := m, pc := pc + 6, locals := ls, stack := .ref sa :: .ref T.heap.size :: .ref T.heap.size :: rest, locked := none }) rfl hsize rfl rfl (rest := rest) rfl
    (by rw [hb]; exact d6) (by rw [hb]; exact d9) hout hRframes (by simp only [List.map_cons, List.sum_cons, hcat]; omega) hlocks
  obtain ⟨f1, f2⟩ := vx_frame hsame
  rw [hhp] at f1 f2
  have hWs : s.WarmedH U.vm := State.WarmedH.trans hW0 hW
  have hcl : s.vm.findClass cls = some ce.cls := by
    have h9 := hO.cls
    rw [hvm] at h9
    exact h9
  have hall : s.sameButNew ({ U with vm := s.vm } : State) locs mc ms := by
    subst hA
    obtain ⟨e1, e2⟩ := hsame
    rw [State.setFrames_setFrames] at e1
    have h2 : (T.setVm s.vm).sameButNew ({ U with vm := s.vm } : State) [] (0 + 1) (0 + 6) := ⟨e1, e2⟩
    have h3 := X.same.trans h2
    rw [List.append_nil] at h3
    exact h3.mono hc hs
  refine ⟨U, ?_, .threw T.heap.size, hrun, hend, Or.inr ⟨T.heap.size, rfl, cls, ce, locs, hx U hWs.alike f1 (fun q hq => f2 q hq (fun z hz => nomatch hz)), hce, hO.vm, hcl, hWs, hall, hf⟩⟩
  refine st1 _ ?_
  show Steps p.tables e below (T1.setTop { method := m, pc := pc + 3, locals := ls, stack := .ref T.heap.size :: rest, locked := none }) _
  jvm_step X₁.here [X₁.here.top, hexec, d3', Value.category]
  exact X₁.ldcString hexec (own := own) (text := text) (index := is) (a := sa) hown' hstr'.1 hstr'.2
    (g := { method := m, pc := pc + 4, locals := ls, stack := .ref T.heap.size :: .ref T.heap.size :: rest, locked := none }) rfl d4' _ hsteps
/-- 'throw new E("text")', the text by a wide index -/
theorem vx_throwSW {cc : ByteArray} {pc : Nat} (hexec : p.tables.exec = Jvm.exec) (hb : c.code = cc) (hl : l.stackTraces = false) {own cls text : String} {names : List String} {ik is ic mc ms sa : Nat} {A : Nat → Prop}
    (hown : s.vm.findClass own = some m.cls) (hcls : Bundle.fit cls = true) (hnames : ∀ n ∈ names, Bundle.fit n = true)
    (hk : (Cond.classLink own ik cls).before args s = true) (hini : (Cond.initialized cls).before args s = true) (hstr : vk_R own is text sa s) (hat : ∀ w ∈ vx_atS own ic cls names, w.before args s = true)
    (hgood : ∀ w ∈ Cond.classLink own ik cls :: Cond.initialized cls :: vx_atS own ic cls names, vx_ot w = true)
    (hU : vx_Zq Bundle.tN "UNASSIGNED_STACK" Bundle.steD A s s.heap) (hN : vx_Zq Bundle.tN "SUPPRESSED_SENTINEL" Bundle.listD A s s.heap) (hS : va_S A s.heap H locs) (hsize : ls.size = c.maxLocals)
    (d0 : decode cc pc = .ok (.new ik, 3)) (d3 : decode cc (pc + 3) = .ok (.dup, 1)) (d4 : decode cc (pc + 4) = .ok (.ldc_w is, 3)) (d7 : decode cc (pc + 7) = .ok (.invokespecial ic, 3)) (d10 : decode cc (pc + 10) = .ok (.athrow, 1))
    (hout : ∀ x ∈ c.exceptionTable.toList, covers x (pc + 10) = false)
    (hRframes : names.length + 3 < R.frames) (hRlocals : (rest.map fun v => v.category).sum + (13 * (names.length + 1) + 43) ≤ R.locals) (hRcells : cells + 1 ≤ R.cells) (hRslots : slots + 6 ≤ R.slots) (hlocks : meth.locks = false)
    (hx : ∀ t : State, s.vm.Alike t.vm → H.size ≤ t.heap.size → (∀ q : Nat, q < H.size → t.heap[q]? = H[q]?) → XC cls s t)
    (hf : ∀ z ∈ locs, free z.base) (hc : cells + 1 ≤ mc) (hs : slots + 6 ≤ ms) :
    W p l e R s m args below meth c H locs cells slots (vx_MQ below Qc XC args s mc ms free) (F0 m pc ls rest) := by
  intro T hT X
  have htr : e.platform.stackTraces = false := (show e.platform.stackTraces = l.stackTraces by rw [X.admits.platform]).trans hl
  have Y := vx_rebase X (R' := { frames := R.frames, locals := R.locals, cells := 1, slots := 6 }) (Nat.le_refl _) (Nat.le_refl _) hRcells hRslots
  obtain ⟨s', hA⟩ : ∃ z, z = (T.setVm s.vm).setFrames (.invoking m args :: below) := ⟨_, rfl⟩
  rw [← hA] at Y
  have hvm : s'.vm = s.vm := by rw [hA]; rfl
  have hhp : s'.heap = H := by rw [hA]; exact hT
  have hW0 : s.WarmedH s'.vm := by rw [hvm]; exact State.WarmedH.refl s
  have hat' : ∀ w ∈ vx_atS own ic cls names, w.before args s' = true := fun w hw => vx_ot_at hW0 hvm.symm (hgood w (List.mem_cons_of_mem _ (List.mem_cons_of_mem _ hw))) (hat w hw)
  have hk' : (Cond.classLink own ik cls).before args s' = true := vx_ot_at hW0 hvm.symm (hgood _ List.mem_cons_self) hk
  have hini' : (Cond.initialized cls).before args s' = true := vx_ot_at hW0 hvm.symm (hgood _ (List.mem_cons_of_mem _ List.mem_cons_self)) hini
  have hU' : vx_Zq Bundle.tN "UNASSIGNED_STACK" Bundle.steD A s' s'.heap := by rw [hhp]; exact vx_Zq.moved hW0.alike (hU.kept hS.2.1)
  have hN' : vx_Zq Bundle.tN "SUPPRESSED_SENTINEL" Bundle.listD A s' s'.heap := by rw [hhp]; exact vx_Zq.moved hW0.alike (hN.kept hS.2.1)
  have h : ∀ w ∈ Bundle.ownAtoms own ic cls names, w.before args s' = true := vx_own hat' (vx_isRefq hU'.1) (vx_isRefq hN'.1) hU'.2.word hN'.2.word
  have hown' : s'.vm.findClass own = some m.cls := by rw [hvm]; exact hown
  have hins : (Cond.instantiable cls 6).before args s' = true := h _ (by simp [Bundle.ownAtoms])
  obtain ⟨vm₁, cX, kX, hfX, hkX, -, -, X₁, st1⟩ := Y.newCold hexec (own := own) (C := cls) (index := ik) (n := 6) hown' hk' hins hini'
    (g := F0 m pc ls rest) rfl (by rw [hb]; exact d0) (Nat.le_refl _) (Nat.le_refl _)
  generalize hT1 : (T.setVm vm₁).pushCell { cls := cX, slots := kX.instanceTypes.map defaultValue, vm := .none } = T1 at X₁ st1
  have hcat : (Value.ref T.heap.size).category = 1 := rfl
  have hcellA : T1.heap[T.heap.size]? = some (freshCell cX kX) := by rw [← hT1]; exact State.heap_pushCell_size _ _
  have d3' : decode c.code (pc + 3) = .ok (.dup, 1) := by rw [hb]; exact d3
  have d4' : decode c.code (pc + 4) = .ok (.ldc_w is, 3) := by rw [hb]; exact d4
  have hstr' : vk_R own is text sa s' := vk_R.warm hW0 hstr
  obtain ⟨U, hsteps, hrun, hend, hW, hsame, ce, hce, hO⟩ := X₁.ctorThrowS hexec htr (own := own) (cls := cls) (names := names) (ic := ic) hown' hcls hnames h (fun x hx => nomatch hx) hfX hkX hcellA (by rw [hhp, hT]; exact Nat.le_refl _) (msg := .ref sa) rfl
    (g := { method := m, pc := pc + 7, locals := ls, stack := .ref sa :: .ref T.heap.size :: .ref T.heap.size :: rest, locked := none }) rfl hsize rfl rfl (rest := rest) rfl
    (by rw [hb]; exact d7) (by rw [hb]; exact d10) hout hRframes (by simp only [List.map_cons, List.sum_cons, hcat]; omega) hlocks
  obtain ⟨f1, f2⟩ := vx_frame hsame
  rw [hhp] at f1 f2
  have hWs : s.WarmedH U.vm := State.WarmedH.trans hW0 hW
  have hcl : s.vm.findClass cls = some ce.cls := by
    have h9 := hO.cls
    rw [hvm] at h9
    exact h9
  have hall : s.sameButNew ({ U with vm := s.vm } : State) locs mc ms := by
    subst hA
    obtain ⟨e1, e2⟩ := hsame
    rw [State.setFrames_setFrames] at e1
    have h2 : (T.setVm s.vm).sameButNew ({ U with vm := s.vm } : State) [] (0 + 1) (0 + 6) := ⟨e1, e2⟩
    have h3 := X.same.trans h2
    rw [List.append_nil] at h3
    exact h3.mono hc hs
  refine ⟨U, ?_, .threw T.heap.size, hrun, hend, Or.inr ⟨T.heap.size, rfl, cls, ce, locs, hx U hWs.alike f1 (fun q hq => f2 q hq (fun z hz => nomatch hz)), hce, hO.vm, hcl, hWs, hall, hf⟩⟩
  refine st1 _ ?_
  show Steps p.tables e below (T1.setTop { method := m, pc := pc + 3, locals := ls, stack := .ref T.heap.size :: rest, locked := none }) _
  jvm_step X₁.here [X₁.here.top, hexec, d3', Value.category]
  exact X₁.ldcStringW hexec (own := own) (text := text) (index := is) (a := sa) hown' hstr'.1 hstr'.2
    (g := { method := m, pc := pc + 4, locals := ls, stack := .ref T.heap.size :: .ref T.heap.size :: rest, locked := none }) rfl d4' _ hsteps
end Ends
section Bodies
variable {l : Launch}
/-- the table of a body with handlers -/
theorem vx_table {p : Program} {x y : MethodName} {S : Spec} {cc bytes : ByteArray} {maxL maxL' : Nat} {ret ret' : Option FieldType} {e : Env} {s s₁ : State} {m : MethodId} {args : Array Value} {below : List Frame} {meth : Method} {c : Code} {hh : List (Nat × Nat × Nat × Nat)}
    (B : BodyLoose p l y S cc maxL ret e s m args below meth c s₁) (h : (Cond.codeWith y bytes maxL' ret' hh).before args s = true) : c.exceptionTable.toList = tableOf hh := by
  obtain ⟨m9, meth9, c9, hn9, h1, h2, -, -, h6, -⟩ := Cond.codeWith_spec h
  cases Option.some.inj (hn9.symm.trans B.named)
  cases Option.some.inj (h1.symm.trans B.method)
  cases Option.some.inj (h2.symm.trans (Stand.of_body B).code)
  rw [← h6, table_eq]
end Bodies
end VXA
/-! ===== END ===== -/
/-! ===== BEGIN a static call of a method with an exception table ===== -/
section VXS
variable {p : Program} {l : Launch} {e : Env} {R : Room} {s : State} {m : MethodId} {args : Array Value} {below : List Frame} {meth : Method} {c : Code} {T : State} {H : Heap} {locs : List Loc} {cells slots : Nat}
abbrev vx_CSW (R : Room) (s : State) (args : Array Value) (own : String) (index : Nat) (y : MethodName) (bytes : ByteArray) (maxL : Nat) (ret : Option FieldType) (hh : List (Nat × Nat × Nat × Nat)) (ws : List Cond) (rm : Room) (mc ms n : Nat) : Prop :=
  (rm.cells = mc ∧ rm.slots = ms ∧ rm.frames + 1 ≤ R.frames ∧ 8 + (maxL + 11) + rm.locals ≤ R.locals ∧ (∀ w ∈ ws, ∀ (a' : Array Value) (U : State), s.WarmedH U.vm → w.before a' U = true) ∧ Cond.codeWith y bytes maxL ret hh ∈ ws) ∧
  (Cond.codeWith y bytes maxL ret hh).before args s = true ∧ (Cond.initialized y.cls).before args s = true ∧ (y.cls ≠ "java/lang/invoke/MethodHandle" ∧ y.cls ≠ "java/lang/invoke/VarHandle") ∧
  (∀ sig, parseMethodDescriptor y.desc = some sig → n = sig.parameters.length) ∧ (Cond.methodLink own index y).before args s = true ∧ (Cond.static y).before args s = true
theorem vx_cwSW {own : String} {index maxL mc ms : Nat} {y : MethodName} {bytes : ByteArray} {ret : Option FieldType} {hh : List (Nat × Nat × Nat × Nat)} {Ts ws ws' : List Cond} {rm : Room} (n : Nat) (ht : ∀ w ∈ Ts, w.before args s = true) (hT : GoodIn Ts (va_wsS own index y ws)) (hw : ws = Cond.codeWith y bytes maxL ret hh :: ws') (hrc : rm.cells = mc) (hrs : rm.slots = ms)
    (hd : y.cls ≠ "java/lang/invoke/MethodHandle" ∧ y.cls ≠ "java/lang/invoke/VarHandle" ∧ (parseMethodDescriptor y.desc).map (fun d => d.parameters.length) = some n) (hR : rm.frames + 1 ≤ R.frames ∧ 8 + (maxL + 11) + rm.locals ≤ R.locals) :
    vx_CSW R s args own index y bytes maxL ret hh ws rm mc ms n := by
  have ok : ∀ w ∈ va_wsS own index y ws, w.before args s = true := fun w h => ht w (hT w h).1
  have hG : GoodIn Ts ws := fun w h => hT w (by unfold va_wsS; exact List.mem_append_right _ h)
  have hc : Cond.codeWith y bytes maxL ret hh ∈ ws := by rw [hw]; exact List.mem_cons_self
  refine ⟨⟨hrc, hrs, hR.1, hR.2, pay_in ht hG, hc⟩, ht _ (hG _ hc).1, ok _ (by simp [va_wsS]), ⟨hd.1, hd.2.1⟩, fun sig h => ?_, ok _ (by simp [va_wsS]), ok _ (by simp [va_wsS])⟩
  have h2 := hd.2.2
  rw [h] at h2
  exact (Option.some.inj h2).symm
theorem vx_callSW (X : Stand p l e R s m args below meth c T locs cells slots) (hexec : p.tables.exec = Jvm.exec) {own : String} {index : Nat} {y : MethodName} {bytes : ByteArray} {maxL : Nat} {ret : Option FieldType} {hh : List (Nat × Nat × Nat × Nat)}
    (hown : s.vm.findClass own = some m.cls) (hlink : (Cond.methodLink own index y).before args s = true) (hstat : (Cond.static y).before args s = true) (hinit : (Cond.initialized y.cls).before args s = true)
    (hcode : (Cond.codeWith y bytes maxL ret hh).before args s = true) (hy : y.cls ≠ "java/lang/invoke/MethodHandle" ∧ y.cls ≠ "java/lang/invoke/VarHandle")
    {W9 : Nat} {Pre : Pt → Array Value → Prop} {Post : Pt → Array Value → Option Value → Pt → Prop} (hK : Back l R p e below s args y 3 W9 Pre Post)
    {g : JFrame} (hg : g.method = m) (hsize : g.locals.size = c.maxLocals) {argsL rest : List Value} (hlen : ∀ sig, parseMethodDescriptor y.desc = some sig → argsL.length = sig.parameters.length)
    (hstack : g.stack = argsL.reverse ++ rest) (hW : 2 * g.monitorRoom + (rest.map fun v => v.category).sum ≤ W9) (hdg : decode c.code g.pc = .ok (.invokestatic index, 3))
    (hpre : ∀ vm₁, s.WarmedH vm₁ → Pre ⟨T.setVm vm₁, locs, cells, slots⟩ argsL.toArray) :
    ∃ (v : Option Value) (vm₁ : Vm) (B : Pt), s.WarmedH vm₁ ∧ Stand p l e R s m args below meth c B.U B.locs B.cells B.slots ∧ Post ⟨T.setVm vm₁, locs, cells, slots⟩ argsL.toArray v B ∧
      ∀ target, Steps p.tables e below (B.U.setTop { g with pc := g.pc + 3, stack := v.toList ++ rest }) target → Steps p.tables e below (T.setTop g) target := by
  obtain ⟨mk, methM, cM, hnamed, hmethM, -, -, -, -, -, -, hsigM⟩ := Cond.codeWith_spec hcode
  have hstatic : methM.isStatic = true := Cond.static_spec hnamed hmethM hstat
  obtain ⟨kP, hkP, -⟩ := className_of_methodNamed hnamed
  have hinitP : kP.init = .initialized := Cond.initialized_spec (findClass_of_methodNamed hnamed) hkP hinit
  obtain ⟨vm₁, X₁, hstep₁⟩ := X.invokestatic hexec hown hlink hnamed hmethM hstatic hkP hinitP hy (g := g) hg (argsL := argsL) (rest := rest) (hlen _ hsigM) hstack hdg
  obtain ⟨v, B, X', hpost, hsteps⟩ := hK m meth c ⟨T.setVm vm₁, locs, cells, slots⟩ { g with stack := rest } (.invokestatic index) mk argsL.toArray X₁ hg hsize hdg hW (X₁.named hnamed) (hpre vm₁ X₁.warmed)
  exact ⟨v, vm₁, B, X₁.warmed, X', hpost, fun target h => hstep₁ _ fun acts => by rw [doInvoke_state]; exact hsteps.trans h⟩
theorem vx_runSW {y : MethodName} {bytes cc : ByteArray} {maxL nL mc ms n index : Nat} {ret : Option FieldType} {hh : List (Nat × Nat × Nat × Nat)} {ws : List Cond} {rm : Room} {Pc : Array Value → State → Prop} {Qc : Array Value → State → Outcome → State → Prop} {free : Addr → Prop} {Ts : List Cond} {own : String} {As rest : List Value} {g : JFrame}
    (S : CallFix p m c cc nL s args Ts own) (hM : Met l y ws rm Pc Qc mc ms free) (cw : vx_CSW R s args own index y bytes maxL ret hh ws rm mc ms n) (hp : PreS s H Pc As)
    (hg : g.method = m) (hn : As.length = n) (hsize : g.locals.size = nL) (hstack : g.stack = As.reverse ++ rest) (hW : 2 * g.monitorRoom + (rest.map fun v => v.category).sum ≤ 8) (hdg : decode cc g.pc = .ok (.invokestatic index, 3)) (hf : cells + mc ≤ R.cells ∧ slots + ms ≤ R.slots) :
    va_Run p l e R s m args below meth c H locs cells slots mc ms g rest (Qc As.toArray) (free) := by
  obtain ⟨⟨hrc, hrs, hfr, hlo, hws, hcw⟩, hcode, hini, hy, hlen, hl, hstt⟩ := cw
  have hK : Back l R p e below s args y 3 8 (PreOf R mc ms Pc) (PostOf Qc mc ms free) := va_backW (hh := hh) (bytes := bytes) (maxL := maxL) (ret := ret) hM hp.1 hrc hrs hfr hlo hws hcw (fun a' U hW => word_at hW (Or.inl (by first | rfl | simp [Cond.onTables, Cond.keeps, Cond.steady])) hini)
  obtain ⟨hx, hb, hml, ho, -⟩ := S
  intro T hT X
  obtain ⟨v, vm₁, ⟨U', l2, c2, s2⟩, hW₁, X', ⟨g', mk, t, L, e1, e2, hq, h1, hL, h2, h3⟩, st⟩ := vx_callSW X hx (hh := hh) (bytes := bytes) (maxL := maxL) (ret := ret) ho hl hstt hini hcode hy hK hg (hsize.trans hml.symm) (argsL := As) (rest := rest) (fun sig h => hn.trans (hlen sig h)) hstack hW (by rw [hb]; exact hdg)
    (fun vm₁ hW₁ => ⟨hf.1, hf.2, hp.2 (T.setVm vm₁) hT hW₁⟩)
  dsimp only [Pt.U, Pt.locs, Pt.cells, Pt.slots] at X' e1 e2 h1 h2 h3 st
  subst h1; subst h2; subst h3
  exact ⟨v, (T.setVm vm₁).calling g' mk As.toArray, t, U', L, hT, X', hL, e1, e2, hq, st⟩
end VXS
/-! ===== END ===== -/
/-! ===== BEGIN methods with a table of their own: called by a name, returning or throwing ===== -/
section VXH
/-! vx_backW, vx_callVX, vx_callSX, vx_callVW, vx_runVW, vx_runVX, vx_runSX, vx_ofWH follow the same proofs as their sisters above (Free/Laws.lean, Shelf42/LK1.lean); vx_outP calls Shelf42/NT130.lean (outThrough). -/
section
variable {l : Launch} {R : Room} {p : Program} {e : Env} {below : List Frame} {s : State} {sargs : Array Value} {y : MethodName} {len W9 : Nat}
end
variable {p : Program} {l : Launch} {e : Env} {R : Room} {s : State} {m : MethodId} {args : Array Value} {below : List Frame} {meth : Method} {c : Code} {T : State} {H : Heap} {locs : List Loc} {cells slots : Nat}
section
variable {y : MethodName} {bytes cc : ByteArray} {maxL nL mc ms n index : Nat} {ret : Option FieldType} {ws : List Cond} {rm : Room} {Pc : Array Value → State → Prop} {Qc : Array Value → State → Outcome → State → Prop} {XC : String → State → State → Prop} {free : Addr → Prop} {Ts : List Cond} {own C : String} {b : Addr} {As rest : List Value} {g : JFrame}
end
end VXH
/-! ===== END ===== -/

def RX0 : String := "TripleTrains$Board"
def TX0 : u_T := fun k => match k with
  | 0 => ("TripleTrains$Board", "points", "I", false)
  | 1 => ("TripleTrains$Board", "size", "I", false)
  | 2 => ("TripleTrains$Board", "thirds", "[I", true)
  | 3 => ("TripleTrains$Board", "numbers", "[I", true)
  | 4 => ("TripleTrains$Board", "open", "[I", true)
  | _ => ("TripleTrains$Board", "sets", "[I", true)
abbrev cX0_init : ByteArray := prog_2_method_1_code
def yX0_init : MethodName := ⟨RX0, "<init>", "()V"⟩
abbrev cX0_reset : ByteArray := prog_2_method_2_code
def yX0_reset : MethodName := ⟨RX0, "reset", "(I)V"⟩
abbrev cX0_copy : ByteArray := prog_2_method_3_code
def yX0_copy : MethodName := ⟨RX0, "copy", "(LTripleTrains$Board;)V"⟩
abbrev cX0_isPoint : ByteArray := prog_2_method_4_code
def yX0_isPoint : MethodName := ⟨RX0, "isPoint", "(I)Z"⟩
abbrev cX0_allPoints : ByteArray := prog_2_method_5_code
def yX0_allPoints : MethodName := ⟨RX0, "allPoints", "()I"⟩
abbrev cX0_turnWithin : ByteArray := prog_2_method_6_code
def yX0_turnWithin : MethodName := ⟨RX0, "turnWithin", "(I)I"⟩
abbrev cX0_pairs : ByteArray := prog_2_method_7_code
def yX0_pairs : MethodName := ⟨RX0, "pairs", "()I"⟩
abbrev cX0_thirdOf : ByteArray := prog_2_method_8_code
def yX0_thirdOf : MethodName := ⟨RX0, "thirdOf", "(II)I"⟩
abbrev cX0_openOf : ByteArray := prog_2_method_9_code
def yX0_openOf : MethodName := ⟨RX0, "openOf", "(I)I"⟩
abbrev cX0_setOf : ByteArray := prog_2_method_10_code
def yX0_setOf : MethodName := ⟨RX0, "setOf", "(I)I"⟩
abbrev cX0_numberCovering : ByteArray := prog_2_method_11_code
def yX0_numberCovering : MethodName := ⟨RX0, "numberCovering", "(II)I"⟩
abbrev cX0_numberOf : ByteArray := prog_2_method_12_code
def yX0_numberOf : MethodName := ⟨RX0, "numberOf", "(I)I"⟩
abbrev cX0_holds : ByteArray := prog_2_method_13_code
def yX0_holds : MethodName := ⟨RX0, "holds", "(I)Z"⟩
abbrev cX0_takes : ByteArray := prog_2_method_14_code
def yX0_takes : MethodName := ⟨RX0, "takes", "(I)Z"⟩
abbrev cX0_put : ByteArray := prog_2_method_15_code
def yX0_put : MethodName := ⟨RX0, "put", "(I)V"⟩
abbrev cX0_drop : ByteArray := prog_2_method_16_code
def yX0_drop : MethodName := ⟨RX0, "drop", "(I)V"⟩
abbrev cX0_join : ByteArray := prog_2_method_17_code
def yX0_join : MethodName := ⟨RX0, "join", "(III)V"⟩
abbrev cX0_part : ByteArray := prog_2_method_18_code
def yX0_part : MethodName := ⟨RX0, "part", "(II)V"⟩
abbrev cX0_list : ByteArray := prog_2_method_19_code
def yX0_list : MethodName := ⟨RX0, "list", "()V"⟩
abbrev cX0_number : ByteArray := prog_2_method_20_code
def yX0_number : MethodName := ⟨RX0, "number", "(III)V"⟩
abbrev cX0_numberPair : ByteArray := prog_2_method_21_code
def yX0_numberPair : MethodName := ⟨RX0, "numberPair", "(II)V"⟩
abbrev cX0_putAllTurns : ByteArray := prog_2_method_22_code
def yX0_putAllTurns : MethodName := ⟨RX0, "putAllTurns", "(I)I"⟩
abbrev cX0_putAllThatFit : ByteArray := prog_2_method_23_code
def yX0_putAllThatFit : MethodName := ⟨RX0, "putAllThatFit", "()I"⟩
abbrev cX0_openPairs : ByteArray := prog_2_method_24_code
def yX0_openPairs : MethodName := ⟨RX0, "openPairs", "()I"⟩
abbrev cX0_openPair : ByteArray := prog_2_method_25_code
def yX0_openPair : MethodName := ⟨RX0, "openPair", "(I)I"⟩
abbrev cX0_tightestPair : ByteArray := prog_2_method_26_code
def yX0_tightestPair : MethodName := ⟨RX0, "tightestPair", "()I"⟩
abbrev cX0_meeting : ByteArray := prog_2_method_27_code
def yX0_meeting : MethodName := ⟨RX0, "meeting", "(II)I"⟩
abbrev cX0_dropMeeting : ByteArray := prog_2_method_28_code
def yX0_dropMeeting : MethodName := ⟨RX0, "dropMeeting", "(II)I"⟩
abbrev cX0_trainFrom : ByteArray := prog_2_method_29_code
def yX0_trainFrom : MethodName := ⟨RX0, "trainFrom", "(I)I"⟩
abbrev cX0_turnKeeps : ByteArray := prog_2_method_30_code
def yX0_turnKeeps : MethodName := ⟨RX0, "turnKeeps", "(I)Z"⟩
abbrev cX0_leastKeptTurn : ByteArray := prog_2_method_31_code
def yX0_leastKeptTurn : MethodName := ⟨RX0, "leastKeptTurn", "()I"⟩
abbrev cX0_orbitOf : ByteArray := prog_2_method_32_code
def yX0_orbitOf : MethodName := ⟨RX0, "orbitOf", "(II)J"⟩
abbrev cX0_isClosed : ByteArray := prog_2_method_33_code
def yX0_isClosed : MethodName := ⟨RX0, "isClosed", "(I)Z"⟩
abbrev cX0_closed : ByteArray := prog_2_method_34_code
def yX0_closed : MethodName := ⟨RX0, "closed", "(I)I"⟩
abbrev cX0_hasTripleWithin : ByteArray := prog_2_method_35_code
def yX0_hasTripleWithin : MethodName := ⟨RX0, "hasTripleWithin", "(I)Z"⟩
def RX1 : String := "TripleTrains$Cycles"
def TX1 : u_T := fun k => match k with
  | 0 => ("TripleTrains$Cycles", "size", "I", false)
  | 1 => ("TripleTrains$Cycles", "first", "I", false)
  | 2 => ("TripleTrains$Cycles", "second", "I", false)
  | 3 => ("TripleTrains$Cycles", "begins", "[I", true)
  | 4 => ("TripleTrains$Cycles", "row", "[I", true)
  | _ => ("TripleTrains$Cycles", "steps", "[J", true)
abbrev cX1_init : ByteArray := prog_3_method_1_code
def yX1_init : MethodName := ⟨RX1, "<init>", "()V"⟩
abbrev cX1_gather : ByteArray := prog_3_method_2_code
def yX1_gather : MethodName := ⟨RX1, "gather", "(LTripleTrains$Board;II)V"⟩
abbrev cX1_walk : ByteArray := prog_3_method_3_code
def yX1_walk : MethodName := ⟨RX1, "walk", "(LTripleTrains$Board;I)I"⟩
abbrev cX1_keep : ByteArray := prog_3_method_4_code
def yX1_keep : MethodName := ⟨RX1, "keep", "(I)I"⟩
abbrev cX1_beginOf : ByteArray := prog_3_method_5_code
def yX1_beginOf : MethodName := ⟨RX1, "beginOf", "(I)I"⟩
abbrev cX1_lengthOf : ByteArray := prog_3_method_6_code
def yX1_lengthOf : MethodName := ⟨RX1, "lengthOf", "(I)I"⟩
abbrev cX1_pointAt : ByteArray := prog_3_method_7_code
def yX1_pointAt : MethodName := ⟨RX1, "pointAt", "(II)I"⟩
abbrev cX1_countOfLength : ByteArray := prog_3_method_8_code
def yX1_countOfLength : MethodName := ⟨RX1, "countOfLength", "(I)I"⟩
abbrev cX1_tradeOf : ByteArray := prog_3_method_9_code
def yX1_tradeOf : MethodName := ⟨RX1, "tradeOf", "(I)J"⟩
abbrev cX1_planSwitch : ByteArray := prog_3_method_10_code
def yX1_planSwitch : MethodName := ⟨RX1, "planSwitch", "(ILTripleTrains$Exchange;)V"⟩
def RX2 : String := "TripleTrains$Exchange"
def TX2 : u_T := fun k => match k with
  | 0 => ("TripleTrains$Exchange", "size", "I", false)
  | 1 => ("TripleTrains$Exchange", "goneNumbers", "J", false)
  | 2 => ("TripleTrains$Exchange", "gone", "[I", true)
  | _ => ("TripleTrains$Exchange", "come", "[I", true)
abbrev cX2_init : ByteArray := prog_4_method_1_code
def yX2_init : MethodName := ⟨RX2, "<init>", "()V"⟩
abbrev cX2_begin : ByteArray := prog_4_method_2_code
def yX2_begin : MethodName := ⟨RX2, "begin", "(J)V"⟩
abbrev cX2_plan : ByteArray := prog_4_method_3_code
def yX2_plan : MethodName := ⟨RX2, "plan", "(II)V"⟩
abbrev cX2_applyTo : ByteArray := prog_4_method_4_code
def yX2_applyTo : MethodName := ⟨RX2, "applyTo", "(LTripleTrains$Board;)I"⟩
def RX3 : String := "TripleTrains$History"
def TX3 : u_T := fun k => match k with
  | 0 => ("TripleTrains$History", "depth", "I", false)
  | 1 => ("TripleTrains$History", "past", "[LTripleTrains$Snapshot;", true)
  | 2 => ("TripleTrains$History", "saved", "LTripleTrains$Snapshot;", true)
  | _ => ("TripleTrains$History", "isSaved", "Z", false)
abbrev cX3_init : ByteArray := prog_5_method_1_code
def yX3_init : MethodName := ⟨RX3, "<init>", "()V"⟩
abbrev cX3_push : ByteArray := prog_5_method_2_code
def yX3_push : MethodName := ⟨RX3, "push", "(LTripleTrains$Board;LTripleTrains$Tally;)V"⟩
abbrev cX3_forgetOldest : ByteArray := prog_5_method_3_code
def yX3_forgetOldest : MethodName := ⟨RX3, "forgetOldest", "()V"⟩
abbrev cX3_takeBack : ByteArray := prog_5_method_4_code
def yX3_takeBack : MethodName := ⟨RX3, "takeBack", "(LTripleTrains$Board;LTripleTrains$Tally;)Z"⟩
abbrev cX3_save : ByteArray := prog_5_method_5_code
def yX3_save : MethodName := ⟨RX3, "save", "(LTripleTrains$Board;LTripleTrains$Tally;)V"⟩
abbrev cX3_restore : ByteArray := prog_5_method_6_code
def yX3_restore : MethodName := ⟨RX3, "restore", "(LTripleTrains$Board;LTripleTrains$Tally;)Z"⟩
abbrev cX3_forgetAll : ByteArray := prog_5_method_7_code
def yX3_forgetAll : MethodName := ⟨RX3, "forgetAll", "()V"⟩
def RX4 : String := "TripleTrains$Quads"
def TX4 : u_T := fun k => match k with
  | 0 => ("TripleTrains$Quads", "size", "I", false)
  | 1 => ("TripleTrains$Quads", "masks", "[J", true)
  | _ => ("TripleTrains$Quads", "unions", "[I", true)
abbrev cX4_init : ByteArray := prog_6_method_1_code
def yX4_init : MethodName := ⟨RX4, "<init>", "()V"⟩
abbrev cX4_gather : ByteArray := prog_6_method_2_code
def yX4_gather : MethodName := ⟨RX4, "gather", "(LTripleTrains$Board;)V"⟩
abbrev cX4_keep : ByteArray := prog_6_method_3_code
def yX4_keep : MethodName := ⟨RX4, "keep", "(IIIII)V"⟩
abbrev cX4_tripleOf : ByteArray := prog_6_method_4_code
def yX4_tripleOf : MethodName := ⟨RX4, "tripleOf", "(II)I"⟩
abbrev cX4_pointsOf : ByteArray := prog_6_method_5_code
def yX4_pointsOf : MethodName := ⟨RX4, "pointsOf", "(I)I"⟩
abbrev cX4_oppositeOf : ByteArray := prog_6_method_6_code
def yX4_oppositeOf : MethodName := ⟨RX4, "oppositeOf", "(LTripleTrains$Board;II)I"⟩
abbrev cX4_holdingPoint : ByteArray := prog_6_method_7_code
def yX4_holdingPoint : MethodName := ⟨RX4, "holdingPoint", "(I)I"⟩
abbrev cX4_holdingAny : ByteArray := prog_6_method_8_code
def yX4_holdingAny : MethodName := ⟨RX4, "holdingAny", "(J)I"⟩
abbrev cX4_maskOf : ByteArray := prog_6_method_9_code
def yX4_maskOf : MethodName := ⟨RX4, "maskOf", "(I)J"⟩
abbrev cX4_hasMask : ByteArray := prog_6_method_10_code
def yX4_hasMask : MethodName := ⟨RX4, "hasMask", "(J)Z"⟩
abbrev cX4_planSwitch : ByteArray := prog_6_method_11_code
def yX4_planSwitch : MethodName := ⟨RX4, "planSwitch", "(LTripleTrains$Board;ILTripleTrains$Exchange;)V"⟩
abbrev cX4_countWith : ByteArray := prog_6_method_12_code
def yX4_countWith : MethodName := ⟨RX4, "countWith", "(LTripleTrains$Board;I)I"⟩
def RX5 : String := "TripleTrains$Sets"
abbrev cX5_three : ByteArray := prog_7_method_2_code
def yX5_three : MethodName := ⟨RX5, "three", "(III)I"⟩
abbrev cX5_has : ByteArray := prog_7_method_3_code
def yX5_has : MethodName := ⟨RX5, "has", "(II)Z"⟩
abbrev cX5_member : ByteArray := prog_7_method_4_code
def yX5_member : MethodName := ⟨RX5, "member", "(II)I"⟩
abbrev cX5_turned : ByteArray := prog_7_method_5_code
def yX5_turned : MethodName := ⟨RX5, "turned", "(III)I"⟩
abbrev cX5_exchanged : ByteArray := prog_7_method_6_code
def yX5_exchanged : MethodName := ⟨RX5, "exchanged", "(III)I"⟩
abbrev cX5_digits : ByteArray := prog_7_method_7_code
def yX5_digits : MethodName := ⟨RX5, "digits", "(I)I"⟩
def RX6 : String := "TripleTrains$SetupText"
def TX6 : u_T := fun k => match k with
  | 0 => ("TripleTrains$SetupText", "length", "I", false)
  | 1 => ("TripleTrains$SetupText", "code", "I", false)
  | 2 => ("TripleTrains$SetupText", "offset", "I", false)
  | 3 => ("TripleTrains$SetupText", "bytes", "[B", true)
  | 4 => ("TripleTrains$SetupText", "at", "I", false)
  | 5 => ("TripleTrains$SetupText", "kind", "I", false)
  | 6 => ("TripleTrains$SetupText", "start", "I", false)
  | _ => ("TripleTrains$SetupText", "value", "I", false)
abbrev cX6_init : ByteArray := prog_8_method_1_code
def yX6_init : MethodName := ⟨RX6, "<init>", "()V"⟩
abbrev cX6_hasRoom : ByteArray := prog_8_method_2_code
def yX6_hasRoom : MethodName := ⟨RX6, "hasRoom", "()Z"⟩
abbrev cX6_append : ByteArray := prog_8_method_3_code
def yX6_append : MethodName := ⟨RX6, "append", "(I)V"⟩
abbrev cX6_read : ByteArray := prog_8_method_4_code
def yX6_read : MethodName := ⟨RX6, "read", "(LTripleTrains$Board;)Z"⟩
abbrev cX6_readPoints : ByteArray := prog_8_method_5_code
def yX6_readPoints : MethodName := ⟨RX6, "readPoints", "(LTripleTrains$Board;)Z"⟩
abbrev cX6_readStatement : ByteArray := prog_8_method_6_code
def yX6_readStatement : MethodName := ⟨RX6, "readStatement", "(LTripleTrains$Board;)Z"⟩
abbrev cX6_fail : ByteArray := prog_8_method_7_code
def yX6_fail : MethodName := ⟨RX6, "fail", "(I)Z"⟩
abbrev cX6_advance : ByteArray := prog_8_method_8_code
def yX6_advance : MethodName := ⟨RX6, "advance", "()V"⟩
abbrev cX6_readWord : ByteArray := prog_8_method_9_code
def yX6_readWord : MethodName := ⟨RX6, "readWord", "()V"⟩
abbrev cX6_readNumber : ByteArray := prog_8_method_10_code
def yX6_readNumber : MethodName := ⟨RX6, "readNumber", "()V"⟩
abbrev cX6_isWord : ByteArray := prog_8_method_11_code
def yX6_isWord : MethodName := ⟨RX6, "isWord", "(Ljava/lang/String;)Z"⟩
abbrev cX6_byteAt : ByteArray := prog_8_method_12_code
def yX6_byteAt : MethodName := ⟨RX6, "byteAt", "(I)I"⟩
abbrev cX6_isLetter : ByteArray := prog_8_method_13_code
def yX6_isLetter : MethodName := ⟨RX6, "isLetter", "(I)Z"⟩
abbrev cX6_isDigit : ByteArray := prog_8_method_14_code
def yX6_isDigit : MethodName := ⟨RX6, "isDigit", "(I)Z"⟩
def RX7 : String := "TripleTrains$Snapshot"
def TX7 : u_T := fun k => match k with
  | 0 => ("TripleTrains$Snapshot", "points", "I", false)
  | 1 => ("TripleTrains$Snapshot", "size", "I", false)
  | 2 => ("TripleTrains$Snapshot", "sets", "[I", true)
  | _ => ("TripleTrains$Snapshot", "tally", "LTripleTrains$Tally;", true)
abbrev cX7_init : ByteArray := prog_9_method_1_code
def yX7_init : MethodName := ⟨RX7, "<init>", "()V"⟩
abbrev cX7_keep : ByteArray := prog_9_method_2_code
def yX7_keep : MethodName := ⟨RX7, "keep", "(LTripleTrains$Board;LTripleTrains$Tally;)V"⟩
abbrev cX7_giveBack : ByteArray := prog_9_method_3_code
def yX7_giveBack : MethodName := ⟨RX7, "giveBack", "(LTripleTrains$Board;LTripleTrains$Tally;)V"⟩
def RX8 : String := "TripleTrains$Tally"
def TX8 : u_T := fun k => match k with
  | 0 => ("TripleTrains$Tally", "quads", "I", false)
  | 1 => ("TripleTrains$Tally", "cycles", "I", false)
  | _ => ("TripleTrains$Tally", "replaced", "I", false)
abbrev cX8_init : ByteArray := prog_10_method_1_code
def yX8_init : MethodName := ⟨RX8, "<init>", "()V"⟩
abbrev cX8_reset : ByteArray := prog_10_method_2_code
def yX8_reset : MethodName := ⟨RX8, "reset", "()V"⟩
abbrev cX8_copy : ByteArray := prog_10_method_3_code
def yX8_copy : MethodName := ⟨RX8, "copy", "(LTripleTrains$Tally;)V"⟩
def RX9 : String := "TripleTrains$Trades"
def TX9 : u_T := fun k => match k with
  | 0 => ("TripleTrains$Trades", "size", "I", false)
  | _ => ("TripleTrains$Trades", "masks", "[J", true)
abbrev cX9_init : ByteArray := prog_11_method_1_code
def yX9_init : MethodName := ⟨RX9, "<init>", "()V"⟩
abbrev cX9_gather : ByteArray := prog_11_method_2_code
def yX9_gather : MethodName := ⟨RX9, "gather", "(LTripleTrains$Board;LTripleTrains$Cycles;I)V"⟩
abbrev cX9_gatherAmong : ByteArray := prog_11_method_3_code
def yX9_gatherAmong : MethodName := ⟨RX9, "gatherAmong", "(LTripleTrains$Cycles;I)V"⟩
abbrev cX9_insert : ByteArray := prog_11_method_4_code
def yX9_insert : MethodName := ⟨RX9, "insert", "(J)V"⟩
abbrev cX9_maskAt : ByteArray := prog_11_method_5_code
def yX9_maskAt : MethodName := ⟨RX9, "maskAt", "(I)J"⟩
def RX10 : String := "TripleTrains$Trains"
def TX10 : u_T := fun k => match k with
  | 0 => ("TripleTrains$Trains", "size", "I", false)
  | 1 => ("TripleTrains$Trains", "nexts", "[I", true)
  | 2 => ("TripleTrains$Trains", "arrivals", "[I", true)
  | _ => ("TripleTrains$Trains", "marks", "[I", true)
abbrev cX10_init : ByteArray := prog_12_method_1_code
def yX10_init : MethodName := ⟨RX10, "<init>", "()V"⟩
abbrev cX10_gather : ByteArray := prog_12_method_2_code
def yX10_gather : MethodName := ⟨RX10, "gather", "(LTripleTrains$Board;)V"⟩
abbrev cX10_lead : ByteArray := prog_12_method_3_code
def yX10_lead : MethodName := ⟨RX10, "lead", "(I)V"⟩
abbrev cX10_rankOf : ByteArray := prog_12_method_4_code
def yX10_rankOf : MethodName := ⟨RX10, "rankOf", "(I)I"⟩
abbrev cX10_arrivalsAt : ByteArray := prog_12_method_5_code
def yX10_arrivalsAt : MethodName := ⟨RX10, "arrivalsAt", "(I)I"⟩
abbrev cX10_nextOf : ByteArray := prog_12_method_6_code
def yX10_nextOf : MethodName := ⟨RX10, "nextOf", "(I)I"⟩
abbrev cX10_markOf : ByteArray := prog_12_method_7_code
def yX10_markOf : MethodName := ⟨RX10, "markOf", "(I)I"⟩
abbrev cX10_mark : ByteArray := prog_12_method_8_code
def yX10_mark : MethodName := ⟨RX10, "mark", "(II)V"⟩
abbrev cX10_roundFrom : ByteArray := prog_12_method_9_code
def yX10_roundFrom : MethodName := ⟨RX10, "roundFrom", "(I)I"⟩
abbrev cX10_tailFrom : ByteArray := prog_12_method_10_code
def yX10_tailFrom : MethodName := ⟨RX10, "tailFrom", "(I)I"⟩
abbrev cX10_setsWithArrivals : ByteArray := prog_12_method_11_code
def yX10_setsWithArrivals : MethodName := ⟨RX10, "setsWithArrivals", "(I)I"⟩
abbrev cX10_countRounds : ByteArray := prog_12_method_12_code
def yX10_countRounds : MethodName := ⟨RX10, "countRounds", "()I"⟩
abbrev cX10_endsOnItself : ByteArray := prog_12_method_13_code
def yX10_endsOnItself : MethodName := ⟨RX10, "endsOnItself", "(II)Z"⟩
def RX11 : String := "TripleTrains"
def TX11 : u_T := fun k => match k with
  | 0 => ("TripleTrains", "text", "LTripleTrains$SetupText;", true)
  | 1 => ("TripleTrains", "board", "LTripleTrains$Board;", true)
  | 2 => ("TripleTrains", "spare", "LTripleTrains$Board;", true)
  | 3 => ("TripleTrains", "tally", "LTripleTrains$Tally;", true)
  | 4 => ("TripleTrains", "history", "LTripleTrains$History;", true)
  | 5 => ("TripleTrains", "quads", "LTripleTrains$Quads;", true)
  | 6 => ("TripleTrains", "around", "LTripleTrains$Cycles;", true)
  | 7 => ("TripleTrains", "traded", "LTripleTrains$Trades;", true)
  | 8 => ("TripleTrains", "trains", "LTripleTrains$Trains;", true)
  | 9 => ("TripleTrains", "exchange", "LTripleTrains$Exchange;", true)
  | 10 => ("TripleTrains", "output", "[B", true)
  | _ => ("TripleTrains", "outputLength", "I", false)
abbrev cX11_init : ByteArray := prog_1_method_1_code
def yX11_init : MethodName := ⟨RX11, "<init>", "()V"⟩
abbrev cX11_appendInput : ByteArray := prog_1_method_2_code
def yX11_appendInput : MethodName := ⟨RX11, "appendInput", "(IIIII)I"⟩
abbrev cX11_truncateInput : ByteArray := prog_1_method_3_code
def yX11_truncateInput : MethodName := ⟨RX11, "truncateInput", "(I)Z"⟩
abbrev cX11_loadSystem : ByteArray := prog_1_method_4_code
def yX11_loadSystem : MethodName := ⟨RX11, "loadSystem", "()I"⟩
abbrev cX11_errorCode : ByteArray := prog_1_method_5_code
def yX11_errorCode : MethodName := ⟨RX11, "errorCode", "()I"⟩
abbrev cX11_errorOffset : ByteArray := prog_1_method_6_code
def yX11_errorOffset : MethodName := ⟨RX11, "errorOffset", "()I"⟩
abbrev cX11_count : ByteArray := prog_1_method_7_code
def yX11_count : MethodName := ⟨RX11, "count", "(I)I"⟩
abbrev cX11_isComplete : ByteArray := prog_1_method_8_code
def yX11_isComplete : MethodName := ⟨RX11, "isComplete", "()Z"⟩
abbrev cX11_triple : ByteArray := prog_1_method_9_code
def yX11_triple : MethodName := ⟨RX11, "triple", "(II)I"⟩
abbrev cX11_find : ByteArray := prog_1_method_10_code
def yX11_find : MethodName := ⟨RX11, "find", "(III)I"⟩
abbrev cX11_third : ByteArray := prog_1_method_11_code
def yX11_third : MethodName := ⟨RX11, "third", "(II)I"⟩
abbrev cX11_degree : ByteArray := prog_1_method_12_code
def yX11_degree : MethodName := ⟨RX11, "degree", "(I)I"⟩
abbrev cX11_uncovered : ByteArray := prog_1_method_13_code
def yX11_uncovered : MethodName := ⟨RX11, "uncovered", "(I)I"⟩
abbrev cX11_reason : ByteArray := prog_1_method_14_code
def yX11_reason : MethodName := ⟨RX11, "reason", "(III)I"⟩
abbrev cX11_add : ByteArray := prog_1_method_15_code
def yX11_add : MethodName := ⟨RX11, "add", "(III)I"⟩
abbrev cX11_remove : ByteArray := prog_1_method_16_code
def yX11_remove : MethodName := ⟨RX11, "remove", "(I)I"⟩
abbrev cX11_develop : ByteArray := prog_1_method_17_code
def yX11_develop : MethodName := ⟨RX11, "develop", "(III)I"⟩
abbrev cX11_fill : ByteArray := prog_1_method_18_code
def yX11_fill : MethodName := ⟨RX11, "fill", "()I"⟩
abbrev cX11_completions : ByteArray := prog_1_method_19_code
def yX11_completions : MethodName := ⟨RX11, "completions", "()I"⟩
abbrev cX11_tightest : ByteArray := prog_1_method_20_code
def yX11_tightest : MethodName := ⟨RX11, "tightest", "()I"⟩
abbrev cX11_quad : ByteArray := prog_1_method_21_code
def yX11_quad : MethodName := ⟨RX11, "quad", "(II)I"⟩
abbrev cX11_opposite : ByteArray := prog_1_method_22_code
def yX11_opposite : MethodName := ⟨RX11, "opposite", "(II)I"⟩
abbrev cX11_quadsAt : ByteArray := prog_1_method_23_code
def yX11_quadsAt : MethodName := ⟨RX11, "quadsAt", "(I)I"⟩
abbrev cX11_quadsOf : ByteArray := prog_1_method_24_code
def yX11_quadsOf : MethodName := ⟨RX11, "quadsOf", "(I)I"⟩
abbrev cX11_switchQuad : ByteArray := prog_1_method_25_code
def yX11_switchQuad : MethodName := ⟨RX11, "switchQuad", "(I)I"⟩
abbrev cX11_wouldHave : ByteArray := prog_1_method_26_code
def yX11_wouldHave : MethodName := ⟨RX11, "wouldHave", "(I)I"⟩
abbrev cX11_bestSwitch : ByteArray := prog_1_method_27_code
def yX11_bestSwitch : MethodName := ⟨RX11, "bestSwitch", "(Z)I"⟩
abbrev cX11_descend : ByteArray := prog_1_method_28_code
def yX11_descend : MethodName := ⟨RX11, "descend", "(I)I"⟩
abbrev cX11_cycles : ByteArray := prog_1_method_29_code
def yX11_cycles : MethodName := ⟨RX11, "cycles", "(II)I"⟩
abbrev cX11_cycleLength : ByteArray := prog_1_method_30_code
def yX11_cycleLength : MethodName := ⟨RX11, "cycleLength", "(III)I"⟩
abbrev cX11_cyclePoint : ByteArray := prog_1_method_31_code
def yX11_cyclePoint : MethodName := ⟨RX11, "cyclePoint", "(IIII)I"⟩
abbrev cX11_switchCycle : ByteArray := prog_1_method_32_code
def yX11_switchCycle : MethodName := ⟨RX11, "switchCycle", "(III)I"⟩
abbrev cX11_wouldHaveBy : ByteArray := prog_1_method_33_code
def yX11_wouldHaveBy : MethodName := ⟨RX11, "wouldHaveBy", "(III)I"⟩
abbrev cX11_cyclesOf : ByteArray := prog_1_method_34_code
def yX11_cyclesOf : MethodName := ⟨RX11, "cyclesOf", "(I)I"⟩
abbrev cX11_trades : ByteArray := prog_1_method_35_code
def yX11_trades : MethodName := ⟨RX11, "trades", "(I)I"⟩
abbrev cX11_trade : ByteArray := prog_1_method_36_code
def yX11_trade : MethodName := ⟨RX11, "trade", "(II)J"⟩
abbrev cX11_perfectPairs : ByteArray := prog_1_method_37_code
def yX11_perfectPairs : MethodName := ⟨RX11, "perfectPairs", "()I"⟩
abbrev cX11_agrees : ByteArray := prog_1_method_38_code
def yX11_agrees : MethodName := ⟨RX11, "agrees", "()Z"⟩
abbrev cX11_train : ByteArray := prog_1_method_39_code
def yX11_train : MethodName := ⟨RX11, "train", "(III)I"⟩
abbrev cX11_trainsTo : ByteArray := prog_1_method_40_code
def yX11_trainsTo : MethodName := ⟨RX11, "trainsTo", "(III)I"⟩
abbrev cX11_tail : ByteArray := prog_1_method_41_code
def yX11_tail : MethodName := ⟨RX11, "tail", "(III)I"⟩
abbrev cX11_roundOf : ByteArray := prog_1_method_42_code
def yX11_roundOf : MethodName := ⟨RX11, "roundOf", "(III)I"⟩
abbrev cX11_trainProfile : ByteArray := prog_1_method_43_code
def yX11_trainProfile : MethodName := ⟨RX11, "trainProfile", "(I)I"⟩
abbrev cX11_rounds : ByteArray := prog_1_method_44_code
def yX11_rounds : MethodName := ⟨RX11, "rounds", "()I"⟩
abbrev cX11_isTurned : ByteArray := prog_1_method_45_code
def yX11_isTurned : MethodName := ⟨RX11, "isTurned", "(I)Z"⟩
abbrev cX11_leastTurn : ByteArray := prog_1_method_46_code
def yX11_leastTurn : MethodName := ⟨RX11, "leastTurn", "()I"⟩
abbrev cX11_orbits : ByteArray := prog_1_method_47_code
def yX11_orbits : MethodName := ⟨RX11, "orbits", "()I"⟩
abbrev cX11_turn : ByteArray := prog_1_method_48_code
def yX11_turn : MethodName := ⟨RX11, "turn", "(I)I"⟩
abbrev cX11_meanQuads : ByteArray := prog_1_method_49_code
def yX11_meanQuads : MethodName := ⟨RX11, "meanQuads", "()D"⟩
abbrev cX11_coverage : ByteArray := prog_1_method_50_code
def yX11_coverage : MethodName := ⟨RX11, "coverage", "()F"⟩
abbrev cX11_closure : ByteArray := prog_1_method_51_code
def yX11_closure : MethodName := ⟨RX11, "closure", "(I)I"⟩
abbrev cX11_subsystems : ByteArray := prog_1_method_52_code
def yX11_subsystems : MethodName := ⟨RX11, "subsystems", "()I"⟩
abbrev cX11_independent : ByteArray := prog_1_method_53_code
def yX11_independent : MethodName := ⟨RX11, "independent", "()I"⟩
abbrev cX11_apart : ByteArray := prog_1_method_54_code
def yX11_apart : MethodName := ⟨RX11, "apart", "(I)I"⟩
abbrev cX11_mostApart : ByteArray := prog_1_method_55_code
def yX11_mostApart : MethodName := ⟨RX11, "mostApart", "()I"⟩
abbrev cX11_swap : ByteArray := prog_1_method_56_code
def yX11_swap : MethodName := ⟨RX11, "swap", "(II)I"⟩
abbrev cX11_clear : ByteArray := prog_1_method_57_code
def yX11_clear : MethodName := ⟨RX11, "clear", "(I)I"⟩
abbrev cX11_inTheWay : ByteArray := prog_1_method_58_code
def yX11_inTheWay : MethodName := ⟨RX11, "inTheWay", "(III)I"⟩
abbrev cX11_force : ByteArray := prog_1_method_59_code
def yX11_force : MethodName := ⟨RX11, "force", "(III)I"⟩
abbrev cX11_printAt : ByteArray := prog_1_method_60_code
def yX11_printAt : MethodName := ⟨RX11, "printAt", "(I)I"⟩
abbrev cX11_outputByte : ByteArray := prog_1_method_61_code
def yX11_outputByte : MethodName := ⟨RX11, "outputByte", "(I)I"⟩
abbrev cX11_undo : ByteArray := prog_1_method_62_code
def yX11_undo : MethodName := ⟨RX11, "undo", "()I"⟩
abbrev cX11_saveState : ByteArray := prog_1_method_63_code
def yX11_saveState : MethodName := ⟨RX11, "saveState", "()I"⟩
abbrev cX11_restoreState : ByteArray := prog_1_method_64_code
def yX11_restoreState : MethodName := ⟨RX11, "restoreState", "()I"⟩
abbrev cX11_requirePoint : ByteArray := prog_1_method_65_code
def yX11_requirePoint : MethodName := ⟨RX11, "requirePoint", "(I)V"⟩
abbrev cX11_requireTwo : ByteArray := prog_1_method_66_code
def yX11_requireTwo : MethodName := ⟨RX11, "requireTwo", "(II)V"⟩
abbrev cX11_requireThree : ByteArray := prog_1_method_67_code
def yX11_requireThree : MethodName := ⟨RX11, "requireThree", "(III)V"⟩
abbrev cX11_requireTriple : ByteArray := prog_1_method_68_code
def yX11_requireTriple : MethodName := ⟨RX11, "requireTriple", "(I)V"⟩
abbrev cX11_requireQuad : ByteArray := prog_1_method_69_code
def yX11_requireQuad : MethodName := ⟨RX11, "requireQuad", "(I)V"⟩
abbrev cX11_requireCycle : ByteArray := prog_1_method_70_code
def yX11_requireCycle : MethodName := ⟨RX11, "requireCycle", "(III)V"⟩
abbrev cX11_requireComplete : ByteArray := prog_1_method_71_code
def yX11_requireComplete : MethodName := ⟨RX11, "requireComplete", "()V"⟩
abbrev cX11_requireTrain : ByteArray := prog_1_method_72_code
def yX11_requireTrain : MethodName := ⟨RX11, "requireTrain", "(III)V"⟩
abbrev cX11_remember : ByteArray := prog_1_method_73_code
def yX11_remember : MethodName := ⟨RX11, "remember", "()V"⟩
abbrev cX11_settle : ByteArray := prog_1_method_74_code
def yX11_settle : MethodName := ⟨RX11, "settle", "()V"⟩
abbrev cX11_exchangeQuad : ByteArray := prog_1_method_75_code
def yX11_exchangeQuad : MethodName := ⟨RX11, "exchangeQuad", "(I)V"⟩
abbrev cX11_quadsBehindSwitchOf : ByteArray := prog_1_method_76_code
def yX11_quadsBehindSwitchOf : MethodName := ⟨RX11, "quadsBehindSwitchOf", "(I)I"⟩
abbrev cX11_quadsBehindExchange : ByteArray := prog_1_method_77_code
def yX11_quadsBehindExchange : MethodName := ⟨RX11, "quadsBehindExchange", "()I"⟩
abbrev cX11_isPerfect : ByteArray := prog_1_method_78_code
def yX11_isPerfect : MethodName := ⟨RX11, "isPerfect", "(II)Z"⟩
abbrev cX11_writeTriple : ByteArray := prog_1_method_79_code
def yX11_writeTriple : MethodName := ⟨RX11, "writeTriple", "(I)V"⟩
abbrev cX11_write : ByteArray := prog_1_method_80_code
def yX11_write : MethodName := ⟨RX11, "write", "(I)V"⟩
abbrev cX11_completionsOf : ByteArray := prog_1_method_81_code
def yX11_completionsOf : MethodName := ⟨RX11, "completionsOf", "(LTripleTrains$Board;I)I"⟩
abbrev cX11_mostApartFrom : ByteArray := prog_1_method_82_code
def yX11_mostApartFrom : MethodName := ⟨RX11, "mostApartFrom", "(LTripleTrains$Board;III)I"⟩
def RX12 : String := "TripleTrainsModel"
def TX12 : u_T := fun k => match k with
  | 0 => ("TripleTrainsModel", "w", "[I", true)
  | 1 => ("TripleTrainsModel", "wKept", "[I", true)
  | 2 => ("TripleTrainsModel", "aside", "[I", true)
  | 3 => ("TripleTrainsModel", "savedRow", "[I", true)
  | 4 => ("TripleTrainsModel", "past", "[I", true)
  | 5 => ("TripleTrainsModel", "pastMany", "I", false)
  | 6 => ("TripleTrainsModel", "isSaved", "Z", false)
  | 7 => ("TripleTrainsModel", "thrown", "I", false)
  | 8 => ("TripleTrainsModel", "one", "[I", true)
  | 9 => ("TripleTrainsModel", "two", "[I", true)
  | 10 => ("TripleTrainsModel", "three", "[I", true)
  | 11 => ("TripleTrainsModel", "masks", "[I", true)
  | 12 => ("TripleTrainsModel", "many", "I", false)
  | 13 => ("TripleTrainsModel", "quads", "[I", true)
  | 14 => ("TripleTrainsModel", "quadMany", "I", false)
  | 15 => ("TripleTrainsModel", "replaced", "[I", true)
  | 16 => ("TripleTrainsModel", "row", "[I", true)
  | 17 => ("TripleTrainsModel", "rowMany", "I", false)
  | 18 => ("TripleTrainsModel", "trades", "[J", true)
  | 19 => ("TripleTrainsModel", "tradeMany", "I", false)
  | 20 => ("TripleTrainsModel", "input", "[I", true)
  | 21 => ("TripleTrainsModel", "inputMany", "I", false)
  | 22 => ("TripleTrainsModel", "lastError", "I", false)
  | 23 => ("TripleTrainsModel", "lastOffset", "I", false)
  | 24 => ("TripleTrainsModel", "error", "I", false)
  | 25 => ("TripleTrainsModel", "offset", "I", false)
  | 26 => ("TripleTrainsModel", "nextByte", "I", false)
  | 27 => ("TripleTrainsModel", "begin", "I", false)
  | 28 => ("TripleTrainsModel", "value", "I", false)
  | 29 => ("TripleTrainsModel", "token", "I", false)
  | 30 => ("TripleTrainsModel", "read", "[I", true)
  | 31 => ("TripleTrainsModel", "output", "[I", true)
  | _ => ("TripleTrainsModel", "outputMany", "I", false)
abbrev cX12_init : ByteArray := prog_14_method_1_code
def yX12_init : MethodName := ⟨RX12, "<init>", "()V"⟩
abbrev cX12_thrown : ByteArray := prog_14_method_2_code
def yX12_thrown : MethodName := ⟨RX12, "thrown", "()I"⟩
abbrev cX12_inRange : ByteArray := prog_14_method_3_code
def yX12_inRange : MethodName := ⟨RX12, "inRange", "(III)Z"⟩
abbrev cX12_fails : ByteArray := prog_14_method_4_code
def yX12_fails : MethodName := ⟨RX12, "fails", "(ZI)Z"⟩
abbrev cX12_copies : ByteArray := prog_14_method_5_code
def yX12_copies : MethodName := ⟨RX12, "copies", "([II[III)V"⟩
abbrev cX12_empties : ByteArray := prog_14_method_6_code
def yX12_empties : MethodName := ⟨RX12, "empties", "(I)V"⟩
abbrev cX12_remembers : ByteArray := prog_14_method_7_code
def yX12_remembers : MethodName := ⟨RX12, "remembers", "()V"⟩
abbrev cX12_begins : ByteArray := prog_14_method_8_code
def yX12_begins : MethodName := ⟨RX12, "begins", "()V"⟩
abbrev cX12_ends : ByteArray := prog_14_method_9_code
def yX12_ends : MethodName := ⟨RX12, "ends", "()V"⟩
abbrev cX12_points : ByteArray := prog_14_method_10_code
def yX12_points : MethodName := ⟨RX12, "points", "()I"⟩
abbrev cX12_thirdOf : ByteArray := prog_14_method_11_code
def yX12_thirdOf : MethodName := ⟨RX12, "thirdOf", "(II)I"⟩
abbrev cX12_lays : ByteArray := prog_14_method_12_code
def yX12_lays : MethodName := ⟨RX12, "lays", "(III)V"⟩
abbrev cX12_puts : ByteArray := prog_14_method_13_code
def yX12_puts : MethodName := ⟨RX12, "puts", "(III)V"⟩
abbrev cX12_takes : ByteArray := prog_14_method_14_code
def yX12_takes : MethodName := ⟨RX12, "takes", "(III)V"⟩
abbrev cX12_coveredOf : ByteArray := prog_14_method_15_code
def yX12_coveredOf : MethodName := ⟨RX12, "coveredOf", "(II)I"⟩
abbrev cX12_coveredIn : ByteArray := prog_14_method_16_code
def yX12_coveredIn : MethodName := ⟨RX12, "coveredIn", "(III)I"⟩
abbrev cX12_isFree : ByteArray := prog_14_method_17_code
def yX12_isFree : MethodName := ⟨RX12, "isFree", "(III)Z"⟩
abbrev cX12_laysTriples : ByteArray := prog_14_method_18_code
def yX12_laysTriples : MethodName := ⟨RX12, "laysTriples", "()V"⟩
abbrev cX12_numberOf : ByteArray := prog_14_method_19_code
def yX12_numberOf : MethodName := ⟨RX12, "numberOf", "(I)I"⟩
abbrev cX12_triplesMany : ByteArray := prog_14_method_20_code
def yX12_triplesMany : MethodName := ⟨RX12, "triplesMany", "()I"⟩
abbrev cX12_pairsMany : ByteArray := prog_14_method_21_code
def yX12_pairsMany : MethodName := ⟨RX12, "pairsMany", "()I"⟩
abbrev cX12_uncoveredMany : ByteArray := prog_14_method_22_code
def yX12_uncoveredMany : MethodName := ⟨RX12, "uncoveredMany", "()I"⟩
abbrev cX12_laysQuads : ByteArray := prog_14_method_23_code
def yX12_laysQuads : MethodName := ⟨RX12, "laysQuads", "()V"⟩
abbrev cX12_addsQuad : ByteArray := prog_14_method_24_code
def yX12_addsQuad : MethodName := ⟨RX12, "addsQuad", "(IIII)V"⟩
abbrev cX12_quadPoints : ByteArray := prog_14_method_25_code
def yX12_quadPoints : MethodName := ⟨RX12, "quadPoints", "(I)I"⟩
abbrev cX12_oppositeOf : ByteArray := prog_14_method_26_code
def yX12_oppositeOf : MethodName := ⟨RX12, "oppositeOf", "(II)I"⟩
abbrev cX12_switchesQuad : ByteArray := prog_14_method_27_code
def yX12_switchesQuad : MethodName := ⟨RX12, "switchesQuad", "(I)V"⟩
abbrev cX12_isTriple : ByteArray := prog_14_method_28_code
def yX12_isTriple : MethodName := ⟨RX12, "isTriple", "(I)Z"⟩
abbrev cX12_quadsCounted : ByteArray := prog_14_method_29_code
def yX12_quadsCounted : MethodName := ⟨RX12, "quadsCounted", "()I"⟩
abbrev cX12_quadsBehind : ByteArray := prog_14_method_30_code
def yX12_quadsBehind : MethodName := ⟨RX12, "quadsBehind", "(I)I"⟩
abbrev cX12_bestQuad : ByteArray := prog_14_method_31_code
def yX12_bestQuad : MethodName := ⟨RX12, "bestQuad", "(Z)I"⟩
abbrev cX12_walks : ByteArray := prog_14_method_32_code
def yX12_walks : MethodName := ⟨RX12, "walks", "(III)Z"⟩
abbrev cX12_isCycleFrom : ByteArray := prog_14_method_33_code
def yX12_isCycleFrom : MethodName := ⟨RX12, "isCycleFrom", "(III)Z"⟩
abbrev cX12_cyclesMany : ByteArray := prog_14_method_34_code
def yX12_cyclesMany : MethodName := ⟨RX12, "cyclesMany", "(II)I"⟩
abbrev cX12_laysCycle : ByteArray := prog_14_method_35_code
def yX12_laysCycle : MethodName := ⟨RX12, "laysCycle", "(III)Z"⟩
abbrev cX12_replacedBy : ByteArray := prog_14_method_36_code
def yX12_replacedBy : MethodName := ⟨RX12, "replacedBy", "(II)J"⟩
abbrev cX12_switchesCycle : ByteArray := prog_14_method_37_code
def yX12_switchesCycle : MethodName := ⟨RX12, "switchesCycle", "(II)V"⟩
abbrev cX12_addsTrade : ByteArray := prog_14_method_38_code
def yX12_addsTrade : MethodName := ⟨RX12, "addsTrade", "(J)V"⟩
abbrev cX12_laysTrades : ByteArray := prog_14_method_39_code
def yX12_laysTrades : MethodName := ⟨RX12, "laysTrades", "(I)V"⟩
abbrev cX12_turned : ByteArray := prog_14_method_40_code
def yX12_turned : MethodName := ⟨RX12, "turned", "(II)I"⟩
abbrev cX12_by : ByteArray := prog_14_method_41_code
def yX12_by : MethodName := ⟨RX12, "by", "(I)I"⟩
abbrev cX12_isTurnedBy : ByteArray := prog_14_method_42_code
def yX12_isTurnedBy : MethodName := ⟨RX12, "isTurnedBy", "(I)Z"⟩
abbrev cX12_leastOf : ByteArray := prog_14_method_43_code
def yX12_leastOf : MethodName := ⟨RX12, "leastOf", "()I"⟩
abbrev cX12_develops : ByteArray := prog_14_method_44_code
def yX12_develops : MethodName := ⟨RX12, "develops", "(III)I"⟩
abbrev cX12_appendWord : ByteArray := prog_14_method_45_code
def yX12_appendWord : MethodName := ⟨RX12, "appendWord", "(I)V"⟩
abbrev cX12_appendInput : ByteArray := prog_14_method_46_code
def yX12_appendInput : MethodName := ⟨RX12, "appendInput", "(IIIII)I"⟩
abbrev cX12_truncateInput : ByteArray := prog_14_method_47_code
def yX12_truncateInput : MethodName := ⟨RX12, "truncateInput", "(I)Z"⟩
abbrev cX12_byteAt : ByteArray := prog_14_method_48_code
def yX12_byteAt : MethodName := ⟨RX12, "byteAt", "(I)I"⟩
abbrev cX12_advanceToken : ByteArray := prog_14_method_49_code
def yX12_advanceToken : MethodName := ⟨RX12, "advanceToken", "()V"⟩
abbrev cX12_tokenLength : ByteArray := prog_14_method_50_code
def yX12_tokenLength : MethodName := ⟨RX12, "tokenLength", "()I"⟩
abbrev cX12_failsAt : ByteArray := prog_14_method_51_code
def yX12_failsAt : MethodName := ⟨RX12, "failsAt", "(I)Z"⟩
abbrev cX12_isWord : ByteArray := prog_14_method_52_code
def yX12_isWord : MethodName := ⟨RX12, "isWord", "(Ljava/lang/String;)Z"⟩
abbrev cX12_takesPoint : ByteArray := prog_14_method_53_code
def yX12_takesPoint : MethodName := ⟨RX12, "takesPoint", "(III)Z"⟩
abbrev cX12_readTriple : ByteArray := prog_14_method_54_code
def yX12_readTriple : MethodName := ⟨RX12, "readTriple", "(Z)Z"⟩
abbrev cX12_readPoints : ByteArray := prog_14_method_55_code
def yX12_readPoints : MethodName := ⟨RX12, "readPoints", "()Z"⟩
abbrev cX12_readStatement : ByteArray := prog_14_method_56_code
def yX12_readStatement : MethodName := ⟨RX12, "readStatement", "()Z"⟩
abbrev cX12_readText : ByteArray := prog_14_method_57_code
def yX12_readText : MethodName := ⟨RX12, "readText", "()Z"⟩
abbrev cX12_loadSystem : ByteArray := prog_14_method_58_code
def yX12_loadSystem : MethodName := ⟨RX12, "loadSystem", "()I"⟩
abbrev cX12_errorCode : ByteArray := prog_14_method_59_code
def yX12_errorCode : MethodName := ⟨RX12, "errorCode", "()I"⟩
abbrev cX12_errorOffset : ByteArray := prog_14_method_60_code
def yX12_errorOffset : MethodName := ⟨RX12, "errorOffset", "()I"⟩
abbrev cX12_noPoint : ByteArray := prog_14_method_61_code
def yX12_noPoint : MethodName := ⟨RX12, "noPoint", "(I)Z"⟩
abbrev cX12_noPair : ByteArray := prog_14_method_62_code
def yX12_noPair : MethodName := ⟨RX12, "noPair", "(II)Z"⟩
abbrev cX12_noSet : ByteArray := prog_14_method_63_code
def yX12_noSet : MethodName := ⟨RX12, "noSet", "(III)Z"⟩
abbrev cX12_noTriple : ByteArray := prog_14_method_64_code
def yX12_noTriple : MethodName := ⟨RX12, "noTriple", "(I)Z"⟩
abbrev cX12_noQuad : ByteArray := prog_14_method_65_code
def yX12_noQuad : MethodName := ⟨RX12, "noQuad", "(I)Z"⟩
abbrev cX12_noCycle : ByteArray := prog_14_method_66_code
def yX12_noCycle : MethodName := ⟨RX12, "noCycle", "(III)Z"⟩
abbrev cX12_count : ByteArray := prog_14_method_67_code
def yX12_count : MethodName := ⟨RX12, "count", "(I)I"⟩
abbrev cX12_quadsNow : ByteArray := prog_14_method_68_code
def yX12_quadsNow : MethodName := ⟨RX12, "quadsNow", "()I"⟩
abbrev cX12_isWhole : ByteArray := prog_14_method_69_code
def yX12_isWhole : MethodName := ⟨RX12, "isWhole", "()Z"⟩
abbrev cX12_isComplete : ByteArray := prog_14_method_70_code
def yX12_isComplete : MethodName := ⟨RX12, "isComplete", "()Z"⟩
abbrev cX12_triple : ByteArray := prog_14_method_71_code
def yX12_triple : MethodName := ⟨RX12, "triple", "(II)I"⟩
abbrev cX12_find : ByteArray := prog_14_method_72_code
def yX12_find : MethodName := ⟨RX12, "find", "(III)I"⟩
abbrev cX12_third : ByteArray := prog_14_method_73_code
def yX12_third : MethodName := ⟨RX12, "third", "(II)I"⟩
abbrev cX12_degree : ByteArray := prog_14_method_74_code
def yX12_degree : MethodName := ⟨RX12, "degree", "(I)I"⟩
abbrev cX12_uncovered : ByteArray := prog_14_method_75_code
def yX12_uncovered : MethodName := ⟨RX12, "uncovered", "(I)I"⟩
abbrev cX12_reasonOf : ByteArray := prog_14_method_76_code
def yX12_reasonOf : MethodName := ⟨RX12, "reasonOf", "(III)I"⟩
abbrev cX12_reason : ByteArray := prog_14_method_77_code
def yX12_reason : MethodName := ⟨RX12, "reason", "(III)I"⟩
abbrev cX12_inTheWay : ByteArray := prog_14_method_78_code
def yX12_inTheWay : MethodName := ⟨RX12, "inTheWay", "(III)I"⟩
abbrev cX12_add : ByteArray := prog_14_method_79_code
def yX12_add : MethodName := ⟨RX12, "add", "(III)I"⟩
abbrev cX12_remove : ByteArray := prog_14_method_80_code
def yX12_remove : MethodName := ⟨RX12, "remove", "(I)I"⟩
abbrev cX12_develop : ByteArray := prog_14_method_81_code
def yX12_develop : MethodName := ⟨RX12, "develop", "(III)I"⟩
abbrev cX12_fill : ByteArray := prog_14_method_82_code
def yX12_fill : MethodName := ⟨RX12, "fill", "()I"⟩
abbrev cX12_force : ByteArray := prog_14_method_83_code
def yX12_force : MethodName := ⟨RX12, "force", "(III)I"⟩
abbrev cX12_removes : ByteArray := prog_14_method_84_code
def yX12_removes : MethodName := ⟨RX12, "removes", "(II)I"⟩
abbrev cX12_clear : ByteArray := prog_14_method_85_code
def yX12_clear : MethodName := ⟨RX12, "clear", "(I)I"⟩
abbrev cX12_swap : ByteArray := prog_14_method_86_code
def yX12_swap : MethodName := ⟨RX12, "swap", "(II)I"⟩
abbrev cX12_swapped : ByteArray := prog_14_method_87_code
def yX12_swapped : MethodName := ⟨RX12, "swapped", "(III)I"⟩
abbrev cX12_turn : ByteArray := prog_14_method_88_code
def yX12_turn : MethodName := ⟨RX12, "turn", "(I)I"⟩
abbrev cX12_waysOf : ByteArray := prog_14_method_89_code
def yX12_waysOf : MethodName := ⟨RX12, "waysOf", "(II)I"⟩
abbrev cX12_tightestPair : ByteArray := prog_14_method_90_code
def yX12_tightestPair : MethodName := ⟨RX12, "tightestPair", "()I"⟩
abbrev cX12_completionsFrom : ByteArray := prog_14_method_91_code
def yX12_completionsFrom : MethodName := ⟨RX12, "completionsFrom", "()I"⟩
abbrev cX12_completions : ByteArray := prog_14_method_92_code
def yX12_completions : MethodName := ⟨RX12, "completions", "()I"⟩
abbrev cX12_tightest : ByteArray := prog_14_method_93_code
def yX12_tightest : MethodName := ⟨RX12, "tightest", "()I"⟩
abbrev cX12_bitAt : ByteArray := prog_14_method_94_code
def yX12_bitAt : MethodName := ⟨RX12, "bitAt", "(II)I"⟩
abbrev cX12_quad : ByteArray := prog_14_method_95_code
def yX12_quad : MethodName := ⟨RX12, "quad", "(II)I"⟩
abbrev cX12_opposite : ByteArray := prog_14_method_96_code
def yX12_opposite : MethodName := ⟨RX12, "opposite", "(II)I"⟩
abbrev cX12_quadsAt : ByteArray := prog_14_method_97_code
def yX12_quadsAt : MethodName := ⟨RX12, "quadsAt", "(I)I"⟩
abbrev cX12_quadsOf : ByteArray := prog_14_method_98_code
def yX12_quadsOf : MethodName := ⟨RX12, "quadsOf", "(I)I"⟩
abbrev cX12_switchQuad : ByteArray := prog_14_method_99_code
def yX12_switchQuad : MethodName := ⟨RX12, "switchQuad", "(I)I"⟩
abbrev cX12_wouldHave : ByteArray := prog_14_method_100_code
def yX12_wouldHave : MethodName := ⟨RX12, "wouldHave", "(I)I"⟩
abbrev cX12_bestSwitch : ByteArray := prog_14_method_101_code
def yX12_bestSwitch : MethodName := ⟨RX12, "bestSwitch", "(Z)I"⟩
abbrev cX12_descend : ByteArray := prog_14_method_102_code
def yX12_descend : MethodName := ⟨RX12, "descend", "(I)I"⟩
abbrev cX12_meanQuads : ByteArray := prog_14_method_103_code
def yX12_meanQuads : MethodName := ⟨RX12, "meanQuads", "()D"⟩
abbrev cX12_cycles : ByteArray := prog_14_method_104_code
def yX12_cycles : MethodName := ⟨RX12, "cycles", "(II)I"⟩
abbrev cX12_cycleLength : ByteArray := prog_14_method_105_code
def yX12_cycleLength : MethodName := ⟨RX12, "cycleLength", "(III)I"⟩
abbrev cX12_cyclePoint : ByteArray := prog_14_method_106_code
def yX12_cyclePoint : MethodName := ⟨RX12, "cyclePoint", "(IIII)I"⟩
abbrev cX12_switchCycle : ByteArray := prog_14_method_107_code
def yX12_switchCycle : MethodName := ⟨RX12, "switchCycle", "(III)I"⟩
abbrev cX12_wouldHaveBy : ByteArray := prog_14_method_108_code
def yX12_wouldHaveBy : MethodName := ⟨RX12, "wouldHaveBy", "(III)I"⟩
abbrev cX12_cyclesOf : ByteArray := prog_14_method_109_code
def yX12_cyclesOf : MethodName := ⟨RX12, "cyclesOf", "(I)I"⟩
abbrev cX12_trades : ByteArray := prog_14_method_110_code
def yX12_trades : MethodName := ⟨RX12, "trades", "(I)I"⟩
abbrev cX12_trade : ByteArray := prog_14_method_111_code
def yX12_trade : MethodName := ⟨RX12, "trade", "(II)J"⟩
abbrev cX12_isPerfect : ByteArray := prog_14_method_112_code
def yX12_isPerfect : MethodName := ⟨RX12, "isPerfect", "(II)Z"⟩
abbrev cX12_perfectPairs : ByteArray := prog_14_method_113_code
def yX12_perfectPairs : MethodName := ⟨RX12, "perfectPairs", "()I"⟩
abbrev cX12_quadSet : ByteArray := prog_14_method_114_code
def yX12_quadSet : MethodName := ⟨RX12, "quadSet", "(I)J"⟩
abbrev cX12_agrees : ByteArray := prog_14_method_115_code
def yX12_agrees : MethodName := ⟨RX12, "agrees", "()Z"⟩
abbrev cX12_noTrain : ByteArray := prog_14_method_116_code
def yX12_noTrain : MethodName := ⟨RX12, "noTrain", "(III)Z"⟩
abbrev cX12_codeOf : ByteArray := prog_14_method_117_code
def yX12_codeOf : MethodName := ⟨RX12, "codeOf", "(III)I"⟩
abbrev cX12_next : ByteArray := prog_14_method_118_code
def yX12_next : MethodName := ⟨RX12, "next", "(I)I"⟩
abbrev cX12_leadTo : ByteArray := prog_14_method_119_code
def yX12_leadTo : MethodName := ⟨RX12, "leadTo", "(I)I"⟩
abbrev cX12_roundFrom : ByteArray := prog_14_method_120_code
def yX12_roundFrom : MethodName := ⟨RX12, "roundFrom", "(I)I"⟩
abbrev cX12_train : ByteArray := prog_14_method_121_code
def yX12_train : MethodName := ⟨RX12, "train", "(III)I"⟩
abbrev cX12_trainsTo : ByteArray := prog_14_method_122_code
def yX12_trainsTo : MethodName := ⟨RX12, "trainsTo", "(III)I"⟩
abbrev cX12_tail : ByteArray := prog_14_method_123_code
def yX12_tail : MethodName := ⟨RX12, "tail", "(III)I"⟩
abbrev cX12_roundOf : ByteArray := prog_14_method_124_code
def yX12_roundOf : MethodName := ⟨RX12, "roundOf", "(III)I"⟩
abbrev cX12_trainProfile : ByteArray := prog_14_method_125_code
def yX12_trainProfile : MethodName := ⟨RX12, "trainProfile", "(I)I"⟩
abbrev cX12_beginsRound : ByteArray := prog_14_method_126_code
def yX12_beginsRound : MethodName := ⟨RX12, "beginsRound", "(I)Z"⟩
abbrev cX12_rounds : ByteArray := prog_14_method_127_code
def yX12_rounds : MethodName := ⟨RX12, "rounds", "()I"⟩
abbrev cX12_isTurned : ByteArray := prog_14_method_128_code
def yX12_isTurned : MethodName := ⟨RX12, "isTurned", "(I)Z"⟩
abbrev cX12_leastTurn : ByteArray := prog_14_method_129_code
def yX12_leastTurn : MethodName := ⟨RX12, "leastTurn", "()I"⟩
abbrev cX12_orbits : ByteArray := prog_14_method_130_code
def yX12_orbits : MethodName := ⟨RX12, "orbits", "()I"⟩
abbrev cX12_isLeastOfOrbit : ByteArray := prog_14_method_131_code
def yX12_isLeastOfOrbit : MethodName := ⟨RX12, "isLeastOfOrbit", "(II)Z"⟩
abbrev cX12_coverage : ByteArray := prog_14_method_132_code
def yX12_coverage : MethodName := ⟨RX12, "coverage", "()F"⟩
abbrev cX12_closed : ByteArray := prog_14_method_133_code
def yX12_closed : MethodName := ⟨RX12, "closed", "(I)I"⟩
abbrev cX12_closure : ByteArray := prog_14_method_134_code
def yX12_closure : MethodName := ⟨RX12, "closure", "(I)I"⟩
abbrev cX12_isClosed : ByteArray := prog_14_method_135_code
def yX12_isClosed : MethodName := ⟨RX12, "isClosed", "(I)Z"⟩
abbrev cX12_subsystems : ByteArray := prog_14_method_136_code
def yX12_subsystems : MethodName := ⟨RX12, "subsystems", "()I"⟩
abbrev cX12_holdsNone : ByteArray := prog_14_method_137_code
def yX12_holdsNone : MethodName := ⟨RX12, "holdsNone", "(I)Z"⟩
abbrev cX12_independent : ByteArray := prog_14_method_138_code
def yX12_independent : MethodName := ⟨RX12, "independent", "()I"⟩
abbrev cX12_apart : ByteArray := prog_14_method_139_code
def yX12_apart : MethodName := ⟨RX12, "apart", "(I)I"⟩
abbrev cX12_mostFrom : ByteArray := prog_14_method_140_code
def yX12_mostFrom : MethodName := ⟨RX12, "mostFrom", "(II)I"⟩
abbrev cX12_mostApart : ByteArray := prog_14_method_141_code
def yX12_mostApart : MethodName := ⟨RX12, "mostApart", "()I"⟩
abbrev cX12_write : ByteArray := prog_14_method_142_code
def yX12_write : MethodName := ⟨RX12, "write", "(I)V"⟩
abbrev cX12_writePoint : ByteArray := prog_14_method_143_code
def yX12_writePoint : MethodName := ⟨RX12, "writePoint", "(I)V"⟩
abbrev cX12_printAt : ByteArray := prog_14_method_144_code
def yX12_printAt : MethodName := ⟨RX12, "printAt", "(I)I"⟩
abbrev cX12_outputByte : ByteArray := prog_14_method_145_code
def yX12_outputByte : MethodName := ⟨RX12, "outputByte", "(I)I"⟩
abbrev cX12_undo : ByteArray := prog_14_method_146_code
def yX12_undo : MethodName := ⟨RX12, "undo", "()I"⟩
abbrev cX12_saveState : ByteArray := prog_14_method_147_code
def yX12_saveState : MethodName := ⟨RX12, "saveState", "()I"⟩
abbrev cX12_restoreState : ByteArray := prog_14_method_148_code
def yX12_restoreState : MethodName := ⟨RX12, "restoreState", "()I"⟩
def RJ6 : String := "java/lang/Integer"
abbrev cJ6_numberOfTrailingZeros_0f7a4 : ByteArray := prog_22_method_48_code
def yJ6_numberOfTrailingZeros_0f7a4 : MethodName := ⟨RJ6, "numberOfTrailingZeros", "(I)I"⟩
abbrev cJ6_bitCount_0f7a4 : ByteArray := prog_22_method_49_code
def yJ6_bitCount_0f7a4 : MethodName := ⟨RJ6, "bitCount", "(I)I"⟩
def RJ13 : String := "java/lang/Long"
abbrev cJ13_bitCount_95d88 : ByteArray := prog_23_method_50_code
def yJ13_bitCount_95d88 : MethodName := ⟨RJ13, "bitCount", "(J)I"⟩
def RJ9 : String := "java/lang/Math"
abbrev cJ9_floorMod_7cf53 : ByteArray := prog_24_method_50_code
def yJ9_floorMod_7cf53 : MethodName := ⟨RJ9, "floorMod", "(II)I"⟩
abbrev cJ9_max_7cf53 : ByteArray := prog_24_method_65_code
def yJ9_max_7cf53 : MethodName := ⟨RJ9, "max", "(II)I"⟩
abbrev cJ9_min_7cf53 : ByteArray := prog_24_method_69_code
def yJ9_min_7cf53 : MethodName := ⟨RJ9, "min", "(II)I"⟩
def RJ0 : String := "java/lang/String"
abbrev cJ0_length_8abf5 : ByteArray := prog_26_method_54_code
def yJ0_length_8abf5 : MethodName := ⟨RJ0, "length", "()I"⟩
abbrev cJ0_charAt_5068e : ByteArray := prog_26_method_56_code
def yJ0_charAt_5068e : MethodName := ⟨RJ0, "charAt", "(I)C"⟩
abbrev cJ0_coder_7d493 : ByteArray := prog_26_method_152_code
def yJ0_coder_7d493 : MethodName := ⟨RJ0, "coder", "()B"⟩
abbrev cJ0_isLatin1_aae02 : ByteArray := prog_26_method_154_code
def yJ0_isLatin1_aae02 : MethodName := ⟨RJ0, "isLatin1", "()Z"⟩
abbrev cJ0_checkIndex_df160 : ByteArray := prog_26_method_155_code
def yJ0_checkIndex_df160 : MethodName := ⟨RJ0, "checkIndex", "(II)V"⟩
def RJ1 : String := "java/lang/StringLatin1"
abbrev cJ1_charAt_3b067 : ByteArray := prog_27_method_2_code
def yJ1_charAt_3b067 : MethodName := ⟨RJ1, "charAt", "([BI)C"⟩
def RJ3 : String := "jdk/internal/util/Preconditions"
abbrev cJ3_checkIndex_8e157 : ByteArray := prog_34_method_11_code
def yJ3_checkIndex_8e157 : MethodName := ⟨RJ3, "checkIndex", "(IILjava/util/function/BiFunction;)I"⟩
def RL : String := "TripleTrainsLaw"
abbrev cL_count : ByteArray := method_3_code
def yL_count : MethodName := ⟨RL, "count", "(LTripleTrains;I[J)I"⟩
abbrev cL_triple : ByteArray := method_4_code
def yL_triple : MethodName := ⟨RL, "triple", "(LTripleTrains;II[J)I"⟩
abbrev cL_find : ByteArray := method_5_code
def yL_find : MethodName := ⟨RL, "find", "(LTripleTrains;III[J)I"⟩
abbrev cL_third : ByteArray := method_6_code
def yL_third : MethodName := ⟨RL, "third", "(LTripleTrains;II[J)I"⟩
abbrev cL_degree : ByteArray := method_7_code
def yL_degree : MethodName := ⟨RL, "degree", "(LTripleTrains;I[J)I"⟩
abbrev cL_uncovered : ByteArray := method_8_code
def yL_uncovered : MethodName := ⟨RL, "uncovered", "(LTripleTrains;I[J)I"⟩
abbrev cL_reason : ByteArray := method_9_code
def yL_reason : MethodName := ⟨RL, "reason", "(LTripleTrains;III[J)I"⟩
abbrev cL_add : ByteArray := method_10_code
def yL_add : MethodName := ⟨RL, "add", "(LTripleTrains;III[J)I"⟩
abbrev cL_remove : ByteArray := method_11_code
def yL_remove : MethodName := ⟨RL, "remove", "(LTripleTrains;I[J)I"⟩
abbrev cL_develop : ByteArray := method_12_code
def yL_develop : MethodName := ⟨RL, "develop", "(LTripleTrains;III[J)I"⟩
abbrev cL_quad : ByteArray := method_13_code
def yL_quad : MethodName := ⟨RL, "quad", "(LTripleTrains;II[J)I"⟩
abbrev cL_opposite : ByteArray := method_14_code
def yL_opposite : MethodName := ⟨RL, "opposite", "(LTripleTrains;II[J)I"⟩
abbrev cL_quadsAt : ByteArray := method_15_code
def yL_quadsAt : MethodName := ⟨RL, "quadsAt", "(LTripleTrains;I[J)I"⟩
abbrev cL_quadsOf : ByteArray := method_16_code
def yL_quadsOf : MethodName := ⟨RL, "quadsOf", "(LTripleTrains;I[J)I"⟩
abbrev cL_switchQuad : ByteArray := method_17_code
def yL_switchQuad : MethodName := ⟨RL, "switchQuad", "(LTripleTrains;I[J)I"⟩
abbrev cL_wouldHave : ByteArray := method_18_code
def yL_wouldHave : MethodName := ⟨RL, "wouldHave", "(LTripleTrains;I[J)I"⟩
abbrev cL_descend : ByteArray := method_19_code
def yL_descend : MethodName := ⟨RL, "descend", "(LTripleTrains;I[J)I"⟩
abbrev cL_cycles : ByteArray := method_20_code
def yL_cycles : MethodName := ⟨RL, "cycles", "(LTripleTrains;II[J)I"⟩
abbrev cL_cycleLength : ByteArray := method_21_code
def yL_cycleLength : MethodName := ⟨RL, "cycleLength", "(LTripleTrains;III[J)I"⟩
abbrev cL_cyclePoint : ByteArray := method_22_code
def yL_cyclePoint : MethodName := ⟨RL, "cyclePoint", "(LTripleTrains;IIII[J)I"⟩
abbrev cL_switchCycle : ByteArray := method_23_code
def yL_switchCycle : MethodName := ⟨RL, "switchCycle", "(LTripleTrains;III[J)I"⟩
abbrev cL_wouldHaveBy : ByteArray := method_24_code
def yL_wouldHaveBy : MethodName := ⟨RL, "wouldHaveBy", "(LTripleTrains;III[J)I"⟩
abbrev cL_trade : ByteArray := method_25_code
def yL_trade : MethodName := ⟨RL, "trade", "(LTripleTrains;II[J)I"⟩
abbrev cL_train : ByteArray := method_26_code
def yL_train : MethodName := ⟨RL, "train", "(LTripleTrains;III[J)I"⟩
abbrev cL_trainsTo : ByteArray := method_27_code
def yL_trainsTo : MethodName := ⟨RL, "trainsTo", "(LTripleTrains;III[J)I"⟩
abbrev cL_tail : ByteArray := method_28_code
def yL_tail : MethodName := ⟨RL, "tail", "(LTripleTrains;III[J)I"⟩
abbrev cL_roundOf : ByteArray := method_29_code
def yL_roundOf : MethodName := ⟨RL, "roundOf", "(LTripleTrains;III[J)I"⟩
abbrev cL_trainProfile : ByteArray := method_30_code
def yL_trainProfile : MethodName := ⟨RL, "trainProfile", "(LTripleTrains;I[J)I"⟩
abbrev cL_rounds : ByteArray := method_31_code
def yL_rounds : MethodName := ⟨RL, "rounds", "(LTripleTrains;[J)I"⟩
abbrev cL_closure : ByteArray := method_32_code
def yL_closure : MethodName := ⟨RL, "closure", "(LTripleTrains;I[J)I"⟩
abbrev cL_apart : ByteArray := method_33_code
def yL_apart : MethodName := ⟨RL, "apart", "(LTripleTrains;I[J)I"⟩
abbrev cL_swap : ByteArray := method_34_code
def yL_swap : MethodName := ⟨RL, "swap", "(LTripleTrains;II[J)I"⟩
abbrev cL_clear : ByteArray := method_35_code
def yL_clear : MethodName := ⟨RL, "clear", "(LTripleTrains;I[J)I"⟩
abbrev cL_inTheWay : ByteArray := method_36_code
def yL_inTheWay : MethodName := ⟨RL, "inTheWay", "(LTripleTrains;III[J)I"⟩
abbrev cL_force : ByteArray := method_37_code
def yL_force : MethodName := ⟨RL, "force", "(LTripleTrains;III[J)I"⟩
abbrev cL_printAt : ByteArray := method_38_code
def yL_printAt : MethodName := ⟨RL, "printAt", "(LTripleTrains;I[J)I"⟩
abbrev cL_restoreState : ByteArray := method_39_code
def yL_restoreState : MethodName := ⟨RL, "restoreState", "(LTripleTrains;[J)I"⟩
abbrev cL_law : ByteArray := code
def yL_law : MethodName := ⟨RL, "law", "([I)Z"⟩
abbrev vwCl : List vw_C := [(RX0, TX0, 6), (RX1, TX1, 6), (RX2, TX2, 4), (RX3, TX3, 4), (RX4, TX4, 3), (RX6, TX6, 8), (RX7, TX7, 4), (RX8, TX8, 3), (RX9, TX9, 2), (RX10, TX10, 4), (RX11, TX11, 12), (RX12, TX12, 33)]
