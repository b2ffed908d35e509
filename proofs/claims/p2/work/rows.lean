section
-- ===== PART A: goes FIRST, ahead of the names: the tables' words, and 'selects' of the private methods out of them =====
/-- a private method of a class that the tables say can be made, by its rows of tables_1 -/
def lw_okq (q : MethodName × Nat) : Prop := (q.1.cls ≠ "java/lang/invoke/MethodHandle" ∧ q.1.cls ≠ "java/lang/invoke/VarHandle") ∧ Cond.instantiable q.1.cls q.2 ∈ tables_1 ∧ Cond.privateMethod q.1 ∈ tables_1 ∧ Cond.instanceMethod q.1 ∈ tables_1
theorem lw_p0 : lw_okq (⟨"TripleTrains$SetupText", "advance", "()V"⟩, 8) := ⟨⟨by decide +kernel, by decide +kernel⟩, List.mem_of_getElem? (i := 38) (by decide +kernel), List.mem_of_getElem? (i := 343) (by decide +kernel), List.mem_of_getElem? (i := 344) (by decide +kernel)⟩
theorem lw_p1 : lw_okq (⟨"TripleTrains$SetupText", "byteAt", "(I)I"⟩, 8) := ⟨⟨by decide +kernel, by decide +kernel⟩, List.mem_of_getElem? (i := 38) (by decide +kernel), List.mem_of_getElem? (i := 347) (by decide +kernel), List.mem_of_getElem? (i := 348) (by decide +kernel)⟩
theorem lw_p2 : lw_okq (⟨"TripleTrains$SetupText", "readWord", "()V"⟩, 8) := ⟨⟨by decide +kernel, by decide +kernel⟩, List.mem_of_getElem? (i := 38) (by decide +kernel), List.mem_of_getElem? (i := 354) (by decide +kernel), List.mem_of_getElem? (i := 355) (by decide +kernel)⟩
theorem lw_p3 : lw_okq (⟨"TripleTrains$SetupText", "readNumber", "()V"⟩, 8) := ⟨⟨by decide +kernel, by decide +kernel⟩, List.mem_of_getElem? (i := 38) (by decide +kernel), List.mem_of_getElem? (i := 361) (by decide +kernel), List.mem_of_getElem? (i := 362) (by decide +kernel)⟩
theorem lw_p4 : lw_okq (⟨"TripleTrains$SetupText", "readPoints", "(LTripleTrains$Board;)Z"⟩, 8) := ⟨⟨by decide +kernel, by decide +kernel⟩, List.mem_of_getElem? (i := 38) (by decide +kernel), List.mem_of_getElem? (i := 365) (by decide +kernel), List.mem_of_getElem? (i := 366) (by decide +kernel)⟩
theorem lw_p5 : lw_okq (⟨"TripleTrains$SetupText", "isWord", "(Ljava/lang/String;)Z"⟩, 8) := ⟨⟨by decide +kernel, by decide +kernel⟩, List.mem_of_getElem? (i := 38) (by decide +kernel), List.mem_of_getElem? (i := 370) (by decide +kernel), List.mem_of_getElem? (i := 371) (by decide +kernel)⟩
theorem lw_p6 : lw_okq (⟨"TripleTrains$SetupText", "fail", "(I)Z"⟩, 8) := ⟨⟨by decide +kernel, by decide +kernel⟩, List.mem_of_getElem? (i := 38) (by decide +kernel), List.mem_of_getElem? (i := 422) (by decide +kernel), List.mem_of_getElem? (i := 423) (by decide +kernel)⟩
theorem lw_p7 : lw_okq (⟨"TripleTrains$SetupText", "readStatement", "(LTripleTrains$Board;)Z"⟩, 8) := ⟨⟨by decide +kernel, by decide +kernel⟩, List.mem_of_getElem? (i := 38) (by decide +kernel), List.mem_of_getElem? (i := 427) (by decide +kernel), List.mem_of_getElem? (i := 428) (by decide +kernel)⟩
theorem lw_p8 : lw_okq (⟨"TripleTrains$Board", "join", "(III)V"⟩, 6) := ⟨⟨by decide +kernel, by decide +kernel⟩, List.mem_of_getElem? (i := 73) (by decide +kernel), List.mem_of_getElem? (i := 470) (by decide +kernel), List.mem_of_getElem? (i := 471) (by decide +kernel)⟩
theorem lw_p9 : lw_okq (⟨"TripleTrains", "settle", "()V"⟩, 12) := ⟨⟨by decide +kernel, by decide +kernel⟩, List.mem_of_getElem? (i := 30) (by decide +kernel), List.mem_of_getElem? (i := 490) (by decide +kernel), List.mem_of_getElem? (i := 491) (by decide +kernel)⟩
theorem lw_p10 : lw_okq (⟨"TripleTrains$Board", "number", "(III)V"⟩, 6) := ⟨⟨by decide +kernel, by decide +kernel⟩, List.mem_of_getElem? (i := 73) (by decide +kernel), List.mem_of_getElem? (i := 502) (by decide +kernel), List.mem_of_getElem? (i := 503) (by decide +kernel)⟩
theorem lw_p11 : lw_okq (⟨"TripleTrains$Board", "numberPair", "(II)V"⟩, 6) := ⟨⟨by decide +kernel, by decide +kernel⟩, List.mem_of_getElem? (i := 73) (by decide +kernel), List.mem_of_getElem? (i := 509) (by decide +kernel), List.mem_of_getElem? (i := 510) (by decide +kernel)⟩
theorem lw_p12 : lw_okq (⟨"TripleTrains$Quads", "keep", "(IIIII)V"⟩, 3) := ⟨⟨by decide +kernel, by decide +kernel⟩, List.mem_of_getElem? (i := 169) (by decide +kernel), List.mem_of_getElem? (i := 534) (by decide +kernel), List.mem_of_getElem? (i := 535) (by decide +kernel)⟩
theorem lw_p13 : lw_okq (⟨"TripleTrains", "remember", "()V"⟩, 12) := ⟨⟨by decide +kernel, by decide +kernel⟩, List.mem_of_getElem? (i := 30) (by decide +kernel), List.mem_of_getElem? (i := 559) (by decide +kernel), List.mem_of_getElem? (i := 560) (by decide +kernel)⟩
theorem lw_p14 : lw_okq (⟨"TripleTrains$History", "forgetOldest", "()V"⟩, 4) := ⟨⟨by decide +kernel, by decide +kernel⟩, List.mem_of_getElem? (i := 127) (by decide +kernel), List.mem_of_getElem? (i := 567) (by decide +kernel), List.mem_of_getElem? (i := 568) (by decide +kernel)⟩
theorem lw_p15 : lw_okq (⟨"TripleTrains$Board", "part", "(II)V"⟩, 6) := ⟨⟨by decide +kernel, by decide +kernel⟩, List.mem_of_getElem? (i := 73) (by decide +kernel), List.mem_of_getElem? (i := 604) (by decide +kernel), List.mem_of_getElem? (i := 605) (by decide +kernel)⟩
def lw_privs_1 : List (MethodName × Nat) := [(⟨"TripleTrains$SetupText", "advance", "()V"⟩, 8), (⟨"TripleTrains$SetupText", "byteAt", "(I)I"⟩, 8), (⟨"TripleTrains$SetupText", "readWord", "()V"⟩, 8), (⟨"TripleTrains$SetupText", "readNumber", "()V"⟩, 8), (⟨"TripleTrains$SetupText", "readPoints", "(LTripleTrains$Board;)Z"⟩, 8), (⟨"TripleTrains$SetupText", "isWord", "(Ljava/lang/String;)Z"⟩, 8), (⟨"TripleTrains$SetupText", "fail", "(I)Z"⟩, 8), (⟨"TripleTrains$SetupText", "readStatement", "(LTripleTrains$Board;)Z"⟩, 8), (⟨"TripleTrains$Board", "join", "(III)V"⟩, 6), (⟨"TripleTrains", "settle", "()V"⟩, 12), (⟨"TripleTrains$Board", "number", "(III)V"⟩, 6), (⟨"TripleTrains$Board", "numberPair", "(II)V"⟩, 6), (⟨"TripleTrains$Quads", "keep", "(IIIII)V"⟩, 3), (⟨"TripleTrains", "remember", "()V"⟩, 12), (⟨"TripleTrains$History", "forgetOldest", "()V"⟩, 4), (⟨"TripleTrains$Board", "part", "(II)V"⟩, 6)]
theorem lw_r1 : ∀ q ∈ lw_privs_1, lw_okq q := List.forall_mem_cons.mpr ⟨lw_p0, List.forall_mem_cons.mpr ⟨lw_p1, List.forall_mem_cons.mpr ⟨lw_p2, List.forall_mem_cons.mpr ⟨lw_p3, List.forall_mem_cons.mpr ⟨lw_p4, List.forall_mem_cons.mpr ⟨lw_p5, List.forall_mem_cons.mpr ⟨lw_p6, List.forall_mem_cons.mpr ⟨lw_p7, List.forall_mem_cons.mpr ⟨lw_p8, List.forall_mem_cons.mpr ⟨lw_p9, List.forall_mem_cons.mpr ⟨lw_p10, List.forall_mem_cons.mpr ⟨lw_p11, List.forall_mem_cons.mpr ⟨lw_p12, List.forall_mem_cons.mpr ⟨lw_p13, List.forall_mem_cons.mpr ⟨lw_p14, List.forall_mem_cons.mpr ⟨lw_p15, fun _ h => absurd h List.not_mem_nil⟩⟩⟩⟩⟩⟩⟩⟩⟩⟩⟩⟩⟩⟩⟩⟩
theorem lw_p16 : lw_okq (⟨"TripleTrains$Quads", "maskOf", "(I)J"⟩, 3) := ⟨⟨by decide +kernel, by decide +kernel⟩, List.mem_of_getElem? (i := 169) (by decide +kernel), List.mem_of_getElem? (i := 620) (by decide +kernel), List.mem_of_getElem? (i := 621) (by decide +kernel)⟩
theorem lw_p17 : lw_okq (⟨"TripleTrains", "quadsBehindExchange", "()I"⟩, 12) := ⟨⟨by decide +kernel, by decide +kernel⟩, List.mem_of_getElem? (i := 30) (by decide +kernel), List.mem_of_getElem? (i := 646) (by decide +kernel), List.mem_of_getElem? (i := 647) (by decide +kernel)⟩
theorem lw_p18 : lw_okq (⟨"TripleTrains$Cycles", "walk", "(LTripleTrains$Board;I)I"⟩, 6) := ⟨⟨by decide +kernel, by decide +kernel⟩, List.mem_of_getElem? (i := 187) (by decide +kernel), List.mem_of_getElem? (i := 675) (by decide +kernel), List.mem_of_getElem? (i := 676) (by decide +kernel)⟩
theorem lw_p19 : lw_okq (⟨"TripleTrains$Cycles", "beginOf", "(I)I"⟩, 6) := ⟨⟨by decide +kernel, by decide +kernel⟩, List.mem_of_getElem? (i := 187) (by decide +kernel), List.mem_of_getElem? (i := 679) (by decide +kernel), List.mem_of_getElem? (i := 680) (by decide +kernel)⟩
theorem lw_p20 : lw_okq (⟨"TripleTrains$Cycles", "keep", "(I)I"⟩, 6) := ⟨⟨by decide +kernel, by decide +kernel⟩, List.mem_of_getElem? (i := 187) (by decide +kernel), List.mem_of_getElem? (i := 684) (by decide +kernel), List.mem_of_getElem? (i := 685) (by decide +kernel)⟩
theorem lw_p21 : lw_okq (⟨"TripleTrains$Trades", "gatherAmong", "(LTripleTrains$Cycles;I)V"⟩, 2) := ⟨⟨by decide +kernel, by decide +kernel⟩, List.mem_of_getElem? (i := 214) (by decide +kernel), List.mem_of_getElem? (i := 709) (by decide +kernel), List.mem_of_getElem? (i := 710) (by decide +kernel)⟩
theorem lw_p22 : lw_okq (⟨"TripleTrains$Trades", "insert", "(J)V"⟩, 2) := ⟨⟨by decide +kernel, by decide +kernel⟩, List.mem_of_getElem? (i := 214) (by decide +kernel), List.mem_of_getElem? (i := 718) (by decide +kernel), List.mem_of_getElem? (i := 719) (by decide +kernel)⟩
theorem lw_p23 : lw_okq (⟨"TripleTrains", "isPerfect", "(II)Z"⟩, 12) := ⟨⟨by decide +kernel, by decide +kernel⟩, List.mem_of_getElem? (i := 30) (by decide +kernel), List.mem_of_getElem? (i := 730) (by decide +kernel), List.mem_of_getElem? (i := 731) (by decide +kernel)⟩
theorem lw_p24 : lw_okq (⟨"java/lang/Throwable", "fillInStackTrace", "(I)Ljava/lang/Throwable;"⟩, 6) := ⟨⟨by decide +kernel, by decide +kernel⟩, List.mem_of_getElem? (i := 897) (by decide +kernel), List.mem_of_getElem? (i := 895) (by decide +kernel), List.mem_of_getElem? (i := 896) (by decide +kernel)⟩
theorem lw_p25 : lw_okq (⟨"TripleTrains", "requireTriple", "(I)V"⟩, 12) := ⟨⟨by decide +kernel, by decide +kernel⟩, List.mem_of_getElem? (i := 30) (by decide +kernel), List.mem_of_getElem? (i := 934) (by decide +kernel), List.mem_of_getElem? (i := 935) (by decide +kernel)⟩
theorem lw_p26 : lw_okq (⟨"TripleTrains", "requireThree", "(III)V"⟩, 12) := ⟨⟨by decide +kernel, by decide +kernel⟩, List.mem_of_getElem? (i := 30) (by decide +kernel), List.mem_of_getElem? (i := 963) (by decide +kernel), List.mem_of_getElem? (i := 964) (by decide +kernel)⟩
theorem lw_p27 : lw_okq (⟨"TripleTrains", "requirePoint", "(I)V"⟩, 12) := ⟨⟨by decide +kernel, by decide +kernel⟩, List.mem_of_getElem? (i := 30) (by decide +kernel), List.mem_of_getElem? (i := 967) (by decide +kernel), List.mem_of_getElem? (i := 968) (by decide +kernel)⟩
theorem lw_p28 : lw_okq (⟨"TripleTrains", "requireTwo", "(II)V"⟩, 12) := ⟨⟨by decide +kernel, by decide +kernel⟩, List.mem_of_getElem? (i := 30) (by decide +kernel), List.mem_of_getElem? (i := 982) (by decide +kernel), List.mem_of_getElem? (i := 983) (by decide +kernel)⟩
theorem lw_p29 : lw_okq (⟨"TripleTrains", "requireQuad", "(I)V"⟩, 12) := ⟨⟨by decide +kernel, by decide +kernel⟩, List.mem_of_getElem? (i := 30) (by decide +kernel), List.mem_of_getElem? (i := 1064) (by decide +kernel), List.mem_of_getElem? (i := 1065) (by decide +kernel)⟩
theorem lw_p30 : lw_okq (⟨"TripleTrains", "exchangeQuad", "(I)V"⟩, 12) := ⟨⟨by decide +kernel, by decide +kernel⟩, List.mem_of_getElem? (i := 30) (by decide +kernel), List.mem_of_getElem? (i := 1108) (by decide +kernel), List.mem_of_getElem? (i := 1109) (by decide +kernel)⟩
theorem lw_p31 : lw_okq (⟨"TripleTrains", "quadsBehindSwitchOf", "(I)I"⟩, 12) := ⟨⟨by decide +kernel, by decide +kernel⟩, List.mem_of_getElem? (i := 30) (by decide +kernel), List.mem_of_getElem? (i := 1119) (by decide +kernel), List.mem_of_getElem? (i := 1120) (by decide +kernel)⟩
def lw_privs_2 : List (MethodName × Nat) := [(⟨"TripleTrains$Quads", "maskOf", "(I)J"⟩, 3), (⟨"TripleTrains", "quadsBehindExchange", "()I"⟩, 12), (⟨"TripleTrains$Cycles", "walk", "(LTripleTrains$Board;I)I"⟩, 6), (⟨"TripleTrains$Cycles", "beginOf", "(I)I"⟩, 6), (⟨"TripleTrains$Cycles", "keep", "(I)I"⟩, 6), (⟨"TripleTrains$Trades", "gatherAmong", "(LTripleTrains$Cycles;I)V"⟩, 2), (⟨"TripleTrains$Trades", "insert", "(J)V"⟩, 2), (⟨"TripleTrains", "isPerfect", "(II)Z"⟩, 12), (⟨"java/lang/Throwable", "fillInStackTrace", "(I)Ljava/lang/Throwable;"⟩, 6), (⟨"TripleTrains", "requireTriple", "(I)V"⟩, 12), (⟨"TripleTrains", "requireThree", "(III)V"⟩, 12), (⟨"TripleTrains", "requirePoint", "(I)V"⟩, 12), (⟨"TripleTrains", "requireTwo", "(II)V"⟩, 12), (⟨"TripleTrains", "requireQuad", "(I)V"⟩, 12), (⟨"TripleTrains", "exchangeQuad", "(I)V"⟩, 12), (⟨"TripleTrains", "quadsBehindSwitchOf", "(I)I"⟩, 12)]
theorem lw_r2 : ∀ q ∈ lw_privs_2, lw_okq q := List.forall_mem_cons.mpr ⟨lw_p16, List.forall_mem_cons.mpr ⟨lw_p17, List.forall_mem_cons.mpr ⟨lw_p18, List.forall_mem_cons.mpr ⟨lw_p19, List.forall_mem_cons.mpr ⟨lw_p20, List.forall_mem_cons.mpr ⟨lw_p21, List.forall_mem_cons.mpr ⟨lw_p22, List.forall_mem_cons.mpr ⟨lw_p23, List.forall_mem_cons.mpr ⟨lw_p24, List.forall_mem_cons.mpr ⟨lw_p25, List.forall_mem_cons.mpr ⟨lw_p26, List.forall_mem_cons.mpr ⟨lw_p27, List.forall_mem_cons.mpr ⟨lw_p28, List.forall_mem_cons.mpr ⟨lw_p29, List.forall_mem_cons.mpr ⟨lw_p30, List.forall_mem_cons.mpr ⟨lw_p31, fun _ h => absurd h List.not_mem_nil⟩⟩⟩⟩⟩⟩⟩⟩⟩⟩⟩⟩⟩⟩⟩⟩
theorem lw_p32 : lw_okq (⟨"TripleTrains", "requireCycle", "(III)V"⟩, 12) := ⟨⟨by decide +kernel, by decide +kernel⟩, List.mem_of_getElem? (i := 30) (by decide +kernel), List.mem_of_getElem? (i := 1147) (by decide +kernel), List.mem_of_getElem? (i := 1148) (by decide +kernel)⟩
theorem lw_p33 : lw_okq (⟨"TripleTrains", "requireTrain", "(III)V"⟩, 12) := ⟨⟨by decide +kernel, by decide +kernel⟩, List.mem_of_getElem? (i := 30) (by decide +kernel), List.mem_of_getElem? (i := 1212) (by decide +kernel), List.mem_of_getElem? (i := 1213) (by decide +kernel)⟩
theorem lw_p34 : lw_okq (⟨"TripleTrains", "requireComplete", "()V"⟩, 12) := ⟨⟨by decide +kernel, by decide +kernel⟩, List.mem_of_getElem? (i := 30) (by decide +kernel), List.mem_of_getElem? (i := 1216) (by decide +kernel), List.mem_of_getElem? (i := 1217) (by decide +kernel)⟩
theorem lw_p35 : lw_okq (⟨"TripleTrains$Trains", "lead", "(I)V"⟩, 4) := ⟨⟨by decide +kernel, by decide +kernel⟩, List.mem_of_getElem? (i := 228) (by decide +kernel), List.mem_of_getElem? (i := 1246) (by decide +kernel), List.mem_of_getElem? (i := 1247) (by decide +kernel)⟩
theorem lw_p36 : lw_okq (⟨"TripleTrains$Trains", "nextOf", "(I)I"⟩, 4) := ⟨⟨by decide +kernel, by decide +kernel⟩, List.mem_of_getElem? (i := 228) (by decide +kernel), List.mem_of_getElem? (i := 1270) (by decide +kernel), List.mem_of_getElem? (i := 1271) (by decide +kernel)⟩
theorem lw_p37 : lw_okq (⟨"TripleTrains$Trains", "markOf", "(I)I"⟩, 4) := ⟨⟨by decide +kernel, by decide +kernel⟩, List.mem_of_getElem? (i := 228) (by decide +kernel), List.mem_of_getElem? (i := 1274) (by decide +kernel), List.mem_of_getElem? (i := 1275) (by decide +kernel)⟩
theorem lw_p38 : lw_okq (⟨"TripleTrains$Trains", "mark", "(II)V"⟩, 4) := ⟨⟨by decide +kernel, by decide +kernel⟩, List.mem_of_getElem? (i := 228) (by decide +kernel), List.mem_of_getElem? (i := 1278) (by decide +kernel), List.mem_of_getElem? (i := 1279) (by decide +kernel)⟩
theorem lw_p39 : lw_okq (⟨"TripleTrains$Trains", "endsOnItself", "(II)Z"⟩, 4) := ⟨⟨by decide +kernel, by decide +kernel⟩, List.mem_of_getElem? (i := 228) (by decide +kernel), List.mem_of_getElem? (i := 1313) (by decide +kernel), List.mem_of_getElem? (i := 1314) (by decide +kernel)⟩
theorem lw_p40 : lw_okq (⟨"TripleTrains", "writeTriple", "(I)V"⟩, 12) := ⟨⟨by decide +kernel, by decide +kernel⟩, List.mem_of_getElem? (i := 30) (by decide +kernel), List.mem_of_getElem? (i := 1382) (by decide +kernel), List.mem_of_getElem? (i := 1383) (by decide +kernel)⟩
theorem lw_p41 : lw_okq (⟨"TripleTrains", "write", "(I)V"⟩, 12) := ⟨⟨by decide +kernel, by decide +kernel⟩, List.mem_of_getElem? (i := 30) (by decide +kernel), List.mem_of_getElem? (i := 1386) (by decide +kernel), List.mem_of_getElem? (i := 1387) (by decide +kernel)⟩
theorem lw_p42 : lw_okq (⟨"TripleTrainsModel", "empties", "(I)V"⟩, 33) := ⟨⟨by decide +kernel, by decide +kernel⟩, List.mem_of_getElem? (i := 1402) (by decide +kernel), List.mem_of_getElem? (i := 1408) (by decide +kernel), List.mem_of_getElem? (i := 1409) (by decide +kernel)⟩
theorem lw_p43 : lw_okq (⟨"TripleTrainsModel", "appendWord", "(I)V"⟩, 33) := ⟨⟨by decide +kernel, by decide +kernel⟩, List.mem_of_getElem? (i := 1402) (by decide +kernel), List.mem_of_getElem? (i := 1516) (by decide +kernel), List.mem_of_getElem? (i := 1517) (by decide +kernel)⟩
theorem lw_p44 : lw_okq (⟨"TripleTrainsModel", "advanceToken", "()V"⟩, 33) := ⟨⟨by decide +kernel, by decide +kernel⟩, List.mem_of_getElem? (i := 1402) (by decide +kernel), List.mem_of_getElem? (i := 1534) (by decide +kernel), List.mem_of_getElem? (i := 1535) (by decide +kernel)⟩
theorem lw_p45 : lw_okq (⟨"TripleTrainsModel", "byteAt", "(I)I"⟩, 33) := ⟨⟨by decide +kernel, by decide +kernel⟩, List.mem_of_getElem? (i := 1402) (by decide +kernel), List.mem_of_getElem? (i := 1538) (by decide +kernel), List.mem_of_getElem? (i := 1539) (by decide +kernel)⟩
theorem lw_p46 : lw_okq (⟨"TripleTrainsModel", "readText", "()Z"⟩, 33) := ⟨⟨by decide +kernel, by decide +kernel⟩, List.mem_of_getElem? (i := 1402) (by decide +kernel), List.mem_of_getElem? (i := 1542) (by decide +kernel), List.mem_of_getElem? (i := 1543) (by decide +kernel)⟩
theorem lw_p47 : lw_okq (⟨"TripleTrainsModel", "readPoints", "()Z"⟩, 33) := ⟨⟨by decide +kernel, by decide +kernel⟩, List.mem_of_getElem? (i := 1402) (by decide +kernel), List.mem_of_getElem? (i := 1546) (by decide +kernel), List.mem_of_getElem? (i := 1547) (by decide +kernel)⟩
def lw_privs_3 : List (MethodName × Nat) := [(⟨"TripleTrains", "requireCycle", "(III)V"⟩, 12), (⟨"TripleTrains", "requireTrain", "(III)V"⟩, 12), (⟨"TripleTrains", "requireComplete", "()V"⟩, 12), (⟨"TripleTrains$Trains", "lead", "(I)V"⟩, 4), (⟨"TripleTrains$Trains", "nextOf", "(I)I"⟩, 4), (⟨"TripleTrains$Trains", "markOf", "(I)I"⟩, 4), (⟨"TripleTrains$Trains", "mark", "(II)V"⟩, 4), (⟨"TripleTrains$Trains", "endsOnItself", "(II)Z"⟩, 4), (⟨"TripleTrains", "writeTriple", "(I)V"⟩, 12), (⟨"TripleTrains", "write", "(I)V"⟩, 12), (⟨"TripleTrainsModel", "empties", "(I)V"⟩, 33), (⟨"TripleTrainsModel", "appendWord", "(I)V"⟩, 33), (⟨"TripleTrainsModel", "advanceToken", "()V"⟩, 33), (⟨"TripleTrainsModel", "byteAt", "(I)I"⟩, 33), (⟨"TripleTrainsModel", "readText", "()Z"⟩, 33), (⟨"TripleTrainsModel", "readPoints", "()Z"⟩, 33)]
theorem lw_r3 : ∀ q ∈ lw_privs_3, lw_okq q := List.forall_mem_cons.mpr ⟨lw_p32, List.forall_mem_cons.mpr ⟨lw_p33, List.forall_mem_cons.mpr ⟨lw_p34, List.forall_mem_cons.mpr ⟨lw_p35, List.forall_mem_cons.mpr ⟨lw_p36, List.forall_mem_cons.mpr ⟨lw_p37, List.forall_mem_cons.mpr ⟨lw_p38, List.forall_mem_cons.mpr ⟨lw_p39, List.forall_mem_cons.mpr ⟨lw_p40, List.forall_mem_cons.mpr ⟨lw_p41, List.forall_mem_cons.mpr ⟨lw_p42, List.forall_mem_cons.mpr ⟨lw_p43, List.forall_mem_cons.mpr ⟨lw_p44, List.forall_mem_cons.mpr ⟨lw_p45, List.forall_mem_cons.mpr ⟨lw_p46, List.forall_mem_cons.mpr ⟨lw_p47, fun _ h => absurd h List.not_mem_nil⟩⟩⟩⟩⟩⟩⟩⟩⟩⟩⟩⟩⟩⟩⟩⟩
theorem lw_p48 : lw_okq (⟨"TripleTrainsModel", "isWord", "(Ljava/lang/String;)Z"⟩, 33) := ⟨⟨by decide +kernel, by decide +kernel⟩, List.mem_of_getElem? (i := 1402) (by decide +kernel), List.mem_of_getElem? (i := 1551) (by decide +kernel), List.mem_of_getElem? (i := 1552) (by decide +kernel)⟩
theorem lw_p49 : lw_okq (⟨"TripleTrainsModel", "tokenLength", "()I"⟩, 33) := ⟨⟨by decide +kernel, by decide +kernel⟩, List.mem_of_getElem? (i := 1402) (by decide +kernel), List.mem_of_getElem? (i := 1555) (by decide +kernel), List.mem_of_getElem? (i := 1556) (by decide +kernel)⟩
theorem lw_p50 : lw_okq (⟨"TripleTrainsModel", "failsAt", "(I)Z"⟩, 33) := ⟨⟨by decide +kernel, by decide +kernel⟩, List.mem_of_getElem? (i := 1402) (by decide +kernel), List.mem_of_getElem? (i := 1561) (by decide +kernel), List.mem_of_getElem? (i := 1562) (by decide +kernel)⟩
theorem lw_p51 : lw_okq (⟨"TripleTrainsModel", "takesPoint", "(III)Z"⟩, 33) := ⟨⟨by decide +kernel, by decide +kernel⟩, List.mem_of_getElem? (i := 1402) (by decide +kernel), List.mem_of_getElem? (i := 1565) (by decide +kernel), List.mem_of_getElem? (i := 1566) (by decide +kernel)⟩
theorem lw_p52 : lw_okq (⟨"TripleTrainsModel", "readStatement", "()Z"⟩, 33) := ⟨⟨by decide +kernel, by decide +kernel⟩, List.mem_of_getElem? (i := 1402) (by decide +kernel), List.mem_of_getElem? (i := 1569) (by decide +kernel), List.mem_of_getElem? (i := 1570) (by decide +kernel)⟩
theorem lw_p53 : lw_okq (⟨"TripleTrainsModel", "readTriple", "(Z)Z"⟩, 33) := ⟨⟨by decide +kernel, by decide +kernel⟩, List.mem_of_getElem? (i := 1402) (by decide +kernel), List.mem_of_getElem? (i := 1574) (by decide +kernel), List.mem_of_getElem? (i := 1575) (by decide +kernel)⟩
theorem lw_p54 : lw_okq (⟨"TripleTrainsModel", "points", "()I"⟩, 33) := ⟨⟨by decide +kernel, by decide +kernel⟩, List.mem_of_getElem? (i := 1402) (by decide +kernel), List.mem_of_getElem? (i := 1578) (by decide +kernel), List.mem_of_getElem? (i := 1579) (by decide +kernel)⟩
theorem lw_p55 : lw_okq (⟨"TripleTrainsModel", "develops", "(III)I"⟩, 33) := ⟨⟨by decide +kernel, by decide +kernel⟩, List.mem_of_getElem? (i := 1402) (by decide +kernel), List.mem_of_getElem? (i := 1582) (by decide +kernel), List.mem_of_getElem? (i := 1583) (by decide +kernel)⟩
theorem lw_p56 : lw_okq (⟨"TripleTrainsModel", "turned", "(II)I"⟩, 33) := ⟨⟨by decide +kernel, by decide +kernel⟩, List.mem_of_getElem? (i := 1402) (by decide +kernel), List.mem_of_getElem? (i := 1586) (by decide +kernel), List.mem_of_getElem? (i := 1587) (by decide +kernel)⟩
theorem lw_p57 : lw_okq (⟨"TripleTrainsModel", "isFree", "(III)Z"⟩, 33) := ⟨⟨by decide +kernel, by decide +kernel⟩, List.mem_of_getElem? (i := 1402) (by decide +kernel), List.mem_of_getElem? (i := 1590) (by decide +kernel), List.mem_of_getElem? (i := 1591) (by decide +kernel)⟩
theorem lw_p58 : lw_okq (⟨"TripleTrainsModel", "coveredIn", "(III)I"⟩, 33) := ⟨⟨by decide +kernel, by decide +kernel⟩, List.mem_of_getElem? (i := 1402) (by decide +kernel), List.mem_of_getElem? (i := 1594) (by decide +kernel), List.mem_of_getElem? (i := 1595) (by decide +kernel)⟩
theorem lw_p59 : lw_okq (⟨"TripleTrainsModel", "coveredOf", "(II)I"⟩, 33) := ⟨⟨by decide +kernel, by decide +kernel⟩, List.mem_of_getElem? (i := 1402) (by decide +kernel), List.mem_of_getElem? (i := 1598) (by decide +kernel), List.mem_of_getElem? (i := 1599) (by decide +kernel)⟩
theorem lw_p60 : lw_okq (⟨"TripleTrainsModel", "thirdOf", "(II)I"⟩, 33) := ⟨⟨by decide +kernel, by decide +kernel⟩, List.mem_of_getElem? (i := 1402) (by decide +kernel), List.mem_of_getElem? (i := 1602) (by decide +kernel), List.mem_of_getElem? (i := 1603) (by decide +kernel)⟩
theorem lw_p61 : lw_okq (⟨"TripleTrainsModel", "puts", "(III)V"⟩, 33) := ⟨⟨by decide +kernel, by decide +kernel⟩, List.mem_of_getElem? (i := 1402) (by decide +kernel), List.mem_of_getElem? (i := 1606) (by decide +kernel), List.mem_of_getElem? (i := 1607) (by decide +kernel)⟩
theorem lw_p62 : lw_okq (⟨"TripleTrainsModel", "lays", "(III)V"⟩, 33) := ⟨⟨by decide +kernel, by decide +kernel⟩, List.mem_of_getElem? (i := 1402) (by decide +kernel), List.mem_of_getElem? (i := 1610) (by decide +kernel), List.mem_of_getElem? (i := 1611) (by decide +kernel)⟩
theorem lw_p63 : lw_okq (⟨"TripleTrainsModel", "triplesMany", "()I"⟩, 33) := ⟨⟨by decide +kernel, by decide +kernel⟩, List.mem_of_getElem? (i := 1402) (by decide +kernel), List.mem_of_getElem? (i := 1615) (by decide +kernel), List.mem_of_getElem? (i := 1616) (by decide +kernel)⟩
def lw_privs_4 : List (MethodName × Nat) := [(⟨"TripleTrainsModel", "isWord", "(Ljava/lang/String;)Z"⟩, 33), (⟨"TripleTrainsModel", "tokenLength", "()I"⟩, 33), (⟨"TripleTrainsModel", "failsAt", "(I)Z"⟩, 33), (⟨"TripleTrainsModel", "takesPoint", "(III)Z"⟩, 33), (⟨"TripleTrainsModel", "readStatement", "()Z"⟩, 33), (⟨"TripleTrainsModel", "readTriple", "(Z)Z"⟩, 33), (⟨"TripleTrainsModel", "points", "()I"⟩, 33), (⟨"TripleTrainsModel", "develops", "(III)I"⟩, 33), (⟨"TripleTrainsModel", "turned", "(II)I"⟩, 33), (⟨"TripleTrainsModel", "isFree", "(III)Z"⟩, 33), (⟨"TripleTrainsModel", "coveredIn", "(III)I"⟩, 33), (⟨"TripleTrainsModel", "coveredOf", "(II)I"⟩, 33), (⟨"TripleTrainsModel", "thirdOf", "(II)I"⟩, 33), (⟨"TripleTrainsModel", "puts", "(III)V"⟩, 33), (⟨"TripleTrainsModel", "lays", "(III)V"⟩, 33), (⟨"TripleTrainsModel", "triplesMany", "()I"⟩, 33)]
theorem lw_r4 : ∀ q ∈ lw_privs_4, lw_okq q := List.forall_mem_cons.mpr ⟨lw_p48, List.forall_mem_cons.mpr ⟨lw_p49, List.forall_mem_cons.mpr ⟨lw_p50, List.forall_mem_cons.mpr ⟨lw_p51, List.forall_mem_cons.mpr ⟨lw_p52, List.forall_mem_cons.mpr ⟨lw_p53, List.forall_mem_cons.mpr ⟨lw_p54, List.forall_mem_cons.mpr ⟨lw_p55, List.forall_mem_cons.mpr ⟨lw_p56, List.forall_mem_cons.mpr ⟨lw_p57, List.forall_mem_cons.mpr ⟨lw_p58, List.forall_mem_cons.mpr ⟨lw_p59, List.forall_mem_cons.mpr ⟨lw_p60, List.forall_mem_cons.mpr ⟨lw_p61, List.forall_mem_cons.mpr ⟨lw_p62, List.forall_mem_cons.mpr ⟨lw_p63, fun _ h => absurd h List.not_mem_nil⟩⟩⟩⟩⟩⟩⟩⟩⟩⟩⟩⟩⟩⟩⟩⟩
theorem lw_p64 : lw_okq (⟨"TripleTrainsModel", "laysTriples", "()V"⟩, 33) := ⟨⟨by decide +kernel, by decide +kernel⟩, List.mem_of_getElem? (i := 1402) (by decide +kernel), List.mem_of_getElem? (i := 1619) (by decide +kernel), List.mem_of_getElem? (i := 1620) (by decide +kernel)⟩
theorem lw_p65 : lw_okq (⟨"TripleTrainsModel", "fails", "(ZI)Z"⟩, 33) := ⟨⟨by decide +kernel, by decide +kernel⟩, List.mem_of_getElem? (i := 1402) (by decide +kernel), List.mem_of_getElem? (i := 1635) (by decide +kernel), List.mem_of_getElem? (i := 1636) (by decide +kernel)⟩
theorem lw_p66 : lw_okq (⟨"TripleTrainsModel", "uncoveredMany", "()I"⟩, 33) := ⟨⟨by decide +kernel, by decide +kernel⟩, List.mem_of_getElem? (i := 1402) (by decide +kernel), List.mem_of_getElem? (i := 1639) (by decide +kernel), List.mem_of_getElem? (i := 1640) (by decide +kernel)⟩
theorem lw_p67 : lw_okq (⟨"TripleTrainsModel", "pairsMany", "()I"⟩, 33) := ⟨⟨by decide +kernel, by decide +kernel⟩, List.mem_of_getElem? (i := 1402) (by decide +kernel), List.mem_of_getElem? (i := 1643) (by decide +kernel), List.mem_of_getElem? (i := 1644) (by decide +kernel)⟩
theorem lw_p68 : lw_okq (⟨"TripleTrainsModel", "quadsNow", "()I"⟩, 33) := ⟨⟨by decide +kernel, by decide +kernel⟩, List.mem_of_getElem? (i := 1402) (by decide +kernel), List.mem_of_getElem? (i := 1647) (by decide +kernel), List.mem_of_getElem? (i := 1648) (by decide +kernel)⟩
theorem lw_p69 : lw_okq (⟨"TripleTrainsModel", "laysQuads", "()V"⟩, 33) := ⟨⟨by decide +kernel, by decide +kernel⟩, List.mem_of_getElem? (i := 1402) (by decide +kernel), List.mem_of_getElem? (i := 1651) (by decide +kernel), List.mem_of_getElem? (i := 1652) (by decide +kernel)⟩
theorem lw_p70 : lw_okq (⟨"TripleTrainsModel", "isTriple", "(I)Z"⟩, 33) := ⟨⟨by decide +kernel, by decide +kernel⟩, List.mem_of_getElem? (i := 1402) (by decide +kernel), List.mem_of_getElem? (i := 1655) (by decide +kernel), List.mem_of_getElem? (i := 1656) (by decide +kernel)⟩
theorem lw_p71 : lw_okq (⟨"TripleTrainsModel", "numberOf", "(I)I"⟩, 33) := ⟨⟨by decide +kernel, by decide +kernel⟩, List.mem_of_getElem? (i := 1402) (by decide +kernel), List.mem_of_getElem? (i := 1664) (by decide +kernel), List.mem_of_getElem? (i := 1665) (by decide +kernel)⟩
theorem lw_p72 : lw_okq (⟨"TripleTrainsModel", "addsQuad", "(IIII)V"⟩, 33) := ⟨⟨by decide +kernel, by decide +kernel⟩, List.mem_of_getElem? (i := 1402) (by decide +kernel), List.mem_of_getElem? (i := 1668) (by decide +kernel), List.mem_of_getElem? (i := 1669) (by decide +kernel)⟩
theorem lw_p73 : lw_okq (⟨"TripleTrainsModel", "isWhole", "()Z"⟩, 33) := ⟨⟨by decide +kernel, by decide +kernel⟩, List.mem_of_getElem? (i := 1402) (by decide +kernel), List.mem_of_getElem? (i := 1676) (by decide +kernel), List.mem_of_getElem? (i := 1677) (by decide +kernel)⟩
theorem lw_p74 : lw_okq (⟨"TripleTrainsModel", "noTriple", "(I)Z"⟩, 33) := ⟨⟨by decide +kernel, by decide +kernel⟩, List.mem_of_getElem? (i := 1402) (by decide +kernel), List.mem_of_getElem? (i := 1684) (by decide +kernel), List.mem_of_getElem? (i := 1685) (by decide +kernel)⟩
theorem lw_p75 : lw_okq (⟨"TripleTrainsModel", "noSet", "(III)Z"⟩, 33) := ⟨⟨by decide +kernel, by decide +kernel⟩, List.mem_of_getElem? (i := 1402) (by decide +kernel), List.mem_of_getElem? (i := 1692) (by decide +kernel), List.mem_of_getElem? (i := 1693) (by decide +kernel)⟩
theorem lw_p76 : lw_okq (⟨"TripleTrainsModel", "noPoint", "(I)Z"⟩, 33) := ⟨⟨by decide +kernel, by decide +kernel⟩, List.mem_of_getElem? (i := 1402) (by decide +kernel), List.mem_of_getElem? (i := 1696) (by decide +kernel), List.mem_of_getElem? (i := 1697) (by decide +kernel)⟩
theorem lw_p77 : lw_okq (⟨"TripleTrainsModel", "noPair", "(II)Z"⟩, 33) := ⟨⟨by decide +kernel, by decide +kernel⟩, List.mem_of_getElem? (i := 1402) (by decide +kernel), List.mem_of_getElem? (i := 1704) (by decide +kernel), List.mem_of_getElem? (i := 1705) (by decide +kernel)⟩
theorem lw_p78 : lw_okq (⟨"TripleTrainsModel", "reasonOf", "(III)I"⟩, 33) := ⟨⟨by decide +kernel, by decide +kernel⟩, List.mem_of_getElem? (i := 1402) (by decide +kernel), List.mem_of_getElem? (i := 1720) (by decide +kernel), List.mem_of_getElem? (i := 1721) (by decide +kernel)⟩
theorem lw_p79 : lw_okq (⟨"TripleTrainsModel", "remembers", "()V"⟩, 33) := ⟨⟨by decide +kernel, by decide +kernel⟩, List.mem_of_getElem? (i := 1402) (by decide +kernel), List.mem_of_getElem? (i := 1732) (by decide +kernel), List.mem_of_getElem? (i := 1733) (by decide +kernel)⟩
def lw_privs_5 : List (MethodName × Nat) := [(⟨"TripleTrainsModel", "laysTriples", "()V"⟩, 33), (⟨"TripleTrainsModel", "fails", "(ZI)Z"⟩, 33), (⟨"TripleTrainsModel", "uncoveredMany", "()I"⟩, 33), (⟨"TripleTrainsModel", "pairsMany", "()I"⟩, 33), (⟨"TripleTrainsModel", "quadsNow", "()I"⟩, 33), (⟨"TripleTrainsModel", "laysQuads", "()V"⟩, 33), (⟨"TripleTrainsModel", "isTriple", "(I)Z"⟩, 33), (⟨"TripleTrainsModel", "numberOf", "(I)I"⟩, 33), (⟨"TripleTrainsModel", "addsQuad", "(IIII)V"⟩, 33), (⟨"TripleTrainsModel", "isWhole", "()Z"⟩, 33), (⟨"TripleTrainsModel", "noTriple", "(I)Z"⟩, 33), (⟨"TripleTrainsModel", "noSet", "(III)Z"⟩, 33), (⟨"TripleTrainsModel", "noPoint", "(I)Z"⟩, 33), (⟨"TripleTrainsModel", "noPair", "(II)Z"⟩, 33), (⟨"TripleTrainsModel", "reasonOf", "(III)I"⟩, 33), (⟨"TripleTrainsModel", "remembers", "()V"⟩, 33)]
theorem lw_r5 : ∀ q ∈ lw_privs_5, lw_okq q := List.forall_mem_cons.mpr ⟨lw_p64, List.forall_mem_cons.mpr ⟨lw_p65, List.forall_mem_cons.mpr ⟨lw_p66, List.forall_mem_cons.mpr ⟨lw_p67, List.forall_mem_cons.mpr ⟨lw_p68, List.forall_mem_cons.mpr ⟨lw_p69, List.forall_mem_cons.mpr ⟨lw_p70, List.forall_mem_cons.mpr ⟨lw_p71, List.forall_mem_cons.mpr ⟨lw_p72, List.forall_mem_cons.mpr ⟨lw_p73, List.forall_mem_cons.mpr ⟨lw_p74, List.forall_mem_cons.mpr ⟨lw_p75, List.forall_mem_cons.mpr ⟨lw_p76, List.forall_mem_cons.mpr ⟨lw_p77, List.forall_mem_cons.mpr ⟨lw_p78, List.forall_mem_cons.mpr ⟨lw_p79, fun _ h => absurd h List.not_mem_nil⟩⟩⟩⟩⟩⟩⟩⟩⟩⟩⟩⟩⟩⟩⟩⟩
theorem lw_p80 : lw_okq (⟨"TripleTrainsModel", "takes", "(III)V"⟩, 33) := ⟨⟨by decide +kernel, by decide +kernel⟩, List.mem_of_getElem? (i := 1402) (by decide +kernel), List.mem_of_getElem? (i := 1740) (by decide +kernel), List.mem_of_getElem? (i := 1741) (by decide +kernel)⟩
theorem lw_p81 : lw_okq (⟨"TripleTrainsModel", "begins", "()V"⟩, 33) := ⟨⟨by decide +kernel, by decide +kernel⟩, List.mem_of_getElem? (i := 1402) (by decide +kernel), List.mem_of_getElem? (i := 1748) (by decide +kernel), List.mem_of_getElem? (i := 1749) (by decide +kernel)⟩
theorem lw_p82 : lw_okq (⟨"TripleTrainsModel", "ends", "()V"⟩, 33) := ⟨⟨by decide +kernel, by decide +kernel⟩, List.mem_of_getElem? (i := 1402) (by decide +kernel), List.mem_of_getElem? (i := 1752) (by decide +kernel), List.mem_of_getElem? (i := 1753) (by decide +kernel)⟩
theorem lw_p83 : lw_okq (⟨"TripleTrainsModel", "removes", "(II)I"⟩, 33) := ⟨⟨by decide +kernel, by decide +kernel⟩, List.mem_of_getElem? (i := 1402) (by decide +kernel), List.mem_of_getElem? (i := 1764) (by decide +kernel), List.mem_of_getElem? (i := 1765) (by decide +kernel)⟩
theorem lw_p84 : lw_okq (⟨"TripleTrainsModel", "by", "(I)I"⟩, 33) := ⟨⟨by decide +kernel, by decide +kernel⟩, List.mem_of_getElem? (i := 1402) (by decide +kernel), List.mem_of_getElem? (i := 1783) (by decide +kernel), List.mem_of_getElem? (i := 1784) (by decide +kernel)⟩
theorem lw_p85 : lw_okq (⟨"TripleTrainsModel", "completionsFrom", "()I"⟩, 33) := ⟨⟨by decide +kernel, by decide +kernel⟩, List.mem_of_getElem? (i := 1402) (by decide +kernel), List.mem_of_getElem? (i := 1791) (by decide +kernel), List.mem_of_getElem? (i := 1792) (by decide +kernel)⟩
theorem lw_p86 : lw_okq (⟨"TripleTrainsModel", "tightestPair", "()I"⟩, 33) := ⟨⟨by decide +kernel, by decide +kernel⟩, List.mem_of_getElem? (i := 1402) (by decide +kernel), List.mem_of_getElem? (i := 1795) (by decide +kernel), List.mem_of_getElem? (i := 1796) (by decide +kernel)⟩
theorem lw_p87 : lw_okq (⟨"TripleTrainsModel", "waysOf", "(II)I"⟩, 33) := ⟨⟨by decide +kernel, by decide +kernel⟩, List.mem_of_getElem? (i := 1402) (by decide +kernel), List.mem_of_getElem? (i := 1799) (by decide +kernel), List.mem_of_getElem? (i := 1800) (by decide +kernel)⟩
theorem lw_p88 : lw_okq (⟨"TripleTrainsModel", "noQuad", "(I)Z"⟩, 33) := ⟨⟨by decide +kernel, by decide +kernel⟩, List.mem_of_getElem? (i := 1402) (by decide +kernel), List.mem_of_getElem? (i := 1811) (by decide +kernel), List.mem_of_getElem? (i := 1812) (by decide +kernel)⟩
theorem lw_p89 : lw_okq (⟨"TripleTrainsModel", "quadPoints", "(I)I"⟩, 33) := ⟨⟨by decide +kernel, by decide +kernel⟩, List.mem_of_getElem? (i := 1402) (by decide +kernel), List.mem_of_getElem? (i := 1815) (by decide +kernel), List.mem_of_getElem? (i := 1816) (by decide +kernel)⟩
theorem lw_p90 : lw_okq (⟨"TripleTrainsModel", "bitAt", "(II)I"⟩, 33) := ⟨⟨by decide +kernel, by decide +kernel⟩, List.mem_of_getElem? (i := 1402) (by decide +kernel), List.mem_of_getElem? (i := 1819) (by decide +kernel), List.mem_of_getElem? (i := 1820) (by decide +kernel)⟩
theorem lw_p91 : lw_okq (⟨"TripleTrainsModel", "oppositeOf", "(II)I"⟩, 33) := ⟨⟨by decide +kernel, by decide +kernel⟩, List.mem_of_getElem? (i := 1402) (by decide +kernel), List.mem_of_getElem? (i := 1827) (by decide +kernel), List.mem_of_getElem? (i := 1828) (by decide +kernel)⟩
theorem lw_p92 : lw_okq (⟨"TripleTrainsModel", "switchesQuad", "(I)V"⟩, 33) := ⟨⟨by decide +kernel, by decide +kernel⟩, List.mem_of_getElem? (i := 1402) (by decide +kernel), List.mem_of_getElem? (i := 1843) (by decide +kernel), List.mem_of_getElem? (i := 1844) (by decide +kernel)⟩
theorem lw_p93 : lw_okq (⟨"TripleTrainsModel", "quadsBehind", "(I)I"⟩, 33) := ⟨⟨by decide +kernel, by decide +kernel⟩, List.mem_of_getElem? (i := 1402) (by decide +kernel), List.mem_of_getElem? (i := 1851) (by decide +kernel), List.mem_of_getElem? (i := 1852) (by decide +kernel)⟩
theorem lw_p94 : lw_okq (⟨"TripleTrainsModel", "quadsCounted", "()I"⟩, 33) := ⟨⟨by decide +kernel, by decide +kernel⟩, List.mem_of_getElem? (i := 1402) (by decide +kernel), List.mem_of_getElem? (i := 1855) (by decide +kernel), List.mem_of_getElem? (i := 1856) (by decide +kernel)⟩
theorem lw_p95 : lw_okq (⟨"TripleTrainsModel", "bestQuad", "(Z)I"⟩, 33) := ⟨⟨by decide +kernel, by decide +kernel⟩, List.mem_of_getElem? (i := 1402) (by decide +kernel), List.mem_of_getElem? (i := 1863) (by decide +kernel), List.mem_of_getElem? (i := 1864) (by decide +kernel)⟩
def lw_privs_6 : List (MethodName × Nat) := [(⟨"TripleTrainsModel", "takes", "(III)V"⟩, 33), (⟨"TripleTrainsModel", "begins", "()V"⟩, 33), (⟨"TripleTrainsModel", "ends", "()V"⟩, 33), (⟨"TripleTrainsModel", "removes", "(II)I"⟩, 33), (⟨"TripleTrainsModel", "by", "(I)I"⟩, 33), (⟨"TripleTrainsModel", "completionsFrom", "()I"⟩, 33), (⟨"TripleTrainsModel", "tightestPair", "()I"⟩, 33), (⟨"TripleTrainsModel", "waysOf", "(II)I"⟩, 33), (⟨"TripleTrainsModel", "noQuad", "(I)Z"⟩, 33), (⟨"TripleTrainsModel", "quadPoints", "(I)I"⟩, 33), (⟨"TripleTrainsModel", "bitAt", "(II)I"⟩, 33), (⟨"TripleTrainsModel", "oppositeOf", "(II)I"⟩, 33), (⟨"TripleTrainsModel", "switchesQuad", "(I)V"⟩, 33), (⟨"TripleTrainsModel", "quadsBehind", "(I)I"⟩, 33), (⟨"TripleTrainsModel", "quadsCounted", "()I"⟩, 33), (⟨"TripleTrainsModel", "bestQuad", "(Z)I"⟩, 33)]
theorem lw_r6 : ∀ q ∈ lw_privs_6, lw_okq q := List.forall_mem_cons.mpr ⟨lw_p80, List.forall_mem_cons.mpr ⟨lw_p81, List.forall_mem_cons.mpr ⟨lw_p82, List.forall_mem_cons.mpr ⟨lw_p83, List.forall_mem_cons.mpr ⟨lw_p84, List.forall_mem_cons.mpr ⟨lw_p85, List.forall_mem_cons.mpr ⟨lw_p86, List.forall_mem_cons.mpr ⟨lw_p87, List.forall_mem_cons.mpr ⟨lw_p88, List.forall_mem_cons.mpr ⟨lw_p89, List.forall_mem_cons.mpr ⟨lw_p90, List.forall_mem_cons.mpr ⟨lw_p91, List.forall_mem_cons.mpr ⟨lw_p92, List.forall_mem_cons.mpr ⟨lw_p93, List.forall_mem_cons.mpr ⟨lw_p94, List.forall_mem_cons.mpr ⟨lw_p95, fun _ h => absurd h List.not_mem_nil⟩⟩⟩⟩⟩⟩⟩⟩⟩⟩⟩⟩⟩⟩⟩⟩
theorem lw_p96 : lw_okq (⟨"TripleTrainsModel", "cyclesMany", "(II)I"⟩, 33) := ⟨⟨by decide +kernel, by decide +kernel⟩, List.mem_of_getElem? (i := 1402) (by decide +kernel), List.mem_of_getElem? (i := 1879) (by decide +kernel), List.mem_of_getElem? (i := 1880) (by decide +kernel)⟩
theorem lw_p97 : lw_okq (⟨"TripleTrainsModel", "isCycleFrom", "(III)Z"⟩, 33) := ⟨⟨by decide +kernel, by decide +kernel⟩, List.mem_of_getElem? (i := 1402) (by decide +kernel), List.mem_of_getElem? (i := 1883) (by decide +kernel), List.mem_of_getElem? (i := 1884) (by decide +kernel)⟩
theorem lw_p98 : lw_okq (⟨"TripleTrainsModel", "walks", "(III)Z"⟩, 33) := ⟨⟨by decide +kernel, by decide +kernel⟩, List.mem_of_getElem? (i := 1402) (by decide +kernel), List.mem_of_getElem? (i := 1887) (by decide +kernel), List.mem_of_getElem? (i := 1888) (by decide +kernel)⟩
theorem lw_p99 : lw_okq (⟨"TripleTrainsModel", "noCycle", "(III)Z"⟩, 33) := ⟨⟨by decide +kernel, by decide +kernel⟩, List.mem_of_getElem? (i := 1402) (by decide +kernel), List.mem_of_getElem? (i := 1895) (by decide +kernel), List.mem_of_getElem? (i := 1896) (by decide +kernel)⟩
theorem lw_p100 : lw_okq (⟨"TripleTrainsModel", "laysCycle", "(III)Z"⟩, 33) := ⟨⟨by decide +kernel, by decide +kernel⟩, List.mem_of_getElem? (i := 1402) (by decide +kernel), List.mem_of_getElem? (i := 1899) (by decide +kernel), List.mem_of_getElem? (i := 1900) (by decide +kernel)⟩
theorem lw_p101 : lw_okq (⟨"TripleTrainsModel", "switchesCycle", "(II)V"⟩, 33) := ⟨⟨by decide +kernel, by decide +kernel⟩, List.mem_of_getElem? (i := 1402) (by decide +kernel), List.mem_of_getElem? (i := 1911) (by decide +kernel), List.mem_of_getElem? (i := 1912) (by decide +kernel)⟩
theorem lw_p102 : lw_okq (⟨"TripleTrainsModel", "laysTrades", "(I)V"⟩, 33) := ⟨⟨by decide +kernel, by decide +kernel⟩, List.mem_of_getElem? (i := 1402) (by decide +kernel), List.mem_of_getElem? (i := 1927) (by decide +kernel), List.mem_of_getElem? (i := 1928) (by decide +kernel)⟩
theorem lw_p103 : lw_okq (⟨"TripleTrainsModel", "replacedBy", "(II)J"⟩, 33) := ⟨⟨by decide +kernel, by decide +kernel⟩, List.mem_of_getElem? (i := 1402) (by decide +kernel), List.mem_of_getElem? (i := 1931) (by decide +kernel), List.mem_of_getElem? (i := 1932) (by decide +kernel)⟩
theorem lw_p104 : lw_okq (⟨"TripleTrainsModel", "addsTrade", "(J)V"⟩, 33) := ⟨⟨by decide +kernel, by decide +kernel⟩, List.mem_of_getElem? (i := 1402) (by decide +kernel), List.mem_of_getElem? (i := 1935) (by decide +kernel), List.mem_of_getElem? (i := 1936) (by decide +kernel)⟩
theorem lw_p105 : lw_okq (⟨"TripleTrainsModel", "isPerfect", "(II)Z"⟩, 33) := ⟨⟨by decide +kernel, by decide +kernel⟩, List.mem_of_getElem? (i := 1402) (by decide +kernel), List.mem_of_getElem? (i := 1947) (by decide +kernel), List.mem_of_getElem? (i := 1948) (by decide +kernel)⟩
theorem lw_p106 : lw_okq (⟨"TripleTrainsModel", "quadSet", "(I)J"⟩, 33) := ⟨⟨by decide +kernel, by decide +kernel⟩, List.mem_of_getElem? (i := 1402) (by decide +kernel), List.mem_of_getElem? (i := 1955) (by decide +kernel), List.mem_of_getElem? (i := 1956) (by decide +kernel)⟩
theorem lw_p107 : lw_okq (⟨"TripleTrainsModel", "noTrain", "(III)Z"⟩, 33) := ⟨⟨by decide +kernel, by decide +kernel⟩, List.mem_of_getElem? (i := 1402) (by decide +kernel), List.mem_of_getElem? (i := 1963) (by decide +kernel), List.mem_of_getElem? (i := 1964) (by decide +kernel)⟩
theorem lw_p108 : lw_okq (⟨"TripleTrainsModel", "next", "(I)I"⟩, 33) := ⟨⟨by decide +kernel, by decide +kernel⟩, List.mem_of_getElem? (i := 1402) (by decide +kernel), List.mem_of_getElem? (i := 1972) (by decide +kernel), List.mem_of_getElem? (i := 1973) (by decide +kernel)⟩
theorem lw_p109 : lw_okq (⟨"TripleTrainsModel", "leadTo", "(I)I"⟩, 33) := ⟨⟨by decide +kernel, by decide +kernel⟩, List.mem_of_getElem? (i := 1402) (by decide +kernel), List.mem_of_getElem? (i := 1980) (by decide +kernel), List.mem_of_getElem? (i := 1981) (by decide +kernel)⟩
theorem lw_p110 : lw_okq (⟨"TripleTrainsModel", "roundFrom", "(I)I"⟩, 33) := ⟨⟨by decide +kernel, by decide +kernel⟩, List.mem_of_getElem? (i := 1402) (by decide +kernel), List.mem_of_getElem? (i := 1988) (by decide +kernel), List.mem_of_getElem? (i := 1989) (by decide +kernel)⟩
theorem lw_p111 : lw_okq (⟨"TripleTrainsModel", "beginsRound", "(I)Z"⟩, 33) := ⟨⟨by decide +kernel, by decide +kernel⟩, List.mem_of_getElem? (i := 1402) (by decide +kernel), List.mem_of_getElem? (i := 2004) (by decide +kernel), List.mem_of_getElem? (i := 2005) (by decide +kernel)⟩
def lw_privs_7 : List (MethodName × Nat) := [(⟨"TripleTrainsModel", "cyclesMany", "(II)I"⟩, 33), (⟨"TripleTrainsModel", "isCycleFrom", "(III)Z"⟩, 33), (⟨"TripleTrainsModel", "walks", "(III)Z"⟩, 33), (⟨"TripleTrainsModel", "noCycle", "(III)Z"⟩, 33), (⟨"TripleTrainsModel", "laysCycle", "(III)Z"⟩, 33), (⟨"TripleTrainsModel", "switchesCycle", "(II)V"⟩, 33), (⟨"TripleTrainsModel", "laysTrades", "(I)V"⟩, 33), (⟨"TripleTrainsModel", "replacedBy", "(II)J"⟩, 33), (⟨"TripleTrainsModel", "addsTrade", "(J)V"⟩, 33), (⟨"TripleTrainsModel", "isPerfect", "(II)Z"⟩, 33), (⟨"TripleTrainsModel", "quadSet", "(I)J"⟩, 33), (⟨"TripleTrainsModel", "noTrain", "(III)Z"⟩, 33), (⟨"TripleTrainsModel", "next", "(I)I"⟩, 33), (⟨"TripleTrainsModel", "leadTo", "(I)I"⟩, 33), (⟨"TripleTrainsModel", "roundFrom", "(I)I"⟩, 33), (⟨"TripleTrainsModel", "beginsRound", "(I)Z"⟩, 33)]
theorem lw_r7 : ∀ q ∈ lw_privs_7, lw_okq q := List.forall_mem_cons.mpr ⟨lw_p96, List.forall_mem_cons.mpr ⟨lw_p97, List.forall_mem_cons.mpr ⟨lw_p98, List.forall_mem_cons.mpr ⟨lw_p99, List.forall_mem_cons.mpr ⟨lw_p100, List.forall_mem_cons.mpr ⟨lw_p101, List.forall_mem_cons.mpr ⟨lw_p102, List.forall_mem_cons.mpr ⟨lw_p103, List.forall_mem_cons.mpr ⟨lw_p104, List.forall_mem_cons.mpr ⟨lw_p105, List.forall_mem_cons.mpr ⟨lw_p106, List.forall_mem_cons.mpr ⟨lw_p107, List.forall_mem_cons.mpr ⟨lw_p108, List.forall_mem_cons.mpr ⟨lw_p109, List.forall_mem_cons.mpr ⟨lw_p110, List.forall_mem_cons.mpr ⟨lw_p111, fun _ h => absurd h List.not_mem_nil⟩⟩⟩⟩⟩⟩⟩⟩⟩⟩⟩⟩⟩⟩⟩⟩
theorem lw_p112 : lw_okq (⟨"TripleTrainsModel", "isTurnedBy", "(I)Z"⟩, 33) := ⟨⟨by decide +kernel, by decide +kernel⟩, List.mem_of_getElem? (i := 1402) (by decide +kernel), List.mem_of_getElem? (i := 2012) (by decide +kernel), List.mem_of_getElem? (i := 2013) (by decide +kernel)⟩
theorem lw_p113 : lw_okq (⟨"TripleTrainsModel", "leastOf", "()I"⟩, 33) := ⟨⟨by decide +kernel, by decide +kernel⟩, List.mem_of_getElem? (i := 1402) (by decide +kernel), List.mem_of_getElem? (i := 2020) (by decide +kernel), List.mem_of_getElem? (i := 2021) (by decide +kernel)⟩
theorem lw_p114 : lw_okq (⟨"TripleTrainsModel", "isLeastOfOrbit", "(II)Z"⟩, 33) := ⟨⟨by decide +kernel, by decide +kernel⟩, List.mem_of_getElem? (i := 1402) (by decide +kernel), List.mem_of_getElem? (i := 2028) (by decide +kernel), List.mem_of_getElem? (i := 2029) (by decide +kernel)⟩
theorem lw_p115 : lw_okq (⟨"TripleTrainsModel", "closed", "(I)I"⟩, 33) := ⟨⟨by decide +kernel, by decide +kernel⟩, List.mem_of_getElem? (i := 1402) (by decide +kernel), List.mem_of_getElem? (i := 2040) (by decide +kernel), List.mem_of_getElem? (i := 2041) (by decide +kernel)⟩
theorem lw_p116 : lw_okq (⟨"TripleTrainsModel", "isClosed", "(I)Z"⟩, 33) := ⟨⟨by decide +kernel, by decide +kernel⟩, List.mem_of_getElem? (i := 1402) (by decide +kernel), List.mem_of_getElem? (i := 2048) (by decide +kernel), List.mem_of_getElem? (i := 2049) (by decide +kernel)⟩
theorem lw_p117 : lw_okq (⟨"TripleTrainsModel", "holdsNone", "(I)Z"⟩, 33) := ⟨⟨by decide +kernel, by decide +kernel⟩, List.mem_of_getElem? (i := 1402) (by decide +kernel), List.mem_of_getElem? (i := 2056) (by decide +kernel), List.mem_of_getElem? (i := 2057) (by decide +kernel)⟩
theorem lw_p118 : lw_okq (⟨"TripleTrainsModel", "mostFrom", "(II)I"⟩, 33) := ⟨⟨by decide +kernel, by decide +kernel⟩, List.mem_of_getElem? (i := 1402) (by decide +kernel), List.mem_of_getElem? (i := 2068) (by decide +kernel), List.mem_of_getElem? (i := 2069) (by decide +kernel)⟩
theorem lw_p119 : lw_okq (⟨"TripleTrainsModel", "write", "(I)V"⟩, 33) := ⟨⟨by decide +kernel, by decide +kernel⟩, List.mem_of_getElem? (i := 1402) (by decide +kernel), List.mem_of_getElem? (i := 2076) (by decide +kernel), List.mem_of_getElem? (i := 2077) (by decide +kernel)⟩
theorem lw_p120 : lw_okq (⟨"TripleTrainsModel", "writePoint", "(I)V"⟩, 33) := ⟨⟨by decide +kernel, by decide +kernel⟩, List.mem_of_getElem? (i := 1402) (by decide +kernel), List.mem_of_getElem? (i := 2080) (by decide +kernel), List.mem_of_getElem? (i := 2081) (by decide +kernel)⟩
def lw_privs_8 : List (MethodName × Nat) := [(⟨"TripleTrainsModel", "isTurnedBy", "(I)Z"⟩, 33), (⟨"TripleTrainsModel", "leastOf", "()I"⟩, 33), (⟨"TripleTrainsModel", "isLeastOfOrbit", "(II)Z"⟩, 33), (⟨"TripleTrainsModel", "closed", "(I)I"⟩, 33), (⟨"TripleTrainsModel", "isClosed", "(I)Z"⟩, 33), (⟨"TripleTrainsModel", "holdsNone", "(I)Z"⟩, 33), (⟨"TripleTrainsModel", "mostFrom", "(II)I"⟩, 33), (⟨"TripleTrainsModel", "write", "(I)V"⟩, 33), (⟨"TripleTrainsModel", "writePoint", "(I)V"⟩, 33)]
theorem lw_r8 : ∀ q ∈ lw_privs_8, lw_okq q := List.forall_mem_cons.mpr ⟨lw_p112, List.forall_mem_cons.mpr ⟨lw_p113, List.forall_mem_cons.mpr ⟨lw_p114, List.forall_mem_cons.mpr ⟨lw_p115, List.forall_mem_cons.mpr ⟨lw_p116, List.forall_mem_cons.mpr ⟨lw_p117, List.forall_mem_cons.mpr ⟨lw_p118, List.forall_mem_cons.mpr ⟨lw_p119, List.forall_mem_cons.mpr ⟨lw_p120, fun _ h => absurd h List.not_mem_nil⟩⟩⟩⟩⟩⟩⟩⟩⟩
def lw_privs : List (MethodName × Nat) := lw_privs_1 ++ (lw_privs_2 ++ (lw_privs_3 ++ (lw_privs_4 ++ (lw_privs_5 ++ (lw_privs_6 ++ (lw_privs_7 ++ (lw_privs_8)))))))
def lw_tbl : List Cond := k2_sels lw_privs ++ tables_1
theorem lw_privs_ok : ∀ q ∈ lw_privs, lw_okq q := by
  show ∀ q ∈ lw_privs_1 ++ (lw_privs_2 ++ (lw_privs_3 ++ (lw_privs_4 ++ (lw_privs_5 ++ (lw_privs_6 ++ (lw_privs_7 ++ (lw_privs_8))))))), lw_okq q
  exact List.forall_mem_append.mpr ⟨lw_r1, List.forall_mem_append.mpr ⟨lw_r2, List.forall_mem_append.mpr ⟨lw_r3, List.forall_mem_append.mpr ⟨lw_r4, List.forall_mem_append.mpr ⟨lw_r5, List.forall_mem_append.mpr ⟨lw_r6, List.forall_mem_append.mpr ⟨lw_r7, lw_r8⟩⟩⟩⟩⟩⟩⟩
/-- the streams that the claim lets the run draw from -/
abbrev lw_cs : List Choice := [Jvm.Choice.named "NaN.bits"]
theorem lw_bits : nanBits ∈ lw_cs := by first | decide | exact List.mem_cons_self | simp [lw_cs, nanBits]
/-! ===== BEGIN words of one list among another's, by their places ===== -/
theorem goodIn_r {big : List Cond} (ws : List Cond) (ps : List Nat) (hp : ws = ps.filterMap (fun i => big[i]?)) (h : ws.all goodWord = true) : GoodIn big ws := by
  intro w hw
  have h1 := List.all_eq_true.mp h w hw
  rw [hp] at hw
  obtain ⟨i, -, hi⟩ := List.mem_filterMap.mp hw
  have hm : w ∈ big := by first | exact List.mem_of_getElem? hi | exact List.getElem?_mem hi
  exact ⟨hm, good_of_word h1⟩
theorem goodIn_app {big a b : List Cond} (ha : GoodIn big a) (hb : GoodIn big b) : GoodIn big (a ++ b) := fun w h => (List.mem_append.mp h).elim (ha w) (hb w)
theorem goodIn_ca {big a b : List Cond} {c : Cond} (ha : GoodIn big (c :: a)) (hb : GoodIn big b) : GoodIn big (c :: (a ++ b)) := fun w h => (List.mem_cons.mp h).elim (fun e => ha w (List.mem_cons.mpr (Or.inl e))) (fun h => (List.mem_append.mp h).elim (fun h => ha w (List.mem_cons.mpr (Or.inr h))) (hb w))
theorem goodIn_sub {big ws : List Cond} (hm : ∀ w ∈ ws, w ∈ big) (h : ws.all goodWord = true) : GoodIn big ws := fun w hw => ⟨hm w hw, good_of_word (List.all_eq_true.mp h w hw)⟩
/-! ===== END ===== -/

/-! ===== BEGIN exceptions that leave a method, and their catching by the caller (launches without stack traces) ===== -/
section VXA
/-! The laws vx_back, vx_callV, vx_callS, vx_callSW, vx_throw0, vx_throwS follow proofs of the library, with one case more: JvmDerived/Free/Laws.lean (Back.of_free), Shelf42/LK1.lean (callV, callS), Shelf/KitTraced.lean (throwNew0V, throwNewS). -/
/-- where a method has thrown q: the class by its name, the cell, what was written, the world -/
def vx_T (XC : String → State → State → Prop) (st : State) (q : Addr) (t : State) (mc ms : Nat) (free : Addr → Prop) : Prop :=
  ∃ (E : String) (ce : Cell) (L : List Loc), XC E st t ∧ t.heap[q]? = some ce ∧ ce.vm = .none ∧ st.vm.findClass E = some ce.cls ∧ st.WarmedH t.vm ∧ st.sameButNew ({ t with vm := st.vm } : State) L mc ms ∧ ∀ z ∈ L, free z.base
def vx_Q (Qc : Array Value → State → Outcome → State → Prop) (XC : String → State → State → Prop) (mc ms : Nat) (free : Addr → Prop) : Array Value → State → Outcome → State → Prop := fun a st o t =>
  (Qc a st o t ∧ ∃ L, FrameEnd st o t L mc ms ∧ ∀ q ∈ L, free q.base) ∨ ∃ q, o = .threw q ∧ vx_T XC st q t mc ms free
/-- a callee that returns or throws -/
def vx_Met (l : Launch) (y : MethodName) (ws : List Cond) (rm : Room) (Pc : Array Value → State → Prop) (Qc : Array Value → State → Outcome → State → Prop) (XC : String → State → State → Prop) (mc ms : Nat) (free : Addr → Prop) : Prop :=
  MetFree l y (headSpec ws rm) Pc (fun _ _ _ _ _ => True) (vx_Q Qc XC mc ms free)
def vx_Post (XC : String → State → State → Prop) (mc ms : Nat) (free : Addr → Prop) : Pt → Array Value → Addr → Pt → Prop := fun A a q B =>
  ∃ (g : JFrame) (mk : MethodId) (t : State) (L : List Loc) (E : String) (ce : Cell), B.U.heap = t.heap ∧ B.U.vm = t.vm ∧ XC E (A.U.calling g mk a) t ∧ t.heap[q]? = some ce ∧ ce.vm = .none ∧ A.U.vm.findClass E = some ce.cls ∧ B.locs = A.locs ++ L ∧ (∀ z ∈ L, free z.base) ∧ B.cells = A.cells + mc ∧ B.slots = A.slots + ms
def vx_Back (l : Launch) (R : Room) (p : Program) (e : Env) (below : List Frame) (s : State) (sargs : Array Value) (y : MethodName) (len W9 : Nat)
    (Pre : Pt → Array Value → Prop) (Post : Pt → Array Value → Option Value → Pt → Prop) (PostX : Pt → Array Value → Addr → Pt → Prop) : Prop :=
  ∀ (m : MethodId) (meth : Method) (c : Code) (A : Pt) (g : JFrame) (ig : Instr) (mk : MethodId) (a : Array Value),
    Stand p l e R s m sargs below meth c A.U A.locs A.cells A.slots → g.method = m → g.locals.size = c.maxLocals → decode c.code g.pc = .ok (ig, len) →
    2 * g.monitorRoom + (g.stack.map fun v => v.category).sum ≤ W9 → A.U.methodNamed? y = some mk → Pre A a →
    (∃ (v : Option Value) (B : Pt), Stand p l e R s m sargs below meth c B.U B.locs B.cells B.slots ∧ Post A a v B ∧
      Steps p.tables e below (doInvoke e (A.U.setTop g) [] mk a).1 (B.U.setTop { g with pc := g.pc + len, stack := v.toList ++ g.stack })) ∨
    (∃ (q : Addr) (B : Pt), Stand p l e R s m sargs below meth c B.U B.locs B.cells B.slots ∧ PostX A a q B ∧
      Steps p.tables e below (doInvoke e (A.U.setTop g) [] mk a).1 ((B.U.setTop g).pushFrame (.throwing q)))
section Payer
variable {l : Launch} {R : Room} {p : Program} {e : Env} {below : List Frame} {s : State} {sargs : Array Value} {y : MethodName} {len W9 : Nat}
theorem vx_back {ws : List Cond} {rm : Room} {Pc : Array Value → State → Prop} {Qc : Array Value → State → Outcome → State → Prop} {XC : String → State → State → Prop} {mc ms : Nat} {free : Addr → Prop} {bytes : ByteArray} {maxL : Nat} {ret : Option FieldType}
    (hM : vx_Met l y ws rm Pc Qc XC mc ms free) (hblind : FrameBlind Pc) (hrc : rm.cells = mc) (hrs : rm.slots = ms)
    (hframes : rm.frames + 1 ≤ R.frames) (hlocals : W9 + (maxL + 11) + rm.locals ≤ R.locals)
    (hws : ∀ w ∈ ws, ∀ a' U, s.WarmedH U.vm → w.before a' U = true) (hcode : Cond.code y bytes maxL ret ∈ ws) (hinit : ∀ a' U, s.WarmedH U.vm → (Cond.initialized y.cls).before a' U = true) :
    vx_Back l R p e below s sargs y len W9 (PreOf R mc ms Pc) (PostOf Qc mc ms free) (vx_Post XC mc ms free) := by
  intro m meth c A g ig mk a X hg hsize hdg hW hn hp
  have h1 : (headSpec ws rm).pre.before a A.U = true := atoms_intro fun w hw => hws w hw _ _ X.warmed
  have h2 : (Cond.code y bytes maxL ret).before a A.U = true := hws _ hcode _ _ X.warmed
  have h3 : (Cond.initialized y.cls).before a A.U = true := hinit _ _ X.warmed
  have h4 : A.cells + (headSpec ws rm).room.cells ≤ R.cells := by rw [show (headSpec ws rm).room.cells = mc from hrc]; exact hp.1
  have h5 : A.slots + (headSpec ws rm).room.slots ≤ R.slots := by rw [show (headSpec ws rm).room.slots = ms from hrs]; exact hp.2.1
  have hPc : Pc a (A.U.calling g mk a) := hblind _ _ _ _ hp.2.2
  obtain ⟨U, Ls, c0, s0⟩ := A
  dsimp only [Pt.U, Pt.locs, Pt.cells, Pt.slots] at h1 h2 h3 h4 h5 X hn hPc ⊢
  obtain ⟨methY, cY, hmY, hcY, -, hlY, -, -, -, -⟩ := Cond.code_spec hn h2
  obtain ⟨kY, hkY, -⟩ := className_of_methodNamed hn
  have hinitY : kY.init = .initialized := Cond.initialized_spec (findClass_of_methodNamed hn) hkY h3
  have h : At U g.method c below := by rw [hg]; exact X.here
  have hlocals9 : W9 + (maxL + 11) + (headSpec ws rm).room.locals ≤ R.locals := hlocals
  have happ : (headSpec ws rm).appliesLoose y e.platform (U.calling g mk a) = true :=
    Spec.appliesLoose_calling (g := g) h hdg hn hkY hinitY
      (X.room_calling (g := g) (R' := (headSpec ws rm).room) hsize hmY hcY hframes (by rw [hlY]; omega) h4 h5) h1
  obtain ⟨mid, hmid⟩ := h.above
  have hfr : (U.setTop g).frames = (.java g :: mid) ++ below := by rw [State.frames_setTop' g h.top, hmid]; rfl
  obtain ⟨o, s₂, hsteps, -, hend, hq⟩ := Steps.callFree hM p X.admits X.cas X.clock (acts := []) hfr happ hPc trivial
  have hq' : vx_Q Qc XC mc ms free a (U.calling g mk a) o s₂ := hq
  rw [State.frames_setTop' g h.top] at hend
  obtain ⟨g₀, hg0⟩ := Option.isSome_iff_exists.mp h.top
  obtain ⟨r, hr⟩ := State.topJava?_eq_some.mp hg0
  have hr' : (({ U with heap := s₂.heap, slotsUsed := s₂.slotsUsed } : State).setVm s₂.vm).frames = .java g₀ :: r := hr
  rcases hq' with ⟨hqc, L, hfe, hL⟩ | ⟨q, rfl, E, ce, L, hx, hce, hcv, hcl, hW₂, hsm, hL⟩
  · obtain ⟨⟨v, rfl⟩, hW₂, e2, q2, q3, q4, q5, q6⟩ := id hfe
    have e3 : s₂ = ({ (U.calling g mk a).setFrames s₂.frames with heap := s₂.heap, slotsUsed := s₂.slotsUsed } : State).setVm s₂.vm := by
      have : s₂ = ({ s₂ with vm := (U.calling g mk a).vm } : State).setVm s₂.vm := rfl
      rw [e2] at this
      exact this
    obtain ⟨c₂, i₂, len₂, hc₂, hd₂, hf₂⟩ := hend
    have hW' : U.WarmedH s₂.vm := hW₂
    have hcc : c₂ = c := by
      have h1 : s₂.code? g.method = U.code? g.method := by
        rw [State.code?_eq, State.code?_eq, hW'.alike.method?]
      exact Option.some.inj (hc₂.symm.trans (h1.trans h.code))
    subst hcc
    have hlen : len₂ = len := by rw [hdg] at hd₂; cases hd₂; rfl
    subst hlen
    have hs₂ : s₂ = (({ U with heap := s₂.heap, slotsUsed := s₂.slotsUsed } : State).setVm s₂.vm).setTop { g with pc := g.pc + len₂, stack := v.toList ++ g.stack } := by
      refine e3.trans ?_
      rw [hf₂, State.calling_eq h.top, State.setFrames_setFrames, State.setTop_of_frames _ hr', hr]
      rfl
    have hsame : U.sameButNew ({ U with heap := s₂.heap, slotsUsed := s₂.slotsUsed } : State) L mc ms := by
      refine ⟨?_, q2, q3, q4, q5, q6⟩
      obtain ⟨t, ht, -⟩ := State.frames_cons hr
      show ({ U with heap := s₂.heap, slotsUsed := s₂.slotsUsed } : State) = { U.setFrames U.frames with heap := s₂.heap, slotsUsed := s₂.slotsUsed }
      rw [State.setFrames_self ht]
    subst hg
    refine Or.inl ⟨v, ⟨(({ U with heap := s₂.heap, slotsUsed := s₂.slotsUsed } : State).setVm s₂.vm), Ls ++ L, c0 + mc, s0 + ms⟩,
      ⟨X.admits, X.cas, X.clock, X.frames, X.room, X.hears, X.method, X.code, (X.here.setHeapUsed s₂.heap s₂.slotsUsed).setVm hW'.alike, X.tail, State.WarmedH.trans X.warmed hW', X.limits, X.bytes, X.same.trans (hsame.setVm s.vm)⟩,
      ⟨g, mk, s₂, L, rfl, rfl, hqc, rfl, hL, rfl, rfl⟩, ?_⟩
    show Steps p.tables e below _ ((({ U with heap := s₂.heap, slotsUsed := s₂.slotsUsed } : State).setVm s₂.vm).setTop { g with pc := g.pc + len₂, stack := v.toList ++ g.stack })
    rw [← hs₂]
    exact hsteps
  · obtain ⟨e2, q2, q3, q4, q5, q6⟩ := id hsm
    have e3 : s₂ = ({ (U.calling g mk a).setFrames s₂.frames with heap := s₂.heap, slotsUsed := s₂.slotsUsed } : State).setVm s₂.vm := by
      have : s₂ = ({ s₂ with vm := (U.calling g mk a).vm } : State).setVm s₂.vm := rfl
      rw [e2] at this
      exact this
    have hf₂ : s₂.frames = .throwing q :: .java g :: U.frames.tail := hend
    have hW' : U.WarmedH s₂.vm := hW₂
    have hs₂ : s₂ = ((({ U with heap := s₂.heap, slotsUsed := s₂.slotsUsed } : State).setVm s₂.vm).setTop g).pushFrame (.throwing q) := by
      refine e3.trans ?_
      rw [hf₂, State.calling_eq h.top, State.setFrames_setFrames, State.pushFrame, State.frames_setTop _ hr', State.setTop_of_frames _ hr', State.setFrames_setFrames, hr]
      rfl
    have hsame : U.sameButNew ({ U with heap := s₂.heap, slotsUsed := s₂.slotsUsed } : State) L mc ms := by
      refine ⟨?_, q2, q3, q4, q5, q6⟩
      obtain ⟨t, ht, -⟩ := State.frames_cons hr
      show ({ U with heap := s₂.heap, slotsUsed := s₂.slotsUsed } : State) = { U.setFrames U.frames with heap := s₂.heap, slotsUsed := s₂.slotsUsed }
      rw [State.setFrames_self ht]
    subst hg
    refine Or.inr ⟨q, ⟨(({ U with heap := s₂.heap, slotsUsed := s₂.slotsUsed } : State).setVm s₂.vm), Ls ++ L, c0 + mc, s0 + ms⟩,
      ⟨X.admits, X.cas, X.clock, X.frames, X.room, X.hears, X.method, X.code, (X.here.setHeapUsed s₂.heap s₂.slotsUsed).setVm hW'.alike, X.tail, State.WarmedH.trans X.warmed hW', X.limits, X.bytes, X.same.trans (hsame.setVm s.vm)⟩,
      ⟨g, mk, s₂, L, E, ce, rfl, rfl, hx, hce, hcv, hcl, rfl, hL, rfl, rfl⟩, ?_⟩
    show Steps p.tables e below _ (((({ U with heap := s₂.heap, slotsUsed := s₂.slotsUsed } : State).setVm s₂.vm).setTop g).pushFrame (.throwing q))
    rw [← hs₂]
    exact hsteps
end Payer
section Calls
variable {p : Program} {l : Launch} {e : Env} {R : Room} {s : State} {m : MethodId} {args : Array Value} {below : List Frame} {meth : Method} {c : Code} {T : State} {locs : List Loc} {cells slots : Nat}
theorem vx_callV (X : Stand p l e R s m args below meth c T locs cells slots) (hexec : p.tables.exec = Jvm.exec) {own C : String} {index : Nat} {y : MethodName} {bytes : ByteArray} {maxL : Nat} {ret : Option FieldType}
    (hown : s.vm.findClass own = some m.cls) (hlink : (Cond.methodLink own index y).before args s = true) (hinst : (Cond.instanceMethod y).before args s = true) (hsel : (Cond.selects C y y).before args s = true)
    (hcode : (Cond.code y bytes maxL ret).before args s = true) (hy : y.cls ≠ "java/lang/invoke/MethodHandle" ∧ y.cls ≠ "java/lang/invoke/VarHandle")
    {W9 : Nat} {Pre : Pt → Array Value → Prop} {Post : Pt → Array Value → Option Value → Pt → Prop} {PostX : Pt → Array Value → Addr → Pt → Prop} (hK : vx_Back l R p e below s args y 3 W9 Pre Post PostX)
    {b : Addr} {cellB : Cell} (hcell : T.heap[b]? = some cellB) (hobj : cellB.vm.isStatics = false) (hcls : s.vm.findClass C = some cellB.cls)
    {g : JFrame} (hg : g.method = m) (hsize : g.locals.size = c.maxLocals) {argsL rest : List Value} (hlen : ∀ sig, parseMethodDescriptor y.desc = some sig → argsL.length = sig.parameters.length)
    (hstack : g.stack = argsL.reverse ++ .ref b :: rest) (hW : 2 * g.monitorRoom + (rest.map fun v => v.category).sum ≤ W9) (hdg : decode c.code g.pc = .ok (.invokevirtual index, 3))
    (hpre : ∀ vm₁, s.WarmedH vm₁ → Pre ⟨T.setVm vm₁, locs, cells, slots⟩ (Value.ref b :: argsL).toArray) :
    (∃ (v : Option Value) (vm₁ : Vm) (B : Pt), s.WarmedH vm₁ ∧ Stand p l e R s m args below meth c B.U B.locs B.cells B.slots ∧ Post ⟨T.setVm vm₁, locs, cells, slots⟩ (Value.ref b :: argsL).toArray v B ∧
      ∀ target, Steps p.tables e below (B.U.setTop { g with pc := g.pc + 3, stack := v.toList ++ rest }) target → Steps p.tables e below (T.setTop g) target) ∨
    (∃ (q : Addr) (vm₁ : Vm) (B : Pt), s.WarmedH vm₁ ∧ Stand p l e R s m args below meth c B.U B.locs B.cells B.slots ∧ PostX ⟨T.setVm vm₁, locs, cells, slots⟩ (Value.ref b :: argsL).toArray q B ∧
      Steps p.tables e below (T.setTop g) ((B.U.setTop { g with stack := rest }).pushFrame (.throwing q))) := by
  obtain ⟨mk, methM, hnamed, hmethM, hstM, habM⟩ := Cond.instanceMethod_spec hinst
  obtain ⟨methM', cM, hmethM', -, -, -, -, -, -, hsigM⟩ := Cond.code_spec hnamed hcode
  cases hmethM.symm.trans hmethM'
  obtain ⟨c2, r2, m2, q1, q2, q3, q4, kP, hkP, hkPi⟩ := Cond.selects_spec hsel
  cases hcls.symm.trans q1
  cases (State.methodFound?_of_named hnamed hy).symm.trans q2
  cases hnamed.symm.trans q3
  have hselP : selectMethod e.platform s.vm cellB.cls mk = .method mk := by rw [Launch.admits_selectMethod X.admits]; exact q4
  obtain ⟨vm₁, X₁, hstep₁⟩ := X.invokevirtual hexec hown hlink hnamed hmethM hstM hkP hkPi hy (a := b) (cell := cellB) hcell
    (fun z h => by rw [h] at hobj; cases hobj) hselP hmethM habM hkP hkPi (g := g) hg (argsL := argsL) (rest := rest) (hlen _ hsigM) hstack hdg
  rcases hK m meth c ⟨T.setVm vm₁, locs, cells, slots⟩ { g with stack := rest } (.invokevirtual index) mk (Value.ref b :: argsL).toArray X₁ hg hsize hdg hW (X₁.named hnamed) (hpre vm₁ X₁.warmed) with ⟨v, B, X', hpost, hsteps⟩ | ⟨q, B, X', hpost, hsteps⟩
  · exact Or.inl ⟨v, vm₁, B, X₁.warmed, X', hpost, fun target h => hstep₁ _ fun acts => by rw [doInvoke_state]; exact hsteps.trans h⟩
  · exact Or.inr ⟨q, vm₁, B, X₁.warmed, X', hpost, hstep₁ _ fun acts => by rw [doInvoke_state]; exact hsteps⟩
theorem vx_callS (X : Stand p l e R s m args below meth c T locs cells slots) (hexec : p.tables.exec = Jvm.exec) {own : String} {index : Nat} {y : MethodName} {bytes : ByteArray} {maxL : Nat} {ret : Option FieldType}
    (hown : s.vm.findClass own = some m.cls) (hlink : (Cond.methodLink own index y).before args s = true) (hstat : (Cond.static y).before args s = true) (hinit : (Cond.initialized y.cls).before args s = true)
    (hcode : (Cond.code y bytes maxL ret).before args s = true) (hy : y.cls ≠ "java/lang/invoke/MethodHandle" ∧ y.cls ≠ "java/lang/invoke/VarHandle")
    {W9 : Nat} {Pre : Pt → Array Value → Prop} {Post : Pt → Array Value → Option Value → Pt → Prop} {PostX : Pt → Array Value → Addr → Pt → Prop} (hK : vx_Back l R p e below s args y 3 W9 Pre Post PostX)
    {g : JFrame} (hg : g.method = m) (hsize : g.locals.size = c.maxLocals) {argsL rest : List Value} (hlen : ∀ sig, parseMethodDescriptor y.desc = some sig → argsL.length = sig.parameters.length)
    (hstack : g.stack = argsL.reverse ++ rest) (hW : 2 * g.monitorRoom + (rest.map fun v => v.category).sum ≤ W9) (hdg : decode c.code g.pc = .ok (.invokestatic index, 3))
    (hpre : ∀ vm₁, s.WarmedH vm₁ → Pre ⟨T.setVm vm₁, locs, cells, slots⟩ argsL.toArray) :
    (∃ (v : Option Value) (vm₁ : Vm) (B : Pt), s.WarmedH vm₁ ∧ Stand p l e R s m args below meth c B.U B.locs B.cells B.slots ∧ Post ⟨T.setVm vm₁, locs, cells, slots⟩ argsL.toArray v B ∧
      ∀ target, Steps p.tables e below (B.U.setTop { g with pc := g.pc + 3, stack := v.toList ++ rest }) target → Steps p.tables e below (T.setTop g) target) ∨
    (∃ (q : Addr) (vm₁ : Vm) (B : Pt), s.WarmedH vm₁ ∧ Stand p l e R s m args below meth c B.U B.locs B.cells B.slots ∧ PostX ⟨T.setVm vm₁, locs, cells, slots⟩ argsL.toArray q B ∧
      Steps p.tables e below (T.setTop g) ((B.U.setTop { g with stack := rest }).pushFrame (.throwing q))) := by
  obtain ⟨mk, hnamed⟩ := Cond.code_named hcode
  obtain ⟨methM, cM, hmethM, -, -, -, -, -, -, hsigM⟩ := Cond.code_spec hnamed hcode
  have hstatic : methM.isStatic = true := Cond.static_spec hnamed hmethM hstat
  obtain ⟨kP, hkP, -⟩ := className_of_methodNamed hnamed
  have hinitP : kP.init = .initialized := Cond.initialized_spec (findClass_of_methodNamed hnamed) hkP hinit
  obtain ⟨vm₁, X₁, hstep₁⟩ := X.invokestatic hexec hown hlink hnamed hmethM hstatic hkP hinitP hy (g := g) hg (argsL := argsL) (rest := rest) (hlen _ hsigM) hstack hdg
  rcases hK m meth c ⟨T.setVm vm₁, locs, cells, slots⟩ { g with stack := rest } (.invokestatic index) mk argsL.toArray X₁ hg hsize hdg hW (X₁.named hnamed) (hpre vm₁ X₁.warmed) with ⟨v, B, X', hpost, hsteps⟩ | ⟨q, B, X', hpost, hsteps⟩
  · exact Or.inl ⟨v, vm₁, B, X₁.warmed, X', hpost, fun target h => hstep₁ _ fun acts => by rw [doInvoke_state]; exact hsteps.trans h⟩
  · exact Or.inr ⟨q, vm₁, B, X₁.warmed, X', hpost, hstep₁ _ fun acts => by rw [doInvoke_state]; exact hsteps⟩
end Calls
theorem vx_cls {s : State} {T : State} {vm₁ : Vm} {E : String} {k : ClassId} (hW : s.WarmedH vm₁) (h : (T.setVm vm₁).vm.findClass E = some k) : s.vm.findClass E = some k := by
  have h1 : vm₁.findClass E = some k := h
  rw [hW.alike.findClass] at h1
  exact h1
/-- the method's frame g, with q thrown over it -/
def vx_W (p : Program) (l : Launch) (e : Env) (R : Room) (s : State) (m : MethodId) (args : Array Value) (below : List Frame) (meth : Method) (c : Code) (H : Heap) (locs : List Loc) (cells slots : Nat) (Q : State → Prop) (g : JFrame) (q : Addr) : Prop :=
  ∀ T : State, T.heap = H → Stand p l e R s m args below meth c T locs cells slots → ∃ t, Steps p.tables e below ((T.setTop g).pushFrame (.throwing q)) t ∧ Q t
def vx_Run (p : Program) (l : Launch) (e : Env) (R : Room) (s : State) (m : MethodId) (args : Array Value) (below : List Frame) (meth : Method) (c : Code) (H : Heap) (locs : List Loc) (cells slots mc ms : Nat) (g : JFrame) (rest : List Value) (Qa : State → Outcome → State → Prop) (XC : String → State → State → Prop) (free : Addr → Prop) : Prop :=
  ∀ T : State, T.heap = H → Stand p l e R s m args below meth c T locs cells slots →
    (∃ (v : Option Value) (st₀ t T' : State) (L : List Loc), st₀.heap = H ∧ Stand p l e R s m args below meth c T' (locs ++ L) (cells + mc) (slots + ms) ∧ (∀ q ∈ L, free q.base) ∧ T'.heap = t.heap ∧ T'.vm = t.vm ∧ Qa st₀ (.returned v) t ∧
      Goes p e below T g T' { g with pc := g.pc + 3, stack := v.toList ++ rest }) ∨
    (∃ (q : Addr) (st₀ t T' : State) (L : List Loc) (E : String) (ce : Cell), st₀.heap = H ∧ Stand p l e R s m args below meth c T' (locs ++ L) (cells + mc) (slots + ms) ∧ (∀ z ∈ L, free z.base) ∧ T'.heap = t.heap ∧ T'.vm = t.vm ∧ XC E st₀ t ∧ t.heap[q]? = some ce ∧ ce.vm = .none ∧ s.vm.findClass E = some ce.cls ∧
      Steps p.tables e below (T.setTop g) ((T'.setTop { g with stack := rest }).pushFrame (.throwing q)))
def vx_X {S : Type} (px : S → Prop) (B : String → S → State → Prop) (A : Nat → Prop) : String → State → State → Prop := fun E st t => ∃ u : S, px u ∧ B E u t ∧ va_F A st t
section Runs
variable {p : Program} {l : Launch} {e : Env} {R : Room} {s : State} {m : MethodId} {args : Array Value} {below : List Frame} {meth : Method} {c : Code} {H : Heap} {locs : List Loc} {cells slots : Nat}
variable {y : MethodName} {bytes cc : ByteArray} {maxL nL mc ms n index : Nat} {ret : Option FieldType} {ws : List Cond} {rm : Room} {Pc : Array Value → State → Prop} {Qc : Array Value → State → Outcome → State → Prop} {XC : String → State → State → Prop} {free : Addr → Prop} {Ts : List Cond} {own C : String} {b : Addr} {As rest : List Value} {g : JFrame}
theorem vx_callBack (cb : CallB R s args own index y bytes maxL ret ws rm mc ms n) (hM : vx_Met l y ws rm Pc Qc XC mc ms free) (hbl : FrameBlind Pc) : vx_Back l R p e below s args y 3 8 (PreOf R mc ms Pc) (PostOf Qc mc ms free) (vx_Post XC mc ms free) := by
  obtain ⟨hrc, hrs, hfr, hlo, hws, hcw, -, hini, -⟩ := cb
  exact vx_back (bytes := bytes) (maxL := maxL) (ret := ret) hM hbl hrc hrs hfr hlo hws hcw (fun a' U hW => word_at hW (Or.inl (by first | rfl | simp [Cond.onTables, Cond.keeps, Cond.steady])) hini)
theorem vx_runV (S : CallFix p m c cc nL s args Ts own) (hM : vx_Met l y ws rm Pc Qc XC mc ms free) (cw : CallW R s args own C index y bytes maxL ret ws rm mc ms n) (hp : PreV s H C b Pc As)
    (hg : g.method = m) (hn : As.length = n) (hsize : g.locals.size = nL) (hstack : g.stack = As.reverse ++ .ref b :: rest) (hW : 2 * g.monitorRoom + (rest.map fun v => v.category).sum ≤ 8) (hdg : decode cc g.pc = .ok (.invokevirtual index, 3)) (hf : cells + mc ≤ R.cells ∧ slots + ms ≤ R.slots) :
    vx_Run p l e R s m args below meth c H locs cells slots mc ms g rest (Qc (Value.ref b :: As).toArray) XC free := by
  have hK : vx_Back l R p e below s args y 3 8 (PreOf R mc ms Pc) (PostOf Qc mc ms free) (vx_Post XC mc ms free) := vx_callBack cw.1 hM hp.1
  obtain ⟨⟨-, -, -, -, -, -, hcode, -, hy, hlen, hl⟩, hin, hse⟩ := cw
  obtain ⟨hx, hb, hml, ho, -⟩ := S
  obtain ⟨-, ⟨cellB, hcB, hoB, hclB⟩, hPc⟩ := hp
  intro T hT X
  rcases vx_callV X hx (C := C) (bytes := bytes) (maxL := maxL) (ret := ret) ho hl hin hse hcode hy hK (by rw [hT]; exact hcB) hoB hclB hg (hsize.trans hml.symm) (argsL := As) (rest := rest) (fun sig h => hn.trans (hlen sig h)) hstack hW (by rw [hb]; exact hdg)
    (fun vm₁ hW₁ => ⟨hf.1, hf.2, hPc (T.setVm vm₁) hT hW₁⟩) with ⟨v, vm₁, ⟨U', l2, c2, s2⟩, hW₁, X', ⟨g', mk, t, L, e1, e2, hq, h1, hL, h2, h3⟩, st⟩ | ⟨q, vm₁, ⟨U', l2, c2, s2⟩, hW₁, X', ⟨g', mk, t, L, E, ce, e1, e2, hq, hce, hcv, hcl, h1, hL, h2, h3⟩, st⟩
  · dsimp only [Pt.U, Pt.locs, Pt.cells, Pt.slots] at X' e1 e2 h1 h2 h3 st
    subst h1; subst h2; subst h3
    exact Or.inl ⟨v, (T.setVm vm₁).calling g' mk (Value.ref b :: As).toArray, t, U', L, hT, X', hL, e1, e2, hq, st⟩
  · dsimp only [Pt.U, Pt.locs, Pt.cells, Pt.slots] at X' e1 e2 h1 h2 h3 st hcl
    subst h1; subst h2; subst h3
    exact Or.inr ⟨q, (T.setVm vm₁).calling g' mk (Value.ref b :: As).toArray, t, U', L, E, ce, hT, X', hL, e1, e2, hq, hce, hcv, vx_cls hW₁ hcl, st⟩
theorem vx_runS (S : CallFix p m c cc nL s args Ts own) (hM : vx_Met l y ws rm Pc Qc XC mc ms free) (cw : CallB R s args own index y bytes maxL ret ws rm mc ms n ∧ (Cond.static y).before args s = true) (hp : PreS s H Pc As)
    (hg : g.method = m) (hn : As.length = n) (hsize : g.locals.size = nL) (hstack : g.stack = As.reverse ++ rest) (hW : 2 * g.monitorRoom + (rest.map fun v => v.category).sum ≤ 8) (hdg : decode cc g.pc = .ok (.invokestatic index, 3)) (hf : cells + mc ≤ R.cells ∧ slots + ms ≤ R.slots) :
    vx_Run p l e R s m args below meth c H locs cells slots mc ms g rest (Qc As.toArray) XC free := by
  have hK : vx_Back l R p e below s args y 3 8 (PreOf R mc ms Pc) (PostOf Qc mc ms free) (vx_Post XC mc ms free) := vx_callBack cw.1 hM hp.1
  obtain ⟨⟨-, -, -, -, -, -, hcode, hini, hy, hlen, hl⟩, hstt⟩ := cw
  obtain ⟨hx, hb, hml, ho, -⟩ := S
  intro T hT X
  rcases vx_callS X hx (bytes := bytes) (maxL := maxL) (ret := ret) ho hl hstt hini hcode hy hK hg (hsize.trans hml.symm) (argsL := As) (rest := rest) (fun sig h => hn.trans (hlen sig h)) hstack hW (by rw [hb]; exact hdg)
    (fun vm₁ hW₁ => ⟨hf.1, hf.2, hp.2 (T.setVm vm₁) hT hW₁⟩) with ⟨v, vm₁, ⟨U', l2, c2, s2⟩, hW₁, X', ⟨g', mk, t, L, e1, e2, hq, h1, hL, h2, h3⟩, st⟩ | ⟨q, vm₁, ⟨U', l2, c2, s2⟩, hW₁, X', ⟨g', mk, t, L, E, ce, e1, e2, hq, hce, hcv, hcl, h1, hL, h2, h3⟩, st⟩
  · dsimp only [Pt.U, Pt.locs, Pt.cells, Pt.slots] at X' e1 e2 h1 h2 h3 st
    subst h1; subst h2; subst h3
    exact Or.inl ⟨v, (T.setVm vm₁).calling g' mk As.toArray, t, U', L, hT, X', hL, e1, e2, hq, st⟩
  · dsimp only [Pt.U, Pt.locs, Pt.cells, Pt.slots] at X' e1 e2 h1 h2 h3 st hcl
    subst h1; subst h2; subst h3
    exact Or.inr ⟨q, (T.setVm vm₁).calling g' mk As.toArray, t, U', L, E, ce, hT, X', hL, e1, e2, hq, hce, hcv, vx_cls hW₁ hcl, st⟩
end Runs
section Rows
variable {p : Program} {l : Launch} {e : Env} {R : Room} {s : State} {m : MethodId} {args : Array Value} {below : List Frame} {meth : Method} {c : Code} {H : Heap} {locs : List Loc} {cells slots : Nat} {Q : State → Prop}
variable {mc ms : Nat} {free : Addr → Prop} {A0 A1 : Nat → Prop} {H0 : Heap} {a : Array Value} {pc : Nat} {ls : Array Slot} {st0 rest : List Value}
theorem vx_keep {st₀ t T' : State} {L : List Loc} (h0 : st₀.heap = H) (e1 : T'.heap = t.heap) (hS : va_S A0 H0 H locs) (hA : ∀ q, q < H.size → A1 q → A0 q) (hf : ∀ q, free q → A0 q) (hL : ∀ q ∈ L, free q.base) (hF : va_F A1 st₀ t) :
    H.size ≤ T'.heap.size ∧ (∀ q : Nat, q < H.size → ¬ A1 q → T'.heap[q]? = H[q]?) ∧ va_S A0 H0 T'.heap (locs ++ L) := by
  obtain ⟨hz, hk⟩ := hF
  rw [h0] at hz hk
  exact ⟨by rw [e1]; exact hz, fun q h1 h2 => by rw [e1]; exact hk q h1 h2,
    ⟨Nat.le_trans hS.1 (by rw [e1]; exact hz), fun q h1 h2 => by rw [e1, hk q (Nat.lt_of_lt_of_le h1 hS.1) (fun z => h2 (hA q (Nat.lt_of_lt_of_le h1 hS.1) z))]; exact hS.2.1 q h1 h2, fun q hq => by
      rcases List.mem_append.mp hq with h | h
      · exact hS.2.2 q h
      · exact hf _ (hL q h)⟩⟩
theorem vx_calli {S SX : Type} {post : Int32 → S → Prop} {px : SX → Prop} {B : S → State → Prop} {BX : String → SX → State → Prop} {AX : Nat → Prop} (hr : vx_Run p l e R s m args below meth c H locs cells slots mc ms (F0 m pc ls st0) rest (va_Qi post B A1 a) (vx_X px BX AX) free) (hS : va_S A0 H0 H locs) (hA : ∀ q, q < H.size → A1 q → A0 q) (hf : ∀ q, free q → A0 q) (hAX : ∀ q, q < H.size → AX q → A0 q)
    (kx : ∀ (E : String) (ce : Cell) (q9 : Addr) (u : SX) (t : State) (H1 : Heap) (locs1 : List Loc), t.heap = H1 → s.vm.Alike t.vm → px u → BX E u t → H.size ≤ H1.size → (∀ q : Nat, q < H.size → ¬ AX q → H1[q]? = H[q]?) → va_S A0 H0 H1 locs1 → H1[q9]? = some ce → ce.vm = .none → s.vm.findClass E = some ce.cls → vx_W p l e R s m args below meth c H1 locs1 (cells + mc) (slots + ms) Q (F0 m pc ls rest) q9)
    (kk : ∀ (r : Int32) (u : S) (t : State) (H1 : Heap) (locs1 : List Loc), t.heap = H1 → s.vm.Alike t.vm → post r u → B u t → H.size ≤ H1.size → (∀ q : Nat, q < H.size → ¬ A1 q → H1[q]? = H[q]?) → va_S A0 H0 H1 locs1 → W p l e R s m args below meth c H1 locs1 (cells + mc) (slots + ms) Q (F0 m (pc + 3) ls (.int r :: rest))) : W p l e R s m args below meth c H locs cells slots Q (F0 m pc ls st0) := by
  intro T hT X
  rcases hr T hT X with ⟨v, st₀, t, T', L, h0, X', hL, e1, e2, ⟨⟨r, u, hv, hp, hb⟩, hF⟩, st⟩ | ⟨q, st₀, t, T', L, E, ce, h0, X', hL, e1, e2, ⟨u, hp, hb, hF⟩, hce, hcv, hcl, st⟩
  · cases hv
    obtain ⟨k1, k2, k3⟩ := vx_keep h0 e1 hS hA hf hL hF
    obtain ⟨t2, a1, b1⟩ := kk r u t T'.heap (locs ++ L) e1.symm (by rw [← e2]; exact X'.warmed.alike) hp hb k1 k2 k3 T' rfl X'
    exact ⟨t2, st t2 a1, b1⟩
  · obtain ⟨k1, k2, k3⟩ := vx_keep h0 e1 hS hAX hf hL hF
    obtain ⟨t2, a1, b1⟩ := kx E ce q u t T'.heap (locs ++ L) e1.symm (by rw [← e2]; exact X'.warmed.alike) hp hb k1 k2 k3 (by rw [e1]; exact hce) hcv hcl T' rfl X'
    exact ⟨t2, st.trans a1, b1⟩
theorem vx_calll {S SX : Type} {post : Int64 → S → Prop} {px : SX → Prop} {B : S → State → Prop} {BX : String → SX → State → Prop} {AX : Nat → Prop} (hr : vx_Run p l e R s m args below meth c H locs cells slots mc ms (F0 m pc ls st0) rest (va_Ql post B A1 a) (vx_X px BX AX) free) (hS : va_S A0 H0 H locs) (hA : ∀ q, q < H.size → A1 q → A0 q) (hf : ∀ q, free q → A0 q) (hAX : ∀ q, q < H.size → AX q → A0 q)
    (kx : ∀ (E : String) (ce : Cell) (q9 : Addr) (u : SX) (t : State) (H1 : Heap) (locs1 : List Loc), t.heap = H1 → s.vm.Alike t.vm → px u → BX E u t → H.size ≤ H1.size → (∀ q : Nat, q < H.size → ¬ AX q → H1[q]? = H[q]?) → va_S A0 H0 H1 locs1 → H1[q9]? = some ce → ce.vm = .none → s.vm.findClass E = some ce.cls → vx_W p l e R s m args below meth c H1 locs1 (cells + mc) (slots + ms) Q (F0 m pc ls rest) q9)
    (kk : ∀ (r : Int64) (u : S) (t : State) (H1 : Heap) (locs1 : List Loc), t.heap = H1 → s.vm.Alike t.vm → post r u → B u t → H.size ≤ H1.size → (∀ q : Nat, q < H.size → ¬ A1 q → H1[q]? = H[q]?) → va_S A0 H0 H1 locs1 → W p l e R s m args below meth c H1 locs1 (cells + mc) (slots + ms) Q (F0 m (pc + 3) ls (.long r :: rest))) : W p l e R s m args below meth c H locs cells slots Q (F0 m pc ls st0) := by
  intro T hT X
  rcases hr T hT X with ⟨v, st₀, t, T', L, h0, X', hL, e1, e2, ⟨⟨r, u, hv, hp, hb⟩, hF⟩, st⟩ | ⟨q, st₀, t, T', L, E, ce, h0, X', hL, e1, e2, ⟨u, hp, hb, hF⟩, hce, hcv, hcl, st⟩
  · cases hv
    obtain ⟨k1, k2, k3⟩ := vx_keep h0 e1 hS hA hf hL hF
    obtain ⟨t2, a1, b1⟩ := kk r u t T'.heap (locs ++ L) e1.symm (by rw [← e2]; exact X'.warmed.alike) hp hb k1 k2 k3 T' rfl X'
    exact ⟨t2, st t2 a1, b1⟩
  · obtain ⟨k1, k2, k3⟩ := vx_keep h0 e1 hS hAX hf hL hF
    obtain ⟨t2, a1, b1⟩ := kx E ce q u t T'.heap (locs ++ L) e1.symm (by rw [← e2]; exact X'.warmed.alike) hp hb k1 k2 k3 (by rw [e1]; exact hce) hcv hcl T' rfl X'
    exact ⟨t2, st.trans a1, b1⟩
theorem vx_callf {S SX : Type} {post : UInt32 → S → Prop} {px : SX → Prop} {B : S → State → Prop} {BX : String → SX → State → Prop} {AX : Nat → Prop} (hr : vx_Run p l e R s m args below meth c H locs cells slots mc ms (F0 m pc ls st0) rest (va_Qf post B A1 a) (vx_X px BX AX) free) (hS : va_S A0 H0 H locs) (hA : ∀ q, q < H.size → A1 q → A0 q) (hf : ∀ q, free q → A0 q) (hAX : ∀ q, q < H.size → AX q → A0 q)
    (kx : ∀ (E : String) (ce : Cell) (q9 : Addr) (u : SX) (t : State) (H1 : Heap) (locs1 : List Loc), t.heap = H1 → s.vm.Alike t.vm → px u → BX E u t → H.size ≤ H1.size → (∀ q : Nat, q < H.size → ¬ AX q → H1[q]? = H[q]?) → va_S A0 H0 H1 locs1 → H1[q9]? = some ce → ce.vm = .none → s.vm.findClass E = some ce.cls → vx_W p l e R s m args below meth c H1 locs1 (cells + mc) (slots + ms) Q (F0 m pc ls rest) q9)
    (kk : ∀ (r : UInt32) (u : S) (t : State) (H1 : Heap) (locs1 : List Loc), t.heap = H1 → s.vm.Alike t.vm → post r u → B u t → H.size ≤ H1.size → (∀ q : Nat, q < H.size → ¬ A1 q → H1[q]? = H[q]?) → va_S A0 H0 H1 locs1 → W p l e R s m args below meth c H1 locs1 (cells + mc) (slots + ms) Q (F0 m (pc + 3) ls (.float r :: rest))) : W p l e R s m args below meth c H locs cells slots Q (F0 m pc ls st0) := by
  intro T hT X
  rcases hr T hT X with ⟨v, st₀, t, T', L, h0, X', hL, e1, e2, ⟨⟨r, u, hv, hp, hb⟩, hF⟩, st⟩ | ⟨q, st₀, t, T', L, E, ce, h0, X', hL, e1, e2, ⟨u, hp, hb, hF⟩, hce, hcv, hcl, st⟩
  · cases hv
    obtain ⟨k1, k2, k3⟩ := vx_keep h0 e1 hS hA hf hL hF
    obtain ⟨t2, a1, b1⟩ := kk r u t T'.heap (locs ++ L) e1.symm (by rw [← e2]; exact X'.warmed.alike) hp hb k1 k2 k3 T' rfl X'
    exact ⟨t2, st t2 a1, b1⟩
  · obtain ⟨k1, k2, k3⟩ := vx_keep h0 e1 hS hAX hf hL hF
    obtain ⟨t2, a1, b1⟩ := kx E ce q u t T'.heap (locs ++ L) e1.symm (by rw [← e2]; exact X'.warmed.alike) hp hb k1 k2 k3 (by rw [e1]; exact hce) hcv hcl T' rfl X'
    exact ⟨t2, st.trans a1, b1⟩
theorem vx_calld {S SX : Type} {post : UInt64 → S → Prop} {px : SX → Prop} {B : S → State → Prop} {BX : String → SX → State → Prop} {AX : Nat → Prop} (hr : vx_Run p l e R s m args below meth c H locs cells slots mc ms (F0 m pc ls st0) rest (va_Qd post B A1 a) (vx_X px BX AX) free) (hS : va_S A0 H0 H locs) (hA : ∀ q, q < H.size → A1 q → A0 q) (hf : ∀ q, free q → A0 q) (hAX : ∀ q, q < H.size → AX q → A0 q)
    (kx : ∀ (E : String) (ce : Cell) (q9 : Addr) (u : SX) (t : State) (H1 : Heap) (locs1 : List Loc), t.heap = H1 → s.vm.Alike t.vm → px u → BX E u t → H.size ≤ H1.size → (∀ q : Nat, q < H.size → ¬ AX q → H1[q]? = H[q]?) → va_S A0 H0 H1 locs1 → H1[q9]? = some ce → ce.vm = .none → s.vm.findClass E = some ce.cls → vx_W p l e R s m args below meth c H1 locs1 (cells + mc) (slots + ms) Q (F0 m pc ls rest) q9)
    (kk : ∀ (r : UInt64) (u : S) (t : State) (H1 : Heap) (locs1 : List Loc), t.heap = H1 → s.vm.Alike t.vm → post r u → B u t → H.size ≤ H1.size → (∀ q : Nat, q < H.size → ¬ A1 q → H1[q]? = H[q]?) → va_S A0 H0 H1 locs1 → W p l e R s m args below meth c H1 locs1 (cells + mc) (slots + ms) Q (F0 m (pc + 3) ls (.double r :: rest))) : W p l e R s m args below meth c H locs cells slots Q (F0 m pc ls st0) := by
  intro T hT X
  rcases hr T hT X with ⟨v, st₀, t, T', L, h0, X', hL, e1, e2, ⟨⟨r, u, hv, hp, hb⟩, hF⟩, st⟩ | ⟨q, st₀, t, T', L, E, ce, h0, X', hL, e1, e2, ⟨u, hp, hb, hF⟩, hce, hcv, hcl, st⟩
  · cases hv
    obtain ⟨k1, k2, k3⟩ := vx_keep h0 e1 hS hA hf hL hF
    obtain ⟨t2, a1, b1⟩ := kk r u t T'.heap (locs ++ L) e1.symm (by rw [← e2]; exact X'.warmed.alike) hp hb k1 k2 k3 T' rfl X'
    exact ⟨t2, st t2 a1, b1⟩
  · obtain ⟨k1, k2, k3⟩ := vx_keep h0 e1 hS hAX hf hL hF
    obtain ⟨t2, a1, b1⟩ := kx E ce q u t T'.heap (locs ++ L) e1.symm (by rw [← e2]; exact X'.warmed.alike) hp hb k1 k2 k3 (by rw [e1]; exact hce) hcv hcl T' rfl X'
    exact ⟨t2, st.trans a1, b1⟩
theorem vx_callv {S SX : Type} {post : S → Prop} {px : SX → Prop} {B : S → State → Prop} {BX : String → SX → State → Prop} {AX : Nat → Prop} (hr : vx_Run p l e R s m args below meth c H locs cells slots mc ms (F0 m pc ls st0) rest (va_Qv post B A1 a) (vx_X px BX AX) free) (hS : va_S A0 H0 H locs) (hA : ∀ q, q < H.size → A1 q → A0 q) (hf : ∀ q, free q → A0 q) (hAX : ∀ q, q < H.size → AX q → A0 q)
    (kx : ∀ (E : String) (ce : Cell) (q9 : Addr) (u : SX) (t : State) (H1 : Heap) (locs1 : List Loc), t.heap = H1 → s.vm.Alike t.vm → px u → BX E u t → H.size ≤ H1.size → (∀ q : Nat, q < H.size → ¬ AX q → H1[q]? = H[q]?) → va_S A0 H0 H1 locs1 → H1[q9]? = some ce → ce.vm = .none → s.vm.findClass E = some ce.cls → vx_W p l e R s m args below meth c H1 locs1 (cells + mc) (slots + ms) Q (F0 m pc ls rest) q9)
    (kk : ∀ (u : S) (t : State) (H1 : Heap) (locs1 : List Loc), t.heap = H1 → s.vm.Alike t.vm → post u → B u t → H.size ≤ H1.size → (∀ q : Nat, q < H.size → ¬ A1 q → H1[q]? = H[q]?) → va_S A0 H0 H1 locs1 → W p l e R s m args below meth c H1 locs1 (cells + mc) (slots + ms) Q (F0 m (pc + 3) ls (rest))) : W p l e R s m args below meth c H locs cells slots Q (F0 m pc ls st0) := by
  intro T hT X
  rcases hr T hT X with ⟨v, st₀, t, T', L, h0, X', hL, e1, e2, ⟨⟨u, hv, hp, hb⟩, hF⟩, st⟩ | ⟨q, st₀, t, T', L, E, ce, h0, X', hL, e1, e2, ⟨u, hp, hb, hF⟩, hce, hcv, hcl, st⟩
  · cases hv
    obtain ⟨k1, k2, k3⟩ := vx_keep h0 e1 hS hA hf hL hF
    obtain ⟨t2, a1, b1⟩ := kk u t T'.heap (locs ++ L) e1.symm (by rw [← e2]; exact X'.warmed.alike) hp hb k1 k2 k3 T' rfl X'
    exact ⟨t2, st t2 a1, b1⟩
  · obtain ⟨k1, k2, k3⟩ := vx_keep h0 e1 hS hAX hf hL hF
    obtain ⟨t2, a1, b1⟩ := kx E ce q u t T'.heap (locs ++ L) e1.symm (by rw [← e2]; exact X'.warmed.alike) hp hb k1 k2 k3 (by rw [e1]; exact hce) hcv hcl T' rfl X'
    exact ⟨t2, st.trans a1, b1⟩
/-- caught by the row x of this method's table; the rows ahead don't take it -/
theorem vx_catch {own name : String} {E : String} {ce : Cell} {q : Addr} (hown : s.vm.findClass own = some m.cls) (pre : List ExceptionTableEntry) (x : ExceptionTableEntry) (suf : List ExceptionTableEntry) (hsplit : c.exceptionTable.toList = pre ++ x :: suf)
    (hpass : ∀ z ∈ pre, covers z pc = false ∨ (z.catchType ≠ 0 ∧ ∃ nm : String, (Cond.classLink own z.catchType nm).before args s = true ∧ va_Nc E nm s)) (hx : covers x pc = true) (h0 : x.catchType ≠ 0)
    (hlink : (Cond.classLink own x.catchType name).before args s = true) (hcast : (Cond.castable E name).before args s = true) (hcell : H[q]? = some ce) (hv : ce.vm = .none) (hcl : s.vm.findClass E = some ce.cls)
    (kk : W p l e R s m args below meth c H locs cells slots Q (F0 m x.handlerPc ls [.ref q])) : vx_W p l e R s m args below meth c H locs cells slots Q (F0 m pc ls rest) q := by
  intro T hT X
  have hpl : e.platform.magicAccessors = ({} : Platform).magicAccessors := by rw [X.admits.platform]
  obtain ⟨c3, c4, hc3, hc4, hasg⟩ := Cond.castable_spec hcast
  cases Option.some.inj (hc3.symm.trans hcl)
  obtain ⟨c5, hc5, hcl5⟩ := Cond.classLink_spec hown hlink e.platform hpl
  cases Option.some.inj (hc4.symm.trans hc5)
  obtain ⟨vm', X', st⟩ := X.thenCaughtThrough q (g := F0 m pc ls rest) rfl (Steps.refl _) (by rw [hT]; exact hcell) (by rw [hv]; rfl) (by obtain ⟨k9, h9, -⟩ := Vm.findClass_spec hcl; exact ⟨k9, h9⟩) pre x suf hsplit
    (fun z hz => by
      rcases hpass z hz with h | ⟨hz0, nm, hl1, hn1⟩
      · exact Or.inl h
      · obtain ⟨c6, hc6, hcl6⟩ := Cond.classLink_spec hown hl1 e.platform hpl
        obtain ⟨a8, b8, h1, h2, h3⟩ := hn1
        cases Option.some.inj (h1.symm.trans hcl)
        cases Option.some.inj (h2.symm.trans hc6)
        exact Or.inr ⟨hz0, _, hcl6, h3⟩) hx (Or.inr ⟨h0, c4, hcl5, hasg⟩)
  obtain ⟨t, a1, b1⟩ := kk (T.setVm vm') hT X'
  exact ⟨t, st.trans a1, b1⟩
end Rows
section Ends
variable {p : Program} {l : Launch} {e : Env} {R : Room} {s : State} {m : MethodId} {args : Array Value} {below : List Frame} {meth : Method} {c : Code} {H : Heap} {locs : List Loc} {cells slots : Nat} {Q : State → Prop}
variable {mc ms : Nat} {free : Addr → Prop} {A0 A1 : Nat → Prop} {H0 : Heap} {a : Array Value} {ls : Array Slot} {st0 rest : List Value}
variable {Qc : Array Value → State → Outcome → State → Prop} {XC : String → State → State → Prop}
/-- what a body that may throw owes at its end -/
def vx_MQ (below : List Frame) (Qc : Array Value → State → Outcome → State → Prop) (XC : String → State → State → Prop) (a : Array Value) (s : State) (mc ms : Nat) (free : Addr → Prop) : State → Prop := fun t =>
  ∃ o, t.status = .running ∧ Ended t below o ∧ vx_Q Qc XC mc ms free a s o t
theorem vx_ret {g : JFrame} {mc ms : Nat} (k : W p l e R s m args below meth c H locs cells slots (MQ below Qc args s mc ms free) g) : W p l e R s m args below meth c H locs cells slots (vx_MQ below Qc XC args s mc ms free) g := by
  intro T hT X
  obtain ⟨t, a1, o, b1, b2, b3, b4⟩ := k T hT X
  exact ⟨t, a1, o, b1, b2, Or.inl ⟨b3, b4⟩⟩
/-- not caught here: it goes on to the caller -/
theorem vx_widen {g : JFrame} {q : Addr} {k n : Nat} (h1 : cells ≤ k) (h2 : slots ≤ n) (kk : vx_W p l e R s m args below meth c H locs k n Q g q) : vx_W p l e R s m args below meth c H locs cells slots Q g q := fun T hT X => kk T hT (stand_widen X h1 h2)
theorem vx_out {pc : Nat} {E : String} {ce : Cell} {q : Addr} {mc ms : Nat} (hout : ∀ x ∈ c.exceptionTable.toList, covers x pc = false) (hlocks : meth.locks = false) (hcell : H[q]? = some ce) (hv : ce.vm = .none) (hcl : s.vm.findClass E = some ce.cls)
    (hx : ∀ t : State, t.heap = H → s.vm.Alike t.vm → XC E s t) (hf : ∀ z ∈ locs, free z.base) (hc : cells ≤ mc) (hs : slots ≤ ms) :
    vx_W p l e R s m args below meth c H locs cells slots (vx_MQ below Qc XC args s mc ms free) (F0 m pc ls rest) q := by
  intro T hT X
  obtain ⟨st1, hrun, hend, hW, hsm⟩ := X.leaveThrown q (g := F0 m pc ls rest) rfl rfl rfl hout hlocks
  have hcell9 : (T.setFrames (.throwing q :: below)).heap[q]? = some ce := by
    show T.heap[q]? = some ce
    rw [hT]; exact hcell
  exact ⟨_, st1, .threw q, hrun, hend, Or.inr ⟨q, rfl, E, ce, locs, hx _ hT hW.alike, hcell9, hv, hcl, hW, hsm.mono hc hs, hf⟩⟩
theorem vx_frame {U : State} {k n : Nat} (h : s.sameButNew ({ U with vm := s.vm } : State) locs k n) : s.heap.size ≤ U.heap.size ∧ ∀ q : Nat, q < s.heap.size → (∀ z ∈ locs, z.base ≠ q) → U.heap[q]? = s.heap[q]? := by
  obtain ⟨-, h2, -, -, -, h6⟩ := h
  refine ⟨h2, fun q hq hz => ?_⟩
  obtain ⟨c9, e1, e2, e3, e4⟩ := h6 q _ (Array.getElem?_eq_getElem hq)
  have hs : c9.slots = (s.heap[q]).slots := Array.ext_getElem? fun i => e4 i fun hm => hz _ hm rfl
  have h9 : c9 = s.heap[q] := by
    rw [hs] at e2
    exact e2
  have e5 : U.heap[q]? = some c9 := e1
  rw [e5, h9, Array.getElem?_eq_getElem hq]
/-- the words of a throw but the four that speak of the heap -/
def vx_no (w : Cond) : Bool := decide (w ≠ .isRef (.static Bundle.tN "UNASSIGNED_STACK" Bundle.steD)) && decide (w ≠ .isRef (.static Bundle.tN "SUPPRESSED_SENTINEL" Bundle.listD)) && decide (w ≠ .laysStatic Bundle.tN "UNASSIGNED_STACK" Bundle.steD) && decide (w ≠ .laysStatic Bundle.tN "SUPPRESSED_SENTINEL" Bundle.listD)
def vx_at0 (own : String) (ic : Nat) (X : String) (names : List String) : List Cond := (Bundle.ownAtoms0 own ic X names).filter vx_no
def vx_atS (own : String) (ic : Nat) (X : String) (names : List String) : List Cond := (Bundle.ownAtoms own ic X names).filter vx_no
/-- a word that the tables alone decide, or a good one -/
def vx_ot (w : Cond) : Bool := w.onTables || goodWord w
theorem vx_ot_at {args a' : Array Value} {s U : State} {w : Cond} (hW : s.WarmedH U.vm) (hvm : s.vm = U.vm) (hg : vx_ot w = true) (h : w.before args s = true) : w.before a' U = true := by
  simp only [vx_ot, Bool.or_eq_true] at hg
  rcases hg with hg | hg
  · exact va_tabs hg hvm h
  · exact word_at hW (good_of_word hg) h
/-- a list's words: the good ones out of the method's own list, the others by premises of their own -/
theorem vx_hat {args : Array Value} {s : State} {L B : List Cond} (h1 : ∀ w ∈ L.filter goodWord, w.before args s = true) (h2 : ∀ w ∈ L.filter (fun w => !goodWord w), w ∈ B) (h3 : ∀ w ∈ B, w.before args s = true) : ∀ w ∈ L, w.before args s = true := by
  intro w hw
  by_cases g : goodWord w = true
  · exact h1 w (List.mem_filter.mpr ⟨hw, g⟩)
  · refine h3 w (h2 w (List.mem_filter.mpr ⟨hw, ?_⟩))
    show (!goodWord w) = true
    cases hgw : goodWord w
    · rfl
    · exact absurd hgw g
theorem vx_c {args : Array Value} {s : State} {w : Cond} {B : List Cond} (h : w.before args s = true) (t : ∀ w ∈ B, w.before args s = true) : ∀ w' ∈ w :: B, w'.before args s = true := fun w' h' => (List.mem_cons.mp h').elim (fun e => by rw [e]; exact h) (t w')
theorem vx_n {args : Array Value} {s : State} : ∀ w ∈ ([] : List Cond), w.before args s = true := fun _ h => nomatch h
theorem vx_own {args : Array Value} {s : State} {L : List Cond} (h1 : ∀ w ∈ L.filter vx_no, w.before args s = true)
    (hU : (Cond.isRef (.static Bundle.tN "UNASSIGNED_STACK" Bundle.steD)).before args s = true) (hN : (Cond.isRef (.static Bundle.tN "SUPPRESSED_SENTINEL" Bundle.listD)).before args s = true)
    (lU : (Cond.laysStatic Bundle.tN "UNASSIGNED_STACK" Bundle.steD).before args s = true) (lN : (Cond.laysStatic Bundle.tN "SUPPRESSED_SENTINEL" Bundle.listD).before args s = true) : ∀ w ∈ L, w.before args s = true := by
  intro w hw
  by_cases e1 : w = .isRef (.static Bundle.tN "UNASSIGNED_STACK" Bundle.steD)
  · rw [e1]; exact hU
  · by_cases e2 : w = .isRef (.static Bundle.tN "SUPPRESSED_SENTINEL" Bundle.listD)
    · rw [e2]; exact hN
    · by_cases e3 : w = .laysStatic Bundle.tN "UNASSIGNED_STACK" Bundle.steD
      · rw [e3]; exact lU
      · by_cases e4 : w = .laysStatic Bundle.tN "SUPPRESSED_SENTINEL" Bundle.listD
        · rw [e4]; exact lN
        · exact h1 w (List.mem_filter.mpr ⟨hw, by unfold vx_no; rw [decide_eq_true e1, decide_eq_true e2, decide_eq_true e3, decide_eq_true e4]; rfl⟩)
/-- where a static field lies, its class's statics cell in H -/
def vx_L (C n d : String) (A : Nat → Prop) (U : State) (H : Heap) : Prop := ∃ (c : ClassId) (k : Class) (i : Nat) (f : Field) (a : Nat) (cell : Cell), U.vm.findClass C = some c ∧ U.fieldFound? C n d = some (c, k, i, f) ∧ f.isStatic = true ∧ k.statics = some a ∧ H[a]? = some cell ∧ cell.vm.isStatics = true ∧ cell.cls = c ∧ f.slot < cell.slots.size ∧ k.staticTypes[f.slot]? = some f.type ∧ ¬ A a
theorem vx_L.moved {C n d : String} {A : Nat → Prop} {u U : State} {H : Heap} (hvm : u.vm.Alike U.vm) (h : vx_L C n d A u H) : vx_L C n d A U H := by
  obtain ⟨c, k, i, f, a, cell, h1, h2, h3, h4, h5, h6, h7, h8, h9, h10⟩ := h
  obtain ⟨k', hi', he⟩ := State.fieldFound?_setVm hvm h2
  exact ⟨c, k', i, f, a, cell, by rw [hvm.findClass]; exact h1, hi', h3, by rw [he]; exact h4, h5, h6, h7, h8, by rw [he]; exact h9, h10⟩
theorem vx_L.kept {C n d : String} {A : Nat → Prop} {U : State} {H H1 : Heap} (h : vx_L C n d A U H) (hq : ∀ a : Nat, a < H.size → ¬ A a → H1[a]? = H[a]?) : vx_L C n d A U H1 := by
  obtain ⟨c, k, i, f, a, cell, h1, h2, h3, h4, h5, h6, h7, h8, h9, h10⟩ := h
  exact ⟨c, k, i, f, a, cell, h1, h2, h3, h4, by rw [hq a (Array.getElem?_eq_some_iff.mp h5).1 h10]; exact h5, h6, h7, h8, h9, h10⟩
theorem vx_L.narrow {C n d : String} {A B : Nat → Prop} {U : State} {H : Heap} (h : vx_L C n d A U H) (hAB : ∀ q, B q → A q) : vx_L C n d B U H := by
  obtain ⟨c, k, i, f, a, cell, h1, h2, h3, h4, h5, h6, h7, h8, h9, h10⟩ := h
  exact ⟨c, k, i, f, a, cell, h1, h2, h3, h4, h5, h6, h7, h8, h9, fun z => h10 (hAB _ z)⟩
theorem vx_L.word {C n d : String} {A : Nat → Prop} {s : State} {args : Array Value} (h : vx_L C n d A s s.heap) : (Cond.laysStatic C n d).before args s = true := by
  obtain ⟨c, k, i, f, a, cell, h1, h2, h3, h4, h5, h6, h7, h8, h9, -⟩ := h
  show (Cond.laysStatic C n d).holds args s none s [] = true
  exact Cond.laysStatic_of h1 h2 h3 h4 h5 h6 h7 h8 h9
/-- .. and what it holds: null or some reference -/
def vx_Zq (C n d : String) (A : Nat → Prop) (U : State) (H : Heap) : Prop := va_Zq C n d A U H ∧ vx_L C n d A U H
theorem vx_Zq.moved {C n d : String} {A : Nat → Prop} {u U : State} {H : Heap} (hvm : u.vm.Alike U.vm) (h : vx_Zq C n d A u H) : vx_Zq C n d A U H := ⟨va_Zq.moved hvm h.1, vx_L.moved hvm h.2⟩
theorem vx_Zq.kept {C n d : String} {A : Nat → Prop} {U : State} {H H1 : Heap} (h : vx_Zq C n d A U H) (hq : ∀ a : Nat, a < H.size → ¬ A a → H1[a]? = H[a]?) : vx_Zq C n d A U H1 := ⟨va_Zq.kept h.1 hq, vx_L.kept h.2 hq⟩
theorem vx_Zq.narrow {C n d : String} {A B : Nat → Prop} {U : State} {H : Heap} (h : vx_Zq C n d A U H) (hAB : ∀ q, B q → A q) : vx_Zq C n d B U H := ⟨va_Zq.narrow h.1 hAB, vx_L.narrow h.2 hAB⟩
theorem vx_Zqof {args : Array Value} {s : State} {C n d : String} {A : Nat → Prop} (hl : (Cond.laysStatic C n d).before args s = true) (hini : (Cond.initialized C).before args s = true) (h : (Cond.isRef (.static C n d)).before args s = true) (hA : ∀ a : Nat, a < s.heap.size → ¬ A a) : vx_Zq C n d A s s.heap := by
  refine ⟨va_Zqof hl hini h hA, ?_⟩
  obtain ⟨c, k, i, f, a, cell, h1, h2, h3, h4, h5, h6, h7, h8, h9⟩ := Cond.laysStatic_spec hl
  exact ⟨c, k, i, f, a, cell, h1, h2, h3, h4, h5, h6, h7, h8, h9, hA a (Array.getElem?_eq_some_iff.mp h5).1⟩
theorem vx_isRef {C n d : String} {v : Value} {A : Nat → Prop} {s : State} {args : Array Value} (h : va_Z C n d v A s s.heap) (hv : v.isRef = true) : (Cond.isRef (.static C n d)).before args s = true := by
  obtain ⟨cf, kf, fi, f, a, cell, h1, h2, h3, h4, h5, h6, h7, -⟩ := h
  have he : (Term.static C n d).eval args s none [] s = some v := by
    simp [Term.eval, State.fieldNamed?, h1, h2, h4, h5, h6, h7]
  simp only [Cond.before, Cond.holds, Cond.value, he]
  cases v <;> simp_all [Value.isRef]
theorem vx_isRefq {C n d : String} {A : Nat → Prop} {s : State} {args : Array Value} (h : va_Zq C n d A s s.heap) : (Cond.isRef (.static C n d)).before args s = true := by
  rcases h with h | ⟨t, h⟩
  · exact vx_isRef h rfl
  · exact vx_isRef h rfl
/-- the same frame, seen from here: as if the method were called anew in this heap -/
theorem vx_rebase {T : State} (X : Stand p l e R s m args below meth c T locs cells slots) {R' : Room} (hf : R'.frames ≤ R.frames) (hl : R'.locals ≤ R.locals) (hc : cells + R'.cells ≤ R.cells) (hs : slots + R'.slots ≤ R.slots) :
    Stand p l e R' ((T.setVm s.vm).setFrames (.invoking m args :: below)) m args below meth c T [] 0 0 := by
  have htop : (T.setVm s.vm).topJava?.isSome := X.here.top
  have hF : ((T.setVm s.vm).setFrames (.invoking m args :: below)).frames = .invoking m args :: below := State.frames_setFrames _ (State.cur_lt_of_top htop)
  obtain ⟨g₀, hg0⟩ := Option.isSome_iff_exists.mp htop
  obtain ⟨r, hr⟩ := State.topJava?_eq_some.mp hg0
  have hl9 : e.platform.stackLimits (T.setVm s.vm).me = e.platform.stackLimits s.me := X.limits
  have hb9 : (T.setVm s.vm).me.stackBytes = s.me.stackBytes := X.bytes
  refine ⟨X.admits, X.cas, X.clock, hF, ?_, X.hears, X.method, X.code, X.here, X.tail, X.warmed, ?_, ?_, ?_⟩
  · have h := X.room
    have hU : ((T.setVm s.vm).setFrames (.invoking m args :: below)).localsInUse = s.localsInUse := by
      rw [State.localsInUse_invoking hF (meth := meth) (c := c) X.method X.code, State.localsInUse_invoking X.frames X.method X.code]
    simp only [State.hasRoom, Bool.and_eq_true, decide_eq_true_eq] at h ⊢
    obtain ⟨⟨⟨⟨h1, h2, h3, h4, h5, h6⟩, h7⟩, h8⟩, h9⟩ := h
    rw [X.frames, List.length_cons] at h2 h3
    have q1 := X.heapSize
    have q2 := X.used
    simp only [hF, hU, List.length_cons, State.stackLimits_setFrames, State.stackBytes_setFrames, hl9, hb9]
    refine ⟨⟨⟨⟨by omega, by omega, by omega, by omega, by omega, h6⟩, ?_⟩, ?_⟩, X.book⟩
    · show T.heap.size + R'.cells ≤ e.platform.maxCells
      omega
    · show T.slotsUsed + R'.slots ≤ e.platform.maxSlots
      omega
  · rw [State.stackLimits_setFrames]; rfl
  · rw [State.stackBytes_setFrames]; rfl
  · refine ⟨?_, Nat.le_refl _, Nat.le_refl _, ?_, ?_, fun a c9 h9 => ⟨c9, h9, rfl, rfl, fun _ _ => rfl⟩⟩
    · obtain ⟨t, ht, -⟩ := State.frames_cons hr
      show T.setVm s.vm = { ((T.setVm s.vm).setFrames (.invoking m args :: below)).setFrames (T.setVm s.vm).frames with heap := T.heap, slotsUsed := T.slotsUsed }
      rw [State.setFrames_setFrames, State.setFrames_self ht]
      rfl
    · show T.slotsUsed = T.slotsUsed + ((T.heap.toList.drop T.heap.size).map (·.slots.size)).sum
      rw [List.drop_eq_nil_of_le (Nat.le_of_eq Array.length_toList)]
      rfl
    · show ((T.heap.toList.drop T.heap.size).map (·.slots.size)).sum ≤ 0
      rw [List.drop_eq_nil_of_le (Nat.le_of_eq Array.length_toList)]
      exact Nat.le_refl _
/-- 'throw new E()': new; dup; invokespecial; athrow -/
theorem vx_throw0 {cc : ByteArray} {pc : Nat} (hexec : p.tables.exec = Jvm.exec) (hb : c.code = cc) (hl : l.stackTraces = false) {own cls : String} {names : List String} {ik ic mc ms : Nat} {A : Nat → Prop}
    (hown : s.vm.findClass own = some m.cls) (hcls : Bundle.fit cls = true) (hnames : ∀ n ∈ names, Bundle.fit n = true)
    (hk : (Cond.classLink own ik cls).before args s = true) (hini : (Cond.initialized cls).before args s = true) (hat : ∀ w ∈ vx_at0 own ic cls names, w.before args s = true)
    (hgood : ∀ w ∈ Cond.classLink own ik cls :: Cond.initialized cls :: vx_at0 own ic cls names, vx_ot w = true)
    (hU : vx_Zq Bundle.tN "UNASSIGNED_STACK" Bundle.steD A s s.heap) (hN : vx_Zq Bundle.tN "SUPPRESSED_SENTINEL" Bundle.listD A s s.heap) (hS : va_S A s.heap H locs) (hsize : ls.size = c.maxLocals)
    (d0 : decode cc pc = .ok (.new ik, 3)) (d3 : decode cc (pc + 3) = .ok (.dup, 1)) (d4 : decode cc (pc + 4) = .ok (.invokespecial ic, 3)) (d7 : decode cc (pc + 7) = .ok (.athrow, 1))
    (hout : ∀ x ∈ c.exceptionTable.toList, covers x (pc + 7) = false)
    (hRframes : names.length + 3 < R.frames) (hRlocals : (rest.map fun v => v.category).sum + (13 * (names.length + 1) + 42) ≤ R.locals) (hRcells : cells + 1 ≤ R.cells) (hRslots : slots + 6 ≤ R.slots) (hlocks : meth.locks = false)
    (hx : ∀ t : State, s.vm.Alike t.vm → H.size ≤ t.heap.size → (∀ q : Nat, q < H.size → t.heap[q]? = H[q]?) → XC cls s t)
    (hf : ∀ z ∈ locs, free z.base) (hc : cells + 1 ≤ mc) (hs : slots + 6 ≤ ms) :
    W p l e R s m args below meth c H locs cells slots (vx_MQ below Qc XC args s mc ms free) (F0 m pc ls rest) := by
  intro T hT X
  have htr : e.platform.stackTraces = false := (show e.platform.stackTraces = l.stackTraces by rw [X.admits.platform]).trans hl
  have Y := vx_rebase X (R' := { frames := R.frames, locals := R.locals, cells := 1, slots := 6 }) (Nat.le_refl _) (Nat.le_refl _) hRcells hRslots
  obtain ⟨s', hA⟩ : ∃ z, z = (T.setVm s.vm).setFrames (.invoking m args :: below) := ⟨_, rfl⟩
  rw [← hA] at Y
  have hvm : s'.vm = s.vm := by rw [hA]; rfl
  have hhp : s'.heap = H := by rw [hA]; exact hT
  have hW0 : s.WarmedH s'.vm := by rw [hvm]; exact State.WarmedH.refl s
  have hat' : ∀ w ∈ vx_at0 own ic cls names, w.before args s' = true := fun w hw => vx_ot_at hW0 hvm.symm (hgood w (List.mem_cons_of_mem _ (List.mem_cons_of_mem _ hw))) (hat w hw)
  have hk' : (Cond.classLink own ik cls).before args s' = true := vx_ot_at hW0 hvm.symm (hgood _ List.mem_cons_self) hk
  have hini' : (Cond.initialized cls).before args s' = true := vx_ot_at hW0 hvm.symm (hgood _ (List.mem_cons_of_mem _ List.mem_cons_self)) hini
  have hU' : vx_Zq Bundle.tN "UNASSIGNED_STACK" Bundle.steD A s' s'.heap := by rw [hhp]; exact vx_Zq.moved hW0.alike (hU.kept hS.2.1)
  have hN' : vx_Zq Bundle.tN "SUPPRESSED_SENTINEL" Bundle.listD A s' s'.heap := by rw [hhp]; exact vx_Zq.moved hW0.alike (hN.kept hS.2.1)
  have h : ∀ w ∈ Bundle.ownAtoms0 own ic cls names, w.before args s' = true := vx_own hat' (vx_isRefq hU'.1) (vx_isRefq hN'.1) hU'.2.word hN'.2.word
  have hown' : s'.vm.findClass own = some m.cls := by rw [hvm]; exact hown
  have hins : (Cond.instantiable cls 6).before args s' = true := h _ (by simp [Bundle.ownAtoms0])
  obtain ⟨vm₁, cX, kX, hfX, hkX, -, -, X₁, st1⟩ := Y.newCold hexec (own := own) (C := cls) (index := ik) (n := 6) hown' hk' hins hini'
    (g := F0 m pc ls rest) rfl (by rw [hb]; exact d0) (Nat.le_refl _) (Nat.le_refl _)
  generalize hT1 : (T.setVm vm₁).pushCell { cls := cX, slots := kX.instanceTypes.map defaultValue, vm := .none } = T1 at X₁ st1
  have hcat : (Value.ref T.heap.size).category = 1 := rfl
  have hcellA : T1.heap[T.heap.size]? = some (freshCell cX kX) := by rw [← hT1]; exact State.heap_pushCell_size _ _
  have d3' : decode c.code (pc + 3) = .ok (.dup, 1) := by rw [hb]; exact d3
  obtain ⟨U, hsteps, hrun, hend, hW, hsame, ce, hce, hO⟩ := X₁.ctorThrow0 hexec htr (own := own) (cls := cls) (names := names) (ic := ic) hown' hcls hnames h (fun x hx => nomatch hx) hfX hkX hcellA (by rw [hhp, hT]; exact Nat.le_refl _)
    (g := { method := m, pc := pc + 4, locals := ls, stack := .ref T.heap.size :: .ref T.heap.size :: rest, locked := none }) rfl hsize rfl rfl (rest := rest) rfl
    (by rw [hb]; exact d4) (by rw [hb]; exact d7) hout hRframes (by simp only [List.map_cons, List.sum_cons, hcat]; omega) hlocks
  obtain ⟨f1, f2⟩ := vx_frame hsame
  rw [hhp] at f1 f2
  have hWs : s.WarmedH U.vm := State.WarmedH.trans hW0 hW
  have hcl : s.vm.findClass cls = some ce.cls := by
    have h9 := hO.cls
    rw [hvm] at h9
    exact h9
  have hall : s.sameButNew ({ U with vm := s.vm } : State) locs mc ms := by
    subst hA
    obtain ⟨e1, e2⟩ := hsame
    rw [State.setFrames_setFrames] at e1
    have h2 : (T.setVm s.vm).sameButNew ({ U with vm := s.vm } : State) [] (0 + 1) (0 + 6) := ⟨e1, e2⟩
    have h3 := X.same.trans h2
    rw [List.append_nil] at h3
    exact h3.mono hc hs
  refine ⟨U, ?_, .threw T.heap.size, hrun, hend, Or.inr ⟨T.heap.size, rfl, cls, ce, locs, hx U hWs.alike f1 (fun q hq => f2 q hq (fun z hz => nomatch hz)), hce, hO.vm, hcl, hWs, hall, hf⟩⟩
  refine st1 _ ?_
  show Steps p.tables e below (T1.setTop { method := m, pc := pc + 3, locals := ls, stack := .ref T.heap.size :: rest, locked := none }) _
  jvm_step X₁.here [X₁.here.top, hexec, d3', Value.category]
  exact hsteps
/-- 'throw new E("text")': new; dup; ldc; invokespecial; athrow -/
theorem vx_throwS {cc : ByteArray} {pc : Nat} (hexec : p.tables.exec = Jvm.exec) (hb : c.code = cc) (hl : l.stackTraces = false) {own cls text : String} {names : List String} {ik is ic mc ms sa : Nat} {A : Nat → Prop}
    (hown : s.vm.findClass own = some m.cls) (hcls : Bundle.fit cls = true) (hnames : ∀ n ∈ names, Bundle.fit n = true)
    (hk : (Cond.classLink own ik cls).before args s = true) (hini : (Cond.initialized cls).before args s = true) (hstr : vk_R own is text sa s) (hat : ∀ w ∈ vx_atS own ic cls names, w.before args s = true)
    (hgood : ∀ w ∈ Cond.classLink own ik cls :: Cond.initialized cls :: vx_atS own ic cls names, vx_ot w = true)
    (hU : vx_Zq Bundle.tN "UNASSIGNED_STACK" Bundle.steD A s s.heap) (hN : vx_Zq Bundle.tN "SUPPRESSED_SENTINEL" Bundle.listD A s s.heap) (hS : va_S A s.heap H locs) (hsize : ls.size = c.maxLocals)
    (d0 : decode cc pc = .ok (.new ik, 3)) (d3 : decode cc (pc + 3) = .ok (.dup, 1)) (d4 : decode cc (pc + 4) = .ok (.ldc is, 2)) (d6 : decode cc (pc + 6) = .ok (.invokespecial ic, 3)) (d9 : decode cc (pc + 9) = .ok (.athrow, 1))
    (hout : ∀ x ∈ c.exceptionTable.toList, covers x (pc + 9) = false)
    (hRframes : names.length + 3 < R.frames) (hRlocals : (rest.map fun v => v.category).sum + (13 * (names.length + 1) + 43) ≤ R.locals) (hRcells : cells + 1 ≤ R.cells) (hRslots : slots + 6 ≤ R.slots) (hlocks : meth.locks = false)
    (hx : ∀ t : State, s.vm.Alike t.vm → H.size ≤ t.heap.size → (∀ q : Nat, q < H.size → t.heap[q]? = H[q]?) → XC cls s t)
    (hf : ∀ z ∈ locs, free z.base) (hc : cells + 1 ≤ mc) (hs : slots + 6 ≤ ms) :
    W p l e R s m args below meth c H locs cells slots (vx_MQ below Qc XC args s mc ms free) (F0 m pc ls rest) := by
  intro T hT X
  have htr : e.platform.stackTraces = false := (show e.platform.stackTraces = l.stackTraces by rw [X.admits.platform]).trans hl
  have Y := vx_rebase X (R' := { frames := R.frames, locals := R.locals, cells := 1, slots := 6 }) (Nat.le_refl _) (Nat.le_refl _) hRcells hRslots
  obtain ⟨s', hA⟩ : ∃ z, z = (T.setVm s.vm).setFrames (.invoking m args :: below) := ⟨_, rfl⟩
  rw [← hA] at Y
  have hvm : s'.vm = s.vm := by rw [hA]; rfl
  have hhp : s'.heap = H := by rw [hA]; exact hT
  have hW0 : s.WarmedH s'.vm := by rw [hvm]; exact State.WarmedH.refl s
  have hat' : ∀ w ∈ vx_atS own ic cls names, w.before args s' = true := fun w hw => vx_ot_at hW0 hvm.symm (hgood w (List.mem_cons_of_mem _ (List.mem_cons_of_mem _ hw))) (hat w hw)
  have hk' : (Cond.classLink own ik cls).before args s' = true := vx_ot_at hW0 hvm.symm (hgood _ List.mem_cons_self) hk
  have hini' : (Cond.initialized cls).before args s' = true := vx_ot_at hW0 hvm.symm (hgood _ (List.mem_cons_of_mem _ List.mem_cons_self)) hini
  have hU' : vx_Zq Bundle.tN "UNASSIGNED_STACK" Bundle.steD A s' s'.heap := by rw [hhp]; exact vx_Zq.moved hW0.alike (hU.kept hS.2.1)
  have hN' : vx_Zq Bundle.tN "SUPPRESSED_SENTINEL" Bundle.listD A s' s'.heap := by rw [hhp]; exact vx_Zq.moved hW0.alike (hN.kept hS.2.1)
  have h : ∀ w ∈ Bundle.ownAtoms own ic cls names, w.before args s' = true := vx_own hat' (vx_isRefq hU'.1) (vx_isRefq hN'.1) hU'.2.word hN'.2.word
  have hown' : s'.vm.findClass own = some m.cls := by rw [hvm]; exact hown
  have hins : (Cond.instantiable cls 6).before args s' = true := h _ (by simp [Bundle.ownAtoms])
  obtain ⟨vm₁, cX, kX, hfX, hkX, -, -, X₁, st1⟩ := Y.newCold hexec (own := own) (C := cls) (index := ik) (n := 6) hown' hk' hins hini'
    (g := F0 m pc ls rest) rfl (by rw [hb]; exact d0) (Nat.le_refl _) (Nat.le_refl _)
  generalize hT1 : (T.setVm vm₁).pushCell { cls := cX, slots := kX.instanceTypes.map defaultValue, vm := .none } = T1 at X₁ st1
  have hcat : (Value.ref T.heap.size).category = 1 := rfl
  have hcellA : T1.heap[T.heap.size]? = some (freshCell cX kX) := by rw [← hT1]; exact State.heap_pushCell_size _ _
  have d3' : decode c.code (pc + 3) = .ok (.dup, 1) := by rw [hb]; exact d3
  have d4' : decode c.code (pc + 4) = .ok (.ldc is, 2) := by rw [hb]; exact d4
  have hstr' : vk_R own is text sa s' := vk_R.warm hW0 hstr
  obtain ⟨U, hsteps, hrun, hend, hW, hsame, ce, hce, hO⟩ := X₁.ctorThrowS hexec htr (own := own) (cls := cls) (names := names) (ic := ic) hown' hcls hnames h (fun x hx => nomatch hx) hfX hkX hcellA (by rw [hhp, hT]; exact Nat.le_refl _) (msg := .ref sa) rfl
    (g := { method := m, pc := pc + 6, locals := ls, stack := .ref sa :: .ref T.heap.size :: .ref T.heap.size :: rest, locked := none }) rfl hsize rfl rfl (rest := rest) rfl
    (by rw [hb]; exact d6) (by rw [hb]; exact d9) hout hRframes (by simp only [List.map_cons, List.sum_cons, hcat]; omega) hlocks
  obtain ⟨f1, f2⟩ := vx_frame hsame
  rw [hhp] at f1 f2
  have hWs : s.WarmedH U.vm := State.WarmedH.trans hW0 hW
  have hcl : s.vm.findClass cls = some ce.cls := by
    have h9 := hO.cls
    rw [hvm] at h9
    exact h9
  have hall : s.sameButNew ({ U with vm := s.vm } : State) locs mc ms := by
    subst hA
    obtain ⟨e1, e2⟩ := hsame
    rw [State.setFrames_setFrames] at e1
    have h2 : (T.setVm s.vm).sameButNew ({ U with vm := s.vm } : State) [] (0 + 1) (0 + 6) := ⟨e1, e2⟩
    have h3 := X.same.trans h2
    rw [List.append_nil] at h3
    exact h3.mono hc hs
  refine ⟨U, ?_, .threw T.heap.size, hrun, hend, Or.inr ⟨T.heap.size, rfl, cls, ce, locs, hx U hWs.alike f1 (fun q hq => f2 q hq (fun z hz => nomatch hz)), hce, hO.vm, hcl, hWs, hall, hf⟩⟩
  refine st1 _ ?_
  show Steps p.tables e below (T1.setTop { method := m, pc := pc + 3, locals := ls, stack := .ref T.heap.size :: rest, locked := none }) _
  jvm_step X₁.here [X₁.here.top, hexec, d3', Value.category]
  exact X₁.ldcString hexec (own := own) (text := text) (index := is) (a := sa) hown' hstr'.1 hstr'.2
    (g := { method := m, pc := pc + 4, locals := ls, stack := .ref T.heap.size :: .ref T.heap.size :: rest, locked := none }) rfl d4' _ hsteps
/-- 'throw new E("text")', the text by a wide index -/
theorem vx_throwSW {cc : ByteArray} {pc : Nat} (hexec : p.tables.exec = Jvm.exec) (hb : c.code = cc) (hl : l.stackTraces = false) {own cls text : String} {names : List String} {ik is ic mc ms sa : Nat} {A : Nat → Prop}
    (hown : s.vm.findClass own = some m.cls) (hcls : Bundle.fit cls = true) (hnames : ∀ n ∈ names, Bundle.fit n = true)
    (hk : (Cond.classLink own ik cls).before args s = true) (hini : (Cond.initialized cls).before args s = true) (hstr : vk_R own is text sa s) (hat : ∀ w ∈ vx_atS own ic cls names, w.before args s = true)
    (hgood : ∀ w ∈ Cond.classLink own ik cls :: Cond.initialized cls :: vx_atS own ic cls names, vx_ot w = true)
    (hU : vx_Zq Bundle.tN "UNASSIGNED_STACK" Bundle.steD A s s.heap) (hN : vx_Zq Bundle.tN "SUPPRESSED_SENTINEL" Bundle.listD A s s.heap) (hS : va_S A s.heap H locs) (hsize : ls.size = c.maxLocals)
    (d0 : decode cc pc = .ok (.new ik, 3)) (d3 : decode cc (pc + 3) = .ok (.dup, 1)) (d4 : decode cc (pc + 4) = .ok (.ldc_w is, 3)) (d7 : decode cc (pc + 7) = .ok (.invokespecial ic, 3)) (d10 : decode cc (pc + 10) = .ok (.athrow, 1))
    (hout : ∀ x ∈ c.exceptionTable.toList, covers x (pc + 10) = false)
    (hRframes : names.length + 3 < R.frames) (hRlocals : (rest.map fun v => v.category).sum + (13 * (names.length + 1) + 43) ≤ R.locals) (hRcells : cells + 1 ≤ R.cells) (hRslots : slots + 6 ≤ R.slots) (hlocks : meth.locks = false)
    (hx : ∀ t : State, s.vm.Alike t.vm → H.size ≤ t.heap.size → (∀ q : Nat, q < H.size → t.heap[q]? = H[q]?) → XC cls s t)
    (hf : ∀ z ∈ locs, free z.base) (hc : cells + 1 ≤ mc) (hs : slots + 6 ≤ ms) :
    W p l e R s m args below meth c H locs cells slots (vx_MQ below Qc XC args s mc ms free) (F0 m pc ls rest) := by
  intro T hT X
  have htr : e.platform.stackTraces = false := (show e.platform.stackTraces = l.stackTraces by rw [X.admits.platform]).trans hl
  have Y := vx_rebase X (R' := { frames := R.frames, locals := R.locals, cells := 1, slots := 6 }) (Nat.le_refl _) (Nat.le_refl _) hRcells hRslots
  obtain ⟨s', hA⟩ : ∃ z, z = (T.setVm s.vm).setFrames (.invoking m args :: below) := ⟨_, rfl⟩
  rw [← hA] at Y
  have hvm : s'.vm = s.vm := by rw [hA]; rfl
  have hhp : s'.heap = H := by rw [hA]; exact hT
  have hW0 : s.WarmedH s'.vm := by rw [hvm]; exact State.WarmedH.refl s
  have hat' : ∀ w ∈ vx_atS own ic cls names, w.before args s' = true := fun w hw => vx_ot_at hW0 hvm.symm (hgood w (List.mem_cons_of_mem _ (List.mem_cons_of_mem _ hw))) (hat w hw)
  have hk' : (Cond.classLink own ik cls).before args s' = true := vx_ot_at hW0 hvm.symm (hgood _ List.mem_cons_self) hk
  have hini' : (Cond.initialized cls).before args s' = true := vx_ot_at hW0 hvm.symm (hgood _ (List.mem_cons_of_mem _ List.mem_cons_self)) hini
  have hU' : vx_Zq Bundle.tN "UNASSIGNED_STACK" Bundle.steD A s' s'.heap := by rw [hhp]; exact vx_Zq.moved hW0.alike (hU.kept hS.2.1)
  have hN' : vx_Zq Bundle.tN "SUPPRESSED_SENTINEL" Bundle.listD A s' s'.heap := by rw [hhp]; exact vx_Zq.moved hW0.alike (hN.kept hS.2.1)
  have h : ∀ w ∈ Bundle.ownAtoms own ic cls names, w.before args s' = true := vx_own hat' (vx_isRefq hU'.1) (vx_isRefq hN'.1) hU'.2.word hN'.2.word
  have hown' : s'.vm.findClass own = some m.cls := by rw [hvm]; exact hown
  have hins : (Cond.instantiable cls 6).before args s' = true := h _ (by simp [Bundle.ownAtoms])
  obtain ⟨vm₁, cX, kX, hfX, hkX, -, -, X₁, st1⟩ := Y.newCold hexec (own := own) (C := cls) (index := ik) (n := 6) hown' hk' hins hini'
    (g := F0 m pc ls rest) rfl (by rw [hb]; exact d0) (Nat.le_refl _) (Nat.le_refl _)
  generalize hT1 : (T.setVm vm₁).pushCell { cls := cX, slots := kX.instanceTypes.map defaultValue, vm := .none } = T1 at X₁ st1
  have hcat : (Value.ref T.heap.size).category = 1 := rfl
  have hcellA : T1.heap[T.heap.size]? = some (freshCell cX kX) := by rw [← hT1]; exact State.heap_pushCell_size _ _
  have d3' : decode c.code (pc + 3) = .ok (.dup, 1) := by rw [hb]; exact d3
  have d4' : decode c.code (pc + 4) = .ok (.ldc_w is, 3) := by rw [hb]; exact d4
  have hstr' : vk_R own is text sa s' := vk_R.warm hW0 hstr
  obtain ⟨U, hsteps, hrun, hend, hW, hsame, ce, hce, hO⟩ := X₁.ctorThrowS hexec htr (own := own) (cls := cls) (names := names) (ic := ic) hown' hcls hnames h (fun x hx => nomatch hx) hfX hkX hcellA (by rw [hhp, hT]; exact Nat.le_refl _) (msg := .ref sa) rfl
    (g := { method := m, pc := pc + 7, locals := ls, stack := .ref sa :: .ref T.heap.size :: .ref T.heap.size :: rest, locked := none }) rfl hsize rfl rfl (rest := rest) rfl
    (by rw [hb]; exact d7) (by rw [hb]; exact d10) hout hRframes (by simp only [List.map_cons, List.sum_cons, hcat]; omega) hlocks
  obtain ⟨f1, f2⟩ := vx_frame hsame
  rw [hhp] at f1 f2
  have hWs : s.WarmedH U.vm := State.WarmedH.trans hW0 hW
  have hcl : s.vm.findClass cls = some ce.cls := by
    have h9 := hO.cls
    rw [hvm] at h9
    exact h9
  have hall : s.sameButNew ({ U with vm := s.vm } : State) locs mc ms := by
    subst hA
    obtain ⟨e1, e2⟩ := hsame
    rw [State.setFrames_setFrames] at e1
    have h2 : (T.setVm s.vm).sameButNew ({ U with vm := s.vm } : State) [] (0 + 1) (0 + 6) := ⟨e1, e2⟩
    have h3 := X.same.trans h2
    rw [List.append_nil] at h3
    exact h3.mono hc hs
  refine ⟨U, ?_, .threw T.heap.size, hrun, hend, Or.inr ⟨T.heap.size, rfl, cls, ce, locs, hx U hWs.alike f1 (fun q hq => f2 q hq (fun z hz => nomatch hz)), hce, hO.vm, hcl, hWs, hall, hf⟩⟩
  refine st1 _ ?_
  show Steps p.tables e below (T1.setTop { method := m, pc := pc + 3, locals := ls, stack := .ref T.heap.size :: rest, locked := none }) _
  jvm_step X₁.here [X₁.here.top, hexec, d3', Value.category]
  exact X₁.ldcStringW hexec (own := own) (text := text) (index := is) (a := sa) hown' hstr'.1 hstr'.2
    (g := { method := m, pc := pc + 4, locals := ls, stack := .ref T.heap.size :: .ref T.heap.size :: rest, locked := none }) rfl d4' _ hsteps
end Ends
section Bodies
variable {l : Launch}
theorem vx_ofW {y : MethodName} {ws ws' : List Cond} {rm : Room} {Pc : Array Value → State → Prop} {Qc : Array Value → State → Outcome → State → Prop} {XC : String → State → State → Prop} {mc ms : Nat} {free : Addr → Prop} {cc : ByteArray} {maxL : Nat} {ret : Option FieldType}
    (hy : plainName y.cls = true) (hw : ws = Cond.code y cc maxL ret :: ws')
    (body : ∀ p e s m args below meth c s₁, BodyLoose p l y (headSpec ws rm) cc maxL ret e s m args below meth c s₁ → c.maxLocals = maxL → (∀ x ∈ c.exceptionTable.toList, False) → Pc args s →
      W p l e (headSpec ws rm).room s m args below meth c s.heap [] 0 0 (vx_MQ below Qc XC args s mc ms free) (entryFrame m args maxL)) : vx_Met l y ws rm Pc Qc XC mc ms free := by
  refine MetFree.of_bodyS (code := cc) (maxLocals := maxL) (ret := ret) hy ?_ ?_
  · intro args s m h hn
    obtain ⟨meth, c, h1, h2, h3, h4, h5, h6, -, -⟩ := Cond.code_spec hn (atoms_spec (ws := ws) h _ (by rw [hw]; exact List.mem_cons_self))
    exact ⟨meth, c, h1, h2, h3, h4, h5, h6⟩
  · intro p e s m args below meth c s₁ B hml hP _
    have hh0 : s₁.heap = s.heap := by rw [B.state]; rfl
    have ht : ∀ x ∈ c.exceptionTable.toList, False := by
      obtain ⟨meth9, c9, h1, h2, -, -, -, -, h7, -⟩ := Cond.code_spec B.named (atoms_spec (ws := ws) B.pre _ (by rw [hw]; exact List.mem_cons_self))
      cases Option.some.inj (h1.symm.trans B.method)
      cases Option.some.inj (h2.symm.trans (Stand.of_body B).code)
      intro x hx
      rw [Array.isEmpty_iff.mp h7] at hx
      cases hx
    obtain ⟨t, a1, o, b1, b2, b3⟩ := body p e s m args below meth c s₁ B hml ht hP s₁ hh0 (Stand.of_body B)
    exact ⟨t, o, a1, b1, b2, b3⟩
/-- the table of a body with handlers -/
theorem vx_table {p : Program} {x y : MethodName} {S : Spec} {cc bytes : ByteArray} {maxL maxL' : Nat} {ret ret' : Option FieldType} {e : Env} {s s₁ : State} {m : MethodId} {args : Array Value} {below : List Frame} {meth : Method} {c : Code} {hh : List (Nat × Nat × Nat × Nat)}
    (B : BodyLoose p l y S cc maxL ret e s m args below meth c s₁) (h : (Cond.codeWith y bytes maxL' ret' hh).before args s = true) : c.exceptionTable.toList = tableOf hh := by
  obtain ⟨m9, meth9, c9, hn9, h1, h2, -, -, h6, -⟩ := Cond.codeWith_spec h
  cases Option.some.inj (hn9.symm.trans B.named)
  cases Option.some.inj (h1.symm.trans B.method)
  cases Option.some.inj (h2.symm.trans (Stand.of_body B).code)
  rw [← h6, table_eq]
end Bodies
end VXA
/-! ===== END ===== -/
/-! ===== BEGIN a static call of a method with an exception table ===== -/
section VXS
variable {p : Program} {l : Launch} {e : Env} {R : Room} {s : State} {m : MethodId} {args : Array Value} {below : List Frame} {meth : Method} {c : Code} {T : State} {H : Heap} {locs : List Loc} {cells slots : Nat}
abbrev vx_CSW (R : Room) (s : State) (args : Array Value) (own : String) (index : Nat) (y : MethodName) (bytes : ByteArray) (maxL : Nat) (ret : Option FieldType) (hh : List (Nat × Nat × Nat × Nat)) (ws : List Cond) (rm : Room) (mc ms n : Nat) : Prop :=
  (rm.cells = mc ∧ rm.slots = ms ∧ rm.frames + 1 ≤ R.frames ∧ 8 + (maxL + 11) + rm.locals ≤ R.locals ∧ (∀ w ∈ ws, ∀ (a' : Array Value) (U : State), s.WarmedH U.vm → w.before a' U = true) ∧ Cond.codeWith y bytes maxL ret hh ∈ ws) ∧
  (Cond.codeWith y bytes maxL ret hh).before args s = true ∧ (Cond.initialized y.cls).before args s = true ∧ (y.cls ≠ "java/lang/invoke/MethodHandle" ∧ y.cls ≠ "java/lang/invoke/VarHandle") ∧
  (∀ sig, parseMethodDescriptor y.desc = some sig → n = sig.parameters.length) ∧ (Cond.methodLink own index y).before args s = true ∧ (Cond.static y).before args s = true
theorem vx_cwSW {own : String} {index maxL mc ms : Nat} {y : MethodName} {bytes : ByteArray} {ret : Option FieldType} {hh : List (Nat × Nat × Nat × Nat)} {Ts ws ws' : List Cond} {rm : Room} (n : Nat) (ht : ∀ w ∈ Ts, w.before args s = true) (hT : GoodIn Ts (va_wsS own index y ws)) (hw : ws = Cond.codeWith y bytes maxL ret hh :: ws') (hrc : rm.cells = mc) (hrs : rm.slots = ms)
    (hd : y.cls ≠ "java/lang/invoke/MethodHandle" ∧ y.cls ≠ "java/lang/invoke/VarHandle" ∧ (parseMethodDescriptor y.desc).map (fun d => d.parameters.length) = some n) (hR : rm.frames + 1 ≤ R.frames ∧ 8 + (maxL + 11) + rm.locals ≤ R.locals) :
    vx_CSW R s args own index y bytes maxL ret hh ws rm mc ms n := by
  have ok : ∀ w ∈ va_wsS own index y ws, w.before args s = true := fun w h => ht w (hT w h).1
  have hG : GoodIn Ts ws := fun w h => hT w (by unfold va_wsS; exact List.mem_append_right _ h)
  have hc : Cond.codeWith y bytes maxL ret hh ∈ ws := by rw [hw]; exact List.mem_cons_self
  refine ⟨⟨hrc, hrs, hR.1, hR.2, pay_in ht hG, hc⟩, ht _ (hG _ hc).1, ok _ (by simp [va_wsS]), ⟨hd.1, hd.2.1⟩, fun sig h => ?_, ok _ (by simp [va_wsS]), ok _ (by simp [va_wsS])⟩
  have h2 := hd.2.2
  rw [h] at h2
  exact (Option.some.inj h2).symm
theorem vx_callSW (X : Stand p l e R s m args below meth c T locs cells slots) (hexec : p.tables.exec = Jvm.exec) {own : String} {index : Nat} {y : MethodName} {bytes : ByteArray} {maxL : Nat} {ret : Option FieldType} {hh : List (Nat × Nat × Nat × Nat)}
    (hown : s.vm.findClass own = some m.cls) (hlink : (Cond.methodLink own index y).before args s = true) (hstat : (Cond.static y).before args s = true) (hinit : (Cond.initialized y.cls).before args s = true)
    (hcode : (Cond.codeWith y bytes maxL ret hh).before args s = true) (hy : y.cls ≠ "java/lang/invoke/MethodHandle" ∧ y.cls ≠ "java/lang/invoke/VarHandle")
    {W9 : Nat} {Pre : Pt → Array Value → Prop} {Post : Pt → Array Value → Option Value → Pt → Prop} (hK : Back l R p e below s args y 3 W9 Pre Post)
    {g : JFrame} (hg : g.method = m) (hsize : g.locals.size = c.maxLocals) {argsL rest : List Value} (hlen : ∀ sig, parseMethodDescriptor y.desc = some sig → argsL.length = sig.parameters.length)
    (hstack : g.stack = argsL.reverse ++ rest) (hW : 2 * g.monitorRoom + (rest.map fun v => v.category).sum ≤ W9) (hdg : decode c.code g.pc = .ok (.invokestatic index, 3))
    (hpre : ∀ vm₁, s.WarmedH vm₁ → Pre ⟨T.setVm vm₁, locs, cells, slots⟩ argsL.toArray) :
    ∃ (v : Option Value) (vm₁ : Vm) (B : Pt), s.WarmedH vm₁ ∧ Stand p l e R s m args below meth c B.U B.locs B.cells B.slots ∧ Post ⟨T.setVm vm₁, locs, cells, slots⟩ argsL.toArray v B ∧
      ∀ target, Steps p.tables e below (B.U.setTop { g with pc := g.pc + 3, stack := v.toList ++ rest }) target → Steps p.tables e below (T.setTop g) target := by
  obtain ⟨mk, methM, cM, hnamed, hmethM, -, -, -, -, -, -, hsigM⟩ := Cond.codeWith_spec hcode
  have hstatic : methM.isStatic = true := Cond.static_spec hnamed hmethM hstat
  obtain ⟨kP, hkP, -⟩ := className_of_methodNamed hnamed
  have hinitP : kP.init = .initialized := Cond.initialized_spec (findClass_of_methodNamed hnamed) hkP hinit
  obtain ⟨vm₁, X₁, hstep₁⟩ := X.invokestatic hexec hown hlink hnamed hmethM hstatic hkP hinitP hy (g := g) hg (argsL := argsL) (rest := rest) (hlen _ hsigM) hstack hdg
  obtain ⟨v, B, X', hpost, hsteps⟩ := hK m meth c ⟨T.setVm vm₁, locs, cells, slots⟩ { g with stack := rest } (.invokestatic index) mk argsL.toArray X₁ hg hsize hdg hW (X₁.named hnamed) (hpre vm₁ X₁.warmed)
  exact ⟨v, vm₁, B, X₁.warmed, X', hpost, fun target h => hstep₁ _ fun acts => by rw [doInvoke_state]; exact hsteps.trans h⟩
theorem vx_runSW {y : MethodName} {bytes cc : ByteArray} {maxL nL mc ms n index : Nat} {ret : Option FieldType} {hh : List (Nat × Nat × Nat × Nat)} {ws : List Cond} {rm : Room} {Pc : Array Value → State → Prop} {Qc : Array Value → State → Outcome → State → Prop} {free : Addr → Prop} {Ts : List Cond} {own : String} {As rest : List Value} {g : JFrame}
    (S : CallFix p m c cc nL s args Ts own) (hM : Met l y ws rm Pc Qc mc ms free) (cw : vx_CSW R s args own index y bytes maxL ret hh ws rm mc ms n) (hp : PreS s H Pc As)
    (hg : g.method = m) (hn : As.length = n) (hsize : g.locals.size = nL) (hstack : g.stack = As.reverse ++ rest) (hW : 2 * g.monitorRoom + (rest.map fun v => v.category).sum ≤ 8) (hdg : decode cc g.pc = .ok (.invokestatic index, 3)) (hf : cells + mc ≤ R.cells ∧ slots + ms ≤ R.slots) :
    va_Run p l e R s m args below meth c H locs cells slots mc ms g rest (Qc As.toArray) (free) := by
  obtain ⟨⟨hrc, hrs, hfr, hlo, hws, hcw⟩, hcode, hini, hy, hlen, hl, hstt⟩ := cw
  have hK : Back l R p e below s args y 3 8 (PreOf R mc ms Pc) (PostOf Qc mc ms free) := va_backW (hh := hh) (bytes := bytes) (maxL := maxL) (ret := ret) hM hp.1 hrc hrs hfr hlo hws hcw (fun a' U hW => word_at hW (Or.inl (by first | rfl | simp [Cond.onTables, Cond.keeps, Cond.steady])) hini)
  obtain ⟨hx, hb, hml, ho, -⟩ := S
  intro T hT X
  obtain ⟨v, vm₁, ⟨U', l2, c2, s2⟩, hW₁, X', ⟨g', mk, t, L, e1, e2, hq, h1, hL, h2, h3⟩, st⟩ := vx_callSW X hx (hh := hh) (bytes := bytes) (maxL := maxL) (ret := ret) ho hl hstt hini hcode hy hK hg (hsize.trans hml.symm) (argsL := As) (rest := rest) (fun sig h => hn.trans (hlen sig h)) hstack hW (by rw [hb]; exact hdg)
    (fun vm₁ hW₁ => ⟨hf.1, hf.2, hp.2 (T.setVm vm₁) hT hW₁⟩)
  dsimp only [Pt.U, Pt.locs, Pt.cells, Pt.slots] at X' e1 e2 h1 h2 h3 st
  subst h1; subst h2; subst h3
  exact ⟨v, (T.setVm vm₁).calling g' mk As.toArray, t, U', L, hT, X', hL, e1, e2, hq, st⟩
/-- not caught here, past rows that name other classes: it goes on to the caller -/
theorem vx_outP {p : Program} {l : Launch} {e : Env} {R : Room} {s : State} {m : MethodId} {args : Array Value} {below : List Frame} {meth : Method} {c : Code} {H : Heap} {locs : List Loc} {cells slots : Nat} {free : Addr → Prop} {ls : Array Slot} {rest : List Value} {Qc : Array Value → State → Outcome → State → Prop} {XC : String → State → State → Prop}
    {pc : Nat} {own E : String} {ce : Cell} {q : Addr} {mc ms : Nat} (hown : s.vm.findClass own = some m.cls) (hlocks : meth.locks = false)
    (hpass : ∀ z ∈ c.exceptionTable.toList, covers z pc = false ∨ (z.catchType ≠ 0 ∧ ∃ nm : String, (Cond.classLink own z.catchType nm).before args s = true ∧ va_Nc E nm s)) (hcell : H[q]? = some ce) (hv : ce.vm = .none) (hcl : s.vm.findClass E = some ce.cls)
    (hx : ∀ t : State, t.heap = H → s.vm.Alike t.vm → XC E s t) (hf : ∀ z ∈ locs, free z.base) (hc : cells ≤ mc) (hs : slots ≤ ms) :
    vx_W p l e R s m args below meth c H locs cells slots (vx_MQ below Qc XC args s mc ms free) (F0 m pc ls rest) q := by
  intro T hT X
  have hpl : e.platform.magicAccessors = ({} : Platform).magicAccessors := by rw [X.admits.platform]
  obtain ⟨vm', hW', X', st⟩ := X.outThrough hlocks q (g := F0 m pc ls rest) rfl rfl rfl (cell := ce) (by rw [hT]; exact hcell) (by rw [hv]; rfl)
    (by obtain ⟨k9, h9, -⟩ := Vm.findClass_spec hcl; exact ⟨k9, h9⟩) (fun z hz => by
      rcases hpass z hz with h | ⟨hz0, nm, hl1, hn1⟩
      · exact Or.inl h
      · obtain ⟨c6, hc6, hcl6⟩ := Cond.classLink_spec hown hl1 e.platform hpl
        obtain ⟨a8, b8, h1, h2, h3⟩ := hn1
        cases Option.some.inj (h1.symm.trans hcl)
        cases Option.some.inj (h2.symm.trans hc6)
        exact Or.inr ⟨hz0, _, hcl6, h3⟩)
  obtain ⟨g₀, hfr⟩ := X'.frames_eq
  have hcell9 : ((T.setVm vm').setFrames (.throwing q :: below)).heap[q]? = some ce := by
    show T.heap[q]? = some ce
    rw [hT]; exact hcell
  have hend : Ended ((T.setVm vm').setFrames (.throwing q :: below)) below (.threw q) := State.frames_setFrames _ (State.cur_lt_of_frames hfr)
  refine ⟨(T.setVm vm').setFrames (.throwing q :: below), ?_, .threw q, X'.here.running, hend, Or.inr ⟨q, rfl, E, ce, locs, hx _ hT (X'.ends _).1.alike, hcell9, hv, hcl, (X'.ends _).1, (X'.ends _).2.mono hc hs, hf⟩⟩
  rw [X.pushThrowing_eq]
  exact st
/-- a thing of a world lies in the heap -/
theorem vx_lt {D : va_G} {cl : List vw_C} {ws : va_W} {H1 : Heap} (h : va_P D cl ws H1) {k : Nat} {q : Nat × va_E} (hk : ws[k]? = some q) : q.1 < H1.size := (h k q hk).lt
end VXS
/-! ===== END ===== -/
/-! ===== BEGIN methods with a table of their own: called by a name, returning or throwing ===== -/
section VXH
/-! vx_backW, vx_callVX, vx_callSX, vx_callVW, vx_runVW, vx_runVX, vx_runSX, vx_ofWH follow the same proofs as their sisters above (Free/Laws.lean, Shelf42/LK1.lean); vx_outP calls Shelf42/NT130.lean (outThrough). -/
section
variable {l : Launch} {R : Room} {p : Program} {e : Env} {below : List Frame} {s : State} {sargs : Array Value} {y : MethodName} {len W9 : Nat}
theorem vx_backW {ws : List Cond} {rm : Room} {Pc : Array Value → State → Prop} {Qc : Array Value → State → Outcome → State → Prop} {XC : String → State → State → Prop} {mc ms : Nat} {free : Addr → Prop} {bytes : ByteArray} {maxL : Nat} {ret : Option FieldType} {hh : List (Nat × Nat × Nat × Nat)}
    (hM : vx_Met l y ws rm Pc Qc XC mc ms free) (hblind : FrameBlind Pc) (hrc : rm.cells = mc) (hrs : rm.slots = ms)
    (hframes : rm.frames + 1 ≤ R.frames) (hlocals : W9 + (maxL + 11) + rm.locals ≤ R.locals)
    (hws : ∀ w ∈ ws, ∀ a' U, s.WarmedH U.vm → w.before a' U = true) (hcode : Cond.codeWith y bytes maxL ret hh ∈ ws) (hinit : ∀ a' U, s.WarmedH U.vm → (Cond.initialized y.cls).before a' U = true) :
    vx_Back l R p e below s sargs y len W9 (PreOf R mc ms Pc) (PostOf Qc mc ms free) (vx_Post XC mc ms free) := by
  intro m meth c A g ig mk a X hg hsize hdg hW hn hp
  have h1 : (headSpec ws rm).pre.before a A.U = true := atoms_intro fun w hw => hws w hw _ _ X.warmed
  have h2 : (Cond.codeWith y bytes maxL ret hh).before a A.U = true := hws _ hcode _ _ X.warmed
  have h3 : (Cond.initialized y.cls).before a A.U = true := hinit _ _ X.warmed
  have h4 : A.cells + (headSpec ws rm).room.cells ≤ R.cells := by rw [show (headSpec ws rm).room.cells = mc from hrc]; exact hp.1
  have h5 : A.slots + (headSpec ws rm).room.slots ≤ R.slots := by rw [show (headSpec ws rm).room.slots = ms from hrs]; exact hp.2.1
  have hPc : Pc a (A.U.calling g mk a) := hblind _ _ _ _ hp.2.2
  obtain ⟨U, Ls, c0, s0⟩ := A
  dsimp only [Pt.U, Pt.locs, Pt.cells, Pt.slots] at h1 h2 h3 h4 h5 X hn hPc ⊢
  obtain ⟨m9, methY, cY, hn9, hmY, hcY, -, hlY, -⟩ := Cond.codeWith_spec h2
  cases Option.some.inj (hn9.symm.trans hn)
  obtain ⟨kY, hkY, -⟩ := className_of_methodNamed hn
  have hinitY : kY.init = .initialized := Cond.initialized_spec (findClass_of_methodNamed hn) hkY h3
  have h : At U g.method c below := by rw [hg]; exact X.here
  have hlocals9 : W9 + (maxL + 11) + (headSpec ws rm).room.locals ≤ R.locals := hlocals
  have happ : (headSpec ws rm).appliesLoose y e.platform (U.calling g mk a) = true :=
    Spec.appliesLoose_calling (g := g) h hdg hn hkY hinitY
      (X.room_calling (g := g) (R' := (headSpec ws rm).room) hsize hmY hcY hframes (by rw [hlY]; omega) h4 h5) h1
  obtain ⟨mid, hmid⟩ := h.above
  have hfr : (U.setTop g).frames = (.java g :: mid) ++ below := by rw [State.frames_setTop' g h.top, hmid]; rfl
  obtain ⟨o, s₂, hsteps, -, hend, hq⟩ := Steps.callFree hM p X.admits X.cas X.clock (acts := []) hfr happ hPc trivial
  have hq' : vx_Q Qc XC mc ms free a (U.calling g mk a) o s₂ := hq
  rw [State.frames_setTop' g h.top] at hend
  obtain ⟨g₀, hg0⟩ := Option.isSome_iff_exists.mp h.top
  obtain ⟨r, hr⟩ := State.topJava?_eq_some.mp hg0
  have hr' : (({ U with heap := s₂.heap, slotsUsed := s₂.slotsUsed } : State).setVm s₂.vm).frames = .java g₀ :: r := hr
  rcases hq' with ⟨hqc, L, hfe, hL⟩ | ⟨q, rfl, E, ce, L, hx, hce, hcv, hcl, hW₂, hsm, hL⟩
  · obtain ⟨⟨v, rfl⟩, hW₂, e2, q2, q3, q4, q5, q6⟩ := id hfe
    have e3 : s₂ = ({ (U.calling g mk a).setFrames s₂.frames with heap := s₂.heap, slotsUsed := s₂.slotsUsed } : State).setVm s₂.vm := by
      have : s₂ = ({ s₂ with vm := (U.calling g mk a).vm } : State).setVm s₂.vm := rfl
      rw [e2] at this
      exact this
    obtain ⟨c₂, i₂, len₂, hc₂, hd₂, hf₂⟩ := hend
    have hW' : U.WarmedH s₂.vm := hW₂
    have hcc : c₂ = c := by
      have h1 : s₂.code? g.method = U.code? g.method := by
        rw [State.code?_eq, State.code?_eq, hW'.alike.method?]
      exact Option.some.inj (hc₂.symm.trans (h1.trans h.code))
    subst hcc
    have hlen : len₂ = len := by rw [hdg] at hd₂; cases hd₂; rfl
    subst hlen
    have hs₂ : s₂ = (({ U with heap := s₂.heap, slotsUsed := s₂.slotsUsed } : State).setVm s₂.vm).setTop { g with pc := g.pc + len₂, stack := v.toList ++ g.stack } := by
      refine e3.trans ?_
      rw [hf₂, State.calling_eq h.top, State.setFrames_setFrames, State.setTop_of_frames _ hr', hr]
      rfl
    have hsame : U.sameButNew ({ U with heap := s₂.heap, slotsUsed := s₂.slotsUsed } : State) L mc ms := by
      refine ⟨?_, q2, q3, q4, q5, q6⟩
      obtain ⟨t, ht, -⟩ := State.frames_cons hr
      show ({ U with heap := s₂.heap, slotsUsed := s₂.slotsUsed } : State) = { U.setFrames U.frames with heap := s₂.heap, slotsUsed := s₂.slotsUsed }
      rw [State.setFrames_self ht]
    subst hg
    refine Or.inl ⟨v, ⟨(({ U with heap := s₂.heap, slotsUsed := s₂.slotsUsed } : State).setVm s₂.vm), Ls ++ L, c0 + mc, s0 + ms⟩,
      ⟨X.admits, X.cas, X.clock, X.frames, X.room, X.hears, X.method, X.code, (X.here.setHeapUsed s₂.heap s₂.slotsUsed).setVm hW'.alike, X.tail, State.WarmedH.trans X.warmed hW', X.limits, X.bytes, X.same.trans (hsame.setVm s.vm)⟩,
      ⟨g, mk, s₂, L, rfl, rfl, hqc, rfl, hL, rfl, rfl⟩, ?_⟩
    show Steps p.tables e below _ ((({ U with heap := s₂.heap, slotsUsed := s₂.slotsUsed } : State).setVm s₂.vm).setTop { g with pc := g.pc + len₂, stack := v.toList ++ g.stack })
    rw [← hs₂]
    exact hsteps
  · obtain ⟨e2, q2, q3, q4, q5, q6⟩ := id hsm
    have e3 : s₂ = ({ (U.calling g mk a).setFrames s₂.frames with heap := s₂.heap, slotsUsed := s₂.slotsUsed } : State).setVm s₂.vm := by
      have : s₂ = ({ s₂ with vm := (U.calling g mk a).vm } : State).setVm s₂.vm := rfl
      rw [e2] at this
      exact this
    have hf₂ : s₂.frames = .throwing q :: .java g :: U.frames.tail := hend
    have hW' : U.WarmedH s₂.vm := hW₂
    have hs₂ : s₂ = ((({ U with heap := s₂.heap, slotsUsed := s₂.slotsUsed } : State).setVm s₂.vm).setTop g).pushFrame (.throwing q) := by
      refine e3.trans ?_
      rw [hf₂, State.calling_eq h.top, State.setFrames_setFrames, State.pushFrame, State.frames_setTop _ hr', State.setTop_of_frames _ hr', State.setFrames_setFrames, hr]
      rfl
    have hsame : U.sameButNew ({ U with heap := s₂.heap, slotsUsed := s₂.slotsUsed } : State) L mc ms := by
      refine ⟨?_, q2, q3, q4, q5, q6⟩
      obtain ⟨t, ht, -⟩ := State.frames_cons hr
      show ({ U with heap := s₂.heap, slotsUsed := s₂.slotsUsed } : State) = { U.setFrames U.frames with heap := s₂.heap, slotsUsed := s₂.slotsUsed }
      rw [State.setFrames_self ht]
    subst hg
    refine Or.inr ⟨q, ⟨(({ U with heap := s₂.heap, slotsUsed := s₂.slotsUsed } : State).setVm s₂.vm), Ls ++ L, c0 + mc, s0 + ms⟩,
      ⟨X.admits, X.cas, X.clock, X.frames, X.room, X.hears, X.method, X.code, (X.here.setHeapUsed s₂.heap s₂.slotsUsed).setVm hW'.alike, X.tail, State.WarmedH.trans X.warmed hW', X.limits, X.bytes, X.same.trans (hsame.setVm s.vm)⟩,
      ⟨g, mk, s₂, L, E, ce, rfl, rfl, hx, hce, hcv, hcl, rfl, hL, rfl, rfl⟩, ?_⟩
    show Steps p.tables e below _ (((({ U with heap := s₂.heap, slotsUsed := s₂.slotsUsed } : State).setVm s₂.vm).setTop g).pushFrame (.throwing q))
    rw [← hs₂]
    exact hsteps
end
variable {p : Program} {l : Launch} {e : Env} {R : Room} {s : State} {m : MethodId} {args : Array Value} {below : List Frame} {meth : Method} {c : Code} {T : State} {H : Heap} {locs : List Loc} {cells slots : Nat}
theorem vx_callVX (X : Stand p l e R s m args below meth c T locs cells slots) (hexec : p.tables.exec = Jvm.exec) {own C : String} {index : Nat} {y : MethodName} {bytes : ByteArray} {maxL : Nat} {ret : Option FieldType} {hh : List (Nat × Nat × Nat × Nat)}
    (hown : s.vm.findClass own = some m.cls) (hlink : (Cond.methodLink own index y).before args s = true) (hinst : (Cond.instanceMethod y).before args s = true) (hsel : (Cond.selects C y y).before args s = true)
    (hcode : (Cond.codeWith y bytes maxL ret hh).before args s = true) (hy : y.cls ≠ "java/lang/invoke/MethodHandle" ∧ y.cls ≠ "java/lang/invoke/VarHandle")
    {W9 : Nat} {Pre : Pt → Array Value → Prop} {Post : Pt → Array Value → Option Value → Pt → Prop} {PostX : Pt → Array Value → Addr → Pt → Prop} (hK : vx_Back l R p e below s args y 3 W9 Pre Post PostX)
    {b : Addr} {cellB : Cell} (hcell : T.heap[b]? = some cellB) (hobj : cellB.vm.isStatics = false) (hcls : s.vm.findClass C = some cellB.cls)
    {g : JFrame} (hg : g.method = m) (hsize : g.locals.size = c.maxLocals) {argsL rest : List Value} (hlen : ∀ sig, parseMethodDescriptor y.desc = some sig → argsL.length = sig.parameters.length)
    (hstack : g.stack = argsL.reverse ++ .ref b :: rest) (hW : 2 * g.monitorRoom + (rest.map fun v => v.category).sum ≤ W9) (hdg : decode c.code g.pc = .ok (.invokevirtual index, 3))
    (hpre : ∀ vm₁, s.WarmedH vm₁ → Pre ⟨T.setVm vm₁, locs, cells, slots⟩ (Value.ref b :: argsL).toArray) :
    (∃ (v : Option Value) (vm₁ : Vm) (B : Pt), s.WarmedH vm₁ ∧ Stand p l e R s m args below meth c B.U B.locs B.cells B.slots ∧ Post ⟨T.setVm vm₁, locs, cells, slots⟩ (Value.ref b :: argsL).toArray v B ∧
      ∀ target, Steps p.tables e below (B.U.setTop { g with pc := g.pc + 3, stack := v.toList ++ rest }) target → Steps p.tables e below (T.setTop g) target) ∨
    (∃ (q : Addr) (vm₁ : Vm) (B : Pt), s.WarmedH vm₁ ∧ Stand p l e R s m args below meth c B.U B.locs B.cells B.slots ∧ PostX ⟨T.setVm vm₁, locs, cells, slots⟩ (Value.ref b :: argsL).toArray q B ∧
      Steps p.tables e below (T.setTop g) ((B.U.setTop { g with stack := rest }).pushFrame (.throwing q))) := by
  obtain ⟨mk, methM, hnamed, hmethM, hstM, habM⟩ := Cond.instanceMethod_spec hinst
  obtain ⟨m8, methM', cM, hn8, hmethM', -, -, -, -, -, -, hsigM⟩ := Cond.codeWith_spec hcode
  cases Option.some.inj (hn8.symm.trans hnamed)
  cases hmethM.symm.trans hmethM'
  obtain ⟨c2, r2, m2, q1, q2, q3, q4, kP, hkP, hkPi⟩ := Cond.selects_spec hsel
  cases hcls.symm.trans q1
  cases (State.methodFound?_of_named hnamed hy).symm.trans q2
  cases hnamed.symm.trans q3
  have hselP : selectMethod e.platform s.vm cellB.cls mk = .method mk := by rw [Launch.admits_selectMethod X.admits]; exact q4
  obtain ⟨vm₁, X₁, hstep₁⟩ := X.invokevirtual hexec hown hlink hnamed hmethM hstM hkP hkPi hy (a := b) (cell := cellB) hcell
    (fun z h => by rw [h] at hobj; cases hobj) hselP hmethM habM hkP hkPi (g := g) hg (argsL := argsL) (rest := rest) (hlen _ hsigM) hstack hdg
  rcases hK m meth c ⟨T.setVm vm₁, locs, cells, slots⟩ { g with stack := rest } (.invokevirtual index) mk (Value.ref b :: argsL).toArray X₁ hg hsize hdg hW (X₁.named hnamed) (hpre vm₁ X₁.warmed) with ⟨v, B, X', hpost, hsteps⟩ | ⟨q, B, X', hpost, hsteps⟩
  · exact Or.inl ⟨v, vm₁, B, X₁.warmed, X', hpost, fun target h => hstep₁ _ fun acts => by rw [doInvoke_state]; exact hsteps.trans h⟩
  · exact Or.inr ⟨q, vm₁, B, X₁.warmed, X', hpost, hstep₁ _ fun acts => by rw [doInvoke_state]; exact hsteps⟩
theorem vx_callSX (X : Stand p l e R s m args below meth c T locs cells slots) (hexec : p.tables.exec = Jvm.exec) {own : String} {index : Nat} {y : MethodName} {bytes : ByteArray} {maxL : Nat} {ret : Option FieldType} {hh : List (Nat × Nat × Nat × Nat)}
    (hown : s.vm.findClass own = some m.cls) (hlink : (Cond.methodLink own index y).before args s = true) (hstat : (Cond.static y).before args s = true) (hinit : (Cond.initialized y.cls).before args s = true)
    (hcode : (Cond.codeWith y bytes maxL ret hh).before args s = true) (hy : y.cls ≠ "java/lang/invoke/MethodHandle" ∧ y.cls ≠ "java/lang/invoke/VarHandle")
    {W9 : Nat} {Pre : Pt → Array Value → Prop} {Post : Pt → Array Value → Option Value → Pt → Prop} {PostX : Pt → Array Value → Addr → Pt → Prop} (hK : vx_Back l R p e below s args y 3 W9 Pre Post PostX)
    {g : JFrame} (hg : g.method = m) (hsize : g.locals.size = c.maxLocals) {argsL rest : List Value} (hlen : ∀ sig, parseMethodDescriptor y.desc = some sig → argsL.length = sig.parameters.length)
    (hstack : g.stack = argsL.reverse ++ rest) (hW : 2 * g.monitorRoom + (rest.map fun v => v.category).sum ≤ W9) (hdg : decode c.code g.pc = .ok (.invokestatic index, 3))
    (hpre : ∀ vm₁, s.WarmedH vm₁ → Pre ⟨T.setVm vm₁, locs, cells, slots⟩ argsL.toArray) :
    (∃ (v : Option Value) (vm₁ : Vm) (B : Pt), s.WarmedH vm₁ ∧ Stand p l e R s m args below meth c B.U B.locs B.cells B.slots ∧ Post ⟨T.setVm vm₁, locs, cells, slots⟩ argsL.toArray v B ∧
      ∀ target, Steps p.tables e below (B.U.setTop { g with pc := g.pc + 3, stack := v.toList ++ rest }) target → Steps p.tables e below (T.setTop g) target) ∨
    (∃ (q : Addr) (vm₁ : Vm) (B : Pt), s.WarmedH vm₁ ∧ Stand p l e R s m args below meth c B.U B.locs B.cells B.slots ∧ PostX ⟨T.setVm vm₁, locs, cells, slots⟩ argsL.toArray q B ∧
      Steps p.tables e below (T.setTop g) ((B.U.setTop { g with stack := rest }).pushFrame (.throwing q))) := by
  obtain ⟨mk, methM, cM, hnamed, hmethM, -, -, -, -, -, -, hsigM⟩ := Cond.codeWith_spec hcode
  have hstatic : methM.isStatic = true := Cond.static_spec hnamed hmethM hstat
  obtain ⟨kP, hkP, -⟩ := className_of_methodNamed hnamed
  have hinitP : kP.init = .initialized := Cond.initialized_spec (findClass_of_methodNamed hnamed) hkP hinit
  obtain ⟨vm₁, X₁, hstep₁⟩ := X.invokestatic hexec hown hlink hnamed hmethM hstatic hkP hinitP hy (g := g) hg (argsL := argsL) (rest := rest) (hlen _ hsigM) hstack hdg
  rcases hK m meth c ⟨T.setVm vm₁, locs, cells, slots⟩ { g with stack := rest } (.invokestatic index) mk argsL.toArray X₁ hg hsize hdg hW (X₁.named hnamed) (hpre vm₁ X₁.warmed) with ⟨v, B, X', hpost, hsteps⟩ | ⟨q, B, X', hpost, hsteps⟩
  · exact Or.inl ⟨v, vm₁, B, X₁.warmed, X', hpost, fun target h => hstep₁ _ fun acts => by rw [doInvoke_state]; exact hsteps.trans h⟩
  · exact Or.inr ⟨q, vm₁, B, X₁.warmed, X', hpost, hstep₁ _ fun acts => by rw [doInvoke_state]; exact hsteps⟩
theorem vx_callVW (X : Stand p l e R s m args below meth c T locs cells slots) (hexec : p.tables.exec = Jvm.exec) {own C : String} {index : Nat} {y : MethodName} {bytes : ByteArray} {maxL : Nat} {ret : Option FieldType} {hh : List (Nat × Nat × Nat × Nat)}
    (hown : s.vm.findClass own = some m.cls) (hlink : (Cond.methodLink own index y).before args s = true) (hinst : (Cond.instanceMethod y).before args s = true) (hsel : (Cond.selects C y y).before args s = true)
    (hcode : (Cond.codeWith y bytes maxL ret hh).before args s = true) (hy : y.cls ≠ "java/lang/invoke/MethodHandle" ∧ y.cls ≠ "java/lang/invoke/VarHandle")
    {W9 : Nat} {Pre : Pt → Array Value → Prop} {Post : Pt → Array Value → Option Value → Pt → Prop} (hK : Back l R p e below s args y 3 W9 Pre Post)
    {b : Addr} {cellB : Cell} (hcell : T.heap[b]? = some cellB) (hobj : cellB.vm.isStatics = false) (hcls : s.vm.findClass C = some cellB.cls)
    {g : JFrame} (hg : g.method = m) (hsize : g.locals.size = c.maxLocals) {argsL rest : List Value} (hlen : ∀ sig, parseMethodDescriptor y.desc = some sig → argsL.length = sig.parameters.length)
    (hstack : g.stack = argsL.reverse ++ .ref b :: rest) (hW : 2 * g.monitorRoom + (rest.map fun v => v.category).sum ≤ W9) (hdg : decode c.code g.pc = .ok (.invokevirtual index, 3))
    (hpre : ∀ vm₁, s.WarmedH vm₁ → Pre ⟨T.setVm vm₁, locs, cells, slots⟩ (Value.ref b :: argsL).toArray) :
    ∃ (v : Option Value) (vm₁ : Vm) (B : Pt), s.WarmedH vm₁ ∧ Stand p l e R s m args below meth c B.U B.locs B.cells B.slots ∧ Post ⟨T.setVm vm₁, locs, cells, slots⟩ (Value.ref b :: argsL).toArray v B ∧
      ∀ target, Steps p.tables e below (B.U.setTop { g with pc := g.pc + 3, stack := v.toList ++ rest }) target → Steps p.tables e below (T.setTop g) target := by
  obtain ⟨mk, methM, hnamed, hmethM, hstM, habM⟩ := Cond.instanceMethod_spec hinst
  obtain ⟨m8, methM', cM, hn8, hmethM', -, -, -, -, -, -, hsigM⟩ := Cond.codeWith_spec hcode
  cases Option.some.inj (hn8.symm.trans hnamed)
  cases hmethM.symm.trans hmethM'
  obtain ⟨c2, r2, m2, q1, q2, q3, q4, kP, hkP, hkPi⟩ := Cond.selects_spec hsel
  cases hcls.symm.trans q1
  cases (State.methodFound?_of_named hnamed hy).symm.trans q2
  cases hnamed.symm.trans q3
  have hselP : selectMethod e.platform s.vm cellB.cls mk = .method mk := by rw [Launch.admits_selectMethod X.admits]; exact q4
  obtain ⟨vm₁, X₁, hstep₁⟩ := X.invokevirtual hexec hown hlink hnamed hmethM hstM hkP hkPi hy (a := b) (cell := cellB) hcell
    (fun z h => by rw [h] at hobj; cases hobj) hselP hmethM habM hkP hkPi (g := g) hg (argsL := argsL) (rest := rest) (hlen _ hsigM) hstack hdg
  obtain ⟨v, B, X', hpost, hsteps⟩ := hK m meth c ⟨T.setVm vm₁, locs, cells, slots⟩ { g with stack := rest } (.invokevirtual index) mk (Value.ref b :: argsL).toArray X₁ hg hsize hdg hW (X₁.named hnamed) (hpre vm₁ X₁.warmed)
  exact ⟨v, vm₁, B, X₁.warmed, X', hpost, fun target h => hstep₁ _ fun acts => by rw [doInvoke_state]; exact hsteps.trans h⟩
abbrev vx_CVW (R : Room) (s : State) (args : Array Value) (own C : String) (index : Nat) (y : MethodName) (bytes : ByteArray) (maxL : Nat) (ret : Option FieldType) (hh : List (Nat × Nat × Nat × Nat)) (ws : List Cond) (rm : Room) (mc ms n : Nat) : Prop :=
  (rm.cells = mc ∧ rm.slots = ms ∧ rm.frames + 1 ≤ R.frames ∧ 8 + (maxL + 11) + rm.locals ≤ R.locals ∧ (∀ w ∈ ws, ∀ (a' : Array Value) (U : State), s.WarmedH U.vm → w.before a' U = true) ∧ Cond.codeWith y bytes maxL ret hh ∈ ws) ∧
  (Cond.codeWith y bytes maxL ret hh).before args s = true ∧ (Cond.initialized y.cls).before args s = true ∧ (y.cls ≠ "java/lang/invoke/MethodHandle" ∧ y.cls ≠ "java/lang/invoke/VarHandle") ∧
  (∀ sig, parseMethodDescriptor y.desc = some sig → n = sig.parameters.length) ∧ (Cond.methodLink own index y).before args s = true ∧ (Cond.instanceMethod y).before args s = true ∧ (Cond.selects C y y).before args s = true
theorem vx_cwVW {own C : String} {index maxL mc ms : Nat} {y : MethodName} {bytes : ByteArray} {ret : Option FieldType} {hh : List (Nat × Nat × Nat × Nat)} {Ts ws ws' : List Cond} {rm : Room} (n : Nat) (ht : ∀ w ∈ Ts, w.before args s = true) (hT : GoodIn Ts (wsV own index C y ws)) (hw : ws = Cond.codeWith y bytes maxL ret hh :: ws') (hrc : rm.cells = mc) (hrs : rm.slots = ms)
    (hd : y.cls = C ∧ y.cls ≠ "java/lang/invoke/MethodHandle" ∧ y.cls ≠ "java/lang/invoke/VarHandle" ∧ (parseMethodDescriptor y.desc).map (fun d => d.parameters.length) = some n) (hR : rm.frames + 1 ≤ R.frames ∧ 8 + (maxL + 11) + rm.locals ≤ R.locals) :
    vx_CVW R s args own C index y bytes maxL ret hh ws rm mc ms n := by
  obtain ⟨hC, hd⟩ := hd
  subst hC
  have ok : ∀ w ∈ wsV own index y.cls y ws, w.before args s = true := fun w h => ht w (hT w h).1
  have hG : GoodIn Ts ws := fun w h => hT w (by unfold wsV; exact List.mem_append_right _ h)
  have hc : Cond.codeWith y bytes maxL ret hh ∈ ws := by rw [hw]; exact List.mem_cons_self
  refine ⟨⟨hrc, hrs, hR.1, hR.2, pay_in ht hG, hc⟩, ht _ (hG _ hc).1, ok _ (by simp [wsV]), ⟨hd.1, hd.2.1⟩, fun sig h => ?_, ok _ (by simp [wsV]), ok _ (by simp [wsV]), ok _ (by simp [wsV])⟩
  have h2 := hd.2.2
  rw [h] at h2
  exact (Option.some.inj h2).symm
theorem vx_runVW {y : MethodName} {bytes cc : ByteArray} {maxL nL mc ms n index : Nat} {ret : Option FieldType} {hh : List (Nat × Nat × Nat × Nat)} {ws : List Cond} {rm : Room} {Pc : Array Value → State → Prop} {Qc : Array Value → State → Outcome → State → Prop} {free : Addr → Prop} {Ts : List Cond} {own C : String} {b : Addr} {As rest : List Value} {g : JFrame}
    (S : CallFix p m c cc nL s args Ts own) (hM : Met l y ws rm Pc Qc mc ms free) (cw : vx_CVW R s args own C index y bytes maxL ret hh ws rm mc ms n) (hp : PreV s H C b Pc As)
    (hg : g.method = m) (hn : As.length = n) (hsize : g.locals.size = nL) (hstack : g.stack = As.reverse ++ .ref b :: rest) (hW : 2 * g.monitorRoom + (rest.map fun v => v.category).sum ≤ 8) (hdg : decode cc g.pc = .ok (.invokevirtual index, 3)) (hf : cells + mc ≤ R.cells ∧ slots + ms ≤ R.slots) :
    va_Run p l e R s m args below meth c H locs cells slots mc ms g rest (Qc (Value.ref b :: As).toArray) free := by
  obtain ⟨⟨hrc, hrs, hfr, hlo, hws, hcw⟩, hcode, hini, hy, hlen, hl, hin, hse⟩ := cw
  have hK : Back l R p e below s args y 3 8 (PreOf R mc ms Pc) (PostOf Qc mc ms free) := va_backW (hh := hh) (bytes := bytes) (maxL := maxL) (ret := ret) hM hp.1 hrc hrs hfr hlo hws hcw (fun a' U hW => word_at hW (Or.inl (by first | rfl | simp [Cond.onTables, Cond.keeps, Cond.steady])) hini)
  obtain ⟨hx, hb, hml, ho, -⟩ := S
  obtain ⟨-, ⟨cellB, hcB, hoB, hclB⟩, hPc⟩ := hp
  intro T hT X
  obtain ⟨v, vm₁, ⟨U', l2, c2, s2⟩, hW₁, X', ⟨g', mk, t, L, e1, e2, hq, h1, hL, h2, h3⟩, st⟩ := vx_callVW X hx (C := C) (hh := hh) (bytes := bytes) (maxL := maxL) (ret := ret) ho hl hin hse hcode hy hK (by rw [hT]; exact hcB) hoB hclB hg (hsize.trans hml.symm) (argsL := As) (rest := rest) (fun sig h => hn.trans (hlen sig h)) hstack hW (by rw [hb]; exact hdg)
    (fun vm₁ hW₁ => ⟨hf.1, hf.2, hPc (T.setVm vm₁) hT hW₁⟩)
  dsimp only [Pt.U, Pt.locs, Pt.cells, Pt.slots] at X' e1 e2 h1 h2 h3 st
  subst h1; subst h2; subst h3
  exact ⟨v, (T.setVm vm₁).calling g' mk (Value.ref b :: As).toArray, t, U', L, hT, X', hL, e1, e2, hq, st⟩
section
variable {y : MethodName} {bytes cc : ByteArray} {maxL nL mc ms n index : Nat} {ret : Option FieldType} {ws : List Cond} {rm : Room} {Pc : Array Value → State → Prop} {Qc : Array Value → State → Outcome → State → Prop} {XC : String → State → State → Prop} {free : Addr → Prop} {Ts : List Cond} {own C : String} {b : Addr} {As rest : List Value} {g : JFrame}
theorem vx_runVX {hh : List (Nat × Nat × Nat × Nat)} (S : CallFix p m c cc nL s args Ts own) (hM : vx_Met l y ws rm Pc Qc XC mc ms free) (cw : vx_CVW R s args own C index y bytes maxL ret hh ws rm mc ms n) (hp : PreV s H C b Pc As)
    (hg : g.method = m) (hn : As.length = n) (hsize : g.locals.size = nL) (hstack : g.stack = As.reverse ++ .ref b :: rest) (hW : 2 * g.monitorRoom + (rest.map fun v => v.category).sum ≤ 8) (hdg : decode cc g.pc = .ok (.invokevirtual index, 3)) (hf : cells + mc ≤ R.cells ∧ slots + ms ≤ R.slots) :
    vx_Run p l e R s m args below meth c H locs cells slots mc ms g rest (Qc (Value.ref b :: As).toArray) XC free := by
  obtain ⟨⟨hrc, hrs, hfr, hlo, hws, hcw⟩, hcode, hini, hy, hlen, hl, hin, hse⟩ := cw
  have hK : vx_Back l R p e below s args y 3 8 (PreOf R mc ms Pc) (PostOf Qc mc ms free) (vx_Post XC mc ms free) := vx_backW (hh := hh) (bytes := bytes) (maxL := maxL) (ret := ret) hM hp.1 hrc hrs hfr hlo hws hcw (fun a' U hW => word_at hW (Or.inl (by first | rfl | simp [Cond.onTables, Cond.keeps, Cond.steady])) hini)
  obtain ⟨hx, hb, hml, ho, -⟩ := S
  obtain ⟨-, ⟨cellB, hcB, hoB, hclB⟩, hPc⟩ := hp
  intro T hT X
  rcases vx_callVX X hx (C := C) (hh := hh) (bytes := bytes) (maxL := maxL) (ret := ret) ho hl hin hse hcode hy hK (by rw [hT]; exact hcB) hoB hclB hg (hsize.trans hml.symm) (argsL := As) (rest := rest) (fun sig h => hn.trans (hlen sig h)) hstack hW (by rw [hb]; exact hdg)
    (fun vm₁ hW₁ => ⟨hf.1, hf.2, hPc (T.setVm vm₁) hT hW₁⟩) with ⟨v, vm₁, ⟨U', l2, c2, s2⟩, hW₁, X', ⟨g', mk, t, L, e1, e2, hq, h1, hL, h2, h3⟩, st⟩ | ⟨q, vm₁, ⟨U', l2, c2, s2⟩, hW₁, X', ⟨g', mk, t, L, E, ce, e1, e2, hq, hce, hcv, hcl, h1, hL, h2, h3⟩, st⟩
  · dsimp only [Pt.U, Pt.locs, Pt.cells, Pt.slots] at X' e1 e2 h1 h2 h3 st
    subst h1; subst h2; subst h3
    exact Or.inl ⟨v, (T.setVm vm₁).calling g' mk (Value.ref b :: As).toArray, t, U', L, hT, X', hL, e1, e2, hq, st⟩
  · dsimp only [Pt.U, Pt.locs, Pt.cells, Pt.slots] at X' e1 e2 h1 h2 h3 st hcl
    subst h1; subst h2; subst h3
    exact Or.inr ⟨q, (T.setVm vm₁).calling g' mk (Value.ref b :: As).toArray, t, U', L, E, ce, hT, X', hL, e1, e2, hq, hce, hcv, vx_cls hW₁ hcl, st⟩
theorem vx_runSX {hh : List (Nat × Nat × Nat × Nat)} (S : CallFix p m c cc nL s args Ts own) (hM : vx_Met l y ws rm Pc Qc XC mc ms free) (cw : vx_CSW R s args own index y bytes maxL ret hh ws rm mc ms n) (hp : PreS s H Pc As)
    (hg : g.method = m) (hn : As.length = n) (hsize : g.locals.size = nL) (hstack : g.stack = As.reverse ++ rest) (hW : 2 * g.monitorRoom + (rest.map fun v => v.category).sum ≤ 8) (hdg : decode cc g.pc = .ok (.invokestatic index, 3)) (hf : cells + mc ≤ R.cells ∧ slots + ms ≤ R.slots) :
    vx_Run p l e R s m args below meth c H locs cells slots mc ms g rest (Qc As.toArray) XC free := by
  obtain ⟨⟨hrc, hrs, hfr, hlo, hws, hcw⟩, hcode, hini, hy, hlen, hl, hstt⟩ := cw
  have hK : vx_Back l R p e below s args y 3 8 (PreOf R mc ms Pc) (PostOf Qc mc ms free) (vx_Post XC mc ms free) := vx_backW (hh := hh) (bytes := bytes) (maxL := maxL) (ret := ret) hM hp.1 hrc hrs hfr hlo hws hcw (fun a' U hW => word_at hW (Or.inl (by first | rfl | simp [Cond.onTables, Cond.keeps, Cond.steady])) hini)
  obtain ⟨hx, hb, hml, ho, -⟩ := S
  intro T hT X
  rcases vx_callSX X hx (hh := hh) (bytes := bytes) (maxL := maxL) (ret := ret) ho hl hstt hini hcode hy hK hg (hsize.trans hml.symm) (argsL := As) (rest := rest) (fun sig h => hn.trans (hlen sig h)) hstack hW (by rw [hb]; exact hdg)
    (fun vm₁ hW₁ => ⟨hf.1, hf.2, hp.2 (T.setVm vm₁) hT hW₁⟩) with ⟨v, vm₁, ⟨U', l2, c2, s2⟩, hW₁, X', ⟨g', mk, t, L, e1, e2, hq, h1, hL, h2, h3⟩, st⟩ | ⟨q, vm₁, ⟨U', l2, c2, s2⟩, hW₁, X', ⟨g', mk, t, L, E, ce, e1, e2, hq, hce, hcv, hcl, h1, hL, h2, h3⟩, st⟩
  · dsimp only [Pt.U, Pt.locs, Pt.cells, Pt.slots] at X' e1 e2 h1 h2 h3 st
    subst h1; subst h2; subst h3
    exact Or.inl ⟨v, (T.setVm vm₁).calling g' mk As.toArray, t, U', L, hT, X', hL, e1, e2, hq, st⟩
  · dsimp only [Pt.U, Pt.locs, Pt.cells, Pt.slots] at X' e1 e2 h1 h2 h3 st hcl
    subst h1; subst h2; subst h3
    exact Or.inr ⟨q, (T.setVm vm₁).calling g' mk As.toArray, t, U', L, E, ce, hT, X', hL, e1, e2, hq, hce, hcv, vx_cls hW₁ hcl, st⟩
end
end VXH
theorem vx_ofWH {l : Launch} {y : MethodName} {ws ws' : List Cond} {rm : Room} {Pc : Array Value → State → Prop} {Qc : Array Value → State → Outcome → State → Prop} {XC : String → State → State → Prop} {mc ms : Nat} {free : Addr → Prop} {cc : ByteArray} {maxL : Nat} {ret : Option FieldType} {hh : List (Nat × Nat × Nat × Nat)}
    (hy : plainName y.cls = true) (hw : ws = Cond.codeWith y cc maxL ret hh :: ws')
    (body : ∀ p e s m args below meth c s₁, BodyLoose p l y (headSpec ws rm) cc maxL ret e s m args below meth c s₁ → c.maxLocals = maxL → Pc args s →
      W p l e (headSpec ws rm).room s m args below meth c s.heap [] 0 0 (vx_MQ below Qc XC args s mc ms free) (entryFrame m args maxL)) : vx_Met l y ws rm Pc Qc XC mc ms free := by
  refine MetFree.of_bodyS (code := cc) (maxLocals := maxL) (ret := ret) hy ?_ ?_
  · intro args s m h hn
    obtain ⟨m9, meth, c, hn9, h1, h2, h3, h4, -, h5, h6, -⟩ := Cond.codeWith_spec (atoms_spec (ws := ws) h _ (by rw [hw]; exact List.mem_cons_self))
    cases hn.symm.trans hn9
    exact ⟨meth, c, h1, h2, h3, h4, h5, h6⟩
  · intro p e s m args below meth c s₁ B hml hP _
    have hh0 : s₁.heap = s.heap := by rw [B.state]; rfl
    obtain ⟨t, a1, o, b1, b2, b3⟩ := body p e s m args below meth c s₁ B hml hP s₁ hh0 (Stand.of_body B)
    exact ⟨t, o, a1, b1, b2, b3⟩
/-! ===== END ===== -/

def RX0 : String := "TripleTrains$Board"
def TX0 : u_T := fun k => match k with
  | 0 => ("TripleTrains$Board", "points", "I", false)
  | 1 => ("TripleTrains$Board", "size", "I", false)
  | 2 => ("TripleTrains$Board", "thirds", "[I", true)
  | 3 => ("TripleTrains$Board", "numbers", "[I", true)
  | 4 => ("TripleTrains$Board", "open", "[I", true)
  | _ => ("TripleTrains$Board", "sets", "[I", true)
def tyX0 : Nat → FieldType := fun k => match k with
  | 0 => .int
  | 1 => .int
  | 2 => .array .int
  | 3 => .array .int
  | 4 => .array .int
  | _ => .array .int
abbrev wsX00 : List Cond := u_ws RX0 TX0 6
theorem nmX0 : ∀ a, a < 6 → ∀ b, b < 6 → a ≠ b → (TX0 a).2.1 ≠ (TX0 b).2.1 := by decide +kernel
theorem tyX0_ok : ∀ k, k < 6 → parseFieldDescriptor (TX0 k).2.2.1 = some (tyX0 k) := by decide +kernel
abbrev cX0_init : ByteArray := prog_2_method_1_code
def yX0_init : MethodName := ⟨RX0, "<init>", "()V"⟩
abbrev cX0_reset : ByteArray := prog_2_method_2_code
def yX0_reset : MethodName := ⟨RX0, "reset", "(I)V"⟩
abbrev cX0_copy : ByteArray := prog_2_method_3_code
def yX0_copy : MethodName := ⟨RX0, "copy", "(LTripleTrains$Board;)V"⟩
abbrev cX0_isPoint : ByteArray := prog_2_method_4_code
def yX0_isPoint : MethodName := ⟨RX0, "isPoint", "(I)Z"⟩
abbrev cX0_allPoints : ByteArray := prog_2_method_5_code
def yX0_allPoints : MethodName := ⟨RX0, "allPoints", "()I"⟩
abbrev cX0_turnWithin : ByteArray := prog_2_method_6_code
def yX0_turnWithin : MethodName := ⟨RX0, "turnWithin", "(I)I"⟩
abbrev cX0_pairs : ByteArray := prog_2_method_7_code
def yX0_pairs : MethodName := ⟨RX0, "pairs", "()I"⟩
abbrev cX0_thirdOf : ByteArray := prog_2_method_8_code
def yX0_thirdOf : MethodName := ⟨RX0, "thirdOf", "(II)I"⟩
abbrev cX0_openOf : ByteArray := prog_2_method_9_code
def yX0_openOf : MethodName := ⟨RX0, "openOf", "(I)I"⟩
abbrev cX0_setOf : ByteArray := prog_2_method_10_code
def yX0_setOf : MethodName := ⟨RX0, "setOf", "(I)I"⟩
abbrev cX0_numberCovering : ByteArray := prog_2_method_11_code
def yX0_numberCovering : MethodName := ⟨RX0, "numberCovering", "(II)I"⟩
abbrev cX0_numberOf : ByteArray := prog_2_method_12_code
def yX0_numberOf : MethodName := ⟨RX0, "numberOf", "(I)I"⟩
abbrev cX0_holds : ByteArray := prog_2_method_13_code
def yX0_holds : MethodName := ⟨RX0, "holds", "(I)Z"⟩
abbrev cX0_takes : ByteArray := prog_2_method_14_code
def yX0_takes : MethodName := ⟨RX0, "takes", "(I)Z"⟩
abbrev cX0_put : ByteArray := prog_2_method_15_code
def yX0_put : MethodName := ⟨RX0, "put", "(I)V"⟩
abbrev cX0_drop : ByteArray := prog_2_method_16_code
def yX0_drop : MethodName := ⟨RX0, "drop", "(I)V"⟩
abbrev cX0_join : ByteArray := prog_2_method_17_code
def yX0_join : MethodName := ⟨RX0, "join", "(III)V"⟩
abbrev cX0_part : ByteArray := prog_2_method_18_code
def yX0_part : MethodName := ⟨RX0, "part", "(II)V"⟩
abbrev cX0_list : ByteArray := prog_2_method_19_code
def yX0_list : MethodName := ⟨RX0, "list", "()V"⟩
abbrev cX0_number : ByteArray := prog_2_method_20_code
def yX0_number : MethodName := ⟨RX0, "number", "(III)V"⟩
abbrev cX0_numberPair : ByteArray := prog_2_method_21_code
def yX0_numberPair : MethodName := ⟨RX0, "numberPair", "(II)V"⟩
abbrev cX0_putAllTurns : ByteArray := prog_2_method_22_code
def yX0_putAllTurns : MethodName := ⟨RX0, "putAllTurns", "(I)I"⟩
abbrev cX0_putAllThatFit : ByteArray := prog_2_method_23_code
def yX0_putAllThatFit : MethodName := ⟨RX0, "putAllThatFit", "()I"⟩
abbrev cX0_openPairs : ByteArray := prog_2_method_24_code
def yX0_openPairs : MethodName := ⟨RX0, "openPairs", "()I"⟩
abbrev cX0_openPair : ByteArray := prog_2_method_25_code
def yX0_openPair : MethodName := ⟨RX0, "openPair", "(I)I"⟩
abbrev cX0_tightestPair : ByteArray := prog_2_method_26_code
def yX0_tightestPair : MethodName := ⟨RX0, "tightestPair", "()I"⟩
abbrev cX0_meeting : ByteArray := prog_2_method_27_code
def yX0_meeting : MethodName := ⟨RX0, "meeting", "(II)I"⟩
abbrev cX0_dropMeeting : ByteArray := prog_2_method_28_code
def yX0_dropMeeting : MethodName := ⟨RX0, "dropMeeting", "(II)I"⟩
abbrev cX0_trainFrom : ByteArray := prog_2_method_29_code
def yX0_trainFrom : MethodName := ⟨RX0, "trainFrom", "(I)I"⟩
abbrev cX0_turnKeeps : ByteArray := prog_2_method_30_code
def yX0_turnKeeps : MethodName := ⟨RX0, "turnKeeps", "(I)Z"⟩
abbrev cX0_leastKeptTurn : ByteArray := prog_2_method_31_code
def yX0_leastKeptTurn : MethodName := ⟨RX0, "leastKeptTurn", "()I"⟩
abbrev cX0_orbitOf : ByteArray := prog_2_method_32_code
def yX0_orbitOf : MethodName := ⟨RX0, "orbitOf", "(II)J"⟩
abbrev cX0_isClosed : ByteArray := prog_2_method_33_code
def yX0_isClosed : MethodName := ⟨RX0, "isClosed", "(I)Z"⟩
abbrev cX0_closed : ByteArray := prog_2_method_34_code
def yX0_closed : MethodName := ⟨RX0, "closed", "(I)I"⟩
abbrev cX0_hasTripleWithin : ByteArray := prog_2_method_35_code
def yX0_hasTripleWithin : MethodName := ⟨RX0, "hasTripleWithin", "(I)Z"⟩
def RX1 : String := "TripleTrains$Cycles"
def TX1 : u_T := fun k => match k with
  | 0 => ("TripleTrains$Cycles", "size", "I", false)
  | 1 => ("TripleTrains$Cycles", "first", "I", false)
  | 2 => ("TripleTrains$Cycles", "second", "I", false)
  | 3 => ("TripleTrains$Cycles", "begins", "[I", true)
  | 4 => ("TripleTrains$Cycles", "row", "[I", true)
  | _ => ("TripleTrains$Cycles", "steps", "[J", true)
def tyX1 : Nat → FieldType := fun k => match k with
  | 0 => .int
  | 1 => .int
  | 2 => .int
  | 3 => .array .int
  | 4 => .array .int
  | _ => .array .long
abbrev wsX10 : List Cond := u_ws RX1 TX1 6
theorem nmX1 : ∀ a, a < 6 → ∀ b, b < 6 → a ≠ b → (TX1 a).2.1 ≠ (TX1 b).2.1 := by decide +kernel
theorem tyX1_ok : ∀ k, k < 6 → parseFieldDescriptor (TX1 k).2.2.1 = some (tyX1 k) := by decide +kernel
abbrev cX1_init : ByteArray := prog_3_method_1_code
def yX1_init : MethodName := ⟨RX1, "<init>", "()V"⟩
abbrev cX1_gather : ByteArray := prog_3_method_2_code
def yX1_gather : MethodName := ⟨RX1, "gather", "(LTripleTrains$Board;II)V"⟩
abbrev cX1_walk : ByteArray := prog_3_method_3_code
def yX1_walk : MethodName := ⟨RX1, "walk", "(LTripleTrains$Board;I)I"⟩
abbrev cX1_keep : ByteArray := prog_3_method_4_code
def yX1_keep : MethodName := ⟨RX1, "keep", "(I)I"⟩
abbrev cX1_beginOf : ByteArray := prog_3_method_5_code
def yX1_beginOf : MethodName := ⟨RX1, "beginOf", "(I)I"⟩
abbrev cX1_lengthOf : ByteArray := prog_3_method_6_code
def yX1_lengthOf : MethodName := ⟨RX1, "lengthOf", "(I)I"⟩
abbrev cX1_pointAt : ByteArray := prog_3_method_7_code
def yX1_pointAt : MethodName := ⟨RX1, "pointAt", "(II)I"⟩
abbrev cX1_countOfLength : ByteArray := prog_3_method_8_code
def yX1_countOfLength : MethodName := ⟨RX1, "countOfLength", "(I)I"⟩
abbrev cX1_tradeOf : ByteArray := prog_3_method_9_code
def yX1_tradeOf : MethodName := ⟨RX1, "tradeOf", "(I)J"⟩
abbrev cX1_planSwitch : ByteArray := prog_3_method_10_code
def yX1_planSwitch : MethodName := ⟨RX1, "planSwitch", "(ILTripleTrains$Exchange;)V"⟩
def RX2 : String := "TripleTrains$Exchange"
def TX2 : u_T := fun k => match k with
  | 0 => ("TripleTrains$Exchange", "size", "I", false)
  | 1 => ("TripleTrains$Exchange", "goneNumbers", "J", false)
  | 2 => ("TripleTrains$Exchange", "gone", "[I", true)
  | _ => ("TripleTrains$Exchange", "come", "[I", true)
def tyX2 : Nat → FieldType := fun k => match k with
  | 0 => .int
  | 1 => .long
  | 2 => .array .int
  | _ => .array .int
abbrev wsX20 : List Cond := u_ws RX2 TX2 4
theorem nmX2 : ∀ a, a < 4 → ∀ b, b < 4 → a ≠ b → (TX2 a).2.1 ≠ (TX2 b).2.1 := by decide +kernel
theorem tyX2_ok : ∀ k, k < 4 → parseFieldDescriptor (TX2 k).2.2.1 = some (tyX2 k) := by decide +kernel
abbrev cX2_init : ByteArray := prog_4_method_1_code
def yX2_init : MethodName := ⟨RX2, "<init>", "()V"⟩
abbrev cX2_begin : ByteArray := prog_4_method_2_code
def yX2_begin : MethodName := ⟨RX2, "begin", "(J)V"⟩
abbrev cX2_plan : ByteArray := prog_4_method_3_code
def yX2_plan : MethodName := ⟨RX2, "plan", "(II)V"⟩
abbrev cX2_applyTo : ByteArray := prog_4_method_4_code
def yX2_applyTo : MethodName := ⟨RX2, "applyTo", "(LTripleTrains$Board;)I"⟩
def RX3 : String := "TripleTrains$History"
def TX3 : u_T := fun k => match k with
  | 0 => ("TripleTrains$History", "depth", "I", false)
  | 1 => ("TripleTrains$History", "past", "[LTripleTrains$Snapshot;", true)
  | 2 => ("TripleTrains$History", "saved", "LTripleTrains$Snapshot;", true)
  | _ => ("TripleTrains$History", "isSaved", "Z", false)
def tyX3 : Nat → FieldType := fun k => match k with
  | 0 => .int
  | 1 => .array (.object "TripleTrains$Snapshot")
  | 2 => .object "TripleTrains$Snapshot"
  | _ => .boolean
abbrev wsX30 : List Cond := u_ws RX3 TX3 4
theorem nmX3 : ∀ a, a < 4 → ∀ b, b < 4 → a ≠ b → (TX3 a).2.1 ≠ (TX3 b).2.1 := by decide +kernel
theorem tyX3_ok : ∀ k, k < 4 → parseFieldDescriptor (TX3 k).2.2.1 = some (tyX3 k) := by decide +kernel
abbrev cX3_init : ByteArray := prog_5_method_1_code
def yX3_init : MethodName := ⟨RX3, "<init>", "()V"⟩
abbrev cX3_push : ByteArray := prog_5_method_2_code
def yX3_push : MethodName := ⟨RX3, "push", "(LTripleTrains$Board;LTripleTrains$Tally;)V"⟩
abbrev cX3_forgetOldest : ByteArray := prog_5_method_3_code
def yX3_forgetOldest : MethodName := ⟨RX3, "forgetOldest", "()V"⟩
abbrev cX3_takeBack : ByteArray := prog_5_method_4_code
def yX3_takeBack : MethodName := ⟨RX3, "takeBack", "(LTripleTrains$Board;LTripleTrains$Tally;)Z"⟩
abbrev cX3_save : ByteArray := prog_5_method_5_code
def yX3_save : MethodName := ⟨RX3, "save", "(LTripleTrains$Board;LTripleTrains$Tally;)V"⟩
abbrev cX3_restore : ByteArray := prog_5_method_6_code
def yX3_restore : MethodName := ⟨RX3, "restore", "(LTripleTrains$Board;LTripleTrains$Tally;)Z"⟩
abbrev cX3_forgetAll : ByteArray := prog_5_method_7_code
def yX3_forgetAll : MethodName := ⟨RX3, "forgetAll", "()V"⟩
def RX4 : String := "TripleTrains$Quads"
def TX4 : u_T := fun k => match k with
  | 0 => ("TripleTrains$Quads", "size", "I", false)
  | 1 => ("TripleTrains$Quads", "masks", "[J", true)
  | _ => ("TripleTrains$Quads", "unions", "[I", true)
def tyX4 : Nat → FieldType := fun k => match k with
  | 0 => .int
  | 1 => .array .long
  | _ => .array .int
abbrev wsX40 : List Cond := u_ws RX4 TX4 3
theorem nmX4 : ∀ a, a < 3 → ∀ b, b < 3 → a ≠ b → (TX4 a).2.1 ≠ (TX4 b).2.1 := by decide +kernel
theorem tyX4_ok : ∀ k, k < 3 → parseFieldDescriptor (TX4 k).2.2.1 = some (tyX4 k) := by decide +kernel
abbrev cX4_init : ByteArray := prog_6_method_1_code
def yX4_init : MethodName := ⟨RX4, "<init>", "()V"⟩
abbrev cX4_gather : ByteArray := prog_6_method_2_code
def yX4_gather : MethodName := ⟨RX4, "gather", "(LTripleTrains$Board;)V"⟩
abbrev cX4_keep : ByteArray := prog_6_method_3_code
def yX4_keep : MethodName := ⟨RX4, "keep", "(IIIII)V"⟩
abbrev cX4_tripleOf : ByteArray := prog_6_method_4_code
def yX4_tripleOf : MethodName := ⟨RX4, "tripleOf", "(II)I"⟩
abbrev cX4_pointsOf : ByteArray := prog_6_method_5_code
def yX4_pointsOf : MethodName := ⟨RX4, "pointsOf", "(I)I"⟩
abbrev cX4_oppositeOf : ByteArray := prog_6_method_6_code
def yX4_oppositeOf : MethodName := ⟨RX4, "oppositeOf", "(LTripleTrains$Board;II)I"⟩
abbrev cX4_holdingPoint : ByteArray := prog_6_method_7_code
def yX4_holdingPoint : MethodName := ⟨RX4, "holdingPoint", "(I)I"⟩
abbrev cX4_holdingAny : ByteArray := prog_6_method_8_code
def yX4_holdingAny : MethodName := ⟨RX4, "holdingAny", "(J)I"⟩
abbrev cX4_maskOf : ByteArray := prog_6_method_9_code
def yX4_maskOf : MethodName := ⟨RX4, "maskOf", "(I)J"⟩
abbrev cX4_hasMask : ByteArray := prog_6_method_10_code
def yX4_hasMask : MethodName := ⟨RX4, "hasMask", "(J)Z"⟩
abbrev cX4_planSwitch : ByteArray := prog_6_method_11_code
def yX4_planSwitch : MethodName := ⟨RX4, "planSwitch", "(LTripleTrains$Board;ILTripleTrains$Exchange;)V"⟩
abbrev cX4_countWith : ByteArray := prog_6_method_12_code
def yX4_countWith : MethodName := ⟨RX4, "countWith", "(LTripleTrains$Board;I)I"⟩
def RX5 : String := "TripleTrains$Sets"
def TX5 : u_T := fun k => match k with
  | _ => ("", "", "", false)
def tyX5 : Nat → FieldType := fun k => match k with
  | _ => .int
abbrev wsX50 : List Cond := u_ws RX5 TX5 0
theorem nmX5 : ∀ a, a < 0 → ∀ b, b < 0 → a ≠ b → (TX5 a).2.1 ≠ (TX5 b).2.1 := by decide +kernel
theorem tyX5_ok : ∀ k, k < 0 → parseFieldDescriptor (TX5 k).2.2.1 = some (tyX5 k) := by decide +kernel
abbrev cX5_three : ByteArray := prog_7_method_2_code
def yX5_three : MethodName := ⟨RX5, "three", "(III)I"⟩
abbrev cX5_has : ByteArray := prog_7_method_3_code
def yX5_has : MethodName := ⟨RX5, "has", "(II)Z"⟩
abbrev cX5_member : ByteArray := prog_7_method_4_code
def yX5_member : MethodName := ⟨RX5, "member", "(II)I"⟩
abbrev cX5_turned : ByteArray := prog_7_method_5_code
def yX5_turned : MethodName := ⟨RX5, "turned", "(III)I"⟩
abbrev cX5_exchanged : ByteArray := prog_7_method_6_code
def yX5_exchanged : MethodName := ⟨RX5, "exchanged", "(III)I"⟩
abbrev cX5_digits : ByteArray := prog_7_method_7_code
def yX5_digits : MethodName := ⟨RX5, "digits", "(I)I"⟩
def RX6 : String := "TripleTrains$SetupText"
def TX6 : u_T := fun k => match k with
  | 0 => ("TripleTrains$SetupText", "length", "I", false)
  | 1 => ("TripleTrains$SetupText", "code", "I", false)
  | 2 => ("TripleTrains$SetupText", "offset", "I", false)
  | 3 => ("TripleTrains$SetupText", "bytes", "[B", true)
  | 4 => ("TripleTrains$SetupText", "at", "I", false)
  | 5 => ("TripleTrains$SetupText", "kind", "I", false)
  | 6 => ("TripleTrains$SetupText", "start", "I", false)
  | _ => ("TripleTrains$SetupText", "value", "I", false)
def tyX6 : Nat → FieldType := fun k => match k with
  | 0 => .int
  | 1 => .int
  | 2 => .int
  | 3 => .array .byte
  | 4 => .int
  | 5 => .int
  | 6 => .int
  | _ => .int
abbrev wsX60 : List Cond := u_ws RX6 TX6 8
theorem nmX6 : ∀ a, a < 8 → ∀ b, b < 8 → a ≠ b → (TX6 a).2.1 ≠ (TX6 b).2.1 := by decide +kernel
theorem tyX6_ok : ∀ k, k < 8 → parseFieldDescriptor (TX6 k).2.2.1 = some (tyX6 k) := by decide +kernel
abbrev cX6_init : ByteArray := prog_8_method_1_code
def yX6_init : MethodName := ⟨RX6, "<init>", "()V"⟩
abbrev cX6_hasRoom : ByteArray := prog_8_method_2_code
def yX6_hasRoom : MethodName := ⟨RX6, "hasRoom", "()Z"⟩
abbrev cX6_append : ByteArray := prog_8_method_3_code
def yX6_append : MethodName := ⟨RX6, "append", "(I)V"⟩
abbrev cX6_read : ByteArray := prog_8_method_4_code
def yX6_read : MethodName := ⟨RX6, "read", "(LTripleTrains$Board;)Z"⟩
abbrev cX6_readPoints : ByteArray := prog_8_method_5_code
def yX6_readPoints : MethodName := ⟨RX6, "readPoints", "(LTripleTrains$Board;)Z"⟩
abbrev cX6_readStatement : ByteArray := prog_8_method_6_code
def yX6_readStatement : MethodName := ⟨RX6, "readStatement", "(LTripleTrains$Board;)Z"⟩
abbrev cX6_fail : ByteArray := prog_8_method_7_code
def yX6_fail : MethodName := ⟨RX6, "fail", "(I)Z"⟩
abbrev cX6_advance : ByteArray := prog_8_method_8_code
def yX6_advance : MethodName := ⟨RX6, "advance", "()V"⟩
abbrev cX6_readWord : ByteArray := prog_8_method_9_code
def yX6_readWord : MethodName := ⟨RX6, "readWord", "()V"⟩
abbrev cX6_readNumber : ByteArray := prog_8_method_10_code
def yX6_readNumber : MethodName := ⟨RX6, "readNumber", "()V"⟩
abbrev cX6_isWord : ByteArray := prog_8_method_11_code
def yX6_isWord : MethodName := ⟨RX6, "isWord", "(Ljava/lang/String;)Z"⟩
abbrev cX6_byteAt : ByteArray := prog_8_method_12_code
def yX6_byteAt : MethodName := ⟨RX6, "byteAt", "(I)I"⟩
abbrev cX6_isLetter : ByteArray := prog_8_method_13_code
def yX6_isLetter : MethodName := ⟨RX6, "isLetter", "(I)Z"⟩
abbrev cX6_isDigit : ByteArray := prog_8_method_14_code
def yX6_isDigit : MethodName := ⟨RX6, "isDigit", "(I)Z"⟩
def RX7 : String := "TripleTrains$Snapshot"
def TX7 : u_T := fun k => match k with
  | 0 => ("TripleTrains$Snapshot", "points", "I", false)
  | 1 => ("TripleTrains$Snapshot", "size", "I", false)
  | 2 => ("TripleTrains$Snapshot", "sets", "[I", true)
  | _ => ("TripleTrains$Snapshot", "tally", "LTripleTrains$Tally;", true)
def tyX7 : Nat → FieldType := fun k => match k with
  | 0 => .int
  | 1 => .int
  | 2 => .array .int
  | _ => .object "TripleTrains$Tally"
abbrev wsX70 : List Cond := u_ws RX7 TX7 4
theorem nmX7 : ∀ a, a < 4 → ∀ b, b < 4 → a ≠ b → (TX7 a).2.1 ≠ (TX7 b).2.1 := by decide +kernel
theorem tyX7_ok : ∀ k, k < 4 → parseFieldDescriptor (TX7 k).2.2.1 = some (tyX7 k) := by decide +kernel
abbrev cX7_init : ByteArray := prog_9_method_1_code
def yX7_init : MethodName := ⟨RX7, "<init>", "()V"⟩
abbrev cX7_keep : ByteArray := prog_9_method_2_code
def yX7_keep : MethodName := ⟨RX7, "keep", "(LTripleTrains$Board;LTripleTrains$Tally;)V"⟩
abbrev cX7_giveBack : ByteArray := prog_9_method_3_code
def yX7_giveBack : MethodName := ⟨RX7, "giveBack", "(LTripleTrains$Board;LTripleTrains$Tally;)V"⟩
def RX8 : String := "TripleTrains$Tally"
def TX8 : u_T := fun k => match k with
  | 0 => ("TripleTrains$Tally", "quads", "I", false)
  | 1 => ("TripleTrains$Tally", "cycles", "I", false)
  | _ => ("TripleTrains$Tally", "replaced", "I", false)
def tyX8 : Nat → FieldType := fun k => match k with
  | 0 => .int
  | 1 => .int
  | _ => .int
abbrev wsX80 : List Cond := u_ws RX8 TX8 3
theorem nmX8 : ∀ a, a < 3 → ∀ b, b < 3 → a ≠ b → (TX8 a).2.1 ≠ (TX8 b).2.1 := by decide +kernel
theorem tyX8_ok : ∀ k, k < 3 → parseFieldDescriptor (TX8 k).2.2.1 = some (tyX8 k) := by decide +kernel
abbrev cX8_init : ByteArray := prog_10_method_1_code
def yX8_init : MethodName := ⟨RX8, "<init>", "()V"⟩
abbrev cX8_reset : ByteArray := prog_10_method_2_code
def yX8_reset : MethodName := ⟨RX8, "reset", "()V"⟩
abbrev cX8_copy : ByteArray := prog_10_method_3_code
def yX8_copy : MethodName := ⟨RX8, "copy", "(LTripleTrains$Tally;)V"⟩
def RX9 : String := "TripleTrains$Trades"
def TX9 : u_T := fun k => match k with
  | 0 => ("TripleTrains$Trades", "size", "I", false)
  | _ => ("TripleTrains$Trades", "masks", "[J", true)
def tyX9 : Nat → FieldType := fun k => match k with
  | 0 => .int
  | _ => .array .long
abbrev wsX90 : List Cond := u_ws RX9 TX9 2
theorem nmX9 : ∀ a, a < 2 → ∀ b, b < 2 → a ≠ b → (TX9 a).2.1 ≠ (TX9 b).2.1 := by decide +kernel
theorem tyX9_ok : ∀ k, k < 2 → parseFieldDescriptor (TX9 k).2.2.1 = some (tyX9 k) := by decide +kernel
abbrev cX9_init : ByteArray := prog_11_method_1_code
def yX9_init : MethodName := ⟨RX9, "<init>", "()V"⟩
abbrev cX9_gather : ByteArray := prog_11_method_2_code
def yX9_gather : MethodName := ⟨RX9, "gather", "(LTripleTrains$Board;LTripleTrains$Cycles;I)V"⟩
abbrev cX9_gatherAmong : ByteArray := prog_11_method_3_code
def yX9_gatherAmong : MethodName := ⟨RX9, "gatherAmong", "(LTripleTrains$Cycles;I)V"⟩
abbrev cX9_insert : ByteArray := prog_11_method_4_code
def yX9_insert : MethodName := ⟨RX9, "insert", "(J)V"⟩
abbrev cX9_maskAt : ByteArray := prog_11_method_5_code
def yX9_maskAt : MethodName := ⟨RX9, "maskAt", "(I)J"⟩
def RX10 : String := "TripleTrains$Trains"
def TX10 : u_T := fun k => match k with
  | 0 => ("TripleTrains$Trains", "size", "I", false)
  | 1 => ("TripleTrains$Trains", "nexts", "[I", true)
  | 2 => ("TripleTrains$Trains", "arrivals", "[I", true)
  | _ => ("TripleTrains$Trains", "marks", "[I", true)
def tyX10 : Nat → FieldType := fun k => match k with
  | 0 => .int
  | 1 => .array .int
  | 2 => .array .int
  | _ => .array .int
abbrev wsX100 : List Cond := u_ws RX10 TX10 4
theorem nmX10 : ∀ a, a < 4 → ∀ b, b < 4 → a ≠ b → (TX10 a).2.1 ≠ (TX10 b).2.1 := by decide +kernel
theorem tyX10_ok : ∀ k, k < 4 → parseFieldDescriptor (TX10 k).2.2.1 = some (tyX10 k) := by decide +kernel
abbrev cX10_init : ByteArray := prog_12_method_1_code
def yX10_init : MethodName := ⟨RX10, "<init>", "()V"⟩
abbrev cX10_gather : ByteArray := prog_12_method_2_code
def yX10_gather : MethodName := ⟨RX10, "gather", "(LTripleTrains$Board;)V"⟩
abbrev cX10_lead : ByteArray := prog_12_method_3_code
def yX10_lead : MethodName := ⟨RX10, "lead", "(I)V"⟩
abbrev cX10_rankOf : ByteArray := prog_12_method_4_code
def yX10_rankOf : MethodName := ⟨RX10, "rankOf", "(I)I"⟩
abbrev cX10_arrivalsAt : ByteArray := prog_12_method_5_code
def yX10_arrivalsAt : MethodName := ⟨RX10, "arrivalsAt", "(I)I"⟩
abbrev cX10_nextOf : ByteArray := prog_12_method_6_code
def yX10_nextOf : MethodName := ⟨RX10, "nextOf", "(I)I"⟩
abbrev cX10_markOf : ByteArray := prog_12_method_7_code
def yX10_markOf : MethodName := ⟨RX10, "markOf", "(I)I"⟩
abbrev cX10_mark : ByteArray := prog_12_method_8_code
def yX10_mark : MethodName := ⟨RX10, "mark", "(II)V"⟩
abbrev cX10_roundFrom : ByteArray := prog_12_method_9_code
def yX10_roundFrom : MethodName := ⟨RX10, "roundFrom", "(I)I"⟩
abbrev cX10_tailFrom : ByteArray := prog_12_method_10_code
def yX10_tailFrom : MethodName := ⟨RX10, "tailFrom", "(I)I"⟩
abbrev cX10_setsWithArrivals : ByteArray := prog_12_method_11_code
def yX10_setsWithArrivals : MethodName := ⟨RX10, "setsWithArrivals", "(I)I"⟩
abbrev cX10_countRounds : ByteArray := prog_12_method_12_code
def yX10_countRounds : MethodName := ⟨RX10, "countRounds", "()I"⟩
abbrev cX10_endsOnItself : ByteArray := prog_12_method_13_code
def yX10_endsOnItself : MethodName := ⟨RX10, "endsOnItself", "(II)Z"⟩
def RX11 : String := "TripleTrains"
def TX11 : u_T := fun k => match k with
  | 0 => ("TripleTrains", "text", "LTripleTrains$SetupText;", true)
  | 1 => ("TripleTrains", "board", "LTripleTrains$Board;", true)
  | 2 => ("TripleTrains", "spare", "LTripleTrains$Board;", true)
  | 3 => ("TripleTrains", "tally", "LTripleTrains$Tally;", true)
  | 4 => ("TripleTrains", "history", "LTripleTrains$History;", true)
  | 5 => ("TripleTrains", "quads", "LTripleTrains$Quads;", true)
  | 6 => ("TripleTrains", "around", "LTripleTrains$Cycles;", true)
  | 7 => ("TripleTrains", "traded", "LTripleTrains$Trades;", true)
  | 8 => ("TripleTrains", "trains", "LTripleTrains$Trains;", true)
  | 9 => ("TripleTrains", "exchange", "LTripleTrains$Exchange;", true)
  | 10 => ("TripleTrains", "output", "[B", true)
  | _ => ("TripleTrains", "outputLength", "I", false)
def tyX11 : Nat → FieldType := fun k => match k with
  | 0 => .object "TripleTrains$SetupText"
  | 1 => .object "TripleTrains$Board"
  | 2 => .object "TripleTrains$Board"
  | 3 => .object "TripleTrains$Tally"
  | 4 => .object "TripleTrains$History"
  | 5 => .object "TripleTrains$Quads"
  | 6 => .object "TripleTrains$Cycles"
  | 7 => .object "TripleTrains$Trades"
  | 8 => .object "TripleTrains$Trains"
  | 9 => .object "TripleTrains$Exchange"
  | 10 => .array .byte
  | _ => .int
abbrev wsX110 : List Cond := u_ws RX11 TX11 12
theorem nmX11 : ∀ a, a < 12 → ∀ b, b < 12 → a ≠ b → (TX11 a).2.1 ≠ (TX11 b).2.1 := by decide +kernel
theorem tyX11_ok : ∀ k, k < 12 → parseFieldDescriptor (TX11 k).2.2.1 = some (tyX11 k) := by decide +kernel
abbrev cX11_init : ByteArray := prog_1_method_1_code
def yX11_init : MethodName := ⟨RX11, "<init>", "()V"⟩
abbrev cX11_appendInput : ByteArray := prog_1_method_2_code
def yX11_appendInput : MethodName := ⟨RX11, "appendInput", "(IIIII)I"⟩
abbrev cX11_truncateInput : ByteArray := prog_1_method_3_code
def yX11_truncateInput : MethodName := ⟨RX11, "truncateInput", "(I)Z"⟩
abbrev cX11_loadSystem : ByteArray := prog_1_method_4_code
def yX11_loadSystem : MethodName := ⟨RX11, "loadSystem", "()I"⟩
abbrev cX11_errorCode : ByteArray := prog_1_method_5_code
def yX11_errorCode : MethodName := ⟨RX11, "errorCode", "()I"⟩
abbrev cX11_errorOffset : ByteArray := prog_1_method_6_code
def yX11_errorOffset : MethodName := ⟨RX11, "errorOffset", "()I"⟩
abbrev cX11_count : ByteArray := prog_1_method_7_code
def yX11_count : MethodName := ⟨RX11, "count", "(I)I"⟩
abbrev cX11_isComplete : ByteArray := prog_1_method_8_code
def yX11_isComplete : MethodName := ⟨RX11, "isComplete", "()Z"⟩
abbrev cX11_triple : ByteArray := prog_1_method_9_code
def yX11_triple : MethodName := ⟨RX11, "triple", "(II)I"⟩
abbrev cX11_find : ByteArray := prog_1_method_10_code
def yX11_find : MethodName := ⟨RX11, "find", "(III)I"⟩
abbrev cX11_third : ByteArray := prog_1_method_11_code
def yX11_third : MethodName := ⟨RX11, "third", "(II)I"⟩
abbrev cX11_degree : ByteArray := prog_1_method_12_code
def yX11_degree : MethodName := ⟨RX11, "degree", "(I)I"⟩
abbrev cX11_uncovered : ByteArray := prog_1_method_13_code
def yX11_uncovered : MethodName := ⟨RX11, "uncovered", "(I)I"⟩
abbrev cX11_reason : ByteArray := prog_1_method_14_code
def yX11_reason : MethodName := ⟨RX11, "reason", "(III)I"⟩
abbrev cX11_add : ByteArray := prog_1_method_15_code
def yX11_add : MethodName := ⟨RX11, "add", "(III)I"⟩
abbrev cX11_remove : ByteArray := prog_1_method_16_code
def yX11_remove : MethodName := ⟨RX11, "remove", "(I)I"⟩
abbrev cX11_develop : ByteArray := prog_1_method_17_code
def yX11_develop : MethodName := ⟨RX11, "develop", "(III)I"⟩
abbrev cX11_fill : ByteArray := prog_1_method_18_code
def yX11_fill : MethodName := ⟨RX11, "fill", "()I"⟩
abbrev cX11_completions : ByteArray := prog_1_method_19_code
def yX11_completions : MethodName := ⟨RX11, "completions", "()I"⟩
abbrev cX11_tightest : ByteArray := prog_1_method_20_code
def yX11_tightest : MethodName := ⟨RX11, "tightest", "()I"⟩
abbrev cX11_quad : ByteArray := prog_1_method_21_code
def yX11_quad : MethodName := ⟨RX11, "quad", "(II)I"⟩
abbrev cX11_opposite : ByteArray := prog_1_method_22_code
def yX11_opposite : MethodName := ⟨RX11, "opposite", "(II)I"⟩
abbrev cX11_quadsAt : ByteArray := prog_1_method_23_code
def yX11_quadsAt : MethodName := ⟨RX11, "quadsAt", "(I)I"⟩
abbrev cX11_quadsOf : ByteArray := prog_1_method_24_code
def yX11_quadsOf : MethodName := ⟨RX11, "quadsOf", "(I)I"⟩
abbrev cX11_switchQuad : ByteArray := prog_1_method_25_code
def yX11_switchQuad : MethodName := ⟨RX11, "switchQuad", "(I)I"⟩
abbrev cX11_wouldHave : ByteArray := prog_1_method_26_code
def yX11_wouldHave : MethodName := ⟨RX11, "wouldHave", "(I)I"⟩
abbrev cX11_bestSwitch : ByteArray := prog_1_method_27_code
def yX11_bestSwitch : MethodName := ⟨RX11, "bestSwitch", "(Z)I"⟩
abbrev cX11_descend : ByteArray := prog_1_method_28_code
def yX11_descend : MethodName := ⟨RX11, "descend", "(I)I"⟩
abbrev cX11_cycles : ByteArray := prog_1_method_29_code
def yX11_cycles : MethodName := ⟨RX11, "cycles", "(II)I"⟩
abbrev cX11_cycleLength : ByteArray := prog_1_method_30_code
def yX11_cycleLength : MethodName := ⟨RX11, "cycleLength", "(III)I"⟩
abbrev cX11_cyclePoint : ByteArray := prog_1_method_31_code
def yX11_cyclePoint : MethodName := ⟨RX11, "cyclePoint", "(IIII)I"⟩
abbrev cX11_switchCycle : ByteArray := prog_1_method_32_code
def yX11_switchCycle : MethodName := ⟨RX11, "switchCycle", "(III)I"⟩
abbrev cX11_wouldHaveBy : ByteArray := prog_1_method_33_code
def yX11_wouldHaveBy : MethodName := ⟨RX11, "wouldHaveBy", "(III)I"⟩
abbrev cX11_cyclesOf : ByteArray := prog_1_method_34_code
def yX11_cyclesOf : MethodName := ⟨RX11, "cyclesOf", "(I)I"⟩
abbrev cX11_trades : ByteArray := prog_1_method_35_code
def yX11_trades : MethodName := ⟨RX11, "trades", "(I)I"⟩
abbrev cX11_trade : ByteArray := prog_1_method_36_code
def yX11_trade : MethodName := ⟨RX11, "trade", "(II)J"⟩
abbrev cX11_perfectPairs : ByteArray := prog_1_method_37_code
def yX11_perfectPairs : MethodName := ⟨RX11, "perfectPairs", "()I"⟩
abbrev cX11_agrees : ByteArray := prog_1_method_38_code
def yX11_agrees : MethodName := ⟨RX11, "agrees", "()Z"⟩
abbrev cX11_train : ByteArray := prog_1_method_39_code
def yX11_train : MethodName := ⟨RX11, "train", "(III)I"⟩
abbrev cX11_trainsTo : ByteArray := prog_1_method_40_code
def yX11_trainsTo : MethodName := ⟨RX11, "trainsTo", "(III)I"⟩
abbrev cX11_tail : ByteArray := prog_1_method_41_code
def yX11_tail : MethodName := ⟨RX11, "tail", "(III)I"⟩
abbrev cX11_roundOf : ByteArray := prog_1_method_42_code
def yX11_roundOf : MethodName := ⟨RX11, "roundOf", "(III)I"⟩
abbrev cX11_trainProfile : ByteArray := prog_1_method_43_code
def yX11_trainProfile : MethodName := ⟨RX11, "trainProfile", "(I)I"⟩
abbrev cX11_rounds : ByteArray := prog_1_method_44_code
def yX11_rounds : MethodName := ⟨RX11, "rounds", "()I"⟩
abbrev cX11_isTurned : ByteArray := prog_1_method_45_code
def yX11_isTurned : MethodName := ⟨RX11, "isTurned", "(I)Z"⟩
abbrev cX11_leastTurn : ByteArray := prog_1_method_46_code
def yX11_leastTurn : MethodName := ⟨RX11, "leastTurn", "()I"⟩
abbrev cX11_orbits : ByteArray := prog_1_method_47_code
def yX11_orbits : MethodName := ⟨RX11, "orbits", "()I"⟩
abbrev cX11_turn : ByteArray := prog_1_method_48_code
def yX11_turn : MethodName := ⟨RX11, "turn", "(I)I"⟩
abbrev cX11_meanQuads : ByteArray := prog_1_method_49_code
def yX11_meanQuads : MethodName := ⟨RX11, "meanQuads", "()D"⟩
abbrev cX11_coverage : ByteArray := prog_1_method_50_code
def yX11_coverage : MethodName := ⟨RX11, "coverage", "()F"⟩
abbrev cX11_closure : ByteArray := prog_1_method_51_code
def yX11_closure : MethodName := ⟨RX11, "closure", "(I)I"⟩
abbrev cX11_subsystems : ByteArray := prog_1_method_52_code
def yX11_subsystems : MethodName := ⟨RX11, "subsystems", "()I"⟩
abbrev cX11_independent : ByteArray := prog_1_method_53_code
def yX11_independent : MethodName := ⟨RX11, "independent", "()I"⟩
abbrev cX11_apart : ByteArray := prog_1_method_54_code
def yX11_apart : MethodName := ⟨RX11, "apart", "(I)I"⟩
abbrev cX11_mostApart : ByteArray := prog_1_method_55_code
def yX11_mostApart : MethodName := ⟨RX11, "mostApart", "()I"⟩
abbrev cX11_swap : ByteArray := prog_1_method_56_code
def yX11_swap : MethodName := ⟨RX11, "swap", "(II)I"⟩
abbrev cX11_clear : ByteArray := prog_1_method_57_code
def yX11_clear : MethodName := ⟨RX11, "clear", "(I)I"⟩
abbrev cX11_inTheWay : ByteArray := prog_1_method_58_code
def yX11_inTheWay : MethodName := ⟨RX11, "inTheWay", "(III)I"⟩
abbrev cX11_force : ByteArray := prog_1_method_59_code
def yX11_force : MethodName := ⟨RX11, "force", "(III)I"⟩
abbrev cX11_printAt : ByteArray := prog_1_method_60_code
def yX11_printAt : MethodName := ⟨RX11, "printAt", "(I)I"⟩
abbrev cX11_outputByte : ByteArray := prog_1_method_61_code
def yX11_outputByte : MethodName := ⟨RX11, "outputByte", "(I)I"⟩
abbrev cX11_undo : ByteArray := prog_1_method_62_code
def yX11_undo : MethodName := ⟨RX11, "undo", "()I"⟩
abbrev cX11_saveState : ByteArray := prog_1_method_63_code
def yX11_saveState : MethodName := ⟨RX11, "saveState", "()I"⟩
abbrev cX11_restoreState : ByteArray := prog_1_method_64_code
def yX11_restoreState : MethodName := ⟨RX11, "restoreState", "()I"⟩
abbrev cX11_requirePoint : ByteArray := prog_1_method_65_code
def yX11_requirePoint : MethodName := ⟨RX11, "requirePoint", "(I)V"⟩
abbrev cX11_requireTwo : ByteArray := prog_1_method_66_code
def yX11_requireTwo : MethodName := ⟨RX11, "requireTwo", "(II)V"⟩
abbrev cX11_requireThree : ByteArray := prog_1_method_67_code
def yX11_requireThree : MethodName := ⟨RX11, "requireThree", "(III)V"⟩
abbrev cX11_requireTriple : ByteArray := prog_1_method_68_code
def yX11_requireTriple : MethodName := ⟨RX11, "requireTriple", "(I)V"⟩
abbrev cX11_requireQuad : ByteArray := prog_1_method_69_code
def yX11_requireQuad : MethodName := ⟨RX11, "requireQuad", "(I)V"⟩
abbrev cX11_requireCycle : ByteArray := prog_1_method_70_code
def yX11_requireCycle : MethodName := ⟨RX11, "requireCycle", "(III)V"⟩
abbrev cX11_requireComplete : ByteArray := prog_1_method_71_code
def yX11_requireComplete : MethodName := ⟨RX11, "requireComplete", "()V"⟩
abbrev cX11_requireTrain : ByteArray := prog_1_method_72_code
def yX11_requireTrain : MethodName := ⟨RX11, "requireTrain", "(III)V"⟩
abbrev cX11_remember : ByteArray := prog_1_method_73_code
def yX11_remember : MethodName := ⟨RX11, "remember", "()V"⟩
abbrev cX11_settle : ByteArray := prog_1_method_74_code
def yX11_settle : MethodName := ⟨RX11, "settle", "()V"⟩
abbrev cX11_exchangeQuad : ByteArray := prog_1_method_75_code
def yX11_exchangeQuad : MethodName := ⟨RX11, "exchangeQuad", "(I)V"⟩
abbrev cX11_quadsBehindSwitchOf : ByteArray := prog_1_method_76_code
def yX11_quadsBehindSwitchOf : MethodName := ⟨RX11, "quadsBehindSwitchOf", "(I)I"⟩
abbrev cX11_quadsBehindExchange : ByteArray := prog_1_method_77_code
def yX11_quadsBehindExchange : MethodName := ⟨RX11, "quadsBehindExchange", "()I"⟩
abbrev cX11_isPerfect : ByteArray := prog_1_method_78_code
def yX11_isPerfect : MethodName := ⟨RX11, "isPerfect", "(II)Z"⟩
abbrev cX11_writeTriple : ByteArray := prog_1_method_79_code
def yX11_writeTriple : MethodName := ⟨RX11, "writeTriple", "(I)V"⟩
abbrev cX11_write : ByteArray := prog_1_method_80_code
def yX11_write : MethodName := ⟨RX11, "write", "(I)V"⟩
abbrev cX11_completionsOf : ByteArray := prog_1_method_81_code
def yX11_completionsOf : MethodName := ⟨RX11, "completionsOf", "(LTripleTrains$Board;I)I"⟩
abbrev cX11_mostApartFrom : ByteArray := prog_1_method_82_code
def yX11_mostApartFrom : MethodName := ⟨RX11, "mostApartFrom", "(LTripleTrains$Board;III)I"⟩
def RX12 : String := "TripleTrainsModel"
def TX12 : u_T := fun k => match k with
  | 0 => ("TripleTrainsModel", "w", "[I", true)
  | 1 => ("TripleTrainsModel", "wKept", "[I", true)
  | 2 => ("TripleTrainsModel", "aside", "[I", true)
  | 3 => ("TripleTrainsModel", "savedRow", "[I", true)
  | 4 => ("TripleTrainsModel", "past", "[I", true)
  | 5 => ("TripleTrainsModel", "pastMany", "I", false)
  | 6 => ("TripleTrainsModel", "isSaved", "Z", false)
  | 7 => ("TripleTrainsModel", "thrown", "I", false)
  | 8 => ("TripleTrainsModel", "one", "[I", true)
  | 9 => ("TripleTrainsModel", "two", "[I", true)
  | 10 => ("TripleTrainsModel", "three", "[I", true)
  | 11 => ("TripleTrainsModel", "masks", "[I", true)
  | 12 => ("TripleTrainsModel", "many", "I", false)
  | 13 => ("TripleTrainsModel", "quads", "[I", true)
  | 14 => ("TripleTrainsModel", "quadMany", "I", false)
  | 15 => ("TripleTrainsModel", "replaced", "[I", true)
  | 16 => ("TripleTrainsModel", "row", "[I", true)
  | 17 => ("TripleTrainsModel", "rowMany", "I", false)
  | 18 => ("TripleTrainsModel", "trades", "[J", true)
  | 19 => ("TripleTrainsModel", "tradeMany", "I", false)
  | 20 => ("TripleTrainsModel", "input", "[I", true)
  | 21 => ("TripleTrainsModel", "inputMany", "I", false)
  | 22 => ("TripleTrainsModel", "lastError", "I", false)
  | 23 => ("TripleTrainsModel", "lastOffset", "I", false)
  | 24 => ("TripleTrainsModel", "error", "I", false)
  | 25 => ("TripleTrainsModel", "offset", "I", false)
  | 26 => ("TripleTrainsModel", "nextByte", "I", false)
  | 27 => ("TripleTrainsModel", "begin", "I", false)
  | 28 => ("TripleTrainsModel", "value", "I", false)
  | 29 => ("TripleTrainsModel", "token", "I", false)
  | 30 => ("TripleTrainsModel", "read", "[I", true)
  | 31 => ("TripleTrainsModel", "output", "[I", true)
  | _ => ("TripleTrainsModel", "outputMany", "I", false)
def tyX12 : Nat → FieldType := fun k => match k with
  | 0 => .array .int
  | 1 => .array .int
  | 2 => .array .int
  | 3 => .array .int
  | 4 => .array .int
  | 5 => .int
  | 6 => .boolean
  | 7 => .int
  | 8 => .array .int
  | 9 => .array .int
  | 10 => .array .int
  | 11 => .array .int
  | 12 => .int
  | 13 => .array .int
  | 14 => .int
  | 15 => .array .int
  | 16 => .array .int
  | 17 => .int
  | 18 => .array .long
  | 19 => .int
  | 20 => .array .int
  | 21 => .int
  | 22 => .int
  | 23 => .int
  | 24 => .int
  | 25 => .int
  | 26 => .int
  | 27 => .int
  | 28 => .int
  | 29 => .int
  | 30 => .array .int
  | 31 => .array .int
  | _ => .int
abbrev wsX120 : List Cond := u_ws RX12 TX12 33
theorem nmX12 : ∀ a, a < 33 → ∀ b, b < 33 → a ≠ b → (TX12 a).2.1 ≠ (TX12 b).2.1 := by decide +kernel
theorem tyX12_ok : ∀ k, k < 33 → parseFieldDescriptor (TX12 k).2.2.1 = some (tyX12 k) := by decide +kernel
abbrev cX12_init : ByteArray := prog_14_method_1_code
def yX12_init : MethodName := ⟨RX12, "<init>", "()V"⟩
abbrev cX12_inRange : ByteArray := prog_14_method_3_code
def yX12_inRange : MethodName := ⟨RX12, "inRange", "(III)Z"⟩
abbrev cX12_fails : ByteArray := prog_14_method_4_code
def yX12_fails : MethodName := ⟨RX12, "fails", "(ZI)Z"⟩
abbrev cX12_copies : ByteArray := prog_14_method_5_code
def yX12_copies : MethodName := ⟨RX12, "copies", "([II[III)V"⟩
abbrev cX12_empties : ByteArray := prog_14_method_6_code
def yX12_empties : MethodName := ⟨RX12, "empties", "(I)V"⟩
abbrev cX12_remembers : ByteArray := prog_14_method_7_code
def yX12_remembers : MethodName := ⟨RX12, "remembers", "()V"⟩
abbrev cX12_begins : ByteArray := prog_14_method_8_code
def yX12_begins : MethodName := ⟨RX12, "begins", "()V"⟩
abbrev cX12_ends : ByteArray := prog_14_method_9_code
def yX12_ends : MethodName := ⟨RX12, "ends", "()V"⟩
abbrev cX12_points : ByteArray := prog_14_method_10_code
def yX12_points : MethodName := ⟨RX12, "points", "()I"⟩
abbrev cX12_thirdOf : ByteArray := prog_14_method_11_code
def yX12_thirdOf : MethodName := ⟨RX12, "thirdOf", "(II)I"⟩
abbrev cX12_lays : ByteArray := prog_14_method_12_code
def yX12_lays : MethodName := ⟨RX12, "lays", "(III)V"⟩
abbrev cX12_puts : ByteArray := prog_14_method_13_code
def yX12_puts : MethodName := ⟨RX12, "puts", "(III)V"⟩
abbrev cX12_takes : ByteArray := prog_14_method_14_code
def yX12_takes : MethodName := ⟨RX12, "takes", "(III)V"⟩
abbrev cX12_coveredOf : ByteArray := prog_14_method_15_code
def yX12_coveredOf : MethodName := ⟨RX12, "coveredOf", "(II)I"⟩
abbrev cX12_coveredIn : ByteArray := prog_14_method_16_code
def yX12_coveredIn : MethodName := ⟨RX12, "coveredIn", "(III)I"⟩
abbrev cX12_isFree : ByteArray := prog_14_method_17_code
def yX12_isFree : MethodName := ⟨RX12, "isFree", "(III)Z"⟩
abbrev cX12_laysTriples : ByteArray := prog_14_method_18_code
def yX12_laysTriples : MethodName := ⟨RX12, "laysTriples", "()V"⟩
abbrev cX12_numberOf : ByteArray := prog_14_method_19_code
def yX12_numberOf : MethodName := ⟨RX12, "numberOf", "(I)I"⟩
abbrev cX12_triplesMany : ByteArray := prog_14_method_20_code
def yX12_triplesMany : MethodName := ⟨RX12, "triplesMany", "()I"⟩
abbrev cX12_pairsMany : ByteArray := prog_14_method_21_code
def yX12_pairsMany : MethodName := ⟨RX12, "pairsMany", "()I"⟩
abbrev cX12_uncoveredMany : ByteArray := prog_14_method_22_code
def yX12_uncoveredMany : MethodName := ⟨RX12, "uncoveredMany", "()I"⟩
abbrev cX12_laysQuads : ByteArray := prog_14_method_23_code
def yX12_laysQuads : MethodName := ⟨RX12, "laysQuads", "()V"⟩
abbrev cX12_addsQuad : ByteArray := prog_14_method_24_code
def yX12_addsQuad : MethodName := ⟨RX12, "addsQuad", "(IIII)V"⟩
abbrev cX12_quadPoints : ByteArray := prog_14_method_25_code
def yX12_quadPoints : MethodName := ⟨RX12, "quadPoints", "(I)I"⟩
abbrev cX12_oppositeOf : ByteArray := prog_14_method_26_code
def yX12_oppositeOf : MethodName := ⟨RX12, "oppositeOf", "(II)I"⟩
abbrev cX12_switchesQuad : ByteArray := prog_14_method_27_code
def yX12_switchesQuad : MethodName := ⟨RX12, "switchesQuad", "(I)V"⟩
abbrev cX12_isTriple : ByteArray := prog_14_method_28_code
def yX12_isTriple : MethodName := ⟨RX12, "isTriple", "(I)Z"⟩
abbrev cX12_quadsCounted : ByteArray := prog_14_method_29_code
def yX12_quadsCounted : MethodName := ⟨RX12, "quadsCounted", "()I"⟩
abbrev cX12_quadsBehind : ByteArray := prog_14_method_30_code
def yX12_quadsBehind : MethodName := ⟨RX12, "quadsBehind", "(I)I"⟩
abbrev cX12_bestQuad : ByteArray := prog_14_method_31_code
def yX12_bestQuad : MethodName := ⟨RX12, "bestQuad", "(Z)I"⟩
abbrev cX12_walks : ByteArray := prog_14_method_32_code
def yX12_walks : MethodName := ⟨RX12, "walks", "(III)Z"⟩
abbrev cX12_isCycleFrom : ByteArray := prog_14_method_33_code
def yX12_isCycleFrom : MethodName := ⟨RX12, "isCycleFrom", "(III)Z"⟩
abbrev cX12_cyclesMany : ByteArray := prog_14_method_34_code
def yX12_cyclesMany : MethodName := ⟨RX12, "cyclesMany", "(II)I"⟩
abbrev cX12_laysCycle : ByteArray := prog_14_method_35_code
def yX12_laysCycle : MethodName := ⟨RX12, "laysCycle", "(III)Z"⟩
abbrev cX12_replacedBy : ByteArray := prog_14_method_36_code
def yX12_replacedBy : MethodName := ⟨RX12, "replacedBy", "(II)J"⟩
abbrev cX12_switchesCycle : ByteArray := prog_14_method_37_code
def yX12_switchesCycle : MethodName := ⟨RX12, "switchesCycle", "(II)V"⟩
abbrev cX12_addsTrade : ByteArray := prog_14_method_38_code
def yX12_addsTrade : MethodName := ⟨RX12, "addsTrade", "(J)V"⟩
abbrev cX12_laysTrades : ByteArray := prog_14_method_39_code
def yX12_laysTrades : MethodName := ⟨RX12, "laysTrades", "(I)V"⟩
abbrev cX12_turned : ByteArray := prog_14_method_40_code
def yX12_turned : MethodName := ⟨RX12, "turned", "(II)I"⟩
abbrev cX12_by : ByteArray := prog_14_method_41_code
def yX12_by : MethodName := ⟨RX12, "by", "(I)I"⟩
abbrev cX12_isTurnedBy : ByteArray := prog_14_method_42_code
def yX12_isTurnedBy : MethodName := ⟨RX12, "isTurnedBy", "(I)Z"⟩
abbrev cX12_leastOf : ByteArray := prog_14_method_43_code
def yX12_leastOf : MethodName := ⟨RX12, "leastOf", "()I"⟩
abbrev cX12_develops : ByteArray := prog_14_method_44_code
def yX12_develops : MethodName := ⟨RX12, "develops", "(III)I"⟩
abbrev cX12_appendWord : ByteArray := prog_14_method_45_code
def yX12_appendWord : MethodName := ⟨RX12, "appendWord", "(I)V"⟩
abbrev cX12_appendInput : ByteArray := prog_14_method_46_code
def yX12_appendInput : MethodName := ⟨RX12, "appendInput", "(IIIII)I"⟩
abbrev cX12_truncateInput : ByteArray := prog_14_method_47_code
def yX12_truncateInput : MethodName := ⟨RX12, "truncateInput", "(I)Z"⟩
abbrev cX12_byteAt : ByteArray := prog_14_method_48_code
def yX12_byteAt : MethodName := ⟨RX12, "byteAt", "(I)I"⟩
abbrev cX12_advanceToken : ByteArray := prog_14_method_49_code
def yX12_advanceToken : MethodName := ⟨RX12, "advanceToken", "()V"⟩
abbrev cX12_tokenLength : ByteArray := prog_14_method_50_code
def yX12_tokenLength : MethodName := ⟨RX12, "tokenLength", "()I"⟩
abbrev cX12_failsAt : ByteArray := prog_14_method_51_code
def yX12_failsAt : MethodName := ⟨RX12, "failsAt", "(I)Z"⟩
abbrev cX12_isWord : ByteArray := prog_14_method_52_code
def yX12_isWord : MethodName := ⟨RX12, "isWord", "(Ljava/lang/String;)Z"⟩
abbrev cX12_takesPoint : ByteArray := prog_14_method_53_code
def yX12_takesPoint : MethodName := ⟨RX12, "takesPoint", "(III)Z"⟩
abbrev cX12_readTriple : ByteArray := prog_14_method_54_code
def yX12_readTriple : MethodName := ⟨RX12, "readTriple", "(Z)Z"⟩
abbrev cX12_readPoints : ByteArray := prog_14_method_55_code
def yX12_readPoints : MethodName := ⟨RX12, "readPoints", "()Z"⟩
abbrev cX12_readStatement : ByteArray := prog_14_method_56_code
def yX12_readStatement : MethodName := ⟨RX12, "readStatement", "()Z"⟩
abbrev cX12_readText : ByteArray := prog_14_method_57_code
def yX12_readText : MethodName := ⟨RX12, "readText", "()Z"⟩
abbrev cX12_loadSystem : ByteArray := prog_14_method_58_code
def yX12_loadSystem : MethodName := ⟨RX12, "loadSystem", "()I"⟩
abbrev cX12_errorCode : ByteArray := prog_14_method_59_code
def yX12_errorCode : MethodName := ⟨RX12, "errorCode", "()I"⟩
abbrev cX12_errorOffset : ByteArray := prog_14_method_60_code
def yX12_errorOffset : MethodName := ⟨RX12, "errorOffset", "()I"⟩
abbrev cX12_noPoint : ByteArray := prog_14_method_61_code
def yX12_noPoint : MethodName := ⟨RX12, "noPoint", "(I)Z"⟩
abbrev cX12_noPair : ByteArray := prog_14_method_62_code
def yX12_noPair : MethodName := ⟨RX12, "noPair", "(II)Z"⟩
abbrev cX12_noSet : ByteArray := prog_14_method_63_code
def yX12_noSet : MethodName := ⟨RX12, "noSet", "(III)Z"⟩
abbrev cX12_noTriple : ByteArray := prog_14_method_64_code
def yX12_noTriple : MethodName := ⟨RX12, "noTriple", "(I)Z"⟩
abbrev cX12_noQuad : ByteArray := prog_14_method_65_code
def yX12_noQuad : MethodName := ⟨RX12, "noQuad", "(I)Z"⟩
abbrev cX12_noCycle : ByteArray := prog_14_method_66_code
def yX12_noCycle : MethodName := ⟨RX12, "noCycle", "(III)Z"⟩
abbrev cX12_count : ByteArray := prog_14_method_67_code
def yX12_count : MethodName := ⟨RX12, "count", "(I)I"⟩
abbrev cX12_quadsNow : ByteArray := prog_14_method_68_code
def yX12_quadsNow : MethodName := ⟨RX12, "quadsNow", "()I"⟩
abbrev cX12_isWhole : ByteArray := prog_14_method_69_code
def yX12_isWhole : MethodName := ⟨RX12, "isWhole", "()Z"⟩
abbrev cX12_isComplete : ByteArray := prog_14_method_70_code
def yX12_isComplete : MethodName := ⟨RX12, "isComplete", "()Z"⟩
abbrev cX12_triple : ByteArray := prog_14_method_71_code
def yX12_triple : MethodName := ⟨RX12, "triple", "(II)I"⟩
abbrev cX12_find : ByteArray := prog_14_method_72_code
def yX12_find : MethodName := ⟨RX12, "find", "(III)I"⟩
abbrev cX12_third : ByteArray := prog_14_method_73_code
def yX12_third : MethodName := ⟨RX12, "third", "(II)I"⟩
abbrev cX12_degree : ByteArray := prog_14_method_74_code
def yX12_degree : MethodName := ⟨RX12, "degree", "(I)I"⟩
abbrev cX12_uncovered : ByteArray := prog_14_method_75_code
def yX12_uncovered : MethodName := ⟨RX12, "uncovered", "(I)I"⟩
abbrev cX12_reasonOf : ByteArray := prog_14_method_76_code
def yX12_reasonOf : MethodName := ⟨RX12, "reasonOf", "(III)I"⟩
abbrev cX12_reason : ByteArray := prog_14_method_77_code
def yX12_reason : MethodName := ⟨RX12, "reason", "(III)I"⟩
abbrev cX12_inTheWay : ByteArray := prog_14_method_78_code
def yX12_inTheWay : MethodName := ⟨RX12, "inTheWay", "(III)I"⟩
abbrev cX12_add : ByteArray := prog_14_method_79_code
def yX12_add : MethodName := ⟨RX12, "add", "(III)I"⟩
abbrev cX12_remove : ByteArray := prog_14_method_80_code
def yX12_remove : MethodName := ⟨RX12, "remove", "(I)I"⟩
abbrev cX12_develop : ByteArray := prog_14_method_81_code
def yX12_develop : MethodName := ⟨RX12, "develop", "(III)I"⟩
abbrev cX12_fill : ByteArray := prog_14_method_82_code
def yX12_fill : MethodName := ⟨RX12, "fill", "()I"⟩
abbrev cX12_force : ByteArray := prog_14_method_83_code
def yX12_force : MethodName := ⟨RX12, "force", "(III)I"⟩
abbrev cX12_removes : ByteArray := prog_14_method_84_code
def yX12_removes : MethodName := ⟨RX12, "removes", "(II)I"⟩
abbrev cX12_clear : ByteArray := prog_14_method_85_code
def yX12_clear : MethodName := ⟨RX12, "clear", "(I)I"⟩
abbrev cX12_swap : ByteArray := prog_14_method_86_code
def yX12_swap : MethodName := ⟨RX12, "swap", "(II)I"⟩
abbrev cX12_swapped : ByteArray := prog_14_method_87_code
def yX12_swapped : MethodName := ⟨RX12, "swapped", "(III)I"⟩
abbrev cX12_turn : ByteArray := prog_14_method_88_code
def yX12_turn : MethodName := ⟨RX12, "turn", "(I)I"⟩
abbrev cX12_waysOf : ByteArray := prog_14_method_89_code
def yX12_waysOf : MethodName := ⟨RX12, "waysOf", "(II)I"⟩
abbrev cX12_tightestPair : ByteArray := prog_14_method_90_code
def yX12_tightestPair : MethodName := ⟨RX12, "tightestPair", "()I"⟩
abbrev cX12_completionsFrom : ByteArray := prog_14_method_91_code
def yX12_completionsFrom : MethodName := ⟨RX12, "completionsFrom", "()I"⟩
abbrev cX12_completions : ByteArray := prog_14_method_92_code
def yX12_completions : MethodName := ⟨RX12, "completions", "()I"⟩
abbrev cX12_tightest : ByteArray := prog_14_method_93_code
def yX12_tightest : MethodName := ⟨RX12, "tightest", "()I"⟩
abbrev cX12_bitAt : ByteArray := prog_14_method_94_code
def yX12_bitAt : MethodName := ⟨RX12, "bitAt", "(II)I"⟩
abbrev cX12_quad : ByteArray := prog_14_method_95_code
def yX12_quad : MethodName := ⟨RX12, "quad", "(II)I"⟩
abbrev cX12_opposite : ByteArray := prog_14_method_96_code
def yX12_opposite : MethodName := ⟨RX12, "opposite", "(II)I"⟩
abbrev cX12_quadsAt : ByteArray := prog_14_method_97_code
def yX12_quadsAt : MethodName := ⟨RX12, "quadsAt", "(I)I"⟩
abbrev cX12_quadsOf : ByteArray := prog_14_method_98_code
def yX12_quadsOf : MethodName := ⟨RX12, "quadsOf", "(I)I"⟩
abbrev cX12_switchQuad : ByteArray := prog_14_method_99_code
def yX12_switchQuad : MethodName := ⟨RX12, "switchQuad", "(I)I"⟩
abbrev cX12_wouldHave : ByteArray := prog_14_method_100_code
def yX12_wouldHave : MethodName := ⟨RX12, "wouldHave", "(I)I"⟩
abbrev cX12_bestSwitch : ByteArray := prog_14_method_101_code
def yX12_bestSwitch : MethodName := ⟨RX12, "bestSwitch", "(Z)I"⟩
abbrev cX12_descend : ByteArray := prog_14_method_102_code
def yX12_descend : MethodName := ⟨RX12, "descend", "(I)I"⟩
abbrev cX12_meanQuads : ByteArray := prog_14_method_103_code
def yX12_meanQuads : MethodName := ⟨RX12, "meanQuads", "()D"⟩
abbrev cX12_cycles : ByteArray := prog_14_method_104_code
def yX12_cycles : MethodName := ⟨RX12, "cycles", "(II)I"⟩
abbrev cX12_cycleLength : ByteArray := prog_14_method_105_code
def yX12_cycleLength : MethodName := ⟨RX12, "cycleLength", "(III)I"⟩
abbrev cX12_cyclePoint : ByteArray := prog_14_method_106_code
def yX12_cyclePoint : MethodName := ⟨RX12, "cyclePoint", "(IIII)I"⟩
abbrev cX12_switchCycle : ByteArray := prog_14_method_107_code
def yX12_switchCycle : MethodName := ⟨RX12, "switchCycle", "(III)I"⟩
abbrev cX12_wouldHaveBy : ByteArray := prog_14_method_108_code
def yX12_wouldHaveBy : MethodName := ⟨RX12, "wouldHaveBy", "(III)I"⟩
abbrev cX12_cyclesOf : ByteArray := prog_14_method_109_code
def yX12_cyclesOf : MethodName := ⟨RX12, "cyclesOf", "(I)I"⟩
abbrev cX12_trades : ByteArray := prog_14_method_110_code
def yX12_trades : MethodName := ⟨RX12, "trades", "(I)I"⟩
abbrev cX12_trade : ByteArray := prog_14_method_111_code
def yX12_trade : MethodName := ⟨RX12, "trade", "(II)J"⟩
abbrev cX12_isPerfect : ByteArray := prog_14_method_112_code
def yX12_isPerfect : MethodName := ⟨RX12, "isPerfect", "(II)Z"⟩
abbrev cX12_perfectPairs : ByteArray := prog_14_method_113_code
def yX12_perfectPairs : MethodName := ⟨RX12, "perfectPairs", "()I"⟩
abbrev cX12_quadSet : ByteArray := prog_14_method_114_code
def yX12_quadSet : MethodName := ⟨RX12, "quadSet", "(I)J"⟩
abbrev cX12_agrees : ByteArray := prog_14_method_115_code
def yX12_agrees : MethodName := ⟨RX12, "agrees", "()Z"⟩
abbrev cX12_noTrain : ByteArray := prog_14_method_116_code
def yX12_noTrain : MethodName := ⟨RX12, "noTrain", "(III)Z"⟩
abbrev cX12_codeOf : ByteArray := prog_14_method_117_code
def yX12_codeOf : MethodName := ⟨RX12, "codeOf", "(III)I"⟩
abbrev cX12_next : ByteArray := prog_14_method_118_code
def yX12_next : MethodName := ⟨RX12, "next", "(I)I"⟩
abbrev cX12_leadTo : ByteArray := prog_14_method_119_code
def yX12_leadTo : MethodName := ⟨RX12, "leadTo", "(I)I"⟩
abbrev cX12_roundFrom : ByteArray := prog_14_method_120_code
def yX12_roundFrom : MethodName := ⟨RX12, "roundFrom", "(I)I"⟩
abbrev cX12_train : ByteArray := prog_14_method_121_code
def yX12_train : MethodName := ⟨RX12, "train", "(III)I"⟩
abbrev cX12_trainsTo : ByteArray := prog_14_method_122_code
def yX12_trainsTo : MethodName := ⟨RX12, "trainsTo", "(III)I"⟩
abbrev cX12_tail : ByteArray := prog_14_method_123_code
def yX12_tail : MethodName := ⟨RX12, "tail", "(III)I"⟩
abbrev cX12_roundOf : ByteArray := prog_14_method_124_code
def yX12_roundOf : MethodName := ⟨RX12, "roundOf", "(III)I"⟩
abbrev cX12_trainProfile : ByteArray := prog_14_method_125_code
def yX12_trainProfile : MethodName := ⟨RX12, "trainProfile", "(I)I"⟩
abbrev cX12_beginsRound : ByteArray := prog_14_method_126_code
def yX12_beginsRound : MethodName := ⟨RX12, "beginsRound", "(I)Z"⟩
abbrev cX12_rounds : ByteArray := prog_14_method_127_code
def yX12_rounds : MethodName := ⟨RX12, "rounds", "()I"⟩
abbrev cX12_isTurned : ByteArray := prog_14_method_128_code
def yX12_isTurned : MethodName := ⟨RX12, "isTurned", "(I)Z"⟩
abbrev cX12_leastTurn : ByteArray := prog_14_method_129_code
def yX12_leastTurn : MethodName := ⟨RX12, "leastTurn", "()I"⟩
abbrev cX12_orbits : ByteArray := prog_14_method_130_code
def yX12_orbits : MethodName := ⟨RX12, "orbits", "()I"⟩
abbrev cX12_isLeastOfOrbit : ByteArray := prog_14_method_131_code
def yX12_isLeastOfOrbit : MethodName := ⟨RX12, "isLeastOfOrbit", "(II)Z"⟩
abbrev cX12_coverage : ByteArray := prog_14_method_132_code
def yX12_coverage : MethodName := ⟨RX12, "coverage", "()F"⟩
abbrev cX12_closed : ByteArray := prog_14_method_133_code
def yX12_closed : MethodName := ⟨RX12, "closed", "(I)I"⟩
abbrev cX12_closure : ByteArray := prog_14_method_134_code
def yX12_closure : MethodName := ⟨RX12, "closure", "(I)I"⟩
abbrev cX12_isClosed : ByteArray := prog_14_method_135_code
def yX12_isClosed : MethodName := ⟨RX12, "isClosed", "(I)Z"⟩
abbrev cX12_subsystems : ByteArray := prog_14_method_136_code
def yX12_subsystems : MethodName := ⟨RX12, "subsystems", "()I"⟩
abbrev cX12_holdsNone : ByteArray := prog_14_method_137_code
def yX12_holdsNone : MethodName := ⟨RX12, "holdsNone", "(I)Z"⟩
abbrev cX12_independent : ByteArray := prog_14_method_138_code
def yX12_independent : MethodName := ⟨RX12, "independent", "()I"⟩
abbrev cX12_apart : ByteArray := prog_14_method_139_code
def yX12_apart : MethodName := ⟨RX12, "apart", "(I)I"⟩
abbrev cX12_mostFrom : ByteArray := prog_14_method_140_code
def yX12_mostFrom : MethodName := ⟨RX12, "mostFrom", "(II)I"⟩
abbrev cX12_mostApart : ByteArray := prog_14_method_141_code
def yX12_mostApart : MethodName := ⟨RX12, "mostApart", "()I"⟩
abbrev cX12_write : ByteArray := prog_14_method_142_code
def yX12_write : MethodName := ⟨RX12, "write", "(I)V"⟩
abbrev cX12_writePoint : ByteArray := prog_14_method_143_code
def yX12_writePoint : MethodName := ⟨RX12, "writePoint", "(I)V"⟩
abbrev cX12_printAt : ByteArray := prog_14_method_144_code
def yX12_printAt : MethodName := ⟨RX12, "printAt", "(I)I"⟩
abbrev cX12_outputByte : ByteArray := prog_14_method_145_code
def yX12_outputByte : MethodName := ⟨RX12, "outputByte", "(I)I"⟩
abbrev cX12_undo : ByteArray := prog_14_method_146_code
def yX12_undo : MethodName := ⟨RX12, "undo", "()I"⟩
abbrev cX12_saveState : ByteArray := prog_14_method_147_code
def yX12_saveState : MethodName := ⟨RX12, "saveState", "()I"⟩
abbrev cX12_restoreState : ByteArray := prog_14_method_148_code
def yX12_restoreState : MethodName := ⟨RX12, "restoreState", "()I"⟩
def RJx145de : String := "java/io/Serializable"
def TJx145de : u_T := fun k => match k with
  | _ => ("", "", "", false)
def tyJx145de : Nat → FieldType := fun k => match k with
  | _ => .int
abbrev wsJx145de0 : List Cond := u_ws RJx145de TJx145de 0
theorem nmJx145de : ∀ a, a < 0 → ∀ b, b < 0 → a ≠ b → (TJx145de a).2.1 ≠ (TJx145de b).2.1 := by decide +kernel
theorem tyJx145de_ok : ∀ k, k < 0 → parseFieldDescriptor (TJx145de k).2.2.1 = some (tyJx145de k) := by decide +kernel
def RJx9f9b0 : String := "java/lang/CharSequence"
def TJx9f9b0 : u_T := fun k => match k with
  | _ => ("", "", "", false)
def tyJx9f9b0 : Nat → FieldType := fun k => match k with
  | _ => .int
abbrev wsJx9f9b00 : List Cond := u_ws RJx9f9b0 TJx9f9b0 0
theorem nmJx9f9b0 : ∀ a, a < 0 → ∀ b, b < 0 → a ≠ b → (TJx9f9b0 a).2.1 ≠ (TJx9f9b0 b).2.1 := by decide +kernel
theorem tyJx9f9b0_ok : ∀ k, k < 0 → parseFieldDescriptor (TJx9f9b0 k).2.2.1 = some (tyJx9f9b0 k) := by decide +kernel
def RJxb160c : String := "java/lang/Comparable"
def TJxb160c : u_T := fun k => match k with
  | _ => ("", "", "", false)
def tyJxb160c : Nat → FieldType := fun k => match k with
  | _ => .int
abbrev wsJxb160c0 : List Cond := u_ws RJxb160c TJxb160c 0
theorem nmJxb160c : ∀ a, a < 0 → ∀ b, b < 0 → a ≠ b → (TJxb160c a).2.1 ≠ (TJxb160c b).2.1 := by decide +kernel
theorem tyJxb160c_ok : ∀ k, k < 0 → parseFieldDescriptor (TJxb160c k).2.2.1 = some (tyJxb160c k) := by decide +kernel
def RJ6 : String := "java/lang/Integer"
def TJ6 : u_T := fun k => match k with
  | _ => ("", "", "", false)
def tyJ6 : Nat → FieldType := fun k => match k with
  | _ => .int
abbrev wsJ60 : List Cond := u_ws RJ6 TJ6 0
theorem nmJ6 : ∀ a, a < 0 → ∀ b, b < 0 → a ≠ b → (TJ6 a).2.1 ≠ (TJ6 b).2.1 := by decide +kernel
theorem tyJ6_ok : ∀ k, k < 0 → parseFieldDescriptor (TJ6 k).2.2.1 = some (tyJ6 k) := by decide +kernel
abbrev cJ6_numberOfTrailingZeros_0f7a4 : ByteArray := prog_22_method_48_code
def yJ6_numberOfTrailingZeros_0f7a4 : MethodName := ⟨RJ6, "numberOfTrailingZeros", "(I)I"⟩
abbrev cJ6_bitCount_0f7a4 : ByteArray := prog_22_method_49_code
def yJ6_bitCount_0f7a4 : MethodName := ⟨RJ6, "bitCount", "(I)I"⟩
def RJ13 : String := "java/lang/Long"
def TJ13 : u_T := fun k => match k with
  | _ => ("", "", "", false)
def tyJ13 : Nat → FieldType := fun k => match k with
  | _ => .int
abbrev wsJ130 : List Cond := u_ws RJ13 TJ13 0
theorem nmJ13 : ∀ a, a < 0 → ∀ b, b < 0 → a ≠ b → (TJ13 a).2.1 ≠ (TJ13 b).2.1 := by decide +kernel
theorem tyJ13_ok : ∀ k, k < 0 → parseFieldDescriptor (TJ13 k).2.2.1 = some (tyJ13 k) := by decide +kernel
abbrev cJ13_bitCount_95d88 : ByteArray := prog_23_method_50_code
def yJ13_bitCount_95d88 : MethodName := ⟨RJ13, "bitCount", "(J)I"⟩
def RJ9 : String := "java/lang/Math"
def TJ9 : u_T := fun k => match k with
  | _ => ("", "", "", false)
def tyJ9 : Nat → FieldType := fun k => match k with
  | _ => .int
abbrev wsJ90 : List Cond := u_ws RJ9 TJ9 0
theorem nmJ9 : ∀ a, a < 0 → ∀ b, b < 0 → a ≠ b → (TJ9 a).2.1 ≠ (TJ9 b).2.1 := by decide +kernel
theorem tyJ9_ok : ∀ k, k < 0 → parseFieldDescriptor (TJ9 k).2.2.1 = some (tyJ9 k) := by decide +kernel
abbrev cJ9_floorMod_7cf53 : ByteArray := prog_24_method_50_code
def yJ9_floorMod_7cf53 : MethodName := ⟨RJ9, "floorMod", "(II)I"⟩
abbrev cJ9_max_7cf53 : ByteArray := prog_24_method_65_code
def yJ9_max_7cf53 : MethodName := ⟨RJ9, "max", "(II)I"⟩
abbrev cJ9_min_7cf53 : ByteArray := prog_24_method_69_code
def yJ9_min_7cf53 : MethodName := ⟨RJ9, "min", "(II)I"⟩
def RJ0 : String := "java/lang/String"
def TJ0 : u_T := fun k => match k with
  | _ => ("", "", "", false)
def tyJ0 : Nat → FieldType := fun k => match k with
  | _ => .int
abbrev wsJ00 : List Cond := u_ws RJ0 TJ0 0
theorem nmJ0 : ∀ a, a < 0 → ∀ b, b < 0 → a ≠ b → (TJ0 a).2.1 ≠ (TJ0 b).2.1 := by decide +kernel
theorem tyJ0_ok : ∀ k, k < 0 → parseFieldDescriptor (TJ0 k).2.2.1 = some (tyJ0 k) := by decide +kernel
abbrev cJ0_length_8abf5 : ByteArray := prog_26_method_54_code
def yJ0_length_8abf5 : MethodName := ⟨RJ0, "length", "()I"⟩
abbrev cJ0_charAt_5068e : ByteArray := prog_26_method_56_code
def yJ0_charAt_5068e : MethodName := ⟨RJ0, "charAt", "(I)C"⟩
abbrev cJ0_coder_7d493 : ByteArray := prog_26_method_152_code
def yJ0_coder_7d493 : MethodName := ⟨RJ0, "coder", "()B"⟩
abbrev cJ0_isLatin1_aae02 : ByteArray := prog_26_method_154_code
def yJ0_isLatin1_aae02 : MethodName := ⟨RJ0, "isLatin1", "()Z"⟩
abbrev cJ0_checkIndex_df160 : ByteArray := prog_26_method_155_code
def yJ0_checkIndex_df160 : MethodName := ⟨RJ0, "checkIndex", "(II)V"⟩
def RJ1 : String := "java/lang/StringLatin1"
def TJ1 : u_T := fun k => match k with
  | _ => ("", "", "", false)
def tyJ1 : Nat → FieldType := fun k => match k with
  | _ => .int
abbrev wsJ10 : List Cond := u_ws RJ1 TJ1 0
theorem nmJ1 : ∀ a, a < 0 → ∀ b, b < 0 → a ≠ b → (TJ1 a).2.1 ≠ (TJ1 b).2.1 := by decide +kernel
theorem tyJ1_ok : ∀ k, k < 0 → parseFieldDescriptor (TJ1 k).2.2.1 = some (tyJ1 k) := by decide +kernel
abbrev cJ1_charAt_3b067 : ByteArray := prog_27_method_2_code
def yJ1_charAt_3b067 : MethodName := ⟨RJ1, "charAt", "([BI)C"⟩
def RJ2 : String := "java/lang/StringUTF16"
def TJ2 : u_T := fun k => match k with
  | _ => ("", "", "", false)
def tyJ2 : Nat → FieldType := fun k => match k with
  | _ => .int
abbrev wsJ20 : List Cond := u_ws RJ2 TJ2 0
theorem nmJ2 : ∀ a, a < 0 → ∀ b, b < 0 → a ≠ b → (TJ2 a).2.1 ≠ (TJ2 b).2.1 := by decide +kernel
theorem tyJ2_ok : ∀ k, k < 0 → parseFieldDescriptor (TJ2 k).2.2.1 = some (tyJ2 k) := by decide +kernel
abbrev cJ2_getChar_3b067 : ByteArray := prog_28_method_5_code
def yJ2_getChar_3b067 : MethodName := ⟨RJ2, "getChar", "([BI)C"⟩
abbrev cJ2_length_9d52b : ByteArray := prog_28_method_6_code
def yJ2_length_9d52b : MethodName := ⟨RJ2, "length", "([B)I"⟩
abbrev cJ2_charAt_3b067 : ByteArray := prog_28_method_83_code
def yJ2_charAt_3b067 : MethodName := ⟨RJ2, "charAt", "([BI)C"⟩
abbrev cJ2_checkIndex_2214a : ByteArray := prog_28_method_91_code
def yJ2_checkIndex_2214a : MethodName := ⟨RJ2, "checkIndex", "(I[B)V"⟩
def RJ10 : String := "java/lang/System"
def TJ10 : u_T := fun k => match k with
  | _ => ("", "", "", false)
def tyJ10 : Nat → FieldType := fun k => match k with
  | _ => .int
abbrev wsJ100 : List Cond := u_ws RJ10 TJ10 0
theorem nmJ10 : ∀ a, a < 0 → ∀ b, b < 0 → a ≠ b → (TJ10 a).2.1 ≠ (TJ10 b).2.1 := by decide +kernel
theorem tyJ10_ok : ∀ k, k < 0 → parseFieldDescriptor (TJ10 k).2.2.1 = some (tyJ10 k) := by decide +kernel
def RJxfd54e : String := "java/lang/constant/Constable"
def TJxfd54e : u_T := fun k => match k with
  | _ => ("", "", "", false)
def tyJxfd54e : Nat → FieldType := fun k => match k with
  | _ => .int
abbrev wsJxfd54e0 : List Cond := u_ws RJxfd54e TJxfd54e 0
theorem nmJxfd54e : ∀ a, a < 0 → ∀ b, b < 0 → a ≠ b → (TJxfd54e a).2.1 ≠ (TJxfd54e b).2.1 := by decide +kernel
theorem tyJxfd54e_ok : ∀ k, k < 0 → parseFieldDescriptor (TJxfd54e k).2.2.1 = some (tyJxfd54e k) := by decide +kernel
def RJx3cf43 : String := "java/lang/constant/ConstantDesc"
def TJx3cf43 : u_T := fun k => match k with
  | _ => ("", "", "", false)
def tyJx3cf43 : Nat → FieldType := fun k => match k with
  | _ => .int
abbrev wsJx3cf430 : List Cond := u_ws RJx3cf43 TJx3cf43 0
theorem nmJx3cf43 : ∀ a, a < 0 → ∀ b, b < 0 → a ≠ b → (TJx3cf43 a).2.1 ≠ (TJx3cf43 b).2.1 := by decide +kernel
theorem tyJx3cf43_ok : ∀ k, k < 0 → parseFieldDescriptor (TJx3cf43 k).2.2.1 = some (tyJx3cf43 k) := by decide +kernel
def RJ3 : String := "jdk/internal/util/Preconditions"
def TJ3 : u_T := fun k => match k with
  | _ => ("", "", "", false)
def tyJ3 : Nat → FieldType := fun k => match k with
  | _ => .int
abbrev wsJ30 : List Cond := u_ws RJ3 TJ3 0
theorem nmJ3 : ∀ a, a < 0 → ∀ b, b < 0 → a ≠ b → (TJ3 a).2.1 ≠ (TJ3 b).2.1 := by decide +kernel
theorem tyJ3_ok : ∀ k, k < 0 → parseFieldDescriptor (TJ3 k).2.2.1 = some (tyJ3 k) := by decide +kernel
abbrev cJ3_checkIndex_8e157 : ByteArray := prog_34_method_11_code
def yJ3_checkIndex_8e157 : MethodName := ⟨RJ3, "checkIndex", "(IILjava/util/function/BiFunction;)I"⟩
def RL : String := "TripleTrainsLaw"
abbrev cL_count : ByteArray := method_3_code
def yL_count : MethodName := ⟨RL, "count", "(LTripleTrains;I[J)I"⟩
abbrev cL_triple : ByteArray := method_4_code
def yL_triple : MethodName := ⟨RL, "triple", "(LTripleTrains;II[J)I"⟩
abbrev cL_find : ByteArray := method_5_code
def yL_find : MethodName := ⟨RL, "find", "(LTripleTrains;III[J)I"⟩
abbrev cL_third : ByteArray := method_6_code
def yL_third : MethodName := ⟨RL, "third", "(LTripleTrains;II[J)I"⟩
abbrev cL_degree : ByteArray := method_7_code
def yL_degree : MethodName := ⟨RL, "degree", "(LTripleTrains;I[J)I"⟩
abbrev cL_uncovered : ByteArray := method_8_code
def yL_uncovered : MethodName := ⟨RL, "uncovered", "(LTripleTrains;I[J)I"⟩
abbrev cL_reason : ByteArray := method_9_code
def yL_reason : MethodName := ⟨RL, "reason", "(LTripleTrains;III[J)I"⟩
abbrev cL_add : ByteArray := method_10_code
def yL_add : MethodName := ⟨RL, "add", "(LTripleTrains;III[J)I"⟩
abbrev cL_remove : ByteArray := method_11_code
def yL_remove : MethodName := ⟨RL, "remove", "(LTripleTrains;I[J)I"⟩
abbrev cL_develop : ByteArray := method_12_code
def yL_develop : MethodName := ⟨RL, "develop", "(LTripleTrains;III[J)I"⟩
abbrev cL_quad : ByteArray := method_13_code
def yL_quad : MethodName := ⟨RL, "quad", "(LTripleTrains;II[J)I"⟩
abbrev cL_opposite : ByteArray := method_14_code
def yL_opposite : MethodName := ⟨RL, "opposite", "(LTripleTrains;II[J)I"⟩
abbrev cL_quadsAt : ByteArray := method_15_code
def yL_quadsAt : MethodName := ⟨RL, "quadsAt", "(LTripleTrains;I[J)I"⟩
abbrev cL_quadsOf : ByteArray := method_16_code
def yL_quadsOf : MethodName := ⟨RL, "quadsOf", "(LTripleTrains;I[J)I"⟩
abbrev cL_switchQuad : ByteArray := method_17_code
def yL_switchQuad : MethodName := ⟨RL, "switchQuad", "(LTripleTrains;I[J)I"⟩
abbrev cL_wouldHave : ByteArray := method_18_code
def yL_wouldHave : MethodName := ⟨RL, "wouldHave", "(LTripleTrains;I[J)I"⟩
abbrev cL_descend : ByteArray := method_19_code
def yL_descend : MethodName := ⟨RL, "descend", "(LTripleTrains;I[J)I"⟩
abbrev cL_cycles : ByteArray := method_20_code
def yL_cycles : MethodName := ⟨RL, "cycles", "(LTripleTrains;II[J)I"⟩
abbrev cL_cycleLength : ByteArray := method_21_code
def yL_cycleLength : MethodName := ⟨RL, "cycleLength", "(LTripleTrains;III[J)I"⟩
abbrev cL_cyclePoint : ByteArray := method_22_code
def yL_cyclePoint : MethodName := ⟨RL, "cyclePoint", "(LTripleTrains;IIII[J)I"⟩
abbrev cL_switchCycle : ByteArray := method_23_code
def yL_switchCycle : MethodName := ⟨RL, "switchCycle", "(LTripleTrains;III[J)I"⟩
abbrev cL_wouldHaveBy : ByteArray := method_24_code
def yL_wouldHaveBy : MethodName := ⟨RL, "wouldHaveBy", "(LTripleTrains;III[J)I"⟩
abbrev cL_trade : ByteArray := method_25_code
def yL_trade : MethodName := ⟨RL, "trade", "(LTripleTrains;II[J)I"⟩
abbrev cL_train : ByteArray := method_26_code
def yL_train : MethodName := ⟨RL, "train", "(LTripleTrains;III[J)I"⟩
abbrev cL_trainsTo : ByteArray := method_27_code
def yL_trainsTo : MethodName := ⟨RL, "trainsTo", "(LTripleTrains;III[J)I"⟩
abbrev cL_tail : ByteArray := method_28_code
def yL_tail : MethodName := ⟨RL, "tail", "(LTripleTrains;III[J)I"⟩
abbrev cL_roundOf : ByteArray := method_29_code
def yL_roundOf : MethodName := ⟨RL, "roundOf", "(LTripleTrains;III[J)I"⟩
abbrev cL_trainProfile : ByteArray := method_30_code
def yL_trainProfile : MethodName := ⟨RL, "trainProfile", "(LTripleTrains;I[J)I"⟩
abbrev cL_rounds : ByteArray := method_31_code
def yL_rounds : MethodName := ⟨RL, "rounds", "(LTripleTrains;[J)I"⟩
abbrev cL_closure : ByteArray := method_32_code
def yL_closure : MethodName := ⟨RL, "closure", "(LTripleTrains;I[J)I"⟩
abbrev cL_apart : ByteArray := method_33_code
def yL_apart : MethodName := ⟨RL, "apart", "(LTripleTrains;I[J)I"⟩
abbrev cL_swap : ByteArray := method_34_code
def yL_swap : MethodName := ⟨RL, "swap", "(LTripleTrains;II[J)I"⟩
abbrev cL_clear : ByteArray := method_35_code
def yL_clear : MethodName := ⟨RL, "clear", "(LTripleTrains;I[J)I"⟩
abbrev cL_inTheWay : ByteArray := method_36_code
def yL_inTheWay : MethodName := ⟨RL, "inTheWay", "(LTripleTrains;III[J)I"⟩
abbrev cL_force : ByteArray := method_37_code
def yL_force : MethodName := ⟨RL, "force", "(LTripleTrains;III[J)I"⟩
abbrev cL_printAt : ByteArray := method_38_code
def yL_printAt : MethodName := ⟨RL, "printAt", "(LTripleTrains;I[J)I"⟩
abbrev cL_restoreState : ByteArray := method_39_code
def yL_restoreState : MethodName := ⟨RL, "restoreState", "(LTripleTrains;[J)I"⟩
abbrev cL_law : ByteArray := code
def yL_law : MethodName := ⟨RL, "law", "([I)Z"⟩
abbrev vwCl : List vw_C := [(RX0, TX0, 6), (RX1, TX1, 6), (RX2, TX2, 4), (RX3, TX3, 4), (RX4, TX4, 3), (RX6, TX6, 8), (RX7, TX7, 4), (RX8, TX8, 3), (RX9, TX9, 2), (RX10, TX10, 4), (RX11, TX11, 12), (RX12, TX12, 33)]
end
section
/-! ===== the abstract machine (am_): a frame's locals, stack and a heap of numbered cells; what one instruction does ===== -/
abbrev amC : Type := Nat × List Value
abbrev amH : Type := List amC
abbrev amL : Type := List (Nat × Value)
/-- numbers from here on name constants, not cells -/
def amK : Nat := 1000000
/-- the script's number -/
def amS : Nat := 1999999
def amV (ad : Nat → Nat) : Value → Value
  | .ref i => .ref (ad i)
  | v => v
def amInt : Value → Int32
  | .int x => x
  | _ => 0
def amLong : Value → Int64
  | .long x => x
  | _ => 0
def amRef (ad : Nat → Nat) : Value → Option Nat
  | .ref i => some (ad i)
  | _ => none
def amTys (dA : Nat → ClassId) : List (ClassId × FieldType) := [(dA 0, .int), (dA 1, .long), (dA 2, .byte), (dA 3, .object "TripleTrains$Snapshot")]
/-- a cell as the kit's worlds have it: rows by their kinds from 32 on, objects by their classes' places -/
def amE (dA : Nat → ClassId) (ad : Nat → Nat) (c : amC) : va_E :=
  if c.1 = 32 then .inl (dA 0, c.2.length, .inl (fun j => amInt (c.2.getD j .null)))
  else if c.1 = 33 then .inl (dA 1, c.2.length, .inr (.inl (fun j => amLong (c.2.getD j .null))))
  else if c.1 = 34 then .inl (dA 2, c.2.length, .inl (fun j => amInt (c.2.getD j .null)))
  else if c.1 = 35 then .inl (dA 3, c.2.length, .inr (.inr (.inr (.inr (fun j => amRef ad (c.2.getD j .null))))))
  else .inr (c.1, c.2.map (amV ad))
def amW (dA : Nat → ClassId) (ad : Nat → Nat) (hp : amH) : va_W := hp.mapIdx (fun i c => (ad i, amE dA ad c))
def amLs (ad : Nat → Nat) (ls : amL) : List (Nat × Value) := ls.map (fun q => (q.1, amV ad q.2))
theorem amW_get {dA : Nat → ClassId} {ad : Nat → Nat} {hp : amH} {i : Nat} {c : amC} (h : hp[i]? = some c) : (amW dA ad hp)[i]? = some (ad i, amE dA ad c) := by
  simp [amW, h]
theorem amW_set {dA : Nat → ClassId} {ad : Nat → Nat} {hp : amH} {i : Nat} {c : amC} : (amW dA ad hp).set i (ad i, amE dA ad c) = amW dA ad (hp.set i c) := by
  apply List.ext_getElem?
  intro j
  simp only [amW, List.getElem?_set, List.getElem?_mapIdx, List.length_mapIdx]
  by_cases h : i = j
  · subst h
    by_cases h2 : i < hp.length
    · simp [h2]
    · simp [h2]
  · simp [h]
theorem amW_push {dA : Nat → ClassId} {ad : Nat → Nat} {hp : amH} {c : amC} : amW dA ad (hp ++ [c]) = amW dA ad hp ++ [(ad hp.length, amE dA ad c)] := by
  simp [amW, List.mapIdx_append]
theorem amV_cat (ad : Nat → Nat) (v : Value) : (amV ad v).category = v.category := by cases v <;> rfl
theorem amLs_mem {ad : Nat → Nat} {ls : amL} {i : Nat} {v : Value} (h : (i, v) ∈ ls) : (i, amV ad v) ∈ amLs ad ls := List.mem_map.mpr ⟨(i, v), h, rfl⟩
def amGet : amL → Nat → Option Value
  | [], _ => none
  | q :: r, i => if q.1 = i then some q.2 else amGet r i
theorem amGet_mem {ls : amL} {i : Nat} {v : Value} (h : amGet ls i = some v) : (i, v) ∈ ls := by
  induction ls with
  | nil => cases h
  | cons q r ih =>
    unfold amGet at h
    split at h
    · next e => cases h; subst e; exact List.mem_cons_self
    · exact List.mem_cons_of_mem _ (ih h)
theorem amGet_has {ad : Nat → Nat} {ls : amL} {i nL : Nat} {v : Value} {lsA : Array Slot} (hl : lv_has lsA nL (amLs ad ls)) (h : amGet ls i = some v) : lsA[i]? = some (.val (amV ad v)) := hl.2.2 _ (amLs_mem (amGet_mem h))
def amSet1 (ls : amL) (i : Nat) (v : Value) : amL := (i, v) :: ls.filter (fun q => !(q.1 == i) && !(q.1 + 1 == i && q.2.category == 2))
def amSet2 (ls : amL) (i : Nat) (v : Value) : amL := (i, v) :: ls.filter (fun q => !(q.1 == i) && (!(q.1 == i + 1) && !(q.1 + 1 == i && q.2.category == 2)))
theorem amSet1_ls (ad : Nat → Nat) (ls : amL) (i : Nat) (v : Value) : (i, amV ad v) :: (amLs ad ls).filter (fun q => !(q.1 == i) && !(q.1 + 1 == i && q.2.category == 2)) = amLs ad (amSet1 ls i v) := by
  simp [amLs, amSet1, List.filter_map, Function.comp_def, amV_cat]
theorem amSet2_ls (ad : Nat → Nat) (ls : amL) (i : Nat) (v : Value) : (i, amV ad v) :: (amLs ad ls).filter (fun q => !(q.1 == i) && (!(q.1 == i + 1) && !(q.1 + 1 == i && q.2.category == 2))) = amLs ad (amSet2 ls i v) := by
  simp [amLs, amSet2, List.filter_map, Function.comp_def, amV_cat]
theorem amV_narrow {ad : Nat → Nat} {ty : FieldType} {v : Value} (h : narrow ty v = v) : narrow ty (amV ad v) = amV ad v := by
  cases v <;> first | exact h | (cases ty <;> rfl)
theorem amV_fits {ad : Nat → Nat} {ty : FieldType} {v : Value} (h : fits ty v = true) : fits ty (amV ad v) = true := by
  cases v <;> first | exact h | (cases ty <;> first | exact h | rfl)
/-! what one instruction does to the stack -/
def amII (f : Int32 → Int32 → Int32) : List Value → Option (List Value)
  | .int y :: .int x :: r => some (.int (f x y) :: r)
  | _ => none
def amI (f : Int32 → Value) : List Value → Option (List Value)
  | .int x :: r => some (f x :: r)
  | _ => none
def amLL (f : Int64 → Int64 → Value) : List Value → Option (List Value)
  | .long y :: .long x :: r => some (f x y :: r)
  | _ => none
def amJ (f : Int64 → Value) : List Value → Option (List Value)
  | .long x :: r => some (f x :: r)
  | _ => none
def amLI (f : Int64 → Int32 → Int64) : List Value → Option (List Value)
  | .int y :: .long x :: r => some (.long (f x y) :: r)
  | _ => none
def amDiv (f : Int32 → Int32 → Int32) : List Value → Option (List Value)
  | .int y :: .int x :: r => if y = 0 then none else some (.int (f x y) :: r)
  | _ => none
def amIf (p : Int32 → Bool) (t e : Nat) : List Value → Option (Nat × List Value)
  | .int x :: r => some (if p x then t else e, r)
  | _ => none
def amCmp (p : Int32 → Int32 → Bool) (t e : Nat) : List Value → Option (Nat × List Value)
  | .int y :: .int x :: r => some (if p x y then t else e, r)
  | _ => none
theorem amII_s {f : Int32 → Int32 → Int32} {st r : List Value} (h : amII f st = some r) : ∃ x y q, st = .int y :: .int x :: q ∧ r = .int (f x y) :: q := by
  unfold amII at h
  split at h
  · cases h; exact ⟨_, _, _, rfl, rfl⟩
  · cases h
theorem amI_s {f : Int32 → Value} {st r : List Value} (h : amI f st = some r) : ∃ x q, st = .int x :: q ∧ r = f x :: q := by
  unfold amI at h
  split at h
  · cases h; exact ⟨_, _, rfl, rfl⟩
  · cases h
theorem amLL_s {f : Int64 → Int64 → Value} {st r : List Value} (h : amLL f st = some r) : ∃ x y q, st = .long y :: .long x :: q ∧ r = f x y :: q := by
  unfold amLL at h
  split at h
  · cases h; exact ⟨_, _, _, rfl, rfl⟩
  · cases h
theorem amJ_s {f : Int64 → Value} {st r : List Value} (h : amJ f st = some r) : ∃ x q, st = .long x :: q ∧ r = f x :: q := by
  unfold amJ at h
  split at h
  · cases h; exact ⟨_, _, rfl, rfl⟩
  · cases h
theorem amLI_s {f : Int64 → Int32 → Int64} {st r : List Value} (h : amLI f st = some r) : ∃ x y q, st = .int y :: .long x :: q ∧ r = .long (f x y) :: q := by
  unfold amLI at h
  split at h
  · cases h; exact ⟨_, _, _, rfl, rfl⟩
  · cases h
theorem amDiv_s {f : Int32 → Int32 → Int32} {st r : List Value} (h : amDiv f st = some r) : ∃ x y q, st = .int y :: .int x :: q ∧ ¬ y = 0 ∧ r = .int (f x y) :: q := by
  unfold amDiv at h
  split at h
  · split at h
    · cases h
    · next hn => cases h; exact ⟨_, _, _, rfl, hn, rfl⟩
  · cases h
theorem amIf_s {p : Int32 → Bool} {t e : Nat} {st : List Value} {r : Nat × List Value} (h : amIf p t e st = some r) : ∃ x q, st = .int x :: q ∧ r = (if p x then t else e, q) := by
  unfold amIf at h
  split at h
  · cases h; exact ⟨_, _, rfl, rfl⟩
  · cases h
theorem amCmp_s {p : Int32 → Int32 → Bool} {t e : Nat} {st : List Value} {r : Nat × List Value} (h : amCmp p t e st = some r) : ∃ x y q, st = .int y :: .int x :: q ∧ r = (if p x y then t else e, q) := by
  unfold amCmp at h
  split at h
  · cases h; exact ⟨_, _, _, rfl, rfl⟩
  · cases h
def amIfP : Jvm.ClassFile.Cond → Int32 → Bool
  | .eq, x => decide (x = 0)
  | .ne, x => decide (¬ x = 0)
  | .lt, x => decide (x < 0)
  | .ge, x => decide (0 ≤ x)
  | .gt, x => decide (0 < x)
  | .le, x => decide (x ≤ 0)
def amCmpP : Jvm.ClassFile.Cond → Int32 → Int32 → Bool
  | .eq, x, y => decide (x = y)
  | .ne, x, y => decide (¬ x = y)
  | .lt, x, y => decide (x < y)
  | .ge, x, y => decide (y ≤ x)
  | .gt, x, y => decide (y < x)
  | .le, x, y => decide (x ≤ y)
/-! what one instruction does to locals and cells -/
def amIn (i : Int32) (n : Nat) : Bool := decide (¬ (i < 0 ∨ n ≤ i.toNatClampNeg))
theorem amIn_s {i : Int32} {n : Nat} (h : amIn i n = true) : vp_in i n := of_decide_eq_true (p := ¬ (i < 0 ∨ n ≤ i.toNatClampNeg)) h
def amLd (p : Value → Bool) (ls : amL) (k : Nat) (st : List Value) : Option (List Value) := match amGet ls k with
  | some v => if p v then some (v :: st) else none
  | none => none
def amIsI : Value → Bool
  | .int _ => true
  | _ => false
def amIsJ : Value → Bool
  | .long _ => true
  | _ => false
def amIsD : Value → Bool
  | .double _ => true
  | _ => false
def amIsF : Value → Bool
  | .float _ => true
  | _ => false
def amIsA : Value → Bool
  | .ref _ => true
  | .null => true
  | _ => false
def amSt1 (p : Value → Bool) (nL : Nat) (ls : amL) (k : Nat) : List Value → Option (amL × List Value)
  | v :: r => if p v && decide (k < nL) then some (amSet1 ls k v, r) else none
  | [] => none
def amSt2 (p : Value → Bool) (nL : Nat) (ls : amL) (k : Nat) : List Value → Option (amL × List Value)
  | v :: r => if p v && decide (k + 1 < nL) then some (amSet2 ls k v, r) else none
  | [] => none
theorem amLd_s {p : Value → Bool} {ls : amL} {k : Nat} {st r : List Value} (h : amLd p ls k st = some r) : ∃ v, amGet ls k = some v ∧ p v = true ∧ r = v :: st := by
  unfold amLd at h
  split at h
  · next v e =>
    split at h
    · next e2 => cases h; exact ⟨v, e, e2, rfl⟩
    · cases h
  · cases h
theorem amSt1_s {p : Value → Bool} {nL : Nat} {ls : amL} {k : Nat} {st : List Value} {r : amL × List Value} (h : amSt1 p nL ls k st = some r) : ∃ v q, st = v :: q ∧ p v = true ∧ k < nL ∧ r = (amSet1 ls k v, q) := by
  unfold amSt1 at h
  split at h
  · next v q =>
    split at h
    · next e2 =>
      simp only [Bool.and_eq_true, decide_eq_true_eq] at e2
      cases h; exact ⟨v, q, rfl, e2.1, e2.2, rfl⟩
    · cases h
  · cases h
theorem amSt2_s {p : Value → Bool} {nL : Nat} {ls : amL} {k : Nat} {st : List Value} {r : amL × List Value} (h : amSt2 p nL ls k st = some r) : ∃ v q, st = v :: q ∧ p v = true ∧ k + 1 < nL ∧ r = (amSet2 ls k v, q) := by
  unfold amSt2 at h
  split at h
  · next v q =>
    split at h
    · next e2 =>
      simp only [Bool.and_eq_true, decide_eq_true_eq] at e2
      cases h; exact ⟨v, q, rfl, e2.1, e2.2, rfl⟩
    · cases h
  · cases h
theorem amIsI_s {v : Value} (h : amIsI v = true) : ∃ x, v = .int x := by cases v <;> first | exact ⟨_, rfl⟩ | cases h
theorem amIsJ_s {v : Value} (h : amIsJ v = true) : ∃ x, v = .long x := by cases v <;> first | exact ⟨_, rfl⟩ | cases h
theorem amIsD_s {v : Value} (h : amIsD v = true) : ∃ x, v = .double x := by cases v <;> first | exact ⟨_, rfl⟩ | cases h
theorem amIsF_s {v : Value} (h : amIsF v = true) : ∃ x, v = .float x := by cases v <;> first | exact ⟨_, rfl⟩ | cases h
theorem amIsA_s {v : Value} (h : amIsA v = true) : v = .null ∨ ∃ x, v = .ref x := by cases v <;> first | exact Or.inr ⟨_, rfl⟩ | exact Or.inl rfl | cases h
def amInc (nL : Nat) (ls : amL) (k : Nat) (n : Int) : Option amL := match amGet ls k with
  | some (.int x) => if k < nL then some (amSet1 ls k (.int (x + Int32.ofInt n))) else none
  | _ => none
theorem amInc_s {nL : Nat} {ls r : amL} {k : Nat} {n : Int} (h : amInc nL ls k n = some r) : ∃ x, amGet ls k = some (.int x) ∧ k < nL ∧ r = amSet1 ls k (.int (x + Int32.ofInt n)) := by
  unfold amInc at h
  split at h
  · next x e =>
    split at h
    · next e2 => cases h; exact ⟨x, e, e2, rfl⟩
    · cases h
  · cases h
/-- a row read: of the kind t -/
def amALd (t : Nat) (p : Value → Bool) (hp : amH) : List Value → Option (List Value)
  | .int i :: .ref a :: r => match hp[a]? with
    | some c => if c.1 = t ∧ amIn i c.2.length = true ∧ p (c.2.getD i.toNatClampNeg .null) = true then some (c.2.getD i.toNatClampNeg .null :: r) else none
    | none => none
  | _ => none
theorem amALd_s {t : Nat} {p : Value → Bool} {hp : amH} {st r : List Value} (h : amALd t p hp st = some r) : ∃ i a q c, st = .int i :: .ref a :: q ∧ hp[a]? = some (t, c) ∧ vp_in i c.length ∧ p (c.getD i.toNatClampNeg .null) = true ∧ r = c.getD i.toNatClampNeg .null :: q := by
  unfold amALd at h
  split at h
  · next i a q =>
    split at h
    · next c e =>
      split at h
      · next e2 =>
        obtain ⟨t', c⟩ := c
        obtain ⟨e3, e4, e5⟩ := e2
        dsimp only at e3
        subst e3
        cases h; exact ⟨i, a, q, c, rfl, e, amIn_s e4, e5, rfl⟩
      · cases h
    · cases h
  · cases h
/-- a row written -/
def amASt (t : Nat) (p : Value → Bool) (g : Value → Value) (hp : amH) : List Value → Option (List Value × amH)
  | v :: .int i :: .ref a :: r => match hp[a]? with
    | some c => if c.1 = t ∧ amIn i c.2.length = true ∧ p v = true then some (r, hp.set a (t, c.2.set i.toNatClampNeg (g v))) else none
    | none => none
  | _ => none
theorem amASt_s {t : Nat} {p : Value → Bool} {g : Value → Value} {hp : amH} {st : List Value} {r : List Value × amH} (h : amASt t p g hp st = some r) : ∃ v i a q c, st = v :: .int i :: .ref a :: q ∧ hp[a]? = some (t, c) ∧ vp_in i c.length ∧ p v = true ∧ r = (q, hp.set a (t, c.set i.toNatClampNeg (g v))) := by
  unfold amASt at h
  split at h
  · next v i a q =>
    split at h
    · next c e =>
      split at h
      · next e2 =>
        obtain ⟨t', c⟩ := c
        obtain ⟨e3, e4, e5⟩ := e2
        dsimp only at e3
        subst e3
        cases h; exact ⟨v, i, a, q, c, rfl, e, amIn_s e4, e5, rfl⟩
      · cases h
    · cases h
  · cases h
def amNarB : Value → Value
  | .int x => .int (vp_nar .byte x)
  | v => v
/-- an object's field read -/
def amFGet (ci k : Nat) (hp : amH) : List Value → Option (List Value)
  | .ref a :: r => match hp[a]? with
    | some c => if c.1 = ci ∧ ci < 32 then (match c.2[k]? with
      | some v => some (v :: r)
      | none => none) else none
    | none => none
  | _ => none
theorem amFGet_s {ci k : Nat} {hp : amH} {st r : List Value} (h : amFGet ci k hp st = some r) : ∃ a q c v, st = .ref a :: q ∧ hp[a]? = some (ci, c) ∧ ci < 32 ∧ c[k]? = some v ∧ r = v :: q := by
  unfold amFGet at h
  split at h
  · next a q =>
    split at h
    · next c e =>
      split at h
      · next e2 =>
        obtain ⟨t', c⟩ := c
        obtain ⟨e3, e4⟩ := e2
        dsimp only at e3
        subst e3
        split at h
        · next v e5 => cases h; exact ⟨a, q, c, v, rfl, e, e4, e5, rfl⟩
        · cases h
      · cases h
    · cases h
  · cases h
/-- an object's field written: its type is ty -/
def amFSet (ci k : Nat) (ty : FieldType) (hp : amH) : List Value → Option (List Value × amH)
  | v :: .ref a :: r => match hp[a]? with
    | some c => if c.1 = ci ∧ ci < 32 ∧ k < c.2.length ∧ narrow ty v = v ∧ fits ty v = true then some (r, hp.set a (ci, c.2.set k v)) else none
    | none => none
  | _ => none
theorem amFSet_s {ci k : Nat} {ty : FieldType} {hp : amH} {st : List Value} {r : List Value × amH} (h : amFSet ci k ty hp st = some r) : ∃ v a q c, st = v :: .ref a :: q ∧ hp[a]? = some (ci, c) ∧ ci < 32 ∧ k < c.length ∧ narrow ty v = v ∧ fits ty v = true ∧ r = (q, hp.set a (ci, c.set k v)) := by
  unfold amFSet at h
  split at h
  · next v a q =>
    split at h
    · next c e =>
      split at h
      · next e2 =>
        obtain ⟨t', c⟩ := c
        obtain ⟨e3, e4, e5, e6, e7⟩ := e2
        dsimp only at e3
        subst e3
        cases h; exact ⟨v, a, q, c, rfl, e, e4, e5, e6, e7, rfl⟩
      · cases h
    · cases h
  · cases h
def amLen (hp : amH) : List Value → Option (List Value)
  | .ref a :: r => match hp[a]? with
    | some c => if 32 ≤ c.1 ∧ c.1 ≤ 35 then some (.int (Int32.ofNat c.2.length) :: r) else none
    | none => none
  | _ => none
theorem amLen_s {hp : amH} {st r : List Value} (h : amLen hp st = some r) : ∃ a q t c, st = .ref a :: q ∧ hp[a]? = some (t, c) ∧ 32 ≤ t ∧ t ≤ 35 ∧ r = .int (Int32.ofNat c.length) :: q := by
  unfold amLen at h
  split at h
  · next a q =>
    split at h
    · next c e =>
      split at h
      · next e2 => cases h; exact ⟨a, q, c.1, c.2, rfl, e, e2.1, e2.2, rfl⟩
      · cases h
    · cases h
  · cases h
/-- the script read -/
def amSc (sc : Option (List Int32)) : List Value → Option (List Value)
  | .int i :: .ref a :: r => match sc with
    | some l => if a = amS ∧ amIn i l.length = true then some (.int (l.getD i.toNatClampNeg 0) :: r) else none
    | none => none
  | _ => none
theorem amSc_s {sc : Option (List Int32)} {st r : List Value} (h : amSc sc st = some r) : ∃ i q l, sc = some l ∧ st = .int i :: .ref amS :: q ∧ vp_in i l.length ∧ r = .int (l.getD i.toNatClampNeg 0) :: q := by
  unfold amSc at h
  split at h
  · next i a q =>
    split at h
    · next l =>
      split at h
      · next e =>
        obtain ⟨e1, e2⟩ := e
        subst e1
        cases h; exact ⟨i, q, l, rfl, rfl, amIn_s e2, rfl⟩
      · cases h
    · cases h
  · cases h
def amScLen (sc : Option (List Int32)) : List Value → Option (List Value)
  | .ref a :: r => match sc with
    | some l => if a = amS then some (.int (Int32.ofNat l.length) :: r) else none
    | none => none
  | _ => none
theorem amScLen_s {sc : Option (List Int32)} {st r : List Value} (h : amScLen sc st = some r) : ∃ q l, sc = some l ∧ st = .ref amS :: q ∧ r = .int (Int32.ofNat l.length) :: q := by
  unfold amScLen at h
  split at h
  · next a q =>
    split at h
    · next l =>
      split at h
      · next e =>
        subst e
        cases h; exact ⟨q, l, rfl, rfl, rfl⟩
      · cases h
    · cases h
  · cases h
/-- the types of the fields, by class and place -/
def amFty (ci k : Nat) : FieldType := match vwCl[ci]? with
  | some r => (parseFieldDescriptor (r.2.1 k).2.2.1).getD .int
  | none => .int
def amOff (x dflt lo hi : Int) (offs : Array Int) : Option Int := if x < lo ∨ hi < x then some dflt else offs[(x - lo).toNat]?
def amTbl (pc : Nat) (dflt lo hi : Int) (offs : Array Int) : List Value → Option (Nat × List Value)
  | .int x :: r => match amOff x.toInt dflt lo hi offs with
    | some o => if 0 ≤ (pc : Int) + o then some (((pc : Int) + o).toNat, r) else none
    | none => none
  | _ => none
def amIsSn (hp : amH) : Value → Bool
  | .ref k => (match hp[k]? with
    | some c => decide (c.1 = 6)
    | none => false)
  | _ => false
abbrev amR : Type := Nat × amL × List Value × amH
/-- one instruction that neither calls nor makes nor ends; a, b: what it is linked to; nL: how many locals -/
def amStep (sc : Option (List Int32)) (nL : Nat) (i : Instr) (a b : Nat) (pc : Nat) (ls : amL) (st : List Value) (hp : amH) : Option amR :=
  match i with
  | .iconst n => some (pc + 1, ls, .int (Int32.ofInt n) :: st, hp)
  | .bipush n => some (pc + 2, ls, .int (Int8.ofInt n).toInt32 :: st, hp)
  | .sipush n => some (pc + 3, ls, .int (Int16.ofInt n).toInt32 :: st, hp)
  | .lconst n => some (pc + 1, ls, .long (Int64.ofNat (n : Nat)) :: st, hp)
  | .fconst n => if n = 0 then some (pc + 1, ls, .float FP.fconst0 :: st, hp) else none
  | .dconst n => if n = 0 then some (pc + 1, ls, .double FP.dconst0 :: st, hp) else none
  | .ldc _ => if b = 0 then some (pc + 2, ls, .int (Int32.ofNat a) :: st, hp) else some (pc + 2, ls, .ref (amK + a) :: st, hp)
  | .ldc_w _ => if b = 0 then some (pc + 3, ls, .int (Int32.ofNat a) :: st, hp) else none
  | .ldc2_w _ => some (pc + 3, ls, .long (Int64.ofNat a) :: st, hp)
  | .iload k => (amLd amIsI ls k st).map (fun s => (pc + 2, ls, s, hp))
  | .iload_n k => (amLd amIsI ls k st).map (fun s => (pc + 1, ls, s, hp))
  | .lload k => (amLd amIsJ ls k st).map (fun s => (pc + 2, ls, s, hp))
  | .lload_n k => (amLd amIsJ ls k st).map (fun s => (pc + 1, ls, s, hp))
  | .dload k => (amLd amIsD ls k st).map (fun s => (pc + 2, ls, s, hp))
  | .dload_n k => (amLd amIsD ls k st).map (fun s => (pc + 1, ls, s, hp))
  | .aload k => (amLd amIsA ls k st).map (fun s => (pc + 2, ls, s, hp))
  | .aload_n k => (amLd amIsA ls k st).map (fun s => (pc + 1, ls, s, hp))
  | .istore k => (amSt1 amIsI nL ls k st).map (fun q => (pc + 2, q.1, q.2, hp))
  | .istore_n k => (amSt1 amIsI nL ls k st).map (fun q => (pc + 1, q.1, q.2, hp))
  | .lstore k => (amSt2 amIsJ nL ls k st).map (fun q => (pc + 2, q.1, q.2, hp))
  | .lstore_n k => (amSt2 amIsJ nL ls k st).map (fun q => (pc + 1, q.1, q.2, hp))
  | .dstore k => (amSt2 amIsD nL ls k st).map (fun q => (pc + 2, q.1, q.2, hp))
  | .astore k => (amSt1 amIsA nL ls k st).map (fun q => (pc + 2, q.1, q.2, hp))
  | .astore_n k => (amSt1 amIsA nL ls k st).map (fun q => (pc + 1, q.1, q.2, hp))
  | .iinc k n => (amInc nL ls k n).map (fun q => (pc + 3, q, st, hp))
  | .dup => match st with
    | v :: r => if v.category = 1 then some (pc + 1, ls, v :: v :: r, hp) else none
    | [] => none
  | .dup2 => match st with
    | v :: w :: r => if v.category = 1 ∧ w.category = 1 then some (pc + 1, ls, v :: w :: v :: w :: r, hp) else none
    | _ => none
  | .pop => match st with
    | v :: r => if v.category = 1 then some (pc + 1, ls, r, hp) else none
    | [] => none
  | .iadd => (amII (fun x y => x + y) st).map (fun s => (pc + 1, ls, s, hp))
  | .isub => (amII (fun x y => x - y) st).map (fun s => (pc + 1, ls, s, hp))
  | .imul => (amII (fun x y => x * y) st).map (fun s => (pc + 1, ls, s, hp))
  | .iand => (amII (fun x y => x &&& y) st).map (fun s => (pc + 1, ls, s, hp))
  | .ior => (amII (fun x y => x ||| y) st).map (fun s => (pc + 1, ls, s, hp))
  | .ixor => (amII (fun x y => x ^^^ y) st).map (fun s => (pc + 1, ls, s, hp))
  | .ishl => (amII (fun x y => x <<< (y &&& 31)) st).map (fun s => (pc + 1, ls, s, hp))
  | .ishr => (amII (fun x y => x >>> (y &&& 31)) st).map (fun s => (pc + 1, ls, s, hp))
  | .iushr => (amII (fun x y => (x.toUInt32 >>> (y.toUInt32 &&& Int32.toUInt32 31)).toInt32) st).map (fun s => (pc + 1, ls, s, hp))
  | .idiv => (amDiv (fun x y => x / y) st).map (fun s => (pc + 1, ls, s, hp))
  | .irem => (amDiv (fun x y => x - x / y * y) st).map (fun s => (pc + 1, ls, s, hp))
  | .ineg => (amI (fun x => .int (-x)) st).map (fun s => (pc + 1, ls, s, hp))
  | .i2b => (amI (fun x => .int x.toInt8.toInt32) st).map (fun s => (pc + 1, ls, s, hp))
  | .i2l => (amI (fun x => .long x.toInt64) st).map (fun s => (pc + 1, ls, s, hp))
  | .i2f => (amI (fun x => .float (FP.i2f x)) st).map (fun s => (pc + 1, ls, s, hp))
  | .i2d => (amI (fun x => .double (FP.i2d x)) st).map (fun s => (pc + 1, ls, s, hp))
  | .l2i => (amJ (fun x => .int x.toInt32) st).map (fun s => (pc + 1, ls, s, hp))
  | .lneg => (amJ (fun x => .long (-x)) st).map (fun s => (pc + 1, ls, s, hp))
  | .ladd => (amLL (fun x y => .long (x + y)) st).map (fun s => (pc + 1, ls, s, hp))
  | .lsub => (amLL (fun x y => .long (x - y)) st).map (fun s => (pc + 1, ls, s, hp))
  | .land => (amLL (fun x y => .long (x &&& y)) st).map (fun s => (pc + 1, ls, s, hp))
  | .lor => (amLL (fun x y => .long (x ||| y)) st).map (fun s => (pc + 1, ls, s, hp))
  | .lcmp => (amLL (fun x y => .int (lg_cmp x y)) st).map (fun s => (pc + 1, ls, s, hp))
  | .lshl => (amLI (fun x y => x <<< (y.toInt64 &&& 63)) st).map (fun s => (pc + 1, ls, s, hp))
  | .lshr => (amLI (fun x y => x >>> (y.toInt64 &&& 63)) st).map (fun s => (pc + 1, ls, s, hp))
  | .lushr => (amLI (fun x y => (x.toUInt64 >>> (y.toInt64.toUInt64 &&& Int64.toUInt64 63)).toInt64) st).map (fun s => (pc + 1, ls, s, hp))
  | .fdiv => match st with
    | .float y :: .float x :: r => if FP.fdiv x y &&& 0x7fffffff ≤ 0x7f800000 then some (pc + 1, ls, .float (FP.fdiv x y) :: r, hp) else none
    | _ => none
  | .ddiv => match st with
    | .double y :: .double x :: r => if FP.ddiv x y &&& 0x7fffffffffffffff ≤ 0x7ff0000000000000 then some (pc + 1, ls, .double (FP.ddiv x y) :: r, hp) else none
    | _ => none
  | .f2d => match st with
    | .float x :: r => if FP.f2d x &&& 0x7fffffffffffffff ≤ 0x7ff0000000000000 then some (pc + 1, ls, .double (FP.f2d x) :: r, hp) else none
    | _ => none
  | .dcmp op => match st with
    | .double y :: .double x :: r => some (pc + 1, ls, .int (Op.cmpValue (FP.dcmp x y) op) :: r, hp)
    | _ => none
  | .goto _ => some (a, ls, st, hp)
  | .ifCond c _ => (amIf (amIfP c) a (pc + 3) st).map (fun q => (q.1, ls, q.2, hp))
  | .if_icmp c _ => (amCmp (amCmpP c) a (pc + 3) st).map (fun q => (q.1, ls, q.2, hp))
  | .ifnull _ => match st with
    | .ref _ :: r => some (pc + 3, ls, r, hp)
    | .null :: r => some (a, ls, r, hp)
    | _ => none
  | .ifnonnull _ => match st with
    | .ref _ :: r => some (a, ls, r, hp)
    | .null :: r => some (pc + 3, ls, r, hp)
    | _ => none
  | .tableswitch d lo hi offs => (amTbl pc d lo hi offs st).map (fun q => (q.1, ls, q.2, hp))
  | .getfield _ => (amFGet a b hp st).map (fun s => (pc + 3, ls, s, hp))
  | .putfield _ => (amFSet a b (amFty a b) hp st).map (fun q => (pc + 3, ls, q.1, q.2))
  | .iaload => match amSc sc st with
    | some s => some (pc + 1, ls, s, hp)
    | none => (amALd 32 amIsI hp st).map (fun s => (pc + 1, ls, s, hp))
  | .laload => (amALd 33 amIsJ hp st).map (fun s => (pc + 1, ls, s, hp))
  | .baload => (amALd 34 amIsI hp st).map (fun s => (pc + 1, ls, s, hp))
  | .aaload => (amALd 35 amIsA hp st).map (fun s => (pc + 1, ls, s, hp))
  | .iastore => (amASt 32 amIsI id hp st).map (fun q => (pc + 1, ls, q.1, q.2))
  | .lastore => (amASt 33 amIsJ id hp st).map (fun q => (pc + 1, ls, q.1, q.2))
  | .bastore => (amASt 34 amIsI amNarB hp st).map (fun q => (pc + 1, ls, q.1, q.2))
  | .aastore => (amASt 35 (amIsSn hp) id hp st).map (fun q => (pc + 1, ls, q.1, q.2))
  | .arraylength => match amScLen sc st with
    | some s => some (pc + 1, ls, s, hp)
    | none => (amLen hp st).map (fun s => (pc + 1, ls, s, hp))
  | _ => none
end
section
/-! ===== the abstract machine's steps are the machine's ===== -/
/-- the text constants: class, place, text -/
def amStr : List (String × Nat × String) := [("TripleTrains$SetupText", 41, "points"), ("TripleTrains$SetupText", 60, "develop"), ("TripleTrains$SetupText", 62, "triple"), ("TripleTrains", 143, "no such number"), ("TripleTrains", 424, "no such triple"), ("TripleTrains", 151, "no such index"), ("TripleTrains", 420, "no such point"), ("TripleTrains", 422, "the same point twice"), ("TripleTrains", 189, "a negative index"), ("TripleTrains", 204, "a pair is covered"), ("TripleTrains", 219, "a pair would be covered twice"), ("TripleTrains", 426, "no such quadrilateral"), ("TripleTrains", 264, "not 1 to 20 times"), ("TripleTrains", 428, "no such cycle"), ("TripleTrains", 302, "no such trade"), ("TripleTrains", 430, "the system is not complete"), ("TripleTrains", 370, "other bits than those of points"), ("TripleTrains", 396, "the triple is in the system"), ("TripleTrains", 415, "no state is saved"), ("TripleTrainsModel", 245, "points"), ("TripleTrainsModel", 250, "triple"), ("TripleTrainsModel", 256, "develop")]
/-- an instruction's length; 0: any -/
def amSz : Instr → Nat
  | .bipush _ => 2
  | .sipush _ => 3
  | .ldc _ => 2
  | .ldc_w _ => 3
  | .ldc2_w _ => 3
  | .iload _ => 2
  | .lload _ => 2
  | .dload _ => 2
  | .aload _ => 2
  | .istore _ => 2
  | .lstore _ => 2
  | .dstore _ => 2
  | .astore _ => 2
  | .iinc _ _ => 3
  | .goto _ => 3
  | .ifCond _ _ => 3
  | .if_icmp _ _ => 3
  | .ifnull _ => 3
  | .ifnonnull _ => 3
  | .tableswitch _ _ _ _ => 0
  | .getfield _ => 3
  | .putfield _ => 3
  | .new _ => 3
  | .newarray _ => 2
  | .anewarray _ => 3
  | .invokevirtual _ => 3
  | .invokestatic _ => 3
  | .invokespecial _ => 3
  | _ => 1
/-- what an instruction is linked to, by the words -/
def amLk (Ts : List Jvm.Cond) (own : String) (ini : Bool) (pc : Nat) (i : Instr) (a b : Nat) : Prop :=
  match i with
  | .ldc k => (b = 0 → Jvm.Cond.constant own k (Int32.ofNat a) ∈ Ts) ∧ (b ≠ 0 → ∃ tx, amStr[a]? = some (own, k, tx))
  | .ldc_w k => b = 0 → Jvm.Cond.constant own k (Int32.ofNat a) ∈ Ts
  | .ldc2_w k => Jvm.Cond.constantLong own k (Int64.ofNat a) ∈ Ts
  | .goto o => (pc : Int) + o = (a : Int)
  | .ifCond _ o => (pc : Int) + o = (a : Int)
  | .if_icmp _ o => (pc : Int) + o = (a : Int)
  | .ifnull o => (pc : Int) + o = (a : Int)
  | .ifnonnull o => (pc : Int) + o = (a : Int)
  | .getfield k => ∃ r, vwCl[a]? = some r ∧ b < r.2.2 ∧ Jvm.Cond.fieldLink own k (r.2.1 b).1 (r.2.1 b).2.1 (r.2.1 b).2.2.1 ∈ Ts
  | .putfield k => ∃ r, vwCl[a]? = some r ∧ b < r.2.2 ∧ Jvm.Cond.fieldLink own k (r.2.1 b).1 (r.2.1 b).2.1 (r.2.1 b).2.2.1 ∈ Ts ∧ ((r.2.1 b).2.2.2 = true → ini = true ∧ (r.2.1 b).1 = own)
  | _ => True
theorem amE_obj {dA : Nat → ClassId} {ad : Nat → Nat} {ci : Nat} {fs : List Value} (h : ci < 32) : amE dA ad (ci, fs) = .inr (ci, fs.map (amV ad)) := by
  unfold amE
  dsimp only
  rw [if_neg (by omega), if_neg (by omega), if_neg (by omega), if_neg (by omega)]
theorem amIn_lt {i : Int32} {n : Nat} (h : vp_in i n) : i.toNatClampNeg < n := Nat.not_le.mp fun q => h (Or.inr q)
theorem am_set_i {c : List Value} {k : Nat} {v : Value} {x : Int32} (hk : k < c.length) (hv : amInt v = x) : (fun j => amInt ((c.set k v).getD j .null)) = upd (fun j => amInt (c.getD j .null)) k x := by
  funext j
  by_cases hj : j = k
  · subst hj
    simp [upd, hk, hv]
  · simp [upd, hj, List.getElem?_set, Ne.symm hj]
theorem am_set_l {c : List Value} {k : Nat} {v : Value} {x : Int64} (hk : k < c.length) (hv : amLong v = x) : (fun j => amLong ((c.set k v).getD j .null)) = vp_updL (fun j => amLong (c.getD j .null)) k x := by
  funext j
  by_cases hj : j = k
  · subst hj
    simp [vp_updL, hk, hv]
  · simp [vp_updL, hj, List.getElem?_set, Ne.symm hj]
theorem am_set_q {ad : Nat → Nat} {c : List Value} {k : Nat} {v : Value} {x : Nat} (hk : k < c.length) (hv : amRef ad v = some x) : (fun j => amRef ad ((c.set k v).getD j .null)) = va_up (fun j => amRef ad (c.getD j .null)) k (some x) := by
  funext j
  by_cases hj : j = k
  · subst hj
    simp [va_up, hk, hv]
  · simp [va_up, hj, List.getElem?_set, Ne.symm hj]
theorem amIsI_v {ad : Nat → Nat} {v : Value} (h : amIsI v = true) : amV ad v = .int (amInt v) := by cases v <;> first | rfl | cases h
theorem amIsJ_v {ad : Nat → Nat} {v : Value} (h : amIsJ v = true) : amV ad v = .long (amLong v) := by cases v <;> first | rfl | cases h
theorem amIsA_v {ad : Nat → Nat} {v : Value} (h : amIsA v = true) : amV ad v = va_rf (amRef ad v) := by cases v <;> first | rfl | cases h
/-- the classes' tables -/
def amClOk : Prop := ∀ (ci : Nat) (r : vw_C), vwCl[ci]? = some r → (∀ k, k < r.2.2 → parseFieldDescriptor (r.2.1 k).2.2.1 = some (amFty ci k)) ∧ (∀ a, a < r.2.2 → ∀ b, b < r.2.2 → a ≠ b → (r.2.1 a).2.1 ≠ (r.2.1 b).2.1)
section AMS
variable {p : Program} {l : Launch} {e : Env} {R : Room} {s : State} {m : MethodId} {args : Array Value} {below : List Frame} {meth : Method} {c : Code} {H : Heap} {locs : List Loc} {cells slots : Nat} {Q : State → Prop}
variable {cc : ByteArray} {D : va_G} {dA : Nat → ClassId} {A : Nat → Prop} {H0 : Heap}
set_option maxHeartbeats 4000000 in
set_option maxRecDepth 20000 in
theorem amStep_ok (hx : p.tables.exec = Jvm.exec) (hb : c.code = cc) {Ts : List Jvm.Cond} (hts : ∀ w ∈ Ts, w.before args s = true) {own : String} (hown : s.vm.findClass own = some m.cls) (hK : va_K D vwCl (amTys dA) s) (hus : ∀ (ci : Nat) (r : vw_C), vwCl[ci]? = some r → ∀ w ∈ u_ws r.1 r.2.1 r.2.2, w ∈ Ts) (hcl : amClOk) {ini : Bool} (hini : ini = true → meth.name = "<init>") {sA : Nat → Nat} (hstr : ∀ (k : Nat) (r : String × Nat × String), amStr[k]? = some r → vk_R r.1 r.2.1 r.2.2 (sA k) s) {sc : Option (List Int32)} {ad : Nat → Nat} (hsA : ∀ k, ad (amK + k) = sA k) (hsc : ∀ l9, sc = some l9 → va_X (ad amS) l9.length (fun j => l9.getD j 0) s H0 ∧ ad amS < H0.size ∧ ¬ A (ad amS))
    {nL pc a b : Nat} {i : Instr} (hd : ∃ n, decode cc pc = .ok (i, n) ∧ (amSz i = 0 ∨ n = amSz i)) (hlk : amLk Ts own ini pc i a b) {ls : amL} {st : List Value} {hp : amH} {r : amR} (h : amStep sc nL i a b pc ls st hp = some r) {lsA : Array Slot} (hl : lv_has lsA nL (amLs ad ls)) (hP : va_P D vwCl (amW dA ad hp) H) (hD : va_D A (amW dA ad hp)) (hS : va_S A H0 H locs)
    (kk : ∀ (H1 : Heap) (locs1 : List Loc) (lsA1 : Array Slot), va_P D vwCl (amW dA ad r.2.2.2) H1 → va_D A (amW dA ad r.2.2.2) → va_S A H0 H1 locs1 → lv_has lsA1 nL (amLs ad r.2.1) → W p l e R s m args below meth c H1 locs1 cells slots Q (F0 m r.1 lsA1 (r.2.2.1.map (amV ad)))) :
    W p l e R s m args below meth c H locs cells slots Q (F0 m pc lsA (st.map (amV ad))) := by
  obtain ⟨n, hd, hn⟩ := hd
  cases i
  all_goals first
    | exact absurd (show (none : Option amR) = some r from h) (by intro z; cases z)
    | skip
  case iconst z =>
    obtain rfl : n = 1 := by rcases hn with hn | hn <;> first | exact hn | cases hn
    cases h
    exact lv_iconst hx hb hd rfl (kk H locs lsA hP hD hS hl)
  case bipush z =>
    obtain rfl : n = 2 := by rcases hn with hn | hn <;> first | exact hn | cases hn
    cases h
    exact lv_bipush hx hb hd rfl (kk H locs lsA hP hD hS hl)
  case sipush z =>
    obtain rfl : n = 3 := by rcases hn with hn | hn <;> first | exact hn | cases hn
    cases h
    exact lv_sipush hx hb hd rfl (kk H locs lsA hP hD hS hl)
  case lconst z =>
    obtain rfl : n = 1 := by rcases hn with hn | hn <;> first | exact hn | cases hn
    cases h
    exact lv_lconst hx hb hd rfl (kk H locs lsA hP hD hS hl)
  case fconst z =>
    obtain rfl : n = 1 := by rcases hn with hn | hn <;> first | exact hn | cases hn
    simp only [amStep] at h
    split at h
    · next e => subst e; cases h; exact lv_fconst0 hx hb hd (kk H locs lsA hP hD hS hl)
    · cases h
  case dconst z =>
    obtain rfl : n = 1 := by rcases hn with hn | hn <;> first | exact hn | cases hn
    simp only [amStep] at h
    split at h
    · next e => subst e; cases h; exact lv_dconst0 hx hb hd (kk H locs lsA hP hD hS hl)
    · cases h
  case ldc z =>
    obtain rfl : n = 2 := by rcases hn with hn | hn <;> first | exact hn | cases hn
    simp only [amStep] at h
    split at h
    · next e => cases h; exact lv_ldc hx hb hown (hts _ (hlk.1 e)) hd (kk H locs lsA hP hD hS hl)
    · next e =>
      cases h
      obtain ⟨tx, ht⟩ := hlk.2 e
      have k0 := kk H locs lsA hP hD hS hl
      have e2 : amV ad (.ref (amK + a)) = .ref (sA a) := by show Value.ref (ad (amK + a)) = _; rw [hsA]
      exact va_ldcS hx hb hown (hstr _ _ ht) hd (W.eq (congrArg (fun v => F0 m (pc + 2) lsA (v :: st.map (amV ad))) e2.symm) k0)
  case ldc_w z =>
    obtain rfl : n = 3 := by rcases hn with hn | hn <;> first | exact hn | cases hn
    simp only [amStep] at h
    split at h
    · next e => cases h; exact lv_ldcw hx hb hown (hts _ (hlk e)) hd (kk H locs lsA hP hD hS hl)
    · cases h
  case ldc2_w z =>
    obtain rfl : n = 3 := by rcases hn with hn | hn <;> first | exact hn | cases hn
    cases h
    exact lv_ldc2 hx hb hown (hts _ hlk) hd (kk H locs lsA hP hD hS hl)
  case iload k =>
    obtain rfl : n = 2 := by rcases hn with hn | hn <;> first | exact hn | cases hn
    simp only [amStep] at h
    obtain ⟨s1, h1, rfl⟩ := Option.map_eq_some_iff.mp h
    obtain ⟨v, hv, hp1, rfl⟩ := amLd_s h1
    obtain ⟨x, rfl⟩ := amIsI_s hp1
    exact lv_iload hx hb hd (amGet_has hl hv) (kk H locs lsA hP hD hS hl)
  case iload_n k =>
    obtain rfl : n = 1 := by rcases hn with hn | hn <;> first | exact hn | cases hn
    simp only [amStep] at h
    obtain ⟨s1, h1, rfl⟩ := Option.map_eq_some_iff.mp h
    obtain ⟨v, hv, hp1, rfl⟩ := amLd_s h1
    obtain ⟨x, rfl⟩ := amIsI_s hp1
    exact lv_iload_n hx hb hd rfl (amGet_has hl hv) (kk H locs lsA hP hD hS hl)
  case lload k =>
    obtain rfl : n = 2 := by rcases hn with hn | hn <;> first | exact hn | cases hn
    simp only [amStep] at h
    obtain ⟨s1, h1, rfl⟩ := Option.map_eq_some_iff.mp h
    obtain ⟨v, hv, hp1, rfl⟩ := amLd_s h1
    obtain ⟨x, rfl⟩ := amIsJ_s hp1
    exact lv_lload hx hb hd (amGet_has hl hv) (kk H locs lsA hP hD hS hl)
  case lload_n k =>
    obtain rfl : n = 1 := by rcases hn with hn | hn <;> first | exact hn | cases hn
    simp only [amStep] at h
    obtain ⟨s1, h1, rfl⟩ := Option.map_eq_some_iff.mp h
    obtain ⟨v, hv, hp1, rfl⟩ := amLd_s h1
    obtain ⟨x, rfl⟩ := amIsJ_s hp1
    exact lv_lload_n hx hb hd rfl (amGet_has hl hv) (kk H locs lsA hP hD hS hl)
  case dload k =>
    obtain rfl : n = 2 := by rcases hn with hn | hn <;> first | exact hn | cases hn
    simp only [amStep] at h
    obtain ⟨s1, h1, rfl⟩ := Option.map_eq_some_iff.mp h
    obtain ⟨v, hv, hp1, rfl⟩ := amLd_s h1
    obtain ⟨x, rfl⟩ := amIsD_s hp1
    exact lv_dload hx hb hd (amGet_has hl hv) (kk H locs lsA hP hD hS hl)
  case dload_n k =>
    obtain rfl : n = 1 := by rcases hn with hn | hn <;> first | exact hn | cases hn
    simp only [amStep] at h
    obtain ⟨s1, h1, rfl⟩ := Option.map_eq_some_iff.mp h
    obtain ⟨v, hv, hp1, rfl⟩ := amLd_s h1
    obtain ⟨x, rfl⟩ := amIsD_s hp1
    exact lv_dload_n hx hb hd rfl (amGet_has hl hv) (kk H locs lsA hP hD hS hl)
  case aload k =>
    obtain rfl : n = 2 := by rcases hn with hn | hn <;> first | exact hn | cases hn
    simp only [amStep] at h
    obtain ⟨s1, h1, rfl⟩ := Option.map_eq_some_iff.mp h
    obtain ⟨v, hv, hp1, rfl⟩ := amLd_s h1
    rcases amIsA_s hp1 with rfl | ⟨x, rfl⟩
    · exact lv_aloadN hx hb hd (amGet_has hl hv) (kk H locs lsA hP hD hS hl)
    · exact lv_aload hx hb hd (amGet_has hl hv) (kk H locs lsA hP hD hS hl)
  case aload_n k =>
    obtain rfl : n = 1 := by rcases hn with hn | hn <;> first | exact hn | cases hn
    simp only [amStep] at h
    obtain ⟨s1, h1, rfl⟩ := Option.map_eq_some_iff.mp h
    obtain ⟨v, hv, hp1, rfl⟩ := amLd_s h1
    rcases amIsA_s hp1 with rfl | ⟨x, rfl⟩
    · exact lv_aload_nN hx hb hd rfl (amGet_has hl hv) (kk H locs lsA hP hD hS hl)
    · exact lv_aload_n hx hb hd rfl (amGet_has hl hv) (kk H locs lsA hP hD hS hl)
  case istore k =>
    obtain rfl : n = 2 := by rcases hn with hn | hn <;> first | exact hn | cases hn
    simp only [amStep] at h
    obtain ⟨s1, h1, rfl⟩ := Option.map_eq_some_iff.mp h
    obtain ⟨v, q, rfl, hp1, hk, rfl⟩ := amSt1_s h1
    obtain ⟨x, rfl⟩ := amIsI_s hp1
    exact lv_istore hx hb hd hl hk (amSet1_ls ad ls k (.int x)) (fun ls1 hl1 => kk H locs ls1 hP hD hS hl1)
  case istore_n k =>
    obtain rfl : n = 1 := by rcases hn with hn | hn <;> first | exact hn | cases hn
    simp only [amStep] at h
    obtain ⟨s1, h1, rfl⟩ := Option.map_eq_some_iff.mp h
    obtain ⟨v, q, rfl, hp1, hk, rfl⟩ := amSt1_s h1
    obtain ⟨x, rfl⟩ := amIsI_s hp1
    exact lv_istore_n hx hb hd rfl hl hk (amSet1_ls ad ls (k : Nat) (.int x)) (fun ls1 hl1 => kk H locs ls1 hP hD hS hl1)
  case lstore k =>
    obtain rfl : n = 2 := by rcases hn with hn | hn <;> first | exact hn | cases hn
    simp only [amStep] at h
    obtain ⟨s1, h1, rfl⟩ := Option.map_eq_some_iff.mp h
    obtain ⟨v, q, rfl, hp1, hk, rfl⟩ := amSt2_s h1
    obtain ⟨x, rfl⟩ := amIsJ_s hp1
    exact lv_lstore hx hb hd hl hk (amSet2_ls ad ls k (.long x)) (fun ls1 hl1 => kk H locs ls1 hP hD hS hl1)
  case lstore_n k =>
    obtain rfl : n = 1 := by rcases hn with hn | hn <;> first | exact hn | cases hn
    simp only [amStep] at h
    obtain ⟨s1, h1, rfl⟩ := Option.map_eq_some_iff.mp h
    obtain ⟨v, q, rfl, hp1, hk, rfl⟩ := amSt2_s h1
    obtain ⟨x, rfl⟩ := amIsJ_s hp1
    exact lv_lstore_n hx hb hd rfl hl hk (amSet2_ls ad ls (k : Nat) (.long x)) (fun ls1 hl1 => kk H locs ls1 hP hD hS hl1)
  case dstore k =>
    obtain rfl : n = 2 := by rcases hn with hn | hn <;> first | exact hn | cases hn
    simp only [amStep] at h
    obtain ⟨s1, h1, rfl⟩ := Option.map_eq_some_iff.mp h
    obtain ⟨v, q, rfl, hp1, hk, rfl⟩ := amSt2_s h1
    obtain ⟨x, rfl⟩ := amIsD_s hp1
    exact lv_dstore hx hb hd hl hk (amSet2_ls ad ls k (.double x)) (fun ls1 hl1 => kk H locs ls1 hP hD hS hl1)
  case astore k =>
    obtain rfl : n = 2 := by rcases hn with hn | hn <;> first | exact hn | cases hn
    simp only [amStep] at h
    obtain ⟨s1, h1, rfl⟩ := Option.map_eq_some_iff.mp h
    obtain ⟨v, q, rfl, hp1, hk, rfl⟩ := amSt1_s h1
    rcases amIsA_s hp1 with rfl | ⟨x, rfl⟩
    · exact lv_astoreN hx hb hd hl hk (amSet1_ls ad ls k .null) (fun ls1 hl1 => kk H locs ls1 hP hD hS hl1)
    · exact lv_astore hx hb hd hl hk (amSet1_ls ad ls k (.ref x)) (fun ls1 hl1 => kk H locs ls1 hP hD hS hl1)
  case astore_n k =>
    obtain rfl : n = 1 := by rcases hn with hn | hn <;> first | exact hn | cases hn
    simp only [amStep] at h
    obtain ⟨s1, h1, rfl⟩ := Option.map_eq_some_iff.mp h
    obtain ⟨v, q, rfl, hp1, hk, rfl⟩ := amSt1_s h1
    rcases amIsA_s hp1 with rfl | ⟨x, rfl⟩
    · exact lv_astore_nN hx hb hd rfl hl hk (amSet1_ls ad ls (k : Nat) .null) (fun ls1 hl1 => kk H locs ls1 hP hD hS hl1)
    · exact lv_astore_n hx hb hd rfl hl hk (amSet1_ls ad ls (k : Nat) (.ref x)) (fun ls1 hl1 => kk H locs ls1 hP hD hS hl1)
  case iinc k z =>
    obtain rfl : n = 3 := by rcases hn with hn | hn <;> first | exact hn | cases hn
    simp only [amStep] at h
    obtain ⟨s1, h1, rfl⟩ := Option.map_eq_some_iff.mp h
    obtain ⟨x, hv, hk, rfl⟩ := amInc_s h1
    obtain ⟨j, hj⟩ := List.getElem?_of_mem (amLs_mem (ad := ad) (amGet_mem hv))
    exact lv_iinc hx hb hd hl hj rfl hk (amSet1_ls ad ls k (.int (x + Int32.ofInt z))) (fun ls1 hl1 => kk H locs ls1 hP hD hS hl1)
  case dup =>
    obtain rfl : n = 1 := by rcases hn with hn | hn <;> first | exact hn | cases hn
    simp only [amStep] at h
    split at h
    · split at h
      · next v q e => cases h; exact lv_dup hx hb hd (by rw [amV_cat]; exact e) (kk H locs lsA hP hD hS hl)
      · cases h
    · cases h
  case dup2 =>
    obtain rfl : n = 1 := by rcases hn with hn | hn <;> first | exact hn | cases hn
    simp only [amStep] at h
    split at h
    · split at h
      · next v w q e => cases h; exact lv_dup2_11 hx hb hd (by rw [amV_cat]; exact e.1) (by rw [amV_cat]; exact e.2) (kk H locs lsA hP hD hS hl)
      · cases h
    · cases h
  case pop =>
    obtain rfl : n = 1 := by rcases hn with hn | hn <;> first | exact hn | cases hn
    simp only [amStep] at h
    split at h
    · split at h
      · next v q e => cases h; exact lv_pop hx hb hd (by rw [amV_cat]; exact e) (kk H locs lsA hP hD hS hl)
      · cases h
    · cases h
  case iadd =>
    obtain rfl : n = 1 := by rcases hn with hn | hn <;> first | exact hn | cases hn
    simp only [amStep] at h
    obtain ⟨s1, h1, rfl⟩ := Option.map_eq_some_iff.mp h
    obtain ⟨x, y, q, rfl, rfl⟩ := amII_s h1
    exact lv_iadd hx hb hd (kk H locs lsA hP hD hS hl)
  case isub =>
    obtain rfl : n = 1 := by rcases hn with hn | hn <;> first | exact hn | cases hn
    simp only [amStep] at h
    obtain ⟨s1, h1, rfl⟩ := Option.map_eq_some_iff.mp h
    obtain ⟨x, y, q, rfl, rfl⟩ := amII_s h1
    exact lv_isub hx hb hd (kk H locs lsA hP hD hS hl)
  case imul =>
    obtain rfl : n = 1 := by rcases hn with hn | hn <;> first | exact hn | cases hn
    simp only [amStep] at h
    obtain ⟨s1, h1, rfl⟩ := Option.map_eq_some_iff.mp h
    obtain ⟨x, y, q, rfl, rfl⟩ := amII_s h1
    exact lv_imul hx hb hd (kk H locs lsA hP hD hS hl)
  case iand =>
    obtain rfl : n = 1 := by rcases hn with hn | hn <;> first | exact hn | cases hn
    simp only [amStep] at h
    obtain ⟨s1, h1, rfl⟩ := Option.map_eq_some_iff.mp h
    obtain ⟨x, y, q, rfl, rfl⟩ := amII_s h1
    exact lv_iand hx hb hd (kk H locs lsA hP hD hS hl)
  case ior =>
    obtain rfl : n = 1 := by rcases hn with hn | hn <;> first | exact hn | cases hn
    simp only [amStep] at h
    obtain ⟨s1, h1, rfl⟩ := Option.map_eq_some_iff.mp h
    obtain ⟨x, y, q, rfl, rfl⟩ := amII_s h1
    exact lv_ior hx hb hd (kk H locs lsA hP hD hS hl)
  case ixor =>
    obtain rfl : n = 1 := by rcases hn with hn | hn <;> first | exact hn | cases hn
    simp only [amStep] at h
    obtain ⟨s1, h1, rfl⟩ := Option.map_eq_some_iff.mp h
    obtain ⟨x, y, q, rfl, rfl⟩ := amII_s h1
    exact lv_ixor hx hb hd (kk H locs lsA hP hD hS hl)
  case ishl =>
    obtain rfl : n = 1 := by rcases hn with hn | hn <;> first | exact hn | cases hn
    simp only [amStep] at h
    obtain ⟨s1, h1, rfl⟩ := Option.map_eq_some_iff.mp h
    obtain ⟨x, y, q, rfl, rfl⟩ := amII_s h1
    exact lv_ishl hx hb hd (kk H locs lsA hP hD hS hl)
  case ishr =>
    obtain rfl : n = 1 := by rcases hn with hn | hn <;> first | exact hn | cases hn
    simp only [amStep] at h
    obtain ⟨s1, h1, rfl⟩ := Option.map_eq_some_iff.mp h
    obtain ⟨x, y, q, rfl, rfl⟩ := amII_s h1
    exact lv_ishr hx hb hd (kk H locs lsA hP hD hS hl)
  case iushr =>
    obtain rfl : n = 1 := by rcases hn with hn | hn <;> first | exact hn | cases hn
    simp only [amStep] at h
    obtain ⟨s1, h1, rfl⟩ := Option.map_eq_some_iff.mp h
    obtain ⟨x, y, q, rfl, rfl⟩ := amII_s h1
    exact lv_iushr hx hb hd rfl (kk H locs lsA hP hD hS hl)
  case idiv =>
    obtain rfl : n = 1 := by rcases hn with hn | hn <;> first | exact hn | cases hn
    simp only [amStep] at h
    obtain ⟨s1, h1, rfl⟩ := Option.map_eq_some_iff.mp h
    obtain ⟨x, y, q, rfl, hne, rfl⟩ := amDiv_s h1
    exact lv_idiv hx hb hd hne (kk H locs lsA hP hD hS hl)
  case irem =>
    obtain rfl : n = 1 := by rcases hn with hn | hn <;> first | exact hn | cases hn
    simp only [amStep] at h
    obtain ⟨s1, h1, rfl⟩ := Option.map_eq_some_iff.mp h
    obtain ⟨x, y, q, rfl, hne, rfl⟩ := amDiv_s h1
    exact lv_irem hx hb hd hne (kk H locs lsA hP hD hS hl)
  case ineg =>
    obtain rfl : n = 1 := by rcases hn with hn | hn <;> first | exact hn | cases hn
    simp only [amStep] at h
    obtain ⟨s1, h1, rfl⟩ := Option.map_eq_some_iff.mp h
    obtain ⟨x, q, rfl, rfl⟩ := amI_s h1
    exact lv_ineg hx hb hd (kk H locs lsA hP hD hS hl)
  case i2b =>
    obtain rfl : n = 1 := by rcases hn with hn | hn <;> first | exact hn | cases hn
    simp only [amStep] at h
    obtain ⟨s1, h1, rfl⟩ := Option.map_eq_some_iff.mp h
    obtain ⟨x, q, rfl, rfl⟩ := amI_s h1
    exact lv_i2b hx hb hd rfl (kk H locs lsA hP hD hS hl)
  case i2l =>
    obtain rfl : n = 1 := by rcases hn with hn | hn <;> first | exact hn | cases hn
    simp only [amStep] at h
    obtain ⟨s1, h1, rfl⟩ := Option.map_eq_some_iff.mp h
    obtain ⟨x, q, rfl, rfl⟩ := amI_s h1
    exact lv_i2l hx hb hd rfl (kk H locs lsA hP hD hS hl)
  case i2f =>
    obtain rfl : n = 1 := by rcases hn with hn | hn <;> first | exact hn | cases hn
    simp only [amStep] at h
    obtain ⟨s1, h1, rfl⟩ := Option.map_eq_some_iff.mp h
    obtain ⟨x, q, rfl, rfl⟩ := amI_s h1
    exact lv_i2f hx hb hd (kk H locs lsA hP hD hS hl)
  case i2d =>
    obtain rfl : n = 1 := by rcases hn with hn | hn <;> first | exact hn | cases hn
    simp only [amStep] at h
    obtain ⟨s1, h1, rfl⟩ := Option.map_eq_some_iff.mp h
    obtain ⟨x, q, rfl, rfl⟩ := amI_s h1
    exact lv_i2d hx hb hd (kk H locs lsA hP hD hS hl)
  case l2i =>
    obtain rfl : n = 1 := by rcases hn with hn | hn <;> first | exact hn | cases hn
    simp only [amStep] at h
    obtain ⟨s1, h1, rfl⟩ := Option.map_eq_some_iff.mp h
    obtain ⟨x, q, rfl, rfl⟩ := amJ_s h1
    exact lv_l2i hx hb hd rfl (kk H locs lsA hP hD hS hl)
  case lneg =>
    obtain rfl : n = 1 := by rcases hn with hn | hn <;> first | exact hn | cases hn
    simp only [amStep] at h
    obtain ⟨s1, h1, rfl⟩ := Option.map_eq_some_iff.mp h
    obtain ⟨x, q, rfl, rfl⟩ := amJ_s h1
    exact lv_lneg hx hb hd (kk H locs lsA hP hD hS hl)
  case ladd =>
    obtain rfl : n = 1 := by rcases hn with hn | hn <;> first | exact hn | cases hn
    simp only [amStep] at h
    obtain ⟨s1, h1, rfl⟩ := Option.map_eq_some_iff.mp h
    obtain ⟨x, y, q, rfl, rfl⟩ := amLL_s h1
    exact lv_ladd hx hb hd (kk H locs lsA hP hD hS hl)
  case lsub =>
    obtain rfl : n = 1 := by rcases hn with hn | hn <;> first | exact hn | cases hn
    simp only [amStep] at h
    obtain ⟨s1, h1, rfl⟩ := Option.map_eq_some_iff.mp h
    obtain ⟨x, y, q, rfl, rfl⟩ := amLL_s h1
    exact lv_lsub hx hb hd (kk H locs lsA hP hD hS hl)
  case land =>
    obtain rfl : n = 1 := by rcases hn with hn | hn <;> first | exact hn | cases hn
    simp only [amStep] at h
    obtain ⟨s1, h1, rfl⟩ := Option.map_eq_some_iff.mp h
    obtain ⟨x, y, q, rfl, rfl⟩ := amLL_s h1
    exact lv_land hx hb hd (kk H locs lsA hP hD hS hl)
  case lor =>
    obtain rfl : n = 1 := by rcases hn with hn | hn <;> first | exact hn | cases hn
    simp only [amStep] at h
    obtain ⟨s1, h1, rfl⟩ := Option.map_eq_some_iff.mp h
    obtain ⟨x, y, q, rfl, rfl⟩ := amLL_s h1
    exact lv_lor hx hb hd (kk H locs lsA hP hD hS hl)
  case lcmp =>
    obtain rfl : n = 1 := by rcases hn with hn | hn <;> first | exact hn | cases hn
    simp only [amStep] at h
    obtain ⟨s1, h1, rfl⟩ := Option.map_eq_some_iff.mp h
    obtain ⟨x, y, q, rfl, rfl⟩ := amLL_s h1
    exact W.lcmp hx hb hd (kk H locs lsA hP hD hS hl)
  case lshl =>
    obtain rfl : n = 1 := by rcases hn with hn | hn <;> first | exact hn | cases hn
    simp only [amStep] at h
    obtain ⟨s1, h1, rfl⟩ := Option.map_eq_some_iff.mp h
    obtain ⟨x, y, q, rfl, rfl⟩ := amLI_s h1
    exact lv_lshl hx hb hd rfl (kk H locs lsA hP hD hS hl)
  case lshr =>
    obtain rfl : n = 1 := by rcases hn with hn | hn <;> first | exact hn | cases hn
    simp only [amStep] at h
    obtain ⟨s1, h1, rfl⟩ := Option.map_eq_some_iff.mp h
    obtain ⟨x, y, q, rfl, rfl⟩ := amLI_s h1
    exact lv_lshr hx hb hd rfl (kk H locs lsA hP hD hS hl)
  case lushr =>
    obtain rfl : n = 1 := by rcases hn with hn | hn <;> first | exact hn | cases hn
    simp only [amStep] at h
    obtain ⟨s1, h1, rfl⟩ := Option.map_eq_some_iff.mp h
    obtain ⟨x, y, q, rfl, rfl⟩ := amLI_s h1
    exact lv_lushr hx hb hd rfl (kk H locs lsA hP hD hS hl)
  case fdiv =>
    obtain rfl : n = 1 := by rcases hn with hn | hn <;> first | exact hn | cases hn
    simp only [amStep] at h
    split at h
    · split at h
      · next e => cases h; exact lv_fdiv hx hb hd e (kk H locs lsA hP hD hS hl)
      · cases h
    · cases h
  case ddiv =>
    obtain rfl : n = 1 := by rcases hn with hn | hn <;> first | exact hn | cases hn
    simp only [amStep] at h
    split at h
    · split at h
      · next e => cases h; exact lv_ddiv hx hb hd e (kk H locs lsA hP hD hS hl)
      · cases h
    · cases h
  case f2d =>
    obtain rfl : n = 1 := by rcases hn with hn | hn <;> first | exact hn | cases hn
    simp only [amStep] at h
    split at h
    · split at h
      · next e => cases h; exact lv_f2d hx hb hd e (kk H locs lsA hP hD hS hl)
      · cases h
    · cases h
  case dcmp op =>
    obtain rfl : n = 1 := by rcases hn with hn | hn <;> first | exact hn | cases hn
    simp only [amStep] at h
    split at h
    · cases h; exact lv_dcmp hx hb hd (kk H locs lsA hP hD hS hl)
    · cases h
  case goto z =>
    obtain rfl : n = 3 := by rcases hn with hn | hn <;> first | exact hn | cases hn
    cases h
    exact lv_goto hx hb hd hlk (kk H locs lsA hP hD hS hl)
  case ifCond cd z =>
    obtain rfl : n = 3 := by rcases hn with hn | hn <;> first | exact hn | cases hn
    simp only [amStep] at h
    obtain ⟨s1, h1, rfl⟩ := Option.map_eq_some_iff.mp h
    obtain ⟨x, q, rfl, rfl⟩ := amIf_s h1
    have k0 := kk H locs lsA hP hD hS hl
    dsimp only at k0
    cases cd
    case eq => exact lv_if_eq hx hb hd hlk (fun e2 => by rw [show amIfP .eq x = true from decide_eq_true e2, if_pos rfl] at k0; exact k0) (fun e2 => by rw [show amIfP .eq x = false from decide_eq_false e2, if_neg (by decide)] at k0; exact k0)
    case ne => exact lv_if_ne hx hb hd hlk (fun e2 => by rw [show amIfP .ne x = true from decide_eq_true e2, if_pos rfl] at k0; exact k0) (fun e2 => by rw [show amIfP .ne x = false from decide_eq_false (fun z => z e2), if_neg (by decide)] at k0; exact k0)
    case lt => exact lv_if_lt hx hb hd hlk (fun e2 => by rw [show amIfP .lt x = true from decide_eq_true e2, if_pos rfl] at k0; exact k0) (fun e2 => by rw [show amIfP .lt x = false from decide_eq_false e2, if_neg (by decide)] at k0; exact k0)
    case ge => exact lv_if_ge hx hb hd hlk (fun e2 => by rw [show amIfP .ge x = true from decide_eq_true e2, if_pos rfl] at k0; exact k0) (fun e2 => by rw [show amIfP .ge x = false from decide_eq_false e2, if_neg (by decide)] at k0; exact k0)
    case gt => exact lv_if_gt hx hb hd hlk (fun e2 => by rw [show amIfP .gt x = true from decide_eq_true e2, if_pos rfl] at k0; exact k0) (fun e2 => by rw [show amIfP .gt x = false from decide_eq_false e2, if_neg (by decide)] at k0; exact k0)
    case le => exact lv_if_le hx hb hd hlk (fun e2 => by rw [show amIfP .le x = true from decide_eq_true e2, if_pos rfl] at k0; exact k0) (fun e2 => by rw [show amIfP .le x = false from decide_eq_false e2, if_neg (by decide)] at k0; exact k0)
  case if_icmp cd z =>
    obtain rfl : n = 3 := by rcases hn with hn | hn <;> first | exact hn | cases hn
    simp only [amStep] at h
    obtain ⟨s1, h1, rfl⟩ := Option.map_eq_some_iff.mp h
    obtain ⟨x, y, q, rfl, rfl⟩ := amCmp_s h1
    have k0 := kk H locs lsA hP hD hS hl
    dsimp only at k0
    cases cd
    case eq => exact lv_icmp_eq hx hb hd hlk (fun e2 => by rw [show amCmpP .eq x y = true from decide_eq_true e2, if_pos rfl] at k0; exact k0) (fun e2 => by rw [show amCmpP .eq x y = false from decide_eq_false e2, if_neg (by decide)] at k0; exact k0)
    case ne => exact lv_icmp_ne hx hb hd hlk (fun e2 => by rw [show amCmpP .ne x y = true from decide_eq_true e2, if_pos rfl] at k0; exact k0) (fun e2 => by rw [show amCmpP .ne x y = false from decide_eq_false (fun z => z e2), if_neg (by decide)] at k0; exact k0)
    case lt => exact lv_icmp_lt hx hb hd hlk (fun e2 => by rw [show amCmpP .lt x y = true from decide_eq_true e2, if_pos rfl] at k0; exact k0) (fun e2 => by rw [show amCmpP .lt x y = false from decide_eq_false e2, if_neg (by decide)] at k0; exact k0)
    case ge => exact lv_icmp_ge hx hb hd hlk (fun e2 => by rw [show amCmpP .ge x y = true from decide_eq_true e2, if_pos rfl] at k0; exact k0) (fun e2 => by rw [show amCmpP .ge x y = false from decide_eq_false e2, if_neg (by decide)] at k0; exact k0)
    case gt => exact lv_icmp_gt hx hb hd hlk (fun e2 => by rw [show amCmpP .gt x y = true from decide_eq_true e2, if_pos rfl] at k0; exact k0) (fun e2 => by rw [show amCmpP .gt x y = false from decide_eq_false e2, if_neg (by decide)] at k0; exact k0)
    case le => exact lv_icmp_le hx hb hd hlk (fun e2 => by rw [show amCmpP .le x y = true from decide_eq_true e2, if_pos rfl] at k0; exact k0) (fun e2 => by rw [show amCmpP .le x y = false from decide_eq_false e2, if_neg (by decide)] at k0; exact k0)
  case ifnull z =>
    obtain rfl : n = 3 := by rcases hn with hn | hn <;> first | exact hn | cases hn
    simp only [amStep] at h
    split at h
    · cases h; exact lv_ifnull hx hb hd (kk H locs lsA hP hD hS hl)
    · cases h; exact lv_ifnullN hx hb hd hlk (kk H locs lsA hP hD hS hl)
    · cases h
  case ifnonnull z =>
    obtain rfl : n = 3 := by rcases hn with hn | hn <;> first | exact hn | cases hn
    simp only [amStep] at h
    split at h
    · cases h; exact lv_ifnonnull hx hb hd hlk (kk H locs lsA hP hD hS hl)
    · cases h; exact lv_ifnonnullN hx hb hd (kk H locs lsA hP hD hS hl)
    · cases h
  case tableswitch d lo hi offs =>
    simp only [amStep] at h
    obtain ⟨s1, h1, rfl⟩ := Option.map_eq_some_iff.mp h
    unfold amTbl at h1
    split at h1
    · next x q =>
      split at h1
      · next o ho =>
        split at h1
        · next e =>
          cases h1
          by_cases hr : x.toInt < lo ∨ hi < x.toInt
          · unfold amOff at ho
            rw [if_pos hr] at ho
            cases ho
            exact lv_tableOut hx hb hd hr (Int.toNat_of_nonneg e).symm (kk H locs lsA hP hD hS hl)
          · unfold amOff at ho
            rw [if_neg hr] at ho
            exact lv_tableIn hx hb hd (fun z => hr (Or.inl z)) (fun z => hr (Or.inr z)) ho (Int.toNat_of_nonneg e).symm (kk H locs lsA hP hD hS hl)
        · cases h1
      · cases h1
    · cases h1
  case getfield k =>
    obtain rfl : n = 3 := by rcases hn with hn | hn <;> first | exact hn | cases hn
    simp only [amStep] at h
    obtain ⟨s1, h1, rfl⟩ := Option.map_eq_some_iff.mp h
    obtain ⟨o, q, fs, v, rfl, hc, hlt, hv, rfl⟩ := amFGet_s h1
    obtain ⟨⟨C, T, N⟩, hr, hkN, hw⟩ := hlk
    have hg := amW_get (dA := dA) (ad := ad) hc
    rw [amE_obj hlt] at hg
    exact va_get (D := D) hx hb hts (hus _ _ hr) hown hK hP o hg hr b hkN (hts _ hw) (fun _ h => h) (v := amV ad v) (by simp [hv]) hd (kk H locs lsA hP hD hS hl)
  case putfield k =>
    obtain rfl : n = 3 := by rcases hn with hn | hn <;> first | exact hn | cases hn
    simp only [amStep] at h
    obtain ⟨s1, h1, rfl⟩ := Option.map_eq_some_iff.mp h
    obtain ⟨v, o, q, fs, rfl, hc, hlt, hlen, hnar, hfit, rfl⟩ := amFSet_s h1
    obtain ⟨⟨C, T, N⟩, hr, hkN, hw, hfin⟩ := hlk
    obtain ⟨hty, hnm⟩ := hcl _ _ hr
    have hg := amW_get (dA := dA) (ad := ad) hc
    rw [amE_obj hlt] at hg
    have hset : (amW dA ad hp).set o (ad o, .inr (a, (fs.map (amV ad)).set b (amV ad v))) = amW dA ad (hp.set o (a, fs.set b v)) := by
      rw [← amW_set, amE_obj hlt, List.map_set]
    have kk2 : ∀ (H1 : Heap) (locs1 : List Loc), va_P D vwCl ((amW dA ad hp).set o (ad o, .inr (a, (fs.map (amV ad)).set b (amV ad v)))) H1 → va_D A ((amW dA ad hp).set o (ad o, .inr (a, (fs.map (amV ad)).set b (amV ad v)))) → va_S A H0 H1 locs1 → W p l e R s m args below meth c H1 locs1 cells slots Q (F0 m (pc + 3) lsA (q.map (amV ad))) := fun H1 locs1 h2 h3 h4 => kk H1 locs1 lsA (hset ▸ h2) (hset ▸ h3) h4 hl
    by_cases hf : (T b).2.2.2 = true
    · obtain ⟨hi, ho⟩ := hfin hf
      exact va_putF (D := D) hx hb hts (hus _ _ hr) (amFty a) hty hnm hown hK hP hD hS o hg hr b hkN (hts _ hw) (fun _ h => h) hf (hini hi) ho (hty b hkN) (amV_narrow hnar) (amV_fits hfit) (by rw [List.length_map]; exact hlen) hd kk2
    · exact va_put (D := D) hx hb hts (hus _ _ hr) (amFty a) hty hnm hown hK hP hD hS o hg hr b hkN (hts _ hw) (fun _ h => h) (Bool.eq_false_iff.mpr hf) (hty b hkN) (amV_narrow hnar) (amV_fits hfit) (by rw [List.length_map]; exact hlen) hd kk2
  case iaload =>
    obtain rfl : n = 1 := by rcases hn with hn | hn <;> first | exact hn | cases hn
    simp only [amStep] at h
    split at h
    · next s1 hs1 =>
      cases h
      obtain ⟨i, q, l9, h0, rfl, hin, rfl⟩ := amSc_s hs1
      obtain ⟨hX, hbl, hbA⟩ := hsc l9 h0
      exact va_sld hx hb hX hbl hbA hS hin hd (kk H locs lsA hP hD hS hl)
    · obtain ⟨s1, h1, rfl⟩ := Option.map_eq_some_iff.mp h
      obtain ⟨i, o, q, cs, rfl, hc, hin, hpv, rfl⟩ := amALd_s h1
      have hg := amW_get (dA := dA) (ad := ad) hc
      have k0 := kk H locs lsA hP hD hS hl
      exact va_iald (D := D) hx hb hK hP o 0 hg rfl hin hd (W.eq (congrArg (fun v => F0 m (pc + 1) lsA (v :: q.map (amV ad))) (amIsI_v (ad := ad) hpv).symm) k0)
  case laload =>
    obtain rfl : n = 1 := by rcases hn with hn | hn <;> first | exact hn | cases hn
    simp only [amStep] at h
    obtain ⟨s1, h1, rfl⟩ := Option.map_eq_some_iff.mp h
    obtain ⟨i, o, q, cs, rfl, hc, hin, hpv, rfl⟩ := amALd_s h1
    have hg := amW_get (dA := dA) (ad := ad) hc
    have k0 := kk H locs lsA hP hD hS hl
    exact va_lald (D := D) hx hb hK hP o 1 hg rfl hin hd (W.eq (congrArg (fun v => F0 m (pc + 1) lsA (v :: q.map (amV ad))) (amIsJ_v (ad := ad) hpv).symm) k0)
  case baload =>
    obtain rfl : n = 1 := by rcases hn with hn | hn <;> first | exact hn | cases hn
    simp only [amStep] at h
    obtain ⟨s1, h1, rfl⟩ := Option.map_eq_some_iff.mp h
    obtain ⟨i, o, q, cs, rfl, hc, hin, hpv, rfl⟩ := amALd_s h1
    have hg := amW_get (dA := dA) (ad := ad) hc
    have k0 := kk H locs lsA hP hD hS hl
    exact va_bald (D := D) hx hb hK hP o 2 hg rfl hin hd (W.eq (congrArg (fun v => F0 m (pc + 1) lsA (v :: q.map (amV ad))) (amIsI_v (ad := ad) hpv).symm) k0)
  case aaload =>
    obtain rfl : n = 1 := by rcases hn with hn | hn <;> first | exact hn | cases hn
    simp only [amStep] at h
    obtain ⟨s1, h1, rfl⟩ := Option.map_eq_some_iff.mp h
    obtain ⟨i, o, q, cs, rfl, hc, hin, hpv, rfl⟩ := amALd_s h1
    have hg := amW_get (dA := dA) (ad := ad) hc
    have k0 := kk H locs lsA hP hD hS hl
    exact va_aldq (D := D) hx hb hK hP o 3 hg rfl hin hd (W.eq (congrArg (fun v => F0 m (pc + 1) lsA (v :: q.map (amV ad))) (amIsA_v (ad := ad) hpv).symm) k0)
  case iastore =>
    obtain rfl : n = 1 := by rcases hn with hn | hn <;> first | exact hn | cases hn
    simp only [amStep] at h
    obtain ⟨s1, h1, rfl⟩ := Option.map_eq_some_iff.mp h
    obtain ⟨v, i, o, q, cs, rfl, hc, hin, hpv, rfl⟩ := amASt_s h1
    obtain ⟨x, rfl⟩ := amIsI_s hpv
    have hg := amW_get (dA := dA) (ad := ad) hc
    have hset : (amW dA ad hp).set o (ad o, .inl (dA 0, cs.length, .inl (upd (fun j => amInt (cs.getD j .null)) i.toNatClampNeg x))) = amW dA ad (hp.set o (32, cs.set i.toNatClampNeg (.int x))) := by
      rw [← amW_set]
      show _ = (amW dA ad hp).set o (ad o, .inl (dA 0, (cs.set i.toNatClampNeg _).length, _))
      rw [am_set_i (amIn_lt hin) rfl, List.length_set]
      rfl
    exact va_iast (D := D) hx hb hK hP hD hS o 0 hg rfl hin hd (fun H1 locs1 h2 h3 h4 => kk H1 locs1 lsA (hset ▸ h2) (hset ▸ h3) h4 hl)
  case lastore =>
    obtain rfl : n = 1 := by rcases hn with hn | hn <;> first | exact hn | cases hn
    simp only [amStep] at h
    obtain ⟨s1, h1, rfl⟩ := Option.map_eq_some_iff.mp h
    obtain ⟨v, i, o, q, cs, rfl, hc, hin, hpv, rfl⟩ := amASt_s h1
    obtain ⟨x, rfl⟩ := amIsJ_s hpv
    have hg := amW_get (dA := dA) (ad := ad) hc
    have hset : (amW dA ad hp).set o (ad o, .inl (dA 1, cs.length, .inr (.inl (vp_updL (fun j => amLong (cs.getD j .null)) i.toNatClampNeg x)))) = amW dA ad (hp.set o (33, cs.set i.toNatClampNeg (.long x))) := by
      rw [← amW_set]
      show _ = (amW dA ad hp).set o (ad o, .inl (dA 1, (cs.set i.toNatClampNeg _).length, _))
      rw [am_set_l (amIn_lt hin) rfl, List.length_set]
      rfl
    exact va_last (D := D) hx hb hK hP hD hS o 1 hg rfl hin hd (fun H1 locs1 h2 h3 h4 => kk H1 locs1 lsA (hset ▸ h2) (hset ▸ h3) h4 hl)
  case bastore =>
    obtain rfl : n = 1 := by rcases hn with hn | hn <;> first | exact hn | cases hn
    simp only [amStep] at h
    obtain ⟨s1, h1, rfl⟩ := Option.map_eq_some_iff.mp h
    obtain ⟨v, i, o, q, cs, rfl, hc, hin, hpv, rfl⟩ := amASt_s h1
    obtain ⟨x, rfl⟩ := amIsI_s hpv
    have hg := amW_get (dA := dA) (ad := ad) hc
    have hset : (amW dA ad hp).set o (ad o, .inl (dA 2, cs.length, .inl (upd (fun j => amInt (cs.getD j .null)) i.toNatClampNeg (vp_nar .byte x)))) = amW dA ad (hp.set o (34, cs.set i.toNatClampNeg (.int (vp_nar .byte x)))) := by
      rw [← amW_set]
      show _ = (amW dA ad hp).set o (ad o, .inl (dA 2, (cs.set i.toNatClampNeg _).length, _))
      rw [am_set_i (amIn_lt hin) rfl, List.length_set]
      rfl
    exact va_bast (D := D) hx hb hK hP hD hS o 2 hg rfl hin hd (fun H1 locs1 h2 h3 h4 => kk H1 locs1 lsA (hset ▸ h2) (hset ▸ h3) h4 hl)
  case aastore =>
    obtain rfl : n = 1 := by rcases hn with hn | hn <;> first | exact hn | cases hn
    simp only [amStep] at h
    obtain ⟨s1, h1, rfl⟩ := Option.map_eq_some_iff.mp h
    obtain ⟨v, i, o, q, cs, rfl, hc, hin, hpv, rfl⟩ := amASt_s h1
    unfold amIsSn at hpv
    split at hpv
    · next k =>
      split at hpv
      · next cv hcv =>
        obtain ⟨t, fs⟩ := cv
        have ht : t = 6 := of_decide_eq_true hpv
        subst ht
        have hg := amW_get (dA := dA) (ad := ad) hc
        have hgv := amW_get (dA := dA) (ad := ad) hcv
        rw [amE_obj (by decide)] at hgv
        have hset : (amW dA ad hp).set o (ad o, .inl (dA 3, cs.length, .inr (.inr (.inr (.inr (va_up (fun j => amRef ad (cs.getD j .null)) i.toNatClampNeg (some (ad k)))))))) = amW dA ad (hp.set o (35, cs.set i.toNatClampNeg (.ref k))) := by
          rw [← amW_set]
          show _ = (amW dA ad hp).set o (ad o, .inl (dA 3, (cs.set i.toNatClampNeg _).length, _))
          rw [am_set_q (amIn_lt hin) rfl, List.length_set]
        exact va_astq (D := D) (r := (RX7, TX7, 4)) hx hb hK hP hD hS o 3 k 6 hg rfl hgv rfl hin hd (fun H1 locs1 h2 h3 h4 => kk H1 locs1 lsA (hset ▸ h2) (hset ▸ h3) h4 hl)
      · cases hpv
    · cases hpv
  case arraylength =>
    obtain rfl : n = 1 := by rcases hn with hn | hn <;> first | exact hn | cases hn
    simp only [amStep] at h
    split at h
    · next s1 hs1 =>
      cases h
      obtain ⟨q, l9, h0, rfl, rfl⟩ := amScLen_s hs1
      obtain ⟨hX, hbl, hbA⟩ := hsc l9 h0
      exact va_slen hx hb hX hbl hbA hS hd (kk H locs lsA hP hD hS hl)
    · obtain ⟨s1, h1, rfl⟩ := Option.map_eq_some_iff.mp h
      obtain ⟨o, q, t, cs, rfl, hc, ht1, ht2, rfl⟩ := amLen_s h1
      have hg := amW_get (dA := dA) (ad := ad) hc
      rcases (show t = 32 ∨ t = 33 ∨ t = 34 ∨ t = 35 by omega) with rfl | rfl | rfl | rfl
      · exact va_alen (D := D) hx hb hK hP o 0 hg rfl rfl hd (kk H locs lsA hP hD hS hl)
      · exact va_alen (D := D) hx hb hK hP o 1 hg rfl rfl hd (kk H locs lsA hP hD hS hl)
      · exact va_alen (D := D) hx hb hK hP o 2 hg rfl rfl hd (kk H locs lsA hP hD hS hl)
      · exact va_alen (D := D) hx hb hK hP o 3 hg rfl rfl hd (kk H locs lsA hP hD hS hl)
end AMS
end
section
/-! ===== the abstract machine: making, calling, ending; whole runs ===== -/
abbrev amIn1 : Type := Instr × Nat × Nat
abbrev amP : Type := List (Nat × amIn1)
/-- a method: its code; how many locals; how many arguments, the receiver with them; is it a constructor; what it answers; its handlers (from, to, at, exception, local, behind); its class's place -/
abbrev amM : Type := amP × Nat × Nat × Bool × Option FieldType × List (Nat × Nat × Nat × Nat × Nat × Nat) × Nat
/-- what comes of an instruction: on (with cells and slots made), an answer, a throw, a call (method, arguments, the rest of the stack) -/
abbrev amAct : Type := (amR × Nat × Nat) ⊕ Option Value ⊕ Nat ⊕ (Nat × List Value × List Value)
abbrev amRes : Type := (Option Value ⊕ Nat) × amH × Nat × Nat
def amOk (n : Nat) : Value → Bool
  | .ref i => decide (i < n) || decide (amK ≤ i)
  | _ => true
def amOkL (n : Nat) (ls : amL) : Bool := ls.all (fun q => amOk n q.2)
def amOkS (n : Nat) (st : List Value) : Bool := st.all (amOk n)
def amOkH (n : Nat) (hp : amH) : Bool := hp.all (fun c => (decide (32 ≤ c.1) && decide (c.1 ≤ 34)) || c.2.all (amOk n))
def amDef (ci : Nat) : List Value := match vwCl[ci]? with
  | some r => (List.range r.2.2).map (fun k => defaultValue (amFty ci k))
  | none => []
def amKind : ArrayType → Option (Nat × Value)
  | .int => some (32, .int 0)
  | .long => some (33, .long 0)
  | .byte => some (34, .int 0)
  | _ => none
/-- a new cell at the end -/
def amMake (pc : Nat) (ls : amL) (r : List Value) (hp : amH) (c : amC) : Option amAct :=
  if (amOkL hp.length ls && amOkS hp.length r && amOkH hp.length hp && decide (hp.length < amK)) = true then some (.inl ((pc, ls, .ref hp.length :: r, hp ++ [c]), 1, c.2.length)) else none
def amMakeA (pc : Nat) (ls : amL) (hp : amH) (k : Option (Nat × Value)) : List Value → Option amAct
  | .int x :: r => match k with
    | some (t, v) => if ¬ x < 0 ∧ x.toNatClampNeg ≤ 100000 then amMake pc ls r hp (t, List.replicate x.toNatClampNeg v) else none
    | none => none
  | _ => none
def amCopy (pc : Nat) (ls : amL) (hp : amH) : List Value → Option amAct
  | .int n :: .int dp :: .ref a :: .int sp :: .ref a0 :: r => match hp[a0]?, hp[a]? with
    | some c0, some c1 => if c0.1 = 32 ∧ c1.1 = 32 ∧ ¬ sp < 0 ∧ ¬ dp < 0 ∧ ¬ n < 0 ∧ sp.toNatClampNeg + n.toNatClampNeg ≤ c0.2.length ∧ dp.toNatClampNeg + n.toNatClampNeg ≤ c1.2.length ∧ (r.map fun v => v.category).sum ≤ 8 then
        some (.inl ((pc, ls, r, hp.set a (32, c1.2.take dp.toNatClampNeg ++ ((c0.2.drop sp.toNatClampNeg).take n.toNatClampNeg ++ c1.2.drop (dp.toNatClampNeg + n.toNatClampNeg)))), 0, 0)) else none
    | _, _ => none
  | _ => none
def amObj (pc : Nat) (ls : amL) (hp : amH) : List Value → Option amAct
  | .ref _ :: r => if (r.map fun v => v.category).sum ≤ 8 then some (.inl ((pc, ls, r, hp), 0, 0)) else none
  | _ => none
def amRetV (ret : Option FieldType) (i : Instr) (st : List Value) : Option (Option Value) :=
  match i with
  | .ireturn => match ret, st with
    | some ty, [.int x] => if narrow ty (.int x) = .int x then some (some (.int x)) else none
    | _, _ => none
  | .lreturn => match ret, st with
    | some .long, [.long x] => some (some (.long x))
    | _, _ => none
  | .freturn => match ret, st with
    | some .float, [.float x] => some (some (.float x))
    | _, _ => none
  | .dreturn => match ret, st with
    | some .double, [.double x] => some (some (.double x))
    | _, _ => none
  | .return_ => match ret, st with
    | none, [] => some none
    | _, _ => none
  | _ => none
/-- the receiver: of the class at the place ci (virt), or any cell (a constructor), or none (static) -/
def amRecv (k ci : Nat) (hp : amH) : List Value → Bool
  | .ref o :: _ => if k = 0 then (match hp[o]? with
      | some c => decide (c.1 = ci ∧ ci < 32)
      | none => false) else true
  | _ => decide (k = 1)
/-- k: 0 by the receiver's class, 1 static, 2 a constructor -/
def amCall (G : Nat → Option amM) (k a : Nat) (ls : amL) (st : List Value) (hp : amH) : Option amAct := match G a with
  | some N => if N.2.2.1 ≤ st.length ∧ ((st.take N.2.2.1).map fun v => v.category).sum ≤ N.2.1 ∧ (amOkL hp.length ls && amOkS hp.length (st.drop N.2.2.1) && amRecv k N.2.2.2.2.2.2 hp (st.take N.2.2.1).reverse) = true ∧ ((st.drop N.2.2.1).map fun v => v.category).sum ≤ 8 then
      some (.inr (.inr (.inr (a, (st.take N.2.2.1).reverse, st.drop N.2.2.1)))) else none
  | none => none
def amDo (G : Nat → Option amM) (M : amM) (sc : Option (List Int32)) (i : Instr) (a b : Nat) (pc : Nat) (ls : amL) (st : List Value) (hp : amH) : Option amAct :=
  match i with
  | .new _ => if b = 0 then amMake (pc + 3) ls st hp (a, amDef a) else if (st.map fun v => v.category).sum ≤ 8 ∧ M.2.2.2.2.2.1 = [] then some (.inr (.inr (.inl a))) else none
  | .newarray t => amMakeA (pc + 2) ls hp (amKind t) st
  | .anewarray _ => amMakeA (pc + 3) ls hp (some (35, .null)) st
  | .invokevirtual _ => amCall G 0 a ls st hp
  | .invokestatic _ => if b = 6 then amCopy (pc + 3) ls hp st else amCall G 1 a ls st hp
  | .invokespecial _ => if b = 5 then amObj (pc + 3) ls hp st else amCall G 2 a ls st hp
  | .ireturn => (amRetV M.2.2.2.2.1 .ireturn st).map (fun v => .inr (.inl v))
  | .lreturn => (amRetV M.2.2.2.2.1 .lreturn st).map (fun v => .inr (.inl v))
  | .freturn => (amRetV M.2.2.2.2.1 .freturn st).map (fun v => .inr (.inl v))
  | .dreturn => (amRetV M.2.2.2.2.1 .dreturn st).map (fun v => .inr (.inl v))
  | .return_ => (amRetV M.2.2.2.2.1 .return_ st).map (fun v => .inr (.inl v))
  | j => (amStep sc M.2.1 j a b pc ls st hp).map (fun r => .inl (r, 0, 0))
def amSeek (cs : amP) (pc : Nat) : amP := cs.dropWhile (fun q => q.1 != pc)
def amNext (M : amM) (cs : amP) (pc : Nat) : amP := match cs with
  | q :: _ => if q.1 = pc then cs else amSeek M.1 pc
  | [] => amSeek M.1 pc
def amHand (hs : List (Nat × Nat × Nat × Nat × Nat × Nat)) (pc E : Nat) : Option (Nat × Nat × Nat) := match hs with
  | [] => none
  | h :: r => if h.1 ≤ pc ∧ pc < h.2.1 ∧ h.2.2.2.1 = E then some (h.2.2.1, h.2.2.2.2) else amHand r pc E
def amDrop (ls : amL) (i : Nat) : amL := ls.filter (fun q => !(q.1 == i) && !(q.1 + 1 == i && q.2.category == 2))
/-- the calls that may throw -/
def amMay : Instr → Nat → Bool
  | .invokevirtual _, _ => true
  | .invokestatic _, b => decide (b = 0)
  | _, _ => false
/-- a run: f steps at most, calls d deep at most -/
def amRun (G : Nat → Option amM) (sc : Option (List Int32)) : Nat → Nat → amM → amP → Nat → amL → List Value → amH → Nat → Nat → Option amRes
  | 0, _, _, _, _, _, _, _, _, _ => none
  | _ + 1, _, _, [], _, _, _, _, _, _ => none
  | f + 1, d, M, q :: cs, pc, ls, st, hp, kc, ks =>
    if q.1 = pc then
      match amDo G M sc q.2.1 q.2.2.1 q.2.2.2 pc ls st hp with
      | none => none
      | some (.inl (r, dk, ds)) => amRun G sc f d M (amNext M cs r.1) r.1 r.2.1 r.2.2.1 r.2.2.2 (kc + dk) (ks + ds)
      | some (.inr (.inl v)) => some (.inl v, hp, kc, ks)
      | some (.inr (.inr (.inl E))) => some (.inr E, hp, kc + 1, ks + 6)
      | some (.inr (.inr (.inr (k, av, rest)))) =>
        match d, G k with
        | d' + 1, some N =>
          match amRun G none f d' N N.1 0 (lv_args 0 av) [] hp 0 0 with
          | some (.inl v, hp1, mc, ms) => amRun G sc f (d' + 1) M (amNext M cs (pc + 3)) (pc + 3) ls (v.toList ++ rest) hp1 (kc + mc) (ks + ms)
          | some (.inr E, hp1, mc, ms) =>
            if amMay q.2.1 q.2.2.2 = false then none
            else if M.2.2.2.2.2.1 = [] then some (.inr E, hp1, kc + mc, ks + ms)
            else match amHand M.2.2.2.2.2.1 pc E with
              | some (_, x, to) => amRun G sc f (d' + 1) M (amSeek M.1 to) to (amDrop ls x) [] hp1 (kc + mc) (ks + ms)
              | none => none
          | none => none
        | _, _ => none
    else none
theorem amStep_len {sc : Option (List Int32)} {nL : Nat} {i : Instr} {a b pc : Nat} {ls : amL} {st : List Value} {hp : amH} {r : amR} (h : amStep sc nL i a b pc ls st hp = some r) : r.2.2.2.length = hp.length := by
  cases i
  all_goals first
    | exact absurd (show (none : Option amR) = some r from h) (by intro z; cases z)
    | (cases h; rfl)
    | (simp only [amStep] at h
       obtain ⟨s1, h1, rfl⟩ := Option.map_eq_some_iff.mp h
       first
         | rfl
         | (obtain ⟨v, i, o, q, cs, rfl, hc, hin, hpv, rfl⟩ := amASt_s h1; simp)
         | (obtain ⟨v, o, q, fs, rfl, hc, hlt, hlen, hnar, hfit, rfl⟩ := amFSet_s h1; simp))
    | (simp only [amStep] at h
       repeat' split at h
       all_goals first
         | (cases h; rfl)
         | cases h
         | (obtain ⟨s1, h1, rfl⟩ := Option.map_eq_some_iff.mp h; rfl))
theorem amMake_s {pc : Nat} {ls : amL} {r : List Value} {hp : amH} {c : amC} {x : amAct} (h : amMake pc ls r hp c = some x) : amOkL hp.length ls = true ∧ amOkS hp.length r = true ∧ amOkH hp.length hp = true ∧ hp.length < amK ∧ x = .inl ((pc, ls, .ref hp.length :: r, hp ++ [c]), 1, c.2.length) := by
  unfold amMake at h
  split at h
  · next e =>
    simp only [Bool.and_eq_true, decide_eq_true_eq] at e
    cases h
    exact ⟨e.1.1.1, e.1.1.2, e.1.2, e.2, rfl⟩
  · cases h
theorem amMakeA_s {pc : Nat} {ls : amL} {st : List Value} {hp : amH} {k : Option (Nat × Value)} {x : amAct} (h : amMakeA pc ls hp k st = some x) : ∃ n r t v, st = .int n :: r ∧ k = some (t, v) ∧ ¬ n < 0 ∧ n.toNatClampNeg ≤ 100000 ∧ amMake pc ls r hp (t, List.replicate n.toNatClampNeg v) = some x := by
  unfold amMakeA at h
  split at h
  · next n r =>
    split at h
    · next t v =>
      split at h
      · next e => exact ⟨n, r, t, v, rfl, rfl, e.1, e.2, h⟩
      · cases h
    · cases h
  · cases h
theorem amCopy_s {pc : Nat} {ls : amL} {st : List Value} {hp : amH} {x : amAct} (h : amCopy pc ls hp st = some x) : ∃ n dp a sp a0 r c0 c1, st = .int n :: .int dp :: .ref a :: .int sp :: .ref a0 :: r ∧ hp[a0]? = some (32, c0) ∧ hp[a]? = some (32, c1) ∧ ¬ sp < 0 ∧ ¬ dp < 0 ∧ ¬ n < 0 ∧ sp.toNatClampNeg + n.toNatClampNeg ≤ c0.length ∧ dp.toNatClampNeg + n.toNatClampNeg ≤ c1.length ∧ (r.map fun v => v.category).sum ≤ 8 ∧
    x = .inl ((pc, ls, r, hp.set a (32, c1.take dp.toNatClampNeg ++ ((c0.drop sp.toNatClampNeg).take n.toNatClampNeg ++ c1.drop (dp.toNatClampNeg + n.toNatClampNeg)))), 0, 0) := by
  unfold amCopy at h
  split at h
  · next n dp a sp a0 r =>
    split at h
    · next c0 c1 e0 e1 =>
      split at h
      · next e =>
        obtain ⟨t0, c0⟩ := c0
        obtain ⟨t1, c1⟩ := c1
        obtain ⟨q1, q2, q3, q4, q5, q6, q7, q8⟩ := e
        dsimp only at q1 q2 q6 q7
        subst q1; subst q2
        cases h
        exact ⟨n, dp, a, sp, a0, r, c0, c1, rfl, e0, e1, q3, q4, q5, q6, q7, q8, rfl⟩
      · cases h
    · cases h
  · cases h
theorem amObj_s {pc : Nat} {ls : amL} {st : List Value} {hp : amH} {x : amAct} (h : amObj pc ls hp st = some x) : ∃ a r, st = .ref a :: r ∧ (r.map fun v => v.category).sum ≤ 8 ∧ x = .inl ((pc, ls, r, hp), 0, 0) := by
  unfold amObj at h
  split at h
  · next a r =>
    split at h
    · next e => cases h; exact ⟨a, r, rfl, e, rfl⟩
    · cases h
  · cases h
theorem amCall_s {G : Nat → Option amM} {k a : Nat} {ls : amL} {st : List Value} {hp : amH} {x : amAct} (h : amCall G k a ls st hp = some x) : ∃ N av rest, G a = some N ∧ st = av.reverse ++ rest ∧ av.length = N.2.2.1 ∧ amOkL hp.length ls = true ∧ amOkS hp.length rest = true ∧ amRecv k N.2.2.2.2.2.2 hp av = true ∧ (rest.map fun v => v.category).sum ≤ 8 ∧ (av.map fun v => v.category).sum ≤ N.2.1 ∧ x = .inr (.inr (.inr (a, av, rest))) := by
  unfold amCall at h
  split at h
  · next N e =>
    split at h
    · next q =>
      obtain ⟨q1, q0, q2, q3⟩ := q
      simp only [Bool.and_eq_true] at q2
      cases h
      refine ⟨N, _, _, e, ?_, ?_, q2.1.1, q2.1.2, q2.2, q3, by rw [List.map_reverse, List.sum_reverse]; exact q0, rfl⟩
      · rw [List.reverse_reverse, List.take_append_drop]
      · rw [List.length_reverse, List.length_take]; omega
    · cases h
  · cases h
/-- what goes on leaves the cells in their places -/
theorem amDo_len {G : Nat → Option amM} {M : amM} {sc : Option (List Int32)} {i : Instr} {a b pc : Nat} {ls : amL} {st : List Value} {hp : amH} {r : amR} {dk ds : Nat} (h : amDo G M sc i a b pc ls st hp = some (.inl (r, dk, ds))) : hp.length ≤ r.2.2.2.length := by
  unfold amDo at h
  split at h
  case h_1 => 
    split at h
    · obtain ⟨-, -, -, -, e⟩ := amMake_s h; cases e; simp
    · split at h <;> cases h
  case h_2 => obtain ⟨n, q, t, v, rfl, -, -, -, h⟩ := amMakeA_s h; obtain ⟨-, -, -, -, e⟩ := amMake_s h; cases e; simp
  case h_3 => obtain ⟨n, q, t, v, rfl, -, -, -, h⟩ := amMakeA_s h; obtain ⟨-, -, -, -, e⟩ := amMake_s h; cases e; simp
  case h_4 => obtain ⟨N, av, rest, -, -, -, -, -, -, -, -, e⟩ := amCall_s h; cases e
  case h_5 =>
    split at h
    · obtain ⟨n, dp, o, sp, a0, q, c0, c1, rfl, -, -, -, -, -, -, -, -, e⟩ := amCopy_s h; cases e; simp
    · obtain ⟨N, av, rest, -, -, -, -, -, -, -, -, e⟩ := amCall_s h; cases e
  case h_6 =>
    split at h
    · obtain ⟨o, q, rfl, -, e⟩ := amObj_s h; cases e; simp
    · obtain ⟨N, av, rest, -, -, -, -, -, -, -, -, e⟩ := amCall_s h; cases e
  case h_7 => obtain ⟨v, -, e⟩ := Option.map_eq_some_iff.mp h; cases e
  case h_8 => obtain ⟨v, -, e⟩ := Option.map_eq_some_iff.mp h; cases e
  case h_9 => obtain ⟨v, -, e⟩ := Option.map_eq_some_iff.mp h; cases e
  case h_10 => obtain ⟨v, -, e⟩ := Option.map_eq_some_iff.mp h; cases e
  case h_11 => obtain ⟨v, -, e⟩ := Option.map_eq_some_iff.mp h; cases e
  case h_12 => obtain ⟨v, h1, e⟩ := Option.map_eq_some_iff.mp h; cases e; rw [amStep_len h1]; exact Nat.le_refl _
theorem amRun_mono {G : Nat → Option amM} : ∀ (f : Nat) (sc : Option (List Int32)) (d : Nat) (M : amM) (cs : amP) (pc : Nat) (ls : amL) (st : List Value) (hp : amH) (kc ks : Nat) (x : Option Value ⊕ Nat) (hp1 : amH) (mc ms : Nat), amRun G sc f d M cs pc ls st hp kc ks = some (x, hp1, mc, ms) → kc ≤ mc ∧ ks ≤ ms ∧ hp.length ≤ hp1.length := by
  intro f
  induction f with
  | zero => intro sc d M cs pc ls st hp kc ks x hp1 mc ms h; unfold amRun at h; cases h
  | succ f ih =>
    intro sc d M cs pc ls st hp kc ks x hp1 mc ms h
    cases cs with
    | nil => unfold amRun at h; cases h
    | cons q cs =>
      unfold amRun at h
      split at h
      · split at h
        · cases h
        · next r dk ds e =>
          obtain ⟨h1, h2, h3⟩ := ih _ _ _ _ _ _ _ _ _ _ _ _ _ _ h
          have := amDo_len e
          exact ⟨by omega, by omega, by omega⟩
        · cases h; exact ⟨Nat.le_refl _, Nat.le_refl _, Nat.le_refl _⟩
        · cases h; exact ⟨Nat.le_add_right _ _, Nat.le_add_right _ _, Nat.le_refl _⟩
        · split at h
          · split at h
            · next e =>
              obtain ⟨g1, g2, g3⟩ := ih _ _ _ _ _ _ _ _ _ _ _ _ _ _ e
              obtain ⟨h1, h2, h3⟩ := ih _ _ _ _ _ _ _ _ _ _ _ _ _ _ h
              exact ⟨by omega, by omega, by omega⟩
            · next e =>
              obtain ⟨g1, g2, g3⟩ := ih _ _ _ _ _ _ _ _ _ _ _ _ _ _ e
              split at h
              · cases h
              split at h
              · cases h; exact ⟨by omega, by omega, by omega⟩
              · split at h
                · obtain ⟨h1, h2, h3⟩ := ih _ _ _ _ _ _ _ _ _ _ _ _ _ _ h
                  exact ⟨by omega, by omega, by omega⟩
                · cases h
            · cases h
          · cases h
      · cases h
end
section
/-! ===== contracts of the abstract machine's runs; calls ===== -/
/-- a method's names: name, bytes, table of handlers -/
abbrev amN : Type := MethodName × ByteArray × List (Nat × Nat × Nat × Nat)
def amEx : List String := ["java/lang/IllegalArgumentException", "java/lang/IndexOutOfBoundsException", "java/lang/IllegalStateException", "java/util/NoSuchElementException"]
def amXn : List String := ["java/lang/RuntimeException", "java/lang/Exception"]
def amNk : Jvm.Cond → Bool
  | .methodLinkNest .. => true
  | .castable .. => true
  | .declares .. => true
  | _ => false
def amNc : List (String × String) := [("java/lang/IllegalArgumentException", "java/lang/IndexOutOfBoundsException"), ("java/lang/IllegalStateException", "java/lang/IndexOutOfBoundsException"), ("java/lang/IllegalStateException", "java/lang/IllegalArgumentException"), ("java/util/NoSuchElementException", "java/lang/IndexOutOfBoundsException"), ("java/util/NoSuchElementException", "java/lang/IllegalArgumentException")]
/-- the words that every method is handed -/
def amWL : List Jvm.Cond := lw_tbl.filter goodWord
theorem amWL_good {ws : List Jvm.Cond} (h : ∀ w ∈ ws, w ∈ amWL) : GoodIn amWL ws := fun w hw => ⟨h w hw, good_of_word (List.mem_filter.mp (h w hw)).2⟩
theorem amWL_in {w : Jvm.Cond} (h : w ∈ lw_tbl) (hg : goodWord w = true) : w ∈ amWL := List.mem_filter.mpr ⟨h, hg⟩
def amRm (d mc ms : Nat) : Room := { frames := d + 8, cells := mc, slots := ms, locals := 128 * (d + 1) }
theorem amNk_warm {w : Jvm.Cond} {s U : State} (h : amNk w = true) (hW : s.WarmedH U.vm) (hZ : va_Nw w s) : va_Nw w U := by
  cases w <;> first
    | exact va_Nw.warmM hW hZ
    | exact va_Nw.warmC hW hZ
    | exact va_Nw.warmD hW hZ
    | cases h
/-- what the tables say at a state, beside the words -/
def amG (D : va_G) (dA : Nat → ClassId) (sA : Nat → Nat) (U : State) : Prop :=
  va_K D vwCl (amTys dA) U ∧ (∀ (k : Nat) (r : String × Nat × String), amStr[k]? = some r → vk_R r.1 r.2.1 r.2.2 (sA k) U) ∧ (∀ w ∈ lw_tbl, amNk w = true → va_Nw w U) ∧ (∀ q ∈ amNc, va_Nc q.1 q.2 U) ∧ va_AO "TripleTrains$Snapshot" U
theorem amG.warm {D : va_G} {dA : Nat → ClassId} {sA : Nat → Nat} {s U : State} (hW : s.WarmedH U.vm) (h : amG D dA sA s) : amG D dA sA U :=
  ⟨va_K.moved hW.alike h.1, fun k r hk => vk_R.warm hW (h.2.1 k r hk), fun w hw hk => amNk_warm hk hW (h.2.2.1 w hw hk), fun q hq => va_Nc.moved hW.alike (h.2.2.2.1 q hq), va_AO.moved hW.alike h.2.2.2.2⟩
/-- the two statics that a throw reads -/
def amZ (A : Nat → Prop) (U : State) (H : Heap) : Prop := vx_Zq Bundle.tN "UNASSIGNED_STACK" Bundle.steD A U H ∧ vx_Zq Bundle.tN "SUPPRESSED_SENTINEL" Bundle.listD A U H
theorem amZ.moved {A : Nat → Prop} {u U : State} {H : Heap} (hvm : u.vm.Alike U.vm) (h : amZ A u H) : amZ A U H := ⟨vx_Zq.moved hvm h.1, vx_Zq.moved hvm h.2⟩
theorem amZ.kept {A : Nat → Prop} {U : State} {H H1 : Heap} (h : amZ A U H) (hq : ∀ a : Nat, a < H.size → ¬ A a → H1[a]? = H[a]?) : amZ A U H1 := ⟨h.1.kept hq, h.2.kept hq⟩
theorem amZ.narrow {A B : Nat → Prop} {U : State} {H : Heap} (h : amZ A U H) (hAB : ∀ q, B q → A q) : amZ B U H := ⟨h.1.narrow hAB, h.2.narrow hAB⟩
def amAg (n : Nat) (ad ad1 : Nat → Nat) : Prop := ∀ i, i < n ∨ amK ≤ i → ad1 i = ad i
theorem amAg.refl (n : Nat) (ad : Nat → Nat) : amAg n ad ad := fun _ _ => rfl
theorem amAg.trans {n k : Nat} {a b c : Nat → Nat} (h : n ≤ k) (h1 : amAg n a b) (h2 : amAg k b c) : amAg n a c := fun i hi => (h2 i (hi.imp (fun z => Nat.lt_of_lt_of_le z h) id)).trans (h1 i hi)
theorem amV_ag {n : Nat} {ad ad1 : Nat → Nat} {v : Value} (h : amOk n v = true) (hag : amAg n ad ad1) : amV ad1 v = amV ad v := by
  cases v <;> first
    | rfl
    | (simp only [amOk, Bool.or_eq_true, decide_eq_true_eq] at h
       exact congrArg Value.ref (hag _ h))
theorem amSt_ag {n : Nat} {ad ad1 : Nat → Nat} {st : List Value} (h : amOkS n st = true) (hag : amAg n ad ad1) : st.map (amV ad1) = st.map (amV ad) :=
  List.map_congr_left fun v hv => amV_ag (List.all_eq_true.mp h v hv) hag
theorem amLs_ag {n : Nat} {ad ad1 : Nat → Nat} {ls : amL} (h : amOkL n ls = true) (hag : amAg n ad ad1) : amLs ad1 ls = amLs ad ls :=
  List.map_congr_left fun q hq => by rw [amV_ag (List.all_eq_true.mp h q hq) hag]
theorem amE_ag {dA : Nat → ClassId} {n : Nat} {ad ad1 : Nat → Nat} {c : amC} (h : ((decide (32 ≤ c.1) && decide (c.1 ≤ 34)) || c.2.all (amOk n)) = true) (hag : amAg n ad ad1) : amE dA ad1 c = amE dA ad c := by
  obtain ⟨t, vs⟩ := c
  unfold amE
  dsimp only at h ⊢
  by_cases h1 : t = 32
  · rw [if_pos h1, if_pos h1]
  · by_cases h2 : t = 33
    · rw [if_neg h1, if_pos h2, if_neg h1, if_pos h2]
    · by_cases h3 : t = 34
      · rw [if_neg h1, if_neg h2, if_pos h3, if_neg h1, if_neg h2, if_pos h3]
      · have hv : vs.all (amOk n) = true := by
          simp only [Bool.or_eq_true, Bool.and_eq_true, decide_eq_true_eq] at h
          rcases h with h | h
          · omega
          · exact h
        by_cases h4 : t = 35
        · rw [if_neg h1, if_neg h2, if_neg h3, if_pos h4, if_neg h1, if_neg h2, if_neg h3, if_pos h4]
          have e : (fun j => amRef ad1 (vs.getD j .null)) = (fun j => amRef ad (vs.getD j .null)) := by
            funext j
            by_cases hj : j < vs.length
            · have hm : amOk n (vs.getD j .null) = true := by
                rw [List.getD_eq_getElem?_getD, List.getElem?_eq_getElem hj]
                exact List.all_eq_true.mp hv _ (List.getElem_mem hj)
              have := amV_ag hm hag
              generalize vs.getD j .null = w at this
              cases w <;> first
                | rfl
                | (simp only [amV, Value.ref.injEq] at this; simp [amRef, this])
            · rw [List.getD_eq_getElem?_getD, List.getElem?_eq_none (by omega)]; rfl
          rw [e]
        · rw [if_neg h1, if_neg h2, if_neg h3, if_neg h4, if_neg h1, if_neg h2, if_neg h3, if_neg h4]
          have e : vs.map (amV ad1) = vs.map (amV ad) := amSt_ag hv hag
          rw [e]
theorem amW_ag {dA : Nat → ClassId} {hp : amH} {ad ad1 : Nat → Nat} (h : amOkH hp.length hp = true) (hag : amAg hp.length ad ad1) : amW dA ad1 hp = amW dA ad hp := by
  apply List.ext_getElem?
  intro j
  by_cases hj : j < hp.length
  · have hc : hp[j]? = some hp[j] := List.getElem?_eq_getElem hj
    rw [amW_get hc, amW_get hc, amE_ag (List.all_eq_true.mp h _ (List.getElem_mem hj)) hag, hag j (Or.inl hj)]
  · rw [List.getElem?_eq_none (by simp [amW]; omega), List.getElem?_eq_none (by simp [amW]; omega)]
/-- what a run answers, over the machine -/
def amQ (D : va_G) (dA : Nat → ClassId) (ad : Nat → Nat) (n : Nat) (A : Nat → Prop) (x : Option Value ⊕ Nat) (hp1 : amH) : Array Value → State → Outcome → State → Prop := fun _ st o t =>
  ∃ (v : Option Value) (ad1 : Nat → Nat), x = .inl v ∧ o = .returned (v.map (amV ad1)) ∧ amAg n ad ad1 ∧ va_P D vwCl (amW dA ad1 hp1) t.heap ∧ va_D A (amW dA ad1 hp1) ∧ va_F A st t
def amX (D : va_G) (dA : Nat → ClassId) (ad : Nat → Nat) (n : Nat) (A : Nat → Prop) (x : Option Value ⊕ Nat) (hp1 : amH) : String → State → State → Prop := fun E st t =>
  ∃ (k : Nat) (ad1 : Nat → Nat), x = .inr k ∧ amEx[k]? = some E ∧ amAg n ad ad1 ∧ va_P D vwCl (amW dA ad1 hp1) t.heap ∧ va_D A (amW dA ad1 hp1) ∧ va_F A st t
def amPc (D : va_G) (dA : Nat → ClassId) (sA : Nat → Nat) (ad : Nat → Nat) (hp : amH) (av : List Value) (sz : Nat) : Array Value → State → Prop := fun v U =>
  v = (av.map (amV ad)).toArray ∧ U.heap.size = sz ∧ amG D dA sA U ∧ va_P D vwCl (amW dA ad hp) U.heap ∧ va_D (fun _ => True) (amW dA ad hp) ∧ amZ (va_A (amW dA ad hp) sz) U U.heap
theorem amPc_blind {D : va_G} {dA : Nat → ClassId} {sA : Nat → Nat} {ad : Nat → Nat} {hp : amH} {av : List Value} {sz : Nat} : FrameBlind (amPc D dA sA ad hp av sz) := fun a U g mk q => by
  obtain ⟨q0, q1, q2, q3, q4, q5⟩ := q
  exact ⟨q0, q1, amG.warm (s := U) (U := U.calling g mk a) (State.WarmedH.refl U) q2, q3, q4, amZ.moved (u := U) (U := U.calling g mk a) (Vm.Alike.refl U.vm) q5⟩
theorem am_toMet {l : Launch} {y : MethodName} {ws : List Jvm.Cond} {rm : Room} {Pc : Array Value → State → Prop} {Qc : Array Value → State → Outcome → State → Prop} {XC : String → State → State → Prop} {mc ms : Nat} {free : Addr → Prop} (h : vx_Met l y ws rm Pc Qc XC mc ms free) (hno : ∀ E st t, ¬ XC E st t) : Met l y ws rm Pc Qc mc ms free := by
  intro p e ha hc hk s m args below hf happ hP hK
  obtain ⟨n, o, h1, h2, h3, h4⟩ := h p e ha hc hk s m args below hf happ hP hK
  refine ⟨n, o, h1, h2, h3, ?_⟩
  rcases h4 with h4 | ⟨q, -, E, ce, L, hx, -⟩
  · exact h4
  · exact absurd hx (hno _ _ _)
section AMC
variable {p : Program} {l : Launch} {e : Env} {R : Room} {s : State} {m : MethodId} {args : Array Value} {below : List Frame} {meth : Method} {c : Code} {H : Heap} {locs : List Loc} {cells slots : Nat} {Q : State → Prop}
variable {cc : ByteArray} {D : va_G} {dA : Nat → ClassId} {A : Nat → Prop} {sA : Nat → Nat} {nL : Nat} {own : String}
theorem am_pre {ad : Nat → Nat} {hp : amH} {av : List Value} (hG : amG D dA sA s) (hZ : amZ A s s.heap) (hA : ∀ q, s.heap.size ≤ q → A q) (hP : va_P D vwCl (amW dA ad hp) H) (hD : va_D A (amW dA ad hp)) (hS : va_S A s.heap H locs) (hF : ∀ q, va_A (amW dA ad hp) H.size q → A q) : ∀ U : State, U.heap = H → s.WarmedH U.vm → amPc D dA sA ad hp av H.size (av.map (amV ad)).toArray U := by
  intro U hU hW
  refine ⟨rfl, by rw [hU], amG.warm hW hG, by rw [hU]; exact hP, hD.weaken (fun _ _ _ _ => trivial), ?_⟩
  rw [hU]
  exact amZ.moved hW.alike ((hZ.kept hS.2.1).narrow hF)
theorem am_free {ad : Nat → Nat} {hp : amH} (hA : ∀ q, s.heap.size ≤ q → A q) (hD : va_D A (amW dA ad hp)) (hS : va_S A s.heap H locs) : ∀ q, va_A (amW dA ad hp) H.size q → A q := by
  intro q h
  rcases h with ⟨k, e, h⟩ | h
  · exact hD.2 k _ h
  · exact hA q (Nat.le_trans hS.1 h)
/-- behind a call -/
theorem am_call {ad : Nat → Nat} {n mc ms pc : Nat} {A1 : Nat → Prop} {x : Option Value ⊕ Nat} {hp1 : amH} {lsA : Array Slot} {st0 rest : List Value} {a : Array Value} (hr : vx_Run p l e R s m args below meth c H locs cells slots mc ms (F0 m pc lsA st0) (rest.map (amV ad)) (amQ D dA ad n A1 x hp1 a) (amX D dA ad n A1 x hp1) A1) (hS : va_S A s.heap H locs) (hf : ∀ q, A1 q → A q) (hok : amOkS n rest = true)
    (kk : ∀ (v : Option Value) (ad1 : Nat → Nat) (H1 : Heap) (locs1 : List Loc), x = .inl v → amAg n ad ad1 → va_P D vwCl (amW dA ad1 hp1) H1 → va_D A (amW dA ad1 hp1) → va_S A s.heap H1 locs1 → W p l e R s m args below meth c H1 locs1 (cells + mc) (slots + ms) Q (F0 m (pc + 3) lsA ((v.toList ++ rest).map (amV ad1))))
    (kx : ∀ (k : Nat) (E : String) (ce : Cell) (q9 : Addr) (ad1 : Nat → Nat) (H1 : Heap) (locs1 : List Loc), x = .inr k → amEx[k]? = some E → amAg n ad ad1 → va_P D vwCl (amW dA ad1 hp1) H1 → va_D A (amW dA ad1 hp1) → va_S A s.heap H1 locs1 → H1[q9]? = some ce → ce.vm = .none → s.vm.findClass E = some ce.cls → vx_W p l e R s m args below meth c H1 locs1 (cells + mc) (slots + ms) Q (F0 m pc lsA (rest.map (amV ad))) q9) :
    W p l e R s m args below meth c H locs cells slots Q (F0 m pc lsA st0) := by
  intro T hT X
  rcases hr T hT X with ⟨v, st₀, t, T', L, h0, X', hL, e1, e2, ⟨w, ad1, ex, hv, hag, hp, hd, hF⟩, st⟩ | ⟨q, st₀, t, T', L, E, ce, h0, X', hL, e1, e2, ⟨k, ad1, ex, hE, hag, hp, hd, hF⟩, hce, hcv, hcl, st⟩
  · cases hv
    obtain ⟨k1, k2, k3⟩ := vx_keep h0 e1 hS (fun q _ h => hf q h) hf hL hF
    obtain ⟨t2, a1, b1⟩ := kk w ad1 T'.heap (locs ++ L) ex hag (by rw [e1]; exact hp) (hd.weaken (fun _ _ _ h => hf _ h)) k3 T' rfl X'
    refine ⟨t2, st t2 ?_, b1⟩
    have e3 : (w.toList ++ rest).map (amV ad1) = (w.map (amV ad1)).toList ++ rest.map (amV ad) := by
      rw [List.map_append, amSt_ag hok hag]
      cases w <;> rfl
    rw [e3] at a1
    exact a1
  · obtain ⟨k1, k2, k3⟩ := vx_keep h0 e1 hS (fun q _ h => hf q h) hf hL hF
    obtain ⟨t2, a1, b1⟩ := kx k E ce q ad1 T'.heap (locs ++ L) ex hE hag (by rw [e1]; exact hp) (hd.weaken (fun _ _ _ h => hf _ h)) k3 (by rw [e1]; exact hce) hcv hcl T' rfl X'
    exact ⟨t2, st.trans a1, b1⟩
theorem am_runX {mc ms : Nat} {g : JFrame} {rest : List Value} {Qa : State → Outcome → State → Prop} {XC : String → State → State → Prop} {free : Addr → Prop} (h : va_Run p l e R s m args below meth c H locs cells slots mc ms g rest Qa free) : vx_Run p l e R s m args below meth c H locs cells slots mc ms g rest Qa XC free := fun T hT X => Or.inl (h T hT X)
/-- what a call needs of the room -/
theorem am_roomOk {d mc ms nLc : Nat} (hR : d + 9 ≤ R.frames ∧ 128 * (d + 2) ≤ R.locals) (hn : nLc ≤ 100) : (amRm d mc ms).frames + 1 ≤ R.frames ∧ 8 + (nLc + 11) + (amRm d mc ms).locals ≤ R.locals := by
  unfold amRm
  dsimp only
  omega
/-- a call by the receiver's class -/
theorem am_callV (S : CallFix p m c cc nL s args amWL own) (hG : amG D dA sA s) (hZ : amZ A s s.heap) (hA : ∀ q, s.heap.size ≤ q → A q) {ad : Nat → Nat} {hp hp1 : amH} (hP : va_P D vwCl (amW dA ad hp) H) (hD : va_D A (amW dA ad hp)) (hS : va_S A s.heap H locs) {d mc ms pc idx nLc n ci o : Nat} {y : MethodName} {bytes : ByteArray} {retc : Option FieldType} {r : vw_C} {fs : List Value} {lsA : Array Slot} {As rest : List Value} {x : Option Value ⊕ Nat}
    (hM : vx_Met l y (Jvm.Cond.code y bytes nLc retc :: amWL) (amRm d mc ms) (amPc D dA sA ad hp (.ref o :: As) H.size) (amQ D dA ad hp.length (va_A (amW dA ad hp) H.size) x hp1) (amX D dA ad hp.length (va_A (amW dA ad hp) H.size) x hp1) mc ms (va_A (amW dA ad hp) H.size))
    (hc : vwCl[ci]? = some r) (hci : ci < 32) (ho : hp[o]? = some (ci, fs)) (hcls : y.cls = r.1) (w1 : Jvm.Cond.methodLink own idx y ∈ amWL) (w2 : Jvm.Cond.instanceMethod y ∈ amWL) (w3 : Jvm.Cond.selects r.1 y y ∈ amWL) (w4 : Jvm.Cond.initialized r.1 ∈ amWL) (w5 : Jvm.Cond.code y bytes nLc retc ∈ amWL) (hd : y.cls ≠ "java/lang/invoke/MethodHandle" ∧ y.cls ≠ "java/lang/invoke/VarHandle" ∧ (parseMethodDescriptor y.desc).map (fun d => d.parameters.length) = some n) (hn : As.length = n) (hnL : nLc ≤ 100)
    (hR : d + 9 ≤ R.frames ∧ 128 * (d + 2) ≤ R.locals) (hf : cells + mc ≤ R.cells ∧ slots + ms ≤ R.slots) (hsz : lsA.size = nL) (hok : amOkS hp.length rest = true) (hw : (rest.map fun v => v.category).sum ≤ 8) (hdg : decode cc pc = .ok (.invokevirtual idx, 3))
    (kk : ∀ (v : Option Value) (ad1 : Nat → Nat) (H1 : Heap) (locs1 : List Loc), x = .inl v → amAg hp.length ad ad1 → va_P D vwCl (amW dA ad1 hp1) H1 → va_D A (amW dA ad1 hp1) → va_S A s.heap H1 locs1 → W p l e R s m args below meth c H1 locs1 (cells + mc) (slots + ms) Q (F0 m (pc + 3) lsA ((v.toList ++ rest).map (amV ad1))))
    (kx : ∀ (k : Nat) (E : String) (ce : Cell) (q9 : Addr) (ad1 : Nat → Nat) (H1 : Heap) (locs1 : List Loc), x = .inr k → amEx[k]? = some E → amAg hp.length ad ad1 → va_P D vwCl (amW dA ad1 hp1) H1 → va_D A (amW dA ad1 hp1) → va_S A s.heap H1 locs1 → H1[q9]? = some ce → ce.vm = .none → s.vm.findClass E = some ce.cls → vx_W p l e R s m args below meth c H1 locs1 (cells + mc) (slots + ms) Q (F0 m pc lsA (rest.map (amV ad))) q9) :
    W p l e R s m args below meth c H locs cells slots Q (F0 m pc lsA ((((.ref o :: As) : List Value).reverse ++ rest).map (amV ad))) := by
  have hF := am_free hA hD hS
  have hg := amW_get (dA := dA) (ad := ad) ho
  rw [amE_obj hci] at hg
  have hcat : ((rest.map (amV ad)).map fun v => v.category).sum ≤ 8 := by
    rw [List.map_map]
    simpa [Function.comp_def, amV_cat] using hw
  refine am_call (vx_runV (As := As.map (amV ad)) (rest := rest.map (amV ad)) (b := ad o) (C := r.1) S hM (cwV n S.2.2.2.2 (amWL_good (fun w hw => ?_)) rfl rfl rfl ⟨hcls, hd⟩ (am_roomOk hR hnL)) ⟨amPc_blind, va_recv hG.1 hP hc hg, am_pre (av := .ref o :: As) hG hZ hA hP hD hS hF⟩ rfl (by rw [List.length_map]; exact hn) hsz (by simp [F0, amV]) (lv_room hcat) hdg hf) hS hF hok kk kx
  simp only [wsV, List.cons_append, List.nil_append, List.mem_cons] at hw
  rcases hw with rfl | rfl | rfl | rfl | rfl | hw
  · exact w1
  · exact w2
  · exact w3
  · exact w4
  · exact w5
  · exact hw
/-- a static call -/
theorem am_callS (S : CallFix p m c cc nL s args amWL own) (hG : amG D dA sA s) (hZ : amZ A s s.heap) (hA : ∀ q, s.heap.size ≤ q → A q) {ad : Nat → Nat} {hp hp1 : amH} (hP : va_P D vwCl (amW dA ad hp) H) (hD : va_D A (amW dA ad hp)) (hS : va_S A s.heap H locs) {d mc ms pc idx nLc n : Nat} {y : MethodName} {bytes : ByteArray} {retc : Option FieldType} {lsA : Array Slot} {As rest : List Value} {x : Option Value ⊕ Nat}
    (hM : vx_Met l y (Jvm.Cond.code y bytes nLc retc :: amWL) (amRm d mc ms) (amPc D dA sA ad hp As H.size) (amQ D dA ad hp.length (va_A (amW dA ad hp) H.size) x hp1) (amX D dA ad hp.length (va_A (amW dA ad hp) H.size) x hp1) mc ms (va_A (amW dA ad hp) H.size))
    (w1 : Jvm.Cond.methodLink own idx y ∈ amWL) (w2 : Jvm.Cond.static y ∈ amWL) (w4 : Jvm.Cond.initialized y.cls ∈ amWL) (w5 : Jvm.Cond.code y bytes nLc retc ∈ amWL) (hd : y.cls ≠ "java/lang/invoke/MethodHandle" ∧ y.cls ≠ "java/lang/invoke/VarHandle" ∧ (parseMethodDescriptor y.desc).map (fun d => d.parameters.length) = some n) (hn : As.length = n) (hnL : nLc ≤ 100)
    (hR : d + 9 ≤ R.frames ∧ 128 * (d + 2) ≤ R.locals) (hf : cells + mc ≤ R.cells ∧ slots + ms ≤ R.slots) (hsz : lsA.size = nL) (hok : amOkS hp.length rest = true) (hw : (rest.map fun v => v.category).sum ≤ 8) (hdg : decode cc pc = .ok (.invokestatic idx, 3))
    (kk : ∀ (v : Option Value) (ad1 : Nat → Nat) (H1 : Heap) (locs1 : List Loc), x = .inl v → amAg hp.length ad ad1 → va_P D vwCl (amW dA ad1 hp1) H1 → va_D A (amW dA ad1 hp1) → va_S A s.heap H1 locs1 → W p l e R s m args below meth c H1 locs1 (cells + mc) (slots + ms) Q (F0 m (pc + 3) lsA ((v.toList ++ rest).map (amV ad1))))
    (kx : ∀ (k : Nat) (E : String) (ce : Cell) (q9 : Addr) (ad1 : Nat → Nat) (H1 : Heap) (locs1 : List Loc), x = .inr k → amEx[k]? = some E → amAg hp.length ad ad1 → va_P D vwCl (amW dA ad1 hp1) H1 → va_D A (amW dA ad1 hp1) → va_S A s.heap H1 locs1 → H1[q9]? = some ce → ce.vm = .none → s.vm.findClass E = some ce.cls → vx_W p l e R s m args below meth c H1 locs1 (cells + mc) (slots + ms) Q (F0 m pc lsA (rest.map (amV ad))) q9) :
    W p l e R s m args below meth c H locs cells slots Q (F0 m pc lsA ((As.reverse ++ rest).map (amV ad))) := by
  have hF := am_free hA hD hS
  have hcat : ((rest.map (amV ad)).map fun v => v.category).sum ≤ 8 := by
    rw [List.map_map]
    simpa [Function.comp_def, amV_cat] using hw
  refine am_call (vx_runS (As := As.map (amV ad)) (rest := rest.map (amV ad)) S hM (va_cwS n S.2.2.2.2 (amWL_good (fun w hw => ?_)) rfl rfl rfl hd (am_roomOk hR hnL)) ⟨amPc_blind, am_pre (av := As) hG hZ hA hP hD hS hF⟩ rfl (by rw [List.length_map]; exact hn) hsz (by simp [F0]) (lv_room hcat) hdg hf) hS hF hok kk kx
  simp only [va_wsS, List.cons_append, List.nil_append, List.mem_cons] at hw
  rcases hw with rfl | rfl | rfl | rfl | hw
  · exact w1
  · exact w2
  · exact w4
  · exact w5
  · exact hw
theorem amX_no {ad : Nat → Nat} {n : Nat} {A1 : Nat → Prop} {v : Option Value} {hp1 : amH} : ∀ E st t, ¬ amX D dA ad n A1 (.inl v) hp1 E st t := by
  intro E st t h
  obtain ⟨k, ad1, h1, -⟩ := h
  cases h1
/-- a static call of a method with a table, that returns -/
theorem am_callSW (S : CallFix p m c cc nL s args amWL own) (hG : amG D dA sA s) (hZ : amZ A s s.heap) (hA : ∀ q, s.heap.size ≤ q → A q) {ad : Nat → Nat} {hp hp1 : amH} (hP : va_P D vwCl (amW dA ad hp) H) (hD : va_D A (amW dA ad hp)) (hS : va_S A s.heap H locs) {d mc ms pc idx nLc n : Nat} {y : MethodName} {bytes : ByteArray} {hh : List (Nat × Nat × Nat × Nat)} {retc : Option FieldType} {lsA : Array Slot} {As rest : List Value} {v : Option Value}
    (hM : vx_Met l y (Jvm.Cond.codeWith y bytes nLc retc hh :: amWL) (amRm d mc ms) (amPc D dA sA ad hp As H.size) (amQ D dA ad hp.length (va_A (amW dA ad hp) H.size) (.inl v) hp1) (amX D dA ad hp.length (va_A (amW dA ad hp) H.size) (.inl v) hp1) mc ms (va_A (amW dA ad hp) H.size))
    (w1 : Jvm.Cond.methodLink own idx y ∈ amWL) (w2 : Jvm.Cond.static y ∈ amWL) (w4 : Jvm.Cond.initialized y.cls ∈ amWL) (w5 : Jvm.Cond.codeWith y bytes nLc retc hh ∈ amWL) (hd : y.cls ≠ "java/lang/invoke/MethodHandle" ∧ y.cls ≠ "java/lang/invoke/VarHandle" ∧ (parseMethodDescriptor y.desc).map (fun d => d.parameters.length) = some n) (hn : As.length = n) (hnL : nLc ≤ 100)
    (hR : d + 9 ≤ R.frames ∧ 128 * (d + 2) ≤ R.locals) (hf : cells + mc ≤ R.cells ∧ slots + ms ≤ R.slots) (hsz : lsA.size = nL) (hok : amOkS hp.length rest = true) (hw : (rest.map fun v => v.category).sum ≤ 8) (hdg : decode cc pc = .ok (.invokestatic idx, 3))
    (kk : ∀ (ad1 : Nat → Nat) (H1 : Heap) (locs1 : List Loc), amAg hp.length ad ad1 → va_P D vwCl (amW dA ad1 hp1) H1 → va_D A (amW dA ad1 hp1) → va_S A s.heap H1 locs1 → W p l e R s m args below meth c H1 locs1 (cells + mc) (slots + ms) Q (F0 m (pc + 3) lsA ((v.toList ++ rest).map (amV ad1)))) :
    W p l e R s m args below meth c H locs cells slots Q (F0 m pc lsA ((As.reverse ++ rest).map (amV ad))) := by
  have hF := am_free hA hD hS
  have hcat : ((rest.map (amV ad)).map fun v => v.category).sum ≤ 8 := by
    rw [List.map_map]
    simpa [Function.comp_def, amV_cat] using hw
  refine am_call (x := .inl v) (am_runX (vx_runSW (hh := hh) (As := As.map (amV ad)) (rest := rest.map (amV ad)) S (am_toMet hM amX_no) (vx_cwSW n S.2.2.2.2 (amWL_good (fun w hw => ?_)) rfl rfl rfl hd (am_roomOk hR hnL)) ⟨amPc_blind, am_pre (av := As) hG hZ hA hP hD hS hF⟩ rfl (by rw [List.length_map]; exact hn) hsz (by simp [F0]) (lv_room hcat) hdg hf)) hS hF hok (fun w ad1 H1 locs1 ex => by cases ex; exact kk ad1 H1 locs1) (fun k E ce q9 ad1 H1 locs1 ex => by cases ex)
  simp only [va_wsS, List.cons_append, List.nil_append, List.mem_cons] at hw
  rcases hw with rfl | rfl | rfl | rfl | hw
  · exact w1
  · exact w2
  · exact w4
  · exact w5
  · exact hw
/-- a constructor's call -/
theorem am_callI (S : CallFix p m c cc nL s args amWL own) (hG : amG D dA sA s) (hZ : amZ A s s.heap) (hA : ∀ q, s.heap.size ≤ q → A q) {ad : Nat → Nat} {hp hp1 : amH} (hP : va_P D vwCl (amW dA ad hp) H) (hD : va_D A (amW dA ad hp)) (hS : va_S A s.heap H locs) {d mc ms pc idx nLc n o : Nat} {y : MethodName} {bytes : ByteArray} {lsA : Array Slot} {As rest : List Value} {v : Option Value}
    (hM : vx_Met l y (Jvm.Cond.code y bytes nLc none :: amWL) (amRm d mc ms) (amPc D dA sA ad hp (.ref o :: As) H.size) (amQ D dA ad hp.length (va_A (amW dA ad hp) H.size) (.inl v) hp1) (amX D dA ad hp.length (va_A (amW dA ad hp) H.size) (.inl v) hp1) mc ms (va_A (amW dA ad hp) H.size))
    (w1 : Jvm.Cond.methodLink own idx y ∈ amWL ∨ ∃ host, Jvm.Cond.methodLinkNest own idx y host ∈ lw_tbl) (w2 : Jvm.Cond.instanceMethod y ∈ amWL) (w4 : Jvm.Cond.initialized y.cls ∈ amWL) (w5 : Jvm.Cond.code y bytes nLc none ∈ amWL) (hy1 : y.name = "<init>") (hd : y.cls ≠ "java/lang/invoke/MethodHandle" ∧ y.cls ≠ "java/lang/invoke/VarHandle" ∧ (parseMethodDescriptor y.desc).map (fun d => d.parameters.length) = some n) (hn : As.length = n) (hnL : nLc ≤ 100)
    (hR : d + 9 ≤ R.frames ∧ 128 * (d + 2) ≤ R.locals) (hf : cells + mc ≤ R.cells ∧ slots + ms ≤ R.slots) (hsz : lsA.size = nL) (hok : amOkS hp.length rest = true) (hw : (rest.map fun v => v.category).sum ≤ 8) (hdg : decode cc pc = .ok (.invokespecial idx, 3))
    (kk : ∀ (ad1 : Nat → Nat) (H1 : Heap) (locs1 : List Loc), amAg hp.length ad ad1 → va_P D vwCl (amW dA ad1 hp1) H1 → va_D A (amW dA ad1 hp1) → va_S A s.heap H1 locs1 → W p l e R s m args below meth c H1 locs1 (cells + mc) (slots + ms) Q (F0 m (pc + 3) lsA ((v.toList ++ rest).map (amV ad1)))) :
    W p l e R s m args below meth c H locs cells slots Q (F0 m pc lsA ((((.ref o :: As) : List Value).reverse ++ rest).map (amV ad))) := by
  have hF := am_free hA hD hS
  have hts := S.2.2.2.2
  have hgw : GoodIn amWL (Jvm.Cond.code y bytes nLc none :: amWL) := amWL_good (fun w hw => by
    rcases List.mem_cons.mp hw with rfl | hw
    · exact w5
    · exact hw)
  have hcat : ((rest.map (amV ad)).map fun v => v.category).sum ≤ 8 := by
    rw [List.map_map]
    simpa [Function.comp_def, amV_cat] using hw
  have hpre := am_pre (av := .ref o :: As) hG hZ hA hP hD hS hF
  rcases w1 with w1 | ⟨host, w1⟩
  · exact am_call (x := .inl v) (am_runX (va_runI (As := As.map (amV ad)) (rest := rest.map (amV ad)) (b := ad o) S (am_toMet hM amX_no) (cwI n hts hgw rfl rfl rfl (hts _ w4) (hts _ w1) (hts _ w2) hy1 hd (am_roomOk hR hnL)) ⟨amPc_blind, hpre⟩ rfl (by rw [List.length_map]; exact hn) hsz (by simp [F0, amV]) (lv_room hcat) hdg hf)) hS hF hok (fun w ad1 H1 locs1 ex => by cases ex; exact kk ad1 H1 locs1) (fun k E ce q9 ad1 H1 locs1 ex => by cases ex)
  · exact am_call (x := .inl v) (am_runX (va_runIN (As := As.map (amV ad)) (rest := rest.map (amV ad)) (b := ad o) S (am_toMet hM amX_no) ⟨va_cnB n hts hgw rfl rfl rfl (hG.2.2.1 _ w1 rfl) (hts _ w4) hd (am_roomOk hR hnL), hy1, hts _ w2⟩ ⟨amPc_blind, hpre⟩ rfl (by rw [List.length_map]; exact hn) hsz (by simp [F0, amV]) (lv_room hcat) hdg hf)) hS hF hok (fun w ad1 H1 locs1 ex => by cases ex; exact kk ad1 H1 locs1) (fun k E ce q9 ad1 H1 locs1 ex => by cases ex)
end AMC
end
section
/-! ===== a throw of an exception whose constructor links its super's at a place of its own (NoSuchElementException).
The two theorems follow proofs of the library and of the kit (ctorThrowS, vx_throwS): what differs is the first link of the chain. ===== -/
abbrev amNS : String := "java/util/NoSuchElementException"
abbrev amRE : String := "java/lang/RuntimeException"
abbrev am_rx : ByteArray := prog_33_method_4_code
theorem am_rx0 : decode am_rx 0 = .ok (.aload_n 0, 1) := by decide +kernel
theorem am_rx1 : decode am_rx 1 = .ok (.aload_n 1, 1) := by decide +kernel
theorem am_rx2 : decode am_rx 2 = .ok (.invokespecial 13, 3) := by decide +kernel
theorem am_rx5 : decode am_rx 5 = .ok (.return_, 1) := by decide +kernel
/-- the tail of the library's list, which doesn't speak of the chain -/
def am_nt : List Jvm.Cond := (Bundle.ownAtoms "TripleTrains" 283 amNS []).drop (Bundle.throwableAtoms.length + Bundle.throwableSAtoms.length + 5)
def am_nw : List Jvm.Cond := Bundle.throwableAtoms ++ Bundle.throwableSAtoms ++ Bundle.passSAtoms amNS amRE 13 am_rx ++ Bundle.chainSAtoms amRE ["java/lang/Exception"] ++ am_nt
theorem am_nFit : Bundle.fit amNS = true ∧ Bundle.fit amRE = true ∧ ∀ n ∈ ["java/lang/Exception"], Bundle.fit n = true := by decide +kernel
section AMN
variable {p : Program} {l : Launch} {e : Env} {R : Room} {s : State} {m₀ : MethodId} {args : Array Value} {below : List Frame} {meth : Method} {c : Code} {W : State} {locs : List Loc} {cells slots : Nat}
set_option maxHeartbeats 4000000 in
theorem am_ctorN (X : Stand p l e R s m₀ args below meth c W locs cells slots) (hexec : p.tables.exec = Jvm.exec) (htr : e.platform.stackTraces = false)
    (hown : s.vm.findClass "TripleTrains" = some m₀.cls) (h : ∀ a ∈ am_nw, a.before args s = true)
    (hlocs : ∀ x ∈ locs, ∀ cell, s.heap[x.base]? = some cell → cell.vm.isStatics = false)
    {a : Addr} {cX : ClassId} {kX : Class} (hfoundX : s.vm.findClass amNS = some cX) (hkX : s.vm.classes[cX]? = some kX) (hcell : W.heap[a]? = some (freshCell cX kX)) (hnew : s.heap.size ≤ a)
    {msg : Value} (hmsg : msg.isRef = true)
    {g : JFrame} (hg : g.method = m₀) (hsize : g.locals.size = c.maxLocals) (hlocked : g.locked = none) (hentered : g.entered = []) {rest : List Value} (hstack : g.stack = msg :: .ref a :: .ref a :: rest)
    (hd6 : decode c.code g.pc = .ok (.invokespecial 283, 3)) (hd9 : decode c.code (g.pc + 3) = .ok (.athrow, 1)) (hout : ∀ x ∈ c.exceptionTable.toList, covers x (g.pc + 3) = false)
    (hRframes : 5 < R.frames) (hRlocals : 2 * g.monitorRoom + ((Value.ref a :: rest).map fun v => v.category).sum + 81 ≤ R.locals) (hlocks : meth.locks = false) :
    ∃ U : State, Steps p.tables e below (W.setTop g) U ∧ U.status = .running ∧ Ended U below (.threw a) ∧ s.WarmedH U.vm ∧ s.sameButNew ({ U with vm := s.vm } : State) locs cells slots ∧
      ∃ ce, U.heap[a]? = some ce ∧ s.vm.findClass amNS = some ce.cls ∧ ce.vm = .none := by
  have howns : e.platform.frameOwnsMonitors = true := by rw [X.admits.platform]
  have hfin : e.platform.finalization = false := by rw [X.admits.platform]
  have hpl : e.platform.magicAccessors = ({} : Platform).magicAccessors := by rw [X.admits.platform]
  have a' : ∀ x, x ∈ am_nw → x.holds args s none s [] = true := fun x hx => h x hx
  obtain ⟨T, Z0, L, -, Y⟩ := ThrowableC.of_atoms (args := args) howns hfin hpl (fun x hx => h x (by simp [am_nw, hx]))
  obtain ⟨Z, M, LZ, LM, hnZ⟩ := Init0T.ofS_atoms (args := args) hpl L Y (fun x hx => h x (by simp [am_nw, hx]))
  obtain ⟨P1, L1, hP1m, hs1⟩ := PassC.ofS_atoms (args := args) (s := s) hpl (X := amNS) (Y := amRE) (Bundle.fit_spec am_nFit.1).1 (Bundle.fit_spec am_nFit.2.1).2 am_rx0 am_rx1 am_rx2 am_rx5 (fun x hx => h x (by simp only [am_nw, List.mem_append]; exact Or.inl (Or.inl (Or.inr hx))))
  obtain ⟨P2, Ps, hlen, L2, hL, hP2m, hlink1, hlink⟩ := Bundle.chainS (args := args) hpl hnZ ["java/lang/Exception"] amRE am_nFit.2.1 am_nFit.2.2 (fun x hx => h x (by simp only [am_nw, List.mem_append]; exact Or.inl (Or.inr hx)))
  have hfound : s.vm.findClass amNS = some P1.m.cls := findClass_of_methodNamed hP1m
  cases Option.some.inj (hfoundX.symm.trans hfound)
  obtain ⟨c1, kX', hc1, hk, hord, -, -, hn6⟩ := Cond.instantiable_spec (a' (.instantiable amNS 6) (by decide +kernel))
  cases Option.some.inj (hc1.symm.trans hfound)
  cases Option.some.inj (hkX.symm.trans hk)
  have hsel0 : selectMethod e.platform s.vm P1.m.cls T.fill0 = .method T.fill0 := by
    obtain ⟨c2, r2, m2, q1, q2, q3, q4, -⟩ := Cond.selects_spec (a' (.selects amNS Bundle.tFill0 Bundle.tFill0) (by decide +kernel))
    cases Option.some.inj (q1.symm.trans hfound)
    cases Option.some.inj (q2.symm.trans (State.methodFound?_of_named Y.fill0 (by decide)))
    cases Option.some.inj (q3.symm.trans Y.fill0)
    rw [Launch.admits_selectMethod X.admits]; exact q4
  have hselF : selectMethod e.platform s.vm P1.m.cls T.fill = .method T.fill := by
    obtain ⟨c2, r2, m2, q1, q2, q3, q4, -⟩ := Cond.selects_spec (a' (.selects amNS Bundle.tFill Bundle.tFill) (by decide +kernel))
    cases Option.some.inj (q1.symm.trans hfound)
    cases Option.some.inj (q2.symm.trans (State.methodFound?_of_named Y.fill (by decide)))
    cases Option.some.inj (q3.symm.trans Y.fill)
    rw [Launch.admits_selectMethod X.admits]; exact q4
  obtain ⟨cellS0, hcS0, hiss⟩ := Y.statics
  obtain ⟨u0, hu0⟩ := Cond.staticRefV Y.unassigned L.unassignedStatic L.statics hcS0 hiss (a' (.isRef (.static Bundle.tN "UNASSIGNED_STACK" Bundle.steD)) (by decide +kernel))
  obtain ⟨sen, hsen⟩ := Cond.staticRefV Y.sentinel L.sentinelStatic L.statics hcS0 hiss (a' (.isRef (.static Bundle.tN "SUPPRESSED_SENTINEL" Bundle.listD)) (by decide +kernel))
  obtain ⟨ci198, i198, fB, hk198, hg198, ha198, hsB, -, hnB, htB, hffB⟩ := Cond.ownField (t := .object "java/lang/Object") Y.found L.cls (by decide +kernel) (a' (.fieldLink Bundle.tN 198 Bundle.tN "backtrace" "Ljava/lang/Object;") (by decide +kernel)) (a' (.lays Bundle.tN Bundle.tN "backtrace" "Ljava/lang/Object;") (by decide +kernel)) e.platform hpl
  obtain ⟨cellS, hcS', heS, -, hkeep⟩ := X.same.2.2.2.2.2 T.aS cellS0 hcS0
  have hcellS : W.heap[T.aS]? = some cellS := hcS'
  have hout' : ∀ i, (⟨T.aS, i⟩ : Loc) ∉ locs := fun i hmem => by
    have := hlocs _ hmem cellS0 hcS0
    rw [hiss] at this; cases this
  have hknownS : cellS.vm ≠ .unknown := by
    rw [heS]; intro hu
    rw [show cellS0.vm = .unknown from hu] at hiss
    cases hiss
  have hneS : T.aS ≠ a := Nat.ne_of_lt (Nat.lt_of_lt_of_le (Array.getElem?_eq_some_iff.mp hcS0).1 hnew)
  obtain ⟨iM, hffM⟩ := Y.msg
  obtain ⟨tyC, dC, hdC, hdnC⟩ := Cond.laysAt hfound hk Y.cause (a' (.lays amNS Bundle.tN "cause" "Ljava/lang/Throwable;") (by decide +kernel))
  obtain ⟨tyS, dS, hdS, hdnS⟩ := Cond.laysAt hfound hk Y.stack (a' (.lays amNS Bundle.tN "stackTrace" Bundle.steD) (by decide +kernel))
  obtain ⟨tyP, dP, hdP, hdnP⟩ := Cond.laysAt hfound hk Y.supp (a' (.lays amNS Bundle.tN "suppressedExceptions" Bundle.listD) (by decide +kernel))
  obtain ⟨tyM, dM, hdM, hdnM⟩ := Cond.laysAt hfound hk hffM (a' (.lays amNS Bundle.tN "detailMessage" "Ljava/lang/String;") (by decide +kernel))
  obtain ⟨tyB, dB, hdB, hdnB⟩ := Cond.laysAt hfound hk hffB (a' (.lays amNS Bundle.tN "backtrace" "Ljava/lang/Object;") (by decide +kernel))
  have bC := Cond.laysApart hdB hdC hdnB hdnC (by rw [hnB, Y.causeName]; decide)
  have bS := Cond.laysApart hdB hdS hdnB hdnS (by rw [hnB, Y.stackName]; decide)
  have bP := Cond.laysApart hdB hdP hdnB hdnP (by rw [hnB, Y.suppName]; decide)
  have hskip : SkipFacts T e.platform s (fun u => u) u0 ((preparedCellV T.toThrowableT (freshCell P1.m.cls kX) a u0 sen).withEntry W.cur) :=
    ⟨{ ci198 := ci198, i198 := i198, fBack := fB }, ⟨hk198, hg198, ha198, hsB⟩, by
      have := fresh_default (c := P1.m.cls) tyB
      rw [htB] at this
      simpa [preparedCellV, Cell.setSlot, Cell.withEntry, Array.getElem?_setIfInBounds, bC, bS, bP, bC.symm, bS.symm, bP.symm, defaultValue] using this, fun _ _ => rfl⟩
  obtain ⟨tm, methC, cdC, kC, vm₁, hnC, -, -, -, -, -, -, -, hW₁, st1⟩ := Steps.initColdS (tb := p.tables) (e := e) (below := below) (s := s) (U := W) X.here hexec X.warmed hpl hown (t := Bundle.initS amNS) rfl rfl (Bundle.fit_spec am_nFit.1).2
    (a' (.methodLink "TripleTrains" 283 (Bundle.initS amNS)) (by decide +kernel)) (h (.instanceMethod (Bundle.initS amNS)) (by decide +kernel)) (bytes := am_rx) (maxL := 2) (h (.code (Bundle.initS amNS) am_rx 2 none) (by decide +kernel))
    (f := g) hg (a := a) (msg := msg) (rest := .ref a :: rest) hstack hd6
  cases Option.some.inj (hnC.symm.trans hP1m)
  have X₁ := X.noted hW₁
  have hsup : P1.sup = P2.m := Option.some.inj (hs1.symm.trans hP2m)
  obtain ⟨vm₂, X₂, st2⟩ := X₁.ctorMessageOffV hexec (g := { g with stack := .ref a :: rest }) hg hsize T L Z LZ M LM (P1 :: P2 :: Ps)
    (fun P hP => by
      rcases List.mem_cons.mp hP with rfl | hP
      · exact L1
      · rcases List.mem_cons.mp hP with rfl | hP
        · exact L2
        · exact hL P hP) ⟨hsup, hlink1, hlink⟩ (u0 := u0) (sen := sen) (self := a) hmsg (cell := freshCell P1.m.cls kX) (cellS := cellS)
    hcell (fun _ => by simp) (by simp) rfl rfl hsel0 hselF hcellS hneS hknownS (by rw [hkeep _ (hout' _)]; exact hu0) (by rw [hkeep _ (hout' _)]; exact hsen)
    (Takes.of_laid hk hord tyC (by rw [Y.causeType]; rfl)) (Takes.of_laid hk hord tyS (by rw [Y.stackType]; exact fits_refV_array _ u0)) (Takes.of_laid hk hord tyP (by rw [Y.suppType]; exact fits_refV_object _ sen))
    (Takes.of_laid hk hord tyM (by rw [Y.msgType]; exact fits_refV_object _ ⟨msg, hmsg⟩)) Y.objLocals hskip htr [] hd6
    (by simp only [List.length_cons, hlen, List.length_nil]; omega) (by simp only [List.length_cons, hlen, List.length_nil]; exact hRlocals)
  obtain ⟨hwalk, hrun, hended, hWU, hsame⟩ := X₂.athrowLeaves hexec (g := { g with stack := .ref a :: rest, pc := g.pc + 3 }) hg hlocked hentered hout (a := a) (rest := rest) rfl hd9
  have hlt : a < ((W.setVm vm₁).setVm vm₂).heap.size := (Array.getElem?_eq_some_iff.mp hcell).1
  have hU := heapAt_setCell_self (s := (W.setVm vm₁).setVm vm₂) (plainBareV T.toThrowableT (freshCell P1.m.cls kX) a u0 sen msg) hlt
  refine ⟨_, st1 _ (fun acts => ?_), hrun, hended, hWU, hsame.weaken (fun y hy hlt' => ?_) (Nat.le_refl _) (Nat.le_refl _), _, hU, hfound, rfl⟩
  · rw [doInvoke_state]
    exact st2 _ hwalk
  · rcases List.mem_append.mp hy with h1 | h1
    · exact h1
    · exfalso
      have hb : y.base = a := by
        simp only [List.mem_cons, List.not_mem_nil, or_false] at h1
        rcases h1 with rfl | rfl | rfl | rfl | rfl <;> rfl
      rw [hb] at hlt'
      exact Nat.not_lt.mpr hnew hlt'
end AMN
section AMN2
variable {p : Program} {l : Launch} {e : Env} {R : Room} {s : State} {m : MethodId} {args : Array Value} {below : List Frame} {meth : Method} {c : Code} {H : Heap} {locs : List Loc} {cells slots : Nat}
variable {free : Addr → Prop} {ls : Array Slot} {rest : List Value} {Qc : Array Value → State → Outcome → State → Prop} {XC : String → State → State → Prop}
set_option maxHeartbeats 4000000 in
theorem am_throwN {cc : ByteArray} {pc : Nat} (hexec : p.tables.exec = Jvm.exec) (hb : c.code = cc) (hl : l.stackTraces = false) {text : String} {ik is k mc ms sa : Nat} {A : Nat → Prop}
    (hown : s.vm.findClass "TripleTrains" = some m.cls)
    (hk : (Jvm.Cond.classLink "TripleTrains" ik amNS).before args s = true) (hini : (Jvm.Cond.initialized amNS).before args s = true) (hstr : vk_R "TripleTrains" is text sa s) (hat : ∀ w ∈ am_nw.filter vx_no, w.before args s = true)
    (hgood : ∀ w ∈ am_nw.filter vx_no, vx_ot w = true)
    (hU : vx_Zq Bundle.tN "UNASSIGNED_STACK" Bundle.steD A s s.heap) (hN : vx_Zq Bundle.tN "SUPPRESSED_SENTINEL" Bundle.listD A s s.heap) (hS : va_S A s.heap H locs) (hsize : ls.size = c.maxLocals)
    (d0 : decode cc pc = .ok (.new ik, 3)) (d3 : decode cc (pc + 3) = .ok (.dup, 1)) (hld : (decode cc (pc + 4) = .ok (.ldc is, 2) ∧ k = 6) ∨ (decode cc (pc + 4) = .ok (.ldc_w is, 3) ∧ k = 7)) (d6 : decode cc (pc + k) = .ok (.invokespecial 283, 3)) (d9 : decode cc (pc + k + 3) = .ok (.athrow, 1))
    (hout : ∀ x ∈ c.exceptionTable.toList, covers x (pc + k + 3) = false)
    (hRframes : 5 < R.frames) (hRlocals : (rest.map fun v => v.category).sum + 82 ≤ R.locals) (hRcells : cells + 1 ≤ R.cells) (hRslots : slots + 6 ≤ R.slots) (hlocks : meth.locks = false)
    (hx : ∀ t : State, s.vm.Alike t.vm → H.size ≤ t.heap.size → (∀ q : Nat, q < H.size → t.heap[q]? = H[q]?) → XC amNS s t)
    (hf : ∀ z ∈ locs, free z.base) (hc : cells + 1 ≤ mc) (hs : slots + 6 ≤ ms) :
    W p l e R s m args below meth c H locs cells slots (vx_MQ below Qc XC args s mc ms free) (F0 m pc ls rest) := by
  intro T hT X
  have htr : e.platform.stackTraces = false := (show e.platform.stackTraces = l.stackTraces by rw [X.admits.platform]).trans hl
  have Y := vx_rebase X (R' := { frames := R.frames, locals := R.locals, cells := 1, slots := 6 }) (Nat.le_refl _) (Nat.le_refl _) hRcells hRslots
  obtain ⟨s', hA⟩ : ∃ z, z = (T.setVm s.vm).setFrames (.invoking m args :: below) := ⟨_, rfl⟩
  rw [← hA] at Y
  have hvm : s'.vm = s.vm := by rw [hA]; rfl
  have hhp : s'.heap = H := by rw [hA]; exact hT
  have hW0 : s.WarmedH s'.vm := by rw [hvm]; exact State.WarmedH.refl s
  have hat' : ∀ w ∈ am_nw.filter vx_no, w.before args s' = true := fun w hw => vx_ot_at hW0 hvm.symm (hgood w hw) (hat w hw)
  have hk' : (Jvm.Cond.classLink "TripleTrains" ik amNS).before args s' = true := vx_ot_at hW0 hvm.symm rfl hk
  have hini' : (Jvm.Cond.initialized amNS).before args s' = true := vx_ot_at hW0 hvm.symm rfl hini
  have hU' : vx_Zq Bundle.tN "UNASSIGNED_STACK" Bundle.steD A s' s'.heap := by rw [hhp]; exact vx_Zq.moved hW0.alike (hU.kept hS.2.1)
  have hN' : vx_Zq Bundle.tN "SUPPRESSED_SENTINEL" Bundle.listD A s' s'.heap := by rw [hhp]; exact vx_Zq.moved hW0.alike (hN.kept hS.2.1)
  have h : ∀ w ∈ am_nw, w.before args s' = true := vx_own hat' (vx_isRefq hU'.1) (vx_isRefq hN'.1) hU'.2.word hN'.2.word
  have hown' : s'.vm.findClass "TripleTrains" = some m.cls := by rw [hvm]; exact hown
  have hins : (Jvm.Cond.instantiable amNS 6).before args s' = true := h _ (by decide +kernel)
  obtain ⟨vm₁, cX, kX, hfX, hkX, -, -, X₁, st1⟩ := Y.newCold hexec (own := "TripleTrains") (C := amNS) (index := ik) (n := 6) hown' hk' hins hini'
    (g := F0 m pc ls rest) rfl (by rw [hb]; exact d0) (Nat.le_refl _) (Nat.le_refl _)
  generalize hT1 : (T.setVm vm₁).pushCell { cls := cX, slots := kX.instanceTypes.map defaultValue, vm := .none } = T1 at X₁ st1
  have hcat : (Value.ref T.heap.size).category = 1 := rfl
  have hcellA : T1.heap[T.heap.size]? = some (freshCell cX kX) := by rw [← hT1]; exact State.heap_pushCell_size _ _
  have d3' : decode c.code (pc + 3) = .ok (.dup, 1) := by rw [hb]; exact d3
  have hstr' : vk_R "TripleTrains" is text sa s' := vk_R.warm hW0 hstr
  obtain ⟨U, hsteps, hrun, hend, hW, hsame, ce, hce, hcl9, hv9⟩ := am_ctorN X₁ hexec htr hown' h (fun x hx => nomatch hx) hfX hkX hcellA (by rw [hhp, hT]; exact Nat.le_refl _) (msg := .ref sa) rfl
    (g := { method := m, pc := pc + k, locals := ls, stack := .ref sa :: .ref T.heap.size :: .ref T.heap.size :: rest, locked := none }) rfl hsize rfl rfl (rest := rest) rfl
    (by rw [hb]; exact d6) (by rw [hb]; exact d9) hout hRframes (by simp only [List.map_cons, List.sum_cons, hcat]; show 2 * 0 + _ + 81 ≤ R.locals; omega) hlocks
  obtain ⟨f1, f2⟩ := vx_frame hsame
  rw [hhp] at f1 f2
  have hWs : s.WarmedH U.vm := State.WarmedH.trans hW0 hW
  have hcl : s.vm.findClass amNS = some ce.cls := by
    rw [hvm] at hcl9
    exact hcl9
  have hall : s.sameButNew ({ U with vm := s.vm } : State) locs mc ms := by
    subst hA
    obtain ⟨e1, e2⟩ := hsame
    rw [State.setFrames_setFrames] at e1
    have h2 : (T.setVm s.vm).sameButNew ({ U with vm := s.vm } : State) [] (0 + 1) (0 + 6) := ⟨e1, e2⟩
    have h3 := X.same.trans h2
    rw [List.append_nil] at h3
    exact h3.mono hc hs
  refine ⟨U, ?_, .threw T.heap.size, hrun, hend, Or.inr ⟨T.heap.size, rfl, amNS, ce, locs, hx U hWs.alike f1 (fun q hq => f2 q hq (fun z hz => nomatch hz)), hce, hv9, hcl, hWs, hall, hf⟩⟩
  refine st1 _ ?_
  show Steps p.tables e below (T1.setTop { method := m, pc := pc + 3, locals := ls, stack := .ref T.heap.size :: rest, locked := none }) _
  jvm_step X₁.here [X₁.here.top, hexec, d3', Value.category]
  rcases hld with ⟨d4, rfl⟩ | ⟨d4, rfl⟩
  · exact X₁.ldcString hexec (own := "TripleTrains") (text := text) (index := is) (a := sa) hown' hstr'.1 hstr'.2
      (g := { method := m, pc := pc + 4, locals := ls, stack := .ref T.heap.size :: .ref T.heap.size :: rest, locked := none }) rfl (by rw [hb]; exact d4) _ hsteps
  · exact X₁.ldcStringW hexec (own := "TripleTrains") (text := text) (index := is) (a := sa) hown' hstr'.1 hstr'.2
      (g := { method := m, pc := pc + 4, locals := ls, stack := .ref T.heap.size :: .ref T.heap.size :: rest, locked := none }) rfl (by rw [hb]; exact d4) _ hsteps
end AMN2
theorem am_nOk : ∀ w ∈ am_nw.filter vx_no, vx_ot w = true ∧ w ∈ lw_tbl ∧ (goodWord w = true ∨ (amNk w = true ∧ w.onTables = true)) := by decide +kernel
end
section
/-! ===== making cells; ends ===== -/
def amThr (own : String) (cc : ByteArray) (pc k a b : Nat) : Prop :=
  ∃ (cls : String) (is : Nat) (text : String) (ic : Nat), amEx[a]? = some cls ∧ amStr[(b - 1) / 2]? = some (own, is, text) ∧ Bundle.fit cls = true ∧ Jvm.Cond.classLink own k cls ∈ amWL ∧ Jvm.Cond.initialized cls ∈ amWL ∧
    ((a = 3 ∧ own = "TripleTrains" ∧ ic = 283) ∨ ∀ w ∈ vx_atS own ic cls amXn, vx_ot w = true ∧ w ∈ lw_tbl ∧ (goodWord w = true ∨ (amNk w = true ∧ w.onTables = true))) ∧ decode cc (pc + 3) = .ok (.dup, 1) ∧
    (if (b - 1) % 2 = 0 then decode cc (pc + 4) = .ok (.ldc is, 2) ∧ decode cc (pc + 6) = .ok (.invokespecial ic, 3) ∧ decode cc (pc + 9) = .ok (.athrow, 1)
     else decode cc (pc + 4) = .ok (.ldc_w is, 3) ∧ decode cc (pc + 7) = .ok (.invokespecial ic, 3) ∧ decode cc (pc + 10) = .ok (.athrow, 1))
def amNotMH (y : MethodName) : Prop := y.cls ≠ "java/lang/invoke/MethodHandle" ∧ y.cls ≠ "java/lang/invoke/VarHandle"
/-- what a making or calling instruction is linked to -/
def amLk2 (G : Nat → Option amM) (X : Nat → Option amN) (own : String) (cc : ByteArray) (pc : Nat) (i : Instr) (a b : Nat) : Prop :=
  match i with
  | .new k => if b = 0 then (∃ r, vwCl[a]? = some r ∧ Jvm.Cond.classLink own k r.1 ∈ amWL ∧ Jvm.Cond.instantiable r.1 r.2.2 ∈ amWL ∧ Jvm.Cond.initialized r.1 ∈ amWL) else amThr own cc pc k a b
  | .newarray t => ∀ q, amKind t = some q → Jvm.Cond.arrayClass (newarray.typeOf t) ∈ amWL
  | .anewarray k => Jvm.Cond.classLink own k "TripleTrains$Snapshot" ∈ amWL
  | .invokevirtual k => ∃ N M r n, X a = some N ∧ G a = some M ∧ N.2.2 = [] ∧ vwCl[M.2.2.2.2.2.2]? = some r ∧ N.1.cls = r.1 ∧ Jvm.Cond.methodLink own k N.1 ∈ amWL ∧ Jvm.Cond.instanceMethod N.1 ∈ amWL ∧ Jvm.Cond.selects r.1 N.1 N.1 ∈ amWL ∧ Jvm.Cond.initialized r.1 ∈ amWL ∧ Jvm.Cond.code N.1 N.2.1 M.2.1 M.2.2.2.2.1 ∈ amWL ∧ amNotMH N.1 ∧ (parseMethodDescriptor N.1.desc).map (fun d => d.parameters.length) = some n ∧ M.2.2.1 = n + 1
  | .invokestatic k => if b = 6 then Jvm.Cond.methodLink own k arraycopyName ∈ amWL ∧ Jvm.Cond.native arraycopyName ∈ amWL ∧ Jvm.Cond.static arraycopyName ∈ amWL ∧ Jvm.Cond.initialized "java/lang/System" ∈ amWL
      else ∃ N M, X a = some N ∧ G a = some M ∧ (if b = 0 then N.2.2 = [] ∧ Jvm.Cond.code N.1 N.2.1 M.2.1 M.2.2.2.2.1 ∈ amWL else N.2.2 ≠ [] ∧ Jvm.Cond.codeWith N.1 N.2.1 M.2.1 M.2.2.2.2.1 N.2.2 ∈ amWL) ∧ Jvm.Cond.methodLink own k N.1 ∈ amWL ∧ Jvm.Cond.static N.1 ∈ amWL ∧ Jvm.Cond.initialized N.1.cls ∈ amWL ∧ amNotMH N.1 ∧ (parseMethodDescriptor N.1.desc).map (fun d => d.parameters.length) = some M.2.2.1
  | .invokespecial k => if b = 5 then Jvm.Cond.methodLink own k Lib.objectInit ∈ amWL ∧ Jvm.Cond.instanceMethod Lib.objectInit ∈ amWL ∧ Jvm.Cond.code Lib.objectInit ⟨#[0xb1]⟩ 1 none ∈ amWL
      else ∃ N M n, X a = some N ∧ G a = some M ∧ N.2.2 = [] ∧ M.2.2.2.2.1 = none ∧ (Jvm.Cond.methodLink own k N.1 ∈ amWL ∨ ∃ host, Jvm.Cond.methodLinkNest own k N.1 host ∈ lw_tbl) ∧ Jvm.Cond.instanceMethod N.1 ∈ amWL ∧ Jvm.Cond.initialized N.1.cls ∈ amWL ∧ Jvm.Cond.code N.1 N.2.1 M.2.1 none ∈ amWL ∧ N.1.name = "<init>" ∧ amNotMH N.1 ∧ (parseMethodDescriptor N.1.desc).map (fun d => d.parameters.length) = some n ∧ M.2.2.1 = n + 1
  | _ => True
/-- an entry of a method's code -/
def amEok (G : Nat → Option amM) (X : Nat → Option amN) (N : amN) (M : amM) (q : Nat × amIn1) : Prop :=
  (∃ n, decode N.2.1 q.1 = .ok (q.2.1, n) ∧ (amSz q.2.1 = 0 ∨ n = amSz q.2.1)) ∧ amLk amWL N.1.cls M.2.2.2.1 q.1 q.2.1 q.2.2.1 q.2.2.2 ∧ amLk2 G X N.1.cls N.2.1 q.1 q.2.1 q.2.2.1 q.2.2.2
theorem am_up_ag {hp : amH} {ad : Nat → Nat} {q : Nat} (h : hp.length < amK) : amAg hp.length ad (va_up ad hp.length q) := by
  intro i hi
  unfold va_up
  rw [if_neg]
  rcases hi with hi | hi <;> omega
theorem am_rep_i {n : Nat} : (fun j => amInt ((List.replicate n (.int 0)).getD j .null)) = fun _ => (0 : Int32) := by
  funext j
  by_cases h : j < n
  · simp [List.getElem?_replicate, h, amInt]
  · simp [List.getElem?_replicate, h, amInt]
theorem am_rep_l {n : Nat} : (fun j => amLong ((List.replicate n (.long 0)).getD j .null)) = fun _ => (0 : Int64) := by
  funext j
  by_cases h : j < n
  · simp [List.getElem?_replicate, h, amLong]
  · simp [List.getElem?_replicate, h, amLong]
theorem am_rep_q {ad : Nat → Nat} {n : Nat} : (fun j => amRef ad ((List.replicate n .null).getD j .null)) = fun _ => (none : Option Nat) := by
  funext j
  by_cases h : j < n
  · simp [List.getElem?_replicate, h, amRef]
  · simp [List.getElem?_replicate, h, amRef]
theorem amDef_len {ci : Nat} {r : vw_C} (h : vwCl[ci]? = some r) : (amDef ci).length = r.2.2 := by simp [amDef, h]
theorem amDef_at {ci : Nat} {r : vw_C} (h : vwCl[ci]? = some r) {j : Nat} (hj : j < r.2.2) : defaultValue (amFty ci j) = vp_V (amDef ci) j := by
  simp [vp_V, amDef, h, hj]
theorem am_default (ad : Nat → Nat) (ty : FieldType) : amV ad (defaultValue ty) = defaultValue ty := by cases ty <;> rfl
theorem amDef_map (ad : Nat → Nat) (ci : Nat) : (amDef ci).map (amV ad) = amDef ci := by
  unfold amDef
  split
  · rw [List.map_map]
    exact List.map_congr_left fun k _ => am_default ad _
  · rfl
theorem am_lt32 {a : Nat} {r : vw_C} (h : vwCl[a]? = some r) : a < 32 := by
  have h1 := (List.getElem?_eq_some_iff.mp h).1
  have h2 : vwCl.length = 12 := rfl
  omega
theorem am_cpy {c0 c1 : List Value} {sp dp n : Nat} (h0 : sp + n ≤ c0.length) (h1 : dp + n ≤ c1.length) : (fun j => amInt ((c1.take dp ++ ((c0.drop sp).take n ++ c1.drop (dp + n))).getD j .null)) = va_cpy (fun j => amInt (c0.getD j .null)) (fun j => amInt (c1.getD j .null)) sp dp n := by
  funext j
  unfold va_cpy
  dsimp only
  by_cases h2 : dp ≤ j ∧ j < dp + n
  · rw [if_pos h2]
    congr 1
    rw [List.getD_eq_getElem?_getD, List.getD_eq_getElem?_getD, List.getElem?_append_right (by simp; omega), List.getElem?_append_left (by simp; omega)]
    simp only [List.length_take]
    rw [List.getElem?_take, if_pos (by omega), List.getElem?_drop]
    congr 2
    omega
  · rw [if_neg h2]
    congr 1
    rw [List.getD_eq_getElem?_getD, List.getD_eq_getElem?_getD]
    by_cases h3 : j < dp
    · rw [List.getElem?_append_left (by simp; omega), List.getElem?_take, if_pos h3]
    · rw [List.getElem?_append_right (by simp; omega), List.getElem?_append_right (by simp; omega), List.getElem?_drop]
      congr 2
      simp only [List.length_take, List.length_drop]
      omega
theorem am_cpy_len {c0 c1 : List Value} {sp dp n : Nat} (h0 : sp + n ≤ c0.length) (h1 : dp + n ≤ c1.length) : (c1.take dp ++ ((c0.drop sp).take n ++ c1.drop (dp + n))).length = c1.length := by
  simp
  omega
section AMD
variable {p : Program} {l : Launch} {e : Env} {R : Room} {s : State} {m : MethodId} {args : Array Value} {below : List Frame} {meth : Method} {c : Code} {H : Heap} {locs : List Loc} {cells slots : Nat} {Q : State → Prop}
variable {D : va_G} {dA : Nat → ClassId} {A : Nat → Prop} {sA : Nat → Nat}
theorem am_new {dA : Nat → ClassId} {ad : Nat → Nat} {hp : amH} {q : Nat} {t : Nat} {vs : List Value} {E : va_E} (hH : amOkH hp.length hp = true) (hk : hp.length < amK) (hE : amE dA (va_up ad hp.length q) (t, vs) = E) : amW dA ad hp ++ [(q, E)] = amW dA (va_up ad hp.length q) (hp ++ [(t, vs)]) := by
  rw [amW_push, amW_ag hH (am_up_ag hk), hE]
  simp [va_up]
theorem am_newst {ad : Nat → Nat} {hp : amH} {q : Nat} {r : List Value} (hr : amOkS hp.length r = true) (hk : hp.length < amK) : (Value.ref hp.length :: r).map (amV (va_up ad hp.length q)) = .ref q :: r.map (amV ad) := by
  rw [List.map_cons, amSt_ag hr (am_up_ag hk)]
  simp [amV, va_up]
set_option maxHeartbeats 1000000 in
theorem am_act (hx : p.tables.exec = Jvm.exec) {G : Nat → Option amM} {X : Nat → Option amN} {N : amN} {M : amM} (hb : c.code = N.2.1) (hml : c.maxLocals = M.2.1) (hts : ∀ w ∈ amWL, w.before args s = true) (hown : s.vm.findClass N.1.cls = some m.cls) (hG : amG D dA sA s) (hus : ∀ (ci : Nat) (r : vw_C), vwCl[ci]? = some r → ∀ w ∈ u_ws r.1 r.2.1 r.2.2, w ∈ amWL) (hcl : amClOk) (hini : M.2.2.2.1 = true → meth.name = "<init>") {sc : Option (List Int32)} {ad : Nat → Nat} (hsA : ∀ k, ad (amK + k) = sA k) (hsc : ∀ l9, sc = some l9 → va_X (sA 999999) l9.length (fun j => l9.getD j 0) s s.heap ∧ sA 999999 < s.heap.size ∧ ¬ A (sA 999999)) (hA : ∀ q, s.heap.size ≤ q → A q)
    {pc a b : Nat} {i : Instr} (hE : amEok G X N M (pc, i, a, b)) (hR : 1 ≤ R.frames ∧ 100 ≤ R.locals) {ls : amL} {st : List Value} {hp : amH} {r : amR} {dk ds : Nat} (h : amDo G M sc i a b pc ls st hp = some (.inl (r, dk, ds))) (hroom : cells + dk ≤ R.cells ∧ slots + ds ≤ R.slots) {lsA : Array Slot} (hl : lv_has lsA M.2.1 (amLs ad ls)) (hP : va_P D vwCl (amW dA ad hp) H) (hD : va_D A (amW dA ad hp)) (hS : va_S A s.heap H locs)
    (kk : ∀ (ad1 : Nat → Nat) (H1 : Heap) (locs1 : List Loc) (lsA1 : Array Slot), amAg hp.length ad ad1 → va_P D vwCl (amW dA ad1 r.2.2.2) H1 → va_D A (amW dA ad1 r.2.2.2) → va_S A s.heap H1 locs1 → lv_has lsA1 M.2.1 (amLs ad1 r.2.1) → W p l e R s m args below meth c H1 locs1 (cells + dk) (slots + ds) Q (F0 m r.1 lsA1 (r.2.2.1.map (amV ad1)))) :
    W p l e R s m args below meth c H locs cells slots Q (F0 m pc lsA (st.map (amV ad))) := by
  obtain ⟨hd, hlk, hlk2⟩ := hE
  dsimp only at hd hlk hlk2
  have hK := hG.1
  unfold amDo at h
  split at h
  case h_1 z =>
    split at h
    · next hb0 =>
      obtain ⟨o1, o2, o3, o4, e1⟩ := amMake_s h
      cases e1
      unfold amLk2 at hlk2
      dsimp only at hlk2
      rw [if_pos hb0] at hlk2
      obtain ⟨r, hc, w1, w2, w3⟩ := hlk2
      obtain ⟨n, hd, hn⟩ := hd
      obtain rfl : n = 3 := by rcases hn with hn | hn <;> first | exact hn | cases hn
      dsimp only at hroom kk
      rw [amDef_len hc] at hroom kk
      refine va_new (c0 := c) (D := D) (ci := a) (fs := amDef a) hx hb hts (hus a r hc) (amFty a) (hcl a r hc).1 hown (hts _ w1) (hts _ w2) (hts _ w3) hK hP hD hS hA hc (fun j hj => amDef_at hc hj) hroom.1 hroom.2 hd (fun q H1 hP1 hD1 hS1 => ?_)
      have e2 := am_new (q := q) (E := .inr (a, amDef a)) (t := a) (vs := amDef a) (dA := dA) (ad := ad) o3 o4 (by rw [amE_obj (am_lt32 hc), amDef_map])
      rw [e2] at hP1 hD1
      exact W.eq (congrArg (fun z => F0 m (pc + 3) lsA z) (am_newst (q := q) (ad := ad) o2 o4).symm) (kk (va_up ad hp.length q) H1 locs lsA (am_up_ag o4) hP1 hD1 hS1 (by rw [amLs_ag o1 (am_up_ag o4)]; exact hl))
    · split at h <;> cases h
  case h_2 t =>
    obtain ⟨n, q, t0, v, rfl, hk, hn0, hn1, h⟩ := amMakeA_s h
    obtain ⟨o1, o2, o3, o4, e1⟩ := amMake_s h
    cases e1
    have hw := hlk2 _ hk
    obtain ⟨k, hd, hn⟩ := hd
    obtain rfl : k = 2 := by rcases hn with hn | hn <;> first | exact hn | cases hn
    dsimp only [List.length_replicate] at hroom kk
    rw [List.length_replicate] at hroom kk
    cases t <;> cases hk
    case refl.byte.refl =>
      refine va_newa (D := D) (ty := .byte) (a0 := (n.toNatClampNeg, .inl fun _ => 0)) hx hb (hts _ hw) rfl hK hP hD hS hA (fun _ => rfl) hn0 rfl (by show n.toNatClampNeg * 1 ≤ _; omega) hroom.1 hroom.2 hd (fun q1 cA H1 hK1 hP1 hD1 hS1 => ?_)
      have hcA : cA = dA 2 := Option.some.inj ((hK1.2 4 (cA, .byte) rfl).2.symm.trans (hK.2 2 (dA 2, .byte) rfl).2)
      subst hcA
      have e2 := am_new (q := q1) (E := .inl (dA 2, n.toNatClampNeg, .inl fun _ => 0)) (t := 34) (vs := List.replicate n.toNatClampNeg (.int 0)) (dA := dA) (ad := ad) o3 o4 (by show Sum.inl _ = _; rw [am_rep_i, List.length_replicate])
      rw [e2] at hP1 hD1
      exact W.eq (congrArg (fun z => F0 m (pc + 2) lsA z) (am_newst (q := q1) (ad := ad) o2 o4).symm) (kk (va_up ad hp.length q1) H1 locs lsA (am_up_ag o4) hP1 hD1 hS1 (by rw [amLs_ag o1 (am_up_ag o4)]; exact hl))
    case refl.int.refl =>
      refine va_newa (D := D) (ty := .int) (a0 := (n.toNatClampNeg, .inl fun _ => 0)) hx hb (hts _ hw) rfl hK hP hD hS hA (fun _ => rfl) hn0 rfl (by show n.toNatClampNeg * 4 ≤ _; omega) hroom.1 hroom.2 hd (fun q1 cA H1 hK1 hP1 hD1 hS1 => ?_)
      have hcA : cA = dA 0 := Option.some.inj ((hK1.2 4 (cA, .int) rfl).2.symm.trans (hK.2 0 (dA 0, .int) rfl).2)
      subst hcA
      have e2 := am_new (q := q1) (E := .inl (dA 0, n.toNatClampNeg, .inl fun _ => 0)) (t := 32) (vs := List.replicate n.toNatClampNeg (.int 0)) (dA := dA) (ad := ad) o3 o4 (by show Sum.inl _ = _; rw [am_rep_i, List.length_replicate])
      rw [e2] at hP1 hD1
      exact W.eq (congrArg (fun z => F0 m (pc + 2) lsA z) (am_newst (q := q1) (ad := ad) o2 o4).symm) (kk (va_up ad hp.length q1) H1 locs lsA (am_up_ag o4) hP1 hD1 hS1 (by rw [amLs_ag o1 (am_up_ag o4)]; exact hl))
    case refl.long.refl =>
      refine va_newa (D := D) (ty := .long) (a0 := (n.toNatClampNeg, .inr (.inl fun _ => 0))) hx hb (hts _ hw) rfl hK hP hD hS hA (fun _ => rfl) hn0 rfl (by show n.toNatClampNeg * 8 ≤ _; omega) hroom.1 hroom.2 hd (fun q1 cA H1 hK1 hP1 hD1 hS1 => ?_)
      have hcA : cA = dA 1 := Option.some.inj ((hK1.2 4 (cA, .long) rfl).2.symm.trans (hK.2 1 (dA 1, .long) rfl).2)
      subst hcA
      have e2 := am_new (q := q1) (E := .inl (dA 1, n.toNatClampNeg, .inr (.inl fun _ => 0))) (t := 33) (vs := List.replicate n.toNatClampNeg (.long 0)) (dA := dA) (ad := ad) o3 o4 (by show Sum.inl _ = _; rw [am_rep_l, List.length_replicate])
      rw [e2] at hP1 hD1
      exact W.eq (congrArg (fun z => F0 m (pc + 2) lsA z) (am_newst (q := q1) (ad := ad) o2 o4).symm) (kk (va_up ad hp.length q1) H1 locs lsA (am_up_ag o4) hP1 hD1 hS1 (by rw [amLs_ag o1 (am_up_ag o4)]; exact hl))
  case h_3 z =>
    obtain ⟨n, q, t0, v, rfl, hk, hn0, hn1, h⟩ := amMakeA_s h
    obtain ⟨o1, o2, o3, o4, e1⟩ := amMake_s h
    cases e1
    cases hk
    obtain ⟨k, hd, hn⟩ := hd
    obtain rfl : k = 3 := by rcases hn with hn | hn <;> first | exact hn | cases hn
    dsimp only at hroom kk
    rw [List.length_replicate] at hroom kk
    refine va_newq (D := D) (C := "TripleTrains$Snapshot") hx hb hown (hts _ hlk2) hG.2.2.2.2 hK hP hD hS hA hn0 rfl (by omega) hroom.1 hroom.2 hd (fun q1 cA H1 hK1 hP1 hD1 hS1 => ?_)
    have hcA : cA = dA 3 := by
      obtain ⟨_, _, -, -, -, g1⟩ := (hK1.2 4 (cA, .object "TripleTrains$Snapshot") rfl).2
      obtain ⟨_, _, -, -, -, g2⟩ := (hK.2 3 (dA 3, .object "TripleTrains$Snapshot") rfl).2
      exact Option.some.inj (g1.symm.trans g2)
    subst hcA
    have e2 := am_new (q := q1) (E := .inl (dA 3, n.toNatClampNeg, .inr (.inr (.inr (.inr fun _ => none))))) (t := 35) (vs := List.replicate n.toNatClampNeg .null) (dA := dA) (ad := ad) o3 o4 (by show Sum.inl _ = _; rw [am_rep_q, List.length_replicate])
    rw [e2] at hP1 hD1
    exact W.eq (congrArg (fun z => F0 m (pc + 3) lsA z) (am_newst (q := q1) (ad := ad) o2 o4).symm) (kk (va_up ad hp.length q1) H1 locs lsA (am_up_ag o4) hP1 hD1 hS1 (by rw [amLs_ag o1 (am_up_ag o4)]; exact hl))
  case h_4 => obtain ⟨_, _, _, -, -, -, -, -, -, -, -, e1⟩ := amCall_s h; cases e1
  case h_5 z =>
    split at h
    · next hb6 =>
      obtain ⟨n, dp, o, sp, a0, q, c0, c1, rfl, g0, g1, h1, h2, h3, h4, h5, h6, e1⟩ := amCopy_s h
      cases e1
      unfold amLk2 at hlk2
      dsimp only at hlk2
      rw [if_pos hb6] at hlk2
      obtain ⟨w1, w2, w3, w4⟩ := hlk2
      obtain ⟨k, hd, hn⟩ := hd
      obtain rfl : k = 3 := by rcases hn with hn | hn <;> first | exact hn | cases hn
      have e0 := amW_get (dA := dA) (ad := ad) g0
      have e1 := amW_get (dA := dA) (ad := ad) g1
      have hset : (amW dA ad hp).set o (ad o, .inl (dA 0, c1.length, .inl (va_cpy (fun j => amInt (c0.getD j .null)) (fun j => amInt (c1.getD j .null)) sp.toNatClampNeg dp.toNatClampNeg n.toNatClampNeg))) = amW dA ad (hp.set o (32, c1.take dp.toNatClampNeg ++ ((c0.drop sp.toNatClampNeg).take n.toNatClampNeg ++ c1.drop (dp.toNatClampNeg + n.toNatClampNeg)))) := by
        rw [← amW_set]
        show _ = (amW dA ad hp).set o (ad o, .inl (dA 0, List.length _, _))
        rw [am_cpy h4 h5, am_cpy_len h4 h5]
      have hcat : ((q.map (amV ad)).map fun v => v.category).sum ≤ 8 := by
        rw [List.map_map]
        simpa [Function.comp_def, amV_cat] using h6
      exact va_copyi (D := D) (ty := .int) hx hb (hml.trans hl.1.symm) hown (hts _ w1) (hts _ w2) (hts _ w3) (hts _ w4) hK hP hD hS a0 o 0 0 e0 e1 rfl rfl rfl h1 h2 h3 h4 h5 (fun _ _ => rfl) hR.1 (by
        have : nativeFrameWords "java/lang/System" "arraycopy" 5 + 11 ≤ 90 := by decide +kernel
        omega) hd (fun H1 locs1 p2 p3 p4 => kk ad H1 locs1 lsA (amAg.refl _ _) (hset ▸ p2) (hset ▸ p3) p4 hl)
    · obtain ⟨_, _, _, -, -, -, -, -, -, -, -, e1⟩ := amCall_s h; cases e1
  case h_6 z =>
    split at h
    · next hb5 =>
      obtain ⟨o, q, rfl, h6, e1⟩ := amObj_s h
      cases e1
      unfold amLk2 at hlk2
      dsimp only at hlk2
      rw [if_pos hb5] at hlk2
      obtain ⟨w1, w2, w3⟩ := hlk2
      obtain ⟨k, hd, hn⟩ := hd
      obtain rfl : k = 3 := by rcases hn with hn | hn <;> first | exact hn | cases hn
      have hcat : ((q.map (amV ad)).map fun v => v.category).sum ≤ 8 := by
        rw [List.map_map]
        simpa [Function.comp_def, amV_cat] using h6
      refine W.objInit hx hb hown (hts _ w1) (hts _ w2) (hts _ w3) rfl (hl.1.trans hml.symm) rfl hd hR.1 ?_ ?_
      · show 2 * 0 + _ + 12 ≤ _
        omega
      · exact kk ad H locs lsA (amAg.refl _ _) hP hD hS hl
    · obtain ⟨_, _, _, -, -, -, -, -, -, -, -, e1⟩ := amCall_s h; cases e1
  case h_7 => obtain ⟨v, -, e1⟩ := Option.map_eq_some_iff.mp h; cases e1
  case h_8 => obtain ⟨v, -, e1⟩ := Option.map_eq_some_iff.mp h; cases e1
  case h_9 => obtain ⟨v, -, e1⟩ := Option.map_eq_some_iff.mp h; cases e1
  case h_10 => obtain ⟨v, -, e1⟩ := Option.map_eq_some_iff.mp h; cases e1
  case h_11 => obtain ⟨v, -, e1⟩ := Option.map_eq_some_iff.mp h; cases e1
  case h_12 =>
    obtain ⟨v, h1, e1⟩ := Option.map_eq_some_iff.mp h
    cases e1
    exact amStep_ok (sA := sA) (D := D) hx hb hts hown hK hus hcl hini hG.2.1 hsA (fun l9 z => by
      have e9 : ad amS = sA 999999 := hsA 999999
      rw [e9]
      exact hsc l9 z) hd hlk h1 hl hP hD hS (fun H1 locs1 lsA1 p2 p3 p4 p5 => kk ad H1 locs1 lsA1 (amAg.refl _ _) p2 p3 p4 p5)
end AMD
end
section
/-! ===== whole frames ===== -/
/-- a method's handlers: where one takes what a call throws -/
def amHok (N : amN) (M : amM) : Prop :=
  (M.2.2.2.2.2.1 = [] → N.2.2 = []) ∧ ∀ (pc E h x to : Nat) (En : String), amHand M.2.2.2.2.2.1 pc E = some (h, x, to) → amEx[E]? = some En →
    ∃ (pre : List ExceptionTableEntry) (z : ExceptionTableEntry) (suf : List ExceptionTableEntry), tableOf N.2.2 = pre ++ z :: suf ∧ (∀ y ∈ pre, covers y pc = false ∨ (y.catchType ≠ 0 ∧ ∃ nm : String, Jvm.Cond.classLink N.1.cls y.catchType nm ∈ amWL ∧ (En, nm) ∈ amNc)) ∧ covers z pc = true ∧ z.catchType ≠ 0 ∧ z.handlerPc = h ∧
      Jvm.Cond.classLink N.1.cls z.catchType En ∈ amWL ∧ Jvm.Cond.castable En En ∈ lw_tbl ∧ x < M.2.1 ∧ ((∃ j : Fin 4, (j : Nat) = x ∧ decode N.2.1 h = .ok (.astore_n j, 1) ∧ to = h + 1) ∨ (decode N.2.1 h = .ok (.astore x, 2) ∧ to = h + 2))
/-- a method, its code and names -/
def amMk (G : Nat → Option amM) (X : Nat → Option amN) (N : amN) (M : amM) : Prop :=
  plainFor N.1 = true ∧ M.2.1 ≤ 100 ∧ (M.2.2.2.1 = true → N.1.name = "<init>") ∧ amHok N M ∧ ∀ q ∈ M.1, amEok G X N M q
def amCx (p : Program) (R : Room) (s : State) (m : MethodId) (args : Array Value) (meth : Method) (c : Code) (A : Nat → Prop) (D : va_G) (dA : Nat → ClassId) (sA : Nat → Nat) (G : Nat → Option amM) (X : Nat → Option amN) (N : amN) (M : amM) (sc : Option (List Int32)) (d mc ms : Nat) : Prop :=
  p.tables.exec = Jvm.exec ∧ c.code = N.2.1 ∧ c.maxLocals = M.2.1 ∧ s.vm.findClass N.1.cls = some m.cls ∧ (∀ w ∈ amWL, w.before args s = true) ∧ amG D dA sA s ∧ amZ A s s.heap ∧ (∀ q, s.heap.size ≤ q → A q) ∧ (M.2.2.2.1 = true → meth.name = "<init>") ∧ c.exceptionTable.toList = tableOf N.2.2 ∧ amMk G X N M ∧ (d + 8 ≤ R.frames ∧ 128 * (d + 1) ≤ R.locals ∧ mc ≤ R.cells ∧ ms ≤ R.slots) ∧ (∀ l9, sc = some l9 → va_X (sA 999999) l9.length (fun j => l9.getD j 0) s s.heap ∧ sA 999999 < s.heap.size ∧ ¬ A (sA 999999))
def amFR (l : Launch) (D : va_G) (dA : Nat → ClassId) (sA : Nat → Nat) (G : Nat → Option amM) (X : Nat → Option amN) (f : Nat) : Prop :=
  ∀ (p : Program) (e : Env) (R : Room) (s : State) (m : MethodId) (args : Array Value) (below : List Frame) (meth : Method) (c : Code) (A : Nat → Prop) (Q : State → Prop) (N : amN) (M : amM) (sc : Option (List Int32)) (d n0 : Nat) (ad0 : Nat → Nat) (x : Option Value ⊕ Nat) (hp1 : amH) (mc ms : Nat),
    amCx p R s m args meth c A D dA sA G X N M sc d mc ms → (∀ j, ad0 (amK + j) = sA j) →
    (∀ (v : Option Value) (i : Instr) (pc : Nat) (st : List Value) (ad : Nat → Nat) (H : Heap) (locs : List Loc) (lsA : Array Slot), x = .inl v → decode N.2.1 pc = .ok (i, 1) → amRetV M.2.2.2.2.1 i st = some v → amAg n0 ad0 ad → va_P D vwCl (amW dA ad hp1) H → va_D A (amW dA ad hp1) → va_S A s.heap H locs → W p l e R s m args below meth c H locs mc ms Q (F0 m pc lsA (st.map (amV ad)))) →
    (∀ (a b k kc ks pc : Nat) (st : List Value) (ad : Nat → Nat) (H : Heap) (locs : List Loc) (lsA : Array Slot), x = .inr a → decode N.2.1 pc = .ok (.new k, 3) → amThr N.1.cls N.2.1 pc k a b → M.2.2.2.2.2.1 = [] → (st.map fun v => v.category).sum ≤ 8 → lsA.size = M.2.1 → kc + 1 = mc → ks + 6 = ms → amAg n0 ad0 ad → va_P D vwCl (amW dA ad hp1) H → va_D A (amW dA ad hp1) → va_S A s.heap H locs → W p l e R s m args below meth c H locs kc ks Q (F0 m pc lsA (st.map (amV ad)))) →
    (∀ (E : Nat) (En : String) (ce : Cell) (q9 pc : Nat) (st : List Value) (ad : Nat → Nat) (H : Heap) (locs : List Loc) (lsA : Array Slot), x = .inr E → amEx[E]? = some En → M.2.2.2.2.2.1 = [] → amAg n0 ad0 ad → va_P D vwCl (amW dA ad hp1) H → va_D A (amW dA ad hp1) → va_S A s.heap H locs → H[q9]? = some ce → ce.vm = .none → s.vm.findClass En = some ce.cls → vx_W p l e R s m args below meth c H locs mc ms Q (F0 m pc lsA st) q9) →
    ∀ (cs : amP) (pc : Nat) (ls : amL) (st : List Value) (hp : amH) (kc ks : Nat) (ad : Nat → Nat) (H : Heap) (locs : List Loc) (lsA : Array Slot), (∀ q ∈ cs, q ∈ M.1) → amRun G sc f d M cs pc ls st hp kc ks = some (x, hp1, mc, ms) → amAg n0 ad0 ad → n0 ≤ hp.length → lv_has lsA M.2.1 (amLs ad ls) → va_P D vwCl (amW dA ad hp) H → va_D A (amW dA ad hp) → va_S A s.heap H locs → W p l e R s m args below meth c H locs kc ks Q (F0 m pc lsA (st.map (amV ad)))
def amHd (N : amN) (M : amM) : Jvm.Cond := if N.2.2 = [] then Jvm.Cond.code N.1 N.2.1 M.2.1 M.2.2.2.2.1 else Jvm.Cond.codeWith N.1 N.2.1 M.2.1 M.2.2.2.2.1 N.2.2
def amCT (l : Launch) (D : va_G) (dA : Nat → ClassId) (sA : Nat → Nat) (G : Nat → Option amM) (X : Nat → Option amN) (f : Nat) : Prop :=
  ∀ (k : Nat) (N : amN) (M : amM) (d : Nat) (av : List Value) (hp hp1 : amH) (x : Option Value ⊕ Nat) (mc ms : Nat) (ad : Nat → Nat) (sz : Nat), X k = some N → G k = some M → (∀ j, ad (amK + j) = sA j) → (av.map fun v => v.category).sum ≤ M.2.1 → amRun G none f d M M.1 0 (lv_args 0 av) [] hp 0 0 = some (x, hp1, mc, ms) →
    vx_Met l N.1 (amHd N M :: amWL) (amRm d mc ms) (amPc D dA sA ad hp av sz) (amQ D dA ad hp.length (va_A (amW dA ad hp) sz) x hp1) (amX D dA ad hp.length (va_A (amW dA ad hp) sz) x hp1) mc ms (va_A (amW dA ad hp) sz)
theorem amRetV_s {ret : Option FieldType} {i : Instr} {st : List Value} {v : Option Value} (h : amRetV ret i st = some v) :
    (∃ ty x, i = .ireturn ∧ ret = some ty ∧ st = [.int x] ∧ narrow ty (.int x) = .int x ∧ v = some (.int x)) ∨ (∃ x, i = .lreturn ∧ ret = some .long ∧ st = [.long x] ∧ v = some (.long x)) ∨ (∃ x, i = .freturn ∧ ret = some .float ∧ st = [.float x] ∧ v = some (.float x)) ∨ (∃ x, i = .dreturn ∧ ret = some .double ∧ st = [.double x] ∧ v = some (.double x)) ∨ (i = .return_ ∧ ret = none ∧ st = [] ∧ v = none) := by
  unfold amRetV at h
  split at h
  · split at h
    · next ty x =>
      split at h
      · next e => cases h; exact Or.inl ⟨ty, x, rfl, rfl, rfl, e, rfl⟩
      · cases h
    · cases h
  · split at h
    · next x => cases h; exact Or.inr (Or.inl ⟨x, rfl, rfl, rfl, rfl⟩)
    · cases h
  · split at h
    · next x => cases h; exact Or.inr (Or.inr (Or.inl ⟨x, rfl, rfl, rfl, rfl⟩))
    · cases h
  · split at h
    · next x => cases h; exact Or.inr (Or.inr (Or.inr (Or.inl ⟨x, rfl, rfl, rfl, rfl⟩)))
    · cases h
  · split at h
    · cases h; exact Or.inr (Or.inr (Or.inr (Or.inr ⟨rfl, rfl, rfl, rfl⟩)))
    · cases h
  · cases h
theorem am_seek_in {cs : amP} {pc : Nat} : ∀ q ∈ amSeek cs pc, q ∈ cs := fun q h => (List.dropWhile_suffix _).subset h
theorem am_next_in {M : amM} {cs : amP} {pc : Nat} (h : ∀ q ∈ cs, q ∈ M.1) : ∀ q ∈ amNext M cs pc, q ∈ M.1 := by
  intro q hq
  unfold amNext at hq
  split at hq
  · split at hq
    · exact h q hq
    · exact am_seek_in q hq
  · exact am_seek_in q hq
theorem am_args_ls (ad : Nat → Nat) : ∀ (av : List Value) (i : Nat), amLs ad (lv_args i av) = lv_args i (av.map (amV ad))
  | [], _ => rfl
  | v :: r, i => by
    show (i, amV ad v) :: amLs ad (lv_args _ r) = (i, amV ad v) :: lv_args _ (r.map (amV ad))
    rw [am_args_ls ad r, amV_cat]
theorem am_sl_len : ∀ (vs : List Value), (lg_sl vs).length = (vs.map fun v => v.category).sum
  | [] => rfl
  | v :: r => by
    have ih := am_sl_len r
    rw [show lg_sl (v :: r) = (if v.category = 2 then [.val v, .second] else [.val v]) ++ lg_sl r from rfl, List.length_append, ih]
    rcases lv_cat v with h | h <;> simp [h]
section AMF
variable {l : Launch} {D : va_G} {dA : Nat → ClassId} {sA : Nat → Nat} {G : Nat → Option amM} {X : Nat → Option amN}
/-- the calls -/
theorem am_callAct {p : Program} {e : Env} {R : Room} {s : State} {m : MethodId} {args : Array Value} {below : List Frame} {meth : Method} {c : Code} {A : Nat → Prop} {Q : State → Prop} {N : amN} {M : amM} {sc : Option (List Int32)} {d mcT msT : Nat} (C : amCx p R s m args meth c A D dA sA G X N M sc (d + 1) mcT msT)
    {pc a b k : Nat} {i : Instr} (hE : amEok G X N M (pc, i, a, b)) {ls : amL} {st av rest : List Value} {hp hp1 : amH} (h : amDo G M sc i a b pc ls st hp = some (.inr (.inr (.inr (k, av, rest))))) {Mk : amM} (hGk : G k = some Mk) {x : Option Value ⊕ Nat} {mc ms kc ks : Nat} {ad : Nat → Nat} {H : Heap} {locs : List Loc} {lsA : Array Slot}
    (hM : ∀ (Nk : amN), X k = some Nk → (av.map fun v => v.category).sum ≤ Mk.2.1 → vx_Met l Nk.1 (amHd Nk Mk :: amWL) (amRm d mc ms) (amPc D dA sA ad hp av H.size) (amQ D dA ad hp.length (va_A (amW dA ad hp) H.size) x hp1) (amX D dA ad hp.length (va_A (amW dA ad hp) H.size) x hp1) mc ms (va_A (amW dA ad hp) H.size)) (hnL : Mk.2.1 ≤ 100)
    (hmay : amMay i b = false → ∃ v, x = .inl v) (hroom : kc + mc ≤ R.cells ∧ ks + ms ≤ R.slots) (hl : lv_has lsA M.2.1 (amLs ad ls)) (hP : va_P D vwCl (amW dA ad hp) H) (hD : va_D A (amW dA ad hp)) (hS : va_S A s.heap H locs)
    (kk : ∀ (v : Option Value) (ad1 : Nat → Nat) (H1 : Heap) (locs1 : List Loc), x = .inl v → amAg hp.length ad ad1 → va_P D vwCl (amW dA ad1 hp1) H1 → va_D A (amW dA ad1 hp1) → va_S A s.heap H1 locs1 → W p l e R s m args below meth c H1 locs1 (kc + mc) (ks + ms) Q (F0 m (pc + 3) lsA ((v.toList ++ rest).map (amV ad1))))
    (kx : ∀ (k : Nat) (E : String) (ce : Cell) (q9 : Addr) (ad1 : Nat → Nat) (H1 : Heap) (locs1 : List Loc), x = .inr k → amEx[k]? = some E → amAg hp.length ad ad1 → va_P D vwCl (amW dA ad1 hp1) H1 → va_D A (amW dA ad1 hp1) → va_S A s.heap H1 locs1 → H1[q9]? = some ce → ce.vm = .none → s.vm.findClass E = some ce.cls → vx_W p l e R s m args below meth c H1 locs1 (kc + mc) (ks + ms) Q (F0 m pc lsA (rest.map (amV ad))) q9) :
    amOkL hp.length ls = true ∧ W p l e R s m args below meth c H locs kc ks Q (F0 m pc lsA (st.map (amV ad))) := by
  obtain ⟨hx, hb, hml, hown, hts, hG, hZ, hA, hini, htab, hMk, hR, hsc⟩ := C
  obtain ⟨⟨n, hd, hn⟩, hlk, hlk2⟩ := hE
  dsimp only at hd hn hlk hlk2
  have S : CallFix p m c N.2.1 M.2.1 s args amWL N.1.cls := ⟨hx, hb, hml, hown, hts⟩
  have hR2 : d + 9 ≤ R.frames ∧ 128 * (d + 2) ≤ R.locals := ⟨by omega, by omega⟩
  unfold amDo at h
  split at h
  case h_1 =>
    split at h
    · obtain ⟨-, -, -, -, e1⟩ := amMake_s h; cases e1
    · split at h <;> cases h
  case h_2 => obtain ⟨_, _, _, _, -, -, -, -, h⟩ := amMakeA_s h; obtain ⟨-, -, -, -, e1⟩ := amMake_s h; cases e1
  case h_3 => obtain ⟨_, _, _, _, -, -, -, -, h⟩ := amMakeA_s h; obtain ⟨-, -, -, -, e1⟩ := amMake_s h; cases e1
  case h_4 z =>
    obtain rfl : n = 3 := by rcases hn with hn | hn <;> first | exact hn | cases hn
    obtain ⟨M9, av9, rest9, g1, rfl, g2, g3, g4, g5, g6, g7, e1⟩ := amCall_s h
    cases e1
    obtain ⟨Nk, M8, r, n8, q1, q2, q3, q4, q5, w1, w2, w3, w4, w5, q6, q7, q8⟩ := hlk2
    cases hGk.symm.trans g1
    cases q2.symm.trans g1
    have hM1 := hM Nk q1 g7
    unfold amHd at hM1
    rw [if_pos q3] at hM1
    unfold amRecv at g5
    split at g5
    · next o As =>
      rw [if_pos rfl] at g5
      split at g5
      · next cl hcl =>
        obtain ⟨t, fs⟩ := cl
        have g5 := of_decide_eq_true g5
        obtain ⟨e5, e6⟩ := g5
        dsimp only at e5
        subst e5
        refine ⟨g3, am_callV S hG hZ hA hP hD hS hM1 q4 e6 hcl q5 w1 w2 w3 w4 w5 ⟨q6.1, q6.2, q7⟩ (by rw [List.length_cons] at g2; omega) hnL hR2 hroom hl.1 g4 g6 hd kk kx⟩
      · cases g5
    · cases g5
  case h_5 z =>
    obtain rfl : n = 3 := by rcases hn with hn | hn <;> first | exact hn | cases hn
    split at h
    · obtain ⟨_, _, _, _, _, _, _, _, -, -, -, -, -, -, -, -, -, e1⟩ := amCopy_s h; cases e1
    · next hb6 =>
      obtain ⟨M9, av9, rest9, g1, rfl, g2, g3, g4, g5, g6, g7, e1⟩ := amCall_s h
      cases e1
      unfold amLk2 at hlk2
      dsimp only at hlk2
      rw [if_neg hb6] at hlk2
      obtain ⟨Nk, M8, q1, q2, q3, w1, w2, w4, q6, q7⟩ := hlk2
      cases hGk.symm.trans g1
      cases q2.symm.trans g1
      have hM1 := hM Nk q1 g7
      unfold amHd at hM1
      by_cases hb0 : b = 0
      · rw [if_pos hb0] at q3
        rw [if_pos q3.1] at hM1
        exact ⟨g3, am_callS S hG hZ hA hP hD hS hM1 w1 w2 w4 q3.2 ⟨q6.1, q6.2, q7⟩ g2 hnL hR2 hroom hl.1 g4 g6 hd kk kx⟩
      · rw [if_neg hb0] at q3
        rw [if_neg q3.1] at hM1
        obtain ⟨v, rfl⟩ := hmay (decide_eq_false hb0)
        exact ⟨g3, am_callSW S hG hZ hA hP hD hS hM1 w1 w2 w4 q3.2 ⟨q6.1, q6.2, q7⟩ g2 hnL hR2 hroom hl.1 g4 g6 hd (fun ad1 H1 locs1 => kk v ad1 H1 locs1 rfl)⟩
  case h_6 z =>
    obtain rfl : n = 3 := by rcases hn with hn | hn <;> first | exact hn | cases hn
    split at h
    · obtain ⟨_, _, -, -, e1⟩ := amObj_s h; cases e1
    · next hb5 =>
      obtain ⟨M9, av9, rest9, g1, rfl, g2, g3, g4, g5, g6, g7, e1⟩ := amCall_s h
      cases e1
      unfold amLk2 at hlk2
      dsimp only at hlk2
      rw [if_neg hb5] at hlk2
      obtain ⟨Nk, M8, n8, q1, q2, q3, q4, w1, w2, w4, w5, q5, q6, q7, q8⟩ := hlk2
      cases hGk.symm.trans g1
      cases q2.symm.trans g1
      have hM1 := hM Nk q1 g7
      unfold amHd at hM1
      rw [if_pos q3, q4] at hM1
      obtain ⟨v, rfl⟩ := hmay rfl
      unfold amRecv at g5
      split at g5
      · next o As =>
        exact ⟨g3, am_callI S hG hZ hA hP hD hS hM1 w1 w2 w4 w5 q5 ⟨q6.1, q6.2, q7⟩ (by rw [List.length_cons] at g2; omega) hnL hR2 hroom hl.1 g4 g6 hd (fun ad1 H1 locs1 => kk v ad1 H1 locs1 rfl)⟩
      · cases g5
  case h_7 => obtain ⟨v, -, e1⟩ := Option.map_eq_some_iff.mp h; cases e1
  case h_8 => obtain ⟨v, -, e1⟩ := Option.map_eq_some_iff.mp h; cases e1
  case h_9 => obtain ⟨v, -, e1⟩ := Option.map_eq_some_iff.mp h; cases e1
  case h_10 => obtain ⟨v, -, e1⟩ := Option.map_eq_some_iff.mp h; cases e1
  case h_11 => obtain ⟨v, -, e1⟩ := Option.map_eq_some_iff.mp h; cases e1
  case h_12 => obtain ⟨v, -, e1⟩ := Option.map_eq_some_iff.mp h; cases e1
end AMF
end
section
/-! ===== whole frames: the induction ===== -/
section AMF
variable {l : Launch} {D : va_G} {dA : Nat → ClassId} {sA : Nat → Nat} {G : Nat → Option amM} {X : Nat → Option amN}
theorem amDo_ret {M : amM} {sc : Option (List Int32)} {i : Instr} {a b pc : Nat} {ls : amL} {st : List Value} {hp : amH} {v : Option Value} (h : amDo G M sc i a b pc ls st hp = some (.inr (.inl v))) : amRetV M.2.2.2.2.1 i st = some v ∧ amSz i = 1 := by
  unfold amDo at h
  split at h
  case h_1 =>
    split at h
    · obtain ⟨-, -, -, -, e1⟩ := amMake_s h; cases e1
    · split at h <;> cases h
  case h_2 => obtain ⟨_, _, _, _, -, -, -, -, h⟩ := amMakeA_s h; obtain ⟨-, -, -, -, e1⟩ := amMake_s h; cases e1
  case h_3 => obtain ⟨_, _, _, _, -, -, -, -, h⟩ := amMakeA_s h; obtain ⟨-, -, -, -, e1⟩ := amMake_s h; cases e1
  case h_4 => obtain ⟨_, _, _, -, -, -, -, -, -, -, -, e1⟩ := amCall_s h; cases e1
  case h_5 =>
    split at h
    · obtain ⟨_, _, _, _, _, _, _, _, -, -, -, -, -, -, -, -, -, e1⟩ := amCopy_s h; cases e1
    · obtain ⟨_, _, _, -, -, -, -, -, -, -, -, e1⟩ := amCall_s h; cases e1
  case h_6 =>
    split at h
    · obtain ⟨_, _, -, -, e1⟩ := amObj_s h; cases e1
    · obtain ⟨_, _, _, -, -, -, -, -, -, -, -, e1⟩ := amCall_s h; cases e1
  case h_7 => obtain ⟨w, h1, e1⟩ := Option.map_eq_some_iff.mp h; cases e1; exact ⟨h1, rfl⟩
  case h_8 => obtain ⟨w, h1, e1⟩ := Option.map_eq_some_iff.mp h; cases e1; exact ⟨h1, rfl⟩
  case h_9 => obtain ⟨w, h1, e1⟩ := Option.map_eq_some_iff.mp h; cases e1; exact ⟨h1, rfl⟩
  case h_10 => obtain ⟨w, h1, e1⟩ := Option.map_eq_some_iff.mp h; cases e1; exact ⟨h1, rfl⟩
  case h_11 => obtain ⟨w, h1, e1⟩ := Option.map_eq_some_iff.mp h; cases e1; exact ⟨h1, rfl⟩
  case h_12 => obtain ⟨w, h1, e1⟩ := Option.map_eq_some_iff.mp h; cases e1
theorem amDo_thr {M : amM} {sc : Option (List Int32)} {i : Instr} {a b pc E : Nat} {ls : amL} {st : List Value} {hp : amH} (h : amDo G M sc i a b pc ls st hp = some (.inr (.inr (.inl E)))) : ∃ k, i = .new k ∧ ¬ b = 0 ∧ E = a ∧ (st.map fun v => v.category).sum ≤ 8 ∧ M.2.2.2.2.2.1 = [] := by
  unfold amDo at h
  split at h
  case h_1 k =>
    split at h
    · obtain ⟨-, -, -, -, e1⟩ := amMake_s h; cases e1
    · next hb =>
      split at h
      · next e2 => cases h; exact ⟨k, rfl, hb, rfl, e2.1, e2.2⟩
      · cases h
  case h_2 => obtain ⟨_, _, _, _, -, -, -, -, h⟩ := amMakeA_s h; obtain ⟨-, -, -, -, e1⟩ := amMake_s h; cases e1
  case h_3 => obtain ⟨_, _, _, _, -, -, -, -, h⟩ := amMakeA_s h; obtain ⟨-, -, -, -, e1⟩ := amMake_s h; cases e1
  case h_4 => obtain ⟨_, _, _, -, -, -, -, -, -, -, -, e1⟩ := amCall_s h; cases e1
  case h_5 =>
    split at h
    · obtain ⟨_, _, _, _, _, _, _, _, -, -, -, -, -, -, -, -, -, e1⟩ := amCopy_s h; cases e1
    · obtain ⟨_, _, _, -, -, -, -, -, -, -, -, e1⟩ := amCall_s h; cases e1
  case h_6 =>
    split at h
    · obtain ⟨_, _, -, -, e1⟩ := amObj_s h; cases e1
    · obtain ⟨_, _, _, -, -, -, -, -, -, -, -, e1⟩ := amCall_s h; cases e1
  case h_7 => obtain ⟨w, h1, e1⟩ := Option.map_eq_some_iff.mp h; cases e1
  case h_8 => obtain ⟨w, h1, e1⟩ := Option.map_eq_some_iff.mp h; cases e1
  case h_9 => obtain ⟨w, h1, e1⟩ := Option.map_eq_some_iff.mp h; cases e1
  case h_10 => obtain ⟨w, h1, e1⟩ := Option.map_eq_some_iff.mp h; cases e1
  case h_11 => obtain ⟨w, h1, e1⟩ := Option.map_eq_some_iff.mp h; cases e1
  case h_12 => obtain ⟨w, h1, e1⟩ := Option.map_eq_some_iff.mp h; cases e1
theorem amDrop_ls {ad : Nat → Nat} {ls : amL} {i : Nat} {nL : Nat} {v : Value} {lsA : Array Slot} (h : lv_has lsA nL ((i, v) :: (amLs ad ls).filter (fun q => !(q.1 == i) && !(q.1 + 1 == i && q.2.category == 2)))) : lv_has lsA nL (amLs ad (amDrop ls i)) := by
  refine ⟨h.1, h.2.1, fun q hq => h.2.2 q (List.mem_cons_of_mem _ ?_)⟩
  have e : amLs ad (amDrop ls i) = (amLs ad ls).filter (fun q => !(q.1 == i) && !(q.1 + 1 == i && q.2.category == 2)) := by
    simp [amLs, amDrop, List.filter_map, Function.comp_def, amV_cat]
  rw [← e]
  exact hq
theorem amOkL_drop {n : Nat} {ls : amL} {i : Nat} (h : amOkL n ls = true) : amOkL n (amDrop ls i) = true := by
  unfold amOkL at h ⊢
  rw [List.all_eq_true] at h ⊢
  intro q hq
  exact h q (List.mem_filter.mp hq).1
set_option maxHeartbeats 4000000 in
theorem am_FR_succ (hus : ∀ (ci : Nat) (r : vw_C), vwCl[ci]? = some r → ∀ w ∈ u_ws r.1 r.2.1 r.2.2, w ∈ amWL) (hcl : amClOk) (hGM : ∀ k M, G k = some M → M.2.1 ≤ 100) {f : Nat} (hFR : amFR l D dA sA G X f) (hCT : amCT l D dA sA G X f) : amFR l D dA sA G X (f + 1) := by
  intro p e R s m args below meth c A Q N M sc d n0 ad0 x hp1 mc ms C hs0 Er Et Ex cs pc ls st hp kc ks ad H locs lsA hcs h hag hn0 hl hP hD hS
  have hsA : ∀ j, ad (amK + j) = sA j := fun j => (hag _ (Or.inr (Nat.le_add_right _ _))).trans (hs0 j)
  obtain ⟨hx, hb, hml, hown, hts, hG, hZ, hA, hini, htab, hMk, hR, hsc⟩ := id C
  have next := hFR p e R s m args below meth c A Q N M sc d n0 ad0 x hp1 mc ms C hs0 Er Et Ex
  cases cs with
  | nil => unfold amRun at h; cases h
  | cons q cs =>
    obtain ⟨q0, i, a, b⟩ := q
    have hcs' : ∀ z ∈ cs, z ∈ M.1 := fun z hz => hcs z (List.mem_cons_of_mem _ hz)
    have hE : amEok G X N M (q0, i, a, b) := hMk.2.2.2.2 _ (hcs _ List.mem_cons_self)
    unfold amRun at h
    dsimp only at h
    split at h
    · next hq =>
      subst hq
      split at h
      · cases h
      · next r dk ds ea =>
        obtain ⟨m1, m2, m3⟩ := amRun_mono _ _ _ _ _ _ _ _ _ _ _ _ _ _ _ h
        refine am_act hx hb hml hts hown hG hus hcl hini hsA hsc hA hE ⟨by omega, by omega⟩ ea ⟨by omega, by omega⟩ hl hP hD hS (fun ad1 H1 locs1 lsA1 g1 g2 g3 g4 g5 => ?_)
        have hlen := amDo_len ea
        exact next _ _ _ _ _ _ _ ad1 H1 locs1 lsA1 (am_next_in hcs') h (hag.trans hn0 g1) (Nat.le_trans hn0 hlen) g5 g2 g3 g4
      · next v ea =>
        cases h
        obtain ⟨e1, e2⟩ := amDo_ret ea
        obtain ⟨⟨n, hd, hn⟩, -, -⟩ := hE
        dsimp only at hd hn
        rw [e2] at hn
        obtain rfl : n = 1 := by rcases hn with hn | hn <;> first | exact hn | cases hn
        exact Er v i _ st ad H locs lsA rfl hd e1 hag hP hD hS
      · next E ea =>
        cases h
        obtain ⟨k, rfl, hb0, rfl, hcat, hh⟩ := amDo_thr ea
        obtain ⟨⟨n, hd, hn⟩, -, hlk2⟩ := hE
        dsimp only at hd hn hlk2
        obtain rfl : n = 3 := by rcases hn with hn | hn <;> first | exact hn | cases hn
        unfold amLk2 at hlk2
        dsimp only at hlk2
        rw [if_neg hb0] at hlk2
        exact Et _ b k kc ks _ st ad H locs lsA rfl hd hlk2 hh hcat hl.1 rfl rfl hag hP hD hS
      · next k av rest ea =>
        split at h
        · next d' Nk eG =>
          split at h
          · next v hp2 mc2 ms2 er =>
            obtain ⟨m1, m2, m3⟩ := amRun_mono _ _ _ _ _ _ _ _ _ _ _ _ _ _ _ h
            obtain ⟨-, -, m4⟩ := amRun_mono _ _ _ _ _ _ _ _ _ _ _ _ _ _ _ er
            have key := am_callAct (e := e) (below := below) (Q := Q) C hE ea eG (x := .inl v) (mc := mc2) (ms := ms2) (kc := kc) (ks := ks) (fun Nk2 hX hav => hCT k Nk2 Nk d' av hp hp2 (.inl v) mc2 ms2 ad H.size hX eG hsA hav er) (hGM _ _ eG) (fun _ => ⟨v, rfl⟩) ⟨by omega, by omega⟩ hl hP hD hS
            have hok : amOkL hp.length ls = true := by
              unfold amDo at ea
              split at ea
              case h_1 =>
                split at ea
                · obtain ⟨-, -, -, -, e1⟩ := amMake_s ea; cases e1
                · split at ea <;> cases ea
              case h_2 => obtain ⟨_, _, _, _, -, -, -, -, ea⟩ := amMakeA_s ea; obtain ⟨-, -, -, -, e1⟩ := amMake_s ea; cases e1
              case h_3 => obtain ⟨_, _, _, _, -, -, -, -, ea⟩ := amMakeA_s ea; obtain ⟨-, -, -, -, e1⟩ := amMake_s ea; cases e1
              case h_4 => obtain ⟨_, _, _, -, -, -, o, -⟩ := amCall_s ea; exact o
              case h_5 =>
                split at ea
                · obtain ⟨_, _, _, _, _, _, _, _, -, -, -, -, -, -, -, -, -, e1⟩ := amCopy_s ea; cases e1
                · obtain ⟨_, _, _, -, -, -, o, -⟩ := amCall_s ea; exact o
              case h_6 =>
                split at ea
                · obtain ⟨_, _, -, -, e1⟩ := amObj_s ea; cases e1
                · obtain ⟨_, _, _, -, -, -, o, -⟩ := amCall_s ea; exact o
              case h_7 => obtain ⟨w, -, e1⟩ := Option.map_eq_some_iff.mp ea; cases e1
              case h_8 => obtain ⟨w, -, e1⟩ := Option.map_eq_some_iff.mp ea; cases e1
              case h_9 => obtain ⟨w, -, e1⟩ := Option.map_eq_some_iff.mp ea; cases e1
              case h_10 => obtain ⟨w, -, e1⟩ := Option.map_eq_some_iff.mp ea; cases e1
              case h_11 => obtain ⟨w, -, e1⟩ := Option.map_eq_some_iff.mp ea; cases e1
              case h_12 => obtain ⟨w, -, e1⟩ := Option.map_eq_some_iff.mp ea; cases e1
            exact (key (fun w ad1 H1 locs1 ew g1 g2 g3 g4 => by
              cases ew
              exact next _ _ _ _ _ _ _ ad1 H1 locs1 lsA (am_next_in hcs') h (hag.trans hn0 g1) (Nat.le_trans hn0 m4) (by rw [amLs_ag hok g1]; exact hl) g2 g3 g4) (fun k9 E ce q9 ad1 H1 locs1 ew => by cases ew)).2
          · next E hp2 mc2 ms2 er =>
            split at h
            · cases h
            · next hmay =>
              obtain ⟨-, -, m4⟩ := amRun_mono _ _ _ _ _ _ _ _ _ _ _ _ _ _ _ er
              split at h
              · next hh =>
                cases h
                exact (am_callAct (Q := Q) C hE ea eG (x := .inr E) (mc := mc2) (ms := ms2) (kc := kc) (ks := ks) (fun Nk2 hX hav => hCT k Nk2 Nk d' av hp hp1 (.inr E) mc2 ms2 ad H.size hX eG hsA hav er) (hGM _ _ eG) (fun z => absurd z hmay) ⟨by omega, by omega⟩ hl hP hD hS
                  (fun w ad1 H1 locs1 ew => by cases ew)
                  (fun k9 En ce q9 ad1 H1 locs1 ew hEn g1 g2 g3 g4 g5 g6 g7 => by
                    cases ew
                    exact Ex E En ce q9 _ _ ad1 H1 locs1 lsA rfl hEn hh (hag.trans hn0 g1) g2 g3 g4 g5 g6 g7)).2
              · next hh =>
                split at h
                · next hq x9 to eh =>
                  obtain ⟨m1, m2, m3⟩ := amRun_mono _ _ _ _ _ _ _ _ _ _ _ _ _ _ _ h
                  have key := am_callAct (e := e) (below := below) (Q := Q) C hE ea eG (x := .inr E) (mc := mc2) (ms := ms2) (kc := kc) (ks := ks) (fun Nk2 hX hav => hCT k Nk2 Nk d' av hp hp2 (.inr E) mc2 ms2 ad H.size hX eG hsA hav er) (hGM _ _ eG) (fun z => absurd z hmay) ⟨by omega, by omega⟩ hl hP hD hS (fun w ad1 H1 locs1 ew => by cases ew)
                  have hok : amOkL hp.length ls = true := by
                    unfold amDo at ea
                    split at ea
                    case h_1 =>
                      split at ea
                      · obtain ⟨-, -, -, -, e1⟩ := amMake_s ea; cases e1
                      · split at ea <;> cases ea
                    case h_2 => obtain ⟨_, _, _, _, -, -, -, -, ea⟩ := amMakeA_s ea; obtain ⟨-, -, -, -, e1⟩ := amMake_s ea; cases e1
                    case h_3 => obtain ⟨_, _, _, _, -, -, -, -, ea⟩ := amMakeA_s ea; obtain ⟨-, -, -, -, e1⟩ := amMake_s ea; cases e1
                    case h_4 => obtain ⟨_, _, _, -, -, -, o, -⟩ := amCall_s ea; exact o
                    case h_5 =>
                      split at ea
                      · obtain ⟨_, _, _, _, _, _, _, _, -, -, -, -, -, -, -, -, -, e1⟩ := amCopy_s ea; cases e1
                      · obtain ⟨_, _, _, -, -, -, o, -⟩ := amCall_s ea; exact o
                    case h_6 =>
                      split at ea
                      · obtain ⟨_, _, -, -, e1⟩ := amObj_s ea; cases e1
                      · obtain ⟨_, _, _, -, -, -, o, -⟩ := amCall_s ea; exact o
                    case h_7 => obtain ⟨w, -, e1⟩ := Option.map_eq_some_iff.mp ea; cases e1
                    case h_8 => obtain ⟨w, -, e1⟩ := Option.map_eq_some_iff.mp ea; cases e1
                    case h_9 => obtain ⟨w, -, e1⟩ := Option.map_eq_some_iff.mp ea; cases e1
                    case h_10 => obtain ⟨w, -, e1⟩ := Option.map_eq_some_iff.mp ea; cases e1
                    case h_11 => obtain ⟨w, -, e1⟩ := Option.map_eq_some_iff.mp ea; cases e1
                    case h_12 => obtain ⟨w, -, e1⟩ := Option.map_eq_some_iff.mp ea; cases e1
                  refine (key (fun k9 En ce q9 ad1 H1 locs1 ew hEn g1 g2 g3 g4 g5 g6 g7 => ?_)).2
                  cases ew
                  obtain ⟨pre, z, suf, t1, t2, t3, t4, t5, t6, t7, t8, t9⟩ := hMk.2.2.2.1.2 _ _ _ _ _ En eh hEn
                  refine vx_catch (name := En) hown pre z suf (htab.trans t1) (fun y hy => (t2 y hy).imp id (fun ⟨w1, nm, w2, w3⟩ => ⟨w1, nm, hts _ w2, hG.2.2.2.1 _ w3⟩)) t3 t4 (hts _ t6) (va_Nw.use rfl (hG.2.2.1 _ t7 rfl)) g5 g6 g7 ?_
                  rw [t5]
                  have fin : ∀ lsB : Array Slot, lv_has lsB M.2.1 ((x9, Value.ref q9) :: (amLs ad1 ls).filter (fun q => !(q.1 == x9) && !(q.1 + 1 == x9 && q.2.category == 2))) → W p l e R s m args below meth c H1 locs1 (kc + mc2) (ks + ms2) Q (F0 m to lsB []) := fun lsB hB =>
                    next _ _ _ _ _ _ _ ad1 H1 locs1 lsB (am_seek_in) h (hag.trans hn0 g1) (Nat.le_trans hn0 m4) (amDrop_ls hB) g2 g3 g4
                  have hl1 : lv_has lsA M.2.1 (amLs ad1 ls) := by rw [amLs_ag hok g1]; exact hl
                  rcases t9 with ⟨j, hj, hdj, rfl⟩ | ⟨hdj, rfl⟩
                  · exact lv_astore_n hx hb hdj hj hl1 t8 rfl fin
                  · exact lv_astore hx hb hdj hl1 t8 rfl fin
                · cases h
          · cases h
        · cases h
    · cases h
/-- a method's body, with a table of handlers or none -/
theorem am_ofW {y : MethodName} {ws' : List Jvm.Cond} {rm : Room} {Pc : Array Value → State → Prop} {Qc : Array Value → State → Outcome → State → Prop} {XC : String → State → State → Prop} {mc ms : Nat} {free : Addr → Prop} {cc : ByteArray} {maxL : Nat} {ret : Option FieldType} {hh : List (Nat × Nat × Nat × Nat)} {hd : Jvm.Cond}
    (hy : plainFor y = true) (hhd : hd = if hh = [] then Jvm.Cond.code y cc maxL ret else Jvm.Cond.codeWith y cc maxL ret hh)
    (body : ∀ p e s m args below meth c s₁, BodyLoose p l y (headSpec (hd :: ws') rm) cc maxL ret e s m args below meth c s₁ → c.maxLocals = maxL → c.exceptionTable.toList = tableOf hh → Pc args s →
      W p l e (headSpec (hd :: ws') rm).room s m args below meth c s.heap [] 0 0 (vx_MQ below Qc XC args s mc ms free) (entryFrame m args maxL)) : vx_Met l y (hd :: ws') rm Pc Qc XC mc ms free := by
  by_cases h0 : hh = []
  · rw [if_pos h0] at hhd
    refine MetFree.of_bodySF (code := cc) (maxLocals := maxL) (ret := ret) hy ?_ ?_
    · intro args s m h hn
      obtain ⟨meth, c, h1, h2, h3, h4, h5, h6, -, -⟩ := Cond.code_spec hn (atoms_spec (ws := hd :: ws') h _ (by rw [hhd]; exact List.mem_cons_self))
      exact ⟨meth, c, h1, h2, h3, h4, h5, h6⟩
    · intro p e s m args below meth c s₁ B hml hP _
      have hh0 : s₁.heap = s.heap := by rw [B.state]; rfl
      have ht : c.exceptionTable.toList = tableOf hh := by
        obtain ⟨meth9, c9, h1, h2, -, -, -, -, h7, -⟩ := Cond.code_spec B.named (atoms_spec (ws := hd :: ws') B.pre _ (by rw [hhd]; exact List.mem_cons_self))
        cases Option.some.inj (h1.symm.trans B.method)
        cases Option.some.inj (h2.symm.trans (Stand.of_body B).code)
        rw [Array.isEmpty_iff.mp h7, h0]
        rfl
      obtain ⟨t, a1, o, b1, b2, b3⟩ := body p e s m args below meth c s₁ B hml ht hP s₁ hh0 (Stand.of_body B)
      exact ⟨t, o, a1, b1, b2, b3⟩
  · rw [if_neg h0] at hhd
    refine MetFree.of_bodySF (code := cc) (maxLocals := maxL) (ret := ret) hy ?_ ?_
    · intro args s m h hn
      obtain ⟨m9, meth, c, hn9, h1, h2, h3, h4, -, h5, h6, -⟩ := Cond.codeWith_spec (atoms_spec (ws := hd :: ws') h _ (by rw [hhd]; exact List.mem_cons_self))
      cases hn.symm.trans hn9
      exact ⟨meth, c, h1, h2, h3, h4, h5, h6⟩
    · intro p e s m args below meth c s₁ B hml hP _
      have hh0 : s₁.heap = s.heap := by rw [B.state]; rfl
      have ht : c.exceptionTable.toList = tableOf hh := vx_table (x := y) (y := y) B (atoms_spec (ws := hd :: ws') B.pre _ (by rw [hhd]; exact List.mem_cons_self))
      obtain ⟨t, a1, o, b1, b2, b3⟩ := body p e s m args below meth c s₁ B hml ht hP s₁ hh0 (Stand.of_body B)
      exact ⟨t, o, a1, b1, b2, b3⟩
set_option maxHeartbeats 8000000 in
theorem am_con (hlt : l.stackTraces = false) (hT : ∀ k N M, X k = some N → G k = some M → amMk G X N M) {f : Nat} (hFR : amFR l D dA sA G X f) : amCT l D dA sA G X f := by
  intro k N M d av hp hp1 x mc ms ad sz hX hG' hsA hcat h
  have hMk := hT k N M hX hG'
  refine am_ofW (cc := N.2.1) (maxL := M.2.1) (ret := M.2.2.2.2.1) (hh := N.2.2) hMk.1 rfl ?_
  intro p e s m args below meth c s₁ B hml htab hv
  obtain ⟨rfl, rfl, hG, hP, hD, hZ⟩ := hv
  have hpre := atoms_spec (ws := amHd N M :: amWL) B.pre
  have hlocks := B.notSynchronized
  have hx := B.exec
  have hb := B.bytes
  have hown : s.vm.findClass N.1.cls = some m.cls := findClass_of_methodNamed B.named
  have C : amCx p (headSpec (amHd N M :: amWL) (amRm d mc ms)).room s m (av.map (amV ad)).toArray meth c (va_A (amW dA ad hp) s.heap.size) D dA sA G X N M none d mc ms :=
    ⟨hx, hb, hml, hown, fun w hw => hpre w (List.mem_cons_of_mem _ hw), hG, hZ, fun q h => Or.inr h, fun hi => (name_of_methodNamed B.named B.method).1.trans (hMk.2.2.1 hi), htab, hMk, ⟨Nat.le_refl _, Nat.le_refl _, Nat.le_refl _, Nat.le_refl _⟩, fun l z => by cases z⟩
  rw [lg_entry_eq]
  have hlen : (lg_sl (av.map (amV ad))).length ≤ M.2.1 := by
    rw [am_sl_len, List.map_map]
    simpa [Function.comp_def, amV_cat] using hcat
  have hl := lv_entry (av.map (amV ad)) hlen
  rw [← am_args_ls] at hl
  refine hFR p e _ s m _ below meth c _ (vx_MQ below (amQ D dA ad hp.length (va_A (amW dA ad hp) s.heap.size) x hp1) (amX D dA ad hp.length (va_A (amW dA ad hp) s.heap.size) x hp1) (av.map (amV ad)).toArray s mc ms (va_A (amW dA ad hp) s.heap.size)) N M none d hp.length ad x hp1 mc ms C hsA ?_ ?_ ?_ M.1 0 (lv_args 0 av) [] hp 0 0 ad s.heap [] _ (fun q h => h) h (amAg.refl _ _) (Nat.le_refl _) hl hP hD.self va_S.rf
  · intro v i pc st ad1 H locs lsA hxv hd hret hag hP1 hD1 hS1
    refine vx_ret ?_
    have post : ∀ t : State, t.heap = H → amQ D dA ad hp.length (va_A (amW dA ad hp) s.heap.size) x hp1 (av.map (amV ad)).toArray s (.returned (v.map (amV ad1))) t := fun t ht => ⟨v, ad1, hxv, rfl, hag, by rw [ht]; exact hP1, hD1, hS1.F ht⟩
    rcases amRetV_s hret with ⟨ty, z, rfl, e1, rfl, e2, rfl⟩ | ⟨z, rfl, e1, rfl, rfl⟩ | ⟨z, rfl, e1, rfl, rfl⟩ | ⟨z, rfl, e1, rfl, rfl⟩ | ⟨rfl, e1, rfl, rfl⟩
    · exact W.zret hx hb (B.returns.trans e1) e2 (fun t ht _ => post t ht) hS1.2.2 hd
    · exact W.lret hx hb (B.returns.trans e1) (fun t ht _ => post t ht) hS1.2.2 hd
    · exact W.fret hx hb (B.returns.trans e1) (fun t ht _ => post t ht) hS1.2.2 hd
    · exact W.dret hx hb (B.returns.trans e1) (fun t ht _ => post t ht) hS1.2.2 hd
    · exact W.vret hx hb (B.returns.trans e1) (fun t ht _ => post t ht) hS1.2.2 hd
  · intro a b kk kc ks pc st ad1 H locs lsA hxv hd hthr hh hcat1 hsz hkc hks hag hP1 hD1 hS1
    obtain ⟨cls, is, text, ic, t1, t2, t3, t4, t5, t6, t7, t8⟩ := hthr
    have hts := fun w hw => hpre w (List.mem_cons_of_mem _ hw)
    have hempty : c.exceptionTable.toList = [] := by
      rw [htab]
      rw [hMk.2.2.2.1.1 hh]
      rfl
    have hcat2 : ((st.map (amV ad1)).map fun v => v.category).sum ≤ 8 := by
      rw [List.map_map]
      simpa [Function.comp_def, amV_cat] using hcat1
    have hfr : amXn.length + 3 < (headSpec (amHd N M :: amWL) (amRm d mc ms)).room.frames := by show 2 + 3 < d + 8; omega
    have hlo : ((st.map (amV ad1)).map fun v => v.category).sum + (13 * (amXn.length + 1) + 43) ≤ (headSpec (amHd N M :: amWL) (amRm d mc ms)).room.locals := by show _ + (13 * (2 + 1) + 43) ≤ 128 * (d + 1); omega
    have hxx : ∀ t : State, s.vm.Alike t.vm → H.size ≤ t.heap.size → (∀ q : Nat, q < H.size → t.heap[q]? = H[q]?) → amX D dA ad hp.length (va_A (amW dA ad hp) s.heap.size) x hp1 cls s t := fun t _ u1 u2 =>
      ⟨a, ad1, hxv, t1, hag, hP1.kept (fun k q hk => u2 q.1 ((hP1 k q hk).lt)), hD1, Nat.le_trans hS1.1 u1, fun q v1 v2 => (u2 q (Nat.lt_of_lt_of_le v1 hS1.1)).trans (hS1.2.1 q v1 v2)⟩
    rcases t6 with ⟨rfl, hown9, rfl⟩ | t6
    · have hcls : cls = amNS := (Option.some.inj t1).symm
      subst hcls
      have hat : ∀ w ∈ am_nw.filter vx_no, w.before (av.map (amV ad)).toArray s = true := fun w hw => by
        obtain ⟨u1, u2, u3⟩ := am_nOk w hw
        rcases u3 with u3 | ⟨u3, u4⟩
        · exact hts w (amWL_in u2 u3)
        · exact va_Nw.use u4 (hG.2.2.1 w u2 u3)
      rw [hown9] at t4
      have hown1 : s.vm.findClass "TripleTrains" = some m.cls := hown9 ▸ hown
      have hstr1 := hG.2.1 _ _ t2
      dsimp only at hstr1
      rw [hown9] at hstr1
      split at t8
      · exact am_throwN (k := 6) (sa := sA ((b - 1) / 2)) hx hb hlt hown1 (hts _ t4) (hts _ t5) hstr1 hat (fun w hw => (am_nOk w hw).1) hZ.1 hZ.2 hS1 (hsz.trans hml.symm) hd t7 (Or.inl ⟨t8.1, rfl⟩) t8.2.1 t8.2.2 (by rw [hempty]; intro z hz; cases hz) (by show 5 < d + 8; omega) (by show _ + 82 ≤ 128 * (d + 1); omega) (by show kc + 1 ≤ mc; omega) (by show ks + 6 ≤ ms; omega) hlocks hxx hS1.2.2 (by omega) (by omega)
      · exact am_throwN (k := 7) (sa := sA ((b - 1) / 2)) hx hb hlt hown1 (hts _ t4) (hts _ t5) hstr1 hat (fun w hw => (am_nOk w hw).1) hZ.1 hZ.2 hS1 (hsz.trans hml.symm) hd t7 (Or.inr ⟨t8.1, rfl⟩) t8.2.1 t8.2.2 (by rw [hempty]; intro z hz; cases hz) (by show 5 < d + 8; omega) (by show _ + 82 ≤ 128 * (d + 1); omega) (by show kc + 1 ≤ mc; omega) (by show ks + 6 ≤ ms; omega) hlocks hxx hS1.2.2 (by omega) (by omega)
    · have hat : ∀ w ∈ vx_atS N.1.cls ic cls amXn, w.before (av.map (amV ad)).toArray s = true := fun w hw => by
        obtain ⟨u1, u2, u3⟩ := t6 w hw
        rcases u3 with u3 | ⟨u3, u4⟩
        · exact hts w (amWL_in u2 u3)
        · exact va_Nw.use u4 (hG.2.2.1 w u2 u3)
      have hgood : ∀ w ∈ Jvm.Cond.classLink N.1.cls kk cls :: Jvm.Cond.initialized cls :: vx_atS N.1.cls ic cls amXn, vx_ot w = true := fun w hw => by
        rcases List.mem_cons.mp hw with rfl | hw
        · rfl
        · rcases List.mem_cons.mp hw with rfl | hw
          · rfl
          · exact (t6 w hw).1
      have hfit : ∀ n ∈ amXn, Bundle.fit n = true := by decide +kernel
      split at t8
      · exact vx_throwS (sa := sA ((b - 1) / 2)) hx hb hlt hown t3 hfit (hts _ t4) (hts _ t5) (hG.2.1 _ _ t2) hat hgood hZ.1 hZ.2 hS1 (hsz.trans hml.symm) hd t7 t8.1 t8.2.1 t8.2.2 (by rw [hempty]; intro z hz; cases hz) hfr hlo (by show kc + 1 ≤ mc; omega) (by show ks + 6 ≤ ms; omega) hlocks hxx hS1.2.2 (by omega) (by omega)
      · exact vx_throwSW (sa := sA ((b - 1) / 2)) hx hb hlt hown t3 hfit (hts _ t4) (hts _ t5) (hG.2.1 _ _ t2) hat hgood hZ.1 hZ.2 hS1 (hsz.trans hml.symm) hd t7 t8.1 t8.2.1 t8.2.2 (by rw [hempty]; intro z hz; cases hz) hfr hlo (by show kc + 1 ≤ mc; omega) (by show ks + 6 ≤ ms; omega) hlocks hxx hS1.2.2 (by omega) (by omega)
  · intro E En ce q9 pc st ad1 H locs lsA hxv hEn hh hag hP1 hD1 hS1 g1 g2 g3
    have hempty : c.exceptionTable.toList = [] := by
      rw [htab, hMk.2.2.2.1.1 hh]
      rfl
    exact vx_out (by rw [hempty]; intro z hz; cases hz) hlocks g1 g2 g3 (fun t ht _ => ⟨E, ad1, hxv, hEn, hag, by rw [ht]; exact hP1, hD1, hS1.F ht⟩) hS1.2.2 (Nat.le_refl _) (Nat.le_refl _)
theorem am_all (hlt : l.stackTraces = false) (hus : ∀ (ci : Nat) (r : vw_C), vwCl[ci]? = some r → ∀ w ∈ u_ws r.1 r.2.1 r.2.2, w ∈ amWL) (hcl : amClOk) (hGM : ∀ k M, G k = some M → M.2.1 ≤ 100) (hT : ∀ k N M, X k = some N → G k = some M → amMk G X N M) : ∀ f, amFR l D dA sA G X f := by
  intro f
  induction f with
  | zero =>
    intro p e R s m args below meth c A Q N M sc d n0 ad0 x hp1 mc ms C hs0 Er Et Ex cs pc ls st hp kc ks ad H locs lsA hcs h
    unfold amRun at h
    cases h
  | succ f ih => exact am_FR_succ hus hcl hGM ih (am_con hlt hT ih)
end AMF
end
section
/-! ===== the words of the throws ===== -/
/-- where TripleTrains links the constructors of its exceptions -/
def amXic : List Nat := [145, 191, 206, 283]
theorem am_x0 : ∀ w ∈ vx_atS "TripleTrains" 145 "java/lang/IllegalArgumentException" amXn, vx_ot w = true ∧ w ∈ lw_tbl ∧ (goodWord w = true ∨ (amNk w = true ∧ w.onTables = true)) := by decide +kernel
theorem am_x1 : ∀ w ∈ vx_atS "TripleTrains" 191 "java/lang/IndexOutOfBoundsException" amXn, vx_ot w = true ∧ w ∈ lw_tbl ∧ (goodWord w = true ∨ (amNk w = true ∧ w.onTables = true)) := by decide +kernel
theorem am_x2 : ∀ w ∈ vx_atS "TripleTrains" 206 "java/lang/IllegalStateException" amXn, vx_ot w = true ∧ w ∈ lw_tbl ∧ (goodWord w = true ∨ (amNk w = true ∧ w.onTables = true)) := by decide +kernel
theorem am_fit : ∀ n ∈ amEx, Bundle.fit n = true := by decide +kernel
end
section
/-! ===== tables of methods, checked by program ===== -/
def amAt (i : Nat) (w : Jvm.Cond) : Bool := goodWord w && decide (lw_tbl[i]? = some w)
def amAts : List Nat → List Jvm.Cond → Bool
  | i :: is, w :: ws => amAt i w && amAts is ws
  | [], [] => true
  | _, _ => false
theorem amAt_s {i : Nat} {w : Jvm.Cond} (h : amAt i w = true) : w ∈ amWL := by
  simp only [amAt, Bool.and_eq_true, decide_eq_true_eq] at h
  exact amWL_in (List.mem_of_getElem? h.2) h.1
theorem amAts_s : ∀ {is : List Nat} {ws : List Jvm.Cond}, amAts is ws = true → ∀ w ∈ ws, w ∈ amWL
  | [], [], _, w, hw => by cases hw
  | i :: is, w' :: ws, h, w, hw => by
    simp only [amAts, Bool.and_eq_true] at h
    rcases List.mem_cons.mp hw with rfl | hw
    · exact amAt_s h.1
    · exact amAts_s h.2 w hw
  | [], _ :: _, h, _, _ => by cases h
  | _ :: _, [], h, _, _ => by cases h
def amMHB (y : MethodName) : Bool := decide (y.cls ≠ "java/lang/invoke/MethodHandle") && decide (y.cls ≠ "java/lang/invoke/VarHandle")
theorem amMHB_s {y : MethodName} (h : amMHB y = true) : amNotMH y := by
  simp only [amMHB, Bool.and_eq_true, decide_eq_true_eq] at h
  exact h
def amPar (y : MethodName) : Option Nat := (parseMethodDescriptor y.desc).map (fun d => d.parameters.length)
def amThrB (own : String) (cc : ByteArray) (pc k a b : Nat) (h : List Nat) : Bool := match amEx[a]?, amXic[a]?, amStr[(b - 1) / 2]? with
  | some cls, some ic, some r => decide (own = "TripleTrains") && decide (r.1 = own) && amAts h [Jvm.Cond.classLink own k cls, Jvm.Cond.initialized cls] && decide (decode cc (pc + 3) = .ok (.dup, 1)) &&
      (if (b - 1) % 2 = 0 then decide (decode cc (pc + 4) = .ok (.ldc r.2.1, 2)) && decide (decode cc (pc + 6) = .ok (.invokespecial ic, 3)) && decide (decode cc (pc + 9) = .ok (.athrow, 1))
       else decide (decode cc (pc + 4) = .ok (.ldc_w r.2.1, 3)) && decide (decode cc (pc + 7) = .ok (.invokespecial ic, 3)) && decide (decode cc (pc + 10) = .ok (.athrow, 1)))
  | _, _, _ => false
theorem amThrB_s {own : String} {cc : ByteArray} {pc k a b : Nat} {h : List Nat} (hh : amThrB own cc pc k a b h = true) : amThr own cc pc k a b := by
  unfold amThrB at hh
  split at hh
  · next cls ic r e1 e2 e3 =>
    simp only [Bool.and_eq_true, decide_eq_true_eq] at hh
    obtain ⟨⟨⟨⟨h1, h2⟩, h3⟩, h4⟩, h5⟩ := hh
    have w := amAts_s h3
    refine ⟨cls, r.2.1, r.2.2, ic, e1, by rw [e3, ← h2], am_fit _ (List.mem_of_getElem? e1), w _ (by simp), w _ (by simp), ?_, h4, ?_⟩
    · subst h1
      match a, e1, e2 with
      | 0, e1, e2 => cases e1; cases e2; exact Or.inr am_x0
      | 1, e1, e2 => cases e1; cases e2; exact Or.inr am_x1
      | 2, e1, e2 => cases e1; cases e2; exact Or.inr am_x2
      | 3, e1, e2 => cases e1; cases e2; exact Or.inl ⟨rfl, rfl, rfl⟩
      | a + 4, e1, _ => simp [amEx] at e1
    · split at h5
      · next e => rw [if_pos e]; simp only [Bool.and_eq_true, decide_eq_true_eq] at h5; exact ⟨h5.1.1, h5.1.2, h5.2⟩
      · next e => rw [if_neg e]; simp only [Bool.and_eq_true, decide_eq_true_eq] at h5; exact ⟨h5.1.1, h5.1.2, h5.2⟩
  · cases hh
def amNestB (own : String) (k : Nat) (y : MethodName) (i : Nat) : Bool := match lw_tbl[i]? with
  | some (.methodLinkNest o k' y' _) => decide (o = own ∧ k' = k ∧ y' = y)
  | _ => false
theorem amNestB_s {own : String} {k : Nat} {y : MethodName} {i : Nat} (h : amNestB own k y i = true) : ∃ host, Jvm.Cond.methodLinkNest own k y host ∈ lw_tbl := by
  unfold amNestB at h
  split at h
  · next o k' y' host e =>
    have h := of_decide_eq_true h
    obtain ⟨rfl, rfl, rfl⟩ := h
    exact ⟨host, List.mem_of_getElem? e⟩
  · cases h
def amDecB (cc : ByteArray) (pc : Nat) (i : Instr) : Bool := match decode cc pc with
  | .ok (j, n) => decide (j = i) && (decide (amSz i = 0) || decide (n = amSz i))
  | _ => false
theorem amDecB_s {cc : ByteArray} {pc : Nat} {i : Instr} (h : amDecB cc pc i = true) : ∃ n, decode cc pc = .ok (i, n) ∧ (amSz i = 0 ∨ n = amSz i) := by
  unfold amDecB at h
  split at h
  · next j n e =>
    simp only [Bool.and_eq_true, Bool.or_eq_true, decide_eq_true_eq] at h
    obtain ⟨rfl, h2⟩ := h
    exact ⟨n, e, h2⟩
  · cases h
def amLkB (own : String) (ini : Bool) (pc : Nat) (i : Instr) (a b : Nat) (h : List Nat) : Bool :=
  match i with
  | .ldc k => if b = 0 then amAts h [Jvm.Cond.constant own k (Int32.ofNat a)] else (match amStr[a]? with
    | some r => decide (r.1 = own) && decide (r.2.1 = k)
    | none => false)
  | .ldc_w k => if b = 0 then amAts h [Jvm.Cond.constant own k (Int32.ofNat a)] else true
  | .ldc2_w k => amAts h [Jvm.Cond.constantLong own k (Int64.ofNat a)]
  | .goto o => decide ((pc : Int) + o = (a : Int))
  | .ifCond _ o => decide ((pc : Int) + o = (a : Int))
  | .if_icmp _ o => decide ((pc : Int) + o = (a : Int))
  | .ifnull o => decide ((pc : Int) + o = (a : Int))
  | .ifnonnull o => decide ((pc : Int) + o = (a : Int))
  | .getfield k => (match vwCl[a]? with
    | some r => decide (b < r.2.2) && amAts h [Jvm.Cond.fieldLink own k (r.2.1 b).1 (r.2.1 b).2.1 (r.2.1 b).2.2.1]
    | none => false)
  | .putfield k => (match vwCl[a]? with
    | some r => decide (b < r.2.2) && amAts h [Jvm.Cond.fieldLink own k (r.2.1 b).1 (r.2.1 b).2.1 (r.2.1 b).2.2.1] && (!(r.2.1 b).2.2.2 || (ini && decide ((r.2.1 b).1 = own)))
    | none => false)
  | _ => true
theorem amLkB_s {own : String} {ini : Bool} {pc : Nat} {i : Instr} {a b : Nat} {h : List Nat} (hh : amLkB own ini pc i a b h = true) : amLk amWL own ini pc i a b := by
  cases i
  case ldc k =>
    unfold amLkB at hh
    dsimp only at hh
    split at hh
    · next e => exact ⟨fun _ => amAts_s hh _ (by simp), fun z => absurd e z⟩
    · next e =>
      refine ⟨fun z => absurd z e, fun _ => ?_⟩
      split at hh
      · next r er =>
        simp only [Bool.and_eq_true, decide_eq_true_eq] at hh
        exact ⟨r.2.2, by rw [er, ← hh.1, ← hh.2]⟩
      · cases hh
  case ldc_w k =>
    intro e
    unfold amLkB at hh
    dsimp only at hh
    rw [if_pos e] at hh
    exact amAts_s hh _ (by simp)
  case ldc2_w k => exact amAts_s hh _ (by simp)
  case goto o => exact of_decide_eq_true (p := (pc : Int) + o = (a : Int)) hh
  case ifCond _ o => exact of_decide_eq_true (p := (pc : Int) + o = (a : Int)) hh
  case if_icmp _ o => exact of_decide_eq_true (p := (pc : Int) + o = (a : Int)) hh
  case ifnull o => exact of_decide_eq_true (p := (pc : Int) + o = (a : Int)) hh
  case ifnonnull o => exact of_decide_eq_true (p := (pc : Int) + o = (a : Int)) hh
  case getfield k =>
    unfold amLkB at hh
    dsimp only at hh
    split at hh
    · next r er =>
      simp only [Bool.and_eq_true, decide_eq_true_eq] at hh
      exact ⟨r, er, hh.1, amAts_s hh.2 _ (by simp)⟩
    · cases hh
  case putfield k =>
    unfold amLkB at hh
    dsimp only at hh
    split at hh
    · next r er =>
      simp only [Bool.and_eq_true, Bool.or_eq_true, Bool.not_eq_true', decide_eq_true_eq] at hh
      refine ⟨r, er, hh.1.1, amAts_s hh.1.2 _ (by simp), fun hf => ?_⟩
      rcases hh.2 with z | z
      · rw [hf] at z; cases z
      · exact z
    · cases hh
  all_goals exact trivial
def amLk2B (G : Nat → Option amM) (X : Nat → Option amN) (own : String) (cc : ByteArray) (pc : Nat) (i : Instr) (a b : Nat) (h : List Nat) : Bool :=
  match i with
  | .new k => if b = 0 then (match vwCl[a]? with
    | some r => amAts h [Jvm.Cond.classLink own k r.1, Jvm.Cond.instantiable r.1 r.2.2, Jvm.Cond.initialized r.1]
    | none => false) else amThrB own cc pc k a b h
  | .newarray t => (match amKind t with
    | some _ => amAts h [Jvm.Cond.arrayClass (newarray.typeOf t)]
    | none => true)
  | .anewarray k => amAts h [Jvm.Cond.classLink own k "TripleTrains$Snapshot"]
  | .invokevirtual k => (match X a, G a with
    | some N, some M => N.2.2.isEmpty && (match vwCl[M.2.2.2.2.2.2]? with
      | some r => decide (N.1.cls = r.1) && amAts h [Jvm.Cond.methodLink own k N.1, Jvm.Cond.instanceMethod N.1, Jvm.Cond.selects r.1 N.1 N.1, Jvm.Cond.initialized r.1, Jvm.Cond.code N.1 N.2.1 M.2.1 M.2.2.2.2.1]
      | none => false) && amMHB N.1 && (match amPar N.1 with
      | some n => decide (M.2.2.1 = n + 1)
      | none => false)
    | _, _ => false)
  | .invokestatic k => if b = 6 then amAts h [Jvm.Cond.methodLink own k arraycopyName, Jvm.Cond.native arraycopyName, Jvm.Cond.static arraycopyName, Jvm.Cond.initialized "java/lang/System"]
      else (match X a, G a with
    | some N, some M => (if b = 0 then N.2.2.isEmpty && amAts h [Jvm.Cond.methodLink own k N.1, Jvm.Cond.static N.1, Jvm.Cond.initialized N.1.cls, Jvm.Cond.code N.1 N.2.1 M.2.1 M.2.2.2.2.1]
        else !N.2.2.isEmpty && amAts h [Jvm.Cond.methodLink own k N.1, Jvm.Cond.static N.1, Jvm.Cond.initialized N.1.cls, Jvm.Cond.codeWith N.1 N.2.1 M.2.1 M.2.2.2.2.1 N.2.2]) && amMHB N.1 && decide (amPar N.1 = some M.2.2.1)
    | _, _ => false)
  | .invokespecial k => if b = 5 then amAts h [Jvm.Cond.methodLink own k Lib.objectInit, Jvm.Cond.instanceMethod Lib.objectInit, Jvm.Cond.code Lib.objectInit ⟨#[0xb1]⟩ 1 none]
      else (match X a, G a, h with
    | some N, some M, h0 :: hs => N.2.2.isEmpty && decide (M.2.2.2.2.1 = none) && (amAt h0 (Jvm.Cond.methodLink own k N.1) || amNestB own k N.1 h0) && amAts hs [Jvm.Cond.instanceMethod N.1, Jvm.Cond.initialized N.1.cls, Jvm.Cond.code N.1 N.2.1 M.2.1 none] && decide (N.1.name = "<init>") && amMHB N.1 && (match amPar N.1 with
      | some n => decide (M.2.2.1 = n + 1)
      | none => false)
    | _, _, _ => false)
  | _ => true
theorem amLk2B_s {G : Nat → Option amM} {X : Nat → Option amN} {own : String} {cc : ByteArray} {pc : Nat} {i : Instr} {a b : Nat} {h : List Nat} (hh : amLk2B G X own cc pc i a b h = true) : amLk2 G X own cc pc i a b := by
  cases i
  case new k =>
    unfold amLk2B at hh
    unfold amLk2
    dsimp only at hh ⊢
    split at hh
    · next e =>
      rw [if_pos e]
      split at hh
      · next r er =>
        have w := amAts_s hh
        exact ⟨r, er, w _ (by simp), w _ (by simp), w _ (by simp)⟩
      · cases hh
    · next e => rw [if_neg e]; exact amThrB_s hh
  case newarray t =>
    intro q hq
    unfold amLk2B at hh
    dsimp only at hh
    rw [hq] at hh
    exact amAts_s hh _ (by simp)
  case anewarray k => exact amAts_s hh _ (by simp)
  case invokevirtual k =>
    unfold amLk2B at hh
    dsimp only at hh
    split at hh
    · next N M e1 e2 =>
      simp only [Bool.and_eq_true] at hh
      obtain ⟨⟨⟨h1, h2⟩, h3⟩, h4⟩ := hh
      split at h2
      · next r er =>
        simp only [Bool.and_eq_true, decide_eq_true_eq] at h2
        have w := amAts_s h2.2
        split at h4
        · next n en => exact ⟨N, M, r, n, e1, e2, List.isEmpty_iff.mp h1, er, h2.1, w _ (by simp), w _ (by simp), w _ (by simp), w _ (by simp), w _ (by simp), amMHB_s h3, en, of_decide_eq_true h4⟩
        · cases h4
      · cases h2
    · cases hh
  case invokestatic k =>
    unfold amLk2B at hh
    unfold amLk2
    dsimp only at hh ⊢
    split at hh
    · next e =>
      rw [if_pos e]
      have w := amAts_s hh
      exact ⟨w _ (by simp), w _ (by simp), w _ (by simp), w _ (by simp)⟩
    · next e =>
      rw [if_neg e]
      split at hh
      · next N M e1 e2 =>
        simp only [Bool.and_eq_true, decide_eq_true_eq] at hh
        obtain ⟨⟨h1, h2⟩, h3⟩ := hh
        refine ⟨N, M, e1, e2, ?_⟩
        split at h1
        · next e0 =>
          simp only [Bool.and_eq_true] at h1
          have w := amAts_s h1.2
          rw [if_pos e0]
          exact ⟨⟨List.isEmpty_iff.mp h1.1, w _ (by simp)⟩, w _ (by simp), w _ (by simp), w _ (by simp), amMHB_s h2, h3⟩
        · next e0 =>
          simp only [Bool.and_eq_true, Bool.not_eq_true'] at h1
          have w := amAts_s h1.2
          rw [if_neg e0]
          exact ⟨⟨fun z => (by rw [z] at h1; exact absurd h1.1 (by decide)), w _ (by simp)⟩, w _ (by simp), w _ (by simp), w _ (by simp), amMHB_s h2, h3⟩
      · cases hh
  case invokespecial k =>
    unfold amLk2B at hh
    unfold amLk2
    dsimp only at hh ⊢
    split at hh
    · next e =>
      rw [if_pos e]
      have w := amAts_s hh
      exact ⟨w _ (by simp), w _ (by simp), w _ (by simp)⟩
    · next e =>
      rw [if_neg e]
      split at hh
      · next N M h0 hs e1 e2 =>
        simp only [Bool.and_eq_true, decide_eq_true_eq] at hh
        obtain ⟨⟨⟨⟨⟨⟨h1, h2⟩, h3⟩, h4⟩, h5⟩, h6⟩, h7⟩ := hh
        have w := amAts_s h4
        split at h7
        · next n en =>
          refine ⟨N, M, n, e1, e2, List.isEmpty_iff.mp h1, h2, ?_, w _ (by simp), w _ (by simp), w _ (by simp), h5, amMHB_s h6, en, of_decide_eq_true h7⟩
          simp only [Bool.or_eq_true] at h3
          exact h3.imp amAt_s amNestB_s
        · cases h7
      · cases hh
  all_goals exact trivial
/-- a method's code, entry by entry, with the places of its words -/
def amCode (G : Nat → Option amM) (X : Nat → Option amN) (own : String) (cc : ByteArray) (ini : Bool) : amP → List (List Nat) → Bool
  | [], _ => true
  | q :: r, hs => amDecB cc q.1 q.2.1 && amLkB own ini q.1 q.2.1 q.2.2.1 q.2.2.2 (hs.headD []) && amLk2B G X own cc q.1 q.2.1 q.2.2.1 q.2.2.2 (hs.headD []) && amCode G X own cc ini r hs.tail
theorem amCode_s {G : Nat → Option amM} {X : Nat → Option amN} {N : amN} {M : amM} : ∀ {cs : amP} {hs : List (List Nat)}, amCode G X N.1.cls N.2.1 M.2.2.2.1 cs hs = true → ∀ q ∈ cs, amEok G X N M q
  | [], _, _, q, hq => by cases hq
  | q' :: r, hs, h, q, hq => by
    simp only [amCode, Bool.and_eq_true] at h
    rcases List.mem_cons.mp hq with rfl | hq
    · exact ⟨amDecB_s h.1.1.1, amLkB_s h.1.1.2, amLk2B_s h.1.2⟩
    · exact amCode_s h.2 q hq
/-- handlers, entry by entry -/
def amHanB (own : String) (cc : ByteArray) (nL : Nat) : List (Nat × Nat × Nat × Nat × Nat × Nat) → List (Nat × Nat × Nat × Nat) → List (Nat × Nat) → Bool
  | [], [], _ => true
  | h :: r, t :: ts, g :: gs => (match amEx[h.2.2.2.1]? with
      | some En => amAt g.1 (Jvm.Cond.classLink own t.2.2.2 En) && decide (lw_tbl[g.2]? = some (Jvm.Cond.castable En En)) && r.all (fun z => match amEx[z.2.2.2.1]? with
        | some Ez => decide ((Ez, En) ∈ amNc)
        | none => false)
      | none => false) && decide (t.2.2.2 ≠ 0) && decide (h.1 = t.1) && decide (h.2.1 = t.2.1) && decide (h.2.2.1 = t.2.2.1) && decide (h.2.2.2.2.1 < nL) &&
      (match decode cc h.2.2.1 with
        | .ok (.astore_n j, 1) => decide ((j : Nat) = h.2.2.2.2.1) && decide (h.2.2.2.2.2 = h.2.2.1 + 1)
        | .ok (.astore k, 2) => decide (k = h.2.2.2.2.1) && decide (h.2.2.2.2.2 = h.2.2.1 + 2)
        | _ => false) && amHanB own cc nL r ts gs
  | _, _, _ => false
theorem amHand_in {hs : List (Nat × Nat × Nat × Nat × Nat × Nat)} {pc E : Nat} {o : Nat × Nat × Nat} (h : amHand hs pc E = some o) : ∃ z ∈ hs, z.2.2.2.1 = E := by
  induction hs with
  | nil => cases h
  | cons z r ih =>
    unfold amHand at h
    split at h
    · next e => exact ⟨z, List.mem_cons_self, e.2.2⟩
    · obtain ⟨w, h1, h2⟩ := ih h
      exact ⟨w, List.mem_cons_of_mem _ h1, h2⟩
theorem amHanB_s {own : String} {cc : ByteArray} {nL : Nat} : ∀ {hs : List (Nat × Nat × Nat × Nat × Nat × Nat)} {ts : List (Nat × Nat × Nat × Nat)} {gs : List (Nat × Nat)}, amHanB own cc nL hs ts gs = true → ∀ (pc E h x to : Nat) (En : String), amHand hs pc E = some (h, x, to) → amEx[E]? = some En →
    ∃ (pre : List ExceptionTableEntry) (z : ExceptionTableEntry) (suf : List ExceptionTableEntry), tableOf ts = pre ++ z :: suf ∧ (∀ y ∈ pre, covers y pc = false ∨ (y.catchType ≠ 0 ∧ ∃ nm : String, Jvm.Cond.classLink own y.catchType nm ∈ amWL ∧ (En, nm) ∈ amNc)) ∧ covers z pc = true ∧ z.catchType ≠ 0 ∧ z.handlerPc = h ∧
      Jvm.Cond.classLink own z.catchType En ∈ amWL ∧ Jvm.Cond.castable En En ∈ lw_tbl ∧ x < nL ∧ ((∃ j : Fin 4, (j : Nat) = x ∧ decode cc h = .ok (.astore_n j, 1) ∧ to = h + 1) ∨ (decode cc h = .ok (.astore x, 2) ∧ to = h + 2))
  | [], _, _, _, pc, E, h, x, to, En, hh, _ => by cases hh
  | h0 :: r, [], [], hB, _, _, _, _, _, _, _, _ => by cases hB
  | h0 :: r, [], _ :: _, hB, _, _, _, _, _, _, _, _ => by cases hB
  | h0 :: r, t :: ts, [], hB, _, _, _, _, _, _, _, _ => by cases hB
  | h0 :: r, t :: ts, g :: gs, hB, pc, E, h, x, to, En, hh, hE => by
    simp only [amHanB, Bool.and_eq_true, decide_eq_true_eq] at hB
    obtain ⟨⟨⟨⟨⟨⟨⟨b1, b2⟩, b3⟩, b4⟩, b5⟩, b6⟩, b7⟩, b8⟩ := hB
    split at b1
    · next E0 e0 =>
      simp only [Bool.and_eq_true, decide_eq_true_eq] at b1
      obtain ⟨⟨c1, c2⟩, c3⟩ := b1
      unfold amHand at hh
      split at hh
      · next e =>
        obtain ⟨f0, t0, a0, E1, x0, to0⟩ := h0
        dsimp only at e b3 b4 b5 b6 b7 e0 hh
        cases hh
        have : E0 = En := Option.some.inj (e0.symm.trans (by rw [e.2.2]; exact hE))
        subst this
        refine ⟨[], ⟨t.1, t.2.1, t.2.2.1, t.2.2.2⟩, tableOf ts, rfl, (fun y hy => by cases hy), ?_, b2, b5.symm, amAt_s c1, List.mem_of_getElem? c2, b6, ?_⟩
        · simp only [covers, Bool.and_eq_true, decide_eq_true_eq]
          exact ⟨by omega, by omega⟩
        · split at b7
          · next j ej =>
            simp only [Bool.and_eq_true, decide_eq_true_eq] at b7
            exact Or.inl ⟨j, b7.1, ej, b7.2⟩
          · next k ek =>
            simp only [Bool.and_eq_true, decide_eq_true_eq] at b7
            rw [b7.1] at ek
            exact Or.inr ⟨ek, b7.2⟩
          · cases b7
      · next e =>
        obtain ⟨pre, z, suf, g1, g2, g3⟩ := amHanB_s b8 pc E h x to En hh hE
        refine ⟨⟨t.1, t.2.1, t.2.2.1, t.2.2.2⟩ :: pre, z, suf, by rw [List.cons_append, ← g1]; rfl, fun y hy => ?_, g3⟩
        rcases List.mem_cons.mp hy with rfl | hy
        · refine Or.inr ⟨b2, E0, amAt_s c1, ?_⟩
          obtain ⟨w, w1, w2⟩ := amHand_in hh
          have c4 := List.all_eq_true.mp c3 w w1
          rw [w2, hE] at c4
          exact of_decide_eq_true c4
        · exact g2 y hy
    · cases b1
def amMkB (N : amN) (M : amM) (gs : List (Nat × Nat)) : Bool := plainFor N.1 && decide (M.2.1 ≤ 100) && (!M.2.2.2.1 || decide (N.1.name = "<init>")) && (!M.2.2.2.2.2.1.isEmpty || N.2.2.isEmpty) && amHanB N.1.cls N.2.1 M.2.1 M.2.2.2.2.2.1 N.2.2 gs
theorem amMkB_s {G : Nat → Option amM} {X : Nat → Option amN} {N : amN} {M : amM} {gs : List (Nat × Nat)} {hs : List (List Nat)} (h : amMkB N M gs = true) (hc : amCode G X N.1.cls N.2.1 M.2.2.2.1 M.1 hs = true) : amMk G X N M := by
  simp only [amMkB, Bool.and_eq_true, Bool.or_eq_true, Bool.not_eq_true', decide_eq_true_eq] at h
  obtain ⟨⟨⟨⟨h1, h2⟩, h3⟩, h4⟩, h5⟩ := h
  refine ⟨h1, h2, fun hi => ?_, ⟨fun hh => ?_, amHanB_s h5⟩, amCode_s hc⟩
  · rcases h3 with z | z
    · rw [hi] at z; cases z
    · exact z
  · rcases h4 with z | z
    · rw [hh] at z; cases z
    · exact List.isEmpty_iff.mp z
end
section
/-! ===== the abstract runs: ints by their bounds, pushed up by 2^31 ===== -/
abbrev aV : Type := Value ⊕ (Nat × Nat)
abbrev aC : Type := Nat × Nat × List (List aV)
abbrev aH : Type := Nat × List (List aC)
abbrev aL : Type := List (Option aV)
def aR : aV → Value → Prop
  | .inl v, w => w = v
  | .inr q, w => ∃ x : Int32, w = .int x ∧ (q.1 : Int) ≤ x.toInt + 2147483648 ∧ x.toInt + 2147483648 ≤ (q.2 : Int)
def aRs : List aV → List Value → Prop
  | [], [] => True
  | v :: vs, w :: ws => aR v w ∧ aRs vs ws
  | _, _ => False
def aRo : Option aV → Option Value → Prop
  | some v, some w => aR v w
  | none, none => True
  | _, _ => False
theorem aRs_cons {v : aV} {vs : List aV} {ws : List Value} (h : aRs (v :: vs) ws) : ∃ w ws', ws = w :: ws' ∧ aR v w ∧ aRs vs ws' := by
  cases ws with
  | nil => cases h
  | cons w ws => exact ⟨w, ws, rfl, h.1, h.2⟩
theorem aRs_nil {ws : List Value} (h : aRs [] ws) : ws = [] := by cases ws <;> first | rfl | cases h
theorem aRs_len : ∀ {vs : List aV} {ws : List Value}, aRs vs ws → vs.length = ws.length
  | [], [], _ => rfl
  | _ :: _, _ :: _, h => by simp [aRs_len h.2]
  | [], _ :: _, h => by cases h
  | _ :: _, [], h => by cases h
theorem aRs_app : ∀ {vs : List aV} {ws : List Value} {vs' : List aV} {ws' : List Value}, aRs vs ws → aRs vs' ws' → aRs (vs ++ vs') (ws ++ ws')
  | [], [], _, _, _, h => h
  | _ :: _, _ :: _, _, _, h, e => ⟨h.1, aRs_app h.2 e⟩
  | [], _ :: _, _, _, h, _ => by cases h
  | _ :: _, [], _, _, h, _ => by cases h
theorem aRs_take : ∀ {n : Nat} {vs : List aV} {ws : List Value}, aRs vs ws → aRs (vs.take n) (ws.take n)
  | 0, _, _, _ => by simp [aRs]
  | _ + 1, [], [], _ => trivial
  | n + 1, _ :: _, _ :: _, h => ⟨h.1, aRs_take h.2⟩
  | _ + 1, [], _ :: _, h => by cases h
  | _ + 1, _ :: _, [], h => by cases h
theorem aRs_drop : ∀ {n : Nat} {vs : List aV} {ws : List Value}, aRs vs ws → aRs (vs.drop n) (ws.drop n)
  | 0, _, _, h => h
  | _ + 1, [], [], _ => trivial
  | n + 1, _ :: _, _ :: _, h => aRs_drop (n := n) h.2
  | _ + 1, [], _ :: _, h => by cases h
  | _ + 1, _ :: _, [], h => by cases h
theorem aRs_rev : ∀ {vs : List aV} {ws : List Value}, aRs vs ws → aRs vs.reverse ws.reverse
  | [], [], _ => trivial
  | _ :: _, _ :: _, h => by
    rw [List.reverse_cons, List.reverse_cons]
    exact aRs_app (aRs_rev h.2) ⟨h.1, trivial⟩
  | [], _ :: _, h => by cases h
  | _ :: _, [], h => by cases h
def aCat : aV → Nat
  | .inl v => v.category
  | .inr _ => 1
theorem aR_cat {v : aV} {w : Value} (h : aR v w) : w.category = aCat v := by
  cases v with
  | inl v => cases h; rfl
  | inr q => obtain ⟨x, rfl, -⟩ := h; rfl
def aCs : List aV → Nat
  | [] => 0
  | v :: r => Nat.add (aCat v) (aCs r)
theorem aRs_cat : ∀ {vs : List aV} {ws : List Value}, aRs vs ws → (ws.map fun v => v.category).sum = aCs vs
  | [], [], _ => rfl
  | v :: vs, w :: ws, h => by
    rw [List.map_cons, List.sum_cons, aR_cat h.1, aRs_cat h.2]
    rfl
  | [], _ :: _, h => by cases h
  | _ :: _, [], h => by cases h
/-! lists by places, rows of sixteen -/
def lAt {α : Type} : List α → Nat → Option α
  | [], _ => none
  | c :: _, 0 => some c
  | _ :: r, i + 1 => lAt r i
def lPut {α : Type} : List α → Nat → α → Option (List α)
  | [], _, _ => none
  | _ :: r, 0, v => some (v :: r)
  | c :: r, i + 1, v => match lPut r i v with
    | some r' => some (c :: r')
    | none => none
def cGet {α : Type} : List (List α) → Nat → Option α
  | [], _ => none
  | c :: r, i => match Nat.ble i 15 with
    | true => lAt c i
    | false => cGet r (Nat.sub i 16)
def cPut {α : Type} : List (List α) → Nat → α → Option (List (List α))
  | [], _, _ => none
  | c :: r, i, v => match Nat.ble i 15 with
    | true => (match lPut c i v with
      | some c' => some (c' :: r)
      | none => none)
    | false => (match cPut r (Nat.sub i 16) v with
      | some r' => some (c :: r')
      | none => none)
theorem lPut_s {α : Type} : ∀ {l l' : List α} {i : Nat} {v : α}, lPut l i v = some l' → (∃ o, lAt l i = some o) ∧ lAt l' i = some v ∧ ∀ j, ¬ j = i → lAt l' j = lAt l j
  | [], _, _, _, h => by cases h
  | c :: r, l', 0, v, h => by
    cases h
    refine ⟨⟨c, rfl⟩, rfl, fun j hj => ?_⟩
    cases j with
    | zero => exact absurd rfl hj
    | succ j => rfl
  | c :: r, l', i + 1, v, h => by
    unfold lPut at h
    split at h
    · next r' e =>
      cases h
      obtain ⟨⟨o, h1⟩, h2, h3⟩ := lPut_s e
      refine ⟨⟨o, h1⟩, h2, fun j hj => ?_⟩
      cases j with
      | zero => rfl
      | succ j => exact h3 j (fun z => hj (by rw [z]))
    · cases h
theorem cPut_s {α : Type} : ∀ {l l' : List (List α)} {i : Nat} {v : α}, cPut l i v = some l' → (∃ o, cGet l i = some o) ∧ cGet l' i = some v ∧ ∀ j, ¬ j = i → cGet l' j = cGet l j
  | [], _, _, _, h => by cases h
  | c :: r, l', i, v, h => by
    unfold cPut at h
    split at h
    · next hi =>
      split at h
      · next c' e =>
        cases h
        obtain ⟨⟨o, h1⟩, h2, h3⟩ := lPut_s e
        refine ⟨⟨o, by unfold cGet; rw [hi]; exact h1⟩, by unfold cGet; rw [hi]; exact h2, fun j hj => ?_⟩
        unfold cGet
        split
        · exact h3 j hj
        · rfl
      · cases h
    · next hi =>
      split at h
      · next r' e =>
        cases h
        obtain ⟨⟨o, h1⟩, h2, h3⟩ := cPut_s e
        refine ⟨⟨o, by unfold cGet; rw [hi]; exact h1⟩, by unfold cGet; rw [hi]; exact h2, fun j hj => ?_⟩
        unfold cGet
        split
        · rfl
        · next hj2 =>
          refine h3 _ (fun z => hj ?_)
          have a1 : ¬ i ≤ 15 := fun z => by rw [Nat.ble_eq_true_of_le z] at hi; cases hi
          have a2 : ¬ j ≤ 15 := fun z => by rw [Nat.ble_eq_true_of_le z] at hj2; cases hj2
          have z : j - 16 = i - 16 := z
          omega
      · cases h
def cMk {α : Type} : Nat → List α → List (List α)
  | 0, l => [l]
  | k + 1, l => l.take 16 :: cMk k (l.drop 16)
theorem lAt_eq {α : Type} : ∀ (l : List α) (i : Nat), lAt l i = l[i]?
  | [], _ => by simp [lAt]
  | _ :: _, 0 => by simp [lAt]
  | _ :: r, i + 1 => by simp [lAt, lAt_eq r i]
theorem cMk_s {α : Type} : ∀ (k : Nat) (l : List α) (i : Nat), l.length ≤ 16 * k → cGet (cMk k l) i = l[i]?
  | 0, l, i, h => by
    have : l = [] := List.length_eq_zero_iff.mp (by omega)
    subst this
    unfold cMk cGet
    split <;> simp [lAt, cGet]
  | k + 1, l, i, h => by
    unfold cMk cGet
    split
    · next e =>
      have e := Nat.le_of_ble_eq_true e
      rw [lAt_eq, List.getElem?_take, if_pos (by omega)]
    · next e =>
      have e : ¬ i ≤ 15 := fun z => by rw [Nat.ble_eq_true_of_le z] at e; cases e
      rw [cMk_s k (l.drop 16) _ (by rw [List.length_drop]; omega), List.getElem?_drop]
      congr 1
      show 16 + (i - 16) = i
      omega
/-! cells -/
def aRc (c : aC) (d : amC) : Prop := c.1 = d.1 ∧ c.2.1 = d.2.length ∧ ∀ j, aRo (cGet c.2.2 j) (d.2[j]?)
def aRh (h : aH) (hp : amH) : Prop := h.1 = hp.length ∧ ∀ j, j < hp.length → ∃ c d, cGet h.2 j = some c ∧ hp[j]? = some d ∧ aRc c d
def aCell (h : aH) (o : Nat) : Option aC := match Nat.ble (Nat.add o 1) h.1 with
  | true => cGet h.2 o
  | false => none
theorem aCell_s {h : aH} {hp : amH} {o : Nat} {c : aC} (hr : aRh h hp) (e : aCell h o = some c) : ∃ d, hp[o]? = some d ∧ aRc c d := by
  unfold aCell at e
  split at e
  · next e1 =>
    have e1 : o + 1 ≤ h.1 := Nat.le_of_ble_eq_true e1
    obtain ⟨c', d, h1, h2, h3⟩ := hr.2 o (by rw [← hr.1]; omega)
    rw [h1] at e
    cases e
    exact ⟨d, h2, h3⟩
  · cases e
theorem aRo_some {o : Option aV} {v : aV} {w : Option Value} (h : aRo o w) (e : o = some v) : ∃ x, w = some x ∧ aR v x := by
  subst e
  cases w with
  | none => cases h
  | some x => exact ⟨x, rfl, h⟩
theorem aRc_get {c : aC} {d : amC} {j : Nat} {v : aV} (h : aRc c d) (e : cGet c.2.2 j = some v) : ∃ w, d.2[j]? = some w ∧ aR v w := aRo_some (h.2.2 j) e
theorem a_lt {α : Type} {l : List α} {j : Nat} {w : α} (h : l[j]? = some w) : j < l.length := by
  rcases Nat.lt_or_ge j l.length with z | z
  · exact z
  · rw [List.getElem?_eq_none z] at h; cases h
theorem aRc_put {c : aC} {d : amC} {j : Nat} {v : aV} {w : Value} {r : List (List aV)} (h : aRc c d) (e : cPut c.2.2 j v = some r) (hv : aR v w) : j < d.2.length ∧ aRc (c.1, c.2.1, r) (d.1, d.2.set j w) := by
  obtain ⟨⟨o, h1⟩, h2, h3⟩ := cPut_s e
  obtain ⟨x, h4, -⟩ := aRc_get h h1
  have hlt := a_lt h4
  refine ⟨hlt, h.1, by rw [List.length_set]; exact h.2.1, fun i => ?_⟩
  dsimp only
  by_cases hi : i = j
  · subst hi
    rw [h2, List.getElem?_set_self hlt]
    exact hv
  · rw [h3 i hi, List.getElem?_set_ne (fun z => hi z.symm)]
    exact h.2.2 i
def aPutH (h : aH) (o : Nat) (c : aC) : Option aH := match Nat.ble (Nat.add o 1) h.1 with
  | true => (match cPut h.2 o c with
    | some r => some (h.1, r)
    | none => none)
  | false => none
theorem aPutH_s {h h1 : aH} {hp : amH} {o : Nat} {c : aC} {d : amC} (hr : aRh h hp) (e : aPutH h o c = some h1) (hc : aRc c d) : aRh h1 (hp.set o d) := by
  unfold aPutH at e
  split at e
  · next e1 =>
    have e1 : o + 1 ≤ h.1 := Nat.le_of_ble_eq_true e1
    split at e
    · next r e2 =>
      cases e
      obtain ⟨-, h2, h3⟩ := cPut_s e2
      refine ⟨by rw [List.length_set]; exact hr.1, fun j hj => ?_⟩
      rw [List.length_set] at hj
      by_cases hi : j = o
      · subst hi
        exact ⟨c, d, h2, List.getElem?_set_self hj, hc⟩
      · obtain ⟨c', d', g1, g2, g3⟩ := hr.2 j hj
        exact ⟨c', d', by rw [h3 j hi]; exact g1, by rw [List.getElem?_set_ne (fun z => hi z.symm)]; exact g2, g3⟩
    · cases e
  · cases e
def aNewH (h : aH) (c : aC) : Option aH := match cPut h.2 h.1 c with
  | some r => some (Nat.add h.1 1, r)
  | none => none
theorem aNewH_s {h h1 : aH} {hp : amH} {c : aC} {d : amC} (hr : aRh h hp) (e : aNewH h c = some h1) (hc : aRc c d) : aRh h1 (hp ++ [d]) := by
  unfold aNewH at e
  split at e
  · next r e2 =>
    cases e
    obtain ⟨-, h2, h3⟩ := cPut_s e2
    refine ⟨by rw [List.length_append, ← hr.1]; rfl, fun j hj => ?_⟩
    rw [List.length_append, List.length_singleton] at hj
    by_cases hi : j = h.1
    · subst hi
      refine ⟨c, d, h2, ?_, hc⟩
      rw [hr.1, List.getElem?_append_right (Nat.le_refl _), Nat.sub_self]
      rfl
    · have hj2 : j < hp.length := by have := hr.1; omega
      obtain ⟨c', d', g1, g2, g3⟩ := hr.2 j hj2
      exact ⟨c', d', by rw [h3 j hi]; exact g1, by rw [List.getElem?_append_left hj2]; exact g2, g3⟩
  · cases e
/-! locals -/
def lGet (ls : aL) (k : Nat) : Option aV := match lAt ls k with
  | some o => o
  | none => none
def aRF (g : Nat → Option aV) (cs : amL) : Prop := (∀ k v, g k = some v → ∃ w, amGet cs k = some w ∧ aR v w) ∧ ∀ q ∈ cs, ∃ v, g q.1 = some v ∧ aR v q.2
def aRl (ls : aL) (cs : amL) : Prop := aRF (lGet ls) cs
theorem amGet_filter {p : Nat × Value → Bool} : ∀ {cs : amL} {k : Nat} {w : Value}, amGet cs k = some w → p (k, w) = true → amGet (cs.filter p) k = some w
  | [], _, _, h, _ => by cases h
  | q :: r, k, w, h, hp => by
    unfold amGet at h
    split at h
    · next e =>
      cases h
      subst e
      rw [List.filter_cons, if_pos hp]
      unfold amGet
      rw [if_pos rfl]
    · next e =>
      rw [List.filter_cons]
      split
      · unfold amGet
        rw [if_neg e]
        exact amGet_filter h hp
      · exact amGet_filter h hp
theorem aRF_filter {g g' : Nat → Option aV} {cs : amL} {p : Nat × Value → Bool} (h : aRF g cs) (h1 : ∀ k v, g' k = some v → g k = some v ∧ ∀ w, aR v w → p (k, w) = true) (h2 : ∀ q, p q = true → g' q.1 = g q.1) : aRF g' (cs.filter p) := by
  refine ⟨fun k v e => ?_, fun q hq => ?_⟩
  · obtain ⟨e1, e2⟩ := h1 k v e
    obtain ⟨w, e3, e4⟩ := h.1 k v e1
    exact ⟨w, amGet_filter e3 (e2 w e4), e4⟩
  · obtain ⟨q1, q2⟩ := List.mem_filter.mp hq
    rw [h2 q q2]
    exact h.2 q q1
theorem aRF_cons {g g' : Nat → Option aV} {cs : amL} {k : Nat} {v : aV} {w : Value} (h : aRF g cs) (hv : aR v w) (h0 : g k = none) (h1 : g' k = some v) (h2 : ∀ j, ¬ j = k → g' j = g j) : aRF g' ((k, w) :: cs) := by
  refine ⟨fun j u e => ?_, fun q hq => ?_⟩
  · unfold amGet
    by_cases hj : k = j
    · subst hj
      rw [h1] at e
      cases e
      exact ⟨w, if_pos rfl, hv⟩
    · rw [if_neg hj]
      rw [h2 j (fun z => hj z.symm)] at e
      exact h.1 j u e
  · rcases List.mem_cons.mp hq with rfl | hq
    · exact ⟨v, h1, hv⟩
    · obtain ⟨u, e1, e2⟩ := h.2 q hq
      refine ⟨u, ?_, e2⟩
      rw [h2 q.1 (fun z => by rw [z, h0] at e1; cases e1)]
      exact e1
def aPrev (ls : aL) : Nat → Bool
  | 0 => true
  | j + 1 => match lGet ls j with
    | some v => Nat.beq (aCat v) 1
    | none => true
theorem aPrev_s {ls : aL} {k j : Nat} {v : aV} (h : aPrev ls k = true) (e : lGet ls j = some v) (hj : j + 1 = k) : aCat v = 1 := by
  subst hj
  simp only [aPrev, e] at h
  exact Nat.eq_of_beq_eq_true h
theorem lGet_put {ls ls' : aL} {k : Nat} {o : Option aV} (h : lPut ls k o = some ls') : lGet ls' k = o ∧ ∀ j, ¬ j = k → lGet ls' j = lGet ls j := by
  obtain ⟨-, h2, h3⟩ := lPut_s h
  refine ⟨by unfold lGet; rw [h2], fun j hj => ?_⟩
  unfold lGet
  rw [h3 j hj]
def aSet1 (ls : aL) (k : Nat) (v : aV) : Option aL := match aPrev ls k with
  | true => lPut ls k (some v)
  | false => none
def aSet2 (ls : aL) (k : Nat) (v : aV) : Option aL := match aPrev ls k with
  | true => (match lPut ls (Nat.add k 1) none with
    | some l1 => lPut l1 k (some v)
    | none => none)
  | false => none
def aDrop (ls : aL) (k : Nat) : Option aL := match aPrev ls k with
  | true => lPut ls k none
  | false => none
theorem aSet1_s {ls ls' : aL} {cs : amL} {k : Nat} {v : aV} {w : Value} (h : aRl ls cs) (hv : aR v w) (e : aSet1 ls k v = some ls') : aRl ls' (amSet1 cs k w) := by
  unfold aSet1 at e
  split at e
  · next hp =>
    obtain ⟨e1, e2⟩ := lGet_put e
    refine aRF_cons (g := fun j => if j = k then none else lGet ls j) (aRF_filter h ?_ ?_) hv (if_pos rfl) e1 (fun j hj => by rw [e2 j hj, if_neg hj])
    · intro j u hj
      try dsimp only at hj
      split at hj
      · cases hj
      · next hjk =>
        refine ⟨hj, fun w hw => ?_⟩
        have c1 : (j + 1 == k && w.category == 2) = false := by
          by_cases z : j + 1 = k
          · rw [aR_cat hw, aPrev_s hp hj z, Bool.and_comm]
            rfl
          · rw [show (j + 1 == k) = false from by simpa using z]
            rfl
        rw [c1, show (j == k) = false from by simpa using hjk]
        rfl
    · intro q hq
      have : ¬ q.1 = k := by
        intro z
        rw [z] at hq
        simp at hq
      exact if_neg this
  · cases e
theorem aDrop_s {ls ls' : aL} {cs : amL} {k : Nat} (h : aRl ls cs) (e : aDrop ls k = some ls') : aRl ls' (amDrop cs k) := by
  unfold aDrop at e
  split at e
  · next hp =>
    obtain ⟨e1, e2⟩ := lGet_put e
    refine aRF_filter h ?_ ?_
    · intro j u hj
      by_cases hjk : j = k
      · subst hjk; rw [e1] at hj; cases hj
      · rw [e2 j hjk] at hj
        refine ⟨hj, fun w hw => ?_⟩
        have c1 : (j + 1 == k && w.category == 2) = false := by
          by_cases z : j + 1 = k
          · rw [aR_cat hw, aPrev_s hp hj z, Bool.and_comm]
            rfl
          · rw [show (j + 1 == k) = false from by simpa using z]
            rfl
        rw [c1, show (j == k) = false from by simpa using hjk]
        rfl
    · intro q hq
      refine e2 _ (fun z => ?_)
      rw [z] at hq
      simp at hq
  · cases e
theorem aSet2_s {ls ls' : aL} {cs : amL} {k : Nat} {v : aV} {w : Value} (h : aRl ls cs) (hv : aR v w) (e : aSet2 ls k v = some ls') : aRl ls' (amSet2 cs k w) := by
  unfold aSet2 at e
  split at e
  · next hp =>
    split at e
    · next l1 e0 =>
      obtain ⟨d1, d2⟩ := lGet_put e0
      obtain ⟨e1, e2⟩ := lGet_put e
      have d1 : lGet l1 (k + 1) = none := d1
      have d2 : ∀ j, ¬ j = k + 1 → lGet l1 j = lGet ls j := d2
      refine aRF_cons (g := fun j => if j = k then none else lGet l1 j) (aRF_filter h ?_ ?_) hv (if_pos rfl) e1 (fun j hj => by rw [e2 j hj, if_neg hj])
      · intro j u hj
        try dsimp only at hj
        split at hj
        · cases hj
        · next hjk =>
          by_cases hjk2 : j = k + 1
          · rw [hjk2, d1] at hj; cases hj
          · rw [d2 j hjk2] at hj
            refine ⟨hj, fun w hw => ?_⟩
            have c1 : (j + 1 == k && w.category == 2) = false := by
              by_cases z : j + 1 = k
              · rw [aR_cat hw, aPrev_s hp hj z, Bool.and_comm]
                rfl
              · rw [show (j + 1 == k) = false from by simpa using z]
                rfl
            rw [c1, show (j == k) = false from by simpa using hjk, show (j == k + 1) = false from by simpa using hjk2]
            rfl
      · intro q hq
        have a1 : ¬ q.1 = k := by
          intro z
          rw [z] at hq
          simp at hq
        have a2 : ¬ q.1 = k + 1 := by
          intro z
          rw [z] at hq
          simp at hq
        rw [if_neg a1, d2 _ a2]
    · cases e
  · cases e
/-! ===== the abstract runs: numbers ===== -/
theorem aMin (x : Int32) : -2147483648 ≤ x.toInt := by have := Int32.le_toInt x; omega
theorem aMax (x : Int32) : x.toInt ≤ 2147483647 := by have := Int32.toInt_lt x; omega
def aOff (x : Int32) : Nat := (x.toInt + 2147483648).toNat
theorem aOff_eq (x : Int32) : (aOff x : Int) = x.toInt + 2147483648 := by
  unfold aOff
  have := aMin x
  omega
def aOf (x : Int32) : aV := .inr (aOff x, aOff x)
theorem aOf_s (x : Int32) : aR (aOf x) (.int x) := ⟨x, rfl, by rw [aOff_eq]; exact Int.le_refl _, by rw [aOff_eq]; exact Int.le_refl _⟩
def aOfV : Value → aV
  | .int x => aOf x
  | v => .inl v
theorem aOfV_s (v : Value) : aR (aOfV v) v := by cases v <;> first | exact aOf_s _ | rfl
def aFull : aV := .inr (0, 4294967295)
theorem aFull_s (x : Int32) : aR aFull (.int x) := by
  refine ⟨x, rfl, ?_, ?_⟩
  · show (0 : Int) ≤ _
    have := aMin x
    omega
  · show _ ≤ (4294967295 : Int)
    have := aMax x
    omega
def aInt (n : Nat) : Int32 := Int32.ofInt ((n : Int) - 2147483648)
def aIn (a b : Nat) (x : Int32) : Prop := (a : Int) ≤ x.toInt + 2147483648 ∧ x.toInt + 2147483648 ≤ (b : Int)
theorem aEq_s {a b : Nat} {x : Int32} (he : Nat.beq a b = true) (h : aIn a b x) : x = aInt a := by
  have he := Nat.eq_of_beq_eq_true he
  subst he
  unfold aInt
  have : (a : Int) - 2147483648 = x.toInt := by have := h.1; have := h.2; omega
  rw [this, Int32.ofInt_toInt]
theorem aBmod {z : Int} (h1 : -2147483648 ≤ z) (h2 : z ≤ 2147483647) : z.bmod (2 ^ 32) = z := by
  rw [Int.bmod_def]
  have : ((2 ^ 32 : Nat) : Int) = 4294967296 := rfl
  split <;> omega
theorem aInt_toInt {n : Nat} (h : n ≤ 4294967295) : (aInt n).toInt = (n : Int) - 2147483648 := by
  unfold aInt
  rw [Int32.toInt_ofInt]
  exact aBmod (by omega) (by omega)
abbrev aG : Type := Nat → Nat → Nat → Nat → Option aV
def aGok (f : Int32 → Int32 → Int32) (g : aG) : Prop := ∀ (a b c d : Nat) (v : aV) (x y : Int32), g a b c d = some v → aIn a b x → aIn c d y → aR v (.int (f x y))
def aGadd : aG := fun a b c d => match Nat.ble 2147483648 (Nat.add a c) with
  | true => (match Nat.ble (Nat.add b d) 6442450943 with
    | true => some (.inr (Nat.sub (Nat.add a c) 2147483648, Nat.sub (Nat.add b d) 2147483648))
    | false => some aFull)
  | false => some aFull
theorem aGadd_ok : aGok (fun x y => x + y) aGadd := by
  intro a b c d v x y h hx hy
  unfold aGadd at h
  obtain ⟨x1, x2⟩ := hx
  obtain ⟨y1, y2⟩ := hy
  split at h
  · next e1 =>
    split at h
    · next e2 =>
      cases h
      have e1 : 2147483648 ≤ a + c := Nat.le_of_ble_eq_true e1
      have e2 : b + d ≤ 6442450943 := Nat.le_of_ble_eq_true e2
      have e3 : (x + y).toInt = x.toInt + y.toInt := by rw [Int32.toInt_add, aBmod (by omega) (by omega)]
      refine ⟨x + y, rfl, ?_, ?_⟩
      · show ((a + c - 2147483648 : Nat) : Int) ≤ _
        omega
      · show _ ≤ ((b + d - 2147483648 : Nat) : Int)
        omega
    · cases h; exact aFull_s _
  · cases h; exact aFull_s _
def aGsub : aG := fun a b c d => match Nat.ble (Nat.sub d a) 2147483648 with
  | true => (match Nat.ble (Nat.sub b c) 2147483647 with
    | true => some (.inr (Nat.sub (Nat.add a 2147483648) d, Nat.sub (Nat.add b 2147483648) c))
    | false => some aFull)
  | false => some aFull
theorem aGsub_ok : aGok (fun x y => x - y) aGsub := by
  intro a b c d v x y h hx hy
  unfold aGsub at h
  obtain ⟨x1, x2⟩ := hx
  obtain ⟨y1, y2⟩ := hy
  split at h
  · next e1 =>
    split at h
    · next e2 =>
      cases h
      have e1 : d - a ≤ 2147483648 := Nat.le_of_ble_eq_true e1
      have e2 : b - c ≤ 2147483647 := Nat.le_of_ble_eq_true e2
      have e3 : (x - y).toInt = x.toInt - y.toInt := by rw [Int32.toInt_sub, aBmod (by omega) (by omega)]
      refine ⟨x - y, rfl, ?_, ?_⟩
      · show ((a + 2147483648 - d : Nat) : Int) ≤ _
        omega
      · show _ ≤ ((b + 2147483648 - c : Nat) : Int)
        omega
    · cases h; exact aFull_s _
  · cases h; exact aFull_s _
def aGx (f : Int32 → Int32 → Int32) : aG := fun a b c d => match Nat.beq a b with
  | true => (match Nat.beq c d with
    | true => some (aOf (f (aInt a) (aInt c)))
    | false => none)
  | false => none
theorem aGx_ok (f : Int32 → Int32 → Int32) : aGok f (aGx f) := by
  intro a b c d v x y h hx hy
  unfold aGx at h
  split at h
  · next e1 =>
    split at h
    · next e2 =>
      cases h
      rw [aEq_s e1 hx, aEq_s e2 hy]
      exact aOf_s _
    · cases h
  · cases h
def aGor (g1 g2 : aG) : aG := fun a b c d => match g1 a b c d with
  | some v => some v
  | none => g2 a b c d
theorem aGor_ok {f : Int32 → Int32 → Int32} {g1 g2 : aG} (h1 : aGok f g1) (h2 : aGok f g2) : aGok f (aGor g1 g2) := by
  intro a b c d v x y h hx hy
  unfold aGor at h
  split at h
  · next w e => cases h; exact h1 a b c d _ x y e hx hy
  · exact h2 a b c d v x y h hx hy
theorem a_neg (x : Int32) : x.toBitVec.msb = decide (x.toInt < 0) := by
  rw [← Int32.toInt_toBitVec, BitVec.msb_eq_toInt]
theorem a_nn {x : Int32} (h : 0 ≤ x.toInt) : x.toInt = (x.toBitVec.toNat : Int) := by
  rw [← Int32.toInt_toBitVec]
  refine BitVec.toInt_eq_toNat_of_msb ?_
  rw [a_neg, decide_eq_false (by omega)]
/-- and: with a known number that is not negative; of two negative ones; with -8 -/
def aGand : aG := fun a b c d =>
  if c = d ∧ 2147483648 ≤ c then some (.inr (2147483648, c))
  else if b < 2147483648 ∧ d < 2147483648 then some (.inr (0, 2147483647))
  else if c = 2147483640 ∧ d = 2147483640 ∧ 2147483656 ≤ a then some (.inr (2147483649, 4294967295))
  else none
theorem aGand_ok : aGok (fun x y => x &&& y) aGand := by
  intro a b c d v x y h hx hy
  unfold aGand at h
  obtain ⟨x1, x2⟩ := hx
  obtain ⟨y1, y2⟩ := hy
  have hm : (x &&& y).toBitVec.msb = (x.toBitVec.msb && y.toBitVec.msb) := by rw [Int32.toBitVec_and, BitVec.msb_and]
  rw [a_neg, a_neg, a_neg] at hm
  have m1 := aMin (x &&& y)
  have m2 := aMax (x &&& y)
  split at h
  · next e =>
    cases h
    have hr : 0 ≤ (x &&& y).toInt := by
      rw [decide_eq_false (show ¬ y.toInt < 0 by omega), Bool.and_false, decide_eq_false_iff_not] at hm
      omega
    refine ⟨x &&& y, rfl, ?_, ?_⟩
    · show (2147483648 : Int) ≤ _
      omega
    · have e1 := a_nn hr
      have e2 := a_nn (show 0 ≤ y.toInt by omega)
      rw [Int32.toBitVec_and, BitVec.toNat_and] at e1
      have e3 : x.toBitVec.toNat &&& y.toBitVec.toNat ≤ y.toBitVec.toNat := Nat.and_le_right
      show _ ≤ (c : Int)
      omega
  · split at h
    · next e =>
      cases h
      rw [decide_eq_true (show x.toInt < 0 by omega), decide_eq_true (show y.toInt < 0 by omega), Bool.and_true, decide_eq_true_eq] at hm
      refine ⟨x &&& y, rfl, ?_, ?_⟩
      · show (0 : Int) ≤ _
        omega
      · show _ ≤ (2147483647 : Int)
        omega
    · split at h
      · next e =>
        cases h
        have hr : 0 ≤ (x &&& y).toInt := by
          rw [decide_eq_false (show ¬ x.toInt < 0 by omega), Bool.false_and, decide_eq_false_iff_not] at hm
          omega
        have e1 := a_nn hr
        have e2 := a_nn (show 0 ≤ x.toInt by omega)
        have ey : y = Int32.ofInt (-8) := by
          have : y.toInt = -8 := by omega
          rw [← this, Int32.ofInt_toInt]
        have e4 : y.toBitVec.toNat = 4294967288 := by rw [ey]; decide
        rw [Int32.toBitVec_and, BitVec.toNat_and, e4] at e1
        obtain ⟨i, i1, i2⟩ := Nat.exists_ge_and_testBit_of_ge_two_pow (n := 3) (x := x.toBitVec.toNat) (by omega)
        have hlt : x.toBitVec.toNat < 2 ^ 32 := x.toBitVec.isLt
        have i3 : i < 32 := by
          rcases Nat.lt_or_ge i 32 with z | z
          · exact z
          · rw [Nat.testBit_lt_two_pow (Nat.lt_of_lt_of_le hlt (Nat.pow_le_pow_right (by decide) z))] at i2
            cases i2
        have i4 : Nat.testBit 4294967288 i = true := by
          have : ∀ j : Fin 32, 3 ≤ j.val → Nat.testBit 4294967288 j.val = true := by decide
          exact this ⟨i, i3⟩ i1
        have i5 : (x.toBitVec.toNat &&& 4294967288) ≠ 0 := by
          intro z
          have := Nat.testBit_and x.toBitVec.toNat 4294967288 i
          rw [z, i2, i4] at this
          simp at this
        refine ⟨x &&& y, rfl, ?_, ?_⟩
        · show (2147483649 : Int) ≤ _
          omega
        · show _ ≤ (4294967295 : Int)
          omega
      · cases h
/-- xor: signs -/
def aGxor : aG := fun a b c d =>
  if (2147483648 ≤ a ∧ 2147483648 ≤ c) ∨ (b < 2147483648 ∧ d < 2147483648) then some (.inr (2147483648, 4294967295))
  else if (b < 2147483648 ∧ 2147483648 ≤ c) ∨ (2147483648 ≤ a ∧ d < 2147483648) then some (.inr (0, 2147483647))
  else none
theorem aGxor_ok : aGok (fun x y => x ^^^ y) aGxor := by
  intro a b c d v x y h hx hy
  unfold aGxor at h
  obtain ⟨x1, x2⟩ := hx
  obtain ⟨y1, y2⟩ := hy
  have hm : (x ^^^ y).toBitVec.msb = (x.toBitVec.msb ^^ y.toBitVec.msb) := by rw [Int32.toBitVec_xor, BitVec.msb_xor]
  rw [a_neg, a_neg, a_neg] at hm
  have m1 := aMin (x ^^^ y)
  have m2 := aMax (x ^^^ y)
  split at h
  · next e =>
    cases h
    have hr : ¬ (x ^^^ y).toInt < 0 := by
      rcases e with e | e
      · rw [decide_eq_false (show ¬ x.toInt < 0 by omega), decide_eq_false (show ¬ y.toInt < 0 by omega), Bool.xor_false, decide_eq_false_iff_not] at hm
        exact hm
      · rw [decide_eq_true (show x.toInt < 0 by omega), decide_eq_true (show y.toInt < 0 by omega), Bool.xor_true, Bool.not_true, decide_eq_false_iff_not] at hm
        exact hm
    refine ⟨x ^^^ y, rfl, ?_, ?_⟩
    · show (2147483648 : Int) ≤ _
      omega
    · show _ ≤ (4294967295 : Int)
      omega
  · split at h
    · next e =>
      cases h
      have hr : (x ^^^ y).toInt < 0 := by
        rcases e with e | e
        · rw [decide_eq_true (show x.toInt < 0 by omega), decide_eq_false (show ¬ y.toInt < 0 by omega), Bool.xor_false, decide_eq_true_eq] at hm
          exact hm
        · rw [decide_eq_false (show ¬ x.toInt < 0 by omega), decide_eq_true (show y.toInt < 0 by omega), Bool.xor_true, Bool.not_false, decide_eq_true_eq] at hm
          exact hm
      refine ⟨x ^^^ y, rfl, ?_, ?_⟩
      · show (0 : Int) ≤ _
        omega
      · show _ ≤ (2147483647 : Int)
        omega
    · cases h
/-- a shift to the right by a known number -/
def aGshr : aG := fun a b c d => if c = d ∧ 2147483648 ≤ c ∧ c ≤ 2147483679 then
    some (.inr (a / 2 ^ (c - 2147483648) + 2147483648 - 2147483648 / 2 ^ (c - 2147483648), b / 2 ^ (c - 2147483648) + 2147483648 - 2147483648 / 2 ^ (c - 2147483648))) else none
theorem aGshr_ok : aGok (fun x y => x >>> (y &&& 31)) aGshr := by
  intro a b c d v x y h hx hy
  unfold aGshr at h
  obtain ⟨x1, x2⟩ := hx
  obtain ⟨y1, y2⟩ := hy
  split at h
  · next e =>
    cases h
    obtain ⟨n, hn⟩ : ∃ n : Nat, c = n + 2147483648 := ⟨c - 2147483648, by omega⟩
    subst hn
    have hn31 : n ≤ 31 := by omega
    have hy : y.toInt = n := by omega
    have ey : y = Int32.ofInt n := by rw [← hy, Int32.ofInt_toInt]
    have key : (x >>> (y &&& 31)).toInt = x.toInt / 2 ^ n := by
      have hk : ∀ j : Fin 32, ((Int32.ofInt (j.val : Int) &&& 31).toBitVec.smod 32).toNat = j.val := by decide
      have h5 := hk ⟨n, by omega⟩
      dsimp only at h5
      rw [← ey] at h5
      rw [← Int32.toInt_toBitVec, Int32.toBitVec_shiftRight]
      show (x.toBitVec.sshiftRight _).toInt = _
      rw [BitVec.toInt_sshiftRight, Int.shiftRight_eq_div_pow, h5, Int32.toInt_toBitVec]
      rfl
    rw [show n + 2147483648 - 2147483648 = n by omega]
    have hP : (2147483648 : Nat) = 2 ^ n * 2 ^ (31 - n) := by rw [← Nat.pow_add, show n + (31 - n) = 31 by omega]
    have hp0 : 0 < 2 ^ n := Nat.pow_pos (by decide)
    have hd : 2147483648 / 2 ^ n = 2 ^ (31 - n) := by rw [hP, Nat.mul_div_cancel_left _ hp0]
    obtain ⟨m, hm⟩ : ∃ m : Nat, (m : Int) = x.toInt + 2147483648 := ⟨aOff x, aOff_eq x⟩
    have k2 : x.toInt / 2 ^ n = ((m / 2 ^ n : Nat) : Int) - ((2 ^ (31 - n) : Nat) : Int) := by
      have k3 : ((m / 2 ^ n : Nat) : Int) = (m : Int) / ((2 ^ n : Nat) : Int) := Int.natCast_ediv _ _
      have k4 : (2147483648 : Int) = ((2 ^ n : Nat) : Int) * ((2 ^ (31 - n) : Nat) : Int) := by
        rw [← Int.natCast_mul, ← hP]; rfl
      rw [k3, hm, k4, Int.add_mul_ediv_left _ _ (by omega)]
      rw [show ((2 ^ n : Nat) : Int) = (2 : Int) ^ n by rw [Int.natCast_pow]; rfl]
      omega
    have hle : 2 ^ (31 - n) ≤ 2147483648 := by rw [← hd]; exact Nat.div_le_self _ _
    have l1 : a / 2 ^ n ≤ m / 2 ^ n := Nat.div_le_div_right (by omega)
    have l2 : m / 2 ^ n ≤ b / 2 ^ n := Nat.div_le_div_right (by omega)
    refine ⟨_, rfl, ?_, ?_⟩
    · show ((a / 2 ^ n + 2147483648 - 2147483648 / 2 ^ n : Nat) : Int) ≤ (x >>> (y &&& 31)).toInt + 2147483648
      rw [key, k2, hd]
      generalize a / 2 ^ n = u1 at *
      generalize m / 2 ^ n = u2 at *
      generalize 2 ^ (31 - n) = u3 at *
      omega
    · show (x >>> (y &&& 31)).toInt + 2147483648 ≤ ((b / 2 ^ n + 2147483648 - 2147483648 / 2 ^ n : Nat) : Int)
      rw [key, k2, hd]
      generalize b / 2 ^ n = u1 at *
      generalize m / 2 ^ n = u2 at *
      generalize 2 ^ (31 - n) = u3 at *
      omega
  · cases h
/-- comparisons that the bounds decide -/
def aCmpD : Jvm.ClassFile.Cond → Nat → Nat → Nat → Nat → Option Bool
  | .eq, a, b, p, q => (match Nat.ble (Nat.add b 1) p with
    | true => some false
    | false => (match Nat.ble (Nat.add q 1) a with
      | true => some false
      | false => (match Nat.beq a b with
        | true => (match Nat.beq p q with
          | true => some true
          | false => none)
        | false => none)))
  | .ne, a, b, p, q => (match Nat.ble (Nat.add b 1) p with
    | true => some true
    | false => (match Nat.ble (Nat.add q 1) a with
      | true => some true
      | false => (match Nat.beq a b with
        | true => (match Nat.beq p q with
          | true => some false
          | false => none)
        | false => none)))
  | .lt, a, b, p, q => (match Nat.ble (Nat.add b 1) p with
    | true => some true
    | false => (match Nat.ble q a with
      | true => some false
      | false => none))
  | .ge, a, b, p, q => (match Nat.ble q a with
    | true => some true
    | false => (match Nat.ble (Nat.add b 1) p with
      | true => some false
      | false => none))
  | .gt, a, b, p, q => (match Nat.ble (Nat.add q 1) a with
    | true => some true
    | false => (match Nat.ble b p with
      | true => some false
      | false => none))
  | .le, a, b, p, q => (match Nat.ble b p with
    | true => some true
    | false => (match Nat.ble (Nat.add q 1) a with
      | true => some false
      | false => none))
theorem a_le {a b : Nat} (h : Nat.ble a b = true) : a ≤ b := Nat.le_of_ble_eq_true h
theorem a_lt1 {a b : Nat} (h : Nat.ble (Nat.add a 1) b = true) : a < b := Nat.le_of_ble_eq_true h
theorem a_nle {a b : Nat} (h : Nat.ble a b = false) : b < a := by
  rcases Nat.lt_or_ge b a with z | z
  · exact z
  · rw [Nat.ble_eq_true_of_le z] at h; cases h
theorem aCmpD_s {c : Jvm.ClassFile.Cond} {a b p q : Nat} {o : Bool} {x y : Int32} (h : aCmpD c a b p q = some o) (hx : aIn a b x) (hy : aIn p q y) : amCmpP c x y = o := by
  obtain ⟨h1, h2⟩ := hx
  obtain ⟨h3, h4⟩ := hy
  cases c
  case eq =>
    unfold aCmpD at h
    dsimp only at h
    repeat' split at h
    · next e => cases h; have := a_lt1 e; exact decide_eq_false (fun z => by have := congrArg Int32.toInt z; omega)
    · next e => cases h; have := a_lt1 e; exact decide_eq_false (fun z => by have := congrArg Int32.toInt z; omega)
    · cases h
      have e1 := Nat.eq_of_beq_eq_true ‹Nat.beq a b = true›
      have e2 := Nat.eq_of_beq_eq_true ‹Nat.beq p q = true›
      have e3 : p < b + 1 := a_nle ‹Nat.ble (Nat.add b 1) p = false›
      have e4 : a < q + 1 := a_nle ‹Nat.ble (Nat.add q 1) a = false›
      have e5 : x = y := Int32.toInt_inj.mp (by omega)
      exact decide_eq_true e5
    · cases h
    · cases h
  case ne =>
    unfold aCmpD at h
    dsimp only at h
    repeat' split at h
    · next e => cases h; have := a_lt1 e; exact decide_eq_true (fun z => by have := congrArg Int32.toInt z; omega)
    · next e => cases h; have := a_lt1 e; exact decide_eq_true (fun z => by have := congrArg Int32.toInt z; omega)
    · cases h
      have e1 := Nat.eq_of_beq_eq_true ‹Nat.beq a b = true›
      have e2 := Nat.eq_of_beq_eq_true ‹Nat.beq p q = true›
      have e3 : p < b + 1 := a_nle ‹Nat.ble (Nat.add b 1) p = false›
      have e4 : a < q + 1 := a_nle ‹Nat.ble (Nat.add q 1) a = false›
      have e5 : x = y := Int32.toInt_inj.mp (by omega)
      exact decide_eq_false (fun z => z e5)
    · cases h
    · cases h
  case lt =>
    unfold aCmpD at h
    dsimp only at h
    repeat' split at h
    · next e => cases h; have := a_lt1 e; exact decide_eq_true (Int32.lt_iff_toInt_lt.mpr (by omega))
    · next e => cases h; have := a_le e; exact decide_eq_false (fun z => by have := Int32.lt_iff_toInt_lt.mp z; omega)
    · cases h
  case ge =>
    unfold aCmpD at h
    dsimp only at h
    repeat' split at h
    · next e => cases h; have := a_le e; exact decide_eq_true (Int32.le_iff_toInt_le.mpr (by omega))
    · next e => cases h; have := a_lt1 e; exact decide_eq_false (fun z => by have := Int32.le_iff_toInt_le.mp z; omega)
    · cases h
  case gt =>
    unfold aCmpD at h
    dsimp only at h
    repeat' split at h
    · next e => cases h; have := a_lt1 e; exact decide_eq_true (Int32.lt_iff_toInt_lt.mpr (by omega))
    · next e => cases h; have := a_le e; exact decide_eq_false (fun z => by have := Int32.lt_iff_toInt_lt.mp z; omega)
    · cases h
  case le =>
    unfold aCmpD at h
    dsimp only at h
    repeat' split at h
    · next e => cases h; have := a_le e; exact decide_eq_true (Int32.le_iff_toInt_le.mpr (by omega))
    · next e => cases h; have := a_lt1 e; exact decide_eq_false (fun z => by have := Int32.le_iff_toInt_le.mp z; omega)
    · cases h
end
section
/-! ===== the abstract runs: one instruction ===== -/
abbrev aK : Type := (Nat → aL → List aV → aH → Bool) → aL → List aV → aH → Bool
def aKok (act : aK) (cf : amL → List Value → amH → Option amR) : Prop :=
  ∀ (k : Nat → aL → List aV → aH → Bool) (ls : aL) (st : List aV) (hp : aH) (cl : amL) (cs : List Value) (ch : amH), act k ls st hp = true → aRl ls cl → aRs st cs → aRh hp ch →
    ∃ (r : amR) (ls' : aL) (st' : List aV) (hp' : aH), cf cl cs ch = some r ∧ k r.1 ls' st' hp' = true ∧ aRl ls' r.2.1 ∧ aRs st' r.2.2.1 ∧ aRh hp' r.2.2.2
def aKpush (pc : Nat) (v : aV) : aK := fun k ls st hp => k pc ls (v :: st) hp
theorem aKpush_ok {pc : Nat} {v : aV} {w : Value} (h : aR v w) : aKok (aKpush pc v) (fun ls st hp => some (pc, ls, w :: st, hp)) :=
  fun k ls st hp cl cs ch e hl hs hh => ⟨_, ls, v :: st, hp, rfl, e, hl, ⟨h, hs⟩, hh⟩
def aKgo (pc : Nat) : aK := fun k ls st hp => k pc ls st hp
theorem aKgo_ok {pc : Nat} : aKok (aKgo pc) (fun ls st hp => some (pc, ls, st, hp)) :=
  fun k ls st hp cl cs ch e hl hs hh => ⟨_, ls, st, hp, rfl, e, hl, hs, hh⟩
def aIsI : aV → Bool
  | .inr _ => true
  | .inl v => amIsI v
def aIs (p : Value → Bool) : aV → Bool
  | .inr _ => false
  | .inl v => p v
def aIk (p : aV → Bool) (p' : Value → Bool) : Prop := ∀ v w, aR v w → p v = true → p' w = true
theorem aIsI_ok : aIk aIsI amIsI := by
  intro v w h e
  cases v with
  | inl v => cases h; exact e
  | inr q => obtain ⟨x, rfl, -⟩ := h; rfl
theorem aIs_ok (p : Value → Bool) : aIk (aIs p) p := by
  intro v w h e
  cases v with
  | inl v => cases h; exact e
  | inr q => cases e
def aKld (pc : Nat) (p : aV → Bool) (j : Nat) : aK := fun k ls st hp => match lGet ls j with
  | some v => (match p v with
    | true => k pc ls (v :: st) hp
    | false => false)
  | none => false
theorem aKld_ok {pc j : Nat} {p : aV → Bool} {p' : Value → Bool} (hp : aIk p p') : aKok (aKld pc p j) (fun ls st hp => (amLd p' ls j st).map (fun s => (pc, ls, s, hp))) := by
  intro k ls st h cl cs ch e hl hs hh
  unfold aKld at e
  split at e
  · next v ev =>
    split at e
    · next ep =>
      obtain ⟨w, e1, e2⟩ := hl.1 j v ev
      refine ⟨(pc, cl, w :: cs, ch), ls, v :: st, h, ?_, e, hl, ⟨e2, hs⟩, hh⟩
      dsimp only
      unfold amLd
      rw [e1]
      simp [hp v w e2 ep]
    · cases e
  · cases e
def aKst1 (pc : Nat) (p : aV → Bool) (nL j : Nat) : aK := fun k ls st hp => match st with
  | v :: r => (match p v with
    | true => (match Nat.ble (Nat.add j 1) nL with
      | true => (match aSet1 ls j v with
        | some l1 => k pc l1 r hp
        | none => false)
      | false => false)
    | false => false)
  | [] => false
theorem aKst1_ok {pc nL j : Nat} {p : aV → Bool} {p' : Value → Bool} (hp : aIk p p') : aKok (aKst1 pc p nL j) (fun ls st hp => (amSt1 p' nL ls j st).map (fun q => (pc, q.1, q.2, hp))) := by
  intro k ls st h cl cs ch e hl hs hh
  unfold aKst1 at e
  split at e
  · next v r =>
    obtain ⟨w, ws, rfl, hv, hs1⟩ := aRs_cons hs
    split at e
    · next ep =>
      split at e
      · next e1 =>
        split at e
        · next l1 e2 =>
          refine ⟨(pc, amSet1 cl j w, ws, ch), l1, r, h, ?_, e, aSet1_s hl hv e2, hs1, hh⟩
          have : j < nL := a_lt1 e1
          simp [amSt1, hp v w hv ep, this]
        · cases e
      · cases e
    · cases e
  · cases e
def aKst2 (pc : Nat) (p : aV → Bool) (nL j : Nat) : aK := fun k ls st hp => match st with
  | v :: r => (match p v with
    | true => (match Nat.ble (Nat.add j 2) nL with
      | true => (match aSet2 ls j v with
        | some l1 => k pc l1 r hp
        | none => false)
      | false => false)
    | false => false)
  | [] => false
theorem aKst2_ok {pc nL j : Nat} {p : aV → Bool} {p' : Value → Bool} (hp : aIk p p') : aKok (aKst2 pc p nL j) (fun ls st hp => (amSt2 p' nL ls j st).map (fun q => (pc, q.1, q.2, hp))) := by
  intro k ls st h cl cs ch e hl hs hh
  unfold aKst2 at e
  split at e
  · next v r =>
    obtain ⟨w, ws, rfl, hv, hs1⟩ := aRs_cons hs
    split at e
    · next ep =>
      split at e
      · next e1 =>
        split at e
        · next l1 e2 =>
          refine ⟨(pc, amSet2 cl j w, ws, ch), l1, r, h, ?_, e, aSet2_s hl hv e2, hs1, hh⟩
          have : j + 1 < nL := a_le e1
          simp [amSt2, hp v w hv ep, this]
        · cases e
      · cases e
    · cases e
  · cases e
def aKinc (pc nL j c : Nat) : aK := fun k ls st hp => match lGet ls j with
  | some (.inr q) => (match Nat.ble (Nat.add j 1) nL with
    | true => (match aGadd q.1 q.2 c c with
      | some v => (match aSet1 ls j v with
        | some l1 => k pc l1 st hp
        | none => false)
      | none => false)
    | false => false)
  | _ => false
theorem aKinc_ok {pc nL j : Nat} {n : Int} : aKok (aKinc pc nL j (aOff (Int32.ofInt n))) (fun ls st hp => (amInc nL ls j n).map (fun q => (pc, q, st, hp))) := by
  intro k ls st h cl cs ch e hl hs hh
  unfold aKinc at e
  split at e
  · next q ev =>
    split at e
    · next e1 =>
      split at e
      · next v e2 =>
        split at e
        · next l1 e3 =>
          obtain ⟨w, g1, x, rfl, g2, g3⟩ := hl.1 j _ ev
          have hv := aGadd_ok _ _ _ _ _ x (Int32.ofInt n) e2 ⟨g2, g3⟩ ⟨by rw [aOff_eq]; exact Int.le_refl _, by rw [aOff_eq]; exact Int.le_refl _⟩
          refine ⟨(pc, amSet1 cl j (.int (x + Int32.ofInt n)), cs, ch), l1, st, h, ?_, e, aSet1_s hl hv e3, hs, hh⟩
          have : j < nL := a_lt1 e1
          simp [amInc, g1, this]
        · cases e
      · cases e
    · cases e
  · cases e
/-! the stack alone -/
def aSok (g : List aV → Option (List aV)) (cg : List Value → Option (List Value)) : Prop := ∀ (st : List aV) (cs : List Value) (s : List aV), g st = some s → aRs st cs → ∃ s', cg cs = some s' ∧ aRs s s'
def aKs (pc : Nat) (g : List aV → Option (List aV)) : aK := fun k ls st hp => match g st with
  | some s => k pc ls s hp
  | none => false
theorem aKs_ok {pc : Nat} {g : List aV → Option (List aV)} {cg : List Value → Option (List Value)} (hg : aSok g cg) : aKok (aKs pc g) (fun ls st hp => (cg st).map (fun s => (pc, ls, s, hp))) := by
  intro k ls st h cl cs ch e hl hs hh
  unfold aKs at e
  split at e
  · next s es =>
    obtain ⟨s', e1, e2⟩ := hg st cs s es hs
    exact ⟨(pc, cl, s', ch), ls, s, h, by dsimp only; rw [e1]; rfl, e, hl, e2, hh⟩
  · cases e
def aII (g : aG) : List aV → Option (List aV)
  | .inr q :: .inr p :: r => (match g p.1 p.2 q.1 q.2 with
    | some v => some (v :: r)
    | none => none)
  | _ => none
theorem aII_ok {f : Int32 → Int32 → Int32} {g : aG} (hg : aGok f g) : aSok (aII g) (amII f) := by
  intro st cs s e hs
  unfold aII at e
  split at e
  · next q p r =>
    obtain ⟨w, ws, rfl, ⟨y, rfl, hy⟩, hs1⟩ := aRs_cons hs
    obtain ⟨w, ws, rfl, ⟨x, rfl, hx⟩, hs2⟩ := aRs_cons hs1
    split at e
    · next v ev => cases e; exact ⟨_, rfl, hg _ _ _ _ _ x y ev hx hy, hs2⟩
    · cases e
  · cases e
def aDv (f : Int32 → Int32 → Int32) : List aV → Option (List aV)
  | .inr q :: .inr p :: r => (match Nat.beq q.1 2147483648 with
    | true => none
    | false => (match aGx f p.1 p.2 q.1 q.2 with
      | some v => some (v :: r)
      | none => none))
  | _ => none
theorem a_zero : (0 : Int32).toInt = 0 := by decide
theorem aGx_eq {f : Int32 → Int32 → Int32} {a b c d : Nat} {v : aV} (h : aGx f a b c d = some v) : c = d := by
  unfold aGx at h
  split at h
  · split at h
    · next e => exact Nat.eq_of_beq_eq_true e
    · cases h
  · cases h
theorem aDv_ok {f : Int32 → Int32 → Int32} : aSok (aDv f) (amDiv f) := by
  intro st cs s e hs
  unfold aDv at e
  split at e
  · next q p r =>
    obtain ⟨w, ws, rfl, ⟨y, rfl, hy⟩, hs1⟩ := aRs_cons hs
    obtain ⟨w, ws, rfl, ⟨x, rfl, hx⟩, hs2⟩ := aRs_cons hs1
    split at e
    · cases e
    · next hq =>
      split at e
      · next v ev =>
        cases e
        have hc := aGx_eq ev
        have hn : ¬ y = 0 := by
          intro z
          rw [z, a_zero] at hy
          have : q.1 = 2147483648 := by omega
          rw [this] at hq
          cases hq
        refine ⟨.int (f x y) :: ws, ?_, aGx_ok f _ _ _ _ _ x y ev hx hy, hs2⟩
        show (if y = 0 then none else some (Value.int (f x y) :: ws)) = _
        rw [if_neg hn]
      · cases e
  · cases e
def aI1 (f : Int32 → Value) : List aV → Option (List aV)
  | .inr q :: r => (match Nat.beq q.1 q.2 with
    | true => some (aOfV (f (aInt q.1)) :: r)
    | false => none)
  | _ => none
theorem aI1_ok {f : Int32 → Value} : aSok (aI1 f) (amI f) := by
  intro st cs s e hs
  unfold aI1 at e
  split at e
  · next q r =>
    obtain ⟨w, ws, rfl, ⟨y, rfl, hy⟩, hs1⟩ := aRs_cons hs
    split at e
    · next e1 => cases e; exact ⟨_, rfl, by rw [← aEq_s e1 hy]; exact aOfV_s _, hs1⟩
    · cases e
  · cases e
def aI2b : List aV → Option (List aV)
  | .inr q :: r => (match Nat.beq q.1 q.2 with
    | true => some (aOfV (.int (aInt q.1).toInt8.toInt32) :: r)
    | false => some (.inr (2147483520, 2147483775) :: r))
  | _ => none
theorem aI2b_ok : aSok aI2b (amI (fun x => .int x.toInt8.toInt32)) := by
  intro st cs s e hs
  unfold aI2b at e
  split at e
  · next q r =>
    obtain ⟨w, ws, rfl, ⟨y, rfl, hy⟩, hs1⟩ := aRs_cons hs
    split at e
    · next e1 => cases e; exact ⟨_, rfl, by rw [← aEq_s e1 hy]; exact aOfV_s _, hs1⟩
    · cases e
      refine ⟨_, rfl, ⟨_, rfl, ?_, ?_⟩, hs1⟩
      · show (2147483520 : Int) ≤ y.toInt8.toInt32.toInt + 2147483648
        rw [Int8.toInt_toInt32]
        have := Int8.le_toInt y.toInt8
        omega
      · show y.toInt8.toInt32.toInt + 2147483648 ≤ (2147483775 : Int)
        rw [Int8.toInt_toInt32]
        have := Int8.toInt_lt y.toInt8
        omega
  · cases e
def aJ1 (f : Int64 → Value) : List aV → Option (List aV)
  | .inl (.long x) :: r => some (aOfV (f x) :: r)
  | _ => none
theorem aJ1_ok {f : Int64 → Value} : aSok (aJ1 f) (amJ f) := by
  intro st cs s e hs
  unfold aJ1 at e
  split at e
  · next x r =>
    obtain ⟨w, ws, rfl, hy, hs1⟩ := aRs_cons hs
    cases hy
    cases e
    exact ⟨_, rfl, aOfV_s _, hs1⟩
  · cases e
def aLL (f : Int64 → Int64 → Value) : List aV → Option (List aV)
  | .inl (.long y) :: .inl (.long x) :: r => some (aOfV (f x y) :: r)
  | _ => none
theorem aLL_ok {f : Int64 → Int64 → Value} : aSok (aLL f) (amLL f) := by
  intro st cs s e hs
  unfold aLL at e
  split at e
  · next y x r =>
    obtain ⟨w, ws, rfl, hy, hs1⟩ := aRs_cons hs
    obtain ⟨w, ws, rfl, hx, hs2⟩ := aRs_cons hs1
    cases hy
    cases hx
    cases e
    exact ⟨_, rfl, aOfV_s _, hs2⟩
  · cases e
def aLI (f : Int64 → Int32 → Int64) : List aV → Option (List aV)
  | .inr q :: .inl (.long x) :: r => (match Nat.beq q.1 q.2 with
    | true => some (.inl (.long (f x (aInt q.1))) :: r)
    | false => none)
  | _ => none
theorem aLI_ok {f : Int64 → Int32 → Int64} : aSok (aLI f) (amLI f) := by
  intro st cs s e hs
  unfold aLI at e
  split at e
  · next q x r =>
    obtain ⟨w, ws, rfl, ⟨y, rfl, hy⟩, hs1⟩ := aRs_cons hs
    obtain ⟨w, ws, rfl, hx, hs2⟩ := aRs_cons hs1
    cases hx
    split at e
    · next e1 => cases e; exact ⟨_, rfl, by rw [← aEq_s e1 hy]; rfl, hs2⟩
    · cases e
  · cases e
def aAllN : Nat → (Nat → Bool) → Bool
  | 0, _ => true
  | n + 1, f => match f n with
    | true => aAllN n f
    | false => false
theorem aAllN_s : ∀ {n : Nat} {f : Nat → Bool} {i : Nat}, aAllN n f = true → i < n → f i = true
  | 0, _, _, _, h => absurd h (Nat.not_lt_zero _)
  | n + 1, f, i, h, hi => by
    unfold aAllN at h
    split at h
    · next e =>
      by_cases z : i = n
      · rw [z]; exact e
      · exact aAllN_s h (by omega)
    · cases h
/-- what is left over by a small known number: each answer by itself -/
def aKrem (pc : Nat) : aK := fun k ls st hp => match aDv (fun x y => x - x / y * y) st with
  | some s => k pc ls s hp
  | none => (match st with
    | .inr q :: .inr p :: r => if q.1 = q.2 ∧ 2147483649 ≤ q.1 ∧ q.1 ≤ 2147483664 then
        (if 2147483648 ≤ p.1 then aAllN (q.1 - 2147483648) (fun z => k pc ls (.inr (2147483648 + z, 2147483648 + z) :: r) hp)
        else if p.2 ≤ 2147483648 then aAllN (q.1 - 2147483648) (fun z => k pc ls (.inr (2147483648 - z, 2147483648 - z) :: r) hp) else false) else false
    | _ => false)
theorem aKrem_ok {pc : Nat} : aKok (aKrem pc) (fun ls st hp => (amDiv (fun x y => x - x / y * y) st).map (fun s => (pc, ls, s, hp))) := by
  intro k ls st h cl cs ch e hl hs hh
  unfold aKrem at e
  split at e
  · next s es =>
    obtain ⟨s', e1, e2⟩ := aDv_ok st cs s es hs
    exact ⟨(pc, cl, s', ch), ls, s, h, by dsimp only; rw [e1]; rfl, e, hl, e2, hh⟩
  · split at e
    · next q p r hd =>
      obtain ⟨w, ws, rfl, ⟨y, rfl, y1, y2⟩, hs1⟩ := aRs_cons hs
      obtain ⟨w, ws, rfl, ⟨x, rfl, x1, x2⟩, hs2⟩ := aRs_cons hs1
      split at e
      · next eq =>
        obtain ⟨n, hn⟩ : ∃ n : Nat, q.1 = n + 2147483648 := ⟨q.1 - 2147483648, by omega⟩
        have hn1 : 1 ≤ n := by omega
        have hy : y.toInt = n := by omega
        have hy0 : ¬ y = 0 := fun z => by rw [z, a_zero] at hy; omega
        have ht : (x - x / y * y).toInt = x.toInt.tmod n := by rw [rem_toInt, hy]
        have hd : amDiv (fun x y => x - x / y * y) (.int y :: .int x :: ws) = some (.int (x - x / y * y) :: ws) := by
          show (if y = 0 then none else some (Value.int (x - x / y * y) :: ws)) = _
          rw [if_neg hy0]
        rw [hn, Nat.add_sub_cancel] at e
        split at e
        · next e2 =>
          rw [Int.tmod_eq_emod_of_nonneg (by omega)] at ht
          have b1 := Int.emod_nonneg x.toInt (show (n : Int) ≠ 0 by omega)
          have b2 := Int.emod_lt_of_pos x.toInt (show 0 < (n : Int) by omega)
          obtain ⟨z, hz⟩ := Int.eq_ofNat_of_zero_le b1
          have hk := aAllN_s e (show z < n by omega)
          refine ⟨(pc, cl, .int (x - x / y * y) :: ws, ch), ls, .inr (2147483648 + z, 2147483648 + z) :: r, h, by dsimp only; rw [hd]; rfl, hk, hl, ⟨⟨_, rfl, ?_, ?_⟩, hs2⟩, hh⟩ <;> dsimp only <;> omega
        · split at e
          · next e3 =>
            have e4 : x.toInt.tmod n = -((-x.toInt) % n) := by
              have e5 : x.toInt.tmod n = -((-x.toInt).tmod n) := by rw [Int.neg_tmod, Int.neg_neg]
              rw [e5, Int.tmod_eq_emod_of_nonneg (by omega)]
            rw [e4] at ht
            have b1 := Int.emod_nonneg (-x.toInt) (show (n : Int) ≠ 0 by omega)
            have b2 := Int.emod_lt_of_pos (-x.toInt) (show 0 < (n : Int) by omega)
            obtain ⟨z, hz⟩ := Int.eq_ofNat_of_zero_le b1
            have hk := aAllN_s e (show z < n by omega)
            refine ⟨(pc, cl, .int (x - x / y * y) :: ws, ch), ls, .inr (2147483648 - z, 2147483648 - z) :: r, h, by dsimp only; rw [hd]; rfl, hk, hl, ⟨⟨_, rfl, ?_, ?_⟩, hs2⟩, hh⟩ <;> dsimp only <;> omega
          · cases e
      · cases e
    · cases e
/-! branches -/
def aKif (c : Jvm.ClassFile.Cond) (t e : Nat) : aK := fun k ls st hp => match st with
  | .inr p :: r => (match aCmpD c p.1 p.2 2147483648 2147483648 with
    | some true => k t ls r hp
    | some false => k e ls r hp
    | none => false)
  | _ => false
def aKcmp (c : Jvm.ClassFile.Cond) (t e : Nat) : aK := fun k ls st hp => match st with
  | .inr q :: .inr p :: r => (match aCmpD c p.1 p.2 q.1 q.2 with
    | some true => k t ls r hp
    | some false => k e ls r hp
    | none => false)
  | _ => false
theorem amIfP_cmp (c : Jvm.ClassFile.Cond) (x : Int32) : amIfP c x = amCmpP c x 0 := by cases c <;> rfl
theorem aKif_ok {c : Jvm.ClassFile.Cond} {t e0 : Nat} : aKok (aKif c t e0) (fun ls st hp => (amIf (amIfP c) t e0 st).map (fun q => (q.1, ls, q.2, hp))) := by
  intro k ls st h cl cs ch e hl hs hh
  unfold aKif at e
  split at e
  · next p r =>
    obtain ⟨w, ws, rfl, ⟨x, rfl, hx⟩, hs1⟩ := aRs_cons hs
    have h0 : aIn 2147483648 2147483648 0 := ⟨by rw [a_zero]; decide, by rw [a_zero]; decide⟩
    split at e
    · next ec =>
      have := aCmpD_s ec hx h0
      rw [← amIfP_cmp] at this
      exact ⟨_, ls, r, h, by simp only [amIf, this]; rfl, e, hl, hs1, hh⟩
    · next ec =>
      have := aCmpD_s ec hx h0
      rw [← amIfP_cmp] at this
      exact ⟨_, ls, r, h, by simp only [amIf, this]; rfl, e, hl, hs1, hh⟩
    · cases e
  · cases e
theorem aKcmp_ok {c : Jvm.ClassFile.Cond} {t e0 : Nat} : aKok (aKcmp c t e0) (fun ls st hp => (amCmp (amCmpP c) t e0 st).map (fun q => (q.1, ls, q.2, hp))) := by
  intro k ls st h cl cs ch e hl hs hh
  unfold aKcmp at e
  split at e
  · next q p r =>
    obtain ⟨w, ws, rfl, ⟨y, rfl, hy⟩, hs1⟩ := aRs_cons hs
    obtain ⟨w, ws, rfl, ⟨x, rfl, hx⟩, hs2⟩ := aRs_cons hs1
    split at e
    · next ec =>
      have := aCmpD_s ec hx hy
      exact ⟨_, ls, r, h, by simp only [amCmp, this]; rfl, e, hl, hs2, hh⟩
    · next ec =>
      have := aCmpD_s ec hx hy
      exact ⟨_, ls, r, h, by simp only [amCmp, this]; rfl, e, hl, hs2, hh⟩
    · cases e
  · cases e
def aKnull (t e : Nat) : aK := fun k ls st hp => match st with
  | .inl (.ref _) :: r => k e ls r hp
  | .inl .null :: r => k t ls r hp
  | _ => false
def aTblv (q : Nat × Nat) (d lo hi : Int) (offs : Array Int) : Option Int :=
  if q.1 = q.2 then amOff ((q.1 : Int) - 2147483648) d lo hi offs
  else if (q.2 : Int) - 2147483648 < lo ∨ hi < (q.1 : Int) - 2147483648 then some d else none
def aKtab (pc : Nat) (d lo hi : Int) (offs : Array Int) : aK := fun k ls st hp => match st with
  | .inr q :: r => (match aTblv q d lo hi offs with
    | some o => if 0 ≤ (pc : Int) + o then k ((pc : Int) + o).toNat ls r hp else false
    | none => false)
  | _ => false
theorem aKtab_ok {pc : Nat} {d lo hi : Int} {offs : Array Int} : aKok (aKtab pc d lo hi offs) (fun ls st hp => (amTbl pc d lo hi offs st).map (fun q => (q.1, ls, q.2, hp))) := by
  intro k ls st h cl cs ch e hl hs hh
  unfold aKtab at e
  split at e
  · next q r =>
    obtain ⟨w, ws, rfl, ⟨x, rfl, x1, x2⟩, hs1⟩ := aRs_cons hs
    split at e
    · next o eo =>
      split at e
      · next e1 =>
        have key : amOff x.toInt d lo hi offs = some o := by
          unfold aTblv at eo
          split at eo
          · next e2 => rw [show x.toInt = (q.1 : Int) - 2147483648 by omega]; exact eo
          · split at eo
            · next e3 => cases eo; unfold amOff; rw [if_pos (by omega)]
            · cases eo
        exact ⟨_, ls, r, h, by simp only [amTbl, key, if_pos e1]; rfl, e, hl, hs1, hh⟩
      · cases e
    · cases e
  · cases e
/-! ===== the abstract runs: cells ===== -/
theorem aKnull_ok1 {t e0 : Nat} {cf : amL → List Value → amH → Option amR} (h1 : ∀ ls o r hp, cf ls (.ref o :: r) hp = some (e0, ls, r, hp)) (h2 : ∀ ls r hp, cf ls (.null :: r) hp = some (t, ls, r, hp)) : aKok (aKnull t e0) cf := by
  intro k ls st h cl cs ch e hl hs hh
  unfold aKnull at e
  split at e
  · next o r =>
    obtain ⟨w, ws, rfl, hv, hs1⟩ := aRs_cons hs
    cases hv
    exact ⟨_, ls, r, h, h1 _ _ _ _, e, hl, hs1, hh⟩
  · next r =>
    obtain ⟨w, ws, rfl, hv, hs1⟩ := aRs_cons hs
    cases hv
    exact ⟨_, ls, r, h, h2 _ _ _, e, hl, hs1, hh⟩
  · cases e
def aKget (pc ci j : Nat) : aK := fun k ls st hp => match st with
  | .inl (.ref o) :: r => (match aCell hp o with
    | some c => (match Nat.beq c.1 ci with
      | true => (match cGet c.2.2 j with
        | some v => k pc ls (v :: r) hp
        | none => false)
      | false => false)
    | none => false)
  | _ => false
theorem aKget_ok {pc ci j : Nat} (hci : ci < 32) : aKok (aKget pc ci j) (fun ls st hp => (amFGet ci j hp st).map (fun s => (pc, ls, s, hp))) := by
  intro k ls st h cl cs ch e hl hs hh
  unfold aKget at e
  split at e
  · next o r =>
    obtain ⟨w, ws, rfl, hv, hs1⟩ := aRs_cons hs
    cases hv
    split at e
    · next c ec =>
      split at e
      · next e1 =>
        split at e
        · next v ev =>
          obtain ⟨d, d1, d2⟩ := aCell_s hh ec
          obtain ⟨x, x1, x2⟩ := aRc_get d2 ev
          have e3 : d.1 = ci := by rw [← d2.1]; exact Nat.eq_of_beq_eq_true e1
          refine ⟨(pc, cl, x :: ws, ch), ls, v :: r, h, ?_, e, hl, ⟨x2, hs1⟩, hh⟩
          simp only [amFGet, d1, e3, hci, x1, and_self, if_true, Option.map_some]
        · cases e
      · cases e
    · cases e
  · cases e
def aFits : FieldType → aV → Bool
  | .int, .inr _ => true
  | .boolean, .inr q => Nat.ble 2147483648 q.1 && Nat.ble q.2 2147483649
  | .long, .inl (.long _) => true
  | .object _, .inl .null => true
  | .object _, .inl (.ref _) => true
  | .array _, .inl .null => true
  | .array _, .inl (.ref _) => true
  | _, _ => false
theorem aFits_s {ty : FieldType} {v : aV} {w : Value} (h : aFits ty v = true) (hv : aR v w) : narrow ty w = w ∧ fits ty w = true := by
  unfold aFits at h
  split at h
  · obtain ⟨x, rfl, -⟩ := hv; exact ⟨rfl, rfl⟩
  · obtain ⟨x, rfl, x1, x2⟩ := hv
    simp only [Bool.and_eq_true] at h
    have h1 := a_le h.1
    have h2 := a_le h.2
    rcases (show x.toInt = 0 ∨ x.toInt = 1 by omega) with z | z
    · have : x = 0 := Int32.toInt_inj.mp (by rw [z]; rfl)
      subst this
      exact ⟨by decide, by decide⟩
    · have : x = 1 := Int32.toInt_inj.mp (by rw [z]; rfl)
      subst this
      exact ⟨by decide, by decide⟩
  · cases hv; exact ⟨rfl, rfl⟩
  · cases hv; exact ⟨rfl, rfl⟩
  · cases hv; exact ⟨rfl, rfl⟩
  · cases hv; exact ⟨rfl, rfl⟩
  · cases hv; exact ⟨rfl, rfl⟩
  · cases h
def aKput (pc ci j : Nat) (ty : FieldType) : aK := fun k ls st hp => match st with
  | v :: .inl (.ref o) :: r => (match aFits ty v with
    | true => (match aCell hp o with
      | some c => (match Nat.beq c.1 ci with
        | true => (match cPut c.2.2 j v with
          | some z => (match aPutH hp o (c.1, c.2.1, z) with
            | some h1 => k pc ls r h1
            | none => false)
          | none => false)
        | false => false)
      | none => false)
    | false => false)
  | _ => false
theorem aKput_ok {pc ci j : Nat} {ty : FieldType} (hci : ci < 32) : aKok (aKput pc ci j ty) (fun ls st hp => (amFSet ci j ty hp st).map (fun q => (pc, ls, q.1, q.2))) := by
  intro k ls st h cl cs ch e hl hs hh
  unfold aKput at e
  split at e
  · next v o r =>
    obtain ⟨w, ws, rfl, hv, hs1⟩ := aRs_cons hs
    obtain ⟨w2, ws, rfl, hv2, hs2⟩ := aRs_cons hs1
    cases hv2
    split at e
    · next ef =>
      split at e
      · next c ec =>
        split at e
        · next e1 =>
          split at e
          · next z ez =>
            split at e
            · next h1 eh =>
              obtain ⟨d, d1, d2⟩ := aCell_s hh ec
              obtain ⟨hlt, hc⟩ := aRc_put d2 ez hv
              have e3 : d.1 = ci := by rw [← d2.1]; exact Nat.eq_of_beq_eq_true e1
              obtain ⟨f1, f2⟩ := aFits_s ef hv
              rw [e3] at hc
              refine ⟨(pc, cl, ws, ch.set o (ci, d.2.set j w)), ls, r, h1, ?_, e, hl, hs2, aPutH_s hh eh hc⟩
              simp only [amFSet, d1, e3, hci, hlt, f1, f2, and_self, if_true, Option.map_some]
            · cases e
          · cases e
        · cases e
      · cases e
    · cases e
  · cases e
def aIdx (q : Nat × Nat) : Option Nat := match Nat.beq q.1 q.2 with
  | true => (match Nat.ble 2147483648 q.1 with
    | true => some (Nat.sub q.1 2147483648)
    | false => none)
  | false => none
theorem aIdx_s {q : Nat × Nat} {n m : Nat} {x : Int32} (h : aIdx q = some n) (hx : aIn q.1 q.2 x) : x.toNatClampNeg = n ∧ (n < m → amIn x m = true) := by
  unfold aIdx at h
  split at h
  · next e1 =>
    split at h
    · next e2 =>
      have hn : q.1 - 2147483648 = n := Option.some.inj h
      have e1 := Nat.eq_of_beq_eq_true e1
      have e2 := a_le e2
      obtain ⟨x1, x2⟩ := hx
      have e3 : x.toInt = (n : Int) := by omega
      have e4 : x.toNatClampNeg = n := by
        show x.toInt.toNat = _
        rw [e3]; rfl
      refine ⟨e4, fun hm => decide_eq_true ?_⟩
      rw [not_or, e4]
      refine ⟨fun z => ?_, fun z => ?_⟩
      · have := Int32.lt_iff_toInt_lt.mp z
        rw [a_zero] at this
        omega
      · omega
    · cases h
  · cases h
def aRsc : Option (List aV) → Option (List Int32) → Prop
  | none, _ => True
  | some l, some m => aRs l (m.map Value.int)
  | some _, none => False
theorem aRs_at : ∀ {l : List aV} {m : List Value} {i : Nat} {v : aV}, aRs l m → lAt l i = some v → ∃ w, m[i]? = some w ∧ aR v w
  | [], [], _, _, _, h => by simp [lAt] at h
  | a :: l, b :: m, 0, v, h, e => by
    simp [lAt] at e
    subst e
    exact ⟨b, rfl, h.1⟩
  | a :: l, b :: m, i + 1, v, h, e => by
    simp only [List.getElem?_cons_succ]
    exact aRs_at h.2 e
  | [], _ :: _, _, _, h, _ => by cases h
  | _ :: _, [], _, _, h, _ => by cases h
/-- a row read (kind t, values that p holds), the script too -/
def aKald (pc t : Nat) (p : aV → Bool) (sc : Option (List aV)) : aK := fun k ls st hp => match st with
  | .inr q :: .inl (.ref o) :: r => (match aIdx q with
    | some i => (match Nat.beq o 1999999 with
      | true => (match sc with
        | some l => (match lAt l i with
          | some v => k pc ls (v :: r) hp
          | none => false)
        | none => false)
      | false => (match aCell hp o with
        | some c => (match Nat.beq c.1 t with
          | true => (match cGet c.2.2 i with
            | some v => (match p v with
              | true => k pc ls (v :: r) hp
              | false => false)
            | none => false)
          | false => false)
        | none => false))
    | none => false)
  | _ => false
theorem amSc_none {sc : Option (List Int32)} {i : Int32} {o : Nat} {r : List Value} (h : ¬ o = amS) : amSc sc (.int i :: .ref o :: r) = none := by
  unfold amSc
  dsimp only
  split
  · rw [if_neg (fun z => h z.1)]
  · rfl
theorem a_nbeq {a b : Nat} (h : Nat.beq a b = false) : ¬ a = b := by
  intro z
  subst z
  rw [Nat.beq_refl] at h
  cases h
theorem aKald_cell {t : Nat} {p : aV → Bool} {p' : Value → Bool} (hp : aIk p p') {h : aH} {ch : amH} {q : Nat × Nat} {x : Int32} {o i : Nat} {c : aC} {v : aV} {ws : List Value} (hh : aRh h ch) (hx : aIn q.1 q.2 x) (ei : aIdx q = some i) (ec : aCell h o = some c) (et : Nat.beq c.1 t = true) (ev : cGet c.2.2 i = some v) (ep : p v = true) : ∃ w, amALd t p' ch (.int x :: .ref o :: ws) = some (w :: ws) ∧ aR v w := by
  obtain ⟨d, d1, d2⟩ := aCell_s hh ec
  obtain ⟨w, w1, w2⟩ := aRc_get d2 ev
  have e3 : d.1 = t := by rw [← d2.1]; exact Nat.eq_of_beq_eq_true et
  obtain ⟨i1, i2⟩ := aIdx_s (m := d.2.length) ei hx
  have hlt := a_lt w1
  have hg : d.2.getD x.toNatClampNeg .null = w := by rw [i1, List.getD_eq_getElem?_getD, w1]; rfl
  refine ⟨w, ?_, w2⟩
  simp only [amALd, d1, e3, i2 hlt, hg, hp v w w2 ep, and_self, if_true]
theorem aKald_okI {pc : Nat} {sc' : Option (List aV)} {sc : Option (List Int32)} (hsc : aRsc sc' sc) : aKok (aKald pc 32 aIsI sc') (fun ls st hp => match amSc sc st with
    | some s => some (pc, ls, s, hp)
    | none => (amALd 32 amIsI hp st).map (fun s => (pc, ls, s, hp))) := by
  intro k ls st h cl cs ch e hl hs hh
  unfold aKald at e
  split at e
  · next q o r =>
    obtain ⟨w, ws, rfl, ⟨x, rfl, hx⟩, hs1⟩ := aRs_cons hs
    obtain ⟨w2, ws, rfl, hv2, hs2⟩ := aRs_cons hs1
    cases hv2
    split at e
    · next i ei =>
      split at e
      · next eo =>
        have eo := Nat.eq_of_beq_eq_true eo
        subst eo
        split at e
        · next l =>
          split at e
          · next v ev =>
            cases sc with
            | none => cases hsc
            | some m =>
              obtain ⟨w, w1, w2⟩ := aRs_at hsc ev
              rw [List.getElem?_map] at w1
              obtain ⟨y, y1, rfl⟩ := Option.map_eq_some_iff.mp w1
              obtain ⟨i1, i2⟩ := aIdx_s (m := m.length) ei hx
              have hlt := a_lt y1
              have hg : m.getD x.toNatClampNeg 0 = y := by rw [i1, List.getD_eq_getElem?_getD, y1]; rfl
              have key : amSc (some m) (.int x :: .ref 1999999 :: ws) = some (.int y :: ws) := by
                simp only [amSc, i2 hlt, hg]
                exact if_pos ⟨rfl, trivial⟩
              refine ⟨(pc, cl, .int y :: ws, ch), ls, v :: r, h, ?_, e, hl, ⟨w2, hs2⟩, hh⟩
              dsimp only
              rw [key]
          · cases e
        · cases e
      · next eo =>
        split at e
        · next c ec =>
          split at e
          · next et =>
            split at e
            · next v ev =>
              split at e
              · next ep =>
                obtain ⟨w, w1, w2⟩ := aKald_cell (ws := ws) aIsI_ok hh hx ei ec et ev ep
                refine ⟨(pc, cl, w :: ws, ch), ls, v :: r, h, ?_, e, hl, ⟨w2, hs2⟩, hh⟩
                dsimp only
                rw [amSc_none (show ¬ o = amS from a_nbeq eo), w1]
                rfl
              · cases e
            · cases e
          · cases e
        · cases e
    · cases e
  · cases e
theorem aKald_ok {pc t : Nat} {p : aV → Bool} {p' : Value → Bool} (hp : aIk p p') : aKok (aKald pc t p none) (fun ls st hp => (amALd t p' hp st).map (fun s => (pc, ls, s, hp))) := by
  intro k ls st h cl cs ch e hl hs hh
  unfold aKald at e
  split at e
  · next q o r =>
    obtain ⟨w, ws, rfl, ⟨x, rfl, hx⟩, hs1⟩ := aRs_cons hs
    obtain ⟨w2, ws, rfl, hv2, hs2⟩ := aRs_cons hs1
    cases hv2
    split at e
    · next i ei =>
      split at e
      · cases e
      · next eo =>
        split at e
        · next c ec =>
          split at e
          · next et =>
            split at e
            · next v ev =>
              split at e
              · next ep =>
                obtain ⟨w, w1, w2⟩ := aKald_cell (ws := ws) hp hh hx ei ec et ev ep
                refine ⟨(pc, cl, w :: ws, ch), ls, v :: r, h, ?_, e, hl, ⟨w2, hs2⟩, hh⟩
                dsimp only
                rw [w1]
                rfl
              · cases e
            · cases e
          · cases e
        · cases e
    · cases e
  · cases e
/-- a row written: g does with the value what the row does -/
def aKast (pc t : Nat) (p : aH → aV → Bool) (g : aV → aV) : aK := fun k ls st hp => match st with
  | v :: .inr q :: .inl (.ref o) :: r => (match p hp v with
    | true => (match aIdx q with
      | some i => (match aCell hp o with
        | some c => (match Nat.beq c.1 t with
          | true => (match cPut c.2.2 i (g v) with
            | some z => (match aPutH hp o (c.1, c.2.1, z) with
              | some h1 => k pc ls r h1
              | none => false)
            | none => false)
          | false => false)
        | none => false)
      | none => false)
    | false => false)
  | _ => false
theorem aKast_ok {pc t : Nat} {p : aH → aV → Bool} {p' : amH → Value → Bool} {g : aV → aV} {g' : Value → Value} (hp : ∀ h ch v w, aRh h ch → aR v w → p h v = true → p' ch w = true) (hg : ∀ v w, aR v w → aR (g v) (g' w)) : aKok (aKast pc t p g) (fun ls st hp => (amASt t (p' hp) g' hp st).map (fun q => (pc, ls, q.1, q.2))) := by
  intro k ls st h cl cs ch e hl hs hh
  unfold aKast at e
  split at e
  · next v q o r =>
    obtain ⟨w, ws, rfl, hv, hs1⟩ := aRs_cons hs
    obtain ⟨w1, ws, rfl, ⟨x, rfl, hx⟩, hs2⟩ := aRs_cons hs1
    obtain ⟨w2, ws, rfl, hv2, hs3⟩ := aRs_cons hs2
    cases hv2
    split at e
    · next ep =>
      split at e
      · next i ei =>
        split at e
        · next c ec =>
          split at e
          · next et =>
            split at e
            · next z ez =>
              split at e
              · next h1 eh =>
                obtain ⟨d, d1, d2⟩ := aCell_s hh ec
                obtain ⟨hlt, hc⟩ := aRc_put d2 ez (hg v w hv)
                have e3 : d.1 = t := by rw [← d2.1]; exact Nat.eq_of_beq_eq_true et
                obtain ⟨i1, i2⟩ := aIdx_s (m := d.2.length) ei hx
                rw [e3] at hc
                refine ⟨(pc, cl, ws, ch.set o (t, d.2.set i (g' w))), ls, r, h1, ?_, e, hl, hs3, aPutH_s hh eh hc⟩
                simp only [amASt, d1, e3, i2 hlt, i1, hp h ch v w hh hv ep, and_self, if_true, Option.map_some]
              · cases e
            · cases e
          · cases e
        · cases e
      · cases e
    · cases e
  · cases e
def aNarB : aV → aV
  | .inr q => (match Nat.ble 2147483520 q.1 with
    | true => (match Nat.ble q.2 2147483775 with
      | true => .inr q
      | false => .inr (2147483520, 2147483775))
    | false => .inr (2147483520, 2147483775))
  | .inl v => .inl (amNarB v)
theorem aNarB_s {v : aV} {w : Value} (h : aR v w) : aR (aNarB v) (amNarB w) := by
  cases v with
  | inl v => cases h; exact rfl
  | inr q =>
    obtain ⟨x, rfl, x1, x2⟩ := h
    have hn : (vp_nar .byte x).toInt = x.toInt.bmod 256 := by
      show (x.toInt8.toInt32).toInt = _
      rw [Int8.toInt_toInt32, Int32.toInt_toInt8]
    have f : aR (.inr (2147483520, 2147483775)) (.int (vp_nar .byte x)) := by
      refine ⟨_, rfl, ?_, ?_⟩
      · show (2147483520 : Int) ≤ _
        have := Int.le_bmod (x := x.toInt) (m := 256) (by decide)
        rw [hn]
        omega
      · show _ ≤ (2147483775 : Int)
        have := Int.bmod_lt (x := x.toInt) (m := 256) (by decide)
        rw [hn]
        omega
    show aR (aNarB (.inr q)) (.int (vp_nar .byte x))
    unfold aNarB
    dsimp only
    split
    · next e1 =>
      split
      · next e2 =>
        have e1 := a_le e1
        have e2 := a_le e2
        have e3 : x.toInt.bmod 256 = x.toInt := by
          rw [Int.bmod_def]
          have : ((256 : Nat) : Int) = 256 := rfl
          split <;> omega
        exact ⟨_, rfl, by rw [hn, e3]; exact x1, by rw [hn, e3]; exact x2⟩
      · exact f
    · exact f
def aIsSn (hp : aH) : aV → Bool
  | .inl (.ref o) => (match aCell hp o with
    | some c => Nat.beq c.1 6
    | none => false)
  | _ => false
theorem aIsSn_s (h : aH) (ch : amH) (v : aV) (w : Value) (hh : aRh h ch) (hv : aR v w) (e : aIsSn h v = true) : amIsSn ch w = true := by
  unfold aIsSn at e
  split at e
  · next o =>
    cases hv
    split at e
    · next c ec =>
      obtain ⟨d, d1, d2⟩ := aCell_s hh ec
      have e3 : d.1 = 6 := by rw [← d2.1]; exact Nat.eq_of_beq_eq_true e
      simp [amIsSn, d1, e3]
    · cases e
  · cases e
def aKlen (pc : Nat) (sc : Option (List aV)) : aK := fun k ls st hp => match st with
  | .inl (.ref o) :: r => (match Nat.beq o 1999999 with
    | true => (match sc with
      | some l => (match Nat.ble l.length 100000 with
        | true => k pc ls (.inr (Nat.add l.length 2147483648, Nat.add l.length 2147483648) :: r) hp
        | false => false)
      | none => false)
    | false => (match aCell hp o with
      | some c => (match Nat.ble 32 c.1 with
        | true => (match Nat.ble c.1 35 with
          | true => (match Nat.ble c.2.1 100000 with
            | true => k pc ls (.inr (Nat.add c.2.1 2147483648, Nat.add c.2.1 2147483648) :: r) hp
            | false => false)
          | false => false)
        | false => false)
      | none => false))
  | _ => false
theorem a_ofNat {n : Nat} (h : n ≤ 100000) : aR (.inr (Nat.add n 2147483648, Nat.add n 2147483648)) (.int (Int32.ofNat n)) := by
  have e : (Int32.ofNat n).toInt = n := Int32.toInt_ofNat_of_lt (by omega)
  refine ⟨_, rfl, ?_, ?_⟩
  · show ((n + 2147483648 : Nat) : Int) ≤ _
    omega
  · show _ ≤ ((n + 2147483648 : Nat) : Int)
    omega
theorem aKlen_ok {pc : Nat} {sc' : Option (List aV)} {sc : Option (List Int32)} (hsc : aRsc sc' sc) : aKok (aKlen pc sc') (fun ls st hp => match amScLen sc st with
    | some s => some (pc, ls, s, hp)
    | none => (amLen hp st).map (fun s => (pc, ls, s, hp))) := by
  intro k ls st h cl cs ch e hl hs hh
  unfold aKlen at e
  split at e
  · next o r =>
    obtain ⟨w2, ws, rfl, hv2, hs1⟩ := aRs_cons hs
    cases hv2
    split at e
    · next eo =>
      have eo := Nat.eq_of_beq_eq_true eo
      subst eo
      split at e
      · next l =>
        split at e
        · next en =>
          cases sc with
          | none => cases hsc
          | some m =>
            have hlen : l.length = m.length := by have := aRs_len hsc; rwa [List.length_map] at this
            refine ⟨(pc, cl, .int (Int32.ofNat m.length) :: ws, ch), ls, _, h, ?_, e, hl, ⟨?_, hs1⟩, hh⟩
            · have key : amScLen (some m) (.ref 1999999 :: ws) = some (.int (Int32.ofNat m.length) :: ws) := by
                simp only [amScLen]
                exact if_pos rfl
              dsimp only
              rw [key]
            · rw [← hlen]
              exact a_ofNat (a_le en)
        · cases e
      · cases e
    · next eo =>
      split at e
      · next c ec =>
        split at e
        · next e1 =>
          split at e
          · next e2 =>
            split at e
            · next e3 =>
              obtain ⟨d, d1, d2⟩ := aCell_s hh ec
              have g1 := a_le e1
              have g2 := a_le e2
              rw [d2.1] at g1 g2
              refine ⟨(pc, cl, .int (Int32.ofNat d.2.length) :: ws, ch), ls, _, h, ?_, e, hl, ⟨?_, hs1⟩, hh⟩
              · have k1 : amScLen sc (.ref o :: ws) = none := by
                  unfold amScLen
                  dsimp only
                  split
                  · rw [if_neg (show ¬ o = amS from a_nbeq eo)]
                  · rfl
                dsimp only
                rw [k1]
                simp only [amLen, d1, g1, g2, and_self, if_true, Option.map_some]
              · rw [← d2.2.1]
                exact a_ofNat (a_le e3)
            · cases e
          · cases e
        · cases e
      · cases e
  · cases e
end
section
/-! ===== the abstract runs: all instructions that go on ===== -/
def aKdup (pc : Nat) : aK := fun k ls st hp => match st with
  | v :: r => (match Nat.beq (aCat v) 1 with
    | true => k pc ls (v :: v :: r) hp
    | false => false)
  | [] => false
theorem aKdup_ok {pc : Nat} {cf : amL → List Value → amH → Option amR} (h1 : ∀ ls v r hp, v.category = 1 → cf ls (v :: r) hp = some (pc, ls, v :: v :: r, hp)) : aKok (aKdup pc) cf := by
  intro k ls st h cl cs ch e hl hs hh
  unfold aKdup at e
  split at e
  · next v r =>
    obtain ⟨w, ws, rfl, hv, hs1⟩ := aRs_cons hs
    split at e
    · next e1 => exact ⟨_, ls, _, h, h1 _ _ _ _ (by rw [aR_cat hv]; exact Nat.eq_of_beq_eq_true e1), e, hl, ⟨hv, hv, hs1⟩, hh⟩
    · cases e
  · cases e
def aKpop (pc : Nat) : aK := fun k ls st hp => match st with
  | v :: r => (match Nat.beq (aCat v) 1 with
    | true => k pc ls r hp
    | false => false)
  | [] => false
theorem aKpop_ok {pc : Nat} {cf : amL → List Value → amH → Option amR} (h1 : ∀ ls v r hp, v.category = 1 → cf ls (v :: r) hp = some (pc, ls, r, hp)) : aKok (aKpop pc) cf := by
  intro k ls st h cl cs ch e hl hs hh
  unfold aKpop at e
  split at e
  · next v r =>
    obtain ⟨w, ws, rfl, hv, hs1⟩ := aRs_cons hs
    split at e
    · next e1 => exact ⟨_, ls, _, h, h1 _ _ _ _ (by rw [aR_cat hv]; exact Nat.eq_of_beq_eq_true e1), e, hl, hs1, hh⟩
    · cases e
  · cases e
def aKdup2 (pc : Nat) : aK := fun k ls st hp => match st with
  | v :: u :: r => (match Nat.beq (aCat v) 1 with
    | true => (match Nat.beq (aCat u) 1 with
      | true => k pc ls (v :: u :: v :: u :: r) hp
      | false => false)
    | false => false)
  | _ => false
theorem aKdup2_ok {pc : Nat} {cf : amL → List Value → amH → Option amR} (h1 : ∀ ls v u r hp, v.category = 1 ∧ u.category = 1 → cf ls (v :: u :: r) hp = some (pc, ls, v :: u :: v :: u :: r, hp)) : aKok (aKdup2 pc) cf := by
  intro k ls st h cl cs ch e hl hs hh
  unfold aKdup2 at e
  split at e
  · next v u r =>
    obtain ⟨w, ws, rfl, hv, hs1⟩ := aRs_cons hs
    obtain ⟨w2, ws, rfl, hu, hs2⟩ := aRs_cons hs1
    split at e
    · next e1 =>
      split at e
      · next e2 => exact ⟨_, ls, _, h, h1 _ _ _ _ _ ⟨by rw [aR_cat hv]; exact Nat.eq_of_beq_eq_true e1, by rw [aR_cat hu]; exact Nat.eq_of_beq_eq_true e2⟩, e, hl, ⟨hv, hu, hv, hu, hs2⟩, hh⟩
      · cases e
    · cases e
  · cases e
def aKxx (g : Value → Value → Option Value) (pc : Nat) : aK := fun k ls st hp => match st with
  | .inl y :: .inl x :: r => (match g x y with
    | some v => k pc ls (aOfV v :: r) hp
    | none => false)
  | _ => false
theorem aKxx_ok {pc : Nat} {g : Value → Value → Option Value} {cf : amL → List Value → amH → Option amR} (h1 : ∀ ls x y r hp v, g x y = some v → cf ls (y :: x :: r) hp = some (pc, ls, v :: r, hp)) : aKok (aKxx g pc) cf := by
  intro k ls st h cl cs ch e hl hs hh
  unfold aKxx at e
  split at e
  · next y x r =>
    obtain ⟨w, ws, rfl, hv, hs1⟩ := aRs_cons hs
    obtain ⟨w2, ws, rfl, hu, hs2⟩ := aRs_cons hs1
    cases hv
    cases hu
    split at e
    · next v e1 => exact ⟨_, ls, _, h, h1 _ _ _ _ _ _ e1, e, hl, ⟨aOfV_s v, hs2⟩, hh⟩
    · cases e
  · cases e
def aKx1 (g : Value → Option Value) (pc : Nat) : aK := fun k ls st hp => match st with
  | .inl y :: r => (match g y with
    | some v => k pc ls (aOfV v :: r) hp
    | none => false)
  | _ => false
theorem aKx1_ok {pc : Nat} {g : Value → Option Value} {cf : amL → List Value → amH → Option amR} (h1 : ∀ ls y r hp v, g y = some v → cf ls (y :: r) hp = some (pc, ls, v :: r, hp)) : aKok (aKx1 g pc) cf := by
  intro k ls st h cl cs ch e hl hs hh
  unfold aKx1 at e
  split at e
  · next y r =>
    obtain ⟨w, ws, rfl, hv, hs1⟩ := aRs_cons hs
    cases hv
    split at e
    · next v e1 => exact ⟨_, ls, _, h, h1 _ _ _ _ _ e1, e, hl, ⟨aOfV_s v, hs1⟩, hh⟩
    · cases e
  · cases e
def aFdiv : Value → Value → Option Value
  | .float x, .float y => if FP.fdiv x y &&& 0x7fffffff ≤ 0x7f800000 then some (.float (FP.fdiv x y)) else none
  | _, _ => none
def aDdiv : Value → Value → Option Value
  | .double x, .double y => if FP.ddiv x y &&& 0x7fffffffffffffff ≤ 0x7ff0000000000000 then some (.double (FP.ddiv x y)) else none
  | _, _ => none
def aDcmp (op : CmpOp) : Value → Value → Option Value
  | .double x, .double y => some (.int (Op.cmpValue (FP.dcmp x y) op))
  | _, _ => none
def aF2d : Value → Option Value
  | .float x => if FP.f2d x &&& 0x7fffffffffffffff ≤ 0x7ff0000000000000 then some (.double (FP.f2d x)) else none
  | _ => none
def aTr (sc : Option (List aV)) (nL : Nat) (i : Instr) (a b pc : Nat) : Option aK :=
  match i with
  | .iconst n => some (aKpush (pc + 1) (aOf (Int32.ofInt n)))
  | .bipush n => some (aKpush (pc + 2) (aOf (Int8.ofInt n).toInt32))
  | .sipush n => some (aKpush (pc + 3) (aOf (Int16.ofInt n).toInt32))
  | .lconst n => some (aKpush (pc + 1) (.inl (.long (Int64.ofNat (n : Nat)))))
  | .fconst n => if n = 0 then some (aKpush (pc + 1) (.inl (.float FP.fconst0))) else none
  | .dconst n => if n = 0 then some (aKpush (pc + 1) (.inl (.double FP.dconst0))) else none
  | .ldc _ => if b = 0 then some (aKpush (pc + 2) (aOf (Int32.ofNat a))) else some (aKpush (pc + 2) (.inl (.ref (amK + a))))
  | .ldc_w _ => if b = 0 then some (aKpush (pc + 3) (aOf (Int32.ofNat a))) else none
  | .ldc2_w _ => some (aKpush (pc + 3) (.inl (.long (Int64.ofNat a))))
  | .iload k => some (aKld (pc + 2) aIsI k)
  | .iload_n k => some (aKld (pc + 1) aIsI k)
  | .lload k => some (aKld (pc + 2) (aIs amIsJ) k)
  | .lload_n k => some (aKld (pc + 1) (aIs amIsJ) k)
  | .dload k => some (aKld (pc + 2) (aIs amIsD) k)
  | .dload_n k => some (aKld (pc + 1) (aIs amIsD) k)
  | .aload k => some (aKld (pc + 2) (aIs amIsA) k)
  | .aload_n k => some (aKld (pc + 1) (aIs amIsA) k)
  | .istore k => some (aKst1 (pc + 2) aIsI nL k)
  | .istore_n k => some (aKst1 (pc + 1) aIsI nL k)
  | .lstore k => some (aKst2 (pc + 2) (aIs amIsJ) nL k)
  | .lstore_n k => some (aKst2 (pc + 1) (aIs amIsJ) nL k)
  | .dstore k => some (aKst2 (pc + 2) (aIs amIsD) nL k)
  | .astore k => some (aKst1 (pc + 2) (aIs amIsA) nL k)
  | .astore_n k => some (aKst1 (pc + 1) (aIs amIsA) nL k)
  | .iinc k n => some (aKinc (pc + 3) nL k (aOff (Int32.ofInt n)))
  | .dup => some (aKdup (pc + 1))
  | .dup2 => some (aKdup2 (pc + 1))
  | .pop => some (aKpop (pc + 1))
  | .iadd => some (aKs (pc + 1) (aII aGadd))
  | .isub => some (aKs (pc + 1) (aII aGsub))
  | .imul => some (aKs (pc + 1) (aII (aGx (fun x y => x * y))))
  | .iand => some (aKs (pc + 1) (aII (aGor (aGx (fun x y => x &&& y)) aGand)))
  | .ior => some (aKs (pc + 1) (aII (aGx (fun x y => x ||| y))))
  | .ixor => some (aKs (pc + 1) (aII (aGor (aGx (fun x y => x ^^^ y)) aGxor)))
  | .ishl => some (aKs (pc + 1) (aII (aGx (fun x y => x <<< (y &&& 31)))))
  | .ishr => some (aKs (pc + 1) (aII (aGor (aGx (fun x y => x >>> (y &&& 31))) aGshr)))
  | .iushr => some (aKs (pc + 1) (aII (aGx (fun x y => (x.toUInt32 >>> (y.toUInt32 &&& Int32.toUInt32 31)).toInt32))))
  | .idiv => some (aKs (pc + 1) (aDv (fun x y => x / y)))
  | .irem => some (aKrem (pc + 1))
  | .ineg => some (aKs (pc + 1) (aI1 (fun x => .int (-x))))
  | .i2b => some (aKs (pc + 1) aI2b)
  | .i2l => some (aKs (pc + 1) (aI1 (fun x => .long x.toInt64)))
  | .i2f => some (aKs (pc + 1) (aI1 (fun x => .float (FP.i2f x))))
  | .i2d => some (aKs (pc + 1) (aI1 (fun x => .double (FP.i2d x))))
  | .l2i => some (aKs (pc + 1) (aJ1 (fun x => .int x.toInt32)))
  | .lneg => some (aKs (pc + 1) (aJ1 (fun x => .long (-x))))
  | .ladd => some (aKs (pc + 1) (aLL (fun x y => .long (x + y))))
  | .lsub => some (aKs (pc + 1) (aLL (fun x y => .long (x - y))))
  | .land => some (aKs (pc + 1) (aLL (fun x y => .long (x &&& y))))
  | .lor => some (aKs (pc + 1) (aLL (fun x y => .long (x ||| y))))
  | .lcmp => some (aKs (pc + 1) (aLL (fun x y => .int (lg_cmp x y))))
  | .lshl => some (aKs (pc + 1) (aLI (fun x y => x <<< (y.toInt64 &&& 63))))
  | .lshr => some (aKs (pc + 1) (aLI (fun x y => x >>> (y.toInt64 &&& 63))))
  | .lushr => some (aKs (pc + 1) (aLI (fun x y => (x.toUInt64 >>> (y.toInt64.toUInt64 &&& Int64.toUInt64 63)).toInt64)))
  | .fdiv => some (aKxx aFdiv (pc + 1))
  | .ddiv => some (aKxx aDdiv (pc + 1))
  | .f2d => some (aKx1 aF2d (pc + 1))
  | .dcmp op => some (aKxx (aDcmp op) (pc + 1))
  | .goto _ => some (aKgo a)
  | .ifCond c _ => some (aKif c a (pc + 3))
  | .if_icmp c _ => some (aKcmp c a (pc + 3))
  | .ifnull _ => some (aKnull a (pc + 3))
  | .ifnonnull _ => some (aKnull (pc + 3) a)
  | .tableswitch d lo hi offs => some (aKtab pc d lo hi offs)
  | .getfield _ => if a < 32 then some (aKget (pc + 3) a b) else none
  | .putfield _ => if a < 32 then some (aKput (pc + 3) a b (amFty a b)) else none
  | .iaload => some (aKald (pc + 1) 32 aIsI sc)
  | .laload => some (aKald (pc + 1) 33 (aIs amIsJ) none)
  | .baload => some (aKald (pc + 1) 34 aIsI none)
  | .aaload => some (aKald (pc + 1) 35 (aIs amIsA) none)
  | .iastore => some (aKast (pc + 1) 32 (fun _ v => aIsI v) id)
  | .lastore => some (aKast (pc + 1) 33 (fun _ v => aIs amIsJ v) id)
  | .bastore => some (aKast (pc + 1) 34 (fun _ v => aIsI v) aNarB)
  | .aastore => some (aKast (pc + 1) 35 aIsSn id)
  | .arraylength => some (aKlen (pc + 1) sc)
  | _ => none
theorem aTr_ok {sc' : Option (List aV)} {sc : Option (List Int32)} (hsc : aRsc sc' sc) {nL : Nat} {i : Instr} {a b pc : Nat} {act : aK} (h : aTr sc' nL i a b pc = some act) : aKok act (amStep sc nL i a b pc) := by
  cases i
  case iconst n => cases h; exact aKpush_ok (aOf_s _)
  case bipush n => cases h; exact aKpush_ok (aOf_s _)
  case sipush n => cases h; exact aKpush_ok (aOf_s _)
  case lconst n => cases h; exact aKpush_ok rfl
  case fconst n =>
    simp only [aTr] at h
    split at h
    · next e => cases h; subst e; exact aKpush_ok rfl
    · cases h
  case dconst n =>
    simp only [aTr] at h
    split at h
    · next e => cases h; subst e; exact aKpush_ok rfl
    · cases h
  case ldc n =>
    simp only [aTr] at h
    split at h
    · next e => cases h; subst e; exact aKpush_ok (aOf_s _)
    · next e =>
      cases h
      have : amStep sc nL (.ldc n) a b pc = fun ls st hp => some (pc + 2, ls, .ref (amK + a) :: st, hp) := by
        funext ls st hp
        simp only [amStep, if_neg e]
      rw [this]
      exact aKpush_ok rfl
  case ldc_w n =>
    simp only [aTr] at h
    split at h
    · next e => cases h; subst e; exact aKpush_ok (aOf_s _)
    · cases h
  case ldc2_w n => cases h; exact aKpush_ok rfl
  case iload k => cases h; exact aKld_ok aIsI_ok
  case iload_n k => cases h; exact aKld_ok aIsI_ok
  case lload k => cases h; exact aKld_ok (aIs_ok _)
  case lload_n k => cases h; exact aKld_ok (aIs_ok _)
  case dload k => cases h; exact aKld_ok (aIs_ok _)
  case dload_n k => cases h; exact aKld_ok (aIs_ok _)
  case aload k => cases h; exact aKld_ok (aIs_ok _)
  case aload_n k => cases h; exact aKld_ok (aIs_ok _)
  case istore k => cases h; exact aKst1_ok aIsI_ok
  case istore_n k => cases h; exact aKst1_ok aIsI_ok
  case lstore k => cases h; exact aKst2_ok (aIs_ok _)
  case lstore_n k => cases h; exact aKst2_ok (aIs_ok _)
  case dstore k => cases h; exact aKst2_ok (aIs_ok _)
  case astore k => cases h; exact aKst1_ok (aIs_ok _)
  case astore_n k => cases h; exact aKst1_ok (aIs_ok _)
  case iinc k n => cases h; exact aKinc_ok
  case dup => cases h; exact aKdup_ok (fun ls v r hp e => by simp only [amStep, if_pos e])
  case dup2 => cases h; exact aKdup2_ok (fun ls v u r hp e => by simp only [amStep, if_pos e])
  case pop => cases h; exact aKpop_ok (fun ls v r hp e => by simp only [amStep, if_pos e])
  case iadd => cases h; exact aKs_ok (aII_ok aGadd_ok)
  case isub => cases h; exact aKs_ok (aII_ok aGsub_ok)
  case imul => cases h; exact aKs_ok (aII_ok (aGx_ok _))
  case iand => cases h; exact aKs_ok (aII_ok (aGor_ok (aGx_ok _) aGand_ok))
  case ior => cases h; exact aKs_ok (aII_ok (aGx_ok _))
  case ixor => cases h; exact aKs_ok (aII_ok (aGor_ok (aGx_ok _) aGxor_ok))
  case ishl => cases h; exact aKs_ok (aII_ok (aGx_ok _))
  case ishr => cases h; exact aKs_ok (aII_ok (aGor_ok (aGx_ok _) aGshr_ok))
  case iushr => cases h; exact aKs_ok (aII_ok (aGx_ok _))
  case idiv => cases h; exact aKs_ok aDv_ok
  case irem => cases h; exact aKrem_ok
  case ineg => cases h; exact aKs_ok aI1_ok
  case i2b => cases h; exact aKs_ok aI2b_ok
  case i2l => cases h; exact aKs_ok aI1_ok
  case i2f => cases h; exact aKs_ok aI1_ok
  case i2d => cases h; exact aKs_ok aI1_ok
  case l2i => cases h; exact aKs_ok aJ1_ok
  case lneg => cases h; exact aKs_ok aJ1_ok
  case ladd => cases h; exact aKs_ok aLL_ok
  case lsub => cases h; exact aKs_ok aLL_ok
  case land => cases h; exact aKs_ok aLL_ok
  case lor => cases h; exact aKs_ok aLL_ok
  case lcmp => cases h; exact aKs_ok aLL_ok
  case lshl => cases h; exact aKs_ok aLI_ok
  case lshr => cases h; exact aKs_ok aLI_ok
  case lushr => cases h; exact aKs_ok aLI_ok
  case fdiv =>
    cases h
    refine aKxx_ok (fun ls x y r hp v e => ?_)
    unfold aFdiv at e
    split at e
    · split at e
      · next e1 => cases e; simp only [amStep, if_pos e1]
      · cases e
    · cases e
  case ddiv =>
    cases h
    refine aKxx_ok (fun ls x y r hp v e => ?_)
    unfold aDdiv at e
    split at e
    · split at e
      · next e1 => cases e; simp only [amStep, if_pos e1]
      · cases e
    · cases e
  case f2d =>
    cases h
    refine aKx1_ok (fun ls y r hp v e => ?_)
    unfold aF2d at e
    split at e
    · split at e
      · next e1 => cases e; simp only [amStep, if_pos e1]
      · cases e
    · cases e
  case dcmp op =>
    cases h
    refine aKxx_ok (fun ls x y r hp v e => ?_)
    unfold aDcmp at e
    split at e
    · cases e; rfl
    · cases e
  case goto o => cases h; exact aKgo_ok
  case ifCond c o => cases h; exact aKif_ok
  case if_icmp c o => cases h; exact aKcmp_ok
  case ifnull o => cases h; exact aKnull_ok1 (fun ls o r hp => rfl) (fun ls r hp => rfl)
  case ifnonnull o => cases h; exact aKnull_ok1 (fun ls o r hp => rfl) (fun ls r hp => rfl)
  case tableswitch d lo hi offs => cases h; exact aKtab_ok
  case getfield o =>
    simp only [aTr] at h
    split at h
    · next e => cases h; exact aKget_ok e
    · cases h
  case putfield o =>
    simp only [aTr] at h
    split at h
    · next e => cases h; exact aKput_ok e
    · cases h
  case iaload => cases h; exact aKald_okI hsc
  case laload => cases h; exact aKald_ok (aIs_ok _)
  case baload => cases h; exact aKald_ok aIsI_ok
  case aaload => cases h; exact aKald_ok (aIs_ok _)
  case iastore => cases h; exact aKast_ok (p' := fun _ => amIsI) (fun h ch v w _ hv e => aIsI_ok v w hv e) (fun v w h => h)
  case lastore => cases h; exact aKast_ok (p' := fun _ => amIsJ) (fun h ch v w _ hv e => aIs_ok _ v w hv e) (fun v w h => h)
  case bastore => cases h; exact aKast_ok (p' := fun _ => amIsI) (fun h ch v w _ hv e => aIsI_ok v w hv e) (fun v w h => aNarB_s h)
  case aastore => cases h; exact aKast_ok (p' := amIsSn) aIsSn_s (fun v w h => h)
  case arraylength => cases h; exact aKlen_ok hsc
  all_goals (cases h)
end
section
/-! ===== the abstract runs: making, calling, ending ===== -/
def lAll {α : Type} (p : α → Bool) : List α → Bool
  | [] => true
  | v :: r => match p v with
    | true => lAll p r
    | false => false
theorem lAll_s {α : Type} {p : α → Bool} : ∀ {l : List α} {i : Nat} {v : α}, lAll p l = true → lAt l i = some v → p v = true
  | [], _, _, _, h => by simp [lAt] at h
  | a :: r, 0, v, h, e => by
    simp only [lAt, Option.some.injEq] at e
    subst e
    unfold lAll at h
    split at h
    · next h1 => exact h1
    · cases h
  | a :: r, i + 1, v, h, e => by
    unfold lAll at h
    split at h
    · exact lAll_s h e
    · cases h
theorem cAll_s {α : Type} {p : α → Bool} : ∀ {l : List (List α)} {i : Nat} {v : α}, lAll (lAll p) l = true → cGet l i = some v → p v = true
  | [], _, _, _, h => by cases h
  | a :: r, i, v, h, e => by
    unfold lAll at h
    split at h
    · next h1 =>
      unfold cGet at e
      split at e
      · exact lAll_s h1 e
      · exact cAll_s h e
    · cases h
def aOk (n : Nat) : aV → Bool
  | .inr _ => true
  | .inl (.ref i) => (match Nat.ble (Nat.add i 1) n with
    | true => true
    | false => Nat.ble 1000000 i)
  | .inl _ => true
theorem aOk_s {n : Nat} {v : aV} {w : Value} (h : aOk n v = true) (hv : aR v w) : amOk n w = true := by
  cases v with
  | inr q => obtain ⟨x, rfl, -⟩ := hv; rfl
  | inl v =>
    cases hv
    cases w <;> first | rfl | skip
    next i =>
      simp only [aOk] at h
      simp only [amOk, Bool.or_eq_true, decide_eq_true_eq]
      split at h
      · next e => exact Or.inl (a_lt1 e)
      · next e => exact Or.inr (a_le h)
def aOkO (n : Nat) : Option aV → Bool
  | some v => aOk n v
  | none => true
theorem aOkL_s {n : Nat} {ls : aL} {cl : amL} (h : lAll (aOkO n) ls = true) (hl : aRl ls cl) : amOkL n cl = true := by
  refine List.all_eq_true.mpr (fun q hq => ?_)
  obtain ⟨v, e1, e2⟩ := hl.2 q hq
  unfold lGet at e1
  split at e1
  · next o eo =>
    subst e1
    exact aOk_s (lAll_s h eo : aOkO n (some v) = true) e2
  · cases e1
theorem aOkS_s {n : Nat} : ∀ {st : List aV} {cs : List Value}, lAll (aOk n) st = true → aRs st cs → amOkS n cs = true
  | [], [], _, _ => rfl
  | v :: st, w :: cs, h, hs => by
    unfold lAll at h
    split at h
    · next e =>
      have := aOkS_s h hs.2
      simp only [amOkS, List.all_cons, Bool.and_eq_true] at this ⊢
      exact ⟨aOk_s e hs.1, this⟩
    · cases h
  | [], _ :: _, _, h => by cases h
  | _ :: _, [], _, h => by cases h
def aOkC (n : Nat) (c : aC) : Bool := match Nat.ble 32 c.1 with
  | true => (match Nat.ble c.1 34 with
    | true => true
    | false => lAll (lAll (aOk n)) c.2.2)
  | false => lAll (lAll (aOk n)) c.2.2
theorem aOkC_s {n : Nat} {c : aC} {d : amC} (h : aOkC n c = true) (hc : aRc c d) : ((decide (32 ≤ d.1) && decide (d.1 ≤ 34)) || d.2.all (amOk n)) = true := by
  have key : lAll (lAll (aOk n)) c.2.2 = true → d.2.all (amOk n) = true := by
    intro h
    refine List.all_eq_true.mpr (fun w hw => ?_)
    obtain ⟨i, hi, e⟩ := List.getElem_of_mem hw
    have e1 := hc.2.2 i
    rw [List.getElem?_eq_getElem hi, e] at e1
    cases e2 : cGet c.2.2 i with
    | none => rw [e2] at e1; cases e1
    | some v => rw [e2] at e1; exact aOk_s (cAll_s h e2) e1
  unfold aOkC at h
  rw [Bool.or_eq_true]
  split at h
  · next e1 =>
    split at h
    · next e2 =>
      left
      rw [Bool.and_eq_true, decide_eq_true_eq, decide_eq_true_eq, ← hc.1]
      exact ⟨a_le e1, a_le e2⟩
    · exact Or.inr (key h)
  · exact Or.inr (key h)
theorem aOkH_s {n : Nat} {h : aH} {ch : amH} (hk : lAll (lAll (aOkC n)) h.2 = true) (hh : aRh h ch) : amOkH n ch = true := by
  refine List.all_eq_true.mpr (fun d hd => ?_)
  obtain ⟨i, hi, e⟩ := List.getElem_of_mem hd
  obtain ⟨c, d', e1, e2, e3⟩ := hh.2 i hi
  rw [List.getElem?_eq_getElem hi, e] at e2
  cases e2
  exact aOkC_s (cAll_s hk e1) e3
abbrev aMk : Type := (Nat → aL → List aV → aH → Nat → Nat → Bool) → aL → List aV → aH → Bool
def aMok (act : aMk) (cf : amL → List Value → amH → Option amAct) : Prop :=
  ∀ (k : Nat → aL → List aV → aH → Nat → Nat → Bool) (ls : aL) (st : List aV) (hp : aH) (cl : amL) (cs : List Value) (ch : amH), act k ls st hp = true → aRl ls cl → aRs st cs → aRh hp ch →
    ∃ (r : amR) (dk ds : Nat) (ls' : aL) (st' : List aV) (hp' : aH), cf cl cs ch = some (.inl (r, dk, ds)) ∧ k r.1 ls' st' hp' dk ds = true ∧ aRl ls' r.2.1 ∧ aRs st' r.2.2.1 ∧ aRh hp' r.2.2.2
def aMake (pc : Nat) (k : Nat → aL → List aV → aH → Nat → Nat → Bool) (ls : aL) (r : List aV) (hp : aH) (c : aC) : Bool :=
  match lAll (aOkO hp.1) ls with
  | true => (match lAll (aOk hp.1) r with
    | true => (match lAll (lAll (aOkC hp.1)) hp.2 with
      | true => (match Nat.ble (Nat.add hp.1 1) 1000000 with
        | true => (match aNewH hp c with
          | some h1 => k pc ls (.inl (.ref hp.1) :: r) h1 1 c.2.1
          | none => false)
        | false => false)
      | false => false)
    | false => false)
  | false => false
theorem aMake_s {pc : Nat} {k : Nat → aL → List aV → aH → Nat → Nat → Bool} {ls : aL} {r : List aV} {hp : aH} {c : aC} {cl : amL} {cr : List Value} {ch : amH} {d : amC} (e : aMake pc k ls r hp c = true) (hl : aRl ls cl) (hr : aRs r cr) (hh : aRh hp ch) (hc : aRc c d) :
    ∃ (z : amR) (dk ds : Nat) (ls' : aL) (st' : List aV) (hp' : aH), amMake pc cl cr ch d = some (.inl (z, dk, ds)) ∧ k z.1 ls' st' hp' dk ds = true ∧ aRl ls' z.2.1 ∧ aRs st' z.2.2.1 ∧ aRh hp' z.2.2.2 := by
  unfold aMake at e
  split at e
  · next e1 =>
    split at e
    · next e2 =>
      split at e
      · next e3 =>
        split at e
        · next e4 =>
          split at e
          · next h1 e5 =>
            have g4 := a_lt1 e4
            rw [hh.1] at e1 e2 e3 g4
            rw [hc.2.1, hh.1] at e
            refine ⟨(pc, cl, .ref ch.length :: cr, ch ++ [d]), 1, d.2.length, ls, .inl (.ref ch.length) :: r, h1, ?_, e, hl, ⟨rfl, hr⟩, aNewH_s hh e5 hc⟩
            unfold amMake
            rw [aOkL_s e1 hl, aOkS_s e2 hr, aOkH_s e3 hh, decide_eq_true (show ch.length < amK from g4)]
            rfl
          · cases e
        · cases e
      · cases e
    · cases e
  · cases e
theorem aMk_map {l : List Value} {k : Nat} (h : l.length ≤ 16 * k) (j : Nat) : aRo (cGet (cMk k (l.map aOfV)) j) (l[j]?) := by
  rw [cMk_s k _ j (by rw [List.length_map]; exact h), List.getElem?_map]
  cases l[j]? with
  | none => trivial
  | some v => exact aOfV_s v
def aMnew (pc a : Nat) : aMk := fun k ls st hp => match Nat.ble (amDef a).length 128 with
  | true => aMake pc k ls st hp (a, (amDef a).length, cMk 8 ((amDef a).map aOfV))
  | false => false
theorem aMnew_ok {pc a : Nat} : aMok (aMnew pc a) (fun ls st hp => amMake pc ls st hp (a, amDef a)) := by
  intro k ls st h cl cs ch e hl hs hh
  unfold aMnew at e
  split at e
  · next e1 => exact aMake_s e hl hs hh ⟨rfl, rfl, fun j => aMk_map (by have := a_le e1; omega) j⟩
  · cases e
def aMarr (pc : Nat) (kd : Option (Nat × Value)) : aMk := fun k ls st hp => match st with
  | .inr q :: r => (match kd with
    | some (t, v) => (match aIdx q with
      | some n => (match Nat.ble n 8192 with
        | true => aMake pc k ls r hp (t, n, cMk (n / 16 + 1) (List.replicate n (aOfV v)))
        | false => false)
      | none => false)
    | none => false)
  | _ => false
theorem aMarr_ok {pc : Nat} {kd : Option (Nat × Value)} : aMok (aMarr pc kd) (fun ls st hp => amMakeA pc ls hp kd st) := by
  intro k ls st h cl cs ch e hl hs hh
  unfold aMarr at e
  split at e
  · next q r =>
    obtain ⟨w, ws, rfl, ⟨x, rfl, hx⟩, hs1⟩ := aRs_cons hs
    split at e
    · next t v =>
      split at e
      · next n en =>
        split at e
        · next e1 =>
          have g1 := a_le e1
          obtain ⟨i1, i2⟩ := aIdx_s (m := n + 1) en hx
          have i3 := (amIn_s (i2 (Nat.lt_succ_self n)))
          have i4 : ¬ x < 0 := fun z => of_decide_eq_true (i2 (Nat.lt_succ_self n)) (Or.inl z)
          obtain ⟨z, dk, ds, ls', st', hp', m1, m2⟩ := aMake_s (d := (t, List.replicate n v)) e hl hs1 hh ⟨rfl, by simp, fun j => by
            have := aMk_map (l := List.replicate n v) (k := n / 16 + 1) (by rw [List.length_replicate]; omega) j
            rwa [List.map_replicate] at this⟩
          refine ⟨z, dk, ds, ls', st', hp', ?_, m2⟩
          dsimp only
          simp only [amMakeA, i1]
          rw [if_pos ⟨i4, by omega⟩]
          exact m1
        · cases e
      · cases e
    · cases e
  · cases e
def aBld (g : Nat → Option aV) : Nat → List aV → Option (List aV)
  | 0, acc => some acc
  | n + 1, acc => match g n with
    | some v => aBld g n (v :: acc)
    | none => none
theorem aBld_s {g : Nat → Option aV} : ∀ {n : Nat} {acc l : List aV}, aBld g n acc = some l → l.length = n + acc.length ∧ (∀ j, j < n → ∃ v, g j = some v ∧ l[j]? = some v) ∧ ∀ j, l[n + j]? = acc[j]?
  | 0, acc, l, h => by
    cases h
    exact ⟨by omega, fun j hj => absurd hj (Nat.not_lt_zero _), fun j => by rw [Nat.zero_add]⟩
  | n + 1, acc, l, h => by
    unfold aBld at h
    split at h
    · next v e =>
      obtain ⟨h1, h2, h3⟩ := aBld_s h
      refine ⟨by rw [h1, List.length_cons]; omega, fun j hj => ?_, fun j => ?_⟩
      · by_cases z : j = n
        · subst z
          have := h3 0
          exact ⟨v, e, by simpa using this⟩
        · exact h2 j (by omega)
      · have := h3 (j + 1)
        rw [show n + 1 + j = n + (j + 1) by omega, this, List.getElem?_cons_succ]
    · cases h
def aKcopy (pc : Nat) : aK := fun k ls st hp => match st with
  | .inr qn :: .inr qd :: .inl (.ref a) :: .inr qs :: .inl (.ref a0) :: r => (match aIdx qn with
    | some n => (match aIdx qd with
      | some dp => (match aIdx qs with
        | some sp => (match aCell hp a0 with
          | some c0 => (match aCell hp a with
            | some c1 => if c0.1 = 32 ∧ c1.1 = 32 ∧ sp + n ≤ c0.2.1 ∧ dp + n ≤ c1.2.1 ∧ aCs r ≤ 8 then
                (match aBld (fun j => if dp ≤ j ∧ j < dp + n then cGet c0.2.2 (sp + (j - dp)) else cGet c1.2.2 j) c1.2.1 [] with
                | some l => (match aPutH hp a (32, c1.2.1, cMk (c1.2.1 / 16 + 1) l) with
                  | some h1 => k pc ls r h1
                  | none => false)
                | none => false) else false
            | none => false)
          | none => false)
        | none => false)
      | none => false)
    | none => false)
  | _ => false
theorem aKcopy_ok {pc : Nat} {cf : amL → List Value → amH → Option amR} (hcf : ∀ ls st hp r, amCopy pc ls hp st = some (.inl (r, 0, 0)) → cf ls st hp = some r) : aKok (aKcopy pc) cf := by
  intro k ls st h cl cs ch e hl hs hh
  unfold aKcopy at e
  split at e
  · next qn qd a qs a0 r =>
    obtain ⟨w, ws, rfl, ⟨xn, rfl, hxn⟩, hs1⟩ := aRs_cons hs
    obtain ⟨w1, ws, rfl, ⟨xd, rfl, hxd⟩, hs2⟩ := aRs_cons hs1
    obtain ⟨w2, ws, rfl, hv2, hs3⟩ := aRs_cons hs2
    obtain ⟨w3, ws, rfl, ⟨xs, rfl, hxs⟩, hs4⟩ := aRs_cons hs3
    obtain ⟨w4, ws, rfl, hv4, hs5⟩ := aRs_cons hs4
    cases hv2
    cases hv4
    split at e
    · next n en =>
      split at e
      · next dp ed =>
        split at e
        · next sp es =>
          split at e
          · next c0 ec0 =>
            split at e
            · next c1 ec1 =>
              split at e
              · next ck =>
                split at e
                · next l el =>
                  split at e
                  · next h1 eh =>
                    obtain ⟨k1, k2, k3, k4, k5⟩ := ck
                    obtain ⟨d0, d01, d02⟩ := aCell_s hh ec0
                    obtain ⟨d1, d11, d12⟩ := aCell_s hh ec1
                    obtain ⟨n1, n2⟩ := aIdx_s (m := n + 1) en hxn
                    obtain ⟨p1, p2⟩ := aIdx_s (m := dp + 1) ed hxd
                    obtain ⟨s1, s2⟩ := aIdx_s (m := sp + 1) es hxs
                    have n3 : ¬ xn < 0 := fun z => of_decide_eq_true (n2 (Nat.lt_succ_self n)) (Or.inl z)
                    have p3 : ¬ xd < 0 := fun z => of_decide_eq_true (p2 (Nat.lt_succ_self dp)) (Or.inl z)
                    have s3 : ¬ xs < 0 := fun z => of_decide_eq_true (s2 (Nat.lt_succ_self sp)) (Or.inl z)
                    obtain ⟨b1, b2, b3⟩ := aBld_s el
                    have hl0 : c0.2.1 = d0.2.length := d02.2.1
                    have hl1 : c1.2.1 = d1.2.length := d12.2.1
                    have b1 : l.length = c1.2.1 := b1
                    have hlen : (d1.2.take dp ++ ((d0.2.drop sp).take n ++ d1.2.drop (dp + n))).length = d1.2.length := by
                      simp only [List.length_append, List.length_take, List.length_drop]
                      omega
                    have hc : aRc (32, c1.2.1, cMk (c1.2.1 / 16 + 1) l) (32, d1.2.take dp ++ ((d0.2.drop sp).take n ++ d1.2.drop (dp + n))) := by
                      refine ⟨rfl, by rw [hlen]; exact hl1, fun j => ?_⟩
                      dsimp only
                      rw [cMk_s _ l j (by omega)]
                      by_cases hj : j < c1.2.1
                      · obtain ⟨v, v1, v2⟩ := b2 j hj
                        rw [v2]
                        split at v1
                        · next g =>
                          obtain ⟨w, w1, w2⟩ := aRc_get d02 v1
                          have : (d1.2.take dp ++ ((d0.2.drop sp).take n ++ d1.2.drop (dp + n)))[j]? = some w := by
                            rw [List.getElem?_append_right (by rw [List.length_take]; omega), List.length_take, Nat.min_eq_left (by omega), List.getElem?_append_left (by rw [List.length_take, List.length_drop]; omega), List.getElem?_take, if_pos (by omega), List.getElem?_drop]
                            exact w1
                          rw [this]
                          exact w2
                        · next g =>
                          obtain ⟨w, w1, w2⟩ := aRc_get d12 v1
                          have : (d1.2.take dp ++ ((d0.2.drop sp).take n ++ d1.2.drop (dp + n)))[j]? = some w := by
                            by_cases gj : j < dp
                            · rw [List.getElem?_append_left (by rw [List.length_take]; omega), List.getElem?_take, if_pos gj]
                              exact w1
                            · rw [List.getElem?_append_right (by rw [List.length_take]; omega), List.length_take, Nat.min_eq_left (by omega), List.getElem?_append_right (by rw [List.length_take, List.length_drop]; omega), List.length_take, List.length_drop, List.getElem?_drop, Nat.min_eq_left (by omega)]
                              rw [show dp + n + (j - dp - n) = j by omega]
                              exact w1
                          rw [this]
                          exact w2
                      · rw [List.getElem?_eq_none (by omega), List.getElem?_eq_none (by omega)]
                        trivial
                    refine ⟨(pc, cl, ws, ch.set a (32, d1.2.take dp ++ ((d0.2.drop sp).take n ++ d1.2.drop (dp + n)))), ls, r, h1, hcf _ _ _ _ ?_, e, hl, hs5, aPutH_s hh eh hc⟩
                    simp only [amCopy, d01, d11, n1, p1, s1]
                    rw [if_pos ⟨by rw [← d02.1]; exact k1, by rw [← d12.1]; exact k2, s3, p3, n3, by omega, by omega, by rw [aRs_cat hs5]; exact k5⟩]
                  · cases e
                · cases e
              · cases e
            · cases e
          · cases e
        · cases e
      · cases e
    · cases e
  · cases e
def aKobj (pc : Nat) : aK := fun k ls st hp => match st with
  | .inl (.ref _) :: r => (match Nat.ble (aCs r) 8 with
    | true => k pc ls r hp
    | false => false)
  | _ => false
theorem aKobj_ok {pc : Nat} {cf : amL → List Value → amH → Option amR} (hcf : ∀ ls st hp r, amObj pc ls hp st = some (.inl (r, 0, 0)) → cf ls st hp = some r) : aKok (aKobj pc) cf := by
  intro k ls st h cl cs ch e hl hs hh
  unfold aKobj at e
  split at e
  · next o r =>
    obtain ⟨w, ws, rfl, hv, hs1⟩ := aRs_cons hs
    cases hv
    split at e
    · next e1 =>
      refine ⟨(pc, cl, ws, ch), ls, r, h, hcf _ _ _ _ ?_, e, hl, hs1, hh⟩
      simp only [amObj]
      rw [if_pos (by rw [aRs_cat hs1]; exact a_le e1)]
    · cases e
  · cases e
def aRetI (ret : Option FieldType) : List aV → Option (Option aV)
  | [.inr q] => (match ret with
    | some ty => (match aFits ty (.inr q) with
      | true => some (some (.inr q))
      | false => none)
    | none => none)
  | _ => none
def aRetJ (ret : Option FieldType) : List aV → Option (Option aV)
  | [.inl (.long x)] => (match ret with
    | some .long => some (some (.inl (.long x)))
    | _ => none)
  | _ => none
def aRetF (ret : Option FieldType) : List aV → Option (Option aV)
  | [.inl (.float x)] => (match ret with
    | some .float => some (some (.inl (.float x)))
    | _ => none)
  | _ => none
def aRetD (ret : Option FieldType) : List aV → Option (Option aV)
  | [.inl (.double x)] => (match ret with
    | some .double => some (some (.inl (.double x)))
    | _ => none)
  | _ => none
def aRetN (ret : Option FieldType) : List aV → Option (Option aV)
  | [] => (match ret with
    | none => some none
    | some _ => none)
  | _ => none
def aTok (rt : List aV → Option (Option aV)) (cg : List Value → Option (Option Value)) : Prop := ∀ (st : List aV) (cs : List Value) (v : Option aV), rt st = some v → aRs st cs → ∃ w, cg cs = some w ∧ aRo v w
theorem aRetI_ok {ret : Option FieldType} : aTok (aRetI ret) (amRetV ret .ireturn) := by
  intro st cs v h hs
  unfold aRetI at h
  split at h
  · next q =>
    obtain ⟨w, ws, rfl, hv, hs1⟩ := aRs_cons hs
    cases aRs_nil hs1
    split at h
    · next ty =>
      split at h
      · next ef =>
        cases h
        obtain ⟨f1, -⟩ := aFits_s ef hv
        have hv0 := hv
        obtain ⟨x, rfl, -⟩ := hv
        exact ⟨some (.int x), by simp only [amRetV, f1, if_true], hv0⟩
      · cases h
    · cases h
  · cases h
theorem aRetJ_ok {ret : Option FieldType} : aTok (aRetJ ret) (amRetV ret .lreturn) := by
  intro st cs v h hs
  unfold aRetJ at h
  split at h
  · next q =>
    obtain ⟨w, ws, rfl, hv, hs1⟩ := aRs_cons hs
    cases aRs_nil hs1
    cases hv
    split at h
    · cases h; exact ⟨_, rfl, rfl⟩
    · cases h
  · cases h
theorem aRetF_ok {ret : Option FieldType} : aTok (aRetF ret) (amRetV ret .freturn) := by
  intro st cs v h hs
  unfold aRetF at h
  split at h
  · next q =>
    obtain ⟨w, ws, rfl, hv, hs1⟩ := aRs_cons hs
    cases aRs_nil hs1
    cases hv
    split at h
    · cases h; exact ⟨_, rfl, rfl⟩
    · cases h
  · cases h
theorem aRetD_ok {ret : Option FieldType} : aTok (aRetD ret) (amRetV ret .dreturn) := by
  intro st cs v h hs
  unfold aRetD at h
  split at h
  · next q =>
    obtain ⟨w, ws, rfl, hv, hs1⟩ := aRs_cons hs
    cases aRs_nil hs1
    cases hv
    split at h
    · cases h; exact ⟨_, rfl, rfl⟩
    · cases h
  · cases h
theorem aRetN_ok {ret : Option FieldType} : aTok (aRetN ret) (amRetV ret .return_) := by
  intro st cs v h hs
  unfold aRetN at h
  split at h
  · cases aRs_nil hs
    split at h
    · cases h; exact ⟨_, rfl, trivial⟩
    · cases h
  · cases h
end
section
/-! ===== the abstract runs ===== -/
abbrev aX : Type := Option aV ⊕ Nat
def aRx : aX → (Option Value ⊕ Nat) → Prop
  | .inl v, .inl w => aRo v w
  | .inr E, .inr E' => E = E'
  | _, _ => False
abbrev aAct : Type := aK ⊕ aMk ⊕ (List aV → Option (Option aV)) ⊕ Nat ⊕ (Nat × Nat)
def aSp : Instr → Bool
  | .new _ => true
  | .newarray _ => true
  | .anewarray _ => true
  | .invokevirtual _ => true
  | .invokestatic _ => true
  | .invokespecial _ => true
  | .ireturn => true
  | .lreturn => true
  | .freturn => true
  | .dreturn => true
  | .return_ => true
  | _ => false
def aDoS (M : amM) (i : Instr) (a b pc : Nat) : Option aAct := match i with
  | .new _ => if b = 0 then some (.inr (.inl (aMnew (pc + 3) a))) else (match M.2.2.2.2.2.1 with
    | [] => some (.inr (.inr (.inr (.inl a))))
    | _ :: _ => none)
  | .newarray t => some (.inr (.inl (aMarr (pc + 2) (amKind t))))
  | .anewarray _ => some (.inr (.inl (aMarr (pc + 3) (some (35, .null)))))
  | .invokevirtual _ => some (.inr (.inr (.inr (.inr (a, 0)))))
  | .invokestatic _ => if b = 6 then some (.inl (aKcopy (pc + 3))) else some (.inr (.inr (.inr (.inr (a, 1)))))
  | .invokespecial _ => if b = 5 then some (.inl (aKobj (pc + 3))) else some (.inr (.inr (.inr (.inr (a, 2)))))
  | .ireturn => some (.inr (.inr (.inl (aRetI M.2.2.2.2.1))))
  | .lreturn => some (.inr (.inr (.inl (aRetJ M.2.2.2.2.1))))
  | .freturn => some (.inr (.inr (.inl (aRetF M.2.2.2.2.1))))
  | .dreturn => some (.inr (.inr (.inl (aRetD M.2.2.2.2.1))))
  | .return_ => some (.inr (.inr (.inl (aRetN M.2.2.2.2.1))))
  | _ => none
def aDoT (sc : Option (List aV)) (M : amM) (q : Nat × amIn1) : Option aAct := match aSp q.2.1 with
  | true => aDoS M q.2.1 q.2.2.1 q.2.2.2 q.1
  | false => (match aTr sc M.2.1 q.2.1 q.2.2.1 q.2.2.2 q.1 with
    | some act => some (.inl act)
    | none => none)
theorem amDo_step {G : Nat → Option amM} {M : amM} {sc : Option (List Int32)} {i : Instr} (h : aSp i = false) (a b pc : Nat) (ls : amL) (st : List Value) (hp : amH) : amDo G M sc i a b pc ls st hp = (amStep sc M.2.1 i a b pc ls st hp).map (fun r => .inl (r, 0, 0)) := by
  cases i <;> first | rfl | cases h
/-- the arguments: the first n of the stack, the last first -/
def aSplit : Nat → List aV → List aV → Option (List aV × List aV)
  | 0, st, acc => some (acc, st)
  | n + 1, v :: st, acc => aSplit n st (v :: acc)
  | _ + 1, [], _ => none
theorem aSplit_s : ∀ {n : Nat} {st acc av rest : List aV}, aSplit n st acc = some (av, rest) → n ≤ st.length ∧ av = (st.take n).reverse ++ acc ∧ rest = st.drop n
  | 0, st, acc, av, rest, h => by cases h; exact ⟨Nat.zero_le _, rfl, rfl⟩
  | n + 1, v :: st, acc, av, rest, h => by
    obtain ⟨h1, h2, h3⟩ := aSplit_s (n := n) (st := st) (acc := v :: acc) h
    refine ⟨by rw [List.length_cons]; omega, ?_, by rw [h3]; rfl⟩
    rw [h2, List.take_succ_cons, List.reverse_cons, List.append_assoc]
    rfl
  | _ + 1, [], _, _, _, h => by cases h
def aRecv (k ci : Nat) (hp : aH) : List aV → Bool
  | .inl (.ref o) :: _ => (match k with
    | 0 => (match aCell hp o with
      | some c => (match Nat.beq c.1 ci with
        | true => Nat.ble ci 31
        | false => false)
      | none => false)
    | _ + 1 => true)
  | .inl .null :: _ => Nat.beq k 1
  | .inl (.long _) :: _ => Nat.beq k 1
  | .inr _ :: _ => Nat.beq k 1
  | [] => Nat.beq k 1
  | _ => false
theorem aRecv_s {k ci : Nat} {hp : aH} {ch : amH} {av : List aV} {cav : List Value} (h : aRecv k ci hp av = true) (hs : aRs av cav) (hh : aRh hp ch) : amRecv k ci ch cav = true := by
  unfold aRecv at h
  split at h
  · next o r =>
    obtain ⟨w, ws, rfl, hv, hs1⟩ := aRs_cons hs
    cases hv
    split at h
    · split at h
      · next c ec =>
        split at h
        · next e1 =>
          obtain ⟨d, d1, d2⟩ := aCell_s hh ec
          have e3 : d.1 = ci := by rw [← d2.1]; exact Nat.eq_of_beq_eq_true e1
          have e4 : ci < 32 := Nat.lt_succ_of_le (a_le h)
          simp only [amRecv, d1, e3, e4, and_self, decide_true, if_true]
        · cases h
      · cases h
    · simp [amRecv]
  · next r =>
    obtain ⟨w, ws, rfl, hv, hs1⟩ := aRs_cons hs
    cases hv
    simp only [amRecv]
    exact decide_eq_true (Nat.eq_of_beq_eq_true h)
  · next r =>
    obtain ⟨w, ws, rfl, hv, hs1⟩ := aRs_cons hs
    cases hv
    simp only [amRecv]
    exact decide_eq_true (Nat.eq_of_beq_eq_true h)
  · next q r =>
    obtain ⟨w, ws, rfl, ⟨x, rfl, -⟩, hs1⟩ := aRs_cons hs
    simp only [amRecv]
    exact decide_eq_true (Nat.eq_of_beq_eq_true h)
  · cases aRs_nil hs
    simp only [amRecv]
    exact decide_eq_true (Nat.eq_of_beq_eq_true h)
  · cases h
def aArgs (k : Nat) (N : amM) (ls : aL) (st : List aV) (hp : aH) : Option (List aV × List aV) := match aSplit N.2.2.1 st [] with
  | some q => (match Nat.ble (aCs q.1) N.2.1 with
    | true => (match lAll (aOkO hp.1) ls with
      | true => (match lAll (aOk hp.1) q.2 with
        | true => (match aRecv k N.2.2.2.2.2.2 hp q.1 with
          | true => (match Nat.ble (aCs q.2) 8 with
            | true => some q
            | false => none)
          | false => none)
        | false => none)
      | false => none)
    | false => none)
  | none => none
theorem aCs_app : ∀ (a b : List aV), aCs (a ++ b) = aCs a + aCs b
  | [], b => by simp [aCs]
  | v :: a, b => by
    show aCat v + aCs (a ++ b) = aCat v + aCs a + aCs b
    rw [aCs_app a b, Nat.add_assoc]
theorem aCs_rev : ∀ (a : List aV), aCs a.reverse = aCs a
  | [] => rfl
  | v :: a => by
    rw [List.reverse_cons, aCs_app, aCs_rev a]
    show aCs a + (aCat v + 0) = aCat v + aCs a
    omega
theorem aArgs_s {G : Nat → Option amM} {k a : Nat} {N : amM} {ls : aL} {st av rest : List aV} {hp : aH} {cl : amL} {cs : List Value} {ch : amH} (hG : G a = some N) (h : aArgs k N ls st hp = some (av, rest)) (hl : aRl ls cl) (hs : aRs st cs) (hh : aRh hp ch) :
    ∃ cav crest, amCall G k a cl cs ch = some (.inr (.inr (.inr (a, cav, crest)))) ∧ aRs av cav ∧ aRs rest crest := by
  unfold aArgs at h
  split at h
  · next q eq =>
    split at h
    · next e1 =>
      split at h
      · next e2 =>
        split at h
        · next e3 =>
          split at h
          · next e4 =>
            split at h
            · next e5 =>
              cases h
              obtain ⟨h1, h2, h3⟩ := aSplit_s eq
              rw [List.append_nil] at h2
              have r1 : aRs av (cs.take N.2.2.1).reverse := by rw [h2]; exact aRs_rev (aRs_take hs)
              have r2 : aRs rest (cs.drop N.2.2.1) := by rw [h3]; exact aRs_drop hs
              have c1 : ((cs.take N.2.2.1).map fun v => v.category).sum = aCs av := by rw [aRs_cat (aRs_take (n := N.2.2.1) hs), h2, aCs_rev]
              have c2 : ((cs.drop N.2.2.1).map fun v => v.category).sum = aCs rest := aRs_cat r2
              refine ⟨_, _, ?_, r1, r2⟩
              unfold amCall
              rw [hG]
              dsimp only at e1 e2 e3 e4 e5 ⊢
              rw [hh.1] at e2 e3
              rw [if_pos ⟨by rw [← aRs_len hs]; exact h1, by rw [c1]; exact a_le e1, by rw [aOkL_s e2 hl, aOkS_s e3 r2, aRecv_s e4 r1 hh]; rfl, by rw [c2]; exact a_le e5⟩]
            · cases h
          · cases h
        · cases h
      · cases h
    · cases h
  · cases h
def aInit : Nat → List aV → aL
  | n, [] => List.replicate n none
  | n, v :: r => match Nat.beq (aCat v) 2 with
    | true => some v :: none :: aInit (Nat.sub n 2) r
    | false => some v :: aInit (Nat.sub n 1) r
theorem lAt_rep {α : Type} : ∀ (n j : Nat) (v : α), lAt (List.replicate n v) j = none ∨ lAt (List.replicate n v) j = some v
  | 0, j, v => Or.inl rfl
  | n + 1, 0, v => Or.inr rfl
  | n + 1, j + 1, v => lAt_rep n j v
theorem amGet_args : ∀ {cav : List Value} {i j : Nat}, j < i → amGet (lv_args i cav) j = none
  | [], _, _, _ => rfl
  | v :: r, i, j, h => by
    unfold lv_args amGet
    rw [if_neg (by dsimp only; omega)]
    exact amGet_args (by split <;> omega)
theorem aInit_s : ∀ {av : List aV} {cav : List Value} {n i : Nat}, aRs av cav → (∀ k v, lGet (aInit n av) k = some v → ∃ w, amGet (lv_args i cav) (i + k) = some w ∧ aR v w) ∧ ∀ q ∈ lv_args i cav, i ≤ q.1 ∧ ∃ v, lGet (aInit n av) (q.1 - i) = some v ∧ aR v q.2
  | [], [], n, i, _ => by
    refine ⟨fun k v h => ?_, fun q hq => by cases hq⟩
    unfold aInit lGet at h
    rcases lAt_rep n k (none : Option aV) with z | z <;> rw [z] at h <;> cases h
  | v :: av, w :: cav, n, i, hs => by
    have hc := aR_cat hs.1
    unfold aInit
    split
    · next e =>
      have e := Nat.eq_of_beq_eq_true e
      obtain ⟨h1, h2⟩ := aInit_s (n := Nat.sub n 2) (i := i + 2) hs.2
      have hu : lv_args i (w :: cav) = (i, w) :: lv_args (i + 2) cav := by
        simp only [lv_args]
        rw [if_pos (by rw [hc, e])]
      rw [hu]
      refine ⟨fun k u h => ?_, fun q hq => ?_⟩
      · match k, h with
        | 0, h =>
          cases h
          exact ⟨w, by unfold amGet; exact if_pos rfl, hs.1⟩
        | 1, h => cases h
        | k + 2, h =>
          obtain ⟨x, x1, x2⟩ := h1 k u h
          refine ⟨x, ?_, x2⟩
          unfold amGet
          rw [if_neg (by dsimp only; omega), show i + (k + 2) = i + 2 + k by omega]
          exact x1
      · rcases List.mem_cons.mp hq with rfl | hq
        · exact ⟨Nat.le_refl _, v, by rw [Nat.sub_self]; rfl, hs.1⟩
        · obtain ⟨g1, u, g2, g3⟩ := h2 q hq
          refine ⟨by omega, u, ?_, g3⟩
          rw [show q.1 - i = (q.1 - (i + 2)) + 2 by omega]
          exact g2
    · next e =>
      have e := a_nbeq e
      obtain ⟨h1, h2⟩ := aInit_s (n := Nat.sub n 1) (i := i + 1) hs.2
      have hu : lv_args i (w :: cav) = (i, w) :: lv_args (i + 1) cav := by
        simp only [lv_args]
        rw [if_neg (by rw [hc]; exact e)]
      rw [hu]
      refine ⟨fun k u h => ?_, fun q hq => ?_⟩
      · match k, h with
        | 0, h =>
          cases h
          exact ⟨w, by unfold amGet; exact if_pos rfl, hs.1⟩
        | k + 1, h =>
          obtain ⟨x, x1, x2⟩ := h1 k u h
          refine ⟨x, ?_, x2⟩
          unfold amGet
          rw [if_neg (by dsimp only; omega), show i + (k + 1) = i + 1 + k by omega]
          exact x1
      · rcases List.mem_cons.mp hq with rfl | hq
        · exact ⟨Nat.le_refl _, v, by rw [Nat.sub_self]; rfl, hs.1⟩
        · obtain ⟨g1, u, g2, g3⟩ := h2 q hq
          refine ⟨by omega, u, ?_, g3⟩
          rw [show q.1 - i = (q.1 - (i + 1)) + 1 by omega]
          exact g2
  | [], _ :: _, _, _, h => by cases h
  | _ :: _, [], _, _, h => by cases h
theorem aInit_l {av : List aV} {cav : List Value} {n : Nat} (hs : aRs av cav) : aRl (aInit n av) (lv_args 0 cav) := by
  obtain ⟨h1, h2⟩ := aInit_s (n := n) (i := 0) hs
  exact ⟨fun k v e => by have := h1 k v e; rwa [Nat.zero_add] at this, fun q hq => (h2 q hq).2⟩
def aSeek : amP → Nat → amP
  | [], _ => []
  | q :: r, pc => match Nat.beq q.1 pc with
    | true => q :: r
    | false => aSeek r pc
theorem aSeek_eq : ∀ (cs : amP) (pc : Nat), aSeek cs pc = amSeek cs pc
  | [], _ => rfl
  | q :: r, pc => by
    unfold aSeek amSeek
    rw [List.dropWhile_cons]
    split
    · next e =>
      have e := Nat.eq_of_beq_eq_true e
      rw [if_neg (by simp [e])]
    · next e =>
      have e := a_nbeq e
      rw [if_pos (by simpa using e)]
      exact aSeek_eq r pc
def aNext (M : amM) (cs : amP) (pc : Nat) : amP := match cs with
  | q :: r => (match Nat.beq q.1 pc with
    | true => q :: r
    | false => aSeek M.1 pc)
  | [] => aSeek M.1 pc
theorem aNext_eq (M : amM) (cs : amP) (pc : Nat) : aNext M cs pc = amNext M cs pc := by
  unfold aNext amNext
  split
  · next q r =>
    dsimp only
    split
    · next e => rw [if_pos (Nat.eq_of_beq_eq_true e)]
    · next e => rw [if_neg (a_nbeq e), aSeek_eq]
  · exact aSeek_eq _ _
theorem aNext_suf {M : amM} {cs : amP} {pc : Nat} (h : cs <:+ M.1) : aNext M cs pc <:+ M.1 := by
  have hs : aSeek M.1 pc <:+ M.1 := by
    rw [aSeek_eq]
    exact List.dropWhile_suffix _
  unfold aNext
  split
  · split
    · exact h
    · exact hs
  · exact hs
def aCons : Option aV → List aV → List aV
  | some v, r => v :: r
  | none, r => r
theorem aCons_s {v : Option aV} {w : Option Value} {r : List aV} {cr : List Value} (h : aRo v w) (hr : aRs r cr) : aRs (aCons v r) (w.toList ++ cr) := by
  cases v with
  | none => cases w with
    | none => exact hr
    | some w => cases h
  | some v => cases w with
    | none => cases h
    | some w => exact ⟨h, hr⟩
def aStop : Option Nat → Nat → Bool
  | some p, pc => Nat.beq pc p
  | none, _ => false
/-- a run with bounds: whatever comes of it, K says yes to it (KS, where it stops at sp) -/
def aRun (G : Nat → Option amM) (KS : Nat → aL → List aV → aH → Nat → Nat → Bool) : Nat → Option (List aV) → Option Nat → Nat → amM → amP → Nat → aL → List aV → aH → Nat → Nat → (aX → aH → Nat → Nat → Bool) → Bool
  | 0, _, _, _, _, _, _, _, _, _, _, _, _ => false
  | _ + 1, _, _, _, _, [], _, _, _, _, _, _, _ => false
  | f + 1, sc, sp, d, M, q :: cs, pc, ls, st, hp, kc, ks, K => match Nat.beq q.1 pc with
    | false => false
    | true => (match aStop sp pc with
      | true => KS (f + 1) ls st hp kc ks
      | false => (match aDoT sc M q with
        | none => false
        | some (.inl act) => act (fun pc1 ls1 st1 hp1 => aRun G KS f sc sp d M (aNext M cs pc1) pc1 ls1 st1 hp1 kc ks K) ls st hp
        | some (.inr (.inl act)) => act (fun pc1 ls1 st1 hp1 dk ds => aRun G KS f sc sp d M (aNext M cs pc1) pc1 ls1 st1 hp1 (Nat.add kc dk) (Nat.add ks ds) K) ls st hp
        | some (.inr (.inr (.inl rt))) => (match rt st with
          | some v => K (.inl v) hp kc ks
          | none => false)
        | some (.inr (.inr (.inr (.inl E)))) => (match Nat.ble (aCs st) 8 with
          | true => K (.inr E) hp (Nat.add kc 1) (Nat.add ks 6)
          | false => false)
        | some (.inr (.inr (.inr (.inr o)))) => (match d with
          | 0 => false
          | d' + 1 => (match G o.1 with
            | none => false
            | some N => (match aArgs o.2 N ls st hp with
              | none => false
              | some ar => aRun G KS f none none d' N N.1 0 (aInit N.2.1 ar.1) [] hp 0 0 (fun x hp1 mc ms => match x with
                | .inl v => aRun G KS f sc sp (d' + 1) M (aNext M cs (Nat.add pc 3)) (Nat.add pc 3) ls (aCons v ar.2) hp1 (Nat.add kc mc) (Nat.add ks ms) K
                | .inr E => (match amMay q.2.1 q.2.2.2 with
                  | false => false
                  | true => (match M.2.2.2.2.2.1 with
                    | [] => K (.inr E) hp1 (Nat.add kc mc) (Nat.add ks ms)
                    | h :: hs => (match amHand (h :: hs) pc E with
                      | some (_, y, to) => (match aDrop ls y with
                        | some l1 => aRun G KS f sc sp (d' + 1) M (aSeek M.1 to) to l1 [] hp1 (Nat.add kc mc) (Nat.add ks ms) K
                        | none => false)
                      | none => false)))))))))
/-! ===== the abstract runs are sound ===== -/
def amU (x : Option amAct) : Option amR := match x with
  | some (.inl (r, 0, 0)) => some r
  | _ => none
theorem amU_s {x : Option amAct} {r : amR} (h : amU x = some r) : x = some (.inl (r, 0, 0)) := by
  unfold amU at h
  split at h
  · cases h; rfl
  · cases h
theorem aDoS_k {G : Nat → Option amM} {M : amM} {sc : Option (List Int32)} {i : Instr} {a b pc : Nat} {act : aK} (h : aDoS M i a b pc = some (.inl act)) : aKok act (fun ls st hp => amU (amDo G M sc i a b pc ls st hp)) := by
  cases i
  case invokestatic n =>
    simp only [aDoS] at h
    split at h
    · next e =>
      cases h
      refine aKcopy_ok (fun ls st hp r hc => ?_)
      simp only [amDo, if_pos e, hc]
      rfl
    · cases h
  case invokespecial n =>
    simp only [aDoS] at h
    split at h
    · next e =>
      cases h
      refine aKobj_ok (fun ls st hp r hc => ?_)
      simp only [amDo, if_pos e, hc]
      rfl
    · cases h
  case new n =>
    simp only [aDoS] at h
    split at h
    · cases h
    · split at h <;> cases h
  all_goals (cases h)
theorem aDoS_m {G : Nat → Option amM} {M : amM} {sc : Option (List Int32)} {i : Instr} {a b pc : Nat} {act : aMk} (h : aDoS M i a b pc = some (.inr (.inl act))) : aMok act (fun ls st hp => amDo G M sc i a b pc ls st hp) := by
  cases i
  case invokestatic n =>
    simp only [aDoS] at h
    split at h <;> cases h
  case invokespecial n =>
    simp only [aDoS] at h
    split at h <;> cases h
  case new n =>
    simp only [aDoS] at h
    split at h
    · next e =>
      cases h
      have : (fun ls st hp => amDo G M sc (.new n) a b pc ls st hp) = fun ls st hp => amMake (pc + 3) ls st hp (a, amDef a) := by
        funext ls st hp
        simp only [amDo, if_pos e]
      rw [this]
      exact aMnew_ok
    · split at h <;> cases h
  case newarray t => cases h; exact aMarr_ok
  case anewarray t => cases h; exact aMarr_ok
  all_goals (cases h)
theorem aDoS_r {G : Nat → Option amM} {M : amM} {sc : Option (List Int32)} {i : Instr} {a b pc : Nat} {rt : List aV → Option (Option aV)} (h : aDoS M i a b pc = some (.inr (.inr (.inl rt)))) {st : List aV} {cs : List Value} {v : Option aV} (e : rt st = some v) (hs : aRs st cs) : ∃ w, aRo v w ∧ ∀ ls hp, amDo G M sc i a b pc ls cs hp = some (.inr (.inl w)) := by
  cases i
  case invokestatic n =>
    simp only [aDoS] at h
    split at h <;> cases h
  case invokespecial n =>
    simp only [aDoS] at h
    split at h <;> cases h
  case new n =>
    simp only [aDoS] at h
    split at h
    · cases h
    · split at h <;> cases h
  case ireturn => cases h; obtain ⟨w, w1, w2⟩ := aRetI_ok st cs v e hs; exact ⟨w, w2, fun ls hp => by simp only [amDo, w1]; rfl⟩
  case lreturn => cases h; obtain ⟨w, w1, w2⟩ := aRetJ_ok st cs v e hs; exact ⟨w, w2, fun ls hp => by simp only [amDo, w1]; rfl⟩
  case freturn => cases h; obtain ⟨w, w1, w2⟩ := aRetF_ok st cs v e hs; exact ⟨w, w2, fun ls hp => by simp only [amDo, w1]; rfl⟩
  case dreturn => cases h; obtain ⟨w, w1, w2⟩ := aRetD_ok st cs v e hs; exact ⟨w, w2, fun ls hp => by simp only [amDo, w1]; rfl⟩
  case return_ => cases h; obtain ⟨w, w1, w2⟩ := aRetN_ok st cs v e hs; exact ⟨w, w2, fun ls hp => by simp only [amDo, w1]; rfl⟩
  all_goals (cases h)
theorem aDoS_t {G : Nat → Option amM} {M : amM} {sc : Option (List Int32)} {i : Instr} {a b pc E : Nat} (h : aDoS M i a b pc = some (.inr (.inr (.inr (.inl E))))) {st : List aV} {cs : List Value} (e : aCs st ≤ 8) (hs : aRs st cs) (ls : amL) (hp : amH) : amDo G M sc i a b pc ls cs hp = some (.inr (.inr (.inl E))) := by
  cases i
  case invokestatic n =>
    simp only [aDoS] at h
    split at h <;> cases h
  case invokespecial n =>
    simp only [aDoS] at h
    split at h <;> cases h
  case new n =>
    simp only [aDoS] at h
    split at h
    · cases h
    · next e0 =>
      split at h
      · next e1 =>
        cases h
        simp only [amDo, if_neg e0]
        rw [if_pos ⟨by rw [aRs_cat hs]; exact e, e1⟩]
      · cases h
  all_goals (cases h)
theorem aDoS_c {G : Nat → Option amM} {M : amM} {sc : Option (List Int32)} {i : Instr} {a b pc : Nat} {o : Nat × Nat} (h : aDoS M i a b pc = some (.inr (.inr (.inr (.inr o))))) (ls : amL) (cs : List Value) (hp : amH) : amDo G M sc i a b pc ls cs hp = amCall G o.2 o.1 ls cs hp := by
  cases i
  case invokestatic n =>
    simp only [aDoS] at h
    split at h
    · cases h
    · next e => cases h; simp only [amDo, if_neg e]
  case invokespecial n =>
    simp only [aDoS] at h
    split at h
    · cases h
    · next e => cases h; simp only [amDo, if_neg e]
  case invokevirtual n => cases h; rfl
  case new n =>
    simp only [aDoS] at h
    split at h
    · cases h
    · split at h <;> cases h
  all_goals (cases h)
theorem aDoT_k {G : Nat → Option amM} {M : amM} {sc' : Option (List aV)} {sc : Option (List Int32)} (hsc : aRsc sc' sc) {q : Nat × amIn1} {act : aK} (h : aDoT sc' M q = some (.inl act)) {k : Nat → aL → List aV → aH → Bool} {ls : aL} {st : List aV} {hp : aH} {cl : amL} {cs : List Value} {ch : amH} (e : act k ls st hp = true) (hl : aRl ls cl) (hs : aRs st cs) (hh : aRh hp ch) :
    ∃ (r : amR) (ls' : aL) (st' : List aV) (hp' : aH), amDo G M sc q.2.1 q.2.2.1 q.2.2.2 q.1 cl cs ch = some (.inl (r, 0, 0)) ∧ k r.1 ls' st' hp' = true ∧ aRl ls' r.2.1 ∧ aRs st' r.2.2.1 ∧ aRh hp' r.2.2.2 := by
  unfold aDoT at h
  split at h
  · obtain ⟨r, ls', st', hp', h1, h2⟩ := aDoS_k (G := G) (sc := sc) h k ls st hp cl cs ch e hl hs hh
    exact ⟨r, ls', st', hp', amU_s h1, h2⟩
  · next e0 =>
    split at h
    · next act' e1 =>
      cases h
      obtain ⟨r, ls', st', hp', h1, h2⟩ := aTr_ok hsc e1 k ls st hp cl cs ch e hl hs hh
      exact ⟨r, ls', st', hp', by rw [amDo_step e0, h1]; rfl, h2⟩
    · cases h
theorem aDoT_s {M : amM} {sc' : Option (List aV)} {q : Nat × amIn1} {z : aMk ⊕ (List aV → Option (Option aV)) ⊕ Nat ⊕ (Nat × Nat)} (h : aDoT sc' M q = some (.inr z)) : aDoS M q.2.1 q.2.2.1 q.2.2.2 q.1 = some (.inr z) := by
  unfold aDoT at h
  split at h
  · exact h
  · split at h <;> cases h
def aFin (G : Nat → Option amM) (K : aX → aH → Nat → Nat → Bool) (R : Option amRes) : Prop := ∃ (x : aX) (ah : aH) (mc ms : Nat) (y : Option Value ⊕ Nat) (h : amH), R = some (y, h, mc, ms) ∧ aRx x y ∧ aRh ah h ∧ K x ah mc ms = true
def aStp (G : Nat → Option amM) (KS : Nat → aL → List aV → aH → Nat → Nat → Bool) (sp : Option Nat) (sc : Option (List Int32)) (d : Nat) (M : amM) (R : Option amRes) : Prop :=
  ∃ (f1 : Nat) (cs1 : amP) (pc1 : Nat) (ls1 : aL) (st1 : List aV) (hp1 : aH) (kc1 ks1 : Nat) (cl1 : amL) (cst1 : List Value) (ch1 : amH), sp = some pc1 ∧ (∃ q r, cs1 = q :: r ∧ q.1 = pc1) ∧ cs1 <:+ M.1 ∧ KS f1 ls1 st1 hp1 kc1 ks1 = true ∧ aRl ls1 cl1 ∧ aRs st1 cst1 ∧ aRh hp1 ch1 ∧ R = amRun G sc f1 d M cs1 pc1 cl1 cst1 ch1 kc1 ks1
theorem aRun_s {G : Nat → Option amM} {KS : Nat → aL → List aV → aH → Nat → Nat → Bool} : ∀ (f : Nat) (sc' : Option (List aV)) (sp : Option Nat) (d : Nat) (M : amM) (cs : amP) (pc : Nat) (ls : aL) (st : List aV) (hp : aH) (kc ks : Nat) (K : aX → aH → Nat → Nat → Bool) (sc : Option (List Int32)) (cl : amL) (cst : List Value) (ch : amH), aRun G KS f sc' sp d M cs pc ls st hp kc ks K = true → aRsc sc' sc → cs <:+ M.1 → aRl ls cl → aRs st cst → aRh hp ch →
    aFin G K (amRun G sc f d M cs pc cl cst ch kc ks) ∨ aStp G KS sp sc d M (amRun G sc f d M cs pc cl cst ch kc ks) := by
  intro f
  induction f with
  | zero => intro sc' sp d M cs pc ls st hp kc ks K sc cl cst ch h; unfold aRun at h; cases h
  | succ f ih =>
    intro sc' sp d M cs pc ls st hp kc ks K sc cl cst ch h hsc hsuf hl hs hh
    cases cs with
    | nil => unfold aRun at h; cases h
    | cons q cs =>
      have hsuf2 : cs <:+ M.1 := (List.suffix_cons q cs).trans hsuf
      unfold aRun at h
      split at h
      · cases h
      · next e0 =>
        have e0 := Nat.eq_of_beq_eq_true e0
        subst e0
        split at h
        · next es =>
          refine Or.inr ⟨f + 1, q :: cs, q.1, ls, st, hp, kc, ks, cl, cst, ch, ?_, ⟨q, cs, rfl, rfl⟩, hsuf, h, hl, hs, hh, rfl⟩
          cases sp with
          | none => cases es
          | some p => rw [show q.1 = p from Nat.eq_of_beq_eq_true es]
        · split at h
          · cases h
          · next act ea =>
            obtain ⟨r, ls', st', hp', e1, e2, l1, l2, l3⟩ := aDoT_k (G := G) hsc ea h hl hs hh
            have hr : amRun G sc (f + 1) d M (q :: cs) q.1 cl cst ch kc ks = amRun G sc f d M (amNext M cs r.1) r.1 r.2.1 r.2.2.1 r.2.2.2 kc ks := by
              simp only [amRun, if_true, e1, Nat.add_zero]
            rw [hr, ← aNext_eq]
            exact ih _ _ _ _ _ _ _ _ _ _ _ _ _ _ _ _ e2 hsc (aNext_suf hsuf2) l1 l2 l3
          · next act ea =>
            obtain ⟨r, dk, ds, ls', st', hp', e1, e2, l1, l2, l3⟩ := aDoS_m (G := G) (sc := sc) (aDoT_s ea) _ _ _ _ _ _ _ h hl hs hh
            have hr : amRun G sc (f + 1) d M (q :: cs) q.1 cl cst ch kc ks = amRun G sc f d M (amNext M cs r.1) r.1 r.2.1 r.2.2.1 r.2.2.2 (kc + dk) (ks + ds) := by
              simp only [amRun, if_true, e1]
            rw [hr, ← aNext_eq]
            exact ih _ _ _ _ _ _ _ _ _ _ _ _ _ _ _ _ e2 hsc (aNext_suf hsuf2) l1 l2 l3
          · next rt ea =>
            split at h
            · next v ev =>
              obtain ⟨w, w1, w2⟩ := aDoS_r (G := G) (sc := sc) (aDoT_s ea) ev hs
              refine Or.inl ⟨.inl v, hp, kc, ks, .inl w, ch, ?_, w1, hh, h⟩
              simp only [amRun, if_true, w2]
            · cases h
          · next E ea =>
            split at h
            · next e8 =>
              have w2 := aDoS_t (G := G) (sc := sc) (aDoT_s ea) (a_le e8) hs cl ch
              refine Or.inl ⟨.inr E, hp, kc + 1, ks + 6, .inr E, ch, ?_, rfl, hh, h⟩
              simp only [amRun, if_true, w2]
            · cases h
          · next o ea =>
            split at h
            · cases h
            · next d' =>
              split at h
              · cases h
              · next N hN =>
                split at h
                · cases h
                · next ar har =>
                  obtain ⟨cav, crest, c1, c2, c3⟩ := aArgs_s (av := ar.1) (rest := ar.2) hN har hl hs hh
                  have hdo := (aDoS_c (G := G) (sc := sc) (aDoT_s ea) cl cst ch).trans c1
                  have inner := ih _ _ _ _ _ _ _ _ _ _ _ _ none _ _ _ h trivial (List.suffix_refl _) (aInit_l c2) (show aRs [] [] from trivial) hh
                  rcases inner with ⟨x, ah, mc, ms, y, h1, r1, r2, r3, r4⟩ | ⟨f1, cs1, pc1, ls1, st1, hp1, kc1, ks1, cl1, cst1, ch1, z, -⟩
                  · dsimp only at r4
                    split at r4
                    · next v =>
                      cases y with
                      | inr E => cases r2
                      | inl w =>
                        have hr : amRun G sc (f + 1) (d' + 1) M (q :: cs) q.1 cl cst ch kc ks = amRun G sc f (d' + 1) M (amNext M cs (q.1 + 3)) (q.1 + 3) cl (w.toList ++ crest) h1 (kc + mc) (ks + ms) := by
                          simp only [amRun, if_true, hdo, hN, r1]
                        rw [hr, ← aNext_eq]
                        exact ih _ _ _ _ _ _ _ _ _ _ _ _ _ _ _ _ r4 hsc (aNext_suf hsuf2) hl (aCons_s r2 c3) r3
                    · next E =>
                      cases y with
                      | inl w => cases r2
                      | inr E' =>
                        have r2 : E = E' := r2
                        subst r2
                        split at r4
                        · cases r4
                        · next em =>
                          split at r4
                          · next eh =>
                            refine Or.inl ⟨.inr E, ah, kc + mc, ks + ms, .inr E, h1, ?_, rfl, r3, r4⟩
                            simp only [amRun, if_true, hdo, hN, r1, em, eh]
                            rfl
                          · next hh1 hhs eh =>
                            split at r4
                            · next s9 y9 to9 ey =>
                              split at r4
                              · next l1 el =>
                                have hr : amRun G sc (f + 1) (d' + 1) M (q :: cs) q.1 cl cst ch kc ks = amRun G sc f (d' + 1) M (amSeek M.1 to9) to9 (amDrop cl y9) [] h1 (kc + mc) (ks + ms) := by
                                  simp only [amRun, if_true, hdo, hN, r1, em, eh, ey]
                                  rfl
                                rw [hr, ← aSeek_eq]
                                exact ih _ _ _ _ _ _ _ _ _ _ _ _ _ _ _ _ r4 hsc (by rw [aSeek_eq]; exact List.dropWhile_suffix _) (aDrop_s hl el) (show aRs [] [] from trivial) r3
                              · cases r4
                            · cases r4
                  · cases z
end
