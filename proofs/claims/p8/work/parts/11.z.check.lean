/-! ===== the law's code checked ===== -/
theorem am_lL_0 : (fdrop am_nL.2.1.data.toList 0) = am_nL.2.1.data.toList.drop 0 := by simp only [fdrop_eq, List.drop_drop]
theorem am_fL_0 : fRowL amXX amGG am_V am_W16 am_nL am_mL am_mL_0 0 (fdrop am_nL.2.1.data.toList 0) am_hL_0 = true := by decide +kernel
theorem am_lL_1 : (fdrop (fdrop am_nL.2.1.data.toList 400) 233) = am_nL.2.1.data.toList.drop 633 := by simp only [fdrop_eq, List.drop_drop]
theorem am_fL_1 : fRowL amXX amGG am_V am_W16 am_nL am_mL am_mL_1 633 (fdrop (fdrop am_nL.2.1.data.toList 400) 233) am_hL_1 = true := by decide +kernel
theorem am_lL_2 : (fdrop (fdrop (fdrop am_nL.2.1.data.toList 400) 400) 200) = am_nL.2.1.data.toList.drop 1000 := by simp only [fdrop_eq, List.drop_drop]
theorem am_fL_2 : fRowL amXX amGG am_V am_W16 am_nL am_mL am_mL_2 1000 (fdrop (fdrop (fdrop am_nL.2.1.data.toList 400) 400) 200) am_hL_2 = true := by decide +kernel
theorem am_lL_3 : (fdrop (fdrop (fdrop (fdrop am_nL.2.1.data.toList 400) 400) 400) 163) = am_nL.2.1.data.toList.drop 1363 := by simp only [fdrop_eq, List.drop_drop]
theorem am_fL_3 : fRowL amXX amGG am_V am_W16 am_nL am_mL am_mL_3 1363 (fdrop (fdrop (fdrop (fdrop am_nL.2.1.data.toList 400) 400) 400) 163) am_hL_3 = true := by decide +kernel
theorem am_lL_4 : (fdrop (fdrop (fdrop (fdrop (fdrop am_nL.2.1.data.toList 400) 400) 400) 400) 117) = am_nL.2.1.data.toList.drop 1717 := by simp only [fdrop_eq, List.drop_drop]
theorem am_fL_4 : fRowL amXX amGG am_V am_W16 am_nL am_mL am_mL_4 1717 (fdrop (fdrop (fdrop (fdrop (fdrop am_nL.2.1.data.toList 400) 400) 400) 400) 117) am_hL_4 = true := by decide +kernel
theorem am_lL_5 : (fdrop (fdrop (fdrop (fdrop (fdrop (fdrop am_nL.2.1.data.toList 400) 400) 400) 400) 400) 111) = am_nL.2.1.data.toList.drop 2111 := by simp only [fdrop_eq, List.drop_drop]
theorem am_fL_5 : fRowL amXX amGG am_V am_W16 am_nL am_mL am_mL_5 2111 (fdrop (fdrop (fdrop (fdrop (fdrop (fdrop am_nL.2.1.data.toList 400) 400) 400) 400) 400) 111) am_hL_5 = true := by decide +kernel
theorem am_pL_0 : ∀ q ∈ am_mL_0, amEok amGG amXX am_nL am_mL q := fRowL_s (O := am_O) (R := am_R) (o := 16) (X := amXX) (G := amGG) (V := am_V) (W := am_W16) (N := am_nL) (M := am_mL) (cs := am_mL_0) (p := 0) (l := (fdrop am_nL.2.1.data.toList 0)) (hs := am_hL_0) am_zz am_rq rfl am_v am_w16 am_lL_0 am_fL_0
theorem am_pL_1 : ∀ q ∈ am_mL_1, amEok amGG amXX am_nL am_mL q := fRowL_s (O := am_O) (R := am_R) (o := 16) (X := amXX) (G := amGG) (V := am_V) (W := am_W16) (N := am_nL) (M := am_mL) (cs := am_mL_1) (p := 633) (l := (fdrop (fdrop am_nL.2.1.data.toList 400) 233)) (hs := am_hL_1) am_zz am_rq rfl am_v am_w16 am_lL_1 am_fL_1
theorem am_pL_2 : ∀ q ∈ am_mL_2, amEok amGG amXX am_nL am_mL q := fRowL_s (O := am_O) (R := am_R) (o := 16) (X := amXX) (G := amGG) (V := am_V) (W := am_W16) (N := am_nL) (M := am_mL) (cs := am_mL_2) (p := 1000) (l := (fdrop (fdrop (fdrop am_nL.2.1.data.toList 400) 400) 200)) (hs := am_hL_2) am_zz am_rq rfl am_v am_w16 am_lL_2 am_fL_2
theorem am_pL_3 : ∀ q ∈ am_mL_3, amEok amGG amXX am_nL am_mL q := fRowL_s (O := am_O) (R := am_R) (o := 16) (X := amXX) (G := amGG) (V := am_V) (W := am_W16) (N := am_nL) (M := am_mL) (cs := am_mL_3) (p := 1363) (l := (fdrop (fdrop (fdrop (fdrop am_nL.2.1.data.toList 400) 400) 400) 163)) (hs := am_hL_3) am_zz am_rq rfl am_v am_w16 am_lL_3 am_fL_3
theorem am_pL_4 : ∀ q ∈ am_mL_4, amEok amGG amXX am_nL am_mL q := fRowL_s (O := am_O) (R := am_R) (o := 16) (X := amXX) (G := amGG) (V := am_V) (W := am_W16) (N := am_nL) (M := am_mL) (cs := am_mL_4) (p := 1717) (l := (fdrop (fdrop (fdrop (fdrop (fdrop am_nL.2.1.data.toList 400) 400) 400) 400) 117)) (hs := am_hL_4) am_zz am_rq rfl am_v am_w16 am_lL_4 am_fL_4
theorem am_pL_5 : ∀ q ∈ am_mL_5, amEok amGG amXX am_nL am_mL q := fRowL_s (O := am_O) (R := am_R) (o := 16) (X := amXX) (G := amGG) (V := am_V) (W := am_W16) (N := am_nL) (M := am_mL) (cs := am_mL_5) (p := 2111) (l := (fdrop (fdrop (fdrop (fdrop (fdrop (fdrop am_nL.2.1.data.toList 400) 400) 400) 400) 400) 111)) (hs := am_hL_5) am_zz am_rq rfl am_v am_w16 am_lL_5 am_fL_5
theorem am_cL : ∀ q ∈ am_mL.1, amEok amGG amXX am_nL am_mL q := by
  intro q hq
  have hq : q ∈ am_mL_0 ++ (am_mL_1 ++ (am_mL_2 ++ (am_mL_3 ++ (am_mL_4 ++ (am_mL_5))))) := hq
  rcases List.mem_append.mp hq with hq | hq
  · exact am_pL_0 q hq
  rcases List.mem_append.mp hq with hq | hq
  · exact am_pL_1 q hq
  rcases List.mem_append.mp hq with hq | hq
  · exact am_pL_2 q hq
  rcases List.mem_append.mp hq with hq | hq
  · exact am_pL_3 q hq
  rcases List.mem_append.mp hq with hq | hq
  · exact am_pL_4 q hq
  exact am_pL_5 q hq
theorem am_kL : amMkB am_nL am_mL am_gL = true := by decide +kernel
theorem am_law : amMk amGG amXX am_nL am_mL := fMk_s am_kL am_cL
/-! ===== the tables checked: all ===== -/
theorem am_r0 : ∀ t ∈ [(am_n0, am_m0), (am_n1, am_m1), (am_n2, am_m2), (am_n3, am_m3), (am_n4, am_m4), (am_n5, am_m5), (am_n6, am_m6), (am_n7, am_m7), (am_n8, am_m8), (am_n9, am_m9), (am_n10, am_m10), (am_n11, am_m11), (am_n12, am_m12), (am_n13, am_m13), (am_n14, am_m14), (am_n15, am_m15)], amMk amGG amXX t.1 t.2 := fun t ht => am_t0 t (List.mem_of_mem_take (i := 16) ht)
theorem am_r1 : ∀ t ∈ [(am_n16, am_m16), (am_n17, am_m17), (am_n18, am_m18), (am_n19, am_m19), (am_n20, am_m20), (am_n21, am_m21), (am_n22, am_m22), (am_n23, am_m23), (am_n24, am_m24), (am_n25, am_m25), (am_n26, am_m26), (am_n27, am_m27), (am_n28, am_m28), (am_n29, am_m29), (am_n30, am_m30), (am_n31, am_m31)], amMk amGG amXX t.1 t.2 := fun t ht => am_t0 t (List.mem_of_mem_drop (i := 16) (List.mem_of_mem_take (i := 16) ht))
theorem am_r2 : ∀ t ∈ [(am_n32, am_m32), (am_n33, am_m33), (am_n34, am_m34), (am_n35, am_m35), (am_n36, am_m36), (am_n37, am_m37), (am_n38, am_m38), (am_n39, am_m39), (am_n40, am_m40), (am_n41, am_m41), (am_n42, am_m42), (am_n43, am_m43), (am_n44, am_m44), (am_n45, am_m45), (am_n46, am_m46), (am_n47, am_m47)], amMk amGG amXX t.1 t.2 := fun t ht => am_t0 t (List.mem_of_mem_drop (i := 32) (List.mem_of_mem_take (i := 16) ht))
theorem am_r3 : ∀ t ∈ [(am_n48, am_m48), (am_n49, am_m49), (am_n50, am_m50), (am_n51, am_m51), (am_n52, am_m52), (am_n53, am_m53), (am_n54, am_m54), (am_n55, am_m55), (am_n56, am_m56), (am_n57, am_m57), (am_n58, am_m58), (am_n59, am_m59), (am_n60, am_m60), (am_n61, am_m61), (am_n62, am_m62), (am_n63, am_m63)], amMk amGG amXX t.1 t.2 := fun t ht => am_t1 t (List.mem_of_mem_take (i := 16) ht)
theorem am_r4 : ∀ t ∈ [(am_n64, am_m64), (am_n65, am_m65), (am_n66, am_m66), (am_n67, am_m67), (am_n68, am_m68), (am_n69, am_m69), (am_n70, am_m70), (am_n71, am_m71), (am_n72, am_m72), (am_n73, am_m73), (am_n74, am_m74), (am_n75, am_m75), (am_n76, am_m76), (am_n77, am_m77), (am_n78, am_m78), (am_n79, am_m79)], amMk amGG amXX t.1 t.2 := fun t ht => am_t1 t (List.mem_of_mem_drop (i := 16) (List.mem_of_mem_take (i := 16) ht))
theorem am_r5 : ∀ t ∈ [(am_n80, am_m80), (am_n81, am_m81), (am_n82, am_m82), (am_n83, am_m83), (am_n84, am_m84), (am_n85, am_m85), (am_n86, am_m86), (am_n87, am_m87), (am_n88, am_m88), (am_n89, am_m89), (am_n90, am_m90), (am_n91, am_m91), (am_n92, am_m92), (am_n93, am_m93), (am_n94, am_m94), (am_n95, am_m95)], amMk amGG amXX t.1 t.2 := fun t ht => am_t1 t (List.mem_of_mem_drop (i := 32) (List.mem_of_mem_take (i := 16) ht))
theorem am_r6 : ∀ t ∈ [(am_n96, am_m96), (am_n97, am_m97), (am_n98, am_m98), (am_n99, am_m99), (am_n100, am_m100), (am_n101, am_m101), (am_n102, am_m102), (am_n103, am_m103), (am_n104, am_m104), (am_n105, am_m105), (am_n106, am_m106), (am_n107, am_m107), (am_n108, am_m108), (am_n109, am_m109), (am_n110, am_m110), (am_n111, am_m111)], amMk amGG amXX t.1 t.2 := fun t ht => am_t2 t (List.mem_of_mem_take (i := 16) ht)
theorem am_r7 : ∀ t ∈ [(am_n112, am_m112), (am_n113, am_m113), (am_n114, am_m114), (am_n115, am_m115), (am_n116, am_m116), (am_n117, am_m117), (am_n118, am_m118), (am_n119, am_m119), (am_n120, am_m120), (am_n121, am_m121), (am_n122, am_m122), (am_n123, am_m123), (am_n124, am_m124), (am_n125, am_m125), (am_n126, am_m126), (am_n127, am_m127)], amMk amGG amXX t.1 t.2 := fun t ht => am_t2 t (List.mem_of_mem_drop (i := 16) (List.mem_of_mem_take (i := 16) ht))
theorem am_r8 : ∀ t ∈ [(am_n128, am_m128), (am_n129, am_m129), (am_n130, am_m130), (am_n131, am_m131), (am_n132, am_m132), (am_n133, am_m133), (am_n134, am_m134), (am_n135, am_m135), (am_n136, am_m136), (am_n137, am_m137), (am_n138, am_m138), (am_n139, am_m139), (am_n140, am_m140), (am_n141, am_m141), (am_n142, am_m142), (am_n143, am_m143)], amMk amGG amXX t.1 t.2 := fun t ht => am_t2 t (List.mem_of_mem_drop (i := 32) (List.mem_of_mem_take (i := 16) ht))
theorem am_r9 : ∀ t ∈ [(am_n144, am_m144), (am_n145, am_m145), (am_n146, am_m146), (am_n147, am_m147), (am_n148, am_m148), (am_n149, am_m149), (am_n150, am_m150), (am_n151, am_m151), (am_n152, am_m152), (am_n153, am_m153), (am_n154, am_m154), (am_n155, am_m155), (am_n156, am_m156), (am_n157, am_m157), (am_n158, am_m158), (am_n159, am_m159)], amMk amGG amXX t.1 t.2 := fun t ht => am_t3 t (List.mem_of_mem_take (i := 16) ht)
theorem am_r10 : ∀ t ∈ [(am_n160, am_m160), (am_n161, am_m161), (am_n162, am_m162), (am_n163, am_m163), (am_n164, am_m164), (am_n165, am_m165), (am_n166, am_m166), (am_n167, am_m167), (am_n168, am_m168), (am_n169, am_m169), (am_n170, am_m170), (am_n171, am_m171), (am_n172, am_m172), (am_n173, am_m173), (am_n174, am_m174), (am_n175, am_m175)], amMk amGG amXX t.1 t.2 := fun t ht => am_t3 t (List.mem_of_mem_drop (i := 16) (List.mem_of_mem_take (i := 16) ht))
theorem am_r11 : ∀ t ∈ [(am_n176, am_m176), (am_n177, am_m177), (am_n178, am_m178), (am_n179, am_m179), (am_n180, am_m180), (am_n181, am_m181), (am_n182, am_m182), (am_n183, am_m183), (am_n184, am_m184), (am_n185, am_m185), (am_n186, am_m186), (am_n187, am_m187), (am_n188, am_m188), (am_n189, am_m189), (am_n190, am_m190), (am_n191, am_m191)], amMk amGG amXX t.1 t.2 := fun t ht => am_t3 t (List.mem_of_mem_drop (i := 32) (List.mem_of_mem_take (i := 16) ht))
theorem am_r12 : ∀ t ∈ [(am_n192, am_m192), (am_n193, am_m193), (am_n194, am_m194), (am_n0, am_m0), (am_n196, am_m196), (am_n197, am_m197), (am_n198, am_m198), (am_n199, am_m199), (am_n200, am_m200), (am_n201, am_m201), (am_n202, am_m202), (am_n203, am_m203), (am_n204, am_m204), (am_n205, am_m205), (am_n206, am_m206), (am_n207, am_m207)], amMk amGG amXX t.1 t.2 := fun t ht => am_t4 t (List.mem_of_mem_take (i := 16) ht)
theorem am_r13 : ∀ t ∈ [(am_n208, am_m208), (am_n209, am_m209), (am_n210, am_m210), (am_n211, am_m211), (am_n212, am_m212), (am_n213, am_m213), (am_n214, am_m214), (am_n215, am_m215), (am_n216, am_m216), (am_n217, am_m217), (am_n218, am_m218), (am_n219, am_m219), (am_n220, am_m220), (am_n221, am_m221), (am_n222, am_m222), (am_n223, am_m223)], amMk amGG amXX t.1 t.2 := fun t ht => am_t4 t (List.mem_of_mem_drop (i := 16) (List.mem_of_mem_take (i := 16) ht))
theorem am_r14 : ∀ t ∈ [(am_n224, am_m224), (am_n225, am_m225), (am_n226, am_m226), (am_n227, am_m227), (am_n228, am_m228), (am_n229, am_m229), (am_n230, am_m230), (am_n231, am_m231), (am_n232, am_m232), (am_n233, am_m233), (am_n234, am_m234), (am_n235, am_m235), (am_n236, am_m236), (am_n237, am_m237), (am_n238, am_m238), (am_n239, am_m239)], amMk amGG amXX t.1 t.2 := fun t ht => am_t4 t (List.mem_of_mem_drop (i := 32) (List.mem_of_mem_take (i := 16) ht))
theorem am_r15 : ∀ t ∈ [(am_n240, am_m240), (am_n241, am_m241), (am_n242, am_m242), (am_n243, am_m243), (am_n244, am_m244), (am_n245, am_m245), (am_n246, am_m246), (am_n247, am_m247), (am_n248, am_m248), (am_n249, am_m249), (am_n250, am_m250), (am_n251, am_m251), (am_n252, am_m252), (am_n253, am_m253), (am_n254, am_m254), (am_n255, am_m255)], amMk amGG amXX t.1 t.2 := fun t ht => am_t5 t (List.mem_of_mem_take (i := 16) ht)
theorem am_r16 : ∀ t ∈ [(am_n256, am_m256), (am_n257, am_m257), (am_n258, am_m258), (am_n259, am_m259), (am_n260, am_m260), (am_n261, am_m261), (am_n262, am_m262), (am_n263, am_m263), (am_n264, am_m264), (am_n265, am_m265), (am_n266, am_m266), (am_n267, am_m267), (am_n268, am_m268), (am_n269, am_m269), (am_n270, am_m270), (am_n271, am_m271)], amMk amGG amXX t.1 t.2 := fun t ht => am_t5 t (List.mem_of_mem_drop (i := 16) (List.mem_of_mem_take (i := 16) ht))
theorem am_r17 : ∀ t ∈ [(am_n272, am_m272), (am_n273, am_m273), (am_n274, am_m274), (am_n275, am_m275), (am_n276, am_m276), (am_n277, am_m277), (am_n278, am_m278), (am_n279, am_m279), (am_n280, am_m280), (am_n281, am_m281), (am_n282, am_m282), (am_n283, am_m283), (am_n284, am_m284), (am_n285, am_m285), (am_n286, am_m286), (am_n287, am_m287)], amMk amGG amXX t.1 t.2 := fun t ht => am_t5 t (List.mem_of_mem_drop (i := 32) (List.mem_of_mem_take (i := 16) ht))
theorem am_r18 : ∀ t ∈ [(am_n288, am_m288), (am_n289, am_m289), (am_n290, am_m290), (am_n291, am_m291), (am_n292, am_m292), (am_n293, am_m293), (am_n294, am_m294), (am_n295, am_m295), (am_n296, am_m296), (am_n297, am_m297), (am_n298, am_m298), (am_n299, am_m299), (am_n300, am_m300), (am_n301, am_m301), (am_n302, am_m302), (am_n303, am_m303)], amMk amGG amXX t.1 t.2 := fun t ht => am_t6 t (List.mem_of_mem_take (i := 16) ht)
theorem am_r19 : ∀ t ∈ [(am_n304, am_m304), (am_n305, am_m305), (am_n306, am_m306), (am_n307, am_m307), (am_n308, am_m308), (am_n309, am_m309), (am_n310, am_m310), (am_n311, am_m311), (am_n312, am_m312), (am_n313, am_m313), (am_n314, am_m314), (am_n315, am_m315), (am_n316, am_m316), (am_n317, am_m317), (am_n318, am_m318), (am_n319, am_m319)], amMk amGG amXX t.1 t.2 := fun t ht => am_t6 t (List.mem_of_mem_drop (i := 16) (List.mem_of_mem_take (i := 16) ht))
theorem am_r20 : ∀ t ∈ [(am_n320, am_m320), (am_n321, am_m321), (am_n322, am_m322), (am_n323, am_m323), (am_n324, am_m324), (am_n325, am_m325), (am_n326, am_m326), (am_n327, am_m327), (am_n328, am_m328), (am_n329, am_m329), (am_n330, am_m330), (am_n331, am_m331), (am_n332, am_m332), (am_n333, am_m333), (am_n334, am_m334), (am_n335, am_m335)], amMk amGG amXX t.1 t.2 := fun t ht => am_t6 t (List.mem_of_mem_drop (i := 32) (List.mem_of_mem_take (i := 16) ht))
theorem am_r21 : ∀ t ∈ [(am_n336, am_m336), (am_n337, am_m337), (am_n338, am_m338), (am_n339, am_m339), (am_n340, am_m340), (am_n341, am_m341), (am_n342, am_m342), (am_n343, am_m343), (am_n344, am_m344), (am_n345, am_m345), (am_n346, am_m346), (am_n347, am_m347), (am_n348, am_m348), (am_n349, am_m349), (am_n350, am_m350), (am_n351, am_m351)], amMk amGG amXX t.1 t.2 := fun t ht => am_t7 t (List.mem_of_mem_take (i := 16) ht)
theorem am_r22 : ∀ t ∈ [(am_n352, am_m352), (am_n353, am_m353), (am_n354, am_m354), (am_n355, am_m355), (am_n356, am_m356), (am_n357, am_m357), (am_n358, am_m358), (am_n359, am_m359), (am_n360, am_m360), (am_n361, am_m361), (am_n362, am_m362), (am_n363, am_m363), (am_n364, am_m364), (am_n365, am_m365), (am_n366, am_m366), (am_n367, am_m367)], amMk amGG amXX t.1 t.2 := fun t ht => am_t7 t (List.mem_of_mem_drop (i := 16) (List.mem_of_mem_take (i := 16) ht))
theorem am_r23 : ∀ t ∈ [(am_n368, am_m368), (am_n369, am_m369), (am_n370, am_m370), (am_n371, am_m371), (am_n372, am_m372), (am_n373, am_m373), (am_n374, am_m374), (am_n375, am_m375), (am_n376, am_m376), (am_n377, am_m377), (am_n378, am_m378), (am_n379, am_m379), (am_n380, am_m380), (am_n381, am_m381), (am_n382, am_m382), (am_n383, am_m383)], amMk amGG amXX t.1 t.2 := fun t ht => am_t7 t (List.mem_of_mem_drop (i := 32) (List.mem_of_mem_take (i := 16) ht))
theorem am_r24 : ∀ t ∈ [(am_n384, am_m384)], amMk amGG amXX t.1 t.2 := fun t ht => am_t8 t (List.mem_of_mem_take (i := 16) ht)
theorem am_allT : ∀ row ∈ amTT, ∀ t ∈ row, amMk amGG amXX t.1 t.2 := by
  intro row hrow
  rcases List.mem_cons.mp hrow with e | hrow
  · rw [e]; exact am_r0
  rcases List.mem_cons.mp hrow with e | hrow
  · rw [e]; exact am_r1
  rcases List.mem_cons.mp hrow with e | hrow
  · rw [e]; exact am_r2
  rcases List.mem_cons.mp hrow with e | hrow
  · rw [e]; exact am_r3
  rcases List.mem_cons.mp hrow with e | hrow
  · rw [e]; exact am_r4
  rcases List.mem_cons.mp hrow with e | hrow
  · rw [e]; exact am_r5
  rcases List.mem_cons.mp hrow with e | hrow
  · rw [e]; exact am_r6
  rcases List.mem_cons.mp hrow with e | hrow
  · rw [e]; exact am_r7
  rcases List.mem_cons.mp hrow with e | hrow
  · rw [e]; exact am_r8
  rcases List.mem_cons.mp hrow with e | hrow
  · rw [e]; exact am_r9
  rcases List.mem_cons.mp hrow with e | hrow
  · rw [e]; exact am_r10
  rcases List.mem_cons.mp hrow with e | hrow
  · rw [e]; exact am_r11
  rcases List.mem_cons.mp hrow with e | hrow
  · rw [e]; exact am_r12
  rcases List.mem_cons.mp hrow with e | hrow
  · rw [e]; exact am_r13
  rcases List.mem_cons.mp hrow with e | hrow
  · rw [e]; exact am_r14
  rcases List.mem_cons.mp hrow with e | hrow
  · rw [e]; exact am_r15
  rcases List.mem_cons.mp hrow with e | hrow
  · rw [e]; exact am_r16
  rcases List.mem_cons.mp hrow with e | hrow
  · rw [e]; exact am_r17
  rcases List.mem_cons.mp hrow with e | hrow
  · rw [e]; exact am_r18
  rcases List.mem_cons.mp hrow with e | hrow
  · rw [e]; exact am_r19
  rcases List.mem_cons.mp hrow with e | hrow
  · rw [e]; exact am_r20
  rcases List.mem_cons.mp hrow with e | hrow
  · rw [e]; exact am_r21
  rcases List.mem_cons.mp hrow with e | hrow
  · rw [e]; exact am_r22
  rcases List.mem_cons.mp hrow with e | hrow
  · rw [e]; exact am_r23
  rcases List.mem_cons.mp hrow with e | hrow
  · rw [e]; exact am_r24
  cases hrow
theorem am_tabs : ∀ (k : Nat) (N : amN) (M : amM), amXX k = some N → amGG k = some M → amMk amGG amXX N M := by
  intro k N M hX hG
  unfold amXX at hX
  unfold amGG at hG
  obtain ⟨q, h1, rfl⟩ := Option.map_eq_some_iff.mp hX
  rw [h1] at hG
  cases hG
  unfold amGx at h1
  split at h1
  · next row e =>
    exact am_allT row (List.mem_of_getElem? e) q (List.mem_of_getElem? h1)
  · cases h1
theorem am_nLs : ∀ (k : Nat) (M : amM), amGG k = some M → M.2.1 ≤ 100 := by
  intro k M hG
  unfold amGG at hG
  obtain ⟨q, h1, rfl⟩ := Option.map_eq_some_iff.mp hG
  exact (am_tabs k q.1 q.2 (by unfold amXX; rw [h1]; rfl) (by unfold amGG; rw [h1]; rfl)).2.1
