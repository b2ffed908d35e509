/-! ##### 14.h.class ##### -/
section
/-! ===== methods of the class, checked (7) ===== -/
noncomputable def be_138 : bEt := (32, ([.inr (.inr [3]), .inl (0, 4294967295)], [], 1, [], [], [((some (.inl (2147483648, 2147483649))), [])]), [(2, [(some (.inr (.inr [3]))), (some (.inl (0, 4294967295))), (some (.inl (2147483648, 2147483683)))], [], [], [(0, 999998, 0), (1, 2, 0)])], 3000, [])
noncomputable def be_139 : bEt := (33, ([.inr (.inr [3]), .inl (0, 4294967295)], [], 2, [], [], [((some (.inl (0, 4294967295))), [])]), [(4, [(some (.inr (.inr [3]))), (some (.inl (0, 4294967295))), (some (.inl (0, 4294967295))), (some (.inl (2147483648, 2147483663))), none], [], [], [(0, 999996, 0), (1, 3, 0), (0, 8589934591, 0), (0, 8589934591, 0)]), (21, [(some (.inr (.inr [3]))), (some (.inl (0, 4294967295))), (some (.inl (0, 4294967295))), (some (.inl (2147483648, 2147483662))), (some (.inl (2147483648, 2147483683)))], [], [], [(0, 999996, 0), (1, 3, 0), (0, 999979, 0), (1, 4, 0)])], 3000, [])
noncomputable def be_140 : bEt := (162, ([.inr (.inr [0]), .inl (0, 4294967295)], [], 3, [], [0], [((some (.inl (0, 4294967295))), [])]), [], 3000, [])
noncomputable def be_141 : bEt := (163, ([.inr (.inr [0])], [], 2, [], [], [((some (.inl (0, 4294967295))), [])]), [(12, [(some (.inr (.inr [0]))), (some (.inl (2147483648, 2147516415))), (some (.inl (0, 4294967295))), (some (.inl (2147483648, 2147516415)))], [], [], [(0, 999988, 0), (1, 3, 0)])], 3000, [])
noncomputable def be_142 : bEt := (34, ([.inr (.inr [3]), .inl (0, 4294967295)], [], 1, [], [], [((some (.inl (2147483648, 2147483649))), [])]), [(2, [(some (.inr (.inr [3]))), (some (.inl (0, 4294967295))), (some (.inl (2147483648, 2147483683)))], [], [], [(0, 999998, 0), (1, 2, 0)])], 3000, [])
noncomputable def be_143 : bEt := (164, ([.inr (.inr [0])], [], 2, [], [], [((some (.inl (2147483648, 2147516415))), [])]), [(12, [(some (.inr (.inr [0]))), (some (.inl (2147483648, 2147516415))), (some (.inl (2147483648, 2147516415))), (some (.inl (2147483648, 4294967295)))], [], [], [(0, 999988, 0), (1, 3, 0)])], 3000, [])
noncomputable def be_144 : bEt := (165, ([.inr (.inr [0]), .inl (0, 4294967295)], [], 2, [], [1], [((some (.inl (0, 4294967295))), [])]), [], 3000, [])
noncomputable def be_145 : bEt := (193, ([.inr (.inr [3]), .inl (2147483653, 2147483653), .inl (0, 4294967295), .inl (2147483653, 2147483653)], [], 0, [], [], [((some (.inl (2147483648, 2147483648))), [])]), [], 3000, [])
noncomputable def be_146 : bEt := (193, ([.inr (.inr [3]), .inl (0, 4294967295), .inl (0, 4294967295), .inl (2147483653, 2147483653)], [], 0, [], [], [((some (.inl (2147483648, 2147483648))), [])]), [], 3000, [])
noncomputable def be_147 : bEt := (193, ([.inr (.inr [3]), .inl (2147483652, 2147483652), .inl (0, 4294967295), .inl (2147483652, 2147483652)], [], 1, [], [], [((some (.inl (2147483648, 2147483649))), [])]), [(13, [(some (.inr (.inr [3]))), (some (.inl (2147483652, 2147483652))), (some (.inl (0, 4294967295))), (some (.inl (2147483652, 2147483652))), (some (.inl (2147483648, 2147483649))), (some (.inl (2147483652, 2147483683))), none], [], [], [(0, 999987, 0), (1, 5, 0)])], 3000, [])
noncomputable def be_148 : bEt := (193, ([.inr (.inr [3]), .inl (0, 4294967295), .inl (0, 4294967295), .inl (2147483652, 2147483652)], [], 1, [], [], [((some (.inl (2147483648, 2147483649))), [])]), [(13, [(some (.inr (.inr [3]))), (some (.inl (0, 4294967295))), (some (.inl (0, 4294967295))), (some (.inl (2147483652, 2147483652))), (some (.inl (2147483648, 2147483649))), (some (.inl (0, 4294967295))), none], [], [], [(0, 999987, 0), (1, 5, 0)])], 3000, [])
noncomputable def be_149 : bEt := (193, ([.inr (.inr [3]), .inl (2147483651, 2147483651), .inl (0, 4294967295), .inl (2147483651, 2147483651)], [], 2, [], [], [((some (.inl (2147483648, 2147483650))), [])]), [(13, [(some (.inr (.inr [3]))), (some (.inl (2147483651, 2147483651))), (some (.inl (0, 4294967295))), (some (.inl (2147483651, 2147483651))), (some (.inl (2147483648, 2147483650))), (some (.inl (2147483651, 2147483683))), none], [], [], [(0, 999987, 0), (1, 5, 0)])], 3000, [])
noncomputable def be_150 : bEt := (193, ([.inr (.inr [3]), .inl (0, 4294967295), .inl (0, 4294967295), .inl (2147483651, 2147483651)], [], 2, [], [], [((some (.inl (2147483648, 2147483650))), [])]), [(13, [(some (.inr (.inr [3]))), (some (.inl (0, 4294967295))), (some (.inl (0, 4294967295))), (some (.inl (2147483651, 2147483651))), (some (.inl (2147483648, 2147483650))), (some (.inl (0, 4294967295))), none], [], [], [(0, 999987, 0), (1, 5, 0)])], 3000, [])
noncomputable def be_151 : bEt := (193, ([.inr (.inr [3]), .inl (2147483650, 2147483650), .inl (0, 4294967295), .inl (2147483650, 2147483650)], [], 3, [], [], [((some (.inl (2147483648, 2147483651))), [])]), [(13, [(some (.inr (.inr [3]))), (some (.inl (2147483650, 2147483650))), (some (.inl (0, 4294967295))), (some (.inl (2147483650, 2147483650))), (some (.inl (2147483648, 2147483651))), (some (.inl (2147483650, 2147483683))), none], [], [], [(0, 999987, 0), (1, 5, 0)])], 3000, [])
noncomputable def be_152 : bEt := (193, ([.inr (.inr [3]), .inl (0, 4294967295), .inl (0, 4294967295), .inl (2147483650, 2147483650)], [], 3, [], [], [((some (.inl (2147483648, 2147483651))), [])]), [(13, [(some (.inr (.inr [3]))), (some (.inl (0, 4294967295))), (some (.inl (0, 4294967295))), (some (.inl (2147483650, 2147483650))), (some (.inl (2147483648, 2147483651))), (some (.inl (0, 4294967295))), none], [], [], [(0, 999987, 0), (1, 5, 0)])], 3000, [])
noncomputable def be_153 : bEt := (193, ([.inr (.inr [3]), .inl (2147483649, 2147483649), .inl (0, 4294967295), .inl (2147483649, 2147483649)], [], 4, [], [], [((some (.inl (2147483648, 2147483652))), [])]), [(13, [(some (.inr (.inr [3]))), (some (.inl (2147483649, 2147483649))), (some (.inl (0, 4294967295))), (some (.inl (2147483649, 2147483649))), (some (.inl (2147483648, 2147483652))), (some (.inl (2147483649, 2147483683))), none], [], [], [(0, 999987, 0), (1, 5, 0)])], 3000, [])
noncomputable def be_154 : bEt := (193, ([.inr (.inr [3]), .inl (0, 4294967295), .inl (0, 4294967295), .inl (2147483649, 2147483649)], [], 4, [], [], [((some (.inl (2147483648, 2147483652))), [])]), [(13, [(some (.inr (.inr [3]))), (some (.inl (0, 4294967295))), (some (.inl (0, 4294967295))), (some (.inl (2147483649, 2147483649))), (some (.inl (2147483648, 2147483652))), (some (.inl (0, 4294967295))), none], [], [], [(0, 999987, 0), (1, 5, 0)])], 3000, [])
noncomputable def be_155 : bEt := (193, ([.inr (.inr [3]), .inl (2147483648, 2147483648), .inl (2147483648, 2147483648), .inl (2147483648, 2147483648)], [], 5, [], [], [((some (.inl (2147483648, 2147483653))), [])]), [(13, [(some (.inr (.inr [3]))), (some (.inl (2147483648, 2147483648))), (some (.inl (2147483648, 2147483648))), (some (.inl (2147483648, 2147483648))), (some (.inl (2147483648, 2147483653))), (some (.inl (2147483648, 2147483683))), none], [], [], [(0, 999987, 0), (1, 5, 0)])], 3000, [])
noncomputable def be_156 : bEt := (166, ([.inr (.inr [0])], [], 6, [], [], [((some (.inl (2147483648, 2147483653))), [])]), [], 3000, [])
noncomputable def be_157 : bEt := (167, ([.inr (.inr [0]), .inl (0, 4294967295), .inl (0, 4294967295)], [], 6, [(3, 0), (3, 1), (4, 999), (5, 999), (6, 999), (7, 999), (8, 0), (8, 1), (9, 999), (11, 999), (14, 0), (15, 999), (16, 0), (16, 1), (17, 999), (18, 0), (18, 1), (18, 2), (19, 0), (19, 1), (20, 999), (21, 0), (21, 1), (21, 2), (22, 0), (22, 1), (23, 999), (24, 0), (24, 1), (24, 2), (25, 0), (25, 1), (26, 999), (27, 0), (27, 1), (27, 2), (28, 0), (28, 1), (29, 999), (30, 0), (30, 1), (30, 2), (31, 0), (31, 1), (32, 999), (33, 0), (33, 1), (33, 2), (34, 0), (34, 1), (35, 999), (36, 0), (36, 1), (36, 2), (37, 0), (37, 1), (38, 999), (39, 0), (39, 1), (39, 2), (40, 0), (40, 1), (41, 999), (42, 0), (42, 1), (42, 2), (43, 0), (43, 1), (44, 999), (45, 0), (45, 1), (45, 2), (46, 0), (46, 1), (47, 999), (48, 0), (48, 1), (48, 2), (49, 0), (50, 999), (51, 999)], [0, 1], [((some (.inl (0, 4294967295))), [(8, 0, 2147483651, 2147483663), (8, 1, 2147483648, 2147483648), (14, 0, 2147483649, 2147483658)])]), [(29, [(some (.inr (.inr [0]))), (some (.inl (2147483648, 2147483662))), (some (.inl (2147483648, 2147483662))), (some (.inl (0, 4294967295))), (some (.inl (2147483648, 2147483683))), none], [(3, 0, 2147483649, 2147483663), (8, 0, 2147483651, 2147483663), (8, 1, 2147483648, 2147483648), (14, 0, 2147483649, 2147483658)], [], [(0, 999971, 0), (1, 4, 0)])], 3000, [])
noncomputable def be_158 : bEt := (27, ([.inr (.inr [3]), .inl (0, 4294967295), .inl (0, 4294967295)], [], 3, [(4, 999), (6, 999)], [], [((some (.inl (0, 4294967295))), [])]), [(5, [(some (.inr (.inr [3]))), (some (.inl (0, 4294967295))), (some (.inl (0, 4294967295))), (some (.inl (0, 4294967295))), (some (.inl (2147483648, 2147483683)))], [], [], [(0, 999995, 0), (1, 4, 0)])], 3000, [])
noncomputable def be_159 : bEt := (168, ([.inr (.inr [0]), .inl (0, 4294967295)], [], 6, [(3, 1), (4, 999), (5, 999), (6, 999), (7, 999), (14, 0), (15, 999), (16, 0), (16, 1), (17, 999), (18, 0), (18, 1), (18, 2), (19, 0), (19, 1), (20, 999), (21, 0), (21, 1), (21, 2), (22, 0), (22, 1), (23, 999), (24, 0), (24, 1), (24, 2), (25, 0), (25, 1), (26, 999), (27, 0), (27, 1), (27, 2), (28, 0), (28, 1), (29, 999), (30, 0), (30, 1), (30, 2), (31, 0), (31, 1), (32, 999), (33, 0), (33, 1), (33, 2), (34, 0), (34, 1), (35, 999), (36, 0), (36, 1), (36, 2), (37, 0), (37, 1), (38, 999), (39, 0), (39, 1), (39, 2), (40, 0), (40, 1), (41, 999), (42, 0), (42, 1), (42, 2), (43, 0), (43, 1), (44, 999), (45, 0), (45, 1), (45, 2), (46, 0), (46, 1), (47, 999), (48, 0), (48, 1), (48, 2), (49, 0), (50, 999), (51, 999)], [1], [((some (.inl (0, 4294967295))), [(14, 0, 2147483649, 2147483658)])]), [], 3000, [])
noncomputable def be_160 : bEt := (169, ([.inr (.inr [0]), .inl (0, 4294967295), .inl (0, 4294967295), .inl (0, 4294967295)], [], 3, [], [0, 1], [((some (.inl (0, 4294967295))), [])]), [], 3000, [])
noncomputable def be_161 : bEt := (170, ([.inr (.inr [0]), .inl (0, 4294967295), .inl (0, 4294967295), .inl (0, 4294967295)], [], 6, [(3, 1), (4, 999), (5, 999), (6, 999), (7, 999), (14, 0), (15, 999), (16, 0), (16, 1), (17, 999), (18, 0), (18, 1), (18, 2), (19, 0), (19, 1), (20, 999), (21, 0), (21, 1), (21, 2), (22, 0), (22, 1), (23, 999), (24, 0), (24, 1), (24, 2), (25, 0), (25, 1), (26, 999), (27, 0), (27, 1), (27, 2), (28, 0), (28, 1), (29, 999), (30, 0), (30, 1), (30, 2), (31, 0), (31, 1), (32, 999), (33, 0), (33, 1), (33, 2), (34, 0), (34, 1), (35, 999), (36, 0), (36, 1), (36, 2), (37, 0), (37, 1), (38, 999), (39, 0), (39, 1), (39, 2), (40, 0), (40, 1), (41, 999), (42, 0), (42, 1), (42, 2), (43, 0), (43, 1), (44, 999), (45, 0), (45, 1), (45, 2), (46, 0), (46, 1), (47, 999), (48, 0), (48, 1), (48, 2), (49, 0), (50, 999), (51, 999)], [0, 1, 2], [((some (.inl (0, 4294967295))), [(14, 0, 2147483649, 2147483658)])]), [], 3000, [])
noncomputable def be_162 : bEt := (191, ([.inr (.inr [0]), .inl (0, 4294967295)], [], 0, [(0, 11), (65, 999)], [], [(none, [(0, 11, 2147483649, 2147483675)])]), [], 3000, [(0, 11), (65, 999)])
noncomputable def bB7 : List bEt := [be_138, be_139, be_140, be_141, be_142, be_143, be_144, be_145, be_146, be_147, be_148, be_149, be_150, be_151, be_152, be_153, be_154, be_155, be_156, be_157, be_158, be_159, be_160, be_161, be_162]
theorem bB7_ok : bAll2 amGG bTT 84 bPr bM6 bB7 = true := by decide +kernel
noncomputable def bL7 : List bEt := [be_162, be_161, be_160, be_159, be_158, be_157, be_156, be_155, be_154, be_153, be_152, be_151, be_150, be_149, be_148, be_147, be_146, be_145, be_144, be_143, be_142, be_141, be_140, be_139, be_138, be_s161, be_s161_15, be_s161_14, be_s161_13, be_s161_12, be_s161_11, be_s161_10, be_s161_9, be_s161_8, be_s161_7, be_s161_6, be_s161_5, be_s161_4, be_s161_3, be_s161_2, be_s161_1, be_s161_0, be_137, be_136, be_135, be_134, be_133, be_132, be_131, be_130, be_129, be_128, be_127, be_126, be_125, be_124, be_123, be_122, be_121, be_120, be_119, be_118, be_117, be_116, be_115, be_114, be_113, be_112, be_111, be_110, be_109, be_108, be_107, be_106, be_105, be_104, be_103, be_102, be_101, be_100, be_99, be_98, be_97, be_96, be_95, be_94, be_93, be_s38, be_s38_3, be_s38_2, be_s38_1, be_s38_0, be_92, be_91, be_90, be_89, be_88, be_87, be_86, be_85, be_84, be_83, be_82, be_81, be_80, be_79, be_78, be_77, be_76, be_75, be_74, be_73, be_72, be_71, be_70, be_69, be_68, be_67, be_66, be_65, be_64, be_63, be_62, be_61, be_60, be_59, be_58, be_57, be_56, be_55, be_54, be_53, be_52, be_51, be_50, be_49, be_48, be_47, be_46, be_45, be_44, be_43, be_42, be_41, be_40, be_39, be_38, be_37, be_36, be_35, be_34, be_33, be_32, be_31, be_30, be_29, be_28, be_27, be_26, be_25, be_24, be_23, be_22, be_21, be_20, be_19, be_18, be_17, be_16, be_15, be_14, be_13, be_12, be_11, be_10, be_9, be_8, be_7, be_6, be_5, be_4, be_3, be_2, be_1, be_0]
theorem bL7_eq : bB7.reverse ++ bM6 = bL7 := rfl
end
/-! ##### 14.i.class ##### -/
section
/-! ===== methods of the class, checked (8) ===== -/
noncomputable def be_163 : bEt := (190, ([.inr (.inr [0]), .inl (0, 4294967295)], [], 2, [(0, 11), (65, 999)], [], [(none, [])]), [(15, [(some (.inr (.inr [0]))), (some (.inl (0, 4294967295))), (some (.inl (2147483648, 2147483651))), none], [], [], [(0, 999985, 0), (1, 2, 0)])], 3000, [])
noncomputable def be_164 : bEt := (171, ([.inr (.inr [0]), .inl (0, 4294967295)], [], 3, [(0, 11), (65, 999)], [1], [((some (.inl (2147483648, 2147483675))), [])]), [(12, [(some (.inr (.inr [0]))), (some (.inl (2147483648, 2147483662))), (some (.inl (2147483648, 2147483683)))], [(3, 0, 2147483649, 2147483663)], [], [(0, 999988, 0), (1, 2, 0)])], 3000, [(0, 11)])
noncomputable def be_165 : bEt := (172, ([.inr (.inr [0]), .inl (0, 4294967295)], [], 0, [], [], [((some (.inl (2147483520, 2147483775))), [])]), [], 3000, [])
noncomputable def be_166 : bEt := (1, ([.inr (.inr [3]), .inl (0, 4294967295)], [], 1, [(3, 0), (3, 1), (4, 999), (6, 999)], [], [(none, [(3, 0, 2147483651, 2147483663), (3, 1, 2147483648, 2147483648)])]), [(21, [(some (.inr (.inr [3]))), (some (.inl (0, 4294967295))), (some (.inl (2147483648, 2147483873)))], [(3, 0, 2147483651, 2147483663), (3, 1, 2147483648, 2147483648)], [], [(0, 999979, 0), (1, 2, 0)]), (45, [(some (.inr (.inr [3]))), (some (.inl (0, 4294967295))), (some (.inl (2147483648, 2147483663)))], [(3, 0, 2147483651, 2147483663), (3, 1, 2147483648, 2147483648)], [], [(0, 999955, 0), (1, 2, 0)])], 3000, [(3, 0), (3, 1), (4, 999), (6, 999)])
noncomputable def be_167 : bEt := (93, ([.inr (.inr [13]), .inr (.inr [18, 21, 24, 27, 30, 33, 36, 39, 42, 45, 48])], [], 0, [(13, 0), (13, 1), (13, 2)], [], [(none, [])]), [], 3000, [(13, 0), (13, 1), (13, 2)])
noncomputable def be_168 : bEt := (90, ([.inr (.inr [16, 19, 22, 25, 28, 31, 34, 37, 40, 43, 46]), .inr (.inr [3]), .inr (.inr [13])], [], 3, [(3, 0), (3, 1), (4, 999), (6, 999), (13, 0), (13, 1), (13, 2)], [], [(none, [(3, 0, 2147483651, 2147483663), (3, 1, 2147483648, 2147483648)])]), [(10, [(some (.inr (.inr [16, 19, 22, 25, 28, 31, 34, 37, 40, 43, 46]))), (some (.inr (.inr [3]))), (some (.inr (.inr [13]))), (some (.inl (2147483648, 2147483683)))], [(3, 0, 2147483651, 2147483663), (3, 1, 2147483648, 2147483648)], [], [(0, 999990, 0), (1, 3, 0)])], 3000, [])
noncomputable def be_169 : bEt := (52, ([.inr (.inr [14]), .inr (.inr [3]), .inr (.inr [13])], [], 4, [(3, 0), (3, 1), (4, 999), (6, 999), (13, 0), (13, 1), (13, 2), (14, 0)], [], [((some (.inl (2147483648, 2147483649))), [(14, 0, 2147483648, 2147483657)])]), [], 3000, [(14, 0)])
noncomputable def be_170 : bEt := (173, ([.inr (.inr [0])], [], 6, [(3, 0), (3, 1), (4, 999), (5, 999), (6, 999), (7, 999), (13, 0), (13, 1), (13, 2), (14, 0), (49, 0), (50, 999), (51, 999)], [], [((some (.inl (2147483647, 2147483657))), [(14, 0, 2147483648, 2147483657)])]), [], 3000, [])
noncomputable def be_171 : bEt := (53, ([.inr (.inr [14]), .inr (.inr [3]), .inr (.inr [13])], [], 2, [(14, 3), (16, 0), (16, 1), (17, 999), (18, 0), (18, 1), (18, 2), (19, 0), (19, 1), (20, 999), (21, 0), (21, 1), (21, 2), (22, 0), (22, 1), (23, 999), (24, 0), (24, 1), (24, 2), (25, 0), (25, 1), (26, 999), (27, 0), (27, 1), (27, 2), (28, 0), (28, 1), (29, 999), (30, 0), (30, 1), (30, 2), (31, 0), (31, 1), (32, 999), (33, 0), (33, 1), (33, 2), (34, 0), (34, 1), (35, 999), (36, 0), (36, 1), (36, 2), (37, 0), (37, 1), (38, 999), (39, 0), (39, 1), (39, 2), (40, 0), (40, 1), (41, 999), (42, 0), (42, 1), (42, 2), (43, 0), (43, 1), (44, 999), (45, 0), (45, 1), (45, 2), (46, 0), (46, 1), (47, 999), (48, 0), (48, 1), (48, 2)], [], [(none, [(14, 3, 2147483649, 2147483649)])]), [], 3000, [(14, 3)])
noncomputable def be_172 : bEt := (174, ([.inr (.inr [0])], [], 3, [(14, 3), (16, 0), (16, 1), (17, 999), (18, 0), (18, 1), (18, 2), (19, 0), (19, 1), (20, 999), (21, 0), (21, 1), (21, 2), (22, 0), (22, 1), (23, 999), (24, 0), (24, 1), (24, 2), (25, 0), (25, 1), (26, 999), (27, 0), (27, 1), (27, 2), (28, 0), (28, 1), (29, 999), (30, 0), (30, 1), (30, 2), (31, 0), (31, 1), (32, 999), (33, 0), (33, 1), (33, 2), (34, 0), (34, 1), (35, 999), (36, 0), (36, 1), (36, 2), (37, 0), (37, 1), (38, 999), (39, 0), (39, 1), (39, 2), (40, 0), (40, 1), (41, 999), (42, 0), (42, 1), (42, 2), (43, 0), (43, 1), (44, 999), (45, 0), (45, 1), (45, 2), (46, 0), (46, 1), (47, 999), (48, 0), (48, 1), (48, 2)], [], [((some (.inl (2147483648, 2147483683))), [(14, 3, 2147483649, 2147483649)])]), [], 3000, [])
noncomputable def be_173 : bEt := (54, ([.inr (.inr [14]), .inr (.inr [3]), .inr (.inr [13])], [], 4, [(3, 0), (3, 1), (4, 999), (6, 999), (13, 0), (13, 1), (13, 2), (14, 0)], [], [((some (.inl (2147483648, 2147483649))), [])]), [], 3000, [(14, 0)])
noncomputable def be_174 : bEt := (175, ([.inr (.inr [0])], [], 6, [(3, 0), (3, 1), (4, 999), (5, 999), (6, 999), (7, 999), (13, 0), (13, 1), (13, 2), (14, 0), (49, 0), (50, 999), (51, 999)], [2], [((some (.inl (2147483648, 2147483683))), [])]), [], 3000, [])
noncomputable def bB8 : List bEt := [be_163, be_164, be_165, be_166, be_167, be_168, be_169, be_170, be_171, be_172, be_173, be_174]
theorem bB8_ok : bAll2 amGG bTT 84 bPr bL7 bB8 = true := by decide +kernel
noncomputable def bL8 : List bEt := [be_174, be_173, be_172, be_171, be_170, be_169, be_168, be_167, be_166, be_165, be_164, be_163, be_162, be_161, be_160, be_159, be_158, be_157, be_156, be_155, be_154, be_153, be_152, be_151, be_150, be_149, be_148, be_147, be_146, be_145, be_144, be_143, be_142, be_141, be_140, be_139, be_138, be_s161, be_s161_15, be_s161_14, be_s161_13, be_s161_12, be_s161_11, be_s161_10, be_s161_9, be_s161_8, be_s161_7, be_s161_6, be_s161_5, be_s161_4, be_s161_3, be_s161_2, be_s161_1, be_s161_0, be_137, be_136, be_135, be_134, be_133, be_132, be_131, be_130, be_129, be_128, be_127, be_126, be_125, be_124, be_123, be_122, be_121, be_120, be_119, be_118, be_117, be_116, be_115, be_114, be_113, be_112, be_111, be_110, be_109, be_108, be_107, be_106, be_105, be_104, be_103, be_102, be_101, be_100, be_99, be_98, be_97, be_96, be_95, be_94, be_93, be_s38, be_s38_3, be_s38_2, be_s38_1, be_s38_0, be_92, be_91, be_90, be_89, be_88, be_87, be_86, be_85, be_84, be_83, be_82, be_81, be_80, be_79, be_78, be_77, be_76, be_75, be_74, be_73, be_72, be_71, be_70, be_69, be_68, be_67, be_66, be_65, be_64, be_63, be_62, be_61, be_60, be_59, be_58, be_57, be_56, be_55, be_54, be_53, be_52, be_51, be_50, be_49, be_48, be_47, be_46, be_45, be_44, be_43, be_42, be_41, be_40, be_39, be_38, be_37, be_36, be_35, be_34, be_33, be_32, be_31, be_30, be_29, be_28, be_27, be_26, be_25, be_24, be_23, be_22, be_21, be_20, be_19, be_18, be_17, be_16, be_15, be_14, be_13, be_12, be_11, be_10, be_9, be_8, be_7, be_6, be_5, be_4, be_3, be_2, be_1, be_0]
theorem bL8_eq : bB8.reverse ++ bL7 = bL8 := rfl
end
/-! ##### 15.a.sys ##### -/
section
/-! ===== the reference: systems ===== -/
noncomputable def rN (hp : amH) (c i : Nat) : Int := match bFld hp c i with
  | some (.int x) => x.toInt
  | _ => 0
/-- a row that is a system: how many points; third points -/
noncomputable def Vf (r : Nat → Int) : Prop := 3 ≤ r 0 ∧ r 0 ≤ 15 ∧ ∀ a b : Nat, a < 15 → b < 15 → r (4 + 15 * a + b) = -1 ∨
  ∃ c : Nat, r (4 + 15 * a + b) = (c : Int) ∧ (a : Int) < r 0 ∧ (b : Int) < r 0 ∧ (c : Int) < r 0 ∧ a ≠ b ∧ a ≠ c ∧ b ≠ c ∧ r (4 + 15 * b + a) = (c : Int) ∧ r (4 + 15 * a + c) = (b : Int)
noncomputable def P0 (hp : amH) : Prop := Vf (rN hp 67) ∧ (rN hp 66 6 = 1 → Vf (rN hp 70)) ∧ (∀ k : Nat, (k : Int) < rN hp 66 5 → k < 10 → Vf (fun i => rN hp 71 (229 * k + i))) ∧ (3 ≤ rN hp 69 0 → Vf (rN hp 69))
theorem Vf_eq {r s : Nat → Int} (h : ∀ i, i < 229 → s i = r i) (hr : Vf r) : Vf s := by
  obtain ⟨h1, h2, h3⟩ := hr
  have h0 := h 0 (by omega)
  refine ⟨by omega, by omega, fun a b ha hb => ?_⟩
  rcases h3 a b ha hb with g | ⟨c, g1, g2, g3, g4, g5, g6, g7, g8, g9⟩
  · exact Or.inl (by rw [h _ (by omega)]; exact g)
  · have hc : c < 15 := by omega
    exact Or.inr ⟨c, by rw [h _ (by omega)]; exact g1, by omega, by omega, by omega, g5, g6, g7, by rw [h _ (by omega)]; exact g8, by rw [h _ (by omega)]; exact g9⟩
theorem rN_eq {hp hp1 : amH} {c i : Nat} (h : bFld hp1 c i = bFld hp c i) : rN hp1 c i = rN hp c i := by unfold rN; rw [h]
theorem P0_fr : ∀ hp hp1 : amH, (∀ c k, bIn bPr c k = true → bFld hp1 c k = bFld hp c k) → P0 hp → P0 hp1 := by
  intro hp hp1 h ⟨h1, h2, h3, h4⟩
  have e67 : ∀ i, rN hp1 67 i = rN hp 67 i := fun i => rN_eq (h _ _ (bIn_all (by decide) i))
  have e70 : ∀ i, rN hp1 70 i = rN hp 70 i := fun i => rN_eq (h _ _ (bIn_all (by decide) i))
  have e69 : ∀ i, rN hp1 69 i = rN hp 69 i := fun i => rN_eq (h _ _ (bIn_all (by decide) i))
  have e71 : ∀ i, rN hp1 71 i = rN hp 71 i := fun i => rN_eq (h _ _ (bIn_all (by decide) i))
  have e5 : rN hp1 66 5 = rN hp 66 5 := rN_eq (h _ _ (by decide))
  have e6 : rN hp1 66 6 = rN hp 66 6 := rN_eq (h _ _ (by decide))
  refine ⟨Vf_eq (fun i _ => e67 i) h1, fun z => Vf_eq (fun i _ => e70 i) (h2 (by rw [← e6]; exact z)), fun k hk hk2 => Vf_eq (fun i _ => e71 _) (h3 k (by rw [← e5]; exact hk) hk2), fun z => Vf_eq (fun i _ => e69 i) (h4 (by rw [← e69]; exact z))⟩
/-- a row of ints -/
theorem r_ints {n : Nat} {c : amC} {k : Nat} {q : Nat × Nat} (h : bHc n (32, k, [.inl q]) c) : ∃ w : List Int32, c = (32, w.map Value.int) ∧ w.length = k := by
  obtain ⟨t, vs⟩ := c
  obtain ⟨h1, h2, h3⟩ := h
  dsimp only at h1 h2 h3
  subst h1
  have : ∀ l : List Value, (∀ v ∈ l, ∃ x, v = .int x) → ∃ w : List Int32, l = w.map Value.int := by
    intro l
    induction l with
    | nil => intro _; exact ⟨[], rfl⟩
    | cons v r ih =>
      intro hl
      obtain ⟨x, rfl⟩ := hl v List.mem_cons_self
      obtain ⟨w, rfl⟩ := ih (fun v hv => hl v (List.mem_cons_of_mem _ hv))
      exact ⟨x :: w, rfl⟩
  obtain ⟨w, rfl⟩ := this vs (fun v hv => by
    obtain ⟨i, hi, e⟩ := List.getElem_of_mem hv
    obtain ⟨y, g1, g2⟩ := h3 i v (by rw [List.getElem?_eq_getElem hi, e])
    cases g1
    obtain ⟨x, hx, -⟩ := g2
    exact ⟨x, hx⟩)
  exact ⟨w, rfl, by rw [List.length_map] at h2; exact h2⟩
/-- the reference's row of third points, in a heap of the types -/
theorem r_mW {hp : amH} (h : bHk 84 bTT hp) : ∃ w : List Int32, mW hp w ∧ ∀ i, i < 229 → rN hp 67 i = (w.getD i 0).toInt := by
  obtain ⟨c, h1, h2⟩ := bHk_at h (i := 67) (by decide) (D := (32, 229, [.inl (0, 4294967295)])) rfl
  obtain ⟨w, rfl, hw⟩ := r_ints h2
  obtain ⟨d, g1, g2, g3, g4⟩ := bHk_at h (i := 66) (by decide) rfl
  obtain ⟨t, vs⟩ := d
  have ht : t = 11 := g2
  subst ht
  have g3 : vs.length = 33 := g3
  have hlt : 0 < vs.length := by omega
  obtain ⟨y, k1, k2⟩ := g4 0 vs[0] (List.getElem?_eq_getElem hlt)
  cases k1
  obtain ⟨i, e1, -, e3⟩ := k2
  have hi : i = 67 := by simpa using e3
  subst hi
  refine ⟨w, ⟨⟨vs, g1, by rw [List.getElem?_eq_getElem hlt, e1]⟩, h1, hw⟩, fun i hi => ?_⟩
  unfold rN bFld
  rw [h1]
  dsimp only
  rw [List.getElem?_map, List.getElem?_eq_getElem (by omega), List.getD_eq_getElem?_getD, List.getElem?_eq_getElem (by omega)]
  rfl
noncomputable def be_h203 : bEt := (203, ([.inr (.inr [66])], [], 0, [], [], [(some (.inl (2147483651, 2147483663)), [])]), [], 0, [])
noncomputable def be_h204 : bEt := (204, ([.inr (.inr [66]), .inl (2147483648, 2147483662), .inl (2147483648, 2147483662)], [], 0, [], [], [(some (.inl (2147483647, 2147483662)), [])]), [], 0, [])
theorem h203_s : bSem amGG P0 84 bTT be_h203.1 be_h203.2.1 := by
  refine ⟨am_m203, rfl, fun av hp hH hP ha _ => ?_⟩
  match av, ha with
  | [v], ha =>
    obtain ⟨⟨i, e, -, hi⟩, -⟩ := ha
    subst e
    have hi : i = 66 := by simpa using hi
    subst hi
    obtain ⟨w, hw, hr⟩ := r_mW hH
    refine ⟨6, .inl (some (.int (w.getD 0 0))), hp, m_points hw 0 _ 0 0, hH, hP, bFr.refl _ _, _, List.mem_cons_self, ⟨_, rfl, ?_⟩, fun f hf => by cases hf⟩
    have h0 := hr 0 (by omega)
    have h1 := hP.1.1
    have h2 := hP.1.2.1
    rw [h0] at h1 h2
    have := aOff_eq (w.getD 0 0)
    dsimp only
    omega
theorem r_nat {x : Int32} (h1 : 2147483648 ≤ aOff x) (h2 : aOff x ≤ 2147483662) : ∃ n : Nat, x.toInt = (n : Int) ∧ n < 15 := by
  have := aOff_eq x
  exact ⟨aOff x - 2147483648, by omega, by omega⟩
theorem h204_s : bSem amGG P0 84 bTT be_h204.1 be_h204.2.1 := by
  refine ⟨am_m204, rfl, fun av hp hH hP ha _ => ?_⟩
  match av, ha with
  | [v, a, b], ha =>
    obtain ⟨⟨i, e, -, hi⟩, ⟨x, ea, x1, x2⟩, ⟨y, eb, y1, y2⟩, -⟩ := ha
    subst e
    subst ea
    subst eb
    have hi : i = 66 := by simpa using hi
    subst hi
    obtain ⟨w, hw, hr⟩ := r_mW hH
    obtain ⟨a, ha, ha2⟩ := r_nat x1 x2
    obtain ⟨b, hb, hb2⟩ := r_nat y1 y2
    refine ⟨12, .inl (some (.int (w.getD (4 + 15 * a + b) 0))), hp, m_thirdOf hw ha hb ha2 hb2 0 _ 0 0, hH, hP, bFr.refl _ _, _, List.mem_cons_self, ⟨_, rfl, ?_⟩, fun f hf => by cases hf⟩
    have h0 := hr (4 + 15 * a + b) (by omega)
    have h2 := hP.1.2.1
    have := aOff_eq (w.getD (4 + 15 * a + b) 0)
    rcases hP.1.2.2 a b ha2 hb2 with g | ⟨c, g1, -, -, g4, -⟩
    · dsimp only
      omega
    · dsimp only
      omega
end
/-! ##### 15.b.copy ##### -/
section
/-! ===== the reference: whole rows copied ===== -/
theorem cpy_get (src : List Int32) : ∀ (n s0 d0 : Nat) (dst : List Int32) (i : Nat), d0 + n ≤ dst.length → (cpy src s0 d0 n dst).getD i 0 = if d0 ≤ i ∧ i < d0 + n then src.getD (s0 + (i - d0)) 0 else dst.getD i 0
  | 0, s0, d0, dst, i, _ => by
    rw [if_neg (by omega)]
    rfl
  | n + 1, s0, d0, dst, i, h => by
    unfold cpy
    rw [cpy_get src n (s0 + 1) (d0 + 1) _ i (by rw [List.length_set]; omega)]
    by_cases h1 : d0 + 1 ≤ i ∧ i < d0 + 1 + n
    · rw [if_pos h1, if_pos (by omega)]
      congr 1
      omega
    · rw [if_neg h1]
      by_cases h2 : i = d0
      · subst h2
        rw [if_pos (by omega), Nat.sub_self, Nat.add_zero, List.getD_eq_getElem?_getD, List.getElem?_set_self (by omega)]
        rfl
      · rw [if_neg (by omega), List.getD_eq_getElem?_getD, List.getElem?_set_ne (fun z => h2 z.symm), ← List.getD_eq_getElem?_getD]
theorem s198_0 : am_m198.1 = (0, .iconst 0, 0, 0) :: (1, .istore 5, 0, 0) :: amSeek am_m198.1 3 := rfl
/-- a heap of the types, one row of ints set -/
theorem r_set {hp : amH} (hH : bHk 84 bTT hp) {q k : Nat} {dst w : List Int32} (hT : bTT q = some (32, k, [.inl (0, 4294967295)])) (h2 : hp[q]? = some (32, dst.map Value.int)) (hw : w.length = k) :
    bHk 84 bTT (hp.set q (32, w.map Value.int)) ∧ bFr [(q, 999)] hp (hp.set q (32, w.map Value.int)) ∧ ∀ i, i < k → rN (hp.set q (32, w.map Value.int)) q i = (w.getD i 0).toInt := by
  refine ⟨bHk_set hH hT ⟨rfl, by rw [List.length_map]; exact hw, fun j u hu => ⟨.inl (0, 4294967295), rfl, ?_⟩⟩, fun c j hc => ?_, fun i hi => ?_⟩
  · dsimp only at hu
    rw [List.getElem?_map] at hu
    obtain ⟨x, -, e⟩ := Option.map_eq_some_iff.mp hu
    exact ⟨x, e.symm, Nat.zero_le _, bOff_le x⟩
  · rw [bFld_set h2, if_neg]
    intro z
    subst z
    simp [bIn] at hc
    cases h9 : Nat.beq 999 j <;> rw [h9] at hc <;> cases hc
  · unfold rN
    rw [bFld_set h2, if_pos rfl]
    dsimp only
    rw [List.getElem?_map, List.getElem?_eq_getElem (by omega), List.getD_eq_getElem?_getD, List.getElem?_eq_getElem (by omega)]
    rfl
theorem r_row {hp : amH} (hH : bHk 84 bTT hp) {q k : Nat} (hq : q < 84) (hT : bTT q = some (32, k, [.inl (0, 4294967295)])) : ∃ w : List Int32, hp[q]? = some (32, w.map Value.int) ∧ w.length = k ∧ ∀ i, i < k → rN hp q i = (w.getD i 0).toInt := by
  obtain ⟨c, h1, h2⟩ := bHk_at hH hq hT
  obtain ⟨w, rfl, hw⟩ := r_ints h2
  refine ⟨w, h1, hw, fun i hi => ?_⟩
  unfold rN bFld
  rw [h1]
  dsimp only
  rw [List.getElem?_map, List.getElem?_eq_getElem (by omega), List.getD_eq_getElem?_getD, List.getElem?_eq_getElem (by omega)]
  rfl
/-- copies between two rows -/
theorem r_copy {hp : amH} (hH : bHk 84 bTT hp) {p q kp kq : Nat} (hp84 : p < 84) (hq84 : q < 84) (hpq : ¬ p = q) (hTp : bTT p = some (32, kp, [.inl (0, 4294967295)])) (hTq : bTT q = some (32, kq, [.inl (0, 4294967295)])) {a b n : Int32} {s0 d0 N : Nat} (ha : a.toInt = (s0 : Int)) (hb : b.toInt = (d0 : Int)) (hn : n.toInt = (N : Int)) (hs : s0 + N ≤ kp) (hd : d0 + N ≤ kq) (hk : kp ≤ 100000 ∧ kq ≤ 100000) (d : Nat) :
    ∃ hp1, amRun amGG none (15 * N + 12) d am_m198 am_m198.1 0 (lv_args 0 [.ref p, .int a, .ref q, .int b, .int n]) [] hp 0 0 = some (.inl none, hp1, 0, 0) ∧ bHk 84 bTT hp1 ∧ bFr [(q, 999)] hp hp1 ∧ ∀ i, i < kq → rN hp1 q i = if d0 ≤ i ∧ i < d0 + N then rN hp p (s0 + (i - d0)) else rN hp q i := by
  obtain ⟨src, e1, l1, r1⟩ := r_row hH hp84 hTp
  obtain ⟨dst, e2, l2, r2⟩ := r_row hH hq84 hTq
  have hc := m_copies_loop (G := amGG) hpq ha hb hn (by omega) (by omega) N 0 0 hp dst 0 d 0 0 (by omega) (by decide) e1 e2 (by omega) (by omega)
  simp only [Nat.add_zero] at hc
  have hlen : (cpy src s0 d0 N dst).length = kq := by rw [cpy_len, l2]
  obtain ⟨g1, g2, g3⟩ := r_set hH hTq e2 hlen
  refine ⟨_, ?_, g1, g2, fun i hi => ?_⟩
  · rw [Nat.zero_add] at hc
    rw [← hc, s198_0, show 15 * N + 12 = 15 * N + 10 + 2 by omega]
    simp [lv_args, Value.category, amRun, amDo, amStep, amNext, amSt1, isI_int, p198b, amSet1]
    rw [← s198_0, s198_3]
  · rw [g3 i hi, cpy_get _ _ _ _ _ _ (by omega)]
    split
    · next h => rw [r1 _ (by omega)]
    · rw [r2 i hi]
theorem r_fr {W : List (Nat × Nat)} {hp hp1 : amH} (h : bFr W hp hp1) {c i : Nat} (hc : bIn W c i = false) : rN hp1 c i = rN hp c i := rN_eq (h c i hc)
end
/-! ##### 15.c.many ##### -/
section
/-! ===== at most 35 triples ===== -/
theorem nd_len : ∀ (L M : List Nat), L.Nodup → (∀ s ∈ L, s ∈ M) → L.length ≤ M.length
  | [], M, _, _ => Nat.zero_le _
  | x :: L, M, h1, h2 => by
    obtain ⟨g1, g2⟩ := List.nodup_cons.mp h1
    have hx : x ∈ M := h2 x List.mem_cons_self
    have := nd_len L (M.erase x) g2 (fun s hs => (List.mem_erase_of_ne (fun z => g1 (by rw [← z]; exact hs))).mpr (h2 s (List.mem_cons_of_mem _ hs)))
    rw [List.length_erase_of_mem hx] at this
    have hp := List.length_pos_of_mem hx
    rw [List.length_cons]
    omega
/-- pairs of triples that were found before the pair N = 15 a + b -/
noncomputable def gL (r : Nat → Int) (N : Nat) (L : List Nat) : Prop := L.Nodup ∧ ∀ s ∈ L, ∃ x y z : Nat, s = 15 * x + y ∧ x < y ∧ y < 15 ∧ r (4 + 15 * x + y) = (z : Int) ∧ (y < z → s < N) ∧ (x < z → z < y → 15 * x + z < N) ∧ (z < x → 15 * z + x < N)
theorem gL_nil (r : Nat → Int) (N : Nat) : gL r N [] := ⟨List.nodup_nil, fun s h => by cases h⟩
theorem gL_mono {r : Nat → Int} {N N1 : Nat} {L : List Nat} (h : gL r N L) (hN : N ≤ N1) : gL r N1 L :=
  ⟨h.1, fun s hs => by
    obtain ⟨x, y, z, h1, h2, h3, h4, h5, h6, h7⟩ := h.2 s hs
    exact ⟨x, y, z, h1, h2, h3, h4, fun u => Nat.lt_of_lt_of_le (h5 u) hN, fun u v => Nat.lt_of_lt_of_le (h6 u v) hN, fun u => Nat.lt_of_lt_of_le (h7 u) hN⟩⟩
theorem gL_len {r : Nat → Int} {N : Nat} {L : List Nat} (h : gL r N L) : L.length ≤ 105 := by
  have := nd_len L ((List.range 225).filter (fun s => decide (s / 15 < s % 15))) h.1 (fun s hs => by
    obtain ⟨x, y, z, h1, h2, h3, -⟩ := h.2 s hs
    refine List.mem_filter.mpr ⟨List.mem_range.mpr (by omega), decide_eq_true (by omega)⟩)
  have e : ((List.range 225).filter (fun s => decide (s / 15 < s % 15))).length = 105 := by decide +kernel
  omega
theorem Vf_at {r : Nat → Int} (h : Vf r) {a b c : Nat} (ha : a < 15) (hb : b < 15) (e : r (4 + 15 * a + b) = (c : Int)) : (a : Int) < r 0 ∧ (b : Int) < r 0 ∧ (c : Int) < r 0 ∧ a ≠ b ∧ a ≠ c ∧ b ≠ c ∧ r (4 + 15 * b + a) = (c : Int) ∧ r (4 + 15 * a + c) = (b : Int) ∧ r (4 + 15 * b + c) = (a : Int) := by
  have h2 := h.2.1
  rcases h.2.2 a b ha hb with g | ⟨c1, g1, g2, g3, g4, g5, g6, g7, g8, g9⟩
  · omega
  · have : c1 = c := by omega
    subst this
    rcases h.2.2 b a hb ha with k | ⟨c2, k1, k2, k3, k4, k5, k6, k7, k8, k9⟩
    · omega
    · have : c2 = c1 := by omega
      subst this
      exact ⟨g2, g3, g4, g5, g6, g7, g8, g9, k9⟩
theorem gL_add {r : Nat → Int} (hV : Vf r) {N : Nat} {L : List Nat} (h : gL r N L) {a b c : Nat} (hab : a < b) (hbc : b < c) (hc : c < 15) (e : r (4 + 15 * a + b) = (c : Int)) (hN : N ≤ 15 * a + b) : gL r (15 * a + b + 1) ((15 * a + b) :: (15 * a + c) :: (15 * b + c) :: L) := by
  obtain ⟨-, -, -, -, -, -, e1, e2, e3⟩ := Vf_at hV (by omega) (by omega) e
  have key : ∀ x y z : Nat, x < y → y < 15 → r (4 + 15 * x + y) = (z : Int) → 15 * x + y ∈ L → (y < z → 15 * x + y < N) ∧ (x < z → z < y → 15 * x + z < N) ∧ (z < x → 15 * z + x < N) := by
    intro x y z hxy hy ez hm
    obtain ⟨x1, y1, z1, h1, h2, h3, h4, h5, h6, h7⟩ := h.2 _ hm
    have : x1 = x := by omega
    subst this
    have : y1 = y := by omega
    subst this
    have : z1 = z := by omega
    subst this
    exact ⟨h5, h6, h7⟩
  have n1 : ¬ 15 * a + b ∈ L := fun hm => by have := (key a b c hab (by omega) e hm).1 hbc; omega
  have n2 : ¬ 15 * a + c ∈ L := fun hm => by have := (key a c b (by omega) hc e2 hm).2.1 hab hbc; omega
  have n3 : ¬ 15 * b + c ∈ L := fun hm => by have := (key b c a hbc hc e3 hm).2.2 hab; omega
  refine ⟨List.nodup_cons.mpr ⟨fun hm => ?_, List.nodup_cons.mpr ⟨fun hm => ?_, List.nodup_cons.mpr ⟨n3, h.1⟩⟩⟩, fun s hs => ?_⟩
  · rcases List.mem_cons.mp hm with z | hm
    · omega
    · rcases List.mem_cons.mp hm with z | hm
      · omega
      · exact n1 hm
  · rcases List.mem_cons.mp hm with z | hm
    · omega
    · exact n2 hm
  · rcases List.mem_cons.mp hs with rfl | hs
    · exact ⟨a, b, c, rfl, hab, by omega, e, fun _ => by omega, fun _ _ => by omega, fun _ => by omega⟩
    · rcases List.mem_cons.mp hs with rfl | hs
      · exact ⟨a, c, b, rfl, by omega, hc, e2, fun _ => by omega, fun _ _ => by omega, fun _ => by omega⟩
      · rcases List.mem_cons.mp hs with rfl | hs
        · exact ⟨b, c, a, rfl, hbc, hc, e3, fun _ => by omega, fun _ _ => by omega, fun _ => by omega⟩
        · exact (gL_mono h (Nat.le_succ_of_le hN)).2 s hs
end
/-! ##### 15.d.lays ##### -/
section
/-! ===== laysTriples: its ways ===== -/
theorem bWp_of {G : Nat → Option amM} {d : Nat} {M : amM} {cs cs1 : amP} {pc pc1 : Nat} {cl cl1 : amL} {st st1 : List Value} {hp hp1 : amH} {Q : (Option Value ⊕ Nat) → amH → Prop} (k : Nat) (h : ∀ f, amRun G none (f + k) d M cs pc cl st hp 0 0 = amRun G none f d M cs1 pc1 cl1 st1 hp1 0 0) (hw : bWp G d M cs1 pc1 cl1 st1 hp1 Q) : bWp G d M cs pc cl st hp Q := by
  obtain ⟨f, y, hp2, h1, h2⟩ := hw
  exact ⟨f + k, y, hp2, by rw [h f]; exact h1, h2⟩
theorem bWp_ofK {G : Nat → Option amM} {d : Nat} {M : amM} {cs cs1 : amP} {pc pc1 : Nat} {cl cl1 : amL} {st st1 : List Value} {hp hp1 : amH} {Q : (Option Value ⊕ Nat) → amH → Prop} (K k : Nat) (h : ∀ f, amRun G none (f + (K + k)) d M cs pc cl st hp 0 0 = amRun G none (f + K) d M cs1 pc1 cl1 st1 hp1 0 0) (hw : bWp G d M cs1 pc1 cl1 st1 hp1 Q) : bWp G d M cs pc cl st hp Q := by
  obtain ⟨f, y, hp2, h1, h2⟩ := hw
  exact ⟨f + (K + k), y, hp2, by rw [h f]; exact amRun_more _ _ _ _ _ _ _ _ _ _ _ _ h1 (f + K) d (Nat.le_add_right _ _) (Nat.le_refl _), h2⟩
theorem mg_ne {cl : amL} {i j : Nat} {v w : Value} (h : amGet cl j = some w) (hw : w.category = 1) (hij : ¬ i = j) : amGet (amSet1 cl i v) j = some w := by
  unfold amSet1
  unfold amGet
  rw [if_neg hij]
  induction cl with
  | nil => cases h
  | cons q r ih =>
    unfold amGet at h
    by_cases e : q.1 = j
    · rw [if_pos e] at h
      have h := Option.some.inj h
      have z : (!(q.1 == i) && !(q.1 + 1 == i && q.2.category == 2)) = true := by
        rw [h, hw, e]
        simp [Ne.symm hij]
      simp only [List.filter_cons, z, if_true]
      unfold amGet
      rw [if_pos e, h]
    · rw [if_neg e] at h
      by_cases z : (!(q.1 == i) && !(q.1 + 1 == i && q.2.category == 2)) = true
      · simp only [List.filter_cons, z, if_true]
        unfold amGet
        rw [if_neg e]
        exact ih h
      · simp only [List.filter_cons, z, if_false]
        exact ih h
theorem mg_eq {cl : amL} {i : Nat} {v : Value} : amGet (amSet1 cl i v) i = some v := by
  unfold amSet1
  unfold amGet
  rw [if_pos rfl]
theorem rv_wr {hp : amH} {a n : Nat} {vs : List Value} {i v : Int32} {r : List Value} (h : hp[a]? = some (32, vs)) (hi : i.toInt = (n : Int)) (hn : n < vs.length) : amASt 32 amIsI id hp (.int v :: .int i :: .ref a :: r) = some (r, hp.set a (32, vs.set n (.int v))) := by
  obtain ⟨e1, e2⟩ := rw_in (m := vs.length) hi hn
  simp only [amASt, h, e2, e1, amIsI, and_self, if_true, id]
theorem g203 : amGG 203 = some am_m203 := rfl
theorem p203a : am_m203.2.2.1 = 1 := rfl
theorem p203b : am_m203.2.1 = 1 := rfl
theorem p203c : am_m203.2.2.2.2.2.2 = 11 := rfl
theorem m_pointsF {hp : amH} {w : List Int32} (h : mW hp w) (F D : Nat) (hF : 6 ≤ F) :
    amRun amGG none F D am_m203 am_m203.1 0 [(0, .ref 66)] [] hp 0 0 = some (.inl (some (.int (w.getD 0 0))), hp, 0, 0) :=
  amRun_more 6 none 0 am_m203 am_m203.1 0 _ [] hp 0 0 _ (m_points h 0 0 0 0) F D hF (Nat.zero_le _)
theorem p211r : am_m211.2.2.2.2.1 = none := rfl
theorem y11_12 : amFty 11 12 = FieldType.int := rfl
theorem p211b : am_m211.2.1 = 4 := rfl
theorem s211_7 : amSeek am_m211.1 7 = (7, .iload_n 1, 0, 0) :: (8, .aload_n 0, 0, 0) :: (9, .invokevirtual 95, 203, 0) :: (12, .if_icmp .ge 102, 114, 0) :: (15, .iload_n 1, 0, 0) :: (16, .iconst 1, 0, 0) :: (17, .iadd, 0, 0) :: (18, .istore_n 2, 0, 0) :: amSeek am_m211.1 19 := rfl
theorem s211_19 : amSeek am_m211.1 19 = (19, .iload_n 2, 0, 0) :: (20, .aload_n 0, 0, 0) :: (21, .invokevirtual 95, 203, 0) :: (24, .if_icmp .ge 84, 108, 0) :: amSeek am_m211.1 27 := rfl
theorem s211_27 : amSeek am_m211.1 27 = (27, .aload_n 0, 0, 0) :: (28, .iload_n 1, 0, 0) :: (29, .iload_n 2, 0, 0) :: (30, .invokevirtual 81, 204, 0) :: (33, .istore_n 3, 0, 0) :: (34, .iload_n 3, 0, 0) :: (35, .iload_n 2, 0, 0) :: (36, .if_icmp .ge 6, 42, 0) :: (39, .goto 63, 102, 0) :: amSeek am_m211.1 42 := rfl
theorem s211_42 : amSeek am_m211.1 42 = (42, .aload_n 0, 0, 0) :: (43, .getfield 25, 11, 8) :: (46, .aload_n 0, 0, 0) :: (47, .getfield 92, 11, 12) :: (50, .iload_n 1, 0, 0) :: (51, .iastore, 0, 0) :: amSeek am_m211.1 52 := rfl
theorem s211_52 : amSeek am_m211.1 52 = (52, .aload_n 0, 0, 0) :: (53, .getfield 28, 11, 9) :: (56, .aload_n 0, 0, 0) :: (57, .getfield 92, 11, 12) :: (60, .iload_n 2, 0, 0) :: (61, .iastore, 0, 0) :: amSeek am_m211.1 62 := rfl
theorem s211_62 : amSeek am_m211.1 62 = (62, .aload_n 0, 0, 0) :: (63, .getfield 31, 11, 10) :: (66, .aload_n 0, 0, 0) :: (67, .getfield 92, 11, 12) :: (70, .iload_n 3, 0, 0) :: (71, .iastore, 0, 0) :: amSeek am_m211.1 72 := rfl
theorem s211_72 : amSeek am_m211.1 72 = (72, .aload_n 0, 0, 0) :: (73, .getfield 34, 11, 11) :: (76, .aload_n 0, 0, 0) :: (77, .getfield 92, 11, 12) ::
  (80, .iconst 1, 0, 0) :: (81, .iload_n 1, 0, 0) :: (82, .ishl, 0, 0) :: (83, .iconst 1, 0, 0) :: (84, .iload_n 2, 0, 0) :: (85, .ishl, 0, 0) :: (86, .ior, 0, 0) :: (87, .iconst 1, 0, 0) :: (88, .iload_n 3, 0, 0) :: (89, .ishl, 0, 0) :: (90, .ior, 0, 0) :: (91, .iastore, 0, 0) :: amSeek am_m211.1 92 := rfl
theorem s211_92 : amSeek am_m211.1 92 = (92, .aload_n 0, 0, 0) :: (93, .dup, 0, 0) :: (94, .getfield 92, 11, 12) :: (97, .iconst 1, 0, 0) :: (98, .iadd, 0, 0) :: (99, .putfield 92, 11, 12) :: amSeek am_m211.1 102 := rfl
theorem s211_102 : amSeek am_m211.1 102 = (102, .iinc 2 1, 0, 0) :: (105, .goto (-86), 19, 0) :: amSeek am_m211.1 108 := rfl
theorem s211_108 : amSeek am_m211.1 108 = (108, .iinc 1 1, 0, 0) :: (111, .goto (-104), 7, 0) :: amSeek am_m211.1 114 := rfl
theorem s211_114 : amSeek am_m211.1 114 = [(114, .return_, 0, 0)] := rfl
noncomputable def msk (x y z : Int32) : Int32 := 1 <<< (x &&& 31) ||| 1 <<< (y &&& 31) ||| 1 <<< (z &&& 31)
section W211
variable {cl : amL} {hp : amH} {cm : List Value} {vs : List Value} {w : List Int32} {mi a b c : Int32} {m : Nat} {Q : (Option Value ⊕ Nat) → amH → Prop}
theorem w211_42 (h66 : hp[66]? = some (11, cm)) (c8 : cm[8]? = some (.ref 72)) (c12 : cm[12]? = some (.int mi)) (h72 : hp[72]? = some (32, vs)) (hm : mi.toInt = (m : Int)) (hv : m < vs.length) (l0 : amGet cl 0 = some (.ref 66)) (l1 : amGet cl 1 = some (.int a))
    (hw : bWp amGG 1 am_m211 (amSeek am_m211.1 52) 52 cl [] (hp.set 72 (32, vs.set m (.int a))) Q) : bWp amGG 1 am_m211 (amSeek am_m211.1 42) 42 cl [] hp Q := by
  refine bWp_of 6 (fun f => ?_) hw
  rw [s211_42]
  have hwr := rv_wr (r := []) (v := a) h72 hm hv
  simp [amRun, amDo, amStep, amLd, l0, l1, isI_int, isA_ref, amNext, amFGet, h66, c8, c12, hwr]
  simp [s211_52, amNext]
theorem w211_52 (h66 : hp[66]? = some (11, cm)) (c8 : cm[9]? = some (.ref 73)) (c12 : cm[12]? = some (.int mi)) (h72 : hp[73]? = some (32, vs)) (hm : mi.toInt = (m : Int)) (hv : m < vs.length) (l0 : amGet cl 0 = some (.ref 66)) (l1 : amGet cl 2 = some (.int a))
    (hw : bWp amGG 1 am_m211 (amSeek am_m211.1 62) 62 cl [] (hp.set 73 (32, vs.set m (.int a))) Q) : bWp amGG 1 am_m211 (amSeek am_m211.1 52) 52 cl [] hp Q := by
  refine bWp_of 6 (fun f => ?_) hw
  rw [s211_52]
  have hwr := rv_wr (r := []) (v := a) h72 hm hv
  simp [amRun, amDo, amStep, amLd, l0, l1, isI_int, isA_ref, amNext, amFGet, h66, c8, c12, hwr, f4_2]
  simp [s211_62, amNext]
theorem w211_62 (h66 : hp[66]? = some (11, cm)) (c8 : cm[10]? = some (.ref 74)) (c12 : cm[12]? = some (.int mi)) (h72 : hp[74]? = some (32, vs)) (hm : mi.toInt = (m : Int)) (hv : m < vs.length) (l0 : amGet cl 0 = some (.ref 66)) (l1 : amGet cl 3 = some (.int a))
    (hw : bWp amGG 1 am_m211 (amSeek am_m211.1 72) 72 cl [] (hp.set 74 (32, vs.set m (.int a))) Q) : bWp amGG 1 am_m211 (amSeek am_m211.1 62) 62 cl [] hp Q := by
  refine bWp_of 6 (fun f => ?_) hw
  rw [s211_62]
  have hwr := rv_wr (r := []) (v := a) h72 hm hv
  simp [amRun, amDo, amStep, amLd, l0, l1, isI_int, isA_ref, amNext, amFGet, h66, c8, c12, hwr, f4_3]
  simp [s211_72, amNext]
theorem w211_72 (h66 : hp[66]? = some (11, cm)) (c8 : cm[11]? = some (.ref 75)) (c12 : cm[12]? = some (.int mi)) (h72 : hp[75]? = some (32, vs)) (hm : mi.toInt = (m : Int)) (hv : m < vs.length) (l0 : amGet cl 0 = some (.ref 66)) (l1 : amGet cl 1 = some (.int a)) (l2 : amGet cl 2 = some (.int b)) (l3 : amGet cl 3 = some (.int c))
    (hw : bWp amGG 1 am_m211 (amSeek am_m211.1 92) 92 cl [] (hp.set 75 (32, vs.set m (.int (msk a b c)))) Q) : bWp amGG 1 am_m211 (amSeek am_m211.1 72) 72 cl [] hp Q := by
  refine bWp_of 16 (fun f => ?_) hw
  rw [s211_72]
  have hwr := rv_wr (r := []) (v := msk a b c) h72 hm hv
  unfold msk at hwr ⊢
  simp [amRun, amDo, amStep, amLd, l0, l1, l2, l3, isI_int, isA_ref, amNext, amFGet, amII, h66, c8, c12, hwr, f4_2, f4_3]
  simp [s211_92, amNext]
theorem w211_92 (h66 : hp[66]? = some (11, cm)) (c12 : cm[12]? = some (.int mi)) (l0 : amGet cl 0 = some (.ref 66)) (l2 : amGet cl 2 = some (.int b))
    (hw : bWp amGG 1 am_m211 (amSeek am_m211.1 19) 19 (amSet1 cl 2 (.int (b + 1))) [] (hp.set 66 (11, cm.set 12 (.int (mi + 1)))) Q) : bWp amGG 1 am_m211 (amSeek am_m211.1 92) 92 cl [] hp Q := by
  have hcl : 12 < cm.length := by
    rcases Nat.lt_or_ge 12 cm.length with z | z
    · exact z
    · rw [List.getElem?_eq_none z] at c12; cases c12
  have c12' : cm[12] = .int mi := by rw [List.getElem?_eq_getElem hcl] at c12; exact Option.some.inj c12
  refine bWp_of 8 (fun f => ?_) hw
  rw [s211_92, s211_102, s211_108, s211_114]
  simp [Value.category, amRun, amDo, amStep, amLd, l0, l2, isI_int, isA_ref, amNext, amFGet, amFSet, y11_12, amII, h66, c12, c12', hcl, narrow, fits, amInc, p211b]
theorem w211_102 (l2 : amGet cl 2 = some (.int b))
    (hw : bWp amGG 1 am_m211 (amSeek am_m211.1 19) 19 (amSet1 cl 2 (.int (b + 1))) [] hp Q) : bWp amGG 1 am_m211 (amSeek am_m211.1 102) 102 cl [] hp Q := by
  refine bWp_of 2 (fun f => ?_) hw
  rw [s211_102, s211_108, s211_114]
  simp [amRun, amDo, amStep, amNext, amInc, l2, p211b]
theorem w211_108 (l2 : amGet cl 1 = some (.int b))
    (hw : bWp amGG 1 am_m211 (amSeek am_m211.1 7) 7 (amSet1 cl 1 (.int (b + 1))) [] hp Q) : bWp amGG 1 am_m211 (amSeek am_m211.1 108) 108 cl [] hp Q := by
  refine bWp_of 2 (fun f => ?_) hw
  rw [s211_108, s211_114]
  simp [amRun, amDo, amStep, amNext, amInc, l2, p211b]
theorem w211_114 (hQ : Q (.inl none) hp) : bWp amGG 1 am_m211 (amSeek am_m211.1 114) 114 cl [] hp Q :=
  ⟨1, .inl none, hp, by rw [s211_114]; simp [amRun, amDo, amStep, amRetV, bCnt, p211r], hQ⟩
theorem w211_7 (h : mW hp w) (hok : amOkL hp.length cl = true) (h66 : hp[66]? = some (11, cm)) (l0 : amGet cl 0 = some (.ref 66)) (l1 : amGet cl 1 = some (.int a))
    (hw1 : w.getD 0 0 ≤ a → bWp amGG 1 am_m211 (amSeek am_m211.1 114) 114 cl [] hp Q)
    (hw2 : ¬ w.getD 0 0 ≤ a → bWp amGG 1 am_m211 (amSeek am_m211.1 19) 19 (amSet1 cl 2 (.int (a + 1))) [] hp Q) : bWp amGG 1 am_m211 (amSeek am_m211.1 7) 7 cl [] hp Q := by
  have hl : 66 < hp.length := a_lt h66
  have h1' : hp[66] = (11, cm) := by rw [List.getElem?_eq_getElem hl] at h66; exact Option.some.inj h66
  have q1 := m_pointsF h
  by_cases z : w.getD 0 0 ≤ a
  · have hw := hw1 z
    generalize w.getD 0 0 = p at q1 z
    refine bWp_ofK 20 4 (fun f => ?_) hw
    rw [s211_7]
    simp [amRun, amDo, amStep, amLd, l0, l1, isI_int, isA_ref, amNext, amCall, g203, lv_args, hok, amOkS, amOk, amRecv, h66, hl, Value.category, q1, narrow, p203a, p203b, p203c, h1', amCmp, amCmpP, z]
  · have hw := hw2 z
    generalize w.getD 0 0 = p at q1 z
    refine bWp_ofK 20 8 (fun f => ?_) hw
    rw [s211_7, s211_19]
    simp [amRun, amDo, amStep, amLd, l0, l1, isI_int, isA_ref, amNext, amCall, g203, lv_args, hok, amOkS, amOk, amRecv, h66, hl, Value.category, q1, narrow, p203a, p203b, p203c, h1', amCmp, amCmpP, z, amII, amSt1, p211b]
theorem w211_19 (h : mW hp w) (hok : amOkL hp.length cl = true) (h66 : hp[66]? = some (11, cm)) (l0 : amGet cl 0 = some (.ref 66)) (l1 : amGet cl 2 = some (.int b))
    (hw1 : w.getD 0 0 ≤ b → bWp amGG 1 am_m211 (amSeek am_m211.1 108) 108 cl [] hp Q)
    (hw2 : ¬ w.getD 0 0 ≤ b → bWp amGG 1 am_m211 (amSeek am_m211.1 27) 27 cl [] hp Q) : bWp amGG 1 am_m211 (amSeek am_m211.1 19) 19 cl [] hp Q := by
  have hl : 66 < hp.length := a_lt h66
  have h1' : hp[66] = (11, cm) := by rw [List.getElem?_eq_getElem hl] at h66; exact Option.some.inj h66
  have q1 := m_pointsF h
  by_cases z : w.getD 0 0 ≤ b
  · have hw := hw1 z
    generalize w.getD 0 0 = p at q1 z
    refine bWp_ofK 20 4 (fun f => ?_) hw
    rw [s211_19, s211_27]
    simp [amRun, amDo, amStep, amLd, l0, l1, isI_int, isA_ref, amNext, amCall, g203, lv_args, hok, amOkS, amOk, amRecv, h66, hl, Value.category, q1, narrow, p203a, p203b, p203c, h1', amCmp, amCmpP, z]
  · have hw := hw2 z
    generalize w.getD 0 0 = p at q1 z
    refine bWp_ofK 20 4 (fun f => ?_) hw
    rw [s211_19, s211_27]
    simp [amRun, amDo, amStep, amLd, l0, l1, isI_int, isA_ref, amNext, amCall, g203, lv_args, hok, amOkS, amOk, amRecv, h66, hl, Value.category, q1, narrow, p203a, p203b, p203c, h1', amCmp, amCmpP, z]
theorem w211_27 (h : mW hp w) (hok : amOkL hp.length cl = true) (h66 : hp[66]? = some (11, cm)) (l0 : amGet cl 0 = some (.ref 66)) (l1 : amGet cl 1 = some (.int a)) (l2 : amGet cl 2 = some (.int b)) {x y : Nat} (ha : a.toInt = (x : Int)) (hb : b.toInt = (y : Int)) (hx : x < 15) (hy : y < 15)
    (hw1 : w.getD (4 + 15 * x + y) 0 < b → bWp amGG 1 am_m211 (amSeek am_m211.1 102) 102 (amSet1 cl 3 (.int (w.getD (4 + 15 * x + y) 0))) [] hp Q)
    (hw2 : ¬ w.getD (4 + 15 * x + y) 0 < b → bWp amGG 1 am_m211 (amSeek am_m211.1 42) 42 (amSet1 cl 3 (.int (w.getD (4 + 15 * x + y) 0))) [] hp Q) : bWp amGG 1 am_m211 (amSeek am_m211.1 27) 27 cl [] hp Q := by
  have hl : 66 < hp.length := a_lt h66
  have h1' : hp[66] = (11, cm) := by rw [List.getElem?_eq_getElem hl] at h66; exact Option.some.inj h66
  have q1 := m_thirdOfF h ha hb hx hy
  generalize w.getD (4 + 15 * x + y) 0 = p at q1 hw1 hw2
  have k3 : amGet (amSet1 cl 3 (.int p)) 3 = some (.int p) := mg_eq
  have k2 : amGet (amSet1 cl 3 (.int p)) 2 = some (.int b) := mg_ne l2 rfl (by decide)
  by_cases z : p < b
  · have hw := hw1 z
    have z2 : ¬ b ≤ p := fun u => by
      have := Int32.lt_iff_toInt_lt.mp z
      have := Int32.le_iff_toInt_le.mp u
      omega
    refine bWp_ofK 20 9 (fun f => ?_) hw
    rw [s211_27, s211_42]
    simp [amRun, amDo, amStep, amLd, l0, l1, l2, k2, k3, f4_2, f4_3, isI_int, isA_ref, amNext, amCall, g204, lv_args, hok, amOkS, amOk, amRecv, h66, hl, Value.category, q1, narrow, p204a, p204b, p204c, h1', amCmp, amCmpP, z2, amSt1, p211b]
  · have hw := hw2 z
    have z2 : b ≤ p := Int32.le_iff_toInt_le.mpr (Int.not_lt.mp (fun u => z (Int32.lt_iff_toInt_lt.mpr u)))
    refine bWp_ofK 20 8 (fun f => ?_) hw
    rw [s211_27]
    simp [amRun, amDo, amStep, amLd, l0, l1, l2, k2, k3, f4_2, f4_3, isI_int, isA_ref, amNext, amCall, g204, lv_args, hok, amOkS, amOk, amRecv, h66, hl, Value.category, q1, narrow, p204a, p204b, p204c, h1', amCmp, amCmpP, z2, amSt1, p211b]
end W211
end
/-! ##### 15.e.list ##### -/
section
/-! ===== laysTriples: what it lays ===== -/
noncomputable def bLT : List (Nat × Nat) := [(72, 999), (73, 999), (74, 999), (75, 999), (66, 12)]
/-- the first m triples of the list are triples of the row r -/
noncomputable def lOk (r : Nat → Int) (hp : amH) (m : Nat) : Prop := ∀ k, k < m → ∃ (x y z : Nat) (a b c : Int32), x < y ∧ y < z ∧ z < 15 ∧ r (4 + 15 * x + y) = (z : Int) ∧ a.toInt = (x : Int) ∧ b.toInt = (y : Int) ∧ c.toInt = (z : Int) ∧ rN hp 72 k = (x : Int) ∧ rN hp 73 k = (y : Int) ∧ rN hp 74 k = (z : Int) ∧ rN hp 75 k = (msk a b c).toInt
noncomputable def LI (r : Nat → Int) (hp0 hp : amH) (N m : Nat) : Prop := bHk 84 bTT hp ∧ bFr bLT hp0 hp ∧ rN hp 66 12 = (m : Int) ∧ (∃ L, gL r N L ∧ L.length = 3 * m) ∧ lOk r hp m
theorem LI_mono {r : Nat → Int} {hp0 hp : amH} {N N1 m : Nat} (h : LI r hp0 hp N m) (hN : N ≤ N1) : LI r hp0 hp N1 m := by
  obtain ⟨h1, h2, h3, ⟨L, h4, h5⟩, h6⟩ := h
  exact ⟨h1, h2, h3, ⟨L, gL_mono h4 hN, h5⟩, h6⟩
theorem i_of {a : Int32} {x : Nat} (h : a.toInt = (x : Int)) (hx : x < 15) : a = Int32.ofNat x := by
  apply Int32.toInt_inj.mp
  rw [h, Int32.toInt_ofNat_of_lt (by omega)]
theorem msk_le : ∀ x y z : Fin 15, 2147483648 ≤ aOff (msk (Int32.ofNat x) (Int32.ofNat y) (Int32.ofNat z)) ∧ aOff (msk (Int32.ofNat x) (Int32.ofNat y) (Int32.ofNat z)) ≤ 2147516415 := by decide +kernel
theorem mok {n i : Nat} {cl : amL} {v : Int32} (h : amOkL n cl = true) : amOkL n (amSet1 cl i (.int v)) = true := by
  unfold amOkL amSet1 at *
  rw [List.all_cons]
  refine Bool.and_eq_true_iff.mpr ⟨rfl, ?_⟩
  rw [List.all_eq_true] at h ⊢
  exact fun q hq => h q (List.mem_filter.mp hq).1
theorem r_st {hp : amH} (hH : bHk 84 bTT hp) {q m t lo hi : Nat} {D : bD} {vs : List Value} {v : Int32} (hq : q < 84) (hT : bTT q = some D) (h2 : hp[q]? = some (t, vs)) (hy : bDy D m = some (.inl (lo, hi))) (hv : lo ≤ aOff v) (hv2 : aOff v ≤ hi) (hm : m < D.2.1) :
    bHk 84 bTT (hp.set q (t, vs.set m (.int v))) ∧ (∀ c i, ¬ (c = q ∧ i = m) → rN (hp.set q (t, vs.set m (.int v))) c i = rN hp c i) ∧ rN (hp.set q (t, vs.set m (.int v))) q m = v.toInt ∧ ∀ W, bIn W q m = true → bFr W hp (hp.set q (t, vs.set m (.int v))) := by
  obtain ⟨c, h1, hc⟩ := bHk_at hH hq hT
  cases h1.symm.trans h2
  have hlen : m < vs.length := by
    have := hc.2.1
    dsimp only at this
    omega
  refine ⟨bHk_set hH hT (bHc_set hc hy ⟨v, rfl, hv, hv2⟩), fun c i hci => ?_, ?_, fun W hW => bFr_set (d := (t, vs)) h2 hW⟩
  · apply rN_eq
    rw [bFld_set h2]
    split
    · next e =>
      subst e
      dsimp only
      rw [List.getElem?_set_ne (fun z => hci ⟨rfl, z.symm⟩)]
      unfold bFld
      rw [h2]
    · rfl
  · unfold rN
    rw [bFld_set h2, if_pos rfl]
    dsimp only
    rw [List.getElem?_set_self hlen]
noncomputable def bR66 : List bY := match bTT 66 with
  | some D => D.2.2
  | none => []
theorem r_cell {hp : amH} (hH : bHk 84 bTT hp) : ∃ cm, hp[66]? = some (11, cm) ∧ cm[0]? = some (.ref 67) ∧ cm[8]? = some (.ref 72) ∧ cm[9]? = some (.ref 73) ∧ cm[10]? = some (.ref 74) ∧ cm[11]? = some (.ref 75) ∧ ∃ mi, cm[12]? = some (.int mi) ∧ mi.toInt = rN hp 66 12 := by
  obtain ⟨d, g1, g2, g3, g4⟩ := bHk_at hH (i := 66) (by decide) rfl
  obtain ⟨t, vs⟩ := d
  have ht : t = 11 := g2
  subst ht
  have g3 : vs.length = 33 := g3
  have rf : ∀ i j : Nat, i < 33 → bDy (11, 33, bR66) i = some (.inr (.inr [j])) → vs[i]? = some (.ref j) := by
    intro i j hi hd
    have hlt : i < vs.length := by omega
    obtain ⟨y, k1, k2⟩ := g4 i vs[i] (List.getElem?_eq_getElem hlt)
    have k1 := k1.symm.trans hd
    cases k1
    obtain ⟨u, e1, -, e3⟩ := k2
    have hu : u = j := by simpa using e3
    rw [List.getElem?_eq_getElem hlt, e1, hu]
  have hlt : 12 < vs.length := by omega
  obtain ⟨y, k1, k2⟩ := g4 12 vs[12] (List.getElem?_eq_getElem hlt)
  cases k1
  obtain ⟨mi, e1, -⟩ := k2
  refine ⟨vs, g1, rf 0 67 (by omega) rfl, rf 8 72 (by omega) rfl, rf 9 73 (by omega) rfl, rf 10 74 (by omega) rfl, rf 11 75 (by omega) rfl, mi, by rw [List.getElem?_eq_getElem hlt, e1], ?_⟩
  unfold rN bFld
  rw [g1]
  dsimp only
  rw [List.getElem?_eq_getElem hlt, e1]
end
