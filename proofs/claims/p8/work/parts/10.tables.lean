/-! ===== the tables of methods, laid by program ===== -/
def am_m0 : amM := ([(0, .aload_n 0, 0, 0), (1, .invokespecial 3, 0, 5), (4, .aload_n 0, 0, 0), (5, .sipush 225, 0, 0), (8, .newarray .int, 0, 0), (10, .putfield 9, 0, 2), (13, .aload_n 0, 0, 0), (14, .sipush 225, 0, 0), (17, .newarray .int, 0, 0), (19, .putfield 15, 0, 3), (22, .aload_n 0, 0, 0), (23, .bipush 15, 0, 0),
  (25, .newarray .int, 0, 0), (27, .putfield 18, 0, 4), (30, .aload_n 0, 0, 0), (31, .bipush 35, 0, 0), (33, .newarray .int, 0, 0), (35, .putfield 21, 0, 5), (38, .return_, 0, 0)], 1, 1, true, none, [], 0)
def am_n0 : amN := (yX0_init, cX0_init, [])
def am_h0 : List (List Nat) := [[], [198, 156, 157], [], [], [227], [210], [], [], [227], [211], [], [], [227], [212], [], [], [227], [213], []]
def am_g0 : List (Nat × Nat) := []
def am_m1 : amM := ([(0, .aload_n 0, 0, 0), (1, .iconst 3, 0, 0), (2, .iload_n 1, 0, 0), (3, .bipush 15, 0, 0), (5, .invokestatic 24, 347, 0), (8, .invokestatic 30, 346, 0), (11, .putfield 33, 0, 0), (14, .aload_n 0, 0, 0), (15, .iconst 0, 0, 0), (16, .putfield 37, 0, 1), (19, .iconst 0, 0, 0), (20, .istore_n 2, 0, 0),
  (21, .iload_n 2, 0, 0), (22, .aload_n 0, 0, 0), (23, .getfield 9, 0, 2), (26, .arraylength, 0, 0), (27, .if_icmp .ge 16, 43, 0), (30, .aload_n 0, 0, 0), (31, .getfield 9, 0, 2), (34, .iload_n 2, 0, 0), (35, .iconst (-1), 0, 0), (36, .iastore, 0, 0), (37, .iinc 2 1, 0, 0), (40, .goto (-19), 21, 0),
  (43, .iconst 0, 0, 0), (44, .istore_n 2, 0, 0), (45, .iload_n 2, 0, 0), (46, .aload_n 0, 0, 0), (47, .getfield 18, 0, 4), (50, .arraylength, 0, 0), (51, .if_icmp .ge 37, 88, 0), (54, .aload_n 0, 0, 0), (55, .getfield 18, 0, 4), (58, .iload_n 2, 0, 0), (59, .iload_n 2, 0, 0), (60, .aload_n 0, 0, 0),
  (61, .getfield 33, 0, 0), (64, .if_icmp .ge 16, 80, 0), (67, .aload_n 0, 0, 0), (68, .invokevirtual 40, 4, 0), (71, .iconst 1, 0, 0), (72, .iload_n 2, 0, 0), (73, .ishl, 0, 0), (74, .iconst (-1), 0, 0), (75, .ixor, 0, 0), (76, .iand, 0, 0), (77, .goto 4, 81, 0), (80, .iconst 0, 0, 0),
  (81, .iastore, 0, 0), (82, .iinc 2 1, 0, 0), (85, .goto (-40), 45, 0), (88, .return_, 0, 0)], 3, 2, false, none, [], 0)
def am_n1 : amN := (yX0_reset, cX0_reset, [])
def am_h1 : List (List Nat) := [[], [], [], [], [392, 393, 133, 394], [395, 396, 133, 397], [200], [], [], [208], [], [], [], [], [210], [], [], [], [210], [], [], [], [], [], [], [], [], [], [212], [], [], [], [212], [], [], [], [200], [], [], [398, 399, 400, 124, 401], [], [], [], [], [], [], [], [], [], [], [], []]
def am_g1 : List (Nat × Nat) := []
def am_m2 : amM := ([(0, .aload_n 0, 0, 0), (1, .aload_n 1, 0, 0), (2, .getfield 33, 0, 0), (5, .putfield 33, 0, 0), (8, .aload_n 0, 0, 0), (9, .iconst 0, 0, 0), (10, .putfield 37, 0, 1), (13, .aload_n 1, 0, 0), (14, .getfield 9, 0, 2), (17, .iconst 0, 0, 0), (18, .aload_n 0, 0, 0), (19, .getfield 9, 0, 2),
  (22, .iconst 0, 0, 0), (23, .aload_n 0, 0, 0), (24, .getfield 9, 0, 2), (27, .arraylength, 0, 0), (28, .invokestatic 44, 0, 6), (31, .aload_n 1, 0, 0), (32, .getfield 18, 0, 4), (35, .iconst 0, 0, 0), (36, .aload_n 0, 0, 0), (37, .getfield 18, 0, 4), (40, .iconst 0, 0, 0), (41, .aload_n 0, 0, 0),
  (42, .getfield 18, 0, 4), (45, .arraylength, 0, 0), (46, .invokestatic 44, 0, 6), (49, .return_, 0, 0)], 2, 2, false, none, [], 0)
def am_n2 : amN := (yX0_copy, cX0_copy, [])
def am_h2 : List (List Nat) := [[], [], [200], [200], [], [], [208], [], [210], [], [], [210], [], [], [210], [], [599, 601, 600, 141], [], [212], [], [], [212], [], [], [212], [], [599, 601, 600, 141], []]
def am_g2 : List (Nat × Nat) := []
def am_m3 : amM := ([(0, .iload_n 1, 0, 0), (1, .ifCond .lt 15, 16, 0), (4, .iload_n 1, 0, 0), (5, .aload_n 0, 0, 0), (6, .getfield 33, 0, 0), (9, .if_icmp .ge 7, 16, 0), (12, .iconst 1, 0, 0), (13, .goto 4, 17, 0), (16, .iconst 0, 0, 0), (17, .ireturn, 0, 0)], 2, 2, false, (some .boolean), [], 0)
def am_n3 : amN := (yX0_isPoint, cX0_isPoint, [])
def am_h3 : List (List Nat) := [[], [], [], [], [200], [], [], [], [], []]
def am_g3 : List (Nat × Nat) := []
def am_m4 : amM := ([(0, .iconst 1, 0, 0), (1, .aload_n 0, 0, 0), (2, .getfield 33, 0, 0), (5, .ishl, 0, 0), (6, .iconst 1, 0, 0), (7, .isub, 0, 0), (8, .ireturn, 0, 0)], 1, 1, false, (some .int), [], 0)
def am_n4 : amN := (yX0_allPoints, cX0_allPoints, [])
def am_h4 : List (List Nat) := [[], [], [200], [], [], [], []]
def am_g4 : List (Nat × Nat) := []
def am_m5 : amM := ([(0, .aload_n 0, 0, 0), (1, .getfield 33, 0, 0), (4, .iconst 1, 0, 0), (5, .if_icmp .ge 7, 12, 0), (8, .iconst 0, 0, 0), (9, .goto 11, 20, 0), (12, .iload_n 1, 0, 0), (13, .aload_n 0, 0, 0), (14, .getfield 33, 0, 0), (17, .invokestatic 50, 345, 0), (20, .ireturn, 0, 0)], 2, 2, false, (some .int), [], 0)
def am_n5 : amN := (yX0_turnWithin, cX0_turnWithin, [])
def am_h5 : List (List Nat) := [[], [200], [], [], [], [], [], [], [200], [873, 874, 133, 875], []]
def am_g5 : List (Nat × Nat) := []
def am_m6 : amM := ([(0, .aload_n 0, 0, 0), (1, .getfield 33, 0, 0), (4, .aload_n 0, 0, 0), (5, .getfield 33, 0, 0), (8, .iconst 1, 0, 0), (9, .isub, 0, 0), (10, .imul, 0, 0), (11, .iconst 2, 0, 0), (12, .idiv, 0, 0), (13, .ireturn, 0, 0)], 1, 1, false, (some .int), [], 0)
def am_n6 : amN := (yX0_pairs, cX0_pairs, [])
def am_h6 : List (List Nat) := [[], [200], [], [200], [], [], [], [], [], []]
def am_g6 : List (Nat × Nat) := []
def am_m7 : amM := ([(0, .iload_n 1, 0, 0), (1, .ifCond .lt 37, 38, 0), (4, .iload_n 1, 0, 0), (5, .aload_n 0, 0, 0), (6, .getfield 33, 0, 0), (9, .if_icmp .ge 29, 38, 0), (12, .iload_n 2, 0, 0), (13, .ifCond .lt 25, 38, 0), (16, .iload_n 2, 0, 0), (17, .aload_n 0, 0, 0), (18, .getfield 33, 0, 0), (21, .if_icmp .ge 17, 38, 0),
  (24, .aload_n 0, 0, 0), (25, .getfield 9, 0, 2), (28, .iload_n 1, 0, 0), (29, .bipush 15, 0, 0), (31, .imul, 0, 0), (32, .iload_n 2, 0, 0), (33, .iadd, 0, 0), (34, .iaload, 0, 0), (35, .goto 4, 39, 0), (38, .iconst (-1), 0, 0), (39, .ireturn, 0, 0)], 3, 3, false, (some .int), [], 0)
def am_n7 : amN := (yX0_thirdOf, cX0_thirdOf, [])
def am_h7 : List (List Nat) := [[], [], [], [], [200], [], [], [], [], [], [200], [], [], [210], [], [], [], [], [], [], [], [], []]
def am_g7 : List (Nat × Nat) := []
def am_m8 : amM := ([(0, .aload_n 0, 0, 0), (1, .iload_n 1, 0, 0), (2, .invokevirtual 53, 3, 0), (5, .ifCond .eq 12, 17, 0), (8, .aload_n 0, 0, 0), (9, .getfield 18, 0, 4), (12, .iload_n 1, 0, 0), (13, .iaload, 0, 0), (14, .goto 4, 18, 0), (17, .iconst 0, 0, 0), (18, .ireturn, 0, 0)], 2, 2, false, (some .int), [], 0)
def am_n8 : amN := (yX0_openOf, cX0_openOf, [])
def am_h8 : List (List Nat) := [[], [], [577, 554, 555, 124, 556], [], [], [212], [], [], [], [], []]
def am_g8 : List (Nat × Nat) := []
def am_m9 : amM := ([(0, .iload_n 1, 0, 0), (1, .ifCond .lt 20, 21, 0), (4, .iload_n 1, 0, 0), (5, .aload_n 0, 0, 0), (6, .getfield 37, 0, 1), (9, .if_icmp .ge 12, 21, 0), (12, .aload_n 0, 0, 0), (13, .getfield 21, 0, 5), (16, .iload_n 1, 0, 0), (17, .iaload, 0, 0), (18, .goto 4, 22, 0), (21, .iconst 0, 0, 0),
  (22, .ireturn, 0, 0)], 2, 2, false, (some .int), [], 0)
def am_n9 : amN := (yX0_setOf, cX0_setOf, [])
def am_h9 : List (List Nat) := [[], [], [], [], [208], [], [], [213], [], [], [], [], []]
def am_g9 : List (Nat × Nat) := []
def am_m10 : amM := ([(0, .aload_n 0, 0, 0), (1, .iload_n 1, 0, 0), (2, .invokevirtual 53, 3, 0), (5, .ifCond .eq 25, 30, 0), (8, .aload_n 0, 0, 0), (9, .iload_n 2, 0, 0), (10, .invokevirtual 53, 3, 0), (13, .ifCond .eq 17, 30, 0), (16, .aload_n 0, 0, 0), (17, .iload_n 1, 0, 0), (18, .iload_n 2, 0, 0), (19, .invokevirtual 57, 7, 0),
  (22, .iconst (-1), 0, 0), (23, .if_icmp .eq 7, 30, 0), (26, .iconst 1, 0, 0), (27, .goto 4, 31, 0), (30, .iconst 0, 0, 0), (31, .istore_n 3, 0, 0), (32, .iload_n 3, 0, 0), (33, .ifCond .eq 17, 50, 0), (36, .aload_n 0, 0, 0), (37, .getfield 15, 0, 3), (40, .iload_n 1, 0, 0), (41, .bipush 15, 0, 0),
  (43, .imul, 0, 0), (44, .iload_n 2, 0, 0), (45, .iadd, 0, 0), (46, .iaload, 0, 0), (47, .goto 4, 51, 0), (50, .iconst (-1), 0, 0), (51, .ireturn, 0, 0)], 4, 3, false, (some .int), [], 0)
def am_n10 : amN := (yX0_numberCovering, cX0_numberCovering, [])
def am_h10 : List (List Nat) := [[], [], [577, 554, 555, 124, 556], [], [], [], [577, 554, 555, 124, 556], [], [], [], [], [618, 619, 620, 124, 621], [], [], [], [], [], [], [], [], [], [211], [], [], [], [], [], [], [], [], []]
def am_g10 : List (Nat × Nat) := []
def am_m11 : amM := ([(0, .aload_n 0, 0, 0), (1, .iload_n 1, 0, 0), (2, .invokevirtual 60, 12, 0), (5, .ifCond .eq 20, 25, 0), (8, .aload_n 0, 0, 0), (9, .iload_n 1, 0, 0), (10, .iconst 0, 0, 0), (11, .invokestatic 63, 70, 0), (14, .iload_n 1, 0, 0), (15, .iconst 1, 0, 0), (16, .invokestatic 63, 70, 0), (19, .invokevirtual 68, 10, 0),
  (22, .goto 4, 26, 0), (25, .iconst (-1), 0, 0), (26, .ireturn, 0, 0)], 2, 2, false, (some .int), [], 0)
def am_n11 : amN := (yX0_numberOf, cX0_numberOf, [])
def am_h11 : List (List Nat) := [[], [], [646, 647, 648, 124, 649], [], [], [], [], [564, 565, 139, 566], [], [], [564, 565, 139, 566], [650, 651, 652, 124, 653], [], [], []]
def am_g11 : List (Nat × Nat) := []
def am_m12 : amM := ([(0, .iload_n 1, 0, 0), (1, .iconst 2, 0, 0), (2, .invokestatic 63, 70, 0), (5, .istore_n 2, 0, 0), (6, .iload_n 2, 0, 0), (7, .iconst (-1), 0, 0), (8, .if_icmp .eq 25, 33, 0), (11, .aload_n 0, 0, 0), (12, .iload_n 1, 0, 0), (13, .iconst 0, 0, 0), (14, .invokestatic 63, 70, 0), (17, .iload_n 1, 0, 0),
  (18, .iconst 1, 0, 0), (19, .invokestatic 63, 70, 0), (22, .invokevirtual 57, 7, 0), (25, .iload_n 2, 0, 0), (26, .if_icmp .ne 7, 33, 0), (29, .iconst 1, 0, 0), (30, .goto 4, 34, 0), (33, .iconst 0, 0, 0), (34, .ireturn, 0, 0)], 3, 2, false, (some .boolean), [], 0)
def am_n12 : amN := (yX0_holds, cX0_holds, [])
def am_h12 : List (List Nat) := [[], [], [564, 565, 139, 566], [], [], [], [], [], [], [], [564, 565, 139, 566], [], [], [564, 565, 139, 566], [618, 619, 620, 124, 621], [], [], [], [], [], []]
def am_g12 : List (Nat × Nat) := []
def am_m13 : amM := ([(0, .iload_n 1, 0, 0), (1, .iconst 0, 0, 0), (2, .invokestatic 63, 70, 0), (5, .istore_n 2, 0, 0), (6, .iload_n 1, 0, 0), (7, .iconst 1, 0, 0), (8, .invokestatic 63, 70, 0), (11, .istore_n 3, 0, 0), (12, .aload_n 0, 0, 0), (13, .iload_n 2, 0, 0), (14, .invokevirtual 71, 8, 0), (17, .iload_n 1, 0, 0),
  (18, .iand, 0, 0), (19, .iload_n 1, 0, 0), (20, .iconst 1, 0, 0), (21, .iload_n 2, 0, 0), (22, .ishl, 0, 0), (23, .iconst (-1), 0, 0), (24, .ixor, 0, 0), (25, .iand, 0, 0), (26, .if_icmp .ne 24, 50, 0), (29, .aload_n 0, 0, 0), (30, .iload_n 3, 0, 0), (31, .invokevirtual 71, 8, 0),
  (34, .iload_n 1, 0, 0), (35, .iand, 0, 0), (36, .iload_n 1, 0, 0), (37, .iconst 1, 0, 0), (38, .iload_n 3, 0, 0), (39, .ishl, 0, 0), (40, .iconst (-1), 0, 0), (41, .ixor, 0, 0), (42, .iand, 0, 0), (43, .if_icmp .ne 7, 50, 0), (46, .iconst 1, 0, 0), (47, .goto 4, 51, 0),
  (50, .iconst 0, 0, 0), (51, .ireturn, 0, 0)], 4, 2, false, (some .boolean), [], 0)
def am_n13 : amN := (yX0_takes, cX0_takes, [])
def am_h13 : List (List Nat) := [[], [], [564, 565, 139, 566], [], [], [], [564, 565, 139, 566], [], [], [], [573, 574, 575, 124, 576], [], [], [], [], [], [], [], [], [], [], [], [], [573, 574, 575, 124, 576], [], [], [], [], [], [], [], [], [], [], [], [], [], []]
def am_g13 : List (Nat × Nat) := []
def am_m14 : amM := ([(0, .iload_n 1, 0, 0), (1, .iconst 0, 0, 0), (2, .invokestatic 63, 70, 0), (5, .istore_n 2, 0, 0), (6, .iload_n 1, 0, 0), (7, .iconst 1, 0, 0), (8, .invokestatic 63, 70, 0), (11, .istore_n 3, 0, 0), (12, .iload_n 1, 0, 0), (13, .iconst 2, 0, 0), (14, .invokestatic 63, 70, 0), (17, .istore 4, 0, 0),
  (19, .aload_n 0, 0, 0), (20, .iload_n 2, 0, 0), (21, .iload_n 3, 0, 0), (22, .iload 4, 0, 0), (24, .invokevirtual 75, 16, 0), (27, .aload_n 0, 0, 0), (28, .iload_n 2, 0, 0), (29, .iload 4, 0, 0), (31, .iload_n 3, 0, 0), (32, .invokevirtual 75, 16, 0), (35, .aload_n 0, 0, 0), (36, .iload_n 3, 0, 0),
  (37, .iload 4, 0, 0), (39, .iload_n 2, 0, 0), (40, .invokevirtual 75, 16, 0), (43, .return_, 0, 0)], 5, 2, false, none, [], 0)
def am_n14 : amN := (yX0_put, cX0_put, [])
def am_h14 : List (List Nat) := [[], [], [564, 565, 139, 566], [], [], [], [564, 565, 139, 566], [], [], [], [564, 565, 139, 566], [], [], [], [], [], [590, 592, 8, 124, 593], [], [], [], [], [590, 592, 8, 124, 593], [], [], [], [], [590, 592, 8, 124, 593], []]
def am_g14 : List (Nat × Nat) := []
def am_m15 : amM := ([(0, .iload_n 1, 0, 0), (1, .iconst 0, 0, 0), (2, .invokestatic 63, 70, 0), (5, .istore_n 2, 0, 0), (6, .iload_n 1, 0, 0), (7, .iconst 1, 0, 0), (8, .invokestatic 63, 70, 0), (11, .istore_n 3, 0, 0), (12, .iload_n 1, 0, 0), (13, .iconst 2, 0, 0), (14, .invokestatic 63, 70, 0), (17, .istore 4, 0, 0),
  (19, .aload_n 0, 0, 0), (20, .iload_n 2, 0, 0), (21, .iload_n 3, 0, 0), (22, .invokevirtual 79, 17, 0), (25, .aload_n 0, 0, 0), (26, .iload_n 2, 0, 0), (27, .iload 4, 0, 0), (29, .invokevirtual 79, 17, 0), (32, .aload_n 0, 0, 0), (33, .iload_n 3, 0, 0), (34, .iload 4, 0, 0), (36, .invokevirtual 79, 17, 0),
  (39, .return_, 0, 0)], 5, 2, false, none, [], 0)
def am_n15 : amN := (yX0_drop, cX0_drop, [])
def am_h15 : List (List Nat) := [[], [], [564, 565, 139, 566], [], [], [], [564, 565, 139, 566], [], [], [], [564, 565, 139, 566], [], [], [], [], [724, 726, 15, 124, 727], [], [], [], [724, 726, 15, 124, 727], [], [], [], [724, 726, 15, 124, 727], []]
def am_g15 : List (Nat × Nat) := []
def am_m16 : amM := ([(0, .aload_n 0, 0, 0), (1, .iload_n 1, 0, 0), (2, .invokevirtual 53, 3, 0), (5, .ifCond .eq 63, 68, 0), (8, .aload_n 0, 0, 0), (9, .iload_n 2, 0, 0), (10, .invokevirtual 53, 3, 0), (13, .ifCond .eq 55, 68, 0), (16, .aload_n 0, 0, 0), (17, .getfield 9, 0, 2), (20, .iload_n 1, 0, 0), (21, .bipush 15, 0, 0),
  (23, .imul, 0, 0), (24, .iload_n 2, 0, 0), (25, .iadd, 0, 0), (26, .iload_n 3, 0, 0), (27, .iastore, 0, 0), (28, .aload_n 0, 0, 0), (29, .getfield 9, 0, 2), (32, .iload_n 2, 0, 0), (33, .bipush 15, 0, 0), (35, .imul, 0, 0), (36, .iload_n 1, 0, 0), (37, .iadd, 0, 0),
  (38, .iload_n 3, 0, 0), (39, .iastore, 0, 0), (40, .aload_n 0, 0, 0), (41, .getfield 18, 0, 4), (44, .iload_n 1, 0, 0), (45, .dup2, 0, 0), (46, .iaload, 0, 0), (47, .iconst 1, 0, 0), (48, .iload_n 2, 0, 0), (49, .ishl, 0, 0), (50, .iconst (-1), 0, 0), (51, .ixor, 0, 0),
  (52, .iand, 0, 0), (53, .iastore, 0, 0), (54, .aload_n 0, 0, 0), (55, .getfield 18, 0, 4), (58, .iload_n 2, 0, 0), (59, .dup2, 0, 0), (60, .iaload, 0, 0), (61, .iconst 1, 0, 0), (62, .iload_n 1, 0, 0), (63, .ishl, 0, 0), (64, .iconst (-1), 0, 0), (65, .ixor, 0, 0),
  (66, .iand, 0, 0), (67, .iastore, 0, 0), (68, .return_, 0, 0)], 4, 4, false, none, [], 0)
def am_n16 : amN := (yX0_join, cX0_join, [])
def am_h16 : List (List Nat) := [[], [], [577, 554, 555, 124, 556], [], [], [], [577, 554, 555, 124, 556], [], [], [210], [], [], [], [], [], [], [], [], [210], [], [], [], [], [], [], [], [], [212], [], [], [], [], [], [], [], [], [], [], [], [212], [], [], [], [], [], [], [], [], [], [], []]
def am_g16 : List (Nat × Nat) := []
def am_m17 : amM := ([(0, .aload_n 0, 0, 0), (1, .iload_n 1, 0, 0), (2, .invokevirtual 53, 3, 0), (5, .ifCond .eq 59, 64, 0), (8, .aload_n 0, 0, 0), (9, .iload_n 2, 0, 0), (10, .invokevirtual 53, 3, 0), (13, .ifCond .eq 51, 64, 0), (16, .aload_n 0, 0, 0), (17, .getfield 9, 0, 2), (20, .iload_n 1, 0, 0), (21, .bipush 15, 0, 0),
  (23, .imul, 0, 0), (24, .iload_n 2, 0, 0), (25, .iadd, 0, 0), (26, .iconst (-1), 0, 0), (27, .iastore, 0, 0), (28, .aload_n 0, 0, 0), (29, .getfield 9, 0, 2), (32, .iload_n 2, 0, 0), (33, .bipush 15, 0, 0), (35, .imul, 0, 0), (36, .iload_n 1, 0, 0), (37, .iadd, 0, 0),
  (38, .iconst (-1), 0, 0), (39, .iastore, 0, 0), (40, .aload_n 0, 0, 0), (41, .getfield 18, 0, 4), (44, .iload_n 1, 0, 0), (45, .dup2, 0, 0), (46, .iaload, 0, 0), (47, .iconst 1, 0, 0), (48, .iload_n 2, 0, 0), (49, .ishl, 0, 0), (50, .ior, 0, 0), (51, .iastore, 0, 0),
  (52, .aload_n 0, 0, 0), (53, .getfield 18, 0, 4), (56, .iload_n 2, 0, 0), (57, .dup2, 0, 0), (58, .iaload, 0, 0), (59, .iconst 1, 0, 0), (60, .iload_n 1, 0, 0), (61, .ishl, 0, 0), (62, .ior, 0, 0), (63, .iastore, 0, 0), (64, .return_, 0, 0)], 3, 3, false, none, [], 0)
def am_n17 : amN := (yX0_part, cX0_part, [])
def am_h17 : List (List Nat) := [[], [], [577, 554, 555, 124, 556], [], [], [], [577, 554, 555, 124, 556], [], [], [210], [], [], [], [], [], [], [], [], [210], [], [], [], [], [], [], [], [], [212], [], [], [], [], [], [], [], [], [], [212], [], [], [], [], [], [], [], [], []]
def am_g17 : List (Nat × Nat) := []
def am_m18 : amM := ([(0, .aload_n 0, 0, 0), (1, .iconst 0, 0, 0), (2, .putfield 37, 0, 1), (5, .iconst 0, 0, 0), (6, .istore_n 1, 0, 0), (7, .iload_n 1, 0, 0), (8, .aload_n 0, 0, 0), (9, .getfield 33, 0, 0), (12, .if_icmp .ge 46, 58, 0), (15, .iload_n 1, 0, 0), (16, .iconst 1, 0, 0), (17, .iadd, 0, 0),
  (18, .istore_n 2, 0, 0), (19, .iload_n 2, 0, 0), (20, .aload_n 0, 0, 0), (21, .getfield 33, 0, 0), (24, .if_icmp .ge 28, 52, 0), (27, .aload_n 0, 0, 0), (28, .iload_n 1, 0, 0), (29, .iload_n 2, 0, 0), (30, .invokevirtual 57, 7, 0), (33, .istore_n 3, 0, 0), (34, .iload_n 3, 0, 0), (35, .iload_n 2, 0, 0),
  (36, .if_icmp .le 10, 46, 0), (39, .aload_n 0, 0, 0), (40, .iload_n 1, 0, 0), (41, .iload_n 2, 0, 0), (42, .iload_n 3, 0, 0), (43, .invokevirtual 83, 19, 0), (46, .iinc 2 1, 0, 0), (49, .goto (-30), 19, 0), (52, .iinc 1 1, 0, 0), (55, .goto (-48), 7, 0), (58, .return_, 0, 0)], 4, 1, false, none, [], 0)
def am_n18 : amN := (yX0_list, cX0_list, [])
def am_h18 : List (List Nat) := [[], [], [208], [], [], [], [], [200], [], [], [], [], [], [], [], [200], [], [], [], [], [618, 619, 620, 124, 621], [], [], [], [], [], [], [], [], [622, 624, 10, 124, 625], [], [], [], [], []]
def am_g18 : List (Nat × Nat) := []
def am_m19 : amM := ([(0, .aload_n 0, 0, 0), (1, .getfield 37, 0, 1), (4, .aload_n 0, 0, 0), (5, .getfield 21, 0, 5), (8, .arraylength, 0, 0), (9, .if_icmp .ge 46, 55, 0), (12, .aload_n 0, 0, 0), (13, .getfield 21, 0, 5), (16, .aload_n 0, 0, 0), (17, .getfield 37, 0, 1), (20, .iload_n 1, 0, 0), (21, .iload_n 2, 0, 0),
  (22, .iload_n 3, 0, 0), (23, .invokestatic 86, 68, 0), (26, .iastore, 0, 0), (27, .aload_n 0, 0, 0), (28, .iload_n 1, 0, 0), (29, .iload_n 2, 0, 0), (30, .invokevirtual 90, 20, 0), (33, .aload_n 0, 0, 0), (34, .iload_n 1, 0, 0), (35, .iload_n 3, 0, 0), (36, .invokevirtual 90, 20, 0), (39, .aload_n 0, 0, 0),
  (40, .iload_n 2, 0, 0), (41, .iload_n 3, 0, 0), (42, .invokevirtual 90, 20, 0), (45, .aload_n 0, 0, 0), (46, .dup, 0, 0), (47, .getfield 37, 0, 1), (50, .iconst 1, 0, 0), (51, .iadd, 0, 0), (52, .putfield 37, 0, 1), (55, .return_, 0, 0)], 4, 4, false, none, [], 0)
def am_n19 : amN := (yX0_number, cX0_number, [])
def am_h19 : List (List Nat) := [[], [208], [], [213], [], [], [], [213], [], [208], [], [], [], [626, 627, 139, 628], [], [], [], [], [629, 631, 11, 124, 632], [], [], [], [629, 631, 11, 124, 632], [], [], [], [629, 631, 11, 124, 632], [], [], [208], [], [], [208], []]
def am_g19 : List (Nat × Nat) := []
def am_m20 : amM := ([(0, .aload_n 0, 0, 0), (1, .iload_n 1, 0, 0), (2, .invokevirtual 53, 3, 0), (5, .ifCond .eq 41, 46, 0), (8, .aload_n 0, 0, 0), (9, .iload_n 2, 0, 0), (10, .invokevirtual 53, 3, 0), (13, .ifCond .eq 33, 46, 0), (16, .aload_n 0, 0, 0), (17, .getfield 15, 0, 3), (20, .iload_n 1, 0, 0), (21, .bipush 15, 0, 0),
  (23, .imul, 0, 0), (24, .iload_n 2, 0, 0), (25, .iadd, 0, 0), (26, .aload_n 0, 0, 0), (27, .getfield 37, 0, 1), (30, .iastore, 0, 0), (31, .aload_n 0, 0, 0), (32, .getfield 15, 0, 3), (35, .iload_n 2, 0, 0), (36, .bipush 15, 0, 0), (38, .imul, 0, 0), (39, .iload_n 1, 0, 0),
  (40, .iadd, 0, 0), (41, .aload_n 0, 0, 0), (42, .getfield 37, 0, 1), (45, .iastore, 0, 0), (46, .return_, 0, 0)], 3, 3, false, none, [], 0)
def am_n20 : amN := (yX0_numberPair, cX0_numberPair, [])
def am_h20 : List (List Nat) := [[], [], [577, 554, 555, 124, 556], [], [], [], [577, 554, 555, 124, 556], [], [], [211], [], [], [], [], [], [], [208], [], [], [211], [], [], [], [], [], [], [208], [], []]
def am_g20 : List (Nat × Nat) := []
def am_m21 : amM := ([(0, .iconst 0, 0, 0), (1, .istore_n 2, 0, 0), (2, .iconst 0, 0, 0), (3, .istore_n 3, 0, 0), (4, .iload_n 3, 0, 0), (5, .aload_n 0, 0, 0), (6, .getfield 33, 0, 0), (9, .if_icmp .ge 53, 62, 0), (12, .iload_n 1, 0, 0), (13, .iload_n 3, 0, 0), (14, .aload_n 0, 0, 0), (15, .getfield 33, 0, 0),
  (18, .invokestatic 93, 71, 0), (21, .istore 4, 0, 0), (23, .iload_n 3, 0, 0), (24, .ifCond .le 12, 36, 0), (27, .iload 4, 0, 0), (29, .iload_n 1, 0, 0), (30, .if_icmp .ne 6, 36, 0), (33, .goto 29, 62, 0), (36, .aload_n 0, 0, 0), (37, .iload 4, 0, 0), (39, .invokevirtual 96, 13, 0), (42, .ifCond .ne 5, 47, 0),
  (45, .iconst (-1), 0, 0), (46, .ireturn, 0, 0), (47, .aload_n 0, 0, 0), (48, .iload 4, 0, 0), (50, .invokevirtual 99, 14, 0), (53, .iinc 2 1, 0, 0), (56, .iinc 3 1, 0, 0), (59, .goto (-55), 4, 0), (62, .iload_n 2, 0, 0), (63, .ireturn, 0, 0)], 5, 2, false, (some .int), [], 0)
def am_n21 : amN := (yX0_putAllTurns, cX0_putAllTurns, [])
def am_h21 : List (List Nat) := [[], [], [], [], [], [], [200], [], [], [], [], [200], [582, 583, 139, 584], [], [], [], [], [], [], [], [], [], [585, 561, 562, 124, 563], [], [], [], [], [], [586, 587, 588, 124, 589], [], [], [], [], []]
def am_g21 : List (Nat × Nat) := []
def am_m22 : amM := ([(0, .iconst 0, 0, 0), (1, .istore_n 1, 0, 0), (2, .iconst 0, 0, 0), (3, .istore_n 2, 0, 0), (4, .iload_n 2, 0, 0), (5, .aload_n 0, 0, 0), (6, .getfield 33, 0, 0), (9, .if_icmp .ge 75, 84, 0), (12, .iload_n 2, 0, 0), (13, .iconst 1, 0, 0), (14, .iadd, 0, 0), (15, .istore_n 3, 0, 0),
  (16, .iload_n 3, 0, 0), (17, .aload_n 0, 0, 0), (18, .getfield 33, 0, 0), (21, .if_icmp .ge 57, 78, 0), (24, .iload_n 3, 0, 0), (25, .iconst 1, 0, 0), (26, .iadd, 0, 0), (27, .istore 4, 0, 0), (29, .iload 4, 0, 0), (31, .aload_n 0, 0, 0), (32, .getfield 33, 0, 0), (35, .if_icmp .ge 37, 72, 0),
  (38, .aload_n 0, 0, 0), (39, .iload_n 2, 0, 0), (40, .iload_n 3, 0, 0), (41, .iload 4, 0, 0), (43, .invokestatic 86, 68, 0), (46, .invokevirtual 96, 13, 0), (49, .ifCond .eq 17, 66, 0), (52, .aload_n 0, 0, 0), (53, .iload_n 2, 0, 0), (54, .iload_n 3, 0, 0), (55, .iload 4, 0, 0), (57, .invokestatic 86, 68, 0),
  (60, .invokevirtual 99, 14, 0), (63, .iinc 1 1, 0, 0), (66, .iinc 4 1, 0, 0), (69, .goto (-40), 29, 0), (72, .iinc 3 1, 0, 0), (75, .goto (-59), 16, 0), (78, .iinc 2 1, 0, 0), (81, .goto (-77), 4, 0), (84, .iload_n 1, 0, 0), (85, .ireturn, 0, 0)], 5, 1, false, (some .int), [], 0)
def am_n22 : amN := (yX0_putAllThatFit, cX0_putAllThatFit, [])
def am_h22 : List (List Nat) := [[], [], [], [], [], [], [200], [], [], [], [], [], [], [], [200], [], [], [], [], [], [], [], [200], [], [], [], [], [], [626, 627, 139, 628], [585, 561, 562, 124, 563], [], [], [], [], [], [626, 627, 139, 628], [586, 587, 588, 124, 589], [], [], [], [], [], [], [], [], []]
def am_g22 : List (Nat × Nat) := []
def am_m23 : amM := ([(0, .iconst 0, 0, 0), (1, .istore_n 1, 0, 0), (2, .iconst 0, 0, 0), (3, .istore_n 2, 0, 0), (4, .iload_n 2, 0, 0), (5, .aload_n 0, 0, 0), (6, .getfield 33, 0, 0), (9, .if_icmp .ge 20, 29, 0), (12, .iload_n 1, 0, 0), (13, .aload_n 0, 0, 0), (14, .iload_n 2, 0, 0), (15, .invokevirtual 71, 8, 0),
  (18, .invokestatic 103, 343, 0), (21, .iadd, 0, 0), (22, .istore_n 1, 0, 0), (23, .iinc 2 1, 0, 0), (26, .goto (-22), 4, 0), (29, .iload_n 1, 0, 0), (30, .iconst 2, 0, 0), (31, .idiv, 0, 0), (32, .ireturn, 0, 0)], 3, 1, false, (some .int), [], 0)
def am_n23 : amN := (yX0_openPairs, cX0_openPairs, [])
def am_h23 : List (List Nat) := [[], [], [], [], [], [], [200], [], [], [], [], [573, 574, 575, 124, 576], [674, 568, 140, 569], [], [], [], [], [], [], [], []]
def am_g23 : List (Nat × Nat) := []
def am_m24 : amM := ([(0, .iconst 0, 0, 0), (1, .istore_n 2, 0, 0), (2, .iconst 0, 0, 0), (3, .istore_n 3, 0, 0), (4, .iload_n 3, 0, 0), (5, .aload_n 0, 0, 0), (6, .getfield 33, 0, 0), (9, .if_icmp .ge 58, 67, 0), (12, .iload_n 3, 0, 0), (13, .iconst 1, 0, 0), (14, .iadd, 0, 0), (15, .istore 4, 0, 0),
  (17, .iload 4, 0, 0), (19, .aload_n 0, 0, 0), (20, .getfield 33, 0, 0), (23, .if_icmp .ge 38, 61, 0), (26, .aload_n 0, 0, 0), (27, .iload_n 3, 0, 0), (28, .invokevirtual 71, 8, 0), (31, .iload 4, 0, 0), (33, .invokestatic 108, 69, 0), (36, .ifCond .eq 19, 55, 0), (39, .iload_n 2, 0, 0), (40, .iload_n 1, 0, 0),
  (41, .if_icmp .ne 11, 52, 0), (44, .bipush 16, 0, 0), (46, .iload_n 3, 0, 0), (47, .imul, 0, 0), (48, .iload 4, 0, 0), (50, .iadd, 0, 0), (51, .ireturn, 0, 0), (52, .iinc 2 1, 0, 0), (55, .iinc 4 1, 0, 0), (58, .goto (-41), 17, 0), (61, .iinc 3 1, 0, 0), (64, .goto (-60), 4, 0),
  (67, .iconst (-1), 0, 0), (68, .ireturn, 0, 0)], 5, 2, false, (some .int), [], 0)
def am_n24 : amN := (yX0_openPair, cX0_openPair, [])
def am_h24 : List (List Nat) := [[], [], [], [], [], [], [200], [], [], [], [], [], [], [], [200], [], [], [], [573, 574, 575, 124, 576], [], [715, 558, 139, 559], [], [], [], [], [], [], [], [], [], [], [], [], [], [], [], [], []]
def am_g24 : List (Nat × Nat) := []
def am_m25 : amM := ([(0, .iconst (-1), 0, 0), (1, .istore_n 1, 0, 0), (2, .bipush 15, 0, 0), (4, .istore_n 2, 0, 0), (5, .iconst 0, 0, 0), (6, .istore_n 3, 0, 0), (7, .iload_n 3, 0, 0), (8, .aload_n 0, 0, 0), (9, .getfield 33, 0, 0), (12, .if_icmp .ge 76, 88, 0), (15, .iload_n 3, 0, 0), (16, .iconst 1, 0, 0),
  (17, .iadd, 0, 0), (18, .istore 4, 0, 0), (20, .iload 4, 0, 0), (22, .aload_n 0, 0, 0), (23, .getfield 33, 0, 0), (26, .if_icmp .ge 56, 82, 0), (29, .aload_n 0, 0, 0), (30, .iload_n 3, 0, 0), (31, .invokevirtual 71, 8, 0), (34, .aload_n 0, 0, 0), (35, .iload 4, 0, 0), (37, .invokevirtual 71, 8, 0),
  (40, .iand, 0, 0), (41, .invokestatic 103, 343, 0), (44, .istore 5, 0, 0), (46, .aload_n 0, 0, 0), (47, .iload_n 3, 0, 0), (48, .invokevirtual 71, 8, 0), (51, .iload 4, 0, 0), (53, .invokestatic 108, 69, 0), (56, .ifCond .eq 20, 76, 0), (59, .iload 5, 0, 0), (61, .iload_n 2, 0, 0), (62, .if_icmp .ge 14, 76, 0),
  (65, .bipush 16, 0, 0), (67, .iload_n 3, 0, 0), (68, .imul, 0, 0), (69, .iload 4, 0, 0), (71, .iadd, 0, 0), (72, .istore_n 1, 0, 0), (73, .iload 5, 0, 0), (75, .istore_n 2, 0, 0), (76, .iinc 4 1, 0, 0), (79, .goto (-59), 20, 0), (82, .iinc 3 1, 0, 0), (85, .goto (-78), 7, 0),
  (88, .iload_n 1, 0, 0), (89, .ireturn, 0, 0)], 6, 1, false, (some .int), [], 0)
def am_n25 : amN := (yX0_tightestPair, cX0_tightestPair, [])
def am_h25 : List (List Nat) := [[], [], [], [], [], [], [], [], [200], [], [], [], [], [], [], [], [200], [], [], [], [573, 574, 575, 124, 576], [], [], [573, 574, 575, 124, 576], [], [674, 568, 140, 569], [], [], [], [573, 574, 575, 124, 576], [], [715, 558, 139, 559], [], [], [], [], [], [], [], [], [], [], [], [], [], [], [], [], [], []]
def am_g25 : List (Nat × Nat) := []
def am_m26 : amM := ([(0, .iconst 0, 0, 0), (1, .istore_n 3, 0, 0), (2, .iconst 0, 0, 0), (3, .istore 4, 0, 0), (5, .iload 4, 0, 0), (7, .aload_n 0, 0, 0), (8, .getfield 37, 0, 1), (11, .if_icmp .ge 27, 38, 0), (14, .aload_n 0, 0, 0), (15, .iload 4, 0, 0), (17, .invokevirtual 112, 9, 0), (20, .iload_n 1, 0, 0),
  (21, .iand, 0, 0), (22, .invokestatic 103, 343, 0), (25, .iload_n 2, 0, 0), (26, .if_icmp .lt 6, 32, 0), (29, .iinc 3 1, 0, 0), (32, .iinc 4 1, 0, 0), (35, .goto (-30), 5, 0), (38, .iload_n 3, 0, 0), (39, .ireturn, 0, 0)], 5, 3, false, (some .int), [], 0)
def am_n26 : amN := (yX0_meeting, cX0_meeting, [])
def am_h26 : List (List Nat) := [[], [], [], [], [], [], [208], [], [], [], [880, 638, 639, 124, 640], [], [], [674, 568, 140, 569], [], [], [], [], [], [], []]
def am_g26 : List (Nat × Nat) := []
def am_m27 : amM := ([(0, .iconst 0, 0, 0), (1, .istore_n 3, 0, 0), (2, .iconst 0, 0, 0), (3, .istore 4, 0, 0), (5, .iload 4, 0, 0), (7, .aload_n 0, 0, 0), (8, .getfield 37, 0, 1), (11, .if_icmp .ge 37, 48, 0), (14, .aload_n 0, 0, 0), (15, .iload 4, 0, 0), (17, .invokevirtual 112, 9, 0), (20, .iload_n 1, 0, 0),
  (21, .iand, 0, 0), (22, .invokestatic 103, 343, 0), (25, .iload_n 2, 0, 0), (26, .if_icmp .lt 16, 42, 0), (29, .aload_n 0, 0, 0), (30, .aload_n 0, 0, 0), (31, .iload 4, 0, 0), (33, .invokevirtual 112, 9, 0), (36, .invokevirtual 115, 15, 0), (39, .iinc 3 1, 0, 0), (42, .iinc 4 1, 0, 0), (45, .goto (-40), 5, 0),
  (48, .iload_n 3, 0, 0), (49, .ireturn, 0, 0)], 5, 3, false, (some .int), [], 0)
def am_n27 : amN := (yX0_dropMeeting, cX0_dropMeeting, [])
def am_h27 : List (List Nat) := [[], [], [], [], [], [], [208], [], [], [], [880, 638, 639, 124, 640], [], [], [674, 568, 140, 569], [], [], [], [], [], [880, 638, 639, 124, 640], [1479, 721, 722, 124, 723], [], [], [], [], []]
def am_g27 : List (Nat × Nat) := []
def am_m28 : amM := ([(0, .iload_n 1, 0, 0), (1, .iconst 0, 0, 0), (2, .invokestatic 63, 70, 0), (5, .istore_n 2, 0, 0), (6, .iload_n 1, 0, 0), (7, .iconst 1, 0, 0), (8, .invokestatic 63, 70, 0), (11, .istore_n 3, 0, 0), (12, .iload_n 1, 0, 0), (13, .iconst 2, 0, 0), (14, .invokestatic 63, 70, 0), (17, .istore 4, 0, 0),
  (19, .aload_n 0, 0, 0), (20, .iload_n 3, 0, 0), (21, .iload 4, 0, 0), (23, .invokevirtual 57, 7, 0), (26, .aload_n 0, 0, 0), (27, .iload_n 2, 0, 0), (28, .iload 4, 0, 0), (30, .invokevirtual 57, 7, 0), (33, .aload_n 0, 0, 0), (34, .iload_n 2, 0, 0), (35, .iload_n 3, 0, 0), (36, .invokevirtual 57, 7, 0),
  (39, .invokestatic 86, 68, 0), (42, .ireturn, 0, 0)], 5, 2, false, (some .int), [], 0)
def am_n28 : amN := (yX0_trainFrom, cX0_trainFrom, [])
def am_h28 : List (List Nat) := [[], [], [564, 565, 139, 566], [], [], [], [564, 565, 139, 566], [], [], [], [564, 565, 139, 566], [], [], [], [], [618, 619, 620, 124, 621], [], [], [], [618, 619, 620, 124, 621], [], [], [], [618, 619, 620, 124, 621], [626, 627, 139, 628], []]
def am_g28 : List (Nat × Nat) := []
def am_m29 : amM := ([(0, .iconst 0, 0, 0), (1, .istore_n 2, 0, 0), (2, .iload_n 2, 0, 0), (3, .aload_n 0, 0, 0), (4, .getfield 37, 0, 1), (7, .if_icmp .ge 31, 38, 0), (10, .aload_n 0, 0, 0), (11, .aload_n 0, 0, 0), (12, .iload_n 2, 0, 0), (13, .invokevirtual 112, 9, 0), (16, .iload_n 1, 0, 0), (17, .aload_n 0, 0, 0),
  (18, .getfield 33, 0, 0), (21, .invokestatic 93, 71, 0), (24, .invokevirtual 60, 12, 0), (27, .ifCond .ne 5, 32, 0), (30, .iconst 0, 0, 0), (31, .ireturn, 0, 0), (32, .iinc 2 1, 0, 0), (35, .goto (-33), 2, 0), (38, .iconst 1, 0, 0), (39, .ireturn, 0, 0)], 3, 2, false, (some .boolean), [], 0)
def am_n29 : amN := (yX0_turnKeeps, cX0_turnKeeps, [])
def am_h29 : List (List Nat) := [[], [], [], [], [208], [], [], [], [], [880, 638, 639, 124, 640], [], [], [200], [582, 583, 139, 584], [646, 647, 648, 124, 649], [], [], [], [], [], [], []]
def am_g29 : List (Nat × Nat) := []
def am_m30 : amM := ([(0, .iconst 1, 0, 0), (1, .istore_n 1, 0, 0), (2, .iload_n 1, 0, 0), (3, .aload_n 0, 0, 0), (4, .getfield 33, 0, 0), (7, .if_icmp .ge 19, 26, 0), (10, .aload_n 0, 0, 0), (11, .iload_n 1, 0, 0), (12, .invokevirtual 118, 29, 0), (15, .ifCond .eq 5, 20, 0), (18, .iload_n 1, 0, 0), (19, .ireturn, 0, 0),
  (20, .iinc 1 1, 0, 0), (23, .goto (-21), 2, 0), (26, .aload_n 0, 0, 0), (27, .getfield 33, 0, 0), (30, .ireturn, 0, 0)], 2, 1, false, (some .int), [], 0)
def am_n30 : amN := (yX0_leastKeptTurn, cX0_leastKeptTurn, [])
def am_h30 : List (List Nat) := [[], [], [], [], [200], [], [], [], [889, 877, 878, 124, 879], [], [], [], [], [], [], [200], []]
def am_g30 : List (Nat × Nat) := []
def am_m31 : amM := ([(0, .lconst 0, 0, 0), (1, .lstore_n 3, 0, 0), (2, .aload_n 0, 0, 0), (3, .iload_n 1, 0, 0), (4, .invokevirtual 112, 9, 0), (7, .istore 5, 0, 0), (9, .iconst 0, 0, 0), (10, .istore 6, 0, 0), (12, .iload 6, 0, 0), (14, .aload_n 0, 0, 0), (15, .getfield 33, 0, 0), (18, .if_icmp .ge 32, 50, 0),
  (21, .lload_n 3, 0, 0), (22, .lconst 1, 0, 0), (23, .aload_n 0, 0, 0), (24, .iload 5, 0, 0), (26, .invokevirtual 121, 11, 0), (29, .lshl, 0, 0), (30, .lor, 0, 0), (31, .lstore_n 3, 0, 0), (32, .iload 5, 0, 0), (34, .iload_n 2, 0, 0), (35, .aload_n 0, 0, 0), (36, .getfield 33, 0, 0),
  (39, .invokestatic 93, 71, 0), (42, .istore 5, 0, 0), (44, .iinc 6 1, 0, 0), (47, .goto (-35), 12, 0), (50, .lload_n 3, 0, 0), (51, .lreturn, 0, 0)], 7, 3, false, (some .long), [], 0)
def am_n31 : amN := (yX0_orbitOf, cX0_orbitOf, [])
def am_h31 : List (List Nat) := [[], [], [], [], [880, 638, 639, 124, 640], [], [], [], [], [], [200], [], [], [], [], [], [898, 643, 644, 124, 645], [], [], [], [], [], [], [200], [582, 583, 139, 584], [], [], [], [], []]
def am_g31 : List (Nat × Nat) := []
def am_m32 : amM := ([(0, .iconst 0, 0, 0), (1, .istore_n 2, 0, 0), (2, .iload_n 2, 0, 0), (3, .aload_n 0, 0, 0), (4, .getfield 37, 0, 1), (7, .if_icmp .ge 25, 32, 0), (10, .aload_n 0, 0, 0), (11, .iload_n 2, 0, 0), (12, .invokevirtual 112, 9, 0), (15, .iload_n 1, 0, 0), (16, .iand, 0, 0), (17, .invokestatic 103, 343, 0),
  (20, .iconst 2, 0, 0), (21, .if_icmp .ne 5, 26, 0), (24, .iconst 0, 0, 0), (25, .ireturn, 0, 0), (26, .iinc 2 1, 0, 0), (29, .goto (-27), 2, 0), (32, .iconst 1, 0, 0), (33, .ireturn, 0, 0)], 3, 2, false, (some .boolean), [], 0)
def am_n32 : amN := (yX0_isClosed, cX0_isClosed, [])
def am_h32 : List (List Nat) := [[], [], [], [], [208], [], [], [], [880, 638, 639, 124, 640], [], [], [674, 568, 140, 569], [], [], [], [], [], [], [], []]
def am_g32 : List (Nat × Nat) := []
def am_m33 : amM := ([(0, .iload_n 1, 0, 0), (1, .istore_n 2, 0, 0), (2, .iconst 0, 0, 0), (3, .istore_n 3, 0, 0), (4, .iload_n 3, 0, 0), (5, .bipush 15, 0, 0), (7, .if_icmp .ge 59, 66, 0), (10, .aload_n 0, 0, 0), (11, .iload_n 2, 0, 0), (12, .invokevirtual 124, 32, 0), (15, .ifCond .ne 51, 66, 0), (18, .iconst 0, 0, 0),
  (19, .istore 4, 0, 0), (21, .iload 4, 0, 0), (23, .aload_n 0, 0, 0), (24, .getfield 37, 0, 1), (27, .if_icmp .ge 33, 60, 0), (30, .aload_n 0, 0, 0), (31, .iload 4, 0, 0), (33, .invokevirtual 112, 9, 0), (36, .iload_n 2, 0, 0), (37, .iand, 0, 0), (38, .invokestatic 103, 343, 0), (41, .iconst 2, 0, 0),
  (42, .if_icmp .ne 12, 54, 0), (45, .iload_n 2, 0, 0), (46, .aload_n 0, 0, 0), (47, .iload 4, 0, 0), (49, .invokevirtual 112, 9, 0), (52, .ior, 0, 0), (53, .istore_n 2, 0, 0), (54, .iinc 4 1, 0, 0), (57, .goto (-36), 21, 0), (60, .iinc 3 1, 0, 0), (63, .goto (-59), 4, 0), (66, .iload_n 2, 0, 0),
  (67, .ireturn, 0, 0)], 5, 2, false, (some .int), [], 0)
def am_n33 : amN := (yX0_closed, cX0_closed, [])
def am_h33 : List (List Nat) := [[], [], [], [], [], [], [], [], [], [1449, 925, 926, 124, 927], [], [], [], [], [], [208], [], [], [], [880, 638, 639, 124, 640], [], [], [674, 568, 140, 569], [], [], [], [], [], [880, 638, 639, 124, 640], [], [], [], [], [], [], [], []]
def am_g33 : List (Nat × Nat) := []
def am_m34 : amM := ([(0, .iconst 0, 0, 0), (1, .istore_n 2, 0, 0), (2, .iload_n 2, 0, 0), (3, .aload_n 0, 0, 0), (4, .getfield 37, 0, 1), (7, .if_icmp .ge 23, 30, 0), (10, .aload_n 0, 0, 0), (11, .iload_n 2, 0, 0), (12, .invokevirtual 112, 9, 0), (15, .iload_n 1, 0, 0), (16, .iconst (-1), 0, 0), (17, .ixor, 0, 0),
  (18, .iand, 0, 0), (19, .ifCond .ne 5, 24, 0), (22, .iconst 1, 0, 0), (23, .ireturn, 0, 0), (24, .iinc 2 1, 0, 0), (27, .goto (-25), 2, 0), (30, .iconst 0, 0, 0), (31, .ireturn, 0, 0)], 3, 2, false, (some .boolean), [], 0)
def am_n34 : amN := (yX0_hasTripleWithin, cX0_hasTripleWithin, [])
def am_h34 : List (List Nat) := [[], [], [], [], [208], [], [], [], [880, 638, 639, 124, 640], [], [], [], [], [], [], [], [], [], [], []]
def am_g34 : List (Nat × Nat) := []
def am_m35 : amM := ([(0, .aload_n 0, 0, 0), (1, .invokespecial 3, 0, 5), (4, .aload_n 0, 0, 0), (5, .iconst 4, 0, 0), (6, .newarray .int, 0, 0), (8, .putfield 9, 1, 3), (11, .aload_n 0, 0, 0), (12, .bipush 30, 0, 0), (14, .newarray .int, 0, 0), (16, .putfield 15, 1, 4), (19, .aload_n 0, 0, 0), (20, .bipush 30, 0, 0),
  (22, .newarray .long, 0, 0), (24, .putfield 18, 1, 5), (27, .return_, 0, 0)], 1, 1, true, none, [], 1)
def am_n35 : amN := (yX1_init, cX1_init, [])
def am_h35 : List (List Nat) := [[], [312, 156, 157], [], [], [227], [318], [], [], [227], [319], [], [], [306], [320], []]
def am_g35 : List (Nat × Nat) := []
def am_m36 : amM := ([(0, .aload_n 0, 0, 0), (1, .iconst 0, 0, 0), (2, .putfield 22, 1, 0), (5, .aload_n 0, 0, 0), (6, .iload_n 2, 0, 0), (7, .putfield 26, 1, 1), (10, .aload_n 0, 0, 0), (11, .iload_n 3, 0, 0), (12, .putfield 29, 1, 2), (15, .aload_n 1, 0, 0), (16, .iload_n 2, 0, 0), (17, .iload_n 3, 0, 0),
  (18, .invokevirtual 32, 7, 0), (21, .istore 4, 0, 0), (23, .iconst 1, 0, 0), (24, .iload_n 2, 0, 0), (25, .ishl, 0, 0), (26, .iconst 1, 0, 0), (27, .iload_n 3, 0, 0), (28, .ishl, 0, 0), (29, .ior, 0, 0), (30, .iload 4, 0, 0), (32, .iconst (-1), 0, 0), (33, .if_icmp .ne 7, 40, 0),
  (36, .iconst 0, 0, 0), (37, .goto 7, 44, 0), (40, .iconst 1, 0, 0), (41, .iload 4, 0, 0), (43, .ishl, 0, 0), (44, .ior, 0, 0), (45, .istore 5, 0, 0), (47, .iconst 0, 0, 0), (48, .istore 6, 0, 0), (50, .iload 6, 0, 0), (52, .aload_n 1, 0, 0), (53, .getfield 38, 0, 0),
  (56, .if_icmp .ge 44, 100, 0), (59, .iload 5, 0, 0), (61, .iload 6, 0, 0), (63, .invokestatic 41, 69, 0), (66, .ifCond .ne 28, 94, 0), (69, .aload_n 0, 0, 0), (70, .aload_n 1, 0, 0), (71, .iload 6, 0, 0), (73, .invokevirtual 47, 37, 0), (76, .istore 7, 0, 0), (78, .iload 7, 0, 0), (80, .ifCond .le 14, 94, 0),
  (83, .iload 5, 0, 0), (85, .aload_n 0, 0, 0), (86, .iload 7, 0, 0), (88, .invokevirtual 51, 38, 0), (91, .ior, 0, 0), (92, .istore 5, 0, 0), (94, .iinc 6 1, 0, 0), (97, .goto (-47), 50, 0), (100, .return_, 0, 0)], 8, 4, false, none, [], 1)
def am_n36 : amN := (yX1_gather, cX1_gather, [])
def am_h36 : List (List Nat) := [[], [], [313], [], [], [316], [], [], [317], [], [], [], [793, 619, 620, 124, 621], [], [], [], [], [], [], [], [], [], [], [], [], [], [], [], [], [], [], [], [], [], [], [203], [], [], [], [794, 558, 139, 559], [], [], [], [], [795, 797, 18, 129, 798], [], [], [], [], [], [], [804, 806, 20, 129, 807], [], [], [], [], []]
def am_g36 : List (Nat × Nat) := []
def am_m37 : amM := ([(0, .aload_n 0, 0, 0), (1, .aload_n 0, 0, 0), (2, .getfield 22, 1, 0), (5, .invokevirtual 55, 39, 0), (8, .istore_n 3, 0, 0), (9, .iload_n 2, 0, 0), (10, .istore 4, 0, 0), (12, .iconst 0, 0, 0), (13, .istore 5, 0, 0), (15, .iload 5, 0, 0), (17, .bipush 15, 0, 0), (19, .if_icmp .ge 109, 128, 0),
  (22, .iload_n 3, 0, 0), (23, .iload 5, 0, 0), (25, .iadd, 0, 0), (26, .aload_n 0, 0, 0), (27, .getfield 15, 1, 4), (30, .arraylength, 0, 0), (31, .if_icmp .ge 97, 128, 0), (34, .iload 5, 0, 0), (36, .iconst 2, 0, 0), (37, .irem, 0, 0), (38, .ifCond .ne 10, 48, 0), (41, .aload_n 0, 0, 0),
  (42, .getfield 26, 1, 1), (45, .goto 7, 52, 0), (48, .aload_n 0, 0, 0), (49, .getfield 29, 1, 2), (52, .istore 6, 0, 0), (54, .aload_n 0, 0, 0), (55, .getfield 15, 1, 4), (58, .iload_n 3, 0, 0), (59, .iload 5, 0, 0), (61, .iadd, 0, 0), (62, .iload 4, 0, 0), (64, .iastore, 0, 0),
  (65, .aload_n 0, 0, 0), (66, .getfield 18, 1, 5), (69, .iload_n 3, 0, 0), (70, .iload 5, 0, 0), (72, .iadd, 0, 0), (73, .lconst 1, 0, 0), (74, .aload_n 1, 0, 0), (75, .iload 6, 0, 0), (77, .iload 4, 0, 0), (79, .invokevirtual 58, 10, 0), (82, .lshl, 0, 0), (83, .lastore, 0, 0),
  (84, .aload_n 1, 0, 0), (85, .iload 6, 0, 0), (87, .iload 4, 0, 0), (89, .invokevirtual 32, 7, 0), (92, .istore 4, 0, 0), (94, .iload 4, 0, 0), (96, .iconst (-1), 0, 0), (97, .if_icmp .ne 5, 102, 0), (100, .iconst 0, 0, 0), (101, .ireturn, 0, 0), (102, .iload 4, 0, 0), (104, .iload_n 2, 0, 0),
  (105, .if_icmp .ne 17, 122, 0), (108, .iload 6, 0, 0), (110, .aload_n 0, 0, 0), (111, .getfield 29, 1, 2), (114, .if_icmp .ne 8, 122, 0), (117, .iload 5, 0, 0), (119, .iconst 1, 0, 0), (120, .iadd, 0, 0), (121, .ireturn, 0, 0), (122, .iinc 5 1, 0, 0), (125, .goto (-110), 15, 0), (128, .iconst 0, 0, 0),
  (129, .ireturn, 0, 0)], 7, 3, false, (some .int), [], 1)
def am_n37 : amN := (yX1_walk, cX1_walk, [])
def am_h37 : List (List Nat) := [[], [], [313], [799, 801, 19, 129, 802], [], [], [], [], [], [], [], [], [], [], [], [], [319], [], [], [], [], [], [], [], [316], [], [], [317], [], [], [319], [], [], [], [], [], [], [320], [], [], [], [], [], [], [], [803, 651, 652, 124, 653], [], [], [], [], [], [793, 619, 620, 124, 621], [], [], [], [], [], [], [], [], [], [], [], [317], [], [], [], [], [], [], [], [], []]
def am_g37 : List (Nat × Nat) := []
def am_m38 : amM := ([(0, .iconst 0, 0, 0), (1, .istore_n 2, 0, 0), (2, .aload_n 0, 0, 0), (3, .getfield 22, 1, 0), (6, .iconst 3, 0, 0), (7, .if_icmp .ge 64, 71, 0), (10, .aload_n 0, 0, 0), (11, .getfield 9, 1, 3), (14, .aload_n 0, 0, 0), (15, .getfield 22, 1, 0), (18, .iconst 1, 0, 0), (19, .iadd, 0, 0),
  (20, .aload_n 0, 0, 0), (21, .getfield 9, 1, 3), (24, .aload_n 0, 0, 0), (25, .getfield 22, 1, 0), (28, .iaload, 0, 0), (29, .iload_n 1, 0, 0), (30, .iadd, 0, 0), (31, .iastore, 0, 0), (32, .aload_n 0, 0, 0), (33, .dup, 0, 0), (34, .getfield 22, 1, 0), (37, .iconst 1, 0, 0),
  (38, .iadd, 0, 0), (39, .putfield 22, 1, 0), (42, .iconst 0, 0, 0), (43, .istore_n 3, 0, 0), (44, .iload_n 3, 0, 0), (45, .iload_n 1, 0, 0), (46, .if_icmp .ge 25, 71, 0), (49, .iload_n 2, 0, 0), (50, .iconst 1, 0, 0), (51, .aload_n 0, 0, 0), (52, .aload_n 0, 0, 0), (53, .getfield 22, 1, 0),
  (56, .iconst 1, 0, 0), (57, .isub, 0, 0), (58, .iload_n 3, 0, 0), (59, .invokevirtual 61, 41, 0), (62, .ishl, 0, 0), (63, .ior, 0, 0), (64, .istore_n 2, 0, 0), (65, .iinc 3 1, 0, 0), (68, .goto (-24), 44, 0), (71, .iload_n 2, 0, 0), (72, .ireturn, 0, 0)], 4, 2, false, (some .int), [], 1)
def am_n38 : amN := (yX1_keep, cX1_keep, [])
def am_h38 : List (List Nat) := [[], [], [], [313], [], [], [], [318], [], [313], [], [], [], [318], [], [313], [], [], [], [], [], [], [313], [], [], [313], [], [], [], [], [], [], [], [], [], [313], [], [], [], [808, 809, 810, 129, 811], [], [], [], [], [], [], []]
def am_g38 : List (Nat × Nat) := []
def am_m39 : amM := ([(0, .iload_n 1, 0, 0), (1, .ifCond .lt 21, 22, 0), (4, .iload_n 1, 0, 0), (5, .aload_n 0, 0, 0), (6, .getfield 9, 1, 3), (9, .arraylength, 0, 0), (10, .if_icmp .ge 12, 22, 0), (13, .aload_n 0, 0, 0), (14, .getfield 9, 1, 3), (17, .iload_n 1, 0, 0), (18, .iaload, 0, 0), (19, .goto 4, 23, 0),
  (22, .iconst 0, 0, 0), (23, .ireturn, 0, 0)], 2, 2, false, (some .int), [], 1)
def am_n39 : amN := (yX1_beginOf, cX1_beginOf, [])
def am_h39 : List (List Nat) := [[], [], [], [], [318], [], [], [], [318], [], [], [], [], []]
def am_g39 : List (Nat × Nat) := []
def am_m40 : amM := ([(0, .iload_n 1, 0, 0), (1, .ifCond .lt 27, 28, 0), (4, .iload_n 1, 0, 0), (5, .aload_n 0, 0, 0), (6, .getfield 22, 1, 0), (9, .if_icmp .ge 19, 28, 0), (12, .aload_n 0, 0, 0), (13, .iload_n 1, 0, 0), (14, .iconst 1, 0, 0), (15, .iadd, 0, 0), (16, .invokevirtual 55, 39, 0), (19, .aload_n 0, 0, 0),
  (20, .iload_n 1, 0, 0), (21, .invokevirtual 55, 39, 0), (24, .isub, 0, 0), (25, .goto 4, 29, 0), (28, .iconst 0, 0, 0), (29, .ireturn, 0, 0)], 2, 2, false, (some .int), [], 1)
def am_n40 : amN := (yX1_lengthOf, cX1_lengthOf, [])
def am_h40 : List (List Nat) := [[], [], [], [], [313], [], [], [], [], [], [799, 801, 19, 129, 802], [], [], [799, 801, 19, 129, 802], [], [], [], []]
def am_g40 : List (Nat × Nat) := []
def am_m41 : amM := ([(0, .aload_n 0, 0, 0), (1, .iload_n 1, 0, 0), (2, .invokevirtual 55, 39, 0), (5, .iload_n 2, 0, 0), (6, .iadd, 0, 0), (7, .istore_n 3, 0, 0), (8, .iload_n 3, 0, 0), (9, .ifCond .lt 21, 30, 0), (12, .iload_n 3, 0, 0), (13, .aload_n 0, 0, 0), (14, .getfield 15, 1, 4), (17, .arraylength, 0, 0),
  (18, .if_icmp .ge 12, 30, 0), (21, .aload_n 0, 0, 0), (22, .getfield 15, 1, 4), (25, .iload_n 3, 0, 0), (26, .iaload, 0, 0), (27, .goto 4, 31, 0), (30, .iconst (-1), 0, 0), (31, .ireturn, 0, 0)], 4, 3, false, (some .int), [], 1)
def am_n41 : amN := (yX1_pointAt, cX1_pointAt, [])
def am_h41 : List (List Nat) := [[], [], [799, 801, 19, 129, 802], [], [], [], [], [], [], [], [319], [], [], [], [319], [], [], [], [], []]
def am_g41 : List (Nat × Nat) := []
def am_m42 : amM := ([(0, .iconst 0, 0, 0), (1, .istore_n 2, 0, 0), (2, .iconst 0, 0, 0), (3, .istore_n 3, 0, 0), (4, .iload_n 3, 0, 0), (5, .aload_n 0, 0, 0), (6, .getfield 22, 1, 0), (9, .if_icmp .ge 21, 30, 0), (12, .aload_n 0, 0, 0), (13, .iload_n 3, 0, 0), (14, .invokevirtual 64, 40, 0), (17, .iload_n 1, 0, 0),
  (18, .if_icmp .ne 6, 24, 0), (21, .iinc 2 1, 0, 0), (24, .iinc 3 1, 0, 0), (27, .goto (-23), 4, 0), (30, .iload_n 2, 0, 0), (31, .ireturn, 0, 0)], 4, 2, false, (some .int), [], 1)
def am_n42 : amN := (yX1_countOfLength, cX1_countOfLength, [])
def am_h42 : List (List Nat) := [[], [], [], [], [], [], [313], [], [], [], [816, 817, 818, 129, 819], [], [], [], [], [], [], []]
def am_g42 : List (Nat × Nat) := []
def am_m43 : amM := ([(0, .lconst 0, 0, 0), (1, .lstore_n 2, 0, 0), (2, .aload_n 0, 0, 0), (3, .iload_n 1, 0, 0), (4, .iconst 1, 0, 0), (5, .iadd, 0, 0), (6, .invokevirtual 55, 39, 0), (9, .istore 4, 0, 0), (11, .aload_n 0, 0, 0), (12, .iload_n 1, 0, 0), (13, .invokevirtual 55, 39, 0), (16, .istore 5, 0, 0),
  (18, .iload 5, 0, 0), (20, .iload 4, 0, 0), (22, .if_icmp .ge 29, 51, 0), (25, .iload 5, 0, 0), (27, .aload_n 0, 0, 0), (28, .getfield 18, 1, 5), (31, .arraylength, 0, 0), (32, .if_icmp .ge 19, 51, 0), (35, .lload_n 2, 0, 0), (36, .aload_n 0, 0, 0), (37, .getfield 18, 1, 5), (40, .iload 5, 0, 0),
  (42, .laload, 0, 0), (43, .lor, 0, 0), (44, .lstore_n 2, 0, 0), (45, .iinc 5 1, 0, 0), (48, .goto (-30), 18, 0), (51, .lload_n 2, 0, 0), (52, .lreturn, 0, 0)], 6, 2, false, (some .long), [], 1)
def am_n43 : amN := (yX1_tradeOf, cX1_tradeOf, [])
def am_h43 : List (List Nat) := [[], [], [], [], [], [], [799, 801, 19, 129, 802], [], [], [], [799, 801, 19, 129, 802], [], [], [], [], [], [], [320], [], [], [], [], [320], [], [], [], [], [], [], [], []]
def am_g43 : List (Nat × Nat) := []
def am_m44 : amM := ([(0, .aload_n 2, 0, 0), (1, .aload_n 0, 0, 0), (2, .iload_n 1, 0, 0), (3, .invokevirtual 67, 43, 0), (6, .invokevirtual 71, 46, 0), (9, .aload_n 0, 0, 0), (10, .iload_n 1, 0, 0), (11, .invokevirtual 64, 40, 0), (14, .istore_n 3, 0, 0), (15, .iconst 0, 0, 0), (16, .istore 4, 0, 0), (18, .iload 4, 0, 0),
  (20, .iload_n 3, 0, 0), (21, .if_icmp .ge 103, 124, 0), (24, .aload_n 0, 0, 0), (25, .iload_n 1, 0, 0), (26, .iload 4, 0, 0), (28, .invokevirtual 61, 41, 0), (31, .istore 5, 0, 0), (33, .aload_n 0, 0, 0), (34, .iload_n 1, 0, 0), (35, .iload 4, 0, 0), (37, .iconst 1, 0, 0), (38, .iadd, 0, 0),
  (39, .iload_n 3, 0, 0), (40, .if_icmp .ge 10, 50, 0), (43, .iload 4, 0, 0), (45, .iconst 1, 0, 0), (46, .iadd, 0, 0), (47, .goto 4, 51, 0), (50, .iconst 0, 0, 0), (51, .invokevirtual 61, 41, 0), (54, .istore 6, 0, 0), (56, .iload 4, 0, 0), (58, .iconst 2, 0, 0), (59, .irem, 0, 0),
  (60, .ifCond .ne 10, 70, 0), (63, .aload_n 0, 0, 0), (64, .getfield 26, 1, 1), (67, .goto 7, 74, 0), (70, .aload_n 0, 0, 0), (71, .getfield 29, 1, 2), (74, .istore 7, 0, 0), (76, .iload 4, 0, 0), (78, .iconst 2, 0, 0), (79, .irem, 0, 0), (80, .ifCond .ne 10, 90, 0), (83, .aload_n 0, 0, 0),
  (84, .getfield 29, 1, 2), (87, .goto 7, 94, 0), (90, .aload_n 0, 0, 0), (91, .getfield 26, 1, 1), (94, .istore 8, 0, 0), (96, .aload_n 2, 0, 0), (97, .iload 7, 0, 0), (99, .iload 5, 0, 0), (101, .iload 6, 0, 0), (103, .invokestatic 77, 68, 0), (106, .iload 8, 0, 0), (108, .iload 5, 0, 0),
  (110, .iload 6, 0, 0), (112, .invokestatic 77, 68, 0), (115, .invokevirtual 81, 47, 0), (118, .iinc 4 1, 0, 0), (121, .goto (-103), 18, 0), (124, .return_, 0, 0)], 9, 3, false, none, [], 1)
def am_n44 : amN := (yX1_planSwitch, cX1_planSwitch, [])
def am_h44 : List (List Nat) := [[], [], [], [1306, 835, 836, 129, 837], [1307, 745, 746, 132, 747], [], [], [816, 817, 818, 129, 819], [], [], [], [], [], [], [], [], [], [808, 809, 810, 129, 811], [], [], [], [], [], [], [], [], [], [], [], [], [], [808, 809, 810, 129, 811], [], [], [], [], [], [], [316], [], [], [317], [], [], [], [], [], [], [317], [], [], [316], [], [], [], [], [], [1308, 627, 139, 628], [], [], [], [1308, 627, 139, 628], [1309, 763, 764, 132, 765], [], [], []]
def am_g44 : List (Nat × Nat) := []
def am_m45 : amM := ([(0, .aload_n 0, 0, 0), (1, .invokespecial 3, 0, 5), (4, .aload_n 0, 0, 0), (5, .bipush 12, 0, 0), (7, .newarray .int, 0, 0), (9, .putfield 9, 2, 2), (12, .aload_n 0, 0, 0), (13, .bipush 12, 0, 0), (15, .newarray .int, 0, 0), (17, .putfield 15, 2, 3), (20, .return_, 0, 0)], 1, 1, true, none, [], 2)
def am_n45 : amN := (yX2_init, cX2_init, [])
def am_h45 : List (List Nat) := [[], [372, 156, 157], [], [], [227], [377], [], [], [227], [378], []]
def am_g45 : List (Nat × Nat) := []
def am_m46 : amM := ([(0, .aload_n 0, 0, 0), (1, .iconst 0, 0, 0), (2, .putfield 18, 2, 0), (5, .aload_n 0, 0, 0), (6, .lload_n 1, 0, 0), (7, .putfield 22, 2, 1), (10, .return_, 0, 0)], 3, 2, false, none, [], 2)
def am_n46 : amN := (yX2_begin, cX2_begin, [])
def am_h46 : List (List Nat) := [[], [], [373], [], [], [375], []]
def am_g46 : List (Nat × Nat) := []
def am_m47 : amM := ([(0, .aload_n 0, 0, 0), (1, .getfield 18, 2, 0), (4, .bipush 12, 0, 0), (6, .if_icmp .ge 33, 39, 0), (9, .aload_n 0, 0, 0), (10, .getfield 9, 2, 2), (13, .aload_n 0, 0, 0), (14, .getfield 18, 2, 0), (17, .iload_n 1, 0, 0), (18, .iastore, 0, 0), (19, .aload_n 0, 0, 0), (20, .getfield 15, 2, 3),
  (23, .aload_n 0, 0, 0), (24, .getfield 18, 2, 0), (27, .iload_n 2, 0, 0), (28, .iastore, 0, 0), (29, .aload_n 0, 0, 0), (30, .dup, 0, 0), (31, .getfield 18, 2, 0), (34, .iconst 1, 0, 0), (35, .iadd, 0, 0), (36, .putfield 18, 2, 0), (39, .return_, 0, 0)], 3, 3, false, none, [], 2)
def am_n47 : amN := (yX2_plan, cX2_plan, [])
def am_h47 : List (List Nat) := [[], [373], [], [], [], [377], [], [373], [], [], [], [378], [], [373], [], [], [], [], [373], [], [], [373], []]
def am_g47 : List (Nat × Nat) := []
def am_m48 : amM := ([(0, .iconst 0, 0, 0), (1, .istore_n 2, 0, 0), (2, .iload_n 2, 0, 0), (3, .aload_n 0, 0, 0), (4, .getfield 18, 2, 0), (7, .if_icmp .ge 28, 35, 0), (10, .iload_n 2, 0, 0), (11, .aload_n 0, 0, 0), (12, .getfield 9, 2, 2), (15, .arraylength, 0, 0), (16, .if_icmp .ge 19, 35, 0), (19, .aload_n 1, 0, 0),
  (20, .aload_n 0, 0, 0), (21, .getfield 9, 2, 2), (24, .iload_n 2, 0, 0), (25, .iaload, 0, 0), (26, .invokevirtual 26, 15, 0), (29, .iinc 2 1, 0, 0), (32, .goto (-30), 2, 0), (35, .iconst 0, 0, 0), (36, .istore_n 2, 0, 0), (37, .iconst 0, 0, 0), (38, .istore_n 3, 0, 0), (39, .iload_n 3, 0, 0),
  (40, .aload_n 0, 0, 0), (41, .getfield 18, 2, 0), (44, .if_icmp .ge 41, 85, 0), (47, .iload_n 3, 0, 0), (48, .aload_n 0, 0, 0), (49, .getfield 15, 2, 3), (52, .arraylength, 0, 0), (53, .if_icmp .ge 32, 85, 0), (56, .aload_n 1, 0, 0), (57, .aload_n 0, 0, 0), (58, .getfield 15, 2, 3), (61, .iload_n 3, 0, 0),
  (62, .iaload, 0, 0), (63, .invokevirtual 32, 14, 0), (66, .iload_n 2, 0, 0), (67, .aload_n 1, 0, 0), (68, .aload_n 0, 0, 0), (69, .getfield 15, 2, 3), (72, .iload_n 3, 0, 0), (73, .iaload, 0, 0), (74, .invokestatic 35, 67, 0), (77, .iadd, 0, 0), (78, .istore_n 2, 0, 0), (79, .iinc 3 1, 0, 0),
  (82, .goto (-43), 39, 0), (85, .iload_n 2, 0, 0), (86, .ireturn, 0, 0)], 4, 2, false, (some .int), [], 2)
def am_n48 : amN := (yX2_applyTo, cX2_applyTo, [])
def am_h48 : List (List Nat) := [[], [], [], [], [373], [], [], [], [377], [], [], [], [], [377], [], [], [778, 721, 722, 124, 723], [], [], [], [], [], [], [], [], [373], [], [], [], [378], [], [], [], [], [378], [], [], [779, 587, 588, 124, 589], [], [], [], [378], [], [], [780, 781, 128, 782], [], [], [], [], [], []]
def am_g48 : List (Nat × Nat) := []
def am_m49 : amM := ([(0, .aload_n 0, 0, 0), (1, .invokespecial 3, 0, 5), (4, .aload_n 0, 0, 0), (5, .bipush 10, 0, 0), (7, .anewarray 9, 0, 0), (10, .putfield 11, 3, 1), (13, .aload_n 0, 0, 0), (14, .new 9, 6, 0), (17, .dup, 0, 0), (18, .invokespecial 17, 88, 3), (21, .putfield 18, 3, 2), (24, .iconst 0, 0, 0),
  (25, .istore_n 1, 0, 0), (26, .iload_n 1, 0, 0), (27, .aload_n 0, 0, 0), (28, .getfield 11, 3, 1), (31, .arraylength, 0, 0), (32, .if_icmp .ge 22, 54, 0), (35, .aload_n 0, 0, 0), (36, .getfield 11, 3, 1), (39, .iload_n 1, 0, 0), (40, .new 9, 6, 0), (43, .dup, 0, 0), (44, .invokespecial 17, 88, 3),
  (47, .aastore, 0, 0), (48, .iinc 1 1, 0, 0), (51, .goto (-25), 26, 0), (54, .return_, 0, 0)], 2, 1, true, none, [], 3)
def am_n49 : amN := (yX3_init, cX3_init, [])
def am_h49 : List (List Nat) := [[], [252, 156, 157], [], [], [253], [277], [], [253, 255, 127], [], [256, 257, 127, 258], [278], [], [], [], [], [277], [], [], [], [277], [], [253, 255, 127], [], [256, 257, 127, 258], [], [], [], []]
def am_g49 : List (Nat × Nat) := []
def am_m50 : amM := ([(0, .aload_n 0, 0, 0), (1, .getfield 22, 3, 0), (4, .aload_n 0, 0, 0), (5, .getfield 11, 3, 1), (8, .arraylength, 0, 0), (9, .if_icmp .ne 7, 16, 0), (12, .aload_n 0, 0, 0), (13, .invokevirtual 26, 51, 0), (16, .aload_n 0, 0, 0), (17, .getfield 22, 3, 0), (20, .aload_n 0, 0, 0), (21, .getfield 11, 3, 1),
  (24, .arraylength, 0, 0), (25, .if_icmp .ge 39, 64, 0), (28, .aload_n 0, 0, 0), (29, .getfield 11, 3, 1), (32, .aload_n 0, 0, 0), (33, .getfield 22, 3, 0), (36, .aaload, 0, 0), (37, .ifnull 27, 64, 0), (40, .aload_n 0, 0, 0), (41, .getfield 11, 3, 1), (44, .aload_n 0, 0, 0), (45, .getfield 22, 3, 0),
  (48, .aaload, 0, 0), (49, .aload_n 1, 0, 0), (50, .aload_n 2, 0, 0), (51, .invokevirtual 29, 89, 0), (54, .aload_n 0, 0, 0), (55, .dup, 0, 0), (56, .getfield 22, 3, 0), (59, .iconst 1, 0, 0), (60, .iadd, 0, 0), (61, .putfield 22, 3, 0), (64, .return_, 0, 0)], 3, 3, false, none, [], 3)
def am_n50 : amN := (yX3_push, cX3_push, [])
def am_h50 : List (List Nat) := [[], [275], [], [277], [], [], [], [687, 689, 14, 126, 690], [], [275], [], [277], [], [], [], [277], [], [275], [], [], [], [277], [], [275], [], [], [], [691, 692, 693, 127, 694], [], [], [275], [], [], [275], []]
def am_g50 : List (Nat × Nat) := []
def am_m51 : amM := ([(0, .aload_n 0, 0, 0), (1, .getfield 11, 3, 1), (4, .iconst 0, 0, 0), (5, .aaload, 0, 0), (6, .astore_n 1, 0, 0), (7, .iconst 1, 0, 0), (8, .istore_n 2, 0, 0), (9, .iload_n 2, 0, 0), (10, .aload_n 0, 0, 0), (11, .getfield 11, 3, 1), (14, .arraylength, 0, 0), (15, .if_icmp .ge 23, 38, 0),
  (18, .aload_n 0, 0, 0), (19, .getfield 11, 3, 1), (22, .iload_n 2, 0, 0), (23, .iconst 1, 0, 0), (24, .isub, 0, 0), (25, .aload_n 0, 0, 0), (26, .getfield 11, 3, 1), (29, .iload_n 2, 0, 0), (30, .aaload, 0, 0), (31, .aastore, 0, 0), (32, .iinc 2 1, 0, 0), (35, .goto (-26), 9, 0),
  (38, .aload_n 0, 0, 0), (39, .getfield 11, 3, 1), (42, .aload_n 0, 0, 0), (43, .getfield 11, 3, 1), (46, .arraylength, 0, 0), (47, .iconst 1, 0, 0), (48, .isub, 0, 0), (49, .aload_n 1, 0, 0), (50, .aastore, 0, 0), (51, .aload_n 0, 0, 0), (52, .aload_n 0, 0, 0), (53, .getfield 11, 3, 1),
  (56, .arraylength, 0, 0), (57, .iconst 1, 0, 0), (58, .isub, 0, 0), (59, .putfield 22, 3, 0), (62, .return_, 0, 0)], 3, 1, false, none, [], 3)
def am_n51 : amN := (yX3_forgetOldest, cX3_forgetOldest, [])
def am_h51 : List (List Nat) := [[], [277], [], [], [], [], [], [], [], [277], [], [], [], [277], [], [], [], [], [277], [], [], [], [], [], [], [277], [], [277], [], [], [], [], [], [], [], [277], [], [], [], [275], []]
def am_g51 : List (Nat × Nat) := []
def am_m52 : amM := ([(0, .aload_n 0, 0, 0), (1, .getfield 22, 3, 0), (4, .iconst 1, 0, 0), (5, .if_icmp .lt 29, 34, 0), (8, .aload_n 0, 0, 0), (9, .getfield 22, 3, 0), (12, .aload_n 0, 0, 0), (13, .getfield 11, 3, 1), (16, .arraylength, 0, 0), (17, .if_icmp .gt 17, 34, 0), (20, .aload_n 0, 0, 0), (21, .getfield 11, 3, 1),
  (24, .aload_n 0, 0, 0), (25, .getfield 22, 3, 0), (28, .iconst 1, 0, 0), (29, .isub, 0, 0), (30, .aaload, 0, 0), (31, .ifnonnull 5, 36, 0), (34, .iconst 0, 0, 0), (35, .ireturn, 0, 0), (36, .aload_n 0, 0, 0), (37, .dup, 0, 0), (38, .getfield 22, 3, 0), (41, .iconst 1, 0, 0),
  (42, .isub, 0, 0), (43, .putfield 22, 3, 0), (46, .aload_n 0, 0, 0), (47, .getfield 11, 3, 1), (50, .aload_n 0, 0, 0), (51, .getfield 22, 3, 0), (54, .aaload, 0, 0), (55, .aload_n 1, 0, 0), (56, .aload_n 2, 0, 0), (57, .invokevirtual 33, 90, 0), (60, .iconst 1, 0, 0), (61, .ireturn, 0, 0)], 3, 3, false, (some .boolean), [], 3)
def am_n52 : amN := (yX3_takeBack, cX3_takeBack, [])
def am_h52 : List (List Nat) := [[], [275], [], [], [], [275], [], [277], [], [], [], [277], [], [275], [], [], [], [], [], [], [], [], [275], [], [], [275], [], [277], [], [275], [], [], [], [956, 957, 958, 127, 959], [], []]
def am_g52 : List (Nat × Nat) := []
def am_m53 : amM := ([(0, .aload_n 0, 0, 0), (1, .getfield 18, 3, 2), (4, .aload_n 1, 0, 0), (5, .aload_n 2, 0, 0), (6, .invokevirtual 29, 89, 0), (9, .aload_n 0, 0, 0), (10, .iconst 1, 0, 0), (11, .putfield 36, 3, 3), (14, .return_, 0, 0)], 3, 3, false, none, [], 3)
def am_n53 : amN := (yX3_save, cX3_save, [])
def am_h53 : List (List Nat) := [[], [278], [], [], [691, 692, 693, 127, 694], [], [], [279], []]
def am_g53 : List (Nat × Nat) := []
def am_m54 : amM := ([(0, .aload_n 0, 0, 0), (1, .getfield 36, 3, 3), (4, .ifCond .ne 5, 9, 0), (7, .iconst 0, 0, 0), (8, .ireturn, 0, 0), (9, .aload_n 0, 0, 0), (10, .getfield 18, 3, 2), (13, .aload_n 1, 0, 0), (14, .aload_n 2, 0, 0), (15, .invokevirtual 33, 90, 0), (18, .aload_n 0, 0, 0), (19, .iconst 0, 0, 0),
  (20, .putfield 22, 3, 0), (23, .iconst 1, 0, 0), (24, .ireturn, 0, 0)], 3, 3, false, (some .boolean), [], 3)
def am_n54 : amN := (yX3_restore, cX3_restore, [])
def am_h54 : List (List Nat) := [[], [279], [], [], [], [], [278], [], [], [956, 957, 958, 127, 959], [], [], [275], [], []]
def am_g54 : List (Nat × Nat) := []
def am_m55 : amM := ([(0, .aload_n 0, 0, 0), (1, .iconst 0, 0, 0), (2, .putfield 22, 3, 0), (5, .aload_n 0, 0, 0), (6, .iconst 0, 0, 0), (7, .putfield 36, 3, 3), (10, .return_, 0, 0)], 1, 1, false, none, [], 3)
def am_n55 : amN := (yX3_forgetAll, cX3_forgetAll, [])
def am_h55 : List (List Nat) := [[], [], [275], [], [], [279], []]
def am_g55 : List (Nat × Nat) := []
def am_m56 : amM := ([(0, .aload_n 0, 0, 0), (1, .invokespecial 3, 0, 5), (4, .aload_n 0, 0, 0), (5, .bipush 105, 0, 0), (7, .newarray .long, 0, 0), (9, .putfield 9, 4, 1), (12, .aload_n 0, 0, 0), (13, .bipush 105, 0, 0), (15, .newarray .int, 0, 0), (17, .putfield 15, 4, 2), (20, .return_, 0, 0)], 1, 1, true, none, [], 4)
def am_n56 : amN := (yX4_init, cX4_init, [])
def am_h56 : List (List Nat) := [[], [294, 156, 157], [], [], [306], [297], [], [], [227], [298], []]
def am_g56 : List (Nat × Nat) := []
def am_m57 : amM := ([(0, .aload_n 0, 0, 0), (1, .iconst 0, 0, 0), (2, .putfield 19, 4, 0), (5, .iconst 0, 0, 0), (6, .istore_n 2, 0, 0), (7, .iload_n 2, 0, 0), (8, .aload_n 1, 0, 0), (9, .getfield 23, 0, 1), (12, .if_icmp .ge 149, 161, 0), (15, .iload_n 2, 0, 0), (16, .iconst 1, 0, 0), (17, .iadd, 0, 0),
  (18, .istore_n 3, 0, 0), (19, .iload_n 3, 0, 0), (20, .aload_n 1, 0, 0), (21, .getfield 23, 0, 1), (24, .if_icmp .ge 131, 155, 0), (27, .aload_n 1, 0, 0), (28, .iload_n 2, 0, 0), (29, .invokevirtual 26, 9, 0), (32, .aload_n 1, 0, 0), (33, .iload_n 3, 0, 0), (34, .invokevirtual 26, 9, 0), (37, .iand, 0, 0),
  (38, .ifCond .eq 7, 45, 0), (41, .iconst 1, 0, 0), (42, .goto 4, 46, 0), (45, .iconst 0, 0, 0), (46, .istore 4, 0, 0), (48, .aload_n 1, 0, 0), (49, .iload_n 2, 0, 0), (50, .invokevirtual 26, 9, 0), (53, .aload_n 1, 0, 0), (54, .iload_n 3, 0, 0), (55, .invokevirtual 26, 9, 0), (58, .ixor, 0, 0),
  (59, .istore 5, 0, 0), (61, .iload_n 3, 0, 0), (62, .iconst 1, 0, 0), (63, .iadd, 0, 0), (64, .istore 6, 0, 0), (66, .iload 6, 0, 0), (68, .aload_n 1, 0, 0), (69, .getfield 23, 0, 1), (72, .if_icmp .ge 77, 149, 0), (75, .iload 4, 0, 0), (77, .ifCond .eq 72, 149, 0), (80, .iload 5, 0, 0),
  (82, .aload_n 1, 0, 0), (83, .iload 6, 0, 0), (85, .invokevirtual 26, 9, 0), (88, .ixor, 0, 0), (89, .istore 7, 0, 0), (91, .iload 7, 0, 0), (93, .invokestatic 30, 343, 0), (96, .iconst 3, 0, 0), (97, .if_icmp .ne 12, 109, 0), (100, .aload_n 1, 0, 0), (101, .iload 7, 0, 0), (103, .invokevirtual 35, 11, 0),
  (106, .goto 4, 110, 0), (109, .iconst (-1), 0, 0), (110, .istore 8, 0, 0), (112, .iload 8, 0, 0), (114, .iload 6, 0, 0), (116, .if_icmp .le 27, 143, 0), (119, .aload_n 0, 0, 0), (120, .iload_n 2, 0, 0), (121, .iload_n 3, 0, 0), (122, .iload 6, 0, 0), (124, .iload 8, 0, 0), (126, .aload_n 1, 0, 0),
  (127, .iload_n 2, 0, 0), (128, .invokevirtual 26, 9, 0), (131, .aload_n 1, 0, 0), (132, .iload_n 3, 0, 0), (133, .invokevirtual 26, 9, 0), (136, .ior, 0, 0), (137, .iload 7, 0, 0), (139, .ior, 0, 0), (140, .invokevirtual 38, 58, 0), (143, .iinc 6 1, 0, 0), (146, .goto (-80), 66, 0), (149, .iinc 3 1, 0, 0),
  (152, .goto (-133), 19, 0), (155, .iinc 2 1, 0, 0), (158, .goto (-151), 7, 0), (161, .return_, 0, 0)], 9, 2, false, none, [], 4)
def am_n57 : amN := (yX4_gather, cX4_gather, [])
def am_h57 : List (List Nat) := [[], [], [295], [], [], [], [], [206], [], [], [], [], [], [], [], [206], [], [], [], [637, 638, 639, 124, 640], [], [], [637, 638, 639, 124, 640], [], [], [], [], [], [], [], [], [637, 638, 639, 124, 640], [], [], [637, 638, 639, 124, 640], [], [], [], [], [], [], [], [], [206], [], [], [], [], [], [], [637, 638, 639, 124, 640], [], [], [], [641, 568, 140, 569], [], [], [], [], [642, 643, 644, 124, 645], [], [], [], [], [], [], [], [], [], [], [], [], [], [637, 638, 639, 124, 640], [], [], [637, 638, 639, 124, 640], [], [], [], [654, 656, 12, 128, 657], [], [], [], [], [], [], []]
def am_g57 : List (Nat × Nat) := []
def am_m58 : amM := ([(0, .aload_n 0, 0, 0), (1, .getfield 19, 4, 0), (4, .bipush 105, 0, 0), (6, .if_icmp .ge 49, 55, 0), (9, .aload_n 0, 0, 0), (10, .getfield 9, 4, 1), (13, .aload_n 0, 0, 0), (14, .getfield 19, 4, 0), (17, .lconst 1, 0, 0), (18, .iload_n 1, 0, 0), (19, .lshl, 0, 0), (20, .lconst 1, 0, 0),
  (21, .iload_n 2, 0, 0), (22, .lshl, 0, 0), (23, .lor, 0, 0), (24, .lconst 1, 0, 0), (25, .iload_n 3, 0, 0), (26, .lshl, 0, 0), (27, .lor, 0, 0), (28, .lconst 1, 0, 0), (29, .iload 4, 0, 0), (31, .lshl, 0, 0), (32, .lor, 0, 0), (33, .lastore, 0, 0),
  (34, .aload_n 0, 0, 0), (35, .getfield 15, 4, 2), (38, .aload_n 0, 0, 0), (39, .getfield 19, 4, 0), (42, .iload 5, 0, 0), (44, .iastore, 0, 0), (45, .aload_n 0, 0, 0), (46, .dup, 0, 0), (47, .getfield 19, 4, 0), (50, .iconst 1, 0, 0), (51, .iadd, 0, 0), (52, .putfield 19, 4, 0),
  (55, .return_, 0, 0)], 6, 6, false, none, [], 4)
def am_n58 : amN := (yX4_keep, cX4_keep, [])
def am_h58 : List (List Nat) := [[], [295], [], [], [], [297], [], [295], [], [], [], [], [], [], [], [], [], [], [], [], [], [], [], [], [], [298], [], [295], [], [], [], [], [295], [], [], [295], []]
def am_g58 : List (Nat × Nat) := []
def am_m59 : amM := ([(0, .aload_n 0, 0, 0), (1, .iload_n 1, 0, 0), (2, .invokevirtual 42, 64, 0), (5, .lstore_n 3, 0, 0), (6, .iconst 0, 0, 0), (7, .istore 5, 0, 0), (9, .iload 5, 0, 0), (11, .iload_n 2, 0, 0), (12, .if_icmp .ge 15, 27, 0), (15, .lload_n 3, 0, 0), (16, .lload_n 3, 0, 0), (17, .lconst 1, 0, 0),
  (18, .lsub, 0, 0), (19, .land, 0, 0), (20, .lstore_n 3, 0, 0), (21, .iinc 5 1, 0, 0), (24, .goto (-15), 9, 0), (27, .lload_n 3, 0, 0), (28, .lconst 0, 0, 0), (29, .lcmp, 0, 0), (30, .ifCond .ne 7, 37, 0), (33, .iconst (-1), 0, 0), (34, .goto 12, 46, 0), (37, .lload_n 3, 0, 0),
  (38, .lload_n 3, 0, 0), (39, .lneg, 0, 0), (40, .land, 0, 0), (41, .lconst 1, 0, 0), (42, .lsub, 0, 0), (43, .invokestatic 46, 344, 0), (46, .ireturn, 0, 0)], 6, 3, false, (some .int), [], 4)
def am_n59 : amN := (yX4_tripleOf, cX4_tripleOf, [])
def am_h59 : List (List Nat) := [[], [], [740, 742, 16, 128, 743], [], [], [], [], [], [], [], [], [], [], [], [], [], [], [], [], [], [], [], [], [], [], [], [], [], [], [752, 753, 148, 754], []]
def am_g59 : List (Nat × Nat) := []
def am_m60 : amM := ([(0, .iload_n 1, 0, 0), (1, .ifCond .lt 20, 21, 0), (4, .iload_n 1, 0, 0), (5, .aload_n 0, 0, 0), (6, .getfield 19, 4, 0), (9, .if_icmp .ge 12, 21, 0), (12, .aload_n 0, 0, 0), (13, .getfield 15, 4, 2), (16, .iload_n 1, 0, 0), (17, .iaload, 0, 0), (18, .goto 4, 22, 0), (21, .iconst 0, 0, 0),
  (22, .ireturn, 0, 0)], 2, 2, false, (some .int), [], 4)
def am_n60 : amN := (yX4_pointsOf, cX4_pointsOf, [])
def am_h60 : List (List Nat) := [[], [], [], [], [295], [], [], [298], [], [], [], [], []]
def am_g60 : List (Nat × Nat) := []
def am_m61 : amM := ([(0, .aload_n 0, 0, 0), (1, .iload_n 2, 0, 0), (2, .invokevirtual 51, 60, 0), (5, .iload_n 3, 0, 0), (6, .invokestatic 54, 69, 0), (9, .ifCond .ne 5, 14, 0), (12, .iconst (-1), 0, 0), (13, .ireturn, 0, 0), (14, .aload_n 0, 0, 0), (15, .iload_n 2, 0, 0), (16, .invokevirtual 51, 60, 0), (19, .istore 4, 0, 0),
  (21, .iconst 0, 0, 0), (22, .istore 5, 0, 0), (24, .iload 5, 0, 0), (26, .iconst 4, 0, 0), (27, .if_icmp .ge 40, 67, 0), (30, .aload_n 1, 0, 0), (31, .aload_n 0, 0, 0), (32, .iload_n 2, 0, 0), (33, .iload 5, 0, 0), (35, .invokevirtual 60, 59, 0), (38, .invokevirtual 26, 9, 0), (41, .istore 6, 0, 0),
  (43, .iload 6, 0, 0), (45, .iload_n 3, 0, 0), (46, .invokestatic 54, 69, 0), (49, .ifCond .eq 12, 61, 0), (52, .iload 4, 0, 0), (54, .iload 6, 0, 0), (56, .iconst (-1), 0, 0), (57, .ixor, 0, 0), (58, .iand, 0, 0), (59, .istore 4, 0, 0), (61, .iinc 5 1, 0, 0), (64, .goto (-40), 24, 0),
  (67, .iload 4, 0, 0), (69, .iconst 0, 0, 0), (70, .invokestatic 64, 70, 0), (73, .ireturn, 0, 0)], 7, 4, false, (some .int), [], 4)
def am_n61 : amN := (yX4_oppositeOf, cX4_oppositeOf, [])
def am_h61 : List (List Nat) := [[], [], [758, 759, 760, 128, 761], [], [1202, 558, 139, 559], [], [], [], [], [], [758, 759, 760, 128, 761], [], [], [], [], [], [], [], [], [], [], [748, 749, 750, 128, 751], [637, 638, 639, 124, 640], [], [], [], [1202, 558, 139, 559], [], [], [], [], [], [], [], [], [], [], [], [783, 565, 139, 566], []]
def am_g61 : List (Nat × Nat) := []
def am_m62 : amM := ([(0, .iconst 0, 0, 0), (1, .istore_n 2, 0, 0), (2, .iconst 0, 0, 0), (3, .istore_n 3, 0, 0), (4, .iload_n 3, 0, 0), (5, .aload_n 0, 0, 0), (6, .getfield 19, 4, 0), (9, .if_icmp .ge 24, 33, 0), (12, .aload_n 0, 0, 0), (13, .iload_n 3, 0, 0), (14, .invokevirtual 51, 60, 0), (17, .iload_n 1, 0, 0),
  (18, .invokestatic 54, 69, 0), (21, .ifCond .eq 6, 27, 0), (24, .iinc 2 1, 0, 0), (27, .iinc 3 1, 0, 0), (30, .goto (-26), 4, 0), (33, .iload_n 2, 0, 0), (34, .ireturn, 0, 0)], 4, 2, false, (some .int), [], 4)
def am_n62 : amN := (yX4_holdingPoint, cX4_holdingPoint, [])
def am_h62 : List (List Nat) := [[], [], [], [], [], [], [295], [], [], [], [758, 759, 760, 128, 761], [], [1202, 558, 139, 559], [], [], [], [], [], []]
def am_g62 : List (Nat × Nat) := []
def am_m63 : amM := ([(0, .iconst 0, 0, 0), (1, .istore_n 3, 0, 0), (2, .iconst 0, 0, 0), (3, .istore 4, 0, 0), (5, .iload 4, 0, 0), (7, .aload_n 0, 0, 0), (8, .getfield 19, 4, 0), (11, .if_icmp .ge 25, 36, 0), (14, .aload_n 0, 0, 0), (15, .iload 4, 0, 0), (17, .invokevirtual 42, 64, 0), (20, .lload_n 1, 0, 0),
  (21, .land, 0, 0), (22, .lconst 0, 0, 0), (23, .lcmp, 0, 0), (24, .ifCond .eq 6, 30, 0), (27, .iinc 3 1, 0, 0), (30, .iinc 4 1, 0, 0), (33, .goto (-28), 5, 0), (36, .iload_n 3, 0, 0), (37, .ireturn, 0, 0)], 5, 2, false, (some .int), [], 4)
def am_n63 : amN := (yX4_holdingAny, cX4_holdingAny, [])
def am_h63 : List (List Nat) := [[], [], [], [], [], [], [295], [], [], [], [740, 742, 16, 128, 743], [], [], [], [], [], [], [], [], [], []]
def am_g63 : List (Nat × Nat) := []
def am_m64 : amM := ([(0, .iload_n 1, 0, 0), (1, .ifCond .lt 20, 21, 0), (4, .iload_n 1, 0, 0), (5, .aload_n 0, 0, 0), (6, .getfield 19, 4, 0), (9, .if_icmp .ge 12, 21, 0), (12, .aload_n 0, 0, 0), (13, .getfield 9, 4, 1), (16, .iload_n 1, 0, 0), (17, .laload, 0, 0), (18, .goto 4, 22, 0), (21, .lconst 0, 0, 0),
  (22, .lreturn, 0, 0)], 2, 2, false, (some .long), [], 4)
def am_n64 : amN := (yX4_maskOf, cX4_maskOf, [])
def am_h64 : List (List Nat) := [[], [], [], [], [295], [], [], [297], [], [], [], [], []]
def am_g64 : List (Nat × Nat) := []
def am_m65 : amM := ([(0, .iconst 0, 0, 0), (1, .istore_n 3, 0, 0), (2, .iload_n 3, 0, 0), (3, .aload_n 0, 0, 0), (4, .getfield 19, 4, 0), (7, .if_icmp .ge 21, 28, 0), (10, .aload_n 0, 0, 0), (11, .iload_n 3, 0, 0), (12, .invokevirtual 42, 64, 0), (15, .lload_n 1, 0, 0), (16, .lcmp, 0, 0), (17, .ifCond .ne 5, 22, 0),
  (20, .iconst 1, 0, 0), (21, .ireturn, 0, 0), (22, .iinc 3 1, 0, 0), (25, .goto (-23), 2, 0), (28, .iconst 0, 0, 0), (29, .ireturn, 0, 0)], 4, 2, false, (some .boolean), [], 4)
def am_n65 : amN := (yX4_hasMask, cX4_hasMask, [])
def am_h65 : List (List Nat) := [[], [], [], [], [295], [], [], [], [740, 742, 16, 128, 743], [], [], [], [], [], [], [], [], []]
def am_g65 : List (Nat × Nat) := []
def am_m66 : amM := ([(0, .aload_n 3, 0, 0), (1, .aload_n 0, 0, 0), (2, .iload_n 2, 0, 0), (3, .invokevirtual 42, 64, 0), (6, .invokevirtual 67, 46, 0), (9, .iconst 0, 0, 0), (10, .istore 4, 0, 0), (12, .iload 4, 0, 0), (14, .iconst 4, 0, 0), (15, .if_icmp .ge 38, 53, 0), (18, .aload_n 1, 0, 0), (19, .aload_n 0, 0, 0),
  (20, .iload_n 2, 0, 0), (21, .iload 4, 0, 0), (23, .invokevirtual 60, 59, 0), (26, .invokevirtual 26, 9, 0), (29, .istore 5, 0, 0), (31, .aload_n 3, 0, 0), (32, .iload 5, 0, 0), (34, .aload_n 0, 0, 0), (35, .iload_n 2, 0, 0), (36, .invokevirtual 51, 60, 0), (39, .iload 5, 0, 0), (41, .iconst (-1), 0, 0),
  (42, .ixor, 0, 0), (43, .iand, 0, 0), (44, .invokevirtual 73, 47, 0), (47, .iinc 4 1, 0, 0), (50, .goto (-38), 12, 0), (53, .return_, 0, 0)], 6, 4, false, none, [], 4)
def am_n66 : amN := (yX4_planSwitch, cX4_planSwitch, [])
def am_h66 : List (List Nat) := [[], [], [], [740, 742, 16, 128, 743], [744, 745, 746, 132, 747], [], [], [], [], [], [], [], [], [], [748, 749, 750, 128, 751], [637, 638, 639, 124, 640], [], [], [], [], [], [758, 759, 760, 128, 761], [], [], [], [], [762, 763, 764, 132, 765], [], [], []]
def am_g66 : List (Nat × Nat) := []
def am_m67 : amM := ([(0, .iload_n 1, 0, 0), (1, .iconst 0, 0, 0), (2, .invokestatic 64, 70, 0), (5, .istore_n 2, 0, 0), (6, .iload_n 1, 0, 0), (7, .iconst 1, 0, 0), (8, .invokestatic 64, 70, 0), (11, .istore_n 3, 0, 0), (12, .iload_n 1, 0, 0), (13, .iconst 2, 0, 0), (14, .invokestatic 64, 70, 0), (17, .istore 4, 0, 0),
  (19, .iconst 0, 0, 0), (20, .istore 5, 0, 0), (22, .iconst 0, 0, 0), (23, .istore 6, 0, 0), (25, .iload 6, 0, 0), (27, .aload_n 0, 0, 0), (28, .getfield 77, 0, 0), (31, .if_icmp .ge 75, 106, 0), (34, .aload_n 0, 0, 0), (35, .iload_n 2, 0, 0), (36, .iload 6, 0, 0), (38, .invokevirtual 80, 7, 0),
  (41, .istore 7, 0, 0), (43, .iload 7, 0, 0), (45, .iconst (-1), 0, 0), (46, .if_icmp .eq 54, 100, 0), (49, .iload 6, 0, 0), (51, .iload_n 3, 0, 0), (52, .if_icmp .eq 48, 100, 0), (55, .iload 6, 0, 0), (57, .iload 4, 0, 0), (59, .if_icmp .eq 41, 100, 0), (62, .aload_n 0, 0, 0), (63, .iload_n 3, 0, 0),
  (64, .iload 6, 0, 0), (66, .invokevirtual 80, 7, 0), (69, .istore 8, 0, 0), (71, .iload 5, 0, 0), (73, .iload 8, 0, 0), (75, .iconst (-1), 0, 0), (76, .if_icmp .eq 20, 96, 0), (79, .iload 8, 0, 0), (81, .aload_n 0, 0, 0), (82, .iload 4, 0, 0), (84, .iload 7, 0, 0), (86, .invokevirtual 80, 7, 0),
  (89, .if_icmp .ne 7, 96, 0), (92, .iconst 1, 0, 0), (93, .goto 4, 97, 0), (96, .iconst 0, 0, 0), (97, .iadd, 0, 0), (98, .istore 5, 0, 0), (100, .iinc 6 1, 0, 0), (103, .goto (-78), 25, 0), (106, .iload 5, 0, 0), (108, .ireturn, 0, 0)], 9, 2, false, (some .int), [], 4)
def am_n67 : amN := (yX4_countWith, cX4_countWith, [])
def am_h67 : List (List Nat) := [[], [], [783, 565, 139, 566], [], [], [], [783, 565, 139, 566], [], [], [], [783, 565, 139, 566], [], [], [], [], [], [], [], [205], [], [], [], [], [784, 619, 620, 124, 621], [], [], [], [], [], [], [], [], [], [], [], [], [], [784, 619, 620, 124, 621], [], [], [], [], [], [], [], [], [], [784, 619, 620, 124, 621], [], [], [], [], [], [], [], [], [], []]
def am_g67 : List (Nat × Nat) := []
def am_m68 : amM := ([(0, .iconst 1, 0, 0), (1, .iload_n 0, 0, 0), (2, .ishl, 0, 0), (3, .iconst 1, 0, 0), (4, .iload_n 1, 0, 0), (5, .ishl, 0, 0), (6, .ior, 0, 0), (7, .iconst 1, 0, 0), (8, .iload_n 2, 0, 0), (9, .ishl, 0, 0), (10, .ior, 0, 0), (11, .ireturn, 0, 0)], 3, 3, false, (some .int), [], 99)
def am_n68 : amN := (yX5_three, cX5_three, [])
def am_h68 : List (List Nat) := [[], [], [], [], [], [], [], [], [], [], [], []]
def am_g68 : List (Nat × Nat) := []
def am_m69 : amM := ([(0, .iload_n 0, 0, 0), (1, .iload_n 1, 0, 0), (2, .ishr, 0, 0), (3, .iconst 1, 0, 0), (4, .iand, 0, 0), (5, .iconst 1, 0, 0), (6, .if_icmp .ne 7, 13, 0), (9, .iconst 1, 0, 0), (10, .goto 4, 14, 0), (13, .iconst 0, 0, 0), (14, .ireturn, 0, 0)], 2, 2, false, (some .boolean), [], 99)
def am_n69 : amN := (yX5_has, cX5_has, [])
def am_h69 : List (List Nat) := [[], [], [], [], [], [], [], [], [], [], []]
def am_g69 : List (Nat × Nat) := []
def am_m70 : amM := ([(0, .iload_n 0, 0, 0), (1, .istore_n 2, 0, 0), (2, .iconst 0, 0, 0), (3, .istore_n 3, 0, 0), (4, .iload_n 3, 0, 0), (5, .iload_n 1, 0, 0), (6, .if_icmp .ge 15, 21, 0), (9, .iload_n 2, 0, 0), (10, .iload_n 2, 0, 0), (11, .iconst 1, 0, 0), (12, .isub, 0, 0), (13, .iand, 0, 0),
  (14, .istore_n 2, 0, 0), (15, .iinc 3 1, 0, 0), (18, .goto (-14), 4, 0), (21, .iload_n 2, 0, 0), (22, .ifCond .ne 7, 29, 0), (25, .iconst (-1), 0, 0), (26, .goto 12, 38, 0), (29, .iload_n 2, 0, 0), (30, .iload_n 2, 0, 0), (31, .ineg, 0, 0), (32, .iand, 0, 0), (33, .iconst 1, 0, 0),
  (34, .isub, 0, 0), (35, .invokestatic 9, 343, 0), (38, .ireturn, 0, 0)], 4, 2, false, (some .int), [], 99)
def am_n70 : amN := (yX5_member, cX5_member, [])
def am_h70 : List (List Nat) := [[], [], [], [], [], [], [], [], [], [], [], [], [], [], [], [], [], [], [], [], [], [], [], [], [], [567, 568, 140, 569], []]
def am_g70 : List (Nat × Nat) := []
def am_m71 : amM := ([(0, .iload_n 0, 0, 0), (1, .iload_n 1, 0, 0), (2, .ishl, 0, 0), (3, .iload_n 0, 0, 0), (4, .iload_n 2, 0, 0), (5, .iload_n 1, 0, 0), (6, .isub, 0, 0), (7, .ishr, 0, 0), (8, .ior, 0, 0), (9, .iconst 1, 0, 0), (10, .iload_n 2, 0, 0), (11, .ishl, 0, 0),
  (12, .iconst 1, 0, 0), (13, .isub, 0, 0), (14, .iand, 0, 0), (15, .ireturn, 0, 0)], 3, 3, false, (some .int), [], 99)
def am_n71 : amN := (yX5_turned, cX5_turned, [])
def am_h71 : List (List Nat) := [[], [], [], [], [], [], [], [], [], [], [], [], [], [], [], []]
def am_g71 : List (Nat × Nat) := []
def am_m72 : amM := ([(0, .iload_n 0, 0, 0), (1, .iload_n 1, 0, 0), (2, .invokestatic 15, 69, 0), (5, .iload_n 0, 0, 0), (6, .iload_n 2, 0, 0), (7, .invokestatic 15, 69, 0), (10, .if_icmp .ne 7, 17, 0), (13, .iload_n 0, 0, 0), (14, .goto 12, 26, 0), (17, .iload_n 0, 0, 0), (18, .iconst 1, 0, 0), (19, .iload_n 1, 0, 0),
  (20, .ishl, 0, 0), (21, .iconst 1, 0, 0), (22, .iload_n 2, 0, 0), (23, .ishl, 0, 0), (24, .ior, 0, 0), (25, .ixor, 0, 0), (26, .ireturn, 0, 0)], 3, 3, false, (some .int), [], 99)
def am_n72 : amN := (yX5_exchanged, cX5_exchanged, [])
def am_h72 : List (List Nat) := [[], [], [1467, 558, 139, 559], [], [], [1467, 558, 139, 559], [], [], [], [], [], [], [], [], [], [], [], [], []]
def am_g72 : List (Nat × Nat) := []
def am_m73 : amM := ([(0, .iload_n 0, 0, 0), (1, .iconst 2, 0, 0), (2, .invokestatic 21, 70, 0), (5, .bipush 8, 0, 0), (7, .ishl, 0, 0), (8, .iload_n 0, 0, 0), (9, .iconst 1, 0, 0), (10, .invokestatic 21, 70, 0), (13, .iconst 4, 0, 0), (14, .ishl, 0, 0), (15, .ior, 0, 0), (16, .iload_n 0, 0, 0),
  (17, .iconst 0, 0, 0), (18, .invokestatic 21, 70, 0), (21, .ior, 0, 0), (22, .ireturn, 0, 0)], 1, 1, false, (some .int), [], 99)
def am_n73 : amN := (yX5_digits, cX5_digits, [])
def am_h73 : List (List Nat) := [[], [], [1348, 565, 139, 566], [], [], [], [], [1348, 565, 139, 566], [], [], [], [], [], [1348, 565, 139, 566], [], []]
def am_g73 : List (Nat × Nat) := []
def am_m74 : amM := ([(0, .aload_n 0, 0, 0), (1, .invokespecial 3, 0, 5), (4, .aload_n 0, 0, 0), (5, .iconst 0, 0, 0), (6, .putfield 9, 5, 1), (9, .aload_n 0, 0, 0), (10, .iconst (-1), 0, 0), (11, .putfield 15, 5, 2), (14, .aload_n 0, 0, 0), (15, .sipush 600, 0, 0), (18, .newarray .byte, 0, 0), (20, .putfield 18, 5, 3),
  (23, .return_, 0, 0)], 1, 1, true, none, [], 5)
def am_n74 : amN := (yX6_init, cX6_init, [])
def am_h74 : List (List Nat) := [[], [163, 156, 157], [], [], [166], [], [], [168], [], [], [192], [170], []]
def am_g74 : List (Nat × Nat) := []
def am_m75 : amM := ([(0, .aload_n 0, 0, 0), (1, .getfield 22, 5, 0), (4, .bipush 20, 0, 0), (6, .iadd, 0, 0), (7, .sipush 600, 0, 0), (10, .if_icmp .gt 7, 17, 0), (13, .iconst 1, 0, 0), (14, .goto 4, 18, 0), (17, .iconst 0, 0, 0), (18, .ireturn, 0, 0)], 1, 1, false, (some .boolean), [], 5)
def am_n75 : amN := (yX6_hasRoom, cX6_hasRoom, [])
def am_h75 : List (List Nat) := [[], [164], [], [], [], [], [], [], [], []]
def am_g75 : List (Nat × Nat) := []
def am_m76 : amM := ([(0, .bipush 24, 0, 0), (2, .istore_n 2, 0, 0), (3, .iload_n 2, 0, 0), (4, .ifCond .lt 44, 48, 0), (7, .aload_n 0, 0, 0), (8, .getfield 22, 5, 0), (11, .aload_n 0, 0, 0), (12, .getfield 18, 5, 3), (15, .arraylength, 0, 0), (16, .if_icmp .ge 32, 48, 0), (19, .aload_n 0, 0, 0), (20, .getfield 18, 5, 3),
  (23, .aload_n 0, 0, 0), (24, .getfield 22, 5, 0), (27, .iload_n 1, 0, 0), (28, .iload_n 2, 0, 0), (29, .ishr, 0, 0), (30, .i2b, 0, 0), (31, .bastore, 0, 0), (32, .aload_n 0, 0, 0), (33, .dup, 0, 0), (34, .getfield 22, 5, 0), (37, .iconst 1, 0, 0), (38, .iadd, 0, 0),
  (39, .putfield 22, 5, 0), (42, .iinc 2 (-8), 0, 0), (45, .goto (-42), 3, 0), (48, .return_, 0, 0)], 3, 2, false, none, [], 5)
def am_n76 : amN := (yX6_append, cX6_append, [])
def am_h76 : List (List Nat) := [[], [], [], [], [], [164], [], [170], [], [], [], [170], [], [164], [], [], [], [], [], [], [], [164], [], [], [164], [], [], []]
def am_g76 : List (Nat × Nat) := []
def am_m77 : amM := ([(0, .aload_n 0, 0, 0), (1, .iconst 0, 0, 0), (2, .putfield 9, 5, 1), (5, .aload_n 0, 0, 0), (6, .iconst (-1), 0, 0), (7, .putfield 15, 5, 2), (10, .aload_n 0, 0, 0), (11, .iconst 0, 0, 0), (12, .putfield 25, 5, 4), (15, .aload_n 0, 0, 0), (16, .invokevirtual 28, 81, 0), (19, .aload_n 0, 0, 0),
  (20, .aload_n 1, 0, 0), (21, .invokevirtual 31, 78, 0), (24, .istore_n 2, 0, 0), (25, .iconst 0, 0, 0), (26, .istore_n 3, 0, 0), (27, .iload_n 3, 0, 0), (28, .sipush 600, 0, 0), (31, .if_icmp .ge 26, 57, 0), (34, .iload_n 2, 0, 0), (35, .ifCond .eq 22, 57, 0), (38, .aload_n 0, 0, 0), (39, .getfield 35, 5, 5),
  (42, .ifCond .eq 15, 57, 0), (45, .aload_n 0, 0, 0), (46, .aload_n 1, 0, 0), (47, .invokevirtual 38, 79, 0), (50, .istore_n 2, 0, 0), (51, .iinc 3 1, 0, 0), (54, .goto (-27), 27, 0), (57, .iload_n 2, 0, 0), (58, .ireturn, 0, 0)], 4, 2, false, (some .boolean), [], 5)
def am_n77 : amN := (yX6_read, cX6_read, [])
def am_h77 : List (List Nat) := [[], [], [166], [], [], [168], [], [], [171], [], [463, 465, 0, 123, 466], [], [], [485, 487, 4, 123, 488], [], [], [], [], [], [], [], [], [], [172], [], [], [], [547, 549, 7, 123, 550], [], [], [], [], []]
def am_g77 : List (Nat × Nat) := []
def am_m78 : amM := ([(0, .aload_n 0, 0, 0), (1, .ldc 41, 0, 1), (3, .invokevirtual 43, 84, 0), (6, .ifCond .ne 9, 15, 0), (9, .aload_n 0, 0, 0), (10, .iconst 1, 0, 0), (11, .invokevirtual 47, 80, 0), (14, .ireturn, 0, 0), (15, .aload_n 0, 0, 0), (16, .invokevirtual 28, 81, 0), (19, .aload_n 0, 0, 0), (20, .getfield 35, 5, 5),
  (23, .iconst 2, 0, 0), (24, .if_icmp .eq 9, 33, 0), (27, .aload_n 0, 0, 0), (28, .iconst 1, 0, 0), (29, .invokevirtual 47, 80, 0), (32, .ireturn, 0, 0), (33, .aload_n 0, 0, 0), (34, .getfield 51, 5, 7), (37, .iconst 3, 0, 0), (38, .if_icmp .lt 12, 50, 0), (41, .aload_n 0, 0, 0), (42, .getfield 51, 5, 7),
  (45, .bipush 15, 0, 0), (47, .if_icmp .le 9, 56, 0), (50, .aload_n 0, 0, 0), (51, .iconst 2, 0, 0), (52, .invokevirtual 47, 80, 0), (55, .ireturn, 0, 0), (56, .aload_n 1, 0, 0), (57, .aload_n 0, 0, 0), (58, .getfield 51, 5, 7), (61, .invokevirtual 54, 1, 0), (64, .aload_n 0, 0, 0), (65, .invokevirtual 28, 81, 0),
  (68, .aload_n 0, 0, 0), (69, .getfield 35, 5, 5), (72, .iconst 3, 0, 0), (73, .if_icmp .eq 9, 82, 0), (76, .aload_n 0, 0, 0), (77, .iconst 1, 0, 0), (78, .invokevirtual 47, 80, 0), (81, .ireturn, 0, 0), (82, .aload_n 0, 0, 0), (83, .invokevirtual 28, 81, 0), (86, .iconst 1, 0, 0), (87, .ireturn, 0, 0)], 2, 2, false, (some .boolean), [], 5)
def am_n78 : amN := (yX6_readPoints, cX6_readPoints, [])
def am_h78 : List (List Nat) := [[], [], [490, 492, 5, 123, 493], [], [], [], [542, 544, 6, 123, 545], [], [], [463, 465, 0, 123, 466], [], [172], [], [], [], [], [542, 544, 6, 123, 545], [], [], [174], [], [], [], [174], [], [], [], [], [542, 544, 6, 123, 545], [], [], [], [174], [546, 389, 390, 124, 391], [], [463, 465, 0, 123, 466], [], [172], [], [], [], [], [542, 544, 6, 123, 545], [], [], [463, 465, 0, 123, 466], [], []]
def am_g78 : List (Nat × Nat) := []
def am_m79 : amM := ([(0, .aload_n 0, 0, 0), (1, .ldc 60, 1, 1), (3, .invokevirtual 43, 84, 0), (6, .istore_n 2, 0, 0), (7, .iload_n 2, 0, 0), (8, .ifCond .ne 18, 26, 0), (11, .aload_n 0, 0, 0), (12, .ldc 62, 2, 1), (14, .invokevirtual 43, 84, 0), (17, .ifCond .ne 9, 26, 0), (20, .aload_n 0, 0, 0), (21, .iconst 1, 0, 0),
  (22, .invokevirtual 47, 80, 0), (25, .ireturn, 0, 0), (26, .aload_n 0, 0, 0), (27, .invokevirtual 28, 81, 0), (30, .iconst 0, 0, 0), (31, .istore_n 3, 0, 0), (32, .iconst 0, 0, 0), (33, .istore 4, 0, 0), (35, .iload 4, 0, 0), (37, .iconst 3, 0, 0), (38, .if_icmp .ge 64, 102, 0), (41, .aload_n 0, 0, 0),
  (42, .getfield 35, 5, 5), (45, .iconst 2, 0, 0), (46, .if_icmp .eq 9, 55, 0), (49, .aload_n 0, 0, 0), (50, .iconst 1, 0, 0), (51, .invokevirtual 47, 80, 0), (54, .ireturn, 0, 0), (55, .aload_n 1, 0, 0), (56, .aload_n 0, 0, 0), (57, .getfield 51, 5, 7), (60, .invokevirtual 64, 3, 0), (63, .ifCond .eq 14, 77, 0),
  (66, .iload_n 3, 0, 0), (67, .aload_n 0, 0, 0), (68, .getfield 51, 5, 7), (71, .invokestatic 67, 69, 0), (74, .ifCond .eq 9, 83, 0), (77, .aload_n 0, 0, 0), (78, .iconst 2, 0, 0), (79, .invokevirtual 47, 80, 0), (82, .ireturn, 0, 0), (83, .iload_n 3, 0, 0), (84, .iconst 1, 0, 0), (85, .aload_n 0, 0, 0),
  (86, .getfield 51, 5, 7), (89, .ishl, 0, 0), (90, .ior, 0, 0), (91, .istore_n 3, 0, 0), (92, .aload_n 0, 0, 0), (93, .invokevirtual 28, 81, 0), (96, .iinc 4 1, 0, 0), (99, .goto (-64), 35, 0), (102, .aload_n 0, 0, 0), (103, .getfield 35, 5, 5), (106, .iconst 3, 0, 0), (107, .if_icmp .eq 9, 116, 0),
  (110, .aload_n 0, 0, 0), (111, .iconst 1, 0, 0), (112, .invokevirtual 47, 80, 0), (115, .ireturn, 0, 0), (116, .aload_n 1, 0, 0), (117, .iload_n 3, 0, 0), (118, .invokevirtual 73, 13, 0), (121, .ifCond .eq 16, 137, 0), (124, .iload_n 2, 0, 0), (125, .ifCond .eq 18, 143, 0), (128, .aload_n 1, 0, 0), (129, .iload_n 3, 0, 0),
  (130, .invokevirtual 76, 21, 0), (133, .iconst (-1), 0, 0), (134, .if_icmp .ne 9, 143, 0), (137, .aload_n 0, 0, 0), (138, .iconst 3, 0, 0), (139, .invokevirtual 47, 80, 0), (142, .ireturn, 0, 0), (143, .iload_n 2, 0, 0), (144, .ifCond .ne 8, 152, 0), (147, .aload_n 1, 0, 0), (148, .iload_n 3, 0, 0), (149, .invokevirtual 80, 14, 0),
  (152, .aload_n 0, 0, 0), (153, .invokevirtual 28, 81, 0), (156, .iconst 1, 0, 0), (157, .ireturn, 0, 0)], 5, 2, false, (some .boolean), [], 5)
def am_n79 : amN := (yX6_readStatement, cX6_readStatement, [])
def am_h79 : List (List Nat) := [[], [], [490, 492, 5, 123, 493], [], [], [], [], [], [490, 492, 5, 123, 493], [], [], [], [542, 544, 6, 123, 545], [], [], [463, 465, 0, 123, 466], [], [], [], [], [], [], [], [], [172], [], [], [], [], [542, 544, 6, 123, 545], [], [], [], [174], [553, 554, 555, 124, 556], [], [], [], [174], [557, 558, 139, 559], [], [], [], [542, 544, 6, 123, 545], [], [], [], [], [174], [], [], [], [], [463, 465, 0, 123, 466], [], [], [], [172], [], [], [], [], [542, 544, 6, 123, 545], [], [], [], [560, 561, 562, 124, 563], [], [], [], [], [], [578, 579, 580, 124, 581], [], [], [], [], [542, 544, 6, 123, 545], [], [], [], [], [], [594, 587, 588, 124, 589], [], [463, 465, 0, 123, 466], [], []]
def am_g79 : List (Nat × Nat) := []
def am_m80 : amM := ([(0, .aload_n 0, 0, 0), (1, .iload_n 1, 0, 0), (2, .putfield 9, 5, 1), (5, .aload_n 0, 0, 0), (6, .aload_n 0, 0, 0), (7, .getfield 83, 5, 6), (10, .putfield 15, 5, 2), (13, .iconst 0, 0, 0), (14, .ireturn, 0, 0)], 2, 2, false, (some .boolean), [], 5)
def am_n80 : amN := (yX6_fail, cX6_fail, [])
def am_h80 : List (List Nat) := [[], [], [166], [], [], [173], [168], [], []]
def am_g80 : List (Nat × Nat) := []
def am_m81 : amM := ([(0, .aload_n 0, 0, 0), (1, .getfield 25, 5, 4), (4, .aload_n 0, 0, 0), (5, .getfield 22, 5, 0), (8, .if_icmp .ge 42, 50, 0), (11, .aload_n 0, 0, 0), (12, .aload_n 0, 0, 0), (13, .getfield 25, 5, 4), (16, .invokevirtual 86, 85, 0), (19, .bipush 32, 0, 0), (21, .if_icmp .eq 16, 37, 0), (24, .aload_n 0, 0, 0),
  (25, .aload_n 0, 0, 0), (26, .getfield 25, 5, 4), (29, .invokevirtual 86, 85, 0), (32, .bipush 10, 0, 0), (34, .if_icmp .ne 16, 50, 0), (37, .aload_n 0, 0, 0), (38, .dup, 0, 0), (39, .getfield 25, 5, 4), (42, .iconst 1, 0, 0), (43, .iadd, 0, 0), (44, .putfield 25, 5, 4), (47, .goto (-47), 0, 0),
  (50, .aload_n 0, 0, 0), (51, .aload_n 0, 0, 0), (52, .getfield 25, 5, 4), (55, .putfield 83, 5, 6), (58, .aload_n 0, 0, 0), (59, .aload_n 0, 0, 0), (60, .getfield 25, 5, 4), (63, .invokevirtual 86, 85, 0), (66, .istore_n 1, 0, 0), (67, .iload_n 1, 0, 0), (68, .iconst (-1), 0, 0), (69, .if_icmp .ne 11, 80, 0),
  (72, .aload_n 0, 0, 0), (73, .iconst 0, 0, 0), (74, .putfield 35, 5, 5), (77, .goto 56, 133, 0), (80, .iload_n 1, 0, 0), (81, .invokestatic 89, 86, 0), (84, .ifCond .eq 10, 94, 0), (87, .aload_n 0, 0, 0), (88, .invokevirtual 92, 82, 0), (91, .goto 42, 133, 0), (94, .iload_n 1, 0, 0), (95, .invokestatic 95, 87, 0),
  (98, .ifCond .eq 10, 108, 0), (101, .aload_n 0, 0, 0), (102, .invokevirtual 98, 83, 0), (105, .goto 28, 133, 0), (108, .aload_n 0, 0, 0), (109, .iload_n 1, 0, 0), (110, .bipush 59, 0, 0), (112, .if_icmp .ne 7, 119, 0), (115, .iconst 3, 0, 0), (116, .goto 4, 120, 0), (119, .iconst 4, 0, 0), (120, .putfield 35, 5, 5),
  (123, .aload_n 0, 0, 0), (124, .dup, 0, 0), (125, .getfield 25, 5, 4), (128, .iconst 1, 0, 0), (129, .iadd, 0, 0), (130, .putfield 25, 5, 4), (133, .return_, 0, 0)], 2, 1, false, none, [], 5)
def am_n81 : amN := (yX6_advance, cX6_advance, [])
def am_h81 : List (List Nat) := [[], [171], [], [164], [], [], [], [171], [467, 469, 1, 123, 470], [], [], [], [], [171], [467, 469, 1, 123, 470], [], [], [], [], [171], [], [], [171], [], [], [], [171], [173], [], [], [171], [467, 469, 1, 123, 470], [], [], [], [], [], [], [172], [], [], [471, 472, 123, 473], [], [], [474, 476, 2, 123, 477], [], [], [478, 479, 123, 480], [], [], [481, 483, 3, 123, 484], [], [], [], [], [], [], [], [], [172], [], [], [171], [], [], [171], []]
def am_g81 : List (Nat × Nat) := []
def am_m82 : amM := ([(0, .aload_n 0, 0, 0), (1, .iconst 1, 0, 0), (2, .putfield 35, 5, 5), (5, .aload_n 0, 0, 0), (6, .getfield 25, 5, 4), (9, .aload_n 0, 0, 0), (10, .getfield 22, 5, 0), (13, .if_icmp .ge 30, 43, 0), (16, .aload_n 0, 0, 0), (17, .aload_n 0, 0, 0), (18, .getfield 25, 5, 4), (21, .invokevirtual 86, 85, 0),
  (24, .invokestatic 89, 86, 0), (27, .ifCond .eq 16, 43, 0), (30, .aload_n 0, 0, 0), (31, .dup, 0, 0), (32, .getfield 25, 5, 4), (35, .iconst 1, 0, 0), (36, .iadd, 0, 0), (37, .putfield 25, 5, 4), (40, .goto (-35), 5, 0), (43, .return_, 0, 0)], 1, 1, false, none, [], 5)
def am_n82 : amN := (yX6_readWord, cX6_readWord, [])
def am_h82 : List (List Nat) := [[], [], [172], [], [171], [], [164], [], [], [], [171], [467, 469, 1, 123, 470], [471, 472, 123, 473], [], [], [], [171], [], [], [171], [], []]
def am_g82 : List (Nat × Nat) := []
def am_m83 : amM := ([(0, .aload_n 0, 0, 0), (1, .iconst 0, 0, 0), (2, .putfield 51, 5, 7), (5, .aload_n 0, 0, 0), (6, .getfield 25, 5, 4), (9, .aload_n 0, 0, 0), (10, .getfield 22, 5, 0), (13, .if_icmp .ge 53, 66, 0), (16, .aload_n 0, 0, 0), (17, .aload_n 0, 0, 0), (18, .getfield 25, 5, 4), (21, .invokevirtual 86, 85, 0),
  (24, .invokestatic 95, 87, 0), (27, .ifCond .eq 39, 66, 0), (30, .aload_n 0, 0, 0), (31, .aload_n 0, 0, 0), (32, .getfield 51, 5, 7), (35, .bipush 10, 0, 0), (37, .imul, 0, 0), (38, .aload_n 0, 0, 0), (39, .aload_n 0, 0, 0), (40, .getfield 25, 5, 4), (43, .invokevirtual 86, 85, 0), (46, .iadd, 0, 0),
  (47, .bipush 48, 0, 0), (49, .isub, 0, 0), (50, .putfield 51, 5, 7), (53, .aload_n 0, 0, 0), (54, .dup, 0, 0), (55, .getfield 25, 5, 4), (58, .iconst 1, 0, 0), (59, .iadd, 0, 0), (60, .putfield 25, 5, 4), (63, .goto (-58), 5, 0), (66, .aload_n 0, 0, 0), (67, .aload_n 0, 0, 0),
  (68, .getfield 25, 5, 4), (71, .aload_n 0, 0, 0), (72, .getfield 83, 5, 6), (75, .isub, 0, 0), (76, .iconst 2, 0, 0), (77, .if_icmp .gt 7, 84, 0), (80, .iconst 2, 0, 0), (81, .goto 4, 85, 0), (84, .iconst 4, 0, 0), (85, .putfield 35, 5, 5), (88, .return_, 0, 0)], 1, 1, false, none, [], 5)
def am_n83 : amN := (yX6_readNumber, cX6_readNumber, [])
def am_h83 : List (List Nat) := [[], [], [174], [], [171], [], [164], [], [], [], [171], [467, 469, 1, 123, 470], [478, 479, 123, 480], [], [], [], [174], [], [], [], [], [171], [467, 469, 1, 123, 470], [], [], [], [174], [], [], [171], [], [], [171], [], [], [], [171], [], [173], [], [], [], [], [], [], [172], []]
def am_g83 : List (Nat × Nat) := []
def am_m84 : amM := ([(0, .aload_n 0, 0, 0), (1, .getfield 35, 5, 5), (4, .iconst 1, 0, 0), (5, .if_icmp .ne 19, 24, 0), (8, .aload_n 0, 0, 0), (9, .getfield 25, 5, 4), (12, .aload_n 0, 0, 0), (13, .getfield 83, 5, 6), (16, .isub, 0, 0), (17, .aload_n 1, 0, 0), (18, .invokevirtual 101, 0, 7), (21, .if_icmp .eq 5, 26, 0),
  (24, .iconst 0, 0, 0), (25, .ireturn, 0, 0), (26, .iconst 0, 0, 0), (27, .istore_n 2, 0, 0), (28, .iload_n 2, 0, 0), (29, .aload_n 1, 0, 0), (30, .invokevirtual 101, 0, 7), (33, .if_icmp .ge 29, 62, 0), (36, .aload_n 0, 0, 0), (37, .aload_n 0, 0, 0), (38, .getfield 83, 5, 6), (41, .iload_n 2, 0, 0),
  (42, .iadd, 0, 0), (43, .invokevirtual 86, 85, 0), (46, .aload_n 1, 0, 0), (47, .iload_n 2, 0, 0), (48, .invokevirtual 106, 0, 8), (51, .if_icmp .eq 5, 56, 0), (54, .iconst 0, 0, 0), (55, .ireturn, 0, 0), (56, .iinc 2 1, 0, 0), (59, .goto (-31), 28, 0), (62, .iconst 1, 0, 0), (63, .ireturn, 0, 0)], 3, 2, false, (some .boolean), [], 5)
def am_n84 : amN := (yX6_isWord, cX6_isWord, [])
def am_h84 : List (List Nat) := [[], [172], [], [], [], [171], [], [173], [], [], [494], [], [], [], [], [], [], [], [494], [], [], [], [173], [], [], [467, 469, 1, 123, 470], [], [], [504], [], [], [], [], [], [], []]
def am_g84 : List (Nat × Nat) := []
def am_m85 : amM := ([(0, .iload_n 1, 0, 0), (1, .ifCond .lt 33, 34, 0), (4, .iload_n 1, 0, 0), (5, .aload_n 0, 0, 0), (6, .getfield 22, 5, 0), (9, .if_icmp .ge 25, 34, 0), (12, .iload_n 1, 0, 0), (13, .aload_n 0, 0, 0), (14, .getfield 18, 5, 3), (17, .arraylength, 0, 0), (18, .if_icmp .ge 16, 34, 0), (21, .aload_n 0, 0, 0),
  (22, .getfield 18, 5, 3), (25, .iload_n 1, 0, 0), (26, .baload, 0, 0), (27, .sipush 255, 0, 0), (30, .iand, 0, 0), (31, .goto 4, 35, 0), (34, .iconst (-1), 0, 0), (35, .ireturn, 0, 0)], 2, 2, false, (some .int), [], 5)
def am_n85 : amN := (yX6_byteAt, cX6_byteAt, [])
def am_h85 : List (List Nat) := [[], [], [], [], [164], [], [], [], [170], [], [], [], [170], [], [], [], [], [], [], []]
def am_g85 : List (Nat × Nat) := []
def am_m86 : amM := ([(0, .iload_n 0, 0, 0), (1, .bipush 97, 0, 0), (3, .if_icmp .lt 13, 16, 0), (6, .iload_n 0, 0, 0), (7, .bipush 122, 0, 0), (9, .if_icmp .gt 7, 16, 0), (12, .iconst 1, 0, 0), (13, .goto 4, 17, 0), (16, .iconst 0, 0, 0), (17, .ireturn, 0, 0)], 1, 1, false, (some .boolean), [], 5)
def am_n86 : amN := (yX6_isLetter, cX6_isLetter, [])
def am_h86 : List (List Nat) := [[], [], [], [], [], [], [], [], [], []]
def am_g86 : List (Nat × Nat) := []
def am_m87 : amM := ([(0, .iload_n 0, 0, 0), (1, .bipush 48, 0, 0), (3, .if_icmp .lt 13, 16, 0), (6, .iload_n 0, 0, 0), (7, .bipush 57, 0, 0), (9, .if_icmp .gt 7, 16, 0), (12, .iconst 1, 0, 0), (13, .goto 4, 17, 0), (16, .iconst 0, 0, 0), (17, .ireturn, 0, 0)], 1, 1, false, (some .boolean), [], 5)
def am_n87 : amN := (yX6_isDigit, cX6_isDigit, [])
def am_h87 : List (List Nat) := [[], [], [], [], [], [], [], [], [], []]
def am_g87 : List (Nat × Nat) := []
def am_m88 : amM := ([(0, .aload_n 0, 0, 0), (1, .invokespecial 3, 0, 5), (4, .aload_n 0, 0, 0), (5, .bipush 35, 0, 0), (7, .newarray .int, 0, 0), (9, .putfield 9, 6, 2), (12, .aload_n 0, 0, 0), (13, .new 15, 7, 0), (16, .dup, 0, 0), (17, .invokespecial 17, 91, 3), (20, .putfield 18, 6, 3), (23, .return_, 0, 0)], 1, 1, true, none, [], 6)
def am_n88 : amN := (yX7_init, cX7_init, [])
def am_h88 : List (List Nat) := [[], [259, 156, 157], [], [], [227], [264], [], [260, 229, 125], [], [261, 231, 125, 232], [265], []]
def am_g88 : List (Nat × Nat) := []
def am_m89 : amM := ([(0, .aload_n 0, 0, 0), (1, .aload_n 1, 0, 0), (2, .getfield 22, 0, 0), (5, .putfield 28, 6, 0), (8, .aload_n 0, 0, 0), (9, .aload_n 1, 0, 0), (10, .getfield 29, 0, 1), (13, .putfield 32, 6, 1), (16, .iconst 0, 0, 0), (17, .istore_n 3, 0, 0), (18, .iload_n 3, 0, 0), (19, .aload_n 0, 0, 0),
  (20, .getfield 9, 6, 2), (23, .arraylength, 0, 0), (24, .if_icmp .ge 20, 44, 0), (27, .aload_n 0, 0, 0), (28, .getfield 9, 6, 2), (31, .iload_n 3, 0, 0), (32, .aload_n 1, 0, 0), (33, .iload_n 3, 0, 0), (34, .invokevirtual 33, 9, 0), (37, .iastore, 0, 0), (38, .iinc 3 1, 0, 0), (41, .goto (-23), 18, 0),
  (44, .aload_n 0, 0, 0), (45, .getfield 18, 6, 3), (48, .aload_n 2, 0, 0), (49, .invokevirtual 37, 93, 0), (52, .return_, 0, 0)], 4, 3, false, none, [], 6)
def am_n89 : amN := (yX7_keep, cX7_keep, [])
def am_h89 : List (List Nat) := [[], [], [199], [262], [], [], [207], [263], [], [], [], [], [264], [], [], [], [264], [], [], [], [695, 638, 639, 124, 640], [], [], [], [], [265], [], [696, 697, 698, 125, 699], []]
def am_g89 : List (Nat × Nat) := []
def am_m90 : amM := ([(0, .aload_n 1, 0, 0), (1, .aload_n 0, 0, 0), (2, .getfield 28, 6, 0), (5, .invokevirtual 41, 1, 0), (8, .iconst 0, 0, 0), (9, .istore_n 3, 0, 0), (10, .iload_n 3, 0, 0), (11, .aload_n 0, 0, 0), (12, .getfield 32, 6, 1), (15, .if_icmp .ge 28, 43, 0), (18, .iload_n 3, 0, 0), (19, .aload_n 0, 0, 0),
  (20, .getfield 9, 6, 2), (23, .arraylength, 0, 0), (24, .if_icmp .ge 19, 43, 0), (27, .aload_n 1, 0, 0), (28, .aload_n 0, 0, 0), (29, .getfield 9, 6, 2), (32, .iload_n 3, 0, 0), (33, .iaload, 0, 0), (34, .invokevirtual 45, 14, 0), (37, .iinc 3 1, 0, 0), (40, .goto (-30), 10, 0), (43, .aload_n 2, 0, 0),
  (44, .aload_n 0, 0, 0), (45, .getfield 18, 6, 3), (48, .invokevirtual 37, 93, 0), (51, .return_, 0, 0)], 4, 3, false, none, [], 6)
def am_n90 : amN := (yX7_giveBack, cX7_giveBack, [])
def am_h90 : List (List Nat) := [[], [], [262], [960, 389, 390, 124, 391], [], [], [], [], [263], [], [], [], [264], [], [], [], [], [264], [], [], [961, 587, 588, 124, 589], [], [], [], [], [265], [696, 697, 698, 125, 699], []]
def am_g90 : List (Nat × Nat) := []
def am_m91 : amM := ([(0, .aload_n 0, 0, 0), (1, .invokespecial 1, 0, 5), (4, .return_, 0, 0)], 1, 1, true, none, [], 7)
def am_n91 : amN := (yX8_init, cX8_init, [])
def am_h91 : List (List Nat) := [[], [233, 156, 157], []]
def am_g91 : List (Nat × Nat) := []
def am_m92 : amM := ([(0, .aload_n 0, 0, 0), (1, .iconst 0, 0, 0), (2, .putfield 7, 7, 0), (5, .aload_n 0, 0, 0), (6, .iconst 0, 0, 0), (7, .putfield 13, 7, 1), (10, .aload_n 0, 0, 0), (11, .iconst 0, 0, 0), (12, .putfield 16, 7, 2), (15, .return_, 0, 0)], 1, 1, false, none, [], 7)
def am_n92 : amN := (yX8_reset, cX8_reset, [])
def am_h92 : List (List Nat) := [[], [], [234], [], [], [236], [], [], [238], []]
def am_g92 : List (Nat × Nat) := []
def am_m93 : amM := ([(0, .aload_n 0, 0, 0), (1, .aload_n 1, 0, 0), (2, .getfield 7, 7, 0), (5, .putfield 7, 7, 0), (8, .aload_n 0, 0, 0), (9, .aload_n 1, 0, 0), (10, .getfield 13, 7, 1), (13, .putfield 13, 7, 1), (16, .aload_n 0, 0, 0), (17, .aload_n 1, 0, 0), (18, .getfield 16, 7, 2), (21, .putfield 16, 7, 2),
  (24, .return_, 0, 0)], 2, 2, false, none, [], 7)
def am_n93 : amN := (yX8_copy, cX8_copy, [])
def am_h93 : List (List Nat) := [[], [], [234], [234], [], [], [236], [236], [], [], [238], [238], []]
def am_g93 : List (Nat × Nat) := []
def am_m94 : amM := ([(0, .aload_n 0, 0, 0), (1, .invokespecial 3, 0, 5), (4, .aload_n 0, 0, 0), (5, .sipush 315, 0, 0), (8, .newarray .long, 0, 0), (10, .putfield 9, 8, 1), (13, .return_, 0, 0)], 1, 1, true, none, [], 8)
def am_n94 : amN := (yX9_init, cX9_init, [])
def am_h94 : List (List Nat) := [[], [339, 156, 157], [], [], [306], [342], []]
def am_g94 : List (Nat × Nat) := []
def am_m95 : amM := ([(0, .aload_n 0, 0, 0), (1, .iconst 0, 0, 0), (2, .putfield 15, 8, 0), (5, .iconst 0, 0, 0), (6, .istore 4, 0, 0), (8, .iload 4, 0, 0), (10, .aload_n 1, 0, 0), (11, .getfield 19, 0, 0), (14, .if_icmp .ge 45, 59, 0), (17, .iload 4, 0, 0), (19, .iconst 1, 0, 0), (20, .iadd, 0, 0),
  (21, .istore 5, 0, 0), (23, .iload 5, 0, 0), (25, .aload_n 1, 0, 0), (26, .getfield 19, 0, 0), (29, .if_icmp .ge 24, 53, 0), (32, .aload_n 2, 0, 0), (33, .aload_n 1, 0, 0), (34, .iload 4, 0, 0), (36, .iload 5, 0, 0), (38, .invokevirtual 24, 36, 0), (41, .aload_n 0, 0, 0), (42, .aload_n 2, 0, 0),
  (43, .iload_n 3, 0, 0), (44, .invokevirtual 30, 96, 0), (47, .iinc 5 1, 0, 0), (50, .goto (-27), 23, 0), (53, .iinc 4 1, 0, 0), (56, .goto (-48), 8, 0), (59, .return_, 0, 0)], 6, 4, false, none, [], 8)
def am_n95 : amN := (yX9_gather, cX9_gather, [])
def am_h95 : List (List Nat) := [[], [], [340], [], [], [], [], [201], [], [], [], [], [], [], [], [201], [], [], [], [], [], [828, 790, 791, 129, 792], [], [], [], [829, 831, 21, 130, 832], [], [], [], [], []]
def am_g95 : List (Nat × Nat) := []
def am_m96 : amM := ([(0, .iconst 0, 0, 0), (1, .istore_n 3, 0, 0), (2, .iload_n 3, 0, 0), (3, .aload_n 1, 0, 0), (4, .getfield 34, 1, 0), (7, .if_icmp .ge 27, 34, 0), (10, .aload_n 1, 0, 0), (11, .iload_n 3, 0, 0), (12, .invokevirtual 35, 40, 0), (15, .iload_n 2, 0, 0), (16, .if_icmp .ne 12, 28, 0), (19, .aload_n 0, 0, 0),
  (20, .aload_n 1, 0, 0), (21, .iload_n 3, 0, 0), (22, .invokevirtual 39, 43, 0), (25, .invokevirtual 43, 97, 0), (28, .iinc 3 1, 0, 0), (31, .goto (-29), 2, 0), (34, .return_, 0, 0)], 4, 3, false, none, [], 8)
def am_n96 : amN := (yX9_gatherAmong, cX9_gatherAmong, [])
def am_h96 : List (List Nat) := [[], [], [], [], [314], [], [], [], [833, 817, 818, 129, 819], [], [], [], [], [], [834, 835, 836, 129, 837], [838, 840, 22, 130, 841], [], [], []]
def am_g96 : List (Nat × Nat) := []
def am_m97 : amM := ([(0, .iconst 0, 0, 0), (1, .istore_n 3, 0, 0), (2, .iload_n 3, 0, 0), (3, .aload_n 0, 0, 0), (4, .getfield 15, 8, 0), (7, .if_icmp .ge 19, 26, 0), (10, .aload_n 0, 0, 0), (11, .iload_n 3, 0, 0), (12, .invokevirtual 47, 98, 0), (15, .lload_n 1, 0, 0), (16, .lcmp, 0, 0), (17, .ifCond .ge 9, 26, 0),
  (20, .iinc 3 1, 0, 0), (23, .goto (-21), 2, 0), (26, .aload_n 0, 0, 0), (27, .getfield 15, 8, 0), (30, .aload_n 0, 0, 0), (31, .getfield 9, 8, 1), (34, .arraylength, 0, 0), (35, .if_icmp .ge 21, 56, 0), (38, .iload_n 3, 0, 0), (39, .aload_n 0, 0, 0), (40, .getfield 15, 8, 0), (43, .if_icmp .ge 14, 57, 0),
  (46, .aload_n 0, 0, 0), (47, .iload_n 3, 0, 0), (48, .invokevirtual 47, 98, 0), (51, .lload_n 1, 0, 0), (52, .lcmp, 0, 0), (53, .ifCond .ne 4, 57, 0), (56, .return_, 0, 0), (57, .aload_n 0, 0, 0), (58, .getfield 15, 8, 0), (61, .istore 4, 0, 0), (63, .iload 4, 0, 0), (65, .iload_n 3, 0, 0),
  (66, .if_icmp .le 25, 91, 0), (69, .aload_n 0, 0, 0), (70, .getfield 9, 8, 1), (73, .iload 4, 0, 0), (75, .aload_n 0, 0, 0), (76, .getfield 9, 8, 1), (79, .iload 4, 0, 0), (81, .iconst 1, 0, 0), (82, .isub, 0, 0), (83, .laload, 0, 0), (84, .lastore, 0, 0), (85, .iinc 4 (-1), 0, 0),
  (88, .goto (-25), 63, 0), (91, .aload_n 0, 0, 0), (92, .getfield 9, 8, 1), (95, .iload_n 3, 0, 0), (96, .lload_n 1, 0, 0), (97, .lastore, 0, 0), (98, .aload_n 0, 0, 0), (99, .dup, 0, 0), (100, .getfield 15, 8, 0), (103, .iconst 1, 0, 0), (104, .iadd, 0, 0), (105, .putfield 15, 8, 0),
  (108, .return_, 0, 0)], 5, 2, false, none, [], 8)
def am_n97 : amN := (yX9_insert, cX9_insert, [])
def am_h97 : List (List Nat) := [[], [], [], [], [340], [], [], [], [842, 843, 844, 130, 845], [], [], [], [], [], [], [340], [], [342], [], [], [], [], [340], [], [], [], [842, 843, 844, 130, 845], [], [], [], [], [], [340], [], [], [], [], [], [342], [], [], [342], [], [], [], [], [], [], [], [], [342], [], [], [], [], [], [340], [], [], [340], []]
def am_g97 : List (Nat × Nat) := []
def am_m98 : amM := ([(0, .iload_n 1, 0, 0), (1, .ifCond .lt 20, 21, 0), (4, .iload_n 1, 0, 0), (5, .aload_n 0, 0, 0), (6, .getfield 15, 8, 0), (9, .if_icmp .ge 12, 21, 0), (12, .aload_n 0, 0, 0), (13, .getfield 9, 8, 1), (16, .iload_n 1, 0, 0), (17, .laload, 0, 0), (18, .goto 4, 22, 0), (21, .lconst 0, 0, 0),
  (22, .lreturn, 0, 0)], 2, 2, false, (some .long), [], 8)
def am_n98 : amN := (yX9_maskAt, cX9_maskAt, [])
def am_h98 : List (List Nat) := [[], [], [], [], [340], [], [], [342], [], [], [], [], []]
def am_g98 : List (Nat × Nat) := []
def am_m99 : amM := ([(0, .aload_n 0, 0, 0), (1, .invokespecial 3, 0, 5), (4, .aload_n 0, 0, 0), (5, .sipush 455, 0, 0), (8, .newarray .int, 0, 0), (10, .putfield 9, 9, 1), (13, .aload_n 0, 0, 0), (14, .sipush 455, 0, 0), (17, .newarray .int, 0, 0), (19, .putfield 15, 9, 2), (22, .aload_n 0, 0, 0), (23, .sipush 455, 0, 0),
  (26, .newarray .int, 0, 0), (28, .putfield 18, 9, 3), (31, .return_, 0, 0)], 1, 1, true, none, [], 9)
def am_n99 : amN := (yX10_init, cX10_init, [])
def am_h99 : List (List Nat) := [[], [353, 156, 157], [], [], [227], [355], [], [], [227], [356], [], [], [227], [357], []]
def am_g99 : List (Nat × Nat) := []
def am_m100 : amM := ([(0, .aload_n 0, 0, 0), (1, .iconst 0, 0, 0), (2, .putfield 21, 9, 0), (5, .iconst 0, 0, 0), (6, .istore_n 2, 0, 0), (7, .iload_n 2, 0, 0), (8, .sipush 455, 0, 0), (11, .if_icmp .ge 23, 34, 0), (14, .aload_n 0, 0, 0), (15, .getfield 15, 9, 2), (18, .iload_n 2, 0, 0), (19, .iconst 0, 0, 0),
  (20, .iastore, 0, 0), (21, .aload_n 0, 0, 0), (22, .getfield 18, 9, 3), (25, .iload_n 2, 0, 0), (26, .iconst 0, 0, 0), (27, .iastore, 0, 0), (28, .iinc 2 1, 0, 0), (31, .goto (-24), 7, 0), (34, .iconst 2, 0, 0), (35, .istore_n 2, 0, 0), (36, .iload_n 2, 0, 0), (37, .aload_n 1, 0, 0),
  (38, .getfield 25, 0, 0), (41, .if_icmp .ge 55, 96, 0), (44, .iconst 1, 0, 0), (45, .istore_n 3, 0, 0), (46, .iload_n 3, 0, 0), (47, .iload_n 2, 0, 0), (48, .if_icmp .ge 42, 90, 0), (51, .iconst 0, 0, 0), (52, .istore 4, 0, 0), (54, .iload 4, 0, 0), (56, .iload_n 3, 0, 0), (57, .if_icmp .ge 27, 84, 0),
  (60, .aload_n 0, 0, 0), (61, .aload_n 1, 0, 0), (62, .iload 4, 0, 0), (64, .iload_n 3, 0, 0), (65, .iload_n 2, 0, 0), (66, .invokestatic 30, 68, 0), (69, .invokevirtual 36, 28, 0), (72, .invokestatic 40, 102, 0), (75, .invokevirtual 43, 101, 0), (78, .iinc 4 1, 0, 0), (81, .goto (-27), 54, 0), (84, .iinc 3 1, 0, 0),
  (87, .goto (-41), 46, 0), (90, .iinc 2 1, 0, 0), (93, .goto (-57), 36, 0), (96, .return_, 0, 0)], 5, 2, false, none, [], 9)
def am_n100 : amN := (yX10_gather, cX10_gather, [])
def am_h100 : List (List Nat) := [[], [], [354], [], [], [], [], [], [], [356], [], [], [], [], [357], [], [], [], [], [], [], [], [], [], [202], [], [], [], [], [], [], [], [], [], [], [], [], [], [], [], [], [1360, 627, 139, 628], [1361, 1342, 1343, 124, 1344], [1362, 1363, 131, 1364], [1366, 1368, 35, 131, 1369], [], [], [], [], [], [], []]
def am_g100 : List (Nat × Nat) := []
def am_m101 : amM := ([(0, .aload_n 0, 0, 0), (1, .getfield 21, 9, 0), (4, .aload_n 0, 0, 0), (5, .getfield 9, 9, 1), (8, .arraylength, 0, 0), (9, .if_icmp .ge 46, 55, 0), (12, .iload_n 1, 0, 0), (13, .ifCond .lt 42, 55, 0), (16, .iload_n 1, 0, 0), (17, .aload_n 0, 0, 0), (18, .getfield 15, 9, 2), (21, .arraylength, 0, 0),
  (22, .if_icmp .ge 33, 55, 0), (25, .aload_n 0, 0, 0), (26, .getfield 9, 9, 1), (29, .aload_n 0, 0, 0), (30, .getfield 21, 9, 0), (33, .iload_n 1, 0, 0), (34, .iastore, 0, 0), (35, .aload_n 0, 0, 0), (36, .getfield 15, 9, 2), (39, .iload_n 1, 0, 0), (40, .dup2, 0, 0), (41, .iaload, 0, 0),
  (42, .iconst 1, 0, 0), (43, .iadd, 0, 0), (44, .iastore, 0, 0), (45, .aload_n 0, 0, 0), (46, .dup, 0, 0), (47, .getfield 21, 9, 0), (50, .iconst 1, 0, 0), (51, .iadd, 0, 0), (52, .putfield 21, 9, 0), (55, .return_, 0, 0)], 2, 2, false, none, [], 9)
def am_n101 : amN := (yX10_lead, cX10_lead, [])
def am_h101 : List (List Nat) := [[], [354], [], [355], [], [], [], [], [], [], [356], [], [], [], [355], [], [354], [], [], [], [356], [], [], [], [], [], [], [], [], [354], [], [], [354], []]
def am_g101 : List (Nat × Nat) := []
def am_m102 : amM := ([(0, .iload_n 0, 0, 0), (1, .iconst 0, 0, 0), (2, .invokestatic 47, 70, 0), (5, .istore_n 1, 0, 0), (6, .iload_n 0, 0, 0), (7, .iconst 1, 0, 0), (8, .invokestatic 47, 70, 0), (11, .istore_n 2, 0, 0), (12, .iload_n 0, 0, 0), (13, .iconst 2, 0, 0), (14, .invokestatic 47, 70, 0), (17, .istore_n 3, 0, 0),
  (18, .iload_n 3, 0, 0), (19, .iload_n 3, 0, 0), (20, .iconst 1, 0, 0), (21, .isub, 0, 0), (22, .imul, 0, 0), (23, .iload_n 3, 0, 0), (24, .iconst 2, 0, 0), (25, .isub, 0, 0), (26, .imul, 0, 0), (27, .bipush 6, 0, 0), (29, .idiv, 0, 0), (30, .iload_n 2, 0, 0),
  (31, .iload_n 2, 0, 0), (32, .iconst 1, 0, 0), (33, .isub, 0, 0), (34, .imul, 0, 0), (35, .iconst 2, 0, 0), (36, .idiv, 0, 0), (37, .iadd, 0, 0), (38, .iload_n 1, 0, 0), (39, .iadd, 0, 0), (40, .ireturn, 0, 0)], 4, 1, false, (some .int), [], 9)
def am_n102 : amN := (yX10_rankOf, cX10_rankOf, [])
def am_h102 : List (List Nat) := [[], [], [1365, 565, 139, 566], [], [], [], [1365, 565, 139, 566], [], [], [], [1365, 565, 139, 566], [], [], [], [], [], [], [], [], [], [], [], [], [], [], [], [], [], [], [], [], [], [], []]
def am_g102 : List (Nat × Nat) := []
def am_m103 : amM := ([(0, .iload_n 1, 0, 0), (1, .ifCond .lt 20, 21, 0), (4, .iload_n 1, 0, 0), (5, .aload_n 0, 0, 0), (6, .getfield 21, 9, 0), (9, .if_icmp .ge 12, 21, 0), (12, .aload_n 0, 0, 0), (13, .getfield 15, 9, 2), (16, .iload_n 1, 0, 0), (17, .iaload, 0, 0), (18, .goto 4, 22, 0), (21, .iconst 0, 0, 0),
  (22, .ireturn, 0, 0)], 2, 2, false, (some .int), [], 9)
def am_n103 : amN := (yX10_arrivalsAt, cX10_arrivalsAt, [])
def am_h103 : List (List Nat) := [[], [], [], [], [354], [], [], [356], [], [], [], [], []]
def am_g103 : List (Nat × Nat) := []
def am_m104 : amM := ([(0, .iload_n 1, 0, 0), (1, .ifCond .lt 20, 21, 0), (4, .iload_n 1, 0, 0), (5, .aload_n 0, 0, 0), (6, .getfield 21, 9, 0), (9, .if_icmp .ge 12, 21, 0), (12, .aload_n 0, 0, 0), (13, .getfield 9, 9, 1), (16, .iload_n 1, 0, 0), (17, .iaload, 0, 0), (18, .goto 4, 22, 0), (21, .iconst 0, 0, 0),
  (22, .ireturn, 0, 0)], 2, 2, false, (some .int), [], 9)
def am_n104 : amN := (yX10_nextOf, cX10_nextOf, [])
def am_h104 : List (List Nat) := [[], [], [], [], [354], [], [], [355], [], [], [], [], []]
def am_g104 : List (Nat × Nat) := []
def am_m105 : amM := ([(0, .iload_n 1, 0, 0), (1, .ifCond .lt 20, 21, 0), (4, .iload_n 1, 0, 0), (5, .aload_n 0, 0, 0), (6, .getfield 21, 9, 0), (9, .if_icmp .ge 12, 21, 0), (12, .aload_n 0, 0, 0), (13, .getfield 18, 9, 3), (16, .iload_n 1, 0, 0), (17, .iaload, 0, 0), (18, .goto 4, 22, 0), (21, .iconst 0, 0, 0),
  (22, .ireturn, 0, 0)], 2, 2, false, (some .int), [], 9)
def am_n105 : amN := (yX10_markOf, cX10_markOf, [])
def am_h105 : List (List Nat) := [[], [], [], [], [354], [], [], [357], [], [], [], [], []]
def am_g105 : List (Nat × Nat) := []
def am_m106 : amM := ([(0, .iload_n 1, 0, 0), (1, .ifCond .lt 18, 19, 0), (4, .iload_n 1, 0, 0), (5, .aload_n 0, 0, 0), (6, .getfield 21, 9, 0), (9, .if_icmp .ge 10, 19, 0), (12, .aload_n 0, 0, 0), (13, .getfield 18, 9, 3), (16, .iload_n 1, 0, 0), (17, .iload_n 2, 0, 0), (18, .iastore, 0, 0), (19, .return_, 0, 0)], 3, 3, false, none, [], 9)
def am_n106 : amN := (yX10_mark, cX10_mark, [])
def am_h106 : List (List Nat) := [[], [], [], [], [354], [], [], [357], [], [], [], []]
def am_g106 : List (Nat × Nat) := []
def am_m107 : amM := ([(0, .iload_n 1, 0, 0), (1, .istore_n 2, 0, 0), (2, .iconst 0, 0, 0), (3, .istore_n 3, 0, 0), (4, .iload_n 3, 0, 0), (5, .aload_n 0, 0, 0), (6, .getfield 21, 9, 0), (9, .if_icmp .ge 15, 24, 0), (12, .aload_n 0, 0, 0), (13, .iload_n 2, 0, 0), (14, .invokevirtual 51, 104, 0), (17, .istore_n 2, 0, 0),
  (18, .iinc 3 1, 0, 0), (21, .goto (-17), 4, 0), (24, .iconst 0, 0, 0), (25, .istore_n 3, 0, 0), (26, .iload_n 3, 0, 0), (27, .aload_n 0, 0, 0), (28, .getfield 21, 9, 0), (31, .if_icmp .ge 29, 60, 0), (34, .aload_n 0, 0, 0), (35, .iload_n 2, 0, 0), (36, .invokevirtual 54, 105, 0), (39, .ifCond .ne 21, 60, 0),
  (42, .aload_n 0, 0, 0), (43, .iload_n 2, 0, 0), (44, .iconst 1, 0, 0), (45, .invokevirtual 57, 106, 0), (48, .aload_n 0, 0, 0), (49, .iload_n 2, 0, 0), (50, .invokevirtual 51, 104, 0), (53, .istore_n 2, 0, 0), (54, .iinc 3 1, 0, 0), (57, .goto (-31), 26, 0), (60, .iload_n 3, 0, 0), (61, .ireturn, 0, 0)], 4, 2, false, (some .int), [], 9)
def am_n107 : amN := (yX10_roundFrom, cX10_roundFrom, [])
def am_h107 : List (List Nat) := [[], [], [], [], [], [], [354], [], [], [], [1390, 1392, 36, 131, 1393], [], [], [], [], [], [], [], [354], [], [], [], [1394, 1396, 37, 131, 1397], [], [], [], [], [1398, 1400, 38, 131, 1401], [], [], [1390, 1392, 36, 131, 1393], [], [], [], [], []]
def am_g107 : List (Nat × Nat) := []
def am_m108 : amM := ([(0, .aload_n 0, 0, 0), (1, .iload_n 1, 0, 0), (2, .invokevirtual 61, 107, 0), (5, .pop, 0, 0), (6, .iload_n 1, 0, 0), (7, .istore_n 2, 0, 0), (8, .iconst 0, 0, 0), (9, .istore_n 3, 0, 0), (10, .iload_n 3, 0, 0), (11, .aload_n 0, 0, 0), (12, .getfield 21, 9, 0), (15, .if_icmp .ge 23, 38, 0),
  (18, .aload_n 0, 0, 0), (19, .iload_n 2, 0, 0), (20, .invokevirtual 54, 105, 0), (23, .ifCond .ne 15, 38, 0), (26, .aload_n 0, 0, 0), (27, .iload_n 2, 0, 0), (28, .invokevirtual 51, 104, 0), (31, .istore_n 2, 0, 0), (32, .iinc 3 1, 0, 0), (35, .goto (-25), 10, 0), (38, .iload_n 3, 0, 0), (39, .ireturn, 0, 0)], 4, 2, false, (some .int), [], 9)
def am_n108 : amN := (yX10_tailFrom, cX10_tailFrom, [])
def am_h108 : List (List Nat) := [[], [], [1386, 1387, 1388, 131, 1389], [], [], [], [], [], [], [], [354], [], [], [], [1394, 1396, 37, 131, 1397], [], [], [], [1390, 1392, 36, 131, 1393], [], [], [], [], []]
def am_g108 : List (Nat × Nat) := []
def am_m109 : amM := ([(0, .iconst 0, 0, 0), (1, .istore_n 2, 0, 0), (2, .iconst 0, 0, 0), (3, .istore_n 3, 0, 0), (4, .iload_n 3, 0, 0), (5, .aload_n 0, 0, 0), (6, .getfield 21, 9, 0), (9, .if_icmp .ge 21, 30, 0), (12, .aload_n 0, 0, 0), (13, .iload_n 3, 0, 0), (14, .invokevirtual 64, 103, 0), (17, .iload_n 1, 0, 0),
  (18, .if_icmp .ne 6, 24, 0), (21, .iinc 2 1, 0, 0), (24, .iinc 3 1, 0, 0), (27, .goto (-23), 4, 0), (30, .iload_n 2, 0, 0), (31, .ireturn, 0, 0)], 4, 2, false, (some .int), [], 9)
def am_n109 : amN := (yX10_setsWithArrivals, cX10_setsWithArrivals, [])
def am_h109 : List (List Nat) := [[], [], [], [], [], [], [354], [], [], [], [1421, 1372, 1373, 131, 1374], [], [], [], [], [], [], []]
def am_g109 : List (Nat × Nat) := []
def am_m110 : amM := ([(0, .iconst 0, 0, 0), (1, .istore_n 1, 0, 0), (2, .iconst 0, 0, 0), (3, .istore_n 2, 0, 0), (4, .iload_n 2, 0, 0), (5, .aload_n 0, 0, 0), (6, .getfield 21, 9, 0), (9, .if_icmp .ge 23, 32, 0), (12, .aload_n 0, 0, 0), (13, .iload_n 2, 0, 0), (14, .iload_n 2, 0, 0), (15, .iconst 1, 0, 0),
  (16, .iadd, 0, 0), (17, .invokevirtual 67, 111, 0), (20, .ifCond .eq 6, 26, 0), (23, .iinc 1 1, 0, 0), (26, .iinc 2 1, 0, 0), (29, .goto (-25), 4, 0), (32, .iload_n 1, 0, 0), (33, .ireturn, 0, 0)], 3, 1, false, (some .int), [], 9)
def am_n110 : amN := (yX10_countRounds, cX10_countRounds, [])
def am_h110 : List (List Nat) := [[], [], [], [], [], [], [354], [], [], [], [], [], [], [1433, 1435, 39, 131, 1436], [], [], [], [], [], []]
def am_g110 : List (Nat × Nat) := []
def am_m111 : amM := ([(0, .iload_n 1, 0, 0), (1, .istore_n 3, 0, 0), (2, .iconst 0, 0, 0), (3, .istore 4, 0, 0), (5, .iload 4, 0, 0), (7, .aload_n 0, 0, 0), (8, .getfield 21, 9, 0), (11, .if_icmp .ge 29, 40, 0), (14, .aload_n 0, 0, 0), (15, .iload_n 3, 0, 0), (16, .invokevirtual 54, 105, 0), (19, .ifCond .ne 21, 40, 0),
  (22, .aload_n 0, 0, 0), (23, .iload_n 3, 0, 0), (24, .iload_n 2, 0, 0), (25, .invokevirtual 57, 106, 0), (28, .aload_n 0, 0, 0), (29, .iload_n 3, 0, 0), (30, .invokevirtual 51, 104, 0), (33, .istore_n 3, 0, 0), (34, .iinc 4 1, 0, 0), (37, .goto (-32), 5, 0), (40, .iload 4, 0, 0), (42, .ifCond .le 16, 58, 0),
  (45, .aload_n 0, 0, 0), (46, .iload_n 3, 0, 0), (47, .invokevirtual 54, 105, 0), (50, .iload_n 2, 0, 0), (51, .if_icmp .ne 7, 58, 0), (54, .iconst 1, 0, 0), (55, .goto 4, 59, 0), (58, .iconst 0, 0, 0), (59, .ireturn, 0, 0)], 5, 3, false, (some .boolean), [], 9)
def am_n111 : amN := (yX10_endsOnItself, cX10_endsOnItself, [])
def am_h111 : List (List Nat) := [[], [], [], [], [], [], [354], [], [], [], [1394, 1396, 37, 131, 1397], [], [], [], [], [1398, 1400, 38, 131, 1401], [], [], [1390, 1392, 36, 131, 1393], [], [], [], [], [], [], [], [1394, 1396, 37, 131, 1397], [], [], [], [], [], []]
def am_g111 : List (Nat × Nat) := []
def am_m112 : amM := ([(0, .aload_n 0, 0, 0), (1, .invokespecial 1, 0, 5), (4, .aload_n 0, 0, 0), (5, .new 7, 5, 0), (8, .dup, 0, 0), (9, .invokespecial 9, 74, 3), (12, .putfield 10, 10, 0), (15, .aload_n 0, 0, 0), (16, .new 16, 0, 0), (19, .dup, 0, 0), (20, .invokespecial 18, 0, 3), (23, .putfield 19, 10, 1),
  (26, .aload_n 0, 0, 0), (27, .new 16, 0, 0), (30, .dup, 0, 0), (31, .invokespecial 18, 0, 3), (34, .putfield 23, 10, 2), (37, .aload_n 0, 0, 0), (38, .new 26, 7, 0), (41, .dup, 0, 0), (42, .invokespecial 28, 91, 3), (45, .putfield 29, 10, 3), (48, .aload_n 0, 0, 0), (49, .new 33, 3, 0),
  (52, .dup, 0, 0), (53, .invokespecial 35, 49, 2), (56, .putfield 36, 10, 4), (59, .aload_n 0, 0, 0), (60, .new 40, 4, 0), (63, .dup, 0, 0), (64, .invokespecial 42, 56, 3), (67, .putfield 43, 10, 5), (70, .aload_n 0, 0, 0), (71, .new 47, 1, 0), (74, .dup, 0, 0), (75, .invokespecial 49, 35, 3),
  (78, .putfield 50, 10, 6), (81, .aload_n 0, 0, 0), (82, .new 54, 8, 0), (85, .dup, 0, 0), (86, .invokespecial 56, 94, 3), (89, .putfield 57, 10, 7), (92, .aload_n 0, 0, 0), (93, .new 61, 9, 0), (96, .dup, 0, 0), (97, .invokespecial 63, 99, 3), (100, .putfield 64, 10, 8), (103, .aload_n 0, 0, 0),
  (104, .new 68, 2, 0), (107, .dup, 0, 0), (108, .invokespecial 70, 45, 3), (111, .putfield 71, 10, 9), (114, .aload_n 0, 0, 0), (115, .bipush 27, 0, 0), (117, .newarray .byte, 0, 0), (119, .putfield 75, 10, 10), (122, .aload_n 0, 0, 0), (123, .getfield 19, 10, 1), (126, .iconst 3, 0, 0), (127, .invokevirtual 79, 1, 0),
  (130, .return_, 0, 0)], 1, 1, true, none, [], 10)
def am_n112 : amN := (yX11_init, cX11_init, [])
def am_h112 : List (List Nat) := [[], [155, 156, 157], [], [158, 159, 123], [], [160, 161, 123, 162], [402], [], [193, 194, 124], [], [195, 196, 124, 197], [403], [], [193, 194, 124], [], [195, 196, 124, 197], [404], [], [228, 229, 125], [], [230, 231, 125, 232], [405], [], [247, 248, 126], [], [249, 250, 126, 251], [406], [], [289, 290, 128], [], [291, 292, 128, 293], [407], [], [307, 308, 129], [], [309, 310, 129, 311], [408], [], [334, 335, 130], [], [336, 337, 130, 338], [409], [], [348, 349, 131], [], [350, 351, 131, 352], [410], [], [367, 368, 132], [], [369, 370, 132, 371], [411], [], [], [192], [412], [], [403], [], [388, 389, 390, 124, 391], []]
def am_g112 : List (Nat × Nat) := []
def am_m113 : amM := ([(0, .aload_n 0, 0, 0), (1, .getfield 10, 10, 0), (4, .invokevirtual 83, 75, 0), (7, .ifCond .ne 5, 12, 0), (10, .iconst (-1), 0, 0), (11, .ireturn, 0, 0), (12, .aload_n 0, 0, 0), (13, .getfield 10, 10, 0), (16, .iload_n 1, 0, 0), (17, .invokevirtual 87, 76, 0), (20, .aload_n 0, 0, 0), (21, .getfield 10, 10, 0),
  (24, .iload_n 2, 0, 0), (25, .invokevirtual 87, 76, 0), (28, .aload_n 0, 0, 0), (29, .getfield 10, 10, 0), (32, .iload_n 3, 0, 0), (33, .invokevirtual 87, 76, 0), (36, .aload_n 0, 0, 0), (37, .getfield 10, 10, 0), (40, .iload 4, 0, 0), (42, .invokevirtual 87, 76, 0), (45, .aload_n 0, 0, 0), (46, .getfield 10, 10, 0),
  (49, .iload 5, 0, 0), (51, .invokevirtual 87, 76, 0), (54, .aload_n 0, 0, 0), (55, .getfield 10, 10, 0), (58, .getfield 90, 5, 0), (61, .ireturn, 0, 0)], 6, 6, false, (some .int), [], 10)
def am_n113 : amN := (yX11_appendInput, cX11_appendInput, [])
def am_h113 : List (List Nat) := [[], [402], [443, 444, 445, 123, 446], [], [], [], [], [402], [], [447, 448, 449, 123, 450], [], [402], [], [447, 448, 449, 123, 450], [], [402], [], [447, 448, 449, 123, 450], [], [402], [], [447, 448, 449, 123, 450], [], [402], [], [447, 448, 449, 123, 450], [], [402], [165], []]
def am_g113 : List (Nat × Nat) := []
def am_m114 : amM := ([(0, .iload_n 1, 0, 0), (1, .ifCond .lt 14, 15, 0), (4, .iload_n 1, 0, 0), (5, .aload_n 0, 0, 0), (6, .getfield 10, 10, 0), (9, .getfield 90, 5, 0), (12, .if_icmp .le 5, 17, 0), (15, .iconst 0, 0, 0), (16, .ireturn, 0, 0), (17, .aload_n 0, 0, 0), (18, .getfield 10, 10, 0), (21, .iload_n 1, 0, 0),
  (22, .putfield 90, 5, 0), (25, .iconst 1, 0, 0), (26, .ireturn, 0, 0)], 2, 2, false, (some .boolean), [], 10)
def am_n114 : amN := (yX11_truncateInput, cX11_truncateInput, [])
def am_h114 : List (List Nat) := [[], [], [], [], [402], [165], [], [], [], [], [402], [], [165], [], []]
def am_g114 : List (Nat × Nat) := []
def am_m115 : amM := ([(0, .aload_n 0, 0, 0), (1, .getfield 10, 10, 0), (4, .aload_n 0, 0, 0), (5, .getfield 23, 10, 2), (8, .invokevirtual 94, 77, 0), (11, .istore_n 1, 0, 0), (12, .aload_n 0, 0, 0), (13, .getfield 10, 10, 0), (16, .iconst 0, 0, 0), (17, .putfield 90, 5, 0), (20, .iload_n 1, 0, 0), (21, .ifCond .ne 5, 26, 0),
  (24, .iconst (-1), 0, 0), (25, .ireturn, 0, 0), (26, .aload_n 0, 0, 0), (27, .getfield 19, 10, 1), (30, .aload_n 0, 0, 0), (31, .getfield 23, 10, 2), (34, .invokevirtual 98, 2, 0), (37, .aload_n 0, 0, 0), (38, .getfield 29, 10, 3), (41, .invokevirtual 102, 92, 0), (44, .aload_n 0, 0, 0), (45, .getfield 36, 10, 4),
  (48, .invokevirtual 104, 55, 0), (51, .aload_n 0, 0, 0), (52, .iconst 0, 0, 0), (53, .putfield 107, 10, 11), (56, .aload_n 0, 0, 0), (57, .invokevirtual 110, 185, 0), (60, .aload_n 0, 0, 0), (61, .getfield 19, 10, 1), (64, .getfield 113, 0, 1), (67, .ireturn, 0, 0)], 2, 1, false, (some .int), [], 10)
def am_n115 : amN := (yX11_loadSystem, cX11_loadSystem, [])
def am_h115 : List (List Nat) := [[], [402], [], [404], [459, 460, 461, 123, 462], [], [], [402], [], [165], [], [], [], [], [], [403], [], [404], [595, 596, 597, 124, 598], [], [405], [602, 603, 604, 125, 605], [], [406], [606, 607, 608, 126, 609], [], [], [413], [], [610, 612, 9, 122, 613], [], [403], [209], []]
def am_g115 : List (Nat × Nat) := []
def am_m116 : amM := ([(0, .aload_n 0, 0, 0), (1, .getfield 10, 10, 0), (4, .getfield 116, 5, 1), (7, .ireturn, 0, 0)], 1, 1, false, (some .int), [], 10)
def am_n116 : amN := (yX11_errorCode, cX11_errorCode, [])
def am_h116 : List (List Nat) := [[], [402], [167], []]
def am_g116 : List (Nat × Nat) := []
def am_m117 : amM := ([(0, .aload_n 0, 0, 0), (1, .getfield 10, 10, 0), (4, .getfield 119, 5, 2), (7, .ireturn, 0, 0)], 1, 1, false, (some .int), [], 10)
def am_n117 : amN := (yX11_errorOffset, cX11_errorOffset, [])
def am_h117 : List (List Nat) := [[], [402], [169], []]
def am_g117 : List (Nat × Nat) := []
def am_m118 : amM := ([(0, .iload_n 1, 0, 0), (1, .tableswitch 111 0 7 #[47, 55, 63, 71, 79, 87, 95, 103], 0, 0), (48, .aload_n 0, 0, 0), (49, .getfield 19, 10, 1), (52, .getfield 122, 0, 0), (55, .ireturn, 0, 0), (56, .aload_n 0, 0, 0), (57, .getfield 19, 10, 1), (60, .getfield 113, 0, 1), (63, .ireturn, 0, 0), (64, .aload_n 0, 0, 0), (65, .getfield 19, 10, 1),
  (68, .invokevirtual 125, 23, 0), (71, .ireturn, 0, 0), (72, .aload_n 0, 0, 0), (73, .getfield 43, 10, 5), (76, .getfield 129, 4, 0), (79, .ireturn, 0, 0), (80, .aload_n 0, 0, 0), (81, .getfield 29, 10, 3), (84, .getfield 130, 7, 0), (87, .ireturn, 0, 0), (88, .aload_n 0, 0, 0), (89, .getfield 29, 10, 3),
  (92, .getfield 132, 7, 1), (95, .ireturn, 0, 0), (96, .aload_n 0, 0, 0), (97, .getfield 29, 10, 3), (100, .getfield 135, 7, 2), (103, .ireturn, 0, 0), (104, .aload_n 0, 0, 0), (105, .getfield 36, 10, 4), (108, .getfield 138, 3, 0), (111, .ireturn, 0, 0), (112, .new 141, 0, 7)], 2, 2, false, (some .int), [], 10)
def am_n118 : amN := (yX11_count, cX11_count, [])
def am_h118 : List (List Nat) := [[], [], [], [403], [204], [], [], [403], [209], [], [], [403], [670, 671, 672, 124, 673], [], [], [407], [296], [], [], [405], [235], [], [], [405], [237], [], [], [405], [239], [], [], [406], [276], [], [978, 145]]
def am_g118 : List (Nat × Nat) := []
def am_m119 : amM := ([(0, .aload_n 0, 0, 0), (1, .getfield 19, 10, 1), (4, .invokevirtual 125, 23, 0), (7, .ifCond .ne 7, 14, 0), (10, .iconst 1, 0, 0), (11, .goto 4, 15, 0), (14, .iconst 0, 0, 0), (15, .ireturn, 0, 0)], 1, 1, false, (some .boolean), [], 10)
def am_n119 : amN := (yX11_isComplete, cX11_isComplete, [])
def am_h119 : List (List Nat) := [[], [403], [670, 671, 672, 124, 673], [], [], [], [], []]
def am_g119 : List (Nat × Nat) := []
def am_m120 : amM := ([(0, .aload_n 0, 0, 0), (1, .iload_n 1, 0, 0), (2, .invokevirtual 148, 179, 0), (5, .iload_n 2, 0, 0), (6, .ifCond .lt 8, 14, 0), (9, .iload_n 2, 0, 0), (10, .iconst 2, 0, 0), (11, .if_icmp .le 13, 24, 0), (14, .new 141, 0, 11), (24, .aload_n 0, 0, 0), (25, .getfield 19, 10, 1), (28, .iload_n 1, 0, 0),
  (29, .invokevirtual 153, 9, 0), (32, .iload_n 2, 0, 0), (33, .invokestatic 157, 70, 0), (36, .ireturn, 0, 0)], 3, 3, false, (some .int), [], 10)
def am_n120 : amN := (yX11_triple, cX11_triple, [])
def am_h120 : List (List Nat) := [[], [], [1054, 1056, 25, 122, 1057], [], [], [], [], [], [978, 145], [], [403], [], [903, 638, 639, 124, 640], [], [1075, 565, 139, 566], []]
def am_g120 : List (Nat × Nat) := []
def am_m121 : amM := ([(0, .aload_n 0, 0, 0), (1, .iload_n 1, 0, 0), (2, .iload_n 2, 0, 0), (3, .iload_n 3, 0, 0), (4, .invokevirtual 163, 178, 0), (7, .aload_n 0, 0, 0), (8, .getfield 19, 10, 1), (11, .iload_n 1, 0, 0), (12, .iload_n 2, 0, 0), (13, .iload_n 3, 0, 0), (14, .invokestatic 167, 68, 0), (17, .invokevirtual 171, 11, 0),
  (20, .ireturn, 0, 0)], 4, 4, false, (some .int), [], 10)
def am_n121 : amN := (yX11_find, cX11_find, [])
def am_h121 : List (List Nat) := [[], [], [], [], [1083, 1085, 26, 122, 1086], [], [403], [], [], [], [718, 627, 139, 628], [1094, 643, 644, 124, 645], []]
def am_g121 : List (Nat × Nat) := []
def am_m122 : amM := ([(0, .aload_n 0, 0, 0), (1, .iload_n 1, 0, 0), (2, .iload_n 2, 0, 0), (3, .invokevirtual 174, 177, 0), (6, .aload_n 0, 0, 0), (7, .getfield 19, 10, 1), (10, .iload_n 1, 0, 0), (11, .iload_n 2, 0, 0), (12, .invokevirtual 178, 7, 0), (15, .ireturn, 0, 0)], 3, 3, false, (some .int), [], 10)
def am_n122 : amN := (yX11_third, cX11_third, [])
def am_h122 : List (List Nat) := [[], [], [], [1102, 1104, 28, 122, 1105], [], [403], [], [], [854, 619, 620, 124, 621], []]
def am_g122 : List (Nat × Nat) := []
def am_m123 : amM := ([(0, .aload_n 0, 0, 0), (1, .iload_n 1, 0, 0), (2, .invokevirtual 181, 176, 0), (5, .aload_n 0, 0, 0), (6, .getfield 19, 10, 1), (9, .iconst 1, 0, 0), (10, .iload_n 1, 0, 0), (11, .ishl, 0, 0), (12, .iconst 1, 0, 0), (13, .invokevirtual 184, 26, 0), (16, .ireturn, 0, 0)], 2, 2, false, (some .int), [], 10)
def am_n123 : amN := (yX11_degree, cX11_degree, [])
def am_h123 : List (List Nat) := [[], [], [1087, 1089, 27, 122, 1090], [], [403], [], [], [], [], [1113, 1114, 1115, 124, 1116], []]
def am_g123 : List (Nat × Nat) := []
def am_m124 : amM := ([(0, .iload_n 1, 0, 0), (1, .ifCond .ge 13, 14, 0), (4, .new 187, 1, 17), (14, .aload_n 0, 0, 0), (15, .getfield 19, 10, 1), (18, .iload_n 1, 0, 0), (19, .invokevirtual 192, 24, 0), (22, .ireturn, 0, 0)], 2, 2, false, (some .int), [], 10)
def am_n124 : amN := (yX11_uncovered, cX11_uncovered, [])
def am_h124 : List (List Nat) := [[], [], [1058, 146], [], [403], [], [1125, 1126, 1127, 124, 1128], []]
def am_g124 : List (Nat × Nat) := []
def am_m125 : amM := ([(0, .aload_n 0, 0, 0), (1, .iload_n 1, 0, 0), (2, .iload_n 2, 0, 0), (3, .iload_n 3, 0, 0), (4, .invokevirtual 163, 178, 0), (7, .iload_n 1, 0, 0), (8, .iload_n 2, 0, 0), (9, .iload_n 3, 0, 0), (10, .invokestatic 167, 68, 0), (13, .istore 4, 0, 0), (15, .aload_n 0, 0, 0), (16, .getfield 19, 10, 1),
  (19, .iload 4, 0, 0), (21, .invokevirtual 195, 12, 0), (24, .ifCond .eq 5, 29, 0), (27, .iconst 1, 0, 0), (28, .ireturn, 0, 0), (29, .aload_n 0, 0, 0), (30, .getfield 19, 10, 1), (33, .iload 4, 0, 0), (35, .iconst 2, 0, 0), (36, .invokevirtual 184, 26, 0), (39, .istore 5, 0, 0), (41, .iload 5, 0, 0),
  (43, .ifCond .ne 7, 50, 0), (46, .iconst 0, 0, 0), (47, .goto 7, 54, 0), (50, .iconst 1, 0, 0), (51, .iload 5, 0, 0), (53, .iadd, 0, 0), (54, .ireturn, 0, 0)], 6, 4, false, (some .int), [], 10)
def am_n125 : amN := (yX11_reason, cX11_reason, [])
def am_h125 : List (List Nat) := [[], [], [], [], [1083, 1085, 26, 122, 1086], [], [], [], [718, 627, 139, 628], [], [], [403], [], [905, 647, 648, 124, 649], [], [], [], [], [403], [], [], [1113, 1114, 1115, 124, 1116], [], [], [], [], [], [], [], [], []]
def am_g125 : List (Nat × Nat) := []
def am_m126 : amM := ([(0, .aload_n 0, 0, 0), (1, .iload_n 1, 0, 0), (2, .iload_n 2, 0, 0), (3, .iload_n 3, 0, 0), (4, .invokevirtual 163, 178, 0), (7, .iload_n 1, 0, 0), (8, .iload_n 2, 0, 0), (9, .iload_n 3, 0, 0), (10, .invokestatic 167, 68, 0), (13, .istore 4, 0, 0), (15, .aload_n 0, 0, 0), (16, .getfield 19, 10, 1),
  (19, .iload 4, 0, 0), (21, .invokevirtual 199, 13, 0), (24, .ifCond .ne 13, 37, 0), (27, .new 202, 2, 19), (37, .aload_n 0, 0, 0), (38, .invokevirtual 207, 184, 0), (41, .aload_n 0, 0, 0), (42, .getfield 19, 10, 1), (45, .iload 4, 0, 0), (47, .invokevirtual 210, 14, 0), (50, .aload_n 0, 0, 0), (51, .invokevirtual 110, 185, 0),
  (54, .aload_n 0, 0, 0), (55, .getfield 19, 10, 1), (58, .iload 4, 0, 0), (60, .invokevirtual 171, 11, 0), (63, .ireturn, 0, 0)], 5, 4, false, (some .int), [], 10)
def am_n126 : amN := (yX11_add, cX11_add, [])
def am_h126 : List (List Nat) := [[], [], [], [], [1083, 1085, 26, 122, 1086], [], [], [], [718, 627, 139, 628], [], [], [403], [], [1144, 561, 562, 124, 563], [], [1145, 147], [], [679, 681, 13, 122, 682], [], [403], [], [719, 587, 588, 124, 589], [], [610, 612, 9, 122, 613], [], [403], [], [1094, 643, 644, 124, 645], []]
def am_g126 : List (Nat × Nat) := []
def am_m127 : amM := ([(0, .aload_n 0, 0, 0), (1, .iload_n 1, 0, 0), (2, .invokevirtual 148, 179, 0), (5, .aload_n 0, 0, 0), (6, .invokevirtual 207, 184, 0), (9, .aload_n 0, 0, 0), (10, .getfield 19, 10, 1), (13, .aload_n 0, 0, 0), (14, .getfield 19, 10, 1), (17, .iload_n 1, 0, 0), (18, .invokevirtual 153, 9, 0), (21, .invokevirtual 213, 15, 0),
  (24, .aload_n 0, 0, 0), (25, .invokevirtual 110, 185, 0), (28, .aload_n 0, 0, 0), (29, .getfield 19, 10, 1), (32, .getfield 113, 0, 1), (35, .ireturn, 0, 0)], 2, 2, false, (some .int), [], 10)
def am_n127 : amN := (yX11_remove, cX11_remove, [])
def am_h127 : List (List Nat) := [[], [], [1054, 1056, 25, 122, 1057], [], [679, 681, 13, 122, 682], [], [403], [], [403], [], [903, 638, 639, 124, 640], [720, 721, 722, 124, 723], [], [610, 612, 9, 122, 613], [], [403], [209], []]
def am_g127 : List (Nat × Nat) := []
def am_m128 : amM := ([(0, .aload_n 0, 0, 0), (1, .iload_n 1, 0, 0), (2, .iload_n 2, 0, 0), (3, .iload_n 3, 0, 0), (4, .invokevirtual 163, 178, 0), (7, .aload_n 0, 0, 0), (8, .getfield 23, 10, 2), (11, .aload_n 0, 0, 0), (12, .getfield 19, 10, 1), (15, .invokevirtual 98, 2, 0), (18, .aload_n 0, 0, 0), (19, .getfield 23, 10, 2),
  (22, .iload_n 1, 0, 0), (23, .iload_n 2, 0, 0), (24, .iload_n 3, 0, 0), (25, .invokestatic 167, 68, 0), (28, .invokevirtual 216, 21, 0), (31, .istore 4, 0, 0), (33, .iload 4, 0, 0), (35, .iconst (-1), 0, 0), (36, .if_icmp .ne 13, 49, 0), (39, .new 202, 2, 21), (49, .aload_n 0, 0, 0), (50, .invokevirtual 207, 184, 0),
  (53, .aload_n 0, 0, 0), (54, .getfield 19, 10, 1), (57, .aload_n 0, 0, 0), (58, .getfield 23, 10, 2), (61, .invokevirtual 98, 2, 0), (64, .aload_n 0, 0, 0), (65, .invokevirtual 110, 185, 0), (68, .iload 4, 0, 0), (70, .ireturn, 0, 0)], 5, 4, false, (some .int), [], 10)
def am_n128 : amN := (yX11_develop, cX11_develop, [])
def am_h128 : List (List Nat) := [[], [], [], [], [1083, 1085, 26, 122, 1086], [], [404], [], [403], [595, 596, 597, 124, 598], [], [404], [], [], [], [718, 627, 139, 628], [1175, 579, 580, 124, 581], [], [], [], [], [1145, 147], [], [679, 681, 13, 122, 682], [], [403], [], [404], [595, 596, 597, 124, 598], [], [610, 612, 9, 122, 613], [], []]
def am_g128 : List (Nat × Nat) := []
def am_m129 : amM := ([(0, .aload_n 0, 0, 0), (1, .invokevirtual 207, 184, 0), (4, .aload_n 0, 0, 0), (5, .getfield 19, 10, 1), (8, .invokevirtual 221, 22, 0), (11, .istore_n 1, 0, 0), (12, .aload_n 0, 0, 0), (13, .invokevirtual 110, 185, 0), (16, .iload_n 1, 0, 0), (17, .ireturn, 0, 0)], 2, 1, false, (some .int), [], 10)
def am_n129 : amN := (yX11_fill, cX11_fill, [])
def am_h129 : List (List Nat) := [[], [679, 681, 13, 122, 682], [], [403], [700, 701, 702, 124, 703], [], [], [610, 612, 9, 122, 613], [], []]
def am_g129 : List (Nat × Nat) := []
def am_m130 : amM := ([(0, .aload_n 0, 0, 0), (1, .getfield 19, 10, 1), (4, .invokevirtual 125, 23, 0), (7, .bipush 30, 0, 0), (9, .if_icmp .le 6, 15, 0), (12, .bipush (-2), 0, 0), (14, .ireturn, 0, 0), (15, .aload_n 0, 0, 0), (16, .getfield 23, 10, 2), (19, .aload_n 0, 0, 0), (20, .getfield 19, 10, 1), (23, .invokevirtual 98, 2, 0),
  (26, .aload_n 0, 0, 0), (27, .getfield 23, 10, 2), (30, .iconst 0, 0, 0), (31, .invokestatic 224, 192, 0), (34, .ireturn, 0, 0)], 1, 1, false, (some .int), [], 10)
def am_n130 : amN := (yX11_completions, cX11_completions, [])
def am_h130 : List (List Nat) := [[], [403], [670, 671, 672, 124, 673], [], [], [], [], [], [404], [], [403], [595, 596, 597, 124, 598], [], [404], [], [708, 709, 122, 710], []]
def am_g130 : List (Nat × Nat) := []
def am_m131 : amM := ([(0, .aload_n 0, 0, 0), (1, .getfield 19, 10, 1), (4, .invokevirtual 228, 25, 0), (7, .ireturn, 0, 0)], 1, 1, false, (some .int), [], 10)
def am_n131 : amN := (yX11_tightest, cX11_tightest, [])
def am_h131 : List (List Nat) := [[], [403], [711, 712, 713, 124, 714], []]
def am_g131 : List (Nat × Nat) := []
def am_m132 : amM := ([(0, .aload_n 0, 0, 0), (1, .iload_n 1, 0, 0), (2, .invokevirtual 231, 180, 0), (5, .iload_n 2, 0, 0), (6, .ifCond .lt 9, 15, 0), (9, .iload_n 2, 0, 0), (10, .bipush 9, 0, 0), (12, .if_icmp .le 13, 25, 0), (15, .new 141, 0, 7), (25, .iload_n 2, 0, 0), (26, .iconst 4, 0, 0), (27, .if_icmp .ge 15, 42, 0),
  (30, .aload_n 0, 0, 0), (31, .getfield 43, 10, 5), (34, .iload_n 1, 0, 0), (35, .iload_n 2, 0, 0), (36, .invokevirtual 234, 59, 0), (39, .goto 17, 56, 0), (42, .aload_n 0, 0, 0), (43, .getfield 43, 10, 5), (46, .iload_n 1, 0, 0), (47, .invokevirtual 237, 60, 0), (50, .iload_n 2, 0, 0), (51, .iconst 4, 0, 0),
  (52, .isub, 0, 0), (53, .invokestatic 157, 70, 0), (56, .ireturn, 0, 0)], 3, 3, false, (some .int), [], 10)
def am_n132 : amN := (yX11_quad, cX11_quad, [])
def am_h132 : List (List Nat) := [[], [], [1184, 1186, 29, 122, 1187], [], [], [], [], [], [978, 145], [], [], [], [], [407], [], [], [1189, 749, 750, 128, 751], [], [], [407], [], [1190, 759, 760, 128, 761], [], [], [], [1075, 565, 139, 566], []]
def am_g132 : List (Nat × Nat) := []
def am_m133 : amM := ([(0, .aload_n 0, 0, 0), (1, .iload_n 1, 0, 0), (2, .invokevirtual 231, 180, 0), (5, .aload_n 0, 0, 0), (6, .iload_n 2, 0, 0), (7, .invokevirtual 181, 176, 0), (10, .aload_n 0, 0, 0), (11, .getfield 43, 10, 5), (14, .aload_n 0, 0, 0), (15, .getfield 19, 10, 1), (18, .iload_n 1, 0, 0), (19, .iload_n 2, 0, 0),
  (20, .invokevirtual 240, 61, 0), (23, .ireturn, 0, 0)], 3, 3, false, (some .int), [], 10)
def am_n133 : amN := (yX11_opposite, cX11_opposite, [])
def am_h133 : List (List Nat) := [[], [], [1184, 1186, 29, 122, 1187], [], [], [1087, 1089, 27, 122, 1090], [], [407], [], [403], [], [], [1198, 1199, 1200, 128, 1201], []]
def am_g133 : List (Nat × Nat) := []
def am_m134 : amM := ([(0, .aload_n 0, 0, 0), (1, .iload_n 1, 0, 0), (2, .invokevirtual 181, 176, 0), (5, .aload_n 0, 0, 0), (6, .getfield 43, 10, 5), (9, .iload_n 1, 0, 0), (10, .invokevirtual 244, 62, 0), (13, .ireturn, 0, 0)], 2, 2, false, (some .int), [], 10)
def am_n134 : amN := (yX11_quadsAt, cX11_quadsAt, [])
def am_h134 : List (List Nat) := [[], [], [1087, 1089, 27, 122, 1090], [], [407], [], [1210, 1211, 1212, 128, 1213], []]
def am_g134 : List (Nat × Nat) := []
def am_m135 : amM := ([(0, .aload_n 0, 0, 0), (1, .iload_n 1, 0, 0), (2, .invokevirtual 148, 179, 0), (5, .aload_n 0, 0, 0), (6, .getfield 43, 10, 5), (9, .lconst 1, 0, 0), (10, .iload_n 1, 0, 0), (11, .lshl, 0, 0), (12, .invokevirtual 247, 63, 0), (15, .ireturn, 0, 0)], 2, 2, false, (some .int), [], 10)
def am_n135 : amN := (yX11_quadsOf, cX11_quadsOf, [])
def am_h135 : List (List Nat) := [[], [], [1054, 1056, 25, 122, 1057], [], [407], [], [], [], [770, 771, 772, 128, 773], []]
def am_g135 : List (Nat × Nat) := []
def am_m136 : amM := ([(0, .aload_n 0, 0, 0), (1, .iload_n 1, 0, 0), (2, .invokevirtual 231, 180, 0), (5, .aload_n 0, 0, 0), (6, .invokevirtual 207, 184, 0), (9, .aload_n 0, 0, 0), (10, .iload_n 1, 0, 0), (11, .invokevirtual 251, 186, 0), (14, .aload_n 0, 0, 0), (15, .getfield 43, 10, 5), (18, .getfield 129, 4, 0), (21, .ireturn, 0, 0)], 2, 2, false, (some .int), [], 10)
def am_n136 : amN := (yX11_switchQuad, cX11_switchQuad, [])
def am_h136 : List (List Nat) := [[], [], [1184, 1186, 29, 122, 1187], [], [679, 681, 13, 122, 682], [], [], [1228, 1230, 30, 122, 1231], [], [407], [296], []]
def am_g136 : List (Nat × Nat) := []
def am_m137 : amM := ([(0, .aload_n 0, 0, 0), (1, .iload_n 1, 0, 0), (2, .invokevirtual 231, 180, 0), (5, .aload_n 0, 0, 0), (6, .iload_n 1, 0, 0), (7, .invokevirtual 254, 187, 0), (10, .ireturn, 0, 0)], 2, 2, false, (some .int), [], 10)
def am_n137 : amN := (yX11_wouldHave, cX11_wouldHave, [])
def am_h137 : List (List Nat) := [[], [], [1184, 1186, 29, 122, 1187], [], [], [1239, 1241, 31, 122, 1242], []]
def am_g137 : List (Nat × Nat) := []
def am_m138 : amM := ([(0, .iconst (-1), 0, 0), (1, .istore_n 2, 0, 0), (2, .iconst 0, 0, 0), (3, .istore_n 3, 0, 0), (4, .iconst 0, 0, 0), (5, .istore 4, 0, 0), (7, .iload 4, 0, 0), (9, .aload_n 0, 0, 0), (10, .getfield 43, 10, 5), (13, .getfield 129, 4, 0), (16, .if_icmp .ge 62, 78, 0), (19, .aload_n 0, 0, 0),
  (20, .getfield 43, 10, 5), (23, .aload_n 0, 0, 0), (24, .getfield 19, 10, 1), (27, .iload 4, 0, 0), (29, .aload_n 0, 0, 0), (30, .getfield 71, 10, 9), (33, .invokevirtual 257, 66, 0), (36, .aload_n 0, 0, 0), (37, .invokevirtual 261, 188, 0), (40, .istore 5, 0, 0), (42, .iload_n 2, 0, 0), (43, .iconst (-1), 0, 0),
  (44, .if_icmp .eq 22, 66, 0), (47, .iload_n 1, 0, 0), (48, .ifCond .eq 12, 60, 0), (51, .iload 5, 0, 0), (53, .iload_n 3, 0, 0), (54, .if_icmp .le 18, 72, 0), (57, .goto 9, 66, 0), (60, .iload 5, 0, 0), (62, .iload_n 3, 0, 0), (63, .if_icmp .ge 9, 72, 0), (66, .iload 4, 0, 0), (68, .istore_n 2, 0, 0),
  (69, .iload 5, 0, 0), (71, .istore_n 3, 0, 0), (72, .iinc 4 1, 0, 0), (75, .goto (-68), 7, 0), (78, .iload_n 2, 0, 0), (79, .ireturn, 0, 0)], 6, 2, false, (some .int), [], 10)
def am_n138 : amN := (yX11_bestSwitch, cX11_bestSwitch, [])
def am_h138 : List (List Nat) := [[], [], [], [], [], [], [], [], [407], [296], [], [], [407], [], [403], [], [], [411], [736, 737, 738, 128, 739], [], [766, 768, 17, 122, 769], [], [], [], [], [], [], [], [], [], [], [], [], [], [], [], [], [], [], [], [], []]
def am_g138 : List (Nat × Nat) := []
def am_m139 : amM := ([(0, .iload_n 1, 0, 0), (1, .iconst 1, 0, 0), (2, .if_icmp .lt 9, 11, 0), (5, .iload_n 1, 0, 0), (6, .bipush 20, 0, 0), (8, .if_icmp .le 14, 22, 0), (11, .new 141, 0, 26), (22, .aload_n 0, 0, 0), (23, .invokevirtual 207, 184, 0), (26, .iconst 0, 0, 0), (27, .istore_n 2, 0, 0), (28, .iload_n 2, 0, 0),
  (29, .iload_n 1, 0, 0), (30, .if_icmp .ge 43, 73, 0), (33, .aload_n 0, 0, 0), (34, .iconst 0, 0, 0), (35, .invokevirtual 266, 138, 0), (38, .istore_n 3, 0, 0), (39, .iload_n 3, 0, 0), (40, .iconst (-1), 0, 0), (41, .if_icmp .eq 32, 73, 0), (44, .aload_n 0, 0, 0), (45, .iload_n 3, 0, 0), (46, .invokevirtual 254, 187, 0),
  (49, .aload_n 0, 0, 0), (50, .getfield 43, 10, 5), (53, .getfield 129, 4, 0), (56, .if_icmp .lt 6, 62, 0), (59, .goto 14, 73, 0), (62, .aload_n 0, 0, 0), (63, .iload_n 3, 0, 0), (64, .invokevirtual 251, 186, 0), (67, .iinc 2 1, 0, 0), (70, .goto (-42), 28, 0), (73, .iload_n 2, 0, 0), (74, .ireturn, 0, 0)], 4, 2, false, (some .int), [], 10)
def am_n139 : amN := (yX11_descend, cX11_descend, [])
def am_h139 : List (List Nat) := [[], [], [], [], [], [], [978, 145], [], [679, 681, 13, 122, 682], [], [], [], [], [], [], [], [1251, 733, 734, 122, 735], [], [], [], [], [], [], [1239, 1241, 31, 122, 1242], [], [407], [296], [], [], [], [], [1228, 1230, 30, 122, 1231], [], [], [], []]
def am_g139 : List (Nat × Nat) := []
def am_m140 : amM := ([(0, .aload_n 0, 0, 0), (1, .iload_n 1, 0, 0), (2, .iload_n 2, 0, 0), (3, .invokevirtual 174, 177, 0), (6, .aload_n 0, 0, 0), (7, .getfield 50, 10, 6), (10, .aload_n 0, 0, 0), (11, .getfield 19, 10, 1), (14, .iload_n 1, 0, 0), (15, .iload_n 2, 0, 0), (16, .invokevirtual 270, 36, 0), (19, .aload_n 0, 0, 0),
  (20, .getfield 50, 10, 6), (23, .getfield 274, 1, 0), (26, .ireturn, 0, 0)], 3, 3, false, (some .int), [], 10)
def am_n140 : amN := (yX11_cycles, cX11_cycles, [])
def am_h140 : List (List Nat) := [[], [], [], [1102, 1104, 28, 122, 1105], [], [408], [], [403], [], [], [789, 790, 791, 129, 792], [], [408], [315], []]
def am_g140 : List (Nat × Nat) := []
def am_m141 : amM := ([(0, .aload_n 0, 0, 0), (1, .iload_n 1, 0, 0), (2, .iload_n 2, 0, 0), (3, .iload_n 3, 0, 0), (4, .invokevirtual 275, 181, 0), (7, .aload_n 0, 0, 0), (8, .getfield 50, 10, 6), (11, .iload_n 3, 0, 0), (12, .invokevirtual 278, 40, 0), (15, .ireturn, 0, 0)], 4, 4, false, (some .int), [], 10)
def am_n141 : amN := (yX11_cycleLength, cX11_cycleLength, [])
def am_h141 : List (List Nat) := [[], [], [], [], [1267, 1269, 32, 122, 1270], [], [408], [], [855, 817, 818, 129, 819], []]
def am_g141 : List (Nat × Nat) := []
def am_m142 : amM := ([(0, .aload_n 0, 0, 0), (1, .iload_n 1, 0, 0), (2, .iload_n 2, 0, 0), (3, .iload_n 3, 0, 0), (4, .invokevirtual 275, 181, 0), (7, .iload 4, 0, 0), (9, .ifCond .lt 16, 25, 0), (12, .iload 4, 0, 0), (14, .aload_n 0, 0, 0), (15, .getfield 50, 10, 6), (18, .iload_n 3, 0, 0), (19, .invokevirtual 278, 40, 0),
  (22, .if_icmp .lt 13, 35, 0), (25, .new 281, 3, 11), (35, .aload_n 0, 0, 0), (36, .getfield 50, 10, 6), (39, .iload_n 3, 0, 0), (40, .iload 4, 0, 0), (42, .invokevirtual 284, 41, 0), (45, .ireturn, 0, 0)], 5, 5, false, (some .int), [], 10)
def am_n142 : amN := (yX11_cyclePoint, cX11_cyclePoint, [])
def am_h142 : List (List Nat) := [[], [], [], [], [1267, 1269, 32, 122, 1270], [], [], [], [], [408], [], [855, 817, 818, 129, 819], [], [1271, 149], [], [408], [], [], [1294, 809, 810, 129, 811], []]
def am_g142 : List (Nat × Nat) := []
def am_m143 : amM := ([(0, .aload_n 0, 0, 0), (1, .iload_n 1, 0, 0), (2, .iload_n 2, 0, 0), (3, .iload_n 3, 0, 0), (4, .invokevirtual 275, 181, 0), (7, .aload_n 0, 0, 0), (8, .invokevirtual 207, 184, 0), (11, .aload_n 0, 0, 0), (12, .getfield 50, 10, 6), (15, .iload_n 3, 0, 0), (16, .aload_n 0, 0, 0), (17, .getfield 71, 10, 9),
  (20, .invokevirtual 287, 44, 0), (23, .aload_n 0, 0, 0), (24, .getfield 71, 10, 9), (27, .aload_n 0, 0, 0), (28, .getfield 19, 10, 1), (31, .invokevirtual 290, 48, 0), (34, .pop, 0, 0), (35, .aload_n 0, 0, 0), (36, .getfield 29, 10, 3), (39, .dup, 0, 0), (40, .getfield 132, 7, 1), (43, .iconst 1, 0, 0),
  (44, .iadd, 0, 0), (45, .putfield 132, 7, 1), (48, .aload_n 0, 0, 0), (49, .getfield 29, 10, 3), (52, .dup, 0, 0), (53, .getfield 135, 7, 2), (56, .aload_n 0, 0, 0), (57, .getfield 71, 10, 9), (60, .getfield 294, 2, 0), (63, .iadd, 0, 0), (64, .putfield 135, 7, 2), (67, .aload_n 0, 0, 0),
  (68, .invokevirtual 110, 185, 0), (71, .aload_n 0, 0, 0), (72, .getfield 71, 10, 9), (75, .getfield 294, 2, 0), (78, .ireturn, 0, 0)], 4, 4, false, (some .int), [], 10)
def am_n143 : amN := (yX11_switchCycle, cX11_switchCycle, [])
def am_h143 : List (List Nat) := [[], [], [], [], [1267, 1269, 32, 122, 1270], [], [679, 681, 13, 122, 682], [], [408], [], [], [411], [1302, 1303, 1304, 129, 1305], [], [411], [], [403], [774, 775, 776, 132, 777], [], [], [405], [], [237], [], [], [237], [], [405], [], [239], [], [411], [374], [], [239], [], [610, 612, 9, 122, 613], [], [411], [374], []]
def am_g143 : List (Nat × Nat) := []
def am_m144 : amM := ([(0, .aload_n 0, 0, 0), (1, .iload_n 1, 0, 0), (2, .iload_n 2, 0, 0), (3, .iload_n 3, 0, 0), (4, .invokevirtual 275, 181, 0), (7, .aload_n 0, 0, 0), (8, .getfield 50, 10, 6), (11, .iload_n 3, 0, 0), (12, .aload_n 0, 0, 0), (13, .getfield 71, 10, 9), (16, .invokevirtual 287, 44, 0), (19, .aload_n 0, 0, 0),
  (20, .invokevirtual 261, 188, 0), (23, .ireturn, 0, 0)], 4, 4, false, (some .int), [], 10)
def am_n144 : amN := (yX11_wouldHaveBy, cX11_wouldHaveBy, [])
def am_h144 : List (List Nat) := [[], [], [], [], [1267, 1269, 32, 122, 1270], [], [408], [], [], [411], [1302, 1303, 1304, 129, 1305], [], [766, 768, 17, 122, 769], []]
def am_g144 : List (Nat × Nat) := []
def am_m145 : amM := ([(0, .iconst 0, 0, 0), (1, .istore_n 2, 0, 0), (2, .iconst 0, 0, 0), (3, .istore_n 3, 0, 0), (4, .iload_n 3, 0, 0), (5, .aload_n 0, 0, 0), (6, .getfield 19, 10, 1), (9, .getfield 122, 0, 0), (12, .if_icmp .ge 57, 69, 0), (15, .iload_n 3, 0, 0), (16, .iconst 1, 0, 0), (17, .iadd, 0, 0),
  (18, .istore 4, 0, 0), (20, .iload 4, 0, 0), (22, .aload_n 0, 0, 0), (23, .getfield 19, 10, 1), (26, .getfield 122, 0, 0), (29, .if_icmp .ge 34, 63, 0), (32, .aload_n 0, 0, 0), (33, .getfield 50, 10, 6), (36, .aload_n 0, 0, 0), (37, .getfield 19, 10, 1), (40, .iload_n 3, 0, 0), (41, .iload 4, 0, 0),
  (43, .invokevirtual 270, 36, 0), (46, .iload_n 2, 0, 0), (47, .aload_n 0, 0, 0), (48, .getfield 50, 10, 6), (51, .iload_n 1, 0, 0), (52, .invokevirtual 295, 42, 0), (55, .iadd, 0, 0), (56, .istore_n 2, 0, 0), (57, .iinc 4 1, 0, 0), (60, .goto (-40), 20, 0), (63, .iinc 3 1, 0, 0), (66, .goto (-62), 4, 0),
  (69, .iload_n 2, 0, 0), (70, .ireturn, 0, 0)], 5, 2, false, (some .int), [], 10)
def am_n145 : amN := (yX11_cyclesOf, cX11_cyclesOf, [])
def am_h145 : List (List Nat) := [[], [], [], [], [], [], [403], [204], [], [], [], [], [], [], [], [403], [204], [], [], [408], [], [403], [], [], [789, 790, 791, 129, 792], [], [], [408], [], [812, 813, 814, 129, 815], [], [], [], [], [], [], [], []]
def am_g145 : List (Nat × Nat) := []
def am_m146 : amM := ([(0, .aload_n 0, 0, 0), (1, .getfield 57, 10, 7), (4, .aload_n 0, 0, 0), (5, .getfield 19, 10, 1), (8, .aload_n 0, 0, 0), (9, .getfield 50, 10, 6), (12, .iload_n 1, 0, 0), (13, .invokevirtual 298, 95, 0), (16, .aload_n 0, 0, 0), (17, .getfield 57, 10, 7), (20, .getfield 301, 8, 0), (23, .ireturn, 0, 0)], 2, 2, false, (some .int), [], 10)
def am_n146 : amN := (yX11_trades, cX11_trades, [])
def am_h146 : List (List Nat) := [[], [409], [], [403], [], [408], [], [824, 825, 826, 130, 827], [], [409], [341], []]
def am_g146 : List (Nat × Nat) := []
def am_m147 : amM := ([(0, .aload_n 0, 0, 0), (1, .getfield 57, 10, 7), (4, .aload_n 0, 0, 0), (5, .getfield 19, 10, 1), (8, .aload_n 0, 0, 0), (9, .getfield 50, 10, 6), (12, .iload_n 1, 0, 0), (13, .invokevirtual 298, 95, 0), (16, .iload_n 2, 0, 0), (17, .ifCond .lt 14, 31, 0), (20, .iload_n 2, 0, 0), (21, .aload_n 0, 0, 0),
  (22, .getfield 57, 10, 7), (25, .getfield 301, 8, 0), (28, .if_icmp .lt 14, 42, 0), (31, .new 281, 3, 30), (42, .aload_n 0, 0, 0), (43, .getfield 57, 10, 7), (46, .iload_n 2, 0, 0), (47, .invokevirtual 304, 98, 0), (50, .lreturn, 0, 0)], 3, 3, false, (some .long), [], 10)
def am_n147 : amN := (yX11_trade, cX11_trade, [])
def am_h147 : List (List Nat) := [[], [409], [], [403], [], [408], [], [824, 825, 826, 130, 827], [], [], [], [], [409], [341], [], [1271, 149], [], [409], [], [860, 843, 844, 130, 845], []]
def am_g147 : List (Nat × Nat) := []
def am_m148 : amM := ([(0, .aload_n 0, 0, 0), (1, .getfield 19, 10, 1), (4, .getfield 122, 0, 0), (7, .bipush 7, 0, 0), (9, .if_icmp .ge 5, 14, 0), (12, .iconst 0, 0, 0), (13, .ireturn, 0, 0), (14, .iconst 0, 0, 0), (15, .istore_n 1, 0, 0), (16, .iconst 0, 0, 0), (17, .istore_n 2, 0, 0), (18, .iload_n 2, 0, 0),
  (19, .aload_n 0, 0, 0), (20, .getfield 19, 10, 1), (23, .getfield 122, 0, 0), (26, .if_icmp .ge 42, 68, 0), (29, .iload_n 2, 0, 0), (30, .iconst 1, 0, 0), (31, .iadd, 0, 0), (32, .istore_n 3, 0, 0), (33, .iload_n 3, 0, 0), (34, .aload_n 0, 0, 0), (35, .getfield 19, 10, 1), (38, .getfield 122, 0, 0),
  (41, .if_icmp .ge 21, 62, 0), (44, .aload_n 0, 0, 0), (45, .iload_n 2, 0, 0), (46, .iload_n 3, 0, 0), (47, .invokevirtual 308, 189, 0), (50, .ifCond .eq 6, 56, 0), (53, .iinc 1 1, 0, 0), (56, .iinc 3 1, 0, 0), (59, .goto (-26), 33, 0), (62, .iinc 2 1, 0, 0), (65, .goto (-47), 18, 0), (68, .iload_n 1, 0, 0),
  (69, .ireturn, 0, 0)], 4, 1, false, (some .int), [], 10)
def am_n148 : amN := (yX11_perfectPairs, cX11_perfectPairs, [])
def am_h148 : List (List Nat) := [[], [403], [204], [], [], [], [], [], [], [], [], [], [], [403], [204], [], [], [], [], [], [], [], [403], [204], [], [], [], [], [850, 852, 23, 122, 853], [], [], [], [], [], [], [], []]
def am_g148 : List (Nat × Nat) := []
def am_m149 : amM := ([(0, .aload_n 0, 0, 0), (1, .getfield 57, 10, 7), (4, .aload_n 0, 0, 0), (5, .getfield 19, 10, 1), (8, .aload_n 0, 0, 0), (9, .getfield 50, 10, 6), (12, .iconst 4, 0, 0), (13, .invokevirtual 298, 95, 0), (16, .aload_n 0, 0, 0), (17, .getfield 57, 10, 7), (20, .getfield 301, 8, 0), (23, .aload_n 0, 0, 0),
  (24, .getfield 43, 10, 5), (27, .getfield 129, 4, 0), (30, .if_icmp .eq 5, 35, 0), (33, .iconst 0, 0, 0), (34, .ireturn, 0, 0), (35, .iconst 0, 0, 0), (36, .istore_n 1, 0, 0), (37, .iload_n 1, 0, 0), (38, .aload_n 0, 0, 0), (39, .getfield 57, 10, 7), (42, .getfield 301, 8, 0), (45, .if_icmp .ge 29, 74, 0),
  (48, .aload_n 0, 0, 0), (49, .getfield 43, 10, 5), (52, .aload_n 0, 0, 0), (53, .getfield 57, 10, 7), (56, .iload_n 1, 0, 0), (57, .invokevirtual 304, 98, 0), (60, .invokevirtual 312, 65, 0), (63, .ifCond .ne 5, 68, 0), (66, .iconst 0, 0, 0), (67, .ireturn, 0, 0), (68, .iinc 1 1, 0, 0), (71, .goto (-34), 37, 0),
  (74, .iconst 1, 0, 0), (75, .ireturn, 0, 0)], 2, 1, false, (some .boolean), [], 10)
def am_n149 : amN := (yX11_agrees, cX11_agrees, [])
def am_h149 : List (List Nat) := [[], [409], [], [403], [], [408], [], [824, 825, 826, 130, 827], [], [409], [341], [], [407], [296], [], [], [], [], [], [], [], [409], [341], [], [], [407], [], [409], [], [860, 843, 844, 130, 845], [861, 862, 863, 128, 864], [], [], [], [], [], [], []]
def am_g149 : List (Nat × Nat) := []
def am_m150 : amM := ([(0, .aload_n 0, 0, 0), (1, .iload_n 1, 0, 0), (2, .iload_n 2, 0, 0), (3, .iload_n 3, 0, 0), (4, .invokevirtual 316, 183, 0), (7, .aload_n 0, 0, 0), (8, .getfield 19, 10, 1), (11, .iload_n 1, 0, 0), (12, .iload_n 2, 0, 0), (13, .iload_n 3, 0, 0), (14, .invokestatic 167, 68, 0), (17, .invokevirtual 319, 28, 0),
  (20, .invokestatic 322, 73, 0), (23, .ireturn, 0, 0)], 4, 4, false, (some .int), [], 10)
def am_n150 : amN := (yX11_train, cX11_train, [])
def am_h150 : List (List Nat) := [[], [], [], [], [1332, 1334, 33, 122, 1335], [], [403], [], [], [], [718, 627, 139, 628], [1341, 1342, 1343, 124, 1344], [1345, 1346, 139, 1347], []]
def am_g150 : List (Nat × Nat) := []
def am_m151 : amM := ([(0, .aload_n 0, 0, 0), (1, .iload_n 1, 0, 0), (2, .iload_n 2, 0, 0), (3, .iload_n 3, 0, 0), (4, .invokevirtual 316, 183, 0), (7, .aload_n 0, 0, 0), (8, .getfield 64, 10, 8), (11, .aload_n 0, 0, 0), (12, .getfield 19, 10, 1), (15, .invokevirtual 325, 100, 0), (18, .aload_n 0, 0, 0), (19, .getfield 64, 10, 8),
  (22, .iload_n 1, 0, 0), (23, .iload_n 2, 0, 0), (24, .iload_n 3, 0, 0), (25, .invokestatic 167, 68, 0), (28, .invokestatic 327, 102, 0), (31, .invokevirtual 330, 103, 0), (34, .ireturn, 0, 0)], 4, 4, false, (some .int), [], 10)
def am_n151 : amN := (yX11_trainsTo, cX11_trainsTo, [])
def am_h151 : List (List Nat) := [[], [], [], [], [1332, 1334, 33, 122, 1335], [], [410], [], [403], [1356, 1357, 1358, 131, 1359], [], [410], [], [], [], [718, 627, 139, 628], [1370, 1363, 131, 1364], [1371, 1372, 1373, 131, 1374], []]
def am_g151 : List (Nat × Nat) := []
def am_m152 : amM := ([(0, .aload_n 0, 0, 0), (1, .iload_n 1, 0, 0), (2, .iload_n 2, 0, 0), (3, .iload_n 3, 0, 0), (4, .invokevirtual 316, 183, 0), (7, .aload_n 0, 0, 0), (8, .getfield 64, 10, 8), (11, .aload_n 0, 0, 0), (12, .getfield 19, 10, 1), (15, .invokevirtual 325, 100, 0), (18, .aload_n 0, 0, 0), (19, .getfield 64, 10, 8),
  (22, .iload_n 1, 0, 0), (23, .iload_n 2, 0, 0), (24, .iload_n 3, 0, 0), (25, .invokestatic 167, 68, 0), (28, .invokestatic 327, 102, 0), (31, .invokevirtual 333, 108, 0), (34, .ireturn, 0, 0)], 4, 4, false, (some .int), [], 10)
def am_n152 : amN := (yX11_tail, cX11_tail, [])
def am_h152 : List (List Nat) := [[], [], [], [], [1332, 1334, 33, 122, 1335], [], [410], [], [403], [1356, 1357, 1358, 131, 1359], [], [410], [], [], [], [718, 627, 139, 628], [1370, 1363, 131, 1364], [1382, 1383, 1384, 131, 1385], []]
def am_g152 : List (Nat × Nat) := []
def am_m153 : amM := ([(0, .aload_n 0, 0, 0), (1, .iload_n 1, 0, 0), (2, .iload_n 2, 0, 0), (3, .iload_n 3, 0, 0), (4, .invokevirtual 316, 183, 0), (7, .aload_n 0, 0, 0), (8, .getfield 64, 10, 8), (11, .aload_n 0, 0, 0), (12, .getfield 19, 10, 1), (15, .invokevirtual 325, 100, 0), (18, .aload_n 0, 0, 0), (19, .getfield 64, 10, 8),
  (22, .iload_n 1, 0, 0), (23, .iload_n 2, 0, 0), (24, .iload_n 3, 0, 0), (25, .invokestatic 167, 68, 0), (28, .invokestatic 327, 102, 0), (31, .invokevirtual 336, 107, 0), (34, .ireturn, 0, 0)], 4, 4, false, (some .int), [], 10)
def am_n153 : amN := (yX11_roundOf, cX11_roundOf, [])
def am_h153 : List (List Nat) := [[], [], [], [], [1332, 1334, 33, 122, 1335], [], [410], [], [403], [1356, 1357, 1358, 131, 1359], [], [410], [], [], [], [718, 627, 139, 628], [1370, 1363, 131, 1364], [1409, 1387, 1388, 131, 1389], []]
def am_g153 : List (Nat × Nat) := []
def am_m154 : amM := ([(0, .aload_n 0, 0, 0), (1, .invokevirtual 339, 182, 0), (4, .aload_n 0, 0, 0), (5, .getfield 64, 10, 8), (8, .aload_n 0, 0, 0), (9, .getfield 19, 10, 1), (12, .invokevirtual 325, 100, 0), (15, .aload_n 0, 0, 0), (16, .getfield 64, 10, 8), (19, .iload_n 1, 0, 0), (20, .invokevirtual 342, 109, 0), (23, .ireturn, 0, 0)], 2, 2, false, (some .int), [], 10)
def am_n154 : amN := (yX11_trainProfile, cX11_trainProfile, [])
def am_h154 : List (List Nat) := [[], [1336, 1338, 34, 122, 1339], [], [410], [], [403], [1356, 1357, 1358, 131, 1359], [], [410], [], [1417, 1418, 1419, 131, 1420], []]
def am_g154 : List (Nat × Nat) := []
def am_m155 : amM := ([(0, .aload_n 0, 0, 0), (1, .invokevirtual 339, 182, 0), (4, .aload_n 0, 0, 0), (5, .getfield 64, 10, 8), (8, .aload_n 0, 0, 0), (9, .getfield 19, 10, 1), (12, .invokevirtual 325, 100, 0), (15, .aload_n 0, 0, 0), (16, .getfield 64, 10, 8), (19, .invokevirtual 345, 110, 0), (22, .ireturn, 0, 0)], 1, 1, false, (some .int), [], 10)
def am_n155 : amN := (yX11_rounds, cX11_rounds, [])
def am_h155 : List (List Nat) := [[], [1336, 1338, 34, 122, 1339], [], [410], [], [403], [1356, 1357, 1358, 131, 1359], [], [410], [1429, 1430, 1431, 131, 1432], []]
def am_g155 : List (Nat × Nat) := []
def am_m156 : amM := ([(0, .aload_n 0, 0, 0), (1, .getfield 19, 10, 1), (4, .aload_n 0, 0, 0), (5, .getfield 19, 10, 1), (8, .iload_n 1, 0, 0), (9, .invokevirtual 348, 5, 0), (12, .invokevirtual 351, 29, 0), (15, .ireturn, 0, 0)], 2, 2, false, (some .boolean), [], 10)
def am_n156 : amN := (yX11_isTurned, cX11_isTurned, [])
def am_h156 : List (List Nat) := [[], [403], [], [403], [], [869, 870, 871, 124, 872], [876, 877, 878, 124, 879], []]
def am_g156 : List (Nat × Nat) := []
def am_m157 : amM := ([(0, .aload_n 0, 0, 0), (1, .getfield 19, 10, 1), (4, .invokevirtual 354, 30, 0), (7, .ireturn, 0, 0)], 1, 1, false, (some .int), [], 10)
def am_n157 : amN := (yX11_leastTurn, cX11_leastTurn, [])
def am_h157 : List (List Nat) := [[], [403], [885, 886, 887, 124, 888], []]
def am_g157 : List (Nat × Nat) := []
def am_m158 : amM := ([(0, .aload_n 0, 0, 0), (1, .getfield 19, 10, 1), (4, .invokevirtual 354, 30, 0), (7, .istore_n 1, 0, 0), (8, .lconst 0, 0, 0), (9, .lstore_n 2, 0, 0), (10, .iconst 0, 0, 0), (11, .istore 4, 0, 0), (13, .iconst 0, 0, 0), (14, .istore 5, 0, 0), (16, .iload 5, 0, 0), (18, .aload_n 0, 0, 0),
  (19, .getfield 19, 10, 1), (22, .getfield 113, 0, 1), (25, .if_icmp .ge 36, 61, 0), (28, .lload_n 2, 0, 0), (29, .iload 5, 0, 0), (31, .lshr, 0, 0), (32, .lconst 1, 0, 0), (33, .land, 0, 0), (34, .lconst 0, 0, 0), (35, .lcmp, 0, 0), (36, .ifCond .ne 19, 55, 0), (39, .lload_n 2, 0, 0),
  (40, .aload_n 0, 0, 0), (41, .getfield 19, 10, 1), (44, .iload 5, 0, 0), (46, .iload_n 1, 0, 0), (47, .invokevirtual 357, 31, 0), (50, .lor, 0, 0), (51, .lstore_n 2, 0, 0), (52, .iinc 4 1, 0, 0), (55, .iinc 5 1, 0, 0), (58, .goto (-42), 16, 0), (61, .iload 4, 0, 0), (63, .ireturn, 0, 0)], 6, 1, false, (some .int), [], 10)
def am_n158 : amN := (yX11_orbits, cX11_orbits, [])
def am_h158 : List (List Nat) := [[], [403], [885, 886, 887, 124, 888], [], [], [], [], [], [], [], [], [], [403], [209], [], [], [], [], [], [], [], [], [], [], [], [403], [], [], [894, 895, 896, 124, 897], [], [], [], [], [], [], []]
def am_g158 : List (Nat × Nat) := []
def am_m159 : amM := ([(0, .aload_n 0, 0, 0), (1, .invokevirtual 207, 184, 0), (4, .aload_n 0, 0, 0), (5, .getfield 19, 10, 1), (8, .iload_n 1, 0, 0), (9, .invokevirtual 348, 5, 0), (12, .istore_n 2, 0, 0), (13, .aload_n 0, 0, 0), (14, .getfield 23, 10, 2), (17, .aload_n 0, 0, 0), (18, .getfield 19, 10, 1), (21, .getfield 122, 0, 0),
  (24, .invokevirtual 79, 1, 0), (27, .iconst 0, 0, 0), (28, .istore_n 3, 0, 0), (29, .iconst 0, 0, 0), (30, .istore 4, 0, 0), (32, .iload 4, 0, 0), (34, .aload_n 0, 0, 0), (35, .getfield 19, 10, 1), (38, .getfield 113, 0, 1), (41, .if_icmp .ge 60, 101, 0), (44, .aload_n 0, 0, 0), (45, .getfield 19, 10, 1),
  (48, .iload 4, 0, 0), (50, .invokevirtual 153, 9, 0), (53, .iload_n 2, 0, 0), (54, .aload_n 0, 0, 0), (55, .getfield 19, 10, 1), (58, .getfield 122, 0, 0), (61, .invokestatic 361, 71, 0), (64, .istore 5, 0, 0), (66, .aload_n 0, 0, 0), (67, .getfield 23, 10, 2), (70, .iload 5, 0, 0), (72, .invokevirtual 210, 14, 0),
  (75, .iload_n 3, 0, 0), (76, .aload_n 0, 0, 0), (77, .getfield 19, 10, 1), (80, .iload 5, 0, 0), (82, .invokevirtual 195, 12, 0), (85, .ifCond .eq 7, 92, 0), (88, .iconst 1, 0, 0), (89, .goto 4, 93, 0), (92, .iconst 0, 0, 0), (93, .iadd, 0, 0), (94, .istore_n 3, 0, 0), (95, .iinc 4 1, 0, 0),
  (98, .goto (-66), 32, 0), (101, .aload_n 0, 0, 0), (102, .getfield 19, 10, 1), (105, .aload_n 0, 0, 0), (106, .getfield 23, 10, 2), (109, .invokevirtual 98, 2, 0), (112, .aload_n 0, 0, 0), (113, .invokevirtual 110, 185, 0), (116, .iload_n 3, 0, 0), (117, .ireturn, 0, 0)], 6, 2, false, (some .int), [], 10)
def am_n159 : amN := (yX11_turn, cX11_turn, [])
def am_h159 : List (List Nat) := [[], [679, 681, 13, 122, 682], [], [403], [], [869, 870, 871, 124, 872], [], [], [404], [], [403], [204], [388, 389, 390, 124, 391], [], [], [], [], [], [], [403], [209], [], [], [403], [], [903, 638, 639, 124, 640], [], [], [403], [204], [904, 583, 139, 584], [], [], [404], [], [719, 587, 588, 124, 589], [], [], [403], [], [905, 647, 648, 124, 649], [], [], [], [], [], [], [], [], [], [403], [], [404], [595, 596, 597, 124, 598], [], [610, 612, 9, 122, 613], [], []]
def am_g159 : List (Nat × Nat) := []
def am_m160 : amM := ([(0, .aload_n 0, 0, 0), (1, .getfield 19, 10, 1), (4, .getfield 113, 0, 1), (7, .ifCond .ne 7, 14, 0), (10, .dconst 0, 0, 0), (11, .goto 22, 33, 0), (14, .iconst 4, 0, 0), (15, .aload_n 0, 0, 0), (16, .getfield 43, 10, 5), (19, .getfield 129, 4, 0), (22, .imul, 0, 0), (23, .i2d, 0, 0),
  (24, .aload_n 0, 0, 0), (25, .getfield 19, 10, 1), (28, .getfield 113, 0, 1), (31, .i2d, 0, 0), (32, .ddiv, 0, 0), (33, .dreturn, 0, 0)], 1, 1, false, (some .double), [], 10)
def am_n160 : amN := (yX11_meanQuads, cX11_meanQuads, [])
def am_h160 : List (List Nat) := [[], [403], [209], [], [], [], [], [], [407], [296], [], [], [], [403], [209], [], [], []]
def am_g160 : List (Nat × Nat) := []
def am_m161 : amM := ([(0, .aload_n 0, 0, 0), (1, .getfield 19, 10, 1), (4, .invokevirtual 364, 6, 0), (7, .istore_n 1, 0, 0), (8, .iload_n 1, 0, 0), (9, .ifCond .ne 7, 16, 0), (12, .fconst 0, 0, 0), (13, .goto 16, 29, 0), (16, .iload_n 1, 0, 0), (17, .aload_n 0, 0, 0), (18, .getfield 19, 10, 1), (21, .invokevirtual 125, 23, 0),
  (24, .isub, 0, 0), (25, .i2f, 0, 0), (26, .iload_n 1, 0, 0), (27, .i2f, 0, 0), (28, .fdiv, 0, 0), (29, .freturn, 0, 0)], 2, 1, false, (some .float), [], 10)
def am_n161 : amN := (yX11_coverage, cX11_coverage, [])
def am_h161 : List (List Nat) := [[], [403], [914, 915, 916, 124, 917], [], [], [], [], [], [], [], [403], [670, 671, 672, 124, 673], [], [], [], [], [], []]
def am_g161 : List (Nat × Nat) := []
def am_m162 : amM := ([(0, .iload_n 1, 0, 0), (1, .aload_n 0, 0, 0), (2, .getfield 19, 10, 1), (5, .invokevirtual 367, 4, 0), (8, .iconst (-1), 0, 0), (9, .ixor, 0, 0), (10, .iand, 0, 0), (11, .ifCond .eq 14, 25, 0), (14, .new 141, 0, 34), (25, .aload_n 0, 0, 0), (26, .getfield 19, 10, 1), (29, .iload_n 1, 0, 0),
  (30, .invokevirtual 372, 33, 0), (33, .ireturn, 0, 0)], 2, 2, false, (some .int), [], 10)
def am_n162 : amN := (yX11_closure, cX11_closure, [])
def am_h162 : List (List Nat) := [[], [], [403], [922, 399, 400, 124, 401], [], [], [], [], [978, 145], [], [403], [], [1445, 1446, 1447, 124, 1448], []]
def am_g162 : List (Nat × Nat) := []
def am_m163 : amM := ([(0, .aload_n 0, 0, 0), (1, .getfield 19, 10, 1), (4, .invokevirtual 367, 4, 0), (7, .istore_n 1, 0, 0), (8, .iconst 0, 0, 0), (9, .istore_n 2, 0, 0), (10, .iconst 0, 0, 0), (11, .istore_n 3, 0, 0), (12, .iload_n 3, 0, 0), (13, .iload_n 1, 0, 0), (14, .if_icmp .ge 31, 45, 0), (17, .iload_n 3, 0, 0),
  (18, .invokestatic 375, 343, 0), (21, .iconst 3, 0, 0), (22, .if_icmp .le 17, 39, 0), (25, .aload_n 0, 0, 0), (26, .getfield 19, 10, 1), (29, .iload_n 3, 0, 0), (30, .invokevirtual 380, 32, 0), (33, .ifCond .eq 6, 39, 0), (36, .iinc 2 1, 0, 0), (39, .iinc 3 1, 0, 0), (42, .goto (-30), 12, 0), (45, .iload_n 2, 0, 0),
  (46, .ireturn, 0, 0)], 4, 1, false, (some .int), [], 10)
def am_n163 : amN := (yX11_subsystems, cX11_subsystems, [])
def am_h163 : List (List Nat) := [[], [403], [922, 399, 400, 124, 401], [], [], [], [], [], [], [], [], [], [923, 568, 140, 569], [], [], [], [403], [], [924, 925, 926, 124, 927], [], [], [], [], [], []]
def am_g163 : List (Nat × Nat) := []
def am_m164 : amM := ([(0, .aload_n 0, 0, 0), (1, .getfield 19, 10, 1), (4, .invokevirtual 367, 4, 0), (7, .istore_n 1, 0, 0), (8, .iconst 0, 0, 0), (9, .istore_n 2, 0, 0), (10, .iconst 0, 0, 0), (11, .istore_n 3, 0, 0), (12, .iload_n 3, 0, 0), (13, .iload_n 1, 0, 0), (14, .if_icmp .gt 33, 47, 0), (17, .iload_n 3, 0, 0),
  (18, .invokestatic 375, 343, 0), (21, .iload_n 2, 0, 0), (22, .invokestatic 375, 343, 0), (25, .if_icmp .le 16, 41, 0), (28, .aload_n 0, 0, 0), (29, .getfield 19, 10, 1), (32, .iload_n 3, 0, 0), (33, .invokevirtual 383, 34, 0), (36, .ifCond .ne 5, 41, 0), (39, .iload_n 3, 0, 0), (40, .istore_n 2, 0, 0), (41, .iinc 3 1, 0, 0),
  (44, .goto (-32), 12, 0), (47, .iload_n 2, 0, 0), (48, .ireturn, 0, 0)], 4, 1, false, (some .int), [], 10)
def am_n164 : amN := (yX11_independent, cX11_independent, [])
def am_h164 : List (List Nat) := [[], [403], [922, 399, 400, 124, 401], [], [], [], [], [], [], [], [], [], [923, 568, 140, 569], [], [923, 568, 140, 569], [], [], [403], [], [932, 933, 934, 124, 935], [], [], [], [], [], [], []]
def am_g164 : List (Nat × Nat) := []
def am_m165 : amM := ([(0, .aload_n 0, 0, 0), (1, .iload_n 1, 0, 0), (2, .invokevirtual 148, 179, 0), (5, .aload_n 0, 0, 0), (6, .getfield 19, 10, 1), (9, .getfield 113, 0, 1), (12, .aload_n 0, 0, 0), (13, .getfield 19, 10, 1), (16, .aload_n 0, 0, 0), (17, .getfield 19, 10, 1), (20, .iload_n 1, 0, 0), (21, .invokevirtual 153, 9, 0),
  (24, .iconst 1, 0, 0), (25, .invokevirtual 184, 26, 0), (28, .isub, 0, 0), (29, .ireturn, 0, 0)], 2, 2, false, (some .int), [], 10)
def am_n165 : amN := (yX11_apart, cX11_apart, [])
def am_h165 : List (List Nat) := [[], [], [1054, 1056, 25, 122, 1057], [], [403], [209], [], [403], [], [403], [], [903, 638, 639, 124, 640], [], [1113, 1114, 1115, 124, 1116], [], []]
def am_g165 : List (Nat × Nat) := []
def am_m166 : amM := ([(0, .aload_n 0, 0, 0), (1, .getfield 19, 10, 1), (4, .iconst 0, 0, 0), (5, .iconst 0, 0, 0), (6, .iconst 0, 0, 0), (7, .invokestatic 386, 193, 0), (10, .ireturn, 0, 0)], 1, 1, false, (some .int), [], 10)
def am_n166 : amN := (yX11_mostApart, cX11_mostApart, [])
def am_h166 : List (List Nat) := [[], [403], [], [], [], [940, 941, 122, 942], []]
def am_g166 : List (Nat × Nat) := []
def am_m167 : amM := ([(0, .aload_n 0, 0, 0), (1, .iload_n 1, 0, 0), (2, .iload_n 2, 0, 0), (3, .invokevirtual 174, 177, 0), (6, .aload_n 0, 0, 0), (7, .invokevirtual 207, 184, 0), (10, .aload_n 0, 0, 0), (11, .getfield 23, 10, 2), (14, .aload_n 0, 0, 0), (15, .getfield 19, 10, 1), (18, .getfield 122, 0, 0), (21, .invokevirtual 79, 1, 0),
  (24, .iconst 0, 0, 0), (25, .istore_n 3, 0, 0), (26, .iconst 0, 0, 0), (27, .istore 4, 0, 0), (29, .iload 4, 0, 0), (31, .aload_n 0, 0, 0), (32, .getfield 19, 10, 1), (35, .getfield 113, 0, 1), (38, .if_icmp .ge 54, 92, 0), (41, .aload_n 0, 0, 0), (42, .getfield 19, 10, 1), (45, .iload 4, 0, 0),
  (47, .invokevirtual 153, 9, 0), (50, .iload_n 1, 0, 0), (51, .iload_n 2, 0, 0), (52, .invokestatic 390, 72, 0), (55, .istore 5, 0, 0), (57, .aload_n 0, 0, 0), (58, .getfield 23, 10, 2), (61, .iload 5, 0, 0), (63, .invokevirtual 210, 14, 0), (66, .iload_n 3, 0, 0), (67, .aload_n 0, 0, 0), (68, .getfield 19, 10, 1),
  (71, .iload 5, 0, 0), (73, .invokevirtual 195, 12, 0), (76, .ifCond .eq 7, 83, 0), (79, .iconst 0, 0, 0), (80, .goto 4, 84, 0), (83, .iconst 1, 0, 0), (84, .iadd, 0, 0), (85, .istore_n 3, 0, 0), (86, .iinc 4 1, 0, 0), (89, .goto (-60), 29, 0), (92, .aload_n 0, 0, 0), (93, .getfield 19, 10, 1),
  (96, .aload_n 0, 0, 0), (97, .getfield 23, 10, 2), (100, .invokevirtual 98, 2, 0), (103, .aload_n 0, 0, 0), (104, .invokevirtual 110, 185, 0), (107, .iload_n 3, 0, 0), (108, .ireturn, 0, 0)], 6, 3, false, (some .int), [], 10)
def am_n167 : amN := (yX11_swap, cX11_swap, [])
def am_h167 : List (List Nat) := [[], [], [], [1102, 1104, 28, 122, 1105], [], [679, 681, 13, 122, 682], [], [404], [], [403], [204], [388, 389, 390, 124, 391], [], [], [], [], [], [], [403], [209], [], [], [403], [], [903, 638, 639, 124, 640], [], [], [1464, 1465, 139, 1466], [], [], [404], [], [719, 587, 588, 124, 589], [], [], [403], [], [905, 647, 648, 124, 649], [], [], [], [], [], [], [], [], [], [403], [], [404], [595, 596, 597, 124, 598], [], [610, 612, 9, 122, 613], [], []]
def am_g167 : List (Nat × Nat) := []
def am_m168 : amM := ([(0, .aload_n 0, 0, 0), (1, .iload_n 1, 0, 0), (2, .invokevirtual 181, 176, 0), (5, .aload_n 0, 0, 0), (6, .invokevirtual 207, 184, 0), (9, .aload_n 0, 0, 0), (10, .getfield 19, 10, 1), (13, .iconst 1, 0, 0), (14, .iload_n 1, 0, 0), (15, .ishl, 0, 0), (16, .iconst 1, 0, 0), (17, .invokevirtual 393, 27, 0),
  (20, .istore_n 2, 0, 0), (21, .aload_n 0, 0, 0), (22, .invokevirtual 110, 185, 0), (25, .iload_n 2, 0, 0), (26, .ireturn, 0, 0)], 3, 2, false, (some .int), [], 10)
def am_n168 : amN := (yX11_clear, cX11_clear, [])
def am_h168 : List (List Nat) := [[], [], [1087, 1089, 27, 122, 1090], [], [679, 681, 13, 122, 682], [], [403], [], [], [], [], [1475, 1476, 1477, 124, 1478], [], [], [610, 612, 9, 122, 613], [], []]
def am_g168 : List (Nat × Nat) := []
def am_m169 : amM := ([(0, .aload_n 0, 0, 0), (1, .iload_n 1, 0, 0), (2, .iload_n 2, 0, 0), (3, .iload_n 3, 0, 0), (4, .invokevirtual 163, 178, 0), (7, .aload_n 0, 0, 0), (8, .getfield 19, 10, 1), (11, .iload_n 1, 0, 0), (12, .iload_n 2, 0, 0), (13, .iload_n 3, 0, 0), (14, .invokestatic 167, 68, 0), (17, .iconst 2, 0, 0),
  (18, .invokevirtual 184, 26, 0), (21, .ireturn, 0, 0)], 4, 4, false, (some .int), [], 10)
def am_n169 : amN := (yX11_inTheWay, cX11_inTheWay, [])
def am_h169 : List (List Nat) := [[], [], [], [], [1083, 1085, 26, 122, 1086], [], [403], [], [], [], [718, 627, 139, 628], [], [1113, 1114, 1115, 124, 1116], []]
def am_g169 : List (Nat × Nat) := []
def am_m170 : amM := ([(0, .aload_n 0, 0, 0), (1, .iload_n 1, 0, 0), (2, .iload_n 2, 0, 0), (3, .iload_n 3, 0, 0), (4, .invokevirtual 163, 178, 0), (7, .iload_n 1, 0, 0), (8, .iload_n 2, 0, 0), (9, .iload_n 3, 0, 0), (10, .invokestatic 167, 68, 0), (13, .istore 4, 0, 0), (15, .aload_n 0, 0, 0), (16, .getfield 19, 10, 1),
  (19, .iload 4, 0, 0), (21, .invokevirtual 195, 12, 0), (24, .ifCond .eq 14, 38, 0), (27, .new 202, 2, 36), (38, .aload_n 0, 0, 0), (39, .invokevirtual 207, 184, 0), (42, .aload_n 0, 0, 0), (43, .getfield 19, 10, 1), (46, .iload 4, 0, 0), (48, .iconst 2, 0, 0), (49, .invokevirtual 393, 27, 0), (52, .istore 5, 0, 0),
  (54, .aload_n 0, 0, 0), (55, .getfield 19, 10, 1), (58, .iload 4, 0, 0), (60, .invokevirtual 210, 14, 0), (63, .aload_n 0, 0, 0), (64, .invokevirtual 110, 185, 0), (67, .iload 5, 0, 0), (69, .ireturn, 0, 0)], 6, 4, false, (some .int), [], 10)
def am_n170 : amN := (yX11_force, cX11_force, [])
def am_h170 : List (List Nat) := [[], [], [], [], [1083, 1085, 26, 122, 1086], [], [], [], [718, 627, 139, 628], [], [], [403], [], [905, 647, 648, 124, 649], [], [1145, 147], [], [679, 681, 13, 122, 682], [], [403], [], [], [1475, 1476, 1477, 124, 1478], [], [], [403], [], [719, 587, 588, 124, 589], [], [610, 612, 9, 122, 613], [], []]
def am_g170 : List (Nat × Nat) := []
def am_m171 : amM := ([(0, .aload_n 0, 0, 0), (1, .iload_n 1, 0, 0), (2, .invokevirtual 181, 176, 0), (5, .aload_n 0, 0, 0), (6, .iconst 0, 0, 0), (7, .putfield 107, 10, 11), (10, .iconst 0, 0, 0), (11, .istore_n 2, 0, 0), (12, .iload_n 2, 0, 0), (13, .aload_n 0, 0, 0), (14, .getfield 19, 10, 1), (17, .getfield 113, 0, 1),
  (20, .if_icmp .ge 36, 56, 0), (23, .aload_n 0, 0, 0), (24, .getfield 19, 10, 1), (27, .iload_n 2, 0, 0), (28, .invokevirtual 153, 9, 0), (31, .iload_n 1, 0, 0), (32, .invokestatic 398, 69, 0), (35, .ifCond .eq 15, 50, 0), (38, .aload_n 0, 0, 0), (39, .aload_n 0, 0, 0), (40, .getfield 19, 10, 1), (43, .iload_n 2, 0, 0),
  (44, .invokevirtual 153, 9, 0), (47, .invokevirtual 401, 190, 0), (50, .iinc 2 1, 0, 0), (53, .goto (-41), 12, 0), (56, .aload_n 0, 0, 0), (57, .getfield 107, 10, 11), (60, .ireturn, 0, 0)], 3, 2, false, (some .int), [], 10)
def am_n171 : amN := (yX11_printAt, cX11_printAt, [])
def am_h171 : List (List Nat) := [[], [], [1087, 1089, 27, 122, 1090], [], [], [413], [], [], [], [], [403], [209], [], [], [403], [], [903, 638, 639, 124, 640], [], [717, 558, 139, 559], [], [], [], [403], [], [903, 638, 639, 124, 640], [1502, 1504, 40, 122, 1505], [], [], [], [413], []]
def am_g171 : List (Nat × Nat) := []
def am_m172 : amM := ([(0, .iload_n 1, 0, 0), (1, .ifCond .lt 20, 21, 0), (4, .iload_n 1, 0, 0), (5, .aload_n 0, 0, 0), (6, .getfield 107, 10, 11), (9, .if_icmp .ge 12, 21, 0), (12, .iload_n 1, 0, 0), (13, .aload_n 0, 0, 0), (14, .getfield 75, 10, 10), (17, .arraylength, 0, 0), (18, .if_icmp .lt 7, 25, 0), (21, .iconst (-1), 0, 0),
  (22, .goto 9, 31, 0), (25, .aload_n 0, 0, 0), (26, .getfield 75, 10, 10), (29, .iload_n 1, 0, 0), (30, .baload, 0, 0), (31, .ireturn, 0, 0)], 2, 2, false, (some .int), [], 10)
def am_n172 : amN := (yX11_outputByte, cX11_outputByte, [])
def am_h172 : List (List Nat) := [[], [], [], [], [413], [], [], [], [412], [], [], [], [], [], [412], [], [], []]
def am_g172 : List (Nat × Nat) := []
def am_m173 : amM := ([(0, .aload_n 0, 0, 0), (1, .getfield 36, 10, 4), (4, .aload_n 0, 0, 0), (5, .getfield 19, 10, 1), (8, .aload_n 0, 0, 0), (9, .getfield 29, 10, 3), (12, .invokevirtual 404, 52, 0), (15, .ifCond .ne 5, 20, 0), (18, .iconst (-1), 0, 0), (19, .ireturn, 0, 0), (20, .aload_n 0, 0, 0), (21, .invokevirtual 110, 185, 0),
  (24, .aload_n 0, 0, 0), (25, .getfield 36, 10, 4), (28, .getfield 138, 3, 0), (31, .ireturn, 0, 0)], 1, 1, false, (some .int), [], 10)
def am_n173 : amN := (yX11_undo, cX11_undo, [])
def am_h173 : List (List Nat) := [[], [406], [], [403], [], [405], [952, 953, 954, 126, 955], [], [], [], [], [610, 612, 9, 122, 613], [], [406], [276], []]
def am_g173 : List (Nat × Nat) := []
def am_m174 : amM := ([(0, .aload_n 0, 0, 0), (1, .getfield 36, 10, 4), (4, .aload_n 0, 0, 0), (5, .getfield 19, 10, 1), (8, .aload_n 0, 0, 0), (9, .getfield 29, 10, 3), (12, .invokevirtual 408, 53, 0), (15, .aload_n 0, 0, 0), (16, .getfield 19, 10, 1), (19, .getfield 113, 0, 1), (22, .ireturn, 0, 0)], 1, 1, false, (some .int), [], 10)
def am_n174 : amN := (yX11_saveState, cX11_saveState, [])
def am_h174 : List (List Nat) := [[], [406], [], [403], [], [405], [966, 967, 968, 126, 969], [], [403], [209], []]
def am_g174 : List (Nat × Nat) := []
def am_m175 : amM := ([(0, .aload_n 0, 0, 0), (1, .getfield 36, 10, 4), (4, .aload_n 0, 0, 0), (5, .getfield 19, 10, 1), (8, .aload_n 0, 0, 0), (9, .getfield 29, 10, 3), (12, .invokevirtual 412, 54, 0), (15, .ifCond .ne 14, 29, 0), (18, .new 202, 2, 38), (29, .aload_n 0, 0, 0), (30, .invokevirtual 110, 185, 0), (33, .aload_n 0, 0, 0),
  (34, .getfield 19, 10, 1), (37, .getfield 113, 0, 1), (40, .ireturn, 0, 0)], 1, 1, false, (some .int), [], 10)
def am_n175 : amN := (yX11_restoreState, cX11_restoreState, [])
def am_h175 : List (List Nat) := [[], [406], [], [403], [], [405], [1517, 1518, 1519, 126, 1520], [], [1145, 147], [], [610, 612, 9, 122, 613], [], [403], [209], []]
def am_g175 : List (Nat × Nat) := []
def am_m176 : amM := ([(0, .aload_n 0, 0, 0), (1, .getfield 19, 10, 1), (4, .iload_n 1, 0, 0), (5, .invokevirtual 417, 3, 0), (8, .ifCond .ne 14, 22, 0), (11, .new 187, 1, 14), (22, .return_, 0, 0)], 2, 2, false, none, [], 10)
def am_n176 : amN := (yX11_requirePoint, cX11_requirePoint, [])
def am_h176 : List (List Nat) := [[], [403], [], [1091, 554, 555, 124, 556], [], [1058, 146], []]
def am_g176 : List (Nat × Nat) := []
def am_m177 : amM := ([(0, .aload_n 0, 0, 0), (1, .iload_n 1, 0, 0), (2, .invokevirtual 181, 176, 0), (5, .aload_n 0, 0, 0), (6, .iload_n 2, 0, 0), (7, .invokevirtual 181, 176, 0), (10, .iload_n 1, 0, 0), (11, .iload_n 2, 0, 0), (12, .if_icmp .ne 14, 26, 0), (15, .new 141, 0, 16), (26, .return_, 0, 0)], 3, 3, false, none, [], 10)
def am_n177 : amN := (yX11_requireTwo, cX11_requireTwo, [])
def am_h177 : List (List Nat) := [[], [], [1087, 1089, 27, 122, 1090], [], [], [1087, 1089, 27, 122, 1090], [], [], [], [978, 145], []]
def am_g177 : List (Nat × Nat) := []
def am_m178 : amM := ([(0, .aload_n 0, 0, 0), (1, .iload_n 1, 0, 0), (2, .invokevirtual 181, 176, 0), (5, .aload_n 0, 0, 0), (6, .iload_n 2, 0, 0), (7, .invokevirtual 181, 176, 0), (10, .aload_n 0, 0, 0), (11, .iload_n 3, 0, 0), (12, .invokevirtual 181, 176, 0), (15, .iload_n 1, 0, 0), (16, .iload_n 2, 0, 0), (17, .if_icmp .eq 13, 30, 0),
  (20, .iload_n 1, 0, 0), (21, .iload_n 3, 0, 0), (22, .if_icmp .eq 8, 30, 0), (25, .iload_n 2, 0, 0), (26, .iload_n 3, 0, 0), (27, .if_icmp .ne 14, 41, 0), (30, .new 141, 0, 16), (41, .return_, 0, 0)], 4, 4, false, none, [], 10)
def am_n178 : amN := (yX11_requireThree, cX11_requireThree, [])
def am_h178 : List (List Nat) := [[], [], [1087, 1089, 27, 122, 1090], [], [], [1087, 1089, 27, 122, 1090], [], [], [1087, 1089, 27, 122, 1090], [], [], [], [], [], [], [], [], [], [978, 145], []]
def am_g178 : List (Nat × Nat) := []
def am_m179 : amM := ([(0, .iload_n 1, 0, 0), (1, .ifCond .lt 14, 15, 0), (4, .iload_n 1, 0, 0), (5, .aload_n 0, 0, 0), (6, .getfield 19, 10, 1), (9, .getfield 113, 0, 1), (12, .if_icmp .lt 14, 26, 0), (15, .new 187, 1, 10), (26, .return_, 0, 0)], 2, 2, false, none, [], 10)
def am_n179 : amN := (yX11_requireTriple, cX11_requireTriple, [])
def am_h179 : List (List Nat) := [[], [], [], [], [403], [209], [], [1058, 146], []]
def am_g179 : List (Nat × Nat) := []
def am_m180 : amM := ([(0, .iload_n 1, 0, 0), (1, .ifCond .lt 14, 15, 0), (4, .iload_n 1, 0, 0), (5, .aload_n 0, 0, 0), (6, .getfield 43, 10, 5), (9, .getfield 129, 4, 0), (12, .if_icmp .lt 14, 26, 0), (15, .new 187, 1, 24), (26, .return_, 0, 0)], 2, 2, false, none, [], 10)
def am_n180 : amN := (yX11_requireQuad, cX11_requireQuad, [])
def am_h180 : List (List Nat) := [[], [], [], [], [407], [296], [], [1058, 146], []]
def am_g180 : List (Nat × Nat) := []
def am_m181 : amM := ([(0, .aload_n 0, 0, 0), (1, .iload_n 1, 0, 0), (2, .iload_n 2, 0, 0), (3, .invokevirtual 174, 177, 0), (6, .aload_n 0, 0, 0), (7, .getfield 50, 10, 6), (10, .aload_n 0, 0, 0), (11, .getfield 19, 10, 1), (14, .iload_n 1, 0, 0), (15, .iload_n 2, 0, 0), (16, .invokevirtual 270, 36, 0), (19, .iload_n 3, 0, 0),
  (20, .ifCond .lt 14, 34, 0), (23, .iload_n 3, 0, 0), (24, .aload_n 0, 0, 0), (25, .getfield 50, 10, 6), (28, .getfield 274, 1, 0), (31, .if_icmp .lt 14, 45, 0), (34, .new 281, 3, 28), (45, .return_, 0, 0)], 4, 4, false, none, [], 10)
def am_n181 : amN := (yX11_requireCycle, cX11_requireCycle, [])
def am_h181 : List (List Nat) := [[], [], [], [1102, 1104, 28, 122, 1105], [], [408], [], [403], [], [], [789, 790, 791, 129, 792], [], [], [], [], [408], [315], [], [1271, 149], []]
def am_g181 : List (Nat × Nat) := []
def am_m182 : amM := ([(0, .aload_n 0, 0, 0), (1, .getfield 19, 10, 1), (4, .invokevirtual 125, 23, 0), (7, .ifCond .eq 14, 21, 0), (10, .new 202, 2, 32), (21, .return_, 0, 0)], 1, 1, false, none, [], 10)
def am_n182 : amN := (yX11_requireComplete, cX11_requireComplete, [])
def am_h182 : List (List Nat) := [[], [403], [670, 671, 672, 124, 673], [], [1145, 147], []]
def am_g182 : List (Nat × Nat) := []
def am_m183 : amM := ([(0, .aload_n 0, 0, 0), (1, .iload_n 1, 0, 0), (2, .iload_n 2, 0, 0), (3, .iload_n 3, 0, 0), (4, .invokevirtual 163, 178, 0), (7, .aload_n 0, 0, 0), (8, .invokevirtual 339, 182, 0), (11, .return_, 0, 0)], 4, 4, false, none, [], 10)
def am_n183 : amN := (yX11_requireTrain, cX11_requireTrain, [])
def am_h183 : List (List Nat) := [[], [], [], [], [1083, 1085, 26, 122, 1086], [], [1336, 1338, 34, 122, 1339], []]
def am_g183 : List (Nat × Nat) := []
def am_m184 : amM := ([(0, .aload_n 0, 0, 0), (1, .getfield 36, 10, 4), (4, .aload_n 0, 0, 0), (5, .getfield 19, 10, 1), (8, .aload_n 0, 0, 0), (9, .getfield 29, 10, 3), (12, .invokevirtual 432, 50, 0), (15, .return_, 0, 0)], 1, 1, false, none, [], 10)
def am_n184 : amN := (yX11_remember, cX11_remember, [])
def am_h184 : List (List Nat) := [[], [406], [], [403], [], [405], [683, 684, 685, 126, 686], []]
def am_g184 : List (Nat × Nat) := []
def am_m185 : amM := ([(0, .aload_n 0, 0, 0), (1, .getfield 19, 10, 1), (4, .invokevirtual 435, 18, 0), (7, .aload_n 0, 0, 0), (8, .getfield 43, 10, 5), (11, .aload_n 0, 0, 0), (12, .getfield 19, 10, 1), (15, .invokevirtual 438, 57, 0), (18, .return_, 0, 0)], 1, 1, false, none, [], 10)
def am_n185 : amN := (yX11_settle, cX11_settle, [])
def am_h185 : List (List Nat) := [[], [403], [614, 615, 616, 124, 617], [], [407], [], [403], [633, 634, 635, 128, 636], []]
def am_g185 : List (Nat × Nat) := []
def am_m186 : amM := ([(0, .aload_n 0, 0, 0), (1, .getfield 43, 10, 5), (4, .aload_n 0, 0, 0), (5, .getfield 19, 10, 1), (8, .iload_n 1, 0, 0), (9, .aload_n 0, 0, 0), (10, .getfield 71, 10, 9), (13, .invokevirtual 257, 66, 0), (16, .aload_n 0, 0, 0), (17, .getfield 71, 10, 9), (20, .aload_n 0, 0, 0), (21, .getfield 19, 10, 1),
  (24, .invokevirtual 290, 48, 0), (27, .pop, 0, 0), (28, .aload_n 0, 0, 0), (29, .getfield 29, 10, 3), (32, .dup, 0, 0), (33, .getfield 130, 7, 0), (36, .iconst 1, 0, 0), (37, .iadd, 0, 0), (38, .putfield 130, 7, 0), (41, .aload_n 0, 0, 0), (42, .getfield 29, 10, 3), (45, .dup, 0, 0),
  (46, .getfield 135, 7, 2), (49, .aload_n 0, 0, 0), (50, .getfield 71, 10, 9), (53, .getfield 294, 2, 0), (56, .iadd, 0, 0), (57, .putfield 135, 7, 2), (60, .aload_n 0, 0, 0), (61, .invokevirtual 110, 185, 0), (64, .return_, 0, 0)], 2, 2, false, none, [], 10)
def am_n186 : amN := (yX11_exchangeQuad, cX11_exchangeQuad, [])
def am_h186 : List (List Nat) := [[], [407], [], [403], [], [], [411], [736, 737, 738, 128, 739], [], [411], [], [403], [774, 775, 776, 132, 777], [], [], [405], [], [235], [], [], [235], [], [405], [], [239], [], [411], [374], [], [239], [], [610, 612, 9, 122, 613], []]
def am_g186 : List (Nat × Nat) := []
def am_m187 : amM := ([(0, .aload_n 0, 0, 0), (1, .getfield 43, 10, 5), (4, .aload_n 0, 0, 0), (5, .getfield 19, 10, 1), (8, .iload_n 1, 0, 0), (9, .aload_n 0, 0, 0), (10, .getfield 71, 10, 9), (13, .invokevirtual 257, 66, 0), (16, .aload_n 0, 0, 0), (17, .invokevirtual 261, 188, 0), (20, .ireturn, 0, 0)], 2, 2, false, (some .int), [], 10)
def am_n187 : amN := (yX11_quadsBehindSwitchOf, cX11_quadsBehindSwitchOf, [])
def am_h187 : List (List Nat) := [[], [407], [], [403], [], [], [411], [736, 737, 738, 128, 739], [], [766, 768, 17, 122, 769], []]
def am_g187 : List (Nat × Nat) := []
def am_m188 : amM := ([(0, .aload_n 0, 0, 0), (1, .getfield 23, 10, 2), (4, .aload_n 0, 0, 0), (5, .getfield 19, 10, 1), (8, .invokevirtual 98, 2, 0), (11, .aload_n 0, 0, 0), (12, .getfield 43, 10, 5), (15, .aload_n 0, 0, 0), (16, .getfield 71, 10, 9), (19, .getfield 439, 2, 1), (22, .invokevirtual 247, 63, 0), (25, .istore_n 1, 0, 0),
  (26, .aload_n 0, 0, 0), (27, .getfield 43, 10, 5), (30, .getfield 129, 4, 0), (33, .iload_n 1, 0, 0), (34, .isub, 0, 0), (35, .aload_n 0, 0, 0), (36, .getfield 71, 10, 9), (39, .aload_n 0, 0, 0), (40, .getfield 23, 10, 2), (43, .invokevirtual 290, 48, 0), (46, .iadd, 0, 0), (47, .ireturn, 0, 0)], 2, 1, false, (some .int), [], 10)
def am_n188 : amN := (yX11_quadsBehindExchange, cX11_quadsBehindExchange, [])
def am_h188 : List (List Nat) := [[], [404], [], [403], [595, 596, 597, 124, 598], [], [407], [], [411], [376], [770, 771, 772, 128, 773], [], [], [407], [296], [], [], [], [411], [], [404], [774, 775, 776, 132, 777], [], []]
def am_g188 : List (Nat × Nat) := []
def am_m189 : amM := ([(0, .aload_n 0, 0, 0), (1, .getfield 19, 10, 1), (4, .getfield 122, 0, 0), (7, .aload_n 0, 0, 0), (8, .getfield 19, 10, 1), (11, .iload_n 1, 0, 0), (12, .iload_n 2, 0, 0), (13, .invokevirtual 178, 7, 0), (16, .iconst (-1), 0, 0), (17, .if_icmp .ne 7, 24, 0), (20, .iconst 2, 0, 0), (21, .goto 4, 25, 0),
  (24, .iconst 3, 0, 0), (25, .isub, 0, 0), (26, .istore_n 3, 0, 0), (27, .aload_n 0, 0, 0), (28, .getfield 50, 10, 6), (31, .aload_n 0, 0, 0), (32, .getfield 19, 10, 1), (35, .iload_n 1, 0, 0), (36, .iload_n 2, 0, 0), (37, .invokevirtual 270, 36, 0), (40, .aload_n 0, 0, 0), (41, .getfield 50, 10, 6),
  (44, .getfield 274, 1, 0), (47, .iconst 1, 0, 0), (48, .if_icmp .ne 19, 67, 0), (51, .aload_n 0, 0, 0), (52, .getfield 50, 10, 6), (55, .iconst 0, 0, 0), (56, .invokevirtual 278, 40, 0), (59, .iload_n 3, 0, 0), (60, .if_icmp .ne 7, 67, 0), (63, .iconst 1, 0, 0), (64, .goto 4, 68, 0), (67, .iconst 0, 0, 0),
  (68, .ireturn, 0, 0)], 4, 3, false, (some .boolean), [], 10)
def am_n189 : amN := (yX11_isPerfect, cX11_isPerfect, [])
def am_h189 : List (List Nat) := [[], [403], [204], [], [403], [], [], [854, 619, 620, 124, 621], [], [], [], [], [], [], [], [], [408], [], [403], [], [], [789, 790, 791, 129, 792], [], [408], [315], [], [], [], [408], [], [855, 817, 818, 129, 819], [], [], [], [], [], []]
def am_g189 : List (Nat × Nat) := []
def am_m190 : amM := ([(0, .aload_n 0, 0, 0), (1, .getfield 107, 10, 11), (4, .ifCond .le 9, 13, 0), (7, .aload_n 0, 0, 0), (8, .bipush 32, 0, 0), (10, .invokevirtual 443, 191, 0), (13, .iconst 0, 0, 0), (14, .istore_n 2, 0, 0), (15, .iload_n 2, 0, 0), (16, .iconst 3, 0, 0), (17, .if_icmp .ge 39, 56, 0), (20, .iload_n 1, 0, 0),
  (21, .iload_n 2, 0, 0), (22, .invokestatic 157, 70, 0), (25, .istore_n 3, 0, 0), (26, .aload_n 0, 0, 0), (27, .iload_n 3, 0, 0), (28, .bipush 10, 0, 0), (30, .if_icmp .ge 10, 40, 0), (33, .bipush 48, 0, 0), (35, .iload_n 3, 0, 0), (36, .iadd, 0, 0), (37, .goto 10, 47, 0), (40, .bipush 97, 0, 0),
  (42, .iload_n 3, 0, 0), (43, .iadd, 0, 0), (44, .bipush 10, 0, 0), (46, .isub, 0, 0), (47, .invokevirtual 443, 191, 0), (50, .iinc 2 1, 0, 0), (53, .goto (-38), 15, 0), (56, .return_, 0, 0)], 4, 2, false, none, [], 10)
def am_n190 : amN := (yX11_writeTriple, cX11_writeTriple, [])
def am_h190 : List (List Nat) := [[], [413], [], [], [], [1506, 1508, 41, 122, 1509], [], [], [], [], [], [], [], [1075, 565, 139, 566], [], [], [], [], [], [], [], [], [], [], [], [], [], [], [1506, 1508, 41, 122, 1509], [], [], []]
def am_g190 : List (Nat × Nat) := []
def am_m191 : amM := ([(0, .aload_n 0, 0, 0), (1, .getfield 107, 10, 11), (4, .aload_n 0, 0, 0), (5, .getfield 75, 10, 10), (8, .arraylength, 0, 0), (9, .if_icmp .ge 24, 33, 0), (12, .aload_n 0, 0, 0), (13, .getfield 75, 10, 10), (16, .aload_n 0, 0, 0), (17, .getfield 107, 10, 11), (20, .iload_n 1, 0, 0), (21, .i2b, 0, 0),
  (22, .bastore, 0, 0), (23, .aload_n 0, 0, 0), (24, .dup, 0, 0), (25, .getfield 107, 10, 11), (28, .iconst 1, 0, 0), (29, .iadd, 0, 0), (30, .putfield 107, 10, 11), (33, .return_, 0, 0)], 2, 2, false, none, [], 10)
def am_n191 : amN := (yX11_write, cX11_write, [])
def am_h191 : List (List Nat) := [[], [413], [], [412], [], [], [], [412], [], [413], [], [], [], [], [], [413], [], [], [413], []]
def am_g191 : List (Nat × Nat) := []
def am_m192 : amM := ([(0, .aload_n 0, 0, 0), (1, .invokevirtual 228, 25, 0), (4, .istore_n 2, 0, 0), (5, .iload_n 2, 0, 0), (6, .iconst (-1), 0, 0), (7, .if_icmp .ne 5, 12, 0), (10, .iconst 1, 0, 0), (11, .ireturn, 0, 0), (12, .iload_n 1, 0, 0), (13, .bipush 10, 0, 0), (15, .if_icmp .lt 5, 20, 0), (18, .iconst 0, 0, 0),
  (19, .ireturn, 0, 0), (20, .iload_n 2, 0, 0), (21, .iconst 4, 0, 0), (22, .ishr, 0, 0), (23, .istore_n 3, 0, 0), (24, .iload_n 2, 0, 0), (25, .bipush 15, 0, 0), (27, .iand, 0, 0), (28, .istore 4, 0, 0), (30, .aload_n 0, 0, 0), (31, .iload_n 3, 0, 0), (32, .invokevirtual 446, 8, 0),
  (35, .aload_n 0, 0, 0), (36, .iload 4, 0, 0), (38, .invokevirtual 446, 8, 0), (41, .iand, 0, 0), (42, .istore 5, 0, 0), (44, .iconst 0, 0, 0), (45, .istore 6, 0, 0), (47, .iconst 0, 0, 0), (48, .istore 7, 0, 0), (50, .iload 7, 0, 0), (52, .aload_n 0, 0, 0), (53, .getfield 122, 0, 0),
  (56, .if_icmp .ge 55, 111, 0), (59, .iload 5, 0, 0), (61, .iload 7, 0, 0), (63, .invokestatic 398, 69, 0), (66, .ifCond .eq 39, 105, 0), (69, .aload_n 0, 0, 0), (70, .iload_n 3, 0, 0), (71, .iload 4, 0, 0), (73, .iload 7, 0, 0), (75, .invokestatic 167, 68, 0), (78, .invokevirtual 210, 14, 0), (81, .iload 6, 0, 0),
  (83, .aload_n 0, 0, 0), (84, .iload_n 1, 0, 0), (85, .iconst 1, 0, 0), (86, .iadd, 0, 0), (87, .invokestatic 224, 192, 0), (90, .iadd, 0, 0), (91, .istore 6, 0, 0), (93, .aload_n 0, 0, 0), (94, .iload_n 3, 0, 0), (95, .iload 4, 0, 0), (97, .iload 7, 0, 0), (99, .invokestatic 167, 68, 0),
  (102, .invokevirtual 213, 15, 0), (105, .iinc 7 1, 0, 0), (108, .goto (-58), 50, 0), (111, .iload 6, 0, 0), (113, .ireturn, 0, 0)], 8, 2, false, (some .int), [], 10)
def am_n192 : amN := (yX11_completionsOf, cX11_completionsOf, [])
def am_h192 : List (List Nat) := [[], [711, 712, 713, 124, 714], [], [], [], [], [], [], [], [], [], [], [], [], [], [], [], [], [], [], [], [], [], [716, 574, 575, 124, 576], [], [], [716, 574, 575, 124, 576], [], [], [], [], [], [], [], [], [204], [], [], [], [717, 558, 139, 559], [], [], [], [], [], [718, 627, 139, 628], [719, 587, 588, 124, 589], [], [], [], [], [], [708, 709, 122, 710], [], [], [], [], [], [], [718, 627, 139, 628], [720, 721, 722, 124, 723], [], [], [], []]
def am_g192 : List (Nat × Nat) := []
def am_m193 : amM := ([(0, .iload_n 3, 0, 0), (1, .iconst 5, 0, 0), (2, .if_icmp .lt 5, 7, 0), (5, .iconst 0, 0, 0), (6, .ireturn, 0, 0), (7, .iconst 0, 0, 0), (8, .istore 4, 0, 0), (10, .iload_n 1, 0, 0), (11, .istore 5, 0, 0), (13, .iload 5, 0, 0), (15, .aload_n 0, 0, 0), (16, .getfield 113, 0, 1),
  (19, .if_icmp .ge 48, 67, 0), (22, .aload_n 0, 0, 0), (23, .iload 5, 0, 0), (25, .invokevirtual 153, 9, 0), (28, .istore 6, 0, 0), (30, .iload 6, 0, 0), (32, .iload_n 2, 0, 0), (33, .iand, 0, 0), (34, .ifCond .ne 27, 61, 0), (37, .iload 4, 0, 0), (39, .iconst 1, 0, 0), (40, .aload_n 0, 0, 0),
  (41, .iload 5, 0, 0), (43, .iconst 1, 0, 0), (44, .iadd, 0, 0), (45, .iload_n 2, 0, 0), (46, .iload 6, 0, 0), (48, .ior, 0, 0), (49, .iload_n 3, 0, 0), (50, .iconst 1, 0, 0), (51, .iadd, 0, 0), (52, .invokestatic 386, 193, 0), (55, .iadd, 0, 0), (56, .invokestatic 449, 346, 0),
  (59, .istore 4, 0, 0), (61, .iinc 5 1, 0, 0), (64, .goto (-51), 13, 0), (67, .iload 4, 0, 0), (69, .ireturn, 0, 0)], 7, 4, false, (some .int), [], 10)
def am_n193 : amN := (yX11_mostApartFrom, cX11_mostApartFrom, [])
def am_h193 : List (List Nat) := [[], [], [], [], [], [], [], [], [], [], [], [209], [], [], [], [903, 638, 639, 124, 640], [], [], [], [], [], [], [], [], [], [], [], [], [], [], [], [], [], [940, 941, 122, 942], [], [943, 396, 133, 397], [], [], [], [], []]
def am_g193 : List (Nat × Nat) := []
def am_m194 : amM := ([(0, .aload_n 0, 0, 0), (1, .invokespecial 1, 0, 5), (4, .aload_n 0, 0, 0), (5, .sipush 229, 0, 0), (8, .newarray .int, 0, 0), (10, .putfield 7, 11, 0), (13, .aload_n 0, 0, 0), (14, .sipush 229, 0, 0), (17, .newarray .int, 0, 0), (19, .putfield 13, 11, 1), (22, .aload_n 0, 0, 0), (23, .sipush 229, 0, 0),
  (26, .newarray .int, 0, 0), (28, .putfield 16, 11, 2), (31, .aload_n 0, 0, 0), (32, .sipush 229, 0, 0), (35, .newarray .int, 0, 0), (37, .putfield 19, 11, 3), (40, .aload_n 0, 0, 0), (41, .sipush 2290, 0, 0), (44, .newarray .int, 0, 0), (46, .putfield 22, 11, 4), (49, .aload_n 0, 0, 0), (50, .bipush 35, 0, 0),
  (52, .newarray .int, 0, 0), (54, .putfield 25, 11, 8), (57, .aload_n 0, 0, 0), (58, .bipush 35, 0, 0), (60, .newarray .int, 0, 0), (62, .putfield 28, 11, 9), (65, .aload_n 0, 0, 0), (66, .bipush 35, 0, 0), (68, .newarray .int, 0, 0), (70, .putfield 31, 11, 10), (73, .aload_n 0, 0, 0), (74, .bipush 35, 0, 0),
  (76, .newarray .int, 0, 0), (78, .putfield 34, 11, 11), (81, .aload_n 0, 0, 0), (82, .sipush 800, 0, 0), (85, .newarray .int, 0, 0), (87, .putfield 37, 11, 13), (90, .aload_n 0, 0, 0), (91, .bipush 24, 0, 0), (93, .newarray .int, 0, 0), (95, .putfield 40, 11, 15), (98, .aload_n 0, 0, 0), (99, .bipush 15, 0, 0),
  (101, .newarray .int, 0, 0), (103, .putfield 43, 11, 16), (106, .aload_n 0, 0, 0), (107, .sipush 400, 0, 0), (110, .newarray .long, 0, 0), (112, .putfield 46, 11, 18), (115, .aload_n 0, 0, 0), (116, .sipush 600, 0, 0), (119, .newarray .int, 0, 0), (121, .putfield 50, 11, 20), (124, .aload_n 0, 0, 0), (125, .iconst (-1), 0, 0),
  (126, .putfield 53, 11, 23), (129, .aload_n 0, 0, 0), (130, .iconst 3, 0, 0), (131, .newarray .int, 0, 0), (133, .putfield 57, 11, 30), (136, .aload_n 0, 0, 0), (137, .bipush 30, 0, 0), (139, .newarray .int, 0, 0), (141, .putfield 60, 11, 31), (144, .aload_n 0, 0, 0), (145, .iconst 3, 0, 0), (146, .invokevirtual 63, 199, 0),
  (149, .return_, 0, 0)], 1, 1, true, none, [], 11)
def am_n194 : amN := (yX12_init, cX12_init, [])
def am_h194 : List (List Nat) := [[], [1527, 156, 157], [], [], [227], [1532], [], [], [227], [1533], [], [], [227], [1534], [], [], [227], [1535], [], [], [227], [1536], [], [], [227], [1540], [], [], [227], [1541], [], [], [227], [1542], [], [], [227], [1543], [], [], [227], [1545], [], [], [227], [1547], [], [], [227], [1548], [], [], [306], [1550], [], [], [227], [1552], [], [], [1555], [], [], [227], [1562], [], [], [227], [1563], [], [], [1528, 1530, 42, 134, 1531], []]
def am_g194 : List (Nat × Nat) := []
def am_m196 : amM := ([(0, .iload_n 0, 0, 0), (1, .iload_n 1, 0, 0), (2, .if_icmp .lt 12, 14, 0), (5, .iload_n 0, 0, 0), (6, .iload_n 2, 0, 0), (7, .if_icmp .gt 7, 14, 0), (10, .iconst 1, 0, 0), (11, .goto 4, 15, 0), (14, .iconst 0, 0, 0), (15, .ireturn, 0, 0)], 3, 3, false, (some .boolean), [], 11)
def am_n196 : amN := (yX12_inRange, cX12_inRange, [])
def am_h196 : List (List Nat) := [[], [], [], [], [], [], [], [], [], []]
def am_g196 : List (Nat × Nat) := []
def am_m197 : amM := ([(0, .iload_n 1, 0, 0), (1, .ifCond .eq 8, 9, 0), (4, .aload_n 0, 0, 0), (5, .iload_n 2, 0, 0), (6, .putfield 67, 11, 7), (9, .iload_n 1, 0, 0), (10, .ireturn, 0, 0)], 3, 3, false, (some .boolean), [], 11)
def am_n197 : amN := (yX12_fails, cX12_fails, [])
def am_h197 : List (List Nat) := [[], [], [], [], [1539], [], []]
def am_g197 : List (Nat × Nat) := []
def am_m198 : amM := ([(0, .iconst 0, 0, 0), (1, .istore 5, 0, 0), (3, .iload 5, 0, 0), (5, .iload 4, 0, 0), (7, .if_icmp .ge 21, 28, 0), (10, .aload_n 2, 0, 0), (11, .iload_n 3, 0, 0), (12, .iload 5, 0, 0), (14, .iadd, 0, 0), (15, .aload_n 0, 0, 0), (16, .iload_n 1, 0, 0), (17, .iload 5, 0, 0),
  (19, .iadd, 0, 0), (20, .iaload, 0, 0), (21, .iastore, 0, 0), (22, .iinc 5 1, 0, 0), (25, .goto (-22), 3, 0), (28, .return_, 0, 0)], 6, 5, false, none, [], 11)
def am_n198 : amN := (yX12_copies, cX12_copies, [])
def am_h198 : List (List Nat) := [[], [], [], [], [], [], [], [], [], [], [], [], [], [], [], [], [], []]
def am_g198 : List (Nat × Nat) := []
def am_m199 : amM := ([(0, .iconst 0, 0, 0), (1, .istore_n 2, 0, 0), (2, .iload_n 2, 0, 0), (3, .sipush 229, 0, 0), (6, .if_icmp .ge 25, 31, 0), (9, .aload_n 0, 0, 0), (10, .getfield 7, 11, 0), (13, .iload_n 2, 0, 0), (14, .iload_n 2, 0, 0), (15, .iconst 4, 0, 0), (16, .if_icmp .ge 7, 23, 0), (19, .iconst 0, 0, 0),
  (20, .goto 4, 24, 0), (23, .iconst (-1), 0, 0), (24, .iastore, 0, 0), (25, .iinc 2 1, 0, 0), (28, .goto (-26), 2, 0), (31, .aload_n 0, 0, 0), (32, .getfield 7, 11, 0), (35, .iconst 0, 0, 0), (36, .iload_n 1, 0, 0), (37, .iastore, 0, 0), (38, .return_, 0, 0)], 3, 2, false, none, [], 11)
def am_n199 : amN := (yX12_empties, cX12_empties, [])
def am_h199 : List (List Nat) := [[], [], [], [], [], [], [1532], [], [], [], [], [], [], [], [], [], [], [], [1532], [], [], [], []]
def am_g199 : List (Nat × Nat) := []
def am_m200 : amM := ([(0, .aload_n 0, 0, 0), (1, .getfield 70, 11, 5), (4, .bipush 10, 0, 0), (6, .if_icmp .ne 31, 37, 0), (9, .aload_n 0, 0, 0), (10, .getfield 22, 11, 4), (13, .sipush 229, 0, 0), (16, .aload_n 0, 0, 0), (17, .getfield 22, 11, 4), (20, .iconst 0, 0, 0), (21, .sipush 2061, 0, 0), (24, .invokestatic 73, 198, 0),
  (27, .aload_n 0, 0, 0), (28, .dup, 0, 0), (29, .getfield 70, 11, 5), (32, .iconst 1, 0, 0), (33, .isub, 0, 0), (34, .putfield 70, 11, 5), (37, .aload_n 0, 0, 0), (38, .getfield 7, 11, 0), (41, .iconst 0, 0, 0), (42, .aload_n 0, 0, 0), (43, .getfield 22, 11, 4), (46, .sipush 229, 0, 0),
  (49, .aload_n 0, 0, 0), (50, .getfield 70, 11, 5), (53, .imul, 0, 0), (54, .sipush 229, 0, 0), (57, .invokestatic 73, 198, 0), (60, .aload_n 0, 0, 0), (61, .dup, 0, 0), (62, .getfield 70, 11, 5), (65, .iconst 1, 0, 0), (66, .iadd, 0, 0), (67, .putfield 70, 11, 5), (70, .return_, 0, 0)], 1, 1, false, none, [], 11)
def am_n200 : amN := (yX12_remembers, cX12_remembers, [])
def am_h200 : List (List Nat) := [[], [1537], [], [], [], [1536], [], [], [1536], [], [], [1651, 1652, 134, 1653], [], [], [1537], [], [], [1537], [], [1532], [], [], [1536], [], [], [1537], [], [], [1651, 1652, 134, 1653], [], [], [1537], [], [], [1537], []]
def am_g200 : List (Nat × Nat) := []
def am_m201 : amM := ([(0, .aload_n 0, 0, 0), (1, .getfield 7, 11, 0), (4, .iconst 0, 0, 0), (5, .aload_n 0, 0, 0), (6, .getfield 16, 11, 2), (9, .iconst 0, 0, 0), (10, .sipush 229, 0, 0), (13, .invokestatic 73, 198, 0), (16, .return_, 0, 0)], 1, 1, false, none, [], 11)
def am_n201 : amN := (yX12_begins, cX12_begins, [])
def am_h201 : List (List Nat) := [[], [1532], [], [], [1534], [], [], [1651, 1652, 134, 1653], []]
def am_g201 : List (Nat × Nat) := []
def am_m202 : amM := ([(0, .aload_n 0, 0, 0), (1, .getfield 16, 11, 2), (4, .iconst 0, 0, 0), (5, .aload_n 0, 0, 0), (6, .getfield 7, 11, 0), (9, .iconst 0, 0, 0), (10, .sipush 229, 0, 0), (13, .invokestatic 73, 198, 0), (16, .return_, 0, 0)], 1, 1, false, none, [], 11)
def am_n202 : amN := (yX12_ends, cX12_ends, [])
def am_h202 : List (List Nat) := [[], [1534], [], [], [1532], [], [], [1651, 1652, 134, 1653], []]
def am_g202 : List (Nat × Nat) := []
def am_m203 : amM := ([(0, .aload_n 0, 0, 0), (1, .getfield 7, 11, 0), (4, .iconst 0, 0, 0), (5, .iaload, 0, 0), (6, .ireturn, 0, 0)], 1, 1, false, (some .int), [], 11)
def am_n203 : amN := (yX12_points, cX12_points, [])
def am_h203 : List (List Nat) := [[], [1532], [], [], []]
def am_g203 : List (Nat × Nat) := []
def am_m204 : amM := ([(0, .aload_n 0, 0, 0), (1, .getfield 7, 11, 0), (4, .iconst 4, 0, 0), (5, .bipush 15, 0, 0), (7, .iload_n 1, 0, 0), (8, .imul, 0, 0), (9, .iadd, 0, 0), (10, .iload_n 2, 0, 0), (11, .iadd, 0, 0), (12, .iaload, 0, 0), (13, .ireturn, 0, 0)], 3, 3, false, (some .int), [], 11)
def am_n204 : amN := (yX12_thirdOf, cX12_thirdOf, [])
def am_h204 : List (List Nat) := [[], [1532], [], [], [], [], [], [], [], [], []]
def am_g204 : List (Nat × Nat) := []
def am_m205 : amM := ([(0, .aload_n 0, 0, 0), (1, .getfield 7, 11, 0), (4, .iconst 4, 0, 0), (5, .bipush 15, 0, 0), (7, .iload_n 1, 0, 0), (8, .imul, 0, 0), (9, .iadd, 0, 0), (10, .iload_n 2, 0, 0), (11, .iadd, 0, 0), (12, .iload_n 3, 0, 0), (13, .iastore, 0, 0), (14, .aload_n 0, 0, 0),
  (15, .getfield 7, 11, 0), (18, .iconst 4, 0, 0), (19, .bipush 15, 0, 0), (21, .iload_n 2, 0, 0), (22, .imul, 0, 0), (23, .iadd, 0, 0), (24, .iload_n 1, 0, 0), (25, .iadd, 0, 0), (26, .iload_n 3, 0, 0), (27, .iastore, 0, 0), (28, .return_, 0, 0)], 4, 4, false, none, [], 11)
def am_n205 : amN := (yX12_lays, cX12_lays, [])
def am_h205 : List (List Nat) := [[], [1532], [], [], [], [], [], [], [], [], [], [], [1532], [], [], [], [], [], [], [], [], [], []]
def am_g205 : List (Nat × Nat) := []
def am_m206 : amM := ([(0, .aload_n 0, 0, 0), (1, .iload_n 1, 0, 0), (2, .iload_n 2, 0, 0), (3, .iload_n 3, 0, 0), (4, .invokevirtual 77, 205, 0), (7, .aload_n 0, 0, 0), (8, .iload_n 2, 0, 0), (9, .iload_n 3, 0, 0), (10, .iload_n 1, 0, 0), (11, .invokevirtual 77, 205, 0), (14, .aload_n 0, 0, 0), (15, .iload_n 1, 0, 0),
  (16, .iload_n 3, 0, 0), (17, .iload_n 2, 0, 0), (18, .invokevirtual 77, 205, 0), (21, .return_, 0, 0)], 4, 4, false, none, [], 11)
def am_n206 : amN := (yX12_puts, cX12_puts, [])
def am_h206 : List (List Nat) := [[], [], [], [], [1730, 1732, 62, 134, 1733], [], [], [], [], [1730, 1732, 62, 134, 1733], [], [], [], [], [1730, 1732, 62, 134, 1733], []]
def am_g206 : List (Nat × Nat) := []
def am_m207 : amM := ([(0, .aload_n 0, 0, 0), (1, .iload_n 1, 0, 0), (2, .iload_n 2, 0, 0), (3, .iconst (-1), 0, 0), (4, .invokevirtual 77, 205, 0), (7, .aload_n 0, 0, 0), (8, .iload_n 2, 0, 0), (9, .iload_n 3, 0, 0), (10, .iconst (-1), 0, 0), (11, .invokevirtual 77, 205, 0), (14, .aload_n 0, 0, 0), (15, .iload_n 1, 0, 0),
  (16, .iload_n 3, 0, 0), (17, .iconst (-1), 0, 0), (18, .invokevirtual 77, 205, 0), (21, .return_, 0, 0)], 4, 4, false, none, [], 11)
def am_n207 : amN := (yX12_takes, cX12_takes, [])
def am_h207 : List (List Nat) := [[], [], [], [], [1730, 1732, 62, 134, 1733], [], [], [], [], [1730, 1732, 62, 134, 1733], [], [], [], [], [1730, 1732, 62, 134, 1733], []]
def am_g207 : List (Nat × Nat) := []
def am_m208 : amM := ([(0, .aload_n 0, 0, 0), (1, .iload_n 1, 0, 0), (2, .iload_n 2, 0, 0), (3, .invokevirtual 81, 204, 0), (6, .iconst (-1), 0, 0), (7, .if_icmp .ne 7, 14, 0), (10, .iconst 0, 0, 0), (11, .goto 4, 15, 0), (14, .iconst 1, 0, 0), (15, .ireturn, 0, 0)], 3, 3, false, (some .int), [], 11)
def am_n208 : amN := (yX12_coveredOf, cX12_coveredOf, [])
def am_h208 : List (List Nat) := [[], [], [], [1722, 1724, 60, 134, 1725], [], [], [], [], [], []]
def am_g208 : List (Nat × Nat) := []
def am_m209 : amM := ([(0, .aload_n 0, 0, 0), (1, .iload_n 1, 0, 0), (2, .iload_n 2, 0, 0), (3, .invokevirtual 85, 208, 0), (6, .aload_n 0, 0, 0), (7, .iload_n 2, 0, 0), (8, .iload_n 3, 0, 0), (9, .invokevirtual 85, 208, 0), (12, .iadd, 0, 0), (13, .aload_n 0, 0, 0), (14, .iload_n 1, 0, 0), (15, .iload_n 3, 0, 0),
  (16, .invokevirtual 85, 208, 0), (19, .iadd, 0, 0), (20, .ireturn, 0, 0)], 4, 4, false, (some .int), [], 11)
def am_n209 : amN := (yX12_coveredIn, cX12_coveredIn, [])
def am_h209 : List (List Nat) := [[], [], [], [1718, 1720, 59, 134, 1721], [], [], [], [1718, 1720, 59, 134, 1721], [], [], [], [], [1718, 1720, 59, 134, 1721], [], []]
def am_g209 : List (Nat × Nat) := []
def am_m210 : amM := ([(0, .aload_n 0, 0, 0), (1, .iload_n 1, 0, 0), (2, .iload_n 2, 0, 0), (3, .iload_n 3, 0, 0), (4, .invokevirtual 88, 209, 0), (7, .ifCond .ne 7, 14, 0), (10, .iconst 1, 0, 0), (11, .goto 4, 15, 0), (14, .iconst 0, 0, 0), (15, .ireturn, 0, 0)], 4, 4, false, (some .boolean), [], 11)
def am_n210 : amN := (yX12_isFree, cX12_isFree, [])
def am_h210 : List (List Nat) := [[], [], [], [], [1714, 1716, 58, 134, 1717], [], [], [], [], []]
def am_g210 : List (Nat × Nat) := []
def am_m211 : amM := ([(0, .aload_n 0, 0, 0), (1, .iconst 0, 0, 0), (2, .putfield 92, 11, 12), (5, .iconst 0, 0, 0), (6, .istore_n 1, 0, 0), (7, .iload_n 1, 0, 0), (8, .aload_n 0, 0, 0), (9, .invokevirtual 95, 203, 0), (12, .if_icmp .ge 102, 114, 0), (15, .iload_n 1, 0, 0), (16, .iconst 1, 0, 0), (17, .iadd, 0, 0),
  (18, .istore_n 2, 0, 0), (19, .iload_n 2, 0, 0), (20, .aload_n 0, 0, 0), (21, .invokevirtual 95, 203, 0), (24, .if_icmp .ge 84, 108, 0), (27, .aload_n 0, 0, 0), (28, .iload_n 1, 0, 0), (29, .iload_n 2, 0, 0), (30, .invokevirtual 81, 204, 0), (33, .istore_n 3, 0, 0), (34, .iload_n 3, 0, 0), (35, .iload_n 2, 0, 0),
  (36, .if_icmp .ge 6, 42, 0), (39, .goto 63, 102, 0), (42, .aload_n 0, 0, 0), (43, .getfield 25, 11, 8), (46, .aload_n 0, 0, 0), (47, .getfield 92, 11, 12), (50, .iload_n 1, 0, 0), (51, .iastore, 0, 0), (52, .aload_n 0, 0, 0), (53, .getfield 28, 11, 9), (56, .aload_n 0, 0, 0), (57, .getfield 92, 11, 12),
  (60, .iload_n 2, 0, 0), (61, .iastore, 0, 0), (62, .aload_n 0, 0, 0), (63, .getfield 31, 11, 10), (66, .aload_n 0, 0, 0), (67, .getfield 92, 11, 12), (70, .iload_n 3, 0, 0), (71, .iastore, 0, 0), (72, .aload_n 0, 0, 0), (73, .getfield 34, 11, 11), (76, .aload_n 0, 0, 0), (77, .getfield 92, 11, 12),
  (80, .iconst 1, 0, 0), (81, .iload_n 1, 0, 0), (82, .ishl, 0, 0), (83, .iconst 1, 0, 0), (84, .iload_n 2, 0, 0), (85, .ishl, 0, 0), (86, .ior, 0, 0), (87, .iconst 1, 0, 0), (88, .iload_n 3, 0, 0), (89, .ishl, 0, 0), (90, .ior, 0, 0), (91, .iastore, 0, 0),
  (92, .aload_n 0, 0, 0), (93, .dup, 0, 0), (94, .getfield 92, 11, 12), (97, .iconst 1, 0, 0), (98, .iadd, 0, 0), (99, .putfield 92, 11, 12), (102, .iinc 2 1, 0, 0), (105, .goto (-86), 19, 0), (108, .iinc 1 1, 0, 0), (111, .goto (-104), 7, 0), (114, .return_, 0, 0)], 4, 1, false, none, [], 11)
def am_n211 : amN := (yX12_laysTriples, cX12_laysTriples, [])
def am_h211 : List (List Nat) := [[], [], [1544], [], [], [], [], [1698, 1700, 54, 134, 1701], [], [], [], [], [], [], [], [1698, 1700, 54, 134, 1701], [], [], [], [], [1722, 1724, 60, 134, 1725], [], [], [], [], [], [], [1540], [], [1544], [], [], [], [1541], [], [1544], [], [], [], [1542], [], [1544], [], [], [], [1543], [], [1544], [], [], [], [], [], [], [], [], [], [], [], [], [], [], [1544], [], [], [1544], [], [], [], [], []]
def am_g211 : List (Nat × Nat) := []
def am_m212 : amM := ([(0, .iconst 0, 0, 0), (1, .istore_n 2, 0, 0), (2, .iload_n 2, 0, 0), (3, .aload_n 0, 0, 0), (4, .getfield 92, 11, 12), (7, .if_icmp .ge 21, 28, 0), (10, .aload_n 0, 0, 0), (11, .getfield 34, 11, 11), (14, .iload_n 2, 0, 0), (15, .iaload, 0, 0), (16, .iload_n 1, 0, 0), (17, .if_icmp .ne 5, 22, 0),
  (20, .iload_n 2, 0, 0), (21, .ireturn, 0, 0), (22, .iinc 2 1, 0, 0), (25, .goto (-23), 2, 0), (28, .iconst (-1), 0, 0), (29, .ireturn, 0, 0)], 3, 2, false, (some .int), [], 11)
def am_n212 : amN := (yX12_numberOf, cX12_numberOf, [])
def am_h212 : List (List Nat) := [[], [], [], [], [1544], [], [], [1543], [], [], [], [], [], [], [], [], [], []]
def am_g212 : List (Nat × Nat) := []
def am_m213 : amM := ([(0, .aload_n 0, 0, 0), (1, .invokevirtual 99, 211, 0), (4, .aload_n 0, 0, 0), (5, .getfield 92, 11, 12), (8, .ireturn, 0, 0)], 1, 1, false, (some .int), [], 11)
def am_n213 : amN := (yX12_triplesMany, cX12_triplesMany, [])
def am_h213 : List (List Nat) := [[], [1739, 1741, 64, 134, 1742], [], [1544], []]
def am_g213 : List (Nat × Nat) := []
def am_m214 : amM := ([(0, .aload_n 0, 0, 0), (1, .invokevirtual 95, 203, 0), (4, .aload_n 0, 0, 0), (5, .invokevirtual 95, 203, 0), (8, .iconst 1, 0, 0), (9, .isub, 0, 0), (10, .imul, 0, 0), (11, .iconst 2, 0, 0), (12, .idiv, 0, 0), (13, .ireturn, 0, 0)], 1, 1, false, (some .int), [], 11)
def am_n214 : amN := (yX12_pairsMany, cX12_pairsMany, [])
def am_h214 : List (List Nat) := [[], [1698, 1700, 54, 134, 1701], [], [1698, 1700, 54, 134, 1701], [], [], [], [], [], []]
def am_g214 : List (Nat × Nat) := []
def am_m215 : amM := ([(0, .aload_n 0, 0, 0), (1, .invokevirtual 102, 214, 0), (4, .iconst 3, 0, 0), (5, .aload_n 0, 0, 0), (6, .invokevirtual 105, 213, 0), (9, .imul, 0, 0), (10, .isub, 0, 0), (11, .ireturn, 0, 0)], 1, 1, false, (some .int), [], 11)
def am_n215 : amN := (yX12_uncoveredMany, cX12_uncoveredMany, [])
def am_h215 : List (List Nat) := [[], [1763, 1765, 67, 134, 1766], [], [], [1735, 1737, 63, 134, 1738], [], [], []]
def am_g215 : List (Nat × Nat) := []
def am_m216 : amM := ([(0, .aload_n 0, 0, 0), (1, .invokevirtual 99, 211, 0), (4, .aload_n 0, 0, 0), (5, .iconst 0, 0, 0), (6, .putfield 108, 11, 14), (9, .iconst 0, 0, 0), (10, .istore_n 1, 0, 0), (11, .iload_n 1, 0, 0), (12, .aload_n 0, 0, 0), (13, .getfield 92, 11, 12), (16, .if_icmp .ge 122, 138, 0), (19, .iload_n 1, 0, 0),
  (20, .iconst 1, 0, 0), (21, .iadd, 0, 0), (22, .istore_n 2, 0, 0), (23, .iload_n 2, 0, 0), (24, .aload_n 0, 0, 0), (25, .getfield 92, 11, 12), (28, .if_icmp .ge 104, 132, 0), (31, .aload_n 0, 0, 0), (32, .getfield 34, 11, 11), (35, .iload_n 1, 0, 0), (36, .iaload, 0, 0), (37, .aload_n 0, 0, 0),
  (38, .getfield 34, 11, 11), (41, .iload_n 2, 0, 0), (42, .iaload, 0, 0), (43, .iand, 0, 0), (44, .ifCond .ne 6, 50, 0), (47, .goto 79, 126, 0), (50, .iload_n 2, 0, 0), (51, .iconst 1, 0, 0), (52, .iadd, 0, 0), (53, .istore_n 3, 0, 0), (54, .iload_n 3, 0, 0), (55, .aload_n 0, 0, 0),
  (56, .getfield 92, 11, 12), (59, .if_icmp .ge 67, 126, 0), (62, .aload_n 0, 0, 0), (63, .getfield 34, 11, 11), (66, .iload_n 1, 0, 0), (67, .iaload, 0, 0), (68, .aload_n 0, 0, 0), (69, .getfield 34, 11, 11), (72, .iload_n 2, 0, 0), (73, .iaload, 0, 0), (74, .ixor, 0, 0), (75, .aload_n 0, 0, 0),
  (76, .getfield 34, 11, 11), (79, .iload_n 3, 0, 0), (80, .iaload, 0, 0), (81, .ixor, 0, 0), (82, .istore 4, 0, 0), (84, .aload_n 0, 0, 0), (85, .iload 4, 0, 0), (87, .invokevirtual 111, 221, 0), (90, .ifCond .eq 12, 102, 0), (93, .aload_n 0, 0, 0), (94, .iload 4, 0, 0), (96, .invokevirtual 115, 212, 0),
  (99, .goto 4, 103, 0), (102, .iconst (-1), 0, 0), (103, .istore 5, 0, 0), (105, .iload 5, 0, 0), (107, .iload_n 3, 0, 0), (108, .if_icmp .le 12, 120, 0), (111, .aload_n 0, 0, 0), (112, .iload_n 1, 0, 0), (113, .iload_n 2, 0, 0), (114, .iload_n 3, 0, 0), (115, .iload 5, 0, 0), (117, .invokevirtual 119, 217, 0),
  (120, .iinc 3 1, 0, 0), (123, .goto (-69), 54, 0), (126, .iinc 2 1, 0, 0), (129, .goto (-106), 23, 0), (132, .iinc 1 1, 0, 0), (135, .goto (-124), 11, 0), (138, .return_, 0, 0)], 6, 1, false, none, [], 11)
def am_n216 : amN := (yX12_laysQuads, cX12_laysQuads, [])
def am_h216 : List (List Nat) := [[], [1739, 1741, 64, 134, 1742], [], [], [1546], [], [], [], [], [1544], [], [], [], [], [], [], [], [1544], [], [], [1543], [], [], [], [1543], [], [], [], [], [], [], [], [], [], [], [], [1544], [], [], [1543], [], [], [], [1543], [], [], [], [], [1543], [], [], [], [], [], [], [1775, 1777, 70, 134, 1778], [], [], [], [1784, 1786, 71, 134, 1787], [], [], [], [], [], [], [], [], [], [], [], [1788, 1790, 72, 134, 1791], [], [], [], [], [], [], []]
def am_g216 : List (Nat × Nat) := []
def am_m217 : amM := ([(0, .aload_n 0, 0, 0), (1, .getfield 108, 11, 14), (4, .sipush 200, 0, 0), (7, .if_icmp .ne 4, 11, 0), (10, .return_, 0, 0), (11, .aload_n 0, 0, 0), (12, .getfield 37, 11, 13), (15, .iconst 4, 0, 0), (16, .aload_n 0, 0, 0), (17, .getfield 108, 11, 14), (20, .imul, 0, 0), (21, .iload_n 1, 0, 0),
  (22, .iastore, 0, 0), (23, .aload_n 0, 0, 0), (24, .getfield 37, 11, 13), (27, .iconst 4, 0, 0), (28, .aload_n 0, 0, 0), (29, .getfield 108, 11, 14), (32, .imul, 0, 0), (33, .iconst 1, 0, 0), (34, .iadd, 0, 0), (35, .iload_n 2, 0, 0), (36, .iastore, 0, 0), (37, .aload_n 0, 0, 0),
  (38, .getfield 37, 11, 13), (41, .iconst 4, 0, 0), (42, .aload_n 0, 0, 0), (43, .getfield 108, 11, 14), (46, .imul, 0, 0), (47, .iconst 2, 0, 0), (48, .iadd, 0, 0), (49, .iload_n 3, 0, 0), (50, .iastore, 0, 0), (51, .aload_n 0, 0, 0), (52, .getfield 37, 11, 13), (55, .iconst 4, 0, 0),
  (56, .aload_n 0, 0, 0), (57, .getfield 108, 11, 14), (60, .imul, 0, 0), (61, .iconst 3, 0, 0), (62, .iadd, 0, 0), (63, .iload 4, 0, 0), (65, .iastore, 0, 0), (66, .aload_n 0, 0, 0), (67, .dup, 0, 0), (68, .getfield 108, 11, 14), (71, .iconst 1, 0, 0), (72, .iadd, 0, 0),
  (73, .putfield 108, 11, 14), (76, .return_, 0, 0)], 5, 5, false, none, [], 11)
def am_n217 : amN := (yX12_addsQuad, cX12_addsQuad, [])
def am_h217 : List (List Nat) := [[], [1546], [], [], [], [], [1545], [], [], [1546], [], [], [], [], [1545], [], [], [1546], [], [], [], [], [], [], [1545], [], [], [1546], [], [], [], [], [], [], [1545], [], [], [1546], [], [], [], [], [], [], [], [1546], [], [], [1546], []]
def am_g217 : List (Nat × Nat) := []
def am_m218 : amM := ([(0, .aload_n 0, 0, 0), (1, .getfield 34, 11, 11), (4, .aload_n 0, 0, 0), (5, .getfield 37, 11, 13), (8, .iconst 4, 0, 0), (9, .iload_n 1, 0, 0), (10, .imul, 0, 0), (11, .iaload, 0, 0), (12, .iaload, 0, 0), (13, .aload_n 0, 0, 0), (14, .getfield 34, 11, 11), (17, .aload_n 0, 0, 0),
  (18, .getfield 37, 11, 13), (21, .iconst 4, 0, 0), (22, .iload_n 1, 0, 0), (23, .imul, 0, 0), (24, .iconst 1, 0, 0), (25, .iadd, 0, 0), (26, .iaload, 0, 0), (27, .iaload, 0, 0), (28, .ior, 0, 0), (29, .aload_n 0, 0, 0), (30, .getfield 34, 11, 11), (33, .aload_n 0, 0, 0),
  (34, .getfield 37, 11, 13), (37, .iconst 4, 0, 0), (38, .iload_n 1, 0, 0), (39, .imul, 0, 0), (40, .iconst 2, 0, 0), (41, .iadd, 0, 0), (42, .iaload, 0, 0), (43, .iaload, 0, 0), (44, .ior, 0, 0), (45, .aload_n 0, 0, 0), (46, .getfield 34, 11, 11), (49, .aload_n 0, 0, 0),
  (50, .getfield 37, 11, 13), (53, .iconst 4, 0, 0), (54, .iload_n 1, 0, 0), (55, .imul, 0, 0), (56, .iconst 3, 0, 0), (57, .iadd, 0, 0), (58, .iaload, 0, 0), (59, .iaload, 0, 0), (60, .ior, 0, 0), (61, .ireturn, 0, 0)], 2, 2, false, (some .int), [], 11)
def am_n218 : amN := (yX12_quadPoints, cX12_quadPoints, [])
def am_h218 : List (List Nat) := [[], [1543], [], [1545], [], [], [], [], [], [], [1543], [], [1545], [], [], [], [], [], [], [], [], [], [1543], [], [1545], [], [], [], [], [], [], [], [], [], [1543], [], [1545], [], [], [], [], [], [], [], [], []]
def am_g218 : List (Nat × Nat) := []
def am_m219 : amM := ([(0, .aload_n 0, 0, 0), (1, .iload_n 1, 0, 0), (2, .invokevirtual 123, 218, 0), (5, .iconst 1, 0, 0), (6, .iload_n 2, 0, 0), (7, .ishl, 0, 0), (8, .iconst (-1), 0, 0), (9, .ixor, 0, 0), (10, .iand, 0, 0), (11, .istore_n 3, 0, 0), (12, .iconst 0, 0, 0), (13, .istore 4, 0, 0),
  (15, .iload 4, 0, 0), (17, .iconst 4, 0, 0), (18, .if_icmp .ge 44, 62, 0), (21, .aload_n 0, 0, 0), (22, .getfield 34, 11, 11), (25, .aload_n 0, 0, 0), (26, .getfield 37, 11, 13), (29, .iconst 4, 0, 0), (30, .iload_n 1, 0, 0), (31, .imul, 0, 0), (32, .iload 4, 0, 0), (34, .iadd, 0, 0),
  (35, .iaload, 0, 0), (36, .iaload, 0, 0), (37, .istore 5, 0, 0), (39, .iload 5, 0, 0), (41, .iload_n 2, 0, 0), (42, .ishr, 0, 0), (43, .iconst 1, 0, 0), (44, .iand, 0, 0), (45, .iconst 1, 0, 0), (46, .if_icmp .ne 10, 56, 0), (49, .iload_n 3, 0, 0), (50, .iload 5, 0, 0),
  (52, .iconst (-1), 0, 0), (53, .ixor, 0, 0), (54, .iand, 0, 0), (55, .istore_n 3, 0, 0), (56, .iinc 4 1, 0, 0), (59, .goto (-44), 15, 0), (62, .iload_n 3, 0, 0), (63, .invokestatic 126, 342, 0), (66, .ireturn, 0, 0)], 6, 3, false, (some .int), [], 11)
def am_n219 : amN := (yX12_oppositeOf, cX12_oppositeOf, [])
def am_h219 : List (List Nat) := [[], [], [1935, 1937, 89, 134, 1938], [], [], [], [], [], [], [], [], [], [], [], [], [], [1543], [], [1545], [], [], [], [], [], [], [], [], [], [], [], [], [], [], [], [], [], [], [], [], [], [], [], [], [1780, 1781, 140, 1782], []]
def am_g219 : List (Nat × Nat) := []
def am_m220 : amM := ([(0, .iconst 0, 0, 0), (1, .istore_n 2, 0, 0), (2, .iload_n 2, 0, 0), (3, .iconst 4, 0, 0), (4, .if_icmp .ge 135, 139, 0), (7, .aload_n 0, 0, 0), (8, .getfield 37, 11, 13), (11, .iconst 4, 0, 0), (12, .iload_n 1, 0, 0), (13, .imul, 0, 0), (14, .iload_n 2, 0, 0), (15, .iadd, 0, 0),
  (16, .iaload, 0, 0), (17, .istore_n 3, 0, 0), (18, .aload_n 0, 0, 0), (19, .getfield 40, 11, 15), (22, .bipush 6, 0, 0), (24, .iload_n 2, 0, 0), (25, .imul, 0, 0), (26, .aload_n 0, 0, 0), (27, .getfield 25, 11, 8), (30, .iload_n 3, 0, 0), (31, .iaload, 0, 0), (32, .iastore, 0, 0),
  (33, .aload_n 0, 0, 0), (34, .getfield 40, 11, 15), (37, .bipush 6, 0, 0), (39, .iload_n 2, 0, 0), (40, .imul, 0, 0), (41, .iconst 1, 0, 0), (42, .iadd, 0, 0), (43, .aload_n 0, 0, 0), (44, .getfield 28, 11, 9), (47, .iload_n 3, 0, 0), (48, .iaload, 0, 0), (49, .iastore, 0, 0),
  (50, .aload_n 0, 0, 0), (51, .getfield 40, 11, 15), (54, .bipush 6, 0, 0), (56, .iload_n 2, 0, 0), (57, .imul, 0, 0), (58, .iconst 2, 0, 0), (59, .iadd, 0, 0), (60, .aload_n 0, 0, 0), (61, .getfield 31, 11, 10), (64, .iload_n 3, 0, 0), (65, .iaload, 0, 0), (66, .iastore, 0, 0),
  (67, .aload_n 0, 0, 0), (68, .getfield 40, 11, 15), (71, .bipush 6, 0, 0), (73, .iload_n 2, 0, 0), (74, .imul, 0, 0), (75, .iconst 3, 0, 0), (76, .iadd, 0, 0), (77, .aload_n 0, 0, 0), (78, .iload_n 1, 0, 0), (79, .aload_n 0, 0, 0), (80, .getfield 25, 11, 8), (83, .iload_n 3, 0, 0),
  (84, .iaload, 0, 0), (85, .invokevirtual 131, 219, 0), (88, .iastore, 0, 0), (89, .aload_n 0, 0, 0), (90, .getfield 40, 11, 15), (93, .bipush 6, 0, 0), (95, .iload_n 2, 0, 0), (96, .imul, 0, 0), (97, .iconst 4, 0, 0), (98, .iadd, 0, 0), (99, .aload_n 0, 0, 0), (100, .iload_n 1, 0, 0),
  (101, .aload_n 0, 0, 0), (102, .getfield 28, 11, 9), (105, .iload_n 3, 0, 0), (106, .iaload, 0, 0), (107, .invokevirtual 131, 219, 0), (110, .iastore, 0, 0), (111, .aload_n 0, 0, 0), (112, .getfield 40, 11, 15), (115, .bipush 6, 0, 0), (117, .iload_n 2, 0, 0), (118, .imul, 0, 0), (119, .iconst 5, 0, 0),
  (120, .iadd, 0, 0), (121, .aload_n 0, 0, 0), (122, .iload_n 1, 0, 0), (123, .aload_n 0, 0, 0), (124, .getfield 31, 11, 10), (127, .iload_n 3, 0, 0), (128, .iaload, 0, 0), (129, .invokevirtual 131, 219, 0), (132, .iastore, 0, 0), (133, .iinc 2 1, 0, 0), (136, .goto (-134), 2, 0), (139, .iconst 0, 0, 0),
  (140, .istore_n 2, 0, 0), (141, .iload_n 2, 0, 0), (142, .bipush 24, 0, 0), (144, .if_icmp .ge 35, 179, 0), (147, .aload_n 0, 0, 0), (148, .aload_n 0, 0, 0), (149, .getfield 40, 11, 15), (152, .iload_n 2, 0, 0), (153, .iaload, 0, 0), (154, .aload_n 0, 0, 0), (155, .getfield 40, 11, 15), (158, .iload_n 2, 0, 0),
  (159, .iconst 1, 0, 0), (160, .iadd, 0, 0), (161, .iaload, 0, 0), (162, .aload_n 0, 0, 0), (163, .getfield 40, 11, 15), (166, .iload_n 2, 0, 0), (167, .iconst 2, 0, 0), (168, .iadd, 0, 0), (169, .iaload, 0, 0), (170, .invokevirtual 134, 207, 0), (173, .iinc 2 6, 0, 0), (176, .goto (-35), 141, 0),
  (179, .iconst 0, 0, 0), (180, .istore_n 2, 0, 0), (181, .iload_n 2, 0, 0), (182, .bipush 24, 0, 0), (184, .if_icmp .ge 37, 221, 0), (187, .aload_n 0, 0, 0), (188, .aload_n 0, 0, 0), (189, .getfield 40, 11, 15), (192, .iload_n 2, 0, 0), (193, .iconst 3, 0, 0), (194, .iadd, 0, 0), (195, .iaload, 0, 0),
  (196, .aload_n 0, 0, 0), (197, .getfield 40, 11, 15), (200, .iload_n 2, 0, 0), (201, .iconst 4, 0, 0), (202, .iadd, 0, 0), (203, .iaload, 0, 0), (204, .aload_n 0, 0, 0), (205, .getfield 40, 11, 15), (208, .iload_n 2, 0, 0), (209, .iconst 5, 0, 0), (210, .iadd, 0, 0), (211, .iaload, 0, 0),
  (212, .invokevirtual 137, 206, 0), (215, .iinc 2 6, 0, 0), (218, .goto (-37), 181, 0), (221, .aload_n 0, 0, 0), (222, .getfield 7, 11, 0), (225, .iconst 1, 0, 0), (226, .dup2, 0, 0), (227, .iaload, 0, 0), (228, .iconst 1, 0, 0), (229, .iadd, 0, 0), (230, .iastore, 0, 0), (231, .aload_n 0, 0, 0),
  (232, .getfield 7, 11, 0), (235, .iconst 3, 0, 0), (236, .dup2, 0, 0), (237, .iaload, 0, 0), (238, .iconst 4, 0, 0), (239, .iadd, 0, 0), (240, .iastore, 0, 0), (241, .return_, 0, 0)], 4, 2, false, none, [], 11)
def am_n220 : amN := (yX12_switchesQuad, cX12_switchesQuad, [])
def am_h220 : List (List Nat) := [[], [], [], [], [], [], [1545], [], [], [], [], [], [], [], [], [1547], [], [], [], [], [1540], [], [], [], [], [1547], [], [], [], [], [], [], [1541], [], [], [], [], [1547], [], [], [], [], [], [], [1542], [], [], [], [], [1547], [], [], [], [], [], [], [], [], [1540], [], [], [1947, 1949, 91, 134, 1950], [], [], [1547], [], [], [], [], [], [], [], [], [1541], [], [], [1947, 1949, 91, 134, 1950], [], [], [1547], [], [], [], [], [], [], [], [], [1542], [], [], [1947, 1949, 91, 134, 1950], [], [], [], [], [], [], [], [], [], [], [1547], [], [], [], [1547], [], [], [], [], [], [1547], [], [], [], [], [1860, 1862, 80, 134, 1863], [], [], [], [], [], [], [], [], [], [1547], [], [], [], [], [], [1547], [], [], [], [], [], [1547], [], [], [], [], [1726, 1728, 61, 134, 1729], [], [], [], [1532], [], [], [], [], [], [], [], [1532], [], [], [], [], [], [], []]
def am_g220 : List (Nat × Nat) := []
def am_m221 : amM := ([(0, .iload_n 1, 0, 0), (1, .invokestatic 140, 343, 0), (4, .iconst 3, 0, 0), (5, .if_icmp .eq 5, 10, 0), (8, .iconst 0, 0, 0), (9, .ireturn, 0, 0), (10, .iload_n 1, 0, 0), (11, .invokestatic 126, 342, 0), (14, .istore_n 2, 0, 0), (15, .iload_n 1, 0, 0), (16, .iload_n 1, 0, 0), (17, .iconst 1, 0, 0),
  (18, .isub, 0, 0), (19, .iand, 0, 0), (20, .invokestatic 126, 342, 0), (23, .istore_n 3, 0, 0), (24, .aload_n 0, 0, 0), (25, .iload_n 2, 0, 0), (26, .iload_n 3, 0, 0), (27, .invokevirtual 81, 204, 0), (30, .istore 4, 0, 0), (32, .iload 4, 0, 0), (34, .iconst (-1), 0, 0), (35, .if_icmp .eq 17, 52, 0),
  (38, .iload_n 1, 0, 0), (39, .iload 4, 0, 0), (41, .ishr, 0, 0), (42, .iconst 1, 0, 0), (43, .iand, 0, 0), (44, .iconst 1, 0, 0), (45, .if_icmp .ne 7, 52, 0), (48, .iconst 1, 0, 0), (49, .goto 4, 53, 0), (52, .iconst 0, 0, 0), (53, .ireturn, 0, 0)], 5, 2, false, (some .boolean), [], 11)
def am_n221 : amN := (yX12_isTriple, cX12_isTriple, [])
def am_h221 : List (List Nat) := [[], [1779, 568, 140, 569], [], [], [], [], [], [1780, 1781, 140, 1782], [], [], [], [], [], [], [1780, 1781, 140, 1782], [], [], [], [], [1722, 1724, 60, 134, 1725], [], [], [], [], [], [], [], [], [], [], [], [], [], [], []]
def am_g221 : List (Nat × Nat) := []
def am_m222 : amM := ([(0, .aload_n 0, 0, 0), (1, .invokevirtual 99, 211, 0), (4, .iconst 0, 0, 0), (5, .istore_n 1, 0, 0), (6, .iconst 0, 0, 0), (7, .istore_n 2, 0, 0), (8, .iload_n 2, 0, 0), (9, .aload_n 0, 0, 0), (10, .getfield 92, 11, 12), (13, .if_icmp .ge 102, 115, 0), (16, .iload_n 2, 0, 0), (17, .iconst 1, 0, 0),
  (18, .iadd, 0, 0), (19, .istore_n 3, 0, 0), (20, .iload_n 3, 0, 0), (21, .aload_n 0, 0, 0), (22, .getfield 92, 11, 12), (25, .if_icmp .ge 84, 109, 0), (28, .aload_n 0, 0, 0), (29, .getfield 34, 11, 11), (32, .iload_n 2, 0, 0), (33, .iaload, 0, 0), (34, .aload_n 0, 0, 0), (35, .getfield 34, 11, 11),
  (38, .iload_n 3, 0, 0), (39, .iaload, 0, 0), (40, .iand, 0, 0), (41, .ifCond .ne 6, 47, 0), (44, .goto 59, 103, 0), (47, .iload_n 3, 0, 0), (48, .iconst 1, 0, 0), (49, .iadd, 0, 0), (50, .istore 4, 0, 0), (52, .iload 4, 0, 0), (54, .aload_n 0, 0, 0), (55, .getfield 92, 11, 12),
  (58, .if_icmp .ge 45, 103, 0), (61, .iload_n 1, 0, 0), (62, .aload_n 0, 0, 0), (63, .aload_n 0, 0, 0), (64, .getfield 34, 11, 11), (67, .iload_n 2, 0, 0), (68, .iaload, 0, 0), (69, .aload_n 0, 0, 0), (70, .getfield 34, 11, 11), (73, .iload_n 3, 0, 0), (74, .iaload, 0, 0), (75, .ixor, 0, 0),
  (76, .aload_n 0, 0, 0), (77, .getfield 34, 11, 11), (80, .iload 4, 0, 0), (82, .iaload, 0, 0), (83, .ixor, 0, 0), (84, .invokevirtual 111, 221, 0), (87, .ifCond .eq 7, 94, 0), (90, .iconst 1, 0, 0), (91, .goto 4, 95, 0), (94, .iconst 0, 0, 0), (95, .iadd, 0, 0), (96, .istore_n 1, 0, 0),
  (97, .iinc 4 1, 0, 0), (100, .goto (-48), 52, 0), (103, .iinc 3 1, 0, 0), (106, .goto (-86), 20, 0), (109, .iinc 2 1, 0, 0), (112, .goto (-104), 8, 0), (115, .iload_n 1, 0, 0), (116, .iconst 4, 0, 0), (117, .idiv, 0, 0), (118, .ireturn, 0, 0)], 5, 1, false, (some .int), [], 11)
def am_n222 : amN := (yX12_quadsCounted, cX12_quadsCounted, [])
def am_h222 : List (List Nat) := [[], [1739, 1741, 64, 134, 1742], [], [], [], [], [], [], [1544], [], [], [], [], [], [], [], [1544], [], [], [1543], [], [], [], [1543], [], [], [], [], [], [], [], [], [], [], [], [1544], [], [], [], [], [1543], [], [], [], [1543], [], [], [], [], [1543], [], [], [], [1775, 1777, 70, 134, 1778], [], [], [], [], [], [], [], [], [], [], [], [], [], [], [], []]
def am_g222 : List (Nat × Nat) := []
def am_m223 : amM := ([(0, .aload_n 0, 0, 0), (1, .invokevirtual 143, 201, 0), (4, .aload_n 0, 0, 0), (5, .iload_n 1, 0, 0), (6, .invokevirtual 146, 220, 0), (9, .aload_n 0, 0, 0), (10, .invokevirtual 149, 222, 0), (13, .istore_n 2, 0, 0), (14, .aload_n 0, 0, 0), (15, .invokevirtual 152, 202, 0), (18, .aload_n 0, 0, 0), (19, .invokevirtual 99, 211, 0),
  (22, .iload_n 2, 0, 0), (23, .ireturn, 0, 0)], 3, 2, false, (some .int), [], 11)
def am_n223 : amN := (yX12_quadsBehind, cX12_quadsBehind, [])
def am_h223 : List (List Nat) := [[], [1868, 1870, 81, 134, 1871], [], [], [1963, 1965, 92, 134, 1966], [], [1975, 1977, 94, 134, 1978], [], [], [1872, 1874, 82, 134, 1875], [], [1739, 1741, 64, 134, 1742], [], []]
def am_g223 : List (Nat × Nat) := []
def am_m224 : amM := ([(0, .aload_n 0, 0, 0), (1, .invokevirtual 155, 216, 0), (4, .iconst (-1), 0, 0), (5, .istore_n 2, 0, 0), (6, .iconst 0, 0, 0), (7, .istore_n 3, 0, 0), (8, .iconst 0, 0, 0), (9, .istore 4, 0, 0), (11, .iload 4, 0, 0), (13, .aload_n 0, 0, 0), (14, .getfield 108, 11, 14), (17, .if_icmp .ge 50, 67, 0),
  (20, .aload_n 0, 0, 0), (21, .iload 4, 0, 0), (23, .invokevirtual 158, 223, 0), (26, .istore 5, 0, 0), (28, .iload_n 2, 0, 0), (29, .iconst (-1), 0, 0), (30, .if_icmp .eq 25, 55, 0), (33, .iload_n 1, 0, 0), (34, .ifCond .eq 12, 46, 0), (37, .iload 5, 0, 0), (39, .iload_n 3, 0, 0), (40, .if_icmp .gt 15, 55, 0),
  (43, .goto 18, 61, 0), (46, .iload 5, 0, 0), (48, .iload_n 3, 0, 0), (49, .if_icmp .lt 6, 55, 0), (52, .goto 9, 61, 0), (55, .iload 4, 0, 0), (57, .istore_n 2, 0, 0), (58, .iload 5, 0, 0), (60, .istore_n 3, 0, 0), (61, .iinc 4 1, 0, 0), (64, .goto (-53), 11, 0), (67, .iload_n 2, 0, 0),
  (68, .ireturn, 0, 0)], 6, 2, false, (some .int), [], 11)
def am_n224 : amN := (yX12_bestQuad, cX12_bestQuad, [])
def am_h224 : List (List Nat) := [[], [1771, 1773, 69, 134, 1774], [], [], [], [], [], [], [], [], [1546], [], [], [], [1971, 1973, 93, 134, 1974], [], [], [], [], [], [], [], [], [], [], [], [], [], [], [], [], [], [], [], [], [], []]
def am_g224 : List (Nat × Nat) := []
def am_m225 : amM := ([(0, .aload_n 0, 0, 0), (1, .iconst 0, 0, 0), (2, .putfield 161, 11, 17), (5, .iload_n 3, 0, 0), (6, .istore 4, 0, 0), (8, .aload_n 0, 0, 0), (9, .getfield 161, 11, 17), (12, .bipush 15, 0, 0), (14, .if_icmp .ge 70, 84, 0), (17, .aload_n 0, 0, 0), (18, .getfield 43, 11, 16), (21, .aload_n 0, 0, 0),
  (22, .getfield 161, 11, 17), (25, .iload 4, 0, 0), (27, .iastore, 0, 0), (28, .aload_n 0, 0, 0), (29, .dup, 0, 0), (30, .getfield 161, 11, 17), (33, .iconst 1, 0, 0), (34, .iadd, 0, 0), (35, .putfield 161, 11, 17), (38, .aload_n 0, 0, 0), (39, .iload 4, 0, 0), (41, .aload_n 0, 0, 0),
  (42, .getfield 161, 11, 17), (45, .iconst 2, 0, 0), (46, .irem, 0, 0), (47, .iconst 1, 0, 0), (48, .if_icmp .ne 7, 55, 0), (51, .iload_n 1, 0, 0), (52, .goto 4, 56, 0), (55, .iload_n 2, 0, 0), (56, .invokevirtual 81, 204, 0), (59, .istore 5, 0, 0), (61, .iload 5, 0, 0), (63, .iconst (-1), 0, 0),
  (64, .if_icmp .ne 5, 69, 0), (67, .iconst 0, 0, 0), (68, .ireturn, 0, 0), (69, .iload 5, 0, 0), (71, .istore 4, 0, 0), (73, .iload 4, 0, 0), (75, .iload_n 3, 0, 0), (76, .if_icmp .ne 5, 81, 0), (79, .iconst 1, 0, 0), (80, .ireturn, 0, 0), (81, .goto (-73), 8, 0), (84, .iconst 0, 0, 0),
  (85, .ireturn, 0, 0)], 6, 4, false, (some .boolean), [], 11)
def am_n225 : amN := (yX12_walks, cX12_walks, [])
def am_h225 : List (List Nat) := [[], [], [1549], [], [], [], [1549], [], [], [], [1548], [], [1549], [], [], [], [], [1549], [], [], [1549], [], [], [], [1549], [], [], [], [], [], [], [], [1722, 1724, 60, 134, 1725], [], [], [], [], [], [], [], [], [], [], [], [], [], [], [], []]
def am_g225 : List (Nat × Nat) := []
def am_m226 : amM := ([(0, .iload_n 3, 0, 0), (1, .iload_n 1, 0, 0), (2, .if_icmp .eq 28, 30, 0), (5, .iload_n 3, 0, 0), (6, .iload_n 2, 0, 0), (7, .if_icmp .eq 23, 30, 0), (10, .aload_n 0, 0, 0), (11, .iload_n 1, 0, 0), (12, .iload_n 2, 0, 0), (13, .invokevirtual 81, 204, 0), (16, .iload_n 3, 0, 0), (17, .if_icmp .eq 13, 30, 0),
  (20, .aload_n 0, 0, 0), (21, .iload_n 1, 0, 0), (22, .iload_n 2, 0, 0), (23, .iload_n 3, 0, 0), (24, .invokevirtual 164, 225, 0), (27, .ifCond .ne 5, 32, 0), (30, .iconst 0, 0, 0), (31, .ireturn, 0, 0), (32, .iconst 1, 0, 0), (33, .istore 4, 0, 0), (35, .iload 4, 0, 0), (37, .aload_n 0, 0, 0),
  (38, .getfield 161, 11, 17), (41, .if_icmp .ge 22, 63, 0), (44, .aload_n 0, 0, 0), (45, .getfield 43, 11, 16), (48, .iload 4, 0, 0), (50, .iaload, 0, 0), (51, .iload_n 3, 0, 0), (52, .if_icmp .ge 5, 57, 0), (55, .iconst 0, 0, 0), (56, .ireturn, 0, 0), (57, .iinc 4 1, 0, 0), (60, .goto (-25), 35, 0),
  (63, .iconst 1, 0, 0), (64, .ireturn, 0, 0)], 5, 4, false, (some .boolean), [], 11)
def am_n226 : amN := (yX12_isCycleFrom, cX12_isCycleFrom, [])
def am_h226 : List (List Nat) := [[], [], [], [], [], [], [], [], [], [1722, 1724, 60, 134, 1725], [], [], [], [], [], [], [2007, 2009, 98, 134, 2010], [], [], [], [], [], [], [], [1549], [], [], [1548], [], [], [], [], [], [], [], [], [], []]
def am_g226 : List (Nat × Nat) := []
def am_m227 : amM := ([(0, .iconst 0, 0, 0), (1, .istore_n 3, 0, 0), (2, .iconst 0, 0, 0), (3, .istore 4, 0, 0), (5, .iload 4, 0, 0), (7, .aload_n 0, 0, 0), (8, .invokevirtual 95, 203, 0), (11, .if_icmp .ge 28, 39, 0), (14, .iload_n 3, 0, 0), (15, .aload_n 0, 0, 0), (16, .iload_n 1, 0, 0), (17, .iload_n 2, 0, 0),
  (18, .iload 4, 0, 0), (20, .invokevirtual 168, 226, 0), (23, .ifCond .eq 7, 30, 0), (26, .iconst 1, 0, 0), (27, .goto 4, 31, 0), (30, .iconst 0, 0, 0), (31, .iadd, 0, 0), (32, .istore_n 3, 0, 0), (33, .iinc 4 1, 0, 0), (36, .goto (-31), 5, 0), (39, .iload_n 3, 0, 0), (40, .ireturn, 0, 0)], 5, 3, false, (some .int), [], 11)
def am_n227 : amN := (yX12_cyclesMany, cX12_cyclesMany, [])
def am_h227 : List (List Nat) := [[], [], [], [], [], [], [1698, 1700, 54, 134, 1701], [], [], [], [], [], [], [2003, 2005, 97, 134, 2006], [], [], [], [], [], [], [], [], [], []]
def am_g227 : List (Nat × Nat) := []
def am_m228 : amM := ([(0, .iload_n 3, 0, 0), (1, .istore 4, 0, 0), (3, .iconst 0, 0, 0), (4, .istore 5, 0, 0), (6, .iload 5, 0, 0), (8, .aload_n 0, 0, 0), (9, .invokevirtual 95, 203, 0), (12, .if_icmp .ge 38, 50, 0), (15, .iload 4, 0, 0), (17, .ifCond .lt 33, 50, 0), (20, .aload_n 0, 0, 0), (21, .iload_n 1, 0, 0),
  (22, .iload_n 2, 0, 0), (23, .iload 5, 0, 0), (25, .invokevirtual 168, 226, 0), (28, .ifCond .ne 6, 34, 0), (31, .goto 13, 44, 0), (34, .iload 4, 0, 0), (36, .ifCond .ne 5, 41, 0), (39, .iconst 1, 0, 0), (40, .ireturn, 0, 0), (41, .iinc 4 (-1), 0, 0), (44, .iinc 5 1, 0, 0), (47, .goto (-41), 6, 0),
  (50, .iconst 0, 0, 0), (51, .ireturn, 0, 0)], 6, 4, false, (some .boolean), [], 11)
def am_n228 : amN := (yX12_laysCycle, cX12_laysCycle, [])
def am_h228 : List (List Nat) := [[], [], [], [], [], [], [1698, 1700, 54, 134, 1701], [], [], [], [], [], [], [], [2003, 2005, 97, 134, 2006], [], [], [], [], [], [], [], [], [], [], []]
def am_g228 : List (Nat × Nat) := []
def am_m229 : amM := ([(0, .lconst 0, 0, 0), (1, .lstore_n 3, 0, 0), (2, .iconst 0, 0, 0), (3, .istore 5, 0, 0), (5, .iload 5, 0, 0), (7, .aload_n 0, 0, 0), (8, .getfield 161, 11, 17), (11, .if_icmp .ge 63, 74, 0), (14, .iconst 1, 0, 0), (15, .iload 5, 0, 0), (17, .iconst 2, 0, 0), (18, .irem, 0, 0),
  (19, .ifCond .ne 7, 26, 0), (22, .iload_n 1, 0, 0), (23, .goto 4, 27, 0), (26, .iload_n 2, 0, 0), (27, .ishl, 0, 0), (28, .iconst 1, 0, 0), (29, .aload_n 0, 0, 0), (30, .getfield 43, 11, 16), (33, .iload 5, 0, 0), (35, .iaload, 0, 0), (36, .ishl, 0, 0), (37, .ior, 0, 0),
  (38, .iconst 1, 0, 0), (39, .aload_n 0, 0, 0), (40, .getfield 43, 11, 16), (43, .iload 5, 0, 0), (45, .iconst 1, 0, 0), (46, .iadd, 0, 0), (47, .aload_n 0, 0, 0), (48, .getfield 161, 11, 17), (51, .irem, 0, 0), (52, .iaload, 0, 0), (53, .ishl, 0, 0), (54, .ior, 0, 0),
  (55, .istore 6, 0, 0), (57, .lload_n 3, 0, 0), (58, .lconst 1, 0, 0), (59, .aload_n 0, 0, 0), (60, .iload 6, 0, 0), (62, .invokevirtual 115, 212, 0), (65, .lshl, 0, 0), (66, .lor, 0, 0), (67, .lstore_n 3, 0, 0), (68, .iinc 5 1, 0, 0), (71, .goto (-66), 5, 0), (74, .lload_n 3, 0, 0),
  (75, .lreturn, 0, 0)], 7, 3, false, (some .long), [], 11)
def am_n229 : amN := (yX12_replacedBy, cX12_replacedBy, [])
def am_h229 : List (List Nat) := [[], [], [], [], [], [], [1549], [], [], [], [], [], [], [], [], [], [], [], [], [1548], [], [], [], [], [], [], [1548], [], [], [], [], [1549], [], [], [], [], [], [], [], [], [], [1784, 1786, 71, 134, 1787], [], [], [], [], [], [], []]
def am_g229 : List (Nat × Nat) := []
def am_m230 : amM := ([(0, .iconst 0, 0, 0), (1, .istore_n 3, 0, 0), (2, .iload_n 3, 0, 0), (3, .aload_n 0, 0, 0), (4, .getfield 161, 11, 17), (7, .if_icmp .ge 43, 50, 0), (10, .aload_n 0, 0, 0), (11, .iload_n 3, 0, 0), (12, .iconst 2, 0, 0), (13, .irem, 0, 0), (14, .ifCond .ne 7, 21, 0), (17, .iload_n 1, 0, 0),
  (18, .goto 4, 22, 0), (21, .iload_n 2, 0, 0), (22, .aload_n 0, 0, 0), (23, .getfield 43, 11, 16), (26, .iload_n 3, 0, 0), (27, .iaload, 0, 0), (28, .aload_n 0, 0, 0), (29, .getfield 43, 11, 16), (32, .iload_n 3, 0, 0), (33, .iconst 1, 0, 0), (34, .iadd, 0, 0), (35, .aload_n 0, 0, 0),
  (36, .getfield 161, 11, 17), (39, .irem, 0, 0), (40, .iaload, 0, 0), (41, .invokevirtual 134, 207, 0), (44, .iinc 3 1, 0, 0), (47, .goto (-45), 2, 0), (50, .iconst 0, 0, 0), (51, .istore_n 3, 0, 0), (52, .iload_n 3, 0, 0), (53, .aload_n 0, 0, 0), (54, .getfield 161, 11, 17), (57, .if_icmp .ge 43, 100, 0),
  (60, .aload_n 0, 0, 0), (61, .iload_n 3, 0, 0), (62, .iconst 2, 0, 0), (63, .irem, 0, 0), (64, .ifCond .ne 7, 71, 0), (67, .iload_n 2, 0, 0), (68, .goto 4, 72, 0), (71, .iload_n 1, 0, 0), (72, .aload_n 0, 0, 0), (73, .getfield 43, 11, 16), (76, .iload_n 3, 0, 0), (77, .iaload, 0, 0),
  (78, .aload_n 0, 0, 0), (79, .getfield 43, 11, 16), (82, .iload_n 3, 0, 0), (83, .iconst 1, 0, 0), (84, .iadd, 0, 0), (85, .aload_n 0, 0, 0), (86, .getfield 161, 11, 17), (89, .irem, 0, 0), (90, .iaload, 0, 0), (91, .invokevirtual 137, 206, 0), (94, .iinc 3 1, 0, 0), (97, .goto (-45), 52, 0),
  (100, .aload_n 0, 0, 0), (101, .getfield 7, 11, 0), (104, .iconst 2, 0, 0), (105, .dup2, 0, 0), (106, .iaload, 0, 0), (107, .iconst 1, 0, 0), (108, .iadd, 0, 0), (109, .iastore, 0, 0), (110, .aload_n 0, 0, 0), (111, .getfield 7, 11, 0), (114, .iconst 3, 0, 0), (115, .dup2, 0, 0),
  (116, .iaload, 0, 0), (117, .aload_n 0, 0, 0), (118, .getfield 161, 11, 17), (121, .iadd, 0, 0), (122, .iastore, 0, 0), (123, .return_, 0, 0)], 4, 3, false, none, [], 11)
def am_n230 : amN := (yX12_switchesCycle, cX12_switchesCycle, [])
def am_h230 : List (List Nat) := [[], [], [], [], [1549], [], [], [], [], [], [], [], [], [], [], [1548], [], [], [], [1548], [], [], [], [], [1549], [], [], [1860, 1862, 80, 134, 1863], [], [], [], [], [], [], [1549], [], [], [], [], [], [], [], [], [], [], [1548], [], [], [], [1548], [], [], [], [], [1549], [], [], [1726, 1728, 61, 134, 1729], [], [], [], [1532], [], [], [], [], [], [], [], [1532], [], [], [], [], [1549], [], [], []]
def am_g230 : List (Nat × Nat) := []
def am_m231 : amM := ([(0, .aload_n 0, 0, 0), (1, .getfield 171, 11, 19), (4, .istore_n 3, 0, 0), (5, .iload_n 3, 0, 0), (6, .ifCond .le 22, 28, 0), (9, .aload_n 0, 0, 0), (10, .getfield 46, 11, 18), (13, .iload_n 3, 0, 0), (14, .iconst 1, 0, 0), (15, .isub, 0, 0), (16, .laload, 0, 0), (17, .lload_n 1, 0, 0),
  (18, .lcmp, 0, 0), (19, .ifCond .le 9, 28, 0), (22, .iinc 3 (-1), 0, 0), (25, .goto (-20), 5, 0), (28, .iload_n 3, 0, 0), (29, .ifCond .le 16, 45, 0), (32, .aload_n 0, 0, 0), (33, .getfield 46, 11, 18), (36, .iload_n 3, 0, 0), (37, .iconst 1, 0, 0), (38, .isub, 0, 0), (39, .laload, 0, 0),
  (40, .lload_n 1, 0, 0), (41, .lcmp, 0, 0), (42, .ifCond .eq 13, 55, 0), (45, .aload_n 0, 0, 0), (46, .getfield 171, 11, 19), (49, .sipush 400, 0, 0), (52, .if_icmp .ne 4, 56, 0), (55, .return_, 0, 0), (56, .aload_n 0, 0, 0), (57, .getfield 171, 11, 19), (60, .istore 4, 0, 0), (62, .iload 4, 0, 0),
  (64, .iload_n 3, 0, 0), (65, .if_icmp .le 25, 90, 0), (68, .aload_n 0, 0, 0), (69, .getfield 46, 11, 18), (72, .iload 4, 0, 0), (74, .aload_n 0, 0, 0), (75, .getfield 46, 11, 18), (78, .iload 4, 0, 0), (80, .iconst 1, 0, 0), (81, .isub, 0, 0), (82, .laload, 0, 0), (83, .lastore, 0, 0),
  (84, .iinc 4 (-1), 0, 0), (87, .goto (-25), 62, 0), (90, .aload_n 0, 0, 0), (91, .getfield 46, 11, 18), (94, .iload_n 3, 0, 0), (95, .lload_n 1, 0, 0), (96, .lastore, 0, 0), (97, .aload_n 0, 0, 0), (98, .dup, 0, 0), (99, .getfield 171, 11, 19), (102, .iconst 1, 0, 0), (103, .iadd, 0, 0),
  (104, .putfield 171, 11, 19), (107, .return_, 0, 0)], 5, 2, false, none, [], 11)
def am_n231 : amN := (yX12_addsTrade, cX12_addsTrade, [])
def am_h231 : List (List Nat) := [[], [1551], [], [], [], [], [1550], [], [], [], [], [], [], [], [], [], [], [], [], [1550], [], [], [], [], [], [], [], [], [1551], [], [], [], [], [1551], [], [], [], [], [], [1550], [], [], [1550], [], [], [], [], [], [], [], [], [1550], [], [], [], [], [], [1551], [], [], [1551], []]
def am_g231 : List (Nat × Nat) := []
def am_m232 : amM := ([(0, .aload_n 0, 0, 0), (1, .invokevirtual 99, 211, 0), (4, .aload_n 0, 0, 0), (5, .iconst 0, 0, 0), (6, .putfield 171, 11, 19), (9, .iconst 0, 0, 0), (10, .istore_n 2, 0, 0), (11, .iload_n 2, 0, 0), (12, .aload_n 0, 0, 0), (13, .invokevirtual 95, 203, 0), (16, .if_icmp .ge 74, 90, 0), (19, .iload_n 2, 0, 0),
  (20, .iconst 1, 0, 0), (21, .iadd, 0, 0), (22, .istore_n 3, 0, 0), (23, .iload_n 3, 0, 0), (24, .aload_n 0, 0, 0), (25, .invokevirtual 95, 203, 0), (28, .if_icmp .ge 56, 84, 0), (31, .iconst 0, 0, 0), (32, .istore 4, 0, 0), (34, .iload 4, 0, 0), (36, .aload_n 0, 0, 0), (37, .invokevirtual 95, 203, 0),
  (40, .if_icmp .ge 38, 78, 0), (43, .aload_n 0, 0, 0), (44, .iload_n 2, 0, 0), (45, .iload_n 3, 0, 0), (46, .iload 4, 0, 0), (48, .invokevirtual 168, 226, 0), (51, .ifCond .eq 21, 72, 0), (54, .aload_n 0, 0, 0), (55, .getfield 161, 11, 17), (58, .iload_n 1, 0, 0), (59, .if_icmp .ne 13, 72, 0), (62, .aload_n 0, 0, 0),
  (63, .aload_n 0, 0, 0), (64, .iload_n 2, 0, 0), (65, .iload_n 3, 0, 0), (66, .invokevirtual 174, 229, 0), (69, .invokevirtual 178, 231, 0), (72, .iinc 4 1, 0, 0), (75, .goto (-41), 34, 0), (78, .iinc 3 1, 0, 0), (81, .goto (-58), 23, 0), (84, .iinc 2 1, 0, 0), (87, .goto (-76), 11, 0), (90, .return_, 0, 0)], 5, 2, false, none, [], 11)
def am_n232 : amN := (yX12_laysTrades, cX12_laysTrades, [])
def am_h232 : List (List Nat) := [[], [1739, 1741, 64, 134, 1742], [], [], [1551], [], [], [], [], [1698, 1700, 54, 134, 1701], [], [], [], [], [], [], [], [1698, 1700, 54, 134, 1701], [], [], [], [], [], [1698, 1700, 54, 134, 1701], [], [], [], [], [], [2003, 2005, 97, 134, 2006], [], [], [1549], [], [], [], [], [], [], [2051, 2053, 103, 134, 2054], [2055, 2057, 104, 134, 2058], [], [], [], [], [], [], []]
def am_g232 : List (Nat × Nat) := []
def am_m233 : amM := ([(0, .iload_n 1, 0, 0), (1, .iload_n 2, 0, 0), (2, .iadd, 0, 0), (3, .aload_n 0, 0, 0), (4, .invokevirtual 95, 203, 0), (7, .irem, 0, 0), (8, .ireturn, 0, 0)], 3, 3, false, (some .int), [], 11)
def am_n233 : amN := (yX12_turned, cX12_turned, [])
def am_h233 : List (List Nat) := [[], [], [], [], [1698, 1700, 54, 134, 1701], [], []]
def am_g233 : List (Nat × Nat) := []
def am_m234 : amM := ([(0, .iload_n 1, 0, 0), (1, .aload_n 0, 0, 0), (2, .invokevirtual 95, 203, 0), (5, .irem, 0, 0), (6, .istore_n 2, 0, 0), (7, .iload_n 2, 0, 0), (8, .ifCond .ge 12, 20, 0), (11, .iload_n 2, 0, 0), (12, .aload_n 0, 0, 0), (13, .invokevirtual 95, 203, 0), (16, .iadd, 0, 0), (17, .goto 4, 21, 0),
  (20, .iload_n 2, 0, 0), (21, .ireturn, 0, 0)], 3, 2, false, (some .int), [], 11)
def am_n234 : amN := (yX12_by, cX12_by, [])
def am_h234 : List (List Nat) := [[], [], [1698, 1700, 54, 134, 1701], [], [], [], [], [], [], [1698, 1700, 54, 134, 1701], [], [], [], []]
def am_g234 : List (Nat × Nat) := []
def am_m235 : amM := ([(0, .iconst 1, 0, 0), (1, .istore_n 2, 0, 0), (2, .iconst 0, 0, 0), (3, .istore_n 3, 0, 0), (4, .iload_n 3, 0, 0), (5, .aload_n 0, 0, 0), (6, .getfield 92, 11, 12), (9, .if_icmp .ge 59, 68, 0), (12, .iload_n 2, 0, 0), (13, .ifCond .eq 47, 60, 0), (16, .aload_n 0, 0, 0), (17, .aload_n 0, 0, 0),
  (18, .aload_n 0, 0, 0), (19, .getfield 25, 11, 8), (22, .iload_n 3, 0, 0), (23, .iaload, 0, 0), (24, .iload_n 1, 0, 0), (25, .invokevirtual 182, 233, 0), (28, .aload_n 0, 0, 0), (29, .aload_n 0, 0, 0), (30, .getfield 28, 11, 9), (33, .iload_n 3, 0, 0), (34, .iaload, 0, 0), (35, .iload_n 1, 0, 0),
  (36, .invokevirtual 182, 233, 0), (39, .invokevirtual 81, 204, 0), (42, .aload_n 0, 0, 0), (43, .aload_n 0, 0, 0), (44, .getfield 31, 11, 10), (47, .iload_n 3, 0, 0), (48, .iaload, 0, 0), (49, .iload_n 1, 0, 0), (50, .invokevirtual 182, 233, 0), (53, .if_icmp .ne 7, 60, 0), (56, .iconst 1, 0, 0), (57, .goto 4, 61, 0),
  (60, .iconst 0, 0, 0), (61, .istore_n 2, 0, 0), (62, .iinc 3 1, 0, 0), (65, .goto (-61), 4, 0), (68, .iload_n 2, 0, 0), (69, .ireturn, 0, 0)], 4, 2, false, (some .boolean), [], 11)
def am_n235 : amN := (yX12_isTurnedBy, cX12_isTurnedBy, [])
def am_h235 : List (List Nat) := [[], [], [], [], [], [], [1544], [], [], [], [], [], [], [1540], [], [], [], [1706, 1708, 56, 134, 1709], [], [], [1541], [], [], [], [1706, 1708, 56, 134, 1709], [1722, 1724, 60, 134, 1725], [], [], [1542], [], [], [], [1706, 1708, 56, 134, 1709], [], [], [], [], [], [], [], [], []]
def am_g235 : List (Nat × Nat) := []
def am_m236 : amM := ([(0, .aload_n 0, 0, 0), (1, .invokevirtual 99, 211, 0), (4, .iconst 1, 0, 0), (5, .istore_n 1, 0, 0), (6, .aload_n 0, 0, 0), (7, .iload_n 1, 0, 0), (8, .aload_n 0, 0, 0), (9, .invokevirtual 95, 203, 0), (12, .irem, 0, 0), (13, .invokevirtual 185, 235, 0), (16, .ifCond .ne 9, 25, 0), (19, .iinc 1 1, 0, 0),
  (22, .goto (-16), 6, 0), (25, .iload_n 1, 0, 0), (26, .ireturn, 0, 0)], 2, 1, false, (some .int), [], 11)
def am_n236 : amN := (yX12_leastOf, cX12_leastOf, [])
def am_h236 : List (List Nat) := [[], [1739, 1741, 64, 134, 1742], [], [], [], [], [], [1698, 1700, 54, 134, 1701], [], [2132, 2134, 112, 134, 2135], [], [], [], [], []]
def am_g236 : List (Nat × Nat) := []
def am_m237 : amM := ([(0, .iconst 0, 0, 0), (1, .istore 4, 0, 0), (3, .iconst 1, 0, 0), (4, .iload_n 1, 0, 0), (5, .ishl, 0, 0), (6, .iconst 1, 0, 0), (7, .iload_n 2, 0, 0), (8, .ishl, 0, 0), (9, .ior, 0, 0), (10, .iconst 1, 0, 0), (11, .iload_n 3, 0, 0), (12, .ishl, 0, 0),
  (13, .ior, 0, 0), (14, .istore 5, 0, 0), (16, .iconst 0, 0, 0), (17, .istore 6, 0, 0), (19, .iload 6, 0, 0), (21, .aload_n 0, 0, 0), (22, .invokevirtual 95, 203, 0), (25, .if_icmp .ge 91, 116, 0), (28, .aload_n 0, 0, 0), (29, .iload_n 1, 0, 0), (30, .iload 6, 0, 0), (32, .invokevirtual 182, 233, 0),
  (35, .istore 7, 0, 0), (37, .aload_n 0, 0, 0), (38, .iload_n 2, 0, 0), (39, .iload 6, 0, 0), (41, .invokevirtual 182, 233, 0), (44, .istore 8, 0, 0), (46, .aload_n 0, 0, 0), (47, .iload_n 3, 0, 0), (48, .iload 6, 0, 0), (50, .invokevirtual 182, 233, 0), (53, .istore 9, 0, 0), (55, .iload 6, 0, 0),
  (57, .ifCond .le 25, 82, 0), (60, .iconst 1, 0, 0), (61, .iload 7, 0, 0), (63, .ishl, 0, 0), (64, .iconst 1, 0, 0), (65, .iload 8, 0, 0), (67, .ishl, 0, 0), (68, .ior, 0, 0), (69, .iconst 1, 0, 0), (70, .iload 9, 0, 0), (72, .ishl, 0, 0), (73, .ior, 0, 0),
  (74, .iload 5, 0, 0), (76, .if_icmp .ne 6, 82, 0), (79, .iload 4, 0, 0), (81, .ireturn, 0, 0), (82, .aload_n 0, 0, 0), (83, .iload 7, 0, 0), (85, .iload 8, 0, 0), (87, .iload 9, 0, 0), (89, .invokevirtual 188, 210, 0), (92, .ifCond .ne 5, 97, 0), (95, .iconst (-1), 0, 0), (96, .ireturn, 0, 0),
  (97, .aload_n 0, 0, 0), (98, .iload 7, 0, 0), (100, .iload 8, 0, 0), (102, .iload 9, 0, 0), (104, .invokevirtual 137, 206, 0), (107, .iinc 4 1, 0, 0), (110, .iinc 6 1, 0, 0), (113, .goto (-94), 19, 0), (116, .iload 4, 0, 0), (118, .ireturn, 0, 0)], 10, 4, false, (some .int), [], 11)
def am_n237 : amN := (yX12_develops, cX12_develops, [])
def am_h237 : List (List Nat) := [[], [], [], [], [], [], [], [], [], [], [], [], [], [], [], [], [], [], [1698, 1700, 54, 134, 1701], [], [], [], [], [1706, 1708, 56, 134, 1709], [], [], [], [], [1706, 1708, 56, 134, 1709], [], [], [], [], [1706, 1708, 56, 134, 1709], [], [], [], [], [], [], [], [], [], [], [], [], [], [], [], [], [], [], [], [], [], [], [1710, 1712, 57, 134, 1713], [], [], [], [], [], [], [], [1726, 1728, 61, 134, 1729], [], [], [], [], []]
def am_g237 : List (Nat × Nat) := []
def am_m238 : amM := ([(0, .bipush 24, 0, 0), (2, .istore_n 2, 0, 0), (3, .iload_n 2, 0, 0), (4, .ifCond .lt 35, 39, 0), (7, .aload_n 0, 0, 0), (8, .getfield 50, 11, 20), (11, .aload_n 0, 0, 0), (12, .getfield 191, 11, 21), (15, .iload_n 1, 0, 0), (16, .iload_n 2, 0, 0), (17, .ishr, 0, 0), (18, .sipush 255, 0, 0),
  (21, .iand, 0, 0), (22, .iastore, 0, 0), (23, .aload_n 0, 0, 0), (24, .dup, 0, 0), (25, .getfield 191, 11, 21), (28, .iconst 1, 0, 0), (29, .iadd, 0, 0), (30, .putfield 191, 11, 21), (33, .iinc 2 (-8), 0, 0), (36, .goto (-33), 3, 0), (39, .return_, 0, 0)], 3, 2, false, none, [], 11)
def am_n238 : amN := (yX12_appendWord, cX12_appendWord, [])
def am_h238 : List (List Nat) := [[], [], [], [], [], [1552], [], [1553], [], [], [], [], [], [], [], [], [1553], [], [], [1553], [], [], []]
def am_g238 : List (Nat × Nat) := []
def am_m239 : amM := ([(0, .aload_n 0, 0, 0), (1, .iconst 0, 0, 0), (2, .putfield 67, 11, 7), (5, .aload_n 0, 0, 0), (6, .getfield 191, 11, 21), (9, .bipush 20, 0, 0), (11, .iadd, 0, 0), (12, .sipush 600, 0, 0), (15, .if_icmp .le 5, 20, 0), (18, .iconst (-1), 0, 0), (19, .ireturn, 0, 0), (20, .aload_n 0, 0, 0),
  (21, .iload_n 1, 0, 0), (22, .invokevirtual 194, 238, 0), (25, .aload_n 0, 0, 0), (26, .iload_n 2, 0, 0), (27, .invokevirtual 194, 238, 0), (30, .aload_n 0, 0, 0), (31, .iload_n 3, 0, 0), (32, .invokevirtual 194, 238, 0), (35, .aload_n 0, 0, 0), (36, .iload 4, 0, 0), (38, .invokevirtual 194, 238, 0), (41, .aload_n 0, 0, 0),
  (42, .iload 5, 0, 0), (44, .invokevirtual 194, 238, 0), (47, .aload_n 0, 0, 0), (48, .getfield 191, 11, 21), (51, .ireturn, 0, 0)], 6, 6, false, (some .int), [], 11)
def am_n239 : amN := (yX12_appendInput, cX12_appendInput, [])
def am_h239 : List (List Nat) := [[], [], [1539], [], [1553], [], [], [], [], [], [], [], [], [1636, 1638, 43, 134, 1639], [], [], [1636, 1638, 43, 134, 1639], [], [], [1636, 1638, 43, 134, 1639], [], [], [1636, 1638, 43, 134, 1639], [], [], [1636, 1638, 43, 134, 1639], [], [1553], []]
def am_g239 : List (Nat × Nat) := []
def am_m240 : amM := ([(0, .aload_n 0, 0, 0), (1, .iconst 0, 0, 0), (2, .putfield 67, 11, 7), (5, .iload_n 1, 0, 0), (6, .iconst 0, 0, 0), (7, .aload_n 0, 0, 0), (8, .getfield 191, 11, 21), (11, .invokestatic 197, 196, 0), (14, .ifCond .ne 5, 19, 0), (17, .iconst 0, 0, 0), (18, .ireturn, 0, 0), (19, .aload_n 0, 0, 0),
  (20, .iload_n 1, 0, 0), (21, .putfield 191, 11, 21), (24, .iconst 1, 0, 0), (25, .ireturn, 0, 0)], 2, 2, false, (some .boolean), [], 11)
def am_n240 : amN := (yX12_truncateInput, cX12_truncateInput, [])
def am_h240 : List (List Nat) := [[], [], [1539], [], [], [], [1553], [1644, 1645, 134, 1646], [], [], [], [], [], [1553], [], []]
def am_g240 : List (Nat × Nat) := []
def am_m241 : amM := ([(0, .iload_n 1, 0, 0), (1, .aload_n 0, 0, 0), (2, .getfield 191, 11, 21), (5, .if_icmp .ge 12, 17, 0), (8, .aload_n 0, 0, 0), (9, .getfield 50, 11, 20), (12, .iload_n 1, 0, 0), (13, .iaload, 0, 0), (14, .goto 4, 18, 0), (17, .iconst (-1), 0, 0), (18, .ireturn, 0, 0)], 2, 2, false, (some .int), [], 11)
def am_n241 : amN := (yX12_byteAt, cX12_byteAt, [])
def am_h241 : List (List Nat) := [[], [], [1553], [], [], [1552], [], [], [], [], []]
def am_g241 : List (Nat × Nat) := []
def am_m242 : amM := ([(0, .aload_n 0, 0, 0), (1, .aload_n 0, 0, 0), (2, .getfield 200, 11, 26), (5, .invokevirtual 203, 241, 0), (8, .bipush 32, 0, 0), (10, .if_icmp .eq 16, 26, 0), (13, .aload_n 0, 0, 0), (14, .aload_n 0, 0, 0), (15, .getfield 200, 11, 26), (18, .invokevirtual 203, 241, 0), (21, .bipush 10, 0, 0), (23, .if_icmp .ne 16, 39, 0),
  (26, .aload_n 0, 0, 0), (27, .dup, 0, 0), (28, .getfield 200, 11, 26), (31, .iconst 1, 0, 0), (32, .iadd, 0, 0), (33, .putfield 200, 11, 26), (36, .goto (-36), 0, 0), (39, .aload_n 0, 0, 0), (40, .aload_n 0, 0, 0), (41, .getfield 200, 11, 26), (44, .putfield 206, 11, 27), (47, .aload_n 0, 0, 0),
  (48, .aload_n 0, 0, 0), (49, .getfield 200, 11, 26), (52, .invokevirtual 203, 241, 0), (55, .istore_n 1, 0, 0), (56, .aload_n 0, 0, 0), (57, .iconst 0, 0, 0), (58, .putfield 209, 11, 28), (61, .iload_n 1, 0, 0), (62, .iconst (-1), 0, 0), (63, .if_icmp .ne 11, 74, 0), (66, .aload_n 0, 0, 0), (67, .iconst 0, 0, 0),
  (68, .putfield 212, 11, 29), (71, .goto 158, 229, 0), (74, .iload_n 1, 0, 0), (75, .bipush 97, 0, 0), (77, .bipush 122, 0, 0), (79, .invokestatic 197, 196, 0), (82, .ifCond .eq 39, 121, 0), (85, .aload_n 0, 0, 0), (86, .iconst 1, 0, 0), (87, .putfield 212, 11, 29), (90, .aload_n 0, 0, 0), (91, .aload_n 0, 0, 0),
  (92, .getfield 200, 11, 26), (95, .invokevirtual 203, 241, 0), (98, .bipush 97, 0, 0), (100, .bipush 122, 0, 0), (102, .invokestatic 197, 196, 0), (105, .ifCond .eq 124, 229, 0), (108, .aload_n 0, 0, 0), (109, .dup, 0, 0), (110, .getfield 200, 11, 26), (113, .iconst 1, 0, 0), (114, .iadd, 0, 0), (115, .putfield 200, 11, 26),
  (118, .goto (-28), 90, 0), (121, .iload_n 1, 0, 0), (122, .bipush 48, 0, 0), (124, .bipush 57, 0, 0), (126, .invokestatic 197, 196, 0), (129, .ifCond .eq 75, 204, 0), (132, .aload_n 0, 0, 0), (133, .iconst 2, 0, 0), (134, .putfield 212, 11, 29), (137, .aload_n 0, 0, 0), (138, .aload_n 0, 0, 0), (139, .getfield 200, 11, 26),
  (142, .invokevirtual 203, 241, 0), (145, .bipush 48, 0, 0), (147, .bipush 57, 0, 0), (149, .invokestatic 197, 196, 0), (152, .ifCond .eq 77, 229, 0), (155, .aload_n 0, 0, 0), (156, .getfield 200, 11, 26), (159, .aload_n 0, 0, 0), (160, .getfield 206, 11, 27), (163, .isub, 0, 0), (164, .iconst 2, 0, 0), (165, .if_icmp .ge 26, 191, 0),
  (168, .aload_n 0, 0, 0), (169, .bipush 10, 0, 0), (171, .aload_n 0, 0, 0), (172, .getfield 209, 11, 28), (175, .imul, 0, 0), (176, .aload_n 0, 0, 0), (177, .aload_n 0, 0, 0), (178, .getfield 200, 11, 26), (181, .invokevirtual 203, 241, 0), (184, .iadd, 0, 0), (185, .bipush 48, 0, 0), (187, .isub, 0, 0),
  (188, .putfield 209, 11, 28), (191, .aload_n 0, 0, 0), (192, .dup, 0, 0), (193, .getfield 200, 11, 26), (196, .iconst 1, 0, 0), (197, .iadd, 0, 0), (198, .putfield 200, 11, 26), (201, .goto (-64), 137, 0), (204, .aload_n 0, 0, 0), (205, .iload_n 1, 0, 0), (206, .bipush 59, 0, 0), (208, .if_icmp .ne 7, 215, 0),
  (211, .iconst 3, 0, 0), (212, .goto 4, 216, 0), (215, .iconst 4, 0, 0), (216, .putfield 212, 11, 29), (219, .aload_n 0, 0, 0), (220, .dup, 0, 0), (221, .getfield 200, 11, 26), (224, .iconst 1, 0, 0), (225, .iadd, 0, 0), (226, .putfield 200, 11, 26), (229, .return_, 0, 0)], 2, 1, false, none, [], 11)
def am_n242 : amN := (yX12_advanceToken, cX12_advanceToken, [])
def am_h242 : List (List Nat) := [[], [], [1558], [1658, 1660, 45, 134, 1661], [], [], [], [], [1558], [1658, 1660, 45, 134, 1661], [], [], [], [], [1558], [], [], [1558], [], [], [], [1558], [1559], [], [], [1558], [1658, 1660, 45, 134, 1661], [], [], [], [1560], [], [], [], [], [], [1561], [], [], [], [], [1644, 1645, 134, 1646], [], [], [], [1561], [], [], [1558], [1658, 1660, 45, 134, 1661], [], [], [1644, 1645, 134, 1646], [], [], [], [1558], [], [], [1558], [], [], [], [], [1644, 1645, 134, 1646], [], [], [], [1561], [], [], [1558], [1658, 1660, 45, 134, 1661], [], [], [1644, 1645, 134, 1646], [], [], [1558], [], [1559], [], [], [], [], [], [], [1560], [], [], [], [1558], [1658, 1660, 45, 134, 1661], [], [], [], [1560], [], [], [1558], [], [], [1558], [], [], [], [], [], [], [], [], [1561], [], [], [1558], [], [], [1558], []]
def am_g242 : List (Nat × Nat) := []
def am_m243 : amM := ([(0, .aload_n 0, 0, 0), (1, .getfield 200, 11, 26), (4, .aload_n 0, 0, 0), (5, .getfield 206, 11, 27), (8, .isub, 0, 0), (9, .ireturn, 0, 0)], 1, 1, false, (some .int), [], 11)
def am_n243 : amN := (yX12_tokenLength, cX12_tokenLength, [])
def am_h243 : List (List Nat) := [[], [1558], [], [1559], [], []]
def am_g243 : List (Nat × Nat) := []
def am_m244 : amM := ([(0, .aload_n 0, 0, 0), (1, .getfield 215, 11, 24), (4, .ifCond .ne 16, 20, 0), (7, .aload_n 0, 0, 0), (8, .iload_n 1, 0, 0), (9, .putfield 215, 11, 24), (12, .aload_n 0, 0, 0), (13, .aload_n 0, 0, 0), (14, .getfield 206, 11, 27), (17, .putfield 218, 11, 25), (20, .iconst 0, 0, 0), (21, .ireturn, 0, 0)], 2, 2, false, (some .boolean), [], 11)
def am_n244 : amN := (yX12_failsAt, cX12_failsAt, [])
def am_h244 : List (List Nat) := [[], [1556], [], [], [], [1556], [], [], [1559], [1557], [], []]
def am_g244 : List (Nat × Nat) := []
def am_m245 : amM := ([(0, .aload_n 0, 0, 0), (1, .getfield 212, 11, 29), (4, .iconst 1, 0, 0), (5, .if_icmp .ne 14, 19, 0), (8, .aload_n 0, 0, 0), (9, .invokevirtual 221, 243, 0), (12, .aload_n 1, 0, 0), (13, .invokevirtual 224, 0, 7), (16, .if_icmp .eq 5, 21, 0), (19, .iconst 0, 0, 0), (20, .ireturn, 0, 0), (21, .iconst 0, 0, 0),
  (22, .istore_n 2, 0, 0), (23, .iload_n 2, 0, 0), (24, .aload_n 1, 0, 0), (25, .invokevirtual 224, 0, 7), (28, .if_icmp .ge 30, 58, 0), (31, .aload_n 0, 0, 0), (32, .getfield 50, 11, 20), (35, .aload_n 0, 0, 0), (36, .getfield 206, 11, 27), (39, .iload_n 2, 0, 0), (40, .iadd, 0, 0), (41, .iaload, 0, 0),
  (42, .aload_n 1, 0, 0), (43, .iload_n 2, 0, 0), (44, .invokevirtual 229, 0, 8), (47, .if_icmp .eq 5, 52, 0), (50, .iconst 0, 0, 0), (51, .ireturn, 0, 0), (52, .iinc 2 1, 0, 0), (55, .goto (-32), 23, 0), (58, .iconst 1, 0, 0), (59, .ireturn, 0, 0)], 3, 2, false, (some .boolean), [], 11)
def am_n245 : amN := (yX12_isWord, cX12_isWord, [])
def am_h245 : List (List Nat) := [[], [1561], [], [], [], [1675, 1677, 49, 134, 1678], [], [1679], [], [], [], [], [], [], [], [1679], [], [], [1552], [], [1559], [], [], [], [], [], [1680], [], [], [], [], [], [], []]
def am_g245 : List (Nat × Nat) := []
def am_m246 : amM := ([(0, .aload_n 0, 0, 0), (1, .getfield 212, 11, 29), (4, .iconst 2, 0, 0), (5, .if_icmp .ne 11, 16, 0), (8, .aload_n 0, 0, 0), (9, .invokevirtual 221, 243, 0), (12, .iconst 2, 0, 0), (13, .if_icmp .le 9, 22, 0), (16, .aload_n 0, 0, 0), (17, .iconst 1, 0, 0), (18, .invokevirtual 233, 244, 0), (21, .ireturn, 0, 0),
  (22, .aload_n 0, 0, 0), (23, .getfield 209, 11, 28), (26, .iload_n 2, 0, 0), (27, .iload_n 3, 0, 0), (28, .invokestatic 197, 196, 0), (31, .ifCond .ne 9, 40, 0), (34, .aload_n 0, 0, 0), (35, .iconst 2, 0, 0), (36, .invokevirtual 233, 244, 0), (39, .ireturn, 0, 0), (40, .iconst 0, 0, 0), (41, .istore 4, 0, 0),
  (43, .iload 4, 0, 0), (45, .iload_n 1, 0, 0), (46, .if_icmp .ge 29, 75, 0), (49, .aload_n 0, 0, 0), (50, .getfield 57, 11, 30), (53, .iload 4, 0, 0), (55, .iaload, 0, 0), (56, .aload_n 0, 0, 0), (57, .getfield 209, 11, 28), (60, .if_icmp .ne 9, 69, 0), (63, .aload_n 0, 0, 0), (64, .iconst 2, 0, 0),
  (65, .invokevirtual 233, 244, 0), (68, .ireturn, 0, 0), (69, .iinc 4 1, 0, 0), (72, .goto (-29), 43, 0), (75, .aload_n 0, 0, 0), (76, .getfield 57, 11, 30), (79, .iload_n 1, 0, 0), (80, .aload_n 0, 0, 0), (81, .getfield 209, 11, 28), (84, .iastore, 0, 0), (85, .aload_n 0, 0, 0), (86, .invokevirtual 236, 242, 0),
  (89, .iconst 1, 0, 0), (90, .ireturn, 0, 0)], 5, 4, false, (some .boolean), [], 11)
def am_n246 : amN := (yX12_takesPoint, cX12_takesPoint, [])
def am_h246 : List (List Nat) := [[], [1561], [], [], [], [1675, 1677, 49, 134, 1678], [], [], [], [], [1681, 1683, 50, 134, 1684], [], [], [1560], [], [], [1644, 1645, 134, 1646], [], [], [], [1681, 1683, 50, 134, 1684], [], [], [], [], [], [], [], [1562], [], [], [], [1560], [], [], [], [1681, 1683, 50, 134, 1684], [], [], [], [], [1562], [], [], [1560], [], [], [1654, 1656, 44, 134, 1657], [], []]
def am_g246 : List (Nat × Nat) := []
def am_m247 : amM := ([(0, .aload_n 0, 0, 0), (1, .invokevirtual 236, 242, 0), (4, .iconst 0, 0, 0), (5, .istore_n 2, 0, 0), (6, .iload_n 2, 0, 0), (7, .iconst 3, 0, 0), (8, .if_icmp .ge 26, 34, 0), (11, .aload_n 0, 0, 0), (12, .iload_n 2, 0, 0), (13, .iconst 0, 0, 0), (14, .aload_n 0, 0, 0), (15, .invokevirtual 95, 203, 0),
  (18, .iconst 1, 0, 0), (19, .isub, 0, 0), (20, .invokevirtual 239, 246, 0), (23, .ifCond .ne 5, 28, 0), (26, .iconst 0, 0, 0), (27, .ireturn, 0, 0), (28, .iinc 2 1, 0, 0), (31, .goto (-25), 6, 0), (34, .aload_n 0, 0, 0), (35, .getfield 212, 11, 29), (38, .iconst 3, 0, 0), (39, .if_icmp .eq 9, 48, 0),
  (42, .aload_n 0, 0, 0), (43, .iconst 1, 0, 0), (44, .invokevirtual 233, 244, 0), (47, .ireturn, 0, 0), (48, .iload_n 1, 0, 0), (49, .ifCond .eq 43, 92, 0), (52, .aload_n 0, 0, 0), (53, .aload_n 0, 0, 0), (54, .getfield 57, 11, 30), (57, .iconst 0, 0, 0), (58, .iaload, 0, 0), (59, .aload_n 0, 0, 0),
  (60, .getfield 57, 11, 30), (63, .iconst 1, 0, 0), (64, .iaload, 0, 0), (65, .aload_n 0, 0, 0), (66, .getfield 57, 11, 30), (69, .iconst 2, 0, 0), (70, .iaload, 0, 0), (71, .invokevirtual 242, 237, 0), (74, .iconst (-1), 0, 0), (75, .if_icmp .ne 11, 86, 0), (78, .aload_n 0, 0, 0), (79, .iconst 3, 0, 0),
  (80, .invokevirtual 233, 244, 0), (83, .ifCond .eq 7, 90, 0), (86, .iconst 1, 0, 0), (87, .goto 4, 91, 0), (90, .iconst 0, 0, 0), (91, .ireturn, 0, 0), (92, .aload_n 0, 0, 0), (93, .aload_n 0, 0, 0), (94, .getfield 57, 11, 30), (97, .iconst 0, 0, 0), (98, .iaload, 0, 0), (99, .aload_n 0, 0, 0),
  (100, .getfield 57, 11, 30), (103, .iconst 1, 0, 0), (104, .iaload, 0, 0), (105, .aload_n 0, 0, 0), (106, .getfield 57, 11, 30), (109, .iconst 2, 0, 0), (110, .iaload, 0, 0), (111, .invokevirtual 188, 210, 0), (114, .ifCond .ne 9, 123, 0), (117, .aload_n 0, 0, 0), (118, .iconst 3, 0, 0), (119, .invokevirtual 233, 244, 0),
  (122, .ireturn, 0, 0), (123, .aload_n 0, 0, 0), (124, .aload_n 0, 0, 0), (125, .getfield 57, 11, 30), (128, .iconst 0, 0, 0), (129, .iaload, 0, 0), (130, .aload_n 0, 0, 0), (131, .getfield 57, 11, 30), (134, .iconst 1, 0, 0), (135, .iaload, 0, 0), (136, .aload_n 0, 0, 0), (137, .getfield 57, 11, 30),
  (140, .iconst 2, 0, 0), (141, .iaload, 0, 0), (142, .invokevirtual 137, 206, 0), (145, .iconst 1, 0, 0), (146, .ireturn, 0, 0)], 3, 2, false, (some .boolean), [], 11)
def am_n247 : amN := (yX12_readTriple, cX12_readTriple, [])
def am_h247 : List (List Nat) := [[], [1654, 1656, 44, 134, 1657], [], [], [], [], [], [], [], [], [], [1698, 1700, 54, 134, 1701], [], [], [1685, 1687, 51, 134, 1688], [], [], [], [], [], [], [1561], [], [], [], [], [1681, 1683, 50, 134, 1684], [], [], [], [], [], [1562], [], [], [], [1562], [], [], [], [1562], [], [], [1702, 1704, 55, 134, 1705], [], [], [], [], [1681, 1683, 50, 134, 1684], [], [], [], [], [], [], [], [1562], [], [], [], [1562], [], [], [], [1562], [], [], [1710, 1712, 57, 134, 1713], [], [], [], [1681, 1683, 50, 134, 1684], [], [], [], [1562], [], [], [], [1562], [], [], [], [1562], [], [], [1726, 1728, 61, 134, 1729], [], []]
def am_g247 : List (Nat × Nat) := []
def am_m248 : amM := ([(0, .aload_n 0, 0, 0), (1, .ldc 245, 19, 1), (3, .invokevirtual 246, 245, 0), (6, .ifCond .ne 9, 15, 0), (9, .aload_n 0, 0, 0), (10, .iconst 1, 0, 0), (11, .invokevirtual 233, 244, 0), (14, .ireturn, 0, 0), (15, .aload_n 0, 0, 0), (16, .invokevirtual 236, 242, 0), (19, .aload_n 0, 0, 0), (20, .iconst 0, 0, 0),
  (21, .iconst 3, 0, 0), (22, .bipush 15, 0, 0), (24, .invokevirtual 239, 246, 0), (27, .ifCond .ne 5, 32, 0), (30, .iconst 0, 0, 0), (31, .ireturn, 0, 0), (32, .aload_n 0, 0, 0), (33, .getfield 7, 11, 0), (36, .iconst 0, 0, 0), (37, .aload_n 0, 0, 0), (38, .getfield 57, 11, 30), (41, .iconst 0, 0, 0),
  (42, .iaload, 0, 0), (43, .iastore, 0, 0), (44, .aload_n 0, 0, 0), (45, .getfield 212, 11, 29), (48, .iconst 3, 0, 0), (49, .if_icmp .eq 11, 60, 0), (52, .aload_n 0, 0, 0), (53, .iconst 1, 0, 0), (54, .invokevirtual 233, 244, 0), (57, .ifCond .eq 7, 64, 0), (60, .iconst 1, 0, 0), (61, .goto 4, 65, 0),
  (64, .iconst 0, 0, 0), (65, .ireturn, 0, 0)], 1, 1, false, (some .boolean), [], 11)
def am_n248 : amN := (yX12_readPoints, cX12_readPoints, [])
def am_h248 : List (List Nat) := [[], [], [1671, 1673, 48, 134, 1674], [], [], [], [1681, 1683, 50, 134, 1684], [], [], [1654, 1656, 44, 134, 1657], [], [], [], [], [1685, 1687, 51, 134, 1688], [], [], [], [], [1532], [], [], [1562], [], [], [], [], [1561], [], [], [], [], [1681, 1683, 50, 134, 1684], [], [], [], [], []]
def am_g248 : List (Nat × Nat) := []
def am_m249 : amM := ([(0, .aload_n 0, 0, 0), (1, .ldc 250, 20, 1), (3, .invokevirtual 246, 245, 0), (6, .ifCond .eq 9, 15, 0), (9, .aload_n 0, 0, 0), (10, .iconst 0, 0, 0), (11, .invokevirtual 252, 247, 0), (14, .ireturn, 0, 0), (15, .aload_n 0, 0, 0), (16, .ldc_w 256, 21, 1), (19, .invokevirtual 246, 245, 0), (22, .ifCond .eq 11, 33, 0),
  (25, .aload_n 0, 0, 0), (26, .iconst 1, 0, 0), (27, .invokevirtual 252, 247, 0), (30, .goto 8, 38, 0), (33, .aload_n 0, 0, 0), (34, .iconst 1, 0, 0), (35, .invokevirtual 233, 244, 0), (38, .ireturn, 0, 0)], 1, 1, false, (some .boolean), [], 11)
def am_n249 : amN := (yX12_readStatement, cX12_readStatement, [])
def am_h249 : List (List Nat) := [[], [], [1671, 1673, 48, 134, 1674], [], [], [], [1694, 1696, 53, 134, 1697], [], [], [], [1671, 1673, 48, 134, 1674], [], [], [], [1694, 1696, 53, 134, 1697], [], [], [], [1681, 1683, 50, 134, 1684], []]
def am_g249 : List (Nat × Nat) := []
def am_m250 : amM := ([(0, .aload_n 0, 0, 0), (1, .invokevirtual 258, 248, 0), (4, .ifCond .ne 5, 9, 0), (7, .iconst 0, 0, 0), (8, .ireturn, 0, 0), (9, .aload_n 0, 0, 0), (10, .invokevirtual 236, 242, 0), (13, .aload_n 0, 0, 0), (14, .getfield 212, 11, 29), (17, .ifCond .eq 19, 36, 0), (20, .aload_n 0, 0, 0), (21, .invokevirtual 262, 249, 0),
  (24, .ifCond .ne 5, 29, 0), (27, .iconst 0, 0, 0), (28, .ireturn, 0, 0), (29, .aload_n 0, 0, 0), (30, .invokevirtual 236, 242, 0), (33, .goto (-20), 13, 0), (36, .iconst 1, 0, 0), (37, .ireturn, 0, 0)], 1, 1, false, (some .boolean), [], 11)
def am_n250 : amN := (yX12_readText, cX12_readText, [])
def am_h250 : List (List Nat) := [[], [1666, 1668, 47, 134, 1669], [], [], [], [], [1654, 1656, 44, 134, 1657], [], [1561], [], [], [1689, 1691, 52, 134, 1692], [], [], [], [], [1654, 1656, 44, 134, 1657], [], [], []]
def am_g250 : List (Nat × Nat) := []
def am_m251 : amM := ([(0, .aload_n 0, 0, 0), (1, .iconst 0, 0, 0), (2, .putfield 67, 11, 7), (5, .aload_n 0, 0, 0), (6, .getfield 7, 11, 0), (9, .iconst 0, 0, 0), (10, .aload_n 0, 0, 0), (11, .getfield 13, 11, 1), (14, .iconst 0, 0, 0), (15, .sipush 229, 0, 0), (18, .invokestatic 73, 198, 0), (21, .aload_n 0, 0, 0),
  (22, .iconst 3, 0, 0), (23, .invokevirtual 63, 199, 0), (26, .aload_n 0, 0, 0), (27, .iconst 0, 0, 0), (28, .putfield 215, 11, 24), (31, .aload_n 0, 0, 0), (32, .iconst (-1), 0, 0), (33, .putfield 218, 11, 25), (36, .aload_n 0, 0, 0), (37, .iconst 0, 0, 0), (38, .putfield 200, 11, 26), (41, .aload_n 0, 0, 0),
  (42, .invokevirtual 236, 242, 0), (45, .aload_n 0, 0, 0), (46, .invokevirtual 265, 250, 0), (49, .istore_n 1, 0, 0), (50, .aload_n 0, 0, 0), (51, .iconst 0, 0, 0), (52, .putfield 191, 11, 21), (55, .aload_n 0, 0, 0), (56, .aload_n 0, 0, 0), (57, .getfield 215, 11, 24), (60, .putfield 268, 11, 22), (63, .aload_n 0, 0, 0),
  (64, .aload_n 0, 0, 0), (65, .getfield 218, 11, 25), (68, .putfield 53, 11, 23), (71, .iload_n 1, 0, 0), (72, .ifCond .ne 21, 93, 0), (75, .aload_n 0, 0, 0), (76, .getfield 13, 11, 1), (79, .iconst 0, 0, 0), (80, .aload_n 0, 0, 0), (81, .getfield 7, 11, 0), (84, .iconst 0, 0, 0), (85, .sipush 229, 0, 0),
  (88, .invokestatic 73, 198, 0), (91, .iconst (-1), 0, 0), (92, .ireturn, 0, 0), (93, .aload_n 0, 0, 0), (94, .iconst 0, 0, 0), (95, .putfield 70, 11, 5), (98, .aload_n 0, 0, 0), (99, .iconst 0, 0, 0), (100, .putfield 271, 11, 6), (103, .aload_n 0, 0, 0), (104, .invokevirtual 105, 213, 0), (107, .ireturn, 0, 0)], 2, 1, false, (some .int), [], 11)
def am_n251 : amN := (yX12_loadSystem, cX12_loadSystem, [])
def am_h251 : List (List Nat) := [[], [], [1539], [], [1532], [], [], [1533], [], [], [1651, 1652, 134, 1653], [], [], [1528, 1530, 42, 134, 1531], [], [], [1556], [], [], [1557], [], [], [1558], [], [1654, 1656, 44, 134, 1657], [], [1662, 1664, 46, 134, 1665], [], [], [], [1553], [], [], [1556], [1554], [], [], [1557], [1555], [], [], [], [1533], [], [], [1532], [], [], [1651, 1652, 134, 1653], [], [], [], [], [1537], [], [], [1538], [], [1735, 1737, 63, 134, 1738], []]
def am_g251 : List (Nat × Nat) := []
def am_m252 : amM := ([(0, .aload_n 0, 0, 0), (1, .iconst 0, 0, 0), (2, .putfield 67, 11, 7), (5, .aload_n 0, 0, 0), (6, .getfield 268, 11, 22), (9, .ireturn, 0, 0)], 1, 1, false, (some .int), [], 11)
def am_n252 : amN := (yX12_errorCode, cX12_errorCode, [])
def am_h252 : List (List Nat) := [[], [], [1539], [], [1554], []]
def am_g252 : List (Nat × Nat) := []
def am_m253 : amM := ([(0, .aload_n 0, 0, 0), (1, .iconst 0, 0, 0), (2, .putfield 67, 11, 7), (5, .aload_n 0, 0, 0), (6, .getfield 53, 11, 23), (9, .ireturn, 0, 0)], 1, 1, false, (some .int), [], 11)
def am_n253 : amN := (yX12_errorOffset, cX12_errorOffset, [])
def am_h253 : List (List Nat) := [[], [], [1539], [], [1555], []]
def am_g253 : List (Nat × Nat) := []
def am_m254 : amM := ([(0, .aload_n 0, 0, 0), (1, .iconst 0, 0, 0), (2, .putfield 67, 11, 7), (5, .aload_n 0, 0, 0), (6, .iload_n 1, 0, 0), (7, .iconst 0, 0, 0), (8, .aload_n 0, 0, 0), (9, .invokevirtual 95, 203, 0), (12, .iconst 1, 0, 0), (13, .isub, 0, 0), (14, .invokestatic 197, 196, 0), (17, .ifCond .ne 7, 24, 0),
  (20, .iconst 1, 0, 0), (21, .goto 4, 25, 0), (24, .iconst 0, 0, 0), (25, .iconst 1, 0, 0), (26, .invokevirtual 275, 197, 0), (29, .ireturn, 0, 0)], 2, 2, false, (some .boolean), [], 11)
def am_n254 : amN := (yX12_noPoint, cX12_noPoint, [])
def am_h254 : List (List Nat) := [[], [], [1539], [], [], [], [], [1698, 1700, 54, 134, 1701], [], [], [1644, 1645, 134, 1646], [], [], [], [], [], [1755, 1757, 65, 134, 1758], []]
def am_g254 : List (Nat × Nat) := []
def am_m255 : amM := ([(0, .aload_n 0, 0, 0), (1, .iload_n 1, 0, 0), (2, .invokevirtual 279, 254, 0), (5, .ifCond .ne 29, 34, 0), (8, .aload_n 0, 0, 0), (9, .iload_n 2, 0, 0), (10, .invokevirtual 279, 254, 0), (13, .ifCond .ne 21, 34, 0), (16, .aload_n 0, 0, 0), (17, .iload_n 1, 0, 0), (18, .iload_n 2, 0, 0), (19, .if_icmp .ne 7, 26, 0),
  (22, .iconst 1, 0, 0), (23, .goto 4, 27, 0), (26, .iconst 0, 0, 0), (27, .iconst 2, 0, 0), (28, .invokevirtual 275, 197, 0), (31, .ifCond .eq 7, 38, 0), (34, .iconst 1, 0, 0), (35, .goto 4, 39, 0), (38, .iconst 0, 0, 0), (39, .ireturn, 0, 0)], 3, 3, false, (some .boolean), [], 11)
def am_n255 : amN := (yX12_noPair, cX12_noPair, [])
def am_h255 : List (List Nat) := [[], [], [1816, 1818, 76, 134, 1819], [], [], [], [1816, 1818, 76, 134, 1819], [], [], [], [], [], [], [], [], [], [1755, 1757, 65, 134, 1758], [], [], [], [], []]
def am_g255 : List (Nat × Nat) := []
def am_m256 : amM := ([(0, .aload_n 0, 0, 0), (1, .iload_n 1, 0, 0), (2, .invokevirtual 279, 254, 0), (5, .ifCond .ne 47, 52, 0), (8, .aload_n 0, 0, 0), (9, .iload_n 2, 0, 0), (10, .invokevirtual 279, 254, 0), (13, .ifCond .ne 39, 52, 0), (16, .aload_n 0, 0, 0), (17, .iload_n 3, 0, 0), (18, .invokevirtual 279, 254, 0), (21, .ifCond .ne 31, 52, 0),
  (24, .aload_n 0, 0, 0), (25, .iload_n 1, 0, 0), (26, .iload_n 2, 0, 0), (27, .if_icmp .eq 13, 40, 0), (30, .iload_n 2, 0, 0), (31, .iload_n 3, 0, 0), (32, .if_icmp .eq 8, 40, 0), (35, .iload_n 1, 0, 0), (36, .iload_n 3, 0, 0), (37, .if_icmp .ne 7, 44, 0), (40, .iconst 1, 0, 0), (41, .goto 4, 45, 0),
  (44, .iconst 0, 0, 0), (45, .iconst 2, 0, 0), (46, .invokevirtual 275, 197, 0), (49, .ifCond .eq 7, 56, 0), (52, .iconst 1, 0, 0), (53, .goto 4, 57, 0), (56, .iconst 0, 0, 0), (57, .ireturn, 0, 0)], 4, 4, false, (some .boolean), [], 11)
def am_n256 : amN := (yX12_noSet, cX12_noSet, [])
def am_h256 : List (List Nat) := [[], [], [1816, 1818, 76, 134, 1819], [], [], [], [1816, 1818, 76, 134, 1819], [], [], [], [1816, 1818, 76, 134, 1819], [], [], [], [], [], [], [], [], [], [], [], [], [], [], [], [1755, 1757, 65, 134, 1758], [], [], [], [], []]
def am_g256 : List (Nat × Nat) := []
def am_m257 : amM := ([(0, .aload_n 0, 0, 0), (1, .iconst 0, 0, 0), (2, .putfield 67, 11, 7), (5, .aload_n 0, 0, 0), (6, .invokevirtual 99, 211, 0), (9, .aload_n 0, 0, 0), (10, .iload_n 1, 0, 0), (11, .iconst 0, 0, 0), (12, .aload_n 0, 0, 0), (13, .getfield 92, 11, 12), (16, .iconst 1, 0, 0), (17, .isub, 0, 0),
  (18, .invokestatic 197, 196, 0), (21, .ifCond .ne 7, 28, 0), (24, .iconst 1, 0, 0), (25, .goto 4, 29, 0), (28, .iconst 0, 0, 0), (29, .iconst 1, 0, 0), (30, .invokevirtual 275, 197, 0), (33, .ireturn, 0, 0)], 2, 2, false, (some .boolean), [], 11)
def am_n257 : amN := (yX12_noTriple, cX12_noTriple, [])
def am_h257 : List (List Nat) := [[], [], [1539], [], [1739, 1741, 64, 134, 1742], [], [], [], [], [1544], [], [], [1644, 1645, 134, 1646], [], [], [], [], [], [1755, 1757, 65, 134, 1758], []]
def am_g257 : List (Nat × Nat) := []
def am_m258 : amM := ([(0, .aload_n 0, 0, 0), (1, .iconst 0, 0, 0), (2, .putfield 67, 11, 7), (5, .aload_n 0, 0, 0), (6, .invokevirtual 155, 216, 0), (9, .aload_n 0, 0, 0), (10, .iload_n 1, 0, 0), (11, .iconst 0, 0, 0), (12, .aload_n 0, 0, 0), (13, .getfield 108, 11, 14), (16, .iconst 1, 0, 0), (17, .isub, 0, 0),
  (18, .invokestatic 197, 196, 0), (21, .ifCond .ne 7, 28, 0), (24, .iconst 1, 0, 0), (25, .goto 4, 29, 0), (28, .iconst 0, 0, 0), (29, .iconst 1, 0, 0), (30, .invokevirtual 275, 197, 0), (33, .ireturn, 0, 0)], 2, 2, false, (some .boolean), [], 11)
def am_n258 : amN := (yX12_noQuad, cX12_noQuad, [])
def am_h258 : List (List Nat) := [[], [], [1539], [], [1771, 1773, 69, 134, 1774], [], [], [], [], [1546], [], [], [1644, 1645, 134, 1646], [], [], [], [], [], [1755, 1757, 65, 134, 1758], []]
def am_g258 : List (Nat × Nat) := []
def am_m259 : amM := ([(0, .aload_n 0, 0, 0), (1, .iload_n 1, 0, 0), (2, .iload_n 2, 0, 0), (3, .invokevirtual 282, 255, 0), (6, .ifCond .eq 5, 11, 0), (9, .iconst 1, 0, 0), (10, .ireturn, 0, 0), (11, .aload_n 0, 0, 0), (12, .invokevirtual 99, 211, 0), (15, .aload_n 0, 0, 0), (16, .aload_n 0, 0, 0), (17, .iload_n 1, 0, 0),
  (18, .iload_n 2, 0, 0), (19, .iload_n 3, 0, 0), (20, .invokevirtual 286, 228, 0), (23, .ifCond .ne 7, 30, 0), (26, .iconst 1, 0, 0), (27, .goto 4, 31, 0), (30, .iconst 0, 0, 0), (31, .iconst 3, 0, 0), (32, .invokevirtual 275, 197, 0), (35, .ireturn, 0, 0)], 4, 4, false, (some .boolean), [], 11)
def am_n259 : amN := (yX12_noCycle, cX12_noCycle, [])
def am_h259 : List (List Nat) := [[], [], [], [1824, 1826, 77, 134, 1827], [], [], [], [], [1739, 1741, 64, 134, 1742], [], [], [], [], [], [2019, 2021, 100, 134, 2022], [], [], [], [], [], [1755, 1757, 65, 134, 1758], []]
def am_g259 : List (Nat × Nat) := []
def am_m260 : amM := ([(0, .aload_n 0, 0, 0), (1, .iconst 0, 0, 0), (2, .putfield 67, 11, 7), (5, .aload_n 0, 0, 0), (6, .iload_n 1, 0, 0), (7, .iconst 0, 0, 0), (8, .bipush 7, 0, 0), (10, .invokestatic 197, 196, 0), (13, .ifCond .ne 7, 20, 0), (16, .iconst 1, 0, 0), (17, .goto 4, 21, 0), (20, .iconst 0, 0, 0),
  (21, .iconst 1, 0, 0), (22, .invokevirtual 275, 197, 0), (25, .ifCond .eq 5, 30, 0), (28, .iconst 0, 0, 0), (29, .ireturn, 0, 0), (30, .iload_n 1, 0, 0), (31, .tableswitch 70 0 7 #[45, 50, 55, 60, 70, 70, 70, 65], 0, 0), (76, .aload_n 0, 0, 0), (77, .invokevirtual 95, 203, 0), (80, .ireturn, 0, 0), (81, .aload_n 0, 0, 0), (82, .invokevirtual 105, 213, 0),
  (85, .ireturn, 0, 0), (86, .aload_n 0, 0, 0), (87, .invokevirtual 289, 215, 0), (90, .ireturn, 0, 0), (91, .aload_n 0, 0, 0), (92, .invokevirtual 292, 261, 0), (95, .ireturn, 0, 0), (96, .aload_n 0, 0, 0), (97, .getfield 70, 11, 5), (100, .ireturn, 0, 0), (101, .aload_n 0, 0, 0), (102, .getfield 7, 11, 0),
  (105, .iconst 1, 0, 0), (106, .iload_n 1, 0, 0), (107, .iadd, 0, 0), (108, .iconst 4, 0, 0), (109, .isub, 0, 0), (110, .iaload, 0, 0), (111, .ireturn, 0, 0)], 2, 2, false, (some .int), [], 11)
def am_n260 : amN := (yX12_count, cX12_count, [])
def am_h260 : List (List Nat) := [[], [], [1539], [], [], [], [], [1644, 1645, 134, 1646], [], [], [], [], [], [1755, 1757, 65, 134, 1758], [], [], [], [], [], [], [1698, 1700, 54, 134, 1701], [], [], [1735, 1737, 63, 134, 1738], [], [], [1759, 1761, 66, 134, 1762], [], [], [1767, 1769, 68, 134, 1770], [], [], [1537], [], [], [1532], [], [], [], [], [], [], []]
def am_g260 : List (Nat × Nat) := []
def am_m261 : amM := ([(0, .aload_n 0, 0, 0), (1, .invokevirtual 155, 216, 0), (4, .aload_n 0, 0, 0), (5, .getfield 108, 11, 14), (8, .ireturn, 0, 0)], 1, 1, false, (some .int), [], 11)
def am_n261 : amN := (yX12_quadsNow, cX12_quadsNow, [])
def am_h261 : List (List Nat) := [[], [1771, 1773, 69, 134, 1774], [], [1546], []]
def am_g261 : List (Nat × Nat) := []
def am_m262 : amM := ([(0, .aload_n 0, 0, 0), (1, .invokevirtual 289, 215, 0), (4, .ifCond .ne 7, 11, 0), (7, .iconst 1, 0, 0), (8, .goto 4, 12, 0), (11, .iconst 0, 0, 0), (12, .ireturn, 0, 0)], 1, 1, false, (some .boolean), [], 11)
def am_n262 : amN := (yX12_isWhole, cX12_isWhole, [])
def am_h262 : List (List Nat) := [[], [1759, 1761, 66, 134, 1762], [], [], [], [], []]
def am_g262 : List (Nat × Nat) := []
def am_m263 : amM := ([(0, .aload_n 0, 0, 0), (1, .iconst 0, 0, 0), (2, .putfield 67, 11, 7), (5, .aload_n 0, 0, 0), (6, .invokevirtual 295, 262, 0), (9, .ireturn, 0, 0)], 1, 1, false, (some .boolean), [], 11)
def am_n263 : amN := (yX12_isComplete, cX12_isComplete, [])
def am_h263 : List (List Nat) := [[], [], [1539], [], [1796, 1798, 73, 134, 1799], []]
def am_g263 : List (Nat × Nat) := []
def am_m264 : amM := ([(0, .aload_n 0, 0, 0), (1, .iload_n 1, 0, 0), (2, .invokevirtual 298, 257, 0), (5, .ifCond .ne 25, 30, 0), (8, .aload_n 0, 0, 0), (9, .iload_n 2, 0, 0), (10, .iconst 0, 0, 0), (11, .iconst 2, 0, 0), (12, .invokestatic 197, 196, 0), (15, .ifCond .ne 7, 22, 0), (18, .iconst 1, 0, 0), (19, .goto 4, 23, 0),
  (22, .iconst 0, 0, 0), (23, .iconst 2, 0, 0), (24, .invokevirtual 275, 197, 0), (27, .ifCond .eq 5, 32, 0), (30, .iconst 0, 0, 0), (31, .ireturn, 0, 0), (32, .iload_n 2, 0, 0), (33, .ifCond .ne 12, 45, 0), (36, .aload_n 0, 0, 0), (37, .getfield 25, 11, 8), (40, .iload_n 1, 0, 0), (41, .iaload, 0, 0),
  (42, .goto 23, 65, 0), (45, .iload_n 2, 0, 0), (46, .iconst 1, 0, 0), (47, .if_icmp .ne 12, 59, 0), (50, .aload_n 0, 0, 0), (51, .getfield 28, 11, 9), (54, .iload_n 1, 0, 0), (55, .iaload, 0, 0), (56, .goto 9, 65, 0), (59, .aload_n 0, 0, 0), (60, .getfield 31, 11, 10), (63, .iload_n 1, 0, 0),
  (64, .iaload, 0, 0), (65, .ireturn, 0, 0)], 3, 3, false, (some .int), [], 11)
def am_n264 : amN := (yX12_triple, cX12_triple, [])
def am_h264 : List (List Nat) := [[], [], [1804, 1806, 74, 134, 1807], [], [], [], [], [], [1644, 1645, 134, 1646], [], [], [], [], [], [1755, 1757, 65, 134, 1758], [], [], [], [], [], [], [1540], [], [], [], [], [], [], [], [1541], [], [], [], [], [1542], [], [], []]
def am_g264 : List (Nat × Nat) := []
def am_m265 : amM := ([(0, .aload_n 0, 0, 0), (1, .iload_n 1, 0, 0), (2, .iload_n 2, 0, 0), (3, .iload_n 3, 0, 0), (4, .invokevirtual 301, 256, 0), (7, .ifCond .eq 5, 12, 0), (10, .iconst 0, 0, 0), (11, .ireturn, 0, 0), (12, .aload_n 0, 0, 0), (13, .invokevirtual 99, 211, 0), (16, .aload_n 0, 0, 0), (17, .iconst 1, 0, 0),
  (18, .iload_n 1, 0, 0), (19, .ishl, 0, 0), (20, .iconst 1, 0, 0), (21, .iload_n 2, 0, 0), (22, .ishl, 0, 0), (23, .ior, 0, 0), (24, .iconst 1, 0, 0), (25, .iload_n 3, 0, 0), (26, .ishl, 0, 0), (27, .ior, 0, 0), (28, .invokevirtual 115, 212, 0), (31, .ireturn, 0, 0)], 4, 4, false, (some .int), [], 11)
def am_n265 : amN := (yX12_find, cX12_find, [])
def am_h265 : List (List Nat) := [[], [], [], [], [1812, 1814, 75, 134, 1815], [], [], [], [], [1739, 1741, 64, 134, 1742], [], [], [], [], [], [], [], [], [], [], [], [], [1784, 1786, 71, 134, 1787], []]
def am_g265 : List (Nat × Nat) := []
def am_m266 : amM := ([(0, .aload_n 0, 0, 0), (1, .iload_n 1, 0, 0), (2, .iload_n 2, 0, 0), (3, .invokevirtual 282, 255, 0), (6, .ifCond .eq 7, 13, 0), (9, .iconst 0, 0, 0), (10, .goto 9, 19, 0), (13, .aload_n 0, 0, 0), (14, .iload_n 1, 0, 0), (15, .iload_n 2, 0, 0), (16, .invokevirtual 81, 204, 0), (19, .ireturn, 0, 0)], 3, 3, false, (some .int), [], 11)
def am_n266 : amN := (yX12_third, cX12_third, [])
def am_h266 : List (List Nat) := [[], [], [], [1824, 1826, 77, 134, 1827], [], [], [], [], [], [], [1722, 1724, 60, 134, 1725], []]
def am_g266 : List (Nat × Nat) := []
def am_m267 : amM := ([(0, .aload_n 0, 0, 0), (1, .iload_n 1, 0, 0), (2, .invokevirtual 279, 254, 0), (5, .ifCond .eq 5, 10, 0), (8, .iconst 0, 0, 0), (9, .ireturn, 0, 0), (10, .iconst 0, 0, 0), (11, .istore_n 2, 0, 0), (12, .iconst 0, 0, 0), (13, .istore_n 3, 0, 0), (14, .iload_n 3, 0, 0), (15, .aload_n 0, 0, 0),
  (16, .invokevirtual 95, 203, 0), (19, .if_icmp .ge 32, 51, 0), (22, .iload_n 2, 0, 0), (23, .iload_n 3, 0, 0), (24, .iload_n 1, 0, 0), (25, .if_icmp .eq 17, 42, 0), (28, .aload_n 0, 0, 0), (29, .iload_n 1, 0, 0), (30, .iload_n 3, 0, 0), (31, .invokevirtual 81, 204, 0), (34, .iconst (-1), 0, 0), (35, .if_icmp .eq 7, 42, 0),
  (38, .iconst 1, 0, 0), (39, .goto 4, 43, 0), (42, .iconst 0, 0, 0), (43, .iadd, 0, 0), (44, .istore_n 2, 0, 0), (45, .iinc 3 1, 0, 0), (48, .goto (-34), 14, 0), (51, .iload_n 2, 0, 0), (52, .iconst 2, 0, 0), (53, .idiv, 0, 0), (54, .ireturn, 0, 0)], 4, 2, false, (some .int), [], 11)
def am_n267 : amN := (yX12_degree, cX12_degree, [])
def am_h267 : List (List Nat) := [[], [], [1816, 1818, 76, 134, 1819], [], [], [], [], [], [], [], [], [], [1698, 1700, 54, 134, 1701], [], [], [], [], [], [], [], [], [1722, 1724, 60, 134, 1725], [], [], [], [], [], [], [], [], [], [], [], [], []]
def am_g267 : List (Nat × Nat) := []
def am_m268 : amM := ([(0, .aload_n 0, 0, 0), (1, .iconst 0, 0, 0), (2, .putfield 67, 11, 7), (5, .aload_n 0, 0, 0), (6, .iload_n 1, 0, 0), (7, .ifCond .ge 7, 14, 0), (10, .iconst 1, 0, 0), (11, .goto 4, 15, 0), (14, .iconst 0, 0, 0), (15, .iconst 1, 0, 0), (16, .invokevirtual 275, 197, 0), (19, .ifCond .eq 5, 24, 0),
  (22, .iconst 0, 0, 0), (23, .ireturn, 0, 0), (24, .iload_n 1, 0, 0), (25, .istore_n 2, 0, 0), (26, .iconst 0, 0, 0), (27, .istore_n 3, 0, 0), (28, .iload_n 3, 0, 0), (29, .aload_n 0, 0, 0), (30, .invokevirtual 95, 203, 0), (33, .if_icmp .ge 58, 91, 0), (36, .iload_n 3, 0, 0), (37, .iconst 1, 0, 0),
  (38, .iadd, 0, 0), (39, .istore 4, 0, 0), (41, .iload 4, 0, 0), (43, .aload_n 0, 0, 0), (44, .invokevirtual 95, 203, 0), (47, .if_icmp .ge 38, 85, 0), (50, .aload_n 0, 0, 0), (51, .iload_n 3, 0, 0), (52, .iload 4, 0, 0), (54, .invokevirtual 81, 204, 0), (57, .iconst (-1), 0, 0), (58, .if_icmp .eq 6, 64, 0),
  (61, .goto 18, 79, 0), (64, .iload_n 2, 0, 0), (65, .ifCond .ne 11, 76, 0), (68, .bipush 16, 0, 0), (70, .iload_n 3, 0, 0), (71, .imul, 0, 0), (72, .iload 4, 0, 0), (74, .iadd, 0, 0), (75, .ireturn, 0, 0), (76, .iinc 2 (-1), 0, 0), (79, .iinc 4 1, 0, 0), (82, .goto (-41), 41, 0),
  (85, .iinc 3 1, 0, 0), (88, .goto (-60), 28, 0), (91, .iconst (-1), 0, 0), (92, .ireturn, 0, 0)], 5, 2, false, (some .int), [], 11)
def am_n268 : amN := (yX12_uncovered, cX12_uncovered, [])
def am_h268 : List (List Nat) := [[], [], [1539], [], [], [], [], [], [], [], [1755, 1757, 65, 134, 1758], [], [], [], [], [], [], [], [], [], [1698, 1700, 54, 134, 1701], [], [], [], [], [], [], [], [1698, 1700, 54, 134, 1701], [], [], [], [], [1722, 1724, 60, 134, 1725], [], [], [], [], [], [], [], [], [], [], [], [], [], [], [], [], [], []]
def am_g268 : List (Nat × Nat) := []
def am_m269 : amM := ([(0, .aload_n 0, 0, 0), (1, .iload_n 1, 0, 0), (2, .iload_n 2, 0, 0), (3, .invokevirtual 81, 204, 0), (6, .iload_n 3, 0, 0), (7, .if_icmp .ne 5, 12, 0), (10, .iconst 1, 0, 0), (11, .ireturn, 0, 0), (12, .aload_n 0, 0, 0), (13, .iload_n 1, 0, 0), (14, .iload_n 2, 0, 0), (15, .iload_n 3, 0, 0),
  (16, .invokevirtual 88, 209, 0), (19, .istore 4, 0, 0), (21, .iload 4, 0, 0), (23, .ifCond .ne 7, 30, 0), (26, .iconst 0, 0, 0), (27, .goto 7, 34, 0), (30, .iconst 1, 0, 0), (31, .iload 4, 0, 0), (33, .iadd, 0, 0), (34, .ireturn, 0, 0)], 5, 4, false, (some .int), [], 11)
def am_n269 : amN := (yX12_reasonOf, cX12_reasonOf, [])
def am_h269 : List (List Nat) := [[], [], [], [1722, 1724, 60, 134, 1725], [], [], [], [], [], [], [], [], [1714, 1716, 58, 134, 1717], [], [], [], [], [], [], [], [], []]
def am_g269 : List (Nat × Nat) := []
def am_m270 : amM := ([(0, .aload_n 0, 0, 0), (1, .iload_n 1, 0, 0), (2, .iload_n 2, 0, 0), (3, .iload_n 3, 0, 0), (4, .invokevirtual 301, 256, 0), (7, .ifCond .eq 7, 14, 0), (10, .iconst 0, 0, 0), (11, .goto 10, 21, 0), (14, .aload_n 0, 0, 0), (15, .iload_n 1, 0, 0), (16, .iload_n 2, 0, 0), (17, .iload_n 3, 0, 0),
  (18, .invokevirtual 304, 269, 0), (21, .ireturn, 0, 0)], 4, 4, false, (some .int), [], 11)
def am_n270 : amN := (yX12_reason, cX12_reason, [])
def am_h270 : List (List Nat) := [[], [], [], [], [1812, 1814, 75, 134, 1815], [], [], [], [], [], [], [], [1840, 1842, 78, 134, 1843], []]
def am_g270 : List (Nat × Nat) := []
def am_m271 : amM := ([(0, .aload_n 0, 0, 0), (1, .iload_n 1, 0, 0), (2, .iload_n 2, 0, 0), (3, .iload_n 3, 0, 0), (4, .invokevirtual 301, 256, 0), (7, .ifCond .eq 5, 12, 0), (10, .iconst 0, 0, 0), (11, .ireturn, 0, 0), (12, .aload_n 0, 0, 0), (13, .iload_n 1, 0, 0), (14, .iload_n 2, 0, 0), (15, .invokevirtual 81, 204, 0),
  (18, .iload_n 3, 0, 0), (19, .if_icmp .ne 7, 26, 0), (22, .iconst 1, 0, 0), (23, .goto 10, 33, 0), (26, .aload_n 0, 0, 0), (27, .iload_n 1, 0, 0), (28, .iload_n 2, 0, 0), (29, .iload_n 3, 0, 0), (30, .invokevirtual 88, 209, 0), (33, .ireturn, 0, 0)], 4, 4, false, (some .int), [], 11)
def am_n271 : amN := (yX12_inTheWay, cX12_inTheWay, [])
def am_h271 : List (List Nat) := [[], [], [], [], [1812, 1814, 75, 134, 1815], [], [], [], [], [], [], [1722, 1724, 60, 134, 1725], [], [], [], [], [], [], [], [], [1714, 1716, 58, 134, 1717], []]
def am_g271 : List (Nat × Nat) := []
def am_m272 : amM := ([(0, .aload_n 0, 0, 0), (1, .iload_n 1, 0, 0), (2, .iload_n 2, 0, 0), (3, .iload_n 3, 0, 0), (4, .invokevirtual 301, 256, 0), (7, .ifCond .ne 26, 33, 0), (10, .aload_n 0, 0, 0), (11, .aload_n 0, 0, 0), (12, .iload_n 1, 0, 0), (13, .iload_n 2, 0, 0), (14, .iload_n 3, 0, 0), (15, .invokevirtual 304, 269, 0),
  (18, .ifCond .eq 7, 25, 0), (21, .iconst 1, 0, 0), (22, .goto 4, 26, 0), (25, .iconst 0, 0, 0), (26, .iconst 3, 0, 0), (27, .invokevirtual 275, 197, 0), (30, .ifCond .eq 5, 35, 0), (33, .iconst 0, 0, 0), (34, .ireturn, 0, 0), (35, .aload_n 0, 0, 0), (36, .invokevirtual 307, 200, 0), (39, .aload_n 0, 0, 0),
  (40, .iload_n 1, 0, 0), (41, .iload_n 2, 0, 0), (42, .iload_n 3, 0, 0), (43, .invokevirtual 137, 206, 0), (46, .aload_n 0, 0, 0), (47, .invokevirtual 99, 211, 0), (50, .aload_n 0, 0, 0), (51, .iconst 1, 0, 0), (52, .iload_n 1, 0, 0), (53, .ishl, 0, 0), (54, .iconst 1, 0, 0), (55, .iload_n 2, 0, 0),
  (56, .ishl, 0, 0), (57, .ior, 0, 0), (58, .iconst 1, 0, 0), (59, .iload_n 3, 0, 0), (60, .ishl, 0, 0), (61, .ior, 0, 0), (62, .invokevirtual 115, 212, 0), (65, .ireturn, 0, 0)], 4, 4, false, (some .int), [], 11)
def am_n272 : amN := (yX12_add, cX12_add, [])
def am_h272 : List (List Nat) := [[], [], [], [], [1812, 1814, 75, 134, 1815], [], [], [], [], [], [], [1840, 1842, 78, 134, 1843], [], [], [], [], [], [1755, 1757, 65, 134, 1758], [], [], [], [], [1852, 1854, 79, 134, 1855], [], [], [], [], [1726, 1728, 61, 134, 1729], [], [1739, 1741, 64, 134, 1742], [], [], [], [], [], [], [], [], [], [], [], [], [1784, 1786, 71, 134, 1787], []]
def am_g272 : List (Nat × Nat) := []
def am_m273 : amM := ([(0, .aload_n 0, 0, 0), (1, .iload_n 1, 0, 0), (2, .invokevirtual 298, 257, 0), (5, .ifCond .eq 5, 10, 0), (8, .iconst 0, 0, 0), (9, .ireturn, 0, 0), (10, .aload_n 0, 0, 0), (11, .invokevirtual 307, 200, 0), (14, .aload_n 0, 0, 0), (15, .aload_n 0, 0, 0), (16, .getfield 25, 11, 8), (19, .iload_n 1, 0, 0),
  (20, .iaload, 0, 0), (21, .aload_n 0, 0, 0), (22, .getfield 28, 11, 9), (25, .iload_n 1, 0, 0), (26, .iaload, 0, 0), (27, .aload_n 0, 0, 0), (28, .getfield 31, 11, 10), (31, .iload_n 1, 0, 0), (32, .iaload, 0, 0), (33, .invokevirtual 134, 207, 0), (36, .aload_n 0, 0, 0), (37, .getfield 92, 11, 12),
  (40, .iconst 1, 0, 0), (41, .isub, 0, 0), (42, .ireturn, 0, 0)], 2, 2, false, (some .int), [], 11)
def am_n273 : amN := (yX12_remove, cX12_remove, [])
def am_h273 : List (List Nat) := [[], [], [1804, 1806, 74, 134, 1807], [], [], [], [], [1852, 1854, 79, 134, 1855], [], [], [1540], [], [], [], [1541], [], [], [], [1542], [], [], [1860, 1862, 80, 134, 1863], [], [1544], [], [], []]
def am_g273 : List (Nat × Nat) := []
def am_m274 : amM := ([(0, .aload_n 0, 0, 0), (1, .iload_n 1, 0, 0), (2, .iload_n 2, 0, 0), (3, .iload_n 3, 0, 0), (4, .invokevirtual 301, 256, 0), (7, .ifCond .eq 5, 12, 0), (10, .iconst 0, 0, 0), (11, .ireturn, 0, 0), (12, .aload_n 0, 0, 0), (13, .invokevirtual 143, 201, 0), (16, .aload_n 0, 0, 0), (17, .iload_n 1, 0, 0),
  (18, .iload_n 2, 0, 0), (19, .iload_n 3, 0, 0), (20, .invokevirtual 242, 237, 0), (23, .istore 4, 0, 0), (25, .aload_n 0, 0, 0), (26, .invokevirtual 152, 202, 0), (29, .aload_n 0, 0, 0), (30, .iload 4, 0, 0), (32, .iconst (-1), 0, 0), (33, .if_icmp .ne 7, 40, 0), (36, .iconst 1, 0, 0), (37, .goto 4, 41, 0),
  (40, .iconst 0, 0, 0), (41, .iconst 3, 0, 0), (42, .invokevirtual 275, 197, 0), (45, .ifCond .eq 5, 50, 0), (48, .iconst 0, 0, 0), (49, .ireturn, 0, 0), (50, .aload_n 0, 0, 0), (51, .invokevirtual 307, 200, 0), (54, .aload_n 0, 0, 0), (55, .iload_n 1, 0, 0), (56, .iload_n 2, 0, 0), (57, .iload_n 3, 0, 0),
  (58, .invokevirtual 242, 237, 0), (61, .ireturn, 0, 0)], 5, 4, false, (some .int), [], 11)
def am_n274 : amN := (yX12_develop, cX12_develop, [])
def am_h274 : List (List Nat) := [[], [], [], [], [1812, 1814, 75, 134, 1815], [], [], [], [], [1868, 1870, 81, 134, 1871], [], [], [], [], [1702, 1704, 55, 134, 1705], [], [], [1872, 1874, 82, 134, 1875], [], [], [], [], [], [], [], [], [1755, 1757, 65, 134, 1758], [], [], [], [], [1852, 1854, 79, 134, 1855], [], [], [], [], [1702, 1704, 55, 134, 1705], []]
def am_g274 : List (Nat × Nat) := []
def am_m275 : amM := ([(0, .aload_n 0, 0, 0), (1, .iconst 0, 0, 0), (2, .putfield 67, 11, 7), (5, .aload_n 0, 0, 0), (6, .invokevirtual 307, 200, 0), (9, .iconst 0, 0, 0), (10, .istore_n 1, 0, 0), (11, .iconst 0, 0, 0), (12, .istore_n 2, 0, 0), (13, .iload_n 2, 0, 0), (14, .aload_n 0, 0, 0), (15, .invokevirtual 95, 203, 0),
  (18, .if_icmp .ge 72, 90, 0), (21, .iload_n 2, 0, 0), (22, .iconst 1, 0, 0), (23, .iadd, 0, 0), (24, .istore_n 3, 0, 0), (25, .iload_n 3, 0, 0), (26, .aload_n 0, 0, 0), (27, .invokevirtual 95, 203, 0), (30, .if_icmp .ge 54, 84, 0), (33, .iload_n 3, 0, 0), (34, .iconst 1, 0, 0), (35, .iadd, 0, 0),
  (36, .istore 4, 0, 0), (38, .iload 4, 0, 0), (40, .aload_n 0, 0, 0), (41, .invokevirtual 95, 203, 0), (44, .if_icmp .ge 34, 78, 0), (47, .aload_n 0, 0, 0), (48, .iload_n 2, 0, 0), (49, .iload_n 3, 0, 0), (50, .iload 4, 0, 0), (52, .invokevirtual 188, 210, 0), (55, .ifCond .ne 6, 61, 0), (58, .goto 14, 72, 0),
  (61, .aload_n 0, 0, 0), (62, .iload_n 2, 0, 0), (63, .iload_n 3, 0, 0), (64, .iload 4, 0, 0), (66, .invokevirtual 137, 206, 0), (69, .iinc 1 1, 0, 0), (72, .iinc 4 1, 0, 0), (75, .goto (-37), 38, 0), (78, .iinc 3 1, 0, 0), (81, .goto (-56), 25, 0), (84, .iinc 2 1, 0, 0), (87, .goto (-74), 13, 0),
  (90, .iload_n 1, 0, 0), (91, .ireturn, 0, 0)], 5, 1, false, (some .int), [], 11)
def am_n275 : amN := (yX12_fill, cX12_fill, [])
def am_h275 : List (List Nat) := [[], [], [1539], [], [1852, 1854, 79, 134, 1855], [], [], [], [], [], [], [1698, 1700, 54, 134, 1701], [], [], [], [], [], [], [], [1698, 1700, 54, 134, 1701], [], [], [], [], [], [], [], [1698, 1700, 54, 134, 1701], [], [], [], [], [], [1710, 1712, 57, 134, 1713], [], [], [], [], [], [], [1726, 1728, 61, 134, 1729], [], [], [], [], [], [], [], [], []]
def am_g275 : List (Nat × Nat) := []
def am_m276 : amM := ([(0, .aload_n 0, 0, 0), (1, .iload_n 1, 0, 0), (2, .iload_n 2, 0, 0), (3, .iload_n 3, 0, 0), (4, .invokevirtual 301, 256, 0), (7, .ifCond .ne 26, 33, 0), (10, .aload_n 0, 0, 0), (11, .aload_n 0, 0, 0), (12, .iload_n 1, 0, 0), (13, .iload_n 2, 0, 0), (14, .invokevirtual 81, 204, 0), (17, .iload_n 3, 0, 0),
  (18, .if_icmp .ne 7, 25, 0), (21, .iconst 1, 0, 0), (22, .goto 4, 26, 0), (25, .iconst 0, 0, 0), (26, .iconst 3, 0, 0), (27, .invokevirtual 275, 197, 0), (30, .ifCond .eq 5, 35, 0), (33, .iconst 0, 0, 0), (34, .ireturn, 0, 0), (35, .aload_n 0, 0, 0), (36, .invokevirtual 307, 200, 0), (39, .aload_n 0, 0, 0),
  (40, .iload_n 1, 0, 0), (41, .iload_n 2, 0, 0), (42, .invokevirtual 310, 277, 0), (45, .aload_n 0, 0, 0), (46, .iload_n 2, 0, 0), (47, .iload_n 3, 0, 0), (48, .invokevirtual 310, 277, 0), (51, .iadd, 0, 0), (52, .aload_n 0, 0, 0), (53, .iload_n 1, 0, 0), (54, .iload_n 3, 0, 0), (55, .invokevirtual 310, 277, 0),
  (58, .iadd, 0, 0), (59, .istore 4, 0, 0), (61, .aload_n 0, 0, 0), (62, .iload_n 1, 0, 0), (63, .iload_n 2, 0, 0), (64, .iload_n 3, 0, 0), (65, .invokevirtual 137, 206, 0), (68, .iload 4, 0, 0), (70, .ireturn, 0, 0)], 5, 4, false, (some .int), [], 11)
def am_n276 : amN := (yX12_force, cX12_force, [])
def am_h276 : List (List Nat) := [[], [], [], [], [1812, 1814, 75, 134, 1815], [], [], [], [], [], [1722, 1724, 60, 134, 1725], [], [], [], [], [], [], [1755, 1757, 65, 134, 1758], [], [], [], [], [1852, 1854, 79, 134, 1855], [], [], [], [1884, 1886, 83, 134, 1887], [], [], [], [1884, 1886, 83, 134, 1887], [], [], [], [], [1884, 1886, 83, 134, 1887], [], [], [], [], [], [], [1726, 1728, 61, 134, 1729], [], []]
def am_g276 : List (Nat × Nat) := []
def am_m277 : amM := ([(0, .aload_n 0, 0, 0), (1, .iload_n 1, 0, 0), (2, .iload_n 2, 0, 0), (3, .invokevirtual 81, 204, 0), (6, .istore_n 3, 0, 0), (7, .iload_n 3, 0, 0), (8, .iconst (-1), 0, 0), (9, .if_icmp .ne 5, 14, 0), (12, .iconst 0, 0, 0), (13, .ireturn, 0, 0), (14, .aload_n 0, 0, 0), (15, .iload_n 1, 0, 0),
  (16, .iload_n 2, 0, 0), (17, .iload_n 3, 0, 0), (18, .invokevirtual 134, 207, 0), (21, .iconst 1, 0, 0), (22, .ireturn, 0, 0)], 4, 3, false, (some .int), [], 11)
def am_n277 : amN := (yX12_removes, cX12_removes, [])
def am_h277 : List (List Nat) := [[], [], [], [1722, 1724, 60, 134, 1725], [], [], [], [], [], [], [], [], [], [], [1860, 1862, 80, 134, 1863], [], []]
def am_g277 : List (Nat × Nat) := []
def am_m278 : amM := ([(0, .aload_n 0, 0, 0), (1, .iload_n 1, 0, 0), (2, .invokevirtual 279, 254, 0), (5, .ifCond .eq 5, 10, 0), (8, .iconst 0, 0, 0), (9, .ireturn, 0, 0), (10, .aload_n 0, 0, 0), (11, .invokevirtual 307, 200, 0), (14, .iconst 0, 0, 0), (15, .istore_n 2, 0, 0), (16, .iconst 0, 0, 0), (17, .istore_n 3, 0, 0),
  (18, .iload_n 3, 0, 0), (19, .aload_n 0, 0, 0), (20, .invokevirtual 95, 203, 0), (23, .if_icmp .ge 23, 46, 0), (26, .iload_n 3, 0, 0), (27, .iload_n 1, 0, 0), (28, .if_icmp .eq 12, 40, 0), (31, .iload_n 2, 0, 0), (32, .aload_n 0, 0, 0), (33, .iload_n 1, 0, 0), (34, .iload_n 3, 0, 0), (35, .invokevirtual 310, 277, 0),
  (38, .iadd, 0, 0), (39, .istore_n 2, 0, 0), (40, .iinc 3 1, 0, 0), (43, .goto (-25), 18, 0), (46, .iload_n 2, 0, 0), (47, .ireturn, 0, 0)], 4, 2, false, (some .int), [], 11)
def am_n278 : amN := (yX12_clear, cX12_clear, [])
def am_h278 : List (List Nat) := [[], [], [1816, 1818, 76, 134, 1819], [], [], [], [], [1852, 1854, 79, 134, 1855], [], [], [], [], [], [], [1698, 1700, 54, 134, 1701], [], [], [], [], [], [], [], [], [1884, 1886, 83, 134, 1887], [], [], [], [], [], []]
def am_g278 : List (Nat × Nat) := []
def am_m279 : amM := ([(0, .aload_n 0, 0, 0), (1, .iload_n 1, 0, 0), (2, .iload_n 2, 0, 0), (3, .invokevirtual 282, 255, 0), (6, .ifCond .eq 5, 11, 0), (9, .iconst 0, 0, 0), (10, .ireturn, 0, 0), (11, .aload_n 0, 0, 0), (12, .invokevirtual 307, 200, 0), (15, .aload_n 0, 0, 0), (16, .invokevirtual 99, 211, 0), (19, .iconst 0, 0, 0),
  (20, .istore_n 3, 0, 0), (21, .aload_n 0, 0, 0), (22, .getfield 7, 11, 0), (25, .iconst 4, 0, 0), (26, .aload_n 0, 0, 0), (27, .getfield 13, 11, 1), (30, .iconst 4, 0, 0), (31, .sipush 225, 0, 0), (34, .invokestatic 73, 198, 0), (37, .iconst 0, 0, 0), (38, .istore 4, 0, 0), (40, .iload 4, 0, 0),
  (42, .aload_n 0, 0, 0), (43, .getfield 92, 11, 12), (46, .if_icmp .ge 34, 80, 0), (49, .aload_n 0, 0, 0), (50, .aload_n 0, 0, 0), (51, .getfield 25, 11, 8), (54, .iload 4, 0, 0), (56, .iaload, 0, 0), (57, .aload_n 0, 0, 0), (58, .getfield 28, 11, 9), (61, .iload 4, 0, 0), (63, .iaload, 0, 0),
  (64, .aload_n 0, 0, 0), (65, .getfield 31, 11, 10), (68, .iload 4, 0, 0), (70, .iaload, 0, 0), (71, .invokevirtual 134, 207, 0), (74, .iinc 4 1, 0, 0), (77, .goto (-37), 40, 0), (80, .iconst 0, 0, 0), (81, .istore 4, 0, 0), (83, .iload 4, 0, 0), (85, .aload_n 0, 0, 0), (86, .getfield 92, 11, 12),
  (89, .if_icmp .ge 89, 178, 0), (92, .aload_n 0, 0, 0), (93, .getfield 25, 11, 8), (96, .iload 4, 0, 0), (98, .iaload, 0, 0), (99, .iload_n 1, 0, 0), (100, .iload_n 2, 0, 0), (101, .invokestatic 313, 280, 0), (104, .istore 5, 0, 0), (106, .aload_n 0, 0, 0), (107, .getfield 28, 11, 9), (110, .iload 4, 0, 0),
  (112, .iaload, 0, 0), (113, .iload_n 1, 0, 0), (114, .iload_n 2, 0, 0), (115, .invokestatic 313, 280, 0), (118, .istore 6, 0, 0), (120, .aload_n 0, 0, 0), (121, .getfield 31, 11, 10), (124, .iload 4, 0, 0), (126, .iaload, 0, 0), (127, .iload_n 1, 0, 0), (128, .iload_n 2, 0, 0), (129, .invokestatic 313, 280, 0),
  (132, .istore 7, 0, 0), (134, .aload_n 0, 0, 0), (135, .iload 5, 0, 0), (137, .iload 6, 0, 0), (139, .iload 7, 0, 0), (141, .invokevirtual 137, 206, 0), (144, .iload_n 3, 0, 0), (145, .aload_n 0, 0, 0), (146, .getfield 13, 11, 1), (149, .iconst 4, 0, 0), (150, .bipush 15, 0, 0), (152, .iload 5, 0, 0),
  (154, .imul, 0, 0), (155, .iadd, 0, 0), (156, .iload 6, 0, 0), (158, .iadd, 0, 0), (159, .iaload, 0, 0), (160, .iload 7, 0, 0), (162, .if_icmp .ne 7, 169, 0), (165, .iconst 0, 0, 0), (166, .goto 4, 170, 0), (169, .iconst 1, 0, 0), (170, .iadd, 0, 0), (171, .istore_n 3, 0, 0),
  (172, .iinc 4 1, 0, 0), (175, .goto (-92), 83, 0), (178, .iload_n 3, 0, 0), (179, .ireturn, 0, 0)], 8, 3, false, (some .int), [], 11)
def am_n279 : amN := (yX12_swap, cX12_swap, [])
def am_h279 : List (List Nat) := [[], [], [], [1824, 1826, 77, 134, 1827], [], [], [], [], [1852, 1854, 79, 134, 1855], [], [1739, 1741, 64, 134, 1742], [], [], [], [1532], [], [], [1533], [], [], [1651, 1652, 134, 1653], [], [], [], [], [1544], [], [], [], [1540], [], [], [], [1541], [], [], [], [1542], [], [], [1860, 1862, 80, 134, 1863], [], [], [], [], [], [], [1544], [], [], [1540], [], [], [], [], [1896, 1897, 134, 1898], [], [], [1541], [], [], [], [], [1896, 1897, 134, 1898], [], [], [1542], [], [], [], [], [1896, 1897, 134, 1898], [], [], [], [], [], [1726, 1728, 61, 134, 1729], [], [], [1533], [], [], [], [], [], [], [], [], [], [], [], [], [], [], [], [], [], [], []]
def am_g279 : List (Nat × Nat) := []
def am_m280 : amM := ([(0, .iload_n 0, 0, 0), (1, .iload_n 1, 0, 0), (2, .if_icmp .ne 7, 9, 0), (5, .iload_n 2, 0, 0), (6, .goto 13, 19, 0), (9, .iload_n 0, 0, 0), (10, .iload_n 2, 0, 0), (11, .if_icmp .ne 7, 18, 0), (14, .iload_n 1, 0, 0), (15, .goto 4, 19, 0), (18, .iload_n 0, 0, 0), (19, .ireturn, 0, 0)], 3, 3, false, (some .int), [], 11)
def am_n280 : amN := (yX12_swapped, cX12_swapped, [])
def am_h280 : List (List Nat) := [[], [], [], [], [], [], [], [], [], [], [], []]
def am_g280 : List (Nat × Nat) := []
def am_m281 : amM := ([(0, .aload_n 0, 0, 0), (1, .iconst 0, 0, 0), (2, .putfield 67, 11, 7), (5, .aload_n 0, 0, 0), (6, .invokevirtual 307, 200, 0), (9, .aload_n 0, 0, 0), (10, .invokevirtual 99, 211, 0), (13, .iconst 0, 0, 0), (14, .istore_n 2, 0, 0), (15, .aload_n 0, 0, 0), (16, .getfield 7, 11, 0), (19, .iconst 4, 0, 0),
  (20, .aload_n 0, 0, 0), (21, .getfield 13, 11, 1), (24, .iconst 4, 0, 0), (25, .sipush 225, 0, 0), (28, .invokestatic 73, 198, 0), (31, .iconst 0, 0, 0), (32, .istore_n 3, 0, 0), (33, .iload_n 3, 0, 0), (34, .aload_n 0, 0, 0), (35, .getfield 92, 11, 12), (38, .if_icmp .ge 31, 69, 0), (41, .aload_n 0, 0, 0),
  (42, .aload_n 0, 0, 0), (43, .getfield 25, 11, 8), (46, .iload_n 3, 0, 0), (47, .iaload, 0, 0), (48, .aload_n 0, 0, 0), (49, .getfield 28, 11, 9), (52, .iload_n 3, 0, 0), (53, .iaload, 0, 0), (54, .aload_n 0, 0, 0), (55, .getfield 31, 11, 10), (58, .iload_n 3, 0, 0), (59, .iaload, 0, 0),
  (60, .invokevirtual 134, 207, 0), (63, .iinc 3 1, 0, 0), (66, .goto (-33), 33, 0), (69, .iconst 0, 0, 0), (70, .istore_n 3, 0, 0), (71, .iload_n 3, 0, 0), (72, .aload_n 0, 0, 0), (73, .getfield 92, 11, 12), (76, .if_icmp .ge 98, 174, 0), (79, .aload_n 0, 0, 0), (80, .aload_n 0, 0, 0), (81, .getfield 25, 11, 8),
  (84, .iload_n 3, 0, 0), (85, .iaload, 0, 0), (86, .aload_n 0, 0, 0), (87, .iload_n 1, 0, 0), (88, .invokevirtual 316, 234, 0), (91, .invokevirtual 182, 233, 0), (94, .istore 4, 0, 0), (96, .aload_n 0, 0, 0), (97, .aload_n 0, 0, 0), (98, .getfield 28, 11, 9), (101, .iload_n 3, 0, 0), (102, .iaload, 0, 0),
  (103, .aload_n 0, 0, 0), (104, .iload_n 1, 0, 0), (105, .invokevirtual 316, 234, 0), (108, .invokevirtual 182, 233, 0), (111, .istore 5, 0, 0), (113, .aload_n 0, 0, 0), (114, .aload_n 0, 0, 0), (115, .getfield 31, 11, 10), (118, .iload_n 3, 0, 0), (119, .iaload, 0, 0), (120, .aload_n 0, 0, 0), (121, .iload_n 1, 0, 0),
  (122, .invokevirtual 316, 234, 0), (125, .invokevirtual 182, 233, 0), (128, .istore 6, 0, 0), (130, .aload_n 0, 0, 0), (131, .iload 4, 0, 0), (133, .iload 5, 0, 0), (135, .iload 6, 0, 0), (137, .invokevirtual 137, 206, 0), (140, .iload_n 2, 0, 0), (141, .aload_n 0, 0, 0), (142, .getfield 13, 11, 1), (145, .iconst 4, 0, 0),
  (146, .bipush 15, 0, 0), (148, .iload 4, 0, 0), (150, .imul, 0, 0), (151, .iadd, 0, 0), (152, .iload 5, 0, 0), (154, .iadd, 0, 0), (155, .iaload, 0, 0), (156, .iload 6, 0, 0), (158, .if_icmp .ne 7, 165, 0), (161, .iconst 1, 0, 0), (162, .goto 4, 166, 0), (165, .iconst 0, 0, 0),
  (166, .iadd, 0, 0), (167, .istore_n 2, 0, 0), (168, .iinc 3 1, 0, 0), (171, .goto (-100), 71, 0), (174, .iload_n 2, 0, 0), (175, .ireturn, 0, 0)], 7, 2, false, (some .int), [], 11)
def am_n281 : amN := (yX12_turn, cX12_turn, [])
def am_h281 : List (List Nat) := [[], [], [1539], [], [1852, 1854, 79, 134, 1855], [], [1739, 1741, 64, 134, 1742], [], [], [], [1532], [], [], [1533], [], [], [1651, 1652, 134, 1653], [], [], [], [], [1544], [], [], [], [1540], [], [], [], [1541], [], [], [], [1542], [], [], [1860, 1862, 80, 134, 1863], [], [], [], [], [], [], [1544], [], [], [], [1540], [], [], [], [], [1903, 1905, 84, 134, 1906], [1706, 1708, 56, 134, 1709], [], [], [], [1541], [], [], [], [], [1903, 1905, 84, 134, 1906], [1706, 1708, 56, 134, 1709], [], [], [], [1542], [], [], [], [], [1903, 1905, 84, 134, 1906], [1706, 1708, 56, 134, 1709], [], [], [], [], [], [1726, 1728, 61, 134, 1729], [], [], [1533], [], [], [], [], [], [], [], [], [], [], [], [], [], [], [], [], [], [], []]
def am_g281 : List (Nat × Nat) := []
def am_m282 : amM := ([(0, .iconst 0, 0, 0), (1, .istore_n 3, 0, 0), (2, .iconst 0, 0, 0), (3, .istore 4, 0, 0), (5, .iload 4, 0, 0), (7, .aload_n 0, 0, 0), (8, .invokevirtual 95, 203, 0), (11, .if_icmp .ge 40, 51, 0), (14, .iload_n 3, 0, 0), (15, .iload 4, 0, 0), (17, .iload_n 1, 0, 0), (18, .if_icmp .eq 24, 42, 0),
  (21, .iload 4, 0, 0), (23, .iload_n 2, 0, 0), (24, .if_icmp .eq 18, 42, 0), (27, .aload_n 0, 0, 0), (28, .iload_n 1, 0, 0), (29, .iload_n 2, 0, 0), (30, .iload 4, 0, 0), (32, .invokevirtual 188, 210, 0), (35, .ifCond .eq 7, 42, 0), (38, .iconst 1, 0, 0), (39, .goto 4, 43, 0), (42, .iconst 0, 0, 0),
  (43, .iadd, 0, 0), (44, .istore_n 3, 0, 0), (45, .iinc 4 1, 0, 0), (48, .goto (-43), 5, 0), (51, .iload_n 3, 0, 0), (52, .ireturn, 0, 0)], 5, 3, false, (some .int), [], 11)
def am_n282 : amN := (yX12_waysOf, cX12_waysOf, [])
def am_h282 : List (List Nat) := [[], [], [], [], [], [], [1698, 1700, 54, 134, 1701], [], [], [], [], [], [], [], [], [], [], [], [], [1710, 1712, 57, 134, 1713], [], [], [], [], [], [], [], [], [], []]
def am_g282 : List (Nat × Nat) := []
def am_m283 : amM := ([(0, .iconst (-1), 0, 0), (1, .istore_n 1, 0, 0), (2, .iconst 0, 0, 0), (3, .istore_n 2, 0, 0), (4, .iconst 0, 0, 0), (5, .istore_n 3, 0, 0), (6, .iload_n 3, 0, 0), (7, .aload_n 0, 0, 0), (8, .invokevirtual 95, 203, 0), (11, .if_icmp .ge 77, 88, 0), (14, .iload_n 3, 0, 0), (15, .iconst 1, 0, 0),
  (16, .iadd, 0, 0), (17, .istore 4, 0, 0), (19, .iload 4, 0, 0), (21, .aload_n 0, 0, 0), (22, .invokevirtual 95, 203, 0), (25, .if_icmp .ge 57, 82, 0), (28, .aload_n 0, 0, 0), (29, .iload_n 3, 0, 0), (30, .iload 4, 0, 0), (32, .invokevirtual 81, 204, 0), (35, .iconst (-1), 0, 0), (36, .if_icmp .eq 6, 42, 0),
  (39, .goto 37, 76, 0), (42, .aload_n 0, 0, 0), (43, .iload_n 3, 0, 0), (44, .iload 4, 0, 0), (46, .invokevirtual 319, 282, 0), (49, .istore 5, 0, 0), (51, .iload_n 1, 0, 0), (52, .iconst (-1), 0, 0), (53, .if_icmp .eq 12, 65, 0), (56, .iload 5, 0, 0), (58, .iload_n 2, 0, 0), (59, .if_icmp .lt 6, 65, 0),
  (62, .goto 14, 76, 0), (65, .bipush 16, 0, 0), (67, .iload_n 3, 0, 0), (68, .imul, 0, 0), (69, .iload 4, 0, 0), (71, .iadd, 0, 0), (72, .istore_n 1, 0, 0), (73, .iload 5, 0, 0), (75, .istore_n 2, 0, 0), (76, .iinc 4 1, 0, 0), (79, .goto (-60), 19, 0), (82, .iinc 3 1, 0, 0),
  (85, .goto (-79), 6, 0), (88, .iload_n 1, 0, 0), (89, .ireturn, 0, 0)], 6, 1, false, (some .int), [], 11)
def am_n283 : amN := (yX12_tightestPair, cX12_tightestPair, [])
def am_h283 : List (List Nat) := [[], [], [], [], [], [], [], [], [1698, 1700, 54, 134, 1701], [], [], [], [], [], [], [], [1698, 1700, 54, 134, 1701], [], [], [], [], [1722, 1724, 60, 134, 1725], [], [], [], [], [], [], [1919, 1921, 87, 134, 1922], [], [], [], [], [], [], [], [], [], [], [], [], [], [], [], [], [], [], [], [], [], []]
def am_g283 : List (Nat × Nat) := []
def am_m284 : amM := ([(0, .aload_n 0, 0, 0), (1, .invokevirtual 322, 283, 0), (4, .istore_n 1, 0, 0), (5, .iload_n 1, 0, 0), (6, .iconst (-1), 0, 0), (7, .if_icmp .ne 5, 12, 0), (10, .iconst 1, 0, 0), (11, .ireturn, 0, 0), (12, .iload_n 1, 0, 0), (13, .bipush 16, 0, 0), (15, .idiv, 0, 0), (16, .istore_n 2, 0, 0),
  (17, .iload_n 1, 0, 0), (18, .bipush 16, 0, 0), (20, .irem, 0, 0), (21, .istore_n 3, 0, 0), (22, .iconst 0, 0, 0), (23, .istore 4, 0, 0), (25, .iconst 0, 0, 0), (26, .istore 5, 0, 0), (28, .iload 5, 0, 0), (30, .aload_n 0, 0, 0), (31, .invokevirtual 95, 203, 0), (34, .if_icmp .ge 60, 94, 0),
  (37, .iload 5, 0, 0), (39, .iload_n 2, 0, 0), (40, .if_icmp .eq 48, 88, 0), (43, .iload 5, 0, 0), (45, .iload_n 3, 0, 0), (46, .if_icmp .eq 42, 88, 0), (49, .aload_n 0, 0, 0), (50, .iload_n 2, 0, 0), (51, .iload_n 3, 0, 0), (52, .iload 5, 0, 0), (54, .invokevirtual 188, 210, 0), (57, .ifCond .ne 6, 63, 0),
  (60, .goto 28, 88, 0), (63, .aload_n 0, 0, 0), (64, .iload_n 2, 0, 0), (65, .iload_n 3, 0, 0), (66, .iload 5, 0, 0), (68, .invokevirtual 137, 206, 0), (71, .iload 4, 0, 0), (73, .aload_n 0, 0, 0), (74, .invokevirtual 325, 284, 0), (77, .iadd, 0, 0), (78, .istore 4, 0, 0), (80, .aload_n 0, 0, 0),
  (81, .iload_n 2, 0, 0), (82, .iload_n 3, 0, 0), (83, .iload 5, 0, 0), (85, .invokevirtual 134, 207, 0), (88, .iinc 5 1, 0, 0), (91, .goto (-63), 28, 0), (94, .iload 4, 0, 0), (96, .ireturn, 0, 0)], 6, 1, false, (some .int), [], 11)
def am_n284 : amN := (yX12_completionsFrom, cX12_completionsFrom, [])
def am_h284 : List (List Nat) := [[], [1915, 1917, 86, 134, 1918], [], [], [], [], [], [], [], [], [], [], [], [], [], [], [], [], [], [], [], [], [1698, 1700, 54, 134, 1701], [], [], [], [], [], [], [], [], [], [], [], [1710, 1712, 57, 134, 1713], [], [], [], [], [], [], [1726, 1728, 61, 134, 1729], [], [], [1911, 1913, 85, 134, 1914], [], [], [], [], [], [], [1860, 1862, 80, 134, 1863], [], [], [], []]
def am_g284 : List (Nat × Nat) := []
def am_m285 : amM := ([(0, .aload_n 0, 0, 0), (1, .iconst 0, 0, 0), (2, .putfield 67, 11, 7), (5, .aload_n 0, 0, 0), (6, .invokevirtual 289, 215, 0), (9, .bipush 30, 0, 0), (11, .if_icmp .le 8, 19, 0), (14, .bipush (-2), 0, 0), (16, .goto 7, 23, 0), (19, .aload_n 0, 0, 0), (20, .invokevirtual 325, 284, 0), (23, .ireturn, 0, 0)], 1, 1, false, (some .int), [], 11)
def am_n285 : amN := (yX12_completions, cX12_completions, [])
def am_h285 : List (List Nat) := [[], [], [1539], [], [1759, 1761, 66, 134, 1762], [], [], [], [], [], [1911, 1913, 85, 134, 1914], []]
def am_g285 : List (Nat × Nat) := []
def am_m286 : amM := ([(0, .aload_n 0, 0, 0), (1, .iconst 0, 0, 0), (2, .putfield 67, 11, 7), (5, .aload_n 0, 0, 0), (6, .invokevirtual 322, 283, 0), (9, .ireturn, 0, 0)], 1, 1, false, (some .int), [], 11)
def am_n286 : amN := (yX12_tightest, cX12_tightest, [])
def am_h286 : List (List Nat) := [[], [], [1539], [], [1915, 1917, 86, 134, 1918], []]
def am_g286 : List (Nat × Nat) := []
def am_m287 : amM := ([(0, .iload_n 1, 0, 0), (1, .istore_n 3, 0, 0), (2, .iconst 0, 0, 0), (3, .istore 4, 0, 0), (5, .iload 4, 0, 0), (7, .iload_n 2, 0, 0), (8, .if_icmp .ge 15, 23, 0), (11, .iload_n 3, 0, 0), (12, .iload_n 3, 0, 0), (13, .iconst 1, 0, 0), (14, .isub, 0, 0), (15, .iand, 0, 0),
  (16, .istore_n 3, 0, 0), (17, .iinc 4 1, 0, 0), (20, .goto (-15), 5, 0), (23, .iload_n 3, 0, 0), (24, .invokestatic 126, 342, 0), (27, .ireturn, 0, 0)], 5, 3, false, (some .int), [], 11)
def am_n287 : amN := (yX12_bitAt, cX12_bitAt, [])
def am_h287 : List (List Nat) := [[], [], [], [], [], [], [], [], [], [], [], [], [], [], [], [], [1780, 1781, 140, 1782], []]
def am_g287 : List (Nat × Nat) := []
def am_m288 : amM := ([(0, .aload_n 0, 0, 0), (1, .iload_n 1, 0, 0), (2, .invokevirtual 328, 258, 0), (5, .ifCond .ne 26, 31, 0), (8, .aload_n 0, 0, 0), (9, .iload_n 2, 0, 0), (10, .iconst 0, 0, 0), (11, .bipush 9, 0, 0), (13, .invokestatic 197, 196, 0), (16, .ifCond .ne 7, 23, 0), (19, .iconst 1, 0, 0), (20, .goto 4, 24, 0),
  (23, .iconst 0, 0, 0), (24, .iconst 2, 0, 0), (25, .invokevirtual 275, 197, 0), (28, .ifCond .eq 5, 33, 0), (31, .iconst 0, 0, 0), (32, .ireturn, 0, 0), (33, .iload_n 2, 0, 0), (34, .iconst 4, 0, 0), (35, .if_icmp .ge 16, 51, 0), (38, .aload_n 0, 0, 0), (39, .getfield 37, 11, 13), (42, .iconst 4, 0, 0),
  (43, .iload_n 1, 0, 0), (44, .imul, 0, 0), (45, .iload_n 2, 0, 0), (46, .iadd, 0, 0), (47, .iaload, 0, 0), (48, .goto 15, 63, 0), (51, .aload_n 0, 0, 0), (52, .aload_n 0, 0, 0), (53, .iload_n 1, 0, 0), (54, .invokevirtual 123, 218, 0), (57, .iload_n 2, 0, 0), (58, .iconst 4, 0, 0),
  (59, .isub, 0, 0), (60, .invokevirtual 331, 287, 0), (63, .ireturn, 0, 0)], 3, 3, false, (some .int), [], 11)
def am_n288 : amN := (yX12_quad, cX12_quad, [])
def am_h288 : List (List Nat) := [[], [], [1931, 1933, 88, 134, 1934], [], [], [], [], [], [1644, 1645, 134, 1646], [], [], [], [], [], [1755, 1757, 65, 134, 1758], [], [], [], [], [], [], [], [1545], [], [], [], [], [], [], [], [], [], [], [1935, 1937, 89, 134, 1938], [], [], [], [1939, 1941, 90, 134, 1942], []]
def am_g288 : List (Nat × Nat) := []
def am_m289 : amM := ([(0, .aload_n 0, 0, 0), (1, .iload_n 1, 0, 0), (2, .invokevirtual 328, 258, 0), (5, .ifCond .ne 11, 16, 0), (8, .aload_n 0, 0, 0), (9, .iload_n 2, 0, 0), (10, .invokevirtual 279, 254, 0), (13, .ifCond .eq 5, 18, 0), (16, .iconst 0, 0, 0), (17, .ireturn, 0, 0), (18, .aload_n 0, 0, 0), (19, .iload_n 1, 0, 0),
  (20, .invokevirtual 123, 218, 0), (23, .iload_n 2, 0, 0), (24, .ishr, 0, 0), (25, .iconst 1, 0, 0), (26, .iand, 0, 0), (27, .iconst 1, 0, 0), (28, .if_icmp .ne 12, 40, 0), (31, .aload_n 0, 0, 0), (32, .iload_n 1, 0, 0), (33, .iload_n 2, 0, 0), (34, .invokevirtual 131, 219, 0), (37, .goto 4, 41, 0),
  (40, .iconst (-1), 0, 0), (41, .ireturn, 0, 0)], 3, 3, false, (some .int), [], 11)
def am_n289 : amN := (yX12_opposite, cX12_opposite, [])
def am_h289 : List (List Nat) := [[], [], [1931, 1933, 88, 134, 1934], [], [], [], [1816, 1818, 76, 134, 1819], [], [], [], [], [], [1935, 1937, 89, 134, 1938], [], [], [], [], [], [], [], [], [], [1947, 1949, 91, 134, 1950], [], [], []]
def am_g289 : List (Nat × Nat) := []
def am_m290 : amM := ([(0, .aload_n 0, 0, 0), (1, .iload_n 1, 0, 0), (2, .invokevirtual 279, 254, 0), (5, .ifCond .eq 5, 10, 0), (8, .iconst 0, 0, 0), (9, .ireturn, 0, 0), (10, .aload_n 0, 0, 0), (11, .invokevirtual 155, 216, 0), (14, .iconst 0, 0, 0), (15, .istore_n 2, 0, 0), (16, .iconst 0, 0, 0), (17, .istore_n 3, 0, 0),
  (18, .iload_n 3, 0, 0), (19, .aload_n 0, 0, 0), (20, .getfield 108, 11, 14), (23, .if_icmp .ge 21, 44, 0), (26, .iload_n 2, 0, 0), (27, .aload_n 0, 0, 0), (28, .iload_n 3, 0, 0), (29, .invokevirtual 123, 218, 0), (32, .iload_n 1, 0, 0), (33, .ishr, 0, 0), (34, .iconst 1, 0, 0), (35, .iand, 0, 0),
  (36, .iadd, 0, 0), (37, .istore_n 2, 0, 0), (38, .iinc 3 1, 0, 0), (41, .goto (-23), 18, 0), (44, .iload_n 2, 0, 0), (45, .ireturn, 0, 0)], 4, 2, false, (some .int), [], 11)
def am_n290 : amN := (yX12_quadsAt, cX12_quadsAt, [])
def am_h290 : List (List Nat) := [[], [], [1816, 1818, 76, 134, 1819], [], [], [], [], [1771, 1773, 69, 134, 1774], [], [], [], [], [], [], [1546], [], [], [], [], [1935, 1937, 89, 134, 1938], [], [], [], [], [], [], [], [], [], []]
def am_g290 : List (Nat × Nat) := []
def am_m291 : amM := ([(0, .aload_n 0, 0, 0), (1, .iload_n 1, 0, 0), (2, .invokevirtual 298, 257, 0), (5, .ifCond .eq 5, 10, 0), (8, .iconst 0, 0, 0), (9, .ireturn, 0, 0), (10, .aload_n 0, 0, 0), (11, .invokevirtual 155, 216, 0), (14, .iconst 0, 0, 0), (15, .istore_n 2, 0, 0), (16, .iconst 0, 0, 0), (17, .istore_n 3, 0, 0),
  (18, .iload_n 3, 0, 0), (19, .iconst 4, 0, 0), (20, .aload_n 0, 0, 0), (21, .getfield 108, 11, 14), (24, .imul, 0, 0), (25, .if_icmp .ge 27, 52, 0), (28, .iload_n 2, 0, 0), (29, .aload_n 0, 0, 0), (30, .getfield 37, 11, 13), (33, .iload_n 3, 0, 0), (34, .iaload, 0, 0), (35, .iload_n 1, 0, 0),
  (36, .if_icmp .ne 7, 43, 0), (39, .iconst 1, 0, 0), (40, .goto 4, 44, 0), (43, .iconst 0, 0, 0), (44, .iadd, 0, 0), (45, .istore_n 2, 0, 0), (46, .iinc 3 1, 0, 0), (49, .goto (-31), 18, 0), (52, .iload_n 2, 0, 0), (53, .ireturn, 0, 0)], 4, 2, false, (some .int), [], 11)
def am_n291 : amN := (yX12_quadsOf, cX12_quadsOf, [])
def am_h291 : List (List Nat) := [[], [], [1804, 1806, 74, 134, 1807], [], [], [], [], [1771, 1773, 69, 134, 1774], [], [], [], [], [], [], [], [1546], [], [], [], [], [1545], [], [], [], [], [], [], [], [], [], [], [], [], []]
def am_g291 : List (Nat × Nat) := []
def am_m292 : amM := ([(0, .aload_n 0, 0, 0), (1, .iload_n 1, 0, 0), (2, .invokevirtual 328, 258, 0), (5, .ifCond .eq 5, 10, 0), (8, .iconst 0, 0, 0), (9, .ireturn, 0, 0), (10, .aload_n 0, 0, 0), (11, .invokevirtual 307, 200, 0), (14, .aload_n 0, 0, 0), (15, .iload_n 1, 0, 0), (16, .invokevirtual 146, 220, 0), (19, .aload_n 0, 0, 0),
  (20, .invokevirtual 292, 261, 0), (23, .ireturn, 0, 0)], 2, 2, false, (some .int), [], 11)
def am_n292 : amN := (yX12_switchQuad, cX12_switchQuad, [])
def am_h292 : List (List Nat) := [[], [], [1931, 1933, 88, 134, 1934], [], [], [], [], [1852, 1854, 79, 134, 1855], [], [], [1963, 1965, 92, 134, 1966], [], [1767, 1769, 68, 134, 1770], []]
def am_g292 : List (Nat × Nat) := []
def am_m293 : amM := ([(0, .aload_n 0, 0, 0), (1, .iload_n 1, 0, 0), (2, .invokevirtual 328, 258, 0), (5, .ifCond .eq 7, 12, 0), (8, .iconst 0, 0, 0), (9, .goto 8, 17, 0), (12, .aload_n 0, 0, 0), (13, .iload_n 1, 0, 0), (14, .invokevirtual 158, 223, 0), (17, .ireturn, 0, 0)], 2, 2, false, (some .int), [], 11)
def am_n293 : amN := (yX12_wouldHave, cX12_wouldHave, [])
def am_h293 : List (List Nat) := [[], [], [1931, 1933, 88, 134, 1934], [], [], [], [], [], [1971, 1973, 93, 134, 1974], []]
def am_g293 : List (Nat × Nat) := []
def am_m294 : amM := ([(0, .aload_n 0, 0, 0), (1, .iconst 0, 0, 0), (2, .putfield 67, 11, 7), (5, .aload_n 0, 0, 0), (6, .iload_n 1, 0, 0), (7, .invokevirtual 334, 224, 0), (10, .ireturn, 0, 0)], 2, 2, false, (some .int), [], 11)
def am_n294 : amN := (yX12_bestSwitch, cX12_bestSwitch, [])
def am_h294 : List (List Nat) := [[], [], [1539], [], [], [1983, 1985, 95, 134, 1986], []]
def am_g294 : List (Nat × Nat) := []
def am_m295 : amM := ([(0, .aload_n 0, 0, 0), (1, .iconst 0, 0, 0), (2, .putfield 67, 11, 7), (5, .aload_n 0, 0, 0), (6, .iload_n 1, 0, 0), (7, .iconst 1, 0, 0), (8, .bipush 20, 0, 0), (10, .invokestatic 197, 196, 0), (13, .ifCond .ne 7, 20, 0), (16, .iconst 1, 0, 0), (17, .goto 4, 21, 0), (20, .iconst 0, 0, 0),
  (21, .iconst 1, 0, 0), (22, .invokevirtual 275, 197, 0), (25, .ifCond .eq 5, 30, 0), (28, .iconst 0, 0, 0), (29, .ireturn, 0, 0), (30, .aload_n 0, 0, 0), (31, .invokevirtual 307, 200, 0), (34, .iconst 0, 0, 0), (35, .istore_n 2, 0, 0), (36, .iload_n 2, 0, 0), (37, .iload_n 1, 0, 0), (38, .if_icmp .ge 39, 77, 0),
  (41, .aload_n 0, 0, 0), (42, .iconst 0, 0, 0), (43, .invokevirtual 334, 224, 0), (46, .istore_n 3, 0, 0), (47, .iload_n 3, 0, 0), (48, .iconst (-1), 0, 0), (49, .if_icmp .eq 15, 64, 0), (52, .aload_n 0, 0, 0), (53, .iload_n 3, 0, 0), (54, .invokevirtual 158, 223, 0), (57, .aload_n 0, 0, 0), (58, .getfield 108, 11, 14),
  (61, .if_icmp .lt 5, 66, 0), (64, .iload_n 2, 0, 0), (65, .ireturn, 0, 0), (66, .aload_n 0, 0, 0), (67, .iload_n 3, 0, 0), (68, .invokevirtual 146, 220, 0), (71, .iinc 2 1, 0, 0), (74, .goto (-38), 36, 0), (77, .iload_n 1, 0, 0), (78, .ireturn, 0, 0)], 4, 2, false, (some .int), [], 11)
def am_n295 : amN := (yX12_descend, cX12_descend, [])
def am_h295 : List (List Nat) := [[], [], [1539], [], [], [], [], [1644, 1645, 134, 1646], [], [], [], [], [], [1755, 1757, 65, 134, 1758], [], [], [], [], [1852, 1854, 79, 134, 1855], [], [], [], [], [], [], [], [1983, 1985, 95, 134, 1986], [], [], [], [], [], [], [1971, 1973, 93, 134, 1974], [], [1546], [], [], [], [], [], [1963, 1965, 92, 134, 1966], [], [], [], []]
def am_g295 : List (Nat × Nat) := []
def am_m296 : amM := ([(0, .aload_n 0, 0, 0), (1, .iconst 0, 0, 0), (2, .putfield 67, 11, 7), (5, .aload_n 0, 0, 0), (6, .invokevirtual 155, 216, 0), (9, .aload_n 0, 0, 0), (10, .getfield 92, 11, 12), (13, .ifCond .ne 7, 20, 0), (16, .dconst 0, 0, 0), (17, .goto 16, 33, 0), (20, .iconst 4, 0, 0), (21, .aload_n 0, 0, 0),
  (22, .getfield 108, 11, 14), (25, .imul, 0, 0), (26, .i2d, 0, 0), (27, .aload_n 0, 0, 0), (28, .getfield 92, 11, 12), (31, .i2d, 0, 0), (32, .ddiv, 0, 0), (33, .dreturn, 0, 0)], 1, 1, false, (some .double), [], 11)
def am_n296 : amN := (yX12_meanQuads, cX12_meanQuads, [])
def am_h296 : List (List Nat) := [[], [], [1539], [], [1771, 1773, 69, 134, 1774], [], [1544], [], [], [], [], [], [1546], [], [], [], [1544], [], [], []]
def am_g296 : List (Nat × Nat) := []
def am_m297 : amM := ([(0, .aload_n 0, 0, 0), (1, .iload_n 1, 0, 0), (2, .iload_n 2, 0, 0), (3, .invokevirtual 282, 255, 0), (6, .ifCond .eq 7, 13, 0), (9, .iconst 0, 0, 0), (10, .goto 9, 19, 0), (13, .aload_n 0, 0, 0), (14, .iload_n 1, 0, 0), (15, .iload_n 2, 0, 0), (16, .invokevirtual 338, 227, 0), (19, .ireturn, 0, 0)], 3, 3, false, (some .int), [], 11)
def am_n297 : amN := (yX12_cycles, cX12_cycles, [])
def am_h297 : List (List Nat) := [[], [], [], [1824, 1826, 77, 134, 1827], [], [], [], [], [], [], [1999, 2001, 96, 134, 2002], []]
def am_g297 : List (Nat × Nat) := []
def am_m298 : amM := ([(0, .aload_n 0, 0, 0), (1, .iload_n 1, 0, 0), (2, .iload_n 2, 0, 0), (3, .iload_n 3, 0, 0), (4, .invokevirtual 341, 259, 0), (7, .ifCond .eq 7, 14, 0), (10, .iconst 0, 0, 0), (11, .goto 7, 18, 0), (14, .aload_n 0, 0, 0), (15, .getfield 161, 11, 17), (18, .ireturn, 0, 0)], 4, 4, false, (some .int), [], 11)
def am_n298 : amN := (yX12_cycleLength, cX12_cycleLength, [])
def am_h298 : List (List Nat) := [[], [], [], [], [2015, 2017, 99, 134, 2018], [], [], [], [], [1549], []]
def am_g298 : List (Nat × Nat) := []
def am_m299 : amM := ([(0, .aload_n 0, 0, 0), (1, .iload_n 1, 0, 0), (2, .iload_n 2, 0, 0), (3, .iload_n 3, 0, 0), (4, .invokevirtual 341, 259, 0), (7, .ifCond .ne 31, 38, 0), (10, .aload_n 0, 0, 0), (11, .iload 4, 0, 0), (13, .iconst 0, 0, 0), (14, .aload_n 0, 0, 0), (15, .getfield 161, 11, 17), (18, .iconst 1, 0, 0),
  (19, .isub, 0, 0), (20, .invokestatic 197, 196, 0), (23, .ifCond .ne 7, 30, 0), (26, .iconst 1, 0, 0), (27, .goto 4, 31, 0), (30, .iconst 0, 0, 0), (31, .iconst 3, 0, 0), (32, .invokevirtual 275, 197, 0), (35, .ifCond .eq 5, 40, 0), (38, .iconst 0, 0, 0), (39, .ireturn, 0, 0), (40, .aload_n 0, 0, 0),
  (41, .getfield 43, 11, 16), (44, .iload 4, 0, 0), (46, .iaload, 0, 0), (47, .ireturn, 0, 0)], 5, 5, false, (some .int), [], 11)
def am_n299 : amN := (yX12_cyclePoint, cX12_cyclePoint, [])
def am_h299 : List (List Nat) := [[], [], [], [], [2015, 2017, 99, 134, 2018], [], [], [], [], [], [1549], [], [], [1644, 1645, 134, 1646], [], [], [], [], [], [1755, 1757, 65, 134, 1758], [], [], [], [], [1548], [], [], []]
def am_g299 : List (Nat × Nat) := []
def am_m300 : amM := ([(0, .aload_n 0, 0, 0), (1, .iload_n 1, 0, 0), (2, .iload_n 2, 0, 0), (3, .iload_n 3, 0, 0), (4, .invokevirtual 341, 259, 0), (7, .ifCond .eq 5, 12, 0), (10, .iconst 0, 0, 0), (11, .ireturn, 0, 0), (12, .aload_n 0, 0, 0), (13, .invokevirtual 307, 200, 0), (16, .aload_n 0, 0, 0), (17, .iload_n 1, 0, 0),
  (18, .iload_n 2, 0, 0), (19, .invokevirtual 344, 230, 0), (22, .aload_n 0, 0, 0), (23, .getfield 161, 11, 17), (26, .ireturn, 0, 0)], 4, 4, false, (some .int), [], 11)
def am_n300 : amN := (yX12_switchCycle, cX12_switchCycle, [])
def am_h300 : List (List Nat) := [[], [], [], [], [2015, 2017, 99, 134, 2018], [], [], [], [], [1852, 1854, 79, 134, 1855], [], [], [], [2031, 2033, 101, 134, 2034], [], [1549], []]
def am_g300 : List (Nat × Nat) := []
def am_m301 : amM := ([(0, .aload_n 0, 0, 0), (1, .iload_n 1, 0, 0), (2, .iload_n 2, 0, 0), (3, .iload_n 3, 0, 0), (4, .invokevirtual 341, 259, 0), (7, .ifCond .eq 5, 12, 0), (10, .iconst 0, 0, 0), (11, .ireturn, 0, 0), (12, .aload_n 0, 0, 0), (13, .invokevirtual 143, 201, 0), (16, .aload_n 0, 0, 0), (17, .iload_n 1, 0, 0),
  (18, .iload_n 2, 0, 0), (19, .invokevirtual 344, 230, 0), (22, .aload_n 0, 0, 0), (23, .invokevirtual 292, 261, 0), (26, .istore 4, 0, 0), (28, .aload_n 0, 0, 0), (29, .invokevirtual 152, 202, 0), (32, .iload 4, 0, 0), (34, .ireturn, 0, 0)], 5, 4, false, (some .int), [], 11)
def am_n301 : amN := (yX12_wouldHaveBy, cX12_wouldHaveBy, [])
def am_h301 : List (List Nat) := [[], [], [], [], [2015, 2017, 99, 134, 2018], [], [], [], [], [1868, 1870, 81, 134, 1871], [], [], [], [2031, 2033, 101, 134, 2034], [], [1767, 1769, 68, 134, 1770], [], [], [1872, 1874, 82, 134, 1875], [], []]
def am_g301 : List (Nat × Nat) := []
def am_m302 : amM := ([(0, .aload_n 0, 0, 0), (1, .iconst 0, 0, 0), (2, .putfield 67, 11, 7), (5, .iconst 0, 0, 0), (6, .istore_n 2, 0, 0), (7, .iconst 0, 0, 0), (8, .istore_n 3, 0, 0), (9, .iload_n 3, 0, 0), (10, .aload_n 0, 0, 0), (11, .invokevirtual 95, 203, 0), (14, .if_icmp .ge 75, 89, 0), (17, .iload_n 3, 0, 0),
  (18, .iconst 1, 0, 0), (19, .iadd, 0, 0), (20, .istore 4, 0, 0), (22, .iload 4, 0, 0), (24, .aload_n 0, 0, 0), (25, .invokevirtual 95, 203, 0), (28, .if_icmp .ge 55, 83, 0), (31, .iconst 0, 0, 0), (32, .istore 5, 0, 0), (34, .iload 5, 0, 0), (36, .aload_n 0, 0, 0), (37, .invokevirtual 95, 203, 0),
  (40, .if_icmp .ge 37, 77, 0), (43, .iload_n 2, 0, 0), (44, .aload_n 0, 0, 0), (45, .iload_n 3, 0, 0), (46, .iload 4, 0, 0), (48, .iload 5, 0, 0), (50, .invokevirtual 168, 226, 0), (53, .ifCond .eq 15, 68, 0), (56, .aload_n 0, 0, 0), (57, .getfield 161, 11, 17), (60, .iload_n 1, 0, 0), (61, .if_icmp .ne 7, 68, 0),
  (64, .iconst 1, 0, 0), (65, .goto 4, 69, 0), (68, .iconst 0, 0, 0), (69, .iadd, 0, 0), (70, .istore_n 2, 0, 0), (71, .iinc 5 1, 0, 0), (74, .goto (-40), 34, 0), (77, .iinc 4 1, 0, 0), (80, .goto (-58), 22, 0), (83, .iinc 3 1, 0, 0), (86, .goto (-77), 9, 0), (89, .iload_n 2, 0, 0),
  (90, .ireturn, 0, 0)], 6, 2, false, (some .int), [], 11)
def am_n302 : amN := (yX12_cyclesOf, cX12_cyclesOf, [])
def am_h302 : List (List Nat) := [[], [], [1539], [], [], [], [], [], [], [1698, 1700, 54, 134, 1701], [], [], [], [], [], [], [], [1698, 1700, 54, 134, 1701], [], [], [], [], [], [1698, 1700, 54, 134, 1701], [], [], [], [], [], [], [2003, 2005, 97, 134, 2006], [], [], [1549], [], [], [], [], [], [], [], [], [], [], [], [], [], [], []]
def am_g302 : List (Nat × Nat) := []
def am_m303 : amM := ([(0, .aload_n 0, 0, 0), (1, .iconst 0, 0, 0), (2, .putfield 67, 11, 7), (5, .aload_n 0, 0, 0), (6, .iload_n 1, 0, 0), (7, .invokevirtual 348, 232, 0), (10, .aload_n 0, 0, 0), (11, .getfield 171, 11, 19), (14, .ireturn, 0, 0)], 2, 2, false, (some .int), [], 11)
def am_n303 : amN := (yX12_trades, cX12_trades, [])
def am_h303 : List (List Nat) := [[], [], [1539], [], [], [2047, 2049, 102, 134, 2050], [], [1551], []]
def am_g303 : List (Nat × Nat) := []
def am_m304 : amM := ([(0, .aload_n 0, 0, 0), (1, .iconst 0, 0, 0), (2, .putfield 67, 11, 7), (5, .aload_n 0, 0, 0), (6, .iload_n 1, 0, 0), (7, .invokevirtual 348, 232, 0), (10, .aload_n 0, 0, 0), (11, .iload_n 2, 0, 0), (12, .iconst 0, 0, 0), (13, .aload_n 0, 0, 0), (14, .getfield 171, 11, 19), (17, .iconst 1, 0, 0),
  (18, .isub, 0, 0), (19, .invokestatic 197, 196, 0), (22, .ifCond .ne 7, 29, 0), (25, .iconst 1, 0, 0), (26, .goto 4, 30, 0), (29, .iconst 0, 0, 0), (30, .iconst 1, 0, 0), (31, .invokevirtual 275, 197, 0), (34, .ifCond .eq 7, 41, 0), (37, .lconst 0, 0, 0), (38, .goto 9, 47, 0), (41, .aload_n 0, 0, 0),
  (42, .getfield 46, 11, 18), (45, .iload_n 2, 0, 0), (46, .laload, 0, 0), (47, .lreturn, 0, 0)], 3, 3, false, (some .long), [], 11)
def am_n304 : amN := (yX12_trade, cX12_trade, [])
def am_h304 : List (List Nat) := [[], [], [1539], [], [], [2047, 2049, 102, 134, 2050], [], [], [], [], [1551], [], [], [1644, 1645, 134, 1646], [], [], [], [], [], [1755, 1757, 65, 134, 1758], [], [], [], [], [1550], [], [], []]
def am_g304 : List (Nat × Nat) := []
def am_m305 : amM := ([(0, .aload_n 0, 0, 0), (1, .invokevirtual 95, 203, 0), (4, .iconst 2, 0, 0), (5, .isub, 0, 0), (6, .aload_n 0, 0, 0), (7, .iload_n 1, 0, 0), (8, .iload_n 2, 0, 0), (9, .invokevirtual 85, 208, 0), (12, .isub, 0, 0), (13, .istore_n 3, 0, 0), (14, .iconst 0, 0, 0), (15, .istore 4, 0, 0),
  (17, .iconst 0, 0, 0), (18, .istore 5, 0, 0), (20, .iload 5, 0, 0), (22, .aload_n 0, 0, 0), (23, .invokevirtual 95, 203, 0), (26, .if_icmp .ge 40, 66, 0), (29, .iload 4, 0, 0), (31, .ifCond .ne 22, 53, 0), (34, .aload_n 0, 0, 0), (35, .iload_n 1, 0, 0), (36, .iload_n 2, 0, 0), (37, .iload 5, 0, 0),
  (39, .invokevirtual 168, 226, 0), (42, .ifCond .eq 15, 57, 0), (45, .aload_n 0, 0, 0), (46, .getfield 161, 11, 17), (49, .iload_n 3, 0, 0), (50, .if_icmp .ne 7, 57, 0), (53, .iconst 1, 0, 0), (54, .goto 4, 58, 0), (57, .iconst 0, 0, 0), (58, .istore 4, 0, 0), (60, .iinc 5 1, 0, 0), (63, .goto (-43), 20, 0),
  (66, .iload 4, 0, 0), (68, .ireturn, 0, 0)], 6, 3, false, (some .boolean), [], 11)
def am_n305 : amN := (yX12_isPerfect, cX12_isPerfect, [])
def am_h305 : List (List Nat) := [[], [1698, 1700, 54, 134, 1701], [], [], [], [], [], [1718, 1720, 59, 134, 1721], [], [], [], [], [], [], [], [], [1698, 1700, 54, 134, 1701], [], [], [], [], [], [], [], [2003, 2005, 97, 134, 2006], [], [], [1549], [], [], [], [], [], [], [], [], [], []]
def am_g305 : List (Nat × Nat) := []
def am_m306 : amM := ([(0, .aload_n 0, 0, 0), (1, .iconst 0, 0, 0), (2, .putfield 67, 11, 7), (5, .iconst 0, 0, 0), (6, .istore_n 1, 0, 0), (7, .iconst 0, 0, 0), (8, .istore_n 2, 0, 0), (9, .iload_n 2, 0, 0), (10, .aload_n 0, 0, 0), (11, .invokevirtual 95, 203, 0), (14, .if_icmp .ge 53, 67, 0), (17, .aload_n 0, 0, 0),
  (18, .invokevirtual 95, 203, 0), (21, .bipush 6, 0, 0), (23, .if_icmp .le 44, 67, 0), (26, .iload_n 2, 0, 0), (27, .iconst 1, 0, 0), (28, .iadd, 0, 0), (29, .istore_n 3, 0, 0), (30, .iload_n 3, 0, 0), (31, .aload_n 0, 0, 0), (32, .invokevirtual 95, 203, 0), (35, .if_icmp .ge 26, 61, 0), (38, .iload_n 1, 0, 0),
  (39, .aload_n 0, 0, 0), (40, .iload_n 2, 0, 0), (41, .iload_n 3, 0, 0), (42, .invokevirtual 351, 305, 0), (45, .ifCond .eq 7, 52, 0), (48, .iconst 1, 0, 0), (49, .goto 4, 53, 0), (52, .iconst 0, 0, 0), (53, .iadd, 0, 0), (54, .istore_n 1, 0, 0), (55, .iinc 3 1, 0, 0), (58, .goto (-28), 30, 0),
  (61, .iinc 2 1, 0, 0), (64, .goto (-55), 9, 0), (67, .iload_n 1, 0, 0), (68, .ireturn, 0, 0)], 4, 1, false, (some .int), [], 11)
def am_n306 : amN := (yX12_perfectPairs, cX12_perfectPairs, [])
def am_h306 : List (List Nat) := [[], [], [1539], [], [], [], [], [], [], [1698, 1700, 54, 134, 1701], [], [], [1698, 1700, 54, 134, 1701], [], [], [], [], [], [], [], [], [1698, 1700, 54, 134, 1701], [], [], [], [], [], [2067, 2069, 105, 134, 2070], [], [], [], [], [], [], [], [], [], [], [], []]
def am_g306 : List (Nat × Nat) := []
def am_m307 : amM := ([(0, .lconst 0, 0, 0), (1, .lstore_n 2, 0, 0), (2, .iconst 0, 0, 0), (3, .istore 4, 0, 0), (5, .iload 4, 0, 0), (7, .iconst 4, 0, 0), (8, .if_icmp .ge 25, 33, 0), (11, .lload_n 2, 0, 0), (12, .lconst 1, 0, 0), (13, .aload_n 0, 0, 0), (14, .getfield 37, 11, 13), (17, .iconst 4, 0, 0),
  (18, .iload_n 1, 0, 0), (19, .imul, 0, 0), (20, .iload 4, 0, 0), (22, .iadd, 0, 0), (23, .iaload, 0, 0), (24, .lshl, 0, 0), (25, .lor, 0, 0), (26, .lstore_n 2, 0, 0), (27, .iinc 4 1, 0, 0), (30, .goto (-25), 5, 0), (33, .lload_n 2, 0, 0), (34, .lreturn, 0, 0)], 5, 2, false, (some .long), [], 11)
def am_n307 : amN := (yX12_quadSet, cX12_quadSet, [])
def am_h307 : List (List Nat) := [[], [], [], [], [], [], [], [], [], [], [1545], [], [], [], [], [], [], [], [], [], [], [], [], []]
def am_g307 : List (Nat × Nat) := []
def am_m308 : amM := ([(0, .aload_n 0, 0, 0), (1, .iconst 0, 0, 0), (2, .putfield 67, 11, 7), (5, .aload_n 0, 0, 0), (6, .invokevirtual 155, 216, 0), (9, .aload_n 0, 0, 0), (10, .iconst 4, 0, 0), (11, .invokevirtual 348, 232, 0), (14, .aload_n 0, 0, 0), (15, .getfield 171, 11, 19), (18, .aload_n 0, 0, 0), (19, .getfield 108, 11, 14),
  (22, .if_icmp .eq 5, 27, 0), (25, .iconst 0, 0, 0), (26, .ireturn, 0, 0), (27, .iconst 0, 0, 0), (28, .istore_n 1, 0, 0), (29, .iconst 0, 0, 0), (30, .istore_n 2, 0, 0), (31, .iload_n 2, 0, 0), (32, .aload_n 0, 0, 0), (33, .getfield 171, 11, 19), (36, .if_icmp .ge 48, 84, 0), (39, .iconst 0, 0, 0),
  (40, .istore_n 3, 0, 0), (41, .iload_n 3, 0, 0), (42, .aload_n 0, 0, 0), (43, .getfield 108, 11, 14), (46, .if_icmp .ge 32, 78, 0), (49, .iload_n 1, 0, 0), (50, .aload_n 0, 0, 0), (51, .iload_n 3, 0, 0), (52, .invokevirtual 354, 307, 0), (55, .aload_n 0, 0, 0), (56, .getfield 46, 11, 18), (59, .iload_n 2, 0, 0),
  (60, .laload, 0, 0), (61, .lcmp, 0, 0), (62, .ifCond .ne 7, 69, 0), (65, .iconst 1, 0, 0), (66, .goto 4, 70, 0), (69, .iconst 0, 0, 0), (70, .iadd, 0, 0), (71, .istore_n 1, 0, 0), (72, .iinc 3 1, 0, 0), (75, .goto (-34), 41, 0), (78, .iinc 2 1, 0, 0), (81, .goto (-50), 31, 0),
  (84, .iload_n 1, 0, 0), (85, .aload_n 0, 0, 0), (86, .getfield 171, 11, 19), (89, .if_icmp .ne 7, 96, 0), (92, .iconst 1, 0, 0), (93, .goto 4, 97, 0), (96, .iconst 0, 0, 0), (97, .ireturn, 0, 0)], 4, 1, false, (some .boolean), [], 11)
def am_n308 : amN := (yX12_agrees, cX12_agrees, [])
def am_h308 : List (List Nat) := [[], [], [1539], [], [1771, 1773, 69, 134, 1774], [], [], [2047, 2049, 102, 134, 2050], [], [1551], [], [1546], [], [], [], [], [], [], [], [], [], [1551], [], [], [], [], [], [1546], [], [], [], [], [2075, 2077, 106, 134, 2078], [], [1550], [], [], [], [], [], [], [], [], [], [], [], [], [], [], [], [1551], [], [], [], [], []]
def am_g308 : List (Nat × Nat) := []
def am_m309 : amM := ([(0, .aload_n 0, 0, 0), (1, .iload_n 1, 0, 0), (2, .iload_n 2, 0, 0), (3, .iload_n 3, 0, 0), (4, .invokevirtual 301, 256, 0), (7, .ifCond .ne 23, 30, 0), (10, .aload_n 0, 0, 0), (11, .aload_n 0, 0, 0), (12, .invokevirtual 295, 262, 0), (15, .ifCond .ne 7, 22, 0), (18, .iconst 1, 0, 0), (19, .goto 4, 23, 0),
  (22, .iconst 0, 0, 0), (23, .iconst 3, 0, 0), (24, .invokevirtual 275, 197, 0), (27, .ifCond .eq 7, 34, 0), (30, .iconst 1, 0, 0), (31, .goto 4, 35, 0), (34, .iconst 0, 0, 0), (35, .ireturn, 0, 0)], 4, 4, false, (some .boolean), [], 11)
def am_n309 : amN := (yX12_noTrain, cX12_noTrain, [])
def am_h309 : List (List Nat) := [[], [], [], [], [1812, 1814, 75, 134, 1815], [], [], [], [1796, 1798, 73, 134, 1799], [], [], [], [], [], [1755, 1757, 65, 134, 1758], [], [], [], [], []]
def am_g309 : List (Nat × Nat) := []
def am_m310 : amM := ([(0, .iload_n 0, 0, 0), (1, .iload_n 1, 0, 0), (2, .iload_n 2, 0, 0), (3, .invokestatic 358, 346, 0), (6, .invokestatic 358, 346, 0), (9, .istore_n 3, 0, 0), (10, .iload_n 0, 0, 0), (11, .iload_n 1, 0, 0), (12, .iload_n 2, 0, 0), (13, .invokestatic 363, 347, 0), (16, .invokestatic 363, 347, 0), (19, .istore 4, 0, 0),
  (21, .sipush 256, 0, 0), (24, .iload_n 3, 0, 0), (25, .imul, 0, 0), (26, .bipush 16, 0, 0), (28, .iload_n 0, 0, 0), (29, .iload_n 1, 0, 0), (30, .iadd, 0, 0), (31, .iload_n 2, 0, 0), (32, .iadd, 0, 0), (33, .iload_n 3, 0, 0), (34, .isub, 0, 0), (35, .iload 4, 0, 0),
  (37, .isub, 0, 0), (38, .imul, 0, 0), (39, .iadd, 0, 0), (40, .iload 4, 0, 0), (42, .iadd, 0, 0), (43, .ireturn, 0, 0)], 5, 3, false, (some .int), [], 11)
def am_n310 : amN := (yX12_codeOf, cX12_codeOf, [])
def am_h310 : List (List Nat) := [[], [], [], [2090, 396, 133, 397], [2090, 396, 133, 397], [], [], [], [], [2091, 393, 133, 394], [2091, 393, 133, 394], [], [], [], [], [], [], [], [], [], [], [], [], [], [], [], [], [], [], []]
def am_g310 : List (Nat × Nat) := []
def am_m311 : amM := ([(0, .iload_n 1, 0, 0), (1, .sipush 256, 0, 0), (4, .idiv, 0, 0), (5, .istore_n 2, 0, 0), (6, .iload_n 1, 0, 0), (7, .bipush 16, 0, 0), (9, .idiv, 0, 0), (10, .bipush 16, 0, 0), (12, .irem, 0, 0), (13, .istore_n 3, 0, 0), (14, .iload_n 1, 0, 0), (15, .bipush 16, 0, 0),
  (17, .irem, 0, 0), (18, .istore 4, 0, 0), (20, .aload_n 0, 0, 0), (21, .iload_n 2, 0, 0), (22, .iload_n 3, 0, 0), (23, .invokevirtual 81, 204, 0), (26, .iload 4, 0, 0), (28, .if_icmp .ne 5, 33, 0), (31, .iload_n 1, 0, 0), (32, .ireturn, 0, 0), (33, .aload_n 0, 0, 0), (34, .iload_n 3, 0, 0),
  (35, .iload 4, 0, 0), (37, .invokevirtual 81, 204, 0), (40, .aload_n 0, 0, 0), (41, .iload_n 2, 0, 0), (42, .iload 4, 0, 0), (44, .invokevirtual 81, 204, 0), (47, .aload_n 0, 0, 0), (48, .iload_n 2, 0, 0), (49, .iload_n 3, 0, 0), (50, .invokevirtual 81, 204, 0), (53, .invokestatic 366, 310, 0), (56, .ireturn, 0, 0)], 5, 2, false, (some .int), [], 11)
def am_n311 : amN := (yX12_next, cX12_next, [])
def am_h311 : List (List Nat) := [[], [], [], [], [], [], [], [], [], [], [], [], [], [], [], [], [], [1722, 1724, 60, 134, 1725], [], [], [], [], [], [], [], [1722, 1724, 60, 134, 1725], [], [], [], [1722, 1724, 60, 134, 1725], [], [], [], [1722, 1724, 60, 134, 1725], [2087, 2088, 134, 2089], []]
def am_g311 : List (Nat × Nat) := []
def am_m312 : amM := ([(0, .iconst 0, 0, 0), (1, .istore_n 2, 0, 0), (2, .iconst 0, 0, 0), (3, .istore_n 3, 0, 0), (4, .iload_n 3, 0, 0), (5, .aload_n 0, 0, 0), (6, .invokevirtual 95, 203, 0), (9, .if_icmp .ge 64, 73, 0), (12, .iconst 0, 0, 0), (13, .istore 4, 0, 0), (15, .iload 4, 0, 0), (17, .iload_n 3, 0, 0),
  (18, .if_icmp .ge 49, 67, 0), (21, .iconst 0, 0, 0), (22, .istore 5, 0, 0), (24, .iload 5, 0, 0), (26, .iload 4, 0, 0), (28, .if_icmp .ge 33, 61, 0), (31, .iload_n 2, 0, 0), (32, .aload_n 0, 0, 0), (33, .iload_n 3, 0, 0), (34, .iload 4, 0, 0), (36, .iload 5, 0, 0), (38, .invokestatic 366, 310, 0),
  (41, .invokevirtual 369, 311, 0), (44, .iload_n 1, 0, 0), (45, .if_icmp .ne 7, 52, 0), (48, .iconst 1, 0, 0), (49, .goto 4, 53, 0), (52, .iconst 0, 0, 0), (53, .iadd, 0, 0), (54, .istore_n 2, 0, 0), (55, .iinc 5 1, 0, 0), (58, .goto (-34), 24, 0), (61, .iinc 4 1, 0, 0), (64, .goto (-49), 15, 0),
  (67, .iinc 3 1, 0, 0), (70, .goto (-66), 4, 0), (73, .iload_n 2, 0, 0), (74, .ireturn, 0, 0)], 6, 2, false, (some .int), [], 11)
def am_n312 : amN := (yX12_leadTo, cX12_leadTo, [])
def am_h312 : List (List Nat) := [[], [], [], [], [], [], [1698, 1700, 54, 134, 1701], [], [], [], [], [], [], [], [], [], [], [], [], [], [], [], [], [2087, 2088, 134, 2089], [2092, 2094, 108, 134, 2095], [], [], [], [], [], [], [], [], [], [], [], [], [], [], []]
def am_g312 : List (Nat × Nat) := []
def am_m313 : amM := ([(0, .aload_n 0, 0, 0), (1, .iload_n 1, 0, 0), (2, .invokevirtual 369, 311, 0), (5, .istore_n 2, 0, 0), (6, .iconst 1, 0, 0), (7, .istore_n 3, 0, 0), (8, .iload_n 2, 0, 0), (9, .iload_n 1, 0, 0), (10, .if_icmp .eq 22, 32, 0), (13, .iload_n 3, 0, 0), (14, .sipush 455, 0, 0), (17, .if_icmp .gt 15, 32, 0),
  (20, .aload_n 0, 0, 0), (21, .iload_n 2, 0, 0), (22, .invokevirtual 369, 311, 0), (25, .istore_n 2, 0, 0), (26, .iinc 3 1, 0, 0), (29, .goto (-21), 8, 0), (32, .iload_n 2, 0, 0), (33, .iload_n 1, 0, 0), (34, .if_icmp .ne 7, 41, 0), (37, .iload_n 3, 0, 0), (38, .goto 4, 42, 0), (41, .iconst 0, 0, 0),
  (42, .ireturn, 0, 0)], 4, 2, false, (some .int), [], 11)
def am_n313 : amN := (yX12_roundFrom, cX12_roundFrom, [])
def am_h313 : List (List Nat) := [[], [], [2092, 2094, 108, 134, 2095], [], [], [], [], [], [], [], [], [], [], [], [2092, 2094, 108, 134, 2095], [], [], [], [], [], [], [], [], [], []]
def am_g313 : List (Nat × Nat) := []
def am_m314 : amM := ([(0, .aload_n 0, 0, 0), (1, .iload_n 1, 0, 0), (2, .iload_n 2, 0, 0), (3, .iload_n 3, 0, 0), (4, .invokevirtual 372, 309, 0), (7, .ifCond .eq 7, 14, 0), (10, .iconst 0, 0, 0), (11, .goto 13, 24, 0), (14, .aload_n 0, 0, 0), (15, .iload_n 1, 0, 0), (16, .iload_n 2, 0, 0), (17, .iload_n 3, 0, 0),
  (18, .invokestatic 366, 310, 0), (21, .invokevirtual 369, 311, 0), (24, .ireturn, 0, 0)], 4, 4, false, (some .int), [], 11)
def am_n314 : amN := (yX12_train, cX12_train, [])
def am_h314 : List (List Nat) := [[], [], [], [], [2083, 2085, 107, 134, 2086], [], [], [], [], [], [], [], [2087, 2088, 134, 2089], [2092, 2094, 108, 134, 2095], []]
def am_g314 : List (Nat × Nat) := []
def am_m315 : amM := ([(0, .aload_n 0, 0, 0), (1, .iload_n 1, 0, 0), (2, .iload_n 2, 0, 0), (3, .iload_n 3, 0, 0), (4, .invokevirtual 372, 309, 0), (7, .ifCond .eq 7, 14, 0), (10, .iconst 0, 0, 0), (11, .goto 13, 24, 0), (14, .aload_n 0, 0, 0), (15, .iload_n 1, 0, 0), (16, .iload_n 2, 0, 0), (17, .iload_n 3, 0, 0),
  (18, .invokestatic 366, 310, 0), (21, .invokevirtual 375, 312, 0), (24, .ireturn, 0, 0)], 4, 4, false, (some .int), [], 11)
def am_n315 : amN := (yX12_trainsTo, cX12_trainsTo, [])
def am_h315 : List (List Nat) := [[], [], [], [], [2083, 2085, 107, 134, 2086], [], [], [], [], [], [], [], [2087, 2088, 134, 2089], [2100, 2102, 109, 134, 2103], []]
def am_g315 : List (Nat × Nat) := []
def am_m316 : amM := ([(0, .aload_n 0, 0, 0), (1, .iload_n 1, 0, 0), (2, .iload_n 2, 0, 0), (3, .iload_n 3, 0, 0), (4, .invokevirtual 372, 309, 0), (7, .ifCond .eq 5, 12, 0), (10, .iconst 0, 0, 0), (11, .ireturn, 0, 0), (12, .iconst 0, 0, 0), (13, .istore 4, 0, 0), (15, .iload_n 1, 0, 0), (16, .iload_n 2, 0, 0),
  (17, .iload_n 3, 0, 0), (18, .invokestatic 366, 310, 0), (21, .istore 5, 0, 0), (23, .aload_n 0, 0, 0), (24, .iload 5, 0, 0), (26, .invokevirtual 378, 313, 0), (29, .ifCond .ne 17, 46, 0), (32, .iinc 4 1, 0, 0), (35, .aload_n 0, 0, 0), (36, .iload 5, 0, 0), (38, .invokevirtual 369, 311, 0), (41, .istore 5, 0, 0),
  (43, .goto (-20), 23, 0), (46, .iload 4, 0, 0), (48, .ireturn, 0, 0)], 6, 4, false, (some .int), [], 11)
def am_n316 : amN := (yX12_tail, cX12_tail, [])
def am_h316 : List (List Nat) := [[], [], [], [], [2083, 2085, 107, 134, 2086], [], [], [], [], [], [], [], [], [2087, 2088, 134, 2089], [], [], [], [2108, 2110, 110, 134, 2111], [], [], [], [], [2092, 2094, 108, 134, 2095], [], [], [], []]
def am_g316 : List (Nat × Nat) := []
def am_m317 : amM := ([(0, .aload_n 0, 0, 0), (1, .iload_n 1, 0, 0), (2, .iload_n 2, 0, 0), (3, .iload_n 3, 0, 0), (4, .invokevirtual 372, 309, 0), (7, .ifCond .eq 5, 12, 0), (10, .iconst 0, 0, 0), (11, .ireturn, 0, 0), (12, .iload_n 1, 0, 0), (13, .iload_n 2, 0, 0), (14, .iload_n 3, 0, 0), (15, .invokestatic 366, 310, 0),
  (18, .istore 4, 0, 0), (20, .aload_n 0, 0, 0), (21, .iload 4, 0, 0), (23, .invokevirtual 378, 313, 0), (26, .ifCond .ne 14, 40, 0), (29, .aload_n 0, 0, 0), (30, .iload 4, 0, 0), (32, .invokevirtual 369, 311, 0), (35, .istore 4, 0, 0), (37, .goto (-17), 20, 0), (40, .aload_n 0, 0, 0), (41, .iload 4, 0, 0),
  (43, .invokevirtual 378, 313, 0), (46, .ireturn, 0, 0)], 5, 4, false, (some .int), [], 11)
def am_n317 : amN := (yX12_roundOf, cX12_roundOf, [])
def am_h317 : List (List Nat) := [[], [], [], [], [2083, 2085, 107, 134, 2086], [], [], [], [], [], [], [2087, 2088, 134, 2089], [], [], [], [2108, 2110, 110, 134, 2111], [], [], [], [2092, 2094, 108, 134, 2095], [], [], [], [], [2108, 2110, 110, 134, 2111], []]
def am_g317 : List (Nat × Nat) := []
def am_m318 : amM := ([(0, .aload_n 0, 0, 0), (1, .iconst 0, 0, 0), (2, .putfield 67, 11, 7), (5, .aload_n 0, 0, 0), (6, .aload_n 0, 0, 0), (7, .invokevirtual 295, 262, 0), (10, .ifCond .ne 7, 17, 0), (13, .iconst 1, 0, 0), (14, .goto 4, 18, 0), (17, .iconst 0, 0, 0), (18, .iconst 1, 0, 0), (19, .invokevirtual 275, 197, 0),
  (22, .ifCond .eq 5, 27, 0), (25, .iconst 0, 0, 0), (26, .ireturn, 0, 0), (27, .iconst 0, 0, 0), (28, .istore_n 2, 0, 0), (29, .iconst 0, 0, 0), (30, .istore_n 3, 0, 0), (31, .iload_n 3, 0, 0), (32, .aload_n 0, 0, 0), (33, .invokevirtual 95, 203, 0), (36, .if_icmp .ge 64, 100, 0), (39, .iconst 0, 0, 0),
  (40, .istore 4, 0, 0), (42, .iload 4, 0, 0), (44, .iload_n 3, 0, 0), (45, .if_icmp .ge 49, 94, 0), (48, .iconst 0, 0, 0), (49, .istore 5, 0, 0), (51, .iload 5, 0, 0), (53, .iload 4, 0, 0), (55, .if_icmp .ge 33, 88, 0), (58, .iload_n 2, 0, 0), (59, .aload_n 0, 0, 0), (60, .iload_n 3, 0, 0),
  (61, .iload 4, 0, 0), (63, .iload 5, 0, 0), (65, .invokestatic 366, 310, 0), (68, .invokevirtual 375, 312, 0), (71, .iload_n 1, 0, 0), (72, .if_icmp .ne 7, 79, 0), (75, .iconst 1, 0, 0), (76, .goto 4, 80, 0), (79, .iconst 0, 0, 0), (80, .iadd, 0, 0), (81, .istore_n 2, 0, 0), (82, .iinc 5 1, 0, 0),
  (85, .goto (-34), 51, 0), (88, .iinc 4 1, 0, 0), (91, .goto (-49), 42, 0), (94, .iinc 3 1, 0, 0), (97, .goto (-66), 31, 0), (100, .iload_n 2, 0, 0), (101, .ireturn, 0, 0)], 6, 2, false, (some .int), [], 11)
def am_n318 : amN := (yX12_trainProfile, cX12_trainProfile, [])
def am_h318 : List (List Nat) := [[], [], [1539], [], [], [1796, 1798, 73, 134, 1799], [], [], [], [], [], [1755, 1757, 65, 134, 1758], [], [], [], [], [], [], [], [], [], [1698, 1700, 54, 134, 1701], [], [], [], [], [], [], [], [], [], [], [], [], [], [], [], [], [2087, 2088, 134, 2089], [2100, 2102, 109, 134, 2103], [], [], [], [], [], [], [], [], [], [], [], [], [], [], []]
def am_g318 : List (Nat × Nat) := []
def am_m319 : amM := ([(0, .aload_n 0, 0, 0), (1, .iload_n 1, 0, 0), (2, .invokevirtual 378, 313, 0), (5, .ifCond .ne 5, 10, 0), (8, .iconst 0, 0, 0), (9, .ireturn, 0, 0), (10, .aload_n 0, 0, 0), (11, .iload_n 1, 0, 0), (12, .invokevirtual 369, 311, 0), (15, .istore_n 2, 0, 0), (16, .iload_n 2, 0, 0), (17, .iload_n 1, 0, 0),
  (18, .if_icmp .eq 19, 37, 0), (21, .iload_n 2, 0, 0), (22, .iload_n 1, 0, 0), (23, .if_icmp .ge 5, 28, 0), (26, .iconst 0, 0, 0), (27, .ireturn, 0, 0), (28, .aload_n 0, 0, 0), (29, .iload_n 2, 0, 0), (30, .invokevirtual 369, 311, 0), (33, .istore_n 2, 0, 0), (34, .goto (-18), 16, 0), (37, .iconst 1, 0, 0),
  (38, .ireturn, 0, 0)], 3, 2, false, (some .boolean), [], 11)
def am_n319 : amN := (yX12_beginsRound, cX12_beginsRound, [])
def am_h319 : List (List Nat) := [[], [], [2108, 2110, 110, 134, 2111], [], [], [], [], [], [2092, 2094, 108, 134, 2095], [], [], [], [], [], [], [], [], [], [], [], [2092, 2094, 108, 134, 2095], [], [], [], []]
def am_g319 : List (Nat × Nat) := []
def am_m320 : amM := ([(0, .aload_n 0, 0, 0), (1, .iconst 0, 0, 0), (2, .putfield 67, 11, 7), (5, .aload_n 0, 0, 0), (6, .aload_n 0, 0, 0), (7, .invokevirtual 295, 262, 0), (10, .ifCond .ne 7, 17, 0), (13, .iconst 1, 0, 0), (14, .goto 4, 18, 0), (17, .iconst 0, 0, 0), (18, .iconst 1, 0, 0), (19, .invokevirtual 275, 197, 0),
  (22, .ifCond .eq 5, 27, 0), (25, .iconst 0, 0, 0), (26, .ireturn, 0, 0), (27, .iconst 0, 0, 0), (28, .istore_n 1, 0, 0), (29, .iconst 0, 0, 0), (30, .istore_n 2, 0, 0), (31, .iload_n 2, 0, 0), (32, .aload_n 0, 0, 0), (33, .invokevirtual 95, 203, 0), (36, .if_icmp .ge 59, 95, 0), (39, .iconst 0, 0, 0),
  (40, .istore_n 3, 0, 0), (41, .iload_n 3, 0, 0), (42, .iload_n 2, 0, 0), (43, .if_icmp .ge 46, 89, 0), (46, .iconst 0, 0, 0), (47, .istore 4, 0, 0), (49, .iload 4, 0, 0), (51, .iload_n 3, 0, 0), (52, .if_icmp .ge 31, 83, 0), (55, .iload_n 1, 0, 0), (56, .aload_n 0, 0, 0), (57, .iload_n 2, 0, 0),
  (58, .iload_n 3, 0, 0), (59, .iload 4, 0, 0), (61, .invokestatic 366, 310, 0), (64, .invokevirtual 381, 319, 0), (67, .ifCond .eq 7, 74, 0), (70, .iconst 1, 0, 0), (71, .goto 4, 75, 0), (74, .iconst 0, 0, 0), (75, .iadd, 0, 0), (76, .istore_n 1, 0, 0), (77, .iinc 4 1, 0, 0), (80, .goto (-31), 49, 0),
  (83, .iinc 3 1, 0, 0), (86, .goto (-45), 41, 0), (89, .iinc 2 1, 0, 0), (92, .goto (-61), 31, 0), (95, .iload_n 1, 0, 0), (96, .ireturn, 0, 0)], 5, 1, false, (some .int), [], 11)
def am_n320 : amN := (yX12_rounds, cX12_rounds, [])
def am_h320 : List (List Nat) := [[], [], [1539], [], [], [1796, 1798, 73, 134, 1799], [], [], [], [], [], [1755, 1757, 65, 134, 1758], [], [], [], [], [], [], [], [], [], [1698, 1700, 54, 134, 1701], [], [], [], [], [], [], [], [], [], [], [], [], [], [], [], [], [2087, 2088, 134, 2089], [2124, 2126, 111, 134, 2127], [], [], [], [], [], [], [], [], [], [], [], [], [], []]
def am_g320 : List (Nat × Nat) := []
def am_m321 : amM := ([(0, .aload_n 0, 0, 0), (1, .iconst 0, 0, 0), (2, .putfield 67, 11, 7), (5, .aload_n 0, 0, 0), (6, .invokevirtual 99, 211, 0), (9, .aload_n 0, 0, 0), (10, .aload_n 0, 0, 0), (11, .iload_n 1, 0, 0), (12, .invokevirtual 316, 234, 0), (15, .invokevirtual 185, 235, 0), (18, .ireturn, 0, 0)], 2, 2, false, (some .boolean), [], 11)
def am_n321 : amN := (yX12_isTurned, cX12_isTurned, [])
def am_h321 : List (List Nat) := [[], [], [1539], [], [1739, 1741, 64, 134, 1742], [], [], [], [1903, 1905, 84, 134, 1906], [2132, 2134, 112, 134, 2135], []]
def am_g321 : List (Nat × Nat) := []
def am_m322 : amM := ([(0, .aload_n 0, 0, 0), (1, .iconst 0, 0, 0), (2, .putfield 67, 11, 7), (5, .aload_n 0, 0, 0), (6, .invokevirtual 384, 236, 0), (9, .ireturn, 0, 0)], 1, 1, false, (some .int), [], 11)
def am_n322 : amN := (yX12_leastTurn, cX12_leastTurn, [])
def am_h322 : List (List Nat) := [[], [], [1539], [], [2140, 2142, 113, 134, 2143], []]
def am_g322 : List (Nat × Nat) := []
def am_m323 : amM := ([(0, .aload_n 0, 0, 0), (1, .iconst 0, 0, 0), (2, .putfield 67, 11, 7), (5, .aload_n 0, 0, 0), (6, .invokevirtual 384, 236, 0), (9, .aload_n 0, 0, 0), (10, .invokevirtual 95, 203, 0), (13, .irem, 0, 0), (14, .istore_n 1, 0, 0), (15, .iconst 0, 0, 0), (16, .istore_n 2, 0, 0), (17, .iconst 0, 0, 0),
  (18, .istore_n 3, 0, 0), (19, .iload_n 3, 0, 0), (20, .aload_n 0, 0, 0), (21, .getfield 92, 11, 12), (24, .if_icmp .ge 26, 50, 0), (27, .iload_n 2, 0, 0), (28, .aload_n 0, 0, 0), (29, .iload_n 3, 0, 0), (30, .iload_n 1, 0, 0), (31, .invokevirtual 387, 324, 0), (34, .ifCond .eq 7, 41, 0), (37, .iconst 1, 0, 0),
  (38, .goto 4, 42, 0), (41, .iconst 0, 0, 0), (42, .iadd, 0, 0), (43, .istore_n 2, 0, 0), (44, .iinc 3 1, 0, 0), (47, .goto (-28), 19, 0), (50, .iload_n 2, 0, 0), (51, .ireturn, 0, 0)], 4, 1, false, (some .int), [], 11)
def am_n323 : amN := (yX12_orbits, cX12_orbits, [])
def am_h323 : List (List Nat) := [[], [], [1539], [], [2140, 2142, 113, 134, 2143], [], [1698, 1700, 54, 134, 1701], [], [], [], [], [], [], [], [], [1544], [], [], [], [], [], [2148, 2150, 114, 134, 2151], [], [], [], [], [], [], [], [], [], []]
def am_g323 : List (Nat × Nat) := []
def am_m324 : amM := ([(0, .aload_n 0, 0, 0), (1, .getfield 25, 11, 8), (4, .iload_n 1, 0, 0), (5, .iaload, 0, 0), (6, .istore_n 3, 0, 0), (7, .aload_n 0, 0, 0), (8, .getfield 28, 11, 9), (11, .iload_n 1, 0, 0), (12, .iaload, 0, 0), (13, .istore 4, 0, 0), (15, .aload_n 0, 0, 0), (16, .getfield 31, 11, 10),
  (19, .iload_n 1, 0, 0), (20, .iaload, 0, 0), (21, .istore 5, 0, 0), (23, .iconst 0, 0, 0), (24, .istore 6, 0, 0), (26, .iload 6, 0, 0), (28, .aload_n 0, 0, 0), (29, .invokevirtual 95, 203, 0), (32, .if_icmp .ge 57, 89, 0), (35, .aload_n 0, 0, 0), (36, .iload_n 3, 0, 0), (37, .iload_n 2, 0, 0),
  (38, .invokevirtual 182, 233, 0), (41, .istore_n 3, 0, 0), (42, .aload_n 0, 0, 0), (43, .iload 4, 0, 0), (45, .iload_n 2, 0, 0), (46, .invokevirtual 182, 233, 0), (49, .istore 4, 0, 0), (51, .aload_n 0, 0, 0), (52, .iload 5, 0, 0), (54, .iload_n 2, 0, 0), (55, .invokevirtual 182, 233, 0), (58, .istore 5, 0, 0),
  (60, .aload_n 0, 0, 0), (61, .iconst 1, 0, 0), (62, .iload_n 3, 0, 0), (63, .ishl, 0, 0), (64, .iconst 1, 0, 0), (65, .iload 4, 0, 0), (67, .ishl, 0, 0), (68, .ior, 0, 0), (69, .iconst 1, 0, 0), (70, .iload 5, 0, 0), (72, .ishl, 0, 0), (73, .ior, 0, 0),
  (74, .invokevirtual 115, 212, 0), (77, .iload_n 1, 0, 0), (78, .if_icmp .ge 5, 83, 0), (81, .iconst 0, 0, 0), (82, .ireturn, 0, 0), (83, .iinc 6 1, 0, 0), (86, .goto (-60), 26, 0), (89, .iconst 1, 0, 0), (90, .ireturn, 0, 0)], 7, 3, false, (some .boolean), [], 11)
def am_n324 : amN := (yX12_isLeastOfOrbit, cX12_isLeastOfOrbit, [])
def am_h324 : List (List Nat) := [[], [1540], [], [], [], [], [1541], [], [], [], [], [1542], [], [], [], [], [], [], [], [1698, 1700, 54, 134, 1701], [], [], [], [], [1706, 1708, 56, 134, 1709], [], [], [], [], [1706, 1708, 56, 134, 1709], [], [], [], [], [1706, 1708, 56, 134, 1709], [], [], [], [], [], [], [], [], [], [], [], [], [], [1784, 1786, 71, 134, 1787], [], [], [], [], [], [], [], []]
def am_g324 : List (Nat × Nat) := []
def am_m325 : amM := ([(0, .aload_n 0, 0, 0), (1, .iconst 0, 0, 0), (2, .putfield 67, 11, 7), (5, .iconst 3, 0, 0), (6, .aload_n 0, 0, 0), (7, .invokevirtual 105, 213, 0), (10, .imul, 0, 0), (11, .i2f, 0, 0), (12, .aload_n 0, 0, 0), (13, .invokevirtual 102, 214, 0), (16, .i2f, 0, 0), (17, .fdiv, 0, 0),
  (18, .freturn, 0, 0)], 1, 1, false, (some .float), [], 11)
def am_n325 : amN := (yX12_coverage, cX12_coverage, [])
def am_h325 : List (List Nat) := [[], [], [1539], [], [], [1735, 1737, 63, 134, 1738], [], [], [], [1763, 1765, 67, 134, 1766], [], [], []]
def am_g325 : List (Nat × Nat) := []
def am_m326 : amM := ([(0, .iload_n 1, 0, 0), (1, .istore_n 2, 0, 0), (2, .iconst 0, 0, 0), (3, .istore_n 3, 0, 0), (4, .iload_n 3, 0, 0), (5, .aload_n 0, 0, 0), (6, .invokevirtual 95, 203, 0), (9, .if_icmp .ge 78, 87, 0), (12, .iconst 0, 0, 0), (13, .istore 4, 0, 0), (15, .iload 4, 0, 0), (17, .iload_n 3, 0, 0),
  (18, .if_icmp .ge 63, 81, 0), (21, .iload_n 2, 0, 0), (22, .iload_n 3, 0, 0), (23, .ishr, 0, 0), (24, .iconst 1, 0, 0), (25, .iand, 0, 0), (26, .iconst 1, 0, 0), (27, .if_icmp .ne 17, 44, 0), (30, .iload_n 2, 0, 0), (31, .iload 4, 0, 0), (33, .ishr, 0, 0), (34, .iconst 1, 0, 0),
  (35, .iand, 0, 0), (36, .iconst 1, 0, 0), (37, .if_icmp .ne 7, 44, 0), (40, .iconst 1, 0, 0), (41, .goto 4, 45, 0), (44, .iconst 0, 0, 0), (45, .istore 5, 0, 0), (47, .iload 5, 0, 0), (49, .ifCond .eq 26, 75, 0), (52, .aload_n 0, 0, 0), (53, .iload_n 3, 0, 0), (54, .iload 4, 0, 0),
  (56, .invokevirtual 81, 204, 0), (59, .iconst (-1), 0, 0), (60, .if_icmp .eq 15, 75, 0), (63, .iload_n 2, 0, 0), (64, .iconst 1, 0, 0), (65, .aload_n 0, 0, 0), (66, .iload_n 3, 0, 0), (67, .iload 4, 0, 0), (69, .invokevirtual 81, 204, 0), (72, .ishl, 0, 0), (73, .ior, 0, 0), (74, .istore_n 2, 0, 0),
  (75, .iinc 4 1, 0, 0), (78, .goto (-63), 15, 0), (81, .iinc 3 1, 0, 0), (84, .goto (-80), 4, 0), (87, .iload_n 2, 0, 0), (88, .iload_n 1, 0, 0), (89, .if_icmp .ne 7, 96, 0), (92, .iload_n 1, 0, 0), (93, .goto 8, 101, 0), (96, .aload_n 0, 0, 0), (97, .iload_n 2, 0, 0), (98, .invokevirtual 390, 326, 0),
  (101, .ireturn, 0, 0)], 6, 2, false, (some .int), [], 11)
def am_n326 : amN := (yX12_closed, cX12_closed, [])
def am_h326 : List (List Nat) := [[], [], [], [], [], [], [1698, 1700, 54, 134, 1701], [], [], [], [], [], [], [], [], [], [], [], [], [], [], [], [], [], [], [], [], [], [], [], [], [], [], [], [], [], [1722, 1724, 60, 134, 1725], [], [], [], [], [], [], [], [1722, 1724, 60, 134, 1725], [], [], [], [], [], [], [], [], [], [], [], [], [], [], [2160, 2162, 115, 134, 2163], []]
def am_g326 : List (Nat × Nat) := []
def am_m327 : amM := ([(0, .aload_n 0, 0, 0), (1, .iconst 0, 0, 0), (2, .putfield 67, 11, 7), (5, .aload_n 0, 0, 0), (6, .iload_n 1, 0, 0), (7, .ifCond .lt 12, 19, 0), (10, .iload_n 1, 0, 0), (11, .aload_n 0, 0, 0), (12, .invokevirtual 95, 203, 0), (15, .ishr, 0, 0), (16, .ifCond .eq 7, 23, 0), (19, .iconst 1, 0, 0),
  (20, .goto 4, 24, 0), (23, .iconst 0, 0, 0), (24, .iconst 1, 0, 0), (25, .invokevirtual 275, 197, 0), (28, .ifCond .eq 7, 35, 0), (31, .iconst 0, 0, 0), (32, .goto 8, 40, 0), (35, .aload_n 0, 0, 0), (36, .iload_n 1, 0, 0), (37, .invokevirtual 390, 326, 0), (40, .ireturn, 0, 0)], 2, 2, false, (some .int), [], 11)
def am_n327 : amN := (yX12_closure, cX12_closure, [])
def am_h327 : List (List Nat) := [[], [], [1539], [], [], [], [], [], [1698, 1700, 54, 134, 1701], [], [], [], [], [], [], [1755, 1757, 65, 134, 1758], [], [], [], [], [], [2160, 2162, 115, 134, 2163], []]
def am_g327 : List (Nat × Nat) := []
def am_m328 : amM := ([(0, .iconst 0, 0, 0), (1, .istore_n 2, 0, 0), (2, .iload_n 2, 0, 0), (3, .aload_n 0, 0, 0), (4, .getfield 92, 11, 12), (7, .if_icmp .ge 26, 33, 0), (10, .aload_n 0, 0, 0), (11, .getfield 34, 11, 11), (14, .iload_n 2, 0, 0), (15, .iaload, 0, 0), (16, .iload_n 1, 0, 0), (17, .iand, 0, 0),
  (18, .invokestatic 140, 343, 0), (21, .iconst 2, 0, 0), (22, .if_icmp .ne 5, 27, 0), (25, .iconst 0, 0, 0), (26, .ireturn, 0, 0), (27, .iinc 2 1, 0, 0), (30, .goto (-28), 2, 0), (33, .iconst 1, 0, 0), (34, .ireturn, 0, 0)], 3, 2, false, (some .boolean), [], 11)
def am_n328 : amN := (yX12_isClosed, cX12_isClosed, [])
def am_h328 : List (List Nat) := [[], [], [], [], [1544], [], [], [1543], [], [], [], [], [1779, 568, 140, 569], [], [], [], [], [], [], [], []]
def am_g328 : List (Nat × Nat) := []
def am_m329 : amM := ([(0, .aload_n 0, 0, 0), (1, .iconst 0, 0, 0), (2, .putfield 67, 11, 7), (5, .aload_n 0, 0, 0), (6, .invokevirtual 99, 211, 0), (9, .iconst 0, 0, 0), (10, .istore_n 1, 0, 0), (11, .iconst 0, 0, 0), (12, .istore_n 2, 0, 0), (13, .iload_n 2, 0, 0), (14, .iconst 1, 0, 0), (15, .aload_n 0, 0, 0),
  (16, .invokevirtual 95, 203, 0), (19, .ishl, 0, 0), (20, .iconst 1, 0, 0), (21, .isub, 0, 0), (22, .if_icmp .ge 33, 55, 0), (25, .iload_n 1, 0, 0), (26, .iload_n 2, 0, 0), (27, .invokestatic 140, 343, 0), (30, .iconst 3, 0, 0), (31, .if_icmp .le 15, 46, 0), (34, .aload_n 0, 0, 0), (35, .iload_n 2, 0, 0),
  (36, .invokevirtual 393, 328, 0), (39, .ifCond .eq 7, 46, 0), (42, .iconst 1, 0, 0), (43, .goto 4, 47, 0), (46, .iconst 0, 0, 0), (47, .iadd, 0, 0), (48, .istore_n 1, 0, 0), (49, .iinc 2 1, 0, 0), (52, .goto (-39), 13, 0), (55, .iload_n 1, 0, 0), (56, .ireturn, 0, 0)], 3, 1, false, (some .int), [], 11)
def am_n329 : amN := (yX12_subsystems, cX12_subsystems, [])
def am_h329 : List (List Nat) := [[], [], [1539], [], [1739, 1741, 64, 134, 1742], [], [], [], [], [], [], [], [1698, 1700, 54, 134, 1701], [], [], [], [], [], [], [1779, 568, 140, 569], [], [], [], [], [2168, 2170, 116, 134, 2171], [], [], [], [], [], [], [], [], [], []]
def am_g329 : List (Nat × Nat) := []
def am_m330 : amM := ([(0, .iconst 0, 0, 0), (1, .istore_n 2, 0, 0), (2, .iload_n 2, 0, 0), (3, .aload_n 0, 0, 0), (4, .getfield 92, 11, 12), (7, .if_icmp .ge 28, 35, 0), (10, .aload_n 0, 0, 0), (11, .getfield 34, 11, 11), (14, .iload_n 2, 0, 0), (15, .iaload, 0, 0), (16, .iload_n 1, 0, 0), (17, .iand, 0, 0),
  (18, .aload_n 0, 0, 0), (19, .getfield 34, 11, 11), (22, .iload_n 2, 0, 0), (23, .iaload, 0, 0), (24, .if_icmp .ne 5, 29, 0), (27, .iconst 0, 0, 0), (28, .ireturn, 0, 0), (29, .iinc 2 1, 0, 0), (32, .goto (-30), 2, 0), (35, .iconst 1, 0, 0), (36, .ireturn, 0, 0)], 3, 2, false, (some .boolean), [], 11)
def am_n330 : amN := (yX12_holdsNone, cX12_holdsNone, [])
def am_h330 : List (List Nat) := [[], [], [], [], [1544], [], [], [1543], [], [], [], [], [], [1543], [], [], [], [], [], [], [], [], []]
def am_g330 : List (Nat × Nat) := []
def am_m331 : amM := ([(0, .aload_n 0, 0, 0), (1, .iconst 0, 0, 0), (2, .putfield 67, 11, 7), (5, .aload_n 0, 0, 0), (6, .invokevirtual 99, 211, 0), (9, .iconst 0, 0, 0), (10, .istore_n 1, 0, 0), (11, .iconst 1, 0, 0), (12, .istore_n 2, 0, 0), (13, .iload_n 2, 0, 0), (14, .iconst 1, 0, 0), (15, .aload_n 0, 0, 0),
  (16, .invokevirtual 95, 203, 0), (19, .ishl, 0, 0), (20, .if_icmp .ge 30, 50, 0), (23, .iload_n 2, 0, 0), (24, .invokestatic 140, 343, 0), (27, .iload_n 1, 0, 0), (28, .invokestatic 140, 343, 0), (31, .if_icmp .le 13, 44, 0), (34, .aload_n 0, 0, 0), (35, .iload_n 2, 0, 0), (36, .invokevirtual 396, 330, 0), (39, .ifCond .eq 5, 44, 0),
  (42, .iload_n 2, 0, 0), (43, .istore_n 1, 0, 0), (44, .iinc 2 1, 0, 0), (47, .goto (-34), 13, 0), (50, .iload_n 1, 0, 0), (51, .ireturn, 0, 0)], 3, 1, false, (some .int), [], 11)
def am_n331 : amN := (yX12_independent, cX12_independent, [])
def am_h331 : List (List Nat) := [[], [], [1539], [], [1739, 1741, 64, 134, 1742], [], [], [], [], [], [], [], [1698, 1700, 54, 134, 1701], [], [], [], [1779, 568, 140, 569], [], [1779, 568, 140, 569], [], [], [], [2176, 2178, 117, 134, 2179], [], [], [], [], [], [], []]
def am_g331 : List (Nat × Nat) := []
def am_m332 : amM := ([(0, .aload_n 0, 0, 0), (1, .iload_n 1, 0, 0), (2, .invokevirtual 298, 257, 0), (5, .ifCond .eq 5, 10, 0), (8, .iconst 0, 0, 0), (9, .ireturn, 0, 0), (10, .iconst 0, 0, 0), (11, .istore_n 2, 0, 0), (12, .iconst 0, 0, 0), (13, .istore_n 3, 0, 0), (14, .iload_n 3, 0, 0), (15, .aload_n 0, 0, 0),
  (16, .getfield 92, 11, 12), (19, .if_icmp .ge 33, 52, 0), (22, .iload_n 2, 0, 0), (23, .aload_n 0, 0, 0), (24, .getfield 34, 11, 11), (27, .iload_n 3, 0, 0), (28, .iaload, 0, 0), (29, .aload_n 0, 0, 0), (30, .getfield 34, 11, 11), (33, .iload_n 1, 0, 0), (34, .iaload, 0, 0), (35, .iand, 0, 0),
  (36, .ifCond .ne 7, 43, 0), (39, .iconst 1, 0, 0), (40, .goto 4, 44, 0), (43, .iconst 0, 0, 0), (44, .iadd, 0, 0), (45, .istore_n 2, 0, 0), (46, .iinc 3 1, 0, 0), (49, .goto (-35), 14, 0), (52, .iload_n 2, 0, 0), (53, .ireturn, 0, 0)], 4, 2, false, (some .int), [], 11)
def am_n332 : amN := (yX12_apart, cX12_apart, [])
def am_h332 : List (List Nat) := [[], [], [1804, 1806, 74, 134, 1807], [], [], [], [], [], [], [], [], [], [1544], [], [], [], [1543], [], [], [], [1543], [], [], [], [], [], [], [], [], [], [], [], [], []]
def am_g332 : List (Nat × Nat) := []
def am_m333 : amM := ([(0, .iconst 0, 0, 0), (1, .istore_n 3, 0, 0), (2, .iload_n 1, 0, 0), (3, .istore 4, 0, 0), (5, .iload 4, 0, 0), (7, .aload_n 0, 0, 0), (8, .getfield 92, 11, 12), (11, .if_icmp .ge 45, 56, 0), (14, .aload_n 0, 0, 0), (15, .getfield 34, 11, 11), (18, .iload 4, 0, 0), (20, .iaload, 0, 0),
  (21, .iload_n 2, 0, 0), (22, .iand, 0, 0), (23, .ifCond .ne 27, 50, 0), (26, .iload_n 3, 0, 0), (27, .iconst 1, 0, 0), (28, .aload_n 0, 0, 0), (29, .iload 4, 0, 0), (31, .iconst 1, 0, 0), (32, .iadd, 0, 0), (33, .iload_n 2, 0, 0), (34, .aload_n 0, 0, 0), (35, .getfield 34, 11, 11),
  (38, .iload 4, 0, 0), (40, .iaload, 0, 0), (41, .ior, 0, 0), (42, .invokevirtual 399, 333, 0), (45, .iadd, 0, 0), (46, .invokestatic 358, 346, 0), (49, .istore_n 3, 0, 0), (50, .iinc 4 1, 0, 0), (53, .goto (-48), 5, 0), (56, .iload_n 3, 0, 0), (57, .ireturn, 0, 0)], 5, 3, false, (some .int), [], 11)
def am_n333 : amN := (yX12_mostFrom, cX12_mostFrom, [])
def am_h333 : List (List Nat) := [[], [], [], [], [], [], [1544], [], [], [1543], [], [], [], [], [], [], [], [], [], [], [], [], [], [1543], [], [], [], [2188, 2190, 118, 134, 2191], [], [2090, 396, 133, 397], [], [], [], [], []]
def am_g333 : List (Nat × Nat) := []
def am_m334 : amM := ([(0, .aload_n 0, 0, 0), (1, .iconst 0, 0, 0), (2, .putfield 67, 11, 7), (5, .aload_n 0, 0, 0), (6, .invokevirtual 99, 211, 0), (9, .aload_n 0, 0, 0), (10, .iconst 0, 0, 0), (11, .iconst 0, 0, 0), (12, .invokevirtual 399, 333, 0), (15, .ireturn, 0, 0)], 1, 1, false, (some .int), [], 11)
def am_n334 : amN := (yX12_mostApart, cX12_mostApart, [])
def am_h334 : List (List Nat) := [[], [], [1539], [], [1739, 1741, 64, 134, 1742], [], [], [], [2188, 2190, 118, 134, 2191], []]
def am_g334 : List (Nat × Nat) := []
def am_m335 : amM := ([(0, .aload_n 0, 0, 0), (1, .getfield 60, 11, 31), (4, .aload_n 0, 0, 0), (5, .getfield 402, 11, 32), (8, .iload_n 1, 0, 0), (9, .iastore, 0, 0), (10, .aload_n 0, 0, 0), (11, .dup, 0, 0), (12, .getfield 402, 11, 32), (15, .iconst 1, 0, 0), (16, .iadd, 0, 0), (17, .putfield 402, 11, 32),
  (20, .return_, 0, 0)], 2, 2, false, none, [], 11)
def am_n335 : amN := (yX12_write, cX12_write, [])
def am_h335 : List (List Nat) := [[], [1563], [], [1564], [], [], [], [], [1564], [], [], [1564], []]
def am_g335 : List (Nat × Nat) := []
def am_m336 : amM := ([(0, .aload_n 0, 0, 0), (1, .iload_n 1, 0, 0), (2, .bipush 10, 0, 0), (4, .if_icmp .ge 10, 14, 0), (7, .bipush 48, 0, 0), (9, .iload_n 1, 0, 0), (10, .iadd, 0, 0), (11, .goto 10, 21, 0), (14, .bipush 97, 0, 0), (16, .iload_n 1, 0, 0), (17, .iadd, 0, 0), (18, .bipush 10, 0, 0),
  (20, .isub, 0, 0), (21, .invokevirtual 405, 335, 0), (24, .return_, 0, 0)], 2, 2, false, none, [], 11)
def am_n336 : amN := (yX12_writePoint, cX12_writePoint, [])
def am_h336 : List (List Nat) := [[], [], [], [], [], [], [], [], [], [], [], [], [], [2196, 2198, 119, 134, 2199], []]
def am_g336 : List (Nat × Nat) := []
def am_m337 : amM := ([(0, .aload_n 0, 0, 0), (1, .iload_n 1, 0, 0), (2, .invokevirtual 279, 254, 0), (5, .ifCond .eq 5, 10, 0), (8, .iconst 0, 0, 0), (9, .ireturn, 0, 0), (10, .aload_n 0, 0, 0), (11, .invokevirtual 99, 211, 0), (14, .aload_n 0, 0, 0), (15, .iconst 0, 0, 0), (16, .putfield 402, 11, 32), (19, .iconst 0, 0, 0),
  (20, .istore_n 2, 0, 0), (21, .iload_n 2, 0, 0), (22, .aload_n 0, 0, 0), (23, .getfield 92, 11, 12), (26, .if_icmp .ge 68, 94, 0), (29, .aload_n 0, 0, 0), (30, .getfield 34, 11, 11), (33, .iload_n 2, 0, 0), (34, .iaload, 0, 0), (35, .iload_n 1, 0, 0), (36, .ishr, 0, 0), (37, .iconst 1, 0, 0),
  (38, .iand, 0, 0), (39, .ifCond .ne 6, 45, 0), (42, .goto 46, 88, 0), (45, .aload_n 0, 0, 0), (46, .getfield 402, 11, 32), (49, .ifCond .le 9, 58, 0), (52, .aload_n 0, 0, 0), (53, .bipush 32, 0, 0), (55, .invokevirtual 405, 335, 0), (58, .aload_n 0, 0, 0), (59, .aload_n 0, 0, 0), (60, .getfield 25, 11, 8),
  (63, .iload_n 2, 0, 0), (64, .iaload, 0, 0), (65, .invokevirtual 408, 336, 0), (68, .aload_n 0, 0, 0), (69, .aload_n 0, 0, 0), (70, .getfield 28, 11, 9), (73, .iload_n 2, 0, 0), (74, .iaload, 0, 0), (75, .invokevirtual 408, 336, 0), (78, .aload_n 0, 0, 0), (79, .aload_n 0, 0, 0), (80, .getfield 31, 11, 10),
  (83, .iload_n 2, 0, 0), (84, .iaload, 0, 0), (85, .invokevirtual 408, 336, 0), (88, .iinc 2 1, 0, 0), (91, .goto (-70), 21, 0), (94, .aload_n 0, 0, 0), (95, .getfield 402, 11, 32), (98, .ireturn, 0, 0)], 3, 2, false, (some .int), [], 11)
def am_n337 : amN := (yX12_printAt, cX12_printAt, [])
def am_h337 : List (List Nat) := [[], [], [1816, 1818, 76, 134, 1819], [], [], [], [], [1739, 1741, 64, 134, 1742], [], [], [1564], [], [], [], [], [1544], [], [], [1543], [], [], [], [], [], [], [], [], [], [1564], [], [], [], [2196, 2198, 119, 134, 2199], [], [], [1540], [], [], [2200, 2202, 120, 134, 2203], [], [], [1541], [], [], [2200, 2202, 120, 134, 2203], [], [], [1542], [], [], [2200, 2202, 120, 134, 2203], [], [], [], [1564], []]
def am_g337 : List (Nat × Nat) := []
def am_m338 : amM := ([(0, .aload_n 0, 0, 0), (1, .iconst 0, 0, 0), (2, .putfield 67, 11, 7), (5, .iload_n 1, 0, 0), (6, .iconst 0, 0, 0), (7, .aload_n 0, 0, 0), (8, .getfield 402, 11, 32), (11, .iconst 1, 0, 0), (12, .isub, 0, 0), (13, .invokestatic 197, 196, 0), (16, .ifCond .eq 12, 28, 0), (19, .aload_n 0, 0, 0),
  (20, .getfield 60, 11, 31), (23, .iload_n 1, 0, 0), (24, .iaload, 0, 0), (25, .goto 4, 29, 0), (28, .iconst (-1), 0, 0), (29, .ireturn, 0, 0)], 2, 2, false, (some .int), [], 11)
def am_n338 : amN := (yX12_outputByte, cX12_outputByte, [])
def am_h338 : List (List Nat) := [[], [], [1539], [], [], [], [1564], [], [], [1644, 1645, 134, 1646], [], [], [1563], [], [], [], [], []]
def am_g338 : List (Nat × Nat) := []
def am_m339 : amM := ([(0, .aload_n 0, 0, 0), (1, .iconst 0, 0, 0), (2, .putfield 67, 11, 7), (5, .aload_n 0, 0, 0), (6, .getfield 70, 11, 5), (9, .ifCond .ne 5, 14, 0), (12, .iconst (-1), 0, 0), (13, .ireturn, 0, 0), (14, .aload_n 0, 0, 0), (15, .dup, 0, 0), (16, .getfield 70, 11, 5), (19, .iconst 1, 0, 0),
  (20, .isub, 0, 0), (21, .putfield 70, 11, 5), (24, .aload_n 0, 0, 0), (25, .getfield 22, 11, 4), (28, .sipush 229, 0, 0), (31, .aload_n 0, 0, 0), (32, .getfield 70, 11, 5), (35, .imul, 0, 0), (36, .aload_n 0, 0, 0), (37, .getfield 7, 11, 0), (40, .iconst 0, 0, 0), (41, .sipush 229, 0, 0),
  (44, .invokestatic 73, 198, 0), (47, .aload_n 0, 0, 0), (48, .getfield 70, 11, 5), (51, .ireturn, 0, 0)], 1, 1, false, (some .int), [], 11)
def am_n339 : amN := (yX12_undo, cX12_undo, [])
def am_h339 : List (List Nat) := [[], [], [1539], [], [1537], [], [], [], [], [], [1537], [], [], [1537], [], [1536], [], [], [1537], [], [], [1532], [], [], [1651, 1652, 134, 1653], [], [1537], []]
def am_g339 : List (Nat × Nat) := []
def am_m340 : amM := ([(0, .aload_n 0, 0, 0), (1, .iconst 0, 0, 0), (2, .putfield 67, 11, 7), (5, .aload_n 0, 0, 0), (6, .getfield 7, 11, 0), (9, .iconst 0, 0, 0), (10, .aload_n 0, 0, 0), (11, .getfield 19, 11, 3), (14, .iconst 0, 0, 0), (15, .sipush 229, 0, 0), (18, .invokestatic 73, 198, 0), (21, .aload_n 0, 0, 0),
  (22, .iconst 1, 0, 0), (23, .putfield 271, 11, 6), (26, .aload_n 0, 0, 0), (27, .invokevirtual 105, 213, 0), (30, .ireturn, 0, 0)], 1, 1, false, (some .int), [], 11)
def am_n340 : amN := (yX12_saveState, cX12_saveState, [])
def am_h340 : List (List Nat) := [[], [], [1539], [], [1532], [], [], [1535], [], [], [1651, 1652, 134, 1653], [], [], [1538], [], [1735, 1737, 63, 134, 1738], []]
def am_g340 : List (Nat × Nat) := []
def am_m341 : amM := ([(0, .aload_n 0, 0, 0), (1, .iconst 0, 0, 0), (2, .putfield 67, 11, 7), (5, .aload_n 0, 0, 0), (6, .aload_n 0, 0, 0), (7, .getfield 271, 11, 6), (10, .ifCond .ne 7, 17, 0), (13, .iconst 1, 0, 0), (14, .goto 4, 18, 0), (17, .iconst 0, 0, 0), (18, .iconst 1, 0, 0), (19, .invokevirtual 275, 197, 0),
  (22, .ifCond .eq 5, 27, 0), (25, .iconst 0, 0, 0), (26, .ireturn, 0, 0), (27, .aload_n 0, 0, 0), (28, .getfield 19, 11, 3), (31, .iconst 0, 0, 0), (32, .aload_n 0, 0, 0), (33, .getfield 7, 11, 0), (36, .iconst 0, 0, 0), (37, .sipush 229, 0, 0), (40, .invokestatic 73, 198, 0), (43, .aload_n 0, 0, 0),
  (44, .iconst 0, 0, 0), (45, .putfield 70, 11, 5), (48, .aload_n 0, 0, 0), (49, .invokevirtual 105, 213, 0), (52, .ireturn, 0, 0)], 1, 1, false, (some .int), [], 11)
def am_n341 : amN := (yX12_restoreState, cX12_restoreState, [])
def am_h341 : List (List Nat) := [[], [], [1539], [], [], [1538], [], [], [], [], [], [1755, 1757, 65, 134, 1758], [], [], [], [], [1535], [], [], [1532], [], [], [1651, 1652, 134, 1653], [], [], [1537], [], [1735, 1737, 63, 134, 1738], []]
def am_g341 : List (Nat × Nat) := []
def am_m342 : amM := ([(0, .iload_n 0, 0, 0), (1, .iconst (-1), 0, 0), (2, .ixor, 0, 0), (3, .iload_n 0, 0, 0), (4, .iconst 1, 0, 0), (5, .isub, 0, 0), (6, .iand, 0, 0), (7, .istore_n 0, 0, 0), (8, .iload_n 0, 0, 0), (9, .ifCond .gt 8, 17, 0), (12, .iload_n 0, 0, 0), (13, .bipush 32, 0, 0),
  (15, .iand, 0, 0), (16, .ireturn, 0, 0), (17, .iconst 1, 0, 0), (18, .istore_n 1, 0, 0), (19, .iload_n 0, 0, 0), (20, .ldc_w 264, 65536, 0), (23, .if_icmp .le 11, 34, 0), (26, .iinc 1 16, 0, 0), (29, .iload_n 0, 0, 0), (30, .bipush 16, 0, 0), (32, .iushr, 0, 0), (33, .istore_n 0, 0, 0),
  (34, .iload_n 0, 0, 0), (35, .sipush 256, 0, 0), (38, .if_icmp .le 11, 49, 0), (41, .iinc 1 8, 0, 0), (44, .iload_n 0, 0, 0), (45, .bipush 8, 0, 0), (47, .iushr, 0, 0), (48, .istore_n 0, 0, 0), (49, .iload_n 0, 0, 0), (50, .bipush 16, 0, 0), (52, .if_icmp .le 10, 62, 0), (55, .iinc 1 4, 0, 0),
  (58, .iload_n 0, 0, 0), (59, .iconst 4, 0, 0), (60, .iushr, 0, 0), (61, .istore_n 0, 0, 0), (62, .iload_n 0, 0, 0), (63, .iconst 4, 0, 0), (64, .if_icmp .le 10, 74, 0), (67, .iinc 1 2, 0, 0), (70, .iload_n 0, 0, 0), (71, .iconst 2, 0, 0), (72, .iushr, 0, 0), (73, .istore_n 0, 0, 0),
  (74, .iload_n 1, 0, 0), (75, .iload_n 0, 0, 0), (76, .iconst 1, 0, 0), (77, .iushr, 0, 0), (78, .iadd, 0, 0), (79, .ireturn, 0, 0)], 2, 1, false, (some .int), [], 99)
def am_n342 : amN := (yJ6_numberOfTrailingZeros_0f7a4, cJ6_numberOfTrailingZeros_0f7a4, [])
def am_h342 : List (List Nat) := [[], [], [], [], [], [], [], [], [], [], [], [], [], [], [], [], [], [1783], [], [], [], [], [], [], [], [], [], [], [], [], [], [], [], [], [], [], [], [], [], [], [], [], [], [], [], [], [], [], [], [], [], [], [], []]
def am_g342 : List (Nat × Nat) := []
def am_m343 : amM := ([(0, .iload_n 0, 0, 0), (1, .iload_n 0, 0, 0), (2, .iconst 1, 0, 0), (3, .iushr, 0, 0), (4, .ldc_w 265, 1431655765, 0), (7, .iand, 0, 0), (8, .isub, 0, 0), (9, .istore_n 0, 0, 0), (10, .iload_n 0, 0, 0), (11, .ldc_w 266, 858993459, 0), (14, .iand, 0, 0), (15, .iload_n 0, 0, 0),
  (16, .iconst 2, 0, 0), (17, .iushr, 0, 0), (18, .ldc_w 266, 858993459, 0), (21, .iand, 0, 0), (22, .iadd, 0, 0), (23, .istore_n 0, 0, 0), (24, .iload_n 0, 0, 0), (25, .iload_n 0, 0, 0), (26, .iconst 4, 0, 0), (27, .iushr, 0, 0), (28, .iadd, 0, 0), (29, .ldc_w 267, 252645135, 0),
  (32, .iand, 0, 0), (33, .istore_n 0, 0, 0), (34, .iload_n 0, 0, 0), (35, .iload_n 0, 0, 0), (36, .bipush 8, 0, 0), (38, .iushr, 0, 0), (39, .iadd, 0, 0), (40, .istore_n 0, 0, 0), (41, .iload_n 0, 0, 0), (42, .iload_n 0, 0, 0), (43, .bipush 16, 0, 0), (45, .iushr, 0, 0),
  (46, .iadd, 0, 0), (47, .istore_n 0, 0, 0), (48, .iload_n 0, 0, 0), (49, .bipush 63, 0, 0), (51, .iand, 0, 0), (52, .ireturn, 0, 0)], 1, 1, false, (some .int), [], 99)
def am_n343 : amN := (yJ6_bitCount_0f7a4, cJ6_bitCount_0f7a4, [])
def am_h343 : List (List Nat) := [[], [], [], [], [570], [], [], [], [], [571], [], [], [], [], [571], [], [], [], [], [], [], [], [], [572], [], [], [], [], [], [], [], [], [], [], [], [], [], [], [], [], [], []]
def am_g343 : List (Nat × Nat) := []
def am_m344 : amM := ([(0, .lload_n 0, 0, 0), (1, .lload_n 0, 0, 0), (2, .iconst 1, 0, 0), (3, .lushr, 0, 0), (4, .ldc2_w 314, 6148914691236517205, 0), (7, .land, 0, 0), (8, .lsub, 0, 0), (9, .lstore_n 0, 0, 0), (10, .lload_n 0, 0, 0), (11, .ldc2_w 316, 3689348814741910323, 0), (14, .land, 0, 0), (15, .lload_n 0, 0, 0),
  (16, .iconst 2, 0, 0), (17, .lushr, 0, 0), (18, .ldc2_w 316, 3689348814741910323, 0), (21, .land, 0, 0), (22, .ladd, 0, 0), (23, .lstore_n 0, 0, 0), (24, .lload_n 0, 0, 0), (25, .lload_n 0, 0, 0), (26, .iconst 4, 0, 0), (27, .lushr, 0, 0), (28, .ladd, 0, 0), (29, .ldc2_w 318, 1085102592571150095, 0),
  (32, .land, 0, 0), (33, .lstore_n 0, 0, 0), (34, .lload_n 0, 0, 0), (35, .lload_n 0, 0, 0), (36, .bipush 8, 0, 0), (38, .lushr, 0, 0), (39, .ladd, 0, 0), (40, .lstore_n 0, 0, 0), (41, .lload_n 0, 0, 0), (42, .lload_n 0, 0, 0), (43, .bipush 16, 0, 0), (45, .lushr, 0, 0),
  (46, .ladd, 0, 0), (47, .lstore_n 0, 0, 0), (48, .lload_n 0, 0, 0), (49, .lload_n 0, 0, 0), (50, .bipush 32, 0, 0), (52, .lushr, 0, 0), (53, .ladd, 0, 0), (54, .lstore_n 0, 0, 0), (55, .lload_n 0, 0, 0), (56, .l2i, 0, 0), (57, .bipush 127, 0, 0), (59, .iand, 0, 0),
  (60, .ireturn, 0, 0)], 2, 1, false, (some .int), [], 99)
def am_n344 : amN := (yJ13_bitCount_95d88, cJ13_bitCount_95d88, [])
def am_h344 : List (List Nat) := [[], [], [], [], [755], [], [], [], [], [756], [], [], [], [], [756], [], [], [], [], [], [], [], [], [757], [], [], [], [], [], [], [], [], [], [], [], [], [], [], [], [], [], [], [], [], [], [], [], [], []]
def am_g344 : List (Nat × Nat) := []
def am_m345 : amM := ([(0, .iload_n 0, 0, 0), (1, .iload_n 1, 0, 0), (2, .irem, 0, 0), (3, .istore_n 2, 0, 0), (4, .iload_n 0, 0, 0), (5, .iload_n 1, 0, 0), (6, .ixor, 0, 0), (7, .ifCond .ge 11, 18, 0), (10, .iload_n 2, 0, 0), (11, .ifCond .eq 7, 18, 0), (14, .iload_n 2, 0, 0), (15, .iload_n 1, 0, 0),
  (16, .iadd, 0, 0), (17, .ireturn, 0, 0), (18, .iload_n 2, 0, 0), (19, .ireturn, 0, 0)], 3, 2, false, (some .int), [], 99)
def am_n345 : amN := (yJ9_floorMod_7cf53, cJ9_floorMod_7cf53, [])
def am_h345 : List (List Nat) := [[], [], [], [], [], [], [], [], [], [], [], [], [], [], [], []]
def am_g345 : List (Nat × Nat) := []
def am_m346 : amM := ([(0, .iload_n 0, 0, 0), (1, .iload_n 1, 0, 0), (2, .if_icmp .lt 7, 9, 0), (5, .iload_n 0, 0, 0), (6, .goto 4, 10, 0), (9, .iload_n 1, 0, 0), (10, .ireturn, 0, 0)], 2, 2, false, (some .int), [], 99)
def am_n346 : amN := (yJ9_max_7cf53, cJ9_max_7cf53, [])
def am_h346 : List (List Nat) := [[], [], [], [], [], [], []]
def am_g346 : List (Nat × Nat) := []
def am_m347 : amM := ([(0, .iload_n 0, 0, 0), (1, .iload_n 1, 0, 0), (2, .if_icmp .gt 7, 9, 0), (5, .iload_n 0, 0, 0), (6, .goto 4, 10, 0), (9, .iload_n 1, 0, 0), (10, .ireturn, 0, 0)], 2, 2, false, (some .int), [], 99)
def am_n347 : amN := (yJ9_min_7cf53, cJ9_min_7cf53, [])
def am_h347 : List (List Nat) := [[], [], [], [], [], [], []]
def am_g347 : List (Nat × Nat) := []
def am_m348 : amM := ([(0, .aload_n 2, 0, 0), (1, .iconst 0, 0, 0), (2, .aload_n 0, 0, 0), (3, .iload_n 1, 0, 0), (4, .invokevirtual 7, 118, 0), (7, .i2l, 0, 0), (8, .lastore, 0, 0), (9, .goto 6, 15, 0), (12, .astore_n 3, 0, 0), (13, .iconst 1, 0, 0), (14, .ireturn, 0, 0), (15, .iconst 0, 0, 0),
  (16, .ireturn, 0, 0)], 4, 3, false, (some .int), [(0, 9, 12, 0, 3, 13)], 99)
def am_n348 : amN := (yL_count, cL_count, [(0, 9, 12, 13)])
def am_h348 : List (List Nat) := [[], [], [], [], [974, 975, 976, 122, 977], [], [], [], [], [], [], [], []]
def am_g348 : List (Nat × Nat) := [(973, 980)]
def am_m349 : amM := ([(0, .aload_n 3, 0, 0), (1, .iconst 0, 0, 0), (2, .aload_n 0, 0, 0), (3, .iload_n 1, 0, 0), (4, .iload_n 2, 0, 0), (5, .invokevirtual 15, 120, 0), (8, .i2l, 0, 0), (9, .lastore, 0, 0), (10, .goto 11, 21, 0), (13, .astore 4, 0, 0), (15, .iconst 1, 0, 0), (16, .ireturn, 0, 0),
  (17, .astore 4, 0, 0), (19, .iconst 2, 0, 0), (20, .ireturn, 0, 0), (21, .iconst 0, 0, 0), (22, .ireturn, 0, 0)], 5, 4, false, (some .int), [(0, 10, 13, 1, 4, 15), (0, 10, 17, 0, 4, 19)], 99)
def am_n349 : amN := (yL_triple, cL_triple, [(0, 10, 13, 19), (0, 10, 17, 13)])
def am_h349 : List (List Nat) := [[], [], [], [], [], [1050, 1051, 1052, 122, 1053], [], [], [], [], [], [], [], [], [], [], []]
def am_g349 : List (Nat × Nat) := [(1049, 1060), (973, 980)]
def am_m350 : amM := ([(0, .aload 4, 0, 0), (2, .iconst 0, 0, 0), (3, .aload_n 0, 0, 0), (4, .iload_n 1, 0, 0), (5, .iload_n 2, 0, 0), (6, .iload_n 3, 0, 0), (7, .invokevirtual 21, 121, 0), (10, .i2l, 0, 0), (11, .lastore, 0, 0), (12, .goto 11, 23, 0), (15, .astore 5, 0, 0), (17, .iconst 1, 0, 0),
  (18, .ireturn, 0, 0), (19, .astore 5, 0, 0), (21, .iconst 2, 0, 0), (22, .ireturn, 0, 0), (23, .iconst 0, 0, 0), (24, .ireturn, 0, 0)], 6, 5, false, (some .int), [(0, 12, 15, 1, 5, 17), (0, 12, 19, 0, 5, 21)], 99)
def am_n350 : amN := (yL_find, cL_find, [(0, 12, 15, 19), (0, 12, 19, 13)])
def am_h350 : List (List Nat) := [[], [], [], [], [], [], [1079, 1080, 1081, 122, 1082], [], [], [], [], [], [], [], [], [], [], []]
def am_g350 : List (Nat × Nat) := [(1049, 1060), (973, 980)]
def am_m351 : amM := ([(0, .aload_n 3, 0, 0), (1, .iconst 0, 0, 0), (2, .aload_n 0, 0, 0), (3, .iload_n 1, 0, 0), (4, .iload_n 2, 0, 0), (5, .invokevirtual 25, 122, 0), (8, .i2l, 0, 0), (9, .lastore, 0, 0), (10, .goto 11, 21, 0), (13, .astore 4, 0, 0), (15, .iconst 1, 0, 0), (16, .ireturn, 0, 0),
  (17, .astore 4, 0, 0), (19, .iconst 2, 0, 0), (20, .ireturn, 0, 0), (21, .iconst 0, 0, 0), (22, .ireturn, 0, 0)], 5, 4, false, (some .int), [(0, 10, 13, 1, 4, 15), (0, 10, 17, 0, 4, 19)], 99)
def am_n351 : amN := (yL_third, cL_third, [(0, 10, 13, 19), (0, 10, 17, 13)])
def am_h351 : List (List Nat) := [[], [], [], [], [], [1098, 1099, 1100, 122, 1101], [], [], [], [], [], [], [], [], [], [], []]
def am_g351 : List (Nat × Nat) := [(1049, 1060), (973, 980)]
def am_m352 : amM := ([(0, .aload_n 2, 0, 0), (1, .iconst 0, 0, 0), (2, .aload_n 0, 0, 0), (3, .iload_n 1, 0, 0), (4, .invokevirtual 28, 123, 0), (7, .i2l, 0, 0), (8, .lastore, 0, 0), (9, .goto 6, 15, 0), (12, .astore_n 3, 0, 0), (13, .iconst 1, 0, 0), (14, .ireturn, 0, 0), (15, .iconst 0, 0, 0),
  (16, .ireturn, 0, 0)], 4, 3, false, (some .int), [(0, 9, 12, 1, 3, 13)], 99)
def am_n352 : amN := (yL_degree, cL_degree, [(0, 9, 12, 19)])
def am_h352 : List (List Nat) := [[], [], [], [], [1109, 1110, 1111, 122, 1112], [], [], [], [], [], [], [], []]
def am_g352 : List (Nat × Nat) := [(1049, 1060)]
def am_m353 : amM := ([(0, .aload_n 2, 0, 0), (1, .iconst 0, 0, 0), (2, .aload_n 0, 0, 0), (3, .iload_n 1, 0, 0), (4, .invokevirtual 31, 124, 0), (7, .i2l, 0, 0), (8, .lastore, 0, 0), (9, .goto 6, 15, 0), (12, .astore_n 3, 0, 0), (13, .iconst 1, 0, 0), (14, .ireturn, 0, 0), (15, .iconst 0, 0, 0),
  (16, .ireturn, 0, 0)], 4, 3, false, (some .int), [(0, 9, 12, 1, 3, 13)], 99)
def am_n353 : amN := (yL_uncovered, cL_uncovered, [(0, 9, 12, 19)])
def am_h353 : List (List Nat) := [[], [], [], [], [1120, 1121, 1122, 122, 1123], [], [], [], [], [], [], [], []]
def am_g353 : List (Nat × Nat) := [(1049, 1060)]
def am_m354 : amM := ([(0, .aload 4, 0, 0), (2, .iconst 0, 0, 0), (3, .aload_n 0, 0, 0), (4, .iload_n 1, 0, 0), (5, .iload_n 2, 0, 0), (6, .iload_n 3, 0, 0), (7, .invokevirtual 34, 125, 0), (10, .i2l, 0, 0), (11, .lastore, 0, 0), (12, .goto 11, 23, 0), (15, .astore 5, 0, 0), (17, .iconst 1, 0, 0),
  (18, .ireturn, 0, 0), (19, .astore 5, 0, 0), (21, .iconst 2, 0, 0), (22, .ireturn, 0, 0), (23, .iconst 0, 0, 0), (24, .ireturn, 0, 0)], 6, 5, false, (some .int), [(0, 12, 15, 1, 5, 17), (0, 12, 19, 0, 5, 21)], 99)
def am_n354 : amN := (yL_reason, cL_reason, [(0, 12, 15, 19), (0, 12, 19, 13)])
def am_h354 : List (List Nat) := [[], [], [], [], [], [], [1132, 1133, 1134, 122, 1135], [], [], [], [], [], [], [], [], [], [], []]
def am_g354 : List (Nat × Nat) := [(1049, 1060), (973, 980)]
def am_m355 : amM := ([(0, .aload 4, 0, 0), (2, .iconst 0, 0, 0), (3, .aload_n 0, 0, 0), (4, .iload_n 1, 0, 0), (5, .iload_n 2, 0, 0), (6, .iload_n 3, 0, 0), (7, .invokevirtual 37, 126, 0), (10, .i2l, 0, 0), (11, .lastore, 0, 0), (12, .goto 15, 27, 0), (15, .astore 5, 0, 0), (17, .iconst 1, 0, 0),
  (18, .ireturn, 0, 0), (19, .astore 5, 0, 0), (21, .iconst 2, 0, 0), (22, .ireturn, 0, 0), (23, .astore 5, 0, 0), (25, .iconst 3, 0, 0), (26, .ireturn, 0, 0), (27, .iconst 0, 0, 0), (28, .ireturn, 0, 0)], 6, 5, false, (some .int), [(0, 12, 15, 1, 5, 17), (0, 12, 19, 0, 5, 21), (0, 12, 23, 2, 5, 25)], 99)
def am_n355 : amN := (yL_add, cL_add, [(0, 12, 15, 19), (0, 12, 19, 13), (0, 12, 23, 40)])
def am_h355 : List (List Nat) := [[], [], [], [], [], [], [1140, 1141, 1142, 122, 1143], [], [], [], [], [], [], [], [], [], [], [], [], [], []]
def am_g355 : List (Nat × Nat) := [(1049, 1060), (973, 980), (1139, 1147)]
def am_m356 : amM := ([(0, .aload_n 2, 0, 0), (1, .iconst 0, 0, 0), (2, .aload_n 0, 0, 0), (3, .iload_n 1, 0, 0), (4, .invokevirtual 42, 127, 0), (7, .i2l, 0, 0), (8, .lastore, 0, 0), (9, .goto 6, 15, 0), (12, .astore_n 3, 0, 0), (13, .iconst 1, 0, 0), (14, .ireturn, 0, 0), (15, .iconst 0, 0, 0),
  (16, .ireturn, 0, 0)], 4, 3, false, (some .int), [(0, 9, 12, 1, 3, 13)], 99)
def am_n356 : amN := (yL_remove, cL_remove, [(0, 9, 12, 19)])
def am_h356 : List (List Nat) := [[], [], [], [], [1164, 1165, 1166, 122, 1167], [], [], [], [], [], [], [], []]
def am_g356 : List (Nat × Nat) := [(1049, 1060)]
def am_m357 : amM := ([(0, .aload 4, 0, 0), (2, .iconst 0, 0, 0), (3, .aload_n 0, 0, 0), (4, .iload_n 1, 0, 0), (5, .iload_n 2, 0, 0), (6, .iload_n 3, 0, 0), (7, .invokevirtual 45, 128, 0), (10, .i2l, 0, 0), (11, .lastore, 0, 0), (12, .goto 15, 27, 0), (15, .astore 5, 0, 0), (17, .iconst 1, 0, 0),
  (18, .ireturn, 0, 0), (19, .astore 5, 0, 0), (21, .iconst 2, 0, 0), (22, .ireturn, 0, 0), (23, .astore 5, 0, 0), (25, .iconst 3, 0, 0), (26, .ireturn, 0, 0), (27, .iconst 0, 0, 0), (28, .ireturn, 0, 0)], 6, 5, false, (some .int), [(0, 12, 15, 1, 5, 17), (0, 12, 19, 0, 5, 21), (0, 12, 23, 2, 5, 25)], 99)
def am_n357 : amN := (yL_develop, cL_develop, [(0, 12, 15, 19), (0, 12, 19, 13), (0, 12, 23, 40)])
def am_h357 : List (List Nat) := [[], [], [], [], [], [], [1171, 1172, 1173, 122, 1174], [], [], [], [], [], [], [], [], [], [], [], [], [], []]
def am_g357 : List (Nat × Nat) := [(1049, 1060), (973, 980), (1139, 1147)]
def am_m358 : amM := ([(0, .aload_n 3, 0, 0), (1, .iconst 0, 0, 0), (2, .aload_n 0, 0, 0), (3, .iload_n 1, 0, 0), (4, .iload_n 2, 0, 0), (5, .invokevirtual 48, 132, 0), (8, .i2l, 0, 0), (9, .lastore, 0, 0), (10, .goto 11, 21, 0), (13, .astore 4, 0, 0), (15, .iconst 1, 0, 0), (16, .ireturn, 0, 0),
  (17, .astore 4, 0, 0), (19, .iconst 2, 0, 0), (20, .ireturn, 0, 0), (21, .iconst 0, 0, 0), (22, .ireturn, 0, 0)], 5, 4, false, (some .int), [(0, 10, 13, 1, 4, 15), (0, 10, 17, 0, 4, 19)], 99)
def am_n358 : amN := (yL_quad, cL_quad, [(0, 10, 13, 19), (0, 10, 17, 13)])
def am_h358 : List (List Nat) := [[], [], [], [], [], [1180, 1181, 1182, 122, 1183], [], [], [], [], [], [], [], [], [], [], []]
def am_g358 : List (Nat × Nat) := [(1049, 1060), (973, 980)]
def am_m359 : amM := ([(0, .aload_n 3, 0, 0), (1, .iconst 0, 0, 0), (2, .aload_n 0, 0, 0), (3, .iload_n 1, 0, 0), (4, .iload_n 2, 0, 0), (5, .invokevirtual 51, 133, 0), (8, .i2l, 0, 0), (9, .lastore, 0, 0), (10, .goto 7, 17, 0), (13, .astore 4, 0, 0), (15, .iconst 1, 0, 0), (16, .ireturn, 0, 0),
  (17, .iconst 0, 0, 0), (18, .ireturn, 0, 0)], 5, 4, false, (some .int), [(0, 10, 13, 1, 4, 15)], 99)
def am_n359 : amN := (yL_opposite, cL_opposite, [(0, 10, 13, 19)])
def am_h359 : List (List Nat) := [[], [], [], [], [], [1194, 1195, 1196, 122, 1197], [], [], [], [], [], [], [], []]
def am_g359 : List (Nat × Nat) := [(1049, 1060)]
def am_m360 : amM := ([(0, .aload_n 2, 0, 0), (1, .iconst 0, 0, 0), (2, .aload_n 0, 0, 0), (3, .iload_n 1, 0, 0), (4, .invokevirtual 54, 134, 0), (7, .i2l, 0, 0), (8, .lastore, 0, 0), (9, .goto 6, 15, 0), (12, .astore_n 3, 0, 0), (13, .iconst 1, 0, 0), (14, .ireturn, 0, 0), (15, .iconst 0, 0, 0),
  (16, .ireturn, 0, 0)], 4, 3, false, (some .int), [(0, 9, 12, 1, 3, 13)], 99)
def am_n360 : amN := (yL_quadsAt, cL_quadsAt, [(0, 9, 12, 19)])
def am_h360 : List (List Nat) := [[], [], [], [], [1206, 1207, 1208, 122, 1209], [], [], [], [], [], [], [], []]
def am_g360 : List (Nat × Nat) := [(1049, 1060)]
def am_m361 : amM := ([(0, .aload_n 2, 0, 0), (1, .iconst 0, 0, 0), (2, .aload_n 0, 0, 0), (3, .iload_n 1, 0, 0), (4, .invokevirtual 57, 135, 0), (7, .i2l, 0, 0), (8, .lastore, 0, 0), (9, .goto 6, 15, 0), (12, .astore_n 3, 0, 0), (13, .iconst 1, 0, 0), (14, .ireturn, 0, 0), (15, .iconst 0, 0, 0),
  (16, .ireturn, 0, 0)], 4, 3, false, (some .int), [(0, 9, 12, 1, 3, 13)], 99)
def am_n361 : amN := (yL_quadsOf, cL_quadsOf, [(0, 9, 12, 19)])
def am_h361 : List (List Nat) := [[], [], [], [], [1217, 1218, 1219, 122, 1220], [], [], [], [], [], [], [], []]
def am_g361 : List (Nat × Nat) := [(1049, 1060)]
def am_m362 : amM := ([(0, .aload_n 2, 0, 0), (1, .iconst 0, 0, 0), (2, .aload_n 0, 0, 0), (3, .iload_n 1, 0, 0), (4, .invokevirtual 60, 136, 0), (7, .i2l, 0, 0), (8, .lastore, 0, 0), (9, .goto 6, 15, 0), (12, .astore_n 3, 0, 0), (13, .iconst 1, 0, 0), (14, .ireturn, 0, 0), (15, .iconst 0, 0, 0),
  (16, .ireturn, 0, 0)], 4, 3, false, (some .int), [(0, 9, 12, 1, 3, 13)], 99)
def am_n362 : amN := (yL_switchQuad, cL_switchQuad, [(0, 9, 12, 19)])
def am_h362 : List (List Nat) := [[], [], [], [], [1224, 1225, 1226, 122, 1227], [], [], [], [], [], [], [], []]
def am_g362 : List (Nat × Nat) := [(1049, 1060)]
def am_m363 : amM := ([(0, .aload_n 2, 0, 0), (1, .iconst 0, 0, 0), (2, .aload_n 0, 0, 0), (3, .iload_n 1, 0, 0), (4, .invokevirtual 63, 137, 0), (7, .i2l, 0, 0), (8, .lastore, 0, 0), (9, .goto 6, 15, 0), (12, .astore_n 3, 0, 0), (13, .iconst 1, 0, 0), (14, .ireturn, 0, 0), (15, .iconst 0, 0, 0),
  (16, .ireturn, 0, 0)], 4, 3, false, (some .int), [(0, 9, 12, 1, 3, 13)], 99)
def am_n363 : amN := (yL_wouldHave, cL_wouldHave, [(0, 9, 12, 19)])
def am_h363 : List (List Nat) := [[], [], [], [], [1235, 1236, 1237, 122, 1238], [], [], [], [], [], [], [], []]
def am_g363 : List (Nat × Nat) := [(1049, 1060)]
def am_m364 : amM := ([(0, .aload_n 2, 0, 0), (1, .iconst 0, 0, 0), (2, .aload_n 0, 0, 0), (3, .iload_n 1, 0, 0), (4, .invokevirtual 66, 139, 0), (7, .i2l, 0, 0), (8, .lastore, 0, 0), (9, .goto 6, 15, 0), (12, .astore_n 3, 0, 0), (13, .iconst 1, 0, 0), (14, .ireturn, 0, 0), (15, .iconst 0, 0, 0),
  (16, .ireturn, 0, 0)], 4, 3, false, (some .int), [(0, 9, 12, 0, 3, 13)], 99)
def am_n364 : amN := (yL_descend, cL_descend, [(0, 9, 12, 13)])
def am_h364 : List (List Nat) := [[], [], [], [], [1246, 1247, 1248, 122, 1249], [], [], [], [], [], [], [], []]
def am_g364 : List (Nat × Nat) := [(973, 980)]
def am_m365 : amM := ([(0, .aload_n 3, 0, 0), (1, .iconst 0, 0, 0), (2, .aload_n 0, 0, 0), (3, .iload_n 1, 0, 0), (4, .iload_n 2, 0, 0), (5, .invokevirtual 69, 140, 0), (8, .i2l, 0, 0), (9, .lastore, 0, 0), (10, .goto 11, 21, 0), (13, .astore 4, 0, 0), (15, .iconst 1, 0, 0), (16, .ireturn, 0, 0),
  (17, .astore 4, 0, 0), (19, .iconst 2, 0, 0), (20, .ireturn, 0, 0), (21, .iconst 0, 0, 0), (22, .ireturn, 0, 0)], 5, 4, false, (some .int), [(0, 10, 13, 1, 4, 15), (0, 10, 17, 0, 4, 19)], 99)
def am_n365 : amN := (yL_cycles, cL_cycles, [(0, 10, 13, 19), (0, 10, 17, 13)])
def am_h365 : List (List Nat) := [[], [], [], [], [], [1255, 1256, 1257, 122, 1258], [], [], [], [], [], [], [], [], [], [], []]
def am_g365 : List (Nat × Nat) := [(1049, 1060), (973, 980)]
def am_m366 : amM := ([(0, .aload 4, 0, 0), (2, .iconst 0, 0, 0), (3, .aload_n 0, 0, 0), (4, .iload_n 1, 0, 0), (5, .iload_n 2, 0, 0), (6, .iload_n 3, 0, 0), (7, .invokevirtual 72, 141, 0), (10, .i2l, 0, 0), (11, .lastore, 0, 0), (12, .goto 15, 27, 0), (15, .astore 5, 0, 0), (17, .iconst 1, 0, 0),
  (18, .ireturn, 0, 0), (19, .astore 5, 0, 0), (21, .iconst 2, 0, 0), (22, .ireturn, 0, 0), (23, .astore 5, 0, 0), (25, .iconst 3, 0, 0), (26, .ireturn, 0, 0), (27, .iconst 0, 0, 0), (28, .ireturn, 0, 0)], 6, 5, false, (some .int), [(0, 12, 15, 1, 5, 17), (0, 12, 19, 0, 5, 21), (0, 12, 23, 3, 5, 25)], 99)
def am_n366 : amN := (yL_cycleLength, cL_cycleLength, [(0, 12, 15, 19), (0, 12, 19, 13), (0, 12, 23, 75)])
def am_h366 : List (List Nat) := [[], [], [], [], [], [], [1263, 1264, 1265, 122, 1266], [], [], [], [], [], [], [], [], [], [], [], [], [], []]
def am_g366 : List (Nat × Nat) := [(1049, 1060), (973, 980), (1262, 1273)]
def am_m367 : amM := ([(0, .aload 5, 0, 0), (2, .iconst 0, 0, 0), (3, .aload_n 0, 0, 0), (4, .iload_n 1, 0, 0), (5, .iload_n 2, 0, 0), (6, .iload_n 3, 0, 0), (7, .iload 4, 0, 0), (9, .invokevirtual 77, 142, 0), (12, .i2l, 0, 0), (13, .lastore, 0, 0), (14, .goto 15, 29, 0), (17, .astore 6, 0, 0),
  (19, .iconst 1, 0, 0), (20, .ireturn, 0, 0), (21, .astore 6, 0, 0), (23, .iconst 2, 0, 0), (24, .ireturn, 0, 0), (25, .astore 6, 0, 0), (27, .iconst 3, 0, 0), (28, .ireturn, 0, 0), (29, .iconst 0, 0, 0), (30, .ireturn, 0, 0)], 7, 6, false, (some .int), [(0, 14, 17, 1, 6, 19), (0, 14, 21, 0, 6, 23), (0, 14, 25, 3, 6, 27)], 99)
def am_n367 : amN := (yL_cyclePoint, cL_cyclePoint, [(0, 14, 17, 19), (0, 14, 21, 13), (0, 14, 25, 75)])
def am_h367 : List (List Nat) := [[], [], [], [], [], [], [], [1290, 1291, 1292, 122, 1293], [], [], [], [], [], [], [], [], [], [], [], [], [], []]
def am_g367 : List (Nat × Nat) := [(1049, 1060), (973, 980), (1262, 1273)]
def am_m368 : amM := ([(0, .aload 4, 0, 0), (2, .iconst 0, 0, 0), (3, .aload_n 0, 0, 0), (4, .iload_n 1, 0, 0), (5, .iload_n 2, 0, 0), (6, .iload_n 3, 0, 0), (7, .invokevirtual 81, 143, 0), (10, .i2l, 0, 0), (11, .lastore, 0, 0), (12, .goto 15, 27, 0), (15, .astore 5, 0, 0), (17, .iconst 1, 0, 0),
  (18, .ireturn, 0, 0), (19, .astore 5, 0, 0), (21, .iconst 2, 0, 0), (22, .ireturn, 0, 0), (23, .astore 5, 0, 0), (25, .iconst 3, 0, 0), (26, .ireturn, 0, 0), (27, .iconst 0, 0, 0), (28, .ireturn, 0, 0)], 6, 5, false, (some .int), [(0, 12, 15, 1, 5, 17), (0, 12, 19, 0, 5, 21), (0, 12, 23, 3, 5, 25)], 99)
def am_n368 : amN := (yL_switchCycle, cL_switchCycle, [(0, 12, 15, 19), (0, 12, 19, 13), (0, 12, 23, 75)])
def am_h368 : List (List Nat) := [[], [], [], [], [], [], [1298, 1299, 1300, 122, 1301], [], [], [], [], [], [], [], [], [], [], [], [], [], []]
def am_g368 : List (Nat × Nat) := [(1049, 1060), (973, 980), (1262, 1273)]
def am_m369 : amM := ([(0, .aload 4, 0, 0), (2, .iconst 0, 0, 0), (3, .aload_n 0, 0, 0), (4, .iload_n 1, 0, 0), (5, .iload_n 2, 0, 0), (6, .iload_n 3, 0, 0), (7, .invokevirtual 84, 144, 0), (10, .i2l, 0, 0), (11, .lastore, 0, 0), (12, .goto 15, 27, 0), (15, .astore 5, 0, 0), (17, .iconst 1, 0, 0),
  (18, .ireturn, 0, 0), (19, .astore 5, 0, 0), (21, .iconst 2, 0, 0), (22, .ireturn, 0, 0), (23, .astore 5, 0, 0), (25, .iconst 3, 0, 0), (26, .ireturn, 0, 0), (27, .iconst 0, 0, 0), (28, .ireturn, 0, 0)], 6, 5, false, (some .int), [(0, 12, 15, 1, 5, 17), (0, 12, 19, 0, 5, 21), (0, 12, 23, 3, 5, 25)], 99)
def am_n369 : amN := (yL_wouldHaveBy, cL_wouldHaveBy, [(0, 12, 15, 19), (0, 12, 19, 13), (0, 12, 23, 75)])
def am_h369 : List (List Nat) := [[], [], [], [], [], [], [1313, 1314, 1315, 122, 1316], [], [], [], [], [], [], [], [], [], [], [], [], [], []]
def am_g369 : List (Nat × Nat) := [(1049, 1060), (973, 980), (1262, 1273)]
def am_m370 : amM := ([(0, .aload_n 3, 0, 0), (1, .iconst 0, 0, 0), (2, .aload_n 0, 0, 0), (3, .iload_n 1, 0, 0), (4, .iload_n 2, 0, 0), (5, .invokevirtual 87, 147, 0), (8, .lastore, 0, 0), (9, .goto 7, 16, 0), (12, .astore 4, 0, 0), (14, .iconst 1, 0, 0), (15, .ireturn, 0, 0), (16, .iconst 0, 0, 0),
  (17, .ireturn, 0, 0)], 5, 4, false, (some .int), [(0, 9, 12, 3, 4, 14)], 99)
def am_n370 : amN := (yL_trade, cL_trade, [(0, 9, 12, 75)])
def am_h370 : List (List Nat) := [[], [], [], [], [], [1320, 1321, 1322, 122, 1323], [], [], [], [], [], [], []]
def am_g370 : List (Nat × Nat) := [(1262, 1273)]
def am_m371 : amM := ([(0, .aload 4, 0, 0), (2, .iconst 0, 0, 0), (3, .aload_n 0, 0, 0), (4, .iload_n 1, 0, 0), (5, .iload_n 2, 0, 0), (6, .iload_n 3, 0, 0), (7, .invokevirtual 91, 150, 0), (10, .i2l, 0, 0), (11, .lastore, 0, 0), (12, .goto 15, 27, 0), (15, .astore 5, 0, 0), (17, .iconst 1, 0, 0),
  (18, .ireturn, 0, 0), (19, .astore 5, 0, 0), (21, .iconst 2, 0, 0), (22, .ireturn, 0, 0), (23, .astore 5, 0, 0), (25, .iconst 3, 0, 0), (26, .ireturn, 0, 0), (27, .iconst 0, 0, 0), (28, .ireturn, 0, 0)], 6, 5, false, (some .int), [(0, 12, 15, 1, 5, 17), (0, 12, 19, 0, 5, 21), (0, 12, 23, 2, 5, 25)], 99)
def am_n371 : amN := (yL_train, cL_train, [(0, 12, 15, 19), (0, 12, 19, 13), (0, 12, 23, 40)])
def am_h371 : List (List Nat) := [[], [], [], [], [], [], [1328, 1329, 1330, 122, 1331], [], [], [], [], [], [], [], [], [], [], [], [], [], []]
def am_g371 : List (Nat × Nat) := [(1049, 1060), (973, 980), (1139, 1147)]
def am_m372 : amM := ([(0, .aload 4, 0, 0), (2, .iconst 0, 0, 0), (3, .aload_n 0, 0, 0), (4, .iload_n 1, 0, 0), (5, .iload_n 2, 0, 0), (6, .iload_n 3, 0, 0), (7, .invokevirtual 94, 151, 0), (10, .i2l, 0, 0), (11, .lastore, 0, 0), (12, .goto 15, 27, 0), (15, .astore 5, 0, 0), (17, .iconst 1, 0, 0),
  (18, .ireturn, 0, 0), (19, .astore 5, 0, 0), (21, .iconst 2, 0, 0), (22, .ireturn, 0, 0), (23, .astore 5, 0, 0), (25, .iconst 3, 0, 0), (26, .ireturn, 0, 0), (27, .iconst 0, 0, 0), (28, .ireturn, 0, 0)], 6, 5, false, (some .int), [(0, 12, 15, 1, 5, 17), (0, 12, 19, 0, 5, 21), (0, 12, 23, 2, 5, 25)], 99)
def am_n372 : amN := (yL_trainsTo, cL_trainsTo, [(0, 12, 15, 19), (0, 12, 19, 13), (0, 12, 23, 40)])
def am_h372 : List (List Nat) := [[], [], [], [], [], [], [1352, 1353, 1354, 122, 1355], [], [], [], [], [], [], [], [], [], [], [], [], [], []]
def am_g372 : List (Nat × Nat) := [(1049, 1060), (973, 980), (1139, 1147)]
def am_m373 : amM := ([(0, .aload 4, 0, 0), (2, .iconst 0, 0, 0), (3, .aload_n 0, 0, 0), (4, .iload_n 1, 0, 0), (5, .iload_n 2, 0, 0), (6, .iload_n 3, 0, 0), (7, .invokevirtual 97, 152, 0), (10, .i2l, 0, 0), (11, .lastore, 0, 0), (12, .goto 15, 27, 0), (15, .astore 5, 0, 0), (17, .iconst 1, 0, 0),
  (18, .ireturn, 0, 0), (19, .astore 5, 0, 0), (21, .iconst 2, 0, 0), (22, .ireturn, 0, 0), (23, .astore 5, 0, 0), (25, .iconst 3, 0, 0), (26, .ireturn, 0, 0), (27, .iconst 0, 0, 0), (28, .ireturn, 0, 0)], 6, 5, false, (some .int), [(0, 12, 15, 1, 5, 17), (0, 12, 19, 0, 5, 21), (0, 12, 23, 2, 5, 25)], 99)
def am_n373 : amN := (yL_tail, cL_tail, [(0, 12, 15, 19), (0, 12, 19, 13), (0, 12, 23, 40)])
def am_h373 : List (List Nat) := [[], [], [], [], [], [], [1378, 1379, 1380, 122, 1381], [], [], [], [], [], [], [], [], [], [], [], [], [], []]
def am_g373 : List (Nat × Nat) := [(1049, 1060), (973, 980), (1139, 1147)]
def am_m374 : amM := ([(0, .aload 4, 0, 0), (2, .iconst 0, 0, 0), (3, .aload_n 0, 0, 0), (4, .iload_n 1, 0, 0), (5, .iload_n 2, 0, 0), (6, .iload_n 3, 0, 0), (7, .invokevirtual 100, 153, 0), (10, .i2l, 0, 0), (11, .lastore, 0, 0), (12, .goto 15, 27, 0), (15, .astore 5, 0, 0), (17, .iconst 1, 0, 0),
  (18, .ireturn, 0, 0), (19, .astore 5, 0, 0), (21, .iconst 2, 0, 0), (22, .ireturn, 0, 0), (23, .astore 5, 0, 0), (25, .iconst 3, 0, 0), (26, .ireturn, 0, 0), (27, .iconst 0, 0, 0), (28, .ireturn, 0, 0)], 6, 5, false, (some .int), [(0, 12, 15, 1, 5, 17), (0, 12, 19, 0, 5, 21), (0, 12, 23, 2, 5, 25)], 99)
def am_n374 : amN := (yL_roundOf, cL_roundOf, [(0, 12, 15, 19), (0, 12, 19, 13), (0, 12, 23, 40)])
def am_h374 : List (List Nat) := [[], [], [], [], [], [], [1405, 1406, 1407, 122, 1408], [], [], [], [], [], [], [], [], [], [], [], [], [], []]
def am_g374 : List (Nat × Nat) := [(1049, 1060), (973, 980), (1139, 1147)]
def am_m375 : amM := ([(0, .aload_n 2, 0, 0), (1, .iconst 0, 0, 0), (2, .aload_n 0, 0, 0), (3, .iload_n 1, 0, 0), (4, .invokevirtual 103, 154, 0), (7, .i2l, 0, 0), (8, .lastore, 0, 0), (9, .goto 6, 15, 0), (12, .astore_n 3, 0, 0), (13, .iconst 1, 0, 0), (14, .ireturn, 0, 0), (15, .iconst 0, 0, 0),
  (16, .ireturn, 0, 0)], 4, 3, false, (some .int), [(0, 9, 12, 2, 3, 13)], 99)
def am_n375 : amN := (yL_trainProfile, cL_trainProfile, [(0, 9, 12, 40)])
def am_h375 : List (List Nat) := [[], [], [], [], [1413, 1414, 1415, 122, 1416], [], [], [], [], [], [], [], []]
def am_g375 : List (Nat × Nat) := [(1139, 1147)]
def am_m376 : amM := ([(0, .aload_n 1, 0, 0), (1, .iconst 0, 0, 0), (2, .aload_n 0, 0, 0), (3, .invokevirtual 106, 155, 0), (6, .i2l, 0, 0), (7, .lastore, 0, 0), (8, .goto 6, 14, 0), (11, .astore_n 2, 0, 0), (12, .iconst 1, 0, 0), (13, .ireturn, 0, 0), (14, .iconst 0, 0, 0), (15, .ireturn, 0, 0)], 3, 2, false, (some .int), [(0, 8, 11, 2, 2, 12)], 99)
def am_n376 : amN := (yL_rounds, cL_rounds, [(0, 8, 11, 40)])
def am_h376 : List (List Nat) := [[], [], [], [1425, 1426, 1427, 122, 1428], [], [], [], [], [], [], [], []]
def am_g376 : List (Nat × Nat) := [(1139, 1147)]
def am_m377 : amM := ([(0, .aload_n 2, 0, 0), (1, .iconst 0, 0, 0), (2, .aload_n 0, 0, 0), (3, .iload_n 1, 0, 0), (4, .invokevirtual 110, 162, 0), (7, .i2l, 0, 0), (8, .lastore, 0, 0), (9, .goto 6, 15, 0), (12, .astore_n 3, 0, 0), (13, .iconst 1, 0, 0), (14, .ireturn, 0, 0), (15, .iconst 0, 0, 0),
  (16, .ireturn, 0, 0)], 4, 3, false, (some .int), [(0, 9, 12, 0, 3, 13)], 99)
def am_n377 : amN := (yL_closure, cL_closure, [(0, 9, 12, 13)])
def am_h377 : List (List Nat) := [[], [], [], [], [1440, 1441, 1442, 122, 1443], [], [], [], [], [], [], [], []]
def am_g377 : List (Nat × Nat) := [(973, 980)]
def am_m378 : amM := ([(0, .aload_n 2, 0, 0), (1, .iconst 0, 0, 0), (2, .aload_n 0, 0, 0), (3, .iload_n 1, 0, 0), (4, .invokevirtual 113, 165, 0), (7, .i2l, 0, 0), (8, .lastore, 0, 0), (9, .goto 6, 15, 0), (12, .astore_n 3, 0, 0), (13, .iconst 1, 0, 0), (14, .ireturn, 0, 0), (15, .iconst 0, 0, 0),
  (16, .ireturn, 0, 0)], 4, 3, false, (some .int), [(0, 9, 12, 1, 3, 13)], 99)
def am_n378 : amN := (yL_apart, cL_apart, [(0, 9, 12, 19)])
def am_h378 : List (List Nat) := [[], [], [], [], [1453, 1454, 1455, 122, 1456], [], [], [], [], [], [], [], []]
def am_g378 : List (Nat × Nat) := [(1049, 1060)]
def am_m379 : amM := ([(0, .aload_n 3, 0, 0), (1, .iconst 0, 0, 0), (2, .aload_n 0, 0, 0), (3, .iload_n 1, 0, 0), (4, .iload_n 2, 0, 0), (5, .invokevirtual 116, 167, 0), (8, .i2l, 0, 0), (9, .lastore, 0, 0), (10, .goto 11, 21, 0), (13, .astore 4, 0, 0), (15, .iconst 1, 0, 0), (16, .ireturn, 0, 0),
  (17, .astore 4, 0, 0), (19, .iconst 2, 0, 0), (20, .ireturn, 0, 0), (21, .iconst 0, 0, 0), (22, .ireturn, 0, 0)], 5, 4, false, (some .int), [(0, 10, 13, 1, 4, 15), (0, 10, 17, 0, 4, 19)], 99)
def am_n379 : amN := (yL_swap, cL_swap, [(0, 10, 13, 19), (0, 10, 17, 13)])
def am_h379 : List (List Nat) := [[], [], [], [], [], [1460, 1461, 1462, 122, 1463], [], [], [], [], [], [], [], [], [], [], []]
def am_g379 : List (Nat × Nat) := [(1049, 1060), (973, 980)]
def am_m380 : amM := ([(0, .aload_n 2, 0, 0), (1, .iconst 0, 0, 0), (2, .aload_n 0, 0, 0), (3, .iload_n 1, 0, 0), (4, .invokevirtual 119, 168, 0), (7, .i2l, 0, 0), (8, .lastore, 0, 0), (9, .goto 6, 15, 0), (12, .astore_n 3, 0, 0), (13, .iconst 1, 0, 0), (14, .ireturn, 0, 0), (15, .iconst 0, 0, 0),
  (16, .ireturn, 0, 0)], 4, 3, false, (some .int), [(0, 9, 12, 1, 3, 13)], 99)
def am_n380 : amN := (yL_clear, cL_clear, [(0, 9, 12, 19)])
def am_h380 : List (List Nat) := [[], [], [], [], [1471, 1472, 1473, 122, 1474], [], [], [], [], [], [], [], []]
def am_g380 : List (Nat × Nat) := [(1049, 1060)]
def am_m381 : amM := ([(0, .aload 4, 0, 0), (2, .iconst 0, 0, 0), (3, .aload_n 0, 0, 0), (4, .iload_n 1, 0, 0), (5, .iload_n 2, 0, 0), (6, .iload_n 3, 0, 0), (7, .invokevirtual 122, 169, 0), (10, .i2l, 0, 0), (11, .lastore, 0, 0), (12, .goto 11, 23, 0), (15, .astore 5, 0, 0), (17, .iconst 1, 0, 0),
  (18, .ireturn, 0, 0), (19, .astore 5, 0, 0), (21, .iconst 2, 0, 0), (22, .ireturn, 0, 0), (23, .iconst 0, 0, 0), (24, .ireturn, 0, 0)], 6, 5, false, (some .int), [(0, 12, 15, 1, 5, 17), (0, 12, 19, 0, 5, 21)], 99)
def am_n381 : amN := (yL_inTheWay, cL_inTheWay, [(0, 12, 15, 19), (0, 12, 19, 13)])
def am_h381 : List (List Nat) := [[], [], [], [], [], [], [1483, 1484, 1485, 122, 1486], [], [], [], [], [], [], [], [], [], [], []]
def am_g381 : List (Nat × Nat) := [(1049, 1060), (973, 980)]
def am_m382 : amM := ([(0, .aload 4, 0, 0), (2, .iconst 0, 0, 0), (3, .aload_n 0, 0, 0), (4, .iload_n 1, 0, 0), (5, .iload_n 2, 0, 0), (6, .iload_n 3, 0, 0), (7, .invokevirtual 125, 170, 0), (10, .i2l, 0, 0), (11, .lastore, 0, 0), (12, .goto 15, 27, 0), (15, .astore 5, 0, 0), (17, .iconst 1, 0, 0),
  (18, .ireturn, 0, 0), (19, .astore 5, 0, 0), (21, .iconst 2, 0, 0), (22, .ireturn, 0, 0), (23, .astore 5, 0, 0), (25, .iconst 3, 0, 0), (26, .ireturn, 0, 0), (27, .iconst 0, 0, 0), (28, .ireturn, 0, 0)], 6, 5, false, (some .int), [(0, 12, 15, 1, 5, 17), (0, 12, 19, 0, 5, 21), (0, 12, 23, 2, 5, 25)], 99)
def am_n382 : amN := (yL_force, cL_force, [(0, 12, 15, 19), (0, 12, 19, 13), (0, 12, 23, 40)])
def am_h382 : List (List Nat) := [[], [], [], [], [], [], [1490, 1491, 1492, 122, 1493], [], [], [], [], [], [], [], [], [], [], [], [], [], []]
def am_g382 : List (Nat × Nat) := [(1049, 1060), (973, 980), (1139, 1147)]
def am_m383 : amM := ([(0, .aload_n 2, 0, 0), (1, .iconst 0, 0, 0), (2, .aload_n 0, 0, 0), (3, .iload_n 1, 0, 0), (4, .invokevirtual 128, 171, 0), (7, .i2l, 0, 0), (8, .lastore, 0, 0), (9, .goto 6, 15, 0), (12, .astore_n 3, 0, 0), (13, .iconst 1, 0, 0), (14, .ireturn, 0, 0), (15, .iconst 0, 0, 0),
  (16, .ireturn, 0, 0)], 4, 3, false, (some .int), [(0, 9, 12, 1, 3, 13)], 99)
def am_n383 : amN := (yL_printAt, cL_printAt, [(0, 9, 12, 19)])
def am_h383 : List (List Nat) := [[], [], [], [], [1498, 1499, 1500, 122, 1501], [], [], [], [], [], [], [], []]
def am_g383 : List (Nat × Nat) := [(1049, 1060)]
def am_m384 : amM := ([(0, .aload_n 1, 0, 0), (1, .iconst 0, 0, 0), (2, .aload_n 0, 0, 0), (3, .invokevirtual 131, 175, 0), (6, .i2l, 0, 0), (7, .lastore, 0, 0), (8, .goto 6, 14, 0), (11, .astore_n 2, 0, 0), (12, .iconst 1, 0, 0), (13, .ireturn, 0, 0), (14, .iconst 0, 0, 0), (15, .ireturn, 0, 0)], 3, 2, false, (some .int), [(0, 8, 11, 2, 2, 12)], 99)
def am_n384 : amN := (yL_restoreState, cL_restoreState, [(0, 8, 11, 40)])
def am_h384 : List (List Nat) := [[], [], [], [1513, 1514, 1515, 122, 1516], [], [], [], [], [], [], [], []]
def am_g384 : List (Nat × Nat) := [(1139, 1147)]
def am_mL_0 : amP := [(0, .new 8, 10, 0), (3, .dup, 0, 0), (4, .invokespecial 134, 112, 2), (7, .astore_n 1, 0, 0), (8, .new 135, 11, 0), (11, .dup, 0, 0), (12, .invokespecial 137, 194, 2), (15, .astore_n 2, 0, 0), (16, .iconst 1, 0, 0), (17, .newarray .long, 0, 0), (19, .astore_n 3, 0, 0), (20, .iconst 0, 0, 0),
  (21, .istore 4, 0, 0), (23, .iload 4, 0, 0), (25, .aload_n 0, 0, 0), (26, .arraylength, 0, 0), (27, .bipush 6, 0, 0), (29, .isub, 0, 0), (30, .if_icmp .gt 2232, 2262, 0), (33, .aload_n 0, 0, 0), (34, .iload 4, 0, 0), (36, .iaload, 0, 0), (37, .bipush 63, 0, 0), (39, .iand, 0, 0),
  (40, .tableswitch 2216 0 62 #[268, 341, 366, 379, 392, 405, 433, 446, 486, 538, 578, 606, 634, 686, 738, 766, 818, 831, 844, 857, 897, 937, 965, 993, 1021, 1049, 1090, 1118, 1158, 1210, 1274, 1326, 1378, 1403, 1428, 1468, 1481, 1494, 1546, 1598, 1650, 1702, 1730, 1746, 1771, 1784, 1797, 1822, 1837, 1854, 1882, 1895, 1908, 1936, 1949, 1989, 2017, 2069, 2121, 2149, 2174, 2187, 2200], 0, 0), (308, .aload_n 1, 0, 0), (309, .aload_n 0, 0, 0), (310, .iload 4, 0, 0), (312, .iconst 1, 0, 0), (313, .iadd, 0, 0), (314, .iaload, 0, 0), (315, .aload_n 0, 0, 0), (316, .iload 4, 0, 0), (318, .iconst 2, 0, 0), (319, .iadd, 0, 0), (320, .iaload, 0, 0),
  (321, .aload_n 0, 0, 0), (322, .iload 4, 0, 0), (324, .iconst 3, 0, 0), (325, .iadd, 0, 0), (326, .iaload, 0, 0), (327, .aload_n 0, 0, 0), (328, .iload 4, 0, 0), (330, .iconst 4, 0, 0), (331, .iadd, 0, 0), (332, .iaload, 0, 0), (333, .aload_n 0, 0, 0), (334, .iload 4, 0, 0),
  (336, .iconst 5, 0, 0), (337, .iadd, 0, 0), (338, .iaload, 0, 0), (339, .invokevirtual 138, 113, 0), (342, .aload_n 2, 0, 0), (343, .aload_n 0, 0, 0), (344, .iload 4, 0, 0), (346, .iconst 1, 0, 0), (347, .iadd, 0, 0), (348, .iaload, 0, 0), (349, .aload_n 0, 0, 0), (350, .iload 4, 0, 0),
  (352, .iconst 2, 0, 0), (353, .iadd, 0, 0), (354, .iaload, 0, 0), (355, .aload_n 0, 0, 0), (356, .iload 4, 0, 0), (358, .iconst 3, 0, 0), (359, .iadd, 0, 0), (360, .iaload, 0, 0), (361, .aload_n 0, 0, 0), (362, .iload 4, 0, 0), (364, .iconst 4, 0, 0), (365, .iadd, 0, 0),
  (366, .iaload, 0, 0), (367, .aload_n 0, 0, 0), (368, .iload 4, 0, 0), (370, .iconst 5, 0, 0), (371, .iadd, 0, 0), (372, .iaload, 0, 0), (373, .invokevirtual 142, 239, 0), (376, .if_icmp .eq 1880, 2256, 0), (379, .iconst 0, 0, 0), (380, .ireturn, 0, 0), (381, .aload_n 1, 0, 0), (382, .aload_n 0, 0, 0),
  (383, .iload 4, 0, 0), (385, .iconst 1, 0, 0), (386, .iadd, 0, 0), (387, .iaload, 0, 0), (388, .invokevirtual 143, 114, 0), (391, .pop, 0, 0), (392, .aload_n 2, 0, 0), (393, .aload_n 0, 0, 0), (394, .iload 4, 0, 0), (396, .iconst 1, 0, 0), (397, .iadd, 0, 0), (398, .iaload, 0, 0),
  (399, .invokevirtual 147, 240, 0), (402, .pop, 0, 0), (403, .goto 1853, 2256, 0), (406, .aload_n 1, 0, 0), (407, .invokevirtual 148, 115, 0), (410, .pop, 0, 0), (411, .aload_n 2, 0, 0), (412, .invokevirtual 151, 251, 0), (415, .pop, 0, 0), (416, .goto 1840, 2256, 0), (419, .aload_n 1, 0, 0), (420, .invokevirtual 152, 116, 0),
  (423, .pop, 0, 0), (424, .aload_n 2, 0, 0), (425, .invokevirtual 155, 252, 0), (428, .pop, 0, 0), (429, .goto 1827, 2256, 0), (432, .aload_n 1, 0, 0), (433, .invokevirtual 156, 117, 0), (436, .pop, 0, 0), (437, .aload_n 2, 0, 0), (438, .invokevirtual 159, 253, 0), (441, .pop, 0, 0), (442, .goto 1814, 2256, 0),
  (445, .aload_n 1, 0, 0), (446, .aload_n 0, 0, 0), (447, .iload 4, 0, 0), (449, .iconst 1, 0, 0), (450, .iadd, 0, 0), (451, .iaload, 0, 0), (452, .aload_n 3, 0, 0), (453, .invokestatic 160, 348, 4), (456, .istore 5, 0, 0), (458, .aload_n 2, 0, 0), (459, .aload_n 0, 0, 0), (460, .iload 4, 0, 0),
  (462, .iconst 1, 0, 0), (463, .iadd, 0, 0), (464, .iaload, 0, 0), (465, .invokevirtual 165, 260, 0), (468, .istore 6, 0, 0), (470, .goto 1786, 2256, 0), (473, .aload_n 1, 0, 0), (474, .invokevirtual 166, 119, 0), (477, .pop, 0, 0), (478, .aload_n 2, 0, 0), (479, .invokevirtual 170, 263, 0), (482, .pop, 0, 0),
  (483, .goto 1773, 2256, 0), (486, .aload_n 1, 0, 0), (487, .aload_n 0, 0, 0), (488, .iload 4, 0, 0), (490, .iconst 1, 0, 0), (491, .iadd, 0, 0), (492, .iaload, 0, 0), (493, .aload_n 0, 0, 0), (494, .iload 4, 0, 0), (496, .iconst 2, 0, 0), (497, .iadd, 0, 0), (498, .iaload, 0, 0),
  (499, .aload_n 3, 0, 0), (500, .invokestatic 171, 349, 4), (503, .istore 5, 0, 0), (505, .aload_n 2, 0, 0), (506, .aload_n 0, 0, 0), (507, .iload 4, 0, 0), (509, .iconst 1, 0, 0), (510, .iadd, 0, 0), (511, .iaload, 0, 0), (512, .aload_n 0, 0, 0), (513, .iload 4, 0, 0), (515, .iconst 2, 0, 0),
  (516, .iadd, 0, 0), (517, .iaload, 0, 0), (518, .invokevirtual 174, 264, 0), (521, .istore 6, 0, 0), (523, .goto 1733, 2256, 0), (526, .aload_n 1, 0, 0), (527, .aload_n 0, 0, 0), (528, .iload 4, 0, 0), (530, .iconst 1, 0, 0), (531, .iadd, 0, 0), (532, .iaload, 0, 0), (533, .aload_n 0, 0, 0),
  (534, .iload 4, 0, 0), (536, .iconst 2, 0, 0), (537, .iadd, 0, 0), (538, .iaload, 0, 0), (539, .aload_n 0, 0, 0), (540, .iload 4, 0, 0), (542, .iconst 3, 0, 0), (543, .iadd, 0, 0), (544, .iaload, 0, 0), (545, .aload_n 3, 0, 0), (546, .invokestatic 175, 350, 4), (549, .istore 5, 0, 0),
  (551, .aload_n 2, 0, 0), (552, .aload_n 0, 0, 0), (553, .iload 4, 0, 0), (555, .iconst 1, 0, 0), (556, .iadd, 0, 0), (557, .iaload, 0, 0), (558, .aload_n 0, 0, 0), (559, .iload 4, 0, 0), (561, .iconst 2, 0, 0), (562, .iadd, 0, 0), (563, .iaload, 0, 0), (564, .aload_n 0, 0, 0),
  (565, .iload 4, 0, 0), (567, .iconst 3, 0, 0), (568, .iadd, 0, 0), (569, .iaload, 0, 0), (570, .invokevirtual 178, 265, 0), (573, .istore 6, 0, 0), (575, .goto 1681, 2256, 0), (578, .aload_n 1, 0, 0), (579, .aload_n 0, 0, 0), (580, .iload 4, 0, 0), (582, .iconst 1, 0, 0), (583, .iadd, 0, 0),
  (584, .iaload, 0, 0), (585, .aload_n 0, 0, 0), (586, .iload 4, 0, 0), (588, .iconst 2, 0, 0), (589, .iadd, 0, 0), (590, .iaload, 0, 0), (591, .aload_n 3, 0, 0), (592, .invokestatic 179, 351, 4), (595, .istore 5, 0, 0), (597, .aload_n 2, 0, 0), (598, .aload_n 0, 0, 0), (599, .iload 4, 0, 0),
  (601, .iconst 1, 0, 0), (602, .iadd, 0, 0), (603, .iaload, 0, 0), (604, .aload_n 0, 0, 0), (605, .iload 4, 0, 0), (607, .iconst 2, 0, 0), (608, .iadd, 0, 0), (609, .iaload, 0, 0), (610, .invokevirtual 181, 266, 0), (613, .istore 6, 0, 0), (615, .goto 1641, 2256, 0), (618, .aload_n 1, 0, 0),
  (619, .aload_n 0, 0, 0), (620, .iload 4, 0, 0), (622, .iconst 1, 0, 0), (623, .iadd, 0, 0), (624, .iaload, 0, 0), (625, .aload_n 3, 0, 0), (626, .invokestatic 182, 352, 4), (629, .istore 5, 0, 0), (631, .aload_n 2, 0, 0), (632, .aload_n 0, 0, 0)]
def am_hL_0 : List (List Nat) := [[150, 151, 122], [], [152, 153, 122, 154], [], [1522, 1523, 134], [], [1524, 1525, 134, 1526], [], [], [306], [], [], [], [], [], [], [], [], [], [], [], [], [], [], [], [], [], [], [], [], [], [], [], [], [], [], [], [], [], [], [], [], [], [], [], [], [], [], [], [], [], [439, 440, 441, 122, 442], [], [], [], [], [], [], [], [], [], [], [], [], [], [], [], [], [], [], [], [], [], [], [], [], [], [], [1632, 1633, 1634, 134, 1635], [], [], [], [], [], [], [], [], [], [451, 452, 453, 122, 454], [], [], [], [], [], [], [], [1640, 1641, 1642, 134, 1643], [], [], [], [455, 456, 457, 122, 458], [], [], [1647, 1648, 1649, 134, 1650], [], [], [], [658, 659, 660, 122, 661], [], [], [1743, 1744, 1745, 134, 1746], [], [], [], [662, 663, 664, 122, 665], [], [], [1747, 1748, 1749, 134, 1750], [], [], [], [], [], [], [], [], [], [970, 971, 121, 972], [], [], [], [], [], [], [], [1751, 1752, 1753, 134, 1754], [], [], [], [666, 667, 668, 122, 669], [], [], [1792, 1793, 1794, 134, 1795], [], [], [], [], [], [], [], [], [], [], [], [], [], [], [1046, 1047, 121, 1048], [], [], [], [], [], [], [], [], [], [], [], [], [1800, 1801, 1802, 134, 1803], [], [], [], [], [], [], [], [], [], [], [], [], [], [], [], [], [], [], [], [1076, 1077, 121, 1078], [], [], [], [], [], [], [], [], [], [], [], [], [], [], [], [], [], [1808, 1809, 1810, 134, 1811], [], [], [], [], [], [], [], [], [], [], [], [], [], [], [1095, 1096, 121, 1097], [], [], [], [], [], [], [], [], [], [], [], [], [1820, 1821, 1822, 134, 1823], [], [], [], [], [], [], [], [], [], [1106, 1107, 121, 1108], [], [], []]
def am_mL_1 : amP := [(633, .iload 4, 0, 0), (635, .iconst 1, 0, 0), (636, .iadd, 0, 0), (637, .iaload, 0, 0), (638, .invokevirtual 184, 267, 0), (641, .istore 6, 0, 0), (643, .goto 1613, 2256, 0), (646, .aload_n 1, 0, 0), (647, .aload_n 0, 0, 0), (648, .iload 4, 0, 0), (650, .iconst 1, 0, 0), (651, .iadd, 0, 0),
  (652, .iaload, 0, 0), (653, .aload_n 3, 0, 0), (654, .invokestatic 185, 353, 4), (657, .istore 5, 0, 0), (659, .aload_n 2, 0, 0), (660, .aload_n 0, 0, 0), (661, .iload 4, 0, 0), (663, .iconst 1, 0, 0), (664, .iadd, 0, 0), (665, .iaload, 0, 0), (666, .invokevirtual 187, 268, 0), (669, .istore 6, 0, 0),
  (671, .goto 1585, 2256, 0), (674, .aload_n 1, 0, 0), (675, .aload_n 0, 0, 0), (676, .iload 4, 0, 0), (678, .iconst 1, 0, 0), (679, .iadd, 0, 0), (680, .iaload, 0, 0), (681, .aload_n 0, 0, 0), (682, .iload 4, 0, 0), (684, .iconst 2, 0, 0), (685, .iadd, 0, 0), (686, .iaload, 0, 0),
  (687, .aload_n 0, 0, 0), (688, .iload 4, 0, 0), (690, .iconst 3, 0, 0), (691, .iadd, 0, 0), (692, .iaload, 0, 0), (693, .aload_n 3, 0, 0), (694, .invokestatic 188, 354, 4), (697, .istore 5, 0, 0), (699, .aload_n 2, 0, 0), (700, .aload_n 0, 0, 0), (701, .iload 4, 0, 0), (703, .iconst 1, 0, 0),
  (704, .iadd, 0, 0), (705, .iaload, 0, 0), (706, .aload_n 0, 0, 0), (707, .iload 4, 0, 0), (709, .iconst 2, 0, 0), (710, .iadd, 0, 0), (711, .iaload, 0, 0), (712, .aload_n 0, 0, 0), (713, .iload 4, 0, 0), (715, .iconst 3, 0, 0), (716, .iadd, 0, 0), (717, .iaload, 0, 0),
  (718, .invokevirtual 190, 270, 0), (721, .istore 6, 0, 0), (723, .goto 1533, 2256, 0), (726, .aload_n 1, 0, 0), (727, .aload_n 0, 0, 0), (728, .iload 4, 0, 0), (730, .iconst 1, 0, 0), (731, .iadd, 0, 0), (732, .iaload, 0, 0), (733, .aload_n 0, 0, 0), (734, .iload 4, 0, 0), (736, .iconst 2, 0, 0),
  (737, .iadd, 0, 0), (738, .iaload, 0, 0), (739, .aload_n 0, 0, 0), (740, .iload 4, 0, 0), (742, .iconst 3, 0, 0), (743, .iadd, 0, 0), (744, .iaload, 0, 0), (745, .aload_n 3, 0, 0), (746, .invokestatic 191, 355, 4), (749, .istore 5, 0, 0), (751, .aload_n 2, 0, 0), (752, .aload_n 0, 0, 0),
  (753, .iload 4, 0, 0), (755, .iconst 1, 0, 0), (756, .iadd, 0, 0), (757, .iaload, 0, 0), (758, .aload_n 0, 0, 0), (759, .iload 4, 0, 0), (761, .iconst 2, 0, 0), (762, .iadd, 0, 0), (763, .iaload, 0, 0), (764, .aload_n 0, 0, 0), (765, .iload 4, 0, 0), (767, .iconst 3, 0, 0),
  (768, .iadd, 0, 0), (769, .iaload, 0, 0), (770, .invokevirtual 193, 272, 0), (773, .istore 6, 0, 0), (775, .goto 1481, 2256, 0), (778, .aload_n 1, 0, 0), (779, .aload_n 0, 0, 0), (780, .iload 4, 0, 0), (782, .iconst 1, 0, 0), (783, .iadd, 0, 0), (784, .iaload, 0, 0), (785, .aload_n 3, 0, 0),
  (786, .invokestatic 194, 356, 4), (789, .istore 5, 0, 0), (791, .aload_n 2, 0, 0), (792, .aload_n 0, 0, 0), (793, .iload 4, 0, 0), (795, .iconst 1, 0, 0), (796, .iadd, 0, 0), (797, .iaload, 0, 0), (798, .invokevirtual 196, 273, 0), (801, .istore 6, 0, 0), (803, .goto 1453, 2256, 0), (806, .aload_n 1, 0, 0),
  (807, .aload_n 0, 0, 0), (808, .iload 4, 0, 0), (810, .iconst 1, 0, 0), (811, .iadd, 0, 0), (812, .iaload, 0, 0), (813, .aload_n 0, 0, 0), (814, .iload 4, 0, 0), (816, .iconst 2, 0, 0), (817, .iadd, 0, 0), (818, .iaload, 0, 0), (819, .aload_n 0, 0, 0), (820, .iload 4, 0, 0),
  (822, .iconst 3, 0, 0), (823, .iadd, 0, 0), (824, .iaload, 0, 0), (825, .aload_n 3, 0, 0), (826, .invokestatic 197, 357, 4), (829, .istore 5, 0, 0), (831, .aload_n 2, 0, 0), (832, .aload_n 0, 0, 0), (833, .iload 4, 0, 0), (835, .iconst 1, 0, 0), (836, .iadd, 0, 0), (837, .iaload, 0, 0),
  (838, .aload_n 0, 0, 0), (839, .iload 4, 0, 0), (841, .iconst 2, 0, 0), (842, .iadd, 0, 0), (843, .iaload, 0, 0), (844, .aload_n 0, 0, 0), (845, .iload 4, 0, 0), (847, .iconst 3, 0, 0), (848, .iadd, 0, 0), (849, .iaload, 0, 0), (850, .invokevirtual 199, 274, 0), (853, .istore 6, 0, 0),
  (855, .goto 1401, 2256, 0), (858, .aload_n 1, 0, 0), (859, .invokevirtual 200, 129, 0), (862, .pop, 0, 0), (863, .aload_n 2, 0, 0), (864, .invokevirtual 203, 275, 0), (867, .pop, 0, 0), (868, .goto 1388, 2256, 0), (871, .aload_n 1, 0, 0), (872, .invokevirtual 204, 130, 0), (875, .pop, 0, 0), (876, .aload_n 2, 0, 0),
  (877, .invokevirtual 207, 285, 0), (880, .pop, 0, 0), (881, .goto 1375, 2256, 0), (884, .aload_n 1, 0, 0), (885, .invokevirtual 208, 131, 0), (888, .pop, 0, 0), (889, .aload_n 2, 0, 0), (890, .invokevirtual 211, 286, 0), (893, .pop, 0, 0), (894, .goto 1362, 2256, 0), (897, .aload_n 1, 0, 0), (898, .aload_n 0, 0, 0),
  (899, .iload 4, 0, 0), (901, .iconst 1, 0, 0), (902, .iadd, 0, 0), (903, .iaload, 0, 0), (904, .aload_n 0, 0, 0), (905, .iload 4, 0, 0), (907, .iconst 2, 0, 0), (908, .iadd, 0, 0), (909, .iaload, 0, 0), (910, .aload_n 3, 0, 0), (911, .invokestatic 212, 358, 4), (914, .istore 5, 0, 0),
  (916, .aload_n 2, 0, 0), (917, .aload_n 0, 0, 0), (918, .iload 4, 0, 0), (920, .iconst 1, 0, 0), (921, .iadd, 0, 0), (922, .iaload, 0, 0), (923, .aload_n 0, 0, 0), (924, .iload 4, 0, 0), (926, .iconst 2, 0, 0), (927, .iadd, 0, 0), (928, .iaload, 0, 0), (929, .invokevirtual 214, 288, 0),
  (932, .istore 6, 0, 0), (934, .goto 1322, 2256, 0), (937, .aload_n 1, 0, 0), (938, .aload_n 0, 0, 0), (939, .iload 4, 0, 0), (941, .iconst 1, 0, 0), (942, .iadd, 0, 0), (943, .iaload, 0, 0), (944, .aload_n 0, 0, 0), (945, .iload 4, 0, 0), (947, .iconst 2, 0, 0), (948, .iadd, 0, 0),
  (949, .iaload, 0, 0), (950, .aload_n 3, 0, 0), (951, .invokestatic 215, 359, 4), (954, .istore 5, 0, 0), (956, .aload_n 2, 0, 0), (957, .aload_n 0, 0, 0), (958, .iload 4, 0, 0), (960, .iconst 1, 0, 0), (961, .iadd, 0, 0), (962, .iaload, 0, 0), (963, .aload_n 0, 0, 0), (964, .iload 4, 0, 0),
  (966, .iconst 2, 0, 0), (967, .iadd, 0, 0), (968, .iaload, 0, 0), (969, .invokevirtual 217, 289, 0), (972, .istore 6, 0, 0), (974, .goto 1282, 2256, 0), (977, .aload_n 1, 0, 0), (978, .aload_n 0, 0, 0), (979, .iload 4, 0, 0), (981, .iconst 1, 0, 0), (982, .iadd, 0, 0), (983, .iaload, 0, 0),
  (984, .aload_n 3, 0, 0), (985, .invokestatic 218, 360, 4), (988, .istore 5, 0, 0), (990, .aload_n 2, 0, 0), (991, .aload_n 0, 0, 0), (992, .iload 4, 0, 0), (994, .iconst 1, 0, 0), (995, .iadd, 0, 0), (996, .iaload, 0, 0), (997, .invokevirtual 220, 290, 0)]
def am_hL_1 : List (List Nat) := [[], [], [], [], [1828, 1829, 1830, 134, 1831], [], [], [], [], [], [], [], [], [], [1117, 1118, 121, 1119], [], [], [], [], [], [], [], [1832, 1833, 1834, 134, 1835], [], [], [], [], [], [], [], [], [], [], [], [], [], [], [], [], [], [], [], [1129, 1130, 121, 1131], [], [], [], [], [], [], [], [], [], [], [], [], [], [], [], [], [], [1836, 1837, 1838, 134, 1839], [], [], [], [], [], [], [], [], [], [], [], [], [], [], [], [], [], [], [], [1136, 1137, 121, 1138], [], [], [], [], [], [], [], [], [], [], [], [], [], [], [], [], [], [1848, 1849, 1850, 134, 1851], [], [], [], [], [], [], [], [], [], [1161, 1162, 121, 1163], [], [], [], [], [], [], [], [1856, 1857, 1858, 134, 1859], [], [], [], [], [], [], [], [], [], [], [], [], [], [], [], [], [], [], [], [1168, 1169, 121, 1170], [], [], [], [], [], [], [], [], [], [], [], [], [], [], [], [], [], [1864, 1865, 1866, 134, 1867], [], [], [], [675, 676, 677, 122, 678], [], [], [1876, 1877, 1878, 134, 1879], [], [], [], [704, 705, 706, 122, 707], [], [], [1907, 1908, 1909, 134, 1910], [], [], [], [728, 729, 730, 122, 731], [], [], [1923, 1924, 1925, 134, 1926], [], [], [], [], [], [], [], [], [], [], [], [], [], [], [1177, 1178, 121, 1179], [], [], [], [], [], [], [], [], [], [], [], [], [1927, 1928, 1929, 134, 1930], [], [], [], [], [], [], [], [], [], [], [], [], [], [], [1191, 1192, 121, 1193], [], [], [], [], [], [], [], [], [], [], [], [], [1943, 1944, 1945, 134, 1946], [], [], [], [], [], [], [], [], [], [1203, 1204, 121, 1205], [], [], [], [], [], [], [], [1951, 1952, 1953, 134, 1954]]
def am_mL_2 : amP := [(1000, .istore 6, 0, 0), (1002, .goto 1254, 2256, 0), (1005, .aload_n 1, 0, 0), (1006, .aload_n 0, 0, 0), (1007, .iload 4, 0, 0), (1009, .iconst 1, 0, 0), (1010, .iadd, 0, 0), (1011, .iaload, 0, 0), (1012, .aload_n 3, 0, 0), (1013, .invokestatic 221, 361, 4), (1016, .istore 5, 0, 0), (1018, .aload_n 2, 0, 0),
  (1019, .aload_n 0, 0, 0), (1020, .iload 4, 0, 0), (1022, .iconst 1, 0, 0), (1023, .iadd, 0, 0), (1024, .iaload, 0, 0), (1025, .invokevirtual 223, 291, 0), (1028, .istore 6, 0, 0), (1030, .goto 1226, 2256, 0), (1033, .aload_n 1, 0, 0), (1034, .aload_n 0, 0, 0), (1035, .iload 4, 0, 0), (1037, .iconst 1, 0, 0),
  (1038, .iadd, 0, 0), (1039, .iaload, 0, 0), (1040, .aload_n 3, 0, 0), (1041, .invokestatic 224, 362, 4), (1044, .istore 5, 0, 0), (1046, .aload_n 2, 0, 0), (1047, .aload_n 0, 0, 0), (1048, .iload 4, 0, 0), (1050, .iconst 1, 0, 0), (1051, .iadd, 0, 0), (1052, .iaload, 0, 0), (1053, .invokevirtual 226, 292, 0),
  (1056, .istore 6, 0, 0), (1058, .goto 1198, 2256, 0), (1061, .aload_n 1, 0, 0), (1062, .aload_n 0, 0, 0), (1063, .iload 4, 0, 0), (1065, .iconst 1, 0, 0), (1066, .iadd, 0, 0), (1067, .iaload, 0, 0), (1068, .aload_n 3, 0, 0), (1069, .invokestatic 227, 363, 4), (1072, .istore 5, 0, 0), (1074, .aload_n 2, 0, 0),
  (1075, .aload_n 0, 0, 0), (1076, .iload 4, 0, 0), (1078, .iconst 1, 0, 0), (1079, .iadd, 0, 0), (1080, .iaload, 0, 0), (1081, .invokevirtual 229, 293, 0), (1084, .istore 6, 0, 0), (1086, .goto 1170, 2256, 0), (1089, .aload_n 1, 0, 0), (1090, .aload_n 0, 0, 0), (1091, .iload 4, 0, 0), (1093, .iconst 1, 0, 0),
  (1094, .iadd, 0, 0), (1095, .iaload, 0, 0), (1096, .ifCond .eq 7, 1103, 0), (1099, .iconst 1, 0, 0), (1100, .goto 4, 1104, 0), (1103, .iconst 0, 0, 0), (1104, .invokevirtual 230, 138, 0), (1107, .pop, 0, 0), (1108, .aload_n 2, 0, 0), (1109, .aload_n 0, 0, 0), (1110, .iload 4, 0, 0), (1112, .iconst 1, 0, 0),
  (1113, .iadd, 0, 0), (1114, .iaload, 0, 0), (1115, .ifCond .eq 7, 1122, 0), (1118, .iconst 1, 0, 0), (1119, .goto 4, 1123, 0), (1122, .iconst 0, 0, 0), (1123, .invokevirtual 234, 294, 0), (1126, .pop, 0, 0), (1127, .goto 1129, 2256, 0), (1130, .aload_n 1, 0, 0), (1131, .aload_n 0, 0, 0), (1132, .iload 4, 0, 0),
  (1134, .iconst 1, 0, 0), (1135, .iadd, 0, 0), (1136, .iaload, 0, 0), (1137, .aload_n 3, 0, 0), (1138, .invokestatic 235, 364, 4), (1141, .istore 5, 0, 0), (1143, .aload_n 2, 0, 0), (1144, .aload_n 0, 0, 0), (1145, .iload 4, 0, 0), (1147, .iconst 1, 0, 0), (1148, .iadd, 0, 0), (1149, .iaload, 0, 0),
  (1150, .invokevirtual 237, 295, 0), (1153, .istore 6, 0, 0), (1155, .goto 1101, 2256, 0), (1158, .aload_n 1, 0, 0), (1159, .aload_n 0, 0, 0), (1160, .iload 4, 0, 0), (1162, .iconst 1, 0, 0), (1163, .iadd, 0, 0), (1164, .iaload, 0, 0), (1165, .aload_n 0, 0, 0), (1166, .iload 4, 0, 0), (1168, .iconst 2, 0, 0),
  (1169, .iadd, 0, 0), (1170, .iaload, 0, 0), (1171, .aload_n 3, 0, 0), (1172, .invokestatic 238, 365, 4), (1175, .istore 5, 0, 0), (1177, .aload_n 2, 0, 0), (1178, .aload_n 0, 0, 0), (1179, .iload 4, 0, 0), (1181, .iconst 1, 0, 0), (1182, .iadd, 0, 0), (1183, .iaload, 0, 0), (1184, .aload_n 0, 0, 0),
  (1185, .iload 4, 0, 0), (1187, .iconst 2, 0, 0), (1188, .iadd, 0, 0), (1189, .iaload, 0, 0), (1190, .invokevirtual 240, 297, 0), (1193, .istore 6, 0, 0), (1195, .goto 1061, 2256, 0), (1198, .aload_n 1, 0, 0), (1199, .aload_n 0, 0, 0), (1200, .iload 4, 0, 0), (1202, .iconst 1, 0, 0), (1203, .iadd, 0, 0),
  (1204, .iaload, 0, 0), (1205, .aload_n 0, 0, 0), (1206, .iload 4, 0, 0), (1208, .iconst 2, 0, 0), (1209, .iadd, 0, 0), (1210, .iaload, 0, 0), (1211, .aload_n 0, 0, 0), (1212, .iload 4, 0, 0), (1214, .iconst 3, 0, 0), (1215, .iadd, 0, 0), (1216, .iaload, 0, 0), (1217, .aload_n 3, 0, 0),
  (1218, .invokestatic 241, 366, 4), (1221, .istore 5, 0, 0), (1223, .aload_n 2, 0, 0), (1224, .aload_n 0, 0, 0), (1225, .iload 4, 0, 0), (1227, .iconst 1, 0, 0), (1228, .iadd, 0, 0), (1229, .iaload, 0, 0), (1230, .aload_n 0, 0, 0), (1231, .iload 4, 0, 0), (1233, .iconst 2, 0, 0), (1234, .iadd, 0, 0),
  (1235, .iaload, 0, 0), (1236, .aload_n 0, 0, 0), (1237, .iload 4, 0, 0), (1239, .iconst 3, 0, 0), (1240, .iadd, 0, 0), (1241, .iaload, 0, 0), (1242, .invokevirtual 243, 298, 0), (1245, .istore 6, 0, 0), (1247, .goto 1009, 2256, 0), (1250, .aload_n 1, 0, 0), (1251, .aload_n 0, 0, 0), (1252, .iload 4, 0, 0),
  (1254, .iconst 1, 0, 0), (1255, .iadd, 0, 0), (1256, .iaload, 0, 0), (1257, .aload_n 0, 0, 0), (1258, .iload 4, 0, 0), (1260, .iconst 2, 0, 0), (1261, .iadd, 0, 0), (1262, .iaload, 0, 0), (1263, .aload_n 0, 0, 0), (1264, .iload 4, 0, 0), (1266, .iconst 3, 0, 0), (1267, .iadd, 0, 0),
  (1268, .iaload, 0, 0), (1269, .aload_n 0, 0, 0), (1270, .iload 4, 0, 0), (1272, .iconst 4, 0, 0), (1273, .iadd, 0, 0), (1274, .iaload, 0, 0), (1275, .aload_n 3, 0, 0), (1276, .invokestatic 244, 367, 4), (1279, .istore 5, 0, 0), (1281, .aload_n 2, 0, 0), (1282, .aload_n 0, 0, 0), (1283, .iload 4, 0, 0),
  (1285, .iconst 1, 0, 0), (1286, .iadd, 0, 0), (1287, .iaload, 0, 0), (1288, .aload_n 0, 0, 0), (1289, .iload 4, 0, 0), (1291, .iconst 2, 0, 0), (1292, .iadd, 0, 0), (1293, .iaload, 0, 0), (1294, .aload_n 0, 0, 0), (1295, .iload 4, 0, 0), (1297, .iconst 3, 0, 0), (1298, .iadd, 0, 0),
  (1299, .iaload, 0, 0), (1300, .aload_n 0, 0, 0), (1301, .iload 4, 0, 0), (1303, .iconst 4, 0, 0), (1304, .iadd, 0, 0), (1305, .iaload, 0, 0), (1306, .invokevirtual 247, 299, 0), (1309, .istore 6, 0, 0), (1311, .goto 945, 2256, 0), (1314, .aload_n 1, 0, 0), (1315, .aload_n 0, 0, 0), (1316, .iload 4, 0, 0),
  (1318, .iconst 1, 0, 0), (1319, .iadd, 0, 0), (1320, .iaload, 0, 0), (1321, .aload_n 0, 0, 0), (1322, .iload 4, 0, 0), (1324, .iconst 2, 0, 0), (1325, .iadd, 0, 0), (1326, .iaload, 0, 0), (1327, .aload_n 0, 0, 0), (1328, .iload 4, 0, 0), (1330, .iconst 3, 0, 0), (1331, .iadd, 0, 0),
  (1332, .iaload, 0, 0), (1333, .aload_n 3, 0, 0), (1334, .invokestatic 248, 368, 4), (1337, .istore 5, 0, 0), (1339, .aload_n 2, 0, 0), (1340, .aload_n 0, 0, 0), (1341, .iload 4, 0, 0), (1343, .iconst 1, 0, 0), (1344, .iadd, 0, 0), (1345, .iaload, 0, 0), (1346, .aload_n 0, 0, 0), (1347, .iload 4, 0, 0),
  (1349, .iconst 2, 0, 0), (1350, .iadd, 0, 0), (1351, .iaload, 0, 0), (1352, .aload_n 0, 0, 0), (1353, .iload 4, 0, 0), (1355, .iconst 3, 0, 0), (1356, .iadd, 0, 0), (1357, .iaload, 0, 0), (1358, .invokevirtual 250, 300, 0), (1361, .istore 6, 0, 0)]
def am_hL_2 : List (List Nat) := [[], [], [], [], [], [], [], [], [], [1214, 1215, 121, 1216], [], [], [], [], [], [], [], [1955, 1956, 1957, 134, 1958], [], [], [], [], [], [], [], [], [], [1221, 1222, 121, 1223], [], [], [], [], [], [], [], [1959, 1960, 1961, 134, 1962], [], [], [], [], [], [], [], [], [], [1232, 1233, 121, 1234], [], [], [], [], [], [], [], [1967, 1968, 1969, 134, 1970], [], [], [], [], [], [], [], [], [], [], [], [], [732, 733, 734, 122, 735], [], [], [], [], [], [], [], [], [], [], [], [1979, 1980, 1981, 134, 1982], [], [], [], [], [], [], [], [], [], [1243, 1244, 121, 1245], [], [], [], [], [], [], [], [1987, 1988, 1989, 134, 1990], [], [], [], [], [], [], [], [], [], [], [], [], [], [], [1252, 1253, 121, 1254], [], [], [], [], [], [], [], [], [], [], [], [], [1995, 1996, 1997, 134, 1998], [], [], [], [], [], [], [], [], [], [], [], [], [], [], [], [], [], [], [], [1259, 1260, 121, 1261], [], [], [], [], [], [], [], [], [], [], [], [], [], [], [], [], [], [2011, 2012, 2013, 134, 2014], [], [], [], [], [], [], [], [], [], [], [], [], [], [], [], [], [], [], [], [], [], [], [], [], [1287, 1288, 121, 1289], [], [], [], [], [], [], [], [], [], [], [], [], [], [], [], [], [], [], [], [], [], [], [2023, 2024, 2025, 134, 2026], [], [], [], [], [], [], [], [], [], [], [], [], [], [], [], [], [], [], [], [1295, 1296, 121, 1297], [], [], [], [], [], [], [], [], [], [], [], [], [], [], [], [], [], [2027, 2028, 2029, 134, 2030], []]
def am_mL_3 : amP := [(1363, .goto 893, 2256, 0), (1366, .aload_n 1, 0, 0), (1367, .aload_n 0, 0, 0), (1368, .iload 4, 0, 0), (1370, .iconst 1, 0, 0), (1371, .iadd, 0, 0), (1372, .iaload, 0, 0), (1373, .aload_n 0, 0, 0), (1374, .iload 4, 0, 0), (1376, .iconst 2, 0, 0), (1377, .iadd, 0, 0), (1378, .iaload, 0, 0),
  (1379, .aload_n 0, 0, 0), (1380, .iload 4, 0, 0), (1382, .iconst 3, 0, 0), (1383, .iadd, 0, 0), (1384, .iaload, 0, 0), (1385, .aload_n 3, 0, 0), (1386, .invokestatic 251, 369, 4), (1389, .istore 5, 0, 0), (1391, .aload_n 2, 0, 0), (1392, .aload_n 0, 0, 0), (1393, .iload 4, 0, 0), (1395, .iconst 1, 0, 0),
  (1396, .iadd, 0, 0), (1397, .iaload, 0, 0), (1398, .aload_n 0, 0, 0), (1399, .iload 4, 0, 0), (1401, .iconst 2, 0, 0), (1402, .iadd, 0, 0), (1403, .iaload, 0, 0), (1404, .aload_n 0, 0, 0), (1405, .iload 4, 0, 0), (1407, .iconst 3, 0, 0), (1408, .iadd, 0, 0), (1409, .iaload, 0, 0),
  (1410, .invokevirtual 253, 301, 0), (1413, .istore 6, 0, 0), (1415, .goto 841, 2256, 0), (1418, .aload_n 1, 0, 0), (1419, .aload_n 0, 0, 0), (1420, .iload 4, 0, 0), (1422, .iconst 1, 0, 0), (1423, .iadd, 0, 0), (1424, .iaload, 0, 0), (1425, .invokevirtual 254, 145, 0), (1428, .pop, 0, 0), (1429, .aload_n 2, 0, 0),
  (1430, .aload_n 0, 0, 0), (1431, .iload 4, 0, 0), (1433, .iconst 1, 0, 0), (1434, .iadd, 0, 0), (1435, .iaload, 0, 0), (1436, .invokevirtual 257, 302, 0), (1439, .pop, 0, 0), (1440, .goto 816, 2256, 0), (1443, .aload_n 1, 0, 0), (1444, .aload_n 0, 0, 0), (1445, .iload 4, 0, 0), (1447, .iconst 1, 0, 0),
  (1448, .iadd, 0, 0), (1449, .iaload, 0, 0), (1450, .invokevirtual 258, 146, 0), (1453, .pop, 0, 0), (1454, .aload_n 2, 0, 0), (1455, .aload_n 0, 0, 0), (1456, .iload 4, 0, 0), (1458, .iconst 1, 0, 0), (1459, .iadd, 0, 0), (1460, .iaload, 0, 0), (1461, .invokevirtual 261, 303, 0), (1464, .pop, 0, 0),
  (1465, .goto 791, 2256, 0), (1468, .aload_n 1, 0, 0), (1469, .aload_n 0, 0, 0), (1470, .iload 4, 0, 0), (1472, .iconst 1, 0, 0), (1473, .iadd, 0, 0), (1474, .iaload, 0, 0), (1475, .aload_n 0, 0, 0), (1476, .iload 4, 0, 0), (1478, .iconst 2, 0, 0), (1479, .iadd, 0, 0), (1480, .iaload, 0, 0),
  (1481, .aload_n 3, 0, 0), (1482, .invokestatic 262, 370, 4), (1485, .istore 5, 0, 0), (1487, .aload_n 2, 0, 0), (1488, .aload_n 0, 0, 0), (1489, .iload 4, 0, 0), (1491, .iconst 1, 0, 0), (1492, .iadd, 0, 0), (1493, .iaload, 0, 0), (1494, .aload_n 0, 0, 0), (1495, .iload 4, 0, 0), (1497, .iconst 2, 0, 0),
  (1498, .iadd, 0, 0), (1499, .iaload, 0, 0), (1500, .invokevirtual 264, 304, 0), (1503, .lstore 6, 0, 0), (1505, .goto 751, 2256, 0), (1508, .aload_n 1, 0, 0), (1509, .invokevirtual 265, 148, 0), (1512, .pop, 0, 0), (1513, .aload_n 2, 0, 0), (1514, .invokevirtual 268, 306, 0), (1517, .pop, 0, 0), (1518, .goto 738, 2256, 0),
  (1521, .aload_n 1, 0, 0), (1522, .invokevirtual 269, 149, 0), (1525, .pop, 0, 0), (1526, .aload_n 2, 0, 0), (1527, .invokevirtual 272, 308, 0), (1530, .pop, 0, 0), (1531, .goto 725, 2256, 0), (1534, .aload_n 1, 0, 0), (1535, .aload_n 0, 0, 0), (1536, .iload 4, 0, 0), (1538, .iconst 1, 0, 0), (1539, .iadd, 0, 0),
  (1540, .iaload, 0, 0), (1541, .aload_n 0, 0, 0), (1542, .iload 4, 0, 0), (1544, .iconst 2, 0, 0), (1545, .iadd, 0, 0), (1546, .iaload, 0, 0), (1547, .aload_n 0, 0, 0), (1548, .iload 4, 0, 0), (1550, .iconst 3, 0, 0), (1551, .iadd, 0, 0), (1552, .iaload, 0, 0), (1553, .aload_n 3, 0, 0),
  (1554, .invokestatic 273, 371, 4), (1557, .istore 5, 0, 0), (1559, .aload_n 2, 0, 0), (1560, .aload_n 0, 0, 0), (1561, .iload 4, 0, 0), (1563, .iconst 1, 0, 0), (1564, .iadd, 0, 0), (1565, .iaload, 0, 0), (1566, .aload_n 0, 0, 0), (1567, .iload 4, 0, 0), (1569, .iconst 2, 0, 0), (1570, .iadd, 0, 0),
  (1571, .iaload, 0, 0), (1572, .aload_n 0, 0, 0), (1573, .iload 4, 0, 0), (1575, .iconst 3, 0, 0), (1576, .iadd, 0, 0), (1577, .iaload, 0, 0), (1578, .invokevirtual 275, 314, 0), (1581, .istore 6, 0, 0), (1583, .goto 673, 2256, 0), (1586, .aload_n 1, 0, 0), (1587, .aload_n 0, 0, 0), (1588, .iload 4, 0, 0),
  (1590, .iconst 1, 0, 0), (1591, .iadd, 0, 0), (1592, .iaload, 0, 0), (1593, .aload_n 0, 0, 0), (1594, .iload 4, 0, 0), (1596, .iconst 2, 0, 0), (1597, .iadd, 0, 0), (1598, .iaload, 0, 0), (1599, .aload_n 0, 0, 0), (1600, .iload 4, 0, 0), (1602, .iconst 3, 0, 0), (1603, .iadd, 0, 0),
  (1604, .iaload, 0, 0), (1605, .aload_n 3, 0, 0), (1606, .invokestatic 276, 372, 4), (1609, .istore 5, 0, 0), (1611, .aload_n 2, 0, 0), (1612, .aload_n 0, 0, 0), (1613, .iload 4, 0, 0), (1615, .iconst 1, 0, 0), (1616, .iadd, 0, 0), (1617, .iaload, 0, 0), (1618, .aload_n 0, 0, 0), (1619, .iload 4, 0, 0),
  (1621, .iconst 2, 0, 0), (1622, .iadd, 0, 0), (1623, .iaload, 0, 0), (1624, .aload_n 0, 0, 0), (1625, .iload 4, 0, 0), (1627, .iconst 3, 0, 0), (1628, .iadd, 0, 0), (1629, .iaload, 0, 0), (1630, .invokevirtual 278, 315, 0), (1633, .istore 6, 0, 0), (1635, .goto 621, 2256, 0), (1638, .aload_n 1, 0, 0),
  (1639, .aload_n 0, 0, 0), (1640, .iload 4, 0, 0), (1642, .iconst 1, 0, 0), (1643, .iadd, 0, 0), (1644, .iaload, 0, 0), (1645, .aload_n 0, 0, 0), (1646, .iload 4, 0, 0), (1648, .iconst 2, 0, 0), (1649, .iadd, 0, 0), (1650, .iaload, 0, 0), (1651, .aload_n 0, 0, 0), (1652, .iload 4, 0, 0),
  (1654, .iconst 3, 0, 0), (1655, .iadd, 0, 0), (1656, .iaload, 0, 0), (1657, .aload_n 3, 0, 0), (1658, .invokestatic 279, 373, 4), (1661, .istore 5, 0, 0), (1663, .aload_n 2, 0, 0), (1664, .aload_n 0, 0, 0), (1665, .iload 4, 0, 0), (1667, .iconst 1, 0, 0), (1668, .iadd, 0, 0), (1669, .iaload, 0, 0),
  (1670, .aload_n 0, 0, 0), (1671, .iload 4, 0, 0), (1673, .iconst 2, 0, 0), (1674, .iadd, 0, 0), (1675, .iaload, 0, 0), (1676, .aload_n 0, 0, 0), (1677, .iload 4, 0, 0), (1679, .iconst 3, 0, 0), (1680, .iadd, 0, 0), (1681, .iaload, 0, 0), (1682, .invokevirtual 281, 316, 0), (1685, .istore 6, 0, 0),
  (1687, .goto 569, 2256, 0), (1690, .aload_n 1, 0, 0), (1691, .aload_n 0, 0, 0), (1692, .iload 4, 0, 0), (1694, .iconst 1, 0, 0), (1695, .iadd, 0, 0), (1696, .iaload, 0, 0), (1697, .aload_n 0, 0, 0), (1698, .iload 4, 0, 0), (1700, .iconst 2, 0, 0), (1701, .iadd, 0, 0), (1702, .iaload, 0, 0),
  (1703, .aload_n 0, 0, 0), (1704, .iload 4, 0, 0), (1706, .iconst 3, 0, 0), (1707, .iadd, 0, 0), (1708, .iaload, 0, 0), (1709, .aload_n 3, 0, 0), (1710, .invokestatic 282, 374, 4), (1713, .istore 5, 0, 0), (1715, .aload_n 2, 0, 0), (1716, .aload_n 0, 0, 0)]
def am_hL_3 : List (List Nat) := [[], [], [], [], [], [], [], [], [], [], [], [], [], [], [], [], [], [], [1310, 1311, 121, 1312], [], [], [], [], [], [], [], [], [], [], [], [], [], [], [], [], [], [2035, 2036, 2037, 134, 2038], [], [], [], [], [], [], [], [], [785, 786, 787, 122, 788], [], [], [], [], [], [], [], [2039, 2040, 2041, 134, 2042], [], [], [], [], [], [], [], [], [820, 821, 822, 122, 823], [], [], [], [], [], [], [], [2043, 2044, 2045, 134, 2046], [], [], [], [], [], [], [], [], [], [], [], [], [], [], [1317, 1318, 121, 1319], [], [], [], [], [], [], [], [], [], [], [], [], [2059, 2060, 2061, 134, 2062], [], [], [], [846, 847, 848, 122, 849], [], [], [2063, 2064, 2065, 134, 2066], [], [], [], [856, 857, 858, 122, 859], [], [], [2071, 2072, 2073, 134, 2074], [], [], [], [], [], [], [], [], [], [], [], [], [], [], [], [], [], [], [], [1325, 1326, 121, 1327], [], [], [], [], [], [], [], [], [], [], [], [], [], [], [], [], [], [2079, 2080, 2081, 134, 2082], [], [], [], [], [], [], [], [], [], [], [], [], [], [], [], [], [], [], [], [1349, 1350, 121, 1351], [], [], [], [], [], [], [], [], [], [], [], [], [], [], [], [], [], [2096, 2097, 2098, 134, 2099], [], [], [], [], [], [], [], [], [], [], [], [], [], [], [], [], [], [], [], [1375, 1376, 121, 1377], [], [], [], [], [], [], [], [], [], [], [], [], [], [], [], [], [], [2104, 2105, 2106, 134, 2107], [], [], [], [], [], [], [], [], [], [], [], [], [], [], [], [], [], [], [], [1402, 1403, 121, 1404], [], [], []]
def am_mL_4 : amP := [(1717, .iload 4, 0, 0), (1719, .iconst 1, 0, 0), (1720, .iadd, 0, 0), (1721, .iaload, 0, 0), (1722, .aload_n 0, 0, 0), (1723, .iload 4, 0, 0), (1725, .iconst 2, 0, 0), (1726, .iadd, 0, 0), (1727, .iaload, 0, 0), (1728, .aload_n 0, 0, 0), (1729, .iload 4, 0, 0), (1731, .iconst 3, 0, 0),
  (1732, .iadd, 0, 0), (1733, .iaload, 0, 0), (1734, .invokevirtual 284, 317, 0), (1737, .istore 6, 0, 0), (1739, .goto 517, 2256, 0), (1742, .aload_n 1, 0, 0), (1743, .aload_n 0, 0, 0), (1744, .iload 4, 0, 0), (1746, .iconst 1, 0, 0), (1747, .iadd, 0, 0), (1748, .iaload, 0, 0), (1749, .aload_n 3, 0, 0),
  (1750, .invokestatic 285, 375, 4), (1753, .istore 5, 0, 0), (1755, .aload_n 2, 0, 0), (1756, .aload_n 0, 0, 0), (1757, .iload 4, 0, 0), (1759, .iconst 1, 0, 0), (1760, .iadd, 0, 0), (1761, .iaload, 0, 0), (1762, .invokevirtual 287, 318, 0), (1765, .istore 6, 0, 0), (1767, .goto 489, 2256, 0), (1770, .aload_n 1, 0, 0),
  (1771, .aload_n 3, 0, 0), (1772, .invokestatic 288, 376, 4), (1775, .istore 5, 0, 0), (1777, .aload_n 2, 0, 0), (1778, .invokevirtual 291, 320, 0), (1781, .istore 6, 0, 0), (1783, .goto 473, 2256, 0), (1786, .aload_n 1, 0, 0), (1787, .aload_n 0, 0, 0), (1788, .iload 4, 0, 0), (1790, .iconst 1, 0, 0), (1791, .iadd, 0, 0),
  (1792, .iaload, 0, 0), (1793, .invokevirtual 292, 156, 0), (1796, .pop, 0, 0), (1797, .aload_n 2, 0, 0), (1798, .aload_n 0, 0, 0), (1799, .iload 4, 0, 0), (1801, .iconst 1, 0, 0), (1802, .iadd, 0, 0), (1803, .iaload, 0, 0), (1804, .invokevirtual 295, 321, 0), (1807, .pop, 0, 0), (1808, .goto 448, 2256, 0),
  (1811, .aload_n 1, 0, 0), (1812, .invokevirtual 296, 157, 0), (1815, .pop, 0, 0), (1816, .aload_n 2, 0, 0), (1817, .invokevirtual 299, 322, 0), (1820, .pop, 0, 0), (1821, .goto 435, 2256, 0), (1824, .aload_n 1, 0, 0), (1825, .invokevirtual 300, 158, 0), (1828, .pop, 0, 0), (1829, .aload_n 2, 0, 0), (1830, .invokevirtual 303, 323, 0),
  (1833, .pop, 0, 0), (1834, .goto 422, 2256, 0), (1837, .aload_n 1, 0, 0), (1838, .aload_n 0, 0, 0), (1839, .iload 4, 0, 0), (1841, .iconst 1, 0, 0), (1842, .iadd, 0, 0), (1843, .iaload, 0, 0), (1844, .invokevirtual 304, 159, 0), (1847, .pop, 0, 0), (1848, .aload_n 2, 0, 0), (1849, .aload_n 0, 0, 0),
  (1850, .iload 4, 0, 0), (1852, .iconst 1, 0, 0), (1853, .iadd, 0, 0), (1854, .iaload, 0, 0), (1855, .invokevirtual 307, 281, 0), (1858, .pop, 0, 0), (1859, .goto 397, 2256, 0), (1862, .aload_n 1, 0, 0), (1863, .invokevirtual 308, 160, 0), (1866, .dstore 5, 0, 0), (1868, .aload_n 2, 0, 0), (1869, .invokevirtual 312, 296, 0),
  (1872, .dstore 7, 0, 0), (1874, .goto 382, 2256, 0), (1877, .aload_n 1, 0, 0), (1878, .invokevirtual 313, 161, 0), (1881, .f2d, 0, 0), (1882, .dstore 5, 0, 0), (1884, .aload_n 2, 0, 0), (1885, .invokevirtual 317, 325, 0), (1888, .f2d, 0, 0), (1889, .dstore 7, 0, 0), (1891, .goto 365, 2256, 0), (1894, .aload_n 1, 0, 0),
  (1895, .aload_n 0, 0, 0), (1896, .iload 4, 0, 0), (1898, .iconst 1, 0, 0), (1899, .iadd, 0, 0), (1900, .iaload, 0, 0), (1901, .aload_n 3, 0, 0), (1902, .invokestatic 318, 377, 4), (1905, .istore 5, 0, 0), (1907, .aload_n 2, 0, 0), (1908, .aload_n 0, 0, 0), (1909, .iload 4, 0, 0), (1911, .iconst 1, 0, 0),
  (1912, .iadd, 0, 0), (1913, .iaload, 0, 0), (1914, .invokevirtual 320, 327, 0), (1917, .istore 6, 0, 0), (1919, .goto 337, 2256, 0), (1922, .aload_n 1, 0, 0), (1923, .invokevirtual 321, 163, 0), (1926, .pop, 0, 0), (1927, .aload_n 2, 0, 0), (1928, .invokevirtual 324, 329, 0), (1931, .pop, 0, 0), (1932, .goto 324, 2256, 0),
  (1935, .aload_n 1, 0, 0), (1936, .invokevirtual 325, 164, 0), (1939, .pop, 0, 0), (1940, .aload_n 2, 0, 0), (1941, .invokevirtual 328, 331, 0), (1944, .pop, 0, 0), (1945, .goto 311, 2256, 0), (1948, .aload_n 1, 0, 0), (1949, .aload_n 0, 0, 0), (1950, .iload 4, 0, 0), (1952, .iconst 1, 0, 0), (1953, .iadd, 0, 0),
  (1954, .iaload, 0, 0), (1955, .aload_n 3, 0, 0), (1956, .invokestatic 329, 378, 4), (1959, .istore 5, 0, 0), (1961, .aload_n 2, 0, 0), (1962, .aload_n 0, 0, 0), (1963, .iload 4, 0, 0), (1965, .iconst 1, 0, 0), (1966, .iadd, 0, 0), (1967, .iaload, 0, 0), (1968, .invokevirtual 331, 332, 0), (1971, .istore 6, 0, 0),
  (1973, .goto 283, 2256, 0), (1976, .aload_n 1, 0, 0), (1977, .invokevirtual 332, 166, 0), (1980, .pop, 0, 0), (1981, .aload_n 2, 0, 0), (1982, .invokevirtual 335, 334, 0), (1985, .pop, 0, 0), (1986, .goto 270, 2256, 0), (1989, .aload_n 1, 0, 0), (1990, .aload_n 0, 0, 0), (1991, .iload 4, 0, 0), (1993, .iconst 1, 0, 0),
  (1994, .iadd, 0, 0), (1995, .iaload, 0, 0), (1996, .aload_n 0, 0, 0), (1997, .iload 4, 0, 0), (1999, .iconst 2, 0, 0), (2000, .iadd, 0, 0), (2001, .iaload, 0, 0), (2002, .aload_n 3, 0, 0), (2003, .invokestatic 336, 379, 4), (2006, .istore 5, 0, 0), (2008, .aload_n 2, 0, 0), (2009, .aload_n 0, 0, 0),
  (2010, .iload 4, 0, 0), (2012, .iconst 1, 0, 0), (2013, .iadd, 0, 0), (2014, .iaload, 0, 0), (2015, .aload_n 0, 0, 0), (2016, .iload 4, 0, 0), (2018, .iconst 2, 0, 0), (2019, .iadd, 0, 0), (2020, .iaload, 0, 0), (2021, .invokevirtual 338, 279, 0), (2024, .istore 6, 0, 0), (2026, .goto 230, 2256, 0),
  (2029, .aload_n 1, 0, 0), (2030, .aload_n 0, 0, 0), (2031, .iload 4, 0, 0), (2033, .iconst 1, 0, 0), (2034, .iadd, 0, 0), (2035, .iaload, 0, 0), (2036, .aload_n 3, 0, 0), (2037, .invokestatic 339, 380, 4), (2040, .istore 5, 0, 0), (2042, .aload_n 2, 0, 0), (2043, .aload_n 0, 0, 0), (2044, .iload 4, 0, 0),
  (2046, .iconst 1, 0, 0), (2047, .iadd, 0, 0), (2048, .iaload, 0, 0), (2049, .invokevirtual 341, 278, 0), (2052, .istore 6, 0, 0), (2054, .goto 202, 2256, 0), (2057, .aload_n 1, 0, 0), (2058, .aload_n 0, 0, 0), (2059, .iload 4, 0, 0), (2061, .iconst 1, 0, 0), (2062, .iadd, 0, 0), (2063, .iaload, 0, 0),
  (2064, .aload_n 0, 0, 0), (2065, .iload 4, 0, 0), (2067, .iconst 2, 0, 0), (2068, .iadd, 0, 0), (2069, .iaload, 0, 0), (2070, .aload_n 0, 0, 0), (2071, .iload 4, 0, 0), (2073, .iconst 3, 0, 0), (2074, .iadd, 0, 0), (2075, .iaload, 0, 0), (2076, .aload_n 3, 0, 0), (2077, .invokestatic 342, 381, 4),
  (2080, .istore 5, 0, 0), (2082, .aload_n 2, 0, 0), (2083, .aload_n 0, 0, 0), (2084, .iload 4, 0, 0), (2086, .iconst 1, 0, 0), (2087, .iadd, 0, 0), (2088, .iaload, 0, 0), (2089, .aload_n 0, 0, 0), (2090, .iload 4, 0, 0), (2092, .iconst 2, 0, 0), (2093, .iadd, 0, 0), (2094, .iaload, 0, 0),
  (2095, .aload_n 0, 0, 0), (2096, .iload 4, 0, 0), (2098, .iconst 3, 0, 0), (2099, .iadd, 0, 0), (2100, .iaload, 0, 0), (2101, .invokevirtual 344, 271, 0), (2104, .istore 6, 0, 0), (2106, .goto 150, 2256, 0), (2109, .aload_n 1, 0, 0), (2110, .aload_n 0, 0, 0)]
def am_hL_4 : List (List Nat) := [[], [], [], [], [], [], [], [], [], [], [], [], [], [], [2112, 2113, 2114, 134, 2115], [], [], [], [], [], [], [], [], [], [1410, 1411, 121, 1412], [], [], [], [], [], [], [], [2116, 2117, 2118, 134, 2119], [], [], [], [], [1422, 1423, 121, 1424], [], [], [2120, 2121, 2122, 134, 2123], [], [], [], [], [], [], [], [], [865, 866, 867, 122, 868], [], [], [], [], [], [], [], [2128, 2129, 2130, 134, 2131], [], [], [], [881, 882, 883, 122, 884], [], [], [2136, 2137, 2138, 134, 2139], [], [], [], [890, 891, 892, 122, 893], [], [], [2144, 2145, 2146, 134, 2147], [], [], [], [], [], [], [], [], [899, 900, 901, 122, 902], [], [], [], [], [], [], [], [1899, 1900, 1901, 134, 1902], [], [], [], [906, 907, 908, 122, 909], [], [], [1991, 1992, 1993, 134, 1994], [], [], [], [910, 911, 912, 122, 913], [], [], [], [2152, 2153, 2154, 134, 2155], [], [], [], [], [], [], [], [], [], [], [1437, 1438, 121, 1439], [], [], [], [], [], [], [], [2156, 2157, 2158, 134, 2159], [], [], [], [918, 919, 920, 122, 921], [], [], [2164, 2165, 2166, 134, 2167], [], [], [], [928, 929, 930, 122, 931], [], [], [2172, 2173, 2174, 134, 2175], [], [], [], [], [], [], [], [], [], [1450, 1451, 121, 1452], [], [], [], [], [], [], [], [2180, 2181, 2182, 134, 2183], [], [], [], [936, 937, 938, 122, 939], [], [], [2184, 2185, 2186, 134, 2187], [], [], [], [], [], [], [], [], [], [], [], [], [], [], [1457, 1458, 121, 1459], [], [], [], [], [], [], [], [], [], [], [], [], [1892, 1893, 1894, 134, 1895], [], [], [], [], [], [], [], [], [], [1468, 1469, 121, 1470], [], [], [], [], [], [], [], [1888, 1889, 1890, 134, 1891], [], [], [], [], [], [], [], [], [], [], [], [], [], [], [], [], [], [], [], [1480, 1481, 121, 1482], [], [], [], [], [], [], [], [], [], [], [], [], [], [], [], [], [], [1844, 1845, 1846, 134, 1847], [], [], [], []]
def am_mL_5 : amP := [(2111, .iload 4, 0, 0), (2113, .iconst 1, 0, 0), (2114, .iadd, 0, 0), (2115, .iaload, 0, 0), (2116, .aload_n 0, 0, 0), (2117, .iload 4, 0, 0), (2119, .iconst 2, 0, 0), (2120, .iadd, 0, 0), (2121, .iaload, 0, 0), (2122, .aload_n 0, 0, 0), (2123, .iload 4, 0, 0), (2125, .iconst 3, 0, 0),
  (2126, .iadd, 0, 0), (2127, .iaload, 0, 0), (2128, .aload_n 3, 0, 0), (2129, .invokestatic 345, 382, 4), (2132, .istore 5, 0, 0), (2134, .aload_n 2, 0, 0), (2135, .aload_n 0, 0, 0), (2136, .iload 4, 0, 0), (2138, .iconst 1, 0, 0), (2139, .iadd, 0, 0), (2140, .iaload, 0, 0), (2141, .aload_n 0, 0, 0),
  (2142, .iload 4, 0, 0), (2144, .iconst 2, 0, 0), (2145, .iadd, 0, 0), (2146, .iaload, 0, 0), (2147, .aload_n 0, 0, 0), (2148, .iload 4, 0, 0), (2150, .iconst 3, 0, 0), (2151, .iadd, 0, 0), (2152, .iaload, 0, 0), (2153, .invokevirtual 347, 276, 0), (2156, .istore 6, 0, 0), (2158, .goto 98, 2256, 0),
  (2161, .aload_n 1, 0, 0), (2162, .aload_n 0, 0, 0), (2163, .iload 4, 0, 0), (2165, .iconst 1, 0, 0), (2166, .iadd, 0, 0), (2167, .iaload, 0, 0), (2168, .aload_n 3, 0, 0), (2169, .invokestatic 348, 383, 4), (2172, .istore 5, 0, 0), (2174, .aload_n 2, 0, 0), (2175, .aload_n 0, 0, 0), (2176, .iload 4, 0, 0),
  (2178, .iconst 1, 0, 0), (2179, .iadd, 0, 0), (2180, .iaload, 0, 0), (2181, .invokevirtual 350, 337, 0), (2184, .istore 6, 0, 0), (2186, .goto 70, 2256, 0), (2189, .aload_n 1, 0, 0), (2190, .aload_n 0, 0, 0), (2191, .iload 4, 0, 0), (2193, .iconst 1, 0, 0), (2194, .iadd, 0, 0), (2195, .iaload, 0, 0),
  (2196, .invokevirtual 351, 172, 0), (2199, .pop, 0, 0), (2200, .aload_n 2, 0, 0), (2201, .aload_n 0, 0, 0), (2202, .iload 4, 0, 0), (2204, .iconst 1, 0, 0), (2205, .iadd, 0, 0), (2206, .iaload, 0, 0), (2207, .invokevirtual 354, 338, 0), (2210, .pop, 0, 0), (2211, .goto 45, 2256, 0), (2214, .aload_n 1, 0, 0),
  (2215, .invokevirtual 355, 173, 0), (2218, .pop, 0, 0), (2219, .aload_n 2, 0, 0), (2220, .invokevirtual 358, 339, 0), (2223, .pop, 0, 0), (2224, .goto 32, 2256, 0), (2227, .aload_n 1, 0, 0), (2228, .invokevirtual 359, 174, 0), (2231, .pop, 0, 0), (2232, .aload_n 2, 0, 0), (2233, .invokevirtual 362, 340, 0), (2236, .pop, 0, 0),
  (2237, .goto 19, 2256, 0), (2240, .aload_n 1, 0, 0), (2241, .aload_n 3, 0, 0), (2242, .invokestatic 363, 384, 4), (2245, .istore 5, 0, 0), (2247, .aload_n 2, 0, 0), (2248, .invokevirtual 365, 341, 0), (2251, .istore 6, 0, 0), (2253, .goto 3, 2256, 0), (2256, .iinc 4 6, 0, 0), (2259, .goto (-2236), 23, 0), (2262, .iconst 1, 0, 0),
  (2263, .ireturn, 0, 0)]
def am_hL_5 : List (List Nat) := [[], [], [], [], [], [], [], [], [], [], [], [], [], [], [], [1487, 1488, 121, 1489], [], [], [], [], [], [], [], [], [], [], [], [], [], [], [], [], [], [1880, 1881, 1882, 134, 1883], [], [], [], [], [], [], [], [], [], [1495, 1496, 121, 1497], [], [], [], [], [], [], [], [2192, 2193, 2194, 134, 2195], [], [], [], [], [], [], [], [], [944, 945, 946, 122, 947], [], [], [], [], [], [], [], [2204, 2205, 2206, 134, 2207], [], [], [], [948, 949, 950, 122, 951], [], [], [2208, 2209, 2210, 134, 2211], [], [], [], [962, 963, 964, 122, 965], [], [], [2212, 2213, 2214, 134, 2215], [], [], [], [], [1510, 1511, 121, 1512], [], [], [2216, 2217, 2218, 134, 2219], [], [], [], [], [], []]
def am_mL : amM := (am_mL_0 ++ (am_mL_1 ++ (am_mL_2 ++ (am_mL_3 ++ (am_mL_4 ++ (am_mL_5))))), 9, 2, false, (some .boolean), [], 99)
def am_nL : amN := (yL_law, cL_law, [])
def am_hL : List (List Nat) := am_hL_0 ++ (am_hL_1 ++ (am_hL_2 ++ (am_hL_3 ++ (am_hL_4 ++ (am_hL_5)))))
def am_gL : List (Nat × Nat) := []
def amTT : List (List (amN × amM)) := [
  [(am_n0, am_m0), (am_n1, am_m1), (am_n2, am_m2), (am_n3, am_m3), (am_n4, am_m4), (am_n5, am_m5), (am_n6, am_m6), (am_n7, am_m7), (am_n8, am_m8), (am_n9, am_m9), (am_n10, am_m10), (am_n11, am_m11), (am_n12, am_m12), (am_n13, am_m13), (am_n14, am_m14), (am_n15, am_m15)],
  [(am_n16, am_m16), (am_n17, am_m17), (am_n18, am_m18), (am_n19, am_m19), (am_n20, am_m20), (am_n21, am_m21), (am_n22, am_m22), (am_n23, am_m23), (am_n24, am_m24), (am_n25, am_m25), (am_n26, am_m26), (am_n27, am_m27), (am_n28, am_m28), (am_n29, am_m29), (am_n30, am_m30), (am_n31, am_m31)],
  [(am_n32, am_m32), (am_n33, am_m33), (am_n34, am_m34), (am_n35, am_m35), (am_n36, am_m36), (am_n37, am_m37), (am_n38, am_m38), (am_n39, am_m39), (am_n40, am_m40), (am_n41, am_m41), (am_n42, am_m42), (am_n43, am_m43), (am_n44, am_m44), (am_n45, am_m45), (am_n46, am_m46), (am_n47, am_m47)],
  [(am_n48, am_m48), (am_n49, am_m49), (am_n50, am_m50), (am_n51, am_m51), (am_n52, am_m52), (am_n53, am_m53), (am_n54, am_m54), (am_n55, am_m55), (am_n56, am_m56), (am_n57, am_m57), (am_n58, am_m58), (am_n59, am_m59), (am_n60, am_m60), (am_n61, am_m61), (am_n62, am_m62), (am_n63, am_m63)],
  [(am_n64, am_m64), (am_n65, am_m65), (am_n66, am_m66), (am_n67, am_m67), (am_n68, am_m68), (am_n69, am_m69), (am_n70, am_m70), (am_n71, am_m71), (am_n72, am_m72), (am_n73, am_m73), (am_n74, am_m74), (am_n75, am_m75), (am_n76, am_m76), (am_n77, am_m77), (am_n78, am_m78), (am_n79, am_m79)],
  [(am_n80, am_m80), (am_n81, am_m81), (am_n82, am_m82), (am_n83, am_m83), (am_n84, am_m84), (am_n85, am_m85), (am_n86, am_m86), (am_n87, am_m87), (am_n88, am_m88), (am_n89, am_m89), (am_n90, am_m90), (am_n91, am_m91), (am_n92, am_m92), (am_n93, am_m93), (am_n94, am_m94), (am_n95, am_m95)],
  [(am_n96, am_m96), (am_n97, am_m97), (am_n98, am_m98), (am_n99, am_m99), (am_n100, am_m100), (am_n101, am_m101), (am_n102, am_m102), (am_n103, am_m103), (am_n104, am_m104), (am_n105, am_m105), (am_n106, am_m106), (am_n107, am_m107), (am_n108, am_m108), (am_n109, am_m109), (am_n110, am_m110), (am_n111, am_m111)],
  [(am_n112, am_m112), (am_n113, am_m113), (am_n114, am_m114), (am_n115, am_m115), (am_n116, am_m116), (am_n117, am_m117), (am_n118, am_m118), (am_n119, am_m119), (am_n120, am_m120), (am_n121, am_m121), (am_n122, am_m122), (am_n123, am_m123), (am_n124, am_m124), (am_n125, am_m125), (am_n126, am_m126), (am_n127, am_m127)],
  [(am_n128, am_m128), (am_n129, am_m129), (am_n130, am_m130), (am_n131, am_m131), (am_n132, am_m132), (am_n133, am_m133), (am_n134, am_m134), (am_n135, am_m135), (am_n136, am_m136), (am_n137, am_m137), (am_n138, am_m138), (am_n139, am_m139), (am_n140, am_m140), (am_n141, am_m141), (am_n142, am_m142), (am_n143, am_m143)],
  [(am_n144, am_m144), (am_n145, am_m145), (am_n146, am_m146), (am_n147, am_m147), (am_n148, am_m148), (am_n149, am_m149), (am_n150, am_m150), (am_n151, am_m151), (am_n152, am_m152), (am_n153, am_m153), (am_n154, am_m154), (am_n155, am_m155), (am_n156, am_m156), (am_n157, am_m157), (am_n158, am_m158), (am_n159, am_m159)],
  [(am_n160, am_m160), (am_n161, am_m161), (am_n162, am_m162), (am_n163, am_m163), (am_n164, am_m164), (am_n165, am_m165), (am_n166, am_m166), (am_n167, am_m167), (am_n168, am_m168), (am_n169, am_m169), (am_n170, am_m170), (am_n171, am_m171), (am_n172, am_m172), (am_n173, am_m173), (am_n174, am_m174), (am_n175, am_m175)],
  [(am_n176, am_m176), (am_n177, am_m177), (am_n178, am_m178), (am_n179, am_m179), (am_n180, am_m180), (am_n181, am_m181), (am_n182, am_m182), (am_n183, am_m183), (am_n184, am_m184), (am_n185, am_m185), (am_n186, am_m186), (am_n187, am_m187), (am_n188, am_m188), (am_n189, am_m189), (am_n190, am_m190), (am_n191, am_m191)],
  [(am_n192, am_m192), (am_n193, am_m193), (am_n194, am_m194), (am_n0, am_m0), (am_n196, am_m196), (am_n197, am_m197), (am_n198, am_m198), (am_n199, am_m199), (am_n200, am_m200), (am_n201, am_m201), (am_n202, am_m202), (am_n203, am_m203), (am_n204, am_m204), (am_n205, am_m205), (am_n206, am_m206), (am_n207, am_m207)],
  [(am_n208, am_m208), (am_n209, am_m209), (am_n210, am_m210), (am_n211, am_m211), (am_n212, am_m212), (am_n213, am_m213), (am_n214, am_m214), (am_n215, am_m215), (am_n216, am_m216), (am_n217, am_m217), (am_n218, am_m218), (am_n219, am_m219), (am_n220, am_m220), (am_n221, am_m221), (am_n222, am_m222), (am_n223, am_m223)],
  [(am_n224, am_m224), (am_n225, am_m225), (am_n226, am_m226), (am_n227, am_m227), (am_n228, am_m228), (am_n229, am_m229), (am_n230, am_m230), (am_n231, am_m231), (am_n232, am_m232), (am_n233, am_m233), (am_n234, am_m234), (am_n235, am_m235), (am_n236, am_m236), (am_n237, am_m237), (am_n238, am_m238), (am_n239, am_m239)],
  [(am_n240, am_m240), (am_n241, am_m241), (am_n242, am_m242), (am_n243, am_m243), (am_n244, am_m244), (am_n245, am_m245), (am_n246, am_m246), (am_n247, am_m247), (am_n248, am_m248), (am_n249, am_m249), (am_n250, am_m250), (am_n251, am_m251), (am_n252, am_m252), (am_n253, am_m253), (am_n254, am_m254), (am_n255, am_m255)],
  [(am_n256, am_m256), (am_n257, am_m257), (am_n258, am_m258), (am_n259, am_m259), (am_n260, am_m260), (am_n261, am_m261), (am_n262, am_m262), (am_n263, am_m263), (am_n264, am_m264), (am_n265, am_m265), (am_n266, am_m266), (am_n267, am_m267), (am_n268, am_m268), (am_n269, am_m269), (am_n270, am_m270), (am_n271, am_m271)],
  [(am_n272, am_m272), (am_n273, am_m273), (am_n274, am_m274), (am_n275, am_m275), (am_n276, am_m276), (am_n277, am_m277), (am_n278, am_m278), (am_n279, am_m279), (am_n280, am_m280), (am_n281, am_m281), (am_n282, am_m282), (am_n283, am_m283), (am_n284, am_m284), (am_n285, am_m285), (am_n286, am_m286), (am_n287, am_m287)],
  [(am_n288, am_m288), (am_n289, am_m289), (am_n290, am_m290), (am_n291, am_m291), (am_n292, am_m292), (am_n293, am_m293), (am_n294, am_m294), (am_n295, am_m295), (am_n296, am_m296), (am_n297, am_m297), (am_n298, am_m298), (am_n299, am_m299), (am_n300, am_m300), (am_n301, am_m301), (am_n302, am_m302), (am_n303, am_m303)],
  [(am_n304, am_m304), (am_n305, am_m305), (am_n306, am_m306), (am_n307, am_m307), (am_n308, am_m308), (am_n309, am_m309), (am_n310, am_m310), (am_n311, am_m311), (am_n312, am_m312), (am_n313, am_m313), (am_n314, am_m314), (am_n315, am_m315), (am_n316, am_m316), (am_n317, am_m317), (am_n318, am_m318), (am_n319, am_m319)],
  [(am_n320, am_m320), (am_n321, am_m321), (am_n322, am_m322), (am_n323, am_m323), (am_n324, am_m324), (am_n325, am_m325), (am_n326, am_m326), (am_n327, am_m327), (am_n328, am_m328), (am_n329, am_m329), (am_n330, am_m330), (am_n331, am_m331), (am_n332, am_m332), (am_n333, am_m333), (am_n334, am_m334), (am_n335, am_m335)],
  [(am_n336, am_m336), (am_n337, am_m337), (am_n338, am_m338), (am_n339, am_m339), (am_n340, am_m340), (am_n341, am_m341), (am_n342, am_m342), (am_n343, am_m343), (am_n344, am_m344), (am_n345, am_m345), (am_n346, am_m346), (am_n347, am_m347), (am_n348, am_m348), (am_n349, am_m349), (am_n350, am_m350), (am_n351, am_m351)],
  [(am_n352, am_m352), (am_n353, am_m353), (am_n354, am_m354), (am_n355, am_m355), (am_n356, am_m356), (am_n357, am_m357), (am_n358, am_m358), (am_n359, am_m359), (am_n360, am_m360), (am_n361, am_m361), (am_n362, am_m362), (am_n363, am_m363), (am_n364, am_m364), (am_n365, am_m365), (am_n366, am_m366), (am_n367, am_m367)],
  [(am_n368, am_m368), (am_n369, am_m369), (am_n370, am_m370), (am_n371, am_m371), (am_n372, am_m372), (am_n373, am_m373), (am_n374, am_m374), (am_n375, am_m375), (am_n376, am_m376), (am_n377, am_m377), (am_n378, am_m378), (am_n379, am_m379), (am_n380, am_m380), (am_n381, am_m381), (am_n382, am_m382), (am_n383, am_m383)],
  [(am_n384, am_m384)]]
def amGx (k : Nat) : Option (amN × amM) := match amTT[k / 16]? with
  | some row => row[k % 16]?
  | none => none
def amGG (k : Nat) : Option amM := (amGx k).map (fun q => q.2)
def amXX (k : Nat) : Option amN := (amGx k).map (fun q => q.1)
