/-! ===== bits ===== -/
def ush (x y : Int32) : Int32 := (x.toUInt32 >>> (y.toUInt32 &&& Int32.toUInt32 31)).toInt32
def bc1 (x : Int32) : Int32 := x - (ush x 1 &&& Int32.ofNat 1431655765)
def bc2 (x : Int32) : Int32 := (x &&& Int32.ofNat 858993459) + (ush x 2 &&& Int32.ofNat 858993459)
def bc3 (x : Int32) : Int32 := (x + ush x 4) &&& Int32.ofNat 252645135
def bc4 (x : Int32) : Int32 := x + ush x 8
def bc5 (x : Int32) : Int32 := x + ush x 16
def bcF (x : Int32) : Int32 := bc5 (bc4 (bc3 (bc2 (bc1 x)))) &&& 63
theorem p343r : am_m343.2.2.2.2.1 = some .int := rfl
theorem p343b : am_m343.2.1 = 1 := rfl
theorem s343_0 : am_m343.1 = (0, .iload_n 0, 0, 0) :: (1, .iload_n 0, 0, 0) :: (2, .iconst 1, 0, 0) :: (3, .iushr, 0, 0) :: (4, .ldc_w 265, 1431655765, 0) :: (7, .iand, 0, 0) :: (8, .isub, 0, 0) :: (9, .istore_n 0, 0, 0) :: amSeek am_m343.1 10 := rfl
theorem s343_10 : amSeek am_m343.1 10 = (10, .iload_n 0, 0, 0) :: (11, .ldc_w 266, 858993459, 0) :: (14, .iand, 0, 0) :: (15, .iload_n 0, 0, 0) ::
  (16, .iconst 2, 0, 0) :: (17, .iushr, 0, 0) :: (18, .ldc_w 266, 858993459, 0) :: (21, .iand, 0, 0) :: (22, .iadd, 0, 0) :: (23, .istore_n 0, 0, 0) :: amSeek am_m343.1 24 := rfl
theorem s343_24 : amSeek am_m343.1 24 = (24, .iload_n 0, 0, 0) :: (25, .iload_n 0, 0, 0) :: (26, .iconst 4, 0, 0) :: (27, .iushr, 0, 0) :: (28, .iadd, 0, 0) :: (29, .ldc_w 267, 252645135, 0) ::
  (32, .iand, 0, 0) :: (33, .istore_n 0, 0, 0) :: amSeek am_m343.1 34 := rfl
theorem s343_34 : amSeek am_m343.1 34 = (34, .iload_n 0, 0, 0) :: (35, .iload_n 0, 0, 0) :: (36, .bipush 8, 0, 0) :: (38, .iushr, 0, 0) :: (39, .iadd, 0, 0) :: (40, .istore_n 0, 0, 0) :: amSeek am_m343.1 41 := rfl
theorem s343_41 : amSeek am_m343.1 41 = (41, .iload_n 0, 0, 0) :: (42, .iload_n 0, 0, 0) :: (43, .bipush 16, 0, 0) :: (45, .iushr, 0, 0) ::
  (46, .iadd, 0, 0) :: (47, .istore_n 0, 0, 0) :: amSeek am_m343.1 48 := rfl
theorem s343_48 : amSeek am_m343.1 48 = [(48, .iload_n 0, 0, 0), (49, .bipush 63, 0, 0), (51, .iand, 0, 0), (52, .ireturn, 0, 0)] := rfl
section W343
variable {G : Nat → Option amM} {hp : amH} {x : Int32}
theorem w343_0 (f d : Nat) : amRun G none (f + 8) d am_m343 am_m343.1 0 [(0, .int x)] [] hp 0 0 = amRun G none f d am_m343 (amSeek am_m343.1 10) 10 [(0, .int (bc1 x))] [] hp 0 0 := by
  conv => lhs; rw [s343_0]
  simp [amRun, amDo, amStep, amLd, amGet, isI_int, amNext, amII, amSt1, amSet1, p343b, Value.category, bc1, ush]
  simp [s343_10]
theorem w343_10 (f d : Nat) : amRun G none (f + 10) d am_m343 (amSeek am_m343.1 10) 10 [(0, .int x)] [] hp 0 0 = amRun G none f d am_m343 (amSeek am_m343.1 24) 24 [(0, .int (bc2 x))] [] hp 0 0 := by
  rw [s343_10]
  simp [amRun, amDo, amStep, amLd, amGet, isI_int, amNext, amII, amSt1, amSet1, p343b, Value.category, bc2, ush]
  simp [s343_24]
theorem w343_24 (f d : Nat) : amRun G none (f + 8) d am_m343 (amSeek am_m343.1 24) 24 [(0, .int x)] [] hp 0 0 = amRun G none f d am_m343 (amSeek am_m343.1 34) 34 [(0, .int (bc3 x))] [] hp 0 0 := by
  rw [s343_24]
  simp [amRun, amDo, amStep, amLd, amGet, isI_int, amNext, amII, amSt1, amSet1, p343b, Value.category, bc3, ush]
  simp [s343_34]
theorem w343_34 (f d : Nat) : amRun G none (f + 6) d am_m343 (amSeek am_m343.1 34) 34 [(0, .int x)] [] hp 0 0 = amRun G none f d am_m343 (amSeek am_m343.1 41) 41 [(0, .int (bc4 x))] [] hp 0 0 := by
  rw [s343_34]
  simp [amRun, amDo, amStep, amLd, amGet, isI_int, amNext, amII, amSt1, amSet1, p343b, Value.category, bc4, ush]
  simp [s343_41]
theorem w343_41 (f d : Nat) : amRun G none (f + 6) d am_m343 (amSeek am_m343.1 41) 41 [(0, .int x)] [] hp 0 0 = amRun G none f d am_m343 (amSeek am_m343.1 48) 48 [(0, .int (bc5 x))] [] hp 0 0 := by
  rw [s343_41]
  simp [amRun, amDo, amStep, amLd, amGet, isI_int, amNext, amII, amSt1, amSet1, p343b, Value.category, bc5, ush]
  simp [s343_48]
theorem m_bits (f d : Nat) : amRun G none (f + 42) d am_m343 am_m343.1 0 [(0, .int x)] [] hp 0 0 = some (.inl (some (.int (bcF x))), hp, 0, 0) := by
  rw [show f + 42 = f + 34 + 8 by omega, w343_0, show f + 34 = f + 24 + 10 by omega, w343_10, show f + 24 = f + 16 + 8 by omega, w343_24, show f + 16 = f + 10 + 6 by omega, w343_34, show f + 10 = f + 4 + 6 by omega, w343_41, s343_48]
  simp [amRun, amDo, amStep, amLd, amGet, isI_int, amNext, amII, amRetV, narrow, p343r, bcF]
end W343
def nt0 (x : Int32) : Int32 := (x ^^^ (-1)) &&& (x - 1)
def nt16 (q : Int32 × Int32) : Int32 × Int32 := if q.1 ≤ 65536 then q else (ush q.1 16, q.2 + 16)
def nt8 (q : Int32 × Int32) : Int32 × Int32 := if q.1 ≤ 256 then q else (ush q.1 8, q.2 + 8)
def nt4 (q : Int32 × Int32) : Int32 × Int32 := if q.1 ≤ 16 then q else (ush q.1 4, q.2 + 4)
def nt2 (q : Int32 × Int32) : Int32 × Int32 := if q.1 ≤ 4 then q else (ush q.1 2, q.2 + 2)
def ntE (q : Int32 × Int32) : Int32 := q.2 + ush q.1 1
def ntF (x : Int32) : Int32 := if 0 < nt0 x then ntE (nt2 (nt4 (nt8 (nt16 (nt0 x, 1))))) else nt0 x &&& 32
theorem p342r : am_m342.2.2.2.2.1 = some .int := rfl
theorem p342b : am_m342.2.1 = 2 := rfl
theorem s342_0 : am_m342.1 = (0, .iload_n 0, 0, 0) :: (1, .iconst (-1), 0, 0) :: (2, .ixor, 0, 0) :: (3, .iload_n 0, 0, 0) :: (4, .iconst 1, 0, 0) :: (5, .isub, 0, 0) :: (6, .iand, 0, 0) :: (7, .istore_n 0, 0, 0) :: amSeek am_m342.1 8 := rfl
theorem s342_8 : amSeek am_m342.1 8 = (8, .iload_n 0, 0, 0) :: (9, .ifCond .gt 8, 17, 0) :: (12, .iload_n 0, 0, 0) :: (13, .bipush 32, 0, 0) :: (15, .iand, 0, 0) :: (16, .ireturn, 0, 0) :: amSeek am_m342.1 17 := rfl
theorem s342_17 : amSeek am_m342.1 17 = (17, .iconst 1, 0, 0) :: (18, .istore_n 1, 0, 0) :: amSeek am_m342.1 19 := rfl
theorem s342_19 : amSeek am_m342.1 19 = (19, .iload_n 0, 0, 0) :: (20, .ldc_w 264, 65536, 0) :: (23, .if_icmp .le 11, 34, 0) :: (26, .iinc 1 16, 0, 0) :: (29, .iload_n 0, 0, 0) :: (30, .bipush 16, 0, 0) :: (32, .iushr, 0, 0) :: (33, .istore_n 0, 0, 0) :: amSeek am_m342.1 34 := rfl
theorem s342_34 : amSeek am_m342.1 34 = (34, .iload_n 0, 0, 0) :: (35, .sipush 256, 0, 0) :: (38, .if_icmp .le 11, 49, 0) :: (41, .iinc 1 8, 0, 0) :: (44, .iload_n 0, 0, 0) :: (45, .bipush 8, 0, 0) :: (47, .iushr, 0, 0) :: (48, .istore_n 0, 0, 0) :: amSeek am_m342.1 49 := rfl
theorem s342_49 : amSeek am_m342.1 49 = (49, .iload_n 0, 0, 0) :: (50, .bipush 16, 0, 0) :: (52, .if_icmp .le 10, 62, 0) :: (55, .iinc 1 4, 0, 0) :: (58, .iload_n 0, 0, 0) :: (59, .iconst 4, 0, 0) :: (60, .iushr, 0, 0) :: (61, .istore_n 0, 0, 0) :: amSeek am_m342.1 62 := rfl
theorem s342_62 : amSeek am_m342.1 62 = (62, .iload_n 0, 0, 0) :: (63, .iconst 4, 0, 0) :: (64, .if_icmp .le 10, 74, 0) :: (67, .iinc 1 2, 0, 0) :: (70, .iload_n 0, 0, 0) :: (71, .iconst 2, 0, 0) :: (72, .iushr, 0, 0) :: (73, .istore_n 0, 0, 0) :: amSeek am_m342.1 74 := rfl
theorem s342_74 : amSeek am_m342.1 74 = [(74, .iload_n 1, 0, 0), (75, .iload_n 0, 0, 0), (76, .iconst 1, 0, 0), (77, .iushr, 0, 0), (78, .iadd, 0, 0), (79, .ireturn, 0, 0)] := rfl
