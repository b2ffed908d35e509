/-! ===== coveredOf ===== -/
theorem g204 : amGG 204 = some am_m204 := rfl
theorem p204a : am_m204.2.2.1 = 3 := rfl
theorem p204b : am_m204.2.1 = 3 := rfl
theorem p204c : am_m204.2.2.2.2.2.2 = 11 := rfl
theorem m_thirdOfF {hp : amH} {w : List Int32} (h : mW hp w) {a b : Int32} {x y : Nat} (ha : a.toInt = (x : Int)) (hb : b.toInt = (y : Int)) (hx : x < 15) (hy : y < 15) (F D : Nat) (hF : 12 ≤ F) :
    amRun amGG none F D am_m204 am_m204.1 0 [(0, .ref 66), (1, .int a), (2, .int b)] [] hp 0 0 = some (.inl (some (.int (w.getD (4 + 15 * x + y) 0))), hp, 0, 0) :=
  amRun_more 12 none 0 am_m204 am_m204.1 0 _ [] hp 0 0 _ (m_thirdOf h ha hb hx hy 0 0 0 0) F D hF (Nat.zero_le _)
