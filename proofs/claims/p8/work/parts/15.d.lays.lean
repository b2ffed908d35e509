/-! ===== laysTriples: its ways ===== -/
theorem bWp_of {G : Nat → Option amM} {d : Nat} {M : amM} {cs cs1 : amP} {pc pc1 : Nat} {cl cl1 : amL} {st st1 : List Value} {hp hp1 : amH} {Q : (Option Value ⊕ Nat) → amH → Prop} (k : Nat) (h : ∀ f, amRun G none (f + k) d M cs pc cl st hp 0 0 = amRun G none f d M cs1 pc1 cl1 st1 hp1 0 0) (hw : bWp G d M cs1 pc1 cl1 st1 hp1 Q) : bWp G d M cs pc cl st hp Q := by
  obtain ⟨f, y, hp2, h1, h2⟩ := hw
  exact ⟨f + k, y, hp2, by rw [h f]; exact h1, h2⟩
theorem bWp_ofK {G : Nat → Option amM} {d : Nat} {M : amM} {cs cs1 : amP} {pc pc1 : Nat} {cl cl1 : amL} {st st1 : List Value} {hp hp1 : amH} {Q : (Option Value ⊕ Nat) → amH → Prop} (K k : Nat) (h : ∀ f, amRun G none (f + (K + k)) d M cs pc cl st hp 0 0 = amRun G none (f + K) d M cs1 pc1 cl1 st1 hp1 0 0) (hw : bWp G d M cs1 pc1 cl1 st1 hp1 Q) : bWp G d M cs pc cl st hp Q := by
  obtain ⟨f, y, hp2, h1, h2⟩ := hw
  exact ⟨f + (K + k), y, hp2, by rw [h f]; exact amRun_more _ _ _ _ _ _ _ _ _ _ _ _ h1 (f + K) d (Nat.le_add_right _ _) (Nat.le_refl _), h2⟩
theorem mg_ne {cl : amL} {i j : Nat} {v w : Value} (h : amGet cl j = some w) (hw : w.category = 1) (hij : ¬ i = j) : amGet (amSet1 cl i v) j = some w := by
  unfold amSet1
  unfold amGet
  rw [if_neg hij]
  induction cl with
  | nil => cases h
  | cons q r ih =>
    unfold amGet at h
    by_cases e : q.1 = j
    · rw [if_pos e] at h
      have h := Option.some.inj h
      have z : (!(q.1 == i) && !(q.1 + 1 == i && q.2.category == 2)) = true := by
        rw [h, hw, e]
        simp [Ne.symm hij]
      simp only [List.filter_cons, z, if_true]
      unfold amGet
      rw [if_pos e, h]
    · rw [if_neg e] at h
      by_cases z : (!(q.1 == i) && !(q.1 + 1 == i && q.2.category == 2)) = true
      · simp only [List.filter_cons, z, if_true]
        unfold amGet
        rw [if_neg e]
        exact ih h
      · simp only [List.filter_cons, z, if_false]
        exact ih h
theorem mg_eq {cl : amL} {i : Nat} {v : Value} : amGet (amSet1 cl i v) i = some v := by
  unfold amSet1
  unfold amGet
  rw [if_pos rfl]
theorem rv_wr {hp : amH} {a n : Nat} {vs : List Value} {i v : Int32} {r : List Value} (h : hp[a]? = some (32, vs)) (hi : i.toInt = (n : Int)) (hn : n < vs.length) : amASt 32 amIsI id hp (.int v :: .int i :: .ref a :: r) = some (r, hp.set a (32, vs.set n (.int v))) := by
  obtain ⟨e1, e2⟩ := rw_in (m := vs.length) hi hn
  simp only [amASt, h, e2, e1, amIsI, and_self, if_true, id]
theorem g203 : amGG 203 = some am_m203 := rfl
theorem p203a : am_m203.2.2.1 = 1 := rfl
theorem p203b : am_m203.2.1 = 1 := rfl
theorem p203c : am_m203.2.2.2.2.2.2 = 11 := rfl
theorem m_pointsF {hp : amH} {w : List Int32} (h : mW hp w) (F D : Nat) (hF : 6 ≤ F) :
    amRun amGG none F D am_m203 am_m203.1 0 [(0, .ref 66)] [] hp 0 0 = some (.inl (some (.int (w.getD 0 0))), hp, 0, 0) :=
  amRun_more 6 none 0 am_m203 am_m203.1 0 _ [] hp 0 0 _ (m_points h 0 0 0 0) F D hF (Nat.zero_le _)
theorem p211r : am_m211.2.2.2.2.1 = none := rfl
theorem y11_12 : amFty 11 12 = FieldType.int := rfl
theorem p211b : am_m211.2.1 = 4 := rfl
theorem s211_7 : amSeek am_m211.1 7 = (7, .iload_n 1, 0, 0) :: (8, .aload_n 0, 0, 0) :: (9, .invokevirtual 95, 203, 0) :: (12, .if_icmp .ge 102, 114, 0) :: (15, .iload_n 1, 0, 0) :: (16, .iconst 1, 0, 0) :: (17, .iadd, 0, 0) :: (18, .istore_n 2, 0, 0) :: amSeek am_m211.1 19 := rfl
theorem s211_19 : amSeek am_m211.1 19 = (19, .iload_n 2, 0, 0) :: (20, .aload_n 0, 0, 0) :: (21, .invokevirtual 95, 203, 0) :: (24, .if_icmp .ge 84, 108, 0) :: amSeek am_m211.1 27 := rfl
theorem s211_27 : amSeek am_m211.1 27 = (27, .aload_n 0, 0, 0) :: (28, .iload_n 1, 0, 0) :: (29, .iload_n 2, 0, 0) :: (30, .invokevirtual 81, 204, 0) :: (33, .istore_n 3, 0, 0) :: (34, .iload_n 3, 0, 0) :: (35, .iload_n 2, 0, 0) :: (36, .if_icmp .ge 6, 42, 0) :: (39, .goto 63, 102, 0) :: amSeek am_m211.1 42 := rfl
theorem s211_42 : amSeek am_m211.1 42 = (42, .aload_n 0, 0, 0) :: (43, .getfield 25, 11, 8) :: (46, .aload_n 0, 0, 0) :: (47, .getfield 92, 11, 12) :: (50, .iload_n 1, 0, 0) :: (51, .iastore, 0, 0) :: amSeek am_m211.1 52 := rfl
theorem s211_52 : amSeek am_m211.1 52 = (52, .aload_n 0, 0, 0) :: (53, .getfield 28, 11, 9) :: (56, .aload_n 0, 0, 0) :: (57, .getfield 92, 11, 12) :: (60, .iload_n 2, 0, 0) :: (61, .iastore, 0, 0) :: amSeek am_m211.1 62 := rfl
theorem s211_62 : amSeek am_m211.1 62 = (62, .aload_n 0, 0, 0) :: (63, .getfield 31, 11, 10) :: (66, .aload_n 0, 0, 0) :: (67, .getfield 92, 11, 12) :: (70, .iload_n 3, 0, 0) :: (71, .iastore, 0, 0) :: amSeek am_m211.1 72 := rfl
theorem s211_72 : amSeek am_m211.1 72 = (72, .aload_n 0, 0, 0) :: (73, .getfield 34, 11, 11) :: (76, .aload_n 0, 0, 0) :: (77, .getfield 92, 11, 12) ::
  (80, .iconst 1, 0, 0) :: (81, .iload_n 1, 0, 0) :: (82, .ishl, 0, 0) :: (83, .iconst 1, 0, 0) :: (84, .iload_n 2, 0, 0) :: (85, .ishl, 0, 0) :: (86, .ior, 0, 0) :: (87, .iconst 1, 0, 0) :: (88, .iload_n 3, 0, 0) :: (89, .ishl, 0, 0) :: (90, .ior, 0, 0) :: (91, .iastore, 0, 0) :: amSeek am_m211.1 92 := rfl
theorem s211_92 : amSeek am_m211.1 92 = (92, .aload_n 0, 0, 0) :: (93, .dup, 0, 0) :: (94, .getfield 92, 11, 12) :: (97, .iconst 1, 0, 0) :: (98, .iadd, 0, 0) :: (99, .putfield 92, 11, 12) :: amSeek am_m211.1 102 := rfl
theorem s211_102 : amSeek am_m211.1 102 = (102, .iinc 2 1, 0, 0) :: (105, .goto (-86), 19, 0) :: amSeek am_m211.1 108 := rfl
theorem s211_108 : amSeek am_m211.1 108 = (108, .iinc 1 1, 0, 0) :: (111, .goto (-104), 7, 0) :: amSeek am_m211.1 114 := rfl
theorem s211_114 : amSeek am_m211.1 114 = [(114, .return_, 0, 0)] := rfl
def msk (x y z : Int32) : Int32 := 1 <<< (x &&& 31) ||| 1 <<< (y &&& 31) ||| 1 <<< (z &&& 31)
section W211
variable {cl : amL} {hp : amH} {cm : List Value} {vs : List Value} {w : List Int32} {mi a b c : Int32} {m : Nat} {Q : (Option Value ⊕ Nat) → amH → Prop}
theorem w211_42 (h66 : hp[66]? = some (11, cm)) (c8 : cm[8]? = some (.ref 72)) (c12 : cm[12]? = some (.int mi)) (h72 : hp[72]? = some (32, vs)) (hm : mi.toInt = (m : Int)) (hv : m < vs.length) (l0 : amGet cl 0 = some (.ref 66)) (l1 : amGet cl 1 = some (.int a))
    (hw : bWp amGG 1 am_m211 (amSeek am_m211.1 52) 52 cl [] (hp.set 72 (32, vs.set m (.int a))) Q) : bWp amGG 1 am_m211 (amSeek am_m211.1 42) 42 cl [] hp Q := by
  refine bWp_of 6 (fun f => ?_) hw
  rw [s211_42]
  have hwr := rv_wr (r := []) (v := a) h72 hm hv
  simp [amRun, amDo, amStep, amLd, l0, l1, isI_int, isA_ref, amNext, amFGet, h66, c8, c12, hwr]
  simp [s211_52, amNext]
theorem w211_52 (h66 : hp[66]? = some (11, cm)) (c8 : cm[9]? = some (.ref 73)) (c12 : cm[12]? = some (.int mi)) (h72 : hp[73]? = some (32, vs)) (hm : mi.toInt = (m : Int)) (hv : m < vs.length) (l0 : amGet cl 0 = some (.ref 66)) (l1 : amGet cl 2 = some (.int a))
    (hw : bWp amGG 1 am_m211 (amSeek am_m211.1 62) 62 cl [] (hp.set 73 (32, vs.set m (.int a))) Q) : bWp amGG 1 am_m211 (amSeek am_m211.1 52) 52 cl [] hp Q := by
  refine bWp_of 6 (fun f => ?_) hw
  rw [s211_52]
  have hwr := rv_wr (r := []) (v := a) h72 hm hv
  simp [amRun, amDo, amStep, amLd, l0, l1, isI_int, isA_ref, amNext, amFGet, h66, c8, c12, hwr, f4_2]
  simp [s211_62, amNext]
theorem w211_62 (h66 : hp[66]? = some (11, cm)) (c8 : cm[10]? = some (.ref 74)) (c12 : cm[12]? = some (.int mi)) (h72 : hp[74]? = some (32, vs)) (hm : mi.toInt = (m : Int)) (hv : m < vs.length) (l0 : amGet cl 0 = some (.ref 66)) (l1 : amGet cl 3 = some (.int a))
    (hw : bWp amGG 1 am_m211 (amSeek am_m211.1 72) 72 cl [] (hp.set 74 (32, vs.set m (.int a))) Q) : bWp amGG 1 am_m211 (amSeek am_m211.1 62) 62 cl [] hp Q := by
  refine bWp_of 6 (fun f => ?_) hw
  rw [s211_62]
  have hwr := rv_wr (r := []) (v := a) h72 hm hv
  simp [amRun, amDo, amStep, amLd, l0, l1, isI_int, isA_ref, amNext, amFGet, h66, c8, c12, hwr, f4_3]
  simp [s211_72, amNext]
theorem w211_72 (h66 : hp[66]? = some (11, cm)) (c8 : cm[11]? = some (.ref 75)) (c12 : cm[12]? = some (.int mi)) (h72 : hp[75]? = some (32, vs)) (hm : mi.toInt = (m : Int)) (hv : m < vs.length) (l0 : amGet cl 0 = some (.ref 66)) (l1 : amGet cl 1 = some (.int a)) (l2 : amGet cl 2 = some (.int b)) (l3 : amGet cl 3 = some (.int c))
    (hw : bWp amGG 1 am_m211 (amSeek am_m211.1 92) 92 cl [] (hp.set 75 (32, vs.set m (.int (msk a b c)))) Q) : bWp amGG 1 am_m211 (amSeek am_m211.1 72) 72 cl [] hp Q := by
  refine bWp_of 16 (fun f => ?_) hw
  rw [s211_72]
  have hwr := rv_wr (r := []) (v := msk a b c) h72 hm hv
  unfold msk at hwr ⊢
  simp [amRun, amDo, amStep, amLd, l0, l1, l2, l3, isI_int, isA_ref, amNext, amFGet, amII, h66, c8, c12, hwr, f4_2, f4_3]
  simp [s211_92, amNext]
theorem w211_92 (h66 : hp[66]? = some (11, cm)) (c12 : cm[12]? = some (.int mi)) (l0 : amGet cl 0 = some (.ref 66)) (l2 : amGet cl 2 = some (.int b))
    (hw : bWp amGG 1 am_m211 (amSeek am_m211.1 19) 19 (amSet1 cl 2 (.int (b + 1))) [] (hp.set 66 (11, cm.set 12 (.int (mi + 1)))) Q) : bWp amGG 1 am_m211 (amSeek am_m211.1 92) 92 cl [] hp Q := by
  have hcl : 12 < cm.length := by
    rcases Nat.lt_or_ge 12 cm.length with z | z
    · exact z
    · rw [List.getElem?_eq_none z] at c12; cases c12
  have c12' : cm[12] = .int mi := by rw [List.getElem?_eq_getElem hcl] at c12; exact Option.some.inj c12
  refine bWp_of 8 (fun f => ?_) hw
  rw [s211_92, s211_102, s211_108, s211_114]
  simp [Value.category, amRun, amDo, amStep, amLd, l0, l2, isI_int, isA_ref, amNext, amFGet, amFSet, y11_12, amII, h66, c12, c12', hcl, narrow, fits, amInc, p211b]
theorem w211_102 (l2 : amGet cl 2 = some (.int b))
    (hw : bWp amGG 1 am_m211 (amSeek am_m211.1 19) 19 (amSet1 cl 2 (.int (b + 1))) [] hp Q) : bWp amGG 1 am_m211 (amSeek am_m211.1 102) 102 cl [] hp Q := by
  refine bWp_of 2 (fun f => ?_) hw
  rw [s211_102, s211_108, s211_114]
  simp [amRun, amDo, amStep, amNext, amInc, l2, p211b]
theorem w211_108 (l2 : amGet cl 1 = some (.int b))
    (hw : bWp amGG 1 am_m211 (amSeek am_m211.1 7) 7 (amSet1 cl 1 (.int (b + 1))) [] hp Q) : bWp amGG 1 am_m211 (amSeek am_m211.1 108) 108 cl [] hp Q := by
  refine bWp_of 2 (fun f => ?_) hw
  rw [s211_108, s211_114]
  simp [amRun, amDo, amStep, amNext, amInc, l2, p211b]
theorem w211_114 (hQ : Q (.inl none) hp) : bWp amGG 1 am_m211 (amSeek am_m211.1 114) 114 cl [] hp Q :=
  ⟨1, .inl none, hp, by rw [s211_114]; simp [amRun, amDo, amStep, amRetV, bCnt, p211r], hQ⟩
theorem w211_7 (h : mW hp w) (hok : amOkL hp.length cl = true) (h66 : hp[66]? = some (11, cm)) (l0 : amGet cl 0 = some (.ref 66)) (l1 : amGet cl 1 = some (.int a))
    (hw1 : w.getD 0 0 ≤ a → bWp amGG 1 am_m211 (amSeek am_m211.1 114) 114 cl [] hp Q)
    (hw2 : ¬ w.getD 0 0 ≤ a → bWp amGG 1 am_m211 (amSeek am_m211.1 19) 19 (amSet1 cl 2 (.int (a + 1))) [] hp Q) : bWp amGG 1 am_m211 (amSeek am_m211.1 7) 7 cl [] hp Q := by
  have hl : 66 < hp.length := a_lt h66
  have h1' : hp[66] = (11, cm) := by rw [List.getElem?_eq_getElem hl] at h66; exact Option.some.inj h66
  have q1 := m_pointsF h
  by_cases z : w.getD 0 0 ≤ a
  · have hw := hw1 z
    generalize w.getD 0 0 = p at q1 z
    refine bWp_ofK 20 4 (fun f => ?_) hw
    rw [s211_7]
    simp [amRun, amDo, amStep, amLd, l0, l1, isI_int, isA_ref, amNext, amCall, g203, lv_args, hok, amOkS, amOk, amRecv, h66, hl, Value.category, q1, narrow, p203a, p203b, p203c, h1', amCmp, amCmpP, z]
  · have hw := hw2 z
    generalize w.getD 0 0 = p at q1 z
    refine bWp_ofK 20 8 (fun f => ?_) hw
    rw [s211_7, s211_19]
    simp [amRun, amDo, amStep, amLd, l0, l1, isI_int, isA_ref, amNext, amCall, g203, lv_args, hok, amOkS, amOk, amRecv, h66, hl, Value.category, q1, narrow, p203a, p203b, p203c, h1', amCmp, amCmpP, z, amII, amSt1, p211b]
theorem w211_19 (h : mW hp w) (hok : amOkL hp.length cl = true) (h66 : hp[66]? = some (11, cm)) (l0 : amGet cl 0 = some (.ref 66)) (l1 : amGet cl 2 = some (.int b))
    (hw1 : w.getD 0 0 ≤ b → bWp amGG 1 am_m211 (amSeek am_m211.1 108) 108 cl [] hp Q)
    (hw2 : ¬ w.getD 0 0 ≤ b → bWp amGG 1 am_m211 (amSeek am_m211.1 27) 27 cl [] hp Q) : bWp amGG 1 am_m211 (amSeek am_m211.1 19) 19 cl [] hp Q := by
  have hl : 66 < hp.length := a_lt h66
  have h1' : hp[66] = (11, cm) := by rw [List.getElem?_eq_getElem hl] at h66; exact Option.some.inj h66
  have q1 := m_pointsF h
  by_cases z : w.getD 0 0 ≤ b
  · have hw := hw1 z
    generalize w.getD 0 0 = p at q1 z
    refine bWp_ofK 20 4 (fun f => ?_) hw
    rw [s211_19, s211_27]
    simp [amRun, amDo, amStep, amLd, l0, l1, isI_int, isA_ref, amNext, amCall, g203, lv_args, hok, amOkS, amOk, amRecv, h66, hl, Value.category, q1, narrow, p203a, p203b, p203c, h1', amCmp, amCmpP, z]
  · have hw := hw2 z
    generalize w.getD 0 0 = p at q1 z
    refine bWp_ofK 20 4 (fun f => ?_) hw
    rw [s211_19, s211_27]
    simp [amRun, amDo, amStep, amLd, l0, l1, isI_int, isA_ref, amNext, amCall, g203, lv_args, hok, amOkS, amOk, amRecv, h66, hl, Value.category, q1, narrow, p203a, p203b, p203c, h1', amCmp, amCmpP, z]
theorem w211_27 (h : mW hp w) (hok : amOkL hp.length cl = true) (h66 : hp[66]? = some (11, cm)) (l0 : amGet cl 0 = some (.ref 66)) (l1 : amGet cl 1 = some (.int a)) (l2 : amGet cl 2 = some (.int b)) {x y : Nat} (ha : a.toInt = (x : Int)) (hb : b.toInt = (y : Int)) (hx : x < 15) (hy : y < 15)
    (hw1 : w.getD (4 + 15 * x + y) 0 < b → bWp amGG 1 am_m211 (amSeek am_m211.1 102) 102 (amSet1 cl 3 (.int (w.getD (4 + 15 * x + y) 0))) [] hp Q)
    (hw2 : ¬ w.getD (4 + 15 * x + y) 0 < b → bWp amGG 1 am_m211 (amSeek am_m211.1 42) 42 (amSet1 cl 3 (.int (w.getD (4 + 15 * x + y) 0))) [] hp Q) : bWp amGG 1 am_m211 (amSeek am_m211.1 27) 27 cl [] hp Q := by
  have hl : 66 < hp.length := a_lt h66
  have h1' : hp[66] = (11, cm) := by rw [List.getElem?_eq_getElem hl] at h66; exact Option.some.inj h66
  have q1 := m_thirdOfF h ha hb hx hy
  generalize w.getD (4 + 15 * x + y) 0 = p at q1 hw1 hw2
  have k3 : amGet (amSet1 cl 3 (.int p)) 3 = some (.int p) := mg_eq
  have k2 : amGet (amSet1 cl 3 (.int p)) 2 = some (.int b) := mg_ne l2 rfl (by decide)
  by_cases z : p < b
  · have hw := hw1 z
    have z2 : ¬ b ≤ p := fun u => by
      have := Int32.lt_iff_toInt_lt.mp z
      have := Int32.le_iff_toInt_le.mp u
      omega
    refine bWp_ofK 20 9 (fun f => ?_) hw
    rw [s211_27, s211_42]
    simp [amRun, amDo, amStep, amLd, l0, l1, l2, k2, k3, f4_2, f4_3, isI_int, isA_ref, amNext, amCall, g204, lv_args, hok, amOkS, amOk, amRecv, h66, hl, Value.category, q1, narrow, p204a, p204b, p204c, h1', amCmp, amCmpP, z2, amSt1, p211b]
  · have hw := hw2 z
    have z2 : b ≤ p := Int32.le_iff_toInt_le.mpr (Int.not_lt.mp (fun u => z (Int32.lt_iff_toInt_lt.mpr u)))
    refine bWp_ofK 20 8 (fun f => ?_) hw
    rw [s211_27]
    simp [amRun, amDo, amStep, amLd, l0, l1, l2, k2, k3, f4_2, f4_3, isI_int, isA_ref, amNext, amCall, g204, lv_args, hok, amOkS, amOk, amRecv, h66, hl, Value.category, q1, narrow, p204a, p204b, p204c, h1', amCmp, amCmpP, z2, amSt1, p211b]
end W211
