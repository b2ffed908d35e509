/-! ##### 15.f.list ##### -/
section
/-! ===== laysTriples: its loops ===== -/
noncomputable def bLo (cl : amL) (x : Nat) : Prop := amOkL 84 cl = true ∧ amGet cl 0 = some (.ref 66) ∧ ∃ a : Int32, amGet cl 1 = some (.int a) ∧ a.toInt = (x : Int)
theorem LI_67 {hp0 hp : amH} {N m : Nat} (h : LI (rN hp0 67) hp0 hp N m) (i : Nat) : rN hp 67 i = rN hp0 67 i := r_fr h.2.1 (by simp [bLT, bIn])
/-- a triple found -/
theorem LI_add {hp0 hp : amH} (hV : Vf (rN hp0 67)) {x y z m : Nat} (h : LI (rN hp0 67) hp0 hp (15 * x + y) m) (hxy : x < y) (hyz : y < z) (hz : z < 15) (e : rN hp0 67 (4 + 15 * x + y) = (z : Int)) {a b c : Int32} (ha : a.toInt = (x : Int)) (hb : b.toInt = (y : Int)) (hc : c.toInt = (z : Int)) {cl : amL} (hok : amOkL 84 cl = true) (l0 : amGet cl 0 = some (.ref 66)) (l1 : amGet cl 1 = some (.int a)) (l2 : amGet cl 2 = some (.int b)) (l3 : amGet cl 3 = some (.int c)) {Q : (Option Value ⊕ Nat) → amH → Prop}
    (hw : ∀ hp1, LI (rN hp0 67) hp0 hp1 (15 * x + y + 1) (m + 1) → bWp amGG 1 am_m211 (amSeek am_m211.1 19) 19 (amSet1 cl 2 (.int (b + 1))) [] hp1 Q) : bWp amGG 1 am_m211 (amSeek am_m211.1 42) 42 cl [] hp Q := by
  obtain ⟨hH, hF, hM, ⟨L, hL, hl⟩, hlist⟩ := h
  have hL2 := gL_add hV hL hxy hyz hz e (Nat.le_refl _)
  have hlen := gL_len hL2
  simp only [List.length_cons] at hlen
  have hm : m ≤ 34 := by omega
  have oa := aOff_eq a
  have ob := aOff_eq b
  have oc := aOff_eq c
  -- 72
  obtain ⟨cm, h66, -, c8, c9, c10, c11, mi, c12, hmi⟩ := r_cell hH
  rw [hM] at hmi
  obtain ⟨v72, q72, -⟩ := bHk_at hH (i := 72) (by decide) rfl
  obtain ⟨t, v72⟩ := v72
  obtain ⟨c72, e72, ht, hl72, -⟩ := bHk_at hH (i := 72) (by decide) (D := (32, 35, [.inl (2147483648, 2147483662)])) rfl
  cases q72.symm.trans e72
  have ht : t = 32 := ht
  subst ht
  have hl72 : v72.length = 35 := hl72
  obtain ⟨hH1, s1, t1, f1⟩ := r_st hH (v := a) (m := m) (lo := 2147483648) (hi := 2147483662) (D := (32, 35, [.inl (2147483648, 2147483662)])) (by decide) rfl q72 rfl (by omega) (by omega) (by dsimp only; omega)
  refine w211_42 h66 c8 c12 q72 hmi (by omega) l0 l1 ?_
  generalize hp.set 72 (32, v72.set m (.int a)) = hp1 at hH1 s1 t1 f1 ⊢
  have f1 := f1 bLT (bIn_all (by decide) m)
  -- 73
  obtain ⟨cm1, h66, -, c8, c9, c10, c11, mi1, c12, hmi⟩ := r_cell hH1
  rw [s1 66 12 (by omega), hM] at hmi
  obtain ⟨⟨t, v73⟩, q73, ht, hl73, -⟩ := bHk_at hH1 (i := 73) (by decide) (D := (32, 35, [.inl (2147483648, 2147483662)])) rfl
  have ht : t = 32 := ht
  subst ht
  have hl73 : v73.length = 35 := hl73
  obtain ⟨hH2, s2, t2, f2⟩ := r_st hH1 (v := b) (m := m) (lo := 2147483648) (hi := 2147483662) (D := (32, 35, [.inl (2147483648, 2147483662)])) (by decide) rfl q73 rfl (by omega) (by omega) (by dsimp only; omega)
  refine w211_52 h66 c9 c12 q73 hmi (by omega) l0 l2 ?_
  generalize hp1.set 73 (32, v73.set m (.int b)) = hp2 at hH2 s2 t2 f2 ⊢
  have f2 := f2 bLT (bIn_all (by decide) m)
  -- 74
  obtain ⟨cm2, h66, -, c8, c9, c10, c11, mi2, c12, hmi⟩ := r_cell hH2
  rw [s2 66 12 (by omega), s1 66 12 (by omega), hM] at hmi
  obtain ⟨⟨t, v74⟩, q74, ht, hl74, -⟩ := bHk_at hH2 (i := 74) (by decide) (D := (32, 35, [.inl (2147483648, 2147483662)])) rfl
  have ht : t = 32 := ht
  subst ht
  have hl74 : v74.length = 35 := hl74
  obtain ⟨hH3, s3, t3, f3⟩ := r_st hH2 (v := c) (m := m) (lo := 2147483648) (hi := 2147483662) (D := (32, 35, [.inl (2147483648, 2147483662)])) (by decide) rfl q74 rfl (by omega) (by omega) (by dsimp only; omega)
  refine w211_62 h66 c10 c12 q74 hmi (by omega) l0 l3 ?_
  generalize hp2.set 74 (32, v74.set m (.int c)) = hp3 at hH3 s3 t3 f3 ⊢
  have f3 := f3 bLT (bIn_all (by decide) m)
  -- 75
  obtain ⟨cm3, h66, -, c8, c9, c10, c11, mi3, c12, hmi⟩ := r_cell hH3
  rw [s3 66 12 (by omega), s2 66 12 (by omega), s1 66 12 (by omega), hM] at hmi
  obtain ⟨⟨t, v75⟩, q75, ht, hl75, -⟩ := bHk_at hH3 (i := 75) (by decide) (D := (32, 35, [.inl (2147483648, 2147516415)])) rfl
  have ht : t = 32 := ht
  subst ht
  have hl75 : v75.length = 35 := hl75
  have hk : 2147483648 ≤ aOff (msk a b c) ∧ aOff (msk a b c) ≤ 2147516415 := by
    rw [i_of ha (by omega), i_of hb (by omega), i_of hc hz]
    exact msk_le ⟨x, by omega⟩ ⟨y, by omega⟩ ⟨z, hz⟩
  obtain ⟨hH4, s4, t4, f4⟩ := r_st hH3 (v := msk a b c) (m := m) (lo := 2147483648) (hi := 2147516415) (D := (32, 35, [.inl (2147483648, 2147516415)])) (by decide) rfl q75 rfl hk.1 hk.2 (by dsimp only; omega)
  refine w211_72 h66 c11 c12 q75 hmi (by omega) l0 l1 l2 l3 ?_
  generalize hp3.set 75 (32, v75.set m (.int (msk a b c))) = hp4 at hH4 s4 t4 f4 ⊢
  have f4 := f4 bLT (bIn_all (by decide) m)
  -- many
  obtain ⟨cm4, h66, -, c8, c9, c10, c11, mi4, c12, hmi⟩ := r_cell hH4
  rw [s4 66 12 (by omega), s3 66 12 (by omega), s2 66 12 (by omega), s1 66 12 (by omega), hM] at hmi
  have hmi5 : (mi4 + 1).toInt = ((m + 1 : Nat) : Int) := by rw [Int32.toInt_add, hmi, show (1 : Int32).toInt = 1 by decide, aBmod (by omega) (by omega)]; omega
  have om := aOff_eq (mi4 + 1)
  obtain ⟨D66, hD66⟩ : ∃ D, bTT 66 = some D := ⟨_, rfl⟩
  have hD12 : bDy D66 12 = some (.inl (2147483648, 2147483683)) ∧ 12 < D66.2.1 := by
    have : some D66 = bTT 66 := hD66.symm
    cases this
    exact ⟨rfl, by decide⟩
  obtain ⟨hH5, s5, t5, f5⟩ := r_st hH4 (v := mi4 + 1) (m := 12) (lo := 2147483648) (hi := 2147483683) (by decide) hD66 h66 hD12.1 (by omega) (by omega) hD12.2
  refine w211_92 h66 c12 l0 l2 (hw _ ?_)
  generalize hp4.set 66 (11, cm4.set 12 (.int (mi4 + 1))) = hp5 at hH5 s5 t5 f5 ⊢
  have f5 := f5 bLT (by simp [bLT, bIn])
  refine ⟨hH5, hF.trans (f1.trans (f2.trans (f3.trans (f4.trans f5)))), by rw [t5, hmi5], ⟨_, hL2, by simp only [List.length_cons]; omega⟩, fun k hk => ?_⟩
  by_cases ek : k = m
  · subst ek
    refine ⟨x, y, z, a, b, c, hxy, hyz, hz, e, ha, hb, hc, ?_, ?_, ?_, ?_⟩
    · rw [s5 _ _ (by omega), s4 _ _ (by omega), s3 _ _ (by omega), s2 _ _ (by omega), t1, ha]
    · rw [s5 _ _ (by omega), s4 _ _ (by omega), s3 _ _ (by omega), t2, hb]
    · rw [s5 _ _ (by omega), s4 _ _ (by omega), t3, hc]
    · rw [s5 _ _ (by omega), t4]
  · obtain ⟨x1, y1, z1, a1, b1, c1, g1, g2, g3, g4, g5, g6, g7, g8, g9, g10, g11⟩ := hlist k (by omega)
    refine ⟨x1, y1, z1, a1, b1, c1, g1, g2, g3, g4, g5, g6, g7, ?_, ?_, ?_, ?_⟩
    · rw [s5 _ _ (by omega), s4 _ _ (by omega), s3 _ _ (by omega), s2 _ _ (by omega), s1 _ _ (by omega), g8]
    · rw [s5 _ _ (by omega), s4 _ _ (by omega), s3 _ _ (by omega), s2 _ _ (by omega), s1 _ _ (by omega), g9]
    · rw [s5 _ _ (by omega), s4 _ _ (by omega), s3 _ _ (by omega), s2 _ _ (by omega), s1 _ _ (by omega), g10]
    · rw [s5 _ _ (by omega), s4 _ _ (by omega), s3 _ _ (by omega), s2 _ _ (by omega), s1 _ _ (by omega), g11]
/-- the inner loop -/
theorem lt_in {hp0 : amH} (hV : Vf (rN hp0 67)) {Q : (Option Value ⊕ Nat) → amH → Prop} {x : Nat} (hx : x < 15)
    (hQ : ∀ cl hp m, bLo cl x → LI (rN hp0 67) hp0 hp (15 * x + 15) m → bWp amGG 1 am_m211 (amSeek am_m211.1 108) 108 cl [] hp Q) :
    ∀ (j y m : Nat) (b : Int32) (cl : amL) (hp : amH), y + j = 15 → x < y → bLo cl x → amGet cl 2 = some (.int b) → b.toInt = (y : Int) → LI (rN hp0 67) hp0 hp (15 * x + y) m →
      bWp amGG 1 am_m211 (amSeek am_m211.1 19) 19 cl [] hp Q := by
  intro j
  induction j with
  | zero =>
    intro y m b cl hp hy hxy hl l2 hb hI
    obtain ⟨w, hw, hr⟩ := r_mW hI.1
    obtain ⟨cm, h66, -⟩ := r_cell hI.1
    obtain ⟨hok, l0, a, l1, ha⟩ := hl
    have h0 := hr 0 (by omega)
    rw [LI_67 hI] at h0
    have hp15 := hV.2.1
    refine w211_19 hw (by rw [hI.1.1]; exact hok) h66 l0 l2 (fun _ => hQ cl hp m ⟨hok, l0, a, l1, ha⟩ (LI_mono hI (by omega))) (fun z => ?_)
    exact absurd (Int32.le_iff_toInt_le.mpr (by omega)) z
  | succ j ih =>
    intro y m b cl hp hy hxy hl l2 hb hI
    obtain ⟨w, hw, hr⟩ := r_mW hI.1
    obtain ⟨cm, h66, -⟩ := r_cell hI.1
    have hl' := hl
    obtain ⟨hok, l0, a, l1, ha⟩ := hl
    have hT := hr (4 + 15 * x + y) (by omega)
    rw [LI_67 hI] at hT
    have hb1 : (b + 1).toInt = ((y + 1 : Nat) : Int) := by rw [Int32.toInt_add, hb, show (1 : Int32).toInt = 1 by decide, aBmod (by omega) (by omega)]; omega
    refine w211_19 hw (by rw [hI.1.1]; exact hok) h66 l0 l2 (fun _ => hQ cl hp m hl' (LI_mono hI (by omega))) (fun z => ?_)
    refine w211_27 hw (by rw [hI.1.1]; exact hok) h66 l0 l1 l2 ha hb hx (by omega) (fun u => ?_) (fun u => ?_)
    · have k2 : amGet (amSet1 cl 3 (.int (w.getD (4 + 15 * x + y) 0))) 2 = some (.int b) := mg_ne l2 rfl (by decide)
      refine w211_102 k2 ?_
      exact ih (y + 1) m (b + 1) _ hp (by omega) (by omega) ⟨mok (mok hok), mg_ne (mg_ne l0 rfl (by decide)) rfl (by decide), a, mg_ne (mg_ne l1 rfl (by decide)) rfl (by decide), ha⟩ mg_eq hb1 (LI_mono hI (by omega))
    · have u := Int.not_lt.mp (fun v => u (Int32.lt_iff_toInt_lt.mpr v))
      rcases hV.2.2 x y hx (by omega) with g | ⟨c, g1, g2, g3, g4, g5, g6, g7, -⟩
      · omega
      · have hp15 := hV.2.1
        refine LI_add hV hI hxy (z := c) (by omega) (by omega) g1 (c := w.getD (4 + 15 * x + y) 0) ha hb (by omega) (mok hok) (mg_ne l0 rfl (by decide)) (mg_ne l1 rfl (by decide)) (mg_ne l2 rfl (by decide)) mg_eq (fun hp1 hI1 => ?_)
        exact ih (y + 1) (m + 1) (b + 1) _ hp1 (by omega) (by omega) ⟨mok (mok hok), mg_ne (mg_ne l0 rfl (by decide)) rfl (by decide), a, mg_ne (mg_ne l1 rfl (by decide)) rfl (by decide), ha⟩ mg_eq hb1 hI1
/-- the outer loop -/
theorem lt_out {hp0 : amH} (hV : Vf (rN hp0 67)) {Q : (Option Value ⊕ Nat) → amH → Prop}
    (hQ : ∀ hp m, LI (rN hp0 67) hp0 hp 225 m → Q (.inl none) hp) :
    ∀ (i x m : Nat) (cl : amL) (hp : amH), x + i = 15 → bLo cl x → LI (rN hp0 67) hp0 hp (15 * x) m →
      bWp amGG 1 am_m211 (amSeek am_m211.1 7) 7 cl [] hp Q := by
  intro i
  induction i with
  | zero =>
    intro x m cl hp hx hl hI
    obtain ⟨w, hw, hr⟩ := r_mW hI.1
    obtain ⟨cm, h66, -⟩ := r_cell hI.1
    obtain ⟨hok, l0, a, l1, ha⟩ := hl
    have h0 := hr 0 (by omega)
    rw [LI_67 hI] at h0
    have hp15 := hV.2.1
    refine w211_7 hw (by rw [hI.1.1]; exact hok) h66 l0 l1 (fun _ => w211_114 (hQ hp m (LI_mono hI (by omega)))) (fun z => ?_)
    exact absurd (Int32.le_iff_toInt_le.mpr (by omega)) z
  | succ i ih =>
    intro x m cl hp hx hl hI
    obtain ⟨w, hw, hr⟩ := r_mW hI.1
    obtain ⟨cm, h66, -⟩ := r_cell hI.1
    obtain ⟨hok, l0, a, l1, ha⟩ := hl
    have ha1 : (a + 1).toInt = ((x + 1 : Nat) : Int) := by rw [Int32.toInt_add, ha, show (1 : Int32).toInt = 1 by decide, aBmod (by omega) (by omega)]; omega
    refine w211_7 hw (by rw [hI.1.1]; exact hok) h66 l0 l1 (fun _ => w211_114 (hQ hp m (LI_mono hI (by omega)))) (fun z => ?_)
    refine lt_in hV (x := x) (by omega) (fun cl1 hp1 m1 hl1 hI1 => ?_) (15 - (x + 1)) (x + 1) m (a + 1) _ hp (by omega) (by omega) ⟨mok hok, mg_ne l0 rfl (by decide), a, mg_ne l1 rfl (by decide), ha⟩ mg_eq ha1 (LI_mono hI (by omega))
    obtain ⟨hok1, k0, a1, k1, ka⟩ := hl1
    have ka1 : (a1 + 1).toInt = ((x + 1 : Nat) : Int) := by rw [Int32.toInt_add, ka, show (1 : Int32).toInt = 1 by decide, aBmod (by omega) (by omega)]; omega
    refine w211_108 k1 ?_
    exact ih (x + 1) m1 _ hp1 (by omega) ⟨mok hok1, mg_ne k0 rfl (by decide), a1 + 1, mg_eq, ka1⟩ (LI_mono hI1 (by omega))
theorem s211_0 : am_m211.1 = (0, .aload_n 0, 0, 0) :: (1, .iconst 0, 0, 0) :: (2, .putfield 92, 11, 12) :: (5, .iconst 0, 0, 0) :: (6, .istore_n 1, 0, 0) :: amSeek am_m211.1 7 := rfl
theorem lt_run {hp : amH} (hH : bHk 84 bTT hp) (hV : Vf (rN hp 67)) {Q : (Option Value ⊕ Nat) → amH → Prop}
    (hQ : ∀ hp1 m, LI (rN hp 67) hp hp1 225 m → Q (.inl none) hp1) : bWp amGG 1 am_m211 am_m211.1 0 [(0, .ref 66)] [] hp Q := by
  obtain ⟨cm, h66, -, c8, c9, c10, c11, mi, c12, hmi⟩ := r_cell hH
  obtain ⟨D66, hD66⟩ : ∃ D, bTT 66 = some D := ⟨_, rfl⟩
  have hD12 : bDy D66 12 = some (.inl (2147483648, 2147483683)) ∧ 12 < D66.2.1 := by
    have : some D66 = bTT 66 := hD66.symm
    cases this
    exact ⟨rfl, by decide⟩
  obtain ⟨hH5, s5, t5, f5⟩ := r_st hH (v := 0) (m := 12) (lo := 2147483648) (hi := 2147483683) (by decide) hD66 h66 hD12.1 (by decide) (by decide) hD12.2
  have f5 := f5 bLT (by decide)
  have hcl : 12 < cm.length := by
    rcases Nat.lt_or_ge 12 cm.length with z | z
    · exact z
    · rw [List.getElem?_eq_none z] at c12; cases c12
  have key : bWp amGG 1 am_m211 (amSeek am_m211.1 7) 7 [(1, .int 0), (0, .ref 66)] [] (hp.set 66 (11, cm.set 12 (.int 0))) Q := by
    generalize hp.set 66 (11, cm.set 12 (.int 0)) = hp5 at hH5 s5 t5 f5 ⊢
    refine lt_out hV hQ 15 0 0 _ hp5 rfl ⟨rfl, rfl, 0, rfl, rfl⟩ ⟨hH5, f5, by rw [t5]; rfl, ⟨[], gL_nil _ _, rfl⟩, fun k hk => by omega⟩
  rw [s211_0]
  refine bWp_of 5 (fun f => ?_) key
  rw [s211_7]
  simp [amRun, amDo, amStep, amLd, amGet, isI_int, isA_ref, amNext, amFSet, y11_12, h66, hcl, narrow, fits, amSt1, amSet1, p211b, Value.category]
noncomputable def be_h211 : bEt := (211, ([.inr (.inr [66])], [], 1, bLT, [], [(none, [])]), [], 0, [])
theorem LT_Pr {c k : Nat} (h : bIn bPr c k = true) : bIn bLT c k = false := by
  cases h9 : bIn bLT c k
  · rfl
  · obtain ⟨p, g1, g2, g3⟩ := bIn_mem h
    obtain ⟨q, k1, k2, k3⟩ := bIn_mem h9
    simp [bPr] at g1
    simp [bLT] at k1
    rcases g1 with rfl | rfl | rfl | rfl | rfl | rfl | rfl <;> rcases k1 with rfl | rfl | rfl | rfl | rfl <;> dsimp only at g2 g3 k2 k3 <;> omega
theorem h211_s : bSem amGG P0 84 bTT be_h211.1 be_h211.2.1 := by
  refine ⟨am_m211, rfl, fun av hp hH hP ha hf => ?_⟩
  match av, ha with
  | [v1], ha =>
    obtain ⟨⟨i, rfl, -, hi⟩, -⟩ := ha
    have hi : i = 66 := by simpa using hi
    subst hi
    refine lt_run hH hP.1 (fun hp1 m hI => ⟨hI.1, P0_fr hp hp1 (fun c k hc => hI.2.1 c k (LT_Pr hc)) hP, hI.2.1, _, List.mem_cons_self, trivial, fun f hf => by cases hf⟩)
end
/-! ##### 15.g.by ##### -/
section
/-! ===== by ===== -/
theorem s234_0 : am_m234.1 = [(0, .iload_n 1, 0, 0), (1, .aload_n 0, 0, 0), (2, .invokevirtual 95, 203, 0), (5, .irem, 0, 0), (6, .istore_n 2, 0, 0), (7, .iload_n 2, 0, 0), (8, .ifCond .ge 12, 20, 0), (11, .iload_n 2, 0, 0), (12, .aload_n 0, 0, 0), (13, .invokevirtual 95, 203, 0), (16, .iadd, 0, 0), (17, .goto 4, 21, 0), (20, .iload_n 2, 0, 0), (21, .ireturn, 0, 0)] := rfl
theorem s234_20 : amSeek am_m234.1 20 = [(20, .iload_n 2, 0, 0), (21, .ireturn, 0, 0)] := rfl
theorem s234_21 : amSeek am_m234.1 21 = [(21, .ireturn, 0, 0)] := rfl
theorem p234r : am_m234.2.2.2.2.1 = some .int := rfl
theorem p234b : am_m234.2.1 = 3 := rfl
theorem m_by {hp : amH} {w : List Int32} (h : mW hp w) {k : Int32} (hp3 : 3 ≤ (w.getD 0 0).toInt) (hp15 : (w.getD 0 0).toInt ≤ 15) (f d : Nat) :
    ∃ v : Int32, 0 ≤ v.toInt ∧ v.toInt < (w.getD 0 0).toInt ∧ amRun amGG none (f + 30) (d + 1) am_m234 am_m234.1 0 [(0, .ref 66), (1, .int k)] [] hp 0 0 = some (.inl (some (.int v)), hp, 0, 0) := by
  have hl : 66 < hp.length := by
    obtain ⟨⟨cm, h1, h2⟩, h3, h4⟩ := h
    exact a_lt h1
  have q1 := m_pointsF h
  obtain ⟨⟨cm, h1, h2⟩, h3, h4⟩ := h
  have h1' : hp[66] = (11, cm) := by rw [List.getElem?_eq_getElem hl] at h1; exact Option.some.inj h1
  generalize w.getD 0 0 = p at q1 hp3 hp15 ⊢
  have hm : (k - k / p * p).toInt = k.toInt.tmod p.toInt := rem_toInt _ _
  have hlt : (k.toInt.tmod p.toInt).natAbs < p.toInt.natAbs := by
    rw [Int.natAbs_tmod]
    exact Nat.mod_lt _ (by omega)
  have hp0 : ¬ p = 0 := fun z => by rw [z] at hp3; exact absurd hp3 (by decide)
  generalize hR : k - k / p * p = R at hm hlt
  by_cases hv : 0 ≤ R
  · refine ⟨R, ?_, by omega, ?_⟩
    · have := Int32.le_iff_toInt_le.mp hv
      exact this
    · rw [s234_0]
      simp [amRun, amDo, amStep, amLd, amGet, isA_ref, isI_int, f4_2, f4_3, amNext, s234_20, s234_21, amCall, g203, lv_args, amOkL, amOkS, amOk, amRecv, h1, hl, Value.category, q1, amRetV, narrow, p203a, p203b, p203c, h1', amIf, amIfP, amDiv, hR, hv, hp0, amSt1, amSet1, p234b, p234r]
  · have hv2 : R.toInt < 0 := by
      have : ¬ (0 : Int) ≤ R.toInt := fun z => hv (Int32.le_iff_toInt_le.mpr z)
      omega
    have hs : (R + p).toInt = R.toInt + p.toInt := by rw [Int32.toInt_add, aBmod (by omega) (by omega)]
    refine ⟨R + p, by omega, by omega, ?_⟩
    rw [s234_0]
    simp [amRun, amDo, amStep, amLd, amGet, isA_ref, isI_int, f4_2, f4_3, amNext, s234_20, s234_21, amCall, g203, lv_args, amOkL, amOkS, amOk, amRecv, h1, hl, Value.category, q1, amRetV, narrow, p203a, p203b, p203c, h1', amIf, amIfP, amDiv, hR, hv, hp0, amII, amSt1, amSet1, p234b, p234r]
noncomputable def be_h234 : bEt := (234, ([.inr (.inr [66]), .inl (0, 4294967295)], [], 1, [], [], [(some (.inl (2147483648, 2147483662)), [])]), [], 0, [])
theorem h234_s : bSem amGG P0 84 bTT be_h234.1 be_h234.2.1 := by
  refine ⟨am_m234, rfl, fun av hp hH hP ha _ => ?_⟩
  match av, ha with
  | [v, a], ha =>
    obtain ⟨⟨i, rfl, -, hi⟩, ⟨x, rfl, -⟩, -⟩ := ha
    have hi : i = 66 := by simpa using hi
    subst hi
    obtain ⟨w, hw, hr⟩ := r_mW hH
    have h0 := hr 0 (by omega)
    have k1 := hP.1.1
    have k2 := hP.1.2.1
    rw [h0] at k1 k2
    obtain ⟨v, g1, g2, g3⟩ := m_by hw (k := x) k1 k2 0 0
    refine ⟨30, .inl (some (.int v)), hp, g3, hH, hP, bFr.refl _ _, _, List.mem_cons_self, ⟨_, rfl, ?_⟩, fun f hf => by cases hf⟩
    have := aOff_eq v
    dsimp only
    omega
end
/-! ##### 15.h.bits ##### -/
section
/-! ===== bits ===== -/
noncomputable def ush (x y : Int32) : Int32 := (x.toUInt32 >>> (y.toUInt32 &&& Int32.toUInt32 31)).toInt32
noncomputable def bc1 (x : Int32) : Int32 := x - (ush x 1 &&& Int32.ofNat 1431655765)
noncomputable def bc2 (x : Int32) : Int32 := (x &&& Int32.ofNat 858993459) + (ush x 2 &&& Int32.ofNat 858993459)
noncomputable def bc3 (x : Int32) : Int32 := (x + ush x 4) &&& Int32.ofNat 252645135
noncomputable def bc4 (x : Int32) : Int32 := x + ush x 8
noncomputable def bc5 (x : Int32) : Int32 := x + ush x 16
noncomputable def bcF (x : Int32) : Int32 := bc5 (bc4 (bc3 (bc2 (bc1 x)))) &&& 63
theorem p343r : am_m343.2.2.2.2.1 = some .int := rfl
theorem p343b : am_m343.2.1 = 1 := rfl
theorem s343_0 : am_m343.1 = (0, .iload_n 0, 0, 0) :: (1, .iload_n 0, 0, 0) :: (2, .iconst 1, 0, 0) :: (3, .iushr, 0, 0) :: (4, .ldc_w 265, 1431655765, 0) :: (7, .iand, 0, 0) :: (8, .isub, 0, 0) :: (9, .istore_n 0, 0, 0) :: amSeek am_m343.1 10 := rfl
theorem s343_10 : amSeek am_m343.1 10 = (10, .iload_n 0, 0, 0) :: (11, .ldc_w 266, 858993459, 0) :: (14, .iand, 0, 0) :: (15, .iload_n 0, 0, 0) ::
  (16, .iconst 2, 0, 0) :: (17, .iushr, 0, 0) :: (18, .ldc_w 266, 858993459, 0) :: (21, .iand, 0, 0) :: (22, .iadd, 0, 0) :: (23, .istore_n 0, 0, 0) :: amSeek am_m343.1 24 := rfl
theorem s343_24 : amSeek am_m343.1 24 = (24, .iload_n 0, 0, 0) :: (25, .iload_n 0, 0, 0) :: (26, .iconst 4, 0, 0) :: (27, .iushr, 0, 0) :: (28, .iadd, 0, 0) :: (29, .ldc_w 267, 252645135, 0) ::
  (32, .iand, 0, 0) :: (33, .istore_n 0, 0, 0) :: amSeek am_m343.1 34 := rfl
theorem s343_34 : amSeek am_m343.1 34 = (34, .iload_n 0, 0, 0) :: (35, .iload_n 0, 0, 0) :: (36, .bipush 8, 0, 0) :: (38, .iushr, 0, 0) :: (39, .iadd, 0, 0) :: (40, .istore_n 0, 0, 0) :: amSeek am_m343.1 41 := rfl
theorem s343_41 : amSeek am_m343.1 41 = (41, .iload_n 0, 0, 0) :: (42, .iload_n 0, 0, 0) :: (43, .bipush 16, 0, 0) :: (45, .iushr, 0, 0) ::
  (46, .iadd, 0, 0) :: (47, .istore_n 0, 0, 0) :: amSeek am_m343.1 48 := rfl
theorem s343_48 : amSeek am_m343.1 48 = [(48, .iload_n 0, 0, 0), (49, .bipush 63, 0, 0), (51, .iand, 0, 0), (52, .ireturn, 0, 0)] := rfl
section W343
variable {G : Nat → Option amM} {hp : amH} {x : Int32}
theorem w343_0 (f d : Nat) : amRun G none (f + 8) d am_m343 am_m343.1 0 [(0, .int x)] [] hp 0 0 = amRun G none f d am_m343 (amSeek am_m343.1 10) 10 [(0, .int (bc1 x))] [] hp 0 0 := by
  conv => lhs; rw [s343_0]
  simp [amRun, amDo, amStep, amLd, amGet, isI_int, amNext, amII, amSt1, amSet1, p343b, Value.category, bc1, ush]
  simp [s343_10]
theorem w343_10 (f d : Nat) : amRun G none (f + 10) d am_m343 (amSeek am_m343.1 10) 10 [(0, .int x)] [] hp 0 0 = amRun G none f d am_m343 (amSeek am_m343.1 24) 24 [(0, .int (bc2 x))] [] hp 0 0 := by
  rw [s343_10]
  simp [amRun, amDo, amStep, amLd, amGet, isI_int, amNext, amII, amSt1, amSet1, p343b, Value.category, bc2, ush]
  simp [s343_24]
theorem w343_24 (f d : Nat) : amRun G none (f + 8) d am_m343 (amSeek am_m343.1 24) 24 [(0, .int x)] [] hp 0 0 = amRun G none f d am_m343 (amSeek am_m343.1 34) 34 [(0, .int (bc3 x))] [] hp 0 0 := by
  rw [s343_24]
  simp [amRun, amDo, amStep, amLd, amGet, isI_int, amNext, amII, amSt1, amSet1, p343b, Value.category, bc3, ush]
  simp [s343_34]
theorem w343_34 (f d : Nat) : amRun G none (f + 6) d am_m343 (amSeek am_m343.1 34) 34 [(0, .int x)] [] hp 0 0 = amRun G none f d am_m343 (amSeek am_m343.1 41) 41 [(0, .int (bc4 x))] [] hp 0 0 := by
  rw [s343_34]
  simp [amRun, amDo, amStep, amLd, amGet, isI_int, amNext, amII, amSt1, amSet1, p343b, Value.category, bc4, ush]
  simp [s343_41]
theorem w343_41 (f d : Nat) : amRun G none (f + 6) d am_m343 (amSeek am_m343.1 41) 41 [(0, .int x)] [] hp 0 0 = amRun G none f d am_m343 (amSeek am_m343.1 48) 48 [(0, .int (bc5 x))] [] hp 0 0 := by
  rw [s343_41]
  simp [amRun, amDo, amStep, amLd, amGet, isI_int, amNext, amII, amSt1, amSet1, p343b, Value.category, bc5, ush]
  simp [s343_48]
theorem m_bits (f d : Nat) : amRun G none (f + 42) d am_m343 am_m343.1 0 [(0, .int x)] [] hp 0 0 = some (.inl (some (.int (bcF x))), hp, 0, 0) := by
  rw [show f + 42 = f + 34 + 8 by omega, w343_0, show f + 34 = f + 24 + 10 by omega, w343_10, show f + 24 = f + 16 + 8 by omega, w343_24, show f + 16 = f + 10 + 6 by omega, w343_34, show f + 10 = f + 4 + 6 by omega, w343_41, s343_48]
  simp [amRun, amDo, amStep, amLd, amGet, isI_int, amNext, amII, amRetV, narrow, p343r, bcF]
end W343
noncomputable def nt0 (x : Int32) : Int32 := (x ^^^ (-1)) &&& (x - 1)
noncomputable def nt16 (q : Int32 × Int32) : Int32 × Int32 := if q.1 ≤ 65536 then q else (ush q.1 16, q.2 + 16)
noncomputable def nt8 (q : Int32 × Int32) : Int32 × Int32 := if q.1 ≤ 256 then q else (ush q.1 8, q.2 + 8)
noncomputable def nt4 (q : Int32 × Int32) : Int32 × Int32 := if q.1 ≤ 16 then q else (ush q.1 4, q.2 + 4)
noncomputable def nt2 (q : Int32 × Int32) : Int32 × Int32 := if q.1 ≤ 4 then q else (ush q.1 2, q.2 + 2)
noncomputable def ntE (q : Int32 × Int32) : Int32 := q.2 + ush q.1 1
noncomputable def ntF (x : Int32) : Int32 := if 0 < nt0 x then ntE (nt2 (nt4 (nt8 (nt16 (nt0 x, 1))))) else nt0 x &&& 32
theorem p342r : am_m342.2.2.2.2.1 = some .int := rfl
theorem p342b : am_m342.2.1 = 2 := rfl
theorem s342_0 : am_m342.1 = (0, .iload_n 0, 0, 0) :: (1, .iconst (-1), 0, 0) :: (2, .ixor, 0, 0) :: (3, .iload_n 0, 0, 0) :: (4, .iconst 1, 0, 0) :: (5, .isub, 0, 0) :: (6, .iand, 0, 0) :: (7, .istore_n 0, 0, 0) :: amSeek am_m342.1 8 := rfl
theorem s342_8 : amSeek am_m342.1 8 = (8, .iload_n 0, 0, 0) :: (9, .ifCond .gt 8, 17, 0) :: (12, .iload_n 0, 0, 0) :: (13, .bipush 32, 0, 0) :: (15, .iand, 0, 0) :: (16, .ireturn, 0, 0) :: amSeek am_m342.1 17 := rfl
theorem s342_17 : amSeek am_m342.1 17 = (17, .iconst 1, 0, 0) :: (18, .istore_n 1, 0, 0) :: amSeek am_m342.1 19 := rfl
theorem s342_19 : amSeek am_m342.1 19 = (19, .iload_n 0, 0, 0) :: (20, .ldc_w 264, 65536, 0) :: (23, .if_icmp .le 11, 34, 0) :: (26, .iinc 1 16, 0, 0) :: (29, .iload_n 0, 0, 0) :: (30, .bipush 16, 0, 0) :: (32, .iushr, 0, 0) :: (33, .istore_n 0, 0, 0) :: amSeek am_m342.1 34 := rfl
theorem s342_34 : amSeek am_m342.1 34 = (34, .iload_n 0, 0, 0) :: (35, .sipush 256, 0, 0) :: (38, .if_icmp .le 11, 49, 0) :: (41, .iinc 1 8, 0, 0) :: (44, .iload_n 0, 0, 0) :: (45, .bipush 8, 0, 0) :: (47, .iushr, 0, 0) :: (48, .istore_n 0, 0, 0) :: amSeek am_m342.1 49 := rfl
theorem s342_49 : amSeek am_m342.1 49 = (49, .iload_n 0, 0, 0) :: (50, .bipush 16, 0, 0) :: (52, .if_icmp .le 10, 62, 0) :: (55, .iinc 1 4, 0, 0) :: (58, .iload_n 0, 0, 0) :: (59, .iconst 4, 0, 0) :: (60, .iushr, 0, 0) :: (61, .istore_n 0, 0, 0) :: amSeek am_m342.1 62 := rfl
theorem s342_62 : amSeek am_m342.1 62 = (62, .iload_n 0, 0, 0) :: (63, .iconst 4, 0, 0) :: (64, .if_icmp .le 10, 74, 0) :: (67, .iinc 1 2, 0, 0) :: (70, .iload_n 0, 0, 0) :: (71, .iconst 2, 0, 0) :: (72, .iushr, 0, 0) :: (73, .istore_n 0, 0, 0) :: amSeek am_m342.1 74 := rfl
theorem s342_74 : amSeek am_m342.1 74 = [(74, .iload_n 1, 0, 0), (75, .iload_n 0, 0, 0), (76, .iconst 1, 0, 0), (77, .iushr, 0, 0), (78, .iadd, 0, 0), (79, .ireturn, 0, 0)] := rfl
end
/-! ##### 15.ha.pop ##### -/
section
/-! ===== bits counted, as numbers ===== -/
noncomputable def pN (x : Int32) : Nat := x.toBitVec.toNat
theorem pN_t {x : Int32} {n : Nat} (h : x.toInt = (n : Int)) : pN x = n := by
  have e : x.toInt = x.toBitVec.toInt := rfl
  rw [BitVec.toInt_eq_toNat_cond] at e
  have := x.toBitVec.isLt
  unfold pN
  split at e <;> omega
theorem t_pN {x : Int32} (h : pN x < 2147483648) : x.toInt = (pN x : Int) := by
  have e : x.toInt = x.toBitVec.toInt := rfl
  rw [BitVec.toInt_eq_toNat_cond] at e
  unfold pN at h ⊢
  split at e <;> omega
theorem pN_and (x y : Int32) : pN (x &&& y) = pN x &&& pN y := by
  unfold pN
  rw [Int32.toBitVec_and, BitVec.toNat_and]
theorem pN_add {x y : Int32} (h : pN x + pN y < 4294967296) : pN (x + y) = pN x + pN y := by
  unfold pN at *
  rw [Int32.toBitVec_add, BitVec.toNat_add]
  exact Nat.mod_eq_of_lt h
theorem pN_sub {x y : Int32} (h : pN y ≤ pN x) : pN (x - y) = pN x - pN y := by
  have l := x.toBitVec.isLt
  unfold pN at *
  rw [Int32.toBitVec_sub, BitVec.toNat_sub]
  omega
theorem pN_ush (x k : Int32) (m : Nat) (hk : (k.toUInt32 &&& Int32.toUInt32 31).toNat % 32 = m) : pN (ush x k) = pN x >>> m := by
  have h := UInt32.toNat_shiftRight x.toUInt32 (k.toUInt32 &&& Int32.toUInt32 31)
  rw [hk] at h
  exact h
noncomputable def bn1 (n : Nat) : Nat := n - (n >>> 1 &&& 1431655765)
noncomputable def bn2 (n : Nat) : Nat := (n &&& 858993459) + (n >>> 2 &&& 858993459)
noncomputable def bn3 (n : Nat) : Nat := (n + n >>> 4) &&& 252645135
noncomputable def bn4 (n : Nat) : Nat := n + n >>> 8
noncomputable def bn5 (n : Nat) : Nat := n + n >>> 16
noncomputable def bcM (n : Nat) : Nat := bn5 (bn4 (bn3 (bn2 (bn1 n)))) &&& 63
theorem sr_le (n k : Nat) : n >>> k ≤ n := by rw [Nat.shiftRight_eq_div_pow]; exact Nat.div_le_self _ _
theorem bs1 {x : Int32} (h : pN x < 32768) : pN (bc1 x) = bn1 (pN x) ∧ bn1 (pN x) < 32768 := by
  have c : pN (Int32.ofNat 1431655765) = 1431655765 := by decide +kernel
  have e := pN_and (ush x 1) (Int32.ofNat 1431655765)
  rw [pN_ush x 1 1 (by decide), c] at e
  have l1 : pN x >>> 1 &&& 1431655765 ≤ pN x >>> 1 := Nat.and_le_left
  have l2 := sr_le (pN x) 1
  unfold bc1 bn1
  refine ⟨by rw [pN_sub (by omega), e], by omega⟩
theorem bs2 {x : Int32} (h : pN x < 32768) : pN (bc2 x) = bn2 (pN x) ∧ bn2 (pN x) < 65536 := by
  have c : pN (Int32.ofNat 858993459) = 858993459 := by decide +kernel
  have e := pN_and (ush x 2) (Int32.ofNat 858993459)
  rw [pN_ush x 2 2 (by decide), c] at e
  have e2 := pN_and x (Int32.ofNat 858993459)
  rw [c] at e2
  have l1 : pN x >>> 2 &&& 858993459 ≤ pN x >>> 2 := Nat.and_le_left
  have l2 := sr_le (pN x) 2
  have l3 : pN x &&& 858993459 ≤ pN x := Nat.and_le_left
  unfold bc2 bn2
  refine ⟨by rw [pN_add (by omega), e, e2], by omega⟩
theorem bs3 {x : Int32} (h : pN x < 65536) : pN (bc3 x) = bn3 (pN x) ∧ bn3 (pN x) < 131072 := by
  have c : pN (Int32.ofNat 252645135) = 252645135 := by decide +kernel
  have e := pN_ush x 4 4 (by decide)
  have l2 := sr_le (pN x) 4
  have e1 : pN (x + ush x 4) = pN x + pN x >>> 4 := by rw [pN_add (by omega), e]
  have l1 : (pN x + pN x >>> 4) &&& 252645135 ≤ pN x + pN x >>> 4 := Nat.and_le_left
  unfold bc3 bn3
  refine ⟨by rw [pN_and, e1, c], by omega⟩
theorem bs4 {x : Int32} (h : pN x < 131072) : pN (bc4 x) = bn4 (pN x) ∧ bn4 (pN x) < 262144 := by
  have e := pN_ush x 8 8 (by decide)
  have l2 := sr_le (pN x) 8
  unfold bc4 bn4
  refine ⟨by rw [pN_add (by omega), e], by omega⟩
theorem bs5 {x : Int32} (h : pN x < 262144) : pN (bc5 x) = bn5 (pN x) ∧ bn5 (pN x) < 524288 := by
  have e := pN_ush x 16 16 (by decide)
  have l2 := sr_le (pN x) 16
  unfold bc5 bn5
  refine ⟨by rw [pN_add (by omega), e], by omega⟩
theorem bcF_nat {x : Int32} (h : pN x < 32768) : (bcF x).toInt = ((bcM (pN x) : Nat) : Int) := by
  have c : pN (63 : Int32) = 63 := by decide
  obtain ⟨a1, b1⟩ := bs1 h
  obtain ⟨a2, b2⟩ := bs2 (x := bc1 x) (by omega)
  rw [a1] at a2 b2
  obtain ⟨a3, b3⟩ := bs3 (x := bc2 (bc1 x)) (by omega)
  rw [a2] at a3 b3
  obtain ⟨a4, b4⟩ := bs4 (x := bc3 (bc2 (bc1 x))) (by omega)
  rw [a3] at a4 b4
  obtain ⟨a5, b5⟩ := bs5 (x := bc4 (bc3 (bc2 (bc1 x)))) (by omega)
  rw [a4] at a5 b5
  have e : pN (bcF x) = bcM (pN x) := by
    unfold bcF bcM
    rw [pN_and, a5, c]
  have l : bcM (pN x) ≤ 63 := Nat.and_le_right
  rw [t_pN (by omega), e]
theorem bcF_m {i : Nat} (h : i < 32768) : (bcF (Int32.ofNat i)).toInt = ((bcM i : Nat) : Int) := by
  have e : pN (Int32.ofNat i) = i := pN_t (Int32.toInt_ofNat_of_lt (by omega))
  rw [bcF_nat (by omega), e]
noncomputable def b3Ok (i : Nat) : Bool := let x := Int32.ofNat i
  match Nat.beq (bcF x).toInt.toNat 3 with
  | true => let y := x &&& (x - 1)
    let a := (ntF x).toInt.toNat
    let b := (ntF y).toInt.toNat
    let c := (ntF (y &&& (y - 1))).toInt.toNat
    decide (0 ≤ (ntF x).toInt) && (decide (0 ≤ (ntF y).toInt) && (Nat.blt a b && (Nat.blt b c && (Nat.blt c 15 && Nat.beq i (2 ^ a ||| 2 ^ b ||| 2 ^ c)))))
  | false => true
noncomputable def b3N (i : Nat) : Bool := let x := Int32.ofNat i
  match Nat.beq (bcM i) 3 with
  | true => let y := x &&& (x - 1)
    let a := (ntF x).toInt.toNat
    let b := (ntF y).toInt.toNat
    let c := (ntF (y &&& (y - 1))).toInt.toNat
    decide (0 ≤ (ntF x).toInt) && (decide (0 ≤ (ntF y).toInt) && (Nat.blt a b && (Nat.blt b c && (Nat.blt c 15 && Nat.beq i (2 ^ a ||| 2 ^ b ||| 2 ^ c)))))
  | false => true
/-- bits summed -/
noncomputable def pbc : Nat → Nat → Nat
  | 0, _ => 0
  | k + 1, n => n % 2 + pbc k (n / 2)
theorem am4 {b c r : Nat} (m : Nat) (hb : b ≤ 1) (hc : c ≤ 1) : (b + 2 * (c + 2 * r)) &&& (4 * m + 1) = b + 4 * (r &&& m) := by
  have h1 : ((b + 2 * (c + 2 * r)) &&& (4 * m + 1)) / 2 ^ 2 = (b + 2 * (c + 2 * r)) / 2 ^ 2 &&& (4 * m + 1) / 2 ^ 2 := Nat.and_div_two_pow
  have h2 : ((b + 2 * (c + 2 * r)) &&& (4 * m + 1)) % 2 ^ 2 = ((b + 2 * (c + 2 * r)) % 2 ^ 2) &&& ((4 * m + 1) % 2 ^ 2) := Nat.and_mod_two_pow
  rw [show (b + 2 * (c + 2 * r)) / 2 ^ 2 = r by omega, show (4 * m + 1) / 2 ^ 2 = m by omega] at h1
  rw [show (4 * m + 1) % 2 ^ 2 = 1 by omega, Nat.and_one_is_mod] at h2
  omega
theorem am16 {f g r : Nat} (m : Nat) (hf : f < 4) (hg : g < 4) : (f + 4 * (g + 4 * r)) &&& (16 * m + 3) = f + 16 * (r &&& m) := by
  have h1 : ((f + 4 * (g + 4 * r)) &&& (16 * m + 3)) / 2 ^ 4 = (f + 4 * (g + 4 * r)) / 2 ^ 4 &&& (16 * m + 3) / 2 ^ 4 := Nat.and_div_two_pow
  have h2 : ((f + 4 * (g + 4 * r)) &&& (16 * m + 3)) % 2 ^ 4 = ((f + 4 * (g + 4 * r)) % 2 ^ 4) &&& ((16 * m + 3) % 2 ^ 4) := Nat.and_mod_two_pow
  have h3 : (f + 4 * (g + 4 * r)) % 2 ^ 4 &&& 3 = (f + 4 * (g + 4 * r)) % 2 ^ 4 % 4 := Nat.and_two_pow_sub_one_eq_mod _ 2
  rw [show (f + 4 * (g + 4 * r)) / 2 ^ 4 = r by omega, show (16 * m + 3) / 2 ^ 4 = m by omega] at h1
  rw [show (16 * m + 3) % 2 ^ 4 = 3 by omega, h3] at h2
  omega
theorem am256 {f g r : Nat} (m : Nat) (hf : f < 16) (hg : g < 16) : (f + 16 * (g + 16 * r)) &&& (256 * m + 15) = f + 256 * (r &&& m) := by
  have h1 : ((f + 16 * (g + 16 * r)) &&& (256 * m + 15)) / 2 ^ 8 = (f + 16 * (g + 16 * r)) / 2 ^ 8 &&& (256 * m + 15) / 2 ^ 8 := Nat.and_div_two_pow
  have h2 : ((f + 16 * (g + 16 * r)) &&& (256 * m + 15)) % 2 ^ 8 = ((f + 16 * (g + 16 * r)) % 2 ^ 8) &&& ((256 * m + 15) % 2 ^ 8) := Nat.and_mod_two_pow
  have h3 : (f + 16 * (g + 16 * r)) % 2 ^ 8 &&& 15 = (f + 16 * (g + 16 * r)) % 2 ^ 8 % 16 := Nat.and_two_pow_sub_one_eq_mod _ 4
  rw [show (f + 16 * (g + 16 * r)) / 2 ^ 8 = r by omega, show (256 * m + 15) / 2 ^ 8 = m by omega] at h1
  rw [show (256 * m + 15) % 2 ^ 8 = 15 by omega, h3] at h2
  omega
theorem bn1_b {b0 b1 b2 b3 b4 b5 b6 b7 b8 b9 b10 b11 b12 b13 b14 : Nat} (h0 : b0 ≤ 1) (h1 : b1 ≤ 1) (h2 : b2 ≤ 1) (h3 : b3 ≤ 1) (h4 : b4 ≤ 1) (h5 : b5 ≤ 1) (h6 : b6 ≤ 1) (h7 : b7 ≤ 1) (h8 : b8 ≤ 1) (h9 : b9 ≤ 1) (h10 : b10 ≤ 1) (h11 : b11 ≤ 1) (h12 : b12 ≤ 1) (h13 : b13 ≤ 1) (h14 : b14 ≤ 1) : bn1 (b0 + 2 * (b1 + 2 * (b2 + 2 * (b3 + 2 * (b4 + 2 * (b5 + 2 * (b6 + 2 * (b7 + 2 * (b8 + 2 * (b9 + 2 * (b10 + 2 * (b11 + 2 * (b12 + 2 * (b13 + 2 * (b14 + 2 * (0)))))))))))))))) = (b0 + b1) + 4 * ((b2 + b3) + 4 * ((b4 + b5) + 4 * ((b6 + b7) + 4 * ((b8 + b9) + 4 * ((b10 + b11) + 4 * ((b12 + b13) + 4 * (b14 + 4 * (0 + 4 * (0))))))))) := by
  have e : (b0 + 2 * (b1 + 2 * (b2 + 2 * (b3 + 2 * (b4 + 2 * (b5 + 2 * (b6 + 2 * (b7 + 2 * (b8 + 2 * (b9 + 2 * (b10 + 2 * (b11 + 2 * (b12 + 2 * (b13 + 2 * (b14 + 2 * (0)))))))))))))))) >>> 1 = b1 + 2 * (b2 + 2 * (b3 + 2 * (b4 + 2 * (b5 + 2 * (b6 + 2 * (b7 + 2 * (b8 + 2 * (b9 + 2 * (b10 + 2 * (b11 + 2 * (b12 + 2 * (b13 + 2 * (b14 + 2 * (0)))))))))))))) := by rw [Nat.shiftRight_eq_div_pow]; omega
  have e0 : (b1 + 2 * (b2 + 2 * (b3 + 2 * (b4 + 2 * (b5 + 2 * (b6 + 2 * (b7 + 2 * (b8 + 2 * (b9 + 2 * (b10 + 2 * (b11 + 2 * (b12 + 2 * (b13 + 2 * (b14 + 2 * (0))))))))))))))) &&& 1431655765 = b1 + 4 * ((b3 + 2 * (b4 + 2 * (b5 + 2 * (b6 + 2 * (b7 + 2 * (b8 + 2 * (b9 + 2 * (b10 + 2 * (b11 + 2 * (b12 + 2 * (b13 + 2 * (b14 + 2 * (0))))))))))))) &&& 357913941) := am4 357913941 h1 h2
  have e1 : (b3 + 2 * (b4 + 2 * (b5 + 2 * (b6 + 2 * (b7 + 2 * (b8 + 2 * (b9 + 2 * (b10 + 2 * (b11 + 2 * (b12 + 2 * (b13 + 2 * (b14 + 2 * (0))))))))))))) &&& 357913941 = b3 + 4 * ((b5 + 2 * (b6 + 2 * (b7 + 2 * (b8 + 2 * (b9 + 2 * (b10 + 2 * (b11 + 2 * (b12 + 2 * (b13 + 2 * (b14 + 2 * (0))))))))))) &&& 89478485) := am4 89478485 h3 h4
  have e2 : (b5 + 2 * (b6 + 2 * (b7 + 2 * (b8 + 2 * (b9 + 2 * (b10 + 2 * (b11 + 2 * (b12 + 2 * (b13 + 2 * (b14 + 2 * (0))))))))))) &&& 89478485 = b5 + 4 * ((b7 + 2 * (b8 + 2 * (b9 + 2 * (b10 + 2 * (b11 + 2 * (b12 + 2 * (b13 + 2 * (b14 + 2 * (0))))))))) &&& 22369621) := am4 22369621 h5 h6
  have e3 : (b7 + 2 * (b8 + 2 * (b9 + 2 * (b10 + 2 * (b11 + 2 * (b12 + 2 * (b13 + 2 * (b14 + 2 * (0))))))))) &&& 22369621 = b7 + 4 * ((b9 + 2 * (b10 + 2 * (b11 + 2 * (b12 + 2 * (b13 + 2 * (b14 + 2 * (0))))))) &&& 5592405) := am4 5592405 h7 h8
  have e4 : (b9 + 2 * (b10 + 2 * (b11 + 2 * (b12 + 2 * (b13 + 2 * (b14 + 2 * (0))))))) &&& 5592405 = b9 + 4 * ((b11 + 2 * (b12 + 2 * (b13 + 2 * (b14 + 2 * (0))))) &&& 1398101) := am4 1398101 h9 h10
  have e5 : (b11 + 2 * (b12 + 2 * (b13 + 2 * (b14 + 2 * (0))))) &&& 1398101 = b11 + 4 * ((b13 + 2 * (b14 + 2 * (0))) &&& 349525) := am4 349525 h11 h12
  have e6 : (b13 + 2 * (b14 + 2 * (0))) &&& 349525 = b13 + 4 * ((0) &&& 87381) := am4 87381 h13 h14
  unfold bn1
  rw [e, e0, e1, e2, e3, e4, e5, e6, Nat.zero_and]
  omega
theorem bn2_b {f0 f1 f2 f3 f4 f5 f6 f7 : Nat} (h0 : f0 < 4) (h1 : f1 < 4) (h2 : f2 < 4) (h3 : f3 < 4) (h4 : f4 < 4) (h5 : f5 < 4) (h6 : f6 < 4) (h7 : f7 < 4) : bn2 (f0 + 4 * (f1 + 4 * (f2 + 4 * (f3 + 4 * (f4 + 4 * (f5 + 4 * (f6 + 4 * (f7 + 4 * (0 + 4 * (0)))))))))) = (f0 + f1) + 16 * ((f2 + f3) + 16 * ((f4 + f5) + 16 * ((f6 + f7) + 16 * (0 + 16 * (0))))) := by
  have e : (f0 + 4 * (f1 + 4 * (f2 + 4 * (f3 + 4 * (f4 + 4 * (f5 + 4 * (f6 + 4 * (f7 + 4 * (0 + 4 * (0)))))))))) >>> 2 = f1 + 4 * (f2 + 4 * (f3 + 4 * (f4 + 4 * (f5 + 4 * (f6 + 4 * (f7 + 4 * (0 + 4 * (0)))))))) := by rw [Nat.shiftRight_eq_div_pow]; omega
  have a0 : (f0 + 4 * (f1 + 4 * (f2 + 4 * (f3 + 4 * (f4 + 4 * (f5 + 4 * (f6 + 4 * (f7 + 4 * (0 + 4 * (0)))))))))) &&& 858993459 = f0 + 16 * ((f2 + 4 * (f3 + 4 * (f4 + 4 * (f5 + 4 * (f6 + 4 * (f7 + 4 * (0 + 4 * (0)))))))) &&& 53687091) := am16 53687091 h0 h1
  have a1 : (f2 + 4 * (f3 + 4 * (f4 + 4 * (f5 + 4 * (f6 + 4 * (f7 + 4 * (0 + 4 * (0)))))))) &&& 53687091 = f2 + 16 * ((f4 + 4 * (f5 + 4 * (f6 + 4 * (f7 + 4 * (0 + 4 * (0)))))) &&& 3355443) := am16 3355443 h2 h3
  have a2 : (f4 + 4 * (f5 + 4 * (f6 + 4 * (f7 + 4 * (0 + 4 * (0)))))) &&& 3355443 = f4 + 16 * ((f6 + 4 * (f7 + 4 * (0 + 4 * (0)))) &&& 209715) := am16 209715 h4 h5
  have a3 : (f6 + 4 * (f7 + 4 * (0 + 4 * (0)))) &&& 209715 = f6 + 16 * ((0 + 4 * (0)) &&& 13107) := am16 13107 h6 h7
  have c0 : (f1 + 4 * (f2 + 4 * (f3 + 4 * (f4 + 4 * (f5 + 4 * (f6 + 4 * (f7 + 4 * (0 + 4 * (0))))))))) &&& 858993459 = f1 + 16 * ((f3 + 4 * (f4 + 4 * (f5 + 4 * (f6 + 4 * (f7 + 4 * (0 + 4 * (0))))))) &&& 53687091) := am16 53687091 h1 h2
  have c1 : (f3 + 4 * (f4 + 4 * (f5 + 4 * (f6 + 4 * (f7 + 4 * (0 + 4 * (0))))))) &&& 53687091 = f3 + 16 * ((f5 + 4 * (f6 + 4 * (f7 + 4 * (0 + 4 * (0))))) &&& 3355443) := am16 3355443 h3 h4
  have c2 : (f5 + 4 * (f6 + 4 * (f7 + 4 * (0 + 4 * (0))))) &&& 3355443 = f5 + 16 * ((f7 + 4 * (0 + 4 * (0))) &&& 209715) := am16 209715 h5 h6
  have c3 : (f7 + 4 * (0 + 4 * (0))) &&& 209715 = f7 + 16 * ((0) &&& 13107) := am16 13107 h7 (by decide)
  have z : (0 + 4 * 0 : Nat) &&& 13107 = 0 := by decide
  unfold bn2
  rw [e, a0, a1, a2, a3, c0, c1, c2, c3, z]
  omega
theorem bn3_b {g0 g1 g2 g3 : Nat} (h0 : g0 ≤ 4) (h1 : g1 ≤ 4) (h2 : g2 ≤ 4) (h3 : g3 ≤ 4) : bn3 (g0 + 16 * (g1 + 16 * (g2 + 16 * (g3 + 16 * (0 + 16 * (0)))))) = (g0 + g1) + 256 * ((g2 + g3) + 256 * 0) := by
  have e : (g0 + 16 * (g1 + 16 * (g2 + 16 * (g3 + 16 * (0 + 16 * (0)))))) + (g0 + 16 * (g1 + 16 * (g2 + 16 * (g3 + 16 * (0 + 16 * (0)))))) >>> 4 = (g0 + g1) + 16 * ((g1 + g2) + 16 * ((g2 + g3) + 16 * (g3 + 16 * (0)))) := by rw [Nat.shiftRight_eq_div_pow]; omega
  have a0 : ((g0 + g1) + 16 * ((g1 + g2) + 16 * ((g2 + g3) + 16 * (g3 + 16 * (0))))) &&& 252645135 = (g0 + g1) + 256 * (((g2 + g3) + 16 * (g3 + 16 * (0))) &&& 986895) := am256 986895 (by omega) (by omega)
  have a1 : ((g2 + g3) + 16 * (g3 + 16 * (0))) &&& 986895 = (g2 + g3) + 256 * (0 &&& 3855) := am256 3855 (by omega) (by omega)
  unfold bn3
  rw [e, a0, a1, Nat.zero_and]
theorem bn45 {X Y : Nat} (hX : X ≤ 8) (hY : Y ≤ 8) : bn5 (bn4 (X + 256 * (Y + 256 * 0))) &&& 63 = X + Y := by
  have e8 : (X + 256 * (Y + 256 * 0)) >>> 8 = Y := by rw [Nat.shiftRight_eq_div_pow]; omega
  have e16 : (X + 256 * (Y + 256 * 0) + Y) >>> 16 = 0 := by rw [Nat.shiftRight_eq_div_pow]; omega
  have e6 : (X + 256 * (Y + 256 * 0) + Y + 0) &&& 63 = (X + 256 * (Y + 256 * 0) + Y + 0) % 64 := Nat.and_two_pow_sub_one_eq_mod _ 6
  unfold bn5 bn4
  rw [e8, e16, e6]
  omega
theorem bcM_b {b0 b1 b2 b3 b4 b5 b6 b7 b8 b9 b10 b11 b12 b13 b14 : Nat} (h0 : b0 ≤ 1) (h1 : b1 ≤ 1) (h2 : b2 ≤ 1) (h3 : b3 ≤ 1) (h4 : b4 ≤ 1) (h5 : b5 ≤ 1) (h6 : b6 ≤ 1) (h7 : b7 ≤ 1) (h8 : b8 ≤ 1) (h9 : b9 ≤ 1) (h10 : b10 ≤ 1) (h11 : b11 ≤ 1) (h12 : b12 ≤ 1) (h13 : b13 ≤ 1) (h14 : b14 ≤ 1) : bcM (b0 + 2 * (b1 + 2 * (b2 + 2 * (b3 + 2 * (b4 + 2 * (b5 + 2 * (b6 + 2 * (b7 + 2 * (b8 + 2 * (b9 + 2 * (b10 + 2 * (b11 + 2 * (b12 + 2 * (b13 + 2 * (b14 + 2 * (0)))))))))))))))) = b0 + (b1 + (b2 + (b3 + (b4 + (b5 + (b6 + (b7 + (b8 + (b9 + (b10 + (b11 + (b12 + (b13 + (b14 + (0))))))))))))))) := by
  unfold bcM
  rw [bn1_b h0 h1 h2 h3 h4 h5 h6 h7 h8 h9 h10 h11 h12 h13 h14, bn2_b (by omega) (by omega) (by omega) (by omega) (by omega) (by omega) (by omega) (by omega), bn3_b (by omega) (by omega) (by omega) (by omega), bn45 (by omega) (by omega)]
  omega
theorem st2 {n X : Nat} (h : X = n / 2) : n % 2 + 2 * X = n := by omega
theorem md2 (n : Nat) : n % 2 ≤ 1 := by omega
theorem bcM_pc {i : Nat} (h : i < 32768) : bcM i = pbc 15 i := by
  have e : i % 2 + 2 * (i / 2 % 2 + 2 * (i / 2 / 2 % 2 + 2 * (i / 2 / 2 / 2 % 2 + 2 * (i / 2 / 2 / 2 / 2 % 2 + 2 * (i / 2 / 2 / 2 / 2 / 2 % 2 + 2 * (i / 2 / 2 / 2 / 2 / 2 / 2 % 2 + 2 * (i / 2 / 2 / 2 / 2 / 2 / 2 / 2 % 2 + 2 * (i / 2 / 2 / 2 / 2 / 2 / 2 / 2 / 2 % 2 + 2 * (i / 2 / 2 / 2 / 2 / 2 / 2 / 2 / 2 / 2 % 2 + 2 * (i / 2 / 2 / 2 / 2 / 2 / 2 / 2 / 2 / 2 / 2 % 2 + 2 * (i / 2 / 2 / 2 / 2 / 2 / 2 / 2 / 2 / 2 / 2 / 2 % 2 + 2 * (i / 2 / 2 / 2 / 2 / 2 / 2 / 2 / 2 / 2 / 2 / 2 / 2 % 2 + 2 * (i / 2 / 2 / 2 / 2 / 2 / 2 / 2 / 2 / 2 / 2 / 2 / 2 / 2 % 2 + 2 * (i / 2 / 2 / 2 / 2 / 2 / 2 / 2 / 2 / 2 / 2 / 2 / 2 / 2 / 2 % 2 + 2 * (0))))))))))))))) = i := st2 (st2 (st2 (st2 (st2 (st2 (st2 (st2 (st2 (st2 (st2 (st2 (st2 (st2 (st2 (by omega)))))))))))))))
  have k := bcM_b (md2 (i)) (md2 (i / 2)) (md2 (i / 2 / 2)) (md2 (i / 2 / 2 / 2)) (md2 (i / 2 / 2 / 2 / 2)) (md2 (i / 2 / 2 / 2 / 2 / 2)) (md2 (i / 2 / 2 / 2 / 2 / 2 / 2)) (md2 (i / 2 / 2 / 2 / 2 / 2 / 2 / 2)) (md2 (i / 2 / 2 / 2 / 2 / 2 / 2 / 2 / 2)) (md2 (i / 2 / 2 / 2 / 2 / 2 / 2 / 2 / 2 / 2)) (md2 (i / 2 / 2 / 2 / 2 / 2 / 2 / 2 / 2 / 2 / 2)) (md2 (i / 2 / 2 / 2 / 2 / 2 / 2 / 2 / 2 / 2 / 2 / 2)) (md2 (i / 2 / 2 / 2 / 2 / 2 / 2 / 2 / 2 / 2 / 2 / 2 / 2)) (md2 (i / 2 / 2 / 2 / 2 / 2 / 2 / 2 / 2 / 2 / 2 / 2 / 2 / 2)) (md2 (i / 2 / 2 / 2 / 2 / 2 / 2 / 2 / 2 / 2 / 2 / 2 / 2 / 2 / 2))
  rw [e] at k
  exact k
/-- three points' masks: the sets with three bits only are looked at -/
noncomputable def lfOk (i : Nat) : Bool := let x := Int32.ofNat i
  let y := x &&& (x - 1)
  let a := (ntF x).toInt.toNat
  let b := (ntF y).toInt.toNat
  let c := (ntF (y &&& (y - 1))).toInt.toNat
  decide (0 ≤ (ntF x).toInt) && (decide (0 ≤ (ntF y).toInt) && (Nat.blt a b && (Nat.blt b c && (Nat.blt c 15 && Nat.beq i (2 ^ a ||| 2 ^ b ||| 2 ^ c)))))
noncomputable def ckB : Nat → Nat → Nat → Nat → Bool
  | 0, _, v, c => match Nat.beq c 3 with
    | true => lfOk v
    | false => true
  | k + 1, w, v, c => match Nat.ble c 3 with
    | true => ckB k (w + w) v c && ckB k (w + w) (v + w) (c + 1)
    | false => true
theorem ckB_s : ∀ (k w v c r : Nat), ckB k w v c = true → r < 2 ^ k → c + pbc k r = 3 → lfOk (v + w * r) = true
  | 0, w, v, c, r, h, hr, e => by
    have r0 : r = 0 := by rw [Nat.pow_zero] at hr; omega
    have c3 : c = 3 := e
    subst r0
    subst c3
    have h : lfOk v = true := h
    rw [Nat.mul_zero, Nat.add_zero]
    exact h
  | k + 1, w, v, c, r, h, hr, e => by
    have e : c + (r % 2 + pbc k (r / 2)) = 3 := e
    have hc : Nat.ble c 3 = true := Nat.ble_eq_true_of_le (by omega)
    have h : (match Nat.ble c 3 with
      | true => ckB k (w + w) v c && ckB k (w + w) (v + w) (c + 1)
      | false => true) = true := h
    rw [hc] at h
    have h : (ckB k (w + w) v c && ckB k (w + w) (v + w) (c + 1)) = true := h
    rw [Bool.and_eq_true] at h
    rw [Nat.pow_succ] at hr
    obtain ⟨t, ht, hd⟩ : ∃ t, (r = t + t ∨ r = t + t + 1) ∧ r / 2 = t := ⟨r / 2, by omega, rfl⟩
    rw [hd] at e
    rcases ht with ht | ht
    · have q := ckB_s k (w + w) v c t h.1 (by omega) (by omega)
      rw [ht, show w * (t + t) = (w + w) * t by rw [Nat.mul_add, Nat.add_mul]]
      exact q
    · have q := ckB_s k (w + w) (v + w) (c + 1) t h.2 (by omega) (by omega)
      rw [ht, show v + w * (t + t + 1) = v + w + (w + w) * t by rw [Nat.mul_succ, Nat.mul_add, Nat.add_mul]; omega]
      exact q
theorem ck_all : ckB 15 1 0 0 = true := by decide +kernel
theorem b3n_all {i : Nat} (h : i < 32768) : b3N i = true := by
  unfold b3N
  cases g : Nat.beq (bcM i) 3 with
  | true =>
    have q := ckB_s 15 1 0 0 i ck_all (show i < 2 ^ 15 from h) (by rw [← bcM_pc h, Nat.eq_of_beq_eq_true g])
    rw [Nat.zero_add, Nat.one_mul] at q
    exact q
  | false => rfl
theorem b3_all {i : Nat} (h : i < 32768) : b3Ok i = true := by
  have k := b3n_all h
  unfold b3N at k
  unfold b3Ok
  dsimp only at k ⊢
  rw [bcF_m h, Int.toNat_natCast]
  exact k
end
/-! ##### 15.i.zeros ##### -/
section
/-! ===== trailing zeros ===== -/
section W342
variable {cl : amL} {hp : amH} {q : Int32 × Int32} {Q : (Option Value ⊕ Nat) → amH → Prop} {d : Nat} {G : Nat → Option amM}
theorem w342_19 (l0 : amGet cl 0 = some (.int q.1)) (l1 : amGet cl 1 = some (.int q.2))
    (hw : ∀ cl1, amGet cl1 0 = some (.int (nt16 q).1) → amGet cl1 1 = some (.int (nt16 q).2) → bWp G d am_m342 (amSeek am_m342.1 34) 34 cl1 [] hp Q) : bWp G d am_m342 (amSeek am_m342.1 19) 19 cl [] hp Q := by
  unfold nt16 at hw
  by_cases h : q.1 ≤ 65536
  · rw [if_pos h] at hw
    refine bWp_of 3 (fun f => ?_) (hw cl l0 l1)
    rw [s342_19]
    simp [amRun, amDo, amStep, amLd, l0, isI_int, amNext, amCmp, amCmpP, h]
  · rw [if_neg h] at hw
    have k0 : amGet (amSet1 cl 1 (.int (q.2 + 16))) 0 = some (.int q.1) := mg_ne l0 rfl (by decide)
    have hh := hw (amSet1 (amSet1 cl 1 (.int (q.2 + 16))) 0 (.int (ush q.1 16))) mg_eq (mg_ne mg_eq rfl (by decide))
    unfold ush at hh
    refine bWp_of 8 (fun f => ?_) hh
    rw [s342_19]
    simp [amRun, amDo, amStep, amLd, l0, l1, k0, isI_int, amNext, amCmp, amCmpP, h, amII, amInc, amSt1, p342b]
    simp [s342_34]
theorem w342_34 (l0 : amGet cl 0 = some (.int q.1)) (l1 : amGet cl 1 = some (.int q.2))
    (hw : ∀ cl1, amGet cl1 0 = some (.int (nt8 q).1) → amGet cl1 1 = some (.int (nt8 q).2) → bWp G d am_m342 (amSeek am_m342.1 49) 49 cl1 [] hp Q) : bWp G d am_m342 (amSeek am_m342.1 34) 34 cl [] hp Q := by
  unfold nt8 at hw
  by_cases h : q.1 ≤ 256
  · rw [if_pos h] at hw
    refine bWp_of 3 (fun f => ?_) (hw cl l0 l1)
    rw [s342_34]
    simp [amRun, amDo, amStep, amLd, l0, isI_int, amNext, amCmp, amCmpP, h]
  · rw [if_neg h] at hw
    have k0 : amGet (amSet1 cl 1 (.int (q.2 + 8))) 0 = some (.int q.1) := mg_ne l0 rfl (by decide)
    have hh := hw (amSet1 (amSet1 cl 1 (.int (q.2 + 8))) 0 (.int (ush q.1 8))) mg_eq (mg_ne mg_eq rfl (by decide))
    unfold ush at hh
    refine bWp_of 8 (fun f => ?_) hh
    rw [s342_34]
    simp [amRun, amDo, amStep, amLd, l0, l1, k0, isI_int, amNext, amCmp, amCmpP, h, amII, amInc, amSt1, p342b]
    simp [s342_49]
theorem w342_49 (l0 : amGet cl 0 = some (.int q.1)) (l1 : amGet cl 1 = some (.int q.2))
    (hw : ∀ cl1, amGet cl1 0 = some (.int (nt4 q).1) → amGet cl1 1 = some (.int (nt4 q).2) → bWp G d am_m342 (amSeek am_m342.1 62) 62 cl1 [] hp Q) : bWp G d am_m342 (amSeek am_m342.1 49) 49 cl [] hp Q := by
  unfold nt4 at hw
  by_cases h : q.1 ≤ 16
  · rw [if_pos h] at hw
    refine bWp_of 3 (fun f => ?_) (hw cl l0 l1)
    rw [s342_49]
    simp [amRun, amDo, amStep, amLd, l0, isI_int, amNext, amCmp, amCmpP, h]
  · rw [if_neg h] at hw
    have k0 : amGet (amSet1 cl 1 (.int (q.2 + 4))) 0 = some (.int q.1) := mg_ne l0 rfl (by decide)
    have hh := hw (amSet1 (amSet1 cl 1 (.int (q.2 + 4))) 0 (.int (ush q.1 4))) mg_eq (mg_ne mg_eq rfl (by decide))
    unfold ush at hh
    refine bWp_of 8 (fun f => ?_) hh
    rw [s342_49]
    simp [amRun, amDo, amStep, amLd, l0, l1, k0, isI_int, amNext, amCmp, amCmpP, h, amII, amInc, amSt1, p342b]
    simp [s342_62]
theorem w342_62 (l0 : amGet cl 0 = some (.int q.1)) (l1 : amGet cl 1 = some (.int q.2))
    (hw : ∀ cl1, amGet cl1 0 = some (.int (nt2 q).1) → amGet cl1 1 = some (.int (nt2 q).2) → bWp G d am_m342 (amSeek am_m342.1 74) 74 cl1 [] hp Q) : bWp G d am_m342 (amSeek am_m342.1 62) 62 cl [] hp Q := by
  unfold nt2 at hw
  by_cases h : q.1 ≤ 4
  · rw [if_pos h] at hw
    refine bWp_of 3 (fun f => ?_) (hw cl l0 l1)
    rw [s342_62]
    simp [amRun, amDo, amStep, amLd, l0, isI_int, amNext, amCmp, amCmpP, h]
  · rw [if_neg h] at hw
    have k0 : amGet (amSet1 cl 1 (.int (q.2 + 2))) 0 = some (.int q.1) := mg_ne l0 rfl (by decide)
    have hh := hw (amSet1 (amSet1 cl 1 (.int (q.2 + 2))) 0 (.int (ush q.1 2))) mg_eq (mg_ne mg_eq rfl (by decide))
    unfold ush at hh
    refine bWp_of 8 (fun f => ?_) hh
    rw [s342_62]
    simp [amRun, amDo, amStep, amLd, l0, l1, k0, isI_int, amNext, amCmp, amCmpP, h, amII, amInc, amSt1, p342b]
    simp [s342_74]
theorem w342_74 (l0 : amGet cl 0 = some (.int q.1)) (l1 : amGet cl 1 = some (.int q.2)) (hw : Q (.inl (some (.int (ntE q)))) hp) : bWp G d am_m342 (amSeek am_m342.1 74) 74 cl [] hp Q := by
  refine ⟨6, .inl (some (.int (ntE q))), hp, ?_, hw⟩
  rw [s342_74]
  simp [amRun, amDo, amStep, amLd, l0, l1, isI_int, amNext, amII, amRetV, narrow, p342r, bCnt, ntE, ush]
theorem w342_17 {x : Int32} (l0 : amGet cl 0 = some (.int x)) (hw : Q (.inl (some (.int (ntE (nt2 (nt4 (nt8 (nt16 (x, 1))))))))) hp) : bWp G d am_m342 (amSeek am_m342.1 17) 17 cl [] hp Q := by
  have h := w342_19 (G := G) (d := d) (hp := hp) (Q := Q) (q := (x, 1)) (cl := amSet1 cl 1 (.int 1)) (mg_ne l0 rfl (by decide)) mg_eq (fun c1 a1 b1 => w342_34 a1 b1 (fun c2 a2 b2 => w342_49 a2 b2 (fun c3 a3 b3 => w342_62 a3 b3 (fun c4 a4 b4 => w342_74 a4 b4 hw))))
  refine bWp_of 2 (fun f => ?_) h
  rw [s342_17]
  simp [amRun, amDo, amStep, isI_int, amNext, amSt1, p342b]
  simp [s342_19]
theorem w_ntz {x : Int32} (hw : Q (.inl (some (.int (ntF x)))) hp) : bWp G d am_m342 am_m342.1 0 [(0, .int x)] [] hp Q := by
  have key : bWp G d am_m342 (amSeek am_m342.1 8) 8 [(0, .int (nt0 x))] [] hp Q := by
    unfold ntF at hw
    generalize nt0 x = z at hw ⊢
    by_cases h : 0 < z
    · rw [if_pos h] at hw
      refine bWp_of 2 (fun f => ?_) (w342_17 (cl := [(0, .int z)]) rfl hw)
      rw [s342_8]
      simp [amRun, amDo, amStep, amLd, amGet, isI_int, amNext, amIf, amIfP, h]
    · rw [if_neg h] at hw
      refine ⟨6, .inl (some (.int (z &&& 32))), hp, ?_, hw⟩
      rw [s342_8]
      simp [amRun, amDo, amStep, amLd, amGet, isI_int, amNext, amIf, amIfP, h, amII, amRetV, narrow, p342r, bCnt]
  unfold nt0 at key
  refine bWp_of 8 (fun f => ?_) key
  conv => lhs; rw [s342_0]
  simp [amRun, amDo, amStep, amLd, amGet, isI_int, amNext, amII, amSt1, amSet1, p342b, Value.category]
  simp [s342_8]
end W342
noncomputable def bitsOk (i : Nat) : Bool := match Nat.beq (bcF (Int32.ofNat i)).toInt.toNat 3 with
  | false => true
  | true => (decide ((ntF (Int32.ofNat i)).toInt < 15) && decide (0 ≤ (ntF (Int32.ofNat i)).toInt)) && (decide ((ntF (Int32.ofNat i &&& (Int32.ofNat i - 1))).toInt < 15) && decide (0 ≤ (ntF (Int32.ofNat i &&& (Int32.ofNat i - 1))).toInt))
end
/-! ##### 15.j.triple ##### -/
section
/-! ===== isTriple ===== -/
theorem bits_all {i : Nat} (h : i < 32768) : bitsOk i = true := by
  have k := b3_all h
  unfold b3Ok at k
  unfold bitsOk
  dsimp only at k ⊢
  cases e : Nat.beq (bcF (Int32.ofNat i)).toInt.toNat 3 with
  | false => rfl
  | true =>
    rw [e] at k
    dsimp only at k
    simp only [Bool.and_eq_true, decide_eq_true_eq] at k
    obtain ⟨k0, k1, k2, k3, k4, -⟩ := k
    have k2 := Nat.le_of_ble_eq_true k2
    have k3 := Nat.le_of_ble_eq_true k3
    have k4 := Nat.le_of_ble_eq_true k4
    simp only [Bool.and_eq_true, decide_eq_true_eq]
    omega
theorem g342 : amGG 342 = some am_m342 := rfl
theorem g343 : amGG 343 = some am_m343 := rfl
theorem p342a : am_m342.2.2.1 = 1 := rfl
theorem p343a : am_m343.2.2.1 = 1 := rfl
theorem p221r : am_m221.2.2.2.2.1 = some .boolean := rfl
theorem p221b : am_m221.2.1 = 5 := rfl
theorem s221_0 : am_m221.1 = (0, .iload_n 1, 0, 0) :: (1, .invokestatic 140, 343, 0) :: amSeek am_m221.1 4 := rfl
theorem s221_4 : amSeek am_m221.1 4 = (4, .iconst 3, 0, 0) :: (5, .if_icmp .eq 5, 10, 0) :: (8, .iconst 0, 0, 0) :: (9, .ireturn, 0, 0) :: amSeek am_m221.1 10 := rfl
theorem s221_10 : amSeek am_m221.1 10 = (10, .iload_n 1, 0, 0) :: (11, .invokestatic 126, 342, 0) :: amSeek am_m221.1 14 := rfl
theorem s221_14 : amSeek am_m221.1 14 = (14, .istore_n 2, 0, 0) :: (15, .iload_n 1, 0, 0) :: (16, .iload_n 1, 0, 0) :: (17, .iconst 1, 0, 0) :: (18, .isub, 0, 0) :: (19, .iand, 0, 0) :: (20, .invokestatic 126, 342, 0) :: amSeek am_m221.1 23 := rfl
theorem s221_23 : amSeek am_m221.1 23 = (23, .istore_n 3, 0, 0) :: (24, .aload_n 0, 0, 0) :: (25, .iload_n 2, 0, 0) :: (26, .iload_n 3, 0, 0) :: (27, .invokevirtual 81, 204, 0) :: (30, .istore 4, 0, 0) :: (32, .iload 4, 0, 0) :: (34, .iconst (-1), 0, 0) :: (35, .if_icmp .eq 17, 52, 0) ::
  (38, .iload_n 1, 0, 0) :: (39, .iload 4, 0, 0) :: (41, .ishr, 0, 0) :: (42, .iconst 1, 0, 0) :: (43, .iand, 0, 0) :: (44, .iconst 1, 0, 0) :: (45, .if_icmp .ne 7, 52, 0) :: (48, .iconst 1, 0, 0) :: (49, .goto 4, 53, 0) :: amSeek am_m221.1 52 := rfl
theorem s221_52 : amSeek am_m221.1 52 = [(52, .iconst 0, 0, 0), (53, .ireturn, 0, 0)] := rfl
theorem s221_53 : amSeek am_m221.1 53 = [(53, .ireturn, 0, 0)] := rfl
section W221
variable {hp : amH} {cm : List Value} {w : List Int32} {x : Int32} {Q : (Option Value ⊕ Nat) → amH → Prop}
theorem w221_23 (h : mW hp w) {a b : Int32} {u v : Nat} (ha : a.toInt = (u : Int)) (hb : b.toInt = (v : Int)) (hu : u < 15) (hv : v < 15) (hw : ∀ z : Int32, z = 0 ∨ z = 1 → Q (.inl (some (.int z))) hp) : bWp amGG 1 am_m221 (amSeek am_m221.1 23) 23 [(2, .int a), (0, .ref 66), (1, .int x)] [.int b] hp Q := by
  have hl : 66 < hp.length := by
    obtain ⟨⟨cm, h1, h2⟩, h3, h4⟩ := h
    exact a_lt h1
  have q1 := m_thirdOfF h ha hb hu hv
  obtain ⟨⟨cm, h1, h2⟩, h3, h4⟩ := h
  have h1' : hp[66] = (11, cm) := by rw [List.getElem?_eq_getElem hl] at h1; exact Option.some.inj h1
  generalize w.getD (4 + 15 * u + v) 0 = c at q1
  by_cases z : c = -1
  · refine ⟨50, .inl (some (.int 0)), hp, ?_, hw 0 (Or.inl rfl)⟩
    rw [s221_23]
    simp [amRun, amDo, amStep, amLd, amGet, isI_int, isA_ref, f4_2, f4_3, amNext, s221_52, amCall, g204, lv_args, amOkL, amOkS, amOk, amRecv, h1, hl, Value.category, q1, amRetV, narrow, p204a, p204b, p204c, h1', amCmp, amCmpP, z, amSt1, amSet1, p221b, p221r, bCnt]
  · by_cases y : x >>> (c &&& 31) &&& 1 = 1
    · refine ⟨50, .inl (some (.int 1)), hp, ?_, hw 1 (Or.inr rfl)⟩
      rw [s221_23]
      simp [amRun, amDo, amStep, amLd, amGet, isI_int, isA_ref, f4_2, f4_3, amNext, s221_52, s221_53, amCall, g204, lv_args, amOkL, amOkS, amOk, amRecv, h1, hl, Value.category, q1, amRetV, narrow, p204a, p204b, p204c, h1', amCmp, amCmpP, z, y, amII, amSt1, amSet1, p221b, p221r, bCnt]
    · refine ⟨50, .inl (some (.int 0)), hp, ?_, hw 0 (Or.inl rfl)⟩
      rw [s221_23]
      simp [amRun, amDo, amStep, amLd, amGet, isI_int, isA_ref, f4_2, f4_3, amNext, s221_52, s221_53, amCall, g204, lv_args, amOkL, amOkS, amOk, amRecv, h1, hl, Value.category, q1, amRetV, narrow, p204a, p204b, p204c, h1', amCmp, amCmpP, z, y, amII, amSt1, amSet1, p221b, p221r, bCnt]
end W221
end
/-! ##### 15.k.triple ##### -/
section
/-! ===== isTriple, whole ===== -/
theorem w221 {hp : amH} {cm : List Value} {w : List Int32} {x : Int32} {Q : (Option Value ⊕ Nat) → amH → Prop} (h : mW hp w) (hx : 0 ≤ x.toInt) (hx2 : x.toInt < 32768) (hw : ∀ z : Int32, z = 0 ∨ z = 1 → Q (.inl (some (.int z))) hp) : bWp amGG 1 am_m221 am_m221.1 0 [(0, .ref 66), (1, .int x)] [] hp Q := by
  have hl : 66 < hp.length := by
    obtain ⟨⟨cm, h1, h2⟩, h3, h4⟩ := h
    exact a_lt h1
  have hx3 : x = Int32.ofNat x.toInt.toNat := by
    apply Int32.toInt_inj.mp
    rw [Int32.toInt_ofNat_of_lt (by omega)]
    omega
  have hbits := bits_all (i := x.toInt.toNat) (by omega)
  unfold bitsOk at hbits
  rw [← hx3] at hbits
  have key : bWp amGG 1 am_m221 (amSeek am_m221.1 4) 4 [(0, .ref 66), (1, .int x)] [.int (bcF x)] hp Q := by
    by_cases hb : bcF x = 3
    · have e3 : Nat.beq (bcF x).toInt.toNat 3 = true := by rw [hb]; rfl
      rw [e3] at hbits
      simp only [Bool.and_eq_true, decide_eq_true_eq] at hbits
      obtain ⟨⟨b1, b2⟩, b3, b4⟩ := hbits
      have k23 := w221_23 (x := x) (Q := Q) h (a := ntF x) (b := ntF (x &&& (x - 1))) (u := (ntF x).toInt.toNat) (v := (ntF (x &&& (x - 1))).toInt.toNat) (by omega) (by omega) (by omega) (by omega) hw
      have k20 : bWp amGG 1 am_m221 ((20, .invokestatic 126, 342, 0) :: amSeek am_m221.1 23) 20 [(2, .int (ntF x)), (0, .ref 66), (1, .int x)] [.int (x &&& (x - 1))] hp Q := by
        refine bWp_call (q := (20, .invokestatic 126, 342, 0)) (d := 0) (k := 342) (av := [.int (x &&& (x - 1))]) (rest := []) ?_ g342 ?_
        · simp [amDo, amStep, amCall, g342, lv_args, amOkL, amOkS, amOk, amRecv, hl, Value.category, p342a, p342b]
        · exact w_ntz k23
      have k14 : bWp amGG 1 am_m221 (amSeek am_m221.1 14) 14 [(0, .ref 66), (1, .int x)] [.int (ntF x)] hp Q := by
        refine bWp_of 6 (fun f => ?_) k20
        rw [s221_14]
        simp [amRun, amDo, amStep, amLd, amGet, isI_int, amNext, amII, amSt1, amSet1, p221b, Value.category]
      have k11 : bWp amGG 1 am_m221 ((11, .invokestatic 126, 342, 0) :: amSeek am_m221.1 14) 11 [(0, .ref 66), (1, .int x)] [.int x] hp Q := by
        refine bWp_call (q := (11, .invokestatic 126, 342, 0)) (d := 0) (k := 342) (av := [.int x]) (rest := []) ?_ g342 ?_
        · simp [amDo, amStep, amCall, g342, lv_args, amOkL, amOkS, amOk, amRecv, hl, Value.category, p342a, p342b]
        · exact w_ntz k14
      refine bWp_of 3 (fun f => ?_) k11
      rw [s221_4, s221_10]
      simp [amRun, amDo, amStep, amLd, amGet, isI_int, amNext, amCmp, amCmpP, hb]
      simp [s221_10, amRun, amDo, amStep, amLd, amGet, isI_int, amNext]
    · refine ⟨4, .inl (some (.int 0)), hp, ?_, hw 0 (Or.inl rfl)⟩
      rw [s221_4]
      simp [amRun, amDo, amStep, amNext, amCmp, amCmpP, hb, amRetV, narrow, p221r, bCnt]
  have k1 : bWp amGG 1 am_m221 ((1, .invokestatic 140, 343, 0) :: amSeek am_m221.1 4) 1 [(0, .ref 66), (1, .int x)] [.int x] hp Q := by
    refine bWp_call (q := (1, .invokestatic 140, 343, 0)) (d := 0) (k := 343) (av := [.int x]) (rest := []) ?_ g343 ?_
    · simp [amDo, amStep, amCall, g343, lv_args, amOkL, amOkS, amOk, amRecv, hl, Value.category, p343a, p343b]
    · exact ⟨42, .inl (some (.int (bcF x))), hp, m_bits 0 0, key⟩
  rw [s221_0]
  refine bWp_of 1 (fun f => ?_) k1
  simp [amRun, amDo, amStep, amLd, amGet, isI_int, amNext]
noncomputable def be_h221 : bEt := (221, ([.inr (.inr [66]), .inl (2147483648, 2147516415)], [], 1, [], [], [(some (.inl (2147483648, 2147483649)), [])]), [], 0, [])
theorem h221_s : bSem amGG P0 84 bTT be_h221.1 be_h221.2.1 := by
  refine ⟨am_m221, rfl, fun av hp hH hP ha _ => ?_⟩
  match av, ha with
  | [v, a], ha =>
    obtain ⟨⟨i, rfl, -, hi⟩, ⟨x, rfl, x1, x2⟩, -⟩ := ha
    have hi : i = 66 := by simpa using hi
    subst hi
    obtain ⟨w, hw, hr⟩ := r_mW hH
    have ox := aOff_eq x
    refine w221 (cm := []) hw (by omega) (by omega) (fun z hz => ⟨hH, hP, bFr.refl _ _, _, List.mem_cons_self, ⟨_, rfl, ?_⟩, fun f hf => by cases hf⟩)
    rcases hz with rfl | rfl <;> decide
end
/-! ##### 16.a.ref ##### -/
section
/-! ===== the reference: what is shown by hand ===== -/
noncomputable def bQ0 : List bEt := [be_h221, be_h234, be_h211, be_h204, be_h203]
end
