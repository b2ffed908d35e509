/-! ===== laysTriples: its loops ===== -/
def bLo (cl : amL) (x : Nat) : Prop := amOkL 84 cl = true ∧ amGet cl 0 = some (.ref 66) ∧ ∃ a : Int32, amGet cl 1 = some (.int a) ∧ a.toInt = (x : Int)
theorem LI_67 {hp0 hp : amH} {N m : Nat} (h : LI (rN hp0 67) hp0 hp N m) (i : Nat) : rN hp 67 i = rN hp0 67 i := r_fr h.2.1 (by simp [bLT, bIn])
/-- a triple found -/
theorem LI_add {hp0 hp : amH} (hV : Vf (rN hp0 67)) {x y z m : Nat} (h : LI (rN hp0 67) hp0 hp (15 * x + y) m) (hxy : x < y) (hyz : y < z) (hz : z < 15) (e : rN hp0 67 (4 + 15 * x + y) = (z : Int)) {a b c : Int32} (ha : a.toInt = (x : Int)) (hb : b.toInt = (y : Int)) (hc : c.toInt = (z : Int)) {cl : amL} (hok : amOkL 84 cl = true) (l0 : amGet cl 0 = some (.ref 66)) (l1 : amGet cl 1 = some (.int a)) (l2 : amGet cl 2 = some (.int b)) (l3 : amGet cl 3 = some (.int c)) {Q : (Option Value ⊕ Nat) → amH → Prop}
    (hw : ∀ hp1, LI (rN hp0 67) hp0 hp1 (15 * x + y + 1) (m + 1) → bWp amGG 1 am_m211 (amSeek am_m211.1 19) 19 (amSet1 cl 2 (.int (b + 1))) [] hp1 Q) : bWp amGG 1 am_m211 (amSeek am_m211.1 42) 42 cl [] hp Q := by
  obtain ⟨hH, hF, hM, ⟨L, hL, hl⟩, hlist⟩ := h
  have hL2 := gL_add hV hL hxy hyz hz e (Nat.le_refl _)
  have hlen := gL_len hL2
  simp only [List.length_cons] at hlen
  have hm : m ≤ 34 := by omega
  have oa := aOff_eq a
  have ob := aOff_eq b
  have oc := aOff_eq c
  -- 72
  obtain ⟨cm, h66, -, c8, c9, c10, c11, mi, c12, hmi⟩ := r_cell hH
  rw [hM] at hmi
  obtain ⟨v72, q72, -⟩ := bHk_at hH (i := 72) (by decide) rfl
  obtain ⟨t, v72⟩ := v72
  obtain ⟨c72, e72, ht, hl72, -⟩ := bHk_at hH (i := 72) (by decide) (D := (32, 35, [.inl (2147483648, 2147483662)])) rfl
  cases q72.symm.trans e72
  have ht : t = 32 := ht
  subst ht
  have hl72 : v72.length = 35 := hl72
  obtain ⟨hH1, s1, t1, f1⟩ := r_st hH (v := a) (m := m) (lo := 2147483648) (hi := 2147483662) (D := (32, 35, [.inl (2147483648, 2147483662)])) (by decide) rfl q72 rfl (by omega) (by omega) (by dsimp only; omega)
  refine w211_42 h66 c8 c12 q72 hmi (by omega) l0 l1 ?_
  generalize hp.set 72 (32, v72.set m (.int a)) = hp1 at hH1 s1 t1 f1 ⊢
  have f1 := f1 bLT (bIn_all (by decide) m)
  -- 73
  obtain ⟨cm1, h66, -, c8, c9, c10, c11, mi1, c12, hmi⟩ := r_cell hH1
  rw [s1 66 12 (by omega), hM] at hmi
  obtain ⟨⟨t, v73⟩, q73, ht, hl73, -⟩ := bHk_at hH1 (i := 73) (by decide) (D := (32, 35, [.inl (2147483648, 2147483662)])) rfl
  have ht : t = 32 := ht
  subst ht
  have hl73 : v73.length = 35 := hl73
  obtain ⟨hH2, s2, t2, f2⟩ := r_st hH1 (v := b) (m := m) (lo := 2147483648) (hi := 2147483662) (D := (32, 35, [.inl (2147483648, 2147483662)])) (by decide) rfl q73 rfl (by omega) (by omega) (by dsimp only; omega)
  refine w211_52 h66 c9 c12 q73 hmi (by omega) l0 l2 ?_
  generalize hp1.set 73 (32, v73.set m (.int b)) = hp2 at hH2 s2 t2 f2 ⊢
  have f2 := f2 bLT (bIn_all (by decide) m)
  -- 74
  obtain ⟨cm2, h66, -, c8, c9, c10, c11, mi2, c12, hmi⟩ := r_cell hH2
  rw [s2 66 12 (by omega), s1 66 12 (by omega), hM] at hmi
  obtain ⟨⟨t, v74⟩, q74, ht, hl74, -⟩ := bHk_at hH2 (i := 74) (by decide) (D := (32, 35, [.inl (2147483648, 2147483662)])) rfl
  have ht : t = 32 := ht
  subst ht
  have hl74 : v74.length = 35 := hl74
  obtain ⟨hH3, s3, t3, f3⟩ := r_st hH2 (v := c) (m := m) (lo := 2147483648) (hi := 2147483662) (D := (32, 35, [.inl (2147483648, 2147483662)])) (by decide) rfl q74 rfl (by omega) (by omega) (by dsimp only; omega)
  refine w211_62 h66 c10 c12 q74 hmi (by omega) l0 l3 ?_
  generalize hp2.set 74 (32, v74.set m (.int c)) = hp3 at hH3 s3 t3 f3 ⊢
  have f3 := f3 bLT (bIn_all (by decide) m)
  -- 75
  obtain ⟨cm3, h66, -, c8, c9, c10, c11, mi3, c12, hmi⟩ := r_cell hH3
  rw [s3 66 12 (by omega), s2 66 12 (by omega), s1 66 12 (by omega), hM] at hmi
  obtain ⟨⟨t, v75⟩, q75, ht, hl75, -⟩ := bHk_at hH3 (i := 75) (by decide) (D := (32, 35, [.inl (2147483648, 2147516415)])) rfl
  have ht : t = 32 := ht
  subst ht
  have hl75 : v75.length = 35 := hl75
  have hk : 2147483648 ≤ aOff (msk a b c) ∧ aOff (msk a b c) ≤ 2147516415 := by
    rw [i_of ha (by omega), i_of hb (by omega), i_of hc hz]
    exact msk_le ⟨x, by omega⟩ ⟨y, by omega⟩ ⟨z, hz⟩
  obtain ⟨hH4, s4, t4, f4⟩ := r_st hH3 (v := msk a b c) (m := m) (lo := 2147483648) (hi := 2147516415) (D := (32, 35, [.inl (2147483648, 2147516415)])) (by decide) rfl q75 rfl hk.1 hk.2 (by dsimp only; omega)
  refine w211_72 h66 c11 c12 q75 hmi (by omega) l0 l1 l2 l3 ?_
  generalize hp3.set 75 (32, v75.set m (.int (msk a b c))) = hp4 at hH4 s4 t4 f4 ⊢
  have f4 := f4 bLT (bIn_all (by decide) m)
  -- many
  obtain ⟨cm4, h66, -, c8, c9, c10, c11, mi4, c12, hmi⟩ := r_cell hH4
  rw [s4 66 12 (by omega), s3 66 12 (by omega), s2 66 12 (by omega), s1 66 12 (by omega), hM] at hmi
  have hmi5 : (mi4 + 1).toInt = ((m + 1 : Nat) : Int) := by rw [Int32.toInt_add, hmi, show (1 : Int32).toInt = 1 by decide, aBmod (by omega) (by omega)]; omega
  have om := aOff_eq (mi4 + 1)
  obtain ⟨D66, hD66⟩ : ∃ D, bTT 66 = some D := ⟨_, rfl⟩
  have hD12 : bDy D66 12 = some (.inl (2147483648, 2147483683)) ∧ 12 < D66.2.1 := by
    have : some D66 = bTT 66 := hD66.symm
    cases this
    exact ⟨rfl, by decide⟩
  obtain ⟨hH5, s5, t5, f5⟩ := r_st hH4 (v := mi4 + 1) (m := 12) (lo := 2147483648) (hi := 2147483683) (by decide) hD66 h66 hD12.1 (by omega) (by omega) hD12.2
  refine w211_92 h66 c12 l0 l2 (hw _ ?_)
  generalize hp4.set 66 (11, cm4.set 12 (.int (mi4 + 1))) = hp5 at hH5 s5 t5 f5 ⊢
  have f5 := f5 bLT (by simp [bLT, bIn])
  refine ⟨hH5, hF.trans (f1.trans (f2.trans (f3.trans (f4.trans f5)))), by rw [t5, hmi5], ⟨_, hL2, by simp only [List.length_cons]; omega⟩, fun k hk => ?_⟩
  by_cases ek : k = m
  · subst ek
    refine ⟨x, y, z, a, b, c, hxy, hyz, hz, e, ha, hb, hc, ?_, ?_, ?_, ?_⟩
    · rw [s5 _ _ (by omega), s4 _ _ (by omega), s3 _ _ (by omega), s2 _ _ (by omega), t1, ha]
    · rw [s5 _ _ (by omega), s4 _ _ (by omega), s3 _ _ (by omega), t2, hb]
    · rw [s5 _ _ (by omega), s4 _ _ (by omega), t3, hc]
    · rw [s5 _ _ (by omega), t4]
  · obtain ⟨x1, y1, z1, a1, b1, c1, g1, g2, g3, g4, g5, g6, g7, g8, g9, g10, g11⟩ := hlist k (by omega)
    refine ⟨x1, y1, z1, a1, b1, c1, g1, g2, g3, g4, g5, g6, g7, ?_, ?_, ?_, ?_⟩
    · rw [s5 _ _ (by omega), s4 _ _ (by omega), s3 _ _ (by omega), s2 _ _ (by omega), s1 _ _ (by omega), g8]
    · rw [s5 _ _ (by omega), s4 _ _ (by omega), s3 _ _ (by omega), s2 _ _ (by omega), s1 _ _ (by omega), g9]
    · rw [s5 _ _ (by omega), s4 _ _ (by omega), s3 _ _ (by omega), s2 _ _ (by omega), s1 _ _ (by omega), g10]
    · rw [s5 _ _ (by omega), s4 _ _ (by omega), s3 _ _ (by omega), s2 _ _ (by omega), s1 _ _ (by omega), g11]
/-- the inner loop -/
theorem lt_in {hp0 : amH} (hV : Vf (rN hp0 67)) {Q : (Option Value ⊕ Nat) → amH → Prop} {x : Nat} (hx : x < 15)
    (hQ : ∀ cl hp m, bLo cl x → LI (rN hp0 67) hp0 hp (15 * x + 15) m → bWp amGG 1 am_m211 (amSeek am_m211.1 108) 108 cl [] hp Q) :
    ∀ (j y m : Nat) (b : Int32) (cl : amL) (hp : amH), y + j = 15 → x < y → bLo cl x → amGet cl 2 = some (.int b) → b.toInt = (y : Int) → LI (rN hp0 67) hp0 hp (15 * x + y) m →
      bWp amGG 1 am_m211 (amSeek am_m211.1 19) 19 cl [] hp Q := by
  intro j
  induction j with
  | zero =>
    intro y m b cl hp hy hxy hl l2 hb hI
    obtain ⟨w, hw, hr⟩ := r_mW hI.1
    obtain ⟨cm, h66, -⟩ := r_cell hI.1
    obtain ⟨hok, l0, a, l1, ha⟩ := hl
    have h0 := hr 0 (by omega)
    rw [LI_67 hI] at h0
    have hp15 := hV.2.1
    refine w211_19 hw (by rw [hI.1.1]; exact hok) h66 l0 l2 (fun _ => hQ cl hp m ⟨hok, l0, a, l1, ha⟩ (LI_mono hI (by omega))) (fun z => ?_)
    exact absurd (Int32.le_iff_toInt_le.mpr (by omega)) z
  | succ j ih =>
    intro y m b cl hp hy hxy hl l2 hb hI
    obtain ⟨w, hw, hr⟩ := r_mW hI.1
    obtain ⟨cm, h66, -⟩ := r_cell hI.1
    have hl' := hl
    obtain ⟨hok, l0, a, l1, ha⟩ := hl
    have hT := hr (4 + 15 * x + y) (by omega)
    rw [LI_67 hI] at hT
    have hb1 : (b + 1).toInt = ((y + 1 : Nat) : Int) := by rw [Int32.toInt_add, hb, show (1 : Int32).toInt = 1 by decide, aBmod (by omega) (by omega)]; omega
    refine w211_19 hw (by rw [hI.1.1]; exact hok) h66 l0 l2 (fun _ => hQ cl hp m hl' (LI_mono hI (by omega))) (fun z => ?_)
    refine w211_27 hw (by rw [hI.1.1]; exact hok) h66 l0 l1 l2 ha hb hx (by omega) (fun u => ?_) (fun u => ?_)
    · have k2 : amGet (amSet1 cl 3 (.int (w.getD (4 + 15 * x + y) 0))) 2 = some (.int b) := mg_ne l2 rfl (by decide)
      refine w211_102 k2 ?_
      exact ih (y + 1) m (b + 1) _ hp (by omega) (by omega) ⟨mok (mok hok), mg_ne (mg_ne l0 rfl (by decide)) rfl (by decide), a, mg_ne (mg_ne l1 rfl (by decide)) rfl (by decide), ha⟩ mg_eq hb1 (LI_mono hI (by omega))
    · have u := Int.not_lt.mp (fun v => u (Int32.lt_iff_toInt_lt.mpr v))
      rcases hV.2.2 x y hx (by omega) with g | ⟨c, g1, g2, g3, g4, g5, g6, g7, -⟩
      · omega
      · have hp15 := hV.2.1
        refine LI_add hV hI hxy (z := c) (by omega) (by omega) g1 (c := w.getD (4 + 15 * x + y) 0) ha hb (by omega) (mok hok) (mg_ne l0 rfl (by decide)) (mg_ne l1 rfl (by decide)) (mg_ne l2 rfl (by decide)) mg_eq (fun hp1 hI1 => ?_)
        exact ih (y + 1) (m + 1) (b + 1) _ hp1 (by omega) (by omega) ⟨mok (mok hok), mg_ne (mg_ne l0 rfl (by decide)) rfl (by decide), a, mg_ne (mg_ne l1 rfl (by decide)) rfl (by decide), ha⟩ mg_eq hb1 hI1
/-- the outer loop -/
theorem lt_out {hp0 : amH} (hV : Vf (rN hp0 67)) {Q : (Option Value ⊕ Nat) → amH → Prop}
    (hQ : ∀ hp m, LI (rN hp0 67) hp0 hp 225 m → Q (.inl none) hp) :
    ∀ (i x m : Nat) (cl : amL) (hp : amH), x + i = 15 → bLo cl x → LI (rN hp0 67) hp0 hp (15 * x) m →
      bWp amGG 1 am_m211 (amSeek am_m211.1 7) 7 cl [] hp Q := by
  intro i
  induction i with
  | zero =>
    intro x m cl hp hx hl hI
    obtain ⟨w, hw, hr⟩ := r_mW hI.1
    obtain ⟨cm, h66, -⟩ := r_cell hI.1
    obtain ⟨hok, l0, a, l1, ha⟩ := hl
    have h0 := hr 0 (by omega)
    rw [LI_67 hI] at h0
    have hp15 := hV.2.1
    refine w211_7 hw (by rw [hI.1.1]; exact hok) h66 l0 l1 (fun _ => w211_114 (hQ hp m (LI_mono hI (by omega)))) (fun z => ?_)
    exact absurd (Int32.le_iff_toInt_le.mpr (by omega)) z
  | succ i ih =>
    intro x m cl hp hx hl hI
    obtain ⟨w, hw, hr⟩ := r_mW hI.1
    obtain ⟨cm, h66, -⟩ := r_cell hI.1
    obtain ⟨hok, l0, a, l1, ha⟩ := hl
    have ha1 : (a + 1).toInt = ((x + 1 : Nat) : Int) := by rw [Int32.toInt_add, ha, show (1 : Int32).toInt = 1 by decide, aBmod (by omega) (by omega)]; omega
    refine w211_7 hw (by rw [hI.1.1]; exact hok) h66 l0 l1 (fun _ => w211_114 (hQ hp m (LI_mono hI (by omega)))) (fun z => ?_)
    refine lt_in hV (x := x) (by omega) (fun cl1 hp1 m1 hl1 hI1 => ?_) (15 - (x + 1)) (x + 1) m (a + 1) _ hp (by omega) (by omega) ⟨mok hok, mg_ne l0 rfl (by decide), a, mg_ne l1 rfl (by decide), ha⟩ mg_eq ha1 (LI_mono hI (by omega))
    obtain ⟨hok1, k0, a1, k1, ka⟩ := hl1
    have ka1 : (a1 + 1).toInt = ((x + 1 : Nat) : Int) := by rw [Int32.toInt_add, ka, show (1 : Int32).toInt = 1 by decide, aBmod (by omega) (by omega)]; omega
    refine w211_108 k1 ?_
    exact ih (x + 1) m1 _ hp1 (by omega) ⟨mok hok1, mg_ne k0 rfl (by decide), a1 + 1, mg_eq, ka1⟩ (LI_mono hI1 (by omega))
theorem s211_0 : am_m211.1 = (0, .aload_n 0, 0, 0) :: (1, .iconst 0, 0, 0) :: (2, .putfield 92, 11, 12) :: (5, .iconst 0, 0, 0) :: (6, .istore_n 1, 0, 0) :: amSeek am_m211.1 7 := rfl
theorem lt_run {hp : amH} (hH : bHk 84 bTT hp) (hV : Vf (rN hp 67)) {Q : (Option Value ⊕ Nat) → amH → Prop}
    (hQ : ∀ hp1 m, LI (rN hp 67) hp hp1 225 m → Q (.inl none) hp1) : bWp amGG 1 am_m211 am_m211.1 0 [(0, .ref 66)] [] hp Q := by
  obtain ⟨cm, h66, -, c8, c9, c10, c11, mi, c12, hmi⟩ := r_cell hH
  obtain ⟨D66, hD66⟩ : ∃ D, bTT 66 = some D := ⟨_, rfl⟩
  have hD12 : bDy D66 12 = some (.inl (2147483648, 2147483683)) ∧ 12 < D66.2.1 := by
    have : some D66 = bTT 66 := hD66.symm
    cases this
    exact ⟨rfl, by decide⟩
  obtain ⟨hH5, s5, t5, f5⟩ := r_st hH (v := 0) (m := 12) (lo := 2147483648) (hi := 2147483683) (by decide) hD66 h66 hD12.1 (by decide) (by decide) hD12.2
  have f5 := f5 bLT (by decide)
  have hcl : 12 < cm.length := by
    rcases Nat.lt_or_ge 12 cm.length with z | z
    · exact z
    · rw [List.getElem?_eq_none z] at c12; cases c12
  have key : bWp amGG 1 am_m211 (amSeek am_m211.1 7) 7 [(1, .int 0), (0, .ref 66)] [] (hp.set 66 (11, cm.set 12 (.int 0))) Q := by
    generalize hp.set 66 (11, cm.set 12 (.int 0)) = hp5 at hH5 s5 t5 f5 ⊢
    refine lt_out hV hQ 15 0 0 _ hp5 rfl ⟨rfl, rfl, 0, rfl, rfl⟩ ⟨hH5, f5, by rw [t5]; rfl, ⟨[], gL_nil _ _, rfl⟩, fun k hk => by omega⟩
  rw [s211_0]
  refine bWp_of 5 (fun f => ?_) key
  rw [s211_7]
  simp [amRun, amDo, amStep, amLd, amGet, isI_int, isA_ref, amNext, amFSet, y11_12, h66, hcl, narrow, fits, amSt1, amSet1, p211b, Value.category]
def be_h211 : bEt := (211, ([.inr (.inr [66])], [], 1, bLT, [], [(none, [])]), [], 0, [])
theorem LT_Pr {c k : Nat} (h : bIn bPr c k = true) : bIn bLT c k = false := by
  cases h9 : bIn bLT c k
  · rfl
  · obtain ⟨p, g1, g2, g3⟩ := bIn_mem h
    obtain ⟨q, k1, k2, k3⟩ := bIn_mem h9
    simp [bPr] at g1
    simp [bLT] at k1
    rcases g1 with rfl | rfl | rfl | rfl | rfl | rfl | rfl <;> rcases k1 with rfl | rfl | rfl | rfl | rfl <;> dsimp only at g2 g3 k2 k3 <;> omega
theorem h211_s : bSem amGG P0 84 bTT be_h211.1 be_h211.2.1 := by
  refine ⟨am_m211, rfl, fun av hp hH hP ha hf => ?_⟩
  match av, ha with
  | [v1], ha =>
    obtain ⟨⟨i, rfl, -, hi⟩, -⟩ := ha
    have hi : i = 66 := by simpa using hi
    subst hi
    refine lt_run hH hP.1 (fun hp1 m hI => ⟨hI.1, P0_fr hp hp1 (fun c k hc => hI.2.1 c k (LT_Pr hc)) hP, hI.2.1, _, List.mem_cons_self, trivial, fun f hf => by cases hf⟩)
