/-! ===== printAt on both sides: how much is written ===== -/
theorem sm_lt0 {f g : Nat → Nat} {n k : Nat} (h : ∀ i, i < n → f i ≤ g i) (hk : k < n) (h2 : f k < g k) : sm f n < sm g n := by
  have a : sm (fun i => f i + (if i = k then 1 else 0)) n = sm f n + sm (fun i => if i = k then 1 else 0) n := sm_add f (fun i => if i = k then 1 else 0) n
  have b : sm (fun i => if i = k then 1 else 0) n = 1 := sm_one hk (if_pos rfl) (fun i _ g => if_neg g)
  have c : sm (fun i => f i + (if i = k then 1 else 0)) n ≤ sm g n := sm_le n (fun i hi => by
    by_cases e : i = k
    · subst e; rw [if_pos rfl]; omega
    · rw [if_neg e]; have := h i hi; omega)
  omega
/-- how many of the first triples are at a point -/
def dB (T : sT) (p t : Nat) : Nat := sm (fun s => iv ((mN T s).testBit p = true)) t
theorem dB_s {T : sT} {p t : Nat} : dB T p (t + 1) = dB T p t + iv ((mN T t).testBit p = true) := rfl
theorem dB_7 {V : Nat} {T : sT} (hT : sOk V T) {p : Nat} (hp : p < 15) : dB T p (trL T 225).length ≤ 7 := by
  have h15 := hT.2.1
  have e : dB T p (trL T 225).length = mtC T (2 ^ p) 1 (trL T 225).length := by
    unfold dB mtC
    refine sm_ext _ (fun t ht => iv_eq ?_)
    obtain ⟨x, y, z, h1, h2, h3, h4, -, h6⟩ := on_pts hT ht
    have k := bc_one ⟨x, by omega⟩ ⟨y, by omega⟩ ⟨z, by omega⟩ ⟨p, hp⟩ h1 h2
    rw [h4, m3_test, decide_eq_true_iff]
    exact k.symm
  have d := deg_2 hT hp
  have l : sm (fun v => iv (¬ T p v = -1)) 15 < sm (fun _ => 1) 15 := sm_lt0 (k := p) (fun i _ => iv_le) hp (by
    rw [iv_f (p := ¬ T p p = -1) (fun g => by
      obtain ⟨c, -, -, -, -, k, -⟩ := sOk_at hT rfl g
      exact k rfl)]
    exact Nat.zero_lt_one)
  have c : sm (fun _ => 1) 15 = 15 := by decide
  omega
theorem dB_up {T : sT} {p a b : Nat} (h : a ≤ b) : dB T p a ≤ dB T p b := by
  obtain ⟨k, rfl⟩ := Nat.exists_eq_add_of_le h
  unfold dB
  rw [sm_split]
  exact Nat.le_add_right _ _
def wPr : List (Nat × Nat) := [(65, 999), (0, 11)]
theorem wPr_o {c k : Nat} (h : ¬ c = 65 ∧ ¬ c = 0) : bIn wPr c k = false := bIn_out (fun p hp z => by
  have d : ∀ p ∈ wPr, p.1 = 65 ∨ p.1 = 0 := by decide
  have := d p hp
  omega)
theorem wPr_cl {hp hp1 : amH} {q : sR} {n : Nat} {h : Nat → sR} {sv : Option sR} (F : bFr wPr hp hp1) (hS : clS hp q n h sv) : clS hp1 q n h sv := clS_8 hS (fun c k hc => F c k (wPr_o (by omega)))
theorem wPr_cF {hp hp1 : amH} (F : bFr wPr hp hp1) : cF hp hp1 := fun c k hc => F c k (wPr_o (by omega))
section XBO
variable {M : amM} {pc a b d : Nat} {L : List (Option Value)} {st : List Value} {hp : amH} {Q : xQ}
theorem xlenO (q : Nat) (hH : bHk 84 bTT hp) (h : xI M pc .arraylength a b) (e : q = pc + 1) (hw : ∀ z : Int32, z.toInt = 27 → xV d M q L (.int z :: st) hp Q) : xV d M pc L (.ref 65 :: st) hp Q := by
  obtain ⟨⟨t1, vs⟩, g1, g2, g3, -⟩ := bHk_at hH (i := 65) (by decide) (D := (34, 27, [.inl (2147483520, 2147483775)])) rfl
  have g2 : t1 = 34 := g2
  subst g2
  have g3 : vs.length = 27 := g3
  refine xstep h (fun cl hl => ⟨cl, ?_, hl⟩) (hw (Int32.ofNat 27) rfl)
  subst e
  simp [amDo, amStep, amScLen, amLen, g1, g3]
theorem xbastO (q m : Nat) {x v : Int32} (hH : bHk 84 bTT hp) (h : xI M pc .bastore a b) (e : q = pc + 1) (hn : x.toInt = (m : Int)) (hl : m < 27)
    (hw : ∀ hp1, bHk 84 bTT hp1 → bFr [(65, 999)] hp hp1 → xV d M q L st hp1 Q) : xV d M pc L (.int v :: .int x :: .ref 65 :: st) hp Q := by
  obtain ⟨z, z1, z2, z3⟩ := bNarB_s v
  have hy : bDy (34, 27, [.inl (2147483520, 2147483775)]) m = some (.inl (2147483520, 2147483775)) := rfl
  obtain ⟨vs, g1, g2, -⟩ := x_fI hH (c := 65) (by decide) rfl hy hl
  obtain ⟨k1, k2⟩ := x_set hH (x := z) (c := 65) rfl g1 g2 hy z2 z3 (by decide)
  obtain ⟨e1, e2⟩ := rw_in (m := vs.length) hn g2
  refine xstep h (fun cl hl => ⟨cl, ?_, hl⟩) (hw _ k1 (rU_fr k2 (bIn_all (by decide) _)))
  subst e
  simp only [amDo, amStep, amASt, g1, e2, e1, amIsI, z1, and_self, if_true, Option.map_some]
end XBO
theorem k_191E {d m : Nat} {hp : amH} {R : xQ} {c : Int32} (hH : bHk 84 bTT hp) (hm : rN hp 0 11 = (m : Int)) (h27 : m < 27)
    (hR : ∀ hp1, bHk 84 bTT hp1 → bFr wPr hp hp1 → rN hp1 0 11 = ((m + 1 : Nat) : Int) → R (.inl none) hp1) : xK d 191 [.ref 0, .int c] hp R := by
  have u191 : bUp 0 am_m191.1 = true := by decide +kernel
  refine xin (M := am_m191) rfl rfl rfl ?_
  refine xald 1 ⟨u191, _, rfl⟩ rfl rfl ?_
  refine xgetC 4 hH ⟨u191, _, rfl⟩ rfl (by decide) (by decide) rfl rfl (by decide) (fun z1 h1 => ?_)
  refine xald 5 ⟨u191, _, rfl⟩ rfl rfl ?_
  refine xgetD 8 (65) hH ⟨u191, _, rfl⟩ rfl (by decide) (by decide) rfl rfl (by decide) ?_
  refine xlenO 9 hH ⟨u191, _, rfl⟩ rfl (fun z8 h8 => ?_)
  refine xcmp_ge 12 ⟨u191, _, rfl⟩ rfl (fun c9 => ?_) (fun c9 => ?_)
  · omega
  · refine xald 13 ⟨u191, _, rfl⟩ rfl rfl ?_
    refine xgetD 16 (65) hH ⟨u191, _, rfl⟩ rfl (by decide) (by decide) rfl rfl (by decide) ?_
    refine xald 17 ⟨u191, _, rfl⟩ rfl rfl ?_
    refine xgetC 20 hH ⟨u191, _, rfl⟩ rfl (by decide) (by decide) rfl rfl (by decide) (fun z17 h17 => ?_)
    refine xild 21 ⟨u191, _, rfl⟩ rfl rfl ?_
    refine xi2bE 22 ⟨u191, _, rfl⟩ rfl (fun z21 h21 => ?_)
    refine xbastO 23 (z17).toInt.toNat hH ⟨u191, _, rfl⟩ rfl (by omega) (by omega) (fun hp22 hH22 F22 => ?_)
    have n22 : rN hp22 0 11 = rN hp 0 11 := r_fr F22 rfl
    refine xald 24 ⟨u191, _, rfl⟩ rfl rfl ?_
    refine xdup 25 ⟨u191, _, rfl⟩ rfl rfl ?_
    refine xgetC 28 hH22 ⟨u191, _, rfl⟩ rfl (by decide) (by decide) rfl rfl (by decide) (fun z25 h25 => ?_)
    refine xcst 29 (1) ⟨u191, _, rfl⟩ rfl (by decide) (fun z28 h28 => ?_)
    refine xadd 30 _ ⟨u191, _, rfl⟩ rfl rfl (by omega) (by omega) (fun z29 h29 => ?_)
    refine xputC 33 hH22 ⟨u191, _, rfl⟩ rfl (by decide) (by decide) rfl rfl (by decide) ⟨rfl, rfl⟩ (by omega) (by omega) (fun hp30 hH30 U30 => ?_)
    have s30 := U30.1
    exact xretV ⟨u191, _, rfl⟩ rfl (hR _ hH30 ((bFr_sub F22 (by decide)).trans (rU_fr U30 (by decide))) (by rw [s30]; omega))
theorem u190 : bUp 0 am_m190.1 = true := by decide +kernel
theorem l190E {d m ms : Nat} {hp0 : amH} {R : xQ} {s : Int32} (hs : s.toInt = (ms : Int)) (hms : ms < 32768) (hv : ∀ i, i < 3 → 0 ≤ memN ms i ∧ memN ms i < 15) (h27 : m + 3 ≤ 27)
    (hR : ∀ hp1, bHk 84 bTT hp1 → bFr wPr hp0 hp1 → rN hp1 0 11 = ((m + 3 : Nat) : Int) → R (.inl none) hp1) :
    ∀ (jj i : Nat) (wi : Int32) (v3 : Option Value) (hp : amH), wi.toInt = (i : Int) → i + jj = 3 → bHk 84 bTT hp → bFr wPr hp0 hp → rN hp 0 11 = ((m + i : Nat) : Int) → xV (d + 2) am_m190 15 [some (.ref 0), some (.int s), some (.int wi), v3] [] hp R := by
  intro jj
  induction jj with
  | zero =>
    intro i wi v3 hp hwi hj hH hF hm
    obtain rfl : i = 3 := by omega
    refine xild 16 ⟨u190, _, rfl⟩ rfl rfl ?_
    refine xcst 17 (3) ⟨u190, _, rfl⟩ rfl (by decide) (fun z16 h16 => ?_)
    refine xcmp_ge 20 ⟨u190, _, rfl⟩ rfl (fun c17 => ?_) (fun c17 => ?_)
    · exact xretV ⟨u190, _, rfl⟩ rfl (hR hp hH hF hm)
    · omega
  | succ jj ih =>
    intro i wi v3 hp hwi hj hH hF hm
    have vi := hv i (by omega)
    refine xild 16 ⟨u190, _, rfl⟩ rfl rfl ?_
    refine xcst 17 (3) ⟨u190, _, rfl⟩ rfl (by decide) (fun z16 h16 => ?_)
    refine xcmp_ge 20 ⟨u190, _, rfl⟩ rfl (fun c17 => ?_) (fun c17 => ?_)
    · omega
    · refine xild 21 ⟨u190, _, rfl⟩ rfl rfl ?_
      refine xild 22 ⟨u190, _, rfl⟩ rfl rfl ?_
      refine xcallS 25 [.int _, .int _] [] hH ⟨u190, _, rfl⟩ rfl rfl rfl rfl rfl (k_mem hH hs hms hwi (fun z22 h22 => ⟨_, rfl, ?_⟩))
      refine xist 26 ⟨u190, _, rfl⟩ rfl rfl ?_
      refine xald 27 ⟨u190, _, rfl⟩ rfl rfl ?_
      refine xild 28 ⟨u190, _, rfl⟩ rfl rfl ?_
      refine xbip 30 (10) ⟨u190, _, rfl⟩ rfl (by decide) (fun z28 h28 => ?_)
      refine xcmp_ge 33 ⟨u190, _, rfl⟩ rfl (fun c30 => ?_) (fun c30 => ?_)
      · refine xbip 42 (97) ⟨u190, _, rfl⟩ rfl (by decide) (fun z40 h40 => ?_)
        refine xild 43 ⟨u190, _, rfl⟩ rfl rfl ?_
        refine xadd 44 _ ⟨u190, _, rfl⟩ rfl rfl (by omega) (by omega) (fun z43 h43 => ?_)
        refine xbip 46 (10) ⟨u190, _, rfl⟩ rfl (by decide) (fun z44 h44 => ?_)
        refine xsub 47 _ ⟨u190, _, rfl⟩ rfl rfl (by omega) (by omega) (fun z46 h46 => ?_)
        refine xcallC 50 (o := 0) [.int _] [] hH ⟨u190, _, rfl⟩ rfl rfl (by decide) rfl (by decide) rfl ⟨rfl, rfl, rfl, rfl⟩ rfl (k_191E hH (m := m + i) hm (by omega) (fun hp47 hH47 F47 n47 => ⟨_, rfl, ?_⟩))
        refine xinc 53 (1) ⟨u190, _, rfl⟩ rfl rfl rfl (by decide) (by omega) (by omega) (fun z50 h50 => ?_)
        refine xgoto ⟨u190, _, rfl⟩ ?_
        exact ih (i + 1) _ _ hp47 (by omega) (by omega) hH47 (hF.trans F47) (by rw [n47]; rfl)
      · refine xbip 35 (48) ⟨u190, _, rfl⟩ rfl (by decide) (fun z33 h33 => ?_)
        refine xild 36 ⟨u190, _, rfl⟩ rfl rfl ?_
        refine xadd 37 _ ⟨u190, _, rfl⟩ rfl rfl (by omega) (by omega) (fun z36 h36 => ?_)
        refine xgoto ⟨u190, _, rfl⟩ ?_
        refine xcallC 50 (o := 0) [.int _] [] hH ⟨u190, _, rfl⟩ rfl rfl (by decide) rfl (by decide) rfl ⟨rfl, rfl, rfl, rfl⟩ rfl (k_191E hH (m := m + i) hm (by omega) (fun hp47 hH47 F47 n47 => ⟨_, rfl, ?_⟩))
        refine xinc 53 (1) ⟨u190, _, rfl⟩ rfl rfl rfl (by decide) (by omega) (by omega) (fun z50 h50 => ?_)
        refine xgoto ⟨u190, _, rfl⟩ ?_
        exact ih (i + 1) _ _ hp47 (by omega) (by omega) hH47 (hF.trans F47) (by rw [n47]; rfl)
theorem k_190E {d k ms : Nat} {hp : amH} {R : xQ} {s : Int32} (hH : bHk 84 bTT hp) (hs : s.toInt = (ms : Int)) (hms : ms < 32768) (hv : ∀ i, i < 3 → 0 ≤ memN ms i ∧ memN ms i < 15) (hm : rN hp 0 11 = ((4 * k - 1 : Nat) : Int)) (h6 : k ≤ 6)
    (hR : ∀ hp1, bHk 84 bTT hp1 → bFr wPr hp hp1 → rN hp1 0 11 = ((4 * (k + 1) - 1 : Nat) : Int) → R (.inl none) hp1) : xK (d + 2) 190 [.ref 0, .int s] hp R := by
  refine xin (M := am_m190) rfl rfl rfl ?_
  refine xald 1 ⟨u190, _, rfl⟩ rfl rfl ?_
  refine xgetC 4 hH ⟨u190, _, rfl⟩ rfl (by decide) (by decide) rfl rfl (by decide) (fun z1 h1 => ?_)
  refine xif_le 7 ⟨u190, _, rfl⟩ rfl (fun c4 => ?_) (fun c4 => ?_)
  · refine xcst 14 (0) ⟨u190, _, rfl⟩ rfl (by decide) (fun z13 h13 => ?_)
    refine xist 15 ⟨u190, _, rfl⟩ rfl rfl ?_
    refine xpad 1 ?_
    exact l190E (m := 0) hs hms hv (by omega) (fun hp1 g1 g2 g3 => hR hp1 g1 g2 (by rw [g3]; omega)) 3 0 _ _ hp (by omega) (by omega) hH (bFr.refl _ _) (by rw [hm]; omega)
  · refine xald 8 ⟨u190, _, rfl⟩ rfl rfl ?_
    refine xbip 10 (32) ⟨u190, _, rfl⟩ rfl (by decide) (fun z8 h8 => ?_)
    refine xcallC 13 (o := 0) [.int _] [] hH ⟨u190, _, rfl⟩ rfl rfl (by decide) rfl (by decide) rfl ⟨rfl, rfl, rfl, rfl⟩ rfl (k_191E hH (m := 4 * k - 1) hm (by omega) (fun hp10 hH10 F10 n10 => ⟨_, rfl, ?_⟩))
    refine xcst 14 (0) ⟨u190, _, rfl⟩ rfl (by decide) (fun z13 h13 => ?_)
    refine xist 15 ⟨u190, _, rfl⟩ rfl rfl ?_
    refine xpad 1 ?_
    exact l190E (m := 4 * k) hs hms hv (by omega) (fun hp1 g1 g2 g3 => hR hp1 g1 (F10.trans g2) (by rw [g3]; omega)) 3 0 _ _ hp10 (by omega) (by omega) hH10 (bFr.refl _ _) (by rw [n10]; omega)
theorem u171 : bUp 0 am_m171.1 = true := by decide +kernel
theorem l171E {d V p n : Nat} {h : Nat → sR} {sv : Option sR} {T : sT} {ty : Nat → Int} {hp0 : amH} {R : xQ} {a : Int32} (hS0 : clS hp0 (V, T, ty) n h sv) (ha : a.toInt = (p : Int)) (hpV : p < V)
    (hR : ∀ (z : Int32) hp1, bHk 84 bTT hp1 → bFr wPr hp0 hp1 → z.toInt = ((4 * dB T p (trL T 225).length - 1 : Nat) : Int) → R (.inl (some (.int z))) hp1) :
    ∀ (jj t : Nat) (wt : Int32) (hp : amH), wt.toInt = (t : Int) → t + jj = (trL T 225).length → bHk 84 bTT hp → bFr wPr hp0 hp → rN hp 0 11 = ((4 * dB T p t - 1 : Nat) : Int) → xV (d + 3) am_m171 12 [some (.ref 0), some (.int a), some (.int wt)] [] hp R := by
  have hT : sOk V T := hS0.1.2.1
  have hV := hT.2.1
  have l35 := trL_35 hT 225
  have d7 := dB_7 hT (show p < 15 by omega)
  intro jj
  induction jj with
  | zero =>
    intro t wt hp hwt hj hH hF hm
    have hS := wPr_cl hF hS0
    have b1 : rN hp 3 1 = (((trL T 225).length : Nat) : Int) := hS.2.1.1
    obtain rfl : t = (trL T 225).length := by omega
    refine xild 13 ⟨u171, _, rfl⟩ rfl rfl ?_
    refine xald 14 ⟨u171, _, rfl⟩ rfl rfl ?_
    refine xgetD 17 (3) hH ⟨u171, _, rfl⟩ rfl (by decide) (by decide) rfl rfl (by decide) ?_
    refine xgetC 20 hH ⟨u171, _, rfl⟩ rfl (by decide) (by decide) rfl rfl (by decide) (fun z17 h17 => ?_)
    refine xcmp_ge 23 ⟨u171, _, rfl⟩ rfl (fun c20 => ?_) (fun c20 => ?_)
    · refine xald 57 ⟨u171, _, rfl⟩ rfl rfl ?_
      refine xgetC 60 hH ⟨u171, _, rfl⟩ rfl (by decide) (by decide) rfl rfl (by decide) (fun z57 h57 => ?_)
      exact xret ⟨u171, _, rfl⟩ rfl (hR _ hp hH hF (by omega))
    · omega
  | succ jj ih =>
    intro t wt hp hwt hj hH hF hm
    have hS := wPr_cl hF hS0
    have hL : lsN hp 3 T 225 := hS.2.1
    have b1 : rN hp 3 1 = (((trL T 225).length : Nat) : Int) := hL.1
    have ht : t < (trL T 225).length := by omega
    have ml := (mN_lt hT ht).1
    have es := dB_s (T := T) (p := p) (t := t)
    have up := dB_up (T := T) (p := p) (show t + 1 ≤ (trL T 225).length by omega)
    have hv : ∀ i, i < 3 → 0 ≤ memN (mN T t) i ∧ memN (mN T t) i < 15 := fun i hi => by
      obtain ⟨x, y, z, h1, h2, h3, h4, -, -⟩ := on_pts hT ht
      obtain ⟨m1, m2, m3'⟩ := mem3 h1 h2 (show z < 15 by omega)
      rw [h4]
      rcases (show i = 0 ∨ i = 1 ∨ i = 2 by omega) with e | e | e <;> rw [e] <;> omega
    refine xild 13 ⟨u171, _, rfl⟩ rfl rfl ?_
    refine xald 14 ⟨u171, _, rfl⟩ rfl rfl ?_
    refine xgetD 17 (3) hH ⟨u171, _, rfl⟩ rfl (by decide) (by decide) rfl rfl (by decide) ?_
    refine xgetC 20 hH ⟨u171, _, rfl⟩ rfl (by decide) (by decide) rfl rfl (by decide) (fun z17 h17 => ?_)
    refine xcmp_ge 23 ⟨u171, _, rfl⟩ rfl (fun c20 => ?_) (fun c20 => ?_)
    · omega
    · refine xald 24 ⟨u171, _, rfl⟩ rfl rfl ?_
      refine xgetD 27 (3) hH ⟨u171, _, rfl⟩ rfl (by decide) (by decide) rfl rfl (by decide) ?_
      refine xild 28 ⟨u171, _, rfl⟩ rfl rfl ?_
      refine xcallC 31 (o := 3) [.int _] [] hH ⟨u171, _, rfl⟩ rfl rfl (by decide) rfl (by decide) rfl ⟨rfl, rfl, rfl, rfl⟩ rfl (k_setL hH hL (t := t) hwt ht (fun z28 h28 => ⟨_, rfl, ?_⟩))
      refine xild 32 ⟨u171, _, rfl⟩ rfl rfl ?_
      refine xcallS 35 [.int _, .int _] [] hH ⟨u171, _, rfl⟩ rfl rfl rfl rfl rfl (k_has h28 ml ha (by omega) (fun z32 h32 => ⟨_, rfl, ?_⟩))
      refine xif_eq 38 ⟨u171, _, rfl⟩ rfl (fun c35 => ?_) (fun c35 => ?_)
      · have nb : ¬ (mN T t).testBit p = true := fun g => by rw [if_pos g] at h32; omega
        rw [iv_f nb, Nat.add_zero] at es
        refine xinc 53 (1) ⟨u171, _, rfl⟩ rfl rfl rfl (by decide) (by omega) (by omega) (fun z50 h50 => ?_)
        refine xgoto ⟨u171, _, rfl⟩ ?_
        exact ih (t + 1) _ hp (by omega) (by omega) hH hF (by rw [es]; exact hm)
      · have yb : (mN T t).testBit p = true := Classical.byContradiction (fun g => by rw [if_neg g] at h32; omega)
        rw [iv_t yb] at es
        refine xald 39 ⟨u171, _, rfl⟩ rfl rfl ?_
        refine xald 40 ⟨u171, _, rfl⟩ rfl rfl ?_
        refine xgetD 43 (3) hH ⟨u171, _, rfl⟩ rfl (by decide) (by decide) rfl rfl (by decide) ?_
        refine xild 44 ⟨u171, _, rfl⟩ rfl rfl ?_
        refine xcallC 47 (o := 3) [.int _] [.ref 0] hH ⟨u171, _, rfl⟩ rfl rfl (by decide) rfl (by decide) rfl ⟨rfl, rfl, rfl, rfl⟩ rfl (k_setL hH hL (t := t) hwt ht (fun z44 h44 => ⟨_, rfl, ?_⟩))
        refine xcallC 50 (o := 0) [.int _] [] hH ⟨u171, _, rfl⟩ rfl rfl (by decide) rfl (by decide) rfl ⟨rfl, rfl, rfl, rfl⟩ rfl (k_190E (k := dB T p t) hH h44 ml hv hm (by omega) (fun hp47 hH47 F47 n47 => ⟨_, rfl, ?_⟩))
        refine xinc 53 (1) ⟨u171, _, rfl⟩ rfl rfl rfl (by decide) (by omega) (by omega) (fun z50 h50 => ?_)
        refine xgoto ⟨u171, _, rfl⟩ ?_
        exact ih (t + 1) _ hp47 (by omega) (by omega) hH47 (hF.trans F47) (by rw [n47, es])
theorem k_171E {d V n : Nat} {h : Nat → sR} {sv : Option sR} {T : sT} {ty : Nat → Int} {hp : amH} {R : xQ} {a : Int32} (hH : bHk 84 bTT hp) (hS : clS hp (V, T, ty) n h sv)
    (hT : ∀ E hp1, bHk 84 bTT hp1 → cF hp hp1 → clS hp1 (V, T, ty) n h sv → ¬ gPt V a.toInt = 0 → ((gPt V a.toInt = 1 ∧ E = 1)) → R (.inr E) hp1)
    (hR : ∀ (z : Int32) hp1, bHk 84 bTT hp1 → cF hp hp1 → gPt V a.toInt = 0 → clS hp1 (V, T, ty) n h sv → z.toInt = ((4 * dB T a.toInt.toNat (trL T 225).length - 1 : Nat) : Int) → R (.inl (some (.int z))) hp1) : xK (d + 5) 171 [.ref 0, .int a] hp R := by
  have hB : bdOk hp 3 V T := hS.1
  have b0 : rN hp 3 0 = (V : Int) := hB.1
  have hL : lsN hp 3 T 225 := hS.2.1
  have b1 : rN hp 3 1 = (((trL T 225).length : Nat) : Int) := hL.1
  have hT0 : sOk V T := hB.2.1
  have h15 : V ≤ 15 := hT0.2.1
  have l35 : (trL T 225).length ≤ 35 := trL_35 hT0 225
  refine xin (M := am_m171) rfl rfl rfl ?_
  refine xald 1 ⟨u171, _, rfl⟩ rfl rfl ?_
  refine xild 2 ⟨u171, _, rfl⟩ rfl rfl ?_
  refine xcallT 5 (o := 0) [.int _] [] hH ⟨u171, _, rfl⟩ rfl rfl (by decide) rfl (by decide) rfl ⟨rfl, rfl, rfl, rfl⟩ rfl (k_rq1 hH b0 (fun g2 => Or.inl ⟨_, rfl, ?_⟩) (fun g2 => Or.inr ⟨_, rfl, rfl, hT _ hp hH cF.refl hS (by omega) ⟨g2, rfl⟩⟩))
  have k2 := gPt_0.mp g2
  refine xald 6 ⟨u171, _, rfl⟩ rfl rfl ?_
  refine xcst 7 (0) ⟨u171, _, rfl⟩ rfl (by decide) (fun z6 h6 => ?_)
  refine xputC 10 hH ⟨u171, _, rfl⟩ rfl (by decide) (by decide) rfl rfl (by decide) ⟨rfl, rfl⟩ (by omega) (by omega) (fun hp7 hH7 U7 => ?_)
  have s7 := U7.1
  refine xcst 11 (0) ⟨u171, _, rfl⟩ rfl (by decide) (fun z10 h10 => ?_)
  refine xist 12 ⟨u171, _, rfl⟩ rfl rfl ?_
  have S7 : clS hp7 (V, T, ty) n h sv := wPr_cl (rU_fr U7 (by decide)) hS
  exact l171E (p := a.toInt.toNat) S7 (by omega) (by omega) (fun z hp1 g1 g3 g4 => hR z hp1 g1 ((wPr_cF (rU_fr U7 (by decide))).trans (wPr_cF g3)) g2 (wPr_cl g3 S7) g4) (trL T 225).length 0 _ hp7 (by omega) (by omega) hH7 (bFr.refl _ _) (by rw [U7.1, h6]; rfl)
theorem l337E {d V p n : Nat} {h : Nat → sR} {sv : Option sR} {T : sT} {ty : Nat → Int} {hp0 : amH} {R : xQ} {a : Int32} (hT : sOk V T) (hL0 : rlN hp0 T 225) (ha : a.toInt = (p : Int)) (hpV : p < V)
    (hR : ∀ (z : Int32) hp1, bHk 84 bTT hp1 → P0 hp1 → bFr wOut hp0 hp1 → z.toInt = ((4 * dB T p (trL T 225).length - 1 : Nat) : Int) → R (.inl (some (.int z))) hp1) :
    ∀ (jj t : Nat) (wt : Int32) (hp : amH), wt.toInt = (t : Int) → t + jj = (trL T 225).length → bHk 84 bTT hp → P0 hp → bFr wOut hp0 hp → rN hp 66 32 = ((4 * dB T p t - 1 : Nat) : Int) → xV (d + 2) am_m337 21 [some (.ref 66), some (.int a), some (.int wt)] [] hp R := by
  have hV := hT.2.1
  have l35 := trL_35 hT 225
  have d7 := dB_7 hT (show p < 15 by omega)
  intro jj
  induction jj with
  | zero =>
    intro t wt hp hwt hj hH hP hF hm
    have b1 : rN hp 66 12 = (((trL T 225).length : Nat) : Int) := (r_fr hF rfl).trans hL0.1
    obtain rfl : t = (trL T 225).length := by omega
    refine xild 22 ⟨u337, _, rfl⟩ rfl rfl ?_
    refine xald 23 ⟨u337, _, rfl⟩ rfl rfl ?_
    refine xgetI 26 hH ⟨u337, _, rfl⟩ rfl rfl (fun z23 h23 => ?_)
    refine xcmp_ge 29 ⟨u337, _, rfl⟩ rfl (fun c26 => ?_) (fun c26 => ?_)
    · refine xald 95 ⟨u337, _, rfl⟩ rfl rfl ?_
      refine xgetI 98 hH ⟨u337, _, rfl⟩ rfl rfl (fun z95 h95 => ?_)
      exact xret ⟨u337, _, rfl⟩ rfl (hR _ hp hH hP hF (by omega))
    · omega
  | succ jj ih =>
    intro t wt hp hwt hj hH hP hF hm
    have hL : rlN hp T 225 := rlN_fr hL0 (r_fr hF rfl) (fun _ => r_fr hF rfl) (fun _ => r_fr hF rfl) (fun _ => r_fr hF rfl) (fun _ => r_fr hF rfl)
    have b1 : rN hp 66 12 = (((trL T 225).length : Nat) : Int) := hL.1
    have ht : t < (trL T 225).length := by omega
    have et : wt.toInt.toNat = t := by omega
    have ml := (mN_lt hT ht).1
    have es := dB_s (T := T) (p := p) (t := t)
    have up := dB_up (T := T) (p := p) (show t + 1 ≤ (trL T 225).length by omega)
    have Lt := (hL.2 t ht).2.2.2
    obtain ⟨x, y, z, h1, h2, h3, h4, -, -⟩ := on_pts hT ht
    obtain ⟨o1, o2, o3⟩ := rl_at hT hL ht h4 h1 h2
    refine xild 22 ⟨u337, _, rfl⟩ rfl rfl ?_
    refine xald 23 ⟨u337, _, rfl⟩ rfl rfl ?_
    refine xgetI 26 hH ⟨u337, _, rfl⟩ rfl rfl (fun z23 h23 => ?_)
    refine xcmp_ge 29 ⟨u337, _, rfl⟩ rfl (fun c26 => ?_) (fun c26 => ?_)
    · omega
    · refine xald 30 ⟨u337, _, rfl⟩ rfl rfl ?_
      refine xgetR 33 75 hH ⟨u337, _, rfl⟩ rfl rfl ?_
      refine xild 34 ⟨u337, _, rfl⟩ rfl rfl ?_
      refine xiald 35 (wt).toInt.toNat hH ⟨u337, _, rfl⟩ rfl (by decide) rfl (by omega) (by omega) (fun z34 h34 => ?_)
      refine xild 36 ⟨u337, _, rfl⟩ rfl rfl ?_
      refine xshr 37 ⟨u337, _, rfl⟩ rfl ?_
      refine xcst 38 (1) ⟨u337, _, rfl⟩ rfl (by decide) (fun z37 h37 => ?_)
      refine xand 39 ⟨u337, _, rfl⟩ rfl ?_
      have e34 : z34.toInt = ((mN T t : Nat) : Int) := by rw [h34, et]; exact Lt
      have w1 := i_shr e34 ml ha (by omega)
      have w2 := i_and w1.1 (b := 1) h37 w1.2
      have w3 : mN T t >>> p &&& 1 = ((mN T t).testBit p).toNat := by
        rw [Nat.and_one_is_mod, Nat.shiftRight_eq_div_pow, Nat.testBit_eq_decide_div_mod_eq]
        by_cases h : mN T t / 2 ^ p % 2 = 1
        · rw [h]; rfl
        · have : mN T t / 2 ^ p % 2 = 0 := by omega
          rw [this]; rfl
      rw [w3] at w2
      refine xif_ne 42 ⟨u337, _, rfl⟩ rfl (fun c39 => ?_) (fun c39 => ?_)
      · have yb : (mN T t).testBit p = true := by
          cases e : (mN T t).testBit p with
          | true => rfl
          | false => rw [e, show Bool.toNat false = 0 from rfl] at w2; omega
        rw [iv_t yb] at es
        refine xald 46 ⟨u337, _, rfl⟩ rfl rfl ?_
        refine xgetI 49 hH ⟨u337, _, rfl⟩ rfl rfl (fun z46 h46 => ?_)
        refine xif_le 52 ⟨u337, _, rfl⟩ rfl (fun c49 => ?_) (fun c49 => ?_)
        · refine xald 59 ⟨u337, _, rfl⟩ rfl rfl ?_
          refine xald 60 ⟨u337, _, rfl⟩ rfl rfl ?_
          refine xgetR 63 72 hH ⟨u337, _, rfl⟩ rfl rfl ?_
          refine xild 64 ⟨u337, _, rfl⟩ rfl rfl ?_
          refine xiald 65 (wt).toInt.toNat hH ⟨u337, _, rfl⟩ rfl (by decide) rfl (by omega) (by omega) (fun z64 h64 => ?_)
          refine xcall 68 [.ref 66, .int _] [] hH ⟨u337, _, rfl⟩ rfl rfl rfl rfl rfl (k_wp hH hP (o := 4 * dB T p t - 1) hm (by omega) (by rw [h64, et, o1]; omega) (by rw [h64, et, o1]; omega) (fun hp65 hH65 P65 F65 n65 => ⟨_, rfl, ?_⟩))
          refine xald 69 ⟨u337, _, rfl⟩ rfl rfl ?_
          refine xald 70 ⟨u337, _, rfl⟩ rfl rfl ?_
          refine xgetR 73 73 hH65 ⟨u337, _, rfl⟩ rfl rfl ?_
          refine xild 74 ⟨u337, _, rfl⟩ rfl rfl ?_
          refine xiald 75 (wt).toInt.toNat hH65 ⟨u337, _, rfl⟩ rfl (by decide) rfl (by omega) (by omega) (fun z74 h74 => ?_)
          refine xcall 78 [.ref 66, .int _] [] hH65 ⟨u337, _, rfl⟩ rfl rfl rfl rfl rfl (k_wp hH65 P65 (o := 4 * dB T p t - 1 + 1) n65 (by omega) (by rw [h74, et, show rN hp65 73 t = rN hp 73 t from r_fr F65 rfl, o2]; omega) (by rw [h74, et, show rN hp65 73 t = rN hp 73 t from r_fr F65 rfl, o2]; omega) (fun hp75 hH75 P75 F75 n75 => ⟨_, rfl, ?_⟩))
          refine xald 79 ⟨u337, _, rfl⟩ rfl rfl ?_
          refine xald 80 ⟨u337, _, rfl⟩ rfl rfl ?_
          refine xgetR 83 74 hH75 ⟨u337, _, rfl⟩ rfl rfl ?_
          refine xild 84 ⟨u337, _, rfl⟩ rfl rfl ?_
          refine xiald 85 (wt).toInt.toNat hH75 ⟨u337, _, rfl⟩ rfl (by decide) rfl (by omega) (by omega) (fun z84 h84 => ?_)
          refine xcall 88 [.ref 66, .int _] [] hH75 ⟨u337, _, rfl⟩ rfl rfl rfl rfl rfl (k_wp hH75 P75 (o := 4 * dB T p t - 1 + 1 + 1) n75 (by omega) (by rw [h84, et, show rN hp75 74 t = rN hp65 74 t from r_fr F75 rfl, show rN hp65 74 t = rN hp 74 t from r_fr F65 rfl, o3]; omega) (by rw [h84, et, show rN hp75 74 t = rN hp65 74 t from r_fr F75 rfl, show rN hp65 74 t = rN hp 74 t from r_fr F65 rfl, o3]; omega) (fun hp85 hH85 P85 F85 n85 => ⟨_, rfl, ?_⟩))
          refine xinc 91 (1) ⟨u337, _, rfl⟩ rfl rfl rfl (by decide) (by omega) (by omega) (fun z88 h88 => ?_)
          refine xgoto ⟨u337, _, rfl⟩ ?_
          exact ih (t + 1) _ hp85 (by omega) (by omega) hH85 P85 (((hF.trans F65).trans F75).trans F85) (by rw [n85, es]; omega)
        · refine xald 53 ⟨u337, _, rfl⟩ rfl rfl ?_
          refine xbip 55 (32) ⟨u337, _, rfl⟩ rfl (by decide) (fun z53 h53 => ?_)
          refine xcall 58 [.ref 66, .int _] [] hH ⟨u337, _, rfl⟩ rfl rfl rfl rfl rfl (k_write hH hP (o := 4 * dB T p t - 1) hm (by omega) (fun hp55 hH55 P55 F55 n55 => ⟨_, rfl, ?_⟩))
          refine xald 59 ⟨u337, _, rfl⟩ rfl rfl ?_
          refine xald 60 ⟨u337, _, rfl⟩ rfl rfl ?_
          refine xgetR 63 72 hH55 ⟨u337, _, rfl⟩ rfl rfl ?_
          refine xild 64 ⟨u337, _, rfl⟩ rfl rfl ?_
          refine xiald 65 (wt).toInt.toNat hH55 ⟨u337, _, rfl⟩ rfl (by decide) rfl (by omega) (by omega) (fun z64 h64 => ?_)
          refine xcall 68 [.ref 66, .int _] [] hH55 ⟨u337, _, rfl⟩ rfl rfl rfl rfl rfl (k_wp hH55 P55 (o := 4 * dB T p t - 1 + 1) n55 (by omega) (by rw [h64, et, show rN hp55 72 t = rN hp 72 t from r_fr F55 rfl, o1]; omega) (by rw [h64, et, show rN hp55 72 t = rN hp 72 t from r_fr F55 rfl, o1]; omega) (fun hp65 hH65 P65 F65 n65 => ⟨_, rfl, ?_⟩))
          refine xald 69 ⟨u337, _, rfl⟩ rfl rfl ?_
          refine xald 70 ⟨u337, _, rfl⟩ rfl rfl ?_
          refine xgetR 73 73 hH65 ⟨u337, _, rfl⟩ rfl rfl ?_
          refine xild 74 ⟨u337, _, rfl⟩ rfl rfl ?_
          refine xiald 75 (wt).toInt.toNat hH65 ⟨u337, _, rfl⟩ rfl (by decide) rfl (by omega) (by omega) (fun z74 h74 => ?_)
          refine xcall 78 [.ref 66, .int _] [] hH65 ⟨u337, _, rfl⟩ rfl rfl rfl rfl rfl (k_wp hH65 P65 (o := 4 * dB T p t - 1 + 1 + 1) n65 (by omega) (by rw [h74, et, show rN hp65 73 t = rN hp55 73 t from r_fr F65 rfl, show rN hp55 73 t = rN hp 73 t from r_fr F55 rfl, o2]; omega) (by rw [h74, et, show rN hp65 73 t = rN hp55 73 t from r_fr F65 rfl, show rN hp55 73 t = rN hp 73 t from r_fr F55 rfl, o2]; omega) (fun hp75 hH75 P75 F75 n75 => ⟨_, rfl, ?_⟩))
          refine xald 79 ⟨u337, _, rfl⟩ rfl rfl ?_
          refine xald 80 ⟨u337, _, rfl⟩ rfl rfl ?_
          refine xgetR 83 74 hH75 ⟨u337, _, rfl⟩ rfl rfl ?_
          refine xild 84 ⟨u337, _, rfl⟩ rfl rfl ?_
          refine xiald 85 (wt).toInt.toNat hH75 ⟨u337, _, rfl⟩ rfl (by decide) rfl (by omega) (by omega) (fun z84 h84 => ?_)
          refine xcall 88 [.ref 66, .int _] [] hH75 ⟨u337, _, rfl⟩ rfl rfl rfl rfl rfl (k_wp hH75 P75 (o := 4 * dB T p t - 1 + 1 + 1 + 1) n75 (by omega) (by rw [h84, et, show rN hp75 74 t = rN hp65 74 t from r_fr F75 rfl, show rN hp65 74 t = rN hp55 74 t from r_fr F65 rfl, show rN hp55 74 t = rN hp 74 t from r_fr F55 rfl, o3]; omega) (by rw [h84, et, show rN hp75 74 t = rN hp65 74 t from r_fr F75 rfl, show rN hp65 74 t = rN hp55 74 t from r_fr F65 rfl, show rN hp55 74 t = rN hp 74 t from r_fr F55 rfl, o3]; omega) (fun hp85 hH85 P85 F85 n85 => ⟨_, rfl, ?_⟩))
          refine xinc 91 (1) ⟨u337, _, rfl⟩ rfl rfl rfl (by decide) (by omega) (by omega) (fun z88 h88 => ?_)
          refine xgoto ⟨u337, _, rfl⟩ ?_
          exact ih (t + 1) _ hp85 (by omega) (by omega) hH85 P85 ((((hF.trans F55).trans F65).trans F75).trans F85) (by rw [n85, es]; omega)
      · have nb : ¬ (mN T t).testBit p = true := fun g => by rw [g, show Bool.toNat true = 1 from rfl] at w2; omega
        rw [iv_f nb, Nat.add_zero] at es
        refine xgoto ⟨u337, _, rfl⟩ ?_
        refine xinc 91 (1) ⟨u337, _, rfl⟩ rfl rfl rfl (by decide) (by omega) (by omega) (fun z88 h88 => ?_)
        refine xgoto ⟨u337, _, rfl⟩ ?_
        exact ih (t + 1) _ hp (by omega) (by omega) hH hP hF (by rw [es]; exact hm)
theorem k_337E {d V n : Nat} {h : Nat → sR} {sv : Option sR} {T : sT} {ty : Nat → Int} {hp : amH} {R : xQ} {a : Int32} (hH : bHk 84 bTT hp) (hP : P0 hp) (hS : rfS hp (V, T, ty) n h sv)
    (hR : ∀ (z : Int32) hp1, bHk 84 bTT hp1 → P0 hp1 → bFr wM hp hp1 → rN hp1 66 7 = gPt V a.toInt → ((¬ gPt V a.toInt = 0 ∧ rfS hp1 (V, T, ty) n h sv) ∨ (gPt V a.toInt = 0 ∧ rfS hp1 (V, T, ty) n h sv ∧ z.toInt = ((4 * dB T a.toInt.toNat (trL T 225).length - 1 : Nat) : Int))) → R (.inl (some (.int z))) hp1) : xK (d + 3) 337 [.ref 66, .int a] hp R := by
  have hB : rdOk hp V T := rowOk_rd hS.1
  have b0 : rN hp 67 0 = (V : Int) := hB.1
  have hT0 : sOk V T := hB.2.1
  have h15 : V ≤ 15 := hT0.2.1
  have l35 : (trL T 225).length ≤ 35 := trL_35 hT0 225
  refine xin (M := am_m337) rfl rfl rfl ?_
  refine xald 1 ⟨u337, _, rfl⟩ rfl rfl ?_
  refine xild 2 ⟨u337, _, rfl⟩ rfl rfl ?_
  refine xcall 5 [.ref 66, .int _] [] hH ⟨u337, _, rfl⟩ rfl rfl rfl rfl rfl (k_gp1 hH b0 h15 (fun z2 hp2 hH2 F2 t2 o2 => ⟨_, rfl, ?_⟩))
  have S2 := rfS_W hS F2 (fun _ => rfl) rfl rfl (fun _ => rfl) (fun _ => rfl)
  have P2 : P0 hp2 := P0_W (W := [(66, 7)]) (by decide) F2 hP
  refine xif_eq 8 ⟨u337, _, rfl⟩ rfl (fun c5 => ?_) (fun c5 => ?_)
  · have g2 : gPt V a.toInt = 0 := by omega
    have k2 := gPt_0.mp g2
    refine xald 11 ⟨u337, _, rfl⟩ rfl rfl ?_
    refine xcall 14 [.ref 66] [] hH2 ⟨u337, _, rfl⟩ rfl rfl rfl rfl rfl (k_rlst hH2 (V := V) (T := T) (rowOk_rd S2.1) (fun hp11 hH11 F11 B11 L11 => ⟨_, rfl, ?_⟩))
    have S11 := rfS_W S2 F11 (fun _ => rfl) rfl rfl (fun _ => rfl) (fun _ => rfl)
    have P11 : P0 hp11 := P0_W (W := bLT) (by decide) F11 P2
    refine xald 15 ⟨u337, _, rfl⟩ rfl rfl ?_
    refine xcst 16 (0) ⟨u337, _, rfl⟩ rfl (by decide) (fun z15 h15 => ?_)
    refine xputI 19 hH11 ⟨u337, _, rfl⟩ rfl rfl ⟨rfl, rfl⟩ (by omega) (by omega) (fun hp16 hH16 U16 => ?_)
    have s16 := U16.1
    refine xcst 20 (0) ⟨u337, _, rfl⟩ rfl (by decide) (fun z19 h19 => ?_)
    refine xist 21 ⟨u337, _, rfl⟩ rfl rfl ?_
    have S16 := rfS_W (W := [(66, 32)]) S11 (rU_fr U16 rfl) (fun _ => rfl) rfl rfl (fun _ => rfl) (fun _ => rfl)
    have P16 : P0 hp16 := P0_W (W := [(66, 32)]) (by decide) (rU_fr U16 rfl) P11
    have L16 : rlN hp16 T 225 := rlN_fr L11 (rU_ne U16 (by omega)) (fun _ => rU_ne U16 (by omega)) (fun _ => rU_ne U16 (by omega)) (fun _ => rU_ne U16 (by omega)) (fun _ => rU_ne U16 (by omega))
    have t16 : rN hp16 66 7 = gPt V a.toInt := by rw [show rN hp16 66 7 = rN hp11 66 7 from rU_ne U16 (by omega), show rN hp11 66 7 = rN hp2 66 7 from r_fr F11 rfl]; exact t2
    exact l337E (n := n) (h := h) (sv := sv) (ty := ty) (p := a.toInt.toNat) hT0 L16 (by omega) (by omega) (fun z hp1 g1 g2' g3 g4 => hR z hp1 g1 g2' ((bFr_sub F2 (by decide)).trans ((bFr_sub F11 (by decide)).trans ((rU_fr U16 (by decide)).trans (bFr_sub g3 (by decide))))) (by rw [show rN hp1 66 7 = rN hp16 66 7 from r_fr g3 rfl]; exact t16) (Or.inr ⟨g2, rfS_W S16 g3 (fun _ => rfl) rfl rfl (fun _ => rfl) (fun _ => rfl), g4⟩)) (trL T 225).length 0 _ hp16 (by omega) (by omega) hH16 P16 (bFr.refl _ _) (by rw [U16.1, h15]; rfl)
  · refine xcst 9 (0) ⟨u337, _, rfl⟩ rfl (by decide) (fun z8 h8 => ?_)
    exact xret ⟨u337, _, rfl⟩ rfl (hR _ hp2 hH2 P2 (bFr_sub F2 (by decide)) t2 (Or.inl ⟨by omega, S2⟩))
theorem h383E {d : Nat} {hp : amH} {R : cQ} {x1 : Int32} {V n : Nat} {h : Nat → sR} {sv : Option sR} {T : sT} {ty : Nat → Int} (hI : lawI hp) (c : clS hp (V, T, ty) n h sv) (r : rfS hp (V, T, ty) n h sv)
    (hR : ∀ (z : Int32) hp1 mc ms, lawI hp1 → rfS hp1 (V, T, ty) n h sv → z.toInt = gPt V x1.toInt → ((¬ gPt V x1.toInt = 0 ∧ clS hp1 (V, T, ty) n h sv) ∨ (gPt V x1.toInt = 0 ∧ clS hp1 (V, T, ty) n h sv ∧ rJ hp1 83 0 = ((4 * dB T x1.toInt.toNat (trL T 225).length - 1 : Nat) : Int))) → mc ≤ 1 → ms ≤ 6 → R (.inl (some (.int z))) hp1 mc ms) : cK (d + 20) 383 [.ref 0, .int x1, .ref 83] hp R := by
  refine cin (M := am_m383) rfl rfl rfl ?_
  refine cald 1 ⟨u383J, _, rfl⟩ rfl rfl ?_
  refine ccst 2 (0) ⟨u383J, _, rfl⟩ rfl (by decide) (fun z1 h1 => ?_)
  refine cald 3 ⟨u383J, _, rfl⟩ rfl rfl ?_
  refine cild 4 ⟨u383J, _, rfl⟩ rfl rfl ?_
  refine ccall (kd := 0) (t := 1) [.ref 0, .int _] [.int _, .ref 83] hI.1 ⟨u383J, _, rfl⟩ (Or.inl ⟨_, rfl, rfl, by decide, by decide⟩) rfl rfl rfl ⟨rfl, rfl, rfl⟩ rfl (recv0 hI.1 _) rfl (qKE (Φ := fun z hp1 => bHk 84 bTT hp1 ∧ cF hp hp1 ∧ gPt V x1.toInt = 0 ∧ clS hp1 (V, T, ty) n h sv ∧ z.toInt = ((4 * dB T x1.toInt.toNat (trL T 225).length - 1 : Nat) : Int)) (Ψ := fun E hp1 => lawI hp1 ∧ rfS hp1 (V, T, ty) n h sv ∧ clS hp1 (V, T, ty) n h sv ∧ ¬ gPt V x1.toInt = 0 ∧ ((gPt V x1.toInt = 1 ∧ E = 1))) (fun R g1 g2 => k_171E (d := d + 14) hI.1 c (fun E hp1 b1 b2 b3 e1 e2 => g2 E hp1 ⟨law_cl hI b1 b2, cF_rf b2 r, b3, e1, e2⟩) (fun z hp1 a1 a2 a3 a4 a5 => g1 z hp1 ⟨a1, a2, a3, a4, a5⟩)) (fun z hp1 φ => Or.inl ⟨_, rfl, ?_⟩) (fun E hp1 ψ => Or.inr ?_))
  · refine ci2lE 8 ⟨u383J, _, rfl⟩ rfl (fun w hw => ?_)
    refine clastE 9 φ.1 ⟨u383J, _, rfl⟩ rfl h1 (fun hp2 hH2 F2 J2 => ?_)
    refine cgoto ⟨u383J, _, rfl⟩ ?_
    refine ccst 16 (0) ⟨u383J, _, rfl⟩ rfl (by decide) (fun z9 h9 => ?_)
    exact cret ⟨u383J, _, rfl⟩ (Or.inl rfl) (hR _ _ _ _ (lawI_83 (law_cl hI φ.1 φ.2.1) hH2 F2) (rf_83 F2 (cF_rf φ.2.1 r)) (by rw [φ.2.2.1]; exact h9) (Or.inr ⟨φ.2.2.1, cl_83 F2 φ.2.2.2.1, by rw [J2, hw]; exact φ.2.2.2.2⟩) (by decide) (by decide))
  · obtain ⟨ψ0, ψr, ψc, ψ1, ψ2⟩ := ψ
    obtain ⟨ce, rfl⟩ := ψ2
    refine ⟨1, 12, 3, 13, rfl, rfl, rfl, rfl, ?_⟩
    refine ccst 14 (1) ⟨u383J, _, rfl⟩ rfl (by decide) (fun z9 h9 => ?_)
    exact cret ⟨u383J, _, rfl⟩ (Or.inl rfl) (hR _ _ _ _ ψ0 ψr (by rw [ce]; exact h9) (Or.inl ⟨ψ1, ψc⟩) (by decide) (by decide))
