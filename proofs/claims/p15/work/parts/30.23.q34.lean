/-! ===== cyclesOf on both sides ===== -/
def cyNt (V : Nat) (T : sT) (L : Int) : Nat → Nat
  | 0 => 0
  | n + 1 => if n / 15 < n % 15 ∧ n % 15 < V then cyNt V T L n + cyN V T L (n / 15) (n % 15) V else cyNt V T L n
theorem cyT_no {V : Nat} {T : sT} {L : Int} (n : Nat) : ∀ k, (∀ j, n ≤ j → j < n + k → ¬ (j / 15 < j % 15 ∧ j % 15 < V)) → cyNt V T L (n + k) = cyNt V T L n
  | 0, _ => rfl
  | k + 1, h => by
    rw [← cyT_no n k (fun j h1 h2 => h j h1 (by omega))]
    show (if _ then _ else _) = _
    rw [if_neg (h (n + k) (by omega) (by omega))]
theorem cyT_s {V a b : Nat} {T : sT} {L : Int} (hb : b < 15) (h : a < b ∧ b < V) : cyNt V T L (15 * a + (b + 1)) = cyNt V T L (15 * a + b) + cyN V T L a b V := by
  show (if _ then _ else _) = _
  rw [show (15 * a + b) / 15 = a by omega, show (15 * a + b) % 15 = b by omega, if_pos h]
theorem cyT_row {V a b : Nat} {T : sT} {L : Int} (hV : V ≤ 15) (hb : V = b) : cyNt V T L (15 * (a + 1)) = cyNt V T L (15 * a + b) := by
  rw [← hb, show 15 * (a + 1) = 15 * a + V + (15 - V) by omega]
  exact cyT_no _ _ (fun k k1 k2 => fun z => by omega)
theorem cyT_beg {V a : Nat} {T : sT} {L : Int} : cyNt V T L (15 * a + (a + 1)) = cyNt V T L (15 * a) :=
  cyT_no _ _ (fun k k1 k2 => fun z => by omega)
theorem cyT_end {V a : Nat} {T : sT} {L : Int} (hV : V ≤ 15) (ha : V = a) : cyNt V T L 225 = cyNt V T L (15 * a) := by
  rw [← ha, show 225 = 15 * V + (225 - 15 * V) by omega]
  exact cyT_no _ _ (fun k k1 k2 => fun z => by omega)
theorem cyT_le {V : Nat} {T : sT} {L : Int} (hV : V ≤ 15) : ∀ n, cyNt V T L n ≤ 15 * n
  | 0 => Nat.le_refl _
  | n + 1 => by
    have h1 := cyT_le (T := T) (L := L) hV n
    have h2 := cyN_le (V := V) (T := T) (L := L) (a := n / 15) (b := n % 15) V
    show (if _ then _ else _) ≤ _
    split <;> omega
theorem u145 : bUp 0 am_m145.1 = true := by decide +kernel
theorem l145i {d a V : Nat} {T : sT} {hp0 : amH} {R : xQ} {wa l : Int32} (hB0 : bdOk hp0 3 V T) (hL0 : lsN hp0 3 T 225) (ha : wa.toInt = (a : Int)) (aV : a < V)
    (hQ : ∀ (w wb : Int32) (hp : amH), bHk 84 bTT hp → bFx [52, 53, 54, 55] hp0 hp → w.toInt = ((cyNt V T l.toInt (15 * (a + 1)) : Nat) : Int) → xV (d + 5) am_m145 63 [some (.ref 0), some (.int l), some (.int w), some (.int wa), some (.int wb)] [] hp R) :
    ∀ (jj b : Nat) (w wb : Int32) (hp : amH), bHk 84 bTT hp → bFx [52, 53, 54, 55] hp0 hp → wb.toInt = (b : Int) → a < b → b + jj = V → w.toInt = ((cyNt V T l.toInt (15 * a + b) : Nat) : Int) → xV (d + 5) am_m145 20 [some (.ref 0), some (.int l), some (.int w), some (.int wa), some (.int wb)] [] hp R := by
  intro jj
  induction jj with
  | zero =>
    intro b w wb hp hH hF hb hab hj hw
    have hB : bdOk hp 3 V T := bdOk_fr hB0 (bFx_n hF (by simp)) (fun i => bFx_n hF (by simp)) (fun i => bFx_n hF (by simp))
    have hL : lsN hp 3 T 225 := lsN_fr hL0 (bFx_n hF (by simp)) (fun i => bFx_n hF (by simp)) (fun i => bFx_n hF (by simp))
    have h15 : V ≤ 15 := hB.2.1.2.1
    have b0 := hB.1
    have e := cyT_row (V := V) (a := a) (b := b) (T := T) (L := l.toInt) h15 (by omega)
    refine xild2 22 ⟨u145, _, rfl⟩ rfl rfl ?_
    refine xald 23 ⟨u145, _, rfl⟩ rfl rfl ?_
    refine xgetD 26 (3) hH ⟨u145, _, rfl⟩ rfl (by decide) (by decide) rfl rfl (by decide) ?_
    refine xgetC 29 hH ⟨u145, _, rfl⟩ rfl (by decide) (by decide) rfl rfl (by decide) (fun z26 h26 => ?_)
    refine xcmp_ge 32 ⟨u145, _, rfl⟩ rfl (fun c29 => ?_) (fun c29 => ?_)
    · exact hQ _ _ _ hH hF (by rw [e]; exact hw)
    · omega
  | succ jj ih =>
    intro b w wb hp hH hF hb hab hj hw
    have hB : bdOk hp 3 V T := bdOk_fr hB0 (bFx_n hF (by simp)) (fun i => bFx_n hF (by simp)) (fun i => bFx_n hF (by simp))
    have hL : lsN hp 3 T 225 := lsN_fr hL0 (bFx_n hF (by simp)) (fun i => bFx_n hF (by simp)) (fun i => bFx_n hF (by simp))
    have h15 : V ≤ 15 := hB.2.1.2.1
    have b0 := hB.1
    have s1 := cyT_s (V := V) (a := a) (b := b) (T := T) (L := l.toInt) (by omega) ⟨hab, by omega⟩
    have le1 := cyT_le (V := V) (T := T) (L := l.toInt) h15 (15 * a + b)
    have le2 := cyN_le (V := V) (T := T) (L := l.toInt) (a := a) (b := b) V
    refine xild2 22 ⟨u145, _, rfl⟩ rfl rfl ?_
    refine xald 23 ⟨u145, _, rfl⟩ rfl rfl ?_
    refine xgetD 26 (3) hH ⟨u145, _, rfl⟩ rfl (by decide) (by decide) rfl rfl (by decide) ?_
    refine xgetC 29 hH ⟨u145, _, rfl⟩ rfl (by decide) (by decide) rfl rfl (by decide) (fun z26 h26 => ?_)
    refine xcmp_ge 32 ⟨u145, _, rfl⟩ rfl (fun c29 => ?_) (fun c29 => ?_)
    · omega
    · refine xald 33 ⟨u145, _, rfl⟩ rfl rfl ?_
      refine xgetD 36 (52) hH ⟨u145, _, rfl⟩ rfl (by decide) (by decide) rfl rfl (by decide) ?_
      refine xald 37 ⟨u145, _, rfl⟩ rfl rfl ?_
      refine xgetD 40 (3) hH ⟨u145, _, rfl⟩ rfl (by decide) (by decide) rfl rfl (by decide) ?_
      refine xild 41 ⟨u145, _, rfl⟩ rfl rfl ?_
      refine xild2 43 ⟨u145, _, rfl⟩ rfl rfl ?_
      refine xcallC 46 (o := 52) [.ref 3, .int _, .int _] [] hH ⟨u145, _, rfl⟩ rfl rfl (by decide) rfl (by decide) rfl ⟨rfl, rfl, rfl, rfl⟩ rfl (k_gaC hH hB hL (a := a) (b := b) (by omega) (by omega) (by omega) (by omega) (by omega) (fun hp43 hH43 F43 C43 => ⟨_, rfl, ?_⟩))
      refine xild 47 ⟨u145, _, rfl⟩ rfl rfl ?_
      refine xald 48 ⟨u145, _, rfl⟩ rfl rfl ?_
      refine xgetD 51 (52) hH43 ⟨u145, _, rfl⟩ rfl (by decide) (by decide) rfl rfl (by decide) ?_
      refine xild 52 ⟨u145, _, rfl⟩ rfl rfl ?_
      refine xcallC 55 (o := 52) [.int _] [.int _] hH43 ⟨u145, _, rfl⟩ rfl rfl (by decide) rfl (by decide) rfl ⟨rfl, rfl, rfl, rfl⟩ rfl (k_42E hB.2.1 hH43 C43 (by omega) (by omega) (by omega) (fun z52 h52 => ⟨_, rfl, ?_⟩))
      refine xadd 56 _ ⟨u145, _, rfl⟩ rfl rfl (by omega) (by omega) (fun z55 h55 => ?_)
      refine xist 57 ⟨u145, _, rfl⟩ rfl rfl ?_
      refine xinc 60 (1) ⟨u145, _, rfl⟩ rfl rfl rfl (by decide) (by omega) (by omega) (fun z57 h57 => ?_)
      refine xgoto ⟨u145, _, rfl⟩ ?_
      exact ih (b + 1) _ _ hp43 hH43 (hF.trans F43) (by omega) (by omega) (by omega) (by rw [s1]; omega)
theorem l145o {d V : Nat} {T : sT} {hp0 : amH} {R : xQ} {l : Int32} (hB0 : bdOk hp0 3 V T) (hL0 : lsN hp0 3 T 225)
    (hR : ∀ (z : Int32) (hp : amH), bHk 84 bTT hp → bFx [52, 53, 54, 55] hp0 hp → z.toInt = ((cyNt V T l.toInt 225 : Nat) : Int) → R (.inl (some (.int z))) hp) :
    ∀ (jj a : Nat) (w wa : Int32) (v4 : Option Value) (hp : amH), bHk 84 bTT hp → bFx [52, 53, 54, 55] hp0 hp → wa.toInt = (a : Int) → a + jj = V → w.toInt = ((cyNt V T l.toInt (15 * a) : Nat) : Int) → xV (d + 5) am_m145 4 [some (.ref 0), some (.int l), some (.int w), some (.int wa), v4] [] hp R := by
  intro jj
  induction jj with
  | zero =>
    intro a w wa v4 hp hH hF ha hj hw
    have hB : bdOk hp 3 V T := bdOk_fr hB0 (bFx_n hF (by simp)) (fun i => bFx_n hF (by simp)) (fun i => bFx_n hF (by simp))
    have hL : lsN hp 3 T 225 := lsN_fr hL0 (bFx_n hF (by simp)) (fun i => bFx_n hF (by simp)) (fun i => bFx_n hF (by simp))
    have h15 : V ≤ 15 := hB.2.1.2.1
    have b0 := hB.1
    have e := cyT_end (V := V) (a := a) (T := T) (L := l.toInt) h15 (by omega)
    refine xild 5 ⟨u145, _, rfl⟩ rfl rfl ?_
    refine xald 6 ⟨u145, _, rfl⟩ rfl rfl ?_
    refine xgetD 9 (3) hH ⟨u145, _, rfl⟩ rfl (by decide) (by decide) rfl rfl (by decide) ?_
    refine xgetC 12 hH ⟨u145, _, rfl⟩ rfl (by decide) (by decide) rfl rfl (by decide) (fun z9 h9 => ?_)
    refine xcmp_ge 15 ⟨u145, _, rfl⟩ rfl (fun c12 => ?_) (fun c12 => ?_)
    · refine xild 70 ⟨u145, _, rfl⟩ rfl rfl ?_
      exact xret ⟨u145, _, rfl⟩ rfl (hR _ _ hH hF (by rw [e]; exact hw))
    · omega
  | succ jj ih =>
    intro a w wa v4 hp hH hF ha hj hw
    have hB : bdOk hp 3 V T := bdOk_fr hB0 (bFx_n hF (by simp)) (fun i => bFx_n hF (by simp)) (fun i => bFx_n hF (by simp))
    have hL : lsN hp 3 T 225 := lsN_fr hL0 (bFx_n hF (by simp)) (fun i => bFx_n hF (by simp)) (fun i => bFx_n hF (by simp))
    have h15 : V ≤ 15 := hB.2.1.2.1
    have b0 := hB.1
    have eb := cyT_beg (V := V) (a := a) (T := T) (L := l.toInt)
    refine xild 5 ⟨u145, _, rfl⟩ rfl rfl ?_
    refine xald 6 ⟨u145, _, rfl⟩ rfl rfl ?_
    refine xgetD 9 (3) hH ⟨u145, _, rfl⟩ rfl (by decide) (by decide) rfl rfl (by decide) ?_
    refine xgetC 12 hH ⟨u145, _, rfl⟩ rfl (by decide) (by decide) rfl rfl (by decide) (fun z9 h9 => ?_)
    refine xcmp_ge 15 ⟨u145, _, rfl⟩ rfl (fun c12 => ?_) (fun c12 => ?_)
    · omega
    · refine xild 16 ⟨u145, _, rfl⟩ rfl rfl ?_
      refine xcst 17 (1) ⟨u145, _, rfl⟩ rfl (by decide) (fun z16 h16 => ?_)
      refine xadd 18 _ ⟨u145, _, rfl⟩ rfl rfl (by omega) (by omega) (fun z17 h17 => ?_)
      refine xist2 20 ⟨u145, _, rfl⟩ rfl rfl ?_
      refine l145i hB0 hL0 ha (by omega) (fun x1 xb hp9 g0 g1 r1 => ?_) (V - (a + 1)) (a + 1) _ _ _ hH hF (by omega) (by omega) (by omega) (by rw [eb]; exact hw)
      refine xinc 66 (1) ⟨u145, _, rfl⟩ rfl rfl rfl (by decide) (by omega) (by omega) (fun z63 h63 => ?_)
      refine xgoto ⟨u145, _, rfl⟩ ?_
      exact ih (a + 1) _ _ _ _ g0 g1 (by omega) (by omega) r1
theorem k_145E {d V n : Nat} {h : Nat → sR} {sv : Option sR} {T : sT} {ty : Nat → Int} {hp : amH} {R : xQ} {a : Int32} (hH : bHk 84 bTT hp) (hS : clS hp (V, T, ty) n h sv)
    (hR : ∀ (z : Int32) hp1, bHk 84 bTT hp1 → cF hp hp1 → clS hp1 (V, T, ty) n h sv → z.toInt = ((cyNt V T a.toInt 225 : Nat) : Int) → R (.inl (some (.int z))) hp1) : xK (d + 6) 145 [.ref 0, .int a] hp R := by
  have hB : bdOk hp 3 V T := hS.1
  have b0 : rN hp 3 0 = (V : Int) := hB.1
  have hL : lsN hp 3 T 225 := hS.2.1
  have b1 : rN hp 3 1 = (((trL T 225).length : Nat) : Int) := hL.1
  have hT0 : sOk V T := hB.2.1
  have h15 : V ≤ 15 := hT0.2.1
  have l35 : (trL T 225).length ≤ 35 := trL_35 hT0 225
  refine xin (M := am_m145) rfl rfl rfl ?_
  refine xcst 1 (0) ⟨u145, _, rfl⟩ rfl (by decide) (fun z0 h0 => ?_)
  refine xist 2 ⟨u145, _, rfl⟩ rfl rfl ?_
  refine xcst 3 (0) ⟨u145, _, rfl⟩ rfl (by decide) (fun z2 h2 => ?_)
  refine xist 4 ⟨u145, _, rfl⟩ rfl rfl ?_
  refine xpad 1 ?_
  exact l145o hB hL (fun z hp1 g1 g2 g3 => hR z hp1 g1 (cF_x g2 (by simp)) (clS_8 hS (fun c k hc => g2 c k (by simp; omega))) g3) V 0 _ _ _ hp hH bFx.refl h2 (by omega) h0
theorem u302 : bUp 0 am_m302.1 = true := by decide +kernel
theorem l302x {d a b V w0 : Nat} {T : sT} {hp0 : amH} {R : xQ} {wa wb l : Int32} (hB0 : rdOk hp0 V T) (ha : wa.toInt = (a : Int)) (hb : wb.toInt = (b : Int)) (aV : a < V) (bV : b < V) (hw0 : w0 ≤ 4000)
    (hQ : ∀ (w wx : Int32) (hp : amH), bHk 84 bTT hp → bFr wWkE hp0 hp → w.toInt = ((w0 + cyN V T l.toInt a b V : Nat) : Int) → xV (d + 3) am_m302 77 [some (.ref 66), some (.int l), some (.int w), some (.int wa), some (.int wb), some (.int wx)] [] hp R) :
    ∀ (jj x : Nat) (w wx : Int32) (hp : amH), bHk 84 bTT hp → bFr wWkE hp0 hp → wx.toInt = (x : Int) → x + jj = V → w.toInt = ((w0 + cyN V T l.toInt a b x : Nat) : Int) → xV (d + 3) am_m302 34 [some (.ref 66), some (.int l), some (.int w), some (.int wa), some (.int wb), some (.int wx)] [] hp R := by
  intro jj
  induction jj with
  | zero =>
    intro x w wx hp hH hF hx hj hw
    have hB : rdOk hp V T := rdOk_fr hB0 (fun i => r_fr hF rfl)
    have h15 : V ≤ 15 := hB.2.1.2.1
    have b0 : rN hp 67 0 = (V : Int) := hB.1
    have ex : x = V := by omega
    rw [ex] at hw
    refine xild2 36 ⟨u302, _, rfl⟩ rfl rfl ?_
    refine xald 37 ⟨u302, _, rfl⟩ rfl rfl ?_
    refine xcall 40 [.ref 66] [.int _] hH ⟨u302, _, rfl⟩ rfl rfl rfl rfl rfl (k_points hH (fun z37 h37 => ⟨_, rfl, ?_⟩))
    refine xcmp_ge 43 ⟨u302, _, rfl⟩ rfl (fun c40 => ?_) (fun c40 => ?_)
    · exact hQ _ _ _ hH hF hw
    · omega
  | succ jj ih =>
    intro x w wx hp hH hF hx hj hw
    have hB : rdOk hp V T := rdOk_fr hB0 (fun i => r_fr hF rfl)
    have h15 : V ≤ 15 := hB.2.1.2.1
    have b0 : rN hp 67 0 = (V : Int) := hB.1
    have le2 := cyN_le (V := V) (T := T) (L := l.toInt) (a := a) (b := b) x
    have k3 : cyN V T l.toInt a b (x + 1) = cyN V T l.toInt a b x + iv (cyB T a b x = true ∧ ((cyL T a b x : Nat) : Int) = l.toInt) := rfl
    refine xild2 36 ⟨u302, _, rfl⟩ rfl rfl ?_
    refine xald 37 ⟨u302, _, rfl⟩ rfl rfl ?_
    refine xcall 40 [.ref 66] [.int _] hH ⟨u302, _, rfl⟩ rfl rfl rfl rfl rfl (k_points hH (fun z37 h37 => ⟨_, rfl, ?_⟩))
    refine xcmp_ge 43 ⟨u302, _, rfl⟩ rfl (fun c40 => ?_) (fun c40 => ?_)
    · omega
    · refine xild 44 ⟨u302, _, rfl⟩ rfl rfl ?_
      refine xald 45 ⟨u302, _, rfl⟩ rfl rfl ?_
      refine xild 46 ⟨u302, _, rfl⟩ rfl rfl ?_
      refine xild2 48 ⟨u302, _, rfl⟩ rfl rfl ?_
      refine xild2 50 ⟨u302, _, rfl⟩ rfl rfl ?_
      refine xcall 53 [.ref 66, .int _, .int _, .int _] [.int _] hH ⟨u302, _, rfl⟩ rfl rfl rfl rfl rfl (k_226E hH hB ha hb aV bV hx (by omega) (fun z50 hp50 hH50 F50 h50 m50 => ⟨_, rfl, ?_⟩))
      have b50 : (z50.toInt = 1 ∧ cyB T a b x = true) ∨ (z50.toInt = 0 ∧ ¬ cyB T a b x = true) := by
        by_cases q : cyB T a b x = true
        · left; rw [h50, if_pos q]; exact ⟨rfl, q⟩
        · right; rw [h50, if_neg q]; exact ⟨rfl, q⟩
      refine xif_eq 56 ⟨u302, _, rfl⟩ rfl (fun c53 => ?_) (fun c53 => ?_)
      · refine xcst 69 (0) ⟨u302, _, rfl⟩ rfl (by decide) (fun z68 h68 => ?_)
        refine xadd 70 _ ⟨u302, _, rfl⟩ rfl rfl (by omega) (by omega) (fun z69 h69 => ?_)
        refine xist 71 ⟨u302, _, rfl⟩ rfl rfl ?_
        refine xinc 74 (1) ⟨u302, _, rfl⟩ rfl rfl rfl (by decide) (by omega) (by omega) (fun z71 h71 => ?_)
        refine xgoto ⟨u302, _, rfl⟩ ?_
        have q1 : ¬ cyB T a b x = true := by
          rcases b50 with ⟨q, -⟩ | ⟨-, q⟩
          · omega
          · exact q
        rw [iv_f (p := cyB T a b x = true ∧ ((cyL T a b x : Nat) : Int) = l.toInt) (fun z => q1 z.1)] at k3
        exact ih (x + 1) _ _ hp50 hH50 (hF.trans F50) (by omega) (by omega) (by omega)
      · refine xald 57 ⟨u302, _, rfl⟩ rfl rfl ?_
        refine xgetI 60 hH50 ⟨u302, _, rfl⟩ rfl rfl (fun z57 h57 => ?_)
        refine xild 61 ⟨u302, _, rfl⟩ rfl rfl ?_
        refine xcmp_ne 64 ⟨u302, _, rfl⟩ rfl (fun c61 => ?_) (fun c61 => ?_)
        · refine xcst 69 (0) ⟨u302, _, rfl⟩ rfl (by decide) (fun z68 h68 => ?_)
          refine xadd 70 _ ⟨u302, _, rfl⟩ rfl rfl (by omega) (by omega) (fun z69 h69 => ?_)
          refine xist 71 ⟨u302, _, rfl⟩ rfl rfl ?_
          refine xinc 74 (1) ⟨u302, _, rfl⟩ rfl rfl rfl (by decide) (by omega) (by omega) (fun z71 h71 => ?_)
          refine xgoto ⟨u302, _, rfl⟩ ?_
          have q1 : cyB T a b x = true := by
            rcases b50 with ⟨-, q⟩ | ⟨q, -⟩
            · exact q
            · omega
          have q2 := (m50 q1).1
          rw [iv_f (p := cyB T a b x = true ∧ ((cyL T a b x : Nat) : Int) = l.toInt) (fun z => by have := z.2; omega)] at k3
          exact ih (x + 1) _ _ hp50 hH50 (hF.trans F50) (by omega) (by omega) (by omega)
        · refine xcst 65 (1) ⟨u302, _, rfl⟩ rfl (by decide) (fun z64 h64 => ?_)
          refine xgoto ⟨u302, _, rfl⟩ ?_
          refine xadd 70 _ ⟨u302, _, rfl⟩ rfl rfl (by omega) (by omega) (fun z69 h69 => ?_)
          refine xist 71 ⟨u302, _, rfl⟩ rfl rfl ?_
          refine xinc 74 (1) ⟨u302, _, rfl⟩ rfl rfl rfl (by decide) (by omega) (by omega) (fun z71 h71 => ?_)
          refine xgoto ⟨u302, _, rfl⟩ ?_
          have q1 : cyB T a b x = true := by
            rcases b50 with ⟨-, q⟩ | ⟨q, -⟩
            · exact q
            · omega
          have q2 := (m50 q1).1
          rw [iv_t (p := cyB T a b x = true ∧ ((cyL T a b x : Nat) : Int) = l.toInt) ⟨q1, by omega⟩] at k3
          exact ih (x + 1) _ _ hp50 hH50 (hF.trans F50) (by omega) (by omega) (by omega)
theorem l302i {d a V : Nat} {T : sT} {hp0 : amH} {R : xQ} {wa l : Int32} (hB0 : rdOk hp0 V T) (ha : wa.toInt = (a : Int)) (aV : a < V)
    (hQ : ∀ (w wb : Int32) (v5 : Option Value) (hp : amH), bHk 84 bTT hp → bFr wWkE hp0 hp → w.toInt = ((cyNt V T l.toInt (15 * (a + 1)) : Nat) : Int) → xV (d + 3) am_m302 83 [some (.ref 66), some (.int l), some (.int w), some (.int wa), some (.int wb), v5] [] hp R) :
    ∀ (jj b : Nat) (w wb : Int32) (v5 : Option Value) (hp : amH), bHk 84 bTT hp → bFr wWkE hp0 hp → wb.toInt = (b : Int) → a < b → b + jj = V → w.toInt = ((cyNt V T l.toInt (15 * a + b) : Nat) : Int) → xV (d + 3) am_m302 22 [some (.ref 66), some (.int l), some (.int w), some (.int wa), some (.int wb), v5] [] hp R := by
  intro jj
  induction jj with
  | zero =>
    intro b w wb v5 hp hH hF hb hab hj hw
    have hB : rdOk hp V T := rdOk_fr hB0 (fun i => r_fr hF rfl)
    have h15 : V ≤ 15 := hB.2.1.2.1
    have b0 : rN hp 67 0 = (V : Int) := hB.1
    have e := cyT_row (V := V) (a := a) (b := b) (T := T) (L := l.toInt) h15 (by omega)
    refine xild2 24 ⟨u302, _, rfl⟩ rfl rfl ?_
    refine xald 25 ⟨u302, _, rfl⟩ rfl rfl ?_
    refine xcall 28 [.ref 66] [.int _] hH ⟨u302, _, rfl⟩ rfl rfl rfl rfl rfl (k_points hH (fun z25 h25 => ⟨_, rfl, ?_⟩))
    refine xcmp_ge 31 ⟨u302, _, rfl⟩ rfl (fun c28 => ?_) (fun c28 => ?_)
    · exact hQ _ _ _ _ hH hF (by rw [e]; exact hw)
    · omega
  | succ jj ih =>
    intro b w wb v5 hp hH hF hb hab hj hw
    have hB : rdOk hp V T := rdOk_fr hB0 (fun i => r_fr hF rfl)
    have h15 : V ≤ 15 := hB.2.1.2.1
    have b0 : rN hp 67 0 = (V : Int) := hB.1
    have s1 := cyT_s (V := V) (a := a) (b := b) (T := T) (L := l.toInt) (by omega) ⟨hab, by omega⟩
    have le1 := cyT_le (V := V) (T := T) (L := l.toInt) h15 (15 * a + b)
    have le2 := cyN_le (V := V) (T := T) (L := l.toInt) (a := a) (b := b) V
    refine xild2 24 ⟨u302, _, rfl⟩ rfl rfl ?_
    refine xald 25 ⟨u302, _, rfl⟩ rfl rfl ?_
    refine xcall 28 [.ref 66] [.int _] hH ⟨u302, _, rfl⟩ rfl rfl rfl rfl rfl (k_points hH (fun z25 h25 => ⟨_, rfl, ?_⟩))
    refine xcmp_ge 31 ⟨u302, _, rfl⟩ rfl (fun c28 => ?_) (fun c28 => ?_)
    · omega
    · refine xcst 32 (0) ⟨u302, _, rfl⟩ rfl (by decide) (fun z31 h31 => ?_)
      refine xist2 34 ⟨u302, _, rfl⟩ rfl rfl ?_
      refine l302x (w0 := cyNt V T l.toInt (15 * a + b)) hB ha hb (by omega) (by omega) (by omega) (fun w1 wx hp1 g1 g2 r1 => ?_) V 0 _ _ hp hH (bFr.refl _ _) h31 (by omega) (by rw [hw]; rfl)
      refine xinc 80 (1) ⟨u302, _, rfl⟩ rfl rfl rfl (by decide) (by omega) (by omega) (fun z77 h77 => ?_)
      refine xgoto ⟨u302, _, rfl⟩ ?_
      exact ih (b + 1) _ _ _ hp1 g1 (hF.trans g2) (by omega) (by omega) (by omega) (by rw [s1]; exact r1)
theorem l302o {d V : Nat} {T : sT} {hp0 : amH} {R : xQ} {l : Int32} (hB0 : rdOk hp0 V T)
    (hR : ∀ (z : Int32) (hp : amH), bHk 84 bTT hp → bFr wWkE hp0 hp → z.toInt = ((cyNt V T l.toInt 225 : Nat) : Int) → R (.inl (some (.int z))) hp) :
    ∀ (jj a : Nat) (w wa : Int32) (v4 v5 : Option Value) (hp : amH), bHk 84 bTT hp → bFr wWkE hp0 hp → wa.toInt = (a : Int) → a + jj = V → w.toInt = ((cyNt V T l.toInt (15 * a) : Nat) : Int) → xV (d + 3) am_m302 9 [some (.ref 66), some (.int l), some (.int w), some (.int wa), v4, v5] [] hp R := by
  intro jj
  induction jj with
  | zero =>
    intro a w wa v4 v5 hp hH hF ha hj hw
    have hB : rdOk hp V T := rdOk_fr hB0 (fun i => r_fr hF rfl)
    have h15 : V ≤ 15 := hB.2.1.2.1
    have b0 : rN hp 67 0 = (V : Int) := hB.1
    have e := cyT_end (V := V) (a := a) (T := T) (L := l.toInt) h15 (by omega)
    refine xild 10 ⟨u302, _, rfl⟩ rfl rfl ?_
    refine xald 11 ⟨u302, _, rfl⟩ rfl rfl ?_
    refine xcall 14 [.ref 66] [.int _] hH ⟨u302, _, rfl⟩ rfl rfl rfl rfl rfl (k_points hH (fun z11 h11 => ⟨_, rfl, ?_⟩))
    refine xcmp_ge 17 ⟨u302, _, rfl⟩ rfl (fun c14 => ?_) (fun c14 => ?_)
    · refine xild 90 ⟨u302, _, rfl⟩ rfl rfl ?_
      exact xret ⟨u302, _, rfl⟩ rfl (hR _ _ hH hF (by rw [e]; exact hw))
    · omega
  | succ jj ih =>
    intro a w wa v4 v5 hp hH hF ha hj hw
    have hB : rdOk hp V T := rdOk_fr hB0 (fun i => r_fr hF rfl)
    have h15 : V ≤ 15 := hB.2.1.2.1
    have b0 : rN hp 67 0 = (V : Int) := hB.1
    have eb := cyT_beg (V := V) (a := a) (T := T) (L := l.toInt)
    refine xild 10 ⟨u302, _, rfl⟩ rfl rfl ?_
    refine xald 11 ⟨u302, _, rfl⟩ rfl rfl ?_
    refine xcall 14 [.ref 66] [.int _] hH ⟨u302, _, rfl⟩ rfl rfl rfl rfl rfl (k_points hH (fun z11 h11 => ⟨_, rfl, ?_⟩))
    refine xcmp_ge 17 ⟨u302, _, rfl⟩ rfl (fun c14 => ?_) (fun c14 => ?_)
    · omega
    · refine xild 18 ⟨u302, _, rfl⟩ rfl rfl ?_
      refine xcst 19 (1) ⟨u302, _, rfl⟩ rfl (by decide) (fun z18 h18 => ?_)
      refine xadd 20 _ ⟨u302, _, rfl⟩ rfl rfl (by omega) (by omega) (fun z19 h19 => ?_)
      refine xist2 22 ⟨u302, _, rfl⟩ rfl rfl ?_
      refine l302i hB0 ha (by omega) (fun x1 xb x5 hp9 g0 g1 r1 => ?_) (V - (a + 1)) (a + 1) _ _ _ _ hH hF (by omega) (by omega) (by omega) (by rw [eb]; exact hw)
      refine xinc 86 (1) ⟨u302, _, rfl⟩ rfl rfl rfl (by decide) (by omega) (by omega) (fun z83 h83 => ?_)
      refine xgoto ⟨u302, _, rfl⟩ ?_
      exact ih (a + 1) _ _ _ _ _ g0 g1 (by omega) (by omega) r1
theorem k_302E {d V n : Nat} {h : Nat → sR} {sv : Option sR} {T : sT} {ty : Nat → Int} {hp : amH} {R : xQ} {a : Int32} (hH : bHk 84 bTT hp) (hP : P0 hp) (hS : rfS hp (V, T, ty) n h sv)
    (hR : ∀ (z : Int32) hp1, bHk 84 bTT hp1 → P0 hp1 → bFr wM hp hp1 → rfS hp1 (V, T, ty) n h sv → z.toInt = ((cyNt V T a.toInt 225 : Nat) : Int) → R (.inl (some (.int z))) hp1) : xK (d + 6) 302 [.ref 66, .int a] hp R := by
  have hB : rdOk hp V T := rowOk_rd hS.1
  have b0 : rN hp 67 0 = (V : Int) := hB.1
  have hT0 : sOk V T := hB.2.1
  have h15 : V ≤ 15 := hT0.2.1
  have l35 : (trL T 225).length ≤ 35 := trL_35 hT0 225
  refine xin (M := am_m302) rfl rfl rfl ?_
  refine xald 1 ⟨u302, _, rfl⟩ rfl rfl ?_
  refine xcst 2 (0) ⟨u302, _, rfl⟩ rfl (by decide) (fun z1 h1 => ?_)
  refine xputI 5 hH ⟨u302, _, rfl⟩ rfl rfl ⟨rfl, rfl⟩ (by omega) (by omega) (fun hp2 hH2 U2 => ?_)
  have s2 := U2.1
  have S2 := rfS_W (W := [(66, 7)]) hS (rU_fr U2 rfl) (fun _ => rfl) rfl rfl (fun _ => rfl) (fun _ => rfl)
  have P2 := P0_W (W := [(66, 7)]) (by decide) (rU_fr U2 rfl) hP
  refine xcst 6 (0) ⟨u302, _, rfl⟩ rfl (by decide) (fun z5 h5 => ?_)
  refine xist 7 ⟨u302, _, rfl⟩ rfl rfl ?_
  refine xcst 8 (0) ⟨u302, _, rfl⟩ rfl (by decide) (fun z7 h7 => ?_)
  refine xist 9 ⟨u302, _, rfl⟩ rfl rfl ?_
  refine xpad 2 ?_
  exact l302o (rowOk_rd S2.1) (fun z hp1 g1 g2 g3 => hR z hp1 g1 (P0_W (W := wWkE) (by decide) g2 P2) ((rU_fr U2 (by decide)).trans (bFr_sub g2 (by decide))) (rfS_W S2 g2 (fun _ => rfl) rfl rfl (fun _ => rfl) (fun _ => rfl)) g3) V 0 _ _ _ _ hp2 hH2 (bFr.refl _ _) h7 (by omega) h5
