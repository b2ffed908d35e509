/-! ===== the class's tokens: words; errors ===== -/
section XV2
variable {M : amM} {pc a b d : Nat} {L : List (Option Value)} {st : List Value} {hp : amH} {Q : xQ}
theorem xchrSE (q n : Nat) {i : _} {r : Nat} {l : List Int32} {x : Int32} (h : xI M pc (.invokevirtual i) a 8) (e : q = pc + 3) (hl : amWd r = some l ∧ l.length ≤ 100) (h8 : xS8 st = true) (hn : x.toInt = (n : Int)) (x1 : n < l.length) (hw : ∀ z : Int32, z.toInt = (l.getD n 0).toInt → xV d M q L (.int z :: st) hp Q) : xV d M pc L (.int x :: .ref r :: st) hp Q := by
  obtain ⟨e1, hin⟩ := rw_in (i := x) (n := n) (m := l.length) hn x1
  refine xstep h (fun cl hcl => ⟨cl, ?_, hcl⟩) (hw (l.getD n 0) rfl)
  subst e
  have h8 := Nat.le_of_ble_eq_true h8
  simp only [amDo, amChrS, hl.1]
  rw [if_neg (by decide), if_pos trivial, if_pos ⟨hin, h8⟩, e1]
end XV2
theorem ckK_1 {y : tY} {s : Nat} : ckK y s = 1 ↔ tK y s = 1 := by
  unfold ckK
  constructor
  · intro h
    split at h
    · omega
    · exact h
  · intro h
    rw [if_neg (by omega)]
    exact h
theorem ckK_2 {y : tY} {s : Nat} : ckK y s = 2 ↔ (tK y s = 2 ∧ tE y s ≤ s + 2) := by
  unfold ckK
  constructor
  · intro h
    split at h
    · omega
    · next g => exact ⟨h, Nat.le_of_not_lt (fun z => g ⟨h, by omega⟩)⟩
  · intro h
    rw [if_neg (fun z => z.2 h.2)]
    exact h.1
theorem ckK_3 {y : tY} {s : Nat} : ckK y s = 3 ↔ tK y s = 3 := by
  unfold ckK
  constructor
  · intro h
    split at h
    · omega
    · exact h
  · intro h
    rw [if_neg (by omega)]
    exact h
theorem ckK_0 {y : tY} {s : Nat} : ckK y s = 0 ↔ tK y s = 0 := by
  unfold ckK
  constructor
  · intro h
    split at h
    · omega
    · exact h
  · intro h
    rw [if_neg (by omega)]
    exact h
theorem l84 {d : Nat} {hp : amH} {R : xQ} {y : tY} {s r : Nat} {l : List Int32} (hl : amWd r = some l ∧ l.length ≤ 100) (hH : bHk 84 bTT hp) (Y : cB hp = y) (h6 : rN hp 1 6 = (s : Int)) (hs : s ≤ 600)
    (hall : (∀ k, k < l.length → y (s + k) = (l.getD k 0).toInt) → tWd y s l = true)
    (hR : ∀ z : Int32, ((z.toInt = 1 ∧ tWd y s l = true) ∨ (z.toInt = 0 ∧ tWd y s l = false)) → R (.inl (some (.int z))) hp) :
    ∀ (jj q : Nat) (k : Int32), k.toInt = (q : Int) → q + jj = l.length → (∀ k, k < q → y (s + k) = (l.getD k 0).toInt) → xV (d + 1) am_m84 28 [some (.ref 1), some (.ref r), some (.int k)] [] hp R := by
  intro jj
  induction jj using Nat.strongRecOn with
  | ind jj ih =>
    intro q k hk hjj hq
    have hl2 := hl.2
    refine xild 29 ⟨u84, _, rfl⟩ rfl rfl ?_
    refine xald 30 ⟨u84, _, rfl⟩ rfl rfl ?_
    refine xlenS 33 ⟨u84, _, rfl⟩ rfl hl rfl (fun z30 h30 => ?_)
    refine xcmp_ge 36 ⟨u84, _, rfl⟩ rfl (fun c33 => ?_) (fun c33 => ?_)
    · refine xcst 63 (1) ⟨u84, _, rfl⟩ rfl (by decide) (fun z62 h62 => ?_)
      exact xretB ⟨u84, _, rfl⟩ rfl (by omega) (hR _ (Or.inl ⟨by omega, hall (fun k hk => hq k (by omega))⟩))
    · refine xald 37 ⟨u84, _, rfl⟩ rfl rfl ?_
      refine xald 38 ⟨u84, _, rfl⟩ rfl rfl ?_
      refine xgetC 41 hH ⟨u84, _, rfl⟩ rfl (by decide) (by decide) rfl rfl (by decide) (fun z38 h38 => ?_)
      refine xild 42 ⟨u84, _, rfl⟩ rfl rfl ?_
      refine xadd 43 _ ⟨u84, _, rfl⟩ rfl rfl (by omega) (by omega) (fun z42 h42 => ?_)
      refine xcallC 46 (o := 1) [.int _] [] hH ⟨u84, _, rfl⟩ rfl rfl (by decide) rfl (by decide) rfl ⟨rfl, rfl, rfl, rfl⟩ rfl (k_cB hH Y (q := s + q) (by omega) (fun z43 h43 => ⟨_, rfl, ?_⟩))
      refine xald 47 ⟨u84, _, rfl⟩ rfl rfl ?_
      refine xild 48 ⟨u84, _, rfl⟩ rfl rfl ?_
      refine xchrSE 51 q ⟨u84, _, rfl⟩ rfl hl rfl (by omega) (by omega) (fun z48 h48 => ?_)
      refine xcmp_eq 54 ⟨u84, _, rfl⟩ rfl (fun c51 => ?_) (fun c51 => ?_)
      · refine xinc 59 (1) ⟨u84, _, rfl⟩ rfl rfl rfl (by decide) (by omega) (by omega) (fun z56 h56 => ?_)
        refine xgoto ⟨u84, _, rfl⟩ ?_
        exact ih (jj - 1) (by omega) (q + 1) _ (by omega) (by omega) (fun k k1 => by rcases Nat.lt_or_ge k q with g | g; exact hq k g; rw [show k = q by omega]; omega)
      · refine xcst 55 (0) ⟨u84, _, rfl⟩ rfl (by decide) (fun z54 h54 => ?_)
        exact xretB ⟨u84, _, rfl⟩ rfl (by omega) (hR _ (Or.inr ⟨by omega, by cases e9 : tWd y s l; rfl; have := (of_decide_eq_true e9).2.2 q (by omega); omega⟩))
/-- is the token this word -/
theorem k_cw {d : Nat} {hp : amH} {R : xQ} {y : tY} {s r : Nat} {l : List Int32} (hok : amOk 84 (.ref r) = true) (hl : amWd r = some l ∧ l.length ≤ 100) (hH : bHk 84 bTT hp) (Y : cB hp = y) (T : cT hp y s) (hs : s ≤ 600)
    (hR : ∀ z : Int32, ((z.toInt = 1 ∧ tWd y s l = true) ∨ (z.toInt = 0 ∧ tWd y s l = false)) → R (.inl (some (.int z))) hp) : xK (d + 1) 84 [.ref 1, .ref r] hp R := by
  obtain ⟨h6, h4, h5, -⟩ := T
  have hE := tE_le (by rw [← Y]; exact cB_ok hH : tOk (rN hp 1 0).toNat y) (s := s)
  have b0 := b1_0 hH
  have hE2 : tE y s ≤ 100000 ∨ True := Or.inr trivial
  have b4 := rb_c hH (c := 1) (f := 4) (by decide) rfl rfl (by decide)
  have hge := tE_ge (y := y) (s := s)
  refine xin (M := am_m84) rfl rfl (by unfold xAv; simp only [List.all_cons, List.all_nil, hok]; rfl) ?_
  refine xald 1 ⟨u84, _, rfl⟩ rfl rfl ?_
  refine xgetC 4 hH ⟨u84, _, rfl⟩ rfl (by decide) (by decide) rfl rfl (by decide) (fun z1 h1 => ?_)
  refine xcst 5 (1) ⟨u84, _, rfl⟩ rfl (by decide) (fun z4 h4 => ?_)
  refine xcmp_ne 8 ⟨u84, _, rfl⟩ rfl (fun c5 => ?_) (fun c5 => ?_)
  · refine xcst 25 (0) ⟨u84, _, rfl⟩ rfl (by decide) (fun z24 h24 => ?_)
    exact xretB ⟨u84, _, rfl⟩ rfl (by omega) (hR _ (Or.inr ⟨by omega, by cases e9 : tWd y s l; rfl; have := ckK_1.mpr (of_decide_eq_true e9).1; omega⟩))
  · refine xald 9 ⟨u84, _, rfl⟩ rfl rfl ?_
    refine xgetC 12 hH ⟨u84, _, rfl⟩ rfl (by decide) (by decide) rfl rfl (by decide) (fun z9 h9 => ?_)
    refine xald 13 ⟨u84, _, rfl⟩ rfl rfl ?_
    refine xgetC 16 hH ⟨u84, _, rfl⟩ rfl (by decide) (by decide) rfl rfl (by decide) (fun z13 h13 => ?_)
    refine xsub 17 _ ⟨u84, _, rfl⟩ rfl rfl (by omega) (by omega) (fun z16 h16 => ?_)
    refine xald 18 ⟨u84, _, rfl⟩ rfl rfl ?_
    refine xlenS 21 ⟨u84, _, rfl⟩ rfl hl rfl (fun z18 h18 => ?_)
    refine xcmp_eq 24 ⟨u84, _, rfl⟩ rfl (fun c21 => ?_) (fun c21 => ?_)
    · refine xcst 27 (0) ⟨u84, _, rfl⟩ rfl (by decide) (fun z26 h26 => ?_)
      refine xist 28 ⟨u84, _, rfl⟩ rfl rfl ?_
      exact l84 hl hH Y h6 hs (fun g => decide_eq_true ⟨ckK_1.mp (by omega), by omega, g⟩) hR l.length 0 _ (by omega) (by omega) (fun k k1 => by omega)
    · refine xcst 25 (0) ⟨u84, _, rfl⟩ rfl (by decide) (fun z24 h24 => ?_)
      exact xretB ⟨u84, _, rfl⟩ rfl (by omega) (hR _ (Or.inr ⟨by omega, by cases e9 : tWd y s l; rfl; have := (of_decide_eq_true e9).2.1; omega⟩))
def wCf : List (Nat × Nat) := [(1, 1), (1, 2)]
/-- an error at the token -/
theorem k_cf {d : Nat} {hp : amH} {R : xQ} {c : Int32} (hH : bHk 84 bTT hp) (hR : ∀ (z : Int32) hp1, z.toInt = 0 → bHk 84 bTT hp1 → bFr wCf hp hp1 → rN hp1 1 1 = c.toInt → rN hp1 1 2 = rN hp 1 6 → R (.inl (some (.int z))) hp1) : xK d 80 [.ref 1, .int c] hp R := by
  have b1 := aMin c
  have b2 := aMax c
  refine xin (M := am_m80) rfl rfl rfl ?_
  refine xald 1 ⟨u80, _, rfl⟩ rfl rfl ?_
  refine xild 2 ⟨u80, _, rfl⟩ rfl rfl ?_
  refine xputC 5 hH ⟨u80, _, rfl⟩ rfl (by decide) (by decide) rfl rfl (by decide) ⟨rfl, rfl⟩ (by omega) (by omega) (fun hp2 hH2 U2 => ?_)
  have s2 := U2.1
  have n2_1_6 : rN hp2 (1) 6 = rN hp (1) 6 := rU_ne U2 (by omega)
  refine xald 6 ⟨u80, _, rfl⟩ rfl rfl ?_
  refine xald 7 ⟨u80, _, rfl⟩ rfl rfl ?_
  refine xgetC 10 hH2 ⟨u80, _, rfl⟩ rfl (by decide) (by decide) rfl rfl (by decide) (fun z7 h7 => ?_)
  have bmn := aMin z7
  have bmx := aMax z7
  refine xputC 13 hH2 ⟨u80, _, rfl⟩ rfl (by decide) (by decide) rfl rfl (by decide) ⟨rfl, rfl⟩ (by omega) (by omega) (fun hp10 hH10 U10 => ?_)
  have s10 := U10.1
  have n10_1_1 : rN hp10 (1) 1 = rN hp2 (1) 1 := rU_ne U10 (by omega)
  have n10_1_6 : rN hp10 (1) 6 = rN hp2 (1) 6 := rU_ne U10 (by omega)
  refine xcst 14 (0) ⟨u80, _, rfl⟩ rfl (by decide) (fun z13 h13 => ?_)
  exact xretB ⟨u80, _, rfl⟩ rfl (by omega) (hR _ _ (by omega) hH10 ((rU_fr U2 (by decide)).trans (rU_fr U10 (by decide))) (by omega) (by omega))
