/-! ===== the class keeps what was ===== -/
theorem sn_mod {s : Nat} (h : sn s) : s % 3 = 1 ∧ 16 ≤ s ∧ s ≤ 46 := by have := sn_c h; omega
theorem sn_is {hp : amH} {s : Nat} (hH : bHk 84 bTT hp) (h : sn s) : amIsSn hp (.ref s) = true := by
  obtain ⟨vs, g1, -⟩ := x_row2 hH (sn_lt h) (sn_T h)
  simp [amIsSn, g1]
theorem sn_bY {s : Nat} (h : sn s) : bYr 84 (.inr (.inr [16, 19, 22, 25, 28, 31, 34, 37, 40, 43, 46])) (.ref s) := ⟨s, rfl, sn_lt h, h⟩
/-- what the class keeps: how many, which; the saved one -/
def hyS (hp : amH) (sv : Option sR) : Prop := match sv with
  | none => rN hp 14 3 = 0
  | some q => rN hp 14 3 = 1 ∧ snOk hp 16 q
def hyA (hp : amH) (f : Nat → Nat) : Prop := (∀ k, k < 10 → sn (f k) ∧ ¬ f k = 16 ∧ bFld hp 15 k = some (.ref (f k))) ∧ ∀ j k, j < 10 → k < 10 → f j = f k → j = k
def hyC (hp : amH) (n : Nat) (h : Nat → sR) (sv : Option sR) : Prop := rN hp 14 0 = (n : Int) ∧ n ≤ 10 ∧ (∀ s, sn s → snF hp s) ∧ (∃ f, hyA hp f ∧ ∀ k, k < n → snOk hp (f k) (h k)) ∧ hyS hp sv
def hyF (hp hp1 : amH) : Prop := ∀ c k, ¬ (14 ≤ c ∧ c ≤ 48) → bFld hp1 c k = bFld hp c k
theorem hyF.trans {a b c : amH} (h1 : hyF a b) (h2 : hyF b c) : hyF a c := fun i k e => (h2 i k e).trans (h1 i k e)
theorem hyF_n {hp hp1 : amH} (h : hyF hp hp1) {c k : Nat} (e : ¬ (14 ≤ c ∧ c ≤ 48)) : rN hp1 c k = rN hp c k := rN_eq (h c k e)
theorem hyF_V {hp hp1 : amH} {c i : Nat} {v : Value} (U : rV hp hp1 c i v) (h : 14 ≤ c ∧ c ≤ 48) : hyF hp hp1 := fun c1 k e => U.2 c1 k (fun z => e (by rw [z.1]; exact h))
theorem hyF_U {hp hp1 : amH} {c i : Nat} {m : Int} (U : rU hp hp1 c i m) (h : 14 ≤ c ∧ c ≤ 48) : hyF hp hp1 := fun c1 k e => U.2 c1 k (fun z => e (by rw [z.1]; exact h))
theorem hyF_x {W : List Nat} {hp hp1 : amH} (F : bFx W hp hp1) (h : ∀ c, c ∈ W → 14 ≤ c ∧ c ≤ 48) : hyF hp hp1 := fun c1 k e => F c1 k (fun z => e (h c1 z))
/-- the first row goes to the end -/
theorem l51 {d : Nat} {hp0 : amH} {R : xQ} {f : Nat → Nat} (hA : hyA hp0 f)
    (hR : ∀ hp1, bHk 84 bTT hp1 → hyF hp0 hp1 → (∀ c k, ¬ c = 15 → ¬ (c = 14 ∧ k = 0) → bFld hp1 c k = bFld hp0 c k) → rN hp1 14 0 = 9 → (∀ k, k < 9 → bFld hp1 15 k = some (.ref (f (k + 1)))) → bFld hp1 15 9 = some (.ref (f 0)) → R (.inl none) hp1) :
    ∀ (jj t : Nat) (w : Int32) (hp : amH), w.toInt = (t : Int) → 1 ≤ t → t + jj = 10 → bHk 84 bTT hp → (∀ c k, ¬ c = 15 → bFld hp c k = bFld hp0 c k) → (∀ k, k + 1 < t → bFld hp 15 k = some (.ref (f (k + 1)))) → (∀ k, t ≤ k + 1 → k < 10 → bFld hp 15 k = some (.ref (f k))) → xV d am_m51 9 [some (.ref 14), some (.ref (f 0)), some (.int w)] [] hp R := by
  intro jj
  induction jj with
  | zero =>
    intro t w hp hw ht hj hH hF h1 h2
    refine xild 10 ⟨u51, _, rfl⟩ rfl rfl ?_
    refine xald 11 ⟨u51, _, rfl⟩ rfl rfl ?_
    refine xgetD 14 (15) hH ⟨u51, _, rfl⟩ rfl (by decide) (by decide) rfl rfl (by decide) ?_
    refine xlen 15 hH ⟨u51, _, rfl⟩ rfl (by decide) rfl (by decide) (by decide) (fun z14 h14 => ?_)
    refine xcmp_ge 18 ⟨u51, _, rfl⟩ rfl (fun c15 => ?_) (fun c15 => ?_)
    · refine xald 39 ⟨u51, _, rfl⟩ rfl rfl ?_
      refine xgetD 42 (15) hH ⟨u51, _, rfl⟩ rfl (by decide) (by decide) rfl rfl (by decide) ?_
      refine xald 43 ⟨u51, _, rfl⟩ rfl rfl ?_
      refine xgetD 46 (15) hH ⟨u51, _, rfl⟩ rfl (by decide) (by decide) rfl rfl (by decide) ?_
      refine xlen 47 hH ⟨u51, _, rfl⟩ rfl (by decide) rfl (by decide) (by decide) (fun z46 h46 => ?_)
      refine xcst 48 (1) ⟨u51, _, rfl⟩ rfl (by decide) (fun z47 h47 => ?_)
      refine xsub 49 _ ⟨u51, _, rfl⟩ rfl rfl (by omega) (by omega) (fun z48 h48 => ?_)
      refine xald 50 ⟨u51, _, rfl⟩ rfl rfl ?_
      refine xaast 51 (9) (f 0) hH ⟨u51, _, rfl⟩ rfl (by decide) rfl (by omega) (by omega) rfl (sn_bY (hA.1 0 (by omega)).1) (sn_is hH (hA.1 0 (by omega)).1) (fun hp50 hH50 U50 => ?_)
      refine xald 52 ⟨u51, _, rfl⟩ rfl rfl ?_
      refine xald 53 ⟨u51, _, rfl⟩ rfl rfl ?_
      refine xgetD 56 (15) hH50 ⟨u51, _, rfl⟩ rfl (by decide) (by decide) rfl rfl (by decide) ?_
      refine xlen 57 hH50 ⟨u51, _, rfl⟩ rfl (by decide) rfl (by decide) (by decide) (fun z56 h56 => ?_)
      refine xcst 58 (1) ⟨u51, _, rfl⟩ rfl (by decide) (fun z57 h57 => ?_)
      refine xsub 59 _ ⟨u51, _, rfl⟩ rfl rfl (by omega) (by omega) (fun z58 h58 => ?_)
      refine xputC 62 hH50 ⟨u51, _, rfl⟩ rfl (by decide) (by decide) rfl rfl (by decide) ⟨rfl, rfl⟩ (by omega) (by omega) (fun hp59 hH59 U59 => ?_)
      have s59 := U59.1
      exact xretV ⟨u51, _, rfl⟩ rfl (hR hp59 hH59 (hyF.trans (b := hp) (fun c k e => hF c k (by omega)) ((hyF_V U50 (by decide)).trans (hyF_U U59 (by decide)))) (fun c k e1 e2 => (U59.2 c k (fun z => e2 ⟨z.1, z.2⟩)).trans ((U50.2 c k (fun z => e1 z.1)).trans (hF c k e1))) (by omega) (fun k hk => (U59.2 15 k (by omega)).trans ((U50.2 15 k (by omega)).trans (h1 k (by omega)))) ((U59.2 15 9 (by omega)).trans U50.1))
    · omega
  | succ jj ih =>
    intro t w hp hw ht hj hH hF h1 h2
    refine xild 10 ⟨u51, _, rfl⟩ rfl rfl ?_
    refine xald 11 ⟨u51, _, rfl⟩ rfl rfl ?_
    refine xgetD 14 (15) hH ⟨u51, _, rfl⟩ rfl (by decide) (by decide) rfl rfl (by decide) ?_
    refine xlen 15 hH ⟨u51, _, rfl⟩ rfl (by decide) rfl (by decide) (by decide) (fun z14 h14 => ?_)
    refine xcmp_ge 18 ⟨u51, _, rfl⟩ rfl (fun c15 => ?_) (fun c15 => ?_)
    · omega
    · refine xald 19 ⟨u51, _, rfl⟩ rfl rfl ?_
      refine xgetD 22 (15) hH ⟨u51, _, rfl⟩ rfl (by decide) (by decide) rfl rfl (by decide) ?_
      refine xild 23 ⟨u51, _, rfl⟩ rfl rfl ?_
      refine xcst 24 (1) ⟨u51, _, rfl⟩ rfl (by decide) (fun z23 h23 => ?_)
      refine xsub 25 _ ⟨u51, _, rfl⟩ rfl rfl (by omega) (by omega) (fun z24 h24 => ?_)
      refine xald 26 ⟨u51, _, rfl⟩ rfl rfl ?_
      refine xgetD 29 (15) hH ⟨u51, _, rfl⟩ rfl (by decide) (by decide) rfl rfl (by decide) ?_
      refine xild 30 ⟨u51, _, rfl⟩ rfl rfl ?_
      refine xaald 31 (t) (f t) hH ⟨u51, _, rfl⟩ rfl (by decide) rfl (by omega) (by omega) (h2 t (by omega) (by omega)) ?_
      refine xaast 32 (t - 1) (f t) hH ⟨u51, _, rfl⟩ rfl (by decide) rfl (by omega) (by omega) rfl (sn_bY (hA.1 t (by omega)).1) (sn_is hH (hA.1 t (by omega)).1) (fun hp31 hH31 U31 => ?_)
      refine xinc 35 (1) ⟨u51, _, rfl⟩ rfl rfl rfl (by decide) (by omega) (by omega) (fun z32 h32 => ?_)
      refine xgoto ⟨u51, _, rfl⟩ ?_
      exact ih (t + 1) _ hp31 (by omega) (by omega) (by omega) hH31 (fun c k e => (U31.2 c k (fun z => e z.1)).trans (hF c k e)) (fun k hk => by
        by_cases g : k = t - 1
        · rw [g, U31.1, show t - 1 + 1 = t by omega]
        · rw [U31.2 15 k (by omega)]
          exact h1 k (by omega)) (fun k hk1 hk2 => by
        rw [U31.2 15 k (by omega)]
        exact h2 k (by omega) hk2)
theorem k_fgo {d : Nat} {hp : amH} {R : xQ} {f : Nat → Nat} (hA : hyA hp f) (hH : bHk 84 bTT hp)
    (hR : ∀ hp1, bHk 84 bTT hp1 → hyF hp hp1 → (∀ c k, ¬ c = 15 → ¬ (c = 14 ∧ k = 0) → bFld hp1 c k = bFld hp c k) → rN hp1 14 0 = 9 → (∀ k, k < 9 → bFld hp1 15 k = some (.ref (f (k + 1)))) → bFld hp1 15 9 = some (.ref (f 0)) → R (.inl none) hp1) : xK d 51 [.ref 14] hp R := by
  refine xin (M := am_m51) rfl rfl rfl ?_
  refine xald 1 ⟨u51, _, rfl⟩ rfl rfl ?_
  refine xgetD 4 (15) hH ⟨u51, _, rfl⟩ rfl (by decide) (by decide) rfl rfl (by decide) ?_
  refine xcst 5 (0) ⟨u51, _, rfl⟩ rfl (by decide) (fun z4 h4 => ?_)
  refine xaald 6 (0) (f 0) hH ⟨u51, _, rfl⟩ rfl (by decide) rfl (by omega) (by omega) ((hA.1 0 (by decide)).2.2) ?_
  refine xast 7 ⟨u51, _, rfl⟩ rfl rfl (by simp [amOk, sn_lt (hA.1 0 (by decide)).1]) ?_
  refine xcst 8 (1) ⟨u51, _, rfl⟩ rfl (by decide) (fun z7 h7 => ?_)
  refine xist 9 ⟨u51, _, rfl⟩ rfl rfl ?_
  exact l51 hA hR 9 1 _ hp (by omega) (by omega) (by omega) hH (fun _ _ _ => rfl) (fun k hk => absurd hk (by omega)) (fun k _ hk => (hA.1 k hk).2.2)
/-- how many are kept behind a push, and which -/
def pM (n : Nat) : Nat := if n = 10 then 9 else n
def pH (n : Nat) (h : Nat → sR) (q : sR) : Nat → sR := fun k => if k = pM n then q else if n = 10 then h (k + 1) else h k
theorem hyS_fr {hp hp1 : amH} {sv : Option sR} (h : hyS hp sv) (e : rN hp1 14 3 = rN hp 14 3) (F : ∀ c, 16 ≤ c → c ≤ 18 → ∀ k, bFld hp1 c k = bFld hp c k) : hyS hp1 sv := by
  cases sv with
  | none => exact e.trans h
  | some q => exact ⟨e.trans h.1, snOk_fr h.2 F⟩
theorem k_push {d n V : Nat} {h : Nat → sR} {sv : Option sR} {T : sT} {hp : amH} {R : xQ} (hH : bHk 84 bTT hp) (hY : hyC hp n h sv) (hB : bdOk hp 3 V T) (hL : lsN hp 3 T 225)
    (hR : ∀ hp1, bHk 84 bTT hp1 → hyF hp hp1 → hyC hp1 (pM n + 1) (pH n h (V, T, rN hp 13)) sv → R (.inl none) hp1) : xK (d + 2) 50 [.ref 14, .ref 3, .ref 13] hp R := by
  obtain ⟨y1, y2, y3, ⟨f, hA, y4⟩, y5⟩ := hY
  -- behind the place made
  have key : ∀ hp2, bHk 84 bTT hp2 → hyF hp hp2 → ∀ g : Nat → Nat, hyA hp2 g → (∀ s, sn s → snF hp2 s) → rN hp2 14 0 = ((pM n : Nat) : Int) → (∀ k, k < pM n → snOk hp2 (g k) (if n = 10 then h (k + 1) else h k)) → hyS hp2 sv → xV (d + 2) am_m50 16 [some (.ref 14), some (.ref 3), some (.ref 13)] [] hp2 R := by
    intro hp2 hH hF g hA a1 a2 a3 a4
    have pm : pM n ≤ 9 := by unfold pM; split <;> omega
    have hBB : bdOk hp2 3 V T := bdOk_fr hB (hyF_n hF (by omega)) (fun i => hyF_n hF (by omega)) (fun i => hyF_n hF (by omega))
    have hLL : lsN hp2 3 T 225 := lsN_fr hL (hyF_n hF (by omega)) (fun i => hyF_n hF (by omega)) (fun i => hyF_n hF (by omega))
    have e13 : rN hp2 13 = rN hp 13 := funext fun i => hyF_n hF (by omega)
    obtain ⟨m1, m2, m3⟩ := hA.1 (pM n) (by omega)
    have mm := sn_mod m1
    refine xald 17 ⟨u50, _, rfl⟩ rfl rfl ?_
    refine xgetC 20 hH ⟨u50, _, rfl⟩ rfl (by decide) (by decide) rfl rfl (by decide) (fun z17 h17 => ?_)
    refine xald 21 ⟨u50, _, rfl⟩ rfl rfl ?_
    refine xgetD 24 (15) hH ⟨u50, _, rfl⟩ rfl (by decide) (by decide) rfl rfl (by decide) ?_
    refine xlen 25 hH ⟨u50, _, rfl⟩ rfl (by decide) rfl (by decide) (by decide) (fun z24 h24 => ?_)
    refine xcmp_ge 28 ⟨u50, _, rfl⟩ rfl (fun c25 => ?_) (fun c25 => ?_)
    · omega
    · refine xald 29 ⟨u50, _, rfl⟩ rfl rfl ?_
      refine xgetD 32 (15) hH ⟨u50, _, rfl⟩ rfl (by decide) (by decide) rfl rfl (by decide) ?_
      refine xald 33 ⟨u50, _, rfl⟩ rfl rfl ?_
      refine xgetC 36 hH ⟨u50, _, rfl⟩ rfl (by decide) (by decide) rfl rfl (by decide) (fun z33 h33 => ?_)
      refine xaald 37 (pM n) (g (pM n)) hH ⟨u50, _, rfl⟩ rfl (by decide) rfl (by omega) (by omega) (m3) ?_
      refine xnull 40 ⟨u50, _, rfl⟩ rfl ?_
      refine xald 41 ⟨u50, _, rfl⟩ rfl rfl ?_
      refine xgetD 44 (15) hH ⟨u50, _, rfl⟩ rfl (by decide) (by decide) rfl rfl (by decide) ?_
      refine xald 45 ⟨u50, _, rfl⟩ rfl rfl ?_
      refine xgetC 48 hH ⟨u50, _, rfl⟩ rfl (by decide) (by decide) rfl rfl (by decide) (fun z45 h45 => ?_)
      refine xaald 49 (pM n) (g (pM n)) hH ⟨u50, _, rfl⟩ rfl (by decide) rfl (by omega) (by omega) (m3) ?_
      refine xald 50 ⟨u50, _, rfl⟩ rfl rfl ?_
      refine xald 51 ⟨u50, _, rfl⟩ rfl rfl ?_
      refine xcallC 54 (o := g (pM n)) [.ref 3, .ref 13] [] hH ⟨u50, _, rfl⟩ rfl rfl (sn_lt m1) (sn_T m1) (by decide) rfl ⟨rfl, rfl, rfl, rfl⟩ rfl (k_keep m1 (a1 _ m1) hH hBB hLL (fun hp51 hH51 F51 f51 s51 => ⟨_, rfl, ?_⟩))
      refine xald 55 ⟨u50, _, rfl⟩ rfl rfl ?_
      refine xdup 56 ⟨u50, _, rfl⟩ rfl rfl ?_
      have e51 : rN hp51 14 0 = rN hp2 14 0 := bFx_n F51 (by simp; omega)
      refine xgetC 59 hH51 ⟨u50, _, rfl⟩ rfl (by decide) (by decide) rfl rfl (by decide) (fun z56 h56 => ?_)
      refine xcst 60 (1) ⟨u50, _, rfl⟩ rfl (by decide) (fun z59 h59 => ?_)
      refine xadd 61 _ ⟨u50, _, rfl⟩ rfl rfl (by omega) (by omega) (fun z60 h60 => ?_)
      refine xputC 64 hH51 ⟨u50, _, rfl⟩ rfl (by decide) (by decide) rfl rfl (by decide) ⟨rfl, rfl⟩ (by omega) (by omega) (fun hp61 hH61 U61 => ?_)
      have s61 := U61.1
      refine xretV ⟨u50, _, rfl⟩ rfl (hR hp61 hH61 (hF.trans ((hyF_x F51 (fun c hc => by simp at hc; omega)).trans (hyF_U U61 (by decide)))) ⟨by rw [U61.1]; omega, by omega, fun s hs => ?_, ⟨g, ⟨fun k hk => ⟨(hA.1 k hk).1, (hA.1 k hk).2.1, ?_⟩, hA.2⟩, fun k hk => ?_⟩, hyS_fr a4 ((rU_ne U61 (by omega)).trans (bFx_n F51 (by simp; omega))) (fun c c1 c2 k => (U61.2 c k (by omega)).trans (F51 c k (by simp; omega)))⟩)
      · by_cases e : s = g (pM n)
        · subst e
          exact ⟨(U61.2 _ 2 (by omega)).trans f51.1, (U61.2 _ 3 (by omega)).trans f51.2⟩
        · have := sn_mod hs
          exact ⟨(U61.2 _ 2 (by omega)).trans ((F51 _ 2 (by simp; omega)).trans (a1 s hs).1), (U61.2 _ 3 (by omega)).trans ((F51 _ 3 (by simp; omega)).trans (a1 s hs).2)⟩
      · exact (U61.2 15 k (by omega)).trans ((F51 15 k (by simp; omega)).trans (hA.1 k hk).2.2)
      · unfold pH
        by_cases e : k = pM n
        · rw [if_pos e, e]
          refine snOk_fr ?_ (fun c c1 c2 k => U61.2 c k (by omega))
          rw [← e13]
          exact s51
        · rw [if_neg e]
          have k1 := (hA.1 k (by omega)).1
          have k2 := sn_mod k1
          have k3 : ¬ g k = g (pM n) := fun z => e (hA.2 k (pM n) (by omega) (by omega) z)
          exact snOk_fr (a3 k (by omega)) (fun c c1 c2 j => (U61.2 c j (by omega)).trans (F51 c j (by simp; omega)))
  refine xin (M := am_m50) rfl rfl rfl ?_
  refine xald 1 ⟨u50, _, rfl⟩ rfl rfl ?_
  refine xgetC 4 hH ⟨u50, _, rfl⟩ rfl (by decide) (by decide) rfl rfl (by decide) (fun z1 h1 => ?_)
  refine xald 5 ⟨u50, _, rfl⟩ rfl rfl ?_
  refine xgetD 8 (15) hH ⟨u50, _, rfl⟩ rfl (by decide) (by decide) rfl rfl (by decide) ?_
  refine xlen 9 hH ⟨u50, _, rfl⟩ rfl (by decide) rfl (by decide) (by decide) (fun z8 h8 => ?_)
  refine xcmp_ne 12 ⟨u50, _, rfl⟩ rfl (fun c9 => ?_) (fun c9 => ?_)
  · have en : ¬ n = 10 := by omega
    have pm : pM n = n := by unfold pM; rw [if_neg en]
    exact key hp hH (fun _ _ _ => rfl) f hA y3 (by rw [pm]; exact y1) (fun k hk => by simp only [if_neg en]; exact y4 k (by omega)) y5
  · refine xald 13 ⟨u50, _, rfl⟩ rfl rfl ?_
    refine xcallC 16 (o := 14) [] [] hH ⟨u50, _, rfl⟩ rfl rfl (by decide) rfl (by decide) rfl ⟨rfl, rfl, rfl, rfl⟩ rfl (k_fgo hA hH (fun hp13 hH13 F13 G13 e13 A13 B13 => ⟨_, rfl, ?_⟩))
    have en : n = 10 := by omega
    have pm : pM n = 9 := by unfold pM; rw [if_pos en]
    exact key hp13 hH13 F13 (fun k => if k = 9 then f 0 else f (k + 1)) ⟨fun k hk => by
      by_cases g : k = 9
      · subst g
        simp only [if_true]
        exact ⟨(hA.1 0 (by decide)).1, (hA.1 0 (by decide)).2.1, B13⟩
      · simp only [if_neg g]
        exact ⟨(hA.1 (k + 1) (by omega)).1, (hA.1 (k + 1) (by omega)).2.1, A13 k (by omega)⟩, fun j k hj hk e => by
      by_cases g1 : j = 9
      · by_cases g2 : k = 9
        · omega
        · simp only [if_pos g1, if_neg g2] at e
          have := hA.2 0 (k + 1) (by omega) (by omega) e
          omega
      · by_cases g2 : k = 9
        · simp only [if_neg g1, if_pos g2] at e
          have := hA.2 (j + 1) 0 (by omega) (by omega) e
          omega
        · simp only [if_neg g1, if_neg g2] at e
          have := hA.2 (j + 1) (k + 1) (by omega) (by omega) e
          omega⟩ (fun s hs => by
      have := sn_mod hs
      exact ⟨(G13 s 2 (by omega) (by omega)).trans (y3 s hs).1, (G13 s 3 (by omega) (by omega)).trans (y3 s hs).2⟩) (by rw [e13, pm]; rfl) (fun k hk => by
      have k1 := sn_mod (hA.1 (k + 1) (by omega)).1
      simp only [if_pos en, if_neg (show ¬ k = 9 by omega)]
      exact snOk_fr (y4 (k + 1) (by omega)) (fun c c1 c2 j => G13 c j (by omega) (by omega))) (hyS_fr y5 (rN_eq (G13 14 3 (by decide) (by decide))) (fun c c1 c2 k => G13 c k (by omega) (by omega)))
theorem k_cmem {d n V : Nat} {h : Nat → sR} {sv : Option sR} {T : sT} {hp : amH} {R : xQ} (hH : bHk 84 bTT hp) (hY : hyC hp n h sv) (hB : bdOk hp 3 V T) (hL : lsN hp 3 T 225)
    (hR : ∀ hp1, bHk 84 bTT hp1 → hyF hp hp1 → hyC hp1 (pM n + 1) (pH n h (V, T, rN hp 13)) sv → R (.inl none) hp1) : xK (d + 3) 184 [.ref 0] hp R := by
  refine xin (M := am_m184) rfl rfl rfl ?_
  refine xald 1 ⟨u184, _, rfl⟩ rfl rfl ?_
  refine xgetD 4 (14) hH ⟨u184, _, rfl⟩ rfl (by decide) (by decide) rfl rfl (by decide) ?_
  refine xald 5 ⟨u184, _, rfl⟩ rfl rfl ?_
  refine xgetD 8 (3) hH ⟨u184, _, rfl⟩ rfl (by decide) (by decide) rfl rfl (by decide) ?_
  refine xald 9 ⟨u184, _, rfl⟩ rfl rfl ?_
  refine xgetD 12 (13) hH ⟨u184, _, rfl⟩ rfl (by decide) (by decide) rfl rfl (by decide) ?_
  refine xcallC 15 (o := 14) [.ref 3, .ref 13] [] hH ⟨u184, _, rfl⟩ rfl rfl (by decide) rfl (by decide) rfl ⟨rfl, rfl, rfl, rfl⟩ rfl (k_push hH hY hB hL (fun hp12 hH12 F12 Y12 => ⟨_, rfl, ?_⟩))
  exact xretV ⟨u184, _, rfl⟩ rfl (hR _ hH12 F12 Y12)
