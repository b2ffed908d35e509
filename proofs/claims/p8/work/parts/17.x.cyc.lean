/-! ===== ways by hand: cycles laid ===== -/
def wWk : List (Nat × Nat) := [(66, 17), (78, 999)]
theorem wS_e {hp hp1 : amH} (h : ∀ u v, tT hp1 u v = tT hp u v) (a b x : Nat) : ∀ k, wS hp1 a b x k = wS hp a b x k
  | 0 => rfl
  | k + 1 => by
    show (tT hp1 (wS hp1 a b x k) (ab a b k)).toNat = (tT hp (wS hp a b x k) (ab a b k)).toNat
    rw [wS_e h a b x k, h]
theorem Cyc_e {hp hp1 : amH} (h : ∀ u v, tT hp1 u v = tT hp u v) {a b x r : Nat} (hC : Cyc hp a b x r) : Cyc hp1 a b x r := by
  obtain ⟨h1, h2, h3, h4, h5⟩ := hC
  refine ⟨h1, h2, fun k hk => by rw [wS_e h, wS_e h, h]; exact h3 k hk, by rw [wS_e h]; exact h4, fun k a b => by rw [wS_e h]; exact h5 k a b⟩
def RowOk (hp : amH) (a b x r : Nat) : Prop := rN hp 66 17 = (r : Int) ∧ ∀ k, k < r → rN hp 78 k = (wS hp a b x k : Int)
theorem RowOk_W {W : List (Nat × Nat)} (hW : bDj W [(67, 999), (66, 17), (78, 999)] = true) {hp hp1 : amH} (hF : bFr W hp hp1) {a b x r : Nat} (h : RowOk hp a b x r) : RowOk hp1 a b x r := by
  have e : ∀ c i, bIn [(67, 999), (66, 17), (78, 999)] c i = true → rN hp1 c i = rN hp c i := fun c i hc => r_fr hF (bDj_s hW c i hc)
  refine ⟨(e 66 17 (by decide)).trans h.1, fun k hk => ?_⟩
  rw [e 78 k (bIn_all (by decide) _), wS_e (fun u v => e 67 _ (bIn_all (by decide) _))]
  exact h.2 k hk
theorem u225 : bUp 0 am_m225.1 = true := by decide +kernel
theorem u226 : bUp 0 am_m226.1 = true := by decide +kernel
theorem u228 : bUp 0 am_m228.1 = true := by decide +kernel
theorem u259 : bUp 0 am_m259.1 = true := by decide +kernel
theorem u230 : bUp 0 am_m230.1 = true := by decide +kernel
theorem u300 : bUp 0 am_m300.1 = true := by decide +kernel
theorem u301 : bUp 0 am_m301.1 = true := by decide +kernel
theorem l225 {d : Nat} {hp0 : amH} {R : xQ} {a b x : Int32} {A B X : Nat} (hP0 : P0 hp0) (ha : a.toInt = (A : Int)) (hb : b.toInt = (B : Int)) (hx : x.toInt = (X : Int)) (hA : A < 15) (hB : B < 15) (hX : X < 15) (hR : ∀ (z : Int32) hp1, bHk 84 bTT hp1 → bFr wWk hp0 hp1 → (z.toInt = 0 ∨ (z.toInt = 1 ∧ ∃ r, Cyc hp0 A B X r ∧ RowOk hp1 A B X r)) → R (.inl (some (.int z))) hp1) :
    ∀ (j n : Nat) (t : Int32) (v : Option Value) (hp : amH), bHk 84 bTT hp → bFr wWk hp0 hp → n + j = 15 → rN hp 66 17 = (n : Int) → t.toInt = (wS hp0 A B X n : Int) → wS hp0 A B X n < 15 → (∀ k, k < n → rN hp 78 k = (wS hp0 A B X k : Int)) → (∀ k, k < n → tT hp0 (wS hp0 A B X k) (ab A B k) = (wS hp0 A B X (k + 1) : Int)) → (∀ k, 0 < k → k ≤ n → ¬ wS hp0 A B X k = X) → xV (d + 1) am_m225 8 [some (.ref 66), some (.int a), some (.int b), some (.int x), some (.int t), v] [] hp R := by
  intro j
  induction j using Nat.strongRecOn with
  | ind j ih =>
    intro n t v hp hH hF hj hn ht hw hr hs hne
    have j56 : n < 15 → ∀ (hp1 : amH), bHk 84 bTT hp1 → bFr wWk hp0 hp1 → rN hp1 66 17 = ((n + 1 : Nat) : Int) → (∀ k, k < n + 1 → rN hp1 78 k = (wS hp0 A B X k : Int)) → ∀ c : Int32, c.toInt = (ab A B n : Int) → xV (d + 1) am_m225 56 [some (.ref 66), some (.int a), some (.int b), some (.int x), some (.int t), v] [.int c, .int t, .ref 66] hp1 R := by
      intro n15 hp1 hH1 hF1 hn1 hr1 c hc
      have eab := ab_or A B n
      refine xcall 59 [.ref 66, .int _, .int _] [] hH1 ⟨u225, _, rfl⟩ rfl rfl rfl rfl rfl (k_third hH1 (by omega) (by omega) (by omega) (by omega) (fun z56 h56 => ⟨_, rfl, ?_⟩))
      have e56 : z56.toInt = tT hp0 (wS hp0 A B X n) (ab A B n) := by
        rw [h56, show t.toInt.toNat = wS hp0 A B X n by omega, show c.toInt.toNat = ab A B n by omega]
        exact r_fr hF1 rfl
      have eab := ab_or A B n
      have m56 := Vf_m hP0.1 (a := wS hp0 A B X n) (b := ab A B n) hw (by omega)
      have w56 : 0 ≤ z56.toInt → z56.toInt = (wS hp0 A B X (n + 1) : Int) := fun z => by
        show z56.toInt = ((tT hp0 (wS hp0 A B X n) (ab A B n)).toNat : Int)
        omega
      have p15 := hP0.1.2.1
      refine xist2 61 ⟨u225, _, rfl⟩ rfl rfl ?_
      refine xild2 63 ⟨u225, _, rfl⟩ rfl rfl ?_
      refine xcst 64 (-1) ⟨u225, _, rfl⟩ rfl (by decide) (fun z63 h63 => ?_)
      refine xcmp_ne 67 ⟨u225, _, rfl⟩ rfl (fun c64 => ?_) (fun c64 => ?_)
      · have g0 : 0 ≤ z56.toInt := by
          rcases m56 with q | ⟨q, -, q2⟩ <;> omega
        have w1 := w56 g0
        have w2 : wS hp0 A B X (n + 1) < 15 := by
          rcases m56 with q | ⟨q, q1, q2⟩ <;> omega
        have st : ∀ k, k < n + 1 → tT hp0 (wS hp0 A B X k) (ab A B k) = (wS hp0 A B X (k + 1) : Int) := by
          intro k hk
          by_cases e : k = n
          · rw [e, ← e56, w1]
          · exact hs k (by omega)
        refine xild2 71 ⟨u225, _, rfl⟩ rfl rfl ?_
        refine xist2 73 ⟨u225, _, rfl⟩ rfl rfl ?_
        refine xild2 75 ⟨u225, _, rfl⟩ rfl rfl ?_
        refine xild 76 ⟨u225, _, rfl⟩ rfl rfl ?_
        refine xcmp_ne 79 ⟨u225, _, rfl⟩ rfl (fun c76 => ?_) (fun c76 => ?_)
        · refine xgoto ⟨u225, _, rfl⟩ ?_
          exact ih (j - 1) (by omega) (n + 1) _ _ hp1 hH1 hF1 (by omega) hn1 w1 w2 hr1 st (fun k k0 k1 => by
            by_cases e : k = n + 1
            · rw [e]
              omega
            · exact hne k k0 (by omega))
        · refine xcst 80 (1) ⟨u225, _, rfl⟩ rfl (by decide) (fun z79 h79 => ?_)
          have te : ∀ u v, tT hp1 u v = tT hp0 u v := fun u v => r_fr hF1 rfl
          exact xretB ⟨u225, _, rfl⟩ rfl (by omega) (hR _ hp1 hH1 hF1 (Or.inr ⟨by omega, n + 1, ⟨by omega, by omega, st, by omega, fun k k0 k1 => hne k k0 (by omega)⟩, hn1, fun k hk => by rw [wS_e te]; exact hr1 k hk⟩))
      · refine xcst 68 (0) ⟨u225, _, rfl⟩ rfl (by decide) (fun z67 h67 => ?_)
        exact xretB ⟨u225, _, rfl⟩ rfl (by omega) (hR _ hp1 hH1 hF1 (Or.inl (by omega)))
    refine xald 9 ⟨u225, _, rfl⟩ rfl rfl ?_
    refine xgetI 12 hH ⟨u225, _, rfl⟩ rfl rfl (fun z9 h9 => ?_)
    refine xbip 14 (15) ⟨u225, _, rfl⟩ rfl (by decide) (fun z12 h12 => ?_)
    refine xcmp_ge 17 ⟨u225, _, rfl⟩ rfl (fun c14 => ?_) (fun c14 => ?_)
    · refine xcst 85 (0) ⟨u225, _, rfl⟩ rfl (by decide) (fun z84 h84 => ?_)
      exact xretB ⟨u225, _, rfl⟩ rfl (by omega) (hR _ hp hH hF (Or.inl (by omega)))
    · refine xald 18 ⟨u225, _, rfl⟩ rfl rfl ?_
      refine xgetR 21 78 hH ⟨u225, _, rfl⟩ rfl rfl ?_
      refine xald 22 ⟨u225, _, rfl⟩ rfl rfl ?_
      refine xgetI 25 hH ⟨u225, _, rfl⟩ rfl rfl (fun z22 h22 => ?_)
      refine xild2 27 ⟨u225, _, rfl⟩ rfl rfl ?_
      refine xiast 28 n hH ⟨u225, _, rfl⟩ rfl (by decide) rfl (by omega) (by omega) (by omega) (by omega) (fun hp27 hH27 U27 => ?_)
      refine xald 29 ⟨u225, _, rfl⟩ rfl rfl ?_
      refine xdup 30 ⟨u225, _, rfl⟩ rfl rfl ?_
      refine xgetI 33 hH27 ⟨u225, _, rfl⟩ rfl rfl (fun z30 h30 => ?_)
      have o30 : z30.toInt = (n : Int) := by rw [h30, rU_ne U27 (by omega), hn]
      refine xcst 34 (1) ⟨u225, _, rfl⟩ rfl (by decide) (fun z33 h33 => ?_)
      refine xadd 35 _ ⟨u225, _, rfl⟩ rfl rfl (by omega) (by omega) (fun z34 h34 => ?_)
      refine xputI 38 hH27 ⟨u225, _, rfl⟩ rfl rfl ⟨rfl, rfl⟩ (by omega) (by omega) (fun hp35 hH35 U35 => ?_)
      have F35 : bFr wWk hp0 hp35 := hF.trans ((rU_fr U27 (bIn_all (by decide) n)).trans (rU_fr U35 (by decide)))
      have n35 : rN hp35 66 17 = ((n + 1 : Nat) : Int) := by rw [U35.1]; omega
      have r35 : ∀ k, k < n + 1 → rN hp35 78 k = (wS hp0 A B X k : Int) := by
        intro k hk
        rw [rU_ne U35 (by omega)]
        by_cases e : k = n
        · rw [e, U27.1, ht]
        · rw [rU_ne U27 (by omega)]
          exact hr k (by omega)
      have eab := ab_or A B n
      refine xald 39 ⟨u225, _, rfl⟩ rfl rfl ?_
      refine xild2 41 ⟨u225, _, rfl⟩ rfl rfl ?_
      refine xald 42 ⟨u225, _, rfl⟩ rfl rfl ?_
      refine xgetI 45 hH35 ⟨u225, _, rfl⟩ rfl rfl (fun z42 h42 => ?_)
      refine xcst 46 (2) ⟨u225, _, rfl⟩ rfl (by decide) (fun z45 h45 => ?_)
      refine xrem 47 (Int32.toInt z42 % 2) ⟨u225, _, rfl⟩ rfl (by omega) (by omega) (by rw [h45]) (fun z46 h46 => ?_)
      refine xcst 48 (1) ⟨u225, _, rfl⟩ rfl (by decide) (fun z47 h47 => ?_)
      refine xcmp_ne 51 ⟨u225, _, rfl⟩ rfl (fun c48 => ?_) (fun c48 => ?_)
      · refine xild 56 ⟨u225, _, rfl⟩ rfl rfl ?_
        exact j56 (by omega) hp35 hH35 F35 n35 r35 _ (by omega)
      · refine xild 52 ⟨u225, _, rfl⟩ rfl rfl ?_
        refine xgoto ⟨u225, _, rfl⟩ ?_
        exact j56 (by omega) hp35 hH35 F35 n35 r35 _ (by omega)
theorem k_walks {d : Nat} {hp0 : amH} {R : xQ} {a b x : Int32} {A B X : Nat} (hH0 : bHk 84 bTT hp0) (hP0 : P0 hp0) (ha : a.toInt = (A : Int)) (hb : b.toInt = (B : Int)) (hx : x.toInt = (X : Int)) (hA : A < 15) (hB : B < 15) (hX : X < 15) (hR : ∀ (z : Int32) hp1, bHk 84 bTT hp1 → bFr wWk hp0 hp1 → (z.toInt = 0 ∨ (z.toInt = 1 ∧ ∃ r, Cyc hp0 A B X r ∧ RowOk hp1 A B X r)) → R (.inl (some (.int z))) hp1) : xK (d + 1) 225 [.ref 66, .int a, .int b, .int x] hp0 R := by
  refine xin (M := am_m225) rfl rfl rfl ?_
  refine xald 1 ⟨u225, _, rfl⟩ rfl rfl ?_
  refine xcst 2 (0) ⟨u225, _, rfl⟩ rfl (by decide) (fun z1 h1 => ?_)
  refine xputI 5 hH0 ⟨u225, _, rfl⟩ rfl rfl ⟨rfl, rfl⟩ (by omega) (by omega) (fun hp2 hH2 U2 => ?_)
  refine xild 6 ⟨u225, _, rfl⟩ rfl rfl ?_
  refine xist2 8 ⟨u225, _, rfl⟩ rfl rfl ?_
  refine xpad 1 ?_
  exact l225 hP0 ha hb hx hA hB hX hR 15 0 _ _ hp2 hH2 (rU_fr U2 (by decide)) (by omega) (by rw [U2.1, h1]; rfl) hx hX (fun k hk => by omega) (fun k hk => by omega) (fun k k0 k1 => by omega)
theorem l226 {d : Nat} {hp : amH} {R : xQ} {a b x : Int32} {D : Prop} (hD : D) (hH : bHk 84 bTT hp) {r : Nat} (hr : rN hp 66 17 = (r : Int)) (r15 : r ≤ 15) (hR : ∀ (z : Int32), (z.toInt = 0 ∨ (z.toInt = 1 ∧ D)) → R (.inl (some (.int z))) hp) :
    ∀ (j : Nat) (k : Int32), k.toInt + (j : Int) = 15 → 0 ≤ k.toInt → xV (d + 2) am_m226 35 [some (.ref 66), some (.int a), some (.int b), some (.int x), some (.int k)] [] hp R := by
  intro j
  induction j using Nat.strongRecOn with
  | ind j ih =>
    intro k hj k0
    refine xild2 37 ⟨u226, _, rfl⟩ rfl rfl ?_
    refine xald 38 ⟨u226, _, rfl⟩ rfl rfl ?_
    refine xgetI 41 hH ⟨u226, _, rfl⟩ rfl rfl (fun z38 h38 => ?_)
    refine xcmp_ge 44 ⟨u226, _, rfl⟩ rfl (fun c41 => ?_) (fun c41 => ?_)
    · refine xcst 64 (1) ⟨u226, _, rfl⟩ rfl (by decide) (fun z63 h63 => ?_)
      exact xretB ⟨u226, _, rfl⟩ rfl (by omega) (hR _ (Or.inr ⟨by omega, hD⟩))
    · refine xald 45 ⟨u226, _, rfl⟩ rfl rfl ?_
      refine xgetR 48 78 hH ⟨u226, _, rfl⟩ rfl rfl ?_
      refine xild2 50 ⟨u226, _, rfl⟩ rfl rfl ?_
      refine xiald 51 (k).toInt.toNat hH ⟨u226, _, rfl⟩ rfl (by decide) rfl (by omega) (by omega) (fun z50 h50 => ?_)
      refine xild 52 ⟨u226, _, rfl⟩ rfl rfl ?_
      refine xcmp_ge 55 ⟨u226, _, rfl⟩ rfl (fun c52 => ?_) (fun c52 => ?_)
      · refine xinc 60 (1) ⟨u226, _, rfl⟩ rfl rfl rfl (by decide) (by omega) (by omega) (fun z57 h57 => ?_)
        refine xgoto ⟨u226, _, rfl⟩ ?_
        exact ih (j - 1) (by omega) _ (by omega) (by omega)
      · refine xcst 56 (0) ⟨u226, _, rfl⟩ rfl (by decide) (fun z55 h55 => ?_)
        exact xretB ⟨u226, _, rfl⟩ rfl (by omega) (hR _ (Or.inl (by omega)))
theorem k_icf {d : Nat} {hp0 : amH} {R : xQ} {a b x : Int32} {A B X : Nat} (hH0 : bHk 84 bTT hp0) (hP0 : P0 hp0) (ha : a.toInt = (A : Int)) (hb : b.toInt = (B : Int)) (hx : x.toInt = (X : Int)) (hA : A < 15) (hB : B < 15) (hX : X < 15) (hR : ∀ (z : Int32) hp1, bHk 84 bTT hp1 → bFr wWk hp0 hp1 → (z.toInt = 0 ∨ (z.toInt = 1 ∧ ¬ X = A ∧ ¬ X = B ∧ ¬ tT hp0 A B = (X : Int) ∧ ∃ r, Cyc hp0 A B X r ∧ RowOk hp1 A B X r)) → R (.inl (some (.int z))) hp1) : xK (d + 2) 226 [.ref 66, .int a, .int b, .int x] hp0 R := by
  refine xin (M := am_m226) rfl rfl rfl ?_
  have j30 : ∀ hp1, bHk 84 bTT hp1 → bFr wWk hp0 hp1 → xV (d + 2) am_m226 30 [some (.ref 66), some (.int a), some (.int b), some (.int x)] [] hp1 R := by
    intro hp1 hH1 hF1
    refine xcst 31 (0) ⟨u226, _, rfl⟩ rfl (by decide) (fun z34 h34 => ?_)
    exact xretB ⟨u226, _, rfl⟩ rfl (by omega) (hR _ _ hH1 hF1 (Or.inl h34))
  refine xild 1 ⟨u226, _, rfl⟩ rfl rfl ?_
  refine xild 2 ⟨u226, _, rfl⟩ rfl rfl ?_
  refine xcmp_eq 5 ⟨u226, _, rfl⟩ rfl (fun c2 => ?_) (fun c2 => ?_)
  · exact j30 _ hH0 (bFr.refl _ _)
  · refine xild 6 ⟨u226, _, rfl⟩ rfl rfl ?_
    refine xild 7 ⟨u226, _, rfl⟩ rfl rfl ?_
    refine xcmp_eq 10 ⟨u226, _, rfl⟩ rfl (fun c7 => ?_) (fun c7 => ?_)
    · exact j30 _ hH0 (bFr.refl _ _)
    · refine xald 11 ⟨u226, _, rfl⟩ rfl rfl ?_
      refine xild 12 ⟨u226, _, rfl⟩ rfl rfl ?_
      refine xild 13 ⟨u226, _, rfl⟩ rfl rfl ?_
      refine xcall 16 [.ref 66, .int _, .int _] [] hH0 ⟨u226, _, rfl⟩ rfl rfl rfl rfl rfl (k_third hH0 (by omega) (by omega) (by omega) (by omega) (fun z13 h13 => ⟨_, rfl, ?_⟩))
      rw [show a.toInt.toNat = A by omega, show b.toInt.toNat = B by omega] at h13
      refine xild 17 ⟨u226, _, rfl⟩ rfl rfl ?_
      refine xcmp_eq 20 ⟨u226, _, rfl⟩ rfl (fun c17 => ?_) (fun c17 => ?_)
      · exact j30 _ hH0 (bFr.refl _ _)
      · refine xald 21 ⟨u226, _, rfl⟩ rfl rfl ?_
        refine xild 22 ⟨u226, _, rfl⟩ rfl rfl ?_
        refine xild 23 ⟨u226, _, rfl⟩ rfl rfl ?_
        refine xild 24 ⟨u226, _, rfl⟩ rfl rfl ?_
        refine xcall 27 [.ref 66, .int _, .int _, .int _] [] hH0 ⟨u226, _, rfl⟩ rfl rfl rfl rfl rfl (k_walks hH0 hP0 ha hb hx hA hB hX (fun z24 hp24 hH24 F24 h24 => ⟨_, rfl, ?_⟩))
        have e24 : rN hp24 67 0 = rN hp0 67 0 := r_fr F24 rfl
        have t24 : ∀ u v, tT hp24 u v = tT hp0 u v := fun u v => r_fr F24 rfl
        refine xif_ne 30 ⟨u226, _, rfl⟩ rfl (fun c27 => ?_) (fun c27 => ?_)
        · refine xcst 33 (1) ⟨u226, _, rfl⟩ rfl (by decide) (fun z32 h32 => ?_)
          refine xist2 35 ⟨u226, _, rfl⟩ rfl rfl ?_
          obtain ⟨r, hC, hO⟩ : ∃ r, Cyc hp0 A B X r ∧ RowOk hp24 A B X r := by
            rcases h24 with g | g
            · omega
            · exact g.2
          exact l226 (D := ¬ X = A ∧ ¬ X = B ∧ ¬ tT hp0 A B = (X : Int) ∧ ∃ r, Cyc hp0 A B X r ∧ RowOk hp24 A B X r) ⟨by omega, by omega, by omega, r, hC, hO⟩ hH24 hO.1 hC.2.1 (fun z k3 => hR z hp24 hH24 F24 k3) 14 _ (by omega) (by omega)
        · exact j30 _ hH24 F24
theorem l228 {d : Nat} {hp0 : amH} {R : xQ} {a b c : Int32} {A B : Nat} (ha : a.toInt = (A : Int)) (hb : b.toInt = (B : Int)) (hA : A < 15) (hB : B < 15) (hR : ∀ (z : Int32) hp1, bHk 84 bTT hp1 → P0 hp1 → bFr wWk hp0 hp1 → (z.toInt = 0 ∨ (z.toInt = 1 ∧ ∃ X : Nat, (X : Int) < rN hp0 67 0 ∧ ¬ X = A ∧ ¬ X = B ∧ ¬ tT hp0 A B = (X : Int) ∧ ∃ r, Cyc hp0 A B X r ∧ RowOk hp1 A B X r)) → R (.inl (some (.int z))) hp1) :
    ∀ (j : Nat) (l x : Int32) (hp : amH), bHk 84 bTT hp → P0 hp → bFr wWk hp0 hp → x.toInt + (j : Int) = 15 → 0 ≤ x.toInt → xV (d + 3) am_m228 6 [some (.ref 66), some (.int a), some (.int b), some (.int c), some (.int l), some (.int x)] [] hp R := by
  intro j
  induction j using Nat.strongRecOn with
  | ind j ih =>
    intro l x hp hH hP hF hj x0
    have bl := aMax l
    have q1 := hP.1.1
    have q2 := hP.1.2.1
    have e0 : rN hp 67 0 = rN hp0 67 0 := r_fr hF rfl
    refine xild2 8 ⟨u228, _, rfl⟩ rfl rfl ?_
    refine xald 9 ⟨u228, _, rfl⟩ rfl rfl ?_
    refine xcall 12 [.ref 66] [.int _] hH ⟨u228, _, rfl⟩ rfl rfl rfl rfl rfl (k_points hH (fun z9 h9 => ⟨_, rfl, ?_⟩))
    refine xcmp_ge 15 ⟨u228, _, rfl⟩ rfl (fun c12 => ?_) (fun c12 => ?_)
    · refine xcst 51 (0) ⟨u228, _, rfl⟩ rfl (by decide) (fun z50 h50 => ?_)
      exact xretB ⟨u228, _, rfl⟩ rfl (by omega) (hR _ hp hH hP hF (Or.inl (by omega)))
    · refine xild2 17 ⟨u228, _, rfl⟩ rfl rfl ?_
      refine xif_lt 20 ⟨u228, _, rfl⟩ rfl (fun c17 => ?_) (fun c17 => ?_)
      · refine xcst 51 (0) ⟨u228, _, rfl⟩ rfl (by decide) (fun z50 h50 => ?_)
        exact xretB ⟨u228, _, rfl⟩ rfl (by omega) (hR _ hp hH hP hF (Or.inl (by omega)))
      · refine xald 21 ⟨u228, _, rfl⟩ rfl rfl ?_
        refine xild 22 ⟨u228, _, rfl⟩ rfl rfl ?_
        refine xild 23 ⟨u228, _, rfl⟩ rfl rfl ?_
        refine xild2 25 ⟨u228, _, rfl⟩ rfl rfl ?_
        refine xcall 28 [.ref 66, .int _, .int _, .int _] [] hH ⟨u228, _, rfl⟩ rfl rfl rfl rfl rfl (k_icf hH hP (A := A) (B := B) (X := x.toInt.toNat) ha hb (by omega) hA hB (by omega) (fun z25 hp25 hH25 F25 h25 => ⟨_, rfl, ?_⟩))
        have hP25 : P0 hp25 := P0_W (W := wWk) (by decide) F25 hP
        have e25 : rN hp25 67 0 = rN hp 67 0 := r_fr F25 rfl
        have t25 : ∀ u v, tT hp25 u v = tT hp u v := fun u v => r_fr F25 rfl
        refine xif_ne 31 ⟨u228, _, rfl⟩ rfl (fun c28 => ?_) (fun c28 => ?_)
        · refine xild2 36 ⟨u228, _, rfl⟩ rfl rfl ?_
          refine xif_ne 39 ⟨u228, _, rfl⟩ rfl (fun c36 => ?_) (fun c36 => ?_)
          · refine xinc 44 (-1) ⟨u228, _, rfl⟩ rfl rfl rfl (by decide) (by omega) (by omega) (fun z41 h41 => ?_)
            refine xinc 47 (1) ⟨u228, _, rfl⟩ rfl rfl rfl (by decide) (by omega) (by omega) (fun z44 h44 => ?_)
            refine xgoto ⟨u228, _, rfl⟩ ?_
            exact ih (j - 1) (by omega) _ _ hp25 hH25 hP25 (hF.trans F25) (by omega) (by omega)
          · refine xcst 40 (1) ⟨u228, _, rfl⟩ rfl (by decide) (fun z39 h39 => ?_)
            obtain ⟨g1, g2, g3, r, g4, g5⟩ : ¬ x.toInt.toNat = A ∧ ¬ x.toInt.toNat = B ∧ ¬ tT hp A B = (x.toInt.toNat : Int) ∧ ∃ r, Cyc hp A B x.toInt.toNat r ∧ RowOk hp25 A B x.toInt.toNat r := by
              rcases h25 with g | g
              · omega
              · exact g.2
            have te : ∀ u v, tT hp0 u v = tT hp u v := fun u v => (r_fr hF rfl).symm
            exact xretB ⟨u228, _, rfl⟩ rfl (by omega) (hR _ hp25 hH25 hP25 (hF.trans F25) (Or.inr ⟨by omega, x.toInt.toNat, by omega, g1, g2, by rw [te]; exact g3, r, Cyc_e te g4, g5⟩))
        · refine xgoto ⟨u228, _, rfl⟩ ?_
          refine xinc 47 (1) ⟨u228, _, rfl⟩ rfl rfl rfl (by decide) (by omega) (by omega) (fun z44 h44 => ?_)
          refine xgoto ⟨u228, _, rfl⟩ ?_
          exact ih (j - 1) (by omega) _ _ hp25 hH25 hP25 (hF.trans F25) (by omega) (by omega)
theorem k_lcy {d : Nat} {hp0 : amH} {R : xQ} {a b c : Int32} {A B : Nat} (hH : bHk 84 bTT hp0) (hP : P0 hp0) (ha : a.toInt = (A : Int)) (hb : b.toInt = (B : Int)) (hA : A < 15) (hB : B < 15) (hR : ∀ (z : Int32) hp1, bHk 84 bTT hp1 → P0 hp1 → bFr wWk hp0 hp1 → (z.toInt = 0 ∨ (z.toInt = 1 ∧ ∃ X : Nat, (X : Int) < rN hp0 67 0 ∧ ¬ X = A ∧ ¬ X = B ∧ ¬ tT hp0 A B = (X : Int) ∧ ∃ r, Cyc hp0 A B X r ∧ RowOk hp1 A B X r)) → R (.inl (some (.int z))) hp1) : xK (d + 3) 228 [.ref 66, .int a, .int b, .int c] hp0 R := by
  refine xin (M := am_m228) rfl rfl rfl ?_
  refine xild 1 ⟨u228, _, rfl⟩ rfl rfl ?_
  refine xist2 3 ⟨u228, _, rfl⟩ rfl rfl ?_
  refine xcst 4 (0) ⟨u228, _, rfl⟩ rfl (by decide) (fun z3 h3 => ?_)
  refine xist2 6 ⟨u228, _, rfl⟩ rfl rfl ?_
  exact l228 ha hb hA hB hR 15 _ _ hp0 hH hP (bFr.refl _ _) (by omega) (by omega)
def wNC : List (Nat × Nat) := (66, 7) :: (66, 17) :: (78, 999) :: bLT
/-- a cycle lies in the row -/
def CyOk (hp : amH) (A B : Nat) : Prop := (A : Int) < rN hp 67 0 ∧ (B : Int) < rN hp 67 0 ∧ ¬ A = B ∧ ∃ X : Nat, (X : Int) < rN hp 67 0 ∧ ¬ X = A ∧ ¬ X = B ∧ ¬ tT hp A B = (X : Int) ∧ ∃ r, Cyc hp A B X r ∧ RowOk hp A B X r
theorem CyOk_W {W : List (Nat × Nat)} (hW : bDj W [(67, 999), (66, 17), (78, 999)] = true) {hp hp1 : amH} (hF : bFr W hp hp1) {A B : Nat} (h : CyOk hp A B) : CyOk hp1 A B := by
  have e : ∀ i, rN hp1 67 i = rN hp 67 i := fun i => r_fr hF (bDj_s hW 67 i (bIn_all (by decide) _))
  have te : ∀ u v, tT hp1 u v = tT hp u v := fun u v => e _
  obtain ⟨h1, h2, h3, X, h4, h5, h6, h7, r, h8, h9⟩ := h
  exact ⟨by rw [e]; exact h1, by rw [e]; exact h2, h3, X, by rw [e]; exact h4, h5, h6, by rw [te]; exact h7, r, Cyc_e te h8, RowOk_W hW hF h9⟩
theorem k_nocy {d : Nat} {hp : amH} {R : xQ} {a b c : Int32} (hH : bHk 84 bTT hp) (hP : P0 hp) (hR : ∀ (z : Int32) hp1, bHk 84 bTT hp1 → P0 hp1 → bFr wNC hp hp1 → (z.toInt = 1 ∨ (z.toInt = 0 ∧ 0 ≤ a.toInt ∧ 0 ≤ b.toInt ∧ CyOk hp1 a.toInt.toNat b.toInt.toNat)) → R (.inl (some (.int z))) hp1) : xK (d + 4) 259 [.ref 66, .int a, .int b, .int c] hp R := by
  refine xin (M := am_m259) rfl rfl rfl ?_
  have G : bFr wNC hp hp := bFr.refl _ _
  have q1 := hP.1.1
  have q2 := hP.1.2.1
  refine xald 1 ⟨u259, _, rfl⟩ rfl rfl ?_
  refine xild 2 ⟨u259, _, rfl⟩ rfl rfl ?_
  refine xild 3 ⟨u259, _, rfl⟩ rfl rfl ?_
  refine xcall 6 [.ref 66, .int _, .int _] [] hH ⟨u259, _, rfl⟩ rfl rfl rfl rfl rfl (k_nopair hH hP (fun z3 hp3 hH3 hP3 F3 h3 => ⟨_, rfl, ?_⟩))
  have G3 := G.trans (bFr_sub (W1 := wNC) F3 (by decide))
  have e3 : rN hp3 67 0 = rN hp 67 0 := r_fr F3 rfl
  have t3 : ∀ u v, tT hp3 u v = tT hp u v := fun u v => r_fr F3 rfl
  refine xif_eq 9 ⟨u259, _, rfl⟩ rfl (fun c6 => ?_) (fun c6 => ?_)
  · refine xald 12 ⟨u259, _, rfl⟩ rfl rfl ?_
    refine xcall 15 [.ref 66] [] hH3 ⟨u259, _, rfl⟩ rfl rfl rfl rfl rfl (k_lt hH3 hP3 (fun hp12 hH12 hP12 F12 => ⟨_, rfl, ?_⟩))
    have G12 := G3.trans (bFr_sub (W1 := wNC) F12 (by decide))
    have e12 : rN hp12 67 0 = rN hp3 67 0 := r_fr F12 rfl
    have t12 : ∀ u v, tT hp12 u v = tT hp3 u v := fun u v => r_fr F12 rfl
    refine xald 16 ⟨u259, _, rfl⟩ rfl rfl ?_
    refine xald 17 ⟨u259, _, rfl⟩ rfl rfl ?_
    refine xild 18 ⟨u259, _, rfl⟩ rfl rfl ?_
    refine xild 19 ⟨u259, _, rfl⟩ rfl rfl ?_
    refine xild 20 ⟨u259, _, rfl⟩ rfl rfl ?_
    refine xcall 23 [.ref 66, .int _, .int _, .int _] [.ref 66] hH12 ⟨u259, _, rfl⟩ rfl rfl rfl rfl rfl (k_lcy hH12 hP12 (A := a.toInt.toNat) (B := b.toInt.toNat) (by omega) (by omega) (by omega) (by omega) (fun z20 hp20 hH20 hP20 F20 h20 => ⟨_, rfl, ?_⟩))
    have G20 := G12.trans (bFr_sub (W1 := wNC) F20 (by decide))
    have e20 : rN hp20 67 0 = rN hp12 67 0 := r_fr F20 rfl
    have t20 : ∀ u v, tT hp20 u v = tT hp12 u v := fun u v => r_fr F20 rfl
    refine xif_ne 26 ⟨u259, _, rfl⟩ rfl (fun c23 => ?_) (fun c23 => ?_)
    · refine xcst 31 (0) ⟨u259, _, rfl⟩ rfl (by decide) (fun z30 h30 => ?_)
      refine xcst 32 (3) ⟨u259, _, rfl⟩ rfl (by decide) (fun z31 h31 => ?_)
      refine xcall 35 [.ref 66, .int _, .int _] [] hH20 ⟨u259, _, rfl⟩ rfl rfl rfl rfl rfl (k_fails2 hH20 hP20 (by omega) (fun hp32 hH32 hP32 F32 => ⟨_, rfl, ?_⟩))
      have G32 := G20.trans (bFr_sub (W1 := wNC) F32 (by decide))
      have e32 : rN hp32 67 0 = rN hp20 67 0 := r_fr F32 rfl
      have t32 : ∀ u v, tT hp32 u v = tT hp20 u v := fun u v => r_fr F32 rfl
      exact xretB ⟨u259, _, rfl⟩ rfl (by omega) (hR _ _ hH32 hP32 G32 (Or.inr ⟨h30, by omega, by omega, CyOk_W (W := [(66, 7)]) (by decide) F32 (by
        rcases h20 with g | ⟨-, X, g1, g2, g3, g4, r, g5, g6⟩
        · omega
        · exact ⟨by omega, by omega, by omega, X, by omega, g2, g3, by rw [t20]; exact g4, r, Cyc_e t20 g5, g6⟩)⟩))
    · refine xcst 27 (1) ⟨u259, _, rfl⟩ rfl (by decide) (fun z26 h26 => ?_)
      refine xgoto ⟨u259, _, rfl⟩ ?_
      refine xcst 32 (3) ⟨u259, _, rfl⟩ rfl (by decide) (fun z31 h31 => ?_)
      refine xcall 35 [.ref 66, .int _, .int _] [] hH20 ⟨u259, _, rfl⟩ rfl rfl rfl rfl rfl (k_fails2 hH20 hP20 (by omega) (fun hp32 hH32 hP32 F32 => ⟨_, rfl, ?_⟩))
      have G32 := G20.trans (bFr_sub (W1 := wNC) F32 (by decide))
      have e32 : rN hp32 67 0 = rN hp20 67 0 := r_fr F32 rfl
      have t32 : ∀ u v, tT hp32 u v = tT hp20 u v := fun u v => r_fr F32 rfl
      exact xretB ⟨u259, _, rfl⟩ rfl (by omega) (hR _ _ hH32 hP32 G32 (Or.inl (by omega)))
  · refine xcst 10 (1) ⟨u259, _, rfl⟩ rfl (by decide) (fun z9 h9 => ?_)
    exact xretB ⟨u259, _, rfl⟩ rfl (by omega) (hR _ _ hH3 hP3 G3 (Or.inl (by omega)))
