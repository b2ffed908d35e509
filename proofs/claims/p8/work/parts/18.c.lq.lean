/-! ===== ways by hand: quadrilaterals laid ===== -/
theorem u212 : bUp 0 am_m212.1 = true := by decide +kernel
theorem u216 : bUp 0 am_m216.1 = true := by decide +kernel
theorem u217 : bUp 0 am_m217.1 = true := by decide +kernel
theorem u218 : bUp 0 am_m218.1 = true := by decide +kernel
theorem u219 : bUp 0 am_m219.1 = true := by decide +kernel
theorem u220 : bUp 0 am_m220.1 = true := by decide +kernel
theorem u223 : bUp 0 am_m223.1 = true := by decide +kernel
theorem u224 : bUp 0 am_m224.1 = true := by decide +kernel
theorem u258 : bUp 0 am_m258.1 = true := by decide +kernel
theorem u261 : bUp 0 am_m261.1 = true := by decide +kernel
theorem u292 : bUp 0 am_m292.1 = true := by decide +kernel
theorem u293 : bUp 0 am_m293.1 = true := by decide +kernel
theorem u294 : bUp 0 am_m294.1 = true := by decide +kernel
theorem u295 : bUp 0 am_m295.1 = true := by decide +kernel
theorem l212 {d : Nat} {hp : amH} {R : xQ} {w : Int32} {m : Nat} (hH : bHk 84 bTT hp) (hm : rN hp 66 12 = (m : Int)) (m35 : m ≤ 35) (hR : ∀ z : Int32, (z.toInt = -1 ∨ (0 ≤ z.toInt ∧ z.toInt < (m : Int) ∧ rN hp 75 z.toInt.toNat = w.toInt)) → R (.inl (some (.int z))) hp) :
    ∀ (j : Nat) (k : Int32), k.toInt + (j : Int) = 36 → 0 ≤ k.toInt → xV d am_m212 2 [some (.ref 66), some (.int w), some (.int k)] [] hp R := by
  intro j
  induction j using Nat.strongRecOn with
  | ind j ih =>
    intro k hj k0
    refine xild 3 ⟨u212, _, rfl⟩ rfl rfl ?_
    refine xald 4 ⟨u212, _, rfl⟩ rfl rfl ?_
    refine xgetI 7 hH ⟨u212, _, rfl⟩ rfl rfl (fun z4 h4 => ?_)
    refine xcmp_ge 10 ⟨u212, _, rfl⟩ rfl (fun c7 => ?_) (fun c7 => ?_)
    · refine xcst 29 (-1) ⟨u212, _, rfl⟩ rfl (by decide) (fun z28 h28 => ?_)
      exact xret ⟨u212, _, rfl⟩ rfl (hR _ (Or.inl (by omega)))
    · refine xald 11 ⟨u212, _, rfl⟩ rfl rfl ?_
      refine xgetR 14 75 hH ⟨u212, _, rfl⟩ rfl rfl ?_
      refine xild 15 ⟨u212, _, rfl⟩ rfl rfl ?_
      refine xiald 16 (k).toInt.toNat hH ⟨u212, _, rfl⟩ rfl (by decide) rfl (by omega) (by omega) (fun z15 h15 => ?_)
      refine xild 17 ⟨u212, _, rfl⟩ rfl rfl ?_
      refine xcmp_ne 20 ⟨u212, _, rfl⟩ rfl (fun c17 => ?_) (fun c17 => ?_)
      · refine xinc 25 (1) ⟨u212, _, rfl⟩ rfl rfl rfl (by decide) (by omega) (by omega) (fun z22 h22 => ?_)
        refine xgoto ⟨u212, _, rfl⟩ ?_
        exact ih (j - 1) (by omega) _ (by omega) (by omega)
      · refine xild 21 ⟨u212, _, rfl⟩ rfl rfl ?_
        exact xret ⟨u212, _, rfl⟩ rfl (hR _ (Or.inr ⟨by omega, by omega, by omega⟩))
theorem k_num2 {d : Nat} {hp : amH} {R : xQ} {w : Int32} {m : Nat} (hH : bHk 84 bTT hp) (hm : rN hp 66 12 = (m : Int)) (m35 : m ≤ 35) (hR : ∀ z : Int32, (z.toInt = -1 ∨ (0 ≤ z.toInt ∧ z.toInt < (m : Int) ∧ rN hp 75 z.toInt.toNat = w.toInt)) → R (.inl (some (.int z))) hp) : xK d 212 [.ref 66, .int w] hp R := by
  refine xin (M := am_m212) rfl rfl rfl ?_
  refine xcst 1 (0) ⟨u212, _, rfl⟩ rfl (by decide) (fun z0 h0 => ?_)
  refine xist 2 ⟨u212, _, rfl⟩ rfl rfl ?_
  exact l212 hH hm m35 hR 36 _ (by omega) (by omega)
def wQd : List (Nat × Nat) := [(66, 14), (76, 999)]
/-- quadrilaterals listed: four triples each -/
def QLn (hp : amH) (m : Nat) (A : Nat → Nat × Nat × Nat) (n : Nat) : Prop := ∀ q, q < n → ∃ i j k l : Nat, i < j ∧ j < k ∧ k < l ∧ l < m ∧ rN hp 76 (4 * q) = (i : Int) ∧ rN hp 76 (4 * q + 1) = (j : Int) ∧ rN hp 76 (4 * q + 2) = (k : Int) ∧ rN hp 76 (4 * q + 3) = (l : Int) ∧ mk A i ^^^ mk A j ^^^ mk A k = mk A l
def QL (hp : amH) (m : Nat) (A : Nat → Nat × Nat × Nat) : Prop := ∃ n : Nat, rN hp 66 14 = (n : Int) ∧ QLn hp m A n
theorem QL_W {W : List (Nat × Nat)} (hW : bDj W wQd = true) {hp hp1 : amH} (hF : bFr W hp hp1) {m : Nat} {A : Nat → Nat × Nat × Nat} (h : QL hp m A) : QL hp1 m A := by
  have e : ∀ c i, bIn wQd c i = true → rN hp1 c i = rN hp c i := fun c i hc => r_fr hF (bDj_s hW c i hc)
  obtain ⟨n, h1, h2⟩ := h
  refine ⟨n, (e 66 14 (by decide)).trans h1, fun q hq => ?_⟩
  obtain ⟨i, j, k, l, g1, g2, g3, g4, g5, g6, g7, g8, g9⟩ := h2 q hq
  exact ⟨i, j, k, l, g1, g2, g3, g4, (e 76 _ (bIn_all (by decide) _)).trans g5, (e 76 _ (bIn_all (by decide) _)).trans g6, (e 76 _ (bIn_all (by decide) _)).trans g7, (e 76 _ (bIn_all (by decide) _)).trans g8, g9⟩
theorem QL_add {hp hp1 : amH} {m n : Nat} {A : Nat → Nat × Nat × Nat} (h : QLn hp m A n) (hn : rN hp 66 14 = (n : Int)) (hn2 : n ≤ 200) (hn1 : rN hp1 66 14 = ((n + 1 : Nat) : Int)) (he : ∀ x, x < 4 * n → rN hp1 76 x = rN hp 76 x)
    (hq : ∃ i j k l : Nat, i < j ∧ j < k ∧ k < l ∧ l < m ∧ rN hp1 76 (4 * n) = (i : Int) ∧ rN hp1 76 (4 * n + 1) = (j : Int) ∧ rN hp1 76 (4 * n + 2) = (k : Int) ∧ rN hp1 76 (4 * n + 3) = (l : Int) ∧ mk A i ^^^ mk A j ^^^ mk A k = mk A l) : QL hp1 m A := by
  refine ⟨n + 1, hn1, fun q hq2 => ?_⟩
  by_cases e : q = n
  · subst e
    exact hq
  · obtain ⟨i, j, k, l, g1, g2, g3, g4, g5, g6, g7, g8, g9⟩ := h q (by omega)
    exact ⟨i, j, k, l, g1, g2, g3, g4, (he _ (by omega)).trans g5, (he _ (by omega)).trans g6, (he _ (by omega)).trans g7, (he _ (by omega)).trans g8, g9⟩
theorem k_addq {d : Nat} {hp : amH} {R : xQ} {i j k l : Int32} {m : Nat} {A : Nat → Nat × Nat × Nat} (hH : bHk 84 bTT hp) (hP : P0 hp) (m35 : m ≤ 35) (hQ0 : QL hp m A) {i1 j1 k1 l1 : Nat} (ei : i.toInt = (i1 : Int)) (ej : j.toInt = (j1 : Int)) (ek : k.toInt = (k1 : Int)) (el : l.toInt = (l1 : Int)) (g1 : i1 < j1) (g2 : j1 < k1) (g3 : k1 < l1) (g4 : l1 < m) (g5 : mk A i1 ^^^ mk A j1 ^^^ mk A k1 = mk A l1)
    (hR : ∀ hp1, bHk 84 bTT hp1 → P0 hp1 → bFr wQd hp hp1 → QL hp1 m A → R (.inl none) hp1) : xK d 217 [.ref 66, .int i, .int j, .int k, .int l] hp R := by
  obtain ⟨n, hn, hQ⟩ := hQ0
  have hb := rb_fld hH (f := 14) (lo := 2147483648) (hi := 2147483848) rfl
  refine xin (M := am_m217) rfl rfl rfl ?_
  refine xald 1 ⟨u217, _, rfl⟩ rfl rfl ?_
  refine xgetI 4 hH ⟨u217, _, rfl⟩ rfl rfl (fun z1 h1 => ?_)
  refine xsip 7 (200) ⟨u217, _, rfl⟩ rfl (by decide) (fun z4 h4 => ?_)
  refine xcmp_ne 10 ⟨u217, _, rfl⟩ rfl (fun c7 => ?_) (fun c7 => ?_)
  · refine xald 12 ⟨u217, _, rfl⟩ rfl rfl ?_
    refine xgetR 15 76 hH ⟨u217, _, rfl⟩ rfl rfl ?_
    refine xcst 16 (4) ⟨u217, _, rfl⟩ rfl (by decide) (fun z15 h15 => ?_)
    refine xald 17 ⟨u217, _, rfl⟩ rfl rfl ?_
    refine xgetI 20 hH ⟨u217, _, rfl⟩ rfl rfl (fun z17 h17 => ?_)
    refine xmul 21 (4 * Int32.toInt z17) ⟨u217, _, rfl⟩ rfl (by rw [h15]) (by omega) (by omega) (fun z20 h20 => ?_)
    refine xild 22 ⟨u217, _, rfl⟩ rfl rfl ?_
    refine xiast 23 (4 * n) hH ⟨u217, _, rfl⟩ rfl (by decide) rfl (by omega) (by omega) (by omega) (by omega) (fun hp22 hH22 U22 => ?_)
    have q22 : rN hp22 66 14 = (n : Int) := (rU_ne U22 (by omega)).trans hn
    refine xald 24 ⟨u217, _, rfl⟩ rfl rfl ?_
    refine xgetR 27 76 hH22 ⟨u217, _, rfl⟩ rfl rfl ?_
    refine xcst 28 (4) ⟨u217, _, rfl⟩ rfl (by decide) (fun z27 h27 => ?_)
    refine xald 29 ⟨u217, _, rfl⟩ rfl rfl ?_
    refine xgetI 32 hH22 ⟨u217, _, rfl⟩ rfl rfl (fun z29 h29 => ?_)
    refine xmul 33 (4 * Int32.toInt z29) ⟨u217, _, rfl⟩ rfl (by rw [h27]) (by omega) (by omega) (fun z32 h32 => ?_)
    refine xcst 34 (1) ⟨u217, _, rfl⟩ rfl (by decide) (fun z33 h33 => ?_)
    refine xadd 35 _ ⟨u217, _, rfl⟩ rfl rfl (by omega) (by omega) (fun z34 h34 => ?_)
    refine xild 36 ⟨u217, _, rfl⟩ rfl rfl ?_
    refine xiast 37 (4 * n + 1) hH22 ⟨u217, _, rfl⟩ rfl (by decide) rfl (by omega) (by omega) (by omega) (by omega) (fun hp36 hH36 U36 => ?_)
    have q36 : rN hp36 66 14 = (n : Int) := (rU_ne U36 (by omega)).trans q22
    refine xald 38 ⟨u217, _, rfl⟩ rfl rfl ?_
    refine xgetR 41 76 hH36 ⟨u217, _, rfl⟩ rfl rfl ?_
    refine xcst 42 (4) ⟨u217, _, rfl⟩ rfl (by decide) (fun z41 h41 => ?_)
    refine xald 43 ⟨u217, _, rfl⟩ rfl rfl ?_
    refine xgetI 46 hH36 ⟨u217, _, rfl⟩ rfl rfl (fun z43 h43 => ?_)
    refine xmul 47 (4 * Int32.toInt z43) ⟨u217, _, rfl⟩ rfl (by rw [h41]) (by omega) (by omega) (fun z46 h46 => ?_)
    refine xcst 48 (2) ⟨u217, _, rfl⟩ rfl (by decide) (fun z47 h47 => ?_)
    refine xadd 49 _ ⟨u217, _, rfl⟩ rfl rfl (by omega) (by omega) (fun z48 h48 => ?_)
    refine xild 50 ⟨u217, _, rfl⟩ rfl rfl ?_
    refine xiast 51 (4 * n + 2) hH36 ⟨u217, _, rfl⟩ rfl (by decide) rfl (by omega) (by omega) (by omega) (by omega) (fun hp50 hH50 U50 => ?_)
    have q50 : rN hp50 66 14 = (n : Int) := (rU_ne U50 (by omega)).trans q36
    refine xald 52 ⟨u217, _, rfl⟩ rfl rfl ?_
    refine xgetR 55 76 hH50 ⟨u217, _, rfl⟩ rfl rfl ?_
    refine xcst 56 (4) ⟨u217, _, rfl⟩ rfl (by decide) (fun z55 h55 => ?_)
    refine xald 57 ⟨u217, _, rfl⟩ rfl rfl ?_
    refine xgetI 60 hH50 ⟨u217, _, rfl⟩ rfl rfl (fun z57 h57 => ?_)
    refine xmul 61 (4 * Int32.toInt z57) ⟨u217, _, rfl⟩ rfl (by rw [h55]) (by omega) (by omega) (fun z60 h60 => ?_)
    refine xcst 62 (3) ⟨u217, _, rfl⟩ rfl (by decide) (fun z61 h61 => ?_)
    refine xadd 63 _ ⟨u217, _, rfl⟩ rfl rfl (by omega) (by omega) (fun z62 h62 => ?_)
    refine xild2 65 ⟨u217, _, rfl⟩ rfl rfl ?_
    refine xiast 66 (4 * n + 3) hH50 ⟨u217, _, rfl⟩ rfl (by decide) rfl (by omega) (by omega) (by omega) (by omega) (fun hp65 hH65 U65 => ?_)
    have q65 : rN hp65 66 14 = (n : Int) := (rU_ne U65 (by omega)).trans q50
    refine xald 67 ⟨u217, _, rfl⟩ rfl rfl ?_
    refine xdup 68 ⟨u217, _, rfl⟩ rfl rfl ?_
    refine xgetI 71 hH65 ⟨u217, _, rfl⟩ rfl rfl (fun z68 h68 => ?_)
    refine xcst 72 (1) ⟨u217, _, rfl⟩ rfl (by decide) (fun z71 h71 => ?_)
    refine xadd 73 _ ⟨u217, _, rfl⟩ rfl rfl (by omega) (by omega) (fun z72 h72 => ?_)
    refine xputI 76 hH65 ⟨u217, _, rfl⟩ rfl rfl ⟨rfl, rfl⟩ (by omega) (by omega) (fun hp73 hH73 U73 => ?_)
    have F : bFr wQd hp hp73 := (rU_fr U22 (bIn_all (by decide) _)).trans ((rU_fr U36 (bIn_all (by decide) _)).trans ((rU_fr U50 (bIn_all (by decide) _)).trans ((rU_fr U65 (bIn_all (by decide) _)).trans (rU_fr U73 (by decide)))))
    have e : ∀ x, ¬ x = 4 * n → ¬ x = 4 * n + 1 → ¬ x = 4 * n + 2 → ¬ x = 4 * n + 3 → rN hp73 76 x = rN hp 76 x := fun x a1 a2 a3 a4 => by
      rw [rU_ne U73 (by omega), rU_ne U65 (by omega), rU_ne U50 (by omega), rU_ne U36 (by omega), rU_ne U22 (by omega)]
    refine xretV ⟨u217, _, rfl⟩ rfl (hR _ hH73 (P0_W (by decide) F hP) F ?_)
    refine QL_add hQ hn ?_ (by rw [U73.1]; omega) (fun x hx => e x (by omega) (by omega) (by omega) (by omega)) ⟨i1, j1, k1, l1, g1, g2, g3, g4, ?_, ?_, ?_, ?_, g5⟩
    · have := rb_fld hH (f := 14) (lo := 2147483648) (hi := 2147483848) rfl
      omega
    · rw [rU_ne U73 (by omega), rU_ne U65 (by omega), rU_ne U50 (by omega), rU_ne U36 (by omega), U22.1, ei]
    · rw [rU_ne U73 (by omega), rU_ne U65 (by omega), rU_ne U50 (by omega), U36.1, ej]
    · rw [rU_ne U73 (by omega), rU_ne U65 (by omega), U50.1, ek]
    · rw [rU_ne U73 (by omega), U65.1, el]
  · exact xretV ⟨u217, _, rfl⟩ rfl (hR hp hH hP (bFr.refl _ _) ⟨n, hn, hQ⟩)
