/-! ===== the class's tokens: numbers; one token ===== -/
section XW
variable {M : amM} {pc a b d : Nat} {L : List (Option Value)} {st : List Value} {hp : amH} {Q : xQ}
theorem xaddE (q : Nat) {x y : Int32} (h : xI M pc .iadd a b) (e : q = pc + 1) (hw : ∀ z : Int32, z = x + y → xV d M q L (.int z :: st) hp Q) : xV d M pc L (.int y :: .int x :: st) hp Q := by
  refine xstep h (fun cl hl => ⟨cl, ?_, hl⟩) (hw (x + y) rfl)
  subst e
  simp [amDo, amStep, amII]
theorem xmulE (q : Nat) {x y : Int32} (h : xI M pc .imul a b) (e : q = pc + 1) (hw : ∀ z : Int32, z = x * y → xV d M q L (.int z :: st) hp Q) : xV d M pc L (.int y :: .int x :: st) hp Q := by
  refine xstep h (fun cl hl => ⟨cl, ?_, hl⟩) (hw (x * y) rfl)
  subst e
  simp [amDo, amStep, amII]
end XW
theorem n_w {x t c f : Int32} (ht : t.toInt = 10) (hf : f.toInt = 48) (x1 : -1000 ≤ x.toInt) (x2 : x.toInt ≤ 1000) (c1 : -1 ≤ c.toInt) (c2 : c.toInt ≤ 255) : (x * t + c - f).toInt = 10 * x.toInt + c.toInt - 48 := by
  have e1 : (x * t).toInt = 10 * x.toInt := by rw [Int32.toInt_mul, ht, aBmod (by omega) (by omega)]; omega
  have e2 : (x * t + c).toInt = 10 * x.toInt + c.toInt := by rw [Int32.toInt_add, e1, aBmod (by omega) (by omega)]
  rw [Int32.toInt_sub, e2, hf, aBmod (by omega) (by omega)]
/-- what the number's value is on the way -/
def nV (y : tY) (s q : Nat) (v : Int) : Prop := (q = s → v = 0) ∧ (q = s + 1 → v = y s - 48) ∧ (q = s + 2 → v = 10 * (y s - 48) + (y (s + 1) - 48))
theorem nV_step {y : tY} {s q : Nat} {v v1 : Int} (hall : ∀ k, s ≤ k → k < q → tDg y k = true) (hd : tDg y q = true) (hv : nV y s q v) (hsq : s ≤ q) (h : -1000 ≤ v → v ≤ 1000 → v1 = 10 * v + y q - 48) : nV y s (q + 1) v1 := by
  have hd2 := of_decide_eq_true hd
  refine ⟨fun e => by omega, fun e => ?_, fun e => ?_⟩
  · have e : q = s := by omega
    subst e
    have := hv.1 rfl
    have := h (by omega) (by omega)
    omega
  · have e : q = s + 1 := by omega
    subst e
    have := hv.2.1 rfl
    have g := of_decide_eq_true (hall s (Nat.le_refl _) (by omega))
    have := h (by omega) (by omega)
    omega
theorem l83 {d : Nat} {hp0 : amH} {R : xQ} {y : tY} {s e : Nat} (hok : tOk (rN hp0 1 0).toNat y) (he : tR (tDg y) 601 s = e)
    (hR : ∀ hp1, bHk 84 bTT hp1 → bFr wCt hp0 hp1 → rN hp1 1 4 = (e : Int) → rN hp1 1 5 = (if e ≤ s + 2 then 2 else 4) → rN hp1 1 6 = (s : Int) → nV y s e (rN hp1 1 7) → R (.inl none) hp1) :
    ∀ (jj q : Nat) (hp : amH), bHk 84 bTT hp → bFr wCt hp0 hp → cB hp = y → rN hp 1 4 = (q : Int) → rN hp 1 6 = (s : Int) → s ≤ q → (∀ k, s ≤ k → k < q → tDg y k = true) → nV y s q (rN hp 1 7) → (q : Int) + (jj : Int) = rN hp0 1 0 → xV (d + 1) am_m83 5 [some (.ref 1)] [] hp R := by
  intro jj
  induction jj using Nat.strongRecOn with
  | ind jj ih =>
    intro q hp hH hF Y h4 h6 hsq hall hv hj
    have b0 := b1_0 hH
    have n0 : rN hp 1 0 = rN hp0 1 0 := r_fr hF rfl
    have fin : tDg y q = false → xV (d + 1) am_m83 66 [some (.ref 1)] [] hp R := fun g => by
      have eq : e = q := by rw [← he]; exact tR_eq 601 s q hsq (by omega) hall (fun _ => g)
      subst eq
      refine xald 67 ⟨u83, _, rfl⟩ rfl rfl ?_
      refine xald 68 ⟨u83, _, rfl⟩ rfl rfl ?_
      refine xgetC 71 hH ⟨u83, _, rfl⟩ rfl (by decide) (by decide) rfl rfl (by decide) (fun z68 h68 => ?_)
      refine xald 72 ⟨u83, _, rfl⟩ rfl rfl ?_
      refine xgetC 75 hH ⟨u83, _, rfl⟩ rfl (by decide) (by decide) rfl rfl (by decide) (fun z72 h72 => ?_)
      refine xsub 76 _ ⟨u83, _, rfl⟩ rfl rfl (by omega) (by omega) (fun z75 h75 => ?_)
      refine xcst 77 (2) ⟨u83, _, rfl⟩ rfl (by decide) (fun z76 h76 => ?_)
      refine xcmp_gt 80 ⟨u83, _, rfl⟩ rfl (fun c77 => ?_) (fun c77 => ?_)
      · refine xcst 85 (4) ⟨u83, _, rfl⟩ rfl (by decide) (fun z84 h84 => ?_)
        refine xputC 88 hH ⟨u83, _, rfl⟩ rfl (by decide) (by decide) rfl rfl (by decide) ⟨rfl, rfl⟩ (by omega) (by omega) (fun hp85 hH85 U85 => ?_)
        have s85 := U85.1
        have n85_1_0 : rN hp85 (1) 0 = rN hp (1) 0 := rU_ne U85 (by omega)
        have n85_1_4 : rN hp85 (1) 4 = rN hp (1) 4 := rU_ne U85 (by omega)
        have n85_1_6 : rN hp85 (1) 6 = rN hp (1) 6 := rU_ne U85 (by omega)
        have n85_1_7 : rN hp85 (1) 7 = rN hp (1) 7 := rU_ne U85 (by omega)
        exact xretV ⟨u83, _, rfl⟩ rfl (hR hp85 hH85 (hF.trans (rU_fr U85 (by decide))) (by omega) (by rw [s85]; rw [if_neg (by omega)]; exact h84) (by omega) (by rw [n85_1_7]; exact hv))
      · refine xcst 81 (2) ⟨u83, _, rfl⟩ rfl (by decide) (fun z80 h80 => ?_)
        refine xgoto ⟨u83, _, rfl⟩ ?_
        refine xputC 88 hH ⟨u83, _, rfl⟩ rfl (by decide) (by decide) rfl rfl (by decide) ⟨rfl, rfl⟩ (by omega) (by omega) (fun hp85 hH85 U85 => ?_)
        have s85 := U85.1
        have n85_1_0 : rN hp85 (1) 0 = rN hp (1) 0 := rU_ne U85 (by omega)
        have n85_1_4 : rN hp85 (1) 4 = rN hp (1) 4 := rU_ne U85 (by omega)
        have n85_1_6 : rN hp85 (1) 6 = rN hp (1) 6 := rU_ne U85 (by omega)
        have n85_1_7 : rN hp85 (1) 7 = rN hp (1) 7 := rU_ne U85 (by omega)
        exact xretV ⟨u83, _, rfl⟩ rfl (hR hp85 hH85 (hF.trans (rU_fr U85 (by decide))) (by omega) (by rw [s85]; rw [if_pos (by omega)]; exact h80) (by omega) (by rw [n85_1_7]; exact hv))
    refine xald 6 ⟨u83, _, rfl⟩ rfl rfl ?_
    refine xgetC 9 hH ⟨u83, _, rfl⟩ rfl (by decide) (by decide) rfl rfl (by decide) (fun z6 h6 => ?_)
    refine xald 10 ⟨u83, _, rfl⟩ rfl rfl ?_
    refine xgetC 13 hH ⟨u83, _, rfl⟩ rfl (by decide) (by decide) rfl rfl (by decide) (fun z10 h10 => ?_)
    refine xcmp_ge 16 ⟨u83, _, rfl⟩ rfl (fun c13 => ?_) (fun c13 => ?_)
    · exact fin (by cases e9 : tDg y q; rfl; have := tDg_n hok q e9; omega)
    · refine xald 17 ⟨u83, _, rfl⟩ rfl rfl ?_
      refine xald 18 ⟨u83, _, rfl⟩ rfl rfl ?_
      refine xgetC 21 hH ⟨u83, _, rfl⟩ rfl (by decide) (by decide) rfl rfl (by decide) (fun z18 h18 => ?_)
      refine xcallC 24 (o := 1) [.int _] [] hH ⟨u83, _, rfl⟩ rfl rfl (by decide) rfl (by decide) rfl ⟨rfl, rfl, rfl, rfl⟩ rfl (k_cB hH Y (q := q) (by omega) (fun z21 h21 => ⟨_, rfl, ?_⟩))
      refine xcallS 27 [.int _] [] hH ⟨u83, _, rfl⟩ rfl rfl rfl rfl rfl (k_dig (y := y) (q := q) (by omega) (fun z24 h24 => ⟨_, rfl, ?_⟩))
      refine xif_eq 30 ⟨u83, _, rfl⟩ rfl (fun c27 => ?_) (fun c27 => ?_)
      · exact fin (by rcases h24 with z | z; omega; exact z.2)
      · refine xald 31 ⟨u83, _, rfl⟩ rfl rfl ?_
        refine xald 32 ⟨u83, _, rfl⟩ rfl rfl ?_
        refine xgetC 35 hH ⟨u83, _, rfl⟩ rfl (by decide) (by decide) rfl rfl (by decide) (fun z32 h32 => ?_)
        refine xbip 37 (10) ⟨u83, _, rfl⟩ rfl (by decide) (fun z35 h35 => ?_)
        refine xmulE 38 ⟨u83, _, rfl⟩ rfl (fun z37 h37 => ?_)
        refine xald 39 ⟨u83, _, rfl⟩ rfl rfl ?_
        refine xald 40 ⟨u83, _, rfl⟩ rfl rfl ?_
        refine xgetC 43 hH ⟨u83, _, rfl⟩ rfl (by decide) (by decide) rfl rfl (by decide) (fun z40 h40 => ?_)
        refine xcallC 46 (o := 1) [.int _] [.int _, .ref 1] hH ⟨u83, _, rfl⟩ rfl rfl (by decide) rfl (by decide) rfl ⟨rfl, rfl, rfl, rfl⟩ rfl (k_cB hH Y (q := q) (by omega) (fun z43 h43 => ⟨_, rfl, ?_⟩))
        refine xaddE 47 ⟨u83, _, rfl⟩ rfl (fun z46 h46 => ?_)
        refine xbip 49 (48) ⟨u83, _, rfl⟩ rfl (by decide) (fun z47 h47 => ?_)
        refine xsubw 50 ⟨u83, _, rfl⟩ rfl (fun z49 h49 => ?_)
        have bmn := aMin z49
        have bmx := aMax z49
        refine xputC 53 hH ⟨u83, _, rfl⟩ rfl (by decide) (by decide) rfl rfl (by decide) ⟨rfl, rfl⟩ (by omega) (by omega) (fun hp50 hH50 U50 => ?_)
        have s50 := U50.1
        have n50_1_0 : rN hp50 (1) 0 = rN hp (1) 0 := rU_ne U50 (by omega)
        have n50_1_4 : rN hp50 (1) 4 = rN hp (1) 4 := rU_ne U50 (by omega)
        have n50_1_5 : rN hp50 (1) 5 = rN hp (1) 5 := rU_ne U50 (by omega)
        have n50_1_6 : rN hp50 (1) 6 = rN hp (1) 6 := rU_ne U50 (by omega)
        refine xald 54 ⟨u83, _, rfl⟩ rfl rfl ?_
        refine xdup 55 ⟨u83, _, rfl⟩ rfl rfl ?_
        refine xgetC 58 hH50 ⟨u83, _, rfl⟩ rfl (by decide) (by decide) rfl rfl (by decide) (fun z55 h55 => ?_)
        refine xcst 59 (1) ⟨u83, _, rfl⟩ rfl (by decide) (fun z58 h58 => ?_)
        refine xadd 60 _ ⟨u83, _, rfl⟩ rfl rfl (by omega) (by omega) (fun z59 h59 => ?_)
        refine xputC 63 hH50 ⟨u83, _, rfl⟩ rfl (by decide) (by decide) rfl rfl (by decide) ⟨rfl, rfl⟩ (by omega) (by omega) (fun hp60 hH60 U60 => ?_)
        have s60 := U60.1
        have n60_1_0 : rN hp60 (1) 0 = rN hp50 (1) 0 := rU_ne U60 (by omega)
        have n60_1_5 : rN hp60 (1) 5 = rN hp50 (1) 5 := rU_ne U60 (by omega)
        have n60_1_6 : rN hp60 (1) 6 = rN hp50 (1) 6 := rU_ne U60 (by omega)
        have n60_1_7 : rN hp60 (1) 7 = rN hp50 (1) 7 := rU_ne U60 (by omega)
        refine xgoto ⟨u83, _, rfl⟩ ?_
        have hd : tDg y q = true := by rcases h24 with z | z; exact z.2; omega
        have hd2 := of_decide_eq_true hd
        exact ih (jj - 1) (by omega) (q + 1) hp60 hH60 ((hF.trans (rU_fr U50 (by decide))).trans (rU_fr U60 (by decide))) ((cB_U U60 (by decide)).trans ((cB_U U50 (by decide)).trans Y)) (by omega) (by omega) (by omega) (fun k k1 k2 => by rcases Nat.lt_or_ge k q with g | g; exact hall k k1 g; rw [show k = q by omega]; exact hd) (nV_step hall hd hv hsq (fun g1 g2 => by rw [n60_1_7, s50, h49, h46, h37, n_w h35 h47 (by omega) (by omega) (by omega) (by omega), h43, h32])) (by omega)
theorem k_rn {d : Nat} {hp : amH} {R : xQ} {y : tY} {s : Nat} (hH : bHk 84 bTT hp) (Y : cB hp = y) (hok : tOk (rN hp 1 0).toNat y) (h4 : rN hp 1 4 = (s : Int)) (h6 : rN hp 1 6 = (s : Int)) (hs : (s : Int) ≤ rN hp 1 0)
    (hR : ∀ hp1, bHk 84 bTT hp1 → bFr wCt hp hp1 → rN hp1 1 4 = ((tR (tDg y) 601 s : Nat) : Int) → rN hp1 1 5 = (if tR (tDg y) 601 s ≤ s + 2 then 2 else 4) → rN hp1 1 6 = (s : Int) → nV y s (tR (tDg y) 601 s) (rN hp1 1 7) → R (.inl none) hp1) : xK (d + 1) 83 [.ref 1] hp R := by
  refine xin (M := am_m83) rfl rfl rfl ?_
  refine xald 1 ⟨u83, _, rfl⟩ rfl rfl ?_
  refine xcst 2 (0) ⟨u83, _, rfl⟩ rfl (by decide) (fun z1 h1 => ?_)
  refine xputC 5 hH ⟨u83, _, rfl⟩ rfl (by decide) (by decide) rfl rfl (by decide) ⟨rfl, rfl⟩ (by omega) (by omega) (fun hp2 hH2 U2 => ?_)
  have s2 := U2.1
  have n2_1_0 : rN hp2 (1) 0 = rN hp (1) 0 := rU_ne U2 (by omega)
  have n2_1_4 : rN hp2 (1) 4 = rN hp (1) 4 := rU_ne U2 (by omega)
  have n2_1_5 : rN hp2 (1) 5 = rN hp (1) 5 := rU_ne U2 (by omega)
  have n2_1_6 : rN hp2 (1) 6 = rN hp (1) 6 := rU_ne U2 (by omega)
  exact l83 hok rfl hR (rN hp 1 0 - s).toNat s hp2 hH2 (rU_fr U2 (by decide)) ((cB_U U2 (by decide)).trans Y) (by omega) (by omega) (Nat.le_refl _) (fun k k1 k2 => by omega) ⟨fun _ => by omega, fun e => by omega, fun e => by omega⟩ (by omega)
/-- the class's token at s -/
def ckK (y : tY) (s : Nat) : Int := if tK y s = 2 ∧ ¬ tE y s ≤ s + 2 then 4 else tK y s
def cT (hp : amH) (y : tY) (s : Nat) : Prop := rN hp 1 6 = (s : Int) ∧ rN hp 1 4 = ((tE y s : Nat) : Int) ∧ rN hp 1 5 = ckK y s ∧ (tK y s = 2 → tE y s ≤ s + 2 → rN hp 1 7 = tV y s)
theorem l81 {d : Nat} {hp0 : amH} {R : xQ} {y : tY} {p s : Nat} (hok : tOk (rN hp0 1 0).toNat y) (he : tS y p = s) (hQ : ∀ hp, bHk 84 bTT hp → bFr wCt hp0 hp → cB hp = y → rN hp 1 4 = (s : Int) → (s : Int) ≤ rN hp 1 0 → xV (d + 2) am_m81 50 [some (.ref 1)] [] hp R) :
    ∀ (jj q : Nat) (hp : amH), bHk 84 bTT hp → bFr wCt hp0 hp → cB hp = y → rN hp 1 4 = (q : Int) → p ≤ q → (∀ k, p ≤ k → k < q → tSp y k = true) → (q : Int) + (jj : Int) = rN hp0 1 0 → xV (d + 2) am_m81 0 [some (.ref 1)] [] hp R := by
  intro jj
  induction jj using Nat.strongRecOn with
  | ind jj ih =>
    intro q hp hH hF Y h4 hsq hall hj
    have b0 := b1_0 hH
    have n0 : rN hp 1 0 = rN hp0 1 0 := r_fr hF rfl
    have fin : tSp y q = false → xV (d + 2) am_m81 50 [some (.ref 1)] [] hp R := fun g => by
      have eq : s = q := by rw [← he]; exact tR_eq 601 p q hsq (by omega) hall (fun _ => g)
      subst eq
      exact hQ hp hH hF Y h4 (by omega)
    refine xald 1 ⟨u81, _, rfl⟩ rfl rfl ?_
    refine xgetC 4 hH ⟨u81, _, rfl⟩ rfl (by decide) (by decide) rfl rfl (by decide) (fun z1 h1 => ?_)
    refine xald 5 ⟨u81, _, rfl⟩ rfl rfl ?_
    refine xgetC 8 hH ⟨u81, _, rfl⟩ rfl (by decide) (by decide) rfl rfl (by decide) (fun z5 h5 => ?_)
    refine xcmp_ge 11 ⟨u81, _, rfl⟩ rfl (fun c8 => ?_) (fun c8 => ?_)
    · exact fin (by cases e9 : tSp y q; rfl; have := tSp_n hok q e9; omega)
    · refine xald 12 ⟨u81, _, rfl⟩ rfl rfl ?_
      refine xald 13 ⟨u81, _, rfl⟩ rfl rfl ?_
      refine xgetC 16 hH ⟨u81, _, rfl⟩ rfl (by decide) (by decide) rfl rfl (by decide) (fun z13 h13 => ?_)
      refine xcallC 19 (o := 1) [.int _] [] hH ⟨u81, _, rfl⟩ rfl rfl (by decide) rfl (by decide) rfl ⟨rfl, rfl, rfl, rfl⟩ rfl (k_cB hH Y (q := q) (by omega) (fun z16 h16 => ⟨_, rfl, ?_⟩))
      refine xbip 21 (32) ⟨u81, _, rfl⟩ rfl (by decide) (fun z19 h19 => ?_)
      refine xcmp_eq 24 ⟨u81, _, rfl⟩ rfl (fun c21 => ?_) (fun c21 => ?_)
      · refine xald 38 ⟨u81, _, rfl⟩ rfl rfl ?_
        refine xdup 39 ⟨u81, _, rfl⟩ rfl rfl ?_
        refine xgetC 42 hH ⟨u81, _, rfl⟩ rfl (by decide) (by decide) rfl rfl (by decide) (fun z39 h39 => ?_)
        refine xcst 43 (1) ⟨u81, _, rfl⟩ rfl (by decide) (fun z42 h42 => ?_)
        refine xadd 44 _ ⟨u81, _, rfl⟩ rfl rfl (by omega) (by omega) (fun z43 h43 => ?_)
        refine xputC 47 hH ⟨u81, _, rfl⟩ rfl (by decide) (by decide) rfl rfl (by decide) ⟨rfl, rfl⟩ (by omega) (by omega) (fun hp44 hH44 U44 => ?_)
        have s44 := U44.1
        have n44_1_0 : rN hp44 (1) 0 = rN hp (1) 0 := rU_ne U44 (by omega)
        have n44_1_5 : rN hp44 (1) 5 = rN hp (1) 5 := rU_ne U44 (by omega)
        have n44_1_6 : rN hp44 (1) 6 = rN hp (1) 6 := rU_ne U44 (by omega)
        have n44_1_7 : rN hp44 (1) 7 = rN hp (1) 7 := rU_ne U44 (by omega)
        refine xgoto ⟨u81, _, rfl⟩ ?_
        exact ih (jj - 1) (by omega) (q + 1) hp44 hH44 (hF.trans (rU_fr U44 (by decide))) ((cB_U U44 (by decide)).trans Y) (by omega) (by omega) (fun k k1 k2 => by rcases Nat.lt_or_ge k q with g | g; exact hall k k1 g; rw [show k = q by omega]; exact decide_eq_true (by omega)) (by omega)
      · refine xald 25 ⟨u81, _, rfl⟩ rfl rfl ?_
        refine xald 26 ⟨u81, _, rfl⟩ rfl rfl ?_
        refine xgetC 29 hH ⟨u81, _, rfl⟩ rfl (by decide) (by decide) rfl rfl (by decide) (fun z26 h26 => ?_)
        refine xcallC 32 (o := 1) [.int _] [] hH ⟨u81, _, rfl⟩ rfl rfl (by decide) rfl (by decide) rfl ⟨rfl, rfl, rfl, rfl⟩ rfl (k_cB hH Y (q := q) (by omega) (fun z29 h29 => ⟨_, rfl, ?_⟩))
        refine xbip 34 (10) ⟨u81, _, rfl⟩ rfl (by decide) (fun z32 h32 => ?_)
        refine xcmp_ne 37 ⟨u81, _, rfl⟩ rfl (fun c34 => ?_) (fun c34 => ?_)
        · exact fin (decide_eq_false (by omega))
        · refine xald 38 ⟨u81, _, rfl⟩ rfl rfl ?_
          refine xdup 39 ⟨u81, _, rfl⟩ rfl rfl ?_
          refine xgetC 42 hH ⟨u81, _, rfl⟩ rfl (by decide) (by decide) rfl rfl (by decide) (fun z39 h39 => ?_)
          refine xcst 43 (1) ⟨u81, _, rfl⟩ rfl (by decide) (fun z42 h42 => ?_)
          refine xadd 44 _ ⟨u81, _, rfl⟩ rfl rfl (by omega) (by omega) (fun z43 h43 => ?_)
          refine xputC 47 hH ⟨u81, _, rfl⟩ rfl (by decide) (by decide) rfl rfl (by decide) ⟨rfl, rfl⟩ (by omega) (by omega) (fun hp44 hH44 U44 => ?_)
          have s44 := U44.1
          have n44_1_0 : rN hp44 (1) 0 = rN hp (1) 0 := rU_ne U44 (by omega)
          have n44_1_5 : rN hp44 (1) 5 = rN hp (1) 5 := rU_ne U44 (by omega)
          have n44_1_6 : rN hp44 (1) 6 = rN hp (1) 6 := rU_ne U44 (by omega)
          have n44_1_7 : rN hp44 (1) 7 = rN hp (1) 7 := rU_ne U44 (by omega)
          refine xgoto ⟨u81, _, rfl⟩ ?_
          exact ih (jj - 1) (by omega) (q + 1) hp44 hH44 (hF.trans (rU_fr U44 (by decide))) ((cB_U U44 (by decide)).trans Y) (by omega) (by omega) (fun k k1 k2 => by rcases Nat.lt_or_ge k q with g | g; exact hall k k1 g; rw [show k = q by omega]; exact decide_eq_true (by omega)) (by omega)
theorem cT_0 {hp : amH} {y : tY} {s : Nat} (h1 : y s = -1) (h2 : rN hp 1 6 = (s : Int)) (h3 : rN hp 1 4 = (s : Int)) (h4 : rN hp 1 5 = 0) : cT hp y s := by
  have k : tK y s = 0 := tK_0.mpr h1
  have e : tE y s = s := by unfold tE; rw [if_pos h1]
  refine ⟨h2, by rw [e]; exact h3, ?_, fun z => by omega⟩
  unfold ckK
  rw [if_neg (by omega), k]
  exact h4
theorem cT_1 {hp : amH} {y : tY} {s : Nat} (h1 : ¬ y s = -1) (h2 : tLt y s = true) (h3 : rN hp 1 4 = ((tR (tLt y) 601 s : Nat) : Int)) (h4 : rN hp 1 5 = 1) (h5 : rN hp 1 6 = (s : Int)) : cT hp y s := by
  have k : tK y s = 1 := by unfold tK; rw [if_neg h1, if_pos h2]
  have e : tE y s = tR (tLt y) 601 s := by unfold tE; rw [if_neg h1, if_pos h2]
  refine ⟨h5, by rw [e]; exact h3, ?_, fun z => by omega⟩
  unfold ckK
  rw [if_neg (by omega), k]
  exact h4
theorem cT_2 {hp : amH} {y : tY} {s : Nat} (h1 : ¬ y s = -1) (h2 : tLt y s = false) (h2b : tDg y s = true) (h3 : rN hp 1 4 = ((tR (tDg y) 601 s : Nat) : Int)) (h4 : rN hp 1 5 = (if tR (tDg y) 601 s ≤ s + 2 then 2 else 4)) (h5 : rN hp 1 6 = (s : Int)) (h6 : nV y s (tR (tDg y) 601 s) (rN hp 1 7)) : cT hp y s := by
  have k : tK y s = 2 := by unfold tK; rw [if_neg h1, if_neg (by rw [h2]; decide), if_pos h2b]
  have e : tE y s = tR (tDg y) 601 s := by unfold tE; rw [if_neg h1, if_neg (by rw [h2]; decide), if_pos h2b]
  rw [← e] at h3 h4 h6
  have hgt : s < tE y s := by rw [e]; exact tR_lt h2b
  refine ⟨h5, h3, ?_, fun _ z => ?_⟩
  · unfold ckK
    by_cases g : tE y s ≤ s + 2
    · rw [if_neg (fun z => z.2 g), k, h4, if_pos g]
    · rw [if_pos ⟨k, g⟩, h4, if_neg g]
  · unfold tV
    by_cases g : tE y s = s + 1
    · rw [if_pos g]
      exact h6.2.1 g
    · rw [if_neg g]
      exact h6.2.2 (by omega)
theorem cT_3 {hp : amH} {y : tY} {s : Nat} (h1 : ¬ y s = -1) (h2 : tLt y s = false) (h2b : tDg y s = false) (h5 : rN hp 1 6 = (s : Int)) (h3 : rN hp 1 4 = (s : Int) + 1) (h4 : rN hp 1 5 = (if y s = 59 then 3 else 4)) : cT hp y s := by
  have k : tK y s = (if y s = 59 then 3 else 4) := by unfold tK; rw [if_neg h1, if_neg (by rw [h2]; decide), if_neg (by rw [h2b]; decide)]
  have e : tE y s = s + 1 := by unfold tE; rw [if_neg h1, if_neg (by rw [h2]; decide), if_neg (by rw [h2b]; decide)]
  have k2 : ¬ tK y s = 2 := by rw [k]; split <;> decide
  refine ⟨h5, by rw [e]; omega, ?_, fun z => absurd z k2⟩
  unfold ckK
  rw [if_neg (fun z => k2 z.1), k]
  exact h4
theorem e81 {d : Nat} {hp0 hp : amH} {R : xQ} {y : tY} {s : Nat} (hok : tOk (rN hp0 1 0).toNat y) (hR : ∀ hp1, bHk 84 bTT hp1 → bFr wCt hp0 hp1 → cT hp1 y s → R (.inl none) hp1) (hH : bHk 84 bTT hp) (hF : bFr wCt hp0 hp) (Y : cB hp = y) (h4 : rN hp 1 4 = (s : Int)) (hs : (s : Int) ≤ rN hp 1 0) : xV (d + 2) am_m81 50 [some (.ref 1)] [] hp R := by
  have b0 := b1_0 hH
  have n0 : rN hp 1 0 = rN hp0 1 0 := r_fr hF rfl
  refine xald 51 ⟨u81, _, rfl⟩ rfl rfl ?_
  refine xald 52 ⟨u81, _, rfl⟩ rfl rfl ?_
  refine xgetC 55 hH ⟨u81, _, rfl⟩ rfl (by decide) (by decide) rfl rfl (by decide) (fun z52 h52 => ?_)
  refine xputC 58 hH ⟨u81, _, rfl⟩ rfl (by decide) (by decide) rfl rfl (by decide) ⟨rfl, rfl⟩ (by omega) (by omega) (fun hp55 hH55 U55 => ?_)
  have s55 := U55.1
  have n55_1_0 : rN hp55 (1) 0 = rN hp (1) 0 := rU_ne U55 (by omega)
  have n55_1_4 : rN hp55 (1) 4 = rN hp (1) 4 := rU_ne U55 (by omega)
  have n55_1_5 : rN hp55 (1) 5 = rN hp (1) 5 := rU_ne U55 (by omega)
  have n55_1_7 : rN hp55 (1) 7 = rN hp (1) 7 := rU_ne U55 (by omega)
  refine xald 59 ⟨u81, _, rfl⟩ rfl rfl ?_
  refine xald 60 ⟨u81, _, rfl⟩ rfl rfl ?_
  refine xgetC 63 hH55 ⟨u81, _, rfl⟩ rfl (by decide) (by decide) rfl rfl (by decide) (fun z60 h60 => ?_)
  refine xcallC 66 (o := 1) [.int _] [] hH55 ⟨u81, _, rfl⟩ rfl rfl (by decide) rfl (by decide) rfl ⟨rfl, rfl, rfl, rfl⟩ rfl (k_cB hH55 ((cB_U U55 (by decide)).trans Y) (q := s) (by omega) (fun z63 h63 => ⟨_, rfl, ?_⟩))
  refine xist 67 ⟨u81, _, rfl⟩ rfl rfl ?_
  refine xild 68 ⟨u81, _, rfl⟩ rfl rfl ?_
  refine xcst 69 (-1) ⟨u81, _, rfl⟩ rfl (by decide) (fun z68 h68 => ?_)
  refine xcmp_ne 72 ⟨u81, _, rfl⟩ rfl (fun c69 => ?_) (fun c69 => ?_)
  · refine xild 81 ⟨u81, _, rfl⟩ rfl rfl ?_
    refine xcallS 84 [.int _] [] hH55 ⟨u81, _, rfl⟩ rfl rfl rfl rfl rfl (k_let (y := y) (q := s) (by omega) (fun z81 h81 => ⟨_, rfl, ?_⟩))
    refine xif_eq 87 ⟨u81, _, rfl⟩ rfl (fun c84 => ?_) (fun c84 => ?_)
    · refine xild 95 ⟨u81, _, rfl⟩ rfl rfl ?_
      refine xcallS 98 [.int _] [] hH55 ⟨u81, _, rfl⟩ rfl rfl rfl rfl rfl (k_dig (y := y) (q := s) (by omega) (fun z95 h95 => ⟨_, rfl, ?_⟩))
      refine xif_eq 101 ⟨u81, _, rfl⟩ rfl (fun c98 => ?_) (fun c98 => ?_)
      · refine xald 109 ⟨u81, _, rfl⟩ rfl rfl ?_
        refine xild 110 ⟨u81, _, rfl⟩ rfl rfl ?_
        refine xbip 112 (59) ⟨u81, _, rfl⟩ rfl (by decide) (fun z110 h110 => ?_)
        refine xcmp_ne 115 ⟨u81, _, rfl⟩ rfl (fun c112 => ?_) (fun c112 => ?_)
        · refine xcst 120 (4) ⟨u81, _, rfl⟩ rfl (by decide) (fun z119 h119 => ?_)
          refine xputC 123 hH55 ⟨u81, _, rfl⟩ rfl (by decide) (by decide) rfl rfl (by decide) ⟨rfl, rfl⟩ (by omega) (by omega) (fun hp120 hH120 U120 => ?_)
          have s120 := U120.1
          have n120_1_0 : rN hp120 (1) 0 = rN hp55 (1) 0 := rU_ne U120 (by omega)
          have n120_1_4 : rN hp120 (1) 4 = rN hp55 (1) 4 := rU_ne U120 (by omega)
          have n120_1_6 : rN hp120 (1) 6 = rN hp55 (1) 6 := rU_ne U120 (by omega)
          have n120_1_7 : rN hp120 (1) 7 = rN hp55 (1) 7 := rU_ne U120 (by omega)
          refine xald 124 ⟨u81, _, rfl⟩ rfl rfl ?_
          refine xdup 125 ⟨u81, _, rfl⟩ rfl rfl ?_
          refine xgetC 128 hH120 ⟨u81, _, rfl⟩ rfl (by decide) (by decide) rfl rfl (by decide) (fun z125 h125 => ?_)
          refine xcst 129 (1) ⟨u81, _, rfl⟩ rfl (by decide) (fun z128 h128 => ?_)
          refine xadd 130 _ ⟨u81, _, rfl⟩ rfl rfl (by omega) (by omega) (fun z129 h129 => ?_)
          refine xputC 133 hH120 ⟨u81, _, rfl⟩ rfl (by decide) (by decide) rfl rfl (by decide) ⟨rfl, rfl⟩ (by omega) (by omega) (fun hp130 hH130 U130 => ?_)
          have s130 := U130.1
          have n130_1_0 : rN hp130 (1) 0 = rN hp120 (1) 0 := rU_ne U130 (by omega)
          have n130_1_5 : rN hp130 (1) 5 = rN hp120 (1) 5 := rU_ne U130 (by omega)
          have n130_1_6 : rN hp130 (1) 6 = rN hp120 (1) 6 := rU_ne U130 (by omega)
          have n130_1_7 : rN hp130 (1) 7 = rN hp120 (1) 7 := rU_ne U130 (by omega)
          exact xretV ⟨u81, _, rfl⟩ rfl (hR hp130 hH130 (((hF.trans (rU_fr U55 (by decide))).trans (rU_fr U120 (by decide))).trans (rU_fr U130 (by decide))) (cT_3 (by omega) (by rcases h81 with z | z; omega; exact z.2) (by rcases h95 with z | z; omega; exact z.2) (by omega) (by omega) (by rw [if_neg (by omega)]; omega)))
        · refine xcst 116 (3) ⟨u81, _, rfl⟩ rfl (by decide) (fun z115 h115 => ?_)
          refine xgoto ⟨u81, _, rfl⟩ ?_
          refine xputC 123 hH55 ⟨u81, _, rfl⟩ rfl (by decide) (by decide) rfl rfl (by decide) ⟨rfl, rfl⟩ (by omega) (by omega) (fun hp120 hH120 U120 => ?_)
          have s120 := U120.1
          have n120_1_0 : rN hp120 (1) 0 = rN hp55 (1) 0 := rU_ne U120 (by omega)
          have n120_1_4 : rN hp120 (1) 4 = rN hp55 (1) 4 := rU_ne U120 (by omega)
          have n120_1_6 : rN hp120 (1) 6 = rN hp55 (1) 6 := rU_ne U120 (by omega)
          have n120_1_7 : rN hp120 (1) 7 = rN hp55 (1) 7 := rU_ne U120 (by omega)
          refine xald 124 ⟨u81, _, rfl⟩ rfl rfl ?_
          refine xdup 125 ⟨u81, _, rfl⟩ rfl rfl ?_
          refine xgetC 128 hH120 ⟨u81, _, rfl⟩ rfl (by decide) (by decide) rfl rfl (by decide) (fun z125 h125 => ?_)
          refine xcst 129 (1) ⟨u81, _, rfl⟩ rfl (by decide) (fun z128 h128 => ?_)
          refine xadd 130 _ ⟨u81, _, rfl⟩ rfl rfl (by omega) (by omega) (fun z129 h129 => ?_)
          refine xputC 133 hH120 ⟨u81, _, rfl⟩ rfl (by decide) (by decide) rfl rfl (by decide) ⟨rfl, rfl⟩ (by omega) (by omega) (fun hp130 hH130 U130 => ?_)
          have s130 := U130.1
          have n130_1_0 : rN hp130 (1) 0 = rN hp120 (1) 0 := rU_ne U130 (by omega)
          have n130_1_5 : rN hp130 (1) 5 = rN hp120 (1) 5 := rU_ne U130 (by omega)
          have n130_1_6 : rN hp130 (1) 6 = rN hp120 (1) 6 := rU_ne U130 (by omega)
          have n130_1_7 : rN hp130 (1) 7 = rN hp120 (1) 7 := rU_ne U130 (by omega)
          exact xretV ⟨u81, _, rfl⟩ rfl (hR hp130 hH130 (((hF.trans (rU_fr U55 (by decide))).trans (rU_fr U120 (by decide))).trans (rU_fr U130 (by decide))) (cT_3 (by omega) (by rcases h81 with z | z; omega; exact z.2) (by rcases h95 with z | z; omega; exact z.2) (by omega) (by omega) (by rw [if_pos (by omega)]; omega)))
      · refine xald 102 ⟨u81, _, rfl⟩ rfl rfl ?_
        refine xcallC 105 (o := 1) [] [] hH55 ⟨u81, _, rfl⟩ rfl rfl (by decide) rfl (by decide) rfl ⟨rfl, rfl, rfl, rfl⟩ rfl (k_rn hH55 ((cB_U U55 (by decide)).trans Y) (by rw [n55_1_0, n0]; exact hok) (s := s) (by omega) (by omega) (by omega) (fun hp102 hH102 F102 A102 B102 C102 D102 => ⟨_, rfl, ?_⟩))
        refine xgoto ⟨u81, _, rfl⟩ ?_
        exact xretV ⟨u81, _, rfl⟩ rfl (hR hp102 hH102 ((hF.trans (rU_fr U55 (by decide))).trans F102) (cT_2 (by omega) (by rcases h81 with z | z; omega; exact z.2) (by rcases h95 with z | z; exact z.2; omega) A102 B102 C102 D102))
    · refine xald 88 ⟨u81, _, rfl⟩ rfl rfl ?_
      refine xcallC 91 (o := 1) [] [] hH55 ⟨u81, _, rfl⟩ rfl rfl (by decide) rfl (by decide) rfl ⟨rfl, rfl, rfl, rfl⟩ rfl (k_rw hH55 ((cB_U U55 (by decide)).trans Y) (by rw [n55_1_0, n0]; exact hok) (s := s) (by omega) (by omega) (by omega) (fun hp88 hH88 F88 A88 B88 C88 => ⟨_, rfl, ?_⟩))
      refine xgoto ⟨u81, _, rfl⟩ ?_
      exact xretV ⟨u81, _, rfl⟩ rfl (hR hp88 hH88 ((hF.trans (rU_fr U55 (by decide))).trans F88) (cT_1 (by omega) (by rcases h81 with z | z; exact z.2; omega) A88 B88 C88))
  · refine xald 73 ⟨u81, _, rfl⟩ rfl rfl ?_
    refine xcst 74 (0) ⟨u81, _, rfl⟩ rfl (by decide) (fun z73 h73 => ?_)
    refine xputC 77 hH55 ⟨u81, _, rfl⟩ rfl (by decide) (by decide) rfl rfl (by decide) ⟨rfl, rfl⟩ (by omega) (by omega) (fun hp74 hH74 U74 => ?_)
    have s74 := U74.1
    have n74_1_0 : rN hp74 (1) 0 = rN hp55 (1) 0 := rU_ne U74 (by omega)
    have n74_1_4 : rN hp74 (1) 4 = rN hp55 (1) 4 := rU_ne U74 (by omega)
    have n74_1_6 : rN hp74 (1) 6 = rN hp55 (1) 6 := rU_ne U74 (by omega)
    have n74_1_7 : rN hp74 (1) 7 = rN hp55 (1) 7 := rU_ne U74 (by omega)
    refine xgoto ⟨u81, _, rfl⟩ ?_
    exact xretV ⟨u81, _, rfl⟩ rfl (hR hp74 hH74 ((hF.trans (rU_fr U55 (by decide))).trans (rU_fr U74 (by decide))) (cT_0 (by omega) (by omega) (by omega) (by omega)))
/-- on to the next token -/
theorem k_cadv {d : Nat} {hp : amH} {R : xQ} {y : tY} {p : Nat} (hH : bHk 84 bTT hp) (Y : cB hp = y) (h4 : rN hp 1 4 = (p : Int)) (hp0 : (p : Int) ≤ rN hp 1 0)
    (hR : ∀ hp1, bHk 84 bTT hp1 → bFr wCt hp hp1 → cB hp1 = y → cT hp1 y (tS y p) → R (.inl none) hp1) : xK (d + 2) 81 [.ref 1] hp R := by
  have hok : tOk (rN hp 1 0).toNat y := by rw [← Y]; exact cB_ok hH
  refine xin (M := am_m81) rfl rfl rfl ?_
  exact l81 hok rfl (fun hp1 g1 g2 g3 g4 g5 => e81 hok (fun hp2 k1 k2 k3 => hR hp2 k1 k2 (by rw [cB_F k2, Y]) k3) g1 g2 g3 g4 g5) (rN hp 1 0 - p).toNat p hp hH (bFr.refl _ _) Y h4 (Nat.le_refl _) (fun k k1 k2 => by omega) (by omega)
