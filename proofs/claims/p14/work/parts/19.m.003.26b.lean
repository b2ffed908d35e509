/-! ##### 19.m.003.26b ##### -/
section
/-! ===== the class's tokens: numbers; one token ===== -/
section XW
variable {M : amM} {pc a b d : Nat} {L : List (Option Value)} {st : List Value} {hp : amH} {Q : xQ}
theorem xaddE (q : Nat) {x y : Int32} (h : xI M pc .iadd a b) (e : q = pc + 1) (hw : ∀ z : Int32, z = x + y → xV d M q L (.int z :: st) hp Q) : xV d M pc L (.int y :: .int x :: st) hp Q := by
  refine xstep h (fun cl hl => ⟨cl, ?_, hl⟩) (hw (x + y) rfl)
  subst e
  simp [amDo, amStep, amII]
theorem xmulE (q : Nat) {x y : Int32} (h : xI M pc .imul a b) (e : q = pc + 1) (hw : ∀ z : Int32, z = x * y → xV d M q L (.int z :: st) hp Q) : xV d M pc L (.int y :: .int x :: st) hp Q := by
  refine xstep h (fun cl hl => ⟨cl, ?_, hl⟩) (hw (x * y) rfl)
  subst e
  simp [amDo, amStep, amII]
end XW
theorem n_w {x t c f : Int32} (ht : t.toInt = 10) (hf : f.toInt = 48) (x1 : -1000 ≤ x.toInt) (x2 : x.toInt ≤ 1000) (c1 : -1 ≤ c.toInt) (c2 : c.toInt ≤ 255) : (x * t + c - f).toInt = 10 * x.toInt + c.toInt - 48 := by
  have e1 : (x * t).toInt = 10 * x.toInt := by rw [Int32.toInt_mul, ht, aBmod (by omega) (by omega)]; omega
  have e2 : (x * t + c).toInt = 10 * x.toInt + c.toInt := by rw [Int32.toInt_add, e1, aBmod (by omega) (by omega)]
  rw [Int32.toInt_sub, e2, hf, aBmod (by omega) (by omega)]
/-- what the number's value is on the way -/
noncomputable def nV (y : tY) (s q : Nat) (v : Int) : Prop := (q = s → v = 0) ∧ (q = s + 1 → v = y s - 48) ∧ (q = s + 2 → v = 10 * (y s - 48) + (y (s + 1) - 48))
theorem nV_step {y : tY} {s q : Nat} {v v1 : Int} (hall : ∀ k, s ≤ k → k < q → tDg y k = true) (hd : tDg y q = true) (hv : nV y s q v) (hsq : s ≤ q) (h : -1000 ≤ v → v ≤ 1000 → v1 = 10 * v + y q - 48) : nV y s (q + 1) v1 := by
  have hd2 := of_decide_eq_true hd
  refine ⟨fun e => by omega, fun e => ?_, fun e => ?_⟩
  · have e : q = s := by omega
    subst e
    have := hv.1 rfl
    have := h (by omega) (by omega)
    omega
  · have e : q = s + 1 := by omega
    subst e
    have := hv.2.1 rfl
    have g := of_decide_eq_true (hall s (Nat.le_refl _) (by omega))
    have := h (by omega) (by omega)
    omega
theorem l83 {d : Nat} {hp0 : amH} {R : xQ} {y : tY} {s e : Nat} (hok : tOk (rN hp0 1 0).toNat y) (he : tR (tDg y) 601 s = e)
    (hR : ∀ hp1, bHk 84 bTT hp1 → bFr wCt hp0 hp1 → rN hp1 1 4 = (e : Int) → rN hp1 1 5 = (if e ≤ s + 2 then 2 else 4) → rN hp1 1 6 = (s : Int) → nV y s e (rN hp1 1 7) → R (.inl none) hp1) :
    ∀ (jj q : Nat) (hp : amH), bHk 84 bTT hp → bFr wCt hp0 hp → cB hp = y → rN hp 1 4 = (q : Int) → rN hp 1 6 = (s : Int) → s ≤ q → (∀ k, s ≤ k → k < q → tDg y k = true) → nV y s q (rN hp 1 7) → (q : Int) + (jj : Int) = rN hp0 1 0 → xV (d + 1) am_m83 5 [some (.ref 1)] [] hp R := by
  intro jj
  induction jj using Nat.strongRecOn with
  | ind jj ih =>
    intro q hp hH hF Y h4 h6 hsq hall hv hj
    have b0 := b1_0 hH
    have n0 : rN hp 1 0 = rN hp0 1 0 := r_fr hF rfl
    have fin : tDg y q = false → xV (d + 1) am_m83 66 [some (.ref 1)] [] hp R := fun g => by
      have eq : e = q := by rw [← he]; exact tR_eq 601 s q hsq (by omega) hall (fun _ => g)
      subst eq
      refine xald 67 ⟨u83, _, rfl⟩ rfl rfl ?_
      refine xald 68 ⟨u83, _, rfl⟩ rfl rfl ?_
      refine xgetC 71 hH ⟨u83, _, rfl⟩ rfl (by decide) (by decide) rfl rfl (by decide) (fun z68 h68 => ?_)
      refine xald 72 ⟨u83, _, rfl⟩ rfl rfl ?_
      refine xgetC 75 hH ⟨u83, _, rfl⟩ rfl (by decide) (by decide) rfl rfl (by decide) (fun z72 h72 => ?_)
      refine xsub 76 _ ⟨u83, _, rfl⟩ rfl rfl (by omega) (by omega) (fun z75 h75 => ?_)
      refine xcst 77 (2) ⟨u83, _, rfl⟩ rfl (by decide) (fun z76 h76 => ?_)
      refine xcmp_gt 80 ⟨u83, _, rfl⟩ rfl (fun c77 => ?_) (fun c77 => ?_)
      · refine xcst 85 (4) ⟨u83, _, rfl⟩ rfl (by decide) (fun z84 h84 => ?_)
        refine xputC 88 hH ⟨u83, _, rfl⟩ rfl (by decide) (by decide) rfl rfl (by decide) ⟨rfl, rfl⟩ (by omega) (by omega) (fun hp85 hH85 U85 => ?_)
        have s85 := U85.1
        have n85_1_0 : rN hp85 (1) 0 = rN hp (1) 0 := rU_ne U85 (by first | decide | exact (fun z => absurd z.1 (by decide)) | omega)
        have n85_1_4 : rN hp85 (1) 4 = rN hp (1) 4 := rU_ne U85 (by first | decide | exact (fun z => absurd z.1 (by decide)) | omega)
        have n85_1_6 : rN hp85 (1) 6 = rN hp (1) 6 := rU_ne U85 (by first | decide | exact (fun z => absurd z.1 (by decide)) | omega)
        have n85_1_7 : rN hp85 (1) 7 = rN hp (1) 7 := rU_ne U85 (by first | decide | exact (fun z => absurd z.1 (by decide)) | omega)
        exact xretV ⟨u83, _, rfl⟩ rfl (hR hp85 hH85 (hF.trans (rU_fr U85 (by decide))) (by omega) (by rw [s85]; rw [if_neg (by omega)]; exact h84) (by omega) (by rw [n85_1_7]; exact hv))
      · refine xcst 81 (2) ⟨u83, _, rfl⟩ rfl (by decide) (fun z80 h80 => ?_)
        refine xgoto ⟨u83, _, rfl⟩ ?_
        refine xputC 88 hH ⟨u83, _, rfl⟩ rfl (by decide) (by decide) rfl rfl (by decide) ⟨rfl, rfl⟩ (by omega) (by omega) (fun hp85 hH85 U85 => ?_)
        have s85 := U85.1
        have n85_1_0 : rN hp85 (1) 0 = rN hp (1) 0 := rU_ne U85 (by first | decide | exact (fun z => absurd z.1 (by decide)) | omega)
        have n85_1_4 : rN hp85 (1) 4 = rN hp (1) 4 := rU_ne U85 (by first | decide | exact (fun z => absurd z.1 (by decide)) | omega)
        have n85_1_6 : rN hp85 (1) 6 = rN hp (1) 6 := rU_ne U85 (by first | decide | exact (fun z => absurd z.1 (by decide)) | omega)
        have n85_1_7 : rN hp85 (1) 7 = rN hp (1) 7 := rU_ne U85 (by first | decide | exact (fun z => absurd z.1 (by decide)) | omega)
        exact xretV ⟨u83, _, rfl⟩ rfl (hR hp85 hH85 (hF.trans (rU_fr U85 (by decide))) (by omega) (by rw [s85]; rw [if_pos (by omega)]; exact h80) (by omega) (by rw [n85_1_7]; exact hv))
    refine xald 6 ⟨u83, _, rfl⟩ rfl rfl ?_
    refine xgetC 9 hH ⟨u83, _, rfl⟩ rfl (by decide) (by decide) rfl rfl (by decide) (fun z6 h6 => ?_)
    refine xald 10 ⟨u83, _, rfl⟩ rfl rfl ?_
    refine xgetC 13 hH ⟨u83, _, rfl⟩ rfl (by decide) (by decide) rfl rfl (by decide) (fun z10 h10 => ?_)
    refine xcmp_ge 16 ⟨u83, _, rfl⟩ rfl (fun c13 => ?_) (fun c13 => ?_)
    · exact fin (by cases e9 : tDg y q; rfl; have := tDg_n hok q e9; omega)
    · refine xald 17 ⟨u83, _, rfl⟩ rfl rfl ?_
      refine xald 18 ⟨u83, _, rfl⟩ rfl rfl ?_
      refine xgetC 21 hH ⟨u83, _, rfl⟩ rfl (by decide) (by decide) rfl rfl (by decide) (fun z18 h18 => ?_)
      refine xcallC 24 (o := 1) [.int _] [] hH ⟨u83, _, rfl⟩ rfl rfl (by decide) rfl (by decide) rfl ⟨rfl, rfl, rfl, rfl⟩ rfl (k_cB hH Y (q := q) (by omega) (fun z21 h21 => ⟨_, rfl, ?_⟩))
      refine xcallS 27 [.int _] [] hH ⟨u83, _, rfl⟩ rfl rfl rfl rfl rfl (k_dig (y := y) (q := q) (by omega) (fun z24 h24 => ⟨_, rfl, ?_⟩))
      refine xif_eq 30 ⟨u83, _, rfl⟩ rfl (fun c27 => ?_) (fun c27 => ?_)
      · exact fin (by rcases h24 with z | z; omega; exact z.2)
      · refine xald 31 ⟨u83, _, rfl⟩ rfl rfl ?_
        refine xald 32 ⟨u83, _, rfl⟩ rfl rfl ?_
        refine xgetC 35 hH ⟨u83, _, rfl⟩ rfl (by decide) (by decide) rfl rfl (by decide) (fun z32 h32 => ?_)
        refine xbip 37 (10) ⟨u83, _, rfl⟩ rfl (by decide) (fun z35 h35 => ?_)
        refine xmulE 38 ⟨u83, _, rfl⟩ rfl (fun z37 h37 => ?_)
        refine xald 39 ⟨u83, _, rfl⟩ rfl rfl ?_
        refine xald 40 ⟨u83, _, rfl⟩ rfl rfl ?_
        refine xgetC 43 hH ⟨u83, _, rfl⟩ rfl (by decide) (by decide) rfl rfl (by decide) (fun z40 h40 => ?_)
        refine xcallC 46 (o := 1) [.int _] [.int _, .ref 1] hH ⟨u83, _, rfl⟩ rfl rfl (by decide) rfl (by decide) rfl ⟨rfl, rfl, rfl, rfl⟩ rfl (k_cB hH Y (q := q) (by omega) (fun z43 h43 => ⟨_, rfl, ?_⟩))
        refine xaddE 47 ⟨u83, _, rfl⟩ rfl (fun z46 h46 => ?_)
        refine xbip 49 (48) ⟨u83, _, rfl⟩ rfl (by decide) (fun z47 h47 => ?_)
        refine xsubw 50 ⟨u83, _, rfl⟩ rfl (fun z49 h49 => ?_)
        have bmn := aMin z49
        have bmx := aMax z49
        refine xputC 53 hH ⟨u83, _, rfl⟩ rfl (by decide) (by decide) rfl rfl (by decide) ⟨rfl, rfl⟩ (by omega) (by omega) (fun hp50 hH50 U50 => ?_)
        have s50 := U50.1
        have n50_1_0 : rN hp50 (1) 0 = rN hp (1) 0 := rU_ne U50 (by first | decide | exact (fun z => absurd z.1 (by decide)) | omega)
        have n50_1_4 : rN hp50 (1) 4 = rN hp (1) 4 := rU_ne U50 (by first | decide | exact (fun z => absurd z.1 (by decide)) | omega)
        have n50_1_5 : rN hp50 (1) 5 = rN hp (1) 5 := rU_ne U50 (by first | decide | exact (fun z => absurd z.1 (by decide)) | omega)
        have n50_1_6 : rN hp50 (1) 6 = rN hp (1) 6 := rU_ne U50 (by first | decide | exact (fun z => absurd z.1 (by decide)) | omega)
        refine xald 54 ⟨u83, _, rfl⟩ rfl rfl ?_
        refine xdup 55 ⟨u83, _, rfl⟩ rfl rfl ?_
        refine xgetC 58 hH50 ⟨u83, _, rfl⟩ rfl (by decide) (by decide) rfl rfl (by decide) (fun z55 h55 => ?_)
        refine xcst 59 (1) ⟨u83, _, rfl⟩ rfl (by decide) (fun z58 h58 => ?_)
        refine xadd 60 _ ⟨u83, _, rfl⟩ rfl rfl (by omega) (by omega) (fun z59 h59 => ?_)
        refine xputC 63 hH50 ⟨u83, _, rfl⟩ rfl (by decide) (by decide) rfl rfl (by decide) ⟨rfl, rfl⟩ (by omega) (by omega) (fun hp60 hH60 U60 => ?_)
        have s60 := U60.1
        have n60_1_0 : rN hp60 (1) 0 = rN hp50 (1) 0 := rU_ne U60 (by first | decide | exact (fun z => absurd z.1 (by decide)) | omega)
        have n60_1_5 : rN hp60 (1) 5 = rN hp50 (1) 5 := rU_ne U60 (by first | decide | exact (fun z => absurd z.1 (by decide)) | omega)
        have n60_1_6 : rN hp60 (1) 6 = rN hp50 (1) 6 := rU_ne U60 (by first | decide | exact (fun z => absurd z.1 (by decide)) | omega)
        have n60_1_7 : rN hp60 (1) 7 = rN hp50 (1) 7 := rU_ne U60 (by first | decide | exact (fun z => absurd z.1 (by decide)) | omega)
        refine xgoto ⟨u83, _, rfl⟩ ?_
        have hd : tDg y q = true := by rcases h24 with z | z; exact z.2; omega
        have hd2 := of_decide_eq_true hd
        exact ih (jj - 1) (by omega) (q + 1) hp60 hH60 ((hF.trans (rU_fr U50 (by decide))).trans (rU_fr U60 (by decide))) ((cB_U U60 (by decide)).trans ((cB_U U50 (by decide)).trans Y)) (by omega) (by omega) (by omega) (fun k k1 k2 => by rcases Nat.lt_or_ge k q with g | g; exact hall k k1 g; rw [show k = q by omega]; exact hd) (nV_step hall hd hv hsq (fun g1 g2 => by rw [n60_1_7, s50, h49, h46, h37, n_w h35 h47 (by omega) (by omega) (by omega) (by omega), h43, h32])) (by omega)
theorem k_rn {d : Nat} {hp : amH} {R : xQ} {y : tY} {s : Nat} (hH : bHk 84 bTT hp) (Y : cB hp = y) (hok : tOk (rN hp 1 0).toNat y) (h4 : rN hp 1 4 = (s : Int)) (h6 : rN hp 1 6 = (s : Int)) (hs : (s : Int) ≤ rN hp 1 0)
    (hR : ∀ hp1, bHk 84 bTT hp1 → bFr wCt hp hp1 → rN hp1 1 4 = ((tR (tDg y) 601 s : Nat) : Int) → rN hp1 1 5 = (if tR (tDg y) 601 s ≤ s + 2 then 2 else 4) → rN hp1 1 6 = (s : Int) → nV y s (tR (tDg y) 601 s) (rN hp1 1 7) → R (.inl none) hp1) : xK (d + 1) 83 [.ref 1] hp R := by
  refine xin (M := am_m83) rfl rfl rfl ?_
  refine xald 1 ⟨u83, _, rfl⟩ rfl rfl ?_
  refine xcst 2 (0) ⟨u83, _, rfl⟩ rfl (by decide) (fun z1 h1 => ?_)
  refine xputC 5 hH ⟨u83, _, rfl⟩ rfl (by decide) (by decide) rfl rfl (by decide) ⟨rfl, rfl⟩ (by omega) (by omega) (fun hp2 hH2 U2 => ?_)
  have s2 := U2.1
  have n2_1_0 : rN hp2 (1) 0 = rN hp (1) 0 := rU_ne U2 (by first | decide | exact (fun z => absurd z.1 (by decide)) | omega)
  have n2_1_4 : rN hp2 (1) 4 = rN hp (1) 4 := rU_ne U2 (by first | decide | exact (fun z => absurd z.1 (by decide)) | omega)
  have n2_1_5 : rN hp2 (1) 5 = rN hp (1) 5 := rU_ne U2 (by first | decide | exact (fun z => absurd z.1 (by decide)) | omega)
  have n2_1_6 : rN hp2 (1) 6 = rN hp (1) 6 := rU_ne U2 (by first | decide | exact (fun z => absurd z.1 (by decide)) | omega)
  exact l83 hok rfl hR (rN hp 1 0 - s).toNat s hp2 hH2 (rU_fr U2 (by decide)) ((cB_U U2 (by decide)).trans Y) (by omega) (by omega) (Nat.le_refl _) (fun k k1 k2 => by omega) ⟨fun _ => by omega, fun e => by omega, fun e => by omega⟩ (by omega)
/-- the class's token at s -/
noncomputable def ckK (y : tY) (s : Nat) : Int := if tK y s = 2 ∧ ¬ tE y s ≤ s + 2 then 4 else tK y s
noncomputable def cT (hp : amH) (y : tY) (s : Nat) : Prop := rN hp 1 6 = (s : Int) ∧ rN hp 1 4 = ((tE y s : Nat) : Int) ∧ rN hp 1 5 = ckK y s ∧ (tK y s = 2 → tE y s ≤ s + 2 → rN hp 1 7 = tV y s)
theorem l81 {d : Nat} {hp0 : amH} {R : xQ} {y : tY} {p s : Nat} (hok : tOk (rN hp0 1 0).toNat y) (he : tS y p = s) (hQ : ∀ hp, bHk 84 bTT hp → bFr wCt hp0 hp → cB hp = y → rN hp 1 4 = (s : Int) → (s : Int) ≤ rN hp 1 0 → xV (d + 2) am_m81 50 [some (.ref 1)] [] hp R) :
    ∀ (jj q : Nat) (hp : amH), bHk 84 bTT hp → bFr wCt hp0 hp → cB hp = y → rN hp 1 4 = (q : Int) → p ≤ q → (∀ k, p ≤ k → k < q → tSp y k = true) → (q : Int) + (jj : Int) = rN hp0 1 0 → xV (d + 2) am_m81 0 [some (.ref 1)] [] hp R := by
  intro jj
  induction jj using Nat.strongRecOn with
  | ind jj ih =>
    intro q hp hH hF Y h4 hsq hall hj
    have b0 := b1_0 hH
    have n0 : rN hp 1 0 = rN hp0 1 0 := r_fr hF rfl
    have fin : tSp y q = false → xV (d + 2) am_m81 50 [some (.ref 1)] [] hp R := fun g => by
      have eq : s = q := by rw [← he]; exact tR_eq 601 p q hsq (by omega) hall (fun _ => g)
      subst eq
      exact hQ hp hH hF Y h4 (by omega)
    refine xald 1 ⟨u81, _, rfl⟩ rfl rfl ?_
    refine xgetC 4 hH ⟨u81, _, rfl⟩ rfl (by decide) (by decide) rfl rfl (by decide) (fun z1 h1 => ?_)
    refine xald 5 ⟨u81, _, rfl⟩ rfl rfl ?_
    refine xgetC 8 hH ⟨u81, _, rfl⟩ rfl (by decide) (by decide) rfl rfl (by decide) (fun z5 h5 => ?_)
    refine xcmp_ge 11 ⟨u81, _, rfl⟩ rfl (fun c8 => ?_) (fun c8 => ?_)
    · exact fin (by cases e9 : tSp y q; rfl; have := tSp_n hok q e9; omega)
    · refine xald 12 ⟨u81, _, rfl⟩ rfl rfl ?_
      refine xald 13 ⟨u81, _, rfl⟩ rfl rfl ?_
      refine xgetC 16 hH ⟨u81, _, rfl⟩ rfl (by decide) (by decide) rfl rfl (by decide) (fun z13 h13 => ?_)
      refine xcallC 19 (o := 1) [.int _] [] hH ⟨u81, _, rfl⟩ rfl rfl (by decide) rfl (by decide) rfl ⟨rfl, rfl, rfl, rfl⟩ rfl (k_cB hH Y (q := q) (by omega) (fun z16 h16 => ⟨_, rfl, ?_⟩))
      refine xbip 21 (32) ⟨u81, _, rfl⟩ rfl (by decide) (fun z19 h19 => ?_)
      refine xcmp_eq 24 ⟨u81, _, rfl⟩ rfl (fun c21 => ?_) (fun c21 => ?_)
      · refine xald 38 ⟨u81, _, rfl⟩ rfl rfl ?_
        refine xdup 39 ⟨u81, _, rfl⟩ rfl rfl ?_
        refine xgetC 42 hH ⟨u81, _, rfl⟩ rfl (by decide) (by decide) rfl rfl (by decide) (fun z39 h39 => ?_)
        refine xcst 43 (1) ⟨u81, _, rfl⟩ rfl (by decide) (fun z42 h42 => ?_)
        refine xadd 44 _ ⟨u81, _, rfl⟩ rfl rfl (by omega) (by omega) (fun z43 h43 => ?_)
        refine xputC 47 hH ⟨u81, _, rfl⟩ rfl (by decide) (by decide) rfl rfl (by decide) ⟨rfl, rfl⟩ (by omega) (by omega) (fun hp44 hH44 U44 => ?_)
        have s44 := U44.1
        have n44_1_0 : rN hp44 (1) 0 = rN hp (1) 0 := rU_ne U44 (by first | decide | exact (fun z => absurd z.1 (by decide)) | omega)
        have n44_1_5 : rN hp44 (1) 5 = rN hp (1) 5 := rU_ne U44 (by first | decide | exact (fun z => absurd z.1 (by decide)) | omega)
        have n44_1_6 : rN hp44 (1) 6 = rN hp (1) 6 := rU_ne U44 (by first | decide | exact (fun z => absurd z.1 (by decide)) | omega)
        have n44_1_7 : rN hp44 (1) 7 = rN hp (1) 7 := rU_ne U44 (by first | decide | exact (fun z => absurd z.1 (by decide)) | omega)
        refine xgoto ⟨u81, _, rfl⟩ ?_
        exact ih (jj - 1) (by omega) (q + 1) hp44 hH44 (hF.trans (rU_fr U44 (by decide))) ((cB_U U44 (by decide)).trans Y) (by omega) (by omega) (fun k k1 k2 => by rcases Nat.lt_or_ge k q with g | g; exact hall k k1 g; rw [show k = q by omega]; exact decide_eq_true (by omega)) (by omega)
      · refine xald 25 ⟨u81, _, rfl⟩ rfl rfl ?_
        refine xald 26 ⟨u81, _, rfl⟩ rfl rfl ?_
        refine xgetC 29 hH ⟨u81, _, rfl⟩ rfl (by decide) (by decide) rfl rfl (by decide) (fun z26 h26 => ?_)
        refine xcallC 32 (o := 1) [.int _] [] hH ⟨u81, _, rfl⟩ rfl rfl (by decide) rfl (by decide) rfl ⟨rfl, rfl, rfl, rfl⟩ rfl (k_cB hH Y (q := q) (by omega) (fun z29 h29 => ⟨_, rfl, ?_⟩))
        refine xbip 34 (10) ⟨u81, _, rfl⟩ rfl (by decide) (fun z32 h32 => ?_)
        refine xcmp_ne 37 ⟨u81, _, rfl⟩ rfl (fun c34 => ?_) (fun c34 => ?_)
        · exact fin (decide_eq_false (by omega))
        · refine xald 38 ⟨u81, _, rfl⟩ rfl rfl ?_
          refine xdup 39 ⟨u81, _, rfl⟩ rfl rfl ?_
          refine xgetC 42 hH ⟨u81, _, rfl⟩ rfl (by decide) (by decide) rfl rfl (by decide) (fun z39 h39 => ?_)
          refine xcst 43 (1) ⟨u81, _, rfl⟩ rfl (by decide) (fun z42 h42 => ?_)
          refine xadd 44 _ ⟨u81, _, rfl⟩ rfl rfl (by omega) (by omega) (fun z43 h43 => ?_)
          refine xputC 47 hH ⟨u81, _, rfl⟩ rfl (by decide) (by decide) rfl rfl (by decide) ⟨rfl, rfl⟩ (by omega) (by omega) (fun hp44 hH44 U44 => ?_)
          have s44 := U44.1
          have n44_1_0 : rN hp44 (1) 0 = rN hp (1) 0 := rU_ne U44 (by first | decide | exact (fun z => absurd z.1 (by decide)) | omega)
          have n44_1_5 : rN hp44 (1) 5 = rN hp (1) 5 := rU_ne U44 (by first | decide | exact (fun z => absurd z.1 (by decide)) | omega)
          have n44_1_6 : rN hp44 (1) 6 = rN hp (1) 6 := rU_ne U44 (by first | decide | exact (fun z => absurd z.1 (by decide)) | omega)
          have n44_1_7 : rN hp44 (1) 7 = rN hp (1) 7 := rU_ne U44 (by first | decide | exact (fun z => absurd z.1 (by decide)) | omega)
          refine xgoto ⟨u81, _, rfl⟩ ?_
          exact ih (jj - 1) (by omega) (q + 1) hp44 hH44 (hF.trans (rU_fr U44 (by decide))) ((cB_U U44 (by decide)).trans Y) (by omega) (by omega) (fun k k1 k2 => by rcases Nat.lt_or_ge k q with g | g; exact hall k k1 g; rw [show k = q by omega]; exact decide_eq_true (by omega)) (by omega)
theorem cT_0 {hp : amH} {y : tY} {s : Nat} (h1 : y s = -1) (h2 : rN hp 1 6 = (s : Int)) (h3 : rN hp 1 4 = (s : Int)) (h4 : rN hp 1 5 = 0) : cT hp y s := by
  have k : tK y s = 0 := tK_0.mpr h1
  have e : tE y s = s := by unfold tE; rw [if_pos h1]
  refine ⟨h2, by rw [e]; exact h3, ?_, fun z => by omega⟩
  unfold ckK
  rw [if_neg (by omega), k]
  exact h4
theorem cT_1 {hp : amH} {y : tY} {s : Nat} (h1 : ¬ y s = -1) (h2 : tLt y s = true) (h3 : rN hp 1 4 = ((tR (tLt y) 601 s : Nat) : Int)) (h4 : rN hp 1 5 = 1) (h5 : rN hp 1 6 = (s : Int)) : cT hp y s := by
  have k : tK y s = 1 := by unfold tK; rw [if_neg h1, if_pos h2]
  have e : tE y s = tR (tLt y) 601 s := by unfold tE; rw [if_neg h1, if_pos h2]
  refine ⟨h5, by rw [e]; exact h3, ?_, fun z => by omega⟩
  unfold ckK
  rw [if_neg (by omega), k]
  exact h4
theorem cT_2 {hp : amH} {y : tY} {s : Nat} (h1 : ¬ y s = -1) (h2 : tLt y s = false) (h2b : tDg y s = true) (h3 : rN hp 1 4 = ((tR (tDg y) 601 s : Nat) : Int)) (h4 : rN hp 1 5 = (if tR (tDg y) 601 s ≤ s + 2 then 2 else 4)) (h5 : rN hp 1 6 = (s : Int)) (h6 : nV y s (tR (tDg y) 601 s) (rN hp 1 7)) : cT hp y s := by
  have k : tK y s = 2 := by unfold tK; rw [if_neg h1, if_neg (by rw [h2]; decide), if_pos h2b]
  have e : tE y s = tR (tDg y) 601 s := by unfold tE; rw [if_neg h1, if_neg (by rw [h2]; decide), if_pos h2b]
  rw [← e] at h3 h4 h6
  have hgt : s < tE y s := by rw [e]; exact tR_lt h2b
  refine ⟨h5, h3, ?_, fun _ z => ?_⟩
  · unfold ckK
    by_cases g : tE y s ≤ s + 2
    · rw [if_neg (fun z => z.2 g), k, h4, if_pos g]
    · rw [if_pos ⟨k, g⟩, h4, if_neg g]
  · unfold tV
    by_cases g : tE y s = s + 1
    · rw [if_pos g]
      exact h6.2.1 g
    · rw [if_neg g]
      exact h6.2.2 (by omega)
theorem cT_3 {hp : amH} {y : tY} {s : Nat} (h1 : ¬ y s = -1) (h2 : tLt y s = false) (h2b : tDg y s = false) (h5 : rN hp 1 6 = (s : Int)) (h3 : rN hp 1 4 = (s : Int) + 1) (h4 : rN hp 1 5 = (if y s = 59 then 3 else 4)) : cT hp y s := by
  have k : tK y s = (if y s = 59 then 3 else 4) := by unfold tK; rw [if_neg h1, if_neg (by rw [h2]; decide), if_neg (by rw [h2b]; decide)]
  have e : tE y s = s + 1 := by unfold tE; rw [if_neg h1, if_neg (by rw [h2]; decide), if_neg (by rw [h2b]; decide)]
  have k2 : ¬ tK y s = 2 := by rw [k]; split <;> decide
  refine ⟨h5, by rw [e]; omega, ?_, fun z => absurd z k2⟩
  unfold ckK
  rw [if_neg (fun z => k2 z.1), k]
  exact h4
theorem e81 {d : Nat} {hp0 hp : amH} {R : xQ} {y : tY} {s : Nat} (hok : tOk (rN hp0 1 0).toNat y) (hR : ∀ hp1, bHk 84 bTT hp1 → bFr wCt hp0 hp1 → cT hp1 y s → R (.inl none) hp1) (hH : bHk 84 bTT hp) (hF : bFr wCt hp0 hp) (Y : cB hp = y) (h4 : rN hp 1 4 = (s : Int)) (hs : (s : Int) ≤ rN hp 1 0) : xV (d + 2) am_m81 50 [some (.ref 1)] [] hp R := by
  have b0 := b1_0 hH
  have n0 : rN hp 1 0 = rN hp0 1 0 := r_fr hF rfl
  refine xald 51 ⟨u81, _, rfl⟩ rfl rfl ?_
  refine xald 52 ⟨u81, _, rfl⟩ rfl rfl ?_
  refine xgetC 55 hH ⟨u81, _, rfl⟩ rfl (by decide) (by decide) rfl rfl (by decide) (fun z52 h52 => ?_)
  refine xputC 58 hH ⟨u81, _, rfl⟩ rfl (by decide) (by decide) rfl rfl (by decide) ⟨rfl, rfl⟩ (by omega) (by omega) (fun hp55 hH55 U55 => ?_)
  have s55 := U55.1
  have n55_1_0 : rN hp55 (1) 0 = rN hp (1) 0 := rU_ne U55 (by first | decide | exact (fun z => absurd z.1 (by decide)) | omega)
  have n55_1_4 : rN hp55 (1) 4 = rN hp (1) 4 := rU_ne U55 (by first | decide | exact (fun z => absurd z.1 (by decide)) | omega)
  have n55_1_5 : rN hp55 (1) 5 = rN hp (1) 5 := rU_ne U55 (by first | decide | exact (fun z => absurd z.1 (by decide)) | omega)
  have n55_1_7 : rN hp55 (1) 7 = rN hp (1) 7 := rU_ne U55 (by first | decide | exact (fun z => absurd z.1 (by decide)) | omega)
  refine xald 59 ⟨u81, _, rfl⟩ rfl rfl ?_
  refine xald 60 ⟨u81, _, rfl⟩ rfl rfl ?_
  refine xgetC 63 hH55 ⟨u81, _, rfl⟩ rfl (by decide) (by decide) rfl rfl (by decide) (fun z60 h60 => ?_)
  refine xcallC 66 (o := 1) [.int _] [] hH55 ⟨u81, _, rfl⟩ rfl rfl (by decide) rfl (by decide) rfl ⟨rfl, rfl, rfl, rfl⟩ rfl (k_cB hH55 ((cB_U U55 (by decide)).trans Y) (q := s) (by omega) (fun z63 h63 => ⟨_, rfl, ?_⟩))
  refine xist 67 ⟨u81, _, rfl⟩ rfl rfl ?_
  refine xild 68 ⟨u81, _, rfl⟩ rfl rfl ?_
  refine xcst 69 (-1) ⟨u81, _, rfl⟩ rfl (by decide) (fun z68 h68 => ?_)
  refine xcmp_ne 72 ⟨u81, _, rfl⟩ rfl (fun c69 => ?_) (fun c69 => ?_)
  · refine xild 81 ⟨u81, _, rfl⟩ rfl rfl ?_
    refine xcallS 84 [.int _] [] hH55 ⟨u81, _, rfl⟩ rfl rfl rfl rfl rfl (k_let (y := y) (q := s) (by omega) (fun z81 h81 => ⟨_, rfl, ?_⟩))
    refine xif_eq 87 ⟨u81, _, rfl⟩ rfl (fun c84 => ?_) (fun c84 => ?_)
    · refine xild 95 ⟨u81, _, rfl⟩ rfl rfl ?_
      refine xcallS 98 [.int _] [] hH55 ⟨u81, _, rfl⟩ rfl rfl rfl rfl rfl (k_dig (y := y) (q := s) (by omega) (fun z95 h95 => ⟨_, rfl, ?_⟩))
      refine xif_eq 101 ⟨u81, _, rfl⟩ rfl (fun c98 => ?_) (fun c98 => ?_)
      · refine xald 109 ⟨u81, _, rfl⟩ rfl rfl ?_
        refine xild 110 ⟨u81, _, rfl⟩ rfl rfl ?_
        refine xbip 112 (59) ⟨u81, _, rfl⟩ rfl (by decide) (fun z110 h110 => ?_)
        refine xcmp_ne 115 ⟨u81, _, rfl⟩ rfl (fun c112 => ?_) (fun c112 => ?_)
        · refine xcst 120 (4) ⟨u81, _, rfl⟩ rfl (by decide) (fun z119 h119 => ?_)
          refine xputC 123 hH55 ⟨u81, _, rfl⟩ rfl (by decide) (by decide) rfl rfl (by decide) ⟨rfl, rfl⟩ (by omega) (by omega) (fun hp120 hH120 U120 => ?_)
          have s120 := U120.1
          have n120_1_0 : rN hp120 (1) 0 = rN hp55 (1) 0 := rU_ne U120 (by first | decide | exact (fun z => absurd z.1 (by decide)) | omega)
          have n120_1_4 : rN hp120 (1) 4 = rN hp55 (1) 4 := rU_ne U120 (by first | decide | exact (fun z => absurd z.1 (by decide)) | omega)
          have n120_1_6 : rN hp120 (1) 6 = rN hp55 (1) 6 := rU_ne U120 (by first | decide | exact (fun z => absurd z.1 (by decide)) | omega)
          have n120_1_7 : rN hp120 (1) 7 = rN hp55 (1) 7 := rU_ne U120 (by first | decide | exact (fun z => absurd z.1 (by decide)) | omega)
          refine xald 124 ⟨u81, _, rfl⟩ rfl rfl ?_
          refine xdup 125 ⟨u81, _, rfl⟩ rfl rfl ?_
          refine xgetC 128 hH120 ⟨u81, _, rfl⟩ rfl (by decide) (by decide) rfl rfl (by decide) (fun z125 h125 => ?_)
          refine xcst 129 (1) ⟨u81, _, rfl⟩ rfl (by decide) (fun z128 h128 => ?_)
          refine xadd 130 _ ⟨u81, _, rfl⟩ rfl rfl (by omega) (by omega) (fun z129 h129 => ?_)
          refine xputC 133 hH120 ⟨u81, _, rfl⟩ rfl (by decide) (by decide) rfl rfl (by decide) ⟨rfl, rfl⟩ (by omega) (by omega) (fun hp130 hH130 U130 => ?_)
          have s130 := U130.1
          have n130_1_0 : rN hp130 (1) 0 = rN hp120 (1) 0 := rU_ne U130 (by first | decide | exact (fun z => absurd z.1 (by decide)) | omega)
          have n130_1_5 : rN hp130 (1) 5 = rN hp120 (1) 5 := rU_ne U130 (by first | decide | exact (fun z => absurd z.1 (by decide)) | omega)
          have n130_1_6 : rN hp130 (1) 6 = rN hp120 (1) 6 := rU_ne U130 (by first | decide | exact (fun z => absurd z.1 (by decide)) | omega)
          have n130_1_7 : rN hp130 (1) 7 = rN hp120 (1) 7 := rU_ne U130 (by first | decide | exact (fun z => absurd z.1 (by decide)) | omega)
          exact xretV ⟨u81, _, rfl⟩ rfl (hR hp130 hH130 (((hF.trans (rU_fr U55 (by decide))).trans (rU_fr U120 (by decide))).trans (rU_fr U130 (by decide))) (cT_3 (by omega) (by rcases h81 with z | z; omega; exact z.2) (by rcases h95 with z | z; omega; exact z.2) (by omega) (by omega) (by rw [if_neg (by omega)]; omega)))
        · refine xcst 116 (3) ⟨u81, _, rfl⟩ rfl (by decide) (fun z115 h115 => ?_)
          refine xgoto ⟨u81, _, rfl⟩ ?_
          refine xputC 123 hH55 ⟨u81, _, rfl⟩ rfl (by decide) (by decide) rfl rfl (by decide) ⟨rfl, rfl⟩ (by omega) (by omega) (fun hp120 hH120 U120 => ?_)
          have s120 := U120.1
          have n120_1_0 : rN hp120 (1) 0 = rN hp55 (1) 0 := rU_ne U120 (by first | decide | exact (fun z => absurd z.1 (by decide)) | omega)
          have n120_1_4 : rN hp120 (1) 4 = rN hp55 (1) 4 := rU_ne U120 (by first | decide | exact (fun z => absurd z.1 (by decide)) | omega)
          have n120_1_6 : rN hp120 (1) 6 = rN hp55 (1) 6 := rU_ne U120 (by first | decide | exact (fun z => absurd z.1 (by decide)) | omega)
          have n120_1_7 : rN hp120 (1) 7 = rN hp55 (1) 7 := rU_ne U120 (by first | decide | exact (fun z => absurd z.1 (by decide)) | omega)
          refine xald 124 ⟨u81, _, rfl⟩ rfl rfl ?_
          refine xdup 125 ⟨u81, _, rfl⟩ rfl rfl ?_
          refine xgetC 128 hH120 ⟨u81, _, rfl⟩ rfl (by decide) (by decide) rfl rfl (by decide) (fun z125 h125 => ?_)
          refine xcst 129 (1) ⟨u81, _, rfl⟩ rfl (by decide) (fun z128 h128 => ?_)
          refine xadd 130 _ ⟨u81, _, rfl⟩ rfl rfl (by omega) (by omega) (fun z129 h129 => ?_)
          refine xputC 133 hH120 ⟨u81, _, rfl⟩ rfl (by decide) (by decide) rfl rfl (by decide) ⟨rfl, rfl⟩ (by omega) (by omega) (fun hp130 hH130 U130 => ?_)
          have s130 := U130.1
          have n130_1_0 : rN hp130 (1) 0 = rN hp120 (1) 0 := rU_ne U130 (by first | decide | exact (fun z => absurd z.1 (by decide)) | omega)
          have n130_1_5 : rN hp130 (1) 5 = rN hp120 (1) 5 := rU_ne U130 (by first | decide | exact (fun z => absurd z.1 (by decide)) | omega)
          have n130_1_6 : rN hp130 (1) 6 = rN hp120 (1) 6 := rU_ne U130 (by first | decide | exact (fun z => absurd z.1 (by decide)) | omega)
          have n130_1_7 : rN hp130 (1) 7 = rN hp120 (1) 7 := rU_ne U130 (by first | decide | exact (fun z => absurd z.1 (by decide)) | omega)
          exact xretV ⟨u81, _, rfl⟩ rfl (hR hp130 hH130 (((hF.trans (rU_fr U55 (by decide))).trans (rU_fr U120 (by decide))).trans (rU_fr U130 (by decide))) (cT_3 (by omega) (by rcases h81 with z | z; omega; exact z.2) (by rcases h95 with z | z; omega; exact z.2) (by omega) (by omega) (by rw [if_pos (by omega)]; omega)))
      · refine xald 102 ⟨u81, _, rfl⟩ rfl rfl ?_
        refine xcallC 105 (o := 1) [] [] hH55 ⟨u81, _, rfl⟩ rfl rfl (by decide) rfl (by decide) rfl ⟨rfl, rfl, rfl, rfl⟩ rfl (k_rn hH55 ((cB_U U55 (by decide)).trans Y) (by rw [n55_1_0, n0]; exact hok) (s := s) (by omega) (by omega) (by omega) (fun hp102 hH102 F102 A102 B102 C102 D102 => ⟨_, rfl, ?_⟩))
        refine xgoto ⟨u81, _, rfl⟩ ?_
        exact xretV ⟨u81, _, rfl⟩ rfl (hR hp102 hH102 ((hF.trans (rU_fr U55 (by decide))).trans F102) (cT_2 (by omega) (by rcases h81 with z | z; omega; exact z.2) (by rcases h95 with z | z; exact z.2; omega) A102 B102 C102 D102))
    · refine xald 88 ⟨u81, _, rfl⟩ rfl rfl ?_
      refine xcallC 91 (o := 1) [] [] hH55 ⟨u81, _, rfl⟩ rfl rfl (by decide) rfl (by decide) rfl ⟨rfl, rfl, rfl, rfl⟩ rfl (k_rw hH55 ((cB_U U55 (by decide)).trans Y) (by rw [n55_1_0, n0]; exact hok) (s := s) (by omega) (by omega) (by omega) (fun hp88 hH88 F88 A88 B88 C88 => ⟨_, rfl, ?_⟩))
      refine xgoto ⟨u81, _, rfl⟩ ?_
      exact xretV ⟨u81, _, rfl⟩ rfl (hR hp88 hH88 ((hF.trans (rU_fr U55 (by decide))).trans F88) (cT_1 (by omega) (by rcases h81 with z | z; exact z.2; omega) A88 B88 C88))
  · refine xald 73 ⟨u81, _, rfl⟩ rfl rfl ?_
    refine xcst 74 (0) ⟨u81, _, rfl⟩ rfl (by decide) (fun z73 h73 => ?_)
    refine xputC 77 hH55 ⟨u81, _, rfl⟩ rfl (by decide) (by decide) rfl rfl (by decide) ⟨rfl, rfl⟩ (by omega) (by omega) (fun hp74 hH74 U74 => ?_)
    have s74 := U74.1
    have n74_1_0 : rN hp74 (1) 0 = rN hp55 (1) 0 := rU_ne U74 (by first | decide | exact (fun z => absurd z.1 (by decide)) | omega)
    have n74_1_4 : rN hp74 (1) 4 = rN hp55 (1) 4 := rU_ne U74 (by first | decide | exact (fun z => absurd z.1 (by decide)) | omega)
    have n74_1_6 : rN hp74 (1) 6 = rN hp55 (1) 6 := rU_ne U74 (by first | decide | exact (fun z => absurd z.1 (by decide)) | omega)
    have n74_1_7 : rN hp74 (1) 7 = rN hp55 (1) 7 := rU_ne U74 (by first | decide | exact (fun z => absurd z.1 (by decide)) | omega)
    refine xgoto ⟨u81, _, rfl⟩ ?_
    exact xretV ⟨u81, _, rfl⟩ rfl (hR hp74 hH74 ((hF.trans (rU_fr U55 (by decide))).trans (rU_fr U74 (by decide))) (cT_0 (by omega) (by omega) (by omega) (by omega)))
/-- on to the next token -/
theorem k_cadv {d : Nat} {hp : amH} {R : xQ} {y : tY} {p : Nat} (hH : bHk 84 bTT hp) (Y : cB hp = y) (h4 : rN hp 1 4 = (p : Int)) (hp0 : (p : Int) ≤ rN hp 1 0)
    (hR : ∀ hp1, bHk 84 bTT hp1 → bFr wCt hp hp1 → cB hp1 = y → cT hp1 y (tS y p) → R (.inl none) hp1) : xK (d + 2) 81 [.ref 1] hp R := by
  have hok : tOk (rN hp 1 0).toNat y := by rw [← Y]; exact cB_ok hH
  refine xin (M := am_m81) rfl rfl rfl ?_
  exact l81 hok rfl (fun hp1 g1 g2 g3 g4 g5 => e81 hok (fun hp2 k1 k2 k3 => hR hp2 k1 k2 (by rw [cB_F k2, Y]) k3) g1 g2 g3 g4 g5) (rN hp 1 0 - p).toNat p hp hH (bFr.refl _ _) Y h4 (Nat.le_refl _) (fun k k1 k2 => by omega) (by omega)
end
/-! ##### 19.m.004.26c ##### -/
section
/-! ===== the class's tokens: words; errors ===== -/
section XV2
variable {M : amM} {pc a b d : Nat} {L : List (Option Value)} {st : List Value} {hp : amH} {Q : xQ}
theorem xchrSE (q n : Nat) {i : _} {r : Nat} {l : List Int32} {x : Int32} (h : xI M pc (.invokevirtual i) a 8) (e : q = pc + 3) (hl : amWd r = some l ∧ l.length ≤ 100) (h8 : xS8 st = true) (hn : x.toInt = (n : Int)) (x1 : n < l.length) (hw : ∀ z : Int32, z.toInt = (l.getD n 0).toInt → xV d M q L (.int z :: st) hp Q) : xV d M pc L (.int x :: .ref r :: st) hp Q := by
  obtain ⟨e1, hin⟩ := rw_in (i := x) (n := n) (m := l.length) hn x1
  refine xstep h (fun cl hcl => ⟨cl, ?_, hcl⟩) (hw (l.getD n 0) rfl)
  subst e
  have h8 := Nat.le_of_ble_eq_true h8
  simp only [amDo, amChrS, hl.1]
  rw [if_neg (by decide), if_pos trivial, if_pos ⟨hin, h8⟩, e1]
end XV2
theorem ckK_1 {y : tY} {s : Nat} : ckK y s = 1 ↔ tK y s = 1 := by
  unfold ckK
  constructor
  · intro h
    split at h
    · omega
    · exact h
  · intro h
    rw [if_neg (by omega)]
    exact h
theorem ckK_2 {y : tY} {s : Nat} : ckK y s = 2 ↔ (tK y s = 2 ∧ tE y s ≤ s + 2) := by
  unfold ckK
  constructor
  · intro h
    split at h
    · omega
    · next g => exact ⟨h, Nat.le_of_not_lt (fun z => g ⟨h, by omega⟩)⟩
  · intro h
    rw [if_neg (fun z => z.2 h.2)]
    exact h.1
theorem ckK_3 {y : tY} {s : Nat} : ckK y s = 3 ↔ tK y s = 3 := by
  unfold ckK
  constructor
  · intro h
    split at h
    · omega
    · exact h
  · intro h
    rw [if_neg (by omega)]
    exact h
theorem ckK_0 {y : tY} {s : Nat} : ckK y s = 0 ↔ tK y s = 0 := by
  unfold ckK
  constructor
  · intro h
    split at h
    · omega
    · exact h
  · intro h
    rw [if_neg (by omega)]
    exact h
theorem l84 {d : Nat} {hp : amH} {R : xQ} {y : tY} {s r : Nat} {l : List Int32} (hl : amWd r = some l ∧ l.length ≤ 100) (hH : bHk 84 bTT hp) (Y : cB hp = y) (h6 : rN hp 1 6 = (s : Int)) (hs : s ≤ 600)
    (hall : (∀ k, k < l.length → y (s + k) = (l.getD k 0).toInt) → tWd y s l = true)
    (hR : ∀ z : Int32, ((z.toInt = 1 ∧ tWd y s l = true) ∨ (z.toInt = 0 ∧ tWd y s l = false)) → R (.inl (some (.int z))) hp) :
    ∀ (jj q : Nat) (k : Int32), k.toInt = (q : Int) → q + jj = l.length → (∀ k, k < q → y (s + k) = (l.getD k 0).toInt) → xV (d + 1) am_m84 28 [some (.ref 1), some (.ref r), some (.int k)] [] hp R := by
  intro jj
  induction jj using Nat.strongRecOn with
  | ind jj ih =>
    intro q k hk hjj hq
    have hl2 := hl.2
    refine xild 29 ⟨u84, _, rfl⟩ rfl rfl ?_
    refine xald 30 ⟨u84, _, rfl⟩ rfl rfl ?_
    refine xlenS 33 ⟨u84, _, rfl⟩ rfl hl rfl (fun z30 h30 => ?_)
    refine xcmp_ge 36 ⟨u84, _, rfl⟩ rfl (fun c33 => ?_) (fun c33 => ?_)
    · refine xcst 63 (1) ⟨u84, _, rfl⟩ rfl (by decide) (fun z62 h62 => ?_)
      exact xretB ⟨u84, _, rfl⟩ rfl (by omega) (hR _ (Or.inl ⟨by omega, hall (fun k hk => hq k (by omega))⟩))
    · refine xald 37 ⟨u84, _, rfl⟩ rfl rfl ?_
      refine xald 38 ⟨u84, _, rfl⟩ rfl rfl ?_
      refine xgetC 41 hH ⟨u84, _, rfl⟩ rfl (by decide) (by decide) rfl rfl (by decide) (fun z38 h38 => ?_)
      refine xild 42 ⟨u84, _, rfl⟩ rfl rfl ?_
      refine xadd 43 _ ⟨u84, _, rfl⟩ rfl rfl (by omega) (by omega) (fun z42 h42 => ?_)
      refine xcallC 46 (o := 1) [.int _] [] hH ⟨u84, _, rfl⟩ rfl rfl (by decide) rfl (by decide) rfl ⟨rfl, rfl, rfl, rfl⟩ rfl (k_cB hH Y (q := s + q) (by omega) (fun z43 h43 => ⟨_, rfl, ?_⟩))
      refine xald 47 ⟨u84, _, rfl⟩ rfl rfl ?_
      refine xild 48 ⟨u84, _, rfl⟩ rfl rfl ?_
      refine xchrSE 51 q ⟨u84, _, rfl⟩ rfl hl rfl (by omega) (by omega) (fun z48 h48 => ?_)
      refine xcmp_eq 54 ⟨u84, _, rfl⟩ rfl (fun c51 => ?_) (fun c51 => ?_)
      · refine xinc 59 (1) ⟨u84, _, rfl⟩ rfl rfl rfl (by decide) (by omega) (by omega) (fun z56 h56 => ?_)
        refine xgoto ⟨u84, _, rfl⟩ ?_
        exact ih (jj - 1) (by omega) (q + 1) _ (by omega) (by omega) (fun k k1 => by rcases Nat.lt_or_ge k q with g | g; exact hq k g; rw [show k = q by omega]; omega)
      · refine xcst 55 (0) ⟨u84, _, rfl⟩ rfl (by decide) (fun z54 h54 => ?_)
        exact xretB ⟨u84, _, rfl⟩ rfl (by omega) (hR _ (Or.inr ⟨by omega, by cases e9 : tWd y s l; rfl; have := (of_decide_eq_true e9).2.2 q (by omega); omega⟩))
/-- is the token this word -/
theorem k_cw {d : Nat} {hp : amH} {R : xQ} {y : tY} {s r : Nat} {l : List Int32} (hok : amOk 84 (.ref r) = true) (hl : amWd r = some l ∧ l.length ≤ 100) (hH : bHk 84 bTT hp) (Y : cB hp = y) (T : cT hp y s) (hs : s ≤ 600)
    (hR : ∀ z : Int32, ((z.toInt = 1 ∧ tWd y s l = true) ∨ (z.toInt = 0 ∧ tWd y s l = false)) → R (.inl (some (.int z))) hp) : xK (d + 1) 84 [.ref 1, .ref r] hp R := by
  obtain ⟨h6, h4, h5, -⟩ := T
  have hE := tE_le (by rw [← Y]; exact cB_ok hH : tOk (rN hp 1 0).toNat y) (s := s)
  have b0 := b1_0 hH
  have hE2 : tE y s ≤ 100000 ∨ True := Or.inr trivial
  have b4 := rb_c hH (c := 1) (f := 4) (by decide) rfl rfl (by decide)
  have hge := tE_ge (y := y) (s := s)
  refine xin (M := am_m84) rfl rfl (by unfold xAv; simp only [List.all_cons, List.all_nil, hok]; rfl) ?_
  refine xald 1 ⟨u84, _, rfl⟩ rfl rfl ?_
  refine xgetC 4 hH ⟨u84, _, rfl⟩ rfl (by decide) (by decide) rfl rfl (by decide) (fun z1 h1 => ?_)
  refine xcst 5 (1) ⟨u84, _, rfl⟩ rfl (by decide) (fun z4 h4 => ?_)
  refine xcmp_ne 8 ⟨u84, _, rfl⟩ rfl (fun c5 => ?_) (fun c5 => ?_)
  · refine xcst 25 (0) ⟨u84, _, rfl⟩ rfl (by decide) (fun z24 h24 => ?_)
    exact xretB ⟨u84, _, rfl⟩ rfl (by omega) (hR _ (Or.inr ⟨by omega, by cases e9 : tWd y s l; rfl; have := ckK_1.mpr (of_decide_eq_true e9).1; omega⟩))
  · refine xald 9 ⟨u84, _, rfl⟩ rfl rfl ?_
    refine xgetC 12 hH ⟨u84, _, rfl⟩ rfl (by decide) (by decide) rfl rfl (by decide) (fun z9 h9 => ?_)
    refine xald 13 ⟨u84, _, rfl⟩ rfl rfl ?_
    refine xgetC 16 hH ⟨u84, _, rfl⟩ rfl (by decide) (by decide) rfl rfl (by decide) (fun z13 h13 => ?_)
    refine xsub 17 _ ⟨u84, _, rfl⟩ rfl rfl (by omega) (by omega) (fun z16 h16 => ?_)
    refine xald 18 ⟨u84, _, rfl⟩ rfl rfl ?_
    refine xlenS 21 ⟨u84, _, rfl⟩ rfl hl rfl (fun z18 h18 => ?_)
    refine xcmp_eq 24 ⟨u84, _, rfl⟩ rfl (fun c21 => ?_) (fun c21 => ?_)
    · refine xcst 27 (0) ⟨u84, _, rfl⟩ rfl (by decide) (fun z26 h26 => ?_)
      refine xist 28 ⟨u84, _, rfl⟩ rfl rfl ?_
      exact l84 hl hH Y h6 hs (fun g => decide_eq_true ⟨ckK_1.mp (by omega), by omega, g⟩) hR l.length 0 _ (by omega) (by omega) (fun k k1 => by omega)
    · refine xcst 25 (0) ⟨u84, _, rfl⟩ rfl (by decide) (fun z24 h24 => ?_)
      exact xretB ⟨u84, _, rfl⟩ rfl (by omega) (hR _ (Or.inr ⟨by omega, by cases e9 : tWd y s l; rfl; have := (of_decide_eq_true e9).2.1; omega⟩))
noncomputable def wCf : List (Nat × Nat) := [(1, 1), (1, 2)]
/-- an error at the token -/
theorem k_cf {d : Nat} {hp : amH} {R : xQ} {c : Int32} (hH : bHk 84 bTT hp) (hR : ∀ (z : Int32) hp1, z.toInt = 0 → bHk 84 bTT hp1 → bFr wCf hp hp1 → rN hp1 1 1 = c.toInt → rN hp1 1 2 = rN hp 1 6 → R (.inl (some (.int z))) hp1) : xK d 80 [.ref 1, .int c] hp R := by
  have b1 := aMin c
  have b2 := aMax c
  refine xin (M := am_m80) rfl rfl rfl ?_
  refine xald 1 ⟨u80, _, rfl⟩ rfl rfl ?_
  refine xild 2 ⟨u80, _, rfl⟩ rfl rfl ?_
  refine xputC 5 hH ⟨u80, _, rfl⟩ rfl (by decide) (by decide) rfl rfl (by decide) ⟨rfl, rfl⟩ (by omega) (by omega) (fun hp2 hH2 U2 => ?_)
  have s2 := U2.1
  have n2_1_6 : rN hp2 (1) 6 = rN hp (1) 6 := rU_ne U2 (by first | decide | exact (fun z => absurd z.1 (by decide)) | omega)
  refine xald 6 ⟨u80, _, rfl⟩ rfl rfl ?_
  refine xald 7 ⟨u80, _, rfl⟩ rfl rfl ?_
  refine xgetC 10 hH2 ⟨u80, _, rfl⟩ rfl (by decide) (by decide) rfl rfl (by decide) (fun z7 h7 => ?_)
  have bmn := aMin z7
  have bmx := aMax z7
  refine xputC 13 hH2 ⟨u80, _, rfl⟩ rfl (by decide) (by decide) rfl rfl (by decide) ⟨rfl, rfl⟩ (by omega) (by omega) (fun hp10 hH10 U10 => ?_)
  have s10 := U10.1
  have n10_1_1 : rN hp10 (1) 1 = rN hp2 (1) 1 := rU_ne U10 (by first | decide | exact (fun z => absurd z.1 (by decide)) | omega)
  have n10_1_6 : rN hp10 (1) 6 = rN hp2 (1) 6 := rU_ne U10 (by first | decide | exact (fun z => absurd z.1 (by decide)) | omega)
  refine xcst 14 (0) ⟨u80, _, rfl⟩ rfl (by decide) (fun z13 h13 => ?_)
  exact xretB ⟨u80, _, rfl⟩ rfl (by omega) (hR _ _ (by omega) hH10 ((rU_fr U2 (by decide)).trans (rU_fr U10 (by decide))) (by omega) (by omega))
end
/-! ##### 19.m.005.26d ##### -/
section
/-! ===== the class's sets of points ===== -/
theorem u68 : bUp 0 am_m68.1 = true := by decide +kernel
theorem u69 : bUp 0 am_m69.1 = true := by decide +kernel
theorem u70 : bUp 0 am_m70.1 = true := by decide +kernel
theorem u71 : bUp 0 am_m71.1 = true := by decide +kernel
section XN
variable {M : amM} {pc a b d : Nat} {L : List (Option Value)} {st : List Value} {hp : amH} {Q : xQ}
theorem xneg (q : Nat) {x : Int32} (h : xI M pc .ineg a b) (e : q = pc + 1) (hw : xV d M q L (.int (-x) :: st) hp Q) : xV d M pc L (.int x :: st) hp Q := by
  refine xstep h (fun cl hl => ⟨cl, ?_, hl⟩) hw
  subst e
  simp [amDo, amStep, amI]
end XN
/-- the sets of three points -/
theorem m3_lt {x y z : Nat} (hx : x < 15) (hy : y < 15) (hz : z < 15) : m3 x y z < 32768 := by
  have h1 : 2 ^ x < 2 ^ 15 := Nat.pow_lt_pow_right (by decide) hx
  have h2 : 2 ^ y < 2 ^ 15 := Nat.pow_lt_pow_right (by decide) hy
  have h3 : 2 ^ z < 2 ^ 15 := Nat.pow_lt_pow_right (by decide) hz
  exact Nat.or_lt_two_pow (Nat.or_lt_two_pow h1 h2) h3
theorem k_three {d : Nat} {hp : amH} {R : xQ} {a b c : Int32} {x y z : Nat} (ha : a.toInt = (x : Int)) (hb : b.toInt = (y : Int)) (hc : c.toInt = (z : Int)) (hx : x < 15) (hy : y < 15) (hz : z < 15) (hR : ∀ r : Int32, r.toInt = ((m3 x y z : Nat) : Int) → R (.inl (some (.int r))) hp) : xK d 68 [.int a, .int b, .int c] hp R := by
  refine xin (M := am_m68) rfl rfl rfl ?_
  refine xcst 1 (1) ⟨u68, _, rfl⟩ rfl (by decide) (fun z0 h0 => ?_)
  refine xild 2 ⟨u68, _, rfl⟩ rfl rfl ?_
  refine xshl 3 ⟨u68, _, rfl⟩ rfl ?_
  refine xcst 4 (1) ⟨u68, _, rfl⟩ rfl (by decide) (fun z3 h3 => ?_)
  refine xild 5 ⟨u68, _, rfl⟩ rfl rfl ?_
  refine xshl 6 ⟨u68, _, rfl⟩ rfl ?_
  refine xor_ 7 ⟨u68, _, rfl⟩ rfl ?_
  refine xcst 8 (1) ⟨u68, _, rfl⟩ rfl (by decide) (fun z7 h7 => ?_)
  refine xild 9 ⟨u68, _, rfl⟩ rfl rfl ?_
  refine xshl 10 ⟨u68, _, rfl⟩ rfl ?_
  refine xor_ 11 ⟨u68, _, rfl⟩ rfl ?_
  exact xret ⟨u68, _, rfl⟩ rfl (hR _ (by have e1 := i_shl h0 ha hx; have e2 := i_shl h3 hb hy; have e3 := i_or e1.1 e2.1 e1.2 e2.2; have e4 := i_shl h7 hc hz; exact (i_or e3.1 e4.1 e3.2 e4.2).1))
theorem k_has {d : Nat} {hp : amH} {R : xQ} {a b : Int32} {m n : Nat} (ha : a.toInt = (m : Int)) (hm : m < 32768) (hb : b.toInt = (n : Int)) (hn : n < 15) (hR : ∀ r : Int32, r.toInt = (if m.testBit n then 1 else 0) → R (.inl (some (.int r))) hp) : xK d 69 [.int a, .int b] hp R := by
  refine xin (M := am_m69) rfl rfl rfl ?_
  refine xild 1 ⟨u69, _, rfl⟩ rfl rfl ?_
  refine xild 2 ⟨u69, _, rfl⟩ rfl rfl ?_
  refine xshr 3 ⟨u69, _, rfl⟩ rfl ?_
  refine xcst 4 (1) ⟨u69, _, rfl⟩ rfl (by decide) (fun z3 h3 => ?_)
  refine xand 5 ⟨u69, _, rfl⟩ rfl ?_
  refine xcst 6 (1) ⟨u69, _, rfl⟩ rfl (by decide) (fun z5 h5 => ?_)
  refine xcmp_ne 9 ⟨u69, _, rfl⟩ rfl (fun c6 => ?_) (fun c6 => ?_)
  · refine xcst 14 (0) ⟨u69, _, rfl⟩ rfl (by decide) (fun z13 h13 => ?_)
    exact xretB ⟨u69, _, rfl⟩ rfl (by omega) (hR _ (by have e := i_bit ha hm hb hn h3; have w := c6; cases g : m.testBit n <;> rw [g] at e <;> simp only [if_true, if_false, Bool.false_eq_true] at e ⊢ <;> omega))
  · refine xcst 10 (1) ⟨u69, _, rfl⟩ rfl (by decide) (fun z9 h9 => ?_)
    refine xgoto ⟨u69, _, rfl⟩ ?_
    exact xretB ⟨u69, _, rfl⟩ rfl (by omega) (hR _ (by have e := i_bit ha hm hb hn h3; have w := c6; cases g : m.testBit n <;> rw [g] at e <;> simp only [if_true, if_false, Bool.false_eq_true] at e ⊢ <;> omega))
/-- the lowest i points left out -/
noncomputable def clrN : Nat → Nat → Nat
  | 0, m => m
  | i + 1, m => clrN i m &&& (clrN i m - 1)
theorem clr_lt {m : Nat} (h : m < 32768) : ∀ i, clrN i m < 32768
  | 0 => h
  | i + 1 => Nat.lt_of_le_of_lt Nat.and_le_left (clr_lt h i)
theorem i_clr {x o : Int32} {r : Nat} (hx : x.toInt = (r : Int)) (hr : r < 32768) {z : Int32} (hz : z.toInt = x.toInt - 1) : (x &&& z).toInt = ((r &&& (r - 1) : Nat) : Int) := by
  rcases Nat.eq_zero_or_pos r with g | g
  · have : x = 0 := Int32.toInt_inj.mp (by rw [hx, g]; rfl)
    subst this
    subst g
    rw [Int32.zero_and]
    rfl
  · exact (i_and hx (b := r - 1) (by omega) hr).1
noncomputable def lowN (r : Nat) : Nat := r &&& (4294967296 - r)
theorem i_low {x : Int32} {r : Nat} (hx : x.toInt = (r : Int)) (hr : r < 32768) (h0 : 0 < r) : (x &&& -x).toInt = ((lowN r : Nat) : Int) ∧ lowN r < 32768 := by
  have e1 := bN_t hx
  have l : lowN r < 32768 := Nat.lt_of_le_of_lt Nat.and_le_left hr
  have e2 : bN (x &&& -x) = lowN r := by
    unfold bN lowN at *
    rw [Int32.toBitVec_and, Int32.toBitVec_neg, BitVec.toNat_and, BitVec.toNat_neg, e1, Nat.mod_eq_of_lt (by omega)]
  exact ⟨by rw [t_bN (by omega), e2], l⟩
noncomputable def bcN (n : Nat) : Int := (bcF (Int32.ofNat n)).toInt
/-- the point at a place of a set -/
noncomputable def memN (m i : Nat) : Int := if clrN i m = 0 then -1 else bcN (lowN (clrN i m) - 1)
theorem mem_m3 : ∀ x y z : Fin 15, x < y → y < z → memN (m3 x y z) 0 = (x : Nat) ∧ memN (m3 x y z) 1 = (y : Nat) ∧ memN (m3 x y z) 2 = (z : Nat) := by decide +kernel
theorem mem3 {x y z : Nat} (h1 : x < y) (h2 : y < z) (h3 : z < 15) : memN (m3 x y z) 0 = (x : Int) ∧ memN (m3 x y z) 1 = (y : Int) ∧ memN (m3 x y z) 2 = (z : Int) := mem_m3 ⟨x, by omega⟩ ⟨y, by omega⟩ ⟨z, h3⟩ h1 h2
theorem k_bc {d : Nat} {hp : amH} {R : xQ} {x : Int32} {n : Nat} (hx : x.toInt = (n : Int)) (hR : ∀ z : Int32, z.toInt = bcN n → R (.inl (some (.int z))) hp) : xK d 343 [.int x] hp R := by
  refine ⟨am_m343, rfl, 42, .inl (some (.int (bcF x))), hp, m_bits 0 d, hR _ ?_⟩
  have : x = Int32.ofNat n := Int32.toInt_inj.mp (by
    have := aMax x
    rw [hx, Int32.toInt_ofNat_of_lt (by omega)])
  unfold bcN
  rw [← this]
theorem low_all : (List.range 32767).all (fun r => Nat.ble 1 (lowN (r + 1))) = true := by decide +kernel
theorem low_pos {r : Nat} (h0 : 0 < r) (hr : r < 32768) : 0 < lowN r := by
  have := List.all_eq_true.mp low_all (r - 1) (List.mem_range.mpr (by omega))
  have := Nat.le_of_ble_eq_true this
  rw [show r - 1 + 1 = r by omega] at this
  exact this
theorem l70 {d : Nat} {hp : amH} {R : xQ} {a b : Int32} {m i : Nat} (hH : bHk 84 bTT hp) (hm : m < 32768) (hb : b.toInt = (i : Int)) (hR : ∀ r : Int32, r.toInt = memN m i → R (.inl (some (.int r))) hp) :
    ∀ (jj q : Nat) (s k : Int32), s.toInt = ((clrN q m : Nat) : Int) → k.toInt = (q : Int) → q + jj = i → xV (d + 1) am_m70 4 [some (.int a), some (.int b), some (.int s), some (.int k)] [] hp R := by
  intro jj
  induction jj using Nat.strongRecOn with
  | ind jj ih =>
    intro q s k hs hk hjj
    have bb := aMax b
    have hc := clr_lt hm q
    refine xild 5 ⟨u70, _, rfl⟩ rfl rfl ?_
    refine xild 6 ⟨u70, _, rfl⟩ rfl rfl ?_
    refine xcmp_ge 9 ⟨u70, _, rfl⟩ rfl (fun c6 => ?_) (fun c6 => ?_)
    · have eq : q = i := by omega
      subst eq
      refine xild 22 ⟨u70, _, rfl⟩ rfl rfl ?_
      refine xif_ne 25 ⟨u70, _, rfl⟩ rfl (fun c22 => ?_) (fun c22 => ?_)
      · have lo := i_low hs hc (by omega)
        have lo1 : 0 < lowN (clrN q m) := low_pos (by omega) hc
        refine xild 30 ⟨u70, _, rfl⟩ rfl rfl ?_
        refine xild 31 ⟨u70, _, rfl⟩ rfl rfl ?_
        refine xneg 32 ⟨u70, _, rfl⟩ rfl ?_
        refine xand 33 ⟨u70, _, rfl⟩ rfl ?_
        refine xcst 34 (1) ⟨u70, _, rfl⟩ rfl (by decide) (fun z33 h33 => ?_)
        refine xsub 35 _ ⟨u70, _, rfl⟩ rfl rfl (by omega) (by omega) (fun z34 h34 => ?_)
        refine xcallS 38 [.int _] [] hH ⟨u70, _, rfl⟩ rfl rfl rfl rfl rfl (k_bc (n := lowN (clrN q m) - 1) (by omega) (fun z35 h35 => ⟨_, rfl, ?_⟩))
        exact xret ⟨u70, _, rfl⟩ rfl (hR _ (by unfold memN; rw [if_neg (by omega)]; exact h35))
      · refine xcst 26 (-1) ⟨u70, _, rfl⟩ rfl (by decide) (fun z25 h25 => ?_)
        refine xgoto ⟨u70, _, rfl⟩ ?_
        exact xret ⟨u70, _, rfl⟩ rfl (hR _ (by unfold memN; rw [if_pos (by omega)]; exact h25))
    · refine xild 10 ⟨u70, _, rfl⟩ rfl rfl ?_
      refine xild 11 ⟨u70, _, rfl⟩ rfl rfl ?_
      refine xcst 12 (1) ⟨u70, _, rfl⟩ rfl (by decide) (fun z11 h11 => ?_)
      refine xsub 13 _ ⟨u70, _, rfl⟩ rfl rfl (by omega) (by omega) (fun z12 h12 => ?_)
      refine xand 14 ⟨u70, _, rfl⟩ rfl ?_
      refine xist 15 ⟨u70, _, rfl⟩ rfl rfl ?_
      refine xinc 18 (1) ⟨u70, _, rfl⟩ rfl rfl rfl (by decide) (by omega) (by omega) (fun z15 h15 => ?_)
      refine xgoto ⟨u70, _, rfl⟩ ?_
      exact ih (jj - 1) (by omega) (q + 1) _ _ (i_clr (o := 0) hs hc (by omega)) (by omega) (by omega)
theorem k_mem {d : Nat} {hp : amH} {R : xQ} {a b : Int32} {m i : Nat} (hH : bHk 84 bTT hp) (ha : a.toInt = (m : Int)) (hm : m < 32768) (hb : b.toInt = (i : Int)) (hR : ∀ r : Int32, r.toInt = memN m i → R (.inl (some (.int r))) hp) : xK (d + 1) 70 [.int a, .int b] hp R := by
  refine xin (M := am_m70) rfl rfl rfl ?_
  refine xild 1 ⟨u70, _, rfl⟩ rfl rfl ?_
  refine xist 2 ⟨u70, _, rfl⟩ rfl rfl ?_
  refine xcst 3 (0) ⟨u70, _, rfl⟩ rfl (by decide) (fun z2 h2 => ?_)
  refine xist 4 ⟨u70, _, rfl⟩ rfl rfl ?_
  exact l70 hH hm hb hR i 0 _ _ ha (by omega) (by omega)
/-- a set turned -/
noncomputable def rotN (V k m : Nat) : Nat := ((m <<< k) ||| (m >>> (V - k))) &&& (2 ^ V - 1)
theorem rot_or (V k m n : Nat) : rotN V k (m ||| n) = rotN V k m ||| rotN V k n := by
  unfold rotN
  rw [Nat.shiftLeft_or_distrib, Nat.shiftRight_or_distrib]
  apply Nat.eq_of_testBit_eq
  intro i
  simp only [Nat.testBit_and, Nat.testBit_or]
  cases (m <<< k).testBit i <;> cases (n <<< k).testBit i <;> cases (m >>> (V - k)).testBit i <;> cases (n >>> (V - k)).testBit i <;> cases (2 ^ V - 1).testBit i <;> rfl
theorem rot_all : ∀ V k x : Fin 16, 0 < (V : Nat) → k < V → x < V → rotN V k (2 ^ (x : Nat)) = 2 ^ (((x : Nat) + k) % V) := by decide +kernel
theorem rot_m3 {V k x y z : Nat} (hV : V ≤ 15) (hk : k < V) (hx : x < V) (hy : y < V) (hz : z < V) : rotN V k (m3 x y z) = m3 ((x + k) % V) ((y + k) % V) ((z + k) % V) := by
  have f : ∀ x, x < V → rotN V k (2 ^ x) = 2 ^ ((x + k) % V) := fun x hx => rot_all ⟨V, by omega⟩ ⟨k, by omega⟩ ⟨x, by omega⟩ (by show 0 < V; omega) hk hx
  unfold m3
  rw [rot_or, rot_or, f x hx, f y hy, f z hz]
theorem i_shlB {x c : Int32} {m k : Nat} (hx : x.toInt = (m : Int)) (hm : m < 32768) (hc : c.toInt = (k : Int)) (hk : k < 15) : (x <<< (c &&& 31)).toInt = ((m <<< k : Nat) : Int) ∧ m <<< k < 1073741824 := by
  have e1 := bN_t hx
  have e2 : (c &&& 31).toBitVec.smod 32 = BitVec.ofNat 32 k := by
    have : c = Int32.ofNat k := Int32.toInt_inj.mp (by rw [hc, Int32.toInt_ofNat_of_lt (by omega)])
    rw [this]
    exact (sh_all ⟨k, hk⟩).2.2
  have h2 : m <<< k < 1073741824 := by
    rw [Nat.shiftLeft_eq]
    have : 2 ^ k ≤ 2 ^ 14 := Nat.pow_le_pow_right (by decide) (by omega)
    have : m * 2 ^ k ≤ 32767 * 2 ^ 14 := Nat.mul_le_mul (by omega) this
    omega
  have e3 : bN (x <<< (c &&& 31)) = m <<< k := by
    unfold bN at *
    rw [Int32.toBitVec_shiftLeft, e2, BitVec.shiftLeft_eq', BitVec.toNat_shiftLeft, e1, BitVec.toNat_ofNat, Nat.mod_eq_of_lt (a := k) (by omega), Nat.mod_eq_of_lt (by omega)]
  exact ⟨by rw [t_bN2 (by omega), e3], h2⟩
theorem i_orG {x y : Int32} {a b : Nat} (hx : x.toInt = (a : Int)) (hy : y.toInt = (b : Int)) (ha : a < 1073741824) (hb : b < 1073741824) : (x ||| y).toInt = ((a ||| b : Nat) : Int) ∧ a ||| b < 1073741824 := by
  have e1 := bN_t hx
  have e2 := bN_t hy
  have l : a ||| b < 2 ^ 30 := Nat.or_lt_two_pow (by omega) (by omega)
  have e3 : bN (x ||| y) = a ||| b := by
    unfold bN at *
    rw [Int32.toBitVec_or, BitVec.toNat_or, e1, e2]
  exact ⟨by rw [t_bN2 (by omega), e3], by omega⟩
theorem i_andG {x y : Int32} {a b : Nat} (hx : x.toInt = (a : Int)) (hy : y.toInt = (b : Int)) (ha : a < 1073741824) : (x &&& y).toInt = ((a &&& b : Nat) : Int) ∧ a &&& b < 1073741824 := by
  have e1 := bN_t hx
  have e2 := bN_t hy
  have l : a &&& b ≤ a := Nat.and_le_left
  have e3 : bN (x &&& y) = a &&& b := by
    unfold bN at *
    rw [Int32.toBitVec_and, BitVec.toNat_and, e1, e2]
  exact ⟨by rw [t_bN2 (by omega), e3], by omega⟩
theorem i_shlV {o c : Int32} {V : Nat} (ho : o.toInt = 1) (hc : c.toInt = (V : Int)) (hV : V < 16) : (o <<< (c &&& 31)).toInt = ((2 ^ V : Nat) : Int) ∧ 1 ≤ 2 ^ V ∧ 2 ^ V ≤ 32768 := by
  have e1 := bN_t (n := 1) ho
  have e2 : (c &&& 31).toBitVec.smod 32 = BitVec.ofNat 32 V := by
    have : c = Int32.ofNat V := Int32.toInt_inj.mp (by rw [hc, Int32.toInt_ofNat_of_lt (by omega)])
    rw [this]
    exact sh_all2 ⟨V, hV⟩
  have h1 : 2 ^ V ≤ 2 ^ 15 := Nat.pow_le_pow_right (by decide) (by omega)
  have h0 : 0 < 2 ^ V := Nat.pow_pos (by decide)
  have e3 : bN (o <<< (c &&& 31)) = 2 ^ V := by
    unfold bN at *
    rw [Int32.toBitVec_shiftLeft, e2, BitVec.shiftLeft_eq', BitVec.toNat_shiftLeft, e1, BitVec.toNat_ofNat, Nat.mod_eq_of_lt (a := V) (by omega), Nat.shiftLeft_eq, Nat.one_mul, Nat.mod_eq_of_lt (by omega)]
  exact ⟨by rw [t_bN2 (by omega), e3], h0, h1⟩
theorem k_rot {d : Nat} {hp : amH} {R : xQ} {a b c : Int32} {m k V : Nat} (ha : a.toInt = (m : Int)) (hm : m < 32768) (hb : b.toInt = (k : Int)) (hc : c.toInt = (V : Int)) (hk : k < V) (hV : V ≤ 15) (hR : ∀ r : Int32, r.toInt = ((rotN V k m : Nat) : Int) → R (.inl (some (.int r))) hp) : xK d 71 [.int a, .int b, .int c] hp R := by
  refine xin (M := am_m71) rfl rfl rfl ?_
  refine xild 1 ⟨u71, _, rfl⟩ rfl rfl ?_
  refine xild 2 ⟨u71, _, rfl⟩ rfl rfl ?_
  refine xshl 3 ⟨u71, _, rfl⟩ rfl ?_
  refine xild 4 ⟨u71, _, rfl⟩ rfl rfl ?_
  refine xild 5 ⟨u71, _, rfl⟩ rfl rfl ?_
  refine xild 6 ⟨u71, _, rfl⟩ rfl rfl ?_
  refine xsub 7 _ ⟨u71, _, rfl⟩ rfl rfl (by omega) (by omega) (fun z6 h6 => ?_)
  refine xshr 8 ⟨u71, _, rfl⟩ rfl ?_
  refine xor_ 9 ⟨u71, _, rfl⟩ rfl ?_
  refine xcst 10 (1) ⟨u71, _, rfl⟩ rfl (by decide) (fun z9 h9 => ?_)
  refine xild 11 ⟨u71, _, rfl⟩ rfl rfl ?_
  refine xshl 12 ⟨u71, _, rfl⟩ rfl ?_
  refine xcst 13 (1) ⟨u71, _, rfl⟩ rfl (by decide) (fun z12 h12 => ?_)
  have s5 := i_shlV h9 hc (by omega)
  refine xsub 14 _ ⟨u71, _, rfl⟩ rfl rfl (by omega) (by omega) (fun z13 h13 => ?_)
  refine xand 15 ⟨u71, _, rfl⟩ rfl ?_
  have s1 := i_shlB ha hm hb (by omega)
  have s2 := i_shrG ha (n := V - k) (by omega : z6.toInt = ((V - k : Nat) : Int)) (by omega)
  have s3 : m >>> (V - k) < 1073741824 := Nat.lt_of_le_of_lt (Nat.shiftRight_le _ _) (by omega)
  have s4 := i_orG s1.1 s2 (by omega) (by omega)
  have s5 := i_shlV h9 hc (by omega)
  have s6 := i_andG s4.1 (show z13.toInt = ((2 ^ V - 1 : Nat) : Int) by omega) s4.2
  exact xret ⟨u71, _, rfl⟩ rfl (hR _ s6.1)
end
