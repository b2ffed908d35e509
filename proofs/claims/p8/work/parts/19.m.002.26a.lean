/-! ===== the class's text: bytes, tokens ===== -/
theorem u80 : bUp 0 am_m80.1 = true := by decide +kernel
theorem u81 : bUp 0 am_m81.1 = true := by decide +kernel
theorem u82 : bUp 0 am_m82.1 = true := by decide +kernel
theorem u83 : bUp 0 am_m83.1 = true := by decide +kernel
theorem u84 : bUp 0 am_m84.1 = true := by decide +kernel
theorem u85 : bUp 0 am_m85.1 = true := by decide +kernel
theorem u86 : bUp 0 am_m86.1 = true := by decide +kernel
theorem u87 : bUp 0 am_m87.1 = true := by decide +kernel
section XE
variable {M : amM} {pc a b d : Nat} {L : List (Option Value)} {st : List Value} {hp : amH} {Q : xQ}
theorem xlen (q : Nat) {c t n : Nat} {ys : List bY} (hH : bHk 84 bTT hp) (h : xI M pc .arraylength a b) (e : q = pc + 1) (hc : c < 84) (hT : bTT c = some (t, n, ys)) (ht : 32 ≤ t ∧ t ≤ 35) (hn : n ≤ 100000) (hw : ∀ z : Int32, z.toInt = (n : Int) → xV d M q L (.int z :: st) hp Q) : xV d M pc L (.ref c :: st) hp Q := by
  obtain ⟨⟨t1, vs⟩, g1, g2, g3, -⟩ := bHk_at hH hc hT
  have g2 : t1 = t := g2
  subst g2
  have g3 : vs.length = n := g3
  refine xstep h (fun cl hl => ⟨cl, ?_, hl⟩) (hw (Int32.ofNat n) (Int32.toInt_ofNat_of_lt (by omega)))
  subst e
  simp [amDo, amStep, amScLen, amLen, g1, g3, ht]
theorem xbald (q n : Nat) {c len lo hi : Nat} {x : Int32} (hH : bHk 84 bTT hp) (h : xI M pc .baload a b) (e : q = pc + 1) (hq : c < 84) (hT : bTT c = some (34, len, [.inl (lo, hi)])) (hn : x.toInt = (n : Int)) (hl : n < len) (hw : ∀ z : Int32, z.toInt = rN hp c n → xV d M q L (.int z :: st) hp Q) : xV d M pc L (.int x :: .ref c :: st) hp Q := by
  obtain ⟨vs, g1, g2, z, g3, g4, -⟩ := x_fI hH hq hT (f := n) (lo := lo) (hi := hi) rfl hl
  obtain ⟨e1, e2⟩ := rw_in (m := vs.length) hn g2
  refine xstep h (fun cl hl => ⟨cl, ?_, hl⟩) (hw z g4)
  subst e
  have g5 : vs.getD n .null = .int z := by rw [List.getD_eq_getElem?_getD, g3]; rfl
  simp only [amDo, amStep, amALd, g1, e1, e2, g5, amIsI, and_self, if_true, Option.map_some]
theorem xsubw (q : Nat) {x y : Int32} (h : xI M pc .isub a b) (e : q = pc + 1) (hw : ∀ z : Int32, z = x - y → xV d M q L (.int z :: st) hp Q) : xV d M pc L (.int y :: .int x :: st) hp Q := by
  refine xstep h (fun cl hl => ⟨cl, ?_, hl⟩) (hw (x - y) rfl)
  subst e
  simp [amDo, amStep, amII]
end XE
theorem m255 {x z : Int32} (h : z.toInt = 255) : (x &&& z).toInt = x.toInt % 256 := by
  have e : z = 255 := Int32.toInt_inj.mp h
  subst e
  have h2 : (x &&& 255).toInt = (x &&& 255).toBitVec.toInt := rfl
  have h3 : x.toInt = x.toBitVec.toInt := rfl
  rw [h2, h3, Int32.toBitVec_and]
  have h4 : (x.toBitVec &&& (255 : Int32).toBitVec).toNat = x.toBitVec.toNat % 256 := by
    rw [BitVec.toNat_and]
    exact Nat.and_two_pow_sub_one_eq_mod x.toBitVec.toNat 8
  have h5 := x.toBitVec.isLt
  rw [BitVec.toInt_eq_toNat_cond, BitVec.toInt_eq_toNat_cond, h4]
  split <;> split <;> omega
/-- the class's bytes -/
def cB (hp : amH) : tY := fun k => if (k : Int) < rN hp 1 0 then rN hp 2 k % 256 else -1
def rB (hp : amH) : tY := fun k => if (k : Int) < rN hp 66 21 then rN hp 80 k else -1
theorem b1_0 {hp : amH} (hH : bHk 84 bTT hp) : 0 ≤ rN hp 1 0 ∧ rN hp 1 0 ≤ 600 := by
  have := rb_c hH (c := 1) (f := 0) (by decide) rfl rfl (by decide)
  omega
theorem cB_ok {hp : amH} (hH : bHk 84 bTT hp) : tOk (rN hp 1 0).toNat (cB hp) := by
  have b := b1_0 hH
  refine ⟨by omega, fun k hk => ?_, fun k hk => ?_⟩
  · unfold cB
    rw [if_pos (by omega)]
    omega
  · unfold cB
    rw [if_neg (by omega)]
theorem cB_U {hp hp1 : amH} {j : Nat} {m : Int} (U : rU hp hp1 1 j m) (hj : ¬ j = 0) : cB hp1 = cB hp := by
  funext k
  unfold cB
  rw [rU_ne U (by omega), rU_ne U (by omega)]
def wCt : List (Nat × Nat) := [(1, 4), (1, 5), (1, 6), (1, 7)]
theorem cB_F {hp hp1 : amH} (F : bFr wCt hp hp1) : cB hp1 = cB hp := by
  funext k
  unfold cB
  rw [show rN hp1 1 0 = rN hp 1 0 from r_fr F rfl, show rN hp1 2 k = rN hp 2 k from r_fr F rfl]
theorem k_cB {d : Nat} {hp : amH} {R : xQ} {k : Int32} {y : tY} {q : Nat} (hH : bHk 84 bTT hp) (hY : cB hp = y) (hk : k.toInt = (q : Int)) (hR : ∀ z : Int32, z.toInt = y q → R (.inl (some (.int z))) hp) : xK d 85 [.ref 1, .int k] hp R := by
  refine xin (M := am_m85) rfl rfl rfl ?_
  subst hY
  have b1 := b1_0 hH
  refine xild 1 ⟨u85, _, rfl⟩ rfl rfl ?_
  refine xif_lt 4 ⟨u85, _, rfl⟩ rfl (fun c1 => ?_) (fun c1 => ?_)
  · omega
  · refine xild 5 ⟨u85, _, rfl⟩ rfl rfl ?_
    refine xald 6 ⟨u85, _, rfl⟩ rfl rfl ?_
    refine xgetC 9 hH ⟨u85, _, rfl⟩ rfl (by decide) (by decide) rfl rfl (by decide) (fun z6 h6 => ?_)
    refine xcmp_ge 12 ⟨u85, _, rfl⟩ rfl (fun c9 => ?_) (fun c9 => ?_)
    · refine xcst 35 (-1) ⟨u85, _, rfl⟩ rfl (by decide) (fun z34 h34 => ?_)
      exact xret ⟨u85, _, rfl⟩ rfl (hR _ (by unfold cB; rw [if_neg (by omega)]; exact h34))
    · refine xild 13 ⟨u85, _, rfl⟩ rfl rfl ?_
      refine xald 14 ⟨u85, _, rfl⟩ rfl rfl ?_
      refine xgetD 17 (2) hH ⟨u85, _, rfl⟩ rfl (by decide) (by decide) rfl rfl (by decide) ?_
      refine xlen 18 hH ⟨u85, _, rfl⟩ rfl (by decide) rfl (by decide) (by decide) (fun z17 h17 => ?_)
      refine xcmp_ge 21 ⟨u85, _, rfl⟩ rfl (fun c18 => ?_) (fun c18 => ?_)
      · omega
      · refine xald 22 ⟨u85, _, rfl⟩ rfl rfl ?_
        refine xgetD 25 (2) hH ⟨u85, _, rfl⟩ rfl (by decide) (by decide) rfl rfl (by decide) ?_
        refine xild 26 ⟨u85, _, rfl⟩ rfl rfl ?_
        refine xbald 27 (k).toInt.toNat hH ⟨u85, _, rfl⟩ rfl (by decide) rfl (by omega) (by omega) (fun z26 h26 => ?_)
        refine xsip 30 (255) ⟨u85, _, rfl⟩ rfl (by decide) (fun z27 h27 => ?_)
        refine xand 31 ⟨u85, _, rfl⟩ rfl ?_
        refine xgoto ⟨u85, _, rfl⟩ ?_
        exact xret ⟨u85, _, rfl⟩ rfl (hR _ (by unfold cB; rw [if_pos (by omega), ← show k.toInt.toNat = q by omega, ← h26]; exact m255 h27))
theorem k_let {d : Nat} {hp : amH} {R : xQ} {c : Int32} {y : tY} {q : Nat} (hc : c.toInt = y q) (hR : ∀ z : Int32, ((z.toInt = 1 ∧ tLt y q = true) ∨ (z.toInt = 0 ∧ tLt y q = false)) → R (.inl (some (.int z))) hp) : xK d 86 [.int c] hp R := by
  refine xin (M := am_m86) rfl rfl rfl ?_
  refine xild 1 ⟨u86, _, rfl⟩ rfl rfl ?_
  refine xbip 3 (97) ⟨u86, _, rfl⟩ rfl (by decide) (fun z1 h1 => ?_)
  refine xcmp_lt 6 ⟨u86, _, rfl⟩ rfl (fun c3 => ?_) (fun c3 => ?_)
  · refine xcst 17 (0) ⟨u86, _, rfl⟩ rfl (by decide) (fun z16 h16 => ?_)
    exact xretB ⟨u86, _, rfl⟩ rfl (by omega) (hR _ (Or.inr ⟨by omega, decide_eq_false (by omega)⟩))
  · refine xild 7 ⟨u86, _, rfl⟩ rfl rfl ?_
    refine xbip 9 (122) ⟨u86, _, rfl⟩ rfl (by decide) (fun z7 h7 => ?_)
    refine xcmp_gt 12 ⟨u86, _, rfl⟩ rfl (fun c9 => ?_) (fun c9 => ?_)
    · refine xcst 17 (0) ⟨u86, _, rfl⟩ rfl (by decide) (fun z16 h16 => ?_)
      exact xretB ⟨u86, _, rfl⟩ rfl (by omega) (hR _ (Or.inr ⟨by omega, decide_eq_false (by omega)⟩))
    · refine xcst 13 (1) ⟨u86, _, rfl⟩ rfl (by decide) (fun z12 h12 => ?_)
      refine xgoto ⟨u86, _, rfl⟩ ?_
      exact xretB ⟨u86, _, rfl⟩ rfl (by omega) (hR _ (Or.inl ⟨by omega, decide_eq_true (by omega)⟩))
theorem k_dig {d : Nat} {hp : amH} {R : xQ} {c : Int32} {y : tY} {q : Nat} (hc : c.toInt = y q) (hR : ∀ z : Int32, ((z.toInt = 1 ∧ tDg y q = true) ∨ (z.toInt = 0 ∧ tDg y q = false)) → R (.inl (some (.int z))) hp) : xK d 87 [.int c] hp R := by
  refine xin (M := am_m87) rfl rfl rfl ?_
  refine xild 1 ⟨u87, _, rfl⟩ rfl rfl ?_
  refine xbip 3 (48) ⟨u87, _, rfl⟩ rfl (by decide) (fun z1 h1 => ?_)
  refine xcmp_lt 6 ⟨u87, _, rfl⟩ rfl (fun c3 => ?_) (fun c3 => ?_)
  · refine xcst 17 (0) ⟨u87, _, rfl⟩ rfl (by decide) (fun z16 h16 => ?_)
    exact xretB ⟨u87, _, rfl⟩ rfl (by omega) (hR _ (Or.inr ⟨by omega, decide_eq_false (by omega)⟩))
  · refine xild 7 ⟨u87, _, rfl⟩ rfl rfl ?_
    refine xbip 9 (57) ⟨u87, _, rfl⟩ rfl (by decide) (fun z7 h7 => ?_)
    refine xcmp_gt 12 ⟨u87, _, rfl⟩ rfl (fun c9 => ?_) (fun c9 => ?_)
    · refine xcst 17 (0) ⟨u87, _, rfl⟩ rfl (by decide) (fun z16 h16 => ?_)
      exact xretB ⟨u87, _, rfl⟩ rfl (by omega) (hR _ (Or.inr ⟨by omega, decide_eq_false (by omega)⟩))
    · refine xcst 13 (1) ⟨u87, _, rfl⟩ rfl (by decide) (fun z12 h12 => ?_)
      refine xgoto ⟨u87, _, rfl⟩ ?_
      exact xretB ⟨u87, _, rfl⟩ rfl (by omega) (hR _ (Or.inl ⟨by omega, decide_eq_true (by omega)⟩))
/-- a word is read: on to its end -/
theorem l82 {d : Nat} {hp0 : amH} {R : xQ} {y : tY} {s e : Nat} (hok : tOk (rN hp0 1 0).toNat y) (he : tR (tLt y) 601 s = e)
    (hR : ∀ hp1, bHk 84 bTT hp1 → bFr wCt hp0 hp1 → rN hp1 1 4 = (e : Int) → rN hp1 1 5 = 1 → rN hp1 1 6 = (s : Int) → R (.inl none) hp1) :
    ∀ (jj q : Nat) (hp : amH), bHk 84 bTT hp → bFr wCt hp0 hp → cB hp = y → rN hp 1 4 = (q : Int) → rN hp 1 5 = 1 → rN hp 1 6 = (s : Int) → s ≤ q → (∀ k, s ≤ k → k < q → tLt y k = true) → (q : Int) + (jj : Int) = rN hp0 1 0 → xV (d + 1) am_m82 5 [some (.ref 1)] [] hp R := by
  intro jj
  induction jj using Nat.strongRecOn with
  | ind jj ih =>
    intro q hp hH hF Y h4 h5 h6 hsq hall hj
    have b0 := b1_0 hH
    have n0 : rN hp 1 0 = rN hp0 1 0 := r_fr hF rfl
    have fin : tLt y q = false → xV (d + 1) am_m82 43 [some (.ref 1)] [] hp R := fun g => by
      have : e = q := by rw [← he]; exact tR_eq 601 s q hsq (by omega) hall (fun _ => g)
      exact xretV ⟨u82, _, rfl⟩ rfl (hR hp hH hF (by omega) h5 h6)
    refine xald 6 ⟨u82, _, rfl⟩ rfl rfl ?_
    refine xgetC 9 hH ⟨u82, _, rfl⟩ rfl (by decide) (by decide) rfl rfl (by decide) (fun z6 h6 => ?_)
    refine xald 10 ⟨u82, _, rfl⟩ rfl rfl ?_
    refine xgetC 13 hH ⟨u82, _, rfl⟩ rfl (by decide) (by decide) rfl rfl (by decide) (fun z10 h10 => ?_)
    refine xcmp_ge 16 ⟨u82, _, rfl⟩ rfl (fun c13 => ?_) (fun c13 => ?_)
    · exact fin (by cases e9 : tLt y q; rfl; have := tLt_n hok q e9; omega)
    · refine xald 17 ⟨u82, _, rfl⟩ rfl rfl ?_
      refine xald 18 ⟨u82, _, rfl⟩ rfl rfl ?_
      refine xgetC 21 hH ⟨u82, _, rfl⟩ rfl (by decide) (by decide) rfl rfl (by decide) (fun z18 h18 => ?_)
      refine xcallC 24 (o := 1) [.int _] [] hH ⟨u82, _, rfl⟩ rfl rfl (by decide) rfl (by decide) rfl ⟨rfl, rfl, rfl, rfl⟩ rfl (k_cB hH Y (q := q) (by omega) (fun z21 h21 => ⟨_, rfl, ?_⟩))
      refine xcallS 27 [.int _] [] hH ⟨u82, _, rfl⟩ rfl rfl rfl rfl rfl (k_let (y := y) (q := q) (by omega) (fun z24 h24 => ⟨_, rfl, ?_⟩))
      refine xif_eq 30 ⟨u82, _, rfl⟩ rfl (fun c27 => ?_) (fun c27 => ?_)
      · exact fin (by rcases h24 with z | z; omega; exact z.2)
      · refine xald 31 ⟨u82, _, rfl⟩ rfl rfl ?_
        refine xdup 32 ⟨u82, _, rfl⟩ rfl rfl ?_
        refine xgetC 35 hH ⟨u82, _, rfl⟩ rfl (by decide) (by decide) rfl rfl (by decide) (fun z32 h32 => ?_)
        refine xcst 36 (1) ⟨u82, _, rfl⟩ rfl (by decide) (fun z35 h35 => ?_)
        refine xadd 37 _ ⟨u82, _, rfl⟩ rfl rfl (by omega) (by omega) (fun z36 h36 => ?_)
        refine xputC 40 hH ⟨u82, _, rfl⟩ rfl (by decide) (by decide) rfl rfl (by decide) ⟨rfl, rfl⟩ (by omega) (by omega) (fun hp37 hH37 U37 => ?_)
        have s37 := U37.1
        have n37_1_0 : rN hp37 (1) 0 = rN hp (1) 0 := rU_ne U37 (by omega)
        have n37_1_5 : rN hp37 (1) 5 = rN hp (1) 5 := rU_ne U37 (by omega)
        have n37_1_6 : rN hp37 (1) 6 = rN hp (1) 6 := rU_ne U37 (by omega)
        have n37_1_7 : rN hp37 (1) 7 = rN hp (1) 7 := rU_ne U37 (by omega)
        refine xgoto ⟨u82, _, rfl⟩ ?_
        exact ih (jj - 1) (by omega) (q + 1) hp37 hH37 (hF.trans (rU_fr U37 (by decide))) ((cB_U U37 (by decide)).trans Y) (by omega) (by omega) (by omega) (by omega) (fun k k1 k2 => by rcases Nat.lt_or_ge k q with g | g; exact hall k k1 g; rw [show k = q by omega]; rcases h24 with z | z; exact z.2; omega) (by omega)
theorem k_rw {d : Nat} {hp : amH} {R : xQ} {y : tY} {s : Nat} (hH : bHk 84 bTT hp) (Y : cB hp = y) (hok : tOk (rN hp 1 0).toNat y) (h4 : rN hp 1 4 = (s : Int)) (h6 : rN hp 1 6 = (s : Int)) (hs : (s : Int) ≤ rN hp 1 0)
    (hR : ∀ hp1, bHk 84 bTT hp1 → bFr wCt hp hp1 → rN hp1 1 4 = ((tR (tLt y) 601 s : Nat) : Int) → rN hp1 1 5 = 1 → rN hp1 1 6 = (s : Int) → R (.inl none) hp1) : xK (d + 1) 82 [.ref 1] hp R := by
  refine xin (M := am_m82) rfl rfl rfl ?_
  refine xald 1 ⟨u82, _, rfl⟩ rfl rfl ?_
  refine xcst 2 (1) ⟨u82, _, rfl⟩ rfl (by decide) (fun z1 h1 => ?_)
  refine xputC 5 hH ⟨u82, _, rfl⟩ rfl (by decide) (by decide) rfl rfl (by decide) ⟨rfl, rfl⟩ (by omega) (by omega) (fun hp2 hH2 U2 => ?_)
  have s2 := U2.1
  have n2_1_0 : rN hp2 (1) 0 = rN hp (1) 0 := rU_ne U2 (by omega)
  have n2_1_4 : rN hp2 (1) 4 = rN hp (1) 4 := rU_ne U2 (by omega)
  have n2_1_6 : rN hp2 (1) 6 = rN hp (1) 6 := rU_ne U2 (by omega)
  have n2_1_7 : rN hp2 (1) 7 = rN hp (1) 7 := rU_ne U2 (by omega)
  exact l82 hok rfl hR (rN hp 1 0 - s).toNat s hp2 hH2 (rU_fr U2 (by decide)) ((cB_U U2 (by decide)).trans Y) (by omega) (by omega) (by omega) (Nat.le_refl _) (fun k k1 k2 => by omega) (by omega)
