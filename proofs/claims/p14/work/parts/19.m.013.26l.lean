/-! ##### 19.m.013.26l ##### -/
section
/-! ===== the reference's tokens ===== -/
theorem rB_ok {hp : amH} (hH : bHk 84 bTT hp) : tOk (rN hp 66 21).toNat (rB hp) := by
  have b := b21 hH
  refine ⟨by omega, fun k hk => ?_, fun k hk => ?_⟩
  · unfold rB
    rw [if_pos (by omega)]
    have := rb_row hH (q := 80) (i := k) (by decide) rfl (by omega)
    omega
  · unfold rB
    rw [if_neg (by omega)]
theorem rB_F {hp hp1 : amH} {W : List (Nat × Nat)} (F : bFr W hp hp1) (h1 : bIn W 66 21 = false) (h2 : ∀ k, bIn W 80 k = false) : rB hp1 = rB hp := by
  funext k
  unfold rB
  rw [show rN hp1 66 21 = rN hp 66 21 from r_fr F h1, show rN hp1 80 k = rN hp 80 k from r_fr F (h2 k)]
theorem rB_U {hp hp1 : amH} {j : Nat} {m : Int} (U : rU hp hp1 66 j m) (hj : ¬ j = 21) : rB hp1 = rB hp := by
  funext k
  unfold rB
  rw [rU_ne U (by first | decide | exact (fun z => absurd z.1 (by decide)) | omega), rU_ne U (by first | decide | exact (fun z => absurd z.1 (by decide)) | omega)]
theorem k_rB {d : Nat} {hp : amH} {R : xQ} {k : Int32} {y : tY} {q : Nat} (hH : bHk 84 bTT hp) (hY : rB hp = y) (hk : k.toInt = (q : Int)) (hR : ∀ z : Int32, z.toInt = y q → R (.inl (some (.int z))) hp) : xK d 241 [.ref 66, .int k] hp R := by
  subst hY
  refine k_byte hH (by omega) (fun z h => hR z ?_)
  unfold rB
  rcases h with ⟨h1, h2⟩ | ⟨h1, h2, -⟩
  · rw [if_neg (by omega)]; exact h1
  · rw [if_pos (by omega), h1]; congr 1; omega
/-- the reference's token at s -/
noncomputable def rT (hp : amH) (y : tY) (s : Nat) : Prop := rN hp 66 27 = (s : Int) ∧ rN hp 66 26 = ((tE y s : Nat) : Int) ∧ rN hp 66 29 = tK y s ∧ (tK y s = 2 → tE y s ≤ s + 2 → rN hp 66 28 = tV y s)
theorem m242a {d : Nat} {hp0 : amH} {R : xQ} {y : tY} {p s : Nat} (hok : tOk (rN hp0 66 21).toNat y) (he : tS y p = s) (hQ : ∀ hp, bHk 84 bTT hp → bFr wAdv hp0 hp → rB hp = y → rN hp 66 26 = (s : Int) → (s : Int) ≤ rN hp 66 21 → xV (d + 1) am_m242 39 [some (.ref 66)] [] hp R) :
    ∀ (jj q : Nat) (hp : amH), bHk 84 bTT hp → bFr wAdv hp0 hp → rB hp = y → rN hp 66 26 = (q : Int) → p ≤ q → (∀ k, p ≤ k → k < q → tSp y k = true) → (q : Int) + (jj : Int) = rN hp0 66 21 → xV (d + 1) am_m242 0 [some (.ref 66)] [] hp R := by
  intro jj
  induction jj using Nat.strongRecOn with
  | ind jj ih =>
    intro q hp hH hF Y h4 hsq hall hj
    have b0 := b21 hH
    have n0 : rN hp 66 21 = rN hp0 66 21 := r_fr hF rfl
    have fin : tSp y q = false → xV (d + 1) am_m242 39 [some (.ref 66)] [] hp R := fun g => by
      have eq : s = q := by rw [← he]; exact tR_eq 601 p q hsq (by omega) hall (fun _ => g)
      subst eq
      exact hQ hp hH hF Y h4 (by omega)
    refine xald 1 ⟨u242, _, rfl⟩ rfl rfl ?_
    refine xald 2 ⟨u242, _, rfl⟩ rfl rfl ?_
    refine xgetI 5 hH ⟨u242, _, rfl⟩ rfl rfl (fun z2 h2 => ?_)
    refine xcall 8 [.ref 66, .int _] [] hH ⟨u242, _, rfl⟩ rfl rfl rfl rfl rfl (k_rB hH Y (q := q) (by omega) (fun z5 h5 => ⟨_, rfl, ?_⟩))
    refine xbip 10 (32) ⟨u242, _, rfl⟩ rfl (by decide) (fun z8 h8 => ?_)
    refine xcmp_eq 13 ⟨u242, _, rfl⟩ rfl (fun c10 => ?_) (fun c10 => ?_)
    · have bq : (q : Int) < rN hp0 66 21 := by have := tSp_n hok q (decide_eq_true (by omega)); omega
      refine xald 27 ⟨u242, _, rfl⟩ rfl rfl ?_
      refine xdup 28 ⟨u242, _, rfl⟩ rfl rfl ?_
      refine xgetI 31 hH ⟨u242, _, rfl⟩ rfl rfl (fun z28 h28 => ?_)
      refine xcst 32 (1) ⟨u242, _, rfl⟩ rfl (by decide) (fun z31 h31 => ?_)
      refine xadd 33 _ ⟨u242, _, rfl⟩ rfl rfl (by omega) (by omega) (fun z32 h32 => ?_)
      refine xputI 36 hH ⟨u242, _, rfl⟩ rfl rfl ⟨rfl, rfl⟩ (by omega) (by omega) (fun hp33 hH33 U33 => ?_)
      have s33 := U33.1
      have n33_66_21 : rN hp33 (66) 21 = rN hp (66) 21 := rU_ne U33 (by first | decide | exact (fun z => absurd z.1 (by decide)) | omega)
      have n33_66_27 : rN hp33 (66) 27 = rN hp (66) 27 := rU_ne U33 (by first | decide | exact (fun z => absurd z.1 (by decide)) | omega)
      have n33_66_28 : rN hp33 (66) 28 = rN hp (66) 28 := rU_ne U33 (by first | decide | exact (fun z => absurd z.1 (by decide)) | omega)
      have n33_66_29 : rN hp33 (66) 29 = rN hp (66) 29 := rU_ne U33 (by first | decide | exact (fun z => absurd z.1 (by decide)) | omega)
      refine xgoto ⟨u242, _, rfl⟩ ?_
      have hd : tSp y q = true := decide_eq_true (by omega)
      have := tSp_n hok q hd
      exact ih (jj - 1) (by omega) (q + 1) hp33 hH33 (hF.trans (rU_fr U33 (by decide))) ((rB_U U33 (by decide)).trans Y) (by omega) (by omega) (fun k k1 k2 => by rcases Nat.lt_or_ge k q with g | g; exact hall k k1 g; rw [show k = q by omega]; exact hd) (by omega)
    · refine xald 14 ⟨u242, _, rfl⟩ rfl rfl ?_
      refine xald 15 ⟨u242, _, rfl⟩ rfl rfl ?_
      refine xgetI 18 hH ⟨u242, _, rfl⟩ rfl rfl (fun z15 h15 => ?_)
      refine xcall 21 [.ref 66, .int _] [] hH ⟨u242, _, rfl⟩ rfl rfl rfl rfl rfl (k_rB hH Y (q := q) (by omega) (fun z18 h18 => ⟨_, rfl, ?_⟩))
      refine xbip 23 (10) ⟨u242, _, rfl⟩ rfl (by decide) (fun z21 h21 => ?_)
      refine xcmp_ne 26 ⟨u242, _, rfl⟩ rfl (fun c23 => ?_) (fun c23 => ?_)
      · exact fin (decide_eq_false (by omega))
      · have bq : (q : Int) < rN hp0 66 21 := by have := tSp_n hok q (decide_eq_true (by omega)); omega
        refine xald 27 ⟨u242, _, rfl⟩ rfl rfl ?_
        refine xdup 28 ⟨u242, _, rfl⟩ rfl rfl ?_
        refine xgetI 31 hH ⟨u242, _, rfl⟩ rfl rfl (fun z28 h28 => ?_)
        refine xcst 32 (1) ⟨u242, _, rfl⟩ rfl (by decide) (fun z31 h31 => ?_)
        refine xadd 33 _ ⟨u242, _, rfl⟩ rfl rfl (by omega) (by omega) (fun z32 h32 => ?_)
        refine xputI 36 hH ⟨u242, _, rfl⟩ rfl rfl ⟨rfl, rfl⟩ (by omega) (by omega) (fun hp33 hH33 U33 => ?_)
        have s33 := U33.1
        have n33_66_21 : rN hp33 (66) 21 = rN hp (66) 21 := rU_ne U33 (by first | decide | exact (fun z => absurd z.1 (by decide)) | omega)
        have n33_66_27 : rN hp33 (66) 27 = rN hp (66) 27 := rU_ne U33 (by first | decide | exact (fun z => absurd z.1 (by decide)) | omega)
        have n33_66_28 : rN hp33 (66) 28 = rN hp (66) 28 := rU_ne U33 (by first | decide | exact (fun z => absurd z.1 (by decide)) | omega)
        have n33_66_29 : rN hp33 (66) 29 = rN hp (66) 29 := rU_ne U33 (by first | decide | exact (fun z => absurd z.1 (by decide)) | omega)
        refine xgoto ⟨u242, _, rfl⟩ ?_
        have hd : tSp y q = true := decide_eq_true (by omega)
        have := tSp_n hok q hd
        exact ih (jj - 1) (by omega) (q + 1) hp33 hH33 (hF.trans (rU_fr U33 (by decide))) ((rB_U U33 (by decide)).trans Y) (by omega) (by omega) (fun k k1 k2 => by rcases Nat.lt_or_ge k q with g | g; exact hall k k1 g; rw [show k = q by omega]; exact hd) (by omega)
theorem m242b {d : Nat} {hp0 : amH} {R : xQ} {y : tY} {s e : Nat} {c : Int32} (hok : tOk (rN hp0 66 21).toNat y) (he : tR (tLt y) 601 s = e)
    (hR : ∀ hp1, bHk 84 bTT hp1 → bFr wAdv hp0 hp1 → rN hp1 66 26 = (e : Int) → rN hp1 66 29 = 1 → rN hp1 66 27 = (s : Int) → R (.inl none) hp1) :
    ∀ (jj q : Nat) (hp : amH), bHk 84 bTT hp → bFr wAdv hp0 hp → rB hp = y → rN hp 66 26 = (q : Int) → rN hp 66 29 = 1 → rN hp 66 27 = (s : Int) → s ≤ q → (∀ k, s ≤ k → k < q → tLt y k = true) → (q : Int) + (jj : Int) = rN hp0 66 21 → xV (d + 1) am_m242 90 [some (.ref 66), some (.int c)] [] hp R := by
  intro jj
  induction jj using Nat.strongRecOn with
  | ind jj ih =>
    intro q hp hH hF Y h4 h5 h6 hsq hall hj
    have b0 := b21 hH
    have n0 : rN hp 66 21 = rN hp0 66 21 := r_fr hF rfl
    refine xald 91 ⟨u242, _, rfl⟩ rfl rfl ?_
    refine xald 92 ⟨u242, _, rfl⟩ rfl rfl ?_
    refine xgetI 95 hH ⟨u242, _, rfl⟩ rfl rfl (fun z92 h92 => ?_)
    refine xcall 98 [.ref 66, .int _] [] hH ⟨u242, _, rfl⟩ rfl rfl rfl rfl rfl (k_rB hH Y (q := q) (by omega) (fun z95 h95 => ⟨_, rfl, ?_⟩))
    refine xbip 100 (97) ⟨u242, _, rfl⟩ rfl (by decide) (fun z98 h98 => ?_)
    refine xbip 102 (122) ⟨u242, _, rfl⟩ rfl (by decide) (fun z100 h100 => ?_)
    refine xcallS 105 [.int _, .int _, .int _] [] hH ⟨u242, _, rfl⟩ rfl rfl rfl rfl rfl (k_inr (fun z102 h102 => ⟨_, rfl, ?_⟩))
    refine xif_eq 108 ⟨u242, _, rfl⟩ rfl (fun c105 => ?_) (fun c105 => ?_)
    · have eq : e = q := by rw [← he]; exact tR_eq 601 s q hsq (by omega) hall (fun _ => decide_eq_false (by omega))
      exact xretV ⟨u242, _, rfl⟩ rfl (hR hp hH hF (by omega) h5 h6)
    · have hd : tLt y q = true := decide_eq_true (by omega)
      have bq := tLt_n hok q hd
      refine xald 109 ⟨u242, _, rfl⟩ rfl rfl ?_
      refine xdup 110 ⟨u242, _, rfl⟩ rfl rfl ?_
      refine xgetI 113 hH ⟨u242, _, rfl⟩ rfl rfl (fun z110 h110 => ?_)
      refine xcst 114 (1) ⟨u242, _, rfl⟩ rfl (by decide) (fun z113 h113 => ?_)
      refine xadd 115 _ ⟨u242, _, rfl⟩ rfl rfl (by omega) (by omega) (fun z114 h114 => ?_)
      refine xputI 118 hH ⟨u242, _, rfl⟩ rfl rfl ⟨rfl, rfl⟩ (by omega) (by omega) (fun hp115 hH115 U115 => ?_)
      have s115 := U115.1
      have n115_66_21 : rN hp115 (66) 21 = rN hp (66) 21 := rU_ne U115 (by first | decide | exact (fun z => absurd z.1 (by decide)) | omega)
      have n115_66_27 : rN hp115 (66) 27 = rN hp (66) 27 := rU_ne U115 (by first | decide | exact (fun z => absurd z.1 (by decide)) | omega)
      have n115_66_28 : rN hp115 (66) 28 = rN hp (66) 28 := rU_ne U115 (by first | decide | exact (fun z => absurd z.1 (by decide)) | omega)
      have n115_66_29 : rN hp115 (66) 29 = rN hp (66) 29 := rU_ne U115 (by first | decide | exact (fun z => absurd z.1 (by decide)) | omega)
      refine xgoto ⟨u242, _, rfl⟩ ?_
      exact ih (jj - 1) (by omega) (q + 1) hp115 hH115 (hF.trans (rU_fr U115 (by decide))) ((rB_U U115 (by decide)).trans Y) (by omega) (by omega) (by omega) (by omega) (fun k k1 k2 => by rcases Nat.lt_or_ge k q with g | g; exact hall k k1 g; rw [show k = q by omega]; exact hd) (by omega)
theorem nV_b {y : tY} {s q : Nat} {v : Int} (hall : ∀ k, s ≤ k → k < q → tDg y k = true) (hsq : s ≤ q) (hv : nV y s q v) : -1000 ≤ v ∧ v ≤ 1000 ∨ s + 2 ≤ q := by
  rcases Nat.lt_or_ge q (s + 2) with g | g
  · left
    by_cases e : q = s
    · have := hv.1 e; omega
    · have := hv.2.1 (by omega)
      have g2 := of_decide_eq_true (hall s (Nat.le_refl _) (by omega))
      omega
  · exact Or.inr g
theorem m242c {d : Nat} {hp0 : amH} {R : xQ} {y : tY} {s e : Nat} {c : Int32} (hok : tOk (rN hp0 66 21).toNat y) (he : tR (tDg y) 601 s = e)
    (hR : ∀ hp1, bHk 84 bTT hp1 → bFr wAdv hp0 hp1 → rN hp1 66 26 = (e : Int) → rN hp1 66 29 = 2 → rN hp1 66 27 = (s : Int) → nV y s e (rN hp1 66 28) → R (.inl none) hp1) :
    ∀ (jj q : Nat) (hp : amH), bHk 84 bTT hp → bFr wAdv hp0 hp → rB hp = y → rN hp 66 26 = (q : Int) → rN hp 66 29 = 2 → rN hp 66 27 = (s : Int) → s ≤ q → (∀ k, s ≤ k → k < q → tDg y k = true) → nV y s q (rN hp 66 28) → (q : Int) + (jj : Int) = rN hp0 66 21 → xV (d + 1) am_m242 137 [some (.ref 66), some (.int c)] [] hp R := by
  intro jj
  induction jj using Nat.strongRecOn with
  | ind jj ih =>
    intro q hp hH hF Y h4 h5 h6 hsq hall hv hj
    have b0 := b21 hH
    have n0 : rN hp 66 21 = rN hp0 66 21 := r_fr hF rfl
    refine xald 138 ⟨u242, _, rfl⟩ rfl rfl ?_
    refine xald 139 ⟨u242, _, rfl⟩ rfl rfl ?_
    refine xgetI 142 hH ⟨u242, _, rfl⟩ rfl rfl (fun z139 h139 => ?_)
    refine xcall 145 [.ref 66, .int _] [] hH ⟨u242, _, rfl⟩ rfl rfl rfl rfl rfl (k_rB hH Y (q := q) (by omega) (fun z142 h142 => ⟨_, rfl, ?_⟩))
    refine xbip 147 (48) ⟨u242, _, rfl⟩ rfl (by decide) (fun z145 h145 => ?_)
    refine xbip 149 (57) ⟨u242, _, rfl⟩ rfl (by decide) (fun z147 h147 => ?_)
    refine xcallS 152 [.int _, .int _, .int _] [] hH ⟨u242, _, rfl⟩ rfl rfl rfl rfl rfl (k_inr (fun z149 h149 => ⟨_, rfl, ?_⟩))
    refine xif_eq 155 ⟨u242, _, rfl⟩ rfl (fun c152 => ?_) (fun c152 => ?_)
    · have eq : e = q := by rw [← he]; exact tR_eq 601 s q hsq (by omega) hall (fun _ => decide_eq_false (by omega))
      exact xretV ⟨u242, _, rfl⟩ rfl (hR hp hH hF (by omega) h5 h6 (by rw [eq]; exact hv))
    · have hd : tDg y q = true := decide_eq_true (by omega)
      have bq := tDg_n hok q hd
      have vb : -1000 ≤ rN hp 66 28 ∧ rN hp 66 28 ≤ 1000 ∨ s + 2 ≤ q := nV_b hall hsq hv
      refine xald 156 ⟨u242, _, rfl⟩ rfl rfl ?_
      refine xgetI 159 hH ⟨u242, _, rfl⟩ rfl rfl (fun z156 h156 => ?_)
      refine xald 160 ⟨u242, _, rfl⟩ rfl rfl ?_
      refine xgetI 163 hH ⟨u242, _, rfl⟩ rfl rfl (fun z160 h160 => ?_)
      refine xsub 164 _ ⟨u242, _, rfl⟩ rfl rfl (by omega) (by omega) (fun z163 h163 => ?_)
      refine xcst 165 (2) ⟨u242, _, rfl⟩ rfl (by decide) (fun z164 h164 => ?_)
      refine xcmp_ge 168 ⟨u242, _, rfl⟩ rfl (fun c165 => ?_) (fun c165 => ?_)
      · refine xald 192 ⟨u242, _, rfl⟩ rfl rfl ?_
        refine xdup 193 ⟨u242, _, rfl⟩ rfl rfl ?_
        refine xgetI 196 hH ⟨u242, _, rfl⟩ rfl rfl (fun z193 h193 => ?_)
        refine xcst 197 (1) ⟨u242, _, rfl⟩ rfl (by decide) (fun z196 h196 => ?_)
        refine xadd 198 _ ⟨u242, _, rfl⟩ rfl rfl (by omega) (by omega) (fun z197 h197 => ?_)
        refine xputI 201 hH ⟨u242, _, rfl⟩ rfl rfl ⟨rfl, rfl⟩ (by omega) (by omega) (fun hp198 hH198 U198 => ?_)
        have s198 := U198.1
        have n198_66_21 : rN hp198 (66) 21 = rN hp (66) 21 := rU_ne U198 (by first | decide | exact (fun z => absurd z.1 (by decide)) | omega)
        have n198_66_27 : rN hp198 (66) 27 = rN hp (66) 27 := rU_ne U198 (by first | decide | exact (fun z => absurd z.1 (by decide)) | omega)
        have n198_66_28 : rN hp198 (66) 28 = rN hp (66) 28 := rU_ne U198 (by first | decide | exact (fun z => absurd z.1 (by decide)) | omega)
        have n198_66_29 : rN hp198 (66) 29 = rN hp (66) 29 := rU_ne U198 (by first | decide | exact (fun z => absurd z.1 (by decide)) | omega)
        refine xgoto ⟨u242, _, rfl⟩ ?_
        exact ih (jj - 1) (by omega) (q + 1) hp198 hH198 (hF.trans (rU_fr U198 (by decide))) ((rB_U U198 (by decide)).trans Y) (by omega) (by omega) (by omega) (by omega) (fun k k1 k2 => by rcases Nat.lt_or_ge k q with g | g; exact hall k k1 g; rw [show k = q by omega]; exact hd) ⟨fun e => by omega, fun e => by omega, fun e => by omega⟩ (by omega)
      · refine xald 169 ⟨u242, _, rfl⟩ rfl rfl ?_
        refine xbip 171 (10) ⟨u242, _, rfl⟩ rfl (by decide) (fun z169 h169 => ?_)
        refine xald 172 ⟨u242, _, rfl⟩ rfl rfl ?_
        refine xgetI 175 hH ⟨u242, _, rfl⟩ rfl rfl (fun z172 h172 => ?_)
        refine xmul 176 (10 * Int32.toInt z172) ⟨u242, _, rfl⟩ rfl (by rw [h169]) (by omega) (by omega) (fun z175 h175 => ?_)
        refine xald 177 ⟨u242, _, rfl⟩ rfl rfl ?_
        refine xald 178 ⟨u242, _, rfl⟩ rfl rfl ?_
        refine xgetI 181 hH ⟨u242, _, rfl⟩ rfl rfl (fun z178 h178 => ?_)
        refine xcall 184 [.ref 66, .int _] [.int _, .ref 66] hH ⟨u242, _, rfl⟩ rfl rfl rfl rfl rfl (k_rB hH Y (q := q) (by omega) (fun z181 h181 => ⟨_, rfl, ?_⟩))
        refine xadd 185 _ ⟨u242, _, rfl⟩ rfl rfl (by omega) (by omega) (fun z184 h184 => ?_)
        refine xbip 187 (48) ⟨u242, _, rfl⟩ rfl (by decide) (fun z185 h185 => ?_)
        refine xsub 188 _ ⟨u242, _, rfl⟩ rfl rfl (by omega) (by omega) (fun z187 h187 => ?_)
        refine xputI 191 hH ⟨u242, _, rfl⟩ rfl rfl ⟨rfl, rfl⟩ (by omega) (by omega) (fun hp188 hH188 U188 => ?_)
        have s188 := U188.1
        have n188_66_21 : rN hp188 (66) 21 = rN hp (66) 21 := rU_ne U188 (by first | decide | exact (fun z => absurd z.1 (by decide)) | omega)
        have n188_66_26 : rN hp188 (66) 26 = rN hp (66) 26 := rU_ne U188 (by first | decide | exact (fun z => absurd z.1 (by decide)) | omega)
        have n188_66_27 : rN hp188 (66) 27 = rN hp (66) 27 := rU_ne U188 (by first | decide | exact (fun z => absurd z.1 (by decide)) | omega)
        have n188_66_29 : rN hp188 (66) 29 = rN hp (66) 29 := rU_ne U188 (by first | decide | exact (fun z => absurd z.1 (by decide)) | omega)
        refine xald 192 ⟨u242, _, rfl⟩ rfl rfl ?_
        refine xdup 193 ⟨u242, _, rfl⟩ rfl rfl ?_
        refine xgetI 196 hH188 ⟨u242, _, rfl⟩ rfl rfl (fun z193 h193 => ?_)
        refine xcst 197 (1) ⟨u242, _, rfl⟩ rfl (by decide) (fun z196 h196 => ?_)
        refine xadd 198 _ ⟨u242, _, rfl⟩ rfl rfl (by omega) (by omega) (fun z197 h197 => ?_)
        refine xputI 201 hH188 ⟨u242, _, rfl⟩ rfl rfl ⟨rfl, rfl⟩ (by omega) (by omega) (fun hp198 hH198 U198 => ?_)
        have s198 := U198.1
        have n198_66_21 : rN hp198 (66) 21 = rN hp188 (66) 21 := rU_ne U198 (by first | decide | exact (fun z => absurd z.1 (by decide)) | omega)
        have n198_66_27 : rN hp198 (66) 27 = rN hp188 (66) 27 := rU_ne U198 (by first | decide | exact (fun z => absurd z.1 (by decide)) | omega)
        have n198_66_28 : rN hp198 (66) 28 = rN hp188 (66) 28 := rU_ne U198 (by first | decide | exact (fun z => absurd z.1 (by decide)) | omega)
        have n198_66_29 : rN hp198 (66) 29 = rN hp188 (66) 29 := rU_ne U198 (by first | decide | exact (fun z => absurd z.1 (by decide)) | omega)
        refine xgoto ⟨u242, _, rfl⟩ ?_
        exact ih (jj - 1) (by omega) (q + 1) hp198 hH198 ((hF.trans (rU_fr U188 (by decide))).trans (rU_fr U198 (by decide))) ((rB_U U198 (by decide)).trans ((rB_U U188 (by decide)).trans Y)) (by omega) (by omega) (by omega) (by omega) (fun k k1 k2 => by rcases Nat.lt_or_ge k q with g | g; exact hall k k1 g; rw [show k = q by omega]; exact hd) (nV_step hall hd hv hsq (fun g1 g2 => by omega)) (by omega)
theorem rT_0 {hp : amH} {y : tY} {s : Nat} (h1 : y s = -1) (h2 : rN hp 66 27 = (s : Int)) (h3 : rN hp 66 26 = (s : Int)) (h4 : rN hp 66 29 = 0) : rT hp y s := by
  have k : tK y s = 0 := tK_0.mpr h1
  have e : tE y s = s := by unfold tE; rw [if_pos h1]
  exact ⟨h2, by rw [e]; exact h3, by rw [k]; exact h4, fun z => by omega⟩
theorem rT_1 {hp : amH} {y : tY} {s : Nat} (h1 : ¬ y s = -1) (h2 : tLt y s = true) (h3 : rN hp 66 26 = ((tR (tLt y) 601 s : Nat) : Int)) (h4 : rN hp 66 29 = 1) (h5 : rN hp 66 27 = (s : Int)) : rT hp y s := by
  have k : tK y s = 1 := by unfold tK; rw [if_neg h1, if_pos h2]
  have e : tE y s = tR (tLt y) 601 s := by unfold tE; rw [if_neg h1, if_pos h2]
  exact ⟨h5, by rw [e]; exact h3, by rw [k]; exact h4, fun z => by omega⟩
theorem rT_2 {hp : amH} {y : tY} {s : Nat} (h1 : ¬ y s = -1) (h2 : tLt y s = false) (h2b : tDg y s = true) (h3 : rN hp 66 26 = ((tR (tDg y) 601 s : Nat) : Int)) (h4 : rN hp 66 29 = 2) (h5 : rN hp 66 27 = (s : Int)) (h6 : nV y s (tR (tDg y) 601 s) (rN hp 66 28)) : rT hp y s := by
  have k : tK y s = 2 := by unfold tK; rw [if_neg h1, if_neg (by rw [h2]; decide), if_pos h2b]
  have e : tE y s = tR (tDg y) 601 s := by unfold tE; rw [if_neg h1, if_neg (by rw [h2]; decide), if_pos h2b]
  rw [← e] at h3 h6
  have hgt : s < tE y s := by rw [e]; exact tR_lt h2b
  refine ⟨h5, h3, by rw [k]; exact h4, fun _ z => ?_⟩
  unfold tV
  by_cases g : tE y s = s + 1
  · rw [if_pos g]
    exact h6.2.1 g
  · rw [if_neg g]
    exact h6.2.2 (by omega)
theorem rT_3 {hp : amH} {y : tY} {s : Nat} (h1 : ¬ y s = -1) (h2 : tLt y s = false) (h2b : tDg y s = false) (h5 : rN hp 66 27 = (s : Int)) (h3 : rN hp 66 26 = (s : Int) + 1) (h4 : rN hp 66 29 = (if y s = 59 then 3 else 4)) : rT hp y s := by
  have k : tK y s = (if y s = 59 then 3 else 4) := by unfold tK; rw [if_neg h1, if_neg (by rw [h2]; decide), if_neg (by rw [h2b]; decide)]
  have e : tE y s = s + 1 := by unfold tE; rw [if_neg h1, if_neg (by rw [h2]; decide), if_neg (by rw [h2b]; decide)]
  have k2 : ¬ tK y s = 2 := by rw [k]; split <;> decide
  exact ⟨h5, by rw [e]; omega, by rw [k]; exact h4, fun z => absurd z k2⟩
theorem n242 {d : Nat} {hp0 hp : amH} {R : xQ} {y : tY} {s : Nat} (hok : tOk (rN hp0 66 21).toNat y) (hR : ∀ hp1, bHk 84 bTT hp1 → bFr wAdv hp0 hp1 → rT hp1 y s → R (.inl none) hp1) (hH : bHk 84 bTT hp) (hF : bFr wAdv hp0 hp) (Y : rB hp = y) (h4 : rN hp 66 26 = (s : Int)) (hs : (s : Int) ≤ rN hp 66 21) : xV (d + 1) am_m242 39 [some (.ref 66)] [] hp R := by
  have b0 := b21 hH
  have n0 : rN hp 66 21 = rN hp0 66 21 := r_fr hF rfl
  refine xald 40 ⟨u242, _, rfl⟩ rfl rfl ?_
  refine xald 41 ⟨u242, _, rfl⟩ rfl rfl ?_
  refine xgetI 44 hH ⟨u242, _, rfl⟩ rfl rfl (fun z41 h41 => ?_)
  refine xputI 47 hH ⟨u242, _, rfl⟩ rfl rfl ⟨rfl, rfl⟩ (by omega) (by omega) (fun hp44 hH44 U44 => ?_)
  have s44 := U44.1
  have n44_66_21 : rN hp44 (66) 21 = rN hp (66) 21 := rU_ne U44 (by first | decide | exact (fun z => absurd z.1 (by decide)) | omega)
  have n44_66_26 : rN hp44 (66) 26 = rN hp (66) 26 := rU_ne U44 (by first | decide | exact (fun z => absurd z.1 (by decide)) | omega)
  have n44_66_28 : rN hp44 (66) 28 = rN hp (66) 28 := rU_ne U44 (by first | decide | exact (fun z => absurd z.1 (by decide)) | omega)
  have n44_66_29 : rN hp44 (66) 29 = rN hp (66) 29 := rU_ne U44 (by first | decide | exact (fun z => absurd z.1 (by decide)) | omega)
  refine xald 48 ⟨u242, _, rfl⟩ rfl rfl ?_
  refine xald 49 ⟨u242, _, rfl⟩ rfl rfl ?_
  refine xgetI 52 hH44 ⟨u242, _, rfl⟩ rfl rfl (fun z49 h49 => ?_)
  refine xcall 55 [.ref 66, .int _] [] hH44 ⟨u242, _, rfl⟩ rfl rfl rfl rfl rfl (k_rB hH44 ((rB_U U44 (by decide)).trans Y) (q := s) (by omega) (fun z52 h52 => ⟨_, rfl, ?_⟩))
  refine xist 56 ⟨u242, _, rfl⟩ rfl rfl ?_
  refine xald 57 ⟨u242, _, rfl⟩ rfl rfl ?_
  refine xcst 58 (0) ⟨u242, _, rfl⟩ rfl (by decide) (fun z57 h57 => ?_)
  refine xputI 61 hH44 ⟨u242, _, rfl⟩ rfl rfl ⟨rfl, rfl⟩ (by omega) (by omega) (fun hp58 hH58 U58 => ?_)
  have s58 := U58.1
  have n58_66_21 : rN hp58 (66) 21 = rN hp44 (66) 21 := rU_ne U58 (by first | decide | exact (fun z => absurd z.1 (by decide)) | omega)
  have n58_66_26 : rN hp58 (66) 26 = rN hp44 (66) 26 := rU_ne U58 (by first | decide | exact (fun z => absurd z.1 (by decide)) | omega)
  have n58_66_27 : rN hp58 (66) 27 = rN hp44 (66) 27 := rU_ne U58 (by first | decide | exact (fun z => absurd z.1 (by decide)) | omega)
  have n58_66_29 : rN hp58 (66) 29 = rN hp44 (66) 29 := rU_ne U58 (by first | decide | exact (fun z => absurd z.1 (by decide)) | omega)
  refine xild 62 ⟨u242, _, rfl⟩ rfl rfl ?_
  refine xcst 63 (-1) ⟨u242, _, rfl⟩ rfl (by decide) (fun z62 h62 => ?_)
  refine xcmp_ne 66 ⟨u242, _, rfl⟩ rfl (fun c63 => ?_) (fun c63 => ?_)
  · have bq : (s : Int) < rN hp0 66 21 := by rcases Nat.lt_or_ge s (rN hp0 66 21).toNat with g | g; omega; have := hok.2.2 s g; omega
    refine xild 75 ⟨u242, _, rfl⟩ rfl rfl ?_
    refine xbip 77 (97) ⟨u242, _, rfl⟩ rfl (by decide) (fun z75 h75 => ?_)
    refine xbip 79 (122) ⟨u242, _, rfl⟩ rfl (by decide) (fun z77 h77 => ?_)
    refine xcallS 82 [.int _, .int _, .int _] [] hH58 ⟨u242, _, rfl⟩ rfl rfl rfl rfl rfl (k_inr (fun z79 h79 => ⟨_, rfl, ?_⟩))
    refine xif_eq 85 ⟨u242, _, rfl⟩ rfl (fun c82 => ?_) (fun c82 => ?_)
    · have nl : tLt y s = false := decide_eq_false (by omega)
      refine xild 122 ⟨u242, _, rfl⟩ rfl rfl ?_
      refine xbip 124 (48) ⟨u242, _, rfl⟩ rfl (by decide) (fun z122 h122 => ?_)
      refine xbip 126 (57) ⟨u242, _, rfl⟩ rfl (by decide) (fun z124 h124 => ?_)
      refine xcallS 129 [.int _, .int _, .int _] [] hH58 ⟨u242, _, rfl⟩ rfl rfl rfl rfl rfl (k_inr (fun z126 h126 => ⟨_, rfl, ?_⟩))
      refine xif_eq 132 ⟨u242, _, rfl⟩ rfl (fun c129 => ?_) (fun c129 => ?_)
      · have nd : tDg y s = false := decide_eq_false (by omega)
        refine xald 205 ⟨u242, _, rfl⟩ rfl rfl ?_
        refine xild 206 ⟨u242, _, rfl⟩ rfl rfl ?_
        refine xbip 208 (59) ⟨u242, _, rfl⟩ rfl (by decide) (fun z206 h206 => ?_)
        refine xcmp_ne 211 ⟨u242, _, rfl⟩ rfl (fun c208 => ?_) (fun c208 => ?_)
        · refine xcst 216 (4) ⟨u242, _, rfl⟩ rfl (by decide) (fun z215 h215 => ?_)
          refine xputI 219 hH58 ⟨u242, _, rfl⟩ rfl rfl ⟨rfl, rfl⟩ (by omega) (by omega) (fun hp216 hH216 U216 => ?_)
          have s216 := U216.1
          have n216_66_21 : rN hp216 (66) 21 = rN hp58 (66) 21 := rU_ne U216 (by first | decide | exact (fun z => absurd z.1 (by decide)) | omega)
          have n216_66_26 : rN hp216 (66) 26 = rN hp58 (66) 26 := rU_ne U216 (by first | decide | exact (fun z => absurd z.1 (by decide)) | omega)
          have n216_66_27 : rN hp216 (66) 27 = rN hp58 (66) 27 := rU_ne U216 (by first | decide | exact (fun z => absurd z.1 (by decide)) | omega)
          have n216_66_28 : rN hp216 (66) 28 = rN hp58 (66) 28 := rU_ne U216 (by first | decide | exact (fun z => absurd z.1 (by decide)) | omega)
          refine xald 220 ⟨u242, _, rfl⟩ rfl rfl ?_
          refine xdup 221 ⟨u242, _, rfl⟩ rfl rfl ?_
          refine xgetI 224 hH216 ⟨u242, _, rfl⟩ rfl rfl (fun z221 h221 => ?_)
          refine xcst 225 (1) ⟨u242, _, rfl⟩ rfl (by decide) (fun z224 h224 => ?_)
          refine xadd 226 _ ⟨u242, _, rfl⟩ rfl rfl (by omega) (by omega) (fun z225 h225 => ?_)
          refine xputI 229 hH216 ⟨u242, _, rfl⟩ rfl rfl ⟨rfl, rfl⟩ (by omega) (by omega) (fun hp226 hH226 U226 => ?_)
          have s226 := U226.1
          have n226_66_21 : rN hp226 (66) 21 = rN hp216 (66) 21 := rU_ne U226 (by first | decide | exact (fun z => absurd z.1 (by decide)) | omega)
          have n226_66_27 : rN hp226 (66) 27 = rN hp216 (66) 27 := rU_ne U226 (by first | decide | exact (fun z => absurd z.1 (by decide)) | omega)
          have n226_66_28 : rN hp226 (66) 28 = rN hp216 (66) 28 := rU_ne U226 (by first | decide | exact (fun z => absurd z.1 (by decide)) | omega)
          have n226_66_29 : rN hp226 (66) 29 = rN hp216 (66) 29 := rU_ne U226 (by first | decide | exact (fun z => absurd z.1 (by decide)) | omega)
          exact xretV ⟨u242, _, rfl⟩ rfl (hR hp226 hH226 ((((hF.trans (rU_fr U44 (by decide))).trans (rU_fr U58 (by decide))).trans (rU_fr U216 (by decide))).trans (rU_fr U226 (by decide))) (rT_3 (by omega) nl nd (by omega) (by omega) (by rw [if_neg (by omega)]; omega)))
        · refine xcst 212 (3) ⟨u242, _, rfl⟩ rfl (by decide) (fun z211 h211 => ?_)
          refine xgoto ⟨u242, _, rfl⟩ ?_
          refine xputI 219 hH58 ⟨u242, _, rfl⟩ rfl rfl ⟨rfl, rfl⟩ (by omega) (by omega) (fun hp216 hH216 U216 => ?_)
          have s216 := U216.1
          have n216_66_21 : rN hp216 (66) 21 = rN hp58 (66) 21 := rU_ne U216 (by first | decide | exact (fun z => absurd z.1 (by decide)) | omega)
          have n216_66_26 : rN hp216 (66) 26 = rN hp58 (66) 26 := rU_ne U216 (by first | decide | exact (fun z => absurd z.1 (by decide)) | omega)
          have n216_66_27 : rN hp216 (66) 27 = rN hp58 (66) 27 := rU_ne U216 (by first | decide | exact (fun z => absurd z.1 (by decide)) | omega)
          have n216_66_28 : rN hp216 (66) 28 = rN hp58 (66) 28 := rU_ne U216 (by first | decide | exact (fun z => absurd z.1 (by decide)) | omega)
          refine xald 220 ⟨u242, _, rfl⟩ rfl rfl ?_
          refine xdup 221 ⟨u242, _, rfl⟩ rfl rfl ?_
          refine xgetI 224 hH216 ⟨u242, _, rfl⟩ rfl rfl (fun z221 h221 => ?_)
          refine xcst 225 (1) ⟨u242, _, rfl⟩ rfl (by decide) (fun z224 h224 => ?_)
          refine xadd 226 _ ⟨u242, _, rfl⟩ rfl rfl (by omega) (by omega) (fun z225 h225 => ?_)
          refine xputI 229 hH216 ⟨u242, _, rfl⟩ rfl rfl ⟨rfl, rfl⟩ (by omega) (by omega) (fun hp226 hH226 U226 => ?_)
          have s226 := U226.1
          have n226_66_21 : rN hp226 (66) 21 = rN hp216 (66) 21 := rU_ne U226 (by first | decide | exact (fun z => absurd z.1 (by decide)) | omega)
          have n226_66_27 : rN hp226 (66) 27 = rN hp216 (66) 27 := rU_ne U226 (by first | decide | exact (fun z => absurd z.1 (by decide)) | omega)
          have n226_66_28 : rN hp226 (66) 28 = rN hp216 (66) 28 := rU_ne U226 (by first | decide | exact (fun z => absurd z.1 (by decide)) | omega)
          have n226_66_29 : rN hp226 (66) 29 = rN hp216 (66) 29 := rU_ne U226 (by first | decide | exact (fun z => absurd z.1 (by decide)) | omega)
          exact xretV ⟨u242, _, rfl⟩ rfl (hR hp226 hH226 ((((hF.trans (rU_fr U44 (by decide))).trans (rU_fr U58 (by decide))).trans (rU_fr U216 (by decide))).trans (rU_fr U226 (by decide))) (rT_3 (by omega) nl nd (by omega) (by omega) (by rw [if_pos (by omega)]; omega)))
      · have yd : tDg y s = true := decide_eq_true (by omega)
        refine xald 133 ⟨u242, _, rfl⟩ rfl rfl ?_
        refine xcst 134 (2) ⟨u242, _, rfl⟩ rfl (by decide) (fun z133 h133 => ?_)
        refine xputI 137 hH58 ⟨u242, _, rfl⟩ rfl rfl ⟨rfl, rfl⟩ (by omega) (by omega) (fun hp134 hH134 U134 => ?_)
        have s134 := U134.1
        have n134_66_21 : rN hp134 (66) 21 = rN hp58 (66) 21 := rU_ne U134 (by first | decide | exact (fun z => absurd z.1 (by decide)) | omega)
        have n134_66_26 : rN hp134 (66) 26 = rN hp58 (66) 26 := rU_ne U134 (by first | decide | exact (fun z => absurd z.1 (by decide)) | omega)
        have n134_66_27 : rN hp134 (66) 27 = rN hp58 (66) 27 := rU_ne U134 (by first | decide | exact (fun z => absurd z.1 (by decide)) | omega)
        have n134_66_28 : rN hp134 (66) 28 = rN hp58 (66) 28 := rU_ne U134 (by first | decide | exact (fun z => absurd z.1 (by decide)) | omega)
        exact m242c hok rfl (fun hp1 g1 g2 g3 g4 g5 g6 => hR hp1 g1 g2 (rT_2 (by omega) nl yd g3 g4 g5 g6)) (rN hp0 66 21 - s).toNat s hp134 hH134 (((hF.trans (rU_fr U44 (by decide))).trans (rU_fr U58 (by decide))).trans (rU_fr U134 (by decide))) ((rB_U U134 (by decide)).trans ((rB_U U58 (by decide)).trans ((rB_U U44 (by decide)).trans Y))) (by omega) (by omega) (by omega) (Nat.le_refl _) (fun k k1 k2 => by omega) ⟨fun _ => by omega, fun e => by omega, fun e => by omega⟩ (by omega)
    · have yl : tLt y s = true := decide_eq_true (by omega)
      refine xald 86 ⟨u242, _, rfl⟩ rfl rfl ?_
      refine xcst 87 (1) ⟨u242, _, rfl⟩ rfl (by decide) (fun z86 h86 => ?_)
      refine xputI 90 hH58 ⟨u242, _, rfl⟩ rfl rfl ⟨rfl, rfl⟩ (by omega) (by omega) (fun hp87 hH87 U87 => ?_)
      have s87 := U87.1
      have n87_66_21 : rN hp87 (66) 21 = rN hp58 (66) 21 := rU_ne U87 (by first | decide | exact (fun z => absurd z.1 (by decide)) | omega)
      have n87_66_26 : rN hp87 (66) 26 = rN hp58 (66) 26 := rU_ne U87 (by first | decide | exact (fun z => absurd z.1 (by decide)) | omega)
      have n87_66_27 : rN hp87 (66) 27 = rN hp58 (66) 27 := rU_ne U87 (by first | decide | exact (fun z => absurd z.1 (by decide)) | omega)
      have n87_66_28 : rN hp87 (66) 28 = rN hp58 (66) 28 := rU_ne U87 (by first | decide | exact (fun z => absurd z.1 (by decide)) | omega)
      exact m242b hok rfl (fun hp1 g1 g2 g3 g4 g5 => hR hp1 g1 g2 (rT_1 (by omega) yl g3 g4 g5)) (rN hp0 66 21 - s).toNat s hp87 hH87 (((hF.trans (rU_fr U44 (by decide))).trans (rU_fr U58 (by decide))).trans (rU_fr U87 (by decide))) ((rB_U U87 (by decide)).trans ((rB_U U58 (by decide)).trans ((rB_U U44 (by decide)).trans Y))) (by omega) (by omega) (by omega) (Nat.le_refl _) (fun k k1 k2 => by omega) (by omega)
  · refine xald 67 ⟨u242, _, rfl⟩ rfl rfl ?_
    refine xcst 68 (0) ⟨u242, _, rfl⟩ rfl (by decide) (fun z67 h67 => ?_)
    refine xputI 71 hH58 ⟨u242, _, rfl⟩ rfl rfl ⟨rfl, rfl⟩ (by omega) (by omega) (fun hp68 hH68 U68 => ?_)
    have s68 := U68.1
    have n68_66_21 : rN hp68 (66) 21 = rN hp58 (66) 21 := rU_ne U68 (by first | decide | exact (fun z => absurd z.1 (by decide)) | omega)
    have n68_66_26 : rN hp68 (66) 26 = rN hp58 (66) 26 := rU_ne U68 (by first | decide | exact (fun z => absurd z.1 (by decide)) | omega)
    have n68_66_27 : rN hp68 (66) 27 = rN hp58 (66) 27 := rU_ne U68 (by first | decide | exact (fun z => absurd z.1 (by decide)) | omega)
    have n68_66_28 : rN hp68 (66) 28 = rN hp58 (66) 28 := rU_ne U68 (by first | decide | exact (fun z => absurd z.1 (by decide)) | omega)
    refine xgoto ⟨u242, _, rfl⟩ ?_
    exact xretV ⟨u242, _, rfl⟩ rfl (hR hp68 hH68 (((hF.trans (rU_fr U44 (by decide))).trans (rU_fr U58 (by decide))).trans (rU_fr U68 (by decide))) (rT_0 (by omega) (by omega) (by omega) (by omega)))
theorem k_radv {d : Nat} {hp : amH} {R : xQ} {y : tY} {p : Nat} (hH : bHk 84 bTT hp) (Y : rB hp = y) (h4 : rN hp 66 26 = (p : Int)) (hp0 : (p : Int) ≤ rN hp 66 21)
    (hR : ∀ hp1, bHk 84 bTT hp1 → bFr wAdv hp hp1 → rB hp1 = y → rT hp1 y (tS y p) → R (.inl none) hp1) : xK (d + 1) 242 [.ref 66] hp R := by
  have hok : tOk (rN hp 66 21).toNat y := by rw [← Y]; exact rB_ok hH
  refine xin (M := am_m242) rfl rfl rfl ?_
  exact m242a hok rfl (fun hp1 g1 g2 g3 g4 g5 => n242 hok (fun hp2 k1 k2 k3 => hR hp2 k1 k2 (by rw [rB_F k2 rfl (fun _ => rfl), Y]) k3) g1 g2 g3 g4 g5) (rN hp 66 21 - p).toNat p hp hH (bFr.refl _ _) Y h4 (Nat.le_refl _) (fun k k1 k2 => by omega) (by omega)
end
/-! ##### 19.m.014.26m ##### -/
section
/-! ===== the reference's tokens: words, errors, points ===== -/
theorem k_tln {d : Nat} {hp : amH} {R : xQ} {y : tY} {s : Nat} (hH : bHk 84 bTT hp) (T : rT hp y s) (hs : tE y s ≤ 600) (hR : ∀ z : Int32, z.toInt = ((tE y s : Nat) : Int) - (s : Int) → R (.inl (some (.int z))) hp) : xK d 243 [.ref 66] hp R := by
  have h1 := T.1
  have h2 := T.2.1
  have h3 := tE_ge (y := y) (s := s)
  refine xin (M := am_m243) rfl rfl rfl ?_
  refine xald 1 ⟨u243, _, rfl⟩ rfl rfl ?_
  refine xgetI 4 hH ⟨u243, _, rfl⟩ rfl rfl (fun z1 h1 => ?_)
  refine xald 5 ⟨u243, _, rfl⟩ rfl rfl ?_
  refine xgetI 8 hH ⟨u243, _, rfl⟩ rfl rfl (fun z5 h5 => ?_)
  refine xsub 9 _ ⟨u243, _, rfl⟩ rfl rfl (by omega) (by omega) (fun z8 h8 => ?_)
  exact xret ⟨u243, _, rfl⟩ rfl (hR _ (by omega))
/-- an error at the token, the first one -/
theorem k_rf {d : Nat} {hp : amH} {R : xQ} {c : Int32} (hH : bHk 84 bTT hp) (h0 : rN hp 66 24 = 0) (hR : ∀ (z : Int32) hp1, z.toInt = 0 → bHk 84 bTT hp1 → bFr wFa hp hp1 → rN hp1 66 24 = c.toInt → rN hp1 66 25 = rN hp 66 27 → R (.inl (some (.int z))) hp1) : xK d 244 [.ref 66, .int c] hp R := by
  have b1 := aMin c
  have b2 := aMax c
  have b3 := rb_fld hH (f := 27) (lo := 2147483648) (hi := 2147484249) rfl
  refine xin (M := am_m244) rfl rfl rfl ?_
  refine xald 1 ⟨u244, _, rfl⟩ rfl rfl ?_
  refine xgetI 4 hH ⟨u244, _, rfl⟩ rfl rfl (fun z1 h1 => ?_)
  refine xif_ne 7 ⟨u244, _, rfl⟩ rfl (fun c4 => ?_) (fun c4 => ?_)
  · omega
  · refine xald 8 ⟨u244, _, rfl⟩ rfl rfl ?_
    refine xild 9 ⟨u244, _, rfl⟩ rfl rfl ?_
    refine xputI 12 hH ⟨u244, _, rfl⟩ rfl rfl ⟨rfl, rfl⟩ (by omega) (by omega) (fun hp9 hH9 U9 => ?_)
    have s9 := U9.1
    have n9_66_27 : rN hp9 (66) 27 = rN hp (66) 27 := rU_ne U9 (by first | decide | exact (fun z => absurd z.1 (by decide)) | omega)
    refine xald 13 ⟨u244, _, rfl⟩ rfl rfl ?_
    refine xald 14 ⟨u244, _, rfl⟩ rfl rfl ?_
    refine xgetI 17 hH9 ⟨u244, _, rfl⟩ rfl rfl (fun z14 h14 => ?_)
    refine xputI 20 hH9 ⟨u244, _, rfl⟩ rfl rfl ⟨rfl, rfl⟩ (by omega) (by omega) (fun hp17 hH17 U17 => ?_)
    have s17 := U17.1
    have n17_66_24 : rN hp17 (66) 24 = rN hp9 (66) 24 := rU_ne U17 (by first | decide | exact (fun z => absurd z.1 (by decide)) | omega)
    have n17_66_27 : rN hp17 (66) 27 = rN hp9 (66) 27 := rU_ne U17 (by first | decide | exact (fun z => absurd z.1 (by decide)) | omega)
    refine xcst 21 (0) ⟨u244, _, rfl⟩ rfl (by decide) (fun z20 h20 => ?_)
    exact xretB ⟨u244, _, rfl⟩ rfl (by omega) (hR _ _ (by omega) hH17 ((rU_fr U9 (by decide)).trans (rU_fr U17 (by decide))) (by omega) (by omega))
theorem m245 {d : Nat} {hp : amH} {R : xQ} {y : tY} {s r : Nat} {l : List Int32} (hl : amWd r = some l ∧ l.length ≤ 100) (hH : bHk 84 bTT hp) (Y : rB hp = y) (h6 : rN hp 66 27 = (s : Int)) (hs : ((s + l.length : Nat) : Int) ≤ rN hp 66 21)
    (hall : (∀ k, k < l.length → y (s + k) = (l.getD k 0).toInt) → tWd y s l = true)
    (hR : ∀ z : Int32, ((z.toInt = 1 ∧ tWd y s l = true) ∨ (z.toInt = 0 ∧ tWd y s l = false)) → R (.inl (some (.int z))) hp) :
    ∀ (jj q : Nat) (k : Int32), k.toInt = (q : Int) → q + jj = l.length → (∀ k, k < q → y (s + k) = (l.getD k 0).toInt) → xV (d + 1) am_m245 23 [some (.ref 66), some (.ref r), some (.int k)] [] hp R := by
  intro jj
  induction jj using Nat.strongRecOn with
  | ind jj ih =>
    intro q k hk hjj hq
    have hl2 := hl.2
    have b0 := b21 hH
    have hy : q < l.length → y (s + q) = rN hp 80 (s + q) := fun g => by rw [← Y]; unfold rB; rw [if_pos (by omega)]
    refine xild 24 ⟨u245, _, rfl⟩ rfl rfl ?_
    refine xald 25 ⟨u245, _, rfl⟩ rfl rfl ?_
    refine xlenS 28 ⟨u245, _, rfl⟩ rfl hl rfl (fun z25 h25 => ?_)
    refine xcmp_ge 31 ⟨u245, _, rfl⟩ rfl (fun c28 => ?_) (fun c28 => ?_)
    · refine xcst 59 (1) ⟨u245, _, rfl⟩ rfl (by decide) (fun z58 h58 => ?_)
      exact xretB ⟨u245, _, rfl⟩ rfl (by omega) (hR _ (Or.inl ⟨by omega, hall (fun k hk => hq k (by omega))⟩))
    · have yq := hy (by omega)
      refine xald 32 ⟨u245, _, rfl⟩ rfl rfl ?_
      refine xgetR 35 80 hH ⟨u245, _, rfl⟩ rfl rfl ?_
      refine xald 36 ⟨u245, _, rfl⟩ rfl rfl ?_
      refine xgetI 39 hH ⟨u245, _, rfl⟩ rfl rfl (fun z36 h36 => ?_)
      refine xild 40 ⟨u245, _, rfl⟩ rfl rfl ?_
      refine xadd 41 _ ⟨u245, _, rfl⟩ rfl rfl (by omega) (by omega) (fun z40 h40 => ?_)
      refine xiald 42 (z40).toInt.toNat hH ⟨u245, _, rfl⟩ rfl (by decide) rfl (by omega) (by omega) (fun z41 h41 => ?_)
      rw [show z40.toInt.toNat = s + q by omega] at h41
      refine xald 43 ⟨u245, _, rfl⟩ rfl rfl ?_
      refine xild 44 ⟨u245, _, rfl⟩ rfl rfl ?_
      refine xchrSE 47 q ⟨u245, _, rfl⟩ rfl hl rfl (by omega) (by omega) (fun z44 h44 => ?_)
      refine xcmp_eq 50 ⟨u245, _, rfl⟩ rfl (fun c47 => ?_) (fun c47 => ?_)
      · refine xinc 55 (1) ⟨u245, _, rfl⟩ rfl rfl rfl (by decide) (by omega) (by omega) (fun z52 h52 => ?_)
        refine xgoto ⟨u245, _, rfl⟩ ?_
        exact ih (jj - 1) (by omega) (q + 1) _ (by omega) (by omega) (fun k k1 => by rcases Nat.lt_or_ge k q with g | g; exact hq k g; rw [show k = q by omega]; omega)
      · refine xcst 51 (0) ⟨u245, _, rfl⟩ rfl (by decide) (fun z50 h50 => ?_)
        exact xretB ⟨u245, _, rfl⟩ rfl (by omega) (hR _ (Or.inr ⟨by omega, by cases e9 : tWd y s l; rfl; have := (of_decide_eq_true e9).2.2 q (by omega); omega⟩))
theorem k_rw2 {d : Nat} {hp : amH} {R : xQ} {y : tY} {s r : Nat} {l : List Int32} (hok : amOk 84 (.ref r) = true) (hl : amWd r = some l ∧ l.length ≤ 100) (hH : bHk 84 bTT hp) (Y : rB hp = y) (T : rT hp y s) (hs : (s : Int) ≤ rN hp 66 21)
    (hR : ∀ z : Int32, ((z.toInt = 1 ∧ tWd y s l = true) ∨ (z.toInt = 0 ∧ tWd y s l = false)) → R (.inl (some (.int z))) hp) : xK (d + 1) 245 [.ref 66, .ref r] hp R := by
  have b0 := b21 hH
  have hE := tE_le (by rw [← Y]; exact rB_ok hH : tOk (rN hp 66 21).toNat y) (s := s) (by omega)
  obtain ⟨h6, h4, h5, -⟩ := id T
  refine xin (M := am_m245) rfl rfl (by unfold xAv; simp only [List.all_cons, List.all_nil, hok]; rfl) ?_
  refine xald 1 ⟨u245, _, rfl⟩ rfl rfl ?_
  refine xgetI 4 hH ⟨u245, _, rfl⟩ rfl rfl (fun z1 h1 => ?_)
  refine xcst 5 (1) ⟨u245, _, rfl⟩ rfl (by decide) (fun z4 h4 => ?_)
  refine xcmp_ne 8 ⟨u245, _, rfl⟩ rfl (fun c5 => ?_) (fun c5 => ?_)
  · refine xcst 20 (0) ⟨u245, _, rfl⟩ rfl (by decide) (fun z19 h19 => ?_)
    exact xretB ⟨u245, _, rfl⟩ rfl (by omega) (hR _ (Or.inr ⟨by omega, by cases e9 : tWd y s l; rfl; have := (of_decide_eq_true e9).1; omega⟩))
  · refine xald 9 ⟨u245, _, rfl⟩ rfl rfl ?_
    refine xcall 12 [.ref 66] [] hH ⟨u245, _, rfl⟩ rfl rfl rfl rfl rfl (k_tln hH T (by omega) (fun z9 h9 => ⟨_, rfl, ?_⟩))
    refine xald 13 ⟨u245, _, rfl⟩ rfl rfl ?_
    refine xlenS 16 ⟨u245, _, rfl⟩ rfl hl rfl (fun z13 h13 => ?_)
    refine xcmp_eq 19 ⟨u245, _, rfl⟩ rfl (fun c16 => ?_) (fun c16 => ?_)
    · refine xcst 22 (0) ⟨u245, _, rfl⟩ rfl (by decide) (fun z21 h21 => ?_)
      refine xist 23 ⟨u245, _, rfl⟩ rfl rfl ?_
      exact m245 hl hH Y h6 (by omega) (fun g => decide_eq_true ⟨by omega, by omega, g⟩) hR l.length 0 _ (by omega) (by omega) (fun k k1 => by omega)
    · refine xcst 20 (0) ⟨u245, _, rfl⟩ rfl (by decide) (fun z19 h19 => ?_)
      exact xretB ⟨u245, _, rfl⟩ rfl (by omega) (hR _ (Or.inr ⟨by omega, by cases e9 : tWd y s l; rfl; have := (of_decide_eq_true e9).2.1; omega⟩))
theorem tNum_1r {y : tY} {s : Nat} {lo hi : Int} {pre : List Int} (h : ¬ (tK y s = 2 ∧ tE y s ≤ s + 2)) : tNum y s lo hi pre = 1 := by
  unfold tNum
  rw [if_pos h]
theorem tNum_2r {y : tY} {s : Nat} {lo hi : Int} {pre : List Int} (h : tK y s = 2 ∧ tE y s ≤ s + 2) (h2 : tV y s < lo ∨ hi < tV y s ∨ tV y s ∈ pre) : tNum y s lo hi pre = 2 := tNum_2 (ckK_2.mpr h) h2
/-- what a point read leaves -/
noncomputable def rTk (y : tY) (s t : Nat) (lo hi : Int) (pre : List Int) (z : Int) (hp hp1 : amH) : Prop :=
  (tNum y s lo hi pre = 0 ∧ z = 1 ∧ rN hp1 81 t = tV y s ∧ (∀ k, k < t → rN hp1 81 k = rN hp 81 k) ∧ rT hp1 y (tN y s) ∧ rN hp1 66 24 = 0 ∧ rN hp1 66 25 = rN hp 66 25) ∨ (¬ tNum y s lo hi pre = 0 ∧ z = 0 ∧ rN hp1 66 24 = tNum y s lo hi pre ∧ rN hp1 66 25 = (s : Int))
theorem rB_81 {hp hp1 : amH} {j : Nat} {m : Int} (U : rU hp hp1 81 j m) : rB hp1 = rB hp := by
  funext k
  unfold rB
  rw [rU_ne U (by first | decide | exact (fun z => absurd z.1 (by decide)) | omega), rU_ne U (by first | decide | exact (fun z => absurd z.1 (by decide)) | omega)]
theorem m246 {d : Nat} {hp : amH} {R : xQ} {y : tY} {s tt : Nat} {pre : List Int} {t mn mx : Int32} (hH : bHk 84 bTT hp) (Y : rB hp = y) (T : rT hp y s) (hs : (s : Int) ≤ rN hp 66 21) (h0 : rN hp 66 24 = 0) (ht : t.toInt = (tt : Int)) (ht2 : tt ≤ 2) (hl : pre.length = tt) (hpre : ∀ k, k < tt → rN hp 81 k = pre.getD k 0) (hk : tK y s = 2 ∧ tE y s ≤ s + 2) (hv : rN hp 66 28 = tV y s) (hv1 : mn.toInt ≤ tV y s) (hv2 : tV y s ≤ mx.toInt)
    (hR : ∀ (z : Int32) hp1, bHk 84 bTT hp1 → bFr wTK hp hp1 → rTk y s tt mn.toInt mx.toInt pre z.toInt hp hp1 → R (.inl (some (.int z))) hp1) :
    ∀ (jj q : Nat) (k : Int32), k.toInt = (q : Int) → q + jj = tt → (∀ k, k < q → ¬ pre.getD k 0 = tV y s) → xV (d + 2) am_m246 43 [some (.ref 66), some (.int t), some (.int mn), some (.int mx), some (.int k)] [] hp R := by
  intro jj
  induction jj using Nat.strongRecOn with
  | ind jj ih =>
    intro q kk hkk hjj hq
    have b0 := b21 hH
    have hEE := tE_le (by rw [← Y]; exact rB_ok hH : tOk (rN hp 66 21).toNat y) (s := s) (by omega)
    have hn : ∀ z : Int, z ∈ pre ↔ ∃ k, k < tt ∧ pre.getD k 0 = z := fun z => by
      rw [List.mem_iff_getElem]
      constructor
      · rintro ⟨i, hi, e⟩
        exact ⟨i, by omega, by rw [List.getD_eq_getElem?_getD, List.getElem?_eq_getElem hi]; exact e⟩
      · rintro ⟨i, hi, e⟩
        refine ⟨i, by omega, ?_⟩
        rw [List.getD_eq_getElem?_getD, List.getElem?_eq_getElem (by omega)] at e
        exact e
    refine xild2 45 ⟨u246, _, rfl⟩ rfl rfl ?_
    refine xild 46 ⟨u246, _, rfl⟩ rfl rfl ?_
    refine xcmp_ge 49 ⟨u246, _, rfl⟩ rfl (fun c46 => ?_) (fun c46 => ?_)
    · have n0 : tNum y s mn.toInt mx.toInt pre = 0 := tNum_0 (ckK_2.mpr hk) hv1 hv2 (fun z => by obtain ⟨k, k1, k2⟩ := (hn _).mp z; exact hq k (by omega) k2)
      refine xald 76 ⟨u246, _, rfl⟩ rfl rfl ?_
      refine xgetR 79 81 hH ⟨u246, _, rfl⟩ rfl rfl ?_
      refine xild 80 ⟨u246, _, rfl⟩ rfl rfl ?_
      refine xald 81 ⟨u246, _, rfl⟩ rfl rfl ?_
      refine xgetI 84 hH ⟨u246, _, rfl⟩ rfl rfl (fun z81 h81 => ?_)
      have bm := aMin z81
      have bx := aMax z81
      refine xiast 85 (t).toInt.toNat hH ⟨u246, _, rfl⟩ rfl (by decide) rfl (by omega) (by omega) (by omega) (by omega) (fun hp84 hH84 U84 => ?_)
      have s84 := U84.1
      refine xald 86 ⟨u246, _, rfl⟩ rfl rfl ?_
      refine xcall 89 [.ref 66] [] hH84 ⟨u246, _, rfl⟩ rfl rfl rfl rfl rfl (k_radv hH84 ((rB_81 U84).trans Y) (p := tE y s) (by rw [rU_ne U84 (by first | decide | exact (fun z => absurd z.1 (by decide)) | omega)]; exact T.2.1) (by rw [rU_ne U84 (by first | decide | exact (fun z => absurd z.1 (by decide)) | omega)]; omega) (fun hp86 hH86 F86 Y86 T86 => ⟨_, rfl, ?_⟩))
      refine xcst 90 (1) ⟨u246, _, rfl⟩ rfl (by decide) (fun z89 h89 => ?_)
      exact xretB ⟨u246, _, rfl⟩ rfl (by omega) (hR _ hp86 hH86 ((rU_fr U84 (bIn_all (by decide) _)).trans (bFr_sub F86 (by decide))) (Or.inl ⟨n0, by omega, by rw [show rN hp86 81 tt = rN hp84 81 tt from r_fr F86 rfl]; have e := U84.1; rw [show t.toInt.toNat = tt by omega] at e; omega, fun k hk => by rw [show rN hp86 81 k = rN hp84 81 k from r_fr F86 rfl, rU_ne U84 (by first | decide | exact (fun z => absurd z.1 (by decide)) | omega)], T86, by rw [show rN hp86 66 24 = rN hp84 66 24 from r_fr F86 rfl, rU_ne U84 (by first | decide | exact (fun z => absurd z.1 (by decide)) | omega)]; exact h0, by rw [show rN hp86 66 25 = rN hp84 66 25 from r_fr F86 rfl, rU_ne U84 (by first | decide | exact (fun z => absurd z.1 (by decide)) | omega)]⟩))
    · refine xald 50 ⟨u246, _, rfl⟩ rfl rfl ?_
      refine xgetR 53 81 hH ⟨u246, _, rfl⟩ rfl rfl ?_
      refine xild2 55 ⟨u246, _, rfl⟩ rfl rfl ?_
      refine xiald 56 (kk).toInt.toNat hH ⟨u246, _, rfl⟩ rfl (by decide) rfl (by omega) (by omega) (fun z55 h55 => ?_)
      refine xald 57 ⟨u246, _, rfl⟩ rfl rfl ?_
      refine xgetI 60 hH ⟨u246, _, rfl⟩ rfl rfl (fun z57 h57 => ?_)
      refine xcmp_ne 63 ⟨u246, _, rfl⟩ rfl (fun c60 => ?_) (fun c60 => ?_)
      · refine xinc 72 (1) ⟨u246, _, rfl⟩ rfl rfl rfl (by decide) (by omega) (by omega) (fun z69 h69 => ?_)
        refine xgoto ⟨u246, _, rfl⟩ ?_
        exact ih (jj - 1) (by omega) (q + 1) _ (by omega) (by omega) (fun k k1 => by rcases Nat.lt_or_ge k q with g | g; exact hq k g; rw [show k = q by omega, ← hpre q (by omega)]; rw [show kk.toInt.toNat = q by omega] at h55; omega)
      · have n2 : tNum y s mn.toInt mx.toInt pre = 2 := tNum_2r hk (Or.inr (Or.inr ((hn _).mpr ⟨q, by omega, by rw [← hpre q (by omega)]; rw [show kk.toInt.toNat = q by omega] at h55; omega⟩)))
        refine xald 64 ⟨u246, _, rfl⟩ rfl rfl ?_
        refine xcst 65 (2) ⟨u246, _, rfl⟩ rfl (by decide) (fun z64 h64 => ?_)
        refine xcall 68 [.ref 66, .int _] [] hH ⟨u246, _, rfl⟩ rfl rfl rfl rfl rfl (k_rf hH h0 (fun z65 hp65 Z65 hH65 F65 A65 B65 => ⟨_, rfl, ?_⟩))
        exact xretB ⟨u246, _, rfl⟩ rfl (by omega) (hR _ hp65 hH65 (bFr_sub F65 (by decide)) (Or.inr ⟨by rw [n2]; decide, by omega, by omega, by rw [B65]; exact T.1⟩))
theorem k_tkp {d : Nat} {hp : amH} {R : xQ} {y : tY} {s tt : Nat} {pre : List Int} {t mn mx : Int32} (hH : bHk 84 bTT hp) (Y : rB hp = y) (T : rT hp y s) (hs : (s : Int) ≤ rN hp 66 21) (h0 : rN hp 66 24 = 0) (ht : t.toInt = (tt : Int)) (ht2 : tt ≤ 2) (hl : pre.length = tt) (hpre : ∀ k, k < tt → rN hp 81 k = pre.getD k 0)
    (hR : ∀ (z : Int32) hp1, bHk 84 bTT hp1 → bFr wTK hp hp1 → rTk y s tt mn.toInt mx.toInt pre z.toInt hp hp1 → R (.inl (some (.int z))) hp1) : xK (d + 2) 246 [.ref 66, .int t, .int mn, .int mx] hp R := by
  have b0 := b21 hH
  have hEE := tE_le (by rw [← Y]; exact rB_ok hH : tOk (rN hp 66 21).toNat y) (s := s) (by omega)
  obtain ⟨T1, T2, T3, T4⟩ := id T
  refine xin (M := am_m246) rfl rfl rfl ?_
  refine xald 1 ⟨u246, _, rfl⟩ rfl rfl ?_
  refine xgetI 4 hH ⟨u246, _, rfl⟩ rfl rfl (fun z1 h1 => ?_)
  refine xcst 5 (2) ⟨u246, _, rfl⟩ rfl (by decide) (fun z4 h4 => ?_)
  refine xcmp_ne 8 ⟨u246, _, rfl⟩ rfl (fun c5 => ?_) (fun c5 => ?_)
  · refine xald 17 ⟨u246, _, rfl⟩ rfl rfl ?_
    refine xcst 18 (1) ⟨u246, _, rfl⟩ rfl (by decide) (fun z17 h17 => ?_)
    refine xcall 21 [.ref 66, .int _] [] hH ⟨u246, _, rfl⟩ rfl rfl rfl rfl rfl (k_rf hH h0 (fun z18 hp18 Z18 hH18 F18 A18 B18 => ⟨_, rfl, ?_⟩))
    exact xretB ⟨u246, _, rfl⟩ rfl (by omega) (hR _ hp18 hH18 (bFr_sub F18 (by decide)) (Or.inr ⟨by rw [tNum_1r (by omega)]; decide, by omega, by rw [tNum_1r (by omega)]; omega, by rw [B18]; exact T.1⟩))
  · refine xald 9 ⟨u246, _, rfl⟩ rfl rfl ?_
    refine xcall 12 [.ref 66] [] hH ⟨u246, _, rfl⟩ rfl rfl rfl rfl rfl (k_tln hH T (by omega) (fun z9 h9 => ⟨_, rfl, ?_⟩))
    refine xcst 13 (2) ⟨u246, _, rfl⟩ rfl (by decide) (fun z12 h12 => ?_)
    refine xcmp_le 16 ⟨u246, _, rfl⟩ rfl (fun c13 => ?_) (fun c13 => ?_)
    · have k2 : tK y s = 2 ∧ tE y s ≤ s + 2 := by omega
      have v28 := T4 k2.1 k2.2
      refine xald 23 ⟨u246, _, rfl⟩ rfl rfl ?_
      refine xgetI 26 hH ⟨u246, _, rfl⟩ rfl rfl (fun z23 h23 => ?_)
      refine xild 27 ⟨u246, _, rfl⟩ rfl rfl ?_
      refine xild 28 ⟨u246, _, rfl⟩ rfl rfl ?_
      refine xcallS 31 [.int _, .int _, .int _] [] hH ⟨u246, _, rfl⟩ rfl rfl rfl rfl rfl (k_inr (fun z28 h28 => ⟨_, rfl, ?_⟩))
      refine xif_ne 34 ⟨u246, _, rfl⟩ rfl (fun c31 => ?_) (fun c31 => ?_)
      · refine xcst 41 (0) ⟨u246, _, rfl⟩ rfl (by decide) (fun z40 h40 => ?_)
        refine xist2 43 ⟨u246, _, rfl⟩ rfl rfl ?_
        refine m246 hH Y T hs h0 ht ht2 hl hpre k2 v28 (by omega) (by omega) hR tt 0 _ (by omega) (by omega) (fun k k1 => by omega)
      · refine xald 35 ⟨u246, _, rfl⟩ rfl rfl ?_
        refine xcst 36 (2) ⟨u246, _, rfl⟩ rfl (by decide) (fun z35 h35 => ?_)
        refine xcall 39 [.ref 66, .int _] [] hH ⟨u246, _, rfl⟩ rfl rfl rfl rfl rfl (k_rf hH h0 (fun z36 hp36 Z36 hH36 F36 A36 B36 => ⟨_, rfl, ?_⟩))
        exact xretB ⟨u246, _, rfl⟩ rfl (by omega) (hR _ hp36 hH36 (bFr_sub F36 (by decide)) (Or.inr ⟨by rw [tNum_2r k2 (by omega)]; decide, by omega, by rw [tNum_2r k2 (by omega)]; omega, by rw [B36]; exact T.1⟩))
    · refine xald 17 ⟨u246, _, rfl⟩ rfl rfl ?_
      refine xcst 18 (1) ⟨u246, _, rfl⟩ rfl (by decide) (fun z17 h17 => ?_)
      refine xcall 21 [.ref 66, .int _] [] hH ⟨u246, _, rfl⟩ rfl rfl rfl rfl rfl (k_rf hH h0 (fun z18 hp18 Z18 hH18 F18 A18 B18 => ⟨_, rfl, ?_⟩))
      exact xretB ⟨u246, _, rfl⟩ rfl (by omega) (hR _ hp18 hH18 (bFr_sub F18 (by decide)) (Or.inr ⟨by rw [tNum_1r (by omega)]; decide, by omega, by rw [tNum_1r (by omega)]; omega, by rw [B18]; exact T.1⟩))
end
