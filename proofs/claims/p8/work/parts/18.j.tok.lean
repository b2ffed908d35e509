/-! ===== ways by hand: the text: bytes, tokens ===== -/
theorem u199 : bUp 0 am_m199.1 = true := by decide +kernel
theorem u241 : bUp 0 am_m241.1 = true := by decide +kernel
theorem u242 : bUp 0 am_m242.1 = true := by decide +kernel
theorem u243 : bUp 0 am_m243.1 = true := by decide +kernel
theorem u244 : bUp 0 am_m244.1 = true := by decide +kernel
theorem u245 : bUp 0 am_m245.1 = true := by decide +kernel
theorem u246 : bUp 0 am_m246.1 = true := by decide +kernel
theorem u247 : bUp 0 am_m247.1 = true := by decide +kernel
theorem u248 : bUp 0 am_m248.1 = true := by decide +kernel
theorem u249 : bUp 0 am_m249.1 = true := by decide +kernel
theorem u250 : bUp 0 am_m250.1 = true := by decide +kernel
theorem u251 : bUp 0 am_m251.1 = true := by decide +kernel
theorem k_byte {d : Nat} {hp : amH} {R : xQ} {k : Int32} (hH : bHk 84 bTT hp) (k0 : 0 ≤ k.toInt) (hR : ∀ z : Int32, ((z.toInt = -1 ∧ rN hp 66 21 ≤ k.toInt) ∨ (z.toInt = rN hp 80 k.toInt.toNat ∧ k.toInt < rN hp 66 21 ∧ 0 ≤ z.toInt ∧ z.toInt ≤ 255)) → R (.inl (some (.int z))) hp) : xK d 241 [.ref 66, .int k] hp R := by
  have hb21 := rb_fld hH (f := 21) (lo := 2147483648) (hi := 2147484248) rfl
  refine xin (M := am_m241) rfl rfl rfl ?_
  refine xild 1 ⟨u241, _, rfl⟩ rfl rfl ?_
  refine xald 2 ⟨u241, _, rfl⟩ rfl rfl ?_
  refine xgetI 5 hH ⟨u241, _, rfl⟩ rfl rfl (fun z2 h2 => ?_)
  refine xcmp_ge 8 ⟨u241, _, rfl⟩ rfl (fun c5 => ?_) (fun c5 => ?_)
  · refine xcst 18 (-1) ⟨u241, _, rfl⟩ rfl (by decide) (fun z17 h17 => ?_)
    exact xret ⟨u241, _, rfl⟩ rfl (hR _ (Or.inl ⟨by omega, by omega⟩))
  · refine xald 9 ⟨u241, _, rfl⟩ rfl rfl ?_
    refine xgetR 12 80 hH ⟨u241, _, rfl⟩ rfl rfl ?_
    refine xild 13 ⟨u241, _, rfl⟩ rfl rfl ?_
    refine xiald 14 k.toInt.toNat hH ⟨u241, _, rfl⟩ rfl (by decide) rfl (by omega) (by omega) (fun z13 h13 => ?_)
    have hb80 := rb_row hH (q := 80) (i := k.toInt.toNat) (by decide) rfl (by omega)
    refine xgoto ⟨u241, _, rfl⟩ ?_
    exact xret ⟨u241, _, rfl⟩ rfl (hR _ (Or.inr ⟨by omega, by omega, by omega, by omega⟩))
def wAdv : List (Nat × Nat) := [(66, 26), (66, 27), (66, 28), (66, 29)]
/-- places in the text -/
def PA (hp : amH) : Prop := 0 ≤ rN hp 66 27 ∧ rN hp 66 27 ≤ rN hp 66 26 ∧ rN hp 66 26 ≤ rN hp 66 21 ∧ rN hp 66 21 ≤ 600
def AV (hp0 hp1 : amH) : Prop := bFr wAdv hp0 hp1 ∧ PA hp1 ∧ rN hp0 66 26 ≤ rN hp1 66 26 ∧ (rN hp1 66 29 = 0 ∨ rN hp0 66 26 < rN hp1 66 26)
theorem l242a {d : Nat} {hp0 : amH} {R : xQ} (hQ : ∀ hp, bHk 84 bTT hp → bFr wAdv hp0 hp → rN hp0 66 26 ≤ rN hp 66 26 → rN hp 66 26 ≤ rN hp 66 21 → xV (d + 1) am_m242 39 [some (.ref 66)] [] hp R) :
    ∀ (jj : Nat) (hp : amH), bHk 84 bTT hp → bFr wAdv hp0 hp → rN hp0 66 26 ≤ rN hp 66 26 → rN hp 66 26 ≤ rN hp 66 21 → rN hp 66 26 + (jj : Int) = rN hp 66 21 → xV (d + 1) am_m242 0 [some (.ref 66)] [] hp R := by
  intro jj
  induction jj using Nat.strongRecOn with
  | ind jj ih =>
    intro hp hH hF h1 h2 h3
    have hb26 := rb_fld hH (f := 26) (lo := 2147483648) (hi := 2147484249) rfl
    have hb21 := rb_fld hH (f := 21) (lo := 2147483648) (hi := 2147484248) rfl
    refine xald 1 ⟨u242, _, rfl⟩ rfl rfl ?_
    refine xald 2 ⟨u242, _, rfl⟩ rfl rfl ?_
    refine xgetI 5 hH ⟨u242, _, rfl⟩ rfl rfl (fun z2 h2 => ?_)
    refine xcall 8 [.ref 66, .int _] [] hH ⟨u242, _, rfl⟩ rfl rfl rfl rfl rfl (k_byte hH (by omega) (fun z5 h5 => ⟨_, rfl, ?_⟩))
    refine xbip 10 (32) ⟨u242, _, rfl⟩ rfl (by decide) (fun z8 h8 => ?_)
    refine xcmp_eq 13 ⟨u242, _, rfl⟩ rfl (fun c10 => ?_) (fun c10 => ?_)
    · refine xald 27 ⟨u242, _, rfl⟩ rfl rfl ?_
      refine xdup 28 ⟨u242, _, rfl⟩ rfl rfl ?_
      refine xgetI 31 hH ⟨u242, _, rfl⟩ rfl rfl (fun z28 h28 => ?_)
      refine xcst 32 (1) ⟨u242, _, rfl⟩ rfl (by decide) (fun z31 h31 => ?_)
      refine xadd 33 _ ⟨u242, _, rfl⟩ rfl rfl (by omega) (by omega) (fun z32 h32 => ?_)
      refine xputI 36 hH ⟨u242, _, rfl⟩ rfl rfl ⟨rfl, rfl⟩ (by omega) (by omega) (fun hp33 hH33 U33 => ?_)
      refine xgoto ⟨u242, _, rfl⟩ ?_
      have n33_21 : rN hp33 66 21 = rN hp 66 21 := rU_ne U33 (by omega)
      have s33 := U33.1
      exact ih (jj - 1) (by omega) hp33 hH33 (hF.trans (rU_fr U33 (by decide))) (by omega) (by omega) (by omega)
    · refine xald 14 ⟨u242, _, rfl⟩ rfl rfl ?_
      refine xald 15 ⟨u242, _, rfl⟩ rfl rfl ?_
      refine xgetI 18 hH ⟨u242, _, rfl⟩ rfl rfl (fun z15 h15 => ?_)
      refine xcall 21 [.ref 66, .int _] [] hH ⟨u242, _, rfl⟩ rfl rfl rfl rfl rfl (k_byte hH (by omega) (fun z18 h18 => ⟨_, rfl, ?_⟩))
      refine xbip 23 (10) ⟨u242, _, rfl⟩ rfl (by decide) (fun z21 h21 => ?_)
      refine xcmp_ne 26 ⟨u242, _, rfl⟩ rfl (fun c23 => ?_) (fun c23 => ?_)
      · exact hQ hp hH hF (by omega) (by omega)
      · refine xald 27 ⟨u242, _, rfl⟩ rfl rfl ?_
        refine xdup 28 ⟨u242, _, rfl⟩ rfl rfl ?_
        refine xgetI 31 hH ⟨u242, _, rfl⟩ rfl rfl (fun z28 h28 => ?_)
        refine xcst 32 (1) ⟨u242, _, rfl⟩ rfl (by decide) (fun z31 h31 => ?_)
        refine xadd 33 _ ⟨u242, _, rfl⟩ rfl rfl (by omega) (by omega) (fun z32 h32 => ?_)
        refine xputI 36 hH ⟨u242, _, rfl⟩ rfl rfl ⟨rfl, rfl⟩ (by omega) (by omega) (fun hp33 hH33 U33 => ?_)
        refine xgoto ⟨u242, _, rfl⟩ ?_
        have n33_21 : rN hp33 66 21 = rN hp 66 21 := rU_ne U33 (by omega)
        have s33 := U33.1
        exact ih (jj - 1) (by omega) hp33 hH33 (hF.trans (rU_fr U33 (by decide))) (by omega) (by omega) (by omega)
theorem l242b {d : Nat} {hp0 : amH} {R : xQ} {B : Int} {c : Int32} (B0 : 0 ≤ B) (hQ : ∀ hp, bHk 84 bTT hp → bFr wAdv hp0 hp → rN hp 66 27 = B → B < rN hp 66 26 → rN hp 66 26 ≤ rN hp 66 21 → rN hp 66 29 = 1 → xV (d + 1) am_m242 229 [some (.ref 66), some (.int c)] [] hp R) :
    ∀ (jj : Nat) (hp : amH), bHk 84 bTT hp → bFr wAdv hp0 hp → rN hp 66 27 = B → B ≤ rN hp 66 26 → rN hp 66 26 ≤ rN hp 66 21 → rN hp 66 29 = 1 → rN hp 66 26 + (jj : Int) = rN hp 66 21 → (B < rN hp 66 26 ∨ (rN hp 66 26 = B ∧ B < rN hp 66 21 ∧ 97 ≤ rN hp 80 B.toNat ∧ rN hp 80 B.toNat ≤ 122)) → xV (d + 1) am_m242 90 [some (.ref 66), some (.int c)] [] hp R := by
  intro jj
  induction jj using Nat.strongRecOn with
  | ind jj ih =>
    intro hp hH hF h1 h2 h3 h4 h5 hst
    have hb26 := rb_fld hH (f := 26) (lo := 2147483648) (hi := 2147484249) rfl
    have hb21 := rb_fld hH (f := 21) (lo := 2147483648) (hi := 2147484248) rfl
    refine xald 91 ⟨u242, _, rfl⟩ rfl rfl ?_
    refine xald 92 ⟨u242, _, rfl⟩ rfl rfl ?_
    refine xgetI 95 hH ⟨u242, _, rfl⟩ rfl rfl (fun z92 h92 => ?_)
    refine xcall 98 [.ref 66, .int _] [] hH ⟨u242, _, rfl⟩ rfl rfl rfl rfl rfl (k_byte hH (by omega) (fun z95 h95 => ⟨_, rfl, ?_⟩))
    refine xbip 100 (97) ⟨u242, _, rfl⟩ rfl (by decide) (fun z98 h98 => ?_)
    refine xbip 102 (122) ⟨u242, _, rfl⟩ rfl (by decide) (fun z100 h100 => ?_)
    refine xcallS 105 [.int _, .int _, .int _] [] hH ⟨u242, _, rfl⟩ rfl rfl rfl rfl rfl (k_inr (fun z102 h102 => ⟨_, rfl, ?_⟩))
    refine xif_eq 108 ⟨u242, _, rfl⟩ rfl (fun c105 => ?_) (fun c105 => ?_)
    · have nxt : B < rN hp 66 26 := by
        rcases hst with g | ⟨g1, g2, g3, g4⟩
        · exact g
        · exfalso
          rcases h95 with ⟨-, q⟩ | ⟨q1, q2, -⟩
          · omega
          · rw [show z92.toInt.toNat = B.toNat by omega] at q1
            omega
      exact hQ hp hH hF (by omega) (by omega) (by omega) (by omega)
    · refine xald 109 ⟨u242, _, rfl⟩ rfl rfl ?_
      refine xdup 110 ⟨u242, _, rfl⟩ rfl rfl ?_
      refine xgetI 113 hH ⟨u242, _, rfl⟩ rfl rfl (fun z110 h110 => ?_)
      refine xcst 114 (1) ⟨u242, _, rfl⟩ rfl (by decide) (fun z113 h113 => ?_)
      refine xadd 115 _ ⟨u242, _, rfl⟩ rfl rfl (by omega) (by omega) (fun z114 h114 => ?_)
      refine xputI 118 hH ⟨u242, _, rfl⟩ rfl rfl ⟨rfl, rfl⟩ (by omega) (by omega) (fun hp115 hH115 U115 => ?_)
      refine xgoto ⟨u242, _, rfl⟩ ?_
      have n115_21 : rN hp115 66 21 = rN hp 66 21 := rU_ne U115 (by omega)
      have n115_27 : rN hp115 66 27 = rN hp 66 27 := rU_ne U115 (by omega)
      have n115_29 : rN hp115 66 29 = rN hp 66 29 := rU_ne U115 (by omega)
      have s115 := U115.1
      exact ih (jj - 1) (by omega) hp115 hH115 (hF.trans (rU_fr U115 (by decide))) (by omega) (by omega) (by omega) (by omega) (by omega) (Or.inl (by omega))
theorem l242c {d : Nat} {hp0 : amH} {R : xQ} {B : Int} {c : Int32} (B0 : 0 ≤ B) (hQ : ∀ hp, bHk 84 bTT hp → bFr wAdv hp0 hp → rN hp 66 27 = B → B < rN hp 66 26 → rN hp 66 26 ≤ rN hp 66 21 → rN hp 66 29 = 2 → xV (d + 1) am_m242 229 [some (.ref 66), some (.int c)] [] hp R) :
    ∀ (jj : Nat) (hp : amH), bHk 84 bTT hp → bFr wAdv hp0 hp → rN hp 66 27 = B → B ≤ rN hp 66 26 → rN hp 66 26 ≤ rN hp 66 21 → rN hp 66 29 = 2 → rN hp 66 26 + (jj : Int) = rN hp 66 21 → (B < rN hp 66 26 ∨ (rN hp 66 26 = B ∧ B < rN hp 66 21 ∧ 48 ≤ rN hp 80 B.toNat ∧ rN hp 80 B.toNat ≤ 57)) → ((rN hp 66 26 = B ∧ rN hp 66 28 = 0) ∨ (rN hp 66 26 = B + 1 ∧ 0 ≤ rN hp 66 28 ∧ rN hp 66 28 ≤ 1000) ∨ (B + 2 ≤ rN hp 66 26)) → xV (d + 1) am_m242 137 [some (.ref 66), some (.int c)] [] hp R := by
  intro jj
  induction jj using Nat.strongRecOn with
  | ind jj ih =>
    intro hp hH hF h1 h2 h3 h4 h5 hst hv
    have hb26 := rb_fld hH (f := 26) (lo := 2147483648) (hi := 2147484249) rfl
    have hb21 := rb_fld hH (f := 21) (lo := 2147483648) (hi := 2147484248) rfl
    refine xald 138 ⟨u242, _, rfl⟩ rfl rfl ?_
    refine xald 139 ⟨u242, _, rfl⟩ rfl rfl ?_
    refine xgetI 142 hH ⟨u242, _, rfl⟩ rfl rfl (fun z139 h139 => ?_)
    refine xcall 145 [.ref 66, .int _] [] hH ⟨u242, _, rfl⟩ rfl rfl rfl rfl rfl (k_byte hH (by omega) (fun z142 h142 => ⟨_, rfl, ?_⟩))
    refine xbip 147 (48) ⟨u242, _, rfl⟩ rfl (by decide) (fun z145 h145 => ?_)
    refine xbip 149 (57) ⟨u242, _, rfl⟩ rfl (by decide) (fun z147 h147 => ?_)
    refine xcallS 152 [.int _, .int _, .int _] [] hH ⟨u242, _, rfl⟩ rfl rfl rfl rfl rfl (k_inr (fun z149 h149 => ⟨_, rfl, ?_⟩))
    refine xif_eq 155 ⟨u242, _, rfl⟩ rfl (fun c152 => ?_) (fun c152 => ?_)
    · have nxt : B < rN hp 66 26 := by
        rcases hst with g | ⟨g1, g2, g3, g4⟩
        · exact g
        · exfalso
          rcases h142 with ⟨-, q⟩ | ⟨q1, q2, -⟩
          · omega
          · rw [show z139.toInt.toNat = B.toNat by omega] at q1
            omega
      exact hQ hp hH hF (by omega) (by omega) (by omega) (by omega)
    · refine xald 156 ⟨u242, _, rfl⟩ rfl rfl ?_
      refine xgetI 159 hH ⟨u242, _, rfl⟩ rfl rfl (fun z156 h156 => ?_)
      refine xald 160 ⟨u242, _, rfl⟩ rfl rfl ?_
      refine xgetI 163 hH ⟨u242, _, rfl⟩ rfl rfl (fun z160 h160 => ?_)
      refine xsub 164 _ ⟨u242, _, rfl⟩ rfl rfl (by omega) (by omega) (fun z163 h163 => ?_)
      refine xcst 165 (2) ⟨u242, _, rfl⟩ rfl (by decide) (fun z164 h164 => ?_)
      refine xcmp_ge 168 ⟨u242, _, rfl⟩ rfl (fun c165 => ?_) (fun c165 => ?_)
      · refine xald 192 ⟨u242, _, rfl⟩ rfl rfl ?_
        refine xdup 193 ⟨u242, _, rfl⟩ rfl rfl ?_
        refine xgetI 196 hH ⟨u242, _, rfl⟩ rfl rfl (fun z193 h193 => ?_)
        refine xcst 197 (1) ⟨u242, _, rfl⟩ rfl (by decide) (fun z196 h196 => ?_)
        refine xadd 198 _ ⟨u242, _, rfl⟩ rfl rfl (by omega) (by omega) (fun z197 h197 => ?_)
        refine xputI 201 hH ⟨u242, _, rfl⟩ rfl rfl ⟨rfl, rfl⟩ (by omega) (by omega) (fun hp198 hH198 U198 => ?_)
        refine xgoto ⟨u242, _, rfl⟩ ?_
        have n198_21 : rN hp198 66 21 = rN hp 66 21 := rU_ne U198 (by omega)
        have n198_27 : rN hp198 66 27 = rN hp 66 27 := rU_ne U198 (by omega)
        have n198_29 : rN hp198 66 29 = rN hp 66 29 := rU_ne U198 (by omega)
        have s198 := U198.1
        have n198_28 : rN hp198 66 28 = rN hp 66 28 := rU_ne U198 (by omega)
        exact ih (jj - 1) (by omega) hp198 hH198 (hF.trans (rU_fr U198 (by decide))) (by omega) (by omega) (by omega) (by omega) (by omega) (Or.inl (by omega)) (by omega)
      · refine xald 169 ⟨u242, _, rfl⟩ rfl rfl ?_
        refine xbip 171 (10) ⟨u242, _, rfl⟩ rfl (by decide) (fun z169 h169 => ?_)
        refine xald 172 ⟨u242, _, rfl⟩ rfl rfl ?_
        refine xgetI 175 hH ⟨u242, _, rfl⟩ rfl rfl (fun z172 h172 => ?_)
        refine xmul 176 (10 * Int32.toInt z172) ⟨u242, _, rfl⟩ rfl (by rw [h169]) (by omega) (by omega) (fun z175 h175 => ?_)
        refine xald 177 ⟨u242, _, rfl⟩ rfl rfl ?_
        refine xald 178 ⟨u242, _, rfl⟩ rfl rfl ?_
        refine xgetI 181 hH ⟨u242, _, rfl⟩ rfl rfl (fun z178 h178 => ?_)
        refine xcall 184 [.ref 66, .int _] [.int _, .ref 66] hH ⟨u242, _, rfl⟩ rfl rfl rfl rfl rfl (k_byte hH (by omega) (fun z181 h181 => ⟨_, rfl, ?_⟩))
        rw [show z178.toInt.toNat = z139.toInt.toNat by omega] at h181
        refine xadd 185 _ ⟨u242, _, rfl⟩ rfl rfl (by omega) (by omega) (fun z184 h184 => ?_)
        refine xbip 187 (48) ⟨u242, _, rfl⟩ rfl (by decide) (fun z185 h185 => ?_)
        refine xsub 188 _ ⟨u242, _, rfl⟩ rfl rfl (by omega) (by omega) (fun z187 h187 => ?_)
        have bmn := aMin z187
        have bmx := aMax z187
        refine xputI 191 hH ⟨u242, _, rfl⟩ rfl rfl ⟨rfl, rfl⟩ (by omega) (by omega) (fun hp188 hH188 U188 => ?_)
        have m188_26 : rN hp188 66 26 = rN hp 66 26 := rU_ne U188 (by omega)
        have m188_21 : rN hp188 66 21 = rN hp 66 21 := rU_ne U188 (by omega)
        refine xald 192 ⟨u242, _, rfl⟩ rfl rfl ?_
        refine xdup 193 ⟨u242, _, rfl⟩ rfl rfl ?_
        refine xgetI 196 hH188 ⟨u242, _, rfl⟩ rfl rfl (fun z193 h193 => ?_)
        refine xcst 197 (1) ⟨u242, _, rfl⟩ rfl (by decide) (fun z196 h196 => ?_)
        refine xadd 198 _ ⟨u242, _, rfl⟩ rfl rfl (by omega) (by omega) (fun z197 h197 => ?_)
        refine xputI 201 hH188 ⟨u242, _, rfl⟩ rfl rfl ⟨rfl, rfl⟩ (by omega) (by omega) (fun hp198 hH198 U198 => ?_)
        refine xgoto ⟨u242, _, rfl⟩ ?_
        have n188_21 : rN hp188 66 21 = rN hp 66 21 := rU_ne U188 (by omega)
        have n188_27 : rN hp188 66 27 = rN hp 66 27 := rU_ne U188 (by omega)
        have n188_29 : rN hp188 66 29 = rN hp 66 29 := rU_ne U188 (by omega)
        have n188_26 : rN hp188 66 26 = rN hp 66 26 := rU_ne U188 (by omega)
        have n198_21 : rN hp198 66 21 = rN hp188 66 21 := rU_ne U198 (by omega)
        have n198_27 : rN hp198 66 27 = rN hp188 66 27 := rU_ne U198 (by omega)
        have n198_29 : rN hp198 66 29 = rN hp188 66 29 := rU_ne U198 (by omega)
        have n198_28 : rN hp198 66 28 = rN hp188 66 28 := rU_ne U198 (by omega)
        have s198 := U198.1
        have s188 := U188.1
        exact ih (jj - 1) (by omega) hp198 hH198 (hF.trans ((rU_fr U188 (by decide)).trans (rU_fr U198 (by decide)))) (by omega) (by omega) (by omega) (by omega) (by omega) (Or.inl (by omega)) (by omega)
theorem e242 {d : Nat} {hp0 hp : amH} {R : xQ} (hR : ∀ hp1, bHk 84 bTT hp1 → AV hp0 hp1 → R (.inl none) hp1) (hH : bHk 84 bTT hp) (hF : bFr wAdv hp0 hp) (h1 : rN hp0 66 26 ≤ rN hp 66 26) (h2 : rN hp 66 26 ≤ rN hp 66 21) : xV (d + 1) am_m242 39 [some (.ref 66)] [] hp R := by
  have hb26 := rb_fld hH (f := 26) (lo := 2147483648) (hi := 2147484249) rfl
  have hb21 := rb_fld hH (f := 21) (lo := 2147483648) (hi := 2147484248) rfl
  have fin : ∀ hp1, bHk 84 bTT hp1 → bFr wAdv hp0 hp1 → 0 ≤ rN hp1 66 27 → rN hp1 66 27 ≤ rN hp1 66 26 → rN hp1 66 26 ≤ rN hp1 66 21 → rN hp0 66 26 ≤ rN hp1 66 26 → (rN hp1 66 29 = 0 ∨ rN hp0 66 26 < rN hp1 66 26) → ∀ v, xV (d + 1) am_m242 229 [some (.ref 66), v] [] hp1 R := by
    intro hp1 g1 g2 g3 g4 g5 g6 g7 v
    have hc21 := rb_fld g1 (f := 21) (lo := 2147483648) (hi := 2147484248) rfl
    exact xretV ⟨u242, _, rfl⟩ rfl (hR hp1 g1 ⟨g2, ⟨g3, g4, g5, by omega⟩, g6, g7⟩)
  refine xald 40 ⟨u242, _, rfl⟩ rfl rfl ?_
  refine xald 41 ⟨u242, _, rfl⟩ rfl rfl ?_
  refine xgetI 44 hH ⟨u242, _, rfl⟩ rfl rfl (fun z41 h41 => ?_)
  refine xputI 47 hH ⟨u242, _, rfl⟩ rfl rfl ⟨rfl, rfl⟩ (by omega) (by omega) (fun hp44 hH44 U44 => ?_)
  have s44 := U44.1
  have n44_26 : rN hp44 66 26 = rN hp 66 26 := rU_ne U44 (by omega)
  have n44_21 : rN hp44 66 21 = rN hp 66 21 := rU_ne U44 (by omega)
  refine xald 48 ⟨u242, _, rfl⟩ rfl rfl ?_
  refine xald 49 ⟨u242, _, rfl⟩ rfl rfl ?_
  refine xgetI 52 hH44 ⟨u242, _, rfl⟩ rfl rfl (fun z49 h49 => ?_)
  refine xcall 55 [.ref 66, .int _] [] hH44 ⟨u242, _, rfl⟩ rfl rfl rfl rfl rfl (k_byte hH44 (by omega) (fun z52 h52 => ⟨_, rfl, ?_⟩))
  refine xist 56 ⟨u242, _, rfl⟩ rfl rfl ?_
  refine xald 57 ⟨u242, _, rfl⟩ rfl rfl ?_
  refine xcst 58 (0) ⟨u242, _, rfl⟩ rfl (by decide) (fun z57 h57 => ?_)
  refine xputI 61 hH44 ⟨u242, _, rfl⟩ rfl rfl ⟨rfl, rfl⟩ (by omega) (by omega) (fun hp58 hH58 U58 => ?_)
  have s58 := U58.1
  have n58_26 : rN hp58 66 26 = rN hp44 66 26 := rU_ne U58 (by omega)
  have n58_21 : rN hp58 66 21 = rN hp44 66 21 := rU_ne U58 (by omega)
  have n58_27 : rN hp58 66 27 = rN hp44 66 27 := rU_ne U58 (by omega)
  have n58_80 : ∀ i, rN hp58 80 i = rN hp44 80 i := fun i => rU_ne U58 (by omega)
  have F58 : bFr wAdv hp0 hp58 := hF.trans ((rU_fr U44 (by decide)).trans (rU_fr U58 (by decide)))
  refine xild 62 ⟨u242, _, rfl⟩ rfl rfl ?_
  refine xcst 63 (-1) ⟨u242, _, rfl⟩ rfl (by decide) (fun z62 h62 => ?_)
  refine xcmp_ne 66 ⟨u242, _, rfl⟩ rfl (fun c63 => ?_) (fun c63 => ?_)
  · refine xild 75 ⟨u242, _, rfl⟩ rfl rfl ?_
    refine xbip 77 (97) ⟨u242, _, rfl⟩ rfl (by decide) (fun z75 h75 => ?_)
    refine xbip 79 (122) ⟨u242, _, rfl⟩ rfl (by decide) (fun z77 h77 => ?_)
    refine xcallS 82 [.int _, .int _, .int _] [] hH58 ⟨u242, _, rfl⟩ rfl rfl rfl rfl rfl (k_inr (fun z79 h79 => ⟨_, rfl, ?_⟩))
    refine xif_eq 85 ⟨u242, _, rfl⟩ rfl (fun c82 => ?_) (fun c82 => ?_)
    · refine xild 122 ⟨u242, _, rfl⟩ rfl rfl ?_
      refine xbip 124 (48) ⟨u242, _, rfl⟩ rfl (by decide) (fun z122 h122 => ?_)
      refine xbip 126 (57) ⟨u242, _, rfl⟩ rfl (by decide) (fun z124 h124 => ?_)
      refine xcallS 129 [.int _, .int _, .int _] [] hH58 ⟨u242, _, rfl⟩ rfl rfl rfl rfl rfl (k_inr (fun z126 h126 => ⟨_, rfl, ?_⟩))
      refine xif_eq 132 ⟨u242, _, rfl⟩ rfl (fun c129 => ?_) (fun c129 => ?_)
      · refine xald 205 ⟨u242, _, rfl⟩ rfl rfl ?_
        refine xild 206 ⟨u242, _, rfl⟩ rfl rfl ?_
        refine xbip 208 (59) ⟨u242, _, rfl⟩ rfl (by decide) (fun z206 h206 => ?_)
        refine xcmp_ne 211 ⟨u242, _, rfl⟩ rfl (fun c208 => ?_) (fun c208 => ?_)
        · refine xcst 216 (4) ⟨u242, _, rfl⟩ rfl (by decide) (fun z215 h215 => ?_)
          refine xputI 219 hH58 ⟨u242, _, rfl⟩ rfl rfl ⟨rfl, rfl⟩ (by omega) (by omega) (fun hp216 hH216 U216 => ?_)
          have m216_26 : rN hp216 66 26 = rN hp58 66 26 := rU_ne U216 (by omega)
          refine xald 220 ⟨u242, _, rfl⟩ rfl rfl ?_
          refine xdup 221 ⟨u242, _, rfl⟩ rfl rfl ?_
          refine xgetI 224 hH216 ⟨u242, _, rfl⟩ rfl rfl (fun z221 h221 => ?_)
          refine xcst 225 (1) ⟨u242, _, rfl⟩ rfl (by decide) (fun z224 h224 => ?_)
          refine xadd 226 _ ⟨u242, _, rfl⟩ rfl rfl (by omega) (by omega) (fun z225 h225 => ?_)
          refine xputI 229 hH216 ⟨u242, _, rfl⟩ rfl rfl ⟨rfl, rfl⟩ (by omega) (by omega) (fun hp226 hH226 U226 => ?_)
          have s216 := U216.1
          have n216_21 : rN hp216 66 21 = rN hp58 66 21 := rU_ne U216 (by omega)
          have n216_26 : rN hp216 66 26 = rN hp58 66 26 := rU_ne U216 (by omega)
          have n216_27 : rN hp216 66 27 = rN hp58 66 27 := rU_ne U216 (by omega)
          have s226 := U226.1
          have n226_21 : rN hp226 66 21 = rN hp216 66 21 := rU_ne U226 (by omega)
          have n226_27 : rN hp226 66 27 = rN hp216 66 27 := rU_ne U226 (by omega)
          have n226_29 : rN hp226 66 29 = rN hp216 66 29 := rU_ne U226 (by omega)
          exact fin hp226 hH226 (F58.trans ((rU_fr U216 (by decide)).trans (rU_fr U226 (by decide)))) (by omega) (by omega) (by omega) (by omega) (by omega) _
        · refine xcst 212 (3) ⟨u242, _, rfl⟩ rfl (by decide) (fun z211 h211 => ?_)
          refine xgoto ⟨u242, _, rfl⟩ ?_
          refine xputI 219 hH58 ⟨u242, _, rfl⟩ rfl rfl ⟨rfl, rfl⟩ (by omega) (by omega) (fun hp216 hH216 U216 => ?_)
          have m216_26 : rN hp216 66 26 = rN hp58 66 26 := rU_ne U216 (by omega)
          refine xald 220 ⟨u242, _, rfl⟩ rfl rfl ?_
          refine xdup 221 ⟨u242, _, rfl⟩ rfl rfl ?_
          refine xgetI 224 hH216 ⟨u242, _, rfl⟩ rfl rfl (fun z221 h221 => ?_)
          refine xcst 225 (1) ⟨u242, _, rfl⟩ rfl (by decide) (fun z224 h224 => ?_)
          refine xadd 226 _ ⟨u242, _, rfl⟩ rfl rfl (by omega) (by omega) (fun z225 h225 => ?_)
          refine xputI 229 hH216 ⟨u242, _, rfl⟩ rfl rfl ⟨rfl, rfl⟩ (by omega) (by omega) (fun hp226 hH226 U226 => ?_)
          have s216 := U216.1
          have n216_21 : rN hp216 66 21 = rN hp58 66 21 := rU_ne U216 (by omega)
          have n216_26 : rN hp216 66 26 = rN hp58 66 26 := rU_ne U216 (by omega)
          have n216_27 : rN hp216 66 27 = rN hp58 66 27 := rU_ne U216 (by omega)
          have s226 := U226.1
          have n226_21 : rN hp226 66 21 = rN hp216 66 21 := rU_ne U226 (by omega)
          have n226_27 : rN hp226 66 27 = rN hp216 66 27 := rU_ne U226 (by omega)
          have n226_29 : rN hp226 66 29 = rN hp216 66 29 := rU_ne U226 (by omega)
          exact fin hp226 hH226 (F58.trans ((rU_fr U216 (by decide)).trans (rU_fr U226 (by decide)))) (by omega) (by omega) (by omega) (by omega) (by omega) _
      · refine xald 133 ⟨u242, _, rfl⟩ rfl rfl ?_
        refine xcst 134 (2) ⟨u242, _, rfl⟩ rfl (by decide) (fun z133 h133 => ?_)
        refine xputI 137 hH58 ⟨u242, _, rfl⟩ rfl rfl ⟨rfl, rfl⟩ (by omega) (by omega) (fun hp134 hH134 U134 => ?_)
        have s134 := U134.1
        have n134_21 : rN hp134 66 21 = rN hp58 66 21 := rU_ne U134 (by omega)
        have n134_26 : rN hp134 66 26 = rN hp58 66 26 := rU_ne U134 (by omega)
        have n134_27 : rN hp134 66 27 = rN hp58 66 27 := rU_ne U134 (by omega)
        have n134_28 : rN hp134 66 28 = rN hp58 66 28 := rU_ne U134 (by omega)
        have g80 : rN hp134 80 (rN hp 66 26).toNat = rN hp44 80 (rN hp 66 26).toNat := (rU_ne U134 (by omega)).trans (n58_80 _)
        rw [show z49.toInt.toNat = (rN hp 66 26).toNat by omega] at h52
        exact l242c (hp0 := hp0) (B := rN hp 66 26) (by omega) (fun hp1 g1 g2 g3 g4 g5 g6 => fin hp1 g1 g2 (by omega) (by omega) (by omega) (by omega) (by omega) _) (rN hp 66 21 - rN hp 66 26).toNat hp134 hH134 (F58.trans (rU_fr U134 (by decide))) (by omega) (by omega) (by omega) (by omega) (by omega) (Or.inr ⟨by omega, by omega, by omega, by omega⟩) (Or.inl ⟨by omega, by omega⟩)
    · refine xald 86 ⟨u242, _, rfl⟩ rfl rfl ?_
      refine xcst 87 (1) ⟨u242, _, rfl⟩ rfl (by decide) (fun z86 h86 => ?_)
      refine xputI 90 hH58 ⟨u242, _, rfl⟩ rfl rfl ⟨rfl, rfl⟩ (by omega) (by omega) (fun hp87 hH87 U87 => ?_)
      have s87 := U87.1
      have n87_21 : rN hp87 66 21 = rN hp58 66 21 := rU_ne U87 (by omega)
      have n87_26 : rN hp87 66 26 = rN hp58 66 26 := rU_ne U87 (by omega)
      have n87_27 : rN hp87 66 27 = rN hp58 66 27 := rU_ne U87 (by omega)
      have n87_28 : rN hp87 66 28 = rN hp58 66 28 := rU_ne U87 (by omega)
      have g80 : rN hp87 80 (rN hp 66 26).toNat = rN hp44 80 (rN hp 66 26).toNat := (rU_ne U87 (by omega)).trans (n58_80 _)
      rw [show z49.toInt.toNat = (rN hp 66 26).toNat by omega] at h52
      exact l242b (hp0 := hp0) (B := rN hp 66 26) (by omega) (fun hp1 g1 g2 g3 g4 g5 g6 => fin hp1 g1 g2 (by omega) (by omega) (by omega) (by omega) (by omega) _) (rN hp 66 21 - rN hp 66 26).toNat hp87 hH87 (F58.trans (rU_fr U87 (by decide))) (by omega) (by omega) (by omega) (by omega) (by omega) (Or.inr ⟨by omega, by omega, by omega, by omega⟩)
  · refine xald 67 ⟨u242, _, rfl⟩ rfl rfl ?_
    refine xcst 68 (0) ⟨u242, _, rfl⟩ rfl (by decide) (fun z67 h67 => ?_)
    refine xputI 71 hH58 ⟨u242, _, rfl⟩ rfl rfl ⟨rfl, rfl⟩ (by omega) (by omega) (fun hp68 hH68 U68 => ?_)
    refine xgoto ⟨u242, _, rfl⟩ ?_
    have s68 := U68.1
    have n68_21 : rN hp68 66 21 = rN hp58 66 21 := rU_ne U68 (by omega)
    have n68_26 : rN hp68 66 26 = rN hp58 66 26 := rU_ne U68 (by omega)
    have n68_27 : rN hp68 66 27 = rN hp58 66 27 := rU_ne U68 (by omega)
    exact fin hp68 hH68 (F58.trans (rU_fr U68 (by decide))) (by omega) (by omega) (by omega) (by omega) (by omega) _
theorem k_adv {d : Nat} {hp : amH} {R : xQ} (hH : bHk 84 bTT hp) (hn : rN hp 66 26 ≤ rN hp 66 21) (hR : ∀ hp1, bHk 84 bTT hp1 → AV hp hp1 → R (.inl none) hp1) : xK (d + 1) 242 [.ref 66] hp R := by
  refine xin (M := am_m242) rfl rfl rfl ?_
  exact l242a (fun hp1 g1 g2 g3 g4 => e242 hR g1 g2 g3 g4) (rN hp 66 21 - rN hp 66 26).toNat hp hH (bFr.refl _ _) (Int.le_refl _) hn (by omega)
