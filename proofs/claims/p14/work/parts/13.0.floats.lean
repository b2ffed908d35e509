/-! ##### 13.0.floats ##### -/
section
/-! ===== floats: what a quotient of whole numbers is not ===== -/
noncomputable def flS (f : FP.Core.Fmt) (d : FP.Core.Datum) : Prop := (∃ s, d = .inf s) ∨ ∃ s c q, d = .fin s c q ∧ c < 2 ^ f.p ∧ q ≤ f.qmax
/-- what the two formats have in common -/
noncomputable def flF (f : FP.Core.Fmt) : Prop := 2 ^ f.p = 2 * f.tails ∧ 0 < f.tails ∧ f.qmin ≤ f.qmax ∧ (f.qmax - f.qmin).toNat + 3 = f.exps
theorem fl_32 : flF FP.Core.b32 := by unfold flF; decide +kernel
theorem fl_64 : flF FP.Core.b64 := by unfold flF; decide +kernel
theorem fl_settle {f : FP.Core.Fmt} (hf : flF f) (s : Bool) (c : Nat) (q : Int) : flS f (FP.Core.settle f s c q) := by
  unfold FP.Core.settle
  split
  · next h =>
    unfold FP.Core.bound
    split
    · next h2 => exact Or.inr ⟨_, _, _, rfl, h, h2⟩
    · exact Or.inl ⟨_, rfl⟩
  · unfold FP.Core.bound
    split
    · next h2 => exact Or.inr ⟨_, _, _, rfl, by have := hf.1; have := hf.2.1; omega, h2⟩
    · exact Or.inl ⟨_, rfl⟩
theorem fl_ratio {f : FP.Core.Fmt} (hf : flF f) (s : Bool) (num den : Nat) (e : Int) : flS f (FP.Core.roundRatio f s num den e) := by
  unfold FP.Core.roundRatio
  split
  · exact Or.inr ⟨_, _, _, rfl, by have := hf.1; have := hf.2.1; omega, hf.2.2.1⟩
  · exact fl_settle hf _ _ _
theorem fl_round {f : FP.Core.Fmt} (hf : flF f) {d : FP.Core.Datum} (hd : d ≠ .nan) : flS f (FP.Core.round f d) := by
  cases d with
  | nan => exact absurd rfl hd
  | inf s => exact Or.inl ⟨_, rfl⟩
  | fin s c q => exact fl_ratio hf _ _ _ _
theorem fl_quot {f : FP.Core.Fmt} (hf : flF f) {a b : FP.Core.Datum} (ha : a ≠ .nan) {s : Bool} {c : Nat} {q : Int} (hb : b = .fin s c q) (hc : c ≠ 0) : flS f (FP.Core.quotient f a b) := by
  subst hb
  cases a with
  | nan => exact absurd rfl ha
  | inf s => exact Or.inl ⟨_, rfl⟩
  | fin s c q =>
    unfold FP.Core.quotient
    dsimp only
    rw [if_neg hc]
    exact fl_ratio hf _ _ _ _
theorem fl_enc {f : FP.Core.Fmt} (hf : flF f) {d : FP.Core.Datum} (h : flS f d) : ∃ s e t, FP.Core.encode f d = FP.Core.assemble f s e t ∧ t < f.tails ∧ e < f.exps ∧ (e = f.exps - 1 → t = 0) := by
  obtain ⟨h1, h2, h3, h4⟩ := hf
  rcases h with ⟨s, rfl⟩ | ⟨s, c, q, rfl, hc, hq⟩
  · exact ⟨s, f.exps - 1, 0, rfl, h2, by omega, fun _ => rfl⟩
  · unfold FP.Core.encode
    dsimp only
    split
    · next h => exact ⟨s, 0, c, rfl, h, by omega, fun z => by omega⟩
    · next h =>
      refine ⟨s, (q - f.qmin).toNat + 1, c - f.tails, rfl, by omega, ?_, fun z => ?_⟩
      · omega
      · omega
theorem fl_dec {f : FP.Core.Fmt} (hf : flF f) {s : Bool} {e t : Nat} (ht : t < f.tails) (he : e < f.exps) (h0 : e = f.exps - 1 → t = 0) : FP.Core.decode f (FP.Core.assemble f s e t) ≠ .nan := by
  have hT : FP.Core.fieldT f (FP.Core.assemble f s e t) = t := by
    unfold FP.Core.fieldT FP.Core.assemble
    rw [Nat.mul_comm, Nat.mul_add_mod, Nat.mod_eq_of_lt ht]
  have hE : FP.Core.fieldE f (FP.Core.assemble f s e t) = e := by
    unfold FP.Core.fieldE FP.Core.assemble
    rw [Nat.mul_comm _ f.tails, Nat.mul_add_div hf.2.1, Nat.div_eq_of_lt ht, Nat.add_zero, Nat.mul_comm _ f.exps, Nat.mul_add_mod, Nat.mod_eq_of_lt he]
  unfold FP.Core.decode
  rw [hT, hE]
  split
  · next h => rw [if_pos (h0 h)]; intro z; cases z
  · split
    · intro z; cases z
    · intro z; cases z
theorem fl_bool (s : Bool) : s.toNat ≤ 1 := by cases s <;> decide
/-- 32 bits -/
theorem fl_u32 {d : FP.Core.Datum} (h : flS FP.Core.b32 d) : (UInt32.ofNat (FP.Core.encode FP.Core.b32 d)).toNat = FP.Core.encode FP.Core.b32 d ∧ (UInt32.ofNat (FP.Core.encode FP.Core.b32 d)) &&& 0x7fffffff ≤ 0x7f800000 ∧ FP.Core.decode FP.Core.b32 (FP.Core.encode FP.Core.b32 d) ≠ .nan := by
  obtain ⟨s, e, t, h1, h2, h3, h4⟩ := fl_enc fl_32 h
  have h5 := fl_dec (s := s) fl_32 h2 h3 h4
  rw [← h1] at h5
  have hs := fl_bool s
  have ht : FP.Core.b32.tails = 8388608 := by decide
  have he : FP.Core.b32.exps = 256 := by decide
  have hn : FP.Core.encode FP.Core.b32 d = (s.toNat * 256 + e) * 8388608 + t := by rw [h1, FP.Core.assemble, ht, he]
  rw [ht] at h2
  rw [he] at h3 h4
  generalize FP.Core.encode FP.Core.b32 d = n at hn h5 ⊢
  have hlt : n < 4294967296 := by omega
  have hto : (UInt32.ofNat n).toNat = n := by rw [UInt32.toNat_ofNat']; exact Nat.mod_eq_of_lt hlt
  refine ⟨hto, ?_, h5⟩
  rw [UInt32.le_iff_toNat_le, UInt32.toNat_and, hto]
  have h7 : (0x7fffffff : UInt32).toNat = 2 ^ 31 - 1 := by decide
  have h8 : (0x7f800000 : UInt32).toNat = 255 * 8388608 := by decide
  rw [h7, h8, Nat.and_two_pow_sub_one_eq_mod]
  omega
theorem fl_u64 {d : FP.Core.Datum} (h : flS FP.Core.b64 d) : (UInt64.ofNat (FP.Core.encode FP.Core.b64 d)).toNat = FP.Core.encode FP.Core.b64 d ∧ (UInt64.ofNat (FP.Core.encode FP.Core.b64 d)) &&& 0x7fffffffffffffff ≤ 0x7ff0000000000000 ∧ FP.Core.decode FP.Core.b64 (FP.Core.encode FP.Core.b64 d) ≠ .nan := by
  obtain ⟨s, e, t, h1, h2, h3, h4⟩ := fl_enc fl_64 h
  have h5 := fl_dec (s := s) fl_64 h2 h3 h4
  rw [← h1] at h5
  have hs := fl_bool s
  have ht : FP.Core.b64.tails = 4503599627370496 := by decide +kernel
  have he : FP.Core.b64.exps = 2048 := by decide
  have hn : FP.Core.encode FP.Core.b64 d = (s.toNat * 2048 + e) * 4503599627370496 + t := by rw [h1, FP.Core.assemble, ht, he]
  rw [ht] at h2
  rw [he] at h3 h4
  generalize FP.Core.encode FP.Core.b64 d = n at hn h5 ⊢
  have hlt : n < 18446744073709551616 := by omega
  have hto : (UInt64.ofNat n).toNat = n := by rw [UInt64.toNat_ofNat']; exact Nat.mod_eq_of_lt hlt
  refine ⟨hto, ?_, h5⟩
  rw [UInt64.le_iff_toNat_le, UInt64.toNat_and, hto]
  have h7 : (0x7fffffffffffffff : UInt64).toNat = 2 ^ 63 - 1 := by decide
  have h8 : (0x7ff0000000000000 : UInt64).toNat = 2047 * 4503599627370496 := by decide
  rw [h7, h8, Nat.and_two_pow_sub_one_eq_mod]
  omega
theorem fl_ofInt (i : Int) : FP.Core.ofInt i ≠ .nan := by
  unfold FP.Core.ofInt
  intro z
  cases z
theorem fl_i2f (x : Int32) : FP.Core.decode FP.Core.b32 (FP.i2f x).toNat ≠ .nan := by
  have h := fl_u32 (fl_round fl_32 (fl_ofInt x.toInt))
  show FP.Core.decode FP.Core.b32 (UInt32.ofNat (FP.Core.encode FP.Core.b32 _)).toNat ≠ _
  rw [h.1]
  exact h.2.2
theorem fl_i2d (x : Int32) : FP.Core.decode FP.Core.b64 (FP.i2d x).toNat ≠ .nan := by
  have h := fl_u64 (fl_round fl_64 (fl_ofInt x.toInt))
  show FP.Core.decode FP.Core.b64 (UInt64.ofNat (FP.Core.encode FP.Core.b64 _)).toNat ≠ _
  rw [h.1]
  exact h.2.2
noncomputable def flNz (d : FP.Core.Datum) : Bool := match d with
  | .fin _ c _ => decide (c ≠ 0)
  | _ => false
theorem flNz_s {d : FP.Core.Datum} (h : flNz d = true) : ∃ s c q, d = .fin s c q ∧ c ≠ 0 := by
  cases d with
  | nan => cases h
  | inf s => cases h
  | fin s c q => exact ⟨s, c, q, rfl, of_decide_eq_true h⟩
theorem fl_nz : ∀ k : Fin 200, k.val ≠ 0 → flNz (FP.Core.decode FP.Core.b32 (FP.i2f (Int32.ofInt (k.val : Int))).toNat) = true ∧ flNz (FP.Core.decode FP.Core.b64 (FP.i2d (Int32.ofInt (k.val : Int))).toNat) = true := by decide +kernel
theorem fl_fdiv {x y : UInt32} (hx : FP.Core.decode FP.Core.b32 x.toNat ≠ .nan) (hy : flNz (FP.Core.decode FP.Core.b32 y.toNat) = true) : FP.fdiv x y &&& 0x7fffffff ≤ 0x7f800000 ∧ FP.Core.decode FP.Core.b32 (FP.fdiv x y).toNat ≠ .nan := by
  obtain ⟨s, c, q, h1, h2⟩ := flNz_s hy
  have h := fl_u32 (fl_quot fl_32 hx h1 h2)
  refine ⟨h.2.1, ?_⟩
  show FP.Core.decode FP.Core.b32 (UInt32.ofNat (FP.Core.encode FP.Core.b32 _)).toNat ≠ _
  rw [h.1]
  exact h.2.2
theorem fl_ddiv {x y : UInt64} (hx : FP.Core.decode FP.Core.b64 x.toNat ≠ .nan) (hy : flNz (FP.Core.decode FP.Core.b64 y.toNat) = true) : FP.ddiv x y &&& 0x7fffffffffffffff ≤ 0x7ff0000000000000 := by
  obtain ⟨s, c, q, h1, h2⟩ := flNz_s hy
  exact (fl_u64 (fl_quot fl_64 hx h1 h2)).2.1
theorem fl_f2d {x : UInt32} (hx : FP.Core.decode FP.Core.b32 x.toNat ≠ .nan) : FP.f2d x &&& 0x7fffffffffffffff ≤ 0x7ff0000000000000 := by
  have h : FP.Core.fIsNaN x = false := by
    unfold FP.Core.fIsNaN FP.Core.isNaN
    exact decide_eq_false hx
  unfold FP.f2d
  rw [h]
  exact (fl_u64 (fl_round fl_64 hx)).2.1
end
/-! ##### 13.a.bval ##### -/
section
/-! ===== runs over invariants: values known by their bounds, by what they were (a number) and what was added ===== -/
abbrev bV : Type := Nat ⊕ ((Nat × Nat) ⊕ (Nat ⊕ List Nat))
abbrev bY : Type := (Nat × Nat) ⊕ (Nat ⊕ List Nat)
abbrev bE : Type := List (Nat × Nat)
abbrev bF : Type := List (Nat × Nat × bV)
abbrev bRt : Type := List (bV × bV)
abbrev bMm : Type := List (bV × bV × bV)
abbrev bS : Type := bE × bF × bRt × bMm
abbrev bL : Type := List (Option bV)
abbrev bD : Type := Nat × Nat × List bY
noncomputable def bB : Nat := 1000000
/-- 1 a long, 2 a double, 3 a float that is no NaN, 4 null, 5 one that isn't 0 either, 6 a double that is no NaN, 7 one that isn't 0 either; from amK on a constant's name -/
noncomputable def bT (t : Nat) (w : Value) : Prop := (t = 1 ∧ ∃ x, w = .long x) ∨ ((t = 2 ∨ t = 6 ∨ t = 7) ∧ ∃ x, w = .double x ∧ (t ≠ 2 → FP.Core.decode FP.Core.b64 x.toNat ≠ .nan) ∧ (t = 7 → flNz (FP.Core.decode FP.Core.b64 x.toNat) = true)) ∨
  ((t = 3 ∨ t = 5) ∧ ∃ x, w = .float x ∧ FP.Core.decode FP.Core.b32 x.toNat ≠ .nan ∧ (t = 5 → flNz (FP.Core.decode FP.Core.b32 x.toNat) = true)) ∨ (t = 4 ∧ w = .null) ∨ (amK ≤ t ∧ w = .ref t)
noncomputable def bR (n : Nat) (ρ : List Nat) : bV → Value → Prop
  | .inl k, w => ∃ x, w = .int x ∧ aOff x = k
  | .inr (.inl q), w => ∃ x r, w = .int x ∧ ρ[q.1]? = some r ∧ aOff x + bB = r + q.2
  | .inr (.inr (.inl t)), w => bT t w
  | .inr (.inr (.inr l)), w => ∃ i, w = .ref i ∧ i < n ∧ i ∈ l
noncomputable def bYr (n : Nat) : bY → Value → Prop
  | .inl q, w => ∃ x, w = .int x ∧ q.1 ≤ aOff x ∧ aOff x ≤ q.2
  | .inr (.inl t), w => bT t w
  | .inr (.inr l), w => ∃ i, w = .ref i ∧ i < n ∧ i ∈ l
theorem bR_mono {n : Nat} {ρ ρ' : List Nat} (h : ρ <+: ρ') {v : bV} {w : Value} (hv : bR n ρ v w) : bR n ρ' v w := by
  obtain ⟨z, rfl⟩ := h
  match v, hv with
  | .inl k, hv => exact hv
  | .inr (.inl q), ⟨x, r, h1, h2, h3⟩ => exact ⟨x, r, h1, by rw [List.getElem?_append_left (a_lt h2)]; exact h2, h3⟩
  | .inr (.inr (.inl t)), hv => exact hv
  | .inr (.inr (.inr l)), hv => exact hv
theorem bT_ok {n t : Nat} {w : Value} (h : bT t w) : amOk n w = true := by
  rcases h with ⟨-, x, rfl⟩ | ⟨-, x, rfl, -⟩ | ⟨-, x, rfl, -⟩ | ⟨-, rfl⟩ | ⟨h1, rfl⟩
  · rfl
  · rfl
  · rfl
  · rfl
  · simp [amOk, h1]
theorem bR_ok {n : Nat} {ρ : List Nat} {v : bV} {w : Value} (hv : bR n ρ v w) : amOk n w = true := by
  match v, hv with
  | .inl k, hv => obtain ⟨x, rfl, -⟩ := hv; rfl
  | .inr (.inl q), hv => obtain ⟨x, r, rfl, -⟩ := hv; rfl
  | .inr (.inr (.inl t)), hv => exact bT_ok hv
  | .inr (.inr (.inr l)), hv => obtain ⟨i, rfl, h1, -⟩ := hv; simp [amOk, h1]
/-- the same kind of value: what is an int, is one int -/
noncomputable def bIsI : bV → Bool
  | .inl _ => true
  | .inr (.inl _) => true
  | _ => false
theorem bIsI_s {n : Nat} {ρ : List Nat} {v : bV} {w : Value} (h : bIsI v = true) (hv : bR n ρ v w) : ∃ x, w = .int x := by
  match v, h, hv with
  | .inl k, _, ⟨x, h1, _⟩ => exact ⟨x, h1⟩
  | .inr (.inl q), _, ⟨x, r, h1, _⟩ => exact ⟨x, h1⟩
theorem bOff_inj {x y : Int32} (h : aOff x = aOff y) : x = y := by
  have h1 := aOff_eq x
  have h2 := aOff_eq y
  exact Int32.toInt_inj.mp (by omega)
theorem bR_uniq {n : Nat} {ρ : List Nat} {v : bV} {x y : Int32} (h1 : bR n ρ v (.int x)) (h2 : bR n ρ v (.int y)) : x = y := by
  match v, h1, h2 with
  | .inl k, ⟨a, ea, e1⟩, ⟨b, eb, e2⟩ =>
    cases ea; cases eb
    exact bOff_inj (by rw [e1, e2])
  | .inr (.inl q), ⟨a, r, ea, e1, e2⟩, ⟨b, s, eb, e3, e4⟩ =>
    cases ea; cases eb
    rw [e1] at e3
    cases e3
    exact bOff_inj (by omega)
  | .inr (.inr (.inl t)), h1, _ =>
    rcases h1 with ⟨-, x, h⟩ | ⟨-, x, h, -⟩ | ⟨-, x, h, -⟩ | ⟨-, h⟩ | ⟨-, h⟩ <;> cases h
  | .inr (.inr (.inr l)), ⟨_, h, _⟩, _ => cases h
/-! the numbers' bounds -/
noncomputable def bRE (ρ : List Nat) (E : bE) : Prop := ρ.length = E.length ∧ ∀ (i a b : Nat), E[i]? = some (a, b) → ∃ r, ρ[i]? = some r ∧ a ≤ r ∧ r ≤ b
noncomputable def bIv (E : bE) : bV → Option (Nat × Nat)
  | .inl k => some (k, k)
  | .inr (.inl q) => (match lAt E q.1 with
    | some r => some (Nat.sub (Nat.add r.1 q.2) bB, Nat.sub (Nat.add r.2 q.2) bB)
    | none => none)
  | _ => none
theorem bIn_off {a b : Nat} {x : Int32} : aIn a b x ↔ a ≤ aOff x ∧ aOff x ≤ b := by
  have := aOff_eq x
  unfold aIn
  omega
theorem bOff_le (x : Int32) : aOff x ≤ 4294967295 := by
  have := aOff_eq x
  have := aMax x
  omega
theorem bIv_s {n : Nat} {ρ : List Nat} {E : bE} (hE : bRE ρ E) {v : bV} {q : Nat × Nat} (h : bIv E v = some q) {w : Value} (hv : bR n ρ v w) : ∃ x, w = .int x ∧ aIn q.1 q.2 x := by
  match v, h, hv with
  | .inl k, h, ⟨x, h1, h2⟩ =>
    cases h
    exact ⟨x, h1, bIn_off.mpr (by simp only [h2]; exact ⟨Nat.le_refl _, Nat.le_refl _⟩)⟩
  | .inr (.inl p), h, ⟨x, r, h1, h2, h3⟩ =>
    simp only [bIv] at h
    split at h
    · next s e =>
      have h := Option.some.inj h
      subst h
      rw [lAt_eq] at e
      obtain ⟨r', g1, g2, g3⟩ := hE.2 p.1 s.1 s.2 e
      rw [h2] at g1
      cases g1
      refine ⟨x, h1, bIn_off.mpr ⟨?_, ?_⟩⟩
      · show s.1 + p.2 - bB ≤ _
        omega
      · show _ ≤ s.2 + p.2 - bB
        omega
    · cases h
/-- a new number -/
noncomputable def bNew (E : bE) (q : Nat × Nat) : bV × bE := match Nat.beq q.1 q.2 with
  | true => (.inl q.1, E)
  | false => (.inr (.inl (E.length, bB)), E ++ [q])
theorem bNew_s {n : Nat} {ρ : List Nat} {E : bE} (hE : bRE ρ E) {q : Nat × Nat} {x : Int32} (hx : aIn q.1 q.2 x) : ∃ ρ', ρ <+: ρ' ∧ bRE ρ' (bNew E q).2 ∧ bR n ρ' (bNew E q).1 (.int x) := by
  have hx := bIn_off.mp hx
  unfold bNew
  split
  · next e =>
    have e := Nat.eq_of_beq_eq_true e
    exact ⟨ρ, List.prefix_refl _, hE, x, rfl, by omega⟩
  · refine ⟨ρ ++ [aOff x], List.prefix_append _ _, ⟨by simp [hE.1], ?_⟩, ⟨x, aOff x, rfl, ?_, rfl⟩⟩
    · intro i a b h
      by_cases hi : i < E.length
      · rw [List.getElem?_append_left hi] at h
        rw [List.getElem?_append_left (by rw [hE.1]; exact hi)]
        exact hE.2 i a b h
      · rw [List.getElem?_append_right (by omega)] at h
        have : i = E.length := by
          have := a_lt h
          simp at this
          omega
        subst this
        rw [Nat.sub_self] at h
        cases h
        exact ⟨aOff x, by rw [← hE.1, List.getElem?_append_right (Nat.le_refl _), Nat.sub_self]; rfl, hx.1, hx.2⟩
    · show (ρ ++ [aOff x])[E.length]? = _
      rw [← hE.1, List.getElem?_append_right (Nat.le_refl _), Nat.sub_self]; rfl
/-- a type's value, new -/
noncomputable def bOfY (E : bE) : bY → bV × bE
  | .inl q => bNew E q
  | .inr (.inl t) => (.inr (.inr (.inl t)), E)
  | .inr (.inr l) => (.inr (.inr (.inr l)), E)
theorem bOfY_s {n : Nat} {ρ : List Nat} {E : bE} (hE : bRE ρ E) {y : bY} {w : Value} (hw : bYr n y w) : ∃ ρ', ρ <+: ρ' ∧ bRE ρ' (bOfY E y).2 ∧ bR n ρ' (bOfY E y).1 w := by
  match y, hw with
  | .inl q, ⟨x, h1, h2, h3⟩ =>
    subst h1
    exact bNew_s hE (bIn_off.mpr ⟨h2, h3⟩)
  | .inr (.inl t), hw => exact ⟨ρ, List.prefix_refl _, hE, hw⟩
  | .inr (.inr l), hw => exact ⟨ρ, List.prefix_refl _, hE, hw⟩
noncomputable def lHas (l : List Nat) (i : Nat) : Bool := match l with
  | [] => false
  | j :: r => (match Nat.beq i j with
    | true => true
    | false => lHas r i)
theorem lHas_s : ∀ {l : List Nat} {i : Nat}, lHas l i = true → i ∈ l
  | j :: r, i, h => by
    unfold lHas at h
    split at h
    · next e => rw [Nat.eq_of_beq_eq_true e]; exact List.mem_cons_self
    · exact List.mem_cons_of_mem _ (lHas_s h)
noncomputable def lSub (l m : List Nat) : Bool := lAll (lHas m) l
theorem lAll_m {α : Type} {p : α → Bool} : ∀ {l : List α}, lAll p l = true → ∀ v ∈ l, p v = true
  | [], _, _, h => by cases h
  | u :: r, h, v, hv => by
    unfold lAll at h
    split at h
    · next e =>
      cases hv with
      | head => exact e
      | tail _ hv => exact lAll_m h v hv
    · cases h
theorem lSub_s {l m : List Nat} (h : lSub l m = true) {i : Nat} (hi : i ∈ l) : i ∈ m := lHas_s (lAll_m h i hi)
/-- a value is of a type -/
noncomputable def bLe (E : bE) (v : bV) (y : bY) : Bool := match y with
  | .inl q => (match bIv E v with
    | some p => (match Nat.ble q.1 p.1 with
      | true => Nat.ble p.2 q.2
      | false => false)
    | none => false)
  | .inr (.inl t) => (match v with
    | .inr (.inr (.inl s)) => Nat.beq s t
    | _ => false)
  | .inr (.inr l) => (match v with
    | .inr (.inr (.inr m)) => lSub m l
    | _ => false)
theorem bLe_s {n : Nat} {ρ : List Nat} {E : bE} (hE : bRE ρ E) {v : bV} {y : bY} (h : bLe E v y = true) {w : Value} (hv : bR n ρ v w) : bYr n y w := by
  unfold bLe at h
  split at h
  · split at h
    · next p e =>
      split at h
      · next e1 =>
        obtain ⟨x, h1, h2⟩ := bIv_s hE e hv
        have h2 := bIn_off.mp h2
        exact ⟨x, h1, Nat.le_trans (a_le e1) h2.1, Nat.le_trans h2.2 (a_le h)⟩
      · cases h
    · cases h
  · split at h
    · rw [← Nat.eq_of_beq_eq_true h]; exact hv
    · cases h
  · split at h
    · obtain ⟨i, h1, h2, h3⟩ := hv
      exact ⟨i, h1, h2, lSub_s h h3⟩
    · cases h
/-- a type within a type -/
noncomputable def bYle (x y : bY) : Bool := match y with
  | .inl q => (match x with
    | .inl p => (match Nat.ble q.1 p.1 with
      | true => Nat.ble p.2 q.2
      | false => false)
    | _ => false)
  | .inr (.inl t) => (match x with
    | .inr (.inl s) => Nat.beq s t
    | _ => false)
  | .inr (.inr l) => (match x with
    | .inr (.inr m) => lSub m l
    | _ => false)
theorem bYle_s {n : Nat} {x y : bY} (h : bYle x y = true) {w : Value} (hv : bYr n x w) : bYr n y w := by
  unfold bYle at h
  split at h
  · split at h
    · split at h
      · next e1 =>
        obtain ⟨x, h1, h2, h3⟩ := hv
        exact ⟨x, h1, Nat.le_trans (a_le e1) h2, Nat.le_trans h3 (a_le h)⟩
      · cases h
    · cases h
  · split at h
    · rw [← Nat.eq_of_beq_eq_true h]; exact hv
    · cases h
  · split at h
    · obtain ⟨i, h1, h2, h3⟩ := hv
      exact ⟨i, h1, h2, lSub_s h h3⟩
    · cases h
noncomputable def bCat : bV → Nat
  | .inr (.inr (.inl t)) => (match lHas [1, 2, 6, 7] t with
    | true => 2
    | false => 1)
  | _ => 1
theorem bR_cat {n : Nat} {ρ : List Nat} {v : bV} {w : Value} (hv : bR n ρ v w) : w.category = bCat v := by
  match v, hv with
  | .inl k, ⟨x, h, _⟩ => subst h; rfl
  | .inr (.inl q), ⟨x, r, h, _⟩ => subst h; rfl
  | .inr (.inr (.inl t)), hv =>
    rcases hv with ⟨h, x, rfl⟩ | ⟨h, x, rfl, -⟩ | ⟨h, x, rfl, -⟩ | ⟨h, rfl⟩ | ⟨h, rfl⟩
    · subst h; rfl
    · rcases h with rfl | rfl | rfl <;> rfl
    · rcases h with rfl | rfl <;> rfl
    · subst h; rfl
    · have h1 : lHas [1, 2, 6, 7] t = false := by
        cases e : lHas [1, 2, 6, 7] t with
        | false => rfl
        | true =>
          have := lHas_s e
          simp at this
          unfold amK at h
          omega
      simp only [bCat, h1]; rfl
  | .inr (.inr (.inr l)), ⟨i, h, _⟩ => subst h; rfl
end
/-! ##### 13.b.bloc ##### -/
section
/-! ===== runs over invariants: locals, stacks, cells by their types, what a run may write ===== -/
noncomputable def bGet (ls : bL) (k : Nat) : Option bV := match lAt ls k with
  | some o => o
  | none => none
noncomputable def bRl (n : Nat) (ρ : List Nat) (ls : bL) (cs : amL) : Prop := (∀ k v, bGet ls k = some v → ∃ w, amGet cs k = some w ∧ bR n ρ v w) ∧ amOkL n cs = true
noncomputable def bRs (n : Nat) (ρ : List Nat) : List bV → List Value → Prop
  | [], [] => True
  | v :: vs, w :: ws => bR n ρ v w ∧ bRs n ρ vs ws
  | _, _ => False
theorem bRl_mono {n : Nat} {ρ ρ' : List Nat} (h : ρ <+: ρ') {ls : bL} {cs : amL} (hl : bRl n ρ ls cs) : bRl n ρ' ls cs :=
  ⟨fun k v e => (hl.1 k v e).imp fun _ z => ⟨z.1, bR_mono h z.2⟩, hl.2⟩
theorem bRs_mono {n : Nat} {ρ ρ' : List Nat} (h : ρ <+: ρ') : ∀ {vs : List bV} {ws : List Value}, bRs n ρ vs ws → bRs n ρ' vs ws
  | [], [], _ => trivial
  | v :: vs, w :: ws, hs => ⟨bR_mono h hs.1, bRs_mono h hs.2⟩
theorem bRs_cons {n : Nat} {ρ : List Nat} {v : bV} {vs : List bV} {ws : List Value} (h : bRs n ρ (v :: vs) ws) : ∃ w ws', ws = w :: ws' ∧ bR n ρ v w ∧ bRs n ρ vs ws' := by
  cases ws with
  | nil => cases h
  | cons w ws => exact ⟨w, ws, rfl, h.1, h.2⟩
theorem bRs_nil {n : Nat} {ρ : List Nat} {ws : List Value} (h : bRs n ρ [] ws) : ws = [] := by cases ws <;> first | rfl | cases h
theorem bRs_len {n : Nat} {ρ : List Nat} : ∀ {vs : List bV} {ws : List Value}, bRs n ρ vs ws → vs.length = ws.length
  | [], [], _ => rfl
  | v :: vs, w :: ws, h => by rw [List.length_cons, List.length_cons, bRs_len h.2]
theorem bRs_app {n : Nat} {ρ : List Nat} : ∀ {vs : List bV} {ws : List Value} {vs' : List bV} {ws' : List Value}, bRs n ρ vs ws → bRs n ρ vs' ws' → bRs n ρ (vs ++ vs') (ws ++ ws')
  | [], [], _, _, _, h => h
  | _ :: _, _ :: _, _, _, h, h' => ⟨h.1, bRs_app h.2 h'⟩
theorem bRs_take {n : Nat} {ρ : List Nat} : ∀ {k : Nat} {vs : List bV} {ws : List Value}, bRs n ρ vs ws → bRs n ρ (vs.take k) (ws.take k)
  | 0, _, _, _ => trivial
  | _ + 1, [], [], _ => trivial
  | _ + 1, _ :: _, _ :: _, h => ⟨h.1, bRs_take h.2⟩
theorem bRs_drop {n : Nat} {ρ : List Nat} : ∀ {k : Nat} {vs : List bV} {ws : List Value}, bRs n ρ vs ws → bRs n ρ (vs.drop k) (ws.drop k)
  | 0, _, _, h => h
  | _ + 1, [], [], _ => trivial
  | k + 1, _ :: vs, _ :: ws, h => bRs_drop (k := k) (vs := vs) (ws := ws) h.2
theorem bRs_rev {n : Nat} {ρ : List Nat} : ∀ {vs : List bV} {ws : List Value}, bRs n ρ vs ws → bRs n ρ vs.reverse ws.reverse
  | [], [], _ => trivial
  | v :: vs, w :: ws, h => by
    rw [List.reverse_cons, List.reverse_cons]
    exact bRs_app (bRs_rev h.2) ⟨h.1, trivial⟩
noncomputable def bCs : List bV → Nat
  | [] => 0
  | v :: r => Nat.add (bCat v) (bCs r)
theorem bRs_cat {n : Nat} {ρ : List Nat} : ∀ {vs : List bV} {ws : List Value}, bRs n ρ vs ws → (ws.map fun v => v.category).sum = bCs vs
  | [], [], _ => rfl
  | v :: vs, w :: ws, h => by
    rw [List.map_cons, List.sum_cons, bRs_cat h.2, bR_cat h.1]
    rfl
theorem bRs_ok {n : Nat} {ρ : List Nat} : ∀ {vs : List bV} {ws : List Value}, bRs n ρ vs ws → amOkS n ws = true
  | [], [], _ => rfl
  | v :: vs, w :: ws, h => by
    have := bRs_ok h.2
    simp only [amOkS, List.all_cons, Bool.and_eq_true] at this ⊢
    exact ⟨bR_ok h.1, this⟩
theorem bCs_app : ∀ (a b : List bV), bCs (a ++ b) = bCs a + bCs b
  | [], b => by simp [bCs]
  | v :: a, b => by
    show bCat v + bCs (a ++ b) = bCat v + bCs a + bCs b
    rw [bCs_app a b, Nat.add_assoc]
theorem bCs_rev : ∀ (a : List bV), bCs a.reverse = bCs a
  | [] => rfl
  | v :: a => by
    rw [List.reverse_cons, bCs_app, bCs_rev a]
    show bCs a + (bCat v + 0) = bCat v + bCs a
    omega
theorem bGet_put {ls ls' : bL} {k : Nat} {o : Option bV} (h : lPut ls k o = some ls') : bGet ls' k = o ∧ ∀ j, ¬ j = k → bGet ls' j = bGet ls j := by
  obtain ⟨-, h1, h2⟩ := lPut_s h
  refine ⟨by unfold bGet; rw [h1], fun j hj => by unfold bGet; rw [h2 j hj]⟩
noncomputable def bKill (ls : bL) (k : Nat) : Option bL := match k with
  | 0 => some ls
  | j + 1 => (match bGet ls j with
    | some u => (match Nat.beq (bCat u) 2 with
      | true => lPut ls j none
      | false => some ls)
    | none => some ls)
theorem bKill_s {ls l1 : bL} {k : Nat} (h : bKill ls k = some l1) : ∀ j v, bGet l1 j = some v → bGet ls j = some v ∧ (j + 1 = k → ¬ bCat v = 2) := by
  intro j v hv
  unfold bKill at h
  split at h
  · cases h; exact ⟨hv, fun z => by omega⟩
  · next i =>
    split at h
    · next u e =>
      split at h
      · next e2 =>
        obtain ⟨h1, h2⟩ := bGet_put h
        by_cases hj : j = i
        · subst hj; rw [h1] at hv; cases hv
        · rw [h2 j hj] at hv; exact ⟨hv, fun z => absurd (by omega) hj⟩
      · next e2 =>
        cases h
        refine ⟨hv, fun z => ?_⟩
        obtain rfl : j = i := by omega
        rw [hv] at e
        cases e
        intro z
        rw [z] at e2
        cases e2
    · next e =>
      cases h
      refine ⟨hv, fun z => ?_⟩
      obtain rfl : j = i := by omega
      rw [hv] at e
      cases e
noncomputable def bSet1 (ls : bL) (k : Nat) (v : bV) : Option bL := match bKill ls k with
  | some l1 => lPut l1 k (some v)
  | none => none
noncomputable def bSet2 (ls : bL) (k : Nat) (v : bV) : Option bL := match bKill ls k with
  | some l1 => (match lPut l1 (k + 1) none with
    | some l2 => lPut l2 k (some v)
    | none => none)
  | none => none
theorem amOkL_filter {n : Nat} {cs : amL} {p : Nat × Value → Bool} (h : amOkL n cs = true) : amOkL n (cs.filter p) = true := by
  unfold amOkL at h ⊢
  rw [List.all_eq_true] at h ⊢
  intro q hq
  exact h q (List.mem_filter.mp hq).1
theorem amOkL_cons {n : Nat} {cs : amL} {k : Nat} {w : Value} (h : amOkL n cs = true) (hw : amOk n w = true) : amOkL n ((k, w) :: cs) = true := by
  unfold amOkL at h ⊢
  rw [List.all_cons, h, hw]
  rfl
theorem bSet1_s {n : Nat} {ρ : List Nat} {ls ls' : bL} {cs : amL} {k : Nat} {v : bV} {w : Value} (h : bRl n ρ ls cs) (hv : bR n ρ v w) (e : bSet1 ls k v = some ls') : bRl n ρ ls' (amSet1 cs k w) := by
  unfold bSet1 at e
  split at e
  · next l1 e1 =>
    obtain ⟨h1, h2⟩ := bGet_put e
    refine ⟨fun j u hj => ?_, amOkL_cons (amOkL_filter h.2) (bR_ok hv)⟩
    by_cases hk : j = k
    · subst hk
      rw [h1] at hj
      cases hj
      exact ⟨w, by simp [amSet1, amGet], hv⟩
    · rw [h2 j hk] at hj
      obtain ⟨g1, g2⟩ := bKill_s e1 j u hj
      obtain ⟨w', g3, g4⟩ := h.1 j u g1
      refine ⟨w', ?_, g4⟩
      have hk2 : ¬ k = j := fun z => hk z.symm
      simp only [amSet1, amGet, hk2, if_false]
      refine amGet_filter g3 ?_
      have : ¬ (j + 1 = k ∧ w'.category = 2) := fun z => g2 z.1 (by rw [← bR_cat g4]; exact z.2)
      simp [hk]
      exact Classical.not_and_iff_not_or_not.mp this
  · cases e
theorem bSet2_s {n : Nat} {ρ : List Nat} {ls ls' : bL} {cs : amL} {k : Nat} {v : bV} {w : Value} (h : bRl n ρ ls cs) (hv : bR n ρ v w) (e : bSet2 ls k v = some ls') : bRl n ρ ls' (amSet2 cs k w) := by
  unfold bSet2 at e
  split at e
  · next l1 e1 =>
    split at e
    · next l2 e2 =>
      obtain ⟨h1, h2⟩ := bGet_put e
      obtain ⟨h3, h4⟩ := bGet_put e2
      refine ⟨fun j u hj => ?_, amOkL_cons (amOkL_filter h.2) (bR_ok hv)⟩
      by_cases hk : j = k
      · subst hk
        rw [h1] at hj
        cases hj
        exact ⟨w, by simp [amSet2, amGet], hv⟩
      · rw [h2 j hk] at hj
        by_cases hk3 : j = k + 1
        · subst hk3
          rw [h3] at hj
          cases hj
        · rw [h4 j hk3] at hj
          obtain ⟨g1, g2⟩ := bKill_s e1 j u hj
          obtain ⟨w', g3, g4⟩ := h.1 j u g1
          refine ⟨w', ?_, g4⟩
          have hk2 : ¬ k = j := fun z => hk z.symm
          simp only [amSet2, amGet, hk2, if_false]
          refine amGet_filter g3 ?_
          have : ¬ (j + 1 = k ∧ w'.category = 2) := fun z => g2 z.1 (by rw [← bR_cat g4]; exact z.2)
          simp [hk, hk3]
          exact Classical.not_and_iff_not_or_not.mp this
    · cases e
  · cases e
/-! cells by their types -/
noncomputable def bRow (l : List bY) (j : Nat) : Option bY := match l with
  | [] => none
  | [y] => some y
  | _ :: z :: zs => lAt (z :: zs) j
noncomputable def bDy (D : bD) (j : Nat) : Option bY := match Nat.ble 32 D.1 with
  | true => bRow D.2.2 j
  | false => lAt D.2.2 j
noncomputable def bHc (n : Nat) (D : bD) (c : amC) : Prop := c.1 = D.1 ∧ c.2.length = D.2.1 ∧ ∀ (j : Nat) (w : Value), c.2[j]? = some w → ∃ y, bDy D j = some y ∧ bYr n y w
noncomputable def bHk (n : Nat) (T : Nat → Option bD) (hp : amH) : Prop := hp.length = n ∧ ∀ (i : Nat) (c : amC), hp[i]? = some c → ∃ D, T i = some D ∧ bHc n D c
theorem bHk_at {n : Nat} {T : Nat → Option bD} {hp : amH} (h : bHk n T hp) {i : Nat} (hi : i < n) {D : bD} (e : T i = some D) : ∃ c, hp[i]? = some c ∧ bHc n D c := by
  have h1 : i < hp.length := by rw [h.1]; exact hi
  obtain ⟨D', e', hc⟩ := h.2 i hp[i] (List.getElem?_eq_getElem h1)
  rw [e] at e'
  cases e'
  exact ⟨_, List.getElem?_eq_getElem h1, hc⟩
theorem bHk_set {n : Nat} {T : Nat → Option bD} {hp : amH} (h : bHk n T hp) {i : Nat} {D : bD} (e : T i = some D) {c : amC} (hc : bHc n D c) : bHk n T (hp.set i c) := by
  refine ⟨by rw [List.length_set]; exact h.1, fun j d hd => ?_⟩
  by_cases hj : i = j
  · subst hj
    have : i < hp.length := by have := a_lt hd; rw [List.length_set] at this; exact this
    rw [List.getElem?_set_self this] at hd
    cases hd
    exact ⟨D, e, hc⟩
  · rw [List.getElem?_set_ne hj] at hd
    exact h.2 j d hd
theorem bHc_set {n : Nat} {D : bD} {c : amC} (h : bHc n D c) {j : Nat} {y : bY} (e : bDy D j = some y) {w : Value} (hw : bYr n y w) : bHc n D (c.1, c.2.set j w) := by
  refine ⟨h.1, by rw [List.length_set]; exact h.2.1, fun i u hu => ?_⟩
  by_cases hj : j = i
  · subst hj
    have : j < c.2.length := by have := a_lt hu; rw [List.length_set] at this; exact this
    rw [List.getElem?_set_self this] at hu
    cases hu
    exact ⟨y, e, hw⟩
  · rw [List.getElem?_set_ne hj] at hu
    exact h.2.2 i u hu
noncomputable def bFld (hp : amH) (c k : Nat) : Option Value := match hp[c]? with
  | some d => d.2[k]?
  | none => none
/-- may the field k of the cell c be written (999: all of them) -/
noncomputable def bIn (W : List (Nat × Nat)) (c k : Nat) : Bool := match W with
  | [] => false
  | p :: r => (match Nat.beq p.1 c with
    | true => (match Nat.beq p.2 k with
      | true => true
      | false => (match Nat.beq p.2 999 with
        | true => true
        | false => bIn r c k))
    | false => bIn r c k)
noncomputable def bFr (W : List (Nat × Nat)) (hp hp1 : amH) : Prop := ∀ c k, bIn W c k = false → bFld hp1 c k = bFld hp c k
theorem bFr.refl (W : List (Nat × Nat)) (hp : amH) : bFr W hp hp := fun _ _ _ => rfl
theorem bFr.trans {W : List (Nat × Nat)} {a b c : amH} (h1 : bFr W a b) (h2 : bFr W b c) : bFr W a c := fun i k e => (h2 i k e).trans (h1 i k e)
theorem bFld_set {hp : amH} {c : Nat} {d d1 : amC} (h : hp[c]? = some d) (i k : Nat) : bFld (hp.set c d1) i k = if i = c then d1.2[k]? else bFld hp i k := by
  unfold bFld
  by_cases hi : i = c
  · subst hi
    rw [List.getElem?_set_self (a_lt h), if_pos rfl]
  · rw [List.getElem?_set_ne (fun z => hi z.symm), if_neg hi]
theorem bFr_set {W : List (Nat × Nat)} {hp : amH} {c j : Nat} {d : amC} {w : Value} (h : hp[c]? = some d) (hW : bIn W c j = true) : bFr W hp (hp.set c (d.1, d.2.set j w)) := by
  intro i k e
  rw [bFld_set h]
  split
  · next hi =>
    subst hi
    have hk : ¬ j = k := fun z => by subst z; rw [hW] at e; cases e
    rw [List.getElem?_set_ne hk]
    unfold bFld
    rw [h]
  · rfl
theorem bIn_all {W : List (Nat × Nat)} {c : Nat} (h : bIn W c 999 = true) : ∀ k, bIn W c k = true := by
  intro k
  induction W with
  | nil => cases h
  | cons p r ih =>
    unfold bIn at h ⊢
    split at h
    · next e1 =>
      try rw [e1]
      split at h
      · next e2 => cases h2 : Nat.beq p.2 k <;> simp only [e2]
      · next e2 =>
        try rw [e2] at h
        first
          | cases h
          | (cases h2 : Nat.beq p.2 k <;> simp only [e2]; exact ih h)
    · next e1 =>
      try rw [e1]
      exact ih h
/-! the state beside locals and stack -/
noncomputable def bNum (ρ : List Nat) : bV → Option Nat
  | .inl k => some (k + bB)
  | .inr (.inl q) => (match ρ[q.1]? with
    | some r => some (r + q.2)
    | none => none)
  | _ => none
theorem bNum_s {n : Nat} {ρ : List Nat} {v : bV} {x : Int32} (h : bR n ρ v (.int x)) : bNum ρ v = some (aOff x + bB) := by
  match v, h with
  | .inl k, ⟨y, e, h⟩ => cases e; rw [← h]; rfl
  | .inr (.inl q), ⟨y, r, e, h1, h2⟩ =>
    cases e
    unfold bNum
    dsimp only
    rw [h1, h2]
  | .inr (.inr (.inl t)), h =>
    rcases h with ⟨-, x, h⟩ | ⟨-, x, h, -⟩ | ⟨-, x, h, -⟩ | ⟨-, h⟩ | ⟨-, h⟩ <;> cases h
  | .inr (.inr (.inr l)), ⟨_, h, _⟩ => cases h
theorem bNum_mono {ρ ρ' : List Nat} (h : ρ <+: ρ') {v : bV} {a : Nat} (hv : bNum ρ v = some a) : bNum ρ' v = some a := by
  obtain ⟨z, rfl⟩ := h
  match v, hv with
  | .inl k, hv => exact hv
  | .inr (.inl q), hv =>
    unfold bNum at hv ⊢
    dsimp only at hv ⊢
    split at hv
    · next r e => rw [List.getElem?_append_left (a_lt e), e]; exact hv
    · cases hv
noncomputable def bRS (n : Nat) (ρ : List Nat) (S : bS) (hp : amH) : Prop := bRE ρ S.1 ∧ (∀ f ∈ S.2.1, ∃ w, bFld hp f.1 f.2.1 = some w ∧ bR n ρ f.2.2 w) ∧ (∀ r ∈ S.2.2.1, ∃ a b, bNum ρ r.1 = some a ∧ bNum ρ r.2 = some b ∧ a ≤ b) ∧
  (∀ m ∈ S.2.2.2, ∃ x y : Int32, bR n ρ m.1 (.int x) ∧ bR n ρ m.2.1 (.int y) ∧ bR n ρ m.2.2 (.int (x + y)))
theorem bRS_ext {n : Nat} {ρ ρ' : List Nat} {S : bS} {hp : amH} (h : ρ <+: ρ') (hS : bRS n ρ S hp) {E : bE} (hE : bRE ρ' E) : bRS n ρ' (E, S.2) hp :=
  ⟨hE, fun f hf => (hS.2.1 f hf).imp fun _ z => ⟨z.1, bR_mono h z.2⟩, fun r hr => by
    obtain ⟨a, b, h1, h2, h3⟩ := hS.2.2.1 r hr
    exact ⟨a, b, bNum_mono h h1, bNum_mono h h2, h3⟩, fun m hm => by
    obtain ⟨x, y, h1, h2, h3⟩ := hS.2.2.2 m hm
    exact ⟨x, y, bR_mono h h1, bR_mono h h2, bR_mono h h3⟩⟩
noncomputable def bRel (n : Nat) (T : Nat → Option bD) (ρ : List Nat) (ls : bL) (st : List bV) (S : bS) (cl : amL) (cs : List Value) (hp : amH) : Prop := bRl n ρ ls cl ∧ bRs n ρ st cs ∧ bRS n ρ S hp ∧ bHk n T hp
abbrev bCf : Type := Nat × bL × List bV × bS
abbrev bA : Type := bL → List bV → bS → Option (List bCf)
/-- an instruction over invariants: what it does to a state that is related, is among what is said -/
noncomputable def bOk (n : Nat) (T : Nat → Option bD) (W : List (Nat × Nat)) (act : bA) (cf : amL → List Value → amH → Option amR) : Prop :=
  ∀ (ls : bL) (st : List bV) (S : bS) (L : List bCf) (ρ : List Nat) (cl : amL) (cs : List Value) (hp : amH), act ls st S = some L → bRel n T ρ ls st S cl cs hp →
    ∃ r, cf cl cs hp = some r ∧ ∃ g ∈ L, ∃ ρ', ρ <+: ρ' ∧ g.1 = r.1 ∧ bRel n T ρ' g.2.1 g.2.2.1 g.2.2.2 r.2.1 r.2.2.1 r.2.2.2 ∧ bFr W hp r.2.2.2
end
/-! ##### 13.c.bnar ##### -/
section
/-! ===== runs over invariants: bounds made narrower by what was compared ===== -/
noncomputable def bIvN (E : bE) : bV → Option (Nat × Nat)
  | .inl k => some (Nat.add k bB, Nat.add k bB)
  | .inr (.inl q) => (match lAt E q.1 with
    | some r => some (Nat.add r.1 q.2, Nat.add r.2 q.2)
    | none => none)
  | _ => none
theorem bIvN_s {ρ : List Nat} {E : bE} (hE : bRE ρ E) {v : bV} {q : Nat × Nat} (h : bIvN E v = some q) {m : Nat} (hm : bNum ρ v = some m) : q.1 ≤ m ∧ m ≤ q.2 := by
  match v, h, hm with
  | .inl k, h, hm =>
    have h := Option.some.inj h
    have hm := Option.some.inj hm
    subst h
    subst hm
    exact ⟨Nat.le_refl _, Nat.le_refl _⟩
  | .inr (.inl p), h, hm =>
    simp only [bIvN] at h
    simp only [bNum] at hm
    split at h
    · next s e =>
      have h := Option.some.inj h
      subst h
      rw [lAt_eq] at e
      obtain ⟨r, g1, g2, g3⟩ := hE.2 p.1 s.1 s.2 e
      rw [g1] at hm
      have hm := Option.some.inj hm
      subst hm
      exact ⟨Nat.add_le_add_right g2 _, Nat.add_le_add_right g3 _⟩
    · cases h
theorem bIvN_some {ρ : List Nat} {E : bE} (hE : bRE ρ E) {v : bV} {m : Nat} (hm : bNum ρ v = some m) : ∃ q, bIvN E v = some q := by
  match v, hm with
  | .inl k, hm => exact ⟨_, rfl⟩
  | .inr (.inl p), hm =>
    simp only [bNum] at hm
    simp only [bIvN, lAt_eq]
    split at hm
    · next r e =>
      have h1 : p.1 < E.length := by rw [← hE.1]; exact a_lt e
      rw [List.getElem?_eq_getElem h1]
      exact ⟨_, rfl⟩
    · cases hm
theorem lPut_ex {α : Type} : ∀ {l : List α} {i : Nat} {o : α} (v : α), l[i]? = some o → ∃ l', lPut l i v = some l'
  | u :: r, 0, _, v, _ => ⟨v :: r, rfl⟩
  | u :: r, i + 1, o, v, h => by
    obtain ⟨l', e⟩ := lPut_ex (l := r) (i := i) v (by simpa using h)
    exact ⟨u :: l', by unfold lPut; rw [e]⟩
theorem lPut_len {α : Type} : ∀ {l l' : List α} {i : Nat} {v : α}, lPut l i v = some l' → l'.length = l.length
  | u :: r, l', 0, v, h => by cases h; rfl
  | u :: r, l', i + 1, v, h => by
    unfold lPut at h
    split at h
    · next r' e => cases h; rw [List.length_cons, List.length_cons, lPut_len e]
    · cases h
theorem bRE_put {ρ : List Nat} {E E' : bE} (hE : bRE ρ E) {i : Nat} {q : Nat × Nat} {r : Nat} (h : lPut E i q = some E') (hr : ρ[i]? = some r) (h1 : q.1 ≤ r) (h2 : r ≤ q.2) : bRE ρ E' := by
  obtain ⟨-, g1, g2⟩ := lPut_s h
  refine ⟨by rw [lPut_len h]; exact hE.1, fun j a b e => ?_⟩
  by_cases hj : j = i
  · subst hj
    rw [← lAt_eq, g1] at e
    cases e
    exact ⟨r, hr, h1, h2⟩
  · rw [← lAt_eq, g2 j hj, lAt_eq] at e
    exact hE.2 j a b e
noncomputable def bCap1 (B : Nat) (E : bE) (k m : Nat) : Option bE := match Nat.ble (Nat.add k B) m with
  | true => some E
  | false => none
theorem bCap1_s {B : Nat} {E : bE} {k a m : Nat} (hv : k + B = a) (h : a ≤ m) : bCap1 B E k m = some E := by
  have e0 : ∀ x y : Nat, x ≤ y → Nat.ble x y = true := fun x y h => Nat.ble_eq.mpr h
  unfold bCap1
  rw [Nat.add_eq, hv, e0 a m h]
/-- what is at most m -/
noncomputable def bCap (E : bE) (v : bV) (m : Nat) : Option bE := match v with
  | .inl k => bCap1 bB E k m
  | .inr (.inl q) => (match lAt E q.1 with
    | some r => (match Nat.ble (Nat.add r.1 q.2) m with
      | true => (match Nat.ble (Nat.add r.2 q.2) m with
        | true => some E
        | false => lPut E q.1 (r.1, Nat.sub m q.2))
      | false => none)
    | none => none)
  | _ => none
/-- what is at least m -/
noncomputable def bFlr (E : bE) (v : bV) (m : Nat) : Option bE := match v with
  | .inl k => (match Nat.ble m (Nat.add k bB) with
    | true => some E
    | false => none)
  | .inr (.inl q) => (match lAt E q.1 with
    | some r => (match Nat.ble m (Nat.add r.2 q.2) with
      | true => (match Nat.ble m (Nat.add r.1 q.2) with
        | true => some E
        | false => lPut E q.1 (Nat.sub m q.2, r.2))
      | false => none)
    | none => none)
  | _ => none
theorem bCap_s {ρ : List Nat} {E : bE} (hE : bRE ρ E) {v : bV} {a m : Nat} (hv : bNum ρ v = some a) (h : a ≤ m) : ∃ E', bCap E v m = some E' ∧ bRE ρ E' := by
  have e0 : ∀ x y : Nat, x ≤ y → Nat.ble x y = true := fun x y h => Nat.ble_eq.mpr h
  match v, hv with
  | .inl k, hv => exact ⟨E, bCap1_s (Option.some.inj hv) h, hE⟩
  | .inr (.inl q), hv =>
    simp only [bNum] at hv
    split at hv
    · next r e =>
      have hv := Option.some.inj hv
      subst hv
      have h1 : q.1 < E.length := by rw [← hE.1]; exact a_lt e
      obtain ⟨r', g1, g2, g3⟩ := hE.2 q.1 E[q.1].1 E[q.1].2 (List.getElem?_eq_getElem h1)
      rw [e] at g1
      cases g1
      have h2 : E[q.1].1 + q.2 ≤ m := Nat.le_trans (Nat.add_le_add_right g2 _) h
      have h3 : r ≤ m - q.2 := Nat.le_sub_of_add_le h
      delta bCap
      dsimp only
      rw [lAt_eq, List.getElem?_eq_getElem h1]
      dsimp only
      rw [Nat.add_eq, Nat.add_eq, Nat.sub_eq, e0 _ _ h2]
      dsimp only
      split
      · exact ⟨E, rfl, hE⟩
      · obtain ⟨E', e'⟩ := lPut_ex (E[q.1].1, m - q.2) (List.getElem?_eq_getElem h1)
        exact ⟨E', e', bRE_put hE e' e g2 h3⟩
    · cases hv
theorem bFlr_s {ρ : List Nat} {E : bE} (hE : bRE ρ E) {v : bV} {a m : Nat} (hv : bNum ρ v = some a) (h : m ≤ a) : ∃ E', bFlr E v m = some E' ∧ bRE ρ E' := by
  match v, hv with
  | .inl k, hv =>
    have hv := Option.some.inj hv
    subst hv
    refine ⟨E, ?_, hE⟩
    simp only [bFlr]
    rw [show Nat.ble m (Nat.add k bB) = true from Nat.ble_eq.mpr h]
  | .inr (.inl q), hv =>
    simp only [bNum] at hv
    split at hv
    · next r e =>
      have hv := Option.some.inj hv
      subst hv
      have h1 : q.1 < E.length := by rw [← hE.1]; exact a_lt e
      obtain ⟨r', g1, g2, g3⟩ := hE.2 q.1 E[q.1].1 E[q.1].2 (List.getElem?_eq_getElem h1)
      rw [e] at g1
      cases g1
      simp only [bFlr, lAt_eq, List.getElem?_eq_getElem h1]
      rw [show Nat.ble m (Nat.add E[q.1].2 q.2) = true from Nat.ble_eq.mpr (by show m ≤ E[q.1].2 + q.2; omega)]
      dsimp only
      split
      · exact ⟨E, rfl, hE⟩
      · obtain ⟨E', e'⟩ := lPut_ex (Nat.sub m q.2, E[q.1].2) (List.getElem?_eq_getElem h1)
        exact ⟨E', e', bRE_put hE e' e (by show m - q.2 ≤ r; omega) g3⟩
    · cases hv
/-- the first is at most the second -/
noncomputable def bLq (E : bE) (u v : bV) : Option bE := match bIvN E v with
  | some q => (match bCap E u q.2 with
    | some E1 => (match bIvN E1 u with
      | some p => bFlr E1 v p.1
      | none => none)
    | none => none)
  | none => none
theorem bLq_s {ρ : List Nat} {E : bE} (hE : bRE ρ E) {u v : bV} {a b : Nat} (hu : bNum ρ u = some a) (hv : bNum ρ v = some b) (h : a ≤ b) : ∃ E', bLq E u v = some E' ∧ bRE ρ E' := by
  obtain ⟨q, e1⟩ := bIvN_some hE hv
  have h1 := bIvN_s hE e1 hv
  obtain ⟨E1, e2, hE1⟩ := bCap_s hE hu (Nat.le_trans h h1.2)
  obtain ⟨p, e3⟩ := bIvN_some hE1 hu
  have h2 := bIvN_s hE1 e3 hu
  obtain ⟨E2, e4, hE2⟩ := bFlr_s hE1 hv (Nat.le_trans h2.1 h)
  exact ⟨E2, by unfold bLq; rw [e1]; dsimp only; rw [e2]; dsimp only; rw [e3]; exact e4, hE2⟩
noncomputable def bLqs (E : bE) : bRt → Option bE
  | [] => some E
  | r :: R => (match bLq E r.1 r.2 with
    | some E1 => bLqs E1 R
    | none => none)
theorem bLqs_s {ρ : List Nat} : ∀ {R : bRt} {E : bE}, bRE ρ E → (∀ r ∈ R, ∃ a b, bNum ρ r.1 = some a ∧ bNum ρ r.2 = some b ∧ a ≤ b) → ∃ E', bLqs E R = some E' ∧ bRE ρ E'
  | [], E, hE, _ => ⟨E, rfl, hE⟩
  | r :: R, E, hE, hR => by
    obtain ⟨a, b, h1, h2, h3⟩ := hR r List.mem_cons_self
    obtain ⟨E1, e1, hE1⟩ := bLq_s hE h1 h2 h3
    obtain ⟨E2, e2, hE2⟩ := bLqs_s (R := R) hE1 (fun r hr => hR r (List.mem_cons_of_mem _ hr))
    exact ⟨E2, by unfold bLqs; rw [e1]; exact e2, hE2⟩
noncomputable def bSym : bV → Bool
  | .inr (.inl _) => true
  | _ => false
/-- is the second known to be below the first -/
noncomputable def bGtK (u v : bV) : Bool := match u with
  | .inr (.inl p) => (match v with
    | .inr (.inl q) => (match Nat.beq p.1 q.1 with
      | true => Nat.ble (Nat.add q.2 1) p.2
      | false => false)
    | _ => false)
  | _ => false
theorem bGtK_s {ρ : List Nat} {u v : bV} {a b : Nat} (h : bGtK u v = true) (hu : bNum ρ u = some a) (hv : bNum ρ v = some b) : b < a := by
  unfold bGtK at h
  split at h
  · next p =>
    split at h
    · next q =>
      split at h
      · next e =>
        have e := Nat.eq_of_beq_eq_true e
        have h := a_lt1 h
        simp only [bNum] at hu hv
        rw [e] at hu
        split at hv
        · next r e2 =>
          rw [e2] at hu
          have hu := Option.some.inj hu
          have hv := Option.some.inj hv
          omega
        · cases hv
      · cases h
    · cases h
  · cases h
noncomputable def bLqS (S : bS) (u v : bV) : Option bS := match bGtK u v with
  | true => none
  | false => (match bLq S.1 u v with
    | some E1 => (match bSym u with
      | true => (match bSym v with
        | true => (match bLqs E1 S.2.2.1 with
          | some E2 => some (E2, S.2.1, (u, v) :: S.2.2.1, S.2.2.2)
          | none => none)
        | false => (match bLqs E1 S.2.2.1 with
          | some E2 => some (E2, S.2)
          | none => none))
      | false => (match bLqs E1 S.2.2.1 with
        | some E2 => some (E2, S.2)
        | none => none))
    | none => none)
theorem bLqS_s {n : Nat} {ρ : List Nat} {S : bS} {hp : amH} (hS : bRS n ρ S hp) {u v : bV} {a b : Nat} (hu : bNum ρ u = some a) (hv : bNum ρ v = some b) (h : a ≤ b) : ∃ S', bLqS S u v = some S' ∧ bRS n ρ S' hp := by
  obtain ⟨E1, e1, hE1⟩ := bLq_s hS.1 hu hv h
  obtain ⟨E2, e2, hE2⟩ := bLqs_s hE1 hS.2.2.1
  unfold bLqS
  have hk : bGtK u v = false := by
    cases e : bGtK u v with
    | false => rfl
    | true => have := bGtK_s e hu hv; omega
  rw [hk, e1]
  dsimp only
  rw [e2]
  dsimp only
  have h0 : bRS n ρ (E2, S.2) hp := ⟨hE2, hS.2⟩
  split
  · split
    · refine ⟨_, rfl, hE2, hS.2.1, fun r hr => ?_, hS.2.2.2⟩
      cases hr with
      | head => exact ⟨a, b, hu, hv, h⟩
      | tail _ hr => exact hS.2.2.1 r hr
    · exact ⟨_, rfl, h0⟩
  · exact ⟨_, rfl, h0⟩
noncomputable def bSh : bV → bV
  | .inl k => .inl (Nat.add k 1)
  | .inr (.inl q) => .inr (.inl (q.1, Nat.add q.2 1))
  | v => v
theorem bSh_s {ρ : List Nat} {v : bV} {a : Nat} (h : bNum ρ v = some a) : bNum ρ (bSh v) = some (a + 1) := by
  match v, h with
  | .inl k, h =>
    have h := Option.some.inj h
    subst h
    show some (k + 1 + bB) = some (k + bB + 1)
    rw [Nat.add_right_comm]
  | .inr (.inl q), h =>
    simp only [bNum, bSh] at h ⊢
    split at h
    · next r e =>
      have h := Option.some.inj h
      subst h
      rfl
    · cases h
noncomputable def bVq : bV → bV → Bool
  | .inl k, .inl m => Nat.beq k m
  | .inr (.inl p), .inr (.inl q) => (match Nat.beq p.1 q.1 with
    | true => Nat.beq p.2 q.2
    | false => false)
  | _, _ => false
theorem bVq_s {u v : bV} (h : bVq u v = true) : u = v := by
  unfold bVq at h
  split at h
  · rw [Nat.eq_of_beq_eq_true h]
  · next p q =>
    split at h
    · next e =>
      have e1 := Nat.eq_of_beq_eq_true e
      have e2 := Nat.eq_of_beq_eq_true h
      rw [show p = q from Prod.ext e1 e2]
    · cases h
  · cases h
noncomputable def bNe (S : bS) (u v : bV) : Option bS := match bVq u v with
  | true => none
  | false => (match bIvN S.1 u with
    | none => none
    | some p => (match bIvN S.1 v with
      | none => none
      | some q => (match Nat.beq q.1 q.2 with
        | true => (match Nat.beq p.1 q.1 with
          | true => (match bFlr S.1 u (Nat.add q.1 1) with
            | some E1 => some (E1, S.2)
            | none => none)
          | false => (match Nat.beq p.2 q.1 with
            | true => (match bCap S.1 u (Nat.sub q.1 1) with
              | some E1 => some (E1, S.2)
              | none => none)
            | false => some S))
        | false => some S)))
theorem bNe_s {n : Nat} {ρ : List Nat} {S : bS} {hp : amH} (hS : bRS n ρ S hp) {u v : bV} {a b : Nat} (hu : bNum ρ u = some a) (hv : bNum ρ v = some b) (h : ¬ a = b) : ∃ S', bNe S u v = some S' ∧ bRS n ρ S' hp := by
  obtain ⟨p, e1⟩ := bIvN_some hS.1 hu
  obtain ⟨q, e2⟩ := bIvN_some hS.1 hv
  have h1 := bIvN_s hS.1 e1 hu
  have h2 := bIvN_s hS.1 e2 hv
  unfold bNe
  have hk : bVq u v = false := by
    cases e : bVq u v with
    | false => rfl
    | true => rw [bVq_s e, hv] at hu; cases hu; exact absurd rfl h
  rw [hk, e1]
  dsimp only
  rw [e2]
  dsimp only
  split
  · next e3 =>
    have e3 := Nat.eq_of_beq_eq_true e3
    split
    · next e4 =>
      have e4 := Nat.eq_of_beq_eq_true e4
      obtain ⟨E1, g1, g2⟩ := bFlr_s hS.1 hu (m := Nat.add q.1 1) (by show q.1 + 1 ≤ a; omega)
      rw [g1]
      exact ⟨_, rfl, g2, hS.2⟩
    · split
      · next e4 =>
        have e4 := Nat.eq_of_beq_eq_true e4
        obtain ⟨E1, g1, g2⟩ := bCap_s hS.1 hu (m := Nat.sub q.1 1) (by show a ≤ q.1 - 1; omega)
        rw [g1]
        exact ⟨_, rfl, g2, hS.2⟩
      · exact ⟨_, rfl, hS⟩
  · exact ⟨_, rfl, hS⟩
noncomputable def bCond (c : Jvm.ClassFile.Cond) (S : bS) (x y : bV) : Option bS := match c with
  | .eq => (match bLqS S x y with
    | some S1 => bLqS S1 y x
    | none => none)
  | .ne => (match bNe S x y with
    | some S1 => bNe S1 y x
    | none => none)
  | .lt => bLqS S (bSh x) y
  | .ge => bLqS S y x
  | .gt => bLqS S (bSh y) x
  | .le => bLqS S x y
noncomputable def bNeg : Jvm.ClassFile.Cond → Jvm.ClassFile.Cond
  | .eq => .ne
  | .ne => .eq
  | .lt => .ge
  | .ge => .lt
  | .gt => .le
  | .le => .gt
theorem bNeg_s (c : Jvm.ClassFile.Cond) (x y : Int32) : amCmpP (bNeg c) x y = !amCmpP c x y := by
  cases c <;> simp only [amCmpP, bNeg]
  · by_cases h : x = y <;> simp [h]
  · by_cases h : x = y <;> simp [h]
  · by_cases h : x < y
    · have : ¬ y ≤ x := fun z => by have := Int32.lt_iff_toInt_lt.mp h; have := Int32.le_iff_toInt_le.mp z; omega
      simp [h, this]
    · have : y ≤ x := Int32.le_iff_toInt_le.mpr (by have : ¬ x.toInt < y.toInt := fun z => h (Int32.lt_iff_toInt_lt.mpr z); omega)
      simp [h, this]
  · by_cases h : x < y
    · have : ¬ y ≤ x := fun z => by have := Int32.lt_iff_toInt_lt.mp h; have := Int32.le_iff_toInt_le.mp z; omega
      simp [h, this]
    · have : y ≤ x := Int32.le_iff_toInt_le.mpr (by have : ¬ x.toInt < y.toInt := fun z => h (Int32.lt_iff_toInt_lt.mpr z); omega)
      simp [h, this]
  · by_cases h : y < x
    · have : ¬ x ≤ y := fun z => by have := Int32.lt_iff_toInt_lt.mp h; have := Int32.le_iff_toInt_le.mp z; omega
      simp [h, this]
    · have : x ≤ y := Int32.le_iff_toInt_le.mpr (by have : ¬ y.toInt < x.toInt := fun z => h (Int32.lt_iff_toInt_lt.mpr z); omega)
      simp [h, this]
  · by_cases h : y < x
    · have : ¬ x ≤ y := fun z => by have := Int32.lt_iff_toInt_lt.mp h; have := Int32.le_iff_toInt_le.mp z; omega
      simp [h, this]
    · have : x ≤ y := Int32.le_iff_toInt_le.mpr (by have : ¬ y.toInt < x.toInt := fun z => h (Int32.lt_iff_toInt_lt.mpr z); omega)
      simp [h, this]
theorem bOff_lt {x y : Int32} : x < y ↔ aOff x < aOff y := by
  have := aOff_eq x
  have := aOff_eq y
  rw [Int32.lt_iff_toInt_lt]
  omega
theorem bOff_le2 {x y : Int32} : x ≤ y ↔ aOff x ≤ aOff y := by
  have := aOff_eq x
  have := aOff_eq y
  rw [Int32.le_iff_toInt_le]
  omega
theorem bCond_s {n : Nat} {ρ : List Nat} {S : bS} {hp : amH} (hS : bRS n ρ S hp) {c : Jvm.ClassFile.Cond} {u v : bV} {x y : Int32} (hu : bR n ρ u (.int x)) (hv : bR n ρ v (.int y)) (h : amCmpP c x y = true) : ∃ S', bCond c S u v = some S' ∧ bRS n ρ S' hp := by
  have h1 := bNum_s hu
  have h2 := bNum_s hv
  cases c <;> simp only [amCmpP, decide_eq_true_eq] at h <;> unfold bCond <;> dsimp only
  · subst h
    obtain ⟨S1, e1, g1⟩ := bLqS_s hS h1 h2 (Nat.le_refl _)
    rw [e1]
    exact bLqS_s g1 h2 h1 (Nat.le_refl _)
  · have h3 : ¬ aOff x + bB = aOff y + bB := fun z => h (bOff_inj (by omega))
    obtain ⟨S1, e1, g1⟩ := bNe_s hS h1 h2 h3
    rw [e1]
    exact bNe_s g1 h2 h1 (fun z => h3 z.symm)
  · exact bLqS_s hS (bSh_s h1) h2 (by have := bOff_lt.mp h; omega)
  · exact bLqS_s hS h2 h1 (by have := bOff_le2.mp h; omega)
  · exact bLqS_s hS (bSh_s h2) h1 (by have := bOff_lt.mp h; omega)
  · exact bLqS_s hS h1 h2 (by have := bOff_le2.mp h; omega)
end
