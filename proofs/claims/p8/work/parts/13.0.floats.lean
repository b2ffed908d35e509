/-! ===== floats: what a quotient of whole numbers is not ===== -/
def flS (f : FP.Core.Fmt) (d : FP.Core.Datum) : Prop := (∃ s, d = .inf s) ∨ ∃ s c q, d = .fin s c q ∧ c < 2 ^ f.p ∧ q ≤ f.qmax
/-- what the two formats have in common -/
def flF (f : FP.Core.Fmt) : Prop := 2 ^ f.p = 2 * f.tails ∧ 0 < f.tails ∧ f.qmin ≤ f.qmax ∧ (f.qmax - f.qmin).toNat + 3 = f.exps
theorem fl_32 : flF FP.Core.b32 := by unfold flF; decide +kernel
theorem fl_64 : flF FP.Core.b64 := by unfold flF; decide +kernel
theorem fl_settle {f : FP.Core.Fmt} (hf : flF f) (s : Bool) (c : Nat) (q : Int) : flS f (FP.Core.settle f s c q) := by
  unfold FP.Core.settle
  split
  · next h =>
    unfold FP.Core.bound
    split
    · next h2 => exact Or.inr ⟨_, _, _, rfl, h, h2⟩
    · exact Or.inl ⟨_, rfl⟩
  · unfold FP.Core.bound
    split
    · next h2 => exact Or.inr ⟨_, _, _, rfl, by have := hf.1; have := hf.2.1; omega, h2⟩
    · exact Or.inl ⟨_, rfl⟩
theorem fl_ratio {f : FP.Core.Fmt} (hf : flF f) (s : Bool) (num den : Nat) (e : Int) : flS f (FP.Core.roundRatio f s num den e) := by
  unfold FP.Core.roundRatio
  split
  · exact Or.inr ⟨_, _, _, rfl, by have := hf.1; have := hf.2.1; omega, hf.2.2.1⟩
  · exact fl_settle hf _ _ _
theorem fl_round {f : FP.Core.Fmt} (hf : flF f) {d : FP.Core.Datum} (hd : d ≠ .nan) : flS f (FP.Core.round f d) := by
  cases d with
  | nan => exact absurd rfl hd
  | inf s => exact Or.inl ⟨_, rfl⟩
  | fin s c q => exact fl_ratio hf _ _ _ _
theorem fl_quot {f : FP.Core.Fmt} (hf : flF f) {a b : FP.Core.Datum} (ha : a ≠ .nan) {s : Bool} {c : Nat} {q : Int} (hb : b = .fin s c q) (hc : c ≠ 0) : flS f (FP.Core.quotient f a b) := by
  subst hb
  cases a with
  | nan => exact absurd rfl ha
  | inf s => exact Or.inl ⟨_, rfl⟩
  | fin s c q =>
    unfold FP.Core.quotient
    dsimp only
    rw [if_neg hc]
    exact fl_ratio hf _ _ _ _
theorem fl_enc {f : FP.Core.Fmt} (hf : flF f) {d : FP.Core.Datum} (h : flS f d) : ∃ s e t, FP.Core.encode f d = FP.Core.assemble f s e t ∧ t < f.tails ∧ e < f.exps ∧ (e = f.exps - 1 → t = 0) := by
  obtain ⟨h1, h2, h3, h4⟩ := hf
  rcases h with ⟨s, rfl⟩ | ⟨s, c, q, rfl, hc, hq⟩
  · exact ⟨s, f.exps - 1, 0, rfl, h2, by omega, fun _ => rfl⟩
  · unfold FP.Core.encode
    dsimp only
    split
    · next h => exact ⟨s, 0, c, rfl, h, by omega, fun z => by omega⟩
    · next h =>
      refine ⟨s, (q - f.qmin).toNat + 1, c - f.tails, rfl, by omega, ?_, fun z => ?_⟩
      · omega
      · omega
theorem fl_dec {f : FP.Core.Fmt} (hf : flF f) {s : Bool} {e t : Nat} (ht : t < f.tails) (he : e < f.exps) (h0 : e = f.exps - 1 → t = 0) : FP.Core.decode f (FP.Core.assemble f s e t) ≠ .nan := by
  have hT : FP.Core.fieldT f (FP.Core.assemble f s e t) = t := by
    unfold FP.Core.fieldT FP.Core.assemble
    rw [Nat.mul_comm, Nat.mul_add_mod, Nat.mod_eq_of_lt ht]
  have hE : FP.Core.fieldE f (FP.Core.assemble f s e t) = e := by
    unfold FP.Core.fieldE FP.Core.assemble
    rw [Nat.mul_comm _ f.tails, Nat.mul_add_div hf.2.1, Nat.div_eq_of_lt ht, Nat.add_zero, Nat.mul_comm _ f.exps, Nat.mul_add_mod, Nat.mod_eq_of_lt he]
  unfold FP.Core.decode
  rw [hT, hE]
  split
  · next h => rw [if_pos (h0 h)]; intro z; cases z
  · split
    · intro z; cases z
    · intro z; cases z
theorem fl_bool (s : Bool) : s.toNat ≤ 1 := by cases s <;> decide
/-- 32 bits -/
theorem fl_u32 {d : FP.Core.Datum} (h : flS FP.Core.b32 d) : (UInt32.ofNat (FP.Core.encode FP.Core.b32 d)).toNat = FP.Core.encode FP.Core.b32 d ∧ (UInt32.ofNat (FP.Core.encode FP.Core.b32 d)) &&& 0x7fffffff ≤ 0x7f800000 ∧ FP.Core.decode FP.Core.b32 (FP.Core.encode FP.Core.b32 d) ≠ .nan := by
  obtain ⟨s, e, t, h1, h2, h3, h4⟩ := fl_enc fl_32 h
  have h5 := fl_dec (s := s) fl_32 h2 h3 h4
  rw [← h1] at h5
  have hs := fl_bool s
  have ht : FP.Core.b32.tails = 8388608 := by decide
  have he : FP.Core.b32.exps = 256 := by decide
  have hn : FP.Core.encode FP.Core.b32 d = (s.toNat * 256 + e) * 8388608 + t := by rw [h1, FP.Core.assemble, ht, he]
  rw [ht] at h2
  rw [he] at h3 h4
  generalize FP.Core.encode FP.Core.b32 d = n at hn h5 ⊢
  have hlt : n < 4294967296 := by omega
  have hto : (UInt32.ofNat n).toNat = n := by rw [UInt32.toNat_ofNat']; exact Nat.mod_eq_of_lt hlt
  refine ⟨hto, ?_, h5⟩
  rw [UInt32.le_iff_toNat_le, UInt32.toNat_and, hto]
  have h7 : (0x7fffffff : UInt32).toNat = 2 ^ 31 - 1 := by decide
  have h8 : (0x7f800000 : UInt32).toNat = 255 * 8388608 := by decide
  rw [h7, h8, Nat.and_two_pow_sub_one_eq_mod]
  omega
theorem fl_u64 {d : FP.Core.Datum} (h : flS FP.Core.b64 d) : (UInt64.ofNat (FP.Core.encode FP.Core.b64 d)).toNat = FP.Core.encode FP.Core.b64 d ∧ (UInt64.ofNat (FP.Core.encode FP.Core.b64 d)) &&& 0x7fffffffffffffff ≤ 0x7ff0000000000000 ∧ FP.Core.decode FP.Core.b64 (FP.Core.encode FP.Core.b64 d) ≠ .nan := by
  obtain ⟨s, e, t, h1, h2, h3, h4⟩ := fl_enc fl_64 h
  have h5 := fl_dec (s := s) fl_64 h2 h3 h4
  rw [← h1] at h5
  have hs := fl_bool s
  have ht : FP.Core.b64.tails = 4503599627370496 := by decide +kernel
  have he : FP.Core.b64.exps = 2048 := by decide
  have hn : FP.Core.encode FP.Core.b64 d = (s.toNat * 2048 + e) * 4503599627370496 + t := by rw [h1, FP.Core.assemble, ht, he]
  rw [ht] at h2
  rw [he] at h3 h4
  generalize FP.Core.encode FP.Core.b64 d = n at hn h5 ⊢
  have hlt : n < 18446744073709551616 := by omega
  have hto : (UInt64.ofNat n).toNat = n := by rw [UInt64.toNat_ofNat']; exact Nat.mod_eq_of_lt hlt
  refine ⟨hto, ?_, h5⟩
  rw [UInt64.le_iff_toNat_le, UInt64.toNat_and, hto]
  have h7 : (0x7fffffffffffffff : UInt64).toNat = 2 ^ 63 - 1 := by decide
  have h8 : (0x7ff0000000000000 : UInt64).toNat = 2047 * 4503599627370496 := by decide
  rw [h7, h8, Nat.and_two_pow_sub_one_eq_mod]
  omega
theorem fl_ofInt (i : Int) : FP.Core.ofInt i ≠ .nan := by
  unfold FP.Core.ofInt
  intro z
  cases z
theorem fl_i2f (x : Int32) : FP.Core.decode FP.Core.b32 (FP.i2f x).toNat ≠ .nan := by
  have h := fl_u32 (fl_round fl_32 (fl_ofInt x.toInt))
  show FP.Core.decode FP.Core.b32 (UInt32.ofNat (FP.Core.encode FP.Core.b32 _)).toNat ≠ _
  rw [h.1]
  exact h.2.2
theorem fl_i2d (x : Int32) : FP.Core.decode FP.Core.b64 (FP.i2d x).toNat ≠ .nan := by
  have h := fl_u64 (fl_round fl_64 (fl_ofInt x.toInt))
  show FP.Core.decode FP.Core.b64 (UInt64.ofNat (FP.Core.encode FP.Core.b64 _)).toNat ≠ _
  rw [h.1]
  exact h.2.2
def flNz (d : FP.Core.Datum) : Bool := match d with
  | .fin _ c _ => decide (c ≠ 0)
  | _ => false
theorem flNz_s {d : FP.Core.Datum} (h : flNz d = true) : ∃ s c q, d = .fin s c q ∧ c ≠ 0 := by
  cases d with
  | nan => cases h
  | inf s => cases h
  | fin s c q => exact ⟨s, c, q, rfl, of_decide_eq_true h⟩
theorem fl_nz : ∀ k : Fin 200, k.val ≠ 0 → flNz (FP.Core.decode FP.Core.b32 (FP.i2f (Int32.ofInt (k.val : Int))).toNat) = true ∧ flNz (FP.Core.decode FP.Core.b64 (FP.i2d (Int32.ofInt (k.val : Int))).toNat) = true := by decide +kernel
theorem fl_fdiv {x y : UInt32} (hx : FP.Core.decode FP.Core.b32 x.toNat ≠ .nan) (hy : flNz (FP.Core.decode FP.Core.b32 y.toNat) = true) : FP.fdiv x y &&& 0x7fffffff ≤ 0x7f800000 ∧ FP.Core.decode FP.Core.b32 (FP.fdiv x y).toNat ≠ .nan := by
  obtain ⟨s, c, q, h1, h2⟩ := flNz_s hy
  have h := fl_u32 (fl_quot fl_32 hx h1 h2)
  refine ⟨h.2.1, ?_⟩
  show FP.Core.decode FP.Core.b32 (UInt32.ofNat (FP.Core.encode FP.Core.b32 _)).toNat ≠ _
  rw [h.1]
  exact h.2.2
theorem fl_ddiv {x y : UInt64} (hx : FP.Core.decode FP.Core.b64 x.toNat ≠ .nan) (hy : flNz (FP.Core.decode FP.Core.b64 y.toNat) = true) : FP.ddiv x y &&& 0x7fffffffffffffff ≤ 0x7ff0000000000000 := by
  obtain ⟨s, c, q, h1, h2⟩ := flNz_s hy
  exact (fl_u64 (fl_quot fl_64 hx h1 h2)).2.1
theorem fl_f2d {x : UInt32} (hx : FP.Core.decode FP.Core.b32 x.toNat ≠ .nan) : FP.f2d x &&& 0x7fffffffffffffff ≤ 0x7ff0000000000000 := by
  have h : FP.Core.fIsNaN x = false := by
    unfold FP.Core.fIsNaN FP.Core.isNaN
    exact decide_eq_false hx
  unfold FP.f2d
  rw [h]
  exact (fl_u64 (fl_round fl_64 hx)).2.1
