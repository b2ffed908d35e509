/-! ===== ways by hand: the text: bytes, tokens ===== -/
theorem u199 : bUp 0 am_m199.1 = true := by decide +kernel
theorem u241 : bUp 0 am_m241.1 = true := by decide +kernel
theorem u242 : bUp 0 am_m242.1 = true := by decide +kernel
theorem u243 : bUp 0 am_m243.1 = true := by decide +kernel
theorem u244 : bUp 0 am_m244.1 = true := by decide +kernel
theorem u245 : bUp 0 am_m245.1 = true := by decide +kernel
theorem u246 : bUp 0 am_m246.1 = true := by decide +kernel
theorem u247 : bUp 0 am_m247.1 = true := by decide +kernel
theorem u248 : bUp 0 am_m248.1 = true := by decide +kernel
theorem u249 : bUp 0 am_m249.1 = true := by decide +kernel
theorem u250 : bUp 0 am_m250.1 = true := by decide +kernel
theorem u251 : bUp 0 am_m251.1 = true := by decide +kernel
theorem k_byte {d : Nat} {hp : amH} {R : xQ} {k : Int32} (hH : bHk 84 bTT hp) (k0 : 0 ≤ k.toInt) (hR : ∀ z : Int32, ((z.toInt = -1 ∧ rN hp 66 21 ≤ k.toInt) ∨ (z.toInt = rN hp 80 k.toInt.toNat ∧ k.toInt < rN hp 66 21 ∧ 0 ≤ z.toInt ∧ z.toInt ≤ 255)) → R (.inl (some (.int z))) hp) : xK d 241 [.ref 66, .int k] hp R := by
  have hb21 := rb_fld hH (f := 21) (lo := 2147483648) (hi := 2147484248) rfl
  refine xin (M := am_m241) rfl rfl rfl ?_
  refine xild 1 ⟨u241, _, rfl⟩ rfl rfl ?_
  refine xald 2 ⟨u241, _, rfl⟩ rfl rfl ?_
  refine xgetI 5 hH ⟨u241, _, rfl⟩ rfl rfl (fun z2 h2 => ?_)
  refine xcmp_ge 8 ⟨u241, _, rfl⟩ rfl (fun c5 => ?_) (fun c5 => ?_)
  · refine xcst 18 (-1) ⟨u241, _, rfl⟩ rfl (by decide) (fun z17 h17 => ?_)
    exact xret ⟨u241, _, rfl⟩ rfl (hR _ (Or.inl ⟨by omega, by omega⟩))
  · refine xald 9 ⟨u241, _, rfl⟩ rfl rfl ?_
    refine xgetR 12 80 hH ⟨u241, _, rfl⟩ rfl rfl ?_
    refine xild 13 ⟨u241, _, rfl⟩ rfl rfl ?_
    refine xiald 14 k.toInt.toNat hH ⟨u241, _, rfl⟩ rfl (by decide) rfl (by omega) (by omega) (fun z13 h13 => ?_)
    have hb80 := rb_row hH (q := 80) (i := k.toInt.toNat) (by decide) rfl (by omega)
    refine xgoto ⟨u241, _, rfl⟩ ?_
    exact xret ⟨u241, _, rfl⟩ rfl (hR _ (Or.inr ⟨by omega, by omega, by omega, by omega⟩))
def wAdv : List (Nat × Nat) := [(66, 26), (66, 27), (66, 28), (66, 29)]
/-- places in the text -/
def PA (hp : amH) : Prop := 0 ≤ rN hp 66 27 ∧ rN hp 66 27 ≤ rN hp 66 26 ∧ rN hp 66 26 ≤ rN hp 66 21 ∧ rN hp 66 21 ≤ 600
