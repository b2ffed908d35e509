/-! ##### 13.d.bnum ##### -/
section
/-! ===== runs over invariants: arithmetic by bounds ===== -/
abbrev bG : Type := Nat → Nat → Nat → Nat → Nat × Nat
noncomputable def bGok (f : Int32 → Int32 → Int32) (g : bG) : Prop := ∀ (a b c d : Nat) (x y : Int32), aIn a b x → aIn c d y → aIn (g a b c d).1 (g a b c d).2 (f x y)
noncomputable def bFull : Nat × Nat := (0, 4294967295)
theorem bFull_s (x : Int32) : aIn bFull.1 bFull.2 x := bIn_off.mpr ⟨Nat.zero_le _, bOff_le x⟩
noncomputable def bOfG (g : aG) : bG := fun a b c d => match g a b c d with
  | some (.inr q) => q
  | _ => bFull
theorem bOfG_ok {f : Int32 → Int32 → Int32} {g : aG} (h : aGok f g) : bGok f (bOfG g) := by
  intro a b c d x y hx hy
  unfold bOfG
  split
  · next q e =>
    obtain ⟨z, hz, h1, h2⟩ := h a b c d _ x y e hx hy
    cases hz
    exact ⟨h1, h2⟩
  · exact bFull_s _
noncomputable def bGm2 (a b c d : Nat) : Nat × Nat := match Nat.ble (Nat.mul b d) 2147483647 with
  | true => (Nat.add (Nat.mul a c) 2147483648, Nat.add (Nat.mul b d) 2147483648)
  | false => bFull
theorem bGm2_s {a b c d i j : Nat} {x y : Int32} (hi : x.toInt = (i : Int)) (hj : y.toInt = (j : Int)) (i1 : a ≤ i) (i2 : i ≤ b) (j1 : c ≤ j) (j2 : j ≤ d) : aIn (bGm2 a b c d).1 (bGm2 a b c d).2 (x * y) := by
  unfold bGm2
  split
  · next e3 =>
    have e3 := a_le e3
    have m1 : Nat.mul a c ≤ i * j := Nat.mul_le_mul i1 j1
    have m2 : i * j ≤ Nat.mul b d := Nat.mul_le_mul i2 j2
    generalize Nat.mul a c = p1 at m1 ⊢
    generalize Nat.mul b d = p2 at m2 e3 ⊢
    have hm : (x * y).toInt = ((i * j : Nat) : Int) := by
      rw [Int32.toInt_mul, hi, hj]
      have e4 : (i : Int) * (j : Int) = ((i * j : Nat) : Int) := by simp
      rw [e4]
      generalize i * j = z at m1 m2 ⊢
      exact aBmod (by omega) (by omega)
    have ez := aOff_eq (x * y)
    rw [hm] at ez
    generalize i * j = z at m1 m2 ez
    simp only [Nat.add_eq]
    exact bIn_off.mpr ⟨by omega, by omega⟩
  · exact bFull_s _
noncomputable def bGmul : bG := fun a b c d => match Nat.ble 2147483648 a with
  | true => (match Nat.ble 2147483648 c with
    | true => bGm2 (Nat.sub a 2147483648) (Nat.sub b 2147483648) (Nat.sub c 2147483648) (Nat.sub d 2147483648)
    | false => bOfG (aGx (fun x y => x * y)) a b c d)
  | false => bOfG (aGx (fun x y => x * y)) a b c d
theorem bGmul_ok : bGok (fun x y => x * y) bGmul := by
  intro a b c d x y hx hy
  unfold bGmul
  split
  · next e1 =>
    split
    · next e2 =>
      have e1 := a_le e1
      have e2 := a_le e2
      have hx := bIn_off.mp hx
      have hy := bIn_off.mp hy
      have ex := aOff_eq x
      have ey := aOff_eq y
      obtain ⟨i, hi⟩ : ∃ i : Nat, x.toInt = (i : Int) := ⟨aOff x - 2147483648, by omega⟩
      obtain ⟨j, hj⟩ : ∃ j : Nat, y.toInt = (j : Int) := ⟨aOff y - 2147483648, by omega⟩
      exact bGm2_s hi hj (by simp only [Nat.sub_eq]; omega) (by simp only [Nat.sub_eq]; omega) (by simp only [Nat.sub_eq]; omega) (by simp only [Nat.sub_eq]; omega)
    · exact bOfG_ok (aGx_ok _) a b c d x y hx hy
  · exact bOfG_ok (aGx_ok _) a b c d x y hx hy
theorem bDivN {x y : Int32} {i j : Nat} (hi : x.toInt = (i : Int)) (hj : y.toInt = (j : Int)) (h0 : 0 < j) : (x / y).toInt = ((i / j : Nat) : Int) := by
  rw [Int32.toInt_div, hi, hj]
  have h1 : ((i : Int).tdiv (j : Int)) = ((i / j : Nat) : Int) := by
    rw [Int.tdiv_eq_ediv_of_nonneg (by omega)]
    simp
  rw [h1]
  have h2 := Nat.div_le_self i j
  have h3 := aMax x
  generalize i / j = q at h2 ⊢
  exact aBmod (by omega) (by omega)
noncomputable def bGdiv : bG := fun a b c d => match Nat.ble 2147483648 a with
  | true => (match Nat.ble 2147483649 c with
    | true => (Nat.add (Nat.div (Nat.sub a 2147483648) (Nat.sub d 2147483648)) 2147483648, Nat.add (Nat.div (Nat.sub b 2147483648) (Nat.sub c 2147483648)) 2147483648)
    | false => bFull)
  | false => bFull
theorem bGdiv_ok : bGok (fun x y => x / y) bGdiv := by
  intro a b c d x y hx hy
  unfold bGdiv
  split
  · next e1 =>
    split
    · next e2 =>
      have e1 := a_le e1
      have e2 := a_le e2
      have hx := bIn_off.mp hx
      have hy := bIn_off.mp hy
      have ex := aOff_eq x
      have ey := aOff_eq y
      obtain ⟨i, hi⟩ : ∃ i : Nat, x.toInt = (i : Int) := ⟨aOff x - 2147483648, by omega⟩
      obtain ⟨j, hj⟩ : ∃ j : Nat, y.toInt = (j : Int) := ⟨aOff y - 2147483648, by omega⟩
      have ez := aOff_eq (x / y)
      rw [bDivN hi hj (by omega)] at ez
      have m1 : (a - 2147483648) / (d - 2147483648) ≤ i / j := Nat.div_le_div (by omega) (by omega) (by omega)
      have m2 : i / j ≤ (b - 2147483648) / (c - 2147483648) := Nat.div_le_div (by omega) (by omega) (by omega)
      simp only [show ∀ a b : Nat, Nat.div a b = a / b from fun _ _ => rfl, Nat.sub_eq, Nat.add_eq]
      generalize i / j = q at ez m1 m2
      refine bIn_off.mpr ⟨?_, ?_⟩
      · omega
      · omega
    · exact bFull_s _
  · exact bFull_s _
noncomputable def bGr2 (d : Nat) : Nat × Nat := (Nat.sub 4294967297 d, Nat.sub d 1)
noncomputable def bGrem : bG := fun a b c d => match Nat.ble 2147483649 c with
  | true => (match Nat.ble 2147483648 a with
    | true => (2147483648, (match Nat.ble b (Nat.sub d 1) with
      | true => b
      | false => Nat.sub d 1))
    | false => bGr2 d)
  | false => bFull
theorem bRemP {x y : Int32} {i j : Nat} (hi : x.toInt = (i : Int)) (hj : y.toInt = (j : Int)) (hj0 : 0 < j) : (x - x / y * y).toInt = ((i % j : Nat) : Int) := by
  have h1 := bDivN hi hj hj0
  have h2 := aMax x
  have h3 : i / j * j ≤ i := Nat.div_mul_le_self i j
  have h4 : (x / y * y).toInt = ((i / j * j : Nat) : Int) := by
    rw [Int32.toInt_mul, h1, hj, aBmod]
    · simp
    · generalize i / j = q at h3 ⊢
      have : (q : Int) * (j : Int) = ((q * j : Nat) : Int) := by simp
      rw [this]
      omega
    · generalize i / j = q at h3 ⊢
      have : (q : Int) * (j : Int) = ((q * j : Nat) : Int) := by simp
      rw [this]
      omega
  rw [Int32.toInt_sub, h4, hi]
  have h6 : i % j = i - i / j * j := by
    have := Nat.div_add_mod i j
    rw [Nat.mul_comm] at this
    omega
  rw [h6]
  generalize i / j * j = q at h3 ⊢
  rw [aBmod]
  · omega
  · omega
  · omega
theorem bRemM {x y : Int32} {i j : Nat} (hi : x.toInt = -(i : Int)) (hj : y.toInt = (j : Int)) (hj0 : 0 < j) : (x - x / y * y).toInt = -((i % j : Nat) : Int) := by
  have h2 := aMin x
  have h0 := aMax x
  have h3 : i / j * j ≤ i := Nat.div_mul_le_self i j
  have h7 : i / j ≤ i := Nat.div_le_self i j
  have h1 : (x / y).toInt = -((i / j : Nat) : Int) := by
    rw [Int32.toInt_div, hi, hj]
    have h1 : ((-(i : Int)).tdiv (j : Int)) = -((i / j : Nat) : Int) := by
      rw [Int.neg_tdiv, Int.tdiv_eq_ediv_of_nonneg (by omega)]
      simp
    rw [h1]
    generalize i / j = q at h7 ⊢
    exact aBmod (by omega) (by omega)
  have h4 : (x / y * y).toInt = -((i / j * j : Nat) : Int) := by
    rw [Int32.toInt_mul, h1, hj]
    generalize i / j = q at h3 ⊢
    have : -(q : Int) * (j : Int) = -((q * j : Nat) : Int) := by rw [Int.neg_mul]; simp
    rw [this]
    exact aBmod (by omega) (by omega)
  rw [Int32.toInt_sub, h4, hi]
  have h6 : i % j = i - i / j * j := by
    have := Nat.div_add_mod i j
    rw [Nat.mul_comm] at this
    omega
  rw [h6]
  generalize i / j * j = q at h3 ⊢
  rw [aBmod]
  · omega
  · omega
  · omega
theorem bGrem_ok : bGok (fun x y => x - x / y * y) bGrem := by
  intro a b c d x y hx hy
  unfold bGrem
  split
  · next e2 =>
    have e2 := a_le e2
    have hx := bIn_off.mp hx
    have hy := bIn_off.mp hy
    have ex := aOff_eq x
    have ey := aOff_eq y
    obtain ⟨j, hj⟩ : ∃ j : Nat, y.toInt = (j : Int) := ⟨aOff y - 2147483648, by omega⟩
    have hj0 : 0 < j := by omega
    have ez := aOff_eq (x - x / y * y)
    split
    · next e1 =>
      have e1 := a_le e1
      obtain ⟨i, hi⟩ : ∃ i : Nat, x.toInt = (i : Int) := ⟨aOff x - 2147483648, by omega⟩
      have h5 := bRemP hi hj hj0
      have h7 := Nat.mod_lt i hj0
      have h8 := Nat.mod_le i j
      refine bIn_off.mpr ⟨by dsimp only; omega, ?_⟩
      dsimp only
      split
      · omega
      · simp only [Nat.sub_eq]
        omega
    · unfold bGr2
      rcases Int.lt_or_le x.toInt 0 with h0 | h0
      · obtain ⟨i, hi⟩ : ∃ i : Nat, x.toInt = -(i : Int) := ⟨(-x.toInt).toNat, by omega⟩
        have h5 := bRemM hi hj hj0
        have h7 := Nat.mod_lt i hj0
        simp only [Nat.sub_eq]
        exact bIn_off.mpr ⟨by omega, by omega⟩
      · obtain ⟨i, hi⟩ : ∃ i : Nat, x.toInt = (i : Int) := ⟨x.toInt.toNat, by omega⟩
        have h5 := bRemP hi hj hj0
        have h7 := Nat.mod_lt i hj0
        simp only [Nat.sub_eq]
        exact bIn_off.mpr ⟨by omega, by omega⟩
  · exact bFull_s _
theorem bShl1 : ∀ k : Fin 31, ((1 : Int32) <<< (Int32.ofInt (k.val : Int) &&& 31)).toInt = ((2 ^ k.val : Nat) : Int) := by decide
/-- 1 shifted to the left -/
noncomputable def bGs2 (a b : Nat) : Nat × Nat := (Nat.add (Nat.pow 2 a) 2147483648, Nat.add (Nat.pow 2 b) 2147483648)
theorem bGs2_s {u v j : Nat} {z : Int32} (h1 : u ≤ j) (h2 : j ≤ v) (h : (aOff z : Int) = ((2 ^ j : Nat) : Int) + 2147483648) : aIn (bGs2 u v).1 (bGs2 u v).2 z := by
  have m1 : Nat.pow 2 u ≤ 2 ^ j := Nat.pow_le_pow_right (by omega) h1
  have m2 : 2 ^ j ≤ Nat.pow 2 v := Nat.pow_le_pow_right (by omega) h2
  unfold bGs2
  generalize Nat.pow 2 u = p at m1 ⊢
  generalize Nat.pow 2 v = q at m2 ⊢
  generalize 2 ^ j = r at m1 m2 h
  simp only [Nat.add_eq]
  exact bIn_off.mpr ⟨by omega, by omega⟩
noncomputable def bGshl : bG := fun a b c d => match Nat.beq a 2147483649 && Nat.beq b 2147483649 with
  | true => (match Nat.ble 2147483648 c && Nat.ble d 2147483678 with
    | true => bGs2 (Nat.sub c 2147483648) (Nat.sub d 2147483648)
    | false => bFull)
  | false => bOfG (aGx (fun x y => x <<< (y &&& 31))) a b c d
theorem bGshl_ok : bGok (fun x y => x <<< (y &&& 31)) bGshl := by
  intro a b c d x y hx hy
  unfold bGshl
  split
  · next e1 =>
    split
    · next e2 =>
      rw [Bool.and_eq_true] at e1 e2
      have e3 := Nat.eq_of_beq_eq_true e1.1
      have e4 := Nat.eq_of_beq_eq_true e1.2
      have e5 := a_le e2.1
      have e6 := a_le e2.2
      have hx := bIn_off.mp hx
      have hy := bIn_off.mp hy
      have ex := aOff_eq x
      have ey := aOff_eq y
      have x1 : x = 1 := Int32.toInt_inj.mp (by
        have : (1 : Int32).toInt = 1 := by decide
        omega)
      obtain ⟨j, hj⟩ : ∃ j : Nat, y.toInt = (j : Int) := ⟨aOff y - 2147483648, by omega⟩
      have hj31 : j < 31 := by omega
      have hy2 : y = Int32.ofInt (j : Int) := by rw [← hj, Int32.ofInt_toInt]
      have key := bShl1 ⟨j, hj31⟩
      dsimp only at key
      rw [← hy2] at key
      subst x1
      have ez := aOff_eq ((1 : Int32) <<< (y &&& 31))
      rw [key] at ez
      exact bGs2_s (j := j) (by simp only [Nat.sub_eq]; omega) (by simp only [Nat.sub_eq]; omega) ez
    · exact bFull_s _
  · exact bOfG_ok (aGx_ok _) a b c d x y hx hy
/-! what is added is kept by number -/
noncomputable def bAddC (E : bE) (v : bV) (k : Nat) : Option (bV × bE) := match v with
  | .inl m => some (bNew E (bOfG aGadd m m k k))
  | .inr (.inl q) => (match bIv E v with
    | some r => (match Nat.ble 2147483648 (Nat.add r.1 k) with
      | true => (match Nat.ble (Nat.add r.2 k) 6442450943 with
        | true => (match Nat.ble 2147483648 (Nat.add q.2 k) with
          | true => some (.inr (.inl (q.1, Nat.sub (Nat.add q.2 k) 2147483648)), E)
          | false => some (bNew E bFull))
        | false => some (bNew E bFull))
      | false => some (bNew E bFull))
    | none => none)
  | _ => none
theorem bAddC_s {n : Nat} {ρ : List Nat} {E E' : bE} (hE : bRE ρ E) {v u : bV} {k : Nat} {x y : Int32} (h : bAddC E v k = some (u, E')) (hv : bR n ρ v (.int x)) (hy : aOff y = k) : ∃ ρ', ρ <+: ρ' ∧ bRE ρ' E' ∧ bR n ρ' u (.int (x + y)) := by
  match v, h, hv with
  | .inl m, h, hv =>
    simp only [bAddC, Option.some.injEq] at h
    obtain ⟨z, ez, hz⟩ := hv
    cases ez
    have := bOfG_ok aGadd_ok m m k k x y (bIn_off.mpr ⟨by omega, by omega⟩) (bIn_off.mpr ⟨by omega, by omega⟩)
    obtain ⟨ρ', h1, h2, h3⟩ := bNew_s (n := n) hE this
    rw [h] at h2 h3
    exact ⟨ρ', h1, h2, h3⟩
  | .inr (.inl q), h, hv =>
    simp only [bAddC] at h
    split at h
    · next r e =>
      obtain ⟨z, ez, hz⟩ := bIv_s hE e hv
      cases ez
      have hz := bIn_off.mp hz
      have hfull : some (bNew E bFull) = some (u, E') → ∃ ρ', ρ <+: ρ' ∧ bRE ρ' E' ∧ bR n ρ' u (.int (x + y)) := by
        intro z
        have z := Option.some.inj z
        obtain ⟨ρ', h1, h2, h3⟩ := bNew_s (n := n) hE (bFull_s (x + y))
        rw [z] at h2 h3
        exact ⟨ρ', h1, h2, h3⟩
      split at h
      · next e1 =>
        split at h
        · next e2 =>
          split at h
          · next e3 =>
            have e1 := a_le e1
            have e2 := a_le e2
            have e3 := a_le e3
            simp only [Nat.add_eq] at e1 e2 e3
            have h := Option.some.inj h
            have hu := congrArg Prod.fst h
            have hE' := congrArg Prod.snd h
            dsimp only at hu hE'
            subst hu
            subst hE'
            obtain ⟨x', s, ex, g1, g2⟩ := hv
            cases ex
            refine ⟨ρ, List.prefix_refl _, hE, x + y, s, rfl, g1, ?_⟩
            have ax := aOff_eq x
            have ay := aOff_eq y
            have az := aOff_eq (x + y)
            have e4 : (x + y).toInt = x.toInt + y.toInt := by rw [Int32.toInt_add, aBmod (by omega) (by omega)]
            simp only [Nat.add_eq, Nat.sub_eq]
            omega
          · exact hfull h
        · exact hfull h
      · exact hfull h
    · cases h
noncomputable def bSubC (E : bE) (v : bV) (k : Nat) : Option (bV × bE) := match v with
  | .inl m => some (bNew E (bOfG aGsub m m k k))
  | .inr (.inl q) => (match bIv E v with
    | some r => (match Nat.ble k (Nat.add r.1 2147483648) with
      | true => (match Nat.ble r.2 (Nat.add k 2147483647) with
        | true => (match Nat.ble k (Nat.add q.2 2147483648) with
          | true => some (.inr (.inl (q.1, Nat.sub (Nat.add q.2 2147483648) k)), E)
          | false => some (bNew E bFull))
        | false => some (bNew E bFull))
      | false => some (bNew E bFull))
    | none => none)
  | _ => none
theorem bSubC_s {n : Nat} {ρ : List Nat} {E E' : bE} (hE : bRE ρ E) {v u : bV} {k : Nat} {x y : Int32} (h : bSubC E v k = some (u, E')) (hv : bR n ρ v (.int x)) (hy : aOff y = k) : ∃ ρ', ρ <+: ρ' ∧ bRE ρ' E' ∧ bR n ρ' u (.int (x - y)) := by
  match v, h, hv with
  | .inl m, h, hv =>
    simp only [bSubC, Option.some.injEq] at h
    obtain ⟨z, ez, hz⟩ := hv
    cases ez
    have := bOfG_ok aGsub_ok m m k k x y (bIn_off.mpr ⟨by omega, by omega⟩) (bIn_off.mpr ⟨by omega, by omega⟩)
    obtain ⟨ρ', h1, h2, h3⟩ := bNew_s (n := n) hE this
    rw [h] at h2 h3
    exact ⟨ρ', h1, h2, h3⟩
  | .inr (.inl q), h, hv =>
    simp only [bSubC] at h
    split at h
    · next r e =>
      obtain ⟨z, ez, hz⟩ := bIv_s hE e hv
      cases ez
      have hz := bIn_off.mp hz
      have hfull : some (bNew E bFull) = some (u, E') → ∃ ρ', ρ <+: ρ' ∧ bRE ρ' E' ∧ bR n ρ' u (.int (x - y)) := by
        intro z
        have z := Option.some.inj z
        obtain ⟨ρ', h1, h2, h3⟩ := bNew_s (n := n) hE (bFull_s (x - y))
        rw [z] at h2 h3
        exact ⟨ρ', h1, h2, h3⟩
      split at h
      · next e1 =>
        split at h
        · next e2 =>
          split at h
          · next e3 =>
            have e1 := a_le e1
            have e2 := a_le e2
            have e3 := a_le e3
            simp only [Nat.add_eq] at e1 e2 e3
            have h := Option.some.inj h
            have hu := congrArg Prod.fst h
            have hE' := congrArg Prod.snd h
            dsimp only at hu hE'
            subst hu
            subst hE'
            obtain ⟨x', s, ex, g1, g2⟩ := hv
            cases ex
            refine ⟨ρ, List.prefix_refl _, hE, x - y, s, rfl, g1, ?_⟩
            have ax := aOff_eq x
            have ay := aOff_eq y
            have az := aOff_eq (x - y)
            have e4 : (x - y).toInt = x.toInt - y.toInt := by rw [Int32.toInt_sub, aBmod (by omega) (by omega)]
            simp only [Nat.add_eq, Nat.sub_eq]
            omega
          · exact hfull h
        · exact hfull h
      · exact hfull h
    · cases h
noncomputable def bLook (M : bMm) (u v : bV) : Option bV := match M with
  | [] => none
  | m :: r => (match bVq m.1 u with
    | true => (match bVq m.2.1 v with
      | true => some m.2.2
      | false => bLook r u v)
    | false => bLook r u v)
theorem bLook_s : ∀ {M : bMm} {u v w : bV}, bLook M u v = some w → (u, v, w) ∈ M
  | m :: r, u, v, w, h => by
    unfold bLook at h
    split at h
    · next e1 =>
      split at h
      · next e2 =>
        cases h
        rw [← bVq_s e1, ← bVq_s e2]
        exact List.mem_cons_self
      · exact List.mem_cons_of_mem _ (bLook_s h)
    · exact List.mem_cons_of_mem _ (bLook_s h)
/-- the sum -/
noncomputable def bAdd (S : bS) (x y : bV) : Option (bV × bS) := match y with
  | .inl k => (match bAddC S.1 x k with
    | some r => some (r.1, r.2, S.2)
    | none => none)
  | _ => (match x with
    | .inl k => (match bAddC S.1 y k with
      | some r => some (r.1, r.2, S.2)
      | none => none)
    | _ => (match bLook S.2.2.2 x y with
      | some v => some (v, S)
      | none => (match bIv S.1 x with
        | some p => (match bIv S.1 y with
          | some q => (match bNew S.1 (bOfG aGadd p.1 p.2 q.1 q.2) with
            | (v, E') => some (v, E', S.2.1, S.2.2.1, (x, y, v) :: S.2.2.2))
          | none => none)
        | none => none)))
theorem bAddC_i {E : bE} {v : bV} {k : Nat} {r : bV × bE} (h : bAddC E v k = some r) : bIsI v = true := by
  unfold bAddC at h
  split at h
  · rfl
  · rfl
  · cases h
theorem bSubC_i {E : bE} {v : bV} {k : Nat} {r : bV × bE} (h : bSubC E v k = some r) : bIsI v = true := by
  unfold bSubC at h
  split at h
  · rfl
  · rfl
  · cases h
theorem bAdd_s {n : Nat} {ρ : List Nat} {S S' : bS} {hp : amH} (hS : bRS n ρ S hp) {u v r : bV} {a b : Value} (h : bAdd S u v = some (r, S')) (hu : bR n ρ u a) (hv : bR n ρ v b) : ∃ x y ρ', a = .int x ∧ b = .int y ∧ ρ <+: ρ' ∧ bRS n ρ' S' hp ∧ bR n ρ' r (.int (x + y)) := by
  unfold bAdd at h
  split at h
  · next k =>
    split at h
    · next z e =>
      obtain ⟨x, rfl⟩ := bIsI_s (bAddC_i e) hu
      obtain ⟨y, rfl, hy⟩ := hv
      obtain ⟨ρ', h1, h2, h3⟩ := bAddC_s (u := z.1) (E' := z.2) hS.1 e hu hy
      have h := Option.some.inj h
      obtain ⟨rfl, rfl⟩ := Prod.mk.inj h
      exact ⟨x, y, ρ', rfl, rfl, h1, bRS_ext h1 hS h2, h3⟩
    · cases h
  · split at h
    · next k =>
      split at h
      · next z e =>
        obtain ⟨y, rfl⟩ := bIsI_s (bAddC_i e) hv
        obtain ⟨x, rfl, hx⟩ := hu
        obtain ⟨ρ', h1, h2, h3⟩ := bAddC_s (u := z.1) (E' := z.2) hS.1 e hv hx
        have h := Option.some.inj h
        obtain ⟨rfl, rfl⟩ := Prod.mk.inj h
        refine ⟨x, y, ρ', rfl, rfl, h1, bRS_ext h1 hS h2, ?_⟩
        rw [Int32.add_comm]
        exact h3
      · cases h
    · split at h
      · next w e =>
        have h := Option.some.inj h
        obtain ⟨rfl, rfl⟩ := Prod.mk.inj h
        obtain ⟨x, y, h1, h2, h3⟩ := hS.2.2.2 _ (bLook_s e)
        have hi : ∀ {w : bV} {x : Int32}, bR n ρ w (.int x) → bIsI w = true := by
          intro w x hw
          match w, hw with
          | .inl k, _ => rfl
          | .inr (.inl q), _ => rfl
          | .inr (.inr (.inl t)), h =>
            rcases h with ⟨-, x, h⟩ | ⟨-, x, h, -⟩ | ⟨-, x, h, -⟩ | ⟨-, h⟩ | ⟨-, h⟩ <;> cases h
          | .inr (.inr (.inr l)), ⟨_, h, _⟩ => cases h
        obtain ⟨x', rfl⟩ := bIsI_s (hi h1) hu
        obtain ⟨y', rfl⟩ := bIsI_s (hi h2) hv
        rw [bR_uniq hu h1, bR_uniq hv h2]
        exact ⟨x, y, ρ, rfl, rfl, List.prefix_refl _, hS, h3⟩
      · split at h
        · next p e1 =>
          split at h
          · next q e2 =>
            obtain ⟨x, rfl, hx⟩ := bIv_s hS.1 e1 hu
            obtain ⟨y, rfl, hy⟩ := bIv_s hS.1 e2 hv
            obtain ⟨ρ', h1, h2, h3⟩ := bNew_s (n := n) hS.1 (bOfG_ok aGadd_ok _ _ _ _ x y hx hy)
            split at h
            next w E' e =>
            rw [e] at h2 h3
            have h := Option.some.inj h
            obtain ⟨rfl, rfl⟩ := Prod.mk.inj h
            have h4 := bRS_ext h1 hS h2
            refine ⟨x, y, ρ', rfl, rfl, h1, ⟨h4.1, h4.2.1, h4.2.2.1, fun m hm => ?_⟩, h3⟩
            cases hm with
            | head => exact ⟨x, y, bR_mono h1 hu, bR_mono h1 hv, h3⟩
            | tail _ hm => exact h4.2.2.2 m hm
          · cases h
        · cases h
noncomputable def bSub (S : bS) (x y : bV) : Option (bV × bS) := match y with
  | .inl k => (match bSubC S.1 x k with
    | some r => some (r.1, r.2, S.2)
    | none => none)
  | _ => (match bIv S.1 x with
    | some p => (match bIv S.1 y with
      | some q => (match bNew S.1 (bOfG aGsub p.1 p.2 q.1 q.2) with
        | (v, E') => some (v, E', S.2))
      | none => none)
    | none => none)
theorem bSub_s {n : Nat} {ρ : List Nat} {S S' : bS} {hp : amH} (hS : bRS n ρ S hp) {u v r : bV} {a b : Value} (h : bSub S u v = some (r, S')) (hu : bR n ρ u a) (hv : bR n ρ v b) : ∃ x y ρ', a = .int x ∧ b = .int y ∧ ρ <+: ρ' ∧ bRS n ρ' S' hp ∧ bR n ρ' r (.int (x - y)) := by
  unfold bSub at h
  split at h
  · next k =>
    split at h
    · next z e =>
      obtain ⟨x, rfl⟩ := bIsI_s (bSubC_i e) hu
      obtain ⟨y, rfl, hy⟩ := hv
      obtain ⟨ρ', h1, h2, h3⟩ := bSubC_s (u := z.1) (E' := z.2) hS.1 e hu hy
      have h := Option.some.inj h
      obtain ⟨rfl, rfl⟩ := Prod.mk.inj h
      exact ⟨x, y, ρ', rfl, rfl, h1, bRS_ext h1 hS h2, h3⟩
    · cases h
  · split at h
    · next p e1 =>
      split at h
      · next q e2 =>
        obtain ⟨x, rfl, hx⟩ := bIv_s hS.1 e1 hu
        obtain ⟨y, rfl, hy⟩ := bIv_s hS.1 e2 hv
        obtain ⟨ρ', h1, h2, h3⟩ := bNew_s (n := n) hS.1 (bOfG_ok aGsub_ok _ _ _ _ x y hx hy)
        split at h
        next w E' e =>
        rw [e] at h2 h3
        have h := Option.some.inj h
        obtain ⟨rfl, rfl⟩ := Prod.mk.inj h
        exact ⟨x, y, ρ', rfl, rfl, h1, bRS_ext h1 hS h2, h3⟩
      · cases h
    · cases h
/-- a sum or another number of two -/
noncomputable def bBin (g : bG) (S : bS) (x y : bV) : Option (bV × bS) := match bIv S.1 x with
  | some p => (match bIv S.1 y with
    | some q => (match bNew S.1 (g p.1 p.2 q.1 q.2) with
      | (v, E') => some (v, E', S.2))
    | none => none)
  | none => none
theorem bBin_s {f : Int32 → Int32 → Int32} {g : bG} (hg : bGok f g) {n : Nat} {ρ : List Nat} {S S' : bS} {hp : amH} (hS : bRS n ρ S hp) {u v r : bV} {a b : Value} (h : bBin g S u v = some (r, S')) (hu : bR n ρ u a) (hv : bR n ρ v b) : ∃ x y ρ', a = .int x ∧ b = .int y ∧ ρ <+: ρ' ∧ bRS n ρ' S' hp ∧ bR n ρ' r (.int (f x y)) := by
  unfold bBin at h
  split at h
  · next p e1 =>
    split at h
    · next q e2 =>
      obtain ⟨x, rfl, hx⟩ := bIv_s hS.1 e1 hu
      obtain ⟨y, rfl, hy⟩ := bIv_s hS.1 e2 hv
      obtain ⟨ρ', h1, h2, h3⟩ := bNew_s (n := n) hS.1 (hg _ _ _ _ x y hx hy)
      split at h
      next w E' e =>
      rw [e] at h2 h3
      have h := Option.some.inj h
      obtain ⟨rfl, rfl⟩ := Prod.mk.inj h
      exact ⟨x, y, ρ', rfl, rfl, h1, bRS_ext h1 hS h2, h3⟩
    · cases h
  · cases h
/-! ===== bits of two small numbers ===== -/
noncomputable def aG15 : aG := fun a b c d => match (Nat.ble 2147483648 a && Nat.ble b 2147516415) && (Nat.ble 2147483648 c && Nat.ble d 2147516415) with
  | true => some (.inr (2147483648, 2147516415))
  | false => none
theorem a15_nat {a b : Nat} {x : Int32} (h : aIn a b x) (h1 : 2147483648 ≤ a) (h2 : b ≤ 2147516415) : x.toBitVec.toNat < 2 ^ 15 := by
  obtain ⟨g1, g2⟩ := h
  have e : x.toInt = x.toBitVec.toInt := rfl
  rw [BitVec.toInt_eq_toNat_cond] at e
  have := x.toBitVec.isLt
  split at e <;> omega
theorem a15_of {z : Int32} (h : z.toBitVec.toNat < 2 ^ 15) : aIn 2147483648 2147516415 z := by
  have e : z.toInt = z.toBitVec.toInt := rfl
  rw [BitVec.toInt_eq_toNat_cond] at e
  unfold aIn
  split at e <;> omega
theorem aG15_s {f : Int32 → Int32 → Int32} (hf : ∀ x y : Int32, x.toBitVec.toNat < 2 ^ 15 → y.toBitVec.toNat < 2 ^ 15 → (f x y).toBitVec.toNat < 2 ^ 15) : aGok f aG15 := by
  intro a b c d v x y h hx hy
  unfold aG15 at h
  split at h
  · next e =>
    cases h
    simp only [Bool.and_eq_true] at e
    obtain ⟨⟨e1, e2⟩, e3, e4⟩ := e
    have z := a15_of (hf x y (a15_nat hx (Nat.le_of_ble_eq_true e1) (Nat.le_of_ble_eq_true e2)) (a15_nat hy (Nat.le_of_ble_eq_true e3) (Nat.le_of_ble_eq_true e4)))
    exact ⟨f x y, rfl, z.1, z.2⟩
  · cases h
theorem aG15_xor : aGok (fun x y => x ^^^ y) aG15 := aG15_s (fun x y h1 h2 => by
  rw [Int32.toBitVec_xor, BitVec.toNat_xor]
  exact Nat.xor_lt_two_pow h1 h2)
theorem aG15_or : aGok (fun x y => x ||| y) aG15 := aG15_s (fun x y h1 h2 => by
  rw [Int32.toBitVec_or, BitVec.toNat_or]
  exact Nat.or_lt_two_pow h1 h2)
end
/-! ##### 13.e.bins ##### -/
section
/-! ===== runs over invariants: one instruction ===== -/
theorem bOne {n : Nat} {T : Nat → Option bD} {W : List (Nat × Nat)} {ρ ρ' : List Nat} {L : List bCf} {pc : Nat} {ls : bL} {st : List bV} {S : bS} {cl : amL} {cs : List Value} {hp hp1 : amH} (hL : L = [(pc, ls, st, S)]) (h : ρ <+: ρ') (h1 : bRl n ρ' ls cl) (h2 : bRs n ρ' st cs) (h3 : bRS n ρ' S hp1) (h4 : bHk n T hp1) (h5 : bFr W hp hp1) :
    ∃ g ∈ L, ∃ ρ', ρ <+: ρ' ∧ g.1 = pc ∧ bRel n T ρ' g.2.1 g.2.2.1 g.2.2.2 cl cs hp1 ∧ bFr W hp hp1 :=
  ⟨_, by rw [hL]; exact List.mem_cons_self, ρ', h, rfl, ⟨h1, h2, h3, h4⟩, h5⟩
section BIN
variable {n : Nat} {T : Nat → Option bD} {W : List (Nat × Nat)}
noncomputable def bPush (pc : Nat) (v : bV) : bA := fun ls st S => some [(pc, ls, v :: st, S)]
theorem bPush_ok {pc : Nat} {v : bV} {w : Value} (h : ∀ ρ, bR n ρ v w) : bOk n T W (bPush pc v) (fun ls st hp => some (pc, ls, w :: st, hp)) := by
  intro ls st S L ρ cl cs hp e hr
  cases e
  exact ⟨_, rfl, bOne rfl (List.prefix_refl _) hr.1 ⟨h ρ, hr.2.1⟩ hr.2.2.1 hr.2.2.2 (bFr.refl _ _)⟩
noncomputable def bIs (t : Nat) : bV → Bool
  | .inr (.inr (.inl s)) => Nat.beq s t
  | _ => false
theorem bIs_J {ρ : List Nat} {v : bV} {w : Value} (h : bIs 1 v = true) (hv : bR n ρ v w) : ∃ x, w = .long x := by
  match v, h, hv with
  | .inr (.inr (.inl s)), h, hv =>
    have e : s = 1 := Nat.eq_of_beq_eq_true h
    subst e
    rcases hv with ⟨-, h⟩ | ⟨h, -⟩ | ⟨h, -⟩ | ⟨h, -⟩ | ⟨h, -⟩
    · exact h
    · omega
    · omega
    · cases h
    · unfold amK at h; omega
theorem bIs_D {ρ : List Nat} {v : bV} {w : Value} (h : bIs 2 v = true) (hv : bR n ρ v w) : ∃ x, w = .double x := by
  match v, h, hv with
  | .inr (.inr (.inl s)), h, hv =>
    have e : s = 2 := Nat.eq_of_beq_eq_true h
    subst e
    rcases hv with ⟨h, -⟩ | ⟨-, x, h, -⟩ | ⟨h, -⟩ | ⟨h, -⟩ | ⟨h, -⟩
    · cases h
    · exact ⟨x, h⟩
    · omega
    · cases h
    · unfold amK at h; omega
theorem bIs_F {ρ : List Nat} {v : bV} {w : Value} (h : bIs 3 v = true) (hv : bR n ρ v w) : ∃ x, w = .float x ∧ FP.Core.decode FP.Core.b32 x.toNat ≠ .nan := by
  match v, h, hv with
  | .inr (.inr (.inl s)), h, hv =>
    have e : s = 3 := Nat.eq_of_beq_eq_true h
    subst e
    rcases hv with ⟨h, -⟩ | ⟨h, -⟩ | ⟨-, x, h, h2, -⟩ | ⟨h, -⟩ | ⟨h, -⟩
    · cases h
    · omega
    · exact ⟨x, h, h2⟩
    · cases h
    · unfold amK at h; omega
/-- a float, or a double, that is no NaN; nz: that isn't 0 either -/
noncomputable def bIsF2 : bV → Bool
  | .inr (.inr (.inl s)) => lHas [3, 5] s
  | _ => false
noncomputable def bIsD2 : bV → Bool
  | .inr (.inr (.inl s)) => lHas [6, 7] s
  | _ => false
theorem bIsF2_s {ρ : List Nat} {v : bV} {w : Value} (h : bIsF2 v = true) (hv : bR n ρ v w) : ∃ x, w = .float x ∧ FP.Core.decode FP.Core.b32 x.toNat ≠ .nan := by
  match v, h, hv with
  | .inr (.inr (.inl s)), h, hv =>
    have e := lHas_s h
    simp at e
    rcases hv with ⟨h, -⟩ | ⟨h, -⟩ | ⟨-, x, h, h2, -⟩ | ⟨h, -⟩ | ⟨h, -⟩
    · omega
    · omega
    · exact ⟨x, h, h2⟩
    · omega
    · unfold amK at h; omega
theorem bIs_F5 {ρ : List Nat} {v : bV} {w : Value} (h : bIs 5 v = true) (hv : bR n ρ v w) : ∃ x, w = .float x ∧ flNz (FP.Core.decode FP.Core.b32 x.toNat) = true := by
  match v, h, hv with
  | .inr (.inr (.inl s)), h, hv =>
    have e : s = 5 := Nat.eq_of_beq_eq_true h
    subst e
    rcases hv with ⟨h, -⟩ | ⟨h, -⟩ | ⟨-, x, h, -, h3⟩ | ⟨h, -⟩ | ⟨h, -⟩
    · cases h
    · omega
    · exact ⟨x, h, h3 rfl⟩
    · cases h
    · unfold amK at h; omega
theorem bIsD2_s {ρ : List Nat} {v : bV} {w : Value} (h : bIsD2 v = true) (hv : bR n ρ v w) : ∃ x, w = .double x ∧ FP.Core.decode FP.Core.b64 x.toNat ≠ .nan := by
  match v, h, hv with
  | .inr (.inr (.inl s)), h, hv =>
    have e := lHas_s h
    simp at e
    rcases hv with ⟨h, -⟩ | ⟨-, x, h, h2, -⟩ | ⟨h, -⟩ | ⟨h, -⟩ | ⟨h, -⟩
    · omega
    · exact ⟨x, h, h2 (by omega)⟩
    · omega
    · omega
    · unfold amK at h; omega
theorem bIs_D7 {ρ : List Nat} {v : bV} {w : Value} (h : bIs 7 v = true) (hv : bR n ρ v w) : ∃ x, w = .double x ∧ flNz (FP.Core.decode FP.Core.b64 x.toNat) = true := by
  match v, h, hv with
  | .inr (.inr (.inl s)), h, hv =>
    have e : s = 7 := Nat.eq_of_beq_eq_true h
    subst e
    rcases hv with ⟨h, -⟩ | ⟨-, x, h, -, h3⟩ | ⟨h, -⟩ | ⟨h, -⟩ | ⟨h, -⟩
    · cases h
    · exact ⟨x, h, h3 rfl⟩
    · omega
    · cases h
    · unfold amK at h; omega
noncomputable def bIsA : bV → Bool
  | .inr (.inr (.inl s)) => Nat.beq s 4 || Nat.ble 1000000 s
  | .inr (.inr (.inr _)) => true
  | _ => false
theorem bIsA_s {ρ : List Nat} {v : bV} {w : Value} (h : bIsA v = true) (hv : bR n ρ v w) : amIsA w = true := by
  match v, h, hv with
  | .inr (.inr (.inl s)), h, hv =>
    have e : s = 4 ∨ 1000000 ≤ s := by
      have h : (Nat.beq s 4 || Nat.ble 1000000 s) = true := h
      rw [Bool.or_eq_true] at h
      exact h.imp Nat.eq_of_beq_eq_true a_le
    rcases hv with ⟨h, -⟩ | ⟨h, -⟩ | ⟨h, -⟩ | ⟨-, rfl⟩ | ⟨-, rfl⟩
    · omega
    · omega
    · omega
    · rfl
    · rfl
  | .inr (.inr (.inr l)), h, ⟨i, e, _⟩ => subst e; rfl
noncomputable def bKd (n : Nat) (p : bV → Bool) (p' : Value → Bool) : Prop := ∀ ρ v w, p v = true → bR n ρ v w → p' w = true
theorem bKd_I : bKd n bIsI amIsI := fun ρ v w h hv => by obtain ⟨x, rfl⟩ := bIsI_s h hv; rfl
theorem bKd_J : bKd n (bIs 1) amIsJ := fun ρ v w h hv => by obtain ⟨x, rfl⟩ := bIs_J h hv; rfl
theorem bKd_D : bKd n (bIs 2) amIsD := fun ρ v w h hv => by obtain ⟨x, rfl⟩ := bIs_D h hv; rfl
theorem bKd_A : bKd n bIsA amIsA := fun ρ v w h hv => bIsA_s h hv
noncomputable def bLdA (pc : Nat) (p : bV → Bool) (j : Nat) : bA := fun ls st S => match bGet ls j with
  | some v => (match p v with
    | true => some [(pc, ls, v :: st, S)]
    | false => none)
  | none => none
theorem bLdA_ok {pc j : Nat} {p : bV → Bool} {p' : Value → Bool} (hp : bKd n p p') : bOk n T W (bLdA pc p j) (fun ls st hp => (amLd p' ls j st).map (fun s => (pc, ls, s, hp))) := by
  intro ls st S L ρ cl cs h e hr
  unfold bLdA at e
  split at e
  · next v ev =>
    split at e
    · next ep =>
      cases e
      obtain ⟨w, g1, g2⟩ := hr.1.1 j v ev
      refine ⟨(pc, cl, w :: cs, h), ?_, bOne rfl (List.prefix_refl _) hr.1 ⟨g2, hr.2.1⟩ hr.2.2.1 hr.2.2.2 (bFr.refl _ _)⟩
      simp only [amLd, g1, hp _ _ _ ep g2, if_true, Option.map_some]
    · cases e
  · cases e
noncomputable def bStA (pc : Nat) (p : bV → Bool) (nL j : Nat) : bA := fun ls st S => match st with
  | v :: r => (match p v with
    | true => (match Nat.ble (Nat.add j 1) nL with
      | true => (match bSet1 ls j v with
        | some l1 => some [(pc, l1, r, S)]
        | none => none)
      | false => none)
    | false => none)
  | [] => none
theorem bStA_ok {pc nL j : Nat} {p : bV → Bool} {p' : Value → Bool} (hp : bKd n p p') : bOk n T W (bStA pc p nL j) (fun ls st hp => (amSt1 p' nL ls j st).map (fun q => (pc, q.1, q.2, hp))) := by
  intro ls st S L ρ cl cs h e hr
  unfold bStA at e
  split at e
  · next v r =>
    obtain ⟨w, ws, rfl, hv, hs⟩ := bRs_cons hr.2.1
    split at e
    · next ep =>
      split at e
      · next el =>
        split at e
        · next l1 e1 =>
          cases e
          refine ⟨(pc, amSet1 cl j w, ws, h), ?_, bOne rfl (List.prefix_refl _) (bSet1_s hr.1 hv e1) hs hr.2.2.1 hr.2.2.2 (bFr.refl _ _)⟩
          simp only [amSt1, hp _ _ _ ep hv, show j < nL from a_lt1 el, decide_true, Bool.and_self, if_true, Option.map_some]
        · cases e
      · cases e
    · cases e
  · cases e
noncomputable def bStA2 (pc : Nat) (p : bV → Bool) (nL j : Nat) : bA := fun ls st S => match st with
  | v :: r => (match p v with
    | true => (match Nat.ble (Nat.add j 2) nL with
      | true => (match bSet2 ls j v with
        | some l1 => some [(pc, l1, r, S)]
        | none => none)
      | false => none)
    | false => none)
  | [] => none
theorem bStA2_ok {pc nL j : Nat} {p : bV → Bool} {p' : Value → Bool} (hp : bKd n p p') : bOk n T W (bStA2 pc p nL j) (fun ls st hp => (amSt2 p' nL ls j st).map (fun q => (pc, q.1, q.2, hp))) := by
  intro ls st S L ρ cl cs h e hr
  unfold bStA2 at e
  split at e
  · next v r =>
    obtain ⟨w, ws, rfl, hv, hs⟩ := bRs_cons hr.2.1
    split at e
    · next ep =>
      split at e
      · next el =>
        split at e
        · next l1 e1 =>
          cases e
          have el : j + 2 ≤ nL := a_le el
          refine ⟨(pc, amSet2 cl j w, ws, h), ?_, bOne rfl (List.prefix_refl _) (bSet2_s hr.1 hv e1) hs hr.2.2.1 hr.2.2.2 (bFr.refl _ _)⟩
          simp only [amSt2, hp _ _ _ ep hv, show j + 1 < nL by omega, decide_true, Bool.and_self, if_true, Option.map_some]
        · cases e
      · cases e
    · cases e
  · cases e
noncomputable def bInc (pc nL j k : Nat) : bA := fun ls st S => match bGet ls j with
  | some v => (match bAddC S.1 v k with
    | some r => (match Nat.ble (Nat.add j 1) nL with
      | true => (match bSet1 ls j r.1 with
        | some l1 => some [(pc, l1, st, r.2, S.2)]
        | none => none)
      | false => none)
    | none => none)
  | none => none
theorem bInc_ok {pc nL j : Nat} {c : Int} : bOk n T W (bInc pc nL j (aOff (Int32.ofInt c))) (fun ls st hp => (amInc nL ls j c).map (fun q => (pc, q, st, hp))) := by
  intro ls st S L ρ cl cs h e hr
  unfold bInc at e
  split at e
  · next v ev =>
    split at e
    · next r er =>
      split at e
      · next el =>
        split at e
        · next l1 e1 =>
          cases e
          obtain ⟨w, g1, g2⟩ := hr.1.1 j v ev
          obtain ⟨x, rfl⟩ := bIsI_s (bAddC_i er) g2
          obtain ⟨ρ', h1, h2, h3⟩ := bAddC_s (u := r.1) (E' := r.2) hr.2.2.1.1 er g2 rfl
          refine ⟨(pc, amSet1 cl j (.int (x + Int32.ofInt c)), cs, h), ?_, bOne rfl h1 (bSet1_s (bRl_mono h1 hr.1) h3 e1) (bRs_mono h1 hr.2.1) (bRS_ext h1 hr.2.2.1 h2) hr.2.2.2 (bFr.refl _ _)⟩
          simp only [amInc, g1, show j < nL from a_lt1 el, if_true, Option.map_some]
        · cases e
      · cases e
    · cases e
  · cases e
/-- two numbers to one -/
noncomputable def bTwo (pc : Nat) (g : bS → bV → bV → Option (bV × bS)) : bA := fun ls st S => match st with
  | y :: x :: r => (match g S x y with
    | some q => some [(pc, ls, q.1 :: r, q.2)]
    | none => none)
  | _ => none
noncomputable def bTok (n : Nat) (f : Int32 → Int32 → Int32) (g : bS → bV → bV → Option (bV × bS)) : Prop := ∀ (ρ : List Nat) (S S' : bS) (hp : amH) (u v r : bV) (a b : Value), bRS n ρ S hp → g S u v = some (r, S') → bR n ρ u a → bR n ρ v b → ∃ x y ρ', a = .int x ∧ b = .int y ∧ ρ <+: ρ' ∧ bRS n ρ' S' hp ∧ bR n ρ' r (.int (f x y))
theorem bTok_add : bTok n (fun x y => x + y) bAdd := fun ρ S S' hp u v r a b hS h hu hv => bAdd_s hS h hu hv
theorem bTok_sub : bTok n (fun x y => x - y) bSub := fun ρ S S' hp u v r a b hS h hu hv => bSub_s hS h hu hv
theorem bTok_bin {f : Int32 → Int32 → Int32} {g : bG} (hg : bGok f g) : bTok n f (bBin g) := fun ρ S S' hp u v r a b hS h hu hv => bBin_s hg hS h hu hv
theorem bTwo_ok {pc : Nat} {f : Int32 → Int32 → Int32} {g : bS → bV → bV → Option (bV × bS)} (hg : bTok n f g) : bOk n T W (bTwo pc g) (fun ls st hp => (amII f st).map (fun s => (pc, ls, s, hp))) := by
  intro ls st S L ρ cl cs h e hr
  unfold bTwo at e
  split at e
  · next y x r =>
    obtain ⟨w, ws, rfl, hv, hs⟩ := bRs_cons hr.2.1
    obtain ⟨w2, ws, rfl, hv2, hs2⟩ := bRs_cons hs
    split at e
    · next q eq =>
      cases e
      obtain ⟨a, b, ρ', rfl, rfl, h1, h2, h3⟩ := hg ρ S q.2 h x y q.1 _ _ hr.2.2.1 eq hv2 hv
      exact ⟨_, rfl, bOne rfl h1 (bRl_mono h1 hr.1) ⟨h3, bRs_mono h1 hs2⟩ h2 hr.2.2.2 (bFr.refl _ _)⟩
    · cases e
  · cases e
/-- a quotient: what divides isn't 0 -/
noncomputable def bDvA (pc : Nat) (g : bG) : bA := fun ls st S => match st with
  | y :: x :: r => (match bIv S.1 y with
    | some q => (match Nat.ble 2147483649 q.1 with
      | true => (match bBin g S x y with
        | some q => some [(pc, ls, q.1 :: r, q.2)]
        | none => none)
      | false => (match Nat.ble q.2 2147483647 with
        | true => (match bBin g S x y with
          | some q => some [(pc, ls, q.1 :: r, q.2)]
          | none => none)
        | false => none))
    | none => none)
  | _ => none
theorem bDvA_ok {pc : Nat} {f : Int32 → Int32 → Int32} {g : bG} (hg : bGok f g) : bOk n T W (bDvA pc g) (fun ls st hp => (amDiv f st).map (fun s => (pc, ls, s, hp))) := by
  intro ls st S L ρ cl cs h e hr
  unfold bDvA at e
  split at e
  · next y x r =>
    obtain ⟨w, ws, rfl, hv, hs⟩ := bRs_cons hr.2.1
    obtain ⟨w2, ws, rfl, hv2, hs2⟩ := bRs_cons hs
    have key : (∃ q, bIv S.1 y = some q ∧ (2147483649 ≤ q.1 ∨ q.2 ≤ 2147483647)) ∧ ∃ q, bBin g S x y = some q ∧ L = [(pc, ls, q.1 :: r, q.2)] := by
      split at e
      · next q eq =>
        split at e
        · next e1 =>
          split at e
          · next z ez => cases e; exact ⟨⟨q, eq, Or.inl (a_le e1)⟩, z, ez, rfl⟩
          · cases e
        · split at e
          · next e1 =>
            split at e
            · next z ez => cases e; exact ⟨⟨q, eq, Or.inr (a_le e1)⟩, z, ez, rfl⟩
            · cases e
          · cases e
      · cases e
    obtain ⟨⟨q, eq, hq⟩, z, ez, rfl⟩ := key
    obtain ⟨a, b, ρ', rfl, rfl, h1, h2, h3⟩ := bBin_s (r := z.1) (S' := z.2) hg hr.2.2.1 ez hv2 hv
    obtain ⟨b', eb, hb⟩ := bIv_s hr.2.2.1.1 eq hv
    cases eb
    have hb := bIn_off.mp hb
    have h0 : ¬ b = 0 := fun z => by
      subst z
      have : aOff (0 : Int32) = 2147483648 := by decide
      omega
    refine ⟨(pc, cl, .int (f a b) :: ws, h), by simp only [amDiv, h0, if_false, Option.map_some], bOne rfl h1 (bRl_mono h1 hr.1) ⟨h3, bRs_mono h1 hs2⟩ h2 hr.2.2.2 (bFr.refl _ _)⟩
  · cases e
/-- one value to another of a type -/
noncomputable def bUn (pc : Nat) (p : bV → Bool) (y : bY) : bA := fun ls st S => match st with
  | v :: r => (match p v with
    | true => (match bOfY S.1 y with
      | (u, E') => some [(pc, ls, u :: r, E', S.2)])
    | false => none)
  | [] => none
theorem bUn_ok {pc : Nat} {p : bV → Bool} {y : bY} {cf : amL → List Value → amH → Option amR} (h : ∀ (ρ : List Nat) (v : bV) (w : Value), p v = true → bR n ρ v w → ∃ u, bYr n y u ∧ ∀ cl r hp, cf cl (w :: r) hp = some (pc, cl, u :: r, hp)) : bOk n T W (bUn pc p y) cf := by
  intro ls st S L ρ cl cs hp e hr
  unfold bUn at e
  split at e
  · next v r =>
    obtain ⟨w, ws, rfl, hv, hs⟩ := bRs_cons hr.2.1
    split at e
    · next ep =>
      obtain ⟨u, hu, hc⟩ := h ρ v w ep hv
      obtain ⟨ρ', h1, h2, h3⟩ := bOfY_s (n := n) hr.2.2.1.1 hu
      split at e
      next z E' ez =>
      rw [ez] at h2 h3
      cases e
      exact ⟨_, hc cl ws hp, bOne rfl h1 (bRl_mono h1 hr.1) ⟨h3, bRs_mono h1 hs⟩ (bRS_ext h1 hr.2.2.1 h2) hr.2.2.2 (bFr.refl _ _)⟩
    · cases e
  · cases e
/-- two values to one of a type -/
noncomputable def bBi (pc : Nat) (p q : bV → Bool) (y : bY) : bA := fun ls st S => match st with
  | v :: u :: r => (match p v with
    | true => (match q u with
      | true => (match bOfY S.1 y with
        | (z, E') => some [(pc, ls, z :: r, E', S.2)])
      | false => none)
    | false => none)
  | _ => none
theorem bBi_ok {pc : Nat} {p q : bV → Bool} {y : bY} {cf : amL → List Value → amH → Option amR} (h : ∀ (ρ : List Nat) (v u : bV) (w x : Value), p v = true → q u = true → bR n ρ v w → bR n ρ u x → ∃ z, bYr n y z ∧ ∀ cl r hp, cf cl (w :: x :: r) hp = some (pc, cl, z :: r, hp)) : bOk n T W (bBi pc p q y) cf := by
  intro ls st S L ρ cl cs hp e hr
  unfold bBi at e
  split at e
  · next v u r =>
    obtain ⟨w, ws, rfl, hv, hs⟩ := bRs_cons hr.2.1
    obtain ⟨x, ws, rfl, hu, hs⟩ := bRs_cons hs
    split at e
    · next ep =>
      split at e
      · next eq =>
        obtain ⟨z, hz, hc⟩ := h ρ v u w x ep eq hv hu
        obtain ⟨ρ', h1, h2, h3⟩ := bOfY_s (n := n) hr.2.2.1.1 hz
        split at e
        next z E' ez =>
        rw [ez] at h2 h3
        cases e
        exact ⟨_, hc cl ws hp, bOne rfl h1 (bRl_mono h1 hr.1) ⟨h3, bRs_mono h1 hs⟩ (bRS_ext h1 hr.2.2.1 h2) hr.2.2.2 (bFr.refl _ _)⟩
      · cases e
    · cases e
  · cases e
noncomputable def bDup (pc : Nat) : bA := fun ls st S => match st with
  | v :: r => (match Nat.beq (bCat v) 1 with
    | true => some [(pc, ls, v :: v :: r, S)]
    | false => none)
  | [] => none
noncomputable def bPop (pc : Nat) : bA := fun ls st S => match st with
  | v :: r => (match Nat.beq (bCat v) 1 with
    | true => some [(pc, ls, r, S)]
    | false => none)
  | [] => none
noncomputable def bDup2 (pc : Nat) : bA := fun ls st S => match st with
  | v :: u :: r => (match Nat.beq (bCat v) 1 with
    | true => (match Nat.beq (bCat u) 1 with
      | true => some [(pc, ls, v :: u :: v :: u :: r, S)]
      | false => none)
    | false => none)
  | _ => none
theorem bDup_ok {pc : Nat} {cf : amL → List Value → amH → Option amR} (h1 : ∀ ls v r hp, v.category = 1 → cf ls (v :: r) hp = some (pc, ls, v :: v :: r, hp)) : bOk n T W (bDup pc) cf := by
  intro ls st S L ρ cl cs hp e hr
  unfold bDup at e
  split at e
  · next v r =>
    obtain ⟨w, ws, rfl, hv, hs⟩ := bRs_cons hr.2.1
    split at e
    · next e1 =>
      cases e
      exact ⟨_, h1 _ _ _ _ (by rw [bR_cat hv]; exact Nat.eq_of_beq_eq_true e1), bOne rfl (List.prefix_refl _) hr.1 ⟨hv, hv, hs⟩ hr.2.2.1 hr.2.2.2 (bFr.refl _ _)⟩
    · cases e
  · cases e
theorem bPop_ok {pc : Nat} {cf : amL → List Value → amH → Option amR} (h1 : ∀ ls v r hp, v.category = 1 → cf ls (v :: r) hp = some (pc, ls, r, hp)) : bOk n T W (bPop pc) cf := by
  intro ls st S L ρ cl cs hp e hr
  unfold bPop at e
  split at e
  · next v r =>
    obtain ⟨w, ws, rfl, hv, hs⟩ := bRs_cons hr.2.1
    split at e
    · next e1 =>
      cases e
      exact ⟨_, h1 _ _ _ _ (by rw [bR_cat hv]; exact Nat.eq_of_beq_eq_true e1), bOne rfl (List.prefix_refl _) hr.1 hs hr.2.2.1 hr.2.2.2 (bFr.refl _ _)⟩
    · cases e
  · cases e
theorem bDup2_ok {pc : Nat} {cf : amL → List Value → amH → Option amR} (h1 : ∀ ls v u r hp, v.category = 1 ∧ u.category = 1 → cf ls (v :: u :: r) hp = some (pc, ls, v :: u :: v :: u :: r, hp)) : bOk n T W (bDup2 pc) cf := by
  intro ls st S L ρ cl cs hp e hr
  unfold bDup2 at e
  split at e
  · next v u r =>
    obtain ⟨w, ws, rfl, hv, hs⟩ := bRs_cons hr.2.1
    obtain ⟨w2, ws, rfl, hu, hs⟩ := bRs_cons hs
    split at e
    · next e1 =>
      split at e
      · next e2 =>
        cases e
        exact ⟨_, h1 _ _ _ _ _ ⟨by rw [bR_cat hv]; exact Nat.eq_of_beq_eq_true e1, by rw [bR_cat hu]; exact Nat.eq_of_beq_eq_true e2⟩, bOne rfl (List.prefix_refl _) hr.1 ⟨hv, hu, hv, hu, hs⟩ hr.2.2.1 hr.2.2.2 (bFr.refl _ _)⟩
      · cases e
    · cases e
  · cases e
noncomputable def bGo (pc : Nat) : bA := fun ls st S => some [(pc, ls, st, S)]
theorem bGo_ok {pc : Nat} : bOk n T W (bGo pc) (fun ls st hp => some (pc, ls, st, hp)) := by
  intro ls st S L ρ cl cs hp e hr
  cases e
  exact ⟨_, rfl, bOne rfl (List.prefix_refl _) hr.1 hr.2.1 hr.2.2.1 hr.2.2.2 (bFr.refl _ _)⟩
/-- a whole number made a float or a double: t0, or t1 where it is 1 to 199 -/
noncomputable def bI2 (pc t0 t1 : Nat) : bA := fun ls st S => match st with
  | v :: r => (match bIv S.1 v with
    | some q => (match Nat.ble 2147483649 q.1 && Nat.ble q.2 2147483847 with
      | true => some [(pc, ls, .inr (.inr (.inl t1)) :: r, S)]
      | false => some [(pc, ls, .inr (.inr (.inl t0)) :: r, S)])
    | none => none)
  | [] => none
theorem bI2_ok {pc t0 t1 : Nat} {f : Int32 → Value} (h0 : ∀ x, bT t0 (f x)) (h1 : ∀ x : Int32, 1 ≤ x.toInt → x.toInt ≤ 199 → bT t1 (f x)) : bOk n T W (bI2 pc t0 t1) (fun ls st hp => (amI f st).map (fun s => (pc, ls, s, hp))) := by
  intro ls st S L ρ cl cs hp e hr
  unfold bI2 at e
  split at e
  · next v r =>
    obtain ⟨w, ws, rfl, hv, hs⟩ := bRs_cons hr.2.1
    split at e
    · next q eq =>
      obtain ⟨x, rfl, hx⟩ := bIv_s hr.2.2.1.1 eq hv
      split at e
      · next e1 =>
        cases e
        rw [Bool.and_eq_true] at e1
        have g1 := a_le e1.1
        have g2 := a_le e1.2
        have hx := bIn_off.mp hx
        have ax := aOff_eq x
        exact ⟨_, rfl, bOne rfl (List.prefix_refl _) hr.1 ⟨h1 x (by omega) (by omega), hs⟩ hr.2.2.1 hr.2.2.2 (bFr.refl _ _)⟩
      · cases e
        exact ⟨_, rfl, bOne rfl (List.prefix_refl _) hr.1 ⟨h0 x, hs⟩ hr.2.2.1 hr.2.2.2 (bFr.refl _ _)⟩
    · cases e
  · cases e
/-! branches -/
noncomputable def bOpt (o : Option bS) (pc : Nat) (ls : bL) (st : List bV) (r : List bCf) : List bCf := match o with
  | some S => (pc, ls, st, S) :: r
  | none => r
noncomputable def bBr (c : Jvm.ClassFile.Cond) (t e : Nat) (x y : bV) (ls : bL) (st : List bV) (S : bS) : List bCf := bOpt (bCond c S x y) t ls st (bOpt (bCond (bNeg c) S x y) e ls st [])
theorem bBr_s {ρ : List Nat} {c : Jvm.ClassFile.Cond} {t e : Nat} {u v : bV} {x y : Int32} {ls : bL} {st : List bV} {S : bS} {cl : amL} {cs : List Value} {hp : amH} (hu : bR n ρ u (.int x)) (hv : bR n ρ v (.int y)) (h1 : bRl n ρ ls cl) (h2 : bRs n ρ st cs) (h3 : bRS n ρ S hp) (h4 : bHk n T hp) :
    ∃ g ∈ bBr c t e u v ls st S, ∃ ρ', ρ <+: ρ' ∧ g.1 = (if amCmpP c x y then t else e) ∧ bRel n T ρ' g.2.1 g.2.2.1 g.2.2.2 cl cs hp ∧ bFr W hp hp := by
  unfold bBr
  cases hc : amCmpP c x y with
  | true =>
    obtain ⟨S1, e1, g1⟩ := bCond_s h3 hu hv hc
    rw [e1]
    exact ⟨_, List.mem_cons_self, ρ, List.prefix_refl _, rfl, ⟨h1, h2, g1, h4⟩, bFr.refl _ _⟩
  | false =>
    have hc2 : amCmpP (bNeg c) x y = true := by rw [bNeg_s, hc]; rfl
    obtain ⟨S1, e1, g1⟩ := bCond_s h3 hu hv hc2
    rw [e1]
    refine ⟨(e, ls, st, S1), ?_, ρ, List.prefix_refl _, rfl, ⟨h1, h2, g1, h4⟩, bFr.refl _ _⟩
    cases bCond c S u v with
    | some S2 => exact List.mem_cons_of_mem _ List.mem_cons_self
    | none => exact List.mem_cons_self
noncomputable def bIfA (c : Jvm.ClassFile.Cond) (t e : Nat) : bA := fun ls st S => match st with
  | v :: r => (match bIsI v with
    | true => some (bBr c t e v (.inl 2147483648) ls r S)
    | false => none)
  | [] => none
noncomputable def bCmpA (c : Jvm.ClassFile.Cond) (t e : Nat) : bA := fun ls st S => match st with
  | y :: x :: r => (match bIsI y with
    | true => (match bIsI x with
      | true => some (bBr c t e x y ls r S)
      | false => none)
    | false => none)
  | _ => none
theorem bIfA_ok {c : Jvm.ClassFile.Cond} {t e0 : Nat} : bOk n T W (bIfA c t e0) (fun ls st hp => (amIf (amIfP c) t e0 st).map (fun q => (q.1, ls, q.2, hp))) := by
  intro ls st S L ρ cl cs hp e hr
  unfold bIfA at e
  split at e
  · next v r =>
    obtain ⟨w, ws, rfl, hv, hs⟩ := bRs_cons hr.2.1
    split at e
    · next e1 =>
      cases e
      obtain ⟨x, rfl⟩ := bIsI_s e1 hv
      refine ⟨_, rfl, ?_⟩
      dsimp only
      rw [amIfP_cmp]
      exact bBr_s hv ⟨0, rfl, by decide⟩ hr.1 hs hr.2.2.1 hr.2.2.2
    · cases e
  · cases e
theorem bCmpA_ok {c : Jvm.ClassFile.Cond} {t e0 : Nat} : bOk n T W (bCmpA c t e0) (fun ls st hp => (amCmp (amCmpP c) t e0 st).map (fun q => (q.1, ls, q.2, hp))) := by
  intro ls st S L ρ cl cs hp e hr
  unfold bCmpA at e
  split at e
  · next v u r =>
    obtain ⟨w, ws, rfl, hv, hs⟩ := bRs_cons hr.2.1
    obtain ⟨w2, ws, rfl, hu, hs2⟩ := bRs_cons hs
    split at e
    · next e1 =>
      split at e
      · next e2 =>
        cases e
        obtain ⟨x, rfl⟩ := bIsI_s e1 hv
        obtain ⟨y, rfl⟩ := bIsI_s e2 hu
        exact ⟨_, rfl, bBr_s hu hv hr.1 hs2 hr.2.2.1 hr.2.2.2⟩
      · cases e
    · cases e
  · cases e
noncomputable def bNulA (t e : Nat) : bA := fun ls st S => match st with
  | .inr (.inr (.inr _)) :: r => some [(e, ls, r, S)]
  | _ => none
theorem bNulA_ok {t e0 : Nat} {cf : amL → List Value → amH → Option amR} (h1 : ∀ ls o r hp, cf ls (.ref o :: r) hp = some (e0, ls, r, hp)) : bOk n T W (bNulA t e0) cf := by
  intro ls st S L ρ cl cs hp e hr
  unfold bNulA at e
  split at e
  · next l r =>
    obtain ⟨w, ws, rfl, hv, hs⟩ := bRs_cons hr.2.1
    obtain ⟨i, rfl, -⟩ := hv
    cases e
    exact ⟨_, h1 _ _ _ _, bOne rfl (List.prefix_refl _) hr.1 hs hr.2.2.1 hr.2.2.2 (bFr.refl _ _)⟩
  · cases e
/-- the ways of a table -/
noncomputable def bTabs (pc lo : Nat) (v : bV) (ls : bL) (st : List bV) (S : bS) : List Int → List bCf → List bCf
  | [], r => r
  | o :: os, r => bOpt (bCond .eq S v (.inl lo)) ((pc : Int) + o).toNat ls st (bTabs pc (Nat.add lo 1) v ls st S os r)
theorem bTabs_in {pc : Nat} {v : bV} {ls : bL} {st : List bV} {S : bS} {r : List bCf} : ∀ {os : List Int} {lo : Nat} {g : bCf}, g ∈ r → g ∈ bTabs pc lo v ls st S os r
  | [], _, _, h => h
  | o :: os, lo, g, h => by
    unfold bTabs bOpt
    split
    · exact List.mem_cons_of_mem _ (bTabs_in h)
    · exact bTabs_in h
theorem bTabs_s {ρ : List Nat} {pc : Nat} {v : bV} {x : Int32} {ls : bL} {st : List bV} {S : bS} {hp : amH} {r : List bCf} (hv : bR n ρ v (.int x)) (hS : bRS n ρ S hp) : ∀ {os : List Int} {lo k : Nat} {o : Int}, os[k]? = some o → aOff x = lo + k → ∃ S', (((pc : Int) + o).toNat, ls, st, S') ∈ bTabs pc lo v ls st S os r ∧ bRS n ρ S' hp
  | o' :: os, lo, 0, o, h, hx => by
    cases h
    have hc : amCmpP .eq x (aInt lo) = true := by
      simp only [amCmpP, decide_eq_true_eq]
      have := bOff_le x
      have h1 := aInt_toInt (n := lo) (by omega)
      have h2 := aOff_eq x
      exact Int32.toInt_inj.mp (by omega)
    have h0 : aOff (aInt lo) = lo := by
      have := bOff_le x
      have h1 := aInt_toInt (n := lo) (by omega)
      have h2 := aOff_eq (aInt lo)
      omega
    obtain ⟨S1, e1, g1⟩ := bCond_s (v := .inl lo) hS hv ⟨aInt lo, rfl, h0⟩ hc
    unfold bTabs
    rw [e1]
    exact ⟨S1, List.mem_cons_self, g1⟩
  | o' :: os, lo, k + 1, o, h, hx => by
    obtain ⟨S1, e1, g1⟩ := bTabs_s (r := r) hv hS (os := os) (lo := Nat.add lo 1) (k := k) (o := o) (by simpa using h) (by show _ = lo + 1 + k; omega)
    refine ⟨S1, ?_, g1⟩
    unfold bTabs bOpt
    split
    · exact List.mem_cons_of_mem _ e1
    · exact e1
noncomputable def bTabA (pc : Nat) (d lo hi : Int) (offs : Array Int) : bA := fun ls st S => match st with
  | v :: r => (match bIsI v with
    | true => if (((decide (-2147483648 ≤ lo) && decide (lo ≤ hi)) && decide (hi ≤ 2147483647)) && decide ((offs.toList.length : Int) = hi - lo + 1)) && (decide (0 ≤ (pc : Int) + d) && offs.toList.all (fun o => decide (0 ≤ (pc : Int) + o))) then some (bTabs pc (lo + 2147483648).toNat v ls r S offs.toList (bOpt (bCond .lt S v (.inl (lo + 2147483648).toNat)) ((pc : Int) + d).toNat ls r (bOpt (bCond .gt S v (.inl (hi + 2147483648).toNat)) ((pc : Int) + d).toNat ls r []))) else none
    | false => none)
  | [] => none
theorem bTabA_ok {pc : Nat} {d lo hi : Int} {offs : Array Int} : bOk n T W (bTabA pc d lo hi offs) (fun ls st hp => (amTbl pc d lo hi offs st).map (fun q => (q.1, ls, q.2, hp))) := by
  intro ls st S L ρ cl cs hp e hr
  unfold bTabA at e
  split at e
  · next v r =>
    obtain ⟨w, ws, rfl, hv, hs⟩ := bRs_cons hr.2.1
    split at e
    · next e1 =>
      split at e
      · next e2 =>
        cases e
        obtain ⟨x, rfl⟩ := bIsI_s e1 hv
        simp only [Bool.and_eq_true, decide_eq_true_eq, List.all_eq_true] at e2
        obtain ⟨⟨⟨⟨c1, c9⟩, c2⟩, c3⟩, c4, c5⟩ := e2
        have ax := aOff_eq x
        have mx := aMax x
        have mn := aMin x
        by_cases hx : x.toInt < lo ∨ hi < x.toInt
        · have hcf : (amTbl pc d lo hi offs (.int x :: ws)).map (fun q => (q.1, cl, q.2, hp)) = some (((pc : Int) + d).toNat, cl, ws, hp) := by
            simp only [amTbl, amOff, hx, if_true, c4, Option.map_some]
          have hco : ∀ z : Int, -2147483648 ≤ z → z ≤ 2147483647 → aOff (Int32.ofInt z) = (z + 2147483648).toNat ∧ (Int32.ofInt z).toInt = z := by
            intro z z1 z2
            have h1 : (Int32.ofInt z).toInt = z := by rw [Int32.toInt_ofInt]; exact aBmod z1 z2
            have h2 := aOff_eq (Int32.ofInt z)
            omega
          rcases hx with h1 | h1
          · obtain ⟨u1, u2⟩ := hco lo c1 (by omega)
            obtain ⟨S1, e3, g3⟩ := bCond_s (c := .lt) (v := .inl (lo + 2147483648).toNat) (y := Int32.ofInt lo) hr.2.2.1 hv ⟨_, rfl, u1⟩ (by simp only [amCmpP, decide_eq_true_eq]; rw [Int32.lt_iff_toInt_lt]; omega)
            exact ⟨_, hcf, _, bTabs_in (by rw [e3]; exact List.mem_cons_self), ρ, List.prefix_refl _, rfl, ⟨hr.1, hs, g3, hr.2.2.2⟩, bFr.refl _ _⟩
          · obtain ⟨u1, u2⟩ := hco hi (by omega) c2
            obtain ⟨S1, e3, g3⟩ := bCond_s (c := .gt) (v := .inl (hi + 2147483648).toNat) (y := Int32.ofInt hi) hr.2.2.1 hv ⟨_, rfl, u1⟩ (by simp only [amCmpP, decide_eq_true_eq]; rw [Int32.lt_iff_toInt_lt]; omega)
            refine ⟨_, hcf, (((pc : Int) + d).toNat, ls, r, S1), bTabs_in ?_, ρ, List.prefix_refl _, rfl, ⟨hr.1, hs, g3, hr.2.2.2⟩, bFr.refl _ _⟩
            unfold bOpt
            rw [e3]
            split
            · exact List.mem_cons_of_mem _ List.mem_cons_self
            · exact List.mem_cons_self
        · have hk : (x.toInt - lo).toNat < offs.toList.length := by omega
          have hg := List.getElem?_eq_getElem hk
          obtain ⟨S1, g1, g2⟩ := bTabs_s (pc := pc) (ls := ls) (st := r) (r := bOpt (bCond .lt S v (.inl (lo + 2147483648).toNat)) ((pc : Int) + d).toNat ls r (bOpt (bCond .gt S v (.inl (hi + 2147483648).toNat)) ((pc : Int) + d).toNat ls r [])) hv hr.2.2.1 (lo := (lo + 2147483648).toNat) hg (by omega)
          have h5 := c5 _ (List.getElem_mem hk)
          refine ⟨(((pc : Int) + offs.toList[(x.toInt - lo).toNat]).toNat, cl, ws, hp), ?_, _, g1, ρ, List.prefix_refl _, rfl, ⟨hr.1, hs, g2, hr.2.2.2⟩, bFr.refl _ _⟩
          have h6 : offs[(x.toInt - lo).toNat]? = some offs.toList[(x.toInt - lo).toNat] := by rw [← hg, Array.getElem?_toList]
          simp only [amTbl, amOff, hx, if_false, h6, h5, if_true, Option.map_some]
      · cases e
    · cases e
  · cases e
end BIN
end
