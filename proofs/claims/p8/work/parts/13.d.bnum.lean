/-! ===== runs over invariants: arithmetic by bounds ===== -/
abbrev bG : Type := Nat → Nat → Nat → Nat → Nat × Nat
def bGok (f : Int32 → Int32 → Int32) (g : bG) : Prop := ∀ (a b c d : Nat) (x y : Int32), aIn a b x → aIn c d y → aIn (g a b c d).1 (g a b c d).2 (f x y)
def bFull : Nat × Nat := (0, 4294967295)
theorem bFull_s (x : Int32) : aIn bFull.1 bFull.2 x := bIn_off.mpr ⟨Nat.zero_le _, bOff_le x⟩
def bOfG (g : aG) : bG := fun a b c d => match g a b c d with
  | some (.inr q) => q
  | _ => bFull
theorem bOfG_ok {f : Int32 → Int32 → Int32} {g : aG} (h : aGok f g) : bGok f (bOfG g) := by
  intro a b c d x y hx hy
  unfold bOfG
  split
  · next q e =>
    obtain ⟨z, hz, h1, h2⟩ := h a b c d _ x y e hx hy
    cases hz
    exact ⟨h1, h2⟩
  · exact bFull_s _
def bGm2 (a b c d : Nat) : Nat × Nat := match Nat.ble (Nat.mul b d) 2147483647 with
  | true => (Nat.add (Nat.mul a c) 2147483648, Nat.add (Nat.mul b d) 2147483648)
  | false => bFull
theorem bGm2_s {a b c d i j : Nat} {x y : Int32} (hi : x.toInt = (i : Int)) (hj : y.toInt = (j : Int)) (i1 : a ≤ i) (i2 : i ≤ b) (j1 : c ≤ j) (j2 : j ≤ d) : aIn (bGm2 a b c d).1 (bGm2 a b c d).2 (x * y) := by
  unfold bGm2
  split
  · next e3 =>
    have e3 := a_le e3
    have m1 : Nat.mul a c ≤ i * j := Nat.mul_le_mul i1 j1
    have m2 : i * j ≤ Nat.mul b d := Nat.mul_le_mul i2 j2
    generalize Nat.mul a c = p1 at m1 ⊢
    generalize Nat.mul b d = p2 at m2 e3 ⊢
    have hm : (x * y).toInt = ((i * j : Nat) : Int) := by
      rw [Int32.toInt_mul, hi, hj]
      have e4 : (i : Int) * (j : Int) = ((i * j : Nat) : Int) := by simp
      rw [e4]
      generalize i * j = z at m1 m2 ⊢
      exact aBmod (by omega) (by omega)
    have ez := aOff_eq (x * y)
    rw [hm] at ez
    generalize i * j = z at m1 m2 ez
    simp only [Nat.add_eq]
    exact bIn_off.mpr ⟨by omega, by omega⟩
  · exact bFull_s _
def bGmul : bG := fun a b c d => match Nat.ble 2147483648 a with
  | true => (match Nat.ble 2147483648 c with
    | true => bGm2 (Nat.sub a 2147483648) (Nat.sub b 2147483648) (Nat.sub c 2147483648) (Nat.sub d 2147483648)
    | false => bOfG (aGx (fun x y => x * y)) a b c d)
  | false => bOfG (aGx (fun x y => x * y)) a b c d
theorem bGmul_ok : bGok (fun x y => x * y) bGmul := by
  intro a b c d x y hx hy
  unfold bGmul
  split
  · next e1 =>
    split
    · next e2 =>
      have e1 := a_le e1
      have e2 := a_le e2
      have hx := bIn_off.mp hx
      have hy := bIn_off.mp hy
      have ex := aOff_eq x
      have ey := aOff_eq y
      obtain ⟨i, hi⟩ : ∃ i : Nat, x.toInt = (i : Int) := ⟨aOff x - 2147483648, by omega⟩
      obtain ⟨j, hj⟩ : ∃ j : Nat, y.toInt = (j : Int) := ⟨aOff y - 2147483648, by omega⟩
      exact bGm2_s hi hj (by simp only [Nat.sub_eq]; omega) (by simp only [Nat.sub_eq]; omega) (by simp only [Nat.sub_eq]; omega) (by simp only [Nat.sub_eq]; omega)
    · exact bOfG_ok (aGx_ok _) a b c d x y hx hy
  · exact bOfG_ok (aGx_ok _) a b c d x y hx hy
theorem bDivN {x y : Int32} {i j : Nat} (hi : x.toInt = (i : Int)) (hj : y.toInt = (j : Int)) (h0 : 0 < j) : (x / y).toInt = ((i / j : Nat) : Int) := by
  rw [Int32.toInt_div, hi, hj]
  have h1 : ((i : Int).tdiv (j : Int)) = ((i / j : Nat) : Int) := by
    rw [Int.tdiv_eq_ediv_of_nonneg (by omega)]
    simp
  rw [h1]
  have h2 := Nat.div_le_self i j
  have h3 := aMax x
  generalize i / j = q at h2 ⊢
  exact aBmod (by omega) (by omega)
def bGdiv : bG := fun a b c d => match Nat.ble 2147483648 a with
  | true => (match Nat.ble 2147483649 c with
    | true => (Nat.add (Nat.div (Nat.sub a 2147483648) (Nat.sub d 2147483648)) 2147483648, Nat.add (Nat.div (Nat.sub b 2147483648) (Nat.sub c 2147483648)) 2147483648)
    | false => bFull)
  | false => bFull
theorem bGdiv_ok : bGok (fun x y => x / y) bGdiv := by
  intro a b c d x y hx hy
  unfold bGdiv
  split
  · next e1 =>
    split
    · next e2 =>
      have e1 := a_le e1
      have e2 := a_le e2
      have hx := bIn_off.mp hx
      have hy := bIn_off.mp hy
      have ex := aOff_eq x
      have ey := aOff_eq y
      obtain ⟨i, hi⟩ : ∃ i : Nat, x.toInt = (i : Int) := ⟨aOff x - 2147483648, by omega⟩
      obtain ⟨j, hj⟩ : ∃ j : Nat, y.toInt = (j : Int) := ⟨aOff y - 2147483648, by omega⟩
      have ez := aOff_eq (x / y)
      rw [bDivN hi hj (by omega)] at ez
      have m1 : (a - 2147483648) / (d - 2147483648) ≤ i / j := Nat.div_le_div (by omega) (by omega) (by omega)
      have m2 : i / j ≤ (b - 2147483648) / (c - 2147483648) := Nat.div_le_div (by omega) (by omega) (by omega)
      simp only [show ∀ a b : Nat, Nat.div a b = a / b from fun _ _ => rfl, Nat.sub_eq, Nat.add_eq]
      generalize i / j = q at ez m1 m2
      refine bIn_off.mpr ⟨?_, ?_⟩
      · omega
      · omega
    · exact bFull_s _
  · exact bFull_s _
def bGr2 (d : Nat) : Nat × Nat := (Nat.sub 4294967297 d, Nat.sub d 1)
def bGrem : bG := fun a b c d => match Nat.ble 2147483649 c with
  | true => (match Nat.ble 2147483648 a with
    | true => (2147483648, (match Nat.ble b (Nat.sub d 1) with
      | true => b
      | false => Nat.sub d 1))
    | false => bGr2 d)
  | false => bFull
theorem bRemP {x y : Int32} {i j : Nat} (hi : x.toInt = (i : Int)) (hj : y.toInt = (j : Int)) (hj0 : 0 < j) : (x - x / y * y).toInt = ((i % j : Nat) : Int) := by
  have h1 := bDivN hi hj hj0
  have h2 := aMax x
  have h3 : i / j * j ≤ i := Nat.div_mul_le_self i j
  have h4 : (x / y * y).toInt = ((i / j * j : Nat) : Int) := by
    rw [Int32.toInt_mul, h1, hj, aBmod]
    · simp
    · generalize i / j = q at h3 ⊢
      have : (q : Int) * (j : Int) = ((q * j : Nat) : Int) := by simp
      rw [this]
      omega
    · generalize i / j = q at h3 ⊢
      have : (q : Int) * (j : Int) = ((q * j : Nat) : Int) := by simp
      rw [this]
      omega
  rw [Int32.toInt_sub, h4, hi]
  have h6 : i % j = i - i / j * j := by
    have := Nat.div_add_mod i j
    rw [Nat.mul_comm] at this
    omega
  rw [h6]
  generalize i / j * j = q at h3 ⊢
  rw [aBmod]
  · omega
  · omega
  · omega
theorem bRemM {x y : Int32} {i j : Nat} (hi : x.toInt = -(i : Int)) (hj : y.toInt = (j : Int)) (hj0 : 0 < j) : (x - x / y * y).toInt = -((i % j : Nat) : Int) := by
  have h2 := aMin x
  have h0 := aMax x
  have h3 : i / j * j ≤ i := Nat.div_mul_le_self i j
  have h7 : i / j ≤ i := Nat.div_le_self i j
  have h1 : (x / y).toInt = -((i / j : Nat) : Int) := by
    rw [Int32.toInt_div, hi, hj]
    have h1 : ((-(i : Int)).tdiv (j : Int)) = -((i / j : Nat) : Int) := by
      rw [Int.neg_tdiv, Int.tdiv_eq_ediv_of_nonneg (by omega)]
      simp
    rw [h1]
    generalize i / j = q at h7 ⊢
    exact aBmod (by omega) (by omega)
  have h4 : (x / y * y).toInt = -((i / j * j : Nat) : Int) := by
    rw [Int32.toInt_mul, h1, hj]
    generalize i / j = q at h3 ⊢
    have : -(q : Int) * (j : Int) = -((q * j : Nat) : Int) := by rw [Int.neg_mul]; simp
    rw [this]
    exact aBmod (by omega) (by omega)
  rw [Int32.toInt_sub, h4, hi]
  have h6 : i % j = i - i / j * j := by
    have := Nat.div_add_mod i j
    rw [Nat.mul_comm] at this
    omega
  rw [h6]
  generalize i / j * j = q at h3 ⊢
  rw [aBmod]
  · omega
  · omega
  · omega
theorem bGrem_ok : bGok (fun x y => x - x / y * y) bGrem := by
  intro a b c d x y hx hy
  unfold bGrem
  split
  · next e2 =>
    have e2 := a_le e2
    have hx := bIn_off.mp hx
    have hy := bIn_off.mp hy
    have ex := aOff_eq x
    have ey := aOff_eq y
    obtain ⟨j, hj⟩ : ∃ j : Nat, y.toInt = (j : Int) := ⟨aOff y - 2147483648, by omega⟩
    have hj0 : 0 < j := by omega
    have ez := aOff_eq (x - x / y * y)
    split
    · next e1 =>
      have e1 := a_le e1
      obtain ⟨i, hi⟩ : ∃ i : Nat, x.toInt = (i : Int) := ⟨aOff x - 2147483648, by omega⟩
      have h5 := bRemP hi hj hj0
      have h7 := Nat.mod_lt i hj0
      have h8 := Nat.mod_le i j
      refine bIn_off.mpr ⟨by dsimp only; omega, ?_⟩
      dsimp only
      split
      · omega
      · simp only [Nat.sub_eq]
        omega
    · unfold bGr2
      rcases Int.lt_or_le x.toInt 0 with h0 | h0
      · obtain ⟨i, hi⟩ : ∃ i : Nat, x.toInt = -(i : Int) := ⟨(-x.toInt).toNat, by omega⟩
        have h5 := bRemM hi hj hj0
        have h7 := Nat.mod_lt i hj0
        simp only [Nat.sub_eq]
        exact bIn_off.mpr ⟨by omega, by omega⟩
      · obtain ⟨i, hi⟩ : ∃ i : Nat, x.toInt = (i : Int) := ⟨x.toInt.toNat, by omega⟩
        have h5 := bRemP hi hj hj0
        have h7 := Nat.mod_lt i hj0
        simp only [Nat.sub_eq]
        exact bIn_off.mpr ⟨by omega, by omega⟩
  · exact bFull_s _
theorem bShl1 : ∀ k : Fin 31, ((1 : Int32) <<< (Int32.ofInt (k.val : Int) &&& 31)).toInt = ((2 ^ k.val : Nat) : Int) := by decide
/-- 1 shifted to the left -/
def bGs2 (a b : Nat) : Nat × Nat := (Nat.add (Nat.pow 2 a) 2147483648, Nat.add (Nat.pow 2 b) 2147483648)
theorem bGs2_s {u v j : Nat} {z : Int32} (h1 : u ≤ j) (h2 : j ≤ v) (h : (aOff z : Int) = ((2 ^ j : Nat) : Int) + 2147483648) : aIn (bGs2 u v).1 (bGs2 u v).2 z := by
  have m1 : Nat.pow 2 u ≤ 2 ^ j := Nat.pow_le_pow_right (by omega) h1
  have m2 : 2 ^ j ≤ Nat.pow 2 v := Nat.pow_le_pow_right (by omega) h2
  unfold bGs2
  generalize Nat.pow 2 u = p at m1 ⊢
  generalize Nat.pow 2 v = q at m2 ⊢
  generalize 2 ^ j = r at m1 m2 h
  simp only [Nat.add_eq]
  exact bIn_off.mpr ⟨by omega, by omega⟩
def bGshl : bG := fun a b c d => match Nat.beq a 2147483649 && Nat.beq b 2147483649 with
  | true => (match Nat.ble 2147483648 c && Nat.ble d 2147483678 with
    | true => bGs2 (Nat.sub c 2147483648) (Nat.sub d 2147483648)
    | false => bFull)
  | false => bOfG (aGx (fun x y => x <<< (y &&& 31))) a b c d
theorem bGshl_ok : bGok (fun x y => x <<< (y &&& 31)) bGshl := by
  intro a b c d x y hx hy
  unfold bGshl
  split
  · next e1 =>
    split
    · next e2 =>
      rw [Bool.and_eq_true] at e1 e2
      have e3 := Nat.eq_of_beq_eq_true e1.1
      have e4 := Nat.eq_of_beq_eq_true e1.2
      have e5 := a_le e2.1
      have e6 := a_le e2.2
      have hx := bIn_off.mp hx
      have hy := bIn_off.mp hy
      have ex := aOff_eq x
      have ey := aOff_eq y
      have x1 : x = 1 := Int32.toInt_inj.mp (by
        have : (1 : Int32).toInt = 1 := by decide
        omega)
      obtain ⟨j, hj⟩ : ∃ j : Nat, y.toInt = (j : Int) := ⟨aOff y - 2147483648, by omega⟩
      have hj31 : j < 31 := by omega
      have hy2 : y = Int32.ofInt (j : Int) := by rw [← hj, Int32.ofInt_toInt]
      have key := bShl1 ⟨j, hj31⟩
      dsimp only at key
      rw [← hy2] at key
      subst x1
      have ez := aOff_eq ((1 : Int32) <<< (y &&& 31))
      rw [key] at ez
      exact bGs2_s (j := j) (by simp only [Nat.sub_eq]; omega) (by simp only [Nat.sub_eq]; omega) ez
    · exact bFull_s _
  · exact bOfG_ok (aGx_ok _) a b c d x y hx hy
/-! what is added is kept by number -/
def bAddC (E : bE) (v : bV) (k : Nat) : Option (bV × bE) := match v with
  | .inl m => some (bNew E (bOfG aGadd m m k k))
  | .inr (.inl q) => (match bIv E v with
    | some r => (match Nat.ble 2147483648 (Nat.add r.1 k) with
      | true => (match Nat.ble (Nat.add r.2 k) 6442450943 with
        | true => (match Nat.ble 2147483648 (Nat.add q.2 k) with
          | true => some (.inr (.inl (q.1, Nat.sub (Nat.add q.2 k) 2147483648)), E)
          | false => some (bNew E bFull))
        | false => some (bNew E bFull))
      | false => some (bNew E bFull))
    | none => none)
  | _ => none
theorem bAddC_s {n : Nat} {ρ : List Nat} {E E' : bE} (hE : bRE ρ E) {v u : bV} {k : Nat} {x y : Int32} (h : bAddC E v k = some (u, E')) (hv : bR n ρ v (.int x)) (hy : aOff y = k) : ∃ ρ', ρ <+: ρ' ∧ bRE ρ' E' ∧ bR n ρ' u (.int (x + y)) := by
  match v, h, hv with
  | .inl m, h, hv =>
    simp only [bAddC, Option.some.injEq] at h
    obtain ⟨z, ez, hz⟩ := hv
    cases ez
    have := bOfG_ok aGadd_ok m m k k x y (bIn_off.mpr ⟨by omega, by omega⟩) (bIn_off.mpr ⟨by omega, by omega⟩)
    obtain ⟨ρ', h1, h2, h3⟩ := bNew_s (n := n) hE this
    rw [h] at h2 h3
    exact ⟨ρ', h1, h2, h3⟩
  | .inr (.inl q), h, hv =>
    simp only [bAddC] at h
    split at h
    · next r e =>
      obtain ⟨z, ez, hz⟩ := bIv_s hE e hv
      cases ez
      have hz := bIn_off.mp hz
      have hfull : some (bNew E bFull) = some (u, E') → ∃ ρ', ρ <+: ρ' ∧ bRE ρ' E' ∧ bR n ρ' u (.int (x + y)) := by
        intro z
        have z := Option.some.inj z
        obtain ⟨ρ', h1, h2, h3⟩ := bNew_s (n := n) hE (bFull_s (x + y))
        rw [z] at h2 h3
        exact ⟨ρ', h1, h2, h3⟩
      split at h
      · next e1 =>
        split at h
        · next e2 =>
          split at h
          · next e3 =>
            have e1 := a_le e1
            have e2 := a_le e2
            have e3 := a_le e3
            simp only [Nat.add_eq] at e1 e2 e3
            have h := Option.some.inj h
            have hu := congrArg Prod.fst h
            have hE' := congrArg Prod.snd h
            dsimp only at hu hE'
            subst hu
            subst hE'
            obtain ⟨x', s, ex, g1, g2⟩ := hv
            cases ex
            refine ⟨ρ, List.prefix_refl _, hE, x + y, s, rfl, g1, ?_⟩
            have ax := aOff_eq x
            have ay := aOff_eq y
            have az := aOff_eq (x + y)
            have e4 : (x + y).toInt = x.toInt + y.toInt := by rw [Int32.toInt_add, aBmod (by omega) (by omega)]
            simp only [Nat.add_eq, Nat.sub_eq]
            omega
          · exact hfull h
        · exact hfull h
      · exact hfull h
    · cases h
def bSubC (E : bE) (v : bV) (k : Nat) : Option (bV × bE) := match v with
  | .inl m => some (bNew E (bOfG aGsub m m k k))
  | .inr (.inl q) => (match bIv E v with
    | some r => (match Nat.ble k (Nat.add r.1 2147483648) with
      | true => (match Nat.ble r.2 (Nat.add k 2147483647) with
        | true => (match Nat.ble k (Nat.add q.2 2147483648) with
          | true => some (.inr (.inl (q.1, Nat.sub (Nat.add q.2 2147483648) k)), E)
          | false => some (bNew E bFull))
        | false => some (bNew E bFull))
      | false => some (bNew E bFull))
    | none => none)
  | _ => none
theorem bSubC_s {n : Nat} {ρ : List Nat} {E E' : bE} (hE : bRE ρ E) {v u : bV} {k : Nat} {x y : Int32} (h : bSubC E v k = some (u, E')) (hv : bR n ρ v (.int x)) (hy : aOff y = k) : ∃ ρ', ρ <+: ρ' ∧ bRE ρ' E' ∧ bR n ρ' u (.int (x - y)) := by
  match v, h, hv with
  | .inl m, h, hv =>
    simp only [bSubC, Option.some.injEq] at h
    obtain ⟨z, ez, hz⟩ := hv
    cases ez
    have := bOfG_ok aGsub_ok m m k k x y (bIn_off.mpr ⟨by omega, by omega⟩) (bIn_off.mpr ⟨by omega, by omega⟩)
    obtain ⟨ρ', h1, h2, h3⟩ := bNew_s (n := n) hE this
    rw [h] at h2 h3
    exact ⟨ρ', h1, h2, h3⟩
  | .inr (.inl q), h, hv =>
    simp only [bSubC] at h
    split at h
    · next r e =>
      obtain ⟨z, ez, hz⟩ := bIv_s hE e hv
      cases ez
      have hz := bIn_off.mp hz
      have hfull : some (bNew E bFull) = some (u, E') → ∃ ρ', ρ <+: ρ' ∧ bRE ρ' E' ∧ bR n ρ' u (.int (x - y)) := by
        intro z
        have z := Option.some.inj z
        obtain ⟨ρ', h1, h2, h3⟩ := bNew_s (n := n) hE (bFull_s (x - y))
        rw [z] at h2 h3
        exact ⟨ρ', h1, h2, h3⟩
      split at h
      · next e1 =>
        split at h
        · next e2 =>
          split at h
          · next e3 =>
            have e1 := a_le e1
            have e2 := a_le e2
            have e3 := a_le e3
            simp only [Nat.add_eq] at e1 e2 e3
            have h := Option.some.inj h
            have hu := congrArg Prod.fst h
            have hE' := congrArg Prod.snd h
            dsimp only at hu hE'
            subst hu
            subst hE'
            obtain ⟨x', s, ex, g1, g2⟩ := hv
            cases ex
            refine ⟨ρ, List.prefix_refl _, hE, x - y, s, rfl, g1, ?_⟩
            have ax := aOff_eq x
            have ay := aOff_eq y
            have az := aOff_eq (x - y)
            have e4 : (x - y).toInt = x.toInt - y.toInt := by rw [Int32.toInt_sub, aBmod (by omega) (by omega)]
            simp only [Nat.add_eq, Nat.sub_eq]
            omega
          · exact hfull h
        · exact hfull h
      · exact hfull h
    · cases h
def bLook (M : bMm) (u v : bV) : Option bV := match M with
  | [] => none
  | m :: r => (match bVq m.1 u with
    | true => (match bVq m.2.1 v with
      | true => some m.2.2
      | false => bLook r u v)
    | false => bLook r u v)
theorem bLook_s : ∀ {M : bMm} {u v w : bV}, bLook M u v = some w → (u, v, w) ∈ M
  | m :: r, u, v, w, h => by
    unfold bLook at h
    split at h
    · next e1 =>
      split at h
      · next e2 =>
        cases h
        rw [← bVq_s e1, ← bVq_s e2]
        exact List.mem_cons_self
      · exact List.mem_cons_of_mem _ (bLook_s h)
    · exact List.mem_cons_of_mem _ (bLook_s h)
/-- the sum -/
def bAdd (S : bS) (x y : bV) : Option (bV × bS) := match y with
  | .inl k => (match bAddC S.1 x k with
    | some r => some (r.1, r.2, S.2)
    | none => none)
  | _ => (match x with
    | .inl k => (match bAddC S.1 y k with
      | some r => some (r.1, r.2, S.2)
      | none => none)
    | _ => (match bLook S.2.2.2 x y with
      | some v => some (v, S)
      | none => (match bIv S.1 x with
        | some p => (match bIv S.1 y with
          | some q => (match bNew S.1 (bOfG aGadd p.1 p.2 q.1 q.2) with
            | (v, E') => some (v, E', S.2.1, S.2.2.1, (x, y, v) :: S.2.2.2))
          | none => none)
        | none => none)))
theorem bAddC_i {E : bE} {v : bV} {k : Nat} {r : bV × bE} (h : bAddC E v k = some r) : bIsI v = true := by
  unfold bAddC at h
  split at h
  · rfl
  · rfl
  · cases h
theorem bSubC_i {E : bE} {v : bV} {k : Nat} {r : bV × bE} (h : bSubC E v k = some r) : bIsI v = true := by
  unfold bSubC at h
  split at h
  · rfl
  · rfl
  · cases h
theorem bAdd_s {n : Nat} {ρ : List Nat} {S S' : bS} {hp : amH} (hS : bRS n ρ S hp) {u v r : bV} {a b : Value} (h : bAdd S u v = some (r, S')) (hu : bR n ρ u a) (hv : bR n ρ v b) : ∃ x y ρ', a = .int x ∧ b = .int y ∧ ρ <+: ρ' ∧ bRS n ρ' S' hp ∧ bR n ρ' r (.int (x + y)) := by
  unfold bAdd at h
  split at h
  · next k =>
    split at h
    · next z e =>
      obtain ⟨x, rfl⟩ := bIsI_s (bAddC_i e) hu
      obtain ⟨y, rfl, hy⟩ := hv
      obtain ⟨ρ', h1, h2, h3⟩ := bAddC_s (u := z.1) (E' := z.2) hS.1 e hu hy
      have h := Option.some.inj h
      obtain ⟨rfl, rfl⟩ := Prod.mk.inj h
      exact ⟨x, y, ρ', rfl, rfl, h1, bRS_ext h1 hS h2, h3⟩
    · cases h
  · split at h
    · next k =>
      split at h
      · next z e =>
        obtain ⟨y, rfl⟩ := bIsI_s (bAddC_i e) hv
        obtain ⟨x, rfl, hx⟩ := hu
        obtain ⟨ρ', h1, h2, h3⟩ := bAddC_s (u := z.1) (E' := z.2) hS.1 e hv hx
        have h := Option.some.inj h
        obtain ⟨rfl, rfl⟩ := Prod.mk.inj h
        refine ⟨x, y, ρ', rfl, rfl, h1, bRS_ext h1 hS h2, ?_⟩
        rw [Int32.add_comm]
        exact h3
      · cases h
    · split at h
      · next w e =>
        have h := Option.some.inj h
        obtain ⟨rfl, rfl⟩ := Prod.mk.inj h
        obtain ⟨x, y, h1, h2, h3⟩ := hS.2.2.2 _ (bLook_s e)
        have hi : ∀ {w : bV} {x : Int32}, bR n ρ w (.int x) → bIsI w = true := by
          intro w x hw
          match w, hw with
          | .inl k, _ => rfl
          | .inr (.inl q), _ => rfl
          | .inr (.inr (.inl t)), h =>
            rcases h with ⟨-, x, h⟩ | ⟨-, x, h, -⟩ | ⟨-, x, h, -⟩ | ⟨-, h⟩ | ⟨-, h⟩ <;> cases h
          | .inr (.inr (.inr l)), ⟨_, h, _⟩ => cases h
        obtain ⟨x', rfl⟩ := bIsI_s (hi h1) hu
        obtain ⟨y', rfl⟩ := bIsI_s (hi h2) hv
        rw [bR_uniq hu h1, bR_uniq hv h2]
        exact ⟨x, y, ρ, rfl, rfl, List.prefix_refl _, hS, h3⟩
      · split at h
        · next p e1 =>
          split at h
          · next q e2 =>
            obtain ⟨x, rfl, hx⟩ := bIv_s hS.1 e1 hu
            obtain ⟨y, rfl, hy⟩ := bIv_s hS.1 e2 hv
            obtain ⟨ρ', h1, h2, h3⟩ := bNew_s (n := n) hS.1 (bOfG_ok aGadd_ok _ _ _ _ x y hx hy)
            split at h
            next w E' e =>
            rw [e] at h2 h3
            have h := Option.some.inj h
            obtain ⟨rfl, rfl⟩ := Prod.mk.inj h
            have h4 := bRS_ext h1 hS h2
            refine ⟨x, y, ρ', rfl, rfl, h1, ⟨h4.1, h4.2.1, h4.2.2.1, fun m hm => ?_⟩, h3⟩
            cases hm with
            | head => exact ⟨x, y, bR_mono h1 hu, bR_mono h1 hv, h3⟩
            | tail _ hm => exact h4.2.2.2 m hm
          · cases h
        · cases h
def bSub (S : bS) (x y : bV) : Option (bV × bS) := match y with
  | .inl k => (match bSubC S.1 x k with
    | some r => some (r.1, r.2, S.2)
    | none => none)
  | _ => (match bIv S.1 x with
    | some p => (match bIv S.1 y with
      | some q => (match bNew S.1 (bOfG aGsub p.1 p.2 q.1 q.2) with
        | (v, E') => some (v, E', S.2))
      | none => none)
    | none => none)
theorem bSub_s {n : Nat} {ρ : List Nat} {S S' : bS} {hp : amH} (hS : bRS n ρ S hp) {u v r : bV} {a b : Value} (h : bSub S u v = some (r, S')) (hu : bR n ρ u a) (hv : bR n ρ v b) : ∃ x y ρ', a = .int x ∧ b = .int y ∧ ρ <+: ρ' ∧ bRS n ρ' S' hp ∧ bR n ρ' r (.int (x - y)) := by
  unfold bSub at h
  split at h
  · next k =>
    split at h
    · next z e =>
      obtain ⟨x, rfl⟩ := bIsI_s (bSubC_i e) hu
      obtain ⟨y, rfl, hy⟩ := hv
      obtain ⟨ρ', h1, h2, h3⟩ := bSubC_s (u := z.1) (E' := z.2) hS.1 e hu hy
      have h := Option.some.inj h
      obtain ⟨rfl, rfl⟩ := Prod.mk.inj h
      exact ⟨x, y, ρ', rfl, rfl, h1, bRS_ext h1 hS h2, h3⟩
    · cases h
  · split at h
    · next p e1 =>
      split at h
      · next q e2 =>
        obtain ⟨x, rfl, hx⟩ := bIv_s hS.1 e1 hu
        obtain ⟨y, rfl, hy⟩ := bIv_s hS.1 e2 hv
        obtain ⟨ρ', h1, h2, h3⟩ := bNew_s (n := n) hS.1 (bOfG_ok aGsub_ok _ _ _ _ x y hx hy)
        split at h
        next w E' e =>
        rw [e] at h2 h3
        have h := Option.some.inj h
        obtain ⟨rfl, rfl⟩ := Prod.mk.inj h
        exact ⟨x, y, ρ', rfl, rfl, h1, bRS_ext h1 hS h2, h3⟩
      · cases h
    · cases h
/-- a sum or another number of two -/
def bBin (g : bG) (S : bS) (x y : bV) : Option (bV × bS) := match bIv S.1 x with
  | some p => (match bIv S.1 y with
    | some q => (match bNew S.1 (g p.1 p.2 q.1 q.2) with
      | (v, E') => some (v, E', S.2))
    | none => none)
  | none => none
theorem bBin_s {f : Int32 → Int32 → Int32} {g : bG} (hg : bGok f g) {n : Nat} {ρ : List Nat} {S S' : bS} {hp : amH} (hS : bRS n ρ S hp) {u v r : bV} {a b : Value} (h : bBin g S u v = some (r, S')) (hu : bR n ρ u a) (hv : bR n ρ v b) : ∃ x y ρ', a = .int x ∧ b = .int y ∧ ρ <+: ρ' ∧ bRS n ρ' S' hp ∧ bR n ρ' r (.int (f x y)) := by
  unfold bBin at h
  split at h
  · next p e1 =>
    split at h
    · next q e2 =>
      obtain ⟨x, rfl, hx⟩ := bIv_s hS.1 e1 hu
      obtain ⟨y, rfl, hy⟩ := bIv_s hS.1 e2 hv
      obtain ⟨ρ', h1, h2, h3⟩ := bNew_s (n := n) hS.1 (hg _ _ _ _ x y hx hy)
      split at h
      next w E' e =>
      rw [e] at h2 h3
      have h := Option.some.inj h
      obtain ⟨rfl, rfl⟩ := Prod.mk.inj h
      exact ⟨x, y, ρ', rfl, rfl, h1, bRS_ext h1 hS h2, h3⟩
    · cases h
  · cases h
/-! ===== bits of two small numbers ===== -/
def aG15 : aG := fun a b c d => match (Nat.ble 2147483648 a && Nat.ble b 2147516415) && (Nat.ble 2147483648 c && Nat.ble d 2147516415) with
  | true => some (.inr (2147483648, 2147516415))
  | false => none
theorem a15_nat {a b : Nat} {x : Int32} (h : aIn a b x) (h1 : 2147483648 ≤ a) (h2 : b ≤ 2147516415) : x.toBitVec.toNat < 2 ^ 15 := by
  obtain ⟨g1, g2⟩ := h
  have e : x.toInt = x.toBitVec.toInt := rfl
  rw [BitVec.toInt_eq_toNat_cond] at e
  have := x.toBitVec.isLt
  split at e <;> omega
theorem a15_of {z : Int32} (h : z.toBitVec.toNat < 2 ^ 15) : aIn 2147483648 2147516415 z := by
  have e : z.toInt = z.toBitVec.toInt := rfl
  rw [BitVec.toInt_eq_toNat_cond] at e
  unfold aIn
  split at e <;> omega
theorem aG15_s {f : Int32 → Int32 → Int32} (hf : ∀ x y : Int32, x.toBitVec.toNat < 2 ^ 15 → y.toBitVec.toNat < 2 ^ 15 → (f x y).toBitVec.toNat < 2 ^ 15) : aGok f aG15 := by
  intro a b c d v x y h hx hy
  unfold aG15 at h
  split at h
  · next e =>
    cases h
    simp only [Bool.and_eq_true] at e
    obtain ⟨⟨e1, e2⟩, e3, e4⟩ := e
    have z := a15_of (hf x y (a15_nat hx (Nat.le_of_ble_eq_true e1) (Nat.le_of_ble_eq_true e2)) (a15_nat hy (Nat.le_of_ble_eq_true e3) (Nat.le_of_ble_eq_true e4)))
    exact ⟨f x y, rfl, z.1, z.2⟩
  · cases h
theorem aG15_xor : aGok (fun x y => x ^^^ y) aG15 := aG15_s (fun x y h1 h2 => by
  rw [Int32.toBitVec_xor, BitVec.toNat_xor]
  exact Nat.xor_lt_two_pow h1 h2)
theorem aG15_or : aGok (fun x y => x ||| y) aG15 := aG15_s (fun x y h1 h2 => by
  rw [Int32.toBitVec_or, BitVec.toNat_or]
  exact Nat.or_lt_two_pow h1 h2)
