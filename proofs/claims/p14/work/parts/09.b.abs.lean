/-! ##### 09.b.abs ##### -/
section
/-! ===== the abstract runs: one instruction ===== -/
abbrev aK : Type := (Nat → aL → List aV → aH → Bool) → aL → List aV → aH → Bool
noncomputable def aKok (act : aK) (cf : amL → List Value → amH → Option amR) : Prop :=
  ∀ (k : Nat → aL → List aV → aH → Bool) (ls : aL) (st : List aV) (hp : aH) (cl : amL) (cs : List Value) (ch : amH), act k ls st hp = true → aRl ls cl → aRs st cs → aRh hp ch →
    ∃ (r : amR) (ls' : aL) (st' : List aV) (hp' : aH), cf cl cs ch = some r ∧ k r.1 ls' st' hp' = true ∧ aRl ls' r.2.1 ∧ aRs st' r.2.2.1 ∧ aRh hp' r.2.2.2
noncomputable def aKpush (pc : Nat) (v : aV) : aK := fun k ls st hp => k pc ls (v :: st) hp
theorem aKpush_ok {pc : Nat} {v : aV} {w : Value} (h : aR v w) : aKok (aKpush pc v) (fun ls st hp => some (pc, ls, w :: st, hp)) :=
  fun k ls st hp cl cs ch e hl hs hh => ⟨_, ls, v :: st, hp, rfl, e, hl, ⟨h, hs⟩, hh⟩
noncomputable def aKgo (pc : Nat) : aK := fun k ls st hp => k pc ls st hp
theorem aKgo_ok {pc : Nat} : aKok (aKgo pc) (fun ls st hp => some (pc, ls, st, hp)) :=
  fun k ls st hp cl cs ch e hl hs hh => ⟨_, ls, st, hp, rfl, e, hl, hs, hh⟩
noncomputable def aIsI : aV → Bool
  | .inr _ => true
  | .inl v => amIsI v
noncomputable def aIs (p : Value → Bool) : aV → Bool
  | .inr _ => false
  | .inl v => p v
noncomputable def aIk (p : aV → Bool) (p' : Value → Bool) : Prop := ∀ v w, aR v w → p v = true → p' w = true
theorem aIsI_ok : aIk aIsI amIsI := by
  intro v w h e
  cases v with
  | inl v => cases h; exact e
  | inr q => obtain ⟨x, rfl, -⟩ := h; rfl
theorem aIs_ok (p : Value → Bool) : aIk (aIs p) p := by
  intro v w h e
  cases v with
  | inl v => cases h; exact e
  | inr q => cases e
noncomputable def aKld (pc : Nat) (p : aV → Bool) (j : Nat) : aK := fun k ls st hp => match lGet ls j with
  | some v => (match p v with
    | true => k pc ls (v :: st) hp
    | false => false)
  | none => false
theorem aKld_ok {pc j : Nat} {p : aV → Bool} {p' : Value → Bool} (hp : aIk p p') : aKok (aKld pc p j) (fun ls st hp => (amLd p' ls j st).map (fun s => (pc, ls, s, hp))) := by
  intro k ls st h cl cs ch e hl hs hh
  unfold aKld at e
  split at e
  · next v ev =>
    split at e
    · next ep =>
      obtain ⟨w, e1, e2⟩ := hl.1 j v ev
      refine ⟨(pc, cl, w :: cs, ch), ls, v :: st, h, ?_, e, hl, ⟨e2, hs⟩, hh⟩
      dsimp only
      unfold amLd
      rw [e1]
      simp [hp v w e2 ep]
    · cases e
  · cases e
noncomputable def aKst1 (pc : Nat) (p : aV → Bool) (nL j : Nat) : aK := fun k ls st hp => match st with
  | v :: r => (match p v with
    | true => (match Nat.ble (Nat.add j 1) nL with
      | true => (match aSet1 ls j v with
        | some l1 => k pc l1 r hp
        | none => false)
      | false => false)
    | false => false)
  | [] => false
theorem aKst1_ok {pc nL j : Nat} {p : aV → Bool} {p' : Value → Bool} (hp : aIk p p') : aKok (aKst1 pc p nL j) (fun ls st hp => (amSt1 p' nL ls j st).map (fun q => (pc, q.1, q.2, hp))) := by
  intro k ls st h cl cs ch e hl hs hh
  unfold aKst1 at e
  split at e
  · next v r =>
    obtain ⟨w, ws, rfl, hv, hs1⟩ := aRs_cons hs
    split at e
    · next ep =>
      split at e
      · next e1 =>
        split at e
        · next l1 e2 =>
          refine ⟨(pc, amSet1 cl j w, ws, ch), l1, r, h, ?_, e, aSet1_s hl hv e2, hs1, hh⟩
          have : j < nL := a_lt1 e1
          simp [amSt1, hp v w hv ep, this]
        · cases e
      · cases e
    · cases e
  · cases e
noncomputable def aKst2 (pc : Nat) (p : aV → Bool) (nL j : Nat) : aK := fun k ls st hp => match st with
  | v :: r => (match p v with
    | true => (match Nat.ble (Nat.add j 2) nL with
      | true => (match aSet2 ls j v with
        | some l1 => k pc l1 r hp
        | none => false)
      | false => false)
    | false => false)
  | [] => false
theorem aKst2_ok {pc nL j : Nat} {p : aV → Bool} {p' : Value → Bool} (hp : aIk p p') : aKok (aKst2 pc p nL j) (fun ls st hp => (amSt2 p' nL ls j st).map (fun q => (pc, q.1, q.2, hp))) := by
  intro k ls st h cl cs ch e hl hs hh
  unfold aKst2 at e
  split at e
  · next v r =>
    obtain ⟨w, ws, rfl, hv, hs1⟩ := aRs_cons hs
    split at e
    · next ep =>
      split at e
      · next e1 =>
        split at e
        · next l1 e2 =>
          refine ⟨(pc, amSet2 cl j w, ws, ch), l1, r, h, ?_, e, aSet2_s hl hv e2, hs1, hh⟩
          have : j + 1 < nL := a_le e1
          simp [amSt2, hp v w hv ep, this]
        · cases e
      · cases e
    · cases e
  · cases e
noncomputable def aKinc (pc nL j c : Nat) : aK := fun k ls st hp => match lGet ls j with
  | some (.inr q) => (match Nat.ble (Nat.add j 1) nL with
    | true => (match aGadd q.1 q.2 c c with
      | some v => (match aSet1 ls j v with
        | some l1 => k pc l1 st hp
        | none => false)
      | none => false)
    | false => false)
  | _ => false
theorem aKinc_ok {pc nL j : Nat} {n : Int} : aKok (aKinc pc nL j (aOff (Int32.ofInt n))) (fun ls st hp => (amInc nL ls j n).map (fun q => (pc, q, st, hp))) := by
  intro k ls st h cl cs ch e hl hs hh
  unfold aKinc at e
  split at e
  · next q ev =>
    split at e
    · next e1 =>
      split at e
      · next v e2 =>
        split at e
        · next l1 e3 =>
          obtain ⟨w, g1, x, rfl, g2, g3⟩ := hl.1 j _ ev
          have hv := aGadd_ok _ _ _ _ _ x (Int32.ofInt n) e2 ⟨g2, g3⟩ ⟨by rw [aOff_eq]; exact Int.le_refl _, by rw [aOff_eq]; exact Int.le_refl _⟩
          refine ⟨(pc, amSet1 cl j (.int (x + Int32.ofInt n)), cs, ch), l1, st, h, ?_, e, aSet1_s hl hv e3, hs, hh⟩
          have : j < nL := a_lt1 e1
          simp [amInc, g1, this]
        · cases e
      · cases e
    · cases e
  · cases e
/-! the stack alone -/
noncomputable def aSok (g : List aV → Option (List aV)) (cg : List Value → Option (List Value)) : Prop := ∀ (st : List aV) (cs : List Value) (s : List aV), g st = some s → aRs st cs → ∃ s', cg cs = some s' ∧ aRs s s'
noncomputable def aKs (pc : Nat) (g : List aV → Option (List aV)) : aK := fun k ls st hp => match g st with
  | some s => k pc ls s hp
  | none => false
theorem aKs_ok {pc : Nat} {g : List aV → Option (List aV)} {cg : List Value → Option (List Value)} (hg : aSok g cg) : aKok (aKs pc g) (fun ls st hp => (cg st).map (fun s => (pc, ls, s, hp))) := by
  intro k ls st h cl cs ch e hl hs hh
  unfold aKs at e
  split at e
  · next s es =>
    obtain ⟨s', e1, e2⟩ := hg st cs s es hs
    exact ⟨(pc, cl, s', ch), ls, s, h, by dsimp only; rw [e1]; rfl, e, hl, e2, hh⟩
  · cases e
noncomputable def aII (g : aG) : List aV → Option (List aV)
  | .inr q :: .inr p :: r => (match g p.1 p.2 q.1 q.2 with
    | some v => some (v :: r)
    | none => none)
  | _ => none
theorem aII_ok {f : Int32 → Int32 → Int32} {g : aG} (hg : aGok f g) : aSok (aII g) (amII f) := by
  intro st cs s e hs
  unfold aII at e
  split at e
  · next q p r =>
    obtain ⟨w, ws, rfl, ⟨y, rfl, hy⟩, hs1⟩ := aRs_cons hs
    obtain ⟨w, ws, rfl, ⟨x, rfl, hx⟩, hs2⟩ := aRs_cons hs1
    split at e
    · next v ev => cases e; exact ⟨_, rfl, hg _ _ _ _ _ x y ev hx hy, hs2⟩
    · cases e
  · cases e
noncomputable def aDv (f : Int32 → Int32 → Int32) : List aV → Option (List aV)
  | .inr q :: .inr p :: r => (match Nat.beq q.1 2147483648 with
    | true => none
    | false => (match aGx f p.1 p.2 q.1 q.2 with
      | some v => some (v :: r)
      | none => none))
  | _ => none
theorem a_zero : (0 : Int32).toInt = 0 := by decide
theorem aGx_eq {f : Int32 → Int32 → Int32} {a b c d : Nat} {v : aV} (h : aGx f a b c d = some v) : c = d := by
  unfold aGx at h
  split at h
  · split at h
    · next e => exact Nat.eq_of_beq_eq_true e
    · cases h
  · cases h
theorem aDv_ok {f : Int32 → Int32 → Int32} : aSok (aDv f) (amDiv f) := by
  intro st cs s e hs
  unfold aDv at e
  split at e
  · next q p r =>
    obtain ⟨w, ws, rfl, ⟨y, rfl, hy⟩, hs1⟩ := aRs_cons hs
    obtain ⟨w, ws, rfl, ⟨x, rfl, hx⟩, hs2⟩ := aRs_cons hs1
    split at e
    · cases e
    · next hq =>
      split at e
      · next v ev =>
        cases e
        have hc := aGx_eq ev
        have hn : ¬ y = 0 := by
          intro z
          rw [z, a_zero] at hy
          have : q.1 = 2147483648 := by omega
          rw [this] at hq
          cases hq
        refine ⟨.int (f x y) :: ws, ?_, aGx_ok f _ _ _ _ _ x y ev hx hy, hs2⟩
        show (if y = 0 then none else some (Value.int (f x y) :: ws)) = _
        rw [if_neg hn]
      · cases e
  · cases e
noncomputable def aI1 (f : Int32 → Value) : List aV → Option (List aV)
  | .inr q :: r => (match Nat.beq q.1 q.2 with
    | true => some (aOfV (f (aInt q.1)) :: r)
    | false => none)
  | _ => none
theorem aI1_ok {f : Int32 → Value} : aSok (aI1 f) (amI f) := by
  intro st cs s e hs
  unfold aI1 at e
  split at e
  · next q r =>
    obtain ⟨w, ws, rfl, ⟨y, rfl, hy⟩, hs1⟩ := aRs_cons hs
    split at e
    · next e1 => cases e; exact ⟨_, rfl, by rw [← aEq_s e1 hy]; exact aOfV_s _, hs1⟩
    · cases e
  · cases e
noncomputable def aI2b : List aV → Option (List aV)
  | .inr q :: r => (match Nat.beq q.1 q.2 with
    | true => some (aOfV (.int (aInt q.1).toInt8.toInt32) :: r)
    | false => some (.inr (2147483520, 2147483775) :: r))
  | _ => none
theorem aI2b_ok : aSok aI2b (amI (fun x => .int x.toInt8.toInt32)) := by
  intro st cs s e hs
  unfold aI2b at e
  split at e
  · next q r =>
    obtain ⟨w, ws, rfl, ⟨y, rfl, hy⟩, hs1⟩ := aRs_cons hs
    split at e
    · next e1 => cases e; exact ⟨_, rfl, by rw [← aEq_s e1 hy]; exact aOfV_s _, hs1⟩
    · cases e
      refine ⟨_, rfl, ⟨_, rfl, ?_, ?_⟩, hs1⟩
      · show (2147483520 : Int) ≤ y.toInt8.toInt32.toInt + 2147483648
        rw [Int8.toInt_toInt32]
        have := Int8.le_toInt y.toInt8
        omega
      · show y.toInt8.toInt32.toInt + 2147483648 ≤ (2147483775 : Int)
        rw [Int8.toInt_toInt32]
        have := Int8.toInt_lt y.toInt8
        omega
  · cases e
noncomputable def aJ1 (f : Int64 → Value) : List aV → Option (List aV)
  | .inl (.long x) :: r => some (aOfV (f x) :: r)
  | _ => none
theorem aJ1_ok {f : Int64 → Value} : aSok (aJ1 f) (amJ f) := by
  intro st cs s e hs
  unfold aJ1 at e
  split at e
  · next x r =>
    obtain ⟨w, ws, rfl, hy, hs1⟩ := aRs_cons hs
    cases hy
    cases e
    exact ⟨_, rfl, aOfV_s _, hs1⟩
  · cases e
noncomputable def aLL (f : Int64 → Int64 → Value) : List aV → Option (List aV)
  | .inl (.long y) :: .inl (.long x) :: r => some (aOfV (f x y) :: r)
  | _ => none
theorem aLL_ok {f : Int64 → Int64 → Value} : aSok (aLL f) (amLL f) := by
  intro st cs s e hs
  unfold aLL at e
  split at e
  · next y x r =>
    obtain ⟨w, ws, rfl, hy, hs1⟩ := aRs_cons hs
    obtain ⟨w, ws, rfl, hx, hs2⟩ := aRs_cons hs1
    cases hy
    cases hx
    cases e
    exact ⟨_, rfl, aOfV_s _, hs2⟩
  · cases e
noncomputable def aLI (f : Int64 → Int32 → Int64) : List aV → Option (List aV)
  | .inr q :: .inl (.long x) :: r => (match Nat.beq q.1 q.2 with
    | true => some (.inl (.long (f x (aInt q.1))) :: r)
    | false => none)
  | _ => none
theorem aLI_ok {f : Int64 → Int32 → Int64} : aSok (aLI f) (amLI f) := by
  intro st cs s e hs
  unfold aLI at e
  split at e
  · next q x r =>
    obtain ⟨w, ws, rfl, ⟨y, rfl, hy⟩, hs1⟩ := aRs_cons hs
    obtain ⟨w, ws, rfl, hx, hs2⟩ := aRs_cons hs1
    cases hx
    split at e
    · next e1 => cases e; exact ⟨_, rfl, by rw [← aEq_s e1 hy]; rfl, hs2⟩
    · cases e
  · cases e
noncomputable def aAllN : Nat → (Nat → Bool) → Bool
  | 0, _ => true
  | n + 1, f => match f n with
    | true => aAllN n f
    | false => false
theorem aAllN_s : ∀ {n : Nat} {f : Nat → Bool} {i : Nat}, aAllN n f = true → i < n → f i = true
  | 0, _, _, _, h => absurd h (Nat.not_lt_zero _)
  | n + 1, f, i, h, hi => by
    unfold aAllN at h
    split at h
    · next e =>
      by_cases z : i = n
      · rw [z]; exact e
      · exact aAllN_s h (by omega)
    · cases h
/-- what is left over by a small known number: each answer by itself -/
noncomputable def aKrem (pc : Nat) : aK := fun k ls st hp => match aDv (fun x y => x - x / y * y) st with
  | some s => k pc ls s hp
  | none => (match st with
    | .inr q :: .inr p :: r => if q.1 = q.2 ∧ 2147483649 ≤ q.1 ∧ q.1 ≤ 2147483664 then
        (if 2147483648 ≤ p.1 then aAllN (q.1 - 2147483648) (fun z => k pc ls (.inr (2147483648 + z, 2147483648 + z) :: r) hp)
        else if p.2 ≤ 2147483648 then aAllN (q.1 - 2147483648) (fun z => k pc ls (.inr (2147483648 - z, 2147483648 - z) :: r) hp) else false) else false
    | _ => false)
theorem aKrem_ok {pc : Nat} : aKok (aKrem pc) (fun ls st hp => (amDiv (fun x y => x - x / y * y) st).map (fun s => (pc, ls, s, hp))) := by
  intro k ls st h cl cs ch e hl hs hh
  unfold aKrem at e
  split at e
  · next s es =>
    obtain ⟨s', e1, e2⟩ := aDv_ok st cs s es hs
    exact ⟨(pc, cl, s', ch), ls, s, h, by dsimp only; rw [e1]; rfl, e, hl, e2, hh⟩
  · split at e
    · next q p r hd =>
      obtain ⟨w, ws, rfl, ⟨y, rfl, y1, y2⟩, hs1⟩ := aRs_cons hs
      obtain ⟨w, ws, rfl, ⟨x, rfl, x1, x2⟩, hs2⟩ := aRs_cons hs1
      split at e
      · next eq =>
        obtain ⟨n, hn⟩ : ∃ n : Nat, q.1 = n + 2147483648 := ⟨q.1 - 2147483648, by omega⟩
        have hn1 : 1 ≤ n := by omega
        have hy : y.toInt = n := by omega
        have hy0 : ¬ y = 0 := fun z => by rw [z, a_zero] at hy; omega
        have ht : (x - x / y * y).toInt = x.toInt.tmod n := by rw [rem_toInt, hy]
        have hd : amDiv (fun x y => x - x / y * y) (.int y :: .int x :: ws) = some (.int (x - x / y * y) :: ws) := by
          show (if y = 0 then none else some (Value.int (x - x / y * y) :: ws)) = _
          rw [if_neg hy0]
        rw [hn, Nat.add_sub_cancel] at e
        split at e
        · next e2 =>
          rw [Int.tmod_eq_emod_of_nonneg (by omega)] at ht
          have b1 := Int.emod_nonneg x.toInt (show (n : Int) ≠ 0 by omega)
          have b2 := Int.emod_lt_of_pos x.toInt (show 0 < (n : Int) by omega)
          obtain ⟨z, hz⟩ := Int.eq_ofNat_of_zero_le b1
          have hk := aAllN_s e (show z < n by omega)
          refine ⟨(pc, cl, .int (x - x / y * y) :: ws, ch), ls, .inr (2147483648 + z, 2147483648 + z) :: r, h, by dsimp only; rw [hd]; rfl, hk, hl, ⟨⟨_, rfl, ?_, ?_⟩, hs2⟩, hh⟩ <;> dsimp only <;> omega
        · split at e
          · next e3 =>
            have e4 : x.toInt.tmod n = -((-x.toInt) % n) := by
              have e5 : x.toInt.tmod n = -((-x.toInt).tmod n) := by rw [Int.neg_tmod, Int.neg_neg]
              rw [e5, Int.tmod_eq_emod_of_nonneg (by omega)]
            rw [e4] at ht
            have b1 := Int.emod_nonneg (-x.toInt) (show (n : Int) ≠ 0 by omega)
            have b2 := Int.emod_lt_of_pos (-x.toInt) (show 0 < (n : Int) by omega)
            obtain ⟨z, hz⟩ := Int.eq_ofNat_of_zero_le b1
            have hk := aAllN_s e (show z < n by omega)
            refine ⟨(pc, cl, .int (x - x / y * y) :: ws, ch), ls, .inr (2147483648 - z, 2147483648 - z) :: r, h, by dsimp only; rw [hd]; rfl, hk, hl, ⟨⟨_, rfl, ?_, ?_⟩, hs2⟩, hh⟩ <;> dsimp only <;> omega
          · cases e
      · cases e
    · cases e
/-! branches -/
noncomputable def aKif (c : Jvm.ClassFile.Cond) (t e : Nat) : aK := fun k ls st hp => match st with
  | .inr p :: r => (match aCmpD c p.1 p.2 2147483648 2147483648 with
    | some true => k t ls r hp
    | some false => k e ls r hp
    | none => false)
  | _ => false
noncomputable def aKcmp (c : Jvm.ClassFile.Cond) (t e : Nat) : aK := fun k ls st hp => match st with
  | .inr q :: .inr p :: r => (match aCmpD c p.1 p.2 q.1 q.2 with
    | some true => k t ls r hp
    | some false => k e ls r hp
    | none => false)
  | _ => false
theorem amIfP_cmp (c : Jvm.ClassFile.Cond) (x : Int32) : amIfP c x = amCmpP c x 0 := by cases c <;> rfl
theorem aKif_ok {c : Jvm.ClassFile.Cond} {t e0 : Nat} : aKok (aKif c t e0) (fun ls st hp => (amIf (amIfP c) t e0 st).map (fun q => (q.1, ls, q.2, hp))) := by
  intro k ls st h cl cs ch e hl hs hh
  unfold aKif at e
  split at e
  · next p r =>
    obtain ⟨w, ws, rfl, ⟨x, rfl, hx⟩, hs1⟩ := aRs_cons hs
    have h0 : aIn 2147483648 2147483648 0 := ⟨by rw [a_zero]; decide, by rw [a_zero]; decide⟩
    split at e
    · next ec =>
      have := aCmpD_s ec hx h0
      rw [← amIfP_cmp] at this
      exact ⟨_, ls, r, h, by simp only [amIf, this]; rfl, e, hl, hs1, hh⟩
    · next ec =>
      have := aCmpD_s ec hx h0
      rw [← amIfP_cmp] at this
      exact ⟨_, ls, r, h, by simp only [amIf, this]; rfl, e, hl, hs1, hh⟩
    · cases e
  · cases e
theorem aKcmp_ok {c : Jvm.ClassFile.Cond} {t e0 : Nat} : aKok (aKcmp c t e0) (fun ls st hp => (amCmp (amCmpP c) t e0 st).map (fun q => (q.1, ls, q.2, hp))) := by
  intro k ls st h cl cs ch e hl hs hh
  unfold aKcmp at e
  split at e
  · next q p r =>
    obtain ⟨w, ws, rfl, ⟨y, rfl, hy⟩, hs1⟩ := aRs_cons hs
    obtain ⟨w, ws, rfl, ⟨x, rfl, hx⟩, hs2⟩ := aRs_cons hs1
    split at e
    · next ec =>
      have := aCmpD_s ec hx hy
      exact ⟨_, ls, r, h, by simp only [amCmp, this]; rfl, e, hl, hs2, hh⟩
    · next ec =>
      have := aCmpD_s ec hx hy
      exact ⟨_, ls, r, h, by simp only [amCmp, this]; rfl, e, hl, hs2, hh⟩
    · cases e
  · cases e
noncomputable def aKnull (t e : Nat) : aK := fun k ls st hp => match st with
  | .inl (.ref _) :: r => k e ls r hp
  | .inl .null :: r => k t ls r hp
  | _ => false
noncomputable def aTblv (q : Nat × Nat) (d lo hi : Int) (offs : Array Int) : Option Int :=
  if q.1 = q.2 then amOff ((q.1 : Int) - 2147483648) d lo hi offs
  else if (q.2 : Int) - 2147483648 < lo ∨ hi < (q.1 : Int) - 2147483648 then some d else none
noncomputable def aKtab (pc : Nat) (d lo hi : Int) (offs : Array Int) : aK := fun k ls st hp => match st with
  | .inr q :: r => (match aTblv q d lo hi offs with
    | some o => if 0 ≤ (pc : Int) + o then k ((pc : Int) + o).toNat ls r hp else false
    | none => false)
  | _ => false
theorem aKtab_ok {pc : Nat} {d lo hi : Int} {offs : Array Int} : aKok (aKtab pc d lo hi offs) (fun ls st hp => (amTbl pc d lo hi offs st).map (fun q => (q.1, ls, q.2, hp))) := by
  intro k ls st h cl cs ch e hl hs hh
  unfold aKtab at e
  split at e
  · next q r =>
    obtain ⟨w, ws, rfl, ⟨x, rfl, x1, x2⟩, hs1⟩ := aRs_cons hs
    split at e
    · next o eo =>
      split at e
      · next e1 =>
        have key : amOff x.toInt d lo hi offs = some o := by
          unfold aTblv at eo
          split at eo
          · next e2 => rw [show x.toInt = (q.1 : Int) - 2147483648 by omega]; exact eo
          · split at eo
            · next e3 => cases eo; unfold amOff; rw [if_pos (by omega)]
            · cases eo
        exact ⟨_, ls, r, h, by simp only [amTbl, key, if_pos e1]; rfl, e, hl, hs1, hh⟩
      · cases e
    · cases e
  · cases e
/-! ===== the abstract runs: cells ===== -/
theorem aKnull_ok1 {t e0 : Nat} {cf : amL → List Value → amH → Option amR} (h1 : ∀ ls o r hp, cf ls (.ref o :: r) hp = some (e0, ls, r, hp)) (h2 : ∀ ls r hp, cf ls (.null :: r) hp = some (t, ls, r, hp)) : aKok (aKnull t e0) cf := by
  intro k ls st h cl cs ch e hl hs hh
  unfold aKnull at e
  split at e
  · next o r =>
    obtain ⟨w, ws, rfl, hv, hs1⟩ := aRs_cons hs
    cases hv
    exact ⟨_, ls, r, h, h1 _ _ _ _, e, hl, hs1, hh⟩
  · next r =>
    obtain ⟨w, ws, rfl, hv, hs1⟩ := aRs_cons hs
    cases hv
    exact ⟨_, ls, r, h, h2 _ _ _, e, hl, hs1, hh⟩
  · cases e
noncomputable def aKget (pc ci j : Nat) : aK := fun k ls st hp => match st with
  | .inl (.ref o) :: r => (match aCell hp o with
    | some c => (match Nat.beq c.1 ci with
      | true => (match cGet c.2.2 j with
        | some v => k pc ls (v :: r) hp
        | none => false)
      | false => false)
    | none => false)
  | _ => false
theorem aKget_ok {pc ci j : Nat} (hci : ci < 32) : aKok (aKget pc ci j) (fun ls st hp => (amFGet ci j hp st).map (fun s => (pc, ls, s, hp))) := by
  intro k ls st h cl cs ch e hl hs hh
  unfold aKget at e
  split at e
  · next o r =>
    obtain ⟨w, ws, rfl, hv, hs1⟩ := aRs_cons hs
    cases hv
    split at e
    · next c ec =>
      split at e
      · next e1 =>
        split at e
        · next v ev =>
          obtain ⟨d, d1, d2⟩ := aCell_s hh ec
          obtain ⟨x, x1, x2⟩ := aRc_get d2 ev
          have e3 : d.1 = ci := by rw [← d2.1]; exact Nat.eq_of_beq_eq_true e1
          refine ⟨(pc, cl, x :: ws, ch), ls, v :: r, h, ?_, e, hl, ⟨x2, hs1⟩, hh⟩
          simp only [amFGet, d1, e3, hci, x1, and_self, if_true, Option.map_some]
        · cases e
      · cases e
    · cases e
  · cases e
noncomputable def aFits : FieldType → aV → Bool
  | .int, .inr _ => true
  | .boolean, .inr q => Nat.ble 2147483648 q.1 && Nat.ble q.2 2147483649
  | .long, .inl (.long _) => true
  | .object _, .inl .null => true
  | .object _, .inl (.ref _) => true
  | .array _, .inl .null => true
  | .array _, .inl (.ref _) => true
  | _, _ => false
theorem aFits_s {ty : FieldType} {v : aV} {w : Value} (h : aFits ty v = true) (hv : aR v w) : narrow ty w = w ∧ fits ty w = true := by
  unfold aFits at h
  split at h
  · obtain ⟨x, rfl, -⟩ := hv; exact ⟨rfl, rfl⟩
  · obtain ⟨x, rfl, x1, x2⟩ := hv
    simp only [Bool.and_eq_true] at h
    have h1 := a_le h.1
    have h2 := a_le h.2
    rcases (show x.toInt = 0 ∨ x.toInt = 1 by omega) with z | z
    · have : x = 0 := Int32.toInt_inj.mp (by rw [z]; rfl)
      subst this
      exact ⟨by decide, by decide⟩
    · have : x = 1 := Int32.toInt_inj.mp (by rw [z]; rfl)
      subst this
      exact ⟨by decide, by decide⟩
  · cases hv; exact ⟨rfl, rfl⟩
  · cases hv; exact ⟨rfl, rfl⟩
  · cases hv; exact ⟨rfl, rfl⟩
  · cases hv; exact ⟨rfl, rfl⟩
  · cases hv; exact ⟨rfl, rfl⟩
  · cases h
noncomputable def aKput (pc ci j : Nat) (ty : FieldType) : aK := fun k ls st hp => match st with
  | v :: .inl (.ref o) :: r => (match aFits ty v with
    | true => (match aCell hp o with
      | some c => (match Nat.beq c.1 ci with
        | true => (match cPut c.2.2 j v with
          | some z => (match aPutH hp o (c.1, c.2.1, z) with
            | some h1 => k pc ls r h1
            | none => false)
          | none => false)
        | false => false)
      | none => false)
    | false => false)
  | _ => false
theorem aKput_ok {pc ci j : Nat} {ty : FieldType} (hci : ci < 32) : aKok (aKput pc ci j ty) (fun ls st hp => (amFSet ci j ty hp st).map (fun q => (pc, ls, q.1, q.2))) := by
  intro k ls st h cl cs ch e hl hs hh
  unfold aKput at e
  split at e
  · next v o r =>
    obtain ⟨w, ws, rfl, hv, hs1⟩ := aRs_cons hs
    obtain ⟨w2, ws, rfl, hv2, hs2⟩ := aRs_cons hs1
    cases hv2
    split at e
    · next ef =>
      split at e
      · next c ec =>
        split at e
        · next e1 =>
          split at e
          · next z ez =>
            split at e
            · next h1 eh =>
              obtain ⟨d, d1, d2⟩ := aCell_s hh ec
              obtain ⟨hlt, hc⟩ := aRc_put d2 ez hv
              have e3 : d.1 = ci := by rw [← d2.1]; exact Nat.eq_of_beq_eq_true e1
              obtain ⟨f1, f2⟩ := aFits_s ef hv
              rw [e3] at hc
              refine ⟨(pc, cl, ws, ch.set o (ci, d.2.set j w)), ls, r, h1, ?_, e, hl, hs2, aPutH_s hh eh hc⟩
              simp only [amFSet, d1, e3, hci, hlt, f1, f2, and_self, if_true, Option.map_some]
            · cases e
          · cases e
        · cases e
      · cases e
    · cases e
  · cases e
noncomputable def aIdx (q : Nat × Nat) : Option Nat := match Nat.beq q.1 q.2 with
  | true => (match Nat.ble 2147483648 q.1 with
    | true => some (Nat.sub q.1 2147483648)
    | false => none)
  | false => none
theorem aIdx_s {q : Nat × Nat} {n m : Nat} {x : Int32} (h : aIdx q = some n) (hx : aIn q.1 q.2 x) : x.toNatClampNeg = n ∧ (n < m → amIn x m = true) := by
  unfold aIdx at h
  split at h
  · next e1 =>
    split at h
    · next e2 =>
      have hn : q.1 - 2147483648 = n := Option.some.inj h
      have e1 := Nat.eq_of_beq_eq_true e1
      have e2 := a_le e2
      obtain ⟨x1, x2⟩ := hx
      have e3 : x.toInt = (n : Int) := by omega
      have e4 : x.toNatClampNeg = n := by
        show x.toInt.toNat = _
        rw [e3]; rfl
      refine ⟨e4, fun hm => decide_eq_true ?_⟩
      rw [not_or, e4]
      refine ⟨fun z => ?_, fun z => ?_⟩
      · have := Int32.lt_iff_toInt_lt.mp z
        rw [a_zero] at this
        omega
      · omega
    · cases h
  · cases h
noncomputable def aRsc : Option (List aV) → Option (List Int32) → Prop
  | none, _ => True
  | some l, some m => aRs l (m.map Value.int)
  | some _, none => False
theorem aRs_at : ∀ {l : List aV} {m : List Value} {i : Nat} {v : aV}, aRs l m → lAt l i = some v → ∃ w, m[i]? = some w ∧ aR v w
  | [], [], _, _, _, h => by simp [lAt] at h
  | a :: l, b :: m, 0, v, h, e => by
    simp [lAt] at e
    subst e
    exact ⟨b, rfl, h.1⟩
  | a :: l, b :: m, i + 1, v, h, e => by
    simp only [List.getElem?_cons_succ]
    exact aRs_at h.2 e
  | [], _ :: _, _, _, h, _ => by cases h
  | _ :: _, [], _, _, h, _ => by cases h
/-- a row read (kind t, values that p holds), the script too -/
noncomputable def aKald (pc t : Nat) (p : aV → Bool) (sc : Option (List aV)) : aK := fun k ls st hp => match st with
  | .inr q :: .inl (.ref o) :: r => (match aIdx q with
    | some i => (match Nat.beq o 1999999 with
      | true => (match sc with
        | some l => (match lAt l i with
          | some v => k pc ls (v :: r) hp
          | none => false)
        | none => false)
      | false => (match aCell hp o with
        | some c => (match Nat.beq c.1 t with
          | true => (match cGet c.2.2 i with
            | some v => (match p v with
              | true => k pc ls (v :: r) hp
              | false => false)
            | none => false)
          | false => false)
        | none => false))
    | none => false)
  | _ => false
theorem amSc_none {sc : Option (List Int32)} {i : Int32} {o : Nat} {r : List Value} (h : ¬ o = amS) : amSc sc (.int i :: .ref o :: r) = none := by
  unfold amSc
  dsimp only
  split
  · rw [if_neg (fun z => h z.1)]
  · rfl
theorem a_nbeq {a b : Nat} (h : Nat.beq a b = false) : ¬ a = b := by
  intro z
  subst z
  rw [Nat.beq_refl] at h
  cases h
theorem aKald_cell {t : Nat} {p : aV → Bool} {p' : Value → Bool} (hp : aIk p p') {h : aH} {ch : amH} {q : Nat × Nat} {x : Int32} {o i : Nat} {c : aC} {v : aV} {ws : List Value} (hh : aRh h ch) (hx : aIn q.1 q.2 x) (ei : aIdx q = some i) (ec : aCell h o = some c) (et : Nat.beq c.1 t = true) (ev : cGet c.2.2 i = some v) (ep : p v = true) : ∃ w, amALd t p' ch (.int x :: .ref o :: ws) = some (w :: ws) ∧ aR v w := by
  obtain ⟨d, d1, d2⟩ := aCell_s hh ec
  obtain ⟨w, w1, w2⟩ := aRc_get d2 ev
  have e3 : d.1 = t := by rw [← d2.1]; exact Nat.eq_of_beq_eq_true et
  obtain ⟨i1, i2⟩ := aIdx_s (m := d.2.length) ei hx
  have hlt := a_lt w1
  have hg : d.2.getD x.toNatClampNeg .null = w := by rw [i1, List.getD_eq_getElem?_getD, w1]; rfl
  refine ⟨w, ?_, w2⟩
  simp only [amALd, d1, e3, i2 hlt, hg, hp v w w2 ep, and_self, if_true]
theorem aKald_okI {pc : Nat} {sc' : Option (List aV)} {sc : Option (List Int32)} (hsc : aRsc sc' sc) : aKok (aKald pc 32 aIsI sc') (fun ls st hp => match amSc sc st with
    | some s => some (pc, ls, s, hp)
    | none => (amALd 32 amIsI hp st).map (fun s => (pc, ls, s, hp))) := by
  intro k ls st h cl cs ch e hl hs hh
  unfold aKald at e
  split at e
  · next q o r =>
    obtain ⟨w, ws, rfl, ⟨x, rfl, hx⟩, hs1⟩ := aRs_cons hs
    obtain ⟨w2, ws, rfl, hv2, hs2⟩ := aRs_cons hs1
    cases hv2
    split at e
    · next i ei =>
      split at e
      · next eo =>
        have eo := Nat.eq_of_beq_eq_true eo
        subst eo
        split at e
        · next l =>
          split at e
          · next v ev =>
            cases sc with
            | none => cases hsc
            | some m =>
              obtain ⟨w, w1, w2⟩ := aRs_at hsc ev
              rw [List.getElem?_map] at w1
              obtain ⟨y, y1, rfl⟩ := Option.map_eq_some_iff.mp w1
              obtain ⟨i1, i2⟩ := aIdx_s (m := m.length) ei hx
              have hlt := a_lt y1
              have hg : m.getD x.toNatClampNeg 0 = y := by rw [i1, List.getD_eq_getElem?_getD, y1]; rfl
              have key : amSc (some m) (.int x :: .ref 1999999 :: ws) = some (.int y :: ws) := by
                simp only [amSc, i2 hlt, hg]
                exact if_pos ⟨rfl, trivial⟩
              refine ⟨(pc, cl, .int y :: ws, ch), ls, v :: r, h, ?_, e, hl, ⟨w2, hs2⟩, hh⟩
              dsimp only
              rw [key]
          · cases e
        · cases e
      · next eo =>
        split at e
        · next c ec =>
          split at e
          · next et =>
            split at e
            · next v ev =>
              split at e
              · next ep =>
                obtain ⟨w, w1, w2⟩ := aKald_cell (ws := ws) aIsI_ok hh hx ei ec et ev ep
                refine ⟨(pc, cl, w :: ws, ch), ls, v :: r, h, ?_, e, hl, ⟨w2, hs2⟩, hh⟩
                dsimp only
                rw [amSc_none (show ¬ o = amS from a_nbeq eo), w1]
                rfl
              · cases e
            · cases e
          · cases e
        · cases e
    · cases e
  · cases e
theorem aKald_ok {pc t : Nat} {p : aV → Bool} {p' : Value → Bool} (hp : aIk p p') : aKok (aKald pc t p none) (fun ls st hp => (amALd t p' hp st).map (fun s => (pc, ls, s, hp))) := by
  intro k ls st h cl cs ch e hl hs hh
  unfold aKald at e
  split at e
  · next q o r =>
    obtain ⟨w, ws, rfl, ⟨x, rfl, hx⟩, hs1⟩ := aRs_cons hs
    obtain ⟨w2, ws, rfl, hv2, hs2⟩ := aRs_cons hs1
    cases hv2
    split at e
    · next i ei =>
      split at e
      · cases e
      · next eo =>
        split at e
        · next c ec =>
          split at e
          · next et =>
            split at e
            · next v ev =>
              split at e
              · next ep =>
                obtain ⟨w, w1, w2⟩ := aKald_cell (ws := ws) hp hh hx ei ec et ev ep
                refine ⟨(pc, cl, w :: ws, ch), ls, v :: r, h, ?_, e, hl, ⟨w2, hs2⟩, hh⟩
                dsimp only
                rw [w1]
                rfl
              · cases e
            · cases e
          · cases e
        · cases e
    · cases e
  · cases e
/-- a row written: g does with the value what the row does -/
noncomputable def aKast (pc t : Nat) (p : aH → aV → Bool) (g : aV → aV) : aK := fun k ls st hp => match st with
  | v :: .inr q :: .inl (.ref o) :: r => (match p hp v with
    | true => (match aIdx q with
      | some i => (match aCell hp o with
        | some c => (match Nat.beq c.1 t with
          | true => (match cPut c.2.2 i (g v) with
            | some z => (match aPutH hp o (c.1, c.2.1, z) with
              | some h1 => k pc ls r h1
              | none => false)
            | none => false)
          | false => false)
        | none => false)
      | none => false)
    | false => false)
  | _ => false
theorem aKast_ok {pc t : Nat} {p : aH → aV → Bool} {p' : amH → Value → Bool} {g : aV → aV} {g' : Value → Value} (hp : ∀ h ch v w, aRh h ch → aR v w → p h v = true → p' ch w = true) (hg : ∀ v w, aR v w → aR (g v) (g' w)) : aKok (aKast pc t p g) (fun ls st hp => (amASt t (p' hp) g' hp st).map (fun q => (pc, ls, q.1, q.2))) := by
  intro k ls st h cl cs ch e hl hs hh
  unfold aKast at e
  split at e
  · next v q o r =>
    obtain ⟨w, ws, rfl, hv, hs1⟩ := aRs_cons hs
    obtain ⟨w1, ws, rfl, ⟨x, rfl, hx⟩, hs2⟩ := aRs_cons hs1
    obtain ⟨w2, ws, rfl, hv2, hs3⟩ := aRs_cons hs2
    cases hv2
    split at e
    · next ep =>
      split at e
      · next i ei =>
        split at e
        · next c ec =>
          split at e
          · next et =>
            split at e
            · next z ez =>
              split at e
              · next h1 eh =>
                obtain ⟨d, d1, d2⟩ := aCell_s hh ec
                obtain ⟨hlt, hc⟩ := aRc_put d2 ez (hg v w hv)
                have e3 : d.1 = t := by rw [← d2.1]; exact Nat.eq_of_beq_eq_true et
                obtain ⟨i1, i2⟩ := aIdx_s (m := d.2.length) ei hx
                rw [e3] at hc
                refine ⟨(pc, cl, ws, ch.set o (t, d.2.set i (g' w))), ls, r, h1, ?_, e, hl, hs3, aPutH_s hh eh hc⟩
                simp only [amASt, d1, e3, i2 hlt, i1, hp h ch v w hh hv ep, and_self, if_true, Option.map_some]
              · cases e
            · cases e
          · cases e
        · cases e
      · cases e
    · cases e
  · cases e
noncomputable def aNarB : aV → aV
  | .inr q => (match Nat.ble 2147483520 q.1 with
    | true => (match Nat.ble q.2 2147483775 with
      | true => .inr q
      | false => .inr (2147483520, 2147483775))
    | false => .inr (2147483520, 2147483775))
  | .inl v => .inl (amNarB v)
theorem aNarB_s {v : aV} {w : Value} (h : aR v w) : aR (aNarB v) (amNarB w) := by
  cases v with
  | inl v => cases h; exact rfl
  | inr q =>
    obtain ⟨x, rfl, x1, x2⟩ := h
    have hn : (vp_nar .byte x).toInt = x.toInt.bmod 256 := by
      show (x.toInt8.toInt32).toInt = _
      rw [Int8.toInt_toInt32, Int32.toInt_toInt8]
    have f : aR (.inr (2147483520, 2147483775)) (.int (vp_nar .byte x)) := by
      refine ⟨_, rfl, ?_, ?_⟩
      · show (2147483520 : Int) ≤ _
        have := Int.le_bmod (x := x.toInt) (m := 256) (by decide)
        rw [hn]
        omega
      · show _ ≤ (2147483775 : Int)
        have := Int.bmod_lt (x := x.toInt) (m := 256) (by decide)
        rw [hn]
        omega
    show aR (aNarB (.inr q)) (.int (vp_nar .byte x))
    unfold aNarB
    dsimp only
    split
    · next e1 =>
      split
      · next e2 =>
        have e1 := a_le e1
        have e2 := a_le e2
        have e3 : x.toInt.bmod 256 = x.toInt := by
          rw [Int.bmod_def]
          have : ((256 : Nat) : Int) = 256 := rfl
          split <;> omega
        exact ⟨_, rfl, by rw [hn, e3]; exact x1, by rw [hn, e3]; exact x2⟩
      · exact f
    · exact f
noncomputable def aIsSn (hp : aH) : aV → Bool
  | .inl (.ref o) => (match aCell hp o with
    | some c => Nat.beq c.1 6
    | none => false)
  | _ => false
theorem aIsSn_s (h : aH) (ch : amH) (v : aV) (w : Value) (hh : aRh h ch) (hv : aR v w) (e : aIsSn h v = true) : amIsSn ch w = true := by
  unfold aIsSn at e
  split at e
  · next o =>
    cases hv
    split at e
    · next c ec =>
      obtain ⟨d, d1, d2⟩ := aCell_s hh ec
      have e3 : d.1 = 6 := by rw [← d2.1]; exact Nat.eq_of_beq_eq_true e
      simp [amIsSn, d1, e3]
    · cases e
  · cases e
noncomputable def aKlen (pc : Nat) (sc : Option (List aV)) : aK := fun k ls st hp => match st with
  | .inl (.ref o) :: r => (match Nat.beq o 1999999 with
    | true => (match sc with
      | some l => (match Nat.ble l.length 100000 with
        | true => k pc ls (.inr (Nat.add l.length 2147483648, Nat.add l.length 2147483648) :: r) hp
        | false => false)
      | none => false)
    | false => (match aCell hp o with
      | some c => (match Nat.ble 32 c.1 with
        | true => (match Nat.ble c.1 35 with
          | true => (match Nat.ble c.2.1 100000 with
            | true => k pc ls (.inr (Nat.add c.2.1 2147483648, Nat.add c.2.1 2147483648) :: r) hp
            | false => false)
          | false => false)
        | false => false)
      | none => false))
  | _ => false
theorem a_ofNat {n : Nat} (h : n ≤ 100000) : aR (.inr (Nat.add n 2147483648, Nat.add n 2147483648)) (.int (Int32.ofNat n)) := by
  have e : (Int32.ofNat n).toInt = n := Int32.toInt_ofNat_of_lt (by omega)
  refine ⟨_, rfl, ?_, ?_⟩
  · show ((n + 2147483648 : Nat) : Int) ≤ _
    omega
  · show _ ≤ ((n + 2147483648 : Nat) : Int)
    omega
theorem aKlen_ok {pc : Nat} {sc' : Option (List aV)} {sc : Option (List Int32)} (hsc : aRsc sc' sc) : aKok (aKlen pc sc') (fun ls st hp => match amScLen sc st with
    | some s => some (pc, ls, s, hp)
    | none => (amLen hp st).map (fun s => (pc, ls, s, hp))) := by
  intro k ls st h cl cs ch e hl hs hh
  unfold aKlen at e
  split at e
  · next o r =>
    obtain ⟨w2, ws, rfl, hv2, hs1⟩ := aRs_cons hs
    cases hv2
    split at e
    · next eo =>
      have eo := Nat.eq_of_beq_eq_true eo
      subst eo
      split at e
      · next l =>
        split at e
        · next en =>
          cases sc with
          | none => cases hsc
          | some m =>
            have hlen : l.length = m.length := by have := aRs_len hsc; rwa [List.length_map] at this
            refine ⟨(pc, cl, .int (Int32.ofNat m.length) :: ws, ch), ls, _, h, ?_, e, hl, ⟨?_, hs1⟩, hh⟩
            · have key : amScLen (some m) (.ref 1999999 :: ws) = some (.int (Int32.ofNat m.length) :: ws) := by
                simp only [amScLen]
                exact if_pos rfl
              dsimp only
              rw [key]
            · rw [← hlen]
              exact a_ofNat (a_le en)
        · cases e
      · cases e
    · next eo =>
      split at e
      · next c ec =>
        split at e
        · next e1 =>
          split at e
          · next e2 =>
            split at e
            · next e3 =>
              obtain ⟨d, d1, d2⟩ := aCell_s hh ec
              have g1 := a_le e1
              have g2 := a_le e2
              rw [d2.1] at g1 g2
              refine ⟨(pc, cl, .int (Int32.ofNat d.2.length) :: ws, ch), ls, _, h, ?_, e, hl, ⟨?_, hs1⟩, hh⟩
              · have k1 : amScLen sc (.ref o :: ws) = none := by
                  unfold amScLen
                  dsimp only
                  split
                  · rw [if_neg (show ¬ o = amS from a_nbeq eo)]
                  · rfl
                dsimp only
                rw [k1]
                simp only [amLen, d1, g1, g2, and_self, if_true, Option.map_some]
              · rw [← d2.2.1]
                exact a_ofNat (a_le e3)
            · cases e
          · cases e
        · cases e
      · cases e
  · cases e
end
/-! ##### 09.c.abs ##### -/
section
/-! ===== the abstract runs: all instructions that go on ===== -/
noncomputable def aKdup (pc : Nat) : aK := fun k ls st hp => match st with
  | v :: r => (match Nat.beq (aCat v) 1 with
    | true => k pc ls (v :: v :: r) hp
    | false => false)
  | [] => false
theorem aKdup_ok {pc : Nat} {cf : amL → List Value → amH → Option amR} (h1 : ∀ ls v r hp, v.category = 1 → cf ls (v :: r) hp = some (pc, ls, v :: v :: r, hp)) : aKok (aKdup pc) cf := by
  intro k ls st h cl cs ch e hl hs hh
  unfold aKdup at e
  split at e
  · next v r =>
    obtain ⟨w, ws, rfl, hv, hs1⟩ := aRs_cons hs
    split at e
    · next e1 => exact ⟨_, ls, _, h, h1 _ _ _ _ (by rw [aR_cat hv]; exact Nat.eq_of_beq_eq_true e1), e, hl, ⟨hv, hv, hs1⟩, hh⟩
    · cases e
  · cases e
noncomputable def aKpop (pc : Nat) : aK := fun k ls st hp => match st with
  | v :: r => (match Nat.beq (aCat v) 1 with
    | true => k pc ls r hp
    | false => false)
  | [] => false
theorem aKpop_ok {pc : Nat} {cf : amL → List Value → amH → Option amR} (h1 : ∀ ls v r hp, v.category = 1 → cf ls (v :: r) hp = some (pc, ls, r, hp)) : aKok (aKpop pc) cf := by
  intro k ls st h cl cs ch e hl hs hh
  unfold aKpop at e
  split at e
  · next v r =>
    obtain ⟨w, ws, rfl, hv, hs1⟩ := aRs_cons hs
    split at e
    · next e1 => exact ⟨_, ls, _, h, h1 _ _ _ _ (by rw [aR_cat hv]; exact Nat.eq_of_beq_eq_true e1), e, hl, hs1, hh⟩
    · cases e
  · cases e
noncomputable def aKdup2 (pc : Nat) : aK := fun k ls st hp => match st with
  | v :: u :: r => (match Nat.beq (aCat v) 1 with
    | true => (match Nat.beq (aCat u) 1 with
      | true => k pc ls (v :: u :: v :: u :: r) hp
      | false => false)
    | false => false)
  | _ => false
theorem aKdup2_ok {pc : Nat} {cf : amL → List Value → amH → Option amR} (h1 : ∀ ls v u r hp, v.category = 1 ∧ u.category = 1 → cf ls (v :: u :: r) hp = some (pc, ls, v :: u :: v :: u :: r, hp)) : aKok (aKdup2 pc) cf := by
  intro k ls st h cl cs ch e hl hs hh
  unfold aKdup2 at e
  split at e
  · next v u r =>
    obtain ⟨w, ws, rfl, hv, hs1⟩ := aRs_cons hs
    obtain ⟨w2, ws, rfl, hu, hs2⟩ := aRs_cons hs1
    split at e
    · next e1 =>
      split at e
      · next e2 => exact ⟨_, ls, _, h, h1 _ _ _ _ _ ⟨by rw [aR_cat hv]; exact Nat.eq_of_beq_eq_true e1, by rw [aR_cat hu]; exact Nat.eq_of_beq_eq_true e2⟩, e, hl, ⟨hv, hu, hv, hu, hs2⟩, hh⟩
      · cases e
    · cases e
  · cases e
noncomputable def aKxx (g : Value → Value → Option Value) (pc : Nat) : aK := fun k ls st hp => match st with
  | .inl y :: .inl x :: r => (match g x y with
    | some v => k pc ls (aOfV v :: r) hp
    | none => false)
  | _ => false
theorem aKxx_ok {pc : Nat} {g : Value → Value → Option Value} {cf : amL → List Value → amH → Option amR} (h1 : ∀ ls x y r hp v, g x y = some v → cf ls (y :: x :: r) hp = some (pc, ls, v :: r, hp)) : aKok (aKxx g pc) cf := by
  intro k ls st h cl cs ch e hl hs hh
  unfold aKxx at e
  split at e
  · next y x r =>
    obtain ⟨w, ws, rfl, hv, hs1⟩ := aRs_cons hs
    obtain ⟨w2, ws, rfl, hu, hs2⟩ := aRs_cons hs1
    cases hv
    cases hu
    split at e
    · next v e1 => exact ⟨_, ls, _, h, h1 _ _ _ _ _ _ e1, e, hl, ⟨aOfV_s v, hs2⟩, hh⟩
    · cases e
  · cases e
noncomputable def aKx1 (g : Value → Option Value) (pc : Nat) : aK := fun k ls st hp => match st with
  | .inl y :: r => (match g y with
    | some v => k pc ls (aOfV v :: r) hp
    | none => false)
  | _ => false
theorem aKx1_ok {pc : Nat} {g : Value → Option Value} {cf : amL → List Value → amH → Option amR} (h1 : ∀ ls y r hp v, g y = some v → cf ls (y :: r) hp = some (pc, ls, v :: r, hp)) : aKok (aKx1 g pc) cf := by
  intro k ls st h cl cs ch e hl hs hh
  unfold aKx1 at e
  split at e
  · next y r =>
    obtain ⟨w, ws, rfl, hv, hs1⟩ := aRs_cons hs
    cases hv
    split at e
    · next v e1 => exact ⟨_, ls, _, h, h1 _ _ _ _ _ e1, e, hl, ⟨aOfV_s v, hs1⟩, hh⟩
    · cases e
  · cases e
noncomputable def aFdiv : Value → Value → Option Value
  | .float x, .float y => if FP.fdiv x y &&& 0x7fffffff ≤ 0x7f800000 then some (.float (FP.fdiv x y)) else none
  | _, _ => none
noncomputable def aDdiv : Value → Value → Option Value
  | .double x, .double y => if FP.ddiv x y &&& 0x7fffffffffffffff ≤ 0x7ff0000000000000 then some (.double (FP.ddiv x y)) else none
  | _, _ => none
noncomputable def aDcmp (op : CmpOp) : Value → Value → Option Value
  | .double x, .double y => some (.int (Op.cmpValue (FP.dcmp x y) op))
  | _, _ => none
noncomputable def aF2d : Value → Option Value
  | .float x => if FP.f2d x &&& 0x7fffffffffffffff ≤ 0x7ff0000000000000 then some (.double (FP.f2d x)) else none
  | _ => none
noncomputable def aTr (sc : Option (List aV)) (nL : Nat) (i : Instr) (a b pc : Nat) : Option aK :=
  match i with
  | .iconst n => some (aKpush (pc + 1) (aOf (Int32.ofInt n)))
  | .bipush n => some (aKpush (pc + 2) (aOf (Int8.ofInt n).toInt32))
  | .sipush n => some (aKpush (pc + 3) (aOf (Int16.ofInt n).toInt32))
  | .lconst n => some (aKpush (pc + 1) (.inl (.long (Int64.ofNat (n : Nat)))))
  | .fconst n => if n = 0 then some (aKpush (pc + 1) (.inl (.float FP.fconst0))) else none
  | .dconst n => if n = 0 then some (aKpush (pc + 1) (.inl (.double FP.dconst0))) else none
  | .ldc _ => if b = 0 then some (aKpush (pc + 2) (aOf (Int32.ofNat a))) else some (aKpush (pc + 2) (.inl (.ref (amK + a))))
  | .ldc_w _ => if b = 0 then some (aKpush (pc + 3) (aOf (Int32.ofNat a))) else none
  | .ldc2_w _ => some (aKpush (pc + 3) (.inl (.long (Int64.ofNat a))))
  | .iload k => some (aKld (pc + 2) aIsI k)
  | .iload_n k => some (aKld (pc + 1) aIsI k)
  | .lload k => some (aKld (pc + 2) (aIs amIsJ) k)
  | .lload_n k => some (aKld (pc + 1) (aIs amIsJ) k)
  | .dload k => some (aKld (pc + 2) (aIs amIsD) k)
  | .dload_n k => some (aKld (pc + 1) (aIs amIsD) k)
  | .aload k => some (aKld (pc + 2) (aIs amIsA) k)
  | .aload_n k => some (aKld (pc + 1) (aIs amIsA) k)
  | .istore k => some (aKst1 (pc + 2) aIsI nL k)
  | .istore_n k => some (aKst1 (pc + 1) aIsI nL k)
  | .lstore k => some (aKst2 (pc + 2) (aIs amIsJ) nL k)
  | .lstore_n k => some (aKst2 (pc + 1) (aIs amIsJ) nL k)
  | .dstore k => some (aKst2 (pc + 2) (aIs amIsD) nL k)
  | .astore k => some (aKst1 (pc + 2) (aIs amIsA) nL k)
  | .astore_n k => some (aKst1 (pc + 1) (aIs amIsA) nL k)
  | .iinc k n => some (aKinc (pc + 3) nL k (aOff (Int32.ofInt n)))
  | .dup => some (aKdup (pc + 1))
  | .dup2 => some (aKdup2 (pc + 1))
  | .pop => some (aKpop (pc + 1))
  | .iadd => some (aKs (pc + 1) (aII aGadd))
  | .isub => some (aKs (pc + 1) (aII aGsub))
  | .imul => some (aKs (pc + 1) (aII (aGx (fun x y => x * y))))
  | .iand => some (aKs (pc + 1) (aII (aGor (aGx (fun x y => x &&& y)) aGand)))
  | .ior => some (aKs (pc + 1) (aII (aGx (fun x y => x ||| y))))
  | .ixor => some (aKs (pc + 1) (aII (aGor (aGx (fun x y => x ^^^ y)) aGxor)))
  | .ishl => some (aKs (pc + 1) (aII (aGx (fun x y => x <<< (y &&& 31)))))
  | .ishr => some (aKs (pc + 1) (aII (aGor (aGx (fun x y => x >>> (y &&& 31))) aGshr)))
  | .iushr => some (aKs (pc + 1) (aII (aGx (fun x y => (x.toUInt32 >>> (y.toUInt32 &&& Int32.toUInt32 31)).toInt32))))
  | .idiv => some (aKs (pc + 1) (aDv (fun x y => x / y)))
  | .irem => some (aKrem (pc + 1))
  | .ineg => some (aKs (pc + 1) (aI1 (fun x => .int (-x))))
  | .i2b => some (aKs (pc + 1) aI2b)
  | .i2l => some (aKs (pc + 1) (aI1 (fun x => .long x.toInt64)))
  | .i2f => some (aKs (pc + 1) (aI1 (fun x => .float (FP.i2f x))))
  | .i2d => some (aKs (pc + 1) (aI1 (fun x => .double (FP.i2d x))))
  | .l2i => some (aKs (pc + 1) (aJ1 (fun x => .int x.toInt32)))
  | .lneg => some (aKs (pc + 1) (aJ1 (fun x => .long (-x))))
  | .ladd => some (aKs (pc + 1) (aLL (fun x y => .long (x + y))))
  | .lsub => some (aKs (pc + 1) (aLL (fun x y => .long (x - y))))
  | .land => some (aKs (pc + 1) (aLL (fun x y => .long (x &&& y))))
  | .lor => some (aKs (pc + 1) (aLL (fun x y => .long (x ||| y))))
  | .lcmp => some (aKs (pc + 1) (aLL (fun x y => .int (lg_cmp x y))))
  | .lshl => some (aKs (pc + 1) (aLI (fun x y => x <<< (y.toInt64 &&& 63))))
  | .lshr => some (aKs (pc + 1) (aLI (fun x y => x >>> (y.toInt64 &&& 63))))
  | .lushr => some (aKs (pc + 1) (aLI (fun x y => (x.toUInt64 >>> (y.toInt64.toUInt64 &&& Int64.toUInt64 63)).toInt64)))
  | .fdiv => some (aKxx aFdiv (pc + 1))
  | .ddiv => some (aKxx aDdiv (pc + 1))
  | .f2d => some (aKx1 aF2d (pc + 1))
  | .dcmp op => some (aKxx (aDcmp op) (pc + 1))
  | .goto _ => some (aKgo a)
  | .ifCond c _ => some (aKif c a (pc + 3))
  | .if_icmp c _ => some (aKcmp c a (pc + 3))
  | .ifnull _ => some (aKnull a (pc + 3))
  | .ifnonnull _ => some (aKnull (pc + 3) a)
  | .tableswitch d lo hi offs => some (aKtab pc d lo hi offs)
  | .getfield _ => if a < 32 then some (aKget (pc + 3) a b) else none
  | .putfield _ => if a < 32 then some (aKput (pc + 3) a b (amFty a b)) else none
  | .iaload => some (aKald (pc + 1) 32 aIsI sc)
  | .laload => some (aKald (pc + 1) 33 (aIs amIsJ) none)
  | .baload => some (aKald (pc + 1) 34 aIsI none)
  | .aaload => some (aKald (pc + 1) 35 (aIs amIsA) none)
  | .iastore => some (aKast (pc + 1) 32 (fun _ v => aIsI v) id)
  | .lastore => some (aKast (pc + 1) 33 (fun _ v => aIs amIsJ v) id)
  | .bastore => some (aKast (pc + 1) 34 (fun _ v => aIsI v) aNarB)
  | .aastore => some (aKast (pc + 1) 35 aIsSn id)
  | .arraylength => some (aKlen (pc + 1) sc)
  | _ => none
theorem aTr_ok {sc' : Option (List aV)} {sc : Option (List Int32)} (hsc : aRsc sc' sc) {nL : Nat} {i : Instr} {a b pc : Nat} {act : aK} (h : aTr sc' nL i a b pc = some act) : aKok act (amStep sc nL i a b pc) := by
  cases i
  case iconst n => cases h; exact aKpush_ok (aOf_s _)
  case bipush n => cases h; exact aKpush_ok (aOf_s _)
  case sipush n => cases h; exact aKpush_ok (aOf_s _)
  case lconst n => cases h; exact aKpush_ok rfl
  case fconst n =>
    simp only [aTr] at h
    split at h
    · next e => cases h; subst e; exact aKpush_ok rfl
    · cases h
  case dconst n =>
    simp only [aTr] at h
    split at h
    · next e => cases h; subst e; exact aKpush_ok rfl
    · cases h
  case ldc n =>
    simp only [aTr] at h
    split at h
    · next e => cases h; subst e; exact aKpush_ok (aOf_s _)
    · next e =>
      cases h
      have : amStep sc nL (.ldc n) a b pc = fun ls st hp => some (pc + 2, ls, .ref (amK + a) :: st, hp) := by
        funext ls st hp
        simp only [amStep, if_neg e]
      rw [this]
      exact aKpush_ok rfl
  case ldc_w n =>
    simp only [aTr] at h
    split at h
    · next e => cases h; subst e; exact aKpush_ok (aOf_s _)
    · cases h
  case ldc2_w n => cases h; exact aKpush_ok rfl
  case iload k => cases h; exact aKld_ok aIsI_ok
  case iload_n k => cases h; exact aKld_ok aIsI_ok
  case lload k => cases h; exact aKld_ok (aIs_ok _)
  case lload_n k => cases h; exact aKld_ok (aIs_ok _)
  case dload k => cases h; exact aKld_ok (aIs_ok _)
  case dload_n k => cases h; exact aKld_ok (aIs_ok _)
  case aload k => cases h; exact aKld_ok (aIs_ok _)
  case aload_n k => cases h; exact aKld_ok (aIs_ok _)
  case istore k => cases h; exact aKst1_ok aIsI_ok
  case istore_n k => cases h; exact aKst1_ok aIsI_ok
  case lstore k => cases h; exact aKst2_ok (aIs_ok _)
  case lstore_n k => cases h; exact aKst2_ok (aIs_ok _)
  case dstore k => cases h; exact aKst2_ok (aIs_ok _)
  case astore k => cases h; exact aKst1_ok (aIs_ok _)
  case astore_n k => cases h; exact aKst1_ok (aIs_ok _)
  case iinc k n => cases h; exact aKinc_ok
  case dup => cases h; exact aKdup_ok (fun ls v r hp e => by simp only [amStep, if_pos e])
  case dup2 => cases h; exact aKdup2_ok (fun ls v u r hp e => by simp only [amStep, if_pos e])
  case pop => cases h; exact aKpop_ok (fun ls v r hp e => by simp only [amStep, if_pos e])
  case iadd => cases h; exact aKs_ok (aII_ok aGadd_ok)
  case isub => cases h; exact aKs_ok (aII_ok aGsub_ok)
  case imul => cases h; exact aKs_ok (aII_ok (aGx_ok _))
  case iand => cases h; exact aKs_ok (aII_ok (aGor_ok (aGx_ok _) aGand_ok))
  case ior => cases h; exact aKs_ok (aII_ok (aGx_ok _))
  case ixor => cases h; exact aKs_ok (aII_ok (aGor_ok (aGx_ok _) aGxor_ok))
  case ishl => cases h; exact aKs_ok (aII_ok (aGx_ok _))
  case ishr => cases h; exact aKs_ok (aII_ok (aGor_ok (aGx_ok _) aGshr_ok))
  case iushr => cases h; exact aKs_ok (aII_ok (aGx_ok _))
  case idiv => cases h; exact aKs_ok aDv_ok
  case irem => cases h; exact aKrem_ok
  case ineg => cases h; exact aKs_ok aI1_ok
  case i2b => cases h; exact aKs_ok aI2b_ok
  case i2l => cases h; exact aKs_ok aI1_ok
  case i2f => cases h; exact aKs_ok aI1_ok
  case i2d => cases h; exact aKs_ok aI1_ok
  case l2i => cases h; exact aKs_ok aJ1_ok
  case lneg => cases h; exact aKs_ok aJ1_ok
  case ladd => cases h; exact aKs_ok aLL_ok
  case lsub => cases h; exact aKs_ok aLL_ok
  case land => cases h; exact aKs_ok aLL_ok
  case lor => cases h; exact aKs_ok aLL_ok
  case lcmp => cases h; exact aKs_ok aLL_ok
  case lshl => cases h; exact aKs_ok aLI_ok
  case lshr => cases h; exact aKs_ok aLI_ok
  case lushr => cases h; exact aKs_ok aLI_ok
  case fdiv =>
    cases h
    refine aKxx_ok (fun ls x y r hp v e => ?_)
    unfold aFdiv at e
    split at e
    · split at e
      · next e1 => cases e; simp only [amStep, if_pos e1]
      · cases e
    · cases e
  case ddiv =>
    cases h
    refine aKxx_ok (fun ls x y r hp v e => ?_)
    unfold aDdiv at e
    split at e
    · split at e
      · next e1 => cases e; simp only [amStep, if_pos e1]
      · cases e
    · cases e
  case f2d =>
    cases h
    refine aKx1_ok (fun ls y r hp v e => ?_)
    unfold aF2d at e
    split at e
    · split at e
      · next e1 => cases e; simp only [amStep, if_pos e1]
      · cases e
    · cases e
  case dcmp op =>
    cases h
    refine aKxx_ok (fun ls x y r hp v e => ?_)
    unfold aDcmp at e
    split at e
    · cases e; rfl
    · cases e
  case goto o => cases h; exact aKgo_ok
  case ifCond c o => cases h; exact aKif_ok
  case if_icmp c o => cases h; exact aKcmp_ok
  case ifnull o => cases h; exact aKnull_ok1 (fun ls o r hp => rfl) (fun ls r hp => rfl)
  case ifnonnull o => cases h; exact aKnull_ok1 (fun ls o r hp => rfl) (fun ls r hp => rfl)
  case tableswitch d lo hi offs => cases h; exact aKtab_ok
  case getfield o =>
    simp only [aTr] at h
    split at h
    · next e => cases h; exact aKget_ok e
    · cases h
  case putfield o =>
    simp only [aTr] at h
    split at h
    · next e => cases h; exact aKput_ok e
    · cases h
  case iaload => cases h; exact aKald_okI hsc
  case laload => cases h; exact aKald_ok (aIs_ok _)
  case baload => cases h; exact aKald_ok aIsI_ok
  case aaload => cases h; exact aKald_ok (aIs_ok _)
  case iastore => cases h; exact aKast_ok (p' := fun _ => amIsI) (fun h ch v w _ hv e => aIsI_ok v w hv e) (fun v w h => h)
  case lastore => cases h; exact aKast_ok (p' := fun _ => amIsJ) (fun h ch v w _ hv e => aIs_ok _ v w hv e) (fun v w h => h)
  case bastore => cases h; exact aKast_ok (p' := fun _ => amIsI) (fun h ch v w _ hv e => aIsI_ok v w hv e) (fun v w h => aNarB_s h)
  case aastore => cases h; exact aKast_ok (p' := amIsSn) aIsSn_s (fun v w h => h)
  case arraylength => cases h; exact aKlen_ok hsc
  all_goals (cases h)
end
