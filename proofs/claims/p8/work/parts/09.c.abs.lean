/-! ===== the abstract runs: all instructions that go on ===== -/
def aKdup (pc : Nat) : aK := fun k ls st hp => match st with
  | v :: r => (match Nat.beq (aCat v) 1 with
    | true => k pc ls (v :: v :: r) hp
    | false => false)
  | [] => false
theorem aKdup_ok {pc : Nat} {cf : amL → List Value → amH → Option amR} (h1 : ∀ ls v r hp, v.category = 1 → cf ls (v :: r) hp = some (pc, ls, v :: v :: r, hp)) : aKok (aKdup pc) cf := by
  intro k ls st h cl cs ch e hl hs hh
  unfold aKdup at e
  split at e
  · next v r =>
    obtain ⟨w, ws, rfl, hv, hs1⟩ := aRs_cons hs
    split at e
    · next e1 => exact ⟨_, ls, _, h, h1 _ _ _ _ (by rw [aR_cat hv]; exact Nat.eq_of_beq_eq_true e1), e, hl, ⟨hv, hv, hs1⟩, hh⟩
    · cases e
  · cases e
def aKpop (pc : Nat) : aK := fun k ls st hp => match st with
  | v :: r => (match Nat.beq (aCat v) 1 with
    | true => k pc ls r hp
    | false => false)
  | [] => false
theorem aKpop_ok {pc : Nat} {cf : amL → List Value → amH → Option amR} (h1 : ∀ ls v r hp, v.category = 1 → cf ls (v :: r) hp = some (pc, ls, r, hp)) : aKok (aKpop pc) cf := by
  intro k ls st h cl cs ch e hl hs hh
  unfold aKpop at e
  split at e
  · next v r =>
    obtain ⟨w, ws, rfl, hv, hs1⟩ := aRs_cons hs
    split at e
    · next e1 => exact ⟨_, ls, _, h, h1 _ _ _ _ (by rw [aR_cat hv]; exact Nat.eq_of_beq_eq_true e1), e, hl, hs1, hh⟩
    · cases e
  · cases e
def aKdup2 (pc : Nat) : aK := fun k ls st hp => match st with
  | v :: u :: r => (match Nat.beq (aCat v) 1 with
    | true => (match Nat.beq (aCat u) 1 with
      | true => k pc ls (v :: u :: v :: u :: r) hp
      | false => false)
    | false => false)
  | _ => false
theorem aKdup2_ok {pc : Nat} {cf : amL → List Value → amH → Option amR} (h1 : ∀ ls v u r hp, v.category = 1 ∧ u.category = 1 → cf ls (v :: u :: r) hp = some (pc, ls, v :: u :: v :: u :: r, hp)) : aKok (aKdup2 pc) cf := by
  intro k ls st h cl cs ch e hl hs hh
  unfold aKdup2 at e
  split at e
  · next v u r =>
    obtain ⟨w, ws, rfl, hv, hs1⟩ := aRs_cons hs
    obtain ⟨w2, ws, rfl, hu, hs2⟩ := aRs_cons hs1
    split at e
    · next e1 =>
      split at e
      · next e2 => exact ⟨_, ls, _, h, h1 _ _ _ _ _ ⟨by rw [aR_cat hv]; exact Nat.eq_of_beq_eq_true e1, by rw [aR_cat hu]; exact Nat.eq_of_beq_eq_true e2⟩, e, hl, ⟨hv, hu, hv, hu, hs2⟩, hh⟩
      · cases e
    · cases e
  · cases e
def aKxx (g : Value → Value → Option Value) (pc : Nat) : aK := fun k ls st hp => match st with
  | .inl y :: .inl x :: r => (match g x y with
    | some v => k pc ls (aOfV v :: r) hp
    | none => false)
  | _ => false
theorem aKxx_ok {pc : Nat} {g : Value → Value → Option Value} {cf : amL → List Value → amH → Option amR} (h1 : ∀ ls x y r hp v, g x y = some v → cf ls (y :: x :: r) hp = some (pc, ls, v :: r, hp)) : aKok (aKxx g pc) cf := by
  intro k ls st h cl cs ch e hl hs hh
  unfold aKxx at e
  split at e
  · next y x r =>
    obtain ⟨w, ws, rfl, hv, hs1⟩ := aRs_cons hs
    obtain ⟨w2, ws, rfl, hu, hs2⟩ := aRs_cons hs1
    cases hv
    cases hu
    split at e
    · next v e1 => exact ⟨_, ls, _, h, h1 _ _ _ _ _ _ e1, e, hl, ⟨aOfV_s v, hs2⟩, hh⟩
    · cases e
  · cases e
def aKx1 (g : Value → Option Value) (pc : Nat) : aK := fun k ls st hp => match st with
  | .inl y :: r => (match g y with
    | some v => k pc ls (aOfV v :: r) hp
    | none => false)
  | _ => false
theorem aKx1_ok {pc : Nat} {g : Value → Option Value} {cf : amL → List Value → amH → Option amR} (h1 : ∀ ls y r hp v, g y = some v → cf ls (y :: r) hp = some (pc, ls, v :: r, hp)) : aKok (aKx1 g pc) cf := by
  intro k ls st h cl cs ch e hl hs hh
  unfold aKx1 at e
  split at e
  · next y r =>
    obtain ⟨w, ws, rfl, hv, hs1⟩ := aRs_cons hs
    cases hv
    split at e
    · next v e1 => exact ⟨_, ls, _, h, h1 _ _ _ _ _ e1, e, hl, ⟨aOfV_s v, hs1⟩, hh⟩
    · cases e
  · cases e
def aFdiv : Value → Value → Option Value
  | .float x, .float y => if FP.fdiv x y &&& 0x7fffffff ≤ 0x7f800000 then some (.float (FP.fdiv x y)) else none
  | _, _ => none
def aDdiv : Value → Value → Option Value
  | .double x, .double y => if FP.ddiv x y &&& 0x7fffffffffffffff ≤ 0x7ff0000000000000 then some (.double (FP.ddiv x y)) else none
  | _, _ => none
def aDcmp (op : CmpOp) : Value → Value → Option Value
  | .double x, .double y => some (.int (Op.cmpValue (FP.dcmp x y) op))
  | _, _ => none
def aF2d : Value → Option Value
  | .float x => if FP.f2d x &&& 0x7fffffffffffffff ≤ 0x7ff0000000000000 then some (.double (FP.f2d x)) else none
  | _ => none
def aTr (sc : Option (List aV)) (nL : Nat) (i : Instr) (a b pc : Nat) : Option aK :=
  match i with
  | .iconst n => some (aKpush (pc + 1) (aOf (Int32.ofInt n)))
  | .bipush n => some (aKpush (pc + 2) (aOf (Int8.ofInt n).toInt32))
  | .sipush n => some (aKpush (pc + 3) (aOf (Int16.ofInt n).toInt32))
  | .lconst n => some (aKpush (pc + 1) (.inl (.long (Int64.ofNat (n : Nat)))))
  | .fconst n => if n = 0 then some (aKpush (pc + 1) (.inl (.float FP.fconst0))) else none
  | .dconst n => if n = 0 then some (aKpush (pc + 1) (.inl (.double FP.dconst0))) else none
  | .ldc _ => if b = 0 then some (aKpush (pc + 2) (aOf (Int32.ofNat a))) else some (aKpush (pc + 2) (.inl (.ref (amK + a))))
  | .ldc_w _ => if b = 0 then some (aKpush (pc + 3) (aOf (Int32.ofNat a))) else none
  | .ldc2_w _ => some (aKpush (pc + 3) (.inl (.long (Int64.ofNat a))))
  | .iload k => some (aKld (pc + 2) aIsI k)
  | .iload_n k => some (aKld (pc + 1) aIsI k)
  | .lload k => some (aKld (pc + 2) (aIs amIsJ) k)
  | .lload_n k => some (aKld (pc + 1) (aIs amIsJ) k)
  | .dload k => some (aKld (pc + 2) (aIs amIsD) k)
  | .dload_n k => some (aKld (pc + 1) (aIs amIsD) k)
  | .aload k => some (aKld (pc + 2) (aIs amIsA) k)
  | .aload_n k => some (aKld (pc + 1) (aIs amIsA) k)
  | .istore k => some (aKst1 (pc + 2) aIsI nL k)
  | .istore_n k => some (aKst1 (pc + 1) aIsI nL k)
  | .lstore k => some (aKst2 (pc + 2) (aIs amIsJ) nL k)
  | .lstore_n k => some (aKst2 (pc + 1) (aIs amIsJ) nL k)
  | .dstore k => some (aKst2 (pc + 2) (aIs amIsD) nL k)
  | .astore k => some (aKst1 (pc + 2) (aIs amIsA) nL k)
  | .astore_n k => some (aKst1 (pc + 1) (aIs amIsA) nL k)
  | .iinc k n => some (aKinc (pc + 3) nL k (aOff (Int32.ofInt n)))
  | .dup => some (aKdup (pc + 1))
  | .dup2 => some (aKdup2 (pc + 1))
  | .pop => some (aKpop (pc + 1))
  | .iadd => some (aKs (pc + 1) (aII aGadd))
  | .isub => some (aKs (pc + 1) (aII aGsub))
  | .imul => some (aKs (pc + 1) (aII (aGx (fun x y => x * y))))
  | .iand => some (aKs (pc + 1) (aII (aGor (aGx (fun x y => x &&& y)) aGand)))
  | .ior => some (aKs (pc + 1) (aII (aGx (fun x y => x ||| y))))
  | .ixor => some (aKs (pc + 1) (aII (aGor (aGx (fun x y => x ^^^ y)) aGxor)))
  | .ishl => some (aKs (pc + 1) (aII (aGx (fun x y => x <<< (y &&& 31)))))
  | .ishr => some (aKs (pc + 1) (aII (aGor (aGx (fun x y => x >>> (y &&& 31))) aGshr)))
  | .iushr => some (aKs (pc + 1) (aII (aGx (fun x y => (x.toUInt32 >>> (y.toUInt32 &&& Int32.toUInt32 31)).toInt32))))
  | .idiv => some (aKs (pc + 1) (aDv (fun x y => x / y)))
  | .irem => some (aKrem (pc + 1))
  | .ineg => some (aKs (pc + 1) (aI1 (fun x => .int (-x))))
  | .i2b => some (aKs (pc + 1) aI2b)
  | .i2l => some (aKs (pc + 1) (aI1 (fun x => .long x.toInt64)))
  | .i2f => some (aKs (pc + 1) (aI1 (fun x => .float (FP.i2f x))))
  | .i2d => some (aKs (pc + 1) (aI1 (fun x => .double (FP.i2d x))))
  | .l2i => some (aKs (pc + 1) (aJ1 (fun x => .int x.toInt32)))
  | .lneg => some (aKs (pc + 1) (aJ1 (fun x => .long (-x))))
  | .ladd => some (aKs (pc + 1) (aLL (fun x y => .long (x + y))))
  | .lsub => some (aKs (pc + 1) (aLL (fun x y => .long (x - y))))
  | .land => some (aKs (pc + 1) (aLL (fun x y => .long (x &&& y))))
  | .lor => some (aKs (pc + 1) (aLL (fun x y => .long (x ||| y))))
  | .lcmp => some (aKs (pc + 1) (aLL (fun x y => .int (lg_cmp x y))))
  | .lshl => some (aKs (pc + 1) (aLI (fun x y => x <<< (y.toInt64 &&& 63))))
  | .lshr => some (aKs (pc + 1) (aLI (fun x y => x >>> (y.toInt64 &&& 63))))
  | .lushr => some (aKs (pc + 1) (aLI (fun x y => (x.toUInt64 >>> (y.toInt64.toUInt64 &&& Int64.toUInt64 63)).toInt64)))
  | .fdiv => some (aKxx aFdiv (pc + 1))
  | .ddiv => some (aKxx aDdiv (pc + 1))
  | .f2d => some (aKx1 aF2d (pc + 1))
  | .dcmp op => some (aKxx (aDcmp op) (pc + 1))
  | .goto _ => some (aKgo a)
  | .ifCond c _ => some (aKif c a (pc + 3))
  | .if_icmp c _ => some (aKcmp c a (pc + 3))
  | .ifnull _ => some (aKnull a (pc + 3))
  | .ifnonnull _ => some (aKnull (pc + 3) a)
  | .tableswitch d lo hi offs => some (aKtab pc d lo hi offs)
  | .getfield _ => if a < 32 then some (aKget (pc + 3) a b) else none
  | .putfield _ => if a < 32 then some (aKput (pc + 3) a b (amFty a b)) else none
  | .iaload => some (aKald (pc + 1) 32 aIsI sc)
  | .laload => some (aKald (pc + 1) 33 (aIs amIsJ) none)
  | .baload => some (aKald (pc + 1) 34 aIsI none)
  | .aaload => some (aKald (pc + 1) 35 (aIs amIsA) none)
  | .iastore => some (aKast (pc + 1) 32 (fun _ v => aIsI v) id)
  | .lastore => some (aKast (pc + 1) 33 (fun _ v => aIs amIsJ v) id)
  | .bastore => some (aKast (pc + 1) 34 (fun _ v => aIsI v) aNarB)
  | .aastore => some (aKast (pc + 1) 35 aIsSn id)
  | .arraylength => some (aKlen (pc + 1) sc)
  | _ => none
theorem aTr_ok {sc' : Option (List aV)} {sc : Option (List Int32)} (hsc : aRsc sc' sc) {nL : Nat} {i : Instr} {a b pc : Nat} {act : aK} (h : aTr sc' nL i a b pc = some act) : aKok act (amStep sc nL i a b pc) := by
  cases i
  case iconst n => cases h; exact aKpush_ok (aOf_s _)
  case bipush n => cases h; exact aKpush_ok (aOf_s _)
  case sipush n => cases h; exact aKpush_ok (aOf_s _)
  case lconst n => cases h; exact aKpush_ok rfl
  case fconst n =>
    simp only [aTr] at h
    split at h
    · next e => cases h; subst e; exact aKpush_ok rfl
    · cases h
  case dconst n =>
    simp only [aTr] at h
    split at h
    · next e => cases h; subst e; exact aKpush_ok rfl
    · cases h
  case ldc n =>
    simp only [aTr] at h
    split at h
    · next e => cases h; subst e; exact aKpush_ok (aOf_s _)
    · next e =>
      cases h
      have : amStep sc nL (.ldc n) a b pc = fun ls st hp => some (pc + 2, ls, .ref (amK + a) :: st, hp) := by
        funext ls st hp
        simp only [amStep, if_neg e]
      rw [this]
      exact aKpush_ok rfl
  case ldc_w n =>
    simp only [aTr] at h
    split at h
    · next e => cases h; subst e; exact aKpush_ok (aOf_s _)
    · cases h
  case ldc2_w n => cases h; exact aKpush_ok rfl
  case iload k => cases h; exact aKld_ok aIsI_ok
  case iload_n k => cases h; exact aKld_ok aIsI_ok
  case lload k => cases h; exact aKld_ok (aIs_ok _)
  case lload_n k => cases h; exact aKld_ok (aIs_ok _)
  case dload k => cases h; exact aKld_ok (aIs_ok _)
  case dload_n k => cases h; exact aKld_ok (aIs_ok _)
  case aload k => cases h; exact aKld_ok (aIs_ok _)
  case aload_n k => cases h; exact aKld_ok (aIs_ok _)
  case istore k => cases h; exact aKst1_ok aIsI_ok
  case istore_n k => cases h; exact aKst1_ok aIsI_ok
  case lstore k => cases h; exact aKst2_ok (aIs_ok _)
  case lstore_n k => cases h; exact aKst2_ok (aIs_ok _)
  case dstore k => cases h; exact aKst2_ok (aIs_ok _)
  case astore k => cases h; exact aKst1_ok (aIs_ok _)
  case astore_n k => cases h; exact aKst1_ok (aIs_ok _)
  case iinc k n => cases h; exact aKinc_ok
  case dup => cases h; exact aKdup_ok (fun ls v r hp e => by simp only [amStep, if_pos e])
  case dup2 => cases h; exact aKdup2_ok (fun ls v u r hp e => by simp only [amStep, if_pos e])
  case pop => cases h; exact aKpop_ok (fun ls v r hp e => by simp only [amStep, if_pos e])
  case iadd => cases h; exact aKs_ok (aII_ok aGadd_ok)
  case isub => cases h; exact aKs_ok (aII_ok aGsub_ok)
  case imul => cases h; exact aKs_ok (aII_ok (aGx_ok _))
  case iand => cases h; exact aKs_ok (aII_ok (aGor_ok (aGx_ok _) aGand_ok))
  case ior => cases h; exact aKs_ok (aII_ok (aGx_ok _))
  case ixor => cases h; exact aKs_ok (aII_ok (aGor_ok (aGx_ok _) aGxor_ok))
  case ishl => cases h; exact aKs_ok (aII_ok (aGx_ok _))
  case ishr => cases h; exact aKs_ok (aII_ok (aGor_ok (aGx_ok _) aGshr_ok))
  case iushr => cases h; exact aKs_ok (aII_ok (aGx_ok _))
  case idiv => cases h; exact aKs_ok aDv_ok
  case irem => cases h; exact aKrem_ok
  case ineg => cases h; exact aKs_ok aI1_ok
  case i2b => cases h; exact aKs_ok aI2b_ok
  case i2l => cases h; exact aKs_ok aI1_ok
  case i2f => cases h; exact aKs_ok aI1_ok
  case i2d => cases h; exact aKs_ok aI1_ok
  case l2i => cases h; exact aKs_ok aJ1_ok
  case lneg => cases h; exact aKs_ok aJ1_ok
  case ladd => cases h; exact aKs_ok aLL_ok
  case lsub => cases h; exact aKs_ok aLL_ok
  case land => cases h; exact aKs_ok aLL_ok
  case lor => cases h; exact aKs_ok aLL_ok
  case lcmp => cases h; exact aKs_ok aLL_ok
  case lshl => cases h; exact aKs_ok aLI_ok
  case lshr => cases h; exact aKs_ok aLI_ok
  case lushr => cases h; exact aKs_ok aLI_ok
  case fdiv =>
    cases h
    refine aKxx_ok (fun ls x y r hp v e => ?_)
    unfold aFdiv at e
    split at e
    · split at e
      · next e1 => cases e; simp only [amStep, if_pos e1]
      · cases e
    · cases e
  case ddiv =>
    cases h
    refine aKxx_ok (fun ls x y r hp v e => ?_)
    unfold aDdiv at e
    split at e
    · split at e
      · next e1 => cases e; simp only [amStep, if_pos e1]
      · cases e
    · cases e
  case f2d =>
    cases h
    refine aKx1_ok (fun ls y r hp v e => ?_)
    unfold aF2d at e
    split at e
    · split at e
      · next e1 => cases e; simp only [amStep, if_pos e1]
      · cases e
    · cases e
  case dcmp op =>
    cases h
    refine aKxx_ok (fun ls x y r hp v e => ?_)
    unfold aDcmp at e
    split at e
    · cases e; rfl
    · cases e
  case goto o => cases h; exact aKgo_ok
  case ifCond c o => cases h; exact aKif_ok
  case if_icmp c o => cases h; exact aKcmp_ok
  case ifnull o => cases h; exact aKnull_ok1 (fun ls o r hp => rfl) (fun ls r hp => rfl)
  case ifnonnull o => cases h; exact aKnull_ok1 (fun ls o r hp => rfl) (fun ls r hp => rfl)
  case tableswitch d lo hi offs => cases h; exact aKtab_ok
  case getfield o =>
    simp only [aTr] at h
    split at h
    · next e => cases h; exact aKget_ok e
    · cases h
  case putfield o =>
    simp only [aTr] at h
    split at h
    · next e => cases h; exact aKput_ok e
    · cases h
  case iaload => cases h; exact aKald_okI hsc
  case laload => cases h; exact aKald_ok (aIs_ok _)
  case baload => cases h; exact aKald_ok aIsI_ok
  case aaload => cases h; exact aKald_ok (aIs_ok _)
  case iastore => cases h; exact aKast_ok (p' := fun _ => amIsI) (fun h ch v w _ hv e => aIsI_ok v w hv e) (fun v w h => h)
  case lastore => cases h; exact aKast_ok (p' := fun _ => amIsJ) (fun h ch v w _ hv e => aIs_ok _ v w hv e) (fun v w h => h)
  case bastore => cases h; exact aKast_ok (p' := fun _ => amIsI) (fun h ch v w _ hv e => aIsI_ok v w hv e) (fun v w h => aNarB_s h)
  case aastore => cases h; exact aKast_ok (p' := amIsSn) aIsSn_s (fun v w h => h)
  case arraylength => cases h; exact aKlen_ok hsc
  all_goals (cases h)
