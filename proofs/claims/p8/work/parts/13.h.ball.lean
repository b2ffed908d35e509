/-! ===== runs over invariants: all instructions that go on ===== -/
def bYI : bY := .inl bFull
def bYJ : bY := .inr (.inl 1)
def bYD : bY := .inr (.inl 2)
theorem bYI_s {n : Nat} (x : Int32) : bYr n bYI (.int x) := ⟨x, rfl, Nat.zero_le _, bOff_le x⟩
theorem bYJ_s {n : Nat} (x : Int64) : bYr n bYJ (.long x) := Or.inl ⟨rfl, x, rfl⟩
theorem bYD_s {n : Nat} (x : UInt64) : bYr n bYD (.double x) := Or.inr (Or.inl ⟨Or.inl rfl, x, rfl, fun z => absurd rfl z, fun z => by cases z⟩)
def bYF : bY := .inr (.inl 3)
theorem bYF_s {n : Nat} {x : UInt32} (h : FP.Core.decode FP.Core.b32 x.toNat ≠ .nan) : bYr n bYF (.float x) := Or.inr (Or.inr (Or.inl ⟨Or.inl rfl, x, rfl, h, fun z => by cases z⟩))
theorem bI2f_0 (x : Int32) : bT 3 (.float (FP.i2f x)) := Or.inr (Or.inr (Or.inl ⟨Or.inl rfl, _, rfl, fl_i2f x, fun z => by cases z⟩))
theorem bI2d_0 (x : Int32) : bT 6 (.double (FP.i2d x)) := Or.inr (Or.inl ⟨Or.inr (Or.inl rfl), _, rfl, fun _ => fl_i2d x, fun z => by cases z⟩)
theorem bI2_nz {x : Int32} (h1 : 1 ≤ x.toInt) (h2 : x.toInt ≤ 199) : flNz (FP.Core.decode FP.Core.b32 (FP.i2f x).toNat) = true ∧ flNz (FP.Core.decode FP.Core.b64 (FP.i2d x).toNat) = true := by
  obtain ⟨k, hk⟩ : ∃ k : Nat, x.toInt = (k : Int) := ⟨x.toInt.toNat, by omega⟩
  have hx : x = Int32.ofInt (k : Int) := by rw [← hk, Int32.ofInt_toInt]
  rw [hx]
  exact fl_nz ⟨k, by omega⟩ (by show k ≠ 0; omega)
theorem bI2f_1 (x : Int32) (h1 : 1 ≤ x.toInt) (h2 : x.toInt ≤ 199) : bT 5 (.float (FP.i2f x)) := Or.inr (Or.inr (Or.inl ⟨Or.inr rfl, _, rfl, fl_i2f x, fun _ => (bI2_nz h1 h2).1⟩))
theorem bI2d_1 (x : Int32) (h1 : 1 ≤ x.toInt) (h2 : x.toInt ≤ 199) : bT 7 (.double (FP.i2d x)) := Or.inr (Or.inl ⟨Or.inr (Or.inr rfl), _, rfl, fun _ => fl_i2d x, fun _ => (bI2_nz h1 h2).2⟩)
def bTr (T : Nat → Option bD) (W : List (Nat × Nat)) (nL : Nat) (i : Instr) (a b pc : Nat) : Option bA :=
  match i with
  | .iconst k => some (bPush (pc + 1) (.inl (aOff (Int32.ofInt k))))
  | .bipush k => some (bPush (pc + 2) (.inl (aOff (Int8.ofInt k).toInt32)))
  | .sipush k => some (bPush (pc + 3) (.inl (aOff (Int16.ofInt k).toInt32)))
  | .lconst _ => some (bPush (pc + 1) (.inr (.inr (.inl 1))))
  | .dconst k => if k = 0 then some (bPush (pc + 1) (.inr (.inr (.inl 2)))) else none
  | .ldc _ => if b = 0 then some (bPush (pc + 2) (.inl (aOff (Int32.ofNat a)))) else some (bPush (pc + 2) (.inr (.inr (.inl (amK + a)))))
  | .ldc_w _ => if b = 0 then some (bPush (pc + 3) (.inl (aOff (Int32.ofNat a)))) else some (bPush (pc + 3) (.inr (.inr (.inl (amK + a)))))
  | .ldc2_w _ => some (bPush (pc + 3) (.inr (.inr (.inl 1))))
  | .iload k => some (bLdA (pc + 2) bIsI k)
  | .iload_n k => some (bLdA (pc + 1) bIsI k)
  | .lload k => some (bLdA (pc + 2) (bIs 1) k)
  | .lload_n k => some (bLdA (pc + 1) (bIs 1) k)
  | .dload k => some (bLdA (pc + 2) (bIs 2) k)
  | .dload_n k => some (bLdA (pc + 1) (bIs 2) k)
  | .aload k => some (bLdA (pc + 2) bIsA k)
  | .aload_n k => some (bLdA (pc + 1) bIsA k)
  | .istore k => some (bStA (pc + 2) bIsI nL k)
  | .istore_n k => some (bStA (pc + 1) bIsI nL k)
  | .lstore k => some (bStA2 (pc + 2) (bIs 1) nL k)
  | .lstore_n k => some (bStA2 (pc + 1) (bIs 1) nL k)
  | .dstore k => some (bStA2 (pc + 2) (bIs 2) nL k)
  | .astore k => some (bStA (pc + 2) bIsA nL k)
  | .astore_n k => some (bStA (pc + 1) bIsA nL k)
  | .iinc k c => some (bInc (pc + 3) nL k (aOff (Int32.ofInt c)))
  | .dup => some (bDup (pc + 1))
  | .dup2 => some (bDup2 (pc + 1))
  | .pop => some (bPop (pc + 1))
  | .iadd => some (bTwo (pc + 1) bAdd)
  | .isub => some (bTwo (pc + 1) bSub)
  | .imul => some (bTwo (pc + 1) (bBin bGmul))
  | .iand => some (bTwo (pc + 1) (bBin (bOfG (aGor (aGx (fun x y => x &&& y)) aGand))))
  | .ior => some (bTwo (pc + 1) (bBin (bOfG (aGor (aGx (fun x y => x ||| y)) aG15))))
  | .ixor => some (bTwo (pc + 1) (bBin (bOfG (aGor (aGx (fun x y => x ^^^ y)) (aGor aG15 aGxor)))))
  | .ishl => some (bTwo (pc + 1) (bBin bGshl))
  | .ishr => some (bTwo (pc + 1) (bBin (bOfG (aGor (aGx (fun x y => x >>> (y &&& 31))) aGshr))))
  | .iushr => some (bTwo (pc + 1) (bBin (bOfG (aGx (fun x y => (x.toUInt32 >>> (y.toUInt32 &&& Int32.toUInt32 31)).toInt32)))))
  | .idiv => some (bDvA (pc + 1) bGdiv)
  | .irem => some (bDvA (pc + 1) bGrem)
  | .ineg => some (bUn (pc + 1) bIsI bYI)
  | .i2b => some (bUn (pc + 1) bIsI bYI)
  | .i2l => some (bUn (pc + 1) bIsI bYJ)
  | .i2d => some (bI2 (pc + 1) 6 7)
  | .i2f => some (bI2 (pc + 1) 3 5)
  | .fdiv => some (bBi (pc + 1) (bIs 5) bIsF2 bYF)
  | .ddiv => some (bBi (pc + 1) (bIs 7) bIsD2 bYD)
  | .fconst k => if k = 0 then some (bPush (pc + 1) (.inr (.inr (.inl 3)))) else none
  | .l2i => some (bUn (pc + 1) (bIs 1) bYI)
  | .lneg => some (bUn (pc + 1) (bIs 1) bYJ)
  | .ladd => some (bBi (pc + 1) (bIs 1) (bIs 1) bYJ)
  | .lsub => some (bBi (pc + 1) (bIs 1) (bIs 1) bYJ)
  | .land => some (bBi (pc + 1) (bIs 1) (bIs 1) bYJ)
  | .lor => some (bBi (pc + 1) (bIs 1) (bIs 1) bYJ)
  | .lcmp => some (bBi (pc + 1) (bIs 1) (bIs 1) bYI)
  | .lshl => some (bBi (pc + 1) bIsI (bIs 1) bYJ)
  | .lshr => some (bBi (pc + 1) bIsI (bIs 1) bYJ)
  | .lushr => some (bBi (pc + 1) bIsI (bIs 1) bYJ)
  | .f2d => some (bUn (pc + 1) (bIs 3) bYD)
  | .goto _ => some (bGo a)
  | .ifCond c _ => some (bIfA c a (pc + 3))
  | .if_icmp c _ => some (bCmpA c a (pc + 3))
  | .ifnull _ => some (bNulA a (pc + 3))
  | .ifnonnull _ => some (bNulA (pc + 3) a)
  | .tableswitch d lo hi offs => some (bTabA pc d lo hi offs)
  | .getfield _ => some (bGetA T (pc + 3) a b)
  | .putfield _ => some (bPutA T W (pc + 3) a b (amFty a b))
  | .iaload => some (bAldA T (pc + 1) 32)
  | .laload => some (bAldA T (pc + 1) 33)
  | .baload => some (bAldA T (pc + 1) 34)
  | .aaload => some (bAldA T (pc + 1) 35)
  | .iastore => some (bAstA T W (pc + 1) 32 false (fun _ => true))
  | .lastore => some (bAstA T W (pc + 1) 33 false (fun _ => true))
  | .bastore => some (bAstA T W (pc + 1) 34 true (fun _ => true))
  | .aastore => some (bAstA T W (pc + 1) 35 false (bIsSn T))
  | .arraylength => some (bLenA T (pc + 1))
  | _ => none
section BTR
variable {n : Nat} {T : Nat → Option bD} {W : List (Nat × Nat)}
theorem bUI_ok {pc : Nat} {f : Int32 → Value} {y : bY} (h : ∀ x, bYr n y (f x)) : bOk n T W (bUn pc bIsI y) (fun ls st hp => (amI f st).map (fun s => (pc, ls, s, hp))) :=
  bUn_ok fun ρ v w hv hr => by
    obtain ⟨x, rfl⟩ := bIsI_s hv hr
    exact ⟨f x, h x, fun _ _ _ => rfl⟩
theorem bUJ_ok {pc : Nat} {f : Int64 → Value} {y : bY} (h : ∀ x, bYr n y (f x)) : bOk n T W (bUn pc (bIs 1) y) (fun ls st hp => (amJ f st).map (fun s => (pc, ls, s, hp))) :=
  bUn_ok fun ρ v w hv hr => by
    obtain ⟨x, rfl⟩ := bIs_J hv hr
    exact ⟨f x, h x, fun _ _ _ => rfl⟩
theorem bLL_ok {pc : Nat} {f : Int64 → Int64 → Value} {y : bY} (h : ∀ x z, bYr n y (f x z)) : bOk n T W (bBi pc (bIs 1) (bIs 1) y) (fun ls st hp => (amLL f st).map (fun s => (pc, ls, s, hp))) :=
  bBi_ok fun ρ v u w x hv hu hr hr2 => by
    obtain ⟨x1, rfl⟩ := bIs_J hv hr
    obtain ⟨x2, rfl⟩ := bIs_J hu hr2
    exact ⟨f x2 x1, h _ _, fun _ _ _ => rfl⟩
theorem bLI_ok {pc : Nat} {f : Int64 → Int32 → Int64} : bOk n T W (bBi pc bIsI (bIs 1) bYJ) (fun ls st hp => (amLI f st).map (fun s => (pc, ls, s, hp))) :=
  bBi_ok fun ρ v u w x hv hu hr hr2 => by
    obtain ⟨x1, rfl⟩ := bIsI_s hv hr
    obtain ⟨x2, rfl⟩ := bIs_J hu hr2
    exact ⟨_, bYJ_s _, fun _ _ _ => rfl⟩
theorem bCI_s {ρ : List Nat} (x : Int32) : bR n ρ (.inl (aOff x)) (.int x) := ⟨x, rfl, rfl⟩
theorem bTr_s (hn : n ≤ 999999) {sc : Option (List Int32)} {nL : Nat} {i : Instr} {a b pc : Nat} {act : bA} (h : bTr T W nL i a b pc = some act) : bOk n T W act (fun ls st hp => amStep sc nL i a b pc ls st hp) := by
  unfold bTr at h
  split at h
  · cases h; exact bPush_ok fun ρ => bCI_s _
  · cases h; exact bPush_ok fun ρ => bCI_s _
  · cases h; exact bPush_ok fun ρ => bCI_s _
  · cases h; exact bPush_ok fun ρ => bYJ_s (n := n) _
  · split at h
    · next e => cases h; subst e; simp only [amStep, if_true]; exact bPush_ok fun ρ => bYD_s (n := n) _
    · cases h
  · split at h
    · next e => cases h; simp only [amStep, e, if_true]; exact bPush_ok fun ρ => bCI_s _
    · next e =>
      cases h
      simp only [amStep, e, if_false]
      exact bPush_ok fun ρ => Or.inr (Or.inr (Or.inr (Or.inr ⟨Nat.le_add_right _ _, rfl⟩)))
  · split at h
    · next e => cases h; simp only [amStep, e, if_true]; exact bPush_ok fun ρ => bCI_s _
    · next e =>
      cases h
      simp only [amStep, e, if_false]
      exact bPush_ok fun ρ => Or.inr (Or.inr (Or.inr (Or.inr ⟨Nat.le_add_right _ _, rfl⟩)))
  · cases h; exact bPush_ok fun ρ => bYJ_s (n := n) _
  · cases h; exact bLdA_ok bKd_I
  · cases h; exact bLdA_ok bKd_I
  · cases h; exact bLdA_ok bKd_J
  · cases h; exact bLdA_ok bKd_J
  · cases h; exact bLdA_ok bKd_D
  · cases h; exact bLdA_ok bKd_D
  · cases h; exact bLdA_ok bKd_A
  · cases h; exact bLdA_ok bKd_A
  · cases h; exact bStA_ok bKd_I
  · cases h; exact bStA_ok bKd_I
  · cases h; exact bStA2_ok bKd_J
  · cases h; exact bStA2_ok bKd_J
  · cases h; exact bStA2_ok bKd_D
  · cases h; exact bStA_ok bKd_A
  · cases h; exact bStA_ok bKd_A
  · cases h; exact bInc_ok
  · cases h; exact bDup_ok fun ls v r hp e => by simp only [amStep, e, if_true]
  · cases h; exact bDup2_ok fun ls v u r hp e => by simp only [amStep, e, and_self, if_true]
  · cases h; exact bPop_ok fun ls v r hp e => by simp only [amStep, e, if_true]
  · cases h; exact bTwo_ok bTok_add
  · cases h; exact bTwo_ok bTok_sub
  · cases h; exact bTwo_ok (bTok_bin bGmul_ok)
  · cases h; exact bTwo_ok (bTok_bin (bOfG_ok (aGor_ok (aGx_ok _) aGand_ok)))
  · cases h; exact bTwo_ok (bTok_bin (bOfG_ok (aGor_ok (aGx_ok _) aG15_or)))
  · cases h; exact bTwo_ok (bTok_bin (bOfG_ok (aGor_ok (aGx_ok _) (aGor_ok aG15_xor aGxor_ok))))
  · cases h; exact bTwo_ok (bTok_bin bGshl_ok)
  · cases h; exact bTwo_ok (bTok_bin (bOfG_ok (aGor_ok (aGx_ok _) aGshr_ok)))
  · cases h; exact bTwo_ok (bTok_bin (bOfG_ok (aGx_ok _)))
  · cases h; exact bDvA_ok bGdiv_ok
  · cases h; exact bDvA_ok bGrem_ok
  · cases h; exact bUI_ok fun x => bYI_s _
  · cases h; exact bUI_ok fun x => bYI_s _
  · cases h; exact bUI_ok fun x => bYJ_s _
  · cases h; exact bI2_ok bI2d_0 bI2d_1
  · cases h; exact bI2_ok bI2f_0 bI2f_1
  · cases h
    refine bBi_ok fun ρ v u w x hv hu hr hr2 => ?_
    obtain ⟨x1, rfl, g1⟩ := bIs_F5 hv hr
    obtain ⟨x2, rfl, g2⟩ := bIsF2_s hu hr2
    obtain ⟨g3, g4⟩ := fl_fdiv g2 g1
    exact ⟨_, bYF_s g4, fun cl r hp => by simp only [amStep, g3, if_true]⟩
  · cases h
    refine bBi_ok fun ρ v u w x hv hu hr hr2 => ?_
    obtain ⟨x1, rfl, g1⟩ := bIs_D7 hv hr
    obtain ⟨x2, rfl, g2⟩ := bIsD2_s hu hr2
    exact ⟨_, bYD_s (FP.ddiv x2 x1), fun cl r hp => by simp only [amStep, fl_ddiv g2 g1, if_true]⟩
  · split at h
    · next e => cases h; subst e; simp only [amStep, if_true]; exact bPush_ok fun ρ => bYF_s (n := n) (by decide)
    · cases h
  · cases h; exact bUJ_ok fun x => bYI_s _
  · cases h; exact bUJ_ok fun x => bYJ_s _
  · cases h; exact bLL_ok fun x z => bYJ_s _
  · cases h; exact bLL_ok fun x z => bYJ_s _
  · cases h; exact bLL_ok fun x z => bYJ_s _
  · cases h; exact bLL_ok fun x z => bYJ_s _
  · cases h; exact bLL_ok fun x z => bYI_s _
  · cases h; exact bLI_ok
  · cases h; exact bLI_ok
  · cases h; exact bLI_ok
  · cases h
    refine bUn_ok fun ρ v w hv hr => ?_
    obtain ⟨z, rfl, hz⟩ := bIs_F hv hr
    exact ⟨_, bYD_s (FP.f2d z), fun cl r hp => by simp only [amStep, fl_f2d hz, if_true]⟩
  · cases h; exact bGo_ok
  · cases h; exact bIfA_ok
  · cases h; exact bCmpA_ok
  · cases h; exact bNulA_ok fun ls o r hp => rfl
  · cases h; exact bNulA_ok fun ls o r hp => rfl
  · cases h; exact bTabA_ok
  · cases h; exact bGetA_ok
  · cases h; exact bPutA_ok
  · cases h; exact bAldA_okI hn
  · cases h; exact bAldA_ok
  · cases h; exact bAldA_ok
  · cases h; exact bAldA_ok
  · cases h; exact bAstA_ok (p' := fun _ => amIsI) (fun ρ hp v y w _ _ hk hw hw2 _ => bKy_s (t := 32) hk (hw rfl).1)
  · cases h
    exact bAstA_ok (p' := fun _ => amIsJ) (fun ρ hp v y w _ _ hk hw hw2 _ => bKy_s (t := 33) hk (hw rfl).1)
  · cases h; exact bAstA_ok (p' := fun _ => amIsI) (fun ρ hp v y w _ _ hk hw hw2 _ => by obtain ⟨x, rfl⟩ := hw2 rfl; rfl)
  · cases h
    refine bAstA_ok (p' := amIsSn) (fun ρ hp v y w hH hv hk hw hw2 hm => ?_)
    obtain ⟨h1, E, h2⟩ := hw rfl
    match y, hk, h1, h2 with
    | .inl q, hk, _, _ => cases hk
    | .inr (.inl s), hk, _, _ => cases hk
    | .inr (.inr l), hk, _, h2 =>
      match v, hv, h2, hm with
      | .inr (.inr (.inr m)), ⟨i, e, hi, him⟩, _, hm =>
        subst e
        have h3 := lAll_m (hm m rfl) i him
        split at h3
        · next D eD =>
          obtain ⟨d, g1, g2⟩ := bHk_at hH hi eD
          have h4 : d.1 = 6 := by rw [g2.1]; exact Nat.eq_of_beq_eq_true h3
          simp only [amIsSn, g1, h4, decide_true]
        · cases h3
      | .inl k, _, h2, _ => cases h2
      | .inr (.inl q), _, h2, _ => cases h2
      | .inr (.inr (.inl q)), _, h2, _ => cases h2
  · cases h; exact bLenA_ok hn
  · cases h
end BTR
