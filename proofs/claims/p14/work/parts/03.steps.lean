/-! ##### 03.steps ##### -/
section
/-! ===== the abstract machine's steps are the machine's ===== -/
/-- the text constants: class, place, text -/
noncomputable def amStr : List (String × Nat × String) := [("TripleTrains$SetupText", 41, "points"), ("TripleTrains$SetupText", 60, "develop"), ("TripleTrains$SetupText", 62, "triple"), ("TripleTrains", 143, "no such number"), ("TripleTrains", 424, "no such triple"), ("TripleTrains", 151, "no such index"), ("TripleTrains", 420, "no such point"), ("TripleTrains", 422, "the same point twice"), ("TripleTrains", 189, "a negative index"), ("TripleTrains", 204, "a pair is covered"), ("TripleTrains", 219, "a pair would be covered twice"), ("TripleTrains", 426, "no such quadrilateral"), ("TripleTrains", 264, "not 1 to 20 times"), ("TripleTrains", 428, "no such cycle"), ("TripleTrains", 302, "no such trade"), ("TripleTrains", 430, "the system is not complete"), ("TripleTrains", 370, "other bits than those of points"), ("TripleTrains", 396, "the triple is in the system"), ("TripleTrains", 415, "no state is saved"), ("TripleTrainsModel", 245, "points"), ("TripleTrainsModel", 250, "triple"), ("TripleTrainsModel", 256, "develop")]
/-- an instruction's length; 0: any -/
noncomputable def amSz : Instr → Nat
  | .bipush _ => 2
  | .sipush _ => 3
  | .ldc _ => 2
  | .ldc_w _ => 3
  | .ldc2_w _ => 3
  | .iload _ => 2
  | .lload _ => 2
  | .dload _ => 2
  | .aload _ => 2
  | .istore _ => 2
  | .lstore _ => 2
  | .dstore _ => 2
  | .astore _ => 2
  | .iinc _ _ => 3
  | .goto _ => 3
  | .ifCond _ _ => 3
  | .if_icmp _ _ => 3
  | .ifnull _ => 3
  | .ifnonnull _ => 3
  | .tableswitch _ _ _ _ => 0
  | .getfield _ => 3
  | .putfield _ => 3
  | .new _ => 3
  | .newarray _ => 2
  | .anewarray _ => 3
  | .invokevirtual _ => 3
  | .invokestatic _ => 3
  | .invokespecial _ => 3
  | _ => 1
/-- what an instruction is linked to, by the words -/
noncomputable def amLk (Ts : List Jvm.Cond) (own : String) (ini : Bool) (pc : Nat) (i : Instr) (a b : Nat) : Prop :=
  match i with
  | .ldc k => (b = 0 → Jvm.Cond.constant own k (Int32.ofNat a) ∈ Ts) ∧ (b ≠ 0 → ∃ tx, amStr[a]? = some (own, k, tx))
  | .ldc_w k => (b = 0 → Jvm.Cond.constant own k (Int32.ofNat a) ∈ Ts) ∧ (b ≠ 0 → ∃ tx, amStr[a]? = some (own, k, tx))
  | .ldc2_w k => Jvm.Cond.constantLong own k (Int64.ofNat a) ∈ Ts
  | .goto o => (pc : Int) + o = (a : Int)
  | .ifCond _ o => (pc : Int) + o = (a : Int)
  | .if_icmp _ o => (pc : Int) + o = (a : Int)
  | .ifnull o => (pc : Int) + o = (a : Int)
  | .ifnonnull o => (pc : Int) + o = (a : Int)
  | .getfield k => ∃ r, vwCl[a]? = some r ∧ b < r.2.2 ∧ Jvm.Cond.fieldLink own k (r.2.1 b).1 (r.2.1 b).2.1 (r.2.1 b).2.2.1 ∈ Ts
  | .putfield k => ∃ r, vwCl[a]? = some r ∧ b < r.2.2 ∧ Jvm.Cond.fieldLink own k (r.2.1 b).1 (r.2.1 b).2.1 (r.2.1 b).2.2.1 ∈ Ts ∧ ((r.2.1 b).2.2.2 = true → ini = true ∧ (r.2.1 b).1 = own)
  | _ => True
theorem amE_obj {dA : Nat → ClassId} {ad : Nat → Nat} {ci : Nat} {fs : List Value} (h : ci < 32) : amE dA ad (ci, fs) = .inr (ci, fs.map (amV ad)) := by
  unfold amE
  dsimp only
  rw [if_neg (by omega), if_neg (by omega), if_neg (by omega), if_neg (by omega)]
theorem amIn_lt {i : Int32} {n : Nat} (h : vp_in i n) : i.toNatClampNeg < n := Nat.not_le.mp fun q => h (Or.inr q)
theorem am_set_i {c : List Value} {k : Nat} {v : Value} {x : Int32} (hk : k < c.length) (hv : amInt v = x) : (fun j => amInt ((c.set k v).getD j .null)) = upd (fun j => amInt (c.getD j .null)) k x := by
  funext j
  by_cases hj : j = k
  · subst hj
    simp [upd, hk, hv]
  · simp [upd, hj, List.getElem?_set, Ne.symm hj]
theorem am_set_l {c : List Value} {k : Nat} {v : Value} {x : Int64} (hk : k < c.length) (hv : amLong v = x) : (fun j => amLong ((c.set k v).getD j .null)) = vp_updL (fun j => amLong (c.getD j .null)) k x := by
  funext j
  by_cases hj : j = k
  · subst hj
    simp [vp_updL, hk, hv]
  · simp [vp_updL, hj, List.getElem?_set, Ne.symm hj]
theorem am_set_q {ad : Nat → Nat} {c : List Value} {k : Nat} {v : Value} {x : Nat} (hk : k < c.length) (hv : amRef ad v = some x) : (fun j => amRef ad ((c.set k v).getD j .null)) = va_up (fun j => amRef ad (c.getD j .null)) k (some x) := by
  funext j
  by_cases hj : j = k
  · subst hj
    simp [va_up, hk, hv]
  · simp [va_up, hj, List.getElem?_set, Ne.symm hj]
theorem amIsI_v {ad : Nat → Nat} {v : Value} (h : amIsI v = true) : amV ad v = .int (amInt v) := by cases v <;> first | rfl | cases h
theorem amIsJ_v {ad : Nat → Nat} {v : Value} (h : amIsJ v = true) : amV ad v = .long (amLong v) := by cases v <;> first | rfl | cases h
theorem amIsA_v {ad : Nat → Nat} {v : Value} (h : amIsA v = true) : amV ad v = va_rf (amRef ad v) := by cases v <;> first | rfl | cases h
/-- the classes' tables -/
noncomputable def amClOk : Prop := ∀ (ci : Nat) (r : vw_C), vwCl[ci]? = some r → (∀ k, k < r.2.2 → parseFieldDescriptor (r.2.1 k).2.2.1 = some (amFty ci k)) ∧ (∀ a, a < r.2.2 → ∀ b, b < r.2.2 → a ≠ b → (r.2.1 a).2.1 ≠ (r.2.1 b).2.1)
section AMS
variable {p : Program} {l : Launch} {e : Env} {R : Room} {s : State} {m : MethodId} {args : Array Value} {below : List Frame} {meth : Method} {c : Code} {H : Heap} {locs : List Loc} {cells slots : Nat} {Q : State → Prop}
variable {cc : ByteArray} {D : va_G} {dA : Nat → ClassId} {A : Nat → Prop} {H0 : Heap}
theorem am_ldcwS (hexec : p.tables.exec = Jvm.exec) (hb : c.code = cc) {own tx : String} {index q pc : Nat} {ls : Array Slot} {rest : List Value} (hown : s.vm.findClass own = some m.cls) (hZ : vk_R own index tx q s) (hdg : decode cc pc = .ok (.ldc_w index, 3))
    (k : W p l e R s m args below meth c H locs cells slots Q (F0 m (pc + 3) ls (.ref q :: rest))) : W p l e R s m args below meth c H locs cells slots Q (F0 m pc ls rest) := by
  intro T hT X
  obtain ⟨t, a1, b1⟩ := k T hT X
  exact ⟨t, X.ldcStringW hexec hown (text := tx) (a := q) hZ.1 hZ.2 (g := F0 m pc ls rest) rfl (by rw [hb]; exact hdg) t a1, b1⟩
set_option maxHeartbeats 4000000 in
set_option maxRecDepth 20000 in
theorem amStep_ok (hx : p.tables.exec = Jvm.exec) (hb : c.code = cc) {Ts : List Jvm.Cond} (hts : ∀ w ∈ Ts, w.before args s = true) {own : String} (hown : s.vm.findClass own = some m.cls) (hK : va_K D vwCl (amTys dA) s) (hus : ∀ (ci : Nat) (r : vw_C), vwCl[ci]? = some r → ∀ w ∈ u_ws r.1 r.2.1 r.2.2, w ∈ Ts) (hcl : amClOk) {ini : Bool} (hini : ini = true → meth.name = "<init>") {sA : Nat → Nat} (hstr : ∀ (k : Nat) (r : String × Nat × String), amStr[k]? = some r → vk_R r.1 r.2.1 r.2.2 (sA k) s) {sc : Option (List Int32)} {ad : Nat → Nat} (hsA : ∀ k, ad (amK + k) = sA k) (hsc : ∀ l9, sc = some l9 → va_X (ad amS) l9.length (fun j => l9.getD j 0) s H0 ∧ ad amS < H0.size ∧ ¬ A (ad amS))
    {nL pc a b : Nat} {i : Instr} (hd : ∃ n, decode cc pc = .ok (i, n) ∧ (amSz i = 0 ∨ n = amSz i)) (hlk : amLk Ts own ini pc i a b) {ls : amL} {st : List Value} {hp : amH} {r : amR} (h : amStep sc nL i a b pc ls st hp = some r) {lsA : Array Slot} (hl : lv_has lsA nL (amLs ad ls)) (hP : va_P D vwCl (amW dA ad hp) H) (hD : va_D A (amW dA ad hp)) (hS : va_S A H0 H locs)
    (kk : ∀ (H1 : Heap) (locs1 : List Loc) (lsA1 : Array Slot), va_P D vwCl (amW dA ad r.2.2.2) H1 → va_D A (amW dA ad r.2.2.2) → va_S A H0 H1 locs1 → lv_has lsA1 nL (amLs ad r.2.1) → W p l e R s m args below meth c H1 locs1 cells slots Q (F0 m r.1 lsA1 (r.2.2.1.map (amV ad)))) :
    W p l e R s m args below meth c H locs cells slots Q (F0 m pc lsA (st.map (amV ad))) := by
  obtain ⟨n, hd, hn⟩ := hd
  cases i
  all_goals first
    | exact absurd (show (none : Option amR) = some r from h) (by intro z; cases z)
    | skip
  case iconst z =>
    obtain rfl : n = 1 := by rcases hn with hn | hn <;> first | exact hn | cases hn
    cases h
    exact lv_iconst hx hb hd rfl (kk H locs lsA hP hD hS hl)
  case bipush z =>
    obtain rfl : n = 2 := by rcases hn with hn | hn <;> first | exact hn | cases hn
    cases h
    exact lv_bipush hx hb hd rfl (kk H locs lsA hP hD hS hl)
  case sipush z =>
    obtain rfl : n = 3 := by rcases hn with hn | hn <;> first | exact hn | cases hn
    cases h
    exact lv_sipush hx hb hd rfl (kk H locs lsA hP hD hS hl)
  case lconst z =>
    obtain rfl : n = 1 := by rcases hn with hn | hn <;> first | exact hn | cases hn
    cases h
    exact lv_lconst hx hb hd rfl (kk H locs lsA hP hD hS hl)
  case fconst z =>
    obtain rfl : n = 1 := by rcases hn with hn | hn <;> first | exact hn | cases hn
    simp only [amStep] at h
    split at h
    · next e => subst e; cases h; exact lv_fconst0 hx hb hd (kk H locs lsA hP hD hS hl)
    · cases h
  case dconst z =>
    obtain rfl : n = 1 := by rcases hn with hn | hn <;> first | exact hn | cases hn
    simp only [amStep] at h
    split at h
    · next e => subst e; cases h; exact lv_dconst0 hx hb hd (kk H locs lsA hP hD hS hl)
    · cases h
  case ldc z =>
    obtain rfl : n = 2 := by rcases hn with hn | hn <;> first | exact hn | cases hn
    simp only [amStep] at h
    split at h
    · next e => cases h; exact lv_ldc hx hb hown (hts _ (hlk.1 e)) hd (kk H locs lsA hP hD hS hl)
    · next e =>
      cases h
      obtain ⟨tx, ht⟩ := hlk.2 e
      have k0 := kk H locs lsA hP hD hS hl
      have e2 : amV ad (.ref (amK + a)) = .ref (sA a) := by show Value.ref (ad (amK + a)) = _; rw [hsA]
      have hs1 := hstr _ _ ht
      dsimp only at hs1
      exact va_ldcS hx hb hown hs1 hd (W.eq (congrArg (fun v => F0 m (pc + 2) lsA (v :: st.map (amV ad))) e2.symm) k0)
  case ldc_w z =>
    obtain rfl : n = 3 := by rcases hn with hn | hn <;> first | exact hn | cases hn
    simp only [amStep] at h
    split at h
    · next e => cases h; exact lv_ldcw hx hb hown (hts _ (hlk.1 e)) hd (kk H locs lsA hP hD hS hl)
    · next e =>
      cases h
      obtain ⟨tx, ht⟩ := hlk.2 e
      have k0 := kk H locs lsA hP hD hS hl
      have e2 : amV ad (.ref (amK + a)) = .ref (sA a) := by show Value.ref (ad (amK + a)) = _; rw [hsA]
      have hs1 := hstr _ _ ht
      dsimp only at hs1
      exact am_ldcwS hx hb hown hs1 hd (W.eq (congrArg (fun v => F0 m (pc + 3) lsA (v :: st.map (amV ad))) e2.symm) k0)
  case ldc2_w z =>
    obtain rfl : n = 3 := by rcases hn with hn | hn <;> first | exact hn | cases hn
    cases h
    exact lv_ldc2 hx hb hown (hts _ hlk) hd (kk H locs lsA hP hD hS hl)
  case iload k =>
    obtain rfl : n = 2 := by rcases hn with hn | hn <;> first | exact hn | cases hn
    simp only [amStep] at h
    obtain ⟨s1, h1, rfl⟩ := Option.map_eq_some_iff.mp h
    obtain ⟨v, hv, hp1, rfl⟩ := amLd_s h1
    obtain ⟨x, rfl⟩ := amIsI_s hp1
    exact lv_iload hx hb hd (amGet_has hl hv) (kk H locs lsA hP hD hS hl)
  case iload_n k =>
    obtain rfl : n = 1 := by rcases hn with hn | hn <;> first | exact hn | cases hn
    simp only [amStep] at h
    obtain ⟨s1, h1, rfl⟩ := Option.map_eq_some_iff.mp h
    obtain ⟨v, hv, hp1, rfl⟩ := amLd_s h1
    obtain ⟨x, rfl⟩ := amIsI_s hp1
    exact lv_iload_n hx hb hd rfl (amGet_has hl hv) (kk H locs lsA hP hD hS hl)
  case lload k =>
    obtain rfl : n = 2 := by rcases hn with hn | hn <;> first | exact hn | cases hn
    simp only [amStep] at h
    obtain ⟨s1, h1, rfl⟩ := Option.map_eq_some_iff.mp h
    obtain ⟨v, hv, hp1, rfl⟩ := amLd_s h1
    obtain ⟨x, rfl⟩ := amIsJ_s hp1
    exact lv_lload hx hb hd (amGet_has hl hv) (kk H locs lsA hP hD hS hl)
  case lload_n k =>
    obtain rfl : n = 1 := by rcases hn with hn | hn <;> first | exact hn | cases hn
    simp only [amStep] at h
    obtain ⟨s1, h1, rfl⟩ := Option.map_eq_some_iff.mp h
    obtain ⟨v, hv, hp1, rfl⟩ := amLd_s h1
    obtain ⟨x, rfl⟩ := amIsJ_s hp1
    exact lv_lload_n hx hb hd rfl (amGet_has hl hv) (kk H locs lsA hP hD hS hl)
  case dload k =>
    obtain rfl : n = 2 := by rcases hn with hn | hn <;> first | exact hn | cases hn
    simp only [amStep] at h
    obtain ⟨s1, h1, rfl⟩ := Option.map_eq_some_iff.mp h
    obtain ⟨v, hv, hp1, rfl⟩ := amLd_s h1
    obtain ⟨x, rfl⟩ := amIsD_s hp1
    exact lv_dload hx hb hd (amGet_has hl hv) (kk H locs lsA hP hD hS hl)
  case dload_n k =>
    obtain rfl : n = 1 := by rcases hn with hn | hn <;> first | exact hn | cases hn
    simp only [amStep] at h
    obtain ⟨s1, h1, rfl⟩ := Option.map_eq_some_iff.mp h
    obtain ⟨v, hv, hp1, rfl⟩ := amLd_s h1
    obtain ⟨x, rfl⟩ := amIsD_s hp1
    exact lv_dload_n hx hb hd rfl (amGet_has hl hv) (kk H locs lsA hP hD hS hl)
  case aload k =>
    obtain rfl : n = 2 := by rcases hn with hn | hn <;> first | exact hn | cases hn
    simp only [amStep] at h
    obtain ⟨s1, h1, rfl⟩ := Option.map_eq_some_iff.mp h
    obtain ⟨v, hv, hp1, rfl⟩ := amLd_s h1
    rcases amIsA_s hp1 with rfl | ⟨x, rfl⟩
    · exact lv_aloadN hx hb hd (amGet_has hl hv) (kk H locs lsA hP hD hS hl)
    · exact lv_aload hx hb hd (amGet_has hl hv) (kk H locs lsA hP hD hS hl)
  case aload_n k =>
    obtain rfl : n = 1 := by rcases hn with hn | hn <;> first | exact hn | cases hn
    simp only [amStep] at h
    obtain ⟨s1, h1, rfl⟩ := Option.map_eq_some_iff.mp h
    obtain ⟨v, hv, hp1, rfl⟩ := amLd_s h1
    rcases amIsA_s hp1 with rfl | ⟨x, rfl⟩
    · exact lv_aload_nN hx hb hd rfl (amGet_has hl hv) (kk H locs lsA hP hD hS hl)
    · exact lv_aload_n hx hb hd rfl (amGet_has hl hv) (kk H locs lsA hP hD hS hl)
  case istore k =>
    obtain rfl : n = 2 := by rcases hn with hn | hn <;> first | exact hn | cases hn
    simp only [amStep] at h
    obtain ⟨s1, h1, rfl⟩ := Option.map_eq_some_iff.mp h
    obtain ⟨v, q, rfl, hp1, hk, rfl⟩ := amSt1_s h1
    obtain ⟨x, rfl⟩ := amIsI_s hp1
    exact lv_istore hx hb hd hl hk (amSet1_ls ad ls k (.int x)) (fun ls1 hl1 => kk H locs ls1 hP hD hS hl1)
  case istore_n k =>
    obtain rfl : n = 1 := by rcases hn with hn | hn <;> first | exact hn | cases hn
    simp only [amStep] at h
    obtain ⟨s1, h1, rfl⟩ := Option.map_eq_some_iff.mp h
    obtain ⟨v, q, rfl, hp1, hk, rfl⟩ := amSt1_s h1
    obtain ⟨x, rfl⟩ := amIsI_s hp1
    exact lv_istore_n hx hb hd rfl hl hk (amSet1_ls ad ls (k : Nat) (.int x)) (fun ls1 hl1 => kk H locs ls1 hP hD hS hl1)
  case lstore k =>
    obtain rfl : n = 2 := by rcases hn with hn | hn <;> first | exact hn | cases hn
    simp only [amStep] at h
    obtain ⟨s1, h1, rfl⟩ := Option.map_eq_some_iff.mp h
    obtain ⟨v, q, rfl, hp1, hk, rfl⟩ := amSt2_s h1
    obtain ⟨x, rfl⟩ := amIsJ_s hp1
    exact lv_lstore hx hb hd hl hk (amSet2_ls ad ls k (.long x)) (fun ls1 hl1 => kk H locs ls1 hP hD hS hl1)
  case lstore_n k =>
    obtain rfl : n = 1 := by rcases hn with hn | hn <;> first | exact hn | cases hn
    simp only [amStep] at h
    obtain ⟨s1, h1, rfl⟩ := Option.map_eq_some_iff.mp h
    obtain ⟨v, q, rfl, hp1, hk, rfl⟩ := amSt2_s h1
    obtain ⟨x, rfl⟩ := amIsJ_s hp1
    exact lv_lstore_n hx hb hd rfl hl hk (amSet2_ls ad ls (k : Nat) (.long x)) (fun ls1 hl1 => kk H locs ls1 hP hD hS hl1)
  case dstore k =>
    obtain rfl : n = 2 := by rcases hn with hn | hn <;> first | exact hn | cases hn
    simp only [amStep] at h
    obtain ⟨s1, h1, rfl⟩ := Option.map_eq_some_iff.mp h
    obtain ⟨v, q, rfl, hp1, hk, rfl⟩ := amSt2_s h1
    obtain ⟨x, rfl⟩ := amIsD_s hp1
    exact lv_dstore hx hb hd hl hk (amSet2_ls ad ls k (.double x)) (fun ls1 hl1 => kk H locs ls1 hP hD hS hl1)
  case astore k =>
    obtain rfl : n = 2 := by rcases hn with hn | hn <;> first | exact hn | cases hn
    simp only [amStep] at h
    obtain ⟨s1, h1, rfl⟩ := Option.map_eq_some_iff.mp h
    obtain ⟨v, q, rfl, hp1, hk, rfl⟩ := amSt1_s h1
    rcases amIsA_s hp1 with rfl | ⟨x, rfl⟩
    · exact lv_astoreN hx hb hd hl hk (amSet1_ls ad ls k .null) (fun ls1 hl1 => kk H locs ls1 hP hD hS hl1)
    · exact lv_astore hx hb hd hl hk (amSet1_ls ad ls k (.ref x)) (fun ls1 hl1 => kk H locs ls1 hP hD hS hl1)
  case astore_n k =>
    obtain rfl : n = 1 := by rcases hn with hn | hn <;> first | exact hn | cases hn
    simp only [amStep] at h
    obtain ⟨s1, h1, rfl⟩ := Option.map_eq_some_iff.mp h
    obtain ⟨v, q, rfl, hp1, hk, rfl⟩ := amSt1_s h1
    rcases amIsA_s hp1 with rfl | ⟨x, rfl⟩
    · exact lv_astore_nN hx hb hd rfl hl hk (amSet1_ls ad ls (k : Nat) .null) (fun ls1 hl1 => kk H locs ls1 hP hD hS hl1)
    · exact lv_astore_n hx hb hd rfl hl hk (amSet1_ls ad ls (k : Nat) (.ref x)) (fun ls1 hl1 => kk H locs ls1 hP hD hS hl1)
  case iinc k z =>
    obtain rfl : n = 3 := by rcases hn with hn | hn <;> first | exact hn | cases hn
    simp only [amStep] at h
    obtain ⟨s1, h1, rfl⟩ := Option.map_eq_some_iff.mp h
    obtain ⟨x, hv, hk, rfl⟩ := amInc_s h1
    obtain ⟨j, hj⟩ := List.getElem?_of_mem (amLs_mem (ad := ad) (amGet_mem hv))
    exact lv_iinc hx hb hd hl hj rfl hk (amSet1_ls ad ls k (.int (x + Int32.ofInt z))) (fun ls1 hl1 => kk H locs ls1 hP hD hS hl1)
  case dup =>
    obtain rfl : n = 1 := by rcases hn with hn | hn <;> first | exact hn | cases hn
    simp only [amStep] at h
    split at h
    · split at h
      · next v q e => cases h; exact lv_dup hx hb hd (by rw [amV_cat]; exact e) (kk H locs lsA hP hD hS hl)
      · cases h
    · cases h
  case dup2 =>
    obtain rfl : n = 1 := by rcases hn with hn | hn <;> first | exact hn | cases hn
    simp only [amStep] at h
    split at h
    · split at h
      · next v w q e => cases h; exact lv_dup2_11 hx hb hd (by rw [amV_cat]; exact e.1) (by rw [amV_cat]; exact e.2) (kk H locs lsA hP hD hS hl)
      · cases h
    · cases h
  case pop =>
    obtain rfl : n = 1 := by rcases hn with hn | hn <;> first | exact hn | cases hn
    simp only [amStep] at h
    split at h
    · split at h
      · next v q e => cases h; exact lv_pop hx hb hd (by rw [amV_cat]; exact e) (kk H locs lsA hP hD hS hl)
      · cases h
    · cases h
  case iadd =>
    obtain rfl : n = 1 := by rcases hn with hn | hn <;> first | exact hn | cases hn
    simp only [amStep] at h
    obtain ⟨s1, h1, rfl⟩ := Option.map_eq_some_iff.mp h
    obtain ⟨x, y, q, rfl, rfl⟩ := amII_s h1
    exact lv_iadd hx hb hd (kk H locs lsA hP hD hS hl)
  case isub =>
    obtain rfl : n = 1 := by rcases hn with hn | hn <;> first | exact hn | cases hn
    simp only [amStep] at h
    obtain ⟨s1, h1, rfl⟩ := Option.map_eq_some_iff.mp h
    obtain ⟨x, y, q, rfl, rfl⟩ := amII_s h1
    exact lv_isub hx hb hd (kk H locs lsA hP hD hS hl)
  case imul =>
    obtain rfl : n = 1 := by rcases hn with hn | hn <;> first | exact hn | cases hn
    simp only [amStep] at h
    obtain ⟨s1, h1, rfl⟩ := Option.map_eq_some_iff.mp h
    obtain ⟨x, y, q, rfl, rfl⟩ := amII_s h1
    exact lv_imul hx hb hd (kk H locs lsA hP hD hS hl)
  case iand =>
    obtain rfl : n = 1 := by rcases hn with hn | hn <;> first | exact hn | cases hn
    simp only [amStep] at h
    obtain ⟨s1, h1, rfl⟩ := Option.map_eq_some_iff.mp h
    obtain ⟨x, y, q, rfl, rfl⟩ := amII_s h1
    exact lv_iand hx hb hd (kk H locs lsA hP hD hS hl)
  case ior =>
    obtain rfl : n = 1 := by rcases hn with hn | hn <;> first | exact hn | cases hn
    simp only [amStep] at h
    obtain ⟨s1, h1, rfl⟩ := Option.map_eq_some_iff.mp h
    obtain ⟨x, y, q, rfl, rfl⟩ := amII_s h1
    exact lv_ior hx hb hd (kk H locs lsA hP hD hS hl)
  case ixor =>
    obtain rfl : n = 1 := by rcases hn with hn | hn <;> first | exact hn | cases hn
    simp only [amStep] at h
    obtain ⟨s1, h1, rfl⟩ := Option.map_eq_some_iff.mp h
    obtain ⟨x, y, q, rfl, rfl⟩ := amII_s h1
    exact lv_ixor hx hb hd (kk H locs lsA hP hD hS hl)
  case ishl =>
    obtain rfl : n = 1 := by rcases hn with hn | hn <;> first | exact hn | cases hn
    simp only [amStep] at h
    obtain ⟨s1, h1, rfl⟩ := Option.map_eq_some_iff.mp h
    obtain ⟨x, y, q, rfl, rfl⟩ := amII_s h1
    exact lv_ishl hx hb hd (kk H locs lsA hP hD hS hl)
  case ishr =>
    obtain rfl : n = 1 := by rcases hn with hn | hn <;> first | exact hn | cases hn
    simp only [amStep] at h
    obtain ⟨s1, h1, rfl⟩ := Option.map_eq_some_iff.mp h
    obtain ⟨x, y, q, rfl, rfl⟩ := amII_s h1
    exact lv_ishr hx hb hd (kk H locs lsA hP hD hS hl)
  case iushr =>
    obtain rfl : n = 1 := by rcases hn with hn | hn <;> first | exact hn | cases hn
    simp only [amStep] at h
    obtain ⟨s1, h1, rfl⟩ := Option.map_eq_some_iff.mp h
    obtain ⟨x, y, q, rfl, rfl⟩ := amII_s h1
    exact lv_iushr hx hb hd rfl (kk H locs lsA hP hD hS hl)
  case idiv =>
    obtain rfl : n = 1 := by rcases hn with hn | hn <;> first | exact hn | cases hn
    simp only [amStep] at h
    obtain ⟨s1, h1, rfl⟩ := Option.map_eq_some_iff.mp h
    obtain ⟨x, y, q, rfl, hne, rfl⟩ := amDiv_s h1
    exact lv_idiv hx hb hd hne (kk H locs lsA hP hD hS hl)
  case irem =>
    obtain rfl : n = 1 := by rcases hn with hn | hn <;> first | exact hn | cases hn
    simp only [amStep] at h
    obtain ⟨s1, h1, rfl⟩ := Option.map_eq_some_iff.mp h
    obtain ⟨x, y, q, rfl, hne, rfl⟩ := amDiv_s h1
    exact lv_irem hx hb hd hne (kk H locs lsA hP hD hS hl)
  case ineg =>
    obtain rfl : n = 1 := by rcases hn with hn | hn <;> first | exact hn | cases hn
    simp only [amStep] at h
    obtain ⟨s1, h1, rfl⟩ := Option.map_eq_some_iff.mp h
    obtain ⟨x, q, rfl, rfl⟩ := amI_s h1
    exact lv_ineg hx hb hd (kk H locs lsA hP hD hS hl)
  case i2b =>
    obtain rfl : n = 1 := by rcases hn with hn | hn <;> first | exact hn | cases hn
    simp only [amStep] at h
    obtain ⟨s1, h1, rfl⟩ := Option.map_eq_some_iff.mp h
    obtain ⟨x, q, rfl, rfl⟩ := amI_s h1
    exact lv_i2b hx hb hd rfl (kk H locs lsA hP hD hS hl)
  case i2l =>
    obtain rfl : n = 1 := by rcases hn with hn | hn <;> first | exact hn | cases hn
    simp only [amStep] at h
    obtain ⟨s1, h1, rfl⟩ := Option.map_eq_some_iff.mp h
    obtain ⟨x, q, rfl, rfl⟩ := amI_s h1
    exact lv_i2l hx hb hd rfl (kk H locs lsA hP hD hS hl)
  case i2f =>
    obtain rfl : n = 1 := by rcases hn with hn | hn <;> first | exact hn | cases hn
    simp only [amStep] at h
    obtain ⟨s1, h1, rfl⟩ := Option.map_eq_some_iff.mp h
    obtain ⟨x, q, rfl, rfl⟩ := amI_s h1
    exact lv_i2f hx hb hd (kk H locs lsA hP hD hS hl)
  case i2d =>
    obtain rfl : n = 1 := by rcases hn with hn | hn <;> first | exact hn | cases hn
    simp only [amStep] at h
    obtain ⟨s1, h1, rfl⟩ := Option.map_eq_some_iff.mp h
    obtain ⟨x, q, rfl, rfl⟩ := amI_s h1
    exact lv_i2d hx hb hd (kk H locs lsA hP hD hS hl)
  case l2i =>
    obtain rfl : n = 1 := by rcases hn with hn | hn <;> first | exact hn | cases hn
    simp only [amStep] at h
    obtain ⟨s1, h1, rfl⟩ := Option.map_eq_some_iff.mp h
    obtain ⟨x, q, rfl, rfl⟩ := amJ_s h1
    exact lv_l2i hx hb hd rfl (kk H locs lsA hP hD hS hl)
  case lneg =>
    obtain rfl : n = 1 := by rcases hn with hn | hn <;> first | exact hn | cases hn
    simp only [amStep] at h
    obtain ⟨s1, h1, rfl⟩ := Option.map_eq_some_iff.mp h
    obtain ⟨x, q, rfl, rfl⟩ := amJ_s h1
    exact lv_lneg hx hb hd (kk H locs lsA hP hD hS hl)
  case ladd =>
    obtain rfl : n = 1 := by rcases hn with hn | hn <;> first | exact hn | cases hn
    simp only [amStep] at h
    obtain ⟨s1, h1, rfl⟩ := Option.map_eq_some_iff.mp h
    obtain ⟨x, y, q, rfl, rfl⟩ := amLL_s h1
    exact lv_ladd hx hb hd (kk H locs lsA hP hD hS hl)
  case lsub =>
    obtain rfl : n = 1 := by rcases hn with hn | hn <;> first | exact hn | cases hn
    simp only [amStep] at h
    obtain ⟨s1, h1, rfl⟩ := Option.map_eq_some_iff.mp h
    obtain ⟨x, y, q, rfl, rfl⟩ := amLL_s h1
    exact lv_lsub hx hb hd (kk H locs lsA hP hD hS hl)
  case land =>
    obtain rfl : n = 1 := by rcases hn with hn | hn <;> first | exact hn | cases hn
    simp only [amStep] at h
    obtain ⟨s1, h1, rfl⟩ := Option.map_eq_some_iff.mp h
    obtain ⟨x, y, q, rfl, rfl⟩ := amLL_s h1
    exact lv_land hx hb hd (kk H locs lsA hP hD hS hl)
  case lor =>
    obtain rfl : n = 1 := by rcases hn with hn | hn <;> first | exact hn | cases hn
    simp only [amStep] at h
    obtain ⟨s1, h1, rfl⟩ := Option.map_eq_some_iff.mp h
    obtain ⟨x, y, q, rfl, rfl⟩ := amLL_s h1
    exact lv_lor hx hb hd (kk H locs lsA hP hD hS hl)
  case lcmp =>
    obtain rfl : n = 1 := by rcases hn with hn | hn <;> first | exact hn | cases hn
    simp only [amStep] at h
    obtain ⟨s1, h1, rfl⟩ := Option.map_eq_some_iff.mp h
    obtain ⟨x, y, q, rfl, rfl⟩ := amLL_s h1
    exact W.lcmp hx hb hd (kk H locs lsA hP hD hS hl)
  case lshl =>
    obtain rfl : n = 1 := by rcases hn with hn | hn <;> first | exact hn | cases hn
    simp only [amStep] at h
    obtain ⟨s1, h1, rfl⟩ := Option.map_eq_some_iff.mp h
    obtain ⟨x, y, q, rfl, rfl⟩ := amLI_s h1
    exact lv_lshl hx hb hd rfl (kk H locs lsA hP hD hS hl)
  case lshr =>
    obtain rfl : n = 1 := by rcases hn with hn | hn <;> first | exact hn | cases hn
    simp only [amStep] at h
    obtain ⟨s1, h1, rfl⟩ := Option.map_eq_some_iff.mp h
    obtain ⟨x, y, q, rfl, rfl⟩ := amLI_s h1
    exact lv_lshr hx hb hd rfl (kk H locs lsA hP hD hS hl)
  case lushr =>
    obtain rfl : n = 1 := by rcases hn with hn | hn <;> first | exact hn | cases hn
    simp only [amStep] at h
    obtain ⟨s1, h1, rfl⟩ := Option.map_eq_some_iff.mp h
    obtain ⟨x, y, q, rfl, rfl⟩ := amLI_s h1
    exact lv_lushr hx hb hd rfl (kk H locs lsA hP hD hS hl)
  case fdiv =>
    obtain rfl : n = 1 := by rcases hn with hn | hn <;> first | exact hn | cases hn
    simp only [amStep] at h
    split at h
    · split at h
      · next e => cases h; exact lv_fdiv hx hb hd e (kk H locs lsA hP hD hS hl)
      · cases h
    · cases h
  case ddiv =>
    obtain rfl : n = 1 := by rcases hn with hn | hn <;> first | exact hn | cases hn
    simp only [amStep] at h
    split at h
    · split at h
      · next e => cases h; exact lv_ddiv hx hb hd e (kk H locs lsA hP hD hS hl)
      · cases h
    · cases h
  case f2d =>
    obtain rfl : n = 1 := by rcases hn with hn | hn <;> first | exact hn | cases hn
    simp only [amStep] at h
    split at h
    · split at h
      · next e => cases h; exact lv_f2d hx hb hd e (kk H locs lsA hP hD hS hl)
      · cases h
    · cases h
  case dcmp op =>
    obtain rfl : n = 1 := by rcases hn with hn | hn <;> first | exact hn | cases hn
    simp only [amStep] at h
    split at h
    · cases h; exact lv_dcmp hx hb hd (kk H locs lsA hP hD hS hl)
    · cases h
  case goto z =>
    obtain rfl : n = 3 := by rcases hn with hn | hn <;> first | exact hn | cases hn
    cases h
    exact lv_goto hx hb hd hlk (kk H locs lsA hP hD hS hl)
  case ifCond cd z =>
    obtain rfl : n = 3 := by rcases hn with hn | hn <;> first | exact hn | cases hn
    simp only [amStep] at h
    obtain ⟨s1, h1, rfl⟩ := Option.map_eq_some_iff.mp h
    obtain ⟨x, q, rfl, rfl⟩ := amIf_s h1
    have k0 := kk H locs lsA hP hD hS hl
    dsimp only at k0
    cases cd
    case eq => exact lv_if_eq hx hb hd hlk (fun e2 => by rw [show amIfP .eq x = true from decide_eq_true e2, if_pos rfl] at k0; exact k0) (fun e2 => by rw [show amIfP .eq x = false from decide_eq_false e2, if_neg (by decide)] at k0; exact k0)
    case ne => exact lv_if_ne hx hb hd hlk (fun e2 => by rw [show amIfP .ne x = true from decide_eq_true e2, if_pos rfl] at k0; exact k0) (fun e2 => by rw [show amIfP .ne x = false from decide_eq_false (fun z => z e2), if_neg (by decide)] at k0; exact k0)
    case lt => exact lv_if_lt hx hb hd hlk (fun e2 => by rw [show amIfP .lt x = true from decide_eq_true e2, if_pos rfl] at k0; exact k0) (fun e2 => by rw [show amIfP .lt x = false from decide_eq_false e2, if_neg (by decide)] at k0; exact k0)
    case ge => exact lv_if_ge hx hb hd hlk (fun e2 => by rw [show amIfP .ge x = true from decide_eq_true e2, if_pos rfl] at k0; exact k0) (fun e2 => by rw [show amIfP .ge x = false from decide_eq_false e2, if_neg (by decide)] at k0; exact k0)
    case gt => exact lv_if_gt hx hb hd hlk (fun e2 => by rw [show amIfP .gt x = true from decide_eq_true e2, if_pos rfl] at k0; exact k0) (fun e2 => by rw [show amIfP .gt x = false from decide_eq_false e2, if_neg (by decide)] at k0; exact k0)
    case le => exact lv_if_le hx hb hd hlk (fun e2 => by rw [show amIfP .le x = true from decide_eq_true e2, if_pos rfl] at k0; exact k0) (fun e2 => by rw [show amIfP .le x = false from decide_eq_false e2, if_neg (by decide)] at k0; exact k0)
  case if_icmp cd z =>
    obtain rfl : n = 3 := by rcases hn with hn | hn <;> first | exact hn | cases hn
    simp only [amStep] at h
    obtain ⟨s1, h1, rfl⟩ := Option.map_eq_some_iff.mp h
    obtain ⟨x, y, q, rfl, rfl⟩ := amCmp_s h1
    have k0 := kk H locs lsA hP hD hS hl
    dsimp only at k0
    cases cd
    case eq => exact lv_icmp_eq hx hb hd hlk (fun e2 => by rw [show amCmpP .eq x y = true from decide_eq_true e2, if_pos rfl] at k0; exact k0) (fun e2 => by rw [show amCmpP .eq x y = false from decide_eq_false e2, if_neg (by decide)] at k0; exact k0)
    case ne => exact lv_icmp_ne hx hb hd hlk (fun e2 => by rw [show amCmpP .ne x y = true from decide_eq_true e2, if_pos rfl] at k0; exact k0) (fun e2 => by rw [show amCmpP .ne x y = false from decide_eq_false (fun z => z e2), if_neg (by decide)] at k0; exact k0)
    case lt => exact lv_icmp_lt hx hb hd hlk (fun e2 => by rw [show amCmpP .lt x y = true from decide_eq_true e2, if_pos rfl] at k0; exact k0) (fun e2 => by rw [show amCmpP .lt x y = false from decide_eq_false e2, if_neg (by decide)] at k0; exact k0)
    case ge => exact lv_icmp_ge hx hb hd hlk (fun e2 => by rw [show amCmpP .ge x y = true from decide_eq_true e2, if_pos rfl] at k0; exact k0) (fun e2 => by rw [show amCmpP .ge x y = false from decide_eq_false e2, if_neg (by decide)] at k0; exact k0)
    case gt => exact lv_icmp_gt hx hb hd hlk (fun e2 => by rw [show amCmpP .gt x y = true from decide_eq_true e2, if_pos rfl] at k0; exact k0) (fun e2 => by rw [show amCmpP .gt x y = false from decide_eq_false e2, if_neg (by decide)] at k0; exact k0)
    case le => exact lv_icmp_le hx hb hd hlk (fun e2 => by rw [show amCmpP .le x y = true from decide_eq_true e2, if_pos rfl] at k0; exact k0) (fun e2 => by rw [show amCmpP .le x y = false from decide_eq_false e2, if_neg (by decide)] at k0; exact k0)
  case ifnull z =>
    obtain rfl : n = 3 := by rcases hn with hn | hn <;> first | exact hn | cases hn
    simp only [amStep] at h
    split at h
    · cases h; exact lv_ifnull hx hb hd (kk H locs lsA hP hD hS hl)
    · cases h; exact lv_ifnullN hx hb hd hlk (kk H locs lsA hP hD hS hl)
    · cases h
  case ifnonnull z =>
    obtain rfl : n = 3 := by rcases hn with hn | hn <;> first | exact hn | cases hn
    simp only [amStep] at h
    split at h
    · cases h; exact lv_ifnonnull hx hb hd hlk (kk H locs lsA hP hD hS hl)
    · cases h; exact lv_ifnonnullN hx hb hd (kk H locs lsA hP hD hS hl)
    · cases h
  case tableswitch d lo hi offs =>
    simp only [amStep] at h
    obtain ⟨s1, h1, rfl⟩ := Option.map_eq_some_iff.mp h
    unfold amTbl at h1
    split at h1
    · next x q =>
      split at h1
      · next o ho =>
        split at h1
        · next e =>
          cases h1
          by_cases hr : x.toInt < lo ∨ hi < x.toInt
          · unfold amOff at ho
            rw [if_pos hr] at ho
            cases ho
            exact lv_tableOut hx hb hd hr (Int.toNat_of_nonneg e).symm (kk H locs lsA hP hD hS hl)
          · unfold amOff at ho
            rw [if_neg hr] at ho
            exact lv_tableIn hx hb hd (fun z => hr (Or.inl z)) (fun z => hr (Or.inr z)) ho (Int.toNat_of_nonneg e).symm (kk H locs lsA hP hD hS hl)
        · cases h1
      · cases h1
    · cases h1
  case getfield k =>
    obtain rfl : n = 3 := by rcases hn with hn | hn <;> first | exact hn | cases hn
    simp only [amStep] at h
    obtain ⟨s1, h1, rfl⟩ := Option.map_eq_some_iff.mp h
    obtain ⟨o, q, fs, v, rfl, hc, hlt, hv, rfl⟩ := amFGet_s h1
    obtain ⟨⟨C, T, N⟩, hr, hkN, hw⟩ := hlk
    have hg := amW_get (dA := dA) (ad := ad) hc
    rw [amE_obj hlt] at hg
    exact va_get (D := D) hx hb hts (hus _ _ hr) hown hK hP o hg hr b hkN (hts _ hw) (fun _ h => h) (v := amV ad v) (by simp [hv]) hd (kk H locs lsA hP hD hS hl)
  case putfield k =>
    obtain rfl : n = 3 := by rcases hn with hn | hn <;> first | exact hn | cases hn
    simp only [amStep] at h
    obtain ⟨s1, h1, rfl⟩ := Option.map_eq_some_iff.mp h
    obtain ⟨v, o, q, fs, rfl, hc, hlt, hlen, hnar, hfit, rfl⟩ := amFSet_s h1
    obtain ⟨⟨C, T, N⟩, hr, hkN, hw, hfin⟩ := hlk
    obtain ⟨hty, hnm⟩ := hcl _ _ hr
    have hg := amW_get (dA := dA) (ad := ad) hc
    rw [amE_obj hlt] at hg
    have hset : (amW dA ad hp).set o (ad o, .inr (a, (fs.map (amV ad)).set b (amV ad v))) = amW dA ad (hp.set o (a, fs.set b v)) := by
      rw [← amW_set, amE_obj hlt, List.map_set]
    have kk2 : ∀ (H1 : Heap) (locs1 : List Loc), va_P D vwCl ((amW dA ad hp).set o (ad o, .inr (a, (fs.map (amV ad)).set b (amV ad v)))) H1 → va_D A ((amW dA ad hp).set o (ad o, .inr (a, (fs.map (amV ad)).set b (amV ad v)))) → va_S A H0 H1 locs1 → W p l e R s m args below meth c H1 locs1 cells slots Q (F0 m (pc + 3) lsA (q.map (amV ad))) := fun H1 locs1 h2 h3 h4 => kk H1 locs1 lsA (hset ▸ h2) (hset ▸ h3) h4 hl
    by_cases hf : (T b).2.2.2 = true
    · obtain ⟨hi, ho⟩ := hfin hf
      exact va_putF (D := D) hx hb hts (hus _ _ hr) (amFty a) hty hnm hown hK hP hD hS o hg hr b hkN (hts _ hw) (fun _ h => h) hf (hini hi) ho (hty b hkN) (amV_narrow hnar) (amV_fits hfit) (by rw [List.length_map]; exact hlen) hd kk2
    · exact va_put (D := D) hx hb hts (hus _ _ hr) (amFty a) hty hnm hown hK hP hD hS o hg hr b hkN (hts _ hw) (fun _ h => h) (Bool.eq_false_iff.mpr hf) (hty b hkN) (amV_narrow hnar) (amV_fits hfit) (by rw [List.length_map]; exact hlen) hd kk2
  case iaload =>
    obtain rfl : n = 1 := by rcases hn with hn | hn <;> first | exact hn | cases hn
    simp only [amStep] at h
    split at h
    · next s1 hs1 =>
      cases h
      obtain ⟨i, q, l9, h0, rfl, hin, rfl⟩ := amSc_s hs1
      obtain ⟨hX, hbl, hbA⟩ := hsc l9 h0
      exact va_sld hx hb hX hbl hbA hS hin hd (kk H locs lsA hP hD hS hl)
    · obtain ⟨s1, h1, rfl⟩ := Option.map_eq_some_iff.mp h
      obtain ⟨i, o, q, cs, rfl, hc, hin, hpv, rfl⟩ := amALd_s h1
      have hg := amW_get (dA := dA) (ad := ad) hc
      have k0 := kk H locs lsA hP hD hS hl
      exact va_iald (D := D) hx hb hK hP o 0 hg rfl hin hd (W.eq (congrArg (fun v => F0 m (pc + 1) lsA (v :: q.map (amV ad))) (amIsI_v (ad := ad) hpv).symm) k0)
  case laload =>
    obtain rfl : n = 1 := by rcases hn with hn | hn <;> first | exact hn | cases hn
    simp only [amStep] at h
    obtain ⟨s1, h1, rfl⟩ := Option.map_eq_some_iff.mp h
    obtain ⟨i, o, q, cs, rfl, hc, hin, hpv, rfl⟩ := amALd_s h1
    have hg := amW_get (dA := dA) (ad := ad) hc
    have k0 := kk H locs lsA hP hD hS hl
    exact va_lald (D := D) hx hb hK hP o 1 hg rfl hin hd (W.eq (congrArg (fun v => F0 m (pc + 1) lsA (v :: q.map (amV ad))) (amIsJ_v (ad := ad) hpv).symm) k0)
  case baload =>
    obtain rfl : n = 1 := by rcases hn with hn | hn <;> first | exact hn | cases hn
    simp only [amStep] at h
    obtain ⟨s1, h1, rfl⟩ := Option.map_eq_some_iff.mp h
    obtain ⟨i, o, q, cs, rfl, hc, hin, hpv, rfl⟩ := amALd_s h1
    have hg := amW_get (dA := dA) (ad := ad) hc
    have k0 := kk H locs lsA hP hD hS hl
    exact va_bald (D := D) hx hb hK hP o 2 hg rfl hin hd (W.eq (congrArg (fun v => F0 m (pc + 1) lsA (v :: q.map (amV ad))) (amIsI_v (ad := ad) hpv).symm) k0)
  case aaload =>
    obtain rfl : n = 1 := by rcases hn with hn | hn <;> first | exact hn | cases hn
    simp only [amStep] at h
    obtain ⟨s1, h1, rfl⟩ := Option.map_eq_some_iff.mp h
    obtain ⟨i, o, q, cs, rfl, hc, hin, hpv, rfl⟩ := amALd_s h1
    have hg := amW_get (dA := dA) (ad := ad) hc
    have k0 := kk H locs lsA hP hD hS hl
    exact va_aldq (D := D) hx hb hK hP o 3 hg rfl hin hd (W.eq (congrArg (fun v => F0 m (pc + 1) lsA (v :: q.map (amV ad))) (amIsA_v (ad := ad) hpv).symm) k0)
  case iastore =>
    obtain rfl : n = 1 := by rcases hn with hn | hn <;> first | exact hn | cases hn
    simp only [amStep] at h
    obtain ⟨s1, h1, rfl⟩ := Option.map_eq_some_iff.mp h
    obtain ⟨v, i, o, q, cs, rfl, hc, hin, hpv, rfl⟩ := amASt_s h1
    obtain ⟨x, rfl⟩ := amIsI_s hpv
    have hg := amW_get (dA := dA) (ad := ad) hc
    have hset : (amW dA ad hp).set o (ad o, .inl (dA 0, cs.length, .inl (upd (fun j => amInt (cs.getD j .null)) i.toNatClampNeg x))) = amW dA ad (hp.set o (32, cs.set i.toNatClampNeg (.int x))) := by
      rw [← amW_set]
      show _ = (amW dA ad hp).set o (ad o, .inl (dA 0, (cs.set i.toNatClampNeg _).length, _))
      rw [am_set_i (amIn_lt hin) rfl, List.length_set]
      rfl
    exact va_iast (D := D) hx hb hK hP hD hS o 0 hg rfl hin hd (fun H1 locs1 h2 h3 h4 => kk H1 locs1 lsA (hset ▸ h2) (hset ▸ h3) h4 hl)
  case lastore =>
    obtain rfl : n = 1 := by rcases hn with hn | hn <;> first | exact hn | cases hn
    simp only [amStep] at h
    obtain ⟨s1, h1, rfl⟩ := Option.map_eq_some_iff.mp h
    obtain ⟨v, i, o, q, cs, rfl, hc, hin, hpv, rfl⟩ := amASt_s h1
    obtain ⟨x, rfl⟩ := amIsJ_s hpv
    have hg := amW_get (dA := dA) (ad := ad) hc
    have hset : (amW dA ad hp).set o (ad o, .inl (dA 1, cs.length, .inr (.inl (vp_updL (fun j => amLong (cs.getD j .null)) i.toNatClampNeg x)))) = amW dA ad (hp.set o (33, cs.set i.toNatClampNeg (.long x))) := by
      rw [← amW_set]
      show _ = (amW dA ad hp).set o (ad o, .inl (dA 1, (cs.set i.toNatClampNeg _).length, _))
      rw [am_set_l (amIn_lt hin) rfl, List.length_set]
      rfl
    exact va_last (D := D) hx hb hK hP hD hS o 1 hg rfl hin hd (fun H1 locs1 h2 h3 h4 => kk H1 locs1 lsA (hset ▸ h2) (hset ▸ h3) h4 hl)
  case bastore =>
    obtain rfl : n = 1 := by rcases hn with hn | hn <;> first | exact hn | cases hn
    simp only [amStep] at h
    obtain ⟨s1, h1, rfl⟩ := Option.map_eq_some_iff.mp h
    obtain ⟨v, i, o, q, cs, rfl, hc, hin, hpv, rfl⟩ := amASt_s h1
    obtain ⟨x, rfl⟩ := amIsI_s hpv
    have hg := amW_get (dA := dA) (ad := ad) hc
    have hset : (amW dA ad hp).set o (ad o, .inl (dA 2, cs.length, .inl (upd (fun j => amInt (cs.getD j .null)) i.toNatClampNeg (vp_nar .byte x)))) = amW dA ad (hp.set o (34, cs.set i.toNatClampNeg (.int (vp_nar .byte x)))) := by
      rw [← amW_set]
      show _ = (amW dA ad hp).set o (ad o, .inl (dA 2, (cs.set i.toNatClampNeg _).length, _))
      rw [am_set_i (amIn_lt hin) rfl, List.length_set]
      rfl
    exact va_bast (D := D) hx hb hK hP hD hS o 2 hg rfl hin hd (fun H1 locs1 h2 h3 h4 => kk H1 locs1 lsA (hset ▸ h2) (hset ▸ h3) h4 hl)
  case aastore =>
    obtain rfl : n = 1 := by rcases hn with hn | hn <;> first | exact hn | cases hn
    simp only [amStep] at h
    obtain ⟨s1, h1, rfl⟩ := Option.map_eq_some_iff.mp h
    obtain ⟨v, i, o, q, cs, rfl, hc, hin, hpv, rfl⟩ := amASt_s h1
    unfold amIsSn at hpv
    split at hpv
    · next k =>
      split at hpv
      · next cv hcv =>
        obtain ⟨t, fs⟩ := cv
        have ht : t = 6 := of_decide_eq_true hpv
        subst ht
        have hg := amW_get (dA := dA) (ad := ad) hc
        have hgv := amW_get (dA := dA) (ad := ad) hcv
        rw [amE_obj (by decide)] at hgv
        have hset : (amW dA ad hp).set o (ad o, .inl (dA 3, cs.length, .inr (.inr (.inr (.inr (va_up (fun j => amRef ad (cs.getD j .null)) i.toNatClampNeg (some (ad k)))))))) = amW dA ad (hp.set o (35, cs.set i.toNatClampNeg (.ref k))) := by
          rw [← amW_set]
          show _ = (amW dA ad hp).set o (ad o, .inl (dA 3, (cs.set i.toNatClampNeg _).length, _))
          rw [am_set_q (amIn_lt hin) rfl, List.length_set]
        exact va_astq (D := D) (r := (RX7, TX7, 4)) hx hb hK hP hD hS o 3 k 6 hg rfl hgv rfl hin hd (fun H1 locs1 h2 h3 h4 => kk H1 locs1 lsA (hset ▸ h2) (hset ▸ h3) h4 hl)
      · cases hpv
    · cases hpv
  case arraylength =>
    obtain rfl : n = 1 := by rcases hn with hn | hn <;> first | exact hn | cases hn
    simp only [amStep] at h
    split at h
    · next s1 hs1 =>
      cases h
      obtain ⟨q, l9, h0, rfl, rfl⟩ := amScLen_s hs1
      obtain ⟨hX, hbl, hbA⟩ := hsc l9 h0
      exact va_slen hx hb hX hbl hbA hS hd (kk H locs lsA hP hD hS hl)
    · obtain ⟨s1, h1, rfl⟩ := Option.map_eq_some_iff.mp h
      obtain ⟨o, q, t, cs, rfl, hc, ht1, ht2, rfl⟩ := amLen_s h1
      have hg := amW_get (dA := dA) (ad := ad) hc
      rcases (show t = 32 ∨ t = 33 ∨ t = 34 ∨ t = 35 by omega) with rfl | rfl | rfl | rfl
      · exact va_alen (D := D) hx hb hK hP o 0 hg rfl rfl hd (kk H locs lsA hP hD hS hl)
      · exact va_alen (D := D) hx hb hK hP o 1 hg rfl rfl hd (kk H locs lsA hP hD hS hl)
      · exact va_alen (D := D) hx hb hK hP o 2 hg rfl rfl hd (kk H locs lsA hP hD hS hl)
      · exact va_alen (D := D) hx hb hK hP o 3 hg rfl rfl hd (kk H locs lsA hP hD hS hl)
end AMS
end
/-! ##### 04.run ##### -/
section
/-! ===== the abstract machine: making, calling, ending; whole runs ===== -/
abbrev amIn1 : Type := Instr × Nat × Nat
abbrev amP : Type := List (Nat × amIn1)
/-- a method: its code; how many locals; how many arguments, the receiver with them; is it a constructor; what it answers; its handlers (from, to, at, exception, local, behind); its class's place -/
abbrev amM : Type := amP × Nat × Nat × Bool × Option FieldType × List (Nat × Nat × Nat × Nat × Nat × Nat) × Nat
/-- what comes of an instruction: on (with cells and slots made), an answer, a throw, a call (method, arguments, the rest of the stack) -/
abbrev amAct : Type := (amR × Nat × Nat) ⊕ Option Value ⊕ Nat ⊕ (Nat × List Value × List Value)
abbrev amRes : Type := (Option Value ⊕ Nat) × amH × Nat × Nat
noncomputable def amOk (n : Nat) : Value → Bool
  | .ref i => decide (i < n) || decide (amK ≤ i)
  | _ => true
noncomputable def amOkL (n : Nat) (ls : amL) : Bool := ls.all (fun q => amOk n q.2)
noncomputable def amOkS (n : Nat) (st : List Value) : Bool := st.all (amOk n)
noncomputable def amOkH (n : Nat) (hp : amH) : Bool := hp.all (fun c => (decide (32 ≤ c.1) && decide (c.1 ≤ 34)) || c.2.all (amOk n))
noncomputable def amDef (ci : Nat) : List Value := match vwCl[ci]? with
  | some r => (List.range r.2.2).map (fun k => defaultValue (amFty ci k))
  | none => []
noncomputable def amKind : ArrayType → Option (Nat × Value)
  | .int => some (32, .int 0)
  | .long => some (33, .long 0)
  | .byte => some (34, .int 0)
  | _ => none
/-- a new cell at the end -/
noncomputable def amMake (pc : Nat) (ls : amL) (r : List Value) (hp : amH) (c : amC) : Option amAct :=
  if (amOkL hp.length ls && amOkS hp.length r && amOkH hp.length hp && decide (hp.length < amK)) = true then some (.inl ((pc, ls, .ref hp.length :: r, hp ++ [c]), 1, c.2.length)) else none
noncomputable def amMakeA (pc : Nat) (ls : amL) (hp : amH) (k : Option (Nat × Value)) : List Value → Option amAct
  | .int x :: r => match k with
    | some (t, v) => if ¬ x < 0 ∧ x.toNatClampNeg ≤ 100000 then amMake pc ls r hp (t, List.replicate x.toNatClampNeg v) else none
    | none => none
  | _ => none
noncomputable def amCopy (pc : Nat) (ls : amL) (hp : amH) : List Value → Option amAct
  | .int n :: .int dp :: .ref a :: .int sp :: .ref a0 :: r => match hp[a0]?, hp[a]? with
    | some c0, some c1 => if c0.1 = 32 ∧ c1.1 = 32 ∧ ¬ sp < 0 ∧ ¬ dp < 0 ∧ ¬ n < 0 ∧ sp.toNatClampNeg + n.toNatClampNeg ≤ c0.2.length ∧ dp.toNatClampNeg + n.toNatClampNeg ≤ c1.2.length ∧ (r.map fun v => v.category).sum ≤ 8 then
        some (.inl ((pc, ls, r, hp.set a (32, c1.2.take dp.toNatClampNeg ++ ((c0.2.drop sp.toNatClampNeg).take n.toNatClampNeg ++ c1.2.drop (dp.toNatClampNeg + n.toNatClampNeg)))), 0, 0)) else none
    | _, _ => none
  | _ => none
noncomputable def amObj (pc : Nat) (ls : amL) (hp : amH) : List Value → Option amAct
  | .ref _ :: r => if (r.map fun v => v.category).sum ≤ 8 then some (.inl ((pc, ls, r, hp), 0, 0)) else none
  | _ => none
/-- the words whose letters are read: their numbers, their bytes -/
noncomputable def amSl : List (Nat × List Int32) := [(0, [112, 111, 105, 110, 116, 115]), (1, [100, 101, 118, 101, 108, 111, 112]), (2, [116, 114, 105, 112, 108, 101]), (19, [112, 111, 105, 110, 116, 115]), (20, [116, 114, 105, 112, 108, 101]), (21, [100, 101, 118, 101, 108, 111, 112])]
noncomputable def amWd (r : Nat) : Option (List Int32) := if amK ≤ r then (amSl.find? (fun q => q.1 == r - amK)).map (fun q => q.2) else none
theorem amWd_s {r : Nat} {l : List Int32} (h : amWd r = some l) : ∃ k, r = amK + k ∧ (k, l) ∈ amSl := by
  unfold amWd at h
  split at h
  · next e =>
    obtain ⟨q, h1, h2⟩ := Option.map_eq_some_iff.mp h
    have h3 := List.find?_some h1
    refine ⟨r - amK, by omega, ?_⟩
    have h4 : q.1 = r - amK := by simpa using h3
    rw [← h4, ← h2]
    exact List.mem_of_find?_eq_some h1
  · cases h
noncomputable def amLenS (pc : Nat) (ls : amL) (hp : amH) : List Value → Option amAct
  | .ref r :: q => match amWd r with
    | some l => if (q.map fun v => v.category).sum ≤ 8 then some (.inl ((pc, ls, .int (Int32.ofNat l.length) :: q, hp), 0, 0)) else none
    | none => none
  | _ => none
noncomputable def amChrS (pc : Nat) (ls : amL) (hp : amH) : List Value → Option amAct
  | .int i :: .ref r :: q => match amWd r with
    | some l => if amIn i l.length = true ∧ (q.map fun v => v.category).sum ≤ 8 then some (.inl ((pc, ls, .int (l.getD i.toNatClampNeg 0) :: q, hp), 0, 0)) else none
    | none => none
  | _ => none
theorem amLenS_s {pc : Nat} {ls : amL} {hp : amH} {st : List Value} {x : amAct} (h : amLenS pc ls hp st = some x) : ∃ k l q, (k, l) ∈ amSl ∧ st = .ref (amK + k) :: q ∧ (q.map fun v => v.category).sum ≤ 8 ∧ x = .inl ((pc, ls, .int (Int32.ofNat l.length) :: q, hp), 0, 0) := by
  unfold amLenS at h
  split at h
  · next r q =>
    split at h
    · next l e =>
      obtain ⟨k, rfl, hk⟩ := amWd_s e
      split at h
      · next e2 => cases h; exact ⟨k, l, q, hk, rfl, e2, rfl⟩
      · cases h
    · cases h
  · cases h
theorem amChrS_s {pc : Nat} {ls : amL} {hp : amH} {st : List Value} {x : amAct} (h : amChrS pc ls hp st = some x) : ∃ i k l q, (k, l) ∈ amSl ∧ st = .int i :: .ref (amK + k) :: q ∧ vp_in i l.length ∧ (q.map fun v => v.category).sum ≤ 8 ∧ x = .inl ((pc, ls, .int (l.getD i.toNatClampNeg 0) :: q, hp), 0, 0) := by
  unfold amChrS at h
  split at h
  · next i r q =>
    split at h
    · next l e =>
      obtain ⟨k, rfl, hk⟩ := amWd_s e
      split at h
      · next e2 => cases h; exact ⟨i, k, l, q, hk, rfl, amIn_s e2.1, e2.2, rfl⟩
      · cases h
    · cases h
  · cases h
noncomputable def amRetV (ret : Option FieldType) (i : Instr) (st : List Value) : Option (Option Value) :=
  match i with
  | .ireturn => match ret, st with
    | some ty, [.int x] => if narrow ty (.int x) = .int x then some (some (.int x)) else none
    | _, _ => none
  | .lreturn => match ret, st with
    | some .long, [.long x] => some (some (.long x))
    | _, _ => none
  | .freturn => match ret, st with
    | some .float, [.float x] => some (some (.float x))
    | _, _ => none
  | .dreturn => match ret, st with
    | some .double, [.double x] => some (some (.double x))
    | _, _ => none
  | .return_ => match ret, st with
    | none, [] => some none
    | _, _ => none
  | _ => none
/-- the receiver: of the class at the place ci (virt), or any cell (a constructor), or none (static) -/
noncomputable def amRecv (k ci : Nat) (hp : amH) : List Value → Bool
  | .ref o :: _ => if k = 0 then (match hp[o]? with
      | some c => decide (c.1 = ci ∧ ci < 32)
      | none => false) else true
  | _ => decide (k = 1)
/-- k: 0 by the receiver's class, 1 static, 2 a constructor -/
noncomputable def amCall (G : Nat → Option amM) (k a : Nat) (ls : amL) (st : List Value) (hp : amH) : Option amAct := match G a with
  | some N => if N.2.2.1 ≤ st.length ∧ ((st.take N.2.2.1).map fun v => v.category).sum ≤ N.2.1 ∧ (amOkL hp.length ls && amOkS hp.length (st.drop N.2.2.1) && amRecv k N.2.2.2.2.2.2 hp (st.take N.2.2.1).reverse) = true ∧ ((st.drop N.2.2.1).map fun v => v.category).sum ≤ 8 then
      some (.inr (.inr (.inr (a, (st.take N.2.2.1).reverse, st.drop N.2.2.1)))) else none
  | none => none
noncomputable def amDo (G : Nat → Option amM) (M : amM) (sc : Option (List Int32)) (i : Instr) (a b : Nat) (pc : Nat) (ls : amL) (st : List Value) (hp : amH) : Option amAct :=
  match i with
  | .new _ => if b = 0 then amMake (pc + 3) ls st hp (a, amDef a) else if (st.map fun v => v.category).sum ≤ 8 ∧ M.2.2.2.2.2.1 = [] then some (.inr (.inr (.inl a))) else none
  | .newarray t => amMakeA (pc + 2) ls hp (amKind t) st
  | .anewarray _ => amMakeA (pc + 3) ls hp (some (35, .null)) st
  | .invokevirtual _ => if b = 7 then amLenS (pc + 3) ls hp st else if b = 8 then amChrS (pc + 3) ls hp st else amCall G 0 a ls st hp
  | .invokestatic _ => if b = 6 then amCopy (pc + 3) ls hp st else amCall G 1 a ls st hp
  | .invokespecial _ => if b = 5 then amObj (pc + 3) ls hp st else amCall G 2 a ls st hp
  | .ireturn => (amRetV M.2.2.2.2.1 .ireturn st).map (fun v => .inr (.inl v))
  | .lreturn => (amRetV M.2.2.2.2.1 .lreturn st).map (fun v => .inr (.inl v))
  | .freturn => (amRetV M.2.2.2.2.1 .freturn st).map (fun v => .inr (.inl v))
  | .dreturn => (amRetV M.2.2.2.2.1 .dreturn st).map (fun v => .inr (.inl v))
  | .return_ => (amRetV M.2.2.2.2.1 .return_ st).map (fun v => .inr (.inl v))
  | j => (amStep sc M.2.1 j a b pc ls st hp).map (fun r => .inl (r, 0, 0))
noncomputable def amSeek (cs : amP) (pc : Nat) : amP := cs.dropWhile (fun q => q.1 != pc)
noncomputable def amNext (M : amM) (cs : amP) (pc : Nat) : amP := match cs with
  | q :: _ => if q.1 = pc then cs else amSeek M.1 pc
  | [] => amSeek M.1 pc
noncomputable def amHand (hs : List (Nat × Nat × Nat × Nat × Nat × Nat)) (pc E : Nat) : Option (Nat × Nat × Nat) := match hs with
  | [] => none
  | h :: r => if h.1 ≤ pc ∧ pc < h.2.1 ∧ h.2.2.2.1 = E then some (h.2.2.1, h.2.2.2.2) else amHand r pc E
noncomputable def amDrop (ls : amL) (i : Nat) : amL := ls.filter (fun q => !(q.1 == i) && !(q.1 + 1 == i && q.2.category == 2))
/-- the calls that may throw -/
noncomputable def amMay : Instr → Nat → Bool
  | .invokevirtual _, _ => true
  | .invokestatic _, b => decide (b = 0)
  | _, _ => false
/-- a run: f steps at most, calls d deep at most -/
noncomputable def amRun (G : Nat → Option amM) (sc : Option (List Int32)) : Nat → Nat → amM → amP → Nat → amL → List Value → amH → Nat → Nat → Option amRes
  | 0, _, _, _, _, _, _, _, _, _ => none
  | _ + 1, _, _, [], _, _, _, _, _, _ => none
  | f + 1, d, M, q :: cs, pc, ls, st, hp, kc, ks =>
    if q.1 = pc then
      match amDo G M sc q.2.1 q.2.2.1 q.2.2.2 pc ls st hp with
      | none => none
      | some (.inl (r, dk, ds)) => amRun G sc f d M (amNext M cs r.1) r.1 r.2.1 r.2.2.1 r.2.2.2 (kc + dk) (ks + ds)
      | some (.inr (.inl v)) => some (.inl v, hp, kc, ks)
      | some (.inr (.inr (.inl E))) => some (.inr E, hp, kc + 1, ks + 6)
      | some (.inr (.inr (.inr (k, av, rest)))) =>
        match d, G k with
        | d' + 1, some N =>
          match amRun G none f d' N N.1 0 (lv_args 0 av) [] hp 0 0 with
          | some (.inl v, hp1, mc, ms) => amRun G sc f (d' + 1) M (amNext M cs (pc + 3)) (pc + 3) ls (v.toList ++ rest) hp1 (kc + mc) (ks + ms)
          | some (.inr E, hp1, mc, ms) =>
            if amMay q.2.1 q.2.2.2 = false then none
            else if M.2.2.2.2.2.1 = [] then some (.inr E, hp1, kc + mc, ks + ms)
            else match amHand M.2.2.2.2.2.1 pc E with
              | some (_, x, to) => amRun G sc f (d' + 1) M (amSeek M.1 to) to (amDrop ls x) [] hp1 (kc + mc) (ks + ms)
              | none => none
          | none => none
        | _, _ => none
    else none
theorem amStep_len {sc : Option (List Int32)} {nL : Nat} {i : Instr} {a b pc : Nat} {ls : amL} {st : List Value} {hp : amH} {r : amR} (h : amStep sc nL i a b pc ls st hp = some r) : r.2.2.2.length = hp.length := by
  cases i
  all_goals first
    | exact absurd (show (none : Option amR) = some r from h) (by intro z; cases z)
    | (cases h; rfl)
    | (simp only [amStep] at h
       obtain ⟨s1, h1, rfl⟩ := Option.map_eq_some_iff.mp h
       first
         | rfl
         | (obtain ⟨v, i, o, q, cs, rfl, hc, hin, hpv, rfl⟩ := amASt_s h1; simp)
         | (obtain ⟨v, o, q, fs, rfl, hc, hlt, hlen, hnar, hfit, rfl⟩ := amFSet_s h1; simp))
    | (simp only [amStep] at h
       repeat' split at h
       all_goals first
         | (cases h; rfl)
         | cases h
         | (obtain ⟨s1, h1, rfl⟩ := Option.map_eq_some_iff.mp h; rfl))
theorem amMake_s {pc : Nat} {ls : amL} {r : List Value} {hp : amH} {c : amC} {x : amAct} (h : amMake pc ls r hp c = some x) : amOkL hp.length ls = true ∧ amOkS hp.length r = true ∧ amOkH hp.length hp = true ∧ hp.length < amK ∧ x = .inl ((pc, ls, .ref hp.length :: r, hp ++ [c]), 1, c.2.length) := by
  unfold amMake at h
  split at h
  · next e =>
    simp only [Bool.and_eq_true, decide_eq_true_eq] at e
    cases h
    exact ⟨e.1.1.1, e.1.1.2, e.1.2, e.2, rfl⟩
  · cases h
theorem amMakeA_s {pc : Nat} {ls : amL} {st : List Value} {hp : amH} {k : Option (Nat × Value)} {x : amAct} (h : amMakeA pc ls hp k st = some x) : ∃ n r t v, st = .int n :: r ∧ k = some (t, v) ∧ ¬ n < 0 ∧ n.toNatClampNeg ≤ 100000 ∧ amMake pc ls r hp (t, List.replicate n.toNatClampNeg v) = some x := by
  unfold amMakeA at h
  split at h
  · next n r =>
    split at h
    · next t v =>
      split at h
      · next e => exact ⟨n, r, t, v, rfl, rfl, e.1, e.2, h⟩
      · cases h
    · cases h
  · cases h
theorem amCopy_s {pc : Nat} {ls : amL} {st : List Value} {hp : amH} {x : amAct} (h : amCopy pc ls hp st = some x) : ∃ n dp a sp a0 r c0 c1, st = .int n :: .int dp :: .ref a :: .int sp :: .ref a0 :: r ∧ hp[a0]? = some (32, c0) ∧ hp[a]? = some (32, c1) ∧ ¬ sp < 0 ∧ ¬ dp < 0 ∧ ¬ n < 0 ∧ sp.toNatClampNeg + n.toNatClampNeg ≤ c0.length ∧ dp.toNatClampNeg + n.toNatClampNeg ≤ c1.length ∧ (r.map fun v => v.category).sum ≤ 8 ∧
    x = .inl ((pc, ls, r, hp.set a (32, c1.take dp.toNatClampNeg ++ ((c0.drop sp.toNatClampNeg).take n.toNatClampNeg ++ c1.drop (dp.toNatClampNeg + n.toNatClampNeg)))), 0, 0) := by
  unfold amCopy at h
  split at h
  · next n dp a sp a0 r =>
    split at h
    · next c0 c1 e0 e1 =>
      split at h
      · next e =>
        obtain ⟨t0, c0⟩ := c0
        obtain ⟨t1, c1⟩ := c1
        obtain ⟨q1, q2, q3, q4, q5, q6, q7, q8⟩ := e
        dsimp only at q1 q2 q6 q7
        subst q1; subst q2
        cases h
        exact ⟨n, dp, a, sp, a0, r, c0, c1, rfl, e0, e1, q3, q4, q5, q6, q7, q8, rfl⟩
      · cases h
    · cases h
  · cases h
theorem amObj_s {pc : Nat} {ls : amL} {st : List Value} {hp : amH} {x : amAct} (h : amObj pc ls hp st = some x) : ∃ a r, st = .ref a :: r ∧ (r.map fun v => v.category).sum ≤ 8 ∧ x = .inl ((pc, ls, r, hp), 0, 0) := by
  unfold amObj at h
  split at h
  · next a r =>
    split at h
    · next e => cases h; exact ⟨a, r, rfl, e, rfl⟩
    · cases h
  · cases h
theorem amCall_s {G : Nat → Option amM} {k a : Nat} {ls : amL} {st : List Value} {hp : amH} {x : amAct} (h : amCall G k a ls st hp = some x) : ∃ N av rest, G a = some N ∧ st = av.reverse ++ rest ∧ av.length = N.2.2.1 ∧ amOkL hp.length ls = true ∧ amOkS hp.length rest = true ∧ amRecv k N.2.2.2.2.2.2 hp av = true ∧ (rest.map fun v => v.category).sum ≤ 8 ∧ (av.map fun v => v.category).sum ≤ N.2.1 ∧ x = .inr (.inr (.inr (a, av, rest))) := by
  unfold amCall at h
  split at h
  · next N e =>
    split at h
    · next q =>
      obtain ⟨q1, q0, q2, q3⟩ := q
      simp only [Bool.and_eq_true] at q2
      cases h
      refine ⟨N, _, _, e, ?_, ?_, q2.1.1, q2.1.2, q2.2, q3, by rw [List.map_reverse, List.sum_reverse]; exact q0, rfl⟩
      · rw [List.reverse_reverse, List.take_append_drop]
      · rw [List.length_reverse, List.length_take]; omega
    · cases h
  · cases h
/-- what goes on leaves the cells in their places -/
theorem amDo_len {G : Nat → Option amM} {M : amM} {sc : Option (List Int32)} {i : Instr} {a b pc : Nat} {ls : amL} {st : List Value} {hp : amH} {r : amR} {dk ds : Nat} (h : amDo G M sc i a b pc ls st hp = some (.inl (r, dk, ds))) : hp.length ≤ r.2.2.2.length := by
  unfold amDo at h
  split at h
  case h_1 => 
    split at h
    · obtain ⟨-, -, -, -, e⟩ := amMake_s h; cases e; simp
    · split at h <;> cases h
  case h_2 => obtain ⟨n, q, t, v, rfl, -, -, -, h⟩ := amMakeA_s h; obtain ⟨-, -, -, -, e⟩ := amMake_s h; cases e; simp
  case h_3 => obtain ⟨n, q, t, v, rfl, -, -, -, h⟩ := amMakeA_s h; obtain ⟨-, -, -, -, e⟩ := amMake_s h; cases e; simp
  case h_4 =>
    split at h
    · obtain ⟨_, _, _, -, rfl, -, e⟩ := amLenS_s h; cases e; simp
    · split at h
      · obtain ⟨_, _, _, _, -, rfl, -, -, e⟩ := amChrS_s h; cases e; simp
      · obtain ⟨N, av, rest, -, -, -, -, -, -, -, -, e⟩ := amCall_s h; cases e
  case h_5 =>
    split at h
    · obtain ⟨n, dp, o, sp, a0, q, c0, c1, rfl, -, -, -, -, -, -, -, -, e⟩ := amCopy_s h; cases e; simp
    · obtain ⟨N, av, rest, -, -, -, -, -, -, -, -, e⟩ := amCall_s h; cases e
  case h_6 =>
    split at h
    · obtain ⟨o, q, rfl, -, e⟩ := amObj_s h; cases e; simp
    · obtain ⟨N, av, rest, -, -, -, -, -, -, -, -, e⟩ := amCall_s h; cases e
  case h_7 => obtain ⟨v, -, e⟩ := Option.map_eq_some_iff.mp h; cases e
  case h_8 => obtain ⟨v, -, e⟩ := Option.map_eq_some_iff.mp h; cases e
  case h_9 => obtain ⟨v, -, e⟩ := Option.map_eq_some_iff.mp h; cases e
  case h_10 => obtain ⟨v, -, e⟩ := Option.map_eq_some_iff.mp h; cases e
  case h_11 => obtain ⟨v, -, e⟩ := Option.map_eq_some_iff.mp h; cases e
  case h_12 => obtain ⟨v, h1, e⟩ := Option.map_eq_some_iff.mp h; cases e; rw [amStep_len h1]; exact Nat.le_refl _
theorem amRun_mono {G : Nat → Option amM} : ∀ (f : Nat) (sc : Option (List Int32)) (d : Nat) (M : amM) (cs : amP) (pc : Nat) (ls : amL) (st : List Value) (hp : amH) (kc ks : Nat) (x : Option Value ⊕ Nat) (hp1 : amH) (mc ms : Nat), amRun G sc f d M cs pc ls st hp kc ks = some (x, hp1, mc, ms) → kc ≤ mc ∧ ks ≤ ms ∧ hp.length ≤ hp1.length := by
  intro f
  induction f with
  | zero => intro sc d M cs pc ls st hp kc ks x hp1 mc ms h; unfold amRun at h; cases h
  | succ f ih =>
    intro sc d M cs pc ls st hp kc ks x hp1 mc ms h
    cases cs with
    | nil => unfold amRun at h; cases h
    | cons q cs =>
      unfold amRun at h
      split at h
      · split at h
        · cases h
        · next r dk ds e =>
          obtain ⟨h1, h2, h3⟩ := ih _ _ _ _ _ _ _ _ _ _ _ _ _ _ h
          have := amDo_len e
          exact ⟨by omega, by omega, by omega⟩
        · cases h; exact ⟨Nat.le_refl _, Nat.le_refl _, Nat.le_refl _⟩
        · cases h; exact ⟨Nat.le_add_right _ _, Nat.le_add_right _ _, Nat.le_refl _⟩
        · split at h
          · split at h
            · next e =>
              obtain ⟨g1, g2, g3⟩ := ih _ _ _ _ _ _ _ _ _ _ _ _ _ _ e
              obtain ⟨h1, h2, h3⟩ := ih _ _ _ _ _ _ _ _ _ _ _ _ _ _ h
              exact ⟨by omega, by omega, by omega⟩
            · next e =>
              obtain ⟨g1, g2, g3⟩ := ih _ _ _ _ _ _ _ _ _ _ _ _ _ _ e
              split at h
              · cases h
              split at h
              · cases h; exact ⟨by omega, by omega, by omega⟩
              · split at h
                · obtain ⟨h1, h2, h3⟩ := ih _ _ _ _ _ _ _ _ _ _ _ _ _ _ h
                  exact ⟨by omega, by omega, by omega⟩
                · cases h
            · cases h
          · cases h
      · cases h
end
