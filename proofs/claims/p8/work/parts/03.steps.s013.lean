section AMS
variable {p : Program} {l : Launch} {e : Env} {R : Room} {s : State} {m : MethodId} {args : Array Value} {below : List Frame} {meth : Method} {c : Code} {H : Heap} {locs : List Loc} {cells slots : Nat} {Q : State → Prop}
variable {cc : ByteArray} {D : va_G} {dA : Nat → ClassId} {A : Nat → Prop} {H0 : Heap}
set_option maxHeartbeats 4000000 in
set_option maxRecDepth 20000 in
theorem amStep_ok (hx : p.tables.exec = Jvm.exec) (hb : c.code = cc) {Ts : List Jvm.Cond} (hts : ∀ w ∈ Ts, w.before args s = true) {own : String} (hown : s.vm.findClass own = some m.cls) (hK : va_K D vwCl (amTys dA) s) (hus : ∀ (ci : Nat) (r : vw_C), vwCl[ci]? = some r → ∀ w ∈ u_ws r.1 r.2.1 r.2.2, w ∈ Ts) (hcl : amClOk) {ini : Bool} (hini : ini = true → meth.name = "<init>") {sA : Nat → Nat} (hstr : ∀ (k : Nat) (r : String × Nat × String), amStr[k]? = some r → vk_R r.1 r.2.1 r.2.2 (sA k) s) {sc : Option (List Int32)} {ad : Nat → Nat} (hsA : ∀ k, ad (amK + k) = sA k) (hsc : ∀ l9, sc = some l9 → va_X (ad amS) l9.length (fun j => l9.getD j 0) s H0 ∧ ad amS < H0.size ∧ ¬ A (ad amS))
    {nL pc a b : Nat} {i : Instr} (hd : ∃ n, decode cc pc = .ok (i, n) ∧ (amSz i = 0 ∨ n = amSz i)) (hlk : amLk Ts own ini pc i a b) {ls : amL} {st : List Value} {hp : amH} {r : amR} (h : amStep sc nL i a b pc ls st hp = some r) {lsA : Array Slot} (hl : lv_has lsA nL (amLs ad ls)) (hP : va_P D vwCl (amW dA ad hp) H) (hD : va_D A (amW dA ad hp)) (hS : va_S A H0 H locs)
    (kk : ∀ (H1 : Heap) (locs1 : List Loc) (lsA1 : Array Slot), va_P D vwCl (amW dA ad r.2.2.2) H1 → va_D A (amW dA ad r.2.2.2) → va_S A H0 H1 locs1 → lv_has lsA1 nL (amLs ad r.2.1) → W p l e R s m args below meth c H1 locs1 cells slots Q (F0 m r.1 lsA1 (r.2.2.1.map (amV ad)))) :
    W p l e R s m args below meth c H locs cells slots Q (F0 m pc lsA (st.map (amV ad))) := by
  obtain ⟨n, hd, hn⟩ := hd
  cases i
  all_goals first
    | exact absurd (show (none : Option amR) = some r from h) (by intro z; cases z)
    | skip
  case iconst z =>
    obtain rfl : n = 1 := by rcases hn with hn | hn <;> first | exact hn | cases hn
    cases h
    exact lv_iconst hx hb hd rfl (kk H locs lsA hP hD hS hl)
  case bipush z =>
    obtain rfl : n = 2 := by rcases hn with hn | hn <;> first | exact hn | cases hn
    cases h
    exact lv_bipush hx hb hd rfl (kk H locs lsA hP hD hS hl)
  case sipush z =>
    obtain rfl : n = 3 := by rcases hn with hn | hn <;> first | exact hn | cases hn
    cases h
    exact lv_sipush hx hb hd rfl (kk H locs lsA hP hD hS hl)
  case lconst z =>
    obtain rfl : n = 1 := by rcases hn with hn | hn <;> first | exact hn | cases hn
    cases h
    exact lv_lconst hx hb hd rfl (kk H locs lsA hP hD hS hl)
  case fconst z =>
    obtain rfl : n = 1 := by rcases hn with hn | hn <;> first | exact hn | cases hn
    simp only [amStep] at h
    split at h
    · next e => subst e; cases h; exact lv_fconst0 hx hb hd (kk H locs lsA hP hD hS hl)
    · cases h
  case dconst z =>
    obtain rfl : n = 1 := by rcases hn with hn | hn <;> first | exact hn | cases hn
    simp only [amStep] at h
    split at h
    · next e => subst e; cases h; exact lv_dconst0 hx hb hd (kk H locs lsA hP hD hS hl)
    · cases h
  case ldc z =>
    obtain rfl : n = 2 := by rcases hn with hn | hn <;> first | exact hn | cases hn
    simp only [amStep] at h
    split at h
    · next e => cases h; exact lv_ldc hx hb hown (hts _ (hlk.1 e)) hd (kk H locs lsA hP hD hS hl)
    · next e =>
      cases h
      obtain ⟨tx, ht⟩ := hlk.2 e
      have k0 := kk H locs lsA hP hD hS hl
      have e2 : amV ad (.ref (amK + a)) = .ref (sA a) := by show Value.ref (ad (amK + a)) = _; rw [hsA]
      exact va_ldcS hx hb hown (hstr _ _ ht) hd (W.eq (congrArg (fun v => F0 m (pc + 2) lsA (v :: st.map (amV ad))) e2.symm) k0)
  case ldc_w z =>
    obtain rfl : n = 3 := by rcases hn with hn | hn <;> first | exact hn | cases hn
    simp only [amStep] at h
    split at h
    · next e => cases h; exact lv_ldcw hx hb hown (hts _ (hlk.1 e)) hd (kk H locs lsA hP hD hS hl)
    · next e =>
      cases h
      obtain ⟨tx, ht⟩ := hlk.2 e
      have k0 := kk H locs lsA hP hD hS hl
      have e2 : amV ad (.ref (amK + a)) = .ref (sA a) := by show Value.ref (ad (amK + a)) = _; rw [hsA]
      exact am_ldcwS hx hb hown (hstr _ _ ht) hd (W.eq (congrArg (fun v => F0 m (pc + 3) lsA (v :: st.map (amV ad))) e2.symm) k0)
  case ldc2_w z =>
    obtain rfl : n = 3 := by rcases hn with hn | hn <;> first | exact hn | cases hn
    cases h
    exact lv_ldc2 hx hb hown (hts _ hlk) hd (kk H locs lsA hP hD hS hl)
  case iload k =>
    obtain rfl : n = 2 := by rcases hn with hn | hn <;> first | exact hn | cases hn
    simp only [amStep] at h
    obtain ⟨s1, h1, rfl⟩ := Option.map_eq_some_iff.mp h
    obtain ⟨v, hv, hp1, rfl⟩ := amLd_s h1
    obtain ⟨x, rfl⟩ := amIsI_s hp1
    exact lv_iload hx hb hd (amGet_has hl hv) (kk H locs lsA hP hD hS hl)
  case iload_n k =>
    obtain rfl : n = 1 := by rcases hn with hn | hn <;> first | exact hn | cases hn
    simp only [amStep] at h
    obtain ⟨s1, h1, rfl⟩ := Option.map_eq_some_iff.mp h
    obtain ⟨v, hv, hp1, rfl⟩ := amLd_s h1
    obtain ⟨x, rfl⟩ := amIsI_s hp1
    exact lv_iload_n hx hb hd rfl (amGet_has hl hv) (kk H locs lsA hP hD hS hl)
  case lload k =>
    obtain rfl : n = 2 := by rcases hn with hn | hn <;> first | exact hn | cases hn
    simp only [amStep] at h
    obtain ⟨s1, h1, rfl⟩ := Option.map_eq_some_iff.mp h
    obtain ⟨v, hv, hp1, rfl⟩ := amLd_s h1
    obtain ⟨x, rfl⟩ := amIsJ_s hp1
    exact lv_lload hx hb hd (amGet_has hl hv) (kk H locs lsA hP hD hS hl)
  case lload_n k =>
    obtain rfl : n = 1 := by rcases hn with hn | hn <;> first | exact hn | cases hn
    simp only [amStep] at h
    obtain ⟨s1, h1, rfl⟩ := Option.map_eq_some_iff.mp h
    obtain ⟨v, hv, hp1, rfl⟩ := amLd_s h1
    obtain ⟨x, rfl⟩ := amIsJ_s hp1
    exact lv_lload_n hx hb hd rfl (amGet_has hl hv) (kk H locs lsA hP hD hS hl)
  case dload k =>
    obtain rfl : n = 2 := by rcases hn with hn | hn <;> first | exact hn | cases hn
    simp only [amStep] at h
    obtain ⟨s1, h1, rfl⟩ := Option.map_eq_some_iff.mp h
    obtain ⟨v, hv, hp1, rfl⟩ := amLd_s h1
    obtain ⟨x, rfl⟩ := amIsD_s hp1
    exact lv_dload hx hb hd (amGet_has hl hv) (kk H locs lsA hP hD hS hl)
  case dload_n k =>
    obtain rfl : n = 1 := by rcases hn with hn | hn <;> first | exact hn | cases hn
    simp only [amStep] at h
    obtain ⟨s1, h1, rfl⟩ := Option.map_eq_some_iff.mp h
    obtain ⟨v, hv, hp1, rfl⟩ := amLd_s h1
    obtain ⟨x, rfl⟩ := amIsD_s hp1
    exact lv_dload_n hx hb hd rfl (amGet_has hl hv) (kk H locs lsA hP hD hS hl)
  case aload k =>
    obtain rfl : n = 2 := by rcases hn with hn | hn <;> first | exact hn | cases hn
    simp only [amStep] at h
    obtain ⟨s1, h1, rfl⟩ := Option.map_eq_some_iff.mp h
    obtain ⟨v, hv, hp1, rfl⟩ := amLd_s h1
    rcases amIsA_s hp1 with rfl | ⟨x, rfl⟩
    · exact lv_aloadN hx hb hd (amGet_has hl hv) (kk H locs lsA hP hD hS hl)
    · exact lv_aload hx hb hd (amGet_has hl hv) (kk H locs lsA hP hD hS hl)
  case aload_n k =>
    obtain rfl : n = 1 := by rcases hn with hn | hn <;> first | exact hn | cases hn
    simp only [amStep] at h
    obtain ⟨s1, h1, rfl⟩ := Option.map_eq_some_iff.mp h
    obtain ⟨v, hv, hp1, rfl⟩ := amLd_s h1
    rcases amIsA_s hp1 with rfl | ⟨x, rfl⟩
    · exact lv_aload_nN hx hb hd rfl (amGet_has hl hv) (kk H locs lsA hP hD hS hl)
    · exact lv_aload_n hx hb hd rfl (amGet_has hl hv) (kk H locs lsA hP hD hS hl)
  case istore k =>
    obtain rfl : n = 2 := by rcases hn with hn | hn <;> first | exact hn | cases hn
    simp only [amStep] at h
    obtain ⟨s1, h1, rfl⟩ := Option.map_eq_some_iff.mp h
    obtain ⟨v, q, rfl, hp1, hk, rfl⟩ := amSt1_s h1
    obtain ⟨x, rfl⟩ := amIsI_s hp1
    exact lv_istore hx hb hd hl hk (amSet1_ls ad ls k (.int x)) (fun ls1 hl1 => kk H locs ls1 hP hD hS hl1)
  case istore_n k =>
    obtain rfl : n = 1 := by rcases hn with hn | hn <;> first | exact hn | cases hn
    simp only [amStep] at h
    obtain ⟨s1, h1, rfl⟩ := Option.map_eq_some_iff.mp h
    obtain ⟨v, q, rfl, hp1, hk, rfl⟩ := amSt1_s h1
    obtain ⟨x, rfl⟩ := amIsI_s hp1
    exact lv_istore_n hx hb hd rfl hl hk (amSet1_ls ad ls (k : Nat) (.int x)) (fun ls1 hl1 => kk H locs ls1 hP hD hS hl1)
  case lstore k =>
    obtain rfl : n = 2 := by rcases hn with hn | hn <;> first | exact hn | cases hn
    simp only [amStep] at h
    obtain ⟨s1, h1, rfl⟩ := Option.map_eq_some_iff.mp h
    obtain ⟨v, q, rfl, hp1, hk, rfl⟩ := amSt2_s h1
    obtain ⟨x, rfl⟩ := amIsJ_s hp1
    exact lv_lstore hx hb hd hl hk (amSet2_ls ad ls k (.long x)) (fun ls1 hl1 => kk H locs ls1 hP hD hS hl1)
  case lstore_n k =>
    obtain rfl : n = 1 := by rcases hn with hn | hn <;> first | exact hn | cases hn
    simp only [amStep] at h
    obtain ⟨s1, h1, rfl⟩ := Option.map_eq_some_iff.mp h
    obtain ⟨v, q, rfl, hp1, hk, rfl⟩ := amSt2_s h1
    obtain ⟨x, rfl⟩ := amIsJ_s hp1
    exact lv_lstore_n hx hb hd rfl hl hk (amSet2_ls ad ls (k : Nat) (.long x)) (fun ls1 hl1 => kk H locs ls1 hP hD hS hl1)
  case dstore k =>
    obtain rfl : n = 2 := by rcases hn with hn | hn <;> first | exact hn | cases hn
    simp only [amStep] at h
    obtain ⟨s1, h1, rfl⟩ := Option.map_eq_some_iff.mp h
    obtain ⟨v, q, rfl, hp1, hk, rfl⟩ := amSt2_s h1
    obtain ⟨x, rfl⟩ := amIsD_s hp1
    exact lv_dstore hx hb hd hl hk (amSet2_ls ad ls k (.double x)) (fun ls1 hl1 => kk H locs ls1 hP hD hS hl1)
  case astore k =>
    obtain rfl : n = 2 := by rcases hn with hn | hn <;> first | exact hn | cases hn
    simp only [amStep] at h
    obtain ⟨s1, h1, rfl⟩ := Option.map_eq_some_iff.mp h
    obtain ⟨v, q, rfl, hp1, hk, rfl⟩ := amSt1_s h1
    rcases amIsA_s hp1 with rfl | ⟨x, rfl⟩
    · exact lv_astoreN hx hb hd hl hk (amSet1_ls ad ls k .null) (fun ls1 hl1 => kk H locs ls1 hP hD hS hl1)
    · exact lv_astore hx hb hd hl hk (amSet1_ls ad ls k (.ref x)) (fun ls1 hl1 => kk H locs ls1 hP hD hS hl1)
  case astore_n k =>
    obtain rfl : n = 1 := by rcases hn with hn | hn <;> first | exact hn | cases hn
    simp only [amStep] at h
    obtain ⟨s1, h1, rfl⟩ := Option.map_eq_some_iff.mp h
    obtain ⟨v, q, rfl, hp1, hk, rfl⟩ := amSt1_s h1
    rcases amIsA_s hp1 with rfl | ⟨x, rfl⟩
    · exact lv_astore_nN hx hb hd rfl hl hk (amSet1_ls ad ls (k : Nat) .null) (fun ls1 hl1 => kk H locs ls1 hP hD hS hl1)
    · exact lv_astore_n hx hb hd rfl hl hk (amSet1_ls ad ls (k : Nat) (.ref x)) (fun ls1 hl1 => kk H locs ls1 hP hD hS hl1)
  case iinc k z =>
    obtain rfl : n = 3 := by rcases hn with hn | hn <;> first | exact hn | cases hn
    simp only [amStep] at h
    obtain ⟨s1, h1, rfl⟩ := Option.map_eq_some_iff.mp h
    obtain ⟨x, hv, hk, rfl⟩ := amInc_s h1
    obtain ⟨j, hj⟩ := List.getElem?_of_mem (amLs_mem (ad := ad) (amGet_mem hv))
    exact lv_iinc hx hb hd hl hj rfl hk (amSet1_ls ad ls k (.int (x + Int32.ofInt z))) (fun ls1 hl1 => kk H locs ls1 hP hD hS hl1)
  case dup =>
    obtain rfl : n = 1 := by rcases hn with hn | hn <;> first | exact hn | cases hn
    simp only [amStep] at h
    split at h
    · split at h
      · next v q e => cases h; exact lv_dup hx hb hd (by rw [amV_cat]; exact e) (kk H locs lsA hP hD hS hl)
      · cases h
    · cases h
  case dup2 =>
    obtain rfl : n = 1 := by rcases hn with hn | hn <;> first | exact hn | cases hn
    simp only [amStep] at h
    split at h
    · split at h
      · next v w q e => cases h; exact lv_dup2_11 hx hb hd (by rw [amV_cat]; exact e.1) (by rw [amV_cat]; exact e.2) (kk H locs lsA hP hD hS hl)
      · cases h
    · cases h
  case pop =>
    obtain rfl : n = 1 := by rcases hn with hn | hn <;> first | exact hn | cases hn
    simp only [amStep] at h
    split at h
    · split at h
      · next v q e => cases h; exact lv_pop hx hb hd (by rw [amV_cat]; exact e) (kk H locs lsA hP hD hS hl)
      · cases h
    · cases h
  case iadd =>
    obtain rfl : n = 1 := by rcases hn with hn | hn <;> first | exact hn | cases hn
    simp only [amStep] at h
    obtain ⟨s1, h1, rfl⟩ := Option.map_eq_some_iff.mp h
    obtain ⟨x, y, q, rfl, rfl⟩ := amII_s h1
    exact lv_iadd hx hb hd (kk H locs lsA hP hD hS hl)
  case isub =>
    obtain rfl : n = 1 := by rcases hn with hn | hn <;> first | exact hn | cases hn
    simp only [amStep] at h
    obtain ⟨s1, h1, rfl⟩ := Option.map_eq_some_iff.mp h
    obtain ⟨x, y, q, rfl, rfl⟩ := amII_s h1
    exact lv_isub hx hb hd (kk H locs lsA hP hD hS hl)
  case imul =>
    obtain rfl : n = 1 := by rcases hn with hn | hn <;> first | exact hn | cases hn
    simp only [amStep] at h
    obtain ⟨s1, h1, rfl⟩ := Option.map_eq_some_iff.mp h
    obtain ⟨x, y, q, rfl, rfl⟩ := amII_s h1
    exact lv_imul hx hb hd (kk H locs lsA hP hD hS hl)
  case iand =>
    obtain rfl : n = 1 := by rcases hn with hn | hn <;> first | exact hn | cases hn
    simp only [amStep] at h
    obtain ⟨s1, h1, rfl⟩ := Option.map_eq_some_iff.mp h
    obtain ⟨x, y, q, rfl, rfl⟩ := amII_s h1
    exact lv_iand hx hb hd (kk H locs lsA hP hD hS hl)
  case ior =>
    obtain rfl : n = 1 := by rcases hn with hn | hn <;> first | exact hn | cases hn
    simp only [amStep] at h
    obtain ⟨s1, h1, rfl⟩ := Option.map_eq_some_iff.mp h
    obtain ⟨x, y, q, rfl, rfl⟩ := amII_s h1
    exact lv_ior hx hb hd (kk H locs lsA hP hD hS hl)
  case ixor =>
    obtain rfl : n = 1 := by rcases hn with hn | hn <;> first | exact hn | cases hn
    simp only [amStep] at h
    obtain ⟨s1, h1, rfl⟩ := Option.map_eq_some_iff.mp h
    obtain ⟨x, y, q, rfl, rfl⟩ := amII_s h1
    exact lv_ixor hx hb hd (kk H locs lsA hP hD hS hl)
  case ishl =>
    obtain rfl : n = 1 := by rcases hn with hn | hn <;> first | exact hn | cases hn
    simp only [amStep] at h
    obtain ⟨s1, h1, rfl⟩ := Option.map_eq_some_iff.mp h
    obtain ⟨x, y, q, rfl, rfl⟩ := amII_s h1
    exact lv_ishl hx hb hd (kk H locs lsA hP hD hS hl)
  case ishr =>
    obtain rfl : n = 1 := by rcases hn with hn | hn <;> first | exact hn | cases hn
    simp only [amStep] at h
    obtain ⟨s1, h1, rfl⟩ := Option.map_eq_some_iff.mp h
    obtain ⟨x, y, q, rfl, rfl⟩ := amII_s h1
    exact lv_ishr hx hb hd (kk H locs lsA hP hD hS hl)
  case iushr =>
    obtain rfl : n = 1 := by rcases hn with hn | hn <;> first | exact hn | cases hn
    simp only [amStep] at h
    obtain ⟨s1, h1, rfl⟩ := Option.map_eq_some_iff.mp h
    obtain ⟨x, y, q, rfl, rfl⟩ := amII_s h1
    exact lv_iushr hx hb hd rfl (kk H locs lsA hP hD hS hl)
  case idiv =>
    obtain rfl : n = 1 := by rcases hn with hn | hn <;> first | exact hn | cases hn
    simp only [amStep] at h
    obtain ⟨s1, h1, rfl⟩ := Option.map_eq_some_iff.mp h
    obtain ⟨x, y, q, rfl, hne, rfl⟩ := amDiv_s h1
    exact lv_idiv hx hb hd hne (kk H locs lsA hP hD hS hl)
  case irem =>
    obtain rfl : n = 1 := by rcases hn with hn | hn <;> first | exact hn | cases hn
    simp only [amStep] at h
    obtain ⟨s1, h1, rfl⟩ := Option.map_eq_some_iff.mp h
    obtain ⟨x, y, q, rfl, hne, rfl⟩ := amDiv_s h1
    exact lv_irem hx hb hd hne (kk H locs lsA hP hD hS hl)
  case ineg =>
    obtain rfl : n = 1 := by rcases hn with hn | hn <;> first | exact hn | cases hn
    simp only [amStep] at h
    obtain ⟨s1, h1, rfl⟩ := Option.map_eq_some_iff.mp h
    obtain ⟨x, q, rfl, rfl⟩ := amI_s h1
    exact lv_ineg hx hb hd (kk H locs lsA hP hD hS hl)
  case i2b =>
    obtain rfl : n = 1 := by rcases hn with hn | hn <;> first | exact hn | cases hn
    simp only [amStep] at h
    obtain ⟨s1, h1, rfl⟩ := Option.map_eq_some_iff.mp h
    obtain ⟨x, q, rfl, rfl⟩ := amI_s h1
    exact lv_i2b hx hb hd rfl (kk H locs lsA hP hD hS hl)
  case i2l =>
    obtain rfl : n = 1 := by rcases hn with hn | hn <;> first | exact hn | cases hn
    simp only [amStep] at h
    obtain ⟨s1, h1, rfl⟩ := Option.map_eq_some_iff.mp h
    obtain ⟨x, q, rfl, rfl⟩ := amI_s h1
    exact lv_i2l hx hb hd rfl (kk H locs lsA hP hD hS hl)
  case i2f =>
    obtain rfl : n = 1 := by rcases hn with hn | hn <;> first | exact hn | cases hn
    simp only [amStep] at h
    obtain ⟨s1, h1, rfl⟩ := Option.map_eq_some_iff.mp h
    obtain ⟨x, q, rfl, rfl⟩ := amI_s h1
    exact lv_i2f hx hb hd (kk H locs lsA hP hD hS hl)
  case i2d =>
    obtain rfl : n = 1 := by rcases hn with hn | hn <;> first | exact hn | cases hn
    simp only [amStep] at h
    obtain ⟨s1, h1, rfl⟩ := Option.map_eq_some_iff.mp h
    obtain ⟨x, q, rfl, rfl⟩ := amI_s h1
    exact lv_i2d hx hb hd (kk H locs lsA hP hD hS hl)
  case l2i =>
    obtain rfl : n = 1 := by rcases hn with hn | hn <;> first | exact hn | cases hn
    simp only [amStep] at h
    obtain ⟨s1, h1, rfl⟩ := Option.map_eq_some_iff.mp h
    obtain ⟨x, q, rfl, rfl⟩ := amJ_s h1
    exact lv_l2i hx hb hd rfl (kk H locs lsA hP hD hS hl)
  case lneg =>
    obtain rfl : n = 1 := by rcases hn with hn | hn <;> first | exact hn | cases hn
    simp only [amStep] at h
    obtain ⟨s1, h1, rfl⟩ := Option.map_eq_some_iff.mp h
    obtain ⟨x, q, rfl, rfl⟩ := amJ_s h1
    exact lv_lneg hx hb hd (kk H locs lsA hP hD hS hl)
  case ladd =>
    obtain rfl : n = 1 := by rcases hn with hn | hn <;> first | exact hn | cases hn
    simp only [amStep] at h
    obtain ⟨s1, h1, rfl⟩ := Option.map_eq_some_iff.mp h
    obtain ⟨x, y, q, rfl, rfl⟩ := amLL_s h1
    exact lv_ladd hx hb hd (kk H locs lsA hP hD hS hl)
  case lsub =>
    obtain rfl : n = 1 := by rcases hn with hn | hn <;> first | exact hn | cases hn
    simp only [amStep] at h
    obtain ⟨s1, h1, rfl⟩ := Option.map_eq_some_iff.mp h
    obtain ⟨x, y, q, rfl, rfl⟩ := amLL_s h1
    exact lv_lsub hx hb hd (kk H locs lsA hP hD hS hl)
  case land =>
    obtain rfl : n = 1 := by rcases hn with hn | hn <;> first | exact hn | cases hn
    simp only [amStep] at h
    obtain ⟨s1, h1, rfl⟩ := Option.map_eq_some_iff.mp h
    obtain ⟨x, y, q, rfl, rfl⟩ := amLL_s h1
    exact lv_land hx hb hd (kk H locs lsA hP hD hS hl)
  case lor =>
    obtain rfl : n = 1 := by rcases hn with hn | hn <;> first | exact hn | cases hn
    simp only [amStep] at h
    obtain ⟨s1, h1, rfl⟩ := Option.map_eq_some_iff.mp h
    obtain ⟨x, y, q, rfl, rfl⟩ := amLL_s h1
    exact lv_lor hx hb hd (kk H locs lsA hP hD hS hl)
  case lcmp =>
    obtain rfl : n = 1 := by rcases hn with hn | hn <;> first | exact hn | cases hn
    simp only [amStep] at h
    obtain ⟨s1, h1, rfl⟩ := Option.map_eq_some_iff.mp h
    obtain ⟨x, y, q, rfl, rfl⟩ := amLL_s h1
    exact W.lcmp hx hb hd (kk H locs lsA hP hD hS hl)
  case lshl =>
    obtain rfl : n = 1 := by rcases hn with hn | hn <;> first | exact hn | cases hn
    simp only [amStep] at h
    obtain ⟨s1, h1, rfl⟩ := Option.map_eq_some_iff.mp h
    obtain ⟨x, y, q, rfl, rfl⟩ := amLI_s h1
    exact lv_lshl hx hb hd rfl (kk H locs lsA hP hD hS hl)
  case lshr =>
    obtain rfl : n = 1 := by rcases hn with hn | hn <;> first | exact hn | cases hn
    simp only [amStep] at h
    obtain ⟨s1, h1, rfl⟩ := Option.map_eq_some_iff.mp h
    obtain ⟨x, y, q, rfl, rfl⟩ := amLI_s h1
    exact lv_lshr hx hb hd rfl (kk H locs lsA hP hD hS hl)
  case lushr =>
    obtain rfl : n = 1 := by rcases hn with hn | hn <;> first | exact hn | cases hn
    simp only [amStep] at h
    obtain ⟨s1, h1, rfl⟩ := Option.map_eq_some_iff.mp h
    obtain ⟨x, y, q, rfl, rfl⟩ := amLI_s h1
    exact lv_lushr hx hb hd rfl (kk H locs lsA hP hD hS hl)
  case fdiv =>
    obtain rfl : n = 1 := by rcases hn with hn | hn <;> first | exact hn | cases hn
    simp only [amStep] at h
    split at h
    · split at h
      · next e => cases h; exact lv_fdiv hx hb hd e (kk H locs lsA hP hD hS hl)
      · cases h
    · cases h
  case ddiv =>
    obtain rfl : n = 1 := by rcases hn with hn | hn <;> first | exact hn | cases hn
    simp only [amStep] at h
    split at h
    · split at h
      · next e => cases h; exact lv_ddiv hx hb hd e (kk H locs lsA hP hD hS hl)
      · cases h
    · cases h
  case f2d =>
    obtain rfl : n = 1 := by rcases hn with hn | hn <;> first | exact hn | cases hn
    simp only [amStep] at h
    split at h
    · split at h
      · next e => cases h; exact lv_f2d hx hb hd e (kk H locs lsA hP hD hS hl)
      · cases h
    · cases h
  case dcmp op =>
    obtain rfl : n = 1 := by rcases hn with hn | hn <;> first | exact hn | cases hn
    simp only [amStep] at h
    split at h
    · cases h; exact lv_dcmp hx hb hd (kk H locs lsA hP hD hS hl)
    · cases h
  case goto z =>
    obtain rfl : n = 3 := by rcases hn with hn | hn <;> first | exact hn | cases hn
    cases h
    exact lv_goto hx hb hd hlk (kk H locs lsA hP hD hS hl)
  case ifCond cd z =>
    obtain rfl : n = 3 := by rcases hn with hn | hn <;> first | exact hn | cases hn
    simp only [amStep] at h
    obtain ⟨s1, h1, rfl⟩ := Option.map_eq_some_iff.mp h
    obtain ⟨x, q, rfl, rfl⟩ := amIf_s h1
    have k0 := kk H locs lsA hP hD hS hl
    dsimp only at k0
    cases cd
    case eq => exact lv_if_eq hx hb hd hlk (fun e2 => by rw [show amIfP .eq x = true from decide_eq_true e2, if_pos rfl] at k0; exact k0) (fun e2 => by rw [show amIfP .eq x = false from decide_eq_false e2, if_neg (by decide)] at k0; exact k0)
    case ne => exact lv_if_ne hx hb hd hlk (fun e2 => by rw [show amIfP .ne x = true from decide_eq_true e2, if_pos rfl] at k0; exact k0) (fun e2 => by rw [show amIfP .ne x = false from decide_eq_false (fun z => z e2), if_neg (by decide)] at k0; exact k0)
    case lt => exact lv_if_lt hx hb hd hlk (fun e2 => by rw [show amIfP .lt x = true from decide_eq_true e2, if_pos rfl] at k0; exact k0) (fun e2 => by rw [show amIfP .lt x = false from decide_eq_false e2, if_neg (by decide)] at k0; exact k0)
    case ge => exact lv_if_ge hx hb hd hlk (fun e2 => by rw [show amIfP .ge x = true from decide_eq_true e2, if_pos rfl] at k0; exact k0) (fun e2 => by rw [show amIfP .ge x = false from decide_eq_false e2, if_neg (by decide)] at k0; exact k0)
    case gt => exact lv_if_gt hx hb hd hlk (fun e2 => by rw [show amIfP .gt x = true from decide_eq_true e2, if_pos rfl] at k0; exact k0) (fun e2 => by rw [show amIfP .gt x = false from decide_eq_false e2, if_neg (by decide)] at k0; exact k0)
    case le => exact lv_if_le hx hb hd hlk (fun e2 => by rw [show amIfP .le x = true from decide_eq_true e2, if_pos rfl] at k0; exact k0) (fun e2 => by rw [show amIfP .le x = false from decide_eq_false e2, if_neg (by decide)] at k0; exact k0)
  case if_icmp cd z =>
    obtain rfl : n = 3 := by rcases hn with hn | hn <;> first | exact hn | cases hn
    simp only [amStep] at h
    obtain ⟨s1, h1, rfl⟩ := Option.map_eq_some_iff.mp h
    obtain ⟨x, y, q, rfl, rfl⟩ := amCmp_s h1
    have k0 := kk H locs lsA hP hD hS hl
    dsimp only at k0
    cases cd
    case eq => exact lv_icmp_eq hx hb hd hlk (fun e2 => by rw [show amCmpP .eq x y = true from decide_eq_true e2, if_pos rfl] at k0; exact k0) (fun e2 => by rw [show amCmpP .eq x y = false from decide_eq_false e2, if_neg (by decide)] at k0; exact k0)
    case ne => exact lv_icmp_ne hx hb hd hlk (fun e2 => by rw [show amCmpP .ne x y = true from decide_eq_true e2, if_pos rfl] at k0; exact k0) (fun e2 => by rw [show amCmpP .ne x y = false from decide_eq_false (fun z => z e2), if_neg (by decide)] at k0; exact k0)
    case lt => exact lv_icmp_lt hx hb hd hlk (fun e2 => by rw [show amCmpP .lt x y = true from decide_eq_true e2, if_pos rfl] at k0; exact k0) (fun e2 => by rw [show amCmpP .lt x y = false from decide_eq_false e2, if_neg (by decide)] at k0; exact k0)
    case ge => exact lv_icmp_ge hx hb hd hlk (fun e2 => by rw [show amCmpP .ge x y = true from decide_eq_true e2, if_pos rfl] at k0; exact k0) (fun e2 => by rw [show amCmpP .ge x y = false from decide_eq_false e2, if_neg (by decide)] at k0; exact k0)
    case gt => exact lv_icmp_gt hx hb hd hlk (fun e2 => by rw [show amCmpP .gt x y = true from decide_eq_true e2, if_pos rfl] at k0; exact k0) (fun e2 => by rw [show amCmpP .gt x y = false from decide_eq_false e2, if_neg (by decide)] at k0; exact k0)
    case le => exact lv_icmp_le hx hb hd hlk (fun e2 => by rw [show amCmpP .le x y = true from decide_eq_true e2, if_pos rfl] at k0; exact k0) (fun e2 => by rw [show amCmpP .le x y = false from decide_eq_false e2, if_neg (by decide)] at k0; exact k0)
  case ifnull z =>
    obtain rfl : n = 3 := by rcases hn with hn | hn <;> first | exact hn | cases hn
    simp only [amStep] at h
    split at h
    · cases h; exact lv_ifnull hx hb hd (kk H locs lsA hP hD hS hl)
    · cases h; exact lv_ifnullN hx hb hd hlk (kk H locs lsA hP hD hS hl)
    · cases h
  case ifnonnull z =>
    obtain rfl : n = 3 := by rcases hn with hn | hn <;> first | exact hn | cases hn
    simp only [amStep] at h
    split at h
    · cases h; exact lv_ifnonnull hx hb hd hlk (kk H locs lsA hP hD hS hl)
    · cases h; exact lv_ifnonnullN hx hb hd (kk H locs lsA hP hD hS hl)
    · cases h
  case tableswitch d lo hi offs =>
    simp only [amStep] at h
    obtain ⟨s1, h1, rfl⟩ := Option.map_eq_some_iff.mp h
    unfold amTbl at h1
    split at h1
    · next x q =>
      split at h1
      · next o ho =>
        split at h1
        · next e =>
          cases h1
          by_cases hr : x.toInt < lo ∨ hi < x.toInt
          · unfold amOff at ho
            rw [if_pos hr] at ho
            cases ho
            exact lv_tableOut hx hb hd hr (Int.toNat_of_nonneg e).symm (kk H locs lsA hP hD hS hl)
          · unfold amOff at ho
            rw [if_neg hr] at ho
            exact lv_tableIn hx hb hd (fun z => hr (Or.inl z)) (fun z => hr (Or.inr z)) ho (Int.toNat_of_nonneg e).symm (kk H locs lsA hP hD hS hl)
        · cases h1
      · cases h1
    · cases h1
  case getfield k =>
    obtain rfl : n = 3 := by rcases hn with hn | hn <;> first | exact hn | cases hn
    simp only [amStep] at h
    obtain ⟨s1, h1, rfl⟩ := Option.map_eq_some_iff.mp h
    obtain ⟨o, q, fs, v, rfl, hc, hlt, hv, rfl⟩ := amFGet_s h1
    obtain ⟨⟨C, T, N⟩, hr, hkN, hw⟩ := hlk
    have hg := amW_get (dA := dA) (ad := ad) hc
    rw [amE_obj hlt] at hg
    exact va_get (D := D) hx hb hts (hus _ _ hr) hown hK hP o hg hr b hkN (hts _ hw) (fun _ h => h) (v := amV ad v) (by simp [hv]) hd (kk H locs lsA hP hD hS hl)
  case putfield k =>
    obtain rfl : n = 3 := by rcases hn with hn | hn <;> first | exact hn | cases hn
    simp only [amStep] at h
    obtain ⟨s1, h1, rfl⟩ := Option.map_eq_some_iff.mp h
    obtain ⟨v, o, q, fs, rfl, hc, hlt, hlen, hnar, hfit, rfl⟩ := amFSet_s h1
    obtain ⟨⟨C, T, N⟩, hr, hkN, hw, hfin⟩ := hlk
    obtain ⟨hty, hnm⟩ := hcl _ _ hr
    have hg := amW_get (dA := dA) (ad := ad) hc
    rw [amE_obj hlt] at hg
    have hset : (amW dA ad hp).set o (ad o, .inr (a, (fs.map (amV ad)).set b (amV ad v))) = amW dA ad (hp.set o (a, fs.set b v)) := by
      rw [← amW_set, amE_obj hlt, List.map_set]
    have kk2 : ∀ (H1 : Heap) (locs1 : List Loc), va_P D vwCl ((amW dA ad hp).set o (ad o, .inr (a, (fs.map (amV ad)).set b (amV ad v)))) H1 → va_D A ((amW dA ad hp).set o (ad o, .inr (a, (fs.map (amV ad)).set b (amV ad v)))) → va_S A H0 H1 locs1 → W p l e R s m args below meth c H1 locs1 cells slots Q (F0 m (pc + 3) lsA (q.map (amV ad))) := fun H1 locs1 h2 h3 h4 => kk H1 locs1 lsA (hset ▸ h2) (hset ▸ h3) h4 hl
    by_cases hf : (T b).2.2.2 = true
    · obtain ⟨hi, ho⟩ := hfin hf
      exact va_putF (D := D) hx hb hts (hus _ _ hr) (amFty a) hty hnm hown hK hP hD hS o hg hr b hkN (hts _ hw) (fun _ h => h) hf (hini hi) ho (hty b hkN) (amV_narrow hnar) (amV_fits hfit) (by rw [List.length_map]; exact hlen) hd kk2
    · exact va_put (D := D) hx hb hts (hus _ _ hr) (amFty a) hty hnm hown hK hP hD hS o hg hr b hkN (hts _ hw) (fun _ h => h) (Bool.eq_false_iff.mpr hf) (hty b hkN) (amV_narrow hnar) (amV_fits hfit) (by rw [List.length_map]; exact hlen) hd kk2
  case iaload =>
    obtain rfl : n = 1 := by rcases hn with hn | hn <;> first | exact hn | cases hn
    simp only [amStep] at h
    split at h
    · next s1 hs1 =>
      cases h
      obtain ⟨i, q, l9, h0, rfl, hin, rfl⟩ := amSc_s hs1
      obtain ⟨hX, hbl, hbA⟩ := hsc l9 h0
      exact va_sld hx hb hX hbl hbA hS hin hd (kk H locs lsA hP hD hS hl)
    · obtain ⟨s1, h1, rfl⟩ := Option.map_eq_some_iff.mp h
      obtain ⟨i, o, q, cs, rfl, hc, hin, hpv, rfl⟩ := amALd_s h1
      have hg := amW_get (dA := dA) (ad := ad) hc
      have k0 := kk H locs lsA hP hD hS hl
      exact va_iald (D := D) hx hb hK hP o 0 hg rfl hin hd (W.eq (congrArg (fun v => F0 m (pc + 1) lsA (v :: q.map (amV ad))) (amIsI_v (ad := ad) hpv).symm) k0)
  case laload =>
    obtain rfl : n = 1 := by rcases hn with hn | hn <;> first | exact hn | cases hn
    simp only [amStep] at h
    obtain ⟨s1, h1, rfl⟩ := Option.map_eq_some_iff.mp h
    obtain ⟨i, o, q, cs, rfl, hc, hin, hpv, rfl⟩ := amALd_s h1
    have hg := amW_get (dA := dA) (ad := ad) hc
    have k0 := kk H locs lsA hP hD hS hl
    exact va_lald (D := D) hx hb hK hP o 1 hg rfl hin hd (W.eq (congrArg (fun v => F0 m (pc + 1) lsA (v :: q.map (amV ad))) (amIsJ_v (ad := ad) hpv).symm) k0)
  case baload =>
    obtain rfl : n = 1 := by rcases hn with hn | hn <;> first | exact hn | cases hn
    simp only [amStep] at h
    obtain ⟨s1, h1, rfl⟩ := Option.map_eq_some_iff.mp h
    obtain ⟨i, o, q, cs, rfl, hc, hin, hpv, rfl⟩ := amALd_s h1
    have hg := amW_get (dA := dA) (ad := ad) hc
    have k0 := kk H locs lsA hP hD hS hl
    exact va_bald (D := D) hx hb hK hP o 2 hg rfl hin hd (W.eq (congrArg (fun v => F0 m (pc + 1) lsA (v :: q.map (amV ad))) (amIsI_v (ad := ad) hpv).symm) k0)
  case aaload =>
    obtain rfl : n = 1 := by rcases hn with hn | hn <;> first | exact hn | cases hn
    simp only [amStep] at h
    obtain ⟨s1, h1, rfl⟩ := Option.map_eq_some_iff.mp h
    obtain ⟨i, o, q, cs, rfl, hc, hin, hpv, rfl⟩ := amALd_s h1
    have hg := amW_get (dA := dA) (ad := ad) hc
    have k0 := kk H locs lsA hP hD hS hl
    exact va_aldq (D := D) hx hb hK hP o 3 hg rfl hin hd (W.eq (congrArg (fun v => F0 m (pc + 1) lsA (v :: q.map (amV ad))) (amIsA_v (ad := ad) hpv).symm) k0)
  case iastore =>
    obtain rfl : n = 1 := by rcases hn with hn | hn <;> first | exact hn | cases hn
    simp only [amStep] at h
    obtain ⟨s1, h1, rfl⟩ := Option.map_eq_some_iff.mp h
    obtain ⟨v, i, o, q, cs, rfl, hc, hin, hpv, rfl⟩ := amASt_s h1
    obtain ⟨x, rfl⟩ := amIsI_s hpv
    have hg := amW_get (dA := dA) (ad := ad) hc
    have hset : (amW dA ad hp).set o (ad o, .inl (dA 0, cs.length, .inl (upd (fun j => amInt (cs.getD j .null)) i.toNatClampNeg x))) = amW dA ad (hp.set o (32, cs.set i.toNatClampNeg (.int x))) := by
      rw [← amW_set]
      show _ = (amW dA ad hp).set o (ad o, .inl (dA 0, (cs.set i.toNatClampNeg _).length, _))
      rw [am_set_i (amIn_lt hin) rfl, List.length_set]
      rfl
    exact va_iast (D := D) hx hb hK hP hD hS o 0 hg rfl hin hd (fun H1 locs1 h2 h3 h4 => kk H1 locs1 lsA (hset ▸ h2) (hset ▸ h3) h4 hl)
  case lastore =>
    obtain rfl : n = 1 := by rcases hn with hn | hn <;> first | exact hn | cases hn
    simp only [amStep] at h
    obtain ⟨s1, h1, rfl⟩ := Option.map_eq_some_iff.mp h
    obtain ⟨v, i, o, q, cs, rfl, hc, hin, hpv, rfl⟩ := amASt_s h1
    obtain ⟨x, rfl⟩ := amIsJ_s hpv
    have hg := amW_get (dA := dA) (ad := ad) hc
    have hset : (amW dA ad hp).set o (ad o, .inl (dA 1, cs.length, .inr (.inl (vp_updL (fun j => amLong (cs.getD j .null)) i.toNatClampNeg x)))) = amW dA ad (hp.set o (33, cs.set i.toNatClampNeg (.long x))) := by
      rw [← amW_set]
      show _ = (amW dA ad hp).set o (ad o, .inl (dA 1, (cs.set i.toNatClampNeg _).length, _))
      rw [am_set_l (amIn_lt hin) rfl, List.length_set]
      rfl
    exact va_last (D := D) hx hb hK hP hD hS o 1 hg rfl hin hd (fun H1 locs1 h2 h3 h4 => kk H1 locs1 lsA (hset ▸ h2) (hset ▸ h3) h4 hl)
  case bastore =>
    obtain rfl : n = 1 := by rcases hn with hn | hn <;> first | exact hn | cases hn
    simp only [amStep] at h
    obtain ⟨s1, h1, rfl⟩ := Option.map_eq_some_iff.mp h
    obtain ⟨v, i, o, q, cs, rfl, hc, hin, hpv, rfl⟩ := amASt_s h1
    obtain ⟨x, rfl⟩ := amIsI_s hpv
    have hg := amW_get (dA := dA) (ad := ad) hc
    have hset : (amW dA ad hp).set o (ad o, .inl (dA 2, cs.length, .inl (upd (fun j => amInt (cs.getD j .null)) i.toNatClampNeg (vp_nar .byte x)))) = amW dA ad (hp.set o (34, cs.set i.toNatClampNeg (.int (vp_nar .byte x)))) := by
      rw [← amW_set]
      show _ = (amW dA ad hp).set o (ad o, .inl (dA 2, (cs.set i.toNatClampNeg _).length, _))
      rw [am_set_i (amIn_lt hin) rfl, List.length_set]
      rfl
    exact va_bast (D := D) hx hb hK hP hD hS o 2 hg rfl hin hd (fun H1 locs1 h2 h3 h4 => kk H1 locs1 lsA (hset ▸ h2) (hset ▸ h3) h4 hl)
  case aastore =>
    obtain rfl : n = 1 := by rcases hn with hn | hn <;> first | exact hn | cases hn
    simp only [amStep] at h
    obtain ⟨s1, h1, rfl⟩ := Option.map_eq_some_iff.mp h
    obtain ⟨v, i, o, q, cs, rfl, hc, hin, hpv, rfl⟩ := amASt_s h1
    unfold amIsSn at hpv
    split at hpv
    · next k =>
      split at hpv
      · next cv hcv =>
        obtain ⟨t, fs⟩ := cv
        have ht : t = 6 := of_decide_eq_true hpv
        subst ht
        have hg := amW_get (dA := dA) (ad := ad) hc
        have hgv := amW_get (dA := dA) (ad := ad) hcv
        rw [amE_obj (by decide)] at hgv
        have hset : (amW dA ad hp).set o (ad o, .inl (dA 3, cs.length, .inr (.inr (.inr (.inr (va_up (fun j => amRef ad (cs.getD j .null)) i.toNatClampNeg (some (ad k)))))))) = amW dA ad (hp.set o (35, cs.set i.toNatClampNeg (.ref k))) := by
          rw [← amW_set]
          show _ = (amW dA ad hp).set o (ad o, .inl (dA 3, (cs.set i.toNatClampNeg _).length, _))
          rw [am_set_q (amIn_lt hin) rfl, List.length_set]
        exact va_astq (D := D) (r := (RX7, TX7, 4)) hx hb hK hP hD hS o 3 k 6 hg rfl hgv rfl hin hd (fun H1 locs1 h2 h3 h4 => kk H1 locs1 lsA (hset ▸ h2) (hset ▸ h3) h4 hl)
      · cases hpv
    · cases hpv
  case arraylength =>
    obtain rfl : n = 1 := by rcases hn with hn | hn <;> first | exact hn | cases hn
    simp only [amStep] at h
    split at h
    · next s1 hs1 =>
      cases h
      obtain ⟨q, l9, h0, rfl, rfl⟩ := amScLen_s hs1
      obtain ⟨hX, hbl, hbA⟩ := hsc l9 h0
      exact va_slen hx hb hX hbl hbA hS hd (kk H locs lsA hP hD hS hl)
    · obtain ⟨s1, h1, rfl⟩ := Option.map_eq_some_iff.mp h
      obtain ⟨o, q, t, cs, rfl, hc, ht1, ht2, rfl⟩ := amLen_s h1
      have hg := amW_get (dA := dA) (ad := ad) hc
      rcases (show t = 32 ∨ t = 33 ∨ t = 34 ∨ t = 35 by omega) with rfl | rfl | rfl | rfl
      · exact va_alen (D := D) hx hb hK hP o 0 hg rfl rfl hd (kk H locs lsA hP hD hS hl)
      · exact va_alen (D := D) hx hb hK hP o 1 hg rfl rfl hd (kk H locs lsA hP hD hS hl)
      · exact va_alen (D := D) hx hb hK hP o 2 hg rfl rfl hd (kk H locs lsA hP hD hS hl)
      · exact va_alen (D := D) hx hb hK hP o 3 hg rfl rfl hd (kk H locs lsA hP hD hS hl)
end AMS
