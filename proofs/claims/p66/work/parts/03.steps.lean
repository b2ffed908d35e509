/-! ===== the abstract machine's steps are the machine's ===== -/
/-- the text constants: class, place, text -/
def amStr : List (String × Nat × String) := [("TripleTrains$SetupText", 41, "points"), ("TripleTrains$SetupText", 60, "develop"), ("TripleTrains$SetupText", 62, "triple"), ("TripleTrains", 143, "no such number"), ("TripleTrains", 424, "no such triple"), ("TripleTrains", 151, "no such index"), ("TripleTrains", 420, "no such point"), ("TripleTrains", 422, "the same point twice"), ("TripleTrains", 204, "a pair is covered"), ("TripleTrains", 426, "no such quadrilateral"), ("TripleTrains", 428, "no such cycle"), ("TripleTrains", 396, "the triple is in the system"), ("TripleTrains", 396, "the triple is in the system"), ("TripleTrains", 396, "the triple is in the system"), ("TripleTrains", 396, "the triple is in the system"), ("TripleTrains", 396, "the triple is in the system"), ("TripleTrains", 396, "the triple is in the system"), ("TripleTrains", 396, "the triple is in the system"), ("TripleTrains", 396, "the triple is in the system"), ("TripleTrainsLaw", 110, "points "), ("TripleTrainsLaw", 119, ";"), ("TripleTrainsLaw", 128, "triple")]
/-- an instruction's length; 0: any -/
def amSz : Instr → Nat
  | .bipush _ => 2
  | .sipush _ => 3
  | .ldc _ => 2
  | .ldc_w _ => 3
  | .ldc2_w _ => 3
  | .iload _ => 2
  | .lload _ => 2
  | .dload _ => 2
  | .aload _ => 2
  | .istore _ => 2
  | .lstore _ => 2
  | .dstore _ => 2
  | .astore _ => 2
  | .iinc _ _ => 3
  | .goto _ => 3
  | .ifCond _ _ => 3
  | .if_icmp _ _ => 3
  | .ifnull _ => 3
  | .ifnonnull _ => 3
  | .tableswitch _ _ _ _ => 0
  | .getfield _ => 3
  | .putfield _ => 3
  | .new _ => 3
  | .newarray _ => 2
  | .anewarray _ => 3
  | .invokevirtual _ => 3
  | .invokestatic _ => 3
  | .invokespecial _ => 3
  | .checkcast _ => 3
  | .instanceof _ => 3
  | .getstatic _ => 3
  | .if_acmp _ _ => 3
  | .invokeinterface _ _ => 5
  | _ => 1
/-- a field's link: to its own class, to one that inherits it, to a nest mate's -/
def amFl (Ts : List Jvm.Cond) (own : String) (k : Nat) (q : String × String × String × Bool) : Prop := Jvm.Cond.fieldLink own k q.1 q.2.1 q.2.2.1 ∈ Ts ∨ (∃ ref, Jvm.Cond.fieldLink own k ref q.2.1 q.2.2.1 ∈ Ts ∧ Jvm.Cond.sameField ref q.1 q.2.1 q.2.2.1 ∈ Ts)
/-- the names of classes that are cast to -/
def amCn (a : Nat) : String := if a = 12 then "java/lang/Integer" else if a = 20 then "java/util/List" else if a = 32 then "[I" else if a = 34 then "[B" else "[Ljava/lang/Object;"
/-- what an instruction is linked to, by the words -/
def amLk (Ts : List Jvm.Cond) (own : String) (ini : Bool) (pc : Nat) (i : Instr) (a b : Nat) : Prop :=
  match i with
  | .ldc k => (b = 0 → Jvm.Cond.constant own k (Int32.ofNat a) ∈ Ts) ∧ (b ≠ 0 → (∃ tx, amStr[a]? = some (own, k, tx)) ∨ (a = 204 ∧ Jvm.Cond.classLink own k "[Ljava/lang/Object;" ∈ Ts))
  | .ldc_w k => (b = 0 → Jvm.Cond.constant own k (Int32.ofNat a) ∈ Ts) ∧ (b ≠ 0 → (∃ tx, amStr[a]? = some (own, k, tx)))
  | .ldc2_w k => Jvm.Cond.constantLong own k (Int64.ofNat a) ∈ Ts
  | .goto o => (pc : Int) + o = (a : Int)
  | .ifCond _ o => (pc : Int) + o = (a : Int)
  | .if_icmp _ o => (pc : Int) + o = (a : Int)
  | .ifnull o => (pc : Int) + o = (a : Int)
  | .ifnonnull o => (pc : Int) + o = (a : Int)
  | .getfield k => ∃ r, vwCl[a]? = some r ∧ b < r.2.2 ∧ (amFl Ts own k (r.2.1 b) ∨ ∃ host, Jvm.Cond.fieldLinkNest own k (r.2.1 b).1 (r.2.1 b).2.1 (r.2.1 b).2.2.1 host ∈ lw_tbl)
  | .putfield k => ∃ r, vwCl[a]? = some r ∧ b < r.2.2 ∧ amFl Ts own k (r.2.1 b) ∧ ((r.2.1 b).2.2.2 = true → ini = true ∧ (r.2.1 b).1 = own)
  | .checkcast k => Jvm.Cond.classLink own k (amCn a) ∈ Ts
  | .instanceof k => Jvm.Cond.classLink own k (amCn a) ∈ Ts
  | .getstatic k => ∃ q, amStN a = some q ∧ Jvm.Cond.fieldLink own k q.1 q.2.1 q.2.2 ∈ Ts
  | .if_acmp _ o => (pc : Int) + o = (a : Int)
  | _ => True
theorem amE_obj {dA : Nat → ClassId} {ad : Nat → Nat} {ci : Nat} {fs : List Value} (h : ci < 32) : amE dA ad (ci, fs) = .inr (ci, fs.map (amV ad)) := by
  unfold amE
  dsimp only
  rw [if_neg (by omega), if_neg (by omega), if_neg (by omega), if_neg (by omega), if_neg (by omega)]
theorem amIn_lt {i : Int32} {n : Nat} (h : vp_in i n) : i.toNatClampNeg < n := Nat.not_le.mp fun q => h (Or.inr q)
theorem am_set_i {c : List Value} {k : Nat} {v : Value} {x : Int32} (hk : k < c.length) (hv : amInt v = x) : (fun j => amInt ((c.set k v).getD j .null)) = upd (fun j => amInt (c.getD j .null)) k x := by
  funext j
  by_cases hj : j = k
  · subst hj
    simp [upd, hk, hv]
  · simp [upd, hj, List.getElem?_set, Ne.symm hj]
theorem am_set_l {c : List Value} {k : Nat} {v : Value} {x : Int64} (hk : k < c.length) (hv : amLong v = x) : (fun j => amLong ((c.set k v).getD j .null)) = vp_updL (fun j => amLong (c.getD j .null)) k x := by
  funext j
  by_cases hj : j = k
  · subst hj
    simp [vp_updL, hk, hv]
  · simp [vp_updL, hj, List.getElem?_set, Ne.symm hj]
theorem am_set_q {ad : Nat → Nat} {c : List Value} {k : Nat} {v : Value} {x : Nat} (hk : k < c.length) (hv : amRef ad v = some x) : (fun j => amRef ad ((c.set k v).getD j .null)) = va_up (fun j => amRef ad (c.getD j .null)) k (some x) := by
  funext j
  by_cases hj : j = k
  · subst hj
    simp [va_up, hk, hv]
  · simp [va_up, hj, List.getElem?_set, Ne.symm hj]
theorem am_set_n {ad : Nat → Nat} {c : List Value} {k : Nat} (hk : k < c.length) : (fun j => amRef ad ((c.set k .null).getD j .null)) = va_up (fun j => amRef ad (c.getD j .null)) k none := by
  funext j
  by_cases hj : j = k
  · subst hj
    simp [va_up, hk, amRef]
  · simp [va_up, hj, List.getElem?_set, Ne.symm hj]
/-- the one field that a nest mate reads is of a list -/
def am_isNF : Jvm.Cond → Bool
  | .fieldLinkNest _ _ ref _ _ _ => decide (ref = "java/util/ArrayList")
  | _ => true
theorem am_nestF : lw_tbl.all am_isNF = true := by decide +kernel
theorem am_noNestC {C : String} (hC : C ≠ "java/util/ArrayList") (own : String) (k : Nat) (n d host : String) : ¬ Jvm.Cond.fieldLinkNest own k C n d host ∈ lw_tbl := fun h => hC (of_decide_eq_true (List.all_eq_true.mp am_nestF _ h))
theorem amIsI_v {ad : Nat → Nat} {v : Value} (h : amIsI v = true) : amV ad v = .int (amInt v) := by cases v <;> first | rfl | cases h
theorem amIsJ_v {ad : Nat → Nat} {v : Value} (h : amIsJ v = true) : amV ad v = .long (amLong v) := by cases v <;> first | rfl | cases h
theorem amIsA_v {ad : Nat → Nat} {v : Value} (h : amIsA v = true) : amV ad v = va_rf (amRef ad v) := by cases v <;> first | rfl | cases h
/-- the classes' tables -/
def amClOk : Prop := ∀ (ci : Nat) (r : vw_C), vwCl[ci]? = some r → (∀ k, k < r.2.2 → parseFieldDescriptor (r.2.1 k).2.2.1 = some (amFty ci k)) ∧ (∀ a, a < r.2.2 → ∀ b, b < r.2.2 → a ≠ b → (r.2.1 a).2.1 ≠ (r.2.1 b).2.1)
section AMS
variable {p : Program} {l : Launch} {e : Env} {R : Room} {s : State} {m : MethodId} {args : Array Value} {below : List Frame} {meth : Method} {c : Code} {H : Heap} {locs : List Loc} {cells slots : Nat} {Q : State → Prop}
variable {cc : ByteArray} {D : va_G} {dA : Nat → ClassId} {A : Nat → Prop}
theorem am_ldcwS (hexec : p.tables.exec = Jvm.exec) (hb : c.code = cc) {own tx : String} {index q pc : Nat} {ls : Array Slot} {rest : List Value} (hown : s.vm.findClass own = some m.cls) (hZ : vk_R own index tx q s) (hdg : decode cc pc = .ok (.ldc_w index, 3))
    (k : W p l e R s m args below meth c H locs cells slots Q (F0 m (pc + 3) ls (.ref q :: rest))) : W p l e R s m args below meth c H locs cells slots Q (F0 m pc ls rest) := by
  intro T hT X
  obtain ⟨t, a1, b1⟩ := k T hT X
  exact ⟨t, X.ldcStringW hexec hown (text := tx) (a := q) hZ.1 hZ.2 (g := F0 m pc ls rest) rfl (by rw [hb]; exact hdg) t a1, b1⟩
/-- a field's link, over the machine -/
theorem amFl_use {Ts : List Jvm.Cond} (hts : ∀ w ∈ Ts, w.before args s = true) {own : String} {k : Nat} {q : String × String × String × Bool} (h : amFl Ts own k q) : ∃ ref, (Jvm.Cond.fieldLink own k ref q.2.1 q.2.2.1).before args s = true ∧ ∀ x, s.fieldFound? q.1 q.2.1 q.2.2.1 = some x → s.fieldFound? ref q.2.1 q.2.2.1 = some x := by
  rcases h with h | ⟨ref, h1, h2⟩
  · exact ⟨_, hts _ h, fun _ z => z⟩
  · exact ⟨ref, hts _ h1, fun x z => u_same (hts _ h2) x z⟩
/-- an object's class, over the machine -/
theorem am_clsR {dA : Nat → ClassId} {ad sA : Nat → Nat} {hp : amH} (hK : va_K D vwCl (amTys dA) s) (hZk : amZk sA A s s.heap) (hsA : ∀ k, ad (amK + k) = sA k) (hP : va_P D vwCl (amW dA ad hp) H) (hS : va_S A s.heap H locs) {x t : Nat} {r : vw_C} (h : amCls hp x = some t) (hr : vwCl[t]? = some r) (ht : t < 32) : ∃ cell : Cell, H[ad x]? = some cell ∧ cell.vm.isStatics = false ∧ s.vm.findClass r.1 = some cell.cls := by
  rcases amCls_in h with ⟨c, hc⟩ | ⟨k, rfl, hk⟩
  · have hg := amW_get (dA := dA) (ad := ad) hc
    rw [amE_obj ht] at hg
    exact va_recv hK hP hr hg
  · rw [hsA]
    rcases amKc_in hk with ⟨j, hj, rfl, rfl⟩ | ⟨w, hw, rfl, rfl⟩
    · cases (show some (RJ6, TJ6, 1) = some r from hr)
      exact va_Orecv (hZk.1.1 j hj) hS
    · cases (show some (RJ0, TJ0, 4) = some r from hr)
      exact va_Orecv (hZk.2.2.2.2.1 w hw).1 hS
/-- an array of ints' class -/
theorem am_clsI {dA : Nat → ClassId} {ad : Nat → Nat} {hp : amH} (hK : va_K D vwCl (amTys dA) s) (hP : va_P D vwCl (amW dA ad hp) H) {x : Nat} {c : List Value} (hc : hp[x]? = some (32, c)) : ∃ cell : Cell, H[ad x]? = some cell ∧ cell.vm.isStatics = false ∧ s.vm.findClass "[I" = some cell.cls := by
  have hg := amW_get (dA := dA) (ad := ad) hc
  exact ⟨_, hP x _ hg, rfl, va_nm_int (hK.2 0 (dA 0, .int) rfl).2⟩
/-- what may stand in a row of objects, over the machine -/
theorem am_any {C : String} {x : Nat} (hca : va_Nw (.castable C "java/lang/Object") s) (hr : ∃ cell : Cell, H[x]? = some cell ∧ cell.vm.isStatics = false ∧ s.vm.findClass C = some cell.cls) : va_Any "java/lang/Object" s H x := by
  obtain ⟨cell, h1, h2, h3⟩ := hr
  obtain ⟨kC, hkC, -⟩ := Vm.findClass_spec h3
  exact ⟨cell, h1, h2, ⟨kC, hkC⟩, fun comp e => vb_asgC hca comp _ e h3⟩
theorem am_isO {dA : Nat → ClassId} {ad sA : Nat → Nat} {hp : amH} (hCY : amCY s) (hK : va_K D vwCl (amTys dA) s) (hZk : amZk sA A s s.heap) (hsA : ∀ k, ad (amK + k) = sA k) (hP : va_P D vwCl (amW dA ad hp) H) (hS : va_S A s.heap H locs) {k : Nat} (h : amIsO hp (.ref k) = true) : va_Any "java/lang/Object" s H (ad k) := by
  unfold amIsO at h
  dsimp only at h
  split at h
  · next t ht =>
    simp only [Bool.or_eq_true] at h
    rcases h with e | e | e
    · cases Nat.eq_of_beq_eq_true e
      exact am_any hCY.2.1 (am_clsR (r := (RJ6, TJ6, 1)) hK hZk hsA hP hS ht rfl (by decide))
    · cases Nat.eq_of_beq_eq_true e
      exact am_any hCY.2.2.1 (am_clsR (r := (RJx4a65c, TJx4a65c, 3)) hK hZk hsA hP hS ht rfl (by decide))
    · cases Nat.eq_of_beq_eq_true e
      rcases amCls_in ht with ⟨c9, hc9⟩ | ⟨k9, rfl, hk9⟩
      · exact am_any hCY.2.2.2 (am_clsI hK hP hc9)
      · rcases amKc_in hk9 with ⟨_, _, _, e9⟩ | ⟨_, _, _, e9⟩ <;> cases e9
  · cases h
set_option maxHeartbeats 4000000 in
set_option maxRecDepth 20000 in
theorem amStep_ok (hx : p.tables.exec = Jvm.exec) (hb : c.code = cc) {Ts : List Jvm.Cond} (hts : ∀ w ∈ Ts, w.before args s = true) {own : String} (hown : s.vm.findClass own = some m.cls) (hK : va_K D vwCl (amTys dA) s) (hus : ∀ (ci : Nat) (r : vw_C), vwCl[ci]? = some r → ∀ w ∈ u_ws r.1 r.2.1 r.2.2, w ∈ Ts) (hcl : amClOk) {ini : Bool} (hini : ini = true → meth.name = "<init>") {sA : Nat → Nat} (hstr : ∀ (k : Nat) (r : String × Nat × String), amStr[k]? = some r → vk_R r.1 r.2.1 r.2.2 (sA k) s) {sc : Option (List Int32)} {ad : Nat → Nat} (hsA : ∀ k, ad (amK + k) = sA k) (hZk : amZk sA A s s.heap) (hCY : amCY s) (hMi : va_Mi "[Ljava/lang/Object;" (sA 204) s) (hNl : ∀ (own : String) (k : Nat) (ref n d host : String), Jvm.Cond.fieldLinkNest own k ref n d host ∈ lw_tbl → va_Nw (Jvm.Cond.fieldLinkNest own k ref n d host) s) (hsc : ∀ l9, sc = some l9 → va_X (ad amS) l9.length (fun j => l9.getD j 0) s s.heap ∧ ad amS < s.heap.size ∧ ¬ A (ad amS))
    {nL pc a b : Nat} {i : Instr} (hd : ∃ n, decode cc pc = .ok (i, n) ∧ (amSz i = 0 ∨ n = amSz i)) (hlk : amLk Ts own ini pc i a b) {ls : amL} {st : List Value} {hp : amH} {r : amR} (h : amStep sc nL i a b pc ls st hp = some r) {lsA : Array Slot} (hl : lv_has lsA nL (amLs ad ls)) (hP : va_P D vwCl (amW dA ad hp) H) (hD : va_D A (amW dA ad hp)) (hS : va_S A s.heap H locs)
    (kk : ∀ (H1 : Heap) (locs1 : List Loc) (lsA1 : Array Slot), va_P D vwCl (amW dA ad r.2.2.2) H1 → va_D A (amW dA ad r.2.2.2) → va_S A s.heap H1 locs1 → lv_has lsA1 nL (amLs ad r.2.1) → W p l e R s m args below meth c H1 locs1 cells slots Q (F0 m r.1 lsA1 (r.2.2.1.map (amV ad)))) :
    W p l e R s m args below meth c H locs cells slots Q (F0 m pc lsA (st.map (amV ad))) := by
  obtain ⟨n, hd, hn⟩ := hd
  cases i
  all_goals first
    | exact absurd (show (none : Option amR) = some r from h) (by intro z; cases z)
    | skip
  case iconst z =>
    obtain rfl : n = 1 := by rcases hn with hn | hn <;> first | exact hn | cases hn
    cases h
    exact lv_iconst hx hb hd rfl (kk H locs lsA hP hD hS hl)
  case bipush z =>
    obtain rfl : n = 2 := by rcases hn with hn | hn <;> first | exact hn | cases hn
    cases h
    exact lv_bipush hx hb hd rfl (kk H locs lsA hP hD hS hl)
  case sipush z =>
    obtain rfl : n = 3 := by rcases hn with hn | hn <;> first | exact hn | cases hn
    cases h
    exact lv_sipush hx hb hd rfl (kk H locs lsA hP hD hS hl)
  case lconst z =>
    obtain rfl : n = 1 := by rcases hn with hn | hn <;> first | exact hn | cases hn
    cases h
    exact lv_lconst hx hb hd rfl (kk H locs lsA hP hD hS hl)
  case fconst z =>
    obtain rfl : n = 1 := by rcases hn with hn | hn <;> first | exact hn | cases hn
    simp only [amStep] at h
    split at h
    · next e => subst e; cases h; exact lv_fconst0 hx hb hd (kk H locs lsA hP hD hS hl)
    · cases h
  case dconst z =>
    obtain rfl : n = 1 := by rcases hn with hn | hn <;> first | exact hn | cases hn
    simp only [amStep] at h
    split at h
    · next e => subst e; cases h; exact lv_dconst0 hx hb hd (kk H locs lsA hP hD hS hl)
    · cases h
  case ldc z =>
    obtain rfl : n = 2 := by rcases hn with hn | hn <;> first | exact hn | cases hn
    simp only [amStep] at h
    split at h
    · next e => cases h; exact lv_ldc hx hb hown (hts _ (hlk.1 e)) hd (kk H locs lsA hP hD hS hl)
    · next e =>
      cases h
      have k0 := kk H locs lsA hP hD hS hl
      have e2 : amV ad (.ref (amK + a)) = .ref (sA a) := by show Value.ref (ad (amK + a)) = _; rw [hsA]
      rcases hlk.2 e with ⟨tx, ht⟩ | ⟨e9, w9⟩
      · have hs1 := hstr _ _ ht
        dsimp only at hs1
        exact va_ldcS hx hb hown hs1 hd (W.eq (congrArg (fun v => F0 m (pc + 2) lsA (v :: st.map (amV ad))) e2.symm) k0)
      · exact va_ldcM hx hb hown (hts _ w9) (by rw [e9]; exact hMi) hd (W.eq (congrArg (fun v => F0 m (pc + 2) lsA (v :: st.map (amV ad))) e2.symm) k0)
  case ldc_w z =>
    obtain rfl : n = 3 := by rcases hn with hn | hn <;> first | exact hn | cases hn
    simp only [amStep] at h
    split at h
    · next e => cases h; exact lv_ldcw hx hb hown (hts _ (hlk.1 e)) hd (kk H locs lsA hP hD hS hl)
    · next e =>
      cases h
      obtain ⟨tx, ht⟩ := hlk.2 e
      have k0 := kk H locs lsA hP hD hS hl
      have e2 : amV ad (.ref (amK + a)) = .ref (sA a) := by show Value.ref (ad (amK + a)) = _; rw [hsA]
      have hs1 := hstr _ _ ht
      dsimp only at hs1
      exact am_ldcwS hx hb hown hs1 hd (W.eq (congrArg (fun v => F0 m (pc + 3) lsA (v :: st.map (amV ad))) e2.symm) k0)
  case ldc2_w z =>
    obtain rfl : n = 3 := by rcases hn with hn | hn <;> first | exact hn | cases hn
    cases h
    exact lv_ldc2 hx hb hown (hts _ hlk) hd (kk H locs lsA hP hD hS hl)
  case iload k =>
    obtain rfl : n = 2 := by rcases hn with hn | hn <;> first | exact hn | cases hn
    simp only [amStep] at h
    obtain ⟨s1, h1, rfl⟩ := Option.map_eq_some_iff.mp h
    obtain ⟨v, hv, hp1, rfl⟩ := amLd_s h1
    obtain ⟨x, rfl⟩ := amIsI_s hp1
    exact lv_iload hx hb hd (amGet_has hl hv) (kk H locs lsA hP hD hS hl)
  case iload_n k =>
    obtain rfl : n = 1 := by rcases hn with hn | hn <;> first | exact hn | cases hn
    simp only [amStep] at h
    obtain ⟨s1, h1, rfl⟩ := Option.map_eq_some_iff.mp h
    obtain ⟨v, hv, hp1, rfl⟩ := amLd_s h1
    obtain ⟨x, rfl⟩ := amIsI_s hp1
    exact lv_iload_n hx hb hd rfl (amGet_has hl hv) (kk H locs lsA hP hD hS hl)
  case lload k =>
    obtain rfl : n = 2 := by rcases hn with hn | hn <;> first | exact hn | cases hn
    simp only [amStep] at h
    obtain ⟨s1, h1, rfl⟩ := Option.map_eq_some_iff.mp h
    obtain ⟨v, hv, hp1, rfl⟩ := amLd_s h1
    obtain ⟨x, rfl⟩ := amIsJ_s hp1
    exact lv_lload hx hb hd (amGet_has hl hv) (kk H locs lsA hP hD hS hl)
  case lload_n k =>
    obtain rfl : n = 1 := by rcases hn with hn | hn <;> first | exact hn | cases hn
    simp only [amStep] at h
    obtain ⟨s1, h1, rfl⟩ := Option.map_eq_some_iff.mp h
    obtain ⟨v, hv, hp1, rfl⟩ := amLd_s h1
    obtain ⟨x, rfl⟩ := amIsJ_s hp1
    exact lv_lload_n hx hb hd rfl (amGet_has hl hv) (kk H locs lsA hP hD hS hl)
  case dload k =>
    obtain rfl : n = 2 := by rcases hn with hn | hn <;> first | exact hn | cases hn
    simp only [amStep] at h
    obtain ⟨s1, h1, rfl⟩ := Option.map_eq_some_iff.mp h
    obtain ⟨v, hv, hp1, rfl⟩ := amLd_s h1
    obtain ⟨x, rfl⟩ := amIsD_s hp1
    exact lv_dload hx hb hd (amGet_has hl hv) (kk H locs lsA hP hD hS hl)
  case dload_n k =>
    obtain rfl : n = 1 := by rcases hn with hn | hn <;> first | exact hn | cases hn
    simp only [amStep] at h
    obtain ⟨s1, h1, rfl⟩ := Option.map_eq_some_iff.mp h
    obtain ⟨v, hv, hp1, rfl⟩ := amLd_s h1
    obtain ⟨x, rfl⟩ := amIsD_s hp1
    exact lv_dload_n hx hb hd rfl (amGet_has hl hv) (kk H locs lsA hP hD hS hl)
  case aload k =>
    obtain rfl : n = 2 := by rcases hn with hn | hn <;> first | exact hn | cases hn
    simp only [amStep] at h
    obtain ⟨s1, h1, rfl⟩ := Option.map_eq_some_iff.mp h
    obtain ⟨v, hv, hp1, rfl⟩ := amLd_s h1
    rcases amIsA_s hp1 with rfl | ⟨x, rfl⟩
    · exact lv_aloadN hx hb hd (amGet_has hl hv) (kk H locs lsA hP hD hS hl)
    · exact lv_aload hx hb hd (amGet_has hl hv) (kk H locs lsA hP hD hS hl)
  case aload_n k =>
    obtain rfl : n = 1 := by rcases hn with hn | hn <;> first | exact hn | cases hn
    simp only [amStep] at h
    obtain ⟨s1, h1, rfl⟩ := Option.map_eq_some_iff.mp h
    obtain ⟨v, hv, hp1, rfl⟩ := amLd_s h1
    rcases amIsA_s hp1 with rfl | ⟨x, rfl⟩
    · exact lv_aload_nN hx hb hd rfl (amGet_has hl hv) (kk H locs lsA hP hD hS hl)
    · exact lv_aload_n hx hb hd rfl (amGet_has hl hv) (kk H locs lsA hP hD hS hl)
  case istore k =>
    obtain rfl : n = 2 := by rcases hn with hn | hn <;> first | exact hn | cases hn
    simp only [amStep] at h
    obtain ⟨s1, h1, rfl⟩ := Option.map_eq_some_iff.mp h
    obtain ⟨v, q, rfl, hp1, hk, rfl⟩ := amSt1_s h1
    obtain ⟨x, rfl⟩ := amIsI_s hp1
    exact lv_istore hx hb hd hl hk (amSet1_ls ad ls k (.int x)) (fun ls1 hl1 => kk H locs ls1 hP hD hS hl1)
  case istore_n k =>
    obtain rfl : n = 1 := by rcases hn with hn | hn <;> first | exact hn | cases hn
    simp only [amStep] at h
    obtain ⟨s1, h1, rfl⟩ := Option.map_eq_some_iff.mp h
    obtain ⟨v, q, rfl, hp1, hk, rfl⟩ := amSt1_s h1
    obtain ⟨x, rfl⟩ := amIsI_s hp1
    exact lv_istore_n hx hb hd rfl hl hk (amSet1_ls ad ls (k : Nat) (.int x)) (fun ls1 hl1 => kk H locs ls1 hP hD hS hl1)
  case lstore k =>
    obtain rfl : n = 2 := by rcases hn with hn | hn <;> first | exact hn | cases hn
    simp only [amStep] at h
    obtain ⟨s1, h1, rfl⟩ := Option.map_eq_some_iff.mp h
    obtain ⟨v, q, rfl, hp1, hk, rfl⟩ := amSt2_s h1
    obtain ⟨x, rfl⟩ := amIsJ_s hp1
    exact lv_lstore hx hb hd hl hk (amSet2_ls ad ls k (.long x)) (fun ls1 hl1 => kk H locs ls1 hP hD hS hl1)
  case lstore_n k =>
    obtain rfl : n = 1 := by rcases hn with hn | hn <;> first | exact hn | cases hn
    simp only [amStep] at h
    obtain ⟨s1, h1, rfl⟩ := Option.map_eq_some_iff.mp h
    obtain ⟨v, q, rfl, hp1, hk, rfl⟩ := amSt2_s h1
    obtain ⟨x, rfl⟩ := amIsJ_s hp1
    exact lv_lstore_n hx hb hd rfl hl hk (amSet2_ls ad ls (k : Nat) (.long x)) (fun ls1 hl1 => kk H locs ls1 hP hD hS hl1)
  case dstore k =>
    obtain rfl : n = 2 := by rcases hn with hn | hn <;> first | exact hn | cases hn
    simp only [amStep] at h
    obtain ⟨s1, h1, rfl⟩ := Option.map_eq_some_iff.mp h
    obtain ⟨v, q, rfl, hp1, hk, rfl⟩ := amSt2_s h1
    obtain ⟨x, rfl⟩ := amIsD_s hp1
    exact lv_dstore hx hb hd hl hk (amSet2_ls ad ls k (.double x)) (fun ls1 hl1 => kk H locs ls1 hP hD hS hl1)
  case astore k =>
    obtain rfl : n = 2 := by rcases hn with hn | hn <;> first | exact hn | cases hn
    simp only [amStep] at h
    obtain ⟨s1, h1, rfl⟩ := Option.map_eq_some_iff.mp h
    obtain ⟨v, q, rfl, hp1, hk, rfl⟩ := amSt1_s h1
    rcases amIsA_s hp1 with rfl | ⟨x, rfl⟩
    · exact lv_astoreN hx hb hd hl hk (amSet1_ls ad ls k .null) (fun ls1 hl1 => kk H locs ls1 hP hD hS hl1)
    · exact lv_astore hx hb hd hl hk (amSet1_ls ad ls k (.ref x)) (fun ls1 hl1 => kk H locs ls1 hP hD hS hl1)
  case astore_n k =>
    obtain rfl : n = 1 := by rcases hn with hn | hn <;> first | exact hn | cases hn
    simp only [amStep] at h
    obtain ⟨s1, h1, rfl⟩ := Option.map_eq_some_iff.mp h
    obtain ⟨v, q, rfl, hp1, hk, rfl⟩ := amSt1_s h1
    rcases amIsA_s hp1 with rfl | ⟨x, rfl⟩
    · exact lv_astore_nN hx hb hd rfl hl hk (amSet1_ls ad ls (k : Nat) .null) (fun ls1 hl1 => kk H locs ls1 hP hD hS hl1)
    · exact lv_astore_n hx hb hd rfl hl hk (amSet1_ls ad ls (k : Nat) (.ref x)) (fun ls1 hl1 => kk H locs ls1 hP hD hS hl1)
  case iinc k z =>
    obtain rfl : n = 3 := by rcases hn with hn | hn <;> first | exact hn | cases hn
    simp only [amStep] at h
    obtain ⟨s1, h1, rfl⟩ := Option.map_eq_some_iff.mp h
    obtain ⟨x, hv, hk, rfl⟩ := amInc_s h1
    obtain ⟨j, hj⟩ := List.getElem?_of_mem (amLs_mem (ad := ad) (amGet_mem hv))
    exact lv_iinc hx hb hd hl hj rfl hk (amSet1_ls ad ls k (.int (x + Int32.ofInt z))) (fun ls1 hl1 => kk H locs ls1 hP hD hS hl1)
  case dup =>
    obtain rfl : n = 1 := by rcases hn with hn | hn <;> first | exact hn | cases hn
    simp only [amStep] at h
    split at h
    · split at h
      · next v q e => cases h; exact lv_dup hx hb hd (by rw [amV_cat]; exact e) (kk H locs lsA hP hD hS hl)
      · cases h
    · cases h
  case dup2 =>
    obtain rfl : n = 1 := by rcases hn with hn | hn <;> first | exact hn | cases hn
    simp only [amStep] at h
    split at h
    · split at h
      · next v w q e => cases h; exact lv_dup2_11 hx hb hd (by rw [amV_cat]; exact e.1) (by rw [amV_cat]; exact e.2) (kk H locs lsA hP hD hS hl)
      · cases h
    · cases h
  case pop =>
    obtain rfl : n = 1 := by rcases hn with hn | hn <;> first | exact hn | cases hn
    simp only [amStep] at h
    split at h
    · split at h
      · next v q e => cases h; exact lv_pop hx hb hd (by rw [amV_cat]; exact e) (kk H locs lsA hP hD hS hl)
      · cases h
    · cases h
  case iadd =>
    obtain rfl : n = 1 := by rcases hn with hn | hn <;> first | exact hn | cases hn
    simp only [amStep] at h
    obtain ⟨s1, h1, rfl⟩ := Option.map_eq_some_iff.mp h
    obtain ⟨x, y, q, rfl, rfl⟩ := amII_s h1
    exact lv_iadd hx hb hd (kk H locs lsA hP hD hS hl)
  case isub =>
    obtain rfl : n = 1 := by rcases hn with hn | hn <;> first | exact hn | cases hn
    simp only [amStep] at h
    obtain ⟨s1, h1, rfl⟩ := Option.map_eq_some_iff.mp h
    obtain ⟨x, y, q, rfl, rfl⟩ := amII_s h1
    exact lv_isub hx hb hd (kk H locs lsA hP hD hS hl)
  case imul =>
    obtain rfl : n = 1 := by rcases hn with hn | hn <;> first | exact hn | cases hn
    simp only [amStep] at h
    obtain ⟨s1, h1, rfl⟩ := Option.map_eq_some_iff.mp h
    obtain ⟨x, y, q, rfl, rfl⟩ := amII_s h1
    exact lv_imul hx hb hd (kk H locs lsA hP hD hS hl)
  case iand =>
    obtain rfl : n = 1 := by rcases hn with hn | hn <;> first | exact hn | cases hn
    simp only [amStep] at h
    obtain ⟨s1, h1, rfl⟩ := Option.map_eq_some_iff.mp h
    obtain ⟨x, y, q, rfl, rfl⟩ := amII_s h1
    exact lv_iand hx hb hd (kk H locs lsA hP hD hS hl)
  case ior =>
    obtain rfl : n = 1 := by rcases hn with hn | hn <;> first | exact hn | cases hn
    simp only [amStep] at h
    obtain ⟨s1, h1, rfl⟩ := Option.map_eq_some_iff.mp h
    obtain ⟨x, y, q, rfl, rfl⟩ := amII_s h1
    exact lv_ior hx hb hd (kk H locs lsA hP hD hS hl)
  case ixor =>
    obtain rfl : n = 1 := by rcases hn with hn | hn <;> first | exact hn | cases hn
    simp only [amStep] at h
    obtain ⟨s1, h1, rfl⟩ := Option.map_eq_some_iff.mp h
    obtain ⟨x, y, q, rfl, rfl⟩ := amII_s h1
    exact lv_ixor hx hb hd (kk H locs lsA hP hD hS hl)
  case ishl =>
    obtain rfl : n = 1 := by rcases hn with hn | hn <;> first | exact hn | cases hn
    simp only [amStep] at h
    obtain ⟨s1, h1, rfl⟩ := Option.map_eq_some_iff.mp h
    obtain ⟨x, y, q, rfl, rfl⟩ := amII_s h1
    exact lv_ishl hx hb hd (kk H locs lsA hP hD hS hl)
  case ishr =>
    obtain rfl : n = 1 := by rcases hn with hn | hn <;> first | exact hn | cases hn
    simp only [amStep] at h
    obtain ⟨s1, h1, rfl⟩ := Option.map_eq_some_iff.mp h
    obtain ⟨x, y, q, rfl, rfl⟩ := amII_s h1
    exact lv_ishr hx hb hd (kk H locs lsA hP hD hS hl)
  case iushr =>
    obtain rfl : n = 1 := by rcases hn with hn | hn <;> first | exact hn | cases hn
    simp only [amStep] at h
    obtain ⟨s1, h1, rfl⟩ := Option.map_eq_some_iff.mp h
    obtain ⟨x, y, q, rfl, rfl⟩ := amII_s h1
    exact lv_iushr hx hb hd rfl (kk H locs lsA hP hD hS hl)
  case idiv =>
    obtain rfl : n = 1 := by rcases hn with hn | hn <;> first | exact hn | cases hn
    simp only [amStep] at h
    obtain ⟨s1, h1, rfl⟩ := Option.map_eq_some_iff.mp h
    obtain ⟨x, y, q, rfl, hne, rfl⟩ := amDiv_s h1
    exact lv_idiv hx hb hd hne (kk H locs lsA hP hD hS hl)
  case irem =>
    obtain rfl : n = 1 := by rcases hn with hn | hn <;> first | exact hn | cases hn
    simp only [amStep] at h
    obtain ⟨s1, h1, rfl⟩ := Option.map_eq_some_iff.mp h
    obtain ⟨x, y, q, rfl, hne, rfl⟩ := amDiv_s h1
    exact lv_irem hx hb hd hne (kk H locs lsA hP hD hS hl)
  case ineg =>
    obtain rfl : n = 1 := by rcases hn with hn | hn <;> first | exact hn | cases hn
    simp only [amStep] at h
    obtain ⟨s1, h1, rfl⟩ := Option.map_eq_some_iff.mp h
    obtain ⟨x, q, rfl, rfl⟩ := amI_s h1
    exact lv_ineg hx hb hd (kk H locs lsA hP hD hS hl)
  case i2b =>
    obtain rfl : n = 1 := by rcases hn with hn | hn <;> first | exact hn | cases hn
    simp only [amStep] at h
    obtain ⟨s1, h1, rfl⟩ := Option.map_eq_some_iff.mp h
    obtain ⟨x, q, rfl, rfl⟩ := amI_s h1
    exact lv_i2b hx hb hd rfl (kk H locs lsA hP hD hS hl)
  case i2l =>
    obtain rfl : n = 1 := by rcases hn with hn | hn <;> first | exact hn | cases hn
    simp only [amStep] at h
    obtain ⟨s1, h1, rfl⟩ := Option.map_eq_some_iff.mp h
    obtain ⟨x, q, rfl, rfl⟩ := amI_s h1
    exact lv_i2l hx hb hd rfl (kk H locs lsA hP hD hS hl)
  case i2f =>
    obtain rfl : n = 1 := by rcases hn with hn | hn <;> first | exact hn | cases hn
    simp only [amStep] at h
    obtain ⟨s1, h1, rfl⟩ := Option.map_eq_some_iff.mp h
    obtain ⟨x, q, rfl, rfl⟩ := amI_s h1
    exact lv_i2f hx hb hd (kk H locs lsA hP hD hS hl)
  case i2d =>
    obtain rfl : n = 1 := by rcases hn with hn | hn <;> first | exact hn | cases hn
    simp only [amStep] at h
    obtain ⟨s1, h1, rfl⟩ := Option.map_eq_some_iff.mp h
    obtain ⟨x, q, rfl, rfl⟩ := amI_s h1
    exact lv_i2d hx hb hd (kk H locs lsA hP hD hS hl)
  case l2i =>
    obtain rfl : n = 1 := by rcases hn with hn | hn <;> first | exact hn | cases hn
    simp only [amStep] at h
    obtain ⟨s1, h1, rfl⟩ := Option.map_eq_some_iff.mp h
    obtain ⟨x, q, rfl, rfl⟩ := amJ_s h1
    exact lv_l2i hx hb hd rfl (kk H locs lsA hP hD hS hl)
  case lneg =>
    obtain rfl : n = 1 := by rcases hn with hn | hn <;> first | exact hn | cases hn
    simp only [amStep] at h
    obtain ⟨s1, h1, rfl⟩ := Option.map_eq_some_iff.mp h
    obtain ⟨x, q, rfl, rfl⟩ := amJ_s h1
    exact lv_lneg hx hb hd (kk H locs lsA hP hD hS hl)
  case ladd =>
    obtain rfl : n = 1 := by rcases hn with hn | hn <;> first | exact hn | cases hn
    simp only [amStep] at h
    obtain ⟨s1, h1, rfl⟩ := Option.map_eq_some_iff.mp h
    obtain ⟨x, y, q, rfl, rfl⟩ := amLL_s h1
    exact lv_ladd hx hb hd (kk H locs lsA hP hD hS hl)
  case lsub =>
    obtain rfl : n = 1 := by rcases hn with hn | hn <;> first | exact hn | cases hn
    simp only [amStep] at h
    obtain ⟨s1, h1, rfl⟩ := Option.map_eq_some_iff.mp h
    obtain ⟨x, y, q, rfl, rfl⟩ := amLL_s h1
    exact lv_lsub hx hb hd (kk H locs lsA hP hD hS hl)
  case land =>
    obtain rfl : n = 1 := by rcases hn with hn | hn <;> first | exact hn | cases hn
    simp only [amStep] at h
    obtain ⟨s1, h1, rfl⟩ := Option.map_eq_some_iff.mp h
    obtain ⟨x, y, q, rfl, rfl⟩ := amLL_s h1
    exact lv_land hx hb hd (kk H locs lsA hP hD hS hl)
  case lor =>
    obtain rfl : n = 1 := by rcases hn with hn | hn <;> first | exact hn | cases hn
    simp only [amStep] at h
    obtain ⟨s1, h1, rfl⟩ := Option.map_eq_some_iff.mp h
    obtain ⟨x, y, q, rfl, rfl⟩ := amLL_s h1
    exact lv_lor hx hb hd (kk H locs lsA hP hD hS hl)
  case lcmp =>
    obtain rfl : n = 1 := by rcases hn with hn | hn <;> first | exact hn | cases hn
    simp only [amStep] at h
    obtain ⟨s1, h1, rfl⟩ := Option.map_eq_some_iff.mp h
    obtain ⟨x, y, q, rfl, rfl⟩ := amLL_s h1
    exact W.lcmp hx hb hd (kk H locs lsA hP hD hS hl)
  case lshl =>
    obtain rfl : n = 1 := by rcases hn with hn | hn <;> first | exact hn | cases hn
    simp only [amStep] at h
    obtain ⟨s1, h1, rfl⟩ := Option.map_eq_some_iff.mp h
    obtain ⟨x, y, q, rfl, rfl⟩ := amLI_s h1
    exact lv_lshl hx hb hd rfl (kk H locs lsA hP hD hS hl)
  case lshr =>
    obtain rfl : n = 1 := by rcases hn with hn | hn <;> first | exact hn | cases hn
    simp only [amStep] at h
    obtain ⟨s1, h1, rfl⟩ := Option.map_eq_some_iff.mp h
    obtain ⟨x, y, q, rfl, rfl⟩ := amLI_s h1
    exact lv_lshr hx hb hd rfl (kk H locs lsA hP hD hS hl)
  case lushr =>
    obtain rfl : n = 1 := by rcases hn with hn | hn <;> first | exact hn | cases hn
    simp only [amStep] at h
    obtain ⟨s1, h1, rfl⟩ := Option.map_eq_some_iff.mp h
    obtain ⟨x, y, q, rfl, rfl⟩ := amLI_s h1
    exact lv_lushr hx hb hd rfl (kk H locs lsA hP hD hS hl)
  case fdiv =>
    obtain rfl : n = 1 := by rcases hn with hn | hn <;> first | exact hn | cases hn
    simp only [amStep] at h
    split at h
    · split at h
      · next e => cases h; exact lv_fdiv hx hb hd e (kk H locs lsA hP hD hS hl)
      · cases h
    · cases h
  case ddiv =>
    obtain rfl : n = 1 := by rcases hn with hn | hn <;> first | exact hn | cases hn
    simp only [amStep] at h
    split at h
    · split at h
      · next e => cases h; exact lv_ddiv hx hb hd e (kk H locs lsA hP hD hS hl)
      · cases h
    · cases h
  case f2d =>
    obtain rfl : n = 1 := by rcases hn with hn | hn <;> first | exact hn | cases hn
    simp only [amStep] at h
    split at h
    · split at h
      · next e => cases h; exact lv_f2d hx hb hd e (kk H locs lsA hP hD hS hl)
      · cases h
    · cases h
  case dcmp op =>
    obtain rfl : n = 1 := by rcases hn with hn | hn <;> first | exact hn | cases hn
    simp only [amStep] at h
    split at h
    · cases h; exact lv_dcmp hx hb hd (kk H locs lsA hP hD hS hl)
    · cases h
  case goto z =>
    obtain rfl : n = 3 := by rcases hn with hn | hn <;> first | exact hn | cases hn
    cases h
    exact lv_goto hx hb hd hlk (kk H locs lsA hP hD hS hl)
  case ifCond cd z =>
    obtain rfl : n = 3 := by rcases hn with hn | hn <;> first | exact hn | cases hn
    simp only [amStep] at h
    obtain ⟨s1, h1, rfl⟩ := Option.map_eq_some_iff.mp h
    obtain ⟨x, q, rfl, rfl⟩ := amIf_s h1
    have k0 := kk H locs lsA hP hD hS hl
    dsimp only at k0
    cases cd
    case eq => exact lv_if_eq hx hb hd hlk (fun e2 => by rw [show amIfP .eq x = true from decide_eq_true e2, if_pos rfl] at k0; exact k0) (fun e2 => by rw [show amIfP .eq x = false from decide_eq_false e2, if_neg (by decide)] at k0; exact k0)
    case ne => exact lv_if_ne hx hb hd hlk (fun e2 => by rw [show amIfP .ne x = true from decide_eq_true e2, if_pos rfl] at k0; exact k0) (fun e2 => by rw [show amIfP .ne x = false from decide_eq_false (fun z => z e2), if_neg (by decide)] at k0; exact k0)
    case lt => exact lv_if_lt hx hb hd hlk (fun e2 => by rw [show amIfP .lt x = true from decide_eq_true e2, if_pos rfl] at k0; exact k0) (fun e2 => by rw [show amIfP .lt x = false from decide_eq_false e2, if_neg (by decide)] at k0; exact k0)
    case ge => exact lv_if_ge hx hb hd hlk (fun e2 => by rw [show amIfP .ge x = true from decide_eq_true e2, if_pos rfl] at k0; exact k0) (fun e2 => by rw [show amIfP .ge x = false from decide_eq_false e2, if_neg (by decide)] at k0; exact k0)
    case gt => exact lv_if_gt hx hb hd hlk (fun e2 => by rw [show amIfP .gt x = true from decide_eq_true e2, if_pos rfl] at k0; exact k0) (fun e2 => by rw [show amIfP .gt x = false from decide_eq_false e2, if_neg (by decide)] at k0; exact k0)
    case le => exact lv_if_le hx hb hd hlk (fun e2 => by rw [show amIfP .le x = true from decide_eq_true e2, if_pos rfl] at k0; exact k0) (fun e2 => by rw [show amIfP .le x = false from decide_eq_false e2, if_neg (by decide)] at k0; exact k0)
  case if_icmp cd z =>
    obtain rfl : n = 3 := by rcases hn with hn | hn <;> first | exact hn | cases hn
    simp only [amStep] at h
    obtain ⟨s1, h1, rfl⟩ := Option.map_eq_some_iff.mp h
    obtain ⟨x, y, q, rfl, rfl⟩ := amCmp_s h1
    have k0 := kk H locs lsA hP hD hS hl
    dsimp only at k0
    cases cd
    case eq => exact lv_icmp_eq hx hb hd hlk (fun e2 => by rw [show amCmpP .eq x y = true from decide_eq_true e2, if_pos rfl] at k0; exact k0) (fun e2 => by rw [show amCmpP .eq x y = false from decide_eq_false e2, if_neg (by decide)] at k0; exact k0)
    case ne => exact lv_icmp_ne hx hb hd hlk (fun e2 => by rw [show amCmpP .ne x y = true from decide_eq_true e2, if_pos rfl] at k0; exact k0) (fun e2 => by rw [show amCmpP .ne x y = false from decide_eq_false (fun z => z e2), if_neg (by decide)] at k0; exact k0)
    case lt => exact lv_icmp_lt hx hb hd hlk (fun e2 => by rw [show amCmpP .lt x y = true from decide_eq_true e2, if_pos rfl] at k0; exact k0) (fun e2 => by rw [show amCmpP .lt x y = false from decide_eq_false e2, if_neg (by decide)] at k0; exact k0)
    case ge => exact lv_icmp_ge hx hb hd hlk (fun e2 => by rw [show amCmpP .ge x y = true from decide_eq_true e2, if_pos rfl] at k0; exact k0) (fun e2 => by rw [show amCmpP .ge x y = false from decide_eq_false e2, if_neg (by decide)] at k0; exact k0)
    case gt => exact lv_icmp_gt hx hb hd hlk (fun e2 => by rw [show amCmpP .gt x y = true from decide_eq_true e2, if_pos rfl] at k0; exact k0) (fun e2 => by rw [show amCmpP .gt x y = false from decide_eq_false e2, if_neg (by decide)] at k0; exact k0)
    case le => exact lv_icmp_le hx hb hd hlk (fun e2 => by rw [show amCmpP .le x y = true from decide_eq_true e2, if_pos rfl] at k0; exact k0) (fun e2 => by rw [show amCmpP .le x y = false from decide_eq_false e2, if_neg (by decide)] at k0; exact k0)
  case ifnull z =>
    obtain rfl : n = 3 := by rcases hn with hn | hn <;> first | exact hn | cases hn
    simp only [amStep] at h
    split at h
    · cases h; exact lv_ifnull hx hb hd (kk H locs lsA hP hD hS hl)
    · cases h; exact lv_ifnullN hx hb hd hlk (kk H locs lsA hP hD hS hl)
    · cases h
  case ifnonnull z =>
    obtain rfl : n = 3 := by rcases hn with hn | hn <;> first | exact hn | cases hn
    simp only [amStep] at h
    split at h
    · cases h; exact lv_ifnonnull hx hb hd hlk (kk H locs lsA hP hD hS hl)
    · cases h; exact lv_ifnonnullN hx hb hd (kk H locs lsA hP hD hS hl)
    · cases h
  case tableswitch d lo hi offs =>
    simp only [amStep] at h
    obtain ⟨s1, h1, rfl⟩ := Option.map_eq_some_iff.mp h
    unfold amTbl at h1
    split at h1
    · next x q =>
      split at h1
      · next o ho =>
        split at h1
        · next e =>
          cases h1
          by_cases hr : x.toInt < lo ∨ hi < x.toInt
          · unfold amOff at ho
            rw [if_pos hr] at ho
            cases ho
            exact lv_tableOut hx hb hd hr (Int.toNat_of_nonneg e).symm (kk H locs lsA hP hD hS hl)
          · unfold amOff at ho
            rw [if_neg hr] at ho
            exact lv_tableIn hx hb hd (fun z => hr (Or.inl z)) (fun z => hr (Or.inr z)) ho (Int.toNat_of_nonneg e).symm (kk H locs lsA hP hD hS hl)
        · cases h1
      · cases h1
    · cases h1
  case getfield k =>
    obtain rfl : n = 3 := by rcases hn with hn | hn <;> first | exact hn | cases hn
    simp only [amStep] at h
    split at h
    · next s1 h1 =>
      cases h
      obtain ⟨o, q, fs, v, rfl, hc, hlt, hv, rfl⟩ := amFGet_s h1
      obtain ⟨⟨C, T, N⟩, hr, hkN, hw⟩ := hlk
      have hg := amW_get (dA := dA) (ad := ad) hc
      rw [amE_obj hlt] at hg
      rcases hw with hw | ⟨host, hw⟩
      · obtain ⟨ref, w1, w2⟩ := amFl_use hts hw
        exact va_get (D := D) hx hb hts (hus _ _ hr) hown hK hP o hg hr b hkN w1 w2 (v := amV ad v) (by simp [hv]) hd (kk H locs lsA hP hD hS hl)
      · exact va_getN (D := D) hx hb hts (hus _ _ hr) hown hK hP o hg hr b hkN (va_Nw.use rfl (hNl _ _ _ _ _ _ hw)) (fun _ h => h) (v := amV ad v) (by simp [hv]) hd (kk H locs lsA hP hD hS hl)
    · obtain ⟨s1, h1, rfl⟩ := Option.map_eq_some_iff.mp h
      obtain ⟨k9, q, v, rfl, hv, rfl⟩ := amKGet_s h1
      have k0 := kk H locs lsA hP hD hS hl
      have e8 : (Value.ref (amK + k9) :: q).map (amV ad) = .ref (sA k9) :: q.map (amV ad) := by
        rw [List.map_cons]
        show Value.ref (ad (amK + k9)) :: _ = _
        rw [hsA]
      rw [e8]
      obtain ⟨r, hr, hkN, hw⟩ := hlk
      rcases amKF_in hv with ⟨j, hj, rfl, rfl, rfl, rfl⟩ | ⟨w, hw9, rfl, rfl, hv⟩
      · cases (show some (RJ6, TJ6, 1) = some r from hr)
        rcases hw with hw | ⟨host, hw⟩
        · obtain ⟨ref, w1, w2⟩ := amFl_use hts hw
          exact va_getX (i := j) (v := fun k => .int (vb_c k)) (ad := fun j => sA (300 + j)) hx hb hZk.1.2 hj hS hown w1 w2 hd k0
        · exact absurd hw (by rw [show (TJ6 0).1 = "java/lang/Integer" from rfl]; exact am_noNestC (by decide) own k _ _ host)
      · cases (show some (RJ0, TJ0, 4) = some r from hr)
        rcases hw with hw | ⟨host, hw⟩
        · obtain ⟨ref, w1, w2⟩ := amFl_use hts hw
          rcases hv with ⟨rfl, rfl⟩ | ⟨rfl, rfl⟩
          · have e7 : amV ad (.ref (amK + (100 + w.1))) = .ref (sA (100 + w.1)) := by show Value.ref (ad (amK + (100 + w.1))) = _; rw [hsA]
            exact vk_getf hx hb (hZk.2.2.2.2.1 w hw9).2.1 hS hown w1 w2 hd (W.eq (congrArg (fun v => F0 m (pc + 3) lsA (v :: q.map (amV ad))) e7.symm) k0)
          · exact vk_getf hx hb (hZk.2.2.2.2.1 w hw9).2.2 hS hown w1 w2 hd k0
        · exact absurd hw (by
            rcases hv with ⟨rfl, rfl⟩ | ⟨rfl, rfl⟩
            · rw [show (TJ0 0).1 = "java/lang/String" from rfl]; exact am_noNestC (by decide) own k _ _ host
            · rw [show (TJ0 1).1 = "java/lang/String" from rfl]; exact am_noNestC (by decide) own k _ _ host)
  case putfield k =>
    obtain rfl : n = 3 := by rcases hn with hn | hn <;> first | exact hn | cases hn
    simp only [amStep] at h
    obtain ⟨s1, h1, rfl⟩ := Option.map_eq_some_iff.mp h
    obtain ⟨v, o, q, fs, rfl, hc, hlt, hlen, hnar, hfit, rfl⟩ := amFSet_s h1
    obtain ⟨⟨C, T, N⟩, hr, hkN, hw, hfin⟩ := hlk
    obtain ⟨hty, hnm⟩ := hcl _ _ hr
    have hg := amW_get (dA := dA) (ad := ad) hc
    rw [amE_obj hlt] at hg
    have hset : (amW dA ad hp).set o (ad o, .inr (a, (fs.map (amV ad)).set b (amV ad v))) = amW dA ad (hp.set o (a, fs.set b v)) := by
      rw [← amW_set, amE_obj hlt, List.map_set]
    obtain ⟨ref, w1, w2⟩ := amFl_use hts hw
    have kk2 : ∀ (H1 : Heap) (locs1 : List Loc), va_P D vwCl ((amW dA ad hp).set o (ad o, .inr (a, (fs.map (amV ad)).set b (amV ad v)))) H1 → va_D A ((amW dA ad hp).set o (ad o, .inr (a, (fs.map (amV ad)).set b (amV ad v)))) → va_S A s.heap H1 locs1 → W p l e R s m args below meth c H1 locs1 cells slots Q (F0 m (pc + 3) lsA (q.map (amV ad))) := fun H1 locs1 h2 h3 h4 => kk H1 locs1 lsA (hset ▸ h2) (hset ▸ h3) h4 hl
    by_cases hf : (T b).2.2.2 = true
    · obtain ⟨hi, ho⟩ := hfin hf
      exact va_putF (D := D) hx hb hts (hus _ _ hr) (amFty a) hty hnm hown hK hP hD hS o hg hr b hkN w1 w2 hf (hini hi) ho (hty b hkN) (amV_narrow hnar) (amV_fits hfit) (by rw [List.length_map]; exact hlen) hd kk2
    · exact va_put (D := D) hx hb hts (hus _ _ hr) (amFty a) hty hnm hown hK hP hD hS o hg hr b hkN w1 w2 (Bool.eq_false_iff.mpr hf) (hty b hkN) (amV_narrow hnar) (amV_fits hfit) (by rw [List.length_map]; exact hlen) hd kk2
  case iaload =>
    obtain rfl : n = 1 := by rcases hn with hn | hn <;> first | exact hn | cases hn
    simp only [amStep] at h
    split at h
    · next s1 hs1 =>
      cases h
      obtain ⟨i, q, l9, h0, rfl, hin, rfl⟩ := amSc_s hs1
      obtain ⟨hX, hbl, hbA⟩ := hsc l9 h0
      exact va_sld hx hb hX hbl hbA hS hin hd (kk H locs lsA hP hD hS hl)
    · obtain ⟨s1, h1, rfl⟩ := Option.map_eq_some_iff.mp h
      obtain ⟨i, o, q, cs, rfl, hc, hin, hpv, rfl⟩ := amALd_s h1
      have hg := amW_get (dA := dA) (ad := ad) hc
      have k0 := kk H locs lsA hP hD hS hl
      exact va_iald (D := D) hx hb hK hP o 0 hg rfl hin hd (W.eq (congrArg (fun v => F0 m (pc + 1) lsA (v :: q.map (amV ad))) (amIsI_v (ad := ad) hpv).symm) k0)
  case laload =>
    obtain rfl : n = 1 := by rcases hn with hn | hn <;> first | exact hn | cases hn
    simp only [amStep] at h
    obtain ⟨s1, h1, rfl⟩ := Option.map_eq_some_iff.mp h
    obtain ⟨i, o, q, cs, rfl, hc, hin, hpv, rfl⟩ := amALd_s h1
    have hg := amW_get (dA := dA) (ad := ad) hc
    have k0 := kk H locs lsA hP hD hS hl
    exact va_lald (D := D) hx hb hK hP o 1 hg rfl hin hd (W.eq (congrArg (fun v => F0 m (pc + 1) lsA (v :: q.map (amV ad))) (amIsJ_v (ad := ad) hpv).symm) k0)
  case baload =>
    obtain rfl : n = 1 := by rcases hn with hn | hn <;> first | exact hn | cases hn
    simp only [amStep] at h
    split at h
    · next s1 h1 =>
      cases h
      obtain ⟨i, o, q, cs, rfl, hc, hin, hpv, rfl⟩ := amALd_s h1
      have hg := amW_get (dA := dA) (ad := ad) hc
      have k0 := kk H locs lsA hP hD hS hl
      exact va_bald (D := D) hx hb hK hP o 2 hg rfl hin hd (W.eq (congrArg (fun v => F0 m (pc + 1) lsA (v :: q.map (amV ad))) (amIsI_v (ad := ad) hpv).symm) k0)
    · obtain ⟨s1, h1, rfl⟩ := Option.map_eq_some_iff.mp h
      obtain ⟨i, k9, q, cs, rfl, hc, hin, rfl⟩ := amKLd_s h1
      have k0 := kk H locs lsA hP hD hS hl
      have e8 : (Value.int i :: .ref (amK + k9) :: q).map (amV ad) = .int i :: .ref (sA k9) :: q.map (amV ad) := by
        rw [List.map_cons, List.map_cons]
        show _ :: Value.ref (ad (amK + k9)) :: _ = _
        rw [hsA]
        rfl
      rw [e8]
      rcases amKA_in hc with ⟨-, e, -⟩ | ⟨-, e, -⟩ | ⟨l9, hl9, -, rfl⟩
      · cases e
      · cases e
      · rw [List.length_map] at hin
        have e7 : (l9.map Value.int).getD i.toNatClampNeg .null = .int (l9.getD i.toNatClampNeg 0) := by
          rw [List.getD_eq_getElem?_getD, List.getElem?_map, List.getElem?_eq_getElem (amIn_lt hin), List.getD_eq_getElem?_getD, List.getElem?_eq_getElem (amIn_lt hin)]
          rfl
        rw [e7] at k0
        exact va_tb hx hb (hZk.2.2.2.1 _ hl9) hS hin rfl hd k0
  case aaload =>
    obtain rfl : n = 1 := by rcases hn with hn | hn <;> first | exact hn | cases hn
    simp only [amStep] at h
    split at h
    · next s1 h1 =>
      cases h
      obtain ⟨i, o, q, cs, rfl, hc, hin, hpv, rfl⟩ := amALd_s h1
      have hg := amW_get (dA := dA) (ad := ad) hc
      have k0 := kk H locs lsA hP hD hS hl
      exact va_aldq (D := D) hx hb hK hP o 3 hg rfl hin hd (W.eq (congrArg (fun v => F0 m (pc + 1) lsA (v :: q.map (amV ad))) (amIsA_v (ad := ad) hpv).symm) k0)
    · split at h
      · next s1 h1 =>
        cases h
        obtain ⟨i, o, q, cs, rfl, hc, hin, hpv, rfl⟩ := amALd_s h1
        have hg := amW_get (dA := dA) (ad := ad) hc
        have k0 := kk H locs lsA hP hD hS hl
        exact va_aldq (D := D) hx hb hK hP o 4 hg rfl hin hd (W.eq (congrArg (fun v => F0 m (pc + 1) lsA (v :: q.map (amV ad))) (amIsA_v (ad := ad) hpv).symm) k0)
      · obtain ⟨s1, h1, rfl⟩ := Option.map_eq_some_iff.mp h
        obtain ⟨i, k9, q, cs, rfl, hc, hin, rfl⟩ := amKLd_s h1
        have k0 := kk H locs lsA hP hD hS hl
        have e8 : (Value.int i :: .ref (amK + k9) :: q).map (amV ad) = .int i :: .ref (sA k9) :: q.map (amV ad) := by
          rw [List.map_cons, List.map_cons]
          show _ :: Value.ref (ad (amK + k9)) :: _ = _
          rw [hsA]
          rfl
        rw [e8]
        rcases amKA_in hc with ⟨-, e, -⟩ | ⟨rfl, -, rfl⟩ | ⟨l9, hl9, e, -⟩
        · cases e
        · rw [List.length_map, List.length_range] at hin
          have e7 : ((List.range 256).map (fun j => Value.ref (amK + 300 + j))).getD i.toNatClampNeg .null = .ref (amK + (300 + i.toNatClampNeg)) := by
            rw [List.getD_eq_getElem?_getD, List.getElem?_map, List.getElem?_range (amIn_lt hin), ← Nat.add_assoc]
            rfl
          have e6 : amV ad (.ref (amK + (300 + i.toNatClampNeg))) = .ref (sA (300 + i.toNatClampNeg)) := by show Value.ref (ad (amK + (300 + i.toNatClampNeg))) = _; rw [hsA]
          rw [e7] at k0
          exact vb_tq hx hb hZk.2.2.1 hS hin rfl hd (W.eq (congrArg (fun v => F0 m (pc + 1) lsA (v :: q.map (amV ad))) e6.symm) k0)
        · cases e
  case iastore =>
    obtain rfl : n = 1 := by rcases hn with hn | hn <;> first | exact hn | cases hn
    simp only [amStep] at h
    obtain ⟨s1, h1, rfl⟩ := Option.map_eq_some_iff.mp h
    obtain ⟨v, i, o, q, cs, rfl, hc, hin, hpv, rfl⟩ := amASt_s h1
    obtain ⟨x, rfl⟩ := amIsI_s hpv
    have hg := amW_get (dA := dA) (ad := ad) hc
    have hset : (amW dA ad hp).set o (ad o, .inl (dA 0, cs.length, .inl (upd (fun j => amInt (cs.getD j .null)) i.toNatClampNeg x))) = amW dA ad (hp.set o (32, cs.set i.toNatClampNeg (.int x))) := by
      rw [← amW_set]
      show _ = (amW dA ad hp).set o (ad o, .inl (dA 0, (cs.set i.toNatClampNeg _).length, _))
      rw [am_set_i (amIn_lt hin) rfl, List.length_set]
      rfl
    exact va_iast (D := D) hx hb hK hP hD hS o 0 hg rfl hin hd (fun H1 locs1 h2 h3 h4 => kk H1 locs1 lsA (hset ▸ h2) (hset ▸ h3) h4 hl)
  case lastore =>
    obtain rfl : n = 1 := by rcases hn with hn | hn <;> first | exact hn | cases hn
    simp only [amStep] at h
    obtain ⟨s1, h1, rfl⟩ := Option.map_eq_some_iff.mp h
    obtain ⟨v, i, o, q, cs, rfl, hc, hin, hpv, rfl⟩ := amASt_s h1
    obtain ⟨x, rfl⟩ := amIsJ_s hpv
    have hg := amW_get (dA := dA) (ad := ad) hc
    have hset : (amW dA ad hp).set o (ad o, .inl (dA 1, cs.length, .inr (.inl (vp_updL (fun j => amLong (cs.getD j .null)) i.toNatClampNeg x)))) = amW dA ad (hp.set o (33, cs.set i.toNatClampNeg (.long x))) := by
      rw [← amW_set]
      show _ = (amW dA ad hp).set o (ad o, .inl (dA 1, (cs.set i.toNatClampNeg _).length, _))
      rw [am_set_l (amIn_lt hin) rfl, List.length_set]
      rfl
    exact va_last (D := D) hx hb hK hP hD hS o 1 hg rfl hin hd (fun H1 locs1 h2 h3 h4 => kk H1 locs1 lsA (hset ▸ h2) (hset ▸ h3) h4 hl)
  case bastore =>
    obtain rfl : n = 1 := by rcases hn with hn | hn <;> first | exact hn | cases hn
    simp only [amStep] at h
    obtain ⟨s1, h1, rfl⟩ := Option.map_eq_some_iff.mp h
    obtain ⟨v, i, o, q, cs, rfl, hc, hin, hpv, rfl⟩ := amASt_s h1
    obtain ⟨x, rfl⟩ := amIsI_s hpv
    have hg := amW_get (dA := dA) (ad := ad) hc
    have hset : (amW dA ad hp).set o (ad o, .inl (dA 2, cs.length, .inl (upd (fun j => amInt (cs.getD j .null)) i.toNatClampNeg (vp_nar .byte x)))) = amW dA ad (hp.set o (34, cs.set i.toNatClampNeg (.int (vp_nar .byte x)))) := by
      rw [← amW_set]
      show _ = (amW dA ad hp).set o (ad o, .inl (dA 2, (cs.set i.toNatClampNeg _).length, _))
      rw [am_set_i (amIn_lt hin) rfl, List.length_set]
      rfl
    exact va_bast (D := D) hx hb hK hP hD hS o 2 hg rfl hin hd (fun H1 locs1 h2 h3 h4 => kk H1 locs1 lsA (hset ▸ h2) (hset ▸ h3) h4 hl)
  case aastore =>
    obtain rfl : n = 1 := by rcases hn with hn | hn <;> first | exact hn | cases hn
    simp only [amStep] at h
    split at h
    · next s1 h1 =>
      cases h
      obtain ⟨v, i, o, q, cs, rfl, hc, hin, hpv, rfl⟩ := amASt_s h1
      unfold amIsSn at hpv
      split at hpv
      · next k =>
        split at hpv
        · next cv hcv =>
          obtain ⟨t, fs⟩ := cv
          have ht : t = 6 := of_decide_eq_true hpv
          subst ht
          have hg := amW_get (dA := dA) (ad := ad) hc
          have hgv := amW_get (dA := dA) (ad := ad) hcv
          rw [amE_obj (by decide)] at hgv
          have hset : (amW dA ad hp).set o (ad o, .inl (dA 3, cs.length, .inr (.inr (.inr (.inr (va_up (fun j => amRef ad (cs.getD j .null)) i.toNatClampNeg (some (ad k)))))))) = amW dA ad (hp.set o (35, cs.set i.toNatClampNeg (.ref k))) := by
            rw [← amW_set]
            show _ = (amW dA ad hp).set o (ad o, .inl (dA 3, (cs.set i.toNatClampNeg _).length, _))
            rw [am_set_q (amIn_lt hin) rfl, List.length_set]
          exact va_astq (D := D) (r := (RX7, TX7, 4)) hx hb hK hP hD hS o 3 k 6 hg rfl hgv rfl hin hd (fun H1 locs1 h2 h3 h4 => kk H1 locs1 lsA (hset ▸ h2) (hset ▸ h3) h4 hl)
        · cases hpv
      · cases hpv
    · obtain ⟨s1, h1, rfl⟩ := Option.map_eq_some_iff.mp h
      obtain ⟨v, i, o, q, cs, rfl, hc, hin, hpv, rfl⟩ := amASt_s h1
      have hg := amW_get (dA := dA) (ad := ad) hc
      unfold amIsO at hpv
      split at hpv
      · have hset : (amW dA ad hp).set o (ad o, .inl (dA 4, cs.length, .inr (.inr (.inr (.inr (va_up (fun j => amRef ad (cs.getD j .null)) i.toNatClampNeg none)))))) = amW dA ad (hp.set o (36, cs.set i.toNatClampNeg .null)) := by
          rw [← amW_set]
          show _ = (amW dA ad hp).set o (ad o, .inl (dA 4, (cs.set i.toNatClampNeg _).length, _))
          rw [am_set_n (amIn_lt hin), List.length_set]
        exact va_astqN (D := D) hx hb hK hP hD hS o 4 hg rfl hin hd (fun H1 locs1 h2 h3 h4 => kk H1 locs1 lsA (hset ▸ h2) (hset ▸ h3) h4 hl)
      · next k =>
        split at hpv
        · next t ht =>
          simp only [Bool.or_eq_true] at hpv
          have hany : va_Any "java/lang/Object" s H (ad k) := by
            rcases hpv with e | e | e
            · cases Nat.eq_of_beq_eq_true e
              exact am_any hCY.2.1 (am_clsR (r := (RJ6, TJ6, 1)) hK hZk hsA hP hS ht rfl (by decide))
            · cases Nat.eq_of_beq_eq_true e
              exact am_any hCY.2.2.1 (am_clsR (r := (RJx4a65c, TJx4a65c, 3)) hK hZk hsA hP hS ht rfl (by decide))
            · cases Nat.eq_of_beq_eq_true e
              rcases amCls_in ht with ⟨c9, hc9⟩ | ⟨k9, rfl, hk9⟩
              · exact am_any hCY.2.2.2 (am_clsI hK hP hc9)
              · rcases amKc_in hk9 with ⟨_, _, _, e9⟩ | ⟨_, _, _, e9⟩ <;> cases e9
          have hset : (amW dA ad hp).set o (ad o, .inl (dA 4, cs.length, .inr (.inr (.inr (.inr (va_up (fun j => amRef ad (cs.getD j .null)) i.toNatClampNeg (some (ad k)))))))) = amW dA ad (hp.set o (36, cs.set i.toNatClampNeg (.ref k))) := by
            rw [← amW_set]
            show _ = (amW dA ad hp).set o (ad o, .inl (dA 4, (cs.set i.toNatClampNeg _).length, _))
            rw [am_set_q (amIn_lt hin) rfl, List.length_set]
          exact va_astqM (D := D) hx hb hK hP hD hS o 4 hg rfl hany hin hd (fun H1 locs1 h2 h3 h4 => kk H1 locs1 lsA (hset ▸ h2) (hset ▸ h3) h4 hl)
        · cases hpv
      · cases hpv
  case arraylength =>
    obtain rfl : n = 1 := by rcases hn with hn | hn <;> first | exact hn | cases hn
    simp only [amStep] at h
    split at h
    · next s1 hs1 =>
      cases h
      obtain ⟨q, l9, h0, rfl, rfl⟩ := amScLen_s hs1
      obtain ⟨hX, hbl, hbA⟩ := hsc l9 h0
      exact va_slen hx hb hX hbl hbA hS hd (kk H locs lsA hP hD hS hl)
    · split at h
      · next s1 h1 =>
        cases h
        obtain ⟨o, q, t, cs, rfl, hc, ht1, ht2, rfl⟩ := amLen_s h1
        have hg := amW_get (dA := dA) (ad := ad) hc
        rcases (show t = 32 ∨ t = 33 ∨ t = 34 ∨ t = 35 ∨ t = 36 by omega) with rfl | rfl | rfl | rfl | rfl
        · exact va_alen (D := D) hx hb hK hP o 0 hg rfl rfl hd (kk H locs lsA hP hD hS hl)
        · exact va_alen (D := D) hx hb hK hP o 1 hg rfl rfl hd (kk H locs lsA hP hD hS hl)
        · exact va_alen (D := D) hx hb hK hP o 2 hg rfl rfl hd (kk H locs lsA hP hD hS hl)
        · exact va_alen (D := D) hx hb hK hP o 3 hg rfl rfl hd (kk H locs lsA hP hD hS hl)
        · exact va_alen (D := D) hx hb hK hP o 4 hg rfl rfl hd (kk H locs lsA hP hD hS hl)
      · obtain ⟨s1, h1, rfl⟩ := Option.map_eq_some_iff.mp h
        obtain ⟨k9, q, t, cs, rfl, hc, rfl⟩ := amKLen_s h1
        have k0 := kk H locs lsA hP hD hS hl
        have e8 : (Value.ref (amK + k9) :: q).map (amV ad) = .ref (sA k9) :: q.map (amV ad) := by
          rw [List.map_cons]
          show Value.ref (ad (amK + k9)) :: _ = _
          rw [hsA]
        rw [e8]
        rcases amKA_in hc with ⟨rfl, -, rfl⟩ | ⟨rfl, -, rfl⟩ | ⟨l9, hl9, -, rfl⟩
        · obtain ⟨f9, hT⟩ := hZk.2.1
          exact va_tlen hx hb hT hS rfl hd k0
        · rw [List.length_map, List.length_range] at k0
          exact va_tlen hx hb hZk.2.2.1 hS rfl hd k0
        · rw [List.length_map] at k0
          exact va_tlen hx hb (hZk.2.2.2.1 _ hl9) hS rfl hd k0
  case aconst_null =>
    obtain rfl : n = 1 := by rcases hn with hn | hn <;> first | exact hn | cases hn
    cases h
    exact lv_null hx hb hd (kk H locs lsA hP hD hS hl)
  case dup_x1 =>
    obtain rfl : n = 1 := by rcases hn with hn | hn <;> first | exact hn | cases hn
    simp only [amStep] at h
    split at h
    · next v w r =>
      split at h
      · next e =>
        cases h
        exact lv_dup_x1 hx hb hd (by rw [amV_cat]; exact e.1) (by rw [amV_cat]; exact e.2) (kk H locs lsA hP hD hS hl)
      · cases h
    · cases h
  case i2c =>
    obtain rfl : n = 1 := by rcases hn with hn | hn <;> first | exact hn | cases hn
    simp only [amStep] at h
    obtain ⟨s1, h1, rfl⟩ := Option.map_eq_some_iff.mp h
    obtain ⟨x, q, rfl, rfl⟩ := amI_s h1
    exact lv_i2c hx hb hd rfl (kk H locs lsA hP hD hS hl)
  case checkcast k =>
    obtain rfl : n = 3 := by rcases hn with hn | hn <;> first | exact hn | cases hn
    simp only [amStep] at h
    split at h
    · next x q =>
      split at h
      · next e =>
        cases h
        have k0 := kk H locs lsA hP hD hS hl
        unfold amCast at e
        split at e
        · next t ht =>
          simp only [Bool.or_eq_true, Bool.and_eq_true] at e
          have hlk9 := hts _ hlk
          rcases e with ⟨e1, e2⟩ | ⟨e1, e2⟩ | ⟨e1, e2⟩ | ⟨e1, e2⟩ | ⟨e1, e2⟩
          · cases Nat.eq_of_beq_eq_true e1
            cases Nat.eq_of_beq_eq_true e2
            exact va_castE (nm := "java/lang/Integer") hx hb hown hlk9 (am_clsR (r := (RJ6, TJ6, 1)) hK hZk hsA hP hS ht rfl (by decide)) hd k0
          · cases Nat.eq_of_beq_eq_true e1
            cases Nat.eq_of_beq_eq_true e2
            exact va_castY (nm := "java/util/List") hx hb hown hlk9 hCY.1 (am_clsR (r := (RJx4a65c, TJx4a65c, 3)) hK hZk hsA hP hS ht rfl (by decide)) hd k0
          · cases Nat.eq_of_beq_eq_true e1
            cases Nat.eq_of_beq_eq_true e2
            rcases amCls_in ht with ⟨c9, hc9⟩ | ⟨k9, rfl, hk9⟩
            · exact va_castA (nm := "[I") hx hb hown hlk9 hP x (amW_get (dA := dA) (ad := ad) hc9) (va_nm_int (hK.2 0 (dA 0, .int) rfl).2) hd k0
            · rcases amKc_in hk9 with ⟨_, _, _, e9⟩ | ⟨_, _, _, e9⟩ <;> cases e9
          · cases Nat.eq_of_beq_eq_true e1
            cases Nat.eq_of_beq_eq_true e2
            rcases amCls_in ht with ⟨c9, hc9⟩ | ⟨k9, rfl, hk9⟩
            · exact va_castA (nm := "[Ljava/lang/Object;") hx hb hown hlk9 hP x (amW_get (dA := dA) (ad := ad) hc9) (va_nmO (hK.2 4 (dA 4, .object "java/lang/Object") rfl).2 (by decide +kernel)) hd k0
            · rcases amKc_in hk9 with ⟨_, _, _, e9⟩ | ⟨_, _, _, e9⟩ <;> cases e9
          · cases Nat.eq_of_beq_eq_true e1
            cases Nat.eq_of_beq_eq_true e2
            rcases amCls_in ht with ⟨c9, hc9⟩ | ⟨k9, rfl, hk9⟩
            · exact va_castA (nm := "[B") hx hb hown hlk9 hP x (amW_get (dA := dA) (ad := ad) hc9) (va_nm_byte (hK.2 2 (dA 2, .byte) rfl).2) hd k0
            · rcases amKc_in hk9 with ⟨_, _, _, e9⟩ | ⟨_, _, _, e9⟩ <;> cases e9
        · cases e
      · cases h
    · cases h
  case instanceof k =>
    obtain rfl : n = 3 := by rcases hn with hn | hn <;> first | exact hn | cases hn
    simp only [amStep] at h
    split at h
    · next x q =>
      split at h
      · next e =>
        obtain ⟨e1, e2⟩ := e
        subst e2
        cases h
        exact va_instE (nm := "java/lang/Integer") hx hb hown (hts _ hlk) (am_clsR (r := (RJ6, TJ6, 1)) hK hZk hsA hP hS e1 rfl (by decide)) hd (kk H locs lsA hP hD hS hl)
      · cases h
    · cases h
  case getstatic k =>
    obtain rfl : n = 3 := by rcases hn with hn | hn <;> first | exact hn | cases hn
    simp only [amStep] at h
    obtain ⟨v, h1, rfl⟩ := Option.map_eq_some_iff.mp h
    obtain ⟨q9, g1, g2⟩ := hlk
    have k0 := kk H locs lsA hP hD hS hl
    have e7 : amV ad v = amVk sA v := by
      match a, h1 with
      | 0, h1 => cases h1; show Value.ref (ad (amK + 200)) = _; rw [hsA]; show _ = Value.ref (sA (amK + 200 - amK)); rw [Nat.add_sub_cancel_left]
      | 1, h1 => cases h1; show Value.ref (ad (amK + 201)) = _; rw [hsA]; show _ = Value.ref (sA (amK + 201 - amK)); rw [Nat.add_sub_cancel_left]
      | 2, h1 => cases h1; rfl
      | 3, h1 => cases h1; rfl
      | 4, h1 => cases h1; show Value.ref (ad (amK + 202)) = _; rw [hsA]; show _ = Value.ref (sA (amK + 202 - amK)); rw [Nat.add_sub_cancel_left]
      | 5, h1 => cases h1; show Value.ref (ad (amK + 203)) = _; rw [hsA]; show _ = Value.ref (sA (amK + 203 - amK)); rw [Nat.add_sub_cancel_left]
      | _ + 6, h1 => cases h1
    exact va_gets hx hb (hZk.2.2.2.2.2 a q9 v g1 h1) hS hown (hts _ g2) (fun _ z => z) hd (W.eq (congrArg (fun v => F0 m (pc + 3) lsA (v :: st.map (amV ad))) e7) k0)
  case if_acmp cd o9 =>
    obtain rfl : n = 3 := by rcases hn with hn | hn <;> first | exact hn | cases hn
    simp only [amStep] at h
    split at h
    · next y x q =>
      split at h
      · next e =>
        subst e
        split at h
        · cases h
          exact lv_acmp_eq (rx := some (ad x)) (ry := some (ad x)) hx hb hd hlk (fun _ => kk H locs lsA hP hD hS hl) (fun z => absurd rfl z)
        · cases h
          exact lv_acmp_ne (rx := some (ad x)) (ry := some (ad x)) hx hb hd hlk (fun z => absurd rfl z) (fun _ => kk H locs lsA hP hD hS hl)
      · cases h
    · cases h
end AMS
