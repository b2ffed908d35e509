/-! ##### 06.frames ##### -/
section
/-! ===== making cells; ends ===== -/
noncomputable def amThr (own : String) (cc : ByteArray) (pc k a b : Nat) : Prop :=
  ∃ (cls : String) (is : Nat) (text : String) (ic : Nat), amEx[a]? = some cls ∧ amStr[(b - 1) / 2]? = some (own, is, text) ∧ Bundle.fit cls = true ∧ Jvm.Cond.classLink own k cls ∈ amWL ∧ Jvm.Cond.initialized cls ∈ amWL ∧
    ((a = 3 ∧ own = "TripleTrains" ∧ ic = 283) ∨ ∀ w ∈ vx_atS own ic cls amXn, vx_ot w = true ∧ w ∈ lw_tbl ∧ (goodWord w = true ∨ (amNk w = true ∧ w.onTables = true))) ∧ decode cc (pc + 3) = .ok (.dup, 1) ∧
    (if (b - 1) % 2 = 0 then decode cc (pc + 4) = .ok (.ldc is, 2) ∧ decode cc (pc + 6) = .ok (.invokespecial ic, 3) ∧ decode cc (pc + 9) = .ok (.athrow, 1)
     else decode cc (pc + 4) = .ok (.ldc_w is, 3) ∧ decode cc (pc + 7) = .ok (.invokespecial ic, 3) ∧ decode cc (pc + 10) = .ok (.athrow, 1))
noncomputable def amNotMH (y : MethodName) : Prop := y.cls ≠ "java/lang/invoke/MethodHandle" ∧ y.cls ≠ "java/lang/invoke/VarHandle"
/-- what a making or calling instruction is linked to -/
noncomputable def amLk2 (G : Nat → Option amM) (X : Nat → Option amN) (own : String) (cc : ByteArray) (pc : Nat) (i : Instr) (a b : Nat) : Prop :=
  match i with
  | .new k => if b = 0 then (∃ r, vwCl[a]? = some r ∧ Jvm.Cond.classLink own k r.1 ∈ amWL ∧ Jvm.Cond.instantiable r.1 r.2.2 ∈ amWL ∧ Jvm.Cond.initialized r.1 ∈ amWL) else amThr own cc pc k a b
  | .newarray t => ∀ q, amKind t = some q → Jvm.Cond.arrayClass (newarray.typeOf t) ∈ amWL
  | .anewarray k => Jvm.Cond.classLink own k "TripleTrains$Snapshot" ∈ amWL
  | .invokevirtual k => if b = 7 then Jvm.Cond.methodLink own k yJ0_length_8abf5 ∈ amWL else if b = 8 then Jvm.Cond.methodLink own k yJ0_charAt_5068e ∈ amWL else ∃ N M r n, X a = some N ∧ G a = some M ∧ N.2.2 = [] ∧ vwCl[M.2.2.2.2.2.2]? = some r ∧ N.1.cls = r.1 ∧ Jvm.Cond.methodLink own k N.1 ∈ amWL ∧ Jvm.Cond.instanceMethod N.1 ∈ amWL ∧ Jvm.Cond.selects r.1 N.1 N.1 ∈ amWL ∧ Jvm.Cond.initialized r.1 ∈ amWL ∧ Jvm.Cond.code N.1 N.2.1 M.2.1 M.2.2.2.2.1 ∈ amWL ∧ amNotMH N.1 ∧ (parseMethodDescriptor N.1.desc).map (fun d => d.parameters.length) = some n ∧ M.2.2.1 = n + 1
  | .invokestatic k => if b = 6 then Jvm.Cond.methodLink own k arraycopyName ∈ amWL ∧ Jvm.Cond.native arraycopyName ∈ amWL ∧ Jvm.Cond.static arraycopyName ∈ amWL ∧ Jvm.Cond.initialized "java/lang/System" ∈ amWL
      else ∃ N M, X a = some N ∧ G a = some M ∧ (if b = 0 then N.2.2 = [] ∧ Jvm.Cond.code N.1 N.2.1 M.2.1 M.2.2.2.2.1 ∈ amWL else N.2.2 ≠ [] ∧ Jvm.Cond.codeWith N.1 N.2.1 M.2.1 M.2.2.2.2.1 N.2.2 ∈ amWL) ∧ Jvm.Cond.methodLink own k N.1 ∈ amWL ∧ Jvm.Cond.static N.1 ∈ amWL ∧ Jvm.Cond.initialized N.1.cls ∈ amWL ∧ amNotMH N.1 ∧ (parseMethodDescriptor N.1.desc).map (fun d => d.parameters.length) = some M.2.2.1
  | .invokespecial k => if b = 5 then Jvm.Cond.methodLink own k Lib.objectInit ∈ amWL ∧ Jvm.Cond.instanceMethod Lib.objectInit ∈ amWL ∧ Jvm.Cond.code Lib.objectInit ⟨#[0xb1]⟩ 1 none ∈ amWL
      else ∃ N M n, X a = some N ∧ G a = some M ∧ N.2.2 = [] ∧ M.2.2.2.2.1 = none ∧ (Jvm.Cond.methodLink own k N.1 ∈ amWL ∨ ∃ host, Jvm.Cond.methodLinkNest own k N.1 host ∈ lw_tbl) ∧ Jvm.Cond.instanceMethod N.1 ∈ amWL ∧ Jvm.Cond.initialized N.1.cls ∈ amWL ∧ Jvm.Cond.code N.1 N.2.1 M.2.1 none ∈ amWL ∧ N.1.name = "<init>" ∧ amNotMH N.1 ∧ (parseMethodDescriptor N.1.desc).map (fun d => d.parameters.length) = some n ∧ M.2.2.1 = n + 1
  | _ => True
/-- an entry of a method's code -/
noncomputable def amEok (G : Nat → Option amM) (X : Nat → Option amN) (N : amN) (M : amM) (q : Nat × amIn1) : Prop :=
  (∃ n, decode N.2.1 q.1 = .ok (q.2.1, n) ∧ (amSz q.2.1 = 0 ∨ n = amSz q.2.1)) ∧ amLk amWL N.1.cls M.2.2.2.1 q.1 q.2.1 q.2.2.1 q.2.2.2 ∧ amLk2 G X N.1.cls N.2.1 q.1 q.2.1 q.2.2.1 q.2.2.2
theorem am_up_ag {hp : amH} {ad : Nat → Nat} {q : Nat} (h : hp.length < amK) : amAg hp.length ad (va_up ad hp.length q) := by
  intro i hi
  unfold va_up
  rw [if_neg]
  rcases hi with hi | hi <;> omega
theorem am_rep_i {n : Nat} : (fun j => amInt ((List.replicate n (.int 0)).getD j .null)) = fun _ => (0 : Int32) := by
  funext j
  by_cases h : j < n
  · simp [List.getElem?_replicate, h, amInt]
  · simp [List.getElem?_replicate, h, amInt]
theorem am_rep_l {n : Nat} : (fun j => amLong ((List.replicate n (.long 0)).getD j .null)) = fun _ => (0 : Int64) := by
  funext j
  by_cases h : j < n
  · simp [List.getElem?_replicate, h, amLong]
  · simp [List.getElem?_replicate, h, amLong]
theorem am_rep_q {ad : Nat → Nat} {n : Nat} : (fun j => amRef ad ((List.replicate n .null).getD j .null)) = fun _ => (none : Option Nat) := by
  funext j
  by_cases h : j < n
  · simp [List.getElem?_replicate, h, amRef]
  · simp [List.getElem?_replicate, h, amRef]
theorem amDef_len {ci : Nat} {r : vw_C} (h : vwCl[ci]? = some r) : (amDef ci).length = r.2.2 := by simp [amDef, h]
theorem amDef_at {ci : Nat} {r : vw_C} (h : vwCl[ci]? = some r) {j : Nat} (hj : j < r.2.2) : defaultValue (amFty ci j) = vp_V (amDef ci) j := by
  simp [vp_V, amDef, h, hj]
theorem am_default (ad : Nat → Nat) (ty : FieldType) : amV ad (defaultValue ty) = defaultValue ty := by cases ty <;> rfl
theorem amDef_map (ad : Nat → Nat) (ci : Nat) : (amDef ci).map (amV ad) = amDef ci := by
  unfold amDef
  split
  · rw [List.map_map]
    exact List.map_congr_left fun k _ => am_default ad _
  · rfl
theorem am_lt32 {a : Nat} {r : vw_C} (h : vwCl[a]? = some r) : a < 32 := by
  have h1 := (List.getElem?_eq_some_iff.mp h).1
  have h2 : vwCl.length = 12 := rfl
  omega
theorem am_cpy {c0 c1 : List Value} {sp dp n : Nat} (h0 : sp + n ≤ c0.length) (h1 : dp + n ≤ c1.length) : (fun j => amInt ((c1.take dp ++ ((c0.drop sp).take n ++ c1.drop (dp + n))).getD j .null)) = va_cpy (fun j => amInt (c0.getD j .null)) (fun j => amInt (c1.getD j .null)) sp dp n := by
  funext j
  unfold va_cpy
  dsimp only
  by_cases h2 : dp ≤ j ∧ j < dp + n
  · rw [if_pos h2]
    congr 1
    rw [List.getD_eq_getElem?_getD, List.getD_eq_getElem?_getD, List.getElem?_append_right (by simp; omega), List.getElem?_append_left (by simp; omega)]
    simp only [List.length_take]
    rw [List.getElem?_take, if_pos (by omega), List.getElem?_drop]
    congr 2
    omega
  · rw [if_neg h2]
    congr 1
    rw [List.getD_eq_getElem?_getD, List.getD_eq_getElem?_getD]
    by_cases h3 : j < dp
    · rw [List.getElem?_append_left (by simp; omega), List.getElem?_take, if_pos h3]
    · rw [List.getElem?_append_right (by simp; omega), List.getElem?_append_right (by simp; omega), List.getElem?_drop]
      congr 2
      simp only [List.length_take, List.length_drop]
      omega
theorem am_cpy_len {c0 c1 : List Value} {sp dp n : Nat} (h0 : sp + n ≤ c0.length) (h1 : dp + n ≤ c1.length) : (c1.take dp ++ ((c0.drop sp).take n ++ c1.drop (dp + n))).length = c1.length := by
  simp
  omega
section AMD
variable {p : Program} {l : Launch} {e : Env} {R : Room} {s : State} {m : MethodId} {args : Array Value} {below : List Frame} {meth : Method} {c : Code} {H : Heap} {locs : List Loc} {cells slots : Nat} {Q : State → Prop}
variable {D : va_G} {dA : Nat → ClassId} {A : Nat → Prop} {sA : Nat → Nat}
theorem am_new {dA : Nat → ClassId} {ad : Nat → Nat} {hp : amH} {q : Nat} {t : Nat} {vs : List Value} {E : va_E} (hH : amOkH hp.length hp = true) (hk : hp.length < amK) (hE : amE dA (va_up ad hp.length q) (t, vs) = E) : amW dA ad hp ++ [(q, E)] = amW dA (va_up ad hp.length q) (hp ++ [(t, vs)]) := by
  rw [amW_push, amW_ag hH (am_up_ag hk), hE]
  simp [va_up]
theorem am_newst {ad : Nat → Nat} {hp : amH} {q : Nat} {r : List Value} (hr : amOkS hp.length r = true) (hk : hp.length < amK) : (Value.ref hp.length :: r).map (amV (va_up ad hp.length q)) = .ref q :: r.map (amV ad) := by
  rw [List.map_cons, amSt_ag hr (am_up_ag hk)]
  simp [amV, va_up]
set_option maxHeartbeats 1000000 in
theorem am_act (hx : p.tables.exec = Jvm.exec) {G : Nat → Option amM} {X : Nat → Option amN} {N : amN} {M : amM} (hb : c.code = N.2.1) (hml : c.maxLocals = M.2.1) (hts : ∀ w ∈ amWL, w.before args s = true) (hown : s.vm.findClass N.1.cls = some m.cls) (hG : amG D dA sA s) (hZ9 : amZ sA A s s.heap) (hus : ∀ (ci : Nat) (r : vw_C), vwCl[ci]? = some r → ∀ w ∈ u_ws r.1 r.2.1 r.2.2, w ∈ amWL) (hcl : amClOk) (hini : M.2.2.2.1 = true → meth.name = "<init>") {sc : Option (List Int32)} {ad : Nat → Nat} (hsA : ∀ k, ad (amK + k) = sA k) (hsc : ∀ l9, sc = some l9 → va_X (sA 999999) l9.length (fun j => l9.getD j 0) s s.heap ∧ sA 999999 < s.heap.size ∧ ¬ A (sA 999999)) (hA : ∀ q, s.heap.size ≤ q → A q)
    {pc a b : Nat} {i : Instr} (hE : amEok G X N M (pc, i, a, b)) (hR8 : 8 ≤ R.frames ∧ 128 ≤ R.locals) (hroom9 : cells ≤ R.cells ∧ slots ≤ R.slots) {ls : amL} {st : List Value} {hp : amH} {r : amR} {dk ds : Nat} (h : amDo G M sc i a b pc ls st hp = some (.inl (r, dk, ds))) (hroom : cells + dk ≤ R.cells ∧ slots + ds ≤ R.slots) {lsA : Array Slot} (hl : lv_has lsA M.2.1 (amLs ad ls)) (hP : va_P D vwCl (amW dA ad hp) H) (hD : va_D A (amW dA ad hp)) (hS : va_S A s.heap H locs)
    (kk : ∀ (ad1 : Nat → Nat) (H1 : Heap) (locs1 : List Loc) (lsA1 : Array Slot), amAg hp.length ad ad1 → va_P D vwCl (amW dA ad1 r.2.2.2) H1 → va_D A (amW dA ad1 r.2.2.2) → va_S A s.heap H1 locs1 → lv_has lsA1 M.2.1 (amLs ad1 r.2.1) → W p l e R s m args below meth c H1 locs1 (cells + dk) (slots + ds) Q (F0 m r.1 lsA1 (r.2.2.1.map (amV ad1)))) :
    W p l e R s m args below meth c H locs cells slots Q (F0 m pc lsA (st.map (amV ad))) := by
  obtain ⟨hd, hlk, hlk2⟩ := hE
  dsimp only at hd hlk hlk2
  have hK := hG.1
  have hR : 1 ≤ R.frames ∧ 100 ≤ R.locals := ⟨by omega, by omega⟩
  unfold amDo at h
  split at h
  case h_1 z =>
    split at h
    · next hb0 =>
      obtain ⟨o1, o2, o3, o4, e1⟩ := amMake_s h
      cases e1
      unfold amLk2 at hlk2
      dsimp only at hlk2
      rw [if_pos hb0] at hlk2
      obtain ⟨r, hc, w1, w2, w3⟩ := hlk2
      obtain ⟨n, hd, hn⟩ := hd
      obtain rfl : n = 3 := by rcases hn with hn | hn <;> first | exact hn | cases hn
      dsimp only at hroom kk
      rw [amDef_len hc] at hroom kk
      refine va_new (c0 := c) (D := D) (ci := a) (fs := amDef a) hx hb hts (hus a r hc) (amFty a) (hcl a r hc).1 hown (hts _ w1) (hts _ w2) (hts _ w3) hK hP hD hS hA hc (fun j hj => amDef_at hc hj) hroom.1 hroom.2 hd (fun q H1 hP1 hD1 hS1 => ?_)
      have e2 := am_new (q := q) (E := .inr (a, amDef a)) (t := a) (vs := amDef a) (dA := dA) (ad := ad) o3 o4 (by rw [amE_obj (am_lt32 hc), amDef_map])
      rw [e2] at hP1 hD1
      exact W.eq (congrArg (fun z => F0 m (pc + 3) lsA z) (am_newst (q := q) (ad := ad) o2 o4).symm) (kk (va_up ad hp.length q) H1 locs lsA (am_up_ag o4) hP1 hD1 hS1 (by rw [amLs_ag o1 (am_up_ag o4)]; exact hl))
    · split at h <;> cases h
  case h_2 t =>
    obtain ⟨n, q, t0, v, rfl, hk, hn0, hn1, h⟩ := amMakeA_s h
    obtain ⟨o1, o2, o3, o4, e1⟩ := amMake_s h
    cases e1
    have hw := hlk2 _ hk
    obtain ⟨k, hd, hn⟩ := hd
    obtain rfl : k = 2 := by rcases hn with hn | hn <;> first | exact hn | cases hn
    dsimp only [List.length_replicate] at hroom kk
    rw [List.length_replicate] at hroom kk
    cases t <;> cases hk
    case refl.byte.refl =>
      refine va_newa (D := D) (ty := .byte) (a0 := (n.toNatClampNeg, .inl fun _ => 0)) hx hb (hts _ hw) rfl hK hP hD hS hA (fun _ => rfl) hn0 rfl (by show n.toNatClampNeg * 1 ≤ _; omega) hroom.1 hroom.2 hd (fun q1 cA H1 hK1 hP1 hD1 hS1 => ?_)
      have hcA : cA = dA 2 := Option.some.inj ((hK1.2 4 (cA, .byte) rfl).2.symm.trans (hK.2 2 (dA 2, .byte) rfl).2)
      subst hcA
      have e2 := am_new (q := q1) (E := .inl (dA 2, n.toNatClampNeg, .inl fun _ => 0)) (t := 34) (vs := List.replicate n.toNatClampNeg (.int 0)) (dA := dA) (ad := ad) o3 o4 (by show Sum.inl _ = _; rw [am_rep_i, List.length_replicate])
      rw [e2] at hP1 hD1
      exact W.eq (congrArg (fun z => F0 m (pc + 2) lsA z) (am_newst (q := q1) (ad := ad) o2 o4).symm) (kk (va_up ad hp.length q1) H1 locs lsA (am_up_ag o4) hP1 hD1 hS1 (by rw [amLs_ag o1 (am_up_ag o4)]; exact hl))
    case refl.int.refl =>
      refine va_newa (D := D) (ty := .int) (a0 := (n.toNatClampNeg, .inl fun _ => 0)) hx hb (hts _ hw) rfl hK hP hD hS hA (fun _ => rfl) hn0 rfl (by show n.toNatClampNeg * 4 ≤ _; omega) hroom.1 hroom.2 hd (fun q1 cA H1 hK1 hP1 hD1 hS1 => ?_)
      have hcA : cA = dA 0 := Option.some.inj ((hK1.2 4 (cA, .int) rfl).2.symm.trans (hK.2 0 (dA 0, .int) rfl).2)
      subst hcA
      have e2 := am_new (q := q1) (E := .inl (dA 0, n.toNatClampNeg, .inl fun _ => 0)) (t := 32) (vs := List.replicate n.toNatClampNeg (.int 0)) (dA := dA) (ad := ad) o3 o4 (by show Sum.inl _ = _; rw [am_rep_i, List.length_replicate])
      rw [e2] at hP1 hD1
      exact W.eq (congrArg (fun z => F0 m (pc + 2) lsA z) (am_newst (q := q1) (ad := ad) o2 o4).symm) (kk (va_up ad hp.length q1) H1 locs lsA (am_up_ag o4) hP1 hD1 hS1 (by rw [amLs_ag o1 (am_up_ag o4)]; exact hl))
    case refl.long.refl =>
      refine va_newa (D := D) (ty := .long) (a0 := (n.toNatClampNeg, .inr (.inl fun _ => 0))) hx hb (hts _ hw) rfl hK hP hD hS hA (fun _ => rfl) hn0 rfl (by show n.toNatClampNeg * 8 ≤ _; omega) hroom.1 hroom.2 hd (fun q1 cA H1 hK1 hP1 hD1 hS1 => ?_)
      have hcA : cA = dA 1 := Option.some.inj ((hK1.2 4 (cA, .long) rfl).2.symm.trans (hK.2 1 (dA 1, .long) rfl).2)
      subst hcA
      have e2 := am_new (q := q1) (E := .inl (dA 1, n.toNatClampNeg, .inr (.inl fun _ => 0))) (t := 33) (vs := List.replicate n.toNatClampNeg (.long 0)) (dA := dA) (ad := ad) o3 o4 (by show Sum.inl _ = _; rw [am_rep_l, List.length_replicate])
      rw [e2] at hP1 hD1
      exact W.eq (congrArg (fun z => F0 m (pc + 2) lsA z) (am_newst (q := q1) (ad := ad) o2 o4).symm) (kk (va_up ad hp.length q1) H1 locs lsA (am_up_ag o4) hP1 hD1 hS1 (by rw [amLs_ag o1 (am_up_ag o4)]; exact hl))
  case h_3 z =>
    obtain ⟨n, q, t0, v, rfl, hk, hn0, hn1, h⟩ := amMakeA_s h
    obtain ⟨o1, o2, o3, o4, e1⟩ := amMake_s h
    cases e1
    cases hk
    obtain ⟨k, hd, hn⟩ := hd
    obtain rfl : k = 3 := by rcases hn with hn | hn <;> first | exact hn | cases hn
    dsimp only at hroom kk
    rw [List.length_replicate] at hroom kk
    refine va_newq (D := D) (C := "TripleTrains$Snapshot") hx hb hown (hts _ hlk2) hG.2.2.2.2 hK hP hD hS hA hn0 rfl (by omega) hroom.1 hroom.2 hd (fun q1 cA H1 hK1 hP1 hD1 hS1 => ?_)
    have hcA : cA = dA 3 := by
      obtain ⟨_, _, -, -, -, g1⟩ := (hK1.2 4 (cA, .object "TripleTrains$Snapshot") rfl).2
      obtain ⟨_, _, -, -, -, g2⟩ := (hK.2 3 (dA 3, .object "TripleTrains$Snapshot") rfl).2
      exact Option.some.inj (g1.symm.trans g2)
    subst hcA
    have e2 := am_new (q := q1) (E := .inl (dA 3, n.toNatClampNeg, .inr (.inr (.inr (.inr fun _ => none))))) (t := 35) (vs := List.replicate n.toNatClampNeg .null) (dA := dA) (ad := ad) o3 o4 (by show Sum.inl _ = _; rw [am_rep_q, List.length_replicate])
    rw [e2] at hP1 hD1
    exact W.eq (congrArg (fun z => F0 m (pc + 3) lsA z) (am_newst (q := q1) (ad := ad) o2 o4).symm) (kk (va_up ad hp.length q1) H1 locs lsA (am_up_ag o4) hP1 hD1 hS1 (by rw [amLs_ag o1 (am_up_ag o4)]; exact hl))
  case h_4 z =>
    have S9 : CallFix p m c N.2.1 M.2.1 s args amWL N.1.cls := ⟨hx, hb, hml, hown, hts⟩
    have hke : ∀ {H1 : Heap}, (∀ q : Nat, q < H.size → H1[q]? = H[q]?) → va_P D vwCl (amW dA ad hp) H1 := fun hs => hP.kept (fun k q hk => hs q.1 ((hP k q hk).lt))
    split at h
    · next hb7 =>
      obtain ⟨k9, l9, q, hk9, rfl, h6, e1⟩ := amLenS_s h
      cases e1
      unfold amLk2 at hlk2
      dsimp only at hlk2
      rw [if_pos hb7] at hlk2
      obtain ⟨k, hd, hn⟩ := hd
      obtain rfl : k = 3 := by rcases hn with hn | hn <;> first | exact hn | cases hn
      have hcat : ((q.map (amV ad)).map fun v => v.category).sum ≤ 8 := by
        rw [List.map_map]
        simpa [Function.comp_def, amV_cat] using h6
      obtain ⟨t9, hB9⟩ := hZ9.2.2.2 _ hk9
      have e9 : (.ref (amK + k9) :: q).map (amV ad) = .ref (sA k9) :: q.map (amV ad) := by
        rw [List.map_cons]
        show Value.ref (ad (amK + k9)) :: _ = _
        rw [hsA]
      rw [e9]
      exact sw_lenW S9 hA hZ9.2.2.1 hB9 hS hk9 hlk2 hR8 hroom9 hl.1 hcat hd (fun H1 locs1 _ u2 u3 => kk ad H1 locs1 lsA (amAg.refl _ _) (hke u2) hD u3 hl)
    · split at h
      · next hb7 hb8 =>
        obtain ⟨i9, k9, l9, q, hk9, rfl, hi9, h6, e1⟩ := amChrS_s h
        cases e1
        unfold amLk2 at hlk2
        dsimp only at hlk2
        rw [if_neg hb7, if_pos hb8] at hlk2
        obtain ⟨k, hd, hn⟩ := hd
        obtain rfl : k = 3 := by rcases hn with hn | hn <;> first | exact hn | cases hn
        have hcat : ((q.map (amV ad)).map fun v => v.category).sum ≤ 8 := by
          rw [List.map_map]
          simpa [Function.comp_def, amV_cat] using h6
        obtain ⟨t9, hB9⟩ := hZ9.2.2.2 _ hk9
        have e9 : (.int i9 :: .ref (amK + k9) :: q).map (amV ad) = .int i9 :: .ref (sA k9) :: q.map (amV ad) := by
          rw [List.map_cons, List.map_cons]
          show _ :: Value.ref (ad (amK + k9)) :: _ = _
          rw [hsA]
          rfl
        rw [e9]
        exact sw_chrW S9 hA hZ9.2.2.1 hB9 hS hk9 hi9 hlk2 hR8 hroom9 hl.1 hcat hd (fun H1 locs1 _ u2 u3 => kk ad H1 locs1 lsA (amAg.refl _ _) (hke u2) hD u3 hl)
      · obtain ⟨_, _, _, -, -, -, -, -, -, -, -, e1⟩ := amCall_s h; cases e1
  case h_5 z =>
    split at h
    · next hb6 =>
      obtain ⟨n, dp, o, sp, a0, q, c0, c1, rfl, g0, g1, h1, h2, h3, h4, h5, h6, e1⟩ := amCopy_s h
      cases e1
      unfold amLk2 at hlk2
      dsimp only at hlk2
      rw [if_pos hb6] at hlk2
      obtain ⟨w1, w2, w3, w4⟩ := hlk2
      obtain ⟨k, hd, hn⟩ := hd
      obtain rfl : k = 3 := by rcases hn with hn | hn <;> first | exact hn | cases hn
      have e0 := amW_get (dA := dA) (ad := ad) g0
      have e1 := amW_get (dA := dA) (ad := ad) g1
      have hset : (amW dA ad hp).set o (ad o, .inl (dA 0, c1.length, .inl (va_cpy (fun j => amInt (c0.getD j .null)) (fun j => amInt (c1.getD j .null)) sp.toNatClampNeg dp.toNatClampNeg n.toNatClampNeg))) = amW dA ad (hp.set o (32, c1.take dp.toNatClampNeg ++ ((c0.drop sp.toNatClampNeg).take n.toNatClampNeg ++ c1.drop (dp.toNatClampNeg + n.toNatClampNeg)))) := by
        rw [← amW_set]
        show _ = (amW dA ad hp).set o (ad o, .inl (dA 0, List.length _, _))
        rw [am_cpy h4 h5, am_cpy_len h4 h5]
      have hcat : ((q.map (amV ad)).map fun v => v.category).sum ≤ 8 := by
        rw [List.map_map]
        simpa [Function.comp_def, amV_cat] using h6
      exact va_copyi (D := D) (ty := .int) hx hb (hml.trans hl.1.symm) hown (hts _ w1) (hts _ w2) (hts _ w3) (hts _ w4) hK hP hD hS a0 o 0 0 e0 e1 rfl rfl rfl h1 h2 h3 h4 h5 (fun _ _ => rfl) hR.1 (by
        have : nativeFrameWords "java/lang/System" "arraycopy" 5 + 11 ≤ 90 := by decide +kernel
        omega) hd (fun H1 locs1 p2 p3 p4 => kk ad H1 locs1 lsA (amAg.refl _ _) (hset ▸ p2) (hset ▸ p3) p4 hl)
    · obtain ⟨_, _, _, -, -, -, -, -, -, -, -, e1⟩ := amCall_s h; cases e1
  case h_6 z =>
    split at h
    · next hb5 =>
      obtain ⟨o, q, rfl, h6, e1⟩ := amObj_s h
      cases e1
      unfold amLk2 at hlk2
      dsimp only at hlk2
      rw [if_pos hb5] at hlk2
      obtain ⟨w1, w2, w3⟩ := hlk2
      obtain ⟨k, hd, hn⟩ := hd
      obtain rfl : k = 3 := by rcases hn with hn | hn <;> first | exact hn | cases hn
      have hcat : ((q.map (amV ad)).map fun v => v.category).sum ≤ 8 := by
        rw [List.map_map]
        simpa [Function.comp_def, amV_cat] using h6
      refine W.objInit hx hb hown (hts _ w1) (hts _ w2) (hts _ w3) rfl (hl.1.trans hml.symm) rfl hd hR.1 ?_ ?_
      · show 2 * 0 + _ + 12 ≤ _
        omega
      · exact kk ad H locs lsA (amAg.refl _ _) hP hD hS hl
    · obtain ⟨_, _, _, -, -, -, -, -, -, -, -, e1⟩ := amCall_s h; cases e1
  case h_7 => obtain ⟨v, -, e1⟩ := Option.map_eq_some_iff.mp h; cases e1
  case h_8 => obtain ⟨v, -, e1⟩ := Option.map_eq_some_iff.mp h; cases e1
  case h_9 => obtain ⟨v, -, e1⟩ := Option.map_eq_some_iff.mp h; cases e1
  case h_10 => obtain ⟨v, -, e1⟩ := Option.map_eq_some_iff.mp h; cases e1
  case h_11 => obtain ⟨v, -, e1⟩ := Option.map_eq_some_iff.mp h; cases e1
  case h_12 =>
    obtain ⟨v, h1, e1⟩ := Option.map_eq_some_iff.mp h
    cases e1
    exact amStep_ok (sA := sA) (D := D) hx hb hts hown hK hus hcl hini hG.2.1 hsA (fun l9 z => by
      have e9 : ad amS = sA 999999 := hsA 999999
      rw [e9]
      exact hsc l9 z) hd hlk h1 hl hP hD hS (fun H1 locs1 lsA1 p2 p3 p4 p5 => kk ad H1 locs1 lsA1 (amAg.refl _ _) p2 p3 p4 p5)
end AMD
end
/-! ##### 07.whole ##### -/
section
/-! ===== whole frames ===== -/
/-- a method's handlers: where one takes what a call throws -/
noncomputable def amHok (N : amN) (M : amM) : Prop :=
  (M.2.2.2.2.2.1 = [] → N.2.2 = []) ∧ ∀ (pc E h x to : Nat) (En : String), amHand M.2.2.2.2.2.1 pc E = some (h, x, to) → amEx[E]? = some En →
    ∃ (pre : List ExceptionTableEntry) (z : ExceptionTableEntry) (suf : List ExceptionTableEntry), tableOf N.2.2 = pre ++ z :: suf ∧ (∀ y ∈ pre, covers y pc = false ∨ (y.catchType ≠ 0 ∧ ∃ nm : String, Jvm.Cond.classLink N.1.cls y.catchType nm ∈ amWL ∧ (En, nm) ∈ amNc)) ∧ covers z pc = true ∧ z.catchType ≠ 0 ∧ z.handlerPc = h ∧
      Jvm.Cond.classLink N.1.cls z.catchType En ∈ amWL ∧ Jvm.Cond.castable En En ∈ lw_tbl ∧ x < M.2.1 ∧ ((∃ j : Fin 4, (j : Nat) = x ∧ decode N.2.1 h = .ok (.astore_n j, 1) ∧ to = h + 1) ∨ (decode N.2.1 h = .ok (.astore x, 2) ∧ to = h + 2))
/-- a method, its code and names -/
noncomputable def amMk (G : Nat → Option amM) (X : Nat → Option amN) (N : amN) (M : amM) : Prop :=
  plainFor N.1 = true ∧ M.2.1 ≤ 100 ∧ (M.2.2.2.1 = true → N.1.name = "<init>") ∧ amHok N M ∧ ∀ q ∈ M.1, amEok G X N M q
noncomputable def amCx (p : Program) (R : Room) (s : State) (m : MethodId) (args : Array Value) (meth : Method) (c : Code) (A : Nat → Prop) (D : va_G) (dA : Nat → ClassId) (sA : Nat → Nat) (G : Nat → Option amM) (X : Nat → Option amN) (N : amN) (M : amM) (sc : Option (List Int32)) (d mc ms : Nat) : Prop :=
  p.tables.exec = Jvm.exec ∧ c.code = N.2.1 ∧ c.maxLocals = M.2.1 ∧ s.vm.findClass N.1.cls = some m.cls ∧ (∀ w ∈ amWL, w.before args s = true) ∧ amG D dA sA s ∧ amZ sA A s s.heap ∧ (∀ q, s.heap.size ≤ q → A q) ∧ (M.2.2.2.1 = true → meth.name = "<init>") ∧ c.exceptionTable.toList = tableOf N.2.2 ∧ amMk G X N M ∧ (d + 8 ≤ R.frames ∧ 128 * (d + 1) ≤ R.locals ∧ mc ≤ R.cells ∧ ms ≤ R.slots) ∧ (∀ l9, sc = some l9 → va_X (sA 999999) l9.length (fun j => l9.getD j 0) s s.heap ∧ sA 999999 < s.heap.size ∧ ¬ A (sA 999999))
noncomputable def amFR (l : Launch) (D : va_G) (dA : Nat → ClassId) (sA : Nat → Nat) (G : Nat → Option amM) (X : Nat → Option amN) (f : Nat) : Prop :=
  ∀ (p : Program) (e : Env) (R : Room) (s : State) (m : MethodId) (args : Array Value) (below : List Frame) (meth : Method) (c : Code) (A : Nat → Prop) (Q : State → Prop) (N : amN) (M : amM) (sc : Option (List Int32)) (d n0 : Nat) (ad0 : Nat → Nat) (x : Option Value ⊕ Nat) (hp1 : amH) (mc ms : Nat),
    amCx p R s m args meth c A D dA sA G X N M sc d mc ms → (∀ j, ad0 (amK + j) = sA j) →
    (∀ (v : Option Value) (i : Instr) (pc : Nat) (st : List Value) (ad : Nat → Nat) (H : Heap) (locs : List Loc) (lsA : Array Slot), x = .inl v → decode N.2.1 pc = .ok (i, 1) → amRetV M.2.2.2.2.1 i st = some v → amAg n0 ad0 ad → va_P D vwCl (amW dA ad hp1) H → va_D A (amW dA ad hp1) → va_S A s.heap H locs → W p l e R s m args below meth c H locs mc ms Q (F0 m pc lsA (st.map (amV ad)))) →
    (∀ (a b k kc ks pc : Nat) (st : List Value) (ad : Nat → Nat) (H : Heap) (locs : List Loc) (lsA : Array Slot), x = .inr a → decode N.2.1 pc = .ok (.new k, 3) → amThr N.1.cls N.2.1 pc k a b → M.2.2.2.2.2.1 = [] → (st.map fun v => v.category).sum ≤ 8 → lsA.size = M.2.1 → kc + 1 = mc → ks + 6 = ms → amAg n0 ad0 ad → va_P D vwCl (amW dA ad hp1) H → va_D A (amW dA ad hp1) → va_S A s.heap H locs → W p l e R s m args below meth c H locs kc ks Q (F0 m pc lsA (st.map (amV ad)))) →
    (∀ (E : Nat) (En : String) (ce : Cell) (q9 pc : Nat) (st : List Value) (ad : Nat → Nat) (H : Heap) (locs : List Loc) (lsA : Array Slot), x = .inr E → amEx[E]? = some En → M.2.2.2.2.2.1 = [] → amAg n0 ad0 ad → va_P D vwCl (amW dA ad hp1) H → va_D A (amW dA ad hp1) → va_S A s.heap H locs → H[q9]? = some ce → ce.vm = .none → s.vm.findClass En = some ce.cls → vx_W p l e R s m args below meth c H locs mc ms Q (F0 m pc lsA st) q9) →
    ∀ (cs : amP) (pc : Nat) (ls : amL) (st : List Value) (hp : amH) (kc ks : Nat) (ad : Nat → Nat) (H : Heap) (locs : List Loc) (lsA : Array Slot), (∀ q ∈ cs, q ∈ M.1) → amRun G sc f d M cs pc ls st hp kc ks = some (x, hp1, mc, ms) → amAg n0 ad0 ad → n0 ≤ hp.length → lv_has lsA M.2.1 (amLs ad ls) → va_P D vwCl (amW dA ad hp) H → va_D A (amW dA ad hp) → va_S A s.heap H locs → W p l e R s m args below meth c H locs kc ks Q (F0 m pc lsA (st.map (amV ad)))
noncomputable def amHd (N : amN) (M : amM) : Jvm.Cond := if N.2.2 = [] then Jvm.Cond.code N.1 N.2.1 M.2.1 M.2.2.2.2.1 else Jvm.Cond.codeWith N.1 N.2.1 M.2.1 M.2.2.2.2.1 N.2.2
noncomputable def amCT (l : Launch) (D : va_G) (dA : Nat → ClassId) (sA : Nat → Nat) (G : Nat → Option amM) (X : Nat → Option amN) (f : Nat) : Prop :=
  ∀ (k : Nat) (N : amN) (M : amM) (d : Nat) (av : List Value) (hp hp1 : amH) (x : Option Value ⊕ Nat) (mc ms : Nat) (ad : Nat → Nat) (sz : Nat), X k = some N → G k = some M → (∀ j, ad (amK + j) = sA j) → (av.map fun v => v.category).sum ≤ M.2.1 → amRun G none f d M M.1 0 (lv_args 0 av) [] hp 0 0 = some (x, hp1, mc, ms) →
    vx_Met l N.1 (amHd N M :: amWL) (amRm d mc ms) (amPc D dA sA ad hp av sz) (amQ D dA ad hp.length (va_A (amW dA ad hp) sz) x hp1) (amX D dA ad hp.length (va_A (amW dA ad hp) sz) x hp1) mc ms (va_A (amW dA ad hp) sz)
theorem amRetV_s {ret : Option FieldType} {i : Instr} {st : List Value} {v : Option Value} (h : amRetV ret i st = some v) :
    (∃ ty x, i = .ireturn ∧ ret = some ty ∧ st = [.int x] ∧ narrow ty (.int x) = .int x ∧ v = some (.int x)) ∨ (∃ x, i = .lreturn ∧ ret = some .long ∧ st = [.long x] ∧ v = some (.long x)) ∨ (∃ x, i = .freturn ∧ ret = some .float ∧ st = [.float x] ∧ v = some (.float x)) ∨ (∃ x, i = .dreturn ∧ ret = some .double ∧ st = [.double x] ∧ v = some (.double x)) ∨ (i = .return_ ∧ ret = none ∧ st = [] ∧ v = none) := by
  unfold amRetV at h
  split at h
  · split at h
    · next ty x =>
      split at h
      · next e => cases h; exact Or.inl ⟨ty, x, rfl, rfl, rfl, e, rfl⟩
      · cases h
    · cases h
  · split at h
    · next x => cases h; exact Or.inr (Or.inl ⟨x, rfl, rfl, rfl, rfl⟩)
    · cases h
  · split at h
    · next x => cases h; exact Or.inr (Or.inr (Or.inl ⟨x, rfl, rfl, rfl, rfl⟩))
    · cases h
  · split at h
    · next x => cases h; exact Or.inr (Or.inr (Or.inr (Or.inl ⟨x, rfl, rfl, rfl, rfl⟩)))
    · cases h
  · split at h
    · cases h; exact Or.inr (Or.inr (Or.inr (Or.inr ⟨rfl, rfl, rfl, rfl⟩)))
    · cases h
  · cases h
theorem am_seek_in {cs : amP} {pc : Nat} : ∀ q ∈ amSeek cs pc, q ∈ cs := fun q h => (List.dropWhile_suffix _).subset h
theorem am_next_in {M : amM} {cs : amP} {pc : Nat} (h : ∀ q ∈ cs, q ∈ M.1) : ∀ q ∈ amNext M cs pc, q ∈ M.1 := by
  intro q hq
  unfold amNext at hq
  split at hq
  · split at hq
    · exact h q hq
    · exact am_seek_in q hq
  · exact am_seek_in q hq
theorem am_args_ls (ad : Nat → Nat) : ∀ (av : List Value) (i : Nat), amLs ad (lv_args i av) = lv_args i (av.map (amV ad))
  | [], _ => rfl
  | v :: r, i => by
    show (i, amV ad v) :: amLs ad (lv_args _ r) = (i, amV ad v) :: lv_args _ (r.map (amV ad))
    rw [am_args_ls ad r, amV_cat]
section AMF
variable {l : Launch} {D : va_G} {dA : Nat → ClassId} {sA : Nat → Nat} {G : Nat → Option amM} {X : Nat → Option amN}
/-- the calls -/
theorem am_callAct {p : Program} {e : Env} {R : Room} {s : State} {m : MethodId} {args : Array Value} {below : List Frame} {meth : Method} {c : Code} {A : Nat → Prop} {Q : State → Prop} {N : amN} {M : amM} {sc : Option (List Int32)} {d mcT msT : Nat} (C : amCx p R s m args meth c A D dA sA G X N M sc (d + 1) mcT msT)
    {pc a b k : Nat} {i : Instr} (hE : amEok G X N M (pc, i, a, b)) {ls : amL} {st av rest : List Value} {hp hp1 : amH} (h : amDo G M sc i a b pc ls st hp = some (.inr (.inr (.inr (k, av, rest))))) {Mk : amM} (hGk : G k = some Mk) {x : Option Value ⊕ Nat} {mc ms kc ks : Nat} {ad : Nat → Nat} {H : Heap} {locs : List Loc} {lsA : Array Slot}
    (hM : ∀ (Nk : amN), X k = some Nk → (av.map fun v => v.category).sum ≤ Mk.2.1 → vx_Met l Nk.1 (amHd Nk Mk :: amWL) (amRm d mc ms) (amPc D dA sA ad hp av H.size) (amQ D dA ad hp.length (va_A (amW dA ad hp) H.size) x hp1) (amX D dA ad hp.length (va_A (amW dA ad hp) H.size) x hp1) mc ms (va_A (amW dA ad hp) H.size)) (hnL : Mk.2.1 ≤ 100)
    (hmay : amMay i b = false → ∃ v, x = .inl v) (hroom : kc + mc ≤ R.cells ∧ ks + ms ≤ R.slots) (hl : lv_has lsA M.2.1 (amLs ad ls)) (hP : va_P D vwCl (amW dA ad hp) H) (hD : va_D A (amW dA ad hp)) (hS : va_S A s.heap H locs)
    (kk : ∀ (v : Option Value) (ad1 : Nat → Nat) (H1 : Heap) (locs1 : List Loc), x = .inl v → amAg hp.length ad ad1 → va_P D vwCl (amW dA ad1 hp1) H1 → va_D A (amW dA ad1 hp1) → va_S A s.heap H1 locs1 → W p l e R s m args below meth c H1 locs1 (kc + mc) (ks + ms) Q (F0 m (pc + 3) lsA ((v.toList ++ rest).map (amV ad1))))
    (kx : ∀ (k : Nat) (E : String) (ce : Cell) (q9 : Addr) (ad1 : Nat → Nat) (H1 : Heap) (locs1 : List Loc), x = .inr k → amEx[k]? = some E → amAg hp.length ad ad1 → va_P D vwCl (amW dA ad1 hp1) H1 → va_D A (amW dA ad1 hp1) → va_S A s.heap H1 locs1 → H1[q9]? = some ce → ce.vm = .none → s.vm.findClass E = some ce.cls → vx_W p l e R s m args below meth c H1 locs1 (kc + mc) (ks + ms) Q (F0 m pc lsA (rest.map (amV ad))) q9) :
    amOkL hp.length ls = true ∧ W p l e R s m args below meth c H locs kc ks Q (F0 m pc lsA (st.map (amV ad))) := by
  obtain ⟨hx, hb, hml, hown, hts, hG, hZ, hA, hini, htab, hMk, hR, hsc⟩ := C
  obtain ⟨⟨n, hd, hn⟩, hlk, hlk2⟩ := hE
  dsimp only at hd hn hlk hlk2
  have S : CallFix p m c N.2.1 M.2.1 s args amWL N.1.cls := ⟨hx, hb, hml, hown, hts⟩
  have hR2 : d + 9 ≤ R.frames ∧ 128 * (d + 2) ≤ R.locals := ⟨by omega, by omega⟩
  unfold amDo at h
  split at h
  case h_1 =>
    split at h
    · obtain ⟨-, -, -, -, e1⟩ := amMake_s h; cases e1
    · split at h <;> cases h
  case h_2 => obtain ⟨_, _, _, _, -, -, -, -, h⟩ := amMakeA_s h; obtain ⟨-, -, -, -, e1⟩ := amMake_s h; cases e1
  case h_3 => obtain ⟨_, _, _, _, -, -, -, -, h⟩ := amMakeA_s h; obtain ⟨-, -, -, -, e1⟩ := amMake_s h; cases e1
  case h_4 z =>
   split at h
   · obtain ⟨_, _, _, -, -, -, e1⟩ := amLenS_s h; cases e1
   · split at h
     · obtain ⟨_, _, _, _, -, -, -, -, e1⟩ := amChrS_s h; cases e1
     · next hb7 hb8 =>
       obtain rfl : n = 3 := by rcases hn with hn | hn <;> first | exact hn | cases hn
       obtain ⟨M9, av9, rest9, g1, rfl, g2, g3, g4, g5, g6, g7, e1⟩ := amCall_s h
       cases e1
       unfold amLk2 at hlk2
       dsimp only at hlk2
       rw [if_neg hb7, if_neg hb8] at hlk2
       obtain ⟨Nk, M8, r, n8, q1, q2, q3, q4, q5, w1, w2, w3, w4, w5, q6, q7, q8⟩ := hlk2
       cases hGk.symm.trans g1
       cases q2.symm.trans g1
       have hM1 := hM Nk q1 g7
       unfold amHd at hM1
       rw [if_pos q3] at hM1
       unfold amRecv at g5
       split at g5
       · next o As =>
         rw [if_pos rfl] at g5
         split at g5
         · next cl hcl =>
           obtain ⟨t, fs⟩ := cl
           have g5 := of_decide_eq_true g5
           obtain ⟨e5, e6⟩ := g5
           dsimp only at e5
           subst e5
           refine ⟨g3, am_callV S hG hZ hA hP hD hS hM1 q4 e6 hcl q5 w1 w2 w3 w4 w5 ⟨q6.1, q6.2, q7⟩ (by rw [List.length_cons] at g2; omega) hnL hR2 hroom hl.1 g4 g6 hd kk kx⟩
         · cases g5
       · cases g5
  case h_5 z =>
    obtain rfl : n = 3 := by rcases hn with hn | hn <;> first | exact hn | cases hn
    split at h
    · obtain ⟨_, _, _, _, _, _, _, _, -, -, -, -, -, -, -, -, -, e1⟩ := amCopy_s h; cases e1
    · next hb6 =>
      obtain ⟨M9, av9, rest9, g1, rfl, g2, g3, g4, g5, g6, g7, e1⟩ := amCall_s h
      cases e1
      unfold amLk2 at hlk2
      dsimp only at hlk2
      rw [if_neg hb6] at hlk2
      obtain ⟨Nk, M8, q1, q2, q3, w1, w2, w4, q6, q7⟩ := hlk2
      cases hGk.symm.trans g1
      cases q2.symm.trans g1
      have hM1 := hM Nk q1 g7
      unfold amHd at hM1
      by_cases hb0 : b = 0
      · rw [if_pos hb0] at q3
        rw [if_pos q3.1] at hM1
        exact ⟨g3, am_callS S hG hZ hA hP hD hS hM1 w1 w2 w4 q3.2 ⟨q6.1, q6.2, q7⟩ g2 hnL hR2 hroom hl.1 g4 g6 hd kk kx⟩
      · rw [if_neg hb0] at q3
        rw [if_neg q3.1] at hM1
        obtain ⟨v, rfl⟩ := hmay (decide_eq_false hb0)
        exact ⟨g3, am_callSW S hG hZ hA hP hD hS hM1 w1 w2 w4 q3.2 ⟨q6.1, q6.2, q7⟩ g2 hnL hR2 hroom hl.1 g4 g6 hd (fun ad1 H1 locs1 => kk v ad1 H1 locs1 rfl)⟩
  case h_6 z =>
    obtain rfl : n = 3 := by rcases hn with hn | hn <;> first | exact hn | cases hn
    split at h
    · obtain ⟨_, _, -, -, e1⟩ := amObj_s h; cases e1
    · next hb5 =>
      obtain ⟨M9, av9, rest9, g1, rfl, g2, g3, g4, g5, g6, g7, e1⟩ := amCall_s h
      cases e1
      unfold amLk2 at hlk2
      dsimp only at hlk2
      rw [if_neg hb5] at hlk2
      obtain ⟨Nk, M8, n8, q1, q2, q3, q4, w1, w2, w4, w5, q5, q6, q7, q8⟩ := hlk2
      cases hGk.symm.trans g1
      cases q2.symm.trans g1
      have hM1 := hM Nk q1 g7
      unfold amHd at hM1
      rw [if_pos q3, q4] at hM1
      obtain ⟨v, rfl⟩ := hmay rfl
      unfold amRecv at g5
      split at g5
      · next o As =>
        exact ⟨g3, am_callI S hG hZ hA hP hD hS hM1 w1 w2 w4 w5 q5 ⟨q6.1, q6.2, q7⟩ (by rw [List.length_cons] at g2; omega) hnL hR2 hroom hl.1 g4 g6 hd (fun ad1 H1 locs1 => kk v ad1 H1 locs1 rfl)⟩
      · cases g5
  case h_7 => obtain ⟨v, -, e1⟩ := Option.map_eq_some_iff.mp h; cases e1
  case h_8 => obtain ⟨v, -, e1⟩ := Option.map_eq_some_iff.mp h; cases e1
  case h_9 => obtain ⟨v, -, e1⟩ := Option.map_eq_some_iff.mp h; cases e1
  case h_10 => obtain ⟨v, -, e1⟩ := Option.map_eq_some_iff.mp h; cases e1
  case h_11 => obtain ⟨v, -, e1⟩ := Option.map_eq_some_iff.mp h; cases e1
  case h_12 => obtain ⟨v, -, e1⟩ := Option.map_eq_some_iff.mp h; cases e1
end AMF
end
/-! ##### 08.frame ##### -/
section
/-! ===== whole frames: the induction ===== -/
section AMF
variable {l : Launch} {D : va_G} {dA : Nat → ClassId} {sA : Nat → Nat} {G : Nat → Option amM} {X : Nat → Option amN}
theorem amDo_ret {M : amM} {sc : Option (List Int32)} {i : Instr} {a b pc : Nat} {ls : amL} {st : List Value} {hp : amH} {v : Option Value} (h : amDo G M sc i a b pc ls st hp = some (.inr (.inl v))) : amRetV M.2.2.2.2.1 i st = some v ∧ amSz i = 1 := by
  unfold amDo at h
  split at h
  case h_1 =>
    split at h
    · obtain ⟨-, -, -, -, e1⟩ := amMake_s h; cases e1
    · split at h <;> cases h
  case h_2 => obtain ⟨_, _, _, _, -, -, -, -, h⟩ := amMakeA_s h; obtain ⟨-, -, -, -, e1⟩ := amMake_s h; cases e1
  case h_3 => obtain ⟨_, _, _, _, -, -, -, -, h⟩ := amMakeA_s h; obtain ⟨-, -, -, -, e1⟩ := amMake_s h; cases e1
  case h_4 =>
    split at h
    · obtain ⟨_, _, _, -, -, -, e1⟩ := amLenS_s h; cases e1
    · split at h
      · obtain ⟨_, _, _, _, -, -, -, -, e1⟩ := amChrS_s h; cases e1
      · obtain ⟨_, _, _, -, -, -, -, -, -, -, -, e1⟩ := amCall_s h; cases e1
  case h_5 =>
    split at h
    · obtain ⟨_, _, _, _, _, _, _, _, -, -, -, -, -, -, -, -, -, e1⟩ := amCopy_s h; cases e1
    · obtain ⟨_, _, _, -, -, -, -, -, -, -, -, e1⟩ := amCall_s h; cases e1
  case h_6 =>
    split at h
    · obtain ⟨_, _, -, -, e1⟩ := amObj_s h; cases e1
    · obtain ⟨_, _, _, -, -, -, -, -, -, -, -, e1⟩ := amCall_s h; cases e1
  case h_7 => obtain ⟨w, h1, e1⟩ := Option.map_eq_some_iff.mp h; cases e1; exact ⟨h1, rfl⟩
  case h_8 => obtain ⟨w, h1, e1⟩ := Option.map_eq_some_iff.mp h; cases e1; exact ⟨h1, rfl⟩
  case h_9 => obtain ⟨w, h1, e1⟩ := Option.map_eq_some_iff.mp h; cases e1; exact ⟨h1, rfl⟩
  case h_10 => obtain ⟨w, h1, e1⟩ := Option.map_eq_some_iff.mp h; cases e1; exact ⟨h1, rfl⟩
  case h_11 => obtain ⟨w, h1, e1⟩ := Option.map_eq_some_iff.mp h; cases e1; exact ⟨h1, rfl⟩
  case h_12 => obtain ⟨w, h1, e1⟩ := Option.map_eq_some_iff.mp h; cases e1
theorem amDo_thr {M : amM} {sc : Option (List Int32)} {i : Instr} {a b pc E : Nat} {ls : amL} {st : List Value} {hp : amH} (h : amDo G M sc i a b pc ls st hp = some (.inr (.inr (.inl E)))) : ∃ k, i = .new k ∧ ¬ b = 0 ∧ E = a ∧ (st.map fun v => v.category).sum ≤ 8 ∧ M.2.2.2.2.2.1 = [] := by
  unfold amDo at h
  split at h
  case h_1 k =>
    split at h
    · obtain ⟨-, -, -, -, e1⟩ := amMake_s h; cases e1
    · next hb =>
      split at h
      · next e2 => cases h; exact ⟨k, rfl, hb, rfl, e2.1, e2.2⟩
      · cases h
  case h_2 => obtain ⟨_, _, _, _, -, -, -, -, h⟩ := amMakeA_s h; obtain ⟨-, -, -, -, e1⟩ := amMake_s h; cases e1
  case h_3 => obtain ⟨_, _, _, _, -, -, -, -, h⟩ := amMakeA_s h; obtain ⟨-, -, -, -, e1⟩ := amMake_s h; cases e1
  case h_4 =>
    split at h
    · obtain ⟨_, _, _, -, -, -, e1⟩ := amLenS_s h; cases e1
    · split at h
      · obtain ⟨_, _, _, _, -, -, -, -, e1⟩ := amChrS_s h; cases e1
      · obtain ⟨_, _, _, -, -, -, -, -, -, -, -, e1⟩ := amCall_s h; cases e1
  case h_5 =>
    split at h
    · obtain ⟨_, _, _, _, _, _, _, _, -, -, -, -, -, -, -, -, -, e1⟩ := amCopy_s h; cases e1
    · obtain ⟨_, _, _, -, -, -, -, -, -, -, -, e1⟩ := amCall_s h; cases e1
  case h_6 =>
    split at h
    · obtain ⟨_, _, -, -, e1⟩ := amObj_s h; cases e1
    · obtain ⟨_, _, _, -, -, -, -, -, -, -, -, e1⟩ := amCall_s h; cases e1
  case h_7 => obtain ⟨w, h1, e1⟩ := Option.map_eq_some_iff.mp h; cases e1
  case h_8 => obtain ⟨w, h1, e1⟩ := Option.map_eq_some_iff.mp h; cases e1
  case h_9 => obtain ⟨w, h1, e1⟩ := Option.map_eq_some_iff.mp h; cases e1
  case h_10 => obtain ⟨w, h1, e1⟩ := Option.map_eq_some_iff.mp h; cases e1
  case h_11 => obtain ⟨w, h1, e1⟩ := Option.map_eq_some_iff.mp h; cases e1
  case h_12 => obtain ⟨w, h1, e1⟩ := Option.map_eq_some_iff.mp h; cases e1
theorem amDrop_ls {ad : Nat → Nat} {ls : amL} {i : Nat} {nL : Nat} {v : Value} {lsA : Array Slot} (h : lv_has lsA nL ((i, v) :: (amLs ad ls).filter (fun q => !(q.1 == i) && !(q.1 + 1 == i && q.2.category == 2)))) : lv_has lsA nL (amLs ad (amDrop ls i)) := by
  refine ⟨h.1, h.2.1, fun q hq => h.2.2 q (List.mem_cons_of_mem _ ?_)⟩
  have e : amLs ad (amDrop ls i) = (amLs ad ls).filter (fun q => !(q.1 == i) && !(q.1 + 1 == i && q.2.category == 2)) := by
    simp [amLs, amDrop, List.filter_map, Function.comp_def, amV_cat]
  rw [← e]
  exact hq
theorem amDo_call {M : amM} {sc : Option (List Int32)} {i : Instr} {a b pc : Nat} {ls : amL} {st : List Value} {hp : amH} {z : Nat × List Value × List Value} (ea : amDo G M sc i a b pc ls st hp = some (.inr (.inr (.inr z)))) : amOkL hp.length ls = true := by
  unfold amDo at ea
  split at ea
  case h_1 =>
    split at ea
    · obtain ⟨-, -, -, -, e1⟩ := amMake_s ea; cases e1
    · split at ea <;> cases ea
  case h_2 => obtain ⟨_, _, _, _, -, -, -, -, ea⟩ := amMakeA_s ea; obtain ⟨-, -, -, -, e1⟩ := amMake_s ea; cases e1
  case h_3 => obtain ⟨_, _, _, _, -, -, -, -, ea⟩ := amMakeA_s ea; obtain ⟨-, -, -, -, e1⟩ := amMake_s ea; cases e1
  case h_4 =>
    split at ea
    · obtain ⟨_, _, _, -, -, -, e1⟩ := amLenS_s ea; cases e1
    · split at ea
      · obtain ⟨_, _, _, _, -, -, -, -, e1⟩ := amChrS_s ea; cases e1
      · obtain ⟨_, _, _, -, -, -, o, -⟩ := amCall_s ea; exact o
  case h_5 =>
    split at ea
    · obtain ⟨_, _, _, _, _, _, _, _, -, -, -, -, -, -, -, -, -, e1⟩ := amCopy_s ea; cases e1
    · obtain ⟨_, _, _, -, -, -, o, -⟩ := amCall_s ea; exact o
  case h_6 =>
    split at ea
    · obtain ⟨_, _, -, -, e1⟩ := amObj_s ea; cases e1
    · obtain ⟨_, _, _, -, -, -, o, -⟩ := amCall_s ea; exact o
  case h_7 => obtain ⟨w, -, e1⟩ := Option.map_eq_some_iff.mp ea; cases e1
  case h_8 => obtain ⟨w, -, e1⟩ := Option.map_eq_some_iff.mp ea; cases e1
  case h_9 => obtain ⟨w, -, e1⟩ := Option.map_eq_some_iff.mp ea; cases e1
  case h_10 => obtain ⟨w, -, e1⟩ := Option.map_eq_some_iff.mp ea; cases e1
  case h_11 => obtain ⟨w, -, e1⟩ := Option.map_eq_some_iff.mp ea; cases e1
  case h_12 => obtain ⟨w, -, e1⟩ := Option.map_eq_some_iff.mp ea; cases e1
set_option maxHeartbeats 4000000 in
theorem am_FR_succ (hus : ∀ (ci : Nat) (r : vw_C), vwCl[ci]? = some r → ∀ w ∈ u_ws r.1 r.2.1 r.2.2, w ∈ amWL) (hcl : amClOk) (hGM : ∀ k M, G k = some M → M.2.1 ≤ 100) {f : Nat} (hFR : amFR l D dA sA G X f) (hCT : amCT l D dA sA G X f) : amFR l D dA sA G X (f + 1) := by
  intro p e R s m args below meth c A Q N M sc d n0 ad0 x hp1 mc ms C hs0 Er Et Ex cs pc ls st hp kc ks ad H locs lsA hcs h hag hn0 hl hP hD hS
  have hsA : ∀ j, ad (amK + j) = sA j := fun j => (hag _ (Or.inr (Nat.le_add_right _ _))).trans (hs0 j)
  obtain ⟨hx, hb, hml, hown, hts, hG, hZ, hA, hini, htab, hMk, hR, hsc⟩ := id C
  have next := hFR p e R s m args below meth c A Q N M sc d n0 ad0 x hp1 mc ms C hs0 Er Et Ex
  cases cs with
  | nil => unfold amRun at h; cases h
  | cons q cs =>
    obtain ⟨q0, i, a, b⟩ := q
    have hcs' : ∀ z ∈ cs, z ∈ M.1 := fun z hz => hcs z (List.mem_cons_of_mem _ hz)
    have hE : amEok G X N M (q0, i, a, b) := hMk.2.2.2.2 _ (hcs _ List.mem_cons_self)
    unfold amRun at h
    dsimp only at h
    split at h
    · next hq =>
      subst hq
      split at h
      · cases h
      · next r dk ds ea =>
        obtain ⟨m1, m2, m3⟩ := amRun_mono _ _ _ _ _ _ _ _ _ _ _ _ _ _ _ h
        refine am_act hx hb hml hts hown hG hZ hus hcl hini hsA hsc hA hE ⟨by omega, by omega⟩ ⟨by omega, by omega⟩ ea ⟨by omega, by omega⟩ hl hP hD hS (fun ad1 H1 locs1 lsA1 g1 g2 g3 g4 g5 => ?_)
        have hlen := amDo_len ea
        exact next _ _ _ _ _ _ _ ad1 H1 locs1 lsA1 (am_next_in hcs') h (hag.trans hn0 g1) (Nat.le_trans hn0 hlen) g5 g2 g3 g4
      · next v ea =>
        cases h
        obtain ⟨e1, e2⟩ := amDo_ret ea
        obtain ⟨⟨n, hd, hn⟩, -, -⟩ := hE
        dsimp only at hd hn
        rw [e2] at hn
        obtain rfl : n = 1 := by rcases hn with hn | hn <;> first | exact hn | cases hn
        exact Er v i _ st ad H locs lsA rfl hd e1 hag hP hD hS
      · next E ea =>
        cases h
        obtain ⟨k, rfl, hb0, rfl, hcat, hh⟩ := amDo_thr ea
        obtain ⟨⟨n, hd, hn⟩, -, hlk2⟩ := hE
        dsimp only at hd hn hlk2
        obtain rfl : n = 3 := by rcases hn with hn | hn <;> first | exact hn | cases hn
        unfold amLk2 at hlk2
        dsimp only at hlk2
        rw [if_neg hb0] at hlk2
        exact Et _ b k kc ks _ st ad H locs lsA rfl hd hlk2 hh hcat hl.1 rfl rfl hag hP hD hS
      · next k av rest ea =>
        split at h
        · next d' Nk eG =>
          split at h
          · next v hp2 mc2 ms2 er =>
            obtain ⟨m1, m2, m3⟩ := amRun_mono _ _ _ _ _ _ _ _ _ _ _ _ _ _ _ h
            obtain ⟨-, -, m4⟩ := amRun_mono _ _ _ _ _ _ _ _ _ _ _ _ _ _ _ er
            have key := am_callAct (e := e) (below := below) (Q := Q) C hE ea eG (x := .inl v) (mc := mc2) (ms := ms2) (kc := kc) (ks := ks) (fun Nk2 hX hav => hCT k Nk2 Nk d' av hp hp2 (.inl v) mc2 ms2 ad H.size hX eG hsA hav er) (hGM _ _ eG) (fun _ => ⟨v, rfl⟩) ⟨by omega, by omega⟩ hl hP hD hS
            have hok : amOkL hp.length ls = true := amDo_call ea
            exact (key (fun w ad1 H1 locs1 ew g1 g2 g3 g4 => by
              cases ew
              exact next _ _ _ _ _ _ _ ad1 H1 locs1 lsA (am_next_in hcs') h (hag.trans hn0 g1) (Nat.le_trans hn0 m4) (by rw [amLs_ag hok g1]; exact hl) g2 g3 g4) (fun k9 E ce q9 ad1 H1 locs1 ew => by cases ew)).2
          · next E hp2 mc2 ms2 er =>
            split at h
            · cases h
            · next hmay =>
              obtain ⟨-, -, m4⟩ := amRun_mono _ _ _ _ _ _ _ _ _ _ _ _ _ _ _ er
              split at h
              · next hh =>
                cases h
                exact (am_callAct (Q := Q) C hE ea eG (x := .inr E) (mc := mc2) (ms := ms2) (kc := kc) (ks := ks) (fun Nk2 hX hav => hCT k Nk2 Nk d' av hp hp1 (.inr E) mc2 ms2 ad H.size hX eG hsA hav er) (hGM _ _ eG) (fun z => absurd z hmay) ⟨by omega, by omega⟩ hl hP hD hS
                  (fun w ad1 H1 locs1 ew => by cases ew)
                  (fun k9 En ce q9 ad1 H1 locs1 ew hEn g1 g2 g3 g4 g5 g6 g7 => by
                    cases ew
                    exact Ex E En ce q9 _ _ ad1 H1 locs1 lsA rfl hEn hh (hag.trans hn0 g1) g2 g3 g4 g5 g6 g7)).2
              · next hh =>
                split at h
                · next hq x9 to eh =>
                  obtain ⟨m1, m2, m3⟩ := amRun_mono _ _ _ _ _ _ _ _ _ _ _ _ _ _ _ h
                  have key := am_callAct (e := e) (below := below) (Q := Q) C hE ea eG (x := .inr E) (mc := mc2) (ms := ms2) (kc := kc) (ks := ks) (fun Nk2 hX hav => hCT k Nk2 Nk d' av hp hp2 (.inr E) mc2 ms2 ad H.size hX eG hsA hav er) (hGM _ _ eG) (fun z => absurd z hmay) ⟨by omega, by omega⟩ hl hP hD hS (fun w ad1 H1 locs1 ew => by cases ew)
                  have hok : amOkL hp.length ls = true := amDo_call ea
                  refine (key (fun k9 En ce q9 ad1 H1 locs1 ew hEn g1 g2 g3 g4 g5 g6 g7 => ?_)).2
                  cases ew
                  obtain ⟨pre, z, suf, t1, t2, t3, t4, t5, t6, t7, t8, t9⟩ := hMk.2.2.2.1.2 _ _ _ _ _ En eh hEn
                  refine vx_catch (name := En) hown pre z suf (htab.trans t1) (fun y hy => (t2 y hy).imp id (fun ⟨w1, nm, w2, w3⟩ => ⟨w1, nm, hts _ w2, hG.2.2.2.1 _ w3⟩)) t3 t4 (hts _ t6) (va_Nw.use rfl (hG.2.2.1 _ t7 rfl)) g5 g6 g7 ?_
                  rw [t5]
                  have fin : ∀ lsB : Array Slot, lv_has lsB M.2.1 ((x9, Value.ref q9) :: (amLs ad1 ls).filter (fun q => !(q.1 == x9) && !(q.1 + 1 == x9 && q.2.category == 2))) → W p l e R s m args below meth c H1 locs1 (kc + mc2) (ks + ms2) Q (F0 m to lsB []) := fun lsB hB =>
                    next _ _ _ _ _ _ _ ad1 H1 locs1 lsB (am_seek_in) h (hag.trans hn0 g1) (Nat.le_trans hn0 m4) (amDrop_ls hB) g2 g3 g4
                  have hl1 : lv_has lsA M.2.1 (amLs ad1 ls) := by rw [amLs_ag hok g1]; exact hl
                  rcases t9 with ⟨j, hj, hdj, rfl⟩ | ⟨hdj, rfl⟩
                  · exact lv_astore_n hx hb hdj hj hl1 t8 rfl fin
                  · exact lv_astore hx hb hdj hl1 t8 rfl fin
                · cases h
          · cases h
        · cases h
    · cases h
set_option maxHeartbeats 8000000 in
theorem am_con (hlt : l.stackTraces = false) (hT : ∀ k N M, X k = some N → G k = some M → amMk G X N M) {f : Nat} (hFR : amFR l D dA sA G X f) : amCT l D dA sA G X f := by
  intro k N M d av hp hp1 x mc ms ad sz hX hG' hsA hcat h
  have hMk := hT k N M hX hG'
  refine am_ofW (cc := N.2.1) (maxL := M.2.1) (ret := M.2.2.2.2.1) (hh := N.2.2) hMk.1 rfl ?_
  intro p e s m args below meth c s₁ B hml htab hv
  obtain ⟨rfl, rfl, hG, hP, hD, hZ⟩ := hv
  have hpre := atoms_spec (ws := amHd N M :: amWL) B.pre
  have hlocks := B.notSynchronized
  have hx := B.exec
  have hb := B.bytes
  have hown : s.vm.findClass N.1.cls = some m.cls := findClass_of_methodNamed B.named
  have C : amCx p (headSpec (amHd N M :: amWL) (amRm d mc ms)).room s m (av.map (amV ad)).toArray meth c (va_A (amW dA ad hp) s.heap.size) D dA sA G X N M none d mc ms :=
    ⟨hx, hb, hml, hown, fun w hw => hpre w (List.mem_cons_of_mem _ hw), hG, hZ, fun q h => Or.inr h, fun hi => (name_of_methodNamed B.named B.method).1.trans (hMk.2.2.1 hi), htab, hMk, ⟨Nat.le_refl _, Nat.le_refl _, Nat.le_refl _, Nat.le_refl _⟩, fun l z => by cases z⟩
  rw [lg_entry_eq]
  have hlen : (lg_sl (av.map (amV ad))).length ≤ M.2.1 := by
    rw [am_sl_len, List.map_map]
    simpa [Function.comp_def, amV_cat] using hcat
  have hl := lv_entry (av.map (amV ad)) hlen
  rw [← am_args_ls] at hl
  refine hFR p e _ s m _ below meth c _ (vx_MQ below (amQ D dA ad hp.length (va_A (amW dA ad hp) s.heap.size) x hp1) (amX D dA ad hp.length (va_A (amW dA ad hp) s.heap.size) x hp1) (av.map (amV ad)).toArray s mc ms (va_A (amW dA ad hp) s.heap.size)) N M none d hp.length ad x hp1 mc ms C hsA ?_ ?_ ?_ M.1 0 (lv_args 0 av) [] hp 0 0 ad s.heap [] _ (fun q h => h) h (amAg.refl _ _) (Nat.le_refl _) hl hP hD.self va_S.rf
  · intro v i pc st ad1 H locs lsA hxv hd hret hag hP1 hD1 hS1
    refine vx_ret ?_
    have post : ∀ t : State, t.heap = H → amQ D dA ad hp.length (va_A (amW dA ad hp) s.heap.size) x hp1 (av.map (amV ad)).toArray s (.returned (v.map (amV ad1))) t := fun t ht => ⟨v, ad1, hxv, rfl, hag, by rw [ht]; exact hP1, hD1, hS1.F ht⟩
    rcases amRetV_s hret with ⟨ty, z, rfl, e1, rfl, e2, rfl⟩ | ⟨z, rfl, e1, rfl, rfl⟩ | ⟨z, rfl, e1, rfl, rfl⟩ | ⟨z, rfl, e1, rfl, rfl⟩ | ⟨rfl, e1, rfl, rfl⟩
    · exact W.zret hx hb (B.returns.trans e1) e2 (fun t ht _ => post t ht) hS1.2.2 hd
    · exact W.lret hx hb (B.returns.trans e1) (fun t ht _ => post t ht) hS1.2.2 hd
    · exact W.fret hx hb (B.returns.trans e1) (fun t ht _ => post t ht) hS1.2.2 hd
    · exact W.dret hx hb (B.returns.trans e1) (fun t ht _ => post t ht) hS1.2.2 hd
    · exact W.vret hx hb (B.returns.trans e1) (fun t ht _ => post t ht) hS1.2.2 hd
  · intro a b kk kc ks pc st ad1 H locs lsA hxv hd hthr hh hcat1 hsz hkc hks hag hP1 hD1 hS1
    obtain ⟨cls, is, text, ic, t1, t2, t3, t4, t5, t6, t7, t8⟩ := hthr
    have hts := fun w hw => hpre w (List.mem_cons_of_mem _ hw)
    have hempty : c.exceptionTable.toList = [] := by
      rw [htab]
      rw [hMk.2.2.2.1.1 hh]
      rfl
    have hcat2 : ((st.map (amV ad1)).map fun v => v.category).sum ≤ 8 := by
      rw [List.map_map]
      simpa [Function.comp_def, amV_cat] using hcat1
    have hfr : amXn.length + 3 < (headSpec (amHd N M :: amWL) (amRm d mc ms)).room.frames := by show 2 + 3 < d + 8; omega
    have hlo : ((st.map (amV ad1)).map fun v => v.category).sum + (13 * (amXn.length + 1) + 43) ≤ (headSpec (amHd N M :: amWL) (amRm d mc ms)).room.locals := by show _ + (13 * (2 + 1) + 43) ≤ 128 * (d + 1); omega
    have hxx : ∀ t : State, s.vm.Alike t.vm → H.size ≤ t.heap.size → (∀ q : Nat, q < H.size → t.heap[q]? = H[q]?) → amX D dA ad hp.length (va_A (amW dA ad hp) s.heap.size) x hp1 cls s t := fun t _ u1 u2 =>
      ⟨a, ad1, hxv, t1, hag, hP1.kept (fun k q hk => u2 q.1 ((hP1 k q hk).lt)), hD1, Nat.le_trans hS1.1 u1, fun q v1 v2 => (u2 q (Nat.lt_of_lt_of_le v1 hS1.1)).trans (hS1.2.1 q v1 v2)⟩
    rcases t6 with ⟨rfl, hown9, rfl⟩ | t6
    · have hcls : cls = amNS := (Option.some.inj t1).symm
      subst hcls
      have hat : ∀ w ∈ am_nw.filter vx_no, w.before (av.map (amV ad)).toArray s = true := fun w hw => by
        obtain ⟨u1, u2, u3⟩ := am_nOk w hw
        rcases u3 with u3 | ⟨u3, u4⟩
        · exact hts w (amWL_in u2 u3)
        · exact va_Nw.use u4 (hG.2.2.1 w u2 u3)
      rw [hown9] at t4
      have hown1 : s.vm.findClass "TripleTrains" = some m.cls := hown9 ▸ hown
      have hstr1 := hG.2.1 _ _ t2
      dsimp only at hstr1
      rw [hown9] at hstr1
      split at t8
      · exact am_throwN (k := 6) (sa := sA ((b - 1) / 2)) hx hb hlt hown1 (hts _ t4) (hts _ t5) hstr1 hat (fun w hw => (am_nOk w hw).1) hZ.1 hZ.2.1 hS1 (hsz.trans hml.symm) hd t7 (Or.inl ⟨t8.1, rfl⟩) t8.2.1 t8.2.2 (by rw [hempty]; intro z hz; cases hz) (by show 5 < d + 8; omega) (by show _ + 82 ≤ 128 * (d + 1); omega) (by show kc + 1 ≤ mc; omega) (by show ks + 6 ≤ ms; omega) hlocks hxx hS1.2.2 (by omega) (by omega)
      · exact am_throwN (k := 7) (sa := sA ((b - 1) / 2)) hx hb hlt hown1 (hts _ t4) (hts _ t5) hstr1 hat (fun w hw => (am_nOk w hw).1) hZ.1 hZ.2.1 hS1 (hsz.trans hml.symm) hd t7 (Or.inr ⟨t8.1, rfl⟩) t8.2.1 t8.2.2 (by rw [hempty]; intro z hz; cases hz) (by show 5 < d + 8; omega) (by show _ + 82 ≤ 128 * (d + 1); omega) (by show kc + 1 ≤ mc; omega) (by show ks + 6 ≤ ms; omega) hlocks hxx hS1.2.2 (by omega) (by omega)
    · have hat : ∀ w ∈ vx_atS N.1.cls ic cls amXn, w.before (av.map (amV ad)).toArray s = true := fun w hw => by
        obtain ⟨u1, u2, u3⟩ := t6 w hw
        rcases u3 with u3 | ⟨u3, u4⟩
        · exact hts w (amWL_in u2 u3)
        · exact va_Nw.use u4 (hG.2.2.1 w u2 u3)
      have hgood : ∀ w ∈ Jvm.Cond.classLink N.1.cls kk cls :: Jvm.Cond.initialized cls :: vx_atS N.1.cls ic cls amXn, vx_ot w = true := fun w hw => by
        rcases List.mem_cons.mp hw with rfl | hw
        · rfl
        · rcases List.mem_cons.mp hw with rfl | hw
          · rfl
          · exact (t6 w hw).1
      have hfit : ∀ n ∈ amXn, Bundle.fit n = true := by decide +kernel
      have hstr2 := hG.2.1 _ _ t2
      dsimp only at hstr2
      split at t8
      · exact vx_throwS (sa := sA ((b - 1) / 2)) hx hb hlt hown t3 hfit (hts _ t4) (hts _ t5) hstr2 hat hgood hZ.1 hZ.2.1 hS1 (hsz.trans hml.symm) hd t7 t8.1 t8.2.1 t8.2.2 (by rw [hempty]; intro z hz; cases hz) hfr hlo (by show kc + 1 ≤ mc; omega) (by show ks + 6 ≤ ms; omega) hlocks hxx hS1.2.2 (by omega) (by omega)
      · exact vx_throwSW (sa := sA ((b - 1) / 2)) hx hb hlt hown t3 hfit (hts _ t4) (hts _ t5) hstr2 hat hgood hZ.1 hZ.2.1 hS1 (hsz.trans hml.symm) hd t7 t8.1 t8.2.1 t8.2.2 (by rw [hempty]; intro z hz; cases hz) hfr hlo (by show kc + 1 ≤ mc; omega) (by show ks + 6 ≤ ms; omega) hlocks hxx hS1.2.2 (by omega) (by omega)
  · intro E En ce q9 pc st ad1 H locs lsA hxv hEn hh hag hP1 hD1 hS1 g1 g2 g3
    have hempty : c.exceptionTable.toList = [] := by
      rw [htab, hMk.2.2.2.1.1 hh]
      rfl
    exact vx_out (by rw [hempty]; intro z hz; cases hz) hlocks g1 g2 g3 (fun t ht _ => ⟨E, ad1, hxv, hEn, hag, by rw [ht]; exact hP1, hD1, hS1.F ht⟩) hS1.2.2 (Nat.le_refl _) (Nat.le_refl _)
theorem am_all (hlt : l.stackTraces = false) (hus : ∀ (ci : Nat) (r : vw_C), vwCl[ci]? = some r → ∀ w ∈ u_ws r.1 r.2.1 r.2.2, w ∈ amWL) (hcl : amClOk) (hGM : ∀ k M, G k = some M → M.2.1 ≤ 100) (hT : ∀ k N M, X k = some N → G k = some M → amMk G X N M) : ∀ f, amFR l D dA sA G X f := by
  intro f
  induction f with
  | zero =>
    intro p e R s m args below meth c A Q N M sc d n0 ad0 x hp1 mc ms C hs0 Er Et Ex cs pc ls st hp kc ks ad H locs lsA hcs h
    unfold amRun at h
    cases h
  | succ f ih => exact am_FR_succ hus hcl hGM ih (am_con hlt hT ih)
end AMF
end
