/-! ===== making cells; ends ===== -/
def amThr (own : String) (cc : ByteArray) (pc k a b : Nat) : Prop :=
  ∃ (cls : String) (is : Nat) (text : String) (ic : Nat), amEx[a]? = some cls ∧ amStr[(b - 1) / 2]? = some (own, is, text) ∧ Bundle.fit cls = true ∧ Jvm.Cond.classLink own k cls ∈ amWL ∧ Jvm.Cond.initialized cls ∈ amWL ∧
    ((a = 3 ∧ own = "TripleTrains" ∧ ic = 283) ∨ ∀ w ∈ vx_atS own ic cls amXn, vx_ot w = true ∧ w ∈ lw_tbl ∧ (goodWord w = true ∨ (amNk w = true ∧ w.onTables = true))) ∧ decode cc (pc + 3) = .ok (.dup, 1) ∧
    (if (b - 1) % 2 = 0 then decode cc (pc + 4) = .ok (.ldc is, 2) ∧ decode cc (pc + 6) = .ok (.invokespecial ic, 3) ∧ decode cc (pc + 9) = .ok (.athrow, 1)
     else decode cc (pc + 4) = .ok (.ldc_w is, 3) ∧ decode cc (pc + 7) = .ok (.invokespecial ic, 3) ∧ decode cc (pc + 10) = .ok (.athrow, 1))
def am_gc : MethodName := ⟨"java/lang/Object", "getClass", "()Ljava/lang/Class;"⟩
def am_cn : MethodName := ⟨"java/lang/Object", "clone", "()Ljava/lang/Object;"⟩
def amNotMH (y : MethodName) : Prop := y.cls ≠ "java/lang/invoke/MethodHandle" ∧ y.cls ≠ "java/lang/invoke/VarHandle"
/-- what a making or calling instruction is linked to -/
def amLk2 (G : Nat → Option amM) (X : Nat → Option amN) (own : String) (cc : ByteArray) (pc : Nat) (i : Instr) (a b : Nat) : Prop :=
  match i with
  | .new k => if b = 0 then (∃ r, vwCl[a]? = some r ∧ Jvm.Cond.classLink own k r.1 ∈ amWL ∧ Jvm.Cond.instantiable r.1 r.2.2 ∈ amWL ∧ Jvm.Cond.initialized r.1 ∈ amWL) else amThr own cc pc k a b
  | .newarray t => ∀ q, amKind t = some q → Jvm.Cond.arrayClass (newarray.typeOf t) ∈ amWL
  | .anewarray k => if a = 1 then Jvm.Cond.classLink own k "java/lang/Object" ∈ amWL else Jvm.Cond.classLink own k "TripleTrains$Snapshot" ∈ amWL
  | .invokevirtual k => if b = 7 then Jvm.Cond.methodLink own k yJ0_length_8abf5 ∈ amWL else if b = 8 then (if a = 1 then Jvm.Cond.methodLink own k am_gc ∈ amWL ∧ Jvm.Cond.declares am_gc ∈ lw_tbl ∧ Jvm.Cond.selects "[Ljava/lang/Object;" am_gc am_gc ∈ amWL ∧ Jvm.Cond.instanceMethod am_gc ∈ amWL ∧ Jvm.Cond.native am_gc ∈ amWL else if a = 2 then Jvm.Cond.methodLink own k ⟨"[B", "clone", "()Ljava/lang/Object;"⟩ ∈ amWL ∧ Jvm.Cond.sameMethod "[B" "java/lang/Object" "clone" "()Ljava/lang/Object;" ∈ amWL ∧ Jvm.Cond.native am_cn ∈ amWL ∧ Jvm.Cond.instanceMethod am_cn ∈ amWL ∧ Jvm.Cond.selects "[B" ⟨"[B", "clone", "()Ljava/lang/Object;"⟩ am_cn ∈ amWL ∧ Jvm.Cond.castable "[B" "java/lang/Cloneable" ∈ lw_tbl else Jvm.Cond.methodLink own k yJ0_charAt_5068e ∈ amWL) else if b = 0 then ∃ N M r n, X a = some N ∧ G a = some M ∧ N.2.2 = [] ∧ vwCl[M.2.2.2.2.2.2]? = some r ∧ N.1.cls = r.1 ∧ Jvm.Cond.methodLink own k N.1 ∈ amWL ∧ Jvm.Cond.instanceMethod N.1 ∈ amWL ∧ Jvm.Cond.selects r.1 N.1 N.1 ∈ amWL ∧ Jvm.Cond.initialized r.1 ∈ amWL ∧ Jvm.Cond.code N.1 N.2.1 M.2.1 M.2.2.2.2.1 ∈ amWL ∧ amNotMH N.1 ∧ (parseMethodDescriptor N.1.desc).map (fun d => d.parameters.length) = some n ∧ M.2.2.1 = n + 1
      else ∃ N M r n x0 owner b0 m0 r0, X a = some N ∧ G a = some M ∧ N.2.2 = [] ∧ vwCl[M.2.2.2.2.2.2]? = some r ∧ Jvm.Cond.methodLink own k x0 ∈ amWL ∧ Jvm.Cond.sameMethod x0.cls owner x0.name x0.desc ∈ amWL ∧ Jvm.Cond.instanceMethod ⟨owner, x0.name, x0.desc⟩ ∈ amWL ∧ (Jvm.Cond.selects r.1 x0 N.1 ∈ amWL ∨ ∃ n9, Jvm.Cond.instantiable r.1 n9 ∈ amWL ∧ x0.cls = owner ∧ Jvm.Cond.privateMethod ⟨owner, x0.name, x0.desc⟩ ∈ amWL ∧ N.1 = ⟨owner, x0.name, x0.desc⟩) ∧ Jvm.Cond.instanceMethod N.1 ∈ amWL ∧ Jvm.Cond.initialized N.1.cls ∈ amWL ∧ Jvm.Cond.code N.1 N.2.1 M.2.1 M.2.2.2.2.1 ∈ amWL ∧ Jvm.Cond.code ⟨owner, x0.name, x0.desc⟩ b0 m0 r0 ∈ amWL ∧ (owner ≠ "java/lang/invoke/MethodHandle" ∧ owner ≠ "java/lang/invoke/VarHandle" ∧ (parseMethodDescriptor x0.desc).map (fun d => d.parameters.length) = some n) ∧ M.2.2.1 = n + 1
  | .invokestatic k => if b = 6 then Jvm.Cond.methodLink own k arraycopyName ∈ amWL ∧ Jvm.Cond.native arraycopyName ∈ amWL ∧ Jvm.Cond.static arraycopyName ∈ amWL ∧ Jvm.Cond.initialized "java/lang/System" ∈ amWL
      else ∃ N M, X a = some N ∧ G a = some M ∧ (if b = 0 then N.2.2 = [] ∧ Jvm.Cond.code N.1 N.2.1 M.2.1 M.2.2.2.2.1 ∈ amWL else N.2.2 ≠ [] ∧ Jvm.Cond.codeWith N.1 N.2.1 M.2.1 M.2.2.2.2.1 N.2.2 ∈ amWL) ∧ Jvm.Cond.methodLink own k N.1 ∈ amWL ∧ Jvm.Cond.static N.1 ∈ amWL ∧ Jvm.Cond.initialized N.1.cls ∈ amWL ∧ amNotMH N.1 ∧ (parseMethodDescriptor N.1.desc).map (fun d => d.parameters.length) = some M.2.2.1
  | .invokespecial k => if b = 5 then Jvm.Cond.methodLink own k Lib.objectInit ∈ amWL ∧ Jvm.Cond.instanceMethod Lib.objectInit ∈ amWL ∧ Jvm.Cond.code Lib.objectInit ⟨#[0xb1]⟩ 1 none ∈ amWL
      else if b = 12 then ∃ N M r n, X a = some N ∧ G a = some M ∧ N.2.2 = [] ∧ vwCl[M.2.2.2.2.2.2]? = some r ∧ Jvm.Cond.methodLink own k N.1 ∈ amWL ∧ Jvm.Cond.sameMethod N.1.cls N.1.cls N.1.name N.1.desc ∈ amWL ∧ Jvm.Cond.superclass own N.1.cls ∈ amWL ∧ Jvm.Cond.instanceMethod N.1 ∈ amWL ∧ Jvm.Cond.initialized N.1.cls ∈ amWL ∧ Jvm.Cond.code N.1 N.2.1 M.2.1 M.2.2.2.2.1 ∈ amWL ∧ N.1.name ≠ "<init>" ∧ (parseMethodDescriptor N.1.desc).map (fun d => d.parameters.length) = some n ∧ M.2.2.1 = n + 1
      else ∃ N M n, X a = some N ∧ G a = some M ∧ N.2.2 = [] ∧ M.2.2.2.2.1 = none ∧ (Jvm.Cond.methodLink own k N.1 ∈ amWL ∨ ∃ host, Jvm.Cond.methodLinkNest own k N.1 host ∈ lw_tbl) ∧ Jvm.Cond.instanceMethod N.1 ∈ amWL ∧ Jvm.Cond.initialized N.1.cls ∈ amWL ∧ Jvm.Cond.code N.1 N.2.1 M.2.1 none ∈ amWL ∧ N.1.name = "<init>" ∧ amNotMH N.1 ∧ (parseMethodDescriptor N.1.desc).map (fun d => d.parameters.length) = some n ∧ M.2.2.1 = n + 1
  | .invokeinterface k _ => ∃ N M r n x0, X a = some N ∧ G a = some M ∧ N.2.2 = [] ∧ vwCl[M.2.2.2.2.2.2]? = some r ∧ Jvm.Cond.methodLink own k x0 ∈ amWL ∧ Jvm.Cond.instanceMethod N.1 ∈ amWL ∧ Jvm.Cond.selects r.1 x0 N.1 ∈ amWL ∧ Jvm.Cond.initialized N.1.cls ∈ amWL ∧ Jvm.Cond.code N.1 N.2.1 M.2.1 M.2.2.2.2.1 ∈ amWL ∧ (r.1, x0, N.1) ∈ amFw ∧ (parseMethodDescriptor x0.desc).map (fun d => d.parameters.length) = some n ∧ M.2.2.1 = n + 1
  | _ => True
/-- an entry of a method's code -/
def amEok (G : Nat → Option amM) (X : Nat → Option amN) (N : amN) (M : amM) (q : Nat × amIn1) : Prop :=
  (∃ n, decode N.2.1 q.1 = .ok (q.2.1, n) ∧ (amSz q.2.1 = 0 ∨ n = amSz q.2.1)) ∧ amLk amWL N.1.cls M.2.2.2.1 q.1 q.2.1 q.2.2.1 q.2.2.2 ∧ amLk2 G X N.1.cls N.2.1 q.1 q.2.1 q.2.2.1 q.2.2.2
theorem am_up_ag {hp : amH} {ad : Nat → Nat} {q : Nat} (h : hp.length < amK) : amAg hp.length ad (va_up ad hp.length q) := by
  intro i hi
  unfold va_up
  rw [if_neg]
  rcases hi with hi | hi <;> omega
theorem am_rep_i {n : Nat} : (fun j => amInt ((List.replicate n (.int 0)).getD j .null)) = fun _ => (0 : Int32) := by
  funext j
  by_cases h : j < n
  · simp [List.getElem?_replicate, h, amInt]
  · simp [List.getElem?_replicate, h, amInt]
theorem am_rep_l {n : Nat} : (fun j => amLong ((List.replicate n (.long 0)).getD j .null)) = fun _ => (0 : Int64) := by
  funext j
  by_cases h : j < n
  · simp [List.getElem?_replicate, h, amLong]
  · simp [List.getElem?_replicate, h, amLong]
theorem am_rep_q {ad : Nat → Nat} {n : Nat} : (fun j => amRef ad ((List.replicate n .null).getD j .null)) = fun _ => (none : Option Nat) := by
  funext j
  by_cases h : j < n
  · simp [List.getElem?_replicate, h, amRef]
  · simp [List.getElem?_replicate, h, amRef]
theorem amDef_len {ci : Nat} {r : vw_C} (h : vwCl[ci]? = some r) : (amDef ci).length = r.2.2 := by simp [amDef, h]
theorem amDef_at {ci : Nat} {r : vw_C} (h : vwCl[ci]? = some r) {j : Nat} (hj : j < r.2.2) : defaultValue (amFty ci j) = vp_V (amDef ci) j := by
  simp [vp_V, amDef, h, hj]
theorem am_default (ad : Nat → Nat) (ty : FieldType) : amV ad (defaultValue ty) = defaultValue ty := by cases ty <;> rfl
theorem amDef_map (ad : Nat → Nat) (ci : Nat) : (amDef ci).map (amV ad) = amDef ci := by
  unfold amDef
  split
  · rw [List.map_map]
    exact List.map_congr_left fun k _ => am_default ad _
  · rfl
theorem am_lt32 {a : Nat} {r : vw_C} (h : vwCl[a]? = some r) : a < 32 := by
  have h1 := (List.getElem?_eq_some_iff.mp h).1
  have h2 : vwCl.length = 17 := rfl
  omega
theorem am_cpy {c0 c1 : List Value} {sp dp n : Nat} (h0 : sp + n ≤ c0.length) (h1 : dp + n ≤ c1.length) : (fun j => amInt ((c1.take dp ++ ((c0.drop sp).take n ++ c1.drop (dp + n))).getD j .null)) = va_cpy (fun j => amInt (c0.getD j .null)) (fun j => amInt (c1.getD j .null)) sp dp n := by
  funext j
  unfold va_cpy
  dsimp only
  by_cases h2 : dp ≤ j ∧ j < dp + n
  · rw [if_pos h2]
    congr 1
    rw [List.getD_eq_getElem?_getD, List.getD_eq_getElem?_getD, List.getElem?_append_right (by simp; omega), List.getElem?_append_left (by simp; omega)]
    simp only [List.length_take]
    rw [List.getElem?_take, if_pos (by omega), List.getElem?_drop]
    congr 2
    omega
  · rw [if_neg h2]
    congr 1
    rw [List.getD_eq_getElem?_getD, List.getD_eq_getElem?_getD]
    by_cases h3 : j < dp
    · rw [List.getElem?_append_left (by simp; omega), List.getElem?_take, if_pos h3]
    · rw [List.getElem?_append_right (by simp; omega), List.getElem?_append_right (by simp; omega), List.getElem?_drop]
      congr 2
      simp only [List.length_take, List.length_drop]
      omega
theorem am_cpy_len {c0 c1 : List Value} {sp dp n : Nat} (h0 : sp + n ≤ c0.length) (h1 : dp + n ≤ c1.length) : (c1.take dp ++ ((c0.drop sp).take n ++ c1.drop (dp + n))).length = c1.length := by
  simp
  omega
theorem am_cpyq {ad : Nat → Nat} {c0 c1 : List Value} {sp dp n : Nat} (h0 : sp + n ≤ c0.length) (h1 : dp + n ≤ c1.length) : (fun j => amRef ad ((c1.take dp ++ ((c0.drop sp).take n ++ c1.drop (dp + n))).getD j .null)) = va_cpy (fun j => amRef ad (c0.getD j .null)) (fun j => amRef ad (c1.getD j .null)) sp dp n := by
  funext j
  unfold va_cpy
  dsimp only
  by_cases h2 : dp ≤ j ∧ j < dp + n
  · rw [if_pos h2]
    congr 1
    rw [List.getD_eq_getElem?_getD, List.getD_eq_getElem?_getD, List.getElem?_append_right (by simp; omega), List.getElem?_append_left (by simp; omega)]
    simp only [List.length_take]
    rw [List.getElem?_take, if_pos (by omega), List.getElem?_drop]
    congr 2
    omega
  · rw [if_neg h2]
    congr 1
    rw [List.getD_eq_getElem?_getD, List.getD_eq_getElem?_getD]
    by_cases h3 : j < dp
    · rw [List.getElem?_append_left (by simp; omega), List.getElem?_take, if_pos h3]
    · rw [List.getElem?_append_right (by simp; omega), List.getElem?_append_right (by simp; omega), List.getElem?_drop]
      congr 2
      simp only [List.length_take, List.length_drop]
      omega
/-- an element of what is copied -/
theorem am_cpy_el {c : List Value} {f : Value → Bool} {sp n i : Nat} (h : ((c.drop sp).take n).all f = true) (h0 : sp + n ≤ c.length) (hi : i < n) : f (c.getD (sp + i) .null) = true := by
  refine List.all_eq_true.mp h _ ?_
  refine List.mem_of_getElem? (i := i) ?_
  rw [List.getElem?_take, if_pos hi, List.getElem?_drop, List.getD_eq_getElem?_getD, List.getElem?_eq_getElem (by omega)]
  rfl
theorem am_isB {v : Value} (h : amIsB v = true) : fits .byte (.int (amInt v)) = true := by
  cases v <;> first | exact h | cases h
theorem am_cloneF {cA : ClassId} {c : List Value} (h : c.all amIsB = true) : ∀ (i : Nat) (v : Value), (vp_cell cA (c.length, .inl (fun j => amInt (c.getD j .null)))).slots[i]? = some v → fits .byte v = true := by
  intro i v hv
  have hi : i < c.length := by
    rcases Nat.lt_or_ge i c.length with z | z
    · exact z
    · have := (Array.getElem?_eq_some_iff.mp hv).1
      have e : (vp_cell cA (c.length, .inl (fun j => amInt (c.getD j .null)))).slots.size = c.length := arrV_size _ _ _
      omega
  have e : (vp_cell cA (c.length, .inl (fun j => amInt (c.getD j .null)))).slots[i]? = some (.int (amInt (c.getD i .null))) := arrV_read _ _ hi
  rw [e] at hv
  cases hv
  have hm : c.getD i .null ∈ c := by
    rw [List.getD_eq_getElem?_getD, List.getElem?_eq_getElem hi]
    exact List.getElem_mem hi
  exact am_isB (List.all_eq_true.mp h _ hm)
theorem am_cy0 : Jvm.Cond.castable "java/util/ArrayList" "java/util/List" ∈ lw_tbl := by decide +kernel
theorem am_cy1 : Jvm.Cond.castable "java/lang/Integer" "java/lang/Object" ∈ lw_tbl := by decide +kernel
theorem am_cy2 : Jvm.Cond.castable "java/util/ArrayList" "java/lang/Object" ∈ lw_tbl := by decide +kernel
theorem am_cy3 : Jvm.Cond.castable "[I" "java/lang/Object" ∈ lw_tbl := by decide +kernel
theorem am_CY {D : va_G} {dA : Nat → ClassId} {sA : Nat → Nat} {s : State} (hG : amG D dA sA s) : amCY s := ⟨hG.2.2.1 _ am_cy0 rfl, hG.2.2.1 _ am_cy1 rfl, hG.2.2.1 _ am_cy2 rfl, hG.2.2.1 _ am_cy3 rfl⟩
section AMD
variable {p : Program} {l : Launch} {e : Env} {R : Room} {s : State} {m : MethodId} {args : Array Value} {below : List Frame} {meth : Method} {c : Code} {H : Heap} {locs : List Loc} {cells slots : Nat} {Q : State → Prop}
variable {D : va_G} {dA : Nat → ClassId} {A : Nat → Prop} {sA : Nat → Nat}
theorem am_new {dA : Nat → ClassId} {ad : Nat → Nat} {hp : amH} {q : Nat} {t : Nat} {vs : List Value} {E : va_E} (hH : amOkH hp.length hp = true) (hk : hp.length < amK) (hE : amE dA (va_up ad hp.length q) (t, vs) = E) : amW dA ad hp ++ [(q, E)] = amW dA (va_up ad hp.length q) (hp ++ [(t, vs)]) := by
  rw [amW_push, amW_ag hH (am_up_ag hk), hE]
  simp [va_up]
theorem am_newst {ad : Nat → Nat} {hp : amH} {q : Nat} {r : List Value} (hr : amOkS hp.length r = true) (hk : hp.length < amK) : (Value.ref hp.length :: r).map (amV (va_up ad hp.length q)) = .ref q :: r.map (amV ad) := by
  rw [List.map_cons, amSt_ag hr (am_up_ag hk)]
  simp [amV, va_up]
set_option maxHeartbeats 1000000 in
theorem am_act (hx : p.tables.exec = Jvm.exec) {G : Nat → Option amM} {X : Nat → Option amN} {N : amN} {M : amM} (hb : c.code = N.2.1) (hml : c.maxLocals = M.2.1) (hts : ∀ w ∈ amWL, w.before args s = true) (hown : s.vm.findClass N.1.cls = some m.cls) (hG : amG D dA sA s) {sc : Option (List Int32)} (hZ9 : amZ sc sA A s s.heap) (hus : ∀ (ci : Nat) (r : vw_C), vwCl[ci]? = some r → ∀ w ∈ u_ws r.1 r.2.1 r.2.2, w ∈ amWL) (hcl : amClOk) (hini : M.2.2.2.1 = true → meth.name = "<init>") {ad : Nat → Nat} (hsA : ∀ k, ad (amK + k) = sA k) (hsc : ∀ l9, sc = some l9 → va_X (sA 999999) l9.length (fun j => l9.getD j 0) s s.heap ∧ sA 999999 < s.heap.size ∧ ¬ A (sA 999999)) (hA : ∀ q, s.heap.size ≤ q → A q)
    {pc a b : Nat} {i : Instr} (hE : amEok G X N M (pc, i, a, b)) (hR8 : 8 ≤ R.frames ∧ 128 ≤ R.locals) (hroom9 : cells ≤ R.cells ∧ slots ≤ R.slots) {ls : amL} {st : List Value} {hp : amH} {r : amR} {dk ds : Nat} (h : amDo G M sc i a b pc ls st hp = some (.inl (r, dk, ds))) (hroom : cells + dk ≤ R.cells ∧ slots + ds ≤ R.slots) {lsA : Array Slot} (hl : lv_has lsA M.2.1 (amLs ad ls)) (hP : va_P D vwCl (amW dA ad hp) H) (hD : va_D A (amW dA ad hp)) (hS : va_S A s.heap H locs)
    (kk : ∀ (ad1 : Nat → Nat) (H1 : Heap) (locs1 : List Loc) (lsA1 : Array Slot), amAg hp.length ad ad1 → va_P D vwCl (amW dA ad1 r.2.2.2) H1 → va_D A (amW dA ad1 r.2.2.2) → va_S A s.heap H1 locs1 → lv_has lsA1 M.2.1 (amLs ad1 r.2.1) → W p l e R s m args below meth c H1 locs1 (cells + dk) (slots + ds) Q (F0 m r.1 lsA1 (r.2.2.1.map (amV ad1)))) :
    W p l e R s m args below meth c H locs cells slots Q (F0 m pc lsA (st.map (amV ad))) := by
  obtain ⟨hd, hlk, hlk2⟩ := hE
  dsimp only at hd hlk hlk2
  have hK := hG.1
  have hR : 1 ≤ R.frames ∧ 100 ≤ R.locals := ⟨by omega, by omega⟩
  unfold amDo at h
  split at h
  case h_1 z =>
    split at h
    · next hb0 =>
      obtain ⟨o1, o2, o3, o4, e1⟩ := amMake_s h
      cases e1
      unfold amLk2 at hlk2
      dsimp only at hlk2
      rw [if_pos hb0] at hlk2
      obtain ⟨r, hc, w1, w2, w3⟩ := hlk2
      obtain ⟨n, hd, hn⟩ := hd
      obtain rfl : n = 3 := by rcases hn with hn | hn <;> first | exact hn | cases hn
      dsimp only at hroom kk
      rw [amDef_len hc] at hroom kk
      refine va_new (c0 := c) (D := D) (ci := a) (fs := amDef a) hx hb hts (hus a r hc) (amFty a) (hcl a r hc).1 hown (hts _ w1) (hts _ w2) (hts _ w3) hK hP hD hS hA hc (fun j hj => amDef_at hc hj) hroom.1 hroom.2 hd (fun q H1 hP1 hD1 hS1 => ?_)
      have e2 := am_new (q := q) (E := .inr (a, amDef a)) (t := a) (vs := amDef a) (dA := dA) (ad := ad) o3 o4 (by rw [amE_obj (am_lt32 hc), amDef_map])
      rw [e2] at hP1 hD1
      exact W.eq (congrArg (fun z => F0 m (pc + 3) lsA z) (am_newst (q := q) (ad := ad) o2 o4).symm) (kk (va_up ad hp.length q) H1 locs lsA (am_up_ag o4) hP1 hD1 hS1 (by rw [amLs_ag o1 (am_up_ag o4)]; exact hl))
    · split at h <;> cases h
  case h_2 t =>
    obtain ⟨n, q, t0, v, rfl, hk, hn0, hn1, h⟩ := amMakeA_s h
    obtain ⟨o1, o2, o3, o4, e1⟩ := amMake_s h
    cases e1
    have hw := hlk2 _ hk
    obtain ⟨k, hd, hn⟩ := hd
    obtain rfl : k = 2 := by rcases hn with hn | hn <;> first | exact hn | cases hn
    dsimp only [List.length_replicate] at hroom kk
    rw [List.length_replicate] at hroom kk
    cases t <;> cases hk
    case refl.byte.refl =>
      refine va_newa (D := D) (ty := .byte) (a0 := (n.toNatClampNeg, .inl fun _ => 0)) hx hb (hts _ hw) rfl hK hP hD hS hA (fun _ => rfl) hn0 rfl (by show n.toNatClampNeg * 1 ≤ _; omega) hroom.1 hroom.2 hd (fun q1 cA H1 hK1 hP1 hD1 hS1 => ?_)
      have hcA : cA = dA 2 := Option.some.inj ((hK1.2 5 (cA, .byte) rfl).2.symm.trans (hK.2 2 (dA 2, .byte) rfl).2)
      subst hcA
      have e2 := am_new (q := q1) (E := .inl (dA 2, n.toNatClampNeg, .inl fun _ => 0)) (t := 34) (vs := List.replicate n.toNatClampNeg (.int 0)) (dA := dA) (ad := ad) o3 o4 (by show Sum.inl _ = _; rw [am_rep_i, List.length_replicate])
      rw [e2] at hP1 hD1
      exact W.eq (congrArg (fun z => F0 m (pc + 2) lsA z) (am_newst (q := q1) (ad := ad) o2 o4).symm) (kk (va_up ad hp.length q1) H1 locs lsA (am_up_ag o4) hP1 hD1 hS1 (by rw [amLs_ag o1 (am_up_ag o4)]; exact hl))
    case refl.int.refl =>
      refine va_newa (D := D) (ty := .int) (a0 := (n.toNatClampNeg, .inl fun _ => 0)) hx hb (hts _ hw) rfl hK hP hD hS hA (fun _ => rfl) hn0 rfl (by show n.toNatClampNeg * 4 ≤ _; omega) hroom.1 hroom.2 hd (fun q1 cA H1 hK1 hP1 hD1 hS1 => ?_)
      have hcA : cA = dA 0 := Option.some.inj ((hK1.2 5 (cA, .int) rfl).2.symm.trans (hK.2 0 (dA 0, .int) rfl).2)
      subst hcA
      have e2 := am_new (q := q1) (E := .inl (dA 0, n.toNatClampNeg, .inl fun _ => 0)) (t := 32) (vs := List.replicate n.toNatClampNeg (.int 0)) (dA := dA) (ad := ad) o3 o4 (by show Sum.inl _ = _; rw [am_rep_i, List.length_replicate])
      rw [e2] at hP1 hD1
      exact W.eq (congrArg (fun z => F0 m (pc + 2) lsA z) (am_newst (q := q1) (ad := ad) o2 o4).symm) (kk (va_up ad hp.length q1) H1 locs lsA (am_up_ag o4) hP1 hD1 hS1 (by rw [amLs_ag o1 (am_up_ag o4)]; exact hl))
    case refl.long.refl =>
      refine va_newa (D := D) (ty := .long) (a0 := (n.toNatClampNeg, .inr (.inl fun _ => 0))) hx hb (hts _ hw) rfl hK hP hD hS hA (fun _ => rfl) hn0 rfl (by show n.toNatClampNeg * 8 ≤ _; omega) hroom.1 hroom.2 hd (fun q1 cA H1 hK1 hP1 hD1 hS1 => ?_)
      have hcA : cA = dA 1 := Option.some.inj ((hK1.2 5 (cA, .long) rfl).2.symm.trans (hK.2 1 (dA 1, .long) rfl).2)
      subst hcA
      have e2 := am_new (q := q1) (E := .inl (dA 1, n.toNatClampNeg, .inr (.inl fun _ => 0))) (t := 33) (vs := List.replicate n.toNatClampNeg (.long 0)) (dA := dA) (ad := ad) o3 o4 (by show Sum.inl _ = _; rw [am_rep_l, List.length_replicate])
      rw [e2] at hP1 hD1
      exact W.eq (congrArg (fun z => F0 m (pc + 2) lsA z) (am_newst (q := q1) (ad := ad) o2 o4).symm) (kk (va_up ad hp.length q1) H1 locs lsA (am_up_ag o4) hP1 hD1 hS1 (by rw [amLs_ag o1 (am_up_ag o4)]; exact hl))
  case h_3 z =>
    obtain ⟨n, q, t0, v, rfl, hk, hn0, hn1, h⟩ := amMakeA_s h
    obtain ⟨o1, o2, o3, o4, e1⟩ := amMake_s h
    cases e1
    obtain ⟨k, hd, hn⟩ := hd
    obtain rfl : k = 3 := by rcases hn with hn | hn <;> first | exact hn | cases hn
    unfold amLk2 at hlk2
    dsimp only at hlk2
    by_cases ha1 : a = 1
    · rw [if_pos ha1] at hk hlk2
      cases hk
      dsimp only at hroom kk
      rw [List.length_replicate] at hroom kk
      refine va_newq (D := D) (C := "java/lang/Object") hx hb hown (hts _ hlk2) hG.2.2.2.2.2.1 hK hP hD hS hA hn0 rfl (by omega) hroom.1 hroom.2 hd (fun q1 cA H1 hK1 hP1 hD1 hS1 => ?_)
      have hcA : cA = dA 4 := by
        obtain ⟨_, _, -, -, -, g1⟩ := (hK1.2 5 (cA, .object "java/lang/Object") rfl).2
        obtain ⟨_, _, -, -, -, g2⟩ := (hK.2 4 (dA 4, .object "java/lang/Object") rfl).2
        exact Option.some.inj (g1.symm.trans g2)
      subst hcA
      have e2 := am_new (q := q1) (E := .inl (dA 4, n.toNatClampNeg, .inr (.inr (.inr (.inr fun _ => none))))) (t := 36) (vs := List.replicate n.toNatClampNeg .null) (dA := dA) (ad := ad) o3 o4 (by show Sum.inl _ = _; rw [am_rep_q, List.length_replicate])
      rw [e2] at hP1 hD1
      exact W.eq (congrArg (fun z => F0 m (pc + 3) lsA z) (am_newst (q := q1) (ad := ad) o2 o4).symm) (kk (va_up ad hp.length q1) H1 locs lsA (am_up_ag o4) hP1 hD1 hS1 (by rw [amLs_ag o1 (am_up_ag o4)]; exact hl))
    · rw [if_neg ha1] at hk hlk2
      cases hk
      dsimp only at hroom kk
      rw [List.length_replicate] at hroom kk
      refine va_newq (D := D) (C := "TripleTrains$Snapshot") hx hb hown (hts _ hlk2) hG.2.2.2.2.1 hK hP hD hS hA hn0 rfl (by omega) hroom.1 hroom.2 hd (fun q1 cA H1 hK1 hP1 hD1 hS1 => ?_)
      have hcA : cA = dA 3 := by
        obtain ⟨_, _, -, -, -, g1⟩ := (hK1.2 5 (cA, .object "TripleTrains$Snapshot") rfl).2
        obtain ⟨_, _, -, -, -, g2⟩ := (hK.2 3 (dA 3, .object "TripleTrains$Snapshot") rfl).2
        exact Option.some.inj (g1.symm.trans g2)
      subst hcA
      have e2 := am_new (q := q1) (E := .inl (dA 3, n.toNatClampNeg, .inr (.inr (.inr (.inr fun _ => none))))) (t := 35) (vs := List.replicate n.toNatClampNeg .null) (dA := dA) (ad := ad) o3 o4 (by show Sum.inl _ = _; rw [am_rep_q, List.length_replicate])
      rw [e2] at hP1 hD1
      exact W.eq (congrArg (fun z => F0 m (pc + 3) lsA z) (am_newst (q := q1) (ad := ad) o2 o4).symm) (kk (va_up ad hp.length q1) H1 locs lsA (am_up_ag o4) hP1 hD1 hS1 (by rw [amLs_ag o1 (am_up_ag o4)]; exact hl))
  case h_4 z =>
    have S9 : CallFix p m c N.2.1 M.2.1 s args amWL N.1.cls := ⟨hx, hb, hml, hown, hts⟩
    have hke : ∀ {H1 : Heap}, (∀ q : Nat, q < H.size → H1[q]? = H[q]?) → va_P D vwCl (amW dA ad hp) H1 := fun hs => hP.kept (fun k q hk => hs q.1 ((hP k q hk).lt))
    split at h
    · next hb7 =>
      obtain ⟨k9, l9, q, hk9, rfl, h6, e1⟩ := amLenS_s h
      cases e1
      unfold amLk2 at hlk2
      dsimp only at hlk2
      rw [if_pos hb7] at hlk2
      obtain ⟨k, hd, hn⟩ := hd
      obtain rfl : k = 3 := by rcases hn with hn | hn <;> first | exact hn | cases hn
      have hcat : ((q.map (amV ad)).map fun v => v.category).sum ≤ 8 := by
        rw [List.map_map]
        simpa [Function.comp_def, amV_cat] using h6
      obtain ⟨t9, hB9⟩ := hZ9.2.2.1.2 _ hk9
      have e9 : (.ref (amK + k9) :: q).map (amV ad) = .ref (sA k9) :: q.map (amV ad) := by
        rw [List.map_cons]
        show Value.ref (ad (amK + k9)) :: _ = _
        rw [hsA]
      rw [e9]
      exact sw_lenW S9 hA hZ9.2.2.1.1 hB9 hS hk9 hlk2 hR8 hroom9 hl.1 hcat hd (fun H1 locs1 _ u2 u3 => kk ad H1 locs1 lsA (amAg.refl _ _) (hke u2) hD u3 hl)
    · split at h
      · next hb7 hb8 =>
        unfold amChrX at h
        split at h
        · next ha1 =>
          obtain ⟨o9, q, rfl, ho9, h6, e1⟩ := amGetC_s h
          cases e1
          unfold amLk2 at hlk2
          dsimp only at hlk2
          rw [if_neg hb7, if_pos hb8, if_pos ha1] at hlk2
          obtain ⟨w1, w2, w3, w4, w5⟩ := hlk2
          obtain ⟨k, hd, hn⟩ := hd
          obtain rfl : k = 3 := by rcases hn with hn | hn <;> first | exact hn | cases hn
          have hcat : ((q.map (amV ad)).map fun v => v.category).sum ≤ 8 := by
            rw [List.map_map]
            simpa [Function.comp_def, amV_cat] using h6
          have e2 : amV ad (.ref (amK + 204)) = .ref (sA 204) := by show Value.ref (ad (amK + 204)) = _; rw [hsA]
          rcases amCls_in ho9 with ⟨c9, hc9⟩ | ⟨k9, rfl, hk9⟩
          · have hr : ∃ cell : Cell, H[ad o9]? = some cell ∧ cell.vm.isStatics = false ∧ s.vm.findClass "[Ljava/lang/Object;" = some cell.cls := ⟨_, hP o9 _ (amW_get (dA := dA) (ad := ad) hc9), rfl, va_nmO (hK.2 4 (dA 4, .object "java/lang/Object") rfl).2 (by decide +kernel)⟩
            exact va_getC hx hb (hml.trans hl.1.symm) hown (hts _ w1) (va_Nw.use rfl (hG.2.2.1 _ w2 rfl)) (hts _ w3) (hts _ w4) (hts _ w5) hG.2.2.2.2.2.2.1 hr hR.1 (by omega) hd (W.eq (congrArg (fun v => F0 m (pc + 3) lsA (v :: q.map (amV ad))) e2.symm) (kk ad H locs lsA (amAg.refl _ _) hP hD hS hl))
          · rcases amKc_in hk9 with ⟨_, _, _, e9⟩ | ⟨_, _, _, e9⟩ <;> cases e9
        · next ha1 =>
          split at h
          · next ha2 =>
            obtain ⟨o9, q, c9, rfl, hc9, hB9, h6, h⟩ := amClone_s h
            obtain ⟨o1, o2, o3, o4, e1⟩ := amMake_s h
            cases e1
            unfold amLk2 at hlk2
            dsimp only at hlk2
            rw [if_neg hb7, if_pos hb8, if_neg ha1, if_pos ha2] at hlk2
            obtain ⟨w1, w2, w3, w4, w5, w6⟩ := hlk2
            obtain ⟨k, hd, hn⟩ := hd
            obtain rfl : k = 3 := by rcases hn with hn | hn <;> first | exact hn | cases hn
            have hcat : ((q.map (amV ad)).map fun v => v.category).sum ≤ 8 := by
              rw [List.map_map]
              simpa [Function.comp_def, amV_cat] using h6
            dsimp only at hroom kk
            exact va_clone (D := D) (ad := "[B") (x := (c9.length, .inl (fun j => amInt (c9.getD j .null)))) hx hb (hml.trans hl.1.symm) hown (hts _ w1) (hts _ w2) (hts _ w3) (hts _ w4) (hts _ w5) (hG.2.2.1 _ w6 rfl) hK hP hD hS hA o9 2 (amW_get (dA := dA) (ad := ad) hc9) rfl (va_nm_byte (hK.2 2 (dA 2, .byte) rfl).2) (am_cloneF hB9) hR.1 (by omega) hroom.1 hroom.2 hd (fun q1 H1 hK1 hP1 hD1 hS1 => by
              have e2 := am_new (q := q1) (E := .inl (dA 2, c9.length, .inl (fun j => amInt (c9.getD j .null)))) (t := 34) (vs := c9) (dA := dA) (ad := ad) o3 o4 rfl
              rw [e2] at hP1 hD1
              exact W.eq (congrArg (fun z => F0 m (pc + 3) lsA z) (am_newst (q := q1) (ad := ad) o2 o4).symm) (kk (va_up ad hp.length q1) H1 locs lsA (am_up_ag o4) hP1 hD1 hS1 (by rw [amLs_ag o1 (am_up_ag o4)]; exact hl)))
          next ha2 =>
            obtain ⟨i9, k9, l9, q, hk9, rfl, hi9, h6, e1⟩ := amChrS_s h
            cases e1
            unfold amLk2 at hlk2
            dsimp only at hlk2
            rw [if_neg hb7, if_pos hb8, if_neg ha1, if_neg ha2] at hlk2
            obtain ⟨k, hd, hn⟩ := hd
            obtain rfl : k = 3 := by rcases hn with hn | hn <;> first | exact hn | cases hn
            have hcat : ((q.map (amV ad)).map fun v => v.category).sum ≤ 8 := by
              rw [List.map_map]
              simpa [Function.comp_def, amV_cat] using h6
            obtain ⟨t9, hB9⟩ := hZ9.2.2.1.2 _ hk9
            have e9 : (.int i9 :: .ref (amK + k9) :: q).map (amV ad) = .int i9 :: .ref (sA k9) :: q.map (amV ad) := by
              rw [List.map_cons, List.map_cons]
              show _ :: Value.ref (ad (amK + k9)) :: _ = _
              rw [hsA]
              rfl
            rw [e9]
            exact sw_chrW S9 hA hZ9.2.2.1.1 hB9 hS hk9 hi9 hlk2 hR8 hroom9 hl.1 hcat hd (fun H1 locs1 _ u2 u3 => kk ad H1 locs1 lsA (amAg.refl _ _) (hke u2) hD u3 hl)
      · obtain ⟨_, _, _, -, -, -, -, -, -, -, -, e1⟩ := amCall_s h; cases e1
  case h_5 z =>
    split at h
    · next hb6 =>
      unfold amCopyY at h
      split at h
      · next ha1 =>
        obtain ⟨n, dp, o, sp, a0, q, t, c0, c1, rfl, g1, gs, ht, h1, h2, h3, h4, h5, h6, h7, e1⟩ := amCopyX_s h
        cases e1
        unfold amLk2 at hlk2
        dsimp only at hlk2
        rw [if_pos hb6] at hlk2
        obtain ⟨w1, w2, w3, w4⟩ := hlk2
        obtain ⟨k, hd, hn⟩ := hd
        obtain rfl : k = 3 := by rcases hn with hn | hn <;> first | exact hn | cases hn
        have e1 := amW_get (dA := dA) (ad := ad) g1
        have hcat : ((q.map (amV ad)).map fun v => v.category).sum ≤ 8 := by
          rw [List.map_map]
          simpa [Function.comp_def, amV_cat] using h6
        have hwd : nativeFrameWords "java/lang/System" "arraycopy" 5 + 11 ≤ 90 := by decide +kernel
        rcases amSrc_s gs with g0 | ⟨k9, l9, rfl, hl9, rfl, rfl⟩
        · have e0 := amW_get (dA := dA) (ad := ad) g0
          rcases ht with rfl | rfl
          · rw [if_pos rfl] at h7
            have hset : (amW dA ad hp).set o (ad o, .inl (dA 4, c1.length, .inr (.inr (.inr (.inr (va_cpy (fun j => amRef ad (c0.getD j .null)) (fun j => amRef ad (c1.getD j .null)) sp.toNatClampNeg dp.toNatClampNeg n.toNatClampNeg)))))) = amW dA ad (hp.set o (36, c1.take dp.toNatClampNeg ++ ((c0.drop sp.toNatClampNeg).take n.toNatClampNeg ++ c1.drop (dp.toNatClampNeg + n.toNatClampNeg)))) := by
              rw [← amW_set]
              show _ = (amW dA ad hp).set o (ad o, .inl (dA 4, List.length _, _))
              rw [am_cpyq h4 h5, am_cpy_len h4 h5]
            exact va_copyM (D := D) (E0 := "java/lang/Object") (E1 := "java/lang/Object") hx hb (hml.trans hl.1.symm) hown (hts _ w1) (hts _ w2) (hts _ w3) (hts _ w4) hK hP hD hS a0 o 4 4 e0 e1 rfl rfl h1 h2 h3 h4 h5 (fun i hi y hy => by
              have hv := am_cpy_el h7 h4 hi
              dsimp only at hy
              generalize c0.getD (sp.toNatClampNeg + i) .null = v9 at hv hy
              cases v9 <;> first
                | (cases hy; exact am_isO (am_CY hG) hK hZ9.2.2.2.1 hsA hP hS hv)
                | cases hy) hR.1 (by omega) hd (fun H1 locs1 p2 p3 p4 => kk ad H1 locs1 lsA (amAg.refl _ _) (hset ▸ p2) (hset ▸ p3) p4 hl)
          · rw [if_neg (by decide)] at h7
            have hset : (amW dA ad hp).set o (ad o, .inl (dA 2, c1.length, .inl (va_cpy (fun j => amInt (c0.getD j .null)) (fun j => amInt (c1.getD j .null)) sp.toNatClampNeg dp.toNatClampNeg n.toNatClampNeg))) = amW dA ad (hp.set o (34, c1.take dp.toNatClampNeg ++ ((c0.drop sp.toNatClampNeg).take n.toNatClampNeg ++ c1.drop (dp.toNatClampNeg + n.toNatClampNeg)))) := by
              rw [← amW_set]
              show _ = (amW dA ad hp).set o (ad o, .inl (dA 2, List.length _, _))
              rw [am_cpy h4 h5, am_cpy_len h4 h5]
            exact va_copyi (D := D) (ty := .byte) hx hb (hml.trans hl.1.symm) hown (hts _ w1) (hts _ w2) (hts _ w3) (hts _ w4) hK hP hD hS a0 o 2 2 e0 e1 rfl rfl rfl h1 h2 h3 h4 h5 (fun i hi => am_isB (am_cpy_el h7 h4 hi)) hR.1 (by omega) hd (fun H1 locs1 p2 p3 p4 => kk ad H1 locs1 lsA (amAg.refl _ _) (hset ▸ p2) (hset ▸ p3) p4 hl)
        · rw [if_neg (by decide)] at h7
          have ef : (fun j => amInt ((l9.map Value.int).getD j .null)) = (fun j => l9.getD j 0) := by
            funext j
            by_cases hj : j < l9.length
            · rw [List.getD_eq_getElem?_getD, List.getElem?_map, List.getElem?_eq_getElem hj, List.getD_eq_getElem?_getD, List.getElem?_eq_getElem hj]
              rfl
            · rw [List.getD_eq_getElem?_getD, List.getElem?_eq_none (by rw [List.length_map]; omega), List.getD_eq_getElem?_getD, List.getElem?_eq_none (by omega)]
              rfl
          have hset : (amW dA ad hp).set o (ad o, .inl (dA 2, c1.length, .inl (va_cpy (fun j => l9.getD j 0) (fun j => amInt (c1.getD j .null)) sp.toNatClampNeg dp.toNatClampNeg n.toNatClampNeg))) = amW dA ad (hp.set o (34, c1.take dp.toNatClampNeg ++ (((l9.map Value.int).drop sp.toNatClampNeg).take n.toNatClampNeg ++ c1.drop (dp.toNatClampNeg + n.toNatClampNeg)))) := by
            rw [← amW_set]
            show _ = (amW dA ad hp).set o (ad o, .inl (dA 2, List.length _, _))
            rw [am_cpy h4 h5, am_cpy_len h4 h5, ef]
          have e8 : (.int n :: .int dp :: .ref o :: .int sp :: .ref (amK + k9) :: q).map (amV ad) = .int n :: .int dp :: .ref (ad o) :: .int sp :: .ref (sA k9) :: q.map (amV ad) := by
            rw [List.map_cons, List.map_cons, List.map_cons, List.map_cons, List.map_cons]
            show _ :: _ :: _ :: _ :: Value.ref (ad (amK + k9)) :: _ = _
            rw [hsA]
            rfl
          rw [e8]
          have h4' := h4
          rw [List.length_map] at h4'
          exact vk_copyt (D := D) (f := fun j => l9.getD j 0) hx hb (hml.trans hl.1.symm) hown (hts _ w1) (hts _ w2) (hts _ w3) (hts _ w4) hK hP hD hS (hZ9.2.2.2.1.2.2.2.1 _ hl9) o 2 e1 rfl h1 h2 h3 h4' h5 (fun i hi => by
            have hv := am_isB (am_cpy_el h7 h4 hi)
            rw [show amInt ((l9.map Value.int).getD (sp.toNatClampNeg + i) .null) = l9.getD (sp.toNatClampNeg + i) 0 from congrFun ef _] at hv
            exact hv) hR.1 (by omega) hd (fun H1 locs1 p2 p3 p4 => kk ad H1 locs1 lsA (amAg.refl _ _) (hset ▸ p2) (hset ▸ p3) p4 hl)
      · next ha1 =>
        obtain ⟨n, dp, o, sp, a0, q, c0, c1, rfl, g0, g1, h1, h2, h3, h4, h5, h6, e1⟩ := amCopy_s h
        cases e1
        unfold amLk2 at hlk2
        dsimp only at hlk2
        rw [if_pos hb6] at hlk2
        obtain ⟨w1, w2, w3, w4⟩ := hlk2
        obtain ⟨k, hd, hn⟩ := hd
        obtain rfl : k = 3 := by rcases hn with hn | hn <;> first | exact hn | cases hn
        have e0 := amW_get (dA := dA) (ad := ad) g0
        have e1 := amW_get (dA := dA) (ad := ad) g1
        have hset : (amW dA ad hp).set o (ad o, .inl (dA 0, c1.length, .inl (va_cpy (fun j => amInt (c0.getD j .null)) (fun j => amInt (c1.getD j .null)) sp.toNatClampNeg dp.toNatClampNeg n.toNatClampNeg))) = amW dA ad (hp.set o (32, c1.take dp.toNatClampNeg ++ ((c0.drop sp.toNatClampNeg).take n.toNatClampNeg ++ c1.drop (dp.toNatClampNeg + n.toNatClampNeg)))) := by
          rw [← amW_set]
          show _ = (amW dA ad hp).set o (ad o, .inl (dA 0, List.length _, _))
          rw [am_cpy h4 h5, am_cpy_len h4 h5]
        have hcat : ((q.map (amV ad)).map fun v => v.category).sum ≤ 8 := by
          rw [List.map_map]
          simpa [Function.comp_def, amV_cat] using h6
        exact va_copyi (D := D) (ty := .int) hx hb (hml.trans hl.1.symm) hown (hts _ w1) (hts _ w2) (hts _ w3) (hts _ w4) hK hP hD hS a0 o 0 0 e0 e1 rfl rfl rfl h1 h2 h3 h4 h5 (fun _ _ => rfl) hR.1 (by
          have : nativeFrameWords "java/lang/System" "arraycopy" 5 + 11 ≤ 90 := by decide +kernel
          omega) hd (fun H1 locs1 p2 p3 p4 => kk ad H1 locs1 lsA (amAg.refl _ _) (hset ▸ p2) (hset ▸ p3) p4 hl)
    · obtain ⟨_, _, _, -, -, -, -, -, -, -, -, e1⟩ := amCall_s h; cases e1
  case h_6 z =>
    split at h
    · next hb5 =>
      obtain ⟨o, q, rfl, h6, e1⟩ := amObj_s h
      cases e1
      unfold amLk2 at hlk2
      dsimp only at hlk2
      rw [if_pos hb5] at hlk2
      obtain ⟨w1, w2, w3⟩ := hlk2
      obtain ⟨k, hd, hn⟩ := hd
      obtain rfl : k = 3 := by rcases hn with hn | hn <;> first | exact hn | cases hn
      have hcat : ((q.map (amV ad)).map fun v => v.category).sum ≤ 8 := by
        rw [List.map_map]
        simpa [Function.comp_def, amV_cat] using h6
      refine W.objInit hx hb hown (hts _ w1) (hts _ w2) (hts _ w3) rfl (hl.1.trans hml.symm) rfl hd hR.1 ?_ ?_
      · show 2 * 0 + _ + 12 ≤ _
        omega
      · exact kk ad H locs lsA (amAg.refl _ _) hP hD hS hl
    · obtain ⟨_, _, _, -, -, -, -, -, -, -, -, e1⟩ := amCall_s h; cases e1
  case h_7 => obtain ⟨v, -, e1⟩ := Option.map_eq_some_iff.mp h; cases e1
  case h_8 => obtain ⟨v, -, e1⟩ := Option.map_eq_some_iff.mp h; cases e1
  case h_9 => obtain ⟨v, -, e1⟩ := Option.map_eq_some_iff.mp h; cases e1
  case h_10 => obtain ⟨v, -, e1⟩ := Option.map_eq_some_iff.mp h; cases e1
  case h_11 => obtain ⟨v, -, e1⟩ := Option.map_eq_some_iff.mp h; cases e1
  case h_12 => obtain ⟨v, -, e1⟩ := Option.map_eq_some_iff.mp h; cases e1
  case h_13 => obtain ⟨_, _, _, -, -, -, -, -, -, -, -, e1⟩ := amCall_s h; cases e1
  case h_14 =>
    obtain ⟨v, h1, e1⟩ := Option.map_eq_some_iff.mp h
    cases e1
    exact amStep_ok (sA := sA) (D := D) hx hb hts hown hK hus hcl hini hG.2.1 hsA hZ9.2.2.2.1 (am_CY hG) hG.2.2.2.2.2.2.1 (fun _ _ _ _ _ _ hw => hG.2.2.1 _ hw rfl) (fun l9 z => by
      have e9 : ad amS = sA 999999 := hsA 999999
      rw [e9]
      exact hsc l9 z) hd hlk h1 hl hP hD hS (fun H1 locs1 lsA1 p2 p3 p4 p5 => kk ad H1 locs1 lsA1 (amAg.refl _ _) p2 p3 p4 p5)
end AMD
