/-! ##### 05w.words ##### -/
section
/-! ===== words: String.length and charAt of a constant, by their code ===== -/
theorem am_sl_len : ∀ (vs : List Value), (lg_sl vs).length = (vs.map fun v => v.category).sum
  | [] => rfl
  | v :: r => by
    have ih := am_sl_len r
    rw [show lg_sl (v :: r) = (if v.category = 2 then [.val v, .second] else [.val v]) ++ lg_sl r from rfl, List.length_append, ih]
    rcases lv_cat v with h | h <;> simp [h]
section SWO
variable {l : Launch}
/-- a method's body, with a table of handlers or none -/
theorem am_ofW {y : MethodName} {ws' : List Jvm.Cond} {rm : Room} {Pc : Array Value → State → Prop} {Qc : Array Value → State → Outcome → State → Prop} {XC : String → State → State → Prop} {mc ms : Nat} {free : Addr → Prop} {cc : ByteArray} {maxL : Nat} {ret : Option FieldType} {hh : List (Nat × Nat × Nat × Nat)} {hd : Jvm.Cond}
    (hy : plainFor y = true) (hhd : hd = if hh = [] then Jvm.Cond.code y cc maxL ret else Jvm.Cond.codeWith y cc maxL ret hh)
    (body : ∀ p e s m args below meth c s₁, BodyLoose p l y (headSpec (hd :: ws') rm) cc maxL ret e s m args below meth c s₁ → c.maxLocals = maxL → c.exceptionTable.toList = tableOf hh → Pc args s →
      W p l e (headSpec (hd :: ws') rm).room s m args below meth c s.heap [] 0 0 (vx_MQ below Qc XC args s mc ms free) (entryFrame m args maxL)) : vx_Met l y (hd :: ws') rm Pc Qc XC mc ms free := by
  by_cases h0 : hh = []
  · rw [if_pos h0] at hhd
    refine MetFree.of_bodySF (code := cc) (maxLocals := maxL) (ret := ret) hy ?_ ?_
    · intro args s m h hn
      obtain ⟨meth, c, h1, h2, h3, h4, h5, h6, -, -⟩ := Cond.code_spec hn (atoms_spec (ws := hd :: ws') h _ (by rw [hhd]; exact List.mem_cons_self))
      exact ⟨meth, c, h1, h2, h3, h4, h5, h6⟩
    · intro p e s m args below meth c s₁ B hml hP _
      have hh0 : s₁.heap = s.heap := by rw [B.state]; rfl
      have ht : c.exceptionTable.toList = tableOf hh := by
        obtain ⟨meth9, c9, h1, h2, -, -, -, -, h7, -⟩ := Cond.code_spec B.named (atoms_spec (ws := hd :: ws') B.pre _ (by rw [hhd]; exact List.mem_cons_self))
        cases Option.some.inj (h1.symm.trans B.method)
        cases Option.some.inj (h2.symm.trans (Stand.of_body B).code)
        rw [Array.isEmpty_iff.mp h7, h0]
        rfl
      obtain ⟨t, a1, o, b1, b2, b3⟩ := body p e s m args below meth c s₁ B hml ht hP s₁ hh0 (Stand.of_body B)
      exact ⟨t, o, a1, b1, b2, b3⟩
  · rw [if_neg h0] at hhd
    refine MetFree.of_bodySF (code := cc) (maxLocals := maxL) (ret := ret) hy ?_ ?_
    · intro args s m h hn
      obtain ⟨m9, meth, c, hn9, h1, h2, h3, h4, -, h5, h6, -⟩ := Cond.codeWith_spec (atoms_spec (ws := hd :: ws') h _ (by rw [hhd]; exact List.mem_cons_self))
      cases hn.symm.trans hn9
      exact ⟨meth, c, h1, h2, h3, h4, h5, h6⟩
    · intro p e s m args below meth c s₁ B hml hP _
      have hh0 : s₁.heap = s.heap := by rw [B.state]; rfl
      have ht : c.exceptionTable.toList = tableOf hh := vx_table (x := y) (y := y) B (atoms_spec (ws := hd :: ws') B.pre _ (by rw [hhd]; exact List.mem_cons_self))
      obtain ⟨t, a1, o, b1, b2, b3⟩ := body p e s m args below meth c s₁ B hml ht hP s₁ hh0 (Stand.of_body B)
      exact ⟨t, o, a1, b1, b2, b3⟩
end SWO
noncomputable def sA9 (sz : Nat) : Nat → Prop := fun a => sz ≤ a
noncomputable def sP (q t : Nat) (bs : List Int32) (sz : Nat) (av : List Value) : Array Value → State → Prop := fun a U => a = av.toArray ∧ U.heap.size = sz ∧ sW q t bs (sA9 sz) U U.heap
noncomputable def sQ (sz : Nat) (v : Option Value) : Array Value → State → Outcome → State → Prop := fun _ st o t => o = .returned v ∧ va_F (sA9 sz) st t
noncomputable def sX : String → State → State → Prop := fun _ _ _ => False
theorem sP_blind {q t : Nat} {bs : List Int32} {sz : Nat} {av : List Value} : FrameBlind (sP q t bs sz av) := fun a U g mk h =>
  ⟨h.1, h.2.1, sC.moved (u := U) (U := U.calling g mk a) (Vm.Alike.refl U.vm) h.2.2.1, sB.moved (u := U) (U := U.calling g mk a) (Vm.Alike.refl U.vm) h.2.2.2⟩
noncomputable def sRm (k : Nat) : Room := { frames := k, cells := 0, slots := 0, locals := 32 * k }
noncomputable def sAt (i : Nat) (w : Jvm.Cond) : Bool := goodWord w && decide (lw_tbl[i]? = some w)
theorem sWL {i : Nat} {w : Jvm.Cond} (h : sAt i w = true) : w ∈ amWL := by
  simp only [sAt, Bool.and_eq_true, decide_eq_true_eq] at h
  exact amWL_in (List.mem_of_getElem? h.2) h.1
section SW
variable {p : Program} {l : Launch} {e : Env} {R : Room} {s : State} {m : MethodId} {args : Array Value} {below : List Frame} {meth : Method} {c : Code} {H : Heap} {locs : List Loc} {cells slots : Nat} {Q : State → Prop}
variable {cc : ByteArray} {nL : Nat} {own : String} {A : Nat → Prop}
/-- behind a call that writes nothing -/
theorem sw_call {sz pc : Nat} {v : Option Value} {lsA : Array Slot} {st0 rest : List Value} {a : Array Value} (hr : vx_Run p l e R s m args below meth c H locs cells slots 0 0 (F0 m pc lsA st0) rest (sQ sz v a) sX (sA9 sz)) (hS : va_S A s.heap H locs) (hsz : H.size = sz) (hf : ∀ q, s.heap.size ≤ q → A q)
    (kk : ∀ (H1 : Heap) (locs1 : List Loc), H.size ≤ H1.size → (∀ q : Nat, q < H.size → H1[q]? = H[q]?) → va_S A s.heap H1 locs1 → W p l e R s m args below meth c H1 locs1 cells slots Q (F0 m (pc + 3) lsA (v.toList ++ rest))) :
    W p l e R s m args below meth c H locs cells slots Q (F0 m pc lsA st0) := by
  intro T hT X
  have hf2 : ∀ q, sA9 sz q → A q := fun q h => hf q (Nat.le_trans hS.1 (by rw [hsz]; exact h))
  rcases hr T hT X with ⟨v2, st₀, t, T', L, h0, X', hL, e1, e2, ⟨ho, hF⟩, st⟩ | ⟨q, st₀, t, T', L, E, ce, h0, X', hL, e1, e2, hx, -⟩
  · cases ho
    obtain ⟨k1, k2, k3⟩ := vx_keep h0 e1 hS (fun q _ h => hf2 q h) hf2 hL hF
    obtain ⟨t2, a1, b1⟩ := kk T'.heap (locs ++ L) k1 (fun q hq => k2 q hq (fun h => by unfold sA9 at h; omega)) k3 T' rfl X'
    exact ⟨t2, st t2 a1, b1⟩
  · exact hx.elim
/-- a static call -/
theorem sw_S (S : CallFix p m c cc nL s args amWL own) (hfA : ∀ q, s.heap.size ≤ q → A q) {q t : Nat} {bs : List Int32} (hC : sC A s s.heap) (hB : sB q t bs A s s.heap) (hS : va_S A s.heap H locs) {rm : Room} {y : MethodName} {bytes : ByteArray} {nLc idx n pc : Nat} {retc : Option FieldType} {v : Option Value} {As rest : List Value} {lsA : Array Slot}
    (hM : vx_Met l y (Jvm.Cond.code y bytes nLc retc :: amWL) rm (sP q t bs H.size As) (sQ H.size v) sX 0 0 (sA9 H.size)) (hrm : rm.cells = 0 ∧ rm.slots = 0) (w1 : Jvm.Cond.methodLink own idx y ∈ amWL) (w2 : Jvm.Cond.static y ∈ amWL) (w4 : Jvm.Cond.initialized y.cls ∈ amWL) (w5 : Jvm.Cond.code y bytes nLc retc ∈ amWL)
    (hd : y.cls ≠ "java/lang/invoke/MethodHandle" ∧ y.cls ≠ "java/lang/invoke/VarHandle" ∧ (parseMethodDescriptor y.desc).map (fun d => d.parameters.length) = some n) (hn : As.length = n) (hR : rm.frames + 1 ≤ R.frames ∧ 8 + (nLc + 11) + rm.locals ≤ R.locals) (hroom : cells ≤ R.cells ∧ slots ≤ R.slots) (hsz : lsA.size = nL) (hw : (rest.map fun v => v.category).sum ≤ 8) (hdg : decode cc pc = .ok (.invokestatic idx, 3))
    (kk : ∀ (H1 : Heap) (locs1 : List Loc), H.size ≤ H1.size → (∀ q : Nat, q < H.size → H1[q]? = H[q]?) → va_S A s.heap H1 locs1 → W p l e R s m args below meth c H1 locs1 cells slots Q (F0 m (pc + 3) lsA (v.toList ++ rest))) :
    W p l e R s m args below meth c H locs cells slots Q (F0 m pc lsA (As.reverse ++ rest)) := by
  have hF : ∀ q, sA9 H.size q → A q := fun q h => hfA q (Nat.le_trans hS.1 h)
  refine sw_call (sz := H.size) (vx_runS (As := As) (rest := rest) S hM (va_cwS n S.2.2.2.2 (amWL_good (fun w hw => ?_)) rfl hrm.1 hrm.2 hd hR) ⟨sP_blind, fun U hU hW => ⟨rfl, by rw [hU], ?_⟩⟩ rfl hn hsz (by simp [F0]) (lv_room hw) hdg hroom) hS rfl hfA kk
  · simp only [va_wsS, List.cons_append, List.nil_append, List.mem_cons] at hw
    rcases hw with rfl | rfl | rfl | rfl | hw
    · exact w1
    · exact w2
    · exact w4
    · exact w5
    · exact hw
  · rw [hU]
    exact ⟨sC.moved hW.alike ((hC.kept hS.2.1).narrow hF), sB.moved hW.alike ((hB.kept hS.2.1).narrow hF)⟩
/-- a call of a word's method -/
theorem sw_V (S : CallFix p m c cc nL s args amWL own) (hfA : ∀ q, s.heap.size ≤ q → A q) {q t : Nat} {bs : List Int32} (hC : sC A s s.heap) (hB : sB q t bs A s s.heap) (hS : va_S A s.heap H locs) {rm : Room} {y : MethodName} {bytes : ByteArray} {nLc idx n pc : Nat} {retc : Option FieldType} {v : Option Value} {As rest : List Value} {lsA : Array Slot}
    (hM : vx_Met l y (Jvm.Cond.code y bytes nLc retc :: amWL) rm (sP q t bs H.size (.ref q :: As)) (sQ H.size v) sX 0 0 (sA9 H.size)) (hrm : rm.cells = 0 ∧ rm.slots = 0) (w1 : Jvm.Cond.methodLink own idx y ∈ amWL) (w2 : Jvm.Cond.instanceMethod y ∈ amWL) (w3 : Jvm.Cond.selects "java/lang/String" y y ∈ amWL) (w4 : Jvm.Cond.initialized "java/lang/String" ∈ amWL) (w5 : Jvm.Cond.code y bytes nLc retc ∈ amWL) (hcls : y.cls = "java/lang/String")
    (hd : y.cls ≠ "java/lang/invoke/MethodHandle" ∧ y.cls ≠ "java/lang/invoke/VarHandle" ∧ (parseMethodDescriptor y.desc).map (fun d => d.parameters.length) = some n) (hn : As.length = n) (hR : rm.frames + 1 ≤ R.frames ∧ 8 + (nLc + 11) + rm.locals ≤ R.locals) (hroom : cells ≤ R.cells ∧ slots ≤ R.slots) (hsz : lsA.size = nL) (hw : (rest.map fun v => v.category).sum ≤ 8) (hdg : decode cc pc = .ok (.invokevirtual idx, 3))
    (kk : ∀ (H1 : Heap) (locs1 : List Loc), H.size ≤ H1.size → (∀ q : Nat, q < H.size → H1[q]? = H[q]?) → va_S A s.heap H1 locs1 → W p l e R s m args below meth c H1 locs1 cells slots Q (F0 m (pc + 3) lsA (v.toList ++ rest))) :
    W p l e R s m args below meth c H locs cells slots Q (F0 m pc lsA (As.reverse ++ .ref q :: rest)) := by
  have hF : ∀ q, sA9 H.size q → A q := fun q h => hfA q (Nat.le_trans hS.1 h)
  have hrecv : ∃ cell : Cell, H[q]? = some cell ∧ cell.vm.isStatics = false ∧ s.vm.findClass "java/lang/String" = some cell.cls := by
    obtain ⟨cell, h1, h2, h3, -⟩ := hB.1.kept hS.2.1
    exact ⟨cell, h1, h2, h3⟩
  refine sw_call (sz := H.size) (vx_runV (As := As) (rest := rest) (b := q) (C := "java/lang/String") S hM (cwV n S.2.2.2.2 (amWL_good (fun w hw => ?_)) rfl hrm.1 hrm.2 ⟨hcls, hd⟩ hR) ⟨sP_blind, hrecv, fun U hU hW => ⟨rfl, by rw [hU], ?_⟩⟩ rfl hn hsz (by simp [F0]) (lv_room hw) hdg hroom) hS rfl hfA kk
  · simp only [wsV, List.cons_append, List.nil_append, List.mem_cons] at hw
    rcases hw with rfl | rfl | rfl | rfl | rfl | hw
    · exact w1
    · exact w2
    · exact w3
    · exact w4
    · exact w5
    · exact hw
  · rw [hU]
    exact ⟨sC.moved hW.alike ((hC.kept hS.2.1).narrow hF), sB.moved hW.alike ((hB.kept hS.2.1).narrow hF)⟩
end SW
section SW2
variable {l : Launch}
theorem sd_coder0 : decode cJ0_coder_7d493 0 = .ok (.getstatic 38, 3) := by decide +kernel
theorem sd_coder3 : decode cJ0_coder_7d493 3 = .ok (.ifCond .eq 10, 3) := by decide +kernel
theorem sd_coder6 : decode cJ0_coder_7d493 6 = .ok (.aload_n 0, 1) := by decide +kernel
theorem sd_coder7 : decode cJ0_coder_7d493 7 = .ok (.getfield 15, 3) := by decide +kernel
theorem sd_coder10 : decode cJ0_coder_7d493 10 = .ok (.goto 4, 3) := by decide +kernel
theorem sd_coder14 : decode cJ0_coder_7d493 14 = .ok (.ireturn, 1) := by decide +kernel
theorem sw_coder {q t sz : Nat} {bs : List Int32} : vx_Met l yJ0_coder_7d493 (Jvm.Cond.code yJ0_coder_7d493 cJ0_coder_7d493 1 (some .byte) :: amWL) (sRm 0) (sP q t bs sz [.ref q]) (sQ sz (some (.int 0))) sX 0 0 (sA9 sz) := by
  refine am_ofW (cc := cJ0_coder_7d493) (maxL := 1) (ret := (some .byte)) (hh := []) (by decide) rfl ?_
  intro p e s m args below meth c s₁ B hml htab hv
  obtain ⟨rfl, rfl, hC, hO⟩ := hv
  have hpre := atoms_spec B.pre
  have hts : ∀ w ∈ amWL, w.before ([.ref q] : List Value).toArray s = true := fun w hw => hpre w (List.mem_cons_of_mem _ hw)
  have hx := B.exec
  have hb := B.bytes
  have hown : s.vm.findClass RJ0 = some m.cls := findClass_of_methodNamed B.named
  have hS : va_S (sA9 s.heap.size) s.heap s.heap [] := va_S.rf
  rw [lg_entry_eq]
  have hl := lv_entry ([.ref q] : List Value) (n := 1) (by rw [am_sl_len]; exact Nat.le_refl _)
  generalize ((lg_sl ([.ref q] : List Value) ++ List.replicate (1 - (lg_sl ([.ref q] : List Value)).length) Slot.unset).toArray) = lsA at hl ⊢
  have h0 : lsA[0]? = some (.val (.ref q)) := hl.2.2 (0, .ref q) (by simp [lv_args, Value.category])
  refine va_gets hx hb hC.1 hS hown (hts _ (sWL (i := 502) (by decide +kernel))) (fun _ h => h) sd_coder0 ?_
  refine lv_if_eq hx hb sd_coder3 (tgt := 13) (by decide) (fun z => by cases z) (fun _ => ?_)
  refine lv_aload_n hx hb sd_coder6 rfl h0 ?_
  refine vk_getf hx hb hO.2.1 hS hown (hts _ (sWL (i := 2244) (by decide +kernel))) (fun _ h => h) sd_coder7 ?_
  refine lv_goto hx hb sd_coder10 (tgt := 14) (by decide) ?_
  refine vx_ret ?_
  exact W.zret hx hb (B.returns.trans rfl) (by decide) (fun t ht _ => ⟨rfl, hS.F ht⟩) hS.2.2 sd_coder14
theorem sd_lat0 : decode cJ0_isLatin1_aae02 0 = .ok (.getstatic 38, 3) := by decide +kernel
theorem sd_lat3 : decode cJ0_isLatin1_aae02 3 = .ok (.ifCond .eq 14, 3) := by decide +kernel
theorem sd_lat6 : decode cJ0_isLatin1_aae02 6 = .ok (.aload_n 0, 1) := by decide +kernel
theorem sd_lat7 : decode cJ0_isLatin1_aae02 7 = .ok (.getfield 15, 3) := by decide +kernel
theorem sd_lat10 : decode cJ0_isLatin1_aae02 10 = .ok (.ifCond .ne 7, 3) := by decide +kernel
theorem sd_lat13 : decode cJ0_isLatin1_aae02 13 = .ok (.iconst 1, 1) := by decide +kernel
theorem sd_lat14 : decode cJ0_isLatin1_aae02 14 = .ok (.goto 4, 3) := by decide +kernel
theorem sd_lat18 : decode cJ0_isLatin1_aae02 18 = .ok (.ireturn, 1) := by decide +kernel
theorem sw_lat {q t sz : Nat} {bs : List Int32} : vx_Met l yJ0_isLatin1_aae02 (Jvm.Cond.code yJ0_isLatin1_aae02 cJ0_isLatin1_aae02 1 (some .boolean) :: amWL) (sRm 0) (sP q t bs sz [.ref q]) (sQ sz (some (.int 1))) sX 0 0 (sA9 sz) := by
  refine am_ofW (cc := cJ0_isLatin1_aae02) (maxL := 1) (ret := (some .boolean)) (hh := []) (by decide) rfl ?_
  intro p e s m args below meth c s₁ B hml htab hv
  obtain ⟨rfl, rfl, hC, hO⟩ := hv
  have hpre := atoms_spec B.pre
  have hts : ∀ w ∈ amWL, w.before ([.ref q] : List Value).toArray s = true := fun w hw => hpre w (List.mem_cons_of_mem _ hw)
  have hx := B.exec
  have hb := B.bytes
  have hown : s.vm.findClass RJ0 = some m.cls := findClass_of_methodNamed B.named
  have hS : va_S (sA9 s.heap.size) s.heap s.heap [] := va_S.rf
  rw [lg_entry_eq]
  have hl := lv_entry ([.ref q] : List Value) (n := 1) (by rw [am_sl_len]; exact Nat.le_refl _)
  generalize ((lg_sl ([.ref q] : List Value) ++ List.replicate (1 - (lg_sl ([.ref q] : List Value)).length) Slot.unset).toArray) = lsA at hl ⊢
  have h0 : lsA[0]? = some (.val (.ref q)) := hl.2.2 (0, .ref q) (by simp [lv_args, Value.category])
  refine va_gets hx hb hC.1 hS hown (hts _ (sWL (i := 502) (by decide +kernel))) (fun _ h => h) sd_lat0 ?_
  refine lv_if_eq hx hb sd_lat3 (tgt := 17) (by decide) (fun z => by cases z) (fun _ => ?_)
  refine lv_aload_n hx hb sd_lat6 rfl h0 ?_
  refine vk_getf hx hb hO.2.1 hS hown (hts _ (sWL (i := 2244) (by decide +kernel))) (fun _ h => h) sd_lat7 ?_
  refine lv_if_ne hx hb sd_lat10 (tgt := 17) (by decide) (fun z => absurd rfl z) (fun _ => ?_)
  refine lv_iconst hx hb sd_lat13 (v := 1) (by decide) ?_
  refine lv_goto hx hb sd_lat14 (tgt := 18) (by decide) ?_
  refine vx_ret ?_
  exact W.zret hx hb (B.returns.trans rfl) (by decide) (fun t ht _ => ⟨rfl, hS.F ht⟩) hS.2.2 sd_lat18
theorem sd_ck30 : decode cJ3_checkIndex_8e157 0 = .ok (.iload_n 0, 1) := by decide +kernel
theorem sd_ck31 : decode cJ3_checkIndex_8e157 1 = .ok (.ifCond .lt 8, 3) := by decide +kernel
theorem sd_ck34 : decode cJ3_checkIndex_8e157 4 = .ok (.iload_n 0, 1) := by decide +kernel
theorem sd_ck35 : decode cJ3_checkIndex_8e157 5 = .ok (.iload_n 1, 1) := by decide +kernel
theorem sd_ck36 : decode cJ3_checkIndex_8e157 6 = .ok (.if_icmp .lt 10, 3) := by decide +kernel
theorem sd_ck316 : decode cJ3_checkIndex_8e157 16 = .ok (.iload_n 0, 1) := by decide +kernel
theorem sd_ck317 : decode cJ3_checkIndex_8e157 17 = .ok (.ireturn, 1) := by decide +kernel
theorem sw_ck3 {q t sz : Nat} {bs : List Int32} {i k : Int32} {f : Value} (hi : 0 ≤ i) (hk : i < k) (hf : f.category = 1) : vx_Met l yJ3_checkIndex_8e157 (Jvm.Cond.code yJ3_checkIndex_8e157 cJ3_checkIndex_8e157 3 (some .int) :: amWL) (sRm 0) (sP q t bs sz [.int i, .int k, f]) (sQ sz (some (.int i))) sX 0 0 (sA9 sz) := by
  refine am_ofW (cc := cJ3_checkIndex_8e157) (maxL := 3) (ret := (some .int)) (hh := []) (by decide) rfl ?_
  intro p e s m args below meth c s₁ B hml htab hv
  obtain ⟨rfl, rfl, hC, hO⟩ := hv
  have hpre := atoms_spec B.pre
  have hts : ∀ w ∈ amWL, w.before ([.int i, .int k, f] : List Value).toArray s = true := fun w hw => hpre w (List.mem_cons_of_mem _ hw)
  have hx := B.exec
  have hb := B.bytes
  have hown : s.vm.findClass RJ3 = some m.cls := findClass_of_methodNamed B.named
  have hS : va_S (sA9 s.heap.size) s.heap s.heap [] := va_S.rf
  rw [lg_entry_eq]
  have hl := lv_entry ([.int i, .int k, f] : List Value) (n := 3) (by rw [am_sl_len]; show 1 + (1 + (f.category + 0)) ≤ 3; rw [hf]; exact Nat.le_refl _)
  generalize ((lg_sl ([.int i, .int k, f] : List Value) ++ List.replicate (3 - (lg_sl ([.int i, .int k, f] : List Value)).length) Slot.unset).toArray) = lsA at hl ⊢
  have h0 : lsA[0]? = some (.val (.int i)) := hl.2.2 (0, .int i) (by simp [lv_args, Value.category])
  have h1 : lsA[1]? = some (.val (.int k)) := hl.2.2 (1, .int k) (by simp [lv_args, Value.category])
  have h2 : lsA[2]? = some (.val (f)) := hl.2.2 (2, f) (by simp [lv_args, Value.category])
  refine lv_iload_n hx hb sd_ck30 rfl h0 ?_
  refine lv_if_lt hx hb sd_ck31 (tgt := 9) (by decide) (fun z => absurd hi (Int32.not_le.mpr z)) (fun _ => ?_)
  refine lv_iload_n hx hb sd_ck34 rfl h0 ?_
  refine lv_iload_n hx hb sd_ck35 rfl h1 ?_
  refine lv_icmp_lt hx hb sd_ck36 (tgt := 16) (by decide) (fun _ => ?_) (fun z => absurd hk z)
  refine lv_iload_n hx hb sd_ck316 rfl h0 ?_
  refine vx_ret ?_
  exact W.zret hx hb (B.returns.trans rfl) (rfl) (fun t ht _ => ⟨rfl, hS.F ht⟩) hS.2.2 sd_ck317
end SW2
/-! ===== words: length, checks, charAt ===== -/
section SW3
variable {l : Launch}
theorem sd_len_0 : decode cJ0_length_8abf5 0 = .ok (.aload_n 0, 1) := by decide +kernel
theorem sd_len_1 : decode cJ0_length_8abf5 1 = .ok (.getfield 9, 3) := by decide +kernel
theorem sd_len_4 : decode cJ0_length_8abf5 4 = .ok (.arraylength, 1) := by decide +kernel
theorem sd_len_5 : decode cJ0_length_8abf5 5 = .ok (.aload_n 0, 1) := by decide +kernel
theorem sd_len_6 : decode cJ0_length_8abf5 6 = .ok (.invokevirtual 335, 3) := by decide +kernel
theorem sd_len_9 : decode cJ0_length_8abf5 9 = .ok (.ishr, 1) := by decide +kernel
theorem sd_len_10 : decode cJ0_length_8abf5 10 = .ok (.ireturn, 1) := by decide +kernel
theorem sw_len {q t sz : Nat} {bs : List Int32} : vx_Met l yJ0_length_8abf5 (Jvm.Cond.code yJ0_length_8abf5 cJ0_length_8abf5 1 (some .int) :: amWL) (sRm 1) (sP q t bs sz [.ref q]) (sQ sz (some (.int (Int32.ofNat bs.length >>> (0 &&& 31))))) sX 0 0 (sA9 sz) := by
  refine am_ofW (cc := cJ0_length_8abf5) (maxL := 1) (ret := (some .int)) (hh := []) (by decide) rfl ?_
  intro p e s m args below meth c s₁ B hml htab hv
  obtain ⟨rfl, rfl, hC, hO⟩ := hv
  have hpre := atoms_spec B.pre
  have hts : ∀ w ∈ amWL, w.before ([.ref q] : List Value).toArray s = true := fun w hw => hpre w (List.mem_cons_of_mem _ hw)
  have hx := B.exec
  have hb := B.bytes
  have hown : s.vm.findClass RJ0 = some m.cls := findClass_of_methodNamed B.named
  have hS : va_S (sA9 s.heap.size) s.heap s.heap [] := va_S.rf
  have S : CallFix p m c cJ0_length_8abf5 1 s ([.ref q] : List Value).toArray amWL RJ0 := ⟨hx, hb, hml, hown, hts⟩
  rw [lg_entry_eq]
  have hl := lv_entry ([.ref q] : List Value) (n := 1) (by rw [am_sl_len]; exact Nat.le_refl _)
  generalize ((lg_sl ([.ref q] : List Value) ++ List.replicate (1 - (lg_sl ([.ref q] : List Value)).length) Slot.unset).toArray) = lsA at hl ⊢
  have h0 : lsA[0]? = some (.val (.ref q)) := hl.2.2 (0, .ref q) (by simp [lv_args, Value.category])
  refine lv_aload_n hx hb sd_len_0 rfl h0 ?_
  refine vk_getf hx hb hO.2.2.1 hS hown (hts _ (sWL (i := 2243) (by decide +kernel))) (fun _ h => h) sd_len_1 ?_
  refine va_tlen hx hb hO.2.2.2 hS rfl sd_len_4 ?_
  refine lv_aload_n hx hb sd_len_5 rfl h0 ?_
  refine sw_V (As := []) (v := some (.int 0)) (n := 0) (A := sA9 s.heap.size) S (fun _ h => h) hC hO hS sw_coder ⟨rfl, rfl⟩ (sWL (i := 498) (by decide +kernel)) (sWL (i := 499) (by decide +kernel)) (sWL (i := 500) (by decide +kernel)) (sWL (i := 135) (by decide +kernel)) (sWL (i := 501) (by decide +kernel)) rfl (by decide) rfl (by decide) ⟨Nat.le_refl _, Nat.le_refl _⟩ hl.1 (by show 1 + 0 ≤ 8; omega) sd_len_6 (fun H1 locs1 _ _ hS1 => ?_)
  refine lv_ishr hx hb sd_len_9 ?_
  refine vx_ret ?_
  exact W.zret hx hb (B.returns.trans rfl) (rfl) (fun t ht _ => ⟨rfl, hS1.F ht⟩) hS1.2.2 sd_len_10
theorem sd_ck0_0 : decode cJ0_checkIndex_df160 0 = .ok (.iload_n 0, 1) := by decide +kernel
theorem sd_ck0_1 : decode cJ0_checkIndex_df160 1 = .ok (.iload_n 1, 1) := by decide +kernel
theorem sd_ck0_2 : decode cJ0_checkIndex_df160 2 = .ok (.getstatic 1053, 3) := by decide +kernel
theorem sd_ck0_5 : decode cJ0_checkIndex_df160 5 = .ok (.invokestatic 1059, 3) := by decide +kernel
theorem sd_ck0_8 : decode cJ0_checkIndex_df160 8 = .ok (.pop, 1) := by decide +kernel
theorem sd_ck0_9 : decode cJ0_checkIndex_df160 9 = .ok (.return_, 1) := by decide +kernel
theorem sw_ck0 {q t sz : Nat} {bs : List Int32} {i k : Int32} (hi : 0 ≤ i) (hk : i < k) : vx_Met l yJ0_checkIndex_df160 (Jvm.Cond.code yJ0_checkIndex_df160 cJ0_checkIndex_df160 2 none :: amWL) (sRm 1) (sP q t bs sz [.int i, .int k]) (sQ sz none) sX 0 0 (sA9 sz) := by
  refine am_ofW (cc := cJ0_checkIndex_df160) (maxL := 2) (ret := none) (hh := []) (by decide) rfl ?_
  intro p e s m args below meth c s₁ B hml htab hv
  obtain ⟨rfl, rfl, hC, hO⟩ := hv
  have hpre := atoms_spec B.pre
  have hts : ∀ w ∈ amWL, w.before ([.int i, .int k] : List Value).toArray s = true := fun w hw => hpre w (List.mem_cons_of_mem _ hw)
  have hx := B.exec
  have hb := B.bytes
  have hown : s.vm.findClass RJ0 = some m.cls := findClass_of_methodNamed B.named
  have hS : va_S (sA9 s.heap.size) s.heap s.heap [] := va_S.rf
  have S : CallFix p m c cJ0_checkIndex_df160 2 s ([.int i, .int k] : List Value).toArray amWL RJ0 := ⟨hx, hb, hml, hown, hts⟩
  rw [lg_entry_eq]
  have hl := lv_entry ([.int i, .int k] : List Value) (n := 2) (by rw [am_sl_len]; exact Nat.le_refl _)
  generalize ((lg_sl ([.int i, .int k] : List Value) ++ List.replicate (2 - (lg_sl ([.int i, .int k] : List Value)).length) Slot.unset).toArray) = lsA at hl ⊢
  have h0 : lsA[0]? = some (.val (.int i)) := hl.2.2 (0, .int i) (by simp [lv_args, Value.category])
  have h1 : lsA[1]? = some (.val (.int k)) := hl.2.2 (1, .int k) (by simp [lv_args, Value.category])
  refine lv_iload_n hx hb sd_ck0_0 rfl h0 ?_
  refine lv_iload_n hx hb sd_ck0_1 rfl h1 ?_
  have go : ∀ f : Value, f.category = 1 → W p l e (headSpec (Jvm.Cond.code yJ0_checkIndex_df160 cJ0_checkIndex_df160 2 none :: amWL) (sRm 1)).room s m ([.int i, .int k] : List Value).toArray below meth c s.heap [] 0 0 (vx_MQ below (sQ s.heap.size none) sX ([.int i, .int k] : List Value).toArray s 0 0 (sA9 s.heap.size)) (F0 m 5 lsA [f, .int k, .int i]) := by
    intro f hf
    refine sw_S (As := [.int i, .int k, f]) (rest := []) (v := some (.int i)) (n := 3) (A := sA9 s.heap.size) S (fun _ h => h) hC hO hS (sw_ck3 hi hk hf) ⟨rfl, rfl⟩ (sWL (i := 520) (by decide +kernel)) (sWL (i := 521) (by decide +kernel)) (sWL (i := 137) (by decide +kernel)) (sWL (i := 522) (by decide +kernel)) (by decide) rfl (by decide) ⟨Nat.le_refl _, Nat.le_refl _⟩ hl.1 (by decide) sd_ck0_5 (fun H1 locs1 _ _ hS1 => ?_)
    refine lv_pop hx hb sd_ck0_8 rfl ?_
    refine vx_ret ?_
    exact W.vret hx hb (B.returns.trans rfl) (fun t ht _ => ⟨rfl, hS1.F ht⟩) hS1.2.2 sd_ck0_9
  rcases hC.2 with hz | ⟨u, hz⟩
  · exact va_gets hx hb hz hS hown (hts _ (sWL (i := 518) (by decide +kernel))) (fun _ h => h) sd_ck0_2 (go .null rfl)
  · exact va_gets hx hb hz hS hown (hts _ (sWL (i := 518) (by decide +kernel))) (fun _ h => h) sd_ck0_2 (go (.ref u) rfl)
noncomputable def sZ (b : Int32) : Int32 := ((b &&& (Int16.ofInt 255).toInt32).toUInt32 % 65536).toInt32
theorem sd_chr1_0 : decode cJ1_charAt_3b067 0 = .ok (.iload_n 1, 1) := by decide +kernel
theorem sd_chr1_1 : decode cJ1_charAt_3b067 1 = .ok (.aload_n 0, 1) := by decide +kernel
theorem sd_chr1_2 : decode cJ1_charAt_3b067 2 = .ok (.arraylength, 1) := by decide +kernel
theorem sd_chr1_3 : decode cJ1_charAt_3b067 3 = .ok (.invokestatic 9, 3) := by decide +kernel
theorem sd_chr1_6 : decode cJ1_charAt_3b067 6 = .ok (.aload_n 0, 1) := by decide +kernel
theorem sd_chr1_7 : decode cJ1_charAt_3b067 7 = .ok (.iload_n 1, 1) := by decide +kernel
theorem sd_chr1_8 : decode cJ1_charAt_3b067 8 = .ok (.baload, 1) := by decide +kernel
theorem sd_chr1_9 : decode cJ1_charAt_3b067 9 = .ok (.sipush 255, 3) := by decide +kernel
theorem sd_chr1_12 : decode cJ1_charAt_3b067 12 = .ok (.iand, 1) := by decide +kernel
theorem sd_chr1_13 : decode cJ1_charAt_3b067 13 = .ok (.i2c, 1) := by decide +kernel
theorem sd_chr1_14 : decode cJ1_charAt_3b067 14 = .ok (.ireturn, 1) := by decide +kernel
theorem sw_chr1 {q t sz : Nat} {bs : List Int32} {i : Int32} (hi : 0 ≤ i) (hk : i < Int32.ofNat bs.length) (hin : vp_in i bs.length) (hz : narrow .char (.int (sZ (bs.getD i.toNatClampNeg 0))) = .int (sZ (bs.getD i.toNatClampNeg 0))) : vx_Met l yJ1_charAt_3b067 (Jvm.Cond.code yJ1_charAt_3b067 cJ1_charAt_3b067 2 (some .char) :: amWL) (sRm 2) (sP q t bs sz [.ref t, .int i]) (sQ sz (some (.int (sZ (bs.getD i.toNatClampNeg 0))))) sX 0 0 (sA9 sz) := by
  refine am_ofW (cc := cJ1_charAt_3b067) (maxL := 2) (ret := (some .char)) (hh := []) (by decide) rfl ?_
  intro p e s m args below meth c s₁ B hml htab hv
  obtain ⟨rfl, rfl, hC, hO⟩ := hv
  have hpre := atoms_spec B.pre
  have hts : ∀ w ∈ amWL, w.before ([.ref t, .int i] : List Value).toArray s = true := fun w hw => hpre w (List.mem_cons_of_mem _ hw)
  have hx := B.exec
  have hb := B.bytes
  have hown : s.vm.findClass RJ1 = some m.cls := findClass_of_methodNamed B.named
  have hS : va_S (sA9 s.heap.size) s.heap s.heap [] := va_S.rf
  have S : CallFix p m c cJ1_charAt_3b067 2 s ([.ref t, .int i] : List Value).toArray amWL RJ1 := ⟨hx, hb, hml, hown, hts⟩
  rw [lg_entry_eq]
  have hl := lv_entry ([.ref t, .int i] : List Value) (n := 2) (by rw [am_sl_len]; exact Nat.le_refl _)
  generalize ((lg_sl ([.ref t, .int i] : List Value) ++ List.replicate (2 - (lg_sl ([.ref t, .int i] : List Value)).length) Slot.unset).toArray) = lsA at hl ⊢
  have h0 : lsA[0]? = some (.val (.ref t)) := hl.2.2 (0, .ref t) (by simp [lv_args, Value.category])
  have h1 : lsA[1]? = some (.val (.int i)) := hl.2.2 (1, .int i) (by simp [lv_args, Value.category])
  refine lv_iload_n hx hb sd_chr1_0 rfl h1 ?_
  refine lv_aload_n hx hb sd_chr1_1 rfl h0 ?_
  refine va_tlen hx hb hO.2.2.2 hS rfl sd_chr1_2 ?_
  refine sw_S (As := [.int i, .int (Int32.ofNat bs.length)]) (rest := []) (v := none) (n := 2) (A := sA9 s.heap.size) S (fun _ h => h) hC hO hS (sw_ck0 hi hk) ⟨rfl, rfl⟩ (sWL (i := 515) (by decide +kernel)) (sWL (i := 516) (by decide +kernel)) (sWL (i := 135) (by decide +kernel)) (sWL (i := 517) (by decide +kernel)) (by decide) rfl (by decide) ⟨Nat.le_refl _, Nat.le_refl _⟩ hl.1 (by decide) sd_chr1_3 (fun H1 locs1 _ _ hS1 => ?_)
  refine lv_aload_n hx hb sd_chr1_6 rfl h0 ?_
  refine lv_iload_n hx hb sd_chr1_7 rfl h1 ?_
  refine va_tb hx hb hO.2.2.2 hS1 hin rfl sd_chr1_8 ?_
  refine lv_sipush hx hb sd_chr1_9 rfl ?_
  refine lv_iand hx hb sd_chr1_12 ?_
  refine lv_i2c hx hb sd_chr1_13 rfl ?_
  refine vx_ret ?_
  exact W.zret hx hb (B.returns.trans rfl) (hz) (fun t ht _ => ⟨rfl, hS1.F ht⟩) hS1.2.2 sd_chr1_14
theorem sd_chr_0 : decode cJ0_charAt_5068e 0 = .ok (.aload_n 0, 1) := by decide +kernel
theorem sd_chr_1 : decode cJ0_charAt_5068e 1 = .ok (.invokevirtual 492, 3) := by decide +kernel
theorem sd_chr_4 : decode cJ0_charAt_5068e 4 = .ok (.ifCond .eq 12, 3) := by decide +kernel
theorem sd_chr_7 : decode cJ0_charAt_5068e 7 = .ok (.aload_n 0, 1) := by decide +kernel
theorem sd_chr_8 : decode cJ0_charAt_5068e 8 = .ok (.getfield 9, 3) := by decide +kernel
theorem sd_chr_11 : decode cJ0_charAt_5068e 11 = .ok (.iload_n 1, 1) := by decide +kernel
theorem sd_chr_12 : decode cJ0_charAt_5068e 12 = .ok (.invokestatic 495, 3) := by decide +kernel
theorem sd_chr_15 : decode cJ0_charAt_5068e 15 = .ok (.ireturn, 1) := by decide +kernel
theorem sw_chr {q t sz : Nat} {bs : List Int32} {i : Int32} (hi : 0 ≤ i) (hk : i < Int32.ofNat bs.length) (hin : vp_in i bs.length) (hz : narrow .char (.int (sZ (bs.getD i.toNatClampNeg 0))) = .int (sZ (bs.getD i.toNatClampNeg 0))) : vx_Met l yJ0_charAt_5068e (Jvm.Cond.code yJ0_charAt_5068e cJ0_charAt_5068e 2 (some .char) :: amWL) (sRm 3) (sP q t bs sz [.ref q, .int i]) (sQ sz (some (.int (sZ (bs.getD i.toNatClampNeg 0))))) sX 0 0 (sA9 sz) := by
  refine am_ofW (cc := cJ0_charAt_5068e) (maxL := 2) (ret := (some .char)) (hh := []) (by decide) rfl ?_
  intro p e s m args below meth c s₁ B hml htab hv
  obtain ⟨rfl, rfl, hC, hO⟩ := hv
  have hpre := atoms_spec B.pre
  have hts : ∀ w ∈ amWL, w.before ([.ref q, .int i] : List Value).toArray s = true := fun w hw => hpre w (List.mem_cons_of_mem _ hw)
  have hx := B.exec
  have hb := B.bytes
  have hown : s.vm.findClass RJ0 = some m.cls := findClass_of_methodNamed B.named
  have hS : va_S (sA9 s.heap.size) s.heap s.heap [] := va_S.rf
  have S : CallFix p m c cJ0_charAt_5068e 2 s ([.ref q, .int i] : List Value).toArray amWL RJ0 := ⟨hx, hb, hml, hown, hts⟩
  rw [lg_entry_eq]
  have hl := lv_entry ([.ref q, .int i] : List Value) (n := 2) (by rw [am_sl_len]; exact Nat.le_refl _)
  generalize ((lg_sl ([.ref q, .int i] : List Value) ++ List.replicate (2 - (lg_sl ([.ref q, .int i] : List Value)).length) Slot.unset).toArray) = lsA at hl ⊢
  have h0 : lsA[0]? = some (.val (.ref q)) := hl.2.2 (0, .ref q) (by simp [lv_args, Value.category])
  have h1 : lsA[1]? = some (.val (.int i)) := hl.2.2 (1, .int i) (by simp [lv_args, Value.category])
  refine lv_aload_n hx hb sd_chr_0 rfl h0 ?_
  refine sw_V (As := []) (rest := []) (v := some (.int 1)) (n := 0) (A := sA9 s.heap.size) S (fun _ h => h) hC hO hS sw_lat ⟨rfl, rfl⟩ (sWL (i := 508) (by decide +kernel)) (sWL (i := 509) (by decide +kernel)) (sWL (i := 510) (by decide +kernel)) (sWL (i := 135) (by decide +kernel)) (sWL (i := 511) (by decide +kernel)) rfl (by decide) rfl (by decide) ⟨Nat.le_refl _, Nat.le_refl _⟩ hl.1 (by decide) sd_chr_1 (fun H1 locs1 _ _ hS1 => ?_)
  refine lv_if_eq hx hb sd_chr_4 (tgt := 16) (by decide) (fun z => by cases z) (fun _ => ?_)
  refine lv_aload_n hx hb sd_chr_7 rfl h0 ?_
  refine vk_getf hx hb hO.2.2.1 hS1 hown (hts _ (sWL (i := 2243) (by decide +kernel))) (fun _ h => h) sd_chr_8 ?_
  refine lv_iload_n hx hb sd_chr_11 rfl h1 ?_
  refine sw_S (As := [.ref t, .int i]) (rest := []) (v := some (.int (sZ (bs.getD i.toNatClampNeg 0)))) (n := 2) (A := sA9 s.heap.size) S (fun _ h => h) hC hO hS1 (sw_chr1 hi hk hin hz) ⟨rfl, rfl⟩ (sWL (i := 512) (by decide +kernel)) (sWL (i := 513) (by decide +kernel)) (sWL (i := 136) (by decide +kernel)) (sWL (i := 514) (by decide +kernel)) (by decide) rfl (by decide) ⟨Nat.le_refl _, Nat.le_refl _⟩ hl.1 (by decide) sd_chr_12 (fun H2 locs2 _ _ hS2 => ?_)
  refine vx_ret ?_
  exact W.zret hx hb (B.returns.trans rfl) (hz) (fun t ht _ => ⟨rfl, hS2.F ht⟩) hS2.2.2 sd_chr_15
end SW3
section SW4
variable {p : Program} {l : Launch} {e : Env} {R : Room} {s : State} {m : MethodId} {args : Array Value} {below : List Frame} {meth : Method} {c : Code} {H : Heap} {locs : List Loc} {cells slots : Nat} {Q : State → Prop}
variable {cc : ByteArray} {nL : Nat} {own : String} {A : Nat → Prop}
theorem sSl : ∀ q ∈ amSl, Int32.ofNat q.2.length >>> (0 &&& 31) = Int32.ofNat q.2.length ∧ q.2.length ≤ 100 ∧ ∀ b ∈ q.2, narrow .char (.int (sZ b)) = .int (sZ b) ∧ sZ b = b := by decide +kernel
/-- String.length of a word -/
theorem sw_lenW (S : CallFix p m c cc nL s args amWL own) (hfA : ∀ q, s.heap.size ≤ q → A q) {q t : Nat} {bs : List Int32} (hC : sC A s s.heap) (hB : sB q t bs A s s.heap) (hS : va_S A s.heap H locs) {k idx pc : Nat} (hk : (k, bs) ∈ amSl) {rest : List Value} {lsA : Array Slot}
    (w1 : Jvm.Cond.methodLink own idx yJ0_length_8abf5 ∈ amWL) (hR : 8 ≤ R.frames ∧ 128 ≤ R.locals) (hroom : cells ≤ R.cells ∧ slots ≤ R.slots) (hsz : lsA.size = nL) (hw : (rest.map fun v => v.category).sum ≤ 8) (hdg : decode cc pc = .ok (.invokevirtual idx, 3))
    (kk : ∀ (H1 : Heap) (locs1 : List Loc), H.size ≤ H1.size → (∀ q : Nat, q < H.size → H1[q]? = H[q]?) → va_S A s.heap H1 locs1 → W p l e R s m args below meth c H1 locs1 cells slots Q (F0 m (pc + 3) lsA (.int (Int32.ofNat bs.length) :: rest))) :
    W p l e R s m args below meth c H locs cells slots Q (F0 m pc lsA (.ref q :: rest)) := by
  refine sw_V (As := []) (rest := rest) (v := some (.int (Int32.ofNat bs.length >>> (0 &&& 31)))) (n := 0) S hfA hC hB hS sw_len ⟨rfl, rfl⟩ w1 (sWL (i := 495) (by decide +kernel)) (sWL (i := 496) (by decide +kernel)) (sWL (i := 135) (by decide +kernel)) (sWL (i := 497) (by decide +kernel)) rfl (by decide) rfl ⟨?_, ?_⟩ hroom hsz hw hdg (fun H1 locs1 h1 h2 h3 => ?_)
  · show 1 + 1 ≤ _
    omega
  · show 8 + (1 + 11) + 32 * 1 ≤ _
    omega
  · rw [(sSl _ hk).1]
    exact kk H1 locs1 h1 h2 h3
/-- String.charAt of a word -/
theorem sw_chrW (S : CallFix p m c cc nL s args amWL own) (hfA : ∀ q, s.heap.size ≤ q → A q) {q t : Nat} {bs : List Int32} (hC : sC A s s.heap) (hB : sB q t bs A s s.heap) (hS : va_S A s.heap H locs) {k idx pc : Nat} (hk : (k, bs) ∈ amSl) {i : Int32} (hin : vp_in i bs.length) {rest : List Value} {lsA : Array Slot}
    (w1 : Jvm.Cond.methodLink own idx yJ0_charAt_5068e ∈ amWL) (hR : 8 ≤ R.frames ∧ 128 ≤ R.locals) (hroom : cells ≤ R.cells ∧ slots ≤ R.slots) (hsz : lsA.size = nL) (hw : (rest.map fun v => v.category).sum ≤ 8) (hdg : decode cc pc = .ok (.invokevirtual idx, 3))
    (kk : ∀ (H1 : Heap) (locs1 : List Loc), H.size ≤ H1.size → (∀ q : Nat, q < H.size → H1[q]? = H[q]?) → va_S A s.heap H1 locs1 → W p l e R s m args below meth c H1 locs1 cells slots Q (F0 m (pc + 3) lsA (.int (bs.getD i.toNatClampNeg 0) :: rest))) :
    W p l e R s m args below meth c H locs cells slots Q (F0 m pc lsA (.int i :: .ref q :: rest)) := by
  obtain ⟨g1, g2, g3⟩ := sSl _ hk
  dsimp only at g2 g3
  have hi : ¬ i < 0 := fun z => hin (Or.inl z)
  have hlt : i.toNatClampNeg < bs.length := Nat.not_le.mp fun z => hin (Or.inr z)
  have hmem : bs.getD i.toNatClampNeg 0 ∈ bs := by
    rw [List.getD_eq_getElem?_getD, List.getElem?_eq_getElem hlt]
    exact List.getElem_mem hlt
  obtain ⟨g4, g5⟩ := g3 _ hmem
  have hi0 : 0 ≤ i := Int32.not_lt.mp hi
  have hik : i < Int32.ofNat bs.length := by
    rw [Int32.lt_iff_toInt_lt]
    have h1 : (i.toNatClampNeg : Int) = i.toInt := by
      have : i.toNatClampNeg = i.toInt.toNat := rfl
      have := Int32.le_iff_toInt_le.mp hi0
      have z0 : (0 : Int32).toInt = 0 := by decide
      omega
    have h2 : (Int32.ofNat bs.length).toInt = (bs.length : Int) := Int32.toInt_ofNat_of_lt (by omega)
    omega
  refine sw_V (As := [.int i]) (rest := rest) (v := some (.int (sZ (bs.getD i.toNatClampNeg 0)))) (n := 1) S hfA hC hB hS (sw_chr hi0 hik hin g4) ⟨rfl, rfl⟩ w1 (sWL (i := 505) (by decide +kernel)) (sWL (i := 506) (by decide +kernel)) (sWL (i := 135) (by decide +kernel)) (sWL (i := 507) (by decide +kernel)) rfl (by decide) rfl ⟨?_, ?_⟩ hroom hsz hw hdg (fun H1 locs1 h1 h2 h3 => ?_)
  · show 3 + 1 ≤ _
    omega
  · show 8 + (2 + 11) + 32 * 3 ≤ _
    omega
  · rw [g5]
    exact kk H1 locs1 h1 h2 h3
end SW4
end
/-! ##### 05x.throw ##### -/
section
/-! ===== a throw of an exception whose constructor links its super's at a place of its own (NoSuchElementException).
The two theorems follow proofs of the library and of the kit (ctorThrowS, vx_throwS): what differs is the first link of the chain. ===== -/
abbrev amNS : String := "java/util/NoSuchElementException"
abbrev amRE : String := "java/lang/RuntimeException"
abbrev am_rx : ByteArray := prog_33_method_4_code
theorem am_rx0 : decode am_rx 0 = .ok (.aload_n 0, 1) := by decide +kernel
theorem am_rx1 : decode am_rx 1 = .ok (.aload_n 1, 1) := by decide +kernel
theorem am_rx2 : decode am_rx 2 = .ok (.invokespecial 13, 3) := by decide +kernel
theorem am_rx5 : decode am_rx 5 = .ok (.return_, 1) := by decide +kernel
/-- the tail of the library's list, which doesn't speak of the chain -/
noncomputable def am_nt : List Jvm.Cond := (Bundle.ownAtoms "TripleTrains" 283 amNS []).drop (Bundle.throwableAtoms.length + Bundle.throwableSAtoms.length + 5)
noncomputable def am_nw : List Jvm.Cond := Bundle.throwableAtoms ++ Bundle.throwableSAtoms ++ Bundle.passSAtoms amNS amRE 13 am_rx ++ Bundle.chainSAtoms amRE ["java/lang/Exception"] ++ am_nt
theorem am_nFit : Bundle.fit amNS = true ∧ Bundle.fit amRE = true ∧ ∀ n ∈ ["java/lang/Exception"], Bundle.fit n = true := by decide +kernel
section AMN
variable {p : Program} {l : Launch} {e : Env} {R : Room} {s : State} {m₀ : MethodId} {args : Array Value} {below : List Frame} {meth : Method} {c : Code} {W : State} {locs : List Loc} {cells slots : Nat}
set_option maxHeartbeats 4000000 in
theorem am_ctorN (X : Stand p l e R s m₀ args below meth c W locs cells slots) (hexec : p.tables.exec = Jvm.exec) (htr : e.platform.stackTraces = false)
    (hown : s.vm.findClass "TripleTrains" = some m₀.cls) (h : ∀ a ∈ am_nw, a.before args s = true)
    (hlocs : ∀ x ∈ locs, ∀ cell, s.heap[x.base]? = some cell → cell.vm.isStatics = false)
    {a : Addr} {cX : ClassId} {kX : Class} (hfoundX : s.vm.findClass amNS = some cX) (hkX : s.vm.classes[cX]? = some kX) (hcell : W.heap[a]? = some (freshCell cX kX)) (hnew : s.heap.size ≤ a)
    {msg : Value} (hmsg : msg.isRef = true)
    {g : JFrame} (hg : g.method = m₀) (hsize : g.locals.size = c.maxLocals) (hlocked : g.locked = none) (hentered : g.entered = []) {rest : List Value} (hstack : g.stack = msg :: .ref a :: .ref a :: rest)
    (hd6 : decode c.code g.pc = .ok (.invokespecial 283, 3)) (hd9 : decode c.code (g.pc + 3) = .ok (.athrow, 1)) (hout : ∀ x ∈ c.exceptionTable.toList, covers x (g.pc + 3) = false)
    (hRframes : 5 < R.frames) (hRlocals : 2 * g.monitorRoom + ((Value.ref a :: rest).map fun v => v.category).sum + 81 ≤ R.locals) (hlocks : meth.locks = false) :
    ∃ U : State, Steps p.tables e below (W.setTop g) U ∧ U.status = .running ∧ Ended U below (.threw a) ∧ s.WarmedH U.vm ∧ s.sameButNew ({ U with vm := s.vm } : State) locs cells slots ∧
      ∃ ce, U.heap[a]? = some ce ∧ s.vm.findClass amNS = some ce.cls ∧ ce.vm = .none := by
  have howns : e.platform.frameOwnsMonitors = true := by rw [X.admits.platform]
  have hfin : e.platform.finalization = false := by rw [X.admits.platform]
  have hpl : e.platform.magicAccessors = ({} : Platform).magicAccessors := by rw [X.admits.platform]
  have a' : ∀ x, x ∈ am_nw → x.holds args s none s [] = true := fun x hx => h x hx
  obtain ⟨T, Z0, L, -, Y⟩ := ThrowableC.of_atoms (args := args) howns hfin hpl (fun x hx => h x (by simp [am_nw, hx]))
  obtain ⟨Z, M, LZ, LM, hnZ⟩ := Init0T.ofS_atoms (args := args) hpl L Y (fun x hx => h x (by simp [am_nw, hx]))
  obtain ⟨P1, L1, hP1m, hs1⟩ := PassC.ofS_atoms (args := args) (s := s) hpl (X := amNS) (Y := amRE) (Bundle.fit_spec am_nFit.1).1 (Bundle.fit_spec am_nFit.2.1).2 am_rx0 am_rx1 am_rx2 am_rx5 (fun x hx => h x (by simp only [am_nw, List.mem_append]; exact Or.inl (Or.inl (Or.inr hx))))
  obtain ⟨P2, Ps, hlen, L2, hL, hP2m, hlink1, hlink⟩ := Bundle.chainS (args := args) hpl hnZ ["java/lang/Exception"] amRE am_nFit.2.1 am_nFit.2.2 (fun x hx => h x (by simp only [am_nw, List.mem_append]; exact Or.inl (Or.inr hx)))
  have hfound : s.vm.findClass amNS = some P1.m.cls := findClass_of_methodNamed hP1m
  cases Option.some.inj (hfoundX.symm.trans hfound)
  obtain ⟨c1, kX', hc1, hk, hord, -, -, hn6⟩ := Cond.instantiable_spec (a' (.instantiable amNS 6) (by decide +kernel))
  cases Option.some.inj (hc1.symm.trans hfound)
  cases Option.some.inj (hkX.symm.trans hk)
  have hsel0 : selectMethod e.platform s.vm P1.m.cls T.fill0 = .method T.fill0 := by
    obtain ⟨c2, r2, m2, q1, q2, q3, q4, -⟩ := Cond.selects_spec (a' (.selects amNS Bundle.tFill0 Bundle.tFill0) (by decide +kernel))
    cases Option.some.inj (q1.symm.trans hfound)
    cases Option.some.inj (q2.symm.trans (State.methodFound?_of_named Y.fill0 (by decide)))
    cases Option.some.inj (q3.symm.trans Y.fill0)
    rw [Launch.admits_selectMethod X.admits]; exact q4
  have hselF : selectMethod e.platform s.vm P1.m.cls T.fill = .method T.fill := by
    obtain ⟨c2, r2, m2, q1, q2, q3, q4, -⟩ := Cond.selects_spec (a' (.selects amNS Bundle.tFill Bundle.tFill) (by decide +kernel))
    cases Option.some.inj (q1.symm.trans hfound)
    cases Option.some.inj (q2.symm.trans (State.methodFound?_of_named Y.fill (by decide)))
    cases Option.some.inj (q3.symm.trans Y.fill)
    rw [Launch.admits_selectMethod X.admits]; exact q4
  obtain ⟨cellS0, hcS0, hiss⟩ := Y.statics
  obtain ⟨u0, hu0⟩ := Cond.staticRefV Y.unassigned L.unassignedStatic L.statics hcS0 hiss (a' (.isRef (.static Bundle.tN "UNASSIGNED_STACK" Bundle.steD)) (by decide +kernel))
  obtain ⟨sen, hsen⟩ := Cond.staticRefV Y.sentinel L.sentinelStatic L.statics hcS0 hiss (a' (.isRef (.static Bundle.tN "SUPPRESSED_SENTINEL" Bundle.listD)) (by decide +kernel))
  obtain ⟨ci198, i198, fB, hk198, hg198, ha198, hsB, -, hnB, htB, hffB⟩ := Cond.ownField (t := .object "java/lang/Object") Y.found L.cls (by decide +kernel) (a' (.fieldLink Bundle.tN 198 Bundle.tN "backtrace" "Ljava/lang/Object;") (by decide +kernel)) (a' (.lays Bundle.tN Bundle.tN "backtrace" "Ljava/lang/Object;") (by decide +kernel)) e.platform hpl
  obtain ⟨cellS, hcS', heS, -, hkeep⟩ := X.same.2.2.2.2.2 T.aS cellS0 hcS0
  have hcellS : W.heap[T.aS]? = some cellS := hcS'
  have hout' : ∀ i, (⟨T.aS, i⟩ : Loc) ∉ locs := fun i hmem => by
    have := hlocs _ hmem cellS0 hcS0
    rw [hiss] at this; cases this
  have hknownS : cellS.vm ≠ .unknown := by
    rw [heS]; intro hu
    rw [show cellS0.vm = .unknown from hu] at hiss
    cases hiss
  have hneS : T.aS ≠ a := Nat.ne_of_lt (Nat.lt_of_lt_of_le (Array.getElem?_eq_some_iff.mp hcS0).1 hnew)
  obtain ⟨iM, hffM⟩ := Y.msg
  obtain ⟨tyC, dC, hdC, hdnC⟩ := Cond.laysAt hfound hk Y.cause (a' (.lays amNS Bundle.tN "cause" "Ljava/lang/Throwable;") (by decide +kernel))
  obtain ⟨tyS, dS, hdS, hdnS⟩ := Cond.laysAt hfound hk Y.stack (a' (.lays amNS Bundle.tN "stackTrace" Bundle.steD) (by decide +kernel))
  obtain ⟨tyP, dP, hdP, hdnP⟩ := Cond.laysAt hfound hk Y.supp (a' (.lays amNS Bundle.tN "suppressedExceptions" Bundle.listD) (by decide +kernel))
  obtain ⟨tyM, dM, hdM, hdnM⟩ := Cond.laysAt hfound hk hffM (a' (.lays amNS Bundle.tN "detailMessage" "Ljava/lang/String;") (by decide +kernel))
  obtain ⟨tyB, dB, hdB, hdnB⟩ := Cond.laysAt hfound hk hffB (a' (.lays amNS Bundle.tN "backtrace" "Ljava/lang/Object;") (by decide +kernel))
  have bC := Cond.laysApart hdB hdC hdnB hdnC (by rw [hnB, Y.causeName]; decide)
  have bS := Cond.laysApart hdB hdS hdnB hdnS (by rw [hnB, Y.stackName]; decide)
  have bP := Cond.laysApart hdB hdP hdnB hdnP (by rw [hnB, Y.suppName]; decide)
  have hskip : SkipFacts T e.platform s (fun u => u) u0 ((preparedCellV T.toThrowableT (freshCell P1.m.cls kX) a u0 sen).withEntry W.cur) :=
    ⟨{ ci198 := ci198, i198 := i198, fBack := fB }, ⟨hk198, hg198, ha198, hsB⟩, by
      have := fresh_default (c := P1.m.cls) tyB
      rw [htB] at this
      simpa [preparedCellV, Cell.setSlot, Cell.withEntry, Array.getElem?_setIfInBounds, bC, bS, bP, bC.symm, bS.symm, bP.symm, defaultValue] using this, fun _ _ => rfl⟩
  obtain ⟨tm, methC, cdC, kC, vm₁, hnC, -, -, -, -, -, -, -, hW₁, st1⟩ := Steps.initColdS (tb := p.tables) (e := e) (below := below) (s := s) (U := W) X.here hexec X.warmed hpl hown (t := Bundle.initS amNS) rfl rfl (Bundle.fit_spec am_nFit.1).2
    (a' (.methodLink "TripleTrains" 283 (Bundle.initS amNS)) (by decide +kernel)) (h (.instanceMethod (Bundle.initS amNS)) (by decide +kernel)) (bytes := am_rx) (maxL := 2) (h (.code (Bundle.initS amNS) am_rx 2 none) (by decide +kernel))
    (f := g) hg (a := a) (msg := msg) (rest := .ref a :: rest) hstack hd6
  cases Option.some.inj (hnC.symm.trans hP1m)
  have X₁ := X.noted hW₁
  have hsup : P1.sup = P2.m := Option.some.inj (hs1.symm.trans hP2m)
  obtain ⟨vm₂, X₂, st2⟩ := X₁.ctorMessageOffV hexec (g := { g with stack := .ref a :: rest }) hg hsize T L Z LZ M LM (P1 :: P2 :: Ps)
    (fun P hP => by
      rcases List.mem_cons.mp hP with rfl | hP
      · exact L1
      · rcases List.mem_cons.mp hP with rfl | hP
        · exact L2
        · exact hL P hP) ⟨hsup, hlink1, hlink⟩ (u0 := u0) (sen := sen) (self := a) hmsg (cell := freshCell P1.m.cls kX) (cellS := cellS)
    hcell (fun _ => by simp) (by simp) rfl rfl hsel0 hselF hcellS hneS hknownS (by rw [hkeep _ (hout' _)]; exact hu0) (by rw [hkeep _ (hout' _)]; exact hsen)
    (Takes.of_laid hk hord tyC (by rw [Y.causeType]; rfl)) (Takes.of_laid hk hord tyS (by rw [Y.stackType]; exact fits_refV_array _ u0)) (Takes.of_laid hk hord tyP (by rw [Y.suppType]; exact fits_refV_object _ sen))
    (Takes.of_laid hk hord tyM (by rw [Y.msgType]; exact fits_refV_object _ ⟨msg, hmsg⟩)) Y.objLocals hskip htr [] hd6
    (by simp only [List.length_cons, hlen, List.length_nil]; omega) (by simp only [List.length_cons, hlen, List.length_nil]; exact hRlocals)
  obtain ⟨hwalk, hrun, hended, hWU, hsame⟩ := X₂.athrowLeaves hexec (g := { g with stack := .ref a :: rest, pc := g.pc + 3 }) hg hlocked hentered hout (a := a) (rest := rest) rfl hd9
  have hlt : a < ((W.setVm vm₁).setVm vm₂).heap.size := (Array.getElem?_eq_some_iff.mp hcell).1
  have hU := heapAt_setCell_self (s := (W.setVm vm₁).setVm vm₂) (plainBareV T.toThrowableT (freshCell P1.m.cls kX) a u0 sen msg) hlt
  refine ⟨_, st1 _ (fun acts => ?_), hrun, hended, hWU, hsame.weaken (fun y hy hlt' => ?_) (Nat.le_refl _) (Nat.le_refl _), _, hU, hfound, rfl⟩
  · rw [doInvoke_state]
    exact st2 _ hwalk
  · rcases List.mem_append.mp hy with h1 | h1
    · exact h1
    · exfalso
      have hb : y.base = a := by
        simp only [List.mem_cons, List.not_mem_nil, or_false] at h1
        rcases h1 with rfl | rfl | rfl | rfl | rfl <;> rfl
      rw [hb] at hlt'
      exact Nat.not_lt.mpr hnew hlt'
end AMN
section AMN2
variable {p : Program} {l : Launch} {e : Env} {R : Room} {s : State} {m : MethodId} {args : Array Value} {below : List Frame} {meth : Method} {c : Code} {H : Heap} {locs : List Loc} {cells slots : Nat}
variable {free : Addr → Prop} {ls : Array Slot} {rest : List Value} {Qc : Array Value → State → Outcome → State → Prop} {XC : String → State → State → Prop}
set_option maxHeartbeats 4000000 in
theorem am_throwN {cc : ByteArray} {pc : Nat} (hexec : p.tables.exec = Jvm.exec) (hb : c.code = cc) (hl : l.stackTraces = false) {text : String} {ik is k mc ms sa : Nat} {A : Nat → Prop}
    (hown : s.vm.findClass "TripleTrains" = some m.cls)
    (hk : (Jvm.Cond.classLink "TripleTrains" ik amNS).before args s = true) (hini : (Jvm.Cond.initialized amNS).before args s = true) (hstr : vk_R "TripleTrains" is text sa s) (hat : ∀ w ∈ am_nw.filter vx_no, w.before args s = true)
    (hgood : ∀ w ∈ am_nw.filter vx_no, vx_ot w = true)
    (hU : vx_Zq Bundle.tN "UNASSIGNED_STACK" Bundle.steD A s s.heap) (hN : vx_Zq Bundle.tN "SUPPRESSED_SENTINEL" Bundle.listD A s s.heap) (hS : va_S A s.heap H locs) (hsize : ls.size = c.maxLocals)
    (d0 : decode cc pc = .ok (.new ik, 3)) (d3 : decode cc (pc + 3) = .ok (.dup, 1)) (hld : (decode cc (pc + 4) = .ok (.ldc is, 2) ∧ k = 6) ∨ (decode cc (pc + 4) = .ok (.ldc_w is, 3) ∧ k = 7)) (d6 : decode cc (pc + k) = .ok (.invokespecial 283, 3)) (d9 : decode cc (pc + k + 3) = .ok (.athrow, 1))
    (hout : ∀ x ∈ c.exceptionTable.toList, covers x (pc + k + 3) = false)
    (hRframes : 5 < R.frames) (hRlocals : (rest.map fun v => v.category).sum + 82 ≤ R.locals) (hRcells : cells + 1 ≤ R.cells) (hRslots : slots + 6 ≤ R.slots) (hlocks : meth.locks = false)
    (hx : ∀ t : State, s.vm.Alike t.vm → H.size ≤ t.heap.size → (∀ q : Nat, q < H.size → t.heap[q]? = H[q]?) → XC amNS s t)
    (hf : ∀ z ∈ locs, free z.base) (hc : cells + 1 ≤ mc) (hs : slots + 6 ≤ ms) :
    W p l e R s m args below meth c H locs cells slots (vx_MQ below Qc XC args s mc ms free) (F0 m pc ls rest) := by
  intro T hT X
  have htr : e.platform.stackTraces = false := (show e.platform.stackTraces = l.stackTraces by rw [X.admits.platform]).trans hl
  have Y := vx_rebase X (R' := { frames := R.frames, locals := R.locals, cells := 1, slots := 6 }) (Nat.le_refl _) (Nat.le_refl _) hRcells hRslots
  obtain ⟨s', hA⟩ : ∃ z, z = (T.setVm s.vm).setFrames (.invoking m args :: below) := ⟨_, rfl⟩
  rw [← hA] at Y
  have hvm : s'.vm = s.vm := by rw [hA]; rfl
  have hhp : s'.heap = H := by rw [hA]; exact hT
  have hW0 : s.WarmedH s'.vm := by rw [hvm]; exact State.WarmedH.refl s
  have hat' : ∀ w ∈ am_nw.filter vx_no, w.before args s' = true := fun w hw => vx_ot_at hW0 hvm.symm (hgood w hw) (hat w hw)
  have hk' : (Jvm.Cond.classLink "TripleTrains" ik amNS).before args s' = true := vx_ot_at hW0 hvm.symm rfl hk
  have hini' : (Jvm.Cond.initialized amNS).before args s' = true := vx_ot_at hW0 hvm.symm rfl hini
  have hU' : vx_Zq Bundle.tN "UNASSIGNED_STACK" Bundle.steD A s' s'.heap := by rw [hhp]; exact vx_Zq.moved hW0.alike (hU.kept hS.2.1)
  have hN' : vx_Zq Bundle.tN "SUPPRESSED_SENTINEL" Bundle.listD A s' s'.heap := by rw [hhp]; exact vx_Zq.moved hW0.alike (hN.kept hS.2.1)
  have h : ∀ w ∈ am_nw, w.before args s' = true := vx_own hat' (vx_isRefq hU'.1) (vx_isRefq hN'.1) hU'.2.word hN'.2.word
  have hown' : s'.vm.findClass "TripleTrains" = some m.cls := by rw [hvm]; exact hown
  have hins : (Jvm.Cond.instantiable amNS 6).before args s' = true := h _ (by decide +kernel)
  obtain ⟨vm₁, cX, kX, hfX, hkX, -, -, X₁, st1⟩ := Y.newCold hexec (own := "TripleTrains") (C := amNS) (index := ik) (n := 6) hown' hk' hins hini'
    (g := F0 m pc ls rest) rfl (by rw [hb]; exact d0) (Nat.le_refl _) (Nat.le_refl _)
  generalize hT1 : (T.setVm vm₁).pushCell { cls := cX, slots := kX.instanceTypes.map defaultValue, vm := .none } = T1 at X₁ st1
  have hcat : (Value.ref T.heap.size).category = 1 := rfl
  have hcellA : T1.heap[T.heap.size]? = some (freshCell cX kX) := by rw [← hT1]; exact State.heap_pushCell_size _ _
  have d3' : decode c.code (pc + 3) = .ok (.dup, 1) := by rw [hb]; exact d3
  have hstr' : vk_R "TripleTrains" is text sa s' := vk_R.warm hW0 hstr
  obtain ⟨U, hsteps, hrun, hend, hW, hsame, ce, hce, hcl9, hv9⟩ := am_ctorN X₁ hexec htr hown' h (fun x hx => nomatch hx) hfX hkX hcellA (by rw [hhp, hT]; exact Nat.le_refl _) (msg := .ref sa) rfl
    (g := { method := m, pc := pc + k, locals := ls, stack := .ref sa :: .ref T.heap.size :: .ref T.heap.size :: rest, locked := none }) rfl hsize rfl rfl (rest := rest) rfl
    (by rw [hb]; exact d6) (by rw [hb]; exact d9) hout hRframes (by simp only [List.map_cons, List.sum_cons, hcat]; show 2 * 0 + _ + 81 ≤ R.locals; omega) hlocks
  obtain ⟨f1, f2⟩ := vx_frame hsame
  rw [hhp] at f1 f2
  have hWs : s.WarmedH U.vm := State.WarmedH.trans hW0 hW
  have hcl : s.vm.findClass amNS = some ce.cls := by
    rw [hvm] at hcl9
    exact hcl9
  have hall : s.sameButNew ({ U with vm := s.vm } : State) locs mc ms := by
    subst hA
    obtain ⟨e1, e2⟩ := hsame
    rw [State.setFrames_setFrames] at e1
    have h2 : (T.setVm s.vm).sameButNew ({ U with vm := s.vm } : State) [] (0 + 1) (0 + 6) := ⟨e1, e2⟩
    have h3 := X.same.trans h2
    rw [List.append_nil] at h3
    exact h3.mono hc hs
  refine ⟨U, ?_, .threw T.heap.size, hrun, hend, Or.inr ⟨T.heap.size, rfl, amNS, ce, locs, hx U hWs.alike f1 (fun q hq => f2 q hq (fun z hz => nomatch hz)), hce, hv9, hcl, hWs, hall, hf⟩⟩
  refine st1 _ ?_
  show Steps p.tables e below (T1.setTop { method := m, pc := pc + 3, locals := ls, stack := .ref T.heap.size :: rest, locked := none }) _
  jvm_step X₁.here [X₁.here.top, hexec, d3', Value.category]
  rcases hld with ⟨d4, rfl⟩ | ⟨d4, rfl⟩
  · exact X₁.ldcString hexec (own := "TripleTrains") (text := text) (index := is) (a := sa) hown' hstr'.1 hstr'.2
      (g := { method := m, pc := pc + 4, locals := ls, stack := .ref T.heap.size :: .ref T.heap.size :: rest, locked := none }) rfl (by rw [hb]; exact d4) _ hsteps
  · exact X₁.ldcStringW hexec (own := "TripleTrains") (text := text) (index := is) (a := sa) hown' hstr'.1 hstr'.2
      (g := { method := m, pc := pc + 4, locals := ls, stack := .ref T.heap.size :: .ref T.heap.size :: rest, locked := none }) rfl (by rw [hb]; exact d4) _ hsteps
end AMN2
noncomputable def yzAll : List Jvm.Cond → List Nat → Bool
  | [], _ => true
  | _ :: _, [] => false
  | w :: r, i :: l => decide (lw_tbl[i]? = some w) && yzAll r l
theorem yzAll_s : ∀ {L : List Jvm.Cond} {I : List Nat}, yzAll L I = true → ∀ w, w ∈ L → w ∈ lw_tbl
  | [], _, _, w, hw => by cases hw
  | _ :: _, [], h, _, _ => by cases h
  | v :: r, i :: l, h, w, hw => by
    obtain ⟨h1, h2⟩ := Bool.and_eq_true_iff.mp h
    rcases List.mem_cons.mp hw with e | e
    · rw [e]; exact List.mem_of_getElem? (of_decide_eq_true h1)
    · exact yzAll_s h2 w e
noncomputable def yzOk (w : Jvm.Cond) : Bool := vx_ot w && (goodWord w || (amNk w && decide (w.onTables = true)))
theorem yzOk_s {w : Jvm.Cond} (h : yzOk w = true) : vx_ot w = true ∧ (goodWord w = true ∨ (amNk w = true ∧ w.onTables = true)) := by
  obtain ⟨h1, h2⟩ := Bool.and_eq_true_iff.mp h
  refine ⟨h1, (Bool.or_eq_true_iff.mp h2).imp id (fun z => ?_)⟩
  obtain ⟨h3, h4⟩ := Bool.and_eq_true_iff.mp z
  exact ⟨h3, of_decide_eq_true h4⟩
theorem yzBoth {L : List Jvm.Cond} {I : List Nat} (h1 : L.all yzOk = true) (h2 : yzAll L I = true) : ∀ w ∈ L, vx_ot w = true ∧ w ∈ lw_tbl ∧ (goodWord w = true ∨ (amNk w = true ∧ w.onTables = true)) := fun w hw =>
  ⟨(yzOk_s (List.all_eq_true.mp h1 w hw)).1, yzAll_s h2 w hw, (yzOk_s (List.all_eq_true.mp h1 w hw)).2⟩
theorem am_nOk : ∀ w ∈ am_nw.filter vx_no, vx_ot w = true ∧ w ∈ lw_tbl ∧ (goodWord w = true ∨ (amNk w = true ∧ w.onTables = true)) := yzBoth (I := [142, 1000, 1009, 1014, 1017, 1019, 1001, 1002, 156, 157, 1003, 1008, 1015, 1035, 990, 1036, 992, 1037, 994, 1004, 1006, 996, 1031, 1032, 1034, 996, 1282, 1283, 1284, 1025, 982, 1025, 1026, 1027, 1028, 984, 1028, 1029, 1030, 1031, 986, 1281, 1272, 1273, 1274, 1013, 1275, 1276, 1277, 1278, 999, 998, 1279]) (by decide +kernel) (by decide +kernel)
end
