/-! ##### 05.calls ##### -/
section
/-! ===== contracts of the abstract machine's runs; calls ===== -/
/-- a method's names: name, bytes, table of handlers -/
abbrev amN : Type := MethodName × ByteArray × List (Nat × Nat × Nat × Nat)
def amEx : List String := ["java/lang/IllegalArgumentException", "java/lang/IndexOutOfBoundsException", "java/lang/IllegalStateException", "java/util/NoSuchElementException"]
def amXn : List String := ["java/lang/RuntimeException", "java/lang/Exception"]
def amNk : Jvm.Cond → Bool
  | .methodLinkNest .. => true
  | .castable .. => true
  | .declares .. => true
  | _ => false
def amNc : List (String × String) := [("java/lang/IllegalArgumentException", "java/lang/IndexOutOfBoundsException"), ("java/lang/IllegalStateException", "java/lang/IndexOutOfBoundsException"), ("java/lang/IllegalStateException", "java/lang/IllegalArgumentException"), ("java/util/NoSuchElementException", "java/lang/IndexOutOfBoundsException"), ("java/util/NoSuchElementException", "java/lang/IllegalArgumentException")]
/-- the words that every method is handed -/
def amWL : List Jvm.Cond := lw_tbl.filter goodWord
theorem amWL_good {ws : List Jvm.Cond} (h : ∀ w ∈ ws, w ∈ amWL) : GoodIn amWL ws := fun w hw => ⟨h w hw, good_of_word (List.mem_filter.mp (h w hw)).2⟩
theorem amWL_in {w : Jvm.Cond} (h : w ∈ lw_tbl) (hg : goodWord w = true) : w ∈ amWL := List.mem_filter.mpr ⟨h, hg⟩
def amRm (d mc ms : Nat) : Room := { frames := d + 8, cells := mc, slots := ms, locals := 128 * (d + 1) }
theorem amNk_warm {w : Jvm.Cond} {s U : State} (h : amNk w = true) (hW : s.WarmedH U.vm) (hZ : va_Nw w s) : va_Nw w U := by
  cases w <;> first
    | exact va_Nw.warmM hW hZ
    | exact va_Nw.warmC hW hZ
    | exact va_Nw.warmD hW hZ
    | cases h
/-- what the tables say at a state, beside the words -/
def amG (D : va_G) (dA : Nat → ClassId) (sA : Nat → Nat) (U : State) : Prop :=
  va_K D vwCl (amTys dA) U ∧ (∀ (k : Nat) (r : String × Nat × String), amStr[k]? = some r → vk_R r.1 r.2.1 r.2.2 (sA k) U) ∧ (∀ w ∈ lw_tbl, amNk w = true → va_Nw w U) ∧ (∀ q ∈ amNc, va_Nc q.1 q.2 U) ∧ va_AO "TripleTrains$Snapshot" U
theorem amG.warm {D : va_G} {dA : Nat → ClassId} {sA : Nat → Nat} {s U : State} (hW : s.WarmedH U.vm) (h : amG D dA sA s) : amG D dA sA U :=
  ⟨va_K.moved hW.alike h.1, fun k r hk => vk_R.warm hW (h.2.1 k r hk), fun w hw hk => amNk_warm hk hW (h.2.2.1 w hw hk), fun q hq => va_Nc.moved hW.alike (h.2.2.2.1 q hq), va_AO.moved hW.alike h.2.2.2.2⟩
/-- the two statics that a throw reads -/
def amZs (sA : Nat → Nat) (A : Nat → Prop) (U : State) (H : Heap) : Prop := sC A U H ∧ ∀ q ∈ amSl, ∃ t, sB (sA q.1) t q.2 A U H
def amZ (sA : Nat → Nat) (A : Nat → Prop) (U : State) (H : Heap) : Prop := vx_Zq Bundle.tN "UNASSIGNED_STACK" Bundle.steD A U H ∧ vx_Zq Bundle.tN "SUPPRESSED_SENTINEL" Bundle.listD A U H ∧ amZs sA A U H
theorem amZs.moved {sA : Nat → Nat} {A : Nat → Prop} {u U : State} {H : Heap} (hvm : u.vm.Alike U.vm) (h : amZs sA A u H) : amZs sA A U H := ⟨sC.moved hvm h.1, fun q hq => (h.2 q hq).imp fun _ z => sB.moved hvm z⟩
theorem amZs.kept {sA : Nat → Nat} {A : Nat → Prop} {U : State} {H H1 : Heap} (h : amZs sA A U H) (hq : ∀ a : Nat, a < H.size → ¬ A a → H1[a]? = H[a]?) : amZs sA A U H1 := ⟨h.1.kept hq, fun q hm => (h.2 q hm).imp fun _ z => z.kept hq⟩
theorem amZs.narrow {sA : Nat → Nat} {A B : Nat → Prop} {U : State} {H : Heap} (h : amZs sA A U H) (hAB : ∀ q, B q → A q) : amZs sA B U H := ⟨h.1.narrow hAB, fun q hm => (h.2 q hm).imp fun _ z => z.narrow hAB⟩
theorem amZ.moved {sA : Nat → Nat} {A : Nat → Prop} {u U : State} {H : Heap} (hvm : u.vm.Alike U.vm) (h : amZ sA A u H) : amZ sA A U H := ⟨vx_Zq.moved hvm h.1, vx_Zq.moved hvm h.2.1, amZs.moved hvm h.2.2⟩
theorem amZ.kept {sA : Nat → Nat} {A : Nat → Prop} {U : State} {H H1 : Heap} (h : amZ sA A U H) (hq : ∀ a : Nat, a < H.size → ¬ A a → H1[a]? = H[a]?) : amZ sA A U H1 := ⟨h.1.kept hq, h.2.1.kept hq, h.2.2.kept hq⟩
theorem amZ.narrow {sA : Nat → Nat} {A B : Nat → Prop} {U : State} {H : Heap} (h : amZ sA A U H) (hAB : ∀ q, B q → A q) : amZ sA B U H := ⟨h.1.narrow hAB, h.2.1.narrow hAB, h.2.2.narrow hAB⟩
def amAg (n : Nat) (ad ad1 : Nat → Nat) : Prop := ∀ i, i < n ∨ amK ≤ i → ad1 i = ad i
theorem amAg.refl (n : Nat) (ad : Nat → Nat) : amAg n ad ad := fun _ _ => rfl
theorem amAg.trans {n k : Nat} {a b c : Nat → Nat} (h : n ≤ k) (h1 : amAg n a b) (h2 : amAg k b c) : amAg n a c := fun i hi => (h2 i (hi.imp (fun z => Nat.lt_of_lt_of_le z h) id)).trans (h1 i hi)
theorem amV_ag {n : Nat} {ad ad1 : Nat → Nat} {v : Value} (h : amOk n v = true) (hag : amAg n ad ad1) : amV ad1 v = amV ad v := by
  cases v <;> first
    | rfl
    | (simp only [amOk, Bool.or_eq_true, decide_eq_true_eq] at h
       exact congrArg Value.ref (hag _ h))
theorem amSt_ag {n : Nat} {ad ad1 : Nat → Nat} {st : List Value} (h : amOkS n st = true) (hag : amAg n ad ad1) : st.map (amV ad1) = st.map (amV ad) :=
  List.map_congr_left fun v hv => amV_ag (List.all_eq_true.mp h v hv) hag
theorem amLs_ag {n : Nat} {ad ad1 : Nat → Nat} {ls : amL} (h : amOkL n ls = true) (hag : amAg n ad ad1) : amLs ad1 ls = amLs ad ls :=
  List.map_congr_left fun q hq => by rw [amV_ag (List.all_eq_true.mp h q hq) hag]
theorem amE_ag {dA : Nat → ClassId} {n : Nat} {ad ad1 : Nat → Nat} {c : amC} (h : ((decide (32 ≤ c.1) && decide (c.1 ≤ 34)) || c.2.all (amOk n)) = true) (hag : amAg n ad ad1) : amE dA ad1 c = amE dA ad c := by
  obtain ⟨t, vs⟩ := c
  unfold amE
  dsimp only at h ⊢
  by_cases h1 : t = 32
  · rw [if_pos h1, if_pos h1]
  · by_cases h2 : t = 33
    · rw [if_neg h1, if_pos h2, if_neg h1, if_pos h2]
    · by_cases h3 : t = 34
      · rw [if_neg h1, if_neg h2, if_pos h3, if_neg h1, if_neg h2, if_pos h3]
      · have hv : vs.all (amOk n) = true := by
          simp only [Bool.or_eq_true, Bool.and_eq_true, decide_eq_true_eq] at h
          rcases h with h | h
          · omega
          · exact h
        by_cases h4 : t = 35
        · rw [if_neg h1, if_neg h2, if_neg h3, if_pos h4, if_neg h1, if_neg h2, if_neg h3, if_pos h4]
          have e : (fun j => amRef ad1 (vs.getD j .null)) = (fun j => amRef ad (vs.getD j .null)) := by
            funext j
            by_cases hj : j < vs.length
            · have hm : amOk n (vs.getD j .null) = true := by
                rw [List.getD_eq_getElem?_getD, List.getElem?_eq_getElem hj]
                exact List.all_eq_true.mp hv _ (List.getElem_mem hj)
              have := amV_ag hm hag
              generalize vs.getD j .null = w at this
              cases w <;> first
                | rfl
                | (simp only [amV, Value.ref.injEq] at this; simp [amRef, this])
            · rw [List.getD_eq_getElem?_getD, List.getElem?_eq_none (by omega)]; rfl
          rw [e]
        · rw [if_neg h1, if_neg h2, if_neg h3, if_neg h4, if_neg h1, if_neg h2, if_neg h3, if_neg h4]
          have e : vs.map (amV ad1) = vs.map (amV ad) := amSt_ag hv hag
          rw [e]
theorem amW_ag {dA : Nat → ClassId} {hp : amH} {ad ad1 : Nat → Nat} (h : amOkH hp.length hp = true) (hag : amAg hp.length ad ad1) : amW dA ad1 hp = amW dA ad hp := by
  apply List.ext_getElem?
  intro j
  by_cases hj : j < hp.length
  · have hc : hp[j]? = some hp[j] := List.getElem?_eq_getElem hj
    rw [amW_get hc, amW_get hc, amE_ag (List.all_eq_true.mp h _ (List.getElem_mem hj)) hag, hag j (Or.inl hj)]
  · rw [List.getElem?_eq_none (by simp [amW]; omega), List.getElem?_eq_none (by simp [amW]; omega)]
/-- what a run answers, over the machine -/
def amQ (D : va_G) (dA : Nat → ClassId) (ad : Nat → Nat) (n : Nat) (A : Nat → Prop) (x : Option Value ⊕ Nat) (hp1 : amH) : Array Value → State → Outcome → State → Prop := fun _ st o t =>
  ∃ (v : Option Value) (ad1 : Nat → Nat), x = .inl v ∧ o = .returned (v.map (amV ad1)) ∧ amAg n ad ad1 ∧ va_P D vwCl (amW dA ad1 hp1) t.heap ∧ va_D A (amW dA ad1 hp1) ∧ va_F A st t
def amX (D : va_G) (dA : Nat → ClassId) (ad : Nat → Nat) (n : Nat) (A : Nat → Prop) (x : Option Value ⊕ Nat) (hp1 : amH) : String → State → State → Prop := fun E st t =>
  ∃ (k : Nat) (ad1 : Nat → Nat), x = .inr k ∧ amEx[k]? = some E ∧ amAg n ad ad1 ∧ va_P D vwCl (amW dA ad1 hp1) t.heap ∧ va_D A (amW dA ad1 hp1) ∧ va_F A st t
def amPc (D : va_G) (dA : Nat → ClassId) (sA : Nat → Nat) (ad : Nat → Nat) (hp : amH) (av : List Value) (sz : Nat) : Array Value → State → Prop := fun v U =>
  v = (av.map (amV ad)).toArray ∧ U.heap.size = sz ∧ amG D dA sA U ∧ va_P D vwCl (amW dA ad hp) U.heap ∧ va_D (fun _ => True) (amW dA ad hp) ∧ amZ sA (va_A (amW dA ad hp) sz) U U.heap
theorem amPc_blind {D : va_G} {dA : Nat → ClassId} {sA : Nat → Nat} {ad : Nat → Nat} {hp : amH} {av : List Value} {sz : Nat} : FrameBlind (amPc D dA sA ad hp av sz) := fun a U g mk q => by
  obtain ⟨q0, q1, q2, q3, q4, q5⟩ := q
  exact ⟨q0, q1, amG.warm (s := U) (U := U.calling g mk a) (State.WarmedH.refl U) q2, q3, q4, amZ.moved (u := U) (U := U.calling g mk a) (Vm.Alike.refl U.vm) q5⟩
theorem am_toMet {l : Launch} {y : MethodName} {ws : List Jvm.Cond} {rm : Room} {Pc : Array Value → State → Prop} {Qc : Array Value → State → Outcome → State → Prop} {XC : String → State → State → Prop} {mc ms : Nat} {free : Addr → Prop} (h : vx_Met l y ws rm Pc Qc XC mc ms free) (hno : ∀ E st t, ¬ XC E st t) : Met l y ws rm Pc Qc mc ms free := by
  intro p e ha hc hk s m args below hf happ hP hK
  obtain ⟨n, o, h1, h2, h3, h4⟩ := h p e ha hc hk s m args below hf happ hP hK
  refine ⟨n, o, h1, h2, h3, ?_⟩
  rcases h4 with h4 | ⟨q, -, E, ce, L, hx, -⟩
  · exact h4
  · exact absurd hx (hno _ _ _)
section AMC
variable {p : Program} {l : Launch} {e : Env} {R : Room} {s : State} {m : MethodId} {args : Array Value} {below : List Frame} {meth : Method} {c : Code} {H : Heap} {locs : List Loc} {cells slots : Nat} {Q : State → Prop}
variable {cc : ByteArray} {D : va_G} {dA : Nat → ClassId} {A : Nat → Prop} {sA : Nat → Nat} {nL : Nat} {own : String}
theorem am_pre {ad : Nat → Nat} {hp : amH} {av : List Value} (hG : amG D dA sA s) (hZ : amZ sA A s s.heap) (hA : ∀ q, s.heap.size ≤ q → A q) (hP : va_P D vwCl (amW dA ad hp) H) (hD : va_D A (amW dA ad hp)) (hS : va_S A s.heap H locs) (hF : ∀ q, va_A (amW dA ad hp) H.size q → A q) : ∀ U : State, U.heap = H → s.WarmedH U.vm → amPc D dA sA ad hp av H.size (av.map (amV ad)).toArray U := by
  intro U hU hW
  refine ⟨rfl, by rw [hU], amG.warm hW hG, by rw [hU]; exact hP, hD.weaken (fun _ _ _ _ => trivial), ?_⟩
  rw [hU]
  exact amZ.moved hW.alike ((hZ.kept hS.2.1).narrow hF)
theorem am_free {ad : Nat → Nat} {hp : amH} (hA : ∀ q, s.heap.size ≤ q → A q) (hD : va_D A (amW dA ad hp)) (hS : va_S A s.heap H locs) : ∀ q, va_A (amW dA ad hp) H.size q → A q := by
  intro q h
  rcases h with ⟨k, e, h⟩ | h
  · exact hD.2 k _ h
  · exact hA q (Nat.le_trans hS.1 h)
/-- behind a call -/
theorem am_call {ad : Nat → Nat} {n mc ms pc : Nat} {A1 : Nat → Prop} {x : Option Value ⊕ Nat} {hp1 : amH} {lsA : Array Slot} {st0 rest : List Value} {a : Array Value} (hr : vx_Run p l e R s m args below meth c H locs cells slots mc ms (F0 m pc lsA st0) (rest.map (amV ad)) (amQ D dA ad n A1 x hp1 a) (amX D dA ad n A1 x hp1) A1) (hS : va_S A s.heap H locs) (hf : ∀ q, A1 q → A q) (hok : amOkS n rest = true)
    (kk : ∀ (v : Option Value) (ad1 : Nat → Nat) (H1 : Heap) (locs1 : List Loc), x = .inl v → amAg n ad ad1 → va_P D vwCl (amW dA ad1 hp1) H1 → va_D A (amW dA ad1 hp1) → va_S A s.heap H1 locs1 → W p l e R s m args below meth c H1 locs1 (cells + mc) (slots + ms) Q (F0 m (pc + 3) lsA ((v.toList ++ rest).map (amV ad1))))
    (kx : ∀ (k : Nat) (E : String) (ce : Cell) (q9 : Addr) (ad1 : Nat → Nat) (H1 : Heap) (locs1 : List Loc), x = .inr k → amEx[k]? = some E → amAg n ad ad1 → va_P D vwCl (amW dA ad1 hp1) H1 → va_D A (amW dA ad1 hp1) → va_S A s.heap H1 locs1 → H1[q9]? = some ce → ce.vm = .none → s.vm.findClass E = some ce.cls → vx_W p l e R s m args below meth c H1 locs1 (cells + mc) (slots + ms) Q (F0 m pc lsA (rest.map (amV ad))) q9) :
    W p l e R s m args below meth c H locs cells slots Q (F0 m pc lsA st0) := by
  intro T hT X
  rcases hr T hT X with ⟨v, st₀, t, T', L, h0, X', hL, e1, e2, ⟨w, ad1, ex, hv, hag, hp, hd, hF⟩, st⟩ | ⟨q, st₀, t, T', L, E, ce, h0, X', hL, e1, e2, ⟨k, ad1, ex, hE, hag, hp, hd, hF⟩, hce, hcv, hcl, st⟩
  · cases hv
    obtain ⟨k1, k2, k3⟩ := vx_keep h0 e1 hS (fun q _ h => hf q h) hf hL hF
    obtain ⟨t2, a1, b1⟩ := kk w ad1 T'.heap (locs ++ L) ex hag (by rw [e1]; exact hp) (hd.weaken (fun _ _ _ h => hf _ h)) k3 T' rfl X'
    refine ⟨t2, st t2 ?_, b1⟩
    have e3 : (w.toList ++ rest).map (amV ad1) = (w.map (amV ad1)).toList ++ rest.map (amV ad) := by
      rw [List.map_append, amSt_ag hok hag]
      cases w <;> rfl
    rw [e3] at a1
    exact a1
  · obtain ⟨k1, k2, k3⟩ := vx_keep h0 e1 hS (fun q _ h => hf q h) hf hL hF
    obtain ⟨t2, a1, b1⟩ := kx k E ce q ad1 T'.heap (locs ++ L) ex hE hag (by rw [e1]; exact hp) (hd.weaken (fun _ _ _ h => hf _ h)) k3 (by rw [e1]; exact hce) hcv hcl T' rfl X'
    exact ⟨t2, st.trans a1, b1⟩
theorem am_runX {mc ms : Nat} {g : JFrame} {rest : List Value} {Qa : State → Outcome → State → Prop} {XC : String → State → State → Prop} {free : Addr → Prop} (h : va_Run p l e R s m args below meth c H locs cells slots mc ms g rest Qa free) : vx_Run p l e R s m args below meth c H locs cells slots mc ms g rest Qa XC free := fun T hT X => Or.inl (h T hT X)
/-- what a call needs of the room -/
theorem am_roomOk {d mc ms nLc : Nat} (hR : d + 9 ≤ R.frames ∧ 128 * (d + 2) ≤ R.locals) (hn : nLc ≤ 100) : (amRm d mc ms).frames + 1 ≤ R.frames ∧ 8 + (nLc + 11) + (amRm d mc ms).locals ≤ R.locals := by
  unfold amRm
  dsimp only
  omega
/-- a call by the receiver's class -/
theorem am_callV (S : CallFix p m c cc nL s args amWL own) (hG : amG D dA sA s) (hZ : amZ sA A s s.heap) (hA : ∀ q, s.heap.size ≤ q → A q) {ad : Nat → Nat} {hp hp1 : amH} (hP : va_P D vwCl (amW dA ad hp) H) (hD : va_D A (amW dA ad hp)) (hS : va_S A s.heap H locs) {d mc ms pc idx nLc n ci o : Nat} {y : MethodName} {bytes : ByteArray} {retc : Option FieldType} {r : vw_C} {fs : List Value} {lsA : Array Slot} {As rest : List Value} {x : Option Value ⊕ Nat}
    (hM : vx_Met l y (Jvm.Cond.code y bytes nLc retc :: amWL) (amRm d mc ms) (amPc D dA sA ad hp (.ref o :: As) H.size) (amQ D dA ad hp.length (va_A (amW dA ad hp) H.size) x hp1) (amX D dA ad hp.length (va_A (amW dA ad hp) H.size) x hp1) mc ms (va_A (amW dA ad hp) H.size))
    (hc : vwCl[ci]? = some r) (hci : ci < 32) (ho : hp[o]? = some (ci, fs)) (hcls : y.cls = r.1) (w1 : Jvm.Cond.methodLink own idx y ∈ amWL) (w2 : Jvm.Cond.instanceMethod y ∈ amWL) (w3 : Jvm.Cond.selects r.1 y y ∈ amWL) (w4 : Jvm.Cond.initialized r.1 ∈ amWL) (w5 : Jvm.Cond.code y bytes nLc retc ∈ amWL) (hd : y.cls ≠ "java/lang/invoke/MethodHandle" ∧ y.cls ≠ "java/lang/invoke/VarHandle" ∧ (parseMethodDescriptor y.desc).map (fun d => d.parameters.length) = some n) (hn : As.length = n) (hnL : nLc ≤ 100)
    (hR : d + 9 ≤ R.frames ∧ 128 * (d + 2) ≤ R.locals) (hf : cells + mc ≤ R.cells ∧ slots + ms ≤ R.slots) (hsz : lsA.size = nL) (hok : amOkS hp.length rest = true) (hw : (rest.map fun v => v.category).sum ≤ 8) (hdg : decode cc pc = .ok (.invokevirtual idx, 3))
    (kk : ∀ (v : Option Value) (ad1 : Nat → Nat) (H1 : Heap) (locs1 : List Loc), x = .inl v → amAg hp.length ad ad1 → va_P D vwCl (amW dA ad1 hp1) H1 → va_D A (amW dA ad1 hp1) → va_S A s.heap H1 locs1 → W p l e R s m args below meth c H1 locs1 (cells + mc) (slots + ms) Q (F0 m (pc + 3) lsA ((v.toList ++ rest).map (amV ad1))))
    (kx : ∀ (k : Nat) (E : String) (ce : Cell) (q9 : Addr) (ad1 : Nat → Nat) (H1 : Heap) (locs1 : List Loc), x = .inr k → amEx[k]? = some E → amAg hp.length ad ad1 → va_P D vwCl (amW dA ad1 hp1) H1 → va_D A (amW dA ad1 hp1) → va_S A s.heap H1 locs1 → H1[q9]? = some ce → ce.vm = .none → s.vm.findClass E = some ce.cls → vx_W p l e R s m args below meth c H1 locs1 (cells + mc) (slots + ms) Q (F0 m pc lsA (rest.map (amV ad))) q9) :
    W p l e R s m args below meth c H locs cells slots Q (F0 m pc lsA ((((.ref o :: As) : List Value).reverse ++ rest).map (amV ad))) := by
  have hF := am_free hA hD hS
  have hg := amW_get (dA := dA) (ad := ad) ho
  rw [amE_obj hci] at hg
  have hcat : ((rest.map (amV ad)).map fun v => v.category).sum ≤ 8 := by
    rw [List.map_map]
    simpa [Function.comp_def, amV_cat] using hw
  refine am_call (vx_runV (As := As.map (amV ad)) (rest := rest.map (amV ad)) (b := ad o) (C := r.1) S hM (cwV n S.2.2.2.2 (amWL_good (fun w hw => ?_)) rfl rfl rfl ⟨hcls, hd⟩ (am_roomOk hR hnL)) ⟨amPc_blind, va_recv hG.1 hP hc hg, am_pre (av := .ref o :: As) hG hZ hA hP hD hS hF⟩ rfl (by rw [List.length_map]; exact hn) hsz (by simp [F0, amV]) (lv_room hcat) hdg hf) hS hF hok kk kx
  simp only [wsV, List.cons_append, List.nil_append, List.mem_cons] at hw
  rcases hw with rfl | rfl | rfl | rfl | rfl | hw
  · exact w1
  · exact w2
  · exact w3
  · exact w4
  · exact w5
  · exact hw
/-- a static call -/
theorem am_callS (S : CallFix p m c cc nL s args amWL own) (hG : amG D dA sA s) (hZ : amZ sA A s s.heap) (hA : ∀ q, s.heap.size ≤ q → A q) {ad : Nat → Nat} {hp hp1 : amH} (hP : va_P D vwCl (amW dA ad hp) H) (hD : va_D A (amW dA ad hp)) (hS : va_S A s.heap H locs) {d mc ms pc idx nLc n : Nat} {y : MethodName} {bytes : ByteArray} {retc : Option FieldType} {lsA : Array Slot} {As rest : List Value} {x : Option Value ⊕ Nat}
    (hM : vx_Met l y (Jvm.Cond.code y bytes nLc retc :: amWL) (amRm d mc ms) (amPc D dA sA ad hp As H.size) (amQ D dA ad hp.length (va_A (amW dA ad hp) H.size) x hp1) (amX D dA ad hp.length (va_A (amW dA ad hp) H.size) x hp1) mc ms (va_A (amW dA ad hp) H.size))
    (w1 : Jvm.Cond.methodLink own idx y ∈ amWL) (w2 : Jvm.Cond.static y ∈ amWL) (w4 : Jvm.Cond.initialized y.cls ∈ amWL) (w5 : Jvm.Cond.code y bytes nLc retc ∈ amWL) (hd : y.cls ≠ "java/lang/invoke/MethodHandle" ∧ y.cls ≠ "java/lang/invoke/VarHandle" ∧ (parseMethodDescriptor y.desc).map (fun d => d.parameters.length) = some n) (hn : As.length = n) (hnL : nLc ≤ 100)
    (hR : d + 9 ≤ R.frames ∧ 128 * (d + 2) ≤ R.locals) (hf : cells + mc ≤ R.cells ∧ slots + ms ≤ R.slots) (hsz : lsA.size = nL) (hok : amOkS hp.length rest = true) (hw : (rest.map fun v => v.category).sum ≤ 8) (hdg : decode cc pc = .ok (.invokestatic idx, 3))
    (kk : ∀ (v : Option Value) (ad1 : Nat → Nat) (H1 : Heap) (locs1 : List Loc), x = .inl v → amAg hp.length ad ad1 → va_P D vwCl (amW dA ad1 hp1) H1 → va_D A (amW dA ad1 hp1) → va_S A s.heap H1 locs1 → W p l e R s m args below meth c H1 locs1 (cells + mc) (slots + ms) Q (F0 m (pc + 3) lsA ((v.toList ++ rest).map (amV ad1))))
    (kx : ∀ (k : Nat) (E : String) (ce : Cell) (q9 : Addr) (ad1 : Nat → Nat) (H1 : Heap) (locs1 : List Loc), x = .inr k → amEx[k]? = some E → amAg hp.length ad ad1 → va_P D vwCl (amW dA ad1 hp1) H1 → va_D A (amW dA ad1 hp1) → va_S A s.heap H1 locs1 → H1[q9]? = some ce → ce.vm = .none → s.vm.findClass E = some ce.cls → vx_W p l e R s m args below meth c H1 locs1 (cells + mc) (slots + ms) Q (F0 m pc lsA (rest.map (amV ad))) q9) :
    W p l e R s m args below meth c H locs cells slots Q (F0 m pc lsA ((As.reverse ++ rest).map (amV ad))) := by
  have hF := am_free hA hD hS
  have hcat : ((rest.map (amV ad)).map fun v => v.category).sum ≤ 8 := by
    rw [List.map_map]
    simpa [Function.comp_def, amV_cat] using hw
  refine am_call (vx_runS (As := As.map (amV ad)) (rest := rest.map (amV ad)) S hM (va_cwS n S.2.2.2.2 (amWL_good (fun w hw => ?_)) rfl rfl rfl hd (am_roomOk hR hnL)) ⟨amPc_blind, am_pre (av := As) hG hZ hA hP hD hS hF⟩ rfl (by rw [List.length_map]; exact hn) hsz (by simp [F0]) (lv_room hcat) hdg hf) hS hF hok kk kx
  simp only [va_wsS, List.cons_append, List.nil_append, List.mem_cons] at hw
  rcases hw with rfl | rfl | rfl | rfl | hw
  · exact w1
  · exact w2
  · exact w4
  · exact w5
  · exact hw
theorem amX_no {ad : Nat → Nat} {n : Nat} {A1 : Nat → Prop} {v : Option Value} {hp1 : amH} : ∀ E st t, ¬ amX D dA ad n A1 (.inl v) hp1 E st t := by
  intro E st t h
  obtain ⟨k, ad1, h1, -⟩ := h
  cases h1
/-- a static call of a method with a table, that returns -/
theorem am_callSW (S : CallFix p m c cc nL s args amWL own) (hG : amG D dA sA s) (hZ : amZ sA A s s.heap) (hA : ∀ q, s.heap.size ≤ q → A q) {ad : Nat → Nat} {hp hp1 : amH} (hP : va_P D vwCl (amW dA ad hp) H) (hD : va_D A (amW dA ad hp)) (hS : va_S A s.heap H locs) {d mc ms pc idx nLc n : Nat} {y : MethodName} {bytes : ByteArray} {hh : List (Nat × Nat × Nat × Nat)} {retc : Option FieldType} {lsA : Array Slot} {As rest : List Value} {v : Option Value}
    (hM : vx_Met l y (Jvm.Cond.codeWith y bytes nLc retc hh :: amWL) (amRm d mc ms) (amPc D dA sA ad hp As H.size) (amQ D dA ad hp.length (va_A (amW dA ad hp) H.size) (.inl v) hp1) (amX D dA ad hp.length (va_A (amW dA ad hp) H.size) (.inl v) hp1) mc ms (va_A (amW dA ad hp) H.size))
    (w1 : Jvm.Cond.methodLink own idx y ∈ amWL) (w2 : Jvm.Cond.static y ∈ amWL) (w4 : Jvm.Cond.initialized y.cls ∈ amWL) (w5 : Jvm.Cond.codeWith y bytes nLc retc hh ∈ amWL) (hd : y.cls ≠ "java/lang/invoke/MethodHandle" ∧ y.cls ≠ "java/lang/invoke/VarHandle" ∧ (parseMethodDescriptor y.desc).map (fun d => d.parameters.length) = some n) (hn : As.length = n) (hnL : nLc ≤ 100)
    (hR : d + 9 ≤ R.frames ∧ 128 * (d + 2) ≤ R.locals) (hf : cells + mc ≤ R.cells ∧ slots + ms ≤ R.slots) (hsz : lsA.size = nL) (hok : amOkS hp.length rest = true) (hw : (rest.map fun v => v.category).sum ≤ 8) (hdg : decode cc pc = .ok (.invokestatic idx, 3))
    (kk : ∀ (ad1 : Nat → Nat) (H1 : Heap) (locs1 : List Loc), amAg hp.length ad ad1 → va_P D vwCl (amW dA ad1 hp1) H1 → va_D A (amW dA ad1 hp1) → va_S A s.heap H1 locs1 → W p l e R s m args below meth c H1 locs1 (cells + mc) (slots + ms) Q (F0 m (pc + 3) lsA ((v.toList ++ rest).map (amV ad1)))) :
    W p l e R s m args below meth c H locs cells slots Q (F0 m pc lsA ((As.reverse ++ rest).map (amV ad))) := by
  have hF := am_free hA hD hS
  have hcat : ((rest.map (amV ad)).map fun v => v.category).sum ≤ 8 := by
    rw [List.map_map]
    simpa [Function.comp_def, amV_cat] using hw
  refine am_call (x := .inl v) (am_runX (vx_runSW (hh := hh) (As := As.map (amV ad)) (rest := rest.map (amV ad)) S (am_toMet hM amX_no) (vx_cwSW n S.2.2.2.2 (amWL_good (fun w hw => ?_)) rfl rfl rfl hd (am_roomOk hR hnL)) ⟨amPc_blind, am_pre (av := As) hG hZ hA hP hD hS hF⟩ rfl (by rw [List.length_map]; exact hn) hsz (by simp [F0]) (lv_room hcat) hdg hf)) hS hF hok (fun w ad1 H1 locs1 ex => by cases ex; exact kk ad1 H1 locs1) (fun k E ce q9 ad1 H1 locs1 ex => by cases ex)
  simp only [va_wsS, List.cons_append, List.nil_append, List.mem_cons] at hw
  rcases hw with rfl | rfl | rfl | rfl | hw
  · exact w1
  · exact w2
  · exact w4
  · exact w5
  · exact hw
/-- a constructor's call -/
theorem am_callI (S : CallFix p m c cc nL s args amWL own) (hG : amG D dA sA s) (hZ : amZ sA A s s.heap) (hA : ∀ q, s.heap.size ≤ q → A q) {ad : Nat → Nat} {hp hp1 : amH} (hP : va_P D vwCl (amW dA ad hp) H) (hD : va_D A (amW dA ad hp)) (hS : va_S A s.heap H locs) {d mc ms pc idx nLc n o : Nat} {y : MethodName} {bytes : ByteArray} {lsA : Array Slot} {As rest : List Value} {v : Option Value}
    (hM : vx_Met l y (Jvm.Cond.code y bytes nLc none :: amWL) (amRm d mc ms) (amPc D dA sA ad hp (.ref o :: As) H.size) (amQ D dA ad hp.length (va_A (amW dA ad hp) H.size) (.inl v) hp1) (amX D dA ad hp.length (va_A (amW dA ad hp) H.size) (.inl v) hp1) mc ms (va_A (amW dA ad hp) H.size))
    (w1 : Jvm.Cond.methodLink own idx y ∈ amWL ∨ ∃ host, Jvm.Cond.methodLinkNest own idx y host ∈ lw_tbl) (w2 : Jvm.Cond.instanceMethod y ∈ amWL) (w4 : Jvm.Cond.initialized y.cls ∈ amWL) (w5 : Jvm.Cond.code y bytes nLc none ∈ amWL) (hy1 : y.name = "<init>") (hd : y.cls ≠ "java/lang/invoke/MethodHandle" ∧ y.cls ≠ "java/lang/invoke/VarHandle" ∧ (parseMethodDescriptor y.desc).map (fun d => d.parameters.length) = some n) (hn : As.length = n) (hnL : nLc ≤ 100)
    (hR : d + 9 ≤ R.frames ∧ 128 * (d + 2) ≤ R.locals) (hf : cells + mc ≤ R.cells ∧ slots + ms ≤ R.slots) (hsz : lsA.size = nL) (hok : amOkS hp.length rest = true) (hw : (rest.map fun v => v.category).sum ≤ 8) (hdg : decode cc pc = .ok (.invokespecial idx, 3))
    (kk : ∀ (ad1 : Nat → Nat) (H1 : Heap) (locs1 : List Loc), amAg hp.length ad ad1 → va_P D vwCl (amW dA ad1 hp1) H1 → va_D A (amW dA ad1 hp1) → va_S A s.heap H1 locs1 → W p l e R s m args below meth c H1 locs1 (cells + mc) (slots + ms) Q (F0 m (pc + 3) lsA ((v.toList ++ rest).map (amV ad1)))) :
    W p l e R s m args below meth c H locs cells slots Q (F0 m pc lsA ((((.ref o :: As) : List Value).reverse ++ rest).map (amV ad))) := by
  have hF := am_free hA hD hS
  have hts := S.2.2.2.2
  have hgw : GoodIn amWL (Jvm.Cond.code y bytes nLc none :: amWL) := amWL_good (fun w hw => by
    rcases List.mem_cons.mp hw with rfl | hw
    · exact w5
    · exact hw)
  have hcat : ((rest.map (amV ad)).map fun v => v.category).sum ≤ 8 := by
    rw [List.map_map]
    simpa [Function.comp_def, amV_cat] using hw
  have hpre := am_pre (av := .ref o :: As) hG hZ hA hP hD hS hF
  rcases w1 with w1 | ⟨host, w1⟩
  · exact am_call (x := .inl v) (am_runX (va_runI (As := As.map (amV ad)) (rest := rest.map (amV ad)) (b := ad o) S (am_toMet hM amX_no) (cwI n hts hgw rfl rfl rfl (hts _ w4) (hts _ w1) (hts _ w2) hy1 hd (am_roomOk hR hnL)) ⟨amPc_blind, hpre⟩ rfl (by rw [List.length_map]; exact hn) hsz (by simp [F0, amV]) (lv_room hcat) hdg hf)) hS hF hok (fun w ad1 H1 locs1 ex => by cases ex; exact kk ad1 H1 locs1) (fun k E ce q9 ad1 H1 locs1 ex => by cases ex)
  · exact am_call (x := .inl v) (am_runX (va_runIN (As := As.map (amV ad)) (rest := rest.map (amV ad)) (b := ad o) S (am_toMet hM amX_no) ⟨va_cnB n hts hgw rfl rfl rfl (hG.2.2.1 _ w1 rfl) (hts _ w4) hd (am_roomOk hR hnL), hy1, hts _ w2⟩ ⟨amPc_blind, hpre⟩ rfl (by rw [List.length_map]; exact hn) hsz (by simp [F0, amV]) (lv_room hcat) hdg hf)) hS hF hok (fun w ad1 H1 locs1 ex => by cases ex; exact kk ad1 H1 locs1) (fun k E ce q9 ad1 H1 locs1 ex => by cases ex)
end AMC
end
/-! ##### 05w.words ##### -/
section
/-! ===== words: String.length and charAt of a constant, by their code ===== -/
theorem am_sl_len : ∀ (vs : List Value), (lg_sl vs).length = (vs.map fun v => v.category).sum
  | [] => rfl
  | v :: r => by
    have ih := am_sl_len r
    rw [show lg_sl (v :: r) = (if v.category = 2 then [.val v, .second] else [.val v]) ++ lg_sl r from rfl, List.length_append, ih]
    rcases lv_cat v with h | h <;> simp [h]
section SWO
variable {l : Launch}
/-- a method's body, with a table of handlers or none -/
theorem am_ofW {y : MethodName} {ws' : List Jvm.Cond} {rm : Room} {Pc : Array Value → State → Prop} {Qc : Array Value → State → Outcome → State → Prop} {XC : String → State → State → Prop} {mc ms : Nat} {free : Addr → Prop} {cc : ByteArray} {maxL : Nat} {ret : Option FieldType} {hh : List (Nat × Nat × Nat × Nat)} {hd : Jvm.Cond}
    (hy : plainFor y = true) (hhd : hd = if hh = [] then Jvm.Cond.code y cc maxL ret else Jvm.Cond.codeWith y cc maxL ret hh)
    (body : ∀ p e s m args below meth c s₁, BodyLoose p l y (headSpec (hd :: ws') rm) cc maxL ret e s m args below meth c s₁ → c.maxLocals = maxL → c.exceptionTable.toList = tableOf hh → Pc args s →
      W p l e (headSpec (hd :: ws') rm).room s m args below meth c s.heap [] 0 0 (vx_MQ below Qc XC args s mc ms free) (entryFrame m args maxL)) : vx_Met l y (hd :: ws') rm Pc Qc XC mc ms free := by
  by_cases h0 : hh = []
  · rw [if_pos h0] at hhd
    refine MetFree.of_bodySF (code := cc) (maxLocals := maxL) (ret := ret) hy ?_ ?_
    · intro args s m h hn
      obtain ⟨meth, c, h1, h2, h3, h4, h5, h6, -, -⟩ := Cond.code_spec hn (atoms_spec (ws := hd :: ws') h _ (by rw [hhd]; exact List.mem_cons_self))
      exact ⟨meth, c, h1, h2, h3, h4, h5, h6⟩
    · intro p e s m args below meth c s₁ B hml hP _
      have hh0 : s₁.heap = s.heap := by rw [B.state]; rfl
      have ht : c.exceptionTable.toList = tableOf hh := by
        obtain ⟨meth9, c9, h1, h2, -, -, -, -, h7, -⟩ := Cond.code_spec B.named (atoms_spec (ws := hd :: ws') B.pre _ (by rw [hhd]; exact List.mem_cons_self))
        cases Option.some.inj (h1.symm.trans B.method)
        cases Option.some.inj (h2.symm.trans (Stand.of_body B).code)
        rw [Array.isEmpty_iff.mp h7, h0]
        rfl
      obtain ⟨t, a1, o, b1, b2, b3⟩ := body p e s m args below meth c s₁ B hml ht hP s₁ hh0 (Stand.of_body B)
      exact ⟨t, o, a1, b1, b2, b3⟩
  · rw [if_neg h0] at hhd
    refine MetFree.of_bodySF (code := cc) (maxLocals := maxL) (ret := ret) hy ?_ ?_
    · intro args s m h hn
      obtain ⟨m9, meth, c, hn9, h1, h2, h3, h4, -, h5, h6, -⟩ := Cond.codeWith_spec (atoms_spec (ws := hd :: ws') h _ (by rw [hhd]; exact List.mem_cons_self))
      cases hn.symm.trans hn9
      exact ⟨meth, c, h1, h2, h3, h4, h5, h6⟩
    · intro p e s m args below meth c s₁ B hml hP _
      have hh0 : s₁.heap = s.heap := by rw [B.state]; rfl
      have ht : c.exceptionTable.toList = tableOf hh := vx_table (x := y) (y := y) B (atoms_spec (ws := hd :: ws') B.pre _ (by rw [hhd]; exact List.mem_cons_self))
      obtain ⟨t, a1, o, b1, b2, b3⟩ := body p e s m args below meth c s₁ B hml ht hP s₁ hh0 (Stand.of_body B)
      exact ⟨t, o, a1, b1, b2, b3⟩
end SWO
def sA9 (sz : Nat) : Nat → Prop := fun a => sz ≤ a
def sP (q t : Nat) (bs : List Int32) (sz : Nat) (av : List Value) : Array Value → State → Prop := fun a U => a = av.toArray ∧ U.heap.size = sz ∧ sW q t bs (sA9 sz) U U.heap
def sQ (sz : Nat) (v : Option Value) : Array Value → State → Outcome → State → Prop := fun _ st o t => o = .returned v ∧ va_F (sA9 sz) st t
def sX : String → State → State → Prop := fun _ _ _ => False
theorem sP_blind {q t : Nat} {bs : List Int32} {sz : Nat} {av : List Value} : FrameBlind (sP q t bs sz av) := fun a U g mk h =>
  ⟨h.1, h.2.1, sC.moved (u := U) (U := U.calling g mk a) (Vm.Alike.refl U.vm) h.2.2.1, sB.moved (u := U) (U := U.calling g mk a) (Vm.Alike.refl U.vm) h.2.2.2⟩
def sRm (k : Nat) : Room := { frames := k, cells := 0, slots := 0, locals := 32 * k }
def sAt (i : Nat) (w : Jvm.Cond) : Bool := goodWord w && decide (lw_tbl[i]? = some w)
theorem sWL {i : Nat} {w : Jvm.Cond} (h : sAt i w = true) : w ∈ amWL := by
  simp only [sAt, Bool.and_eq_true, decide_eq_true_eq] at h
  exact amWL_in (List.mem_of_getElem? h.2) h.1
section SW
variable {p : Program} {l : Launch} {e : Env} {R : Room} {s : State} {m : MethodId} {args : Array Value} {below : List Frame} {meth : Method} {c : Code} {H : Heap} {locs : List Loc} {cells slots : Nat} {Q : State → Prop}
variable {cc : ByteArray} {nL : Nat} {own : String} {A : Nat → Prop}
/-- behind a call that writes nothing -/
theorem sw_call {sz pc : Nat} {v : Option Value} {lsA : Array Slot} {st0 rest : List Value} {a : Array Value} (hr : vx_Run p l e R s m args below meth c H locs cells slots 0 0 (F0 m pc lsA st0) rest (sQ sz v a) sX (sA9 sz)) (hS : va_S A s.heap H locs) (hsz : H.size = sz) (hf : ∀ q, s.heap.size ≤ q → A q)
    (kk : ∀ (H1 : Heap) (locs1 : List Loc), H.size ≤ H1.size → (∀ q : Nat, q < H.size → H1[q]? = H[q]?) → va_S A s.heap H1 locs1 → W p l e R s m args below meth c H1 locs1 cells slots Q (F0 m (pc + 3) lsA (v.toList ++ rest))) :
    W p l e R s m args below meth c H locs cells slots Q (F0 m pc lsA st0) := by
  intro T hT X
  have hf2 : ∀ q, sA9 sz q → A q := fun q h => hf q (Nat.le_trans hS.1 (by rw [hsz]; exact h))
  rcases hr T hT X with ⟨v2, st₀, t, T', L, h0, X', hL, e1, e2, ⟨ho, hF⟩, st⟩ | ⟨q, st₀, t, T', L, E, ce, h0, X', hL, e1, e2, hx, -⟩
  · cases ho
    obtain ⟨k1, k2, k3⟩ := vx_keep h0 e1 hS (fun q _ h => hf2 q h) hf2 hL hF
    obtain ⟨t2, a1, b1⟩ := kk T'.heap (locs ++ L) k1 (fun q hq => k2 q hq (fun h => by unfold sA9 at h; omega)) k3 T' rfl X'
    exact ⟨t2, st t2 a1, b1⟩
  · exact hx.elim
/-- a static call -/
theorem sw_S (S : CallFix p m c cc nL s args amWL own) (hfA : ∀ q, s.heap.size ≤ q → A q) {q t : Nat} {bs : List Int32} (hC : sC A s s.heap) (hB : sB q t bs A s s.heap) (hS : va_S A s.heap H locs) {rm : Room} {y : MethodName} {bytes : ByteArray} {nLc idx n pc : Nat} {retc : Option FieldType} {v : Option Value} {As rest : List Value} {lsA : Array Slot}
    (hM : vx_Met l y (Jvm.Cond.code y bytes nLc retc :: amWL) rm (sP q t bs H.size As) (sQ H.size v) sX 0 0 (sA9 H.size)) (hrm : rm.cells = 0 ∧ rm.slots = 0) (w1 : Jvm.Cond.methodLink own idx y ∈ amWL) (w2 : Jvm.Cond.static y ∈ amWL) (w4 : Jvm.Cond.initialized y.cls ∈ amWL) (w5 : Jvm.Cond.code y bytes nLc retc ∈ amWL)
    (hd : y.cls ≠ "java/lang/invoke/MethodHandle" ∧ y.cls ≠ "java/lang/invoke/VarHandle" ∧ (parseMethodDescriptor y.desc).map (fun d => d.parameters.length) = some n) (hn : As.length = n) (hR : rm.frames + 1 ≤ R.frames ∧ 8 + (nLc + 11) + rm.locals ≤ R.locals) (hroom : cells ≤ R.cells ∧ slots ≤ R.slots) (hsz : lsA.size = nL) (hw : (rest.map fun v => v.category).sum ≤ 8) (hdg : decode cc pc = .ok (.invokestatic idx, 3))
    (kk : ∀ (H1 : Heap) (locs1 : List Loc), H.size ≤ H1.size → (∀ q : Nat, q < H.size → H1[q]? = H[q]?) → va_S A s.heap H1 locs1 → W p l e R s m args below meth c H1 locs1 cells slots Q (F0 m (pc + 3) lsA (v.toList ++ rest))) :
    W p l e R s m args below meth c H locs cells slots Q (F0 m pc lsA (As.reverse ++ rest)) := by
  have hF : ∀ q, sA9 H.size q → A q := fun q h => hfA q (Nat.le_trans hS.1 h)
  refine sw_call (sz := H.size) (vx_runS (As := As) (rest := rest) S hM (va_cwS n S.2.2.2.2 (amWL_good (fun w hw => ?_)) rfl hrm.1 hrm.2 hd hR) ⟨sP_blind, fun U hU hW => ⟨rfl, by rw [hU], ?_⟩⟩ rfl hn hsz (by simp [F0]) (lv_room hw) hdg hroom) hS rfl hfA kk
  · simp only [va_wsS, List.cons_append, List.nil_append, List.mem_cons] at hw
    rcases hw with rfl | rfl | rfl | rfl | hw
    · exact w1
    · exact w2
    · exact w4
    · exact w5
    · exact hw
  · rw [hU]
    exact ⟨sC.moved hW.alike ((hC.kept hS.2.1).narrow hF), sB.moved hW.alike ((hB.kept hS.2.1).narrow hF)⟩
/-- a call of a word's method -/
theorem sw_V (S : CallFix p m c cc nL s args amWL own) (hfA : ∀ q, s.heap.size ≤ q → A q) {q t : Nat} {bs : List Int32} (hC : sC A s s.heap) (hB : sB q t bs A s s.heap) (hS : va_S A s.heap H locs) {rm : Room} {y : MethodName} {bytes : ByteArray} {nLc idx n pc : Nat} {retc : Option FieldType} {v : Option Value} {As rest : List Value} {lsA : Array Slot}
    (hM : vx_Met l y (Jvm.Cond.code y bytes nLc retc :: amWL) rm (sP q t bs H.size (.ref q :: As)) (sQ H.size v) sX 0 0 (sA9 H.size)) (hrm : rm.cells = 0 ∧ rm.slots = 0) (w1 : Jvm.Cond.methodLink own idx y ∈ amWL) (w2 : Jvm.Cond.instanceMethod y ∈ amWL) (w3 : Jvm.Cond.selects "java/lang/String" y y ∈ amWL) (w4 : Jvm.Cond.initialized "java/lang/String" ∈ amWL) (w5 : Jvm.Cond.code y bytes nLc retc ∈ amWL) (hcls : y.cls = "java/lang/String")
    (hd : y.cls ≠ "java/lang/invoke/MethodHandle" ∧ y.cls ≠ "java/lang/invoke/VarHandle" ∧ (parseMethodDescriptor y.desc).map (fun d => d.parameters.length) = some n) (hn : As.length = n) (hR : rm.frames + 1 ≤ R.frames ∧ 8 + (nLc + 11) + rm.locals ≤ R.locals) (hroom : cells ≤ R.cells ∧ slots ≤ R.slots) (hsz : lsA.size = nL) (hw : (rest.map fun v => v.category).sum ≤ 8) (hdg : decode cc pc = .ok (.invokevirtual idx, 3))
    (kk : ∀ (H1 : Heap) (locs1 : List Loc), H.size ≤ H1.size → (∀ q : Nat, q < H.size → H1[q]? = H[q]?) → va_S A s.heap H1 locs1 → W p l e R s m args below meth c H1 locs1 cells slots Q (F0 m (pc + 3) lsA (v.toList ++ rest))) :
    W p l e R s m args below meth c H locs cells slots Q (F0 m pc lsA (As.reverse ++ .ref q :: rest)) := by
  have hF : ∀ q, sA9 H.size q → A q := fun q h => hfA q (Nat.le_trans hS.1 h)
  have hrecv : ∃ cell : Cell, H[q]? = some cell ∧ cell.vm.isStatics = false ∧ s.vm.findClass "java/lang/String" = some cell.cls := by
    obtain ⟨cell, h1, h2, h3, -⟩ := hB.1.kept hS.2.1
    exact ⟨cell, h1, h2, h3⟩
  refine sw_call (sz := H.size) (vx_runV (As := As) (rest := rest) (b := q) (C := "java/lang/String") S hM (cwV n S.2.2.2.2 (amWL_good (fun w hw => ?_)) rfl hrm.1 hrm.2 ⟨hcls, hd⟩ hR) ⟨sP_blind, hrecv, fun U hU hW => ⟨rfl, by rw [hU], ?_⟩⟩ rfl hn hsz (by simp [F0]) (lv_room hw) hdg hroom) hS rfl hfA kk
  · simp only [wsV, List.cons_append, List.nil_append, List.mem_cons] at hw
    rcases hw with rfl | rfl | rfl | rfl | rfl | hw
    · exact w1
    · exact w2
    · exact w3
    · exact w4
    · exact w5
    · exact hw
  · rw [hU]
    exact ⟨sC.moved hW.alike ((hC.kept hS.2.1).narrow hF), sB.moved hW.alike ((hB.kept hS.2.1).narrow hF)⟩
end SW
section SW2
variable {l : Launch}
theorem sd_coder0 : decode cJ0_coder_7d493 0 = .ok (.getstatic 38, 3) := by decide +kernel
theorem sd_coder3 : decode cJ0_coder_7d493 3 = .ok (.ifCond .eq 10, 3) := by decide +kernel
theorem sd_coder6 : decode cJ0_coder_7d493 6 = .ok (.aload_n 0, 1) := by decide +kernel
theorem sd_coder7 : decode cJ0_coder_7d493 7 = .ok (.getfield 15, 3) := by decide +kernel
theorem sd_coder10 : decode cJ0_coder_7d493 10 = .ok (.goto 4, 3) := by decide +kernel
theorem sd_coder14 : decode cJ0_coder_7d493 14 = .ok (.ireturn, 1) := by decide +kernel
theorem sw_coder {q t sz : Nat} {bs : List Int32} : vx_Met l yJ0_coder_7d493 (Jvm.Cond.code yJ0_coder_7d493 cJ0_coder_7d493 1 (some .byte) :: amWL) (sRm 0) (sP q t bs sz [.ref q]) (sQ sz (some (.int 0))) sX 0 0 (sA9 sz) := by
  refine am_ofW (cc := cJ0_coder_7d493) (maxL := 1) (ret := (some .byte)) (hh := []) (by decide) rfl ?_
  intro p e s m args below meth c s₁ B hml htab hv
  obtain ⟨rfl, rfl, hC, hO⟩ := hv
  have hpre := atoms_spec B.pre
  have hts : ∀ w ∈ amWL, w.before ([.ref q] : List Value).toArray s = true := fun w hw => hpre w (List.mem_cons_of_mem _ hw)
  have hx := B.exec
  have hb := B.bytes
  have hown : s.vm.findClass RJ0 = some m.cls := findClass_of_methodNamed B.named
  have hS : va_S (sA9 s.heap.size) s.heap s.heap [] := va_S.rf
  rw [lg_entry_eq]
  have hl := lv_entry ([.ref q] : List Value) (n := 1) (by rw [am_sl_len]; exact Nat.le_refl _)
  generalize ((lg_sl ([.ref q] : List Value) ++ List.replicate (1 - (lg_sl ([.ref q] : List Value)).length) Slot.unset).toArray) = lsA at hl ⊢
  have h0 : lsA[0]? = some (.val (.ref q)) := hl.2.2 (0, .ref q) (by simp [lv_args, Value.category])
  refine va_gets hx hb hC.1 hS hown (hts _ (sWL (i := 502) (by decide +kernel))) (fun _ h => h) sd_coder0 ?_
  refine lv_if_eq hx hb sd_coder3 (tgt := 13) (by decide) (fun z => by cases z) (fun _ => ?_)
  refine lv_aload_n hx hb sd_coder6 rfl h0 ?_
  refine vk_getf hx hb hO.2.1 hS hown (hts _ (sWL (i := 2240) (by decide +kernel))) (fun _ h => h) sd_coder7 ?_
  refine lv_goto hx hb sd_coder10 (tgt := 14) (by decide) ?_
  refine vx_ret ?_
  exact W.zret hx hb (B.returns.trans rfl) (by decide) (fun t ht _ => ⟨rfl, hS.F ht⟩) hS.2.2 sd_coder14
theorem sd_lat0 : decode cJ0_isLatin1_aae02 0 = .ok (.getstatic 38, 3) := by decide +kernel
theorem sd_lat3 : decode cJ0_isLatin1_aae02 3 = .ok (.ifCond .eq 14, 3) := by decide +kernel
theorem sd_lat6 : decode cJ0_isLatin1_aae02 6 = .ok (.aload_n 0, 1) := by decide +kernel
theorem sd_lat7 : decode cJ0_isLatin1_aae02 7 = .ok (.getfield 15, 3) := by decide +kernel
theorem sd_lat10 : decode cJ0_isLatin1_aae02 10 = .ok (.ifCond .ne 7, 3) := by decide +kernel
theorem sd_lat13 : decode cJ0_isLatin1_aae02 13 = .ok (.iconst 1, 1) := by decide +kernel
theorem sd_lat14 : decode cJ0_isLatin1_aae02 14 = .ok (.goto 4, 3) := by decide +kernel
theorem sd_lat18 : decode cJ0_isLatin1_aae02 18 = .ok (.ireturn, 1) := by decide +kernel
theorem sw_lat {q t sz : Nat} {bs : List Int32} : vx_Met l yJ0_isLatin1_aae02 (Jvm.Cond.code yJ0_isLatin1_aae02 cJ0_isLatin1_aae02 1 (some .boolean) :: amWL) (sRm 0) (sP q t bs sz [.ref q]) (sQ sz (some (.int 1))) sX 0 0 (sA9 sz) := by
  refine am_ofW (cc := cJ0_isLatin1_aae02) (maxL := 1) (ret := (some .boolean)) (hh := []) (by decide) rfl ?_
  intro p e s m args below meth c s₁ B hml htab hv
  obtain ⟨rfl, rfl, hC, hO⟩ := hv
  have hpre := atoms_spec B.pre
  have hts : ∀ w ∈ amWL, w.before ([.ref q] : List Value).toArray s = true := fun w hw => hpre w (List.mem_cons_of_mem _ hw)
  have hx := B.exec
  have hb := B.bytes
  have hown : s.vm.findClass RJ0 = some m.cls := findClass_of_methodNamed B.named
  have hS : va_S (sA9 s.heap.size) s.heap s.heap [] := va_S.rf
  rw [lg_entry_eq]
  have hl := lv_entry ([.ref q] : List Value) (n := 1) (by rw [am_sl_len]; exact Nat.le_refl _)
  generalize ((lg_sl ([.ref q] : List Value) ++ List.replicate (1 - (lg_sl ([.ref q] : List Value)).length) Slot.unset).toArray) = lsA at hl ⊢
  have h0 : lsA[0]? = some (.val (.ref q)) := hl.2.2 (0, .ref q) (by simp [lv_args, Value.category])
  refine va_gets hx hb hC.1 hS hown (hts _ (sWL (i := 502) (by decide +kernel))) (fun _ h => h) sd_lat0 ?_
  refine lv_if_eq hx hb sd_lat3 (tgt := 17) (by decide) (fun z => by cases z) (fun _ => ?_)
  refine lv_aload_n hx hb sd_lat6 rfl h0 ?_
  refine vk_getf hx hb hO.2.1 hS hown (hts _ (sWL (i := 2240) (by decide +kernel))) (fun _ h => h) sd_lat7 ?_
  refine lv_if_ne hx hb sd_lat10 (tgt := 17) (by decide) (fun z => absurd rfl z) (fun _ => ?_)
  refine lv_iconst hx hb sd_lat13 (v := 1) (by decide) ?_
  refine lv_goto hx hb sd_lat14 (tgt := 18) (by decide) ?_
  refine vx_ret ?_
  exact W.zret hx hb (B.returns.trans rfl) (by decide) (fun t ht _ => ⟨rfl, hS.F ht⟩) hS.2.2 sd_lat18
theorem sd_ck30 : decode cJ3_checkIndex_8e157 0 = .ok (.iload_n 0, 1) := by decide +kernel
theorem sd_ck31 : decode cJ3_checkIndex_8e157 1 = .ok (.ifCond .lt 8, 3) := by decide +kernel
theorem sd_ck34 : decode cJ3_checkIndex_8e157 4 = .ok (.iload_n 0, 1) := by decide +kernel
theorem sd_ck35 : decode cJ3_checkIndex_8e157 5 = .ok (.iload_n 1, 1) := by decide +kernel
theorem sd_ck36 : decode cJ3_checkIndex_8e157 6 = .ok (.if_icmp .lt 10, 3) := by decide +kernel
theorem sd_ck316 : decode cJ3_checkIndex_8e157 16 = .ok (.iload_n 0, 1) := by decide +kernel
theorem sd_ck317 : decode cJ3_checkIndex_8e157 17 = .ok (.ireturn, 1) := by decide +kernel
theorem sw_ck3 {q t sz : Nat} {bs : List Int32} {i k : Int32} {f : Value} (hi : 0 ≤ i) (hk : i < k) (hf : f.category = 1) : vx_Met l yJ3_checkIndex_8e157 (Jvm.Cond.code yJ3_checkIndex_8e157 cJ3_checkIndex_8e157 3 (some .int) :: amWL) (sRm 0) (sP q t bs sz [.int i, .int k, f]) (sQ sz (some (.int i))) sX 0 0 (sA9 sz) := by
  refine am_ofW (cc := cJ3_checkIndex_8e157) (maxL := 3) (ret := (some .int)) (hh := []) (by decide) rfl ?_
  intro p e s m args below meth c s₁ B hml htab hv
  obtain ⟨rfl, rfl, hC, hO⟩ := hv
  have hpre := atoms_spec B.pre
  have hts : ∀ w ∈ amWL, w.before ([.int i, .int k, f] : List Value).toArray s = true := fun w hw => hpre w (List.mem_cons_of_mem _ hw)
  have hx := B.exec
  have hb := B.bytes
  have hown : s.vm.findClass RJ3 = some m.cls := findClass_of_methodNamed B.named
  have hS : va_S (sA9 s.heap.size) s.heap s.heap [] := va_S.rf
  rw [lg_entry_eq]
  have hl := lv_entry ([.int i, .int k, f] : List Value) (n := 3) (by rw [am_sl_len]; show 1 + (1 + (f.category + 0)) ≤ 3; rw [hf]; exact Nat.le_refl _)
  generalize ((lg_sl ([.int i, .int k, f] : List Value) ++ List.replicate (3 - (lg_sl ([.int i, .int k, f] : List Value)).length) Slot.unset).toArray) = lsA at hl ⊢
  have h0 : lsA[0]? = some (.val (.int i)) := hl.2.2 (0, .int i) (by simp [lv_args, Value.category])
  have h1 : lsA[1]? = some (.val (.int k)) := hl.2.2 (1, .int k) (by simp [lv_args, Value.category])
  have h2 : lsA[2]? = some (.val (f)) := hl.2.2 (2, f) (by simp [lv_args, Value.category])
  refine lv_iload_n hx hb sd_ck30 rfl h0 ?_
  refine lv_if_lt hx hb sd_ck31 (tgt := 9) (by decide) (fun z => absurd hi (Int32.not_le.mpr z)) (fun _ => ?_)
  refine lv_iload_n hx hb sd_ck34 rfl h0 ?_
  refine lv_iload_n hx hb sd_ck35 rfl h1 ?_
  refine lv_icmp_lt hx hb sd_ck36 (tgt := 16) (by decide) (fun _ => ?_) (fun z => absurd hk z)
  refine lv_iload_n hx hb sd_ck316 rfl h0 ?_
  refine vx_ret ?_
  exact W.zret hx hb (B.returns.trans rfl) (rfl) (fun t ht _ => ⟨rfl, hS.F ht⟩) hS.2.2 sd_ck317
end SW2
/-! ===== words: length, checks, charAt ===== -/
section SW3
variable {l : Launch}
theorem sd_len_0 : decode cJ0_length_8abf5 0 = .ok (.aload_n 0, 1) := by decide +kernel
theorem sd_len_1 : decode cJ0_length_8abf5 1 = .ok (.getfield 9, 3) := by decide +kernel
theorem sd_len_4 : decode cJ0_length_8abf5 4 = .ok (.arraylength, 1) := by decide +kernel
theorem sd_len_5 : decode cJ0_length_8abf5 5 = .ok (.aload_n 0, 1) := by decide +kernel
theorem sd_len_6 : decode cJ0_length_8abf5 6 = .ok (.invokevirtual 335, 3) := by decide +kernel
theorem sd_len_9 : decode cJ0_length_8abf5 9 = .ok (.ishr, 1) := by decide +kernel
theorem sd_len_10 : decode cJ0_length_8abf5 10 = .ok (.ireturn, 1) := by decide +kernel
theorem sw_len {q t sz : Nat} {bs : List Int32} : vx_Met l yJ0_length_8abf5 (Jvm.Cond.code yJ0_length_8abf5 cJ0_length_8abf5 1 (some .int) :: amWL) (sRm 1) (sP q t bs sz [.ref q]) (sQ sz (some (.int (Int32.ofNat bs.length >>> (0 &&& 31))))) sX 0 0 (sA9 sz) := by
  refine am_ofW (cc := cJ0_length_8abf5) (maxL := 1) (ret := (some .int)) (hh := []) (by decide) rfl ?_
  intro p e s m args below meth c s₁ B hml htab hv
  obtain ⟨rfl, rfl, hC, hO⟩ := hv
  have hpre := atoms_spec B.pre
  have hts : ∀ w ∈ amWL, w.before ([.ref q] : List Value).toArray s = true := fun w hw => hpre w (List.mem_cons_of_mem _ hw)
  have hx := B.exec
  have hb := B.bytes
  have hown : s.vm.findClass RJ0 = some m.cls := findClass_of_methodNamed B.named
  have hS : va_S (sA9 s.heap.size) s.heap s.heap [] := va_S.rf
  have S : CallFix p m c cJ0_length_8abf5 1 s ([.ref q] : List Value).toArray amWL RJ0 := ⟨hx, hb, hml, hown, hts⟩
  rw [lg_entry_eq]
  have hl := lv_entry ([.ref q] : List Value) (n := 1) (by rw [am_sl_len]; exact Nat.le_refl _)
  generalize ((lg_sl ([.ref q] : List Value) ++ List.replicate (1 - (lg_sl ([.ref q] : List Value)).length) Slot.unset).toArray) = lsA at hl ⊢
  have h0 : lsA[0]? = some (.val (.ref q)) := hl.2.2 (0, .ref q) (by simp [lv_args, Value.category])
  refine lv_aload_n hx hb sd_len_0 rfl h0 ?_
  refine vk_getf hx hb hO.2.2.1 hS hown (hts _ (sWL (i := 2239) (by decide +kernel))) (fun _ h => h) sd_len_1 ?_
  refine va_tlen hx hb hO.2.2.2 hS rfl sd_len_4 ?_
  refine lv_aload_n hx hb sd_len_5 rfl h0 ?_
  refine sw_V (As := []) (v := some (.int 0)) (n := 0) (A := sA9 s.heap.size) S (fun _ h => h) hC hO hS sw_coder ⟨rfl, rfl⟩ (sWL (i := 498) (by decide +kernel)) (sWL (i := 499) (by decide +kernel)) (sWL (i := 500) (by decide +kernel)) (sWL (i := 135) (by decide +kernel)) (sWL (i := 501) (by decide +kernel)) rfl (by decide) rfl (by decide) ⟨Nat.le_refl _, Nat.le_refl _⟩ hl.1 (by show 1 + 0 ≤ 8; omega) sd_len_6 (fun H1 locs1 _ _ hS1 => ?_)
  refine lv_ishr hx hb sd_len_9 ?_
  refine vx_ret ?_
  exact W.zret hx hb (B.returns.trans rfl) (rfl) (fun t ht _ => ⟨rfl, hS1.F ht⟩) hS1.2.2 sd_len_10
theorem sd_ck0_0 : decode cJ0_checkIndex_df160 0 = .ok (.iload_n 0, 1) := by decide +kernel
theorem sd_ck0_1 : decode cJ0_checkIndex_df160 1 = .ok (.iload_n 1, 1) := by decide +kernel
theorem sd_ck0_2 : decode cJ0_checkIndex_df160 2 = .ok (.getstatic 1053, 3) := by decide +kernel
theorem sd_ck0_5 : decode cJ0_checkIndex_df160 5 = .ok (.invokestatic 1059, 3) := by decide +kernel
theorem sd_ck0_8 : decode cJ0_checkIndex_df160 8 = .ok (.pop, 1) := by decide +kernel
theorem sd_ck0_9 : decode cJ0_checkIndex_df160 9 = .ok (.return_, 1) := by decide +kernel
theorem sw_ck0 {q t sz : Nat} {bs : List Int32} {i k : Int32} (hi : 0 ≤ i) (hk : i < k) : vx_Met l yJ0_checkIndex_df160 (Jvm.Cond.code yJ0_checkIndex_df160 cJ0_checkIndex_df160 2 none :: amWL) (sRm 1) (sP q t bs sz [.int i, .int k]) (sQ sz none) sX 0 0 (sA9 sz) := by
  refine am_ofW (cc := cJ0_checkIndex_df160) (maxL := 2) (ret := none) (hh := []) (by decide) rfl ?_
  intro p e s m args below meth c s₁ B hml htab hv
  obtain ⟨rfl, rfl, hC, hO⟩ := hv
  have hpre := atoms_spec B.pre
  have hts : ∀ w ∈ amWL, w.before ([.int i, .int k] : List Value).toArray s = true := fun w hw => hpre w (List.mem_cons_of_mem _ hw)
  have hx := B.exec
  have hb := B.bytes
  have hown : s.vm.findClass RJ0 = some m.cls := findClass_of_methodNamed B.named
  have hS : va_S (sA9 s.heap.size) s.heap s.heap [] := va_S.rf
  have S : CallFix p m c cJ0_checkIndex_df160 2 s ([.int i, .int k] : List Value).toArray amWL RJ0 := ⟨hx, hb, hml, hown, hts⟩
  rw [lg_entry_eq]
  have hl := lv_entry ([.int i, .int k] : List Value) (n := 2) (by rw [am_sl_len]; exact Nat.le_refl _)
  generalize ((lg_sl ([.int i, .int k] : List Value) ++ List.replicate (2 - (lg_sl ([.int i, .int k] : List Value)).length) Slot.unset).toArray) = lsA at hl ⊢
  have h0 : lsA[0]? = some (.val (.int i)) := hl.2.2 (0, .int i) (by simp [lv_args, Value.category])
  have h1 : lsA[1]? = some (.val (.int k)) := hl.2.2 (1, .int k) (by simp [lv_args, Value.category])
  refine lv_iload_n hx hb sd_ck0_0 rfl h0 ?_
  refine lv_iload_n hx hb sd_ck0_1 rfl h1 ?_
  have go : ∀ f : Value, f.category = 1 → W p l e (headSpec (Jvm.Cond.code yJ0_checkIndex_df160 cJ0_checkIndex_df160 2 none :: amWL) (sRm 1)).room s m ([.int i, .int k] : List Value).toArray below meth c s.heap [] 0 0 (vx_MQ below (sQ s.heap.size none) sX ([.int i, .int k] : List Value).toArray s 0 0 (sA9 s.heap.size)) (F0 m 5 lsA [f, .int k, .int i]) := by
    intro f hf
    refine sw_S (As := [.int i, .int k, f]) (rest := []) (v := some (.int i)) (n := 3) (A := sA9 s.heap.size) S (fun _ h => h) hC hO hS (sw_ck3 hi hk hf) ⟨rfl, rfl⟩ (sWL (i := 520) (by decide +kernel)) (sWL (i := 521) (by decide +kernel)) (sWL (i := 137) (by decide +kernel)) (sWL (i := 522) (by decide +kernel)) (by decide) rfl (by decide) ⟨Nat.le_refl _, Nat.le_refl _⟩ hl.1 (by decide) sd_ck0_5 (fun H1 locs1 _ _ hS1 => ?_)
    refine lv_pop hx hb sd_ck0_8 rfl ?_
    refine vx_ret ?_
    exact W.vret hx hb (B.returns.trans rfl) (fun t ht _ => ⟨rfl, hS1.F ht⟩) hS1.2.2 sd_ck0_9
  rcases hC.2 with hz | ⟨u, hz⟩
  · exact va_gets hx hb hz hS hown (hts _ (sWL (i := 518) (by decide +kernel))) (fun _ h => h) sd_ck0_2 (go .null rfl)
  · exact va_gets hx hb hz hS hown (hts _ (sWL (i := 518) (by decide +kernel))) (fun _ h => h) sd_ck0_2 (go (.ref u) rfl)
def sZ (b : Int32) : Int32 := ((b &&& (Int16.ofInt 255).toInt32).toUInt32 % 65536).toInt32
theorem sd_chr1_0 : decode cJ1_charAt_3b067 0 = .ok (.iload_n 1, 1) := by decide +kernel
theorem sd_chr1_1 : decode cJ1_charAt_3b067 1 = .ok (.aload_n 0, 1) := by decide +kernel
theorem sd_chr1_2 : decode cJ1_charAt_3b067 2 = .ok (.arraylength, 1) := by decide +kernel
theorem sd_chr1_3 : decode cJ1_charAt_3b067 3 = .ok (.invokestatic 9, 3) := by decide +kernel
theorem sd_chr1_6 : decode cJ1_charAt_3b067 6 = .ok (.aload_n 0, 1) := by decide +kernel
theorem sd_chr1_7 : decode cJ1_charAt_3b067 7 = .ok (.iload_n 1, 1) := by decide +kernel
theorem sd_chr1_8 : decode cJ1_charAt_3b067 8 = .ok (.baload, 1) := by decide +kernel
theorem sd_chr1_9 : decode cJ1_charAt_3b067 9 = .ok (.sipush 255, 3) := by decide +kernel
theorem sd_chr1_12 : decode cJ1_charAt_3b067 12 = .ok (.iand, 1) := by decide +kernel
theorem sd_chr1_13 : decode cJ1_charAt_3b067 13 = .ok (.i2c, 1) := by decide +kernel
theorem sd_chr1_14 : decode cJ1_charAt_3b067 14 = .ok (.ireturn, 1) := by decide +kernel
theorem sw_chr1 {q t sz : Nat} {bs : List Int32} {i : Int32} (hi : 0 ≤ i) (hk : i < Int32.ofNat bs.length) (hin : vp_in i bs.length) (hz : narrow .char (.int (sZ (bs.getD i.toNatClampNeg 0))) = .int (sZ (bs.getD i.toNatClampNeg 0))) : vx_Met l yJ1_charAt_3b067 (Jvm.Cond.code yJ1_charAt_3b067 cJ1_charAt_3b067 2 (some .char) :: amWL) (sRm 2) (sP q t bs sz [.ref t, .int i]) (sQ sz (some (.int (sZ (bs.getD i.toNatClampNeg 0))))) sX 0 0 (sA9 sz) := by
  refine am_ofW (cc := cJ1_charAt_3b067) (maxL := 2) (ret := (some .char)) (hh := []) (by decide) rfl ?_
  intro p e s m args below meth c s₁ B hml htab hv
  obtain ⟨rfl, rfl, hC, hO⟩ := hv
  have hpre := atoms_spec B.pre
  have hts : ∀ w ∈ amWL, w.before ([.ref t, .int i] : List Value).toArray s = true := fun w hw => hpre w (List.mem_cons_of_mem _ hw)
  have hx := B.exec
  have hb := B.bytes
  have hown : s.vm.findClass RJ1 = some m.cls := findClass_of_methodNamed B.named
  have hS : va_S (sA9 s.heap.size) s.heap s.heap [] := va_S.rf
  have S : CallFix p m c cJ1_charAt_3b067 2 s ([.ref t, .int i] : List Value).toArray amWL RJ1 := ⟨hx, hb, hml, hown, hts⟩
  rw [lg_entry_eq]
  have hl := lv_entry ([.ref t, .int i] : List Value) (n := 2) (by rw [am_sl_len]; exact Nat.le_refl _)
  generalize ((lg_sl ([.ref t, .int i] : List Value) ++ List.replicate (2 - (lg_sl ([.ref t, .int i] : List Value)).length) Slot.unset).toArray) = lsA at hl ⊢
  have h0 : lsA[0]? = some (.val (.ref t)) := hl.2.2 (0, .ref t) (by simp [lv_args, Value.category])
  have h1 : lsA[1]? = some (.val (.int i)) := hl.2.2 (1, .int i) (by simp [lv_args, Value.category])
  refine lv_iload_n hx hb sd_chr1_0 rfl h1 ?_
  refine lv_aload_n hx hb sd_chr1_1 rfl h0 ?_
  refine va_tlen hx hb hO.2.2.2 hS rfl sd_chr1_2 ?_
  refine sw_S (As := [.int i, .int (Int32.ofNat bs.length)]) (rest := []) (v := none) (n := 2) (A := sA9 s.heap.size) S (fun _ h => h) hC hO hS (sw_ck0 hi hk) ⟨rfl, rfl⟩ (sWL (i := 515) (by decide +kernel)) (sWL (i := 516) (by decide +kernel)) (sWL (i := 135) (by decide +kernel)) (sWL (i := 517) (by decide +kernel)) (by decide) rfl (by decide) ⟨Nat.le_refl _, Nat.le_refl _⟩ hl.1 (by decide) sd_chr1_3 (fun H1 locs1 _ _ hS1 => ?_)
  refine lv_aload_n hx hb sd_chr1_6 rfl h0 ?_
  refine lv_iload_n hx hb sd_chr1_7 rfl h1 ?_
  refine va_tb hx hb hO.2.2.2 hS1 hin rfl sd_chr1_8 ?_
  refine lv_sipush hx hb sd_chr1_9 rfl ?_
  refine lv_iand hx hb sd_chr1_12 ?_
  refine lv_i2c hx hb sd_chr1_13 rfl ?_
  refine vx_ret ?_
  exact W.zret hx hb (B.returns.trans rfl) (hz) (fun t ht _ => ⟨rfl, hS1.F ht⟩) hS1.2.2 sd_chr1_14
theorem sd_chr_0 : decode cJ0_charAt_5068e 0 = .ok (.aload_n 0, 1) := by decide +kernel
theorem sd_chr_1 : decode cJ0_charAt_5068e 1 = .ok (.invokevirtual 492, 3) := by decide +kernel
theorem sd_chr_4 : decode cJ0_charAt_5068e 4 = .ok (.ifCond .eq 12, 3) := by decide +kernel
theorem sd_chr_7 : decode cJ0_charAt_5068e 7 = .ok (.aload_n 0, 1) := by decide +kernel
theorem sd_chr_8 : decode cJ0_charAt_5068e 8 = .ok (.getfield 9, 3) := by decide +kernel
theorem sd_chr_11 : decode cJ0_charAt_5068e 11 = .ok (.iload_n 1, 1) := by decide +kernel
theorem sd_chr_12 : decode cJ0_charAt_5068e 12 = .ok (.invokestatic 495, 3) := by decide +kernel
theorem sd_chr_15 : decode cJ0_charAt_5068e 15 = .ok (.ireturn, 1) := by decide +kernel
theorem sw_chr {q t sz : Nat} {bs : List Int32} {i : Int32} (hi : 0 ≤ i) (hk : i < Int32.ofNat bs.length) (hin : vp_in i bs.length) (hz : narrow .char (.int (sZ (bs.getD i.toNatClampNeg 0))) = .int (sZ (bs.getD i.toNatClampNeg 0))) : vx_Met l yJ0_charAt_5068e (Jvm.Cond.code yJ0_charAt_5068e cJ0_charAt_5068e 2 (some .char) :: amWL) (sRm 3) (sP q t bs sz [.ref q, .int i]) (sQ sz (some (.int (sZ (bs.getD i.toNatClampNeg 0))))) sX 0 0 (sA9 sz) := by
  refine am_ofW (cc := cJ0_charAt_5068e) (maxL := 2) (ret := (some .char)) (hh := []) (by decide) rfl ?_
  intro p e s m args below meth c s₁ B hml htab hv
  obtain ⟨rfl, rfl, hC, hO⟩ := hv
  have hpre := atoms_spec B.pre
  have hts : ∀ w ∈ amWL, w.before ([.ref q, .int i] : List Value).toArray s = true := fun w hw => hpre w (List.mem_cons_of_mem _ hw)
  have hx := B.exec
  have hb := B.bytes
  have hown : s.vm.findClass RJ0 = some m.cls := findClass_of_methodNamed B.named
  have hS : va_S (sA9 s.heap.size) s.heap s.heap [] := va_S.rf
  have S : CallFix p m c cJ0_charAt_5068e 2 s ([.ref q, .int i] : List Value).toArray amWL RJ0 := ⟨hx, hb, hml, hown, hts⟩
  rw [lg_entry_eq]
  have hl := lv_entry ([.ref q, .int i] : List Value) (n := 2) (by rw [am_sl_len]; exact Nat.le_refl _)
  generalize ((lg_sl ([.ref q, .int i] : List Value) ++ List.replicate (2 - (lg_sl ([.ref q, .int i] : List Value)).length) Slot.unset).toArray) = lsA at hl ⊢
  have h0 : lsA[0]? = some (.val (.ref q)) := hl.2.2 (0, .ref q) (by simp [lv_args, Value.category])
  have h1 : lsA[1]? = some (.val (.int i)) := hl.2.2 (1, .int i) (by simp [lv_args, Value.category])
  refine lv_aload_n hx hb sd_chr_0 rfl h0 ?_
  refine sw_V (As := []) (rest := []) (v := some (.int 1)) (n := 0) (A := sA9 s.heap.size) S (fun _ h => h) hC hO hS sw_lat ⟨rfl, rfl⟩ (sWL (i := 508) (by decide +kernel)) (sWL (i := 509) (by decide +kernel)) (sWL (i := 510) (by decide +kernel)) (sWL (i := 135) (by decide +kernel)) (sWL (i := 511) (by decide +kernel)) rfl (by decide) rfl (by decide) ⟨Nat.le_refl _, Nat.le_refl _⟩ hl.1 (by decide) sd_chr_1 (fun H1 locs1 _ _ hS1 => ?_)
  refine lv_if_eq hx hb sd_chr_4 (tgt := 16) (by decide) (fun z => by cases z) (fun _ => ?_)
  refine lv_aload_n hx hb sd_chr_7 rfl h0 ?_
  refine vk_getf hx hb hO.2.2.1 hS1 hown (hts _ (sWL (i := 2239) (by decide +kernel))) (fun _ h => h) sd_chr_8 ?_
  refine lv_iload_n hx hb sd_chr_11 rfl h1 ?_
  refine sw_S (As := [.ref t, .int i]) (rest := []) (v := some (.int (sZ (bs.getD i.toNatClampNeg 0)))) (n := 2) (A := sA9 s.heap.size) S (fun _ h => h) hC hO hS1 (sw_chr1 hi hk hin hz) ⟨rfl, rfl⟩ (sWL (i := 512) (by decide +kernel)) (sWL (i := 513) (by decide +kernel)) (sWL (i := 136) (by decide +kernel)) (sWL (i := 514) (by decide +kernel)) (by decide) rfl (by decide) ⟨Nat.le_refl _, Nat.le_refl _⟩ hl.1 (by decide) sd_chr_12 (fun H2 locs2 _ _ hS2 => ?_)
  refine vx_ret ?_
  exact W.zret hx hb (B.returns.trans rfl) (hz) (fun t ht _ => ⟨rfl, hS2.F ht⟩) hS2.2.2 sd_chr_15
end SW3
section SW4
variable {p : Program} {l : Launch} {e : Env} {R : Room} {s : State} {m : MethodId} {args : Array Value} {below : List Frame} {meth : Method} {c : Code} {H : Heap} {locs : List Loc} {cells slots : Nat} {Q : State → Prop}
variable {cc : ByteArray} {nL : Nat} {own : String} {A : Nat → Prop}
theorem sSl : ∀ q ∈ amSl, Int32.ofNat q.2.length >>> (0 &&& 31) = Int32.ofNat q.2.length ∧ q.2.length ≤ 100 ∧ ∀ b ∈ q.2, narrow .char (.int (sZ b)) = .int (sZ b) ∧ sZ b = b := by decide +kernel
/-- String.length of a word -/
theorem sw_lenW (S : CallFix p m c cc nL s args amWL own) (hfA : ∀ q, s.heap.size ≤ q → A q) {q t : Nat} {bs : List Int32} (hC : sC A s s.heap) (hB : sB q t bs A s s.heap) (hS : va_S A s.heap H locs) {k idx pc : Nat} (hk : (k, bs) ∈ amSl) {rest : List Value} {lsA : Array Slot}
    (w1 : Jvm.Cond.methodLink own idx yJ0_length_8abf5 ∈ amWL) (hR : 8 ≤ R.frames ∧ 128 ≤ R.locals) (hroom : cells ≤ R.cells ∧ slots ≤ R.slots) (hsz : lsA.size = nL) (hw : (rest.map fun v => v.category).sum ≤ 8) (hdg : decode cc pc = .ok (.invokevirtual idx, 3))
    (kk : ∀ (H1 : Heap) (locs1 : List Loc), H.size ≤ H1.size → (∀ q : Nat, q < H.size → H1[q]? = H[q]?) → va_S A s.heap H1 locs1 → W p l e R s m args below meth c H1 locs1 cells slots Q (F0 m (pc + 3) lsA (.int (Int32.ofNat bs.length) :: rest))) :
    W p l e R s m args below meth c H locs cells slots Q (F0 m pc lsA (.ref q :: rest)) := by
  refine sw_V (As := []) (rest := rest) (v := some (.int (Int32.ofNat bs.length >>> (0 &&& 31)))) (n := 0) S hfA hC hB hS sw_len ⟨rfl, rfl⟩ w1 (sWL (i := 495) (by decide +kernel)) (sWL (i := 496) (by decide +kernel)) (sWL (i := 135) (by decide +kernel)) (sWL (i := 497) (by decide +kernel)) rfl (by decide) rfl ⟨?_, ?_⟩ hroom hsz hw hdg (fun H1 locs1 h1 h2 h3 => ?_)
  · show 1 + 1 ≤ _
    omega
  · show 8 + (1 + 11) + 32 * 1 ≤ _
    omega
  · rw [(sSl _ hk).1]
    exact kk H1 locs1 h1 h2 h3
/-- String.charAt of a word -/
theorem sw_chrW (S : CallFix p m c cc nL s args amWL own) (hfA : ∀ q, s.heap.size ≤ q → A q) {q t : Nat} {bs : List Int32} (hC : sC A s s.heap) (hB : sB q t bs A s s.heap) (hS : va_S A s.heap H locs) {k idx pc : Nat} (hk : (k, bs) ∈ amSl) {i : Int32} (hin : vp_in i bs.length) {rest : List Value} {lsA : Array Slot}
    (w1 : Jvm.Cond.methodLink own idx yJ0_charAt_5068e ∈ amWL) (hR : 8 ≤ R.frames ∧ 128 ≤ R.locals) (hroom : cells ≤ R.cells ∧ slots ≤ R.slots) (hsz : lsA.size = nL) (hw : (rest.map fun v => v.category).sum ≤ 8) (hdg : decode cc pc = .ok (.invokevirtual idx, 3))
    (kk : ∀ (H1 : Heap) (locs1 : List Loc), H.size ≤ H1.size → (∀ q : Nat, q < H.size → H1[q]? = H[q]?) → va_S A s.heap H1 locs1 → W p l e R s m args below meth c H1 locs1 cells slots Q (F0 m (pc + 3) lsA (.int (bs.getD i.toNatClampNeg 0) :: rest))) :
    W p l e R s m args below meth c H locs cells slots Q (F0 m pc lsA (.int i :: .ref q :: rest)) := by
  obtain ⟨g1, g2, g3⟩ := sSl _ hk
  dsimp only at g2 g3
  have hi : ¬ i < 0 := fun z => hin (Or.inl z)
  have hlt : i.toNatClampNeg < bs.length := Nat.not_le.mp fun z => hin (Or.inr z)
  have hmem : bs.getD i.toNatClampNeg 0 ∈ bs := by
    rw [List.getD_eq_getElem?_getD, List.getElem?_eq_getElem hlt]
    exact List.getElem_mem hlt
  obtain ⟨g4, g5⟩ := g3 _ hmem
  have hi0 : 0 ≤ i := Int32.not_lt.mp hi
  have hik : i < Int32.ofNat bs.length := by
    rw [Int32.lt_iff_toInt_lt]
    have h1 : (i.toNatClampNeg : Int) = i.toInt := by
      have : i.toNatClampNeg = i.toInt.toNat := rfl
      have := Int32.le_iff_toInt_le.mp hi0
      have z0 : (0 : Int32).toInt = 0 := by decide
      omega
    have h2 : (Int32.ofNat bs.length).toInt = (bs.length : Int) := Int32.toInt_ofNat_of_lt (by omega)
    omega
  refine sw_V (As := [.int i]) (rest := rest) (v := some (.int (sZ (bs.getD i.toNatClampNeg 0)))) (n := 1) S hfA hC hB hS (sw_chr hi0 hik hin g4) ⟨rfl, rfl⟩ w1 (sWL (i := 505) (by decide +kernel)) (sWL (i := 506) (by decide +kernel)) (sWL (i := 135) (by decide +kernel)) (sWL (i := 507) (by decide +kernel)) rfl (by decide) rfl ⟨?_, ?_⟩ hroom hsz hw hdg (fun H1 locs1 h1 h2 h3 => ?_)
  · show 3 + 1 ≤ _
    omega
  · show 8 + (2 + 11) + 32 * 3 ≤ _
    omega
  · rw [g5]
    exact kk H1 locs1 h1 h2 h3
end SW4
end
/-! ##### 05x.throw ##### -/
section
/-! ===== a throw of an exception whose constructor links its super's at a place of its own (NoSuchElementException).
The two theorems follow proofs of the library and of the kit (ctorThrowS, vx_throwS): what differs is the first link of the chain. ===== -/
abbrev amNS : String := "java/util/NoSuchElementException"
abbrev amRE : String := "java/lang/RuntimeException"
abbrev am_rx : ByteArray := prog_33_method_4_code
theorem am_rx0 : decode am_rx 0 = .ok (.aload_n 0, 1) := by decide +kernel
theorem am_rx1 : decode am_rx 1 = .ok (.aload_n 1, 1) := by decide +kernel
theorem am_rx2 : decode am_rx 2 = .ok (.invokespecial 13, 3) := by decide +kernel
theorem am_rx5 : decode am_rx 5 = .ok (.return_, 1) := by decide +kernel
/-- the tail of the library's list, which doesn't speak of the chain -/
def am_nt : List Jvm.Cond := (Bundle.ownAtoms "TripleTrains" 283 amNS []).drop (Bundle.throwableAtoms.length + Bundle.throwableSAtoms.length + 5)
def am_nw : List Jvm.Cond := Bundle.throwableAtoms ++ Bundle.throwableSAtoms ++ Bundle.passSAtoms amNS amRE 13 am_rx ++ Bundle.chainSAtoms amRE ["java/lang/Exception"] ++ am_nt
theorem am_nFit : Bundle.fit amNS = true ∧ Bundle.fit amRE = true ∧ ∀ n ∈ ["java/lang/Exception"], Bundle.fit n = true := by decide +kernel
section AMN
variable {p : Program} {l : Launch} {e : Env} {R : Room} {s : State} {m₀ : MethodId} {args : Array Value} {below : List Frame} {meth : Method} {c : Code} {W : State} {locs : List Loc} {cells slots : Nat}
set_option maxHeartbeats 4000000 in
theorem am_ctorN (X : Stand p l e R s m₀ args below meth c W locs cells slots) (hexec : p.tables.exec = Jvm.exec) (htr : e.platform.stackTraces = false)
    (hown : s.vm.findClass "TripleTrains" = some m₀.cls) (h : ∀ a ∈ am_nw, a.before args s = true)
    (hlocs : ∀ x ∈ locs, ∀ cell, s.heap[x.base]? = some cell → cell.vm.isStatics = false)
    {a : Addr} {cX : ClassId} {kX : Class} (hfoundX : s.vm.findClass amNS = some cX) (hkX : s.vm.classes[cX]? = some kX) (hcell : W.heap[a]? = some (freshCell cX kX)) (hnew : s.heap.size ≤ a)
    {msg : Value} (hmsg : msg.isRef = true)
    {g : JFrame} (hg : g.method = m₀) (hsize : g.locals.size = c.maxLocals) (hlocked : g.locked = none) (hentered : g.entered = []) {rest : List Value} (hstack : g.stack = msg :: .ref a :: .ref a :: rest)
    (hd6 : decode c.code g.pc = .ok (.invokespecial 283, 3)) (hd9 : decode c.code (g.pc + 3) = .ok (.athrow, 1)) (hout : ∀ x ∈ c.exceptionTable.toList, covers x (g.pc + 3) = false)
    (hRframes : 5 < R.frames) (hRlocals : 2 * g.monitorRoom + ((Value.ref a :: rest).map fun v => v.category).sum + 81 ≤ R.locals) (hlocks : meth.locks = false) :
    ∃ U : State, Steps p.tables e below (W.setTop g) U ∧ U.status = .running ∧ Ended U below (.threw a) ∧ s.WarmedH U.vm ∧ s.sameButNew ({ U with vm := s.vm } : State) locs cells slots ∧
      ∃ ce, U.heap[a]? = some ce ∧ s.vm.findClass amNS = some ce.cls ∧ ce.vm = .none := by
  have howns : e.platform.frameOwnsMonitors = true := by rw [X.admits.platform]
  have hfin : e.platform.finalization = false := by rw [X.admits.platform]
  have hpl : e.platform.magicAccessors = ({} : Platform).magicAccessors := by rw [X.admits.platform]
  have a' : ∀ x, x ∈ am_nw → x.holds args s none s [] = true := fun x hx => h x hx
  obtain ⟨T, Z0, L, -, Y⟩ := ThrowableC.of_atoms (args := args) howns hfin hpl (fun x hx => h x (by simp [am_nw, hx]))
  obtain ⟨Z, M, LZ, LM, hnZ⟩ := Init0T.ofS_atoms (args := args) hpl L Y (fun x hx => h x (by simp [am_nw, hx]))
  obtain ⟨P1, L1, hP1m, hs1⟩ := PassC.ofS_atoms (args := args) (s := s) hpl (X := amNS) (Y := amRE) (Bundle.fit_spec am_nFit.1).1 (Bundle.fit_spec am_nFit.2.1).2 am_rx0 am_rx1 am_rx2 am_rx5 (fun x hx => h x (by simp only [am_nw, List.mem_append]; exact Or.inl (Or.inl (Or.inr hx))))
  obtain ⟨P2, Ps, hlen, L2, hL, hP2m, hlink1, hlink⟩ := Bundle.chainS (args := args) hpl hnZ ["java/lang/Exception"] amRE am_nFit.2.1 am_nFit.2.2 (fun x hx => h x (by simp only [am_nw, List.mem_append]; exact Or.inl (Or.inr hx)))
  have hfound : s.vm.findClass amNS = some P1.m.cls := findClass_of_methodNamed hP1m
  cases Option.some.inj (hfoundX.symm.trans hfound)
  obtain ⟨c1, kX', hc1, hk, hord, -, -, hn6⟩ := Cond.instantiable_spec (a' (.instantiable amNS 6) (by decide +kernel))
  cases Option.some.inj (hc1.symm.trans hfound)
  cases Option.some.inj (hkX.symm.trans hk)
  have hsel0 : selectMethod e.platform s.vm P1.m.cls T.fill0 = .method T.fill0 := by
    obtain ⟨c2, r2, m2, q1, q2, q3, q4, -⟩ := Cond.selects_spec (a' (.selects amNS Bundle.tFill0 Bundle.tFill0) (by decide +kernel))
    cases Option.some.inj (q1.symm.trans hfound)
    cases Option.some.inj (q2.symm.trans (State.methodFound?_of_named Y.fill0 (by decide)))
    cases Option.some.inj (q3.symm.trans Y.fill0)
    rw [Launch.admits_selectMethod X.admits]; exact q4
  have hselF : selectMethod e.platform s.vm P1.m.cls T.fill = .method T.fill := by
    obtain ⟨c2, r2, m2, q1, q2, q3, q4, -⟩ := Cond.selects_spec (a' (.selects amNS Bundle.tFill Bundle.tFill) (by decide +kernel))
    cases Option.some.inj (q1.symm.trans hfound)
    cases Option.some.inj (q2.symm.trans (State.methodFound?_of_named Y.fill (by decide)))
    cases Option.some.inj (q3.symm.trans Y.fill)
    rw [Launch.admits_selectMethod X.admits]; exact q4
  obtain ⟨cellS0, hcS0, hiss⟩ := Y.statics
  obtain ⟨u0, hu0⟩ := Cond.staticRefV Y.unassigned L.unassignedStatic L.statics hcS0 hiss (a' (.isRef (.static Bundle.tN "UNASSIGNED_STACK" Bundle.steD)) (by decide +kernel))
  obtain ⟨sen, hsen⟩ := Cond.staticRefV Y.sentinel L.sentinelStatic L.statics hcS0 hiss (a' (.isRef (.static Bundle.tN "SUPPRESSED_SENTINEL" Bundle.listD)) (by decide +kernel))
  obtain ⟨ci198, i198, fB, hk198, hg198, ha198, hsB, -, hnB, htB, hffB⟩ := Cond.ownField (t := .object "java/lang/Object") Y.found L.cls (by decide +kernel) (a' (.fieldLink Bundle.tN 198 Bundle.tN "backtrace" "Ljava/lang/Object;") (by decide +kernel)) (a' (.lays Bundle.tN Bundle.tN "backtrace" "Ljava/lang/Object;") (by decide +kernel)) e.platform hpl
  obtain ⟨cellS, hcS', heS, -, hkeep⟩ := X.same.2.2.2.2.2 T.aS cellS0 hcS0
  have hcellS : W.heap[T.aS]? = some cellS := hcS'
  have hout' : ∀ i, (⟨T.aS, i⟩ : Loc) ∉ locs := fun i hmem => by
    have := hlocs _ hmem cellS0 hcS0
    rw [hiss] at this; cases this
  have hknownS : cellS.vm ≠ .unknown := by
    rw [heS]; intro hu
    rw [show cellS0.vm = .unknown from hu] at hiss
    cases hiss
  have hneS : T.aS ≠ a := Nat.ne_of_lt (Nat.lt_of_lt_of_le (Array.getElem?_eq_some_iff.mp hcS0).1 hnew)
  obtain ⟨iM, hffM⟩ := Y.msg
  obtain ⟨tyC, dC, hdC, hdnC⟩ := Cond.laysAt hfound hk Y.cause (a' (.lays amNS Bundle.tN "cause" "Ljava/lang/Throwable;") (by decide +kernel))
  obtain ⟨tyS, dS, hdS, hdnS⟩ := Cond.laysAt hfound hk Y.stack (a' (.lays amNS Bundle.tN "stackTrace" Bundle.steD) (by decide +kernel))
  obtain ⟨tyP, dP, hdP, hdnP⟩ := Cond.laysAt hfound hk Y.supp (a' (.lays amNS Bundle.tN "suppressedExceptions" Bundle.listD) (by decide +kernel))
  obtain ⟨tyM, dM, hdM, hdnM⟩ := Cond.laysAt hfound hk hffM (a' (.lays amNS Bundle.tN "detailMessage" "Ljava/lang/String;") (by decide +kernel))
  obtain ⟨tyB, dB, hdB, hdnB⟩ := Cond.laysAt hfound hk hffB (a' (.lays amNS Bundle.tN "backtrace" "Ljava/lang/Object;") (by decide +kernel))
  have bC := Cond.laysApart hdB hdC hdnB hdnC (by rw [hnB, Y.causeName]; decide)
  have bS := Cond.laysApart hdB hdS hdnB hdnS (by rw [hnB, Y.stackName]; decide)
  have bP := Cond.laysApart hdB hdP hdnB hdnP (by rw [hnB, Y.suppName]; decide)
  have hskip : SkipFacts T e.platform s (fun u => u) u0 ((preparedCellV T.toThrowableT (freshCell P1.m.cls kX) a u0 sen).withEntry W.cur) :=
    ⟨{ ci198 := ci198, i198 := i198, fBack := fB }, ⟨hk198, hg198, ha198, hsB⟩, by
      have := fresh_default (c := P1.m.cls) tyB
      rw [htB] at this
      simpa [preparedCellV, Cell.setSlot, Cell.withEntry, Array.getElem?_setIfInBounds, bC, bS, bP, bC.symm, bS.symm, bP.symm, defaultValue] using this, fun _ _ => rfl⟩
  obtain ⟨tm, methC, cdC, kC, vm₁, hnC, -, -, -, -, -, -, -, hW₁, st1⟩ := Steps.initColdS (tb := p.tables) (e := e) (below := below) (s := s) (U := W) X.here hexec X.warmed hpl hown (t := Bundle.initS amNS) rfl rfl (Bundle.fit_spec am_nFit.1).2
    (a' (.methodLink "TripleTrains" 283 (Bundle.initS amNS)) (by decide +kernel)) (h (.instanceMethod (Bundle.initS amNS)) (by decide +kernel)) (bytes := am_rx) (maxL := 2) (h (.code (Bundle.initS amNS) am_rx 2 none) (by decide +kernel))
    (f := g) hg (a := a) (msg := msg) (rest := .ref a :: rest) hstack hd6
  cases Option.some.inj (hnC.symm.trans hP1m)
  have X₁ := X.noted hW₁
  have hsup : P1.sup = P2.m := Option.some.inj (hs1.symm.trans hP2m)
  obtain ⟨vm₂, X₂, st2⟩ := X₁.ctorMessageOffV hexec (g := { g with stack := .ref a :: rest }) hg hsize T L Z LZ M LM (P1 :: P2 :: Ps)
    (fun P hP => by
      rcases List.mem_cons.mp hP with rfl | hP
      · exact L1
      · rcases List.mem_cons.mp hP with rfl | hP
        · exact L2
        · exact hL P hP) ⟨hsup, hlink1, hlink⟩ (u0 := u0) (sen := sen) (self := a) hmsg (cell := freshCell P1.m.cls kX) (cellS := cellS)
    hcell (fun _ => by simp) (by simp) rfl rfl hsel0 hselF hcellS hneS hknownS (by rw [hkeep _ (hout' _)]; exact hu0) (by rw [hkeep _ (hout' _)]; exact hsen)
    (Takes.of_laid hk hord tyC (by rw [Y.causeType]; rfl)) (Takes.of_laid hk hord tyS (by rw [Y.stackType]; exact fits_refV_array _ u0)) (Takes.of_laid hk hord tyP (by rw [Y.suppType]; exact fits_refV_object _ sen))
    (Takes.of_laid hk hord tyM (by rw [Y.msgType]; exact fits_refV_object _ ⟨msg, hmsg⟩)) Y.objLocals hskip htr [] hd6
    (by simp only [List.length_cons, hlen, List.length_nil]; omega) (by simp only [List.length_cons, hlen, List.length_nil]; exact hRlocals)
  obtain ⟨hwalk, hrun, hended, hWU, hsame⟩ := X₂.athrowLeaves hexec (g := { g with stack := .ref a :: rest, pc := g.pc + 3 }) hg hlocked hentered hout (a := a) (rest := rest) rfl hd9
  have hlt : a < ((W.setVm vm₁).setVm vm₂).heap.size := (Array.getElem?_eq_some_iff.mp hcell).1
  have hU := heapAt_setCell_self (s := (W.setVm vm₁).setVm vm₂) (plainBareV T.toThrowableT (freshCell P1.m.cls kX) a u0 sen msg) hlt
  refine ⟨_, st1 _ (fun acts => ?_), hrun, hended, hWU, hsame.weaken (fun y hy hlt' => ?_) (Nat.le_refl _) (Nat.le_refl _), _, hU, hfound, rfl⟩
  · rw [doInvoke_state]
    exact st2 _ hwalk
  · rcases List.mem_append.mp hy with h1 | h1
    · exact h1
    · exfalso
      have hb : y.base = a := by
        simp only [List.mem_cons, List.not_mem_nil, or_false] at h1
        rcases h1 with rfl | rfl | rfl | rfl | rfl <;> rfl
      rw [hb] at hlt'
      exact Nat.not_lt.mpr hnew hlt'
end AMN
section AMN2
variable {p : Program} {l : Launch} {e : Env} {R : Room} {s : State} {m : MethodId} {args : Array Value} {below : List Frame} {meth : Method} {c : Code} {H : Heap} {locs : List Loc} {cells slots : Nat}
variable {free : Addr → Prop} {ls : Array Slot} {rest : List Value} {Qc : Array Value → State → Outcome → State → Prop} {XC : String → State → State → Prop}
set_option maxHeartbeats 4000000 in
theorem am_throwN {cc : ByteArray} {pc : Nat} (hexec : p.tables.exec = Jvm.exec) (hb : c.code = cc) (hl : l.stackTraces = false) {text : String} {ik is k mc ms sa : Nat} {A : Nat → Prop}
    (hown : s.vm.findClass "TripleTrains" = some m.cls)
    (hk : (Jvm.Cond.classLink "TripleTrains" ik amNS).before args s = true) (hini : (Jvm.Cond.initialized amNS).before args s = true) (hstr : vk_R "TripleTrains" is text sa s) (hat : ∀ w ∈ am_nw.filter vx_no, w.before args s = true)
    (hgood : ∀ w ∈ am_nw.filter vx_no, vx_ot w = true)
    (hU : vx_Zq Bundle.tN "UNASSIGNED_STACK" Bundle.steD A s s.heap) (hN : vx_Zq Bundle.tN "SUPPRESSED_SENTINEL" Bundle.listD A s s.heap) (hS : va_S A s.heap H locs) (hsize : ls.size = c.maxLocals)
    (d0 : decode cc pc = .ok (.new ik, 3)) (d3 : decode cc (pc + 3) = .ok (.dup, 1)) (hld : (decode cc (pc + 4) = .ok (.ldc is, 2) ∧ k = 6) ∨ (decode cc (pc + 4) = .ok (.ldc_w is, 3) ∧ k = 7)) (d6 : decode cc (pc + k) = .ok (.invokespecial 283, 3)) (d9 : decode cc (pc + k + 3) = .ok (.athrow, 1))
    (hout : ∀ x ∈ c.exceptionTable.toList, covers x (pc + k + 3) = false)
    (hRframes : 5 < R.frames) (hRlocals : (rest.map fun v => v.category).sum + 82 ≤ R.locals) (hRcells : cells + 1 ≤ R.cells) (hRslots : slots + 6 ≤ R.slots) (hlocks : meth.locks = false)
    (hx : ∀ t : State, s.vm.Alike t.vm → H.size ≤ t.heap.size → (∀ q : Nat, q < H.size → t.heap[q]? = H[q]?) → XC amNS s t)
    (hf : ∀ z ∈ locs, free z.base) (hc : cells + 1 ≤ mc) (hs : slots + 6 ≤ ms) :
    W p l e R s m args below meth c H locs cells slots (vx_MQ below Qc XC args s mc ms free) (F0 m pc ls rest) := by
  intro T hT X
  have htr : e.platform.stackTraces = false := (show e.platform.stackTraces = l.stackTraces by rw [X.admits.platform]).trans hl
  have Y := vx_rebase X (R' := { frames := R.frames, locals := R.locals, cells := 1, slots := 6 }) (Nat.le_refl _) (Nat.le_refl _) hRcells hRslots
  obtain ⟨s', hA⟩ : ∃ z, z = (T.setVm s.vm).setFrames (.invoking m args :: below) := ⟨_, rfl⟩
  rw [← hA] at Y
  have hvm : s'.vm = s.vm := by rw [hA]; rfl
  have hhp : s'.heap = H := by rw [hA]; exact hT
  have hW0 : s.WarmedH s'.vm := by rw [hvm]; exact State.WarmedH.refl s
  have hat' : ∀ w ∈ am_nw.filter vx_no, w.before args s' = true := fun w hw => vx_ot_at hW0 hvm.symm (hgood w hw) (hat w hw)
  have hk' : (Jvm.Cond.classLink "TripleTrains" ik amNS).before args s' = true := vx_ot_at hW0 hvm.symm rfl hk
  have hini' : (Jvm.Cond.initialized amNS).before args s' = true := vx_ot_at hW0 hvm.symm rfl hini
  have hU' : vx_Zq Bundle.tN "UNASSIGNED_STACK" Bundle.steD A s' s'.heap := by rw [hhp]; exact vx_Zq.moved hW0.alike (hU.kept hS.2.1)
  have hN' : vx_Zq Bundle.tN "SUPPRESSED_SENTINEL" Bundle.listD A s' s'.heap := by rw [hhp]; exact vx_Zq.moved hW0.alike (hN.kept hS.2.1)
  have h : ∀ w ∈ am_nw, w.before args s' = true := vx_own hat' (vx_isRefq hU'.1) (vx_isRefq hN'.1) hU'.2.word hN'.2.word
  have hown' : s'.vm.findClass "TripleTrains" = some m.cls := by rw [hvm]; exact hown
  have hins : (Jvm.Cond.instantiable amNS 6).before args s' = true := h _ (by decide +kernel)
  obtain ⟨vm₁, cX, kX, hfX, hkX, -, -, X₁, st1⟩ := Y.newCold hexec (own := "TripleTrains") (C := amNS) (index := ik) (n := 6) hown' hk' hins hini'
    (g := F0 m pc ls rest) rfl (by rw [hb]; exact d0) (Nat.le_refl _) (Nat.le_refl _)
  generalize hT1 : (T.setVm vm₁).pushCell { cls := cX, slots := kX.instanceTypes.map defaultValue, vm := .none } = T1 at X₁ st1
  have hcat : (Value.ref T.heap.size).category = 1 := rfl
  have hcellA : T1.heap[T.heap.size]? = some (freshCell cX kX) := by rw [← hT1]; exact State.heap_pushCell_size _ _
  have d3' : decode c.code (pc + 3) = .ok (.dup, 1) := by rw [hb]; exact d3
  have hstr' : vk_R "TripleTrains" is text sa s' := vk_R.warm hW0 hstr
  obtain ⟨U, hsteps, hrun, hend, hW, hsame, ce, hce, hcl9, hv9⟩ := am_ctorN X₁ hexec htr hown' h (fun x hx => nomatch hx) hfX hkX hcellA (by rw [hhp, hT]; exact Nat.le_refl _) (msg := .ref sa) rfl
    (g := { method := m, pc := pc + k, locals := ls, stack := .ref sa :: .ref T.heap.size :: .ref T.heap.size :: rest, locked := none }) rfl hsize rfl rfl (rest := rest) rfl
    (by rw [hb]; exact d6) (by rw [hb]; exact d9) hout hRframes (by simp only [List.map_cons, List.sum_cons, hcat]; show 2 * 0 + _ + 81 ≤ R.locals; omega) hlocks
  obtain ⟨f1, f2⟩ := vx_frame hsame
  rw [hhp] at f1 f2
  have hWs : s.WarmedH U.vm := State.WarmedH.trans hW0 hW
  have hcl : s.vm.findClass amNS = some ce.cls := by
    rw [hvm] at hcl9
    exact hcl9
  have hall : s.sameButNew ({ U with vm := s.vm } : State) locs mc ms := by
    subst hA
    obtain ⟨e1, e2⟩ := hsame
    rw [State.setFrames_setFrames] at e1
    have h2 : (T.setVm s.vm).sameButNew ({ U with vm := s.vm } : State) [] (0 + 1) (0 + 6) := ⟨e1, e2⟩
    have h3 := X.same.trans h2
    rw [List.append_nil] at h3
    exact h3.mono hc hs
  refine ⟨U, ?_, .threw T.heap.size, hrun, hend, Or.inr ⟨T.heap.size, rfl, amNS, ce, locs, hx U hWs.alike f1 (fun q hq => f2 q hq (fun z hz => nomatch hz)), hce, hv9, hcl, hWs, hall, hf⟩⟩
  refine st1 _ ?_
  show Steps p.tables e below (T1.setTop { method := m, pc := pc + 3, locals := ls, stack := .ref T.heap.size :: rest, locked := none }) _
  jvm_step X₁.here [X₁.here.top, hexec, d3', Value.category]
  rcases hld with ⟨d4, rfl⟩ | ⟨d4, rfl⟩
  · exact X₁.ldcString hexec (own := "TripleTrains") (text := text) (index := is) (a := sa) hown' hstr'.1 hstr'.2
      (g := { method := m, pc := pc + 4, locals := ls, stack := .ref T.heap.size :: .ref T.heap.size :: rest, locked := none }) rfl (by rw [hb]; exact d4) _ hsteps
  · exact X₁.ldcStringW hexec (own := "TripleTrains") (text := text) (index := is) (a := sa) hown' hstr'.1 hstr'.2
      (g := { method := m, pc := pc + 4, locals := ls, stack := .ref T.heap.size :: .ref T.heap.size :: rest, locked := none }) rfl (by rw [hb]; exact d4) _ hsteps
end AMN2
def yzAll : List Jvm.Cond → List Nat → Bool
  | [], _ => true
  | _ :: _, [] => false
  | w :: r, i :: l => decide (lw_tbl[i]? = some w) && yzAll r l
theorem yzAll_s : ∀ {L : List Jvm.Cond} {I : List Nat}, yzAll L I = true → ∀ w, w ∈ L → w ∈ lw_tbl
  | [], _, _, w, hw => by cases hw
  | _ :: _, [], h, _, _ => by cases h
  | v :: r, i :: l, h, w, hw => by
    obtain ⟨h1, h2⟩ := Bool.and_eq_true_iff.mp h
    rcases List.mem_cons.mp hw with e | e
    · rw [e]; exact List.mem_of_getElem? (of_decide_eq_true h1)
    · exact yzAll_s h2 w e
def yzOk (w : Jvm.Cond) : Bool := vx_ot w && (goodWord w || (amNk w && decide (w.onTables = true)))
theorem yzOk_s {w : Jvm.Cond} (h : yzOk w = true) : vx_ot w = true ∧ (goodWord w = true ∨ (amNk w = true ∧ w.onTables = true)) := by
  obtain ⟨h1, h2⟩ := Bool.and_eq_true_iff.mp h
  refine ⟨h1, (Bool.or_eq_true_iff.mp h2).imp id (fun z => ?_)⟩
  obtain ⟨h3, h4⟩ := Bool.and_eq_true_iff.mp z
  exact ⟨h3, of_decide_eq_true h4⟩
theorem yzBoth {L : List Jvm.Cond} {I : List Nat} (h1 : L.all yzOk = true) (h2 : yzAll L I = true) : ∀ w ∈ L, vx_ot w = true ∧ w ∈ lw_tbl ∧ (goodWord w = true ∨ (amNk w = true ∧ w.onTables = true)) := fun w hw =>
  ⟨(yzOk_s (List.all_eq_true.mp h1 w hw)).1, yzAll_s h2 w hw, (yzOk_s (List.all_eq_true.mp h1 w hw)).2⟩
theorem am_nOk : ∀ w ∈ am_nw.filter vx_no, vx_ot w = true ∧ w ∈ lw_tbl ∧ (goodWord w = true ∨ (amNk w = true ∧ w.onTables = true)) := yzBoth (I := [142, 1000, 1009, 1014, 1017, 1019, 1001, 1002, 156, 157, 1003, 1008, 1015, 1035, 990, 1036, 992, 1037, 994, 1004, 1006, 996, 1031, 1032, 1034, 996, 1282, 1283, 1284, 1025, 982, 1025, 1026, 1027, 1028, 984, 1028, 1029, 1030, 1031, 986, 1281, 1272, 1273, 1274, 1013, 1275, 1276, 1277, 1278, 999, 998, 1279]) (by decide +kernel) (by decide +kernel)
end
/-! ##### 06.frames ##### -/
section
/-! ===== making cells; ends ===== -/
def amThr (own : String) (cc : ByteArray) (pc k a b : Nat) : Prop :=
  ∃ (cls : String) (is : Nat) (text : String) (ic : Nat), amEx[a]? = some cls ∧ amStr[(b - 1) / 2]? = some (own, is, text) ∧ Bundle.fit cls = true ∧ Jvm.Cond.classLink own k cls ∈ amWL ∧ Jvm.Cond.initialized cls ∈ amWL ∧
    ((a = 3 ∧ own = "TripleTrains" ∧ ic = 283) ∨ ∀ w ∈ vx_atS own ic cls amXn, vx_ot w = true ∧ w ∈ lw_tbl ∧ (goodWord w = true ∨ (amNk w = true ∧ w.onTables = true))) ∧ decode cc (pc + 3) = .ok (.dup, 1) ∧
    (if (b - 1) % 2 = 0 then decode cc (pc + 4) = .ok (.ldc is, 2) ∧ decode cc (pc + 6) = .ok (.invokespecial ic, 3) ∧ decode cc (pc + 9) = .ok (.athrow, 1)
     else decode cc (pc + 4) = .ok (.ldc_w is, 3) ∧ decode cc (pc + 7) = .ok (.invokespecial ic, 3) ∧ decode cc (pc + 10) = .ok (.athrow, 1))
def amNotMH (y : MethodName) : Prop := y.cls ≠ "java/lang/invoke/MethodHandle" ∧ y.cls ≠ "java/lang/invoke/VarHandle"
/-- what a making or calling instruction is linked to -/
def amLk2 (G : Nat → Option amM) (X : Nat → Option amN) (own : String) (cc : ByteArray) (pc : Nat) (i : Instr) (a b : Nat) : Prop :=
  match i with
  | .new k => if b = 0 then (∃ r, vwCl[a]? = some r ∧ Jvm.Cond.classLink own k r.1 ∈ amWL ∧ Jvm.Cond.instantiable r.1 r.2.2 ∈ amWL ∧ Jvm.Cond.initialized r.1 ∈ amWL) else amThr own cc pc k a b
  | .newarray t => ∀ q, amKind t = some q → Jvm.Cond.arrayClass (newarray.typeOf t) ∈ amWL
  | .anewarray k => Jvm.Cond.classLink own k "TripleTrains$Snapshot" ∈ amWL
  | .invokevirtual k => if b = 7 then Jvm.Cond.methodLink own k yJ0_length_8abf5 ∈ amWL else if b = 8 then Jvm.Cond.methodLink own k yJ0_charAt_5068e ∈ amWL else ∃ N M r n, X a = some N ∧ G a = some M ∧ N.2.2 = [] ∧ vwCl[M.2.2.2.2.2.2]? = some r ∧ N.1.cls = r.1 ∧ Jvm.Cond.methodLink own k N.1 ∈ amWL ∧ Jvm.Cond.instanceMethod N.1 ∈ amWL ∧ Jvm.Cond.selects r.1 N.1 N.1 ∈ amWL ∧ Jvm.Cond.initialized r.1 ∈ amWL ∧ Jvm.Cond.code N.1 N.2.1 M.2.1 M.2.2.2.2.1 ∈ amWL ∧ amNotMH N.1 ∧ (parseMethodDescriptor N.1.desc).map (fun d => d.parameters.length) = some n ∧ M.2.2.1 = n + 1
  | .invokestatic k => if b = 6 then Jvm.Cond.methodLink own k arraycopyName ∈ amWL ∧ Jvm.Cond.native arraycopyName ∈ amWL ∧ Jvm.Cond.static arraycopyName ∈ amWL ∧ Jvm.Cond.initialized "java/lang/System" ∈ amWL
      else ∃ N M, X a = some N ∧ G a = some M ∧ (if b = 0 then N.2.2 = [] ∧ Jvm.Cond.code N.1 N.2.1 M.2.1 M.2.2.2.2.1 ∈ amWL else N.2.2 ≠ [] ∧ Jvm.Cond.codeWith N.1 N.2.1 M.2.1 M.2.2.2.2.1 N.2.2 ∈ amWL) ∧ Jvm.Cond.methodLink own k N.1 ∈ amWL ∧ Jvm.Cond.static N.1 ∈ amWL ∧ Jvm.Cond.initialized N.1.cls ∈ amWL ∧ amNotMH N.1 ∧ (parseMethodDescriptor N.1.desc).map (fun d => d.parameters.length) = some M.2.2.1
  | .invokespecial k => if b = 5 then Jvm.Cond.methodLink own k Lib.objectInit ∈ amWL ∧ Jvm.Cond.instanceMethod Lib.objectInit ∈ amWL ∧ Jvm.Cond.code Lib.objectInit ⟨#[0xb1]⟩ 1 none ∈ amWL
      else ∃ N M n, X a = some N ∧ G a = some M ∧ N.2.2 = [] ∧ M.2.2.2.2.1 = none ∧ (Jvm.Cond.methodLink own k N.1 ∈ amWL ∨ ∃ host, Jvm.Cond.methodLinkNest own k N.1 host ∈ lw_tbl) ∧ Jvm.Cond.instanceMethod N.1 ∈ amWL ∧ Jvm.Cond.initialized N.1.cls ∈ amWL ∧ Jvm.Cond.code N.1 N.2.1 M.2.1 none ∈ amWL ∧ N.1.name = "<init>" ∧ amNotMH N.1 ∧ (parseMethodDescriptor N.1.desc).map (fun d => d.parameters.length) = some n ∧ M.2.2.1 = n + 1
  | _ => True
/-- an entry of a method's code -/
def amEok (G : Nat → Option amM) (X : Nat → Option amN) (N : amN) (M : amM) (q : Nat × amIn1) : Prop :=
  (∃ n, decode N.2.1 q.1 = .ok (q.2.1, n) ∧ (amSz q.2.1 = 0 ∨ n = amSz q.2.1)) ∧ amLk amWL N.1.cls M.2.2.2.1 q.1 q.2.1 q.2.2.1 q.2.2.2 ∧ amLk2 G X N.1.cls N.2.1 q.1 q.2.1 q.2.2.1 q.2.2.2
theorem am_up_ag {hp : amH} {ad : Nat → Nat} {q : Nat} (h : hp.length < amK) : amAg hp.length ad (va_up ad hp.length q) := by
  intro i hi
  unfold va_up
  rw [if_neg]
  rcases hi with hi | hi <;> omega
theorem am_rep_i {n : Nat} : (fun j => amInt ((List.replicate n (.int 0)).getD j .null)) = fun _ => (0 : Int32) := by
  funext j
  by_cases h : j < n
  · simp [List.getElem?_replicate, h, amInt]
  · simp [List.getElem?_replicate, h, amInt]
theorem am_rep_l {n : Nat} : (fun j => amLong ((List.replicate n (.long 0)).getD j .null)) = fun _ => (0 : Int64) := by
  funext j
  by_cases h : j < n
  · simp [List.getElem?_replicate, h, amLong]
  · simp [List.getElem?_replicate, h, amLong]
theorem am_rep_q {ad : Nat → Nat} {n : Nat} : (fun j => amRef ad ((List.replicate n .null).getD j .null)) = fun _ => (none : Option Nat) := by
  funext j
  by_cases h : j < n
  · simp [List.getElem?_replicate, h, amRef]
  · simp [List.getElem?_replicate, h, amRef]
theorem amDef_len {ci : Nat} {r : vw_C} (h : vwCl[ci]? = some r) : (amDef ci).length = r.2.2 := by simp [amDef, h]
theorem amDef_at {ci : Nat} {r : vw_C} (h : vwCl[ci]? = some r) {j : Nat} (hj : j < r.2.2) : defaultValue (amFty ci j) = vp_V (amDef ci) j := by
  simp [vp_V, amDef, h, hj]
theorem am_default (ad : Nat → Nat) (ty : FieldType) : amV ad (defaultValue ty) = defaultValue ty := by cases ty <;> rfl
theorem amDef_map (ad : Nat → Nat) (ci : Nat) : (amDef ci).map (amV ad) = amDef ci := by
  unfold amDef
  split
  · rw [List.map_map]
    exact List.map_congr_left fun k _ => am_default ad _
  · rfl
theorem am_lt32 {a : Nat} {r : vw_C} (h : vwCl[a]? = some r) : a < 32 := by
  have h1 := (List.getElem?_eq_some_iff.mp h).1
  have h2 : vwCl.length = 12 := rfl
  omega
theorem am_cpy {c0 c1 : List Value} {sp dp n : Nat} (h0 : sp + n ≤ c0.length) (h1 : dp + n ≤ c1.length) : (fun j => amInt ((c1.take dp ++ ((c0.drop sp).take n ++ c1.drop (dp + n))).getD j .null)) = va_cpy (fun j => amInt (c0.getD j .null)) (fun j => amInt (c1.getD j .null)) sp dp n := by
  funext j
  unfold va_cpy
  dsimp only
  by_cases h2 : dp ≤ j ∧ j < dp + n
  · rw [if_pos h2]
    congr 1
    rw [List.getD_eq_getElem?_getD, List.getD_eq_getElem?_getD, List.getElem?_append_right (by simp; omega), List.getElem?_append_left (by simp; omega)]
    simp only [List.length_take]
    rw [List.getElem?_take, if_pos (by omega), List.getElem?_drop]
    congr 2
    omega
  · rw [if_neg h2]
    congr 1
    rw [List.getD_eq_getElem?_getD, List.getD_eq_getElem?_getD]
    by_cases h3 : j < dp
    · rw [List.getElem?_append_left (by simp; omega), List.getElem?_take, if_pos h3]
    · rw [List.getElem?_append_right (by simp; omega), List.getElem?_append_right (by simp; omega), List.getElem?_drop]
      congr 2
      simp only [List.length_take, List.length_drop]
      omega
theorem am_cpy_len {c0 c1 : List Value} {sp dp n : Nat} (h0 : sp + n ≤ c0.length) (h1 : dp + n ≤ c1.length) : (c1.take dp ++ ((c0.drop sp).take n ++ c1.drop (dp + n))).length = c1.length := by
  simp
  omega
section AMD
variable {p : Program} {l : Launch} {e : Env} {R : Room} {s : State} {m : MethodId} {args : Array Value} {below : List Frame} {meth : Method} {c : Code} {H : Heap} {locs : List Loc} {cells slots : Nat} {Q : State → Prop}
variable {D : va_G} {dA : Nat → ClassId} {A : Nat → Prop} {sA : Nat → Nat}
theorem am_new {dA : Nat → ClassId} {ad : Nat → Nat} {hp : amH} {q : Nat} {t : Nat} {vs : List Value} {E : va_E} (hH : amOkH hp.length hp = true) (hk : hp.length < amK) (hE : amE dA (va_up ad hp.length q) (t, vs) = E) : amW dA ad hp ++ [(q, E)] = amW dA (va_up ad hp.length q) (hp ++ [(t, vs)]) := by
  rw [amW_push, amW_ag hH (am_up_ag hk), hE]
  simp [va_up]
theorem am_newst {ad : Nat → Nat} {hp : amH} {q : Nat} {r : List Value} (hr : amOkS hp.length r = true) (hk : hp.length < amK) : (Value.ref hp.length :: r).map (amV (va_up ad hp.length q)) = .ref q :: r.map (amV ad) := by
  rw [List.map_cons, amSt_ag hr (am_up_ag hk)]
  simp [amV, va_up]
set_option maxHeartbeats 1000000 in
theorem am_act (hx : p.tables.exec = Jvm.exec) {G : Nat → Option amM} {X : Nat → Option amN} {N : amN} {M : amM} (hb : c.code = N.2.1) (hml : c.maxLocals = M.2.1) (hts : ∀ w ∈ amWL, w.before args s = true) (hown : s.vm.findClass N.1.cls = some m.cls) (hG : amG D dA sA s) (hZ9 : amZ sA A s s.heap) (hus : ∀ (ci : Nat) (r : vw_C), vwCl[ci]? = some r → ∀ w ∈ u_ws r.1 r.2.1 r.2.2, w ∈ amWL) (hcl : amClOk) (hini : M.2.2.2.1 = true → meth.name = "<init>") {sc : Option (List Int32)} {ad : Nat → Nat} (hsA : ∀ k, ad (amK + k) = sA k) (hsc : ∀ l9, sc = some l9 → va_X (sA 999999) l9.length (fun j => l9.getD j 0) s s.heap ∧ sA 999999 < s.heap.size ∧ ¬ A (sA 999999)) (hA : ∀ q, s.heap.size ≤ q → A q)
    {pc a b : Nat} {i : Instr} (hE : amEok G X N M (pc, i, a, b)) (hR8 : 8 ≤ R.frames ∧ 128 ≤ R.locals) (hroom9 : cells ≤ R.cells ∧ slots ≤ R.slots) {ls : amL} {st : List Value} {hp : amH} {r : amR} {dk ds : Nat} (h : amDo G M sc i a b pc ls st hp = some (.inl (r, dk, ds))) (hroom : cells + dk ≤ R.cells ∧ slots + ds ≤ R.slots) {lsA : Array Slot} (hl : lv_has lsA M.2.1 (amLs ad ls)) (hP : va_P D vwCl (amW dA ad hp) H) (hD : va_D A (amW dA ad hp)) (hS : va_S A s.heap H locs)
    (kk : ∀ (ad1 : Nat → Nat) (H1 : Heap) (locs1 : List Loc) (lsA1 : Array Slot), amAg hp.length ad ad1 → va_P D vwCl (amW dA ad1 r.2.2.2) H1 → va_D A (amW dA ad1 r.2.2.2) → va_S A s.heap H1 locs1 → lv_has lsA1 M.2.1 (amLs ad1 r.2.1) → W p l e R s m args below meth c H1 locs1 (cells + dk) (slots + ds) Q (F0 m r.1 lsA1 (r.2.2.1.map (amV ad1)))) :
    W p l e R s m args below meth c H locs cells slots Q (F0 m pc lsA (st.map (amV ad))) := by
  obtain ⟨hd, hlk, hlk2⟩ := hE
  dsimp only at hd hlk hlk2
  have hK := hG.1
  have hR : 1 ≤ R.frames ∧ 100 ≤ R.locals := ⟨by omega, by omega⟩
  unfold amDo at h
  split at h
  case h_1 z =>
    split at h
    · next hb0 =>
      obtain ⟨o1, o2, o3, o4, e1⟩ := amMake_s h
      cases e1
      unfold amLk2 at hlk2
      dsimp only at hlk2
      rw [if_pos hb0] at hlk2
      obtain ⟨r, hc, w1, w2, w3⟩ := hlk2
      obtain ⟨n, hd, hn⟩ := hd
      obtain rfl : n = 3 := by rcases hn with hn | hn <;> first | exact hn | cases hn
      dsimp only at hroom kk
      rw [amDef_len hc] at hroom kk
      refine va_new (c0 := c) (D := D) (ci := a) (fs := amDef a) hx hb hts (hus a r hc) (amFty a) (hcl a r hc).1 hown (hts _ w1) (hts _ w2) (hts _ w3) hK hP hD hS hA hc (fun j hj => amDef_at hc hj) hroom.1 hroom.2 hd (fun q H1 hP1 hD1 hS1 => ?_)
      have e2 := am_new (q := q) (E := .inr (a, amDef a)) (t := a) (vs := amDef a) (dA := dA) (ad := ad) o3 o4 (by rw [amE_obj (am_lt32 hc), amDef_map])
      rw [e2] at hP1 hD1
      exact W.eq (congrArg (fun z => F0 m (pc + 3) lsA z) (am_newst (q := q) (ad := ad) o2 o4).symm) (kk (va_up ad hp.length q) H1 locs lsA (am_up_ag o4) hP1 hD1 hS1 (by rw [amLs_ag o1 (am_up_ag o4)]; exact hl))
    · split at h <;> cases h
  case h_2 t =>
    obtain ⟨n, q, t0, v, rfl, hk, hn0, hn1, h⟩ := amMakeA_s h
    obtain ⟨o1, o2, o3, o4, e1⟩ := amMake_s h
    cases e1
    have hw := hlk2 _ hk
    obtain ⟨k, hd, hn⟩ := hd
    obtain rfl : k = 2 := by rcases hn with hn | hn <;> first | exact hn | cases hn
    dsimp only [List.length_replicate] at hroom kk
    rw [List.length_replicate] at hroom kk
    cases t <;> cases hk
    case refl.byte.refl =>
      refine va_newa (D := D) (ty := .byte) (a0 := (n.toNatClampNeg, .inl fun _ => 0)) hx hb (hts _ hw) rfl hK hP hD hS hA (fun _ => rfl) hn0 rfl (by show n.toNatClampNeg * 1 ≤ _; omega) hroom.1 hroom.2 hd (fun q1 cA H1 hK1 hP1 hD1 hS1 => ?_)
      have hcA : cA = dA 2 := Option.some.inj ((hK1.2 4 (cA, .byte) rfl).2.symm.trans (hK.2 2 (dA 2, .byte) rfl).2)
      subst hcA
      have e2 := am_new (q := q1) (E := .inl (dA 2, n.toNatClampNeg, .inl fun _ => 0)) (t := 34) (vs := List.replicate n.toNatClampNeg (.int 0)) (dA := dA) (ad := ad) o3 o4 (by show Sum.inl _ = _; rw [am_rep_i, List.length_replicate])
      rw [e2] at hP1 hD1
      exact W.eq (congrArg (fun z => F0 m (pc + 2) lsA z) (am_newst (q := q1) (ad := ad) o2 o4).symm) (kk (va_up ad hp.length q1) H1 locs lsA (am_up_ag o4) hP1 hD1 hS1 (by rw [amLs_ag o1 (am_up_ag o4)]; exact hl))
    case refl.int.refl =>
      refine va_newa (D := D) (ty := .int) (a0 := (n.toNatClampNeg, .inl fun _ => 0)) hx hb (hts _ hw) rfl hK hP hD hS hA (fun _ => rfl) hn0 rfl (by show n.toNatClampNeg * 4 ≤ _; omega) hroom.1 hroom.2 hd (fun q1 cA H1 hK1 hP1 hD1 hS1 => ?_)
      have hcA : cA = dA 0 := Option.some.inj ((hK1.2 4 (cA, .int) rfl).2.symm.trans (hK.2 0 (dA 0, .int) rfl).2)
      subst hcA
      have e2 := am_new (q := q1) (E := .inl (dA 0, n.toNatClampNeg, .inl fun _ => 0)) (t := 32) (vs := List.replicate n.toNatClampNeg (.int 0)) (dA := dA) (ad := ad) o3 o4 (by show Sum.inl _ = _; rw [am_rep_i, List.length_replicate])
      rw [e2] at hP1 hD1
      exact W.eq (congrArg (fun z => F0 m (pc + 2) lsA z) (am_newst (q := q1) (ad := ad) o2 o4).symm) (kk (va_up ad hp.length q1) H1 locs lsA (am_up_ag o4) hP1 hD1 hS1 (by rw [amLs_ag o1 (am_up_ag o4)]; exact hl))
    case refl.long.refl =>
      refine va_newa (D := D) (ty := .long) (a0 := (n.toNatClampNeg, .inr (.inl fun _ => 0))) hx hb (hts _ hw) rfl hK hP hD hS hA (fun _ => rfl) hn0 rfl (by show n.toNatClampNeg * 8 ≤ _; omega) hroom.1 hroom.2 hd (fun q1 cA H1 hK1 hP1 hD1 hS1 => ?_)
      have hcA : cA = dA 1 := Option.some.inj ((hK1.2 4 (cA, .long) rfl).2.symm.trans (hK.2 1 (dA 1, .long) rfl).2)
      subst hcA
      have e2 := am_new (q := q1) (E := .inl (dA 1, n.toNatClampNeg, .inr (.inl fun _ => 0))) (t := 33) (vs := List.replicate n.toNatClampNeg (.long 0)) (dA := dA) (ad := ad) o3 o4 (by show Sum.inl _ = _; rw [am_rep_l, List.length_replicate])
      rw [e2] at hP1 hD1
      exact W.eq (congrArg (fun z => F0 m (pc + 2) lsA z) (am_newst (q := q1) (ad := ad) o2 o4).symm) (kk (va_up ad hp.length q1) H1 locs lsA (am_up_ag o4) hP1 hD1 hS1 (by rw [amLs_ag o1 (am_up_ag o4)]; exact hl))
  case h_3 z =>
    obtain ⟨n, q, t0, v, rfl, hk, hn0, hn1, h⟩ := amMakeA_s h
    obtain ⟨o1, o2, o3, o4, e1⟩ := amMake_s h
    cases e1
    cases hk
    obtain ⟨k, hd, hn⟩ := hd
    obtain rfl : k = 3 := by rcases hn with hn | hn <;> first | exact hn | cases hn
    dsimp only at hroom kk
    rw [List.length_replicate] at hroom kk
    refine va_newq (D := D) (C := "TripleTrains$Snapshot") hx hb hown (hts _ hlk2) hG.2.2.2.2 hK hP hD hS hA hn0 rfl (by omega) hroom.1 hroom.2 hd (fun q1 cA H1 hK1 hP1 hD1 hS1 => ?_)
    have hcA : cA = dA 3 := by
      obtain ⟨_, _, -, -, -, g1⟩ := (hK1.2 4 (cA, .object "TripleTrains$Snapshot") rfl).2
      obtain ⟨_, _, -, -, -, g2⟩ := (hK.2 3 (dA 3, .object "TripleTrains$Snapshot") rfl).2
      exact Option.some.inj (g1.symm.trans g2)
    subst hcA
    have e2 := am_new (q := q1) (E := .inl (dA 3, n.toNatClampNeg, .inr (.inr (.inr (.inr fun _ => none))))) (t := 35) (vs := List.replicate n.toNatClampNeg .null) (dA := dA) (ad := ad) o3 o4 (by show Sum.inl _ = _; rw [am_rep_q, List.length_replicate])
    rw [e2] at hP1 hD1
    exact W.eq (congrArg (fun z => F0 m (pc + 3) lsA z) (am_newst (q := q1) (ad := ad) o2 o4).symm) (kk (va_up ad hp.length q1) H1 locs lsA (am_up_ag o4) hP1 hD1 hS1 (by rw [amLs_ag o1 (am_up_ag o4)]; exact hl))
  case h_4 z =>
    have S9 : CallFix p m c N.2.1 M.2.1 s args amWL N.1.cls := ⟨hx, hb, hml, hown, hts⟩
    have hke : ∀ {H1 : Heap}, (∀ q : Nat, q < H.size → H1[q]? = H[q]?) → va_P D vwCl (amW dA ad hp) H1 := fun hs => hP.kept (fun k q hk => hs q.1 ((hP k q hk).lt))
    split at h
    · next hb7 =>
      obtain ⟨k9, l9, q, hk9, rfl, h6, e1⟩ := amLenS_s h
      cases e1
      unfold amLk2 at hlk2
      dsimp only at hlk2
      rw [if_pos hb7] at hlk2
      obtain ⟨k, hd, hn⟩ := hd
      obtain rfl : k = 3 := by rcases hn with hn | hn <;> first | exact hn | cases hn
      have hcat : ((q.map (amV ad)).map fun v => v.category).sum ≤ 8 := by
        rw [List.map_map]
        simpa [Function.comp_def, amV_cat] using h6
      obtain ⟨t9, hB9⟩ := hZ9.2.2.2 _ hk9
      have e9 : (.ref (amK + k9) :: q).map (amV ad) = .ref (sA k9) :: q.map (amV ad) := by
        rw [List.map_cons]
        show Value.ref (ad (amK + k9)) :: _ = _
        rw [hsA]
      rw [e9]
      exact sw_lenW S9 hA hZ9.2.2.1 hB9 hS hk9 hlk2 hR8 hroom9 hl.1 hcat hd (fun H1 locs1 _ u2 u3 => kk ad H1 locs1 lsA (amAg.refl _ _) (hke u2) hD u3 hl)
    · split at h
      · next hb7 hb8 =>
        obtain ⟨i9, k9, l9, q, hk9, rfl, hi9, h6, e1⟩ := amChrS_s h
        cases e1
        unfold amLk2 at hlk2
        dsimp only at hlk2
        rw [if_neg hb7, if_pos hb8] at hlk2
        obtain ⟨k, hd, hn⟩ := hd
        obtain rfl : k = 3 := by rcases hn with hn | hn <;> first | exact hn | cases hn
        have hcat : ((q.map (amV ad)).map fun v => v.category).sum ≤ 8 := by
          rw [List.map_map]
          simpa [Function.comp_def, amV_cat] using h6
        obtain ⟨t9, hB9⟩ := hZ9.2.2.2 _ hk9
        have e9 : (.int i9 :: .ref (amK + k9) :: q).map (amV ad) = .int i9 :: .ref (sA k9) :: q.map (amV ad) := by
          rw [List.map_cons, List.map_cons]
          show _ :: Value.ref (ad (amK + k9)) :: _ = _
          rw [hsA]
          rfl
        rw [e9]
        exact sw_chrW S9 hA hZ9.2.2.1 hB9 hS hk9 hi9 hlk2 hR8 hroom9 hl.1 hcat hd (fun H1 locs1 _ u2 u3 => kk ad H1 locs1 lsA (amAg.refl _ _) (hke u2) hD u3 hl)
      · obtain ⟨_, _, _, -, -, -, -, -, -, -, -, e1⟩ := amCall_s h; cases e1
  case h_5 z =>
    split at h
    · next hb6 =>
      obtain ⟨n, dp, o, sp, a0, q, c0, c1, rfl, g0, g1, h1, h2, h3, h4, h5, h6, e1⟩ := amCopy_s h
      cases e1
      unfold amLk2 at hlk2
      dsimp only at hlk2
      rw [if_pos hb6] at hlk2
      obtain ⟨w1, w2, w3, w4⟩ := hlk2
      obtain ⟨k, hd, hn⟩ := hd
      obtain rfl : k = 3 := by rcases hn with hn | hn <;> first | exact hn | cases hn
      have e0 := amW_get (dA := dA) (ad := ad) g0
      have e1 := amW_get (dA := dA) (ad := ad) g1
      have hset : (amW dA ad hp).set o (ad o, .inl (dA 0, c1.length, .inl (va_cpy (fun j => amInt (c0.getD j .null)) (fun j => amInt (c1.getD j .null)) sp.toNatClampNeg dp.toNatClampNeg n.toNatClampNeg))) = amW dA ad (hp.set o (32, c1.take dp.toNatClampNeg ++ ((c0.drop sp.toNatClampNeg).take n.toNatClampNeg ++ c1.drop (dp.toNatClampNeg + n.toNatClampNeg)))) := by
        rw [← amW_set]
        show _ = (amW dA ad hp).set o (ad o, .inl (dA 0, List.length _, _))
        rw [am_cpy h4 h5, am_cpy_len h4 h5]
      have hcat : ((q.map (amV ad)).map fun v => v.category).sum ≤ 8 := by
        rw [List.map_map]
        simpa [Function.comp_def, amV_cat] using h6
      exact va_copyi (D := D) (ty := .int) hx hb (hml.trans hl.1.symm) hown (hts _ w1) (hts _ w2) (hts _ w3) (hts _ w4) hK hP hD hS a0 o 0 0 e0 e1 rfl rfl rfl h1 h2 h3 h4 h5 (fun _ _ => rfl) hR.1 (by
        have : nativeFrameWords "java/lang/System" "arraycopy" 5 + 11 ≤ 90 := by decide +kernel
        omega) hd (fun H1 locs1 p2 p3 p4 => kk ad H1 locs1 lsA (amAg.refl _ _) (hset ▸ p2) (hset ▸ p3) p4 hl)
    · obtain ⟨_, _, _, -, -, -, -, -, -, -, -, e1⟩ := amCall_s h; cases e1
  case h_6 z =>
    split at h
    · next hb5 =>
      obtain ⟨o, q, rfl, h6, e1⟩ := amObj_s h
      cases e1
      unfold amLk2 at hlk2
      dsimp only at hlk2
      rw [if_pos hb5] at hlk2
      obtain ⟨w1, w2, w3⟩ := hlk2
      obtain ⟨k, hd, hn⟩ := hd
      obtain rfl : k = 3 := by rcases hn with hn | hn <;> first | exact hn | cases hn
      have hcat : ((q.map (amV ad)).map fun v => v.category).sum ≤ 8 := by
        rw [List.map_map]
        simpa [Function.comp_def, amV_cat] using h6
      refine W.objInit hx hb hown (hts _ w1) (hts _ w2) (hts _ w3) rfl (hl.1.trans hml.symm) rfl hd hR.1 ?_ ?_
      · show 2 * 0 + _ + 12 ≤ _
        omega
      · exact kk ad H locs lsA (amAg.refl _ _) hP hD hS hl
    · obtain ⟨_, _, _, -, -, -, -, -, -, -, -, e1⟩ := amCall_s h; cases e1
  case h_7 => obtain ⟨v, -, e1⟩ := Option.map_eq_some_iff.mp h; cases e1
  case h_8 => obtain ⟨v, -, e1⟩ := Option.map_eq_some_iff.mp h; cases e1
  case h_9 => obtain ⟨v, -, e1⟩ := Option.map_eq_some_iff.mp h; cases e1
  case h_10 => obtain ⟨v, -, e1⟩ := Option.map_eq_some_iff.mp h; cases e1
  case h_11 => obtain ⟨v, -, e1⟩ := Option.map_eq_some_iff.mp h; cases e1
  case h_12 =>
    obtain ⟨v, h1, e1⟩ := Option.map_eq_some_iff.mp h
    cases e1
    exact amStep_ok (sA := sA) (D := D) hx hb hts hown hK hus hcl hini hG.2.1 hsA (fun l9 z => by
      have e9 : ad amS = sA 999999 := hsA 999999
      rw [e9]
      exact hsc l9 z) hd hlk h1 hl hP hD hS (fun H1 locs1 lsA1 p2 p3 p4 p5 => kk ad H1 locs1 lsA1 (amAg.refl _ _) p2 p3 p4 p5)
end AMD
end
