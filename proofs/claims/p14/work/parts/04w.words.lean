/-! ##### 04w.words ##### -/
section
/-! ===== words: what is known of them ===== -/
noncomputable def sC (A : Nat → Prop) (U : State) (H : Heap) : Prop := va_Z "java/lang/String" "COMPACT_STRINGS" "Z" (.int 1) A U H ∧ va_Zq "jdk/internal/util/Preconditions" "SIOOBE_FORMATTER" "Ljava/util/function/BiFunction;" A U H
noncomputable def sB (q t : Nat) (bs : List Int32) (A : Nat → Prop) (U : State) (H : Heap) : Prop := va_O "java/lang/String" q A U H ∧ va_OF "java/lang/String" "coder" "B" (.int 0) q A U H ∧ va_OF "java/lang/String" "value" "[B" (.ref t) q A U H ∧ va_T .byte t bs.length (fun j => .int (bs.getD j 0)) A U H
noncomputable def sW (q t : Nat) (bs : List Int32) (A : Nat → Prop) (U : State) (H : Heap) : Prop := sC A U H ∧ sB q t bs A U H
theorem sC.moved {A : Nat → Prop} {u U : State} {H : Heap} (hvm : u.vm.Alike U.vm) (h : sC A u H) : sC A U H := ⟨va_Z.moved hvm h.1, va_Zq.moved hvm h.2⟩
theorem sB.moved {q t : Nat} {bs : List Int32} {A : Nat → Prop} {u U : State} {H : Heap} (hvm : u.vm.Alike U.vm) (h : sB q t bs A u H) : sB q t bs A U H := ⟨va_O.moved hvm h.1, va_OF.moved hvm h.2.1, va_OF.moved hvm h.2.2.1, va_T.moved hvm h.2.2.2⟩
theorem sC.kept {A : Nat → Prop} {U : State} {H H1 : Heap} (h : sC A U H) (hq : ∀ a : Nat, a < H.size → ¬ A a → H1[a]? = H[a]?) : sC A U H1 := ⟨h.1.kept hq, h.2.kept hq⟩
theorem sB.kept {q t : Nat} {bs : List Int32} {A : Nat → Prop} {U : State} {H H1 : Heap} (h : sB q t bs A U H) (hq : ∀ a : Nat, a < H.size → ¬ A a → H1[a]? = H[a]?) : sB q t bs A U H1 := ⟨h.1.kept hq, h.2.1.kept hq, h.2.2.1.kept hq, h.2.2.2.kept hq⟩
theorem sC.narrow {A B : Nat → Prop} {U : State} {H : Heap} (h : sC A U H) (hAB : ∀ q, B q → A q) : sC B U H := ⟨h.1.narrow hAB, h.2.narrow hAB⟩
theorem sB.narrow {q t : Nat} {bs : List Int32} {A B : Nat → Prop} {U : State} {H : Heap} (h : sB q t bs A U H) (hAB : ∀ q, B q → A q) : sB q t bs B U H := ⟨h.1.narrow hAB, h.2.1.narrow hAB, h.2.2.1.narrow hAB, h.2.2.2.narrow hAB⟩
end
/-! ##### 05.calls ##### -/
section
/-! ===== contracts of the abstract machine's runs; calls ===== -/
/-- a method's names: name, bytes, table of handlers -/
abbrev amN : Type := MethodName × ByteArray × List (Nat × Nat × Nat × Nat)
noncomputable def amEx : List String := ["java/lang/IllegalArgumentException", "java/lang/IndexOutOfBoundsException", "java/lang/IllegalStateException", "java/util/NoSuchElementException"]
noncomputable def amXn : List String := ["java/lang/RuntimeException", "java/lang/Exception"]
noncomputable def amNk : Jvm.Cond → Bool
  | .methodLinkNest .. => true
  | .castable .. => true
  | .declares .. => true
  | _ => false
noncomputable def amNc : List (String × String) := [("java/lang/IllegalArgumentException", "java/lang/IndexOutOfBoundsException"), ("java/lang/IllegalStateException", "java/lang/IndexOutOfBoundsException"), ("java/lang/IllegalStateException", "java/lang/IllegalArgumentException"), ("java/util/NoSuchElementException", "java/lang/IndexOutOfBoundsException"), ("java/util/NoSuchElementException", "java/lang/IllegalArgumentException")]
/-- the words that every method is handed -/
noncomputable def amWL : List Jvm.Cond := lw_tbl.filter goodWord
theorem amWL_good {ws : List Jvm.Cond} (h : ∀ w ∈ ws, w ∈ amWL) : GoodIn amWL ws := fun w hw => ⟨h w hw, good_of_word (List.mem_filter.mp (h w hw)).2⟩
theorem amWL_in {w : Jvm.Cond} (h : w ∈ lw_tbl) (hg : goodWord w = true) : w ∈ amWL := List.mem_filter.mpr ⟨h, hg⟩
noncomputable def amRm (d mc ms : Nat) : Room := { frames := d + 8, cells := mc, slots := ms, locals := 128 * (d + 1) }
theorem amNk_warm {w : Jvm.Cond} {s U : State} (h : amNk w = true) (hW : s.WarmedH U.vm) (hZ : va_Nw w s) : va_Nw w U := by
  cases w <;> first
    | exact va_Nw.warmM hW hZ
    | exact va_Nw.warmC hW hZ
    | exact va_Nw.warmD hW hZ
    | cases h
/-- what the tables say at a state, beside the words -/
noncomputable def amG (D : va_G) (dA : Nat → ClassId) (sA : Nat → Nat) (U : State) : Prop :=
  va_K D vwCl (amTys dA) U ∧ (∀ (k : Nat) (r : String × Nat × String), amStr[k]? = some r → vk_R r.1 r.2.1 r.2.2 (sA k) U) ∧ (∀ w ∈ lw_tbl, amNk w = true → va_Nw w U) ∧ (∀ q ∈ amNc, va_Nc q.1 q.2 U) ∧ va_AO "TripleTrains$Snapshot" U
theorem amG.warm {D : va_G} {dA : Nat → ClassId} {sA : Nat → Nat} {s U : State} (hW : s.WarmedH U.vm) (h : amG D dA sA s) : amG D dA sA U :=
  ⟨va_K.moved hW.alike h.1, fun k r hk => vk_R.warm hW (h.2.1 k r hk), fun w hw hk => amNk_warm hk hW (h.2.2.1 w hw hk), fun q hq => va_Nc.moved hW.alike (h.2.2.2.1 q hq), va_AO.moved hW.alike h.2.2.2.2⟩
/-- the two statics that a throw reads -/
noncomputable def amZs (sA : Nat → Nat) (A : Nat → Prop) (U : State) (H : Heap) : Prop := sC A U H ∧ ∀ q ∈ amSl, ∃ t, sB (sA q.1) t q.2 A U H
noncomputable def amZ (sA : Nat → Nat) (A : Nat → Prop) (U : State) (H : Heap) : Prop := vx_Zq Bundle.tN "UNASSIGNED_STACK" Bundle.steD A U H ∧ vx_Zq Bundle.tN "SUPPRESSED_SENTINEL" Bundle.listD A U H ∧ amZs sA A U H
theorem amZs.moved {sA : Nat → Nat} {A : Nat → Prop} {u U : State} {H : Heap} (hvm : u.vm.Alike U.vm) (h : amZs sA A u H) : amZs sA A U H := ⟨sC.moved hvm h.1, fun q hq => (h.2 q hq).imp fun _ z => sB.moved hvm z⟩
theorem amZs.kept {sA : Nat → Nat} {A : Nat → Prop} {U : State} {H H1 : Heap} (h : amZs sA A U H) (hq : ∀ a : Nat, a < H.size → ¬ A a → H1[a]? = H[a]?) : amZs sA A U H1 := ⟨h.1.kept hq, fun q hm => (h.2 q hm).imp fun _ z => z.kept hq⟩
theorem amZs.narrow {sA : Nat → Nat} {A B : Nat → Prop} {U : State} {H : Heap} (h : amZs sA A U H) (hAB : ∀ q, B q → A q) : amZs sA B U H := ⟨h.1.narrow hAB, fun q hm => (h.2 q hm).imp fun _ z => z.narrow hAB⟩
theorem amZ.moved {sA : Nat → Nat} {A : Nat → Prop} {u U : State} {H : Heap} (hvm : u.vm.Alike U.vm) (h : amZ sA A u H) : amZ sA A U H := ⟨vx_Zq.moved hvm h.1, vx_Zq.moved hvm h.2.1, amZs.moved hvm h.2.2⟩
theorem amZ.kept {sA : Nat → Nat} {A : Nat → Prop} {U : State} {H H1 : Heap} (h : amZ sA A U H) (hq : ∀ a : Nat, a < H.size → ¬ A a → H1[a]? = H[a]?) : amZ sA A U H1 := ⟨h.1.kept hq, h.2.1.kept hq, h.2.2.kept hq⟩
theorem amZ.narrow {sA : Nat → Nat} {A B : Nat → Prop} {U : State} {H : Heap} (h : amZ sA A U H) (hAB : ∀ q, B q → A q) : amZ sA B U H := ⟨h.1.narrow hAB, h.2.1.narrow hAB, h.2.2.narrow hAB⟩
noncomputable def amAg (n : Nat) (ad ad1 : Nat → Nat) : Prop := ∀ i, i < n ∨ amK ≤ i → ad1 i = ad i
theorem amAg.refl (n : Nat) (ad : Nat → Nat) : amAg n ad ad := fun _ _ => rfl
theorem amAg.trans {n k : Nat} {a b c : Nat → Nat} (h : n ≤ k) (h1 : amAg n a b) (h2 : amAg k b c) : amAg n a c := fun i hi => (h2 i (hi.imp (fun z => Nat.lt_of_lt_of_le z h) id)).trans (h1 i hi)
theorem amV_ag {n : Nat} {ad ad1 : Nat → Nat} {v : Value} (h : amOk n v = true) (hag : amAg n ad ad1) : amV ad1 v = amV ad v := by
  cases v <;> first
    | rfl
    | (simp only [amOk, Bool.or_eq_true, decide_eq_true_eq] at h
       exact congrArg Value.ref (hag _ h))
theorem amSt_ag {n : Nat} {ad ad1 : Nat → Nat} {st : List Value} (h : amOkS n st = true) (hag : amAg n ad ad1) : st.map (amV ad1) = st.map (amV ad) :=
  List.map_congr_left fun v hv => amV_ag (List.all_eq_true.mp h v hv) hag
theorem amLs_ag {n : Nat} {ad ad1 : Nat → Nat} {ls : amL} (h : amOkL n ls = true) (hag : amAg n ad ad1) : amLs ad1 ls = amLs ad ls :=
  List.map_congr_left fun q hq => by rw [amV_ag (List.all_eq_true.mp h q hq) hag]
theorem amE_ag {dA : Nat → ClassId} {n : Nat} {ad ad1 : Nat → Nat} {c : amC} (h : ((decide (32 ≤ c.1) && decide (c.1 ≤ 34)) || c.2.all (amOk n)) = true) (hag : amAg n ad ad1) : amE dA ad1 c = amE dA ad c := by
  obtain ⟨t, vs⟩ := c
  unfold amE
  dsimp only at h ⊢
  by_cases h1 : t = 32
  · rw [if_pos h1, if_pos h1]
  · by_cases h2 : t = 33
    · rw [if_neg h1, if_pos h2, if_neg h1, if_pos h2]
    · by_cases h3 : t = 34
      · rw [if_neg h1, if_neg h2, if_pos h3, if_neg h1, if_neg h2, if_pos h3]
      · have hv : vs.all (amOk n) = true := by
          simp only [Bool.or_eq_true, Bool.and_eq_true, decide_eq_true_eq] at h
          rcases h with h | h
          · omega
          · exact h
        by_cases h4 : t = 35
        · rw [if_neg h1, if_neg h2, if_neg h3, if_pos h4, if_neg h1, if_neg h2, if_neg h3, if_pos h4]
          have e : (fun j => amRef ad1 (vs.getD j .null)) = (fun j => amRef ad (vs.getD j .null)) := by
            funext j
            by_cases hj : j < vs.length
            · have hm : amOk n (vs.getD j .null) = true := by
                rw [List.getD_eq_getElem?_getD, List.getElem?_eq_getElem hj]
                exact List.all_eq_true.mp hv _ (List.getElem_mem hj)
              have := amV_ag hm hag
              generalize vs.getD j .null = w at this
              cases w <;> first
                | rfl
                | (simp only [amV, Value.ref.injEq] at this; simp [amRef, this])
            · rw [List.getD_eq_getElem?_getD, List.getElem?_eq_none (by omega)]; rfl
          rw [e]
        · rw [if_neg h1, if_neg h2, if_neg h3, if_neg h4, if_neg h1, if_neg h2, if_neg h3, if_neg h4]
          have e : vs.map (amV ad1) = vs.map (amV ad) := amSt_ag hv hag
          rw [e]
theorem amW_ag {dA : Nat → ClassId} {hp : amH} {ad ad1 : Nat → Nat} (h : amOkH hp.length hp = true) (hag : amAg hp.length ad ad1) : amW dA ad1 hp = amW dA ad hp := by
  apply List.ext_getElem?
  intro j
  by_cases hj : j < hp.length
  · have hc : hp[j]? = some hp[j] := List.getElem?_eq_getElem hj
    rw [amW_get hc, amW_get hc, amE_ag (List.all_eq_true.mp h _ (List.getElem_mem hj)) hag, hag j (Or.inl hj)]
  · rw [List.getElem?_eq_none (by simp [amW]; omega), List.getElem?_eq_none (by simp [amW]; omega)]
/-- what a run answers, over the machine -/
noncomputable def amQ (D : va_G) (dA : Nat → ClassId) (ad : Nat → Nat) (n : Nat) (A : Nat → Prop) (x : Option Value ⊕ Nat) (hp1 : amH) : Array Value → State → Outcome → State → Prop := fun _ st o t =>
  ∃ (v : Option Value) (ad1 : Nat → Nat), x = .inl v ∧ o = .returned (v.map (amV ad1)) ∧ amAg n ad ad1 ∧ va_P D vwCl (amW dA ad1 hp1) t.heap ∧ va_D A (amW dA ad1 hp1) ∧ va_F A st t
noncomputable def amX (D : va_G) (dA : Nat → ClassId) (ad : Nat → Nat) (n : Nat) (A : Nat → Prop) (x : Option Value ⊕ Nat) (hp1 : amH) : String → State → State → Prop := fun E st t =>
  ∃ (k : Nat) (ad1 : Nat → Nat), x = .inr k ∧ amEx[k]? = some E ∧ amAg n ad ad1 ∧ va_P D vwCl (amW dA ad1 hp1) t.heap ∧ va_D A (amW dA ad1 hp1) ∧ va_F A st t
noncomputable def amPc (D : va_G) (dA : Nat → ClassId) (sA : Nat → Nat) (ad : Nat → Nat) (hp : amH) (av : List Value) (sz : Nat) : Array Value → State → Prop := fun v U =>
  v = (av.map (amV ad)).toArray ∧ U.heap.size = sz ∧ amG D dA sA U ∧ va_P D vwCl (amW dA ad hp) U.heap ∧ va_D (fun _ => True) (amW dA ad hp) ∧ amZ sA (va_A (amW dA ad hp) sz) U U.heap
theorem amPc_blind {D : va_G} {dA : Nat → ClassId} {sA : Nat → Nat} {ad : Nat → Nat} {hp : amH} {av : List Value} {sz : Nat} : FrameBlind (amPc D dA sA ad hp av sz) := fun a U g mk q => by
  obtain ⟨q0, q1, q2, q3, q4, q5⟩ := q
  exact ⟨q0, q1, amG.warm (s := U) (U := U.calling g mk a) (State.WarmedH.refl U) q2, q3, q4, amZ.moved (u := U) (U := U.calling g mk a) (Vm.Alike.refl U.vm) q5⟩
theorem am_toMet {l : Launch} {y : MethodName} {ws : List Jvm.Cond} {rm : Room} {Pc : Array Value → State → Prop} {Qc : Array Value → State → Outcome → State → Prop} {XC : String → State → State → Prop} {mc ms : Nat} {free : Addr → Prop} (h : vx_Met l y ws rm Pc Qc XC mc ms free) (hno : ∀ E st t, ¬ XC E st t) : Met l y ws rm Pc Qc mc ms free := by
  intro p e ha hc hk s m args below hf happ hP hK
  obtain ⟨n, o, h1, h2, h3, h4⟩ := h p e ha hc hk s m args below hf happ hP hK
  refine ⟨n, o, h1, h2, h3, ?_⟩
  rcases h4 with h4 | ⟨q, -, E, ce, L, hx, -⟩
  · exact h4
  · exact absurd hx (hno _ _ _)
section AMC
variable {p : Program} {l : Launch} {e : Env} {R : Room} {s : State} {m : MethodId} {args : Array Value} {below : List Frame} {meth : Method} {c : Code} {H : Heap} {locs : List Loc} {cells slots : Nat} {Q : State → Prop}
variable {cc : ByteArray} {D : va_G} {dA : Nat → ClassId} {A : Nat → Prop} {sA : Nat → Nat} {nL : Nat} {own : String}
theorem am_pre {ad : Nat → Nat} {hp : amH} {av : List Value} (hG : amG D dA sA s) (hZ : amZ sA A s s.heap) (hA : ∀ q, s.heap.size ≤ q → A q) (hP : va_P D vwCl (amW dA ad hp) H) (hD : va_D A (amW dA ad hp)) (hS : va_S A s.heap H locs) (hF : ∀ q, va_A (amW dA ad hp) H.size q → A q) : ∀ U : State, U.heap = H → s.WarmedH U.vm → amPc D dA sA ad hp av H.size (av.map (amV ad)).toArray U := by
  intro U hU hW
  refine ⟨rfl, by rw [hU], amG.warm hW hG, by rw [hU]; exact hP, hD.weaken (fun _ _ _ _ => trivial), ?_⟩
  rw [hU]
  exact amZ.moved hW.alike ((hZ.kept hS.2.1).narrow hF)
theorem am_free {ad : Nat → Nat} {hp : amH} (hA : ∀ q, s.heap.size ≤ q → A q) (hD : va_D A (amW dA ad hp)) (hS : va_S A s.heap H locs) : ∀ q, va_A (amW dA ad hp) H.size q → A q := by
  intro q h
  rcases h with ⟨k, e, h⟩ | h
  · exact hD.2 k _ h
  · exact hA q (Nat.le_trans hS.1 h)
/-- behind a call -/
theorem am_call {ad : Nat → Nat} {n mc ms pc : Nat} {A1 : Nat → Prop} {x : Option Value ⊕ Nat} {hp1 : amH} {lsA : Array Slot} {st0 rest : List Value} {a : Array Value} (hr : vx_Run p l e R s m args below meth c H locs cells slots mc ms (F0 m pc lsA st0) (rest.map (amV ad)) (amQ D dA ad n A1 x hp1 a) (amX D dA ad n A1 x hp1) A1) (hS : va_S A s.heap H locs) (hf : ∀ q, A1 q → A q) (hok : amOkS n rest = true)
    (kk : ∀ (v : Option Value) (ad1 : Nat → Nat) (H1 : Heap) (locs1 : List Loc), x = .inl v → amAg n ad ad1 → va_P D vwCl (amW dA ad1 hp1) H1 → va_D A (amW dA ad1 hp1) → va_S A s.heap H1 locs1 → W p l e R s m args below meth c H1 locs1 (cells + mc) (slots + ms) Q (F0 m (pc + 3) lsA ((v.toList ++ rest).map (amV ad1))))
    (kx : ∀ (k : Nat) (E : String) (ce : Cell) (q9 : Addr) (ad1 : Nat → Nat) (H1 : Heap) (locs1 : List Loc), x = .inr k → amEx[k]? = some E → amAg n ad ad1 → va_P D vwCl (amW dA ad1 hp1) H1 → va_D A (amW dA ad1 hp1) → va_S A s.heap H1 locs1 → H1[q9]? = some ce → ce.vm = .none → s.vm.findClass E = some ce.cls → vx_W p l e R s m args below meth c H1 locs1 (cells + mc) (slots + ms) Q (F0 m pc lsA (rest.map (amV ad))) q9) :
    W p l e R s m args below meth c H locs cells slots Q (F0 m pc lsA st0) := by
  intro T hT X
  rcases hr T hT X with ⟨v, st₀, t, T', L, h0, X', hL, e1, e2, ⟨w, ad1, ex, hv, hag, hp, hd, hF⟩, st⟩ | ⟨q, st₀, t, T', L, E, ce, h0, X', hL, e1, e2, ⟨k, ad1, ex, hE, hag, hp, hd, hF⟩, hce, hcv, hcl, st⟩
  · cases hv
    obtain ⟨k1, k2, k3⟩ := vx_keep h0 e1 hS (fun q _ h => hf q h) hf hL hF
    obtain ⟨t2, a1, b1⟩ := kk w ad1 T'.heap (locs ++ L) ex hag (by rw [e1]; exact hp) (hd.weaken (fun _ _ _ h => hf _ h)) k3 T' rfl X'
    refine ⟨t2, st t2 ?_, b1⟩
    have e3 : (w.toList ++ rest).map (amV ad1) = (w.map (amV ad1)).toList ++ rest.map (amV ad) := by
      rw [List.map_append, amSt_ag hok hag]
      cases w <;> rfl
    rw [e3] at a1
    exact a1
  · obtain ⟨k1, k2, k3⟩ := vx_keep h0 e1 hS (fun q _ h => hf q h) hf hL hF
    obtain ⟨t2, a1, b1⟩ := kx k E ce q ad1 T'.heap (locs ++ L) ex hE hag (by rw [e1]; exact hp) (hd.weaken (fun _ _ _ h => hf _ h)) k3 (by rw [e1]; exact hce) hcv hcl T' rfl X'
    exact ⟨t2, st.trans a1, b1⟩
theorem am_runX {mc ms : Nat} {g : JFrame} {rest : List Value} {Qa : State → Outcome → State → Prop} {XC : String → State → State → Prop} {free : Addr → Prop} (h : va_Run p l e R s m args below meth c H locs cells slots mc ms g rest Qa free) : vx_Run p l e R s m args below meth c H locs cells slots mc ms g rest Qa XC free := fun T hT X => Or.inl (h T hT X)
/-- what a call needs of the room -/
theorem am_roomOk {d mc ms nLc : Nat} (hR : d + 9 ≤ R.frames ∧ 128 * (d + 2) ≤ R.locals) (hn : nLc ≤ 100) : (amRm d mc ms).frames + 1 ≤ R.frames ∧ 8 + (nLc + 11) + (amRm d mc ms).locals ≤ R.locals := by
  unfold amRm
  dsimp only
  omega
/-- a call by the receiver's class -/
theorem am_callV (S : CallFix p m c cc nL s args amWL own) (hG : amG D dA sA s) (hZ : amZ sA A s s.heap) (hA : ∀ q, s.heap.size ≤ q → A q) {ad : Nat → Nat} {hp hp1 : amH} (hP : va_P D vwCl (amW dA ad hp) H) (hD : va_D A (amW dA ad hp)) (hS : va_S A s.heap H locs) {d mc ms pc idx nLc n ci o : Nat} {y : MethodName} {bytes : ByteArray} {retc : Option FieldType} {r : vw_C} {fs : List Value} {lsA : Array Slot} {As rest : List Value} {x : Option Value ⊕ Nat}
    (hM : vx_Met l y (Jvm.Cond.code y bytes nLc retc :: amWL) (amRm d mc ms) (amPc D dA sA ad hp (.ref o :: As) H.size) (amQ D dA ad hp.length (va_A (amW dA ad hp) H.size) x hp1) (amX D dA ad hp.length (va_A (amW dA ad hp) H.size) x hp1) mc ms (va_A (amW dA ad hp) H.size))
    (hc : vwCl[ci]? = some r) (hci : ci < 32) (ho : hp[o]? = some (ci, fs)) (hcls : y.cls = r.1) (w1 : Jvm.Cond.methodLink own idx y ∈ amWL) (w2 : Jvm.Cond.instanceMethod y ∈ amWL) (w3 : Jvm.Cond.selects r.1 y y ∈ amWL) (w4 : Jvm.Cond.initialized r.1 ∈ amWL) (w5 : Jvm.Cond.code y bytes nLc retc ∈ amWL) (hd : y.cls ≠ "java/lang/invoke/MethodHandle" ∧ y.cls ≠ "java/lang/invoke/VarHandle" ∧ (parseMethodDescriptor y.desc).map (fun d => d.parameters.length) = some n) (hn : As.length = n) (hnL : nLc ≤ 100)
    (hR : d + 9 ≤ R.frames ∧ 128 * (d + 2) ≤ R.locals) (hf : cells + mc ≤ R.cells ∧ slots + ms ≤ R.slots) (hsz : lsA.size = nL) (hok : amOkS hp.length rest = true) (hw : (rest.map fun v => v.category).sum ≤ 8) (hdg : decode cc pc = .ok (.invokevirtual idx, 3))
    (kk : ∀ (v : Option Value) (ad1 : Nat → Nat) (H1 : Heap) (locs1 : List Loc), x = .inl v → amAg hp.length ad ad1 → va_P D vwCl (amW dA ad1 hp1) H1 → va_D A (amW dA ad1 hp1) → va_S A s.heap H1 locs1 → W p l e R s m args below meth c H1 locs1 (cells + mc) (slots + ms) Q (F0 m (pc + 3) lsA ((v.toList ++ rest).map (amV ad1))))
    (kx : ∀ (k : Nat) (E : String) (ce : Cell) (q9 : Addr) (ad1 : Nat → Nat) (H1 : Heap) (locs1 : List Loc), x = .inr k → amEx[k]? = some E → amAg hp.length ad ad1 → va_P D vwCl (amW dA ad1 hp1) H1 → va_D A (amW dA ad1 hp1) → va_S A s.heap H1 locs1 → H1[q9]? = some ce → ce.vm = .none → s.vm.findClass E = some ce.cls → vx_W p l e R s m args below meth c H1 locs1 (cells + mc) (slots + ms) Q (F0 m pc lsA (rest.map (amV ad))) q9) :
    W p l e R s m args below meth c H locs cells slots Q (F0 m pc lsA ((((.ref o :: As) : List Value).reverse ++ rest).map (amV ad))) := by
  have hF := am_free hA hD hS
  have hg := amW_get (dA := dA) (ad := ad) ho
  rw [amE_obj hci] at hg
  have hcat : ((rest.map (amV ad)).map fun v => v.category).sum ≤ 8 := by
    rw [List.map_map]
    simpa [Function.comp_def, amV_cat] using hw
  refine am_call (vx_runV (As := As.map (amV ad)) (rest := rest.map (amV ad)) (b := ad o) (C := r.1) S hM (cwV n S.2.2.2.2 (amWL_good (fun w hw => ?_)) rfl rfl rfl ⟨hcls, hd⟩ (am_roomOk hR hnL)) ⟨amPc_blind, va_recv hG.1 hP hc hg, am_pre (av := .ref o :: As) hG hZ hA hP hD hS hF⟩ rfl (by rw [List.length_map]; exact hn) hsz (by simp [F0, amV]) (lv_room hcat) hdg hf) hS hF hok kk kx
  simp only [wsV, List.cons_append, List.nil_append, List.mem_cons] at hw
  rcases hw with rfl | rfl | rfl | rfl | rfl | hw
  · exact w1
  · exact w2
  · exact w3
  · exact w4
  · exact w5
  · exact hw
/-- a static call -/
theorem am_callS (S : CallFix p m c cc nL s args amWL own) (hG : amG D dA sA s) (hZ : amZ sA A s s.heap) (hA : ∀ q, s.heap.size ≤ q → A q) {ad : Nat → Nat} {hp hp1 : amH} (hP : va_P D vwCl (amW dA ad hp) H) (hD : va_D A (amW dA ad hp)) (hS : va_S A s.heap H locs) {d mc ms pc idx nLc n : Nat} {y : MethodName} {bytes : ByteArray} {retc : Option FieldType} {lsA : Array Slot} {As rest : List Value} {x : Option Value ⊕ Nat}
    (hM : vx_Met l y (Jvm.Cond.code y bytes nLc retc :: amWL) (amRm d mc ms) (amPc D dA sA ad hp As H.size) (amQ D dA ad hp.length (va_A (amW dA ad hp) H.size) x hp1) (amX D dA ad hp.length (va_A (amW dA ad hp) H.size) x hp1) mc ms (va_A (amW dA ad hp) H.size))
    (w1 : Jvm.Cond.methodLink own idx y ∈ amWL) (w2 : Jvm.Cond.static y ∈ amWL) (w4 : Jvm.Cond.initialized y.cls ∈ amWL) (w5 : Jvm.Cond.code y bytes nLc retc ∈ amWL) (hd : y.cls ≠ "java/lang/invoke/MethodHandle" ∧ y.cls ≠ "java/lang/invoke/VarHandle" ∧ (parseMethodDescriptor y.desc).map (fun d => d.parameters.length) = some n) (hn : As.length = n) (hnL : nLc ≤ 100)
    (hR : d + 9 ≤ R.frames ∧ 128 * (d + 2) ≤ R.locals) (hf : cells + mc ≤ R.cells ∧ slots + ms ≤ R.slots) (hsz : lsA.size = nL) (hok : amOkS hp.length rest = true) (hw : (rest.map fun v => v.category).sum ≤ 8) (hdg : decode cc pc = .ok (.invokestatic idx, 3))
    (kk : ∀ (v : Option Value) (ad1 : Nat → Nat) (H1 : Heap) (locs1 : List Loc), x = .inl v → amAg hp.length ad ad1 → va_P D vwCl (amW dA ad1 hp1) H1 → va_D A (amW dA ad1 hp1) → va_S A s.heap H1 locs1 → W p l e R s m args below meth c H1 locs1 (cells + mc) (slots + ms) Q (F0 m (pc + 3) lsA ((v.toList ++ rest).map (amV ad1))))
    (kx : ∀ (k : Nat) (E : String) (ce : Cell) (q9 : Addr) (ad1 : Nat → Nat) (H1 : Heap) (locs1 : List Loc), x = .inr k → amEx[k]? = some E → amAg hp.length ad ad1 → va_P D vwCl (amW dA ad1 hp1) H1 → va_D A (amW dA ad1 hp1) → va_S A s.heap H1 locs1 → H1[q9]? = some ce → ce.vm = .none → s.vm.findClass E = some ce.cls → vx_W p l e R s m args below meth c H1 locs1 (cells + mc) (slots + ms) Q (F0 m pc lsA (rest.map (amV ad))) q9) :
    W p l e R s m args below meth c H locs cells slots Q (F0 m pc lsA ((As.reverse ++ rest).map (amV ad))) := by
  have hF := am_free hA hD hS
  have hcat : ((rest.map (amV ad)).map fun v => v.category).sum ≤ 8 := by
    rw [List.map_map]
    simpa [Function.comp_def, amV_cat] using hw
  refine am_call (vx_runS (As := As.map (amV ad)) (rest := rest.map (amV ad)) S hM (va_cwS n S.2.2.2.2 (amWL_good (fun w hw => ?_)) rfl rfl rfl hd (am_roomOk hR hnL)) ⟨amPc_blind, am_pre (av := As) hG hZ hA hP hD hS hF⟩ rfl (by rw [List.length_map]; exact hn) hsz (by simp [F0]) (lv_room hcat) hdg hf) hS hF hok kk kx
  simp only [va_wsS, List.cons_append, List.nil_append, List.mem_cons] at hw
  rcases hw with rfl | rfl | rfl | rfl | hw
  · exact w1
  · exact w2
  · exact w4
  · exact w5
  · exact hw
theorem amX_no {ad : Nat → Nat} {n : Nat} {A1 : Nat → Prop} {v : Option Value} {hp1 : amH} : ∀ E st t, ¬ amX D dA ad n A1 (.inl v) hp1 E st t := by
  intro E st t h
  obtain ⟨k, ad1, h1, -⟩ := h
  cases h1
/-- a static call of a method with a table, that returns -/
theorem am_callSW (S : CallFix p m c cc nL s args amWL own) (hG : amG D dA sA s) (hZ : amZ sA A s s.heap) (hA : ∀ q, s.heap.size ≤ q → A q) {ad : Nat → Nat} {hp hp1 : amH} (hP : va_P D vwCl (amW dA ad hp) H) (hD : va_D A (amW dA ad hp)) (hS : va_S A s.heap H locs) {d mc ms pc idx nLc n : Nat} {y : MethodName} {bytes : ByteArray} {hh : List (Nat × Nat × Nat × Nat)} {retc : Option FieldType} {lsA : Array Slot} {As rest : List Value} {v : Option Value}
    (hM : vx_Met l y (Jvm.Cond.codeWith y bytes nLc retc hh :: amWL) (amRm d mc ms) (amPc D dA sA ad hp As H.size) (amQ D dA ad hp.length (va_A (amW dA ad hp) H.size) (.inl v) hp1) (amX D dA ad hp.length (va_A (amW dA ad hp) H.size) (.inl v) hp1) mc ms (va_A (amW dA ad hp) H.size))
    (w1 : Jvm.Cond.methodLink own idx y ∈ amWL) (w2 : Jvm.Cond.static y ∈ amWL) (w4 : Jvm.Cond.initialized y.cls ∈ amWL) (w5 : Jvm.Cond.codeWith y bytes nLc retc hh ∈ amWL) (hd : y.cls ≠ "java/lang/invoke/MethodHandle" ∧ y.cls ≠ "java/lang/invoke/VarHandle" ∧ (parseMethodDescriptor y.desc).map (fun d => d.parameters.length) = some n) (hn : As.length = n) (hnL : nLc ≤ 100)
    (hR : d + 9 ≤ R.frames ∧ 128 * (d + 2) ≤ R.locals) (hf : cells + mc ≤ R.cells ∧ slots + ms ≤ R.slots) (hsz : lsA.size = nL) (hok : amOkS hp.length rest = true) (hw : (rest.map fun v => v.category).sum ≤ 8) (hdg : decode cc pc = .ok (.invokestatic idx, 3))
    (kk : ∀ (ad1 : Nat → Nat) (H1 : Heap) (locs1 : List Loc), amAg hp.length ad ad1 → va_P D vwCl (amW dA ad1 hp1) H1 → va_D A (amW dA ad1 hp1) → va_S A s.heap H1 locs1 → W p l e R s m args below meth c H1 locs1 (cells + mc) (slots + ms) Q (F0 m (pc + 3) lsA ((v.toList ++ rest).map (amV ad1)))) :
    W p l e R s m args below meth c H locs cells slots Q (F0 m pc lsA ((As.reverse ++ rest).map (amV ad))) := by
  have hF := am_free hA hD hS
  have hcat : ((rest.map (amV ad)).map fun v => v.category).sum ≤ 8 := by
    rw [List.map_map]
    simpa [Function.comp_def, amV_cat] using hw
  refine am_call (x := .inl v) (am_runX (vx_runSW (hh := hh) (As := As.map (amV ad)) (rest := rest.map (amV ad)) S (am_toMet hM amX_no) (vx_cwSW n S.2.2.2.2 (amWL_good (fun w hw => ?_)) rfl rfl rfl hd (am_roomOk hR hnL)) ⟨amPc_blind, am_pre (av := As) hG hZ hA hP hD hS hF⟩ rfl (by rw [List.length_map]; exact hn) hsz (by simp [F0]) (lv_room hcat) hdg hf)) hS hF hok (fun w ad1 H1 locs1 ex => by cases ex; exact kk ad1 H1 locs1) (fun k E ce q9 ad1 H1 locs1 ex => by cases ex)
  simp only [va_wsS, List.cons_append, List.nil_append, List.mem_cons] at hw
  rcases hw with rfl | rfl | rfl | rfl | hw
  · exact w1
  · exact w2
  · exact w4
  · exact w5
  · exact hw
/-- a constructor's call -/
theorem am_callI (S : CallFix p m c cc nL s args amWL own) (hG : amG D dA sA s) (hZ : amZ sA A s s.heap) (hA : ∀ q, s.heap.size ≤ q → A q) {ad : Nat → Nat} {hp hp1 : amH} (hP : va_P D vwCl (amW dA ad hp) H) (hD : va_D A (amW dA ad hp)) (hS : va_S A s.heap H locs) {d mc ms pc idx nLc n o : Nat} {y : MethodName} {bytes : ByteArray} {lsA : Array Slot} {As rest : List Value} {v : Option Value}
    (hM : vx_Met l y (Jvm.Cond.code y bytes nLc none :: amWL) (amRm d mc ms) (amPc D dA sA ad hp (.ref o :: As) H.size) (amQ D dA ad hp.length (va_A (amW dA ad hp) H.size) (.inl v) hp1) (amX D dA ad hp.length (va_A (amW dA ad hp) H.size) (.inl v) hp1) mc ms (va_A (amW dA ad hp) H.size))
    (w1 : Jvm.Cond.methodLink own idx y ∈ amWL ∨ ∃ host, Jvm.Cond.methodLinkNest own idx y host ∈ lw_tbl) (w2 : Jvm.Cond.instanceMethod y ∈ amWL) (w4 : Jvm.Cond.initialized y.cls ∈ amWL) (w5 : Jvm.Cond.code y bytes nLc none ∈ amWL) (hy1 : y.name = "<init>") (hd : y.cls ≠ "java/lang/invoke/MethodHandle" ∧ y.cls ≠ "java/lang/invoke/VarHandle" ∧ (parseMethodDescriptor y.desc).map (fun d => d.parameters.length) = some n) (hn : As.length = n) (hnL : nLc ≤ 100)
    (hR : d + 9 ≤ R.frames ∧ 128 * (d + 2) ≤ R.locals) (hf : cells + mc ≤ R.cells ∧ slots + ms ≤ R.slots) (hsz : lsA.size = nL) (hok : amOkS hp.length rest = true) (hw : (rest.map fun v => v.category).sum ≤ 8) (hdg : decode cc pc = .ok (.invokespecial idx, 3))
    (kk : ∀ (ad1 : Nat → Nat) (H1 : Heap) (locs1 : List Loc), amAg hp.length ad ad1 → va_P D vwCl (amW dA ad1 hp1) H1 → va_D A (amW dA ad1 hp1) → va_S A s.heap H1 locs1 → W p l e R s m args below meth c H1 locs1 (cells + mc) (slots + ms) Q (F0 m (pc + 3) lsA ((v.toList ++ rest).map (amV ad1)))) :
    W p l e R s m args below meth c H locs cells slots Q (F0 m pc lsA ((((.ref o :: As) : List Value).reverse ++ rest).map (amV ad))) := by
  have hF := am_free hA hD hS
  have hts := S.2.2.2.2
  have hgw : GoodIn amWL (Jvm.Cond.code y bytes nLc none :: amWL) := amWL_good (fun w hw => by
    rcases List.mem_cons.mp hw with rfl | hw
    · exact w5
    · exact hw)
  have hcat : ((rest.map (amV ad)).map fun v => v.category).sum ≤ 8 := by
    rw [List.map_map]
    simpa [Function.comp_def, amV_cat] using hw
  have hpre := am_pre (av := .ref o :: As) hG hZ hA hP hD hS hF
  rcases w1 with w1 | ⟨host, w1⟩
  · exact am_call (x := .inl v) (am_runX (va_runI (As := As.map (amV ad)) (rest := rest.map (amV ad)) (b := ad o) S (am_toMet hM amX_no) (cwI n hts hgw rfl rfl rfl (hts _ w4) (hts _ w1) (hts _ w2) hy1 hd (am_roomOk hR hnL)) ⟨amPc_blind, hpre⟩ rfl (by rw [List.length_map]; exact hn) hsz (by simp [F0, amV]) (lv_room hcat) hdg hf)) hS hF hok (fun w ad1 H1 locs1 ex => by cases ex; exact kk ad1 H1 locs1) (fun k E ce q9 ad1 H1 locs1 ex => by cases ex)
  · exact am_call (x := .inl v) (am_runX (va_runIN (As := As.map (amV ad)) (rest := rest.map (amV ad)) (b := ad o) S (am_toMet hM amX_no) ⟨va_cnB n hts hgw rfl rfl rfl (hG.2.2.1 _ w1 rfl) (hts _ w4) hd (am_roomOk hR hnL), hy1, hts _ w2⟩ ⟨amPc_blind, hpre⟩ rfl (by rw [List.length_map]; exact hn) hsz (by simp [F0, amV]) (lv_room hcat) hdg hf)) hS hF hok (fun w ad1 H1 locs1 ex => by cases ex; exact kk ad1 H1 locs1) (fun k E ce q9 ad1 H1 locs1 ex => by cases ex)
end AMC
end
