/-! ##### 07.whole ##### -/
section
/-! ===== whole frames ===== -/
/-- a method's handlers: where one takes what a call throws -/
def amHok (N : amN) (M : amM) : Prop :=
  (M.2.2.2.2.2.1 = [] → N.2.2 = []) ∧ ∀ (pc E h x to : Nat) (En : String), amHand M.2.2.2.2.2.1 pc E = some (h, x, to) → amEx[E]? = some En →
    ∃ (pre : List ExceptionTableEntry) (z : ExceptionTableEntry) (suf : List ExceptionTableEntry), tableOf N.2.2 = pre ++ z :: suf ∧ (∀ y ∈ pre, covers y pc = false ∨ (y.catchType ≠ 0 ∧ ∃ nm : String, Jvm.Cond.classLink N.1.cls y.catchType nm ∈ amWL ∧ (En, nm) ∈ amNc)) ∧ covers z pc = true ∧ z.catchType ≠ 0 ∧ z.handlerPc = h ∧
      Jvm.Cond.classLink N.1.cls z.catchType En ∈ amWL ∧ Jvm.Cond.castable En En ∈ lw_tbl ∧ x < M.2.1 ∧ ((∃ j : Fin 4, (j : Nat) = x ∧ decode N.2.1 h = .ok (.astore_n j, 1) ∧ to = h + 1) ∨ (decode N.2.1 h = .ok (.astore x, 2) ∧ to = h + 2))
/-- a method, its code and names -/
def amMk (G : Nat → Option amM) (X : Nat → Option amN) (N : amN) (M : amM) : Prop :=
  plainFor N.1 = true ∧ M.2.1 ≤ 100 ∧ (M.2.2.2.1 = true → N.1.name = "<init>") ∧ amHok N M ∧ ∀ q ∈ M.1, amEok G X N M q
def amCx (p : Program) (R : Room) (s : State) (m : MethodId) (args : Array Value) (meth : Method) (c : Code) (A : Nat → Prop) (D : va_G) (dA : Nat → ClassId) (sA : Nat → Nat) (G : Nat → Option amM) (X : Nat → Option amN) (N : amN) (M : amM) (sc : Option (List Int32)) (d mc ms : Nat) : Prop :=
  p.tables.exec = Jvm.exec ∧ c.code = N.2.1 ∧ c.maxLocals = M.2.1 ∧ s.vm.findClass N.1.cls = some m.cls ∧ (∀ w ∈ amWL, w.before args s = true) ∧ amG D dA sA s ∧ amZ sA A s s.heap ∧ (∀ q, s.heap.size ≤ q → A q) ∧ (M.2.2.2.1 = true → meth.name = "<init>") ∧ c.exceptionTable.toList = tableOf N.2.2 ∧ amMk G X N M ∧ (d + 8 ≤ R.frames ∧ 128 * (d + 1) ≤ R.locals ∧ mc ≤ R.cells ∧ ms ≤ R.slots) ∧ (∀ l9, sc = some l9 → va_X (sA 999999) l9.length (fun j => l9.getD j 0) s s.heap ∧ sA 999999 < s.heap.size ∧ ¬ A (sA 999999))
def amFR (l : Launch) (D : va_G) (dA : Nat → ClassId) (sA : Nat → Nat) (G : Nat → Option amM) (X : Nat → Option amN) (f : Nat) : Prop :=
  ∀ (p : Program) (e : Env) (R : Room) (s : State) (m : MethodId) (args : Array Value) (below : List Frame) (meth : Method) (c : Code) (A : Nat → Prop) (Q : State → Prop) (N : amN) (M : amM) (sc : Option (List Int32)) (d n0 : Nat) (ad0 : Nat → Nat) (x : Option Value ⊕ Nat) (hp1 : amH) (mc ms : Nat),
    amCx p R s m args meth c A D dA sA G X N M sc d mc ms → (∀ j, ad0 (amK + j) = sA j) →
    (∀ (v : Option Value) (i : Instr) (pc : Nat) (st : List Value) (ad : Nat → Nat) (H : Heap) (locs : List Loc) (lsA : Array Slot), x = .inl v → decode N.2.1 pc = .ok (i, 1) → amRetV M.2.2.2.2.1 i st = some v → amAg n0 ad0 ad → va_P D vwCl (amW dA ad hp1) H → va_D A (amW dA ad hp1) → va_S A s.heap H locs → W p l e R s m args below meth c H locs mc ms Q (F0 m pc lsA (st.map (amV ad)))) →
    (∀ (a b k kc ks pc : Nat) (st : List Value) (ad : Nat → Nat) (H : Heap) (locs : List Loc) (lsA : Array Slot), x = .inr a → decode N.2.1 pc = .ok (.new k, 3) → amThr N.1.cls N.2.1 pc k a b → M.2.2.2.2.2.1 = [] → (st.map fun v => v.category).sum ≤ 8 → lsA.size = M.2.1 → kc + 1 = mc → ks + 6 = ms → amAg n0 ad0 ad → va_P D vwCl (amW dA ad hp1) H → va_D A (amW dA ad hp1) → va_S A s.heap H locs → W p l e R s m args below meth c H locs kc ks Q (F0 m pc lsA (st.map (amV ad)))) →
    (∀ (E : Nat) (En : String) (ce : Cell) (q9 pc : Nat) (st : List Value) (ad : Nat → Nat) (H : Heap) (locs : List Loc) (lsA : Array Slot), x = .inr E → amEx[E]? = some En → M.2.2.2.2.2.1 = [] → amAg n0 ad0 ad → va_P D vwCl (amW dA ad hp1) H → va_D A (amW dA ad hp1) → va_S A s.heap H locs → H[q9]? = some ce → ce.vm = .none → s.vm.findClass En = some ce.cls → vx_W p l e R s m args below meth c H locs mc ms Q (F0 m pc lsA st) q9) →
    ∀ (cs : amP) (pc : Nat) (ls : amL) (st : List Value) (hp : amH) (kc ks : Nat) (ad : Nat → Nat) (H : Heap) (locs : List Loc) (lsA : Array Slot), (∀ q ∈ cs, q ∈ M.1) → amRun G sc f d M cs pc ls st hp kc ks = some (x, hp1, mc, ms) → amAg n0 ad0 ad → n0 ≤ hp.length → lv_has lsA M.2.1 (amLs ad ls) → va_P D vwCl (amW dA ad hp) H → va_D A (amW dA ad hp) → va_S A s.heap H locs → W p l e R s m args below meth c H locs kc ks Q (F0 m pc lsA (st.map (amV ad)))
def amHd (N : amN) (M : amM) : Jvm.Cond := if N.2.2 = [] then Jvm.Cond.code N.1 N.2.1 M.2.1 M.2.2.2.2.1 else Jvm.Cond.codeWith N.1 N.2.1 M.2.1 M.2.2.2.2.1 N.2.2
def amCT (l : Launch) (D : va_G) (dA : Nat → ClassId) (sA : Nat → Nat) (G : Nat → Option amM) (X : Nat → Option amN) (f : Nat) : Prop :=
  ∀ (k : Nat) (N : amN) (M : amM) (d : Nat) (av : List Value) (hp hp1 : amH) (x : Option Value ⊕ Nat) (mc ms : Nat) (ad : Nat → Nat) (sz : Nat), X k = some N → G k = some M → (∀ j, ad (amK + j) = sA j) → (av.map fun v => v.category).sum ≤ M.2.1 → amRun G none f d M M.1 0 (lv_args 0 av) [] hp 0 0 = some (x, hp1, mc, ms) →
    vx_Met l N.1 (amHd N M :: amWL) (amRm d mc ms) (amPc D dA sA ad hp av sz) (amQ D dA ad hp.length (va_A (amW dA ad hp) sz) x hp1) (amX D dA ad hp.length (va_A (amW dA ad hp) sz) x hp1) mc ms (va_A (amW dA ad hp) sz)
theorem amRetV_s {ret : Option FieldType} {i : Instr} {st : List Value} {v : Option Value} (h : amRetV ret i st = some v) :
    (∃ ty x, i = .ireturn ∧ ret = some ty ∧ st = [.int x] ∧ narrow ty (.int x) = .int x ∧ v = some (.int x)) ∨ (∃ x, i = .lreturn ∧ ret = some .long ∧ st = [.long x] ∧ v = some (.long x)) ∨ (∃ x, i = .freturn ∧ ret = some .float ∧ st = [.float x] ∧ v = some (.float x)) ∨ (∃ x, i = .dreturn ∧ ret = some .double ∧ st = [.double x] ∧ v = some (.double x)) ∨ (i = .return_ ∧ ret = none ∧ st = [] ∧ v = none) := by
  unfold amRetV at h
  split at h
  · split at h
    · next ty x =>
      split at h
      · next e => cases h; exact Or.inl ⟨ty, x, rfl, rfl, rfl, e, rfl⟩
      · cases h
    · cases h
  · split at h
    · next x => cases h; exact Or.inr (Or.inl ⟨x, rfl, rfl, rfl, rfl⟩)
    · cases h
  · split at h
    · next x => cases h; exact Or.inr (Or.inr (Or.inl ⟨x, rfl, rfl, rfl, rfl⟩))
    · cases h
  · split at h
    · next x => cases h; exact Or.inr (Or.inr (Or.inr (Or.inl ⟨x, rfl, rfl, rfl, rfl⟩)))
    · cases h
  · split at h
    · cases h; exact Or.inr (Or.inr (Or.inr (Or.inr ⟨rfl, rfl, rfl, rfl⟩)))
    · cases h
  · cases h
theorem am_seek_in {cs : amP} {pc : Nat} : ∀ q ∈ amSeek cs pc, q ∈ cs := fun q h => (List.dropWhile_suffix _).subset h
theorem am_next_in {M : amM} {cs : amP} {pc : Nat} (h : ∀ q ∈ cs, q ∈ M.1) : ∀ q ∈ amNext M cs pc, q ∈ M.1 := by
  intro q hq
  unfold amNext at hq
  split at hq
  · split at hq
    · exact h q hq
    · exact am_seek_in q hq
  · exact am_seek_in q hq
theorem am_args_ls (ad : Nat → Nat) : ∀ (av : List Value) (i : Nat), amLs ad (lv_args i av) = lv_args i (av.map (amV ad))
  | [], _ => rfl
  | v :: r, i => by
    show (i, amV ad v) :: amLs ad (lv_args _ r) = (i, amV ad v) :: lv_args _ (r.map (amV ad))
    rw [am_args_ls ad r, amV_cat]
section AMF
variable {l : Launch} {D : va_G} {dA : Nat → ClassId} {sA : Nat → Nat} {G : Nat → Option amM} {X : Nat → Option amN}
/-- the calls -/
theorem am_callAct {p : Program} {e : Env} {R : Room} {s : State} {m : MethodId} {args : Array Value} {below : List Frame} {meth : Method} {c : Code} {A : Nat → Prop} {Q : State → Prop} {N : amN} {M : amM} {sc : Option (List Int32)} {d mcT msT : Nat} (C : amCx p R s m args meth c A D dA sA G X N M sc (d + 1) mcT msT)
    {pc a b k : Nat} {i : Instr} (hE : amEok G X N M (pc, i, a, b)) {ls : amL} {st av rest : List Value} {hp hp1 : amH} (h : amDo G M sc i a b pc ls st hp = some (.inr (.inr (.inr (k, av, rest))))) {Mk : amM} (hGk : G k = some Mk) {x : Option Value ⊕ Nat} {mc ms kc ks : Nat} {ad : Nat → Nat} {H : Heap} {locs : List Loc} {lsA : Array Slot}
    (hM : ∀ (Nk : amN), X k = some Nk → (av.map fun v => v.category).sum ≤ Mk.2.1 → vx_Met l Nk.1 (amHd Nk Mk :: amWL) (amRm d mc ms) (amPc D dA sA ad hp av H.size) (amQ D dA ad hp.length (va_A (amW dA ad hp) H.size) x hp1) (amX D dA ad hp.length (va_A (amW dA ad hp) H.size) x hp1) mc ms (va_A (amW dA ad hp) H.size)) (hnL : Mk.2.1 ≤ 100)
    (hmay : amMay i b = false → ∃ v, x = .inl v) (hroom : kc + mc ≤ R.cells ∧ ks + ms ≤ R.slots) (hl : lv_has lsA M.2.1 (amLs ad ls)) (hP : va_P D vwCl (amW dA ad hp) H) (hD : va_D A (amW dA ad hp)) (hS : va_S A s.heap H locs)
    (kk : ∀ (v : Option Value) (ad1 : Nat → Nat) (H1 : Heap) (locs1 : List Loc), x = .inl v → amAg hp.length ad ad1 → va_P D vwCl (amW dA ad1 hp1) H1 → va_D A (amW dA ad1 hp1) → va_S A s.heap H1 locs1 → W p l e R s m args below meth c H1 locs1 (kc + mc) (ks + ms) Q (F0 m (pc + 3) lsA ((v.toList ++ rest).map (amV ad1))))
    (kx : ∀ (k : Nat) (E : String) (ce : Cell) (q9 : Addr) (ad1 : Nat → Nat) (H1 : Heap) (locs1 : List Loc), x = .inr k → amEx[k]? = some E → amAg hp.length ad ad1 → va_P D vwCl (amW dA ad1 hp1) H1 → va_D A (amW dA ad1 hp1) → va_S A s.heap H1 locs1 → H1[q9]? = some ce → ce.vm = .none → s.vm.findClass E = some ce.cls → vx_W p l e R s m args below meth c H1 locs1 (kc + mc) (ks + ms) Q (F0 m pc lsA (rest.map (amV ad))) q9) :
    amOkL hp.length ls = true ∧ W p l e R s m args below meth c H locs kc ks Q (F0 m pc lsA (st.map (amV ad))) := by
  obtain ⟨hx, hb, hml, hown, hts, hG, hZ, hA, hini, htab, hMk, hR, hsc⟩ := C
  obtain ⟨⟨n, hd, hn⟩, hlk, hlk2⟩ := hE
  dsimp only at hd hn hlk hlk2
  have S : CallFix p m c N.2.1 M.2.1 s args amWL N.1.cls := ⟨hx, hb, hml, hown, hts⟩
  have hR2 : d + 9 ≤ R.frames ∧ 128 * (d + 2) ≤ R.locals := ⟨by omega, by omega⟩
  unfold amDo at h
  split at h
  case h_1 =>
    split at h
    · obtain ⟨-, -, -, -, e1⟩ := amMake_s h; cases e1
    · split at h <;> cases h
  case h_2 => obtain ⟨_, _, _, _, -, -, -, -, h⟩ := amMakeA_s h; obtain ⟨-, -, -, -, e1⟩ := amMake_s h; cases e1
  case h_3 => obtain ⟨_, _, _, _, -, -, -, -, h⟩ := amMakeA_s h; obtain ⟨-, -, -, -, e1⟩ := amMake_s h; cases e1
  case h_4 z =>
   split at h
   · obtain ⟨_, _, _, -, -, -, e1⟩ := amLenS_s h; cases e1
   · split at h
     · obtain ⟨_, _, _, _, -, -, -, -, e1⟩ := amChrS_s h; cases e1
     · next hb7 hb8 =>
       obtain rfl : n = 3 := by rcases hn with hn | hn <;> first | exact hn | cases hn
       obtain ⟨M9, av9, rest9, g1, rfl, g2, g3, g4, g5, g6, g7, e1⟩ := amCall_s h
       cases e1
       unfold amLk2 at hlk2
       dsimp only at hlk2
       rw [if_neg hb7, if_neg hb8] at hlk2
       obtain ⟨Nk, M8, r, n8, q1, q2, q3, q4, q5, w1, w2, w3, w4, w5, q6, q7, q8⟩ := hlk2
       cases hGk.symm.trans g1
       cases q2.symm.trans g1
       have hM1 := hM Nk q1 g7
       unfold amHd at hM1
       rw [if_pos q3] at hM1
       unfold amRecv at g5
       split at g5
       · next o As =>
         rw [if_pos rfl] at g5
         split at g5
         · next cl hcl =>
           obtain ⟨t, fs⟩ := cl
           have g5 := of_decide_eq_true g5
           obtain ⟨e5, e6⟩ := g5
           dsimp only at e5
           subst e5
           refine ⟨g3, am_callV S hG hZ hA hP hD hS hM1 q4 e6 hcl q5 w1 w2 w3 w4 w5 ⟨q6.1, q6.2, q7⟩ (by rw [List.length_cons] at g2; omega) hnL hR2 hroom hl.1 g4 g6 hd kk kx⟩
         · cases g5
       · cases g5
  case h_5 z =>
    obtain rfl : n = 3 := by rcases hn with hn | hn <;> first | exact hn | cases hn
    split at h
    · obtain ⟨_, _, _, _, _, _, _, _, -, -, -, -, -, -, -, -, -, e1⟩ := amCopy_s h; cases e1
    · next hb6 =>
      obtain ⟨M9, av9, rest9, g1, rfl, g2, g3, g4, g5, g6, g7, e1⟩ := amCall_s h
      cases e1
      unfold amLk2 at hlk2
      dsimp only at hlk2
      rw [if_neg hb6] at hlk2
      obtain ⟨Nk, M8, q1, q2, q3, w1, w2, w4, q6, q7⟩ := hlk2
      cases hGk.symm.trans g1
      cases q2.symm.trans g1
      have hM1 := hM Nk q1 g7
      unfold amHd at hM1
      by_cases hb0 : b = 0
      · rw [if_pos hb0] at q3
        rw [if_pos q3.1] at hM1
        exact ⟨g3, am_callS S hG hZ hA hP hD hS hM1 w1 w2 w4 q3.2 ⟨q6.1, q6.2, q7⟩ g2 hnL hR2 hroom hl.1 g4 g6 hd kk kx⟩
      · rw [if_neg hb0] at q3
        rw [if_neg q3.1] at hM1
        obtain ⟨v, rfl⟩ := hmay (decide_eq_false hb0)
        exact ⟨g3, am_callSW S hG hZ hA hP hD hS hM1 w1 w2 w4 q3.2 ⟨q6.1, q6.2, q7⟩ g2 hnL hR2 hroom hl.1 g4 g6 hd (fun ad1 H1 locs1 => kk v ad1 H1 locs1 rfl)⟩
  case h_6 z =>
    obtain rfl : n = 3 := by rcases hn with hn | hn <;> first | exact hn | cases hn
    split at h
    · obtain ⟨_, _, -, -, e1⟩ := amObj_s h; cases e1
    · next hb5 =>
      obtain ⟨M9, av9, rest9, g1, rfl, g2, g3, g4, g5, g6, g7, e1⟩ := amCall_s h
      cases e1
      unfold amLk2 at hlk2
      dsimp only at hlk2
      rw [if_neg hb5] at hlk2
      obtain ⟨Nk, M8, n8, q1, q2, q3, q4, w1, w2, w4, w5, q5, q6, q7, q8⟩ := hlk2
      cases hGk.symm.trans g1
      cases q2.symm.trans g1
      have hM1 := hM Nk q1 g7
      unfold amHd at hM1
      rw [if_pos q3, q4] at hM1
      obtain ⟨v, rfl⟩ := hmay rfl
      unfold amRecv at g5
      split at g5
      · next o As =>
        exact ⟨g3, am_callI S hG hZ hA hP hD hS hM1 w1 w2 w4 w5 q5 ⟨q6.1, q6.2, q7⟩ (by rw [List.length_cons] at g2; omega) hnL hR2 hroom hl.1 g4 g6 hd (fun ad1 H1 locs1 => kk v ad1 H1 locs1 rfl)⟩
      · cases g5
  case h_7 => obtain ⟨v, -, e1⟩ := Option.map_eq_some_iff.mp h; cases e1
  case h_8 => obtain ⟨v, -, e1⟩ := Option.map_eq_some_iff.mp h; cases e1
  case h_9 => obtain ⟨v, -, e1⟩ := Option.map_eq_some_iff.mp h; cases e1
  case h_10 => obtain ⟨v, -, e1⟩ := Option.map_eq_some_iff.mp h; cases e1
  case h_11 => obtain ⟨v, -, e1⟩ := Option.map_eq_some_iff.mp h; cases e1
  case h_12 => obtain ⟨v, -, e1⟩ := Option.map_eq_some_iff.mp h; cases e1
end AMF
end
/-! ##### 08.frame ##### -/
section
/-! ===== whole frames: the induction ===== -/
section AMF
variable {l : Launch} {D : va_G} {dA : Nat → ClassId} {sA : Nat → Nat} {G : Nat → Option amM} {X : Nat → Option amN}
theorem amDo_ret {M : amM} {sc : Option (List Int32)} {i : Instr} {a b pc : Nat} {ls : amL} {st : List Value} {hp : amH} {v : Option Value} (h : amDo G M sc i a b pc ls st hp = some (.inr (.inl v))) : amRetV M.2.2.2.2.1 i st = some v ∧ amSz i = 1 := by
  unfold amDo at h
  split at h
  case h_1 =>
    split at h
    · obtain ⟨-, -, -, -, e1⟩ := amMake_s h; cases e1
    · split at h <;> cases h
  case h_2 => obtain ⟨_, _, _, _, -, -, -, -, h⟩ := amMakeA_s h; obtain ⟨-, -, -, -, e1⟩ := amMake_s h; cases e1
  case h_3 => obtain ⟨_, _, _, _, -, -, -, -, h⟩ := amMakeA_s h; obtain ⟨-, -, -, -, e1⟩ := amMake_s h; cases e1
  case h_4 =>
    split at h
    · obtain ⟨_, _, _, -, -, -, e1⟩ := amLenS_s h; cases e1
    · split at h
      · obtain ⟨_, _, _, _, -, -, -, -, e1⟩ := amChrS_s h; cases e1
      · obtain ⟨_, _, _, -, -, -, -, -, -, -, -, e1⟩ := amCall_s h; cases e1
  case h_5 =>
    split at h
    · obtain ⟨_, _, _, _, _, _, _, _, -, -, -, -, -, -, -, -, -, e1⟩ := amCopy_s h; cases e1
    · obtain ⟨_, _, _, -, -, -, -, -, -, -, -, e1⟩ := amCall_s h; cases e1
  case h_6 =>
    split at h
    · obtain ⟨_, _, -, -, e1⟩ := amObj_s h; cases e1
    · obtain ⟨_, _, _, -, -, -, -, -, -, -, -, e1⟩ := amCall_s h; cases e1
  case h_7 => obtain ⟨w, h1, e1⟩ := Option.map_eq_some_iff.mp h; cases e1; exact ⟨h1, rfl⟩
  case h_8 => obtain ⟨w, h1, e1⟩ := Option.map_eq_some_iff.mp h; cases e1; exact ⟨h1, rfl⟩
  case h_9 => obtain ⟨w, h1, e1⟩ := Option.map_eq_some_iff.mp h; cases e1; exact ⟨h1, rfl⟩
  case h_10 => obtain ⟨w, h1, e1⟩ := Option.map_eq_some_iff.mp h; cases e1; exact ⟨h1, rfl⟩
  case h_11 => obtain ⟨w, h1, e1⟩ := Option.map_eq_some_iff.mp h; cases e1; exact ⟨h1, rfl⟩
  case h_12 => obtain ⟨w, h1, e1⟩ := Option.map_eq_some_iff.mp h; cases e1
theorem amDo_thr {M : amM} {sc : Option (List Int32)} {i : Instr} {a b pc E : Nat} {ls : amL} {st : List Value} {hp : amH} (h : amDo G M sc i a b pc ls st hp = some (.inr (.inr (.inl E)))) : ∃ k, i = .new k ∧ ¬ b = 0 ∧ E = a ∧ (st.map fun v => v.category).sum ≤ 8 ∧ M.2.2.2.2.2.1 = [] := by
  unfold amDo at h
  split at h
  case h_1 k =>
    split at h
    · obtain ⟨-, -, -, -, e1⟩ := amMake_s h; cases e1
    · next hb =>
      split at h
      · next e2 => cases h; exact ⟨k, rfl, hb, rfl, e2.1, e2.2⟩
      · cases h
  case h_2 => obtain ⟨_, _, _, _, -, -, -, -, h⟩ := amMakeA_s h; obtain ⟨-, -, -, -, e1⟩ := amMake_s h; cases e1
  case h_3 => obtain ⟨_, _, _, _, -, -, -, -, h⟩ := amMakeA_s h; obtain ⟨-, -, -, -, e1⟩ := amMake_s h; cases e1
  case h_4 =>
    split at h
    · obtain ⟨_, _, _, -, -, -, e1⟩ := amLenS_s h; cases e1
    · split at h
      · obtain ⟨_, _, _, _, -, -, -, -, e1⟩ := amChrS_s h; cases e1
      · obtain ⟨_, _, _, -, -, -, -, -, -, -, -, e1⟩ := amCall_s h; cases e1
  case h_5 =>
    split at h
    · obtain ⟨_, _, _, _, _, _, _, _, -, -, -, -, -, -, -, -, -, e1⟩ := amCopy_s h; cases e1
    · obtain ⟨_, _, _, -, -, -, -, -, -, -, -, e1⟩ := amCall_s h; cases e1
  case h_6 =>
    split at h
    · obtain ⟨_, _, -, -, e1⟩ := amObj_s h; cases e1
    · obtain ⟨_, _, _, -, -, -, -, -, -, -, -, e1⟩ := amCall_s h; cases e1
  case h_7 => obtain ⟨w, h1, e1⟩ := Option.map_eq_some_iff.mp h; cases e1
  case h_8 => obtain ⟨w, h1, e1⟩ := Option.map_eq_some_iff.mp h; cases e1
  case h_9 => obtain ⟨w, h1, e1⟩ := Option.map_eq_some_iff.mp h; cases e1
  case h_10 => obtain ⟨w, h1, e1⟩ := Option.map_eq_some_iff.mp h; cases e1
  case h_11 => obtain ⟨w, h1, e1⟩ := Option.map_eq_some_iff.mp h; cases e1
  case h_12 => obtain ⟨w, h1, e1⟩ := Option.map_eq_some_iff.mp h; cases e1
theorem amDrop_ls {ad : Nat → Nat} {ls : amL} {i : Nat} {nL : Nat} {v : Value} {lsA : Array Slot} (h : lv_has lsA nL ((i, v) :: (amLs ad ls).filter (fun q => !(q.1 == i) && !(q.1 + 1 == i && q.2.category == 2)))) : lv_has lsA nL (amLs ad (amDrop ls i)) := by
  refine ⟨h.1, h.2.1, fun q hq => h.2.2 q (List.mem_cons_of_mem _ ?_)⟩
  have e : amLs ad (amDrop ls i) = (amLs ad ls).filter (fun q => !(q.1 == i) && !(q.1 + 1 == i && q.2.category == 2)) := by
    simp [amLs, amDrop, List.filter_map, Function.comp_def, amV_cat]
  rw [← e]
  exact hq
theorem amDo_call {M : amM} {sc : Option (List Int32)} {i : Instr} {a b pc : Nat} {ls : amL} {st : List Value} {hp : amH} {z : Nat × List Value × List Value} (ea : amDo G M sc i a b pc ls st hp = some (.inr (.inr (.inr z)))) : amOkL hp.length ls = true := by
  unfold amDo at ea
  split at ea
  case h_1 =>
    split at ea
    · obtain ⟨-, -, -, -, e1⟩ := amMake_s ea; cases e1
    · split at ea <;> cases ea
  case h_2 => obtain ⟨_, _, _, _, -, -, -, -, ea⟩ := amMakeA_s ea; obtain ⟨-, -, -, -, e1⟩ := amMake_s ea; cases e1
  case h_3 => obtain ⟨_, _, _, _, -, -, -, -, ea⟩ := amMakeA_s ea; obtain ⟨-, -, -, -, e1⟩ := amMake_s ea; cases e1
  case h_4 =>
    split at ea
    · obtain ⟨_, _, _, -, -, -, e1⟩ := amLenS_s ea; cases e1
    · split at ea
      · obtain ⟨_, _, _, _, -, -, -, -, e1⟩ := amChrS_s ea; cases e1
      · obtain ⟨_, _, _, -, -, -, o, -⟩ := amCall_s ea; exact o
  case h_5 =>
    split at ea
    · obtain ⟨_, _, _, _, _, _, _, _, -, -, -, -, -, -, -, -, -, e1⟩ := amCopy_s ea; cases e1
    · obtain ⟨_, _, _, -, -, -, o, -⟩ := amCall_s ea; exact o
  case h_6 =>
    split at ea
    · obtain ⟨_, _, -, -, e1⟩ := amObj_s ea; cases e1
    · obtain ⟨_, _, _, -, -, -, o, -⟩ := amCall_s ea; exact o
  case h_7 => obtain ⟨w, -, e1⟩ := Option.map_eq_some_iff.mp ea; cases e1
  case h_8 => obtain ⟨w, -, e1⟩ := Option.map_eq_some_iff.mp ea; cases e1
  case h_9 => obtain ⟨w, -, e1⟩ := Option.map_eq_some_iff.mp ea; cases e1
  case h_10 => obtain ⟨w, -, e1⟩ := Option.map_eq_some_iff.mp ea; cases e1
  case h_11 => obtain ⟨w, -, e1⟩ := Option.map_eq_some_iff.mp ea; cases e1
  case h_12 => obtain ⟨w, -, e1⟩ := Option.map_eq_some_iff.mp ea; cases e1
set_option maxHeartbeats 4000000 in
theorem am_FR_succ (hus : ∀ (ci : Nat) (r : vw_C), vwCl[ci]? = some r → ∀ w ∈ u_ws r.1 r.2.1 r.2.2, w ∈ amWL) (hcl : amClOk) (hGM : ∀ k M, G k = some M → M.2.1 ≤ 100) {f : Nat} (hFR : amFR l D dA sA G X f) (hCT : amCT l D dA sA G X f) : amFR l D dA sA G X (f + 1) := by
  intro p e R s m args below meth c A Q N M sc d n0 ad0 x hp1 mc ms C hs0 Er Et Ex cs pc ls st hp kc ks ad H locs lsA hcs h hag hn0 hl hP hD hS
  have hsA : ∀ j, ad (amK + j) = sA j := fun j => (hag _ (Or.inr (Nat.le_add_right _ _))).trans (hs0 j)
  obtain ⟨hx, hb, hml, hown, hts, hG, hZ, hA, hini, htab, hMk, hR, hsc⟩ := id C
  have next := hFR p e R s m args below meth c A Q N M sc d n0 ad0 x hp1 mc ms C hs0 Er Et Ex
  cases cs with
  | nil => unfold amRun at h; cases h
  | cons q cs =>
    obtain ⟨q0, i, a, b⟩ := q
    have hcs' : ∀ z ∈ cs, z ∈ M.1 := fun z hz => hcs z (List.mem_cons_of_mem _ hz)
    have hE : amEok G X N M (q0, i, a, b) := hMk.2.2.2.2 _ (hcs _ List.mem_cons_self)
    unfold amRun at h
    dsimp only at h
    split at h
    · next hq =>
      subst hq
      split at h
      · cases h
      · next r dk ds ea =>
        obtain ⟨m1, m2, m3⟩ := amRun_mono _ _ _ _ _ _ _ _ _ _ _ _ _ _ _ h
        refine am_act hx hb hml hts hown hG hZ hus hcl hini hsA hsc hA hE ⟨by omega, by omega⟩ ⟨by omega, by omega⟩ ea ⟨by omega, by omega⟩ hl hP hD hS (fun ad1 H1 locs1 lsA1 g1 g2 g3 g4 g5 => ?_)
        have hlen := amDo_len ea
        exact next _ _ _ _ _ _ _ ad1 H1 locs1 lsA1 (am_next_in hcs') h (hag.trans hn0 g1) (Nat.le_trans hn0 hlen) g5 g2 g3 g4
      · next v ea =>
        cases h
        obtain ⟨e1, e2⟩ := amDo_ret ea
        obtain ⟨⟨n, hd, hn⟩, -, -⟩ := hE
        dsimp only at hd hn
        rw [e2] at hn
        obtain rfl : n = 1 := by rcases hn with hn | hn <;> first | exact hn | cases hn
        exact Er v i _ st ad H locs lsA rfl hd e1 hag hP hD hS
      · next E ea =>
        cases h
        obtain ⟨k, rfl, hb0, rfl, hcat, hh⟩ := amDo_thr ea
        obtain ⟨⟨n, hd, hn⟩, -, hlk2⟩ := hE
        dsimp only at hd hn hlk2
        obtain rfl : n = 3 := by rcases hn with hn | hn <;> first | exact hn | cases hn
        unfold amLk2 at hlk2
        dsimp only at hlk2
        rw [if_neg hb0] at hlk2
        exact Et _ b k kc ks _ st ad H locs lsA rfl hd hlk2 hh hcat hl.1 rfl rfl hag hP hD hS
      · next k av rest ea =>
        split at h
        · next d' Nk eG =>
          split at h
          · next v hp2 mc2 ms2 er =>
            obtain ⟨m1, m2, m3⟩ := amRun_mono _ _ _ _ _ _ _ _ _ _ _ _ _ _ _ h
            obtain ⟨-, -, m4⟩ := amRun_mono _ _ _ _ _ _ _ _ _ _ _ _ _ _ _ er
            have key := am_callAct (e := e) (below := below) (Q := Q) C hE ea eG (x := .inl v) (mc := mc2) (ms := ms2) (kc := kc) (ks := ks) (fun Nk2 hX hav => hCT k Nk2 Nk d' av hp hp2 (.inl v) mc2 ms2 ad H.size hX eG hsA hav er) (hGM _ _ eG) (fun _ => ⟨v, rfl⟩) ⟨by omega, by omega⟩ hl hP hD hS
            have hok : amOkL hp.length ls = true := amDo_call ea
            exact (key (fun w ad1 H1 locs1 ew g1 g2 g3 g4 => by
              cases ew
              exact next _ _ _ _ _ _ _ ad1 H1 locs1 lsA (am_next_in hcs') h (hag.trans hn0 g1) (Nat.le_trans hn0 m4) (by rw [amLs_ag hok g1]; exact hl) g2 g3 g4) (fun k9 E ce q9 ad1 H1 locs1 ew => by cases ew)).2
          · next E hp2 mc2 ms2 er =>
            split at h
            · cases h
            · next hmay =>
              obtain ⟨-, -, m4⟩ := amRun_mono _ _ _ _ _ _ _ _ _ _ _ _ _ _ _ er
              split at h
              · next hh =>
                cases h
                exact (am_callAct (Q := Q) C hE ea eG (x := .inr E) (mc := mc2) (ms := ms2) (kc := kc) (ks := ks) (fun Nk2 hX hav => hCT k Nk2 Nk d' av hp hp1 (.inr E) mc2 ms2 ad H.size hX eG hsA hav er) (hGM _ _ eG) (fun z => absurd z hmay) ⟨by omega, by omega⟩ hl hP hD hS
                  (fun w ad1 H1 locs1 ew => by cases ew)
                  (fun k9 En ce q9 ad1 H1 locs1 ew hEn g1 g2 g3 g4 g5 g6 g7 => by
                    cases ew
                    exact Ex E En ce q9 _ _ ad1 H1 locs1 lsA rfl hEn hh (hag.trans hn0 g1) g2 g3 g4 g5 g6 g7)).2
              · next hh =>
                split at h
                · next hq x9 to eh =>
                  obtain ⟨m1, m2, m3⟩ := amRun_mono _ _ _ _ _ _ _ _ _ _ _ _ _ _ _ h
                  have key := am_callAct (e := e) (below := below) (Q := Q) C hE ea eG (x := .inr E) (mc := mc2) (ms := ms2) (kc := kc) (ks := ks) (fun Nk2 hX hav => hCT k Nk2 Nk d' av hp hp2 (.inr E) mc2 ms2 ad H.size hX eG hsA hav er) (hGM _ _ eG) (fun z => absurd z hmay) ⟨by omega, by omega⟩ hl hP hD hS (fun w ad1 H1 locs1 ew => by cases ew)
                  have hok : amOkL hp.length ls = true := amDo_call ea
                  refine (key (fun k9 En ce q9 ad1 H1 locs1 ew hEn g1 g2 g3 g4 g5 g6 g7 => ?_)).2
                  cases ew
                  obtain ⟨pre, z, suf, t1, t2, t3, t4, t5, t6, t7, t8, t9⟩ := hMk.2.2.2.1.2 _ _ _ _ _ En eh hEn
                  refine vx_catch (name := En) hown pre z suf (htab.trans t1) (fun y hy => (t2 y hy).imp id (fun ⟨w1, nm, w2, w3⟩ => ⟨w1, nm, hts _ w2, hG.2.2.2.1 _ w3⟩)) t3 t4 (hts _ t6) (va_Nw.use rfl (hG.2.2.1 _ t7 rfl)) g5 g6 g7 ?_
                  rw [t5]
                  have fin : ∀ lsB : Array Slot, lv_has lsB M.2.1 ((x9, Value.ref q9) :: (amLs ad1 ls).filter (fun q => !(q.1 == x9) && !(q.1 + 1 == x9 && q.2.category == 2))) → W p l e R s m args below meth c H1 locs1 (kc + mc2) (ks + ms2) Q (F0 m to lsB []) := fun lsB hB =>
                    next _ _ _ _ _ _ _ ad1 H1 locs1 lsB (am_seek_in) h (hag.trans hn0 g1) (Nat.le_trans hn0 m4) (amDrop_ls hB) g2 g3 g4
                  have hl1 : lv_has lsA M.2.1 (amLs ad1 ls) := by rw [amLs_ag hok g1]; exact hl
                  rcases t9 with ⟨j, hj, hdj, rfl⟩ | ⟨hdj, rfl⟩
                  · exact lv_astore_n hx hb hdj hj hl1 t8 rfl fin
                  · exact lv_astore hx hb hdj hl1 t8 rfl fin
                · cases h
          · cases h
        · cases h
    · cases h
set_option maxHeartbeats 8000000 in
theorem am_con (hlt : l.stackTraces = false) (hT : ∀ k N M, X k = some N → G k = some M → amMk G X N M) {f : Nat} (hFR : amFR l D dA sA G X f) : amCT l D dA sA G X f := by
  intro k N M d av hp hp1 x mc ms ad sz hX hG' hsA hcat h
  have hMk := hT k N M hX hG'
  refine am_ofW (cc := N.2.1) (maxL := M.2.1) (ret := M.2.2.2.2.1) (hh := N.2.2) hMk.1 rfl ?_
  intro p e s m args below meth c s₁ B hml htab hv
  obtain ⟨rfl, rfl, hG, hP, hD, hZ⟩ := hv
  have hpre := atoms_spec (ws := amHd N M :: amWL) B.pre
  have hlocks := B.notSynchronized
  have hx := B.exec
  have hb := B.bytes
  have hown : s.vm.findClass N.1.cls = some m.cls := findClass_of_methodNamed B.named
  have C : amCx p (headSpec (amHd N M :: amWL) (amRm d mc ms)).room s m (av.map (amV ad)).toArray meth c (va_A (amW dA ad hp) s.heap.size) D dA sA G X N M none d mc ms :=
    ⟨hx, hb, hml, hown, fun w hw => hpre w (List.mem_cons_of_mem _ hw), hG, hZ, fun q h => Or.inr h, fun hi => (name_of_methodNamed B.named B.method).1.trans (hMk.2.2.1 hi), htab, hMk, ⟨Nat.le_refl _, Nat.le_refl _, Nat.le_refl _, Nat.le_refl _⟩, fun l z => by cases z⟩
  rw [lg_entry_eq]
  have hlen : (lg_sl (av.map (amV ad))).length ≤ M.2.1 := by
    rw [am_sl_len, List.map_map]
    simpa [Function.comp_def, amV_cat] using hcat
  have hl := lv_entry (av.map (amV ad)) hlen
  rw [← am_args_ls] at hl
  refine hFR p e _ s m _ below meth c _ (vx_MQ below (amQ D dA ad hp.length (va_A (amW dA ad hp) s.heap.size) x hp1) (amX D dA ad hp.length (va_A (amW dA ad hp) s.heap.size) x hp1) (av.map (amV ad)).toArray s mc ms (va_A (amW dA ad hp) s.heap.size)) N M none d hp.length ad x hp1 mc ms C hsA ?_ ?_ ?_ M.1 0 (lv_args 0 av) [] hp 0 0 ad s.heap [] _ (fun q h => h) h (amAg.refl _ _) (Nat.le_refl _) hl hP hD.self va_S.rf
  · intro v i pc st ad1 H locs lsA hxv hd hret hag hP1 hD1 hS1
    refine vx_ret ?_
    have post : ∀ t : State, t.heap = H → amQ D dA ad hp.length (va_A (amW dA ad hp) s.heap.size) x hp1 (av.map (amV ad)).toArray s (.returned (v.map (amV ad1))) t := fun t ht => ⟨v, ad1, hxv, rfl, hag, by rw [ht]; exact hP1, hD1, hS1.F ht⟩
    rcases amRetV_s hret with ⟨ty, z, rfl, e1, rfl, e2, rfl⟩ | ⟨z, rfl, e1, rfl, rfl⟩ | ⟨z, rfl, e1, rfl, rfl⟩ | ⟨z, rfl, e1, rfl, rfl⟩ | ⟨rfl, e1, rfl, rfl⟩
    · exact W.zret hx hb (B.returns.trans e1) e2 (fun t ht _ => post t ht) hS1.2.2 hd
    · exact W.lret hx hb (B.returns.trans e1) (fun t ht _ => post t ht) hS1.2.2 hd
    · exact W.fret hx hb (B.returns.trans e1) (fun t ht _ => post t ht) hS1.2.2 hd
    · exact W.dret hx hb (B.returns.trans e1) (fun t ht _ => post t ht) hS1.2.2 hd
    · exact W.vret hx hb (B.returns.trans e1) (fun t ht _ => post t ht) hS1.2.2 hd
  · intro a b kk kc ks pc st ad1 H locs lsA hxv hd hthr hh hcat1 hsz hkc hks hag hP1 hD1 hS1
    obtain ⟨cls, is, text, ic, t1, t2, t3, t4, t5, t6, t7, t8⟩ := hthr
    have hts := fun w hw => hpre w (List.mem_cons_of_mem _ hw)
    have hempty : c.exceptionTable.toList = [] := by
      rw [htab]
      rw [hMk.2.2.2.1.1 hh]
      rfl
    have hcat2 : ((st.map (amV ad1)).map fun v => v.category).sum ≤ 8 := by
      rw [List.map_map]
      simpa [Function.comp_def, amV_cat] using hcat1
    have hfr : amXn.length + 3 < (headSpec (amHd N M :: amWL) (amRm d mc ms)).room.frames := by show 2 + 3 < d + 8; omega
    have hlo : ((st.map (amV ad1)).map fun v => v.category).sum + (13 * (amXn.length + 1) + 43) ≤ (headSpec (amHd N M :: amWL) (amRm d mc ms)).room.locals := by show _ + (13 * (2 + 1) + 43) ≤ 128 * (d + 1); omega
    have hxx : ∀ t : State, s.vm.Alike t.vm → H.size ≤ t.heap.size → (∀ q : Nat, q < H.size → t.heap[q]? = H[q]?) → amX D dA ad hp.length (va_A (amW dA ad hp) s.heap.size) x hp1 cls s t := fun t _ u1 u2 =>
      ⟨a, ad1, hxv, t1, hag, hP1.kept (fun k q hk => u2 q.1 ((hP1 k q hk).lt)), hD1, Nat.le_trans hS1.1 u1, fun q v1 v2 => (u2 q (Nat.lt_of_lt_of_le v1 hS1.1)).trans (hS1.2.1 q v1 v2)⟩
    rcases t6 with ⟨rfl, hown9, rfl⟩ | t6
    · have hcls : cls = amNS := (Option.some.inj t1).symm
      subst hcls
      have hat : ∀ w ∈ am_nw.filter vx_no, w.before (av.map (amV ad)).toArray s = true := fun w hw => by
        obtain ⟨u1, u2, u3⟩ := am_nOk w hw
        rcases u3 with u3 | ⟨u3, u4⟩
        · exact hts w (amWL_in u2 u3)
        · exact va_Nw.use u4 (hG.2.2.1 w u2 u3)
      rw [hown9] at t4
      have hown1 : s.vm.findClass "TripleTrains" = some m.cls := hown9 ▸ hown
      have hstr1 := hG.2.1 _ _ t2
      dsimp only at hstr1
      rw [hown9] at hstr1
      split at t8
      · exact am_throwN (k := 6) (sa := sA ((b - 1) / 2)) hx hb hlt hown1 (hts _ t4) (hts _ t5) hstr1 hat (fun w hw => (am_nOk w hw).1) hZ.1 hZ.2.1 hS1 (hsz.trans hml.symm) hd t7 (Or.inl ⟨t8.1, rfl⟩) t8.2.1 t8.2.2 (by rw [hempty]; intro z hz; cases hz) (by show 5 < d + 8; omega) (by show _ + 82 ≤ 128 * (d + 1); omega) (by show kc + 1 ≤ mc; omega) (by show ks + 6 ≤ ms; omega) hlocks hxx hS1.2.2 (by omega) (by omega)
      · exact am_throwN (k := 7) (sa := sA ((b - 1) / 2)) hx hb hlt hown1 (hts _ t4) (hts _ t5) hstr1 hat (fun w hw => (am_nOk w hw).1) hZ.1 hZ.2.1 hS1 (hsz.trans hml.symm) hd t7 (Or.inr ⟨t8.1, rfl⟩) t8.2.1 t8.2.2 (by rw [hempty]; intro z hz; cases hz) (by show 5 < d + 8; omega) (by show _ + 82 ≤ 128 * (d + 1); omega) (by show kc + 1 ≤ mc; omega) (by show ks + 6 ≤ ms; omega) hlocks hxx hS1.2.2 (by omega) (by omega)
    · have hat : ∀ w ∈ vx_atS N.1.cls ic cls amXn, w.before (av.map (amV ad)).toArray s = true := fun w hw => by
        obtain ⟨u1, u2, u3⟩ := t6 w hw
        rcases u3 with u3 | ⟨u3, u4⟩
        · exact hts w (amWL_in u2 u3)
        · exact va_Nw.use u4 (hG.2.2.1 w u2 u3)
      have hgood : ∀ w ∈ Jvm.Cond.classLink N.1.cls kk cls :: Jvm.Cond.initialized cls :: vx_atS N.1.cls ic cls amXn, vx_ot w = true := fun w hw => by
        rcases List.mem_cons.mp hw with rfl | hw
        · rfl
        · rcases List.mem_cons.mp hw with rfl | hw
          · rfl
          · exact (t6 w hw).1
      have hfit : ∀ n ∈ amXn, Bundle.fit n = true := by decide +kernel
      have hstr2 := hG.2.1 _ _ t2
      dsimp only at hstr2
      split at t8
      · exact vx_throwS (sa := sA ((b - 1) / 2)) hx hb hlt hown t3 hfit (hts _ t4) (hts _ t5) hstr2 hat hgood hZ.1 hZ.2.1 hS1 (hsz.trans hml.symm) hd t7 t8.1 t8.2.1 t8.2.2 (by rw [hempty]; intro z hz; cases hz) hfr hlo (by show kc + 1 ≤ mc; omega) (by show ks + 6 ≤ ms; omega) hlocks hxx hS1.2.2 (by omega) (by omega)
      · exact vx_throwSW (sa := sA ((b - 1) / 2)) hx hb hlt hown t3 hfit (hts _ t4) (hts _ t5) hstr2 hat hgood hZ.1 hZ.2.1 hS1 (hsz.trans hml.symm) hd t7 t8.1 t8.2.1 t8.2.2 (by rw [hempty]; intro z hz; cases hz) hfr hlo (by show kc + 1 ≤ mc; omega) (by show ks + 6 ≤ ms; omega) hlocks hxx hS1.2.2 (by omega) (by omega)
  · intro E En ce q9 pc st ad1 H locs lsA hxv hEn hh hag hP1 hD1 hS1 g1 g2 g3
    have hempty : c.exceptionTable.toList = [] := by
      rw [htab, hMk.2.2.2.1.1 hh]
      rfl
    exact vx_out (by rw [hempty]; intro z hz; cases hz) hlocks g1 g2 g3 (fun t ht _ => ⟨E, ad1, hxv, hEn, hag, by rw [ht]; exact hP1, hD1, hS1.F ht⟩) hS1.2.2 (Nat.le_refl _) (Nat.le_refl _)
theorem am_all (hlt : l.stackTraces = false) (hus : ∀ (ci : Nat) (r : vw_C), vwCl[ci]? = some r → ∀ w ∈ u_ws r.1 r.2.1 r.2.2, w ∈ amWL) (hcl : amClOk) (hGM : ∀ k M, G k = some M → M.2.1 ≤ 100) (hT : ∀ k N M, X k = some N → G k = some M → amMk G X N M) : ∀ f, amFR l D dA sA G X f := by
  intro f
  induction f with
  | zero =>
    intro p e R s m args below meth c A Q N M sc d n0 ad0 x hp1 mc ms C hs0 Er Et Ex cs pc ls st hp kc ks ad H locs lsA hcs h
    unfold amRun at h
    cases h
  | succ f ih => exact am_FR_succ hus hcl hGM ih (am_con hlt hT ih)
end AMF
end
/-! ##### 09.a.abs ##### -/
section
/-! ===== the abstract runs: ints by their bounds, pushed up by 2^31 ===== -/
abbrev aV : Type := Value ⊕ (Nat × Nat)
abbrev aC : Type := Nat × Nat × List (List aV)
abbrev aH : Type := Nat × List (List aC)
abbrev aL : Type := List (Option aV)
def aR : aV → Value → Prop
  | .inl v, w => w = v
  | .inr q, w => ∃ x : Int32, w = .int x ∧ (q.1 : Int) ≤ x.toInt + 2147483648 ∧ x.toInt + 2147483648 ≤ (q.2 : Int)
def aRs : List aV → List Value → Prop
  | [], [] => True
  | v :: vs, w :: ws => aR v w ∧ aRs vs ws
  | _, _ => False
def aRo : Option aV → Option Value → Prop
  | some v, some w => aR v w
  | none, none => True
  | _, _ => False
theorem aRs_cons {v : aV} {vs : List aV} {ws : List Value} (h : aRs (v :: vs) ws) : ∃ w ws', ws = w :: ws' ∧ aR v w ∧ aRs vs ws' := by
  cases ws with
  | nil => cases h
  | cons w ws => exact ⟨w, ws, rfl, h.1, h.2⟩
theorem aRs_nil {ws : List Value} (h : aRs [] ws) : ws = [] := by cases ws <;> first | rfl | cases h
theorem aRs_len : ∀ {vs : List aV} {ws : List Value}, aRs vs ws → vs.length = ws.length
  | [], [], _ => rfl
  | _ :: _, _ :: _, h => by simp [aRs_len h.2]
  | [], _ :: _, h => by cases h
  | _ :: _, [], h => by cases h
theorem aRs_app : ∀ {vs : List aV} {ws : List Value} {vs' : List aV} {ws' : List Value}, aRs vs ws → aRs vs' ws' → aRs (vs ++ vs') (ws ++ ws')
  | [], [], _, _, _, h => h
  | _ :: _, _ :: _, _, _, h, e => ⟨h.1, aRs_app h.2 e⟩
  | [], _ :: _, _, _, h, _ => by cases h
  | _ :: _, [], _, _, h, _ => by cases h
theorem aRs_take : ∀ {n : Nat} {vs : List aV} {ws : List Value}, aRs vs ws → aRs (vs.take n) (ws.take n)
  | 0, _, _, _ => by simp [aRs]
  | _ + 1, [], [], _ => trivial
  | n + 1, _ :: _, _ :: _, h => ⟨h.1, aRs_take h.2⟩
  | _ + 1, [], _ :: _, h => by cases h
  | _ + 1, _ :: _, [], h => by cases h
theorem aRs_drop : ∀ {n : Nat} {vs : List aV} {ws : List Value}, aRs vs ws → aRs (vs.drop n) (ws.drop n)
  | 0, _, _, h => h
  | _ + 1, [], [], _ => trivial
  | n + 1, _ :: _, _ :: _, h => aRs_drop (n := n) h.2
  | _ + 1, [], _ :: _, h => by cases h
  | _ + 1, _ :: _, [], h => by cases h
theorem aRs_rev : ∀ {vs : List aV} {ws : List Value}, aRs vs ws → aRs vs.reverse ws.reverse
  | [], [], _ => trivial
  | _ :: _, _ :: _, h => by
    rw [List.reverse_cons, List.reverse_cons]
    exact aRs_app (aRs_rev h.2) ⟨h.1, trivial⟩
  | [], _ :: _, h => by cases h
  | _ :: _, [], h => by cases h
def aCat : aV → Nat
  | .inl v => v.category
  | .inr _ => 1
theorem aR_cat {v : aV} {w : Value} (h : aR v w) : w.category = aCat v := by
  cases v with
  | inl v => cases h; rfl
  | inr q => obtain ⟨x, rfl, -⟩ := h; rfl
def aCs : List aV → Nat
  | [] => 0
  | v :: r => Nat.add (aCat v) (aCs r)
theorem aRs_cat : ∀ {vs : List aV} {ws : List Value}, aRs vs ws → (ws.map fun v => v.category).sum = aCs vs
  | [], [], _ => rfl
  | v :: vs, w :: ws, h => by
    rw [List.map_cons, List.sum_cons, aR_cat h.1, aRs_cat h.2]
    rfl
  | [], _ :: _, h => by cases h
  | _ :: _, [], h => by cases h
/-! lists by places, rows of sixteen -/
def lAt {α : Type} : List α → Nat → Option α
  | [], _ => none
  | c :: _, 0 => some c
  | _ :: r, i + 1 => lAt r i
def lPut {α : Type} : List α → Nat → α → Option (List α)
  | [], _, _ => none
  | _ :: r, 0, v => some (v :: r)
  | c :: r, i + 1, v => match lPut r i v with
    | some r' => some (c :: r')
    | none => none
def cGet {α : Type} : List (List α) → Nat → Option α
  | [], _ => none
  | c :: r, i => match Nat.ble i 15 with
    | true => lAt c i
    | false => cGet r (Nat.sub i 16)
def cPut {α : Type} : List (List α) → Nat → α → Option (List (List α))
  | [], _, _ => none
  | c :: r, i, v => match Nat.ble i 15 with
    | true => (match lPut c i v with
      | some c' => some (c' :: r)
      | none => none)
    | false => (match cPut r (Nat.sub i 16) v with
      | some r' => some (c :: r')
      | none => none)
theorem lPut_s {α : Type} : ∀ {l l' : List α} {i : Nat} {v : α}, lPut l i v = some l' → (∃ o, lAt l i = some o) ∧ lAt l' i = some v ∧ ∀ j, ¬ j = i → lAt l' j = lAt l j
  | [], _, _, _, h => by cases h
  | c :: r, l', 0, v, h => by
    cases h
    refine ⟨⟨c, rfl⟩, rfl, fun j hj => ?_⟩
    cases j with
    | zero => exact absurd rfl hj
    | succ j => rfl
  | c :: r, l', i + 1, v, h => by
    unfold lPut at h
    split at h
    · next r' e =>
      cases h
      obtain ⟨⟨o, h1⟩, h2, h3⟩ := lPut_s e
      refine ⟨⟨o, h1⟩, h2, fun j hj => ?_⟩
      cases j with
      | zero => rfl
      | succ j => exact h3 j (fun z => hj (by rw [z]))
    · cases h
theorem cPut_s {α : Type} : ∀ {l l' : List (List α)} {i : Nat} {v : α}, cPut l i v = some l' → (∃ o, cGet l i = some o) ∧ cGet l' i = some v ∧ ∀ j, ¬ j = i → cGet l' j = cGet l j
  | [], _, _, _, h => by cases h
  | c :: r, l', i, v, h => by
    unfold cPut at h
    split at h
    · next hi =>
      split at h
      · next c' e =>
        cases h
        obtain ⟨⟨o, h1⟩, h2, h3⟩ := lPut_s e
        refine ⟨⟨o, by unfold cGet; rw [hi]; exact h1⟩, by unfold cGet; rw [hi]; exact h2, fun j hj => ?_⟩
        unfold cGet
        split
        · exact h3 j hj
        · rfl
      · cases h
    · next hi =>
      split at h
      · next r' e =>
        cases h
        obtain ⟨⟨o, h1⟩, h2, h3⟩ := cPut_s e
        refine ⟨⟨o, by unfold cGet; rw [hi]; exact h1⟩, by unfold cGet; rw [hi]; exact h2, fun j hj => ?_⟩
        unfold cGet
        split
        · rfl
        · next hj2 =>
          refine h3 _ (fun z => hj ?_)
          have a1 : ¬ i ≤ 15 := fun z => by rw [Nat.ble_eq_true_of_le z] at hi; cases hi
          have a2 : ¬ j ≤ 15 := fun z => by rw [Nat.ble_eq_true_of_le z] at hj2; cases hj2
          have z : j - 16 = i - 16 := z
          omega
      · cases h
def cMk {α : Type} : Nat → List α → List (List α)
  | 0, l => [l]
  | k + 1, l => l.take 16 :: cMk k (l.drop 16)
theorem lAt_eq {α : Type} : ∀ (l : List α) (i : Nat), lAt l i = l[i]?
  | [], _ => by simp [lAt]
  | _ :: _, 0 => by simp [lAt]
  | _ :: r, i + 1 => by simp [lAt, lAt_eq r i]
theorem cMk_s {α : Type} : ∀ (k : Nat) (l : List α) (i : Nat), l.length ≤ 16 * k → cGet (cMk k l) i = l[i]?
  | 0, l, i, h => by
    have : l = [] := List.length_eq_zero_iff.mp (by omega)
    subst this
    unfold cMk cGet
    split <;> simp [lAt, cGet]
  | k + 1, l, i, h => by
    unfold cMk cGet
    split
    · next e =>
      have e := Nat.le_of_ble_eq_true e
      rw [lAt_eq, List.getElem?_take, if_pos (by omega)]
    · next e =>
      have e : ¬ i ≤ 15 := fun z => by rw [Nat.ble_eq_true_of_le z] at e; cases e
      rw [cMk_s k (l.drop 16) _ (by rw [List.length_drop]; omega), List.getElem?_drop]
      congr 1
      show 16 + (i - 16) = i
      omega
/-! cells -/
def aRc (c : aC) (d : amC) : Prop := c.1 = d.1 ∧ c.2.1 = d.2.length ∧ ∀ j, aRo (cGet c.2.2 j) (d.2[j]?)
def aRh (h : aH) (hp : amH) : Prop := h.1 = hp.length ∧ ∀ j, j < hp.length → ∃ c d, cGet h.2 j = some c ∧ hp[j]? = some d ∧ aRc c d
def aCell (h : aH) (o : Nat) : Option aC := match Nat.ble (Nat.add o 1) h.1 with
  | true => cGet h.2 o
  | false => none
theorem aCell_s {h : aH} {hp : amH} {o : Nat} {c : aC} (hr : aRh h hp) (e : aCell h o = some c) : ∃ d, hp[o]? = some d ∧ aRc c d := by
  unfold aCell at e
  split at e
  · next e1 =>
    have e1 : o + 1 ≤ h.1 := Nat.le_of_ble_eq_true e1
    obtain ⟨c', d, h1, h2, h3⟩ := hr.2 o (by rw [← hr.1]; omega)
    rw [h1] at e
    cases e
    exact ⟨d, h2, h3⟩
  · cases e
theorem aRo_some {o : Option aV} {v : aV} {w : Option Value} (h : aRo o w) (e : o = some v) : ∃ x, w = some x ∧ aR v x := by
  subst e
  cases w with
  | none => cases h
  | some x => exact ⟨x, rfl, h⟩
theorem aRc_get {c : aC} {d : amC} {j : Nat} {v : aV} (h : aRc c d) (e : cGet c.2.2 j = some v) : ∃ w, d.2[j]? = some w ∧ aR v w := aRo_some (h.2.2 j) e
theorem a_lt {α : Type} {l : List α} {j : Nat} {w : α} (h : l[j]? = some w) : j < l.length := by
  rcases Nat.lt_or_ge j l.length with z | z
  · exact z
  · rw [List.getElem?_eq_none z] at h; cases h
theorem aRc_put {c : aC} {d : amC} {j : Nat} {v : aV} {w : Value} {r : List (List aV)} (h : aRc c d) (e : cPut c.2.2 j v = some r) (hv : aR v w) : j < d.2.length ∧ aRc (c.1, c.2.1, r) (d.1, d.2.set j w) := by
  obtain ⟨⟨o, h1⟩, h2, h3⟩ := cPut_s e
  obtain ⟨x, h4, -⟩ := aRc_get h h1
  have hlt := a_lt h4
  refine ⟨hlt, h.1, by rw [List.length_set]; exact h.2.1, fun i => ?_⟩
  dsimp only
  by_cases hi : i = j
  · subst hi
    rw [h2, List.getElem?_set_self hlt]
    exact hv
  · rw [h3 i hi, List.getElem?_set_ne (fun z => hi z.symm)]
    exact h.2.2 i
def aPutH (h : aH) (o : Nat) (c : aC) : Option aH := match Nat.ble (Nat.add o 1) h.1 with
  | true => (match cPut h.2 o c with
    | some r => some (h.1, r)
    | none => none)
  | false => none
theorem aPutH_s {h h1 : aH} {hp : amH} {o : Nat} {c : aC} {d : amC} (hr : aRh h hp) (e : aPutH h o c = some h1) (hc : aRc c d) : aRh h1 (hp.set o d) := by
  unfold aPutH at e
  split at e
  · next e1 =>
    have e1 : o + 1 ≤ h.1 := Nat.le_of_ble_eq_true e1
    split at e
    · next r e2 =>
      cases e
      obtain ⟨-, h2, h3⟩ := cPut_s e2
      refine ⟨by rw [List.length_set]; exact hr.1, fun j hj => ?_⟩
      rw [List.length_set] at hj
      by_cases hi : j = o
      · subst hi
        exact ⟨c, d, h2, List.getElem?_set_self hj, hc⟩
      · obtain ⟨c', d', g1, g2, g3⟩ := hr.2 j hj
        exact ⟨c', d', by rw [h3 j hi]; exact g1, by rw [List.getElem?_set_ne (fun z => hi z.symm)]; exact g2, g3⟩
    · cases e
  · cases e
def aNewH (h : aH) (c : aC) : Option aH := match cPut h.2 h.1 c with
  | some r => some (Nat.add h.1 1, r)
  | none => none
theorem aNewH_s {h h1 : aH} {hp : amH} {c : aC} {d : amC} (hr : aRh h hp) (e : aNewH h c = some h1) (hc : aRc c d) : aRh h1 (hp ++ [d]) := by
  unfold aNewH at e
  split at e
  · next r e2 =>
    cases e
    obtain ⟨-, h2, h3⟩ := cPut_s e2
    refine ⟨by rw [List.length_append, ← hr.1]; rfl, fun j hj => ?_⟩
    rw [List.length_append, List.length_singleton] at hj
    by_cases hi : j = h.1
    · subst hi
      refine ⟨c, d, h2, ?_, hc⟩
      rw [hr.1, List.getElem?_append_right (Nat.le_refl _), Nat.sub_self]
      rfl
    · have hj2 : j < hp.length := by have := hr.1; omega
      obtain ⟨c', d', g1, g2, g3⟩ := hr.2 j hj2
      exact ⟨c', d', by rw [h3 j hi]; exact g1, by rw [List.getElem?_append_left hj2]; exact g2, g3⟩
  · cases e
/-! locals -/
def lGet (ls : aL) (k : Nat) : Option aV := match lAt ls k with
  | some o => o
  | none => none
def aRF (g : Nat → Option aV) (cs : amL) : Prop := (∀ k v, g k = some v → ∃ w, amGet cs k = some w ∧ aR v w) ∧ ∀ q ∈ cs, ∃ v, g q.1 = some v ∧ aR v q.2
def aRl (ls : aL) (cs : amL) : Prop := aRF (lGet ls) cs
theorem amGet_filter {p : Nat × Value → Bool} : ∀ {cs : amL} {k : Nat} {w : Value}, amGet cs k = some w → p (k, w) = true → amGet (cs.filter p) k = some w
  | [], _, _, h, _ => by cases h
  | q :: r, k, w, h, hp => by
    unfold amGet at h
    split at h
    · next e =>
      cases h
      subst e
      rw [List.filter_cons, if_pos hp]
      unfold amGet
      rw [if_pos rfl]
    · next e =>
      rw [List.filter_cons]
      split
      · unfold amGet
        rw [if_neg e]
        exact amGet_filter h hp
      · exact amGet_filter h hp
theorem aRF_filter {g g' : Nat → Option aV} {cs : amL} {p : Nat × Value → Bool} (h : aRF g cs) (h1 : ∀ k v, g' k = some v → g k = some v ∧ ∀ w, aR v w → p (k, w) = true) (h2 : ∀ q, p q = true → g' q.1 = g q.1) : aRF g' (cs.filter p) := by
  refine ⟨fun k v e => ?_, fun q hq => ?_⟩
  · obtain ⟨e1, e2⟩ := h1 k v e
    obtain ⟨w, e3, e4⟩ := h.1 k v e1
    exact ⟨w, amGet_filter e3 (e2 w e4), e4⟩
  · obtain ⟨q1, q2⟩ := List.mem_filter.mp hq
    rw [h2 q q2]
    exact h.2 q q1
theorem aRF_cons {g g' : Nat → Option aV} {cs : amL} {k : Nat} {v : aV} {w : Value} (h : aRF g cs) (hv : aR v w) (h0 : g k = none) (h1 : g' k = some v) (h2 : ∀ j, ¬ j = k → g' j = g j) : aRF g' ((k, w) :: cs) := by
  refine ⟨fun j u e => ?_, fun q hq => ?_⟩
  · unfold amGet
    by_cases hj : k = j
    · subst hj
      rw [h1] at e
      cases e
      exact ⟨w, if_pos rfl, hv⟩
    · rw [if_neg hj]
      rw [h2 j (fun z => hj z.symm)] at e
      exact h.1 j u e
  · rcases List.mem_cons.mp hq with rfl | hq
    · exact ⟨v, h1, hv⟩
    · obtain ⟨u, e1, e2⟩ := h.2 q hq
      refine ⟨u, ?_, e2⟩
      rw [h2 q.1 (fun z => by rw [z, h0] at e1; cases e1)]
      exact e1
def aPrev (ls : aL) : Nat → Bool
  | 0 => true
  | j + 1 => match lGet ls j with
    | some v => Nat.beq (aCat v) 1
    | none => true
theorem aPrev_s {ls : aL} {k j : Nat} {v : aV} (h : aPrev ls k = true) (e : lGet ls j = some v) (hj : j + 1 = k) : aCat v = 1 := by
  subst hj
  simp only [aPrev, e] at h
  exact Nat.eq_of_beq_eq_true h
theorem lGet_put {ls ls' : aL} {k : Nat} {o : Option aV} (h : lPut ls k o = some ls') : lGet ls' k = o ∧ ∀ j, ¬ j = k → lGet ls' j = lGet ls j := by
  obtain ⟨-, h2, h3⟩ := lPut_s h
  refine ⟨by unfold lGet; rw [h2], fun j hj => ?_⟩
  unfold lGet
  rw [h3 j hj]
def aSet1 (ls : aL) (k : Nat) (v : aV) : Option aL := match aPrev ls k with
  | true => lPut ls k (some v)
  | false => none
def aSet2 (ls : aL) (k : Nat) (v : aV) : Option aL := match aPrev ls k with
  | true => (match lPut ls (Nat.add k 1) none with
    | some l1 => lPut l1 k (some v)
    | none => none)
  | false => none
def aDrop (ls : aL) (k : Nat) : Option aL := match aPrev ls k with
  | true => lPut ls k none
  | false => none
theorem aSet1_s {ls ls' : aL} {cs : amL} {k : Nat} {v : aV} {w : Value} (h : aRl ls cs) (hv : aR v w) (e : aSet1 ls k v = some ls') : aRl ls' (amSet1 cs k w) := by
  unfold aSet1 at e
  split at e
  · next hp =>
    obtain ⟨e1, e2⟩ := lGet_put e
    refine aRF_cons (g := fun j => if j = k then none else lGet ls j) (aRF_filter h ?_ ?_) hv (if_pos rfl) e1 (fun j hj => by rw [e2 j hj, if_neg hj])
    · intro j u hj
      try dsimp only at hj
      split at hj
      · cases hj
      · next hjk =>
        refine ⟨hj, fun w hw => ?_⟩
        have c1 : (j + 1 == k && w.category == 2) = false := by
          by_cases z : j + 1 = k
          · rw [aR_cat hw, aPrev_s hp hj z, Bool.and_comm]
            rfl
          · rw [show (j + 1 == k) = false from by simpa using z]
            rfl
        rw [c1, show (j == k) = false from by simpa using hjk]
        rfl
    · intro q hq
      have : ¬ q.1 = k := by
        intro z
        rw [z] at hq
        simp at hq
      exact if_neg this
  · cases e
theorem aDrop_s {ls ls' : aL} {cs : amL} {k : Nat} (h : aRl ls cs) (e : aDrop ls k = some ls') : aRl ls' (amDrop cs k) := by
  unfold aDrop at e
  split at e
  · next hp =>
    obtain ⟨e1, e2⟩ := lGet_put e
    refine aRF_filter h ?_ ?_
    · intro j u hj
      by_cases hjk : j = k
      · subst hjk; rw [e1] at hj; cases hj
      · rw [e2 j hjk] at hj
        refine ⟨hj, fun w hw => ?_⟩
        have c1 : (j + 1 == k && w.category == 2) = false := by
          by_cases z : j + 1 = k
          · rw [aR_cat hw, aPrev_s hp hj z, Bool.and_comm]
            rfl
          · rw [show (j + 1 == k) = false from by simpa using z]
            rfl
        rw [c1, show (j == k) = false from by simpa using hjk]
        rfl
    · intro q hq
      refine e2 _ (fun z => ?_)
      rw [z] at hq
      simp at hq
  · cases e
theorem aSet2_s {ls ls' : aL} {cs : amL} {k : Nat} {v : aV} {w : Value} (h : aRl ls cs) (hv : aR v w) (e : aSet2 ls k v = some ls') : aRl ls' (amSet2 cs k w) := by
  unfold aSet2 at e
  split at e
  · next hp =>
    split at e
    · next l1 e0 =>
      obtain ⟨d1, d2⟩ := lGet_put e0
      obtain ⟨e1, e2⟩ := lGet_put e
      have d1 : lGet l1 (k + 1) = none := d1
      have d2 : ∀ j, ¬ j = k + 1 → lGet l1 j = lGet ls j := d2
      refine aRF_cons (g := fun j => if j = k then none else lGet l1 j) (aRF_filter h ?_ ?_) hv (if_pos rfl) e1 (fun j hj => by rw [e2 j hj, if_neg hj])
      · intro j u hj
        try dsimp only at hj
        split at hj
        · cases hj
        · next hjk =>
          by_cases hjk2 : j = k + 1
          · rw [hjk2, d1] at hj; cases hj
          · rw [d2 j hjk2] at hj
            refine ⟨hj, fun w hw => ?_⟩
            have c1 : (j + 1 == k && w.category == 2) = false := by
              by_cases z : j + 1 = k
              · rw [aR_cat hw, aPrev_s hp hj z, Bool.and_comm]
                rfl
              · rw [show (j + 1 == k) = false from by simpa using z]
                rfl
            rw [c1, show (j == k) = false from by simpa using hjk, show (j == k + 1) = false from by simpa using hjk2]
            rfl
      · intro q hq
        have a1 : ¬ q.1 = k := by
          intro z
          rw [z] at hq
          simp at hq
        have a2 : ¬ q.1 = k + 1 := by
          intro z
          rw [z] at hq
          simp at hq
        rw [if_neg a1, d2 _ a2]
    · cases e
  · cases e
/-! ===== the abstract runs: numbers ===== -/
theorem aMin (x : Int32) : -2147483648 ≤ x.toInt := by have := Int32.le_toInt x; omega
theorem aMax (x : Int32) : x.toInt ≤ 2147483647 := by have := Int32.toInt_lt x; omega
def aOff (x : Int32) : Nat := (x.toInt + 2147483648).toNat
theorem aOff_eq (x : Int32) : (aOff x : Int) = x.toInt + 2147483648 := by
  unfold aOff
  have := aMin x
  omega
def aOf (x : Int32) : aV := .inr (aOff x, aOff x)
theorem aOf_s (x : Int32) : aR (aOf x) (.int x) := ⟨x, rfl, by rw [aOff_eq]; exact Int.le_refl _, by rw [aOff_eq]; exact Int.le_refl _⟩
def aOfV : Value → aV
  | .int x => aOf x
  | v => .inl v
theorem aOfV_s (v : Value) : aR (aOfV v) v := by cases v <;> first | exact aOf_s _ | rfl
def aFull : aV := .inr (0, 4294967295)
theorem aFull_s (x : Int32) : aR aFull (.int x) := by
  refine ⟨x, rfl, ?_, ?_⟩
  · show (0 : Int) ≤ _
    have := aMin x
    omega
  · show _ ≤ (4294967295 : Int)
    have := aMax x
    omega
def aInt (n : Nat) : Int32 := Int32.ofInt ((n : Int) - 2147483648)
def aIn (a b : Nat) (x : Int32) : Prop := (a : Int) ≤ x.toInt + 2147483648 ∧ x.toInt + 2147483648 ≤ (b : Int)
theorem aEq_s {a b : Nat} {x : Int32} (he : Nat.beq a b = true) (h : aIn a b x) : x = aInt a := by
  have he := Nat.eq_of_beq_eq_true he
  subst he
  unfold aInt
  have : (a : Int) - 2147483648 = x.toInt := by have := h.1; have := h.2; omega
  rw [this, Int32.ofInt_toInt]
theorem aBmod {z : Int} (h1 : -2147483648 ≤ z) (h2 : z ≤ 2147483647) : z.bmod (2 ^ 32) = z := by
  rw [Int.bmod_def]
  have : ((2 ^ 32 : Nat) : Int) = 4294967296 := rfl
  split <;> omega
theorem aInt_toInt {n : Nat} (h : n ≤ 4294967295) : (aInt n).toInt = (n : Int) - 2147483648 := by
  unfold aInt
  rw [Int32.toInt_ofInt]
  exact aBmod (by omega) (by omega)
abbrev aG : Type := Nat → Nat → Nat → Nat → Option aV
def aGok (f : Int32 → Int32 → Int32) (g : aG) : Prop := ∀ (a b c d : Nat) (v : aV) (x y : Int32), g a b c d = some v → aIn a b x → aIn c d y → aR v (.int (f x y))
def aGadd : aG := fun a b c d => match Nat.ble 2147483648 (Nat.add a c) with
  | true => (match Nat.ble (Nat.add b d) 6442450943 with
    | true => some (.inr (Nat.sub (Nat.add a c) 2147483648, Nat.sub (Nat.add b d) 2147483648))
    | false => some aFull)
  | false => some aFull
theorem aGadd_ok : aGok (fun x y => x + y) aGadd := by
  intro a b c d v x y h hx hy
  unfold aGadd at h
  obtain ⟨x1, x2⟩ := hx
  obtain ⟨y1, y2⟩ := hy
  split at h
  · next e1 =>
    split at h
    · next e2 =>
      cases h
      have e1 : 2147483648 ≤ a + c := Nat.le_of_ble_eq_true e1
      have e2 : b + d ≤ 6442450943 := Nat.le_of_ble_eq_true e2
      have e3 : (x + y).toInt = x.toInt + y.toInt := by rw [Int32.toInt_add, aBmod (by omega) (by omega)]
      refine ⟨x + y, rfl, ?_, ?_⟩
      · show ((a + c - 2147483648 : Nat) : Int) ≤ _
        omega
      · show _ ≤ ((b + d - 2147483648 : Nat) : Int)
        omega
    · cases h; exact aFull_s _
  · cases h; exact aFull_s _
def aGsub : aG := fun a b c d => match Nat.ble (Nat.sub d a) 2147483648 with
  | true => (match Nat.ble (Nat.sub b c) 2147483647 with
    | true => some (.inr (Nat.sub (Nat.add a 2147483648) d, Nat.sub (Nat.add b 2147483648) c))
    | false => some aFull)
  | false => some aFull
theorem aGsub_ok : aGok (fun x y => x - y) aGsub := by
  intro a b c d v x y h hx hy
  unfold aGsub at h
  obtain ⟨x1, x2⟩ := hx
  obtain ⟨y1, y2⟩ := hy
  split at h
  · next e1 =>
    split at h
    · next e2 =>
      cases h
      have e1 : d - a ≤ 2147483648 := Nat.le_of_ble_eq_true e1
      have e2 : b - c ≤ 2147483647 := Nat.le_of_ble_eq_true e2
      have e3 : (x - y).toInt = x.toInt - y.toInt := by rw [Int32.toInt_sub, aBmod (by omega) (by omega)]
      refine ⟨x - y, rfl, ?_, ?_⟩
      · show ((a + 2147483648 - d : Nat) : Int) ≤ _
        omega
      · show _ ≤ ((b + 2147483648 - c : Nat) : Int)
        omega
    · cases h; exact aFull_s _
  · cases h; exact aFull_s _
def aGx (f : Int32 → Int32 → Int32) : aG := fun a b c d => match Nat.beq a b with
  | true => (match Nat.beq c d with
    | true => some (aOf (f (aInt a) (aInt c)))
    | false => none)
  | false => none
theorem aGx_ok (f : Int32 → Int32 → Int32) : aGok f (aGx f) := by
  intro a b c d v x y h hx hy
  unfold aGx at h
  split at h
  · next e1 =>
    split at h
    · next e2 =>
      cases h
      rw [aEq_s e1 hx, aEq_s e2 hy]
      exact aOf_s _
    · cases h
  · cases h
def aGor (g1 g2 : aG) : aG := fun a b c d => match g1 a b c d with
  | some v => some v
  | none => g2 a b c d
theorem aGor_ok {f : Int32 → Int32 → Int32} {g1 g2 : aG} (h1 : aGok f g1) (h2 : aGok f g2) : aGok f (aGor g1 g2) := by
  intro a b c d v x y h hx hy
  unfold aGor at h
  split at h
  · next w e => cases h; exact h1 a b c d _ x y e hx hy
  · exact h2 a b c d v x y h hx hy
theorem a_neg (x : Int32) : x.toBitVec.msb = decide (x.toInt < 0) := by
  rw [← Int32.toInt_toBitVec, BitVec.msb_eq_toInt]
theorem a_nn {x : Int32} (h : 0 ≤ x.toInt) : x.toInt = (x.toBitVec.toNat : Int) := by
  rw [← Int32.toInt_toBitVec]
  refine BitVec.toInt_eq_toNat_of_msb ?_
  rw [a_neg, decide_eq_false (by omega)]
/-- and: with a known number that is not negative; of two negative ones; with -8 -/
def aGand : aG := fun a b c d =>
  if c = d ∧ 2147483648 ≤ c then some (.inr (2147483648, c))
  else if b < 2147483648 ∧ d < 2147483648 then some (.inr (0, 2147483647))
  else if c = 2147483640 ∧ d = 2147483640 ∧ 2147483656 ≤ a then some (.inr (2147483649, 4294967295))
  else none
theorem aGand_ok : aGok (fun x y => x &&& y) aGand := by
  intro a b c d v x y h hx hy
  unfold aGand at h
  obtain ⟨x1, x2⟩ := hx
  obtain ⟨y1, y2⟩ := hy
  have hm : (x &&& y).toBitVec.msb = (x.toBitVec.msb && y.toBitVec.msb) := by rw [Int32.toBitVec_and, BitVec.msb_and]
  rw [a_neg, a_neg, a_neg] at hm
  have m1 := aMin (x &&& y)
  have m2 := aMax (x &&& y)
  split at h
  · next e =>
    cases h
    have hr : 0 ≤ (x &&& y).toInt := by
      rw [decide_eq_false (show ¬ y.toInt < 0 by omega), Bool.and_false, decide_eq_false_iff_not] at hm
      omega
    refine ⟨x &&& y, rfl, ?_, ?_⟩
    · show (2147483648 : Int) ≤ _
      omega
    · have e1 := a_nn hr
      have e2 := a_nn (show 0 ≤ y.toInt by omega)
      rw [Int32.toBitVec_and, BitVec.toNat_and] at e1
      have e3 : x.toBitVec.toNat &&& y.toBitVec.toNat ≤ y.toBitVec.toNat := Nat.and_le_right
      show _ ≤ (c : Int)
      omega
  · split at h
    · next e =>
      cases h
      rw [decide_eq_true (show x.toInt < 0 by omega), decide_eq_true (show y.toInt < 0 by omega), Bool.and_true, decide_eq_true_eq] at hm
      refine ⟨x &&& y, rfl, ?_, ?_⟩
      · show (0 : Int) ≤ _
        omega
      · show _ ≤ (2147483647 : Int)
        omega
    · split at h
      · next e =>
        cases h
        have hr : 0 ≤ (x &&& y).toInt := by
          rw [decide_eq_false (show ¬ x.toInt < 0 by omega), Bool.false_and, decide_eq_false_iff_not] at hm
          omega
        have e1 := a_nn hr
        have e2 := a_nn (show 0 ≤ x.toInt by omega)
        have ey : y = Int32.ofInt (-8) := by
          have : y.toInt = -8 := by omega
          rw [← this, Int32.ofInt_toInt]
        have e4 : y.toBitVec.toNat = 4294967288 := by rw [ey]; decide
        rw [Int32.toBitVec_and, BitVec.toNat_and, e4] at e1
        obtain ⟨i, i1, i2⟩ := Nat.exists_ge_and_testBit_of_ge_two_pow (n := 3) (x := x.toBitVec.toNat) (by omega)
        have hlt : x.toBitVec.toNat < 2 ^ 32 := x.toBitVec.isLt
        have i3 : i < 32 := by
          rcases Nat.lt_or_ge i 32 with z | z
          · exact z
          · rw [Nat.testBit_lt_two_pow (Nat.lt_of_lt_of_le hlt (Nat.pow_le_pow_right (by decide) z))] at i2
            cases i2
        have i4 : Nat.testBit 4294967288 i = true := by
          have : ∀ j : Fin 32, 3 ≤ j.val → Nat.testBit 4294967288 j.val = true := by decide
          exact this ⟨i, i3⟩ i1
        have i5 : (x.toBitVec.toNat &&& 4294967288) ≠ 0 := by
          intro z
          have := Nat.testBit_and x.toBitVec.toNat 4294967288 i
          rw [z, i2, i4] at this
          simp at this
        refine ⟨x &&& y, rfl, ?_, ?_⟩
        · show (2147483649 : Int) ≤ _
          omega
        · show _ ≤ (4294967295 : Int)
          omega
      · cases h
/-- xor: signs -/
def aGxor : aG := fun a b c d =>
  if (2147483648 ≤ a ∧ 2147483648 ≤ c) ∨ (b < 2147483648 ∧ d < 2147483648) then some (.inr (2147483648, 4294967295))
  else if (b < 2147483648 ∧ 2147483648 ≤ c) ∨ (2147483648 ≤ a ∧ d < 2147483648) then some (.inr (0, 2147483647))
  else none
theorem aGxor_ok : aGok (fun x y => x ^^^ y) aGxor := by
  intro a b c d v x y h hx hy
  unfold aGxor at h
  obtain ⟨x1, x2⟩ := hx
  obtain ⟨y1, y2⟩ := hy
  have hm : (x ^^^ y).toBitVec.msb = (x.toBitVec.msb ^^ y.toBitVec.msb) := by rw [Int32.toBitVec_xor, BitVec.msb_xor]
  rw [a_neg, a_neg, a_neg] at hm
  have m1 := aMin (x ^^^ y)
  have m2 := aMax (x ^^^ y)
  split at h
  · next e =>
    cases h
    have hr : ¬ (x ^^^ y).toInt < 0 := by
      rcases e with e | e
      · rw [decide_eq_false (show ¬ x.toInt < 0 by omega), decide_eq_false (show ¬ y.toInt < 0 by omega), Bool.xor_false, decide_eq_false_iff_not] at hm
        exact hm
      · rw [decide_eq_true (show x.toInt < 0 by omega), decide_eq_true (show y.toInt < 0 by omega), Bool.xor_true, Bool.not_true, decide_eq_false_iff_not] at hm
        exact hm
    refine ⟨x ^^^ y, rfl, ?_, ?_⟩
    · show (2147483648 : Int) ≤ _
      omega
    · show _ ≤ (4294967295 : Int)
      omega
  · split at h
    · next e =>
      cases h
      have hr : (x ^^^ y).toInt < 0 := by
        rcases e with e | e
        · rw [decide_eq_true (show x.toInt < 0 by omega), decide_eq_false (show ¬ y.toInt < 0 by omega), Bool.xor_false, decide_eq_true_eq] at hm
          exact hm
        · rw [decide_eq_false (show ¬ x.toInt < 0 by omega), decide_eq_true (show y.toInt < 0 by omega), Bool.xor_true, Bool.not_false, decide_eq_true_eq] at hm
          exact hm
      refine ⟨x ^^^ y, rfl, ?_, ?_⟩
      · show (0 : Int) ≤ _
        omega
      · show _ ≤ (2147483647 : Int)
        omega
    · cases h
/-- a shift to the right by a known number -/
def aGshr : aG := fun a b c d => if c = d ∧ 2147483648 ≤ c ∧ c ≤ 2147483679 then
    some (.inr (a / 2 ^ (c - 2147483648) + 2147483648 - 2147483648 / 2 ^ (c - 2147483648), b / 2 ^ (c - 2147483648) + 2147483648 - 2147483648 / 2 ^ (c - 2147483648))) else none
theorem aGshr_ok : aGok (fun x y => x >>> (y &&& 31)) aGshr := by
  intro a b c d v x y h hx hy
  unfold aGshr at h
  obtain ⟨x1, x2⟩ := hx
  obtain ⟨y1, y2⟩ := hy
  split at h
  · next e =>
    cases h
    obtain ⟨n, hn⟩ : ∃ n : Nat, c = n + 2147483648 := ⟨c - 2147483648, by omega⟩
    subst hn
    have hn31 : n ≤ 31 := by omega
    have hy : y.toInt = n := by omega
    have ey : y = Int32.ofInt n := by rw [← hy, Int32.ofInt_toInt]
    have key : (x >>> (y &&& 31)).toInt = x.toInt / 2 ^ n := by
      have hk : ∀ j : Fin 32, ((Int32.ofInt (j.val : Int) &&& 31).toBitVec.smod 32).toNat = j.val := by decide
      have h5 := hk ⟨n, by omega⟩
      dsimp only at h5
      rw [← ey] at h5
      rw [← Int32.toInt_toBitVec, Int32.toBitVec_shiftRight]
      show (x.toBitVec.sshiftRight _).toInt = _
      rw [BitVec.toInt_sshiftRight, Int.shiftRight_eq_div_pow, h5, Int32.toInt_toBitVec]
      rfl
    rw [show n + 2147483648 - 2147483648 = n by omega]
    have hP : (2147483648 : Nat) = 2 ^ n * 2 ^ (31 - n) := by rw [← Nat.pow_add, show n + (31 - n) = 31 by omega]
    have hp0 : 0 < 2 ^ n := Nat.pow_pos (by decide)
    have hd : 2147483648 / 2 ^ n = 2 ^ (31 - n) := by rw [hP, Nat.mul_div_cancel_left _ hp0]
    obtain ⟨m, hm⟩ : ∃ m : Nat, (m : Int) = x.toInt + 2147483648 := ⟨aOff x, aOff_eq x⟩
    have k2 : x.toInt / 2 ^ n = ((m / 2 ^ n : Nat) : Int) - ((2 ^ (31 - n) : Nat) : Int) := by
      have k3 : ((m / 2 ^ n : Nat) : Int) = (m : Int) / ((2 ^ n : Nat) : Int) := Int.natCast_ediv _ _
      have k4 : (2147483648 : Int) = ((2 ^ n : Nat) : Int) * ((2 ^ (31 - n) : Nat) : Int) := by
        rw [← Int.natCast_mul, ← hP]; rfl
      rw [k3, hm, k4, Int.add_mul_ediv_left _ _ (by omega)]
      rw [show ((2 ^ n : Nat) : Int) = (2 : Int) ^ n by rw [Int.natCast_pow]; rfl]
      omega
    have hle : 2 ^ (31 - n) ≤ 2147483648 := by rw [← hd]; exact Nat.div_le_self _ _
    have l1 : a / 2 ^ n ≤ m / 2 ^ n := Nat.div_le_div_right (by omega)
    have l2 : m / 2 ^ n ≤ b / 2 ^ n := Nat.div_le_div_right (by omega)
    refine ⟨_, rfl, ?_, ?_⟩
    · show ((a / 2 ^ n + 2147483648 - 2147483648 / 2 ^ n : Nat) : Int) ≤ (x >>> (y &&& 31)).toInt + 2147483648
      rw [key, k2, hd]
      generalize a / 2 ^ n = u1 at *
      generalize m / 2 ^ n = u2 at *
      generalize 2 ^ (31 - n) = u3 at *
      omega
    · show (x >>> (y &&& 31)).toInt + 2147483648 ≤ ((b / 2 ^ n + 2147483648 - 2147483648 / 2 ^ n : Nat) : Int)
      rw [key, k2, hd]
      generalize b / 2 ^ n = u1 at *
      generalize m / 2 ^ n = u2 at *
      generalize 2 ^ (31 - n) = u3 at *
      omega
  · cases h
/-- comparisons that the bounds decide -/
def aCmpD : Jvm.ClassFile.Cond → Nat → Nat → Nat → Nat → Option Bool
  | .eq, a, b, p, q => (match Nat.ble (Nat.add b 1) p with
    | true => some false
    | false => (match Nat.ble (Nat.add q 1) a with
      | true => some false
      | false => (match Nat.beq a b with
        | true => (match Nat.beq p q with
          | true => some true
          | false => none)
        | false => none)))
  | .ne, a, b, p, q => (match Nat.ble (Nat.add b 1) p with
    | true => some true
    | false => (match Nat.ble (Nat.add q 1) a with
      | true => some true
      | false => (match Nat.beq a b with
        | true => (match Nat.beq p q with
          | true => some false
          | false => none)
        | false => none)))
  | .lt, a, b, p, q => (match Nat.ble (Nat.add b 1) p with
    | true => some true
    | false => (match Nat.ble q a with
      | true => some false
      | false => none))
  | .ge, a, b, p, q => (match Nat.ble q a with
    | true => some true
    | false => (match Nat.ble (Nat.add b 1) p with
      | true => some false
      | false => none))
  | .gt, a, b, p, q => (match Nat.ble (Nat.add q 1) a with
    | true => some true
    | false => (match Nat.ble b p with
      | true => some false
      | false => none))
  | .le, a, b, p, q => (match Nat.ble b p with
    | true => some true
    | false => (match Nat.ble (Nat.add q 1) a with
      | true => some false
      | false => none))
theorem a_le {a b : Nat} (h : Nat.ble a b = true) : a ≤ b := Nat.le_of_ble_eq_true h
theorem a_lt1 {a b : Nat} (h : Nat.ble (Nat.add a 1) b = true) : a < b := Nat.le_of_ble_eq_true h
theorem a_nle {a b : Nat} (h : Nat.ble a b = false) : b < a := by
  rcases Nat.lt_or_ge b a with z | z
  · exact z
  · rw [Nat.ble_eq_true_of_le z] at h; cases h
theorem aCmpD_s {c : Jvm.ClassFile.Cond} {a b p q : Nat} {o : Bool} {x y : Int32} (h : aCmpD c a b p q = some o) (hx : aIn a b x) (hy : aIn p q y) : amCmpP c x y = o := by
  obtain ⟨h1, h2⟩ := hx
  obtain ⟨h3, h4⟩ := hy
  cases c
  case eq =>
    unfold aCmpD at h
    dsimp only at h
    repeat' split at h
    · next e => cases h; have := a_lt1 e; exact decide_eq_false (fun z => by have := congrArg Int32.toInt z; omega)
    · next e => cases h; have := a_lt1 e; exact decide_eq_false (fun z => by have := congrArg Int32.toInt z; omega)
    · cases h
      have e1 := Nat.eq_of_beq_eq_true ‹Nat.beq a b = true›
      have e2 := Nat.eq_of_beq_eq_true ‹Nat.beq p q = true›
      have e3 : p < b + 1 := a_nle ‹Nat.ble (Nat.add b 1) p = false›
      have e4 : a < q + 1 := a_nle ‹Nat.ble (Nat.add q 1) a = false›
      have e5 : x = y := Int32.toInt_inj.mp (by omega)
      exact decide_eq_true e5
    · cases h
    · cases h
  case ne =>
    unfold aCmpD at h
    dsimp only at h
    repeat' split at h
    · next e => cases h; have := a_lt1 e; exact decide_eq_true (fun z => by have := congrArg Int32.toInt z; omega)
    · next e => cases h; have := a_lt1 e; exact decide_eq_true (fun z => by have := congrArg Int32.toInt z; omega)
    · cases h
      have e1 := Nat.eq_of_beq_eq_true ‹Nat.beq a b = true›
      have e2 := Nat.eq_of_beq_eq_true ‹Nat.beq p q = true›
      have e3 : p < b + 1 := a_nle ‹Nat.ble (Nat.add b 1) p = false›
      have e4 : a < q + 1 := a_nle ‹Nat.ble (Nat.add q 1) a = false›
      have e5 : x = y := Int32.toInt_inj.mp (by omega)
      exact decide_eq_false (fun z => z e5)
    · cases h
    · cases h
  case lt =>
    unfold aCmpD at h
    dsimp only at h
    repeat' split at h
    · next e => cases h; have := a_lt1 e; exact decide_eq_true (Int32.lt_iff_toInt_lt.mpr (by omega))
    · next e => cases h; have := a_le e; exact decide_eq_false (fun z => by have := Int32.lt_iff_toInt_lt.mp z; omega)
    · cases h
  case ge =>
    unfold aCmpD at h
    dsimp only at h
    repeat' split at h
    · next e => cases h; have := a_le e; exact decide_eq_true (Int32.le_iff_toInt_le.mpr (by omega))
    · next e => cases h; have := a_lt1 e; exact decide_eq_false (fun z => by have := Int32.le_iff_toInt_le.mp z; omega)
    · cases h
  case gt =>
    unfold aCmpD at h
    dsimp only at h
    repeat' split at h
    · next e => cases h; have := a_lt1 e; exact decide_eq_true (Int32.lt_iff_toInt_lt.mpr (by omega))
    · next e => cases h; have := a_le e; exact decide_eq_false (fun z => by have := Int32.lt_iff_toInt_lt.mp z; omega)
    · cases h
  case le =>
    unfold aCmpD at h
    dsimp only at h
    repeat' split at h
    · next e => cases h; have := a_le e; exact decide_eq_true (Int32.le_iff_toInt_le.mpr (by omega))
    · next e => cases h; have := a_lt1 e; exact decide_eq_false (fun z => by have := Int32.le_iff_toInt_le.mp z; omega)
    · cases h
end
/-! ##### 09.b.abs ##### -/
section
/-! ===== the abstract runs: one instruction ===== -/
abbrev aK : Type := (Nat → aL → List aV → aH → Bool) → aL → List aV → aH → Bool
def aKok (act : aK) (cf : amL → List Value → amH → Option amR) : Prop :=
  ∀ (k : Nat → aL → List aV → aH → Bool) (ls : aL) (st : List aV) (hp : aH) (cl : amL) (cs : List Value) (ch : amH), act k ls st hp = true → aRl ls cl → aRs st cs → aRh hp ch →
    ∃ (r : amR) (ls' : aL) (st' : List aV) (hp' : aH), cf cl cs ch = some r ∧ k r.1 ls' st' hp' = true ∧ aRl ls' r.2.1 ∧ aRs st' r.2.2.1 ∧ aRh hp' r.2.2.2
def aKpush (pc : Nat) (v : aV) : aK := fun k ls st hp => k pc ls (v :: st) hp
theorem aKpush_ok {pc : Nat} {v : aV} {w : Value} (h : aR v w) : aKok (aKpush pc v) (fun ls st hp => some (pc, ls, w :: st, hp)) :=
  fun k ls st hp cl cs ch e hl hs hh => ⟨_, ls, v :: st, hp, rfl, e, hl, ⟨h, hs⟩, hh⟩
def aKgo (pc : Nat) : aK := fun k ls st hp => k pc ls st hp
theorem aKgo_ok {pc : Nat} : aKok (aKgo pc) (fun ls st hp => some (pc, ls, st, hp)) :=
  fun k ls st hp cl cs ch e hl hs hh => ⟨_, ls, st, hp, rfl, e, hl, hs, hh⟩
def aIsI : aV → Bool
  | .inr _ => true
  | .inl v => amIsI v
def aIs (p : Value → Bool) : aV → Bool
  | .inr _ => false
  | .inl v => p v
def aIk (p : aV → Bool) (p' : Value → Bool) : Prop := ∀ v w, aR v w → p v = true → p' w = true
theorem aIsI_ok : aIk aIsI amIsI := by
  intro v w h e
  cases v with
  | inl v => cases h; exact e
  | inr q => obtain ⟨x, rfl, -⟩ := h; rfl
theorem aIs_ok (p : Value → Bool) : aIk (aIs p) p := by
  intro v w h e
  cases v with
  | inl v => cases h; exact e
  | inr q => cases e
def aKld (pc : Nat) (p : aV → Bool) (j : Nat) : aK := fun k ls st hp => match lGet ls j with
  | some v => (match p v with
    | true => k pc ls (v :: st) hp
    | false => false)
  | none => false
theorem aKld_ok {pc j : Nat} {p : aV → Bool} {p' : Value → Bool} (hp : aIk p p') : aKok (aKld pc p j) (fun ls st hp => (amLd p' ls j st).map (fun s => (pc, ls, s, hp))) := by
  intro k ls st h cl cs ch e hl hs hh
  unfold aKld at e
  split at e
  · next v ev =>
    split at e
    · next ep =>
      obtain ⟨w, e1, e2⟩ := hl.1 j v ev
      refine ⟨(pc, cl, w :: cs, ch), ls, v :: st, h, ?_, e, hl, ⟨e2, hs⟩, hh⟩
      dsimp only
      unfold amLd
      rw [e1]
      simp [hp v w e2 ep]
    · cases e
  · cases e
def aKst1 (pc : Nat) (p : aV → Bool) (nL j : Nat) : aK := fun k ls st hp => match st with
  | v :: r => (match p v with
    | true => (match Nat.ble (Nat.add j 1) nL with
      | true => (match aSet1 ls j v with
        | some l1 => k pc l1 r hp
        | none => false)
      | false => false)
    | false => false)
  | [] => false
theorem aKst1_ok {pc nL j : Nat} {p : aV → Bool} {p' : Value → Bool} (hp : aIk p p') : aKok (aKst1 pc p nL j) (fun ls st hp => (amSt1 p' nL ls j st).map (fun q => (pc, q.1, q.2, hp))) := by
  intro k ls st h cl cs ch e hl hs hh
  unfold aKst1 at e
  split at e
  · next v r =>
    obtain ⟨w, ws, rfl, hv, hs1⟩ := aRs_cons hs
    split at e
    · next ep =>
      split at e
      · next e1 =>
        split at e
        · next l1 e2 =>
          refine ⟨(pc, amSet1 cl j w, ws, ch), l1, r, h, ?_, e, aSet1_s hl hv e2, hs1, hh⟩
          have : j < nL := a_lt1 e1
          simp [amSt1, hp v w hv ep, this]
        · cases e
      · cases e
    · cases e
  · cases e
def aKst2 (pc : Nat) (p : aV → Bool) (nL j : Nat) : aK := fun k ls st hp => match st with
  | v :: r => (match p v with
    | true => (match Nat.ble (Nat.add j 2) nL with
      | true => (match aSet2 ls j v with
        | some l1 => k pc l1 r hp
        | none => false)
      | false => false)
    | false => false)
  | [] => false
theorem aKst2_ok {pc nL j : Nat} {p : aV → Bool} {p' : Value → Bool} (hp : aIk p p') : aKok (aKst2 pc p nL j) (fun ls st hp => (amSt2 p' nL ls j st).map (fun q => (pc, q.1, q.2, hp))) := by
  intro k ls st h cl cs ch e hl hs hh
  unfold aKst2 at e
  split at e
  · next v r =>
    obtain ⟨w, ws, rfl, hv, hs1⟩ := aRs_cons hs
    split at e
    · next ep =>
      split at e
      · next e1 =>
        split at e
        · next l1 e2 =>
          refine ⟨(pc, amSet2 cl j w, ws, ch), l1, r, h, ?_, e, aSet2_s hl hv e2, hs1, hh⟩
          have : j + 1 < nL := a_le e1
          simp [amSt2, hp v w hv ep, this]
        · cases e
      · cases e
    · cases e
  · cases e
def aKinc (pc nL j c : Nat) : aK := fun k ls st hp => match lGet ls j with
  | some (.inr q) => (match Nat.ble (Nat.add j 1) nL with
    | true => (match aGadd q.1 q.2 c c with
      | some v => (match aSet1 ls j v with
        | some l1 => k pc l1 st hp
        | none => false)
      | none => false)
    | false => false)
  | _ => false
theorem aKinc_ok {pc nL j : Nat} {n : Int} : aKok (aKinc pc nL j (aOff (Int32.ofInt n))) (fun ls st hp => (amInc nL ls j n).map (fun q => (pc, q, st, hp))) := by
  intro k ls st h cl cs ch e hl hs hh
  unfold aKinc at e
  split at e
  · next q ev =>
    split at e
    · next e1 =>
      split at e
      · next v e2 =>
        split at e
        · next l1 e3 =>
          obtain ⟨w, g1, x, rfl, g2, g3⟩ := hl.1 j _ ev
          have hv := aGadd_ok _ _ _ _ _ x (Int32.ofInt n) e2 ⟨g2, g3⟩ ⟨by rw [aOff_eq]; exact Int.le_refl _, by rw [aOff_eq]; exact Int.le_refl _⟩
          refine ⟨(pc, amSet1 cl j (.int (x + Int32.ofInt n)), cs, ch), l1, st, h, ?_, e, aSet1_s hl hv e3, hs, hh⟩
          have : j < nL := a_lt1 e1
          simp [amInc, g1, this]
        · cases e
      · cases e
    · cases e
  · cases e
/-! the stack alone -/
def aSok (g : List aV → Option (List aV)) (cg : List Value → Option (List Value)) : Prop := ∀ (st : List aV) (cs : List Value) (s : List aV), g st = some s → aRs st cs → ∃ s', cg cs = some s' ∧ aRs s s'
def aKs (pc : Nat) (g : List aV → Option (List aV)) : aK := fun k ls st hp => match g st with
  | some s => k pc ls s hp
  | none => false
theorem aKs_ok {pc : Nat} {g : List aV → Option (List aV)} {cg : List Value → Option (List Value)} (hg : aSok g cg) : aKok (aKs pc g) (fun ls st hp => (cg st).map (fun s => (pc, ls, s, hp))) := by
  intro k ls st h cl cs ch e hl hs hh
  unfold aKs at e
  split at e
  · next s es =>
    obtain ⟨s', e1, e2⟩ := hg st cs s es hs
    exact ⟨(pc, cl, s', ch), ls, s, h, by dsimp only; rw [e1]; rfl, e, hl, e2, hh⟩
  · cases e
def aII (g : aG) : List aV → Option (List aV)
  | .inr q :: .inr p :: r => (match g p.1 p.2 q.1 q.2 with
    | some v => some (v :: r)
    | none => none)
  | _ => none
theorem aII_ok {f : Int32 → Int32 → Int32} {g : aG} (hg : aGok f g) : aSok (aII g) (amII f) := by
  intro st cs s e hs
  unfold aII at e
  split at e
  · next q p r =>
    obtain ⟨w, ws, rfl, ⟨y, rfl, hy⟩, hs1⟩ := aRs_cons hs
    obtain ⟨w, ws, rfl, ⟨x, rfl, hx⟩, hs2⟩ := aRs_cons hs1
    split at e
    · next v ev => cases e; exact ⟨_, rfl, hg _ _ _ _ _ x y ev hx hy, hs2⟩
    · cases e
  · cases e
def aDv (f : Int32 → Int32 → Int32) : List aV → Option (List aV)
  | .inr q :: .inr p :: r => (match Nat.beq q.1 2147483648 with
    | true => none
    | false => (match aGx f p.1 p.2 q.1 q.2 with
      | some v => some (v :: r)
      | none => none))
  | _ => none
theorem a_zero : (0 : Int32).toInt = 0 := by decide
theorem aGx_eq {f : Int32 → Int32 → Int32} {a b c d : Nat} {v : aV} (h : aGx f a b c d = some v) : c = d := by
  unfold aGx at h
  split at h
  · split at h
    · next e => exact Nat.eq_of_beq_eq_true e
    · cases h
  · cases h
theorem aDv_ok {f : Int32 → Int32 → Int32} : aSok (aDv f) (amDiv f) := by
  intro st cs s e hs
  unfold aDv at e
  split at e
  · next q p r =>
    obtain ⟨w, ws, rfl, ⟨y, rfl, hy⟩, hs1⟩ := aRs_cons hs
    obtain ⟨w, ws, rfl, ⟨x, rfl, hx⟩, hs2⟩ := aRs_cons hs1
    split at e
    · cases e
    · next hq =>
      split at e
      · next v ev =>
        cases e
        have hc := aGx_eq ev
        have hn : ¬ y = 0 := by
          intro z
          rw [z, a_zero] at hy
          have : q.1 = 2147483648 := by omega
          rw [this] at hq
          cases hq
        refine ⟨.int (f x y) :: ws, ?_, aGx_ok f _ _ _ _ _ x y ev hx hy, hs2⟩
        show (if y = 0 then none else some (Value.int (f x y) :: ws)) = _
        rw [if_neg hn]
      · cases e
  · cases e
def aI1 (f : Int32 → Value) : List aV → Option (List aV)
  | .inr q :: r => (match Nat.beq q.1 q.2 with
    | true => some (aOfV (f (aInt q.1)) :: r)
    | false => none)
  | _ => none
theorem aI1_ok {f : Int32 → Value} : aSok (aI1 f) (amI f) := by
  intro st cs s e hs
  unfold aI1 at e
  split at e
  · next q r =>
    obtain ⟨w, ws, rfl, ⟨y, rfl, hy⟩, hs1⟩ := aRs_cons hs
    split at e
    · next e1 => cases e; exact ⟨_, rfl, by rw [← aEq_s e1 hy]; exact aOfV_s _, hs1⟩
    · cases e
  · cases e
def aI2b : List aV → Option (List aV)
  | .inr q :: r => (match Nat.beq q.1 q.2 with
    | true => some (aOfV (.int (aInt q.1).toInt8.toInt32) :: r)
    | false => some (.inr (2147483520, 2147483775) :: r))
  | _ => none
theorem aI2b_ok : aSok aI2b (amI (fun x => .int x.toInt8.toInt32)) := by
  intro st cs s e hs
  unfold aI2b at e
  split at e
  · next q r =>
    obtain ⟨w, ws, rfl, ⟨y, rfl, hy⟩, hs1⟩ := aRs_cons hs
    split at e
    · next e1 => cases e; exact ⟨_, rfl, by rw [← aEq_s e1 hy]; exact aOfV_s _, hs1⟩
    · cases e
      refine ⟨_, rfl, ⟨_, rfl, ?_, ?_⟩, hs1⟩
      · show (2147483520 : Int) ≤ y.toInt8.toInt32.toInt + 2147483648
        rw [Int8.toInt_toInt32]
        have := Int8.le_toInt y.toInt8
        omega
      · show y.toInt8.toInt32.toInt + 2147483648 ≤ (2147483775 : Int)
        rw [Int8.toInt_toInt32]
        have := Int8.toInt_lt y.toInt8
        omega
  · cases e
def aJ1 (f : Int64 → Value) : List aV → Option (List aV)
  | .inl (.long x) :: r => some (aOfV (f x) :: r)
  | _ => none
theorem aJ1_ok {f : Int64 → Value} : aSok (aJ1 f) (amJ f) := by
  intro st cs s e hs
  unfold aJ1 at e
  split at e
  · next x r =>
    obtain ⟨w, ws, rfl, hy, hs1⟩ := aRs_cons hs
    cases hy
    cases e
    exact ⟨_, rfl, aOfV_s _, hs1⟩
  · cases e
def aLL (f : Int64 → Int64 → Value) : List aV → Option (List aV)
  | .inl (.long y) :: .inl (.long x) :: r => some (aOfV (f x y) :: r)
  | _ => none
theorem aLL_ok {f : Int64 → Int64 → Value} : aSok (aLL f) (amLL f) := by
  intro st cs s e hs
  unfold aLL at e
  split at e
  · next y x r =>
    obtain ⟨w, ws, rfl, hy, hs1⟩ := aRs_cons hs
    obtain ⟨w, ws, rfl, hx, hs2⟩ := aRs_cons hs1
    cases hy
    cases hx
    cases e
    exact ⟨_, rfl, aOfV_s _, hs2⟩
  · cases e
def aLI (f : Int64 → Int32 → Int64) : List aV → Option (List aV)
  | .inr q :: .inl (.long x) :: r => (match Nat.beq q.1 q.2 with
    | true => some (.inl (.long (f x (aInt q.1))) :: r)
    | false => none)
  | _ => none
theorem aLI_ok {f : Int64 → Int32 → Int64} : aSok (aLI f) (amLI f) := by
  intro st cs s e hs
  unfold aLI at e
  split at e
  · next q x r =>
    obtain ⟨w, ws, rfl, ⟨y, rfl, hy⟩, hs1⟩ := aRs_cons hs
    obtain ⟨w, ws, rfl, hx, hs2⟩ := aRs_cons hs1
    cases hx
    split at e
    · next e1 => cases e; exact ⟨_, rfl, by rw [← aEq_s e1 hy]; rfl, hs2⟩
    · cases e
  · cases e
def aAllN : Nat → (Nat → Bool) → Bool
  | 0, _ => true
  | n + 1, f => match f n with
    | true => aAllN n f
    | false => false
theorem aAllN_s : ∀ {n : Nat} {f : Nat → Bool} {i : Nat}, aAllN n f = true → i < n → f i = true
  | 0, _, _, _, h => absurd h (Nat.not_lt_zero _)
  | n + 1, f, i, h, hi => by
    unfold aAllN at h
    split at h
    · next e =>
      by_cases z : i = n
      · rw [z]; exact e
      · exact aAllN_s h (by omega)
    · cases h
/-- what is left over by a small known number: each answer by itself -/
def aKrem (pc : Nat) : aK := fun k ls st hp => match aDv (fun x y => x - x / y * y) st with
  | some s => k pc ls s hp
  | none => (match st with
    | .inr q :: .inr p :: r => if q.1 = q.2 ∧ 2147483649 ≤ q.1 ∧ q.1 ≤ 2147483664 then
        (if 2147483648 ≤ p.1 then aAllN (q.1 - 2147483648) (fun z => k pc ls (.inr (2147483648 + z, 2147483648 + z) :: r) hp)
        else if p.2 ≤ 2147483648 then aAllN (q.1 - 2147483648) (fun z => k pc ls (.inr (2147483648 - z, 2147483648 - z) :: r) hp) else false) else false
    | _ => false)
theorem aKrem_ok {pc : Nat} : aKok (aKrem pc) (fun ls st hp => (amDiv (fun x y => x - x / y * y) st).map (fun s => (pc, ls, s, hp))) := by
  intro k ls st h cl cs ch e hl hs hh
  unfold aKrem at e
  split at e
  · next s es =>
    obtain ⟨s', e1, e2⟩ := aDv_ok st cs s es hs
    exact ⟨(pc, cl, s', ch), ls, s, h, by dsimp only; rw [e1]; rfl, e, hl, e2, hh⟩
  · split at e
    · next q p r hd =>
      obtain ⟨w, ws, rfl, ⟨y, rfl, y1, y2⟩, hs1⟩ := aRs_cons hs
      obtain ⟨w, ws, rfl, ⟨x, rfl, x1, x2⟩, hs2⟩ := aRs_cons hs1
      split at e
      · next eq =>
        obtain ⟨n, hn⟩ : ∃ n : Nat, q.1 = n + 2147483648 := ⟨q.1 - 2147483648, by omega⟩
        have hn1 : 1 ≤ n := by omega
        have hy : y.toInt = n := by omega
        have hy0 : ¬ y = 0 := fun z => by rw [z, a_zero] at hy; omega
        have ht : (x - x / y * y).toInt = x.toInt.tmod n := by rw [rem_toInt, hy]
        have hd : amDiv (fun x y => x - x / y * y) (.int y :: .int x :: ws) = some (.int (x - x / y * y) :: ws) := by
          show (if y = 0 then none else some (Value.int (x - x / y * y) :: ws)) = _
          rw [if_neg hy0]
        rw [hn, Nat.add_sub_cancel] at e
        split at e
        · next e2 =>
          rw [Int.tmod_eq_emod_of_nonneg (by omega)] at ht
          have b1 := Int.emod_nonneg x.toInt (show (n : Int) ≠ 0 by omega)
          have b2 := Int.emod_lt_of_pos x.toInt (show 0 < (n : Int) by omega)
          obtain ⟨z, hz⟩ := Int.eq_ofNat_of_zero_le b1
          have hk := aAllN_s e (show z < n by omega)
          refine ⟨(pc, cl, .int (x - x / y * y) :: ws, ch), ls, .inr (2147483648 + z, 2147483648 + z) :: r, h, by dsimp only; rw [hd]; rfl, hk, hl, ⟨⟨_, rfl, ?_, ?_⟩, hs2⟩, hh⟩ <;> dsimp only <;> omega
        · split at e
          · next e3 =>
            have e4 : x.toInt.tmod n = -((-x.toInt) % n) := by
              have e5 : x.toInt.tmod n = -((-x.toInt).tmod n) := by rw [Int.neg_tmod, Int.neg_neg]
              rw [e5, Int.tmod_eq_emod_of_nonneg (by omega)]
            rw [e4] at ht
            have b1 := Int.emod_nonneg (-x.toInt) (show (n : Int) ≠ 0 by omega)
            have b2 := Int.emod_lt_of_pos (-x.toInt) (show 0 < (n : Int) by omega)
            obtain ⟨z, hz⟩ := Int.eq_ofNat_of_zero_le b1
            have hk := aAllN_s e (show z < n by omega)
            refine ⟨(pc, cl, .int (x - x / y * y) :: ws, ch), ls, .inr (2147483648 - z, 2147483648 - z) :: r, h, by dsimp only; rw [hd]; rfl, hk, hl, ⟨⟨_, rfl, ?_, ?_⟩, hs2⟩, hh⟩ <;> dsimp only <;> omega
          · cases e
      · cases e
    · cases e
/-! branches -/
def aKif (c : Jvm.ClassFile.Cond) (t e : Nat) : aK := fun k ls st hp => match st with
  | .inr p :: r => (match aCmpD c p.1 p.2 2147483648 2147483648 with
    | some true => k t ls r hp
    | some false => k e ls r hp
    | none => false)
  | _ => false
def aKcmp (c : Jvm.ClassFile.Cond) (t e : Nat) : aK := fun k ls st hp => match st with
  | .inr q :: .inr p :: r => (match aCmpD c p.1 p.2 q.1 q.2 with
    | some true => k t ls r hp
    | some false => k e ls r hp
    | none => false)
  | _ => false
theorem amIfP_cmp (c : Jvm.ClassFile.Cond) (x : Int32) : amIfP c x = amCmpP c x 0 := by cases c <;> rfl
theorem aKif_ok {c : Jvm.ClassFile.Cond} {t e0 : Nat} : aKok (aKif c t e0) (fun ls st hp => (amIf (amIfP c) t e0 st).map (fun q => (q.1, ls, q.2, hp))) := by
  intro k ls st h cl cs ch e hl hs hh
  unfold aKif at e
  split at e
  · next p r =>
    obtain ⟨w, ws, rfl, ⟨x, rfl, hx⟩, hs1⟩ := aRs_cons hs
    have h0 : aIn 2147483648 2147483648 0 := ⟨by rw [a_zero]; decide, by rw [a_zero]; decide⟩
    split at e
    · next ec =>
      have := aCmpD_s ec hx h0
      rw [← amIfP_cmp] at this
      exact ⟨_, ls, r, h, by simp only [amIf, this]; rfl, e, hl, hs1, hh⟩
    · next ec =>
      have := aCmpD_s ec hx h0
      rw [← amIfP_cmp] at this
      exact ⟨_, ls, r, h, by simp only [amIf, this]; rfl, e, hl, hs1, hh⟩
    · cases e
  · cases e
theorem aKcmp_ok {c : Jvm.ClassFile.Cond} {t e0 : Nat} : aKok (aKcmp c t e0) (fun ls st hp => (amCmp (amCmpP c) t e0 st).map (fun q => (q.1, ls, q.2, hp))) := by
  intro k ls st h cl cs ch e hl hs hh
  unfold aKcmp at e
  split at e
  · next q p r =>
    obtain ⟨w, ws, rfl, ⟨y, rfl, hy⟩, hs1⟩ := aRs_cons hs
    obtain ⟨w, ws, rfl, ⟨x, rfl, hx⟩, hs2⟩ := aRs_cons hs1
    split at e
    · next ec =>
      have := aCmpD_s ec hx hy
      exact ⟨_, ls, r, h, by simp only [amCmp, this]; rfl, e, hl, hs2, hh⟩
    · next ec =>
      have := aCmpD_s ec hx hy
      exact ⟨_, ls, r, h, by simp only [amCmp, this]; rfl, e, hl, hs2, hh⟩
    · cases e
  · cases e
def aKnull (t e : Nat) : aK := fun k ls st hp => match st with
  | .inl (.ref _) :: r => k e ls r hp
  | .inl .null :: r => k t ls r hp
  | _ => false
def aTblv (q : Nat × Nat) (d lo hi : Int) (offs : Array Int) : Option Int :=
  if q.1 = q.2 then amOff ((q.1 : Int) - 2147483648) d lo hi offs
  else if (q.2 : Int) - 2147483648 < lo ∨ hi < (q.1 : Int) - 2147483648 then some d else none
def aKtab (pc : Nat) (d lo hi : Int) (offs : Array Int) : aK := fun k ls st hp => match st with
  | .inr q :: r => (match aTblv q d lo hi offs with
    | some o => if 0 ≤ (pc : Int) + o then k ((pc : Int) + o).toNat ls r hp else false
    | none => false)
  | _ => false
theorem aKtab_ok {pc : Nat} {d lo hi : Int} {offs : Array Int} : aKok (aKtab pc d lo hi offs) (fun ls st hp => (amTbl pc d lo hi offs st).map (fun q => (q.1, ls, q.2, hp))) := by
  intro k ls st h cl cs ch e hl hs hh
  unfold aKtab at e
  split at e
  · next q r =>
    obtain ⟨w, ws, rfl, ⟨x, rfl, x1, x2⟩, hs1⟩ := aRs_cons hs
    split at e
    · next o eo =>
      split at e
      · next e1 =>
        have key : amOff x.toInt d lo hi offs = some o := by
          unfold aTblv at eo
          split at eo
          · next e2 => rw [show x.toInt = (q.1 : Int) - 2147483648 by omega]; exact eo
          · split at eo
            · next e3 => cases eo; unfold amOff; rw [if_pos (by omega)]
            · cases eo
        exact ⟨_, ls, r, h, by simp only [amTbl, key, if_pos e1]; rfl, e, hl, hs1, hh⟩
      · cases e
    · cases e
  · cases e
/-! ===== the abstract runs: cells ===== -/
theorem aKnull_ok1 {t e0 : Nat} {cf : amL → List Value → amH → Option amR} (h1 : ∀ ls o r hp, cf ls (.ref o :: r) hp = some (e0, ls, r, hp)) (h2 : ∀ ls r hp, cf ls (.null :: r) hp = some (t, ls, r, hp)) : aKok (aKnull t e0) cf := by
  intro k ls st h cl cs ch e hl hs hh
  unfold aKnull at e
  split at e
  · next o r =>
    obtain ⟨w, ws, rfl, hv, hs1⟩ := aRs_cons hs
    cases hv
    exact ⟨_, ls, r, h, h1 _ _ _ _, e, hl, hs1, hh⟩
  · next r =>
    obtain ⟨w, ws, rfl, hv, hs1⟩ := aRs_cons hs
    cases hv
    exact ⟨_, ls, r, h, h2 _ _ _, e, hl, hs1, hh⟩
  · cases e
def aKget (pc ci j : Nat) : aK := fun k ls st hp => match st with
  | .inl (.ref o) :: r => (match aCell hp o with
    | some c => (match Nat.beq c.1 ci with
      | true => (match cGet c.2.2 j with
        | some v => k pc ls (v :: r) hp
        | none => false)
      | false => false)
    | none => false)
  | _ => false
theorem aKget_ok {pc ci j : Nat} (hci : ci < 32) : aKok (aKget pc ci j) (fun ls st hp => (amFGet ci j hp st).map (fun s => (pc, ls, s, hp))) := by
  intro k ls st h cl cs ch e hl hs hh
  unfold aKget at e
  split at e
  · next o r =>
    obtain ⟨w, ws, rfl, hv, hs1⟩ := aRs_cons hs
    cases hv
    split at e
    · next c ec =>
      split at e
      · next e1 =>
        split at e
        · next v ev =>
          obtain ⟨d, d1, d2⟩ := aCell_s hh ec
          obtain ⟨x, x1, x2⟩ := aRc_get d2 ev
          have e3 : d.1 = ci := by rw [← d2.1]; exact Nat.eq_of_beq_eq_true e1
          refine ⟨(pc, cl, x :: ws, ch), ls, v :: r, h, ?_, e, hl, ⟨x2, hs1⟩, hh⟩
          simp only [amFGet, d1, e3, hci, x1, and_self, if_true, Option.map_some]
        · cases e
      · cases e
    · cases e
  · cases e
def aFits : FieldType → aV → Bool
  | .int, .inr _ => true
  | .boolean, .inr q => Nat.ble 2147483648 q.1 && Nat.ble q.2 2147483649
  | .long, .inl (.long _) => true
  | .object _, .inl .null => true
  | .object _, .inl (.ref _) => true
  | .array _, .inl .null => true
  | .array _, .inl (.ref _) => true
  | _, _ => false
theorem aFits_s {ty : FieldType} {v : aV} {w : Value} (h : aFits ty v = true) (hv : aR v w) : narrow ty w = w ∧ fits ty w = true := by
  unfold aFits at h
  split at h
  · obtain ⟨x, rfl, -⟩ := hv; exact ⟨rfl, rfl⟩
  · obtain ⟨x, rfl, x1, x2⟩ := hv
    simp only [Bool.and_eq_true] at h
    have h1 := a_le h.1
    have h2 := a_le h.2
    rcases (show x.toInt = 0 ∨ x.toInt = 1 by omega) with z | z
    · have : x = 0 := Int32.toInt_inj.mp (by rw [z]; rfl)
      subst this
      exact ⟨by decide, by decide⟩
    · have : x = 1 := Int32.toInt_inj.mp (by rw [z]; rfl)
      subst this
      exact ⟨by decide, by decide⟩
  · cases hv; exact ⟨rfl, rfl⟩
  · cases hv; exact ⟨rfl, rfl⟩
  · cases hv; exact ⟨rfl, rfl⟩
  · cases hv; exact ⟨rfl, rfl⟩
  · cases hv; exact ⟨rfl, rfl⟩
  · cases h
def aKput (pc ci j : Nat) (ty : FieldType) : aK := fun k ls st hp => match st with
  | v :: .inl (.ref o) :: r => (match aFits ty v with
    | true => (match aCell hp o with
      | some c => (match Nat.beq c.1 ci with
        | true => (match cPut c.2.2 j v with
          | some z => (match aPutH hp o (c.1, c.2.1, z) with
            | some h1 => k pc ls r h1
            | none => false)
          | none => false)
        | false => false)
      | none => false)
    | false => false)
  | _ => false
theorem aKput_ok {pc ci j : Nat} {ty : FieldType} (hci : ci < 32) : aKok (aKput pc ci j ty) (fun ls st hp => (amFSet ci j ty hp st).map (fun q => (pc, ls, q.1, q.2))) := by
  intro k ls st h cl cs ch e hl hs hh
  unfold aKput at e
  split at e
  · next v o r =>
    obtain ⟨w, ws, rfl, hv, hs1⟩ := aRs_cons hs
    obtain ⟨w2, ws, rfl, hv2, hs2⟩ := aRs_cons hs1
    cases hv2
    split at e
    · next ef =>
      split at e
      · next c ec =>
        split at e
        · next e1 =>
          split at e
          · next z ez =>
            split at e
            · next h1 eh =>
              obtain ⟨d, d1, d2⟩ := aCell_s hh ec
              obtain ⟨hlt, hc⟩ := aRc_put d2 ez hv
              have e3 : d.1 = ci := by rw [← d2.1]; exact Nat.eq_of_beq_eq_true e1
              obtain ⟨f1, f2⟩ := aFits_s ef hv
              rw [e3] at hc
              refine ⟨(pc, cl, ws, ch.set o (ci, d.2.set j w)), ls, r, h1, ?_, e, hl, hs2, aPutH_s hh eh hc⟩
              simp only [amFSet, d1, e3, hci, hlt, f1, f2, and_self, if_true, Option.map_some]
            · cases e
          · cases e
        · cases e
      · cases e
    · cases e
  · cases e
def aIdx (q : Nat × Nat) : Option Nat := match Nat.beq q.1 q.2 with
  | true => (match Nat.ble 2147483648 q.1 with
    | true => some (Nat.sub q.1 2147483648)
    | false => none)
  | false => none
theorem aIdx_s {q : Nat × Nat} {n m : Nat} {x : Int32} (h : aIdx q = some n) (hx : aIn q.1 q.2 x) : x.toNatClampNeg = n ∧ (n < m → amIn x m = true) := by
  unfold aIdx at h
  split at h
  · next e1 =>
    split at h
    · next e2 =>
      have hn : q.1 - 2147483648 = n := Option.some.inj h
      have e1 := Nat.eq_of_beq_eq_true e1
      have e2 := a_le e2
      obtain ⟨x1, x2⟩ := hx
      have e3 : x.toInt = (n : Int) := by omega
      have e4 : x.toNatClampNeg = n := by
        show x.toInt.toNat = _
        rw [e3]; rfl
      refine ⟨e4, fun hm => decide_eq_true ?_⟩
      rw [not_or, e4]
      refine ⟨fun z => ?_, fun z => ?_⟩
      · have := Int32.lt_iff_toInt_lt.mp z
        rw [a_zero] at this
        omega
      · omega
    · cases h
  · cases h
def aRsc : Option (List aV) → Option (List Int32) → Prop
  | none, _ => True
  | some l, some m => aRs l (m.map Value.int)
  | some _, none => False
theorem aRs_at : ∀ {l : List aV} {m : List Value} {i : Nat} {v : aV}, aRs l m → lAt l i = some v → ∃ w, m[i]? = some w ∧ aR v w
  | [], [], _, _, _, h => by simp [lAt] at h
  | a :: l, b :: m, 0, v, h, e => by
    simp [lAt] at e
    subst e
    exact ⟨b, rfl, h.1⟩
  | a :: l, b :: m, i + 1, v, h, e => by
    simp only [List.getElem?_cons_succ]
    exact aRs_at h.2 e
  | [], _ :: _, _, _, h, _ => by cases h
  | _ :: _, [], _, _, h, _ => by cases h
/-- a row read (kind t, values that p holds), the script too -/
def aKald (pc t : Nat) (p : aV → Bool) (sc : Option (List aV)) : aK := fun k ls st hp => match st with
  | .inr q :: .inl (.ref o) :: r => (match aIdx q with
    | some i => (match Nat.beq o 1999999 with
      | true => (match sc with
        | some l => (match lAt l i with
          | some v => k pc ls (v :: r) hp
          | none => false)
        | none => false)
      | false => (match aCell hp o with
        | some c => (match Nat.beq c.1 t with
          | true => (match cGet c.2.2 i with
            | some v => (match p v with
              | true => k pc ls (v :: r) hp
              | false => false)
            | none => false)
          | false => false)
        | none => false))
    | none => false)
  | _ => false
theorem amSc_none {sc : Option (List Int32)} {i : Int32} {o : Nat} {r : List Value} (h : ¬ o = amS) : amSc sc (.int i :: .ref o :: r) = none := by
  unfold amSc
  dsimp only
  split
  · rw [if_neg (fun z => h z.1)]
  · rfl
theorem a_nbeq {a b : Nat} (h : Nat.beq a b = false) : ¬ a = b := by
  intro z
  subst z
  rw [Nat.beq_refl] at h
  cases h
theorem aKald_cell {t : Nat} {p : aV → Bool} {p' : Value → Bool} (hp : aIk p p') {h : aH} {ch : amH} {q : Nat × Nat} {x : Int32} {o i : Nat} {c : aC} {v : aV} {ws : List Value} (hh : aRh h ch) (hx : aIn q.1 q.2 x) (ei : aIdx q = some i) (ec : aCell h o = some c) (et : Nat.beq c.1 t = true) (ev : cGet c.2.2 i = some v) (ep : p v = true) : ∃ w, amALd t p' ch (.int x :: .ref o :: ws) = some (w :: ws) ∧ aR v w := by
  obtain ⟨d, d1, d2⟩ := aCell_s hh ec
  obtain ⟨w, w1, w2⟩ := aRc_get d2 ev
  have e3 : d.1 = t := by rw [← d2.1]; exact Nat.eq_of_beq_eq_true et
  obtain ⟨i1, i2⟩ := aIdx_s (m := d.2.length) ei hx
  have hlt := a_lt w1
  have hg : d.2.getD x.toNatClampNeg .null = w := by rw [i1, List.getD_eq_getElem?_getD, w1]; rfl
  refine ⟨w, ?_, w2⟩
  simp only [amALd, d1, e3, i2 hlt, hg, hp v w w2 ep, and_self, if_true]
theorem aKald_okI {pc : Nat} {sc' : Option (List aV)} {sc : Option (List Int32)} (hsc : aRsc sc' sc) : aKok (aKald pc 32 aIsI sc') (fun ls st hp => match amSc sc st with
    | some s => some (pc, ls, s, hp)
    | none => (amALd 32 amIsI hp st).map (fun s => (pc, ls, s, hp))) := by
  intro k ls st h cl cs ch e hl hs hh
  unfold aKald at e
  split at e
  · next q o r =>
    obtain ⟨w, ws, rfl, ⟨x, rfl, hx⟩, hs1⟩ := aRs_cons hs
    obtain ⟨w2, ws, rfl, hv2, hs2⟩ := aRs_cons hs1
    cases hv2
    split at e
    · next i ei =>
      split at e
      · next eo =>
        have eo := Nat.eq_of_beq_eq_true eo
        subst eo
        split at e
        · next l =>
          split at e
          · next v ev =>
            cases sc with
            | none => cases hsc
            | some m =>
              obtain ⟨w, w1, w2⟩ := aRs_at hsc ev
              rw [List.getElem?_map] at w1
              obtain ⟨y, y1, rfl⟩ := Option.map_eq_some_iff.mp w1
              obtain ⟨i1, i2⟩ := aIdx_s (m := m.length) ei hx
              have hlt := a_lt y1
              have hg : m.getD x.toNatClampNeg 0 = y := by rw [i1, List.getD_eq_getElem?_getD, y1]; rfl
              have key : amSc (some m) (.int x :: .ref 1999999 :: ws) = some (.int y :: ws) := by
                simp only [amSc, i2 hlt, hg]
                exact if_pos ⟨rfl, trivial⟩
              refine ⟨(pc, cl, .int y :: ws, ch), ls, v :: r, h, ?_, e, hl, ⟨w2, hs2⟩, hh⟩
              dsimp only
              rw [key]
          · cases e
        · cases e
      · next eo =>
        split at e
        · next c ec =>
          split at e
          · next et =>
            split at e
            · next v ev =>
              split at e
              · next ep =>
                obtain ⟨w, w1, w2⟩ := aKald_cell (ws := ws) aIsI_ok hh hx ei ec et ev ep
                refine ⟨(pc, cl, w :: ws, ch), ls, v :: r, h, ?_, e, hl, ⟨w2, hs2⟩, hh⟩
                dsimp only
                rw [amSc_none (show ¬ o = amS from a_nbeq eo), w1]
                rfl
              · cases e
            · cases e
          · cases e
        · cases e
    · cases e
  · cases e
theorem aKald_ok {pc t : Nat} {p : aV → Bool} {p' : Value → Bool} (hp : aIk p p') : aKok (aKald pc t p none) (fun ls st hp => (amALd t p' hp st).map (fun s => (pc, ls, s, hp))) := by
  intro k ls st h cl cs ch e hl hs hh
  unfold aKald at e
  split at e
  · next q o r =>
    obtain ⟨w, ws, rfl, ⟨x, rfl, hx⟩, hs1⟩ := aRs_cons hs
    obtain ⟨w2, ws, rfl, hv2, hs2⟩ := aRs_cons hs1
    cases hv2
    split at e
    · next i ei =>
      split at e
      · cases e
      · next eo =>
        split at e
        · next c ec =>
          split at e
          · next et =>
            split at e
            · next v ev =>
              split at e
              · next ep =>
                obtain ⟨w, w1, w2⟩ := aKald_cell (ws := ws) hp hh hx ei ec et ev ep
                refine ⟨(pc, cl, w :: ws, ch), ls, v :: r, h, ?_, e, hl, ⟨w2, hs2⟩, hh⟩
                dsimp only
                rw [w1]
                rfl
              · cases e
            · cases e
          · cases e
        · cases e
    · cases e
  · cases e
/-- a row written: g does with the value what the row does -/
def aKast (pc t : Nat) (p : aH → aV → Bool) (g : aV → aV) : aK := fun k ls st hp => match st with
  | v :: .inr q :: .inl (.ref o) :: r => (match p hp v with
    | true => (match aIdx q with
      | some i => (match aCell hp o with
        | some c => (match Nat.beq c.1 t with
          | true => (match cPut c.2.2 i (g v) with
            | some z => (match aPutH hp o (c.1, c.2.1, z) with
              | some h1 => k pc ls r h1
              | none => false)
            | none => false)
          | false => false)
        | none => false)
      | none => false)
    | false => false)
  | _ => false
theorem aKast_ok {pc t : Nat} {p : aH → aV → Bool} {p' : amH → Value → Bool} {g : aV → aV} {g' : Value → Value} (hp : ∀ h ch v w, aRh h ch → aR v w → p h v = true → p' ch w = true) (hg : ∀ v w, aR v w → aR (g v) (g' w)) : aKok (aKast pc t p g) (fun ls st hp => (amASt t (p' hp) g' hp st).map (fun q => (pc, ls, q.1, q.2))) := by
  intro k ls st h cl cs ch e hl hs hh
  unfold aKast at e
  split at e
  · next v q o r =>
    obtain ⟨w, ws, rfl, hv, hs1⟩ := aRs_cons hs
    obtain ⟨w1, ws, rfl, ⟨x, rfl, hx⟩, hs2⟩ := aRs_cons hs1
    obtain ⟨w2, ws, rfl, hv2, hs3⟩ := aRs_cons hs2
    cases hv2
    split at e
    · next ep =>
      split at e
      · next i ei =>
        split at e
        · next c ec =>
          split at e
          · next et =>
            split at e
            · next z ez =>
              split at e
              · next h1 eh =>
                obtain ⟨d, d1, d2⟩ := aCell_s hh ec
                obtain ⟨hlt, hc⟩ := aRc_put d2 ez (hg v w hv)
                have e3 : d.1 = t := by rw [← d2.1]; exact Nat.eq_of_beq_eq_true et
                obtain ⟨i1, i2⟩ := aIdx_s (m := d.2.length) ei hx
                rw [e3] at hc
                refine ⟨(pc, cl, ws, ch.set o (t, d.2.set i (g' w))), ls, r, h1, ?_, e, hl, hs3, aPutH_s hh eh hc⟩
                simp only [amASt, d1, e3, i2 hlt, i1, hp h ch v w hh hv ep, and_self, if_true, Option.map_some]
              · cases e
            · cases e
          · cases e
        · cases e
      · cases e
    · cases e
  · cases e
def aNarB : aV → aV
  | .inr q => (match Nat.ble 2147483520 q.1 with
    | true => (match Nat.ble q.2 2147483775 with
      | true => .inr q
      | false => .inr (2147483520, 2147483775))
    | false => .inr (2147483520, 2147483775))
  | .inl v => .inl (amNarB v)
theorem aNarB_s {v : aV} {w : Value} (h : aR v w) : aR (aNarB v) (amNarB w) := by
  cases v with
  | inl v => cases h; exact rfl
  | inr q =>
    obtain ⟨x, rfl, x1, x2⟩ := h
    have hn : (vp_nar .byte x).toInt = x.toInt.bmod 256 := by
      show (x.toInt8.toInt32).toInt = _
      rw [Int8.toInt_toInt32, Int32.toInt_toInt8]
    have f : aR (.inr (2147483520, 2147483775)) (.int (vp_nar .byte x)) := by
      refine ⟨_, rfl, ?_, ?_⟩
      · show (2147483520 : Int) ≤ _
        have := Int.le_bmod (x := x.toInt) (m := 256) (by decide)
        rw [hn]
        omega
      · show _ ≤ (2147483775 : Int)
        have := Int.bmod_lt (x := x.toInt) (m := 256) (by decide)
        rw [hn]
        omega
    show aR (aNarB (.inr q)) (.int (vp_nar .byte x))
    unfold aNarB
    dsimp only
    split
    · next e1 =>
      split
      · next e2 =>
        have e1 := a_le e1
        have e2 := a_le e2
        have e3 : x.toInt.bmod 256 = x.toInt := by
          rw [Int.bmod_def]
          have : ((256 : Nat) : Int) = 256 := rfl
          split <;> omega
        exact ⟨_, rfl, by rw [hn, e3]; exact x1, by rw [hn, e3]; exact x2⟩
      · exact f
    · exact f
def aIsSn (hp : aH) : aV → Bool
  | .inl (.ref o) => (match aCell hp o with
    | some c => Nat.beq c.1 6
    | none => false)
  | _ => false
theorem aIsSn_s (h : aH) (ch : amH) (v : aV) (w : Value) (hh : aRh h ch) (hv : aR v w) (e : aIsSn h v = true) : amIsSn ch w = true := by
  unfold aIsSn at e
  split at e
  · next o =>
    cases hv
    split at e
    · next c ec =>
      obtain ⟨d, d1, d2⟩ := aCell_s hh ec
      have e3 : d.1 = 6 := by rw [← d2.1]; exact Nat.eq_of_beq_eq_true e
      simp [amIsSn, d1, e3]
    · cases e
  · cases e
def aKlen (pc : Nat) (sc : Option (List aV)) : aK := fun k ls st hp => match st with
  | .inl (.ref o) :: r => (match Nat.beq o 1999999 with
    | true => (match sc with
      | some l => (match Nat.ble l.length 100000 with
        | true => k pc ls (.inr (Nat.add l.length 2147483648, Nat.add l.length 2147483648) :: r) hp
        | false => false)
      | none => false)
    | false => (match aCell hp o with
      | some c => (match Nat.ble 32 c.1 with
        | true => (match Nat.ble c.1 35 with
          | true => (match Nat.ble c.2.1 100000 with
            | true => k pc ls (.inr (Nat.add c.2.1 2147483648, Nat.add c.2.1 2147483648) :: r) hp
            | false => false)
          | false => false)
        | false => false)
      | none => false))
  | _ => false
theorem a_ofNat {n : Nat} (h : n ≤ 100000) : aR (.inr (Nat.add n 2147483648, Nat.add n 2147483648)) (.int (Int32.ofNat n)) := by
  have e : (Int32.ofNat n).toInt = n := Int32.toInt_ofNat_of_lt (by omega)
  refine ⟨_, rfl, ?_, ?_⟩
  · show ((n + 2147483648 : Nat) : Int) ≤ _
    omega
  · show _ ≤ ((n + 2147483648 : Nat) : Int)
    omega
theorem aKlen_ok {pc : Nat} {sc' : Option (List aV)} {sc : Option (List Int32)} (hsc : aRsc sc' sc) : aKok (aKlen pc sc') (fun ls st hp => match amScLen sc st with
    | some s => some (pc, ls, s, hp)
    | none => (amLen hp st).map (fun s => (pc, ls, s, hp))) := by
  intro k ls st h cl cs ch e hl hs hh
  unfold aKlen at e
  split at e
  · next o r =>
    obtain ⟨w2, ws, rfl, hv2, hs1⟩ := aRs_cons hs
    cases hv2
    split at e
    · next eo =>
      have eo := Nat.eq_of_beq_eq_true eo
      subst eo
      split at e
      · next l =>
        split at e
        · next en =>
          cases sc with
          | none => cases hsc
          | some m =>
            have hlen : l.length = m.length := by have := aRs_len hsc; rwa [List.length_map] at this
            refine ⟨(pc, cl, .int (Int32.ofNat m.length) :: ws, ch), ls, _, h, ?_, e, hl, ⟨?_, hs1⟩, hh⟩
            · have key : amScLen (some m) (.ref 1999999 :: ws) = some (.int (Int32.ofNat m.length) :: ws) := by
                simp only [amScLen]
                exact if_pos rfl
              dsimp only
              rw [key]
            · rw [← hlen]
              exact a_ofNat (a_le en)
        · cases e
      · cases e
    · next eo =>
      split at e
      · next c ec =>
        split at e
        · next e1 =>
          split at e
          · next e2 =>
            split at e
            · next e3 =>
              obtain ⟨d, d1, d2⟩ := aCell_s hh ec
              have g1 := a_le e1
              have g2 := a_le e2
              rw [d2.1] at g1 g2
              refine ⟨(pc, cl, .int (Int32.ofNat d.2.length) :: ws, ch), ls, _, h, ?_, e, hl, ⟨?_, hs1⟩, hh⟩
              · have k1 : amScLen sc (.ref o :: ws) = none := by
                  unfold amScLen
                  dsimp only
                  split
                  · rw [if_neg (show ¬ o = amS from a_nbeq eo)]
                  · rfl
                dsimp only
                rw [k1]
                simp only [amLen, d1, g1, g2, and_self, if_true, Option.map_some]
              · rw [← d2.2.1]
                exact a_ofNat (a_le e3)
            · cases e
          · cases e
        · cases e
      · cases e
  · cases e
end
