/-! ===== whole frames ===== -/
/-- a method's handlers: where one takes what a call throws -/
def amHok (N : amN) (M : amM) : Prop :=
  (M.2.2.2.2.2.1 = [] → N.2.2 = []) ∧ ∀ (pc E h x to : Nat) (En : String), amHand M.2.2.2.2.2.1 pc E = some (h, x, to) → amEx[E]? = some En →
    ∃ (pre : List ExceptionTableEntry) (z : ExceptionTableEntry) (suf : List ExceptionTableEntry), tableOf N.2.2 = pre ++ z :: suf ∧ (∀ y ∈ pre, covers y pc = false ∨ (y.catchType ≠ 0 ∧ ∃ nm : String, Jvm.Cond.classLink N.1.cls y.catchType nm ∈ amWL ∧ (En, nm) ∈ amNc)) ∧ covers z pc = true ∧ z.catchType ≠ 0 ∧ z.handlerPc = h ∧
      Jvm.Cond.classLink N.1.cls z.catchType En ∈ amWL ∧ Jvm.Cond.castable En En ∈ lw_tbl ∧ x < M.2.1 ∧ ((∃ j : Fin 4, (j : Nat) = x ∧ decode N.2.1 h = .ok (.astore_n j, 1) ∧ to = h + 1) ∨ (decode N.2.1 h = .ok (.astore x, 2) ∧ to = h + 2))
/-- a method, its code and names -/
def amMk (G : Nat → Option amM) (X : Nat → Option amN) (N : amN) (M : amM) : Prop :=
  plainFor N.1 = true ∧ M.2.1 ≤ 100 ∧ (M.2.2.2.1 = true → N.1.name = "<init>") ∧ amHok N M ∧ ∀ q ∈ M.1, amEok G X N M q
def amCx (p : Program) (R : Room) (s : State) (m : MethodId) (args : Array Value) (meth : Method) (c : Code) (A : Nat → Prop) (D : va_G) (dA : Nat → ClassId) (sA : Nat → Nat) (G : Nat → Option amM) (X : Nat → Option amN) (N : amN) (M : amM) (sc : Option (List Int32)) (d mc ms : Nat) : Prop :=
  p.tables.exec = Jvm.exec ∧ c.code = N.2.1 ∧ c.maxLocals = M.2.1 ∧ s.vm.findClass N.1.cls = some m.cls ∧ (∀ w ∈ amWL, w.before args s = true) ∧ amG D dA sA s ∧ amZ sc sA A s s.heap ∧ (∀ q, s.heap.size ≤ q → A q) ∧ (M.2.2.2.1 = true → meth.name = "<init>") ∧ c.exceptionTable.toList = tableOf N.2.2 ∧ amMk G X N M ∧ (d + 8 ≤ R.frames ∧ 128 * (d + 1) ≤ R.locals ∧ mc ≤ R.cells ∧ ms ≤ R.slots) ∧ (∀ l9, sc = some l9 → va_X (sA 999999) l9.length (fun j => l9.getD j 0) s s.heap ∧ sA 999999 < s.heap.size ∧ ¬ A (sA 999999))
def amFR (l : Launch) (D : va_G) (dA : Nat → ClassId) (sA : Nat → Nat) (G : Nat → Option amM) (X : Nat → Option amN) (f : Nat) : Prop :=
  ∀ (p : Program) (e : Env) (R : Room) (s : State) (m : MethodId) (args : Array Value) (below : List Frame) (meth : Method) (c : Code) (A : Nat → Prop) (Q : State → Prop) (N : amN) (M : amM) (sc : Option (List Int32)) (d n0 : Nat) (ad0 : Nat → Nat) (x : Option Value ⊕ Nat) (hp1 : amH) (mc ms : Nat),
    amCx p R s m args meth c A D dA sA G X N M sc d mc ms → (∀ j, ad0 (amK + j) = sA j) →
    (∀ (v : Option Value) (i : Instr) (pc : Nat) (st : List Value) (ad : Nat → Nat) (H : Heap) (locs : List Loc) (lsA : Array Slot), x = .inl v → decode N.2.1 pc = .ok (i, 1) → amRetV M.2.2.2.2.1 i st = some v → amAg n0 ad0 ad → va_P D vwCl (amW dA ad hp1) H → va_D A (amW dA ad hp1) → va_S A s.heap H locs → W p l e R s m args below meth c H locs mc ms Q (F0 m pc lsA (st.map (amV ad)))) →
    (∀ (a b k kc ks pc : Nat) (st : List Value) (ad : Nat → Nat) (H : Heap) (locs : List Loc) (lsA : Array Slot), x = .inr a → decode N.2.1 pc = .ok (.new k, 3) → amThr N.1.cls N.2.1 pc k a b → M.2.2.2.2.2.1 = [] → (st.map fun v => v.category).sum ≤ 8 → lsA.size = M.2.1 → kc + 1 = mc → ks + 6 = ms → amAg n0 ad0 ad → va_P D vwCl (amW dA ad hp1) H → va_D A (amW dA ad hp1) → va_S A s.heap H locs → W p l e R s m args below meth c H locs kc ks Q (F0 m pc lsA (st.map (amV ad)))) →
    (∀ (E : Nat) (En : String) (ce : Cell) (q9 pc : Nat) (st : List Value) (ad : Nat → Nat) (H : Heap) (locs : List Loc) (lsA : Array Slot), x = .inr E → amEx[E]? = some En → M.2.2.2.2.2.1 = [] → amAg n0 ad0 ad → va_P D vwCl (amW dA ad hp1) H → va_D A (amW dA ad hp1) → va_S A s.heap H locs → H[q9]? = some ce → ce.vm = .none → s.vm.findClass En = some ce.cls → vx_W p l e R s m args below meth c H locs mc ms Q (F0 m pc lsA st) q9) →
    ∀ (cs : amP) (pc : Nat) (ls : amL) (st : List Value) (hp : amH) (kc ks : Nat) (ad : Nat → Nat) (H : Heap) (locs : List Loc) (lsA : Array Slot), (∀ q ∈ cs, q ∈ M.1) → amRun G sc f d M cs pc ls st hp kc ks = some (x, hp1, mc, ms) → amAg n0 ad0 ad → n0 ≤ hp.length → lv_has lsA M.2.1 (amLs ad ls) → va_P D vwCl (amW dA ad hp) H → va_D A (amW dA ad hp) → va_S A s.heap H locs → W p l e R s m args below meth c H locs kc ks Q (F0 m pc lsA (st.map (amV ad)))
def amHd (N : amN) (M : amM) : Jvm.Cond := if N.2.2 = [] then Jvm.Cond.code N.1 N.2.1 M.2.1 M.2.2.2.2.1 else Jvm.Cond.codeWith N.1 N.2.1 M.2.1 M.2.2.2.2.1 N.2.2
def amCT (l : Launch) (D : va_G) (dA : Nat → ClassId) (sA : Nat → Nat) (G : Nat → Option amM) (X : Nat → Option amN) (f : Nat) : Prop :=
  ∀ (sc : Option (List Int32)) (k : Nat) (N : amN) (M : amM) (d : Nat) (av : List Value) (hp hp1 : amH) (x : Option Value ⊕ Nat) (mc ms : Nat) (ad : Nat → Nat) (sz : Nat), X k = some N → G k = some M → (∀ j, ad (amK + j) = sA j) → (av.map fun v => v.category).sum ≤ M.2.1 → amRun G sc f d M M.1 0 (lv_args 0 av) [] hp 0 0 = some (x, hp1, mc, ms) →
    vx_Met l N.1 (amHd N M :: amWL) (amRm d mc ms) (amPc D dA sA sc ad hp av sz) (amQ D dA ad hp.length (va_A (amW dA ad hp) sz) x hp1) (amX D dA ad hp.length (va_A (amW dA ad hp) sz) x hp1) mc ms (va_A (amW dA ad hp) sz)
theorem amRetV_s {ret : Option FieldType} {i : Instr} {st : List Value} {v : Option Value} (h : amRetV ret i st = some v) :
    (∃ ty x, i = .ireturn ∧ ret = some ty ∧ st = [.int x] ∧ narrow ty (.int x) = .int x ∧ v = some (.int x)) ∨ (∃ x, i = .lreturn ∧ ret = some .long ∧ st = [.long x] ∧ v = some (.long x)) ∨ (∃ x, i = .freturn ∧ ret = some .float ∧ st = [.float x] ∧ v = some (.float x)) ∨ (∃ x, i = .dreturn ∧ ret = some .double ∧ st = [.double x] ∧ v = some (.double x)) ∨ (i = .return_ ∧ ret = none ∧ st = [] ∧ v = none) ∨ (∃ w ty, i = .areturn ∧ ret = some ty ∧ ((∃ n, ty = .object n) ∨ ∃ t, ty = .array t) ∧ st = [w] ∧ amIsA w = true ∧ v = some w) := by
  unfold amRetV at h
  split at h
  · split at h
    · next ty x =>
      split at h
      · next e => cases h; exact Or.inl ⟨ty, x, rfl, rfl, rfl, e, rfl⟩
      · cases h
    · cases h
  · split at h
    · next x => cases h; exact Or.inr (Or.inl ⟨x, rfl, rfl, rfl, rfl⟩)
    · cases h
  · split at h
    · next x => cases h; exact Or.inr (Or.inr (Or.inl ⟨x, rfl, rfl, rfl, rfl⟩))
    · cases h
  · split at h
    · next x => cases h; exact Or.inr (Or.inr (Or.inr (Or.inl ⟨x, rfl, rfl, rfl, rfl⟩)))
    · cases h
  · split at h
    · cases h; exact Or.inr (Or.inr (Or.inr (Or.inr (Or.inl ⟨rfl, rfl, rfl, rfl⟩))))
    · cases h
  · split at h
    · next n w =>
      split at h
      · next e => cases h; exact Or.inr (Or.inr (Or.inr (Or.inr (Or.inr ⟨w, _, rfl, rfl, Or.inl ⟨n, rfl⟩, rfl, e, rfl⟩))))
      · cases h
    · next ty w =>
      split at h
      · next e => cases h; exact Or.inr (Or.inr (Or.inr (Or.inr (Or.inr ⟨w, _, rfl, rfl, Or.inr ⟨ty, rfl⟩, rfl, e, rfl⟩))))
      · cases h
    · cases h
  · cases h
theorem am_seek_in {cs : amP} {pc : Nat} : ∀ q ∈ amSeek cs pc, q ∈ cs := fun q h => (List.dropWhile_suffix _).subset h
theorem am_next_in {M : amM} {cs : amP} {pc : Nat} (h : ∀ q ∈ cs, q ∈ M.1) : ∀ q ∈ amNext M cs pc, q ∈ M.1 := by
  intro q hq
  unfold amNext at hq
  split at hq
  · split at hq
    · exact h q hq
    · exact am_seek_in q hq
  · exact am_seek_in q hq
theorem am_args_ls (ad : Nat → Nat) : ∀ (av : List Value) (i : Nat), amLs ad (lv_args i av) = lv_args i (av.map (amV ad))
  | [], _ => rfl
  | v :: r, i => by
    show (i, amV ad v) :: amLs ad (lv_args _ r) = (i, amV ad v) :: lv_args _ (r.map (amV ad))
    rw [am_args_ls ad r, amV_cat]
section AMF
variable {l : Launch} {D : va_G} {dA : Nat → ClassId} {sA : Nat → Nat} {G : Nat → Option amM} {X : Nat → Option amN}
theorem am_recvC {k ci : Nat} {hp : amH} {o : Nat} {As : List Value} (hk : k = 0) (h : amRecv k ci hp (.ref o :: As) = true) : amCls hp o = some ci ∧ ci < 32 := by
  subst hk
  unfold amRecv at h
  dsimp only at h
  rw [if_pos rfl] at h
  unfold amCls
  split at h
  · next c hc =>
    have h := of_decide_eq_true h
    rw [hc]
    exact ⟨congrArg some h.1, h.2⟩
  · next hc =>
    rw [hc]
    dsimp only
    split at h
    · next e =>
      have h := of_decide_eq_true h
      rw [if_pos e]
      exact h
    · cases h
theorem am_recvO {k ci : Nat} {hp : amH} {av : List Value} (hk : k = 0) (h : amRecv k ci hp av = true) : ∃ o As, av = .ref o :: As := by
  subst hk
  unfold amRecv at h
  split at h
  · next o As => exact ⟨o, As, rfl⟩
  · cases h
/-- the calls -/
theorem am_callAct {p : Program} {e : Env} {R : Room} {s : State} {m : MethodId} {args : Array Value} {below : List Frame} {meth : Method} {c : Code} {A : Nat → Prop} {Q : State → Prop} {N : amN} {M : amM} {sc : Option (List Int32)} {d mcT msT : Nat} (C : amCx p R s m args meth c A D dA sA G X N M sc (d + 1) mcT msT)
    {pc a b k : Nat} {i : Instr} (hE : amEok G X N M (pc, i, a, b)) {ls : amL} {st av rest : List Value} {hp hp1 : amH} (h : amDo G M sc i a b pc ls st hp = some (.inr (.inr (.inr (k, av, rest))))) {Mk : amM} (hGk : G k = some Mk) {x : Option Value ⊕ Nat} {mc ms kc ks : Nat} {ad : Nat → Nat} {H : Heap} {locs : List Loc} {lsA : Array Slot}
    (hM : ∀ (Nk : amN), X k = some Nk → (av.map fun v => v.category).sum ≤ Mk.2.1 → vx_Met l Nk.1 (amHd Nk Mk :: amWL) (amRm d mc ms) (amPc D dA sA (amSub k sc) ad hp av H.size) (amQ D dA ad hp.length (va_A (amW dA ad hp) H.size) x hp1) (amX D dA ad hp.length (va_A (amW dA ad hp) H.size) x hp1) mc ms (va_A (amW dA ad hp) H.size)) (hnL : Mk.2.1 ≤ 100)
    (hsA : ∀ j, ad (amK + j) = sA j) (hmay : amMay i b = false → ∃ v, x = .inl v) (hroom : kc + mc ≤ R.cells ∧ ks + ms ≤ R.slots) (hl : lv_has lsA M.2.1 (amLs ad ls)) (hP : va_P D vwCl (amW dA ad hp) H) (hD : va_D A (amW dA ad hp)) (hS : va_S A s.heap H locs)
    (kk : ∀ (v : Option Value) (ad1 : Nat → Nat) (H1 : Heap) (locs1 : List Loc), x = .inl v → amAg hp.length ad ad1 → va_P D vwCl (amW dA ad1 hp1) H1 → va_D A (amW dA ad1 hp1) → va_S A s.heap H1 locs1 → W p l e R s m args below meth c H1 locs1 (kc + mc) (ks + ms) Q (F0 m (pc + amCs i) lsA ((v.toList ++ rest).map (amV ad1))))
    (kx : ∀ (k : Nat) (E : String) (ce : Cell) (q9 : Addr) (ad1 : Nat → Nat) (H1 : Heap) (locs1 : List Loc), x = .inr k → amEx[k]? = some E → amAg hp.length ad ad1 → va_P D vwCl (amW dA ad1 hp1) H1 → va_D A (amW dA ad1 hp1) → va_S A s.heap H1 locs1 → H1[q9]? = some ce → ce.vm = .none → s.vm.findClass E = some ce.cls → vx_W p l e R s m args below meth c H1 locs1 (kc + mc) (ks + ms) Q (F0 m pc lsA (rest.map (amV ad))) q9) :
    amOkL hp.length ls = true ∧ W p l e R s m args below meth c H locs kc ks Q (F0 m pc lsA (st.map (amV ad))) := by
  obtain ⟨hx, hb, hml, hown, hts, hG, hZ9, hA, hini, htab, hMk, hR, hsc⟩ := C
  have hZ := hZ9.sub k
  obtain ⟨⟨n, hd, hn⟩, hlk, hlk2⟩ := hE
  dsimp only at hd hn hlk hlk2
  have S : CallFix p m c N.2.1 M.2.1 s args amWL N.1.cls := ⟨hx, hb, hml, hown, hts⟩
  have hR2 : d + 9 ≤ R.frames ∧ 128 * (d + 2) ≤ R.locals := ⟨by omega, by omega⟩
  unfold amDo at h
  split at h
  case h_1 =>
    split at h
    · obtain ⟨-, -, -, -, e1⟩ := amMake_s h; cases e1
    · split at h <;> cases h
  case h_2 => obtain ⟨_, _, _, _, -, -, -, -, h⟩ := amMakeA_s h; obtain ⟨-, -, -, -, e1⟩ := amMake_s h; cases e1
  case h_3 => obtain ⟨_, _, _, _, -, -, -, -, h⟩ := amMakeA_s h; obtain ⟨-, -, -, -, e1⟩ := amMake_s h; cases e1
  case h_4 z =>
   split at h
   · obtain ⟨_, _, _, -, -, -, e1⟩ := amLenS_s h; cases e1
   · split at h
     · obtain ⟨_, _, _, _, -, e1⟩ := amChrX_e h; cases e1
     · next hb7 hb8 =>
       obtain rfl : n = 3 := by rcases hn with hn | hn <;> first | exact hn | cases hn
       obtain ⟨M9, av9, rest9, g1, rfl, g2, g3, g4, g5, g6, g7, e1⟩ := amCall_s h
       cases e1
       unfold amLk2 at hlk2
       dsimp only at hlk2
       rw [if_neg hb7, if_neg hb8] at hlk2
       obtain ⟨o, As, rfl⟩ := am_recvO rfl g5
       obtain ⟨ho, e6⟩ := am_recvC rfl g5
       by_cases hb0 : b = 0
       · rw [if_pos hb0] at hlk2
         obtain ⟨Nk, M8, r, n8, q1, q2, q3, q4, q5, w1, w2, w3, w4, w5, q6, q7, q8⟩ := hlk2
         cases hGk.symm.trans g1
         cases q2.symm.trans g1
         have hM1 := hM Nk q1 g7
         unfold amHd at hM1
         rw [if_pos q3] at hM1
         refine ⟨g3, am_callV S hG hZ hA hP hD hS hM1 q4 e6 ho hsA q5 w1 w2 w3 w4 w5 ⟨q6.1, q6.2, q7⟩ (by rw [List.length_cons] at g2; omega) hnL hR2 hroom hl.1 g4 g6 hd kk kx⟩
       · rw [if_neg hb0] at hlk2
         obtain ⟨Nk, M8, r, n8, x0, owner, b0, m0, r0, q1, q2, q3, q4, w1, w2, w3, w4, w5, w6, w7, w8, q5, q6⟩ := hlk2
         cases hGk.symm.trans g1
         cases q2.symm.trans g1
         have hM1 := hM Nk q1 g7
         unfold amHd at hM1
         rw [if_pos q3] at hM1
         obtain ⟨v, rfl⟩ := hmay (decide_eq_false hb0)
         refine ⟨g3, am_callU S hG hZ hA hP hD hS hM1 q4 e6 ho hsA w1 w2 w3 (by
           rcases w4 with w4 | ⟨n9, v1, v2, v3, v4⟩
           · exact hts _ w4
           · rw [v4]; exact am_selP (hts _ v1) (hts _ w2) v2 (hts _ v3) (hts _ w3)) w5 w6 w7 w8 q5 (by rw [List.length_cons] at g2; omega) hnL hR2 hroom hl.1 g4 g6 hd (fun ad1 H1 locs1 => kk v ad1 H1 locs1 rfl)⟩
  case h_5 z =>
    obtain rfl : n = 3 := by rcases hn with hn | hn <;> first | exact hn | cases hn
    split at h
    · obtain ⟨_, _, -, e1⟩ := amCopyY_e h; cases e1
    · next hb6 =>
      obtain ⟨M9, av9, rest9, g1, rfl, g2, g3, g4, g5, g6, g7, e1⟩ := amCall_s h
      cases e1
      unfold amLk2 at hlk2
      dsimp only at hlk2
      rw [if_neg hb6] at hlk2
      obtain ⟨Nk, M8, q1, q2, q3, w1, w2, w4, q6, q7⟩ := hlk2
      cases hGk.symm.trans g1
      cases q2.symm.trans g1
      have hM1 := hM Nk q1 g7
      unfold amHd at hM1
      by_cases hb0 : b = 0
      · rw [if_pos hb0] at q3
        rw [if_pos q3.1] at hM1
        exact ⟨g3, am_callS S hG hZ hA hP hD hS hM1 w1 w2 w4 q3.2 ⟨q6.1, q6.2, q7⟩ g2 hnL hR2 hroom hl.1 g4 g6 hd kk kx⟩
      · rw [if_neg hb0] at q3
        rw [if_neg q3.1] at hM1
        obtain ⟨v, rfl⟩ := hmay (decide_eq_false hb0)
        exact ⟨g3, am_callSW S hG hZ hA hP hD hS hM1 w1 w2 w4 q3.2 ⟨q6.1, q6.2, q7⟩ g2 hnL hR2 hroom hl.1 g4 g6 hd (fun ad1 H1 locs1 => kk v ad1 H1 locs1 rfl)⟩
  case h_6 z =>
    obtain rfl : n = 3 := by rcases hn with hn | hn <;> first | exact hn | cases hn
    split at h
    · obtain ⟨_, _, -, -, e1⟩ := amObj_s h; cases e1
    · next hb5 =>
      obtain ⟨M9, av9, rest9, g1, rfl, g2, g3, g4, g5, g6, g7, e1⟩ := amCall_s h
      cases e1
      unfold amLk2 at hlk2
      dsimp only at hlk2
      rw [if_neg hb5] at hlk2
      by_cases hb12 : b = 12
      · rw [if_pos hb12] at hlk2
        obtain ⟨Nk, M8, r, n8, q1, q2, q3, q4, w1, w2, w3, w5, w6, w7, q5, q7, q8⟩ := hlk2
        cases hGk.symm.trans g1
        cases q2.symm.trans g1
        have hM1 := hM Nk q1 g7
        unfold amHd at hM1
        rw [if_pos q3] at hM1
        obtain ⟨v, rfl⟩ := hmay rfl
        rw [if_pos hb12] at g5
        obtain ⟨o, As, rfl⟩ := am_recvO rfl g5
        obtain ⟨ho, e6⟩ := am_recvC rfl g5
        exact ⟨g3, am_callSU S hG hZ hA hP hD hS hM1 q4 e6 ho hsA w1 w2 w3 w5 w6 w7 ⟨q5, q7⟩ (by rw [List.length_cons] at g2; omega) hnL hR2 hroom hl.1 g4 g6 hd (fun ad1 H1 locs1 => kk v ad1 H1 locs1 rfl)⟩
      rw [if_neg hb12] at hlk2
      obtain ⟨Nk, M8, n8, q1, q2, q3, q4, w1, w2, w4, w5, q5, q6, q7, q8⟩ := hlk2
      cases hGk.symm.trans g1
      cases q2.symm.trans g1
      have hM1 := hM Nk q1 g7
      unfold amHd at hM1
      rw [if_pos q3, q4] at hM1
      obtain ⟨v, rfl⟩ := hmay rfl
      unfold amRecv at g5
      split at g5
      · next o As =>
        exact ⟨g3, am_callI S hG hZ hA hP hD hS hM1 w1 w2 w4 w5 q5 ⟨q6.1, q6.2, q7⟩ (by rw [List.length_cons] at g2; omega) hnL hR2 hroom hl.1 g4 g6 hd (fun ad1 H1 locs1 => kk v ad1 H1 locs1 rfl)⟩
      · cases g5
  case h_7 => obtain ⟨v, -, e1⟩ := Option.map_eq_some_iff.mp h; cases e1
  case h_8 => obtain ⟨v, -, e1⟩ := Option.map_eq_some_iff.mp h; cases e1
  case h_9 => obtain ⟨v, -, e1⟩ := Option.map_eq_some_iff.mp h; cases e1
  case h_10 => obtain ⟨v, -, e1⟩ := Option.map_eq_some_iff.mp h; cases e1
  case h_11 => obtain ⟨v, -, e1⟩ := Option.map_eq_some_iff.mp h; cases e1
  case h_12 => obtain ⟨v, -, e1⟩ := Option.map_eq_some_iff.mp h; cases e1
  case h_13 k9 cnt =>
    obtain rfl : n = 5 := by rcases hn with hn | hn <;> first | exact hn | cases hn
    obtain ⟨M9, av9, rest9, g1, rfl, g2, g3, g4, g5, g6, g7, e1⟩ := amCall_s h
    cases e1
    obtain ⟨Nk, M8, r, n8, x0, q1, q2, q3, q4, w1, w2, w3, w4, w5, w6, q7, q8⟩ := hlk2
    cases hGk.symm.trans g1
    cases q2.symm.trans g1
    have hM1 := hM Nk q1 g7
    unfold amHd at hM1
    rw [if_pos q3] at hM1
    obtain ⟨v, rfl⟩ := hmay rfl
    obtain ⟨o, As, rfl⟩ := am_recvO rfl g5
    obtain ⟨ho, e6⟩ := am_recvC rfl g5
    exact ⟨g3, am_callF S hG hZ hA hP hD hS hM1 q4 e6 ho hsA w1 w2 w3 w4 w5 w6 q7 (by rw [List.length_cons] at g2; omega) hnL hR2 hroom hl.1 g4 g6 hd (fun ad1 H1 locs1 => kk v ad1 H1 locs1 rfl)⟩
  case h_14 => obtain ⟨v, -, e1⟩ := Option.map_eq_some_iff.mp h; cases e1
end AMF
