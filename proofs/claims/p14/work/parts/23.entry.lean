/-! ===== what holds at the law's entry ===== -/
theorem a_us : ∀ q ∈ vwCl, ∀ w ∈ u_ws q.1 q.2.1 q.2.2, w ∈ amWL := by
  intro q hq
  simp only [List.mem_cons, List.not_mem_nil, or_false] at hq
  rcases hq with rfl | rfl | rfl | rfl | rfl | rfl | rfl | rfl | rfl | rfl | rfl | rfl
  · exact amAts_s (is := [214, 216, 218, 220, 222, 224]) (by decide +kernel)
  · exact amAts_s (is := [321, 323, 325, 327, 329, 331]) (by decide +kernel)
  · exact amAts_s (is := [379, 381, 383, 385]) (by decide +kernel)
  · exact amAts_s (is := [280, 282, 284, 286]) (by decide +kernel)
  · exact amAts_s (is := [299, 301, 303]) (by decide +kernel)
  · exact amAts_s (is := [175, 177, 179, 181, 183, 185, 187, 189]) (by decide +kernel)
  · exact amAts_s (is := [266, 268, 270, 272]) (by decide +kernel)
  · exact amAts_s (is := [240, 242, 244]) (by decide +kernel)
  · exact amAts_s (is := [343, 345]) (by decide +kernel)
  · exact amAts_s (is := [358, 360, 362, 364]) (by decide +kernel)
  · exact amAts_s (is := [414, 416, 418, 420, 422, 424, 426, 428, 430, 432, 434, 436]) (by decide +kernel)
  · exact amAts_s (is := [1565, 1567, 1569, 1571, 1573, 1575, 1577, 1579, 1581, 1583, 1585, 1587, 1589, 1591, 1593, 1595, 1597, 1599, 1601, 1603, 1605, 1607, 1609, 1611, 1613, 1615, 1617, 1619, 1621, 1623, 1625, 1627, 1629]) (by decide +kernel)
theorem a_inst : ∀ q ∈ vwCl, Jvm.Cond.instantiable q.1 q.2.2 ∈ lw_tbl := by
  intro q hq
  simp only [List.mem_cons, List.not_mem_nil, or_false] at hq
  rcases hq with rfl | rfl | rfl | rfl | rfl | rfl | rfl | rfl | rfl | rfl | rfl | rfl
  · exact List.mem_of_getElem? (i := 194) (by decide +kernel)
  · exact List.mem_of_getElem? (i := 308) (by decide +kernel)
  · exact List.mem_of_getElem? (i := 368) (by decide +kernel)
  · exact List.mem_of_getElem? (i := 248) (by decide +kernel)
  · exact List.mem_of_getElem? (i := 290) (by decide +kernel)
  · exact List.mem_of_getElem? (i := 159) (by decide +kernel)
  · exact List.mem_of_getElem? (i := 255) (by decide +kernel)
  · exact List.mem_of_getElem? (i := 229) (by decide +kernel)
  · exact List.mem_of_getElem? (i := 335) (by decide +kernel)
  · exact List.mem_of_getElem? (i := 349) (by decide +kernel)
  · exact List.mem_of_getElem? (i := 151) (by decide +kernel)
  · exact List.mem_of_getElem? (i := 1523) (by decide +kernel)
theorem a_sIn : ∀ q ∈ amStr, Jvm.Cond.stringRef q.1 q.2.1 q.2.2 ∈ lw_tbl := by
  intro q hq
  simp only [amStr, List.mem_cons, List.not_mem_nil, or_false] at hq
  rcases hq with rfl | rfl | rfl | rfl | rfl | rfl | rfl | rfl | rfl | rfl | rfl | rfl | rfl | rfl | rfl | rfl | rfl | rfl | rfl | rfl | rfl | rfl
  · exact List.mem_of_getElem? (i := 489) (by decide +kernel)
  · exact List.mem_of_getElem? (i := 551) (by decide +kernel)
  · exact List.mem_of_getElem? (i := 552) (by decide +kernel)
  · exact List.mem_of_getElem? (i := 1020) (by decide +kernel)
  · exact List.mem_of_getElem? (i := 1067) (by decide +kernel)
  · exact List.mem_of_getElem? (i := 1074) (by decide +kernel)
  · exact List.mem_of_getElem? (i := 1092) (by decide +kernel)
  · exact List.mem_of_getElem? (i := 1093) (by decide +kernel)
  · exact List.mem_of_getElem? (i := 1124) (by decide +kernel)
  · exact List.mem_of_getElem? (i := 1154) (by decide +kernel)
  · exact List.mem_of_getElem? (i := 1176) (by decide +kernel)
  · exact List.mem_of_getElem? (i := 1188) (by decide +kernel)
  · exact List.mem_of_getElem? (i := 1250) (by decide +kernel)
  · exact List.mem_of_getElem? (i := 1280) (by decide +kernel)
  · exact List.mem_of_getElem? (i := 1324) (by decide +kernel)
  · exact List.mem_of_getElem? (i := 1340) (by decide +kernel)
  · exact List.mem_of_getElem? (i := 1444) (by decide +kernel)
  · exact List.mem_of_getElem? (i := 1494) (by decide +kernel)
  · exact List.mem_of_getElem? (i := 1521) (by decide +kernel)
  · exact List.mem_of_getElem? (i := 1674) (by decide +kernel)
  · exact List.mem_of_getElem? (i := 1697) (by decide +kernel)
  · exact List.mem_of_getElem? (i := 1738) (by decide +kernel)
noncomputable def a_clB (ci : Nat) : Bool := match vwCl[ci]? with
  | some r => decide ((∀ k, k < r.2.2 → parseFieldDescriptor (r.2.1 k).2.2.1 = some (amFty ci k)) ∧ (∀ a, a < r.2.2 → ∀ b, b < r.2.2 → a ≠ b → (r.2.1 a).2.1 ≠ (r.2.1 b).2.1))
  | none => true
theorem a_clOk : amClOk := by
  intro ci r h
  have hb : (List.range 12).all a_clB = true := by decide +kernel
  have hlt : ci < 12 := a_lt h
  have := List.all_eq_true.mp hb ci (List.mem_range.mpr hlt)
  unfold a_clB at this
  rw [h] at this
  exact of_decide_eq_true this
theorem a_kn {args : Array Value} {s : State} (hts : ∀ w ∈ lw_tbl, w.before args s = true) : ∃ D : va_G, ∀ (c : Nat) (q : vw_C), vwCl[c]? = some q → u_Kn s q.1 q.2.1 q.2.2 (D.1 c) (D.2 c) := by
  have key : ∀ k : Nat, ∃ z : ClassId × (Nat → Nat), ∀ q : vw_C, vwCl[k]? = some q → u_Kn s q.1 q.2.1 q.2.2 z.1 z.2 := by
    intro k
    cases hq : vwCl[k]? with
    | none => exact ⟨(0, fun _ => 0), fun q h => by cases h⟩
    | some q =>
      have hm := List.mem_of_getElem? hq
      obtain ⟨c, iS, h⟩ := u_known (C := q.1) (T := q.2.1) (N := q.2.2) (n := q.2.2) hts (fun w hw => (List.mem_filter.mp (a_us q hm w hw)).1) (hts _ (a_inst q hm))
      exact ⟨(c, iS), fun q' h' => by cases h'; exact h⟩
  obtain ⟨f, hf⟩ := Classical.axiomOfChoice key
  exact ⟨(fun k => (f k).1, fun k => (f k).2), hf⟩
theorem a_str {own tx : String} {k : Nat} {args : Array Value} {s : State} (h : (Jvm.Cond.stringRef own k tx).before args s = true) : ∃ a : Nat, vk_R own k tx a s ∧ (Term.string own k).eval args s none [] s = some (.ref a) := by
  have h0 : ∃ cur, s.vm.findClass own = some cur := by
    cases hc : s.vm.findClass own with
    | some cur => exact ⟨cur, rfl⟩
    | none => simp [Cond.before, Cond.holds, Cond.value, hc] at h
  obtain ⟨cur, hcur⟩ := h0
  obtain ⟨k9, cf, i, a, -, -, -, -, -, he⟩ := Cond.stringRef_spec hcur h
  exact ⟨a, vk_R.of h he, he⟩
theorem a_strs {args : Array Value} {s : State} (b : Nat) (hts : ∀ w ∈ lw_tbl, w.before args s = true) : ∃ sA : Nat → Nat, (∀ (k : Nat) (r : String × Nat × String), amStr[k]? = some r → vk_R r.1 r.2.1 r.2.2 (sA k) s ∧ (Term.string r.1 r.2.1).eval args s none [] s = some (.ref (sA k))) ∧ sA 999999 = b := by
  have key : ∀ k : Nat, ∃ a : Nat, (∀ r, amStr[k]? = some r → vk_R r.1 r.2.1 r.2.2 a s ∧ (Term.string r.1 r.2.1).eval args s none [] s = some (.ref a)) ∧ (k = 999999 → a = b) := by
    intro k
    cases hq : amStr[k]? with
    | none => exact ⟨b, (fun q h => by cases h), fun _ => rfl⟩
    | some r =>
      obtain ⟨a, ha⟩ := a_str (hts _ (a_sIn r (List.mem_of_getElem? hq)))
      refine ⟨a, (fun q h => by cases h; exact ha), fun z => ?_⟩
      have hlt : k < 22 := a_lt hq
      omega
  obtain ⟨f, hf⟩ := Classical.axiomOfChoice key
  exact ⟨f, fun k => (hf k).1, (hf 999999).2 rfl⟩
/-- a field of an object that a term names -/
theorem a_fld {args : Array Value} {s : State} {A : Nat → Prop} {tm : Term} {a : Nat} {o n d : String} {v : Value} (ht : tm.eval args s none [] s = some (.ref a)) (hv : (Term.field tm o n d).eval args s none [] s = some v) (hA : ∀ a : Nat, a < s.heap.size → ¬ A a) : va_OF o n d v a A s s.heap := by
  cases hfo : s.fieldFound? o n d with
  | none =>
    rw [va_fe ht] at hv
    simp [State.fieldOf?, State.fieldNamed?, hfo] at hv
  | some x =>
    obtain ⟨cf, k, fi, f⟩ := x
    obtain ⟨g1, cell, g2, g3, -, -, g6⟩ := Term.field_spec hfo ht hv
    exact ⟨cf, k, fi, f, cell, hfo, g1, g2, g3, g6, hA _ (Array.getElem?_eq_some_iff.mp g2).1⟩
noncomputable def fWx (own : String) (k : Nat) : Jvm.Cond → Bool
  | .exactly (.string o q) _ => Nat.beq q k && decide (o = own)
  | _ => false
noncomputable def fWc (own : String) (k : Nat) : Jvm.Cond → Bool
  | .eq (.field (.string o q) _ nm _) _ => Nat.beq q k && (decide (nm = "coder") && decide (o = own))
  | _ => false
noncomputable def fWa (own : String) (k : Nat) : Jvm.Cond → Bool
  | .arrayOf (.field (.string o q) _ _ _) _ => Nat.beq q k && decide (o = own)
  | _ => false
noncomputable def fWl (own : String) (k : Nat) : Jvm.Cond → Bool
  | .eq (.length (.field (.string o q) _ _ _)) _ => Nat.beq q k && decide (o = own)
  | _ => false
noncomputable def fWe (own : String) (k j : Nat) : Jvm.Cond → Bool
  | .eq (.elem (.field (.string o q) _ _ _) (.int i)) _ => Nat.beq q k && (decide (i = Int32.ofNat j) && decide (o = own))
  | _ => false
/-- what is said of a word -/
noncomputable def aWd (own : String) (k : Nat) (bs : List Int32) (L : List Jvm.Cond) : Bool :=
  decide (L.find? (fWx own k) = some (Jvm.Cond.exactly (.string own k) "java/lang/String")) && (decide (L.find? (fWc own k) = some (Jvm.Cond.eq (.field (.string own k) "java/lang/String" "coder" "B") (.int 0))) && (decide (L.find? (fWa own k) = some (Jvm.Cond.arrayOf (.field (.string own k) "java/lang/String" "value" "[B") .byte)) && (decide (L.find? (fWl own k) = some (Jvm.Cond.eq (.length (.field (.string own k) "java/lang/String" "value" "[B")) (.int (Int32.ofNat bs.length)))) && (decide (bs.length < 2 ^ 31) && (List.range bs.length).all (fun j => decide (L.find? (fWe own k j) = some (Jvm.Cond.eq (.elem (.field (.string own k) "java/lang/String" "value" "[B") (.int (Int32.ofNat j))) (.int (bs.getD j 0)))))))))
theorem a_word {own : String} {k a : Nat} {bs : List Int32} {L : List Jvm.Cond} {args : Array Value} {s : State} {A : Nat → Prop} (hs : ∀ w ∈ L, w.before args s = true) (hw : aWd own k bs L = true) (he : (Term.string own k).eval args s none [] s = some (.ref a)) (hA : ∀ a : Nat, a < s.heap.size → ¬ A a) : ∃ t, sB a t bs A s s.heap := by
  simp only [aWd, Bool.and_eq_true, decide_eq_true_eq] at hw
  obtain ⟨w1, w2, w3, w4, w5, w6⟩ := hw
  have w1 := List.mem_of_find?_eq_some w1
  have w2 := List.mem_of_find?_eq_some w2
  have w3 := List.mem_of_find?_eq_some w3
  have w4 := List.mem_of_find?_eq_some w4
  have w6 := List.all_eq_true.mp w6
  obtain ⟨a9, c, cell, k9, q1, q2, q3, q4, q5, q6, -⟩ := Cond.exactly_spec (hs _ w1)
  rw [he] at q1
  cases q1
  obtain ⟨t, t1, t2⟩ := va_Tof (f := fun j => .int (bs.getD j 0)) w5 (hs _ w3) (va_eqt (hs _ w4)) (fun j hj => va_eqt (hs _ (List.mem_of_find?_eq_some (of_decide_eq_true (w6 j (List.mem_range.mpr hj)))))) hA
  exact ⟨t, ⟨cell, q3, q5, by rw [q6]; exact q2, hA _ (Array.getElem?_eq_some_iff.mp q3).1⟩, a_fld he (va_eqt (hs _ w2)) hA, a_fld he t1 hA, t2⟩
noncomputable def aWs (q : Nat × List Int32) (L : List Jvm.Cond) : Bool := match amStr[q.1]? with
  | some r => aWd r.1 r.2.1 q.2 L
  | none => false
theorem aWs_s {q : Nat × List Int32} {L : List Jvm.Cond} (h : aWs q L = true) : ∃ r, amStr[q.1]? = some r ∧ aWd r.1 r.2.1 q.2 L = true := by
  unfold aWs at h
  split at h
  · next r hr => exact ⟨r, hr, h⟩
  · cases h
theorem a_arr {ty : FieldType} {args : Array Value} {s : State} (h : (Jvm.Cond.arrayClass ty).before args s = true) : ∃ cA, ArrOfT s cA ty ∧ s.vm.findClass ("[" ++ ty.toString) = some cA := by
  obtain ⟨c, k, comp, h1, h2, h3⟩ := Cond.arrayClass_spec h
  exact ⟨c, fun n z => ⟨fun k h => (by cases h), k, h2, comp, h3⟩, h1⟩
theorem a_arrO {C : String} {args : Array Value} {s : State} (h : (Jvm.Cond.arrayOver (.object C)).before args s = true) : ∃ cA, ArrOfT s cA (.object C) ∧ va_RA s cA (.object C) := by
  obtain ⟨comp, c, k, hcomp, hidx, hk, hkind, hname⟩ := Cond.arrayOver_spec h
  exact ⟨c, fun n z => ⟨fun k h => (by cases h), k, hk, comp, hkind⟩, k, comp, hk, hkind, hcomp, hname⟩
theorem a_nkT {w : Jvm.Cond} (h : amNk w = true) : w.onTables = true := by cases w <;> first | rfl | cases h
theorem a_G {args : Array Value} {s : State} (b : Nat) (hts : ∀ w ∈ lw_tbl, w.before args s = true) (hgv : (Jvm.Cond.and given_1 narrow_1).before args s = true) : ∃ (D : va_G) (dA : Nat → ClassId) (sA : Nat → Nat), amG D dA sA s ∧ sA 999999 = b ∧ ∀ (k : Nat) (r : String × Nat × String), amStr[k]? = some r → (Term.string r.1 r.2.1).eval args s none [] s = some (.ref (sA k)) := by
  obtain ⟨D, hD⟩ := a_kn hts
  obtain ⟨sA, hsA, hb⟩ := a_strs b hts
  obtain ⟨c0, p0, q0⟩ := a_arr (hts (.arrayClass .int) (List.mem_of_getElem? (i := 227) (by decide +kernel)))
  obtain ⟨c1, p1, q1⟩ := a_arr (hts (.arrayClass .long) (List.mem_of_getElem? (i := 306) (by decide +kernel)))
  obtain ⟨c2, p2, q2⟩ := a_arr (hts (.arrayClass .byte) (List.mem_of_getElem? (i := 192) (by decide +kernel)))
  have hov := hts (.arrayOver (.object "TripleTrains$Snapshot")) (List.mem_of_getElem? (i := 254) (by decide +kernel))
  obtain ⟨c3, p3, q3⟩ := a_arrO hov
  refine ⟨D, fun k => if k = 0 then c0 else if k = 1 then c1 else if k = 2 then c2 else c3, sA, ⟨⟨hD, ?_⟩, fun k r h => (hsA k r h).1, fun w hw hk => va_Nw.of (a_nkT hk) (hts w hw), ?_, va_AO.of hov⟩, hb, fun k r h => (hsA k r h).2⟩
  · intro k q hq
    match k, hq with
    | 0, hq => cases hq; exact ⟨p0, q0⟩
    | 1, hq => cases hq; exact ⟨p1, q1⟩
    | 2, hq => cases hq; exact ⟨p2, q2⟩
    | 3, hq => cases hq; exact ⟨p3, q3⟩
    | k + 4, hq => simp [amTys] at hq
  · intro q hq
    have hs := flat_of_before _ hgv
    simp only [amNc, List.mem_cons, List.not_mem_nil, or_false] at hq
    rcases hq with rfl | rfl | rfl | rfl | rfl
    all_goals exact va_Nc.of (hs _ (by decide +kernel))
theorem a_wds : amSl.all (fun q => aWs q (flatC (Jvm.Cond.and given_1 narrow_1))) = true := by decide +kernel
theorem a_Z {args : Array Value} {s : State} {A : Nat → Prop} {sA : Nat → Nat} (hts : ∀ w ∈ lw_tbl, w.before args s = true) (hgv : (Jvm.Cond.and given_1 narrow_1).before args s = true) (hev : ∀ (k : Nat) (r : String × Nat × String), amStr[k]? = some r → (Term.string r.1 r.2.1).eval args s none [] s = some (.ref (sA k))) (hA : ∀ a : Nat, a < s.heap.size → ¬ A a) : amZ sA A s s.heap := by
  have hs := flat_of_before _ hgv
  have hi := hts (.initialized Bundle.tN) (List.mem_of_getElem? (i := 142) (by decide +kernel))
  have hiS := hts (.initialized "java/lang/String") (List.mem_of_getElem? (i := 135) (by decide +kernel))
  have hiP := hts (.initialized "jdk/internal/util/Preconditions") (List.mem_of_getElem? (i := 137) (by decide +kernel))
  refine ⟨vx_Zqof (hts _ (List.mem_of_getElem? (i := 1005) (by decide +kernel))) hi (hs _ (by decide +kernel)) hA, vx_Zqof (hts _ (List.mem_of_getElem? (i := 1007) (by decide +kernel))) hi (hs _ (by decide +kernel)) hA, ⟨va_Zof (hts _ (List.mem_of_getElem? (i := 503) (by decide +kernel))) hiS (va_eqi (hs _ (by decide +kernel))) hA, va_Zqof (hts _ (List.mem_of_getElem? (i := 519) (by decide +kernel))) hiP (hs _ (by decide +kernel)) hA⟩, ?_⟩
  intro q hq
  obtain ⟨r, hr, hw⟩ := aWs_s (List.all_eq_true.mp a_wds q hq)
  exact a_word hs hw (hev q.1 r hr) hA
