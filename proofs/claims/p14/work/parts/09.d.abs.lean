/-! ##### 09.d.abs ##### -/
section
/-! ===== the abstract runs: making, calling, ending ===== -/
noncomputable def lAll {α : Type} (p : α → Bool) : List α → Bool
  | [] => true
  | v :: r => match p v with
    | true => lAll p r
    | false => false
theorem lAll_s {α : Type} {p : α → Bool} : ∀ {l : List α} {i : Nat} {v : α}, lAll p l = true → lAt l i = some v → p v = true
  | [], _, _, _, h => by simp [lAt] at h
  | a :: r, 0, v, h, e => by
    simp only [lAt, Option.some.injEq] at e
    subst e
    unfold lAll at h
    split at h
    · next h1 => exact h1
    · cases h
  | a :: r, i + 1, v, h, e => by
    unfold lAll at h
    split at h
    · exact lAll_s h e
    · cases h
theorem cAll_s {α : Type} {p : α → Bool} : ∀ {l : List (List α)} {i : Nat} {v : α}, lAll (lAll p) l = true → cGet l i = some v → p v = true
  | [], _, _, _, h => by cases h
  | a :: r, i, v, h, e => by
    unfold lAll at h
    split at h
    · next h1 =>
      unfold cGet at e
      split at e
      · exact lAll_s h1 e
      · exact cAll_s h e
    · cases h
noncomputable def aOk (n : Nat) : aV → Bool
  | .inr _ => true
  | .inl (.ref i) => (match Nat.ble (Nat.add i 1) n with
    | true => true
    | false => Nat.ble 1000000 i)
  | .inl _ => true
theorem aOk_s {n : Nat} {v : aV} {w : Value} (h : aOk n v = true) (hv : aR v w) : amOk n w = true := by
  cases v with
  | inr q => obtain ⟨x, rfl, -⟩ := hv; rfl
  | inl v =>
    cases hv
    cases w <;> first | rfl | skip
    next i =>
      simp only [aOk] at h
      simp only [amOk, Bool.or_eq_true, decide_eq_true_eq]
      split at h
      · next e => exact Or.inl (a_lt1 e)
      · next e => exact Or.inr (a_le h)
noncomputable def aOkO (n : Nat) : Option aV → Bool
  | some v => aOk n v
  | none => true
theorem aOkL_s {n : Nat} {ls : aL} {cl : amL} (h : lAll (aOkO n) ls = true) (hl : aRl ls cl) : amOkL n cl = true := by
  refine List.all_eq_true.mpr (fun q hq => ?_)
  obtain ⟨v, e1, e2⟩ := hl.2 q hq
  unfold lGet at e1
  split at e1
  · next o eo =>
    subst e1
    exact aOk_s (lAll_s h eo : aOkO n (some v) = true) e2
  · cases e1
theorem aOkS_s {n : Nat} : ∀ {st : List aV} {cs : List Value}, lAll (aOk n) st = true → aRs st cs → amOkS n cs = true
  | [], [], _, _ => rfl
  | v :: st, w :: cs, h, hs => by
    unfold lAll at h
    split at h
    · next e =>
      have := aOkS_s h hs.2
      simp only [amOkS, List.all_cons, Bool.and_eq_true] at this ⊢
      exact ⟨aOk_s e hs.1, this⟩
    · cases h
  | [], _ :: _, _, h => by cases h
  | _ :: _, [], _, h => by cases h
noncomputable def aOkC (n : Nat) (c : aC) : Bool := match Nat.ble 32 c.1 with
  | true => (match Nat.ble c.1 34 with
    | true => true
    | false => lAll (lAll (aOk n)) c.2.2)
  | false => lAll (lAll (aOk n)) c.2.2
theorem aOkC_s {n : Nat} {c : aC} {d : amC} (h : aOkC n c = true) (hc : aRc c d) : ((decide (32 ≤ d.1) && decide (d.1 ≤ 34)) || d.2.all (amOk n)) = true := by
  have key : lAll (lAll (aOk n)) c.2.2 = true → d.2.all (amOk n) = true := by
    intro h
    refine List.all_eq_true.mpr (fun w hw => ?_)
    obtain ⟨i, hi, e⟩ := List.getElem_of_mem hw
    have e1 := hc.2.2 i
    rw [List.getElem?_eq_getElem hi, e] at e1
    cases e2 : cGet c.2.2 i with
    | none => rw [e2] at e1; cases e1
    | some v => rw [e2] at e1; exact aOk_s (cAll_s h e2) e1
  unfold aOkC at h
  rw [Bool.or_eq_true]
  split at h
  · next e1 =>
    split at h
    · next e2 =>
      left
      rw [Bool.and_eq_true, decide_eq_true_eq, decide_eq_true_eq, ← hc.1]
      exact ⟨a_le e1, a_le e2⟩
    · exact Or.inr (key h)
  · exact Or.inr (key h)
theorem aOkH_s {n : Nat} {h : aH} {ch : amH} (hk : lAll (lAll (aOkC n)) h.2 = true) (hh : aRh h ch) : amOkH n ch = true := by
  refine List.all_eq_true.mpr (fun d hd => ?_)
  obtain ⟨i, hi, e⟩ := List.getElem_of_mem hd
  obtain ⟨c, d', e1, e2, e3⟩ := hh.2 i hi
  rw [List.getElem?_eq_getElem hi, e] at e2
  cases e2
  exact aOkC_s (cAll_s hk e1) e3
abbrev aMk : Type := (Nat → aL → List aV → aH → Nat → Nat → Bool) → aL → List aV → aH → Bool
noncomputable def aMok (act : aMk) (cf : amL → List Value → amH → Option amAct) : Prop :=
  ∀ (k : Nat → aL → List aV → aH → Nat → Nat → Bool) (ls : aL) (st : List aV) (hp : aH) (cl : amL) (cs : List Value) (ch : amH), act k ls st hp = true → aRl ls cl → aRs st cs → aRh hp ch →
    ∃ (r : amR) (dk ds : Nat) (ls' : aL) (st' : List aV) (hp' : aH), cf cl cs ch = some (.inl (r, dk, ds)) ∧ k r.1 ls' st' hp' dk ds = true ∧ aRl ls' r.2.1 ∧ aRs st' r.2.2.1 ∧ aRh hp' r.2.2.2
noncomputable def aMake (pc : Nat) (k : Nat → aL → List aV → aH → Nat → Nat → Bool) (ls : aL) (r : List aV) (hp : aH) (c : aC) : Bool :=
  match lAll (aOkO hp.1) ls with
  | true => (match lAll (aOk hp.1) r with
    | true => (match lAll (lAll (aOkC hp.1)) hp.2 with
      | true => (match Nat.ble (Nat.add hp.1 1) 1000000 with
        | true => (match aNewH hp c with
          | some h1 => k pc ls (.inl (.ref hp.1) :: r) h1 1 c.2.1
          | none => false)
        | false => false)
      | false => false)
    | false => false)
  | false => false
theorem aMake_s {pc : Nat} {k : Nat → aL → List aV → aH → Nat → Nat → Bool} {ls : aL} {r : List aV} {hp : aH} {c : aC} {cl : amL} {cr : List Value} {ch : amH} {d : amC} (e : aMake pc k ls r hp c = true) (hl : aRl ls cl) (hr : aRs r cr) (hh : aRh hp ch) (hc : aRc c d) :
    ∃ (z : amR) (dk ds : Nat) (ls' : aL) (st' : List aV) (hp' : aH), amMake pc cl cr ch d = some (.inl (z, dk, ds)) ∧ k z.1 ls' st' hp' dk ds = true ∧ aRl ls' z.2.1 ∧ aRs st' z.2.2.1 ∧ aRh hp' z.2.2.2 := by
  unfold aMake at e
  split at e
  · next e1 =>
    split at e
    · next e2 =>
      split at e
      · next e3 =>
        split at e
        · next e4 =>
          split at e
          · next h1 e5 =>
            have g4 := a_lt1 e4
            rw [hh.1] at e1 e2 e3 g4
            rw [hc.2.1, hh.1] at e
            refine ⟨(pc, cl, .ref ch.length :: cr, ch ++ [d]), 1, d.2.length, ls, .inl (.ref ch.length) :: r, h1, ?_, e, hl, ⟨rfl, hr⟩, aNewH_s hh e5 hc⟩
            unfold amMake
            rw [aOkL_s e1 hl, aOkS_s e2 hr, aOkH_s e3 hh, decide_eq_true (show ch.length < amK from g4)]
            rfl
          · cases e
        · cases e
      · cases e
    · cases e
  · cases e
theorem aMk_map {l : List Value} {k : Nat} (h : l.length ≤ 16 * k) (j : Nat) : aRo (cGet (cMk k (l.map aOfV)) j) (l[j]?) := by
  rw [cMk_s k _ j (by rw [List.length_map]; exact h), List.getElem?_map]
  cases l[j]? with
  | none => trivial
  | some v => exact aOfV_s v
noncomputable def aMnew (pc a : Nat) : aMk := fun k ls st hp => match Nat.ble (amDef a).length 128 with
  | true => aMake pc k ls st hp (a, (amDef a).length, cMk 8 ((amDef a).map aOfV))
  | false => false
theorem aMnew_ok {pc a : Nat} : aMok (aMnew pc a) (fun ls st hp => amMake pc ls st hp (a, amDef a)) := by
  intro k ls st h cl cs ch e hl hs hh
  unfold aMnew at e
  split at e
  · next e1 => exact aMake_s e hl hs hh ⟨rfl, rfl, fun j => aMk_map (by have := a_le e1; omega) j⟩
  · cases e
noncomputable def aMarr (pc : Nat) (kd : Option (Nat × Value)) : aMk := fun k ls st hp => match st with
  | .inr q :: r => (match kd with
    | some (t, v) => (match aIdx q with
      | some n => (match Nat.ble n 8192 with
        | true => aMake pc k ls r hp (t, n, cMk (n / 16 + 1) (List.replicate n (aOfV v)))
        | false => false)
      | none => false)
    | none => false)
  | _ => false
theorem aMarr_ok {pc : Nat} {kd : Option (Nat × Value)} : aMok (aMarr pc kd) (fun ls st hp => amMakeA pc ls hp kd st) := by
  intro k ls st h cl cs ch e hl hs hh
  unfold aMarr at e
  split at e
  · next q r =>
    obtain ⟨w, ws, rfl, ⟨x, rfl, hx⟩, hs1⟩ := aRs_cons hs
    split at e
    · next t v =>
      split at e
      · next n en =>
        split at e
        · next e1 =>
          have g1 := a_le e1
          obtain ⟨i1, i2⟩ := aIdx_s (m := n + 1) en hx
          have i3 := (amIn_s (i2 (Nat.lt_succ_self n)))
          have i4 : ¬ x < 0 := fun z => of_decide_eq_true (i2 (Nat.lt_succ_self n)) (Or.inl z)
          obtain ⟨z, dk, ds, ls', st', hp', m1, m2⟩ := aMake_s (d := (t, List.replicate n v)) e hl hs1 hh ⟨rfl, by simp, fun j => by
            have := aMk_map (l := List.replicate n v) (k := n / 16 + 1) (by rw [List.length_replicate]; omega) j
            rwa [List.map_replicate] at this⟩
          refine ⟨z, dk, ds, ls', st', hp', ?_, m2⟩
          dsimp only
          simp only [amMakeA, i1]
          rw [if_pos ⟨i4, by omega⟩]
          exact m1
        · cases e
      · cases e
    · cases e
  · cases e
noncomputable def aBld (g : Nat → Option aV) : Nat → List aV → Option (List aV)
  | 0, acc => some acc
  | n + 1, acc => match g n with
    | some v => aBld g n (v :: acc)
    | none => none
theorem aBld_s {g : Nat → Option aV} : ∀ {n : Nat} {acc l : List aV}, aBld g n acc = some l → l.length = n + acc.length ∧ (∀ j, j < n → ∃ v, g j = some v ∧ l[j]? = some v) ∧ ∀ j, l[n + j]? = acc[j]?
  | 0, acc, l, h => by
    cases h
    exact ⟨by omega, fun j hj => absurd hj (Nat.not_lt_zero _), fun j => by rw [Nat.zero_add]⟩
  | n + 1, acc, l, h => by
    unfold aBld at h
    split at h
    · next v e =>
      obtain ⟨h1, h2, h3⟩ := aBld_s h
      refine ⟨by rw [h1, List.length_cons]; omega, fun j hj => ?_, fun j => ?_⟩
      · by_cases z : j = n
        · subst z
          have := h3 0
          exact ⟨v, e, by simpa using this⟩
        · exact h2 j (by omega)
      · have := h3 (j + 1)
        rw [show n + 1 + j = n + (j + 1) by omega, this, List.getElem?_cons_succ]
    · cases h
noncomputable def aKcopy (pc : Nat) : aK := fun k ls st hp => match st with
  | .inr qn :: .inr qd :: .inl (.ref a) :: .inr qs :: .inl (.ref a0) :: r => (match aIdx qn with
    | some n => (match aIdx qd with
      | some dp => (match aIdx qs with
        | some sp => (match aCell hp a0 with
          | some c0 => (match aCell hp a with
            | some c1 => if c0.1 = 32 ∧ c1.1 = 32 ∧ sp + n ≤ c0.2.1 ∧ dp + n ≤ c1.2.1 ∧ aCs r ≤ 8 then
                (match aBld (fun j => if dp ≤ j ∧ j < dp + n then cGet c0.2.2 (sp + (j - dp)) else cGet c1.2.2 j) c1.2.1 [] with
                | some l => (match aPutH hp a (32, c1.2.1, cMk (c1.2.1 / 16 + 1) l) with
                  | some h1 => k pc ls r h1
                  | none => false)
                | none => false) else false
            | none => false)
          | none => false)
        | none => false)
      | none => false)
    | none => false)
  | _ => false
theorem aKcopy_ok {pc : Nat} {cf : amL → List Value → amH → Option amR} (hcf : ∀ ls st hp r, amCopy pc ls hp st = some (.inl (r, 0, 0)) → cf ls st hp = some r) : aKok (aKcopy pc) cf := by
  intro k ls st h cl cs ch e hl hs hh
  unfold aKcopy at e
  split at e
  · next qn qd a qs a0 r =>
    obtain ⟨w, ws, rfl, ⟨xn, rfl, hxn⟩, hs1⟩ := aRs_cons hs
    obtain ⟨w1, ws, rfl, ⟨xd, rfl, hxd⟩, hs2⟩ := aRs_cons hs1
    obtain ⟨w2, ws, rfl, hv2, hs3⟩ := aRs_cons hs2
    obtain ⟨w3, ws, rfl, ⟨xs, rfl, hxs⟩, hs4⟩ := aRs_cons hs3
    obtain ⟨w4, ws, rfl, hv4, hs5⟩ := aRs_cons hs4
    cases hv2
    cases hv4
    split at e
    · next n en =>
      split at e
      · next dp ed =>
        split at e
        · next sp es =>
          split at e
          · next c0 ec0 =>
            split at e
            · next c1 ec1 =>
              split at e
              · next ck =>
                split at e
                · next l el =>
                  split at e
                  · next h1 eh =>
                    obtain ⟨k1, k2, k3, k4, k5⟩ := ck
                    obtain ⟨d0, d01, d02⟩ := aCell_s hh ec0
                    obtain ⟨d1, d11, d12⟩ := aCell_s hh ec1
                    obtain ⟨n1, n2⟩ := aIdx_s (m := n + 1) en hxn
                    obtain ⟨p1, p2⟩ := aIdx_s (m := dp + 1) ed hxd
                    obtain ⟨s1, s2⟩ := aIdx_s (m := sp + 1) es hxs
                    have n3 : ¬ xn < 0 := fun z => of_decide_eq_true (n2 (Nat.lt_succ_self n)) (Or.inl z)
                    have p3 : ¬ xd < 0 := fun z => of_decide_eq_true (p2 (Nat.lt_succ_self dp)) (Or.inl z)
                    have s3 : ¬ xs < 0 := fun z => of_decide_eq_true (s2 (Nat.lt_succ_self sp)) (Or.inl z)
                    obtain ⟨b1, b2, b3⟩ := aBld_s el
                    have hl0 : c0.2.1 = d0.2.length := d02.2.1
                    have hl1 : c1.2.1 = d1.2.length := d12.2.1
                    have b1 : l.length = c1.2.1 := b1
                    have hlen : (d1.2.take dp ++ ((d0.2.drop sp).take n ++ d1.2.drop (dp + n))).length = d1.2.length := by
                      simp only [List.length_append, List.length_take, List.length_drop]
                      omega
                    have hc : aRc (32, c1.2.1, cMk (c1.2.1 / 16 + 1) l) (32, d1.2.take dp ++ ((d0.2.drop sp).take n ++ d1.2.drop (dp + n))) := by
                      refine ⟨rfl, by rw [hlen]; exact hl1, fun j => ?_⟩
                      dsimp only
                      rw [cMk_s _ l j (by omega)]
                      by_cases hj : j < c1.2.1
                      · obtain ⟨v, v1, v2⟩ := b2 j hj
                        rw [v2]
                        split at v1
                        · next g =>
                          obtain ⟨w, w1, w2⟩ := aRc_get d02 v1
                          have : (d1.2.take dp ++ ((d0.2.drop sp).take n ++ d1.2.drop (dp + n)))[j]? = some w := by
                            rw [List.getElem?_append_right (by rw [List.length_take]; omega), List.length_take, Nat.min_eq_left (by omega), List.getElem?_append_left (by rw [List.length_take, List.length_drop]; omega), List.getElem?_take, if_pos (by omega), List.getElem?_drop]
                            exact w1
                          rw [this]
                          exact w2
                        · next g =>
                          obtain ⟨w, w1, w2⟩ := aRc_get d12 v1
                          have : (d1.2.take dp ++ ((d0.2.drop sp).take n ++ d1.2.drop (dp + n)))[j]? = some w := by
                            by_cases gj : j < dp
                            · rw [List.getElem?_append_left (by rw [List.length_take]; omega), List.getElem?_take, if_pos gj]
                              exact w1
                            · rw [List.getElem?_append_right (by rw [List.length_take]; omega), List.length_take, Nat.min_eq_left (by omega), List.getElem?_append_right (by rw [List.length_take, List.length_drop]; omega), List.length_take, List.length_drop, List.getElem?_drop, Nat.min_eq_left (by omega)]
                              rw [show dp + n + (j - dp - n) = j by omega]
                              exact w1
                          rw [this]
                          exact w2
                      · rw [List.getElem?_eq_none (by omega), List.getElem?_eq_none (by omega)]
                        trivial
                    refine ⟨(pc, cl, ws, ch.set a (32, d1.2.take dp ++ ((d0.2.drop sp).take n ++ d1.2.drop (dp + n)))), ls, r, h1, hcf _ _ _ _ ?_, e, hl, hs5, aPutH_s hh eh hc⟩
                    simp only [amCopy, d01, d11, n1, p1, s1]
                    rw [if_pos ⟨by rw [← d02.1]; exact k1, by rw [← d12.1]; exact k2, s3, p3, n3, by omega, by omega, by rw [aRs_cat hs5]; exact k5⟩]
                  · cases e
                · cases e
              · cases e
            · cases e
          · cases e
        · cases e
      · cases e
    · cases e
  · cases e
noncomputable def aKobj (pc : Nat) : aK := fun k ls st hp => match st with
  | .inl (.ref _) :: r => (match Nat.ble (aCs r) 8 with
    | true => k pc ls r hp
    | false => false)
  | _ => false
theorem aKobj_ok {pc : Nat} {cf : amL → List Value → amH → Option amR} (hcf : ∀ ls st hp r, amObj pc ls hp st = some (.inl (r, 0, 0)) → cf ls st hp = some r) : aKok (aKobj pc) cf := by
  intro k ls st h cl cs ch e hl hs hh
  unfold aKobj at e
  split at e
  · next o r =>
    obtain ⟨w, ws, rfl, hv, hs1⟩ := aRs_cons hs
    cases hv
    split at e
    · next e1 =>
      refine ⟨(pc, cl, ws, ch), ls, r, h, hcf _ _ _ _ ?_, e, hl, hs1, hh⟩
      simp only [amObj]
      rw [if_pos (by rw [aRs_cat hs1]; exact a_le e1)]
    · cases e
  · cases e
noncomputable def aRetI (ret : Option FieldType) : List aV → Option (Option aV)
  | [.inr q] => (match ret with
    | some ty => (match aFits ty (.inr q) with
      | true => some (some (.inr q))
      | false => none)
    | none => none)
  | _ => none
noncomputable def aRetJ (ret : Option FieldType) : List aV → Option (Option aV)
  | [.inl (.long x)] => (match ret with
    | some .long => some (some (.inl (.long x)))
    | _ => none)
  | _ => none
noncomputable def aRetF (ret : Option FieldType) : List aV → Option (Option aV)
  | [.inl (.float x)] => (match ret with
    | some .float => some (some (.inl (.float x)))
    | _ => none)
  | _ => none
noncomputable def aRetD (ret : Option FieldType) : List aV → Option (Option aV)
  | [.inl (.double x)] => (match ret with
    | some .double => some (some (.inl (.double x)))
    | _ => none)
  | _ => none
noncomputable def aRetN (ret : Option FieldType) : List aV → Option (Option aV)
  | [] => (match ret with
    | none => some none
    | some _ => none)
  | _ => none
noncomputable def aTok (rt : List aV → Option (Option aV)) (cg : List Value → Option (Option Value)) : Prop := ∀ (st : List aV) (cs : List Value) (v : Option aV), rt st = some v → aRs st cs → ∃ w, cg cs = some w ∧ aRo v w
theorem aRetI_ok {ret : Option FieldType} : aTok (aRetI ret) (amRetV ret .ireturn) := by
  intro st cs v h hs
  unfold aRetI at h
  split at h
  · next q =>
    obtain ⟨w, ws, rfl, hv, hs1⟩ := aRs_cons hs
    cases aRs_nil hs1
    split at h
    · next ty =>
      split at h
      · next ef =>
        cases h
        obtain ⟨f1, -⟩ := aFits_s ef hv
        have hv0 := hv
        obtain ⟨x, rfl, -⟩ := hv
        exact ⟨some (.int x), by simp only [amRetV, f1, if_true], hv0⟩
      · cases h
    · cases h
  · cases h
theorem aRetJ_ok {ret : Option FieldType} : aTok (aRetJ ret) (amRetV ret .lreturn) := by
  intro st cs v h hs
  unfold aRetJ at h
  split at h
  · next q =>
    obtain ⟨w, ws, rfl, hv, hs1⟩ := aRs_cons hs
    cases aRs_nil hs1
    cases hv
    split at h
    · cases h; exact ⟨_, rfl, rfl⟩
    · cases h
  · cases h
theorem aRetF_ok {ret : Option FieldType} : aTok (aRetF ret) (amRetV ret .freturn) := by
  intro st cs v h hs
  unfold aRetF at h
  split at h
  · next q =>
    obtain ⟨w, ws, rfl, hv, hs1⟩ := aRs_cons hs
    cases aRs_nil hs1
    cases hv
    split at h
    · cases h; exact ⟨_, rfl, rfl⟩
    · cases h
  · cases h
theorem aRetD_ok {ret : Option FieldType} : aTok (aRetD ret) (amRetV ret .dreturn) := by
  intro st cs v h hs
  unfold aRetD at h
  split at h
  · next q =>
    obtain ⟨w, ws, rfl, hv, hs1⟩ := aRs_cons hs
    cases aRs_nil hs1
    cases hv
    split at h
    · cases h; exact ⟨_, rfl, rfl⟩
    · cases h
  · cases h
theorem aRetN_ok {ret : Option FieldType} : aTok (aRetN ret) (amRetV ret .return_) := by
  intro st cs v h hs
  unfold aRetN at h
  split at h
  · cases aRs_nil hs
    split at h
    · cases h; exact ⟨_, rfl, trivial⟩
    · cases h
  · cases h
end
/-! ##### 09.e.abs ##### -/
section
/-! ===== the abstract runs ===== -/
abbrev aX : Type := Option aV ⊕ Nat
noncomputable def aRx : aX → (Option Value ⊕ Nat) → Prop
  | .inl v, .inl w => aRo v w
  | .inr E, .inr E' => E = E'
  | _, _ => False
abbrev aAct : Type := aK ⊕ aMk ⊕ (List aV → Option (Option aV)) ⊕ Nat ⊕ (Nat × Nat)
noncomputable def aSp : Instr → Bool
  | .new _ => true
  | .newarray _ => true
  | .anewarray _ => true
  | .invokevirtual _ => true
  | .invokestatic _ => true
  | .invokespecial _ => true
  | .ireturn => true
  | .lreturn => true
  | .freturn => true
  | .dreturn => true
  | .return_ => true
  | _ => false
noncomputable def aDoS (M : amM) (i : Instr) (a b pc : Nat) : Option aAct := match i with
  | .new _ => if b = 0 then some (.inr (.inl (aMnew (pc + 3) a))) else (match M.2.2.2.2.2.1 with
    | [] => some (.inr (.inr (.inr (.inl a))))
    | _ :: _ => none)
  | .newarray t => some (.inr (.inl (aMarr (pc + 2) (amKind t))))
  | .anewarray _ => some (.inr (.inl (aMarr (pc + 3) (some (35, .null)))))
  | .invokevirtual _ => if b = 7 then none else if b = 8 then none else some (.inr (.inr (.inr (.inr (a, 0)))))
  | .invokestatic _ => if b = 6 then some (.inl (aKcopy (pc + 3))) else some (.inr (.inr (.inr (.inr (a, 1)))))
  | .invokespecial _ => if b = 5 then some (.inl (aKobj (pc + 3))) else some (.inr (.inr (.inr (.inr (a, 2)))))
  | .ireturn => some (.inr (.inr (.inl (aRetI M.2.2.2.2.1))))
  | .lreturn => some (.inr (.inr (.inl (aRetJ M.2.2.2.2.1))))
  | .freturn => some (.inr (.inr (.inl (aRetF M.2.2.2.2.1))))
  | .dreturn => some (.inr (.inr (.inl (aRetD M.2.2.2.2.1))))
  | .return_ => some (.inr (.inr (.inl (aRetN M.2.2.2.2.1))))
  | _ => none
noncomputable def aDoT (sc : Option (List aV)) (M : amM) (q : Nat × amIn1) : Option aAct := match aSp q.2.1 with
  | true => aDoS M q.2.1 q.2.2.1 q.2.2.2 q.1
  | false => (match aTr sc M.2.1 q.2.1 q.2.2.1 q.2.2.2 q.1 with
    | some act => some (.inl act)
    | none => none)
theorem amDo_step {G : Nat → Option amM} {M : amM} {sc : Option (List Int32)} {i : Instr} (h : aSp i = false) (a b pc : Nat) (ls : amL) (st : List Value) (hp : amH) : amDo G M sc i a b pc ls st hp = (amStep sc M.2.1 i a b pc ls st hp).map (fun r => .inl (r, 0, 0)) := by
  cases i <;> first | rfl | cases h
/-- the arguments: the first n of the stack, the last first -/
noncomputable def aSplit : Nat → List aV → List aV → Option (List aV × List aV)
  | 0, st, acc => some (acc, st)
  | n + 1, v :: st, acc => aSplit n st (v :: acc)
  | _ + 1, [], _ => none
theorem aSplit_s : ∀ {n : Nat} {st acc av rest : List aV}, aSplit n st acc = some (av, rest) → n ≤ st.length ∧ av = (st.take n).reverse ++ acc ∧ rest = st.drop n
  | 0, st, acc, av, rest, h => by cases h; exact ⟨Nat.zero_le _, rfl, rfl⟩
  | n + 1, v :: st, acc, av, rest, h => by
    obtain ⟨h1, h2, h3⟩ := aSplit_s (n := n) (st := st) (acc := v :: acc) h
    refine ⟨by rw [List.length_cons]; omega, ?_, by rw [h3]; rfl⟩
    rw [h2, List.take_succ_cons, List.reverse_cons, List.append_assoc]
    rfl
  | _ + 1, [], _, _, _, h => by cases h
noncomputable def aRecv (k ci : Nat) (hp : aH) : List aV → Bool
  | .inl (.ref o) :: _ => (match k with
    | 0 => (match aCell hp o with
      | some c => (match Nat.beq c.1 ci with
        | true => Nat.ble ci 31
        | false => false)
      | none => false)
    | _ + 1 => true)
  | .inl .null :: _ => Nat.beq k 1
  | .inl (.long _) :: _ => Nat.beq k 1
  | .inr _ :: _ => Nat.beq k 1
  | [] => Nat.beq k 1
  | _ => false
theorem aRecv_s {k ci : Nat} {hp : aH} {ch : amH} {av : List aV} {cav : List Value} (h : aRecv k ci hp av = true) (hs : aRs av cav) (hh : aRh hp ch) : amRecv k ci ch cav = true := by
  unfold aRecv at h
  split at h
  · next o r =>
    obtain ⟨w, ws, rfl, hv, hs1⟩ := aRs_cons hs
    cases hv
    split at h
    · split at h
      · next c ec =>
        split at h
        · next e1 =>
          obtain ⟨d, d1, d2⟩ := aCell_s hh ec
          have e3 : d.1 = ci := by rw [← d2.1]; exact Nat.eq_of_beq_eq_true e1
          have e4 : ci < 32 := Nat.lt_succ_of_le (a_le h)
          simp only [amRecv, d1, e3, e4, and_self, decide_true, if_true]
        · cases h
      · cases h
    · simp [amRecv]
  · next r =>
    obtain ⟨w, ws, rfl, hv, hs1⟩ := aRs_cons hs
    cases hv
    simp only [amRecv]
    exact decide_eq_true (Nat.eq_of_beq_eq_true h)
  · next r =>
    obtain ⟨w, ws, rfl, hv, hs1⟩ := aRs_cons hs
    cases hv
    simp only [amRecv]
    exact decide_eq_true (Nat.eq_of_beq_eq_true h)
  · next q r =>
    obtain ⟨w, ws, rfl, ⟨x, rfl, -⟩, hs1⟩ := aRs_cons hs
    simp only [amRecv]
    exact decide_eq_true (Nat.eq_of_beq_eq_true h)
  · cases aRs_nil hs
    simp only [amRecv]
    exact decide_eq_true (Nat.eq_of_beq_eq_true h)
  · cases h
noncomputable def aArgs (k : Nat) (N : amM) (ls : aL) (st : List aV) (hp : aH) : Option (List aV × List aV) := match aSplit N.2.2.1 st [] with
  | some q => (match Nat.ble (aCs q.1) N.2.1 with
    | true => (match lAll (aOkO hp.1) ls with
      | true => (match lAll (aOk hp.1) q.2 with
        | true => (match aRecv k N.2.2.2.2.2.2 hp q.1 with
          | true => (match Nat.ble (aCs q.2) 8 with
            | true => some q
            | false => none)
          | false => none)
        | false => none)
      | false => none)
    | false => none)
  | none => none
theorem aCs_app : ∀ (a b : List aV), aCs (a ++ b) = aCs a + aCs b
  | [], b => by simp [aCs]
  | v :: a, b => by
    show aCat v + aCs (a ++ b) = aCat v + aCs a + aCs b
    rw [aCs_app a b, Nat.add_assoc]
theorem aCs_rev : ∀ (a : List aV), aCs a.reverse = aCs a
  | [] => rfl
  | v :: a => by
    rw [List.reverse_cons, aCs_app, aCs_rev a]
    show aCs a + (aCat v + 0) = aCat v + aCs a
    omega
theorem aArgs_s {G : Nat → Option amM} {k a : Nat} {N : amM} {ls : aL} {st av rest : List aV} {hp : aH} {cl : amL} {cs : List Value} {ch : amH} (hG : G a = some N) (h : aArgs k N ls st hp = some (av, rest)) (hl : aRl ls cl) (hs : aRs st cs) (hh : aRh hp ch) :
    ∃ cav crest, amCall G k a cl cs ch = some (.inr (.inr (.inr (a, cav, crest)))) ∧ aRs av cav ∧ aRs rest crest := by
  unfold aArgs at h
  split at h
  · next q eq =>
    split at h
    · next e1 =>
      split at h
      · next e2 =>
        split at h
        · next e3 =>
          split at h
          · next e4 =>
            split at h
            · next e5 =>
              cases h
              obtain ⟨h1, h2, h3⟩ := aSplit_s eq
              rw [List.append_nil] at h2
              have r1 : aRs av (cs.take N.2.2.1).reverse := by rw [h2]; exact aRs_rev (aRs_take hs)
              have r2 : aRs rest (cs.drop N.2.2.1) := by rw [h3]; exact aRs_drop hs
              have c1 : ((cs.take N.2.2.1).map fun v => v.category).sum = aCs av := by rw [aRs_cat (aRs_take (n := N.2.2.1) hs), h2, aCs_rev]
              have c2 : ((cs.drop N.2.2.1).map fun v => v.category).sum = aCs rest := aRs_cat r2
              refine ⟨_, _, ?_, r1, r2⟩
              unfold amCall
              rw [hG]
              dsimp only at e1 e2 e3 e4 e5 ⊢
              rw [hh.1] at e2 e3
              rw [if_pos ⟨by rw [← aRs_len hs]; exact h1, by rw [c1]; exact a_le e1, by rw [aOkL_s e2 hl, aOkS_s e3 r2, aRecv_s e4 r1 hh]; rfl, by rw [c2]; exact a_le e5⟩]
            · cases h
          · cases h
        · cases h
      · cases h
    · cases h
  · cases h
noncomputable def aInit : Nat → List aV → aL
  | n, [] => List.replicate n none
  | n, v :: r => match Nat.beq (aCat v) 2 with
    | true => some v :: none :: aInit (Nat.sub n 2) r
    | false => some v :: aInit (Nat.sub n 1) r
theorem lAt_rep {α : Type} : ∀ (n j : Nat) (v : α), lAt (List.replicate n v) j = none ∨ lAt (List.replicate n v) j = some v
  | 0, j, v => Or.inl rfl
  | n + 1, 0, v => Or.inr rfl
  | n + 1, j + 1, v => lAt_rep n j v
theorem aInit_s : ∀ {av : List aV} {cav : List Value} {n i : Nat}, aRs av cav → (∀ k v, lGet (aInit n av) k = some v → ∃ w, amGet (lv_args i cav) (i + k) = some w ∧ aR v w) ∧ ∀ q ∈ lv_args i cav, i ≤ q.1 ∧ ∃ v, lGet (aInit n av) (q.1 - i) = some v ∧ aR v q.2
  | [], [], n, i, _ => by
    refine ⟨fun k v h => ?_, fun q hq => by cases hq⟩
    unfold aInit lGet at h
    rcases lAt_rep n k (none : Option aV) with z | z <;> rw [z] at h <;> cases h
  | v :: av, w :: cav, n, i, hs => by
    have hc := aR_cat hs.1
    unfold aInit
    split
    · next e =>
      have e := Nat.eq_of_beq_eq_true e
      obtain ⟨h1, h2⟩ := aInit_s (n := Nat.sub n 2) (i := i + 2) hs.2
      have hu : lv_args i (w :: cav) = (i, w) :: lv_args (i + 2) cav := by
        simp only [lv_args]
        rw [if_pos (by rw [hc, e])]
      rw [hu]
      refine ⟨fun k u h => ?_, fun q hq => ?_⟩
      · match k, h with
        | 0, h =>
          cases h
          exact ⟨w, by unfold amGet; exact if_pos rfl, hs.1⟩
        | 1, h => cases h
        | k + 2, h =>
          obtain ⟨x, x1, x2⟩ := h1 k u h
          refine ⟨x, ?_, x2⟩
          unfold amGet
          rw [if_neg (by dsimp only; omega), show i + (k + 2) = i + 2 + k by omega]
          exact x1
      · rcases List.mem_cons.mp hq with rfl | hq
        · exact ⟨Nat.le_refl _, v, by rw [Nat.sub_self]; rfl, hs.1⟩
        · obtain ⟨g1, u, g2, g3⟩ := h2 q hq
          refine ⟨by omega, u, ?_, g3⟩
          rw [show q.1 - i = (q.1 - (i + 2)) + 2 by omega]
          exact g2
    · next e =>
      have e := a_nbeq e
      obtain ⟨h1, h2⟩ := aInit_s (n := Nat.sub n 1) (i := i + 1) hs.2
      have hu : lv_args i (w :: cav) = (i, w) :: lv_args (i + 1) cav := by
        simp only [lv_args]
        rw [if_neg (by rw [hc]; exact e)]
      rw [hu]
      refine ⟨fun k u h => ?_, fun q hq => ?_⟩
      · match k, h with
        | 0, h =>
          cases h
          exact ⟨w, by unfold amGet; exact if_pos rfl, hs.1⟩
        | k + 1, h =>
          obtain ⟨x, x1, x2⟩ := h1 k u h
          refine ⟨x, ?_, x2⟩
          unfold amGet
          rw [if_neg (by dsimp only; omega), show i + (k + 1) = i + 1 + k by omega]
          exact x1
      · rcases List.mem_cons.mp hq with rfl | hq
        · exact ⟨Nat.le_refl _, v, by rw [Nat.sub_self]; rfl, hs.1⟩
        · obtain ⟨g1, u, g2, g3⟩ := h2 q hq
          refine ⟨by omega, u, ?_, g3⟩
          rw [show q.1 - i = (q.1 - (i + 1)) + 1 by omega]
          exact g2
  | [], _ :: _, _, _, h => by cases h
  | _ :: _, [], _, _, h => by cases h
theorem aInit_l {av : List aV} {cav : List Value} {n : Nat} (hs : aRs av cav) : aRl (aInit n av) (lv_args 0 cav) := by
  obtain ⟨h1, h2⟩ := aInit_s (n := n) (i := 0) hs
  exact ⟨fun k v e => by have := h1 k v e; rwa [Nat.zero_add] at this, fun q hq => (h2 q hq).2⟩
noncomputable def aSeek : amP → Nat → amP
  | [], _ => []
  | q :: r, pc => match Nat.beq q.1 pc with
    | true => q :: r
    | false => aSeek r pc
theorem aSeek_eq : ∀ (cs : amP) (pc : Nat), aSeek cs pc = amSeek cs pc
  | [], _ => rfl
  | q :: r, pc => by
    unfold aSeek amSeek
    rw [List.dropWhile_cons]
    split
    · next e =>
      have e := Nat.eq_of_beq_eq_true e
      rw [if_neg (by simp [e])]
    · next e =>
      have e := a_nbeq e
      rw [if_pos (by simpa using e)]
      exact aSeek_eq r pc
noncomputable def aNext (M : amM) (cs : amP) (pc : Nat) : amP := match cs with
  | q :: r => (match Nat.beq q.1 pc with
    | true => q :: r
    | false => aSeek M.1 pc)
  | [] => aSeek M.1 pc
theorem aNext_eq (M : amM) (cs : amP) (pc : Nat) : aNext M cs pc = amNext M cs pc := by
  unfold aNext amNext
  split
  · next q r =>
    dsimp only
    split
    · next e => rw [if_pos (Nat.eq_of_beq_eq_true e)]
    · next e => rw [if_neg (a_nbeq e), aSeek_eq]
  · exact aSeek_eq _ _
theorem aNext_suf {M : amM} {cs : amP} {pc : Nat} (h : cs <:+ M.1) : aNext M cs pc <:+ M.1 := by
  have hs : aSeek M.1 pc <:+ M.1 := by
    rw [aSeek_eq]
    exact List.dropWhile_suffix _
  unfold aNext
  split
  · split
    · exact h
    · exact hs
  · exact hs
noncomputable def aCons : Option aV → List aV → List aV
  | some v, r => v :: r
  | none, r => r
theorem aCons_s {v : Option aV} {w : Option Value} {r : List aV} {cr : List Value} (h : aRo v w) (hr : aRs r cr) : aRs (aCons v r) (w.toList ++ cr) := by
  cases v with
  | none => cases w with
    | none => exact hr
    | some w => cases h
  | some v => cases w with
    | none => cases h
    | some w => exact ⟨h, hr⟩
noncomputable def aStop : Option Nat → Nat → Bool
  | some p, pc => Nat.beq pc p
  | none, _ => false
/-- a run with bounds: whatever comes of it, K says yes to it (KS, where it stops at sp) -/
noncomputable def aRun (G : Nat → Option amM) (KS : Nat → aL → List aV → aH → Nat → Nat → Bool) : Nat → Option (List aV) → Option Nat → Nat → amM → amP → Nat → aL → List aV → aH → Nat → Nat → (aX → aH → Nat → Nat → Bool) → Bool
  | 0, _, _, _, _, _, _, _, _, _, _, _, _ => false
  | _ + 1, _, _, _, _, [], _, _, _, _, _, _, _ => false
  | f + 1, sc, sp, d, M, q :: cs, pc, ls, st, hp, kc, ks, K => match Nat.beq q.1 pc with
    | false => false
    | true => (match aStop sp pc with
      | true => KS (f + 1) ls st hp kc ks
      | false => (match aDoT sc M q with
        | none => false
        | some (.inl act) => act (fun pc1 ls1 st1 hp1 => aRun G KS f sc sp d M (aNext M cs pc1) pc1 ls1 st1 hp1 kc ks K) ls st hp
        | some (.inr (.inl act)) => act (fun pc1 ls1 st1 hp1 dk ds => aRun G KS f sc sp d M (aNext M cs pc1) pc1 ls1 st1 hp1 (Nat.add kc dk) (Nat.add ks ds) K) ls st hp
        | some (.inr (.inr (.inl rt))) => (match rt st with
          | some v => K (.inl v) hp kc ks
          | none => false)
        | some (.inr (.inr (.inr (.inl E)))) => (match Nat.ble (aCs st) 8 with
          | true => K (.inr E) hp (Nat.add kc 1) (Nat.add ks 6)
          | false => false)
        | some (.inr (.inr (.inr (.inr o)))) => (match d with
          | 0 => false
          | d' + 1 => (match G o.1 with
            | none => false
            | some N => (match aArgs o.2 N ls st hp with
              | none => false
              | some ar => aRun G KS f none none d' N N.1 0 (aInit N.2.1 ar.1) [] hp 0 0 (fun x hp1 mc ms => match x with
                | .inl v => aRun G KS f sc sp (d' + 1) M (aNext M cs (Nat.add pc 3)) (Nat.add pc 3) ls (aCons v ar.2) hp1 (Nat.add kc mc) (Nat.add ks ms) K
                | .inr E => (match amMay q.2.1 q.2.2.2 with
                  | false => false
                  | true => (match M.2.2.2.2.2.1 with
                    | [] => K (.inr E) hp1 (Nat.add kc mc) (Nat.add ks ms)
                    | h :: hs => (match amHand (h :: hs) pc E with
                      | some (_, y, to) => (match aDrop ls y with
                        | some l1 => aRun G KS f sc sp (d' + 1) M (aSeek M.1 to) to l1 [] hp1 (Nat.add kc mc) (Nat.add ks ms) K
                        | none => false)
                      | none => false)))))))))
/-! ===== the abstract runs are sound ===== -/
noncomputable def amU (x : Option amAct) : Option amR := match x with
  | some (.inl (r, 0, 0)) => some r
  | _ => none
theorem amU_s {x : Option amAct} {r : amR} (h : amU x = some r) : x = some (.inl (r, 0, 0)) := by
  unfold amU at h
  split at h
  · cases h; rfl
  · cases h
theorem aDoS_k {G : Nat → Option amM} {M : amM} {sc : Option (List Int32)} {i : Instr} {a b pc : Nat} {act : aK} (h : aDoS M i a b pc = some (.inl act)) : aKok act (fun ls st hp => amU (amDo G M sc i a b pc ls st hp)) := by
  cases i
  case invokevirtual n =>
    simp only [aDoS] at h
    split at h
    · cases h
    · split at h <;> cases h
  case invokestatic n =>
    simp only [aDoS] at h
    split at h
    · next e =>
      cases h
      refine aKcopy_ok (fun ls st hp r hc => ?_)
      simp only [amDo, if_pos e, hc]
      rfl
    · cases h
  case invokespecial n =>
    simp only [aDoS] at h
    split at h
    · next e =>
      cases h
      refine aKobj_ok (fun ls st hp r hc => ?_)
      simp only [amDo, if_pos e, hc]
      rfl
    · cases h
  case new n =>
    simp only [aDoS] at h
    split at h
    · cases h
    · split at h <;> cases h
  all_goals (cases h)
theorem aDoS_m {G : Nat → Option amM} {M : amM} {sc : Option (List Int32)} {i : Instr} {a b pc : Nat} {act : aMk} (h : aDoS M i a b pc = some (.inr (.inl act))) : aMok act (fun ls st hp => amDo G M sc i a b pc ls st hp) := by
  cases i
  case invokevirtual n =>
    simp only [aDoS] at h
    split at h
    · cases h
    · split at h <;> cases h
  case invokestatic n =>
    simp only [aDoS] at h
    split at h <;> cases h
  case invokespecial n =>
    simp only [aDoS] at h
    split at h <;> cases h
  case new n =>
    simp only [aDoS] at h
    split at h
    · next e =>
      cases h
      have : (fun ls st hp => amDo G M sc (.new n) a b pc ls st hp) = fun ls st hp => amMake (pc + 3) ls st hp (a, amDef a) := by
        funext ls st hp
        simp only [amDo, if_pos e]
      rw [this]
      exact aMnew_ok
    · split at h <;> cases h
  case newarray t => cases h; exact aMarr_ok
  case anewarray t => cases h; exact aMarr_ok
  all_goals (cases h)
theorem aDoS_r {G : Nat → Option amM} {M : amM} {sc : Option (List Int32)} {i : Instr} {a b pc : Nat} {rt : List aV → Option (Option aV)} (h : aDoS M i a b pc = some (.inr (.inr (.inl rt)))) {st : List aV} {cs : List Value} {v : Option aV} (e : rt st = some v) (hs : aRs st cs) : ∃ w, aRo v w ∧ ∀ ls hp, amDo G M sc i a b pc ls cs hp = some (.inr (.inl w)) := by
  cases i
  case invokevirtual n =>
    simp only [aDoS] at h
    split at h
    · cases h
    · split at h <;> cases h
  case invokestatic n =>
    simp only [aDoS] at h
    split at h <;> cases h
  case invokespecial n =>
    simp only [aDoS] at h
    split at h <;> cases h
  case new n =>
    simp only [aDoS] at h
    split at h
    · cases h
    · split at h <;> cases h
  case ireturn => cases h; obtain ⟨w, w1, w2⟩ := aRetI_ok st cs v e hs; exact ⟨w, w2, fun ls hp => by simp only [amDo, w1]; rfl⟩
  case lreturn => cases h; obtain ⟨w, w1, w2⟩ := aRetJ_ok st cs v e hs; exact ⟨w, w2, fun ls hp => by simp only [amDo, w1]; rfl⟩
  case freturn => cases h; obtain ⟨w, w1, w2⟩ := aRetF_ok st cs v e hs; exact ⟨w, w2, fun ls hp => by simp only [amDo, w1]; rfl⟩
  case dreturn => cases h; obtain ⟨w, w1, w2⟩ := aRetD_ok st cs v e hs; exact ⟨w, w2, fun ls hp => by simp only [amDo, w1]; rfl⟩
  case return_ => cases h; obtain ⟨w, w1, w2⟩ := aRetN_ok st cs v e hs; exact ⟨w, w2, fun ls hp => by simp only [amDo, w1]; rfl⟩
  all_goals (cases h)
theorem aDoS_t {G : Nat → Option amM} {M : amM} {sc : Option (List Int32)} {i : Instr} {a b pc E : Nat} (h : aDoS M i a b pc = some (.inr (.inr (.inr (.inl E))))) {st : List aV} {cs : List Value} (e : aCs st ≤ 8) (hs : aRs st cs) (ls : amL) (hp : amH) : amDo G M sc i a b pc ls cs hp = some (.inr (.inr (.inl E))) := by
  cases i
  case invokevirtual n =>
    simp only [aDoS] at h
    split at h
    · cases h
    · split at h <;> cases h
  case invokestatic n =>
    simp only [aDoS] at h
    split at h <;> cases h
  case invokespecial n =>
    simp only [aDoS] at h
    split at h <;> cases h
  case new n =>
    simp only [aDoS] at h
    split at h
    · cases h
    · next e0 =>
      split at h
      · next e1 =>
        cases h
        simp only [amDo, if_neg e0]
        rw [if_pos ⟨by rw [aRs_cat hs]; exact e, e1⟩]
      · cases h
  all_goals (cases h)
theorem aDoS_c {G : Nat → Option amM} {M : amM} {sc : Option (List Int32)} {i : Instr} {a b pc : Nat} {o : Nat × Nat} (h : aDoS M i a b pc = some (.inr (.inr (.inr (.inr o))))) (ls : amL) (cs : List Value) (hp : amH) : amDo G M sc i a b pc ls cs hp = amCall G o.2 o.1 ls cs hp := by
  cases i
  case invokestatic n =>
    simp only [aDoS] at h
    split at h
    · cases h
    · next e => cases h; simp only [amDo, if_neg e]
  case invokespecial n =>
    simp only [aDoS] at h
    split at h
    · cases h
    · next e => cases h; simp only [amDo, if_neg e]
  case invokevirtual n =>
    simp only [aDoS] at h
    split at h
    · cases h
    · next e7 =>
      split at h
      · cases h
      · next e8 => cases h; simp only [amDo, if_neg e7, if_neg e8]
  case new n =>
    simp only [aDoS] at h
    split at h
    · cases h
    · split at h <;> cases h
  all_goals (cases h)
theorem aDoT_k {G : Nat → Option amM} {M : amM} {sc' : Option (List aV)} {sc : Option (List Int32)} (hsc : aRsc sc' sc) {q : Nat × amIn1} {act : aK} (h : aDoT sc' M q = some (.inl act)) {k : Nat → aL → List aV → aH → Bool} {ls : aL} {st : List aV} {hp : aH} {cl : amL} {cs : List Value} {ch : amH} (e : act k ls st hp = true) (hl : aRl ls cl) (hs : aRs st cs) (hh : aRh hp ch) :
    ∃ (r : amR) (ls' : aL) (st' : List aV) (hp' : aH), amDo G M sc q.2.1 q.2.2.1 q.2.2.2 q.1 cl cs ch = some (.inl (r, 0, 0)) ∧ k r.1 ls' st' hp' = true ∧ aRl ls' r.2.1 ∧ aRs st' r.2.2.1 ∧ aRh hp' r.2.2.2 := by
  unfold aDoT at h
  split at h
  · obtain ⟨r, ls', st', hp', h1, h2⟩ := aDoS_k (G := G) (sc := sc) h k ls st hp cl cs ch e hl hs hh
    exact ⟨r, ls', st', hp', amU_s h1, h2⟩
  · next e0 =>
    split at h
    · next act' e1 =>
      cases h
      obtain ⟨r, ls', st', hp', h1, h2⟩ := aTr_ok hsc e1 k ls st hp cl cs ch e hl hs hh
      exact ⟨r, ls', st', hp', by rw [amDo_step e0, h1]; rfl, h2⟩
    · cases h
theorem aDoT_s {M : amM} {sc' : Option (List aV)} {q : Nat × amIn1} {z : aMk ⊕ (List aV → Option (Option aV)) ⊕ Nat ⊕ (Nat × Nat)} (h : aDoT sc' M q = some (.inr z)) : aDoS M q.2.1 q.2.2.1 q.2.2.2 q.1 = some (.inr z) := by
  unfold aDoT at h
  split at h
  · exact h
  · split at h <;> cases h
noncomputable def aFin (G : Nat → Option amM) (K : aX → aH → Nat → Nat → Bool) (R : Option amRes) : Prop := ∃ (x : aX) (ah : aH) (mc ms : Nat) (y : Option Value ⊕ Nat) (h : amH), R = some (y, h, mc, ms) ∧ aRx x y ∧ aRh ah h ∧ K x ah mc ms = true
end
/-! ##### 09a.words ##### -/
section
/-! ===== the words of the throws ===== -/
/-- where TripleTrains links the constructors of its exceptions -/
noncomputable def amXic : List Nat := [145, 191, 206, 283]
theorem am_x0 : ∀ w ∈ vx_atS "TripleTrains" 145 "java/lang/IllegalArgumentException" amXn, vx_ot w = true ∧ w ∈ lw_tbl ∧ (goodWord w = true ∨ (amNk w = true ∧ w.onTables = true)) := yzBoth (I := [142, 1000, 1009, 1014, 1017, 1019, 1001, 1002, 156, 157, 1003, 1008, 1015, 1035, 990, 1036, 992, 1037, 994, 1004, 1006, 996, 1031, 1032, 1034, 996, 1022, 1023, 1024, 1025, 982, 1025, 1026, 1027, 1028, 984, 1028, 1029, 1030, 1031, 986, 1021, 979, 980, 987, 988, 989, 991, 993, 995, 999, 998, 997]) (by decide +kernel) (by decide +kernel)
theorem am_x1 : ∀ w ∈ vx_atS "TripleTrains" 191 "java/lang/IndexOutOfBoundsException" amXn, vx_ot w = true ∧ w ∈ lw_tbl ∧ (goodWord w = true ∨ (amNk w = true ∧ w.onTables = true)) := yzBoth (I := [142, 1000, 1009, 1014, 1017, 1019, 1001, 1002, 156, 157, 1003, 1008, 1015, 1035, 990, 1036, 992, 1037, 994, 1004, 1006, 996, 1031, 1032, 1034, 996, 1069, 1070, 1071, 1025, 982, 1025, 1026, 1027, 1028, 984, 1028, 1029, 1030, 1031, 986, 1068, 1059, 1060, 1061, 1012, 1062, 1063, 1064, 1065, 999, 998, 1066]) (by decide +kernel) (by decide +kernel)
theorem am_x2 : ∀ w ∈ vx_atS "TripleTrains" 206 "java/lang/IllegalStateException" amXn, vx_ot w = true ∧ w ∈ lw_tbl ∧ (goodWord w = true ∨ (amNk w = true ∧ w.onTables = true)) := yzBoth (I := [142, 1000, 1009, 1014, 1017, 1019, 1001, 1002, 156, 157, 1003, 1008, 1015, 1035, 990, 1036, 992, 1037, 994, 1004, 1006, 996, 1031, 1032, 1034, 996, 1156, 1157, 1158, 1025, 982, 1025, 1026, 1027, 1028, 984, 1028, 1029, 1030, 1031, 986, 1155, 1146, 1147, 1148, 1011, 1149, 1150, 1151, 1152, 999, 998, 1153]) (by decide +kernel) (by decide +kernel)
theorem am_fit : ∀ n ∈ amEx, Bundle.fit n = true := by decide +kernel
end
