/-! ===== the abstract runs: making, calling, ending ===== -/
def lAll {α : Type} (p : α → Bool) : List α → Bool
  | [] => true
  | v :: r => match p v with
    | true => lAll p r
    | false => false
theorem lAll_s {α : Type} {p : α → Bool} : ∀ {l : List α} {i : Nat} {v : α}, lAll p l = true → lAt l i = some v → p v = true
  | [], _, _, _, h => by simp [lAt] at h
  | a :: r, 0, v, h, e => by
    simp only [lAt, Option.some.injEq] at e
    subst e
    unfold lAll at h
    split at h
    · next h1 => exact h1
    · cases h
  | a :: r, i + 1, v, h, e => by
    unfold lAll at h
    split at h
    · exact lAll_s h e
    · cases h
theorem cAll_s {α : Type} {p : α → Bool} : ∀ {l : List (List α)} {i : Nat} {v : α}, lAll (lAll p) l = true → cGet l i = some v → p v = true
  | [], _, _, _, h => by cases h
  | a :: r, i, v, h, e => by
    unfold lAll at h
    split at h
    · next h1 =>
      unfold cGet at e
      split at e
      · exact lAll_s h1 e
      · exact cAll_s h e
    · cases h
def aOk (n : Nat) : aV → Bool
  | .inr _ => true
  | .inl (.ref i) => (match Nat.ble (Nat.add i 1) n with
    | true => true
    | false => Nat.ble 1000000 i)
  | .inl _ => true
theorem aOk_s {n : Nat} {v : aV} {w : Value} (h : aOk n v = true) (hv : aR v w) : amOk n w = true := by
  cases v with
  | inr q => obtain ⟨x, rfl, -⟩ := hv; rfl
  | inl v =>
    cases hv
    cases w <;> first | rfl | skip
    next i =>
      simp only [aOk] at h
      simp only [amOk, Bool.or_eq_true, decide_eq_true_eq]
      split at h
      · next e => exact Or.inl (a_lt1 e)
      · next e => exact Or.inr (a_le h)
def aOkO (n : Nat) : Option aV → Bool
  | some v => aOk n v
  | none => true
theorem aOkL_s {n : Nat} {ls : aL} {cl : amL} (h : lAll (aOkO n) ls = true) (hl : aRl ls cl) : amOkL n cl = true := by
  refine List.all_eq_true.mpr (fun q hq => ?_)
  obtain ⟨v, e1, e2⟩ := hl.2 q hq
  unfold lGet at e1
  split at e1
  · next o eo =>
    subst e1
    exact aOk_s (lAll_s h eo : aOkO n (some v) = true) e2
  · cases e1
theorem aOkS_s {n : Nat} : ∀ {st : List aV} {cs : List Value}, lAll (aOk n) st = true → aRs st cs → amOkS n cs = true
  | [], [], _, _ => rfl
  | v :: st, w :: cs, h, hs => by
    unfold lAll at h
    split at h
    · next e =>
      have := aOkS_s h hs.2
      simp only [amOkS, List.all_cons, Bool.and_eq_true] at this ⊢
      exact ⟨aOk_s e hs.1, this⟩
    · cases h
  | [], _ :: _, _, h => by cases h
  | _ :: _, [], _, h => by cases h
def aOkC (n : Nat) (c : aC) : Bool := match Nat.ble 32 c.1 with
  | true => (match Nat.ble c.1 34 with
    | true => true
    | false => lAll (lAll (aOk n)) c.2.2)
  | false => lAll (lAll (aOk n)) c.2.2
theorem aOkC_s {n : Nat} {c : aC} {d : amC} (h : aOkC n c = true) (hc : aRc c d) : ((decide (32 ≤ d.1) && decide (d.1 ≤ 34)) || d.2.all (amOk n)) = true := by
  have key : lAll (lAll (aOk n)) c.2.2 = true → d.2.all (amOk n) = true := by
    intro h
    refine List.all_eq_true.mpr (fun w hw => ?_)
    obtain ⟨i, hi, e⟩ := List.getElem_of_mem hw
    have e1 := hc.2.2 i
    rw [List.getElem?_eq_getElem hi, e] at e1
    cases e2 : cGet c.2.2 i with
    | none => rw [e2] at e1; cases e1
    | some v => rw [e2] at e1; exact aOk_s (cAll_s h e2) e1
  unfold aOkC at h
  rw [Bool.or_eq_true]
  split at h
  · next e1 =>
    split at h
    · next e2 =>
      left
      rw [Bool.and_eq_true, decide_eq_true_eq, decide_eq_true_eq, ← hc.1]
      exact ⟨a_le e1, a_le e2⟩
    · exact Or.inr (key h)
  · exact Or.inr (key h)
theorem aOkH_s {n : Nat} {h : aH} {ch : amH} (hk : lAll (lAll (aOkC n)) h.2 = true) (hh : aRh h ch) : amOkH n ch = true := by
  refine List.all_eq_true.mpr (fun d hd => ?_)
  obtain ⟨i, hi, e⟩ := List.getElem_of_mem hd
  obtain ⟨c, d', e1, e2, e3⟩ := hh.2 i hi
  rw [List.getElem?_eq_getElem hi, e] at e2
  cases e2
  exact aOkC_s (cAll_s hk e1) e3
abbrev aMk : Type := (Nat → aL → List aV → aH → Nat → Nat → Bool) → aL → List aV → aH → Bool
def aMok (act : aMk) (cf : amL → List Value → amH → Option amAct) : Prop :=
  ∀ (k : Nat → aL → List aV → aH → Nat → Nat → Bool) (ls : aL) (st : List aV) (hp : aH) (cl : amL) (cs : List Value) (ch : amH), act k ls st hp = true → aRl ls cl → aRs st cs → aRh hp ch →
    ∃ (r : amR) (dk ds : Nat) (ls' : aL) (st' : List aV) (hp' : aH), cf cl cs ch = some (.inl (r, dk, ds)) ∧ k r.1 ls' st' hp' dk ds = true ∧ aRl ls' r.2.1 ∧ aRs st' r.2.2.1 ∧ aRh hp' r.2.2.2
def aMake (pc : Nat) (k : Nat → aL → List aV → aH → Nat → Nat → Bool) (ls : aL) (r : List aV) (hp : aH) (c : aC) : Bool :=
  match lAll (aOkO hp.1) ls with
  | true => (match lAll (aOk hp.1) r with
    | true => (match lAll (lAll (aOkC hp.1)) hp.2 with
      | true => (match Nat.ble (Nat.add hp.1 1) 1000000 with
        | true => (match aNewH hp c with
          | some h1 => k pc ls (.inl (.ref hp.1) :: r) h1 1 c.2.1
          | none => false)
        | false => false)
      | false => false)
    | false => false)
  | false => false
theorem aMake_s {pc : Nat} {k : Nat → aL → List aV → aH → Nat → Nat → Bool} {ls : aL} {r : List aV} {hp : aH} {c : aC} {cl : amL} {cr : List Value} {ch : amH} {d : amC} (e : aMake pc k ls r hp c = true) (hl : aRl ls cl) (hr : aRs r cr) (hh : aRh hp ch) (hc : aRc c d) :
    ∃ (z : amR) (dk ds : Nat) (ls' : aL) (st' : List aV) (hp' : aH), amMake pc cl cr ch d = some (.inl (z, dk, ds)) ∧ k z.1 ls' st' hp' dk ds = true ∧ aRl ls' z.2.1 ∧ aRs st' z.2.2.1 ∧ aRh hp' z.2.2.2 := by
  unfold aMake at e
  split at e
  · next e1 =>
    split at e
    · next e2 =>
      split at e
      · next e3 =>
        split at e
        · next e4 =>
          split at e
          · next h1 e5 =>
            have g4 := a_lt1 e4
            rw [hh.1] at e1 e2 e3 g4
            rw [hc.2.1, hh.1] at e
            refine ⟨(pc, cl, .ref ch.length :: cr, ch ++ [d]), 1, d.2.length, ls, .inl (.ref ch.length) :: r, h1, ?_, e, hl, ⟨rfl, hr⟩, aNewH_s hh e5 hc⟩
            unfold amMake
            rw [aOkL_s e1 hl, aOkS_s e2 hr, aOkH_s e3 hh, decide_eq_true (show ch.length < amK from g4)]
            rfl
          · cases e
        · cases e
      · cases e
    · cases e
  · cases e
theorem aMk_map {l : List Value} {k : Nat} (h : l.length ≤ 16 * k) (j : Nat) : aRo (cGet (cMk k (l.map aOfV)) j) (l[j]?) := by
  rw [cMk_s k _ j (by rw [List.length_map]; exact h), List.getElem?_map]
  cases l[j]? with
  | none => trivial
  | some v => exact aOfV_s v
def aMnew (pc a : Nat) : aMk := fun k ls st hp => match Nat.ble (amDef a).length 128 with
  | true => aMake pc k ls st hp (a, (amDef a).length, cMk 8 ((amDef a).map aOfV))
  | false => false
theorem aMnew_ok {pc a : Nat} : aMok (aMnew pc a) (fun ls st hp => amMake pc ls st hp (a, amDef a)) := by
  intro k ls st h cl cs ch e hl hs hh
  unfold aMnew at e
  split at e
  · next e1 => exact aMake_s e hl hs hh ⟨rfl, rfl, fun j => aMk_map (by have := a_le e1; omega) j⟩
  · cases e
def aMarr (pc : Nat) (kd : Option (Nat × Value)) : aMk := fun k ls st hp => match st with
  | .inr q :: r => (match kd with
    | some (t, v) => (match aIdx q with
      | some n => (match Nat.ble n 8192 with
        | true => aMake pc k ls r hp (t, n, cMk (n / 16 + 1) (List.replicate n (aOfV v)))
        | false => false)
      | none => false)
    | none => false)
  | _ => false
theorem aMarr_ok {pc : Nat} {kd : Option (Nat × Value)} : aMok (aMarr pc kd) (fun ls st hp => amMakeA pc ls hp kd st) := by
  intro k ls st h cl cs ch e hl hs hh
  unfold aMarr at e
  split at e
  · next q r =>
    obtain ⟨w, ws, rfl, ⟨x, rfl, hx⟩, hs1⟩ := aRs_cons hs
    split at e
    · next t v =>
      split at e
      · next n en =>
        split at e
        · next e1 =>
          have g1 := a_le e1
          obtain ⟨i1, i2⟩ := aIdx_s (m := n + 1) en hx
          have i3 := (amIn_s (i2 (Nat.lt_succ_self n)))
          have i4 : ¬ x < 0 := fun z => of_decide_eq_true (i2 (Nat.lt_succ_self n)) (Or.inl z)
          obtain ⟨z, dk, ds, ls', st', hp', m1, m2⟩ := aMake_s (d := (t, List.replicate n v)) e hl hs1 hh ⟨rfl, by simp, fun j => by
            have := aMk_map (l := List.replicate n v) (k := n / 16 + 1) (by rw [List.length_replicate]; omega) j
            rwa [List.map_replicate] at this⟩
          refine ⟨z, dk, ds, ls', st', hp', ?_, m2⟩
          dsimp only
          simp only [amMakeA, i1]
          rw [if_pos ⟨i4, by omega⟩]
          exact m1
        · cases e
      · cases e
    · cases e
  · cases e
def aBld (g : Nat → Option aV) : Nat → List aV → Option (List aV)
  | 0, acc => some acc
  | n + 1, acc => match g n with
    | some v => aBld g n (v :: acc)
    | none => none
theorem aBld_s {g : Nat → Option aV} : ∀ {n : Nat} {acc l : List aV}, aBld g n acc = some l → l.length = n + acc.length ∧ (∀ j, j < n → ∃ v, g j = some v ∧ l[j]? = some v) ∧ ∀ j, l[n + j]? = acc[j]?
  | 0, acc, l, h => by
    cases h
    exact ⟨by omega, fun j hj => absurd hj (Nat.not_lt_zero _), fun j => by rw [Nat.zero_add]⟩
  | n + 1, acc, l, h => by
    unfold aBld at h
    split at h
    · next v e =>
      obtain ⟨h1, h2, h3⟩ := aBld_s h
      refine ⟨by rw [h1, List.length_cons]; omega, fun j hj => ?_, fun j => ?_⟩
      · by_cases z : j = n
        · subst z
          have := h3 0
          exact ⟨v, e, by simpa using this⟩
        · exact h2 j (by omega)
      · have := h3 (j + 1)
        rw [show n + 1 + j = n + (j + 1) by omega, this, List.getElem?_cons_succ]
    · cases h
def aKcopy (pc : Nat) : aK := fun k ls st hp => match st with
  | .inr qn :: .inr qd :: .inl (.ref a) :: .inr qs :: .inl (.ref a0) :: r => (match aIdx qn with
    | some n => (match aIdx qd with
      | some dp => (match aIdx qs with
        | some sp => (match aCell hp a0 with
          | some c0 => (match aCell hp a with
            | some c1 => if c0.1 = 32 ∧ c1.1 = 32 ∧ sp + n ≤ c0.2.1 ∧ dp + n ≤ c1.2.1 ∧ aCs r ≤ 8 then
                (match aBld (fun j => if dp ≤ j ∧ j < dp + n then cGet c0.2.2 (sp + (j - dp)) else cGet c1.2.2 j) c1.2.1 [] with
                | some l => (match aPutH hp a (32, c1.2.1, cMk (c1.2.1 / 16 + 1) l) with
                  | some h1 => k pc ls r h1
                  | none => false)
                | none => false) else false
            | none => false)
          | none => false)
        | none => false)
      | none => false)
    | none => false)
  | _ => false
theorem aKcopy_ok {pc : Nat} {cf : amL → List Value → amH → Option amR} (hcf : ∀ ls st hp r, amCopy pc ls hp st = some (.inl (r, 0, 0)) → cf ls st hp = some r) : aKok (aKcopy pc) cf := by
  intro k ls st h cl cs ch e hl hs hh
  unfold aKcopy at e
  split at e
  · next qn qd a qs a0 r =>
    obtain ⟨w, ws, rfl, ⟨xn, rfl, hxn⟩, hs1⟩ := aRs_cons hs
    obtain ⟨w1, ws, rfl, ⟨xd, rfl, hxd⟩, hs2⟩ := aRs_cons hs1
    obtain ⟨w2, ws, rfl, hv2, hs3⟩ := aRs_cons hs2
    obtain ⟨w3, ws, rfl, ⟨xs, rfl, hxs⟩, hs4⟩ := aRs_cons hs3
    obtain ⟨w4, ws, rfl, hv4, hs5⟩ := aRs_cons hs4
    cases hv2
    cases hv4
    split at e
    · next n en =>
      split at e
      · next dp ed =>
        split at e
        · next sp es =>
          split at e
          · next c0 ec0 =>
            split at e
            · next c1 ec1 =>
              split at e
              · next ck =>
                split at e
                · next l el =>
                  split at e
                  · next h1 eh =>
                    obtain ⟨k1, k2, k3, k4, k5⟩ := ck
                    obtain ⟨d0, d01, d02⟩ := aCell_s hh ec0
                    obtain ⟨d1, d11, d12⟩ := aCell_s hh ec1
                    obtain ⟨n1, n2⟩ := aIdx_s (m := n + 1) en hxn
                    obtain ⟨p1, p2⟩ := aIdx_s (m := dp + 1) ed hxd
                    obtain ⟨s1, s2⟩ := aIdx_s (m := sp + 1) es hxs
                    have n3 : ¬ xn < 0 := fun z => of_decide_eq_true (n2 (Nat.lt_succ_self n)) (Or.inl z)
                    have p3 : ¬ xd < 0 := fun z => of_decide_eq_true (p2 (Nat.lt_succ_self dp)) (Or.inl z)
                    have s3 : ¬ xs < 0 := fun z => of_decide_eq_true (s2 (Nat.lt_succ_self sp)) (Or.inl z)
                    obtain ⟨b1, b2, b3⟩ := aBld_s el
                    have hl0 : c0.2.1 = d0.2.length := d02.2.1
                    have hl1 : c1.2.1 = d1.2.length := d12.2.1
                    have b1 : l.length = c1.2.1 := b1
                    have hlen : (d1.2.take dp ++ ((d0.2.drop sp).take n ++ d1.2.drop (dp + n))).length = d1.2.length := by
                      simp only [List.length_append, List.length_take, List.length_drop]
                      omega
                    have hc : aRc (32, c1.2.1, cMk (c1.2.1 / 16 + 1) l) (32, d1.2.take dp ++ ((d0.2.drop sp).take n ++ d1.2.drop (dp + n))) := by
                      refine ⟨rfl, by rw [hlen]; exact hl1, fun j => ?_⟩
                      dsimp only
                      rw [cMk_s _ l j (by omega)]
                      by_cases hj : j < c1.2.1
                      · obtain ⟨v, v1, v2⟩ := b2 j hj
                        rw [v2]
                        split at v1
                        · next g =>
                          obtain ⟨w, w1, w2⟩ := aRc_get d02 v1
                          have : (d1.2.take dp ++ ((d0.2.drop sp).take n ++ d1.2.drop (dp + n)))[j]? = some w := by
                            rw [List.getElem?_append_right (by rw [List.length_take]; omega), List.length_take, Nat.min_eq_left (by omega), List.getElem?_append_left (by rw [List.length_take, List.length_drop]; omega), List.getElem?_take, if_pos (by omega), List.getElem?_drop]
                            exact w1
                          rw [this]
                          exact w2
                        · next g =>
                          obtain ⟨w, w1, w2⟩ := aRc_get d12 v1
                          have : (d1.2.take dp ++ ((d0.2.drop sp).take n ++ d1.2.drop (dp + n)))[j]? = some w := by
                            by_cases gj : j < dp
                            · rw [List.getElem?_append_left (by rw [List.length_take]; omega), List.getElem?_take, if_pos gj]
                              exact w1
                            · rw [List.getElem?_append_right (by rw [List.length_take]; omega), List.length_take, Nat.min_eq_left (by omega), List.getElem?_append_right (by rw [List.length_take, List.length_drop]; omega), List.length_take, List.length_drop, List.getElem?_drop, Nat.min_eq_left (by omega)]
                              rw [show dp + n + (j - dp - n) = j by omega]
                              exact w1
                          rw [this]
                          exact w2
                      · rw [List.getElem?_eq_none (by omega), List.getElem?_eq_none (by omega)]
                        trivial
                    refine ⟨(pc, cl, ws, ch.set a (32, d1.2.take dp ++ ((d0.2.drop sp).take n ++ d1.2.drop (dp + n)))), ls, r, h1, hcf _ _ _ _ ?_, e, hl, hs5, aPutH_s hh eh hc⟩
                    simp only [amCopy, d01, d11, n1, p1, s1]
                    rw [if_pos ⟨by rw [← d02.1]; exact k1, by rw [← d12.1]; exact k2, s3, p3, n3, by omega, by omega, by rw [aRs_cat hs5]; exact k5⟩]
                  · cases e
                · cases e
              · cases e
            · cases e
          · cases e
        · cases e
      · cases e
    · cases e
  · cases e
def aKobj (pc : Nat) : aK := fun k ls st hp => match st with
  | .inl (.ref _) :: r => (match Nat.ble (aCs r) 8 with
    | true => k pc ls r hp
    | false => false)
  | _ => false
theorem aKobj_ok {pc : Nat} {cf : amL → List Value → amH → Option amR} (hcf : ∀ ls st hp r, amObj pc ls hp st = some (.inl (r, 0, 0)) → cf ls st hp = some r) : aKok (aKobj pc) cf := by
  intro k ls st h cl cs ch e hl hs hh
  unfold aKobj at e
  split at e
  · next o r =>
    obtain ⟨w, ws, rfl, hv, hs1⟩ := aRs_cons hs
    cases hv
    split at e
    · next e1 =>
      refine ⟨(pc, cl, ws, ch), ls, r, h, hcf _ _ _ _ ?_, e, hl, hs1, hh⟩
      simp only [amObj]
      rw [if_pos (by rw [aRs_cat hs1]; exact a_le e1)]
    · cases e
  · cases e
def aRetI (ret : Option FieldType) : List aV → Option (Option aV)
  | [.inr q] => (match ret with
    | some ty => (match aFits ty (.inr q) with
      | true => some (some (.inr q))
      | false => none)
    | none => none)
  | _ => none
def aRetJ (ret : Option FieldType) : List aV → Option (Option aV)
  | [.inl (.long x)] => (match ret with
    | some .long => some (some (.inl (.long x)))
    | _ => none)
  | _ => none
def aRetF (ret : Option FieldType) : List aV → Option (Option aV)
  | [.inl (.float x)] => (match ret with
    | some .float => some (some (.inl (.float x)))
    | _ => none)
  | _ => none
def aRetD (ret : Option FieldType) : List aV → Option (Option aV)
  | [.inl (.double x)] => (match ret with
    | some .double => some (some (.inl (.double x)))
    | _ => none)
  | _ => none
def aRetN (ret : Option FieldType) : List aV → Option (Option aV)
  | [] => (match ret with
    | none => some none
    | some _ => none)
  | _ => none
def aTok (rt : List aV → Option (Option aV)) (cg : List Value → Option (Option Value)) : Prop := ∀ (st : List aV) (cs : List Value) (v : Option aV), rt st = some v → aRs st cs → ∃ w, cg cs = some w ∧ aRo v w
theorem aRetI_ok {ret : Option FieldType} : aTok (aRetI ret) (amRetV ret .ireturn) := by
  intro st cs v h hs
  unfold aRetI at h
  split at h
  · next q =>
    obtain ⟨w, ws, rfl, hv, hs1⟩ := aRs_cons hs
    cases aRs_nil hs1
    split at h
    · next ty =>
      split at h
      · next ef =>
        cases h
        obtain ⟨f1, -⟩ := aFits_s ef hv
        have hv0 := hv
        obtain ⟨x, rfl, -⟩ := hv
        exact ⟨some (.int x), by simp only [amRetV, f1, if_true], hv0⟩
      · cases h
    · cases h
  · cases h
theorem aRetJ_ok {ret : Option FieldType} : aTok (aRetJ ret) (amRetV ret .lreturn) := by
  intro st cs v h hs
  unfold aRetJ at h
  split at h
  · next q =>
    obtain ⟨w, ws, rfl, hv, hs1⟩ := aRs_cons hs
    cases aRs_nil hs1
    cases hv
    split at h
    · cases h; exact ⟨_, rfl, rfl⟩
    · cases h
  · cases h
theorem aRetF_ok {ret : Option FieldType} : aTok (aRetF ret) (amRetV ret .freturn) := by
  intro st cs v h hs
  unfold aRetF at h
  split at h
  · next q =>
    obtain ⟨w, ws, rfl, hv, hs1⟩ := aRs_cons hs
    cases aRs_nil hs1
    cases hv
    split at h
    · cases h; exact ⟨_, rfl, rfl⟩
    · cases h
  · cases h
theorem aRetD_ok {ret : Option FieldType} : aTok (aRetD ret) (amRetV ret .dreturn) := by
  intro st cs v h hs
  unfold aRetD at h
  split at h
  · next q =>
    obtain ⟨w, ws, rfl, hv, hs1⟩ := aRs_cons hs
    cases aRs_nil hs1
    cases hv
    split at h
    · cases h; exact ⟨_, rfl, rfl⟩
    · cases h
  · cases h
theorem aRetN_ok {ret : Option FieldType} : aTok (aRetN ret) (amRetV ret .return_) := by
  intro st cs v h hs
  unfold aRetN at h
  split at h
  · cases aRs_nil hs
    split at h
    · cases h; exact ⟨_, rfl, trivial⟩
    · cases h
  · cases h
