/-! ===== the abstract runs: ints by their bounds, pushed up by 2^31 ===== -/
abbrev aV : Type := Value ⊕ (Nat × Nat)
abbrev aC : Type := Nat × Nat × List (List aV)
abbrev aH : Type := Nat × List (List aC)
abbrev aL : Type := List (Option aV)
noncomputable def aR : aV → Value → Prop
  | .inl v, w => w = v
  | .inr q, w => ∃ x : Int32, w = .int x ∧ (q.1 : Int) ≤ x.toInt + 2147483648 ∧ x.toInt + 2147483648 ≤ (q.2 : Int)
noncomputable def aRs : List aV → List Value → Prop
  | [], [] => True
  | v :: vs, w :: ws => aR v w ∧ aRs vs ws
  | _, _ => False
noncomputable def aRo : Option aV → Option Value → Prop
  | some v, some w => aR v w
  | none, none => True
  | _, _ => False
theorem aRs_cons {v : aV} {vs : List aV} {ws : List Value} (h : aRs (v :: vs) ws) : ∃ w ws', ws = w :: ws' ∧ aR v w ∧ aRs vs ws' := by
  cases ws with
  | nil => cases h
  | cons w ws => exact ⟨w, ws, rfl, h.1, h.2⟩
theorem aRs_nil {ws : List Value} (h : aRs [] ws) : ws = [] := by cases ws <;> first | rfl | cases h
theorem aRs_len : ∀ {vs : List aV} {ws : List Value}, aRs vs ws → vs.length = ws.length
  | [], [], _ => rfl
  | _ :: _, _ :: _, h => by simp [aRs_len h.2]
  | [], _ :: _, h => by cases h
  | _ :: _, [], h => by cases h
theorem aRs_app : ∀ {vs : List aV} {ws : List Value} {vs' : List aV} {ws' : List Value}, aRs vs ws → aRs vs' ws' → aRs (vs ++ vs') (ws ++ ws')
  | [], [], _, _, _, h => h
  | _ :: _, _ :: _, _, _, h, e => ⟨h.1, aRs_app h.2 e⟩
  | [], _ :: _, _, _, h, _ => by cases h
  | _ :: _, [], _, _, h, _ => by cases h
theorem aRs_take : ∀ {n : Nat} {vs : List aV} {ws : List Value}, aRs vs ws → aRs (vs.take n) (ws.take n)
  | 0, _, _, _ => by simp [aRs]
  | _ + 1, [], [], _ => trivial
  | n + 1, _ :: _, _ :: _, h => ⟨h.1, aRs_take h.2⟩
  | _ + 1, [], _ :: _, h => by cases h
  | _ + 1, _ :: _, [], h => by cases h
theorem aRs_drop : ∀ {n : Nat} {vs : List aV} {ws : List Value}, aRs vs ws → aRs (vs.drop n) (ws.drop n)
  | 0, _, _, h => h
  | _ + 1, [], [], _ => trivial
  | n + 1, _ :: _, _ :: _, h => aRs_drop (n := n) h.2
  | _ + 1, [], _ :: _, h => by cases h
  | _ + 1, _ :: _, [], h => by cases h
theorem aRs_rev : ∀ {vs : List aV} {ws : List Value}, aRs vs ws → aRs vs.reverse ws.reverse
  | [], [], _ => trivial
  | _ :: _, _ :: _, h => by
    rw [List.reverse_cons, List.reverse_cons]
    exact aRs_app (aRs_rev h.2) ⟨h.1, trivial⟩
  | [], _ :: _, h => by cases h
  | _ :: _, [], h => by cases h
noncomputable def aCat : aV → Nat
  | .inl v => v.category
  | .inr _ => 1
theorem aR_cat {v : aV} {w : Value} (h : aR v w) : w.category = aCat v := by
  cases v with
  | inl v => cases h; rfl
  | inr q => obtain ⟨x, rfl, -⟩ := h; rfl
noncomputable def aCs : List aV → Nat
  | [] => 0
  | v :: r => Nat.add (aCat v) (aCs r)
theorem aRs_cat : ∀ {vs : List aV} {ws : List Value}, aRs vs ws → (ws.map fun v => v.category).sum = aCs vs
  | [], [], _ => rfl
  | v :: vs, w :: ws, h => by
    rw [List.map_cons, List.sum_cons, aR_cat h.1, aRs_cat h.2]
    rfl
  | [], _ :: _, h => by cases h
  | _ :: _, [], h => by cases h
/-! lists by places, rows of sixteen -/
noncomputable def lAt {α : Type} : List α → Nat → Option α
  | [], _ => none
  | c :: _, 0 => some c
  | _ :: r, i + 1 => lAt r i
noncomputable def lPut {α : Type} : List α → Nat → α → Option (List α)
  | [], _, _ => none
  | _ :: r, 0, v => some (v :: r)
  | c :: r, i + 1, v => match lPut r i v with
    | some r' => some (c :: r')
    | none => none
noncomputable def cGet {α : Type} : List (List α) → Nat → Option α
  | [], _ => none
  | c :: r, i => match Nat.ble i 15 with
    | true => lAt c i
    | false => cGet r (Nat.sub i 16)
noncomputable def cPut {α : Type} : List (List α) → Nat → α → Option (List (List α))
  | [], _, _ => none
  | c :: r, i, v => match Nat.ble i 15 with
    | true => (match lPut c i v with
      | some c' => some (c' :: r)
      | none => none)
    | false => (match cPut r (Nat.sub i 16) v with
      | some r' => some (c :: r')
      | none => none)
theorem lPut_s {α : Type} : ∀ {l l' : List α} {i : Nat} {v : α}, lPut l i v = some l' → (∃ o, lAt l i = some o) ∧ lAt l' i = some v ∧ ∀ j, ¬ j = i → lAt l' j = lAt l j
  | [], _, _, _, h => by cases h
  | c :: r, l', 0, v, h => by
    cases h
    refine ⟨⟨c, rfl⟩, rfl, fun j hj => ?_⟩
    cases j with
    | zero => exact absurd rfl hj
    | succ j => rfl
  | c :: r, l', i + 1, v, h => by
    unfold lPut at h
    split at h
    · next r' e =>
      cases h
      obtain ⟨⟨o, h1⟩, h2, h3⟩ := lPut_s e
      refine ⟨⟨o, h1⟩, h2, fun j hj => ?_⟩
      cases j with
      | zero => rfl
      | succ j => exact h3 j (fun z => hj (by rw [z]))
    · cases h
theorem cPut_s {α : Type} : ∀ {l l' : List (List α)} {i : Nat} {v : α}, cPut l i v = some l' → (∃ o, cGet l i = some o) ∧ cGet l' i = some v ∧ ∀ j, ¬ j = i → cGet l' j = cGet l j
  | [], _, _, _, h => by cases h
  | c :: r, l', i, v, h => by
    unfold cPut at h
    split at h
    · next hi =>
      split at h
      · next c' e =>
        cases h
        obtain ⟨⟨o, h1⟩, h2, h3⟩ := lPut_s e
        refine ⟨⟨o, by unfold cGet; rw [hi]; exact h1⟩, by unfold cGet; rw [hi]; exact h2, fun j hj => ?_⟩
        unfold cGet
        split
        · exact h3 j hj
        · rfl
      · cases h
    · next hi =>
      split at h
      · next r' e =>
        cases h
        obtain ⟨⟨o, h1⟩, h2, h3⟩ := cPut_s e
        refine ⟨⟨o, by unfold cGet; rw [hi]; exact h1⟩, by unfold cGet; rw [hi]; exact h2, fun j hj => ?_⟩
        unfold cGet
        split
        · rfl
        · next hj2 =>
          refine h3 _ (fun z => hj ?_)
          have a1 : ¬ i ≤ 15 := fun z => by rw [Nat.ble_eq_true_of_le z] at hi; cases hi
          have a2 : ¬ j ≤ 15 := fun z => by rw [Nat.ble_eq_true_of_le z] at hj2; cases hj2
          have z : j - 16 = i - 16 := z
          omega
      · cases h
noncomputable def cMk {α : Type} : Nat → List α → List (List α)
  | 0, l => [l]
  | k + 1, l => l.take 16 :: cMk k (l.drop 16)
theorem lAt_eq {α : Type} : ∀ (l : List α) (i : Nat), lAt l i = l[i]?
  | [], _ => by simp [lAt]
  | _ :: _, 0 => by simp [lAt]
  | _ :: r, i + 1 => by simp [lAt, lAt_eq r i]
theorem cMk_s {α : Type} : ∀ (k : Nat) (l : List α) (i : Nat), l.length ≤ 16 * k → cGet (cMk k l) i = l[i]?
  | 0, l, i, h => by
    have : l = [] := List.length_eq_zero_iff.mp (by omega)
    subst this
    unfold cMk cGet
    split <;> simp [lAt, cGet]
  | k + 1, l, i, h => by
    unfold cMk cGet
    split
    · next e =>
      have e := Nat.le_of_ble_eq_true e
      rw [lAt_eq, List.getElem?_take, if_pos (by omega)]
    · next e =>
      have e : ¬ i ≤ 15 := fun z => by rw [Nat.ble_eq_true_of_le z] at e; cases e
      rw [cMk_s k (l.drop 16) _ (by rw [List.length_drop]; omega), List.getElem?_drop]
      congr 1
      show 16 + (i - 16) = i
      omega
/-! cells -/
noncomputable def aRc (c : aC) (d : amC) : Prop := c.1 = d.1 ∧ c.2.1 = d.2.length ∧ ∀ j, aRo (cGet c.2.2 j) (d.2[j]?)
noncomputable def aRh (h : aH) (hp : amH) : Prop := h.1 = hp.length ∧ ∀ j, j < hp.length → ∃ c d, cGet h.2 j = some c ∧ hp[j]? = some d ∧ aRc c d
noncomputable def aCell (h : aH) (o : Nat) : Option aC := match Nat.ble (Nat.add o 1) h.1 with
  | true => cGet h.2 o
  | false => none
theorem aCell_s {h : aH} {hp : amH} {o : Nat} {c : aC} (hr : aRh h hp) (e : aCell h o = some c) : ∃ d, hp[o]? = some d ∧ aRc c d := by
  unfold aCell at e
  split at e
  · next e1 =>
    have e1 : o + 1 ≤ h.1 := Nat.le_of_ble_eq_true e1
    obtain ⟨c', d, h1, h2, h3⟩ := hr.2 o (by rw [← hr.1]; omega)
    rw [h1] at e
    cases e
    exact ⟨d, h2, h3⟩
  · cases e
theorem aRo_some {o : Option aV} {v : aV} {w : Option Value} (h : aRo o w) (e : o = some v) : ∃ x, w = some x ∧ aR v x := by
  subst e
  cases w with
  | none => cases h
  | some x => exact ⟨x, rfl, h⟩
theorem aRc_get {c : aC} {d : amC} {j : Nat} {v : aV} (h : aRc c d) (e : cGet c.2.2 j = some v) : ∃ w, d.2[j]? = some w ∧ aR v w := aRo_some (h.2.2 j) e
theorem a_lt {α : Type} {l : List α} {j : Nat} {w : α} (h : l[j]? = some w) : j < l.length := by
  rcases Nat.lt_or_ge j l.length with z | z
  · exact z
  · rw [List.getElem?_eq_none z] at h; cases h
theorem aRc_put {c : aC} {d : amC} {j : Nat} {v : aV} {w : Value} {r : List (List aV)} (h : aRc c d) (e : cPut c.2.2 j v = some r) (hv : aR v w) : j < d.2.length ∧ aRc (c.1, c.2.1, r) (d.1, d.2.set j w) := by
  obtain ⟨⟨o, h1⟩, h2, h3⟩ := cPut_s e
  obtain ⟨x, h4, -⟩ := aRc_get h h1
  have hlt := a_lt h4
  refine ⟨hlt, h.1, by rw [List.length_set]; exact h.2.1, fun i => ?_⟩
  dsimp only
  by_cases hi : i = j
  · subst hi
    rw [h2, List.getElem?_set_self hlt]
    exact hv
  · rw [h3 i hi, List.getElem?_set_ne (fun z => hi z.symm)]
    exact h.2.2 i
noncomputable def aPutH (h : aH) (o : Nat) (c : aC) : Option aH := match Nat.ble (Nat.add o 1) h.1 with
  | true => (match cPut h.2 o c with
    | some r => some (h.1, r)
    | none => none)
  | false => none
theorem aPutH_s {h h1 : aH} {hp : amH} {o : Nat} {c : aC} {d : amC} (hr : aRh h hp) (e : aPutH h o c = some h1) (hc : aRc c d) : aRh h1 (hp.set o d) := by
  unfold aPutH at e
  split at e
  · next e1 =>
    have e1 : o + 1 ≤ h.1 := Nat.le_of_ble_eq_true e1
    split at e
    · next r e2 =>
      cases e
      obtain ⟨-, h2, h3⟩ := cPut_s e2
      refine ⟨by rw [List.length_set]; exact hr.1, fun j hj => ?_⟩
      rw [List.length_set] at hj
      by_cases hi : j = o
      · subst hi
        exact ⟨c, d, h2, List.getElem?_set_self hj, hc⟩
      · obtain ⟨c', d', g1, g2, g3⟩ := hr.2 j hj
        exact ⟨c', d', by rw [h3 j hi]; exact g1, by rw [List.getElem?_set_ne (fun z => hi z.symm)]; exact g2, g3⟩
    · cases e
  · cases e
noncomputable def aNewH (h : aH) (c : aC) : Option aH := match cPut h.2 h.1 c with
  | some r => some (Nat.add h.1 1, r)
  | none => none
theorem aNewH_s {h h1 : aH} {hp : amH} {c : aC} {d : amC} (hr : aRh h hp) (e : aNewH h c = some h1) (hc : aRc c d) : aRh h1 (hp ++ [d]) := by
  unfold aNewH at e
  split at e
  · next r e2 =>
    cases e
    obtain ⟨-, h2, h3⟩ := cPut_s e2
    refine ⟨by rw [List.length_append, ← hr.1]; rfl, fun j hj => ?_⟩
    rw [List.length_append, List.length_singleton] at hj
    by_cases hi : j = h.1
    · subst hi
      refine ⟨c, d, h2, ?_, hc⟩
      rw [hr.1, List.getElem?_append_right (Nat.le_refl _), Nat.sub_self]
      rfl
    · have hj2 : j < hp.length := by have := hr.1; omega
      obtain ⟨c', d', g1, g2, g3⟩ := hr.2 j hj2
      exact ⟨c', d', by rw [h3 j hi]; exact g1, by rw [List.getElem?_append_left hj2]; exact g2, g3⟩
  · cases e
/-! locals -/
noncomputable def lGet (ls : aL) (k : Nat) : Option aV := match lAt ls k with
  | some o => o
  | none => none
noncomputable def aRF (g : Nat → Option aV) (cs : amL) : Prop := (∀ k v, g k = some v → ∃ w, amGet cs k = some w ∧ aR v w) ∧ ∀ q ∈ cs, ∃ v, g q.1 = some v ∧ aR v q.2
noncomputable def aRl (ls : aL) (cs : amL) : Prop := aRF (lGet ls) cs
theorem amGet_filter {p : Nat × Value → Bool} : ∀ {cs : amL} {k : Nat} {w : Value}, amGet cs k = some w → p (k, w) = true → amGet (cs.filter p) k = some w
  | [], _, _, h, _ => by cases h
  | q :: r, k, w, h, hp => by
    unfold amGet at h
    split at h
    · next e =>
      cases h
      subst e
      rw [List.filter_cons, if_pos hp]
      unfold amGet
      rw [if_pos rfl]
    · next e =>
      rw [List.filter_cons]
      split
      · unfold amGet
        rw [if_neg e]
        exact amGet_filter h hp
      · exact amGet_filter h hp
theorem aRF_filter {g g' : Nat → Option aV} {cs : amL} {p : Nat × Value → Bool} (h : aRF g cs) (h1 : ∀ k v, g' k = some v → g k = some v ∧ ∀ w, aR v w → p (k, w) = true) (h2 : ∀ q, p q = true → g' q.1 = g q.1) : aRF g' (cs.filter p) := by
  refine ⟨fun k v e => ?_, fun q hq => ?_⟩
  · obtain ⟨e1, e2⟩ := h1 k v e
    obtain ⟨w, e3, e4⟩ := h.1 k v e1
    exact ⟨w, amGet_filter e3 (e2 w e4), e4⟩
  · obtain ⟨q1, q2⟩ := List.mem_filter.mp hq
    rw [h2 q q2]
    exact h.2 q q1
theorem aRF_cons {g g' : Nat → Option aV} {cs : amL} {k : Nat} {v : aV} {w : Value} (h : aRF g cs) (hv : aR v w) (h0 : g k = none) (h1 : g' k = some v) (h2 : ∀ j, ¬ j = k → g' j = g j) : aRF g' ((k, w) :: cs) := by
  refine ⟨fun j u e => ?_, fun q hq => ?_⟩
  · unfold amGet
    by_cases hj : k = j
    · subst hj
      rw [h1] at e
      cases e
      exact ⟨w, if_pos rfl, hv⟩
    · rw [if_neg hj]
      rw [h2 j (fun z => hj z.symm)] at e
      exact h.1 j u e
  · rcases List.mem_cons.mp hq with rfl | hq
    · exact ⟨v, h1, hv⟩
    · obtain ⟨u, e1, e2⟩ := h.2 q hq
      refine ⟨u, ?_, e2⟩
      rw [h2 q.1 (fun z => by rw [z, h0] at e1; cases e1)]
      exact e1
noncomputable def aPrev (ls : aL) : Nat → Bool
  | 0 => true
  | j + 1 => match lGet ls j with
    | some v => Nat.beq (aCat v) 1
    | none => true
theorem aPrev_s {ls : aL} {k j : Nat} {v : aV} (h : aPrev ls k = true) (e : lGet ls j = some v) (hj : j + 1 = k) : aCat v = 1 := by
  subst hj
  simp only [aPrev, e] at h
  exact Nat.eq_of_beq_eq_true h
theorem lGet_put {ls ls' : aL} {k : Nat} {o : Option aV} (h : lPut ls k o = some ls') : lGet ls' k = o ∧ ∀ j, ¬ j = k → lGet ls' j = lGet ls j := by
  obtain ⟨-, h2, h3⟩ := lPut_s h
  refine ⟨by unfold lGet; rw [h2], fun j hj => ?_⟩
  unfold lGet
  rw [h3 j hj]
noncomputable def aSet1 (ls : aL) (k : Nat) (v : aV) : Option aL := match aPrev ls k with
  | true => lPut ls k (some v)
  | false => none
noncomputable def aSet2 (ls : aL) (k : Nat) (v : aV) : Option aL := match aPrev ls k with
  | true => (match lPut ls (Nat.add k 1) none with
    | some l1 => lPut l1 k (some v)
    | none => none)
  | false => none
noncomputable def aDrop (ls : aL) (k : Nat) : Option aL := match aPrev ls k with
  | true => lPut ls k none
  | false => none
theorem aSet1_s {ls ls' : aL} {cs : amL} {k : Nat} {v : aV} {w : Value} (h : aRl ls cs) (hv : aR v w) (e : aSet1 ls k v = some ls') : aRl ls' (amSet1 cs k w) := by
  unfold aSet1 at e
  split at e
  · next hp =>
    obtain ⟨e1, e2⟩ := lGet_put e
    refine aRF_cons (g := fun j => if j = k then none else lGet ls j) (aRF_filter h ?_ ?_) hv (if_pos rfl) e1 (fun j hj => by rw [e2 j hj, if_neg hj])
    · intro j u hj
      try dsimp only at hj
      split at hj
      · cases hj
      · next hjk =>
        refine ⟨hj, fun w hw => ?_⟩
        have c1 : (j + 1 == k && w.category == 2) = false := by
          by_cases z : j + 1 = k
          · rw [aR_cat hw, aPrev_s hp hj z, Bool.and_comm]
            rfl
          · rw [show (j + 1 == k) = false from by simpa using z]
            rfl
        rw [c1, show (j == k) = false from by simpa using hjk]
        rfl
    · intro q hq
      have : ¬ q.1 = k := by
        intro z
        rw [z] at hq
        simp at hq
      exact if_neg this
  · cases e
theorem aDrop_s {ls ls' : aL} {cs : amL} {k : Nat} (h : aRl ls cs) (e : aDrop ls k = some ls') : aRl ls' (amDrop cs k) := by
  unfold aDrop at e
  split at e
  · next hp =>
    obtain ⟨e1, e2⟩ := lGet_put e
    refine aRF_filter h ?_ ?_
    · intro j u hj
      by_cases hjk : j = k
      · subst hjk; rw [e1] at hj; cases hj
      · rw [e2 j hjk] at hj
        refine ⟨hj, fun w hw => ?_⟩
        have c1 : (j + 1 == k && w.category == 2) = false := by
          by_cases z : j + 1 = k
          · rw [aR_cat hw, aPrev_s hp hj z, Bool.and_comm]
            rfl
          · rw [show (j + 1 == k) = false from by simpa using z]
            rfl
        rw [c1, show (j == k) = false from by simpa using hjk]
        rfl
    · intro q hq
      refine e2 _ (fun z => ?_)
      rw [z] at hq
      simp at hq
  · cases e
theorem aSet2_s {ls ls' : aL} {cs : amL} {k : Nat} {v : aV} {w : Value} (h : aRl ls cs) (hv : aR v w) (e : aSet2 ls k v = some ls') : aRl ls' (amSet2 cs k w) := by
  unfold aSet2 at e
  split at e
  · next hp =>
    split at e
    · next l1 e0 =>
      obtain ⟨d1, d2⟩ := lGet_put e0
      obtain ⟨e1, e2⟩ := lGet_put e
      have d1 : lGet l1 (k + 1) = none := d1
      have d2 : ∀ j, ¬ j = k + 1 → lGet l1 j = lGet ls j := d2
      refine aRF_cons (g := fun j => if j = k then none else lGet l1 j) (aRF_filter h ?_ ?_) hv (if_pos rfl) e1 (fun j hj => by rw [e2 j hj, if_neg hj])
      · intro j u hj
        try dsimp only at hj
        split at hj
        · cases hj
        · next hjk =>
          by_cases hjk2 : j = k + 1
          · rw [hjk2, d1] at hj; cases hj
          · rw [d2 j hjk2] at hj
            refine ⟨hj, fun w hw => ?_⟩
            have c1 : (j + 1 == k && w.category == 2) = false := by
              by_cases z : j + 1 = k
              · rw [aR_cat hw, aPrev_s hp hj z, Bool.and_comm]
                rfl
              · rw [show (j + 1 == k) = false from by simpa using z]
                rfl
            rw [c1, show (j == k) = false from by simpa using hjk, show (j == k + 1) = false from by simpa using hjk2]
            rfl
      · intro q hq
        have a1 : ¬ q.1 = k := by
          intro z
          rw [z] at hq
          simp at hq
        have a2 : ¬ q.1 = k + 1 := by
          intro z
          rw [z] at hq
          simp at hq
        rw [if_neg a1, d2 _ a2]
    · cases e
  · cases e
/-! ===== the abstract runs: numbers ===== -/
theorem aMin (x : Int32) : -2147483648 ≤ x.toInt := by have := Int32.le_toInt x; omega
theorem aMax (x : Int32) : x.toInt ≤ 2147483647 := by have := Int32.toInt_lt x; omega
noncomputable def aOff (x : Int32) : Nat := (x.toInt + 2147483648).toNat
theorem aOff_eq (x : Int32) : (aOff x : Int) = x.toInt + 2147483648 := by
  unfold aOff
  have := aMin x
  omega
noncomputable def aOf (x : Int32) : aV := .inr (aOff x, aOff x)
theorem aOf_s (x : Int32) : aR (aOf x) (.int x) := ⟨x, rfl, by rw [aOff_eq]; exact Int.le_refl _, by rw [aOff_eq]; exact Int.le_refl _⟩
noncomputable def aOfV : Value → aV
  | .int x => aOf x
  | v => .inl v
theorem aOfV_s (v : Value) : aR (aOfV v) v := by cases v <;> first | exact aOf_s _ | rfl
noncomputable def aFull : aV := .inr (0, 4294967295)
theorem aFull_s (x : Int32) : aR aFull (.int x) := by
  refine ⟨x, rfl, ?_, ?_⟩
  · show (0 : Int) ≤ _
    have := aMin x
    omega
  · show _ ≤ (4294967295 : Int)
    have := aMax x
    omega
noncomputable def aInt (n : Nat) : Int32 := Int32.ofInt ((n : Int) - 2147483648)
noncomputable def aIn (a b : Nat) (x : Int32) : Prop := (a : Int) ≤ x.toInt + 2147483648 ∧ x.toInt + 2147483648 ≤ (b : Int)
theorem aEq_s {a b : Nat} {x : Int32} (he : Nat.beq a b = true) (h : aIn a b x) : x = aInt a := by
  have he := Nat.eq_of_beq_eq_true he
  subst he
  unfold aInt
  have : (a : Int) - 2147483648 = x.toInt := by have := h.1; have := h.2; omega
  rw [this, Int32.ofInt_toInt]
theorem aBmod {z : Int} (h1 : -2147483648 ≤ z) (h2 : z ≤ 2147483647) : z.bmod (2 ^ 32) = z := by
  rw [Int.bmod_def]
  have : ((2 ^ 32 : Nat) : Int) = 4294967296 := rfl
  split <;> omega
theorem aInt_toInt {n : Nat} (h : n ≤ 4294967295) : (aInt n).toInt = (n : Int) - 2147483648 := by
  unfold aInt
  rw [Int32.toInt_ofInt]
  exact aBmod (by omega) (by omega)
abbrev aG : Type := Nat → Nat → Nat → Nat → Option aV
noncomputable def aGok (f : Int32 → Int32 → Int32) (g : aG) : Prop := ∀ (a b c d : Nat) (v : aV) (x y : Int32), g a b c d = some v → aIn a b x → aIn c d y → aR v (.int (f x y))
noncomputable def aGadd : aG := fun a b c d => match Nat.ble 2147483648 (Nat.add a c) with
  | true => (match Nat.ble (Nat.add b d) 6442450943 with
    | true => some (.inr (Nat.sub (Nat.add a c) 2147483648, Nat.sub (Nat.add b d) 2147483648))
    | false => some aFull)
  | false => some aFull
theorem aGadd_ok : aGok (fun x y => x + y) aGadd := by
  intro a b c d v x y h hx hy
  unfold aGadd at h
  obtain ⟨x1, x2⟩ := hx
  obtain ⟨y1, y2⟩ := hy
  split at h
  · next e1 =>
    split at h
    · next e2 =>
      cases h
      have e1 : 2147483648 ≤ a + c := Nat.le_of_ble_eq_true e1
      have e2 : b + d ≤ 6442450943 := Nat.le_of_ble_eq_true e2
      have e3 : (x + y).toInt = x.toInt + y.toInt := by rw [Int32.toInt_add, aBmod (by omega) (by omega)]
      refine ⟨x + y, rfl, ?_, ?_⟩
      · show ((a + c - 2147483648 : Nat) : Int) ≤ _
        omega
      · show _ ≤ ((b + d - 2147483648 : Nat) : Int)
        omega
    · cases h; exact aFull_s _
  · cases h; exact aFull_s _
noncomputable def aGsub : aG := fun a b c d => match Nat.ble (Nat.sub d a) 2147483648 with
  | true => (match Nat.ble (Nat.sub b c) 2147483647 with
    | true => some (.inr (Nat.sub (Nat.add a 2147483648) d, Nat.sub (Nat.add b 2147483648) c))
    | false => some aFull)
  | false => some aFull
theorem aGsub_ok : aGok (fun x y => x - y) aGsub := by
  intro a b c d v x y h hx hy
  unfold aGsub at h
  obtain ⟨x1, x2⟩ := hx
  obtain ⟨y1, y2⟩ := hy
  split at h
  · next e1 =>
    split at h
    · next e2 =>
      cases h
      have e1 : d - a ≤ 2147483648 := Nat.le_of_ble_eq_true e1
      have e2 : b - c ≤ 2147483647 := Nat.le_of_ble_eq_true e2
      have e3 : (x - y).toInt = x.toInt - y.toInt := by rw [Int32.toInt_sub, aBmod (by omega) (by omega)]
      refine ⟨x - y, rfl, ?_, ?_⟩
      · show ((a + 2147483648 - d : Nat) : Int) ≤ _
        omega
      · show _ ≤ ((b + 2147483648 - c : Nat) : Int)
        omega
    · cases h; exact aFull_s _
  · cases h; exact aFull_s _
noncomputable def aGx (f : Int32 → Int32 → Int32) : aG := fun a b c d => match Nat.beq a b with
  | true => (match Nat.beq c d with
    | true => some (aOf (f (aInt a) (aInt c)))
    | false => none)
  | false => none
theorem aGx_ok (f : Int32 → Int32 → Int32) : aGok f (aGx f) := by
  intro a b c d v x y h hx hy
  unfold aGx at h
  split at h
  · next e1 =>
    split at h
    · next e2 =>
      cases h
      rw [aEq_s e1 hx, aEq_s e2 hy]
      exact aOf_s _
    · cases h
  · cases h
noncomputable def aGor (g1 g2 : aG) : aG := fun a b c d => match g1 a b c d with
  | some v => some v
  | none => g2 a b c d
theorem aGor_ok {f : Int32 → Int32 → Int32} {g1 g2 : aG} (h1 : aGok f g1) (h2 : aGok f g2) : aGok f (aGor g1 g2) := by
  intro a b c d v x y h hx hy
  unfold aGor at h
  split at h
  · next w e => cases h; exact h1 a b c d _ x y e hx hy
  · exact h2 a b c d v x y h hx hy
theorem a_neg (x : Int32) : x.toBitVec.msb = decide (x.toInt < 0) := by
  rw [← Int32.toInt_toBitVec, BitVec.msb_eq_toInt]
theorem a_nn {x : Int32} (h : 0 ≤ x.toInt) : x.toInt = (x.toBitVec.toNat : Int) := by
  rw [← Int32.toInt_toBitVec]
  refine BitVec.toInt_eq_toNat_of_msb ?_
  rw [a_neg, decide_eq_false (by omega)]
/-- and: with a known number that is not negative; of two negative ones; with -8 -/
noncomputable def aGand : aG := fun a b c d =>
  if c = d ∧ 2147483648 ≤ c then some (.inr (2147483648, c))
  else if b < 2147483648 ∧ d < 2147483648 then some (.inr (0, 2147483647))
  else if c = 2147483640 ∧ d = 2147483640 ∧ 2147483656 ≤ a then some (.inr (2147483649, 4294967295))
  else none
theorem aGand_ok : aGok (fun x y => x &&& y) aGand := by
  intro a b c d v x y h hx hy
  unfold aGand at h
  obtain ⟨x1, x2⟩ := hx
  obtain ⟨y1, y2⟩ := hy
  have hm : (x &&& y).toBitVec.msb = (x.toBitVec.msb && y.toBitVec.msb) := by rw [Int32.toBitVec_and, BitVec.msb_and]
  rw [a_neg, a_neg, a_neg] at hm
  have m1 := aMin (x &&& y)
  have m2 := aMax (x &&& y)
  split at h
  · next e =>
    cases h
    have hr : 0 ≤ (x &&& y).toInt := by
      rw [decide_eq_false (show ¬ y.toInt < 0 by omega), Bool.and_false, decide_eq_false_iff_not] at hm
      omega
    refine ⟨x &&& y, rfl, ?_, ?_⟩
    · show (2147483648 : Int) ≤ _
      omega
    · have e1 := a_nn hr
      have e2 := a_nn (show 0 ≤ y.toInt by omega)
      rw [Int32.toBitVec_and, BitVec.toNat_and] at e1
      have e3 : x.toBitVec.toNat &&& y.toBitVec.toNat ≤ y.toBitVec.toNat := Nat.and_le_right
      show _ ≤ (c : Int)
      omega
  · split at h
    · next e =>
      cases h
      rw [decide_eq_true (show x.toInt < 0 by omega), decide_eq_true (show y.toInt < 0 by omega), Bool.and_true, decide_eq_true_eq] at hm
      refine ⟨x &&& y, rfl, ?_, ?_⟩
      · show (0 : Int) ≤ _
        omega
      · show _ ≤ (2147483647 : Int)
        omega
    · split at h
      · next e =>
        cases h
        have hr : 0 ≤ (x &&& y).toInt := by
          rw [decide_eq_false (show ¬ x.toInt < 0 by omega), Bool.false_and, decide_eq_false_iff_not] at hm
          omega
        have e1 := a_nn hr
        have e2 := a_nn (show 0 ≤ x.toInt by omega)
        have ey : y = Int32.ofInt (-8) := by
          have : y.toInt = -8 := by omega
          rw [← this, Int32.ofInt_toInt]
        have e4 : y.toBitVec.toNat = 4294967288 := by rw [ey]; decide
        rw [Int32.toBitVec_and, BitVec.toNat_and, e4] at e1
        obtain ⟨i, i1, i2⟩ := Nat.exists_ge_and_testBit_of_ge_two_pow (n := 3) (x := x.toBitVec.toNat) (by omega)
        have hlt : x.toBitVec.toNat < 2 ^ 32 := x.toBitVec.isLt
        have i3 : i < 32 := by
          rcases Nat.lt_or_ge i 32 with z | z
          · exact z
          · rw [Nat.testBit_lt_two_pow (Nat.lt_of_lt_of_le hlt (Nat.pow_le_pow_right (by decide) z))] at i2
            cases i2
        have i4 : Nat.testBit 4294967288 i = true := by
          have : ∀ j : Fin 32, 3 ≤ j.val → Nat.testBit 4294967288 j.val = true := by decide
          exact this ⟨i, i3⟩ i1
        have i5 : (x.toBitVec.toNat &&& 4294967288) ≠ 0 := by
          intro z
          have := Nat.testBit_and x.toBitVec.toNat 4294967288 i
          rw [z, i2, i4] at this
          simp at this
        refine ⟨x &&& y, rfl, ?_, ?_⟩
        · show (2147483649 : Int) ≤ _
          omega
        · show _ ≤ (4294967295 : Int)
          omega
      · cases h
/-- xor: signs -/
noncomputable def aGxor : aG := fun a b c d =>
  if (2147483648 ≤ a ∧ 2147483648 ≤ c) ∨ (b < 2147483648 ∧ d < 2147483648) then some (.inr (2147483648, 4294967295))
  else if (b < 2147483648 ∧ 2147483648 ≤ c) ∨ (2147483648 ≤ a ∧ d < 2147483648) then some (.inr (0, 2147483647))
  else none
theorem aGxor_ok : aGok (fun x y => x ^^^ y) aGxor := by
  intro a b c d v x y h hx hy
  unfold aGxor at h
  obtain ⟨x1, x2⟩ := hx
  obtain ⟨y1, y2⟩ := hy
  have hm : (x ^^^ y).toBitVec.msb = (x.toBitVec.msb ^^ y.toBitVec.msb) := by rw [Int32.toBitVec_xor, BitVec.msb_xor]
  rw [a_neg, a_neg, a_neg] at hm
  have m1 := aMin (x ^^^ y)
  have m2 := aMax (x ^^^ y)
  split at h
  · next e =>
    cases h
    have hr : ¬ (x ^^^ y).toInt < 0 := by
      rcases e with e | e
      · rw [decide_eq_false (show ¬ x.toInt < 0 by omega), decide_eq_false (show ¬ y.toInt < 0 by omega), Bool.xor_false, decide_eq_false_iff_not] at hm
        exact hm
      · rw [decide_eq_true (show x.toInt < 0 by omega), decide_eq_true (show y.toInt < 0 by omega), Bool.xor_true, Bool.not_true, decide_eq_false_iff_not] at hm
        exact hm
    refine ⟨x ^^^ y, rfl, ?_, ?_⟩
    · show (2147483648 : Int) ≤ _
      omega
    · show _ ≤ (4294967295 : Int)
      omega
  · split at h
    · next e =>
      cases h
      have hr : (x ^^^ y).toInt < 0 := by
        rcases e with e | e
        · rw [decide_eq_true (show x.toInt < 0 by omega), decide_eq_false (show ¬ y.toInt < 0 by omega), Bool.xor_false, decide_eq_true_eq] at hm
          exact hm
        · rw [decide_eq_false (show ¬ x.toInt < 0 by omega), decide_eq_true (show y.toInt < 0 by omega), Bool.xor_true, Bool.not_false, decide_eq_true_eq] at hm
          exact hm
      refine ⟨x ^^^ y, rfl, ?_, ?_⟩
      · show (0 : Int) ≤ _
        omega
      · show _ ≤ (2147483647 : Int)
        omega
    · cases h
/-- a shift to the right by a known number -/
noncomputable def aGshr : aG := fun a b c d => if c = d ∧ 2147483648 ≤ c ∧ c ≤ 2147483679 then
    some (.inr (a / 2 ^ (c - 2147483648) + 2147483648 - 2147483648 / 2 ^ (c - 2147483648), b / 2 ^ (c - 2147483648) + 2147483648 - 2147483648 / 2 ^ (c - 2147483648))) else none
theorem aGshr_ok : aGok (fun x y => x >>> (y &&& 31)) aGshr := by
  intro a b c d v x y h hx hy
  unfold aGshr at h
  obtain ⟨x1, x2⟩ := hx
  obtain ⟨y1, y2⟩ := hy
  split at h
  · next e =>
    cases h
    obtain ⟨n, hn⟩ : ∃ n : Nat, c = n + 2147483648 := ⟨c - 2147483648, by omega⟩
    subst hn
    have hn31 : n ≤ 31 := by omega
    have hy : y.toInt = n := by omega
    have ey : y = Int32.ofInt n := by rw [← hy, Int32.ofInt_toInt]
    have key : (x >>> (y &&& 31)).toInt = x.toInt / 2 ^ n := by
      have hk : ∀ j : Fin 32, ((Int32.ofInt (j.val : Int) &&& 31).toBitVec.smod 32).toNat = j.val := by decide
      have h5 := hk ⟨n, by omega⟩
      dsimp only at h5
      rw [← ey] at h5
      rw [← Int32.toInt_toBitVec, Int32.toBitVec_shiftRight]
      show (x.toBitVec.sshiftRight _).toInt = _
      rw [BitVec.toInt_sshiftRight, Int.shiftRight_eq_div_pow, h5, Int32.toInt_toBitVec]
      rfl
    rw [show n + 2147483648 - 2147483648 = n by omega]
    have hP : (2147483648 : Nat) = 2 ^ n * 2 ^ (31 - n) := by rw [← Nat.pow_add, show n + (31 - n) = 31 by omega]
    have hp0 : 0 < 2 ^ n := Nat.pow_pos (by decide)
    have hd : 2147483648 / 2 ^ n = 2 ^ (31 - n) := by rw [hP, Nat.mul_div_cancel_left _ hp0]
    obtain ⟨m, hm⟩ : ∃ m : Nat, (m : Int) = x.toInt + 2147483648 := ⟨aOff x, aOff_eq x⟩
    have k2 : x.toInt / 2 ^ n = ((m / 2 ^ n : Nat) : Int) - ((2 ^ (31 - n) : Nat) : Int) := by
      have k3 : ((m / 2 ^ n : Nat) : Int) = (m : Int) / ((2 ^ n : Nat) : Int) := Int.natCast_ediv _ _
      have k4 : (2147483648 : Int) = ((2 ^ n : Nat) : Int) * ((2 ^ (31 - n) : Nat) : Int) := by
        rw [← Int.natCast_mul, ← hP]; rfl
      rw [k3, hm, k4, Int.add_mul_ediv_left _ _ (by omega)]
      rw [show ((2 ^ n : Nat) : Int) = (2 : Int) ^ n by rw [Int.natCast_pow]; rfl]
      omega
    have hle : 2 ^ (31 - n) ≤ 2147483648 := by rw [← hd]; exact Nat.div_le_self _ _
    have l1 : a / 2 ^ n ≤ m / 2 ^ n := Nat.div_le_div_right (by omega)
    have l2 : m / 2 ^ n ≤ b / 2 ^ n := Nat.div_le_div_right (by omega)
    refine ⟨_, rfl, ?_, ?_⟩
    · show ((a / 2 ^ n + 2147483648 - 2147483648 / 2 ^ n : Nat) : Int) ≤ (x >>> (y &&& 31)).toInt + 2147483648
      rw [key, k2, hd]
      generalize a / 2 ^ n = u1 at *
      generalize m / 2 ^ n = u2 at *
      generalize 2 ^ (31 - n) = u3 at *
      omega
    · show (x >>> (y &&& 31)).toInt + 2147483648 ≤ ((b / 2 ^ n + 2147483648 - 2147483648 / 2 ^ n : Nat) : Int)
      rw [key, k2, hd]
      generalize b / 2 ^ n = u1 at *
      generalize m / 2 ^ n = u2 at *
      generalize 2 ^ (31 - n) = u3 at *
      omega
  · cases h
/-- comparisons that the bounds decide -/
noncomputable def aCmpD : Jvm.ClassFile.Cond → Nat → Nat → Nat → Nat → Option Bool
  | .eq, a, b, p, q => (match Nat.ble (Nat.add b 1) p with
    | true => some false
    | false => (match Nat.ble (Nat.add q 1) a with
      | true => some false
      | false => (match Nat.beq a b with
        | true => (match Nat.beq p q with
          | true => some true
          | false => none)
        | false => none)))
  | .ne, a, b, p, q => (match Nat.ble (Nat.add b 1) p with
    | true => some true
    | false => (match Nat.ble (Nat.add q 1) a with
      | true => some true
      | false => (match Nat.beq a b with
        | true => (match Nat.beq p q with
          | true => some false
          | false => none)
        | false => none)))
  | .lt, a, b, p, q => (match Nat.ble (Nat.add b 1) p with
    | true => some true
    | false => (match Nat.ble q a with
      | true => some false
      | false => none))
  | .ge, a, b, p, q => (match Nat.ble q a with
    | true => some true
    | false => (match Nat.ble (Nat.add b 1) p with
      | true => some false
      | false => none))
  | .gt, a, b, p, q => (match Nat.ble (Nat.add q 1) a with
    | true => some true
    | false => (match Nat.ble b p with
      | true => some false
      | false => none))
  | .le, a, b, p, q => (match Nat.ble b p with
    | true => some true
    | false => (match Nat.ble (Nat.add q 1) a with
      | true => some false
      | false => none))
theorem a_le {a b : Nat} (h : Nat.ble a b = true) : a ≤ b := Nat.le_of_ble_eq_true h
theorem a_lt1 {a b : Nat} (h : Nat.ble (Nat.add a 1) b = true) : a < b := Nat.le_of_ble_eq_true h
theorem a_nle {a b : Nat} (h : Nat.ble a b = false) : b < a := by
  rcases Nat.lt_or_ge b a with z | z
  · exact z
  · rw [Nat.ble_eq_true_of_le z] at h; cases h
theorem aCmpD_s {c : Jvm.ClassFile.Cond} {a b p q : Nat} {o : Bool} {x y : Int32} (h : aCmpD c a b p q = some o) (hx : aIn a b x) (hy : aIn p q y) : amCmpP c x y = o := by
  obtain ⟨h1, h2⟩ := hx
  obtain ⟨h3, h4⟩ := hy
  cases c
  case eq =>
    unfold aCmpD at h
    dsimp only at h
    repeat' split at h
    · next e => cases h; have := a_lt1 e; exact decide_eq_false (fun z => by have := congrArg Int32.toInt z; omega)
    · next e => cases h; have := a_lt1 e; exact decide_eq_false (fun z => by have := congrArg Int32.toInt z; omega)
    · cases h
      have e1 := Nat.eq_of_beq_eq_true ‹Nat.beq a b = true›
      have e2 := Nat.eq_of_beq_eq_true ‹Nat.beq p q = true›
      have e3 : p < b + 1 := a_nle ‹Nat.ble (Nat.add b 1) p = false›
      have e4 : a < q + 1 := a_nle ‹Nat.ble (Nat.add q 1) a = false›
      have e5 : x = y := Int32.toInt_inj.mp (by omega)
      exact decide_eq_true e5
    · cases h
    · cases h
  case ne =>
    unfold aCmpD at h
    dsimp only at h
    repeat' split at h
    · next e => cases h; have := a_lt1 e; exact decide_eq_true (fun z => by have := congrArg Int32.toInt z; omega)
    · next e => cases h; have := a_lt1 e; exact decide_eq_true (fun z => by have := congrArg Int32.toInt z; omega)
    · cases h
      have e1 := Nat.eq_of_beq_eq_true ‹Nat.beq a b = true›
      have e2 := Nat.eq_of_beq_eq_true ‹Nat.beq p q = true›
      have e3 : p < b + 1 := a_nle ‹Nat.ble (Nat.add b 1) p = false›
      have e4 : a < q + 1 := a_nle ‹Nat.ble (Nat.add q 1) a = false›
      have e5 : x = y := Int32.toInt_inj.mp (by omega)
      exact decide_eq_false (fun z => z e5)
    · cases h
    · cases h
  case lt =>
    unfold aCmpD at h
    dsimp only at h
    repeat' split at h
    · next e => cases h; have := a_lt1 e; exact decide_eq_true (Int32.lt_iff_toInt_lt.mpr (by omega))
    · next e => cases h; have := a_le e; exact decide_eq_false (fun z => by have := Int32.lt_iff_toInt_lt.mp z; omega)
    · cases h
  case ge =>
    unfold aCmpD at h
    dsimp only at h
    repeat' split at h
    · next e => cases h; have := a_le e; exact decide_eq_true (Int32.le_iff_toInt_le.mpr (by omega))
    · next e => cases h; have := a_lt1 e; exact decide_eq_false (fun z => by have := Int32.le_iff_toInt_le.mp z; omega)
    · cases h
  case gt =>
    unfold aCmpD at h
    dsimp only at h
    repeat' split at h
    · next e => cases h; have := a_lt1 e; exact decide_eq_true (Int32.lt_iff_toInt_lt.mpr (by omega))
    · next e => cases h; have := a_le e; exact decide_eq_false (fun z => by have := Int32.lt_iff_toInt_lt.mp z; omega)
    · cases h
  case le =>
    unfold aCmpD at h
    dsimp only at h
    repeat' split at h
    · next e => cases h; have := a_le e; exact decide_eq_true (Int32.le_iff_toInt_le.mpr (by omega))
    · next e => cases h; have := a_lt1 e; exact decide_eq_false (fun z => by have := Int32.le_iff_toInt_le.mp z; omega)
    · cases h
