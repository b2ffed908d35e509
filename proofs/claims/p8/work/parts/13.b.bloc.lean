/-! ===== runs over invariants: locals, stacks, cells by their types, what a run may write ===== -/
def bGet (ls : bL) (k : Nat) : Option bV := match lAt ls k with
  | some o => o
  | none => none
def bRl (n : Nat) (ρ : List Nat) (ls : bL) (cs : amL) : Prop := (∀ k v, bGet ls k = some v → ∃ w, amGet cs k = some w ∧ bR n ρ v w) ∧ amOkL n cs = true
def bRs (n : Nat) (ρ : List Nat) : List bV → List Value → Prop
  | [], [] => True
  | v :: vs, w :: ws => bR n ρ v w ∧ bRs n ρ vs ws
  | _, _ => False
theorem bRl_mono {n : Nat} {ρ ρ' : List Nat} (h : ρ <+: ρ') {ls : bL} {cs : amL} (hl : bRl n ρ ls cs) : bRl n ρ' ls cs :=
  ⟨fun k v e => (hl.1 k v e).imp fun _ z => ⟨z.1, bR_mono h z.2⟩, hl.2⟩
theorem bRs_mono {n : Nat} {ρ ρ' : List Nat} (h : ρ <+: ρ') : ∀ {vs : List bV} {ws : List Value}, bRs n ρ vs ws → bRs n ρ' vs ws
  | [], [], _ => trivial
  | v :: vs, w :: ws, hs => ⟨bR_mono h hs.1, bRs_mono h hs.2⟩
theorem bRs_cons {n : Nat} {ρ : List Nat} {v : bV} {vs : List bV} {ws : List Value} (h : bRs n ρ (v :: vs) ws) : ∃ w ws', ws = w :: ws' ∧ bR n ρ v w ∧ bRs n ρ vs ws' := by
  cases ws with
  | nil => cases h
  | cons w ws => exact ⟨w, ws, rfl, h.1, h.2⟩
theorem bRs_nil {n : Nat} {ρ : List Nat} {ws : List Value} (h : bRs n ρ [] ws) : ws = [] := by cases ws <;> first | rfl | cases h
theorem bRs_len {n : Nat} {ρ : List Nat} : ∀ {vs : List bV} {ws : List Value}, bRs n ρ vs ws → vs.length = ws.length
  | [], [], _ => rfl
  | v :: vs, w :: ws, h => by rw [List.length_cons, List.length_cons, bRs_len h.2]
theorem bRs_app {n : Nat} {ρ : List Nat} : ∀ {vs : List bV} {ws : List Value} {vs' : List bV} {ws' : List Value}, bRs n ρ vs ws → bRs n ρ vs' ws' → bRs n ρ (vs ++ vs') (ws ++ ws')
  | [], [], _, _, _, h => h
  | _ :: _, _ :: _, _, _, h, h' => ⟨h.1, bRs_app h.2 h'⟩
theorem bRs_take {n : Nat} {ρ : List Nat} : ∀ {k : Nat} {vs : List bV} {ws : List Value}, bRs n ρ vs ws → bRs n ρ (vs.take k) (ws.take k)
  | 0, _, _, _ => trivial
  | _ + 1, [], [], _ => trivial
  | _ + 1, _ :: _, _ :: _, h => ⟨h.1, bRs_take h.2⟩
theorem bRs_drop {n : Nat} {ρ : List Nat} : ∀ {k : Nat} {vs : List bV} {ws : List Value}, bRs n ρ vs ws → bRs n ρ (vs.drop k) (ws.drop k)
  | 0, _, _, h => h
  | _ + 1, [], [], _ => trivial
  | k + 1, _ :: vs, _ :: ws, h => bRs_drop (k := k) (vs := vs) (ws := ws) h.2
theorem bRs_rev {n : Nat} {ρ : List Nat} : ∀ {vs : List bV} {ws : List Value}, bRs n ρ vs ws → bRs n ρ vs.reverse ws.reverse
  | [], [], _ => trivial
  | v :: vs, w :: ws, h => by
    rw [List.reverse_cons, List.reverse_cons]
    exact bRs_app (bRs_rev h.2) ⟨h.1, trivial⟩
def bCs : List bV → Nat
  | [] => 0
  | v :: r => Nat.add (bCat v) (bCs r)
theorem bRs_cat {n : Nat} {ρ : List Nat} : ∀ {vs : List bV} {ws : List Value}, bRs n ρ vs ws → (ws.map fun v => v.category).sum = bCs vs
  | [], [], _ => rfl
  | v :: vs, w :: ws, h => by
    rw [List.map_cons, List.sum_cons, bRs_cat h.2, bR_cat h.1]
    rfl
theorem bRs_ok {n : Nat} {ρ : List Nat} : ∀ {vs : List bV} {ws : List Value}, bRs n ρ vs ws → amOkS n ws = true
  | [], [], _ => rfl
  | v :: vs, w :: ws, h => by
    have := bRs_ok h.2
    simp only [amOkS, List.all_cons, Bool.and_eq_true] at this ⊢
    exact ⟨bR_ok h.1, this⟩
theorem bCs_app : ∀ (a b : List bV), bCs (a ++ b) = bCs a + bCs b
  | [], b => by simp [bCs]
  | v :: a, b => by
    show bCat v + bCs (a ++ b) = bCat v + bCs a + bCs b
    rw [bCs_app a b, Nat.add_assoc]
theorem bCs_rev : ∀ (a : List bV), bCs a.reverse = bCs a
  | [] => rfl
  | v :: a => by
    rw [List.reverse_cons, bCs_app, bCs_rev a]
    show bCs a + (bCat v + 0) = bCat v + bCs a
    omega
theorem bGet_put {ls ls' : bL} {k : Nat} {o : Option bV} (h : lPut ls k o = some ls') : bGet ls' k = o ∧ ∀ j, ¬ j = k → bGet ls' j = bGet ls j := by
  obtain ⟨-, h1, h2⟩ := lPut_s h
  refine ⟨by unfold bGet; rw [h1], fun j hj => by unfold bGet; rw [h2 j hj]⟩
def bKill (ls : bL) (k : Nat) : Option bL := match k with
  | 0 => some ls
  | j + 1 => (match bGet ls j with
    | some u => (match Nat.beq (bCat u) 2 with
      | true => lPut ls j none
      | false => some ls)
    | none => some ls)
theorem bKill_s {ls l1 : bL} {k : Nat} (h : bKill ls k = some l1) : ∀ j v, bGet l1 j = some v → bGet ls j = some v ∧ (j + 1 = k → ¬ bCat v = 2) := by
  intro j v hv
  unfold bKill at h
  split at h
  · cases h; exact ⟨hv, fun z => by omega⟩
  · next i =>
    split at h
    · next u e =>
      split at h
      · next e2 =>
        obtain ⟨h1, h2⟩ := bGet_put h
        by_cases hj : j = i
        · subst hj; rw [h1] at hv; cases hv
        · rw [h2 j hj] at hv; exact ⟨hv, fun z => absurd (by omega) hj⟩
      · next e2 =>
        cases h
        refine ⟨hv, fun z => ?_⟩
        obtain rfl : j = i := by omega
        rw [hv] at e
        cases e
        intro z
        rw [z] at e2
        cases e2
    · next e =>
      cases h
      refine ⟨hv, fun z => ?_⟩
      obtain rfl : j = i := by omega
      rw [hv] at e
      cases e
def bSet1 (ls : bL) (k : Nat) (v : bV) : Option bL := match bKill ls k with
  | some l1 => lPut l1 k (some v)
  | none => none
def bSet2 (ls : bL) (k : Nat) (v : bV) : Option bL := match bKill ls k with
  | some l1 => (match lPut l1 (k + 1) none with
    | some l2 => lPut l2 k (some v)
    | none => none)
  | none => none
theorem amOkL_filter {n : Nat} {cs : amL} {p : Nat × Value → Bool} (h : amOkL n cs = true) : amOkL n (cs.filter p) = true := by
  unfold amOkL at h ⊢
  rw [List.all_eq_true] at h ⊢
  intro q hq
  exact h q (List.mem_filter.mp hq).1
theorem amOkL_cons {n : Nat} {cs : amL} {k : Nat} {w : Value} (h : amOkL n cs = true) (hw : amOk n w = true) : amOkL n ((k, w) :: cs) = true := by
  unfold amOkL at h ⊢
  rw [List.all_cons, h, hw]
  rfl
theorem bSet1_s {n : Nat} {ρ : List Nat} {ls ls' : bL} {cs : amL} {k : Nat} {v : bV} {w : Value} (h : bRl n ρ ls cs) (hv : bR n ρ v w) (e : bSet1 ls k v = some ls') : bRl n ρ ls' (amSet1 cs k w) := by
  unfold bSet1 at e
  split at e
  · next l1 e1 =>
    obtain ⟨h1, h2⟩ := bGet_put e
    refine ⟨fun j u hj => ?_, amOkL_cons (amOkL_filter h.2) (bR_ok hv)⟩
    by_cases hk : j = k
    · subst hk
      rw [h1] at hj
      cases hj
      exact ⟨w, by simp [amSet1, amGet], hv⟩
    · rw [h2 j hk] at hj
      obtain ⟨g1, g2⟩ := bKill_s e1 j u hj
      obtain ⟨w', g3, g4⟩ := h.1 j u g1
      refine ⟨w', ?_, g4⟩
      have hk2 : ¬ k = j := fun z => hk z.symm
      simp only [amSet1, amGet, hk2, if_false]
      refine amGet_filter g3 ?_
      have : ¬ (j + 1 = k ∧ w'.category = 2) := fun z => g2 z.1 (by rw [← bR_cat g4]; exact z.2)
      simp [hk]
      exact Classical.not_and_iff_not_or_not.mp this
  · cases e
theorem bSet2_s {n : Nat} {ρ : List Nat} {ls ls' : bL} {cs : amL} {k : Nat} {v : bV} {w : Value} (h : bRl n ρ ls cs) (hv : bR n ρ v w) (e : bSet2 ls k v = some ls') : bRl n ρ ls' (amSet2 cs k w) := by
  unfold bSet2 at e
  split at e
  · next l1 e1 =>
    split at e
    · next l2 e2 =>
      obtain ⟨h1, h2⟩ := bGet_put e
      obtain ⟨h3, h4⟩ := bGet_put e2
      refine ⟨fun j u hj => ?_, amOkL_cons (amOkL_filter h.2) (bR_ok hv)⟩
      by_cases hk : j = k
      · subst hk
        rw [h1] at hj
        cases hj
        exact ⟨w, by simp [amSet2, amGet], hv⟩
      · rw [h2 j hk] at hj
        by_cases hk3 : j = k + 1
        · subst hk3
          rw [h3] at hj
          cases hj
        · rw [h4 j hk3] at hj
          obtain ⟨g1, g2⟩ := bKill_s e1 j u hj
          obtain ⟨w', g3, g4⟩ := h.1 j u g1
          refine ⟨w', ?_, g4⟩
          have hk2 : ¬ k = j := fun z => hk z.symm
          simp only [amSet2, amGet, hk2, if_false]
          refine amGet_filter g3 ?_
          have : ¬ (j + 1 = k ∧ w'.category = 2) := fun z => g2 z.1 (by rw [← bR_cat g4]; exact z.2)
          simp [hk, hk3]
          exact Classical.not_and_iff_not_or_not.mp this
    · cases e
  · cases e
/-! cells by their types -/
def bRow (l : List bY) (j : Nat) : Option bY := match l with
  | [] => none
  | [y] => some y
  | _ :: z :: zs => lAt (z :: zs) j
def bDy (D : bD) (j : Nat) : Option bY := match Nat.ble 32 D.1 with
  | true => bRow D.2.2 j
  | false => lAt D.2.2 j
def bHc (n : Nat) (D : bD) (c : amC) : Prop := c.1 = D.1 ∧ c.2.length = D.2.1 ∧ ∀ (j : Nat) (w : Value), c.2[j]? = some w → ∃ y, bDy D j = some y ∧ bYr n y w
def bHk (n : Nat) (T : Nat → Option bD) (hp : amH) : Prop := hp.length = n ∧ ∀ (i : Nat) (c : amC), hp[i]? = some c → ∃ D, T i = some D ∧ bHc n D c
theorem bHk_at {n : Nat} {T : Nat → Option bD} {hp : amH} (h : bHk n T hp) {i : Nat} (hi : i < n) {D : bD} (e : T i = some D) : ∃ c, hp[i]? = some c ∧ bHc n D c := by
  have h1 : i < hp.length := by rw [h.1]; exact hi
  obtain ⟨D', e', hc⟩ := h.2 i hp[i] (List.getElem?_eq_getElem h1)
  rw [e] at e'
  cases e'
  exact ⟨_, List.getElem?_eq_getElem h1, hc⟩
theorem bHk_set {n : Nat} {T : Nat → Option bD} {hp : amH} (h : bHk n T hp) {i : Nat} {D : bD} (e : T i = some D) {c : amC} (hc : bHc n D c) : bHk n T (hp.set i c) := by
  refine ⟨by rw [List.length_set]; exact h.1, fun j d hd => ?_⟩
  by_cases hj : i = j
  · subst hj
    have : i < hp.length := by have := a_lt hd; rw [List.length_set] at this; exact this
    rw [List.getElem?_set_self this] at hd
    cases hd
    exact ⟨D, e, hc⟩
  · rw [List.getElem?_set_ne hj] at hd
    exact h.2 j d hd
theorem bHc_set {n : Nat} {D : bD} {c : amC} (h : bHc n D c) {j : Nat} {y : bY} (e : bDy D j = some y) {w : Value} (hw : bYr n y w) : bHc n D (c.1, c.2.set j w) := by
  refine ⟨h.1, by rw [List.length_set]; exact h.2.1, fun i u hu => ?_⟩
  by_cases hj : j = i
  · subst hj
    have : j < c.2.length := by have := a_lt hu; rw [List.length_set] at this; exact this
    rw [List.getElem?_set_self this] at hu
    cases hu
    exact ⟨y, e, hw⟩
  · rw [List.getElem?_set_ne hj] at hu
    exact h.2.2 i u hu
def bFld (hp : amH) (c k : Nat) : Option Value := match hp[c]? with
  | some d => d.2[k]?
  | none => none
/-- may the field k of the cell c be written (999: all of them) -/
def bIn (W : List (Nat × Nat)) (c k : Nat) : Bool := match W with
  | [] => false
  | p :: r => (match Nat.beq p.1 c with
    | true => (match Nat.beq p.2 k with
      | true => true
      | false => (match Nat.beq p.2 999 with
        | true => true
        | false => bIn r c k))
    | false => bIn r c k)
def bFr (W : List (Nat × Nat)) (hp hp1 : amH) : Prop := ∀ c k, bIn W c k = false → bFld hp1 c k = bFld hp c k
theorem bFr.refl (W : List (Nat × Nat)) (hp : amH) : bFr W hp hp := fun _ _ _ => rfl
theorem bFr.trans {W : List (Nat × Nat)} {a b c : amH} (h1 : bFr W a b) (h2 : bFr W b c) : bFr W a c := fun i k e => (h2 i k e).trans (h1 i k e)
theorem bFld_set {hp : amH} {c : Nat} {d d1 : amC} (h : hp[c]? = some d) (i k : Nat) : bFld (hp.set c d1) i k = if i = c then d1.2[k]? else bFld hp i k := by
  unfold bFld
  by_cases hi : i = c
  · subst hi
    rw [List.getElem?_set_self (a_lt h), if_pos rfl]
  · rw [List.getElem?_set_ne (fun z => hi z.symm), if_neg hi]
theorem bFr_set {W : List (Nat × Nat)} {hp : amH} {c j : Nat} {d : amC} {w : Value} (h : hp[c]? = some d) (hW : bIn W c j = true) : bFr W hp (hp.set c (d.1, d.2.set j w)) := by
  intro i k e
  rw [bFld_set h]
  split
  · next hi =>
    subst hi
    have hk : ¬ j = k := fun z => by subst z; rw [hW] at e; cases e
    rw [List.getElem?_set_ne hk]
    unfold bFld
    rw [h]
  · rfl
theorem bIn_all {W : List (Nat × Nat)} {c : Nat} (h : bIn W c 999 = true) : ∀ k, bIn W c k = true := by
  intro k
  induction W with
  | nil => cases h
  | cons p r ih =>
    unfold bIn at h ⊢
    split at h
    · next e1 =>
      try rw [e1]
      split at h
      · next e2 => cases h2 : Nat.beq p.2 k <;> simp only [e2]
      · next e2 =>
        try rw [e2] at h
        first
          | cases h
          | (cases h2 : Nat.beq p.2 k <;> simp only [e2]; exact ih h)
    · next e1 =>
      try rw [e1]
      exact ih h
/-! the state beside locals and stack -/
def bNum (ρ : List Nat) : bV → Option Nat
  | .inl k => some (k + bB)
  | .inr (.inl q) => (match ρ[q.1]? with
    | some r => some (r + q.2)
    | none => none)
  | _ => none
theorem bNum_s {n : Nat} {ρ : List Nat} {v : bV} {x : Int32} (h : bR n ρ v (.int x)) : bNum ρ v = some (aOff x + bB) := by
  match v, h with
  | .inl k, ⟨y, e, h⟩ => cases e; rw [← h]; rfl
  | .inr (.inl q), ⟨y, r, e, h1, h2⟩ =>
    cases e
    unfold bNum
    dsimp only
    rw [h1, h2]
  | .inr (.inr (.inl t)), h =>
    rcases h with ⟨-, x, h⟩ | ⟨-, x, h, -⟩ | ⟨-, x, h, -⟩ | ⟨-, h⟩ | ⟨-, h⟩ <;> cases h
  | .inr (.inr (.inr l)), ⟨_, h, _⟩ => cases h
theorem bNum_mono {ρ ρ' : List Nat} (h : ρ <+: ρ') {v : bV} {a : Nat} (hv : bNum ρ v = some a) : bNum ρ' v = some a := by
  obtain ⟨z, rfl⟩ := h
  match v, hv with
  | .inl k, hv => exact hv
  | .inr (.inl q), hv =>
    unfold bNum at hv ⊢
    dsimp only at hv ⊢
    split at hv
    · next r e => rw [List.getElem?_append_left (a_lt e), e]; exact hv
    · cases hv
def bRS (n : Nat) (ρ : List Nat) (S : bS) (hp : amH) : Prop := bRE ρ S.1 ∧ (∀ f ∈ S.2.1, ∃ w, bFld hp f.1 f.2.1 = some w ∧ bR n ρ f.2.2 w) ∧ (∀ r ∈ S.2.2.1, ∃ a b, bNum ρ r.1 = some a ∧ bNum ρ r.2 = some b ∧ a ≤ b) ∧
  (∀ m ∈ S.2.2.2, ∃ x y : Int32, bR n ρ m.1 (.int x) ∧ bR n ρ m.2.1 (.int y) ∧ bR n ρ m.2.2 (.int (x + y)))
theorem bRS_ext {n : Nat} {ρ ρ' : List Nat} {S : bS} {hp : amH} (h : ρ <+: ρ') (hS : bRS n ρ S hp) {E : bE} (hE : bRE ρ' E) : bRS n ρ' (E, S.2) hp :=
  ⟨hE, fun f hf => (hS.2.1 f hf).imp fun _ z => ⟨z.1, bR_mono h z.2⟩, fun r hr => by
    obtain ⟨a, b, h1, h2, h3⟩ := hS.2.2.1 r hr
    exact ⟨a, b, bNum_mono h h1, bNum_mono h h2, h3⟩, fun m hm => by
    obtain ⟨x, y, h1, h2, h3⟩ := hS.2.2.2 m hm
    exact ⟨x, y, bR_mono h h1, bR_mono h h2, bR_mono h h3⟩⟩
def bRel (n : Nat) (T : Nat → Option bD) (ρ : List Nat) (ls : bL) (st : List bV) (S : bS) (cl : amL) (cs : List Value) (hp : amH) : Prop := bRl n ρ ls cl ∧ bRs n ρ st cs ∧ bRS n ρ S hp ∧ bHk n T hp
abbrev bCf : Type := Nat × bL × List bV × bS
abbrev bA : Type := bL → List bV → bS → Option (List bCf)
/-- an instruction over invariants: what it does to a state that is related, is among what is said -/
def bOk (n : Nat) (T : Nat → Option bD) (W : List (Nat × Nat)) (act : bA) (cf : amL → List Value → amH → Option amR) : Prop :=
  ∀ (ls : bL) (st : List bV) (S : bS) (L : List bCf) (ρ : List Nat) (cl : amL) (cs : List Value) (hp : amH), act ls st S = some L → bRel n T ρ ls st S cl cs hp →
    ∃ r, cf cl cs hp = some r ∧ ∃ g ∈ L, ∃ ρ', ρ <+: ρ' ∧ g.1 = r.1 ∧ bRel n T ρ' g.2.1 g.2.2.1 g.2.2.2 r.2.1 r.2.2.1 r.2.2.2 ∧ bFr W hp r.2.2.2
