/-! ##### 13.b.bloc ##### -/
section
/-! ===== runs over invariants: locals, stacks, cells by their types, what a run may write ===== -/
def bGet (ls : bL) (k : Nat) : Option bV := match lAt ls k with
  | some o => o
  | none => none
def bRl (n : Nat) (ρ : List Nat) (ls : bL) (cs : amL) : Prop := (∀ k v, bGet ls k = some v → ∃ w, amGet cs k = some w ∧ bR n ρ v w) ∧ amOkL n cs = true
def bRs (n : Nat) (ρ : List Nat) : List bV → List Value → Prop
  | [], [] => True
  | v :: vs, w :: ws => bR n ρ v w ∧ bRs n ρ vs ws
  | _, _ => False
theorem bRl_mono {n : Nat} {ρ ρ' : List Nat} (h : ρ <+: ρ') {ls : bL} {cs : amL} (hl : bRl n ρ ls cs) : bRl n ρ' ls cs :=
  ⟨fun k v e => (hl.1 k v e).imp fun _ z => ⟨z.1, bR_mono h z.2⟩, hl.2⟩
theorem bRs_mono {n : Nat} {ρ ρ' : List Nat} (h : ρ <+: ρ') : ∀ {vs : List bV} {ws : List Value}, bRs n ρ vs ws → bRs n ρ' vs ws
  | [], [], _ => trivial
  | v :: vs, w :: ws, hs => ⟨bR_mono h hs.1, bRs_mono h hs.2⟩
theorem bRs_cons {n : Nat} {ρ : List Nat} {v : bV} {vs : List bV} {ws : List Value} (h : bRs n ρ (v :: vs) ws) : ∃ w ws', ws = w :: ws' ∧ bR n ρ v w ∧ bRs n ρ vs ws' := by
  cases ws with
  | nil => cases h
  | cons w ws => exact ⟨w, ws, rfl, h.1, h.2⟩
theorem bRs_nil {n : Nat} {ρ : List Nat} {ws : List Value} (h : bRs n ρ [] ws) : ws = [] := by cases ws <;> first | rfl | cases h
theorem bRs_len {n : Nat} {ρ : List Nat} : ∀ {vs : List bV} {ws : List Value}, bRs n ρ vs ws → vs.length = ws.length
  | [], [], _ => rfl
  | v :: vs, w :: ws, h => by rw [List.length_cons, List.length_cons, bRs_len h.2]
theorem bRs_app {n : Nat} {ρ : List Nat} : ∀ {vs : List bV} {ws : List Value} {vs' : List bV} {ws' : List Value}, bRs n ρ vs ws → bRs n ρ vs' ws' → bRs n ρ (vs ++ vs') (ws ++ ws')
  | [], [], _, _, _, h => h
  | _ :: _, _ :: _, _, _, h, h' => ⟨h.1, bRs_app h.2 h'⟩
theorem bRs_take {n : Nat} {ρ : List Nat} : ∀ {k : Nat} {vs : List bV} {ws : List Value}, bRs n ρ vs ws → bRs n ρ (vs.take k) (ws.take k)
  | 0, _, _, _ => trivial
  | _ + 1, [], [], _ => trivial
  | _ + 1, _ :: _, _ :: _, h => ⟨h.1, bRs_take h.2⟩
theorem bRs_drop {n : Nat} {ρ : List Nat} : ∀ {k : Nat} {vs : List bV} {ws : List Value}, bRs n ρ vs ws → bRs n ρ (vs.drop k) (ws.drop k)
  | 0, _, _, h => h
  | _ + 1, [], [], _ => trivial
  | k + 1, _ :: vs, _ :: ws, h => bRs_drop (k := k) (vs := vs) (ws := ws) h.2
theorem bRs_rev {n : Nat} {ρ : List Nat} : ∀ {vs : List bV} {ws : List Value}, bRs n ρ vs ws → bRs n ρ vs.reverse ws.reverse
  | [], [], _ => trivial
  | v :: vs, w :: ws, h => by
    rw [List.reverse_cons, List.reverse_cons]
    exact bRs_app (bRs_rev h.2) ⟨h.1, trivial⟩
def bCs : List bV → Nat
  | [] => 0
  | v :: r => Nat.add (bCat v) (bCs r)
theorem bRs_cat {n : Nat} {ρ : List Nat} : ∀ {vs : List bV} {ws : List Value}, bRs n ρ vs ws → (ws.map fun v => v.category).sum = bCs vs
  | [], [], _ => rfl
  | v :: vs, w :: ws, h => by
    rw [List.map_cons, List.sum_cons, bRs_cat h.2, bR_cat h.1]
    rfl
theorem bRs_ok {n : Nat} {ρ : List Nat} : ∀ {vs : List bV} {ws : List Value}, bRs n ρ vs ws → amOkS n ws = true
  | [], [], _ => rfl
  | v :: vs, w :: ws, h => by
    have := bRs_ok h.2
    simp only [amOkS, List.all_cons, Bool.and_eq_true] at this ⊢
    exact ⟨bR_ok h.1, this⟩
theorem bCs_app : ∀ (a b : List bV), bCs (a ++ b) = bCs a + bCs b
  | [], b => by simp [bCs]
  | v :: a, b => by
    show bCat v + bCs (a ++ b) = bCat v + bCs a + bCs b
    rw [bCs_app a b, Nat.add_assoc]
theorem bCs_rev : ∀ (a : List bV), bCs a.reverse = bCs a
  | [] => rfl
  | v :: a => by
    rw [List.reverse_cons, bCs_app, bCs_rev a]
    show bCs a + (bCat v + 0) = bCat v + bCs a
    omega
theorem bGet_put {ls ls' : bL} {k : Nat} {o : Option bV} (h : lPut ls k o = some ls') : bGet ls' k = o ∧ ∀ j, ¬ j = k → bGet ls' j = bGet ls j := by
  obtain ⟨-, h1, h2⟩ := lPut_s h
  refine ⟨by unfold bGet; rw [h1], fun j hj => by unfold bGet; rw [h2 j hj]⟩
def bKill (ls : bL) (k : Nat) : Option bL := match k with
  | 0 => some ls
  | j + 1 => (match bGet ls j with
    | some u => (match Nat.beq (bCat u) 2 with
      | true => lPut ls j none
      | false => some ls)
    | none => some ls)
theorem bKill_s {ls l1 : bL} {k : Nat} (h : bKill ls k = some l1) : ∀ j v, bGet l1 j = some v → bGet ls j = some v ∧ (j + 1 = k → ¬ bCat v = 2) := by
  intro j v hv
  unfold bKill at h
  split at h
  · cases h; exact ⟨hv, fun z => by omega⟩
  · next i =>
    split at h
    · next u e =>
      split at h
      · next e2 =>
        obtain ⟨h1, h2⟩ := bGet_put h
        by_cases hj : j = i
        · subst hj; rw [h1] at hv; cases hv
        · rw [h2 j hj] at hv; exact ⟨hv, fun z => absurd (by omega) hj⟩
      · next e2 =>
        cases h
        refine ⟨hv, fun z => ?_⟩
        obtain rfl : j = i := by omega
        rw [hv] at e
        cases e
        intro z
        rw [z] at e2
        cases e2
    · next e =>
      cases h
      refine ⟨hv, fun z => ?_⟩
      obtain rfl : j = i := by omega
      rw [hv] at e
      cases e
def bSet1 (ls : bL) (k : Nat) (v : bV) : Option bL := match bKill ls k with
  | some l1 => lPut l1 k (some v)
  | none => none
def bSet2 (ls : bL) (k : Nat) (v : bV) : Option bL := match bKill ls k with
  | some l1 => (match lPut l1 (k + 1) none with
    | some l2 => lPut l2 k (some v)
    | none => none)
  | none => none
theorem amOkL_filter {n : Nat} {cs : amL} {p : Nat × Value → Bool} (h : amOkL n cs = true) : amOkL n (cs.filter p) = true := by
  unfold amOkL at h ⊢
  rw [List.all_eq_true] at h ⊢
  intro q hq
  exact h q (List.mem_filter.mp hq).1
theorem amOkL_cons {n : Nat} {cs : amL} {k : Nat} {w : Value} (h : amOkL n cs = true) (hw : amOk n w = true) : amOkL n ((k, w) :: cs) = true := by
  unfold amOkL at h ⊢
  rw [List.all_cons, h, hw]
  rfl
theorem bSet1_s {n : Nat} {ρ : List Nat} {ls ls' : bL} {cs : amL} {k : Nat} {v : bV} {w : Value} (h : bRl n ρ ls cs) (hv : bR n ρ v w) (e : bSet1 ls k v = some ls') : bRl n ρ ls' (amSet1 cs k w) := by
  unfold bSet1 at e
  split at e
  · next l1 e1 =>
    obtain ⟨h1, h2⟩ := bGet_put e
    refine ⟨fun j u hj => ?_, amOkL_cons (amOkL_filter h.2) (bR_ok hv)⟩
    by_cases hk : j = k
    · subst hk
      rw [h1] at hj
      cases hj
      exact ⟨w, by simp [amSet1, amGet], hv⟩
    · rw [h2 j hk] at hj
      obtain ⟨g1, g2⟩ := bKill_s e1 j u hj
      obtain ⟨w', g3, g4⟩ := h.1 j u g1
      refine ⟨w', ?_, g4⟩
      have hk2 : ¬ k = j := fun z => hk z.symm
      simp only [amSet1, amGet, hk2, if_false]
      refine amGet_filter g3 ?_
      have : ¬ (j + 1 = k ∧ w'.category = 2) := fun z => g2 z.1 (by rw [← bR_cat g4]; exact z.2)
      simp [hk]
      exact Classical.not_and_iff_not_or_not.mp this
  · cases e
theorem bSet2_s {n : Nat} {ρ : List Nat} {ls ls' : bL} {cs : amL} {k : Nat} {v : bV} {w : Value} (h : bRl n ρ ls cs) (hv : bR n ρ v w) (e : bSet2 ls k v = some ls') : bRl n ρ ls' (amSet2 cs k w) := by
  unfold bSet2 at e
  split at e
  · next l1 e1 =>
    split at e
    · next l2 e2 =>
      obtain ⟨h1, h2⟩ := bGet_put e
      obtain ⟨h3, h4⟩ := bGet_put e2
      refine ⟨fun j u hj => ?_, amOkL_cons (amOkL_filter h.2) (bR_ok hv)⟩
      by_cases hk : j = k
      · subst hk
        rw [h1] at hj
        cases hj
        exact ⟨w, by simp [amSet2, amGet], hv⟩
      · rw [h2 j hk] at hj
        by_cases hk3 : j = k + 1
        · subst hk3
          rw [h3] at hj
          cases hj
        · rw [h4 j hk3] at hj
          obtain ⟨g1, g2⟩ := bKill_s e1 j u hj
          obtain ⟨w', g3, g4⟩ := h.1 j u g1
          refine ⟨w', ?_, g4⟩
          have hk2 : ¬ k = j := fun z => hk z.symm
          simp only [amSet2, amGet, hk2, if_false]
          refine amGet_filter g3 ?_
          have : ¬ (j + 1 = k ∧ w'.category = 2) := fun z => g2 z.1 (by rw [← bR_cat g4]; exact z.2)
          simp [hk, hk3]
          exact Classical.not_and_iff_not_or_not.mp this
    · cases e
  · cases e
/-! cells by their types -/
def bRow (l : List bY) (j : Nat) : Option bY := match l with
  | [] => none
  | [y] => some y
  | _ :: z :: zs => lAt (z :: zs) j
def bDy (D : bD) (j : Nat) : Option bY := match Nat.ble 32 D.1 with
  | true => bRow D.2.2 j
  | false => lAt D.2.2 j
def bHc (n : Nat) (D : bD) (c : amC) : Prop := c.1 = D.1 ∧ c.2.length = D.2.1 ∧ ∀ (j : Nat) (w : Value), c.2[j]? = some w → ∃ y, bDy D j = some y ∧ bYr n y w
def bHk (n : Nat) (T : Nat → Option bD) (hp : amH) : Prop := hp.length = n ∧ ∀ (i : Nat) (c : amC), hp[i]? = some c → ∃ D, T i = some D ∧ bHc n D c
theorem bHk_at {n : Nat} {T : Nat → Option bD} {hp : amH} (h : bHk n T hp) {i : Nat} (hi : i < n) {D : bD} (e : T i = some D) : ∃ c, hp[i]? = some c ∧ bHc n D c := by
  have h1 : i < hp.length := by rw [h.1]; exact hi
  obtain ⟨D', e', hc⟩ := h.2 i hp[i] (List.getElem?_eq_getElem h1)
  rw [e] at e'
  cases e'
  exact ⟨_, List.getElem?_eq_getElem h1, hc⟩
theorem bHk_set {n : Nat} {T : Nat → Option bD} {hp : amH} (h : bHk n T hp) {i : Nat} {D : bD} (e : T i = some D) {c : amC} (hc : bHc n D c) : bHk n T (hp.set i c) := by
  refine ⟨by rw [List.length_set]; exact h.1, fun j d hd => ?_⟩
  by_cases hj : i = j
  · subst hj
    have : i < hp.length := by have := a_lt hd; rw [List.length_set] at this; exact this
    rw [List.getElem?_set_self this] at hd
    cases hd
    exact ⟨D, e, hc⟩
  · rw [List.getElem?_set_ne hj] at hd
    exact h.2 j d hd
theorem bHc_set {n : Nat} {D : bD} {c : amC} (h : bHc n D c) {j : Nat} {y : bY} (e : bDy D j = some y) {w : Value} (hw : bYr n y w) : bHc n D (c.1, c.2.set j w) := by
  refine ⟨h.1, by rw [List.length_set]; exact h.2.1, fun i u hu => ?_⟩
  by_cases hj : j = i
  · subst hj
    have : j < c.2.length := by have := a_lt hu; rw [List.length_set] at this; exact this
    rw [List.getElem?_set_self this] at hu
    cases hu
    exact ⟨y, e, hw⟩
  · rw [List.getElem?_set_ne hj] at hu
    exact h.2.2 i u hu
def bFld (hp : amH) (c k : Nat) : Option Value := match hp[c]? with
  | some d => d.2[k]?
  | none => none
/-- may the field k of the cell c be written (999: all of them) -/
def bIn (W : List (Nat × Nat)) (c k : Nat) : Bool := match W with
  | [] => false
  | p :: r => (match Nat.beq p.1 c with
    | true => (match Nat.beq p.2 k with
      | true => true
      | false => (match Nat.beq p.2 999 with
        | true => true
        | false => bIn r c k))
    | false => bIn r c k)
def bFr (W : List (Nat × Nat)) (hp hp1 : amH) : Prop := ∀ c k, bIn W c k = false → bFld hp1 c k = bFld hp c k
theorem bFr.refl (W : List (Nat × Nat)) (hp : amH) : bFr W hp hp := fun _ _ _ => rfl
theorem bFr.trans {W : List (Nat × Nat)} {a b c : amH} (h1 : bFr W a b) (h2 : bFr W b c) : bFr W a c := fun i k e => (h2 i k e).trans (h1 i k e)
theorem bFld_set {hp : amH} {c : Nat} {d d1 : amC} (h : hp[c]? = some d) (i k : Nat) : bFld (hp.set c d1) i k = if i = c then d1.2[k]? else bFld hp i k := by
  unfold bFld
  by_cases hi : i = c
  · subst hi
    rw [List.getElem?_set_self (a_lt h), if_pos rfl]
  · rw [List.getElem?_set_ne (fun z => hi z.symm), if_neg hi]
theorem bFr_set {W : List (Nat × Nat)} {hp : amH} {c j : Nat} {d : amC} {w : Value} (h : hp[c]? = some d) (hW : bIn W c j = true) : bFr W hp (hp.set c (d.1, d.2.set j w)) := by
  intro i k e
  rw [bFld_set h]
  split
  · next hi =>
    subst hi
    have hk : ¬ j = k := fun z => by subst z; rw [hW] at e; cases e
    rw [List.getElem?_set_ne hk]
    unfold bFld
    rw [h]
  · rfl
theorem bIn_all {W : List (Nat × Nat)} {c : Nat} (h : bIn W c 999 = true) : ∀ k, bIn W c k = true := by
  intro k
  induction W with
  | nil => cases h
  | cons p r ih =>
    unfold bIn at h ⊢
    split at h
    · next e1 =>
      try rw [e1]
      split at h
      · next e2 => cases h2 : Nat.beq p.2 k <;> simp only [e2]
      · next e2 =>
        try rw [e2] at h
        first
          | cases h
          | (cases h2 : Nat.beq p.2 k <;> simp only [e2]; exact ih h)
    · next e1 =>
      try rw [e1]
      exact ih h
/-! the state beside locals and stack -/
def bNum (ρ : List Nat) : bV → Option Nat
  | .inl k => some (k + bB)
  | .inr (.inl q) => (match ρ[q.1]? with
    | some r => some (r + q.2)
    | none => none)
  | _ => none
theorem bNum_s {n : Nat} {ρ : List Nat} {v : bV} {x : Int32} (h : bR n ρ v (.int x)) : bNum ρ v = some (aOff x + bB) := by
  match v, h with
  | .inl k, ⟨y, e, h⟩ => cases e; rw [← h]; rfl
  | .inr (.inl q), ⟨y, r, e, h1, h2⟩ =>
    cases e
    unfold bNum
    dsimp only
    rw [h1, h2]
  | .inr (.inr (.inl t)), h =>
    rcases h with ⟨-, x, h⟩ | ⟨-, x, h, -⟩ | ⟨-, x, h, -⟩ | ⟨-, h⟩ | ⟨-, h⟩ <;> cases h
  | .inr (.inr (.inr l)), ⟨_, h, _⟩ => cases h
theorem bNum_mono {ρ ρ' : List Nat} (h : ρ <+: ρ') {v : bV} {a : Nat} (hv : bNum ρ v = some a) : bNum ρ' v = some a := by
  obtain ⟨z, rfl⟩ := h
  match v, hv with
  | .inl k, hv => exact hv
  | .inr (.inl q), hv =>
    unfold bNum at hv ⊢
    dsimp only at hv ⊢
    split at hv
    · next r e => rw [List.getElem?_append_left (a_lt e), e]; exact hv
    · cases hv
def bRS (n : Nat) (ρ : List Nat) (S : bS) (hp : amH) : Prop := bRE ρ S.1 ∧ (∀ f ∈ S.2.1, ∃ w, bFld hp f.1 f.2.1 = some w ∧ bR n ρ f.2.2 w) ∧ (∀ r ∈ S.2.2.1, ∃ a b, bNum ρ r.1 = some a ∧ bNum ρ r.2 = some b ∧ a ≤ b) ∧
  (∀ m ∈ S.2.2.2, ∃ x y : Int32, bR n ρ m.1 (.int x) ∧ bR n ρ m.2.1 (.int y) ∧ bR n ρ m.2.2 (.int (x + y)))
theorem bRS_ext {n : Nat} {ρ ρ' : List Nat} {S : bS} {hp : amH} (h : ρ <+: ρ') (hS : bRS n ρ S hp) {E : bE} (hE : bRE ρ' E) : bRS n ρ' (E, S.2) hp :=
  ⟨hE, fun f hf => (hS.2.1 f hf).imp fun _ z => ⟨z.1, bR_mono h z.2⟩, fun r hr => by
    obtain ⟨a, b, h1, h2, h3⟩ := hS.2.2.1 r hr
    exact ⟨a, b, bNum_mono h h1, bNum_mono h h2, h3⟩, fun m hm => by
    obtain ⟨x, y, h1, h2, h3⟩ := hS.2.2.2 m hm
    exact ⟨x, y, bR_mono h h1, bR_mono h h2, bR_mono h h3⟩⟩
def bRel (n : Nat) (T : Nat → Option bD) (ρ : List Nat) (ls : bL) (st : List bV) (S : bS) (cl : amL) (cs : List Value) (hp : amH) : Prop := bRl n ρ ls cl ∧ bRs n ρ st cs ∧ bRS n ρ S hp ∧ bHk n T hp
abbrev bCf : Type := Nat × bL × List bV × bS
abbrev bA : Type := bL → List bV → bS → Option (List bCf)
/-- an instruction over invariants: what it does to a state that is related, is among what is said -/
def bOk (n : Nat) (T : Nat → Option bD) (W : List (Nat × Nat)) (act : bA) (cf : amL → List Value → amH → Option amR) : Prop :=
  ∀ (ls : bL) (st : List bV) (S : bS) (L : List bCf) (ρ : List Nat) (cl : amL) (cs : List Value) (hp : amH), act ls st S = some L → bRel n T ρ ls st S cl cs hp →
    ∃ r, cf cl cs hp = some r ∧ ∃ g ∈ L, ∃ ρ', ρ <+: ρ' ∧ g.1 = r.1 ∧ bRel n T ρ' g.2.1 g.2.2.1 g.2.2.2 r.2.1 r.2.2.1 r.2.2.2 ∧ bFr W hp r.2.2.2
end
/-! ##### 13.c.bnar ##### -/
section
/-! ===== runs over invariants: bounds made narrower by what was compared ===== -/
def bIvN (E : bE) : bV → Option (Nat × Nat)
  | .inl k => some (Nat.add k bB, Nat.add k bB)
  | .inr (.inl q) => (match lAt E q.1 with
    | some r => some (Nat.add r.1 q.2, Nat.add r.2 q.2)
    | none => none)
  | _ => none
theorem bIvN_s {ρ : List Nat} {E : bE} (hE : bRE ρ E) {v : bV} {q : Nat × Nat} (h : bIvN E v = some q) {m : Nat} (hm : bNum ρ v = some m) : q.1 ≤ m ∧ m ≤ q.2 := by
  match v, h, hm with
  | .inl k, h, hm =>
    have h := Option.some.inj h
    have hm := Option.some.inj hm
    subst h
    subst hm
    exact ⟨Nat.le_refl _, Nat.le_refl _⟩
  | .inr (.inl p), h, hm =>
    simp only [bIvN] at h
    simp only [bNum] at hm
    split at h
    · next s e =>
      have h := Option.some.inj h
      subst h
      rw [lAt_eq] at e
      obtain ⟨r, g1, g2, g3⟩ := hE.2 p.1 s.1 s.2 e
      rw [g1] at hm
      have hm := Option.some.inj hm
      subst hm
      exact ⟨Nat.add_le_add_right g2 _, Nat.add_le_add_right g3 _⟩
    · cases h
theorem bIvN_some {ρ : List Nat} {E : bE} (hE : bRE ρ E) {v : bV} {m : Nat} (hm : bNum ρ v = some m) : ∃ q, bIvN E v = some q := by
  match v, hm with
  | .inl k, hm => exact ⟨_, rfl⟩
  | .inr (.inl p), hm =>
    simp only [bNum] at hm
    simp only [bIvN, lAt_eq]
    split at hm
    · next r e =>
      have h1 : p.1 < E.length := by rw [← hE.1]; exact a_lt e
      rw [List.getElem?_eq_getElem h1]
      exact ⟨_, rfl⟩
    · cases hm
theorem lPut_ex {α : Type} : ∀ {l : List α} {i : Nat} {o : α} (v : α), l[i]? = some o → ∃ l', lPut l i v = some l'
  | u :: r, 0, _, v, _ => ⟨v :: r, rfl⟩
  | u :: r, i + 1, o, v, h => by
    obtain ⟨l', e⟩ := lPut_ex (l := r) (i := i) v (by simpa using h)
    exact ⟨u :: l', by unfold lPut; rw [e]⟩
theorem lPut_len {α : Type} : ∀ {l l' : List α} {i : Nat} {v : α}, lPut l i v = some l' → l'.length = l.length
  | u :: r, l', 0, v, h => by cases h; rfl
  | u :: r, l', i + 1, v, h => by
    unfold lPut at h
    split at h
    · next r' e => cases h; rw [List.length_cons, List.length_cons, lPut_len e]
    · cases h
theorem bRE_put {ρ : List Nat} {E E' : bE} (hE : bRE ρ E) {i : Nat} {q : Nat × Nat} {r : Nat} (h : lPut E i q = some E') (hr : ρ[i]? = some r) (h1 : q.1 ≤ r) (h2 : r ≤ q.2) : bRE ρ E' := by
  obtain ⟨-, g1, g2⟩ := lPut_s h
  refine ⟨by rw [lPut_len h]; exact hE.1, fun j a b e => ?_⟩
  by_cases hj : j = i
  · subst hj
    rw [← lAt_eq, g1] at e
    cases e
    exact ⟨r, hr, h1, h2⟩
  · rw [← lAt_eq, g2 j hj, lAt_eq] at e
    exact hE.2 j a b e
def bCap1 (B : Nat) (E : bE) (k m : Nat) : Option bE := match Nat.ble (Nat.add k B) m with
  | true => some E
  | false => none
theorem bCap1_s {B : Nat} {E : bE} {k a m : Nat} (hv : k + B = a) (h : a ≤ m) : bCap1 B E k m = some E := by
  have e0 : ∀ x y : Nat, x ≤ y → Nat.ble x y = true := fun x y h => Nat.ble_eq.mpr h
  unfold bCap1
  rw [Nat.add_eq, hv, e0 a m h]
/-- what is at most m -/
def bCap (E : bE) (v : bV) (m : Nat) : Option bE := match v with
  | .inl k => bCap1 bB E k m
  | .inr (.inl q) => (match lAt E q.1 with
    | some r => (match Nat.ble (Nat.add r.1 q.2) m with
      | true => (match Nat.ble (Nat.add r.2 q.2) m with
        | true => some E
        | false => lPut E q.1 (r.1, Nat.sub m q.2))
      | false => none)
    | none => none)
  | _ => none
/-- what is at least m -/
def bFlr (E : bE) (v : bV) (m : Nat) : Option bE := match v with
  | .inl k => (match Nat.ble m (Nat.add k bB) with
    | true => some E
    | false => none)
  | .inr (.inl q) => (match lAt E q.1 with
    | some r => (match Nat.ble m (Nat.add r.2 q.2) with
      | true => (match Nat.ble m (Nat.add r.1 q.2) with
        | true => some E
        | false => lPut E q.1 (Nat.sub m q.2, r.2))
      | false => none)
    | none => none)
  | _ => none
theorem bCap_s {ρ : List Nat} {E : bE} (hE : bRE ρ E) {v : bV} {a m : Nat} (hv : bNum ρ v = some a) (h : a ≤ m) : ∃ E', bCap E v m = some E' ∧ bRE ρ E' := by
  have e0 : ∀ x y : Nat, x ≤ y → Nat.ble x y = true := fun x y h => Nat.ble_eq.mpr h
  match v, hv with
  | .inl k, hv => exact ⟨E, bCap1_s (Option.some.inj hv) h, hE⟩
  | .inr (.inl q), hv =>
    simp only [bNum] at hv
    split at hv
    · next r e =>
      have hv := Option.some.inj hv
      subst hv
      have h1 : q.1 < E.length := by rw [← hE.1]; exact a_lt e
      obtain ⟨r', g1, g2, g3⟩ := hE.2 q.1 E[q.1].1 E[q.1].2 (List.getElem?_eq_getElem h1)
      rw [e] at g1
      cases g1
      have h2 : E[q.1].1 + q.2 ≤ m := Nat.le_trans (Nat.add_le_add_right g2 _) h
      have h3 : r ≤ m - q.2 := Nat.le_sub_of_add_le h
      delta bCap
      dsimp only
      rw [lAt_eq, List.getElem?_eq_getElem h1]
      dsimp only
      rw [Nat.add_eq, Nat.add_eq, Nat.sub_eq, e0 _ _ h2]
      dsimp only
      split
      · exact ⟨E, rfl, hE⟩
      · obtain ⟨E', e'⟩ := lPut_ex (E[q.1].1, m - q.2) (List.getElem?_eq_getElem h1)
        exact ⟨E', e', bRE_put hE e' e g2 h3⟩
    · cases hv
theorem bFlr_s {ρ : List Nat} {E : bE} (hE : bRE ρ E) {v : bV} {a m : Nat} (hv : bNum ρ v = some a) (h : m ≤ a) : ∃ E', bFlr E v m = some E' ∧ bRE ρ E' := by
  match v, hv with
  | .inl k, hv =>
    have hv := Option.some.inj hv
    subst hv
    refine ⟨E, ?_, hE⟩
    simp only [bFlr]
    rw [show Nat.ble m (Nat.add k bB) = true from Nat.ble_eq.mpr h]
  | .inr (.inl q), hv =>
    simp only [bNum] at hv
    split at hv
    · next r e =>
      have hv := Option.some.inj hv
      subst hv
      have h1 : q.1 < E.length := by rw [← hE.1]; exact a_lt e
      obtain ⟨r', g1, g2, g3⟩ := hE.2 q.1 E[q.1].1 E[q.1].2 (List.getElem?_eq_getElem h1)
      rw [e] at g1
      cases g1
      simp only [bFlr, lAt_eq, List.getElem?_eq_getElem h1]
      rw [show Nat.ble m (Nat.add E[q.1].2 q.2) = true from Nat.ble_eq.mpr (by show m ≤ E[q.1].2 + q.2; omega)]
      dsimp only
      split
      · exact ⟨E, rfl, hE⟩
      · obtain ⟨E', e'⟩ := lPut_ex (Nat.sub m q.2, E[q.1].2) (List.getElem?_eq_getElem h1)
        exact ⟨E', e', bRE_put hE e' e (by show m - q.2 ≤ r; omega) g3⟩
    · cases hv
/-- the first is at most the second -/
def bLq (E : bE) (u v : bV) : Option bE := match bIvN E v with
  | some q => (match bCap E u q.2 with
    | some E1 => (match bIvN E1 u with
      | some p => bFlr E1 v p.1
      | none => none)
    | none => none)
  | none => none
theorem bLq_s {ρ : List Nat} {E : bE} (hE : bRE ρ E) {u v : bV} {a b : Nat} (hu : bNum ρ u = some a) (hv : bNum ρ v = some b) (h : a ≤ b) : ∃ E', bLq E u v = some E' ∧ bRE ρ E' := by
  obtain ⟨q, e1⟩ := bIvN_some hE hv
  have h1 := bIvN_s hE e1 hv
  obtain ⟨E1, e2, hE1⟩ := bCap_s hE hu (Nat.le_trans h h1.2)
  obtain ⟨p, e3⟩ := bIvN_some hE1 hu
  have h2 := bIvN_s hE1 e3 hu
  obtain ⟨E2, e4, hE2⟩ := bFlr_s hE1 hv (Nat.le_trans h2.1 h)
  exact ⟨E2, by unfold bLq; rw [e1]; dsimp only; rw [e2]; dsimp only; rw [e3]; exact e4, hE2⟩
def bLqs (E : bE) : bRt → Option bE
  | [] => some E
  | r :: R => (match bLq E r.1 r.2 with
    | some E1 => bLqs E1 R
    | none => none)
theorem bLqs_s {ρ : List Nat} : ∀ {R : bRt} {E : bE}, bRE ρ E → (∀ r ∈ R, ∃ a b, bNum ρ r.1 = some a ∧ bNum ρ r.2 = some b ∧ a ≤ b) → ∃ E', bLqs E R = some E' ∧ bRE ρ E'
  | [], E, hE, _ => ⟨E, rfl, hE⟩
  | r :: R, E, hE, hR => by
    obtain ⟨a, b, h1, h2, h3⟩ := hR r List.mem_cons_self
    obtain ⟨E1, e1, hE1⟩ := bLq_s hE h1 h2 h3
    obtain ⟨E2, e2, hE2⟩ := bLqs_s (R := R) hE1 (fun r hr => hR r (List.mem_cons_of_mem _ hr))
    exact ⟨E2, by unfold bLqs; rw [e1]; exact e2, hE2⟩
def bSym : bV → Bool
  | .inr (.inl _) => true
  | _ => false
/-- is the second known to be below the first -/
def bGtK (u v : bV) : Bool := match u with
  | .inr (.inl p) => (match v with
    | .inr (.inl q) => (match Nat.beq p.1 q.1 with
      | true => Nat.ble (Nat.add q.2 1) p.2
      | false => false)
    | _ => false)
  | _ => false
theorem bGtK_s {ρ : List Nat} {u v : bV} {a b : Nat} (h : bGtK u v = true) (hu : bNum ρ u = some a) (hv : bNum ρ v = some b) : b < a := by
  unfold bGtK at h
  split at h
  · next p =>
    split at h
    · next q =>
      split at h
      · next e =>
        have e := Nat.eq_of_beq_eq_true e
        have h := a_lt1 h
        simp only [bNum] at hu hv
        rw [e] at hu
        split at hv
        · next r e2 =>
          rw [e2] at hu
          have hu := Option.some.inj hu
          have hv := Option.some.inj hv
          omega
        · cases hv
      · cases h
    · cases h
  · cases h
def bLqS (S : bS) (u v : bV) : Option bS := match bGtK u v with
  | true => none
  | false => (match bLq S.1 u v with
    | some E1 => (match bSym u with
      | true => (match bSym v with
        | true => (match bLqs E1 S.2.2.1 with
          | some E2 => some (E2, S.2.1, (u, v) :: S.2.2.1, S.2.2.2)
          | none => none)
        | false => (match bLqs E1 S.2.2.1 with
          | some E2 => some (E2, S.2)
          | none => none))
      | false => (match bLqs E1 S.2.2.1 with
        | some E2 => some (E2, S.2)
        | none => none))
    | none => none)
theorem bLqS_s {n : Nat} {ρ : List Nat} {S : bS} {hp : amH} (hS : bRS n ρ S hp) {u v : bV} {a b : Nat} (hu : bNum ρ u = some a) (hv : bNum ρ v = some b) (h : a ≤ b) : ∃ S', bLqS S u v = some S' ∧ bRS n ρ S' hp := by
  obtain ⟨E1, e1, hE1⟩ := bLq_s hS.1 hu hv h
  obtain ⟨E2, e2, hE2⟩ := bLqs_s hE1 hS.2.2.1
  unfold bLqS
  have hk : bGtK u v = false := by
    cases e : bGtK u v with
    | false => rfl
    | true => have := bGtK_s e hu hv; omega
  rw [hk, e1]
  dsimp only
  rw [e2]
  dsimp only
  have h0 : bRS n ρ (E2, S.2) hp := ⟨hE2, hS.2⟩
  split
  · split
    · refine ⟨_, rfl, hE2, hS.2.1, fun r hr => ?_, hS.2.2.2⟩
      cases hr with
      | head => exact ⟨a, b, hu, hv, h⟩
      | tail _ hr => exact hS.2.2.1 r hr
    · exact ⟨_, rfl, h0⟩
  · exact ⟨_, rfl, h0⟩
def bSh : bV → bV
  | .inl k => .inl (Nat.add k 1)
  | .inr (.inl q) => .inr (.inl (q.1, Nat.add q.2 1))
  | v => v
theorem bSh_s {ρ : List Nat} {v : bV} {a : Nat} (h : bNum ρ v = some a) : bNum ρ (bSh v) = some (a + 1) := by
  match v, h with
  | .inl k, h =>
    have h := Option.some.inj h
    subst h
    show some (k + 1 + bB) = some (k + bB + 1)
    rw [Nat.add_right_comm]
  | .inr (.inl q), h =>
    simp only [bNum, bSh] at h ⊢
    split at h
    · next r e =>
      have h := Option.some.inj h
      subst h
      rfl
    · cases h
def bVq : bV → bV → Bool
  | .inl k, .inl m => Nat.beq k m
  | .inr (.inl p), .inr (.inl q) => (match Nat.beq p.1 q.1 with
    | true => Nat.beq p.2 q.2
    | false => false)
  | _, _ => false
theorem bVq_s {u v : bV} (h : bVq u v = true) : u = v := by
  unfold bVq at h
  split at h
  · rw [Nat.eq_of_beq_eq_true h]
  · next p q =>
    split at h
    · next e =>
      have e1 := Nat.eq_of_beq_eq_true e
      have e2 := Nat.eq_of_beq_eq_true h
      rw [show p = q from Prod.ext e1 e2]
    · cases h
  · cases h
def bNe (S : bS) (u v : bV) : Option bS := match bVq u v with
  | true => none
  | false => (match bIvN S.1 u with
    | none => none
    | some p => (match bIvN S.1 v with
      | none => none
      | some q => (match Nat.beq q.1 q.2 with
        | true => (match Nat.beq p.1 q.1 with
          | true => (match bFlr S.1 u (Nat.add q.1 1) with
            | some E1 => some (E1, S.2)
            | none => none)
          | false => (match Nat.beq p.2 q.1 with
            | true => (match bCap S.1 u (Nat.sub q.1 1) with
              | some E1 => some (E1, S.2)
              | none => none)
            | false => some S))
        | false => some S)))
theorem bNe_s {n : Nat} {ρ : List Nat} {S : bS} {hp : amH} (hS : bRS n ρ S hp) {u v : bV} {a b : Nat} (hu : bNum ρ u = some a) (hv : bNum ρ v = some b) (h : ¬ a = b) : ∃ S', bNe S u v = some S' ∧ bRS n ρ S' hp := by
  obtain ⟨p, e1⟩ := bIvN_some hS.1 hu
  obtain ⟨q, e2⟩ := bIvN_some hS.1 hv
  have h1 := bIvN_s hS.1 e1 hu
  have h2 := bIvN_s hS.1 e2 hv
  unfold bNe
  have hk : bVq u v = false := by
    cases e : bVq u v with
    | false => rfl
    | true => rw [bVq_s e, hv] at hu; cases hu; exact absurd rfl h
  rw [hk, e1]
  dsimp only
  rw [e2]
  dsimp only
  split
  · next e3 =>
    have e3 := Nat.eq_of_beq_eq_true e3
    split
    · next e4 =>
      have e4 := Nat.eq_of_beq_eq_true e4
      obtain ⟨E1, g1, g2⟩ := bFlr_s hS.1 hu (m := Nat.add q.1 1) (by show q.1 + 1 ≤ a; omega)
      rw [g1]
      exact ⟨_, rfl, g2, hS.2⟩
    · split
      · next e4 =>
        have e4 := Nat.eq_of_beq_eq_true e4
        obtain ⟨E1, g1, g2⟩ := bCap_s hS.1 hu (m := Nat.sub q.1 1) (by show a ≤ q.1 - 1; omega)
        rw [g1]
        exact ⟨_, rfl, g2, hS.2⟩
      · exact ⟨_, rfl, hS⟩
  · exact ⟨_, rfl, hS⟩
def bCond (c : Jvm.ClassFile.Cond) (S : bS) (x y : bV) : Option bS := match c with
  | .eq => (match bLqS S x y with
    | some S1 => bLqS S1 y x
    | none => none)
  | .ne => (match bNe S x y with
    | some S1 => bNe S1 y x
    | none => none)
  | .lt => bLqS S (bSh x) y
  | .ge => bLqS S y x
  | .gt => bLqS S (bSh y) x
  | .le => bLqS S x y
def bNeg : Jvm.ClassFile.Cond → Jvm.ClassFile.Cond
  | .eq => .ne
  | .ne => .eq
  | .lt => .ge
  | .ge => .lt
  | .gt => .le
  | .le => .gt
theorem bNeg_s (c : Jvm.ClassFile.Cond) (x y : Int32) : amCmpP (bNeg c) x y = !amCmpP c x y := by
  cases c <;> simp only [amCmpP, bNeg]
  · by_cases h : x = y <;> simp [h]
  · by_cases h : x = y <;> simp [h]
  · by_cases h : x < y
    · have : ¬ y ≤ x := fun z => by have := Int32.lt_iff_toInt_lt.mp h; have := Int32.le_iff_toInt_le.mp z; omega
      simp [h, this]
    · have : y ≤ x := Int32.le_iff_toInt_le.mpr (by have : ¬ x.toInt < y.toInt := fun z => h (Int32.lt_iff_toInt_lt.mpr z); omega)
      simp [h, this]
  · by_cases h : x < y
    · have : ¬ y ≤ x := fun z => by have := Int32.lt_iff_toInt_lt.mp h; have := Int32.le_iff_toInt_le.mp z; omega
      simp [h, this]
    · have : y ≤ x := Int32.le_iff_toInt_le.mpr (by have : ¬ x.toInt < y.toInt := fun z => h (Int32.lt_iff_toInt_lt.mpr z); omega)
      simp [h, this]
  · by_cases h : y < x
    · have : ¬ x ≤ y := fun z => by have := Int32.lt_iff_toInt_lt.mp h; have := Int32.le_iff_toInt_le.mp z; omega
      simp [h, this]
    · have : x ≤ y := Int32.le_iff_toInt_le.mpr (by have : ¬ y.toInt < x.toInt := fun z => h (Int32.lt_iff_toInt_lt.mpr z); omega)
      simp [h, this]
  · by_cases h : y < x
    · have : ¬ x ≤ y := fun z => by have := Int32.lt_iff_toInt_lt.mp h; have := Int32.le_iff_toInt_le.mp z; omega
      simp [h, this]
    · have : x ≤ y := Int32.le_iff_toInt_le.mpr (by have : ¬ y.toInt < x.toInt := fun z => h (Int32.lt_iff_toInt_lt.mpr z); omega)
      simp [h, this]
theorem bOff_lt {x y : Int32} : x < y ↔ aOff x < aOff y := by
  have := aOff_eq x
  have := aOff_eq y
  rw [Int32.lt_iff_toInt_lt]
  omega
theorem bOff_le2 {x y : Int32} : x ≤ y ↔ aOff x ≤ aOff y := by
  have := aOff_eq x
  have := aOff_eq y
  rw [Int32.le_iff_toInt_le]
  omega
theorem bCond_s {n : Nat} {ρ : List Nat} {S : bS} {hp : amH} (hS : bRS n ρ S hp) {c : Jvm.ClassFile.Cond} {u v : bV} {x y : Int32} (hu : bR n ρ u (.int x)) (hv : bR n ρ v (.int y)) (h : amCmpP c x y = true) : ∃ S', bCond c S u v = some S' ∧ bRS n ρ S' hp := by
  have h1 := bNum_s hu
  have h2 := bNum_s hv
  cases c <;> simp only [amCmpP, decide_eq_true_eq] at h <;> unfold bCond <;> dsimp only
  · subst h
    obtain ⟨S1, e1, g1⟩ := bLqS_s hS h1 h2 (Nat.le_refl _)
    rw [e1]
    exact bLqS_s g1 h2 h1 (Nat.le_refl _)
  · have h3 : ¬ aOff x + bB = aOff y + bB := fun z => h (bOff_inj (by omega))
    obtain ⟨S1, e1, g1⟩ := bNe_s hS h1 h2 h3
    rw [e1]
    exact bNe_s g1 h2 h1 (fun z => h3 z.symm)
  · exact bLqS_s hS (bSh_s h1) h2 (by have := bOff_lt.mp h; omega)
  · exact bLqS_s hS h2 h1 (by have := bOff_le2.mp h; omega)
  · exact bLqS_s hS (bSh_s h2) h1 (by have := bOff_lt.mp h; omega)
  · exact bLqS_s hS h1 h2 (by have := bOff_le2.mp h; omega)
end
/-! ##### 13.d.bnum ##### -/
section
/-! ===== runs over invariants: arithmetic by bounds ===== -/
abbrev bG : Type := Nat → Nat → Nat → Nat → Nat × Nat
def bGok (f : Int32 → Int32 → Int32) (g : bG) : Prop := ∀ (a b c d : Nat) (x y : Int32), aIn a b x → aIn c d y → aIn (g a b c d).1 (g a b c d).2 (f x y)
def bFull : Nat × Nat := (0, 4294967295)
theorem bFull_s (x : Int32) : aIn bFull.1 bFull.2 x := bIn_off.mpr ⟨Nat.zero_le _, bOff_le x⟩
def bOfG (g : aG) : bG := fun a b c d => match g a b c d with
  | some (.inr q) => q
  | _ => bFull
theorem bOfG_ok {f : Int32 → Int32 → Int32} {g : aG} (h : aGok f g) : bGok f (bOfG g) := by
  intro a b c d x y hx hy
  unfold bOfG
  split
  · next q e =>
    obtain ⟨z, hz, h1, h2⟩ := h a b c d _ x y e hx hy
    cases hz
    exact ⟨h1, h2⟩
  · exact bFull_s _
def bGm2 (a b c d : Nat) : Nat × Nat := match Nat.ble (Nat.mul b d) 2147483647 with
  | true => (Nat.add (Nat.mul a c) 2147483648, Nat.add (Nat.mul b d) 2147483648)
  | false => bFull
theorem bGm2_s {a b c d i j : Nat} {x y : Int32} (hi : x.toInt = (i : Int)) (hj : y.toInt = (j : Int)) (i1 : a ≤ i) (i2 : i ≤ b) (j1 : c ≤ j) (j2 : j ≤ d) : aIn (bGm2 a b c d).1 (bGm2 a b c d).2 (x * y) := by
  unfold bGm2
  split
  · next e3 =>
    have e3 := a_le e3
    have m1 : Nat.mul a c ≤ i * j := Nat.mul_le_mul i1 j1
    have m2 : i * j ≤ Nat.mul b d := Nat.mul_le_mul i2 j2
    generalize Nat.mul a c = p1 at m1 ⊢
    generalize Nat.mul b d = p2 at m2 e3 ⊢
    have hm : (x * y).toInt = ((i * j : Nat) : Int) := by
      rw [Int32.toInt_mul, hi, hj]
      have e4 : (i : Int) * (j : Int) = ((i * j : Nat) : Int) := by simp
      rw [e4]
      generalize i * j = z at m1 m2 ⊢
      exact aBmod (by omega) (by omega)
    have ez := aOff_eq (x * y)
    rw [hm] at ez
    generalize i * j = z at m1 m2 ez
    simp only [Nat.add_eq]
    exact bIn_off.mpr ⟨by omega, by omega⟩
  · exact bFull_s _
def bGmul : bG := fun a b c d => match Nat.ble 2147483648 a with
  | true => (match Nat.ble 2147483648 c with
    | true => bGm2 (Nat.sub a 2147483648) (Nat.sub b 2147483648) (Nat.sub c 2147483648) (Nat.sub d 2147483648)
    | false => bOfG (aGx (fun x y => x * y)) a b c d)
  | false => bOfG (aGx (fun x y => x * y)) a b c d
theorem bGmul_ok : bGok (fun x y => x * y) bGmul := by
  intro a b c d x y hx hy
  unfold bGmul
  split
  · next e1 =>
    split
    · next e2 =>
      have e1 := a_le e1
      have e2 := a_le e2
      have hx := bIn_off.mp hx
      have hy := bIn_off.mp hy
      have ex := aOff_eq x
      have ey := aOff_eq y
      obtain ⟨i, hi⟩ : ∃ i : Nat, x.toInt = (i : Int) := ⟨aOff x - 2147483648, by omega⟩
      obtain ⟨j, hj⟩ : ∃ j : Nat, y.toInt = (j : Int) := ⟨aOff y - 2147483648, by omega⟩
      exact bGm2_s hi hj (by simp only [Nat.sub_eq]; omega) (by simp only [Nat.sub_eq]; omega) (by simp only [Nat.sub_eq]; omega) (by simp only [Nat.sub_eq]; omega)
    · exact bOfG_ok (aGx_ok _) a b c d x y hx hy
  · exact bOfG_ok (aGx_ok _) a b c d x y hx hy
theorem bDivN {x y : Int32} {i j : Nat} (hi : x.toInt = (i : Int)) (hj : y.toInt = (j : Int)) (h0 : 0 < j) : (x / y).toInt = ((i / j : Nat) : Int) := by
  rw [Int32.toInt_div, hi, hj]
  have h1 : ((i : Int).tdiv (j : Int)) = ((i / j : Nat) : Int) := by
    rw [Int.tdiv_eq_ediv_of_nonneg (by omega)]
    simp
  rw [h1]
  have h2 := Nat.div_le_self i j
  have h3 := aMax x
  generalize i / j = q at h2 ⊢
  exact aBmod (by omega) (by omega)
def bGdiv : bG := fun a b c d => match Nat.ble 2147483648 a with
  | true => (match Nat.ble 2147483649 c with
    | true => (Nat.add (Nat.div (Nat.sub a 2147483648) (Nat.sub d 2147483648)) 2147483648, Nat.add (Nat.div (Nat.sub b 2147483648) (Nat.sub c 2147483648)) 2147483648)
    | false => bFull)
  | false => bFull
theorem bGdiv_ok : bGok (fun x y => x / y) bGdiv := by
  intro a b c d x y hx hy
  unfold bGdiv
  split
  · next e1 =>
    split
    · next e2 =>
      have e1 := a_le e1
      have e2 := a_le e2
      have hx := bIn_off.mp hx
      have hy := bIn_off.mp hy
      have ex := aOff_eq x
      have ey := aOff_eq y
      obtain ⟨i, hi⟩ : ∃ i : Nat, x.toInt = (i : Int) := ⟨aOff x - 2147483648, by omega⟩
      obtain ⟨j, hj⟩ : ∃ j : Nat, y.toInt = (j : Int) := ⟨aOff y - 2147483648, by omega⟩
      have ez := aOff_eq (x / y)
      rw [bDivN hi hj (by omega)] at ez
      have m1 : (a - 2147483648) / (d - 2147483648) ≤ i / j := Nat.div_le_div (by omega) (by omega) (by omega)
      have m2 : i / j ≤ (b - 2147483648) / (c - 2147483648) := Nat.div_le_div (by omega) (by omega) (by omega)
      simp only [show ∀ a b : Nat, Nat.div a b = a / b from fun _ _ => rfl, Nat.sub_eq, Nat.add_eq]
      generalize i / j = q at ez m1 m2
      refine bIn_off.mpr ⟨?_, ?_⟩
      · omega
      · omega
    · exact bFull_s _
  · exact bFull_s _
def bGr2 (d : Nat) : Nat × Nat := (Nat.sub 4294967297 d, Nat.sub d 1)
def bGrem : bG := fun a b c d => match Nat.ble 2147483649 c with
  | true => (match Nat.ble 2147483648 a with
    | true => (2147483648, (match Nat.ble b (Nat.sub d 1) with
      | true => b
      | false => Nat.sub d 1))
    | false => bGr2 d)
  | false => bFull
theorem bRemP {x y : Int32} {i j : Nat} (hi : x.toInt = (i : Int)) (hj : y.toInt = (j : Int)) (hj0 : 0 < j) : (x - x / y * y).toInt = ((i % j : Nat) : Int) := by
  have h1 := bDivN hi hj hj0
  have h2 := aMax x
  have h3 : i / j * j ≤ i := Nat.div_mul_le_self i j
  have h4 : (x / y * y).toInt = ((i / j * j : Nat) : Int) := by
    rw [Int32.toInt_mul, h1, hj, aBmod]
    · simp
    · generalize i / j = q at h3 ⊢
      have : (q : Int) * (j : Int) = ((q * j : Nat) : Int) := by simp
      rw [this]
      omega
    · generalize i / j = q at h3 ⊢
      have : (q : Int) * (j : Int) = ((q * j : Nat) : Int) := by simp
      rw [this]
      omega
  rw [Int32.toInt_sub, h4, hi]
  have h6 : i % j = i - i / j * j := by
    have := Nat.div_add_mod i j
    rw [Nat.mul_comm] at this
    omega
  rw [h6]
  generalize i / j * j = q at h3 ⊢
  rw [aBmod]
  · omega
  · omega
  · omega
theorem bRemM {x y : Int32} {i j : Nat} (hi : x.toInt = -(i : Int)) (hj : y.toInt = (j : Int)) (hj0 : 0 < j) : (x - x / y * y).toInt = -((i % j : Nat) : Int) := by
  have h2 := aMin x
  have h0 := aMax x
  have h3 : i / j * j ≤ i := Nat.div_mul_le_self i j
  have h7 : i / j ≤ i := Nat.div_le_self i j
  have h1 : (x / y).toInt = -((i / j : Nat) : Int) := by
    rw [Int32.toInt_div, hi, hj]
    have h1 : ((-(i : Int)).tdiv (j : Int)) = -((i / j : Nat) : Int) := by
      rw [Int.neg_tdiv, Int.tdiv_eq_ediv_of_nonneg (by omega)]
      simp
    rw [h1]
    generalize i / j = q at h7 ⊢
    exact aBmod (by omega) (by omega)
  have h4 : (x / y * y).toInt = -((i / j * j : Nat) : Int) := by
    rw [Int32.toInt_mul, h1, hj]
    generalize i / j = q at h3 ⊢
    have : -(q : Int) * (j : Int) = -((q * j : Nat) : Int) := by rw [Int.neg_mul]; simp
    rw [this]
    exact aBmod (by omega) (by omega)
  rw [Int32.toInt_sub, h4, hi]
  have h6 : i % j = i - i / j * j := by
    have := Nat.div_add_mod i j
    rw [Nat.mul_comm] at this
    omega
  rw [h6]
  generalize i / j * j = q at h3 ⊢
  rw [aBmod]
  · omega
  · omega
  · omega
theorem bGrem_ok : bGok (fun x y => x - x / y * y) bGrem := by
  intro a b c d x y hx hy
  unfold bGrem
  split
  · next e2 =>
    have e2 := a_le e2
    have hx := bIn_off.mp hx
    have hy := bIn_off.mp hy
    have ex := aOff_eq x
    have ey := aOff_eq y
    obtain ⟨j, hj⟩ : ∃ j : Nat, y.toInt = (j : Int) := ⟨aOff y - 2147483648, by omega⟩
    have hj0 : 0 < j := by omega
    have ez := aOff_eq (x - x / y * y)
    split
    · next e1 =>
      have e1 := a_le e1
      obtain ⟨i, hi⟩ : ∃ i : Nat, x.toInt = (i : Int) := ⟨aOff x - 2147483648, by omega⟩
      have h5 := bRemP hi hj hj0
      have h7 := Nat.mod_lt i hj0
      have h8 := Nat.mod_le i j
      refine bIn_off.mpr ⟨by dsimp only; omega, ?_⟩
      dsimp only
      split
      · omega
      · simp only [Nat.sub_eq]
        omega
    · unfold bGr2
      rcases Int.lt_or_le x.toInt 0 with h0 | h0
      · obtain ⟨i, hi⟩ : ∃ i : Nat, x.toInt = -(i : Int) := ⟨(-x.toInt).toNat, by omega⟩
        have h5 := bRemM hi hj hj0
        have h7 := Nat.mod_lt i hj0
        simp only [Nat.sub_eq]
        exact bIn_off.mpr ⟨by omega, by omega⟩
      · obtain ⟨i, hi⟩ : ∃ i : Nat, x.toInt = (i : Int) := ⟨x.toInt.toNat, by omega⟩
        have h5 := bRemP hi hj hj0
        have h7 := Nat.mod_lt i hj0
        simp only [Nat.sub_eq]
        exact bIn_off.mpr ⟨by omega, by omega⟩
  · exact bFull_s _
theorem bShl1 : ∀ k : Fin 31, ((1 : Int32) <<< (Int32.ofInt (k.val : Int) &&& 31)).toInt = ((2 ^ k.val : Nat) : Int) := by decide
/-- 1 shifted to the left -/
def bGs2 (a b : Nat) : Nat × Nat := (Nat.add (Nat.pow 2 a) 2147483648, Nat.add (Nat.pow 2 b) 2147483648)
theorem bGs2_s {u v j : Nat} {z : Int32} (h1 : u ≤ j) (h2 : j ≤ v) (h : (aOff z : Int) = ((2 ^ j : Nat) : Int) + 2147483648) : aIn (bGs2 u v).1 (bGs2 u v).2 z := by
  have m1 : Nat.pow 2 u ≤ 2 ^ j := Nat.pow_le_pow_right (by omega) h1
  have m2 : 2 ^ j ≤ Nat.pow 2 v := Nat.pow_le_pow_right (by omega) h2
  unfold bGs2
  generalize Nat.pow 2 u = p at m1 ⊢
  generalize Nat.pow 2 v = q at m2 ⊢
  generalize 2 ^ j = r at m1 m2 h
  simp only [Nat.add_eq]
  exact bIn_off.mpr ⟨by omega, by omega⟩
def bGshl : bG := fun a b c d => match Nat.beq a 2147483649 && Nat.beq b 2147483649 with
  | true => (match Nat.ble 2147483648 c && Nat.ble d 2147483678 with
    | true => bGs2 (Nat.sub c 2147483648) (Nat.sub d 2147483648)
    | false => bFull)
  | false => bOfG (aGx (fun x y => x <<< (y &&& 31))) a b c d
theorem bGshl_ok : bGok (fun x y => x <<< (y &&& 31)) bGshl := by
  intro a b c d x y hx hy
  unfold bGshl
  split
  · next e1 =>
    split
    · next e2 =>
      rw [Bool.and_eq_true] at e1 e2
      have e3 := Nat.eq_of_beq_eq_true e1.1
      have e4 := Nat.eq_of_beq_eq_true e1.2
      have e5 := a_le e2.1
      have e6 := a_le e2.2
      have hx := bIn_off.mp hx
      have hy := bIn_off.mp hy
      have ex := aOff_eq x
      have ey := aOff_eq y
      have x1 : x = 1 := Int32.toInt_inj.mp (by
        have : (1 : Int32).toInt = 1 := by decide
        omega)
      obtain ⟨j, hj⟩ : ∃ j : Nat, y.toInt = (j : Int) := ⟨aOff y - 2147483648, by omega⟩
      have hj31 : j < 31 := by omega
      have hy2 : y = Int32.ofInt (j : Int) := by rw [← hj, Int32.ofInt_toInt]
      have key := bShl1 ⟨j, hj31⟩
      dsimp only at key
      rw [← hy2] at key
      subst x1
      have ez := aOff_eq ((1 : Int32) <<< (y &&& 31))
      rw [key] at ez
      exact bGs2_s (j := j) (by simp only [Nat.sub_eq]; omega) (by simp only [Nat.sub_eq]; omega) ez
    · exact bFull_s _
  · exact bOfG_ok (aGx_ok _) a b c d x y hx hy
/-! what is added is kept by number -/
def bAddC (E : bE) (v : bV) (k : Nat) : Option (bV × bE) := match v with
  | .inl m => some (bNew E (bOfG aGadd m m k k))
  | .inr (.inl q) => (match bIv E v with
    | some r => (match Nat.ble 2147483648 (Nat.add r.1 k) with
      | true => (match Nat.ble (Nat.add r.2 k) 6442450943 with
        | true => (match Nat.ble 2147483648 (Nat.add q.2 k) with
          | true => some (.inr (.inl (q.1, Nat.sub (Nat.add q.2 k) 2147483648)), E)
          | false => some (bNew E bFull))
        | false => some (bNew E bFull))
      | false => some (bNew E bFull))
    | none => none)
  | _ => none
theorem bAddC_s {n : Nat} {ρ : List Nat} {E E' : bE} (hE : bRE ρ E) {v u : bV} {k : Nat} {x y : Int32} (h : bAddC E v k = some (u, E')) (hv : bR n ρ v (.int x)) (hy : aOff y = k) : ∃ ρ', ρ <+: ρ' ∧ bRE ρ' E' ∧ bR n ρ' u (.int (x + y)) := by
  match v, h, hv with
  | .inl m, h, hv =>
    simp only [bAddC, Option.some.injEq] at h
    obtain ⟨z, ez, hz⟩ := hv
    cases ez
    have := bOfG_ok aGadd_ok m m k k x y (bIn_off.mpr ⟨by omega, by omega⟩) (bIn_off.mpr ⟨by omega, by omega⟩)
    obtain ⟨ρ', h1, h2, h3⟩ := bNew_s (n := n) hE this
    rw [h] at h2 h3
    exact ⟨ρ', h1, h2, h3⟩
  | .inr (.inl q), h, hv =>
    simp only [bAddC] at h
    split at h
    · next r e =>
      obtain ⟨z, ez, hz⟩ := bIv_s hE e hv
      cases ez
      have hz := bIn_off.mp hz
      have hfull : some (bNew E bFull) = some (u, E') → ∃ ρ', ρ <+: ρ' ∧ bRE ρ' E' ∧ bR n ρ' u (.int (x + y)) := by
        intro z
        have z := Option.some.inj z
        obtain ⟨ρ', h1, h2, h3⟩ := bNew_s (n := n) hE (bFull_s (x + y))
        rw [z] at h2 h3
        exact ⟨ρ', h1, h2, h3⟩
      split at h
      · next e1 =>
        split at h
        · next e2 =>
          split at h
          · next e3 =>
            have e1 := a_le e1
            have e2 := a_le e2
            have e3 := a_le e3
            simp only [Nat.add_eq] at e1 e2 e3
            have h := Option.some.inj h
            have hu := congrArg Prod.fst h
            have hE' := congrArg Prod.snd h
            dsimp only at hu hE'
            subst hu
            subst hE'
            obtain ⟨x', s, ex, g1, g2⟩ := hv
            cases ex
            refine ⟨ρ, List.prefix_refl _, hE, x + y, s, rfl, g1, ?_⟩
            have ax := aOff_eq x
            have ay := aOff_eq y
            have az := aOff_eq (x + y)
            have e4 : (x + y).toInt = x.toInt + y.toInt := by rw [Int32.toInt_add, aBmod (by omega) (by omega)]
            simp only [Nat.add_eq, Nat.sub_eq]
            omega
          · exact hfull h
        · exact hfull h
      · exact hfull h
    · cases h
def bSubC (E : bE) (v : bV) (k : Nat) : Option (bV × bE) := match v with
  | .inl m => some (bNew E (bOfG aGsub m m k k))
  | .inr (.inl q) => (match bIv E v with
    | some r => (match Nat.ble k (Nat.add r.1 2147483648) with
      | true => (match Nat.ble r.2 (Nat.add k 2147483647) with
        | true => (match Nat.ble k (Nat.add q.2 2147483648) with
          | true => some (.inr (.inl (q.1, Nat.sub (Nat.add q.2 2147483648) k)), E)
          | false => some (bNew E bFull))
        | false => some (bNew E bFull))
      | false => some (bNew E bFull))
    | none => none)
  | _ => none
theorem bSubC_s {n : Nat} {ρ : List Nat} {E E' : bE} (hE : bRE ρ E) {v u : bV} {k : Nat} {x y : Int32} (h : bSubC E v k = some (u, E')) (hv : bR n ρ v (.int x)) (hy : aOff y = k) : ∃ ρ', ρ <+: ρ' ∧ bRE ρ' E' ∧ bR n ρ' u (.int (x - y)) := by
  match v, h, hv with
  | .inl m, h, hv =>
    simp only [bSubC, Option.some.injEq] at h
    obtain ⟨z, ez, hz⟩ := hv
    cases ez
    have := bOfG_ok aGsub_ok m m k k x y (bIn_off.mpr ⟨by omega, by omega⟩) (bIn_off.mpr ⟨by omega, by omega⟩)
    obtain ⟨ρ', h1, h2, h3⟩ := bNew_s (n := n) hE this
    rw [h] at h2 h3
    exact ⟨ρ', h1, h2, h3⟩
  | .inr (.inl q), h, hv =>
    simp only [bSubC] at h
    split at h
    · next r e =>
      obtain ⟨z, ez, hz⟩ := bIv_s hE e hv
      cases ez
      have hz := bIn_off.mp hz
      have hfull : some (bNew E bFull) = some (u, E') → ∃ ρ', ρ <+: ρ' ∧ bRE ρ' E' ∧ bR n ρ' u (.int (x - y)) := by
        intro z
        have z := Option.some.inj z
        obtain ⟨ρ', h1, h2, h3⟩ := bNew_s (n := n) hE (bFull_s (x - y))
        rw [z] at h2 h3
        exact ⟨ρ', h1, h2, h3⟩
      split at h
      · next e1 =>
        split at h
        · next e2 =>
          split at h
          · next e3 =>
            have e1 := a_le e1
            have e2 := a_le e2
            have e3 := a_le e3
            simp only [Nat.add_eq] at e1 e2 e3
            have h := Option.some.inj h
            have hu := congrArg Prod.fst h
            have hE' := congrArg Prod.snd h
            dsimp only at hu hE'
            subst hu
            subst hE'
            obtain ⟨x', s, ex, g1, g2⟩ := hv
            cases ex
            refine ⟨ρ, List.prefix_refl _, hE, x - y, s, rfl, g1, ?_⟩
            have ax := aOff_eq x
            have ay := aOff_eq y
            have az := aOff_eq (x - y)
            have e4 : (x - y).toInt = x.toInt - y.toInt := by rw [Int32.toInt_sub, aBmod (by omega) (by omega)]
            simp only [Nat.add_eq, Nat.sub_eq]
            omega
          · exact hfull h
        · exact hfull h
      · exact hfull h
    · cases h
def bLook (M : bMm) (u v : bV) : Option bV := match M with
  | [] => none
  | m :: r => (match bVq m.1 u with
    | true => (match bVq m.2.1 v with
      | true => some m.2.2
      | false => bLook r u v)
    | false => bLook r u v)
theorem bLook_s : ∀ {M : bMm} {u v w : bV}, bLook M u v = some w → (u, v, w) ∈ M
  | m :: r, u, v, w, h => by
    unfold bLook at h
    split at h
    · next e1 =>
      split at h
      · next e2 =>
        cases h
        rw [← bVq_s e1, ← bVq_s e2]
        exact List.mem_cons_self
      · exact List.mem_cons_of_mem _ (bLook_s h)
    · exact List.mem_cons_of_mem _ (bLook_s h)
/-- the sum -/
def bAdd (S : bS) (x y : bV) : Option (bV × bS) := match y with
  | .inl k => (match bAddC S.1 x k with
    | some r => some (r.1, r.2, S.2)
    | none => none)
  | _ => (match x with
    | .inl k => (match bAddC S.1 y k with
      | some r => some (r.1, r.2, S.2)
      | none => none)
    | _ => (match bLook S.2.2.2 x y with
      | some v => some (v, S)
      | none => (match bIv S.1 x with
        | some p => (match bIv S.1 y with
          | some q => (match bNew S.1 (bOfG aGadd p.1 p.2 q.1 q.2) with
            | (v, E') => some (v, E', S.2.1, S.2.2.1, (x, y, v) :: S.2.2.2))
          | none => none)
        | none => none)))
theorem bAddC_i {E : bE} {v : bV} {k : Nat} {r : bV × bE} (h : bAddC E v k = some r) : bIsI v = true := by
  unfold bAddC at h
  split at h
  · rfl
  · rfl
  · cases h
theorem bSubC_i {E : bE} {v : bV} {k : Nat} {r : bV × bE} (h : bSubC E v k = some r) : bIsI v = true := by
  unfold bSubC at h
  split at h
  · rfl
  · rfl
  · cases h
theorem bAdd_s {n : Nat} {ρ : List Nat} {S S' : bS} {hp : amH} (hS : bRS n ρ S hp) {u v r : bV} {a b : Value} (h : bAdd S u v = some (r, S')) (hu : bR n ρ u a) (hv : bR n ρ v b) : ∃ x y ρ', a = .int x ∧ b = .int y ∧ ρ <+: ρ' ∧ bRS n ρ' S' hp ∧ bR n ρ' r (.int (x + y)) := by
  unfold bAdd at h
  split at h
  · next k =>
    split at h
    · next z e =>
      obtain ⟨x, rfl⟩ := bIsI_s (bAddC_i e) hu
      obtain ⟨y, rfl, hy⟩ := hv
      obtain ⟨ρ', h1, h2, h3⟩ := bAddC_s (u := z.1) (E' := z.2) hS.1 e hu hy
      have h := Option.some.inj h
      obtain ⟨rfl, rfl⟩ := Prod.mk.inj h
      exact ⟨x, y, ρ', rfl, rfl, h1, bRS_ext h1 hS h2, h3⟩
    · cases h
  · split at h
    · next k =>
      split at h
      · next z e =>
        obtain ⟨y, rfl⟩ := bIsI_s (bAddC_i e) hv
        obtain ⟨x, rfl, hx⟩ := hu
        obtain ⟨ρ', h1, h2, h3⟩ := bAddC_s (u := z.1) (E' := z.2) hS.1 e hv hx
        have h := Option.some.inj h
        obtain ⟨rfl, rfl⟩ := Prod.mk.inj h
        refine ⟨x, y, ρ', rfl, rfl, h1, bRS_ext h1 hS h2, ?_⟩
        rw [Int32.add_comm]
        exact h3
      · cases h
    · split at h
      · next w e =>
        have h := Option.some.inj h
        obtain ⟨rfl, rfl⟩ := Prod.mk.inj h
        obtain ⟨x, y, h1, h2, h3⟩ := hS.2.2.2 _ (bLook_s e)
        have hi : ∀ {w : bV} {x : Int32}, bR n ρ w (.int x) → bIsI w = true := by
          intro w x hw
          match w, hw with
          | .inl k, _ => rfl
          | .inr (.inl q), _ => rfl
          | .inr (.inr (.inl t)), h =>
            rcases h with ⟨-, x, h⟩ | ⟨-, x, h, -⟩ | ⟨-, x, h, -⟩ | ⟨-, h⟩ | ⟨-, h⟩ <;> cases h
          | .inr (.inr (.inr l)), ⟨_, h, _⟩ => cases h
        obtain ⟨x', rfl⟩ := bIsI_s (hi h1) hu
        obtain ⟨y', rfl⟩ := bIsI_s (hi h2) hv
        rw [bR_uniq hu h1, bR_uniq hv h2]
        exact ⟨x, y, ρ, rfl, rfl, List.prefix_refl _, hS, h3⟩
      · split at h
        · next p e1 =>
          split at h
          · next q e2 =>
            obtain ⟨x, rfl, hx⟩ := bIv_s hS.1 e1 hu
            obtain ⟨y, rfl, hy⟩ := bIv_s hS.1 e2 hv
            obtain ⟨ρ', h1, h2, h3⟩ := bNew_s (n := n) hS.1 (bOfG_ok aGadd_ok _ _ _ _ x y hx hy)
            split at h
            next w E' e =>
            rw [e] at h2 h3
            have h := Option.some.inj h
            obtain ⟨rfl, rfl⟩ := Prod.mk.inj h
            have h4 := bRS_ext h1 hS h2
            refine ⟨x, y, ρ', rfl, rfl, h1, ⟨h4.1, h4.2.1, h4.2.2.1, fun m hm => ?_⟩, h3⟩
            cases hm with
            | head => exact ⟨x, y, bR_mono h1 hu, bR_mono h1 hv, h3⟩
            | tail _ hm => exact h4.2.2.2 m hm
          · cases h
        · cases h
def bSub (S : bS) (x y : bV) : Option (bV × bS) := match y with
  | .inl k => (match bSubC S.1 x k with
    | some r => some (r.1, r.2, S.2)
    | none => none)
  | _ => (match bIv S.1 x with
    | some p => (match bIv S.1 y with
      | some q => (match bNew S.1 (bOfG aGsub p.1 p.2 q.1 q.2) with
        | (v, E') => some (v, E', S.2))
      | none => none)
    | none => none)
theorem bSub_s {n : Nat} {ρ : List Nat} {S S' : bS} {hp : amH} (hS : bRS n ρ S hp) {u v r : bV} {a b : Value} (h : bSub S u v = some (r, S')) (hu : bR n ρ u a) (hv : bR n ρ v b) : ∃ x y ρ', a = .int x ∧ b = .int y ∧ ρ <+: ρ' ∧ bRS n ρ' S' hp ∧ bR n ρ' r (.int (x - y)) := by
  unfold bSub at h
  split at h
  · next k =>
    split at h
    · next z e =>
      obtain ⟨x, rfl⟩ := bIsI_s (bSubC_i e) hu
      obtain ⟨y, rfl, hy⟩ := hv
      obtain ⟨ρ', h1, h2, h3⟩ := bSubC_s (u := z.1) (E' := z.2) hS.1 e hu hy
      have h := Option.some.inj h
      obtain ⟨rfl, rfl⟩ := Prod.mk.inj h
      exact ⟨x, y, ρ', rfl, rfl, h1, bRS_ext h1 hS h2, h3⟩
    · cases h
  · split at h
    · next p e1 =>
      split at h
      · next q e2 =>
        obtain ⟨x, rfl, hx⟩ := bIv_s hS.1 e1 hu
        obtain ⟨y, rfl, hy⟩ := bIv_s hS.1 e2 hv
        obtain ⟨ρ', h1, h2, h3⟩ := bNew_s (n := n) hS.1 (bOfG_ok aGsub_ok _ _ _ _ x y hx hy)
        split at h
        next w E' e =>
        rw [e] at h2 h3
        have h := Option.some.inj h
        obtain ⟨rfl, rfl⟩ := Prod.mk.inj h
        exact ⟨x, y, ρ', rfl, rfl, h1, bRS_ext h1 hS h2, h3⟩
      · cases h
    · cases h
/-- a sum or another number of two -/
def bBin (g : bG) (S : bS) (x y : bV) : Option (bV × bS) := match bIv S.1 x with
  | some p => (match bIv S.1 y with
    | some q => (match bNew S.1 (g p.1 p.2 q.1 q.2) with
      | (v, E') => some (v, E', S.2))
    | none => none)
  | none => none
theorem bBin_s {f : Int32 → Int32 → Int32} {g : bG} (hg : bGok f g) {n : Nat} {ρ : List Nat} {S S' : bS} {hp : amH} (hS : bRS n ρ S hp) {u v r : bV} {a b : Value} (h : bBin g S u v = some (r, S')) (hu : bR n ρ u a) (hv : bR n ρ v b) : ∃ x y ρ', a = .int x ∧ b = .int y ∧ ρ <+: ρ' ∧ bRS n ρ' S' hp ∧ bR n ρ' r (.int (f x y)) := by
  unfold bBin at h
  split at h
  · next p e1 =>
    split at h
    · next q e2 =>
      obtain ⟨x, rfl, hx⟩ := bIv_s hS.1 e1 hu
      obtain ⟨y, rfl, hy⟩ := bIv_s hS.1 e2 hv
      obtain ⟨ρ', h1, h2, h3⟩ := bNew_s (n := n) hS.1 (hg _ _ _ _ x y hx hy)
      split at h
      next w E' e =>
      rw [e] at h2 h3
      have h := Option.some.inj h
      obtain ⟨rfl, rfl⟩ := Prod.mk.inj h
      exact ⟨x, y, ρ', rfl, rfl, h1, bRS_ext h1 hS h2, h3⟩
    · cases h
  · cases h
/-! ===== bits of two small numbers ===== -/
def aG15 : aG := fun a b c d => match (Nat.ble 2147483648 a && Nat.ble b 2147516415) && (Nat.ble 2147483648 c && Nat.ble d 2147516415) with
  | true => some (.inr (2147483648, 2147516415))
  | false => none
theorem a15_nat {a b : Nat} {x : Int32} (h : aIn a b x) (h1 : 2147483648 ≤ a) (h2 : b ≤ 2147516415) : x.toBitVec.toNat < 2 ^ 15 := by
  obtain ⟨g1, g2⟩ := h
  have e : x.toInt = x.toBitVec.toInt := rfl
  rw [BitVec.toInt_eq_toNat_cond] at e
  have := x.toBitVec.isLt
  split at e <;> omega
theorem a15_of {z : Int32} (h : z.toBitVec.toNat < 2 ^ 15) : aIn 2147483648 2147516415 z := by
  have e : z.toInt = z.toBitVec.toInt := rfl
  rw [BitVec.toInt_eq_toNat_cond] at e
  unfold aIn
  split at e <;> omega
theorem aG15_s {f : Int32 → Int32 → Int32} (hf : ∀ x y : Int32, x.toBitVec.toNat < 2 ^ 15 → y.toBitVec.toNat < 2 ^ 15 → (f x y).toBitVec.toNat < 2 ^ 15) : aGok f aG15 := by
  intro a b c d v x y h hx hy
  unfold aG15 at h
  split at h
  · next e =>
    cases h
    simp only [Bool.and_eq_true] at e
    obtain ⟨⟨e1, e2⟩, e3, e4⟩ := e
    have z := a15_of (hf x y (a15_nat hx (Nat.le_of_ble_eq_true e1) (Nat.le_of_ble_eq_true e2)) (a15_nat hy (Nat.le_of_ble_eq_true e3) (Nat.le_of_ble_eq_true e4)))
    exact ⟨f x y, rfl, z.1, z.2⟩
  · cases h
theorem aG15_xor : aGok (fun x y => x ^^^ y) aG15 := aG15_s (fun x y h1 h2 => by
  rw [Int32.toBitVec_xor, BitVec.toNat_xor]
  exact Nat.xor_lt_two_pow h1 h2)
theorem aG15_or : aGok (fun x y => x ||| y) aG15 := aG15_s (fun x y h1 h2 => by
  rw [Int32.toBitVec_or, BitVec.toNat_or]
  exact Nat.or_lt_two_pow h1 h2)
end
/-! ##### 13.e.bins ##### -/
section
/-! ===== runs over invariants: one instruction ===== -/
theorem bOne {n : Nat} {T : Nat → Option bD} {W : List (Nat × Nat)} {ρ ρ' : List Nat} {L : List bCf} {pc : Nat} {ls : bL} {st : List bV} {S : bS} {cl : amL} {cs : List Value} {hp hp1 : amH} (hL : L = [(pc, ls, st, S)]) (h : ρ <+: ρ') (h1 : bRl n ρ' ls cl) (h2 : bRs n ρ' st cs) (h3 : bRS n ρ' S hp1) (h4 : bHk n T hp1) (h5 : bFr W hp hp1) :
    ∃ g ∈ L, ∃ ρ', ρ <+: ρ' ∧ g.1 = pc ∧ bRel n T ρ' g.2.1 g.2.2.1 g.2.2.2 cl cs hp1 ∧ bFr W hp hp1 :=
  ⟨_, by rw [hL]; exact List.mem_cons_self, ρ', h, rfl, ⟨h1, h2, h3, h4⟩, h5⟩
section BIN
variable {n : Nat} {T : Nat → Option bD} {W : List (Nat × Nat)}
def bPush (pc : Nat) (v : bV) : bA := fun ls st S => some [(pc, ls, v :: st, S)]
theorem bPush_ok {pc : Nat} {v : bV} {w : Value} (h : ∀ ρ, bR n ρ v w) : bOk n T W (bPush pc v) (fun ls st hp => some (pc, ls, w :: st, hp)) := by
  intro ls st S L ρ cl cs hp e hr
  cases e
  exact ⟨_, rfl, bOne rfl (List.prefix_refl _) hr.1 ⟨h ρ, hr.2.1⟩ hr.2.2.1 hr.2.2.2 (bFr.refl _ _)⟩
def bIs (t : Nat) : bV → Bool
  | .inr (.inr (.inl s)) => Nat.beq s t
  | _ => false
theorem bIs_J {ρ : List Nat} {v : bV} {w : Value} (h : bIs 1 v = true) (hv : bR n ρ v w) : ∃ x, w = .long x := by
  match v, h, hv with
  | .inr (.inr (.inl s)), h, hv =>
    have e : s = 1 := Nat.eq_of_beq_eq_true h
    subst e
    rcases hv with ⟨-, h⟩ | ⟨h, -⟩ | ⟨h, -⟩ | ⟨h, -⟩ | ⟨h, -⟩
    · exact h
    · omega
    · omega
    · cases h
    · unfold amK at h; omega
theorem bIs_D {ρ : List Nat} {v : bV} {w : Value} (h : bIs 2 v = true) (hv : bR n ρ v w) : ∃ x, w = .double x := by
  match v, h, hv with
  | .inr (.inr (.inl s)), h, hv =>
    have e : s = 2 := Nat.eq_of_beq_eq_true h
    subst e
    rcases hv with ⟨h, -⟩ | ⟨-, x, h, -⟩ | ⟨h, -⟩ | ⟨h, -⟩ | ⟨h, -⟩
    · cases h
    · exact ⟨x, h⟩
    · omega
    · cases h
    · unfold amK at h; omega
theorem bIs_F {ρ : List Nat} {v : bV} {w : Value} (h : bIs 3 v = true) (hv : bR n ρ v w) : ∃ x, w = .float x ∧ FP.Core.decode FP.Core.b32 x.toNat ≠ .nan := by
  match v, h, hv with
  | .inr (.inr (.inl s)), h, hv =>
    have e : s = 3 := Nat.eq_of_beq_eq_true h
    subst e
    rcases hv with ⟨h, -⟩ | ⟨h, -⟩ | ⟨-, x, h, h2, -⟩ | ⟨h, -⟩ | ⟨h, -⟩
    · cases h
    · omega
    · exact ⟨x, h, h2⟩
    · cases h
    · unfold amK at h; omega
/-- a float, or a double, that is no NaN; nz: that isn't 0 either -/
def bIsF2 : bV → Bool
  | .inr (.inr (.inl s)) => lHas [3, 5] s
  | _ => false
def bIsD2 : bV → Bool
  | .inr (.inr (.inl s)) => lHas [6, 7] s
  | _ => false
theorem bIsF2_s {ρ : List Nat} {v : bV} {w : Value} (h : bIsF2 v = true) (hv : bR n ρ v w) : ∃ x, w = .float x ∧ FP.Core.decode FP.Core.b32 x.toNat ≠ .nan := by
  match v, h, hv with
  | .inr (.inr (.inl s)), h, hv =>
    have e := lHas_s h
    simp at e
    rcases hv with ⟨h, -⟩ | ⟨h, -⟩ | ⟨-, x, h, h2, -⟩ | ⟨h, -⟩ | ⟨h, -⟩
    · omega
    · omega
    · exact ⟨x, h, h2⟩
    · omega
    · unfold amK at h; omega
theorem bIs_F5 {ρ : List Nat} {v : bV} {w : Value} (h : bIs 5 v = true) (hv : bR n ρ v w) : ∃ x, w = .float x ∧ flNz (FP.Core.decode FP.Core.b32 x.toNat) = true := by
  match v, h, hv with
  | .inr (.inr (.inl s)), h, hv =>
    have e : s = 5 := Nat.eq_of_beq_eq_true h
    subst e
    rcases hv with ⟨h, -⟩ | ⟨h, -⟩ | ⟨-, x, h, -, h3⟩ | ⟨h, -⟩ | ⟨h, -⟩
    · cases h
    · omega
    · exact ⟨x, h, h3 rfl⟩
    · cases h
    · unfold amK at h; omega
theorem bIsD2_s {ρ : List Nat} {v : bV} {w : Value} (h : bIsD2 v = true) (hv : bR n ρ v w) : ∃ x, w = .double x ∧ FP.Core.decode FP.Core.b64 x.toNat ≠ .nan := by
  match v, h, hv with
  | .inr (.inr (.inl s)), h, hv =>
    have e := lHas_s h
    simp at e
    rcases hv with ⟨h, -⟩ | ⟨-, x, h, h2, -⟩ | ⟨h, -⟩ | ⟨h, -⟩ | ⟨h, -⟩
    · omega
    · exact ⟨x, h, h2 (by omega)⟩
    · omega
    · omega
    · unfold amK at h; omega
theorem bIs_D7 {ρ : List Nat} {v : bV} {w : Value} (h : bIs 7 v = true) (hv : bR n ρ v w) : ∃ x, w = .double x ∧ flNz (FP.Core.decode FP.Core.b64 x.toNat) = true := by
  match v, h, hv with
  | .inr (.inr (.inl s)), h, hv =>
    have e : s = 7 := Nat.eq_of_beq_eq_true h
    subst e
    rcases hv with ⟨h, -⟩ | ⟨-, x, h, -, h3⟩ | ⟨h, -⟩ | ⟨h, -⟩ | ⟨h, -⟩
    · cases h
    · exact ⟨x, h, h3 rfl⟩
    · omega
    · cases h
    · unfold amK at h; omega
def bIsA : bV → Bool
  | .inr (.inr (.inl s)) => Nat.beq s 4 || Nat.ble 1000000 s
  | .inr (.inr (.inr _)) => true
  | _ => false
theorem bIsA_s {ρ : List Nat} {v : bV} {w : Value} (h : bIsA v = true) (hv : bR n ρ v w) : amIsA w = true := by
  match v, h, hv with
  | .inr (.inr (.inl s)), h, hv =>
    have e : s = 4 ∨ 1000000 ≤ s := by
      have h : (Nat.beq s 4 || Nat.ble 1000000 s) = true := h
      rw [Bool.or_eq_true] at h
      exact h.imp Nat.eq_of_beq_eq_true a_le
    rcases hv with ⟨h, -⟩ | ⟨h, -⟩ | ⟨h, -⟩ | ⟨-, rfl⟩ | ⟨-, rfl⟩
    · omega
    · omega
    · omega
    · rfl
    · rfl
  | .inr (.inr (.inr l)), h, ⟨i, e, _⟩ => subst e; rfl
def bKd (n : Nat) (p : bV → Bool) (p' : Value → Bool) : Prop := ∀ ρ v w, p v = true → bR n ρ v w → p' w = true
theorem bKd_I : bKd n bIsI amIsI := fun ρ v w h hv => by obtain ⟨x, rfl⟩ := bIsI_s h hv; rfl
theorem bKd_J : bKd n (bIs 1) amIsJ := fun ρ v w h hv => by obtain ⟨x, rfl⟩ := bIs_J h hv; rfl
theorem bKd_D : bKd n (bIs 2) amIsD := fun ρ v w h hv => by obtain ⟨x, rfl⟩ := bIs_D h hv; rfl
theorem bKd_A : bKd n bIsA amIsA := fun ρ v w h hv => bIsA_s h hv
def bLdA (pc : Nat) (p : bV → Bool) (j : Nat) : bA := fun ls st S => match bGet ls j with
  | some v => (match p v with
    | true => some [(pc, ls, v :: st, S)]
    | false => none)
  | none => none
theorem bLdA_ok {pc j : Nat} {p : bV → Bool} {p' : Value → Bool} (hp : bKd n p p') : bOk n T W (bLdA pc p j) (fun ls st hp => (amLd p' ls j st).map (fun s => (pc, ls, s, hp))) := by
  intro ls st S L ρ cl cs h e hr
  unfold bLdA at e
  split at e
  · next v ev =>
    split at e
    · next ep =>
      cases e
      obtain ⟨w, g1, g2⟩ := hr.1.1 j v ev
      refine ⟨(pc, cl, w :: cs, h), ?_, bOne rfl (List.prefix_refl _) hr.1 ⟨g2, hr.2.1⟩ hr.2.2.1 hr.2.2.2 (bFr.refl _ _)⟩
      simp only [amLd, g1, hp _ _ _ ep g2, if_true, Option.map_some]
    · cases e
  · cases e
def bStA (pc : Nat) (p : bV → Bool) (nL j : Nat) : bA := fun ls st S => match st with
  | v :: r => (match p v with
    | true => (match Nat.ble (Nat.add j 1) nL with
      | true => (match bSet1 ls j v with
        | some l1 => some [(pc, l1, r, S)]
        | none => none)
      | false => none)
    | false => none)
  | [] => none
theorem bStA_ok {pc nL j : Nat} {p : bV → Bool} {p' : Value → Bool} (hp : bKd n p p') : bOk n T W (bStA pc p nL j) (fun ls st hp => (amSt1 p' nL ls j st).map (fun q => (pc, q.1, q.2, hp))) := by
  intro ls st S L ρ cl cs h e hr
  unfold bStA at e
  split at e
  · next v r =>
    obtain ⟨w, ws, rfl, hv, hs⟩ := bRs_cons hr.2.1
    split at e
    · next ep =>
      split at e
      · next el =>
        split at e
        · next l1 e1 =>
          cases e
          refine ⟨(pc, amSet1 cl j w, ws, h), ?_, bOne rfl (List.prefix_refl _) (bSet1_s hr.1 hv e1) hs hr.2.2.1 hr.2.2.2 (bFr.refl _ _)⟩
          simp only [amSt1, hp _ _ _ ep hv, show j < nL from a_lt1 el, decide_true, Bool.and_self, if_true, Option.map_some]
        · cases e
      · cases e
    · cases e
  · cases e
def bStA2 (pc : Nat) (p : bV → Bool) (nL j : Nat) : bA := fun ls st S => match st with
  | v :: r => (match p v with
    | true => (match Nat.ble (Nat.add j 2) nL with
      | true => (match bSet2 ls j v with
        | some l1 => some [(pc, l1, r, S)]
        | none => none)
      | false => none)
    | false => none)
  | [] => none
theorem bStA2_ok {pc nL j : Nat} {p : bV → Bool} {p' : Value → Bool} (hp : bKd n p p') : bOk n T W (bStA2 pc p nL j) (fun ls st hp => (amSt2 p' nL ls j st).map (fun q => (pc, q.1, q.2, hp))) := by
  intro ls st S L ρ cl cs h e hr
  unfold bStA2 at e
  split at e
  · next v r =>
    obtain ⟨w, ws, rfl, hv, hs⟩ := bRs_cons hr.2.1
    split at e
    · next ep =>
      split at e
      · next el =>
        split at e
        · next l1 e1 =>
          cases e
          have el : j + 2 ≤ nL := a_le el
          refine ⟨(pc, amSet2 cl j w, ws, h), ?_, bOne rfl (List.prefix_refl _) (bSet2_s hr.1 hv e1) hs hr.2.2.1 hr.2.2.2 (bFr.refl _ _)⟩
          simp only [amSt2, hp _ _ _ ep hv, show j + 1 < nL by omega, decide_true, Bool.and_self, if_true, Option.map_some]
        · cases e
      · cases e
    · cases e
  · cases e
def bInc (pc nL j k : Nat) : bA := fun ls st S => match bGet ls j with
  | some v => (match bAddC S.1 v k with
    | some r => (match Nat.ble (Nat.add j 1) nL with
      | true => (match bSet1 ls j r.1 with
        | some l1 => some [(pc, l1, st, r.2, S.2)]
        | none => none)
      | false => none)
    | none => none)
  | none => none
theorem bInc_ok {pc nL j : Nat} {c : Int} : bOk n T W (bInc pc nL j (aOff (Int32.ofInt c))) (fun ls st hp => (amInc nL ls j c).map (fun q => (pc, q, st, hp))) := by
  intro ls st S L ρ cl cs h e hr
  unfold bInc at e
  split at e
  · next v ev =>
    split at e
    · next r er =>
      split at e
      · next el =>
        split at e
        · next l1 e1 =>
          cases e
          obtain ⟨w, g1, g2⟩ := hr.1.1 j v ev
          obtain ⟨x, rfl⟩ := bIsI_s (bAddC_i er) g2
          obtain ⟨ρ', h1, h2, h3⟩ := bAddC_s (u := r.1) (E' := r.2) hr.2.2.1.1 er g2 rfl
          refine ⟨(pc, amSet1 cl j (.int (x + Int32.ofInt c)), cs, h), ?_, bOne rfl h1 (bSet1_s (bRl_mono h1 hr.1) h3 e1) (bRs_mono h1 hr.2.1) (bRS_ext h1 hr.2.2.1 h2) hr.2.2.2 (bFr.refl _ _)⟩
          simp only [amInc, g1, show j < nL from a_lt1 el, if_true, Option.map_some]
        · cases e
      · cases e
    · cases e
  · cases e
/-- two numbers to one -/
def bTwo (pc : Nat) (g : bS → bV → bV → Option (bV × bS)) : bA := fun ls st S => match st with
  | y :: x :: r => (match g S x y with
    | some q => some [(pc, ls, q.1 :: r, q.2)]
    | none => none)
  | _ => none
def bTok (n : Nat) (f : Int32 → Int32 → Int32) (g : bS → bV → bV → Option (bV × bS)) : Prop := ∀ (ρ : List Nat) (S S' : bS) (hp : amH) (u v r : bV) (a b : Value), bRS n ρ S hp → g S u v = some (r, S') → bR n ρ u a → bR n ρ v b → ∃ x y ρ', a = .int x ∧ b = .int y ∧ ρ <+: ρ' ∧ bRS n ρ' S' hp ∧ bR n ρ' r (.int (f x y))
theorem bTok_add : bTok n (fun x y => x + y) bAdd := fun ρ S S' hp u v r a b hS h hu hv => bAdd_s hS h hu hv
theorem bTok_sub : bTok n (fun x y => x - y) bSub := fun ρ S S' hp u v r a b hS h hu hv => bSub_s hS h hu hv
theorem bTok_bin {f : Int32 → Int32 → Int32} {g : bG} (hg : bGok f g) : bTok n f (bBin g) := fun ρ S S' hp u v r a b hS h hu hv => bBin_s hg hS h hu hv
theorem bTwo_ok {pc : Nat} {f : Int32 → Int32 → Int32} {g : bS → bV → bV → Option (bV × bS)} (hg : bTok n f g) : bOk n T W (bTwo pc g) (fun ls st hp => (amII f st).map (fun s => (pc, ls, s, hp))) := by
  intro ls st S L ρ cl cs h e hr
  unfold bTwo at e
  split at e
  · next y x r =>
    obtain ⟨w, ws, rfl, hv, hs⟩ := bRs_cons hr.2.1
    obtain ⟨w2, ws, rfl, hv2, hs2⟩ := bRs_cons hs
    split at e
    · next q eq =>
      cases e
      obtain ⟨a, b, ρ', rfl, rfl, h1, h2, h3⟩ := hg ρ S q.2 h x y q.1 _ _ hr.2.2.1 eq hv2 hv
      exact ⟨_, rfl, bOne rfl h1 (bRl_mono h1 hr.1) ⟨h3, bRs_mono h1 hs2⟩ h2 hr.2.2.2 (bFr.refl _ _)⟩
    · cases e
  · cases e
/-- a quotient: what divides isn't 0 -/
def bDvA (pc : Nat) (g : bG) : bA := fun ls st S => match st with
  | y :: x :: r => (match bIv S.1 y with
    | some q => (match Nat.ble 2147483649 q.1 with
      | true => (match bBin g S x y with
        | some q => some [(pc, ls, q.1 :: r, q.2)]
        | none => none)
      | false => (match Nat.ble q.2 2147483647 with
        | true => (match bBin g S x y with
          | some q => some [(pc, ls, q.1 :: r, q.2)]
          | none => none)
        | false => none))
    | none => none)
  | _ => none
theorem bDvA_ok {pc : Nat} {f : Int32 → Int32 → Int32} {g : bG} (hg : bGok f g) : bOk n T W (bDvA pc g) (fun ls st hp => (amDiv f st).map (fun s => (pc, ls, s, hp))) := by
  intro ls st S L ρ cl cs h e hr
  unfold bDvA at e
  split at e
  · next y x r =>
    obtain ⟨w, ws, rfl, hv, hs⟩ := bRs_cons hr.2.1
    obtain ⟨w2, ws, rfl, hv2, hs2⟩ := bRs_cons hs
    have key : (∃ q, bIv S.1 y = some q ∧ (2147483649 ≤ q.1 ∨ q.2 ≤ 2147483647)) ∧ ∃ q, bBin g S x y = some q ∧ L = [(pc, ls, q.1 :: r, q.2)] := by
      split at e
      · next q eq =>
        split at e
        · next e1 =>
          split at e
          · next z ez => cases e; exact ⟨⟨q, eq, Or.inl (a_le e1)⟩, z, ez, rfl⟩
          · cases e
        · split at e
          · next e1 =>
            split at e
            · next z ez => cases e; exact ⟨⟨q, eq, Or.inr (a_le e1)⟩, z, ez, rfl⟩
            · cases e
          · cases e
      · cases e
    obtain ⟨⟨q, eq, hq⟩, z, ez, rfl⟩ := key
    obtain ⟨a, b, ρ', rfl, rfl, h1, h2, h3⟩ := bBin_s (r := z.1) (S' := z.2) hg hr.2.2.1 ez hv2 hv
    obtain ⟨b', eb, hb⟩ := bIv_s hr.2.2.1.1 eq hv
    cases eb
    have hb := bIn_off.mp hb
    have h0 : ¬ b = 0 := fun z => by
      subst z
      have : aOff (0 : Int32) = 2147483648 := by decide
      omega
    refine ⟨(pc, cl, .int (f a b) :: ws, h), by simp only [amDiv, h0, if_false, Option.map_some], bOne rfl h1 (bRl_mono h1 hr.1) ⟨h3, bRs_mono h1 hs2⟩ h2 hr.2.2.2 (bFr.refl _ _)⟩
  · cases e
/-- one value to another of a type -/
def bUn (pc : Nat) (p : bV → Bool) (y : bY) : bA := fun ls st S => match st with
  | v :: r => (match p v with
    | true => (match bOfY S.1 y with
      | (u, E') => some [(pc, ls, u :: r, E', S.2)])
    | false => none)
  | [] => none
theorem bUn_ok {pc : Nat} {p : bV → Bool} {y : bY} {cf : amL → List Value → amH → Option amR} (h : ∀ (ρ : List Nat) (v : bV) (w : Value), p v = true → bR n ρ v w → ∃ u, bYr n y u ∧ ∀ cl r hp, cf cl (w :: r) hp = some (pc, cl, u :: r, hp)) : bOk n T W (bUn pc p y) cf := by
  intro ls st S L ρ cl cs hp e hr
  unfold bUn at e
  split at e
  · next v r =>
    obtain ⟨w, ws, rfl, hv, hs⟩ := bRs_cons hr.2.1
    split at e
    · next ep =>
      obtain ⟨u, hu, hc⟩ := h ρ v w ep hv
      obtain ⟨ρ', h1, h2, h3⟩ := bOfY_s (n := n) hr.2.2.1.1 hu
      split at e
      next z E' ez =>
      rw [ez] at h2 h3
      cases e
      exact ⟨_, hc cl ws hp, bOne rfl h1 (bRl_mono h1 hr.1) ⟨h3, bRs_mono h1 hs⟩ (bRS_ext h1 hr.2.2.1 h2) hr.2.2.2 (bFr.refl _ _)⟩
    · cases e
  · cases e
/-- two values to one of a type -/
def bBi (pc : Nat) (p q : bV → Bool) (y : bY) : bA := fun ls st S => match st with
  | v :: u :: r => (match p v with
    | true => (match q u with
      | true => (match bOfY S.1 y with
        | (z, E') => some [(pc, ls, z :: r, E', S.2)])
      | false => none)
    | false => none)
  | _ => none
theorem bBi_ok {pc : Nat} {p q : bV → Bool} {y : bY} {cf : amL → List Value → amH → Option amR} (h : ∀ (ρ : List Nat) (v u : bV) (w x : Value), p v = true → q u = true → bR n ρ v w → bR n ρ u x → ∃ z, bYr n y z ∧ ∀ cl r hp, cf cl (w :: x :: r) hp = some (pc, cl, z :: r, hp)) : bOk n T W (bBi pc p q y) cf := by
  intro ls st S L ρ cl cs hp e hr
  unfold bBi at e
  split at e
  · next v u r =>
    obtain ⟨w, ws, rfl, hv, hs⟩ := bRs_cons hr.2.1
    obtain ⟨x, ws, rfl, hu, hs⟩ := bRs_cons hs
    split at e
    · next ep =>
      split at e
      · next eq =>
        obtain ⟨z, hz, hc⟩ := h ρ v u w x ep eq hv hu
        obtain ⟨ρ', h1, h2, h3⟩ := bOfY_s (n := n) hr.2.2.1.1 hz
        split at e
        next z E' ez =>
        rw [ez] at h2 h3
        cases e
        exact ⟨_, hc cl ws hp, bOne rfl h1 (bRl_mono h1 hr.1) ⟨h3, bRs_mono h1 hs⟩ (bRS_ext h1 hr.2.2.1 h2) hr.2.2.2 (bFr.refl _ _)⟩
      · cases e
    · cases e
  · cases e
def bDup (pc : Nat) : bA := fun ls st S => match st with
  | v :: r => (match Nat.beq (bCat v) 1 with
    | true => some [(pc, ls, v :: v :: r, S)]
    | false => none)
  | [] => none
def bPop (pc : Nat) : bA := fun ls st S => match st with
  | v :: r => (match Nat.beq (bCat v) 1 with
    | true => some [(pc, ls, r, S)]
    | false => none)
  | [] => none
def bDup2 (pc : Nat) : bA := fun ls st S => match st with
  | v :: u :: r => (match Nat.beq (bCat v) 1 with
    | true => (match Nat.beq (bCat u) 1 with
      | true => some [(pc, ls, v :: u :: v :: u :: r, S)]
      | false => none)
    | false => none)
  | _ => none
theorem bDup_ok {pc : Nat} {cf : amL → List Value → amH → Option amR} (h1 : ∀ ls v r hp, v.category = 1 → cf ls (v :: r) hp = some (pc, ls, v :: v :: r, hp)) : bOk n T W (bDup pc) cf := by
  intro ls st S L ρ cl cs hp e hr
  unfold bDup at e
  split at e
  · next v r =>
    obtain ⟨w, ws, rfl, hv, hs⟩ := bRs_cons hr.2.1
    split at e
    · next e1 =>
      cases e
      exact ⟨_, h1 _ _ _ _ (by rw [bR_cat hv]; exact Nat.eq_of_beq_eq_true e1), bOne rfl (List.prefix_refl _) hr.1 ⟨hv, hv, hs⟩ hr.2.2.1 hr.2.2.2 (bFr.refl _ _)⟩
    · cases e
  · cases e
theorem bPop_ok {pc : Nat} {cf : amL → List Value → amH → Option amR} (h1 : ∀ ls v r hp, v.category = 1 → cf ls (v :: r) hp = some (pc, ls, r, hp)) : bOk n T W (bPop pc) cf := by
  intro ls st S L ρ cl cs hp e hr
  unfold bPop at e
  split at e
  · next v r =>
    obtain ⟨w, ws, rfl, hv, hs⟩ := bRs_cons hr.2.1
    split at e
    · next e1 =>
      cases e
      exact ⟨_, h1 _ _ _ _ (by rw [bR_cat hv]; exact Nat.eq_of_beq_eq_true e1), bOne rfl (List.prefix_refl _) hr.1 hs hr.2.2.1 hr.2.2.2 (bFr.refl _ _)⟩
    · cases e
  · cases e
theorem bDup2_ok {pc : Nat} {cf : amL → List Value → amH → Option amR} (h1 : ∀ ls v u r hp, v.category = 1 ∧ u.category = 1 → cf ls (v :: u :: r) hp = some (pc, ls, v :: u :: v :: u :: r, hp)) : bOk n T W (bDup2 pc) cf := by
  intro ls st S L ρ cl cs hp e hr
  unfold bDup2 at e
  split at e
  · next v u r =>
    obtain ⟨w, ws, rfl, hv, hs⟩ := bRs_cons hr.2.1
    obtain ⟨w2, ws, rfl, hu, hs⟩ := bRs_cons hs
    split at e
    · next e1 =>
      split at e
      · next e2 =>
        cases e
        exact ⟨_, h1 _ _ _ _ _ ⟨by rw [bR_cat hv]; exact Nat.eq_of_beq_eq_true e1, by rw [bR_cat hu]; exact Nat.eq_of_beq_eq_true e2⟩, bOne rfl (List.prefix_refl _) hr.1 ⟨hv, hu, hv, hu, hs⟩ hr.2.2.1 hr.2.2.2 (bFr.refl _ _)⟩
      · cases e
    · cases e
  · cases e
def bGo (pc : Nat) : bA := fun ls st S => some [(pc, ls, st, S)]
theorem bGo_ok {pc : Nat} : bOk n T W (bGo pc) (fun ls st hp => some (pc, ls, st, hp)) := by
  intro ls st S L ρ cl cs hp e hr
  cases e
  exact ⟨_, rfl, bOne rfl (List.prefix_refl _) hr.1 hr.2.1 hr.2.2.1 hr.2.2.2 (bFr.refl _ _)⟩
/-- a whole number made a float or a double: t0, or t1 where it is 1 to 199 -/
def bI2 (pc t0 t1 : Nat) : bA := fun ls st S => match st with
  | v :: r => (match bIv S.1 v with
    | some q => (match Nat.ble 2147483649 q.1 && Nat.ble q.2 2147483847 with
      | true => some [(pc, ls, .inr (.inr (.inl t1)) :: r, S)]
      | false => some [(pc, ls, .inr (.inr (.inl t0)) :: r, S)])
    | none => none)
  | [] => none
theorem bI2_ok {pc t0 t1 : Nat} {f : Int32 → Value} (h0 : ∀ x, bT t0 (f x)) (h1 : ∀ x : Int32, 1 ≤ x.toInt → x.toInt ≤ 199 → bT t1 (f x)) : bOk n T W (bI2 pc t0 t1) (fun ls st hp => (amI f st).map (fun s => (pc, ls, s, hp))) := by
  intro ls st S L ρ cl cs hp e hr
  unfold bI2 at e
  split at e
  · next v r =>
    obtain ⟨w, ws, rfl, hv, hs⟩ := bRs_cons hr.2.1
    split at e
    · next q eq =>
      obtain ⟨x, rfl, hx⟩ := bIv_s hr.2.2.1.1 eq hv
      split at e
      · next e1 =>
        cases e
        rw [Bool.and_eq_true] at e1
        have g1 := a_le e1.1
        have g2 := a_le e1.2
        have hx := bIn_off.mp hx
        have ax := aOff_eq x
        exact ⟨_, rfl, bOne rfl (List.prefix_refl _) hr.1 ⟨h1 x (by omega) (by omega), hs⟩ hr.2.2.1 hr.2.2.2 (bFr.refl _ _)⟩
      · cases e
        exact ⟨_, rfl, bOne rfl (List.prefix_refl _) hr.1 ⟨h0 x, hs⟩ hr.2.2.1 hr.2.2.2 (bFr.refl _ _)⟩
    · cases e
  · cases e
/-! branches -/
def bOpt (o : Option bS) (pc : Nat) (ls : bL) (st : List bV) (r : List bCf) : List bCf := match o with
  | some S => (pc, ls, st, S) :: r
  | none => r
def bBr (c : Jvm.ClassFile.Cond) (t e : Nat) (x y : bV) (ls : bL) (st : List bV) (S : bS) : List bCf := bOpt (bCond c S x y) t ls st (bOpt (bCond (bNeg c) S x y) e ls st [])
theorem bBr_s {ρ : List Nat} {c : Jvm.ClassFile.Cond} {t e : Nat} {u v : bV} {x y : Int32} {ls : bL} {st : List bV} {S : bS} {cl : amL} {cs : List Value} {hp : amH} (hu : bR n ρ u (.int x)) (hv : bR n ρ v (.int y)) (h1 : bRl n ρ ls cl) (h2 : bRs n ρ st cs) (h3 : bRS n ρ S hp) (h4 : bHk n T hp) :
    ∃ g ∈ bBr c t e u v ls st S, ∃ ρ', ρ <+: ρ' ∧ g.1 = (if amCmpP c x y then t else e) ∧ bRel n T ρ' g.2.1 g.2.2.1 g.2.2.2 cl cs hp ∧ bFr W hp hp := by
  unfold bBr
  cases hc : amCmpP c x y with
  | true =>
    obtain ⟨S1, e1, g1⟩ := bCond_s h3 hu hv hc
    rw [e1]
    exact ⟨_, List.mem_cons_self, ρ, List.prefix_refl _, rfl, ⟨h1, h2, g1, h4⟩, bFr.refl _ _⟩
  | false =>
    have hc2 : amCmpP (bNeg c) x y = true := by rw [bNeg_s, hc]; rfl
    obtain ⟨S1, e1, g1⟩ := bCond_s h3 hu hv hc2
    rw [e1]
    refine ⟨(e, ls, st, S1), ?_, ρ, List.prefix_refl _, rfl, ⟨h1, h2, g1, h4⟩, bFr.refl _ _⟩
    cases bCond c S u v with
    | some S2 => exact List.mem_cons_of_mem _ List.mem_cons_self
    | none => exact List.mem_cons_self
def bIfA (c : Jvm.ClassFile.Cond) (t e : Nat) : bA := fun ls st S => match st with
  | v :: r => (match bIsI v with
    | true => some (bBr c t e v (.inl 2147483648) ls r S)
    | false => none)
  | [] => none
def bCmpA (c : Jvm.ClassFile.Cond) (t e : Nat) : bA := fun ls st S => match st with
  | y :: x :: r => (match bIsI y with
    | true => (match bIsI x with
      | true => some (bBr c t e x y ls r S)
      | false => none)
    | false => none)
  | _ => none
theorem bIfA_ok {c : Jvm.ClassFile.Cond} {t e0 : Nat} : bOk n T W (bIfA c t e0) (fun ls st hp => (amIf (amIfP c) t e0 st).map (fun q => (q.1, ls, q.2, hp))) := by
  intro ls st S L ρ cl cs hp e hr
  unfold bIfA at e
  split at e
  · next v r =>
    obtain ⟨w, ws, rfl, hv, hs⟩ := bRs_cons hr.2.1
    split at e
    · next e1 =>
      cases e
      obtain ⟨x, rfl⟩ := bIsI_s e1 hv
      refine ⟨_, rfl, ?_⟩
      dsimp only
      rw [amIfP_cmp]
      exact bBr_s hv ⟨0, rfl, by decide⟩ hr.1 hs hr.2.2.1 hr.2.2.2
    · cases e
  · cases e
theorem bCmpA_ok {c : Jvm.ClassFile.Cond} {t e0 : Nat} : bOk n T W (bCmpA c t e0) (fun ls st hp => (amCmp (amCmpP c) t e0 st).map (fun q => (q.1, ls, q.2, hp))) := by
  intro ls st S L ρ cl cs hp e hr
  unfold bCmpA at e
  split at e
  · next v u r =>
    obtain ⟨w, ws, rfl, hv, hs⟩ := bRs_cons hr.2.1
    obtain ⟨w2, ws, rfl, hu, hs2⟩ := bRs_cons hs
    split at e
    · next e1 =>
      split at e
      · next e2 =>
        cases e
        obtain ⟨x, rfl⟩ := bIsI_s e1 hv
        obtain ⟨y, rfl⟩ := bIsI_s e2 hu
        exact ⟨_, rfl, bBr_s hu hv hr.1 hs2 hr.2.2.1 hr.2.2.2⟩
      · cases e
    · cases e
  · cases e
def bNulA (t e : Nat) : bA := fun ls st S => match st with
  | .inr (.inr (.inr _)) :: r => some [(e, ls, r, S)]
  | _ => none
theorem bNulA_ok {t e0 : Nat} {cf : amL → List Value → amH → Option amR} (h1 : ∀ ls o r hp, cf ls (.ref o :: r) hp = some (e0, ls, r, hp)) : bOk n T W (bNulA t e0) cf := by
  intro ls st S L ρ cl cs hp e hr
  unfold bNulA at e
  split at e
  · next l r =>
    obtain ⟨w, ws, rfl, hv, hs⟩ := bRs_cons hr.2.1
    obtain ⟨i, rfl, -⟩ := hv
    cases e
    exact ⟨_, h1 _ _ _ _, bOne rfl (List.prefix_refl _) hr.1 hs hr.2.2.1 hr.2.2.2 (bFr.refl _ _)⟩
  · cases e
/-- the ways of a table -/
def bTabs (pc lo : Nat) (v : bV) (ls : bL) (st : List bV) (S : bS) : List Int → List bCf → List bCf
  | [], r => r
  | o :: os, r => bOpt (bCond .eq S v (.inl lo)) ((pc : Int) + o).toNat ls st (bTabs pc (Nat.add lo 1) v ls st S os r)
theorem bTabs_in {pc : Nat} {v : bV} {ls : bL} {st : List bV} {S : bS} {r : List bCf} : ∀ {os : List Int} {lo : Nat} {g : bCf}, g ∈ r → g ∈ bTabs pc lo v ls st S os r
  | [], _, _, h => h
  | o :: os, lo, g, h => by
    unfold bTabs bOpt
    split
    · exact List.mem_cons_of_mem _ (bTabs_in h)
    · exact bTabs_in h
theorem bTabs_s {ρ : List Nat} {pc : Nat} {v : bV} {x : Int32} {ls : bL} {st : List bV} {S : bS} {hp : amH} {r : List bCf} (hv : bR n ρ v (.int x)) (hS : bRS n ρ S hp) : ∀ {os : List Int} {lo k : Nat} {o : Int}, os[k]? = some o → aOff x = lo + k → ∃ S', (((pc : Int) + o).toNat, ls, st, S') ∈ bTabs pc lo v ls st S os r ∧ bRS n ρ S' hp
  | o' :: os, lo, 0, o, h, hx => by
    cases h
    have hc : amCmpP .eq x (aInt lo) = true := by
      simp only [amCmpP, decide_eq_true_eq]
      have := bOff_le x
      have h1 := aInt_toInt (n := lo) (by omega)
      have h2 := aOff_eq x
      exact Int32.toInt_inj.mp (by omega)
    have h0 : aOff (aInt lo) = lo := by
      have := bOff_le x
      have h1 := aInt_toInt (n := lo) (by omega)
      have h2 := aOff_eq (aInt lo)
      omega
    obtain ⟨S1, e1, g1⟩ := bCond_s (v := .inl lo) hS hv ⟨aInt lo, rfl, h0⟩ hc
    unfold bTabs
    rw [e1]
    exact ⟨S1, List.mem_cons_self, g1⟩
  | o' :: os, lo, k + 1, o, h, hx => by
    obtain ⟨S1, e1, g1⟩ := bTabs_s (r := r) hv hS (os := os) (lo := Nat.add lo 1) (k := k) (o := o) (by simpa using h) (by show _ = lo + 1 + k; omega)
    refine ⟨S1, ?_, g1⟩
    unfold bTabs bOpt
    split
    · exact List.mem_cons_of_mem _ e1
    · exact e1
def bTabA (pc : Nat) (d lo hi : Int) (offs : Array Int) : bA := fun ls st S => match st with
  | v :: r => (match bIsI v with
    | true => if (((decide (-2147483648 ≤ lo) && decide (lo ≤ hi)) && decide (hi ≤ 2147483647)) && decide ((offs.toList.length : Int) = hi - lo + 1)) && (decide (0 ≤ (pc : Int) + d) && offs.toList.all (fun o => decide (0 ≤ (pc : Int) + o))) then some (bTabs pc (lo + 2147483648).toNat v ls r S offs.toList (bOpt (bCond .lt S v (.inl (lo + 2147483648).toNat)) ((pc : Int) + d).toNat ls r (bOpt (bCond .gt S v (.inl (hi + 2147483648).toNat)) ((pc : Int) + d).toNat ls r []))) else none
    | false => none)
  | [] => none
theorem bTabA_ok {pc : Nat} {d lo hi : Int} {offs : Array Int} : bOk n T W (bTabA pc d lo hi offs) (fun ls st hp => (amTbl pc d lo hi offs st).map (fun q => (q.1, ls, q.2, hp))) := by
  intro ls st S L ρ cl cs hp e hr
  unfold bTabA at e
  split at e
  · next v r =>
    obtain ⟨w, ws, rfl, hv, hs⟩ := bRs_cons hr.2.1
    split at e
    · next e1 =>
      split at e
      · next e2 =>
        cases e
        obtain ⟨x, rfl⟩ := bIsI_s e1 hv
        simp only [Bool.and_eq_true, decide_eq_true_eq, List.all_eq_true] at e2
        obtain ⟨⟨⟨⟨c1, c9⟩, c2⟩, c3⟩, c4, c5⟩ := e2
        have ax := aOff_eq x
        have mx := aMax x
        have mn := aMin x
        by_cases hx : x.toInt < lo ∨ hi < x.toInt
        · have hcf : (amTbl pc d lo hi offs (.int x :: ws)).map (fun q => (q.1, cl, q.2, hp)) = some (((pc : Int) + d).toNat, cl, ws, hp) := by
            simp only [amTbl, amOff, hx, if_true, c4, Option.map_some]
          have hco : ∀ z : Int, -2147483648 ≤ z → z ≤ 2147483647 → aOff (Int32.ofInt z) = (z + 2147483648).toNat ∧ (Int32.ofInt z).toInt = z := by
            intro z z1 z2
            have h1 : (Int32.ofInt z).toInt = z := by rw [Int32.toInt_ofInt]; exact aBmod z1 z2
            have h2 := aOff_eq (Int32.ofInt z)
            omega
          rcases hx with h1 | h1
          · obtain ⟨u1, u2⟩ := hco lo c1 (by omega)
            obtain ⟨S1, e3, g3⟩ := bCond_s (c := .lt) (v := .inl (lo + 2147483648).toNat) (y := Int32.ofInt lo) hr.2.2.1 hv ⟨_, rfl, u1⟩ (by simp only [amCmpP, decide_eq_true_eq]; rw [Int32.lt_iff_toInt_lt]; omega)
            exact ⟨_, hcf, _, bTabs_in (by rw [e3]; exact List.mem_cons_self), ρ, List.prefix_refl _, rfl, ⟨hr.1, hs, g3, hr.2.2.2⟩, bFr.refl _ _⟩
          · obtain ⟨u1, u2⟩ := hco hi (by omega) c2
            obtain ⟨S1, e3, g3⟩ := bCond_s (c := .gt) (v := .inl (hi + 2147483648).toNat) (y := Int32.ofInt hi) hr.2.2.1 hv ⟨_, rfl, u1⟩ (by simp only [amCmpP, decide_eq_true_eq]; rw [Int32.lt_iff_toInt_lt]; omega)
            refine ⟨_, hcf, (((pc : Int) + d).toNat, ls, r, S1), bTabs_in ?_, ρ, List.prefix_refl _, rfl, ⟨hr.1, hs, g3, hr.2.2.2⟩, bFr.refl _ _⟩
            unfold bOpt
            rw [e3]
            split
            · exact List.mem_cons_of_mem _ List.mem_cons_self
            · exact List.mem_cons_self
        · have hk : (x.toInt - lo).toNat < offs.toList.length := by omega
          have hg := List.getElem?_eq_getElem hk
          obtain ⟨S1, g1, g2⟩ := bTabs_s (pc := pc) (ls := ls) (st := r) (r := bOpt (bCond .lt S v (.inl (lo + 2147483648).toNat)) ((pc : Int) + d).toNat ls r (bOpt (bCond .gt S v (.inl (hi + 2147483648).toNat)) ((pc : Int) + d).toNat ls r [])) hv hr.2.2.1 (lo := (lo + 2147483648).toNat) hg (by omega)
          have h5 := c5 _ (List.getElem_mem hk)
          refine ⟨(((pc : Int) + offs.toList[(x.toInt - lo).toNat]).toNat, cl, ws, hp), ?_, _, g1, ρ, List.prefix_refl _, rfl, ⟨hr.1, hs, g2, hr.2.2.2⟩, bFr.refl _ _⟩
          have h6 : offs[(x.toInt - lo).toNat]? = some offs.toList[(x.toInt - lo).toNat] := by rw [← hg, Array.getElem?_toList]
          simp only [amTbl, amOff, hx, if_false, h6, h5, if_true, Option.map_some]
      · cases e
    · cases e
  · cases e
end BIN
end
/-! ##### 13.f.bcel ##### -/
section
/-! ===== runs over invariants: cells read and written ===== -/
section BHP
variable {n : Nat} {T : Nat → Option bD} {W : List (Nat × Nat)}
/-- a field's value as it is known -/
def bFget (F : bF) (c k : Nat) : Option bV := match F with
  | [] => none
  | f :: r => (match Nat.beq f.1 c with
    | true => (match Nat.beq f.2.1 k with
      | true => some f.2.2
      | false => bFget r c k)
    | false => bFget r c k)
theorem bFget_s : ∀ {F : bF} {c k : Nat} {v : bV}, bFget F c k = some v → (c, k, v) ∈ F
  | f :: r, c, k, v, h => by
    unfold bFget at h
    split at h
    · next e1 =>
      split at h
      · next e2 =>
        cases h
        rw [← Nat.eq_of_beq_eq_true e1, ← Nat.eq_of_beq_eq_true e2]
        exact List.mem_cons_self
      · exact List.mem_cons_of_mem _ (bFget_s h)
    · exact List.mem_cons_of_mem _ (bFget_s h)
def bFdel (F : bF) (c k : Nat) : bF := match F with
  | [] => []
  | f :: r => (match Nat.beq f.1 c with
    | true => (match Nat.beq f.2.1 k with
      | true => bFdel r c k
      | false => f :: bFdel r c k)
    | false => f :: bFdel r c k)
theorem bFdel_s : ∀ {F : bF} {c k : Nat} {f : Nat × Nat × bV}, f ∈ bFdel F c k → f ∈ F ∧ ¬ (f.1 = c ∧ f.2.1 = k)
  | g :: r, c, k, f, h => by
    unfold bFdel at h
    split at h
    · next e1 =>
      split at h
      · exact ⟨List.mem_cons_of_mem _ (bFdel_s h).1, (bFdel_s h).2⟩
      · next e2 =>
        cases h with
        | head => exact ⟨List.mem_cons_self, fun z => by rw [z.2] at e2; simp at e2⟩
        | tail _ h => exact ⟨List.mem_cons_of_mem _ (bFdel_s h).1, (bFdel_s h).2⟩
    · next e1 =>
      cases h with
      | head => exact ⟨List.mem_cons_self, fun z => by rw [z.1] at e1; simp at e1⟩
      | tail _ h => exact ⟨List.mem_cons_of_mem _ (bFdel_s h).1, (bFdel_s h).2⟩
def bFdels (F : bF) : List Nat → Nat → bF
  | [], _ => F
  | c :: l, k => bFdels (bFdel F c k) l k
theorem bFdels_s : ∀ {l : List Nat} {F : bF} {k : Nat} {f : Nat × Nat × bV}, f ∈ bFdels F l k → f ∈ F ∧ ∀ c ∈ l, ¬ (f.1 = c ∧ f.2.1 = k)
  | [], F, k, f, h => ⟨h, fun _ z => by cases z⟩
  | c :: l, F, k, f, h => by
    obtain ⟨h1, h2⟩ := bFdels_s (l := l) (F := bFdel F c k) h
    obtain ⟨h3, h4⟩ := bFdel_s h1
    refine ⟨h3, fun d hd => ?_⟩
    cases hd with
    | head => exact h4
    | tail _ hd => exact h2 d hd
/-- a field's type at a cell of the class ci -/
def bFt (T : Nat → Option bD) (ci k c : Nat) : Option bY := match T c with
  | some D => (match Nat.beq D.1 ci with
    | true => (match Nat.ble 32 D.1 with
      | true => none
      | false => (match Nat.ble (Nat.add k 1) D.2.1 with
        | true => lAt D.2.2 k
        | false => none))
    | false => none)
  | none => none
theorem bFt_s {ci k c : Nat} {y : bY} (h : bFt T ci k c = some y) {hp : amH} (hk : bHk n T hp) (hc : c < n) : ci < 32 ∧ ∃ D d, T c = some D ∧ hp[c]? = some (ci, d) ∧ bHc n D (ci, d) ∧ bDy D k = some y ∧ k < d.length := by
  unfold bFt at h
  split at h
  · next D e =>
    split at h
    · next e1 =>
      split at h
      · cases h
      · next e2 =>
        split at h
        · next e4 =>
          have e1 := Nat.eq_of_beq_eq_true e1
          have e3 := a_nle e2
          obtain ⟨d, h1, h2⟩ := bHk_at hk hc e
          obtain ⟨t, d⟩ := d
          have h3 : t = D.1 := h2.1
          subst h3
          subst e1
          refine ⟨e3, D, d, e, h1, h2, ?_, ?_⟩
          · unfold bDy
            rw [e2]
            exact h
          · have h5 : d.length = D.2.1 := h2.2.1
            rw [h5]
            exact a_lt1 e4
        · cases h
    · cases h
  · cases h
def bGetA (T : Nat → Option bD) (pc ci k : Nat) : bA := fun ls st S => match st with
  | .inr (.inr (.inr l)) :: r => (match l with
    | [] => none
    | c :: l' => (match bFt T ci k c with
      | none => none
      | some y => (match l' with
        | [] => (match bFget S.2.1 c k with
          | some v => some [(pc, ls, v :: r, S)]
          | none => (match bOfY S.1 y with
            | (v, E') => some [(pc, ls, v :: r, E', (c, k, v) :: S.2.1, S.2.2)]))
        | _ :: _ => (match lAll (fun d => match bFt T ci k d with
            | some y' => bYle y' y
            | none => false) l' with
          | true => (match bOfY S.1 y with
            | (v, E') => some [(pc, ls, v :: r, E', S.2)])
          | false => none))))
  | _ => none
theorem bGetA_ok {pc ci k : Nat} : bOk n T W (bGetA T pc ci k) (fun ls st hp => (amFGet ci k hp st).map (fun s => (pc, ls, s, hp))) := by
  intro ls st S L ρ cl cs hp e hr
  unfold bGetA at e
  split at e
  · next l r =>
    obtain ⟨w, ws, rfl, hv, hs⟩ := bRs_cons hr.2.1
    obtain ⟨i, rfl, hi, hil⟩ := hv
    split at e
    · cases e
    · next c l' =>
      split at e
      · cases e
      · next y ey =>
        have key : ∀ y', bFt T ci k i = some y' → ∃ d u, hp[i]? = some (ci, d) ∧ d[k]? = some u ∧ bYr n y' u ∧ (amFGet ci k hp (.ref i :: ws)).map (fun s => (pc, cl, s, hp)) = some (pc, cl, u :: ws, hp) := by
          intro y' ey'
          obtain ⟨h0, D, d, h1, h2, h3, h4, h5⟩ := bFt_s ey' hr.2.2.2 hi
          obtain ⟨y2, g1, g2⟩ := h3.2.2 k _ (List.getElem?_eq_getElem h5)
          rw [h4] at g1
          cases g1
          refine ⟨d, d[k], h2, List.getElem?_eq_getElem h5, g2, ?_⟩
          simp only [amFGet, h2, h0, and_self, if_true, List.getElem?_eq_getElem h5, Option.map_some]
        split at e
        · have hic : i = c := by simpa using hil
          subst hic
          obtain ⟨d, u, k1, k2, k3, k4⟩ := key y ey
          split at e
          · next v ev =>
            cases e
            obtain ⟨u', g1, g2⟩ := hr.2.2.1.2.1 _ (bFget_s ev)
            have hu : u' = u := by
              simp only [bFld, k1, k2] at g1
              exact (Option.some.inj g1).symm
            subst hu
            exact ⟨_, k4, bOne rfl (List.prefix_refl _) hr.1 ⟨g2, hs⟩ hr.2.2.1 hr.2.2.2 (bFr.refl _ _)⟩
          · obtain ⟨ρ', h1, h2, h3⟩ := bOfY_s (n := n) hr.2.2.1.1 k3
            split at e
            next v E' ev =>
            rw [ev] at h2 h3
            cases e
            have h4 := bRS_ext h1 hr.2.2.1 h2
            refine ⟨_, k4, bOne rfl h1 (bRl_mono h1 hr.1) ⟨h3, bRs_mono h1 hs⟩ ⟨h4.1, fun f hf => ?_, h4.2.2⟩ hr.2.2.2 (bFr.refl _ _)⟩
            cases hf with
            | head => exact ⟨u, by simp only [bFld, k1, k2], h3⟩
            | tail _ hf => exact h4.2.1 f hf
        · next c2 l2 =>
          split at e
          · next ea =>
            have : ∃ y', bFt T ci k i = some y' ∧ ∀ w, bYr n y' w → bYr n y w := by
              cases hil with
              | head => exact ⟨y, ey, fun _ z => z⟩
              | tail _ hil =>
                have := lAll_m ea i hil
                split at this
                · next y' e' => exact ⟨y', e', fun _ z => bYle_s this z⟩
                · cases this
            obtain ⟨y', e1, e2⟩ := this
            obtain ⟨d, u, k1, k2, k3, k4⟩ := key y' e1
            obtain ⟨ρ', h1, h2, h3⟩ := bOfY_s (n := n) hr.2.2.1.1 (e2 _ k3)
            split at e
            next v E' ev =>
            rw [ev] at h2 h3
            cases e
            exact ⟨_, k4, bOne rfl h1 (bRl_mono h1 hr.1) ⟨h3, bRs_mono h1 hs⟩ (bRS_ext h1 hr.2.2.1 h2) hr.2.2.2 (bFr.refl _ _)⟩
          · cases e
  · cases e
def bFits (ty : FieldType) (E : bE) (v : bV) : Bool := match ty with
  | .int => bIsI v
  | .boolean => (match bIv E v with
    | some q => (match Nat.ble 2147483648 q.1 with
      | true => Nat.ble q.2 2147483649
      | false => false)
    | none => false)
  | .long => bIs 1 v
  | .object _ => (match v with
    | .inr (.inr (.inr _)) => true
    | _ => false)
  | .array _ => (match v with
    | .inr (.inr (.inr _)) => true
    | _ => false)
  | _ => false
theorem bBool {x : Int32} (h1 : 2147483648 ≤ aOff x) (h2 : aOff x ≤ 2147483649) : x = 0 ∨ x = 1 := by
  have h := aOff_eq x
  rcases (show x.toInt = 0 ∨ x.toInt = 1 by omega) with z | z
  · exact Or.inl (Int32.toInt_inj.mp (by rw [z]; rfl))
  · exact Or.inr (Int32.toInt_inj.mp (by rw [z]; rfl))
theorem bFits_s {ρ : List Nat} {E : bE} (hE : bRE ρ E) {ty : FieldType} {v : bV} {w : Value} (h : bFits ty E v = true) (hv : bR n ρ v w) : narrow ty w = w ∧ fits ty w = true := by
  unfold bFits at h
  split at h
  · obtain ⟨x, rfl⟩ := bIsI_s h hv; exact ⟨rfl, rfl⟩
  · split at h
    · next q eq =>
      split at h
      · next e1 =>
        obtain ⟨x, rfl, hx⟩ := bIv_s hE eq hv
        have hx := bIn_off.mp hx
        rcases bBool (x := x) (Nat.le_trans (a_le e1) hx.1) (Nat.le_trans hx.2 (a_le h)) with rfl | rfl
        · exact ⟨by decide, by decide⟩
        · exact ⟨by decide, by decide⟩
      · cases h
    · cases h
  · obtain ⟨x, rfl⟩ := bIs_J h hv; exact ⟨rfl, rfl⟩
  · split at h
    · obtain ⟨i, rfl, -⟩ := hv; exact ⟨rfl, rfl⟩
    · cases h
  · split at h
    · obtain ⟨i, rfl, -⟩ := hv; exact ⟨rfl, rfl⟩
    · cases h
  · cases h
def bPutA (T : Nat → Option bD) (W : List (Nat × Nat)) (pc ci k : Nat) (ty : FieldType) : bA := fun ls st S => match st with
  | v :: .inr (.inr (.inr l)) :: r => (match bFits ty S.1 v with
    | true => (match lAll (fun c => match bIn W c k with
        | true => (match bFt T ci k c with
          | some y => bLe S.1 v y
          | none => false)
        | false => false) l with
      | true => (match l with
        | [c] => some [(pc, ls, r, S.1, (c, k, v) :: bFdel S.2.1 c k, S.2.2)]
        | _ => some [(pc, ls, r, S.1, bFdels S.2.1 l k, S.2.2)])
      | false => none)
    | false => none)
  | _ => none
theorem bPutA_ok {pc ci k : Nat} {ty : FieldType} : bOk n T W (bPutA T W pc ci k ty) (fun ls st hp => (amFSet ci k ty hp st).map (fun q => (pc, ls, q.1, q.2))) := by
  intro ls st S L ρ cl cs hp e hr
  unfold bPutA at e
  split at e
  · next v l r =>
    obtain ⟨w, ws, rfl, hv, hs⟩ := bRs_cons hr.2.1
    obtain ⟨w2, ws, rfl, hv2, hs2⟩ := bRs_cons hs
    obtain ⟨i, rfl, hi, hil⟩ := hv2
    split at e
    · next ef =>
      split at e
      · next ea =>
        have ha := lAll_m ea i hil
        split at ha
        · next eW =>
          split at ha
          · next y ey =>
            obtain ⟨h0, D, d, h1, h2, h3, h4, h5⟩ := bFt_s ey hr.2.2.2 hi
            obtain ⟨f1, f2⟩ := bFits_s hr.2.2.1.1 ef hv
            have hset := bHk_set hr.2.2.2 h1 (bHc_set h3 h4 (bLe_s hr.2.2.1.1 ha hv))
            have hfr : bFr W hp (hp.set i (ci, d.set k w)) := bFr_set (d := (ci, d)) h2 eW
            have hcf : (amFSet ci k ty hp (w :: .ref i :: ws)).map (fun q => (pc, cl, q.1, q.2)) = some (pc, cl, ws, hp.set i (ci, d.set k w)) := by
              simp only [amFSet, h2, h0, h5, f1, f2, and_self, if_true, Option.map_some]
            have hold : ∀ f : Nat × Nat × bV, f ∈ S.2.1 → ¬ (f.1 = i ∧ f.2.1 = k) → ∃ u, bFld (hp.set i (ci, d.set k w)) f.1 f.2.1 = some u ∧ bR n ρ f.2.2 u := by
              intro f hf hne
              obtain ⟨u, g1, g2⟩ := hr.2.2.1.2.1 f hf
              refine ⟨u, ?_, g2⟩
              rw [bFld_set h2]
              split
              · next hi2 =>
                have hk : ¬ k = f.2.1 := fun z => hne ⟨hi2, z.symm⟩
                rw [List.getElem?_set_ne hk]
                rw [hi2] at g1
                simp only [bFld, h2] at g1
                exact g1
              · exact g1
            split at e
            · next c =>
              cases e
              have hic : i = c := by simpa using hil
              subst hic
              refine ⟨_, hcf, bOne rfl (List.prefix_refl _) hr.1 hs2 ⟨hr.2.2.1.1, fun f hf => ?_, hr.2.2.1.2.2⟩ hset hfr⟩
              cases hf with
              | head =>
                refine ⟨w, ?_, hv⟩
                rw [bFld_set h2, if_pos rfl]
                exact List.getElem?_set_self h5
              | tail _ hf => exact hold f (bFdel_s hf).1 (bFdel_s hf).2
            · cases e
              refine ⟨_, hcf, bOne rfl (List.prefix_refl _) hr.1 hs2 ⟨hr.2.2.1.1, fun f hf => ?_, hr.2.2.1.2.2⟩ hset hfr⟩
              exact hold f (bFdels_s hf).1 ((bFdels_s hf).2 i hil)
          · cases ha
        · cases ha
      · cases e
    · cases e
  · cases e
/-! rows -/
def bDn (a : Nat) : Nat := Nat.sub a 2147483648
theorem bDn_eq (a : Nat) : bDn a = a - 2147483648 := rfl
/-- the type of what stands in a row of the kind t at places within q; wr: to be written -/
def bRowQ (wr : Bool) (q : Nat × Nat) (l : List bY) : Option bY := match l with
  | [] => none
  | [y] => some y
  | y :: z :: zs => (match Nat.beq q.1 q.2 with
    | true => lAt (z :: zs) (bDn q.1)
    | false => (match wr with
      | true => none
      | false => (match lAll (fun u => bYle u y) (z :: zs) with
        | true => some y
        | false => none)))
def bRng (q : Nat × Nat) (k : Nat) : Bool := Nat.ble 2147483648 q.1 && Nat.ble (Nat.add (bDn q.2) 1) k
theorem bRng_s {q : Nat × Nat} {k : Nat} (h : bRng q k = true) : 2147483648 ≤ q.1 ∧ q.2 - 2147483648 < k := by
  unfold bRng at h
  rw [Bool.and_eq_true] at h
  have h2 := a_lt1 h.2
  rw [bDn_eq] at h2
  exact ⟨a_le h.1, h2⟩
def bElt (T : Nat → Option bD) (wr : Bool) (t : Nat) (q : Nat × Nat) (c : Nat) : Option bY := match T c with
  | some D => (match Nat.beq D.1 t with
    | true => (match Nat.ble 32 D.1 with
      | true => (match bRng q D.2.1 with
        | true => bRowQ wr q D.2.2
        | false => none)
      | false => none)
    | false => none)
  | none => none
theorem lAt_mem {α : Type} {l : List α} {i : Nat} {v : α} (h : lAt l i = some v) : v ∈ l := by
  rw [lAt_eq] at h
  exact List.mem_of_getElem? h
theorem bRowQ_s {wr : Bool} {q : Nat × Nat} {l : List bY} {y : bY} (h : bRowQ wr q l = some y) {i : Nat} (h1 : bDn q.1 ≤ i) (h2 : i ≤ bDn q.2) {y' : bY} (hy : bRow l i = some y') : (∀ w, bYr n y' w → bYr n y w) ∧ (wr = true → y' = y) := by
  unfold bRowQ at h
  unfold bRow at hy
  split at h
  · cases h
  · cases h
    cases hy
    exact ⟨fun _ z => z, fun _ => rfl⟩
  · dsimp only at hy
    split at h
    · next e =>
      have e := Nat.eq_of_beq_eq_true e
      rw [← e] at h2
      have : i = bDn q.1 := Nat.le_antisymm h2 h1
      rw [this, h] at hy
      cases hy
      exact ⟨fun _ z => z, fun _ => rfl⟩
    · split at h
      · cases h
      · split at h
        · next ea =>
          cases h
          exact ⟨fun w z => bYle_s (lAll_m ea y' (lAt_mem hy)) z, fun z => by cases z⟩
        · cases h
theorem bElt_s {wr : Bool} {t c : Nat} {q : Nat × Nat} {y : bY} (h : bElt T wr t q c = some y) {hp : amH} (hk : bHk n T hp) (hc : c < n) {x : Int32} (hx : aIn q.1 q.2 x) :
    ∃ D d, T c = some D ∧ hp[c]? = some (t, d) ∧ bHc n D (t, d) ∧ x.toNatClampNeg < d.length ∧ amIn x d.length = true ∧ ∃ y', bDy D x.toNatClampNeg = some y' ∧ (∀ w, bYr n y' w → bYr n y w) ∧ (wr = true → y' = y) := by
  unfold bElt at h
  split at h
  · next D e =>
    split at h
    · next e1 =>
      split at h
      · next e2 =>
        split at h
        · next e3 =>
            have e1 := Nat.eq_of_beq_eq_true e1
            obtain ⟨e3, e4⟩ := bRng_s e3
            obtain ⟨d, h1, h2⟩ := bHk_at hk hc e
            obtain ⟨t', d⟩ := d
            have h3 : t' = D.1 := h2.1
            subst h3
            subst e1
            have hlen : d.length = D.2.1 := h2.2.1
            have hx := bIn_off.mp hx
            have ax := aOff_eq x
            have hxn : (x.toNatClampNeg : Int) = x.toInt := by
              have : x.toNatClampNeg = x.toInt.toNat := rfl
              rw [this]
              omega
            have b1 := bDn_eq q.1
            have b2 := bDn_eq q.2
            have hlt : x.toNatClampNeg < d.length := by omega
            have hin : amIn x d.length = true := by
              refine decide_eq_true ?_
              rintro (z | z)
              · have := Int32.lt_iff_toInt_lt.mp z
                have z0 : (0 : Int32).toInt = 0 := by decide
                omega
              · omega
            obtain ⟨y2, g1, g2⟩ := h2.2.2 x.toNatClampNeg _ (List.getElem?_eq_getElem hlt)
            have g3 := g1
            unfold bDy at g1
            rw [e2] at g1
            obtain ⟨z1, z2⟩ := bRowQ_s h (i := x.toNatClampNeg) (by omega) (by omega) g1
            exact ⟨D, d, e, h1, h2, hlt, hin, y2, g3, z1, z2⟩
        · cases h
      · cases h
    · cases h
  · cases h
end BHP
end
