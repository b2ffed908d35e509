/-! ===== runs over invariants: many methods ===== -/
abbrev bEt : Type := Nat × bSp × List bCu × Nat × List (Nat × Nat)
def bLk (B : List bEt) (k : Nat) : List bSp := match B with
  | [] => []
  | e :: r => (match Nat.beq e.1 k with
    | true => e.2.1 :: bLk r k
    | false => bLk r k)
theorem bLk_s : ∀ {B : List bEt} {k : Nat} {s : bSp}, s ∈ bLk B k → ∃ e ∈ B, e.1 = k ∧ e.2.1 = s
  | e :: r, k, s, h => by
    unfold bLk at h
    split at h
    · next e1 =>
      cases h with
      | head => exact ⟨e, List.mem_cons_self, Nat.eq_of_beq_eq_true e1, rfl⟩
      | tail _ h =>
        obtain ⟨e2, h1, h2⟩ := bLk_s h
        exact ⟨e2, List.mem_cons_of_mem _ h1, h2⟩
    · obtain ⟨e2, h1, h2⟩ := bLk_s h
      exact ⟨e2, List.mem_cons_of_mem _ h1, h2⟩
/-- no place of the one is one of the other -/
def bDj (W Pr : List (Nat × Nat)) : Bool := match W with
  | [] => true
  | p :: r => (match bIn Pr p.1 p.2 with
    | true => false
    | false => (match Nat.beq p.2 999 && lHas (Pr.map (fun z => z.1)) p.1 with
      | true => false
      | false => bDj r Pr))
theorem bIn_mem : ∀ {W : List (Nat × Nat)} {c k : Nat}, bIn W c k = true → ∃ p ∈ W, p.1 = c ∧ (p.2 = k ∨ p.2 = 999)
  | p :: r, c, k, h => by
    unfold bIn at h
    split at h
    · next e1 =>
      split at h
      · next e2 => exact ⟨p, List.mem_cons_self, Nat.eq_of_beq_eq_true e1, Or.inl (Nat.eq_of_beq_eq_true e2)⟩
      · split at h
        · next e3 => exact ⟨p, List.mem_cons_self, Nat.eq_of_beq_eq_true e1, Or.inr (Nat.eq_of_beq_eq_true e3)⟩
        · obtain ⟨q, h1, h2⟩ := bIn_mem h
          exact ⟨q, List.mem_cons_of_mem _ h1, h2⟩
    · obtain ⟨q, h1, h2⟩ := bIn_mem h
      exact ⟨q, List.mem_cons_of_mem _ h1, h2⟩
theorem bDj_s : ∀ {W Pr : List (Nat × Nat)}, bDj W Pr = true → ∀ c k, bIn Pr c k = true → bIn W c k = false
  | [], _, _, _, _, _ => rfl
  | p :: r, Pr, h, c, k, hc => by
    unfold bDj at h
    split at h
    · cases h
    · next e =>
      split at h
      · cases h
      · next e9 =>
        have ih := bDj_s h c k hc
        unfold bIn
        split
        · next e1 =>
          have e1 := Nat.eq_of_beq_eq_true e1
          split
          · next e2 =>
            rw [e1, Nat.eq_of_beq_eq_true e2, hc] at e
            cases e
          · split
            · next e3 =>
              obtain ⟨q, h1, h2, -⟩ := bIn_mem hc
              rw [e3, e1, lHas_t (List.mem_map.mpr ⟨q, h1, h2⟩)] at e9
              cases e9
            · exact ih
        · exact ih
/-- the checks, one behind the other: each may use what was checked before -/
def bAll2 (G : Nat → Option amM) (T : Nat → Option bD) (n : Nat) (Pr : List (Nat × Nat)) : List bEt → List bEt → Bool
  | _, [] => true
  | B, e :: r => (match bDj e.2.2.2.2 Pr with
    | true => (match bChk G (bLk B) T n e.2.2.2.2 e.1 e.2.1 e.2.2.1 e.2.2.2.1 with
      | true => bAll2 G T n Pr (e :: B) r
      | false => false)
    | false => false)
def bSems (G : Nat → Option amM) (P : amH → Prop) (n : Nat) (T : Nat → Option bD) (B : List bEt) : Prop := ∀ e ∈ B, bSem G P n T e.1 e.2.1
theorem bAll2_s {G : Nat → Option amM} {T : Nat → Option bD} {n : Nat} {Pr : List (Nat × Nat)} {P : amH → Prop} (hn : n ≤ 999999) (hP : ∀ hp hp1 : amH, (∀ c k, bIn Pr c k = true → bFld hp1 c k = bFld hp c k) → P hp → P hp1) : ∀ {r B : List bEt}, bAll2 G T n Pr B r = true → bSems G P n T B → bSems G P n T (r.reverse ++ B)
  | [], B, _, h => h
  | e :: r, B, h, hB => by
    unfold bAll2 at h
    split at h
    · next ed =>
      split at h
      · next ec =>
        have h1 : bSem G P n T e.1 e.2.1 := bChk_s hn (fun k s hs => by
          obtain ⟨e2, g1, g2, g3⟩ := bLk_s hs
          subst g2
          subst g3
          exact hB e2 g1) (fun hp hp1 hf hp0 => hP hp hp1 (fun c k hc => hf c k (bDj_s ed c k hc)) hp0) ec
        have h2 := bAll2_s hn hP h (fun z hz => by
          cases hz with
          | head => exact h1
          | tail _ hz => exact hB z hz)
        rw [List.reverse_cons, List.append_assoc]
        exact h2
      · cases h
    · cases h
/-- a field known by cases -/
theorem bSem_split {G : Nat → Option amM} {P : amH → Prop} {n : Nat} {T : Nat → Option bD} {k : Nat} {args : List bY} {d : Nat} {W : List (Nat × Nat)} {th : List Nat} {cs : List (Option bY × List bFa)} {c f lo hi : Nat} {D : bD} (hc : c < n) (hT : T c = some D) (hD : bDy D f = some (.inl (lo, hi))) (hf : f < D.2.1) {N : amM} (hN : G k = some N)
    (h : ∀ v, lo ≤ v → v ≤ hi → bSem G P n T k (args, [(c, f, v, v)], d, W, th, cs)) : bSem G P n T k (args, [], d, W, th, cs) := by
  refine ⟨N, hN, fun av hp hH hP ha _ => ?_⟩
  obtain ⟨cc, g1, g2⟩ := bHk_at hH hc hT
  have hlt : f < cc.2.length := by rw [g2.2.1]; exact hf
  obtain ⟨y, g3, g4⟩ := g2.2.2 f _ (List.getElem?_eq_getElem hlt)
  rw [hD] at g3
  cases g3
  obtain ⟨x, hx, x1, x2⟩ := g4
  obtain ⟨N', hN', hs⟩ := h (aOff x) x1 x2
  rw [hN] at hN'
  cases hN'
  refine hs av hp hH hP ha (fun z hz => ?_)
  cases hz with
  | head =>
    refine ⟨x, ?_, Nat.le_refl _, Nat.le_refl _⟩
    unfold bFld
    rw [g1]
    dsimp only
    rw [List.getElem?_eq_getElem hlt, hx]
  | tail _ hz => cases hz
