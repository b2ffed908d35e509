/-! ===== systems (pure): triples put, taken, developed; texts read ===== -/
abbrev sT : Type := Nat → Nat → Int
/-- three points' pairs (as pr, of another part) -/
abbrev sPr (x y z u v : Nat) : Prop := ¬ u = v ∧ (u = x ∨ u = y ∨ u = z) ∧ (v = x ∨ v = y ∨ v = z)
def sE : sT := fun _ _ => -1
abbrev sFree (T : sT) (a b c : Nat) : Prop := T a b = -1 ∧ T b c = -1 ∧ T a c = -1
def sPut (T : sT) (x y z : Nat) : sT := fun u v => if sPr x y z u v then (x : Int) + y + z - u - v else T u v
def sTake (T : sT) (x y z : Nat) : sT := fun u v => if sPr x y z u v then -1 else T u v
/-- a system of V points -/
def sOk (V : Nat) (T : sT) : Prop := 3 ≤ V ∧ V ≤ 15 ∧ ∀ a b : Nat, T a b = -1 ∨ ∃ c : Nat, T a b = (c : Int) ∧ a < V ∧ b < V ∧ c < V ∧ a ≠ b ∧ a ≠ c ∧ b ≠ c ∧ T b a = (c : Int) ∧ T a c = (b : Int)
def m3 (x y z : Nat) : Nat := 2 ^ x ||| 2 ^ y ||| 2 ^ z
/-- developed: the turns from k on -/
def sDv (V a b c : Nat) : Nat → Nat → sT → Nat → Option (sT × Nat)
  | 0, _, T, n => some (T, n)
  | f + 1, k, T, n => if 0 < k ∧ m3 ((a + k) % V) ((b + k) % V) ((c + k) % V) = m3 a b c then some (T, n) else
      if sFree T ((a + k) % V) ((b + k) % V) ((c + k) % V) then sDv V a b c f (k + 1) (sPut T ((a + k) % V) ((b + k) % V) ((c + k) % V)) (n + 1) else none
abbrev tEr : Type := Int × Nat
def wPts : List Int32 := [112, 111, 105, 110, 116, 115]
def wDev : List Int32 := [100, 101, 118, 101, 108, 111, 112]
def wTri : List Int32 := [116, 114, 105, 112, 108, 101]
/-- a statement behind the first, from its word at s -/
def tSt (y : tY) (V : Nat) (T : sT) (s : Nat) : tEr ⊕ (sT × Nat) :=
  if ¬ (tWd y s wDev ∨ tWd y s wTri) then .inl (1, s) else
  if ¬ tNum y (tN y s) 0 ((V : Int) - 1) [] = 0 then .inl (tNum y (tN y s) 0 ((V : Int) - 1) [], tN y s) else
  if ¬ tNum y (tN y (tN y s)) 0 ((V : Int) - 1) [tV y (tN y s)] = 0 then .inl (tNum y (tN y (tN y s)) 0 ((V : Int) - 1) [tV y (tN y s)], tN y (tN y s)) else
  if ¬ tNum y (tN y (tN y (tN y s))) 0 ((V : Int) - 1) [tV y (tN y s), tV y (tN y (tN y s))] = 0 then .inl (tNum y (tN y (tN y (tN y s))) 0 ((V : Int) - 1) [tV y (tN y s), tV y (tN y (tN y s))], tN y (tN y (tN y s))) else
  if ¬ tK y (tN y (tN y (tN y (tN y s)))) = 3 then .inl (1, tN y (tN y (tN y (tN y s)))) else
  if ¬ sFree T (tV y (tN y s)).toNat (tV y (tN y (tN y s))).toNat (tV y (tN y (tN y (tN y s)))).toNat then .inl (3, tN y (tN y (tN y (tN y s)))) else
  if tWd y s wTri then .inr (sPut T (tV y (tN y s)).toNat (tV y (tN y (tN y s))).toNat (tV y (tN y (tN y (tN y s)))).toNat, tN y (tN y (tN y (tN y (tN y s))))) else
  match sDv V (tV y (tN y s)).toNat (tV y (tN y (tN y s))).toNat (tV y (tN y (tN y (tN y s)))).toNat V 0 T 0 with
  | none => .inl (3, tN y (tN y (tN y (tN y s))))
  | some q => .inr (q.1, tN y (tN y (tN y (tN y (tN y s)))))
/-- statements until the end -/
def tRs (y : tY) (V : Nat) : Nat → sT → Nat → tEr ⊕ sT
  | 0, T, _ => .inr T
  | f + 1, T, s => if tK y s = 0 then .inr T else
    match tSt y V T s with
    | .inl e => .inl e
    | .inr q => tRs y V f q.1 q.2
def tPt (y : tY) (s : Nat) : tEr ⊕ Nat :=
  if ¬ tWd y s wPts then .inl (1, s) else
  if ¬ tNum y (tN y s) 3 15 [] = 0 then .inl (tNum y (tN y s) 3 15 [], tN y s) else
  if ¬ tK y (tN y (tN y s)) = 3 then .inl (1, tN y (tN y s)) else .inr (tV y (tN y s)).toNat
def tRd (y : tY) : tEr ⊕ (Nat × sT) :=
  match tPt y (tS y 0) with
  | .inl e => .inl e
  | .inr V => match tRs y V 601 sE (tN y (tN y (tN y (tS y 0)))) with
    | .inl e => .inl e
    | .inr T => .inr (V, T)
/-! what a system stays -/
theorem sOk_E {V : Nat} (h : 3 ≤ V) (h2 : V ≤ 15) : sOk V sE := ⟨h, h2, fun _ _ => Or.inl rfl⟩
theorem sOk_at {V : Nat} {T : sT} (h : sOk V T) {a b : Nat} {c : Int} (e : T a b = c) (hc : ¬ c = -1) : ∃ k : Nat, c = (k : Int) ∧ a < V ∧ b < V ∧ k < V ∧ a ≠ b ∧ a ≠ k ∧ b ≠ k ∧ T b a = (k : Int) ∧ T a k = (b : Int) ∧ T b k = (a : Int) ∧ T k a = (b : Int) ∧ T k b = (a : Int) := by
  rcases h.2.2 a b with g | ⟨k, g1, g2, g3, g4, g5, g6, g7, g8, g9⟩
  · rw [e] at g; exact absurd g hc
  · have hk : ∀ {p q r : Nat}, T p q = (r : Int) → T q p = (r : Int) ∧ T p r = (q : Int) := fun {p q r} e => by
      rcases h.2.2 p q with z | ⟨k, z1, -, -, -, -, -, -, z8, z9⟩
      · rw [e] at z; omega
      · rw [e] at z1
        have : r = k := by omega
        subst this
        exact ⟨z8, z9⟩
    rw [e] at g1
    subst g1
    have q1 := hk g8
    exact ⟨k, rfl, g2, g3, g4, g5, g6, g7, g8, g9, q1.2, (hk g9).1, (hk q1.2).1⟩
theorem sOk_put {V : Nat} {T : sT} {x y z : Nat} (h : sOk V T) (hx : x < V) (hy : y < V) (hz : z < V) (hxy : ¬ x = y) (hyz : ¬ y = z) (hxz : ¬ x = z) (hf : sFree T x y z) : sOk V (sPut T x y z) := by
  obtain ⟨f1, f2, f3⟩ := hf
  have sy : ∀ {p q : Nat}, T p q = -1 → T q p = -1 := fun {p q} e => by
    rcases h.2.2 q p with g | ⟨k, g1, g2, g3, g4, g5, g6, g7, g8, g9⟩
    · exact g
    · rw [e] at g8; omega
  have no : ∀ u v, sPr x y z u v → T u v = -1 := by
    intro u v ⟨g1, g2, g3⟩
    rcases g2 with rfl | rfl | rfl <;> rcases g3 with rfl | rfl | rfl <;> first | exact absurd rfl g1 | assumption | exact sy (by assumption)
  refine ⟨h.1, h.2.1, fun a b => ?_⟩
  unfold sPut
  by_cases hp : sPr x y z a b
  · rw [if_pos hp]
    obtain ⟨g1, g2, g3⟩ := hp
    refine Or.inr ⟨x + y + z - a - b, by omega, by omega, by omega, by omega, by omega, by omega, by omega, ?_, ?_⟩
    · rw [if_pos ⟨by omega, g3, g2⟩]; omega
    · rw [if_pos ⟨by omega, g2, by omega⟩]; omega
  · rw [if_neg hp]
    rcases h.2.2 a b with g | ⟨c, g1, g2, g3, g4, g5, g6, g7, g8, g9⟩
    · exact Or.inl g
    · refine Or.inr ⟨c, g1, g2, g3, g4, g5, g6, g7, ?_, ?_⟩
      · rw [if_neg (fun z => hp ⟨by omega, z.2.2, z.2.1⟩)]; exact g8
      · rw [if_neg (fun z => by have := no _ _ z; omega)]; exact g9
theorem sOk_take {V : Nat} {T : sT} {x y z : Nat} (h : sOk V T) (e : T x y = (z : Int)) : sOk V (sTake T x y z) := by
  obtain ⟨k, hk, x1, y1, z1, n1, n2, n3, t1, t2, t3, t4, t5⟩ := sOk_at h e (by omega)
  have hk : z = k := by omega
  subst hk
  have on : ∀ u v, sPr x y z u v → T u v = (x : Int) + y + z - u - v := by
    intro u v ⟨g1, g2, g3⟩
    rcases g2 with rfl | rfl | rfl <;> rcases g3 with rfl | rfl | rfl <;> first | exact absurd rfl g1 | omega
  refine ⟨h.1, h.2.1, fun a b => ?_⟩
  unfold sTake
  by_cases hp : sPr x y z a b
  · exact Or.inl (by rw [if_pos hp])
  · rw [if_neg hp]
    rcases h.2.2 a b with g | ⟨c, g1, g2, g3, g4, g5, g6, g7, g8, g9⟩
    · exact Or.inl g
    · refine Or.inr ⟨c, g1, g2, g3, g4, g5, g6, g7, ?_, ?_⟩
      · rw [if_neg (fun z => hp ⟨by omega, z.2.2, z.2.1⟩)]; exact g8
      · rw [if_neg (fun q => by
          have := on _ _ q
          obtain ⟨q1, q2, q3⟩ := q
          refine hp ⟨by omega, q2, ?_⟩
          have : (b : Int) = (x : Int) + y + z - a - c := by omega
          omega)]; exact g9
