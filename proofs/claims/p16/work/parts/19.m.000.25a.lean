/-! ##### 19.m.000.25a ##### -/
section
/-! ===== the text, read: what comes of it (pure) ===== -/
/-- on from p as long as P holds, f times at most -/
def tR (P : Nat → Bool) : Nat → Nat → Nat
  | 0, p => p
  | f + 1, p => if P p = true then tR P f (p + 1) else p
theorem tR_eq {P : Nat → Bool} : ∀ (f p q : Nat), p ≤ q → q ≤ p + f → (∀ k, p ≤ k → k < q → P k = true) → (q < p + f → P q = false) → tR P f p = q
  | 0, p, q, h1, h2, _, _ => by unfold tR; omega
  | f + 1, p, q, h1, h2, h3, h4 => by
    unfold tR
    by_cases hp : p = q
    · subst hp
      rw [h4 (by omega)]
      rfl
    · rw [if_pos (h3 p (Nat.le_refl _) (by omega))]
      exact tR_eq f (p + 1) q (by omega) (by omega) (fun k k1 k2 => h3 k (by omega) k2) (fun h => h4 (by omega))
theorem tR_ge {P : Nat → Bool} : ∀ (f p : Nat), p ≤ tR P f p
  | 0, p => Nat.le_refl _
  | f + 1, p => by
    unfold tR
    split
    · have := tR_ge (P := P) f (p + 1); omega
    · exact Nat.le_refl _
theorem tR_le {P : Nat → Bool} {n : Nat} (h : ∀ k, P k = true → k < n) : ∀ (f p : Nat), p ≤ n → tR P f p ≤ n
  | 0, p, hp => hp
  | f + 1, p, hp => by
    unfold tR
    split
    · next e => have := h p e; exact tR_le h f (p + 1) (by omega)
    · exact hp
theorem tR_lt {P : Nat → Bool} {f p : Nat} (h : P p = true) : p < tR P (f + 1) p := by
  unfold tR
  rw [if_pos h]
  have := tR_ge (P := P) f (p + 1)
  omega
abbrev tY : Type := Nat → Int
def tSp (y : tY) (k : Nat) : Bool := decide (y k = 32 ∨ y k = 10)
def tLt (y : tY) (k : Nat) : Bool := decide (97 ≤ y k ∧ y k ≤ 122)
def tDg (y : tY) (k : Nat) : Bool := decide (48 ≤ y k ∧ y k ≤ 57)
/-- a text of n bytes: behind it there is nothing -/
def tOk (n : Nat) (y : tY) : Prop := n ≤ 600 ∧ (∀ k, k < n → 0 ≤ y k ∧ y k ≤ 255) ∧ ∀ k, n ≤ k → y k = -1
theorem tOk_lt {n : Nat} {y : tY} (h : tOk n y) {k : Nat} (hk : 0 ≤ y k) : k < n := by
  rcases Nat.lt_or_ge k n with g | g
  · exact g
  · have := h.2.2 k g; omega
theorem tSp_n {n : Nat} {y : tY} (h : tOk n y) (k : Nat) (e : tSp y k = true) : k < n := tOk_lt h (by have := of_decide_eq_true e; omega)
theorem tLt_n {n : Nat} {y : tY} (h : tOk n y) (k : Nat) (e : tLt y k = true) : k < n := tOk_lt h (by have := of_decide_eq_true e; omega)
theorem tDg_n {n : Nat} {y : tY} (h : tOk n y) (k : Nat) (e : tDg y k = true) : k < n := tOk_lt h (by have := of_decide_eq_true e; omega)
/-- where the next token begins -/
def tS (y : tY) (p : Nat) : Nat := tR (tSp y) 601 p
/-- where the token at s ends -/
def tE (y : tY) (s : Nat) : Nat := if y s = -1 then s else if tLt y s = true then tR (tLt y) 601 s else if tDg y s = true then tR (tDg y) 601 s else s + 1
def tK (y : tY) (s : Nat) : Int := if y s = -1 then 0 else if tLt y s = true then 1 else if tDg y s = true then 2 else if y s = 59 then 3 else 4
def tN (y : tY) (s : Nat) : Nat := tS y (tE y s)
/-- the number at s, of one digit or two -/
def tV (y : tY) (s : Nat) : Int := if tE y s = s + 1 then y s - 48 else 10 * (y s - 48) + (y (s + 1) - 48)
def tWd (y : tY) (s : Nat) (l : List Int32) : Bool := decide (tK y s = 1 ∧ tE y s = s + l.length ∧ ∀ k, k < l.length → y (s + k) = (l.getD k 0).toInt)
theorem tE_ge {y : tY} {s : Nat} : s ≤ tE y s := by
  unfold tE
  split
  · exact Nat.le_refl _
  · split
    · exact tR_ge _ _
    · split
      · exact tR_ge _ _
      · omega
theorem tE_gt {n : Nat} {y : tY} (h : tOk n y) {s : Nat} (hs : tK y s ≠ 0) : s < tE y s := by
  unfold tK at hs
  unfold tE
  split
  · next e => rw [if_pos e] at hs; exact absurd rfl hs
  · split
    · next e => exact tR_lt e
    · split
      · next e => exact tR_lt e
      · omega
theorem tE_le {n : Nat} {y : tY} (h : tOk n y) {s : Nat} (hs : s ≤ n) : tE y s ≤ n := by
  unfold tE
  split
  · exact hs
  · next e0 =>
    split
    · exact tR_le (tLt_n h) _ _ hs
    · split
      · exact tR_le (tDg_n h) _ _ hs
      · rcases Nat.lt_or_ge s n with g | g
        · omega
        · exact absurd (h.2.2 s g) e0
theorem tS_ge {y : tY} {p : Nat} : p ≤ tS y p := tR_ge _ _
theorem tS_le {n : Nat} {y : tY} (h : tOk n y) {p : Nat} (hp : p ≤ n) : tS y p ≤ n := tR_le (tSp_n h) _ _ hp
theorem tN_le {n : Nat} {y : tY} (h : tOk n y) {s : Nat} (hs : s ≤ n) : tN y s ≤ n := tS_le h (tE_le h hs)
theorem tN_ge {y : tY} {s : Nat} : s ≤ tN y s := Nat.le_trans tE_ge tS_ge
theorem tN_gt {n : Nat} {y : tY} (h : tOk n y) {s : Nat} (hs : tK y s ≠ 0) : s < tN y s := Nat.lt_of_lt_of_le (tE_gt h hs) tS_ge
theorem tK_0 {y : tY} {s : Nat} : tK y s = 0 ↔ y s = -1 := by
  unfold tK
  constructor
  · intro h
    split at h
    · next e => exact e
    · split at h
      · cases h
      · split at h
        · cases h
        · split at h <;> cases h
  · intro h
    rw [if_pos h]
/-- a number where one is wanted, from lo to hi, none of those before: 0, or the error's code -/
def tNum (y : tY) (s : Nat) (lo hi : Int) (pre : List Int) : Int := if ¬ (tK y s = 2 ∧ tE y s ≤ s + 2) then 1 else if tV y s < lo ∨ hi < tV y s then 2 else if tV y s ∈ pre then 2 else 0
end
/-! ##### 19.m.001.25b ##### -/
section
/-! ===== systems (pure): triples put, taken, developed; texts read ===== -/
abbrev sT : Type := Nat → Nat → Int
/-- three points' pairs (as pr, of another part) -/
abbrev sPr (x y z u v : Nat) : Prop := ¬ u = v ∧ (u = x ∨ u = y ∨ u = z) ∧ (v = x ∨ v = y ∨ v = z)
def sE : sT := fun _ _ => -1
abbrev sFree (T : sT) (a b c : Nat) : Prop := T a b = -1 ∧ T b c = -1 ∧ T a c = -1
def sPut (T : sT) (x y z : Nat) : sT := fun u v => if sPr x y z u v then (x : Int) + y + z - u - v else T u v
def sTake (T : sT) (x y z : Nat) : sT := fun u v => if sPr x y z u v then -1 else T u v
/-- a system of V points -/
def sOk (V : Nat) (T : sT) : Prop := 3 ≤ V ∧ V ≤ 15 ∧ ∀ a b : Nat, T a b = -1 ∨ ∃ c : Nat, T a b = (c : Int) ∧ a < V ∧ b < V ∧ c < V ∧ a ≠ b ∧ a ≠ c ∧ b ≠ c ∧ T b a = (c : Int) ∧ T a c = (b : Int)
def m3 (x y z : Nat) : Nat := 2 ^ x ||| 2 ^ y ||| 2 ^ z
/-- developed: the turns from k on -/
def sDv (V a b c : Nat) : Nat → Nat → sT → Nat → Option (sT × Nat)
  | 0, _, T, n => some (T, n)
  | f + 1, k, T, n => if 0 < k ∧ m3 ((a + k) % V) ((b + k) % V) ((c + k) % V) = m3 a b c then some (T, n) else
      if sFree T ((a + k) % V) ((b + k) % V) ((c + k) % V) then sDv V a b c f (k + 1) (sPut T ((a + k) % V) ((b + k) % V) ((c + k) % V)) (n + 1) else none
abbrev tEr : Type := Int × Nat
def wPts : List Int32 := [112, 111, 105, 110, 116, 115]
def wDev : List Int32 := [100, 101, 118, 101, 108, 111, 112]
def wTri : List Int32 := [116, 114, 105, 112, 108, 101]
/-- a statement behind the first, from its word at s -/
def tSt (y : tY) (V : Nat) (T : sT) (s : Nat) : tEr ⊕ (sT × Nat) :=
  if ¬ (tWd y s wDev ∨ tWd y s wTri) then .inl (1, s) else
  if ¬ tNum y (tN y s) 0 ((V : Int) - 1) [] = 0 then .inl (tNum y (tN y s) 0 ((V : Int) - 1) [], tN y s) else
  if ¬ tNum y (tN y (tN y s)) 0 ((V : Int) - 1) [tV y (tN y s)] = 0 then .inl (tNum y (tN y (tN y s)) 0 ((V : Int) - 1) [tV y (tN y s)], tN y (tN y s)) else
  if ¬ tNum y (tN y (tN y (tN y s))) 0 ((V : Int) - 1) [tV y (tN y s), tV y (tN y (tN y s))] = 0 then .inl (tNum y (tN y (tN y (tN y s))) 0 ((V : Int) - 1) [tV y (tN y s), tV y (tN y (tN y s))], tN y (tN y (tN y s))) else
  if ¬ tK y (tN y (tN y (tN y (tN y s)))) = 3 then .inl (1, tN y (tN y (tN y (tN y s)))) else
  if ¬ sFree T (tV y (tN y s)).toNat (tV y (tN y (tN y s))).toNat (tV y (tN y (tN y (tN y s)))).toNat then .inl (3, tN y (tN y (tN y (tN y s)))) else
  if tWd y s wTri then .inr (sPut T (tV y (tN y s)).toNat (tV y (tN y (tN y s))).toNat (tV y (tN y (tN y (tN y s)))).toNat, tN y (tN y (tN y (tN y (tN y s))))) else
  match sDv V (tV y (tN y s)).toNat (tV y (tN y (tN y s))).toNat (tV y (tN y (tN y (tN y s)))).toNat V 0 T 0 with
  | none => .inl (3, tN y (tN y (tN y (tN y s))))
  | some q => .inr (q.1, tN y (tN y (tN y (tN y (tN y s)))))
/-- statements until the end -/
def tRs (y : tY) (V : Nat) : Nat → sT → Nat → tEr ⊕ sT
  | 0, T, _ => .inr T
  | f + 1, T, s => if tK y s = 0 then .inr T else
    match tSt y V T s with
    | .inl e => .inl e
    | .inr q => tRs y V f q.1 q.2
def tPt (y : tY) (s : Nat) : tEr ⊕ Nat :=
  if ¬ tWd y s wPts then .inl (1, s) else
  if ¬ tNum y (tN y s) 3 15 [] = 0 then .inl (tNum y (tN y s) 3 15 [], tN y s) else
  if ¬ tK y (tN y (tN y s)) = 3 then .inl (1, tN y (tN y s)) else .inr (tV y (tN y s)).toNat
def tRd (y : tY) : tEr ⊕ (Nat × sT) :=
  match tPt y (tS y 0) with
  | .inl e => .inl e
  | .inr V => match tRs y V 601 sE (tN y (tN y (tN y (tS y 0)))) with
    | .inl e => .inl e
    | .inr T => .inr (V, T)
/-! what a system stays -/
theorem sOk_E {V : Nat} (h : 3 ≤ V) (h2 : V ≤ 15) : sOk V sE := ⟨h, h2, fun _ _ => Or.inl rfl⟩
theorem sOk_at {V : Nat} {T : sT} (h : sOk V T) {a b : Nat} {c : Int} (e : T a b = c) (hc : ¬ c = -1) : ∃ k : Nat, c = (k : Int) ∧ a < V ∧ b < V ∧ k < V ∧ a ≠ b ∧ a ≠ k ∧ b ≠ k ∧ T b a = (k : Int) ∧ T a k = (b : Int) ∧ T b k = (a : Int) ∧ T k a = (b : Int) ∧ T k b = (a : Int) := by
  rcases h.2.2 a b with g | ⟨k, g1, g2, g3, g4, g5, g6, g7, g8, g9⟩
  · rw [e] at g; exact absurd g hc
  · have hk : ∀ {p q r : Nat}, T p q = (r : Int) → T q p = (r : Int) ∧ T p r = (q : Int) := fun {p q r} e => by
      rcases h.2.2 p q with z | ⟨k, z1, -, -, -, -, -, -, z8, z9⟩
      · rw [e] at z; omega
      · rw [e] at z1
        have : r = k := by omega
        subst this
        exact ⟨z8, z9⟩
    rw [e] at g1
    subst g1
    have q1 := hk g8
    exact ⟨k, rfl, g2, g3, g4, g5, g6, g7, g8, g9, q1.2, (hk g9).1, (hk q1.2).1⟩
theorem sOk_put {V : Nat} {T : sT} {x y z : Nat} (h : sOk V T) (hx : x < V) (hy : y < V) (hz : z < V) (hxy : ¬ x = y) (hyz : ¬ y = z) (hxz : ¬ x = z) (hf : sFree T x y z) : sOk V (sPut T x y z) := by
  obtain ⟨f1, f2, f3⟩ := hf
  have sy : ∀ {p q : Nat}, T p q = -1 → T q p = -1 := fun {p q} e => by
    rcases h.2.2 q p with g | ⟨k, g1, g2, g3, g4, g5, g6, g7, g8, g9⟩
    · exact g
    · rw [e] at g8; omega
  have no : ∀ u v, sPr x y z u v → T u v = -1 := by
    intro u v ⟨g1, g2, g3⟩
    rcases g2 with rfl | rfl | rfl <;> rcases g3 with rfl | rfl | rfl <;> first | exact absurd rfl g1 | assumption | exact sy (by assumption)
  refine ⟨h.1, h.2.1, fun a b => ?_⟩
  unfold sPut
  by_cases hp : sPr x y z a b
  · rw [if_pos hp]
    obtain ⟨g1, g2, g3⟩ := hp
    refine Or.inr ⟨x + y + z - a - b, by omega, by omega, by omega, by omega, by omega, by omega, by omega, ?_, ?_⟩
    · rw [if_pos ⟨by omega, g3, g2⟩]; omega
    · rw [if_pos ⟨by omega, g2, by omega⟩]; omega
  · rw [if_neg hp]
    rcases h.2.2 a b with g | ⟨c, g1, g2, g3, g4, g5, g6, g7, g8, g9⟩
    · exact Or.inl g
    · refine Or.inr ⟨c, g1, g2, g3, g4, g5, g6, g7, ?_, ?_⟩
      · rw [if_neg (fun z => hp ⟨by omega, z.2.2, z.2.1⟩)]; exact g8
      · rw [if_neg (fun z => by have := no _ _ z; omega)]; exact g9
theorem sOk_take {V : Nat} {T : sT} {x y z : Nat} (h : sOk V T) (e : T x y = (z : Int)) : sOk V (sTake T x y z) := by
  obtain ⟨k, hk, x1, y1, z1, n1, n2, n3, t1, t2, t3, t4, t5⟩ := sOk_at h e (by omega)
  have hk : z = k := by omega
  subst hk
  have on : ∀ u v, sPr x y z u v → T u v = (x : Int) + y + z - u - v := by
    intro u v ⟨g1, g2, g3⟩
    rcases g2 with rfl | rfl | rfl <;> rcases g3 with rfl | rfl | rfl <;> first | exact absurd rfl g1 | omega
  refine ⟨h.1, h.2.1, fun a b => ?_⟩
  unfold sTake
  by_cases hp : sPr x y z a b
  · exact Or.inl (by rw [if_pos hp])
  · rw [if_neg hp]
    rcases h.2.2 a b with g | ⟨c, g1, g2, g3, g4, g5, g6, g7, g8, g9⟩
    · exact Or.inl g
    · refine Or.inr ⟨c, g1, g2, g3, g4, g5, g6, g7, ?_, ?_⟩
      · rw [if_neg (fun z => hp ⟨by omega, z.2.2, z.2.1⟩)]; exact g8
      · rw [if_neg (fun q => by
          have := on _ _ q
          obtain ⟨q1, q2, q3⟩ := q
          refine hp ⟨by omega, q2, ?_⟩
          have : (b : Int) = (x : Int) + y + z - a - c := by omega
          omega)]; exact g9
end
/-! ##### 19.m.002.26a ##### -/
section
/-! ===== the class's text: bytes, tokens ===== -/
theorem u80 : bUp 0 am_m80.1 = true := by decide +kernel
theorem u81 : bUp 0 am_m81.1 = true := by decide +kernel
theorem u82 : bUp 0 am_m82.1 = true := by decide +kernel
theorem u83 : bUp 0 am_m83.1 = true := by decide +kernel
theorem u84 : bUp 0 am_m84.1 = true := by decide +kernel
theorem u85 : bUp 0 am_m85.1 = true := by decide +kernel
theorem u86 : bUp 0 am_m86.1 = true := by decide +kernel
theorem u87 : bUp 0 am_m87.1 = true := by decide +kernel
section XE
variable {M : amM} {pc a b d : Nat} {L : List (Option Value)} {st : List Value} {hp : amH} {Q : xQ}
theorem xlen (q : Nat) {c t n : Nat} {ys : List bY} (hH : bHk 84 bTT hp) (h : xI M pc .arraylength a b) (e : q = pc + 1) (hc : c < 84) (hT : bTT c = some (t, n, ys)) (ht : 32 ≤ t ∧ t ≤ 35) (hn : n ≤ 100000) (hw : ∀ z : Int32, z.toInt = (n : Int) → xV d M q L (.int z :: st) hp Q) : xV d M pc L (.ref c :: st) hp Q := by
  obtain ⟨⟨t1, vs⟩, g1, g2, g3, -⟩ := bHk_at hH hc hT
  have g2 : t1 = t := g2
  subst g2
  have g3 : vs.length = n := g3
  refine xstep h (fun cl hl => ⟨cl, ?_, hl⟩) (hw (Int32.ofNat n) (Int32.toInt_ofNat_of_lt (by omega)))
  subst e
  simp [amDo, amStep, amScLen, amLen, g1, g3, ht]
theorem xbald (q n : Nat) {c len lo hi : Nat} {x : Int32} (hH : bHk 84 bTT hp) (h : xI M pc .baload a b) (e : q = pc + 1) (hq : c < 84) (hT : bTT c = some (34, len, [.inl (lo, hi)])) (hn : x.toInt = (n : Int)) (hl : n < len) (hw : ∀ z : Int32, z.toInt = rN hp c n → xV d M q L (.int z :: st) hp Q) : xV d M pc L (.int x :: .ref c :: st) hp Q := by
  obtain ⟨vs, g1, g2, z, g3, g4, -⟩ := x_fI hH hq hT (f := n) (lo := lo) (hi := hi) rfl hl
  obtain ⟨e1, e2⟩ := rw_in (m := vs.length) hn g2
  refine xstep h (fun cl hl => ⟨cl, ?_, hl⟩) (hw z g4)
  subst e
  have g5 : vs.getD n .null = .int z := by rw [List.getD_eq_getElem?_getD, g3]; rfl
  simp only [amDo, amStep, amALd, g1, e1, e2, g5, amIsI, and_self, if_true, Option.map_some]
theorem xsubw (q : Nat) {x y : Int32} (h : xI M pc .isub a b) (e : q = pc + 1) (hw : ∀ z : Int32, z = x - y → xV d M q L (.int z :: st) hp Q) : xV d M pc L (.int y :: .int x :: st) hp Q := by
  refine xstep h (fun cl hl => ⟨cl, ?_, hl⟩) (hw (x - y) rfl)
  subst e
  simp [amDo, amStep, amII]
end XE
theorem m255 {x z : Int32} (h : z.toInt = 255) : (x &&& z).toInt = x.toInt % 256 := by
  have e : z = 255 := Int32.toInt_inj.mp h
  subst e
  have h2 : (x &&& 255).toInt = (x &&& 255).toBitVec.toInt := rfl
  have h3 : x.toInt = x.toBitVec.toInt := rfl
  rw [h2, h3, Int32.toBitVec_and]
  have h4 : (x.toBitVec &&& (255 : Int32).toBitVec).toNat = x.toBitVec.toNat % 256 := by
    rw [BitVec.toNat_and]
    exact Nat.and_two_pow_sub_one_eq_mod x.toBitVec.toNat 8
  have h5 := x.toBitVec.isLt
  rw [BitVec.toInt_eq_toNat_cond, BitVec.toInt_eq_toNat_cond, h4]
  split <;> split <;> omega
/-- the class's bytes -/
def cB (hp : amH) : tY := fun k => if (k : Int) < rN hp 1 0 then rN hp 2 k % 256 else -1
def rB (hp : amH) : tY := fun k => if (k : Int) < rN hp 66 21 then rN hp 80 k else -1
theorem b1_0 {hp : amH} (hH : bHk 84 bTT hp) : 0 ≤ rN hp 1 0 ∧ rN hp 1 0 ≤ 600 := by
  have := rb_c hH (c := 1) (f := 0) (by decide) rfl rfl (by decide)
  omega
theorem cB_ok {hp : amH} (hH : bHk 84 bTT hp) : tOk (rN hp 1 0).toNat (cB hp) := by
  have b := b1_0 hH
  refine ⟨by omega, fun k hk => ?_, fun k hk => ?_⟩
  · unfold cB
    rw [if_pos (by omega)]
    omega
  · unfold cB
    rw [if_neg (by omega)]
theorem cB_U {hp hp1 : amH} {j : Nat} {m : Int} (U : rU hp hp1 1 j m) (hj : ¬ j = 0) : cB hp1 = cB hp := by
  funext k
  unfold cB
  rw [rU_ne U (by omega), rU_ne U (by omega)]
def wCt : List (Nat × Nat) := [(1, 4), (1, 5), (1, 6), (1, 7)]
theorem cB_F {hp hp1 : amH} (F : bFr wCt hp hp1) : cB hp1 = cB hp := by
  funext k
  unfold cB
  rw [show rN hp1 1 0 = rN hp 1 0 from r_fr F rfl, show rN hp1 2 k = rN hp 2 k from r_fr F rfl]
theorem k_cB {d : Nat} {hp : amH} {R : xQ} {k : Int32} {y : tY} {q : Nat} (hH : bHk 84 bTT hp) (hY : cB hp = y) (hk : k.toInt = (q : Int)) (hR : ∀ z : Int32, z.toInt = y q → R (.inl (some (.int z))) hp) : xK d 85 [.ref 1, .int k] hp R := by
  refine xin (M := am_m85) rfl rfl rfl ?_
  subst hY
  have b1 := b1_0 hH
  refine xild 1 ⟨u85, _, rfl⟩ rfl rfl ?_
  refine xif_lt 4 ⟨u85, _, rfl⟩ rfl (fun c1 => ?_) (fun c1 => ?_)
  · omega
  · refine xild 5 ⟨u85, _, rfl⟩ rfl rfl ?_
    refine xald 6 ⟨u85, _, rfl⟩ rfl rfl ?_
    refine xgetC 9 hH ⟨u85, _, rfl⟩ rfl (by decide) (by decide) rfl rfl (by decide) (fun z6 h6 => ?_)
    refine xcmp_ge 12 ⟨u85, _, rfl⟩ rfl (fun c9 => ?_) (fun c9 => ?_)
    · refine xcst 35 (-1) ⟨u85, _, rfl⟩ rfl (by decide) (fun z34 h34 => ?_)
      exact xret ⟨u85, _, rfl⟩ rfl (hR _ (by unfold cB; rw [if_neg (by omega)]; exact h34))
    · refine xild 13 ⟨u85, _, rfl⟩ rfl rfl ?_
      refine xald 14 ⟨u85, _, rfl⟩ rfl rfl ?_
      refine xgetD 17 (2) hH ⟨u85, _, rfl⟩ rfl (by decide) (by decide) rfl rfl (by decide) ?_
      refine xlen 18 hH ⟨u85, _, rfl⟩ rfl (by decide) rfl (by decide) (by decide) (fun z17 h17 => ?_)
      refine xcmp_ge 21 ⟨u85, _, rfl⟩ rfl (fun c18 => ?_) (fun c18 => ?_)
      · omega
      · refine xald 22 ⟨u85, _, rfl⟩ rfl rfl ?_
        refine xgetD 25 (2) hH ⟨u85, _, rfl⟩ rfl (by decide) (by decide) rfl rfl (by decide) ?_
        refine xild 26 ⟨u85, _, rfl⟩ rfl rfl ?_
        refine xbald 27 (k).toInt.toNat hH ⟨u85, _, rfl⟩ rfl (by decide) rfl (by omega) (by omega) (fun z26 h26 => ?_)
        refine xsip 30 (255) ⟨u85, _, rfl⟩ rfl (by decide) (fun z27 h27 => ?_)
        refine xand 31 ⟨u85, _, rfl⟩ rfl ?_
        refine xgoto ⟨u85, _, rfl⟩ ?_
        exact xret ⟨u85, _, rfl⟩ rfl (hR _ (by unfold cB; rw [if_pos (by omega), ← show k.toInt.toNat = q by omega, ← h26]; exact m255 h27))
theorem k_let {d : Nat} {hp : amH} {R : xQ} {c : Int32} {y : tY} {q : Nat} (hc : c.toInt = y q) (hR : ∀ z : Int32, ((z.toInt = 1 ∧ tLt y q = true) ∨ (z.toInt = 0 ∧ tLt y q = false)) → R (.inl (some (.int z))) hp) : xK d 86 [.int c] hp R := by
  refine xin (M := am_m86) rfl rfl rfl ?_
  refine xild 1 ⟨u86, _, rfl⟩ rfl rfl ?_
  refine xbip 3 (97) ⟨u86, _, rfl⟩ rfl (by decide) (fun z1 h1 => ?_)
  refine xcmp_lt 6 ⟨u86, _, rfl⟩ rfl (fun c3 => ?_) (fun c3 => ?_)
  · refine xcst 17 (0) ⟨u86, _, rfl⟩ rfl (by decide) (fun z16 h16 => ?_)
    exact xretB ⟨u86, _, rfl⟩ rfl (by omega) (hR _ (Or.inr ⟨by omega, decide_eq_false (by omega)⟩))
  · refine xild 7 ⟨u86, _, rfl⟩ rfl rfl ?_
    refine xbip 9 (122) ⟨u86, _, rfl⟩ rfl (by decide) (fun z7 h7 => ?_)
    refine xcmp_gt 12 ⟨u86, _, rfl⟩ rfl (fun c9 => ?_) (fun c9 => ?_)
    · refine xcst 17 (0) ⟨u86, _, rfl⟩ rfl (by decide) (fun z16 h16 => ?_)
      exact xretB ⟨u86, _, rfl⟩ rfl (by omega) (hR _ (Or.inr ⟨by omega, decide_eq_false (by omega)⟩))
    · refine xcst 13 (1) ⟨u86, _, rfl⟩ rfl (by decide) (fun z12 h12 => ?_)
      refine xgoto ⟨u86, _, rfl⟩ ?_
      exact xretB ⟨u86, _, rfl⟩ rfl (by omega) (hR _ (Or.inl ⟨by omega, decide_eq_true (by omega)⟩))
theorem k_dig {d : Nat} {hp : amH} {R : xQ} {c : Int32} {y : tY} {q : Nat} (hc : c.toInt = y q) (hR : ∀ z : Int32, ((z.toInt = 1 ∧ tDg y q = true) ∨ (z.toInt = 0 ∧ tDg y q = false)) → R (.inl (some (.int z))) hp) : xK d 87 [.int c] hp R := by
  refine xin (M := am_m87) rfl rfl rfl ?_
  refine xild 1 ⟨u87, _, rfl⟩ rfl rfl ?_
  refine xbip 3 (48) ⟨u87, _, rfl⟩ rfl (by decide) (fun z1 h1 => ?_)
  refine xcmp_lt 6 ⟨u87, _, rfl⟩ rfl (fun c3 => ?_) (fun c3 => ?_)
  · refine xcst 17 (0) ⟨u87, _, rfl⟩ rfl (by decide) (fun z16 h16 => ?_)
    exact xretB ⟨u87, _, rfl⟩ rfl (by omega) (hR _ (Or.inr ⟨by omega, decide_eq_false (by omega)⟩))
  · refine xild 7 ⟨u87, _, rfl⟩ rfl rfl ?_
    refine xbip 9 (57) ⟨u87, _, rfl⟩ rfl (by decide) (fun z7 h7 => ?_)
    refine xcmp_gt 12 ⟨u87, _, rfl⟩ rfl (fun c9 => ?_) (fun c9 => ?_)
    · refine xcst 17 (0) ⟨u87, _, rfl⟩ rfl (by decide) (fun z16 h16 => ?_)
      exact xretB ⟨u87, _, rfl⟩ rfl (by omega) (hR _ (Or.inr ⟨by omega, decide_eq_false (by omega)⟩))
    · refine xcst 13 (1) ⟨u87, _, rfl⟩ rfl (by decide) (fun z12 h12 => ?_)
      refine xgoto ⟨u87, _, rfl⟩ ?_
      exact xretB ⟨u87, _, rfl⟩ rfl (by omega) (hR _ (Or.inl ⟨by omega, decide_eq_true (by omega)⟩))
/-- a word is read: on to its end -/
theorem l82 {d : Nat} {hp0 : amH} {R : xQ} {y : tY} {s e : Nat} (hok : tOk (rN hp0 1 0).toNat y) (he : tR (tLt y) 601 s = e)
    (hR : ∀ hp1, bHk 84 bTT hp1 → bFr wCt hp0 hp1 → rN hp1 1 4 = (e : Int) → rN hp1 1 5 = 1 → rN hp1 1 6 = (s : Int) → R (.inl none) hp1) :
    ∀ (jj q : Nat) (hp : amH), bHk 84 bTT hp → bFr wCt hp0 hp → cB hp = y → rN hp 1 4 = (q : Int) → rN hp 1 5 = 1 → rN hp 1 6 = (s : Int) → s ≤ q → (∀ k, s ≤ k → k < q → tLt y k = true) → (q : Int) + (jj : Int) = rN hp0 1 0 → xV (d + 1) am_m82 5 [some (.ref 1)] [] hp R := by
  intro jj
  induction jj using Nat.strongRecOn with
  | ind jj ih =>
    intro q hp hH hF Y h4 h5 h6 hsq hall hj
    have b0 := b1_0 hH
    have n0 : rN hp 1 0 = rN hp0 1 0 := r_fr hF rfl
    have fin : tLt y q = false → xV (d + 1) am_m82 43 [some (.ref 1)] [] hp R := fun g => by
      have : e = q := by rw [← he]; exact tR_eq 601 s q hsq (by omega) hall (fun _ => g)
      exact xretV ⟨u82, _, rfl⟩ rfl (hR hp hH hF (by omega) h5 h6)
    refine xald 6 ⟨u82, _, rfl⟩ rfl rfl ?_
    refine xgetC 9 hH ⟨u82, _, rfl⟩ rfl (by decide) (by decide) rfl rfl (by decide) (fun z6 h6 => ?_)
    refine xald 10 ⟨u82, _, rfl⟩ rfl rfl ?_
    refine xgetC 13 hH ⟨u82, _, rfl⟩ rfl (by decide) (by decide) rfl rfl (by decide) (fun z10 h10 => ?_)
    refine xcmp_ge 16 ⟨u82, _, rfl⟩ rfl (fun c13 => ?_) (fun c13 => ?_)
    · exact fin (by cases e9 : tLt y q; rfl; have := tLt_n hok q e9; omega)
    · refine xald 17 ⟨u82, _, rfl⟩ rfl rfl ?_
      refine xald 18 ⟨u82, _, rfl⟩ rfl rfl ?_
      refine xgetC 21 hH ⟨u82, _, rfl⟩ rfl (by decide) (by decide) rfl rfl (by decide) (fun z18 h18 => ?_)
      refine xcallC 24 (o := 1) [.int _] [] hH ⟨u82, _, rfl⟩ rfl rfl (by decide) rfl (by decide) rfl ⟨rfl, rfl, rfl, rfl⟩ rfl (k_cB hH Y (q := q) (by omega) (fun z21 h21 => ⟨_, rfl, ?_⟩))
      refine xcallS 27 [.int _] [] hH ⟨u82, _, rfl⟩ rfl rfl rfl rfl rfl (k_let (y := y) (q := q) (by omega) (fun z24 h24 => ⟨_, rfl, ?_⟩))
      refine xif_eq 30 ⟨u82, _, rfl⟩ rfl (fun c27 => ?_) (fun c27 => ?_)
      · exact fin (by rcases h24 with z | z; omega; exact z.2)
      · refine xald 31 ⟨u82, _, rfl⟩ rfl rfl ?_
        refine xdup 32 ⟨u82, _, rfl⟩ rfl rfl ?_
        refine xgetC 35 hH ⟨u82, _, rfl⟩ rfl (by decide) (by decide) rfl rfl (by decide) (fun z32 h32 => ?_)
        refine xcst 36 (1) ⟨u82, _, rfl⟩ rfl (by decide) (fun z35 h35 => ?_)
        refine xadd 37 _ ⟨u82, _, rfl⟩ rfl rfl (by omega) (by omega) (fun z36 h36 => ?_)
        refine xputC 40 hH ⟨u82, _, rfl⟩ rfl (by decide) (by decide) rfl rfl (by decide) ⟨rfl, rfl⟩ (by omega) (by omega) (fun hp37 hH37 U37 => ?_)
        have s37 := U37.1
        have n37_1_0 : rN hp37 (1) 0 = rN hp (1) 0 := rU_ne U37 (by omega)
        have n37_1_5 : rN hp37 (1) 5 = rN hp (1) 5 := rU_ne U37 (by omega)
        have n37_1_6 : rN hp37 (1) 6 = rN hp (1) 6 := rU_ne U37 (by omega)
        have n37_1_7 : rN hp37 (1) 7 = rN hp (1) 7 := rU_ne U37 (by omega)
        refine xgoto ⟨u82, _, rfl⟩ ?_
        exact ih (jj - 1) (by omega) (q + 1) hp37 hH37 (hF.trans (rU_fr U37 (by decide))) ((cB_U U37 (by decide)).trans Y) (by omega) (by omega) (by omega) (by omega) (fun k k1 k2 => by rcases Nat.lt_or_ge k q with g | g; exact hall k k1 g; rw [show k = q by omega]; rcases h24 with z | z; exact z.2; omega) (by omega)
theorem k_rw {d : Nat} {hp : amH} {R : xQ} {y : tY} {s : Nat} (hH : bHk 84 bTT hp) (Y : cB hp = y) (hok : tOk (rN hp 1 0).toNat y) (h4 : rN hp 1 4 = (s : Int)) (h6 : rN hp 1 6 = (s : Int)) (hs : (s : Int) ≤ rN hp 1 0)
    (hR : ∀ hp1, bHk 84 bTT hp1 → bFr wCt hp hp1 → rN hp1 1 4 = ((tR (tLt y) 601 s : Nat) : Int) → rN hp1 1 5 = 1 → rN hp1 1 6 = (s : Int) → R (.inl none) hp1) : xK (d + 1) 82 [.ref 1] hp R := by
  refine xin (M := am_m82) rfl rfl rfl ?_
  refine xald 1 ⟨u82, _, rfl⟩ rfl rfl ?_
  refine xcst 2 (1) ⟨u82, _, rfl⟩ rfl (by decide) (fun z1 h1 => ?_)
  refine xputC 5 hH ⟨u82, _, rfl⟩ rfl (by decide) (by decide) rfl rfl (by decide) ⟨rfl, rfl⟩ (by omega) (by omega) (fun hp2 hH2 U2 => ?_)
  have s2 := U2.1
  have n2_1_0 : rN hp2 (1) 0 = rN hp (1) 0 := rU_ne U2 (by omega)
  have n2_1_4 : rN hp2 (1) 4 = rN hp (1) 4 := rU_ne U2 (by omega)
  have n2_1_6 : rN hp2 (1) 6 = rN hp (1) 6 := rU_ne U2 (by omega)
  have n2_1_7 : rN hp2 (1) 7 = rN hp (1) 7 := rU_ne U2 (by omega)
  exact l82 hok rfl hR (rN hp 1 0 - s).toNat s hp2 hH2 (rU_fr U2 (by decide)) ((cB_U U2 (by decide)).trans Y) (by omega) (by omega) (by omega) (Nat.le_refl _) (fun k k1 k2 => by omega) (by omega)
end
/-! ##### 19.m.003.26b ##### -/
section
/-! ===== the class's tokens: numbers; one token ===== -/
section XW
variable {M : amM} {pc a b d : Nat} {L : List (Option Value)} {st : List Value} {hp : amH} {Q : xQ}
theorem xaddE (q : Nat) {x y : Int32} (h : xI M pc .iadd a b) (e : q = pc + 1) (hw : ∀ z : Int32, z = x + y → xV d M q L (.int z :: st) hp Q) : xV d M pc L (.int y :: .int x :: st) hp Q := by
  refine xstep h (fun cl hl => ⟨cl, ?_, hl⟩) (hw (x + y) rfl)
  subst e
  simp [amDo, amStep, amII]
theorem xmulE (q : Nat) {x y : Int32} (h : xI M pc .imul a b) (e : q = pc + 1) (hw : ∀ z : Int32, z = x * y → xV d M q L (.int z :: st) hp Q) : xV d M pc L (.int y :: .int x :: st) hp Q := by
  refine xstep h (fun cl hl => ⟨cl, ?_, hl⟩) (hw (x * y) rfl)
  subst e
  simp [amDo, amStep, amII]
end XW
theorem n_w {x t c f : Int32} (ht : t.toInt = 10) (hf : f.toInt = 48) (x1 : -1000 ≤ x.toInt) (x2 : x.toInt ≤ 1000) (c1 : -1 ≤ c.toInt) (c2 : c.toInt ≤ 255) : (x * t + c - f).toInt = 10 * x.toInt + c.toInt - 48 := by
  have e1 : (x * t).toInt = 10 * x.toInt := by rw [Int32.toInt_mul, ht, aBmod (by omega) (by omega)]; omega
  have e2 : (x * t + c).toInt = 10 * x.toInt + c.toInt := by rw [Int32.toInt_add, e1, aBmod (by omega) (by omega)]
  rw [Int32.toInt_sub, e2, hf, aBmod (by omega) (by omega)]
/-- what the number's value is on the way -/
def nV (y : tY) (s q : Nat) (v : Int) : Prop := (q = s → v = 0) ∧ (q = s + 1 → v = y s - 48) ∧ (q = s + 2 → v = 10 * (y s - 48) + (y (s + 1) - 48))
theorem nV_step {y : tY} {s q : Nat} {v v1 : Int} (hall : ∀ k, s ≤ k → k < q → tDg y k = true) (hd : tDg y q = true) (hv : nV y s q v) (hsq : s ≤ q) (h : -1000 ≤ v → v ≤ 1000 → v1 = 10 * v + y q - 48) : nV y s (q + 1) v1 := by
  have hd2 := of_decide_eq_true hd
  refine ⟨fun e => by omega, fun e => ?_, fun e => ?_⟩
  · have e : q = s := by omega
    subst e
    have := hv.1 rfl
    have := h (by omega) (by omega)
    omega
  · have e : q = s + 1 := by omega
    subst e
    have := hv.2.1 rfl
    have g := of_decide_eq_true (hall s (Nat.le_refl _) (by omega))
    have := h (by omega) (by omega)
    omega
theorem l83 {d : Nat} {hp0 : amH} {R : xQ} {y : tY} {s e : Nat} (hok : tOk (rN hp0 1 0).toNat y) (he : tR (tDg y) 601 s = e)
    (hR : ∀ hp1, bHk 84 bTT hp1 → bFr wCt hp0 hp1 → rN hp1 1 4 = (e : Int) → rN hp1 1 5 = (if e ≤ s + 2 then 2 else 4) → rN hp1 1 6 = (s : Int) → nV y s e (rN hp1 1 7) → R (.inl none) hp1) :
    ∀ (jj q : Nat) (hp : amH), bHk 84 bTT hp → bFr wCt hp0 hp → cB hp = y → rN hp 1 4 = (q : Int) → rN hp 1 6 = (s : Int) → s ≤ q → (∀ k, s ≤ k → k < q → tDg y k = true) → nV y s q (rN hp 1 7) → (q : Int) + (jj : Int) = rN hp0 1 0 → xV (d + 1) am_m83 5 [some (.ref 1)] [] hp R := by
  intro jj
  induction jj using Nat.strongRecOn with
  | ind jj ih =>
    intro q hp hH hF Y h4 h6 hsq hall hv hj
    have b0 := b1_0 hH
    have n0 : rN hp 1 0 = rN hp0 1 0 := r_fr hF rfl
    have fin : tDg y q = false → xV (d + 1) am_m83 66 [some (.ref 1)] [] hp R := fun g => by
      have eq : e = q := by rw [← he]; exact tR_eq 601 s q hsq (by omega) hall (fun _ => g)
      subst eq
      refine xald 67 ⟨u83, _, rfl⟩ rfl rfl ?_
      refine xald 68 ⟨u83, _, rfl⟩ rfl rfl ?_
      refine xgetC 71 hH ⟨u83, _, rfl⟩ rfl (by decide) (by decide) rfl rfl (by decide) (fun z68 h68 => ?_)
      refine xald 72 ⟨u83, _, rfl⟩ rfl rfl ?_
      refine xgetC 75 hH ⟨u83, _, rfl⟩ rfl (by decide) (by decide) rfl rfl (by decide) (fun z72 h72 => ?_)
      refine xsub 76 _ ⟨u83, _, rfl⟩ rfl rfl (by omega) (by omega) (fun z75 h75 => ?_)
      refine xcst 77 (2) ⟨u83, _, rfl⟩ rfl (by decide) (fun z76 h76 => ?_)
      refine xcmp_gt 80 ⟨u83, _, rfl⟩ rfl (fun c77 => ?_) (fun c77 => ?_)
      · refine xcst 85 (4) ⟨u83, _, rfl⟩ rfl (by decide) (fun z84 h84 => ?_)
        refine xputC 88 hH ⟨u83, _, rfl⟩ rfl (by decide) (by decide) rfl rfl (by decide) ⟨rfl, rfl⟩ (by omega) (by omega) (fun hp85 hH85 U85 => ?_)
        have s85 := U85.1
        have n85_1_0 : rN hp85 (1) 0 = rN hp (1) 0 := rU_ne U85 (by omega)
        have n85_1_4 : rN hp85 (1) 4 = rN hp (1) 4 := rU_ne U85 (by omega)
        have n85_1_6 : rN hp85 (1) 6 = rN hp (1) 6 := rU_ne U85 (by omega)
        have n85_1_7 : rN hp85 (1) 7 = rN hp (1) 7 := rU_ne U85 (by omega)
        exact xretV ⟨u83, _, rfl⟩ rfl (hR hp85 hH85 (hF.trans (rU_fr U85 (by decide))) (by omega) (by rw [s85]; rw [if_neg (by omega)]; exact h84) (by omega) (by rw [n85_1_7]; exact hv))
      · refine xcst 81 (2) ⟨u83, _, rfl⟩ rfl (by decide) (fun z80 h80 => ?_)
        refine xgoto ⟨u83, _, rfl⟩ ?_
        refine xputC 88 hH ⟨u83, _, rfl⟩ rfl (by decide) (by decide) rfl rfl (by decide) ⟨rfl, rfl⟩ (by omega) (by omega) (fun hp85 hH85 U85 => ?_)
        have s85 := U85.1
        have n85_1_0 : rN hp85 (1) 0 = rN hp (1) 0 := rU_ne U85 (by omega)
        have n85_1_4 : rN hp85 (1) 4 = rN hp (1) 4 := rU_ne U85 (by omega)
        have n85_1_6 : rN hp85 (1) 6 = rN hp (1) 6 := rU_ne U85 (by omega)
        have n85_1_7 : rN hp85 (1) 7 = rN hp (1) 7 := rU_ne U85 (by omega)
        exact xretV ⟨u83, _, rfl⟩ rfl (hR hp85 hH85 (hF.trans (rU_fr U85 (by decide))) (by omega) (by rw [s85]; rw [if_pos (by omega)]; exact h80) (by omega) (by rw [n85_1_7]; exact hv))
    refine xald 6 ⟨u83, _, rfl⟩ rfl rfl ?_
    refine xgetC 9 hH ⟨u83, _, rfl⟩ rfl (by decide) (by decide) rfl rfl (by decide) (fun z6 h6 => ?_)
    refine xald 10 ⟨u83, _, rfl⟩ rfl rfl ?_
    refine xgetC 13 hH ⟨u83, _, rfl⟩ rfl (by decide) (by decide) rfl rfl (by decide) (fun z10 h10 => ?_)
    refine xcmp_ge 16 ⟨u83, _, rfl⟩ rfl (fun c13 => ?_) (fun c13 => ?_)
    · exact fin (by cases e9 : tDg y q; rfl; have := tDg_n hok q e9; omega)
    · refine xald 17 ⟨u83, _, rfl⟩ rfl rfl ?_
      refine xald 18 ⟨u83, _, rfl⟩ rfl rfl ?_
      refine xgetC 21 hH ⟨u83, _, rfl⟩ rfl (by decide) (by decide) rfl rfl (by decide) (fun z18 h18 => ?_)
      refine xcallC 24 (o := 1) [.int _] [] hH ⟨u83, _, rfl⟩ rfl rfl (by decide) rfl (by decide) rfl ⟨rfl, rfl, rfl, rfl⟩ rfl (k_cB hH Y (q := q) (by omega) (fun z21 h21 => ⟨_, rfl, ?_⟩))
      refine xcallS 27 [.int _] [] hH ⟨u83, _, rfl⟩ rfl rfl rfl rfl rfl (k_dig (y := y) (q := q) (by omega) (fun z24 h24 => ⟨_, rfl, ?_⟩))
      refine xif_eq 30 ⟨u83, _, rfl⟩ rfl (fun c27 => ?_) (fun c27 => ?_)
      · exact fin (by rcases h24 with z | z; omega; exact z.2)
      · refine xald 31 ⟨u83, _, rfl⟩ rfl rfl ?_
        refine xald 32 ⟨u83, _, rfl⟩ rfl rfl ?_
        refine xgetC 35 hH ⟨u83, _, rfl⟩ rfl (by decide) (by decide) rfl rfl (by decide) (fun z32 h32 => ?_)
        refine xbip 37 (10) ⟨u83, _, rfl⟩ rfl (by decide) (fun z35 h35 => ?_)
        refine xmulE 38 ⟨u83, _, rfl⟩ rfl (fun z37 h37 => ?_)
        refine xald 39 ⟨u83, _, rfl⟩ rfl rfl ?_
        refine xald 40 ⟨u83, _, rfl⟩ rfl rfl ?_
        refine xgetC 43 hH ⟨u83, _, rfl⟩ rfl (by decide) (by decide) rfl rfl (by decide) (fun z40 h40 => ?_)
        refine xcallC 46 (o := 1) [.int _] [.int _, .ref 1] hH ⟨u83, _, rfl⟩ rfl rfl (by decide) rfl (by decide) rfl ⟨rfl, rfl, rfl, rfl⟩ rfl (k_cB hH Y (q := q) (by omega) (fun z43 h43 => ⟨_, rfl, ?_⟩))
        refine xaddE 47 ⟨u83, _, rfl⟩ rfl (fun z46 h46 => ?_)
        refine xbip 49 (48) ⟨u83, _, rfl⟩ rfl (by decide) (fun z47 h47 => ?_)
        refine xsubw 50 ⟨u83, _, rfl⟩ rfl (fun z49 h49 => ?_)
        have bmn := aMin z49
        have bmx := aMax z49
        refine xputC 53 hH ⟨u83, _, rfl⟩ rfl (by decide) (by decide) rfl rfl (by decide) ⟨rfl, rfl⟩ (by omega) (by omega) (fun hp50 hH50 U50 => ?_)
        have s50 := U50.1
        have n50_1_0 : rN hp50 (1) 0 = rN hp (1) 0 := rU_ne U50 (by omega)
        have n50_1_4 : rN hp50 (1) 4 = rN hp (1) 4 := rU_ne U50 (by omega)
        have n50_1_5 : rN hp50 (1) 5 = rN hp (1) 5 := rU_ne U50 (by omega)
        have n50_1_6 : rN hp50 (1) 6 = rN hp (1) 6 := rU_ne U50 (by omega)
        refine xald 54 ⟨u83, _, rfl⟩ rfl rfl ?_
        refine xdup 55 ⟨u83, _, rfl⟩ rfl rfl ?_
        refine xgetC 58 hH50 ⟨u83, _, rfl⟩ rfl (by decide) (by decide) rfl rfl (by decide) (fun z55 h55 => ?_)
        refine xcst 59 (1) ⟨u83, _, rfl⟩ rfl (by decide) (fun z58 h58 => ?_)
        refine xadd 60 _ ⟨u83, _, rfl⟩ rfl rfl (by omega) (by omega) (fun z59 h59 => ?_)
        refine xputC 63 hH50 ⟨u83, _, rfl⟩ rfl (by decide) (by decide) rfl rfl (by decide) ⟨rfl, rfl⟩ (by omega) (by omega) (fun hp60 hH60 U60 => ?_)
        have s60 := U60.1
        have n60_1_0 : rN hp60 (1) 0 = rN hp50 (1) 0 := rU_ne U60 (by omega)
        have n60_1_5 : rN hp60 (1) 5 = rN hp50 (1) 5 := rU_ne U60 (by omega)
        have n60_1_6 : rN hp60 (1) 6 = rN hp50 (1) 6 := rU_ne U60 (by omega)
        have n60_1_7 : rN hp60 (1) 7 = rN hp50 (1) 7 := rU_ne U60 (by omega)
        refine xgoto ⟨u83, _, rfl⟩ ?_
        have hd : tDg y q = true := by rcases h24 with z | z; exact z.2; omega
        have hd2 := of_decide_eq_true hd
        exact ih (jj - 1) (by omega) (q + 1) hp60 hH60 ((hF.trans (rU_fr U50 (by decide))).trans (rU_fr U60 (by decide))) ((cB_U U60 (by decide)).trans ((cB_U U50 (by decide)).trans Y)) (by omega) (by omega) (by omega) (fun k k1 k2 => by rcases Nat.lt_or_ge k q with g | g; exact hall k k1 g; rw [show k = q by omega]; exact hd) (nV_step hall hd hv hsq (fun g1 g2 => by rw [n60_1_7, s50, h49, h46, h37, n_w h35 h47 (by omega) (by omega) (by omega) (by omega), h43, h32])) (by omega)
theorem k_rn {d : Nat} {hp : amH} {R : xQ} {y : tY} {s : Nat} (hH : bHk 84 bTT hp) (Y : cB hp = y) (hok : tOk (rN hp 1 0).toNat y) (h4 : rN hp 1 4 = (s : Int)) (h6 : rN hp 1 6 = (s : Int)) (hs : (s : Int) ≤ rN hp 1 0)
    (hR : ∀ hp1, bHk 84 bTT hp1 → bFr wCt hp hp1 → rN hp1 1 4 = ((tR (tDg y) 601 s : Nat) : Int) → rN hp1 1 5 = (if tR (tDg y) 601 s ≤ s + 2 then 2 else 4) → rN hp1 1 6 = (s : Int) → nV y s (tR (tDg y) 601 s) (rN hp1 1 7) → R (.inl none) hp1) : xK (d + 1) 83 [.ref 1] hp R := by
  refine xin (M := am_m83) rfl rfl rfl ?_
  refine xald 1 ⟨u83, _, rfl⟩ rfl rfl ?_
  refine xcst 2 (0) ⟨u83, _, rfl⟩ rfl (by decide) (fun z1 h1 => ?_)
  refine xputC 5 hH ⟨u83, _, rfl⟩ rfl (by decide) (by decide) rfl rfl (by decide) ⟨rfl, rfl⟩ (by omega) (by omega) (fun hp2 hH2 U2 => ?_)
  have s2 := U2.1
  have n2_1_0 : rN hp2 (1) 0 = rN hp (1) 0 := rU_ne U2 (by omega)
  have n2_1_4 : rN hp2 (1) 4 = rN hp (1) 4 := rU_ne U2 (by omega)
  have n2_1_5 : rN hp2 (1) 5 = rN hp (1) 5 := rU_ne U2 (by omega)
  have n2_1_6 : rN hp2 (1) 6 = rN hp (1) 6 := rU_ne U2 (by omega)
  exact l83 hok rfl hR (rN hp 1 0 - s).toNat s hp2 hH2 (rU_fr U2 (by decide)) ((cB_U U2 (by decide)).trans Y) (by omega) (by omega) (Nat.le_refl _) (fun k k1 k2 => by omega) ⟨fun _ => by omega, fun e => by omega, fun e => by omega⟩ (by omega)
/-- the class's token at s -/
def ckK (y : tY) (s : Nat) : Int := if tK y s = 2 ∧ ¬ tE y s ≤ s + 2 then 4 else tK y s
def cT (hp : amH) (y : tY) (s : Nat) : Prop := rN hp 1 6 = (s : Int) ∧ rN hp 1 4 = ((tE y s : Nat) : Int) ∧ rN hp 1 5 = ckK y s ∧ (tK y s = 2 → tE y s ≤ s + 2 → rN hp 1 7 = tV y s)
theorem l81 {d : Nat} {hp0 : amH} {R : xQ} {y : tY} {p s : Nat} (hok : tOk (rN hp0 1 0).toNat y) (he : tS y p = s) (hQ : ∀ hp, bHk 84 bTT hp → bFr wCt hp0 hp → cB hp = y → rN hp 1 4 = (s : Int) → (s : Int) ≤ rN hp 1 0 → xV (d + 2) am_m81 50 [some (.ref 1)] [] hp R) :
    ∀ (jj q : Nat) (hp : amH), bHk 84 bTT hp → bFr wCt hp0 hp → cB hp = y → rN hp 1 4 = (q : Int) → p ≤ q → (∀ k, p ≤ k → k < q → tSp y k = true) → (q : Int) + (jj : Int) = rN hp0 1 0 → xV (d + 2) am_m81 0 [some (.ref 1)] [] hp R := by
  intro jj
  induction jj using Nat.strongRecOn with
  | ind jj ih =>
    intro q hp hH hF Y h4 hsq hall hj
    have b0 := b1_0 hH
    have n0 : rN hp 1 0 = rN hp0 1 0 := r_fr hF rfl
    have fin : tSp y q = false → xV (d + 2) am_m81 50 [some (.ref 1)] [] hp R := fun g => by
      have eq : s = q := by rw [← he]; exact tR_eq 601 p q hsq (by omega) hall (fun _ => g)
      subst eq
      exact hQ hp hH hF Y h4 (by omega)
    refine xald 1 ⟨u81, _, rfl⟩ rfl rfl ?_
    refine xgetC 4 hH ⟨u81, _, rfl⟩ rfl (by decide) (by decide) rfl rfl (by decide) (fun z1 h1 => ?_)
    refine xald 5 ⟨u81, _, rfl⟩ rfl rfl ?_
    refine xgetC 8 hH ⟨u81, _, rfl⟩ rfl (by decide) (by decide) rfl rfl (by decide) (fun z5 h5 => ?_)
    refine xcmp_ge 11 ⟨u81, _, rfl⟩ rfl (fun c8 => ?_) (fun c8 => ?_)
    · exact fin (by cases e9 : tSp y q; rfl; have := tSp_n hok q e9; omega)
    · refine xald 12 ⟨u81, _, rfl⟩ rfl rfl ?_
      refine xald 13 ⟨u81, _, rfl⟩ rfl rfl ?_
      refine xgetC 16 hH ⟨u81, _, rfl⟩ rfl (by decide) (by decide) rfl rfl (by decide) (fun z13 h13 => ?_)
      refine xcallC 19 (o := 1) [.int _] [] hH ⟨u81, _, rfl⟩ rfl rfl (by decide) rfl (by decide) rfl ⟨rfl, rfl, rfl, rfl⟩ rfl (k_cB hH Y (q := q) (by omega) (fun z16 h16 => ⟨_, rfl, ?_⟩))
      refine xbip 21 (32) ⟨u81, _, rfl⟩ rfl (by decide) (fun z19 h19 => ?_)
      refine xcmp_eq 24 ⟨u81, _, rfl⟩ rfl (fun c21 => ?_) (fun c21 => ?_)
      · refine xald 38 ⟨u81, _, rfl⟩ rfl rfl ?_
        refine xdup 39 ⟨u81, _, rfl⟩ rfl rfl ?_
        refine xgetC 42 hH ⟨u81, _, rfl⟩ rfl (by decide) (by decide) rfl rfl (by decide) (fun z39 h39 => ?_)
        refine xcst 43 (1) ⟨u81, _, rfl⟩ rfl (by decide) (fun z42 h42 => ?_)
        refine xadd 44 _ ⟨u81, _, rfl⟩ rfl rfl (by omega) (by omega) (fun z43 h43 => ?_)
        refine xputC 47 hH ⟨u81, _, rfl⟩ rfl (by decide) (by decide) rfl rfl (by decide) ⟨rfl, rfl⟩ (by omega) (by omega) (fun hp44 hH44 U44 => ?_)
        have s44 := U44.1
        have n44_1_0 : rN hp44 (1) 0 = rN hp (1) 0 := rU_ne U44 (by omega)
        have n44_1_5 : rN hp44 (1) 5 = rN hp (1) 5 := rU_ne U44 (by omega)
        have n44_1_6 : rN hp44 (1) 6 = rN hp (1) 6 := rU_ne U44 (by omega)
        have n44_1_7 : rN hp44 (1) 7 = rN hp (1) 7 := rU_ne U44 (by omega)
        refine xgoto ⟨u81, _, rfl⟩ ?_
        exact ih (jj - 1) (by omega) (q + 1) hp44 hH44 (hF.trans (rU_fr U44 (by decide))) ((cB_U U44 (by decide)).trans Y) (by omega) (by omega) (fun k k1 k2 => by rcases Nat.lt_or_ge k q with g | g; exact hall k k1 g; rw [show k = q by omega]; exact decide_eq_true (by omega)) (by omega)
      · refine xald 25 ⟨u81, _, rfl⟩ rfl rfl ?_
        refine xald 26 ⟨u81, _, rfl⟩ rfl rfl ?_
        refine xgetC 29 hH ⟨u81, _, rfl⟩ rfl (by decide) (by decide) rfl rfl (by decide) (fun z26 h26 => ?_)
        refine xcallC 32 (o := 1) [.int _] [] hH ⟨u81, _, rfl⟩ rfl rfl (by decide) rfl (by decide) rfl ⟨rfl, rfl, rfl, rfl⟩ rfl (k_cB hH Y (q := q) (by omega) (fun z29 h29 => ⟨_, rfl, ?_⟩))
        refine xbip 34 (10) ⟨u81, _, rfl⟩ rfl (by decide) (fun z32 h32 => ?_)
        refine xcmp_ne 37 ⟨u81, _, rfl⟩ rfl (fun c34 => ?_) (fun c34 => ?_)
        · exact fin (decide_eq_false (by omega))
        · refine xald 38 ⟨u81, _, rfl⟩ rfl rfl ?_
          refine xdup 39 ⟨u81, _, rfl⟩ rfl rfl ?_
          refine xgetC 42 hH ⟨u81, _, rfl⟩ rfl (by decide) (by decide) rfl rfl (by decide) (fun z39 h39 => ?_)
          refine xcst 43 (1) ⟨u81, _, rfl⟩ rfl (by decide) (fun z42 h42 => ?_)
          refine xadd 44 _ ⟨u81, _, rfl⟩ rfl rfl (by omega) (by omega) (fun z43 h43 => ?_)
          refine xputC 47 hH ⟨u81, _, rfl⟩ rfl (by decide) (by decide) rfl rfl (by decide) ⟨rfl, rfl⟩ (by omega) (by omega) (fun hp44 hH44 U44 => ?_)
          have s44 := U44.1
          have n44_1_0 : rN hp44 (1) 0 = rN hp (1) 0 := rU_ne U44 (by omega)
          have n44_1_5 : rN hp44 (1) 5 = rN hp (1) 5 := rU_ne U44 (by omega)
          have n44_1_6 : rN hp44 (1) 6 = rN hp (1) 6 := rU_ne U44 (by omega)
          have n44_1_7 : rN hp44 (1) 7 = rN hp (1) 7 := rU_ne U44 (by omega)
          refine xgoto ⟨u81, _, rfl⟩ ?_
          exact ih (jj - 1) (by omega) (q + 1) hp44 hH44 (hF.trans (rU_fr U44 (by decide))) ((cB_U U44 (by decide)).trans Y) (by omega) (by omega) (fun k k1 k2 => by rcases Nat.lt_or_ge k q with g | g; exact hall k k1 g; rw [show k = q by omega]; exact decide_eq_true (by omega)) (by omega)
theorem cT_0 {hp : amH} {y : tY} {s : Nat} (h1 : y s = -1) (h2 : rN hp 1 6 = (s : Int)) (h3 : rN hp 1 4 = (s : Int)) (h4 : rN hp 1 5 = 0) : cT hp y s := by
  have k : tK y s = 0 := tK_0.mpr h1
  have e : tE y s = s := by unfold tE; rw [if_pos h1]
  refine ⟨h2, by rw [e]; exact h3, ?_, fun z => by omega⟩
  unfold ckK
  rw [if_neg (by omega), k]
  exact h4
theorem cT_1 {hp : amH} {y : tY} {s : Nat} (h1 : ¬ y s = -1) (h2 : tLt y s = true) (h3 : rN hp 1 4 = ((tR (tLt y) 601 s : Nat) : Int)) (h4 : rN hp 1 5 = 1) (h5 : rN hp 1 6 = (s : Int)) : cT hp y s := by
  have k : tK y s = 1 := by unfold tK; rw [if_neg h1, if_pos h2]
  have e : tE y s = tR (tLt y) 601 s := by unfold tE; rw [if_neg h1, if_pos h2]
  refine ⟨h5, by rw [e]; exact h3, ?_, fun z => by omega⟩
  unfold ckK
  rw [if_neg (by omega), k]
  exact h4
theorem cT_2 {hp : amH} {y : tY} {s : Nat} (h1 : ¬ y s = -1) (h2 : tLt y s = false) (h2b : tDg y s = true) (h3 : rN hp 1 4 = ((tR (tDg y) 601 s : Nat) : Int)) (h4 : rN hp 1 5 = (if tR (tDg y) 601 s ≤ s + 2 then 2 else 4)) (h5 : rN hp 1 6 = (s : Int)) (h6 : nV y s (tR (tDg y) 601 s) (rN hp 1 7)) : cT hp y s := by
  have k : tK y s = 2 := by unfold tK; rw [if_neg h1, if_neg (by rw [h2]; decide), if_pos h2b]
  have e : tE y s = tR (tDg y) 601 s := by unfold tE; rw [if_neg h1, if_neg (by rw [h2]; decide), if_pos h2b]
  rw [← e] at h3 h4 h6
  have hgt : s < tE y s := by rw [e]; exact tR_lt h2b
  refine ⟨h5, h3, ?_, fun _ z => ?_⟩
  · unfold ckK
    by_cases g : tE y s ≤ s + 2
    · rw [if_neg (fun z => z.2 g), k, h4, if_pos g]
    · rw [if_pos ⟨k, g⟩, h4, if_neg g]
  · unfold tV
    by_cases g : tE y s = s + 1
    · rw [if_pos g]
      exact h6.2.1 g
    · rw [if_neg g]
      exact h6.2.2 (by omega)
theorem cT_3 {hp : amH} {y : tY} {s : Nat} (h1 : ¬ y s = -1) (h2 : tLt y s = false) (h2b : tDg y s = false) (h5 : rN hp 1 6 = (s : Int)) (h3 : rN hp 1 4 = (s : Int) + 1) (h4 : rN hp 1 5 = (if y s = 59 then 3 else 4)) : cT hp y s := by
  have k : tK y s = (if y s = 59 then 3 else 4) := by unfold tK; rw [if_neg h1, if_neg (by rw [h2]; decide), if_neg (by rw [h2b]; decide)]
  have e : tE y s = s + 1 := by unfold tE; rw [if_neg h1, if_neg (by rw [h2]; decide), if_neg (by rw [h2b]; decide)]
  have k2 : ¬ tK y s = 2 := by rw [k]; split <;> decide
  refine ⟨h5, by rw [e]; omega, ?_, fun z => absurd z k2⟩
  unfold ckK
  rw [if_neg (fun z => k2 z.1), k]
  exact h4
theorem e81 {d : Nat} {hp0 hp : amH} {R : xQ} {y : tY} {s : Nat} (hok : tOk (rN hp0 1 0).toNat y) (hR : ∀ hp1, bHk 84 bTT hp1 → bFr wCt hp0 hp1 → cT hp1 y s → R (.inl none) hp1) (hH : bHk 84 bTT hp) (hF : bFr wCt hp0 hp) (Y : cB hp = y) (h4 : rN hp 1 4 = (s : Int)) (hs : (s : Int) ≤ rN hp 1 0) : xV (d + 2) am_m81 50 [some (.ref 1)] [] hp R := by
  have b0 := b1_0 hH
  have n0 : rN hp 1 0 = rN hp0 1 0 := r_fr hF rfl
  refine xald 51 ⟨u81, _, rfl⟩ rfl rfl ?_
  refine xald 52 ⟨u81, _, rfl⟩ rfl rfl ?_
  refine xgetC 55 hH ⟨u81, _, rfl⟩ rfl (by decide) (by decide) rfl rfl (by decide) (fun z52 h52 => ?_)
  refine xputC 58 hH ⟨u81, _, rfl⟩ rfl (by decide) (by decide) rfl rfl (by decide) ⟨rfl, rfl⟩ (by omega) (by omega) (fun hp55 hH55 U55 => ?_)
  have s55 := U55.1
  have n55_1_0 : rN hp55 (1) 0 = rN hp (1) 0 := rU_ne U55 (by omega)
  have n55_1_4 : rN hp55 (1) 4 = rN hp (1) 4 := rU_ne U55 (by omega)
  have n55_1_5 : rN hp55 (1) 5 = rN hp (1) 5 := rU_ne U55 (by omega)
  have n55_1_7 : rN hp55 (1) 7 = rN hp (1) 7 := rU_ne U55 (by omega)
  refine xald 59 ⟨u81, _, rfl⟩ rfl rfl ?_
  refine xald 60 ⟨u81, _, rfl⟩ rfl rfl ?_
  refine xgetC 63 hH55 ⟨u81, _, rfl⟩ rfl (by decide) (by decide) rfl rfl (by decide) (fun z60 h60 => ?_)
  refine xcallC 66 (o := 1) [.int _] [] hH55 ⟨u81, _, rfl⟩ rfl rfl (by decide) rfl (by decide) rfl ⟨rfl, rfl, rfl, rfl⟩ rfl (k_cB hH55 ((cB_U U55 (by decide)).trans Y) (q := s) (by omega) (fun z63 h63 => ⟨_, rfl, ?_⟩))
  refine xist 67 ⟨u81, _, rfl⟩ rfl rfl ?_
  refine xild 68 ⟨u81, _, rfl⟩ rfl rfl ?_
  refine xcst 69 (-1) ⟨u81, _, rfl⟩ rfl (by decide) (fun z68 h68 => ?_)
  refine xcmp_ne 72 ⟨u81, _, rfl⟩ rfl (fun c69 => ?_) (fun c69 => ?_)
  · refine xild 81 ⟨u81, _, rfl⟩ rfl rfl ?_
    refine xcallS 84 [.int _] [] hH55 ⟨u81, _, rfl⟩ rfl rfl rfl rfl rfl (k_let (y := y) (q := s) (by omega) (fun z81 h81 => ⟨_, rfl, ?_⟩))
    refine xif_eq 87 ⟨u81, _, rfl⟩ rfl (fun c84 => ?_) (fun c84 => ?_)
    · refine xild 95 ⟨u81, _, rfl⟩ rfl rfl ?_
      refine xcallS 98 [.int _] [] hH55 ⟨u81, _, rfl⟩ rfl rfl rfl rfl rfl (k_dig (y := y) (q := s) (by omega) (fun z95 h95 => ⟨_, rfl, ?_⟩))
      refine xif_eq 101 ⟨u81, _, rfl⟩ rfl (fun c98 => ?_) (fun c98 => ?_)
      · refine xald 109 ⟨u81, _, rfl⟩ rfl rfl ?_
        refine xild 110 ⟨u81, _, rfl⟩ rfl rfl ?_
        refine xbip 112 (59) ⟨u81, _, rfl⟩ rfl (by decide) (fun z110 h110 => ?_)
        refine xcmp_ne 115 ⟨u81, _, rfl⟩ rfl (fun c112 => ?_) (fun c112 => ?_)
        · refine xcst 120 (4) ⟨u81, _, rfl⟩ rfl (by decide) (fun z119 h119 => ?_)
          refine xputC 123 hH55 ⟨u81, _, rfl⟩ rfl (by decide) (by decide) rfl rfl (by decide) ⟨rfl, rfl⟩ (by omega) (by omega) (fun hp120 hH120 U120 => ?_)
          have s120 := U120.1
          have n120_1_0 : rN hp120 (1) 0 = rN hp55 (1) 0 := rU_ne U120 (by omega)
          have n120_1_4 : rN hp120 (1) 4 = rN hp55 (1) 4 := rU_ne U120 (by omega)
          have n120_1_6 : rN hp120 (1) 6 = rN hp55 (1) 6 := rU_ne U120 (by omega)
          have n120_1_7 : rN hp120 (1) 7 = rN hp55 (1) 7 := rU_ne U120 (by omega)
          refine xald 124 ⟨u81, _, rfl⟩ rfl rfl ?_
          refine xdup 125 ⟨u81, _, rfl⟩ rfl rfl ?_
          refine xgetC 128 hH120 ⟨u81, _, rfl⟩ rfl (by decide) (by decide) rfl rfl (by decide) (fun z125 h125 => ?_)
          refine xcst 129 (1) ⟨u81, _, rfl⟩ rfl (by decide) (fun z128 h128 => ?_)
          refine xadd 130 _ ⟨u81, _, rfl⟩ rfl rfl (by omega) (by omega) (fun z129 h129 => ?_)
          refine xputC 133 hH120 ⟨u81, _, rfl⟩ rfl (by decide) (by decide) rfl rfl (by decide) ⟨rfl, rfl⟩ (by omega) (by omega) (fun hp130 hH130 U130 => ?_)
          have s130 := U130.1
          have n130_1_0 : rN hp130 (1) 0 = rN hp120 (1) 0 := rU_ne U130 (by omega)
          have n130_1_5 : rN hp130 (1) 5 = rN hp120 (1) 5 := rU_ne U130 (by omega)
          have n130_1_6 : rN hp130 (1) 6 = rN hp120 (1) 6 := rU_ne U130 (by omega)
          have n130_1_7 : rN hp130 (1) 7 = rN hp120 (1) 7 := rU_ne U130 (by omega)
          exact xretV ⟨u81, _, rfl⟩ rfl (hR hp130 hH130 (((hF.trans (rU_fr U55 (by decide))).trans (rU_fr U120 (by decide))).trans (rU_fr U130 (by decide))) (cT_3 (by omega) (by rcases h81 with z | z; omega; exact z.2) (by rcases h95 with z | z; omega; exact z.2) (by omega) (by omega) (by rw [if_neg (by omega)]; omega)))
        · refine xcst 116 (3) ⟨u81, _, rfl⟩ rfl (by decide) (fun z115 h115 => ?_)
          refine xgoto ⟨u81, _, rfl⟩ ?_
          refine xputC 123 hH55 ⟨u81, _, rfl⟩ rfl (by decide) (by decide) rfl rfl (by decide) ⟨rfl, rfl⟩ (by omega) (by omega) (fun hp120 hH120 U120 => ?_)
          have s120 := U120.1
          have n120_1_0 : rN hp120 (1) 0 = rN hp55 (1) 0 := rU_ne U120 (by omega)
          have n120_1_4 : rN hp120 (1) 4 = rN hp55 (1) 4 := rU_ne U120 (by omega)
          have n120_1_6 : rN hp120 (1) 6 = rN hp55 (1) 6 := rU_ne U120 (by omega)
          have n120_1_7 : rN hp120 (1) 7 = rN hp55 (1) 7 := rU_ne U120 (by omega)
          refine xald 124 ⟨u81, _, rfl⟩ rfl rfl ?_
          refine xdup 125 ⟨u81, _, rfl⟩ rfl rfl ?_
          refine xgetC 128 hH120 ⟨u81, _, rfl⟩ rfl (by decide) (by decide) rfl rfl (by decide) (fun z125 h125 => ?_)
          refine xcst 129 (1) ⟨u81, _, rfl⟩ rfl (by decide) (fun z128 h128 => ?_)
          refine xadd 130 _ ⟨u81, _, rfl⟩ rfl rfl (by omega) (by omega) (fun z129 h129 => ?_)
          refine xputC 133 hH120 ⟨u81, _, rfl⟩ rfl (by decide) (by decide) rfl rfl (by decide) ⟨rfl, rfl⟩ (by omega) (by omega) (fun hp130 hH130 U130 => ?_)
          have s130 := U130.1
          have n130_1_0 : rN hp130 (1) 0 = rN hp120 (1) 0 := rU_ne U130 (by omega)
          have n130_1_5 : rN hp130 (1) 5 = rN hp120 (1) 5 := rU_ne U130 (by omega)
          have n130_1_6 : rN hp130 (1) 6 = rN hp120 (1) 6 := rU_ne U130 (by omega)
          have n130_1_7 : rN hp130 (1) 7 = rN hp120 (1) 7 := rU_ne U130 (by omega)
          exact xretV ⟨u81, _, rfl⟩ rfl (hR hp130 hH130 (((hF.trans (rU_fr U55 (by decide))).trans (rU_fr U120 (by decide))).trans (rU_fr U130 (by decide))) (cT_3 (by omega) (by rcases h81 with z | z; omega; exact z.2) (by rcases h95 with z | z; omega; exact z.2) (by omega) (by omega) (by rw [if_pos (by omega)]; omega)))
      · refine xald 102 ⟨u81, _, rfl⟩ rfl rfl ?_
        refine xcallC 105 (o := 1) [] [] hH55 ⟨u81, _, rfl⟩ rfl rfl (by decide) rfl (by decide) rfl ⟨rfl, rfl, rfl, rfl⟩ rfl (k_rn hH55 ((cB_U U55 (by decide)).trans Y) (by rw [n55_1_0, n0]; exact hok) (s := s) (by omega) (by omega) (by omega) (fun hp102 hH102 F102 A102 B102 C102 D102 => ⟨_, rfl, ?_⟩))
        refine xgoto ⟨u81, _, rfl⟩ ?_
        exact xretV ⟨u81, _, rfl⟩ rfl (hR hp102 hH102 ((hF.trans (rU_fr U55 (by decide))).trans F102) (cT_2 (by omega) (by rcases h81 with z | z; omega; exact z.2) (by rcases h95 with z | z; exact z.2; omega) A102 B102 C102 D102))
    · refine xald 88 ⟨u81, _, rfl⟩ rfl rfl ?_
      refine xcallC 91 (o := 1) [] [] hH55 ⟨u81, _, rfl⟩ rfl rfl (by decide) rfl (by decide) rfl ⟨rfl, rfl, rfl, rfl⟩ rfl (k_rw hH55 ((cB_U U55 (by decide)).trans Y) (by rw [n55_1_0, n0]; exact hok) (s := s) (by omega) (by omega) (by omega) (fun hp88 hH88 F88 A88 B88 C88 => ⟨_, rfl, ?_⟩))
      refine xgoto ⟨u81, _, rfl⟩ ?_
      exact xretV ⟨u81, _, rfl⟩ rfl (hR hp88 hH88 ((hF.trans (rU_fr U55 (by decide))).trans F88) (cT_1 (by omega) (by rcases h81 with z | z; exact z.2; omega) A88 B88 C88))
  · refine xald 73 ⟨u81, _, rfl⟩ rfl rfl ?_
    refine xcst 74 (0) ⟨u81, _, rfl⟩ rfl (by decide) (fun z73 h73 => ?_)
    refine xputC 77 hH55 ⟨u81, _, rfl⟩ rfl (by decide) (by decide) rfl rfl (by decide) ⟨rfl, rfl⟩ (by omega) (by omega) (fun hp74 hH74 U74 => ?_)
    have s74 := U74.1
    have n74_1_0 : rN hp74 (1) 0 = rN hp55 (1) 0 := rU_ne U74 (by omega)
    have n74_1_4 : rN hp74 (1) 4 = rN hp55 (1) 4 := rU_ne U74 (by omega)
    have n74_1_6 : rN hp74 (1) 6 = rN hp55 (1) 6 := rU_ne U74 (by omega)
    have n74_1_7 : rN hp74 (1) 7 = rN hp55 (1) 7 := rU_ne U74 (by omega)
    refine xgoto ⟨u81, _, rfl⟩ ?_
    exact xretV ⟨u81, _, rfl⟩ rfl (hR hp74 hH74 ((hF.trans (rU_fr U55 (by decide))).trans (rU_fr U74 (by decide))) (cT_0 (by omega) (by omega) (by omega) (by omega)))
/-- on to the next token -/
theorem k_cadv {d : Nat} {hp : amH} {R : xQ} {y : tY} {p : Nat} (hH : bHk 84 bTT hp) (Y : cB hp = y) (h4 : rN hp 1 4 = (p : Int)) (hp0 : (p : Int) ≤ rN hp 1 0)
    (hR : ∀ hp1, bHk 84 bTT hp1 → bFr wCt hp hp1 → cB hp1 = y → cT hp1 y (tS y p) → R (.inl none) hp1) : xK (d + 2) 81 [.ref 1] hp R := by
  have hok : tOk (rN hp 1 0).toNat y := by rw [← Y]; exact cB_ok hH
  refine xin (M := am_m81) rfl rfl rfl ?_
  exact l81 hok rfl (fun hp1 g1 g2 g3 g4 g5 => e81 hok (fun hp2 k1 k2 k3 => hR hp2 k1 k2 (by rw [cB_F k2, Y]) k3) g1 g2 g3 g4 g5) (rN hp 1 0 - p).toNat p hp hH (bFr.refl _ _) Y h4 (Nat.le_refl _) (fun k k1 k2 => by omega) (by omega)
end
