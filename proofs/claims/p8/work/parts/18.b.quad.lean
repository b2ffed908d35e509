/-! ===== quadrilaterals out of sets of points ===== -/
def mk (A : Nat → Nat × Nat × Nat) (k : Nat) : Nat := 2 ^ (A k).1 + 2 ^ (A k).2.1 + 2 ^ (A k).2.2
theorem mk_lt {t : Nat → Nat → Int} {p : Int} {m : Nat} {A : Nat → Nat × Nat × Nat} (hp : p ≤ 15) (hS : Sys t p m A) {k : Nat} (hk : k < m) : mk A k < 32768 ∧ b3 (A k).1 (A k).2.1 (A k).2.2 = (mk A k : Int) := by
  have h := hS.2.1 k hk
  have hb := msk_b3 ⟨(A k).1, by omega⟩ ⟨(A k).2.1, by omega⟩ ⟨(A k).2.2, by omega⟩ h.1 h.2.1
  have := hb.2.2
  unfold b3 at this ⊢
  dsimp only at this
  unfold mk
  exact ⟨by omega, rfl⟩
theorem mk_bit {t : Nat → Nat → Int} {p : Int} {m : Nat} {A : Nat → Nat × Nat × Nat} (hp : p ≤ 15) (hS : Sys t p m A) {k u : Nat} (hk : k < m) : (mk A k).testBit u = true ↔ (u = (A k).1 ∨ u = (A k).2.1 ∨ u = (A k).2.2) := by
  have h := hS.2.1 k hk
  by_cases hu : u < 15
  · have hb := b3_bit ⟨(A k).1, by omega⟩ ⟨(A k).2.1, by omega⟩ ⟨(A k).2.2, by omega⟩ ⟨u, hu⟩ h.1 h.2.1
    dsimp only at hb
    unfold mk
    rw [hb]
    simp only [Bool.or_eq_true, beq_iff_eq, Fin.mk.injEq]
    omega
  · have hl := (mk_lt hp hS hk).1
    have p2 : 2 ^ 15 ≤ 2 ^ u := Nat.pow_le_pow_right (by decide) (by omega)
    rw [Nat.testBit_lt_two_pow (by omega)]
    constructor
    · intro z; cases z
    · intro z; omega
def ix (i j k l t : Nat) : Nat := if t = 0 then i else if t = 1 then j else if t = 2 then k else l
theorem bo4 : ∀ b0 b1 b2 b3 : Bool, ((b0 ^^ b1) ^^ b2) = b3 → ∀ t : Fin 4, (if t = 0 then b0 else if t = 1 then b1 else if t = 2 then b2 else b3) = true → ∃ s : Fin 4, ¬ s = t ∧ (if s = 0 then b0 else if s = 1 then b1 else if s = 2 then b2 else b3) = true ∧ ∀ w : Fin 4, ¬ w = t → ¬ w = s → (if w = 0 then b0 else if w = 1 then b1 else if w = 2 then b2 else b3) = true → ∀ x : Fin 4, (if x = 0 then b0 else if x = 1 then b1 else if x = 2 then b2 else b3) = true := by decide
section QD
variable {t : Nat → Nat → Int} {p : Int} {m : Nat} {A : Nat → Nat × Nat × Nat} {i j k l : Nat}
theorem qd_of (hp : p ≤ 15) (hS : Sys t p m A) (hij : i < j) (hjk : j < k) (hkl : k < l) (hl : l < m) (hxor : mk A i ^^^ mk A j ^^^ mk A k = mk A l) : Qd (fun x => A (ix i j k l x)) := by
  have ixm : ∀ x, x < 4 → ix i j k l x < m := fun x hx => by unfold ix; split <;> (try split) <;> (try split) <;> omega
  have ixi : ∀ x y, x < 4 → y < 4 → ix i j k l x = ix i j k l y → x = y := fun x y hx hy e => by
    unfold ix at e
    split at e <;> (try split at e) <;> (try split at e) <;> (try split at e) <;> (try split at e) <;> (try split at e) <;> omega
  refine ⟨fun x hx => ?_, fun x y u v hx hy huv g1 g2 g3 g4 => ?_, fun x u hx hu => ?_⟩
  · have := hS.2.1 _ (ixm x hx)
    dsimp only
    omega
  · exact ixi x y hx hy (hS.2.2.2.1 _ _ u v (ixm x hx) (ixm y hy) ⟨huv, g1, g2⟩ ⟨huv, g3, g4⟩)
  · have bit : ∀ y, y < 4 → (me (fun x => A (ix i j k l x)) y u ↔ (if y = 0 then (mk A i).testBit u else if y = 1 then (mk A j).testBit u else if y = 2 then (mk A k).testBit u else (mk A l).testBit u) = true) := by
      intro y hy
      have e : (if y = 0 then (mk A i).testBit u else if y = 1 then (mk A j).testBit u else if y = 2 then (mk A k).testBit u else (mk A l).testBit u) = (mk A (ix i j k l y)).testBit u := by
        unfold ix
        split
        · rfl
        · split
          · rfl
          · split <;> rfl
      rw [e]
      exact (mk_bit hp hS (ixm y hy)).symm
    have hb := bo4 ((mk A i).testBit u) ((mk A j).testBit u) ((mk A k).testBit u) ((mk A l).testBit u) (by rw [← hxor, Nat.testBit_xor, Nat.testBit_xor]) ⟨x, hx⟩
    have conv : ∀ (y : Nat) (hy : y < 4), ((if (⟨y, hy⟩ : Fin 4) = 0 then (mk A i).testBit u else if (⟨y, hy⟩ : Fin 4) = 1 then (mk A j).testBit u else if (⟨y, hy⟩ : Fin 4) = 2 then (mk A k).testBit u else (mk A l).testBit u) = true) ↔ me (fun x => A (ix i j k l x)) y u := by
      intro y hy
      rw [bit y hy]
      have : y = 0 ∨ y = 1 ∨ y = 2 ∨ y = 3 := by omega
      rcases this with rfl | rfl | rfl | rfl <;> exact Iff.rfl
    rw [conv] at hb
    obtain ⟨⟨s, hs⟩, h1, h2, h3⟩ := hb hu
    rw [conv] at h2
    refine ⟨s, hs, fun z => h1 (Fin.ext z), h2, fun w hw g1 g2 g3 y hy => ?_⟩
    have := h3 ⟨w, hw⟩ (fun z => g1 (Fin.mk.inj z)) (fun z => g2 (Fin.mk.inj z)) ((conv w hw).mpr g3) ⟨y, hy⟩
    exact (conv y hy).mp this
theorem ix_lt (hij : i < j) (hjk : j < k) (hkl : k < l) (hl : l < m) {x : Nat} (hx : x < 4) : ix i j k l x < m := by
  unfold ix
  split <;> (try split) <;> (try split) <;> omega
theorem ix_inj (hij : i < j) (hjk : j < k) (hkl : k < l) {x y : Nat} (hx : x < 4) (hy : y < 4) (e : ix i j k l x = ix i j k l y) : x = y := by
  unfold ix at e
  split at e <;> (try split at e) <;> (try split at e) <;> (try split at e) <;> (try split at e) <;> (try split at e) <;> omega
theorem qd_Trs (hS : Sys t p m A) (hij : i < j) (hjk : j < k) (hkl : k < l) (hl : l < m) : Trs t p 4 (fun x => A (ix i j k l x)) := by
  refine ⟨fun x hx => ?_, fun x u v hx h => hS.2.2.1 _ u v (ix_lt hij hjk hkl hl hx) h, fun x y u v hx hy h1 h2 => ix_inj hij hjk hkl hx hy (hS.2.2.2.1 _ _ u v (ix_lt hij hjk hkl hl hx) (ix_lt hij hjk hkl hl hy) h1 h2)⟩
  have := hS.2.1 _ (ix_lt hij hjk hkl hl hx)
  dsimp only
  omega
noncomputable def oppT (P : Fin 6 → Nat) (B : Nat → Nat × Nat × Nat) (x : Nat) : Nat × Nat × Nat := (opp P (B x).1, opp P (B x).2.1, opp P (B x).2.2)
theorem qd_Sws {B : Nat → Nat × Nat × Nat} {P : Fin 6 → Nat} (hT : Trs t p 4 B) (hP : SixP B P) : Sws p 4 B (oppT P B) := by
  have rng : ∀ x u, x < 4 → me B x u → (opp P u : Int) < p := by
    intro x u hx hu
    obtain ⟨s, hs, hm⟩ := opp_in hP hx hu
    have := hT.1 s hs
    rcases hm with e | e | e <;> rw [e] <;> omega
  have m1 : ∀ x, me B x (B x).1 := fun x => Or.inl rfl
  have m2 : ∀ x, me B x (B x).2.1 := fun x => Or.inr (Or.inl rfl)
  have m3 : ∀ x, me B x (B x).2.2 := fun x => Or.inr (Or.inr rfl)
  have src : ∀ x u v, prA (oppT P B) x u v → ∃ u1 v1, me B x u1 ∧ me B x v1 ∧ u = opp P u1 ∧ v = opp P v1 ∧ ¬ u1 = v1 := by
    intro x u v ⟨h1, h2, h3⟩
    have g : ∀ w, (w = (oppT P B x).1 ∨ w = (oppT P B x).2.1 ∨ w = (oppT P B x).2.2) → ∃ w1, me B x w1 ∧ w = opp P w1 := by
      intro w hw
      rcases hw with e | e | e
      · exact ⟨_, m1 x, e⟩
      · exact ⟨_, m2 x, e⟩
      · exact ⟨_, m3 x, e⟩
    obtain ⟨u1, a1, a2⟩ := g u h2
    obtain ⟨v1, b1, b2⟩ := g v h3
    exact ⟨u1, v1, a1, b1, a2, b2, fun z => h1 (by rw [a2, b2, z])⟩
  refine ⟨fun x hx => ?_, fun x u v hx h => ?_, fun x y u v hx hy h1 h2 => ?_⟩
  · have d := hT.1 x hx
    refine ⟨fun z => d.1 (opp_inj hP hx hx (m1 x) (m2 x) z), fun z => d.2.1 (opp_inj hP hx hx (m2 x) (m3 x) z), fun z => d.2.2.1 (opp_inj hP hx hx (m1 x) (m3 x) z), rng x _ hx (m1 x), rng x _ hx (m2 x), rng x _ hx (m3 x)⟩
  · obtain ⟨u1, v1, a1, b1, e1, e2, hne⟩ := src x u v h
    obtain ⟨s, s1, s2, s3⟩ := opp_pr hP hx hne a1 b1
    exact ⟨s, s1, h.1, by rw [e1]; exact s2, by rw [e2]; exact s3⟩
  · obtain ⟨u1, v1, a1, b1, e1, e2, hne⟩ := src x u v h1
    obtain ⟨u2, v2, c1, d1, f1, f2, -⟩ := src y u v h2
    have q1 := opp_inj hP hx hy a1 c1 (e1.symm.trans f1)
    have q2 := opp_inj hP hx hy b1 d1 (e2.symm.trans f2)
    exact hT.2.2 x y u1 v1 hx hy ⟨hne, a1, b1⟩ ⟨hne, by rw [q1]; exact c1, by rw [q2]; exact d1⟩
end QD
