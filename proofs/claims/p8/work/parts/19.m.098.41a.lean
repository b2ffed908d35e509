/-! ===== the beginning on both sides ===== -/
theorem trL_E : ∀ n, trL sE n = []
  | 0 => rfl
  | n + 1 => by
    have h : ¬ trB sE n = true := fun z => by
      have z := of_decide_eq_true z
      have z := z.2
      unfold sE at z
      omega
    show (if trB sE n = true then trL sE n ++ [n] else trL sE n) = []
    rw [if_neg h]
    exact trL_E n
theorem qdB_E (n : Nat) : ¬ qdB sE n = true := fun z => by
  have z := of_decide_eq_true z
  have z := z.2.2.1
  rw [trL_E] at z
  exact absurd z (Nat.not_lt_zero _)
theorem fL_E : ∀ n, fL (qdB sE) n = []
  | 0 => rfl
  | n + 1 => by rw [fL_skip (qdB_E n)]; exact fL_E n
/-- the class at the beginning -/
theorem beg_cl {hp : amH} {h : Nat → sR} (b0 : rN hp 3 0 = 3) (b1 : rN hp 3 1 = 0) (bt : ∀ j, j < 225 → rN hp 4 j = -1) (bo : ∀ p, p < 15 → rN hp 6 p = ((opN 3 sE p : Nat) : Int)) (ty : ∀ i, i < 3 → rN hp 13 i = 0) (q0 : rN hp 49 0 = 0) (h0 : rN hp 14 0 = 0) (h3 : rN hp 14 3 = 0) (hs : ∀ s, sn s → snF hp s) (ha : ∃ f, hyA hp f) : clS hp (3, sE, fun _ => 0) 0 h none := by
  refine ⟨⟨b0, sOk_E (by omega) (by omega), fun u v hu hv => bt _ (by omega), fun _ _ _ => rfl, bo⟩, ⟨?_, fun t ht => ?_, fun t u v ht => ?_⟩, ⟨?_, fun q hq => ?_⟩, ty, h0, by omega, hs, ?_, h3⟩
  · show rN hp 3 1 = (((trL sE 225).length : Nat) : Int)
    rw [trL_E]; exact b1
  · have ht : t < (trL sE 225).length := ht
    rw [trL_E] at ht
    exact absurd ht (Nat.not_lt_zero t)
  · have ht : t < (trL sE 225).length := ht
    rw [trL_E] at ht
    exact absurd ht (Nat.not_lt_zero t)
  · show rN hp 49 0 = (((fL (qdB sE) 42875).length : Nat) : Int)
    rw [fL_E]; exact q0
  · have hq : q < (fL (qdB sE) 42875).length := hq
    rw [fL_E] at hq
    exact absurd hq (Nat.not_lt_zero q)
  · obtain ⟨f, hf⟩ := ha
    exact ⟨f, hf, fun k hk => absurd hk (Nat.not_lt_zero k)⟩
/-- the reference at the beginning -/
theorem beg_rf {hp : amH} {h : Nat → sR} (b0 : rN hp 67 0 = 3) (bt : ∀ j, j < 225 → rN hp 67 (4 + j) = -1) (ty : ∀ i, i < 3 → rN hp 67 (i + 1) = 0) (h5 : rN hp 66 5 = 0) (h6 : rN hp 66 6 = 0) : rfS hp (3, sE, fun _ => 0) 0 h none := by
  refine ⟨⟨b0, sOk_E (by omega) (by omega), fun u v hu hv => ?_, fun _ _ _ => rfl, ty⟩, h5, by omega, fun k hk => absurd hk (Nat.not_lt_zero k), h6⟩
  rw [show 4 + 15 * u + v = 4 + (15 * u + v) by omega]
  exact bt _ (by omega)
theorem opN_E : ∀ p : Fin 15, opN 3 sE p.1 = (if p.1 = 0 then 6 else if p.1 = 1 then 5 else if p.1 = 2 then 3 else 0) := by decide +kernel
/-- a reference in the cells -/
def hRf (h : aH) (c i r : Nat) : Bool := match cGet h.2 c with
  | some d => (match cGet d.2.2 i with
    | some (.inl (.ref k)) => Nat.beq k r
    | _ => false)
  | none => false
theorem hRf_s {h : aH} {hp : amH} {c i r : Nat} (hr : aRh h hp) (hc : c < h.1) (e : hRf h c i r = true) : bFld hp c i = some (.ref r) := by
  unfold hRf at e
  split at e
  · next d ed =>
    split at e
    · next k ep =>
      have e := Nat.eq_of_beq_eq_true e
      obtain ⟨c9, d9, g1, g2, g3⟩ := hr.2 c (by rw [← hr.1]; exact hc)
      rw [g1] at ed
      cases ed
      obtain ⟨w, w1, w2⟩ := aRc_get g3 ep
      have w2 : w = .ref k := by first | exact w2 | exact w2.symm
      unfold bFld
      rw [g2]
      dsimp only
      rw [w1, w2, e]
    · cases e
  · cases e
