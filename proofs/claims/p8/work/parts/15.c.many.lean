/-! ===== at most 35 triples ===== -/
theorem nd_len : ∀ (L M : List Nat), L.Nodup → (∀ s ∈ L, s ∈ M) → L.length ≤ M.length
  | [], M, _, _ => Nat.zero_le _
  | x :: L, M, h1, h2 => by
    obtain ⟨g1, g2⟩ := List.nodup_cons.mp h1
    have hx : x ∈ M := h2 x List.mem_cons_self
    have := nd_len L (M.erase x) g2 (fun s hs => (List.mem_erase_of_ne (fun z => g1 (by rw [← z]; exact hs))).mpr (h2 s (List.mem_cons_of_mem _ hs)))
    rw [List.length_erase_of_mem hx] at this
    have hp := List.length_pos_of_mem hx
    rw [List.length_cons]
    omega
/-- pairs of triples that were found before the pair N = 15 a + b -/
def gL (r : Nat → Int) (N : Nat) (L : List Nat) : Prop := L.Nodup ∧ ∀ s ∈ L, ∃ x y z : Nat, s = 15 * x + y ∧ x < y ∧ y < 15 ∧ r (4 + 15 * x + y) = (z : Int) ∧ (y < z → s < N) ∧ (x < z → z < y → 15 * x + z < N) ∧ (z < x → 15 * z + x < N)
theorem gL_nil (r : Nat → Int) (N : Nat) : gL r N [] := ⟨List.nodup_nil, fun s h => by cases h⟩
theorem gL_mono {r : Nat → Int} {N N1 : Nat} {L : List Nat} (h : gL r N L) (hN : N ≤ N1) : gL r N1 L :=
  ⟨h.1, fun s hs => by
    obtain ⟨x, y, z, h1, h2, h3, h4, h5, h6, h7⟩ := h.2 s hs
    exact ⟨x, y, z, h1, h2, h3, h4, fun u => Nat.lt_of_lt_of_le (h5 u) hN, fun u v => Nat.lt_of_lt_of_le (h6 u v) hN, fun u => Nat.lt_of_lt_of_le (h7 u) hN⟩⟩
theorem gL_len {r : Nat → Int} {N : Nat} {L : List Nat} (h : gL r N L) : L.length ≤ 105 := by
  have := nd_len L ((List.range 225).filter (fun s => decide (s / 15 < s % 15))) h.1 (fun s hs => by
    obtain ⟨x, y, z, h1, h2, h3, -⟩ := h.2 s hs
    refine List.mem_filter.mpr ⟨List.mem_range.mpr (by omega), decide_eq_true (by omega)⟩)
  have e : ((List.range 225).filter (fun s => decide (s / 15 < s % 15))).length = 105 := by decide +kernel
  omega
theorem Vf_at {r : Nat → Int} (h : Vf r) {a b c : Nat} (ha : a < 15) (hb : b < 15) (e : r (4 + 15 * a + b) = (c : Int)) : (a : Int) < r 0 ∧ (b : Int) < r 0 ∧ (c : Int) < r 0 ∧ a ≠ b ∧ a ≠ c ∧ b ≠ c ∧ r (4 + 15 * b + a) = (c : Int) ∧ r (4 + 15 * a + c) = (b : Int) ∧ r (4 + 15 * b + c) = (a : Int) := by
  have h2 := h.2.1
  rcases h.2.2 a b ha hb with g | ⟨c1, g1, g2, g3, g4, g5, g6, g7, g8, g9⟩
  · omega
  · have : c1 = c := by omega
    subst this
    rcases h.2.2 b a hb ha with k | ⟨c2, k1, k2, k3, k4, k5, k6, k7, k8, k9⟩
    · omega
    · have : c2 = c1 := by omega
      subst this
      exact ⟨g2, g3, g4, g5, g6, g7, g8, g9, k9⟩
theorem gL_add {r : Nat → Int} (hV : Vf r) {N : Nat} {L : List Nat} (h : gL r N L) {a b c : Nat} (hab : a < b) (hbc : b < c) (hc : c < 15) (e : r (4 + 15 * a + b) = (c : Int)) (hN : N ≤ 15 * a + b) : gL r (15 * a + b + 1) ((15 * a + b) :: (15 * a + c) :: (15 * b + c) :: L) := by
  obtain ⟨-, -, -, -, -, -, e1, e2, e3⟩ := Vf_at hV (by omega) (by omega) e
  have key : ∀ x y z : Nat, x < y → y < 15 → r (4 + 15 * x + y) = (z : Int) → 15 * x + y ∈ L → (y < z → 15 * x + y < N) ∧ (x < z → z < y → 15 * x + z < N) ∧ (z < x → 15 * z + x < N) := by
    intro x y z hxy hy ez hm
    obtain ⟨x1, y1, z1, h1, h2, h3, h4, h5, h6, h7⟩ := h.2 _ hm
    have : x1 = x := by omega
    subst this
    have : y1 = y := by omega
    subst this
    have : z1 = z := by omega
    subst this
    exact ⟨h5, h6, h7⟩
  have n1 : ¬ 15 * a + b ∈ L := fun hm => by have := (key a b c hab (by omega) e hm).1 hbc; omega
  have n2 : ¬ 15 * a + c ∈ L := fun hm => by have := (key a c b (by omega) hc e2 hm).2.1 hab hbc; omega
  have n3 : ¬ 15 * b + c ∈ L := fun hm => by have := (key b c a hbc hc e3 hm).2.2 hab; omega
  refine ⟨List.nodup_cons.mpr ⟨fun hm => ?_, List.nodup_cons.mpr ⟨fun hm => ?_, List.nodup_cons.mpr ⟨n3, h.1⟩⟩⟩, fun s hs => ?_⟩
  · rcases List.mem_cons.mp hm with z | hm
    · omega
    · rcases List.mem_cons.mp hm with z | hm
      · omega
      · exact n1 hm
  · rcases List.mem_cons.mp hm with z | hm
    · omega
    · exact n2 hm
  · rcases List.mem_cons.mp hs with rfl | hs
    · exact ⟨a, b, c, rfl, hab, by omega, e, fun _ => by omega, fun _ _ => by omega, fun _ => by omega⟩
    · rcases List.mem_cons.mp hs with rfl | hs
      · exact ⟨a, c, b, rfl, by omega, hc, e2, fun _ => by omega, fun _ _ => by omega, fun _ => by omega⟩
      · rcases List.mem_cons.mp hs with rfl | hs
        · exact ⟨b, c, a, rfl, hbc, hc, e3, fun _ => by omega, fun _ _ => by omega, fun _ => by omega⟩
        · exact (gL_mono h (Nat.le_succ_of_le hN)).2 s hs
