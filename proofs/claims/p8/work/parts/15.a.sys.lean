/-! ===== the reference: systems ===== -/
def rN (hp : amH) (c i : Nat) : Int := match bFld hp c i with
  | some (.int x) => x.toInt
  | _ => 0
/-- a row that is a system: how many points; third points -/
def Vf (r : Nat → Int) : Prop := 3 ≤ r 0 ∧ r 0 ≤ 15 ∧ ∀ a b : Nat, a < 15 → b < 15 → r (4 + 15 * a + b) = -1 ∨
  ∃ c : Nat, r (4 + 15 * a + b) = (c : Int) ∧ (a : Int) < r 0 ∧ (b : Int) < r 0 ∧ (c : Int) < r 0 ∧ a ≠ b ∧ a ≠ c ∧ b ≠ c ∧ r (4 + 15 * b + a) = (c : Int) ∧ r (4 + 15 * a + c) = (b : Int)
def P0 (hp : amH) : Prop := Vf (rN hp 67) ∧ (rN hp 66 6 = 1 → Vf (rN hp 70)) ∧ (∀ k : Nat, (k : Int) < rN hp 66 5 → k < 10 → Vf (fun i => rN hp 71 (229 * k + i))) ∧ (3 ≤ rN hp 69 0 → Vf (rN hp 69))
theorem Vf_eq {r s : Nat → Int} (h : ∀ i, i < 229 → s i = r i) (hr : Vf r) : Vf s := by
  obtain ⟨h1, h2, h3⟩ := hr
  have h0 := h 0 (by omega)
  refine ⟨by omega, by omega, fun a b ha hb => ?_⟩
  rcases h3 a b ha hb with g | ⟨c, g1, g2, g3, g4, g5, g6, g7, g8, g9⟩
  · exact Or.inl (by rw [h _ (by omega)]; exact g)
  · have hc : c < 15 := by omega
    exact Or.inr ⟨c, by rw [h _ (by omega)]; exact g1, by omega, by omega, by omega, g5, g6, g7, by rw [h _ (by omega)]; exact g8, by rw [h _ (by omega)]; exact g9⟩
theorem rN_eq {hp hp1 : amH} {c i : Nat} (h : bFld hp1 c i = bFld hp c i) : rN hp1 c i = rN hp c i := by unfold rN; rw [h]
theorem P0_fr : ∀ hp hp1 : amH, (∀ c k, bIn bPr c k = true → bFld hp1 c k = bFld hp c k) → P0 hp → P0 hp1 := by
  intro hp hp1 h ⟨h1, h2, h3, h4⟩
  have e67 : ∀ i, rN hp1 67 i = rN hp 67 i := fun i => rN_eq (h _ _ (bIn_all (by decide) i))
  have e70 : ∀ i, rN hp1 70 i = rN hp 70 i := fun i => rN_eq (h _ _ (bIn_all (by decide) i))
  have e69 : ∀ i, rN hp1 69 i = rN hp 69 i := fun i => rN_eq (h _ _ (bIn_all (by decide) i))
  have e71 : ∀ i, rN hp1 71 i = rN hp 71 i := fun i => rN_eq (h _ _ (bIn_all (by decide) i))
  have e5 : rN hp1 66 5 = rN hp 66 5 := rN_eq (h _ _ (by decide))
  have e6 : rN hp1 66 6 = rN hp 66 6 := rN_eq (h _ _ (by decide))
  refine ⟨Vf_eq (fun i _ => e67 i) h1, fun z => Vf_eq (fun i _ => e70 i) (h2 (by rw [← e6]; exact z)), fun k hk hk2 => Vf_eq (fun i _ => e71 _) (h3 k (by rw [← e5]; exact hk) hk2), fun z => Vf_eq (fun i _ => e69 i) (h4 (by rw [← e69]; exact z))⟩
/-- a row of ints -/
theorem r_ints {n : Nat} {c : amC} {k : Nat} {q : Nat × Nat} (h : bHc n (32, k, [.inl q]) c) : ∃ w : List Int32, c = (32, w.map Value.int) ∧ w.length = k := by
  obtain ⟨t, vs⟩ := c
  obtain ⟨h1, h2, h3⟩ := h
  dsimp only at h1 h2 h3
  subst h1
  have : ∀ l : List Value, (∀ v ∈ l, ∃ x, v = .int x) → ∃ w : List Int32, l = w.map Value.int := by
    intro l
    induction l with
    | nil => intro _; exact ⟨[], rfl⟩
    | cons v r ih =>
      intro hl
      obtain ⟨x, rfl⟩ := hl v List.mem_cons_self
      obtain ⟨w, rfl⟩ := ih (fun v hv => hl v (List.mem_cons_of_mem _ hv))
      exact ⟨x :: w, rfl⟩
  obtain ⟨w, rfl⟩ := this vs (fun v hv => by
    obtain ⟨i, hi, e⟩ := List.getElem_of_mem hv
    obtain ⟨y, g1, g2⟩ := h3 i v (by rw [List.getElem?_eq_getElem hi, e])
    cases g1
    obtain ⟨x, hx, -⟩ := g2
    exact ⟨x, hx⟩)
  exact ⟨w, rfl, by rw [List.length_map] at h2; exact h2⟩
/-- the reference's row of third points, in a heap of the types -/
theorem r_mW {hp : amH} (h : bHk 84 bTT hp) : ∃ w : List Int32, mW hp w ∧ ∀ i, i < 229 → rN hp 67 i = (w.getD i 0).toInt := by
  obtain ⟨c, h1, h2⟩ := bHk_at h (i := 67) (by decide) (D := (32, 229, [.inl (0, 4294967295)])) rfl
  obtain ⟨w, rfl, hw⟩ := r_ints h2
  obtain ⟨d, g1, g2, g3, g4⟩ := bHk_at h (i := 66) (by decide) rfl
  obtain ⟨t, vs⟩ := d
  have ht : t = 11 := g2
  subst ht
  have g3 : vs.length = 33 := g3
  have hlt : 0 < vs.length := by omega
  obtain ⟨y, k1, k2⟩ := g4 0 vs[0] (List.getElem?_eq_getElem hlt)
  cases k1
  obtain ⟨i, e1, -, e3⟩ := k2
  have hi : i = 67 := by simpa using e3
  subst hi
  refine ⟨w, ⟨⟨vs, g1, by rw [List.getElem?_eq_getElem hlt, e1]⟩, h1, hw⟩, fun i hi => ?_⟩
  unfold rN bFld
  rw [h1]
  dsimp only
  rw [List.getElem?_map, List.getElem?_eq_getElem (by omega), List.getD_eq_getElem?_getD, List.getElem?_eq_getElem (by omega)]
  rfl
def be_h203 : bEt := (203, ([.inr (.inr [66])], [], 0, [], [], [(some (.inl (2147483651, 2147483663)), [])]), [], 0, [])
def be_h204 : bEt := (204, ([.inr (.inr [66]), .inl (2147483648, 2147483662), .inl (2147483648, 2147483662)], [], 0, [], [], [(some (.inl (2147483647, 2147483662)), [])]), [], 0, [])
theorem h203_s : bSem amGG P0 84 bTT be_h203.1 be_h203.2.1 := by
  refine ⟨am_m203, rfl, fun av hp hH hP ha _ => ?_⟩
  match av, ha with
  | [v], ha =>
    obtain ⟨⟨i, e, -, hi⟩, -⟩ := ha
    subst e
    have hi : i = 66 := by simpa using hi
    subst hi
    obtain ⟨w, hw, hr⟩ := r_mW hH
    refine ⟨6, .inl (some (.int (w.getD 0 0))), hp, m_points hw 0 _ 0 0, hH, hP, bFr.refl _ _, _, List.mem_cons_self, ⟨_, rfl, ?_⟩, fun f hf => by cases hf⟩
    have h0 := hr 0 (by omega)
    have h1 := hP.1.1
    have h2 := hP.1.2.1
    rw [h0] at h1 h2
    have := aOff_eq (w.getD 0 0)
    dsimp only
    omega
theorem r_nat {x : Int32} (h1 : 2147483648 ≤ aOff x) (h2 : aOff x ≤ 2147483662) : ∃ n : Nat, x.toInt = (n : Int) ∧ n < 15 := by
  have := aOff_eq x
  exact ⟨aOff x - 2147483648, by omega, by omega⟩
theorem h204_s : bSem amGG P0 84 bTT be_h204.1 be_h204.2.1 := by
  refine ⟨am_m204, rfl, fun av hp hH hP ha _ => ?_⟩
  match av, ha with
  | [v, a, b], ha =>
    obtain ⟨⟨i, e, -, hi⟩, ⟨x, ea, x1, x2⟩, ⟨y, eb, y1, y2⟩, -⟩ := ha
    subst e
    subst ea
    subst eb
    have hi : i = 66 := by simpa using hi
    subst hi
    obtain ⟨w, hw, hr⟩ := r_mW hH
    obtain ⟨a, ha, ha2⟩ := r_nat x1 x2
    obtain ⟨b, hb, hb2⟩ := r_nat y1 y2
    refine ⟨12, .inl (some (.int (w.getD (4 + 15 * a + b) 0))), hp, m_thirdOf hw ha hb ha2 hb2 0 _ 0 0, hH, hP, bFr.refl _ _, _, List.mem_cons_self, ⟨_, rfl, ?_⟩, fun f hf => by cases hf⟩
    have h0 := hr (4 + 15 * a + b) (by omega)
    have h2 := hP.1.2.1
    have := aOff_eq (w.getD (4 + 15 * a + b) 0)
    rcases hP.1.2.2 a b ha2 hb2 with g | ⟨c, g1, -, -, g4, -⟩
    · dsimp only
      omega
    · dsimp only
      omega
