/-! ===== the runs cover all scripts ===== -/
def aInc (p q : Nat × Nat) : Bool := Nat.ble p.1 q.1 && Nat.ble q.2 p.2
def aHd (f : Nat × Nat → Bool) : List (Nat × Nat) → Bool
  | p :: _ => f p
  | [] => false
def aIsF (p : Nat × Nat) : Bool := Nat.beq p.1 0 && Nat.ble 4294967295 p.2
def aCov (Q : List (Nat × Nat)) : Nat → List (List (Nat × Nat)) → Bool
  | 0, bs => bs.any (fun b => b.isEmpty)
  | k + 1, bs => bif bs.all (aHd aIsF) then aCov Q k (bs.map List.tail) else Q.all (fun q => aCov Q k ((bs.filter (aHd (fun p => aInc p q))).map List.tail))
def aInB : List (Nat × Nat) → List Int32 → Prop
  | [], [] => True
  | q :: qs, x :: xs => aIn q.1 q.2 x ∧ aInB qs xs
  | _, _ => False
theorem aHd_s {f : Nat × Nat → Bool} {b : List (Nat × Nat)} (h : aHd f b = true) : ∃ p r, b = p :: r ∧ f p = true := by
  cases b with
  | nil => cases h
  | cons p r => exact ⟨p, r, rfl, h⟩
theorem aCov_s {Q : List (Nat × Nat)} (hQ : ∀ x : Int32, ∃ q ∈ Q, aIn q.1 q.2 x) : ∀ (k : Nat) (bs : List (List (Nat × Nat))), aCov Q k bs = true → ∀ xs : List Int32, xs.length = k → ∃ b ∈ bs, aInB b xs
  | 0, bs, h, xs, hx => by
    cases List.length_eq_zero_iff.mp hx
    unfold aCov at h
    obtain ⟨b, h1, h2⟩ := List.any_eq_true.mp h
    cases List.isEmpty_iff.mp h2
    exact ⟨_, h1, trivial⟩
  | k + 1, bs, h, xs, hx => by
    cases xs with
    | nil => cases hx
    | cons x xs =>
      unfold aCov at h
      cases hc : bs.all (aHd aIsF) with
      | true =>
        rw [hc, cond_true] at h
        obtain ⟨b, h1, h2⟩ := aCov_s hQ k _ h xs (Nat.succ.inj hx)
        obtain ⟨b', h3, rfl⟩ := List.mem_map.mp h1
        obtain ⟨p, r, rfl, hp⟩ := aHd_s (List.all_eq_true.mp hc b' h3)
        simp only [aIsF, Bool.and_eq_true] at hp
        have p1 := Nat.eq_of_beq_eq_true hp.1
        have p2 := a_le hp.2
        refine ⟨_, h3, ⟨?_, ?_⟩, h2⟩
        · have := aMin x
          omega
        · have := aMax x
          omega
      | false =>
        rw [hc, cond_false] at h
        obtain ⟨q, hq, hx1⟩ := hQ x
        obtain ⟨b, h1, h2⟩ := aCov_s hQ k _ (List.all_eq_true.mp h q hq) xs (Nat.succ.inj hx)
        obtain ⟨b', h3, rfl⟩ := List.mem_map.mp h1
        obtain ⟨h3, h4⟩ := List.mem_filter.mp h3
        obtain ⟨p, r, rfl, hp⟩ := aHd_s h4
        simp only [aInc, Bool.and_eq_true] at hp
        have p1 := a_le hp.1
        have p2 := a_le hp.2
        obtain ⟨x1, x2⟩ := hx1
        exact ⟨_, h3, ⟨by omega, by omega⟩, h2⟩
def aQok : Nat → List (Nat × Nat) → Bool
  | s, [] => Nat.beq s 4294967296
  | s, q :: r => Nat.beq q.1 s && aQok (q.2 + 1) r
theorem aQok_s : ∀ {s : Nat} {Q : List (Nat × Nat)}, aQok s Q = true → ∀ x : Int32, s ≤ aOff x → ∃ q ∈ Q, aIn q.1 q.2 x
  | s, [], h, x, hs => by
    have e := Nat.eq_of_beq_eq_true h
    have := aOff_eq x
    have := aMax x
    omega
  | s, q :: r, h, x, hs => by
    simp only [aQok, Bool.and_eq_true] at h
    have e := Nat.eq_of_beq_eq_true h.1
    have ex := aOff_eq x
    by_cases z : aOff x ≤ q.2
    · exact ⟨q, List.mem_cons_self, by omega, by omega⟩
    · obtain ⟨q', h1, h2⟩ := aQok_s h.2 x (by omega)
      exact ⟨q', List.mem_cons_of_mem _ h1, h2⟩
def aAll (j : Nat) (bs : List (List (Nat × Nat))) : Prop := ∀ xs : List Int32, xs.length = 5 → ∃ b ∈ bs, aInB b xs ∧ a_run j b = true
theorem aAll_s {j : Nat} {bs : List (List (Nat × Nat))} {Q : List (Nat × Nat)} (h1 : bs.all (a_run j) = true) (h2 : (aQok 0 Q && aCov Q 5 bs) = true) : aAll j bs := by
  rw [Bool.and_eq_true] at h2
  intro xs hx
  obtain ⟨b, b1, b2⟩ := aCov_s (fun x => aQok_s h2.1 x (Nat.zero_le _)) 5 bs h2.2 xs hx
  exact ⟨b, b1, b2, List.all_eq_true.mp h1 b b1⟩
theorem a_and {α : Type} {p : α → Bool} {a b : List α} (h1 : a.all p = true) (h2 : b.all p = true) : (a ++ b).all p = true := by rw [List.all_append, h1, h2]; rfl
theorem a_a0 : aAll 0 (a_b0_0) := aAll_s (Q := [(0, 4294967295)]) (a_o0_0) (by decide +kernel)
theorem a_a1 : aAll 1 (a_b1_0) := aAll_s (Q := [(0, 2147483647), (2147483648, 2147483648), (2147483649, 4294967295)]) (a_o1_0) (by decide +kernel)
theorem a_a2 : aAll 2 (a_b2_0) := aAll_s (Q := [(0, 4294967295)]) (a_o2_0) (by decide +kernel)
theorem a_a3 : aAll 3 (a_b3_0) := aAll_s (Q := [(0, 4294967295)]) (a_o3_0) (by decide +kernel)
theorem a_a4 : aAll 4 (a_b4_0) := aAll_s (Q := [(0, 4294967295)]) (a_o4_0) (by decide +kernel)
theorem a_a5 : aAll 5 (a_b5_0) := aAll_s (Q := [(0, 2147483647), (2147483648, 2147483648), (2147483649, 2147483649), (2147483650, 2147483650), (2147483651, 2147483651), (2147483652, 2147483652), (2147483653, 2147483653), (2147483654, 2147483654), (2147483655, 2147483655), (2147483656, 4294967295)]) (a_o5_0) (by decide +kernel)
theorem a_a6 : aAll 6 (a_b6_0) := aAll_s (Q := [(0, 4294967295)]) (a_o6_0) (by decide +kernel)
theorem a_a7 : aAll 7 (a_b7_0) := aAll_s (Q := [(0, 2147483647), (2147483648, 4294967295)]) (a_o7_0) (by decide +kernel)
theorem a_a8 : aAll 8 (a_b8_0) := aAll_s (Q := [(0, 2147483647), (2147483648, 2147483648), (2147483649, 2147483649), (2147483650, 2147483650), (2147483651, 4294967295)]) (a_o8_0) (by decide +kernel)
theorem a_a9 : aAll 9 (a_b9_0) := aAll_s (Q := [(0, 2147483647), (2147483648, 2147483648), (2147483649, 2147483649), (2147483650, 2147483650), (2147483651, 4294967295)]) (a_o9_0) (by decide +kernel)
theorem a_a10 : aAll 10 (a_b10_0) := aAll_s (Q := [(0, 2147483647), (2147483648, 2147483648), (2147483649, 2147483649), (2147483650, 2147483650), (2147483651, 4294967295)]) (a_o10_0) (by decide +kernel)
theorem a_a11 : aAll 11 (a_b11_0) := aAll_s (Q := [(0, 2147483647), (2147483648, 2147483648), (2147483649, 2147483649), (2147483650, 2147483650), (2147483651, 4294967295)]) (a_o11_0) (by decide +kernel)
theorem a_a12 : aAll 12 (a_b12_0) := aAll_s (Q := [(0, 2147483647), (2147483648, 2147483648), (2147483649, 2147483649), (2147483650, 2147483650), (2147483651, 4294967295)]) (a_o12_0) (by decide +kernel)
theorem a_a13 : aAll 13 (a_b13_0 ++ (a_b13_1)) := aAll_s (Q := [(0, 2147483647), (2147483648, 2147483648), (2147483649, 2147483649), (2147483650, 2147483650), (2147483651, 4294967295)]) (a_and a_o13_0 (a_o13_1)) (by decide +kernel)
theorem a_a14 : aAll 14 (a_b14_0) := aAll_s (Q := [(0, 2147483647), (2147483648, 4294967295)]) (a_o14_0) (by decide +kernel)
theorem a_a15 : aAll 15 (a_b15_0 ++ (a_b15_1 ++ (a_b15_2 ++ (a_b15_3)))) := aAll_s (Q := [(0, 2147483647), (2147483648, 2147483648), (2147483649, 2147483649), (2147483650, 2147483650), (2147483651, 4294967295)]) (a_and a_o15_0 (a_and a_o15_1 (a_and a_o15_2 (a_o15_3)))) (by decide +kernel)
theorem a_a16 : aAll 16 (a_b16_0) := aAll_s (Q := [(0, 4294967295)]) (a_o16_0) (by decide +kernel)
theorem a_a17 : aAll 17 (a_b17_0) := aAll_s (Q := [(0, 4294967295)]) (a_o17_0) (by decide +kernel)
theorem a_a18 : aAll 18 (a_b18_0) := aAll_s (Q := [(0, 4294967295)]) (a_o18_0) (by decide +kernel)
theorem a_a19 : aAll 19 (a_b19_0) := aAll_s (Q := [(0, 2147483647), (2147483648, 4294967295)]) (a_o19_0) (by decide +kernel)
theorem a_a20 : aAll 20 (a_b20_0) := aAll_s (Q := [(0, 2147483647), (2147483648, 4294967295)]) (a_o20_0) (by decide +kernel)
theorem a_a21 : aAll 21 (a_b21_0) := aAll_s (Q := [(0, 2147483647), (2147483648, 2147483648), (2147483649, 2147483649), (2147483650, 2147483650), (2147483651, 4294967295)]) (a_o21_0) (by decide +kernel)
theorem a_a22 : aAll 22 (a_b22_0) := aAll_s (Q := [(0, 2147483647), (2147483648, 4294967295)]) (a_o22_0) (by decide +kernel)
theorem a_a23 : aAll 23 (a_b23_0) := aAll_s (Q := [(0, 2147483647), (2147483648, 4294967295)]) (a_o23_0) (by decide +kernel)
theorem a_a24 : aAll 24 (a_b24_0) := aAll_s (Q := [(0, 2147483647), (2147483648, 4294967295)]) (a_o24_0) (by decide +kernel)
theorem a_a25 : aAll 25 (a_b25_0) := aAll_s (Q := [(0, 2147483647), (2147483648, 2147483648), (2147483649, 4294967295)]) (a_o25_0) (by decide +kernel)
theorem a_a26 : aAll 26 (a_b26_0) := aAll_s (Q := [(0, 2147483648), (2147483649, 2147483668), (2147483669, 4294967295)]) (a_o26_0) (by decide +kernel)
theorem a_a27 : aAll 27 (a_b27_0) := aAll_s (Q := [(0, 2147483647), (2147483648, 2147483648), (2147483649, 2147483649), (2147483650, 2147483650), (2147483651, 4294967295)]) (a_o27_0) (by decide +kernel)
theorem a_a28 : aAll 28 (a_b28_0) := aAll_s (Q := [(0, 2147483647), (2147483648, 2147483648), (2147483649, 2147483649), (2147483650, 2147483650), (2147483651, 4294967295)]) (a_o28_0) (by decide +kernel)
theorem a_a29 : aAll 29 (a_b29_0) := aAll_s (Q := [(0, 2147483647), (2147483648, 2147483648), (2147483649, 2147483649), (2147483650, 2147483650), (2147483651, 4294967295)]) (a_o29_0) (by decide +kernel)
theorem a_a30 : aAll 30 (a_b30_0) := aAll_s (Q := [(0, 2147483647), (2147483648, 2147483648), (2147483649, 2147483649), (2147483650, 2147483650), (2147483651, 4294967295)]) (a_o30_0) (by decide +kernel)
theorem a_a31 : aAll 31 (a_b31_0) := aAll_s (Q := [(0, 2147483647), (2147483648, 2147483648), (2147483649, 2147483649), (2147483650, 2147483650), (2147483651, 4294967295)]) (a_o31_0) (by decide +kernel)
theorem a_a32 : aAll 32 (a_b32_0) := aAll_s (Q := [(0, 4294967295)]) (a_o32_0) (by decide +kernel)
theorem a_a33 : aAll 33 (a_b33_0) := aAll_s (Q := [(0, 4294967295)]) (a_o33_0) (by decide +kernel)
theorem a_a34 : aAll 34 (a_b34_0) := aAll_s (Q := [(0, 2147483647), (2147483648, 4294967295)]) (a_o34_0) (by decide +kernel)
theorem a_a35 : aAll 35 (a_b35_0) := aAll_s (Q := [(0, 4294967295)]) (a_o35_0) (by decide +kernel)
theorem a_a36 : aAll 36 (a_b36_0) := aAll_s (Q := [(0, 4294967295)]) (a_o36_0) (by decide +kernel)
theorem a_a37 : aAll 37 (a_b37_0) := aAll_s (Q := [(0, 2147483647), (2147483648, 2147483648), (2147483649, 2147483649), (2147483650, 2147483650), (2147483651, 4294967295)]) (a_o37_0) (by decide +kernel)
theorem a_a38 : aAll 38 (a_b38_0) := aAll_s (Q := [(0, 2147483647), (2147483648, 2147483648), (2147483649, 2147483649), (2147483650, 2147483650), (2147483651, 4294967295)]) (a_o38_0) (by decide +kernel)
theorem a_a39 : aAll 39 (a_b39_0) := aAll_s (Q := [(0, 2147483647), (2147483648, 2147483648), (2147483649, 2147483649), (2147483650, 2147483650), (2147483651, 4294967295)]) (a_o39_0) (by decide +kernel)
theorem a_a40 : aAll 40 (a_b40_0) := aAll_s (Q := [(0, 2147483647), (2147483648, 2147483648), (2147483649, 2147483649), (2147483650, 2147483650), (2147483651, 4294967295)]) (a_o40_0) (by decide +kernel)
theorem a_a41 : aAll 41 (a_b41_0) := aAll_s (Q := [(0, 4294967295)]) (a_o41_0) (by decide +kernel)
theorem a_a42 : aAll 42 (a_b42_0) := aAll_s (Q := [(0, 4294967295)]) (a_o42_0) (by decide +kernel)
theorem a_a43 : aAll 43 (a_b43_0) := aAll_s (Q := [(0, 2147483647), (2147483648, 4294967295)]) (a_o43_0) (by decide +kernel)
theorem a_a44 : aAll 44 (a_b44_0) := aAll_s (Q := [(0, 4294967295)]) (a_o44_0) (by decide +kernel)
theorem a_a45 : aAll 45 (a_b45_0) := aAll_s (Q := [(0, 4294967295)]) (a_o45_0) (by decide +kernel)
theorem a_a46 : aAll 46 (a_b46_0 ++ (a_b46_1)) := aAll_s (Q := [(0, 2147483647), (2147483648, 4294967295)]) (a_and a_o46_0 (a_o46_1)) (by decide +kernel)
theorem a_a47 : aAll 47 (a_b47_0) := aAll_s (Q := [(0, 4294967295)]) (a_o47_0) (by decide +kernel)
theorem a_a48 : aAll 48 (a_b48_0) := aAll_s (Q := [(0, 4294967295)]) (a_o48_0) (by decide +kernel)
theorem a_a49 : aAll 49 (a_b49_0) := aAll_s (Q := [(0, 2147483647), (2147483648, 2147483648), (2147483649, 2147483649), (2147483650, 2147483650), (2147483651, 2147483651), (2147483652, 2147483652), (2147483653, 2147483653), (2147483654, 2147483654), (2147483655, 2147483655), (2147483656, 4294967295)]) (a_o49_0) (by decide +kernel)
theorem a_a50 : aAll 50 (a_b50_0) := aAll_s (Q := [(0, 4294967295)]) (a_o50_0) (by decide +kernel)
theorem a_a51 : aAll 51 (a_b51_0) := aAll_s (Q := [(0, 4294967295)]) (a_o51_0) (by decide +kernel)
theorem a_a52 : aAll 52 (a_b52_0) := aAll_s (Q := [(0, 2147483647), (2147483648, 4294967295)]) (a_o52_0) (by decide +kernel)
theorem a_a53 : aAll 53 (a_b53_0) := aAll_s (Q := [(0, 4294967295)]) (a_o53_0) (by decide +kernel)
theorem a_a54 : aAll 54 (a_b54_0 ++ (a_b54_1 ++ (a_b54_2))) := aAll_s (Q := [(0, 2147483647), (2147483648, 2147483648), (2147483649, 2147483649), (2147483650, 2147483650), (2147483651, 4294967295)]) (a_and a_o54_0 (a_and a_o54_1 (a_o54_2))) (by decide +kernel)
theorem a_a55 : aAll 55 (a_b55_0) := aAll_s (Q := [(0, 2147483647), (2147483648, 2147483648), (2147483649, 2147483649), (2147483650, 2147483650), (2147483651, 4294967295)]) (a_o55_0) (by decide +kernel)
theorem a_a56 : aAll 56 (a_b56_0) := aAll_s (Q := [(0, 2147483647), (2147483648, 2147483648), (2147483649, 2147483649), (2147483650, 2147483650), (2147483651, 4294967295)]) (a_o56_0) (by decide +kernel)
theorem a_a57 : aAll 57 (a_b57_0 ++ (a_b57_1)) := aAll_s (Q := [(0, 2147483647), (2147483648, 2147483648), (2147483649, 2147483649), (2147483650, 2147483650), (2147483651, 4294967295)]) (a_and a_o57_0 (a_o57_1)) (by decide +kernel)
theorem a_a58 : aAll 58 (a_b58_0) := aAll_s (Q := [(0, 2147483647), (2147483648, 2147483648), (2147483649, 2147483649), (2147483650, 2147483650), (2147483651, 4294967295)]) (a_o58_0) (by decide +kernel)
theorem a_a59 : aAll 59 (a_b59_0) := aAll_s (Q := [(0, 2147483647), (2147483648, 4294967295)]) (a_o59_0) (by decide +kernel)
theorem a_a60 : aAll 60 (a_b60_0) := aAll_s (Q := [(0, 4294967295)]) (a_o60_0) (by decide +kernel)
theorem a_a61 : aAll 61 (a_b61_0) := aAll_s (Q := [(0, 4294967295)]) (a_o61_0) (by decide +kernel)
theorem a_a62 : aAll 62 (a_b62_0) := aAll_s (Q := [(0, 4294967295)]) (a_o62_0) (by decide +kernel)
theorem a_a63 : aAll 63 (a_b63_0) := aAll_s (Q := [(0, 4294967295)]) (a_o63_0) (by decide +kernel)
theorem a_any (j : Nat) (hj : j < 64) : ∃ bs, aAll j bs := by
  match j, hj with
  | 0, _ => exact ⟨_, a_a0⟩
  | 1, _ => exact ⟨_, a_a1⟩
  | 2, _ => exact ⟨_, a_a2⟩
  | 3, _ => exact ⟨_, a_a3⟩
  | 4, _ => exact ⟨_, a_a4⟩
  | 5, _ => exact ⟨_, a_a5⟩
  | 6, _ => exact ⟨_, a_a6⟩
  | 7, _ => exact ⟨_, a_a7⟩
  | 8, _ => exact ⟨_, a_a8⟩
  | 9, _ => exact ⟨_, a_a9⟩
  | 10, _ => exact ⟨_, a_a10⟩
  | 11, _ => exact ⟨_, a_a11⟩
  | 12, _ => exact ⟨_, a_a12⟩
  | 13, _ => exact ⟨_, a_a13⟩
  | 14, _ => exact ⟨_, a_a14⟩
  | 15, _ => exact ⟨_, a_a15⟩
  | 16, _ => exact ⟨_, a_a16⟩
  | 17, _ => exact ⟨_, a_a17⟩
  | 18, _ => exact ⟨_, a_a18⟩
  | 19, _ => exact ⟨_, a_a19⟩
  | 20, _ => exact ⟨_, a_a20⟩
  | 21, _ => exact ⟨_, a_a21⟩
  | 22, _ => exact ⟨_, a_a22⟩
  | 23, _ => exact ⟨_, a_a23⟩
  | 24, _ => exact ⟨_, a_a24⟩
  | 25, _ => exact ⟨_, a_a25⟩
  | 26, _ => exact ⟨_, a_a26⟩
  | 27, _ => exact ⟨_, a_a27⟩
  | 28, _ => exact ⟨_, a_a28⟩
  | 29, _ => exact ⟨_, a_a29⟩
  | 30, _ => exact ⟨_, a_a30⟩
  | 31, _ => exact ⟨_, a_a31⟩
  | 32, _ => exact ⟨_, a_a32⟩
  | 33, _ => exact ⟨_, a_a33⟩
  | 34, _ => exact ⟨_, a_a34⟩
  | 35, _ => exact ⟨_, a_a35⟩
  | 36, _ => exact ⟨_, a_a36⟩
  | 37, _ => exact ⟨_, a_a37⟩
  | 38, _ => exact ⟨_, a_a38⟩
  | 39, _ => exact ⟨_, a_a39⟩
  | 40, _ => exact ⟨_, a_a40⟩
  | 41, _ => exact ⟨_, a_a41⟩
  | 42, _ => exact ⟨_, a_a42⟩
  | 43, _ => exact ⟨_, a_a43⟩
  | 44, _ => exact ⟨_, a_a44⟩
  | 45, _ => exact ⟨_, a_a45⟩
  | 46, _ => exact ⟨_, a_a46⟩
  | 47, _ => exact ⟨_, a_a47⟩
  | 48, _ => exact ⟨_, a_a48⟩
  | 49, _ => exact ⟨_, a_a49⟩
  | 50, _ => exact ⟨_, a_a50⟩
  | 51, _ => exact ⟨_, a_a51⟩
  | 52, _ => exact ⟨_, a_a52⟩
  | 53, _ => exact ⟨_, a_a53⟩
  | 54, _ => exact ⟨_, a_a54⟩
  | 55, _ => exact ⟨_, a_a55⟩
  | 56, _ => exact ⟨_, a_a56⟩
  | 57, _ => exact ⟨_, a_a57⟩
  | 58, _ => exact ⟨_, a_a58⟩
  | 59, _ => exact ⟨_, a_a59⟩
  | 60, _ => exact ⟨_, a_a60⟩
  | 61, _ => exact ⟨_, a_a61⟩
  | 62, _ => exact ⟨_, a_a62⟩
  | 63, _ => exact ⟨_, a_a63⟩
  | j + 64, h => exact absurd h (by omega)
