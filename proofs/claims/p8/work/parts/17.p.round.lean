/-! ===== ways by hand: trains, rounds ===== -/
def itN (hp : amH) : Nat → Int → Int
  | 0, c => c
  | n + 1, c => nx hp (itN hp n c)
theorem itN_add (hp : amH) : ∀ (n m : Nat) (c : Int), itN hp (n + m) c = itN hp n (itN hp m c)
  | 0, m, c => by rw [Nat.zero_add]; rfl
  | n + 1, m, c => by
    rw [show n + 1 + m = (n + m) + 1 by omega]
    show nx hp (itN hp (n + m) c) = nx hp (itN hp n (itN hp m c))
    rw [itN_add hp n m c]
theorem itN_Cd {hp : amH} (hV : Vf (rN hp 67)) (hW : Wh hp) {c : Int} (hc : Cd (rN hp 67 0) c) : ∀ n, Cd (rN hp 67 0) (itN hp n c)
  | 0 => hc
  | n + 1 => nx_Cd hV hW (itN_Cd hV hW hc n)
def per (hp : amH) (c : Int) : Prop := ∃ n : Nat, 1 ≤ n ∧ n ≤ 456 ∧ itN hp n c = c
def Cds : List Nat := (List.range 4096).filter (fun s => decide (s % 16 < s / 16 % 16) && (decide (s / 16 % 16 < s / 256) && decide (s / 256 < 15)))
theorem Cds_len : Cds.length = 455 := by decide +kernel
theorem Cd_m {p c : Int} (hp : p ≤ 15) (h : Cd p c) : c.toNat ∈ Cds ∧ 0 ≤ c := by
  obtain ⟨x, y, z, h1, h2, h3, rfl⟩ := h
  have e : (256 * (x : Int) + 16 * y + z).toNat = 256 * x + 16 * y + z := by omega
  rw [e]
  have e1 : (256 * x + 16 * y + z) / 256 = x := by omega
  have e2 : (256 * x + 16 * y + z) / 16 % 16 = y := by omega
  have e3 : (256 * x + 16 * y + z) % 16 = z := by omega
  refine ⟨List.mem_filter.mpr ⟨List.mem_range.mpr (by omega), ?_⟩, by omega⟩
  rw [e1, e2, e3]
  simp only [Bool.and_eq_true, decide_eq_true_eq]
  exact ⟨h1, h2, by omega⟩
theorem nd_rng (f : Nat → Nat) : ∀ n : Nat, (∀ i j, i < j → j < n → ¬ f i = f j) → ((List.range n).map f).Nodup := by
  intro n
  induction n with
  | zero => intro _; exact List.nodup_nil
  | succ n ih =>
    intro h
    rw [List.range_succ, List.map_append]
    refine List.nodup_append.mpr ⟨ih (fun i j a b => h i j a (by omega)), by simp, fun a ha b hb => ?_⟩
    obtain ⟨i, hi, rfl⟩ := List.mem_map.mp ha
    have hb : b = f n := by simpa using hb
    subst hb
    exact h i n (List.mem_range.mp hi) (by omega)
/-- among 456 steps one is on a round -/
theorem per_ex {hp : amH} (hV : Vf (rN hp 67)) (hW : Wh hp) {c : Int} (hc : Cd (rN hp 67 0) c) (h : ∀ k, k < 456 → ¬ per hp (itN hp k c)) : False := by
  have hp15 := hV.2.1
  have g := nd_len ((List.range 456).map (fun k => (itN hp k c).toNat)) Cds (nd_rng _ 456 (fun i j hij hj e => ?_)) (fun s hs => ?_)
  · rw [List.length_map, List.length_range, Cds_len] at g
    omega
  · have e1 := (Cd_m hp15 (itN_Cd hV hW hc i)).2
    have e2 := (Cd_m hp15 (itN_Cd hV hW hc j)).2
    refine h i (by omega) ⟨j - i, by omega, by omega, ?_⟩
    rw [← itN_add, show j - i + i = j by omega]
    omega
  · obtain ⟨k, -, rfl⟩ := List.mem_map.mp hs
    exact (Cd_m hp15 (itN_Cd hV hW hc k)).1
theorem l313 {d : Nat} {hp : amH} {R : xQ} {c : Int32} (hH : bHk 84 bTT hp) (hP : P0 hp) (hW : Wh hp) (hc : Cd (rN hp 67 0) c.toInt) (hR : ∀ z : Int32, ((z.toInt = 0 ∧ ¬ per hp c.toInt) ∨ (¬ z.toInt = 0 ∧ per hp c.toInt)) → R (.inl (some (.int z))) hp) :
    ∀ (j n : Nat) (at1 k : Int32), n + j = 456 → 1 ≤ n → k.toInt = (n : Int) → at1.toInt = itN hp n c.toInt → (∀ i, 1 ≤ i → i < n → ¬ itN hp i c.toInt = c.toInt) → xV (d + 3) am_m313 8 [some (.ref 66), some (.int c), some (.int at1), some (.int k)] [] hp R := by
  intro j
  induction j using Nat.strongRecOn with
  | ind j ih =>
    intro n at1 k hj n1 hk ha hn
    have j32 : n ≤ 456 → (at1.toInt = c.toInt ∨ n = 456) → xV (d + 3) am_m313 32 [some (.ref 66), some (.int c), some (.int at1), some (.int k)] [] hp R := by
      intro n4 he
      refine xild 33 ⟨u313, _, rfl⟩ rfl rfl ?_
      refine xild 34 ⟨u313, _, rfl⟩ rfl rfl ?_
      refine xcmp_ne 37 ⟨u313, _, rfl⟩ rfl (fun c34 => ?_) (fun c34 => ?_)
      · refine xcst 42 (0) ⟨u313, _, rfl⟩ rfl (by decide) (fun z41 h41 => ?_)
        exact xret ⟨u313, _, rfl⟩ rfl (hR _ (Or.inl ⟨by assumption, fun ⟨i, i1, i2, i3⟩ => by
          rcases Nat.lt_or_ge i n with z | z
          · exact hn i i1 z i3
          · have : i = n := by omega
            subst this
            omega⟩))
      · refine xild 38 ⟨u313, _, rfl⟩ rfl rfl ?_
        refine xgoto ⟨u313, _, rfl⟩ ?_
        exact xret ⟨u313, _, rfl⟩ rfl (hR _ (Or.inr ⟨by omega, n, n1, n4, by omega⟩))
    refine xild 9 ⟨u313, _, rfl⟩ rfl rfl ?_
    refine xild 10 ⟨u313, _, rfl⟩ rfl rfl ?_
    refine xcmp_eq 13 ⟨u313, _, rfl⟩ rfl (fun c10 => ?_) (fun c10 => ?_)
    · exact j32 (by omega) (by omega)
    · refine xild 14 ⟨u313, _, rfl⟩ rfl rfl ?_
      refine xsip 17 (455) ⟨u313, _, rfl⟩ rfl (by decide) (fun z14 h14 => ?_)
      refine xcmp_gt 20 ⟨u313, _, rfl⟩ rfl (fun c17 => ?_) (fun c17 => ?_)
      · exact j32 (by omega) (by omega)
      · refine xald 21 ⟨u313, _, rfl⟩ rfl rfl ?_
        refine xild 22 ⟨u313, _, rfl⟩ rfl rfl ?_
        refine xcall 25 [.ref 66, .int _] [] hH ⟨u313, _, rfl⟩ rfl rfl rfl rfl rfl (k_next hH hP hW (by rw [ha]; exact itN_Cd hP.1 hW hc n) (fun z22 h22 => ⟨_, rfl, ?_⟩))
        refine xist 26 ⟨u313, _, rfl⟩ rfl rfl ?_
        refine xinc 29 (1) ⟨u313, _, rfl⟩ rfl rfl rfl (by decide) (by omega) (by omega) (fun z26 h26 => ?_)
        refine xgoto ⟨u313, _, rfl⟩ ?_
        refine ih (j - 1) (by omega) (n + 1) _ _ (by omega) (by omega) (by omega) (by rw [h22, ha]; rfl) (fun i i1 i2 => ?_)
        rcases Nat.lt_or_ge i n with z | z
        · exact hn i i1 z
        · have : i = n := by omega
          subst this
          rw [← ha]
          exact c10
theorem k_round {d : Nat} {hp : amH} {R : xQ} {c : Int32} (hH : bHk 84 bTT hp) (hP : P0 hp) (hW : Wh hp) (hc : Cd (rN hp 67 0) c.toInt) (hR : ∀ z : Int32, ((z.toInt = 0 ∧ ¬ per hp c.toInt) ∨ (¬ z.toInt = 0 ∧ per hp c.toInt)) → R (.inl (some (.int z))) hp) : xK (d + 3) 313 [.ref 66, .int c] hp R := by
  refine xin (M := am_m313) rfl rfl rfl ?_
  refine xald 1 ⟨u313, _, rfl⟩ rfl rfl ?_
  refine xild 2 ⟨u313, _, rfl⟩ rfl rfl ?_
  refine xcall 5 [.ref 66, .int _] [] hH ⟨u313, _, rfl⟩ rfl rfl rfl rfl rfl (k_next hH hP hW hc (fun z2 h2 => ⟨_, rfl, ?_⟩))
  refine xist 6 ⟨u313, _, rfl⟩ rfl rfl ?_
  refine xcst 7 (1) ⟨u313, _, rfl⟩ rfl (by decide) (fun z6 h6 => ?_)
  refine xist 8 ⟨u313, _, rfl⟩ rfl rfl ?_
  exact l313 hH hP hW hc hR 455 1 _ _ (by omega) (by omega) (by omega) (by rw [h2]; rfl) (fun i i1 i2 => by omega)
theorem l316 {d : Nat} {hp : amH} {R : xQ} {x y z : Int32} {c0 : Int} (hH : bHk 84 bTT hp) (hP : P0 hp) (hW : Wh hp) (hc : Cd (rN hp 67 0) c0) (hR : ∀ z : Int32, R (.inl (some (.int z))) hp) :
    ∀ (j i : Nat) (n a : Int32), i + j = 456 → a.toInt = itN hp i c0 → n.toInt = (i : Int) → (∀ k, k < i → ¬ per hp (itN hp k c0)) → xV (d + 4) am_m316 23 [some (.ref 66), some (.int x), some (.int y), some (.int z), some (.int n), some (.int a)] [] hp R := by
  intro j
  induction j using Nat.strongRecOn with
  | ind j ih =>
    intro i n a hj ha hni hn
    have hi : i < 456 := by
      rcases Nat.lt_or_ge i 456 with q | q
      · exact q
      · exact (per_ex hP.1 hW hc (fun k hk => hn k (by omega))).elim
    refine xald 24 ⟨u316, _, rfl⟩ rfl rfl ?_
    refine xild2 26 ⟨u316, _, rfl⟩ rfl rfl ?_
    refine xcall 29 [.ref 66, .int _] [] hH ⟨u316, _, rfl⟩ rfl rfl rfl rfl rfl (k_round hH hP hW (by rw [ha]; exact itN_Cd hP.1 hW hc i) (fun z26 h26 => ⟨_, rfl, ?_⟩))
    refine xif_ne 32 ⟨u316, _, rfl⟩ rfl (fun c29 => ?_) (fun c29 => ?_)
    · refine xild2 48 ⟨u316, _, rfl⟩ rfl rfl ?_
      exact xret ⟨u316, _, rfl⟩ rfl (hR _)
    · refine xinc 35 (1) ⟨u316, _, rfl⟩ rfl rfl rfl (by decide) (by omega) (by omega) (fun z32 h32 => ?_)
      refine xald 36 ⟨u316, _, rfl⟩ rfl rfl ?_
      refine xild2 38 ⟨u316, _, rfl⟩ rfl rfl ?_
      refine xcall 41 [.ref 66, .int _] [] hH ⟨u316, _, rfl⟩ rfl rfl rfl rfl rfl (k_next hH hP hW (by rw [ha]; exact itN_Cd hP.1 hW hc i) (fun z38 h38 => ⟨_, rfl, ?_⟩))
      refine xist2 43 ⟨u316, _, rfl⟩ rfl rfl ?_
      refine xgoto ⟨u316, _, rfl⟩ ?_
      refine ih (j - 1) (by omega) (i + 1) _ _ (by omega) (by rw [h38, ha]; rfl) (by omega) (fun k hk => ?_)
      rcases Nat.lt_or_ge k i with z | z
      · exact hn k z
      · have : k = i := by omega
        subst this
        rw [← ha]
        rcases h26 with g | g
        · exact g.2
        · omega
theorem l317 {d : Nat} {hp : amH} {R : xQ} {x y z : Int32} {c0 : Int} (hH : bHk 84 bTT hp) (hP : P0 hp) (hW : Wh hp) (hc : Cd (rN hp 67 0) c0) (hR : ∀ z : Int32, R (.inl (some (.int z))) hp) :
    ∀ (j i : Nat) (a : Int32), i + j = 456 → a.toInt = itN hp i c0 → (∀ k, k < i → ¬ per hp (itN hp k c0)) → xV (d + 4) am_m317 20 [some (.ref 66), some (.int x), some (.int y), some (.int z), some (.int a)] [] hp R := by
  intro j
  induction j using Nat.strongRecOn with
  | ind j ih =>
    intro i a hj ha hn
    have hi : i < 456 := by
      rcases Nat.lt_or_ge i 456 with q | q
      · exact q
      · exact (per_ex hP.1 hW hc (fun k hk => hn k (by omega))).elim
    refine xald 21 ⟨u317, _, rfl⟩ rfl rfl ?_
    refine xild2 23 ⟨u317, _, rfl⟩ rfl rfl ?_
    refine xcall 26 [.ref 66, .int _] [] hH ⟨u317, _, rfl⟩ rfl rfl rfl rfl rfl (k_round hH hP hW (by rw [ha]; exact itN_Cd hP.1 hW hc i) (fun z23 h23 => ⟨_, rfl, ?_⟩))
    refine xif_ne 29 ⟨u317, _, rfl⟩ rfl (fun c26 => ?_) (fun c26 => ?_)
    · refine xald 41 ⟨u317, _, rfl⟩ rfl rfl ?_
      refine xild2 43 ⟨u317, _, rfl⟩ rfl rfl ?_
      refine xcall 46 [.ref 66, .int _] [] hH ⟨u317, _, rfl⟩ rfl rfl rfl rfl rfl (k_round hH hP hW (by rw [ha]; exact itN_Cd hP.1 hW hc i) (fun z43 h43 => ⟨_, rfl, ?_⟩))
      exact xret ⟨u317, _, rfl⟩ rfl (hR _)
    · refine xald 30 ⟨u317, _, rfl⟩ rfl rfl ?_
      refine xild2 32 ⟨u317, _, rfl⟩ rfl rfl ?_
      refine xcall 35 [.ref 66, .int _] [] hH ⟨u317, _, rfl⟩ rfl rfl rfl rfl rfl (k_next hH hP hW (by rw [ha]; exact itN_Cd hP.1 hW hc i) (fun z32 h32 => ⟨_, rfl, ?_⟩))
      refine xist2 37 ⟨u317, _, rfl⟩ rfl rfl ?_
      refine xgoto ⟨u317, _, rfl⟩ ?_
      refine ih (j - 1) (by omega) (i + 1) _  (by omega) (by rw [h32, ha]; rfl) (fun k hk => ?_)
      rcases Nat.lt_or_ge k i with z | z
      · exact hn k z
      · have : k = i := by omega
        subst this
        rw [← ha]
        rcases h23 with g | g
        · exact g.2
        · omega
