/-! ===== ways by hand: what is said of a call from outside ===== -/
def wM : List (Nat × Nat) := [(66, 5), (66, 6), (66, 7), (66, 12), (66, 14), (66, 17), (66, 19), (66, 32), (67, 999), (68, 999), (69, 999), (70, 999), (71, 999), (72, 999), (73, 999), (74, 999), (75, 999), (76, 999), (77, 999), (78, 999), (79, 999), (82, 999)]
theorem ref66 {v : Value} (h : bYr 84 (.inr (.inr [66])) v) : v = .ref 66 := by
  obtain ⟨i, e, -, hi⟩ := h
  have hi : i = 66 := by simpa using hi
  rw [e, hi]
/-- a checked method of one case, an int, called -/
theorem xsem1 {P : amH → Prop} {d k lo hi : Nat} {s : bSp} {fs : List bFa} {av : List Value} {hp : amH} {R : xQ} (hs : bSem amGG P 84 bTT k s) (hd : s.2.2.1 ≤ d) (hH : bHk 84 bTT hp) (hP : P hp) (ha : bArgs 84 s.1 av) (hf : bFacts hp s.2.1) (hc : s.2.2.2.2.2 = [(some (.inl (lo, hi)), fs)]) (ht : s.2.2.2.2.1 = [])
    (hR : ∀ (z : Int32) hp1, bHk 84 bTT hp1 → P hp1 → bFr s.2.2.2.1 hp hp1 → (lo : Int) - 2147483648 ≤ z.toInt → z.toInt ≤ (hi : Int) - 2147483648 → R (.inl (some (.int z))) hp1) : xK d k av hp R := by
  refine xsem hs hd hH hP ha hf (fun y hp1 g1 g2 g3 g4 => ?_)
  match y with
  | .inl v =>
    obtain ⟨c, h1, h2, h3⟩ := g4
    rw [hc] at h1
    have h1 : c = (some (.inl (lo, hi)), fs) := by simpa using h1
    subst h1
    match v, h2 with
    | some v, ⟨z, e, z1, z2⟩ =>
      subst e
      have := aOff_eq z
      exact hR z hp1 g1 g2 g3 (by omega) (by omega)
  | .inr E =>
    have g4 : E ∈ s.2.2.2.2.1 := g4
    rw [ht] at g4
    cases g4
theorem xsemV {P : amH → Prop} {d k : Nat} {s : bSp} {fs : List bFa} {av : List Value} {hp : amH} {R : xQ} (hs : bSem amGG P 84 bTT k s) (hd : s.2.2.1 ≤ d) (hH : bHk 84 bTT hp) (hP : P hp) (ha : bArgs 84 s.1 av) (hf : bFacts hp s.2.1) (hc : s.2.2.2.2.2 = [(none, fs)]) (ht : s.2.2.2.2.1 = [])
    (hR : ∀ hp1, bHk 84 bTT hp1 → P hp1 → bFr s.2.2.2.1 hp hp1 → R (.inl none) hp1) : xK d k av hp R := by
  refine xsem hs hd hH hP ha hf (fun y hp1 g1 g2 g3 g4 => ?_)
  match y with
  | .inl v =>
    obtain ⟨c, h1, h2, h3⟩ := g4
    rw [hc] at h1
    have h1 : c = (none, fs) := by simpa using h1
    subst h1
    match v, h2 with
    | none, _ => exact hR hp1 g1 g2 g3
  | .inr E =>
    have g4 : E ∈ s.2.2.2.2.1 := g4
    rw [ht] at g4
    cases g4
theorem a66 : bYr 84 (.inr (.inr [66])) (.ref 66) := ⟨66, rfl, by decide, by simp⟩
theorem aFI (x : Int32) : bYr 84 (.inl (0, 4294967295)) (.int x) := ⟨x, rfl, Nat.zero_le _, bOff_le x⟩
theorem noF (hp : amH) : bFacts hp [] := fun f hf => by cases hf
theorem k_fails2 {d : Nat} {hp : amH} {R : xQ} {v e : Int32} (hH : bHk 84 bTT hp) (hP : P0 hp) (hv : v.toInt = 0 ∨ v.toInt = 1) (hR : ∀ hp1, bHk 84 bTT hp1 → P0 hp1 → bFr [(66, 7)] hp hp1 → R (.inl (some (.int v))) hp1) : xK d 197 [.ref 66, .int v, .int e] hp R :=
  k_fails hH hv (fun hp1 h1 h2 => hR hp1 h1 (P0_W (by decide) h2 hP) h2)
theorem k_lt {d : Nat} {hp : amH} {R : xQ} (hH : bHk 84 bTT hp) (hP : P0 hp) (hR : ∀ hp1, bHk 84 bTT hp1 → P0 hp1 → bFr bLT hp hp1 → R (.inl none) hp1) : xK (d + 1) 211 [.ref 66] hp R :=
  xsemV h211_s (Nat.le_add_left 1 d) hH hP ⟨a66, trivial⟩ (noF hp) rfl rfl hR
theorem k_num {d : Nat} {hp : amH} {R : xQ} {m : Int32} (hH : bHk 84 bTT hp) (hP : P0 hp) (hR : ∀ z : Int32, -1 ≤ z.toInt ∧ z.toInt ≤ 34 → ∀ hp1, bHk 84 bTT hp1 → P0 hp1 → bFr [] hp hp1 → R (.inl (some (.int z))) hp1) : xK d 212 [.ref 66, .int m] hp R :=
  xsem1 (bQ6_s bf_4 (List.mem_of_getElem? (i := 129) rfl)) (Nat.zero_le d) hH hP ⟨a66, aFI m, trivial⟩ (noF hp) rfl rfl (fun z hp1 h1 h2 h3 h4 h5 => hR z (by omega) hp1 h1 h2 h3)
theorem u233 : bUp 0 am_m233.1 = true := by decide +kernel
theorem k_turned {d : Nat} {hp : amH} {R : xQ} {a b : Int32} (hH : bHk 84 bTT hp) (hP : P0 hp) (a1 : 0 ≤ a.toInt) (a2 : a.toInt ≤ 100) (b1 : 0 ≤ b.toInt) (b2 : b.toInt ≤ 100) (hR : ∀ z : Int32, z.toInt = (a.toInt + b.toInt) % rN hp 67 0 ∧ 0 ≤ z.toInt ∧ z.toInt < rN hp 67 0 → R (.inl (some (.int z))) hp) : xK (d + 1) 233 [.ref 66, .int a, .int b] hp R := by
  have q1 := hP.1.1
  have q2 := hP.1.2.1
  refine xin (M := am_m233) rfl rfl rfl ?_
  refine xild 1 ⟨u233, _, rfl⟩ rfl rfl ?_
  refine xild 2 ⟨u233, _, rfl⟩ rfl rfl ?_
  refine xadd 3 _ ⟨u233, _, rfl⟩ rfl rfl (by omega) (by omega) (fun z2 h2 => ?_)
  refine xald 4 ⟨u233, _, rfl⟩ rfl rfl ?_
  refine xcall 7 [.ref 66] [.int _] hH ⟨u233, _, rfl⟩ rfl rfl rfl rfl rfl (k_points hH (fun z4 h4 => ⟨_, rfl, ?_⟩))
  refine xrem 8 _ ⟨u233, _, rfl⟩ rfl (by omega) (by omega) rfl (fun z7 h7 => ?_)
  have g1 := Int.emod_nonneg z2.toInt (b := z4.toInt) (by omega)
  have g2 := Int.emod_lt_of_pos z2.toInt (b := z4.toInt) (by omega)
  refine xret ⟨u233, _, rfl⟩ rfl (hR _ ⟨by rw [h7, h2, h4], by omega, by omega⟩)
