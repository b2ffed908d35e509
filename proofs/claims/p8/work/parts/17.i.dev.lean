/-! ===== ways by hand: back and forth; develop ===== -/
theorem P0_no {hp hp1 : amH} {c : Nat} (hP : P0 hp) (hF : bFr [(c, 999)] hp hp1) (h67 : c = 67 → Vf (rN hp1 67)) (h69 : c = 69 → Vf (rN hp1 69)) (h70 : c = 70 → Vf (rN hp1 70)) (h71 : ¬ c = 71) (h66 : ¬ c = 66) : P0 hp1 := by
  have e : ∀ k i, ¬ k = c → rN hp1 k i = rN hp k i := fun k i h => r_fr hF (bIn_ne h)
  refine ⟨?_, fun z => ?_, fun k hk hk2 => ?_, fun z => ?_⟩
  · by_cases h : c = 67
    · exact h67 h
    · exact Vf_eq (fun i _ => e 67 i (fun z => h z.symm)) hP.1
  · by_cases h : c = 70
    · exact h70 h
    · exact Vf_eq (fun i _ => e 70 i (fun z => h z.symm)) (hP.2.1 (by rw [← e 66 6 (fun z => h66 z.symm)]; exact z))
  · exact Vf_eq (fun i _ => e 71 _ (fun z => h71 z.symm)) (hP.2.2.1 k (by rw [← e 66 5 (fun z => h66 z.symm)]; exact hk) hk2)
  · by_cases h : c = 69
    · exact h69 h
    · exact Vf_eq (fun i _ => e 69 i (fun z => h z.symm)) (hP.2.2.2 (by rw [← e 69 0 (fun z => h z.symm)]; exact z))
theorem em_two {x k p : Int} (hx : 0 ≤ x) (hxp : x < p) (hk : 0 ≤ k) (hkp : k < p) : (x + k) % p = x + k ∨ (x + k) % p = x + k - p := by
  rcases Int.lt_or_le (x + k) p with h | h
  · exact Or.inl (Int.emod_eq_of_lt (by omega) h)
  · right
    rw [← Int.sub_emod_right, Int.emod_eq_of_lt (by omega) (by omega)]
theorem k_turn2 {d : Nat} {hp : amH} {R : xQ} {a b : Int32} (hH : bHk 84 bTT hp) (hP : P0 hp) (a1 : 0 ≤ a.toInt) (a2 : a.toInt < rN hp 67 0) (b1 : 0 ≤ b.toInt) (b2 : b.toInt < rN hp 67 0) (hR : ∀ z : Int32, (z.toInt = a.toInt + b.toInt ∨ z.toInt = a.toInt + b.toInt - rN hp 67 0) ∧ 0 ≤ z.toInt ∧ z.toInt < rN hp 67 0 → R (.inl (some (.int z))) hp) : xK (d + 1) 233 [.ref 66, .int a, .int b] hp R := by
  have q2 := hP.1.2.1
  refine k_turned hH hP a1 (by omega) b1 (by omega) (fun z ⟨h1, h2, h3⟩ => hR z ⟨?_, h2, h3⟩)
  rcases em_two a1 a2 b1 b2 with g | g
  · exact Or.inl (h1.trans g)
  · exact Or.inr (h1.trans g)
theorem u237 : bUp 0 am_m237.1 = true := by decide +kernel
theorem u274 : bUp 0 am_m274.1 = true := by decide +kernel
