/-! ===== ways by hand: a system is laid empty; a text is read as a system ===== -/
theorem P0_56 {hp hp1 : amH} (hF : bFr [(66, 5), (66, 6)] hp hp1) (h5 : rN hp1 66 5 = 0) (h6 : rN hp1 66 6 = 0) (hP : P0 hp) : P0 hp1 :=
  ⟨Vf_eq (fun i _ => r_fr hF rfl) hP.1, fun z => absurd z (by omega), fun k hk => absurd hk (by omega), fun z => Vf_eq (fun i _ => r_fr hF rfl) (hP.2.2.2 (by rw [← show rN hp1 69 0 = rN hp 69 0 from r_fr hF rfl]; exact z))⟩
def wLd : List (Nat × Nat) := [(66, 21), (66, 22), (66, 23), (66, 24), (66, 25), (66, 26), (66, 27), (66, 28), (66, 29), (81, 999)] ++ wM
theorem f21 {hp : amH} (hH : bHk 84 bTT hp) (h : rN hp 66 21 = 0) : bFacts hp [(66, 21, 2147483648, 2147483648)] := by
  intro f hf
  have hf : f = (66, 21, 2147483648, 2147483648) := by simpa using hf
  subst hf
  obtain ⟨vs, h1, -, -, -, x, h2, h3, -⟩ := x66I hH (f := 21) (lo := 2147483648) (hi := 2147484248) rfl
  refine ⟨x, ?_, ?_, ?_⟩
  · unfold bFld
    dsimp only
    rw [h1]
    exact h2
  · have := aOff_eq x
    show 2147483648 ≤ aOff x
    omega
  · have := aOff_eq x
    show aOff x ≤ 2147483648
    omega
