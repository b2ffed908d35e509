/-! ===== the compared call ===== -/
theorem u195 : bUp 0 am_m195.1 = true := by decide +kernel
/-- what the reference says was thrown -/
theorem k_195 {d : Nat} {hp : amH} {R : xQ} (hH : bHk 84 bTT hp) (hR : ∀ z : Int32, z.toInt = rN hp 66 7 → R (.inl (some (.int z))) hp) : xK d 195 [.ref 66] hp R := by
  refine xin (M := am_m195) rfl rfl rfl ?_
  refine xald 1 ⟨u195, _, rfl⟩ rfl rfl ?_
  refine xgetI 4 hH ⟨u195, _, rfl⟩ rfl rfl (fun z1 h1 => ?_)
  exact xret ⟨u195, _, rfl⟩ rfl (hR _ h1)
theorem dv_std {V n : Nat} {T : sT} {ty : Nat → Int} {h : Nat → sR} {sv : Option sR} {hp1 : amH} {g z : Int} {x y w : Nat} (a5 : (¬ g = 0 ∧ rfS hp1 (V, T, ty) n h sv) ∨ (∃ q, g = 0 ∧ sDv V x y w V 0 T 0 = some q ∧ rfS hp1 (V, q.1, ty) (pM n + 1) (pH n h (V, T, ty)) sv ∧ z = (q.2 : Int))) : (¬ g = 0 ∧ rfS hp1 (V, T, ty) n h sv) ∨ (g = 0 ∧ rfS hp1 (V, (dvT V T x y w).1, ty) (pM n + 1) (pH n h (V, T, ty)) sv ∧ z = (((dvT V T x y w).2 : Nat) : Int)) := by
  rcases a5 with a5 | ⟨q, e0, e1, e2, e3⟩
  · exact Or.inl a5
  · refine Or.inr ⟨e0, ?_, ?_⟩
    · unfold dvT; rw [e1]; exact e2
    · unfold dvT; rw [e1]; exact e3
theorem cs15J {sc : List Int32} {b : Nat} {i : Int32} {hp : amH} (i0 : 0 ≤ i.toInt) (i1 : i.toInt + 6 ≤ (sc.length : Int)) (hL : sc.length ≤ 100000) (hI : lawJ hp) (hN : ∀ hp1, lawJ hp1 → lV sc b 2284 i hp1) : lV sc (b + 1) 806 i hp := by
  obtain ⟨⟨V, T, ty⟩, n, h, sv, c, r⟩ := hI.2
  refine cald 807 (lI1 119 rfl) rfl rfl ?_
  refine cald 808 (lI1 120 rfl) rfl rfl ?_
  refine cild2 810 (lI1 121 rfl) rfl rfl ?_
  refine ccst 811 (1) (lI1 122 rfl) rfl (by decide) (fun z807 h807 => ?_)
  refine cadd 812 _ (lI1 123 rfl) rfl rfl (by omega) (by omega) (fun y807 g807 => ?_)
  refine csclE 813 (lI1 124 rfl) rfl (by omega) (by omega) (fun w807 e807 => ?_)
  refine cald 814 (lI1 125 rfl) rfl rfl ?_
  refine cild2 816 (lI1 126 rfl) rfl rfl ?_
  refine ccst 817 (2) (lI1 127 rfl) rfl (by decide) (fun z813 h813 => ?_)
  refine cadd 818 _ (lI1 128 rfl) rfl rfl (by omega) (by omega) (fun y813 g813 => ?_)
  refine csclE 819 (lI1 129 rfl) rfl (by omega) (by omega) (fun w813 e813 => ?_)
  refine cald 820 (lI1 130 rfl) rfl rfl ?_
  refine cild2 822 (lI1 131 rfl) rfl rfl ?_
  refine ccst 823 (3) (lI1 132 rfl) rfl (by decide) (fun z819 h819 => ?_)
  refine cadd 824 _ (lI1 133 rfl) rfl rfl (by omega) (by omega) (fun y819 g819 => ?_)
  refine csclE 825 (lI1 134 rfl) rfl (by omega) (by omega) (fun w819 e819 => ?_)
  refine cald 826 (lI1 135 rfl) rfl rfl ?_
  refine ccall (kd := 1) (t := 0) [.ref 0, .int _, .int _, .int _, .ref 83] [] hI.1.1 (lI1 136 rfl) (Or.inr ⟨_, rfl, rfl, by decide⟩) rfl rfl rfl ⟨rfl, rfl, rfl⟩ rfl rfl rfl (h357J (d := 579) hI.1 c r (fun rk hp1 mc ms hI1 r1 k1 o1 hmc hms => Or.inl ⟨_, rfl, ?_⟩))
  refine cistK 831 (lI1 137 rfl) rfl rfl ?_
  refine cald 832 (lI1 138 rfl) rfl rfl ?_
  refine cald 833 (lI1 139 rfl) rfl rfl ?_
  refine cild2 835 (lI1 140 rfl) rfl rfl ?_
  refine ccst 836 (1) (lI1 141 rfl) rfl (by decide) (fun z832 h832 => ?_)
  refine cadd 837 _ (lI1 142 rfl) rfl rfl (by omega) (by omega) (fun y832 g832 => ?_)
  refine csclE 838 (lI1 143 rfl) rfl (by omega) (by omega) (fun w832 e832 => ?_)
  refine cald 839 (lI1 144 rfl) rfl rfl ?_
  refine cild2 841 (lI1 145 rfl) rfl rfl ?_
  refine ccst 842 (2) (lI1 146 rfl) rfl (by decide) (fun z838 h838 => ?_)
  refine cadd 843 _ (lI1 147 rfl) rfl rfl (by omega) (by omega) (fun y838 g838 => ?_)
  refine csclE 844 (lI1 148 rfl) rfl (by omega) (by omega) (fun w838 e838 => ?_)
  refine cald 845 (lI1 149 rfl) rfl rfl ?_
  refine cild2 847 (lI1 150 rfl) rfl rfl ?_
  refine ccst 848 (3) (lI1 151 rfl) rfl (by decide) (fun z844 h844 => ?_)
  refine cadd 849 _ (lI1 152 rfl) rfl rfl (by omega) (by omega) (fun y844 g844 => ?_)
  refine csclE 850 (lI1 153 rfl) rfl (by omega) (by omega) (fun w844 e844 => ?_)
  have ew832 : w832 = w807 := by rw [e832, e807, show y832.toInt = y807.toInt by omega]
  subst ew832
  have ew838 : w838 = w813 := by rw [e838, e813, show y838.toInt = y813.toInt by omega]
  subst ew838
  have ew844 : w844 = w819 := by rw [e844, e819, show y844.toInt = y819.toInt by omega]
  subst ew844
  refine ccall (kd := 0) (t := 0) [.ref 66, .int _, .int _, .int _] [] hI1.1 (lI1 154 rfl) (Or.inl ⟨_, rfl, rfl, by decide, by decide⟩) rfl rfl rfl ⟨rfl, rfl, rfl⟩ rfl (recv66 hI1.1 _) rfl (qK (Φ := fun z hp2 => bHk 84 bTT hp2 ∧ P0 hp2 ∧ bFr wM hp1 hp2 ∧ stS hp2 ∧ rN hp2 66 7 = rk.toInt ∧ (rk.toInt = 0 → z.toInt = rJ hp1 83 0)) (fun R hR => k_274E (d := 594) hI1.1 hI1.2.1 r1 (fun z hp2 a1 a2 a3 a4 a5 => have a5 := dv_std a5; hR z hp2 ⟨a1, a2, a3, st_join2 o1 a5 a3, a4.trans k1.symm, (fun e0 => by have u := (a5.resolve_left (fun z => z.1 (k1.symm.trans e0))).2.2; have v := (o1.resolve_left (fun z => z.1 (k1.symm.trans e0))).2.2; omega)⟩)) (fun rb hp2 g2 => Or.inl ⟨_, rfl, ?_⟩))
  refine cistK 855 (lI1 155 rfl) rfl rfl ?_
  refine cald 856 (lI1 156 rfl) rfl rfl ?_
  refine ccall (kd := 0) (t := 0) [.ref 66] [] g2.1 (lI1 157 rfl) (Or.inl ⟨_, rfl, rfl, by decide, by decide⟩) rfl rfl rfl ⟨rfl, rfl, rfl⟩ rfl (recv66 g2.1 _) rfl (qK (Φ := fun z hp3 => hp3 = hp2 ∧ z.toInt = rN hp2 66 7) (fun R hR => k_195 (d := 599) g2.1 (fun z e => hR z hp2 ⟨rfl, e⟩)) (fun rt hp3 g3 => Or.inl ⟨_, rfl, ?_⟩))
  obtain ⟨rfl, g3⟩ := g3
  have k2 := g2.2.2.2.2.1
  have j2 : rJ hp3 83 0 = rJ hp1 83 0 := rJ_eq (g2.2.2.1 83 0 rfl)
  refine cild2 861 (lI1 158 rfl) rfl rfl ?_
  refine ccmp_eq 864 (lI1 159 rfl) rfl (fun c1 => ?_) (fun c1 => ?_)
  · refine cild2 868 (lI1 162 rfl) rfl rfl ?_
    refine cif_ne 871 (lI1 163 rfl) rfl (fun c2 => ?_) (fun c2 => ?_)
    · refine cgoto (lI1 173 rfl) ?_
      exact cdrop (fun k v e => by match k, e with | 0, e => exact e | 1, e => exact e | 2, e => exact e | 3, e => exact e | 4, e => exact e | k9 + 5, e => cases e) (cmono (hN _ ⟨law_rf hI1 g2.1 g2.2.1 g2.2.2.1, g2.2.2.2.1⟩) (fun y hp9 m9 s9 h9 => ⟨h9.1, by have := h9.2.1; omega, by have := h9.2.2; omega⟩))
    · refine cald 872 (lI1 164 rfl) rfl rfl ?_
      refine ccst 873 (0) (lI1 165 rfl) rfl (by decide) (fun z8 h8 => ?_)
      refine claldE 874 g2.1 (lI1 166 rfl) rfl h8 (fun z9 h9 => ?_)
      refine cild2 876 (lI1 167 rfl) rfl rfl ?_
      refine ci2lE 877 (lI1 168 rfl) rfl (fun u9 v9 => ?_)
      refine clcmp 878 (lI1 169 rfl) rfl (fun q9 s9 => ?_)
      refine cif_eq 881 (lI1 170 rfl) rfl (fun c3 => ?_) (fun c3 => ?_)
      · refine cgoto (lI1 173 rfl) ?_
        exact cdrop (fun k v e => by match k, e with | 0, e => exact e | 1, e => exact e | 2, e => exact e | 3, e => exact e | 4, e => exact e | k9 + 5, e => cases e) (cmono (hN _ ⟨law_rf hI1 g2.1 g2.2.1 g2.2.2.1, g2.2.2.2.1⟩) (fun y hp9 m9 s9 h9 => ⟨h9.1, by have := h9.2.1; omega, by have := h9.2.2; omega⟩))
      · have := g2.2.2.2.2.2 c2
        omega
  · omega
