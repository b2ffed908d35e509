/-! ===== the law's mutators, one state kept ===== -/
theorem csclE {l : List Int32} {M : amM} {pc a b d : Nat} {L : List (Option Value)} {st : List Value} {hp : amH} {Q : cQ} (q : Nat) {x : Int32} (h : xI M pc .iaload a b) (e : q = pc + 1) (h0 : 0 ≤ x.toInt) (h1 : x.toInt < (l.length : Int)) (hw : ∀ z : Int32, z = l.getD x.toInt.toNat 0 → cV (some l) d M q L (.int z :: st) hp Q) : cV (some l) d M pc L (.int x :: .ref amS :: st) hp Q := by
  have e2 := rw_in (i := x) (n := x.toInt.toNat) (m := l.length) (by omega) (by omega)
  refine cstep h (fun cl hl => ⟨cl, ?_, hl⟩) (hw (l.getD x.toNatClampNeg 0) (by rw [e2.1]))
  subst e
  simp only [amDo, amStep, amSc]
  rw [if_pos ⟨trivial, e2.2⟩]
  rfl
theorem st_join2 {g : Int} {hp1 hp2 : amH} {q q1 : sR} {n n1 : Nat} {h h1 : Nat → sR} {sv sv1 : Option sR} {P Q : Prop} (c : (¬ g = 0 ∧ clS hp1 q n h sv) ∨ (g = 0 ∧ clS hp1 q1 n1 h1 sv1 ∧ P)) (r : (¬ g = 0 ∧ rfS hp2 q n h sv) ∨ (g = 0 ∧ rfS hp2 q1 n1 h1 sv1 ∧ Q)) (F : bFr wM hp1 hp2) : stS hp2 :=
  st_join (g := g) (c.elim (fun z => Or.inr z) (fun z => Or.inl ⟨z.1, z.2.1⟩)) (r.elim (fun z => Or.inr z) (fun z => Or.inl ⟨z.1, z.2.1⟩)) F
theorem cs57J {sc : List Int32} {b : Nat} {i : Int32} {hp : amH} (i0 : 0 ≤ i.toInt) (i1 : i.toInt + 6 ≤ (sc.length : Int)) (hL : sc.length ≤ 100000) (hI : lawJ hp) (hN : ∀ hp1, lawJ hp1 → lV sc b 2256 i hp1) : lV sc (b + 1) 2109 i hp := by
  obtain ⟨⟨V, T, ty⟩, n, h, sv, c, r⟩ := hI.2
  refine cald 2110 (lI4 248 rfl) rfl rfl ?_
  refine cald 2111 (lI4 249 rfl) rfl rfl ?_
  refine cild2 2113 (lI5 0 rfl) rfl rfl ?_
  refine ccst 2114 (1) (lI5 1 rfl) rfl (by decide) (fun z2113 h2113 => ?_)
  refine cadd 2115 _ (lI5 2 rfl) rfl rfl (by omega) (by omega) (fun z2114 h2114 => ?_)
  refine csclE 2116 (lI5 3 rfl) rfl (by omega) (by omega) (fun w2115 e2115 => ?_)
  refine cald 2117 (lI5 4 rfl) rfl rfl ?_
  refine cild2 2119 (lI5 5 rfl) rfl rfl ?_
  refine ccst 2120 (2) (lI5 6 rfl) rfl (by decide) (fun z2119 h2119 => ?_)
  refine cadd 2121 _ (lI5 7 rfl) rfl rfl (by omega) (by omega) (fun z2120 h2120 => ?_)
  refine csclE 2122 (lI5 8 rfl) rfl (by omega) (by omega) (fun w2121 e2121 => ?_)
  refine cald 2123 (lI5 9 rfl) rfl rfl ?_
  refine cild2 2125 (lI5 10 rfl) rfl rfl ?_
  refine ccst 2126 (3) (lI5 11 rfl) rfl (by decide) (fun z2125 h2125 => ?_)
  refine cadd 2127 _ (lI5 12 rfl) rfl rfl (by omega) (by omega) (fun z2126 h2126 => ?_)
  refine csclE 2128 (lI5 13 rfl) rfl (by omega) (by omega) (fun w2127 e2127 => ?_)
  refine cald 2129 (lI5 14 rfl) rfl rfl ?_
  refine ccall (kd := 1) (t := 0) [.ref 0, .int _, .int _, .int _, .ref 83] [] hI.1.1 (lI5 15 rfl) (Or.inr ⟨_, rfl, rfl, by decide⟩) rfl rfl rfl ⟨rfl, rfl, rfl⟩ rfl rfl rfl (h382J (d := 579) hI.1 c r (fun r2129 hp2129 mc ms hI2129 r1 k1 o1 hmc hms => Or.inl ⟨_, rfl, ?_⟩))
  refine cistU 2134 (lI5 16 rfl) rfl rfl rfl ?_
  refine cald 2135 (lI5 17 rfl) rfl rfl ?_
  refine cald 2136 (lI5 18 rfl) rfl rfl ?_
  refine cild2 2138 (lI5 19 rfl) rfl rfl ?_
  refine ccst 2139 (1) (lI5 20 rfl) rfl (by decide) (fun z2138 h2138 => ?_)
  refine cadd 2140 _ (lI5 21 rfl) rfl rfl (by omega) (by omega) (fun z2139 h2139 => ?_)
  refine csclE 2141 (lI5 22 rfl) rfl (by omega) (by omega) (fun w2140 e2140 => ?_)
  refine cald 2142 (lI5 23 rfl) rfl rfl ?_
  refine cild2 2144 (lI5 24 rfl) rfl rfl ?_
  refine ccst 2145 (2) (lI5 25 rfl) rfl (by decide) (fun z2144 h2144 => ?_)
  refine cadd 2146 _ (lI5 26 rfl) rfl rfl (by omega) (by omega) (fun z2145 h2145 => ?_)
  refine csclE 2147 (lI5 27 rfl) rfl (by omega) (by omega) (fun w2146 e2146 => ?_)
  refine cald 2148 (lI5 28 rfl) rfl rfl ?_
  refine cild2 2150 (lI5 29 rfl) rfl rfl ?_
  refine ccst 2151 (3) (lI5 30 rfl) rfl (by decide) (fun z2150 h2150 => ?_)
  refine cadd 2152 _ (lI5 31 rfl) rfl rfl (by omega) (by omega) (fun z2151 h2151 => ?_)
  refine csclE 2153 (lI5 32 rfl) rfl (by omega) (by omega) (fun w2152 e2152 => ?_)
  have ew2140 : w2140 = w2115 := by rw [e2140, e2115, show z2139.toInt = z2114.toInt by omega]
  subst ew2140
  have ew2146 : w2146 = w2121 := by rw [e2146, e2121, show z2145.toInt = z2120.toInt by omega]
  subst ew2146
  have ew2152 : w2152 = w2127 := by rw [e2152, e2127, show z2151.toInt = z2126.toInt by omega]
  subst ew2152
  refine ccall (kd := 0) (t := 0) [.ref 66, .int _, .int _, .int _] [] hI2129.1 (lI5 33 rfl) (Or.inl ⟨_, rfl, rfl, by decide, by decide⟩) rfl rfl rfl ⟨rfl, rfl, rfl⟩ rfl (recv66 hI2129.1 _) rfl (qK (Φ := fun _ hp2 => bHk 84 bTT hp2 ∧ P0 hp2 ∧ bFr wM hp2129 hp2 ∧ stS hp2) (fun R hR => k_276E (d := 595) hI2129.1 hI2129.2.1 r1 (fun z hp2 a1 a2 a3 a4 a5 => hR z hp2 ⟨a1, a2, a3, st_join2 (Q := True) o1 (a5.elim Or.inl (fun ⟨e0, e1, _⟩ => Or.inr ⟨e0, (by
    have gs := Classical.byContradiction (fun z => z ((fCd_1 z).symm.trans e0))
    have k := gSet_0.mp gs
    unfold fcT
    rw [force_eq c.1.2.1 (by omega) (by omega) (by omega)]
    exact e1), trivial⟩)) a3⟩)) (fun r2 hp2 g2 => Or.inl ⟨_, rfl, ?_⟩))
  refine cistU 2158 (lI5 34 rfl) rfl rfl rfl ?_
  refine cgoto (lI5 35 rfl) ?_
  exact cmono (hN hp2 ⟨law_rf hI2129 g2.1 g2.2.1 g2.2.2.1, g2.2.2.2⟩) (fun y hp9 m9 s9 h9 => ⟨h9.1, by have := h9.2.1; omega, by have := h9.2.2; omega⟩)
theorem cs15J {sc : List Int32} {b : Nat} {i : Int32} {hp : amH} (i0 : 0 ≤ i.toInt) (i1 : i.toInt + 6 ≤ (sc.length : Int)) (hL : sc.length ≤ 100000) (hI : lawJ hp) (hN : ∀ hp1, lawJ hp1 → lV sc b 2256 i hp1) : lV sc (b + 1) 806 i hp := by
  obtain ⟨⟨V, T, ty⟩, n, h, sv, c, r⟩ := hI.2
  refine cald 807 (lI1 119 rfl) rfl rfl ?_
  refine cald 808 (lI1 120 rfl) rfl rfl ?_
  refine cild2 810 (lI1 121 rfl) rfl rfl ?_
  refine ccst 811 (1) (lI1 122 rfl) rfl (by decide) (fun z810 h810 => ?_)
  refine cadd 812 _ (lI1 123 rfl) rfl rfl (by omega) (by omega) (fun z811 h811 => ?_)
  refine csclE 813 (lI1 124 rfl) rfl (by omega) (by omega) (fun w812 e812 => ?_)
  refine cald 814 (lI1 125 rfl) rfl rfl ?_
  refine cild2 816 (lI1 126 rfl) rfl rfl ?_
  refine ccst 817 (2) (lI1 127 rfl) rfl (by decide) (fun z816 h816 => ?_)
  refine cadd 818 _ (lI1 128 rfl) rfl rfl (by omega) (by omega) (fun z817 h817 => ?_)
  refine csclE 819 (lI1 129 rfl) rfl (by omega) (by omega) (fun w818 e818 => ?_)
  refine cald 820 (lI1 130 rfl) rfl rfl ?_
  refine cild2 822 (lI1 131 rfl) rfl rfl ?_
  refine ccst 823 (3) (lI1 132 rfl) rfl (by decide) (fun z822 h822 => ?_)
  refine cadd 824 _ (lI1 133 rfl) rfl rfl (by omega) (by omega) (fun z823 h823 => ?_)
  refine csclE 825 (lI1 134 rfl) rfl (by omega) (by omega) (fun w824 e824 => ?_)
  refine cald 826 (lI1 135 rfl) rfl rfl ?_
  refine ccall (kd := 1) (t := 0) [.ref 0, .int _, .int _, .int _, .ref 83] [] hI.1.1 (lI1 136 rfl) (Or.inr ⟨_, rfl, rfl, by decide⟩) rfl rfl rfl ⟨rfl, rfl, rfl⟩ rfl rfl rfl (h357J (d := 579) hI.1 c r (fun r826 hp826 mc ms hI826 r1 k1 o1 hmc hms => Or.inl ⟨_, rfl, ?_⟩))
  refine cistU 831 (lI1 137 rfl) rfl rfl rfl ?_
  refine cald 832 (lI1 138 rfl) rfl rfl ?_
  refine cald 833 (lI1 139 rfl) rfl rfl ?_
  refine cild2 835 (lI1 140 rfl) rfl rfl ?_
  refine ccst 836 (1) (lI1 141 rfl) rfl (by decide) (fun z835 h835 => ?_)
  refine cadd 837 _ (lI1 142 rfl) rfl rfl (by omega) (by omega) (fun z836 h836 => ?_)
  refine csclE 838 (lI1 143 rfl) rfl (by omega) (by omega) (fun w837 e837 => ?_)
  refine cald 839 (lI1 144 rfl) rfl rfl ?_
  refine cild2 841 (lI1 145 rfl) rfl rfl ?_
  refine ccst 842 (2) (lI1 146 rfl) rfl (by decide) (fun z841 h841 => ?_)
  refine cadd 843 _ (lI1 147 rfl) rfl rfl (by omega) (by omega) (fun z842 h842 => ?_)
  refine csclE 844 (lI1 148 rfl) rfl (by omega) (by omega) (fun w843 e843 => ?_)
  refine cald 845 (lI1 149 rfl) rfl rfl ?_
  refine cild2 847 (lI1 150 rfl) rfl rfl ?_
  refine ccst 848 (3) (lI1 151 rfl) rfl (by decide) (fun z847 h847 => ?_)
  refine cadd 849 _ (lI1 152 rfl) rfl rfl (by omega) (by omega) (fun z848 h848 => ?_)
  refine csclE 850 (lI1 153 rfl) rfl (by omega) (by omega) (fun w849 e849 => ?_)
  have ew837 : w837 = w812 := by rw [e837, e812, show z836.toInt = z811.toInt by omega]
  subst ew837
  have ew843 : w843 = w818 := by rw [e843, e818, show z842.toInt = z817.toInt by omega]
  subst ew843
  have ew849 : w849 = w824 := by rw [e849, e824, show z848.toInt = z823.toInt by omega]
  subst ew849
  refine ccall (kd := 0) (t := 0) [.ref 66, .int _, .int _, .int _] [] hI826.1 (lI1 154 rfl) (Or.inl ⟨_, rfl, rfl, by decide, by decide⟩) rfl rfl rfl ⟨rfl, rfl, rfl⟩ rfl (recv66 hI826.1 _) rfl (qK (Φ := fun _ hp2 => bHk 84 bTT hp2 ∧ P0 hp2 ∧ bFr wM hp826 hp2 ∧ stS hp2) (fun R hR => k_274E (d := 594) hI826.1 hI826.2.1 r1 (fun z hp2 a1 a2 a3 a4 a5 => hR z hp2 ⟨a1, a2, a3, st_join2 (Q := True) o1 (a5.elim Or.inl (fun ⟨q, e0, e1, e2, _⟩ => Or.inr ⟨e0, (by unfold dvT; rw [e1]; exact e2), trivial⟩)) a3⟩)) (fun r2 hp2 g2 => Or.inl ⟨_, rfl, ?_⟩))
  refine cistU 855 (lI1 155 rfl) rfl rfl rfl ?_
  refine cgoto (lI1 156 rfl) ?_
  exact cmono (hN hp2 ⟨law_rf hI826 g2.1 g2.2.1 g2.2.2.1, g2.2.2.2⟩) (fun y hp9 m9 s9 h9 => ⟨h9.1, by have := h9.2.1; omega, by have := h9.2.2; omega⟩)
theorem cs54J {sc : List Int32} {b : Nat} {i : Int32} {hp : amH} (i0 : 0 ≤ i.toInt) (i1 : i.toInt + 6 ≤ (sc.length : Int)) (hL : sc.length ≤ 100000) (hI : lawJ hp) (hN : ∀ hp1, lawJ hp1 → lV sc b 2256 i hp1) : lV sc (b + 1) 1989 i hp := by
  obtain ⟨⟨V, T, ty⟩, n, h, sv, c, r⟩ := hI.2
  refine cald 1990 (lI4 164 rfl) rfl rfl ?_
  refine cald 1991 (lI4 165 rfl) rfl rfl ?_
  refine cild2 1993 (lI4 166 rfl) rfl rfl ?_
  refine ccst 1994 (1) (lI4 167 rfl) rfl (by decide) (fun z1993 h1993 => ?_)
  refine cadd 1995 _ (lI4 168 rfl) rfl rfl (by omega) (by omega) (fun z1994 h1994 => ?_)
  refine csclE 1996 (lI4 169 rfl) rfl (by omega) (by omega) (fun w1995 e1995 => ?_)
  refine cald 1997 (lI4 170 rfl) rfl rfl ?_
  refine cild2 1999 (lI4 171 rfl) rfl rfl ?_
  refine ccst 2000 (2) (lI4 172 rfl) rfl (by decide) (fun z1999 h1999 => ?_)
  refine cadd 2001 _ (lI4 173 rfl) rfl rfl (by omega) (by omega) (fun z2000 h2000 => ?_)
  refine csclE 2002 (lI4 174 rfl) rfl (by omega) (by omega) (fun w2001 e2001 => ?_)
  refine cald 2003 (lI4 175 rfl) rfl rfl ?_
  refine ccall (kd := 1) (t := 0) [.ref 0, .int _, .int _, .ref 83] [] hI.1.1 (lI4 176 rfl) (Or.inr ⟨_, rfl, rfl, by decide⟩) rfl rfl rfl ⟨rfl, rfl, rfl⟩ rfl rfl rfl (h379J (d := 579) hI.1 c r (fun r2003 hp2003 mc ms hI2003 r1 k1 o1 hmc hms => Or.inl ⟨_, rfl, ?_⟩))
  refine cistU 2008 (lI4 177 rfl) rfl rfl rfl ?_
  refine cald 2009 (lI4 178 rfl) rfl rfl ?_
  refine cald 2010 (lI4 179 rfl) rfl rfl ?_
  refine cild2 2012 (lI4 180 rfl) rfl rfl ?_
  refine ccst 2013 (1) (lI4 181 rfl) rfl (by decide) (fun z2012 h2012 => ?_)
  refine cadd 2014 _ (lI4 182 rfl) rfl rfl (by omega) (by omega) (fun z2013 h2013 => ?_)
  refine csclE 2015 (lI4 183 rfl) rfl (by omega) (by omega) (fun w2014 e2014 => ?_)
  refine cald 2016 (lI4 184 rfl) rfl rfl ?_
  refine cild2 2018 (lI4 185 rfl) rfl rfl ?_
  refine ccst 2019 (2) (lI4 186 rfl) rfl (by decide) (fun z2018 h2018 => ?_)
  refine cadd 2020 _ (lI4 187 rfl) rfl rfl (by omega) (by omega) (fun z2019 h2019 => ?_)
  refine csclE 2021 (lI4 188 rfl) rfl (by omega) (by omega) (fun w2020 e2020 => ?_)
  have ew2014 : w2014 = w1995 := by rw [e2014, e1995, show z2013.toInt = z1994.toInt by omega]
  subst ew2014
  have ew2020 : w2020 = w2001 := by rw [e2020, e2001, show z2019.toInt = z2000.toInt by omega]
  subst ew2020
  refine ccall (kd := 0) (t := 0) [.ref 66, .int _, .int _] [] hI2003.1 (lI4 189 rfl) (Or.inl ⟨_, rfl, rfl, by decide, by decide⟩) rfl rfl rfl ⟨rfl, rfl, rfl⟩ rfl (recv66 hI2003.1 _) rfl (qK (Φ := fun _ hp2 => bHk 84 bTT hp2 ∧ P0 hp2 ∧ bFr wM hp2003 hp2 ∧ stS hp2) (fun R hR => k_279E (d := 595) hI2003.1 hI2003.2.1 r1 (fun z hp2 a1 a2 a3 a4 a5 => hR z hp2 ⟨a1, a2, a3, st_join2 o1 a5 a3⟩)) (fun r2 hp2 g2 => Or.inl ⟨_, rfl, ?_⟩))
  refine cistU 2026 (lI4 190 rfl) rfl rfl rfl ?_
  refine cgoto (lI4 191 rfl) ?_
  exact cmono (hN hp2 ⟨law_rf hI2003 g2.1 g2.2.1 g2.2.2.1, g2.2.2.2⟩) (fun y hp9 m9 s9 h9 => ⟨h9.1, by have := h9.2.1; omega, by have := h9.2.2; omega⟩)
theorem cs55J {sc : List Int32} {b : Nat} {i : Int32} {hp : amH} (i0 : 0 ≤ i.toInt) (i1 : i.toInt + 6 ≤ (sc.length : Int)) (hL : sc.length ≤ 100000) (hI : lawJ hp) (hN : ∀ hp1, lawJ hp1 → lV sc b 2256 i hp1) : lV sc (b + 1) 2029 i hp := by
  obtain ⟨⟨V, T, ty⟩, n, h, sv, c, r⟩ := hI.2
  refine cald 2030 (lI4 192 rfl) rfl rfl ?_
  refine cald 2031 (lI4 193 rfl) rfl rfl ?_
  refine cild2 2033 (lI4 194 rfl) rfl rfl ?_
  refine ccst 2034 (1) (lI4 195 rfl) rfl (by decide) (fun z2033 h2033 => ?_)
  refine cadd 2035 _ (lI4 196 rfl) rfl rfl (by omega) (by omega) (fun z2034 h2034 => ?_)
  refine csclE 2036 (lI4 197 rfl) rfl (by omega) (by omega) (fun w2035 e2035 => ?_)
  refine cald 2037 (lI4 198 rfl) rfl rfl ?_
  refine ccall (kd := 1) (t := 0) [.ref 0, .int _, .ref 83] [] hI.1.1 (lI4 199 rfl) (Or.inr ⟨_, rfl, rfl, by decide⟩) rfl rfl rfl ⟨rfl, rfl, rfl⟩ rfl rfl rfl (h380J (d := 579) hI.1 c r (fun r2037 hp2037 mc ms hI2037 r1 k1 o1 hmc hms => Or.inl ⟨_, rfl, ?_⟩))
  refine cistU 2042 (lI4 200 rfl) rfl rfl rfl ?_
  refine cald 2043 (lI4 201 rfl) rfl rfl ?_
  refine cald 2044 (lI4 202 rfl) rfl rfl ?_
  refine cild2 2046 (lI4 203 rfl) rfl rfl ?_
  refine ccst 2047 (1) (lI4 204 rfl) rfl (by decide) (fun z2046 h2046 => ?_)
  refine cadd 2048 _ (lI4 205 rfl) rfl rfl (by omega) (by omega) (fun z2047 h2047 => ?_)
  refine csclE 2049 (lI4 206 rfl) rfl (by omega) (by omega) (fun w2048 e2048 => ?_)
  have ew2048 : w2048 = w2035 := by rw [e2048, e2035, show z2047.toInt = z2034.toInt by omega]
  subst ew2048
  rw [clear_eq c.1.2.1] at o1
  refine ccall (kd := 0) (t := 0) [.ref 66, .int _] [] hI2037.1 (lI4 207 rfl) (Or.inl ⟨_, rfl, rfl, by decide, by decide⟩) rfl rfl rfl ⟨rfl, rfl, rfl⟩ rfl (recv66 hI2037.1 _) rfl (qK (Φ := fun _ hp2 => bHk 84 bTT hp2 ∧ P0 hp2 ∧ bFr wM hp2037 hp2 ∧ stS hp2) (fun R hR => k_278E (d := 596) hI2037.1 hI2037.2.1 r1 (fun z hp2 a1 a2 a3 a4 a5 => hR z hp2 ⟨a1, a2, a3, st_join2 o1 a5 a3⟩)) (fun r2 hp2 g2 => Or.inl ⟨_, rfl, ?_⟩))
  refine cistU 2054 (lI4 208 rfl) rfl rfl rfl ?_
  refine cgoto (lI4 209 rfl) ?_
  exact cmono (hN hp2 ⟨law_rf hI2037 g2.1 g2.2.1 g2.2.2.1, g2.2.2.2⟩) (fun y hp9 m9 s9 h9 => ⟨h9.1, by have := h9.2.1; omega, by have := h9.2.2; omega⟩)
theorem cs62J {sc : List Int32} {b : Nat} {i : Int32} {hp : amH} (i0 : 0 ≤ i.toInt) (i1 : i.toInt + 6 ≤ (sc.length : Int)) (hL : sc.length ≤ 100000) (hI : lawJ hp) (hN : ∀ hp1, lawJ hp1 → lV sc b 2256 i hp1) : lV sc (b + 1) 2240 i hp := by
  obtain ⟨⟨V, T, ty⟩, n, h, sv, c, r⟩ := hI.2
  refine cald 2241 (lI5 85 rfl) rfl rfl ?_
  refine cald 2242 (lI5 86 rfl) rfl rfl ?_
  refine ccall (kd := 1) (t := 0) [.ref 0, .ref 83] [] hI.1.1 (lI5 87 rfl) (Or.inr ⟨_, rfl, rfl, by decide⟩) rfl rfl rfl ⟨rfl, rfl, rfl⟩ rfl rfl rfl (h384J (d := 579) hI.1 c r (fun r2242 hp2242 mc ms hI2242 r1 k1 o1 hmc hms => Or.inl ⟨_, rfl, ?_⟩))
  refine cistU 2247 (lI5 88 rfl) rfl rfl rfl ?_
  refine cald 2248 (lI5 89 rfl) rfl rfl ?_
  refine ccall (kd := 0) (t := 0) [.ref 66] [] hI2242.1 (lI5 90 rfl) (Or.inl ⟨_, rfl, rfl, by decide, by decide⟩) rfl rfl rfl ⟨rfl, rfl, rfl⟩ rfl (recv66 hI2242.1 _) rfl (qK (Φ := fun _ hp2 => bHk 84 bTT hp2 ∧ P0 hp2 ∧ bFr wM hp2242 hp2 ∧ stS hp2) (fun R hR => k_341E (d := 596) hI2242.1 hI2242.2.1 r1.1 r1.2 (fun z hp2 a1 a2 a3 a4 => hR z hp2 ⟨a1, a2, a3, st_join2 (Q := True) o1 (a4.elim (fun ⟨e, _, u, v⟩ => Or.inl ⟨by rw [e]; decide, u, by rw [e]; exact v⟩) (fun ⟨q, e, _, u, v, _⟩ => Or.inr ⟨by rw [e]; rfl, ⟨by rw [e]; exact u, by rw [e]; exact v⟩, trivial⟩)) a3⟩)) (fun r2 hp2 g2 => Or.inl ⟨_, rfl, ?_⟩))
  refine cistU 2253 (lI5 91 rfl) rfl rfl rfl ?_
  refine cgoto (lI5 92 rfl) ?_
  exact cmono (hN hp2 ⟨law_rf hI2242 g2.1 g2.2.1 g2.2.2.1, g2.2.2.2⟩) (fun y hp9 m9 s9 h9 => ⟨h9.1, by have := h9.2.1; omega, by have := h9.2.2; omega⟩)
theorem cs13J {sc : List Int32} {b : Nat} {i : Int32} {hp : amH} (i0 : 0 ≤ i.toInt) (i1 : i.toInt + 6 ≤ (sc.length : Int)) (hL : sc.length ≤ 100000) (hI : lawJ hp) (hN : ∀ hp1, lawJ hp1 → lV sc b 2256 i hp1) : lV sc (b + 1) 726 i hp := by
  obtain ⟨⟨V, T, ty⟩, n, h, sv, c, r⟩ := hI.2
  refine cald 727 (lI1 63 rfl) rfl rfl ?_
  refine cald 728 (lI1 64 rfl) rfl rfl ?_
  refine cild2 730 (lI1 65 rfl) rfl rfl ?_
  refine ccst 731 (1) (lI1 66 rfl) rfl (by decide) (fun z730 h730 => ?_)
  refine cadd 732 _ (lI1 67 rfl) rfl rfl (by omega) (by omega) (fun z731 h731 => ?_)
  refine csclE 733 (lI1 68 rfl) rfl (by omega) (by omega) (fun w732 e732 => ?_)
  refine cald 734 (lI1 69 rfl) rfl rfl ?_
  refine cild2 736 (lI1 70 rfl) rfl rfl ?_
  refine ccst 737 (2) (lI1 71 rfl) rfl (by decide) (fun z736 h736 => ?_)
  refine cadd 738 _ (lI1 72 rfl) rfl rfl (by omega) (by omega) (fun z737 h737 => ?_)
  refine csclE 739 (lI1 73 rfl) rfl (by omega) (by omega) (fun w738 e738 => ?_)
  refine cald 740 (lI1 74 rfl) rfl rfl ?_
  refine cild2 742 (lI1 75 rfl) rfl rfl ?_
  refine ccst 743 (3) (lI1 76 rfl) rfl (by decide) (fun z742 h742 => ?_)
  refine cadd 744 _ (lI1 77 rfl) rfl rfl (by omega) (by omega) (fun z743 h743 => ?_)
  refine csclE 745 (lI1 78 rfl) rfl (by omega) (by omega) (fun w744 e744 => ?_)
  refine cald 746 (lI1 79 rfl) rfl rfl ?_
  refine ccall (kd := 1) (t := 0) [.ref 0, .int _, .int _, .int _, .ref 83] [] hI.1.1 (lI1 80 rfl) (Or.inr ⟨_, rfl, rfl, by decide⟩) rfl rfl rfl ⟨rfl, rfl, rfl⟩ rfl rfl rfl (h355J (d := 579) hI.1 c r (fun r746 hp746 mc ms hI746 r1 k1 o1 hmc hms => Or.inl ⟨_, rfl, ?_⟩))
  refine cistU 751 (lI1 81 rfl) rfl rfl rfl ?_
  refine cald 752 (lI1 82 rfl) rfl rfl ?_
  refine cald 753 (lI1 83 rfl) rfl rfl ?_
  refine cild2 755 (lI1 84 rfl) rfl rfl ?_
  refine ccst 756 (1) (lI1 85 rfl) rfl (by decide) (fun z755 h755 => ?_)
  refine cadd 757 _ (lI1 86 rfl) rfl rfl (by omega) (by omega) (fun z756 h756 => ?_)
  refine csclE 758 (lI1 87 rfl) rfl (by omega) (by omega) (fun w757 e757 => ?_)
  refine cald 759 (lI1 88 rfl) rfl rfl ?_
  refine cild2 761 (lI1 89 rfl) rfl rfl ?_
  refine ccst 762 (2) (lI1 90 rfl) rfl (by decide) (fun z761 h761 => ?_)
  refine cadd 763 _ (lI1 91 rfl) rfl rfl (by omega) (by omega) (fun z762 h762 => ?_)
  refine csclE 764 (lI1 92 rfl) rfl (by omega) (by omega) (fun w763 e763 => ?_)
  refine cald 765 (lI1 93 rfl) rfl rfl ?_
  refine cild2 767 (lI1 94 rfl) rfl rfl ?_
  refine ccst 768 (3) (lI1 95 rfl) rfl (by decide) (fun z767 h767 => ?_)
  refine cadd 769 _ (lI1 96 rfl) rfl rfl (by omega) (by omega) (fun z768 h768 => ?_)
  refine csclE 770 (lI1 97 rfl) rfl (by omega) (by omega) (fun w769 e769 => ?_)
  have ew757 : w757 = w732 := by rw [e757, e732, show z756.toInt = z731.toInt by omega]
  subst ew757
  have ew763 : w763 = w738 := by rw [e763, e738, show z762.toInt = z737.toInt by omega]
  subst ew763
  have ew769 : w769 = w744 := by rw [e769, e744, show z768.toInt = z743.toInt by omega]
  subst ew769
  refine ccall (kd := 0) (t := 0) [.ref 66, .int _, .int _, .int _] [] hI746.1 (lI1 98 rfl) (Or.inl ⟨_, rfl, rfl, by decide, by decide⟩) rfl rfl rfl ⟨rfl, rfl, rfl⟩ rfl (recv66 hI746.1 _) rfl (qK (Φ := fun _ hp2 => bHk 84 bTT hp2 ∧ P0 hp2 ∧ bFr wM hp746 hp2 ∧ stS hp2) (fun R hR => k_272E (d := 595) hI746.1 hI746.2.1 r1 (fun z hp2 a1 a2 a3 a4 a5 => hR z hp2 ⟨a1, a2, a3, st_join2 o1 a5 a3⟩)) (fun r2 hp2 g2 => Or.inl ⟨_, rfl, ?_⟩))
  refine cistU 775 (lI1 99 rfl) rfl rfl rfl ?_
  refine cgoto (lI1 100 rfl) ?_
  exact cmono (hN hp2 ⟨law_rf hI746 g2.1 g2.2.1 g2.2.2.1, g2.2.2.2⟩) (fun y hp9 m9 s9 h9 => ⟨h9.1, by have := h9.2.1; omega, by have := h9.2.2; omega⟩)
/-! ===== the law's cases (h) ===== -/
theorem cs14J {sc : List Int32} {b : Nat} {i : Int32} {hp : amH} (i0 : 0 ≤ i.toInt) (i1 : i.toInt + 6 ≤ (sc.length : Int)) (hL : sc.length ≤ 100000) (hI : lawJ hp) (hN : ∀ hp1, lawJ hp1 → lV sc b 2256 i hp1) : lV sc (b + 1) 778 i hp := by
  obtain ⟨⟨V, T, ty⟩, n, h, sv, c, r⟩ := hI.2
  refine cald 779 (lI1 101 rfl) rfl rfl ?_
  refine cald 780 (lI1 102 rfl) rfl rfl ?_
  refine cild2 782 (lI1 103 rfl) rfl rfl ?_
  refine ccst 783 (1) (lI1 104 rfl) rfl (by decide) (fun z782 h782 => ?_)
  refine cadd 784 _ (lI1 105 rfl) rfl rfl (by omega) (by omega) (fun z783 h783 => ?_)
  refine csclE 785 (lI1 106 rfl) rfl (by omega) (by omega) (fun w784 e784 => ?_)
  refine cald 786 (lI1 107 rfl) rfl rfl ?_
  refine ccall (kd := 1) (t := 0) [.ref 0, .int _, .ref 83] [] hI.1.1 (lI1 108 rfl) (Or.inr ⟨_, rfl, rfl, by decide⟩) rfl rfl rfl ⟨rfl, rfl, rfl⟩ rfl rfl rfl (h356J (d := 579) hI.1 c r (fun r786 hp786 mc ms hI786 r1 k1 o1 hmc hms => Or.inl ⟨_, rfl, ?_⟩))
  refine cistU 791 (lI1 109 rfl) rfl rfl rfl ?_
  refine cald 792 (lI1 110 rfl) rfl rfl ?_
  refine cald 793 (lI1 111 rfl) rfl rfl ?_
  refine cild2 795 (lI1 112 rfl) rfl rfl ?_
  refine ccst 796 (1) (lI1 113 rfl) rfl (by decide) (fun z795 h795 => ?_)
  refine cadd 797 _ (lI1 114 rfl) rfl rfl (by omega) (by omega) (fun z796 h796 => ?_)
  refine csclE 798 (lI1 115 rfl) rfl (by omega) (by omega) (fun w797 e797 => ?_)
  have ew797 : w797 = w784 := by rw [e797, e784, show z796.toInt = z783.toInt by omega]
  subst ew797
  refine ccall (kd := 0) (t := 0) [.ref 66, .int _] [] hI786.1 (lI1 116 rfl) (Or.inl ⟨_, rfl, rfl, by decide, by decide⟩) rfl rfl rfl ⟨rfl, rfl, rfl⟩ rfl (recv66 hI786.1 _) rfl (qK (Φ := fun _ hp2 => bHk 84 bTT hp2 ∧ P0 hp2 ∧ bFr wM hp786 hp2 ∧ stS hp2) (fun R hR => k_273E (d := 596) hI786.1 hI786.2.1 r1 (fun z hp2 a1 a2 a3 a4 a5 => hR z hp2 ⟨a1, a2, a3, st_join2 o1 a5 a3⟩)) (fun r2 hp2 g2 => Or.inl ⟨_, rfl, ?_⟩))
  refine cistU 803 (lI1 117 rfl) rfl rfl rfl ?_
  refine cgoto (lI1 118 rfl) ?_
  exact cmono (hN hp2 ⟨law_rf hI786 g2.1 g2.2.1 g2.2.2.1, g2.2.2.2⟩) (fun y hp9 m9 s9 h9 => ⟨h9.1, by have := h9.2.1; omega, by have := h9.2.2; omega⟩)
theorem cs23J {sc : List Int32} {b : Nat} {i : Int32} {hp : amH} (i0 : 0 ≤ i.toInt) (i1 : i.toInt + 6 ≤ (sc.length : Int)) (hL : sc.length ≤ 100000) (hI : lawJ hp) (hN : ∀ hp1, lawJ hp1 → lV sc b 2256 i hp1) : lV sc (b + 1) 1033 i hp := by
  obtain ⟨⟨V, T, ty⟩, n, h, sv, c, r⟩ := hI.2
  refine cald 1034 (lI2 20 rfl) rfl rfl ?_
  refine cald 1035 (lI2 21 rfl) rfl rfl ?_
  refine cild2 1037 (lI2 22 rfl) rfl rfl ?_
  refine ccst 1038 (1) (lI2 23 rfl) rfl (by decide) (fun z1037 h1037 => ?_)
  refine cadd 1039 _ (lI2 24 rfl) rfl rfl (by omega) (by omega) (fun z1038 h1038 => ?_)
  refine csclE 1040 (lI2 25 rfl) rfl (by omega) (by omega) (fun w1039 e1039 => ?_)
  refine cald 1041 (lI2 26 rfl) rfl rfl ?_
  refine ccall (kd := 1) (t := 0) [.ref 0, .int _, .ref 83] [] hI.1.1 (lI2 27 rfl) (Or.inr ⟨_, rfl, rfl, by decide⟩) rfl rfl rfl ⟨rfl, rfl, rfl⟩ rfl rfl rfl (h362J (d := 579) hI.1 c r (fun r1041 hp1041 mc ms hI1041 r1 k1 o1 hmc hms => Or.inl ⟨_, rfl, ?_⟩))
  refine cistU 1046 (lI2 28 rfl) rfl rfl rfl ?_
  refine cald 1047 (lI2 29 rfl) rfl rfl ?_
  refine cald 1048 (lI2 30 rfl) rfl rfl ?_
  refine cild2 1050 (lI2 31 rfl) rfl rfl ?_
  refine ccst 1051 (1) (lI2 32 rfl) rfl (by decide) (fun z1050 h1050 => ?_)
  refine cadd 1052 _ (lI2 33 rfl) rfl rfl (by omega) (by omega) (fun z1051 h1051 => ?_)
  refine csclE 1053 (lI2 34 rfl) rfl (by omega) (by omega) (fun w1052 e1052 => ?_)
  have ew1052 : w1052 = w1039 := by rw [e1052, e1039, show z1051.toInt = z1038.toInt by omega]
  subst ew1052
  refine ccall (kd := 0) (t := 0) [.ref 66, .int _] [] hI1041.1 (lI2 35 rfl) (Or.inl ⟨_, rfl, rfl, by decide, by decide⟩) rfl rfl rfl ⟨rfl, rfl, rfl⟩ rfl (recv66 hI1041.1 _) rfl (qK (Φ := fun _ hp2 => bHk 84 bTT hp2 ∧ P0 hp2 ∧ bFr wM hp1041 hp2 ∧ stS hp2) (fun R hR => k_292E (d := 593) hI1041.1 hI1041.2.1 r1 (fun z hp2 a1 a2 a3 a4 a5 => hR z hp2 ⟨a1, a2, a3, st_join2 o1 a5 a3⟩)) (fun r2 hp2 g2 => Or.inl ⟨_, rfl, ?_⟩))
  refine cistU 1058 (lI2 36 rfl) rfl rfl rfl ?_
  refine cgoto (lI2 37 rfl) ?_
  exact cmono (hN hp2 ⟨law_rf hI1041 g2.1 g2.2.1 g2.2.2.1, g2.2.2.2⟩) (fun y hp9 m9 s9 h9 => ⟨h9.1, by have := h9.2.1; omega, by have := h9.2.2; omega⟩)
theorem cs26J {sc : List Int32} {b : Nat} {i : Int32} {hp : amH} (i0 : 0 ≤ i.toInt) (i1 : i.toInt + 6 ≤ (sc.length : Int)) (hL : sc.length ≤ 100000) (hI : lawJ hp) (hN : ∀ hp1, lawJ hp1 → lV sc b 2256 i hp1) : lV sc (b + 1) 1130 i hp := by
  obtain ⟨⟨V, T, ty⟩, n, h, sv, c, r⟩ := hI.2
  refine cald 1131 (lI2 81 rfl) rfl rfl ?_
  refine cald 1132 (lI2 82 rfl) rfl rfl ?_
  refine cild2 1134 (lI2 83 rfl) rfl rfl ?_
  refine ccst 1135 (1) (lI2 84 rfl) rfl (by decide) (fun z1134 h1134 => ?_)
  refine cadd 1136 _ (lI2 85 rfl) rfl rfl (by omega) (by omega) (fun z1135 h1135 => ?_)
  refine csclE 1137 (lI2 86 rfl) rfl (by omega) (by omega) (fun w1136 e1136 => ?_)
  refine cald 1138 (lI2 87 rfl) rfl rfl ?_
  refine ccall (kd := 1) (t := 0) [.ref 0, .int _, .ref 83] [] hI.1.1 (lI2 88 rfl) (Or.inr ⟨_, rfl, rfl, by decide⟩) rfl rfl rfl ⟨rfl, rfl, rfl⟩ rfl rfl rfl (h364J (d := 579) hI.1 c r (fun r1138 hp1138 mc ms hI1138 r1 k1 o1 hmc hms => Or.inl ⟨_, rfl, ?_⟩))
  refine cistU 1143 (lI2 89 rfl) rfl rfl rfl ?_
  refine cald 1144 (lI2 90 rfl) rfl rfl ?_
  refine cald 1145 (lI2 91 rfl) rfl rfl ?_
  refine cild2 1147 (lI2 92 rfl) rfl rfl ?_
  refine ccst 1148 (1) (lI2 93 rfl) rfl (by decide) (fun z1147 h1147 => ?_)
  refine cadd 1149 _ (lI2 94 rfl) rfl rfl (by omega) (by omega) (fun z1148 h1148 => ?_)
  refine csclE 1150 (lI2 95 rfl) rfl (by omega) (by omega) (fun w1149 e1149 => ?_)
  have ew1149 : w1149 = w1136 := by rw [e1149, e1136, show z1148.toInt = z1135.toInt by omega]
  subst ew1149
  refine ccall (kd := 0) (t := 0) [.ref 66, .int _] [] hI1138.1 (lI2 96 rfl) (Or.inl ⟨_, rfl, rfl, by decide, by decide⟩) rfl rfl rfl ⟨rfl, rfl, rfl⟩ rfl (recv66 hI1138.1 _) rfl (qK (Φ := fun _ hp2 => bHk 84 bTT hp2 ∧ P0 hp2 ∧ bFr wM hp1138 hp2 ∧ stS hp2) (fun R hR => k_295E (d := 593) hI1138.1 hI1138.2.1 r1 (fun z hp2 a1 a2 a3 a4 a5 => hR z hp2 ⟨a1, a2, a3, st_join2 o1 a5 a3⟩)) (fun r2 hp2 g2 => Or.inl ⟨_, rfl, ?_⟩))
  refine cistU 1155 (lI2 97 rfl) rfl rfl rfl ?_
  refine cgoto (lI2 98 rfl) ?_
  exact cmono (hN hp2 ⟨law_rf hI1138 g2.1 g2.2.1 g2.2.2.1, g2.2.2.2⟩) (fun y hp9 m9 s9 h9 => ⟨h9.1, by have := h9.2.1; omega, by have := h9.2.2; omega⟩)
theorem cs30J {sc : List Int32} {b : Nat} {i : Int32} {hp : amH} (i0 : 0 ≤ i.toInt) (i1 : i.toInt + 6 ≤ (sc.length : Int)) (hL : sc.length ≤ 100000) (hI : lawJ hp) (hN : ∀ hp1, lawJ hp1 → lV sc b 2256 i hp1) : lV sc (b + 1) 1314 i hp := by
  obtain ⟨⟨V, T, ty⟩, n, h, sv, c, r⟩ := hI.2
  refine cald 1315 (lI2 213 rfl) rfl rfl ?_
  refine cald 1316 (lI2 214 rfl) rfl rfl ?_
  refine cild2 1318 (lI2 215 rfl) rfl rfl ?_
  refine ccst 1319 (1) (lI2 216 rfl) rfl (by decide) (fun z1318 h1318 => ?_)
  refine cadd 1320 _ (lI2 217 rfl) rfl rfl (by omega) (by omega) (fun z1319 h1319 => ?_)
  refine csclE 1321 (lI2 218 rfl) rfl (by omega) (by omega) (fun w1320 e1320 => ?_)
  refine cald 1322 (lI2 219 rfl) rfl rfl ?_
  refine cild2 1324 (lI2 220 rfl) rfl rfl ?_
  refine ccst 1325 (2) (lI2 221 rfl) rfl (by decide) (fun z1324 h1324 => ?_)
  refine cadd 1326 _ (lI2 222 rfl) rfl rfl (by omega) (by omega) (fun z1325 h1325 => ?_)
  refine csclE 1327 (lI2 223 rfl) rfl (by omega) (by omega) (fun w1326 e1326 => ?_)
  refine cald 1328 (lI2 224 rfl) rfl rfl ?_
  refine cild2 1330 (lI2 225 rfl) rfl rfl ?_
  refine ccst 1331 (3) (lI2 226 rfl) rfl (by decide) (fun z1330 h1330 => ?_)
  refine cadd 1332 _ (lI2 227 rfl) rfl rfl (by omega) (by omega) (fun z1331 h1331 => ?_)
  refine csclE 1333 (lI2 228 rfl) rfl (by omega) (by omega) (fun w1332 e1332 => ?_)
  refine cald 1334 (lI2 229 rfl) rfl rfl ?_
  refine ccall (kd := 1) (t := 0) [.ref 0, .int _, .int _, .int _, .ref 83] [] hI.1.1 (lI2 230 rfl) (Or.inr ⟨_, rfl, rfl, by decide⟩) rfl rfl rfl ⟨rfl, rfl, rfl⟩ rfl rfl rfl (h368J (d := 579) hI.1 c r (fun r1334 hp1334 mc ms hI1334 r1 k1 o1 hmc hms => Or.inl ⟨_, rfl, ?_⟩))
  refine cistU 1339 (lI2 231 rfl) rfl rfl rfl ?_
  refine cald 1340 (lI2 232 rfl) rfl rfl ?_
  refine cald 1341 (lI2 233 rfl) rfl rfl ?_
  refine cild2 1343 (lI2 234 rfl) rfl rfl ?_
  refine ccst 1344 (1) (lI2 235 rfl) rfl (by decide) (fun z1343 h1343 => ?_)
  refine cadd 1345 _ (lI2 236 rfl) rfl rfl (by omega) (by omega) (fun z1344 h1344 => ?_)
  refine csclE 1346 (lI2 237 rfl) rfl (by omega) (by omega) (fun w1345 e1345 => ?_)
  refine cald 1347 (lI2 238 rfl) rfl rfl ?_
  refine cild2 1349 (lI2 239 rfl) rfl rfl ?_
  refine ccst 1350 (2) (lI2 240 rfl) rfl (by decide) (fun z1349 h1349 => ?_)
  refine cadd 1351 _ (lI2 241 rfl) rfl rfl (by omega) (by omega) (fun z1350 h1350 => ?_)
  refine csclE 1352 (lI2 242 rfl) rfl (by omega) (by omega) (fun w1351 e1351 => ?_)
  refine cald 1353 (lI2 243 rfl) rfl rfl ?_
  refine cild2 1355 (lI2 244 rfl) rfl rfl ?_
  refine ccst 1356 (3) (lI2 245 rfl) rfl (by decide) (fun z1355 h1355 => ?_)
  refine cadd 1357 _ (lI2 246 rfl) rfl rfl (by omega) (by omega) (fun z1356 h1356 => ?_)
  refine csclE 1358 (lI2 247 rfl) rfl (by omega) (by omega) (fun w1357 e1357 => ?_)
  have ew1345 : w1345 = w1320 := by rw [e1345, e1320, show z1344.toInt = z1319.toInt by omega]
  subst ew1345
  have ew1351 : w1351 = w1326 := by rw [e1351, e1326, show z1350.toInt = z1325.toInt by omega]
  subst ew1351
  have ew1357 : w1357 = w1332 := by rw [e1357, e1332, show z1356.toInt = z1331.toInt by omega]
  subst ew1357
  refine ccall (kd := 0) (t := 0) [.ref 66, .int _, .int _, .int _] [] hI1334.1 (lI2 248 rfl) (Or.inl ⟨_, rfl, rfl, by decide, by decide⟩) rfl rfl rfl ⟨rfl, rfl, rfl⟩ rfl (recv66 hI1334.1 _) rfl (qK (Φ := fun _ hp2 => bHk 84 bTT hp2 ∧ P0 hp2 ∧ bFr wM hp1334 hp2 ∧ stS hp2) (fun R hR => k_300E (d := 594) hI1334.1 hI1334.2.1 r1 (fun z hp2 a1 a2 a3 a4 a5 => hR z hp2 ⟨a1, a2, a3, st_join2 o1 a5 a3⟩)) (fun r2 hp2 g2 => Or.inl ⟨_, rfl, ?_⟩))
  refine cistU 1363 (lI2 249 rfl) rfl rfl rfl ?_
  refine cgoto (lI3 0 rfl) ?_
  exact cmono (hN hp2 ⟨law_rf hI1334 g2.1 g2.2.1 g2.2.2.1, g2.2.2.2⟩) (fun y hp9 m9 s9 h9 => ⟨h9.1, by have := h9.2.1; omega, by have := h9.2.2; omega⟩)
