/-! ===== the law's mutators, one state kept ===== -/
theorem csclE {l : List Int32} {M : amM} {pc a b d : Nat} {L : List (Option Value)} {st : List Value} {hp : amH} {Q : cQ} (q : Nat) {x : Int32} (h : xI M pc .iaload a b) (e : q = pc + 1) (h0 : 0 ≤ x.toInt) (h1 : x.toInt < (l.length : Int)) (hw : ∀ z : Int32, z = l.getD x.toInt.toNat 0 → cV (some l) d M q L (.int z :: st) hp Q) : cV (some l) d M pc L (.int x :: .ref amS :: st) hp Q := by
  have e2 := rw_in (i := x) (n := x.toInt.toNat) (m := l.length) (by omega) (by omega)
  refine cstep h (fun cl hl => ⟨cl, ?_, hl⟩) (hw (l.getD x.toNatClampNeg 0) (by rw [e2.1]))
  subst e
  simp only [amDo, amStep, amSc]
  rw [if_pos ⟨trivial, e2.2⟩]
  rfl
theorem st_join2 {g : Int} {hp1 hp2 : amH} {q q1 : sR} {n n1 : Nat} {h h1 : Nat → sR} {sv sv1 : Option sR} {P Q : Prop} (c : (¬ g = 0 ∧ clS hp1 q n h sv) ∨ (g = 0 ∧ clS hp1 q1 n1 h1 sv1 ∧ P)) (r : (¬ g = 0 ∧ rfS hp2 q n h sv) ∨ (g = 0 ∧ rfS hp2 q1 n1 h1 sv1 ∧ Q)) (F : bFr wM hp1 hp2) : stS hp2 :=
  st_join (g := g) (c.elim (fun z => Or.inr z) (fun z => Or.inl ⟨z.1, z.2.1⟩)) (r.elim (fun z => Or.inr z) (fun z => Or.inl ⟨z.1, z.2.1⟩)) F
theorem cs57J {sc : List Int32} {b : Nat} {i : Int32} {hp : amH} (i0 : 0 ≤ i.toInt) (i1 : i.toInt + 6 ≤ (sc.length : Int)) (hL : sc.length ≤ 100000) (hI : lawJ hp) (hN : ∀ hp1, lawJ hp1 → lV sc b 2284 i hp1) : lV sc (b + 1) 2137 i hp := by
  obtain ⟨⟨V, T, ty⟩, n, h, sv, c, r⟩ := hI.2
  refine cald 2138 (lI5 15 rfl) rfl rfl ?_
  refine cald 2139 (lI5 16 rfl) rfl rfl ?_
  refine cild2 2141 (lI5 17 rfl) rfl rfl ?_
  refine ccst 2142 (1) (lI5 18 rfl) rfl (by decide) (fun z2141 h2141 => ?_)
  refine cadd 2143 _ (lI5 19 rfl) rfl rfl (by omega) (by omega) (fun z2142 h2142 => ?_)
  refine csclE 2144 (lI5 20 rfl) rfl (by omega) (by omega) (fun w2143 e2143 => ?_)
  refine cald 2145 (lI5 21 rfl) rfl rfl ?_
  refine cild2 2147 (lI5 22 rfl) rfl rfl ?_
  refine ccst 2148 (2) (lI5 23 rfl) rfl (by decide) (fun z2147 h2147 => ?_)
  refine cadd 2149 _ (lI5 24 rfl) rfl rfl (by omega) (by omega) (fun z2148 h2148 => ?_)
  refine csclE 2150 (lI5 25 rfl) rfl (by omega) (by omega) (fun w2149 e2149 => ?_)
  refine cald 2151 (lI5 26 rfl) rfl rfl ?_
  refine cild2 2153 (lI5 27 rfl) rfl rfl ?_
  refine ccst 2154 (3) (lI5 28 rfl) rfl (by decide) (fun z2153 h2153 => ?_)
  refine cadd 2155 _ (lI5 29 rfl) rfl rfl (by omega) (by omega) (fun z2154 h2154 => ?_)
  refine csclE 2156 (lI5 30 rfl) rfl (by omega) (by omega) (fun w2155 e2155 => ?_)
  refine cald 2157 (lI5 31 rfl) rfl rfl ?_
  refine ccall (kd := 1) (t := 0) [.ref 0, .int _, .int _, .int _, .ref 83] [] hI.1.1 (lI5 32 rfl) (Or.inr ⟨_, rfl, rfl, by decide⟩) rfl rfl rfl ⟨rfl, rfl, rfl⟩ rfl rfl rfl (h382J (d := 579) hI.1 c r (fun r2157 hp2157 mc ms hI2157 r1 k1 o1 hmc hms => Or.inl ⟨_, rfl, ?_⟩))
  refine cistU 2162 (lI5 33 rfl) rfl rfl rfl ?_
  refine cald 2163 (lI5 34 rfl) rfl rfl ?_
  refine cald 2164 (lI5 35 rfl) rfl rfl ?_
  refine cild2 2166 (lI5 36 rfl) rfl rfl ?_
  refine ccst 2167 (1) (lI5 37 rfl) rfl (by decide) (fun z2166 h2166 => ?_)
  refine cadd 2168 _ (lI5 38 rfl) rfl rfl (by omega) (by omega) (fun z2167 h2167 => ?_)
  refine csclE 2169 (lI5 39 rfl) rfl (by omega) (by omega) (fun w2168 e2168 => ?_)
  refine cald 2170 (lI5 40 rfl) rfl rfl ?_
  refine cild2 2172 (lI5 41 rfl) rfl rfl ?_
  refine ccst 2173 (2) (lI5 42 rfl) rfl (by decide) (fun z2172 h2172 => ?_)
  refine cadd 2174 _ (lI5 43 rfl) rfl rfl (by omega) (by omega) (fun z2173 h2173 => ?_)
  refine csclE 2175 (lI5 44 rfl) rfl (by omega) (by omega) (fun w2174 e2174 => ?_)
  refine cald 2176 (lI5 45 rfl) rfl rfl ?_
  refine cild2 2178 (lI5 46 rfl) rfl rfl ?_
  refine ccst 2179 (3) (lI5 47 rfl) rfl (by decide) (fun z2178 h2178 => ?_)
  refine cadd 2180 _ (lI5 48 rfl) rfl rfl (by omega) (by omega) (fun z2179 h2179 => ?_)
  refine csclE 2181 (lI5 49 rfl) rfl (by omega) (by omega) (fun w2180 e2180 => ?_)
  have ew2168 : w2168 = w2143 := by rw [e2168, e2143, show z2167.toInt = z2142.toInt by omega]
  subst ew2168
  have ew2174 : w2174 = w2149 := by rw [e2174, e2149, show z2173.toInt = z2148.toInt by omega]
  subst ew2174
  have ew2180 : w2180 = w2155 := by rw [e2180, e2155, show z2179.toInt = z2154.toInt by omega]
  subst ew2180
  refine ccall (kd := 0) (t := 0) [.ref 66, .int _, .int _, .int _] [] hI2157.1 (lI5 50 rfl) (Or.inl ⟨_, rfl, rfl, by decide, by decide⟩) rfl rfl rfl ⟨rfl, rfl, rfl⟩ rfl (recv66 hI2157.1 _) rfl (qK (Φ := fun _ hp2 => bHk 84 bTT hp2 ∧ P0 hp2 ∧ bFr wM hp2157 hp2 ∧ stS hp2) (fun R hR => k_276E (d := 595) hI2157.1 hI2157.2.1 r1 (fun z hp2 a1 a2 a3 a4 a5 => hR z hp2 ⟨a1, a2, a3, st_join2 (Q := True) o1 (a5.elim Or.inl (fun ⟨e0, e1, _⟩ => Or.inr ⟨e0, (by
    have gs := Classical.byContradiction (fun z => z ((fCd_1 z).symm.trans e0))
    have k := gSet_0.mp gs
    unfold fcT
    rw [force_eq c.1.2.1 (by omega) (by omega) (by omega)]
    exact e1), trivial⟩)) a3⟩)) (fun r2 hp2 g2 => Or.inl ⟨_, rfl, ?_⟩))
  refine cistU 2186 (lI5 51 rfl) rfl rfl rfl ?_
  refine cgoto (lI5 52 rfl) ?_
  exact cmono (hN hp2 ⟨law_rf hI2157 g2.1 g2.2.1 g2.2.2.1, g2.2.2.2⟩) (fun y hp9 m9 s9 h9 => ⟨h9.1, by have := h9.2.1; omega, by have := h9.2.2; omega⟩)
theorem cs15J {sc : List Int32} {b : Nat} {i : Int32} {hp : amH} (i0 : 0 ≤ i.toInt) (i1 : i.toInt + 6 ≤ (sc.length : Int)) (hL : sc.length ≤ 100000) (hI : lawJ hp) (hN : ∀ hp1, lawJ hp1 → lV sc b 2284 i hp1) : lV sc (b + 1) 834 i hp := by
  obtain ⟨⟨V, T, ty⟩, n, h, sv, c, r⟩ := hI.2
  refine cald 835 (lI1 136 rfl) rfl rfl ?_
  refine cald 836 (lI1 137 rfl) rfl rfl ?_
  refine cild2 838 (lI1 138 rfl) rfl rfl ?_
  refine ccst 839 (1) (lI1 139 rfl) rfl (by decide) (fun z838 h838 => ?_)
  refine cadd 840 _ (lI1 140 rfl) rfl rfl (by omega) (by omega) (fun z839 h839 => ?_)
  refine csclE 841 (lI1 141 rfl) rfl (by omega) (by omega) (fun w840 e840 => ?_)
  refine cald 842 (lI1 142 rfl) rfl rfl ?_
  refine cild2 844 (lI1 143 rfl) rfl rfl ?_
  refine ccst 845 (2) (lI1 144 rfl) rfl (by decide) (fun z844 h844 => ?_)
  refine cadd 846 _ (lI1 145 rfl) rfl rfl (by omega) (by omega) (fun z845 h845 => ?_)
  refine csclE 847 (lI1 146 rfl) rfl (by omega) (by omega) (fun w846 e846 => ?_)
  refine cald 848 (lI1 147 rfl) rfl rfl ?_
  refine cild2 850 (lI1 148 rfl) rfl rfl ?_
  refine ccst 851 (3) (lI1 149 rfl) rfl (by decide) (fun z850 h850 => ?_)
  refine cadd 852 _ (lI1 150 rfl) rfl rfl (by omega) (by omega) (fun z851 h851 => ?_)
  refine csclE 853 (lI1 151 rfl) rfl (by omega) (by omega) (fun w852 e852 => ?_)
  refine cald 854 (lI1 152 rfl) rfl rfl ?_
  refine ccall (kd := 1) (t := 0) [.ref 0, .int _, .int _, .int _, .ref 83] [] hI.1.1 (lI1 153 rfl) (Or.inr ⟨_, rfl, rfl, by decide⟩) rfl rfl rfl ⟨rfl, rfl, rfl⟩ rfl rfl rfl (h357J (d := 579) hI.1 c r (fun r854 hp854 mc ms hI854 r1 k1 o1 hmc hms => Or.inl ⟨_, rfl, ?_⟩))
  refine cistU 859 (lI1 154 rfl) rfl rfl rfl ?_
  refine cald 860 (lI1 155 rfl) rfl rfl ?_
  refine cald 861 (lI1 156 rfl) rfl rfl ?_
  refine cild2 863 (lI1 157 rfl) rfl rfl ?_
  refine ccst 864 (1) (lI1 158 rfl) rfl (by decide) (fun z863 h863 => ?_)
  refine cadd 865 _ (lI1 159 rfl) rfl rfl (by omega) (by omega) (fun z864 h864 => ?_)
  refine csclE 866 (lI1 160 rfl) rfl (by omega) (by omega) (fun w865 e865 => ?_)
  refine cald 867 (lI1 161 rfl) rfl rfl ?_
  refine cild2 869 (lI1 162 rfl) rfl rfl ?_
  refine ccst 870 (2) (lI1 163 rfl) rfl (by decide) (fun z869 h869 => ?_)
  refine cadd 871 _ (lI1 164 rfl) rfl rfl (by omega) (by omega) (fun z870 h870 => ?_)
  refine csclE 872 (lI1 165 rfl) rfl (by omega) (by omega) (fun w871 e871 => ?_)
  refine cald 873 (lI1 166 rfl) rfl rfl ?_
  refine cild2 875 (lI1 167 rfl) rfl rfl ?_
  refine ccst 876 (3) (lI1 168 rfl) rfl (by decide) (fun z875 h875 => ?_)
  refine cadd 877 _ (lI1 169 rfl) rfl rfl (by omega) (by omega) (fun z876 h876 => ?_)
  refine csclE 878 (lI1 170 rfl) rfl (by omega) (by omega) (fun w877 e877 => ?_)
  have ew865 : w865 = w840 := by rw [e865, e840, show z864.toInt = z839.toInt by omega]
  subst ew865
  have ew871 : w871 = w846 := by rw [e871, e846, show z870.toInt = z845.toInt by omega]
  subst ew871
  have ew877 : w877 = w852 := by rw [e877, e852, show z876.toInt = z851.toInt by omega]
  subst ew877
  refine ccall (kd := 0) (t := 0) [.ref 66, .int _, .int _, .int _] [] hI854.1 (lI1 171 rfl) (Or.inl ⟨_, rfl, rfl, by decide, by decide⟩) rfl rfl rfl ⟨rfl, rfl, rfl⟩ rfl (recv66 hI854.1 _) rfl (qK (Φ := fun _ hp2 => bHk 84 bTT hp2 ∧ P0 hp2 ∧ bFr wM hp854 hp2 ∧ stS hp2) (fun R hR => k_274E (d := 594) hI854.1 hI854.2.1 r1 (fun z hp2 a1 a2 a3 a4 a5 => hR z hp2 ⟨a1, a2, a3, st_join2 (Q := True) o1 (a5.elim Or.inl (fun ⟨q, e0, e1, e2, _⟩ => Or.inr ⟨e0, (by unfold dvT; rw [e1]; exact e2), trivial⟩)) a3⟩)) (fun r2 hp2 g2 => Or.inl ⟨_, rfl, ?_⟩))
  refine cistU 883 (lI1 172 rfl) rfl rfl rfl ?_
  refine cgoto (lI1 173 rfl) ?_
  exact cmono (hN hp2 ⟨law_rf hI854 g2.1 g2.2.1 g2.2.2.1, g2.2.2.2⟩) (fun y hp9 m9 s9 h9 => ⟨h9.1, by have := h9.2.1; omega, by have := h9.2.2; omega⟩)
theorem cs54J {sc : List Int32} {b : Nat} {i : Int32} {hp : amH} (i0 : 0 ≤ i.toInt) (i1 : i.toInt + 6 ≤ (sc.length : Int)) (hL : sc.length ≤ 100000) (hI : lawJ hp) (hN : ∀ hp1, lawJ hp1 → lV sc b 2284 i hp1) : lV sc (b + 1) 2017 i hp := by
  obtain ⟨⟨V, T, ty⟩, n, h, sv, c, r⟩ := hI.2
  refine cald 2018 (lI4 181 rfl) rfl rfl ?_
  refine cald 2019 (lI4 182 rfl) rfl rfl ?_
  refine cild2 2021 (lI4 183 rfl) rfl rfl ?_
  refine ccst 2022 (1) (lI4 184 rfl) rfl (by decide) (fun z2021 h2021 => ?_)
  refine cadd 2023 _ (lI4 185 rfl) rfl rfl (by omega) (by omega) (fun z2022 h2022 => ?_)
  refine csclE 2024 (lI4 186 rfl) rfl (by omega) (by omega) (fun w2023 e2023 => ?_)
  refine cald 2025 (lI4 187 rfl) rfl rfl ?_
  refine cild2 2027 (lI4 188 rfl) rfl rfl ?_
  refine ccst 2028 (2) (lI4 189 rfl) rfl (by decide) (fun z2027 h2027 => ?_)
  refine cadd 2029 _ (lI4 190 rfl) rfl rfl (by omega) (by omega) (fun z2028 h2028 => ?_)
  refine csclE 2030 (lI4 191 rfl) rfl (by omega) (by omega) (fun w2029 e2029 => ?_)
  refine cald 2031 (lI4 192 rfl) rfl rfl ?_
  refine ccall (kd := 1) (t := 0) [.ref 0, .int _, .int _, .ref 83] [] hI.1.1 (lI4 193 rfl) (Or.inr ⟨_, rfl, rfl, by decide⟩) rfl rfl rfl ⟨rfl, rfl, rfl⟩ rfl rfl rfl (h379J (d := 579) hI.1 c r (fun r2031 hp2031 mc ms hI2031 r1 k1 o1 hmc hms => Or.inl ⟨_, rfl, ?_⟩))
  refine cistU 2036 (lI4 194 rfl) rfl rfl rfl ?_
  refine cald 2037 (lI4 195 rfl) rfl rfl ?_
  refine cald 2038 (lI4 196 rfl) rfl rfl ?_
  refine cild2 2040 (lI4 197 rfl) rfl rfl ?_
  refine ccst 2041 (1) (lI4 198 rfl) rfl (by decide) (fun z2040 h2040 => ?_)
  refine cadd 2042 _ (lI4 199 rfl) rfl rfl (by omega) (by omega) (fun z2041 h2041 => ?_)
  refine csclE 2043 (lI4 200 rfl) rfl (by omega) (by omega) (fun w2042 e2042 => ?_)
  refine cald 2044 (lI4 201 rfl) rfl rfl ?_
  refine cild2 2046 (lI4 202 rfl) rfl rfl ?_
  refine ccst 2047 (2) (lI4 203 rfl) rfl (by decide) (fun z2046 h2046 => ?_)
  refine cadd 2048 _ (lI4 204 rfl) rfl rfl (by omega) (by omega) (fun z2047 h2047 => ?_)
  refine csclE 2049 (lI4 205 rfl) rfl (by omega) (by omega) (fun w2048 e2048 => ?_)
  have ew2042 : w2042 = w2023 := by rw [e2042, e2023, show z2041.toInt = z2022.toInt by omega]
  subst ew2042
  have ew2048 : w2048 = w2029 := by rw [e2048, e2029, show z2047.toInt = z2028.toInt by omega]
  subst ew2048
  refine ccall (kd := 0) (t := 0) [.ref 66, .int _, .int _] [] hI2031.1 (lI4 206 rfl) (Or.inl ⟨_, rfl, rfl, by decide, by decide⟩) rfl rfl rfl ⟨rfl, rfl, rfl⟩ rfl (recv66 hI2031.1 _) rfl (qK (Φ := fun _ hp2 => bHk 84 bTT hp2 ∧ P0 hp2 ∧ bFr wM hp2031 hp2 ∧ stS hp2) (fun R hR => k_279E (d := 595) hI2031.1 hI2031.2.1 r1 (fun z hp2 a1 a2 a3 a4 a5 => hR z hp2 ⟨a1, a2, a3, st_join2 o1 a5 a3⟩)) (fun r2 hp2 g2 => Or.inl ⟨_, rfl, ?_⟩))
  refine cistU 2054 (lI4 207 rfl) rfl rfl rfl ?_
  refine cgoto (lI4 208 rfl) ?_
  exact cmono (hN hp2 ⟨law_rf hI2031 g2.1 g2.2.1 g2.2.2.1, g2.2.2.2⟩) (fun y hp9 m9 s9 h9 => ⟨h9.1, by have := h9.2.1; omega, by have := h9.2.2; omega⟩)
theorem cs55J {sc : List Int32} {b : Nat} {i : Int32} {hp : amH} (i0 : 0 ≤ i.toInt) (i1 : i.toInt + 6 ≤ (sc.length : Int)) (hL : sc.length ≤ 100000) (hI : lawJ hp) (hN : ∀ hp1, lawJ hp1 → lV sc b 2284 i hp1) : lV sc (b + 1) 2057 i hp := by
  obtain ⟨⟨V, T, ty⟩, n, h, sv, c, r⟩ := hI.2
  refine cald 2058 (lI4 209 rfl) rfl rfl ?_
  refine cald 2059 (lI4 210 rfl) rfl rfl ?_
  refine cild2 2061 (lI4 211 rfl) rfl rfl ?_
  refine ccst 2062 (1) (lI4 212 rfl) rfl (by decide) (fun z2061 h2061 => ?_)
  refine cadd 2063 _ (lI4 213 rfl) rfl rfl (by omega) (by omega) (fun z2062 h2062 => ?_)
  refine csclE 2064 (lI4 214 rfl) rfl (by omega) (by omega) (fun w2063 e2063 => ?_)
  refine cald 2065 (lI4 215 rfl) rfl rfl ?_
  refine ccall (kd := 1) (t := 0) [.ref 0, .int _, .ref 83] [] hI.1.1 (lI4 216 rfl) (Or.inr ⟨_, rfl, rfl, by decide⟩) rfl rfl rfl ⟨rfl, rfl, rfl⟩ rfl rfl rfl (h380J (d := 579) hI.1 c r (fun r2065 hp2065 mc ms hI2065 r1 k1 o1 hmc hms => Or.inl ⟨_, rfl, ?_⟩))
  refine cistU 2070 (lI4 217 rfl) rfl rfl rfl ?_
  refine cald 2071 (lI4 218 rfl) rfl rfl ?_
  refine cald 2072 (lI4 219 rfl) rfl rfl ?_
  refine cild2 2074 (lI4 220 rfl) rfl rfl ?_
  refine ccst 2075 (1) (lI4 221 rfl) rfl (by decide) (fun z2074 h2074 => ?_)
  refine cadd 2076 _ (lI4 222 rfl) rfl rfl (by omega) (by omega) (fun z2075 h2075 => ?_)
  refine csclE 2077 (lI4 223 rfl) rfl (by omega) (by omega) (fun w2076 e2076 => ?_)
  have ew2076 : w2076 = w2063 := by rw [e2076, e2063, show z2075.toInt = z2062.toInt by omega]
  subst ew2076
  rw [clear_eq c.1.2.1] at o1
  refine ccall (kd := 0) (t := 0) [.ref 66, .int _] [] hI2065.1 (lI4 224 rfl) (Or.inl ⟨_, rfl, rfl, by decide, by decide⟩) rfl rfl rfl ⟨rfl, rfl, rfl⟩ rfl (recv66 hI2065.1 _) rfl (qK (Φ := fun _ hp2 => bHk 84 bTT hp2 ∧ P0 hp2 ∧ bFr wM hp2065 hp2 ∧ stS hp2) (fun R hR => k_278E (d := 596) hI2065.1 hI2065.2.1 r1 (fun z hp2 a1 a2 a3 a4 a5 => hR z hp2 ⟨a1, a2, a3, st_join2 o1 a5 a3⟩)) (fun r2 hp2 g2 => Or.inl ⟨_, rfl, ?_⟩))
  refine cistU 2082 (lI4 225 rfl) rfl rfl rfl ?_
  refine cgoto (lI4 226 rfl) ?_
  exact cmono (hN hp2 ⟨law_rf hI2065 g2.1 g2.2.1 g2.2.2.1, g2.2.2.2⟩) (fun y hp9 m9 s9 h9 => ⟨h9.1, by have := h9.2.1; omega, by have := h9.2.2; omega⟩)
theorem cs62J {sc : List Int32} {b : Nat} {i : Int32} {hp : amH} (i0 : 0 ≤ i.toInt) (i1 : i.toInt + 6 ≤ (sc.length : Int)) (hL : sc.length ≤ 100000) (hI : lawJ hp) (hN : ∀ hp1, lawJ hp1 → lV sc b 2284 i hp1) : lV sc (b + 1) 2268 i hp := by
  obtain ⟨⟨V, T, ty⟩, n, h, sv, c, r⟩ := hI.2
  refine cald 2269 (lI5 102 rfl) rfl rfl ?_
  refine cald 2270 (lI5 103 rfl) rfl rfl ?_
  refine ccall (kd := 1) (t := 0) [.ref 0, .ref 83] [] hI.1.1 (lI5 104 rfl) (Or.inr ⟨_, rfl, rfl, by decide⟩) rfl rfl rfl ⟨rfl, rfl, rfl⟩ rfl rfl rfl (h384J (d := 579) hI.1 c r (fun r2270 hp2270 mc ms hI2270 r1 k1 o1 hmc hms => Or.inl ⟨_, rfl, ?_⟩))
  refine cistU 2275 (lI5 105 rfl) rfl rfl rfl ?_
  refine cald 2276 (lI5 106 rfl) rfl rfl ?_
  refine ccall (kd := 0) (t := 0) [.ref 66] [] hI2270.1 (lI5 107 rfl) (Or.inl ⟨_, rfl, rfl, by decide, by decide⟩) rfl rfl rfl ⟨rfl, rfl, rfl⟩ rfl (recv66 hI2270.1 _) rfl (qK (Φ := fun _ hp2 => bHk 84 bTT hp2 ∧ P0 hp2 ∧ bFr wM hp2270 hp2 ∧ stS hp2) (fun R hR => k_341E (d := 596) hI2270.1 hI2270.2.1 r1.1 r1.2 (fun z hp2 a1 a2 a3 a4 => hR z hp2 ⟨a1, a2, a3, st_join2 (Q := True) o1 (a4.elim (fun ⟨e, _, u, v⟩ => Or.inl ⟨by rw [e]; decide, u, by rw [e]; exact v⟩) (fun ⟨q, e, _, u, v, _⟩ => Or.inr ⟨by rw [e]; rfl, ⟨by rw [e]; exact u, by rw [e]; exact v⟩, trivial⟩)) a3⟩)) (fun r2 hp2 g2 => Or.inl ⟨_, rfl, ?_⟩))
  refine cistU 2281 (lI5 108 rfl) rfl rfl rfl ?_
  refine cgoto (lI5 109 rfl) ?_
  exact cmono (hN hp2 ⟨law_rf hI2270 g2.1 g2.2.1 g2.2.2.1, g2.2.2.2⟩) (fun y hp9 m9 s9 h9 => ⟨h9.1, by have := h9.2.1; omega, by have := h9.2.2; omega⟩)
theorem cs13J {sc : List Int32} {b : Nat} {i : Int32} {hp : amH} (i0 : 0 ≤ i.toInt) (i1 : i.toInt + 6 ≤ (sc.length : Int)) (hL : sc.length ≤ 100000) (hI : lawJ hp) (hN : ∀ hp1, lawJ hp1 → lV sc b 2284 i hp1) : lV sc (b + 1) 754 i hp := by
  obtain ⟨⟨V, T, ty⟩, n, h, sv, c, r⟩ := hI.2
  refine cald 755 (lI1 80 rfl) rfl rfl ?_
  refine cald 756 (lI1 81 rfl) rfl rfl ?_
  refine cild2 758 (lI1 82 rfl) rfl rfl ?_
  refine ccst 759 (1) (lI1 83 rfl) rfl (by decide) (fun z758 h758 => ?_)
  refine cadd 760 _ (lI1 84 rfl) rfl rfl (by omega) (by omega) (fun z759 h759 => ?_)
  refine csclE 761 (lI1 85 rfl) rfl (by omega) (by omega) (fun w760 e760 => ?_)
  refine cald 762 (lI1 86 rfl) rfl rfl ?_
  refine cild2 764 (lI1 87 rfl) rfl rfl ?_
  refine ccst 765 (2) (lI1 88 rfl) rfl (by decide) (fun z764 h764 => ?_)
  refine cadd 766 _ (lI1 89 rfl) rfl rfl (by omega) (by omega) (fun z765 h765 => ?_)
  refine csclE 767 (lI1 90 rfl) rfl (by omega) (by omega) (fun w766 e766 => ?_)
  refine cald 768 (lI1 91 rfl) rfl rfl ?_
  refine cild2 770 (lI1 92 rfl) rfl rfl ?_
  refine ccst 771 (3) (lI1 93 rfl) rfl (by decide) (fun z770 h770 => ?_)
  refine cadd 772 _ (lI1 94 rfl) rfl rfl (by omega) (by omega) (fun z771 h771 => ?_)
  refine csclE 773 (lI1 95 rfl) rfl (by omega) (by omega) (fun w772 e772 => ?_)
  refine cald 774 (lI1 96 rfl) rfl rfl ?_
  refine ccall (kd := 1) (t := 0) [.ref 0, .int _, .int _, .int _, .ref 83] [] hI.1.1 (lI1 97 rfl) (Or.inr ⟨_, rfl, rfl, by decide⟩) rfl rfl rfl ⟨rfl, rfl, rfl⟩ rfl rfl rfl (h355J (d := 579) hI.1 c r (fun r774 hp774 mc ms hI774 r1 k1 o1 hmc hms => Or.inl ⟨_, rfl, ?_⟩))
  refine cistU 779 (lI1 98 rfl) rfl rfl rfl ?_
  refine cald 780 (lI1 99 rfl) rfl rfl ?_
  refine cald 781 (lI1 100 rfl) rfl rfl ?_
  refine cild2 783 (lI1 101 rfl) rfl rfl ?_
  refine ccst 784 (1) (lI1 102 rfl) rfl (by decide) (fun z783 h783 => ?_)
  refine cadd 785 _ (lI1 103 rfl) rfl rfl (by omega) (by omega) (fun z784 h784 => ?_)
  refine csclE 786 (lI1 104 rfl) rfl (by omega) (by omega) (fun w785 e785 => ?_)
  refine cald 787 (lI1 105 rfl) rfl rfl ?_
  refine cild2 789 (lI1 106 rfl) rfl rfl ?_
  refine ccst 790 (2) (lI1 107 rfl) rfl (by decide) (fun z789 h789 => ?_)
  refine cadd 791 _ (lI1 108 rfl) rfl rfl (by omega) (by omega) (fun z790 h790 => ?_)
  refine csclE 792 (lI1 109 rfl) rfl (by omega) (by omega) (fun w791 e791 => ?_)
  refine cald 793 (lI1 110 rfl) rfl rfl ?_
  refine cild2 795 (lI1 111 rfl) rfl rfl ?_
  refine ccst 796 (3) (lI1 112 rfl) rfl (by decide) (fun z795 h795 => ?_)
  refine cadd 797 _ (lI1 113 rfl) rfl rfl (by omega) (by omega) (fun z796 h796 => ?_)
  refine csclE 798 (lI1 114 rfl) rfl (by omega) (by omega) (fun w797 e797 => ?_)
  have ew785 : w785 = w760 := by rw [e785, e760, show z784.toInt = z759.toInt by omega]
  subst ew785
  have ew791 : w791 = w766 := by rw [e791, e766, show z790.toInt = z765.toInt by omega]
  subst ew791
  have ew797 : w797 = w772 := by rw [e797, e772, show z796.toInt = z771.toInt by omega]
  subst ew797
  refine ccall (kd := 0) (t := 0) [.ref 66, .int _, .int _, .int _] [] hI774.1 (lI1 115 rfl) (Or.inl ⟨_, rfl, rfl, by decide, by decide⟩) rfl rfl rfl ⟨rfl, rfl, rfl⟩ rfl (recv66 hI774.1 _) rfl (qK (Φ := fun _ hp2 => bHk 84 bTT hp2 ∧ P0 hp2 ∧ bFr wM hp774 hp2 ∧ stS hp2) (fun R hR => k_272E (d := 595) hI774.1 hI774.2.1 r1 (fun z hp2 a1 a2 a3 a4 a5 => hR z hp2 ⟨a1, a2, a3, st_join2 o1 a5 a3⟩)) (fun r2 hp2 g2 => Or.inl ⟨_, rfl, ?_⟩))
  refine cistU 803 (lI1 116 rfl) rfl rfl rfl ?_
  refine cgoto (lI1 117 rfl) ?_
  exact cmono (hN hp2 ⟨law_rf hI774 g2.1 g2.2.1 g2.2.2.1, g2.2.2.2⟩) (fun y hp9 m9 s9 h9 => ⟨h9.1, by have := h9.2.1; omega, by have := h9.2.2; omega⟩)
/-! ===== the law's cases (h) ===== -/
theorem cs14J {sc : List Int32} {b : Nat} {i : Int32} {hp : amH} (i0 : 0 ≤ i.toInt) (i1 : i.toInt + 6 ≤ (sc.length : Int)) (hL : sc.length ≤ 100000) (hI : lawJ hp) (hN : ∀ hp1, lawJ hp1 → lV sc b 2284 i hp1) : lV sc (b + 1) 806 i hp := by
  obtain ⟨⟨V, T, ty⟩, n, h, sv, c, r⟩ := hI.2
  refine cald 807 (lI1 118 rfl) rfl rfl ?_
  refine cald 808 (lI1 119 rfl) rfl rfl ?_
  refine cild2 810 (lI1 120 rfl) rfl rfl ?_
  refine ccst 811 (1) (lI1 121 rfl) rfl (by decide) (fun z810 h810 => ?_)
  refine cadd 812 _ (lI1 122 rfl) rfl rfl (by omega) (by omega) (fun z811 h811 => ?_)
  refine csclE 813 (lI1 123 rfl) rfl (by omega) (by omega) (fun w812 e812 => ?_)
  refine cald 814 (lI1 124 rfl) rfl rfl ?_
  refine ccall (kd := 1) (t := 0) [.ref 0, .int _, .ref 83] [] hI.1.1 (lI1 125 rfl) (Or.inr ⟨_, rfl, rfl, by decide⟩) rfl rfl rfl ⟨rfl, rfl, rfl⟩ rfl rfl rfl (h356J (d := 579) hI.1 c r (fun r814 hp814 mc ms hI814 r1 k1 o1 hmc hms => Or.inl ⟨_, rfl, ?_⟩))
  refine cistU 819 (lI1 126 rfl) rfl rfl rfl ?_
  refine cald 820 (lI1 127 rfl) rfl rfl ?_
  refine cald 821 (lI1 128 rfl) rfl rfl ?_
  refine cild2 823 (lI1 129 rfl) rfl rfl ?_
  refine ccst 824 (1) (lI1 130 rfl) rfl (by decide) (fun z823 h823 => ?_)
  refine cadd 825 _ (lI1 131 rfl) rfl rfl (by omega) (by omega) (fun z824 h824 => ?_)
  refine csclE 826 (lI1 132 rfl) rfl (by omega) (by omega) (fun w825 e825 => ?_)
  have ew825 : w825 = w812 := by rw [e825, e812, show z824.toInt = z811.toInt by omega]
  subst ew825
  refine ccall (kd := 0) (t := 0) [.ref 66, .int _] [] hI814.1 (lI1 133 rfl) (Or.inl ⟨_, rfl, rfl, by decide, by decide⟩) rfl rfl rfl ⟨rfl, rfl, rfl⟩ rfl (recv66 hI814.1 _) rfl (qK (Φ := fun _ hp2 => bHk 84 bTT hp2 ∧ P0 hp2 ∧ bFr wM hp814 hp2 ∧ stS hp2) (fun R hR => k_273E (d := 596) hI814.1 hI814.2.1 r1 (fun z hp2 a1 a2 a3 a4 a5 => hR z hp2 ⟨a1, a2, a3, st_join2 o1 a5 a3⟩)) (fun r2 hp2 g2 => Or.inl ⟨_, rfl, ?_⟩))
  refine cistU 831 (lI1 134 rfl) rfl rfl rfl ?_
  refine cgoto (lI1 135 rfl) ?_
  exact cmono (hN hp2 ⟨law_rf hI814 g2.1 g2.2.1 g2.2.2.1, g2.2.2.2⟩) (fun y hp9 m9 s9 h9 => ⟨h9.1, by have := h9.2.1; omega, by have := h9.2.2; omega⟩)
theorem cs23J {sc : List Int32} {b : Nat} {i : Int32} {hp : amH} (i0 : 0 ≤ i.toInt) (i1 : i.toInt + 6 ≤ (sc.length : Int)) (hL : sc.length ≤ 100000) (hI : lawJ hp) (hN : ∀ hp1, lawJ hp1 → lV sc b 2284 i hp1) : lV sc (b + 1) 1061 i hp := by
  obtain ⟨⟨V, T, ty⟩, n, h, sv, c, r⟩ := hI.2
  refine cald 1062 (lI2 37 rfl) rfl rfl ?_
  refine cald 1063 (lI2 38 rfl) rfl rfl ?_
  refine cild2 1065 (lI2 39 rfl) rfl rfl ?_
  refine ccst 1066 (1) (lI2 40 rfl) rfl (by decide) (fun z1065 h1065 => ?_)
  refine cadd 1067 _ (lI2 41 rfl) rfl rfl (by omega) (by omega) (fun z1066 h1066 => ?_)
  refine csclE 1068 (lI2 42 rfl) rfl (by omega) (by omega) (fun w1067 e1067 => ?_)
  refine cald 1069 (lI2 43 rfl) rfl rfl ?_
  refine ccall (kd := 1) (t := 0) [.ref 0, .int _, .ref 83] [] hI.1.1 (lI2 44 rfl) (Or.inr ⟨_, rfl, rfl, by decide⟩) rfl rfl rfl ⟨rfl, rfl, rfl⟩ rfl rfl rfl (h362J (d := 579) hI.1 c r (fun r1069 hp1069 mc ms hI1069 r1 k1 o1 hmc hms => Or.inl ⟨_, rfl, ?_⟩))
  refine cistU 1074 (lI2 45 rfl) rfl rfl rfl ?_
  refine cald 1075 (lI2 46 rfl) rfl rfl ?_
  refine cald 1076 (lI2 47 rfl) rfl rfl ?_
  refine cild2 1078 (lI2 48 rfl) rfl rfl ?_
  refine ccst 1079 (1) (lI2 49 rfl) rfl (by decide) (fun z1078 h1078 => ?_)
  refine cadd 1080 _ (lI2 50 rfl) rfl rfl (by omega) (by omega) (fun z1079 h1079 => ?_)
  refine csclE 1081 (lI2 51 rfl) rfl (by omega) (by omega) (fun w1080 e1080 => ?_)
  have ew1080 : w1080 = w1067 := by rw [e1080, e1067, show z1079.toInt = z1066.toInt by omega]
  subst ew1080
  refine ccall (kd := 0) (t := 0) [.ref 66, .int _] [] hI1069.1 (lI2 52 rfl) (Or.inl ⟨_, rfl, rfl, by decide, by decide⟩) rfl rfl rfl ⟨rfl, rfl, rfl⟩ rfl (recv66 hI1069.1 _) rfl (qK (Φ := fun _ hp2 => bHk 84 bTT hp2 ∧ P0 hp2 ∧ bFr wM hp1069 hp2 ∧ stS hp2) (fun R hR => k_292E (d := 593) hI1069.1 hI1069.2.1 r1 (fun z hp2 a1 a2 a3 a4 a5 => hR z hp2 ⟨a1, a2, a3, st_join2 o1 a5 a3⟩)) (fun r2 hp2 g2 => Or.inl ⟨_, rfl, ?_⟩))
  refine cistU 1086 (lI2 53 rfl) rfl rfl rfl ?_
  refine cgoto (lI2 54 rfl) ?_
  exact cmono (hN hp2 ⟨law_rf hI1069 g2.1 g2.2.1 g2.2.2.1, g2.2.2.2⟩) (fun y hp9 m9 s9 h9 => ⟨h9.1, by have := h9.2.1; omega, by have := h9.2.2; omega⟩)
theorem cs26J {sc : List Int32} {b : Nat} {i : Int32} {hp : amH} (i0 : 0 ≤ i.toInt) (i1 : i.toInt + 6 ≤ (sc.length : Int)) (hL : sc.length ≤ 100000) (hI : lawJ hp) (hN : ∀ hp1, lawJ hp1 → lV sc b 2284 i hp1) : lV sc (b + 1) 1158 i hp := by
  obtain ⟨⟨V, T, ty⟩, n, h, sv, c, r⟩ := hI.2
  refine cald 1159 (lI2 98 rfl) rfl rfl ?_
  refine cald 1160 (lI2 99 rfl) rfl rfl ?_
  refine cild2 1162 (lI2 100 rfl) rfl rfl ?_
  refine ccst 1163 (1) (lI2 101 rfl) rfl (by decide) (fun z1162 h1162 => ?_)
  refine cadd 1164 _ (lI2 102 rfl) rfl rfl (by omega) (by omega) (fun z1163 h1163 => ?_)
  refine csclE 1165 (lI2 103 rfl) rfl (by omega) (by omega) (fun w1164 e1164 => ?_)
  refine cald 1166 (lI2 104 rfl) rfl rfl ?_
  refine ccall (kd := 1) (t := 0) [.ref 0, .int _, .ref 83] [] hI.1.1 (lI2 105 rfl) (Or.inr ⟨_, rfl, rfl, by decide⟩) rfl rfl rfl ⟨rfl, rfl, rfl⟩ rfl rfl rfl (h364J (d := 579) hI.1 c r (fun r1166 hp1166 mc ms hI1166 r1 k1 o1 hmc hms => Or.inl ⟨_, rfl, ?_⟩))
  refine cistU 1171 (lI2 106 rfl) rfl rfl rfl ?_
  refine cald 1172 (lI2 107 rfl) rfl rfl ?_
  refine cald 1173 (lI2 108 rfl) rfl rfl ?_
  refine cild2 1175 (lI2 109 rfl) rfl rfl ?_
  refine ccst 1176 (1) (lI2 110 rfl) rfl (by decide) (fun z1175 h1175 => ?_)
  refine cadd 1177 _ (lI2 111 rfl) rfl rfl (by omega) (by omega) (fun z1176 h1176 => ?_)
  refine csclE 1178 (lI2 112 rfl) rfl (by omega) (by omega) (fun w1177 e1177 => ?_)
  have ew1177 : w1177 = w1164 := by rw [e1177, e1164, show z1176.toInt = z1163.toInt by omega]
  subst ew1177
  refine ccall (kd := 0) (t := 0) [.ref 66, .int _] [] hI1166.1 (lI2 113 rfl) (Or.inl ⟨_, rfl, rfl, by decide, by decide⟩) rfl rfl rfl ⟨rfl, rfl, rfl⟩ rfl (recv66 hI1166.1 _) rfl (qK (Φ := fun _ hp2 => bHk 84 bTT hp2 ∧ P0 hp2 ∧ bFr wM hp1166 hp2 ∧ stS hp2) (fun R hR => k_295E (d := 593) hI1166.1 hI1166.2.1 r1 (fun z hp2 a1 a2 a3 a4 a5 => hR z hp2 ⟨a1, a2, a3, st_join2 o1 a5 a3⟩)) (fun r2 hp2 g2 => Or.inl ⟨_, rfl, ?_⟩))
  refine cistU 1183 (lI2 114 rfl) rfl rfl rfl ?_
  refine cgoto (lI2 115 rfl) ?_
  exact cmono (hN hp2 ⟨law_rf hI1166 g2.1 g2.2.1 g2.2.2.1, g2.2.2.2⟩) (fun y hp9 m9 s9 h9 => ⟨h9.1, by have := h9.2.1; omega, by have := h9.2.2; omega⟩)
theorem cs30J {sc : List Int32} {b : Nat} {i : Int32} {hp : amH} (i0 : 0 ≤ i.toInt) (i1 : i.toInt + 6 ≤ (sc.length : Int)) (hL : sc.length ≤ 100000) (hI : lawJ hp) (hN : ∀ hp1, lawJ hp1 → lV sc b 2284 i hp1) : lV sc (b + 1) 1342 i hp := by
  obtain ⟨⟨V, T, ty⟩, n, h, sv, c, r⟩ := hI.2
  refine cald 1343 (lI2 230 rfl) rfl rfl ?_
  refine cald 1344 (lI2 231 rfl) rfl rfl ?_
  refine cild2 1346 (lI2 232 rfl) rfl rfl ?_
  refine ccst 1347 (1) (lI2 233 rfl) rfl (by decide) (fun z1346 h1346 => ?_)
  refine cadd 1348 _ (lI2 234 rfl) rfl rfl (by omega) (by omega) (fun z1347 h1347 => ?_)
  refine csclE 1349 (lI2 235 rfl) rfl (by omega) (by omega) (fun w1348 e1348 => ?_)
  refine cald 1350 (lI2 236 rfl) rfl rfl ?_
  refine cild2 1352 (lI2 237 rfl) rfl rfl ?_
  refine ccst 1353 (2) (lI2 238 rfl) rfl (by decide) (fun z1352 h1352 => ?_)
  refine cadd 1354 _ (lI2 239 rfl) rfl rfl (by omega) (by omega) (fun z1353 h1353 => ?_)
  refine csclE 1355 (lI2 240 rfl) rfl (by omega) (by omega) (fun w1354 e1354 => ?_)
  refine cald 1356 (lI2 241 rfl) rfl rfl ?_
  refine cild2 1358 (lI2 242 rfl) rfl rfl ?_
  refine ccst 1359 (3) (lI2 243 rfl) rfl (by decide) (fun z1358 h1358 => ?_)
  refine cadd 1360 _ (lI2 244 rfl) rfl rfl (by omega) (by omega) (fun z1359 h1359 => ?_)
  refine csclE 1361 (lI2 245 rfl) rfl (by omega) (by omega) (fun w1360 e1360 => ?_)
  refine cald 1362 (lI2 246 rfl) rfl rfl ?_
  refine ccall (kd := 1) (t := 0) [.ref 0, .int _, .int _, .int _, .ref 83] [] hI.1.1 (lI2 247 rfl) (Or.inr ⟨_, rfl, rfl, by decide⟩) rfl rfl rfl ⟨rfl, rfl, rfl⟩ rfl rfl rfl (h368J (d := 579) hI.1 c r (fun r1362 hp1362 mc ms hI1362 r1 k1 o1 hmc hms => Or.inl ⟨_, rfl, ?_⟩))
  refine cistU 1367 (lI2 248 rfl) rfl rfl rfl ?_
  refine cald 1368 (lI2 249 rfl) rfl rfl ?_
  refine cald 1369 (lI3 0 rfl) rfl rfl ?_
  refine cild2 1371 (lI3 1 rfl) rfl rfl ?_
  refine ccst 1372 (1) (lI3 2 rfl) rfl (by decide) (fun z1371 h1371 => ?_)
  refine cadd 1373 _ (lI3 3 rfl) rfl rfl (by omega) (by omega) (fun z1372 h1372 => ?_)
  refine csclE 1374 (lI3 4 rfl) rfl (by omega) (by omega) (fun w1373 e1373 => ?_)
  refine cald 1375 (lI3 5 rfl) rfl rfl ?_
  refine cild2 1377 (lI3 6 rfl) rfl rfl ?_
  refine ccst 1378 (2) (lI3 7 rfl) rfl (by decide) (fun z1377 h1377 => ?_)
  refine cadd 1379 _ (lI3 8 rfl) rfl rfl (by omega) (by omega) (fun z1378 h1378 => ?_)
  refine csclE 1380 (lI3 9 rfl) rfl (by omega) (by omega) (fun w1379 e1379 => ?_)
  refine cald 1381 (lI3 10 rfl) rfl rfl ?_
  refine cild2 1383 (lI3 11 rfl) rfl rfl ?_
  refine ccst 1384 (3) (lI3 12 rfl) rfl (by decide) (fun z1383 h1383 => ?_)
  refine cadd 1385 _ (lI3 13 rfl) rfl rfl (by omega) (by omega) (fun z1384 h1384 => ?_)
  refine csclE 1386 (lI3 14 rfl) rfl (by omega) (by omega) (fun w1385 e1385 => ?_)
  have ew1373 : w1373 = w1348 := by rw [e1373, e1348, show z1372.toInt = z1347.toInt by omega]
  subst ew1373
  have ew1379 : w1379 = w1354 := by rw [e1379, e1354, show z1378.toInt = z1353.toInt by omega]
  subst ew1379
  have ew1385 : w1385 = w1360 := by rw [e1385, e1360, show z1384.toInt = z1359.toInt by omega]
  subst ew1385
  refine ccall (kd := 0) (t := 0) [.ref 66, .int _, .int _, .int _] [] hI1362.1 (lI3 15 rfl) (Or.inl ⟨_, rfl, rfl, by decide, by decide⟩) rfl rfl rfl ⟨rfl, rfl, rfl⟩ rfl (recv66 hI1362.1 _) rfl (qK (Φ := fun _ hp2 => bHk 84 bTT hp2 ∧ P0 hp2 ∧ bFr wM hp1362 hp2 ∧ stS hp2) (fun R hR => k_300E (d := 594) hI1362.1 hI1362.2.1 r1 (fun z hp2 a1 a2 a3 a4 a5 => hR z hp2 ⟨a1, a2, a3, st_join2 o1 a5 a3⟩)) (fun r2 hp2 g2 => Or.inl ⟨_, rfl, ?_⟩))
  refine cistU 1391 (lI3 16 rfl) rfl rfl rfl ?_
  refine cgoto (lI3 17 rfl) ?_
  exact cmono (hN hp2 ⟨law_rf hI1362 g2.1 g2.2.1 g2.2.2.1, g2.2.2.2⟩) (fun y hp9 m9 s9 h9 => ⟨h9.1, by have := h9.2.1; omega, by have := h9.2.2; omega⟩)
