/-! ===== the law's cases (k) ===== -/
theorem cs50 {sc : List Int32} {b : Nat} {i : Int32} {hp : amH} (i0 : 0 ≤ i.toInt) (i1 : i.toInt + 6 ≤ (sc.length : Int)) (hL : sc.length ≤ 100000) (hI : lawI hp) (hN : ∀ hp1, lawI hp1 → lV sc b 2256 i hp1) : lV sc (b + 1) 1922 i hp := by
  refine cald 1923 (lI4 125 rfl) rfl rfl ?_
  refine ccall (kd := 0) (t := 0) [.ref 0] [] hI.1 (lI4 126 rfl) (Or.inl ⟨_, rfl, rfl, by decide, by decide⟩) rfl rfl rfl ⟨rfl, rfl, rfl⟩ rfl (recv0 hI.1 _) rfl (qI (bL8_s be_141 (List.mem_of_getElem? (i := 33) rfl)) rfl hI ⟨a0r, trivial⟩ rfl rfl rfl rfl (fun r1923 hp1923 hI1923 => Or.inl ⟨_, rfl, ?_⟩) (fun E _ _ hE => by cases hE))
  refine cpop 1927 (lI4 127 rfl) rfl rfl ?_
  refine cald 1928 (lI4 128 rfl) rfl rfl ?_
  refine ccall (kd := 0) (t := 0) [.ref 66] [] hI1923.1 (lI4 129 rfl) (Or.inl ⟨_, rfl, rfl, by decide, by decide⟩) rfl rfl rfl ⟨rfl, rfl, rfl⟩ rfl (recv66 hI1923.1 _) rfl (qI (bQ6_s bf_83 (List.mem_of_getElem? (i := 50) rfl)) rfl hI1923 ⟨a66r, trivial⟩ rfl rfl rfl rfl (fun r1928 hp1928 hI1928 => Or.inl ⟨_, rfl, ?_⟩) (fun E _ _ hE => by cases hE))
  refine cpop 1932 (lI4 130 rfl) rfl rfl ?_
  refine cgoto (lI4 131 rfl) ?_
  exact cmono (hN hp1928 hI1928) (fun y hp9 m9 s9 h9 => ⟨h9.1, by have := h9.2.1; omega, by have := h9.2.2; omega⟩)
theorem cs51 {sc : List Int32} {b : Nat} {i : Int32} {hp : amH} (i0 : 0 ≤ i.toInt) (i1 : i.toInt + 6 ≤ (sc.length : Int)) (hL : sc.length ≤ 100000) (hI : lawI hp) (hN : ∀ hp1, lawI hp1 → lV sc b 2256 i hp1) : lV sc (b + 1) 1935 i hp := by
  refine cald 1936 (lI4 132 rfl) rfl rfl ?_
  refine ccall (kd := 0) (t := 0) [.ref 0] [] hI.1 (lI4 133 rfl) (Or.inl ⟨_, rfl, rfl, by decide, by decide⟩) rfl rfl rfl ⟨rfl, rfl, rfl⟩ rfl (recv0 hI.1 _) rfl (qI (bL8_s be_143 (List.mem_of_getElem? (i := 31) rfl)) rfl hI ⟨a0r, trivial⟩ rfl rfl rfl rfl (fun r1936 hp1936 hI1936 => Or.inl ⟨_, rfl, ?_⟩) (fun E _ _ hE => by cases hE))
  refine cpop 1940 (lI4 134 rfl) rfl rfl ?_
  refine cald 1941 (lI4 135 rfl) rfl rfl ?_
  refine ccall (kd := 0) (t := 0) [.ref 66] [] hI1936.1 (lI4 136 rfl) (Or.inl ⟨_, rfl, rfl, by decide, by decide⟩) rfl rfl rfl ⟨rfl, rfl, rfl⟩ rfl (recv66 hI1936.1 _) rfl (qI (bQ6_s bf_94 (List.mem_of_getElem? (i := 39) rfl)) rfl hI1936 ⟨a66r, trivial⟩ rfl rfl rfl rfl (fun r1941 hp1941 hI1941 => Or.inl ⟨_, rfl, ?_⟩) (fun E _ _ hE => by cases hE))
  refine cpop 1945 (lI4 137 rfl) rfl rfl ?_
  refine cgoto (lI4 138 rfl) ?_
  exact cmono (hN hp1941 hI1941) (fun y hp9 m9 s9 h9 => ⟨h9.1, by have := h9.2.1; omega, by have := h9.2.2; omega⟩)
theorem cs52 {sc : List Int32} {b : Nat} {i : Int32} {hp : amH} (i0 : 0 ≤ i.toInt) (i1 : i.toInt + 6 ≤ (sc.length : Int)) (hL : sc.length ≤ 100000) (hI : lawI hp) (hN : ∀ hp1, lawI hp1 → lV sc b 2256 i hp1) : lV sc (b + 1) 1948 i hp := by
  refine cald 1949 (lI4 139 rfl) rfl rfl ?_
  refine cald 1950 (lI4 140 rfl) rfl rfl ?_
  refine cild2 1952 (lI4 141 rfl) rfl rfl ?_
  refine ccst 1953 (1) (lI4 142 rfl) rfl (by decide) (fun z1952 h1952 => ?_)
  refine cadd 1954 _ (lI4 143 rfl) rfl rfl (by omega) (by omega) (fun z1953 h1953 => ?_)
  refine cscl 1955 (lI4 144 rfl) rfl (by omega) (by omega) (fun w1954 => ?_)
  refine cald 1956 (lI4 145 rfl) rfl rfl ?_
  refine ccall (kd := 1) (t := 0) [.ref 0, .int _, .ref 83] [] hI.1 (lI4 146 rfl) (Or.inr ⟨_, rfl, rfl, by decide⟩) rfl rfl rfl ⟨rfl, rfl, rfl⟩ rfl rfl rfl (h378 (d := 579) hI (fun r1956 hp1956 mc ms hI1956 hmc hms => Or.inl ⟨_, rfl, ?_⟩))
  refine cistU 1961 (lI4 147 rfl) rfl rfl rfl ?_
  refine cald 1962 (lI4 148 rfl) rfl rfl ?_
  refine cald 1963 (lI4 149 rfl) rfl rfl ?_
  refine cild2 1965 (lI4 150 rfl) rfl rfl ?_
  refine ccst 1966 (1) (lI4 151 rfl) rfl (by decide) (fun z1965 h1965 => ?_)
  refine cadd 1967 _ (lI4 152 rfl) rfl rfl (by omega) (by omega) (fun z1966 h1966 => ?_)
  refine cscl 1968 (lI4 153 rfl) rfl (by omega) (by omega) (fun w1967 => ?_)
  refine ccall (kd := 0) (t := 0) [.ref 66, .int _] [] hI1956.1 (lI4 154 rfl) (Or.inl ⟨_, rfl, rfl, by decide, by decide⟩) rfl rfl rfl ⟨rfl, rfl, rfl⟩ rfl (recv66 hI1956.1 _) rfl (qI (bQ6_s bf_95 (List.mem_of_getElem? (i := 38) rfl)) rfl hI1956 ⟨a66r, ai _, trivial⟩ rfl rfl rfl rfl (fun r1968 hp1968 hI1968 => Or.inl ⟨_, rfl, ?_⟩) (fun E _ _ hE => by cases hE))
  refine cistU 1973 (lI4 155 rfl) rfl rfl rfl ?_
  refine cgoto (lI4 156 rfl) ?_
  exact cmono (hN hp1968 hI1968) (fun y hp9 m9 s9 h9 => ⟨h9.1, by have := h9.2.1; omega, by have := h9.2.2; omega⟩)
theorem cs53 {sc : List Int32} {b : Nat} {i : Int32} {hp : amH} (i0 : 0 ≤ i.toInt) (i1 : i.toInt + 6 ≤ (sc.length : Int)) (hL : sc.length ≤ 100000) (hI : lawI hp) (hN : ∀ hp1, lawI hp1 → lV sc b 2256 i hp1) : lV sc (b + 1) 1976 i hp := by
  refine cald 1977 (lI4 157 rfl) rfl rfl ?_
  refine ccall (kd := 0) (t := 0) [.ref 0] [] hI.1 (lI4 158 rfl) (Or.inl ⟨_, rfl, rfl, by decide, by decide⟩) rfl rfl rfl ⟨rfl, rfl, rfl⟩ rfl (recv0 hI.1 _) rfl (qI (bL8_s be_156 (List.mem_of_getElem? (i := 18) rfl)) rfl hI ⟨a0r, trivial⟩ rfl rfl rfl rfl (fun r1977 hp1977 hI1977 => Or.inl ⟨_, rfl, ?_⟩) (fun E _ _ hE => by cases hE))
  refine cpop 1981 (lI4 159 rfl) rfl rfl ?_
  refine cald 1982 (lI4 160 rfl) rfl rfl ?_
  refine ccall (kd := 0) (t := 0) [.ref 66] [] hI1977.1 (lI4 161 rfl) (Or.inl ⟨_, rfl, rfl, by decide, by decide⟩) rfl rfl rfl ⟨rfl, rfl, rfl⟩ rfl (recv66 hI1977.1 _) rfl (qI (bQ6_s bf_132 (List.mem_of_getElem? (i := 1) rfl)) rfl hI1977 ⟨a66r, trivial⟩ rfl rfl rfl rfl (fun r1982 hp1982 hI1982 => Or.inl ⟨_, rfl, ?_⟩) (fun E _ _ hE => by cases hE))
  refine cpop 1986 (lI4 162 rfl) rfl rfl ?_
  refine cgoto (lI4 163 rfl) ?_
  exact cmono (hN hp1982 hI1982) (fun y hp9 m9 s9 h9 => ⟨h9.1, by have := h9.2.1; omega, by have := h9.2.2; omega⟩)
theorem cs54 {sc : List Int32} {b : Nat} {i : Int32} {hp : amH} (i0 : 0 ≤ i.toInt) (i1 : i.toInt + 6 ≤ (sc.length : Int)) (hL : sc.length ≤ 100000) (hI : lawI hp) (hN : ∀ hp1, lawI hp1 → lV sc b 2256 i hp1) : lV sc (b + 1) 1989 i hp := by
  refine cald 1990 (lI4 164 rfl) rfl rfl ?_
  refine cald 1991 (lI4 165 rfl) rfl rfl ?_
  refine cild2 1993 (lI4 166 rfl) rfl rfl ?_
  refine ccst 1994 (1) (lI4 167 rfl) rfl (by decide) (fun z1993 h1993 => ?_)
  refine cadd 1995 _ (lI4 168 rfl) rfl rfl (by omega) (by omega) (fun z1994 h1994 => ?_)
  refine cscl 1996 (lI4 169 rfl) rfl (by omega) (by omega) (fun w1995 => ?_)
  refine cald 1997 (lI4 170 rfl) rfl rfl ?_
  refine cild2 1999 (lI4 171 rfl) rfl rfl ?_
  refine ccst 2000 (2) (lI4 172 rfl) rfl (by decide) (fun z1999 h1999 => ?_)
  refine cadd 2001 _ (lI4 173 rfl) rfl rfl (by omega) (by omega) (fun z2000 h2000 => ?_)
  refine cscl 2002 (lI4 174 rfl) rfl (by omega) (by omega) (fun w2001 => ?_)
  refine cald 2003 (lI4 175 rfl) rfl rfl ?_
  refine ccall (kd := 1) (t := 0) [.ref 0, .int _, .int _, .ref 83] [] hI.1 (lI4 176 rfl) (Or.inr ⟨_, rfl, rfl, by decide⟩) rfl rfl rfl ⟨rfl, rfl, rfl⟩ rfl rfl rfl (h379 (d := 579) hI (fun r2003 hp2003 mc ms hI2003 hmc hms => Or.inl ⟨_, rfl, ?_⟩))
  refine cistU 2008 (lI4 177 rfl) rfl rfl rfl ?_
  refine cald 2009 (lI4 178 rfl) rfl rfl ?_
  refine cald 2010 (lI4 179 rfl) rfl rfl ?_
  refine cild2 2012 (lI4 180 rfl) rfl rfl ?_
  refine ccst 2013 (1) (lI4 181 rfl) rfl (by decide) (fun z2012 h2012 => ?_)
  refine cadd 2014 _ (lI4 182 rfl) rfl rfl (by omega) (by omega) (fun z2013 h2013 => ?_)
  refine cscl 2015 (lI4 183 rfl) rfl (by omega) (by omega) (fun w2014 => ?_)
  refine cald 2016 (lI4 184 rfl) rfl rfl ?_
  refine cild2 2018 (lI4 185 rfl) rfl rfl ?_
  refine ccst 2019 (2) (lI4 186 rfl) rfl (by decide) (fun z2018 h2018 => ?_)
  refine cadd 2020 _ (lI4 187 rfl) rfl rfl (by omega) (by omega) (fun z2019 h2019 => ?_)
  refine cscl 2021 (lI4 188 rfl) rfl (by omega) (by omega) (fun w2020 => ?_)
  refine ccall (kd := 0) (t := 0) [.ref 66, .int _, .int _] [] hI2003.1 (lI4 189 rfl) (Or.inl ⟨_, rfl, rfl, by decide, by decide⟩) rfl rfl rfl ⟨rfl, rfl, rfl⟩ rfl (recv66 hI2003.1 _) rfl (qI p279_s rfl hI2003 ⟨a66r, ai _, ai _, trivial⟩ rfl rfl rfl rfl (fun r2021 hp2021 hI2021 => Or.inl ⟨_, rfl, ?_⟩) (fun E _ _ hE => by cases hE))
  refine cistU 2026 (lI4 190 rfl) rfl rfl rfl ?_
  refine cgoto (lI4 191 rfl) ?_
  exact cmono (hN hp2021 hI2021) (fun y hp9 m9 s9 h9 => ⟨h9.1, by have := h9.2.1; omega, by have := h9.2.2; omega⟩)
theorem cs55 {sc : List Int32} {b : Nat} {i : Int32} {hp : amH} (i0 : 0 ≤ i.toInt) (i1 : i.toInt + 6 ≤ (sc.length : Int)) (hL : sc.length ≤ 100000) (hI : lawI hp) (hN : ∀ hp1, lawI hp1 → lV sc b 2256 i hp1) : lV sc (b + 1) 2029 i hp := by
  refine cald 2030 (lI4 192 rfl) rfl rfl ?_
  refine cald 2031 (lI4 193 rfl) rfl rfl ?_
  refine cild2 2033 (lI4 194 rfl) rfl rfl ?_
  refine ccst 2034 (1) (lI4 195 rfl) rfl (by decide) (fun z2033 h2033 => ?_)
  refine cadd 2035 _ (lI4 196 rfl) rfl rfl (by omega) (by omega) (fun z2034 h2034 => ?_)
  refine cscl 2036 (lI4 197 rfl) rfl (by omega) (by omega) (fun w2035 => ?_)
  refine cald 2037 (lI4 198 rfl) rfl rfl ?_
  refine ccall (kd := 1) (t := 0) [.ref 0, .int _, .ref 83] [] hI.1 (lI4 199 rfl) (Or.inr ⟨_, rfl, rfl, by decide⟩) rfl rfl rfl ⟨rfl, rfl, rfl⟩ rfl rfl rfl (h380 (d := 579) hI (fun r2037 hp2037 mc ms hI2037 hmc hms => Or.inl ⟨_, rfl, ?_⟩))
  refine cistU 2042 (lI4 200 rfl) rfl rfl rfl ?_
  refine cald 2043 (lI4 201 rfl) rfl rfl ?_
  refine cald 2044 (lI4 202 rfl) rfl rfl ?_
  refine cild2 2046 (lI4 203 rfl) rfl rfl ?_
  refine ccst 2047 (1) (lI4 204 rfl) rfl (by decide) (fun z2046 h2046 => ?_)
  refine cadd 2048 _ (lI4 205 rfl) rfl rfl (by omega) (by omega) (fun z2047 h2047 => ?_)
  refine cscl 2049 (lI4 206 rfl) rfl (by omega) (by omega) (fun w2048 => ?_)
  refine ccall (kd := 0) (t := 0) [.ref 66, .int _] [] hI2037.1 (lI4 207 rfl) (Or.inl ⟨_, rfl, rfl, by decide, by decide⟩) rfl rfl rfl ⟨rfl, rfl, rfl⟩ rfl (recv66 hI2037.1 _) rfl (qI p278_s rfl hI2037 ⟨a66r, ai _, trivial⟩ rfl rfl rfl rfl (fun r2049 hp2049 hI2049 => Or.inl ⟨_, rfl, ?_⟩) (fun E _ _ hE => by cases hE))
  refine cistU 2054 (lI4 208 rfl) rfl rfl rfl ?_
  refine cgoto (lI4 209 rfl) ?_
  exact cmono (hN hp2049 hI2049) (fun y hp9 m9 s9 h9 => ⟨h9.1, by have := h9.2.1; omega, by have := h9.2.2; omega⟩)
theorem cs56 {sc : List Int32} {b : Nat} {i : Int32} {hp : amH} (i0 : 0 ≤ i.toInt) (i1 : i.toInt + 6 ≤ (sc.length : Int)) (hL : sc.length ≤ 100000) (hI : lawI hp) (hN : ∀ hp1, lawI hp1 → lV sc b 2256 i hp1) : lV sc (b + 1) 2057 i hp := by
  refine cald 2058 (lI4 210 rfl) rfl rfl ?_
  refine cald 2059 (lI4 211 rfl) rfl rfl ?_
  refine cild2 2061 (lI4 212 rfl) rfl rfl ?_
  refine ccst 2062 (1) (lI4 213 rfl) rfl (by decide) (fun z2061 h2061 => ?_)
  refine cadd 2063 _ (lI4 214 rfl) rfl rfl (by omega) (by omega) (fun z2062 h2062 => ?_)
  refine cscl 2064 (lI4 215 rfl) rfl (by omega) (by omega) (fun w2063 => ?_)
  refine cald 2065 (lI4 216 rfl) rfl rfl ?_
  refine cild2 2067 (lI4 217 rfl) rfl rfl ?_
  refine ccst 2068 (2) (lI4 218 rfl) rfl (by decide) (fun z2067 h2067 => ?_)
  refine cadd 2069 _ (lI4 219 rfl) rfl rfl (by omega) (by omega) (fun z2068 h2068 => ?_)
  refine cscl 2070 (lI4 220 rfl) rfl (by omega) (by omega) (fun w2069 => ?_)
  refine cald 2071 (lI4 221 rfl) rfl rfl ?_
  refine cild2 2073 (lI4 222 rfl) rfl rfl ?_
  refine ccst 2074 (3) (lI4 223 rfl) rfl (by decide) (fun z2073 h2073 => ?_)
  refine cadd 2075 _ (lI4 224 rfl) rfl rfl (by omega) (by omega) (fun z2074 h2074 => ?_)
  refine cscl 2076 (lI4 225 rfl) rfl (by omega) (by omega) (fun w2075 => ?_)
  refine cald 2077 (lI4 226 rfl) rfl rfl ?_
  refine ccall (kd := 1) (t := 0) [.ref 0, .int _, .int _, .int _, .ref 83] [] hI.1 (lI4 227 rfl) (Or.inr ⟨_, rfl, rfl, by decide⟩) rfl rfl rfl ⟨rfl, rfl, rfl⟩ rfl rfl rfl (h381 (d := 579) hI (fun r2077 hp2077 mc ms hI2077 hmc hms => Or.inl ⟨_, rfl, ?_⟩))
  refine cistU 2082 (lI4 228 rfl) rfl rfl rfl ?_
  refine cald 2083 (lI4 229 rfl) rfl rfl ?_
  refine cald 2084 (lI4 230 rfl) rfl rfl ?_
  refine cild2 2086 (lI4 231 rfl) rfl rfl ?_
  refine ccst 2087 (1) (lI4 232 rfl) rfl (by decide) (fun z2086 h2086 => ?_)
  refine cadd 2088 _ (lI4 233 rfl) rfl rfl (by omega) (by omega) (fun z2087 h2087 => ?_)
  refine cscl 2089 (lI4 234 rfl) rfl (by omega) (by omega) (fun w2088 => ?_)
  refine cald 2090 (lI4 235 rfl) rfl rfl ?_
  refine cild2 2092 (lI4 236 rfl) rfl rfl ?_
  refine ccst 2093 (2) (lI4 237 rfl) rfl (by decide) (fun z2092 h2092 => ?_)
  refine cadd 2094 _ (lI4 238 rfl) rfl rfl (by omega) (by omega) (fun z2093 h2093 => ?_)
  refine cscl 2095 (lI4 239 rfl) rfl (by omega) (by omega) (fun w2094 => ?_)
  refine cald 2096 (lI4 240 rfl) rfl rfl ?_
  refine cild2 2098 (lI4 241 rfl) rfl rfl ?_
  refine ccst 2099 (3) (lI4 242 rfl) rfl (by decide) (fun z2098 h2098 => ?_)
  refine cadd 2100 _ (lI4 243 rfl) rfl rfl (by omega) (by omega) (fun z2099 h2099 => ?_)
  refine cscl 2101 (lI4 244 rfl) rfl (by omega) (by omega) (fun w2100 => ?_)
  refine ccall (kd := 0) (t := 0) [.ref 66, .int _, .int _, .int _] [] hI2077.1 (lI4 245 rfl) (Or.inl ⟨_, rfl, rfl, by decide, by decide⟩) rfl rfl rfl ⟨rfl, rfl, rfl⟩ rfl (recv66 hI2077.1 _) rfl (qI (bQ6_s bf_18 (List.mem_of_getElem? (i := 115) rfl)) rfl hI2077 ⟨a66r, ai _, ai _, ai _, trivial⟩ rfl rfl rfl rfl (fun r2101 hp2101 hI2101 => Or.inl ⟨_, rfl, ?_⟩) (fun E _ _ hE => by cases hE))
  refine cistU 2106 (lI4 246 rfl) rfl rfl rfl ?_
  refine cgoto (lI4 247 rfl) ?_
  exact cmono (hN hp2101 hI2101) (fun y hp9 m9 s9 h9 => ⟨h9.1, by have := h9.2.1; omega, by have := h9.2.2; omega⟩)
theorem cs57 {sc : List Int32} {b : Nat} {i : Int32} {hp : amH} (i0 : 0 ≤ i.toInt) (i1 : i.toInt + 6 ≤ (sc.length : Int)) (hL : sc.length ≤ 100000) (hI : lawI hp) (hN : ∀ hp1, lawI hp1 → lV sc b 2256 i hp1) : lV sc (b + 1) 2109 i hp := by
  refine cald 2110 (lI4 248 rfl) rfl rfl ?_
  refine cald 2111 (lI4 249 rfl) rfl rfl ?_
  refine cild2 2113 (lI5 0 rfl) rfl rfl ?_
  refine ccst 2114 (1) (lI5 1 rfl) rfl (by decide) (fun z2113 h2113 => ?_)
  refine cadd 2115 _ (lI5 2 rfl) rfl rfl (by omega) (by omega) (fun z2114 h2114 => ?_)
  refine cscl 2116 (lI5 3 rfl) rfl (by omega) (by omega) (fun w2115 => ?_)
  refine cald 2117 (lI5 4 rfl) rfl rfl ?_
  refine cild2 2119 (lI5 5 rfl) rfl rfl ?_
  refine ccst 2120 (2) (lI5 6 rfl) rfl (by decide) (fun z2119 h2119 => ?_)
  refine cadd 2121 _ (lI5 7 rfl) rfl rfl (by omega) (by omega) (fun z2120 h2120 => ?_)
  refine cscl 2122 (lI5 8 rfl) rfl (by omega) (by omega) (fun w2121 => ?_)
  refine cald 2123 (lI5 9 rfl) rfl rfl ?_
  refine cild2 2125 (lI5 10 rfl) rfl rfl ?_
  refine ccst 2126 (3) (lI5 11 rfl) rfl (by decide) (fun z2125 h2125 => ?_)
  refine cadd 2127 _ (lI5 12 rfl) rfl rfl (by omega) (by omega) (fun z2126 h2126 => ?_)
  refine cscl 2128 (lI5 13 rfl) rfl (by omega) (by omega) (fun w2127 => ?_)
  refine cald 2129 (lI5 14 rfl) rfl rfl ?_
  refine ccall (kd := 1) (t := 0) [.ref 0, .int _, .int _, .int _, .ref 83] [] hI.1 (lI5 15 rfl) (Or.inr ⟨_, rfl, rfl, by decide⟩) rfl rfl rfl ⟨rfl, rfl, rfl⟩ rfl rfl rfl (h382 (d := 579) hI (fun r2129 hp2129 mc ms hI2129 hmc hms => Or.inl ⟨_, rfl, ?_⟩))
  refine cistU 2134 (lI5 16 rfl) rfl rfl rfl ?_
  refine cald 2135 (lI5 17 rfl) rfl rfl ?_
  refine cald 2136 (lI5 18 rfl) rfl rfl ?_
  refine cild2 2138 (lI5 19 rfl) rfl rfl ?_
  refine ccst 2139 (1) (lI5 20 rfl) rfl (by decide) (fun z2138 h2138 => ?_)
  refine cadd 2140 _ (lI5 21 rfl) rfl rfl (by omega) (by omega) (fun z2139 h2139 => ?_)
  refine cscl 2141 (lI5 22 rfl) rfl (by omega) (by omega) (fun w2140 => ?_)
  refine cald 2142 (lI5 23 rfl) rfl rfl ?_
  refine cild2 2144 (lI5 24 rfl) rfl rfl ?_
  refine ccst 2145 (2) (lI5 25 rfl) rfl (by decide) (fun z2144 h2144 => ?_)
  refine cadd 2146 _ (lI5 26 rfl) rfl rfl (by omega) (by omega) (fun z2145 h2145 => ?_)
  refine cscl 2147 (lI5 27 rfl) rfl (by omega) (by omega) (fun w2146 => ?_)
  refine cald 2148 (lI5 28 rfl) rfl rfl ?_
  refine cild2 2150 (lI5 29 rfl) rfl rfl ?_
  refine ccst 2151 (3) (lI5 30 rfl) rfl (by decide) (fun z2150 h2150 => ?_)
  refine cadd 2152 _ (lI5 31 rfl) rfl rfl (by omega) (by omega) (fun z2151 h2151 => ?_)
  refine cscl 2153 (lI5 32 rfl) rfl (by omega) (by omega) (fun w2152 => ?_)
  refine ccall (kd := 0) (t := 0) [.ref 66, .int _, .int _, .int _] [] hI2129.1 (lI5 33 rfl) (Or.inl ⟨_, rfl, rfl, by decide, by decide⟩) rfl rfl rfl ⟨rfl, rfl, rfl⟩ rfl (recv66 hI2129.1 _) rfl (qI p276_s rfl hI2129 ⟨a66r, ai _, ai _, ai _, trivial⟩ rfl rfl rfl rfl (fun r2153 hp2153 hI2153 => Or.inl ⟨_, rfl, ?_⟩) (fun E _ _ hE => by cases hE))
  refine cistU 2158 (lI5 34 rfl) rfl rfl rfl ?_
  refine cgoto (lI5 35 rfl) ?_
  exact cmono (hN hp2153 hI2153) (fun y hp9 m9 s9 h9 => ⟨h9.1, by have := h9.2.1; omega, by have := h9.2.2; omega⟩)
theorem cs58 {sc : List Int32} {b : Nat} {i : Int32} {hp : amH} (i0 : 0 ≤ i.toInt) (i1 : i.toInt + 6 ≤ (sc.length : Int)) (hL : sc.length ≤ 100000) (hI : lawI hp) (hN : ∀ hp1, lawI hp1 → lV sc b 2256 i hp1) : lV sc (b + 1) 2161 i hp := by
  refine cald 2162 (lI5 36 rfl) rfl rfl ?_
  refine cald 2163 (lI5 37 rfl) rfl rfl ?_
  refine cild2 2165 (lI5 38 rfl) rfl rfl ?_
  refine ccst 2166 (1) (lI5 39 rfl) rfl (by decide) (fun z2165 h2165 => ?_)
  refine cadd 2167 _ (lI5 40 rfl) rfl rfl (by omega) (by omega) (fun z2166 h2166 => ?_)
  refine cscl 2168 (lI5 41 rfl) rfl (by omega) (by omega) (fun w2167 => ?_)
  refine cald 2169 (lI5 42 rfl) rfl rfl ?_
  refine ccall (kd := 1) (t := 0) [.ref 0, .int _, .ref 83] [] hI.1 (lI5 43 rfl) (Or.inr ⟨_, rfl, rfl, by decide⟩) rfl rfl rfl ⟨rfl, rfl, rfl⟩ rfl rfl rfl (h383 (d := 579) hI (fun r2169 hp2169 mc ms hI2169 hmc hms => Or.inl ⟨_, rfl, ?_⟩))
  refine cistU 2174 (lI5 44 rfl) rfl rfl rfl ?_
  refine cald 2175 (lI5 45 rfl) rfl rfl ?_
  refine cald 2176 (lI5 46 rfl) rfl rfl ?_
  refine cild2 2178 (lI5 47 rfl) rfl rfl ?_
  refine ccst 2179 (1) (lI5 48 rfl) rfl (by decide) (fun z2178 h2178 => ?_)
  refine cadd 2180 _ (lI5 49 rfl) rfl rfl (by omega) (by omega) (fun z2179 h2179 => ?_)
  refine cscl 2181 (lI5 50 rfl) rfl (by omega) (by omega) (fun w2180 => ?_)
  refine ccall (kd := 0) (t := 0) [.ref 66, .int _] [] hI2169.1 (lI5 51 rfl) (Or.inl ⟨_, rfl, rfl, by decide, by decide⟩) rfl rfl rfl ⟨rfl, rfl, rfl⟩ rfl (recv66 hI2169.1 _) rfl (qI p337_s rfl hI2169 ⟨a66r, ai _, trivial⟩ rfl rfl rfl rfl (fun r2181 hp2181 hI2181 => Or.inl ⟨_, rfl, ?_⟩) (fun E _ _ hE => by cases hE))
  refine cistU 2186 (lI5 52 rfl) rfl rfl rfl ?_
  refine cgoto (lI5 53 rfl) ?_
  exact cmono (hN hp2181 hI2181) (fun y hp9 m9 s9 h9 => ⟨h9.1, by have := h9.2.1; omega, by have := h9.2.2; omega⟩)
theorem cs59 {sc : List Int32} {b : Nat} {i : Int32} {hp : amH} (i0 : 0 ≤ i.toInt) (i1 : i.toInt + 6 ≤ (sc.length : Int)) (hL : sc.length ≤ 100000) (hI : lawI hp) (hN : ∀ hp1, lawI hp1 → lV sc b 2256 i hp1) : lV sc (b + 1) 2189 i hp := by
  refine cald 2190 (lI5 54 rfl) rfl rfl ?_
  refine cald 2191 (lI5 55 rfl) rfl rfl ?_
  refine cild2 2193 (lI5 56 rfl) rfl rfl ?_
  refine ccst 2194 (1) (lI5 57 rfl) rfl (by decide) (fun z2193 h2193 => ?_)
  refine cadd 2195 _ (lI5 58 rfl) rfl rfl (by omega) (by omega) (fun z2194 h2194 => ?_)
  refine cscl 2196 (lI5 59 rfl) rfl (by omega) (by omega) (fun w2195 => ?_)
  refine ccall (kd := 0) (t := 0) [.ref 0, .int _] [] hI.1 (lI5 60 rfl) (Or.inl ⟨_, rfl, rfl, by decide, by decide⟩) rfl rfl rfl ⟨rfl, rfl, rfl⟩ rfl (recv0 hI.1 _) rfl (qI (bL8_s be_165 (List.mem_of_getElem? (i := 9) rfl)) rfl hI ⟨a0r, ai _, trivial⟩ rfl rfl rfl rfl (fun r2196 hp2196 hI2196 => Or.inl ⟨_, rfl, ?_⟩) (fun E _ _ hE => by cases hE))
  refine cpop 2200 (lI5 61 rfl) rfl rfl ?_
  refine cald 2201 (lI5 62 rfl) rfl rfl ?_
  refine cald 2202 (lI5 63 rfl) rfl rfl ?_
  refine cild2 2204 (lI5 64 rfl) rfl rfl ?_
  refine ccst 2205 (1) (lI5 65 rfl) rfl (by decide) (fun z2204 h2204 => ?_)
  refine cadd 2206 _ (lI5 66 rfl) rfl rfl (by omega) (by omega) (fun z2205 h2205 => ?_)
  refine cscl 2207 (lI5 67 rfl) rfl (by omega) (by omega) (fun w2206 => ?_)
  refine ccall (kd := 0) (t := 0) [.ref 66, .int _] [] hI2196.1 (lI5 68 rfl) (Or.inl ⟨_, rfl, rfl, by decide, by decide⟩) rfl rfl rfl ⟨rfl, rfl, rfl⟩ rfl (recv66 hI2196.1 _) rfl (qI (bQ6_s bf_133 (List.mem_of_getElem? (i := 0) rfl)) rfl hI2196 ⟨a66r, ai _, trivial⟩ rfl rfl rfl rfl (fun r2207 hp2207 hI2207 => Or.inl ⟨_, rfl, ?_⟩) (fun E _ _ hE => by cases hE))
  refine cpop 2211 (lI5 69 rfl) rfl rfl ?_
  refine cgoto (lI5 70 rfl) ?_
  exact cmono (hN hp2207 hI2207) (fun y hp9 m9 s9 h9 => ⟨h9.1, by have := h9.2.1; omega, by have := h9.2.2; omega⟩)
theorem cs60 {sc : List Int32} {b : Nat} {i : Int32} {hp : amH} (i0 : 0 ≤ i.toInt) (i1 : i.toInt + 6 ≤ (sc.length : Int)) (hL : sc.length ≤ 100000) (hI : lawI hp) (hN : ∀ hp1, lawI hp1 → lV sc b 2256 i hp1) : lV sc (b + 1) 2214 i hp := by
  refine cald 2215 (lI5 71 rfl) rfl rfl ?_
  refine ccall (kd := 0) (t := 0) [.ref 0] [] hI.1 (lI5 72 rfl) (Or.inl ⟨_, rfl, rfl, by decide, by decide⟩) rfl rfl rfl ⟨rfl, rfl, rfl⟩ rfl (recv0 hI.1 _) rfl (qI (bL8_s be_170 (List.mem_of_getElem? (i := 4) rfl)) rfl hI ⟨a0r, trivial⟩ rfl rfl rfl rfl (fun r2215 hp2215 hI2215 => Or.inl ⟨_, rfl, ?_⟩) (fun E _ _ hE => by cases hE))
  refine cpop 2219 (lI5 73 rfl) rfl rfl ?_
  refine cald 2220 (lI5 74 rfl) rfl rfl ?_
  refine ccall (kd := 0) (t := 0) [.ref 66] [] hI2215.1 (lI5 75 rfl) (Or.inl ⟨_, rfl, rfl, by decide, by decide⟩) rfl rfl rfl ⟨rfl, rfl, rfl⟩ rfl (recv66 hI2215.1 _) rfl (qI p339_s rfl hI2215 ⟨a66r, trivial⟩ rfl rfl rfl rfl (fun r2220 hp2220 hI2220 => Or.inl ⟨_, rfl, ?_⟩) (fun E _ _ hE => by cases hE))
  refine cpop 2224 (lI5 76 rfl) rfl rfl ?_
  refine cgoto (lI5 77 rfl) ?_
  exact cmono (hN hp2220 hI2220) (fun y hp9 m9 s9 h9 => ⟨h9.1, by have := h9.2.1; omega, by have := h9.2.2; omega⟩)
theorem cs61 {sc : List Int32} {b : Nat} {i : Int32} {hp : amH} (i0 : 0 ≤ i.toInt) (i1 : i.toInt + 6 ≤ (sc.length : Int)) (hL : sc.length ≤ 100000) (hI : lawI hp) (hN : ∀ hp1, lawI hp1 → lV sc b 2256 i hp1) : lV sc (b + 1) 2227 i hp := by
  refine cald 2228 (lI5 78 rfl) rfl rfl ?_
  refine ccall (kd := 0) (t := 0) [.ref 0] [] hI.1 (lI5 79 rfl) (Or.inl ⟨_, rfl, rfl, by decide, by decide⟩) rfl rfl rfl ⟨rfl, rfl, rfl⟩ rfl (recv0 hI.1 _) rfl (qI (bL8_s be_172 (List.mem_of_getElem? (i := 2) rfl)) rfl hI ⟨a0r, trivial⟩ rfl rfl rfl rfl (fun r2228 hp2228 hI2228 => Or.inl ⟨_, rfl, ?_⟩) (fun E _ _ hE => by cases hE))
  refine cpop 2232 (lI5 80 rfl) rfl rfl ?_
  refine cald 2233 (lI5 81 rfl) rfl rfl ?_
  refine ccall (kd := 0) (t := 0) [.ref 66] [] hI2228.1 (lI5 82 rfl) (Or.inl ⟨_, rfl, rfl, by decide, by decide⟩) rfl rfl rfl ⟨rfl, rfl, rfl⟩ rfl (recv66 hI2228.1 _) rfl (qI p340_s rfl hI2228 ⟨a66r, trivial⟩ rfl rfl rfl rfl (fun r2233 hp2233 hI2233 => Or.inl ⟨_, rfl, ?_⟩) (fun E _ _ hE => by cases hE))
  refine cpop 2237 (lI5 83 rfl) rfl rfl ?_
  refine cgoto (lI5 84 rfl) ?_
  exact cmono (hN hp2233 hI2233) (fun y hp9 m9 s9 h9 => ⟨h9.1, by have := h9.2.1; omega, by have := h9.2.2; omega⟩)
theorem cs62 {sc : List Int32} {b : Nat} {i : Int32} {hp : amH} (i0 : 0 ≤ i.toInt) (i1 : i.toInt + 6 ≤ (sc.length : Int)) (hL : sc.length ≤ 100000) (hI : lawI hp) (hN : ∀ hp1, lawI hp1 → lV sc b 2256 i hp1) : lV sc (b + 1) 2240 i hp := by
  refine cald 2241 (lI5 85 rfl) rfl rfl ?_
  refine cald 2242 (lI5 86 rfl) rfl rfl ?_
  refine ccall (kd := 1) (t := 0) [.ref 0, .ref 83] [] hI.1 (lI5 87 rfl) (Or.inr ⟨_, rfl, rfl, by decide⟩) rfl rfl rfl ⟨rfl, rfl, rfl⟩ rfl rfl rfl (h384 (d := 579) hI (fun r2242 hp2242 mc ms hI2242 hmc hms => Or.inl ⟨_, rfl, ?_⟩))
  refine cistU 2247 (lI5 88 rfl) rfl rfl rfl ?_
  refine cald 2248 (lI5 89 rfl) rfl rfl ?_
  refine ccall (kd := 0) (t := 0) [.ref 66] [] hI2242.1 (lI5 90 rfl) (Or.inl ⟨_, rfl, rfl, by decide, by decide⟩) rfl rfl rfl ⟨rfl, rfl, rfl⟩ rfl (recv66 hI2242.1 _) rfl (qI p341_s rfl hI2242 ⟨a66r, trivial⟩ rfl rfl rfl rfl (fun r2248 hp2248 hI2248 => Or.inl ⟨_, rfl, ?_⟩) (fun E _ _ hE => by cases hE))
  refine cistU 2253 (lI5 91 rfl) rfl rfl rfl ?_
  refine cgoto (lI5 92 rfl) ?_
  exact cmono (hN hp2248 hI2248) (fun y hp9 m9 s9 h9 => ⟨h9.1, by have := h9.2.1; omega, by have := h9.2.2; omega⟩)
