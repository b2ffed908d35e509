/-! ===== the law's cases (i) ===== -/
theorem cs25 {sc : List Int32} {b : Nat} {i : Int32} {hp : amH} (i0 : 0 ≤ i.toInt) (i1 : i.toInt + 6 ≤ (sc.length : Int)) (hL : sc.length ≤ 100000) (hI : lawI hp) (hN : ∀ hp1, lawI hp1 → lV sc b 2256 i hp1) : lV sc (b + 1) 1089 i hp := by
  refine cald 1090 (lI2 56 rfl) rfl rfl ?_
  refine cald 1091 (lI2 57 rfl) rfl rfl ?_
  refine cild2 1093 (lI2 58 rfl) rfl rfl ?_
  refine ccst 1094 (1) (lI2 59 rfl) rfl (by decide) (fun z1093 h1093 => ?_)
  refine cadd 1095 _ (lI2 60 rfl) rfl rfl (by omega) (by omega) (fun z1094 h1094 => ?_)
  refine cscl 1096 (lI2 61 rfl) rfl (by omega) (by omega) (fun w1095 => ?_)
  refine cif 1099 (lI2 62 rfl) rfl ?_ ?_
  · refine ccst 1104 (0) (lI2 65 rfl) rfl (by decide) (fun z1103 h1103 => ?_)
    refine ccall (kd := 0) (t := 0) [.ref 0, .int _] [] hI.1 (lI2 66 rfl) (Or.inl ⟨_, rfl, rfl, by decide, by decide⟩) rfl rfl rfl ⟨rfl, rfl, rfl⟩ rfl (recv0 hI.1 _) rfl (qI (bL8_s be_90 (List.mem_of_getElem? (i := 106) rfl)) rfl hI ⟨a0r, aB (by omega), trivial⟩ rfl rfl rfl rfl (fun r1104 hp1104 hI1104 => Or.inl ⟨_, rfl, ?_⟩) (fun E _ _ hE => by cases hE))
    refine cpop 1108 (lI2 67 rfl) rfl rfl ?_
    refine cald 1109 (lI2 68 rfl) rfl rfl ?_
    refine cald 1110 (lI2 69 rfl) rfl rfl ?_
    refine cild2 1112 (lI2 70 rfl) rfl rfl ?_
    refine ccst 1113 (1) (lI2 71 rfl) rfl (by decide) (fun z1112 h1112 => ?_)
    refine cadd 1114 _ (lI2 72 rfl) rfl rfl (by omega) (by omega) (fun z1113 h1113 => ?_)
    refine cscl 1115 (lI2 73 rfl) rfl (by omega) (by omega) (fun w1114 => ?_)
    refine cif 1118 (lI2 74 rfl) rfl ?_ ?_
    · refine ccst 1123 (0) (lI2 77 rfl) rfl (by decide) (fun z1122 h1122 => ?_)
      refine ccall (kd := 0) (t := 0) [.ref 66, .int _] [] hI1104.1 (lI2 78 rfl) (Or.inl ⟨_, rfl, rfl, by decide, by decide⟩) rfl rfl rfl ⟨rfl, rfl, rfl⟩ rfl (recv66 hI1104.1 _) rfl (qI p294_s rfl hI1104 ⟨a66r, ai _, trivial⟩ rfl rfl rfl rfl (fun r1123 hp1123 hI1123 => Or.inl ⟨_, rfl, ?_⟩) (fun E _ _ hE => by cases hE))
      refine cpop 1127 (lI2 79 rfl) rfl rfl ?_
      refine cgoto (lI2 80 rfl) ?_
      exact cmono (hN hp1123 hI1123) (fun y hp9 m9 s9 h9 => ⟨h9.1, by have := h9.2.1; omega, by have := h9.2.2; omega⟩)
    · refine ccst 1119 (1) (lI2 75 rfl) rfl (by decide) (fun z1118 h1118 => ?_)
      refine cgoto (lI2 76 rfl) ?_
      refine ccall (kd := 0) (t := 0) [.ref 66, .int _] [] hI1104.1 (lI2 78 rfl) (Or.inl ⟨_, rfl, rfl, by decide, by decide⟩) rfl rfl rfl ⟨rfl, rfl, rfl⟩ rfl (recv66 hI1104.1 _) rfl (qI p294_s rfl hI1104 ⟨a66r, ai _, trivial⟩ rfl rfl rfl rfl (fun r1123 hp1123 hI1123 => Or.inl ⟨_, rfl, ?_⟩) (fun E _ _ hE => by cases hE))
      refine cpop 1127 (lI2 79 rfl) rfl rfl ?_
      refine cgoto (lI2 80 rfl) ?_
      exact cmono (hN hp1123 hI1123) (fun y hp9 m9 s9 h9 => ⟨h9.1, by have := h9.2.1; omega, by have := h9.2.2; omega⟩)
  · refine ccst 1100 (1) (lI2 63 rfl) rfl (by decide) (fun z1099 h1099 => ?_)
    refine cgoto (lI2 64 rfl) ?_
    refine ccall (kd := 0) (t := 0) [.ref 0, .int _] [] hI.1 (lI2 66 rfl) (Or.inl ⟨_, rfl, rfl, by decide, by decide⟩) rfl rfl rfl ⟨rfl, rfl, rfl⟩ rfl (recv0 hI.1 _) rfl (qI (bL8_s be_90 (List.mem_of_getElem? (i := 106) rfl)) rfl hI ⟨a0r, aB (by omega), trivial⟩ rfl rfl rfl rfl (fun r1104 hp1104 hI1104 => Or.inl ⟨_, rfl, ?_⟩) (fun E _ _ hE => by cases hE))
    refine cpop 1108 (lI2 67 rfl) rfl rfl ?_
    refine cald 1109 (lI2 68 rfl) rfl rfl ?_
    refine cald 1110 (lI2 69 rfl) rfl rfl ?_
    refine cild2 1112 (lI2 70 rfl) rfl rfl ?_
    refine ccst 1113 (1) (lI2 71 rfl) rfl (by decide) (fun z1112 h1112 => ?_)
    refine cadd 1114 _ (lI2 72 rfl) rfl rfl (by omega) (by omega) (fun z1113 h1113 => ?_)
    refine cscl 1115 (lI2 73 rfl) rfl (by omega) (by omega) (fun w1114 => ?_)
    refine cif 1118 (lI2 74 rfl) rfl ?_ ?_
    · refine ccst 1123 (0) (lI2 77 rfl) rfl (by decide) (fun z1122 h1122 => ?_)
      refine ccall (kd := 0) (t := 0) [.ref 66, .int _] [] hI1104.1 (lI2 78 rfl) (Or.inl ⟨_, rfl, rfl, by decide, by decide⟩) rfl rfl rfl ⟨rfl, rfl, rfl⟩ rfl (recv66 hI1104.1 _) rfl (qI p294_s rfl hI1104 ⟨a66r, ai _, trivial⟩ rfl rfl rfl rfl (fun r1123 hp1123 hI1123 => Or.inl ⟨_, rfl, ?_⟩) (fun E _ _ hE => by cases hE))
      refine cpop 1127 (lI2 79 rfl) rfl rfl ?_
      refine cgoto (lI2 80 rfl) ?_
      exact cmono (hN hp1123 hI1123) (fun y hp9 m9 s9 h9 => ⟨h9.1, by have := h9.2.1; omega, by have := h9.2.2; omega⟩)
    · refine ccst 1119 (1) (lI2 75 rfl) rfl (by decide) (fun z1118 h1118 => ?_)
      refine cgoto (lI2 76 rfl) ?_
      refine ccall (kd := 0) (t := 0) [.ref 66, .int _] [] hI1104.1 (lI2 78 rfl) (Or.inl ⟨_, rfl, rfl, by decide, by decide⟩) rfl rfl rfl ⟨rfl, rfl, rfl⟩ rfl (recv66 hI1104.1 _) rfl (qI p294_s rfl hI1104 ⟨a66r, ai _, trivial⟩ rfl rfl rfl rfl (fun r1123 hp1123 hI1123 => Or.inl ⟨_, rfl, ?_⟩) (fun E _ _ hE => by cases hE))
      refine cpop 1127 (lI2 79 rfl) rfl rfl ?_
      refine cgoto (lI2 80 rfl) ?_
      exact cmono (hN hp1123 hI1123) (fun y hp9 m9 s9 h9 => ⟨h9.1, by have := h9.2.1; omega, by have := h9.2.2; omega⟩)
theorem cs26 {sc : List Int32} {b : Nat} {i : Int32} {hp : amH} (i0 : 0 ≤ i.toInt) (i1 : i.toInt + 6 ≤ (sc.length : Int)) (hL : sc.length ≤ 100000) (hI : lawI hp) (hN : ∀ hp1, lawI hp1 → lV sc b 2256 i hp1) : lV sc (b + 1) 1130 i hp := by
  refine cald 1131 (lI2 81 rfl) rfl rfl ?_
  refine cald 1132 (lI2 82 rfl) rfl rfl ?_
  refine cild2 1134 (lI2 83 rfl) rfl rfl ?_
  refine ccst 1135 (1) (lI2 84 rfl) rfl (by decide) (fun z1134 h1134 => ?_)
  refine cadd 1136 _ (lI2 85 rfl) rfl rfl (by omega) (by omega) (fun z1135 h1135 => ?_)
  refine cscl 1137 (lI2 86 rfl) rfl (by omega) (by omega) (fun w1136 => ?_)
  refine cald 1138 (lI2 87 rfl) rfl rfl ?_
  refine ccall (kd := 1) (t := 0) [.ref 0, .int _, .ref 83] [] hI.1 (lI2 88 rfl) (Or.inr ⟨_, rfl, rfl, by decide⟩) rfl rfl rfl ⟨rfl, rfl, rfl⟩ rfl rfl rfl (h364 (d := 579) hI (fun r1138 hp1138 mc ms hI1138 hmc hms => Or.inl ⟨_, rfl, ?_⟩))
  refine cistU 1143 (lI2 89 rfl) rfl rfl rfl ?_
  refine cald 1144 (lI2 90 rfl) rfl rfl ?_
  refine cald 1145 (lI2 91 rfl) rfl rfl ?_
  refine cild2 1147 (lI2 92 rfl) rfl rfl ?_
  refine ccst 1148 (1) (lI2 93 rfl) rfl (by decide) (fun z1147 h1147 => ?_)
  refine cadd 1149 _ (lI2 94 rfl) rfl rfl (by omega) (by omega) (fun z1148 h1148 => ?_)
  refine cscl 1150 (lI2 95 rfl) rfl (by omega) (by omega) (fun w1149 => ?_)
  refine ccall (kd := 0) (t := 0) [.ref 66, .int _] [] hI1138.1 (lI2 96 rfl) (Or.inl ⟨_, rfl, rfl, by decide, by decide⟩) rfl rfl rfl ⟨rfl, rfl, rfl⟩ rfl (recv66 hI1138.1 _) rfl (qI p295_s rfl hI1138 ⟨a66r, ai _, trivial⟩ rfl rfl rfl rfl (fun r1150 hp1150 hI1150 => Or.inl ⟨_, rfl, ?_⟩) (fun E _ _ hE => by cases hE))
  refine cistU 1155 (lI2 97 rfl) rfl rfl rfl ?_
  refine cgoto (lI2 98 rfl) ?_
  exact cmono (hN hp1150 hI1150) (fun y hp9 m9 s9 h9 => ⟨h9.1, by have := h9.2.1; omega, by have := h9.2.2; omega⟩)
theorem cs27 {sc : List Int32} {b : Nat} {i : Int32} {hp : amH} (i0 : 0 ≤ i.toInt) (i1 : i.toInt + 6 ≤ (sc.length : Int)) (hL : sc.length ≤ 100000) (hI : lawI hp) (hN : ∀ hp1, lawI hp1 → lV sc b 2256 i hp1) : lV sc (b + 1) 1158 i hp := by
  refine cald 1159 (lI2 99 rfl) rfl rfl ?_
  refine cald 1160 (lI2 100 rfl) rfl rfl ?_
  refine cild2 1162 (lI2 101 rfl) rfl rfl ?_
  refine ccst 1163 (1) (lI2 102 rfl) rfl (by decide) (fun z1162 h1162 => ?_)
  refine cadd 1164 _ (lI2 103 rfl) rfl rfl (by omega) (by omega) (fun z1163 h1163 => ?_)
  refine cscl 1165 (lI2 104 rfl) rfl (by omega) (by omega) (fun w1164 => ?_)
  refine cald 1166 (lI2 105 rfl) rfl rfl ?_
  refine cild2 1168 (lI2 106 rfl) rfl rfl ?_
  refine ccst 1169 (2) (lI2 107 rfl) rfl (by decide) (fun z1168 h1168 => ?_)
  refine cadd 1170 _ (lI2 108 rfl) rfl rfl (by omega) (by omega) (fun z1169 h1169 => ?_)
  refine cscl 1171 (lI2 109 rfl) rfl (by omega) (by omega) (fun w1170 => ?_)
  refine cald 1172 (lI2 110 rfl) rfl rfl ?_
  refine ccall (kd := 1) (t := 0) [.ref 0, .int _, .int _, .ref 83] [] hI.1 (lI2 111 rfl) (Or.inr ⟨_, rfl, rfl, by decide⟩) rfl rfl rfl ⟨rfl, rfl, rfl⟩ rfl rfl rfl (h365 (d := 579) hI (fun r1172 hp1172 mc ms hI1172 hmc hms => Or.inl ⟨_, rfl, ?_⟩))
  refine cistU 1177 (lI2 112 rfl) rfl rfl rfl ?_
  refine cald 1178 (lI2 113 rfl) rfl rfl ?_
  refine cald 1179 (lI2 114 rfl) rfl rfl ?_
  refine cild2 1181 (lI2 115 rfl) rfl rfl ?_
  refine ccst 1182 (1) (lI2 116 rfl) rfl (by decide) (fun z1181 h1181 => ?_)
  refine cadd 1183 _ (lI2 117 rfl) rfl rfl (by omega) (by omega) (fun z1182 h1182 => ?_)
  refine cscl 1184 (lI2 118 rfl) rfl (by omega) (by omega) (fun w1183 => ?_)
  refine cald 1185 (lI2 119 rfl) rfl rfl ?_
  refine cild2 1187 (lI2 120 rfl) rfl rfl ?_
  refine ccst 1188 (2) (lI2 121 rfl) rfl (by decide) (fun z1187 h1187 => ?_)
  refine cadd 1189 _ (lI2 122 rfl) rfl rfl (by omega) (by omega) (fun z1188 h1188 => ?_)
  refine cscl 1190 (lI2 123 rfl) rfl (by omega) (by omega) (fun w1189 => ?_)
  refine ccall (kd := 0) (t := 0) [.ref 66, .int _, .int _] [] hI1172.1 (lI2 124 rfl) (Or.inl ⟨_, rfl, rfl, by decide, by decide⟩) rfl rfl rfl ⟨rfl, rfl, rfl⟩ rfl (recv66 hI1172.1 _) rfl (qI (bQ6_s bf_42 (List.mem_of_getElem? (i := 91) rfl)) rfl hI1172 ⟨a66r, ai _, ai _, trivial⟩ rfl rfl rfl rfl (fun r1190 hp1190 hI1190 => Or.inl ⟨_, rfl, ?_⟩) (fun E _ _ hE => by cases hE))
  refine cistU 1195 (lI2 125 rfl) rfl rfl rfl ?_
  refine cgoto (lI2 126 rfl) ?_
  exact cmono (hN hp1190 hI1190) (fun y hp9 m9 s9 h9 => ⟨h9.1, by have := h9.2.1; omega, by have := h9.2.2; omega⟩)
theorem cs28 {sc : List Int32} {b : Nat} {i : Int32} {hp : amH} (i0 : 0 ≤ i.toInt) (i1 : i.toInt + 6 ≤ (sc.length : Int)) (hL : sc.length ≤ 100000) (hI : lawI hp) (hN : ∀ hp1, lawI hp1 → lV sc b 2256 i hp1) : lV sc (b + 1) 1198 i hp := by
  refine cald 1199 (lI2 127 rfl) rfl rfl ?_
  refine cald 1200 (lI2 128 rfl) rfl rfl ?_
  refine cild2 1202 (lI2 129 rfl) rfl rfl ?_
  refine ccst 1203 (1) (lI2 130 rfl) rfl (by decide) (fun z1202 h1202 => ?_)
  refine cadd 1204 _ (lI2 131 rfl) rfl rfl (by omega) (by omega) (fun z1203 h1203 => ?_)
  refine cscl 1205 (lI2 132 rfl) rfl (by omega) (by omega) (fun w1204 => ?_)
  refine cald 1206 (lI2 133 rfl) rfl rfl ?_
  refine cild2 1208 (lI2 134 rfl) rfl rfl ?_
  refine ccst 1209 (2) (lI2 135 rfl) rfl (by decide) (fun z1208 h1208 => ?_)
  refine cadd 1210 _ (lI2 136 rfl) rfl rfl (by omega) (by omega) (fun z1209 h1209 => ?_)
  refine cscl 1211 (lI2 137 rfl) rfl (by omega) (by omega) (fun w1210 => ?_)
  refine cald 1212 (lI2 138 rfl) rfl rfl ?_
  refine cild2 1214 (lI2 139 rfl) rfl rfl ?_
  refine ccst 1215 (3) (lI2 140 rfl) rfl (by decide) (fun z1214 h1214 => ?_)
  refine cadd 1216 _ (lI2 141 rfl) rfl rfl (by omega) (by omega) (fun z1215 h1215 => ?_)
  refine cscl 1217 (lI2 142 rfl) rfl (by omega) (by omega) (fun w1216 => ?_)
  refine cald 1218 (lI2 143 rfl) rfl rfl ?_
  refine ccall (kd := 1) (t := 0) [.ref 0, .int _, .int _, .int _, .ref 83] [] hI.1 (lI2 144 rfl) (Or.inr ⟨_, rfl, rfl, by decide⟩) rfl rfl rfl ⟨rfl, rfl, rfl⟩ rfl rfl rfl (h366 (d := 579) hI (fun r1218 hp1218 mc ms hI1218 hmc hms => Or.inl ⟨_, rfl, ?_⟩))
  refine cistU 1223 (lI2 145 rfl) rfl rfl rfl ?_
  refine cald 1224 (lI2 146 rfl) rfl rfl ?_
  refine cald 1225 (lI2 147 rfl) rfl rfl ?_
  refine cild2 1227 (lI2 148 rfl) rfl rfl ?_
  refine ccst 1228 (1) (lI2 149 rfl) rfl (by decide) (fun z1227 h1227 => ?_)
  refine cadd 1229 _ (lI2 150 rfl) rfl rfl (by omega) (by omega) (fun z1228 h1228 => ?_)
  refine cscl 1230 (lI2 151 rfl) rfl (by omega) (by omega) (fun w1229 => ?_)
  refine cald 1231 (lI2 152 rfl) rfl rfl ?_
  refine cild2 1233 (lI2 153 rfl) rfl rfl ?_
  refine ccst 1234 (2) (lI2 154 rfl) rfl (by decide) (fun z1233 h1233 => ?_)
  refine cadd 1235 _ (lI2 155 rfl) rfl rfl (by omega) (by omega) (fun z1234 h1234 => ?_)
  refine cscl 1236 (lI2 156 rfl) rfl (by omega) (by omega) (fun w1235 => ?_)
  refine cald 1237 (lI2 157 rfl) rfl rfl ?_
  refine cild2 1239 (lI2 158 rfl) rfl rfl ?_
  refine ccst 1240 (3) (lI2 159 rfl) rfl (by decide) (fun z1239 h1239 => ?_)
  refine cadd 1241 _ (lI2 160 rfl) rfl rfl (by omega) (by omega) (fun z1240 h1240 => ?_)
  refine cscl 1242 (lI2 161 rfl) rfl (by omega) (by omega) (fun w1241 => ?_)
  refine ccall (kd := 0) (t := 0) [.ref 66, .int _, .int _, .int _] [] hI1218.1 (lI2 162 rfl) (Or.inl ⟨_, rfl, rfl, by decide, by decide⟩) rfl rfl rfl ⟨rfl, rfl, rfl⟩ rfl (recv66 hI1218.1 _) rfl (qI (bQ6_s bf_44 (List.mem_of_getElem? (i := 89) rfl)) rfl hI1218 ⟨a66r, ai _, ai _, ai _, trivial⟩ rfl rfl rfl rfl (fun r1242 hp1242 hI1242 => Or.inl ⟨_, rfl, ?_⟩) (fun E _ _ hE => by cases hE))
  refine cistU 1247 (lI2 163 rfl) rfl rfl rfl ?_
  refine cgoto (lI2 164 rfl) ?_
  exact cmono (hN hp1242 hI1242) (fun y hp9 m9 s9 h9 => ⟨h9.1, by have := h9.2.1; omega, by have := h9.2.2; omega⟩)
theorem cs29 {sc : List Int32} {b : Nat} {i : Int32} {hp : amH} (i0 : 0 ≤ i.toInt) (i1 : i.toInt + 6 ≤ (sc.length : Int)) (hL : sc.length ≤ 100000) (hI : lawI hp) (hN : ∀ hp1, lawI hp1 → lV sc b 2256 i hp1) : lV sc (b + 1) 1250 i hp := by
  refine cald 1251 (lI2 165 rfl) rfl rfl ?_
  refine cald 1252 (lI2 166 rfl) rfl rfl ?_
  refine cild2 1254 (lI2 167 rfl) rfl rfl ?_
  refine ccst 1255 (1) (lI2 168 rfl) rfl (by decide) (fun z1254 h1254 => ?_)
  refine cadd 1256 _ (lI2 169 rfl) rfl rfl (by omega) (by omega) (fun z1255 h1255 => ?_)
  refine cscl 1257 (lI2 170 rfl) rfl (by omega) (by omega) (fun w1256 => ?_)
  refine cald 1258 (lI2 171 rfl) rfl rfl ?_
  refine cild2 1260 (lI2 172 rfl) rfl rfl ?_
  refine ccst 1261 (2) (lI2 173 rfl) rfl (by decide) (fun z1260 h1260 => ?_)
  refine cadd 1262 _ (lI2 174 rfl) rfl rfl (by omega) (by omega) (fun z1261 h1261 => ?_)
  refine cscl 1263 (lI2 175 rfl) rfl (by omega) (by omega) (fun w1262 => ?_)
  refine cald 1264 (lI2 176 rfl) rfl rfl ?_
  refine cild2 1266 (lI2 177 rfl) rfl rfl ?_
  refine ccst 1267 (3) (lI2 178 rfl) rfl (by decide) (fun z1266 h1266 => ?_)
  refine cadd 1268 _ (lI2 179 rfl) rfl rfl (by omega) (by omega) (fun z1267 h1267 => ?_)
  refine cscl 1269 (lI2 180 rfl) rfl (by omega) (by omega) (fun w1268 => ?_)
  refine cald 1270 (lI2 181 rfl) rfl rfl ?_
  refine cild2 1272 (lI2 182 rfl) rfl rfl ?_
  refine ccst 1273 (4) (lI2 183 rfl) rfl (by decide) (fun z1272 h1272 => ?_)
  refine cadd 1274 _ (lI2 184 rfl) rfl rfl (by omega) (by omega) (fun z1273 h1273 => ?_)
  refine cscl 1275 (lI2 185 rfl) rfl (by omega) (by omega) (fun w1274 => ?_)
  refine cald 1276 (lI2 186 rfl) rfl rfl ?_
  refine ccall (kd := 1) (t := 0) [.ref 0, .int _, .int _, .int _, .int _, .ref 83] [] hI.1 (lI2 187 rfl) (Or.inr ⟨_, rfl, rfl, by decide⟩) rfl rfl rfl ⟨rfl, rfl, rfl⟩ rfl rfl rfl (h367 (d := 579) hI (fun r1276 hp1276 mc ms hI1276 hmc hms => Or.inl ⟨_, rfl, ?_⟩))
  refine cistU 1281 (lI2 188 rfl) rfl rfl rfl ?_
  refine cald 1282 (lI2 189 rfl) rfl rfl ?_
  refine cald 1283 (lI2 190 rfl) rfl rfl ?_
  refine cild2 1285 (lI2 191 rfl) rfl rfl ?_
  refine ccst 1286 (1) (lI2 192 rfl) rfl (by decide) (fun z1285 h1285 => ?_)
  refine cadd 1287 _ (lI2 193 rfl) rfl rfl (by omega) (by omega) (fun z1286 h1286 => ?_)
  refine cscl 1288 (lI2 194 rfl) rfl (by omega) (by omega) (fun w1287 => ?_)
  refine cald 1289 (lI2 195 rfl) rfl rfl ?_
  refine cild2 1291 (lI2 196 rfl) rfl rfl ?_
  refine ccst 1292 (2) (lI2 197 rfl) rfl (by decide) (fun z1291 h1291 => ?_)
  refine cadd 1293 _ (lI2 198 rfl) rfl rfl (by omega) (by omega) (fun z1292 h1292 => ?_)
  refine cscl 1294 (lI2 199 rfl) rfl (by omega) (by omega) (fun w1293 => ?_)
  refine cald 1295 (lI2 200 rfl) rfl rfl ?_
  refine cild2 1297 (lI2 201 rfl) rfl rfl ?_
  refine ccst 1298 (3) (lI2 202 rfl) rfl (by decide) (fun z1297 h1297 => ?_)
  refine cadd 1299 _ (lI2 203 rfl) rfl rfl (by omega) (by omega) (fun z1298 h1298 => ?_)
  refine cscl 1300 (lI2 204 rfl) rfl (by omega) (by omega) (fun w1299 => ?_)
  refine cald 1301 (lI2 205 rfl) rfl rfl ?_
  refine cild2 1303 (lI2 206 rfl) rfl rfl ?_
  refine ccst 1304 (4) (lI2 207 rfl) rfl (by decide) (fun z1303 h1303 => ?_)
  refine cadd 1305 _ (lI2 208 rfl) rfl rfl (by omega) (by omega) (fun z1304 h1304 => ?_)
  refine cscl 1306 (lI2 209 rfl) rfl (by omega) (by omega) (fun w1305 => ?_)
  refine ccall (kd := 0) (t := 0) [.ref 66, .int _, .int _, .int _, .int _] [] hI1276.1 (lI2 210 rfl) (Or.inl ⟨_, rfl, rfl, by decide, by decide⟩) rfl rfl rfl ⟨rfl, rfl, rfl⟩ rfl (recv66 hI1276.1 _) rfl (qI (bQ6_s bf_45 (List.mem_of_getElem? (i := 88) rfl)) rfl hI1276 ⟨a66r, ai _, ai _, ai _, ai _, trivial⟩ rfl rfl rfl rfl (fun r1306 hp1306 hI1306 => Or.inl ⟨_, rfl, ?_⟩) (fun E _ _ hE => by cases hE))
  refine cistU 1311 (lI2 211 rfl) rfl rfl rfl ?_
  refine cgoto (lI2 212 rfl) ?_
  exact cmono (hN hp1306 hI1306) (fun y hp9 m9 s9 h9 => ⟨h9.1, by have := h9.2.1; omega, by have := h9.2.2; omega⟩)
theorem cs30 {sc : List Int32} {b : Nat} {i : Int32} {hp : amH} (i0 : 0 ≤ i.toInt) (i1 : i.toInt + 6 ≤ (sc.length : Int)) (hL : sc.length ≤ 100000) (hI : lawI hp) (hN : ∀ hp1, lawI hp1 → lV sc b 2256 i hp1) : lV sc (b + 1) 1314 i hp := by
  refine cald 1315 (lI2 213 rfl) rfl rfl ?_
  refine cald 1316 (lI2 214 rfl) rfl rfl ?_
  refine cild2 1318 (lI2 215 rfl) rfl rfl ?_
  refine ccst 1319 (1) (lI2 216 rfl) rfl (by decide) (fun z1318 h1318 => ?_)
  refine cadd 1320 _ (lI2 217 rfl) rfl rfl (by omega) (by omega) (fun z1319 h1319 => ?_)
  refine cscl 1321 (lI2 218 rfl) rfl (by omega) (by omega) (fun w1320 => ?_)
  refine cald 1322 (lI2 219 rfl) rfl rfl ?_
  refine cild2 1324 (lI2 220 rfl) rfl rfl ?_
  refine ccst 1325 (2) (lI2 221 rfl) rfl (by decide) (fun z1324 h1324 => ?_)
  refine cadd 1326 _ (lI2 222 rfl) rfl rfl (by omega) (by omega) (fun z1325 h1325 => ?_)
  refine cscl 1327 (lI2 223 rfl) rfl (by omega) (by omega) (fun w1326 => ?_)
  refine cald 1328 (lI2 224 rfl) rfl rfl ?_
  refine cild2 1330 (lI2 225 rfl) rfl rfl ?_
  refine ccst 1331 (3) (lI2 226 rfl) rfl (by decide) (fun z1330 h1330 => ?_)
  refine cadd 1332 _ (lI2 227 rfl) rfl rfl (by omega) (by omega) (fun z1331 h1331 => ?_)
  refine cscl 1333 (lI2 228 rfl) rfl (by omega) (by omega) (fun w1332 => ?_)
  refine cald 1334 (lI2 229 rfl) rfl rfl ?_
  refine ccall (kd := 1) (t := 0) [.ref 0, .int _, .int _, .int _, .ref 83] [] hI.1 (lI2 230 rfl) (Or.inr ⟨_, rfl, rfl, by decide⟩) rfl rfl rfl ⟨rfl, rfl, rfl⟩ rfl rfl rfl (h368 (d := 579) hI (fun r1334 hp1334 mc ms hI1334 hmc hms => Or.inl ⟨_, rfl, ?_⟩))
  refine cistU 1339 (lI2 231 rfl) rfl rfl rfl ?_
  refine cald 1340 (lI2 232 rfl) rfl rfl ?_
  refine cald 1341 (lI2 233 rfl) rfl rfl ?_
  refine cild2 1343 (lI2 234 rfl) rfl rfl ?_
  refine ccst 1344 (1) (lI2 235 rfl) rfl (by decide) (fun z1343 h1343 => ?_)
  refine cadd 1345 _ (lI2 236 rfl) rfl rfl (by omega) (by omega) (fun z1344 h1344 => ?_)
  refine cscl 1346 (lI2 237 rfl) rfl (by omega) (by omega) (fun w1345 => ?_)
  refine cald 1347 (lI2 238 rfl) rfl rfl ?_
  refine cild2 1349 (lI2 239 rfl) rfl rfl ?_
  refine ccst 1350 (2) (lI2 240 rfl) rfl (by decide) (fun z1349 h1349 => ?_)
  refine cadd 1351 _ (lI2 241 rfl) rfl rfl (by omega) (by omega) (fun z1350 h1350 => ?_)
  refine cscl 1352 (lI2 242 rfl) rfl (by omega) (by omega) (fun w1351 => ?_)
  refine cald 1353 (lI2 243 rfl) rfl rfl ?_
  refine cild2 1355 (lI2 244 rfl) rfl rfl ?_
  refine ccst 1356 (3) (lI2 245 rfl) rfl (by decide) (fun z1355 h1355 => ?_)
  refine cadd 1357 _ (lI2 246 rfl) rfl rfl (by omega) (by omega) (fun z1356 h1356 => ?_)
  refine cscl 1358 (lI2 247 rfl) rfl (by omega) (by omega) (fun w1357 => ?_)
  refine ccall (kd := 0) (t := 0) [.ref 66, .int _, .int _, .int _] [] hI1334.1 (lI2 248 rfl) (Or.inl ⟨_, rfl, rfl, by decide, by decide⟩) rfl rfl rfl ⟨rfl, rfl, rfl⟩ rfl (recv66 hI1334.1 _) rfl (qI p300_s rfl hI1334 ⟨a66r, ai _, ai _, ai _, trivial⟩ rfl rfl rfl rfl (fun r1358 hp1358 hI1358 => Or.inl ⟨_, rfl, ?_⟩) (fun E _ _ hE => by cases hE))
  refine cistU 1363 (lI2 249 rfl) rfl rfl rfl ?_
  refine cgoto (lI3 0 rfl) ?_
  exact cmono (hN hp1358 hI1358) (fun y hp9 m9 s9 h9 => ⟨h9.1, by have := h9.2.1; omega, by have := h9.2.2; omega⟩)
theorem cs31 {sc : List Int32} {b : Nat} {i : Int32} {hp : amH} (i0 : 0 ≤ i.toInt) (i1 : i.toInt + 6 ≤ (sc.length : Int)) (hL : sc.length ≤ 100000) (hI : lawI hp) (hN : ∀ hp1, lawI hp1 → lV sc b 2256 i hp1) : lV sc (b + 1) 1366 i hp := by
  refine cald 1367 (lI3 1 rfl) rfl rfl ?_
  refine cald 1368 (lI3 2 rfl) rfl rfl ?_
  refine cild2 1370 (lI3 3 rfl) rfl rfl ?_
  refine ccst 1371 (1) (lI3 4 rfl) rfl (by decide) (fun z1370 h1370 => ?_)
  refine cadd 1372 _ (lI3 5 rfl) rfl rfl (by omega) (by omega) (fun z1371 h1371 => ?_)
  refine cscl 1373 (lI3 6 rfl) rfl (by omega) (by omega) (fun w1372 => ?_)
  refine cald 1374 (lI3 7 rfl) rfl rfl ?_
  refine cild2 1376 (lI3 8 rfl) rfl rfl ?_
  refine ccst 1377 (2) (lI3 9 rfl) rfl (by decide) (fun z1376 h1376 => ?_)
  refine cadd 1378 _ (lI3 10 rfl) rfl rfl (by omega) (by omega) (fun z1377 h1377 => ?_)
  refine cscl 1379 (lI3 11 rfl) rfl (by omega) (by omega) (fun w1378 => ?_)
  refine cald 1380 (lI3 12 rfl) rfl rfl ?_
  refine cild2 1382 (lI3 13 rfl) rfl rfl ?_
  refine ccst 1383 (3) (lI3 14 rfl) rfl (by decide) (fun z1382 h1382 => ?_)
  refine cadd 1384 _ (lI3 15 rfl) rfl rfl (by omega) (by omega) (fun z1383 h1383 => ?_)
  refine cscl 1385 (lI3 16 rfl) rfl (by omega) (by omega) (fun w1384 => ?_)
  refine cald 1386 (lI3 17 rfl) rfl rfl ?_
  refine ccall (kd := 1) (t := 0) [.ref 0, .int _, .int _, .int _, .ref 83] [] hI.1 (lI3 18 rfl) (Or.inr ⟨_, rfl, rfl, by decide⟩) rfl rfl rfl ⟨rfl, rfl, rfl⟩ rfl rfl rfl (h369 (d := 579) hI (fun r1386 hp1386 mc ms hI1386 hmc hms => Or.inl ⟨_, rfl, ?_⟩))
  refine cistU 1391 (lI3 19 rfl) rfl rfl rfl ?_
  refine cald 1392 (lI3 20 rfl) rfl rfl ?_
  refine cald 1393 (lI3 21 rfl) rfl rfl ?_
  refine cild2 1395 (lI3 22 rfl) rfl rfl ?_
  refine ccst 1396 (1) (lI3 23 rfl) rfl (by decide) (fun z1395 h1395 => ?_)
  refine cadd 1397 _ (lI3 24 rfl) rfl rfl (by omega) (by omega) (fun z1396 h1396 => ?_)
  refine cscl 1398 (lI3 25 rfl) rfl (by omega) (by omega) (fun w1397 => ?_)
  refine cald 1399 (lI3 26 rfl) rfl rfl ?_
  refine cild2 1401 (lI3 27 rfl) rfl rfl ?_
  refine ccst 1402 (2) (lI3 28 rfl) rfl (by decide) (fun z1401 h1401 => ?_)
  refine cadd 1403 _ (lI3 29 rfl) rfl rfl (by omega) (by omega) (fun z1402 h1402 => ?_)
  refine cscl 1404 (lI3 30 rfl) rfl (by omega) (by omega) (fun w1403 => ?_)
  refine cald 1405 (lI3 31 rfl) rfl rfl ?_
  refine cild2 1407 (lI3 32 rfl) rfl rfl ?_
  refine ccst 1408 (3) (lI3 33 rfl) rfl (by decide) (fun z1407 h1407 => ?_)
  refine cadd 1409 _ (lI3 34 rfl) rfl rfl (by omega) (by omega) (fun z1408 h1408 => ?_)
  refine cscl 1410 (lI3 35 rfl) rfl (by omega) (by omega) (fun w1409 => ?_)
  refine ccall (kd := 0) (t := 0) [.ref 66, .int _, .int _, .int _] [] hI1386.1 (lI3 36 rfl) (Or.inl ⟨_, rfl, rfl, by decide, by decide⟩) rfl rfl rfl ⟨rfl, rfl, rfl⟩ rfl (recv66 hI1386.1 _) rfl (qI p301_s rfl hI1386 ⟨a66r, ai _, ai _, ai _, trivial⟩ rfl rfl rfl rfl (fun r1410 hp1410 hI1410 => Or.inl ⟨_, rfl, ?_⟩) (fun E _ _ hE => by cases hE))
  refine cistU 1415 (lI3 37 rfl) rfl rfl rfl ?_
  refine cgoto (lI3 38 rfl) ?_
  exact cmono (hN hp1410 hI1410) (fun y hp9 m9 s9 h9 => ⟨h9.1, by have := h9.2.1; omega, by have := h9.2.2; omega⟩)
theorem cs32 {sc : List Int32} {b : Nat} {i : Int32} {hp : amH} (i0 : 0 ≤ i.toInt) (i1 : i.toInt + 6 ≤ (sc.length : Int)) (hL : sc.length ≤ 100000) (hI : lawI hp) (hN : ∀ hp1, lawI hp1 → lV sc b 2256 i hp1) : lV sc (b + 1) 1418 i hp := by
  refine cald 1419 (lI3 39 rfl) rfl rfl ?_
  refine cald 1420 (lI3 40 rfl) rfl rfl ?_
  refine cild2 1422 (lI3 41 rfl) rfl rfl ?_
  refine ccst 1423 (1) (lI3 42 rfl) rfl (by decide) (fun z1422 h1422 => ?_)
  refine cadd 1424 _ (lI3 43 rfl) rfl rfl (by omega) (by omega) (fun z1423 h1423 => ?_)
  refine cscl 1425 (lI3 44 rfl) rfl (by omega) (by omega) (fun w1424 => ?_)
  refine ccall (kd := 0) (t := 0) [.ref 0, .int _] [] hI.1 (lI3 45 rfl) (Or.inl ⟨_, rfl, rfl, by decide, by decide⟩) rfl rfl rfl ⟨rfl, rfl, rfl⟩ rfl (recv0 hI.1 _) rfl (qI (bL8_s be_104 (List.mem_of_getElem? (i := 87) rfl)) rfl hI ⟨a0r, ai _, trivial⟩ rfl rfl rfl rfl (fun r1425 hp1425 hI1425 => Or.inl ⟨_, rfl, ?_⟩) (fun E _ _ hE => by cases hE))
  refine cpop 1429 (lI3 46 rfl) rfl rfl ?_
  refine cald 1430 (lI3 47 rfl) rfl rfl ?_
  refine cald 1431 (lI3 48 rfl) rfl rfl ?_
  refine cild2 1433 (lI3 49 rfl) rfl rfl ?_
  refine ccst 1434 (1) (lI3 50 rfl) rfl (by decide) (fun z1433 h1433 => ?_)
  refine cadd 1435 _ (lI3 51 rfl) rfl rfl (by omega) (by omega) (fun z1434 h1434 => ?_)
  refine cscl 1436 (lI3 52 rfl) rfl (by omega) (by omega) (fun w1435 => ?_)
  refine ccall (kd := 0) (t := 0) [.ref 66, .int _] [] hI1425.1 (lI3 53 rfl) (Or.inl ⟨_, rfl, rfl, by decide, by decide⟩) rfl rfl rfl ⟨rfl, rfl, rfl⟩ rfl (recv66 hI1425.1 _) rfl (qI (bQ6_s bf_46 (List.mem_of_getElem? (i := 87) rfl)) rfl hI1425 ⟨a66r, ai _, trivial⟩ rfl rfl rfl rfl (fun r1436 hp1436 hI1436 => Or.inl ⟨_, rfl, ?_⟩) (fun E _ _ hE => by cases hE))
  refine cpop 1440 (lI3 54 rfl) rfl rfl ?_
  refine cgoto (lI3 55 rfl) ?_
  exact cmono (hN hp1436 hI1436) (fun y hp9 m9 s9 h9 => ⟨h9.1, by have := h9.2.1; omega, by have := h9.2.2; omega⟩)
theorem cs33 {sc : List Int32} {b : Nat} {i : Int32} {hp : amH} (i0 : 0 ≤ i.toInt) (i1 : i.toInt + 6 ≤ (sc.length : Int)) (hL : sc.length ≤ 100000) (hI : lawI hp) (hN : ∀ hp1, lawI hp1 → lV sc b 2256 i hp1) : lV sc (b + 1) 1443 i hp := by
  refine cald 1444 (lI3 56 rfl) rfl rfl ?_
  refine cald 1445 (lI3 57 rfl) rfl rfl ?_
  refine cild2 1447 (lI3 58 rfl) rfl rfl ?_
  refine ccst 1448 (1) (lI3 59 rfl) rfl (by decide) (fun z1447 h1447 => ?_)
  refine cadd 1449 _ (lI3 60 rfl) rfl rfl (by omega) (by omega) (fun z1448 h1448 => ?_)
  refine cscl 1450 (lI3 61 rfl) rfl (by omega) (by omega) (fun w1449 => ?_)
  refine ccall (kd := 0) (t := 0) [.ref 0, .int _] [] hI.1 (lI3 62 rfl) (Or.inl ⟨_, rfl, rfl, by decide, by decide⟩) rfl rfl rfl ⟨rfl, rfl, rfl⟩ rfl (recv0 hI.1 _) rfl (qI (bL8_s be_108 (List.mem_of_getElem? (i := 83) rfl)) rfl hI ⟨a0r, ai _, trivial⟩ rfl rfl rfl rfl (fun r1450 hp1450 hI1450 => Or.inl ⟨_, rfl, ?_⟩) (fun E _ _ hE => by cases hE))
  refine cpop 1454 (lI3 63 rfl) rfl rfl ?_
  refine cald 1455 (lI3 64 rfl) rfl rfl ?_
  refine cald 1456 (lI3 65 rfl) rfl rfl ?_
  refine cild2 1458 (lI3 66 rfl) rfl rfl ?_
  refine ccst 1459 (1) (lI3 67 rfl) rfl (by decide) (fun z1458 h1458 => ?_)
  refine cadd 1460 _ (lI3 68 rfl) rfl rfl (by omega) (by omega) (fun z1459 h1459 => ?_)
  refine cscl 1461 (lI3 69 rfl) rfl (by omega) (by omega) (fun w1460 => ?_)
  refine ccall (kd := 0) (t := 0) [.ref 66, .int _] [] hI1450.1 (lI3 70 rfl) (Or.inl ⟨_, rfl, rfl, by decide, by decide⟩) rfl rfl rfl ⟨rfl, rfl, rfl⟩ rfl (recv66 hI1450.1 _) rfl (qI (bQ6_s bf_52 (List.mem_of_getElem? (i := 81) rfl)) rfl hI1450 ⟨a66r, ai _, trivial⟩ rfl rfl rfl rfl (fun r1461 hp1461 hI1461 => Or.inl ⟨_, rfl, ?_⟩) (fun E _ _ hE => by cases hE))
  refine cpop 1465 (lI3 71 rfl) rfl rfl ?_
  refine cgoto (lI3 72 rfl) ?_
  exact cmono (hN hp1461 hI1461) (fun y hp9 m9 s9 h9 => ⟨h9.1, by have := h9.2.1; omega, by have := h9.2.2; omega⟩)
theorem cs34 {sc : List Int32} {b : Nat} {i : Int32} {hp : amH} (i0 : 0 ≤ i.toInt) (i1 : i.toInt + 6 ≤ (sc.length : Int)) (hL : sc.length ≤ 100000) (hI : lawI hp) (hN : ∀ hp1, lawI hp1 → lV sc b 2256 i hp1) : lV sc (b + 1) 1468 i hp := by
  refine cald 1469 (lI3 73 rfl) rfl rfl ?_
  refine cald 1470 (lI3 74 rfl) rfl rfl ?_
  refine cild2 1472 (lI3 75 rfl) rfl rfl ?_
  refine ccst 1473 (1) (lI3 76 rfl) rfl (by decide) (fun z1472 h1472 => ?_)
  refine cadd 1474 _ (lI3 77 rfl) rfl rfl (by omega) (by omega) (fun z1473 h1473 => ?_)
  refine cscl 1475 (lI3 78 rfl) rfl (by omega) (by omega) (fun w1474 => ?_)
  refine cald 1476 (lI3 79 rfl) rfl rfl ?_
  refine cild2 1478 (lI3 80 rfl) rfl rfl ?_
  refine ccst 1479 (2) (lI3 81 rfl) rfl (by decide) (fun z1478 h1478 => ?_)
  refine cadd 1480 _ (lI3 82 rfl) rfl rfl (by omega) (by omega) (fun z1479 h1479 => ?_)
  refine cscl 1481 (lI3 83 rfl) rfl (by omega) (by omega) (fun w1480 => ?_)
  refine cald 1482 (lI3 84 rfl) rfl rfl ?_
  refine ccall (kd := 1) (t := 0) [.ref 0, .int _, .int _, .ref 83] [] hI.1 (lI3 85 rfl) (Or.inr ⟨_, rfl, rfl, by decide⟩) rfl rfl rfl ⟨rfl, rfl, rfl⟩ rfl rfl rfl (h370 (d := 579) hI (fun r1482 hp1482 mc ms hI1482 hmc hms => Or.inl ⟨_, rfl, ?_⟩))
  refine cistU 1487 (lI3 86 rfl) rfl rfl rfl ?_
  refine cald 1488 (lI3 87 rfl) rfl rfl ?_
  refine cald 1489 (lI3 88 rfl) rfl rfl ?_
  refine cild2 1491 (lI3 89 rfl) rfl rfl ?_
  refine ccst 1492 (1) (lI3 90 rfl) rfl (by decide) (fun z1491 h1491 => ?_)
  refine cadd 1493 _ (lI3 91 rfl) rfl rfl (by omega) (by omega) (fun z1492 h1492 => ?_)
  refine cscl 1494 (lI3 92 rfl) rfl (by omega) (by omega) (fun w1493 => ?_)
  refine cald 1495 (lI3 93 rfl) rfl rfl ?_
  refine cild2 1497 (lI3 94 rfl) rfl rfl ?_
  refine ccst 1498 (2) (lI3 95 rfl) rfl (by decide) (fun z1497 h1497 => ?_)
  refine cadd 1499 _ (lI3 96 rfl) rfl rfl (by omega) (by omega) (fun z1498 h1498 => ?_)
  refine cscl 1500 (lI3 97 rfl) rfl (by omega) (by omega) (fun w1499 => ?_)
  refine ccall (kd := 0) (t := 0) [.ref 66, .int _, .int _] [] hI1482.1 (lI3 98 rfl) (Or.inl ⟨_, rfl, rfl, by decide, by decide⟩) rfl rfl rfl ⟨rfl, rfl, rfl⟩ rfl (recv66 hI1482.1 _) rfl (qT (t := 1) (bQ6_s bf_53 (List.mem_of_getElem? (i := 80) rfl)) rfl hI1482 ⟨a66r, ai _, ai _, trivial⟩ rfl rfl rfl rfl (fun r1500 hp1500 hI1500 hw1500 => Or.inl ⟨_, rfl, ?_⟩) (fun E _ _ hE => by cases hE))
  obtain ⟨r1500, rfl⟩ := bT1 hw1500
  refine clstU 1505 (lI3 99 rfl) rfl rfl rfl ?_
  refine cgoto (lI3 100 rfl) ?_
  exact cmono (hN hp1500 hI1500) (fun y hp9 m9 s9 h9 => ⟨h9.1, by have := h9.2.1; omega, by have := h9.2.2; omega⟩)
theorem cs35 {sc : List Int32} {b : Nat} {i : Int32} {hp : amH} (i0 : 0 ≤ i.toInt) (i1 : i.toInt + 6 ≤ (sc.length : Int)) (hL : sc.length ≤ 100000) (hI : lawI hp) (hN : ∀ hp1, lawI hp1 → lV sc b 2256 i hp1) : lV sc (b + 1) 1508 i hp := by
  refine cald 1509 (lI3 101 rfl) rfl rfl ?_
  refine ccall (kd := 0) (t := 0) [.ref 0] [] hI.1 (lI3 102 rfl) (Or.inl ⟨_, rfl, rfl, by decide, by decide⟩) rfl rfl rfl ⟨rfl, rfl, rfl⟩ rfl (recv0 hI.1 _) rfl (qI (bL8_s be_111 (List.mem_of_getElem? (i := 80) rfl)) rfl hI ⟨a0r, trivial⟩ rfl rfl rfl rfl (fun r1509 hp1509 hI1509 => Or.inl ⟨_, rfl, ?_⟩) (fun E _ _ hE => by cases hE))
  refine cpop 1513 (lI3 103 rfl) rfl rfl ?_
  refine cald 1514 (lI3 104 rfl) rfl rfl ?_
  refine ccall (kd := 0) (t := 0) [.ref 66] [] hI1509.1 (lI3 105 rfl) (Or.inl ⟨_, rfl, rfl, by decide, by decide⟩) rfl rfl rfl ⟨rfl, rfl, rfl⟩ rfl (recv66 hI1509.1 _) rfl (qI (bQ6_s bf_59 (List.mem_of_getElem? (i := 74) rfl)) rfl hI1509 ⟨a66r, trivial⟩ rfl rfl rfl rfl (fun r1514 hp1514 hI1514 => Or.inl ⟨_, rfl, ?_⟩) (fun E _ _ hE => by cases hE))
  refine cpop 1518 (lI3 106 rfl) rfl rfl ?_
  refine cgoto (lI3 107 rfl) ?_
  exact cmono (hN hp1514 hI1514) (fun y hp9 m9 s9 h9 => ⟨h9.1, by have := h9.2.1; omega, by have := h9.2.2; omega⟩)
