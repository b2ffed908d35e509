/-! ===== links and callees checked ===== -/
theorem am_w0 : wAll am_R "TripleTrains$Board" 0 am_W0 = true := by decide +kernel
theorem am_w1 : wAll am_R "TripleTrains$Cycles" 1 am_W1 = true := by decide +kernel
theorem am_w2 : wAll am_R "TripleTrains$Exchange" 2 am_W2 = true := by decide +kernel
theorem am_w3 : wAll am_R "TripleTrains$History" 3 am_W3 = true := by decide +kernel
theorem am_w4 : wAll am_R "TripleTrains$Quads" 4 am_W4 = true := by decide +kernel
theorem am_w5 : wAll am_R "TripleTrains$Sets" 5 am_W5 = true := by decide +kernel
theorem am_w6 : wAll am_R "TripleTrains$SetupText" 6 am_W6 = true := by decide +kernel
theorem am_w7 : wAll am_R "TripleTrains$Snapshot" 7 am_W7 = true := by decide +kernel
theorem am_w8 : wAll am_R "TripleTrains$Tally" 8 am_W8 = true := by decide +kernel
theorem am_w9 : wAll am_R "TripleTrains$Trades" 9 am_W9 = true := by decide +kernel
theorem am_w10 : wAll am_R "TripleTrains$Trains" 10 am_W10 = true := by decide +kernel
theorem am_w11 : wAll am_R "TripleTrains" 11 am_W11 = true := by decide +kernel
theorem am_w12 : wAll am_R "TripleTrainsModel" 12 am_W12 = true := by decide +kernel
theorem am_w13 : wAll am_R "java/lang/Integer" 13 am_W13 = true := by decide +kernel
theorem am_w14 : wAll am_R "java/lang/Long" 14 am_W14 = true := by decide +kernel
theorem am_w15 : wAll am_R "java/lang/Math" 15 am_W15 = true := by decide +kernel
theorem am_w16 : wAll am_R "TripleTrainsLaw" 16 am_W16 = true := by decide +kernel
theorem am_v0 : vRow am_R amXX amGG 0 am_V0 = true := by decide +kernel
theorem am_v1 : vRow am_R amXX amGG 16 am_V1 = true := by decide +kernel
theorem am_v2 : vRow am_R amXX amGG 32 am_V2 = true := by decide +kernel
theorem am_v3 : vRow am_R amXX amGG 48 am_V3 = true := by decide +kernel
theorem am_v4 : vRow am_R amXX amGG 64 am_V4 = true := by decide +kernel
theorem am_v5 : vRow am_R amXX amGG 80 am_V5 = true := by decide +kernel
theorem am_v6 : vRow am_R amXX amGG 96 am_V6 = true := by decide +kernel
theorem am_v7 : vRow am_R amXX amGG 112 am_V7 = true := by decide +kernel
theorem am_v8 : vRow am_R amXX amGG 128 am_V8 = true := by decide +kernel
theorem am_v9 : vRow am_R amXX amGG 144 am_V9 = true := by decide +kernel
theorem am_v10 : vRow am_R amXX amGG 160 am_V10 = true := by decide +kernel
theorem am_v11 : vRow am_R amXX amGG 176 am_V11 = true := by decide +kernel
theorem am_v12 : vRow am_R amXX amGG 192 am_V12 = true := by decide +kernel
theorem am_v13 : vRow am_R amXX amGG 208 am_V13 = true := by decide +kernel
theorem am_v14 : vRow am_R amXX amGG 224 am_V14 = true := by decide +kernel
theorem am_v15 : vRow am_R amXX amGG 240 am_V15 = true := by decide +kernel
theorem am_v16 : vRow am_R amXX amGG 256 am_V16 = true := by decide +kernel
theorem am_v17 : vRow am_R amXX amGG 272 am_V17 = true := by decide +kernel
theorem am_v18 : vRow am_R amXX amGG 288 am_V18 = true := by decide +kernel
theorem am_v19 : vRow am_R amXX amGG 304 am_V19 = true := by decide +kernel
theorem am_v20 : vRow am_R amXX amGG 320 am_V20 = true := by decide +kernel
theorem am_v21 : vRow am_R amXX amGG 336 am_V21 = true := by decide +kernel
theorem am_v22 : vRow am_R amXX amGG 352 am_V22 = true := by decide +kernel
theorem am_v23 : vRow am_R amXX amGG 368 am_V23 = true := by decide +kernel
theorem am_v24 : vRow am_R amXX amGG 384 am_V24 = true := by decide +kernel
theorem am_v : vAll am_R amXX amGG am_V := by
  intro i S h
  match i, h with
  | 0, h => cases h; exact am_v0
  | 1, h => cases h; exact am_v1
  | 2, h => cases h; exact am_v2
  | 3, h => cases h; exact am_v3
  | 4, h => cases h; exact am_v4
  | 5, h => cases h; exact am_v5
  | 6, h => cases h; exact am_v6
  | 7, h => cases h; exact am_v7
  | 8, h => cases h; exact am_v8
  | 9, h => cases h; exact am_v9
  | 10, h => cases h; exact am_v10
  | 11, h => cases h; exact am_v11
  | 12, h => cases h; exact am_v12
  | 13, h => cases h; exact am_v13
  | 14, h => cases h; exact am_v14
  | 15, h => cases h; exact am_v15
  | 16, h => cases h; exact am_v16
  | 17, h => cases h; exact am_v17
  | 18, h => cases h; exact am_v18
  | 19, h => cases h; exact am_v19
  | 20, h => cases h; exact am_v20
  | 21, h => cases h; exact am_v21
  | 22, h => cases h; exact am_v22
  | 23, h => cases h; exact am_v23
  | 24, h => cases h; exact am_v24
  | i + 25, h => cases h
/-! ===== the codes among the words ===== -/
theorem am_z0 : cWd am_n0 am_m0 ∈ amWL := amWL_in (am_ch1 _ (fg_mem (i := 76) rfl)) rfl
theorem am_z1 : cWd am_n1 am_m1 ∈ amWL := amWL_in (am_ch2 _ (fg_mem (i := 30) rfl)) rfl
theorem am_z2 : cWd am_n2 am_m2 ∈ amWL := amWL_in (am_ch2 _ (fg_mem (i := 237) rfl)) rfl
theorem am_z3 : cWd am_n3 am_m3 ∈ amWL := amWL_in (am_ch2 _ (fg_mem (i := 195) rfl)) rfl
theorem am_z4 : cWd am_n4 am_m4 ∈ amWL := amWL_in (am_ch2 _ (fg_mem (i := 40) rfl)) rfl
theorem am_z5 : cWd am_n5 am_m5 ∈ amWL := amWL_in (am_ch4 _ (fg_mem (i := 31) rfl)) rfl
theorem am_z6 : cWd am_n6 am_m6 ∈ amWL := amWL_in (am_ch4 _ (fg_mem (i := 76) rfl)) rfl
theorem am_z7 : cWd am_n7 am_m7 ∈ amWL := amWL_in (am_ch3 _ (fg_mem (i := 20) rfl)) rfl
theorem am_z8 : cWd am_n8 am_m8 ∈ amWL := amWL_in (am_ch2 _ (fg_mem (i := 215) rfl)) rfl
theorem am_z9 : cWd am_n9 am_m9 ∈ amWL := amWL_in (am_ch3 _ (fg_mem (i := 39) rfl)) rfl
theorem am_z10 : cWd am_n10 am_m10 ∈ amWL := amWL_in (am_ch3 _ (fg_mem (i := 52) rfl)) rfl
theorem am_z11 : cWd am_n11 am_m11 ∈ amWL := amWL_in (am_ch3 _ (fg_mem (i := 44) rfl)) rfl
theorem am_z12 : cWd am_n12 am_m12 ∈ amWL := amWL_in (am_ch3 _ (fg_mem (i := 48) rfl)) rfl
theorem am_z13 : cWd am_n13 am_m13 ∈ amWL := amWL_in (am_ch2 _ (fg_mem (i := 202) rfl)) rfl
theorem am_z14 : cWd am_n14 am_m14 ∈ amWL := amWL_in (am_ch2 _ (fg_mem (i := 228) rfl)) rfl
theorem am_z15 : cWd am_n15 am_m15 ∈ amWL := amWL_in (am_ch3 _ (fg_mem (i := 122) rfl)) rfl
theorem am_z16 : cWd am_n16 am_m16 ∈ amWL := amWL_in (am_ch2 _ (fg_mem (i := 232) rfl)) rfl
theorem am_z17 : cWd am_n17 am_m17 ∈ amWL := amWL_in (am_ch3 _ (fg_mem (i := 126) rfl)) rfl
theorem am_z18 : cWd am_n18 am_m18 ∈ amWL := amWL_in (am_ch3 _ (fg_mem (i := 16) rfl)) rfl
theorem am_z19 : cWd am_n19 am_m19 ∈ amWL := amWL_in (am_ch3 _ (fg_mem (i := 24) rfl)) rfl
theorem am_z20 : cWd am_n20 am_m20 ∈ amWL := amWL_in (am_ch3 _ (fg_mem (i := 31) rfl)) rfl
theorem am_z21 : cWd am_n21 am_m21 ∈ amWL := amWL_in (am_ch2 _ (fg_mem (i := 220) rfl)) rfl
theorem am_z22 : cWd am_n22 am_m22 ∈ amWL := amWL_in (am_ch3 _ (fg_mem (i := 102) rfl)) rfl
theorem am_z23 : cWd am_n23 am_m23 ∈ amWL := amWL_in (am_ch3 _ (fg_mem (i := 72) rfl)) rfl
theorem am_z24 : cWd am_n24 am_m24 ∈ amWL := amWL_in (am_ch5 _ (fg_mem (i := 47) rfl)) rfl
theorem am_z25 : cWd am_n25 am_m25 ∈ amWL := amWL_in (am_ch3 _ (fg_mem (i := 113) rfl)) rfl
theorem am_z26 : cWd am_n26 am_m26 ∈ amWL := amWL_in (am_ch5 _ (fg_mem (i := 35) rfl)) rfl
theorem am_z27 : cWd am_n27 am_m27 ∈ amWL := amWL_in (am_ch6 _ (fg_mem (i := 157) rfl)) rfl
theorem am_z28 : cWd am_n28 am_m28 ∈ amWL := amWL_in (am_ch6 _ (fg_mem (i := 23) rfl)) rfl
theorem am_z29 : cWd am_n29 am_m29 ∈ amWL := amWL_in (am_ch4 _ (fg_mem (i := 38) rfl)) rfl
theorem am_z30 : cWd am_n30 am_m30 ∈ amWL := amWL_in (am_ch4 _ (fg_mem (i := 47) rfl)) rfl
theorem am_z31 : cWd am_n31 am_m31 ∈ amWL := amWL_in (am_ch4 _ (fg_mem (i := 56) rfl)) rfl
theorem am_z32 : cWd am_n32 am_m32 ∈ amWL := amWL_in (am_ch4 _ (fg_mem (i := 86) rfl)) rfl
theorem am_z33 : cWd am_n33 am_m33 ∈ amWL := amWL_in (am_ch6 _ (fg_mem (i := 127) rfl)) rfl
theorem am_z34 : cWd am_n34 am_m34 ∈ amWL := amWL_in (am_ch4 _ (fg_mem (i := 94) rfl)) rfl
theorem am_z35 : cWd am_n35 am_m35 ∈ amWL := amWL_in (am_ch1 _ (fg_mem (i := 190) rfl)) rfl
theorem am_z36 : cWd am_n36 am_m36 ∈ amWL := amWL_in (am_ch3 _ (fg_mem (i := 191) rfl)) rfl
theorem am_z37 : cWd am_n37 am_m37 ∈ amWL := amWL_in (am_ch3 _ (fg_mem (i := 197) rfl)) rfl
theorem am_z38 : cWd am_n38 am_m38 ∈ amWL := amWL_in (am_ch3 _ (fg_mem (i := 206) rfl)) rfl
theorem am_z39 : cWd am_n39 am_m39 ∈ amWL := amWL_in (am_ch3 _ (fg_mem (i := 201) rfl)) rfl
theorem am_z40 : cWd am_n40 am_m40 ∈ amWL := amWL_in (am_ch3 _ (fg_mem (i := 218) rfl)) rfl
theorem am_z41 : cWd am_n41 am_m41 ∈ amWL := amWL_in (am_ch3 _ (fg_mem (i := 210) rfl)) rfl
theorem am_z42 : cWd am_n42 am_m42 ∈ amWL := amWL_in (am_ch3 _ (fg_mem (i := 214) rfl)) rfl
theorem am_z43 : cWd am_n43 am_m43 ∈ amWL := amWL_in (am_ch3 _ (fg_mem (i := 236) rfl)) rfl
theorem am_z44 : cWd am_n44 am_m44 ∈ amWL := amWL_in (am_ch5 _ (fg_mem (i := 224) rfl)) rfl
theorem am_z45 : cWd am_n45 am_m45 ∈ amWL := amWL_in (am_ch2 _ (fg_mem (i := 10) rfl)) rfl
theorem am_z46 : cWd am_n46 am_m46 ∈ amWL := amWL_in (am_ch3 _ (fg_mem (i := 146) rfl)) rfl
theorem am_z47 : cWd am_n47 am_m47 ∈ amWL := amWL_in (am_ch3 _ (fg_mem (i := 164) rfl)) rfl
theorem am_z48 : cWd am_n48 am_m48 ∈ amWL := amWL_in (am_ch3 _ (fg_mem (i := 176) rfl)) rfl
theorem am_z49 : cWd am_n49 am_m49 ∈ amWL := amWL_in (am_ch1 _ (fg_mem (i := 130) rfl)) rfl
theorem am_z50 : cWd am_n50 am_m50 ∈ amWL := amWL_in (am_ch3 _ (fg_mem (i := 85) rfl)) rfl
theorem am_z51 : cWd am_n51 am_m51 ∈ amWL := amWL_in (am_ch3 _ (fg_mem (i := 89) rfl)) rfl
theorem am_z52 : cWd am_n52 am_m52 ∈ amWL := amWL_in (am_ch4 _ (fg_mem (i := 114) rfl)) rfl
theorem am_z53 : cWd am_n53 am_m53 ∈ amWL := amWL_in (am_ch4 _ (fg_mem (i := 128) rfl)) rfl
theorem am_z54 : cWd am_n54 am_m54 ∈ amWL := amWL_in (am_ch6 _ (fg_mem (i := 199) rfl)) rfl
theorem am_z55 : cWd am_n55 am_m55 ∈ amWL := amWL_in (am_ch3 _ (fg_mem (i := 8) rfl)) rfl
theorem am_z56 : cWd am_n56 am_m56 ∈ amWL := amWL_in (am_ch1 _ (fg_mem (i := 172) rfl)) rfl
theorem am_z57 : cWd am_n57 am_m57 ∈ amWL := amWL_in (am_ch3 _ (fg_mem (i := 35) rfl)) rfl
theorem am_z58 : cWd am_n58 am_m58 ∈ amWL := amWL_in (am_ch3 _ (fg_mem (i := 56) rfl)) rfl
theorem am_z59 : cWd am_n59 am_m59 ∈ amWL := amWL_in (am_ch3 _ (fg_mem (i := 150) rfl)) rfl
theorem am_z60 : cWd am_n60 am_m60 ∈ amWL := amWL_in (am_ch3 _ (fg_mem (i := 160) rfl)) rfl
theorem am_z61 : cWd am_n61 am_m61 ∈ amWL := amWL_in (am_ch5 _ (fg_mem (i := 120) rfl)) rfl
theorem am_z62 : cWd am_n62 am_m62 ∈ amWL := amWL_in (am_ch5 _ (fg_mem (i := 132) rfl)) rfl
theorem am_z63 : cWd am_n63 am_m63 ∈ amWL := amWL_in (am_ch3 _ (fg_mem (i := 172) rfl)) rfl
theorem am_z64 : cWd am_n64 am_m64 ∈ amWL := amWL_in (am_ch3 _ (fg_mem (i := 142) rfl)) rfl
theorem am_z65 : cWd am_n65 am_m65 ∈ amWL := amWL_in (am_ch4 _ (fg_mem (i := 23) rfl)) rfl
theorem am_z66 : cWd am_n66 am_m66 ∈ amWL := amWL_in (am_ch3 _ (fg_mem (i := 138) rfl)) rfl
theorem am_z67 : cWd am_n67 am_m67 ∈ amWL := amWL_in (am_ch3 _ (fg_mem (i := 181) rfl)) rfl
theorem am_z68 : cWd am_n68 am_m68 ∈ amWL := amWL_in (am_ch3 _ (fg_mem (i := 27) rfl)) rfl
theorem am_z69 : cWd am_n69 am_m69 ∈ amWL := amWL_in (am_ch2 _ (fg_mem (i := 198) rfl)) rfl
theorem am_z70 : cWd am_n70 am_m70 ∈ amWL := amWL_in (am_ch2 _ (fg_mem (i := 205) rfl)) rfl
theorem am_z71 : cWd am_n71 am_m71 ∈ amWL := amWL_in (am_ch2 _ (fg_mem (i := 223) rfl)) rfl
theorem am_z72 : cWd am_n72 am_m72 ∈ amWL := amWL_in (am_ch6 _ (fg_mem (i := 145) rfl)) rfl
theorem am_z73 : cWd am_n73 am_m73 ∈ amWL := amWL_in (am_ch6 _ (fg_mem (i := 26) rfl)) rfl
theorem am_z74 : cWd am_n74 am_m74 ∈ amWL := amWL_in (am_ch1 _ (fg_mem (i := 41) rfl)) rfl
theorem am_z75 : cWd am_n75 am_m75 ∈ amWL := amWL_in (am_ch2 _ (fg_mem (i := 85) rfl)) rfl
theorem am_z76 : cWd am_n76 am_m76 ∈ amWL := amWL_in (am_ch2 _ (fg_mem (i := 89) rfl)) rfl
theorem am_z77 : cWd am_n77 am_m77 ∈ amWL := amWL_in (am_ch2 _ (fg_mem (i := 101) rfl)) rfl
theorem am_z78 : cWd am_n78 am_m78 ∈ amWL := amWL_in (am_ch2 _ (fg_mem (i := 127) rfl)) rfl
theorem am_z79 : cWd am_n79 am_m79 ∈ amWL := amWL_in (am_ch2 _ (fg_mem (i := 189) rfl)) rfl
theorem am_z80 : cWd am_n80 am_m80 ∈ amWL := amWL_in (am_ch2 _ (fg_mem (i := 184) rfl)) rfl
theorem am_z81 : cWd am_n81 am_m81 ∈ amWL := amWL_in (am_ch2 _ (fg_mem (i := 105) rfl)) rfl
theorem am_z82 : cWd am_n82 am_m82 ∈ amWL := amWL_in (am_ch2 _ (fg_mem (i := 116) rfl)) rfl
theorem am_z83 : cWd am_n83 am_m83 ∈ amWL := amWL_in (am_ch2 _ (fg_mem (i := 123) rfl)) rfl
theorem am_z84 : cWd am_n84 am_m84 ∈ amWL := amWL_in (am_ch2 _ (fg_mem (i := 132) rfl)) rfl
theorem am_z85 : cWd am_n85 am_m85 ∈ amWL := amWL_in (am_ch2 _ (fg_mem (i := 109) rfl)) rfl
theorem am_z86 : cWd am_n86 am_m86 ∈ amWL := amWL_in (am_ch2 _ (fg_mem (i := 112) rfl)) rfl
theorem am_z87 : cWd am_n87 am_m87 ∈ amWL := amWL_in (am_ch2 _ (fg_mem (i := 119) rfl)) rfl
theorem am_z88 : cWd am_n88 am_m88 ∈ amWL := amWL_in (am_ch1 _ (fg_mem (i := 137) rfl)) rfl
theorem am_z89 : cWd am_n89 am_m89 ∈ amWL := amWL_in (am_ch3 _ (fg_mem (i := 93) rfl)) rfl
theorem am_z90 : cWd am_n90 am_m90 ∈ amWL := amWL_in (am_ch4 _ (fg_mem (i := 118) rfl)) rfl
theorem am_z91 : cWd am_n91 am_m91 ∈ amWL := amWL_in (am_ch1 _ (fg_mem (i := 111) rfl)) rfl
theorem am_z92 : cWd am_n92 am_m92 ∈ amWL := amWL_in (am_ch3 _ (fg_mem (i := 4) rfl)) rfl
theorem am_z93 : cWd am_n93 am_m93 ∈ amWL := amWL_in (am_ch3 _ (fg_mem (i := 98) rfl)) rfl
theorem am_z94 : cWd am_n94 am_m94 ∈ amWL := amWL_in (am_ch1 _ (fg_mem (i := 217) rfl)) rfl
theorem am_z95 : cWd am_n95 am_m95 ∈ amWL := amWL_in (am_ch3 _ (fg_mem (i := 226) rfl)) rfl
theorem am_z96 : cWd am_n96 am_m96 ∈ amWL := amWL_in (am_ch3 _ (fg_mem (i := 231) rfl)) rfl
theorem am_z97 : cWd am_n97 am_m97 ∈ amWL := amWL_in (am_ch4 _ (fg_mem (i := 0) rfl)) rfl
theorem am_z98 : cWd am_n98 am_m98 ∈ amWL := amWL_in (am_ch4 _ (fg_mem (i := 4) rfl)) rfl
theorem am_z99 : cWd am_n99 am_m99 ∈ amWL := amWL_in (am_ch1 _ (fg_mem (i := 231) rfl)) rfl
theorem am_z100 : cWd am_n100 am_m100 ∈ amWL := amWL_in (am_ch6 _ (fg_mem (i := 38) rfl)) rfl
theorem am_z101 : cWd am_n101 am_m101 ∈ amWL := amWL_in (am_ch6 _ (fg_mem (i := 48) rfl)) rfl
theorem am_z102 : cWd am_n102 am_m102 ∈ amWL := amWL_in (am_ch6 _ (fg_mem (i := 43) rfl)) rfl
theorem am_z103 : cWd am_n103 am_m103 ∈ amWL := amWL_in (am_ch6 _ (fg_mem (i := 53) rfl)) rfl
theorem am_z104 : cWd am_n104 am_m104 ∈ amWL := amWL_in (am_ch6 _ (fg_mem (i := 72) rfl)) rfl
theorem am_z105 : cWd am_n105 am_m105 ∈ amWL := amWL_in (am_ch6 _ (fg_mem (i := 76) rfl)) rfl
theorem am_z106 : cWd am_n106 am_m106 ∈ amWL := amWL_in (am_ch6 _ (fg_mem (i := 80) rfl)) rfl
theorem am_z107 : cWd am_n107 am_m107 ∈ amWL := amWL_in (am_ch6 _ (fg_mem (i := 68) rfl)) rfl
theorem am_z108 : cWd am_n108 am_m108 ∈ amWL := amWL_in (am_ch6 _ (fg_mem (i := 64) rfl)) rfl
theorem am_z109 : cWd am_n109 am_m109 ∈ amWL := amWL_in (am_ch6 _ (fg_mem (i := 99) rfl)) rfl
theorem am_z110 : cWd am_n110 am_m110 ∈ amWL := amWL_in (am_ch6 _ (fg_mem (i := 111) rfl)) rfl
theorem am_z111 : cWd am_n111 am_m111 ∈ amWL := amWL_in (am_ch6 _ (fg_mem (i := 115) rfl)) rfl
theorem am_z112 : cWd am_n112 am_m112 ∈ amWL := amWL_in (am_ch1 _ (fg_mem (i := 33) rfl)) rfl
theorem am_z113 : cWd am_n113 am_m113 ∈ amWL := amWL_in (am_ch2 _ (fg_mem (i := 81) rfl)) rfl
theorem am_z114 : cWd am_n114 am_m114 ∈ amWL := amWL_in (am_ch2 _ (fg_mem (i := 93) rfl)) rfl
theorem am_z115 : cWd am_n115 am_m115 ∈ amWL := amWL_in (am_ch2 _ (fg_mem (i := 97) rfl)) rfl
theorem am_z116 : cWd am_n116 am_m116 ∈ amWL := amWL_in (am_ch3 _ (fg_mem (i := 60) rfl)) rfl
theorem am_z117 : cWd am_n117 am_m117 ∈ amWL := amWL_in (am_ch3 _ (fg_mem (i := 64) rfl)) rfl
theorem am_z118 : cWd am_n118 am_m118 ∈ amWL := amWL_in (am_ch4 _ (fg_mem (i := 136) rfl)) rfl
theorem am_z119 : cWd am_n119 am_m119 ∈ amWL := amWL_in (am_ch3 _ (fg_mem (i := 68) rfl)) rfl
theorem am_z120 : cWd am_n120 am_m120 ∈ amWL := amWL_in (am_ch4 _ (fg_mem (i := 212) rfl)) rfl
theorem am_z121 : cWd am_n121 am_m121 ∈ amWL := amWL_in (am_ch5 _ (fg_mem (i := 1) rfl)) rfl
theorem am_z122 : cWd am_n122 am_m122 ∈ amWL := amWL_in (am_ch5 _ (fg_mem (i := 20) rfl)) rfl
theorem am_z123 : cWd am_n123 am_m123 ∈ amWL := amWL_in (am_ch5 _ (fg_mem (i := 31) rfl)) rfl
theorem am_z124 : cWd am_n124 am_m124 ∈ amWL := amWL_in (am_ch5 _ (fg_mem (i := 42) rfl)) rfl
theorem am_z125 : cWd am_n125 am_m125 ∈ amWL := amWL_in (am_ch5 _ (fg_mem (i := 54) rfl)) rfl
theorem am_z126 : cWd am_n126 am_m126 ∈ amWL := amWL_in (am_ch5 _ (fg_mem (i := 62) rfl)) rfl
theorem am_z127 : cWd am_n127 am_m127 ∈ amWL := amWL_in (am_ch5 _ (fg_mem (i := 86) rfl)) rfl
theorem am_z128 : cWd am_n128 am_m128 ∈ amWL := amWL_in (am_ch5 _ (fg_mem (i := 93) rfl)) rfl
theorem am_z129 : cWd am_n129 am_m129 ∈ amWL := amWL_in (am_ch3 _ (fg_mem (i := 77) rfl)) rfl
theorem am_z130 : cWd am_n130 am_m130 ∈ amWL := amWL_in (am_ch3 _ (fg_mem (i := 106) rfl)) rfl
theorem am_z131 : cWd am_n131 am_m131 ∈ amWL := amWL_in (am_ch3 _ (fg_mem (i := 130) rfl)) rfl
theorem am_z132 : cWd am_n132 am_m132 ∈ amWL := amWL_in (am_ch5 _ (fg_mem (i := 102) rfl)) rfl
theorem am_z133 : cWd am_n133 am_m133 ∈ amWL := amWL_in (am_ch5 _ (fg_mem (i := 116) rfl)) rfl
theorem am_z134 : cWd am_n134 am_m134 ∈ amWL := amWL_in (am_ch5 _ (fg_mem (i := 128) rfl)) rfl
theorem am_z135 : cWd am_n135 am_m135 ∈ amWL := amWL_in (am_ch5 _ (fg_mem (i := 139) rfl)) rfl
theorem am_z136 : cWd am_n136 am_m136 ∈ amWL := amWL_in (am_ch5 _ (fg_mem (i := 146) rfl)) rfl
theorem am_z137 : cWd am_n137 am_m137 ∈ amWL := amWL_in (am_ch5 _ (fg_mem (i := 157) rfl)) rfl
theorem am_z138 : cWd am_n138 am_m138 ∈ amWL := amWL_in (am_ch3 _ (fg_mem (i := 134) rfl)) rfl
theorem am_z139 : cWd am_n139 am_m139 ∈ amWL := amWL_in (am_ch5 _ (fg_mem (i := 168) rfl)) rfl
theorem am_z140 : cWd am_n140 am_m140 ∈ amWL := amWL_in (am_ch5 _ (fg_mem (i := 177) rfl)) rfl
theorem am_z141 : cWd am_n141 am_m141 ∈ amWL := amWL_in (am_ch5 _ (fg_mem (i := 185) rfl)) rfl
theorem am_z142 : cWd am_n142 am_m142 ∈ amWL := amWL_in (am_ch5 _ (fg_mem (i := 212) rfl)) rfl
theorem am_z143 : cWd am_n143 am_m143 ∈ amWL := amWL_in (am_ch5 _ (fg_mem (i := 220) rfl)) rfl
theorem am_z144 : cWd am_n144 am_m144 ∈ amWL := amWL_in (am_ch5 _ (fg_mem (i := 235) rfl)) rfl
theorem am_z145 : cWd am_n145 am_m145 ∈ amWL := amWL_in (am_ch3 _ (fg_mem (i := 187) rfl)) rfl
theorem am_z146 : cWd am_n146 am_m146 ∈ amWL := amWL_in (am_ch3 _ (fg_mem (i := 222) rfl)) rfl
theorem am_z147 : cWd am_n147 am_m147 ∈ amWL := amWL_in (am_ch6 _ (fg_mem (i := 2) rfl)) rfl
theorem am_z148 : cWd am_n148 am_m148 ∈ amWL := amWL_in (am_ch4 _ (fg_mem (i := 8) rfl)) rfl
theorem am_z149 : cWd am_n149 am_m149 ∈ amWL := amWL_in (am_ch4 _ (fg_mem (i := 18) rfl)) rfl
theorem am_z150 : cWd am_n150 am_m150 ∈ amWL := amWL_in (am_ch6 _ (fg_mem (i := 10) rfl)) rfl
theorem am_z151 : cWd am_n151 am_m151 ∈ amWL := amWL_in (am_ch6 _ (fg_mem (i := 34) rfl)) rfl
theorem am_z152 : cWd am_n152 am_m152 ∈ amWL := amWL_in (am_ch6 _ (fg_mem (i := 60) rfl)) rfl
theorem am_z153 : cWd am_n153 am_m153 ∈ amWL := amWL_in (am_ch6 _ (fg_mem (i := 87) rfl)) rfl
theorem am_z154 : cWd am_n154 am_m154 ∈ amWL := amWL_in (am_ch6 _ (fg_mem (i := 95) rfl)) rfl
theorem am_z155 : cWd am_n155 am_m155 ∈ amWL := amWL_in (am_ch6 _ (fg_mem (i := 107) rfl)) rfl
theorem am_z156 : cWd am_n156 am_m156 ∈ amWL := amWL_in (am_ch4 _ (fg_mem (i := 27) rfl)) rfl
theorem am_z157 : cWd am_n157 am_m157 ∈ amWL := amWL_in (am_ch4 _ (fg_mem (i := 43) rfl)) rfl
theorem am_z158 : cWd am_n158 am_m158 ∈ amWL := amWL_in (am_ch4 _ (fg_mem (i := 52) rfl)) rfl
theorem am_z159 : cWd am_n159 am_m159 ∈ amWL := amWL_in (am_ch4 _ (fg_mem (i := 61) rfl)) rfl
theorem am_z160 : cWd am_n160 am_m160 ∈ amWL := amWL_in (am_ch4 _ (fg_mem (i := 68) rfl)) rfl
theorem am_z161 : cWd am_n161 am_m161 ∈ amWL := amWL_in (am_ch4 _ (fg_mem (i := 72) rfl)) rfl
theorem am_z162 : cWd am_n162 am_m162 ∈ amWL := amWL_in (am_ch6 _ (fg_mem (i := 122) rfl)) rfl
theorem am_z163 : cWd am_n163 am_m163 ∈ amWL := amWL_in (am_ch4 _ (fg_mem (i := 80) rfl)) rfl
theorem am_z164 : cWd am_n164 am_m164 ∈ amWL := amWL_in (am_ch4 _ (fg_mem (i := 90) rfl)) rfl
theorem am_z165 : cWd am_n165 am_m165 ∈ amWL := amWL_in (am_ch6 _ (fg_mem (i := 135) rfl)) rfl
theorem am_z166 : cWd am_n166 am_m166 ∈ amWL := amWL_in (am_ch4 _ (fg_mem (i := 98) rfl)) rfl
theorem am_z167 : cWd am_n167 am_m167 ∈ amWL := amWL_in (am_ch6 _ (fg_mem (i := 142) rfl)) rfl
theorem am_z168 : cWd am_n168 am_m168 ∈ amWL := amWL_in (am_ch6 _ (fg_mem (i := 153) rfl)) rfl
theorem am_z169 : cWd am_n169 am_m169 ∈ amWL := amWL_in (am_ch6 _ (fg_mem (i := 165) rfl)) rfl
theorem am_z170 : cWd am_n170 am_m170 ∈ amWL := amWL_in (am_ch6 _ (fg_mem (i := 172) rfl)) rfl
theorem am_z171 : cWd am_n171 am_m171 ∈ amWL := amWL_in (am_ch6 _ (fg_mem (i := 180) rfl)) rfl
theorem am_z172 : cWd am_n172 am_m172 ∈ amWL := amWL_in (am_ch4 _ (fg_mem (i := 106) rfl)) rfl
theorem am_z173 : cWd am_n173 am_m173 ∈ amWL := amWL_in (am_ch4 _ (fg_mem (i := 110) rfl)) rfl
theorem am_z174 : cWd am_n174 am_m174 ∈ amWL := amWL_in (am_ch4 _ (fg_mem (i := 124) rfl)) rfl
theorem am_z175 : cWd am_n175 am_m175 ∈ amWL := amWL_in (am_ch6 _ (fg_mem (i := 195) rfl)) rfl
theorem am_z176 : cWd am_n176 am_m176 ∈ amWL := amWL_in (am_ch5 _ (fg_mem (i := 9) rfl)) rfl
theorem am_z177 : cWd am_n177 am_m177 ∈ amWL := amWL_in (am_ch5 _ (fg_mem (i := 24) rfl)) rfl
theorem am_z178 : cWd am_n178 am_m178 ∈ amWL := amWL_in (am_ch5 _ (fg_mem (i := 5) rfl)) rfl
theorem am_z179 : cWd am_n179 am_m179 ∈ amWL := amWL_in (am_ch4 _ (fg_mem (i := 216) rfl)) rfl
theorem am_z180 : cWd am_n180 am_m180 ∈ amWL := amWL_in (am_ch5 _ (fg_mem (i := 106) rfl)) rfl
theorem am_z181 : cWd am_n181 am_m181 ∈ amWL := amWL_in (am_ch5 _ (fg_mem (i := 189) rfl)) rfl
theorem am_z182 : cWd am_n182 am_m182 ∈ amWL := amWL_in (am_ch6 _ (fg_mem (i := 18) rfl)) rfl
theorem am_z183 : cWd am_n183 am_m183 ∈ amWL := amWL_in (am_ch6 _ (fg_mem (i := 14) rfl)) rfl
theorem am_z184 : cWd am_n184 am_m184 ∈ amWL := amWL_in (am_ch3 _ (fg_mem (i := 81) rfl)) rfl
theorem am_z185 : cWd am_n185 am_m185 ∈ amWL := amWL_in (am_ch3 _ (fg_mem (i := 12) rfl)) rfl
theorem am_z186 : cWd am_n186 am_m186 ∈ amWL := amWL_in (am_ch5 _ (fg_mem (i := 150) rfl)) rfl
theorem am_z187 : cWd am_n187 am_m187 ∈ amWL := amWL_in (am_ch5 _ (fg_mem (i := 161) rfl)) rfl
theorem am_z188 : cWd am_n188 am_m188 ∈ amWL := amWL_in (am_ch3 _ (fg_mem (i := 168) rfl)) rfl
theorem am_z189 : cWd am_n189 am_m189 ∈ amWL := amWL_in (am_ch4 _ (fg_mem (i := 12) rfl)) rfl
theorem am_z190 : cWd am_n190 am_m190 ∈ amWL := amWL_in (am_ch6 _ (fg_mem (i := 184) rfl)) rfl
theorem am_z191 : cWd am_n191 am_m191 ∈ amWL := amWL_in (am_ch6 _ (fg_mem (i := 188) rfl)) rfl
theorem am_z192 : cWd am_n192 am_m192 ∈ amWL := amWL_in (am_ch3 _ (fg_mem (i := 109) rfl)) rfl
theorem am_z193 : cWd am_n193 am_m193 ∈ amWL := amWL_in (am_ch4 _ (fg_mem (i := 101) rfl)) rfl
theorem am_z194 : cWd am_n194 am_m194 ∈ amWL := amWL_in (am_ch6 _ (fg_mem (i := 205) rfl)) rfl
theorem am_z195 : cWd am_n195 am_m195 ∈ amWL := amWL_in (am_ch7 _ (fg_mem (i := 74) rfl)) rfl
theorem am_z196 : cWd am_n196 am_m196 ∈ amWL := amWL_in (am_ch7 _ (fg_mem (i := 89) rfl)) rfl
theorem am_z197 : cWd am_n197 am_m197 ∈ amWL := amWL_in (am_ch7 _ (fg_mem (i := 201) rfl)) rfl
theorem am_z198 : cWd am_n198 am_m198 ∈ amWL := amWL_in (am_ch7 _ (fg_mem (i := 96) rfl)) rfl
theorem am_z199 : cWd am_n199 am_m199 ∈ amWL := amWL_in (am_ch6 _ (fg_mem (i := 210) rfl)) rfl
theorem am_z200 : cWd am_n200 am_m200 ∈ amWL := amWL_in (am_ch8 _ (fg_mem (i := 58) rfl)) rfl
theorem am_z201 : cWd am_n201 am_m201 ∈ amWL := amWL_in (am_ch8 _ (fg_mem (i := 74) rfl)) rfl
theorem am_z202 : cWd am_n202 am_m202 ∈ amWL := amWL_in (am_ch8 _ (fg_mem (i := 78) rfl)) rfl
theorem am_z203 : cWd am_n203 am_m203 ∈ amWL := amWL_in (am_ch7 _ (fg_mem (i := 144) rfl)) rfl
theorem am_z204 : cWd am_n204 am_m204 ∈ amWL := amWL_in (am_ch7 _ (fg_mem (i := 168) rfl)) rfl
theorem am_z205 : cWd am_n205 am_m205 ∈ amWL := amWL_in (am_ch7 _ (fg_mem (i := 176) rfl)) rfl
theorem am_z206 : cWd am_n206 am_m206 ∈ amWL := amWL_in (am_ch7 _ (fg_mem (i := 172) rfl)) rfl
theorem am_z207 : cWd am_n207 am_m207 ∈ amWL := amWL_in (am_ch8 _ (fg_mem (i := 66) rfl)) rfl
theorem am_z208 : cWd am_n208 am_m208 ∈ amWL := amWL_in (am_ch7 _ (fg_mem (i := 164) rfl)) rfl
theorem am_z209 : cWd am_n209 am_m209 ∈ amWL := amWL_in (am_ch7 _ (fg_mem (i := 160) rfl)) rfl
theorem am_z210 : cWd am_n210 am_m210 ∈ amWL := amWL_in (am_ch7 _ (fg_mem (i := 156) rfl)) rfl
theorem am_z211 : cWd am_n211 am_m211 ∈ amWL := amWL_in (am_ch7 _ (fg_mem (i := 185) rfl)) rfl
theorem am_z212 : cWd am_n212 am_m212 ∈ amWL := amWL_in (am_ch7 _ (fg_mem (i := 230) rfl)) rfl
theorem am_z213 : cWd am_n213 am_m213 ∈ amWL := amWL_in (am_ch7 _ (fg_mem (i := 181) rfl)) rfl
theorem am_z214 : cWd am_n214 am_m214 ∈ amWL := amWL_in (am_ch7 _ (fg_mem (i := 209) rfl)) rfl
theorem am_z215 : cWd am_n215 am_m215 ∈ amWL := amWL_in (am_ch7 _ (fg_mem (i := 205) rfl)) rfl
theorem am_z216 : cWd am_n216 am_m216 ∈ amWL := amWL_in (am_ch7 _ (fg_mem (i := 217) rfl)) rfl
theorem am_z217 : cWd am_n217 am_m217 ∈ amWL := amWL_in (am_ch7 _ (fg_mem (i := 234) rfl)) rfl
theorem am_z218 : cWd am_n218 am_m218 ∈ amWL := amWL_in (am_ch8 _ (fg_mem (i := 141) rfl)) rfl
theorem am_z219 : cWd am_n219 am_m219 ∈ amWL := amWL_in (am_ch8 _ (fg_mem (i := 153) rfl)) rfl
theorem am_z220 : cWd am_n220 am_m220 ∈ amWL := amWL_in (am_ch8 _ (fg_mem (i := 169) rfl)) rfl
theorem am_z221 : cWd am_n221 am_m221 ∈ amWL := amWL_in (am_ch7 _ (fg_mem (i := 221) rfl)) rfl
theorem am_z222 : cWd am_n222 am_m222 ∈ amWL := amWL_in (am_ch8 _ (fg_mem (i := 181) rfl)) rfl
theorem am_z223 : cWd am_n223 am_m223 ∈ amWL := amWL_in (am_ch8 _ (fg_mem (i := 177) rfl)) rfl
theorem am_z224 : cWd am_n224 am_m224 ∈ amWL := amWL_in (am_ch8 _ (fg_mem (i := 189) rfl)) rfl
theorem am_z225 : cWd am_n225 am_m225 ∈ amWL := amWL_in (am_ch8 _ (fg_mem (i := 213) rfl)) rfl
theorem am_z226 : cWd am_n226 am_m226 ∈ amWL := amWL_in (am_ch8 _ (fg_mem (i := 209) rfl)) rfl
theorem am_z227 : cWd am_n227 am_m227 ∈ amWL := amWL_in (am_ch8 _ (fg_mem (i := 205) rfl)) rfl
theorem am_z228 : cWd am_n228 am_m228 ∈ amWL := amWL_in (am_ch8 _ (fg_mem (i := 225) rfl)) rfl
theorem am_z229 : cWd am_n229 am_m229 ∈ amWL := amWL_in (am_ch9 _ (fg_mem (i := 17) rfl)) rfl
theorem am_z230 : cWd am_n230 am_m230 ∈ amWL := amWL_in (am_ch8 _ (fg_mem (i := 237) rfl)) rfl
theorem am_z231 : cWd am_n231 am_m231 ∈ amWL := amWL_in (am_ch9 _ (fg_mem (i := 21) rfl)) rfl
theorem am_z232 : cWd am_n232 am_m232 ∈ amWL := amWL_in (am_ch9 _ (fg_mem (i := 13) rfl)) rfl
theorem am_z233 : cWd am_n233 am_m233 ∈ amWL := amWL_in (am_ch7 _ (fg_mem (i := 152) rfl)) rfl
theorem am_z234 : cWd am_n234 am_m234 ∈ amWL := amWL_in (am_ch8 _ (fg_mem (i := 109) rfl)) rfl
theorem am_z235 : cWd am_n235 am_m235 ∈ amWL := amWL_in (am_ch9 _ (fg_mem (i := 98) rfl)) rfl
theorem am_z236 : cWd am_n236 am_m236 ∈ amWL := amWL_in (am_ch9 _ (fg_mem (i := 106) rfl)) rfl
theorem am_z237 : cWd am_n237 am_m237 ∈ amWL := amWL_in (am_ch7 _ (fg_mem (i := 148) rfl)) rfl
theorem am_z238 : cWd am_n238 am_m238 ∈ amWL := amWL_in (am_ch7 _ (fg_mem (i := 82) rfl)) rfl
theorem am_z239 : cWd am_n239 am_m239 ∈ amWL := amWL_in (am_ch7 _ (fg_mem (i := 78) rfl)) rfl
theorem am_z240 : cWd am_n240 am_m240 ∈ amWL := amWL_in (am_ch7 _ (fg_mem (i := 86) rfl)) rfl
theorem am_z241 : cWd am_n241 am_m241 ∈ amWL := amWL_in (am_ch7 _ (fg_mem (i := 104) rfl)) rfl
theorem am_z242 : cWd am_n242 am_m242 ∈ amWL := amWL_in (am_ch7 _ (fg_mem (i := 100) rfl)) rfl
theorem am_z243 : cWd am_n243 am_m243 ∈ amWL := amWL_in (am_ch7 _ (fg_mem (i := 121) rfl)) rfl
theorem am_z244 : cWd am_n244 am_m244 ∈ amWL := amWL_in (am_ch7 _ (fg_mem (i := 127) rfl)) rfl
theorem am_z245 : cWd am_n245 am_m245 ∈ amWL := amWL_in (am_ch7 _ (fg_mem (i := 117) rfl)) rfl
theorem am_z246 : cWd am_n246 am_m246 ∈ amWL := amWL_in (am_ch7 _ (fg_mem (i := 131) rfl)) rfl
theorem am_z247 : cWd am_n247 am_m247 ∈ amWL := amWL_in (am_ch7 _ (fg_mem (i := 140) rfl)) rfl
theorem am_z248 : cWd am_n248 am_m248 ∈ amWL := amWL_in (am_ch7 _ (fg_mem (i := 112) rfl)) rfl
theorem am_z249 : cWd am_n249 am_m249 ∈ amWL := amWL_in (am_ch7 _ (fg_mem (i := 135) rfl)) rfl
theorem am_z250 : cWd am_n250 am_m250 ∈ amWL := amWL_in (am_ch7 _ (fg_mem (i := 108) rfl)) rfl
theorem am_z251 : cWd am_n251 am_m251 ∈ amWL := amWL_in (am_ch7 _ (fg_mem (i := 93) rfl)) rfl
theorem am_z252 : cWd am_n252 am_m252 ∈ amWL := amWL_in (am_ch7 _ (fg_mem (i := 189) rfl)) rfl
theorem am_z253 : cWd am_n253 am_m253 ∈ amWL := amWL_in (am_ch7 _ (fg_mem (i := 193) rfl)) rfl
theorem am_z254 : cWd am_n254 am_m254 ∈ amWL := amWL_in (am_ch8 _ (fg_mem (i := 22) rfl)) rfl
theorem am_z255 : cWd am_n255 am_m255 ∈ amWL := amWL_in (am_ch8 _ (fg_mem (i := 30) rfl)) rfl
theorem am_z256 : cWd am_n256 am_m256 ∈ amWL := amWL_in (am_ch8 _ (fg_mem (i := 18) rfl)) rfl
theorem am_z257 : cWd am_n257 am_m257 ∈ amWL := amWL_in (am_ch8 _ (fg_mem (i := 10) rfl)) rfl
theorem am_z258 : cWd am_n258 am_m258 ∈ amWL := amWL_in (am_ch8 _ (fg_mem (i := 137) rfl)) rfl
theorem am_z259 : cWd am_n259 am_m259 ∈ amWL := amWL_in (am_ch8 _ (fg_mem (i := 221) rfl)) rfl
theorem am_z260 : cWd am_n260 am_m260 ∈ amWL := amWL_in (am_ch7 _ (fg_mem (i := 197) rfl)) rfl
theorem am_z261 : cWd am_n261 am_m261 ∈ amWL := amWL_in (am_ch7 _ (fg_mem (i := 213) rfl)) rfl
theorem am_z262 : cWd am_n262 am_m262 ∈ amWL := amWL_in (am_ch8 _ (fg_mem (i := 2) rfl)) rfl
theorem am_z263 : cWd am_n263 am_m263 ∈ amWL := amWL_in (am_ch7 _ (fg_mem (i := 238) rfl)) rfl
theorem am_z264 : cWd am_n264 am_m264 ∈ amWL := amWL_in (am_ch8 _ (fg_mem (i := 6) rfl)) rfl
theorem am_z265 : cWd am_n265 am_m265 ∈ amWL := amWL_in (am_ch8 _ (fg_mem (i := 14) rfl)) rfl
theorem am_z266 : cWd am_n266 am_m266 ∈ amWL := amWL_in (am_ch8 _ (fg_mem (i := 26) rfl)) rfl
theorem am_z267 : cWd am_n267 am_m267 ∈ amWL := amWL_in (am_ch8 _ (fg_mem (i := 34) rfl)) rfl
theorem am_z268 : cWd am_n268 am_m268 ∈ amWL := amWL_in (am_ch8 _ (fg_mem (i := 38) rfl)) rfl
theorem am_z269 : cWd am_n269 am_m269 ∈ amWL := amWL_in (am_ch8 _ (fg_mem (i := 46) rfl)) rfl
theorem am_z270 : cWd am_n270 am_m270 ∈ amWL := amWL_in (am_ch8 _ (fg_mem (i := 42) rfl)) rfl
theorem am_z271 : cWd am_n271 am_m271 ∈ amWL := amWL_in (am_ch8 _ (fg_mem (i := 50) rfl)) rfl
theorem am_z272 : cWd am_n272 am_m272 ∈ amWL := amWL_in (am_ch8 _ (fg_mem (i := 54) rfl)) rfl
theorem am_z273 : cWd am_n273 am_m273 ∈ amWL := amWL_in (am_ch8 _ (fg_mem (i := 62) rfl)) rfl
theorem am_z274 : cWd am_n274 am_m274 ∈ amWL := amWL_in (am_ch8 _ (fg_mem (i := 70) rfl)) rfl
theorem am_z275 : cWd am_n275 am_m275 ∈ amWL := amWL_in (am_ch8 _ (fg_mem (i := 82) rfl)) rfl
theorem am_z276 : cWd am_n276 am_m276 ∈ amWL := amWL_in (am_ch8 _ (fg_mem (i := 86) rfl)) rfl
theorem am_z277 : cWd am_n277 am_m277 ∈ amWL := amWL_in (am_ch8 _ (fg_mem (i := 90) rfl)) rfl
theorem am_z278 : cWd am_n278 am_m278 ∈ amWL := amWL_in (am_ch8 _ (fg_mem (i := 94) rfl)) rfl
theorem am_z279 : cWd am_n279 am_m279 ∈ amWL := amWL_in (am_ch8 _ (fg_mem (i := 98) rfl)) rfl
theorem am_z280 : cWd am_n280 am_m280 ∈ amWL := amWL_in (am_ch8 _ (fg_mem (i := 101) rfl)) rfl
theorem am_z281 : cWd am_n281 am_m281 ∈ amWL := amWL_in (am_ch8 _ (fg_mem (i := 105) rfl)) rfl
theorem am_z282 : cWd am_n282 am_m282 ∈ amWL := amWL_in (am_ch8 _ (fg_mem (i := 125) rfl)) rfl
theorem am_z283 : cWd am_n283 am_m283 ∈ amWL := amWL_in (am_ch8 _ (fg_mem (i := 121) rfl)) rfl
theorem am_z284 : cWd am_n284 am_m284 ∈ amWL := amWL_in (am_ch8 _ (fg_mem (i := 117) rfl)) rfl
theorem am_z285 : cWd am_n285 am_m285 ∈ amWL := amWL_in (am_ch8 _ (fg_mem (i := 113) rfl)) rfl
theorem am_z286 : cWd am_n286 am_m286 ∈ amWL := amWL_in (am_ch8 _ (fg_mem (i := 129) rfl)) rfl
theorem am_z287 : cWd am_n287 am_m287 ∈ amWL := amWL_in (am_ch8 _ (fg_mem (i := 145) rfl)) rfl
theorem am_z288 : cWd am_n288 am_m288 ∈ amWL := amWL_in (am_ch8 _ (fg_mem (i := 133) rfl)) rfl
theorem am_z289 : cWd am_n289 am_m289 ∈ amWL := amWL_in (am_ch8 _ (fg_mem (i := 149) rfl)) rfl
theorem am_z290 : cWd am_n290 am_m290 ∈ amWL := amWL_in (am_ch8 _ (fg_mem (i := 157) rfl)) rfl
theorem am_z291 : cWd am_n291 am_m291 ∈ amWL := amWL_in (am_ch8 _ (fg_mem (i := 161) rfl)) rfl
theorem am_z292 : cWd am_n292 am_m292 ∈ amWL := amWL_in (am_ch8 _ (fg_mem (i := 165) rfl)) rfl
theorem am_z293 : cWd am_n293 am_m293 ∈ amWL := amWL_in (am_ch8 _ (fg_mem (i := 173) rfl)) rfl
theorem am_z294 : cWd am_n294 am_m294 ∈ amWL := amWL_in (am_ch8 _ (fg_mem (i := 185) rfl)) rfl
theorem am_z295 : cWd am_n295 am_m295 ∈ amWL := amWL_in (am_ch8 _ (fg_mem (i := 193) rfl)) rfl
theorem am_z296 : cWd am_n296 am_m296 ∈ amWL := amWL_in (am_ch8 _ (fg_mem (i := 197) rfl)) rfl
theorem am_z297 : cWd am_n297 am_m297 ∈ amWL := amWL_in (am_ch8 _ (fg_mem (i := 201) rfl)) rfl
theorem am_z298 : cWd am_n298 am_m298 ∈ amWL := amWL_in (am_ch8 _ (fg_mem (i := 217) rfl)) rfl
theorem am_z299 : cWd am_n299 am_m299 ∈ amWL := amWL_in (am_ch8 _ (fg_mem (i := 229) rfl)) rfl
theorem am_z300 : cWd am_n300 am_m300 ∈ amWL := amWL_in (am_ch8 _ (fg_mem (i := 233) rfl)) rfl
theorem am_z301 : cWd am_n301 am_m301 ∈ amWL := amWL_in (am_ch9 _ (fg_mem (i := 1) rfl)) rfl
theorem am_z302 : cWd am_n302 am_m302 ∈ amWL := amWL_in (am_ch9 _ (fg_mem (i := 5) rfl)) rfl
theorem am_z303 : cWd am_n303 am_m303 ∈ amWL := amWL_in (am_ch9 _ (fg_mem (i := 9) rfl)) rfl
theorem am_z304 : cWd am_n304 am_m304 ∈ amWL := amWL_in (am_ch9 _ (fg_mem (i := 25) rfl)) rfl
theorem am_z305 : cWd am_n305 am_m305 ∈ amWL := amWL_in (am_ch9 _ (fg_mem (i := 33) rfl)) rfl
theorem am_z306 : cWd am_n306 am_m306 ∈ amWL := amWL_in (am_ch9 _ (fg_mem (i := 29) rfl)) rfl
theorem am_z307 : cWd am_n307 am_m307 ∈ amWL := amWL_in (am_ch9 _ (fg_mem (i := 41) rfl)) rfl
theorem am_z308 : cWd am_n308 am_m308 ∈ amWL := amWL_in (am_ch9 _ (fg_mem (i := 37) rfl)) rfl
theorem am_z309 : cWd am_n309 am_m309 ∈ amWL := amWL_in (am_ch9 _ (fg_mem (i := 49) rfl)) rfl
theorem am_z310 : cWd am_n310 am_m310 ∈ amWL := amWL_in (am_ch9 _ (fg_mem (i := 52) rfl)) rfl
theorem am_z311 : cWd am_n311 am_m311 ∈ amWL := amWL_in (am_ch9 _ (fg_mem (i := 58) rfl)) rfl
theorem am_z312 : cWd am_n312 am_m312 ∈ amWL := amWL_in (am_ch9 _ (fg_mem (i := 66) rfl)) rfl
theorem am_z313 : cWd am_n313 am_m313 ∈ amWL := amWL_in (am_ch9 _ (fg_mem (i := 74) rfl)) rfl
theorem am_z314 : cWd am_n314 am_m314 ∈ amWL := amWL_in (am_ch9 _ (fg_mem (i := 45) rfl)) rfl
theorem am_z315 : cWd am_n315 am_m315 ∈ amWL := amWL_in (am_ch9 _ (fg_mem (i := 62) rfl)) rfl
theorem am_z316 : cWd am_n316 am_m316 ∈ amWL := amWL_in (am_ch9 _ (fg_mem (i := 70) rfl)) rfl
theorem am_z317 : cWd am_n317 am_m317 ∈ amWL := amWL_in (am_ch9 _ (fg_mem (i := 78) rfl)) rfl
theorem am_z318 : cWd am_n318 am_m318 ∈ amWL := amWL_in (am_ch9 _ (fg_mem (i := 82) rfl)) rfl
theorem am_z319 : cWd am_n319 am_m319 ∈ amWL := amWL_in (am_ch9 _ (fg_mem (i := 90) rfl)) rfl
theorem am_z320 : cWd am_n320 am_m320 ∈ amWL := amWL_in (am_ch9 _ (fg_mem (i := 86) rfl)) rfl
theorem am_z321 : cWd am_n321 am_m321 ∈ amWL := amWL_in (am_ch9 _ (fg_mem (i := 94) rfl)) rfl
theorem am_z322 : cWd am_n322 am_m322 ∈ amWL := amWL_in (am_ch9 _ (fg_mem (i := 102) rfl)) rfl
theorem am_z323 : cWd am_n323 am_m323 ∈ amWL := amWL_in (am_ch9 _ (fg_mem (i := 110) rfl)) rfl
theorem am_z324 : cWd am_n324 am_m324 ∈ amWL := amWL_in (am_ch9 _ (fg_mem (i := 114) rfl)) rfl
theorem am_z325 : cWd am_n325 am_m325 ∈ amWL := amWL_in (am_ch9 _ (fg_mem (i := 118) rfl)) rfl
theorem am_z326 : cWd am_n326 am_m326 ∈ amWL := amWL_in (am_ch9 _ (fg_mem (i := 126) rfl)) rfl
theorem am_z327 : cWd am_n327 am_m327 ∈ amWL := amWL_in (am_ch9 _ (fg_mem (i := 122) rfl)) rfl
theorem am_z328 : cWd am_n328 am_m328 ∈ amWL := amWL_in (am_ch9 _ (fg_mem (i := 134) rfl)) rfl
theorem am_z329 : cWd am_n329 am_m329 ∈ amWL := amWL_in (am_ch9 _ (fg_mem (i := 130) rfl)) rfl
theorem am_z330 : cWd am_n330 am_m330 ∈ amWL := amWL_in (am_ch9 _ (fg_mem (i := 142) rfl)) rfl
theorem am_z331 : cWd am_n331 am_m331 ∈ amWL := amWL_in (am_ch9 _ (fg_mem (i := 138) rfl)) rfl
theorem am_z332 : cWd am_n332 am_m332 ∈ amWL := amWL_in (am_ch9 _ (fg_mem (i := 146) rfl)) rfl
theorem am_z333 : cWd am_n333 am_m333 ∈ amWL := amWL_in (am_ch9 _ (fg_mem (i := 154) rfl)) rfl
theorem am_z334 : cWd am_n334 am_m334 ∈ amWL := amWL_in (am_ch9 _ (fg_mem (i := 150) rfl)) rfl
theorem am_z335 : cWd am_n335 am_m335 ∈ amWL := amWL_in (am_ch9 _ (fg_mem (i := 162) rfl)) rfl
theorem am_z336 : cWd am_n336 am_m336 ∈ amWL := amWL_in (am_ch9 _ (fg_mem (i := 166) rfl)) rfl
theorem am_z337 : cWd am_n337 am_m337 ∈ amWL := amWL_in (am_ch9 _ (fg_mem (i := 158) rfl)) rfl
theorem am_z338 : cWd am_n338 am_m338 ∈ amWL := amWL_in (am_ch9 _ (fg_mem (i := 170) rfl)) rfl
theorem am_z339 : cWd am_n339 am_m339 ∈ amWL := amWL_in (am_ch9 _ (fg_mem (i := 174) rfl)) rfl
theorem am_z340 : cWd am_n340 am_m340 ∈ amWL := amWL_in (am_ch9 _ (fg_mem (i := 178) rfl)) rfl
theorem am_z341 : cWd am_n341 am_m341 ∈ amWL := amWL_in (am_ch9 _ (fg_mem (i := 182) rfl)) rfl
theorem am_z342 : cWd am_n342 am_m342 ∈ amWL := amWL_in (am_ch7 _ (fg_mem (i := 225) rfl)) rfl
theorem am_z343 : cWd am_n343 am_m343 ∈ amWL := amWL_in (am_ch2 _ (fg_mem (i := 208) rfl)) rfl
theorem am_z344 : cWd am_n344 am_m344 ∈ amWL := amWL_in (am_ch3 _ (fg_mem (i := 153) rfl)) rfl
theorem am_z345 : cWd am_n345 am_m345 ∈ amWL := amWL_in (am_ch4 _ (fg_mem (i := 34) rfl)) rfl
theorem am_z346 : cWd am_n346 am_m346 ∈ amWL := amWL_in (am_ch2 _ (fg_mem (i := 36) rfl)) rfl
theorem am_z347 : cWd am_n347 am_m347 ∈ amWL := amWL_in (am_ch2 _ (fg_mem (i := 33) rfl)) rfl
theorem am_z348 : cWd am_n348 am_m348 ∈ amWL := amWL_in (am_ch4 _ (fg_mem (i := 131) rfl)) rfl
theorem am_z349 : cWd am_n349 am_m349 ∈ amWL := amWL_in (am_ch4 _ (fg_mem (i := 207) rfl)) rfl
theorem am_z350 : cWd am_n350 am_m350 ∈ amWL := amWL_in (am_ch4 _ (fg_mem (i := 237) rfl)) rfl
theorem am_z351 : cWd am_n351 am_m351 ∈ amWL := amWL_in (am_ch5 _ (fg_mem (i := 16) rfl)) rfl
theorem am_z352 : cWd am_n352 am_m352 ∈ amWL := amWL_in (am_ch5 _ (fg_mem (i := 27) rfl)) rfl
theorem am_z353 : cWd am_n353 am_m353 ∈ amWL := amWL_in (am_ch5 _ (fg_mem (i := 38) rfl)) rfl
theorem am_z354 : cWd am_n354 am_m354 ∈ amWL := amWL_in (am_ch5 _ (fg_mem (i := 50) rfl)) rfl
theorem am_z355 : cWd am_n355 am_m355 ∈ amWL := amWL_in (am_ch5 _ (fg_mem (i := 57) rfl)) rfl
theorem am_z356 : cWd am_n356 am_m356 ∈ amWL := amWL_in (am_ch5 _ (fg_mem (i := 82) rfl)) rfl
theorem am_z357 : cWd am_n357 am_m357 ∈ amWL := amWL_in (am_ch5 _ (fg_mem (i := 89) rfl)) rfl
theorem am_z358 : cWd am_n358 am_m358 ∈ amWL := amWL_in (am_ch5 _ (fg_mem (i := 98) rfl)) rfl
theorem am_z359 : cWd am_n359 am_m359 ∈ amWL := amWL_in (am_ch5 _ (fg_mem (i := 112) rfl)) rfl
theorem am_z360 : cWd am_n360 am_m360 ∈ amWL := amWL_in (am_ch5 _ (fg_mem (i := 124) rfl)) rfl
theorem am_z361 : cWd am_n361 am_m361 ∈ amWL := amWL_in (am_ch5 _ (fg_mem (i := 135) rfl)) rfl
theorem am_z362 : cWd am_n362 am_m362 ∈ amWL := amWL_in (am_ch5 _ (fg_mem (i := 142) rfl)) rfl
theorem am_z363 : cWd am_n363 am_m363 ∈ amWL := amWL_in (am_ch5 _ (fg_mem (i := 153) rfl)) rfl
theorem am_z364 : cWd am_n364 am_m364 ∈ amWL := amWL_in (am_ch5 _ (fg_mem (i := 164) rfl)) rfl
theorem am_z365 : cWd am_n365 am_m365 ∈ amWL := amWL_in (am_ch5 _ (fg_mem (i := 173) rfl)) rfl
theorem am_z366 : cWd am_n366 am_m366 ∈ amWL := amWL_in (am_ch5 _ (fg_mem (i := 180) rfl)) rfl
theorem am_z367 : cWd am_n367 am_m367 ∈ amWL := amWL_in (am_ch5 _ (fg_mem (i := 208) rfl)) rfl
theorem am_z368 : cWd am_n368 am_m368 ∈ amWL := amWL_in (am_ch5 _ (fg_mem (i := 216) rfl)) rfl
theorem am_z369 : cWd am_n369 am_m369 ∈ amWL := amWL_in (am_ch5 _ (fg_mem (i := 231) rfl)) rfl
theorem am_z370 : cWd am_n370 am_m370 ∈ amWL := amWL_in (am_ch5 _ (fg_mem (i := 238) rfl)) rfl
theorem am_z371 : cWd am_n371 am_m371 ∈ amWL := amWL_in (am_ch6 _ (fg_mem (i := 6) rfl)) rfl
theorem am_z372 : cWd am_n372 am_m372 ∈ amWL := amWL_in (am_ch6 _ (fg_mem (i := 30) rfl)) rfl
theorem am_z373 : cWd am_n373 am_m373 ∈ amWL := amWL_in (am_ch6 _ (fg_mem (i := 56) rfl)) rfl
theorem am_z374 : cWd am_n374 am_m374 ∈ amWL := amWL_in (am_ch6 _ (fg_mem (i := 83) rfl)) rfl
theorem am_z375 : cWd am_n375 am_m375 ∈ amWL := amWL_in (am_ch6 _ (fg_mem (i := 91) rfl)) rfl
theorem am_z376 : cWd am_n376 am_m376 ∈ amWL := amWL_in (am_ch6 _ (fg_mem (i := 103) rfl)) rfl
theorem am_z377 : cWd am_n377 am_m377 ∈ amWL := amWL_in (am_ch6 _ (fg_mem (i := 118) rfl)) rfl
theorem am_z378 : cWd am_n378 am_m378 ∈ amWL := amWL_in (am_ch6 _ (fg_mem (i := 131) rfl)) rfl
theorem am_z379 : cWd am_n379 am_m379 ∈ amWL := amWL_in (am_ch6 _ (fg_mem (i := 138) rfl)) rfl
theorem am_z380 : cWd am_n380 am_m380 ∈ amWL := amWL_in (am_ch6 _ (fg_mem (i := 149) rfl)) rfl
theorem am_z381 : cWd am_n381 am_m381 ∈ amWL := amWL_in (am_ch6 _ (fg_mem (i := 161) rfl)) rfl
theorem am_z382 : cWd am_n382 am_m382 ∈ amWL := amWL_in (am_ch6 _ (fg_mem (i := 168) rfl)) rfl
theorem am_z383 : cWd am_n383 am_m383 ∈ amWL := amWL_in (am_ch6 _ (fg_mem (i := 176) rfl)) rfl
theorem am_z384 : cWd am_n384 am_m384 ∈ amWL := amWL_in (am_ch6 _ (fg_mem (i := 191) rfl)) rfl
theorem am_zr : ∀ row ∈ amTT, ∀ t ∈ row, cWd t.1 t.2 ∈ amWL := by
  intro row hrow
  rcases List.mem_cons.mp hrow with e | hrow
  · rw [e]; exact List.forall_mem_cons.mpr ⟨am_z0, List.forall_mem_cons.mpr ⟨am_z1, List.forall_mem_cons.mpr ⟨am_z2, List.forall_mem_cons.mpr ⟨am_z3, List.forall_mem_cons.mpr ⟨am_z4, List.forall_mem_cons.mpr ⟨am_z5, List.forall_mem_cons.mpr ⟨am_z6, List.forall_mem_cons.mpr ⟨am_z7, List.forall_mem_cons.mpr ⟨am_z8, List.forall_mem_cons.mpr ⟨am_z9, List.forall_mem_cons.mpr ⟨am_z10, List.forall_mem_cons.mpr ⟨am_z11, List.forall_mem_cons.mpr ⟨am_z12, List.forall_mem_cons.mpr ⟨am_z13, List.forall_mem_cons.mpr ⟨am_z14, List.forall_mem_cons.mpr ⟨am_z15, List.forall_mem_nil _⟩⟩⟩⟩⟩⟩⟩⟩⟩⟩⟩⟩⟩⟩⟩⟩
  rcases List.mem_cons.mp hrow with e | hrow
  · rw [e]; exact List.forall_mem_cons.mpr ⟨am_z16, List.forall_mem_cons.mpr ⟨am_z17, List.forall_mem_cons.mpr ⟨am_z18, List.forall_mem_cons.mpr ⟨am_z19, List.forall_mem_cons.mpr ⟨am_z20, List.forall_mem_cons.mpr ⟨am_z21, List.forall_mem_cons.mpr ⟨am_z22, List.forall_mem_cons.mpr ⟨am_z23, List.forall_mem_cons.mpr ⟨am_z24, List.forall_mem_cons.mpr ⟨am_z25, List.forall_mem_cons.mpr ⟨am_z26, List.forall_mem_cons.mpr ⟨am_z27, List.forall_mem_cons.mpr ⟨am_z28, List.forall_mem_cons.mpr ⟨am_z29, List.forall_mem_cons.mpr ⟨am_z30, List.forall_mem_cons.mpr ⟨am_z31, List.forall_mem_nil _⟩⟩⟩⟩⟩⟩⟩⟩⟩⟩⟩⟩⟩⟩⟩⟩
  rcases List.mem_cons.mp hrow with e | hrow
  · rw [e]; exact List.forall_mem_cons.mpr ⟨am_z32, List.forall_mem_cons.mpr ⟨am_z33, List.forall_mem_cons.mpr ⟨am_z34, List.forall_mem_cons.mpr ⟨am_z35, List.forall_mem_cons.mpr ⟨am_z36, List.forall_mem_cons.mpr ⟨am_z37, List.forall_mem_cons.mpr ⟨am_z38, List.forall_mem_cons.mpr ⟨am_z39, List.forall_mem_cons.mpr ⟨am_z40, List.forall_mem_cons.mpr ⟨am_z41, List.forall_mem_cons.mpr ⟨am_z42, List.forall_mem_cons.mpr ⟨am_z43, List.forall_mem_cons.mpr ⟨am_z44, List.forall_mem_cons.mpr ⟨am_z45, List.forall_mem_cons.mpr ⟨am_z46, List.forall_mem_cons.mpr ⟨am_z47, List.forall_mem_nil _⟩⟩⟩⟩⟩⟩⟩⟩⟩⟩⟩⟩⟩⟩⟩⟩
  rcases List.mem_cons.mp hrow with e | hrow
  · rw [e]; exact List.forall_mem_cons.mpr ⟨am_z48, List.forall_mem_cons.mpr ⟨am_z49, List.forall_mem_cons.mpr ⟨am_z50, List.forall_mem_cons.mpr ⟨am_z51, List.forall_mem_cons.mpr ⟨am_z52, List.forall_mem_cons.mpr ⟨am_z53, List.forall_mem_cons.mpr ⟨am_z54, List.forall_mem_cons.mpr ⟨am_z55, List.forall_mem_cons.mpr ⟨am_z56, List.forall_mem_cons.mpr ⟨am_z57, List.forall_mem_cons.mpr ⟨am_z58, List.forall_mem_cons.mpr ⟨am_z59, List.forall_mem_cons.mpr ⟨am_z60, List.forall_mem_cons.mpr ⟨am_z61, List.forall_mem_cons.mpr ⟨am_z62, List.forall_mem_cons.mpr ⟨am_z63, List.forall_mem_nil _⟩⟩⟩⟩⟩⟩⟩⟩⟩⟩⟩⟩⟩⟩⟩⟩
  rcases List.mem_cons.mp hrow with e | hrow
  · rw [e]; exact List.forall_mem_cons.mpr ⟨am_z64, List.forall_mem_cons.mpr ⟨am_z65, List.forall_mem_cons.mpr ⟨am_z66, List.forall_mem_cons.mpr ⟨am_z67, List.forall_mem_cons.mpr ⟨am_z68, List.forall_mem_cons.mpr ⟨am_z69, List.forall_mem_cons.mpr ⟨am_z70, List.forall_mem_cons.mpr ⟨am_z71, List.forall_mem_cons.mpr ⟨am_z72, List.forall_mem_cons.mpr ⟨am_z73, List.forall_mem_cons.mpr ⟨am_z74, List.forall_mem_cons.mpr ⟨am_z75, List.forall_mem_cons.mpr ⟨am_z76, List.forall_mem_cons.mpr ⟨am_z77, List.forall_mem_cons.mpr ⟨am_z78, List.forall_mem_cons.mpr ⟨am_z79, List.forall_mem_nil _⟩⟩⟩⟩⟩⟩⟩⟩⟩⟩⟩⟩⟩⟩⟩⟩
  rcases List.mem_cons.mp hrow with e | hrow
  · rw [e]; exact List.forall_mem_cons.mpr ⟨am_z80, List.forall_mem_cons.mpr ⟨am_z81, List.forall_mem_cons.mpr ⟨am_z82, List.forall_mem_cons.mpr ⟨am_z83, List.forall_mem_cons.mpr ⟨am_z84, List.forall_mem_cons.mpr ⟨am_z85, List.forall_mem_cons.mpr ⟨am_z86, List.forall_mem_cons.mpr ⟨am_z87, List.forall_mem_cons.mpr ⟨am_z88, List.forall_mem_cons.mpr ⟨am_z89, List.forall_mem_cons.mpr ⟨am_z90, List.forall_mem_cons.mpr ⟨am_z91, List.forall_mem_cons.mpr ⟨am_z92, List.forall_mem_cons.mpr ⟨am_z93, List.forall_mem_cons.mpr ⟨am_z94, List.forall_mem_cons.mpr ⟨am_z95, List.forall_mem_nil _⟩⟩⟩⟩⟩⟩⟩⟩⟩⟩⟩⟩⟩⟩⟩⟩
  rcases List.mem_cons.mp hrow with e | hrow
  · rw [e]; exact List.forall_mem_cons.mpr ⟨am_z96, List.forall_mem_cons.mpr ⟨am_z97, List.forall_mem_cons.mpr ⟨am_z98, List.forall_mem_cons.mpr ⟨am_z99, List.forall_mem_cons.mpr ⟨am_z100, List.forall_mem_cons.mpr ⟨am_z101, List.forall_mem_cons.mpr ⟨am_z102, List.forall_mem_cons.mpr ⟨am_z103, List.forall_mem_cons.mpr ⟨am_z104, List.forall_mem_cons.mpr ⟨am_z105, List.forall_mem_cons.mpr ⟨am_z106, List.forall_mem_cons.mpr ⟨am_z107, List.forall_mem_cons.mpr ⟨am_z108, List.forall_mem_cons.mpr ⟨am_z109, List.forall_mem_cons.mpr ⟨am_z110, List.forall_mem_cons.mpr ⟨am_z111, List.forall_mem_nil _⟩⟩⟩⟩⟩⟩⟩⟩⟩⟩⟩⟩⟩⟩⟩⟩
  rcases List.mem_cons.mp hrow with e | hrow
  · rw [e]; exact List.forall_mem_cons.mpr ⟨am_z112, List.forall_mem_cons.mpr ⟨am_z113, List.forall_mem_cons.mpr ⟨am_z114, List.forall_mem_cons.mpr ⟨am_z115, List.forall_mem_cons.mpr ⟨am_z116, List.forall_mem_cons.mpr ⟨am_z117, List.forall_mem_cons.mpr ⟨am_z118, List.forall_mem_cons.mpr ⟨am_z119, List.forall_mem_cons.mpr ⟨am_z120, List.forall_mem_cons.mpr ⟨am_z121, List.forall_mem_cons.mpr ⟨am_z122, List.forall_mem_cons.mpr ⟨am_z123, List.forall_mem_cons.mpr ⟨am_z124, List.forall_mem_cons.mpr ⟨am_z125, List.forall_mem_cons.mpr ⟨am_z126, List.forall_mem_cons.mpr ⟨am_z127, List.forall_mem_nil _⟩⟩⟩⟩⟩⟩⟩⟩⟩⟩⟩⟩⟩⟩⟩⟩
  rcases List.mem_cons.mp hrow with e | hrow
  · rw [e]; exact List.forall_mem_cons.mpr ⟨am_z128, List.forall_mem_cons.mpr ⟨am_z129, List.forall_mem_cons.mpr ⟨am_z130, List.forall_mem_cons.mpr ⟨am_z131, List.forall_mem_cons.mpr ⟨am_z132, List.forall_mem_cons.mpr ⟨am_z133, List.forall_mem_cons.mpr ⟨am_z134, List.forall_mem_cons.mpr ⟨am_z135, List.forall_mem_cons.mpr ⟨am_z136, List.forall_mem_cons.mpr ⟨am_z137, List.forall_mem_cons.mpr ⟨am_z138, List.forall_mem_cons.mpr ⟨am_z139, List.forall_mem_cons.mpr ⟨am_z140, List.forall_mem_cons.mpr ⟨am_z141, List.forall_mem_cons.mpr ⟨am_z142, List.forall_mem_cons.mpr ⟨am_z143, List.forall_mem_nil _⟩⟩⟩⟩⟩⟩⟩⟩⟩⟩⟩⟩⟩⟩⟩⟩
  rcases List.mem_cons.mp hrow with e | hrow
  · rw [e]; exact List.forall_mem_cons.mpr ⟨am_z144, List.forall_mem_cons.mpr ⟨am_z145, List.forall_mem_cons.mpr ⟨am_z146, List.forall_mem_cons.mpr ⟨am_z147, List.forall_mem_cons.mpr ⟨am_z148, List.forall_mem_cons.mpr ⟨am_z149, List.forall_mem_cons.mpr ⟨am_z150, List.forall_mem_cons.mpr ⟨am_z151, List.forall_mem_cons.mpr ⟨am_z152, List.forall_mem_cons.mpr ⟨am_z153, List.forall_mem_cons.mpr ⟨am_z154, List.forall_mem_cons.mpr ⟨am_z155, List.forall_mem_cons.mpr ⟨am_z156, List.forall_mem_cons.mpr ⟨am_z157, List.forall_mem_cons.mpr ⟨am_z158, List.forall_mem_cons.mpr ⟨am_z159, List.forall_mem_nil _⟩⟩⟩⟩⟩⟩⟩⟩⟩⟩⟩⟩⟩⟩⟩⟩
  rcases List.mem_cons.mp hrow with e | hrow
  · rw [e]; exact List.forall_mem_cons.mpr ⟨am_z160, List.forall_mem_cons.mpr ⟨am_z161, List.forall_mem_cons.mpr ⟨am_z162, List.forall_mem_cons.mpr ⟨am_z163, List.forall_mem_cons.mpr ⟨am_z164, List.forall_mem_cons.mpr ⟨am_z165, List.forall_mem_cons.mpr ⟨am_z166, List.forall_mem_cons.mpr ⟨am_z167, List.forall_mem_cons.mpr ⟨am_z168, List.forall_mem_cons.mpr ⟨am_z169, List.forall_mem_cons.mpr ⟨am_z170, List.forall_mem_cons.mpr ⟨am_z171, List.forall_mem_cons.mpr ⟨am_z172, List.forall_mem_cons.mpr ⟨am_z173, List.forall_mem_cons.mpr ⟨am_z174, List.forall_mem_cons.mpr ⟨am_z175, List.forall_mem_nil _⟩⟩⟩⟩⟩⟩⟩⟩⟩⟩⟩⟩⟩⟩⟩⟩
  rcases List.mem_cons.mp hrow with e | hrow
  · rw [e]; exact List.forall_mem_cons.mpr ⟨am_z176, List.forall_mem_cons.mpr ⟨am_z177, List.forall_mem_cons.mpr ⟨am_z178, List.forall_mem_cons.mpr ⟨am_z179, List.forall_mem_cons.mpr ⟨am_z180, List.forall_mem_cons.mpr ⟨am_z181, List.forall_mem_cons.mpr ⟨am_z182, List.forall_mem_cons.mpr ⟨am_z183, List.forall_mem_cons.mpr ⟨am_z184, List.forall_mem_cons.mpr ⟨am_z185, List.forall_mem_cons.mpr ⟨am_z186, List.forall_mem_cons.mpr ⟨am_z187, List.forall_mem_cons.mpr ⟨am_z188, List.forall_mem_cons.mpr ⟨am_z189, List.forall_mem_cons.mpr ⟨am_z190, List.forall_mem_cons.mpr ⟨am_z191, List.forall_mem_nil _⟩⟩⟩⟩⟩⟩⟩⟩⟩⟩⟩⟩⟩⟩⟩⟩
  rcases List.mem_cons.mp hrow with e | hrow
  · rw [e]; exact List.forall_mem_cons.mpr ⟨am_z192, List.forall_mem_cons.mpr ⟨am_z193, List.forall_mem_cons.mpr ⟨am_z194, List.forall_mem_cons.mpr ⟨am_z195, List.forall_mem_cons.mpr ⟨am_z196, List.forall_mem_cons.mpr ⟨am_z197, List.forall_mem_cons.mpr ⟨am_z198, List.forall_mem_cons.mpr ⟨am_z199, List.forall_mem_cons.mpr ⟨am_z200, List.forall_mem_cons.mpr ⟨am_z201, List.forall_mem_cons.mpr ⟨am_z202, List.forall_mem_cons.mpr ⟨am_z203, List.forall_mem_cons.mpr ⟨am_z204, List.forall_mem_cons.mpr ⟨am_z205, List.forall_mem_cons.mpr ⟨am_z206, List.forall_mem_cons.mpr ⟨am_z207, List.forall_mem_nil _⟩⟩⟩⟩⟩⟩⟩⟩⟩⟩⟩⟩⟩⟩⟩⟩
  rcases List.mem_cons.mp hrow with e | hrow
  · rw [e]; exact List.forall_mem_cons.mpr ⟨am_z208, List.forall_mem_cons.mpr ⟨am_z209, List.forall_mem_cons.mpr ⟨am_z210, List.forall_mem_cons.mpr ⟨am_z211, List.forall_mem_cons.mpr ⟨am_z212, List.forall_mem_cons.mpr ⟨am_z213, List.forall_mem_cons.mpr ⟨am_z214, List.forall_mem_cons.mpr ⟨am_z215, List.forall_mem_cons.mpr ⟨am_z216, List.forall_mem_cons.mpr ⟨am_z217, List.forall_mem_cons.mpr ⟨am_z218, List.forall_mem_cons.mpr ⟨am_z219, List.forall_mem_cons.mpr ⟨am_z220, List.forall_mem_cons.mpr ⟨am_z221, List.forall_mem_cons.mpr ⟨am_z222, List.forall_mem_cons.mpr ⟨am_z223, List.forall_mem_nil _⟩⟩⟩⟩⟩⟩⟩⟩⟩⟩⟩⟩⟩⟩⟩⟩
  rcases List.mem_cons.mp hrow with e | hrow
  · rw [e]; exact List.forall_mem_cons.mpr ⟨am_z224, List.forall_mem_cons.mpr ⟨am_z225, List.forall_mem_cons.mpr ⟨am_z226, List.forall_mem_cons.mpr ⟨am_z227, List.forall_mem_cons.mpr ⟨am_z228, List.forall_mem_cons.mpr ⟨am_z229, List.forall_mem_cons.mpr ⟨am_z230, List.forall_mem_cons.mpr ⟨am_z231, List.forall_mem_cons.mpr ⟨am_z232, List.forall_mem_cons.mpr ⟨am_z233, List.forall_mem_cons.mpr ⟨am_z234, List.forall_mem_cons.mpr ⟨am_z235, List.forall_mem_cons.mpr ⟨am_z236, List.forall_mem_cons.mpr ⟨am_z237, List.forall_mem_cons.mpr ⟨am_z238, List.forall_mem_cons.mpr ⟨am_z239, List.forall_mem_nil _⟩⟩⟩⟩⟩⟩⟩⟩⟩⟩⟩⟩⟩⟩⟩⟩
  rcases List.mem_cons.mp hrow with e | hrow
  · rw [e]; exact List.forall_mem_cons.mpr ⟨am_z240, List.forall_mem_cons.mpr ⟨am_z241, List.forall_mem_cons.mpr ⟨am_z242, List.forall_mem_cons.mpr ⟨am_z243, List.forall_mem_cons.mpr ⟨am_z244, List.forall_mem_cons.mpr ⟨am_z245, List.forall_mem_cons.mpr ⟨am_z246, List.forall_mem_cons.mpr ⟨am_z247, List.forall_mem_cons.mpr ⟨am_z248, List.forall_mem_cons.mpr ⟨am_z249, List.forall_mem_cons.mpr ⟨am_z250, List.forall_mem_cons.mpr ⟨am_z251, List.forall_mem_cons.mpr ⟨am_z252, List.forall_mem_cons.mpr ⟨am_z253, List.forall_mem_cons.mpr ⟨am_z254, List.forall_mem_cons.mpr ⟨am_z255, List.forall_mem_nil _⟩⟩⟩⟩⟩⟩⟩⟩⟩⟩⟩⟩⟩⟩⟩⟩
  rcases List.mem_cons.mp hrow with e | hrow
  · rw [e]; exact List.forall_mem_cons.mpr ⟨am_z256, List.forall_mem_cons.mpr ⟨am_z257, List.forall_mem_cons.mpr ⟨am_z258, List.forall_mem_cons.mpr ⟨am_z259, List.forall_mem_cons.mpr ⟨am_z260, List.forall_mem_cons.mpr ⟨am_z261, List.forall_mem_cons.mpr ⟨am_z262, List.forall_mem_cons.mpr ⟨am_z263, List.forall_mem_cons.mpr ⟨am_z264, List.forall_mem_cons.mpr ⟨am_z265, List.forall_mem_cons.mpr ⟨am_z266, List.forall_mem_cons.mpr ⟨am_z267, List.forall_mem_cons.mpr ⟨am_z268, List.forall_mem_cons.mpr ⟨am_z269, List.forall_mem_cons.mpr ⟨am_z270, List.forall_mem_cons.mpr ⟨am_z271, List.forall_mem_nil _⟩⟩⟩⟩⟩⟩⟩⟩⟩⟩⟩⟩⟩⟩⟩⟩
  rcases List.mem_cons.mp hrow with e | hrow
  · rw [e]; exact List.forall_mem_cons.mpr ⟨am_z272, List.forall_mem_cons.mpr ⟨am_z273, List.forall_mem_cons.mpr ⟨am_z274, List.forall_mem_cons.mpr ⟨am_z275, List.forall_mem_cons.mpr ⟨am_z276, List.forall_mem_cons.mpr ⟨am_z277, List.forall_mem_cons.mpr ⟨am_z278, List.forall_mem_cons.mpr ⟨am_z279, List.forall_mem_cons.mpr ⟨am_z280, List.forall_mem_cons.mpr ⟨am_z281, List.forall_mem_cons.mpr ⟨am_z282, List.forall_mem_cons.mpr ⟨am_z283, List.forall_mem_cons.mpr ⟨am_z284, List.forall_mem_cons.mpr ⟨am_z285, List.forall_mem_cons.mpr ⟨am_z286, List.forall_mem_cons.mpr ⟨am_z287, List.forall_mem_nil _⟩⟩⟩⟩⟩⟩⟩⟩⟩⟩⟩⟩⟩⟩⟩⟩
  rcases List.mem_cons.mp hrow with e | hrow
  · rw [e]; exact List.forall_mem_cons.mpr ⟨am_z288, List.forall_mem_cons.mpr ⟨am_z289, List.forall_mem_cons.mpr ⟨am_z290, List.forall_mem_cons.mpr ⟨am_z291, List.forall_mem_cons.mpr ⟨am_z292, List.forall_mem_cons.mpr ⟨am_z293, List.forall_mem_cons.mpr ⟨am_z294, List.forall_mem_cons.mpr ⟨am_z295, List.forall_mem_cons.mpr ⟨am_z296, List.forall_mem_cons.mpr ⟨am_z297, List.forall_mem_cons.mpr ⟨am_z298, List.forall_mem_cons.mpr ⟨am_z299, List.forall_mem_cons.mpr ⟨am_z300, List.forall_mem_cons.mpr ⟨am_z301, List.forall_mem_cons.mpr ⟨am_z302, List.forall_mem_cons.mpr ⟨am_z303, List.forall_mem_nil _⟩⟩⟩⟩⟩⟩⟩⟩⟩⟩⟩⟩⟩⟩⟩⟩
  rcases List.mem_cons.mp hrow with e | hrow
  · rw [e]; exact List.forall_mem_cons.mpr ⟨am_z304, List.forall_mem_cons.mpr ⟨am_z305, List.forall_mem_cons.mpr ⟨am_z306, List.forall_mem_cons.mpr ⟨am_z307, List.forall_mem_cons.mpr ⟨am_z308, List.forall_mem_cons.mpr ⟨am_z309, List.forall_mem_cons.mpr ⟨am_z310, List.forall_mem_cons.mpr ⟨am_z311, List.forall_mem_cons.mpr ⟨am_z312, List.forall_mem_cons.mpr ⟨am_z313, List.forall_mem_cons.mpr ⟨am_z314, List.forall_mem_cons.mpr ⟨am_z315, List.forall_mem_cons.mpr ⟨am_z316, List.forall_mem_cons.mpr ⟨am_z317, List.forall_mem_cons.mpr ⟨am_z318, List.forall_mem_cons.mpr ⟨am_z319, List.forall_mem_nil _⟩⟩⟩⟩⟩⟩⟩⟩⟩⟩⟩⟩⟩⟩⟩⟩
  rcases List.mem_cons.mp hrow with e | hrow
  · rw [e]; exact List.forall_mem_cons.mpr ⟨am_z320, List.forall_mem_cons.mpr ⟨am_z321, List.forall_mem_cons.mpr ⟨am_z322, List.forall_mem_cons.mpr ⟨am_z323, List.forall_mem_cons.mpr ⟨am_z324, List.forall_mem_cons.mpr ⟨am_z325, List.forall_mem_cons.mpr ⟨am_z326, List.forall_mem_cons.mpr ⟨am_z327, List.forall_mem_cons.mpr ⟨am_z328, List.forall_mem_cons.mpr ⟨am_z329, List.forall_mem_cons.mpr ⟨am_z330, List.forall_mem_cons.mpr ⟨am_z331, List.forall_mem_cons.mpr ⟨am_z332, List.forall_mem_cons.mpr ⟨am_z333, List.forall_mem_cons.mpr ⟨am_z334, List.forall_mem_cons.mpr ⟨am_z335, List.forall_mem_nil _⟩⟩⟩⟩⟩⟩⟩⟩⟩⟩⟩⟩⟩⟩⟩⟩
  rcases List.mem_cons.mp hrow with e | hrow
  · rw [e]; exact List.forall_mem_cons.mpr ⟨am_z336, List.forall_mem_cons.mpr ⟨am_z337, List.forall_mem_cons.mpr ⟨am_z338, List.forall_mem_cons.mpr ⟨am_z339, List.forall_mem_cons.mpr ⟨am_z340, List.forall_mem_cons.mpr ⟨am_z341, List.forall_mem_cons.mpr ⟨am_z342, List.forall_mem_cons.mpr ⟨am_z343, List.forall_mem_cons.mpr ⟨am_z344, List.forall_mem_cons.mpr ⟨am_z345, List.forall_mem_cons.mpr ⟨am_z346, List.forall_mem_cons.mpr ⟨am_z347, List.forall_mem_cons.mpr ⟨am_z348, List.forall_mem_cons.mpr ⟨am_z349, List.forall_mem_cons.mpr ⟨am_z350, List.forall_mem_cons.mpr ⟨am_z351, List.forall_mem_nil _⟩⟩⟩⟩⟩⟩⟩⟩⟩⟩⟩⟩⟩⟩⟩⟩
  rcases List.mem_cons.mp hrow with e | hrow
  · rw [e]; exact List.forall_mem_cons.mpr ⟨am_z352, List.forall_mem_cons.mpr ⟨am_z353, List.forall_mem_cons.mpr ⟨am_z354, List.forall_mem_cons.mpr ⟨am_z355, List.forall_mem_cons.mpr ⟨am_z356, List.forall_mem_cons.mpr ⟨am_z357, List.forall_mem_cons.mpr ⟨am_z358, List.forall_mem_cons.mpr ⟨am_z359, List.forall_mem_cons.mpr ⟨am_z360, List.forall_mem_cons.mpr ⟨am_z361, List.forall_mem_cons.mpr ⟨am_z362, List.forall_mem_cons.mpr ⟨am_z363, List.forall_mem_cons.mpr ⟨am_z364, List.forall_mem_cons.mpr ⟨am_z365, List.forall_mem_cons.mpr ⟨am_z366, List.forall_mem_cons.mpr ⟨am_z367, List.forall_mem_nil _⟩⟩⟩⟩⟩⟩⟩⟩⟩⟩⟩⟩⟩⟩⟩⟩
  rcases List.mem_cons.mp hrow with e | hrow
  · rw [e]; exact List.forall_mem_cons.mpr ⟨am_z368, List.forall_mem_cons.mpr ⟨am_z369, List.forall_mem_cons.mpr ⟨am_z370, List.forall_mem_cons.mpr ⟨am_z371, List.forall_mem_cons.mpr ⟨am_z372, List.forall_mem_cons.mpr ⟨am_z373, List.forall_mem_cons.mpr ⟨am_z374, List.forall_mem_cons.mpr ⟨am_z375, List.forall_mem_cons.mpr ⟨am_z376, List.forall_mem_cons.mpr ⟨am_z377, List.forall_mem_cons.mpr ⟨am_z378, List.forall_mem_cons.mpr ⟨am_z379, List.forall_mem_cons.mpr ⟨am_z380, List.forall_mem_cons.mpr ⟨am_z381, List.forall_mem_cons.mpr ⟨am_z382, List.forall_mem_cons.mpr ⟨am_z383, List.forall_mem_nil _⟩⟩⟩⟩⟩⟩⟩⟩⟩⟩⟩⟩⟩⟩⟩⟩
  rcases List.mem_cons.mp hrow with e | hrow
  · rw [e]; exact List.forall_mem_cons.mpr ⟨am_z384, List.forall_mem_nil _⟩
  cases hrow
theorem am_zz : cwAll amXX amGG := by
  intro k N M hX hG
  unfold amXX at hX
  unfold amGG at hG
  obtain ⟨q, h1, rfl⟩ := Option.map_eq_some_iff.mp hX
  rw [h1] at hG
  cases hG
  unfold amGx at h1
  split at h1
  · next row e =>
    exact am_zr row (List.mem_of_getElem? e) q (List.mem_of_getElem? h1)
  · cases h1
