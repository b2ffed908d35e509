/-! ===== the tables checked, 0 ===== -/
theorem am_f0 : fM amXX amGG am_V am_W0 am_n0 am_m0 am_h0 am_g0 = true := by decide +kernel
theorem am_f1 : fM amXX amGG am_V am_W0 am_n1 am_m1 am_h1 am_g1 = true := by decide +kernel
theorem am_f2 : fM amXX amGG am_V am_W0 am_n2 am_m2 am_h2 am_g2 = true := by decide +kernel
theorem am_f3 : fM amXX amGG am_V am_W0 am_n3 am_m3 am_h3 am_g3 = true := by decide +kernel
theorem am_f4 : fM amXX amGG am_V am_W0 am_n4 am_m4 am_h4 am_g4 = true := by decide +kernel
theorem am_f5 : fM amXX amGG am_V am_W0 am_n5 am_m5 am_h5 am_g5 = true := by decide +kernel
theorem am_f6 : fM amXX amGG am_V am_W0 am_n6 am_m6 am_h6 am_g6 = true := by decide +kernel
theorem am_f7 : fM amXX amGG am_V am_W0 am_n7 am_m7 am_h7 am_g7 = true := by decide +kernel
theorem am_f8 : fM amXX amGG am_V am_W0 am_n8 am_m8 am_h8 am_g8 = true := by decide +kernel
theorem am_f9 : fM amXX amGG am_V am_W0 am_n9 am_m9 am_h9 am_g9 = true := by decide +kernel
theorem am_f10 : fM amXX amGG am_V am_W0 am_n10 am_m10 am_h10 am_g10 = true := by decide +kernel
theorem am_f11 : fM amXX amGG am_V am_W0 am_n11 am_m11 am_h11 am_g11 = true := by decide +kernel
theorem am_f12 : fM amXX amGG am_V am_W0 am_n12 am_m12 am_h12 am_g12 = true := by decide +kernel
theorem am_f13 : fM amXX amGG am_V am_W0 am_n13 am_m13 am_h13 am_g13 = true := by decide +kernel
theorem am_f14 : fM amXX amGG am_V am_W0 am_n14 am_m14 am_h14 am_g14 = true := by decide +kernel
theorem am_f15 : fM amXX amGG am_V am_W0 am_n15 am_m15 am_h15 am_g15 = true := by decide +kernel
theorem am_f16 : fM amXX amGG am_V am_W0 am_n16 am_m16 am_h16 am_g16 = true := by decide +kernel
theorem am_f17 : fM amXX amGG am_V am_W0 am_n17 am_m17 am_h17 am_g17 = true := by decide +kernel
theorem am_f18 : fM amXX amGG am_V am_W0 am_n18 am_m18 am_h18 am_g18 = true := by decide +kernel
theorem am_f19 : fM amXX amGG am_V am_W0 am_n19 am_m19 am_h19 am_g19 = true := by decide +kernel
theorem am_f20 : fM amXX amGG am_V am_W0 am_n20 am_m20 am_h20 am_g20 = true := by decide +kernel
theorem am_f21 : fM amXX amGG am_V am_W0 am_n21 am_m21 am_h21 am_g21 = true := by decide +kernel
theorem am_f22 : fM amXX amGG am_V am_W0 am_n22 am_m22 am_h22 am_g22 = true := by decide +kernel
theorem am_f23 : fM amXX amGG am_V am_W0 am_n23 am_m23 am_h23 am_g23 = true := by decide +kernel
theorem am_f24 : fM amXX amGG am_V am_W0 am_n24 am_m24 am_h24 am_g24 = true := by decide +kernel
theorem am_f25 : fM amXX amGG am_V am_W0 am_n25 am_m25 am_h25 am_g25 = true := by decide +kernel
theorem am_f26 : fM amXX amGG am_V am_W0 am_n26 am_m26 am_h26 am_g26 = true := by decide +kernel
theorem am_f27 : fM amXX amGG am_V am_W0 am_n27 am_m27 am_h27 am_g27 = true := by decide +kernel
theorem am_f28 : fM amXX amGG am_V am_W0 am_n28 am_m28 am_h28 am_g28 = true := by decide +kernel
theorem am_f29 : fM amXX amGG am_V am_W0 am_n29 am_m29 am_h29 am_g29 = true := by decide +kernel
theorem am_f30 : fM amXX amGG am_V am_W0 am_n30 am_m30 am_h30 am_g30 = true := by decide +kernel
theorem am_f31 : fM amXX amGG am_V am_W0 am_n31 am_m31 am_h31 am_g31 = true := by decide +kernel
theorem am_f32 : fM amXX amGG am_V am_W0 am_n32 am_m32 am_h32 am_g32 = true := by decide +kernel
theorem am_f33 : fM amXX amGG am_V am_W0 am_n33 am_m33 am_h33 am_g33 = true := by decide +kernel
theorem am_f34 : fM amXX amGG am_V am_W0 am_n34 am_m34 am_h34 am_g34 = true := by decide +kernel
theorem am_f35 : fM amXX amGG am_V am_W1 am_n35 am_m35 am_h35 am_g35 = true := by decide +kernel
theorem am_f36 : fM amXX amGG am_V am_W1 am_n36 am_m36 am_h36 am_g36 = true := by decide +kernel
theorem am_f37 : fM amXX amGG am_V am_W1 am_n37 am_m37 am_h37 am_g37 = true := by decide +kernel
theorem am_f38 : fM amXX amGG am_V am_W1 am_n38 am_m38 am_h38 am_g38 = true := by decide +kernel
theorem am_f39 : fM amXX amGG am_V am_W1 am_n39 am_m39 am_h39 am_g39 = true := by decide +kernel
theorem am_f40 : fM amXX amGG am_V am_W1 am_n40 am_m40 am_h40 am_g40 = true := by decide +kernel
theorem am_f41 : fM amXX amGG am_V am_W1 am_n41 am_m41 am_h41 am_g41 = true := by decide +kernel
theorem am_f42 : fM amXX amGG am_V am_W1 am_n42 am_m42 am_h42 am_g42 = true := by decide +kernel
theorem am_f43 : fM amXX amGG am_V am_W1 am_n43 am_m43 am_h43 am_g43 = true := by decide +kernel
theorem am_f44 : fM amXX amGG am_V am_W1 am_n44 am_m44 am_h44 am_g44 = true := by decide +kernel
theorem am_f45 : fM amXX amGG am_V am_W2 am_n45 am_m45 am_h45 am_g45 = true := by decide +kernel
theorem am_f46 : fM amXX amGG am_V am_W2 am_n46 am_m46 am_h46 am_g46 = true := by decide +kernel
theorem am_f47 : fM amXX amGG am_V am_W2 am_n47 am_m47 am_h47 am_g47 = true := by decide +kernel
theorem am_f48 : fM amXX amGG am_V am_W2 am_n48 am_m48 am_h48 am_g48 = true := by decide +kernel
theorem am_f49 : fM amXX amGG am_V am_W3 am_n49 am_m49 am_h49 am_g49 = true := by decide +kernel
theorem am_f50 : fM amXX amGG am_V am_W3 am_n50 am_m50 am_h50 am_g50 = true := by decide +kernel
theorem am_f51 : fM amXX amGG am_V am_W3 am_n51 am_m51 am_h51 am_g51 = true := by decide +kernel
theorem am_f52 : fM amXX amGG am_V am_W3 am_n52 am_m52 am_h52 am_g52 = true := by decide +kernel
theorem am_f53 : fM amXX amGG am_V am_W3 am_n53 am_m53 am_h53 am_g53 = true := by decide +kernel
theorem am_f54 : fM amXX amGG am_V am_W3 am_n54 am_m54 am_h54 am_g54 = true := by decide +kernel
theorem am_f55 : fM amXX amGG am_V am_W3 am_n55 am_m55 am_h55 am_g55 = true := by decide +kernel
theorem am_f56 : fM amXX amGG am_V am_W4 am_n56 am_m56 am_h56 am_g56 = true := by decide +kernel
theorem am_f57 : fM amXX amGG am_V am_W4 am_n57 am_m57 am_h57 am_g57 = true := by decide +kernel
theorem am_f58 : fM amXX amGG am_V am_W4 am_n58 am_m58 am_h58 am_g58 = true := by decide +kernel
theorem am_f59 : fM amXX amGG am_V am_W4 am_n59 am_m59 am_h59 am_g59 = true := by decide +kernel
theorem am_f60 : fM amXX amGG am_V am_W4 am_n60 am_m60 am_h60 am_g60 = true := by decide +kernel
theorem am_f61 : fM amXX amGG am_V am_W4 am_n61 am_m61 am_h61 am_g61 = true := by decide +kernel
theorem am_f62 : fM amXX amGG am_V am_W4 am_n62 am_m62 am_h62 am_g62 = true := by decide +kernel
theorem am_f63 : fM amXX amGG am_V am_W4 am_n63 am_m63 am_h63 am_g63 = true := by decide +kernel
theorem am_f64 : fM amXX amGG am_V am_W4 am_n64 am_m64 am_h64 am_g64 = true := by decide +kernel
theorem am_f65 : fM amXX amGG am_V am_W4 am_n65 am_m65 am_h65 am_g65 = true := by decide +kernel
theorem am_f66 : fM amXX amGG am_V am_W4 am_n66 am_m66 am_h66 am_g66 = true := by decide +kernel
theorem am_f67 : fM amXX amGG am_V am_W4 am_n67 am_m67 am_h67 am_g67 = true := by decide +kernel
theorem am_f68 : fM amXX amGG am_V am_W5 am_n68 am_m68 am_h68 am_g68 = true := by decide +kernel
theorem am_f69 : fM amXX amGG am_V am_W5 am_n69 am_m69 am_h69 am_g69 = true := by decide +kernel
theorem am_f70 : fM amXX amGG am_V am_W5 am_n70 am_m70 am_h70 am_g70 = true := by decide +kernel
theorem am_f71 : fM amXX amGG am_V am_W5 am_n71 am_m71 am_h71 am_g71 = true := by decide +kernel
theorem am_f72 : fM amXX amGG am_V am_W5 am_n72 am_m72 am_h72 am_g72 = true := by decide +kernel
theorem am_f73 : fM amXX amGG am_V am_W5 am_n73 am_m73 am_h73 am_g73 = true := by decide +kernel
theorem am_f74 : fM amXX amGG am_V am_W6 am_n74 am_m74 am_h74 am_g74 = true := by decide +kernel
theorem am_f75 : fM amXX amGG am_V am_W6 am_n75 am_m75 am_h75 am_g75 = true := by decide +kernel
theorem am_f76 : fM amXX amGG am_V am_W6 am_n76 am_m76 am_h76 am_g76 = true := by decide +kernel
theorem am_f77 : fM amXX amGG am_V am_W6 am_n77 am_m77 am_h77 am_g77 = true := by decide +kernel
theorem am_f78 : fM amXX amGG am_V am_W6 am_n78 am_m78 am_h78 am_g78 = true := by decide +kernel
theorem am_f79 : fM amXX amGG am_V am_W6 am_n79 am_m79 am_h79 am_g79 = true := by decide +kernel
theorem am_f80 : fM amXX amGG am_V am_W6 am_n80 am_m80 am_h80 am_g80 = true := by decide +kernel
theorem am_f81 : fM amXX amGG am_V am_W6 am_n81 am_m81 am_h81 am_g81 = true := by decide +kernel
theorem am_f82 : fM amXX amGG am_V am_W6 am_n82 am_m82 am_h82 am_g82 = true := by decide +kernel
theorem am_f83 : fM amXX amGG am_V am_W6 am_n83 am_m83 am_h83 am_g83 = true := by decide +kernel
theorem am_f84 : fM amXX amGG am_V am_W6 am_n84 am_m84 am_h84 am_g84 = true := by decide +kernel
theorem am_f85 : fM amXX amGG am_V am_W6 am_n85 am_m85 am_h85 am_g85 = true := by decide +kernel
theorem am_f86 : fM amXX amGG am_V am_W6 am_n86 am_m86 am_h86 am_g86 = true := by decide +kernel
theorem am_f87 : fM amXX amGG am_V am_W6 am_n87 am_m87 am_h87 am_g87 = true := by decide +kernel
theorem am_f88 : fM amXX amGG am_V am_W7 am_n88 am_m88 am_h88 am_g88 = true := by decide +kernel
theorem am_f89 : fM amXX amGG am_V am_W7 am_n89 am_m89 am_h89 am_g89 = true := by decide +kernel
theorem am_f90 : fM amXX amGG am_V am_W7 am_n90 am_m90 am_h90 am_g90 = true := by decide +kernel
theorem am_f91 : fM amXX amGG am_V am_W8 am_n91 am_m91 am_h91 am_g91 = true := by decide +kernel
theorem am_f92 : fM amXX amGG am_V am_W8 am_n92 am_m92 am_h92 am_g92 = true := by decide +kernel
theorem am_f93 : fM amXX amGG am_V am_W8 am_n93 am_m93 am_h93 am_g93 = true := by decide +kernel
theorem am_f94 : fM amXX amGG am_V am_W9 am_n94 am_m94 am_h94 am_g94 = true := by decide +kernel
theorem am_f95 : fM amXX amGG am_V am_W9 am_n95 am_m95 am_h95 am_g95 = true := by decide +kernel
theorem am_t0 : ∀ t ∈ [(am_n0, am_m0), (am_n1, am_m1), (am_n2, am_m2), (am_n3, am_m3), (am_n4, am_m4), (am_n5, am_m5), (am_n6, am_m6), (am_n7, am_m7), (am_n8, am_m8), (am_n9, am_m9), (am_n10, am_m10), (am_n11, am_m11), (am_n12, am_m12), (am_n13, am_m13), (am_n14, am_m14), (am_n15, am_m15), (am_n16, am_m16), (am_n17, am_m17), (am_n18, am_m18), (am_n19, am_m19), (am_n20, am_m20), (am_n21, am_m21), (am_n22, am_m22), (am_n23, am_m23), (am_n24, am_m24), (am_n25, am_m25), (am_n26, am_m26), (am_n27, am_m27), (am_n28, am_m28), (am_n29, am_m29), (am_n30, am_m30), (am_n31, am_m31), (am_n32, am_m32), (am_n33, am_m33), (am_n34, am_m34), (am_n35, am_m35), (am_n36, am_m36), (am_n37, am_m37), (am_n38, am_m38), (am_n39, am_m39), (am_n40, am_m40), (am_n41, am_m41), (am_n42, am_m42), (am_n43, am_m43), (am_n44, am_m44), (am_n45, am_m45), (am_n46, am_m46), (am_n47, am_m47)], amMk amGG amXX t.1 t.2 := by
  intro t ht
  simp only [List.mem_cons, List.not_mem_nil, or_false] at ht
  rcases ht with rfl | rfl | rfl | rfl | rfl | rfl | rfl | rfl | rfl | rfl | rfl | rfl | rfl | rfl | rfl | rfl | rfl | rfl | rfl | rfl | rfl | rfl | rfl | rfl | rfl | rfl | rfl | rfl | rfl | rfl | rfl | rfl | rfl | rfl | rfl | rfl | rfl | rfl | rfl | rfl | rfl | rfl | rfl | rfl | rfl | rfl | rfl | rfl
  · exact fM_s am_zz am_rq (o := 0) rfl am_v am_w0 am_f0
  · exact fM_s am_zz am_rq (o := 0) rfl am_v am_w0 am_f1
  · exact fM_s am_zz am_rq (o := 0) rfl am_v am_w0 am_f2
  · exact fM_s am_zz am_rq (o := 0) rfl am_v am_w0 am_f3
  · exact fM_s am_zz am_rq (o := 0) rfl am_v am_w0 am_f4
  · exact fM_s am_zz am_rq (o := 0) rfl am_v am_w0 am_f5
  · exact fM_s am_zz am_rq (o := 0) rfl am_v am_w0 am_f6
  · exact fM_s am_zz am_rq (o := 0) rfl am_v am_w0 am_f7
  · exact fM_s am_zz am_rq (o := 0) rfl am_v am_w0 am_f8
  · exact fM_s am_zz am_rq (o := 0) rfl am_v am_w0 am_f9
  · exact fM_s am_zz am_rq (o := 0) rfl am_v am_w0 am_f10
  · exact fM_s am_zz am_rq (o := 0) rfl am_v am_w0 am_f11
  · exact fM_s am_zz am_rq (o := 0) rfl am_v am_w0 am_f12
  · exact fM_s am_zz am_rq (o := 0) rfl am_v am_w0 am_f13
  · exact fM_s am_zz am_rq (o := 0) rfl am_v am_w0 am_f14
  · exact fM_s am_zz am_rq (o := 0) rfl am_v am_w0 am_f15
  · exact fM_s am_zz am_rq (o := 0) rfl am_v am_w0 am_f16
  · exact fM_s am_zz am_rq (o := 0) rfl am_v am_w0 am_f17
  · exact fM_s am_zz am_rq (o := 0) rfl am_v am_w0 am_f18
  · exact fM_s am_zz am_rq (o := 0) rfl am_v am_w0 am_f19
  · exact fM_s am_zz am_rq (o := 0) rfl am_v am_w0 am_f20
  · exact fM_s am_zz am_rq (o := 0) rfl am_v am_w0 am_f21
  · exact fM_s am_zz am_rq (o := 0) rfl am_v am_w0 am_f22
  · exact fM_s am_zz am_rq (o := 0) rfl am_v am_w0 am_f23
  · exact fM_s am_zz am_rq (o := 0) rfl am_v am_w0 am_f24
  · exact fM_s am_zz am_rq (o := 0) rfl am_v am_w0 am_f25
  · exact fM_s am_zz am_rq (o := 0) rfl am_v am_w0 am_f26
  · exact fM_s am_zz am_rq (o := 0) rfl am_v am_w0 am_f27
  · exact fM_s am_zz am_rq (o := 0) rfl am_v am_w0 am_f28
  · exact fM_s am_zz am_rq (o := 0) rfl am_v am_w0 am_f29
  · exact fM_s am_zz am_rq (o := 0) rfl am_v am_w0 am_f30
  · exact fM_s am_zz am_rq (o := 0) rfl am_v am_w0 am_f31
  · exact fM_s am_zz am_rq (o := 0) rfl am_v am_w0 am_f32
  · exact fM_s am_zz am_rq (o := 0) rfl am_v am_w0 am_f33
  · exact fM_s am_zz am_rq (o := 0) rfl am_v am_w0 am_f34
  · exact fM_s am_zz am_rq (o := 1) rfl am_v am_w1 am_f35
  · exact fM_s am_zz am_rq (o := 1) rfl am_v am_w1 am_f36
  · exact fM_s am_zz am_rq (o := 1) rfl am_v am_w1 am_f37
  · exact fM_s am_zz am_rq (o := 1) rfl am_v am_w1 am_f38
  · exact fM_s am_zz am_rq (o := 1) rfl am_v am_w1 am_f39
  · exact fM_s am_zz am_rq (o := 1) rfl am_v am_w1 am_f40
  · exact fM_s am_zz am_rq (o := 1) rfl am_v am_w1 am_f41
  · exact fM_s am_zz am_rq (o := 1) rfl am_v am_w1 am_f42
  · exact fM_s am_zz am_rq (o := 1) rfl am_v am_w1 am_f43
  · exact fM_s am_zz am_rq (o := 1) rfl am_v am_w1 am_f44
  · exact fM_s am_zz am_rq (o := 2) rfl am_v am_w2 am_f45
  · exact fM_s am_zz am_rq (o := 2) rfl am_v am_w2 am_f46
  · exact fM_s am_zz am_rq (o := 2) rfl am_v am_w2 am_f47
theorem am_t1 : ∀ t ∈ [(am_n48, am_m48), (am_n49, am_m49), (am_n50, am_m50), (am_n51, am_m51), (am_n52, am_m52), (am_n53, am_m53), (am_n54, am_m54), (am_n55, am_m55), (am_n56, am_m56), (am_n57, am_m57), (am_n58, am_m58), (am_n59, am_m59), (am_n60, am_m60), (am_n61, am_m61), (am_n62, am_m62), (am_n63, am_m63), (am_n64, am_m64), (am_n65, am_m65), (am_n66, am_m66), (am_n67, am_m67), (am_n68, am_m68), (am_n69, am_m69), (am_n70, am_m70), (am_n71, am_m71), (am_n72, am_m72), (am_n73, am_m73), (am_n74, am_m74), (am_n75, am_m75), (am_n76, am_m76), (am_n77, am_m77), (am_n78, am_m78), (am_n79, am_m79), (am_n80, am_m80), (am_n81, am_m81), (am_n82, am_m82), (am_n83, am_m83), (am_n84, am_m84), (am_n85, am_m85), (am_n86, am_m86), (am_n87, am_m87), (am_n88, am_m88), (am_n89, am_m89), (am_n90, am_m90), (am_n91, am_m91), (am_n92, am_m92), (am_n93, am_m93), (am_n94, am_m94), (am_n95, am_m95)], amMk amGG amXX t.1 t.2 := by
  intro t ht
  simp only [List.mem_cons, List.not_mem_nil, or_false] at ht
  rcases ht with rfl | rfl | rfl | rfl | rfl | rfl | rfl | rfl | rfl | rfl | rfl | rfl | rfl | rfl | rfl | rfl | rfl | rfl | rfl | rfl | rfl | rfl | rfl | rfl | rfl | rfl | rfl | rfl | rfl | rfl | rfl | rfl | rfl | rfl | rfl | rfl | rfl | rfl | rfl | rfl | rfl | rfl | rfl | rfl | rfl | rfl | rfl | rfl
  · exact fM_s am_zz am_rq (o := 2) rfl am_v am_w2 am_f48
  · exact fM_s am_zz am_rq (o := 3) rfl am_v am_w3 am_f49
  · exact fM_s am_zz am_rq (o := 3) rfl am_v am_w3 am_f50
  · exact fM_s am_zz am_rq (o := 3) rfl am_v am_w3 am_f51
  · exact fM_s am_zz am_rq (o := 3) rfl am_v am_w3 am_f52
  · exact fM_s am_zz am_rq (o := 3) rfl am_v am_w3 am_f53
  · exact fM_s am_zz am_rq (o := 3) rfl am_v am_w3 am_f54
  · exact fM_s am_zz am_rq (o := 3) rfl am_v am_w3 am_f55
  · exact fM_s am_zz am_rq (o := 4) rfl am_v am_w4 am_f56
  · exact fM_s am_zz am_rq (o := 4) rfl am_v am_w4 am_f57
  · exact fM_s am_zz am_rq (o := 4) rfl am_v am_w4 am_f58
  · exact fM_s am_zz am_rq (o := 4) rfl am_v am_w4 am_f59
  · exact fM_s am_zz am_rq (o := 4) rfl am_v am_w4 am_f60
  · exact fM_s am_zz am_rq (o := 4) rfl am_v am_w4 am_f61
  · exact fM_s am_zz am_rq (o := 4) rfl am_v am_w4 am_f62
  · exact fM_s am_zz am_rq (o := 4) rfl am_v am_w4 am_f63
  · exact fM_s am_zz am_rq (o := 4) rfl am_v am_w4 am_f64
  · exact fM_s am_zz am_rq (o := 4) rfl am_v am_w4 am_f65
  · exact fM_s am_zz am_rq (o := 4) rfl am_v am_w4 am_f66
  · exact fM_s am_zz am_rq (o := 4) rfl am_v am_w4 am_f67
  · exact fM_s am_zz am_rq (o := 5) rfl am_v am_w5 am_f68
  · exact fM_s am_zz am_rq (o := 5) rfl am_v am_w5 am_f69
  · exact fM_s am_zz am_rq (o := 5) rfl am_v am_w5 am_f70
  · exact fM_s am_zz am_rq (o := 5) rfl am_v am_w5 am_f71
  · exact fM_s am_zz am_rq (o := 5) rfl am_v am_w5 am_f72
  · exact fM_s am_zz am_rq (o := 5) rfl am_v am_w5 am_f73
  · exact fM_s am_zz am_rq (o := 6) rfl am_v am_w6 am_f74
  · exact fM_s am_zz am_rq (o := 6) rfl am_v am_w6 am_f75
  · exact fM_s am_zz am_rq (o := 6) rfl am_v am_w6 am_f76
  · exact fM_s am_zz am_rq (o := 6) rfl am_v am_w6 am_f77
  · exact fM_s am_zz am_rq (o := 6) rfl am_v am_w6 am_f78
  · exact fM_s am_zz am_rq (o := 6) rfl am_v am_w6 am_f79
  · exact fM_s am_zz am_rq (o := 6) rfl am_v am_w6 am_f80
  · exact fM_s am_zz am_rq (o := 6) rfl am_v am_w6 am_f81
  · exact fM_s am_zz am_rq (o := 6) rfl am_v am_w6 am_f82
  · exact fM_s am_zz am_rq (o := 6) rfl am_v am_w6 am_f83
  · exact fM_s am_zz am_rq (o := 6) rfl am_v am_w6 am_f84
  · exact fM_s am_zz am_rq (o := 6) rfl am_v am_w6 am_f85
  · exact fM_s am_zz am_rq (o := 6) rfl am_v am_w6 am_f86
  · exact fM_s am_zz am_rq (o := 6) rfl am_v am_w6 am_f87
  · exact fM_s am_zz am_rq (o := 7) rfl am_v am_w7 am_f88
  · exact fM_s am_zz am_rq (o := 7) rfl am_v am_w7 am_f89
  · exact fM_s am_zz am_rq (o := 7) rfl am_v am_w7 am_f90
  · exact fM_s am_zz am_rq (o := 8) rfl am_v am_w8 am_f91
  · exact fM_s am_zz am_rq (o := 8) rfl am_v am_w8 am_f92
  · exact fM_s am_zz am_rq (o := 8) rfl am_v am_w8 am_f93
  · exact fM_s am_zz am_rq (o := 9) rfl am_v am_w9 am_f94
  · exact fM_s am_zz am_rq (o := 9) rfl am_v am_w9 am_f95
