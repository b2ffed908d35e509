/-! ##### 11.a.check ##### -/
section
/-! ===== the tables checked, 0 ===== -/
theorem am_f0 : fM amXX amGG am_V am_W0 am_n0 am_m0 am_h0 am_g0 = true := by decide +kernel
theorem am_f1 : fM amXX amGG am_V am_W0 am_n1 am_m1 am_h1 am_g1 = true := by decide +kernel
theorem am_f2 : fM amXX amGG am_V am_W0 am_n2 am_m2 am_h2 am_g2 = true := by decide +kernel
theorem am_f3 : fM amXX amGG am_V am_W0 am_n3 am_m3 am_h3 am_g3 = true := by decide +kernel
theorem am_f4 : fM amXX amGG am_V am_W0 am_n4 am_m4 am_h4 am_g4 = true := by decide +kernel
theorem am_f5 : fM amXX amGG am_V am_W0 am_n5 am_m5 am_h5 am_g5 = true := by decide +kernel
theorem am_f6 : fM amXX amGG am_V am_W0 am_n6 am_m6 am_h6 am_g6 = true := by decide +kernel
theorem am_f7 : fM amXX amGG am_V am_W0 am_n7 am_m7 am_h7 am_g7 = true := by decide +kernel
theorem am_f8 : fM amXX amGG am_V am_W0 am_n8 am_m8 am_h8 am_g8 = true := by decide +kernel
theorem am_f9 : fM amXX amGG am_V am_W0 am_n9 am_m9 am_h9 am_g9 = true := by decide +kernel
theorem am_f10 : fM amXX amGG am_V am_W0 am_n10 am_m10 am_h10 am_g10 = true := by decide +kernel
theorem am_f11 : fM amXX amGG am_V am_W0 am_n11 am_m11 am_h11 am_g11 = true := by decide +kernel
theorem am_f12 : fM amXX amGG am_V am_W0 am_n12 am_m12 am_h12 am_g12 = true := by decide +kernel
theorem am_f13 : fM amXX amGG am_V am_W0 am_n13 am_m13 am_h13 am_g13 = true := by decide +kernel
theorem am_f14 : fM amXX amGG am_V am_W0 am_n14 am_m14 am_h14 am_g14 = true := by decide +kernel
theorem am_f15 : fM amXX amGG am_V am_W0 am_n15 am_m15 am_h15 am_g15 = true := by decide +kernel
theorem am_f16 : fM amXX amGG am_V am_W0 am_n16 am_m16 am_h16 am_g16 = true := by decide +kernel
theorem am_f17 : fM amXX amGG am_V am_W0 am_n17 am_m17 am_h17 am_g17 = true := by decide +kernel
theorem am_f18 : fM amXX amGG am_V am_W0 am_n18 am_m18 am_h18 am_g18 = true := by decide +kernel
theorem am_f19 : fM amXX amGG am_V am_W0 am_n19 am_m19 am_h19 am_g19 = true := by decide +kernel
theorem am_f20 : fM amXX amGG am_V am_W0 am_n20 am_m20 am_h20 am_g20 = true := by decide +kernel
theorem am_f21 : fM amXX amGG am_V am_W0 am_n21 am_m21 am_h21 am_g21 = true := by decide +kernel
theorem am_f22 : fM amXX amGG am_V am_W0 am_n22 am_m22 am_h22 am_g22 = true := by decide +kernel
theorem am_f23 : fM amXX amGG am_V am_W0 am_n23 am_m23 am_h23 am_g23 = true := by decide +kernel
theorem am_f24 : fM amXX amGG am_V am_W0 am_n24 am_m24 am_h24 am_g24 = true := by decide +kernel
theorem am_f25 : fM amXX amGG am_V am_W0 am_n25 am_m25 am_h25 am_g25 = true := by decide +kernel
theorem am_f26 : fM amXX amGG am_V am_W0 am_n26 am_m26 am_h26 am_g26 = true := by decide +kernel
theorem am_f27 : fM amXX amGG am_V am_W0 am_n27 am_m27 am_h27 am_g27 = true := by decide +kernel
theorem am_f28 : fM amXX amGG am_V am_W0 am_n28 am_m28 am_h28 am_g28 = true := by decide +kernel
theorem am_f29 : fM amXX amGG am_V am_W0 am_n29 am_m29 am_h29 am_g29 = true := by decide +kernel
theorem am_f30 : fM amXX amGG am_V am_W0 am_n30 am_m30 am_h30 am_g30 = true := by decide +kernel
theorem am_f31 : fM amXX amGG am_V am_W0 am_n31 am_m31 am_h31 am_g31 = true := by decide +kernel
theorem am_f32 : fM amXX amGG am_V am_W0 am_n32 am_m32 am_h32 am_g32 = true := by decide +kernel
theorem am_f33 : fM amXX amGG am_V am_W0 am_n33 am_m33 am_h33 am_g33 = true := by decide +kernel
theorem am_f34 : fM amXX amGG am_V am_W0 am_n34 am_m34 am_h34 am_g34 = true := by decide +kernel
theorem am_f35 : fM amXX amGG am_V am_W1 am_n35 am_m35 am_h35 am_g35 = true := by decide +kernel
theorem am_f36 : fM amXX amGG am_V am_W1 am_n36 am_m36 am_h36 am_g36 = true := by decide +kernel
theorem am_f37 : fM amXX amGG am_V am_W1 am_n37 am_m37 am_h37 am_g37 = true := by decide +kernel
theorem am_f38 : fM amXX amGG am_V am_W1 am_n38 am_m38 am_h38 am_g38 = true := by decide +kernel
theorem am_f39 : fM amXX amGG am_V am_W1 am_n39 am_m39 am_h39 am_g39 = true := by decide +kernel
theorem am_f40 : fM amXX amGG am_V am_W1 am_n40 am_m40 am_h40 am_g40 = true := by decide +kernel
theorem am_f41 : fM amXX amGG am_V am_W1 am_n41 am_m41 am_h41 am_g41 = true := by decide +kernel
theorem am_f42 : fM amXX amGG am_V am_W1 am_n42 am_m42 am_h42 am_g42 = true := by decide +kernel
theorem am_f43 : fM amXX amGG am_V am_W1 am_n43 am_m43 am_h43 am_g43 = true := by decide +kernel
theorem am_f44 : fM amXX amGG am_V am_W1 am_n44 am_m44 am_h44 am_g44 = true := by decide +kernel
theorem am_f45 : fM amXX amGG am_V am_W2 am_n45 am_m45 am_h45 am_g45 = true := by decide +kernel
theorem am_f46 : fM amXX amGG am_V am_W2 am_n46 am_m46 am_h46 am_g46 = true := by decide +kernel
theorem am_f47 : fM amXX amGG am_V am_W2 am_n47 am_m47 am_h47 am_g47 = true := by decide +kernel
theorem am_f48 : fM amXX amGG am_V am_W2 am_n48 am_m48 am_h48 am_g48 = true := by decide +kernel
theorem am_f49 : fM amXX amGG am_V am_W3 am_n49 am_m49 am_h49 am_g49 = true := by decide +kernel
theorem am_f50 : fM amXX amGG am_V am_W3 am_n50 am_m50 am_h50 am_g50 = true := by decide +kernel
theorem am_f51 : fM amXX amGG am_V am_W3 am_n51 am_m51 am_h51 am_g51 = true := by decide +kernel
theorem am_f52 : fM amXX amGG am_V am_W3 am_n52 am_m52 am_h52 am_g52 = true := by decide +kernel
theorem am_f53 : fM amXX amGG am_V am_W3 am_n53 am_m53 am_h53 am_g53 = true := by decide +kernel
theorem am_f54 : fM amXX amGG am_V am_W3 am_n54 am_m54 am_h54 am_g54 = true := by decide +kernel
theorem am_f55 : fM amXX amGG am_V am_W3 am_n55 am_m55 am_h55 am_g55 = true := by decide +kernel
theorem am_f56 : fM amXX amGG am_V am_W4 am_n56 am_m56 am_h56 am_g56 = true := by decide +kernel
theorem am_f57 : fM amXX amGG am_V am_W4 am_n57 am_m57 am_h57 am_g57 = true := by decide +kernel
theorem am_f58 : fM amXX amGG am_V am_W4 am_n58 am_m58 am_h58 am_g58 = true := by decide +kernel
theorem am_f59 : fM amXX amGG am_V am_W4 am_n59 am_m59 am_h59 am_g59 = true := by decide +kernel
theorem am_f60 : fM amXX amGG am_V am_W4 am_n60 am_m60 am_h60 am_g60 = true := by decide +kernel
theorem am_f61 : fM amXX amGG am_V am_W4 am_n61 am_m61 am_h61 am_g61 = true := by decide +kernel
theorem am_f62 : fM amXX amGG am_V am_W4 am_n62 am_m62 am_h62 am_g62 = true := by decide +kernel
theorem am_f63 : fM amXX amGG am_V am_W4 am_n63 am_m63 am_h63 am_g63 = true := by decide +kernel
theorem am_f64 : fM amXX amGG am_V am_W4 am_n64 am_m64 am_h64 am_g64 = true := by decide +kernel
theorem am_f65 : fM amXX amGG am_V am_W4 am_n65 am_m65 am_h65 am_g65 = true := by decide +kernel
theorem am_f66 : fM amXX amGG am_V am_W4 am_n66 am_m66 am_h66 am_g66 = true := by decide +kernel
theorem am_f67 : fM amXX amGG am_V am_W4 am_n67 am_m67 am_h67 am_g67 = true := by decide +kernel
theorem am_f68 : fM amXX amGG am_V am_W5 am_n68 am_m68 am_h68 am_g68 = true := by decide +kernel
theorem am_f69 : fM amXX amGG am_V am_W5 am_n69 am_m69 am_h69 am_g69 = true := by decide +kernel
theorem am_f70 : fM amXX amGG am_V am_W5 am_n70 am_m70 am_h70 am_g70 = true := by decide +kernel
theorem am_f71 : fM amXX amGG am_V am_W5 am_n71 am_m71 am_h71 am_g71 = true := by decide +kernel
theorem am_f72 : fM amXX amGG am_V am_W5 am_n72 am_m72 am_h72 am_g72 = true := by decide +kernel
theorem am_f73 : fM amXX amGG am_V am_W5 am_n73 am_m73 am_h73 am_g73 = true := by decide +kernel
theorem am_f74 : fM amXX amGG am_V am_W6 am_n74 am_m74 am_h74 am_g74 = true := by decide +kernel
theorem am_f75 : fM amXX amGG am_V am_W6 am_n75 am_m75 am_h75 am_g75 = true := by decide +kernel
theorem am_f76 : fM amXX amGG am_V am_W6 am_n76 am_m76 am_h76 am_g76 = true := by decide +kernel
theorem am_f77 : fM amXX amGG am_V am_W6 am_n77 am_m77 am_h77 am_g77 = true := by decide +kernel
theorem am_f78 : fM amXX amGG am_V am_W6 am_n78 am_m78 am_h78 am_g78 = true := by decide +kernel
theorem am_f79 : fM amXX amGG am_V am_W6 am_n79 am_m79 am_h79 am_g79 = true := by decide +kernel
theorem am_f80 : fM amXX amGG am_V am_W6 am_n80 am_m80 am_h80 am_g80 = true := by decide +kernel
theorem am_f81 : fM amXX amGG am_V am_W6 am_n81 am_m81 am_h81 am_g81 = true := by decide +kernel
theorem am_f82 : fM amXX amGG am_V am_W6 am_n82 am_m82 am_h82 am_g82 = true := by decide +kernel
theorem am_f83 : fM amXX amGG am_V am_W6 am_n83 am_m83 am_h83 am_g83 = true := by decide +kernel
theorem am_f84 : fM amXX amGG am_V am_W6 am_n84 am_m84 am_h84 am_g84 = true := by decide +kernel
theorem am_f85 : fM amXX amGG am_V am_W6 am_n85 am_m85 am_h85 am_g85 = true := by decide +kernel
theorem am_f86 : fM amXX amGG am_V am_W6 am_n86 am_m86 am_h86 am_g86 = true := by decide +kernel
theorem am_f87 : fM amXX amGG am_V am_W6 am_n87 am_m87 am_h87 am_g87 = true := by decide +kernel
theorem am_f88 : fM amXX amGG am_V am_W7 am_n88 am_m88 am_h88 am_g88 = true := by decide +kernel
theorem am_f89 : fM amXX amGG am_V am_W7 am_n89 am_m89 am_h89 am_g89 = true := by decide +kernel
theorem am_f90 : fM amXX amGG am_V am_W7 am_n90 am_m90 am_h90 am_g90 = true := by decide +kernel
theorem am_f91 : fM amXX amGG am_V am_W8 am_n91 am_m91 am_h91 am_g91 = true := by decide +kernel
theorem am_f92 : fM amXX amGG am_V am_W8 am_n92 am_m92 am_h92 am_g92 = true := by decide +kernel
theorem am_f93 : fM amXX amGG am_V am_W8 am_n93 am_m93 am_h93 am_g93 = true := by decide +kernel
theorem am_f94 : fM amXX amGG am_V am_W9 am_n94 am_m94 am_h94 am_g94 = true := by decide +kernel
theorem am_f95 : fM amXX amGG am_V am_W9 am_n95 am_m95 am_h95 am_g95 = true := by decide +kernel
theorem am_t0 : ∀ t ∈ [(am_n0, am_m0), (am_n1, am_m1), (am_n2, am_m2), (am_n3, am_m3), (am_n4, am_m4), (am_n5, am_m5), (am_n6, am_m6), (am_n7, am_m7), (am_n8, am_m8), (am_n9, am_m9), (am_n10, am_m10), (am_n11, am_m11), (am_n12, am_m12), (am_n13, am_m13), (am_n14, am_m14), (am_n15, am_m15), (am_n16, am_m16), (am_n17, am_m17), (am_n18, am_m18), (am_n19, am_m19), (am_n20, am_m20), (am_n21, am_m21), (am_n22, am_m22), (am_n23, am_m23), (am_n24, am_m24), (am_n25, am_m25), (am_n26, am_m26), (am_n27, am_m27), (am_n28, am_m28), (am_n29, am_m29), (am_n30, am_m30), (am_n31, am_m31), (am_n32, am_m32), (am_n33, am_m33), (am_n34, am_m34), (am_n35, am_m35), (am_n36, am_m36), (am_n37, am_m37), (am_n38, am_m38), (am_n39, am_m39), (am_n40, am_m40), (am_n41, am_m41), (am_n42, am_m42), (am_n43, am_m43), (am_n44, am_m44), (am_n45, am_m45), (am_n46, am_m46), (am_n47, am_m47)], amMk amGG amXX t.1 t.2 := by
  intro t ht
  simp only [List.mem_cons, List.not_mem_nil, or_false] at ht
  rcases ht with rfl | rfl | rfl | rfl | rfl | rfl | rfl | rfl | rfl | rfl | rfl | rfl | rfl | rfl | rfl | rfl | rfl | rfl | rfl | rfl | rfl | rfl | rfl | rfl | rfl | rfl | rfl | rfl | rfl | rfl | rfl | rfl | rfl | rfl | rfl | rfl | rfl | rfl | rfl | rfl | rfl | rfl | rfl | rfl | rfl | rfl | rfl | rfl
  · exact fM_s am_zz am_rq (o := 0) rfl am_v am_w0 am_f0
  · exact fM_s am_zz am_rq (o := 0) rfl am_v am_w0 am_f1
  · exact fM_s am_zz am_rq (o := 0) rfl am_v am_w0 am_f2
  · exact fM_s am_zz am_rq (o := 0) rfl am_v am_w0 am_f3
  · exact fM_s am_zz am_rq (o := 0) rfl am_v am_w0 am_f4
  · exact fM_s am_zz am_rq (o := 0) rfl am_v am_w0 am_f5
  · exact fM_s am_zz am_rq (o := 0) rfl am_v am_w0 am_f6
  · exact fM_s am_zz am_rq (o := 0) rfl am_v am_w0 am_f7
  · exact fM_s am_zz am_rq (o := 0) rfl am_v am_w0 am_f8
  · exact fM_s am_zz am_rq (o := 0) rfl am_v am_w0 am_f9
  · exact fM_s am_zz am_rq (o := 0) rfl am_v am_w0 am_f10
  · exact fM_s am_zz am_rq (o := 0) rfl am_v am_w0 am_f11
  · exact fM_s am_zz am_rq (o := 0) rfl am_v am_w0 am_f12
  · exact fM_s am_zz am_rq (o := 0) rfl am_v am_w0 am_f13
  · exact fM_s am_zz am_rq (o := 0) rfl am_v am_w0 am_f14
  · exact fM_s am_zz am_rq (o := 0) rfl am_v am_w0 am_f15
  · exact fM_s am_zz am_rq (o := 0) rfl am_v am_w0 am_f16
  · exact fM_s am_zz am_rq (o := 0) rfl am_v am_w0 am_f17
  · exact fM_s am_zz am_rq (o := 0) rfl am_v am_w0 am_f18
  · exact fM_s am_zz am_rq (o := 0) rfl am_v am_w0 am_f19
  · exact fM_s am_zz am_rq (o := 0) rfl am_v am_w0 am_f20
  · exact fM_s am_zz am_rq (o := 0) rfl am_v am_w0 am_f21
  · exact fM_s am_zz am_rq (o := 0) rfl am_v am_w0 am_f22
  · exact fM_s am_zz am_rq (o := 0) rfl am_v am_w0 am_f23
  · exact fM_s am_zz am_rq (o := 0) rfl am_v am_w0 am_f24
  · exact fM_s am_zz am_rq (o := 0) rfl am_v am_w0 am_f25
  · exact fM_s am_zz am_rq (o := 0) rfl am_v am_w0 am_f26
  · exact fM_s am_zz am_rq (o := 0) rfl am_v am_w0 am_f27
  · exact fM_s am_zz am_rq (o := 0) rfl am_v am_w0 am_f28
  · exact fM_s am_zz am_rq (o := 0) rfl am_v am_w0 am_f29
  · exact fM_s am_zz am_rq (o := 0) rfl am_v am_w0 am_f30
  · exact fM_s am_zz am_rq (o := 0) rfl am_v am_w0 am_f31
  · exact fM_s am_zz am_rq (o := 0) rfl am_v am_w0 am_f32
  · exact fM_s am_zz am_rq (o := 0) rfl am_v am_w0 am_f33
  · exact fM_s am_zz am_rq (o := 0) rfl am_v am_w0 am_f34
  · exact fM_s am_zz am_rq (o := 1) rfl am_v am_w1 am_f35
  · exact fM_s am_zz am_rq (o := 1) rfl am_v am_w1 am_f36
  · exact fM_s am_zz am_rq (o := 1) rfl am_v am_w1 am_f37
  · exact fM_s am_zz am_rq (o := 1) rfl am_v am_w1 am_f38
  · exact fM_s am_zz am_rq (o := 1) rfl am_v am_w1 am_f39
  · exact fM_s am_zz am_rq (o := 1) rfl am_v am_w1 am_f40
  · exact fM_s am_zz am_rq (o := 1) rfl am_v am_w1 am_f41
  · exact fM_s am_zz am_rq (o := 1) rfl am_v am_w1 am_f42
  · exact fM_s am_zz am_rq (o := 1) rfl am_v am_w1 am_f43
  · exact fM_s am_zz am_rq (o := 1) rfl am_v am_w1 am_f44
  · exact fM_s am_zz am_rq (o := 2) rfl am_v am_w2 am_f45
  · exact fM_s am_zz am_rq (o := 2) rfl am_v am_w2 am_f46
  · exact fM_s am_zz am_rq (o := 2) rfl am_v am_w2 am_f47
theorem am_t1 : ∀ t ∈ [(am_n48, am_m48), (am_n49, am_m49), (am_n50, am_m50), (am_n51, am_m51), (am_n52, am_m52), (am_n53, am_m53), (am_n54, am_m54), (am_n55, am_m55), (am_n56, am_m56), (am_n57, am_m57), (am_n58, am_m58), (am_n59, am_m59), (am_n60, am_m60), (am_n61, am_m61), (am_n62, am_m62), (am_n63, am_m63), (am_n64, am_m64), (am_n65, am_m65), (am_n66, am_m66), (am_n67, am_m67), (am_n68, am_m68), (am_n69, am_m69), (am_n70, am_m70), (am_n71, am_m71), (am_n72, am_m72), (am_n73, am_m73), (am_n74, am_m74), (am_n75, am_m75), (am_n76, am_m76), (am_n77, am_m77), (am_n78, am_m78), (am_n79, am_m79), (am_n80, am_m80), (am_n81, am_m81), (am_n82, am_m82), (am_n83, am_m83), (am_n84, am_m84), (am_n85, am_m85), (am_n86, am_m86), (am_n87, am_m87), (am_n88, am_m88), (am_n89, am_m89), (am_n90, am_m90), (am_n91, am_m91), (am_n92, am_m92), (am_n93, am_m93), (am_n94, am_m94), (am_n95, am_m95)], amMk amGG amXX t.1 t.2 := by
  intro t ht
  simp only [List.mem_cons, List.not_mem_nil, or_false] at ht
  rcases ht with rfl | rfl | rfl | rfl | rfl | rfl | rfl | rfl | rfl | rfl | rfl | rfl | rfl | rfl | rfl | rfl | rfl | rfl | rfl | rfl | rfl | rfl | rfl | rfl | rfl | rfl | rfl | rfl | rfl | rfl | rfl | rfl | rfl | rfl | rfl | rfl | rfl | rfl | rfl | rfl | rfl | rfl | rfl | rfl | rfl | rfl | rfl | rfl
  · exact fM_s am_zz am_rq (o := 2) rfl am_v am_w2 am_f48
  · exact fM_s am_zz am_rq (o := 3) rfl am_v am_w3 am_f49
  · exact fM_s am_zz am_rq (o := 3) rfl am_v am_w3 am_f50
  · exact fM_s am_zz am_rq (o := 3) rfl am_v am_w3 am_f51
  · exact fM_s am_zz am_rq (o := 3) rfl am_v am_w3 am_f52
  · exact fM_s am_zz am_rq (o := 3) rfl am_v am_w3 am_f53
  · exact fM_s am_zz am_rq (o := 3) rfl am_v am_w3 am_f54
  · exact fM_s am_zz am_rq (o := 3) rfl am_v am_w3 am_f55
  · exact fM_s am_zz am_rq (o := 4) rfl am_v am_w4 am_f56
  · exact fM_s am_zz am_rq (o := 4) rfl am_v am_w4 am_f57
  · exact fM_s am_zz am_rq (o := 4) rfl am_v am_w4 am_f58
  · exact fM_s am_zz am_rq (o := 4) rfl am_v am_w4 am_f59
  · exact fM_s am_zz am_rq (o := 4) rfl am_v am_w4 am_f60
  · exact fM_s am_zz am_rq (o := 4) rfl am_v am_w4 am_f61
  · exact fM_s am_zz am_rq (o := 4) rfl am_v am_w4 am_f62
  · exact fM_s am_zz am_rq (o := 4) rfl am_v am_w4 am_f63
  · exact fM_s am_zz am_rq (o := 4) rfl am_v am_w4 am_f64
  · exact fM_s am_zz am_rq (o := 4) rfl am_v am_w4 am_f65
  · exact fM_s am_zz am_rq (o := 4) rfl am_v am_w4 am_f66
  · exact fM_s am_zz am_rq (o := 4) rfl am_v am_w4 am_f67
  · exact fM_s am_zz am_rq (o := 5) rfl am_v am_w5 am_f68
  · exact fM_s am_zz am_rq (o := 5) rfl am_v am_w5 am_f69
  · exact fM_s am_zz am_rq (o := 5) rfl am_v am_w5 am_f70
  · exact fM_s am_zz am_rq (o := 5) rfl am_v am_w5 am_f71
  · exact fM_s am_zz am_rq (o := 5) rfl am_v am_w5 am_f72
  · exact fM_s am_zz am_rq (o := 5) rfl am_v am_w5 am_f73
  · exact fM_s am_zz am_rq (o := 6) rfl am_v am_w6 am_f74
  · exact fM_s am_zz am_rq (o := 6) rfl am_v am_w6 am_f75
  · exact fM_s am_zz am_rq (o := 6) rfl am_v am_w6 am_f76
  · exact fM_s am_zz am_rq (o := 6) rfl am_v am_w6 am_f77
  · exact fM_s am_zz am_rq (o := 6) rfl am_v am_w6 am_f78
  · exact fM_s am_zz am_rq (o := 6) rfl am_v am_w6 am_f79
  · exact fM_s am_zz am_rq (o := 6) rfl am_v am_w6 am_f80
  · exact fM_s am_zz am_rq (o := 6) rfl am_v am_w6 am_f81
  · exact fM_s am_zz am_rq (o := 6) rfl am_v am_w6 am_f82
  · exact fM_s am_zz am_rq (o := 6) rfl am_v am_w6 am_f83
  · exact fM_s am_zz am_rq (o := 6) rfl am_v am_w6 am_f84
  · exact fM_s am_zz am_rq (o := 6) rfl am_v am_w6 am_f85
  · exact fM_s am_zz am_rq (o := 6) rfl am_v am_w6 am_f86
  · exact fM_s am_zz am_rq (o := 6) rfl am_v am_w6 am_f87
  · exact fM_s am_zz am_rq (o := 7) rfl am_v am_w7 am_f88
  · exact fM_s am_zz am_rq (o := 7) rfl am_v am_w7 am_f89
  · exact fM_s am_zz am_rq (o := 7) rfl am_v am_w7 am_f90
  · exact fM_s am_zz am_rq (o := 8) rfl am_v am_w8 am_f91
  · exact fM_s am_zz am_rq (o := 8) rfl am_v am_w8 am_f92
  · exact fM_s am_zz am_rq (o := 8) rfl am_v am_w8 am_f93
  · exact fM_s am_zz am_rq (o := 9) rfl am_v am_w9 am_f94
  · exact fM_s am_zz am_rq (o := 9) rfl am_v am_w9 am_f95
end
/-! ##### 11.b.check ##### -/
section
/-! ===== the tables checked, 1 ===== -/
theorem am_f96 : fM amXX amGG am_V am_W9 am_n96 am_m96 am_h96 am_g96 = true := by decide +kernel
theorem am_f97 : fM amXX amGG am_V am_W9 am_n97 am_m97 am_h97 am_g97 = true := by decide +kernel
theorem am_f98 : fM amXX amGG am_V am_W9 am_n98 am_m98 am_h98 am_g98 = true := by decide +kernel
theorem am_f99 : fM amXX amGG am_V am_W10 am_n99 am_m99 am_h99 am_g99 = true := by decide +kernel
theorem am_f100 : fM amXX amGG am_V am_W10 am_n100 am_m100 am_h100 am_g100 = true := by decide +kernel
theorem am_f101 : fM amXX amGG am_V am_W10 am_n101 am_m101 am_h101 am_g101 = true := by decide +kernel
theorem am_f102 : fM amXX amGG am_V am_W10 am_n102 am_m102 am_h102 am_g102 = true := by decide +kernel
theorem am_f103 : fM amXX amGG am_V am_W10 am_n103 am_m103 am_h103 am_g103 = true := by decide +kernel
theorem am_f104 : fM amXX amGG am_V am_W10 am_n104 am_m104 am_h104 am_g104 = true := by decide +kernel
theorem am_f105 : fM amXX amGG am_V am_W10 am_n105 am_m105 am_h105 am_g105 = true := by decide +kernel
theorem am_f106 : fM amXX amGG am_V am_W10 am_n106 am_m106 am_h106 am_g106 = true := by decide +kernel
theorem am_f107 : fM amXX amGG am_V am_W10 am_n107 am_m107 am_h107 am_g107 = true := by decide +kernel
theorem am_f108 : fM amXX amGG am_V am_W10 am_n108 am_m108 am_h108 am_g108 = true := by decide +kernel
theorem am_f109 : fM amXX amGG am_V am_W10 am_n109 am_m109 am_h109 am_g109 = true := by decide +kernel
theorem am_f110 : fM amXX amGG am_V am_W10 am_n110 am_m110 am_h110 am_g110 = true := by decide +kernel
theorem am_f111 : fM amXX amGG am_V am_W10 am_n111 am_m111 am_h111 am_g111 = true := by decide +kernel
theorem am_f112 : fM amXX amGG am_V am_W11 am_n112 am_m112 am_h112 am_g112 = true := by decide +kernel
theorem am_f113 : fM amXX amGG am_V am_W11 am_n113 am_m113 am_h113 am_g113 = true := by decide +kernel
theorem am_f114 : fM amXX amGG am_V am_W11 am_n114 am_m114 am_h114 am_g114 = true := by decide +kernel
theorem am_f115 : fM amXX amGG am_V am_W11 am_n115 am_m115 am_h115 am_g115 = true := by decide +kernel
theorem am_f116 : fM amXX amGG am_V am_W11 am_n116 am_m116 am_h116 am_g116 = true := by decide +kernel
theorem am_f117 : fM amXX amGG am_V am_W11 am_n117 am_m117 am_h117 am_g117 = true := by decide +kernel
theorem am_f118 : fM amXX amGG am_V am_W11 am_n118 am_m118 am_h118 am_g118 = true := by decide +kernel
theorem am_f119 : fM amXX amGG am_V am_W11 am_n119 am_m119 am_h119 am_g119 = true := by decide +kernel
theorem am_f120 : fM amXX amGG am_V am_W11 am_n120 am_m120 am_h120 am_g120 = true := by decide +kernel
theorem am_f121 : fM amXX amGG am_V am_W11 am_n121 am_m121 am_h121 am_g121 = true := by decide +kernel
theorem am_f122 : fM amXX amGG am_V am_W11 am_n122 am_m122 am_h122 am_g122 = true := by decide +kernel
theorem am_f123 : fM amXX amGG am_V am_W11 am_n123 am_m123 am_h123 am_g123 = true := by decide +kernel
theorem am_f124 : fM amXX amGG am_V am_W11 am_n124 am_m124 am_h124 am_g124 = true := by decide +kernel
theorem am_f125 : fM amXX amGG am_V am_W11 am_n125 am_m125 am_h125 am_g125 = true := by decide +kernel
theorem am_f126 : fM amXX amGG am_V am_W11 am_n126 am_m126 am_h126 am_g126 = true := by decide +kernel
theorem am_f127 : fM amXX amGG am_V am_W11 am_n127 am_m127 am_h127 am_g127 = true := by decide +kernel
theorem am_f128 : fM amXX amGG am_V am_W11 am_n128 am_m128 am_h128 am_g128 = true := by decide +kernel
theorem am_f129 : fM amXX amGG am_V am_W11 am_n129 am_m129 am_h129 am_g129 = true := by decide +kernel
theorem am_f130 : fM amXX amGG am_V am_W11 am_n130 am_m130 am_h130 am_g130 = true := by decide +kernel
theorem am_f131 : fM amXX amGG am_V am_W11 am_n131 am_m131 am_h131 am_g131 = true := by decide +kernel
theorem am_f132 : fM amXX amGG am_V am_W11 am_n132 am_m132 am_h132 am_g132 = true := by decide +kernel
theorem am_f133 : fM amXX amGG am_V am_W11 am_n133 am_m133 am_h133 am_g133 = true := by decide +kernel
theorem am_f134 : fM amXX amGG am_V am_W11 am_n134 am_m134 am_h134 am_g134 = true := by decide +kernel
theorem am_f135 : fM amXX amGG am_V am_W11 am_n135 am_m135 am_h135 am_g135 = true := by decide +kernel
theorem am_f136 : fM amXX amGG am_V am_W11 am_n136 am_m136 am_h136 am_g136 = true := by decide +kernel
theorem am_f137 : fM amXX amGG am_V am_W11 am_n137 am_m137 am_h137 am_g137 = true := by decide +kernel
theorem am_f138 : fM amXX amGG am_V am_W11 am_n138 am_m138 am_h138 am_g138 = true := by decide +kernel
theorem am_f139 : fM amXX amGG am_V am_W11 am_n139 am_m139 am_h139 am_g139 = true := by decide +kernel
theorem am_f140 : fM amXX amGG am_V am_W11 am_n140 am_m140 am_h140 am_g140 = true := by decide +kernel
theorem am_f141 : fM amXX amGG am_V am_W11 am_n141 am_m141 am_h141 am_g141 = true := by decide +kernel
theorem am_f142 : fM amXX amGG am_V am_W11 am_n142 am_m142 am_h142 am_g142 = true := by decide +kernel
theorem am_f143 : fM amXX amGG am_V am_W11 am_n143 am_m143 am_h143 am_g143 = true := by decide +kernel
theorem am_f144 : fM amXX amGG am_V am_W11 am_n144 am_m144 am_h144 am_g144 = true := by decide +kernel
theorem am_f145 : fM amXX amGG am_V am_W11 am_n145 am_m145 am_h145 am_g145 = true := by decide +kernel
theorem am_f146 : fM amXX amGG am_V am_W11 am_n146 am_m146 am_h146 am_g146 = true := by decide +kernel
theorem am_f147 : fM amXX amGG am_V am_W11 am_n147 am_m147 am_h147 am_g147 = true := by decide +kernel
theorem am_f148 : fM amXX amGG am_V am_W11 am_n148 am_m148 am_h148 am_g148 = true := by decide +kernel
theorem am_f149 : fM amXX amGG am_V am_W11 am_n149 am_m149 am_h149 am_g149 = true := by decide +kernel
theorem am_f150 : fM amXX amGG am_V am_W11 am_n150 am_m150 am_h150 am_g150 = true := by decide +kernel
theorem am_f151 : fM amXX amGG am_V am_W11 am_n151 am_m151 am_h151 am_g151 = true := by decide +kernel
theorem am_f152 : fM amXX amGG am_V am_W11 am_n152 am_m152 am_h152 am_g152 = true := by decide +kernel
theorem am_f153 : fM amXX amGG am_V am_W11 am_n153 am_m153 am_h153 am_g153 = true := by decide +kernel
theorem am_f154 : fM amXX amGG am_V am_W11 am_n154 am_m154 am_h154 am_g154 = true := by decide +kernel
theorem am_f155 : fM amXX amGG am_V am_W11 am_n155 am_m155 am_h155 am_g155 = true := by decide +kernel
theorem am_f156 : fM amXX amGG am_V am_W11 am_n156 am_m156 am_h156 am_g156 = true := by decide +kernel
theorem am_f157 : fM amXX amGG am_V am_W11 am_n157 am_m157 am_h157 am_g157 = true := by decide +kernel
theorem am_f158 : fM amXX amGG am_V am_W11 am_n158 am_m158 am_h158 am_g158 = true := by decide +kernel
theorem am_f159 : fM amXX amGG am_V am_W11 am_n159 am_m159 am_h159 am_g159 = true := by decide +kernel
theorem am_f160 : fM amXX amGG am_V am_W11 am_n160 am_m160 am_h160 am_g160 = true := by decide +kernel
theorem am_f161 : fM amXX amGG am_V am_W11 am_n161 am_m161 am_h161 am_g161 = true := by decide +kernel
theorem am_f162 : fM amXX amGG am_V am_W11 am_n162 am_m162 am_h162 am_g162 = true := by decide +kernel
theorem am_f163 : fM amXX amGG am_V am_W11 am_n163 am_m163 am_h163 am_g163 = true := by decide +kernel
theorem am_f164 : fM amXX amGG am_V am_W11 am_n164 am_m164 am_h164 am_g164 = true := by decide +kernel
theorem am_f165 : fM amXX amGG am_V am_W11 am_n165 am_m165 am_h165 am_g165 = true := by decide +kernel
theorem am_f166 : fM amXX amGG am_V am_W11 am_n166 am_m166 am_h166 am_g166 = true := by decide +kernel
theorem am_f167 : fM amXX amGG am_V am_W11 am_n167 am_m167 am_h167 am_g167 = true := by decide +kernel
theorem am_f168 : fM amXX amGG am_V am_W11 am_n168 am_m168 am_h168 am_g168 = true := by decide +kernel
theorem am_f169 : fM amXX amGG am_V am_W11 am_n169 am_m169 am_h169 am_g169 = true := by decide +kernel
theorem am_f170 : fM amXX amGG am_V am_W11 am_n170 am_m170 am_h170 am_g170 = true := by decide +kernel
theorem am_f171 : fM amXX amGG am_V am_W11 am_n171 am_m171 am_h171 am_g171 = true := by decide +kernel
theorem am_f172 : fM amXX amGG am_V am_W11 am_n172 am_m172 am_h172 am_g172 = true := by decide +kernel
theorem am_f173 : fM amXX amGG am_V am_W11 am_n173 am_m173 am_h173 am_g173 = true := by decide +kernel
theorem am_f174 : fM amXX amGG am_V am_W11 am_n174 am_m174 am_h174 am_g174 = true := by decide +kernel
theorem am_f175 : fM amXX amGG am_V am_W11 am_n175 am_m175 am_h175 am_g175 = true := by decide +kernel
theorem am_f176 : fM amXX amGG am_V am_W11 am_n176 am_m176 am_h176 am_g176 = true := by decide +kernel
theorem am_f177 : fM amXX amGG am_V am_W11 am_n177 am_m177 am_h177 am_g177 = true := by decide +kernel
theorem am_f178 : fM amXX amGG am_V am_W11 am_n178 am_m178 am_h178 am_g178 = true := by decide +kernel
theorem am_f179 : fM amXX amGG am_V am_W11 am_n179 am_m179 am_h179 am_g179 = true := by decide +kernel
theorem am_f180 : fM amXX amGG am_V am_W11 am_n180 am_m180 am_h180 am_g180 = true := by decide +kernel
theorem am_f181 : fM amXX amGG am_V am_W11 am_n181 am_m181 am_h181 am_g181 = true := by decide +kernel
theorem am_f182 : fM amXX amGG am_V am_W11 am_n182 am_m182 am_h182 am_g182 = true := by decide +kernel
theorem am_f183 : fM amXX amGG am_V am_W11 am_n183 am_m183 am_h183 am_g183 = true := by decide +kernel
theorem am_f184 : fM amXX amGG am_V am_W11 am_n184 am_m184 am_h184 am_g184 = true := by decide +kernel
theorem am_f185 : fM amXX amGG am_V am_W11 am_n185 am_m185 am_h185 am_g185 = true := by decide +kernel
theorem am_f186 : fM amXX amGG am_V am_W11 am_n186 am_m186 am_h186 am_g186 = true := by decide +kernel
theorem am_f187 : fM amXX amGG am_V am_W11 am_n187 am_m187 am_h187 am_g187 = true := by decide +kernel
theorem am_f188 : fM amXX amGG am_V am_W11 am_n188 am_m188 am_h188 am_g188 = true := by decide +kernel
theorem am_f189 : fM amXX amGG am_V am_W11 am_n189 am_m189 am_h189 am_g189 = true := by decide +kernel
theorem am_f190 : fM amXX amGG am_V am_W11 am_n190 am_m190 am_h190 am_g190 = true := by decide +kernel
theorem am_f191 : fM amXX amGG am_V am_W11 am_n191 am_m191 am_h191 am_g191 = true := by decide +kernel
theorem am_t2 : ∀ t ∈ [(am_n96, am_m96), (am_n97, am_m97), (am_n98, am_m98), (am_n99, am_m99), (am_n100, am_m100), (am_n101, am_m101), (am_n102, am_m102), (am_n103, am_m103), (am_n104, am_m104), (am_n105, am_m105), (am_n106, am_m106), (am_n107, am_m107), (am_n108, am_m108), (am_n109, am_m109), (am_n110, am_m110), (am_n111, am_m111), (am_n112, am_m112), (am_n113, am_m113), (am_n114, am_m114), (am_n115, am_m115), (am_n116, am_m116), (am_n117, am_m117), (am_n118, am_m118), (am_n119, am_m119), (am_n120, am_m120), (am_n121, am_m121), (am_n122, am_m122), (am_n123, am_m123), (am_n124, am_m124), (am_n125, am_m125), (am_n126, am_m126), (am_n127, am_m127), (am_n128, am_m128), (am_n129, am_m129), (am_n130, am_m130), (am_n131, am_m131), (am_n132, am_m132), (am_n133, am_m133), (am_n134, am_m134), (am_n135, am_m135), (am_n136, am_m136), (am_n137, am_m137), (am_n138, am_m138), (am_n139, am_m139), (am_n140, am_m140), (am_n141, am_m141), (am_n142, am_m142), (am_n143, am_m143)], amMk amGG amXX t.1 t.2 := by
  intro t ht
  simp only [List.mem_cons, List.not_mem_nil, or_false] at ht
  rcases ht with rfl | rfl | rfl | rfl | rfl | rfl | rfl | rfl | rfl | rfl | rfl | rfl | rfl | rfl | rfl | rfl | rfl | rfl | rfl | rfl | rfl | rfl | rfl | rfl | rfl | rfl | rfl | rfl | rfl | rfl | rfl | rfl | rfl | rfl | rfl | rfl | rfl | rfl | rfl | rfl | rfl | rfl | rfl | rfl | rfl | rfl | rfl | rfl
  · exact fM_s am_zz am_rq (o := 9) rfl am_v am_w9 am_f96
  · exact fM_s am_zz am_rq (o := 9) rfl am_v am_w9 am_f97
  · exact fM_s am_zz am_rq (o := 9) rfl am_v am_w9 am_f98
  · exact fM_s am_zz am_rq (o := 10) rfl am_v am_w10 am_f99
  · exact fM_s am_zz am_rq (o := 10) rfl am_v am_w10 am_f100
  · exact fM_s am_zz am_rq (o := 10) rfl am_v am_w10 am_f101
  · exact fM_s am_zz am_rq (o := 10) rfl am_v am_w10 am_f102
  · exact fM_s am_zz am_rq (o := 10) rfl am_v am_w10 am_f103
  · exact fM_s am_zz am_rq (o := 10) rfl am_v am_w10 am_f104
  · exact fM_s am_zz am_rq (o := 10) rfl am_v am_w10 am_f105
  · exact fM_s am_zz am_rq (o := 10) rfl am_v am_w10 am_f106
  · exact fM_s am_zz am_rq (o := 10) rfl am_v am_w10 am_f107
  · exact fM_s am_zz am_rq (o := 10) rfl am_v am_w10 am_f108
  · exact fM_s am_zz am_rq (o := 10) rfl am_v am_w10 am_f109
  · exact fM_s am_zz am_rq (o := 10) rfl am_v am_w10 am_f110
  · exact fM_s am_zz am_rq (o := 10) rfl am_v am_w10 am_f111
  · exact fM_s am_zz am_rq (o := 11) rfl am_v am_w11 am_f112
  · exact fM_s am_zz am_rq (o := 11) rfl am_v am_w11 am_f113
  · exact fM_s am_zz am_rq (o := 11) rfl am_v am_w11 am_f114
  · exact fM_s am_zz am_rq (o := 11) rfl am_v am_w11 am_f115
  · exact fM_s am_zz am_rq (o := 11) rfl am_v am_w11 am_f116
  · exact fM_s am_zz am_rq (o := 11) rfl am_v am_w11 am_f117
  · exact fM_s am_zz am_rq (o := 11) rfl am_v am_w11 am_f118
  · exact fM_s am_zz am_rq (o := 11) rfl am_v am_w11 am_f119
  · exact fM_s am_zz am_rq (o := 11) rfl am_v am_w11 am_f120
  · exact fM_s am_zz am_rq (o := 11) rfl am_v am_w11 am_f121
  · exact fM_s am_zz am_rq (o := 11) rfl am_v am_w11 am_f122
  · exact fM_s am_zz am_rq (o := 11) rfl am_v am_w11 am_f123
  · exact fM_s am_zz am_rq (o := 11) rfl am_v am_w11 am_f124
  · exact fM_s am_zz am_rq (o := 11) rfl am_v am_w11 am_f125
  · exact fM_s am_zz am_rq (o := 11) rfl am_v am_w11 am_f126
  · exact fM_s am_zz am_rq (o := 11) rfl am_v am_w11 am_f127
  · exact fM_s am_zz am_rq (o := 11) rfl am_v am_w11 am_f128
  · exact fM_s am_zz am_rq (o := 11) rfl am_v am_w11 am_f129
  · exact fM_s am_zz am_rq (o := 11) rfl am_v am_w11 am_f130
  · exact fM_s am_zz am_rq (o := 11) rfl am_v am_w11 am_f131
  · exact fM_s am_zz am_rq (o := 11) rfl am_v am_w11 am_f132
  · exact fM_s am_zz am_rq (o := 11) rfl am_v am_w11 am_f133
  · exact fM_s am_zz am_rq (o := 11) rfl am_v am_w11 am_f134
  · exact fM_s am_zz am_rq (o := 11) rfl am_v am_w11 am_f135
  · exact fM_s am_zz am_rq (o := 11) rfl am_v am_w11 am_f136
  · exact fM_s am_zz am_rq (o := 11) rfl am_v am_w11 am_f137
  · exact fM_s am_zz am_rq (o := 11) rfl am_v am_w11 am_f138
  · exact fM_s am_zz am_rq (o := 11) rfl am_v am_w11 am_f139
  · exact fM_s am_zz am_rq (o := 11) rfl am_v am_w11 am_f140
  · exact fM_s am_zz am_rq (o := 11) rfl am_v am_w11 am_f141
  · exact fM_s am_zz am_rq (o := 11) rfl am_v am_w11 am_f142
  · exact fM_s am_zz am_rq (o := 11) rfl am_v am_w11 am_f143
theorem am_t3 : ∀ t ∈ [(am_n144, am_m144), (am_n145, am_m145), (am_n146, am_m146), (am_n147, am_m147), (am_n148, am_m148), (am_n149, am_m149), (am_n150, am_m150), (am_n151, am_m151), (am_n152, am_m152), (am_n153, am_m153), (am_n154, am_m154), (am_n155, am_m155), (am_n156, am_m156), (am_n157, am_m157), (am_n158, am_m158), (am_n159, am_m159), (am_n160, am_m160), (am_n161, am_m161), (am_n162, am_m162), (am_n163, am_m163), (am_n164, am_m164), (am_n165, am_m165), (am_n166, am_m166), (am_n167, am_m167), (am_n168, am_m168), (am_n169, am_m169), (am_n170, am_m170), (am_n171, am_m171), (am_n172, am_m172), (am_n173, am_m173), (am_n174, am_m174), (am_n175, am_m175), (am_n176, am_m176), (am_n177, am_m177), (am_n178, am_m178), (am_n179, am_m179), (am_n180, am_m180), (am_n181, am_m181), (am_n182, am_m182), (am_n183, am_m183), (am_n184, am_m184), (am_n185, am_m185), (am_n186, am_m186), (am_n187, am_m187), (am_n188, am_m188), (am_n189, am_m189), (am_n190, am_m190), (am_n191, am_m191)], amMk amGG amXX t.1 t.2 := by
  intro t ht
  simp only [List.mem_cons, List.not_mem_nil, or_false] at ht
  rcases ht with rfl | rfl | rfl | rfl | rfl | rfl | rfl | rfl | rfl | rfl | rfl | rfl | rfl | rfl | rfl | rfl | rfl | rfl | rfl | rfl | rfl | rfl | rfl | rfl | rfl | rfl | rfl | rfl | rfl | rfl | rfl | rfl | rfl | rfl | rfl | rfl | rfl | rfl | rfl | rfl | rfl | rfl | rfl | rfl | rfl | rfl | rfl | rfl
  · exact fM_s am_zz am_rq (o := 11) rfl am_v am_w11 am_f144
  · exact fM_s am_zz am_rq (o := 11) rfl am_v am_w11 am_f145
  · exact fM_s am_zz am_rq (o := 11) rfl am_v am_w11 am_f146
  · exact fM_s am_zz am_rq (o := 11) rfl am_v am_w11 am_f147
  · exact fM_s am_zz am_rq (o := 11) rfl am_v am_w11 am_f148
  · exact fM_s am_zz am_rq (o := 11) rfl am_v am_w11 am_f149
  · exact fM_s am_zz am_rq (o := 11) rfl am_v am_w11 am_f150
  · exact fM_s am_zz am_rq (o := 11) rfl am_v am_w11 am_f151
  · exact fM_s am_zz am_rq (o := 11) rfl am_v am_w11 am_f152
  · exact fM_s am_zz am_rq (o := 11) rfl am_v am_w11 am_f153
  · exact fM_s am_zz am_rq (o := 11) rfl am_v am_w11 am_f154
  · exact fM_s am_zz am_rq (o := 11) rfl am_v am_w11 am_f155
  · exact fM_s am_zz am_rq (o := 11) rfl am_v am_w11 am_f156
  · exact fM_s am_zz am_rq (o := 11) rfl am_v am_w11 am_f157
  · exact fM_s am_zz am_rq (o := 11) rfl am_v am_w11 am_f158
  · exact fM_s am_zz am_rq (o := 11) rfl am_v am_w11 am_f159
  · exact fM_s am_zz am_rq (o := 11) rfl am_v am_w11 am_f160
  · exact fM_s am_zz am_rq (o := 11) rfl am_v am_w11 am_f161
  · exact fM_s am_zz am_rq (o := 11) rfl am_v am_w11 am_f162
  · exact fM_s am_zz am_rq (o := 11) rfl am_v am_w11 am_f163
  · exact fM_s am_zz am_rq (o := 11) rfl am_v am_w11 am_f164
  · exact fM_s am_zz am_rq (o := 11) rfl am_v am_w11 am_f165
  · exact fM_s am_zz am_rq (o := 11) rfl am_v am_w11 am_f166
  · exact fM_s am_zz am_rq (o := 11) rfl am_v am_w11 am_f167
  · exact fM_s am_zz am_rq (o := 11) rfl am_v am_w11 am_f168
  · exact fM_s am_zz am_rq (o := 11) rfl am_v am_w11 am_f169
  · exact fM_s am_zz am_rq (o := 11) rfl am_v am_w11 am_f170
  · exact fM_s am_zz am_rq (o := 11) rfl am_v am_w11 am_f171
  · exact fM_s am_zz am_rq (o := 11) rfl am_v am_w11 am_f172
  · exact fM_s am_zz am_rq (o := 11) rfl am_v am_w11 am_f173
  · exact fM_s am_zz am_rq (o := 11) rfl am_v am_w11 am_f174
  · exact fM_s am_zz am_rq (o := 11) rfl am_v am_w11 am_f175
  · exact fM_s am_zz am_rq (o := 11) rfl am_v am_w11 am_f176
  · exact fM_s am_zz am_rq (o := 11) rfl am_v am_w11 am_f177
  · exact fM_s am_zz am_rq (o := 11) rfl am_v am_w11 am_f178
  · exact fM_s am_zz am_rq (o := 11) rfl am_v am_w11 am_f179
  · exact fM_s am_zz am_rq (o := 11) rfl am_v am_w11 am_f180
  · exact fM_s am_zz am_rq (o := 11) rfl am_v am_w11 am_f181
  · exact fM_s am_zz am_rq (o := 11) rfl am_v am_w11 am_f182
  · exact fM_s am_zz am_rq (o := 11) rfl am_v am_w11 am_f183
  · exact fM_s am_zz am_rq (o := 11) rfl am_v am_w11 am_f184
  · exact fM_s am_zz am_rq (o := 11) rfl am_v am_w11 am_f185
  · exact fM_s am_zz am_rq (o := 11) rfl am_v am_w11 am_f186
  · exact fM_s am_zz am_rq (o := 11) rfl am_v am_w11 am_f187
  · exact fM_s am_zz am_rq (o := 11) rfl am_v am_w11 am_f188
  · exact fM_s am_zz am_rq (o := 11) rfl am_v am_w11 am_f189
  · exact fM_s am_zz am_rq (o := 11) rfl am_v am_w11 am_f190
  · exact fM_s am_zz am_rq (o := 11) rfl am_v am_w11 am_f191
end
/-! ##### 11.c.check ##### -/
section
/-! ===== the tables checked, 2 ===== -/
theorem am_f192 : fM amXX amGG am_V am_W11 am_n192 am_m192 am_h192 am_g192 = true := by decide +kernel
theorem am_f193 : fM amXX amGG am_V am_W11 am_n193 am_m193 am_h193 am_g193 = true := by decide +kernel
theorem am_f194 : fM amXX amGG am_V am_W12 am_n194 am_m194 am_h194 am_g194 = true := by decide +kernel
theorem am_f195 : fM amXX amGG am_V am_W12 am_n195 am_m195 am_h195 am_g195 = true := by decide +kernel
theorem am_f196 : fM amXX amGG am_V am_W12 am_n196 am_m196 am_h196 am_g196 = true := by decide +kernel
theorem am_f197 : fM amXX amGG am_V am_W12 am_n197 am_m197 am_h197 am_g197 = true := by decide +kernel
theorem am_f198 : fM amXX amGG am_V am_W12 am_n198 am_m198 am_h198 am_g198 = true := by decide +kernel
theorem am_f199 : fM amXX amGG am_V am_W12 am_n199 am_m199 am_h199 am_g199 = true := by decide +kernel
theorem am_f200 : fM amXX amGG am_V am_W12 am_n200 am_m200 am_h200 am_g200 = true := by decide +kernel
theorem am_f201 : fM amXX amGG am_V am_W12 am_n201 am_m201 am_h201 am_g201 = true := by decide +kernel
theorem am_f202 : fM amXX amGG am_V am_W12 am_n202 am_m202 am_h202 am_g202 = true := by decide +kernel
theorem am_f203 : fM amXX amGG am_V am_W12 am_n203 am_m203 am_h203 am_g203 = true := by decide +kernel
theorem am_f204 : fM amXX amGG am_V am_W12 am_n204 am_m204 am_h204 am_g204 = true := by decide +kernel
theorem am_f205 : fM amXX amGG am_V am_W12 am_n205 am_m205 am_h205 am_g205 = true := by decide +kernel
theorem am_f206 : fM amXX amGG am_V am_W12 am_n206 am_m206 am_h206 am_g206 = true := by decide +kernel
theorem am_f207 : fM amXX amGG am_V am_W12 am_n207 am_m207 am_h207 am_g207 = true := by decide +kernel
theorem am_f208 : fM amXX amGG am_V am_W12 am_n208 am_m208 am_h208 am_g208 = true := by decide +kernel
theorem am_f209 : fM amXX amGG am_V am_W12 am_n209 am_m209 am_h209 am_g209 = true := by decide +kernel
theorem am_f210 : fM amXX amGG am_V am_W12 am_n210 am_m210 am_h210 am_g210 = true := by decide +kernel
theorem am_f211 : fM amXX amGG am_V am_W12 am_n211 am_m211 am_h211 am_g211 = true := by decide +kernel
theorem am_f212 : fM amXX amGG am_V am_W12 am_n212 am_m212 am_h212 am_g212 = true := by decide +kernel
theorem am_f213 : fM amXX amGG am_V am_W12 am_n213 am_m213 am_h213 am_g213 = true := by decide +kernel
theorem am_f214 : fM amXX amGG am_V am_W12 am_n214 am_m214 am_h214 am_g214 = true := by decide +kernel
theorem am_f215 : fM amXX amGG am_V am_W12 am_n215 am_m215 am_h215 am_g215 = true := by decide +kernel
theorem am_f216 : fM amXX amGG am_V am_W12 am_n216 am_m216 am_h216 am_g216 = true := by decide +kernel
theorem am_f217 : fM amXX amGG am_V am_W12 am_n217 am_m217 am_h217 am_g217 = true := by decide +kernel
theorem am_f218 : fM amXX amGG am_V am_W12 am_n218 am_m218 am_h218 am_g218 = true := by decide +kernel
theorem am_f219 : fM amXX amGG am_V am_W12 am_n219 am_m219 am_h219 am_g219 = true := by decide +kernel
theorem am_f220 : fM amXX amGG am_V am_W12 am_n220 am_m220 am_h220 am_g220 = true := by decide +kernel
theorem am_f221 : fM amXX amGG am_V am_W12 am_n221 am_m221 am_h221 am_g221 = true := by decide +kernel
theorem am_f222 : fM amXX amGG am_V am_W12 am_n222 am_m222 am_h222 am_g222 = true := by decide +kernel
theorem am_f223 : fM amXX amGG am_V am_W12 am_n223 am_m223 am_h223 am_g223 = true := by decide +kernel
theorem am_f224 : fM amXX amGG am_V am_W12 am_n224 am_m224 am_h224 am_g224 = true := by decide +kernel
theorem am_f225 : fM amXX amGG am_V am_W12 am_n225 am_m225 am_h225 am_g225 = true := by decide +kernel
theorem am_f226 : fM amXX amGG am_V am_W12 am_n226 am_m226 am_h226 am_g226 = true := by decide +kernel
theorem am_f227 : fM amXX amGG am_V am_W12 am_n227 am_m227 am_h227 am_g227 = true := by decide +kernel
theorem am_f228 : fM amXX amGG am_V am_W12 am_n228 am_m228 am_h228 am_g228 = true := by decide +kernel
theorem am_f229 : fM amXX amGG am_V am_W12 am_n229 am_m229 am_h229 am_g229 = true := by decide +kernel
theorem am_f230 : fM amXX amGG am_V am_W12 am_n230 am_m230 am_h230 am_g230 = true := by decide +kernel
theorem am_f231 : fM amXX amGG am_V am_W12 am_n231 am_m231 am_h231 am_g231 = true := by decide +kernel
theorem am_f232 : fM amXX amGG am_V am_W12 am_n232 am_m232 am_h232 am_g232 = true := by decide +kernel
theorem am_f233 : fM amXX amGG am_V am_W12 am_n233 am_m233 am_h233 am_g233 = true := by decide +kernel
theorem am_f234 : fM amXX amGG am_V am_W12 am_n234 am_m234 am_h234 am_g234 = true := by decide +kernel
theorem am_f235 : fM amXX amGG am_V am_W12 am_n235 am_m235 am_h235 am_g235 = true := by decide +kernel
theorem am_f236 : fM amXX amGG am_V am_W12 am_n236 am_m236 am_h236 am_g236 = true := by decide +kernel
theorem am_f237 : fM amXX amGG am_V am_W12 am_n237 am_m237 am_h237 am_g237 = true := by decide +kernel
theorem am_f238 : fM amXX amGG am_V am_W12 am_n238 am_m238 am_h238 am_g238 = true := by decide +kernel
theorem am_f239 : fM amXX amGG am_V am_W12 am_n239 am_m239 am_h239 am_g239 = true := by decide +kernel
theorem am_f240 : fM amXX amGG am_V am_W12 am_n240 am_m240 am_h240 am_g240 = true := by decide +kernel
theorem am_f241 : fM amXX amGG am_V am_W12 am_n241 am_m241 am_h241 am_g241 = true := by decide +kernel
theorem am_f242 : fM amXX amGG am_V am_W12 am_n242 am_m242 am_h242 am_g242 = true := by decide +kernel
theorem am_f243 : fM amXX amGG am_V am_W12 am_n243 am_m243 am_h243 am_g243 = true := by decide +kernel
theorem am_f244 : fM amXX amGG am_V am_W12 am_n244 am_m244 am_h244 am_g244 = true := by decide +kernel
theorem am_f245 : fM amXX amGG am_V am_W12 am_n245 am_m245 am_h245 am_g245 = true := by decide +kernel
theorem am_f246 : fM amXX amGG am_V am_W12 am_n246 am_m246 am_h246 am_g246 = true := by decide +kernel
theorem am_f247 : fM amXX amGG am_V am_W12 am_n247 am_m247 am_h247 am_g247 = true := by decide +kernel
theorem am_f248 : fM amXX amGG am_V am_W12 am_n248 am_m248 am_h248 am_g248 = true := by decide +kernel
theorem am_f249 : fM amXX amGG am_V am_W12 am_n249 am_m249 am_h249 am_g249 = true := by decide +kernel
theorem am_f250 : fM amXX amGG am_V am_W12 am_n250 am_m250 am_h250 am_g250 = true := by decide +kernel
theorem am_f251 : fM amXX amGG am_V am_W12 am_n251 am_m251 am_h251 am_g251 = true := by decide +kernel
theorem am_f252 : fM amXX amGG am_V am_W12 am_n252 am_m252 am_h252 am_g252 = true := by decide +kernel
theorem am_f253 : fM amXX amGG am_V am_W12 am_n253 am_m253 am_h253 am_g253 = true := by decide +kernel
theorem am_f254 : fM amXX amGG am_V am_W12 am_n254 am_m254 am_h254 am_g254 = true := by decide +kernel
theorem am_f255 : fM amXX amGG am_V am_W12 am_n255 am_m255 am_h255 am_g255 = true := by decide +kernel
theorem am_f256 : fM amXX amGG am_V am_W12 am_n256 am_m256 am_h256 am_g256 = true := by decide +kernel
theorem am_f257 : fM amXX amGG am_V am_W12 am_n257 am_m257 am_h257 am_g257 = true := by decide +kernel
theorem am_f258 : fM amXX amGG am_V am_W12 am_n258 am_m258 am_h258 am_g258 = true := by decide +kernel
theorem am_f259 : fM amXX amGG am_V am_W12 am_n259 am_m259 am_h259 am_g259 = true := by decide +kernel
theorem am_f260 : fM amXX amGG am_V am_W12 am_n260 am_m260 am_h260 am_g260 = true := by decide +kernel
theorem am_f261 : fM amXX amGG am_V am_W12 am_n261 am_m261 am_h261 am_g261 = true := by decide +kernel
theorem am_f262 : fM amXX amGG am_V am_W12 am_n262 am_m262 am_h262 am_g262 = true := by decide +kernel
theorem am_f263 : fM amXX amGG am_V am_W12 am_n263 am_m263 am_h263 am_g263 = true := by decide +kernel
theorem am_f264 : fM amXX amGG am_V am_W12 am_n264 am_m264 am_h264 am_g264 = true := by decide +kernel
theorem am_f265 : fM amXX amGG am_V am_W12 am_n265 am_m265 am_h265 am_g265 = true := by decide +kernel
theorem am_f266 : fM amXX amGG am_V am_W12 am_n266 am_m266 am_h266 am_g266 = true := by decide +kernel
theorem am_f267 : fM amXX amGG am_V am_W12 am_n267 am_m267 am_h267 am_g267 = true := by decide +kernel
theorem am_f268 : fM amXX amGG am_V am_W12 am_n268 am_m268 am_h268 am_g268 = true := by decide +kernel
theorem am_f269 : fM amXX amGG am_V am_W12 am_n269 am_m269 am_h269 am_g269 = true := by decide +kernel
theorem am_f270 : fM amXX amGG am_V am_W12 am_n270 am_m270 am_h270 am_g270 = true := by decide +kernel
theorem am_f271 : fM amXX amGG am_V am_W12 am_n271 am_m271 am_h271 am_g271 = true := by decide +kernel
theorem am_f272 : fM amXX amGG am_V am_W12 am_n272 am_m272 am_h272 am_g272 = true := by decide +kernel
theorem am_f273 : fM amXX amGG am_V am_W12 am_n273 am_m273 am_h273 am_g273 = true := by decide +kernel
theorem am_f274 : fM amXX amGG am_V am_W12 am_n274 am_m274 am_h274 am_g274 = true := by decide +kernel
theorem am_f275 : fM amXX amGG am_V am_W12 am_n275 am_m275 am_h275 am_g275 = true := by decide +kernel
theorem am_f276 : fM amXX amGG am_V am_W12 am_n276 am_m276 am_h276 am_g276 = true := by decide +kernel
theorem am_f277 : fM amXX amGG am_V am_W12 am_n277 am_m277 am_h277 am_g277 = true := by decide +kernel
theorem am_f278 : fM amXX amGG am_V am_W12 am_n278 am_m278 am_h278 am_g278 = true := by decide +kernel
theorem am_f279 : fM amXX amGG am_V am_W12 am_n279 am_m279 am_h279 am_g279 = true := by decide +kernel
theorem am_f280 : fM amXX amGG am_V am_W12 am_n280 am_m280 am_h280 am_g280 = true := by decide +kernel
theorem am_f281 : fM amXX amGG am_V am_W12 am_n281 am_m281 am_h281 am_g281 = true := by decide +kernel
theorem am_f282 : fM amXX amGG am_V am_W12 am_n282 am_m282 am_h282 am_g282 = true := by decide +kernel
theorem am_f283 : fM amXX amGG am_V am_W12 am_n283 am_m283 am_h283 am_g283 = true := by decide +kernel
theorem am_f284 : fM amXX amGG am_V am_W12 am_n284 am_m284 am_h284 am_g284 = true := by decide +kernel
theorem am_f285 : fM amXX amGG am_V am_W12 am_n285 am_m285 am_h285 am_g285 = true := by decide +kernel
theorem am_f286 : fM amXX amGG am_V am_W12 am_n286 am_m286 am_h286 am_g286 = true := by decide +kernel
theorem am_f287 : fM amXX amGG am_V am_W12 am_n287 am_m287 am_h287 am_g287 = true := by decide +kernel
theorem am_t4 : ∀ t ∈ [(am_n192, am_m192), (am_n193, am_m193), (am_n194, am_m194), (am_n195, am_m195), (am_n196, am_m196), (am_n197, am_m197), (am_n198, am_m198), (am_n199, am_m199), (am_n200, am_m200), (am_n201, am_m201), (am_n202, am_m202), (am_n203, am_m203), (am_n204, am_m204), (am_n205, am_m205), (am_n206, am_m206), (am_n207, am_m207), (am_n208, am_m208), (am_n209, am_m209), (am_n210, am_m210), (am_n211, am_m211), (am_n212, am_m212), (am_n213, am_m213), (am_n214, am_m214), (am_n215, am_m215), (am_n216, am_m216), (am_n217, am_m217), (am_n218, am_m218), (am_n219, am_m219), (am_n220, am_m220), (am_n221, am_m221), (am_n222, am_m222), (am_n223, am_m223), (am_n224, am_m224), (am_n225, am_m225), (am_n226, am_m226), (am_n227, am_m227), (am_n228, am_m228), (am_n229, am_m229), (am_n230, am_m230), (am_n231, am_m231), (am_n232, am_m232), (am_n233, am_m233), (am_n234, am_m234), (am_n235, am_m235), (am_n236, am_m236), (am_n237, am_m237), (am_n238, am_m238), (am_n239, am_m239)], amMk amGG amXX t.1 t.2 := by
  intro t ht
  simp only [List.mem_cons, List.not_mem_nil, or_false] at ht
  rcases ht with rfl | rfl | rfl | rfl | rfl | rfl | rfl | rfl | rfl | rfl | rfl | rfl | rfl | rfl | rfl | rfl | rfl | rfl | rfl | rfl | rfl | rfl | rfl | rfl | rfl | rfl | rfl | rfl | rfl | rfl | rfl | rfl | rfl | rfl | rfl | rfl | rfl | rfl | rfl | rfl | rfl | rfl | rfl | rfl | rfl | rfl | rfl | rfl
  · exact fM_s am_zz am_rq (o := 11) rfl am_v am_w11 am_f192
  · exact fM_s am_zz am_rq (o := 11) rfl am_v am_w11 am_f193
  · exact fM_s am_zz am_rq (o := 12) rfl am_v am_w12 am_f194
  · exact fM_s am_zz am_rq (o := 12) rfl am_v am_w12 am_f195
  · exact fM_s am_zz am_rq (o := 12) rfl am_v am_w12 am_f196
  · exact fM_s am_zz am_rq (o := 12) rfl am_v am_w12 am_f197
  · exact fM_s am_zz am_rq (o := 12) rfl am_v am_w12 am_f198
  · exact fM_s am_zz am_rq (o := 12) rfl am_v am_w12 am_f199
  · exact fM_s am_zz am_rq (o := 12) rfl am_v am_w12 am_f200
  · exact fM_s am_zz am_rq (o := 12) rfl am_v am_w12 am_f201
  · exact fM_s am_zz am_rq (o := 12) rfl am_v am_w12 am_f202
  · exact fM_s am_zz am_rq (o := 12) rfl am_v am_w12 am_f203
  · exact fM_s am_zz am_rq (o := 12) rfl am_v am_w12 am_f204
  · exact fM_s am_zz am_rq (o := 12) rfl am_v am_w12 am_f205
  · exact fM_s am_zz am_rq (o := 12) rfl am_v am_w12 am_f206
  · exact fM_s am_zz am_rq (o := 12) rfl am_v am_w12 am_f207
  · exact fM_s am_zz am_rq (o := 12) rfl am_v am_w12 am_f208
  · exact fM_s am_zz am_rq (o := 12) rfl am_v am_w12 am_f209
  · exact fM_s am_zz am_rq (o := 12) rfl am_v am_w12 am_f210
  · exact fM_s am_zz am_rq (o := 12) rfl am_v am_w12 am_f211
  · exact fM_s am_zz am_rq (o := 12) rfl am_v am_w12 am_f212
  · exact fM_s am_zz am_rq (o := 12) rfl am_v am_w12 am_f213
  · exact fM_s am_zz am_rq (o := 12) rfl am_v am_w12 am_f214
  · exact fM_s am_zz am_rq (o := 12) rfl am_v am_w12 am_f215
  · exact fM_s am_zz am_rq (o := 12) rfl am_v am_w12 am_f216
  · exact fM_s am_zz am_rq (o := 12) rfl am_v am_w12 am_f217
  · exact fM_s am_zz am_rq (o := 12) rfl am_v am_w12 am_f218
  · exact fM_s am_zz am_rq (o := 12) rfl am_v am_w12 am_f219
  · exact fM_s am_zz am_rq (o := 12) rfl am_v am_w12 am_f220
  · exact fM_s am_zz am_rq (o := 12) rfl am_v am_w12 am_f221
  · exact fM_s am_zz am_rq (o := 12) rfl am_v am_w12 am_f222
  · exact fM_s am_zz am_rq (o := 12) rfl am_v am_w12 am_f223
  · exact fM_s am_zz am_rq (o := 12) rfl am_v am_w12 am_f224
  · exact fM_s am_zz am_rq (o := 12) rfl am_v am_w12 am_f225
  · exact fM_s am_zz am_rq (o := 12) rfl am_v am_w12 am_f226
  · exact fM_s am_zz am_rq (o := 12) rfl am_v am_w12 am_f227
  · exact fM_s am_zz am_rq (o := 12) rfl am_v am_w12 am_f228
  · exact fM_s am_zz am_rq (o := 12) rfl am_v am_w12 am_f229
  · exact fM_s am_zz am_rq (o := 12) rfl am_v am_w12 am_f230
  · exact fM_s am_zz am_rq (o := 12) rfl am_v am_w12 am_f231
  · exact fM_s am_zz am_rq (o := 12) rfl am_v am_w12 am_f232
  · exact fM_s am_zz am_rq (o := 12) rfl am_v am_w12 am_f233
  · exact fM_s am_zz am_rq (o := 12) rfl am_v am_w12 am_f234
  · exact fM_s am_zz am_rq (o := 12) rfl am_v am_w12 am_f235
  · exact fM_s am_zz am_rq (o := 12) rfl am_v am_w12 am_f236
  · exact fM_s am_zz am_rq (o := 12) rfl am_v am_w12 am_f237
  · exact fM_s am_zz am_rq (o := 12) rfl am_v am_w12 am_f238
  · exact fM_s am_zz am_rq (o := 12) rfl am_v am_w12 am_f239
theorem am_t5 : ∀ t ∈ [(am_n240, am_m240), (am_n241, am_m241), (am_n242, am_m242), (am_n243, am_m243), (am_n244, am_m244), (am_n245, am_m245), (am_n246, am_m246), (am_n247, am_m247), (am_n248, am_m248), (am_n249, am_m249), (am_n250, am_m250), (am_n251, am_m251), (am_n252, am_m252), (am_n253, am_m253), (am_n254, am_m254), (am_n255, am_m255), (am_n256, am_m256), (am_n257, am_m257), (am_n258, am_m258), (am_n259, am_m259), (am_n260, am_m260), (am_n261, am_m261), (am_n262, am_m262), (am_n263, am_m263), (am_n264, am_m264), (am_n265, am_m265), (am_n266, am_m266), (am_n267, am_m267), (am_n268, am_m268), (am_n269, am_m269), (am_n270, am_m270), (am_n271, am_m271), (am_n272, am_m272), (am_n273, am_m273), (am_n274, am_m274), (am_n275, am_m275), (am_n276, am_m276), (am_n277, am_m277), (am_n278, am_m278), (am_n279, am_m279), (am_n280, am_m280), (am_n281, am_m281), (am_n282, am_m282), (am_n283, am_m283), (am_n284, am_m284), (am_n285, am_m285), (am_n286, am_m286), (am_n287, am_m287)], amMk amGG amXX t.1 t.2 := by
  intro t ht
  simp only [List.mem_cons, List.not_mem_nil, or_false] at ht
  rcases ht with rfl | rfl | rfl | rfl | rfl | rfl | rfl | rfl | rfl | rfl | rfl | rfl | rfl | rfl | rfl | rfl | rfl | rfl | rfl | rfl | rfl | rfl | rfl | rfl | rfl | rfl | rfl | rfl | rfl | rfl | rfl | rfl | rfl | rfl | rfl | rfl | rfl | rfl | rfl | rfl | rfl | rfl | rfl | rfl | rfl | rfl | rfl | rfl
  · exact fM_s am_zz am_rq (o := 12) rfl am_v am_w12 am_f240
  · exact fM_s am_zz am_rq (o := 12) rfl am_v am_w12 am_f241
  · exact fM_s am_zz am_rq (o := 12) rfl am_v am_w12 am_f242
  · exact fM_s am_zz am_rq (o := 12) rfl am_v am_w12 am_f243
  · exact fM_s am_zz am_rq (o := 12) rfl am_v am_w12 am_f244
  · exact fM_s am_zz am_rq (o := 12) rfl am_v am_w12 am_f245
  · exact fM_s am_zz am_rq (o := 12) rfl am_v am_w12 am_f246
  · exact fM_s am_zz am_rq (o := 12) rfl am_v am_w12 am_f247
  · exact fM_s am_zz am_rq (o := 12) rfl am_v am_w12 am_f248
  · exact fM_s am_zz am_rq (o := 12) rfl am_v am_w12 am_f249
  · exact fM_s am_zz am_rq (o := 12) rfl am_v am_w12 am_f250
  · exact fM_s am_zz am_rq (o := 12) rfl am_v am_w12 am_f251
  · exact fM_s am_zz am_rq (o := 12) rfl am_v am_w12 am_f252
  · exact fM_s am_zz am_rq (o := 12) rfl am_v am_w12 am_f253
  · exact fM_s am_zz am_rq (o := 12) rfl am_v am_w12 am_f254
  · exact fM_s am_zz am_rq (o := 12) rfl am_v am_w12 am_f255
  · exact fM_s am_zz am_rq (o := 12) rfl am_v am_w12 am_f256
  · exact fM_s am_zz am_rq (o := 12) rfl am_v am_w12 am_f257
  · exact fM_s am_zz am_rq (o := 12) rfl am_v am_w12 am_f258
  · exact fM_s am_zz am_rq (o := 12) rfl am_v am_w12 am_f259
  · exact fM_s am_zz am_rq (o := 12) rfl am_v am_w12 am_f260
  · exact fM_s am_zz am_rq (o := 12) rfl am_v am_w12 am_f261
  · exact fM_s am_zz am_rq (o := 12) rfl am_v am_w12 am_f262
  · exact fM_s am_zz am_rq (o := 12) rfl am_v am_w12 am_f263
  · exact fM_s am_zz am_rq (o := 12) rfl am_v am_w12 am_f264
  · exact fM_s am_zz am_rq (o := 12) rfl am_v am_w12 am_f265
  · exact fM_s am_zz am_rq (o := 12) rfl am_v am_w12 am_f266
  · exact fM_s am_zz am_rq (o := 12) rfl am_v am_w12 am_f267
  · exact fM_s am_zz am_rq (o := 12) rfl am_v am_w12 am_f268
  · exact fM_s am_zz am_rq (o := 12) rfl am_v am_w12 am_f269
  · exact fM_s am_zz am_rq (o := 12) rfl am_v am_w12 am_f270
  · exact fM_s am_zz am_rq (o := 12) rfl am_v am_w12 am_f271
  · exact fM_s am_zz am_rq (o := 12) rfl am_v am_w12 am_f272
  · exact fM_s am_zz am_rq (o := 12) rfl am_v am_w12 am_f273
  · exact fM_s am_zz am_rq (o := 12) rfl am_v am_w12 am_f274
  · exact fM_s am_zz am_rq (o := 12) rfl am_v am_w12 am_f275
  · exact fM_s am_zz am_rq (o := 12) rfl am_v am_w12 am_f276
  · exact fM_s am_zz am_rq (o := 12) rfl am_v am_w12 am_f277
  · exact fM_s am_zz am_rq (o := 12) rfl am_v am_w12 am_f278
  · exact fM_s am_zz am_rq (o := 12) rfl am_v am_w12 am_f279
  · exact fM_s am_zz am_rq (o := 12) rfl am_v am_w12 am_f280
  · exact fM_s am_zz am_rq (o := 12) rfl am_v am_w12 am_f281
  · exact fM_s am_zz am_rq (o := 12) rfl am_v am_w12 am_f282
  · exact fM_s am_zz am_rq (o := 12) rfl am_v am_w12 am_f283
  · exact fM_s am_zz am_rq (o := 12) rfl am_v am_w12 am_f284
  · exact fM_s am_zz am_rq (o := 12) rfl am_v am_w12 am_f285
  · exact fM_s am_zz am_rq (o := 12) rfl am_v am_w12 am_f286
  · exact fM_s am_zz am_rq (o := 12) rfl am_v am_w12 am_f287
end
