/-! ===== the tables checked, 0 ===== -/
theorem am_c0 : amCode amGG amXX am_n0.1.cls am_n0.2.1 am_m0.2.2.2.1 am_m0.1 am_h0 = true := by decide +kernel
theorem am_k0 : amMkB am_n0 am_m0 am_g0 = true := by decide +kernel
theorem am_c1 : amCode amGG amXX am_n1.1.cls am_n1.2.1 am_m1.2.2.2.1 am_m1.1 am_h1 = true := by decide +kernel
theorem am_k1 : amMkB am_n1 am_m1 am_g1 = true := by decide +kernel
theorem am_c2 : amCode amGG amXX am_n2.1.cls am_n2.2.1 am_m2.2.2.2.1 am_m2.1 am_h2 = true := by decide +kernel
theorem am_k2 : amMkB am_n2 am_m2 am_g2 = true := by decide +kernel
theorem am_c3 : amCode amGG amXX am_n3.1.cls am_n3.2.1 am_m3.2.2.2.1 am_m3.1 am_h3 = true := by decide +kernel
theorem am_k3 : amMkB am_n3 am_m3 am_g3 = true := by decide +kernel
theorem am_c4 : amCode amGG amXX am_n4.1.cls am_n4.2.1 am_m4.2.2.2.1 am_m4.1 am_h4 = true := by decide +kernel
theorem am_k4 : amMkB am_n4 am_m4 am_g4 = true := by decide +kernel
theorem am_c5 : amCode amGG amXX am_n5.1.cls am_n5.2.1 am_m5.2.2.2.1 am_m5.1 am_h5 = true := by decide +kernel
theorem am_k5 : amMkB am_n5 am_m5 am_g5 = true := by decide +kernel
theorem am_c6 : amCode amGG amXX am_n6.1.cls am_n6.2.1 am_m6.2.2.2.1 am_m6.1 am_h6 = true := by decide +kernel
theorem am_k6 : amMkB am_n6 am_m6 am_g6 = true := by decide +kernel
theorem am_c7 : amCode amGG amXX am_n7.1.cls am_n7.2.1 am_m7.2.2.2.1 am_m7.1 am_h7 = true := by decide +kernel
theorem am_k7 : amMkB am_n7 am_m7 am_g7 = true := by decide +kernel
theorem am_c8 : amCode amGG amXX am_n8.1.cls am_n8.2.1 am_m8.2.2.2.1 am_m8.1 am_h8 = true := by decide +kernel
theorem am_k8 : amMkB am_n8 am_m8 am_g8 = true := by decide +kernel
theorem am_c9 : amCode amGG amXX am_n9.1.cls am_n9.2.1 am_m9.2.2.2.1 am_m9.1 am_h9 = true := by decide +kernel
theorem am_k9 : amMkB am_n9 am_m9 am_g9 = true := by decide +kernel
theorem am_c10 : amCode amGG amXX am_n10.1.cls am_n10.2.1 am_m10.2.2.2.1 am_m10.1 am_h10 = true := by decide +kernel
theorem am_k10 : amMkB am_n10 am_m10 am_g10 = true := by decide +kernel
theorem am_c11 : amCode amGG amXX am_n11.1.cls am_n11.2.1 am_m11.2.2.2.1 am_m11.1 am_h11 = true := by decide +kernel
theorem am_k11 : amMkB am_n11 am_m11 am_g11 = true := by decide +kernel
theorem am_c12 : amCode amGG amXX am_n12.1.cls am_n12.2.1 am_m12.2.2.2.1 am_m12.1 am_h12 = true := by decide +kernel
theorem am_k12 : amMkB am_n12 am_m12 am_g12 = true := by decide +kernel
theorem am_c13 : amCode amGG amXX am_n13.1.cls am_n13.2.1 am_m13.2.2.2.1 am_m13.1 am_h13 = true := by decide +kernel
theorem am_k13 : amMkB am_n13 am_m13 am_g13 = true := by decide +kernel
theorem am_c14 : amCode amGG amXX am_n14.1.cls am_n14.2.1 am_m14.2.2.2.1 am_m14.1 am_h14 = true := by decide +kernel
theorem am_k14 : amMkB am_n14 am_m14 am_g14 = true := by decide +kernel
theorem am_c15 : amCode amGG amXX am_n15.1.cls am_n15.2.1 am_m15.2.2.2.1 am_m15.1 am_h15 = true := by decide +kernel
theorem am_k15 : amMkB am_n15 am_m15 am_g15 = true := by decide +kernel
theorem am_c16 : amCode amGG amXX am_n16.1.cls am_n16.2.1 am_m16.2.2.2.1 am_m16.1 am_h16 = true := by decide +kernel
theorem am_k16 : amMkB am_n16 am_m16 am_g16 = true := by decide +kernel
theorem am_c17 : amCode amGG amXX am_n17.1.cls am_n17.2.1 am_m17.2.2.2.1 am_m17.1 am_h17 = true := by decide +kernel
theorem am_k17 : amMkB am_n17 am_m17 am_g17 = true := by decide +kernel
theorem am_c18 : amCode amGG amXX am_n18.1.cls am_n18.2.1 am_m18.2.2.2.1 am_m18.1 am_h18 = true := by decide +kernel
theorem am_k18 : amMkB am_n18 am_m18 am_g18 = true := by decide +kernel
theorem am_c19 : amCode amGG amXX am_n19.1.cls am_n19.2.1 am_m19.2.2.2.1 am_m19.1 am_h19 = true := by decide +kernel
theorem am_k19 : amMkB am_n19 am_m19 am_g19 = true := by decide +kernel
theorem am_c20 : amCode amGG amXX am_n20.1.cls am_n20.2.1 am_m20.2.2.2.1 am_m20.1 am_h20 = true := by decide +kernel
theorem am_k20 : amMkB am_n20 am_m20 am_g20 = true := by decide +kernel
theorem am_c21 : amCode amGG amXX am_n21.1.cls am_n21.2.1 am_m21.2.2.2.1 am_m21.1 am_h21 = true := by decide +kernel
theorem am_k21 : amMkB am_n21 am_m21 am_g21 = true := by decide +kernel
theorem am_c22 : amCode amGG amXX am_n22.1.cls am_n22.2.1 am_m22.2.2.2.1 am_m22.1 am_h22 = true := by decide +kernel
theorem am_k22 : amMkB am_n22 am_m22 am_g22 = true := by decide +kernel
theorem am_c23 : amCode amGG amXX am_n23.1.cls am_n23.2.1 am_m23.2.2.2.1 am_m23.1 am_h23 = true := by decide +kernel
theorem am_k23 : amMkB am_n23 am_m23 am_g23 = true := by decide +kernel
theorem am_c24 : amCode amGG amXX am_n24.1.cls am_n24.2.1 am_m24.2.2.2.1 am_m24.1 am_h24 = true := by decide +kernel
theorem am_k24 : amMkB am_n24 am_m24 am_g24 = true := by decide +kernel
theorem am_c25 : amCode amGG amXX am_n25.1.cls am_n25.2.1 am_m25.2.2.2.1 am_m25.1 am_h25 = true := by decide +kernel
theorem am_k25 : amMkB am_n25 am_m25 am_g25 = true := by decide +kernel
theorem am_c26 : amCode amGG amXX am_n26.1.cls am_n26.2.1 am_m26.2.2.2.1 am_m26.1 am_h26 = true := by decide +kernel
theorem am_k26 : amMkB am_n26 am_m26 am_g26 = true := by decide +kernel
theorem am_c27 : amCode amGG amXX am_n27.1.cls am_n27.2.1 am_m27.2.2.2.1 am_m27.1 am_h27 = true := by decide +kernel
theorem am_k27 : amMkB am_n27 am_m27 am_g27 = true := by decide +kernel
theorem am_c28 : amCode amGG amXX am_n28.1.cls am_n28.2.1 am_m28.2.2.2.1 am_m28.1 am_h28 = true := by decide +kernel
theorem am_k28 : amMkB am_n28 am_m28 am_g28 = true := by decide +kernel
theorem am_c29 : amCode amGG amXX am_n29.1.cls am_n29.2.1 am_m29.2.2.2.1 am_m29.1 am_h29 = true := by decide +kernel
theorem am_k29 : amMkB am_n29 am_m29 am_g29 = true := by decide +kernel
theorem am_c30 : amCode amGG amXX am_n30.1.cls am_n30.2.1 am_m30.2.2.2.1 am_m30.1 am_h30 = true := by decide +kernel
theorem am_k30 : amMkB am_n30 am_m30 am_g30 = true := by decide +kernel
theorem am_c31 : amCode amGG amXX am_n31.1.cls am_n31.2.1 am_m31.2.2.2.1 am_m31.1 am_h31 = true := by decide +kernel
theorem am_k31 : amMkB am_n31 am_m31 am_g31 = true := by decide +kernel
theorem am_c32 : amCode amGG amXX am_n32.1.cls am_n32.2.1 am_m32.2.2.2.1 am_m32.1 am_h32 = true := by decide +kernel
theorem am_k32 : amMkB am_n32 am_m32 am_g32 = true := by decide +kernel
theorem am_c33 : amCode amGG amXX am_n33.1.cls am_n33.2.1 am_m33.2.2.2.1 am_m33.1 am_h33 = true := by decide +kernel
theorem am_k33 : amMkB am_n33 am_m33 am_g33 = true := by decide +kernel
theorem am_c34 : amCode amGG amXX am_n34.1.cls am_n34.2.1 am_m34.2.2.2.1 am_m34.1 am_h34 = true := by decide +kernel
theorem am_k34 : amMkB am_n34 am_m34 am_g34 = true := by decide +kernel
theorem am_c35 : amCode amGG amXX am_n35.1.cls am_n35.2.1 am_m35.2.2.2.1 am_m35.1 am_h35 = true := by decide +kernel
theorem am_k35 : amMkB am_n35 am_m35 am_g35 = true := by decide +kernel
theorem am_c36 : amCode amGG amXX am_n36.1.cls am_n36.2.1 am_m36.2.2.2.1 am_m36.1 am_h36 = true := by decide +kernel
theorem am_k36 : amMkB am_n36 am_m36 am_g36 = true := by decide +kernel
theorem am_c37 : amCode amGG amXX am_n37.1.cls am_n37.2.1 am_m37.2.2.2.1 am_m37.1 am_h37 = true := by decide +kernel
theorem am_k37 : amMkB am_n37 am_m37 am_g37 = true := by decide +kernel
theorem am_c38 : amCode amGG amXX am_n38.1.cls am_n38.2.1 am_m38.2.2.2.1 am_m38.1 am_h38 = true := by decide +kernel
theorem am_k38 : amMkB am_n38 am_m38 am_g38 = true := by decide +kernel
theorem am_c39 : amCode amGG amXX am_n39.1.cls am_n39.2.1 am_m39.2.2.2.1 am_m39.1 am_h39 = true := by decide +kernel
theorem am_k39 : amMkB am_n39 am_m39 am_g39 = true := by decide +kernel
theorem am_c40 : amCode amGG amXX am_n40.1.cls am_n40.2.1 am_m40.2.2.2.1 am_m40.1 am_h40 = true := by decide +kernel
theorem am_k40 : amMkB am_n40 am_m40 am_g40 = true := by decide +kernel
theorem am_c41 : amCode amGG amXX am_n41.1.cls am_n41.2.1 am_m41.2.2.2.1 am_m41.1 am_h41 = true := by decide +kernel
theorem am_k41 : amMkB am_n41 am_m41 am_g41 = true := by decide +kernel
theorem am_c42 : amCode amGG amXX am_n42.1.cls am_n42.2.1 am_m42.2.2.2.1 am_m42.1 am_h42 = true := by decide +kernel
theorem am_k42 : amMkB am_n42 am_m42 am_g42 = true := by decide +kernel
theorem am_c43 : amCode amGG amXX am_n43.1.cls am_n43.2.1 am_m43.2.2.2.1 am_m43.1 am_h43 = true := by decide +kernel
theorem am_k43 : amMkB am_n43 am_m43 am_g43 = true := by decide +kernel
theorem am_c44 : amCode amGG amXX am_n44.1.cls am_n44.2.1 am_m44.2.2.2.1 am_m44.1 am_h44 = true := by decide +kernel
theorem am_k44 : amMkB am_n44 am_m44 am_g44 = true := by decide +kernel
theorem am_c45 : amCode amGG amXX am_n45.1.cls am_n45.2.1 am_m45.2.2.2.1 am_m45.1 am_h45 = true := by decide +kernel
theorem am_k45 : amMkB am_n45 am_m45 am_g45 = true := by decide +kernel
theorem am_c46 : amCode amGG amXX am_n46.1.cls am_n46.2.1 am_m46.2.2.2.1 am_m46.1 am_h46 = true := by decide +kernel
theorem am_k46 : amMkB am_n46 am_m46 am_g46 = true := by decide +kernel
theorem am_c47 : amCode amGG amXX am_n47.1.cls am_n47.2.1 am_m47.2.2.2.1 am_m47.1 am_h47 = true := by decide +kernel
theorem am_k47 : amMkB am_n47 am_m47 am_g47 = true := by decide +kernel
theorem am_t0 : ∀ t ∈ [(am_n0, am_m0), (am_n1, am_m1), (am_n2, am_m2), (am_n3, am_m3), (am_n4, am_m4), (am_n5, am_m5), (am_n6, am_m6), (am_n7, am_m7), (am_n8, am_m8), (am_n9, am_m9), (am_n10, am_m10), (am_n11, am_m11), (am_n12, am_m12), (am_n13, am_m13), (am_n14, am_m14), (am_n15, am_m15), (am_n16, am_m16), (am_n17, am_m17), (am_n18, am_m18), (am_n19, am_m19), (am_n20, am_m20), (am_n21, am_m21), (am_n22, am_m22), (am_n23, am_m23), (am_n24, am_m24), (am_n25, am_m25), (am_n26, am_m26), (am_n27, am_m27), (am_n28, am_m28), (am_n29, am_m29), (am_n30, am_m30), (am_n31, am_m31), (am_n32, am_m32), (am_n33, am_m33), (am_n34, am_m34), (am_n35, am_m35), (am_n36, am_m36), (am_n37, am_m37), (am_n38, am_m38), (am_n39, am_m39), (am_n40, am_m40), (am_n41, am_m41), (am_n42, am_m42), (am_n43, am_m43), (am_n44, am_m44), (am_n45, am_m45), (am_n46, am_m46), (am_n47, am_m47)], amMk amGG amXX t.1 t.2 := by
  intro t ht
  simp only [List.mem_cons, List.not_mem_nil, or_false] at ht
  rcases ht with rfl | rfl | rfl | rfl | rfl | rfl | rfl | rfl | rfl | rfl | rfl | rfl | rfl | rfl | rfl | rfl | rfl | rfl | rfl | rfl | rfl | rfl | rfl | rfl | rfl | rfl | rfl | rfl | rfl | rfl | rfl | rfl | rfl | rfl | rfl | rfl | rfl | rfl | rfl | rfl | rfl | rfl | rfl | rfl | rfl | rfl | rfl | rfl
  · exact amMkB_s am_k0 am_c0
  · exact amMkB_s am_k1 am_c1
  · exact amMkB_s am_k2 am_c2
  · exact amMkB_s am_k3 am_c3
  · exact amMkB_s am_k4 am_c4
  · exact amMkB_s am_k5 am_c5
  · exact amMkB_s am_k6 am_c6
  · exact amMkB_s am_k7 am_c7
  · exact amMkB_s am_k8 am_c8
  · exact amMkB_s am_k9 am_c9
  · exact amMkB_s am_k10 am_c10
  · exact amMkB_s am_k11 am_c11
  · exact amMkB_s am_k12 am_c12
  · exact amMkB_s am_k13 am_c13
  · exact amMkB_s am_k14 am_c14
  · exact amMkB_s am_k15 am_c15
  · exact amMkB_s am_k16 am_c16
  · exact amMkB_s am_k17 am_c17
  · exact amMkB_s am_k18 am_c18
  · exact amMkB_s am_k19 am_c19
  · exact amMkB_s am_k20 am_c20
  · exact amMkB_s am_k21 am_c21
  · exact amMkB_s am_k22 am_c22
  · exact amMkB_s am_k23 am_c23
  · exact amMkB_s am_k24 am_c24
  · exact amMkB_s am_k25 am_c25
  · exact amMkB_s am_k26 am_c26
  · exact amMkB_s am_k27 am_c27
  · exact amMkB_s am_k28 am_c28
  · exact amMkB_s am_k29 am_c29
  · exact amMkB_s am_k30 am_c30
  · exact amMkB_s am_k31 am_c31
  · exact amMkB_s am_k32 am_c32
  · exact amMkB_s am_k33 am_c33
  · exact amMkB_s am_k34 am_c34
  · exact amMkB_s am_k35 am_c35
  · exact amMkB_s am_k36 am_c36
  · exact amMkB_s am_k37 am_c37
  · exact amMkB_s am_k38 am_c38
  · exact amMkB_s am_k39 am_c39
  · exact amMkB_s am_k40 am_c40
  · exact amMkB_s am_k41 am_c41
  · exact amMkB_s am_k42 am_c42
  · exact amMkB_s am_k43 am_c43
  · exact amMkB_s am_k44 am_c44
  · exact amMkB_s am_k45 am_c45
  · exact amMkB_s am_k46 am_c46
  · exact amMkB_s am_k47 am_c47
