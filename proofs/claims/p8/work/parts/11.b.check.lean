/-! ===== the tables checked, 1 ===== -/
theorem am_c48 : amCode amGG amXX am_n48.1.cls am_n48.2.1 am_m48.2.2.2.1 am_m48.1 am_h48 = true := by decide +kernel
theorem am_k48 : amMkB am_n48 am_m48 am_g48 = true := by decide +kernel
theorem am_c49 : amCode amGG amXX am_n49.1.cls am_n49.2.1 am_m49.2.2.2.1 am_m49.1 am_h49 = true := by decide +kernel
theorem am_k49 : amMkB am_n49 am_m49 am_g49 = true := by decide +kernel
theorem am_c50 : amCode amGG amXX am_n50.1.cls am_n50.2.1 am_m50.2.2.2.1 am_m50.1 am_h50 = true := by decide +kernel
theorem am_k50 : amMkB am_n50 am_m50 am_g50 = true := by decide +kernel
theorem am_c51 : amCode amGG amXX am_n51.1.cls am_n51.2.1 am_m51.2.2.2.1 am_m51.1 am_h51 = true := by decide +kernel
theorem am_k51 : amMkB am_n51 am_m51 am_g51 = true := by decide +kernel
theorem am_c52 : amCode amGG amXX am_n52.1.cls am_n52.2.1 am_m52.2.2.2.1 am_m52.1 am_h52 = true := by decide +kernel
theorem am_k52 : amMkB am_n52 am_m52 am_g52 = true := by decide +kernel
theorem am_c53 : amCode amGG amXX am_n53.1.cls am_n53.2.1 am_m53.2.2.2.1 am_m53.1 am_h53 = true := by decide +kernel
theorem am_k53 : amMkB am_n53 am_m53 am_g53 = true := by decide +kernel
theorem am_c54 : amCode amGG amXX am_n54.1.cls am_n54.2.1 am_m54.2.2.2.1 am_m54.1 am_h54 = true := by decide +kernel
theorem am_k54 : amMkB am_n54 am_m54 am_g54 = true := by decide +kernel
theorem am_c55 : amCode amGG amXX am_n55.1.cls am_n55.2.1 am_m55.2.2.2.1 am_m55.1 am_h55 = true := by decide +kernel
theorem am_k55 : amMkB am_n55 am_m55 am_g55 = true := by decide +kernel
theorem am_c56 : amCode amGG amXX am_n56.1.cls am_n56.2.1 am_m56.2.2.2.1 am_m56.1 am_h56 = true := by decide +kernel
theorem am_k56 : amMkB am_n56 am_m56 am_g56 = true := by decide +kernel
theorem am_c57 : amCode amGG amXX am_n57.1.cls am_n57.2.1 am_m57.2.2.2.1 am_m57.1 am_h57 = true := by decide +kernel
theorem am_k57 : amMkB am_n57 am_m57 am_g57 = true := by decide +kernel
theorem am_c58 : amCode amGG amXX am_n58.1.cls am_n58.2.1 am_m58.2.2.2.1 am_m58.1 am_h58 = true := by decide +kernel
theorem am_k58 : amMkB am_n58 am_m58 am_g58 = true := by decide +kernel
theorem am_c59 : amCode amGG amXX am_n59.1.cls am_n59.2.1 am_m59.2.2.2.1 am_m59.1 am_h59 = true := by decide +kernel
theorem am_k59 : amMkB am_n59 am_m59 am_g59 = true := by decide +kernel
theorem am_c60 : amCode amGG amXX am_n60.1.cls am_n60.2.1 am_m60.2.2.2.1 am_m60.1 am_h60 = true := by decide +kernel
theorem am_k60 : amMkB am_n60 am_m60 am_g60 = true := by decide +kernel
theorem am_c61 : amCode amGG amXX am_n61.1.cls am_n61.2.1 am_m61.2.2.2.1 am_m61.1 am_h61 = true := by decide +kernel
theorem am_k61 : amMkB am_n61 am_m61 am_g61 = true := by decide +kernel
theorem am_c62 : amCode amGG amXX am_n62.1.cls am_n62.2.1 am_m62.2.2.2.1 am_m62.1 am_h62 = true := by decide +kernel
theorem am_k62 : amMkB am_n62 am_m62 am_g62 = true := by decide +kernel
theorem am_c63 : amCode amGG amXX am_n63.1.cls am_n63.2.1 am_m63.2.2.2.1 am_m63.1 am_h63 = true := by decide +kernel
theorem am_k63 : amMkB am_n63 am_m63 am_g63 = true := by decide +kernel
theorem am_c64 : amCode amGG amXX am_n64.1.cls am_n64.2.1 am_m64.2.2.2.1 am_m64.1 am_h64 = true := by decide +kernel
theorem am_k64 : amMkB am_n64 am_m64 am_g64 = true := by decide +kernel
theorem am_c65 : amCode amGG amXX am_n65.1.cls am_n65.2.1 am_m65.2.2.2.1 am_m65.1 am_h65 = true := by decide +kernel
theorem am_k65 : amMkB am_n65 am_m65 am_g65 = true := by decide +kernel
theorem am_c66 : amCode amGG amXX am_n66.1.cls am_n66.2.1 am_m66.2.2.2.1 am_m66.1 am_h66 = true := by decide +kernel
theorem am_k66 : amMkB am_n66 am_m66 am_g66 = true := by decide +kernel
theorem am_c67 : amCode amGG amXX am_n67.1.cls am_n67.2.1 am_m67.2.2.2.1 am_m67.1 am_h67 = true := by decide +kernel
theorem am_k67 : amMkB am_n67 am_m67 am_g67 = true := by decide +kernel
theorem am_c68 : amCode amGG amXX am_n68.1.cls am_n68.2.1 am_m68.2.2.2.1 am_m68.1 am_h68 = true := by decide +kernel
theorem am_k68 : amMkB am_n68 am_m68 am_g68 = true := by decide +kernel
theorem am_c69 : amCode amGG amXX am_n69.1.cls am_n69.2.1 am_m69.2.2.2.1 am_m69.1 am_h69 = true := by decide +kernel
theorem am_k69 : amMkB am_n69 am_m69 am_g69 = true := by decide +kernel
theorem am_c70 : amCode amGG amXX am_n70.1.cls am_n70.2.1 am_m70.2.2.2.1 am_m70.1 am_h70 = true := by decide +kernel
theorem am_k70 : amMkB am_n70 am_m70 am_g70 = true := by decide +kernel
theorem am_c71 : amCode amGG amXX am_n71.1.cls am_n71.2.1 am_m71.2.2.2.1 am_m71.1 am_h71 = true := by decide +kernel
theorem am_k71 : amMkB am_n71 am_m71 am_g71 = true := by decide +kernel
theorem am_c72 : amCode amGG amXX am_n72.1.cls am_n72.2.1 am_m72.2.2.2.1 am_m72.1 am_h72 = true := by decide +kernel
theorem am_k72 : amMkB am_n72 am_m72 am_g72 = true := by decide +kernel
theorem am_c73 : amCode amGG amXX am_n73.1.cls am_n73.2.1 am_m73.2.2.2.1 am_m73.1 am_h73 = true := by decide +kernel
theorem am_k73 : amMkB am_n73 am_m73 am_g73 = true := by decide +kernel
theorem am_c74 : amCode amGG amXX am_n74.1.cls am_n74.2.1 am_m74.2.2.2.1 am_m74.1 am_h74 = true := by decide +kernel
theorem am_k74 : amMkB am_n74 am_m74 am_g74 = true := by decide +kernel
theorem am_c75 : amCode amGG amXX am_n75.1.cls am_n75.2.1 am_m75.2.2.2.1 am_m75.1 am_h75 = true := by decide +kernel
theorem am_k75 : amMkB am_n75 am_m75 am_g75 = true := by decide +kernel
theorem am_c76 : amCode amGG amXX am_n76.1.cls am_n76.2.1 am_m76.2.2.2.1 am_m76.1 am_h76 = true := by decide +kernel
theorem am_k76 : amMkB am_n76 am_m76 am_g76 = true := by decide +kernel
theorem am_c77 : amCode amGG amXX am_n77.1.cls am_n77.2.1 am_m77.2.2.2.1 am_m77.1 am_h77 = true := by decide +kernel
theorem am_k77 : amMkB am_n77 am_m77 am_g77 = true := by decide +kernel
theorem am_c78 : amCode amGG amXX am_n78.1.cls am_n78.2.1 am_m78.2.2.2.1 am_m78.1 am_h78 = true := by decide +kernel
theorem am_k78 : amMkB am_n78 am_m78 am_g78 = true := by decide +kernel
theorem am_c79 : amCode amGG amXX am_n79.1.cls am_n79.2.1 am_m79.2.2.2.1 am_m79.1 am_h79 = true := by decide +kernel
theorem am_k79 : amMkB am_n79 am_m79 am_g79 = true := by decide +kernel
theorem am_c80 : amCode amGG amXX am_n80.1.cls am_n80.2.1 am_m80.2.2.2.1 am_m80.1 am_h80 = true := by decide +kernel
theorem am_k80 : amMkB am_n80 am_m80 am_g80 = true := by decide +kernel
theorem am_c81 : amCode amGG amXX am_n81.1.cls am_n81.2.1 am_m81.2.2.2.1 am_m81.1 am_h81 = true := by decide +kernel
theorem am_k81 : amMkB am_n81 am_m81 am_g81 = true := by decide +kernel
theorem am_c82 : amCode amGG amXX am_n82.1.cls am_n82.2.1 am_m82.2.2.2.1 am_m82.1 am_h82 = true := by decide +kernel
theorem am_k82 : amMkB am_n82 am_m82 am_g82 = true := by decide +kernel
theorem am_c83 : amCode amGG amXX am_n83.1.cls am_n83.2.1 am_m83.2.2.2.1 am_m83.1 am_h83 = true := by decide +kernel
theorem am_k83 : amMkB am_n83 am_m83 am_g83 = true := by decide +kernel
theorem am_c84 : amCode amGG amXX am_n84.1.cls am_n84.2.1 am_m84.2.2.2.1 am_m84.1 am_h84 = true := by decide +kernel
theorem am_k84 : amMkB am_n84 am_m84 am_g84 = true := by decide +kernel
theorem am_c85 : amCode amGG amXX am_n85.1.cls am_n85.2.1 am_m85.2.2.2.1 am_m85.1 am_h85 = true := by decide +kernel
theorem am_k85 : amMkB am_n85 am_m85 am_g85 = true := by decide +kernel
theorem am_c86 : amCode amGG amXX am_n86.1.cls am_n86.2.1 am_m86.2.2.2.1 am_m86.1 am_h86 = true := by decide +kernel
theorem am_k86 : amMkB am_n86 am_m86 am_g86 = true := by decide +kernel
theorem am_c87 : amCode amGG amXX am_n87.1.cls am_n87.2.1 am_m87.2.2.2.1 am_m87.1 am_h87 = true := by decide +kernel
theorem am_k87 : amMkB am_n87 am_m87 am_g87 = true := by decide +kernel
theorem am_c88 : amCode amGG amXX am_n88.1.cls am_n88.2.1 am_m88.2.2.2.1 am_m88.1 am_h88 = true := by decide +kernel
theorem am_k88 : amMkB am_n88 am_m88 am_g88 = true := by decide +kernel
theorem am_c89 : amCode amGG amXX am_n89.1.cls am_n89.2.1 am_m89.2.2.2.1 am_m89.1 am_h89 = true := by decide +kernel
theorem am_k89 : amMkB am_n89 am_m89 am_g89 = true := by decide +kernel
theorem am_c90 : amCode amGG amXX am_n90.1.cls am_n90.2.1 am_m90.2.2.2.1 am_m90.1 am_h90 = true := by decide +kernel
theorem am_k90 : amMkB am_n90 am_m90 am_g90 = true := by decide +kernel
theorem am_c91 : amCode amGG amXX am_n91.1.cls am_n91.2.1 am_m91.2.2.2.1 am_m91.1 am_h91 = true := by decide +kernel
theorem am_k91 : amMkB am_n91 am_m91 am_g91 = true := by decide +kernel
theorem am_c92 : amCode amGG amXX am_n92.1.cls am_n92.2.1 am_m92.2.2.2.1 am_m92.1 am_h92 = true := by decide +kernel
theorem am_k92 : amMkB am_n92 am_m92 am_g92 = true := by decide +kernel
theorem am_c93 : amCode amGG amXX am_n93.1.cls am_n93.2.1 am_m93.2.2.2.1 am_m93.1 am_h93 = true := by decide +kernel
theorem am_k93 : amMkB am_n93 am_m93 am_g93 = true := by decide +kernel
theorem am_c94 : amCode amGG amXX am_n94.1.cls am_n94.2.1 am_m94.2.2.2.1 am_m94.1 am_h94 = true := by decide +kernel
theorem am_k94 : amMkB am_n94 am_m94 am_g94 = true := by decide +kernel
theorem am_c95 : amCode amGG amXX am_n95.1.cls am_n95.2.1 am_m95.2.2.2.1 am_m95.1 am_h95 = true := by decide +kernel
theorem am_k95 : amMkB am_n95 am_m95 am_g95 = true := by decide +kernel
theorem am_t1 : ∀ t ∈ [(am_n48, am_m48), (am_n49, am_m49), (am_n50, am_m50), (am_n51, am_m51), (am_n52, am_m52), (am_n53, am_m53), (am_n54, am_m54), (am_n55, am_m55), (am_n56, am_m56), (am_n57, am_m57), (am_n58, am_m58), (am_n59, am_m59), (am_n60, am_m60), (am_n61, am_m61), (am_n62, am_m62), (am_n63, am_m63), (am_n64, am_m64), (am_n65, am_m65), (am_n66, am_m66), (am_n67, am_m67), (am_n68, am_m68), (am_n69, am_m69), (am_n70, am_m70), (am_n71, am_m71), (am_n72, am_m72), (am_n73, am_m73), (am_n74, am_m74), (am_n75, am_m75), (am_n76, am_m76), (am_n77, am_m77), (am_n78, am_m78), (am_n79, am_m79), (am_n80, am_m80), (am_n81, am_m81), (am_n82, am_m82), (am_n83, am_m83), (am_n84, am_m84), (am_n85, am_m85), (am_n86, am_m86), (am_n87, am_m87), (am_n88, am_m88), (am_n89, am_m89), (am_n90, am_m90), (am_n91, am_m91), (am_n92, am_m92), (am_n93, am_m93), (am_n94, am_m94), (am_n95, am_m95)], amMk amGG amXX t.1 t.2 := by
  intro t ht
  simp only [List.mem_cons, List.not_mem_nil, or_false] at ht
  rcases ht with rfl | rfl | rfl | rfl | rfl | rfl | rfl | rfl | rfl | rfl | rfl | rfl | rfl | rfl | rfl | rfl | rfl | rfl | rfl | rfl | rfl | rfl | rfl | rfl | rfl | rfl | rfl | rfl | rfl | rfl | rfl | rfl | rfl | rfl | rfl | rfl | rfl | rfl | rfl | rfl | rfl | rfl | rfl | rfl | rfl | rfl | rfl | rfl
  · exact amMkB_s am_k48 am_c48
  · exact amMkB_s am_k49 am_c49
  · exact amMkB_s am_k50 am_c50
  · exact amMkB_s am_k51 am_c51
  · exact amMkB_s am_k52 am_c52
  · exact amMkB_s am_k53 am_c53
  · exact amMkB_s am_k54 am_c54
  · exact amMkB_s am_k55 am_c55
  · exact amMkB_s am_k56 am_c56
  · exact amMkB_s am_k57 am_c57
  · exact amMkB_s am_k58 am_c58
  · exact amMkB_s am_k59 am_c59
  · exact amMkB_s am_k60 am_c60
  · exact amMkB_s am_k61 am_c61
  · exact amMkB_s am_k62 am_c62
  · exact amMkB_s am_k63 am_c63
  · exact amMkB_s am_k64 am_c64
  · exact amMkB_s am_k65 am_c65
  · exact amMkB_s am_k66 am_c66
  · exact amMkB_s am_k67 am_c67
  · exact amMkB_s am_k68 am_c68
  · exact amMkB_s am_k69 am_c69
  · exact amMkB_s am_k70 am_c70
  · exact amMkB_s am_k71 am_c71
  · exact amMkB_s am_k72 am_c72
  · exact amMkB_s am_k73 am_c73
  · exact amMkB_s am_k74 am_c74
  · exact amMkB_s am_k75 am_c75
  · exact amMkB_s am_k76 am_c76
  · exact amMkB_s am_k77 am_c77
  · exact amMkB_s am_k78 am_c78
  · exact amMkB_s am_k79 am_c79
  · exact amMkB_s am_k80 am_c80
  · exact amMkB_s am_k81 am_c81
  · exact amMkB_s am_k82 am_c82
  · exact amMkB_s am_k83 am_c83
  · exact amMkB_s am_k84 am_c84
  · exact amMkB_s am_k85 am_c85
  · exact amMkB_s am_k86 am_c86
  · exact amMkB_s am_k87 am_c87
  · exact amMkB_s am_k88 am_c88
  · exact amMkB_s am_k89 am_c89
  · exact amMkB_s am_k90 am_c90
  · exact amMkB_s am_k91 am_c91
  · exact amMkB_s am_k92 am_c92
  · exact amMkB_s am_k93 am_c93
  · exact amMkB_s am_k94 am_c94
  · exact amMkB_s am_k95 am_c95
