/-! ===== the tables checked, 2 ===== -/
theorem am_c96 : amCode amGG amXX am_n96.1.cls am_n96.2.1 am_m96.2.2.2.1 am_m96.1 am_h96 = true := by decide +kernel
theorem am_k96 : amMkB am_n96 am_m96 am_g96 = true := by decide +kernel
theorem am_c97 : amCode amGG amXX am_n97.1.cls am_n97.2.1 am_m97.2.2.2.1 am_m97.1 am_h97 = true := by decide +kernel
theorem am_k97 : amMkB am_n97 am_m97 am_g97 = true := by decide +kernel
theorem am_c98 : amCode amGG amXX am_n98.1.cls am_n98.2.1 am_m98.2.2.2.1 am_m98.1 am_h98 = true := by decide +kernel
theorem am_k98 : amMkB am_n98 am_m98 am_g98 = true := by decide +kernel
theorem am_c99 : amCode amGG amXX am_n99.1.cls am_n99.2.1 am_m99.2.2.2.1 am_m99.1 am_h99 = true := by decide +kernel
theorem am_k99 : amMkB am_n99 am_m99 am_g99 = true := by decide +kernel
theorem am_c100 : amCode amGG amXX am_n100.1.cls am_n100.2.1 am_m100.2.2.2.1 am_m100.1 am_h100 = true := by decide +kernel
theorem am_k100 : amMkB am_n100 am_m100 am_g100 = true := by decide +kernel
theorem am_c101 : amCode amGG amXX am_n101.1.cls am_n101.2.1 am_m101.2.2.2.1 am_m101.1 am_h101 = true := by decide +kernel
theorem am_k101 : amMkB am_n101 am_m101 am_g101 = true := by decide +kernel
theorem am_c102 : amCode amGG amXX am_n102.1.cls am_n102.2.1 am_m102.2.2.2.1 am_m102.1 am_h102 = true := by decide +kernel
theorem am_k102 : amMkB am_n102 am_m102 am_g102 = true := by decide +kernel
theorem am_c103 : amCode amGG amXX am_n103.1.cls am_n103.2.1 am_m103.2.2.2.1 am_m103.1 am_h103 = true := by decide +kernel
theorem am_k103 : amMkB am_n103 am_m103 am_g103 = true := by decide +kernel
theorem am_c104 : amCode amGG amXX am_n104.1.cls am_n104.2.1 am_m104.2.2.2.1 am_m104.1 am_h104 = true := by decide +kernel
theorem am_k104 : amMkB am_n104 am_m104 am_g104 = true := by decide +kernel
theorem am_c105 : amCode amGG amXX am_n105.1.cls am_n105.2.1 am_m105.2.2.2.1 am_m105.1 am_h105 = true := by decide +kernel
theorem am_k105 : amMkB am_n105 am_m105 am_g105 = true := by decide +kernel
theorem am_c106 : amCode amGG amXX am_n106.1.cls am_n106.2.1 am_m106.2.2.2.1 am_m106.1 am_h106 = true := by decide +kernel
theorem am_k106 : amMkB am_n106 am_m106 am_g106 = true := by decide +kernel
theorem am_c107 : amCode amGG amXX am_n107.1.cls am_n107.2.1 am_m107.2.2.2.1 am_m107.1 am_h107 = true := by decide +kernel
theorem am_k107 : amMkB am_n107 am_m107 am_g107 = true := by decide +kernel
theorem am_c108 : amCode amGG amXX am_n108.1.cls am_n108.2.1 am_m108.2.2.2.1 am_m108.1 am_h108 = true := by decide +kernel
theorem am_k108 : amMkB am_n108 am_m108 am_g108 = true := by decide +kernel
theorem am_c109 : amCode amGG amXX am_n109.1.cls am_n109.2.1 am_m109.2.2.2.1 am_m109.1 am_h109 = true := by decide +kernel
theorem am_k109 : amMkB am_n109 am_m109 am_g109 = true := by decide +kernel
theorem am_c110 : amCode amGG amXX am_n110.1.cls am_n110.2.1 am_m110.2.2.2.1 am_m110.1 am_h110 = true := by decide +kernel
theorem am_k110 : amMkB am_n110 am_m110 am_g110 = true := by decide +kernel
theorem am_c111 : amCode amGG amXX am_n111.1.cls am_n111.2.1 am_m111.2.2.2.1 am_m111.1 am_h111 = true := by decide +kernel
theorem am_k111 : amMkB am_n111 am_m111 am_g111 = true := by decide +kernel
theorem am_c112 : amCode amGG amXX am_n112.1.cls am_n112.2.1 am_m112.2.2.2.1 am_m112.1 am_h112 = true := by decide +kernel
theorem am_k112 : amMkB am_n112 am_m112 am_g112 = true := by decide +kernel
theorem am_c113 : amCode amGG amXX am_n113.1.cls am_n113.2.1 am_m113.2.2.2.1 am_m113.1 am_h113 = true := by decide +kernel
theorem am_k113 : amMkB am_n113 am_m113 am_g113 = true := by decide +kernel
theorem am_c114 : amCode amGG amXX am_n114.1.cls am_n114.2.1 am_m114.2.2.2.1 am_m114.1 am_h114 = true := by decide +kernel
theorem am_k114 : amMkB am_n114 am_m114 am_g114 = true := by decide +kernel
theorem am_c115 : amCode amGG amXX am_n115.1.cls am_n115.2.1 am_m115.2.2.2.1 am_m115.1 am_h115 = true := by decide +kernel
theorem am_k115 : amMkB am_n115 am_m115 am_g115 = true := by decide +kernel
theorem am_c116 : amCode amGG amXX am_n116.1.cls am_n116.2.1 am_m116.2.2.2.1 am_m116.1 am_h116 = true := by decide +kernel
theorem am_k116 : amMkB am_n116 am_m116 am_g116 = true := by decide +kernel
theorem am_c117 : amCode amGG amXX am_n117.1.cls am_n117.2.1 am_m117.2.2.2.1 am_m117.1 am_h117 = true := by decide +kernel
theorem am_k117 : amMkB am_n117 am_m117 am_g117 = true := by decide +kernel
theorem am_c118 : amCode amGG amXX am_n118.1.cls am_n118.2.1 am_m118.2.2.2.1 am_m118.1 am_h118 = true := by decide +kernel
theorem am_k118 : amMkB am_n118 am_m118 am_g118 = true := by decide +kernel
theorem am_c119 : amCode amGG amXX am_n119.1.cls am_n119.2.1 am_m119.2.2.2.1 am_m119.1 am_h119 = true := by decide +kernel
theorem am_k119 : amMkB am_n119 am_m119 am_g119 = true := by decide +kernel
theorem am_c120 : amCode amGG amXX am_n120.1.cls am_n120.2.1 am_m120.2.2.2.1 am_m120.1 am_h120 = true := by decide +kernel
theorem am_k120 : amMkB am_n120 am_m120 am_g120 = true := by decide +kernel
theorem am_c121 : amCode amGG amXX am_n121.1.cls am_n121.2.1 am_m121.2.2.2.1 am_m121.1 am_h121 = true := by decide +kernel
theorem am_k121 : amMkB am_n121 am_m121 am_g121 = true := by decide +kernel
theorem am_c122 : amCode amGG amXX am_n122.1.cls am_n122.2.1 am_m122.2.2.2.1 am_m122.1 am_h122 = true := by decide +kernel
theorem am_k122 : amMkB am_n122 am_m122 am_g122 = true := by decide +kernel
theorem am_c123 : amCode amGG amXX am_n123.1.cls am_n123.2.1 am_m123.2.2.2.1 am_m123.1 am_h123 = true := by decide +kernel
theorem am_k123 : amMkB am_n123 am_m123 am_g123 = true := by decide +kernel
theorem am_c124 : amCode amGG amXX am_n124.1.cls am_n124.2.1 am_m124.2.2.2.1 am_m124.1 am_h124 = true := by decide +kernel
theorem am_k124 : amMkB am_n124 am_m124 am_g124 = true := by decide +kernel
theorem am_c125 : amCode amGG amXX am_n125.1.cls am_n125.2.1 am_m125.2.2.2.1 am_m125.1 am_h125 = true := by decide +kernel
theorem am_k125 : amMkB am_n125 am_m125 am_g125 = true := by decide +kernel
theorem am_c126 : amCode amGG amXX am_n126.1.cls am_n126.2.1 am_m126.2.2.2.1 am_m126.1 am_h126 = true := by decide +kernel
theorem am_k126 : amMkB am_n126 am_m126 am_g126 = true := by decide +kernel
theorem am_c127 : amCode amGG amXX am_n127.1.cls am_n127.2.1 am_m127.2.2.2.1 am_m127.1 am_h127 = true := by decide +kernel
theorem am_k127 : amMkB am_n127 am_m127 am_g127 = true := by decide +kernel
theorem am_c128 : amCode amGG amXX am_n128.1.cls am_n128.2.1 am_m128.2.2.2.1 am_m128.1 am_h128 = true := by decide +kernel
theorem am_k128 : amMkB am_n128 am_m128 am_g128 = true := by decide +kernel
theorem am_c129 : amCode amGG amXX am_n129.1.cls am_n129.2.1 am_m129.2.2.2.1 am_m129.1 am_h129 = true := by decide +kernel
theorem am_k129 : amMkB am_n129 am_m129 am_g129 = true := by decide +kernel
theorem am_c130 : amCode amGG amXX am_n130.1.cls am_n130.2.1 am_m130.2.2.2.1 am_m130.1 am_h130 = true := by decide +kernel
theorem am_k130 : amMkB am_n130 am_m130 am_g130 = true := by decide +kernel
theorem am_c131 : amCode amGG amXX am_n131.1.cls am_n131.2.1 am_m131.2.2.2.1 am_m131.1 am_h131 = true := by decide +kernel
theorem am_k131 : amMkB am_n131 am_m131 am_g131 = true := by decide +kernel
theorem am_c132 : amCode amGG amXX am_n132.1.cls am_n132.2.1 am_m132.2.2.2.1 am_m132.1 am_h132 = true := by decide +kernel
theorem am_k132 : amMkB am_n132 am_m132 am_g132 = true := by decide +kernel
theorem am_c133 : amCode amGG amXX am_n133.1.cls am_n133.2.1 am_m133.2.2.2.1 am_m133.1 am_h133 = true := by decide +kernel
theorem am_k133 : amMkB am_n133 am_m133 am_g133 = true := by decide +kernel
theorem am_c134 : amCode amGG amXX am_n134.1.cls am_n134.2.1 am_m134.2.2.2.1 am_m134.1 am_h134 = true := by decide +kernel
theorem am_k134 : amMkB am_n134 am_m134 am_g134 = true := by decide +kernel
theorem am_c135 : amCode amGG amXX am_n135.1.cls am_n135.2.1 am_m135.2.2.2.1 am_m135.1 am_h135 = true := by decide +kernel
theorem am_k135 : amMkB am_n135 am_m135 am_g135 = true := by decide +kernel
theorem am_c136 : amCode amGG amXX am_n136.1.cls am_n136.2.1 am_m136.2.2.2.1 am_m136.1 am_h136 = true := by decide +kernel
theorem am_k136 : amMkB am_n136 am_m136 am_g136 = true := by decide +kernel
theorem am_c137 : amCode amGG amXX am_n137.1.cls am_n137.2.1 am_m137.2.2.2.1 am_m137.1 am_h137 = true := by decide +kernel
theorem am_k137 : amMkB am_n137 am_m137 am_g137 = true := by decide +kernel
theorem am_c138 : amCode amGG amXX am_n138.1.cls am_n138.2.1 am_m138.2.2.2.1 am_m138.1 am_h138 = true := by decide +kernel
theorem am_k138 : amMkB am_n138 am_m138 am_g138 = true := by decide +kernel
theorem am_c139 : amCode amGG amXX am_n139.1.cls am_n139.2.1 am_m139.2.2.2.1 am_m139.1 am_h139 = true := by decide +kernel
theorem am_k139 : amMkB am_n139 am_m139 am_g139 = true := by decide +kernel
theorem am_c140 : amCode amGG amXX am_n140.1.cls am_n140.2.1 am_m140.2.2.2.1 am_m140.1 am_h140 = true := by decide +kernel
theorem am_k140 : amMkB am_n140 am_m140 am_g140 = true := by decide +kernel
theorem am_c141 : amCode amGG amXX am_n141.1.cls am_n141.2.1 am_m141.2.2.2.1 am_m141.1 am_h141 = true := by decide +kernel
theorem am_k141 : amMkB am_n141 am_m141 am_g141 = true := by decide +kernel
theorem am_c142 : amCode amGG amXX am_n142.1.cls am_n142.2.1 am_m142.2.2.2.1 am_m142.1 am_h142 = true := by decide +kernel
theorem am_k142 : amMkB am_n142 am_m142 am_g142 = true := by decide +kernel
theorem am_c143 : amCode amGG amXX am_n143.1.cls am_n143.2.1 am_m143.2.2.2.1 am_m143.1 am_h143 = true := by decide +kernel
theorem am_k143 : amMkB am_n143 am_m143 am_g143 = true := by decide +kernel
theorem am_t2 : ∀ t ∈ [(am_n96, am_m96), (am_n97, am_m97), (am_n98, am_m98), (am_n99, am_m99), (am_n100, am_m100), (am_n101, am_m101), (am_n102, am_m102), (am_n103, am_m103), (am_n104, am_m104), (am_n105, am_m105), (am_n106, am_m106), (am_n107, am_m107), (am_n108, am_m108), (am_n109, am_m109), (am_n110, am_m110), (am_n111, am_m111), (am_n112, am_m112), (am_n113, am_m113), (am_n114, am_m114), (am_n115, am_m115), (am_n116, am_m116), (am_n117, am_m117), (am_n118, am_m118), (am_n119, am_m119), (am_n120, am_m120), (am_n121, am_m121), (am_n122, am_m122), (am_n123, am_m123), (am_n124, am_m124), (am_n125, am_m125), (am_n126, am_m126), (am_n127, am_m127), (am_n128, am_m128), (am_n129, am_m129), (am_n130, am_m130), (am_n131, am_m131), (am_n132, am_m132), (am_n133, am_m133), (am_n134, am_m134), (am_n135, am_m135), (am_n136, am_m136), (am_n137, am_m137), (am_n138, am_m138), (am_n139, am_m139), (am_n140, am_m140), (am_n141, am_m141), (am_n142, am_m142), (am_n143, am_m143)], amMk amGG amXX t.1 t.2 := by
  intro t ht
  simp only [List.mem_cons, List.not_mem_nil, or_false] at ht
  rcases ht with rfl | rfl | rfl | rfl | rfl | rfl | rfl | rfl | rfl | rfl | rfl | rfl | rfl | rfl | rfl | rfl | rfl | rfl | rfl | rfl | rfl | rfl | rfl | rfl | rfl | rfl | rfl | rfl | rfl | rfl | rfl | rfl | rfl | rfl | rfl | rfl | rfl | rfl | rfl | rfl | rfl | rfl | rfl | rfl | rfl | rfl | rfl | rfl
  · exact amMkB_s am_k96 am_c96
  · exact amMkB_s am_k97 am_c97
  · exact amMkB_s am_k98 am_c98
  · exact amMkB_s am_k99 am_c99
  · exact amMkB_s am_k100 am_c100
  · exact amMkB_s am_k101 am_c101
  · exact amMkB_s am_k102 am_c102
  · exact amMkB_s am_k103 am_c103
  · exact amMkB_s am_k104 am_c104
  · exact amMkB_s am_k105 am_c105
  · exact amMkB_s am_k106 am_c106
  · exact amMkB_s am_k107 am_c107
  · exact amMkB_s am_k108 am_c108
  · exact amMkB_s am_k109 am_c109
  · exact amMkB_s am_k110 am_c110
  · exact amMkB_s am_k111 am_c111
  · exact amMkB_s am_k112 am_c112
  · exact amMkB_s am_k113 am_c113
  · exact amMkB_s am_k114 am_c114
  · exact amMkB_s am_k115 am_c115
  · exact amMkB_s am_k116 am_c116
  · exact amMkB_s am_k117 am_c117
  · exact amMkB_s am_k118 am_c118
  · exact amMkB_s am_k119 am_c119
  · exact amMkB_s am_k120 am_c120
  · exact amMkB_s am_k121 am_c121
  · exact amMkB_s am_k122 am_c122
  · exact amMkB_s am_k123 am_c123
  · exact amMkB_s am_k124 am_c124
  · exact amMkB_s am_k125 am_c125
  · exact amMkB_s am_k126 am_c126
  · exact amMkB_s am_k127 am_c127
  · exact amMkB_s am_k128 am_c128
  · exact amMkB_s am_k129 am_c129
  · exact amMkB_s am_k130 am_c130
  · exact amMkB_s am_k131 am_c131
  · exact amMkB_s am_k132 am_c132
  · exact amMkB_s am_k133 am_c133
  · exact amMkB_s am_k134 am_c134
  · exact amMkB_s am_k135 am_c135
  · exact amMkB_s am_k136 am_c136
  · exact amMkB_s am_k137 am_c137
  · exact amMkB_s am_k138 am_c138
  · exact amMkB_s am_k139 am_c139
  · exact amMkB_s am_k140 am_c140
  · exact amMkB_s am_k141 am_c141
  · exact amMkB_s am_k142 am_c142
  · exact amMkB_s am_k143 am_c143
