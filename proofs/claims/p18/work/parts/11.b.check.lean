/-! ##### 11.b.check ##### -/
section
/-! ===== the tables checked, 1 ===== -/
theorem am_f96 : fM amXX amGG am_V am_W9 am_n96 am_m96 am_h96 am_g96 = true := by decide +kernel
theorem am_f97 : fM amXX amGG am_V am_W9 am_n97 am_m97 am_h97 am_g97 = true := by decide +kernel
theorem am_f98 : fM amXX amGG am_V am_W9 am_n98 am_m98 am_h98 am_g98 = true := by decide +kernel
theorem am_f99 : fM amXX amGG am_V am_W10 am_n99 am_m99 am_h99 am_g99 = true := by decide +kernel
theorem am_f100 : fM amXX amGG am_V am_W10 am_n100 am_m100 am_h100 am_g100 = true := by decide +kernel
theorem am_f101 : fM amXX amGG am_V am_W10 am_n101 am_m101 am_h101 am_g101 = true := by decide +kernel
theorem am_f102 : fM amXX amGG am_V am_W10 am_n102 am_m102 am_h102 am_g102 = true := by decide +kernel
theorem am_f103 : fM amXX amGG am_V am_W10 am_n103 am_m103 am_h103 am_g103 = true := by decide +kernel
theorem am_f104 : fM amXX amGG am_V am_W10 am_n104 am_m104 am_h104 am_g104 = true := by decide +kernel
theorem am_f105 : fM amXX amGG am_V am_W10 am_n105 am_m105 am_h105 am_g105 = true := by decide +kernel
theorem am_f106 : fM amXX amGG am_V am_W10 am_n106 am_m106 am_h106 am_g106 = true := by decide +kernel
theorem am_f107 : fM amXX amGG am_V am_W10 am_n107 am_m107 am_h107 am_g107 = true := by decide +kernel
theorem am_f108 : fM amXX amGG am_V am_W10 am_n108 am_m108 am_h108 am_g108 = true := by decide +kernel
theorem am_f109 : fM amXX amGG am_V am_W10 am_n109 am_m109 am_h109 am_g109 = true := by decide +kernel
theorem am_f110 : fM amXX amGG am_V am_W10 am_n110 am_m110 am_h110 am_g110 = true := by decide +kernel
theorem am_f111 : fM amXX amGG am_V am_W10 am_n111 am_m111 am_h111 am_g111 = true := by decide +kernel
theorem am_f112 : fM amXX amGG am_V am_W11 am_n112 am_m112 am_h112 am_g112 = true := by decide +kernel
theorem am_f113 : fM amXX amGG am_V am_W11 am_n113 am_m113 am_h113 am_g113 = true := by decide +kernel
theorem am_f114 : fM amXX amGG am_V am_W11 am_n114 am_m114 am_h114 am_g114 = true := by decide +kernel
theorem am_f115 : fM amXX amGG am_V am_W11 am_n115 am_m115 am_h115 am_g115 = true := by decide +kernel
theorem am_f116 : fM amXX amGG am_V am_W11 am_n116 am_m116 am_h116 am_g116 = true := by decide +kernel
theorem am_f117 : fM amXX amGG am_V am_W11 am_n117 am_m117 am_h117 am_g117 = true := by decide +kernel
theorem am_f118 : fM amXX amGG am_V am_W11 am_n118 am_m118 am_h118 am_g118 = true := by decide +kernel
theorem am_f119 : fM amXX amGG am_V am_W11 am_n119 am_m119 am_h119 am_g119 = true := by decide +kernel
theorem am_f120 : fM amXX amGG am_V am_W11 am_n120 am_m120 am_h120 am_g120 = true := by decide +kernel
theorem am_f121 : fM amXX amGG am_V am_W11 am_n121 am_m121 am_h121 am_g121 = true := by decide +kernel
theorem am_f122 : fM amXX amGG am_V am_W11 am_n122 am_m122 am_h122 am_g122 = true := by decide +kernel
theorem am_f123 : fM amXX amGG am_V am_W11 am_n123 am_m123 am_h123 am_g123 = true := by decide +kernel
theorem am_f124 : fM amXX amGG am_V am_W11 am_n124 am_m124 am_h124 am_g124 = true := by decide +kernel
theorem am_f125 : fM amXX amGG am_V am_W11 am_n125 am_m125 am_h125 am_g125 = true := by decide +kernel
theorem am_f126 : fM amXX amGG am_V am_W11 am_n126 am_m126 am_h126 am_g126 = true := by decide +kernel
theorem am_f127 : fM amXX amGG am_V am_W11 am_n127 am_m127 am_h127 am_g127 = true := by decide +kernel
theorem am_f128 : fM amXX amGG am_V am_W11 am_n128 am_m128 am_h128 am_g128 = true := by decide +kernel
theorem am_f129 : fM amXX amGG am_V am_W11 am_n129 am_m129 am_h129 am_g129 = true := by decide +kernel
theorem am_f130 : fM amXX amGG am_V am_W11 am_n130 am_m130 am_h130 am_g130 = true := by decide +kernel
theorem am_f131 : fM amXX amGG am_V am_W11 am_n131 am_m131 am_h131 am_g131 = true := by decide +kernel
theorem am_f132 : fM amXX amGG am_V am_W11 am_n132 am_m132 am_h132 am_g132 = true := by decide +kernel
theorem am_f133 : fM amXX amGG am_V am_W11 am_n133 am_m133 am_h133 am_g133 = true := by decide +kernel
theorem am_f134 : fM amXX amGG am_V am_W11 am_n134 am_m134 am_h134 am_g134 = true := by decide +kernel
theorem am_f135 : fM amXX amGG am_V am_W11 am_n135 am_m135 am_h135 am_g135 = true := by decide +kernel
theorem am_f136 : fM amXX amGG am_V am_W11 am_n136 am_m136 am_h136 am_g136 = true := by decide +kernel
theorem am_f137 : fM amXX amGG am_V am_W11 am_n137 am_m137 am_h137 am_g137 = true := by decide +kernel
theorem am_f138 : fM amXX amGG am_V am_W11 am_n138 am_m138 am_h138 am_g138 = true := by decide +kernel
theorem am_f139 : fM amXX amGG am_V am_W11 am_n139 am_m139 am_h139 am_g139 = true := by decide +kernel
theorem am_f140 : fM amXX amGG am_V am_W11 am_n140 am_m140 am_h140 am_g140 = true := by decide +kernel
theorem am_f141 : fM amXX amGG am_V am_W11 am_n141 am_m141 am_h141 am_g141 = true := by decide +kernel
theorem am_f142 : fM amXX amGG am_V am_W11 am_n142 am_m142 am_h142 am_g142 = true := by decide +kernel
theorem am_f143 : fM amXX amGG am_V am_W11 am_n143 am_m143 am_h143 am_g143 = true := by decide +kernel
theorem am_f144 : fM amXX amGG am_V am_W11 am_n144 am_m144 am_h144 am_g144 = true := by decide +kernel
theorem am_f145 : fM amXX amGG am_V am_W11 am_n145 am_m145 am_h145 am_g145 = true := by decide +kernel
theorem am_f146 : fM amXX amGG am_V am_W11 am_n146 am_m146 am_h146 am_g146 = true := by decide +kernel
theorem am_f147 : fM amXX amGG am_V am_W11 am_n147 am_m147 am_h147 am_g147 = true := by decide +kernel
theorem am_f148 : fM amXX amGG am_V am_W11 am_n148 am_m148 am_h148 am_g148 = true := by decide +kernel
theorem am_f149 : fM amXX amGG am_V am_W11 am_n149 am_m149 am_h149 am_g149 = true := by decide +kernel
theorem am_f150 : fM amXX amGG am_V am_W11 am_n150 am_m150 am_h150 am_g150 = true := by decide +kernel
theorem am_f151 : fM amXX amGG am_V am_W11 am_n151 am_m151 am_h151 am_g151 = true := by decide +kernel
theorem am_f152 : fM amXX amGG am_V am_W11 am_n152 am_m152 am_h152 am_g152 = true := by decide +kernel
theorem am_f153 : fM amXX amGG am_V am_W11 am_n153 am_m153 am_h153 am_g153 = true := by decide +kernel
theorem am_f154 : fM amXX amGG am_V am_W11 am_n154 am_m154 am_h154 am_g154 = true := by decide +kernel
theorem am_f155 : fM amXX amGG am_V am_W11 am_n155 am_m155 am_h155 am_g155 = true := by decide +kernel
theorem am_f156 : fM amXX amGG am_V am_W11 am_n156 am_m156 am_h156 am_g156 = true := by decide +kernel
theorem am_f157 : fM amXX amGG am_V am_W11 am_n157 am_m157 am_h157 am_g157 = true := by decide +kernel
theorem am_f158 : fM amXX amGG am_V am_W11 am_n158 am_m158 am_h158 am_g158 = true := by decide +kernel
theorem am_f159 : fM amXX amGG am_V am_W11 am_n159 am_m159 am_h159 am_g159 = true := by decide +kernel
theorem am_f160 : fM amXX amGG am_V am_W11 am_n160 am_m160 am_h160 am_g160 = true := by decide +kernel
theorem am_f161 : fM amXX amGG am_V am_W11 am_n161 am_m161 am_h161 am_g161 = true := by decide +kernel
theorem am_f162 : fM amXX amGG am_V am_W11 am_n162 am_m162 am_h162 am_g162 = true := by decide +kernel
theorem am_f163 : fM amXX amGG am_V am_W11 am_n163 am_m163 am_h163 am_g163 = true := by decide +kernel
theorem am_f164 : fM amXX amGG am_V am_W11 am_n164 am_m164 am_h164 am_g164 = true := by decide +kernel
theorem am_f165 : fM amXX amGG am_V am_W11 am_n165 am_m165 am_h165 am_g165 = true := by decide +kernel
theorem am_f166 : fM amXX amGG am_V am_W11 am_n166 am_m166 am_h166 am_g166 = true := by decide +kernel
theorem am_f167 : fM amXX amGG am_V am_W11 am_n167 am_m167 am_h167 am_g167 = true := by decide +kernel
theorem am_f168 : fM amXX amGG am_V am_W11 am_n168 am_m168 am_h168 am_g168 = true := by decide +kernel
theorem am_f169 : fM amXX amGG am_V am_W11 am_n169 am_m169 am_h169 am_g169 = true := by decide +kernel
theorem am_f170 : fM amXX amGG am_V am_W11 am_n170 am_m170 am_h170 am_g170 = true := by decide +kernel
theorem am_f171 : fM amXX amGG am_V am_W11 am_n171 am_m171 am_h171 am_g171 = true := by decide +kernel
theorem am_f172 : fM amXX amGG am_V am_W11 am_n172 am_m172 am_h172 am_g172 = true := by decide +kernel
theorem am_f173 : fM amXX amGG am_V am_W11 am_n173 am_m173 am_h173 am_g173 = true := by decide +kernel
theorem am_f174 : fM amXX amGG am_V am_W11 am_n174 am_m174 am_h174 am_g174 = true := by decide +kernel
theorem am_f175 : fM amXX amGG am_V am_W11 am_n175 am_m175 am_h175 am_g175 = true := by decide +kernel
theorem am_f176 : fM amXX amGG am_V am_W11 am_n176 am_m176 am_h176 am_g176 = true := by decide +kernel
theorem am_f177 : fM amXX amGG am_V am_W11 am_n177 am_m177 am_h177 am_g177 = true := by decide +kernel
theorem am_f178 : fM amXX amGG am_V am_W11 am_n178 am_m178 am_h178 am_g178 = true := by decide +kernel
theorem am_f179 : fM amXX amGG am_V am_W11 am_n179 am_m179 am_h179 am_g179 = true := by decide +kernel
theorem am_f180 : fM amXX amGG am_V am_W11 am_n180 am_m180 am_h180 am_g180 = true := by decide +kernel
theorem am_f181 : fM amXX amGG am_V am_W11 am_n181 am_m181 am_h181 am_g181 = true := by decide +kernel
theorem am_f182 : fM amXX amGG am_V am_W11 am_n182 am_m182 am_h182 am_g182 = true := by decide +kernel
theorem am_f183 : fM amXX amGG am_V am_W11 am_n183 am_m183 am_h183 am_g183 = true := by decide +kernel
theorem am_f184 : fM amXX amGG am_V am_W11 am_n184 am_m184 am_h184 am_g184 = true := by decide +kernel
theorem am_f185 : fM amXX amGG am_V am_W11 am_n185 am_m185 am_h185 am_g185 = true := by decide +kernel
theorem am_f186 : fM amXX amGG am_V am_W11 am_n186 am_m186 am_h186 am_g186 = true := by decide +kernel
theorem am_f187 : fM amXX amGG am_V am_W11 am_n187 am_m187 am_h187 am_g187 = true := by decide +kernel
theorem am_f188 : fM amXX amGG am_V am_W11 am_n188 am_m188 am_h188 am_g188 = true := by decide +kernel
theorem am_f189 : fM amXX amGG am_V am_W11 am_n189 am_m189 am_h189 am_g189 = true := by decide +kernel
theorem am_f190 : fM amXX amGG am_V am_W11 am_n190 am_m190 am_h190 am_g190 = true := by decide +kernel
theorem am_f191 : fM amXX amGG am_V am_W11 am_n191 am_m191 am_h191 am_g191 = true := by decide +kernel
theorem am_t2 : ∀ t ∈ [(am_n96, am_m96), (am_n97, am_m97), (am_n98, am_m98), (am_n99, am_m99), (am_n100, am_m100), (am_n101, am_m101), (am_n102, am_m102), (am_n103, am_m103), (am_n104, am_m104), (am_n105, am_m105), (am_n106, am_m106), (am_n107, am_m107), (am_n108, am_m108), (am_n109, am_m109), (am_n110, am_m110), (am_n111, am_m111), (am_n112, am_m112), (am_n113, am_m113), (am_n114, am_m114), (am_n115, am_m115), (am_n116, am_m116), (am_n117, am_m117), (am_n118, am_m118), (am_n119, am_m119), (am_n120, am_m120), (am_n121, am_m121), (am_n122, am_m122), (am_n123, am_m123), (am_n124, am_m124), (am_n125, am_m125), (am_n126, am_m126), (am_n127, am_m127), (am_n128, am_m128), (am_n129, am_m129), (am_n130, am_m130), (am_n131, am_m131), (am_n132, am_m132), (am_n133, am_m133), (am_n134, am_m134), (am_n135, am_m135), (am_n136, am_m136), (am_n137, am_m137), (am_n138, am_m138), (am_n139, am_m139), (am_n140, am_m140), (am_n141, am_m141), (am_n142, am_m142), (am_n143, am_m143)], amMk amGG amXX t.1 t.2 := by
  intro t ht
  simp only [List.mem_cons, List.not_mem_nil, or_false] at ht
  rcases ht with rfl | rfl | rfl | rfl | rfl | rfl | rfl | rfl | rfl | rfl | rfl | rfl | rfl | rfl | rfl | rfl | rfl | rfl | rfl | rfl | rfl | rfl | rfl | rfl | rfl | rfl | rfl | rfl | rfl | rfl | rfl | rfl | rfl | rfl | rfl | rfl | rfl | rfl | rfl | rfl | rfl | rfl | rfl | rfl | rfl | rfl | rfl | rfl
  · exact fM_s am_zz am_rq (o := 9) rfl am_v am_w9 am_f96
  · exact fM_s am_zz am_rq (o := 9) rfl am_v am_w9 am_f97
  · exact fM_s am_zz am_rq (o := 9) rfl am_v am_w9 am_f98
  · exact fM_s am_zz am_rq (o := 10) rfl am_v am_w10 am_f99
  · exact fM_s am_zz am_rq (o := 10) rfl am_v am_w10 am_f100
  · exact fM_s am_zz am_rq (o := 10) rfl am_v am_w10 am_f101
  · exact fM_s am_zz am_rq (o := 10) rfl am_v am_w10 am_f102
  · exact fM_s am_zz am_rq (o := 10) rfl am_v am_w10 am_f103
  · exact fM_s am_zz am_rq (o := 10) rfl am_v am_w10 am_f104
  · exact fM_s am_zz am_rq (o := 10) rfl am_v am_w10 am_f105
  · exact fM_s am_zz am_rq (o := 10) rfl am_v am_w10 am_f106
  · exact fM_s am_zz am_rq (o := 10) rfl am_v am_w10 am_f107
  · exact fM_s am_zz am_rq (o := 10) rfl am_v am_w10 am_f108
  · exact fM_s am_zz am_rq (o := 10) rfl am_v am_w10 am_f109
  · exact fM_s am_zz am_rq (o := 10) rfl am_v am_w10 am_f110
  · exact fM_s am_zz am_rq (o := 10) rfl am_v am_w10 am_f111
  · exact fM_s am_zz am_rq (o := 11) rfl am_v am_w11 am_f112
  · exact fM_s am_zz am_rq (o := 11) rfl am_v am_w11 am_f113
  · exact fM_s am_zz am_rq (o := 11) rfl am_v am_w11 am_f114
  · exact fM_s am_zz am_rq (o := 11) rfl am_v am_w11 am_f115
  · exact fM_s am_zz am_rq (o := 11) rfl am_v am_w11 am_f116
  · exact fM_s am_zz am_rq (o := 11) rfl am_v am_w11 am_f117
  · exact fM_s am_zz am_rq (o := 11) rfl am_v am_w11 am_f118
  · exact fM_s am_zz am_rq (o := 11) rfl am_v am_w11 am_f119
  · exact fM_s am_zz am_rq (o := 11) rfl am_v am_w11 am_f120
  · exact fM_s am_zz am_rq (o := 11) rfl am_v am_w11 am_f121
  · exact fM_s am_zz am_rq (o := 11) rfl am_v am_w11 am_f122
  · exact fM_s am_zz am_rq (o := 11) rfl am_v am_w11 am_f123
  · exact fM_s am_zz am_rq (o := 11) rfl am_v am_w11 am_f124
  · exact fM_s am_zz am_rq (o := 11) rfl am_v am_w11 am_f125
  · exact fM_s am_zz am_rq (o := 11) rfl am_v am_w11 am_f126
  · exact fM_s am_zz am_rq (o := 11) rfl am_v am_w11 am_f127
  · exact fM_s am_zz am_rq (o := 11) rfl am_v am_w11 am_f128
  · exact fM_s am_zz am_rq (o := 11) rfl am_v am_w11 am_f129
  · exact fM_s am_zz am_rq (o := 11) rfl am_v am_w11 am_f130
  · exact fM_s am_zz am_rq (o := 11) rfl am_v am_w11 am_f131
  · exact fM_s am_zz am_rq (o := 11) rfl am_v am_w11 am_f132
  · exact fM_s am_zz am_rq (o := 11) rfl am_v am_w11 am_f133
  · exact fM_s am_zz am_rq (o := 11) rfl am_v am_w11 am_f134
  · exact fM_s am_zz am_rq (o := 11) rfl am_v am_w11 am_f135
  · exact fM_s am_zz am_rq (o := 11) rfl am_v am_w11 am_f136
  · exact fM_s am_zz am_rq (o := 11) rfl am_v am_w11 am_f137
  · exact fM_s am_zz am_rq (o := 11) rfl am_v am_w11 am_f138
  · exact fM_s am_zz am_rq (o := 11) rfl am_v am_w11 am_f139
  · exact fM_s am_zz am_rq (o := 11) rfl am_v am_w11 am_f140
  · exact fM_s am_zz am_rq (o := 11) rfl am_v am_w11 am_f141
  · exact fM_s am_zz am_rq (o := 11) rfl am_v am_w11 am_f142
  · exact fM_s am_zz am_rq (o := 11) rfl am_v am_w11 am_f143
theorem am_t3 : ∀ t ∈ [(am_n144, am_m144), (am_n145, am_m145), (am_n146, am_m146), (am_n147, am_m147), (am_n148, am_m148), (am_n149, am_m149), (am_n150, am_m150), (am_n151, am_m151), (am_n152, am_m152), (am_n153, am_m153), (am_n154, am_m154), (am_n155, am_m155), (am_n156, am_m156), (am_n157, am_m157), (am_n158, am_m158), (am_n159, am_m159), (am_n160, am_m160), (am_n161, am_m161), (am_n162, am_m162), (am_n163, am_m163), (am_n164, am_m164), (am_n165, am_m165), (am_n166, am_m166), (am_n167, am_m167), (am_n168, am_m168), (am_n169, am_m169), (am_n170, am_m170), (am_n171, am_m171), (am_n172, am_m172), (am_n173, am_m173), (am_n174, am_m174), (am_n175, am_m175), (am_n176, am_m176), (am_n177, am_m177), (am_n178, am_m178), (am_n179, am_m179), (am_n180, am_m180), (am_n181, am_m181), (am_n182, am_m182), (am_n183, am_m183), (am_n184, am_m184), (am_n185, am_m185), (am_n186, am_m186), (am_n187, am_m187), (am_n188, am_m188), (am_n189, am_m189), (am_n190, am_m190), (am_n191, am_m191)], amMk amGG amXX t.1 t.2 := by
  intro t ht
  simp only [List.mem_cons, List.not_mem_nil, or_false] at ht
  rcases ht with rfl | rfl | rfl | rfl | rfl | rfl | rfl | rfl | rfl | rfl | rfl | rfl | rfl | rfl | rfl | rfl | rfl | rfl | rfl | rfl | rfl | rfl | rfl | rfl | rfl | rfl | rfl | rfl | rfl | rfl | rfl | rfl | rfl | rfl | rfl | rfl | rfl | rfl | rfl | rfl | rfl | rfl | rfl | rfl | rfl | rfl | rfl | rfl
  · exact fM_s am_zz am_rq (o := 11) rfl am_v am_w11 am_f144
  · exact fM_s am_zz am_rq (o := 11) rfl am_v am_w11 am_f145
  · exact fM_s am_zz am_rq (o := 11) rfl am_v am_w11 am_f146
  · exact fM_s am_zz am_rq (o := 11) rfl am_v am_w11 am_f147
  · exact fM_s am_zz am_rq (o := 11) rfl am_v am_w11 am_f148
  · exact fM_s am_zz am_rq (o := 11) rfl am_v am_w11 am_f149
  · exact fM_s am_zz am_rq (o := 11) rfl am_v am_w11 am_f150
  · exact fM_s am_zz am_rq (o := 11) rfl am_v am_w11 am_f151
  · exact fM_s am_zz am_rq (o := 11) rfl am_v am_w11 am_f152
  · exact fM_s am_zz am_rq (o := 11) rfl am_v am_w11 am_f153
  · exact fM_s am_zz am_rq (o := 11) rfl am_v am_w11 am_f154
  · exact fM_s am_zz am_rq (o := 11) rfl am_v am_w11 am_f155
  · exact fM_s am_zz am_rq (o := 11) rfl am_v am_w11 am_f156
  · exact fM_s am_zz am_rq (o := 11) rfl am_v am_w11 am_f157
  · exact fM_s am_zz am_rq (o := 11) rfl am_v am_w11 am_f158
  · exact fM_s am_zz am_rq (o := 11) rfl am_v am_w11 am_f159
  · exact fM_s am_zz am_rq (o := 11) rfl am_v am_w11 am_f160
  · exact fM_s am_zz am_rq (o := 11) rfl am_v am_w11 am_f161
  · exact fM_s am_zz am_rq (o := 11) rfl am_v am_w11 am_f162
  · exact fM_s am_zz am_rq (o := 11) rfl am_v am_w11 am_f163
  · exact fM_s am_zz am_rq (o := 11) rfl am_v am_w11 am_f164
  · exact fM_s am_zz am_rq (o := 11) rfl am_v am_w11 am_f165
  · exact fM_s am_zz am_rq (o := 11) rfl am_v am_w11 am_f166
  · exact fM_s am_zz am_rq (o := 11) rfl am_v am_w11 am_f167
  · exact fM_s am_zz am_rq (o := 11) rfl am_v am_w11 am_f168
  · exact fM_s am_zz am_rq (o := 11) rfl am_v am_w11 am_f169
  · exact fM_s am_zz am_rq (o := 11) rfl am_v am_w11 am_f170
  · exact fM_s am_zz am_rq (o := 11) rfl am_v am_w11 am_f171
  · exact fM_s am_zz am_rq (o := 11) rfl am_v am_w11 am_f172
  · exact fM_s am_zz am_rq (o := 11) rfl am_v am_w11 am_f173
  · exact fM_s am_zz am_rq (o := 11) rfl am_v am_w11 am_f174
  · exact fM_s am_zz am_rq (o := 11) rfl am_v am_w11 am_f175
  · exact fM_s am_zz am_rq (o := 11) rfl am_v am_w11 am_f176
  · exact fM_s am_zz am_rq (o := 11) rfl am_v am_w11 am_f177
  · exact fM_s am_zz am_rq (o := 11) rfl am_v am_w11 am_f178
  · exact fM_s am_zz am_rq (o := 11) rfl am_v am_w11 am_f179
  · exact fM_s am_zz am_rq (o := 11) rfl am_v am_w11 am_f180
  · exact fM_s am_zz am_rq (o := 11) rfl am_v am_w11 am_f181
  · exact fM_s am_zz am_rq (o := 11) rfl am_v am_w11 am_f182
  · exact fM_s am_zz am_rq (o := 11) rfl am_v am_w11 am_f183
  · exact fM_s am_zz am_rq (o := 11) rfl am_v am_w11 am_f184
  · exact fM_s am_zz am_rq (o := 11) rfl am_v am_w11 am_f185
  · exact fM_s am_zz am_rq (o := 11) rfl am_v am_w11 am_f186
  · exact fM_s am_zz am_rq (o := 11) rfl am_v am_w11 am_f187
  · exact fM_s am_zz am_rq (o := 11) rfl am_v am_w11 am_f188
  · exact fM_s am_zz am_rq (o := 11) rfl am_v am_w11 am_f189
  · exact fM_s am_zz am_rq (o := 11) rfl am_v am_w11 am_f190
  · exact fM_s am_zz am_rq (o := 11) rfl am_v am_w11 am_f191
end
/-! ##### 11.c.check ##### -/
section
/-! ===== the tables checked, 2 ===== -/
theorem am_f192 : fM amXX amGG am_V am_W11 am_n192 am_m192 am_h192 am_g192 = true := by decide +kernel
theorem am_f193 : fM amXX amGG am_V am_W11 am_n193 am_m193 am_h193 am_g193 = true := by decide +kernel
theorem am_f194 : fM amXX amGG am_V am_W12 am_n194 am_m194 am_h194 am_g194 = true := by decide +kernel
theorem am_f196 : fM amXX amGG am_V am_W12 am_n196 am_m196 am_h196 am_g196 = true := by decide +kernel
theorem am_f197 : fM amXX amGG am_V am_W12 am_n197 am_m197 am_h197 am_g197 = true := by decide +kernel
theorem am_f198 : fM amXX amGG am_V am_W12 am_n198 am_m198 am_h198 am_g198 = true := by decide +kernel
theorem am_f199 : fM amXX amGG am_V am_W12 am_n199 am_m199 am_h199 am_g199 = true := by decide +kernel
theorem am_f200 : fM amXX amGG am_V am_W12 am_n200 am_m200 am_h200 am_g200 = true := by decide +kernel
theorem am_f201 : fM amXX amGG am_V am_W12 am_n201 am_m201 am_h201 am_g201 = true := by decide +kernel
theorem am_f202 : fM amXX amGG am_V am_W12 am_n202 am_m202 am_h202 am_g202 = true := by decide +kernel
theorem am_f203 : fM amXX amGG am_V am_W12 am_n203 am_m203 am_h203 am_g203 = true := by decide +kernel
theorem am_f204 : fM amXX amGG am_V am_W12 am_n204 am_m204 am_h204 am_g204 = true := by decide +kernel
theorem am_f205 : fM amXX amGG am_V am_W12 am_n205 am_m205 am_h205 am_g205 = true := by decide +kernel
theorem am_f206 : fM amXX amGG am_V am_W12 am_n206 am_m206 am_h206 am_g206 = true := by decide +kernel
theorem am_f207 : fM amXX amGG am_V am_W12 am_n207 am_m207 am_h207 am_g207 = true := by decide +kernel
theorem am_f208 : fM amXX amGG am_V am_W12 am_n208 am_m208 am_h208 am_g208 = true := by decide +kernel
theorem am_f209 : fM amXX amGG am_V am_W12 am_n209 am_m209 am_h209 am_g209 = true := by decide +kernel
theorem am_f210 : fM amXX amGG am_V am_W12 am_n210 am_m210 am_h210 am_g210 = true := by decide +kernel
theorem am_f211 : fM amXX amGG am_V am_W12 am_n211 am_m211 am_h211 am_g211 = true := by decide +kernel
theorem am_f212 : fM amXX amGG am_V am_W12 am_n212 am_m212 am_h212 am_g212 = true := by decide +kernel
theorem am_f213 : fM amXX amGG am_V am_W12 am_n213 am_m213 am_h213 am_g213 = true := by decide +kernel
theorem am_f214 : fM amXX amGG am_V am_W12 am_n214 am_m214 am_h214 am_g214 = true := by decide +kernel
theorem am_f215 : fM amXX amGG am_V am_W12 am_n215 am_m215 am_h215 am_g215 = true := by decide +kernel
theorem am_f216 : fM amXX amGG am_V am_W12 am_n216 am_m216 am_h216 am_g216 = true := by decide +kernel
theorem am_f217 : fM amXX amGG am_V am_W12 am_n217 am_m217 am_h217 am_g217 = true := by decide +kernel
theorem am_f218 : fM amXX amGG am_V am_W12 am_n218 am_m218 am_h218 am_g218 = true := by decide +kernel
theorem am_f219 : fM amXX amGG am_V am_W12 am_n219 am_m219 am_h219 am_g219 = true := by decide +kernel
theorem am_f220 : fM amXX amGG am_V am_W12 am_n220 am_m220 am_h220 am_g220 = true := by decide +kernel
theorem am_f221 : fM amXX amGG am_V am_W12 am_n221 am_m221 am_h221 am_g221 = true := by decide +kernel
theorem am_f222 : fM amXX amGG am_V am_W12 am_n222 am_m222 am_h222 am_g222 = true := by decide +kernel
theorem am_f223 : fM amXX amGG am_V am_W12 am_n223 am_m223 am_h223 am_g223 = true := by decide +kernel
theorem am_f224 : fM amXX amGG am_V am_W12 am_n224 am_m224 am_h224 am_g224 = true := by decide +kernel
theorem am_f225 : fM amXX amGG am_V am_W12 am_n225 am_m225 am_h225 am_g225 = true := by decide +kernel
theorem am_f226 : fM amXX amGG am_V am_W12 am_n226 am_m226 am_h226 am_g226 = true := by decide +kernel
theorem am_f227 : fM amXX amGG am_V am_W12 am_n227 am_m227 am_h227 am_g227 = true := by decide +kernel
theorem am_f228 : fM amXX amGG am_V am_W12 am_n228 am_m228 am_h228 am_g228 = true := by decide +kernel
theorem am_f229 : fM amXX amGG am_V am_W12 am_n229 am_m229 am_h229 am_g229 = true := by decide +kernel
theorem am_f230 : fM amXX amGG am_V am_W12 am_n230 am_m230 am_h230 am_g230 = true := by decide +kernel
theorem am_f231 : fM amXX amGG am_V am_W12 am_n231 am_m231 am_h231 am_g231 = true := by decide +kernel
theorem am_f232 : fM amXX amGG am_V am_W12 am_n232 am_m232 am_h232 am_g232 = true := by decide +kernel
theorem am_f233 : fM amXX amGG am_V am_W12 am_n233 am_m233 am_h233 am_g233 = true := by decide +kernel
theorem am_f234 : fM amXX amGG am_V am_W12 am_n234 am_m234 am_h234 am_g234 = true := by decide +kernel
theorem am_f235 : fM amXX amGG am_V am_W12 am_n235 am_m235 am_h235 am_g235 = true := by decide +kernel
theorem am_f236 : fM amXX amGG am_V am_W12 am_n236 am_m236 am_h236 am_g236 = true := by decide +kernel
theorem am_f237 : fM amXX amGG am_V am_W12 am_n237 am_m237 am_h237 am_g237 = true := by decide +kernel
theorem am_f238 : fM amXX amGG am_V am_W12 am_n238 am_m238 am_h238 am_g238 = true := by decide +kernel
theorem am_f239 : fM amXX amGG am_V am_W12 am_n239 am_m239 am_h239 am_g239 = true := by decide +kernel
theorem am_f240 : fM amXX amGG am_V am_W12 am_n240 am_m240 am_h240 am_g240 = true := by decide +kernel
theorem am_f241 : fM amXX amGG am_V am_W12 am_n241 am_m241 am_h241 am_g241 = true := by decide +kernel
theorem am_f242 : fM amXX amGG am_V am_W12 am_n242 am_m242 am_h242 am_g242 = true := by decide +kernel
theorem am_f243 : fM amXX amGG am_V am_W12 am_n243 am_m243 am_h243 am_g243 = true := by decide +kernel
theorem am_f244 : fM amXX amGG am_V am_W12 am_n244 am_m244 am_h244 am_g244 = true := by decide +kernel
theorem am_f245 : fM amXX amGG am_V am_W12 am_n245 am_m245 am_h245 am_g245 = true := by decide +kernel
theorem am_f246 : fM amXX amGG am_V am_W12 am_n246 am_m246 am_h246 am_g246 = true := by decide +kernel
theorem am_f247 : fM amXX amGG am_V am_W12 am_n247 am_m247 am_h247 am_g247 = true := by decide +kernel
theorem am_f248 : fM amXX amGG am_V am_W12 am_n248 am_m248 am_h248 am_g248 = true := by decide +kernel
theorem am_f249 : fM amXX amGG am_V am_W12 am_n249 am_m249 am_h249 am_g249 = true := by decide +kernel
theorem am_f250 : fM amXX amGG am_V am_W12 am_n250 am_m250 am_h250 am_g250 = true := by decide +kernel
theorem am_f251 : fM amXX amGG am_V am_W12 am_n251 am_m251 am_h251 am_g251 = true := by decide +kernel
theorem am_f252 : fM amXX amGG am_V am_W12 am_n252 am_m252 am_h252 am_g252 = true := by decide +kernel
theorem am_f253 : fM amXX amGG am_V am_W12 am_n253 am_m253 am_h253 am_g253 = true := by decide +kernel
theorem am_f254 : fM amXX amGG am_V am_W12 am_n254 am_m254 am_h254 am_g254 = true := by decide +kernel
theorem am_f255 : fM amXX amGG am_V am_W12 am_n255 am_m255 am_h255 am_g255 = true := by decide +kernel
theorem am_f256 : fM amXX amGG am_V am_W12 am_n256 am_m256 am_h256 am_g256 = true := by decide +kernel
theorem am_f257 : fM amXX amGG am_V am_W12 am_n257 am_m257 am_h257 am_g257 = true := by decide +kernel
theorem am_f258 : fM amXX amGG am_V am_W12 am_n258 am_m258 am_h258 am_g258 = true := by decide +kernel
theorem am_f259 : fM amXX amGG am_V am_W12 am_n259 am_m259 am_h259 am_g259 = true := by decide +kernel
theorem am_f260 : fM amXX amGG am_V am_W12 am_n260 am_m260 am_h260 am_g260 = true := by decide +kernel
theorem am_f261 : fM amXX amGG am_V am_W12 am_n261 am_m261 am_h261 am_g261 = true := by decide +kernel
theorem am_f262 : fM amXX amGG am_V am_W12 am_n262 am_m262 am_h262 am_g262 = true := by decide +kernel
theorem am_f263 : fM amXX amGG am_V am_W12 am_n263 am_m263 am_h263 am_g263 = true := by decide +kernel
theorem am_f264 : fM amXX amGG am_V am_W12 am_n264 am_m264 am_h264 am_g264 = true := by decide +kernel
theorem am_f265 : fM amXX amGG am_V am_W12 am_n265 am_m265 am_h265 am_g265 = true := by decide +kernel
theorem am_f266 : fM amXX amGG am_V am_W12 am_n266 am_m266 am_h266 am_g266 = true := by decide +kernel
theorem am_f267 : fM amXX amGG am_V am_W12 am_n267 am_m267 am_h267 am_g267 = true := by decide +kernel
theorem am_f268 : fM amXX amGG am_V am_W12 am_n268 am_m268 am_h268 am_g268 = true := by decide +kernel
theorem am_f269 : fM amXX amGG am_V am_W12 am_n269 am_m269 am_h269 am_g269 = true := by decide +kernel
theorem am_f270 : fM amXX amGG am_V am_W12 am_n270 am_m270 am_h270 am_g270 = true := by decide +kernel
theorem am_f271 : fM amXX amGG am_V am_W12 am_n271 am_m271 am_h271 am_g271 = true := by decide +kernel
theorem am_f272 : fM amXX amGG am_V am_W12 am_n272 am_m272 am_h272 am_g272 = true := by decide +kernel
theorem am_f273 : fM amXX amGG am_V am_W12 am_n273 am_m273 am_h273 am_g273 = true := by decide +kernel
theorem am_f274 : fM amXX amGG am_V am_W12 am_n274 am_m274 am_h274 am_g274 = true := by decide +kernel
theorem am_f275 : fM amXX amGG am_V am_W12 am_n275 am_m275 am_h275 am_g275 = true := by decide +kernel
theorem am_f276 : fM amXX amGG am_V am_W12 am_n276 am_m276 am_h276 am_g276 = true := by decide +kernel
theorem am_f277 : fM amXX amGG am_V am_W12 am_n277 am_m277 am_h277 am_g277 = true := by decide +kernel
theorem am_f278 : fM amXX amGG am_V am_W12 am_n278 am_m278 am_h278 am_g278 = true := by decide +kernel
theorem am_f279 : fM amXX amGG am_V am_W12 am_n279 am_m279 am_h279 am_g279 = true := by decide +kernel
theorem am_f280 : fM amXX amGG am_V am_W12 am_n280 am_m280 am_h280 am_g280 = true := by decide +kernel
theorem am_f281 : fM amXX amGG am_V am_W12 am_n281 am_m281 am_h281 am_g281 = true := by decide +kernel
theorem am_f282 : fM amXX amGG am_V am_W12 am_n282 am_m282 am_h282 am_g282 = true := by decide +kernel
theorem am_f283 : fM amXX amGG am_V am_W12 am_n283 am_m283 am_h283 am_g283 = true := by decide +kernel
theorem am_f284 : fM amXX amGG am_V am_W12 am_n284 am_m284 am_h284 am_g284 = true := by decide +kernel
theorem am_f285 : fM amXX amGG am_V am_W12 am_n285 am_m285 am_h285 am_g285 = true := by decide +kernel
theorem am_f286 : fM amXX amGG am_V am_W12 am_n286 am_m286 am_h286 am_g286 = true := by decide +kernel
theorem am_f287 : fM amXX amGG am_V am_W12 am_n287 am_m287 am_h287 am_g287 = true := by decide +kernel
theorem am_t4 : ∀ t ∈ [(am_n192, am_m192), (am_n193, am_m193), (am_n194, am_m194), (am_n0, am_m0), (am_n196, am_m196), (am_n197, am_m197), (am_n198, am_m198), (am_n199, am_m199), (am_n200, am_m200), (am_n201, am_m201), (am_n202, am_m202), (am_n203, am_m203), (am_n204, am_m204), (am_n205, am_m205), (am_n206, am_m206), (am_n207, am_m207), (am_n208, am_m208), (am_n209, am_m209), (am_n210, am_m210), (am_n211, am_m211), (am_n212, am_m212), (am_n213, am_m213), (am_n214, am_m214), (am_n215, am_m215), (am_n216, am_m216), (am_n217, am_m217), (am_n218, am_m218), (am_n219, am_m219), (am_n220, am_m220), (am_n221, am_m221), (am_n222, am_m222), (am_n223, am_m223), (am_n224, am_m224), (am_n225, am_m225), (am_n226, am_m226), (am_n227, am_m227), (am_n228, am_m228), (am_n229, am_m229), (am_n230, am_m230), (am_n231, am_m231), (am_n232, am_m232), (am_n233, am_m233), (am_n234, am_m234), (am_n235, am_m235), (am_n236, am_m236), (am_n237, am_m237), (am_n238, am_m238), (am_n239, am_m239)], amMk amGG amXX t.1 t.2 := by
  intro t ht
  simp only [List.mem_cons, List.not_mem_nil, or_false] at ht
  rcases ht with rfl | rfl | rfl | rfl | rfl | rfl | rfl | rfl | rfl | rfl | rfl | rfl | rfl | rfl | rfl | rfl | rfl | rfl | rfl | rfl | rfl | rfl | rfl | rfl | rfl | rfl | rfl | rfl | rfl | rfl | rfl | rfl | rfl | rfl | rfl | rfl | rfl | rfl | rfl | rfl | rfl | rfl | rfl | rfl | rfl | rfl | rfl | rfl
  · exact fM_s am_zz am_rq (o := 11) rfl am_v am_w11 am_f192
  · exact fM_s am_zz am_rq (o := 11) rfl am_v am_w11 am_f193
  · exact fM_s am_zz am_rq (o := 12) rfl am_v am_w12 am_f194
  · exact fM_s am_zz am_rq (o := 0) rfl am_v am_w0 am_f0
  · exact fM_s am_zz am_rq (o := 12) rfl am_v am_w12 am_f196
  · exact fM_s am_zz am_rq (o := 12) rfl am_v am_w12 am_f197
  · exact fM_s am_zz am_rq (o := 12) rfl am_v am_w12 am_f198
  · exact fM_s am_zz am_rq (o := 12) rfl am_v am_w12 am_f199
  · exact fM_s am_zz am_rq (o := 12) rfl am_v am_w12 am_f200
  · exact fM_s am_zz am_rq (o := 12) rfl am_v am_w12 am_f201
  · exact fM_s am_zz am_rq (o := 12) rfl am_v am_w12 am_f202
  · exact fM_s am_zz am_rq (o := 12) rfl am_v am_w12 am_f203
  · exact fM_s am_zz am_rq (o := 12) rfl am_v am_w12 am_f204
  · exact fM_s am_zz am_rq (o := 12) rfl am_v am_w12 am_f205
  · exact fM_s am_zz am_rq (o := 12) rfl am_v am_w12 am_f206
  · exact fM_s am_zz am_rq (o := 12) rfl am_v am_w12 am_f207
  · exact fM_s am_zz am_rq (o := 12) rfl am_v am_w12 am_f208
  · exact fM_s am_zz am_rq (o := 12) rfl am_v am_w12 am_f209
  · exact fM_s am_zz am_rq (o := 12) rfl am_v am_w12 am_f210
  · exact fM_s am_zz am_rq (o := 12) rfl am_v am_w12 am_f211
  · exact fM_s am_zz am_rq (o := 12) rfl am_v am_w12 am_f212
  · exact fM_s am_zz am_rq (o := 12) rfl am_v am_w12 am_f213
  · exact fM_s am_zz am_rq (o := 12) rfl am_v am_w12 am_f214
  · exact fM_s am_zz am_rq (o := 12) rfl am_v am_w12 am_f215
  · exact fM_s am_zz am_rq (o := 12) rfl am_v am_w12 am_f216
  · exact fM_s am_zz am_rq (o := 12) rfl am_v am_w12 am_f217
  · exact fM_s am_zz am_rq (o := 12) rfl am_v am_w12 am_f218
  · exact fM_s am_zz am_rq (o := 12) rfl am_v am_w12 am_f219
  · exact fM_s am_zz am_rq (o := 12) rfl am_v am_w12 am_f220
  · exact fM_s am_zz am_rq (o := 12) rfl am_v am_w12 am_f221
  · exact fM_s am_zz am_rq (o := 12) rfl am_v am_w12 am_f222
  · exact fM_s am_zz am_rq (o := 12) rfl am_v am_w12 am_f223
  · exact fM_s am_zz am_rq (o := 12) rfl am_v am_w12 am_f224
  · exact fM_s am_zz am_rq (o := 12) rfl am_v am_w12 am_f225
  · exact fM_s am_zz am_rq (o := 12) rfl am_v am_w12 am_f226
  · exact fM_s am_zz am_rq (o := 12) rfl am_v am_w12 am_f227
  · exact fM_s am_zz am_rq (o := 12) rfl am_v am_w12 am_f228
  · exact fM_s am_zz am_rq (o := 12) rfl am_v am_w12 am_f229
  · exact fM_s am_zz am_rq (o := 12) rfl am_v am_w12 am_f230
  · exact fM_s am_zz am_rq (o := 12) rfl am_v am_w12 am_f231
  · exact fM_s am_zz am_rq (o := 12) rfl am_v am_w12 am_f232
  · exact fM_s am_zz am_rq (o := 12) rfl am_v am_w12 am_f233
  · exact fM_s am_zz am_rq (o := 12) rfl am_v am_w12 am_f234
  · exact fM_s am_zz am_rq (o := 12) rfl am_v am_w12 am_f235
  · exact fM_s am_zz am_rq (o := 12) rfl am_v am_w12 am_f236
  · exact fM_s am_zz am_rq (o := 12) rfl am_v am_w12 am_f237
  · exact fM_s am_zz am_rq (o := 12) rfl am_v am_w12 am_f238
  · exact fM_s am_zz am_rq (o := 12) rfl am_v am_w12 am_f239
theorem am_t5 : ∀ t ∈ [(am_n240, am_m240), (am_n241, am_m241), (am_n242, am_m242), (am_n243, am_m243), (am_n244, am_m244), (am_n245, am_m245), (am_n246, am_m246), (am_n247, am_m247), (am_n248, am_m248), (am_n249, am_m249), (am_n250, am_m250), (am_n251, am_m251), (am_n252, am_m252), (am_n253, am_m253), (am_n254, am_m254), (am_n255, am_m255), (am_n256, am_m256), (am_n257, am_m257), (am_n258, am_m258), (am_n259, am_m259), (am_n260, am_m260), (am_n261, am_m261), (am_n262, am_m262), (am_n263, am_m263), (am_n264, am_m264), (am_n265, am_m265), (am_n266, am_m266), (am_n267, am_m267), (am_n268, am_m268), (am_n269, am_m269), (am_n270, am_m270), (am_n271, am_m271), (am_n272, am_m272), (am_n273, am_m273), (am_n274, am_m274), (am_n275, am_m275), (am_n276, am_m276), (am_n277, am_m277), (am_n278, am_m278), (am_n279, am_m279), (am_n280, am_m280), (am_n281, am_m281), (am_n282, am_m282), (am_n283, am_m283), (am_n284, am_m284), (am_n285, am_m285), (am_n286, am_m286), (am_n287, am_m287)], amMk amGG amXX t.1 t.2 := by
  intro t ht
  simp only [List.mem_cons, List.not_mem_nil, or_false] at ht
  rcases ht with rfl | rfl | rfl | rfl | rfl | rfl | rfl | rfl | rfl | rfl | rfl | rfl | rfl | rfl | rfl | rfl | rfl | rfl | rfl | rfl | rfl | rfl | rfl | rfl | rfl | rfl | rfl | rfl | rfl | rfl | rfl | rfl | rfl | rfl | rfl | rfl | rfl | rfl | rfl | rfl | rfl | rfl | rfl | rfl | rfl | rfl | rfl | rfl
  · exact fM_s am_zz am_rq (o := 12) rfl am_v am_w12 am_f240
  · exact fM_s am_zz am_rq (o := 12) rfl am_v am_w12 am_f241
  · exact fM_s am_zz am_rq (o := 12) rfl am_v am_w12 am_f242
  · exact fM_s am_zz am_rq (o := 12) rfl am_v am_w12 am_f243
  · exact fM_s am_zz am_rq (o := 12) rfl am_v am_w12 am_f244
  · exact fM_s am_zz am_rq (o := 12) rfl am_v am_w12 am_f245
  · exact fM_s am_zz am_rq (o := 12) rfl am_v am_w12 am_f246
  · exact fM_s am_zz am_rq (o := 12) rfl am_v am_w12 am_f247
  · exact fM_s am_zz am_rq (o := 12) rfl am_v am_w12 am_f248
  · exact fM_s am_zz am_rq (o := 12) rfl am_v am_w12 am_f249
  · exact fM_s am_zz am_rq (o := 12) rfl am_v am_w12 am_f250
  · exact fM_s am_zz am_rq (o := 12) rfl am_v am_w12 am_f251
  · exact fM_s am_zz am_rq (o := 12) rfl am_v am_w12 am_f252
  · exact fM_s am_zz am_rq (o := 12) rfl am_v am_w12 am_f253
  · exact fM_s am_zz am_rq (o := 12) rfl am_v am_w12 am_f254
  · exact fM_s am_zz am_rq (o := 12) rfl am_v am_w12 am_f255
  · exact fM_s am_zz am_rq (o := 12) rfl am_v am_w12 am_f256
  · exact fM_s am_zz am_rq (o := 12) rfl am_v am_w12 am_f257
  · exact fM_s am_zz am_rq (o := 12) rfl am_v am_w12 am_f258
  · exact fM_s am_zz am_rq (o := 12) rfl am_v am_w12 am_f259
  · exact fM_s am_zz am_rq (o := 12) rfl am_v am_w12 am_f260
  · exact fM_s am_zz am_rq (o := 12) rfl am_v am_w12 am_f261
  · exact fM_s am_zz am_rq (o := 12) rfl am_v am_w12 am_f262
  · exact fM_s am_zz am_rq (o := 12) rfl am_v am_w12 am_f263
  · exact fM_s am_zz am_rq (o := 12) rfl am_v am_w12 am_f264
  · exact fM_s am_zz am_rq (o := 12) rfl am_v am_w12 am_f265
  · exact fM_s am_zz am_rq (o := 12) rfl am_v am_w12 am_f266
  · exact fM_s am_zz am_rq (o := 12) rfl am_v am_w12 am_f267
  · exact fM_s am_zz am_rq (o := 12) rfl am_v am_w12 am_f268
  · exact fM_s am_zz am_rq (o := 12) rfl am_v am_w12 am_f269
  · exact fM_s am_zz am_rq (o := 12) rfl am_v am_w12 am_f270
  · exact fM_s am_zz am_rq (o := 12) rfl am_v am_w12 am_f271
  · exact fM_s am_zz am_rq (o := 12) rfl am_v am_w12 am_f272
  · exact fM_s am_zz am_rq (o := 12) rfl am_v am_w12 am_f273
  · exact fM_s am_zz am_rq (o := 12) rfl am_v am_w12 am_f274
  · exact fM_s am_zz am_rq (o := 12) rfl am_v am_w12 am_f275
  · exact fM_s am_zz am_rq (o := 12) rfl am_v am_w12 am_f276
  · exact fM_s am_zz am_rq (o := 12) rfl am_v am_w12 am_f277
  · exact fM_s am_zz am_rq (o := 12) rfl am_v am_w12 am_f278
  · exact fM_s am_zz am_rq (o := 12) rfl am_v am_w12 am_f279
  · exact fM_s am_zz am_rq (o := 12) rfl am_v am_w12 am_f280
  · exact fM_s am_zz am_rq (o := 12) rfl am_v am_w12 am_f281
  · exact fM_s am_zz am_rq (o := 12) rfl am_v am_w12 am_f282
  · exact fM_s am_zz am_rq (o := 12) rfl am_v am_w12 am_f283
  · exact fM_s am_zz am_rq (o := 12) rfl am_v am_w12 am_f284
  · exact fM_s am_zz am_rq (o := 12) rfl am_v am_w12 am_f285
  · exact fM_s am_zz am_rq (o := 12) rfl am_v am_w12 am_f286
  · exact fM_s am_zz am_rq (o := 12) rfl am_v am_w12 am_f287
end
/-! ##### 11.d.check ##### -/
section
/-! ===== the tables checked, 3 ===== -/
theorem am_f288 : fM amXX amGG am_V am_W12 am_n288 am_m288 am_h288 am_g288 = true := by decide +kernel
theorem am_f289 : fM amXX amGG am_V am_W12 am_n289 am_m289 am_h289 am_g289 = true := by decide +kernel
theorem am_f290 : fM amXX amGG am_V am_W12 am_n290 am_m290 am_h290 am_g290 = true := by decide +kernel
theorem am_f291 : fM amXX amGG am_V am_W12 am_n291 am_m291 am_h291 am_g291 = true := by decide +kernel
theorem am_f292 : fM amXX amGG am_V am_W12 am_n292 am_m292 am_h292 am_g292 = true := by decide +kernel
theorem am_f293 : fM amXX amGG am_V am_W12 am_n293 am_m293 am_h293 am_g293 = true := by decide +kernel
theorem am_f294 : fM amXX amGG am_V am_W12 am_n294 am_m294 am_h294 am_g294 = true := by decide +kernel
theorem am_f295 : fM amXX amGG am_V am_W12 am_n295 am_m295 am_h295 am_g295 = true := by decide +kernel
theorem am_f296 : fM amXX amGG am_V am_W12 am_n296 am_m296 am_h296 am_g296 = true := by decide +kernel
theorem am_f297 : fM amXX amGG am_V am_W12 am_n297 am_m297 am_h297 am_g297 = true := by decide +kernel
theorem am_f298 : fM amXX amGG am_V am_W12 am_n298 am_m298 am_h298 am_g298 = true := by decide +kernel
theorem am_f299 : fM amXX amGG am_V am_W12 am_n299 am_m299 am_h299 am_g299 = true := by decide +kernel
theorem am_f300 : fM amXX amGG am_V am_W12 am_n300 am_m300 am_h300 am_g300 = true := by decide +kernel
theorem am_f301 : fM amXX amGG am_V am_W12 am_n301 am_m301 am_h301 am_g301 = true := by decide +kernel
theorem am_f302 : fM amXX amGG am_V am_W12 am_n302 am_m302 am_h302 am_g302 = true := by decide +kernel
theorem am_f303 : fM amXX amGG am_V am_W12 am_n303 am_m303 am_h303 am_g303 = true := by decide +kernel
theorem am_f304 : fM amXX amGG am_V am_W12 am_n304 am_m304 am_h304 am_g304 = true := by decide +kernel
theorem am_f305 : fM amXX amGG am_V am_W12 am_n305 am_m305 am_h305 am_g305 = true := by decide +kernel
theorem am_f306 : fM amXX amGG am_V am_W12 am_n306 am_m306 am_h306 am_g306 = true := by decide +kernel
theorem am_f307 : fM amXX amGG am_V am_W12 am_n307 am_m307 am_h307 am_g307 = true := by decide +kernel
theorem am_f308 : fM amXX amGG am_V am_W12 am_n308 am_m308 am_h308 am_g308 = true := by decide +kernel
theorem am_f309 : fM amXX amGG am_V am_W12 am_n309 am_m309 am_h309 am_g309 = true := by decide +kernel
theorem am_f310 : fM amXX amGG am_V am_W12 am_n310 am_m310 am_h310 am_g310 = true := by decide +kernel
theorem am_f311 : fM amXX amGG am_V am_W12 am_n311 am_m311 am_h311 am_g311 = true := by decide +kernel
theorem am_f312 : fM amXX amGG am_V am_W12 am_n312 am_m312 am_h312 am_g312 = true := by decide +kernel
theorem am_f313 : fM amXX amGG am_V am_W12 am_n313 am_m313 am_h313 am_g313 = true := by decide +kernel
theorem am_f314 : fM amXX amGG am_V am_W12 am_n314 am_m314 am_h314 am_g314 = true := by decide +kernel
theorem am_f315 : fM amXX amGG am_V am_W12 am_n315 am_m315 am_h315 am_g315 = true := by decide +kernel
theorem am_f316 : fM amXX amGG am_V am_W12 am_n316 am_m316 am_h316 am_g316 = true := by decide +kernel
theorem am_f317 : fM amXX amGG am_V am_W12 am_n317 am_m317 am_h317 am_g317 = true := by decide +kernel
theorem am_f318 : fM amXX amGG am_V am_W12 am_n318 am_m318 am_h318 am_g318 = true := by decide +kernel
theorem am_f319 : fM amXX amGG am_V am_W12 am_n319 am_m319 am_h319 am_g319 = true := by decide +kernel
theorem am_f320 : fM amXX amGG am_V am_W12 am_n320 am_m320 am_h320 am_g320 = true := by decide +kernel
theorem am_f321 : fM amXX amGG am_V am_W12 am_n321 am_m321 am_h321 am_g321 = true := by decide +kernel
theorem am_f322 : fM amXX amGG am_V am_W12 am_n322 am_m322 am_h322 am_g322 = true := by decide +kernel
theorem am_f323 : fM amXX amGG am_V am_W12 am_n323 am_m323 am_h323 am_g323 = true := by decide +kernel
theorem am_f324 : fM amXX amGG am_V am_W12 am_n324 am_m324 am_h324 am_g324 = true := by decide +kernel
theorem am_f325 : fM amXX amGG am_V am_W12 am_n325 am_m325 am_h325 am_g325 = true := by decide +kernel
theorem am_f326 : fM amXX amGG am_V am_W12 am_n326 am_m326 am_h326 am_g326 = true := by decide +kernel
theorem am_f327 : fM amXX amGG am_V am_W12 am_n327 am_m327 am_h327 am_g327 = true := by decide +kernel
theorem am_f328 : fM amXX amGG am_V am_W12 am_n328 am_m328 am_h328 am_g328 = true := by decide +kernel
theorem am_f329 : fM amXX amGG am_V am_W12 am_n329 am_m329 am_h329 am_g329 = true := by decide +kernel
theorem am_f330 : fM amXX amGG am_V am_W12 am_n330 am_m330 am_h330 am_g330 = true := by decide +kernel
theorem am_f331 : fM amXX amGG am_V am_W12 am_n331 am_m331 am_h331 am_g331 = true := by decide +kernel
theorem am_f332 : fM amXX amGG am_V am_W12 am_n332 am_m332 am_h332 am_g332 = true := by decide +kernel
theorem am_f333 : fM amXX amGG am_V am_W12 am_n333 am_m333 am_h333 am_g333 = true := by decide +kernel
theorem am_f334 : fM amXX amGG am_V am_W12 am_n334 am_m334 am_h334 am_g334 = true := by decide +kernel
theorem am_f335 : fM amXX amGG am_V am_W12 am_n335 am_m335 am_h335 am_g335 = true := by decide +kernel
theorem am_f336 : fM amXX amGG am_V am_W12 am_n336 am_m336 am_h336 am_g336 = true := by decide +kernel
theorem am_f337 : fM amXX amGG am_V am_W12 am_n337 am_m337 am_h337 am_g337 = true := by decide +kernel
theorem am_f338 : fM amXX amGG am_V am_W12 am_n338 am_m338 am_h338 am_g338 = true := by decide +kernel
theorem am_f339 : fM amXX amGG am_V am_W12 am_n339 am_m339 am_h339 am_g339 = true := by decide +kernel
theorem am_f340 : fM amXX amGG am_V am_W12 am_n340 am_m340 am_h340 am_g340 = true := by decide +kernel
theorem am_f341 : fM amXX amGG am_V am_W12 am_n341 am_m341 am_h341 am_g341 = true := by decide +kernel
theorem am_f342 : fM amXX amGG am_V am_W13 am_n342 am_m342 am_h342 am_g342 = true := by decide +kernel
theorem am_f343 : fM amXX amGG am_V am_W13 am_n343 am_m343 am_h343 am_g343 = true := by decide +kernel
theorem am_f344 : fM amXX amGG am_V am_W14 am_n344 am_m344 am_h344 am_g344 = true := by decide +kernel
theorem am_f345 : fM amXX amGG am_V am_W15 am_n345 am_m345 am_h345 am_g345 = true := by decide +kernel
theorem am_f346 : fM amXX amGG am_V am_W15 am_n346 am_m346 am_h346 am_g346 = true := by decide +kernel
theorem am_f347 : fM amXX amGG am_V am_W15 am_n347 am_m347 am_h347 am_g347 = true := by decide +kernel
theorem am_f348 : fM amXX amGG am_V am_W16 am_n348 am_m348 am_h348 am_g348 = true := by decide +kernel
theorem am_f349 : fM amXX amGG am_V am_W16 am_n349 am_m349 am_h349 am_g349 = true := by decide +kernel
theorem am_f350 : fM amXX amGG am_V am_W16 am_n350 am_m350 am_h350 am_g350 = true := by decide +kernel
theorem am_f351 : fM amXX amGG am_V am_W16 am_n351 am_m351 am_h351 am_g351 = true := by decide +kernel
theorem am_f352 : fM amXX amGG am_V am_W16 am_n352 am_m352 am_h352 am_g352 = true := by decide +kernel
theorem am_f353 : fM amXX amGG am_V am_W16 am_n353 am_m353 am_h353 am_g353 = true := by decide +kernel
theorem am_f354 : fM amXX amGG am_V am_W16 am_n354 am_m354 am_h354 am_g354 = true := by decide +kernel
theorem am_f355 : fM amXX amGG am_V am_W16 am_n355 am_m355 am_h355 am_g355 = true := by decide +kernel
theorem am_f356 : fM amXX amGG am_V am_W16 am_n356 am_m356 am_h356 am_g356 = true := by decide +kernel
theorem am_f357 : fM amXX amGG am_V am_W16 am_n357 am_m357 am_h357 am_g357 = true := by decide +kernel
theorem am_f358 : fM amXX amGG am_V am_W16 am_n358 am_m358 am_h358 am_g358 = true := by decide +kernel
theorem am_f359 : fM amXX amGG am_V am_W16 am_n359 am_m359 am_h359 am_g359 = true := by decide +kernel
theorem am_f360 : fM amXX amGG am_V am_W16 am_n360 am_m360 am_h360 am_g360 = true := by decide +kernel
theorem am_f361 : fM amXX amGG am_V am_W16 am_n361 am_m361 am_h361 am_g361 = true := by decide +kernel
theorem am_f362 : fM amXX amGG am_V am_W16 am_n362 am_m362 am_h362 am_g362 = true := by decide +kernel
theorem am_f363 : fM amXX amGG am_V am_W16 am_n363 am_m363 am_h363 am_g363 = true := by decide +kernel
theorem am_f364 : fM amXX amGG am_V am_W16 am_n364 am_m364 am_h364 am_g364 = true := by decide +kernel
theorem am_f365 : fM amXX amGG am_V am_W16 am_n365 am_m365 am_h365 am_g365 = true := by decide +kernel
theorem am_f366 : fM amXX amGG am_V am_W16 am_n366 am_m366 am_h366 am_g366 = true := by decide +kernel
theorem am_f367 : fM amXX amGG am_V am_W16 am_n367 am_m367 am_h367 am_g367 = true := by decide +kernel
theorem am_f368 : fM amXX amGG am_V am_W16 am_n368 am_m368 am_h368 am_g368 = true := by decide +kernel
theorem am_f369 : fM amXX amGG am_V am_W16 am_n369 am_m369 am_h369 am_g369 = true := by decide +kernel
theorem am_f370 : fM amXX amGG am_V am_W16 am_n370 am_m370 am_h370 am_g370 = true := by decide +kernel
theorem am_f371 : fM amXX amGG am_V am_W16 am_n371 am_m371 am_h371 am_g371 = true := by decide +kernel
theorem am_f372 : fM amXX amGG am_V am_W16 am_n372 am_m372 am_h372 am_g372 = true := by decide +kernel
theorem am_f373 : fM amXX amGG am_V am_W16 am_n373 am_m373 am_h373 am_g373 = true := by decide +kernel
theorem am_f374 : fM amXX amGG am_V am_W16 am_n374 am_m374 am_h374 am_g374 = true := by decide +kernel
theorem am_f375 : fM amXX amGG am_V am_W16 am_n375 am_m375 am_h375 am_g375 = true := by decide +kernel
theorem am_f376 : fM amXX amGG am_V am_W16 am_n376 am_m376 am_h376 am_g376 = true := by decide +kernel
theorem am_f377 : fM amXX amGG am_V am_W16 am_n377 am_m377 am_h377 am_g377 = true := by decide +kernel
theorem am_f378 : fM amXX amGG am_V am_W16 am_n378 am_m378 am_h378 am_g378 = true := by decide +kernel
theorem am_f379 : fM amXX amGG am_V am_W16 am_n379 am_m379 am_h379 am_g379 = true := by decide +kernel
theorem am_f380 : fM amXX amGG am_V am_W16 am_n380 am_m380 am_h380 am_g380 = true := by decide +kernel
theorem am_f381 : fM amXX amGG am_V am_W16 am_n381 am_m381 am_h381 am_g381 = true := by decide +kernel
theorem am_f382 : fM amXX amGG am_V am_W16 am_n382 am_m382 am_h382 am_g382 = true := by decide +kernel
theorem am_f383 : fM amXX amGG am_V am_W16 am_n383 am_m383 am_h383 am_g383 = true := by decide +kernel
theorem am_t6 : ∀ t ∈ [(am_n288, am_m288), (am_n289, am_m289), (am_n290, am_m290), (am_n291, am_m291), (am_n292, am_m292), (am_n293, am_m293), (am_n294, am_m294), (am_n295, am_m295), (am_n296, am_m296), (am_n297, am_m297), (am_n298, am_m298), (am_n299, am_m299), (am_n300, am_m300), (am_n301, am_m301), (am_n302, am_m302), (am_n303, am_m303), (am_n304, am_m304), (am_n305, am_m305), (am_n306, am_m306), (am_n307, am_m307), (am_n308, am_m308), (am_n309, am_m309), (am_n310, am_m310), (am_n311, am_m311), (am_n312, am_m312), (am_n313, am_m313), (am_n314, am_m314), (am_n315, am_m315), (am_n316, am_m316), (am_n317, am_m317), (am_n318, am_m318), (am_n319, am_m319), (am_n320, am_m320), (am_n321, am_m321), (am_n322, am_m322), (am_n323, am_m323), (am_n324, am_m324), (am_n325, am_m325), (am_n326, am_m326), (am_n327, am_m327), (am_n328, am_m328), (am_n329, am_m329), (am_n330, am_m330), (am_n331, am_m331), (am_n332, am_m332), (am_n333, am_m333), (am_n334, am_m334), (am_n335, am_m335)], amMk amGG amXX t.1 t.2 := by
  intro t ht
  simp only [List.mem_cons, List.not_mem_nil, or_false] at ht
  rcases ht with rfl | rfl | rfl | rfl | rfl | rfl | rfl | rfl | rfl | rfl | rfl | rfl | rfl | rfl | rfl | rfl | rfl | rfl | rfl | rfl | rfl | rfl | rfl | rfl | rfl | rfl | rfl | rfl | rfl | rfl | rfl | rfl | rfl | rfl | rfl | rfl | rfl | rfl | rfl | rfl | rfl | rfl | rfl | rfl | rfl | rfl | rfl | rfl
  · exact fM_s am_zz am_rq (o := 12) rfl am_v am_w12 am_f288
  · exact fM_s am_zz am_rq (o := 12) rfl am_v am_w12 am_f289
  · exact fM_s am_zz am_rq (o := 12) rfl am_v am_w12 am_f290
  · exact fM_s am_zz am_rq (o := 12) rfl am_v am_w12 am_f291
  · exact fM_s am_zz am_rq (o := 12) rfl am_v am_w12 am_f292
  · exact fM_s am_zz am_rq (o := 12) rfl am_v am_w12 am_f293
  · exact fM_s am_zz am_rq (o := 12) rfl am_v am_w12 am_f294
  · exact fM_s am_zz am_rq (o := 12) rfl am_v am_w12 am_f295
  · exact fM_s am_zz am_rq (o := 12) rfl am_v am_w12 am_f296
  · exact fM_s am_zz am_rq (o := 12) rfl am_v am_w12 am_f297
  · exact fM_s am_zz am_rq (o := 12) rfl am_v am_w12 am_f298
  · exact fM_s am_zz am_rq (o := 12) rfl am_v am_w12 am_f299
  · exact fM_s am_zz am_rq (o := 12) rfl am_v am_w12 am_f300
  · exact fM_s am_zz am_rq (o := 12) rfl am_v am_w12 am_f301
  · exact fM_s am_zz am_rq (o := 12) rfl am_v am_w12 am_f302
  · exact fM_s am_zz am_rq (o := 12) rfl am_v am_w12 am_f303
  · exact fM_s am_zz am_rq (o := 12) rfl am_v am_w12 am_f304
  · exact fM_s am_zz am_rq (o := 12) rfl am_v am_w12 am_f305
  · exact fM_s am_zz am_rq (o := 12) rfl am_v am_w12 am_f306
  · exact fM_s am_zz am_rq (o := 12) rfl am_v am_w12 am_f307
  · exact fM_s am_zz am_rq (o := 12) rfl am_v am_w12 am_f308
  · exact fM_s am_zz am_rq (o := 12) rfl am_v am_w12 am_f309
  · exact fM_s am_zz am_rq (o := 12) rfl am_v am_w12 am_f310
  · exact fM_s am_zz am_rq (o := 12) rfl am_v am_w12 am_f311
  · exact fM_s am_zz am_rq (o := 12) rfl am_v am_w12 am_f312
  · exact fM_s am_zz am_rq (o := 12) rfl am_v am_w12 am_f313
  · exact fM_s am_zz am_rq (o := 12) rfl am_v am_w12 am_f314
  · exact fM_s am_zz am_rq (o := 12) rfl am_v am_w12 am_f315
  · exact fM_s am_zz am_rq (o := 12) rfl am_v am_w12 am_f316
  · exact fM_s am_zz am_rq (o := 12) rfl am_v am_w12 am_f317
  · exact fM_s am_zz am_rq (o := 12) rfl am_v am_w12 am_f318
  · exact fM_s am_zz am_rq (o := 12) rfl am_v am_w12 am_f319
  · exact fM_s am_zz am_rq (o := 12) rfl am_v am_w12 am_f320
  · exact fM_s am_zz am_rq (o := 12) rfl am_v am_w12 am_f321
  · exact fM_s am_zz am_rq (o := 12) rfl am_v am_w12 am_f322
  · exact fM_s am_zz am_rq (o := 12) rfl am_v am_w12 am_f323
  · exact fM_s am_zz am_rq (o := 12) rfl am_v am_w12 am_f324
  · exact fM_s am_zz am_rq (o := 12) rfl am_v am_w12 am_f325
  · exact fM_s am_zz am_rq (o := 12) rfl am_v am_w12 am_f326
  · exact fM_s am_zz am_rq (o := 12) rfl am_v am_w12 am_f327
  · exact fM_s am_zz am_rq (o := 12) rfl am_v am_w12 am_f328
  · exact fM_s am_zz am_rq (o := 12) rfl am_v am_w12 am_f329
  · exact fM_s am_zz am_rq (o := 12) rfl am_v am_w12 am_f330
  · exact fM_s am_zz am_rq (o := 12) rfl am_v am_w12 am_f331
  · exact fM_s am_zz am_rq (o := 12) rfl am_v am_w12 am_f332
  · exact fM_s am_zz am_rq (o := 12) rfl am_v am_w12 am_f333
  · exact fM_s am_zz am_rq (o := 12) rfl am_v am_w12 am_f334
  · exact fM_s am_zz am_rq (o := 12) rfl am_v am_w12 am_f335
theorem am_t7 : ∀ t ∈ [(am_n336, am_m336), (am_n337, am_m337), (am_n338, am_m338), (am_n339, am_m339), (am_n340, am_m340), (am_n341, am_m341), (am_n342, am_m342), (am_n343, am_m343), (am_n344, am_m344), (am_n345, am_m345), (am_n346, am_m346), (am_n347, am_m347), (am_n348, am_m348), (am_n349, am_m349), (am_n350, am_m350), (am_n351, am_m351), (am_n352, am_m352), (am_n353, am_m353), (am_n354, am_m354), (am_n355, am_m355), (am_n356, am_m356), (am_n357, am_m357), (am_n358, am_m358), (am_n359, am_m359), (am_n360, am_m360), (am_n361, am_m361), (am_n362, am_m362), (am_n363, am_m363), (am_n364, am_m364), (am_n365, am_m365), (am_n366, am_m366), (am_n367, am_m367), (am_n368, am_m368), (am_n369, am_m369), (am_n370, am_m370), (am_n371, am_m371), (am_n372, am_m372), (am_n373, am_m373), (am_n374, am_m374), (am_n375, am_m375), (am_n376, am_m376), (am_n377, am_m377), (am_n378, am_m378), (am_n379, am_m379), (am_n380, am_m380), (am_n381, am_m381), (am_n382, am_m382), (am_n383, am_m383)], amMk amGG amXX t.1 t.2 := by
  intro t ht
  simp only [List.mem_cons, List.not_mem_nil, or_false] at ht
  rcases ht with rfl | rfl | rfl | rfl | rfl | rfl | rfl | rfl | rfl | rfl | rfl | rfl | rfl | rfl | rfl | rfl | rfl | rfl | rfl | rfl | rfl | rfl | rfl | rfl | rfl | rfl | rfl | rfl | rfl | rfl | rfl | rfl | rfl | rfl | rfl | rfl | rfl | rfl | rfl | rfl | rfl | rfl | rfl | rfl | rfl | rfl | rfl | rfl
  · exact fM_s am_zz am_rq (o := 12) rfl am_v am_w12 am_f336
  · exact fM_s am_zz am_rq (o := 12) rfl am_v am_w12 am_f337
  · exact fM_s am_zz am_rq (o := 12) rfl am_v am_w12 am_f338
  · exact fM_s am_zz am_rq (o := 12) rfl am_v am_w12 am_f339
  · exact fM_s am_zz am_rq (o := 12) rfl am_v am_w12 am_f340
  · exact fM_s am_zz am_rq (o := 12) rfl am_v am_w12 am_f341
  · exact fM_s am_zz am_rq (o := 13) rfl am_v am_w13 am_f342
  · exact fM_s am_zz am_rq (o := 13) rfl am_v am_w13 am_f343
  · exact fM_s am_zz am_rq (o := 14) rfl am_v am_w14 am_f344
  · exact fM_s am_zz am_rq (o := 15) rfl am_v am_w15 am_f345
  · exact fM_s am_zz am_rq (o := 15) rfl am_v am_w15 am_f346
  · exact fM_s am_zz am_rq (o := 15) rfl am_v am_w15 am_f347
  · exact fM_s am_zz am_rq (o := 16) rfl am_v am_w16 am_f348
  · exact fM_s am_zz am_rq (o := 16) rfl am_v am_w16 am_f349
  · exact fM_s am_zz am_rq (o := 16) rfl am_v am_w16 am_f350
  · exact fM_s am_zz am_rq (o := 16) rfl am_v am_w16 am_f351
  · exact fM_s am_zz am_rq (o := 16) rfl am_v am_w16 am_f352
  · exact fM_s am_zz am_rq (o := 16) rfl am_v am_w16 am_f353
  · exact fM_s am_zz am_rq (o := 16) rfl am_v am_w16 am_f354
  · exact fM_s am_zz am_rq (o := 16) rfl am_v am_w16 am_f355
  · exact fM_s am_zz am_rq (o := 16) rfl am_v am_w16 am_f356
  · exact fM_s am_zz am_rq (o := 16) rfl am_v am_w16 am_f357
  · exact fM_s am_zz am_rq (o := 16) rfl am_v am_w16 am_f358
  · exact fM_s am_zz am_rq (o := 16) rfl am_v am_w16 am_f359
  · exact fM_s am_zz am_rq (o := 16) rfl am_v am_w16 am_f360
  · exact fM_s am_zz am_rq (o := 16) rfl am_v am_w16 am_f361
  · exact fM_s am_zz am_rq (o := 16) rfl am_v am_w16 am_f362
  · exact fM_s am_zz am_rq (o := 16) rfl am_v am_w16 am_f363
  · exact fM_s am_zz am_rq (o := 16) rfl am_v am_w16 am_f364
  · exact fM_s am_zz am_rq (o := 16) rfl am_v am_w16 am_f365
  · exact fM_s am_zz am_rq (o := 16) rfl am_v am_w16 am_f366
  · exact fM_s am_zz am_rq (o := 16) rfl am_v am_w16 am_f367
  · exact fM_s am_zz am_rq (o := 16) rfl am_v am_w16 am_f368
  · exact fM_s am_zz am_rq (o := 16) rfl am_v am_w16 am_f369
  · exact fM_s am_zz am_rq (o := 16) rfl am_v am_w16 am_f370
  · exact fM_s am_zz am_rq (o := 16) rfl am_v am_w16 am_f371
  · exact fM_s am_zz am_rq (o := 16) rfl am_v am_w16 am_f372
  · exact fM_s am_zz am_rq (o := 16) rfl am_v am_w16 am_f373
  · exact fM_s am_zz am_rq (o := 16) rfl am_v am_w16 am_f374
  · exact fM_s am_zz am_rq (o := 16) rfl am_v am_w16 am_f375
  · exact fM_s am_zz am_rq (o := 16) rfl am_v am_w16 am_f376
  · exact fM_s am_zz am_rq (o := 16) rfl am_v am_w16 am_f377
  · exact fM_s am_zz am_rq (o := 16) rfl am_v am_w16 am_f378
  · exact fM_s am_zz am_rq (o := 16) rfl am_v am_w16 am_f379
  · exact fM_s am_zz am_rq (o := 16) rfl am_v am_w16 am_f380
  · exact fM_s am_zz am_rq (o := 16) rfl am_v am_w16 am_f381
  · exact fM_s am_zz am_rq (o := 16) rfl am_v am_w16 am_f382
  · exact fM_s am_zz am_rq (o := 16) rfl am_v am_w16 am_f383
end
/-! ##### 11.e.check ##### -/
section
/-! ===== the tables checked, 4 ===== -/
theorem am_f384 : fM amXX amGG am_V am_W16 am_n384 am_m384 am_h384 am_g384 = true := by decide +kernel
theorem am_t8 : ∀ t ∈ [(am_n384, am_m384)], amMk amGG amXX t.1 t.2 := by
  intro t ht
  simp only [List.mem_cons, List.not_mem_nil, or_false] at ht
  rcases ht with rfl
  · exact fM_s am_zz am_rq (o := 16) rfl am_v am_w16 am_f384
end
/-! ##### 11.z.check ##### -/
section
/-! ===== the law's code checked ===== -/
theorem am_lL_0 : (fdrop am_nL.2.1.data.toList 0) = am_nL.2.1.data.toList.drop 0 := by simp only [fdrop_eq, List.drop_drop]
theorem am_fL_0 : fRowL amXX amGG am_V am_W16 am_nL am_mL am_mL_0 0 (fdrop am_nL.2.1.data.toList 0) am_hL_0 = true := by decide +kernel
theorem am_lL_1 : (fdrop (fdrop am_nL.2.1.data.toList 400) 233) = am_nL.2.1.data.toList.drop 633 := by simp only [fdrop_eq, List.drop_drop]
theorem am_fL_1 : fRowL amXX amGG am_V am_W16 am_nL am_mL am_mL_1 633 (fdrop (fdrop am_nL.2.1.data.toList 400) 233) am_hL_1 = true := by decide +kernel
theorem am_lL_2 : (fdrop (fdrop (fdrop am_nL.2.1.data.toList 400) 400) 200) = am_nL.2.1.data.toList.drop 1000 := by simp only [fdrop_eq, List.drop_drop]
theorem am_fL_2 : fRowL amXX amGG am_V am_W16 am_nL am_mL am_mL_2 1000 (fdrop (fdrop (fdrop am_nL.2.1.data.toList 400) 400) 200) am_hL_2 = true := by decide +kernel
theorem am_lL_3 : (fdrop (fdrop (fdrop (fdrop am_nL.2.1.data.toList 400) 400) 400) 163) = am_nL.2.1.data.toList.drop 1363 := by simp only [fdrop_eq, List.drop_drop]
theorem am_fL_3 : fRowL amXX amGG am_V am_W16 am_nL am_mL am_mL_3 1363 (fdrop (fdrop (fdrop (fdrop am_nL.2.1.data.toList 400) 400) 400) 163) am_hL_3 = true := by decide +kernel
theorem am_lL_4 : (fdrop (fdrop (fdrop (fdrop (fdrop am_nL.2.1.data.toList 400) 400) 400) 400) 117) = am_nL.2.1.data.toList.drop 1717 := by simp only [fdrop_eq, List.drop_drop]
theorem am_fL_4 : fRowL amXX amGG am_V am_W16 am_nL am_mL am_mL_4 1717 (fdrop (fdrop (fdrop (fdrop (fdrop am_nL.2.1.data.toList 400) 400) 400) 400) 117) am_hL_4 = true := by decide +kernel
theorem am_lL_5 : (fdrop (fdrop (fdrop (fdrop (fdrop (fdrop am_nL.2.1.data.toList 400) 400) 400) 400) 400) 111) = am_nL.2.1.data.toList.drop 2111 := by simp only [fdrop_eq, List.drop_drop]
theorem am_fL_5 : fRowL amXX amGG am_V am_W16 am_nL am_mL am_mL_5 2111 (fdrop (fdrop (fdrop (fdrop (fdrop (fdrop am_nL.2.1.data.toList 400) 400) 400) 400) 400) 111) am_hL_5 = true := by decide +kernel
theorem am_pL_0 : ∀ q ∈ am_mL_0, amEok amGG amXX am_nL am_mL q := fRowL_s (O := am_O) (R := am_R) (o := 16) (X := amXX) (G := amGG) (V := am_V) (W := am_W16) (N := am_nL) (M := am_mL) (cs := am_mL_0) (p := 0) (l := (fdrop am_nL.2.1.data.toList 0)) (hs := am_hL_0) am_zz am_rq rfl am_v am_w16 am_lL_0 am_fL_0
theorem am_pL_1 : ∀ q ∈ am_mL_1, amEok amGG amXX am_nL am_mL q := fRowL_s (O := am_O) (R := am_R) (o := 16) (X := amXX) (G := amGG) (V := am_V) (W := am_W16) (N := am_nL) (M := am_mL) (cs := am_mL_1) (p := 633) (l := (fdrop (fdrop am_nL.2.1.data.toList 400) 233)) (hs := am_hL_1) am_zz am_rq rfl am_v am_w16 am_lL_1 am_fL_1
theorem am_pL_2 : ∀ q ∈ am_mL_2, amEok amGG amXX am_nL am_mL q := fRowL_s (O := am_O) (R := am_R) (o := 16) (X := amXX) (G := amGG) (V := am_V) (W := am_W16) (N := am_nL) (M := am_mL) (cs := am_mL_2) (p := 1000) (l := (fdrop (fdrop (fdrop am_nL.2.1.data.toList 400) 400) 200)) (hs := am_hL_2) am_zz am_rq rfl am_v am_w16 am_lL_2 am_fL_2
theorem am_pL_3 : ∀ q ∈ am_mL_3, amEok amGG amXX am_nL am_mL q := fRowL_s (O := am_O) (R := am_R) (o := 16) (X := amXX) (G := amGG) (V := am_V) (W := am_W16) (N := am_nL) (M := am_mL) (cs := am_mL_3) (p := 1363) (l := (fdrop (fdrop (fdrop (fdrop am_nL.2.1.data.toList 400) 400) 400) 163)) (hs := am_hL_3) am_zz am_rq rfl am_v am_w16 am_lL_3 am_fL_3
theorem am_pL_4 : ∀ q ∈ am_mL_4, amEok amGG amXX am_nL am_mL q := fRowL_s (O := am_O) (R := am_R) (o := 16) (X := amXX) (G := amGG) (V := am_V) (W := am_W16) (N := am_nL) (M := am_mL) (cs := am_mL_4) (p := 1717) (l := (fdrop (fdrop (fdrop (fdrop (fdrop am_nL.2.1.data.toList 400) 400) 400) 400) 117)) (hs := am_hL_4) am_zz am_rq rfl am_v am_w16 am_lL_4 am_fL_4
theorem am_pL_5 : ∀ q ∈ am_mL_5, amEok amGG amXX am_nL am_mL q := fRowL_s (O := am_O) (R := am_R) (o := 16) (X := amXX) (G := amGG) (V := am_V) (W := am_W16) (N := am_nL) (M := am_mL) (cs := am_mL_5) (p := 2111) (l := (fdrop (fdrop (fdrop (fdrop (fdrop (fdrop am_nL.2.1.data.toList 400) 400) 400) 400) 400) 111)) (hs := am_hL_5) am_zz am_rq rfl am_v am_w16 am_lL_5 am_fL_5
theorem am_cL : ∀ q ∈ am_mL.1, amEok amGG amXX am_nL am_mL q := by
  intro q hq
  have hq : q ∈ am_mL_0 ++ (am_mL_1 ++ (am_mL_2 ++ (am_mL_3 ++ (am_mL_4 ++ (am_mL_5))))) := hq
  rcases List.mem_append.mp hq with hq | hq
  · exact am_pL_0 q hq
  rcases List.mem_append.mp hq with hq | hq
  · exact am_pL_1 q hq
  rcases List.mem_append.mp hq with hq | hq
  · exact am_pL_2 q hq
  rcases List.mem_append.mp hq with hq | hq
  · exact am_pL_3 q hq
  rcases List.mem_append.mp hq with hq | hq
  · exact am_pL_4 q hq
  exact am_pL_5 q hq
theorem am_kL : amMkB am_nL am_mL am_gL = true := by decide +kernel
theorem am_law : amMk amGG amXX am_nL am_mL := fMk_s am_kL am_cL
/-! ===== the tables checked: all ===== -/
theorem am_r0 : ∀ t ∈ [(am_n0, am_m0), (am_n1, am_m1), (am_n2, am_m2), (am_n3, am_m3), (am_n4, am_m4), (am_n5, am_m5), (am_n6, am_m6), (am_n7, am_m7), (am_n8, am_m8), (am_n9, am_m9), (am_n10, am_m10), (am_n11, am_m11), (am_n12, am_m12), (am_n13, am_m13), (am_n14, am_m14), (am_n15, am_m15)], amMk amGG amXX t.1 t.2 := fun t ht => am_t0 t (List.mem_of_mem_take (i := 16) ht)
theorem am_r1 : ∀ t ∈ [(am_n16, am_m16), (am_n17, am_m17), (am_n18, am_m18), (am_n19, am_m19), (am_n20, am_m20), (am_n21, am_m21), (am_n22, am_m22), (am_n23, am_m23), (am_n24, am_m24), (am_n25, am_m25), (am_n26, am_m26), (am_n27, am_m27), (am_n28, am_m28), (am_n29, am_m29), (am_n30, am_m30), (am_n31, am_m31)], amMk amGG amXX t.1 t.2 := fun t ht => am_t0 t (List.mem_of_mem_drop (i := 16) (List.mem_of_mem_take (i := 16) ht))
theorem am_r2 : ∀ t ∈ [(am_n32, am_m32), (am_n33, am_m33), (am_n34, am_m34), (am_n35, am_m35), (am_n36, am_m36), (am_n37, am_m37), (am_n38, am_m38), (am_n39, am_m39), (am_n40, am_m40), (am_n41, am_m41), (am_n42, am_m42), (am_n43, am_m43), (am_n44, am_m44), (am_n45, am_m45), (am_n46, am_m46), (am_n47, am_m47)], amMk amGG amXX t.1 t.2 := fun t ht => am_t0 t (List.mem_of_mem_drop (i := 32) (List.mem_of_mem_take (i := 16) ht))
theorem am_r3 : ∀ t ∈ [(am_n48, am_m48), (am_n49, am_m49), (am_n50, am_m50), (am_n51, am_m51), (am_n52, am_m52), (am_n53, am_m53), (am_n54, am_m54), (am_n55, am_m55), (am_n56, am_m56), (am_n57, am_m57), (am_n58, am_m58), (am_n59, am_m59), (am_n60, am_m60), (am_n61, am_m61), (am_n62, am_m62), (am_n63, am_m63)], amMk amGG amXX t.1 t.2 := fun t ht => am_t1 t (List.mem_of_mem_take (i := 16) ht)
theorem am_r4 : ∀ t ∈ [(am_n64, am_m64), (am_n65, am_m65), (am_n66, am_m66), (am_n67, am_m67), (am_n68, am_m68), (am_n69, am_m69), (am_n70, am_m70), (am_n71, am_m71), (am_n72, am_m72), (am_n73, am_m73), (am_n74, am_m74), (am_n75, am_m75), (am_n76, am_m76), (am_n77, am_m77), (am_n78, am_m78), (am_n79, am_m79)], amMk amGG amXX t.1 t.2 := fun t ht => am_t1 t (List.mem_of_mem_drop (i := 16) (List.mem_of_mem_take (i := 16) ht))
theorem am_r5 : ∀ t ∈ [(am_n80, am_m80), (am_n81, am_m81), (am_n82, am_m82), (am_n83, am_m83), (am_n84, am_m84), (am_n85, am_m85), (am_n86, am_m86), (am_n87, am_m87), (am_n88, am_m88), (am_n89, am_m89), (am_n90, am_m90), (am_n91, am_m91), (am_n92, am_m92), (am_n93, am_m93), (am_n94, am_m94), (am_n95, am_m95)], amMk amGG amXX t.1 t.2 := fun t ht => am_t1 t (List.mem_of_mem_drop (i := 32) (List.mem_of_mem_take (i := 16) ht))
theorem am_r6 : ∀ t ∈ [(am_n96, am_m96), (am_n97, am_m97), (am_n98, am_m98), (am_n99, am_m99), (am_n100, am_m100), (am_n101, am_m101), (am_n102, am_m102), (am_n103, am_m103), (am_n104, am_m104), (am_n105, am_m105), (am_n106, am_m106), (am_n107, am_m107), (am_n108, am_m108), (am_n109, am_m109), (am_n110, am_m110), (am_n111, am_m111)], amMk amGG amXX t.1 t.2 := fun t ht => am_t2 t (List.mem_of_mem_take (i := 16) ht)
theorem am_r7 : ∀ t ∈ [(am_n112, am_m112), (am_n113, am_m113), (am_n114, am_m114), (am_n115, am_m115), (am_n116, am_m116), (am_n117, am_m117), (am_n118, am_m118), (am_n119, am_m119), (am_n120, am_m120), (am_n121, am_m121), (am_n122, am_m122), (am_n123, am_m123), (am_n124, am_m124), (am_n125, am_m125), (am_n126, am_m126), (am_n127, am_m127)], amMk amGG amXX t.1 t.2 := fun t ht => am_t2 t (List.mem_of_mem_drop (i := 16) (List.mem_of_mem_take (i := 16) ht))
theorem am_r8 : ∀ t ∈ [(am_n128, am_m128), (am_n129, am_m129), (am_n130, am_m130), (am_n131, am_m131), (am_n132, am_m132), (am_n133, am_m133), (am_n134, am_m134), (am_n135, am_m135), (am_n136, am_m136), (am_n137, am_m137), (am_n138, am_m138), (am_n139, am_m139), (am_n140, am_m140), (am_n141, am_m141), (am_n142, am_m142), (am_n143, am_m143)], amMk amGG amXX t.1 t.2 := fun t ht => am_t2 t (List.mem_of_mem_drop (i := 32) (List.mem_of_mem_take (i := 16) ht))
theorem am_r9 : ∀ t ∈ [(am_n144, am_m144), (am_n145, am_m145), (am_n146, am_m146), (am_n147, am_m147), (am_n148, am_m148), (am_n149, am_m149), (am_n150, am_m150), (am_n151, am_m151), (am_n152, am_m152), (am_n153, am_m153), (am_n154, am_m154), (am_n155, am_m155), (am_n156, am_m156), (am_n157, am_m157), (am_n158, am_m158), (am_n159, am_m159)], amMk amGG amXX t.1 t.2 := fun t ht => am_t3 t (List.mem_of_mem_take (i := 16) ht)
theorem am_r10 : ∀ t ∈ [(am_n160, am_m160), (am_n161, am_m161), (am_n162, am_m162), (am_n163, am_m163), (am_n164, am_m164), (am_n165, am_m165), (am_n166, am_m166), (am_n167, am_m167), (am_n168, am_m168), (am_n169, am_m169), (am_n170, am_m170), (am_n171, am_m171), (am_n172, am_m172), (am_n173, am_m173), (am_n174, am_m174), (am_n175, am_m175)], amMk amGG amXX t.1 t.2 := fun t ht => am_t3 t (List.mem_of_mem_drop (i := 16) (List.mem_of_mem_take (i := 16) ht))
theorem am_r11 : ∀ t ∈ [(am_n176, am_m176), (am_n177, am_m177), (am_n178, am_m178), (am_n179, am_m179), (am_n180, am_m180), (am_n181, am_m181), (am_n182, am_m182), (am_n183, am_m183), (am_n184, am_m184), (am_n185, am_m185), (am_n186, am_m186), (am_n187, am_m187), (am_n188, am_m188), (am_n189, am_m189), (am_n190, am_m190), (am_n191, am_m191)], amMk amGG amXX t.1 t.2 := fun t ht => am_t3 t (List.mem_of_mem_drop (i := 32) (List.mem_of_mem_take (i := 16) ht))
theorem am_r12 : ∀ t ∈ [(am_n192, am_m192), (am_n193, am_m193), (am_n194, am_m194), (am_n0, am_m0), (am_n196, am_m196), (am_n197, am_m197), (am_n198, am_m198), (am_n199, am_m199), (am_n200, am_m200), (am_n201, am_m201), (am_n202, am_m202), (am_n203, am_m203), (am_n204, am_m204), (am_n205, am_m205), (am_n206, am_m206), (am_n207, am_m207)], amMk amGG amXX t.1 t.2 := fun t ht => am_t4 t (List.mem_of_mem_take (i := 16) ht)
theorem am_r13 : ∀ t ∈ [(am_n208, am_m208), (am_n209, am_m209), (am_n210, am_m210), (am_n211, am_m211), (am_n212, am_m212), (am_n213, am_m213), (am_n214, am_m214), (am_n215, am_m215), (am_n216, am_m216), (am_n217, am_m217), (am_n218, am_m218), (am_n219, am_m219), (am_n220, am_m220), (am_n221, am_m221), (am_n222, am_m222), (am_n223, am_m223)], amMk amGG amXX t.1 t.2 := fun t ht => am_t4 t (List.mem_of_mem_drop (i := 16) (List.mem_of_mem_take (i := 16) ht))
theorem am_r14 : ∀ t ∈ [(am_n224, am_m224), (am_n225, am_m225), (am_n226, am_m226), (am_n227, am_m227), (am_n228, am_m228), (am_n229, am_m229), (am_n230, am_m230), (am_n231, am_m231), (am_n232, am_m232), (am_n233, am_m233), (am_n234, am_m234), (am_n235, am_m235), (am_n236, am_m236), (am_n237, am_m237), (am_n238, am_m238), (am_n239, am_m239)], amMk amGG amXX t.1 t.2 := fun t ht => am_t4 t (List.mem_of_mem_drop (i := 32) (List.mem_of_mem_take (i := 16) ht))
theorem am_r15 : ∀ t ∈ [(am_n240, am_m240), (am_n241, am_m241), (am_n242, am_m242), (am_n243, am_m243), (am_n244, am_m244), (am_n245, am_m245), (am_n246, am_m246), (am_n247, am_m247), (am_n248, am_m248), (am_n249, am_m249), (am_n250, am_m250), (am_n251, am_m251), (am_n252, am_m252), (am_n253, am_m253), (am_n254, am_m254), (am_n255, am_m255)], amMk amGG amXX t.1 t.2 := fun t ht => am_t5 t (List.mem_of_mem_take (i := 16) ht)
theorem am_r16 : ∀ t ∈ [(am_n256, am_m256), (am_n257, am_m257), (am_n258, am_m258), (am_n259, am_m259), (am_n260, am_m260), (am_n261, am_m261), (am_n262, am_m262), (am_n263, am_m263), (am_n264, am_m264), (am_n265, am_m265), (am_n266, am_m266), (am_n267, am_m267), (am_n268, am_m268), (am_n269, am_m269), (am_n270, am_m270), (am_n271, am_m271)], amMk amGG amXX t.1 t.2 := fun t ht => am_t5 t (List.mem_of_mem_drop (i := 16) (List.mem_of_mem_take (i := 16) ht))
theorem am_r17 : ∀ t ∈ [(am_n272, am_m272), (am_n273, am_m273), (am_n274, am_m274), (am_n275, am_m275), (am_n276, am_m276), (am_n277, am_m277), (am_n278, am_m278), (am_n279, am_m279), (am_n280, am_m280), (am_n281, am_m281), (am_n282, am_m282), (am_n283, am_m283), (am_n284, am_m284), (am_n285, am_m285), (am_n286, am_m286), (am_n287, am_m287)], amMk amGG amXX t.1 t.2 := fun t ht => am_t5 t (List.mem_of_mem_drop (i := 32) (List.mem_of_mem_take (i := 16) ht))
theorem am_r18 : ∀ t ∈ [(am_n288, am_m288), (am_n289, am_m289), (am_n290, am_m290), (am_n291, am_m291), (am_n292, am_m292), (am_n293, am_m293), (am_n294, am_m294), (am_n295, am_m295), (am_n296, am_m296), (am_n297, am_m297), (am_n298, am_m298), (am_n299, am_m299), (am_n300, am_m300), (am_n301, am_m301), (am_n302, am_m302), (am_n303, am_m303)], amMk amGG amXX t.1 t.2 := fun t ht => am_t6 t (List.mem_of_mem_take (i := 16) ht)
theorem am_r19 : ∀ t ∈ [(am_n304, am_m304), (am_n305, am_m305), (am_n306, am_m306), (am_n307, am_m307), (am_n308, am_m308), (am_n309, am_m309), (am_n310, am_m310), (am_n311, am_m311), (am_n312, am_m312), (am_n313, am_m313), (am_n314, am_m314), (am_n315, am_m315), (am_n316, am_m316), (am_n317, am_m317), (am_n318, am_m318), (am_n319, am_m319)], amMk amGG amXX t.1 t.2 := fun t ht => am_t6 t (List.mem_of_mem_drop (i := 16) (List.mem_of_mem_take (i := 16) ht))
theorem am_r20 : ∀ t ∈ [(am_n320, am_m320), (am_n321, am_m321), (am_n322, am_m322), (am_n323, am_m323), (am_n324, am_m324), (am_n325, am_m325), (am_n326, am_m326), (am_n327, am_m327), (am_n328, am_m328), (am_n329, am_m329), (am_n330, am_m330), (am_n331, am_m331), (am_n332, am_m332), (am_n333, am_m333), (am_n334, am_m334), (am_n335, am_m335)], amMk amGG amXX t.1 t.2 := fun t ht => am_t6 t (List.mem_of_mem_drop (i := 32) (List.mem_of_mem_take (i := 16) ht))
theorem am_r21 : ∀ t ∈ [(am_n336, am_m336), (am_n337, am_m337), (am_n338, am_m338), (am_n339, am_m339), (am_n340, am_m340), (am_n341, am_m341), (am_n342, am_m342), (am_n343, am_m343), (am_n344, am_m344), (am_n345, am_m345), (am_n346, am_m346), (am_n347, am_m347), (am_n348, am_m348), (am_n349, am_m349), (am_n350, am_m350), (am_n351, am_m351)], amMk amGG amXX t.1 t.2 := fun t ht => am_t7 t (List.mem_of_mem_take (i := 16) ht)
theorem am_r22 : ∀ t ∈ [(am_n352, am_m352), (am_n353, am_m353), (am_n354, am_m354), (am_n355, am_m355), (am_n356, am_m356), (am_n357, am_m357), (am_n358, am_m358), (am_n359, am_m359), (am_n360, am_m360), (am_n361, am_m361), (am_n362, am_m362), (am_n363, am_m363), (am_n364, am_m364), (am_n365, am_m365), (am_n366, am_m366), (am_n367, am_m367)], amMk amGG amXX t.1 t.2 := fun t ht => am_t7 t (List.mem_of_mem_drop (i := 16) (List.mem_of_mem_take (i := 16) ht))
theorem am_r23 : ∀ t ∈ [(am_n368, am_m368), (am_n369, am_m369), (am_n370, am_m370), (am_n371, am_m371), (am_n372, am_m372), (am_n373, am_m373), (am_n374, am_m374), (am_n375, am_m375), (am_n376, am_m376), (am_n377, am_m377), (am_n378, am_m378), (am_n379, am_m379), (am_n380, am_m380), (am_n381, am_m381), (am_n382, am_m382), (am_n383, am_m383)], amMk amGG amXX t.1 t.2 := fun t ht => am_t7 t (List.mem_of_mem_drop (i := 32) (List.mem_of_mem_take (i := 16) ht))
theorem am_r24 : ∀ t ∈ [(am_n384, am_m384)], amMk amGG amXX t.1 t.2 := fun t ht => am_t8 t (List.mem_of_mem_take (i := 16) ht)
theorem am_allT : ∀ row ∈ amTT, ∀ t ∈ row, amMk amGG amXX t.1 t.2 := by
  intro row hrow
  rcases List.mem_cons.mp hrow with e | hrow
  · rw [e]; exact am_r0
  rcases List.mem_cons.mp hrow with e | hrow
  · rw [e]; exact am_r1
  rcases List.mem_cons.mp hrow with e | hrow
  · rw [e]; exact am_r2
  rcases List.mem_cons.mp hrow with e | hrow
  · rw [e]; exact am_r3
  rcases List.mem_cons.mp hrow with e | hrow
  · rw [e]; exact am_r4
  rcases List.mem_cons.mp hrow with e | hrow
  · rw [e]; exact am_r5
  rcases List.mem_cons.mp hrow with e | hrow
  · rw [e]; exact am_r6
  rcases List.mem_cons.mp hrow with e | hrow
  · rw [e]; exact am_r7
  rcases List.mem_cons.mp hrow with e | hrow
  · rw [e]; exact am_r8
  rcases List.mem_cons.mp hrow with e | hrow
  · rw [e]; exact am_r9
  rcases List.mem_cons.mp hrow with e | hrow
  · rw [e]; exact am_r10
  rcases List.mem_cons.mp hrow with e | hrow
  · rw [e]; exact am_r11
  rcases List.mem_cons.mp hrow with e | hrow
  · rw [e]; exact am_r12
  rcases List.mem_cons.mp hrow with e | hrow
  · rw [e]; exact am_r13
  rcases List.mem_cons.mp hrow with e | hrow
  · rw [e]; exact am_r14
  rcases List.mem_cons.mp hrow with e | hrow
  · rw [e]; exact am_r15
  rcases List.mem_cons.mp hrow with e | hrow
  · rw [e]; exact am_r16
  rcases List.mem_cons.mp hrow with e | hrow
  · rw [e]; exact am_r17
  rcases List.mem_cons.mp hrow with e | hrow
  · rw [e]; exact am_r18
  rcases List.mem_cons.mp hrow with e | hrow
  · rw [e]; exact am_r19
  rcases List.mem_cons.mp hrow with e | hrow
  · rw [e]; exact am_r20
  rcases List.mem_cons.mp hrow with e | hrow
  · rw [e]; exact am_r21
  rcases List.mem_cons.mp hrow with e | hrow
  · rw [e]; exact am_r22
  rcases List.mem_cons.mp hrow with e | hrow
  · rw [e]; exact am_r23
  rcases List.mem_cons.mp hrow with e | hrow
  · rw [e]; exact am_r24
  cases hrow
theorem am_tabs : ∀ (k : Nat) (N : amN) (M : amM), amXX k = some N → amGG k = some M → amMk amGG amXX N M := by
  intro k N M hX hG
  unfold amXX at hX
  unfold amGG at hG
  obtain ⟨q, h1, rfl⟩ := Option.map_eq_some_iff.mp hX
  rw [h1] at hG
  cases hG
  unfold amGx at h1
  split at h1
  · next row e =>
    exact am_allT row (List.mem_of_getElem? e) q (List.mem_of_getElem? h1)
  · cases h1
theorem am_nLs : ∀ (k : Nat) (M : amM), amGG k = some M → M.2.1 ≤ 100 := by
  intro k M hG
  unfold amGG at hG
  obtain ⟨q, h1, rfl⟩ := Option.map_eq_some_iff.mp hG
  exact (am_tabs k q.1 q.2 (by unfold amXX; rw [h1]; rfl) (by unfold amGG; rw [h1]; rfl)).2.1
end
/-! ##### 12.a.fuel ##### -/
section
/-! ===== runs with more steps, deeper calls, other counts ===== -/
theorem amRun_more {G : Nat → Option amM} : ∀ (f : Nat) (sc : Option (List Int32)) (d : Nat) (M : amM) (cs : amP) (pc : Nat) (ls : amL) (st : List Value) (hp : amH) (kc ks : Nat) (r : amRes), amRun G sc f d M cs pc ls st hp kc ks = some r → ∀ (g e : Nat), f ≤ g → d ≤ e → amRun G sc g e M cs pc ls st hp kc ks = some r := by
  intro f
  induction f with
  | zero => intro sc d M cs pc ls st hp kc ks r h; unfold amRun at h; cases h
  | succ f ih =>
    intro sc d M cs pc ls st hp kc ks r h g e hg he
    obtain ⟨g, rfl⟩ : ∃ g', g = g' + 1 := ⟨g - 1, by omega⟩
    have hg : f ≤ g := by omega
    cases cs with
    | nil => unfold amRun at h; cases h
    | cons q cs =>
      unfold amRun at h
      unfold amRun
      split at h
      · next e0 =>
        try rw [if_pos e0]
        split at h
        · cases h
        · next r1 dk ds e1 =>
          try rw [e1]
          exact ih _ _ _ _ _ _ _ _ _ _ _ h g e hg he
        · next v e1 => exact h
        · next E e1 => exact h
        · next k av rest e1 =>
          try rw [e1]
          try dsimp only
          cases d with
          | zero => cases h
          | succ d =>
            obtain ⟨e, rfl⟩ : ∃ e', e = e' + 1 := ⟨e - 1, by omega⟩
            cases hG : G k with
            | none => rw [hG] at h; cases h
            | some N =>
              rw [hG] at h
              dsimp only at h ⊢
              cases hi : amRun G none f d N N.1 0 (lv_args 0 av) [] hp 0 0 with
              | none => rw [hi] at h; cases h
              | some z =>
                have hz := ih _ _ _ _ _ _ _ _ _ _ _ hi g e hg (by omega)
                rw [hi] at h
                rw [hz]
                obtain ⟨y, hp1, mc, ms⟩ := z
                cases y with
                | inl v => exact ih _ _ _ _ _ _ _ _ _ _ _ h g (e + 1) hg he
                | inr E =>
                  dsimp only at h ⊢
                  split at h
                  · cases h
                  · next e2 =>
                    try rw [if_neg e2]
                    split at h
                    · next e3 => first | exact h | (rw [if_pos e3]; exact h)
                    · next e3 =>
                      try rw [if_neg e3]
                      split at h
                      · next s9 x9 t9 e4 => exact ih _ _ _ _ _ _ _ _ _ _ _ h g (e + 1) hg he
                      · cases h
      · cases h
end
/-! ##### 12.b.views ##### -/
section
/-! ===== rows of ints, read and written ===== -/
theorem rw_in {i : Int32} {n m : Nat} (hi : i.toInt = (n : Int)) (hn : n < m) : i.toNatClampNeg = n ∧ amIn i m = true := by
  have e : i.toNatClampNeg = n := by
    show i.toInt.toNat = _
    rw [hi]; rfl
  refine ⟨e, decide_eq_true ?_⟩
  rw [not_or, e]
  refine ⟨fun z => ?_, fun z => ?_⟩
  · have := Int32.lt_iff_toInt_lt.mp z
    rw [a_zero] at this
    omega
  · omega
theorem rw_rd {hp : amH} {a n : Nat} {w : List Int32} {i : Int32} {r : List Value} (h : hp[a]? = some (32, w.map Value.int)) (hi : i.toInt = (n : Int)) (hn : n < w.length) : amALd 32 amIsI hp (.int i :: .ref a :: r) = some (.int (w.getD n 0) :: r) := by
  obtain ⟨e1, e2⟩ := rw_in (m := (w.map Value.int).length) hi (by rw [List.length_map]; exact hn)
  have hg : (w.map Value.int).getD i.toNatClampNeg .null = .int (w.getD n 0) := by
    rw [e1, List.getD_eq_getElem?_getD, List.getElem?_map, List.getD_eq_getElem?_getD, List.getElem?_eq_getElem hn]
    rfl
  simp only [amALd, h, e2, hg, amIsI, and_self, if_true]
theorem rw_wr {hp : amH} {a n : Nat} {w : List Int32} {i v : Int32} {r : List Value} (h : hp[a]? = some (32, w.map Value.int)) (hi : i.toInt = (n : Int)) (hn : n < w.length) : amASt 32 amIsI id hp (.int v :: .int i :: .ref a :: r) = some (r, hp.set a (32, (w.set n v).map Value.int)) := by
  obtain ⟨e1, e2⟩ := rw_in (m := (w.map Value.int).length) hi (by rw [List.length_map]; exact hn)
  simp only [amASt, h, e2, e1, amIsI, and_self, if_true, id, List.map_set]
/-- the reference's row of third points -/
def mW (hp : amH) (w : List Int32) : Prop := (∃ cm, hp[66]? = some (11, cm) ∧ cm[0]? = some (.ref 67)) ∧ hp[67]? = some (32, w.map Value.int) ∧ w.length = 229
theorem m_points {G : Nat → Option amM} {hp : amH} {w : List Int32} (h : mW hp w) (f d kc ks : Nat) :
    amRun G none (f + 6) d am_m203 am_m203.1 0 [(0, .ref 66)] [] hp kc ks = some (.inl (some (.int (w.getD 0 0))), hp, kc, ks) := by
  obtain ⟨⟨cm, h1, h2⟩, h3, h4⟩ := h
  have hr := rw_rd (r := []) (i := 0) h3 (n := 0) (by decide) (by omega)
  simp [am_m203, amRun, amDo, amStep, amLd, amGet, amIsA, amNext, amFGet, h1, h2, amSc, hr, amRetV, narrow]
theorem m_idx {a b : Int32} {x y : Nat} (ha : a.toInt = (x : Int)) (hb : b.toInt = (y : Int)) (hx : x < 15) (hy : y < 15) : (4 + 15 * a + b).toInt = ((4 + 15 * x + y : Nat) : Int) := by
  have e4 : (4 : Int32).toInt = 4 := by decide
  have e15 : (15 : Int32).toInt = 15 := by decide
  have h1 : (15 * a).toInt = 15 * (x : Int) := by
    rw [Int32.toInt_mul, e15, ha, aBmod (by omega) (by omega)]
  have h2 : (4 + 15 * a).toInt = 4 + 15 * (x : Int) := by
    rw [Int32.toInt_add, e4, h1, aBmod (by omega) (by omega)]
  rw [Int32.toInt_add, h2, hb, aBmod (by omega) (by omega)]
  omega
theorem m_thirdOf {G : Nat → Option amM} {hp : amH} {w : List Int32} (h : mW hp w) {a b : Int32} {x y : Nat} (ha : a.toInt = (x : Int)) (hb : b.toInt = (y : Int)) (hx : x < 15) (hy : y < 15) (f d kc ks : Nat) :
    amRun G none (f + 12) d am_m204 am_m204.1 0 [(0, .ref 66), (1, .int a), (2, .int b)] [] hp kc ks = some (.inl (some (.int (w.getD (4 + 15 * x + y) 0))), hp, kc, ks) := by
  obtain ⟨⟨cm, h1, h2⟩, h3, h4⟩ := h
  have hr := rw_rd (r := []) h3 (m_idx ha hb hx hy) (by omega)
  simp [am_m204, amRun, amDo, amStep, amLd, amGet, amIsA, amIsI, amNext, amFGet, amII, h1, h2, amSc, hr, amRetV, narrow]
theorem mW.set {hp : amH} {w : List Int32} (h : mW hp w) {w' : List Int32} (hl : w'.length = 229) : mW (hp.set 67 (32, w'.map Value.int)) w' := by
  obtain ⟨⟨cm, h1, h2⟩, h3, h4⟩ := h
  have hlt : 67 < hp.length := by
    rcases Nat.lt_or_ge 67 hp.length with z | z
    · exact z
    · rw [List.getElem?_eq_none z] at h3; cases h3
  exact ⟨⟨cm, by rw [List.getElem?_set_ne (by decide)]; exact h1, h2⟩, List.getElem?_set_self hlt, hl⟩
theorem f4_3 : ((3 : Fin 4) : Nat) = 3 := rfl
theorem f4_2 : ((2 : Fin 4) : Nat) = 2 := rfl
theorem isI_int (x : Int32) : amIsI (.int x) = true := rfl
theorem isA_ref (x : Nat) : amIsA (.ref x) = true := rfl
theorem m_lays {G : Nat → Option amM} {hp : amH} {w : List Int32} (h : mW hp w) {a b c : Int32} {x y : Nat} (ha : a.toInt = (x : Int)) (hb : b.toInt = (y : Int)) (hx : x < 15) (hy : y < 15) (f d kc ks : Nat) :
    amRun G none (f + 23) d am_m205 am_m205.1 0 [(0, .ref 66), (1, .int a), (2, .int b), (3, .int c)] [] hp kc ks = some (.inl none, hp.set 67 (32, (((w.set (4 + 15 * x + y) c).set (4 + 15 * y + x) c).map Value.int)), kc, ks) := by
  have hm := h.set (w' := w.set (4 + 15 * x + y) c) (by rw [List.length_set]; exact h.2.2)
  obtain ⟨⟨cm, h1, h2⟩, h3, h4⟩ := h
  obtain ⟨⟨cm', g1, g2⟩, g3, g4⟩ := hm
  have hr := rw_wr (r := []) (v := c) h3 (m_idx ha hb hx hy) (by omega)
  have hr2 := rw_wr (r := []) (v := c) g3 (m_idx hb ha hy hx) (by omega)
  rw [List.set_set] at hr2
  rw [List.getElem?_set_ne (by decide)] at g1
  cases h1.symm.trans g1
  have g5 : (hp.set 67 (32, (w.set (4 + 15 * x + y) c).map Value.int))[66]? = some (11, cm) := by rw [List.getElem?_set_ne (by decide)]; exact h1
  simp only [List.map_set] at hr hr2 g5
  simp [am_m205, amRun, amDo, amStep, amLd, amGet, isA_ref, isI_int, f4_2, f4_3, amNext, amFGet, amII, h1, h2, g5, hr, hr2, amRetV]
end
/-! ##### 12.c.puts ##### -/
section
/-! ===== puts ===== -/
theorem g205 : amGG 205 = some am_m205 := rfl
theorem p205a : am_m205.2.2.1 = 4 := rfl
theorem p205b : am_m205.2.1 = 4 := rfl
theorem p205c : am_m205.2.2.2.2.2.2 = 11 := rfl
def lay (w : List Int32) (x y : Nat) (c : Int32) : List Int32 := (w.set (4 + 15 * x + y) c).set (4 + 15 * y + x) c
theorem lay_len (w : List Int32) (x y : Nat) (c : Int32) : (lay w x y c).length = w.length := by unfold lay; rw [List.length_set, List.length_set]
theorem m_laysF {hp : amH} {w : List Int32} (h : mW hp w) {a b c : Int32} {x y : Nat} (ha : a.toInt = (x : Int)) (hb : b.toInt = (y : Int)) (hx : x < 15) (hy : y < 15) (F D : Nat) (hF : 23 ≤ F) :
    amRun amGG none F D am_m205 am_m205.1 0 [(0, .ref 66), (1, .int a), (2, .int b), (3, .int c)] [] hp 0 0 = some (.inl none, hp.set 67 (32, (lay w x y c).map Value.int), 0, 0) :=
  amRun_more 23 none 0 am_m205 am_m205.1 0 _ [] hp 0 0 _ (m_lays h ha hb hx hy 0 0 0 0) F D hF (Nat.zero_le _)
theorem m_puts {hp : amH} {w : List Int32} (h : mW hp w) {a b c : Int32} {x y z : Nat} (ha : a.toInt = (x : Int)) (hb : b.toInt = (y : Int)) (hc : c.toInt = (z : Int)) (hx : x < 15) (hy : y < 15) (hz : z < 15) (f d kc ks : Nat) :
    amRun amGG none (f + 50) (d + 1) am_m206 am_m206.1 0 [(0, .ref 66), (1, .int a), (2, .int b), (3, .int c)] [] hp kc ks = some (.inl none, hp.set 67 (32, (lay (lay (lay w x y c) y z a) x z b).map Value.int), kc, ks) := by
  have hl : 66 < hp.length := by
    obtain ⟨⟨cm, h1, h2⟩, h3, h4⟩ := h
    rcases Nat.lt_or_ge 66 hp.length with u | u
    · exact u
    · rw [List.getElem?_eq_none u] at h1; cases h1
  have k1 := h.set (w' := lay w x y c) (by rw [lay_len]; exact h.2.2)
  have k2 := h.set (w' := lay (lay w x y c) y z a) (by rw [lay_len, lay_len]; exact h.2.2)
  have q1 := m_laysF h (c := c) ha hb hx hy
  have q2 := m_laysF k1 (c := a) hb hc hy hz
  have q3 := m_laysF k2 (c := b) ha hc hx hz
  rw [List.set_set] at q2 q3
  obtain ⟨⟨cm, h1, h2⟩, h3, h4⟩ := h
  have h1' : hp[66] = (11, cm) := by rw [List.getElem?_eq_getElem hl] at h1; exact Option.some.inj h1
  obtain ⟨⟨c1, e1, -⟩, -⟩ := k1
  obtain ⟨⟨c2, e2, -⟩, -⟩ := k2
  simp [am_m206, amRun, amDo, amStep, amLd, amGet, isA_ref, isI_int, f4_2, f4_3, amNext, amCall, g205, lv_args, amOkL, amOkS, amOk, amRecv, h1, e1, e2, hl, Value.category, q1, q2, q3, amRetV, p205a, p205b, p205c, h1']
end
/-! ##### 12.e.copies ##### -/
section
/-! ===== copies ===== -/
/-- what copies does, element after element -/
def cpy (src : List Int32) (s0 d0 : Nat) : Nat → List Int32 → List Int32
  | 0, dst => dst
  | n + 1, dst => cpy src (s0 + 1) (d0 + 1) n (dst.set d0 (src.getD s0 0))
theorem cpy_len (src : List Int32) : ∀ (n s0 d0 : Nat) (dst : List Int32), (cpy src s0 d0 n dst).length = dst.length
  | 0, _, _, _ => rfl
  | n + 1, s0, d0, dst => by unfold cpy; rw [cpy_len, List.length_set]
theorem s198_3 : amSeek am_m198.1 3 = [(3, .iload 5, 0, 0), (5, .iload 4, 0, 0), (7, .if_icmp .ge 21, 28, 0), (10, .aload_n 2, 0, 0), (11, .iload_n 3, 0, 0), (12, .iload 5, 0, 0), (14, .iadd, 0, 0), (15, .aload_n 0, 0, 0), (16, .iload_n 1, 0, 0), (17, .iload 5, 0, 0), (19, .iadd, 0, 0), (20, .iaload, 0, 0), (21, .iastore, 0, 0), (22, .iinc 5 1, 0, 0), (25, .goto (-22), 3, 0), (28, .return_, 0, 0)] := rfl
theorem p198b : am_m198.2.1 = 6 := rfl
theorem m_copies_loop {G : Nat → Option amM} {p q : Nat} (hpq : ¬ p = q) {src : List Int32} {at0 into many : Int32} {s0 d0 N : Nat} (ha : at0.toInt = (s0 : Int)) (hi : into.toInt = (d0 : Int)) (hm : many.toInt = (N : Int)) (hs : s0 + N ≤ src.length) (hb : src.length ≤ 100000) :
    ∀ (j k : Nat) (ki : Int32) (hp : amH) (dst : List Int32) (f d kc ks : Nat), k + j = N → ki.toInt = (k : Int) → hp[p]? = some (32, src.map Value.int) → hp[q]? = some (32, dst.map Value.int) → d0 + N ≤ dst.length → dst.length ≤ 100000 →
    amRun G none (f + 15 * j + 10) d am_m198 (amSeek am_m198.1 3) 3 [(5, .int ki), (0, .ref p), (1, .int at0), (2, .ref q), (3, .int into), (4, .int many)] [] hp kc ks = some (.inl none, hp.set q (32, (cpy src (s0 + k) (d0 + k) j dst).map Value.int), kc, ks) := by
  intro j
  induction j with
  | zero =>
    intro k ki hp dst f d kc ks hk hki h1 h2 h3 h4
    have hc : ¬ ki < many := fun z => by have := Int32.lt_iff_toInt_lt.mp z; omega
    have hc2 : many ≤ ki := Int32.le_iff_toInt_le.mpr (by omega)
    have hset : hp.set q (32, dst.map Value.int) = hp := by
      apply List.ext_getElem?
      intro i
      by_cases e : q = i
      · subst e
        have hlt : q < hp.length := by
          rcases Nat.lt_or_ge q hp.length with z | z
          · exact z
          · rw [List.getElem?_eq_none z] at h2; cases h2
        rw [List.getElem?_set_self hlt, h2]
      · rw [List.getElem?_set_ne e]
    simp only [cpy, hset]
    simp [am_m198, amSeek, amRun, amDo, amStep, amLd, amGet, isI_int, amNext, amCmp, amCmpP, hc2, amRetV]
  | succ j ih =>
    intro k ki hp dst f d kc ks hk hki h1 h2 h3 h4
    have hc2 : ¬ many ≤ ki := fun z => by have := Int32.le_iff_toInt_le.mp z; omega
    have i1 : (at0 + ki).toInt = ((s0 + k : Nat) : Int) := by rw [Int32.toInt_add, ha, hki, aBmod (by omega) (by omega)]; omega
    have i2 : (into + ki).toInt = ((d0 + k : Nat) : Int) := by rw [Int32.toInt_add, hi, hki, aBmod (by omega) (by omega)]; omega
    have i3 : (ki + 1).toInt = ((k + 1 : Nat) : Int) := by rw [Int32.toInt_add, hki, show (1 : Int32).toInt = 1 by decide, aBmod (by omega) (by omega)]; omega
    have hr := rw_rd (r := [.int (into + ki), .ref q]) h1 i1 (by omega)
    have hw := rw_wr (r := []) (v := src.getD (s0 + k) 0) h2 i2 (by omega)
    have hlt : q < hp.length := by
      rcases Nat.lt_or_ge q hp.length with z | z
      · exact z
      · rw [List.getElem?_eq_none z] at h2; cases h2
    have nx := ih (k + 1) (ki + 1) (hp.set q (32, (dst.set (d0 + k) (src.getD (s0 + k) 0)).map Value.int)) (dst.set (d0 + k) (src.getD (s0 + k) 0)) f d kc ks (by omega) i3 (by rw [List.getElem?_set_ne (fun z => hpq z.symm)]; exact h1) (List.getElem?_set_self hlt) (by rw [List.length_set]; exact h3) (by rw [List.length_set]; exact h4)
    rw [List.set_set] at nx
    rw [s198_3, show f + 15 * (j + 1) + 10 = f + 15 * j + 10 + 15 by omega]
    simp only [cpy]
    rw [show s0 + k + 1 = s0 + (k + 1) by omega, show d0 + k + 1 = d0 + (k + 1) by omega]
    refine Eq.trans ?_ nx
    generalize src.getD (s0 + k) 0 = v at hr hw ⊢
    simp [p198b, amRun, amDo, amStep, amLd, amGet, isI_int, isA_ref, f4_2, f4_3, amNext, amCmp, amCmpP, hc2, amII, amSc, hr, hw, amInc, amSet1, Value.category]
end
/-! ##### 12.f.takes ##### -/
section
/-! ===== takes ===== -/
theorem m_takes {hp : amH} {w : List Int32} (h : mW hp w) {a b c : Int32} {x y z : Nat} (ha : a.toInt = (x : Int)) (hb : b.toInt = (y : Int)) (hc : c.toInt = (z : Int)) (hx : x < 15) (hy : y < 15) (hz : z < 15) (f d kc ks : Nat) :
    amRun amGG none (f + 50) (d + 1) am_m207 am_m207.1 0 [(0, .ref 66), (1, .int a), (2, .int b), (3, .int c)] [] hp kc ks = some (.inl none, hp.set 67 (32, (lay (lay (lay w x y (-1)) y z (-1)) x z (-1)).map Value.int), kc, ks) := by
  have hl : 66 < hp.length := by
    obtain ⟨⟨cm, h1, h2⟩, h3, h4⟩ := h
    rcases Nat.lt_or_ge 66 hp.length with u | u
    · exact u
    · rw [List.getElem?_eq_none u] at h1; cases h1
  have k1 := h.set (w' := lay w x y (-1)) (by rw [lay_len]; exact h.2.2)
  have k2 := h.set (w' := lay (lay w x y (-1)) y z (-1)) (by rw [lay_len, lay_len]; exact h.2.2)
  have q1 := m_laysF h (c := -1) ha hb hx hy
  have q2 := m_laysF k1 (c := -1) hb hc hy hz
  have q3 := m_laysF k2 (c := -1) ha hc hx hz
  rw [List.set_set] at q2 q3
  obtain ⟨⟨cm, h1, h2⟩, h3, h4⟩ := h
  have h1' : hp[66] = (11, cm) := by rw [List.getElem?_eq_getElem hl] at h1; exact Option.some.inj h1
  obtain ⟨⟨c1, e1, -⟩, -⟩ := k1
  obtain ⟨⟨c2, e2, -⟩, -⟩ := k2
  simp [am_m207, amRun, amDo, amStep, amLd, amGet, isA_ref, isI_int, f4_2, f4_3, amNext, amCall, g205, lv_args, amOkL, amOkS, amOk, amRecv, h1, e1, e2, hl, Value.category, q1, q2, q3, amRetV, p205a, p205b, p205c, h1']
end
/-! ##### 12.g.covered ##### -/
section
/-! ===== coveredOf ===== -/
theorem g204 : amGG 204 = some am_m204 := rfl
theorem p204a : am_m204.2.2.1 = 3 := rfl
theorem p204b : am_m204.2.1 = 3 := rfl
theorem p204c : am_m204.2.2.2.2.2.2 = 11 := rfl
theorem m_thirdOfF {hp : amH} {w : List Int32} (h : mW hp w) {a b : Int32} {x y : Nat} (ha : a.toInt = (x : Int)) (hb : b.toInt = (y : Int)) (hx : x < 15) (hy : y < 15) (F D : Nat) (hF : 12 ≤ F) :
    amRun amGG none F D am_m204 am_m204.1 0 [(0, .ref 66), (1, .int a), (2, .int b)] [] hp 0 0 = some (.inl (some (.int (w.getD (4 + 15 * x + y) 0))), hp, 0, 0) :=
  amRun_more 12 none 0 am_m204 am_m204.1 0 _ [] hp 0 0 _ (m_thirdOf h ha hb hx hy 0 0 0 0) F D hF (Nat.zero_le _)
end
/-! ##### 13.0.floats ##### -/
section
/-! ===== floats: what a quotient of whole numbers is not ===== -/
def flS (f : FP.Core.Fmt) (d : FP.Core.Datum) : Prop := (∃ s, d = .inf s) ∨ ∃ s c q, d = .fin s c q ∧ c < 2 ^ f.p ∧ q ≤ f.qmax
/-- what the two formats have in common -/
def flF (f : FP.Core.Fmt) : Prop := 2 ^ f.p = 2 * f.tails ∧ 0 < f.tails ∧ f.qmin ≤ f.qmax ∧ (f.qmax - f.qmin).toNat + 3 = f.exps
theorem fl_32 : flF FP.Core.b32 := by unfold flF; decide +kernel
theorem fl_64 : flF FP.Core.b64 := by unfold flF; decide +kernel
theorem fl_settle {f : FP.Core.Fmt} (hf : flF f) (s : Bool) (c : Nat) (q : Int) : flS f (FP.Core.settle f s c q) := by
  unfold FP.Core.settle
  split
  · next h =>
    unfold FP.Core.bound
    split
    · next h2 => exact Or.inr ⟨_, _, _, rfl, h, h2⟩
    · exact Or.inl ⟨_, rfl⟩
  · unfold FP.Core.bound
    split
    · next h2 => exact Or.inr ⟨_, _, _, rfl, by have := hf.1; have := hf.2.1; omega, h2⟩
    · exact Or.inl ⟨_, rfl⟩
theorem fl_ratio {f : FP.Core.Fmt} (hf : flF f) (s : Bool) (num den : Nat) (e : Int) : flS f (FP.Core.roundRatio f s num den e) := by
  unfold FP.Core.roundRatio
  split
  · exact Or.inr ⟨_, _, _, rfl, by have := hf.1; have := hf.2.1; omega, hf.2.2.1⟩
  · exact fl_settle hf _ _ _
theorem fl_round {f : FP.Core.Fmt} (hf : flF f) {d : FP.Core.Datum} (hd : d ≠ .nan) : flS f (FP.Core.round f d) := by
  cases d with
  | nan => exact absurd rfl hd
  | inf s => exact Or.inl ⟨_, rfl⟩
  | fin s c q => exact fl_ratio hf _ _ _ _
theorem fl_quot {f : FP.Core.Fmt} (hf : flF f) {a b : FP.Core.Datum} (ha : a ≠ .nan) {s : Bool} {c : Nat} {q : Int} (hb : b = .fin s c q) (hc : c ≠ 0) : flS f (FP.Core.quotient f a b) := by
  subst hb
  cases a with
  | nan => exact absurd rfl ha
  | inf s => exact Or.inl ⟨_, rfl⟩
  | fin s c q =>
    unfold FP.Core.quotient
    dsimp only
    rw [if_neg hc]
    exact fl_ratio hf _ _ _ _
theorem fl_enc {f : FP.Core.Fmt} (hf : flF f) {d : FP.Core.Datum} (h : flS f d) : ∃ s e t, FP.Core.encode f d = FP.Core.assemble f s e t ∧ t < f.tails ∧ e < f.exps ∧ (e = f.exps - 1 → t = 0) := by
  obtain ⟨h1, h2, h3, h4⟩ := hf
  rcases h with ⟨s, rfl⟩ | ⟨s, c, q, rfl, hc, hq⟩
  · exact ⟨s, f.exps - 1, 0, rfl, h2, by omega, fun _ => rfl⟩
  · unfold FP.Core.encode
    dsimp only
    split
    · next h => exact ⟨s, 0, c, rfl, h, by omega, fun z => by omega⟩
    · next h =>
      refine ⟨s, (q - f.qmin).toNat + 1, c - f.tails, rfl, by omega, ?_, fun z => ?_⟩
      · omega
      · omega
theorem fl_dec {f : FP.Core.Fmt} (hf : flF f) {s : Bool} {e t : Nat} (ht : t < f.tails) (he : e < f.exps) (h0 : e = f.exps - 1 → t = 0) : FP.Core.decode f (FP.Core.assemble f s e t) ≠ .nan := by
  have hT : FP.Core.fieldT f (FP.Core.assemble f s e t) = t := by
    unfold FP.Core.fieldT FP.Core.assemble
    rw [Nat.mul_comm, Nat.mul_add_mod, Nat.mod_eq_of_lt ht]
  have hE : FP.Core.fieldE f (FP.Core.assemble f s e t) = e := by
    unfold FP.Core.fieldE FP.Core.assemble
    rw [Nat.mul_comm _ f.tails, Nat.mul_add_div hf.2.1, Nat.div_eq_of_lt ht, Nat.add_zero, Nat.mul_comm _ f.exps, Nat.mul_add_mod, Nat.mod_eq_of_lt he]
  unfold FP.Core.decode
  rw [hT, hE]
  split
  · next h => rw [if_pos (h0 h)]; intro z; cases z
  · split
    · intro z; cases z
    · intro z; cases z
theorem fl_bool (s : Bool) : s.toNat ≤ 1 := by cases s <;> decide
/-- 32 bits -/
theorem fl_u32 {d : FP.Core.Datum} (h : flS FP.Core.b32 d) : (UInt32.ofNat (FP.Core.encode FP.Core.b32 d)).toNat = FP.Core.encode FP.Core.b32 d ∧ (UInt32.ofNat (FP.Core.encode FP.Core.b32 d)) &&& 0x7fffffff ≤ 0x7f800000 ∧ FP.Core.decode FP.Core.b32 (FP.Core.encode FP.Core.b32 d) ≠ .nan := by
  obtain ⟨s, e, t, h1, h2, h3, h4⟩ := fl_enc fl_32 h
  have h5 := fl_dec (s := s) fl_32 h2 h3 h4
  rw [← h1] at h5
  have hs := fl_bool s
  have ht : FP.Core.b32.tails = 8388608 := by decide
  have he : FP.Core.b32.exps = 256 := by decide
  have hn : FP.Core.encode FP.Core.b32 d = (s.toNat * 256 + e) * 8388608 + t := by rw [h1, FP.Core.assemble, ht, he]
  rw [ht] at h2
  rw [he] at h3 h4
  generalize FP.Core.encode FP.Core.b32 d = n at hn h5 ⊢
  have hlt : n < 4294967296 := by omega
  have hto : (UInt32.ofNat n).toNat = n := by rw [UInt32.toNat_ofNat']; exact Nat.mod_eq_of_lt hlt
  refine ⟨hto, ?_, h5⟩
  rw [UInt32.le_iff_toNat_le, UInt32.toNat_and, hto]
  have h7 : (0x7fffffff : UInt32).toNat = 2 ^ 31 - 1 := by decide
  have h8 : (0x7f800000 : UInt32).toNat = 255 * 8388608 := by decide
  rw [h7, h8, Nat.and_two_pow_sub_one_eq_mod]
  omega
theorem fl_u64 {d : FP.Core.Datum} (h : flS FP.Core.b64 d) : (UInt64.ofNat (FP.Core.encode FP.Core.b64 d)).toNat = FP.Core.encode FP.Core.b64 d ∧ (UInt64.ofNat (FP.Core.encode FP.Core.b64 d)) &&& 0x7fffffffffffffff ≤ 0x7ff0000000000000 ∧ FP.Core.decode FP.Core.b64 (FP.Core.encode FP.Core.b64 d) ≠ .nan := by
  obtain ⟨s, e, t, h1, h2, h3, h4⟩ := fl_enc fl_64 h
  have h5 := fl_dec (s := s) fl_64 h2 h3 h4
  rw [← h1] at h5
  have hs := fl_bool s
  have ht : FP.Core.b64.tails = 4503599627370496 := by decide +kernel
  have he : FP.Core.b64.exps = 2048 := by decide
  have hn : FP.Core.encode FP.Core.b64 d = (s.toNat * 2048 + e) * 4503599627370496 + t := by rw [h1, FP.Core.assemble, ht, he]
  rw [ht] at h2
  rw [he] at h3 h4
  generalize FP.Core.encode FP.Core.b64 d = n at hn h5 ⊢
  have hlt : n < 18446744073709551616 := by omega
  have hto : (UInt64.ofNat n).toNat = n := by rw [UInt64.toNat_ofNat']; exact Nat.mod_eq_of_lt hlt
  refine ⟨hto, ?_, h5⟩
  rw [UInt64.le_iff_toNat_le, UInt64.toNat_and, hto]
  have h7 : (0x7fffffffffffffff : UInt64).toNat = 2 ^ 63 - 1 := by decide
  have h8 : (0x7ff0000000000000 : UInt64).toNat = 2047 * 4503599627370496 := by decide
  rw [h7, h8, Nat.and_two_pow_sub_one_eq_mod]
  omega
theorem fl_ofInt (i : Int) : FP.Core.ofInt i ≠ .nan := by
  unfold FP.Core.ofInt
  intro z
  cases z
theorem fl_i2f (x : Int32) : FP.Core.decode FP.Core.b32 (FP.i2f x).toNat ≠ .nan := by
  have h := fl_u32 (fl_round fl_32 (fl_ofInt x.toInt))
  show FP.Core.decode FP.Core.b32 (UInt32.ofNat (FP.Core.encode FP.Core.b32 _)).toNat ≠ _
  rw [h.1]
  exact h.2.2
theorem fl_i2d (x : Int32) : FP.Core.decode FP.Core.b64 (FP.i2d x).toNat ≠ .nan := by
  have h := fl_u64 (fl_round fl_64 (fl_ofInt x.toInt))
  show FP.Core.decode FP.Core.b64 (UInt64.ofNat (FP.Core.encode FP.Core.b64 _)).toNat ≠ _
  rw [h.1]
  exact h.2.2
def flNz (d : FP.Core.Datum) : Bool := match d with
  | .fin _ c _ => decide (c ≠ 0)
  | _ => false
theorem flNz_s {d : FP.Core.Datum} (h : flNz d = true) : ∃ s c q, d = .fin s c q ∧ c ≠ 0 := by
  cases d with
  | nan => cases h
  | inf s => cases h
  | fin s c q => exact ⟨s, c, q, rfl, of_decide_eq_true h⟩
theorem fl_nz : ∀ k : Fin 200, k.val ≠ 0 → flNz (FP.Core.decode FP.Core.b32 (FP.i2f (Int32.ofInt (k.val : Int))).toNat) = true ∧ flNz (FP.Core.decode FP.Core.b64 (FP.i2d (Int32.ofInt (k.val : Int))).toNat) = true := by decide +kernel
theorem fl_fdiv {x y : UInt32} (hx : FP.Core.decode FP.Core.b32 x.toNat ≠ .nan) (hy : flNz (FP.Core.decode FP.Core.b32 y.toNat) = true) : FP.fdiv x y &&& 0x7fffffff ≤ 0x7f800000 ∧ FP.Core.decode FP.Core.b32 (FP.fdiv x y).toNat ≠ .nan := by
  obtain ⟨s, c, q, h1, h2⟩ := flNz_s hy
  have h := fl_u32 (fl_quot fl_32 hx h1 h2)
  refine ⟨h.2.1, ?_⟩
  show FP.Core.decode FP.Core.b32 (UInt32.ofNat (FP.Core.encode FP.Core.b32 _)).toNat ≠ _
  rw [h.1]
  exact h.2.2
theorem fl_ddiv {x y : UInt64} (hx : FP.Core.decode FP.Core.b64 x.toNat ≠ .nan) (hy : flNz (FP.Core.decode FP.Core.b64 y.toNat) = true) : FP.ddiv x y &&& 0x7fffffffffffffff ≤ 0x7ff0000000000000 := by
  obtain ⟨s, c, q, h1, h2⟩ := flNz_s hy
  exact (fl_u64 (fl_quot fl_64 hx h1 h2)).2.1
theorem fl_f2d {x : UInt32} (hx : FP.Core.decode FP.Core.b32 x.toNat ≠ .nan) : FP.f2d x &&& 0x7fffffffffffffff ≤ 0x7ff0000000000000 := by
  have h : FP.Core.fIsNaN x = false := by
    unfold FP.Core.fIsNaN FP.Core.isNaN
    exact decide_eq_false hx
  unfold FP.f2d
  rw [h]
  exact (fl_u64 (fl_round fl_64 hx)).2.1
end
/-! ##### 13.a.bval ##### -/
section
/-! ===== runs over invariants: values known by their bounds, by what they were (a number) and what was added ===== -/
abbrev bV : Type := Nat ⊕ ((Nat × Nat) ⊕ (Nat ⊕ List Nat))
abbrev bY : Type := (Nat × Nat) ⊕ (Nat ⊕ List Nat)
abbrev bE : Type := List (Nat × Nat)
abbrev bF : Type := List (Nat × Nat × bV)
abbrev bRt : Type := List (bV × bV)
abbrev bMm : Type := List (bV × bV × bV)
abbrev bS : Type := bE × bF × bRt × bMm
abbrev bL : Type := List (Option bV)
abbrev bD : Type := Nat × Nat × List bY
def bB : Nat := 1000000
/-- 1 a long, 2 a double, 3 a float that is no NaN, 4 null, 5 one that isn't 0 either, 6 a double that is no NaN, 7 one that isn't 0 either; from amK on a constant's name -/
def bT (t : Nat) (w : Value) : Prop := (t = 1 ∧ ∃ x, w = .long x) ∨ ((t = 2 ∨ t = 6 ∨ t = 7) ∧ ∃ x, w = .double x ∧ (t ≠ 2 → FP.Core.decode FP.Core.b64 x.toNat ≠ .nan) ∧ (t = 7 → flNz (FP.Core.decode FP.Core.b64 x.toNat) = true)) ∨
  ((t = 3 ∨ t = 5) ∧ ∃ x, w = .float x ∧ FP.Core.decode FP.Core.b32 x.toNat ≠ .nan ∧ (t = 5 → flNz (FP.Core.decode FP.Core.b32 x.toNat) = true)) ∨ (t = 4 ∧ w = .null) ∨ (amK ≤ t ∧ w = .ref t)
def bR (n : Nat) (ρ : List Nat) : bV → Value → Prop
  | .inl k, w => ∃ x, w = .int x ∧ aOff x = k
  | .inr (.inl q), w => ∃ x r, w = .int x ∧ ρ[q.1]? = some r ∧ aOff x + bB = r + q.2
  | .inr (.inr (.inl t)), w => bT t w
  | .inr (.inr (.inr l)), w => ∃ i, w = .ref i ∧ i < n ∧ i ∈ l
def bYr (n : Nat) : bY → Value → Prop
  | .inl q, w => ∃ x, w = .int x ∧ q.1 ≤ aOff x ∧ aOff x ≤ q.2
  | .inr (.inl t), w => bT t w
  | .inr (.inr l), w => ∃ i, w = .ref i ∧ i < n ∧ i ∈ l
theorem bR_mono {n : Nat} {ρ ρ' : List Nat} (h : ρ <+: ρ') {v : bV} {w : Value} (hv : bR n ρ v w) : bR n ρ' v w := by
  obtain ⟨z, rfl⟩ := h
  match v, hv with
  | .inl k, hv => exact hv
  | .inr (.inl q), ⟨x, r, h1, h2, h3⟩ => exact ⟨x, r, h1, by rw [List.getElem?_append_left (a_lt h2)]; exact h2, h3⟩
  | .inr (.inr (.inl t)), hv => exact hv
  | .inr (.inr (.inr l)), hv => exact hv
theorem bT_ok {n t : Nat} {w : Value} (h : bT t w) : amOk n w = true := by
  rcases h with ⟨-, x, rfl⟩ | ⟨-, x, rfl, -⟩ | ⟨-, x, rfl, -⟩ | ⟨-, rfl⟩ | ⟨h1, rfl⟩
  · rfl
  · rfl
  · rfl
  · rfl
  · simp [amOk, h1]
theorem bR_ok {n : Nat} {ρ : List Nat} {v : bV} {w : Value} (hv : bR n ρ v w) : amOk n w = true := by
  match v, hv with
  | .inl k, hv => obtain ⟨x, rfl, -⟩ := hv; rfl
  | .inr (.inl q), hv => obtain ⟨x, r, rfl, -⟩ := hv; rfl
  | .inr (.inr (.inl t)), hv => exact bT_ok hv
  | .inr (.inr (.inr l)), hv => obtain ⟨i, rfl, h1, -⟩ := hv; simp [amOk, h1]
/-- the same kind of value: what is an int, is one int -/
def bIsI : bV → Bool
  | .inl _ => true
  | .inr (.inl _) => true
  | _ => false
theorem bIsI_s {n : Nat} {ρ : List Nat} {v : bV} {w : Value} (h : bIsI v = true) (hv : bR n ρ v w) : ∃ x, w = .int x := by
  match v, h, hv with
  | .inl k, _, ⟨x, h1, _⟩ => exact ⟨x, h1⟩
  | .inr (.inl q), _, ⟨x, r, h1, _⟩ => exact ⟨x, h1⟩
theorem bOff_inj {x y : Int32} (h : aOff x = aOff y) : x = y := by
  have h1 := aOff_eq x
  have h2 := aOff_eq y
  exact Int32.toInt_inj.mp (by omega)
theorem bR_uniq {n : Nat} {ρ : List Nat} {v : bV} {x y : Int32} (h1 : bR n ρ v (.int x)) (h2 : bR n ρ v (.int y)) : x = y := by
  match v, h1, h2 with
  | .inl k, ⟨a, ea, e1⟩, ⟨b, eb, e2⟩ =>
    cases ea; cases eb
    exact bOff_inj (by rw [e1, e2])
  | .inr (.inl q), ⟨a, r, ea, e1, e2⟩, ⟨b, s, eb, e3, e4⟩ =>
    cases ea; cases eb
    rw [e1] at e3
    cases e3
    exact bOff_inj (by omega)
  | .inr (.inr (.inl t)), h1, _ =>
    rcases h1 with ⟨-, x, h⟩ | ⟨-, x, h, -⟩ | ⟨-, x, h, -⟩ | ⟨-, h⟩ | ⟨-, h⟩ <;> cases h
  | .inr (.inr (.inr l)), ⟨_, h, _⟩, _ => cases h
/-! the numbers' bounds -/
def bRE (ρ : List Nat) (E : bE) : Prop := ρ.length = E.length ∧ ∀ (i a b : Nat), E[i]? = some (a, b) → ∃ r, ρ[i]? = some r ∧ a ≤ r ∧ r ≤ b
def bIv (E : bE) : bV → Option (Nat × Nat)
  | .inl k => some (k, k)
  | .inr (.inl q) => (match lAt E q.1 with
    | some r => some (Nat.sub (Nat.add r.1 q.2) bB, Nat.sub (Nat.add r.2 q.2) bB)
    | none => none)
  | _ => none
theorem bIn_off {a b : Nat} {x : Int32} : aIn a b x ↔ a ≤ aOff x ∧ aOff x ≤ b := by
  have := aOff_eq x
  unfold aIn
  omega
theorem bOff_le (x : Int32) : aOff x ≤ 4294967295 := by
  have := aOff_eq x
  have := aMax x
  omega
theorem bIv_s {n : Nat} {ρ : List Nat} {E : bE} (hE : bRE ρ E) {v : bV} {q : Nat × Nat} (h : bIv E v = some q) {w : Value} (hv : bR n ρ v w) : ∃ x, w = .int x ∧ aIn q.1 q.2 x := by
  match v, h, hv with
  | .inl k, h, ⟨x, h1, h2⟩ =>
    cases h
    exact ⟨x, h1, bIn_off.mpr (by simp only [h2]; exact ⟨Nat.le_refl _, Nat.le_refl _⟩)⟩
  | .inr (.inl p), h, ⟨x, r, h1, h2, h3⟩ =>
    simp only [bIv] at h
    split at h
    · next s e =>
      have h := Option.some.inj h
      subst h
      rw [lAt_eq] at e
      obtain ⟨r', g1, g2, g3⟩ := hE.2 p.1 s.1 s.2 e
      rw [h2] at g1
      cases g1
      refine ⟨x, h1, bIn_off.mpr ⟨?_, ?_⟩⟩
      · show s.1 + p.2 - bB ≤ _
        omega
      · show _ ≤ s.2 + p.2 - bB
        omega
    · cases h
/-- a new number -/
def bNew (E : bE) (q : Nat × Nat) : bV × bE := match Nat.beq q.1 q.2 with
  | true => (.inl q.1, E)
  | false => (.inr (.inl (E.length, bB)), E ++ [q])
theorem bNew_s {n : Nat} {ρ : List Nat} {E : bE} (hE : bRE ρ E) {q : Nat × Nat} {x : Int32} (hx : aIn q.1 q.2 x) : ∃ ρ', ρ <+: ρ' ∧ bRE ρ' (bNew E q).2 ∧ bR n ρ' (bNew E q).1 (.int x) := by
  have hx := bIn_off.mp hx
  unfold bNew
  split
  · next e =>
    have e := Nat.eq_of_beq_eq_true e
    exact ⟨ρ, List.prefix_refl _, hE, x, rfl, by omega⟩
  · refine ⟨ρ ++ [aOff x], List.prefix_append _ _, ⟨by simp [hE.1], ?_⟩, ⟨x, aOff x, rfl, ?_, rfl⟩⟩
    · intro i a b h
      by_cases hi : i < E.length
      · rw [List.getElem?_append_left hi] at h
        rw [List.getElem?_append_left (by rw [hE.1]; exact hi)]
        exact hE.2 i a b h
      · rw [List.getElem?_append_right (by omega)] at h
        have : i = E.length := by
          have := a_lt h
          simp at this
          omega
        subst this
        rw [Nat.sub_self] at h
        cases h
        exact ⟨aOff x, by rw [← hE.1, List.getElem?_append_right (Nat.le_refl _), Nat.sub_self]; rfl, hx.1, hx.2⟩
    · show (ρ ++ [aOff x])[E.length]? = _
      rw [← hE.1, List.getElem?_append_right (Nat.le_refl _), Nat.sub_self]; rfl
/-- a type's value, new -/
def bOfY (E : bE) : bY → bV × bE
  | .inl q => bNew E q
  | .inr (.inl t) => (.inr (.inr (.inl t)), E)
  | .inr (.inr l) => (.inr (.inr (.inr l)), E)
theorem bOfY_s {n : Nat} {ρ : List Nat} {E : bE} (hE : bRE ρ E) {y : bY} {w : Value} (hw : bYr n y w) : ∃ ρ', ρ <+: ρ' ∧ bRE ρ' (bOfY E y).2 ∧ bR n ρ' (bOfY E y).1 w := by
  match y, hw with
  | .inl q, ⟨x, h1, h2, h3⟩ =>
    subst h1
    exact bNew_s hE (bIn_off.mpr ⟨h2, h3⟩)
  | .inr (.inl t), hw => exact ⟨ρ, List.prefix_refl _, hE, hw⟩
  | .inr (.inr l), hw => exact ⟨ρ, List.prefix_refl _, hE, hw⟩
def lHas (l : List Nat) (i : Nat) : Bool := match l with
  | [] => false
  | j :: r => (match Nat.beq i j with
    | true => true
    | false => lHas r i)
theorem lHas_s : ∀ {l : List Nat} {i : Nat}, lHas l i = true → i ∈ l
  | j :: r, i, h => by
    unfold lHas at h
    split at h
    · next e => rw [Nat.eq_of_beq_eq_true e]; exact List.mem_cons_self
    · exact List.mem_cons_of_mem _ (lHas_s h)
def lSub (l m : List Nat) : Bool := lAll (lHas m) l
theorem lAll_m {α : Type} {p : α → Bool} : ∀ {l : List α}, lAll p l = true → ∀ v ∈ l, p v = true
  | [], _, _, h => by cases h
  | u :: r, h, v, hv => by
    unfold lAll at h
    split at h
    · next e =>
      cases hv with
      | head => exact e
      | tail _ hv => exact lAll_m h v hv
    · cases h
theorem lSub_s {l m : List Nat} (h : lSub l m = true) {i : Nat} (hi : i ∈ l) : i ∈ m := lHas_s (lAll_m h i hi)
/-- a value is of a type -/
def bLe (E : bE) (v : bV) (y : bY) : Bool := match y with
  | .inl q => (match bIv E v with
    | some p => (match Nat.ble q.1 p.1 with
      | true => Nat.ble p.2 q.2
      | false => false)
    | none => false)
  | .inr (.inl t) => (match v with
    | .inr (.inr (.inl s)) => Nat.beq s t
    | _ => false)
  | .inr (.inr l) => (match v with
    | .inr (.inr (.inr m)) => lSub m l
    | _ => false)
theorem bLe_s {n : Nat} {ρ : List Nat} {E : bE} (hE : bRE ρ E) {v : bV} {y : bY} (h : bLe E v y = true) {w : Value} (hv : bR n ρ v w) : bYr n y w := by
  unfold bLe at h
  split at h
  · split at h
    · next p e =>
      split at h
      · next e1 =>
        obtain ⟨x, h1, h2⟩ := bIv_s hE e hv
        have h2 := bIn_off.mp h2
        exact ⟨x, h1, Nat.le_trans (a_le e1) h2.1, Nat.le_trans h2.2 (a_le h)⟩
      · cases h
    · cases h
  · split at h
    · rw [← Nat.eq_of_beq_eq_true h]; exact hv
    · cases h
  · split at h
    · obtain ⟨i, h1, h2, h3⟩ := hv
      exact ⟨i, h1, h2, lSub_s h h3⟩
    · cases h
/-- a type within a type -/
def bYle (x y : bY) : Bool := match y with
  | .inl q => (match x with
    | .inl p => (match Nat.ble q.1 p.1 with
      | true => Nat.ble p.2 q.2
      | false => false)
    | _ => false)
  | .inr (.inl t) => (match x with
    | .inr (.inl s) => Nat.beq s t
    | _ => false)
  | .inr (.inr l) => (match x with
    | .inr (.inr m) => lSub m l
    | _ => false)
theorem bYle_s {n : Nat} {x y : bY} (h : bYle x y = true) {w : Value} (hv : bYr n x w) : bYr n y w := by
  unfold bYle at h
  split at h
  · split at h
    · split at h
      · next e1 =>
        obtain ⟨x, h1, h2, h3⟩ := hv
        exact ⟨x, h1, Nat.le_trans (a_le e1) h2, Nat.le_trans h3 (a_le h)⟩
      · cases h
    · cases h
  · split at h
    · rw [← Nat.eq_of_beq_eq_true h]; exact hv
    · cases h
  · split at h
    · obtain ⟨i, h1, h2, h3⟩ := hv
      exact ⟨i, h1, h2, lSub_s h h3⟩
    · cases h
def bCat : bV → Nat
  | .inr (.inr (.inl t)) => (match lHas [1, 2, 6, 7] t with
    | true => 2
    | false => 1)
  | _ => 1
theorem bR_cat {n : Nat} {ρ : List Nat} {v : bV} {w : Value} (hv : bR n ρ v w) : w.category = bCat v := by
  match v, hv with
  | .inl k, ⟨x, h, _⟩ => subst h; rfl
  | .inr (.inl q), ⟨x, r, h, _⟩ => subst h; rfl
  | .inr (.inr (.inl t)), hv =>
    rcases hv with ⟨h, x, rfl⟩ | ⟨h, x, rfl, -⟩ | ⟨h, x, rfl, -⟩ | ⟨h, rfl⟩ | ⟨h, rfl⟩
    · subst h; rfl
    · rcases h with rfl | rfl | rfl <;> rfl
    · rcases h with rfl | rfl <;> rfl
    · subst h; rfl
    · have h1 : lHas [1, 2, 6, 7] t = false := by
        cases e : lHas [1, 2, 6, 7] t with
        | false => rfl
        | true =>
          have := lHas_s e
          simp at this
          unfold amK at h
          omega
      simp only [bCat, h1]; rfl
  | .inr (.inr (.inr l)), ⟨i, h, _⟩ => subst h; rfl
end
