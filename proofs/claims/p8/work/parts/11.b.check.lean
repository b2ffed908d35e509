/-! ===== the tables checked, 1 ===== -/
theorem am_f96 : fM amXX amGG am_V am_W9 am_n96 am_m96 am_h96 am_g96 = true := by decide +kernel
theorem am_f97 : fM amXX amGG am_V am_W9 am_n97 am_m97 am_h97 am_g97 = true := by decide +kernel
theorem am_f98 : fM amXX amGG am_V am_W9 am_n98 am_m98 am_h98 am_g98 = true := by decide +kernel
theorem am_f99 : fM amXX amGG am_V am_W10 am_n99 am_m99 am_h99 am_g99 = true := by decide +kernel
theorem am_f100 : fM amXX amGG am_V am_W10 am_n100 am_m100 am_h100 am_g100 = true := by decide +kernel
theorem am_f101 : fM amXX amGG am_V am_W10 am_n101 am_m101 am_h101 am_g101 = true := by decide +kernel
theorem am_f102 : fM amXX amGG am_V am_W10 am_n102 am_m102 am_h102 am_g102 = true := by decide +kernel
theorem am_f103 : fM amXX amGG am_V am_W10 am_n103 am_m103 am_h103 am_g103 = true := by decide +kernel
theorem am_f104 : fM amXX amGG am_V am_W10 am_n104 am_m104 am_h104 am_g104 = true := by decide +kernel
theorem am_f105 : fM amXX amGG am_V am_W10 am_n105 am_m105 am_h105 am_g105 = true := by decide +kernel
theorem am_f106 : fM amXX amGG am_V am_W10 am_n106 am_m106 am_h106 am_g106 = true := by decide +kernel
theorem am_f107 : fM amXX amGG am_V am_W10 am_n107 am_m107 am_h107 am_g107 = true := by decide +kernel
theorem am_f108 : fM amXX amGG am_V am_W10 am_n108 am_m108 am_h108 am_g108 = true := by decide +kernel
theorem am_f109 : fM amXX amGG am_V am_W10 am_n109 am_m109 am_h109 am_g109 = true := by decide +kernel
theorem am_f110 : fM amXX amGG am_V am_W10 am_n110 am_m110 am_h110 am_g110 = true := by decide +kernel
theorem am_f111 : fM amXX amGG am_V am_W10 am_n111 am_m111 am_h111 am_g111 = true := by decide +kernel
theorem am_f112 : fM amXX amGG am_V am_W11 am_n112 am_m112 am_h112 am_g112 = true := by decide +kernel
theorem am_f113 : fM amXX amGG am_V am_W11 am_n113 am_m113 am_h113 am_g113 = true := by decide +kernel
theorem am_f114 : fM amXX amGG am_V am_W11 am_n114 am_m114 am_h114 am_g114 = true := by decide +kernel
theorem am_f115 : fM amXX amGG am_V am_W11 am_n115 am_m115 am_h115 am_g115 = true := by decide +kernel
theorem am_f116 : fM amXX amGG am_V am_W11 am_n116 am_m116 am_h116 am_g116 = true := by decide +kernel
theorem am_f117 : fM amXX amGG am_V am_W11 am_n117 am_m117 am_h117 am_g117 = true := by decide +kernel
theorem am_f118 : fM amXX amGG am_V am_W11 am_n118 am_m118 am_h118 am_g118 = true := by decide +kernel
theorem am_f119 : fM amXX amGG am_V am_W11 am_n119 am_m119 am_h119 am_g119 = true := by decide +kernel
theorem am_f120 : fM amXX amGG am_V am_W11 am_n120 am_m120 am_h120 am_g120 = true := by decide +kernel
theorem am_f121 : fM amXX amGG am_V am_W11 am_n121 am_m121 am_h121 am_g121 = true := by decide +kernel
theorem am_f122 : fM amXX amGG am_V am_W11 am_n122 am_m122 am_h122 am_g122 = true := by decide +kernel
theorem am_f123 : fM amXX amGG am_V am_W11 am_n123 am_m123 am_h123 am_g123 = true := by decide +kernel
theorem am_f124 : fM amXX amGG am_V am_W11 am_n124 am_m124 am_h124 am_g124 = true := by decide +kernel
theorem am_f125 : fM amXX amGG am_V am_W11 am_n125 am_m125 am_h125 am_g125 = true := by decide +kernel
theorem am_f126 : fM amXX amGG am_V am_W11 am_n126 am_m126 am_h126 am_g126 = true := by decide +kernel
theorem am_f127 : fM amXX amGG am_V am_W11 am_n127 am_m127 am_h127 am_g127 = true := by decide +kernel
theorem am_f128 : fM amXX amGG am_V am_W11 am_n128 am_m128 am_h128 am_g128 = true := by decide +kernel
theorem am_f129 : fM amXX amGG am_V am_W11 am_n129 am_m129 am_h129 am_g129 = true := by decide +kernel
theorem am_f130 : fM amXX amGG am_V am_W11 am_n130 am_m130 am_h130 am_g130 = true := by decide +kernel
theorem am_f131 : fM amXX amGG am_V am_W11 am_n131 am_m131 am_h131 am_g131 = true := by decide +kernel
theorem am_f132 : fM amXX amGG am_V am_W11 am_n132 am_m132 am_h132 am_g132 = true := by decide +kernel
theorem am_f133 : fM amXX amGG am_V am_W11 am_n133 am_m133 am_h133 am_g133 = true := by decide +kernel
theorem am_f134 : fM amXX amGG am_V am_W11 am_n134 am_m134 am_h134 am_g134 = true := by decide +kernel
theorem am_f135 : fM amXX amGG am_V am_W11 am_n135 am_m135 am_h135 am_g135 = true := by decide +kernel
theorem am_f136 : fM amXX amGG am_V am_W11 am_n136 am_m136 am_h136 am_g136 = true := by decide +kernel
theorem am_f137 : fM amXX amGG am_V am_W11 am_n137 am_m137 am_h137 am_g137 = true := by decide +kernel
theorem am_f138 : fM amXX amGG am_V am_W11 am_n138 am_m138 am_h138 am_g138 = true := by decide +kernel
theorem am_f139 : fM amXX amGG am_V am_W11 am_n139 am_m139 am_h139 am_g139 = true := by decide +kernel
theorem am_f140 : fM amXX amGG am_V am_W11 am_n140 am_m140 am_h140 am_g140 = true := by decide +kernel
theorem am_f141 : fM amXX amGG am_V am_W11 am_n141 am_m141 am_h141 am_g141 = true := by decide +kernel
theorem am_f142 : fM amXX amGG am_V am_W11 am_n142 am_m142 am_h142 am_g142 = true := by decide +kernel
theorem am_f143 : fM amXX amGG am_V am_W11 am_n143 am_m143 am_h143 am_g143 = true := by decide +kernel
theorem am_f144 : fM amXX amGG am_V am_W11 am_n144 am_m144 am_h144 am_g144 = true := by decide +kernel
theorem am_f145 : fM amXX amGG am_V am_W11 am_n145 am_m145 am_h145 am_g145 = true := by decide +kernel
theorem am_f146 : fM amXX amGG am_V am_W11 am_n146 am_m146 am_h146 am_g146 = true := by decide +kernel
theorem am_f147 : fM amXX amGG am_V am_W11 am_n147 am_m147 am_h147 am_g147 = true := by decide +kernel
theorem am_f148 : fM amXX amGG am_V am_W11 am_n148 am_m148 am_h148 am_g148 = true := by decide +kernel
theorem am_f149 : fM amXX amGG am_V am_W11 am_n149 am_m149 am_h149 am_g149 = true := by decide +kernel
theorem am_f150 : fM amXX amGG am_V am_W11 am_n150 am_m150 am_h150 am_g150 = true := by decide +kernel
theorem am_f151 : fM amXX amGG am_V am_W11 am_n151 am_m151 am_h151 am_g151 = true := by decide +kernel
theorem am_f152 : fM amXX amGG am_V am_W11 am_n152 am_m152 am_h152 am_g152 = true := by decide +kernel
theorem am_f153 : fM amXX amGG am_V am_W11 am_n153 am_m153 am_h153 am_g153 = true := by decide +kernel
theorem am_f154 : fM amXX amGG am_V am_W11 am_n154 am_m154 am_h154 am_g154 = true := by decide +kernel
theorem am_f155 : fM amXX amGG am_V am_W11 am_n155 am_m155 am_h155 am_g155 = true := by decide +kernel
theorem am_f156 : fM amXX amGG am_V am_W11 am_n156 am_m156 am_h156 am_g156 = true := by decide +kernel
theorem am_f157 : fM amXX amGG am_V am_W11 am_n157 am_m157 am_h157 am_g157 = true := by decide +kernel
theorem am_f158 : fM amXX amGG am_V am_W11 am_n158 am_m158 am_h158 am_g158 = true := by decide +kernel
theorem am_f159 : fM amXX amGG am_V am_W11 am_n159 am_m159 am_h159 am_g159 = true := by decide +kernel
theorem am_f160 : fM amXX amGG am_V am_W11 am_n160 am_m160 am_h160 am_g160 = true := by decide +kernel
theorem am_f161 : fM amXX amGG am_V am_W11 am_n161 am_m161 am_h161 am_g161 = true := by decide +kernel
theorem am_f162 : fM amXX amGG am_V am_W11 am_n162 am_m162 am_h162 am_g162 = true := by decide +kernel
theorem am_f163 : fM amXX amGG am_V am_W11 am_n163 am_m163 am_h163 am_g163 = true := by decide +kernel
theorem am_f164 : fM amXX amGG am_V am_W11 am_n164 am_m164 am_h164 am_g164 = true := by decide +kernel
theorem am_f165 : fM amXX amGG am_V am_W11 am_n165 am_m165 am_h165 am_g165 = true := by decide +kernel
theorem am_f166 : fM amXX amGG am_V am_W11 am_n166 am_m166 am_h166 am_g166 = true := by decide +kernel
theorem am_f167 : fM amXX amGG am_V am_W11 am_n167 am_m167 am_h167 am_g167 = true := by decide +kernel
theorem am_f168 : fM amXX amGG am_V am_W11 am_n168 am_m168 am_h168 am_g168 = true := by decide +kernel
theorem am_f169 : fM amXX amGG am_V am_W11 am_n169 am_m169 am_h169 am_g169 = true := by decide +kernel
theorem am_f170 : fM amXX amGG am_V am_W11 am_n170 am_m170 am_h170 am_g170 = true := by decide +kernel
theorem am_f171 : fM amXX amGG am_V am_W11 am_n171 am_m171 am_h171 am_g171 = true := by decide +kernel
theorem am_f172 : fM amXX amGG am_V am_W11 am_n172 am_m172 am_h172 am_g172 = true := by decide +kernel
theorem am_f173 : fM amXX amGG am_V am_W11 am_n173 am_m173 am_h173 am_g173 = true := by decide +kernel
theorem am_f174 : fM amXX amGG am_V am_W11 am_n174 am_m174 am_h174 am_g174 = true := by decide +kernel
theorem am_f175 : fM amXX amGG am_V am_W11 am_n175 am_m175 am_h175 am_g175 = true := by decide +kernel
theorem am_f176 : fM amXX amGG am_V am_W11 am_n176 am_m176 am_h176 am_g176 = true := by decide +kernel
theorem am_f177 : fM amXX amGG am_V am_W11 am_n177 am_m177 am_h177 am_g177 = true := by decide +kernel
theorem am_f178 : fM amXX amGG am_V am_W11 am_n178 am_m178 am_h178 am_g178 = true := by decide +kernel
theorem am_f179 : fM amXX amGG am_V am_W11 am_n179 am_m179 am_h179 am_g179 = true := by decide +kernel
theorem am_f180 : fM amXX amGG am_V am_W11 am_n180 am_m180 am_h180 am_g180 = true := by decide +kernel
theorem am_f181 : fM amXX amGG am_V am_W11 am_n181 am_m181 am_h181 am_g181 = true := by decide +kernel
theorem am_f182 : fM amXX amGG am_V am_W11 am_n182 am_m182 am_h182 am_g182 = true := by decide +kernel
theorem am_f183 : fM amXX amGG am_V am_W11 am_n183 am_m183 am_h183 am_g183 = true := by decide +kernel
theorem am_f184 : fM amXX amGG am_V am_W11 am_n184 am_m184 am_h184 am_g184 = true := by decide +kernel
theorem am_f185 : fM amXX amGG am_V am_W11 am_n185 am_m185 am_h185 am_g185 = true := by decide +kernel
theorem am_f186 : fM amXX amGG am_V am_W11 am_n186 am_m186 am_h186 am_g186 = true := by decide +kernel
theorem am_f187 : fM amXX amGG am_V am_W11 am_n187 am_m187 am_h187 am_g187 = true := by decide +kernel
theorem am_f188 : fM amXX amGG am_V am_W11 am_n188 am_m188 am_h188 am_g188 = true := by decide +kernel
theorem am_f189 : fM amXX amGG am_V am_W11 am_n189 am_m189 am_h189 am_g189 = true := by decide +kernel
theorem am_f190 : fM amXX amGG am_V am_W11 am_n190 am_m190 am_h190 am_g190 = true := by decide +kernel
theorem am_f191 : fM amXX amGG am_V am_W11 am_n191 am_m191 am_h191 am_g191 = true := by decide +kernel
theorem am_t2 : ∀ t ∈ [(am_n96, am_m96), (am_n97, am_m97), (am_n98, am_m98), (am_n99, am_m99), (am_n100, am_m100), (am_n101, am_m101), (am_n102, am_m102), (am_n103, am_m103), (am_n104, am_m104), (am_n105, am_m105), (am_n106, am_m106), (am_n107, am_m107), (am_n108, am_m108), (am_n109, am_m109), (am_n110, am_m110), (am_n111, am_m111), (am_n112, am_m112), (am_n113, am_m113), (am_n114, am_m114), (am_n115, am_m115), (am_n116, am_m116), (am_n117, am_m117), (am_n118, am_m118), (am_n119, am_m119), (am_n120, am_m120), (am_n121, am_m121), (am_n122, am_m122), (am_n123, am_m123), (am_n124, am_m124), (am_n125, am_m125), (am_n126, am_m126), (am_n127, am_m127), (am_n128, am_m128), (am_n129, am_m129), (am_n130, am_m130), (am_n131, am_m131), (am_n132, am_m132), (am_n133, am_m133), (am_n134, am_m134), (am_n135, am_m135), (am_n136, am_m136), (am_n137, am_m137), (am_n138, am_m138), (am_n139, am_m139), (am_n140, am_m140), (am_n141, am_m141), (am_n142, am_m142), (am_n143, am_m143)], amMk amGG amXX t.1 t.2 := by
  intro t ht
  simp only [List.mem_cons, List.not_mem_nil, or_false] at ht
  rcases ht with rfl | rfl | rfl | rfl | rfl | rfl | rfl | rfl | rfl | rfl | rfl | rfl | rfl | rfl | rfl | rfl | rfl | rfl | rfl | rfl | rfl | rfl | rfl | rfl | rfl | rfl | rfl | rfl | rfl | rfl | rfl | rfl | rfl | rfl | rfl | rfl | rfl | rfl | rfl | rfl | rfl | rfl | rfl | rfl | rfl | rfl | rfl | rfl
  · exact fM_s am_zz am_rq (o := 9) rfl am_v am_w9 am_f96
  · exact fM_s am_zz am_rq (o := 9) rfl am_v am_w9 am_f97
  · exact fM_s am_zz am_rq (o := 9) rfl am_v am_w9 am_f98
  · exact fM_s am_zz am_rq (o := 10) rfl am_v am_w10 am_f99
  · exact fM_s am_zz am_rq (o := 10) rfl am_v am_w10 am_f100
  · exact fM_s am_zz am_rq (o := 10) rfl am_v am_w10 am_f101
  · exact fM_s am_zz am_rq (o := 10) rfl am_v am_w10 am_f102
  · exact fM_s am_zz am_rq (o := 10) rfl am_v am_w10 am_f103
  · exact fM_s am_zz am_rq (o := 10) rfl am_v am_w10 am_f104
  · exact fM_s am_zz am_rq (o := 10) rfl am_v am_w10 am_f105
  · exact fM_s am_zz am_rq (o := 10) rfl am_v am_w10 am_f106
  · exact fM_s am_zz am_rq (o := 10) rfl am_v am_w10 am_f107
  · exact fM_s am_zz am_rq (o := 10) rfl am_v am_w10 am_f108
  · exact fM_s am_zz am_rq (o := 10) rfl am_v am_w10 am_f109
  · exact fM_s am_zz am_rq (o := 10) rfl am_v am_w10 am_f110
  · exact fM_s am_zz am_rq (o := 10) rfl am_v am_w10 am_f111
  · exact fM_s am_zz am_rq (o := 11) rfl am_v am_w11 am_f112
  · exact fM_s am_zz am_rq (o := 11) rfl am_v am_w11 am_f113
  · exact fM_s am_zz am_rq (o := 11) rfl am_v am_w11 am_f114
  · exact fM_s am_zz am_rq (o := 11) rfl am_v am_w11 am_f115
  · exact fM_s am_zz am_rq (o := 11) rfl am_v am_w11 am_f116
  · exact fM_s am_zz am_rq (o := 11) rfl am_v am_w11 am_f117
  · exact fM_s am_zz am_rq (o := 11) rfl am_v am_w11 am_f118
  · exact fM_s am_zz am_rq (o := 11) rfl am_v am_w11 am_f119
  · exact fM_s am_zz am_rq (o := 11) rfl am_v am_w11 am_f120
  · exact fM_s am_zz am_rq (o := 11) rfl am_v am_w11 am_f121
  · exact fM_s am_zz am_rq (o := 11) rfl am_v am_w11 am_f122
  · exact fM_s am_zz am_rq (o := 11) rfl am_v am_w11 am_f123
  · exact fM_s am_zz am_rq (o := 11) rfl am_v am_w11 am_f124
  · exact fM_s am_zz am_rq (o := 11) rfl am_v am_w11 am_f125
  · exact fM_s am_zz am_rq (o := 11) rfl am_v am_w11 am_f126
  · exact fM_s am_zz am_rq (o := 11) rfl am_v am_w11 am_f127
  · exact fM_s am_zz am_rq (o := 11) rfl am_v am_w11 am_f128
  · exact fM_s am_zz am_rq (o := 11) rfl am_v am_w11 am_f129
  · exact fM_s am_zz am_rq (o := 11) rfl am_v am_w11 am_f130
  · exact fM_s am_zz am_rq (o := 11) rfl am_v am_w11 am_f131
  · exact fM_s am_zz am_rq (o := 11) rfl am_v am_w11 am_f132
  · exact fM_s am_zz am_rq (o := 11) rfl am_v am_w11 am_f133
  · exact fM_s am_zz am_rq (o := 11) rfl am_v am_w11 am_f134
  · exact fM_s am_zz am_rq (o := 11) rfl am_v am_w11 am_f135
  · exact fM_s am_zz am_rq (o := 11) rfl am_v am_w11 am_f136
  · exact fM_s am_zz am_rq (o := 11) rfl am_v am_w11 am_f137
  · exact fM_s am_zz am_rq (o := 11) rfl am_v am_w11 am_f138
  · exact fM_s am_zz am_rq (o := 11) rfl am_v am_w11 am_f139
  · exact fM_s am_zz am_rq (o := 11) rfl am_v am_w11 am_f140
  · exact fM_s am_zz am_rq (o := 11) rfl am_v am_w11 am_f141
  · exact fM_s am_zz am_rq (o := 11) rfl am_v am_w11 am_f142
  · exact fM_s am_zz am_rq (o := 11) rfl am_v am_w11 am_f143
theorem am_t3 : ∀ t ∈ [(am_n144, am_m144), (am_n145, am_m145), (am_n146, am_m146), (am_n147, am_m147), (am_n148, am_m148), (am_n149, am_m149), (am_n150, am_m150), (am_n151, am_m151), (am_n152, am_m152), (am_n153, am_m153), (am_n154, am_m154), (am_n155, am_m155), (am_n156, am_m156), (am_n157, am_m157), (am_n158, am_m158), (am_n159, am_m159), (am_n160, am_m160), (am_n161, am_m161), (am_n162, am_m162), (am_n163, am_m163), (am_n164, am_m164), (am_n165, am_m165), (am_n166, am_m166), (am_n167, am_m167), (am_n168, am_m168), (am_n169, am_m169), (am_n170, am_m170), (am_n171, am_m171), (am_n172, am_m172), (am_n173, am_m173), (am_n174, am_m174), (am_n175, am_m175), (am_n176, am_m176), (am_n177, am_m177), (am_n178, am_m178), (am_n179, am_m179), (am_n180, am_m180), (am_n181, am_m181), (am_n182, am_m182), (am_n183, am_m183), (am_n184, am_m184), (am_n185, am_m185), (am_n186, am_m186), (am_n187, am_m187), (am_n188, am_m188), (am_n189, am_m189), (am_n190, am_m190), (am_n191, am_m191)], amMk amGG amXX t.1 t.2 := by
  intro t ht
  simp only [List.mem_cons, List.not_mem_nil, or_false] at ht
  rcases ht with rfl | rfl | rfl | rfl | rfl | rfl | rfl | rfl | rfl | rfl | rfl | rfl | rfl | rfl | rfl | rfl | rfl | rfl | rfl | rfl | rfl | rfl | rfl | rfl | rfl | rfl | rfl | rfl | rfl | rfl | rfl | rfl | rfl | rfl | rfl | rfl | rfl | rfl | rfl | rfl | rfl | rfl | rfl | rfl | rfl | rfl | rfl | rfl
  · exact fM_s am_zz am_rq (o := 11) rfl am_v am_w11 am_f144
  · exact fM_s am_zz am_rq (o := 11) rfl am_v am_w11 am_f145
  · exact fM_s am_zz am_rq (o := 11) rfl am_v am_w11 am_f146
  · exact fM_s am_zz am_rq (o := 11) rfl am_v am_w11 am_f147
  · exact fM_s am_zz am_rq (o := 11) rfl am_v am_w11 am_f148
  · exact fM_s am_zz am_rq (o := 11) rfl am_v am_w11 am_f149
  · exact fM_s am_zz am_rq (o := 11) rfl am_v am_w11 am_f150
  · exact fM_s am_zz am_rq (o := 11) rfl am_v am_w11 am_f151
  · exact fM_s am_zz am_rq (o := 11) rfl am_v am_w11 am_f152
  · exact fM_s am_zz am_rq (o := 11) rfl am_v am_w11 am_f153
  · exact fM_s am_zz am_rq (o := 11) rfl am_v am_w11 am_f154
  · exact fM_s am_zz am_rq (o := 11) rfl am_v am_w11 am_f155
  · exact fM_s am_zz am_rq (o := 11) rfl am_v am_w11 am_f156
  · exact fM_s am_zz am_rq (o := 11) rfl am_v am_w11 am_f157
  · exact fM_s am_zz am_rq (o := 11) rfl am_v am_w11 am_f158
  · exact fM_s am_zz am_rq (o := 11) rfl am_v am_w11 am_f159
  · exact fM_s am_zz am_rq (o := 11) rfl am_v am_w11 am_f160
  · exact fM_s am_zz am_rq (o := 11) rfl am_v am_w11 am_f161
  · exact fM_s am_zz am_rq (o := 11) rfl am_v am_w11 am_f162
  · exact fM_s am_zz am_rq (o := 11) rfl am_v am_w11 am_f163
  · exact fM_s am_zz am_rq (o := 11) rfl am_v am_w11 am_f164
  · exact fM_s am_zz am_rq (o := 11) rfl am_v am_w11 am_f165
  · exact fM_s am_zz am_rq (o := 11) rfl am_v am_w11 am_f166
  · exact fM_s am_zz am_rq (o := 11) rfl am_v am_w11 am_f167
  · exact fM_s am_zz am_rq (o := 11) rfl am_v am_w11 am_f168
  · exact fM_s am_zz am_rq (o := 11) rfl am_v am_w11 am_f169
  · exact fM_s am_zz am_rq (o := 11) rfl am_v am_w11 am_f170
  · exact fM_s am_zz am_rq (o := 11) rfl am_v am_w11 am_f171
  · exact fM_s am_zz am_rq (o := 11) rfl am_v am_w11 am_f172
  · exact fM_s am_zz am_rq (o := 11) rfl am_v am_w11 am_f173
  · exact fM_s am_zz am_rq (o := 11) rfl am_v am_w11 am_f174
  · exact fM_s am_zz am_rq (o := 11) rfl am_v am_w11 am_f175
  · exact fM_s am_zz am_rq (o := 11) rfl am_v am_w11 am_f176
  · exact fM_s am_zz am_rq (o := 11) rfl am_v am_w11 am_f177
  · exact fM_s am_zz am_rq (o := 11) rfl am_v am_w11 am_f178
  · exact fM_s am_zz am_rq (o := 11) rfl am_v am_w11 am_f179
  · exact fM_s am_zz am_rq (o := 11) rfl am_v am_w11 am_f180
  · exact fM_s am_zz am_rq (o := 11) rfl am_v am_w11 am_f181
  · exact fM_s am_zz am_rq (o := 11) rfl am_v am_w11 am_f182
  · exact fM_s am_zz am_rq (o := 11) rfl am_v am_w11 am_f183
  · exact fM_s am_zz am_rq (o := 11) rfl am_v am_w11 am_f184
  · exact fM_s am_zz am_rq (o := 11) rfl am_v am_w11 am_f185
  · exact fM_s am_zz am_rq (o := 11) rfl am_v am_w11 am_f186
  · exact fM_s am_zz am_rq (o := 11) rfl am_v am_w11 am_f187
  · exact fM_s am_zz am_rq (o := 11) rfl am_v am_w11 am_f188
  · exact fM_s am_zz am_rq (o := 11) rfl am_v am_w11 am_f189
  · exact fM_s am_zz am_rq (o := 11) rfl am_v am_w11 am_f190
  · exact fM_s am_zz am_rq (o := 11) rfl am_v am_w11 am_f191
