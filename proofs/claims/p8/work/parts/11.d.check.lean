/-! ===== the tables checked, 3 ===== -/
theorem am_c144 : amCode amGG amXX am_n144.1.cls am_n144.2.1 am_m144.2.2.2.1 am_m144.1 am_h144 = true := by decide +kernel
theorem am_k144 : amMkB am_n144 am_m144 am_g144 = true := by decide +kernel
theorem am_c145 : amCode amGG amXX am_n145.1.cls am_n145.2.1 am_m145.2.2.2.1 am_m145.1 am_h145 = true := by decide +kernel
theorem am_k145 : amMkB am_n145 am_m145 am_g145 = true := by decide +kernel
theorem am_c146 : amCode amGG amXX am_n146.1.cls am_n146.2.1 am_m146.2.2.2.1 am_m146.1 am_h146 = true := by decide +kernel
theorem am_k146 : amMkB am_n146 am_m146 am_g146 = true := by decide +kernel
theorem am_c147 : amCode amGG amXX am_n147.1.cls am_n147.2.1 am_m147.2.2.2.1 am_m147.1 am_h147 = true := by decide +kernel
theorem am_k147 : amMkB am_n147 am_m147 am_g147 = true := by decide +kernel
theorem am_c148 : amCode amGG amXX am_n148.1.cls am_n148.2.1 am_m148.2.2.2.1 am_m148.1 am_h148 = true := by decide +kernel
theorem am_k148 : amMkB am_n148 am_m148 am_g148 = true := by decide +kernel
theorem am_c149 : amCode amGG amXX am_n149.1.cls am_n149.2.1 am_m149.2.2.2.1 am_m149.1 am_h149 = true := by decide +kernel
theorem am_k149 : amMkB am_n149 am_m149 am_g149 = true := by decide +kernel
theorem am_c150 : amCode amGG amXX am_n150.1.cls am_n150.2.1 am_m150.2.2.2.1 am_m150.1 am_h150 = true := by decide +kernel
theorem am_k150 : amMkB am_n150 am_m150 am_g150 = true := by decide +kernel
theorem am_c151 : amCode amGG amXX am_n151.1.cls am_n151.2.1 am_m151.2.2.2.1 am_m151.1 am_h151 = true := by decide +kernel
theorem am_k151 : amMkB am_n151 am_m151 am_g151 = true := by decide +kernel
theorem am_c152 : amCode amGG amXX am_n152.1.cls am_n152.2.1 am_m152.2.2.2.1 am_m152.1 am_h152 = true := by decide +kernel
theorem am_k152 : amMkB am_n152 am_m152 am_g152 = true := by decide +kernel
theorem am_c153 : amCode amGG amXX am_n153.1.cls am_n153.2.1 am_m153.2.2.2.1 am_m153.1 am_h153 = true := by decide +kernel
theorem am_k153 : amMkB am_n153 am_m153 am_g153 = true := by decide +kernel
theorem am_c154 : amCode amGG amXX am_n154.1.cls am_n154.2.1 am_m154.2.2.2.1 am_m154.1 am_h154 = true := by decide +kernel
theorem am_k154 : amMkB am_n154 am_m154 am_g154 = true := by decide +kernel
theorem am_c155 : amCode amGG amXX am_n155.1.cls am_n155.2.1 am_m155.2.2.2.1 am_m155.1 am_h155 = true := by decide +kernel
theorem am_k155 : amMkB am_n155 am_m155 am_g155 = true := by decide +kernel
theorem am_c156 : amCode amGG amXX am_n156.1.cls am_n156.2.1 am_m156.2.2.2.1 am_m156.1 am_h156 = true := by decide +kernel
theorem am_k156 : amMkB am_n156 am_m156 am_g156 = true := by decide +kernel
theorem am_c157 : amCode amGG amXX am_n157.1.cls am_n157.2.1 am_m157.2.2.2.1 am_m157.1 am_h157 = true := by decide +kernel
theorem am_k157 : amMkB am_n157 am_m157 am_g157 = true := by decide +kernel
theorem am_c158 : amCode amGG amXX am_n158.1.cls am_n158.2.1 am_m158.2.2.2.1 am_m158.1 am_h158 = true := by decide +kernel
theorem am_k158 : amMkB am_n158 am_m158 am_g158 = true := by decide +kernel
theorem am_c159 : amCode amGG amXX am_n159.1.cls am_n159.2.1 am_m159.2.2.2.1 am_m159.1 am_h159 = true := by decide +kernel
theorem am_k159 : amMkB am_n159 am_m159 am_g159 = true := by decide +kernel
theorem am_c160 : amCode amGG amXX am_n160.1.cls am_n160.2.1 am_m160.2.2.2.1 am_m160.1 am_h160 = true := by decide +kernel
theorem am_k160 : amMkB am_n160 am_m160 am_g160 = true := by decide +kernel
theorem am_c161 : amCode amGG amXX am_n161.1.cls am_n161.2.1 am_m161.2.2.2.1 am_m161.1 am_h161 = true := by decide +kernel
theorem am_k161 : amMkB am_n161 am_m161 am_g161 = true := by decide +kernel
theorem am_c162 : amCode amGG amXX am_n162.1.cls am_n162.2.1 am_m162.2.2.2.1 am_m162.1 am_h162 = true := by decide +kernel
theorem am_k162 : amMkB am_n162 am_m162 am_g162 = true := by decide +kernel
theorem am_c163 : amCode amGG amXX am_n163.1.cls am_n163.2.1 am_m163.2.2.2.1 am_m163.1 am_h163 = true := by decide +kernel
theorem am_k163 : amMkB am_n163 am_m163 am_g163 = true := by decide +kernel
theorem am_c164 : amCode amGG amXX am_n164.1.cls am_n164.2.1 am_m164.2.2.2.1 am_m164.1 am_h164 = true := by decide +kernel
theorem am_k164 : amMkB am_n164 am_m164 am_g164 = true := by decide +kernel
theorem am_c165 : amCode amGG amXX am_n165.1.cls am_n165.2.1 am_m165.2.2.2.1 am_m165.1 am_h165 = true := by decide +kernel
theorem am_k165 : amMkB am_n165 am_m165 am_g165 = true := by decide +kernel
theorem am_c166 : amCode amGG amXX am_n166.1.cls am_n166.2.1 am_m166.2.2.2.1 am_m166.1 am_h166 = true := by decide +kernel
theorem am_k166 : amMkB am_n166 am_m166 am_g166 = true := by decide +kernel
theorem am_c167 : amCode amGG amXX am_n167.1.cls am_n167.2.1 am_m167.2.2.2.1 am_m167.1 am_h167 = true := by decide +kernel
theorem am_k167 : amMkB am_n167 am_m167 am_g167 = true := by decide +kernel
theorem am_c168 : amCode amGG amXX am_n168.1.cls am_n168.2.1 am_m168.2.2.2.1 am_m168.1 am_h168 = true := by decide +kernel
theorem am_k168 : amMkB am_n168 am_m168 am_g168 = true := by decide +kernel
theorem am_c169 : amCode amGG amXX am_n169.1.cls am_n169.2.1 am_m169.2.2.2.1 am_m169.1 am_h169 = true := by decide +kernel
theorem am_k169 : amMkB am_n169 am_m169 am_g169 = true := by decide +kernel
theorem am_c170 : amCode amGG amXX am_n170.1.cls am_n170.2.1 am_m170.2.2.2.1 am_m170.1 am_h170 = true := by decide +kernel
theorem am_k170 : amMkB am_n170 am_m170 am_g170 = true := by decide +kernel
theorem am_c171 : amCode amGG amXX am_n171.1.cls am_n171.2.1 am_m171.2.2.2.1 am_m171.1 am_h171 = true := by decide +kernel
theorem am_k171 : amMkB am_n171 am_m171 am_g171 = true := by decide +kernel
theorem am_c172 : amCode amGG amXX am_n172.1.cls am_n172.2.1 am_m172.2.2.2.1 am_m172.1 am_h172 = true := by decide +kernel
theorem am_k172 : amMkB am_n172 am_m172 am_g172 = true := by decide +kernel
theorem am_c173 : amCode amGG amXX am_n173.1.cls am_n173.2.1 am_m173.2.2.2.1 am_m173.1 am_h173 = true := by decide +kernel
theorem am_k173 : amMkB am_n173 am_m173 am_g173 = true := by decide +kernel
theorem am_c174 : amCode amGG amXX am_n174.1.cls am_n174.2.1 am_m174.2.2.2.1 am_m174.1 am_h174 = true := by decide +kernel
theorem am_k174 : amMkB am_n174 am_m174 am_g174 = true := by decide +kernel
theorem am_c175 : amCode amGG amXX am_n175.1.cls am_n175.2.1 am_m175.2.2.2.1 am_m175.1 am_h175 = true := by decide +kernel
theorem am_k175 : amMkB am_n175 am_m175 am_g175 = true := by decide +kernel
theorem am_c176 : amCode amGG amXX am_n176.1.cls am_n176.2.1 am_m176.2.2.2.1 am_m176.1 am_h176 = true := by decide +kernel
theorem am_k176 : amMkB am_n176 am_m176 am_g176 = true := by decide +kernel
theorem am_c177 : amCode amGG amXX am_n177.1.cls am_n177.2.1 am_m177.2.2.2.1 am_m177.1 am_h177 = true := by decide +kernel
theorem am_k177 : amMkB am_n177 am_m177 am_g177 = true := by decide +kernel
theorem am_c178 : amCode amGG amXX am_n178.1.cls am_n178.2.1 am_m178.2.2.2.1 am_m178.1 am_h178 = true := by decide +kernel
theorem am_k178 : amMkB am_n178 am_m178 am_g178 = true := by decide +kernel
theorem am_c179 : amCode amGG amXX am_n179.1.cls am_n179.2.1 am_m179.2.2.2.1 am_m179.1 am_h179 = true := by decide +kernel
theorem am_k179 : amMkB am_n179 am_m179 am_g179 = true := by decide +kernel
theorem am_c180 : amCode amGG amXX am_n180.1.cls am_n180.2.1 am_m180.2.2.2.1 am_m180.1 am_h180 = true := by decide +kernel
theorem am_k180 : amMkB am_n180 am_m180 am_g180 = true := by decide +kernel
theorem am_c181 : amCode amGG amXX am_n181.1.cls am_n181.2.1 am_m181.2.2.2.1 am_m181.1 am_h181 = true := by decide +kernel
theorem am_k181 : amMkB am_n181 am_m181 am_g181 = true := by decide +kernel
theorem am_c182 : amCode amGG amXX am_n182.1.cls am_n182.2.1 am_m182.2.2.2.1 am_m182.1 am_h182 = true := by decide +kernel
theorem am_k182 : amMkB am_n182 am_m182 am_g182 = true := by decide +kernel
theorem am_c183 : amCode amGG amXX am_n183.1.cls am_n183.2.1 am_m183.2.2.2.1 am_m183.1 am_h183 = true := by decide +kernel
theorem am_k183 : amMkB am_n183 am_m183 am_g183 = true := by decide +kernel
theorem am_c184 : amCode amGG amXX am_n184.1.cls am_n184.2.1 am_m184.2.2.2.1 am_m184.1 am_h184 = true := by decide +kernel
theorem am_k184 : amMkB am_n184 am_m184 am_g184 = true := by decide +kernel
theorem am_c185 : amCode amGG amXX am_n185.1.cls am_n185.2.1 am_m185.2.2.2.1 am_m185.1 am_h185 = true := by decide +kernel
theorem am_k185 : amMkB am_n185 am_m185 am_g185 = true := by decide +kernel
theorem am_c186 : amCode amGG amXX am_n186.1.cls am_n186.2.1 am_m186.2.2.2.1 am_m186.1 am_h186 = true := by decide +kernel
theorem am_k186 : amMkB am_n186 am_m186 am_g186 = true := by decide +kernel
theorem am_c187 : amCode amGG amXX am_n187.1.cls am_n187.2.1 am_m187.2.2.2.1 am_m187.1 am_h187 = true := by decide +kernel
theorem am_k187 : amMkB am_n187 am_m187 am_g187 = true := by decide +kernel
theorem am_c188 : amCode amGG amXX am_n188.1.cls am_n188.2.1 am_m188.2.2.2.1 am_m188.1 am_h188 = true := by decide +kernel
theorem am_k188 : amMkB am_n188 am_m188 am_g188 = true := by decide +kernel
theorem am_c189 : amCode amGG amXX am_n189.1.cls am_n189.2.1 am_m189.2.2.2.1 am_m189.1 am_h189 = true := by decide +kernel
theorem am_k189 : amMkB am_n189 am_m189 am_g189 = true := by decide +kernel
theorem am_c190 : amCode amGG amXX am_n190.1.cls am_n190.2.1 am_m190.2.2.2.1 am_m190.1 am_h190 = true := by decide +kernel
theorem am_k190 : amMkB am_n190 am_m190 am_g190 = true := by decide +kernel
theorem am_c191 : amCode amGG amXX am_n191.1.cls am_n191.2.1 am_m191.2.2.2.1 am_m191.1 am_h191 = true := by decide +kernel
theorem am_k191 : amMkB am_n191 am_m191 am_g191 = true := by decide +kernel
theorem am_t3 : ∀ t ∈ [(am_n144, am_m144), (am_n145, am_m145), (am_n146, am_m146), (am_n147, am_m147), (am_n148, am_m148), (am_n149, am_m149), (am_n150, am_m150), (am_n151, am_m151), (am_n152, am_m152), (am_n153, am_m153), (am_n154, am_m154), (am_n155, am_m155), (am_n156, am_m156), (am_n157, am_m157), (am_n158, am_m158), (am_n159, am_m159), (am_n160, am_m160), (am_n161, am_m161), (am_n162, am_m162), (am_n163, am_m163), (am_n164, am_m164), (am_n165, am_m165), (am_n166, am_m166), (am_n167, am_m167), (am_n168, am_m168), (am_n169, am_m169), (am_n170, am_m170), (am_n171, am_m171), (am_n172, am_m172), (am_n173, am_m173), (am_n174, am_m174), (am_n175, am_m175), (am_n176, am_m176), (am_n177, am_m177), (am_n178, am_m178), (am_n179, am_m179), (am_n180, am_m180), (am_n181, am_m181), (am_n182, am_m182), (am_n183, am_m183), (am_n184, am_m184), (am_n185, am_m185), (am_n186, am_m186), (am_n187, am_m187), (am_n188, am_m188), (am_n189, am_m189), (am_n190, am_m190), (am_n191, am_m191)], amMk amGG amXX t.1 t.2 := by
  intro t ht
  simp only [List.mem_cons, List.not_mem_nil, or_false] at ht
  rcases ht with rfl | rfl | rfl | rfl | rfl | rfl | rfl | rfl | rfl | rfl | rfl | rfl | rfl | rfl | rfl | rfl | rfl | rfl | rfl | rfl | rfl | rfl | rfl | rfl | rfl | rfl | rfl | rfl | rfl | rfl | rfl | rfl | rfl | rfl | rfl | rfl | rfl | rfl | rfl | rfl | rfl | rfl | rfl | rfl | rfl | rfl | rfl | rfl
  · exact amMkB_s am_k144 am_c144
  · exact amMkB_s am_k145 am_c145
  · exact amMkB_s am_k146 am_c146
  · exact amMkB_s am_k147 am_c147
  · exact amMkB_s am_k148 am_c148
  · exact amMkB_s am_k149 am_c149
  · exact amMkB_s am_k150 am_c150
  · exact amMkB_s am_k151 am_c151
  · exact amMkB_s am_k152 am_c152
  · exact amMkB_s am_k153 am_c153
  · exact amMkB_s am_k154 am_c154
  · exact amMkB_s am_k155 am_c155
  · exact amMkB_s am_k156 am_c156
  · exact amMkB_s am_k157 am_c157
  · exact amMkB_s am_k158 am_c158
  · exact amMkB_s am_k159 am_c159
  · exact amMkB_s am_k160 am_c160
  · exact amMkB_s am_k161 am_c161
  · exact amMkB_s am_k162 am_c162
  · exact amMkB_s am_k163 am_c163
  · exact amMkB_s am_k164 am_c164
  · exact amMkB_s am_k165 am_c165
  · exact amMkB_s am_k166 am_c166
  · exact amMkB_s am_k167 am_c167
  · exact amMkB_s am_k168 am_c168
  · exact amMkB_s am_k169 am_c169
  · exact amMkB_s am_k170 am_c170
  · exact amMkB_s am_k171 am_c171
  · exact amMkB_s am_k172 am_c172
  · exact amMkB_s am_k173 am_c173
  · exact amMkB_s am_k174 am_c174
  · exact amMkB_s am_k175 am_c175
  · exact amMkB_s am_k176 am_c176
  · exact amMkB_s am_k177 am_c177
  · exact amMkB_s am_k178 am_c178
  · exact amMkB_s am_k179 am_c179
  · exact amMkB_s am_k180 am_c180
  · exact amMkB_s am_k181 am_c181
  · exact amMkB_s am_k182 am_c182
  · exact amMkB_s am_k183 am_c183
  · exact amMkB_s am_k184 am_c184
  · exact amMkB_s am_k185 am_c185
  · exact amMkB_s am_k186 am_c186
  · exact amMkB_s am_k187 am_c187
  · exact amMkB_s am_k188 am_c188
  · exact amMkB_s am_k189 am_c189
  · exact amMkB_s am_k190 am_c190
  · exact amMkB_s am_k191 am_c191
