/-! ===== the tables checked, 5 ===== -/
theorem am_c240 : amCode amGG amXX am_n240.1.cls am_n240.2.1 am_m240.2.2.2.1 am_m240.1 am_h240 = true := by decide +kernel
theorem am_k240 : amMkB am_n240 am_m240 am_g240 = true := by decide +kernel
theorem am_c241 : amCode amGG amXX am_n241.1.cls am_n241.2.1 am_m241.2.2.2.1 am_m241.1 am_h241 = true := by decide +kernel
theorem am_k241 : amMkB am_n241 am_m241 am_g241 = true := by decide +kernel
theorem am_c242 : amCode amGG amXX am_n242.1.cls am_n242.2.1 am_m242.2.2.2.1 am_m242.1 am_h242 = true := by decide +kernel
theorem am_k242 : amMkB am_n242 am_m242 am_g242 = true := by decide +kernel
theorem am_c243 : amCode amGG amXX am_n243.1.cls am_n243.2.1 am_m243.2.2.2.1 am_m243.1 am_h243 = true := by decide +kernel
theorem am_k243 : amMkB am_n243 am_m243 am_g243 = true := by decide +kernel
theorem am_c244 : amCode amGG amXX am_n244.1.cls am_n244.2.1 am_m244.2.2.2.1 am_m244.1 am_h244 = true := by decide +kernel
theorem am_k244 : amMkB am_n244 am_m244 am_g244 = true := by decide +kernel
theorem am_c245 : amCode amGG amXX am_n245.1.cls am_n245.2.1 am_m245.2.2.2.1 am_m245.1 am_h245 = true := by decide +kernel
theorem am_k245 : amMkB am_n245 am_m245 am_g245 = true := by decide +kernel
theorem am_c246 : amCode amGG amXX am_n246.1.cls am_n246.2.1 am_m246.2.2.2.1 am_m246.1 am_h246 = true := by decide +kernel
theorem am_k246 : amMkB am_n246 am_m246 am_g246 = true := by decide +kernel
theorem am_c247 : amCode amGG amXX am_n247.1.cls am_n247.2.1 am_m247.2.2.2.1 am_m247.1 am_h247 = true := by decide +kernel
theorem am_k247 : amMkB am_n247 am_m247 am_g247 = true := by decide +kernel
theorem am_c248 : amCode amGG amXX am_n248.1.cls am_n248.2.1 am_m248.2.2.2.1 am_m248.1 am_h248 = true := by decide +kernel
theorem am_k248 : amMkB am_n248 am_m248 am_g248 = true := by decide +kernel
theorem am_c249 : amCode amGG amXX am_n249.1.cls am_n249.2.1 am_m249.2.2.2.1 am_m249.1 am_h249 = true := by decide +kernel
theorem am_k249 : amMkB am_n249 am_m249 am_g249 = true := by decide +kernel
theorem am_c250 : amCode amGG amXX am_n250.1.cls am_n250.2.1 am_m250.2.2.2.1 am_m250.1 am_h250 = true := by decide +kernel
theorem am_k250 : amMkB am_n250 am_m250 am_g250 = true := by decide +kernel
theorem am_c251 : amCode amGG amXX am_n251.1.cls am_n251.2.1 am_m251.2.2.2.1 am_m251.1 am_h251 = true := by decide +kernel
theorem am_k251 : amMkB am_n251 am_m251 am_g251 = true := by decide +kernel
theorem am_c252 : amCode amGG amXX am_n252.1.cls am_n252.2.1 am_m252.2.2.2.1 am_m252.1 am_h252 = true := by decide +kernel
theorem am_k252 : amMkB am_n252 am_m252 am_g252 = true := by decide +kernel
theorem am_c253 : amCode amGG amXX am_n253.1.cls am_n253.2.1 am_m253.2.2.2.1 am_m253.1 am_h253 = true := by decide +kernel
theorem am_k253 : amMkB am_n253 am_m253 am_g253 = true := by decide +kernel
theorem am_c254 : amCode amGG amXX am_n254.1.cls am_n254.2.1 am_m254.2.2.2.1 am_m254.1 am_h254 = true := by decide +kernel
theorem am_k254 : amMkB am_n254 am_m254 am_g254 = true := by decide +kernel
theorem am_c255 : amCode amGG amXX am_n255.1.cls am_n255.2.1 am_m255.2.2.2.1 am_m255.1 am_h255 = true := by decide +kernel
theorem am_k255 : amMkB am_n255 am_m255 am_g255 = true := by decide +kernel
theorem am_c256 : amCode amGG amXX am_n256.1.cls am_n256.2.1 am_m256.2.2.2.1 am_m256.1 am_h256 = true := by decide +kernel
theorem am_k256 : amMkB am_n256 am_m256 am_g256 = true := by decide +kernel
theorem am_c257 : amCode amGG amXX am_n257.1.cls am_n257.2.1 am_m257.2.2.2.1 am_m257.1 am_h257 = true := by decide +kernel
theorem am_k257 : amMkB am_n257 am_m257 am_g257 = true := by decide +kernel
theorem am_c258 : amCode amGG amXX am_n258.1.cls am_n258.2.1 am_m258.2.2.2.1 am_m258.1 am_h258 = true := by decide +kernel
theorem am_k258 : amMkB am_n258 am_m258 am_g258 = true := by decide +kernel
theorem am_c259 : amCode amGG amXX am_n259.1.cls am_n259.2.1 am_m259.2.2.2.1 am_m259.1 am_h259 = true := by decide +kernel
theorem am_k259 : amMkB am_n259 am_m259 am_g259 = true := by decide +kernel
theorem am_c260 : amCode amGG amXX am_n260.1.cls am_n260.2.1 am_m260.2.2.2.1 am_m260.1 am_h260 = true := by decide +kernel
theorem am_k260 : amMkB am_n260 am_m260 am_g260 = true := by decide +kernel
theorem am_c261 : amCode amGG amXX am_n261.1.cls am_n261.2.1 am_m261.2.2.2.1 am_m261.1 am_h261 = true := by decide +kernel
theorem am_k261 : amMkB am_n261 am_m261 am_g261 = true := by decide +kernel
theorem am_c262 : amCode amGG amXX am_n262.1.cls am_n262.2.1 am_m262.2.2.2.1 am_m262.1 am_h262 = true := by decide +kernel
theorem am_k262 : amMkB am_n262 am_m262 am_g262 = true := by decide +kernel
theorem am_c263 : amCode amGG amXX am_n263.1.cls am_n263.2.1 am_m263.2.2.2.1 am_m263.1 am_h263 = true := by decide +kernel
theorem am_k263 : amMkB am_n263 am_m263 am_g263 = true := by decide +kernel
theorem am_c264 : amCode amGG amXX am_n264.1.cls am_n264.2.1 am_m264.2.2.2.1 am_m264.1 am_h264 = true := by decide +kernel
theorem am_k264 : amMkB am_n264 am_m264 am_g264 = true := by decide +kernel
theorem am_c265 : amCode amGG amXX am_n265.1.cls am_n265.2.1 am_m265.2.2.2.1 am_m265.1 am_h265 = true := by decide +kernel
theorem am_k265 : amMkB am_n265 am_m265 am_g265 = true := by decide +kernel
theorem am_c266 : amCode amGG amXX am_n266.1.cls am_n266.2.1 am_m266.2.2.2.1 am_m266.1 am_h266 = true := by decide +kernel
theorem am_k266 : amMkB am_n266 am_m266 am_g266 = true := by decide +kernel
theorem am_c267 : amCode amGG amXX am_n267.1.cls am_n267.2.1 am_m267.2.2.2.1 am_m267.1 am_h267 = true := by decide +kernel
theorem am_k267 : amMkB am_n267 am_m267 am_g267 = true := by decide +kernel
theorem am_c268 : amCode amGG amXX am_n268.1.cls am_n268.2.1 am_m268.2.2.2.1 am_m268.1 am_h268 = true := by decide +kernel
theorem am_k268 : amMkB am_n268 am_m268 am_g268 = true := by decide +kernel
theorem am_c269 : amCode amGG amXX am_n269.1.cls am_n269.2.1 am_m269.2.2.2.1 am_m269.1 am_h269 = true := by decide +kernel
theorem am_k269 : amMkB am_n269 am_m269 am_g269 = true := by decide +kernel
theorem am_c270 : amCode amGG amXX am_n270.1.cls am_n270.2.1 am_m270.2.2.2.1 am_m270.1 am_h270 = true := by decide +kernel
theorem am_k270 : amMkB am_n270 am_m270 am_g270 = true := by decide +kernel
theorem am_c271 : amCode amGG amXX am_n271.1.cls am_n271.2.1 am_m271.2.2.2.1 am_m271.1 am_h271 = true := by decide +kernel
theorem am_k271 : amMkB am_n271 am_m271 am_g271 = true := by decide +kernel
theorem am_c272 : amCode amGG amXX am_n272.1.cls am_n272.2.1 am_m272.2.2.2.1 am_m272.1 am_h272 = true := by decide +kernel
theorem am_k272 : amMkB am_n272 am_m272 am_g272 = true := by decide +kernel
theorem am_c273 : amCode amGG amXX am_n273.1.cls am_n273.2.1 am_m273.2.2.2.1 am_m273.1 am_h273 = true := by decide +kernel
theorem am_k273 : amMkB am_n273 am_m273 am_g273 = true := by decide +kernel
theorem am_c274 : amCode amGG amXX am_n274.1.cls am_n274.2.1 am_m274.2.2.2.1 am_m274.1 am_h274 = true := by decide +kernel
theorem am_k274 : amMkB am_n274 am_m274 am_g274 = true := by decide +kernel
theorem am_c275 : amCode amGG amXX am_n275.1.cls am_n275.2.1 am_m275.2.2.2.1 am_m275.1 am_h275 = true := by decide +kernel
theorem am_k275 : amMkB am_n275 am_m275 am_g275 = true := by decide +kernel
theorem am_c276 : amCode amGG amXX am_n276.1.cls am_n276.2.1 am_m276.2.2.2.1 am_m276.1 am_h276 = true := by decide +kernel
theorem am_k276 : amMkB am_n276 am_m276 am_g276 = true := by decide +kernel
theorem am_c277 : amCode amGG amXX am_n277.1.cls am_n277.2.1 am_m277.2.2.2.1 am_m277.1 am_h277 = true := by decide +kernel
theorem am_k277 : amMkB am_n277 am_m277 am_g277 = true := by decide +kernel
theorem am_c278 : amCode amGG amXX am_n278.1.cls am_n278.2.1 am_m278.2.2.2.1 am_m278.1 am_h278 = true := by decide +kernel
theorem am_k278 : amMkB am_n278 am_m278 am_g278 = true := by decide +kernel
theorem am_c279 : amCode amGG amXX am_n279.1.cls am_n279.2.1 am_m279.2.2.2.1 am_m279.1 am_h279 = true := by decide +kernel
theorem am_k279 : amMkB am_n279 am_m279 am_g279 = true := by decide +kernel
theorem am_c280 : amCode amGG amXX am_n280.1.cls am_n280.2.1 am_m280.2.2.2.1 am_m280.1 am_h280 = true := by decide +kernel
theorem am_k280 : amMkB am_n280 am_m280 am_g280 = true := by decide +kernel
theorem am_c281 : amCode amGG amXX am_n281.1.cls am_n281.2.1 am_m281.2.2.2.1 am_m281.1 am_h281 = true := by decide +kernel
theorem am_k281 : amMkB am_n281 am_m281 am_g281 = true := by decide +kernel
theorem am_c282 : amCode amGG amXX am_n282.1.cls am_n282.2.1 am_m282.2.2.2.1 am_m282.1 am_h282 = true := by decide +kernel
theorem am_k282 : amMkB am_n282 am_m282 am_g282 = true := by decide +kernel
theorem am_c283 : amCode amGG amXX am_n283.1.cls am_n283.2.1 am_m283.2.2.2.1 am_m283.1 am_h283 = true := by decide +kernel
theorem am_k283 : amMkB am_n283 am_m283 am_g283 = true := by decide +kernel
theorem am_c284 : amCode amGG amXX am_n284.1.cls am_n284.2.1 am_m284.2.2.2.1 am_m284.1 am_h284 = true := by decide +kernel
theorem am_k284 : amMkB am_n284 am_m284 am_g284 = true := by decide +kernel
theorem am_c285 : amCode amGG amXX am_n285.1.cls am_n285.2.1 am_m285.2.2.2.1 am_m285.1 am_h285 = true := by decide +kernel
theorem am_k285 : amMkB am_n285 am_m285 am_g285 = true := by decide +kernel
theorem am_c286 : amCode amGG amXX am_n286.1.cls am_n286.2.1 am_m286.2.2.2.1 am_m286.1 am_h286 = true := by decide +kernel
theorem am_k286 : amMkB am_n286 am_m286 am_g286 = true := by decide +kernel
theorem am_c287 : amCode amGG amXX am_n287.1.cls am_n287.2.1 am_m287.2.2.2.1 am_m287.1 am_h287 = true := by decide +kernel
theorem am_k287 : amMkB am_n287 am_m287 am_g287 = true := by decide +kernel
theorem am_t5 : ∀ t ∈ [(am_n240, am_m240), (am_n241, am_m241), (am_n242, am_m242), (am_n243, am_m243), (am_n244, am_m244), (am_n245, am_m245), (am_n246, am_m246), (am_n247, am_m247), (am_n248, am_m248), (am_n249, am_m249), (am_n250, am_m250), (am_n251, am_m251), (am_n252, am_m252), (am_n253, am_m253), (am_n254, am_m254), (am_n255, am_m255), (am_n256, am_m256), (am_n257, am_m257), (am_n258, am_m258), (am_n259, am_m259), (am_n260, am_m260), (am_n261, am_m261), (am_n262, am_m262), (am_n263, am_m263), (am_n264, am_m264), (am_n265, am_m265), (am_n266, am_m266), (am_n267, am_m267), (am_n268, am_m268), (am_n269, am_m269), (am_n270, am_m270), (am_n271, am_m271), (am_n272, am_m272), (am_n273, am_m273), (am_n274, am_m274), (am_n275, am_m275), (am_n276, am_m276), (am_n277, am_m277), (am_n278, am_m278), (am_n279, am_m279), (am_n280, am_m280), (am_n281, am_m281), (am_n282, am_m282), (am_n283, am_m283), (am_n284, am_m284), (am_n285, am_m285), (am_n286, am_m286), (am_n287, am_m287)], amMk amGG amXX t.1 t.2 := by
  intro t ht
  simp only [List.mem_cons, List.not_mem_nil, or_false] at ht
  rcases ht with rfl | rfl | rfl | rfl | rfl | rfl | rfl | rfl | rfl | rfl | rfl | rfl | rfl | rfl | rfl | rfl | rfl | rfl | rfl | rfl | rfl | rfl | rfl | rfl | rfl | rfl | rfl | rfl | rfl | rfl | rfl | rfl | rfl | rfl | rfl | rfl | rfl | rfl | rfl | rfl | rfl | rfl | rfl | rfl | rfl | rfl | rfl | rfl
  · exact amMkB_s am_k240 am_c240
  · exact amMkB_s am_k241 am_c241
  · exact amMkB_s am_k242 am_c242
  · exact amMkB_s am_k243 am_c243
  · exact amMkB_s am_k244 am_c244
  · exact amMkB_s am_k245 am_c245
  · exact amMkB_s am_k246 am_c246
  · exact amMkB_s am_k247 am_c247
  · exact amMkB_s am_k248 am_c248
  · exact amMkB_s am_k249 am_c249
  · exact amMkB_s am_k250 am_c250
  · exact amMkB_s am_k251 am_c251
  · exact amMkB_s am_k252 am_c252
  · exact amMkB_s am_k253 am_c253
  · exact amMkB_s am_k254 am_c254
  · exact amMkB_s am_k255 am_c255
  · exact amMkB_s am_k256 am_c256
  · exact amMkB_s am_k257 am_c257
  · exact amMkB_s am_k258 am_c258
  · exact amMkB_s am_k259 am_c259
  · exact amMkB_s am_k260 am_c260
  · exact amMkB_s am_k261 am_c261
  · exact amMkB_s am_k262 am_c262
  · exact amMkB_s am_k263 am_c263
  · exact amMkB_s am_k264 am_c264
  · exact amMkB_s am_k265 am_c265
  · exact amMkB_s am_k266 am_c266
  · exact amMkB_s am_k267 am_c267
  · exact amMkB_s am_k268 am_c268
  · exact amMkB_s am_k269 am_c269
  · exact amMkB_s am_k270 am_c270
  · exact amMkB_s am_k271 am_c271
  · exact amMkB_s am_k272 am_c272
  · exact amMkB_s am_k273 am_c273
  · exact amMkB_s am_k274 am_c274
  · exact amMkB_s am_k275 am_c275
  · exact amMkB_s am_k276 am_c276
  · exact amMkB_s am_k277 am_c277
  · exact amMkB_s am_k278 am_c278
  · exact amMkB_s am_k279 am_c279
  · exact amMkB_s am_k280 am_c280
  · exact amMkB_s am_k281 am_c281
  · exact amMkB_s am_k282 am_c282
  · exact amMkB_s am_k283 am_c283
  · exact amMkB_s am_k284 am_c284
  · exact amMkB_s am_k285 am_c285
  · exact amMkB_s am_k286 am_c286
  · exact amMkB_s am_k287 am_c287
