/-! ===== the tables checked, 6 ===== -/
theorem am_c288 : amCode amGG amXX am_n288.1.cls am_n288.2.1 am_m288.2.2.2.1 am_m288.1 am_h288 = true := by decide +kernel
theorem am_k288 : amMkB am_n288 am_m288 am_g288 = true := by decide +kernel
theorem am_c289 : amCode amGG amXX am_n289.1.cls am_n289.2.1 am_m289.2.2.2.1 am_m289.1 am_h289 = true := by decide +kernel
theorem am_k289 : amMkB am_n289 am_m289 am_g289 = true := by decide +kernel
theorem am_c290 : amCode amGG amXX am_n290.1.cls am_n290.2.1 am_m290.2.2.2.1 am_m290.1 am_h290 = true := by decide +kernel
theorem am_k290 : amMkB am_n290 am_m290 am_g290 = true := by decide +kernel
theorem am_c291 : amCode amGG amXX am_n291.1.cls am_n291.2.1 am_m291.2.2.2.1 am_m291.1 am_h291 = true := by decide +kernel
theorem am_k291 : amMkB am_n291 am_m291 am_g291 = true := by decide +kernel
theorem am_c292 : amCode amGG amXX am_n292.1.cls am_n292.2.1 am_m292.2.2.2.1 am_m292.1 am_h292 = true := by decide +kernel
theorem am_k292 : amMkB am_n292 am_m292 am_g292 = true := by decide +kernel
theorem am_c293 : amCode amGG amXX am_n293.1.cls am_n293.2.1 am_m293.2.2.2.1 am_m293.1 am_h293 = true := by decide +kernel
theorem am_k293 : amMkB am_n293 am_m293 am_g293 = true := by decide +kernel
theorem am_c294 : amCode amGG amXX am_n294.1.cls am_n294.2.1 am_m294.2.2.2.1 am_m294.1 am_h294 = true := by decide +kernel
theorem am_k294 : amMkB am_n294 am_m294 am_g294 = true := by decide +kernel
theorem am_c295 : amCode amGG amXX am_n295.1.cls am_n295.2.1 am_m295.2.2.2.1 am_m295.1 am_h295 = true := by decide +kernel
theorem am_k295 : amMkB am_n295 am_m295 am_g295 = true := by decide +kernel
theorem am_c296 : amCode amGG amXX am_n296.1.cls am_n296.2.1 am_m296.2.2.2.1 am_m296.1 am_h296 = true := by decide +kernel
theorem am_k296 : amMkB am_n296 am_m296 am_g296 = true := by decide +kernel
theorem am_c297 : amCode amGG amXX am_n297.1.cls am_n297.2.1 am_m297.2.2.2.1 am_m297.1 am_h297 = true := by decide +kernel
theorem am_k297 : amMkB am_n297 am_m297 am_g297 = true := by decide +kernel
theorem am_c298 : amCode amGG amXX am_n298.1.cls am_n298.2.1 am_m298.2.2.2.1 am_m298.1 am_h298 = true := by decide +kernel
theorem am_k298 : amMkB am_n298 am_m298 am_g298 = true := by decide +kernel
theorem am_c299 : amCode amGG amXX am_n299.1.cls am_n299.2.1 am_m299.2.2.2.1 am_m299.1 am_h299 = true := by decide +kernel
theorem am_k299 : amMkB am_n299 am_m299 am_g299 = true := by decide +kernel
theorem am_c300 : amCode amGG amXX am_n300.1.cls am_n300.2.1 am_m300.2.2.2.1 am_m300.1 am_h300 = true := by decide +kernel
theorem am_k300 : amMkB am_n300 am_m300 am_g300 = true := by decide +kernel
theorem am_c301 : amCode amGG amXX am_n301.1.cls am_n301.2.1 am_m301.2.2.2.1 am_m301.1 am_h301 = true := by decide +kernel
theorem am_k301 : amMkB am_n301 am_m301 am_g301 = true := by decide +kernel
theorem am_c302 : amCode amGG amXX am_n302.1.cls am_n302.2.1 am_m302.2.2.2.1 am_m302.1 am_h302 = true := by decide +kernel
theorem am_k302 : amMkB am_n302 am_m302 am_g302 = true := by decide +kernel
theorem am_c303 : amCode amGG amXX am_n303.1.cls am_n303.2.1 am_m303.2.2.2.1 am_m303.1 am_h303 = true := by decide +kernel
theorem am_k303 : amMkB am_n303 am_m303 am_g303 = true := by decide +kernel
theorem am_c304 : amCode amGG amXX am_n304.1.cls am_n304.2.1 am_m304.2.2.2.1 am_m304.1 am_h304 = true := by decide +kernel
theorem am_k304 : amMkB am_n304 am_m304 am_g304 = true := by decide +kernel
theorem am_c305 : amCode amGG amXX am_n305.1.cls am_n305.2.1 am_m305.2.2.2.1 am_m305.1 am_h305 = true := by decide +kernel
theorem am_k305 : amMkB am_n305 am_m305 am_g305 = true := by decide +kernel
theorem am_c306 : amCode amGG amXX am_n306.1.cls am_n306.2.1 am_m306.2.2.2.1 am_m306.1 am_h306 = true := by decide +kernel
theorem am_k306 : amMkB am_n306 am_m306 am_g306 = true := by decide +kernel
theorem am_c307 : amCode amGG amXX am_n307.1.cls am_n307.2.1 am_m307.2.2.2.1 am_m307.1 am_h307 = true := by decide +kernel
theorem am_k307 : amMkB am_n307 am_m307 am_g307 = true := by decide +kernel
theorem am_c308 : amCode amGG amXX am_n308.1.cls am_n308.2.1 am_m308.2.2.2.1 am_m308.1 am_h308 = true := by decide +kernel
theorem am_k308 : amMkB am_n308 am_m308 am_g308 = true := by decide +kernel
theorem am_c309 : amCode amGG amXX am_n309.1.cls am_n309.2.1 am_m309.2.2.2.1 am_m309.1 am_h309 = true := by decide +kernel
theorem am_k309 : amMkB am_n309 am_m309 am_g309 = true := by decide +kernel
theorem am_c310 : amCode amGG amXX am_n310.1.cls am_n310.2.1 am_m310.2.2.2.1 am_m310.1 am_h310 = true := by decide +kernel
theorem am_k310 : amMkB am_n310 am_m310 am_g310 = true := by decide +kernel
theorem am_c311 : amCode amGG amXX am_n311.1.cls am_n311.2.1 am_m311.2.2.2.1 am_m311.1 am_h311 = true := by decide +kernel
theorem am_k311 : amMkB am_n311 am_m311 am_g311 = true := by decide +kernel
theorem am_c312 : amCode amGG amXX am_n312.1.cls am_n312.2.1 am_m312.2.2.2.1 am_m312.1 am_h312 = true := by decide +kernel
theorem am_k312 : amMkB am_n312 am_m312 am_g312 = true := by decide +kernel
theorem am_c313 : amCode amGG amXX am_n313.1.cls am_n313.2.1 am_m313.2.2.2.1 am_m313.1 am_h313 = true := by decide +kernel
theorem am_k313 : amMkB am_n313 am_m313 am_g313 = true := by decide +kernel
theorem am_c314 : amCode amGG amXX am_n314.1.cls am_n314.2.1 am_m314.2.2.2.1 am_m314.1 am_h314 = true := by decide +kernel
theorem am_k314 : amMkB am_n314 am_m314 am_g314 = true := by decide +kernel
theorem am_c315 : amCode amGG amXX am_n315.1.cls am_n315.2.1 am_m315.2.2.2.1 am_m315.1 am_h315 = true := by decide +kernel
theorem am_k315 : amMkB am_n315 am_m315 am_g315 = true := by decide +kernel
theorem am_c316 : amCode amGG amXX am_n316.1.cls am_n316.2.1 am_m316.2.2.2.1 am_m316.1 am_h316 = true := by decide +kernel
theorem am_k316 : amMkB am_n316 am_m316 am_g316 = true := by decide +kernel
theorem am_c317 : amCode amGG amXX am_n317.1.cls am_n317.2.1 am_m317.2.2.2.1 am_m317.1 am_h317 = true := by decide +kernel
theorem am_k317 : amMkB am_n317 am_m317 am_g317 = true := by decide +kernel
theorem am_c318 : amCode amGG amXX am_n318.1.cls am_n318.2.1 am_m318.2.2.2.1 am_m318.1 am_h318 = true := by decide +kernel
theorem am_k318 : amMkB am_n318 am_m318 am_g318 = true := by decide +kernel
theorem am_c319 : amCode amGG amXX am_n319.1.cls am_n319.2.1 am_m319.2.2.2.1 am_m319.1 am_h319 = true := by decide +kernel
theorem am_k319 : amMkB am_n319 am_m319 am_g319 = true := by decide +kernel
theorem am_c320 : amCode amGG amXX am_n320.1.cls am_n320.2.1 am_m320.2.2.2.1 am_m320.1 am_h320 = true := by decide +kernel
theorem am_k320 : amMkB am_n320 am_m320 am_g320 = true := by decide +kernel
theorem am_c321 : amCode amGG amXX am_n321.1.cls am_n321.2.1 am_m321.2.2.2.1 am_m321.1 am_h321 = true := by decide +kernel
theorem am_k321 : amMkB am_n321 am_m321 am_g321 = true := by decide +kernel
theorem am_c322 : amCode amGG amXX am_n322.1.cls am_n322.2.1 am_m322.2.2.2.1 am_m322.1 am_h322 = true := by decide +kernel
theorem am_k322 : amMkB am_n322 am_m322 am_g322 = true := by decide +kernel
theorem am_c323 : amCode amGG amXX am_n323.1.cls am_n323.2.1 am_m323.2.2.2.1 am_m323.1 am_h323 = true := by decide +kernel
theorem am_k323 : amMkB am_n323 am_m323 am_g323 = true := by decide +kernel
theorem am_c324 : amCode amGG amXX am_n324.1.cls am_n324.2.1 am_m324.2.2.2.1 am_m324.1 am_h324 = true := by decide +kernel
theorem am_k324 : amMkB am_n324 am_m324 am_g324 = true := by decide +kernel
theorem am_c325 : amCode amGG amXX am_n325.1.cls am_n325.2.1 am_m325.2.2.2.1 am_m325.1 am_h325 = true := by decide +kernel
theorem am_k325 : amMkB am_n325 am_m325 am_g325 = true := by decide +kernel
theorem am_c326 : amCode amGG amXX am_n326.1.cls am_n326.2.1 am_m326.2.2.2.1 am_m326.1 am_h326 = true := by decide +kernel
theorem am_k326 : amMkB am_n326 am_m326 am_g326 = true := by decide +kernel
theorem am_c327 : amCode amGG amXX am_n327.1.cls am_n327.2.1 am_m327.2.2.2.1 am_m327.1 am_h327 = true := by decide +kernel
theorem am_k327 : amMkB am_n327 am_m327 am_g327 = true := by decide +kernel
theorem am_c328 : amCode amGG amXX am_n328.1.cls am_n328.2.1 am_m328.2.2.2.1 am_m328.1 am_h328 = true := by decide +kernel
theorem am_k328 : amMkB am_n328 am_m328 am_g328 = true := by decide +kernel
theorem am_c329 : amCode amGG amXX am_n329.1.cls am_n329.2.1 am_m329.2.2.2.1 am_m329.1 am_h329 = true := by decide +kernel
theorem am_k329 : amMkB am_n329 am_m329 am_g329 = true := by decide +kernel
theorem am_c330 : amCode amGG amXX am_n330.1.cls am_n330.2.1 am_m330.2.2.2.1 am_m330.1 am_h330 = true := by decide +kernel
theorem am_k330 : amMkB am_n330 am_m330 am_g330 = true := by decide +kernel
theorem am_c331 : amCode amGG amXX am_n331.1.cls am_n331.2.1 am_m331.2.2.2.1 am_m331.1 am_h331 = true := by decide +kernel
theorem am_k331 : amMkB am_n331 am_m331 am_g331 = true := by decide +kernel
theorem am_c332 : amCode amGG amXX am_n332.1.cls am_n332.2.1 am_m332.2.2.2.1 am_m332.1 am_h332 = true := by decide +kernel
theorem am_k332 : amMkB am_n332 am_m332 am_g332 = true := by decide +kernel
theorem am_c333 : amCode amGG amXX am_n333.1.cls am_n333.2.1 am_m333.2.2.2.1 am_m333.1 am_h333 = true := by decide +kernel
theorem am_k333 : amMkB am_n333 am_m333 am_g333 = true := by decide +kernel
theorem am_c334 : amCode amGG amXX am_n334.1.cls am_n334.2.1 am_m334.2.2.2.1 am_m334.1 am_h334 = true := by decide +kernel
theorem am_k334 : amMkB am_n334 am_m334 am_g334 = true := by decide +kernel
theorem am_c335 : amCode amGG amXX am_n335.1.cls am_n335.2.1 am_m335.2.2.2.1 am_m335.1 am_h335 = true := by decide +kernel
theorem am_k335 : amMkB am_n335 am_m335 am_g335 = true := by decide +kernel
theorem am_t6 : ∀ t ∈ [(am_n288, am_m288), (am_n289, am_m289), (am_n290, am_m290), (am_n291, am_m291), (am_n292, am_m292), (am_n293, am_m293), (am_n294, am_m294), (am_n295, am_m295), (am_n296, am_m296), (am_n297, am_m297), (am_n298, am_m298), (am_n299, am_m299), (am_n300, am_m300), (am_n301, am_m301), (am_n302, am_m302), (am_n303, am_m303), (am_n304, am_m304), (am_n305, am_m305), (am_n306, am_m306), (am_n307, am_m307), (am_n308, am_m308), (am_n309, am_m309), (am_n310, am_m310), (am_n311, am_m311), (am_n312, am_m312), (am_n313, am_m313), (am_n314, am_m314), (am_n315, am_m315), (am_n316, am_m316), (am_n317, am_m317), (am_n318, am_m318), (am_n319, am_m319), (am_n320, am_m320), (am_n321, am_m321), (am_n322, am_m322), (am_n323, am_m323), (am_n324, am_m324), (am_n325, am_m325), (am_n326, am_m326), (am_n327, am_m327), (am_n328, am_m328), (am_n329, am_m329), (am_n330, am_m330), (am_n331, am_m331), (am_n332, am_m332), (am_n333, am_m333), (am_n334, am_m334), (am_n335, am_m335)], amMk amGG amXX t.1 t.2 := by
  intro t ht
  simp only [List.mem_cons, List.not_mem_nil, or_false] at ht
  rcases ht with rfl | rfl | rfl | rfl | rfl | rfl | rfl | rfl | rfl | rfl | rfl | rfl | rfl | rfl | rfl | rfl | rfl | rfl | rfl | rfl | rfl | rfl | rfl | rfl | rfl | rfl | rfl | rfl | rfl | rfl | rfl | rfl | rfl | rfl | rfl | rfl | rfl | rfl | rfl | rfl | rfl | rfl | rfl | rfl | rfl | rfl | rfl | rfl
  · exact amMkB_s am_k288 am_c288
  · exact amMkB_s am_k289 am_c289
  · exact amMkB_s am_k290 am_c290
  · exact amMkB_s am_k291 am_c291
  · exact amMkB_s am_k292 am_c292
  · exact amMkB_s am_k293 am_c293
  · exact amMkB_s am_k294 am_c294
  · exact amMkB_s am_k295 am_c295
  · exact amMkB_s am_k296 am_c296
  · exact amMkB_s am_k297 am_c297
  · exact amMkB_s am_k298 am_c298
  · exact amMkB_s am_k299 am_c299
  · exact amMkB_s am_k300 am_c300
  · exact amMkB_s am_k301 am_c301
  · exact amMkB_s am_k302 am_c302
  · exact amMkB_s am_k303 am_c303
  · exact amMkB_s am_k304 am_c304
  · exact amMkB_s am_k305 am_c305
  · exact amMkB_s am_k306 am_c306
  · exact amMkB_s am_k307 am_c307
  · exact amMkB_s am_k308 am_c308
  · exact amMkB_s am_k309 am_c309
  · exact amMkB_s am_k310 am_c310
  · exact amMkB_s am_k311 am_c311
  · exact amMkB_s am_k312 am_c312
  · exact amMkB_s am_k313 am_c313
  · exact amMkB_s am_k314 am_c314
  · exact amMkB_s am_k315 am_c315
  · exact amMkB_s am_k316 am_c316
  · exact amMkB_s am_k317 am_c317
  · exact amMkB_s am_k318 am_c318
  · exact amMkB_s am_k319 am_c319
  · exact amMkB_s am_k320 am_c320
  · exact amMkB_s am_k321 am_c321
  · exact amMkB_s am_k322 am_c322
  · exact amMkB_s am_k323 am_c323
  · exact amMkB_s am_k324 am_c324
  · exact amMkB_s am_k325 am_c325
  · exact amMkB_s am_k326 am_c326
  · exact amMkB_s am_k327 am_c327
  · exact amMkB_s am_k328 am_c328
  · exact amMkB_s am_k329 am_c329
  · exact amMkB_s am_k330 am_c330
  · exact amMkB_s am_k331 am_c331
  · exact amMkB_s am_k332 am_c332
  · exact amMkB_s am_k333 am_c333
  · exact amMkB_s am_k334 am_c334
  · exact amMkB_s am_k335 am_c335
