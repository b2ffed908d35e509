/-! ##### 11.d.check ##### -/
section
/-! ===== the tables checked, 3 ===== -/
theorem am_f288 : fM amXX amGG am_V am_W12 am_n288 am_m288 am_h288 am_g288 = true := by decide +kernel
theorem am_f289 : fM amXX amGG am_V am_W12 am_n289 am_m289 am_h289 am_g289 = true := by decide +kernel
theorem am_f290 : fM amXX amGG am_V am_W12 am_n290 am_m290 am_h290 am_g290 = true := by decide +kernel
theorem am_f291 : fM amXX amGG am_V am_W12 am_n291 am_m291 am_h291 am_g291 = true := by decide +kernel
theorem am_f292 : fM amXX amGG am_V am_W12 am_n292 am_m292 am_h292 am_g292 = true := by decide +kernel
theorem am_f293 : fM amXX amGG am_V am_W12 am_n293 am_m293 am_h293 am_g293 = true := by decide +kernel
theorem am_f294 : fM amXX amGG am_V am_W12 am_n294 am_m294 am_h294 am_g294 = true := by decide +kernel
theorem am_f295 : fM amXX amGG am_V am_W12 am_n295 am_m295 am_h295 am_g295 = true := by decide +kernel
theorem am_f296 : fM amXX amGG am_V am_W12 am_n296 am_m296 am_h296 am_g296 = true := by decide +kernel
theorem am_f297 : fM amXX amGG am_V am_W12 am_n297 am_m297 am_h297 am_g297 = true := by decide +kernel
theorem am_f298 : fM amXX amGG am_V am_W12 am_n298 am_m298 am_h298 am_g298 = true := by decide +kernel
theorem am_f299 : fM amXX amGG am_V am_W12 am_n299 am_m299 am_h299 am_g299 = true := by decide +kernel
theorem am_f300 : fM amXX amGG am_V am_W12 am_n300 am_m300 am_h300 am_g300 = true := by decide +kernel
theorem am_f301 : fM amXX amGG am_V am_W12 am_n301 am_m301 am_h301 am_g301 = true := by decide +kernel
theorem am_f302 : fM amXX amGG am_V am_W12 am_n302 am_m302 am_h302 am_g302 = true := by decide +kernel
theorem am_f303 : fM amXX amGG am_V am_W12 am_n303 am_m303 am_h303 am_g303 = true := by decide +kernel
theorem am_f304 : fM amXX amGG am_V am_W12 am_n304 am_m304 am_h304 am_g304 = true := by decide +kernel
theorem am_f305 : fM amXX amGG am_V am_W12 am_n305 am_m305 am_h305 am_g305 = true := by decide +kernel
theorem am_f306 : fM amXX amGG am_V am_W12 am_n306 am_m306 am_h306 am_g306 = true := by decide +kernel
theorem am_f307 : fM amXX amGG am_V am_W12 am_n307 am_m307 am_h307 am_g307 = true := by decide +kernel
theorem am_f308 : fM amXX amGG am_V am_W12 am_n308 am_m308 am_h308 am_g308 = true := by decide +kernel
theorem am_f309 : fM amXX amGG am_V am_W12 am_n309 am_m309 am_h309 am_g309 = true := by decide +kernel
theorem am_f310 : fM amXX amGG am_V am_W12 am_n310 am_m310 am_h310 am_g310 = true := by decide +kernel
theorem am_f311 : fM amXX amGG am_V am_W12 am_n311 am_m311 am_h311 am_g311 = true := by decide +kernel
theorem am_f312 : fM amXX amGG am_V am_W12 am_n312 am_m312 am_h312 am_g312 = true := by decide +kernel
theorem am_f313 : fM amXX amGG am_V am_W12 am_n313 am_m313 am_h313 am_g313 = true := by decide +kernel
theorem am_f314 : fM amXX amGG am_V am_W12 am_n314 am_m314 am_h314 am_g314 = true := by decide +kernel
theorem am_f315 : fM amXX amGG am_V am_W12 am_n315 am_m315 am_h315 am_g315 = true := by decide +kernel
theorem am_f316 : fM amXX amGG am_V am_W12 am_n316 am_m316 am_h316 am_g316 = true := by decide +kernel
theorem am_f317 : fM amXX amGG am_V am_W12 am_n317 am_m317 am_h317 am_g317 = true := by decide +kernel
theorem am_f318 : fM amXX amGG am_V am_W12 am_n318 am_m318 am_h318 am_g318 = true := by decide +kernel
theorem am_f319 : fM amXX amGG am_V am_W12 am_n319 am_m319 am_h319 am_g319 = true := by decide +kernel
theorem am_f320 : fM amXX amGG am_V am_W12 am_n320 am_m320 am_h320 am_g320 = true := by decide +kernel
theorem am_f321 : fM amXX amGG am_V am_W12 am_n321 am_m321 am_h321 am_g321 = true := by decide +kernel
theorem am_f322 : fM amXX amGG am_V am_W12 am_n322 am_m322 am_h322 am_g322 = true := by decide +kernel
theorem am_f323 : fM amXX amGG am_V am_W12 am_n323 am_m323 am_h323 am_g323 = true := by decide +kernel
theorem am_f324 : fM amXX amGG am_V am_W12 am_n324 am_m324 am_h324 am_g324 = true := by decide +kernel
theorem am_f325 : fM amXX amGG am_V am_W12 am_n325 am_m325 am_h325 am_g325 = true := by decide +kernel
theorem am_f326 : fM amXX amGG am_V am_W12 am_n326 am_m326 am_h326 am_g326 = true := by decide +kernel
theorem am_f327 : fM amXX amGG am_V am_W12 am_n327 am_m327 am_h327 am_g327 = true := by decide +kernel
theorem am_f328 : fM amXX amGG am_V am_W12 am_n328 am_m328 am_h328 am_g328 = true := by decide +kernel
theorem am_f329 : fM amXX amGG am_V am_W12 am_n329 am_m329 am_h329 am_g329 = true := by decide +kernel
theorem am_f330 : fM amXX amGG am_V am_W12 am_n330 am_m330 am_h330 am_g330 = true := by decide +kernel
theorem am_f331 : fM amXX amGG am_V am_W12 am_n331 am_m331 am_h331 am_g331 = true := by decide +kernel
theorem am_f332 : fM amXX amGG am_V am_W12 am_n332 am_m332 am_h332 am_g332 = true := by decide +kernel
theorem am_f333 : fM amXX amGG am_V am_W12 am_n333 am_m333 am_h333 am_g333 = true := by decide +kernel
theorem am_f334 : fM amXX amGG am_V am_W12 am_n334 am_m334 am_h334 am_g334 = true := by decide +kernel
theorem am_f335 : fM amXX amGG am_V am_W12 am_n335 am_m335 am_h335 am_g335 = true := by decide +kernel
theorem am_f336 : fM amXX amGG am_V am_W12 am_n336 am_m336 am_h336 am_g336 = true := by decide +kernel
theorem am_f337 : fM amXX amGG am_V am_W12 am_n337 am_m337 am_h337 am_g337 = true := by decide +kernel
theorem am_f338 : fM amXX amGG am_V am_W12 am_n338 am_m338 am_h338 am_g338 = true := by decide +kernel
theorem am_f339 : fM amXX amGG am_V am_W12 am_n339 am_m339 am_h339 am_g339 = true := by decide +kernel
theorem am_f340 : fM amXX amGG am_V am_W12 am_n340 am_m340 am_h340 am_g340 = true := by decide +kernel
theorem am_f341 : fM amXX amGG am_V am_W12 am_n341 am_m341 am_h341 am_g341 = true := by decide +kernel
theorem am_f342 : fM amXX amGG am_V am_W13 am_n342 am_m342 am_h342 am_g342 = true := by decide +kernel
theorem am_f343 : fM amXX amGG am_V am_W13 am_n343 am_m343 am_h343 am_g343 = true := by decide +kernel
theorem am_f344 : fM amXX amGG am_V am_W14 am_n344 am_m344 am_h344 am_g344 = true := by decide +kernel
theorem am_f345 : fM amXX amGG am_V am_W15 am_n345 am_m345 am_h345 am_g345 = true := by decide +kernel
theorem am_f346 : fM amXX amGG am_V am_W15 am_n346 am_m346 am_h346 am_g346 = true := by decide +kernel
theorem am_f347 : fM amXX amGG am_V am_W15 am_n347 am_m347 am_h347 am_g347 = true := by decide +kernel
theorem am_f348 : fM amXX amGG am_V am_W16 am_n348 am_m348 am_h348 am_g348 = true := by decide +kernel
theorem am_f349 : fM amXX amGG am_V am_W16 am_n349 am_m349 am_h349 am_g349 = true := by decide +kernel
theorem am_f350 : fM amXX amGG am_V am_W16 am_n350 am_m350 am_h350 am_g350 = true := by decide +kernel
theorem am_f351 : fM amXX amGG am_V am_W16 am_n351 am_m351 am_h351 am_g351 = true := by decide +kernel
theorem am_f352 : fM amXX amGG am_V am_W16 am_n352 am_m352 am_h352 am_g352 = true := by decide +kernel
theorem am_f353 : fM amXX amGG am_V am_W16 am_n353 am_m353 am_h353 am_g353 = true := by decide +kernel
theorem am_f354 : fM amXX amGG am_V am_W16 am_n354 am_m354 am_h354 am_g354 = true := by decide +kernel
theorem am_f355 : fM amXX amGG am_V am_W16 am_n355 am_m355 am_h355 am_g355 = true := by decide +kernel
theorem am_f356 : fM amXX amGG am_V am_W16 am_n356 am_m356 am_h356 am_g356 = true := by decide +kernel
theorem am_f357 : fM amXX amGG am_V am_W16 am_n357 am_m357 am_h357 am_g357 = true := by decide +kernel
theorem am_f358 : fM amXX amGG am_V am_W16 am_n358 am_m358 am_h358 am_g358 = true := by decide +kernel
theorem am_f359 : fM amXX amGG am_V am_W16 am_n359 am_m359 am_h359 am_g359 = true := by decide +kernel
theorem am_f360 : fM amXX amGG am_V am_W16 am_n360 am_m360 am_h360 am_g360 = true := by decide +kernel
theorem am_f361 : fM amXX amGG am_V am_W16 am_n361 am_m361 am_h361 am_g361 = true := by decide +kernel
theorem am_f362 : fM amXX amGG am_V am_W16 am_n362 am_m362 am_h362 am_g362 = true := by decide +kernel
theorem am_f363 : fM amXX amGG am_V am_W16 am_n363 am_m363 am_h363 am_g363 = true := by decide +kernel
theorem am_f364 : fM amXX amGG am_V am_W16 am_n364 am_m364 am_h364 am_g364 = true := by decide +kernel
theorem am_f365 : fM amXX amGG am_V am_W16 am_n365 am_m365 am_h365 am_g365 = true := by decide +kernel
theorem am_f366 : fM amXX amGG am_V am_W16 am_n366 am_m366 am_h366 am_g366 = true := by decide +kernel
theorem am_f367 : fM amXX amGG am_V am_W16 am_n367 am_m367 am_h367 am_g367 = true := by decide +kernel
theorem am_f368 : fM amXX amGG am_V am_W16 am_n368 am_m368 am_h368 am_g368 = true := by decide +kernel
theorem am_f369 : fM amXX amGG am_V am_W16 am_n369 am_m369 am_h369 am_g369 = true := by decide +kernel
theorem am_f370 : fM amXX amGG am_V am_W16 am_n370 am_m370 am_h370 am_g370 = true := by decide +kernel
theorem am_f371 : fM amXX amGG am_V am_W16 am_n371 am_m371 am_h371 am_g371 = true := by decide +kernel
theorem am_f372 : fM amXX amGG am_V am_W16 am_n372 am_m372 am_h372 am_g372 = true := by decide +kernel
theorem am_f373 : fM amXX amGG am_V am_W16 am_n373 am_m373 am_h373 am_g373 = true := by decide +kernel
theorem am_f374 : fM amXX amGG am_V am_W16 am_n374 am_m374 am_h374 am_g374 = true := by decide +kernel
theorem am_f375 : fM amXX amGG am_V am_W16 am_n375 am_m375 am_h375 am_g375 = true := by decide +kernel
theorem am_f376 : fM amXX amGG am_V am_W16 am_n376 am_m376 am_h376 am_g376 = true := by decide +kernel
theorem am_f377 : fM amXX amGG am_V am_W16 am_n377 am_m377 am_h377 am_g377 = true := by decide +kernel
theorem am_f378 : fM amXX amGG am_V am_W16 am_n378 am_m378 am_h378 am_g378 = true := by decide +kernel
theorem am_f379 : fM amXX amGG am_V am_W16 am_n379 am_m379 am_h379 am_g379 = true := by decide +kernel
theorem am_f380 : fM amXX amGG am_V am_W16 am_n380 am_m380 am_h380 am_g380 = true := by decide +kernel
theorem am_f381 : fM amXX amGG am_V am_W16 am_n381 am_m381 am_h381 am_g381 = true := by decide +kernel
theorem am_f382 : fM amXX amGG am_V am_W16 am_n382 am_m382 am_h382 am_g382 = true := by decide +kernel
theorem am_f383 : fM amXX amGG am_V am_W16 am_n383 am_m383 am_h383 am_g383 = true := by decide +kernel
theorem am_t6 : ∀ t ∈ [(am_n288, am_m288), (am_n289, am_m289), (am_n290, am_m290), (am_n291, am_m291), (am_n292, am_m292), (am_n293, am_m293), (am_n294, am_m294), (am_n295, am_m295), (am_n296, am_m296), (am_n297, am_m297), (am_n298, am_m298), (am_n299, am_m299), (am_n300, am_m300), (am_n301, am_m301), (am_n302, am_m302), (am_n303, am_m303), (am_n304, am_m304), (am_n305, am_m305), (am_n306, am_m306), (am_n307, am_m307), (am_n308, am_m308), (am_n309, am_m309), (am_n310, am_m310), (am_n311, am_m311), (am_n312, am_m312), (am_n313, am_m313), (am_n314, am_m314), (am_n315, am_m315), (am_n316, am_m316), (am_n317, am_m317), (am_n318, am_m318), (am_n319, am_m319), (am_n320, am_m320), (am_n321, am_m321), (am_n322, am_m322), (am_n323, am_m323), (am_n324, am_m324), (am_n325, am_m325), (am_n326, am_m326), (am_n327, am_m327), (am_n328, am_m328), (am_n329, am_m329), (am_n330, am_m330), (am_n331, am_m331), (am_n332, am_m332), (am_n333, am_m333), (am_n334, am_m334), (am_n335, am_m335)], amMk amGG amXX t.1 t.2 := by
  intro t ht
  simp only [List.mem_cons, List.not_mem_nil, or_false] at ht
  rcases ht with rfl | rfl | rfl | rfl | rfl | rfl | rfl | rfl | rfl | rfl | rfl | rfl | rfl | rfl | rfl | rfl | rfl | rfl | rfl | rfl | rfl | rfl | rfl | rfl | rfl | rfl | rfl | rfl | rfl | rfl | rfl | rfl | rfl | rfl | rfl | rfl | rfl | rfl | rfl | rfl | rfl | rfl | rfl | rfl | rfl | rfl | rfl | rfl
  · exact fM_s am_zz am_rq (o := 12) rfl am_v am_w12 am_f288
  · exact fM_s am_zz am_rq (o := 12) rfl am_v am_w12 am_f289
  · exact fM_s am_zz am_rq (o := 12) rfl am_v am_w12 am_f290
  · exact fM_s am_zz am_rq (o := 12) rfl am_v am_w12 am_f291
  · exact fM_s am_zz am_rq (o := 12) rfl am_v am_w12 am_f292
  · exact fM_s am_zz am_rq (o := 12) rfl am_v am_w12 am_f293
  · exact fM_s am_zz am_rq (o := 12) rfl am_v am_w12 am_f294
  · exact fM_s am_zz am_rq (o := 12) rfl am_v am_w12 am_f295
  · exact fM_s am_zz am_rq (o := 12) rfl am_v am_w12 am_f296
  · exact fM_s am_zz am_rq (o := 12) rfl am_v am_w12 am_f297
  · exact fM_s am_zz am_rq (o := 12) rfl am_v am_w12 am_f298
  · exact fM_s am_zz am_rq (o := 12) rfl am_v am_w12 am_f299
  · exact fM_s am_zz am_rq (o := 12) rfl am_v am_w12 am_f300
  · exact fM_s am_zz am_rq (o := 12) rfl am_v am_w12 am_f301
  · exact fM_s am_zz am_rq (o := 12) rfl am_v am_w12 am_f302
  · exact fM_s am_zz am_rq (o := 12) rfl am_v am_w12 am_f303
  · exact fM_s am_zz am_rq (o := 12) rfl am_v am_w12 am_f304
  · exact fM_s am_zz am_rq (o := 12) rfl am_v am_w12 am_f305
  · exact fM_s am_zz am_rq (o := 12) rfl am_v am_w12 am_f306
  · exact fM_s am_zz am_rq (o := 12) rfl am_v am_w12 am_f307
  · exact fM_s am_zz am_rq (o := 12) rfl am_v am_w12 am_f308
  · exact fM_s am_zz am_rq (o := 12) rfl am_v am_w12 am_f309
  · exact fM_s am_zz am_rq (o := 12) rfl am_v am_w12 am_f310
  · exact fM_s am_zz am_rq (o := 12) rfl am_v am_w12 am_f311
  · exact fM_s am_zz am_rq (o := 12) rfl am_v am_w12 am_f312
  · exact fM_s am_zz am_rq (o := 12) rfl am_v am_w12 am_f313
  · exact fM_s am_zz am_rq (o := 12) rfl am_v am_w12 am_f314
  · exact fM_s am_zz am_rq (o := 12) rfl am_v am_w12 am_f315
  · exact fM_s am_zz am_rq (o := 12) rfl am_v am_w12 am_f316
  · exact fM_s am_zz am_rq (o := 12) rfl am_v am_w12 am_f317
  · exact fM_s am_zz am_rq (o := 12) rfl am_v am_w12 am_f318
  · exact fM_s am_zz am_rq (o := 12) rfl am_v am_w12 am_f319
  · exact fM_s am_zz am_rq (o := 12) rfl am_v am_w12 am_f320
  · exact fM_s am_zz am_rq (o := 12) rfl am_v am_w12 am_f321
  · exact fM_s am_zz am_rq (o := 12) rfl am_v am_w12 am_f322
  · exact fM_s am_zz am_rq (o := 12) rfl am_v am_w12 am_f323
  · exact fM_s am_zz am_rq (o := 12) rfl am_v am_w12 am_f324
  · exact fM_s am_zz am_rq (o := 12) rfl am_v am_w12 am_f325
  · exact fM_s am_zz am_rq (o := 12) rfl am_v am_w12 am_f326
  · exact fM_s am_zz am_rq (o := 12) rfl am_v am_w12 am_f327
  · exact fM_s am_zz am_rq (o := 12) rfl am_v am_w12 am_f328
  · exact fM_s am_zz am_rq (o := 12) rfl am_v am_w12 am_f329
  · exact fM_s am_zz am_rq (o := 12) rfl am_v am_w12 am_f330
  · exact fM_s am_zz am_rq (o := 12) rfl am_v am_w12 am_f331
  · exact fM_s am_zz am_rq (o := 12) rfl am_v am_w12 am_f332
  · exact fM_s am_zz am_rq (o := 12) rfl am_v am_w12 am_f333
  · exact fM_s am_zz am_rq (o := 12) rfl am_v am_w12 am_f334
  · exact fM_s am_zz am_rq (o := 12) rfl am_v am_w12 am_f335
theorem am_t7 : ∀ t ∈ [(am_n336, am_m336), (am_n337, am_m337), (am_n338, am_m338), (am_n339, am_m339), (am_n340, am_m340), (am_n341, am_m341), (am_n342, am_m342), (am_n343, am_m343), (am_n344, am_m344), (am_n345, am_m345), (am_n346, am_m346), (am_n347, am_m347), (am_n348, am_m348), (am_n349, am_m349), (am_n350, am_m350), (am_n351, am_m351), (am_n352, am_m352), (am_n353, am_m353), (am_n354, am_m354), (am_n355, am_m355), (am_n356, am_m356), (am_n357, am_m357), (am_n358, am_m358), (am_n359, am_m359), (am_n360, am_m360), (am_n361, am_m361), (am_n362, am_m362), (am_n363, am_m363), (am_n364, am_m364), (am_n365, am_m365), (am_n366, am_m366), (am_n367, am_m367), (am_n368, am_m368), (am_n369, am_m369), (am_n370, am_m370), (am_n371, am_m371), (am_n372, am_m372), (am_n373, am_m373), (am_n374, am_m374), (am_n375, am_m375), (am_n376, am_m376), (am_n377, am_m377), (am_n378, am_m378), (am_n379, am_m379), (am_n380, am_m380), (am_n381, am_m381), (am_n382, am_m382), (am_n383, am_m383)], amMk amGG amXX t.1 t.2 := by
  intro t ht
  simp only [List.mem_cons, List.not_mem_nil, or_false] at ht
  rcases ht with rfl | rfl | rfl | rfl | rfl | rfl | rfl | rfl | rfl | rfl | rfl | rfl | rfl | rfl | rfl | rfl | rfl | rfl | rfl | rfl | rfl | rfl | rfl | rfl | rfl | rfl | rfl | rfl | rfl | rfl | rfl | rfl | rfl | rfl | rfl | rfl | rfl | rfl | rfl | rfl | rfl | rfl | rfl | rfl | rfl | rfl | rfl | rfl
  · exact fM_s am_zz am_rq (o := 12) rfl am_v am_w12 am_f336
  · exact fM_s am_zz am_rq (o := 12) rfl am_v am_w12 am_f337
  · exact fM_s am_zz am_rq (o := 12) rfl am_v am_w12 am_f338
  · exact fM_s am_zz am_rq (o := 12) rfl am_v am_w12 am_f339
  · exact fM_s am_zz am_rq (o := 12) rfl am_v am_w12 am_f340
  · exact fM_s am_zz am_rq (o := 12) rfl am_v am_w12 am_f341
  · exact fM_s am_zz am_rq (o := 13) rfl am_v am_w13 am_f342
  · exact fM_s am_zz am_rq (o := 13) rfl am_v am_w13 am_f343
  · exact fM_s am_zz am_rq (o := 14) rfl am_v am_w14 am_f344
  · exact fM_s am_zz am_rq (o := 15) rfl am_v am_w15 am_f345
  · exact fM_s am_zz am_rq (o := 15) rfl am_v am_w15 am_f346
  · exact fM_s am_zz am_rq (o := 15) rfl am_v am_w15 am_f347
  · exact fM_s am_zz am_rq (o := 16) rfl am_v am_w16 am_f348
  · exact fM_s am_zz am_rq (o := 16) rfl am_v am_w16 am_f349
  · exact fM_s am_zz am_rq (o := 16) rfl am_v am_w16 am_f350
  · exact fM_s am_zz am_rq (o := 16) rfl am_v am_w16 am_f351
  · exact fM_s am_zz am_rq (o := 16) rfl am_v am_w16 am_f352
  · exact fM_s am_zz am_rq (o := 16) rfl am_v am_w16 am_f353
  · exact fM_s am_zz am_rq (o := 16) rfl am_v am_w16 am_f354
  · exact fM_s am_zz am_rq (o := 16) rfl am_v am_w16 am_f355
  · exact fM_s am_zz am_rq (o := 16) rfl am_v am_w16 am_f356
  · exact fM_s am_zz am_rq (o := 16) rfl am_v am_w16 am_f357
  · exact fM_s am_zz am_rq (o := 16) rfl am_v am_w16 am_f358
  · exact fM_s am_zz am_rq (o := 16) rfl am_v am_w16 am_f359
  · exact fM_s am_zz am_rq (o := 16) rfl am_v am_w16 am_f360
  · exact fM_s am_zz am_rq (o := 16) rfl am_v am_w16 am_f361
  · exact fM_s am_zz am_rq (o := 16) rfl am_v am_w16 am_f362
  · exact fM_s am_zz am_rq (o := 16) rfl am_v am_w16 am_f363
  · exact fM_s am_zz am_rq (o := 16) rfl am_v am_w16 am_f364
  · exact fM_s am_zz am_rq (o := 16) rfl am_v am_w16 am_f365
  · exact fM_s am_zz am_rq (o := 16) rfl am_v am_w16 am_f366
  · exact fM_s am_zz am_rq (o := 16) rfl am_v am_w16 am_f367
  · exact fM_s am_zz am_rq (o := 16) rfl am_v am_w16 am_f368
  · exact fM_s am_zz am_rq (o := 16) rfl am_v am_w16 am_f369
  · exact fM_s am_zz am_rq (o := 16) rfl am_v am_w16 am_f370
  · exact fM_s am_zz am_rq (o := 16) rfl am_v am_w16 am_f371
  · exact fM_s am_zz am_rq (o := 16) rfl am_v am_w16 am_f372
  · exact fM_s am_zz am_rq (o := 16) rfl am_v am_w16 am_f373
  · exact fM_s am_zz am_rq (o := 16) rfl am_v am_w16 am_f374
  · exact fM_s am_zz am_rq (o := 16) rfl am_v am_w16 am_f375
  · exact fM_s am_zz am_rq (o := 16) rfl am_v am_w16 am_f376
  · exact fM_s am_zz am_rq (o := 16) rfl am_v am_w16 am_f377
  · exact fM_s am_zz am_rq (o := 16) rfl am_v am_w16 am_f378
  · exact fM_s am_zz am_rq (o := 16) rfl am_v am_w16 am_f379
  · exact fM_s am_zz am_rq (o := 16) rfl am_v am_w16 am_f380
  · exact fM_s am_zz am_rq (o := 16) rfl am_v am_w16 am_f381
  · exact fM_s am_zz am_rq (o := 16) rfl am_v am_w16 am_f382
  · exact fM_s am_zz am_rq (o := 16) rfl am_v am_w16 am_f383
end
/-! ##### 11.e.check ##### -/
section
/-! ===== the tables checked, 4 ===== -/
theorem am_f384 : fM amXX amGG am_V am_W16 am_n384 am_m384 am_h384 am_g384 = true := by decide +kernel
theorem am_t8 : ∀ t ∈ [(am_n384, am_m384)], amMk amGG amXX t.1 t.2 := by
  intro t ht
  simp only [List.mem_cons, List.not_mem_nil, or_false] at ht
  rcases ht with rfl
  · exact fM_s am_zz am_rq (o := 16) rfl am_v am_w16 am_f384
end
/-! ##### 11.z.check ##### -/
section
/-! ===== the law's code checked ===== -/
theorem am_lL_0 : (fdrop am_nL.2.1.data.toList 0) = am_nL.2.1.data.toList.drop 0 := by simp only [fdrop_eq, List.drop_drop]
theorem am_fL_0 : fRowL amXX amGG am_V am_W16 am_nL am_mL am_mL_0 0 (fdrop am_nL.2.1.data.toList 0) am_hL_0 = true := by decide +kernel
theorem am_lL_1 : (fdrop (fdrop am_nL.2.1.data.toList 400) 233) = am_nL.2.1.data.toList.drop 633 := by simp only [fdrop_eq, List.drop_drop]
theorem am_fL_1 : fRowL amXX amGG am_V am_W16 am_nL am_mL am_mL_1 633 (fdrop (fdrop am_nL.2.1.data.toList 400) 233) am_hL_1 = true := by decide +kernel
theorem am_lL_2 : (fdrop (fdrop (fdrop am_nL.2.1.data.toList 400) 400) 202) = am_nL.2.1.data.toList.drop 1002 := by simp only [fdrop_eq, List.drop_drop]
theorem am_fL_2 : fRowL amXX amGG am_V am_W16 am_nL am_mL am_mL_2 1002 (fdrop (fdrop (fdrop am_nL.2.1.data.toList 400) 400) 202) am_hL_2 = true := by decide +kernel
theorem am_lL_3 : (fdrop (fdrop (fdrop (fdrop am_nL.2.1.data.toList 400) 400) 400) 168) = am_nL.2.1.data.toList.drop 1368 := by simp only [fdrop_eq, List.drop_drop]
theorem am_fL_3 : fRowL amXX amGG am_V am_W16 am_nL am_mL am_mL_3 1368 (fdrop (fdrop (fdrop (fdrop am_nL.2.1.data.toList 400) 400) 400) 168) am_hL_3 = true := by decide +kernel
theorem am_lL_4 : (fdrop (fdrop (fdrop (fdrop (fdrop am_nL.2.1.data.toList 400) 400) 400) 400) 123) = am_nL.2.1.data.toList.drop 1723 := by simp only [fdrop_eq, List.drop_drop]
theorem am_fL_4 : fRowL amXX amGG am_V am_W16 am_nL am_mL am_mL_4 1723 (fdrop (fdrop (fdrop (fdrop (fdrop am_nL.2.1.data.toList 400) 400) 400) 400) 123) am_hL_4 = true := by decide +kernel
theorem am_lL_5 : (fdrop (fdrop (fdrop (fdrop (fdrop (fdrop am_nL.2.1.data.toList 400) 400) 400) 400) 400) 115) = am_nL.2.1.data.toList.drop 2115 := by simp only [fdrop_eq, List.drop_drop]
theorem am_fL_5 : fRowL amXX amGG am_V am_W16 am_nL am_mL am_mL_5 2115 (fdrop (fdrop (fdrop (fdrop (fdrop (fdrop am_nL.2.1.data.toList 400) 400) 400) 400) 400) 115) am_hL_5 = true := by decide +kernel
theorem am_pL_0 : ∀ q ∈ am_mL_0, amEok amGG amXX am_nL am_mL q := fRowL_s (O := am_O) (R := am_R) (o := 16) (X := amXX) (G := amGG) (V := am_V) (W := am_W16) (N := am_nL) (M := am_mL) (cs := am_mL_0) (p := 0) (l := (fdrop am_nL.2.1.data.toList 0)) (hs := am_hL_0) am_zz am_rq rfl am_v am_w16 am_lL_0 am_fL_0
theorem am_pL_1 : ∀ q ∈ am_mL_1, amEok amGG amXX am_nL am_mL q := fRowL_s (O := am_O) (R := am_R) (o := 16) (X := amXX) (G := amGG) (V := am_V) (W := am_W16) (N := am_nL) (M := am_mL) (cs := am_mL_1) (p := 633) (l := (fdrop (fdrop am_nL.2.1.data.toList 400) 233)) (hs := am_hL_1) am_zz am_rq rfl am_v am_w16 am_lL_1 am_fL_1
theorem am_pL_2 : ∀ q ∈ am_mL_2, amEok amGG amXX am_nL am_mL q := fRowL_s (O := am_O) (R := am_R) (o := 16) (X := amXX) (G := amGG) (V := am_V) (W := am_W16) (N := am_nL) (M := am_mL) (cs := am_mL_2) (p := 1002) (l := (fdrop (fdrop (fdrop am_nL.2.1.data.toList 400) 400) 202)) (hs := am_hL_2) am_zz am_rq rfl am_v am_w16 am_lL_2 am_fL_2
theorem am_pL_3 : ∀ q ∈ am_mL_3, amEok amGG amXX am_nL am_mL q := fRowL_s (O := am_O) (R := am_R) (o := 16) (X := amXX) (G := amGG) (V := am_V) (W := am_W16) (N := am_nL) (M := am_mL) (cs := am_mL_3) (p := 1368) (l := (fdrop (fdrop (fdrop (fdrop am_nL.2.1.data.toList 400) 400) 400) 168)) (hs := am_hL_3) am_zz am_rq rfl am_v am_w16 am_lL_3 am_fL_3
theorem am_pL_4 : ∀ q ∈ am_mL_4, amEok amGG amXX am_nL am_mL q := fRowL_s (O := am_O) (R := am_R) (o := 16) (X := amXX) (G := amGG) (V := am_V) (W := am_W16) (N := am_nL) (M := am_mL) (cs := am_mL_4) (p := 1723) (l := (fdrop (fdrop (fdrop (fdrop (fdrop am_nL.2.1.data.toList 400) 400) 400) 400) 123)) (hs := am_hL_4) am_zz am_rq rfl am_v am_w16 am_lL_4 am_fL_4
theorem am_pL_5 : ∀ q ∈ am_mL_5, amEok amGG amXX am_nL am_mL q := fRowL_s (O := am_O) (R := am_R) (o := 16) (X := amXX) (G := amGG) (V := am_V) (W := am_W16) (N := am_nL) (M := am_mL) (cs := am_mL_5) (p := 2115) (l := (fdrop (fdrop (fdrop (fdrop (fdrop (fdrop am_nL.2.1.data.toList 400) 400) 400) 400) 400) 115)) (hs := am_hL_5) am_zz am_rq rfl am_v am_w16 am_lL_5 am_fL_5
theorem am_cL : ∀ q ∈ am_mL.1, amEok amGG amXX am_nL am_mL q := by
  intro q hq
  have hq : q ∈ am_mL_0 ++ (am_mL_1 ++ (am_mL_2 ++ (am_mL_3 ++ (am_mL_4 ++ (am_mL_5))))) := hq
  rcases List.mem_append.mp hq with hq | hq
  · exact am_pL_0 q hq
  rcases List.mem_append.mp hq with hq | hq
  · exact am_pL_1 q hq
  rcases List.mem_append.mp hq with hq | hq
  · exact am_pL_2 q hq
  rcases List.mem_append.mp hq with hq | hq
  · exact am_pL_3 q hq
  rcases List.mem_append.mp hq with hq | hq
  · exact am_pL_4 q hq
  exact am_pL_5 q hq
theorem am_kL : amMkB am_nL am_mL am_gL = true := by decide +kernel
theorem am_law : amMk amGG amXX am_nL am_mL := fMk_s am_kL am_cL
/-! ===== the tables checked: all ===== -/
theorem am_r0 : ∀ t ∈ [(am_n0, am_m0), (am_n1, am_m1), (am_n2, am_m2), (am_n3, am_m3), (am_n4, am_m4), (am_n5, am_m5), (am_n6, am_m6), (am_n7, am_m7), (am_n8, am_m8), (am_n9, am_m9), (am_n10, am_m10), (am_n11, am_m11), (am_n12, am_m12), (am_n13, am_m13), (am_n14, am_m14), (am_n15, am_m15)], amMk amGG amXX t.1 t.2 := fun t ht => am_t0 t (List.mem_of_mem_take (i := 16) ht)
theorem am_r1 : ∀ t ∈ [(am_n16, am_m16), (am_n17, am_m17), (am_n18, am_m18), (am_n19, am_m19), (am_n20, am_m20), (am_n21, am_m21), (am_n22, am_m22), (am_n23, am_m23), (am_n24, am_m24), (am_n25, am_m25), (am_n26, am_m26), (am_n27, am_m27), (am_n28, am_m28), (am_n29, am_m29), (am_n30, am_m30), (am_n31, am_m31)], amMk amGG amXX t.1 t.2 := fun t ht => am_t0 t (List.mem_of_mem_drop (i := 16) (List.mem_of_mem_take (i := 16) ht))
theorem am_r2 : ∀ t ∈ [(am_n32, am_m32), (am_n33, am_m33), (am_n34, am_m34), (am_n35, am_m35), (am_n36, am_m36), (am_n37, am_m37), (am_n38, am_m38), (am_n39, am_m39), (am_n40, am_m40), (am_n41, am_m41), (am_n42, am_m42), (am_n43, am_m43), (am_n44, am_m44), (am_n45, am_m45), (am_n46, am_m46), (am_n47, am_m47)], amMk amGG amXX t.1 t.2 := fun t ht => am_t0 t (List.mem_of_mem_drop (i := 32) (List.mem_of_mem_take (i := 16) ht))
theorem am_r3 : ∀ t ∈ [(am_n48, am_m48), (am_n49, am_m49), (am_n50, am_m50), (am_n51, am_m51), (am_n52, am_m52), (am_n53, am_m53), (am_n54, am_m54), (am_n55, am_m55), (am_n56, am_m56), (am_n57, am_m57), (am_n58, am_m58), (am_n59, am_m59), (am_n60, am_m60), (am_n61, am_m61), (am_n62, am_m62), (am_n63, am_m63)], amMk amGG amXX t.1 t.2 := fun t ht => am_t1 t (List.mem_of_mem_take (i := 16) ht)
theorem am_r4 : ∀ t ∈ [(am_n64, am_m64), (am_n65, am_m65), (am_n66, am_m66), (am_n67, am_m67), (am_n68, am_m68), (am_n69, am_m69), (am_n70, am_m70), (am_n71, am_m71), (am_n72, am_m72), (am_n73, am_m73), (am_n74, am_m74), (am_n75, am_m75), (am_n76, am_m76), (am_n77, am_m77), (am_n78, am_m78), (am_n79, am_m79)], amMk amGG amXX t.1 t.2 := fun t ht => am_t1 t (List.mem_of_mem_drop (i := 16) (List.mem_of_mem_take (i := 16) ht))
theorem am_r5 : ∀ t ∈ [(am_n80, am_m80), (am_n81, am_m81), (am_n82, am_m82), (am_n83, am_m83), (am_n84, am_m84), (am_n85, am_m85), (am_n86, am_m86), (am_n87, am_m87), (am_n88, am_m88), (am_n89, am_m89), (am_n90, am_m90), (am_n91, am_m91), (am_n92, am_m92), (am_n93, am_m93), (am_n94, am_m94), (am_n95, am_m95)], amMk amGG amXX t.1 t.2 := fun t ht => am_t1 t (List.mem_of_mem_drop (i := 32) (List.mem_of_mem_take (i := 16) ht))
theorem am_r6 : ∀ t ∈ [(am_n96, am_m96), (am_n97, am_m97), (am_n98, am_m98), (am_n99, am_m99), (am_n100, am_m100), (am_n101, am_m101), (am_n102, am_m102), (am_n103, am_m103), (am_n104, am_m104), (am_n105, am_m105), (am_n106, am_m106), (am_n107, am_m107), (am_n108, am_m108), (am_n109, am_m109), (am_n110, am_m110), (am_n111, am_m111)], amMk amGG amXX t.1 t.2 := fun t ht => am_t2 t (List.mem_of_mem_take (i := 16) ht)
theorem am_r7 : ∀ t ∈ [(am_n112, am_m112), (am_n113, am_m113), (am_n114, am_m114), (am_n115, am_m115), (am_n116, am_m116), (am_n117, am_m117), (am_n118, am_m118), (am_n119, am_m119), (am_n120, am_m120), (am_n121, am_m121), (am_n122, am_m122), (am_n123, am_m123), (am_n124, am_m124), (am_n125, am_m125), (am_n126, am_m126), (am_n127, am_m127)], amMk amGG amXX t.1 t.2 := fun t ht => am_t2 t (List.mem_of_mem_drop (i := 16) (List.mem_of_mem_take (i := 16) ht))
theorem am_r8 : ∀ t ∈ [(am_n128, am_m128), (am_n129, am_m129), (am_n130, am_m130), (am_n131, am_m131), (am_n132, am_m132), (am_n133, am_m133), (am_n134, am_m134), (am_n135, am_m135), (am_n136, am_m136), (am_n137, am_m137), (am_n138, am_m138), (am_n139, am_m139), (am_n140, am_m140), (am_n141, am_m141), (am_n142, am_m142), (am_n143, am_m143)], amMk amGG amXX t.1 t.2 := fun t ht => am_t2 t (List.mem_of_mem_drop (i := 32) (List.mem_of_mem_take (i := 16) ht))
theorem am_r9 : ∀ t ∈ [(am_n144, am_m144), (am_n145, am_m145), (am_n146, am_m146), (am_n147, am_m147), (am_n148, am_m148), (am_n149, am_m149), (am_n150, am_m150), (am_n151, am_m151), (am_n152, am_m152), (am_n153, am_m153), (am_n154, am_m154), (am_n155, am_m155), (am_n156, am_m156), (am_n157, am_m157), (am_n158, am_m158), (am_n159, am_m159)], amMk amGG amXX t.1 t.2 := fun t ht => am_t3 t (List.mem_of_mem_take (i := 16) ht)
theorem am_r10 : ∀ t ∈ [(am_n160, am_m160), (am_n161, am_m161), (am_n162, am_m162), (am_n163, am_m163), (am_n164, am_m164), (am_n165, am_m165), (am_n166, am_m166), (am_n167, am_m167), (am_n168, am_m168), (am_n169, am_m169), (am_n170, am_m170), (am_n171, am_m171), (am_n172, am_m172), (am_n173, am_m173), (am_n174, am_m174), (am_n175, am_m175)], amMk amGG amXX t.1 t.2 := fun t ht => am_t3 t (List.mem_of_mem_drop (i := 16) (List.mem_of_mem_take (i := 16) ht))
theorem am_r11 : ∀ t ∈ [(am_n176, am_m176), (am_n177, am_m177), (am_n178, am_m178), (am_n179, am_m179), (am_n180, am_m180), (am_n181, am_m181), (am_n182, am_m182), (am_n183, am_m183), (am_n184, am_m184), (am_n185, am_m185), (am_n186, am_m186), (am_n187, am_m187), (am_n188, am_m188), (am_n189, am_m189), (am_n190, am_m190), (am_n191, am_m191)], amMk amGG amXX t.1 t.2 := fun t ht => am_t3 t (List.mem_of_mem_drop (i := 32) (List.mem_of_mem_take (i := 16) ht))
theorem am_r12 : ∀ t ∈ [(am_n192, am_m192), (am_n193, am_m193), (am_n194, am_m194), (am_n195, am_m195), (am_n196, am_m196), (am_n197, am_m197), (am_n198, am_m198), (am_n199, am_m199), (am_n200, am_m200), (am_n201, am_m201), (am_n202, am_m202), (am_n203, am_m203), (am_n204, am_m204), (am_n205, am_m205), (am_n206, am_m206), (am_n207, am_m207)], amMk amGG amXX t.1 t.2 := fun t ht => am_t4 t (List.mem_of_mem_take (i := 16) ht)
theorem am_r13 : ∀ t ∈ [(am_n208, am_m208), (am_n209, am_m209), (am_n210, am_m210), (am_n211, am_m211), (am_n212, am_m212), (am_n213, am_m213), (am_n214, am_m214), (am_n215, am_m215), (am_n216, am_m216), (am_n217, am_m217), (am_n218, am_m218), (am_n219, am_m219), (am_n220, am_m220), (am_n221, am_m221), (am_n222, am_m222), (am_n223, am_m223)], amMk amGG amXX t.1 t.2 := fun t ht => am_t4 t (List.mem_of_mem_drop (i := 16) (List.mem_of_mem_take (i := 16) ht))
theorem am_r14 : ∀ t ∈ [(am_n224, am_m224), (am_n225, am_m225), (am_n226, am_m226), (am_n227, am_m227), (am_n228, am_m228), (am_n229, am_m229), (am_n230, am_m230), (am_n231, am_m231), (am_n232, am_m232), (am_n233, am_m233), (am_n234, am_m234), (am_n235, am_m235), (am_n236, am_m236), (am_n237, am_m237), (am_n238, am_m238), (am_n239, am_m239)], amMk amGG amXX t.1 t.2 := fun t ht => am_t4 t (List.mem_of_mem_drop (i := 32) (List.mem_of_mem_take (i := 16) ht))
theorem am_r15 : ∀ t ∈ [(am_n240, am_m240), (am_n241, am_m241), (am_n242, am_m242), (am_n243, am_m243), (am_n244, am_m244), (am_n245, am_m245), (am_n246, am_m246), (am_n247, am_m247), (am_n248, am_m248), (am_n249, am_m249), (am_n250, am_m250), (am_n251, am_m251), (am_n252, am_m252), (am_n253, am_m253), (am_n254, am_m254), (am_n255, am_m255)], amMk amGG amXX t.1 t.2 := fun t ht => am_t5 t (List.mem_of_mem_take (i := 16) ht)
theorem am_r16 : ∀ t ∈ [(am_n256, am_m256), (am_n257, am_m257), (am_n258, am_m258), (am_n259, am_m259), (am_n260, am_m260), (am_n261, am_m261), (am_n262, am_m262), (am_n263, am_m263), (am_n264, am_m264), (am_n265, am_m265), (am_n266, am_m266), (am_n267, am_m267), (am_n268, am_m268), (am_n269, am_m269), (am_n270, am_m270), (am_n271, am_m271)], amMk amGG amXX t.1 t.2 := fun t ht => am_t5 t (List.mem_of_mem_drop (i := 16) (List.mem_of_mem_take (i := 16) ht))
theorem am_r17 : ∀ t ∈ [(am_n272, am_m272), (am_n273, am_m273), (am_n274, am_m274), (am_n275, am_m275), (am_n276, am_m276), (am_n277, am_m277), (am_n278, am_m278), (am_n279, am_m279), (am_n280, am_m280), (am_n281, am_m281), (am_n282, am_m282), (am_n283, am_m283), (am_n284, am_m284), (am_n285, am_m285), (am_n286, am_m286), (am_n287, am_m287)], amMk amGG amXX t.1 t.2 := fun t ht => am_t5 t (List.mem_of_mem_drop (i := 32) (List.mem_of_mem_take (i := 16) ht))
theorem am_r18 : ∀ t ∈ [(am_n288, am_m288), (am_n289, am_m289), (am_n290, am_m290), (am_n291, am_m291), (am_n292, am_m292), (am_n293, am_m293), (am_n294, am_m294), (am_n295, am_m295), (am_n296, am_m296), (am_n297, am_m297), (am_n298, am_m298), (am_n299, am_m299), (am_n300, am_m300), (am_n301, am_m301), (am_n302, am_m302), (am_n303, am_m303)], amMk amGG amXX t.1 t.2 := fun t ht => am_t6 t (List.mem_of_mem_take (i := 16) ht)
theorem am_r19 : ∀ t ∈ [(am_n304, am_m304), (am_n305, am_m305), (am_n306, am_m306), (am_n307, am_m307), (am_n308, am_m308), (am_n309, am_m309), (am_n310, am_m310), (am_n311, am_m311), (am_n312, am_m312), (am_n313, am_m313), (am_n314, am_m314), (am_n315, am_m315), (am_n316, am_m316), (am_n317, am_m317), (am_n318, am_m318), (am_n319, am_m319)], amMk amGG amXX t.1 t.2 := fun t ht => am_t6 t (List.mem_of_mem_drop (i := 16) (List.mem_of_mem_take (i := 16) ht))
theorem am_r20 : ∀ t ∈ [(am_n320, am_m320), (am_n321, am_m321), (am_n322, am_m322), (am_n323, am_m323), (am_n324, am_m324), (am_n325, am_m325), (am_n326, am_m326), (am_n327, am_m327), (am_n328, am_m328), (am_n329, am_m329), (am_n330, am_m330), (am_n331, am_m331), (am_n332, am_m332), (am_n333, am_m333), (am_n334, am_m334), (am_n335, am_m335)], amMk amGG amXX t.1 t.2 := fun t ht => am_t6 t (List.mem_of_mem_drop (i := 32) (List.mem_of_mem_take (i := 16) ht))
theorem am_r21 : ∀ t ∈ [(am_n336, am_m336), (am_n337, am_m337), (am_n338, am_m338), (am_n339, am_m339), (am_n340, am_m340), (am_n341, am_m341), (am_n342, am_m342), (am_n343, am_m343), (am_n344, am_m344), (am_n345, am_m345), (am_n346, am_m346), (am_n347, am_m347), (am_n348, am_m348), (am_n349, am_m349), (am_n350, am_m350), (am_n351, am_m351)], amMk amGG amXX t.1 t.2 := fun t ht => am_t7 t (List.mem_of_mem_take (i := 16) ht)
theorem am_r22 : ∀ t ∈ [(am_n352, am_m352), (am_n353, am_m353), (am_n354, am_m354), (am_n355, am_m355), (am_n356, am_m356), (am_n357, am_m357), (am_n358, am_m358), (am_n359, am_m359), (am_n360, am_m360), (am_n361, am_m361), (am_n362, am_m362), (am_n363, am_m363), (am_n364, am_m364), (am_n365, am_m365), (am_n366, am_m366), (am_n367, am_m367)], amMk amGG amXX t.1 t.2 := fun t ht => am_t7 t (List.mem_of_mem_drop (i := 16) (List.mem_of_mem_take (i := 16) ht))
theorem am_r23 : ∀ t ∈ [(am_n368, am_m368), (am_n369, am_m369), (am_n370, am_m370), (am_n371, am_m371), (am_n372, am_m372), (am_n373, am_m373), (am_n374, am_m374), (am_n375, am_m375), (am_n376, am_m376), (am_n377, am_m377), (am_n378, am_m378), (am_n379, am_m379), (am_n380, am_m380), (am_n381, am_m381), (am_n382, am_m382), (am_n383, am_m383)], amMk amGG amXX t.1 t.2 := fun t ht => am_t7 t (List.mem_of_mem_drop (i := 32) (List.mem_of_mem_take (i := 16) ht))
theorem am_r24 : ∀ t ∈ [(am_n384, am_m384)], amMk amGG amXX t.1 t.2 := fun t ht => am_t8 t (List.mem_of_mem_take (i := 16) ht)
theorem am_allT : ∀ row ∈ amTT, ∀ t ∈ row, amMk amGG amXX t.1 t.2 := by
  intro row hrow
  rcases List.mem_cons.mp hrow with e | hrow
  · rw [e]; exact am_r0
  rcases List.mem_cons.mp hrow with e | hrow
  · rw [e]; exact am_r1
  rcases List.mem_cons.mp hrow with e | hrow
  · rw [e]; exact am_r2
  rcases List.mem_cons.mp hrow with e | hrow
  · rw [e]; exact am_r3
  rcases List.mem_cons.mp hrow with e | hrow
  · rw [e]; exact am_r4
  rcases List.mem_cons.mp hrow with e | hrow
  · rw [e]; exact am_r5
  rcases List.mem_cons.mp hrow with e | hrow
  · rw [e]; exact am_r6
  rcases List.mem_cons.mp hrow with e | hrow
  · rw [e]; exact am_r7
  rcases List.mem_cons.mp hrow with e | hrow
  · rw [e]; exact am_r8
  rcases List.mem_cons.mp hrow with e | hrow
  · rw [e]; exact am_r9
  rcases List.mem_cons.mp hrow with e | hrow
  · rw [e]; exact am_r10
  rcases List.mem_cons.mp hrow with e | hrow
  · rw [e]; exact am_r11
  rcases List.mem_cons.mp hrow with e | hrow
  · rw [e]; exact am_r12
  rcases List.mem_cons.mp hrow with e | hrow
  · rw [e]; exact am_r13
  rcases List.mem_cons.mp hrow with e | hrow
  · rw [e]; exact am_r14
  rcases List.mem_cons.mp hrow with e | hrow
  · rw [e]; exact am_r15
  rcases List.mem_cons.mp hrow with e | hrow
  · rw [e]; exact am_r16
  rcases List.mem_cons.mp hrow with e | hrow
  · rw [e]; exact am_r17
  rcases List.mem_cons.mp hrow with e | hrow
  · rw [e]; exact am_r18
  rcases List.mem_cons.mp hrow with e | hrow
  · rw [e]; exact am_r19
  rcases List.mem_cons.mp hrow with e | hrow
  · rw [e]; exact am_r20
  rcases List.mem_cons.mp hrow with e | hrow
  · rw [e]; exact am_r21
  rcases List.mem_cons.mp hrow with e | hrow
  · rw [e]; exact am_r22
  rcases List.mem_cons.mp hrow with e | hrow
  · rw [e]; exact am_r23
  rcases List.mem_cons.mp hrow with e | hrow
  · rw [e]; exact am_r24
  cases hrow
theorem am_tabs : ∀ (k : Nat) (N : amN) (M : amM), amXX k = some N → amGG k = some M → amMk amGG amXX N M := by
  intro k N M hX hG
  unfold amXX at hX
  unfold amGG at hG
  obtain ⟨q, h1, rfl⟩ := Option.map_eq_some_iff.mp hX
  rw [h1] at hG
  cases hG
  unfold amGx at h1
  split at h1
  · next row e =>
    exact am_allT row (List.mem_of_getElem? e) q (List.mem_of_getElem? h1)
  · cases h1
theorem am_nLs : ∀ (k : Nat) (M : amM), amGG k = some M → M.2.1 ≤ 100 := by
  intro k M hG
  unfold amGG at hG
  obtain ⟨q, h1, rfl⟩ := Option.map_eq_some_iff.mp hG
  exact (am_tabs k q.1 q.2 (by unfold amXX; rw [h1]; rfl) (by unfold amGG; rw [h1]; rfl)).2.1
end
/-! ##### 12.a.fuel ##### -/
section
/-! ===== runs with more steps, deeper calls, other counts ===== -/
theorem amRun_more {G : Nat → Option amM} : ∀ (f : Nat) (sc : Option (List Int32)) (d : Nat) (M : amM) (cs : amP) (pc : Nat) (ls : amL) (st : List Value) (hp : amH) (kc ks : Nat) (r : amRes), amRun G sc f d M cs pc ls st hp kc ks = some r → ∀ (g e : Nat), f ≤ g → d ≤ e → amRun G sc g e M cs pc ls st hp kc ks = some r := by
  intro f
  induction f with
  | zero => intro sc d M cs pc ls st hp kc ks r h; unfold amRun at h; cases h
  | succ f ih =>
    intro sc d M cs pc ls st hp kc ks r h g e hg he
    obtain ⟨g, rfl⟩ : ∃ g', g = g' + 1 := ⟨g - 1, by omega⟩
    have hg : f ≤ g := by omega
    cases cs with
    | nil => unfold amRun at h; cases h
    | cons q cs =>
      unfold amRun at h
      unfold amRun
      split at h
      · next e0 =>
        try rw [if_pos e0]
        split at h
        · cases h
        · next r1 dk ds e1 =>
          try rw [e1]
          exact ih _ _ _ _ _ _ _ _ _ _ _ h g e hg he
        · next v e1 => exact h
        · next E e1 => exact h
        · next k av rest e1 =>
          try rw [e1]
          try dsimp only
          cases d with
          | zero => cases h
          | succ d =>
            obtain ⟨e, rfl⟩ : ∃ e', e = e' + 1 := ⟨e - 1, by omega⟩
            cases hG : G k with
            | none => rw [hG] at h; cases h
            | some N =>
              rw [hG] at h
              dsimp only at h ⊢
              cases hi : amRun G none f d N N.1 0 (lv_args 0 av) [] hp 0 0 with
              | none => rw [hi] at h; cases h
              | some z =>
                have hz := ih _ _ _ _ _ _ _ _ _ _ _ hi g e hg (by omega)
                rw [hi] at h
                rw [hz]
                obtain ⟨y, hp1, mc, ms⟩ := z
                cases y with
                | inl v => exact ih _ _ _ _ _ _ _ _ _ _ _ h g (e + 1) hg he
                | inr E =>
                  dsimp only at h ⊢
                  split at h
                  · cases h
                  · next e2 =>
                    try rw [if_neg e2]
                    split at h
                    · next e3 => first | exact h | (rw [if_pos e3]; exact h)
                    · next e3 =>
                      try rw [if_neg e3]
                      split at h
                      · next s9 x9 t9 e4 => exact ih _ _ _ _ _ _ _ _ _ _ _ h g (e + 1) hg he
                      · cases h
      · cases h
end
/-! ##### 12.b.views ##### -/
section
/-! ===== rows of ints, read and written ===== -/
theorem rw_in {i : Int32} {n m : Nat} (hi : i.toInt = (n : Int)) (hn : n < m) : i.toNatClampNeg = n ∧ amIn i m = true := by
  have e : i.toNatClampNeg = n := by
    show i.toInt.toNat = _
    rw [hi]; rfl
  refine ⟨e, decide_eq_true ?_⟩
  rw [not_or, e]
  refine ⟨fun z => ?_, fun z => ?_⟩
  · have := Int32.lt_iff_toInt_lt.mp z
    rw [a_zero] at this
    omega
  · omega
theorem rw_rd {hp : amH} {a n : Nat} {w : List Int32} {i : Int32} {r : List Value} (h : hp[a]? = some (32, w.map Value.int)) (hi : i.toInt = (n : Int)) (hn : n < w.length) : amALd 32 amIsI hp (.int i :: .ref a :: r) = some (.int (w.getD n 0) :: r) := by
  obtain ⟨e1, e2⟩ := rw_in (m := (w.map Value.int).length) hi (by rw [List.length_map]; exact hn)
  have hg : (w.map Value.int).getD i.toNatClampNeg .null = .int (w.getD n 0) := by
    rw [e1, List.getD_eq_getElem?_getD, List.getElem?_map, List.getD_eq_getElem?_getD, List.getElem?_eq_getElem hn]
    rfl
  simp only [amALd, h, e2, hg, amIsI, and_self, if_true]
theorem rw_wr {hp : amH} {a n : Nat} {w : List Int32} {i v : Int32} {r : List Value} (h : hp[a]? = some (32, w.map Value.int)) (hi : i.toInt = (n : Int)) (hn : n < w.length) : amASt 32 amIsI id hp (.int v :: .int i :: .ref a :: r) = some (r, hp.set a (32, (w.set n v).map Value.int)) := by
  obtain ⟨e1, e2⟩ := rw_in (m := (w.map Value.int).length) hi (by rw [List.length_map]; exact hn)
  simp only [amASt, h, e2, e1, amIsI, and_self, if_true, id, List.map_set]
/-- the reference's row of third points -/
noncomputable def mW (hp : amH) (w : List Int32) : Prop := (∃ cm, hp[66]? = some (11, cm) ∧ cm[0]? = some (.ref 67)) ∧ hp[67]? = some (32, w.map Value.int) ∧ w.length = 229
theorem m_points {G : Nat → Option amM} {hp : amH} {w : List Int32} (h : mW hp w) (f d kc ks : Nat) :
    amRun G none (f + 6) d am_m203 am_m203.1 0 [(0, .ref 66)] [] hp kc ks = some (.inl (some (.int (w.getD 0 0))), hp, kc, ks) := by
  obtain ⟨⟨cm, h1, h2⟩, h3, h4⟩ := h
  have hr := rw_rd (r := []) (i := 0) h3 (n := 0) (by decide) (by omega)
  simp [am_m203, amRun, amDo, amStep, amLd, amGet, amIsA, amNext, amFGet, h1, h2, amSc, hr, amRetV, narrow]
theorem m_idx {a b : Int32} {x y : Nat} (ha : a.toInt = (x : Int)) (hb : b.toInt = (y : Int)) (hx : x < 15) (hy : y < 15) : (4 + 15 * a + b).toInt = ((4 + 15 * x + y : Nat) : Int) := by
  have e4 : (4 : Int32).toInt = 4 := by decide
  have e15 : (15 : Int32).toInt = 15 := by decide
  have h1 : (15 * a).toInt = 15 * (x : Int) := by
    rw [Int32.toInt_mul, e15, ha, aBmod (by omega) (by omega)]
  have h2 : (4 + 15 * a).toInt = 4 + 15 * (x : Int) := by
    rw [Int32.toInt_add, e4, h1, aBmod (by omega) (by omega)]
  rw [Int32.toInt_add, h2, hb, aBmod (by omega) (by omega)]
  omega
theorem m_thirdOf {G : Nat → Option amM} {hp : amH} {w : List Int32} (h : mW hp w) {a b : Int32} {x y : Nat} (ha : a.toInt = (x : Int)) (hb : b.toInt = (y : Int)) (hx : x < 15) (hy : y < 15) (f d kc ks : Nat) :
    amRun G none (f + 12) d am_m204 am_m204.1 0 [(0, .ref 66), (1, .int a), (2, .int b)] [] hp kc ks = some (.inl (some (.int (w.getD (4 + 15 * x + y) 0))), hp, kc, ks) := by
  obtain ⟨⟨cm, h1, h2⟩, h3, h4⟩ := h
  have hr := rw_rd (r := []) h3 (m_idx ha hb hx hy) (by omega)
  simp [am_m204, amRun, amDo, amStep, amLd, amGet, amIsA, amIsI, amNext, amFGet, amII, h1, h2, amSc, hr, amRetV, narrow]
theorem mW.set {hp : amH} {w : List Int32} (h : mW hp w) {w' : List Int32} (hl : w'.length = 229) : mW (hp.set 67 (32, w'.map Value.int)) w' := by
  obtain ⟨⟨cm, h1, h2⟩, h3, h4⟩ := h
  have hlt : 67 < hp.length := by
    rcases Nat.lt_or_ge 67 hp.length with z | z
    · exact z
    · rw [List.getElem?_eq_none z] at h3; cases h3
  exact ⟨⟨cm, by rw [List.getElem?_set_ne (by decide)]; exact h1, h2⟩, List.getElem?_set_self hlt, hl⟩
theorem f4_3 : ((3 : Fin 4) : Nat) = 3 := rfl
theorem f4_2 : ((2 : Fin 4) : Nat) = 2 := rfl
theorem isI_int (x : Int32) : amIsI (.int x) = true := rfl
theorem isA_ref (x : Nat) : amIsA (.ref x) = true := rfl
theorem m_lays {G : Nat → Option amM} {hp : amH} {w : List Int32} (h : mW hp w) {a b c : Int32} {x y : Nat} (ha : a.toInt = (x : Int)) (hb : b.toInt = (y : Int)) (hx : x < 15) (hy : y < 15) (f d kc ks : Nat) :
    amRun G none (f + 23) d am_m205 am_m205.1 0 [(0, .ref 66), (1, .int a), (2, .int b), (3, .int c)] [] hp kc ks = some (.inl none, hp.set 67 (32, (((w.set (4 + 15 * x + y) c).set (4 + 15 * y + x) c).map Value.int)), kc, ks) := by
  have hm := h.set (w' := w.set (4 + 15 * x + y) c) (by rw [List.length_set]; exact h.2.2)
  obtain ⟨⟨cm, h1, h2⟩, h3, h4⟩ := h
  obtain ⟨⟨cm', g1, g2⟩, g3, g4⟩ := hm
  have hr := rw_wr (r := []) (v := c) h3 (m_idx ha hb hx hy) (by omega)
  have hr2 := rw_wr (r := []) (v := c) g3 (m_idx hb ha hy hx) (by omega)
  rw [List.set_set] at hr2
  rw [List.getElem?_set_ne (by decide)] at g1
  cases h1.symm.trans g1
  have g5 : (hp.set 67 (32, (w.set (4 + 15 * x + y) c).map Value.int))[66]? = some (11, cm) := by rw [List.getElem?_set_ne (by decide)]; exact h1
  simp only [List.map_set] at hr hr2 g5
  simp [am_m205, amRun, amDo, amStep, amLd, amGet, isA_ref, isI_int, f4_2, f4_3, amNext, amFGet, amII, h1, h2, g5, hr, hr2, amRetV]
end
/-! ##### 12.c.puts ##### -/
section
/-! ===== puts ===== -/
theorem g205 : amGG 205 = some am_m205 := rfl
theorem p205a : am_m205.2.2.1 = 4 := rfl
theorem p205b : am_m205.2.1 = 4 := rfl
theorem p205c : am_m205.2.2.2.2.2.2 = 11 := rfl
noncomputable def lay (w : List Int32) (x y : Nat) (c : Int32) : List Int32 := (w.set (4 + 15 * x + y) c).set (4 + 15 * y + x) c
theorem lay_len (w : List Int32) (x y : Nat) (c : Int32) : (lay w x y c).length = w.length := by unfold lay; rw [List.length_set, List.length_set]
theorem m_laysF {hp : amH} {w : List Int32} (h : mW hp w) {a b c : Int32} {x y : Nat} (ha : a.toInt = (x : Int)) (hb : b.toInt = (y : Int)) (hx : x < 15) (hy : y < 15) (F D : Nat) (hF : 23 ≤ F) :
    amRun amGG none F D am_m205 am_m205.1 0 [(0, .ref 66), (1, .int a), (2, .int b), (3, .int c)] [] hp 0 0 = some (.inl none, hp.set 67 (32, (lay w x y c).map Value.int), 0, 0) :=
  amRun_more 23 none 0 am_m205 am_m205.1 0 _ [] hp 0 0 _ (m_lays h ha hb hx hy 0 0 0 0) F D hF (Nat.zero_le _)
theorem m_puts {hp : amH} {w : List Int32} (h : mW hp w) {a b c : Int32} {x y z : Nat} (ha : a.toInt = (x : Int)) (hb : b.toInt = (y : Int)) (hc : c.toInt = (z : Int)) (hx : x < 15) (hy : y < 15) (hz : z < 15) (f d kc ks : Nat) :
    amRun amGG none (f + 50) (d + 1) am_m206 am_m206.1 0 [(0, .ref 66), (1, .int a), (2, .int b), (3, .int c)] [] hp kc ks = some (.inl none, hp.set 67 (32, (lay (lay (lay w x y c) y z a) x z b).map Value.int), kc, ks) := by
  have hl : 66 < hp.length := by
    obtain ⟨⟨cm, h1, h2⟩, h3, h4⟩ := h
    rcases Nat.lt_or_ge 66 hp.length with u | u
    · exact u
    · rw [List.getElem?_eq_none u] at h1; cases h1
  have k1 := h.set (w' := lay w x y c) (by rw [lay_len]; exact h.2.2)
  have k2 := h.set (w' := lay (lay w x y c) y z a) (by rw [lay_len, lay_len]; exact h.2.2)
  have q1 := m_laysF h (c := c) ha hb hx hy
  have q2 := m_laysF k1 (c := a) hb hc hy hz
  have q3 := m_laysF k2 (c := b) ha hc hx hz
  rw [List.set_set] at q2 q3
  obtain ⟨⟨cm, h1, h2⟩, h3, h4⟩ := h
  have h1' : hp[66] = (11, cm) := by rw [List.getElem?_eq_getElem hl] at h1; exact Option.some.inj h1
  obtain ⟨⟨c1, e1, -⟩, -⟩ := k1
  obtain ⟨⟨c2, e2, -⟩, -⟩ := k2
  simp [am_m206, amRun, amDo, amStep, amLd, amGet, isA_ref, isI_int, f4_2, f4_3, amNext, amCall, g205, lv_args, amOkL, amOkS, amOk, amRecv, h1, e1, e2, hl, Value.category, q1, q2, q3, amRetV, p205a, p205b, p205c, h1']
end
/-! ##### 12.e.copies ##### -/
section
/-! ===== copies ===== -/
/-- what copies does, element after element -/
noncomputable def cpy (src : List Int32) (s0 d0 : Nat) : Nat → List Int32 → List Int32
  | 0, dst => dst
  | n + 1, dst => cpy src (s0 + 1) (d0 + 1) n (dst.set d0 (src.getD s0 0))
theorem cpy_len (src : List Int32) : ∀ (n s0 d0 : Nat) (dst : List Int32), (cpy src s0 d0 n dst).length = dst.length
  | 0, _, _, _ => rfl
  | n + 1, s0, d0, dst => by unfold cpy; rw [cpy_len, List.length_set]
theorem s198_3 : amSeek am_m198.1 3 = [(3, .iload 5, 0, 0), (5, .iload 4, 0, 0), (7, .if_icmp .ge 21, 28, 0), (10, .aload_n 2, 0, 0), (11, .iload_n 3, 0, 0), (12, .iload 5, 0, 0), (14, .iadd, 0, 0), (15, .aload_n 0, 0, 0), (16, .iload_n 1, 0, 0), (17, .iload 5, 0, 0), (19, .iadd, 0, 0), (20, .iaload, 0, 0), (21, .iastore, 0, 0), (22, .iinc 5 1, 0, 0), (25, .goto (-22), 3, 0), (28, .return_, 0, 0)] := rfl
theorem p198b : am_m198.2.1 = 6 := rfl
theorem m_copies_loop {G : Nat → Option amM} {p q : Nat} (hpq : ¬ p = q) {src : List Int32} {at0 into many : Int32} {s0 d0 N : Nat} (ha : at0.toInt = (s0 : Int)) (hi : into.toInt = (d0 : Int)) (hm : many.toInt = (N : Int)) (hs : s0 + N ≤ src.length) (hb : src.length ≤ 100000) :
    ∀ (j k : Nat) (ki : Int32) (hp : amH) (dst : List Int32) (f d kc ks : Nat), k + j = N → ki.toInt = (k : Int) → hp[p]? = some (32, src.map Value.int) → hp[q]? = some (32, dst.map Value.int) → d0 + N ≤ dst.length → dst.length ≤ 100000 →
    amRun G none (f + 15 * j + 10) d am_m198 (amSeek am_m198.1 3) 3 [(5, .int ki), (0, .ref p), (1, .int at0), (2, .ref q), (3, .int into), (4, .int many)] [] hp kc ks = some (.inl none, hp.set q (32, (cpy src (s0 + k) (d0 + k) j dst).map Value.int), kc, ks) := by
  intro j
  induction j with
  | zero =>
    intro k ki hp dst f d kc ks hk hki h1 h2 h3 h4
    have hc : ¬ ki < many := fun z => by have := Int32.lt_iff_toInt_lt.mp z; omega
    have hc2 : many ≤ ki := Int32.le_iff_toInt_le.mpr (by omega)
    have hset : hp.set q (32, dst.map Value.int) = hp := by
      apply List.ext_getElem?
      intro i
      by_cases e : q = i
      · subst e
        have hlt : q < hp.length := by
          rcases Nat.lt_or_ge q hp.length with z | z
          · exact z
          · rw [List.getElem?_eq_none z] at h2; cases h2
        rw [List.getElem?_set_self hlt, h2]
      · rw [List.getElem?_set_ne e]
    simp only [cpy, hset]
    simp [am_m198, amSeek, amRun, amDo, amStep, amLd, amGet, isI_int, amNext, amCmp, amCmpP, hc2, amRetV]
  | succ j ih =>
    intro k ki hp dst f d kc ks hk hki h1 h2 h3 h4
    have hc2 : ¬ many ≤ ki := fun z => by have := Int32.le_iff_toInt_le.mp z; omega
    have i1 : (at0 + ki).toInt = ((s0 + k : Nat) : Int) := by rw [Int32.toInt_add, ha, hki, aBmod (by omega) (by omega)]; omega
    have i2 : (into + ki).toInt = ((d0 + k : Nat) : Int) := by rw [Int32.toInt_add, hi, hki, aBmod (by omega) (by omega)]; omega
    have i3 : (ki + 1).toInt = ((k + 1 : Nat) : Int) := by rw [Int32.toInt_add, hki, show (1 : Int32).toInt = 1 by decide, aBmod (by omega) (by omega)]; omega
    have hr := rw_rd (r := [.int (into + ki), .ref q]) h1 i1 (by omega)
    have hw := rw_wr (r := []) (v := src.getD (s0 + k) 0) h2 i2 (by omega)
    have hlt : q < hp.length := by
      rcases Nat.lt_or_ge q hp.length with z | z
      · exact z
      · rw [List.getElem?_eq_none z] at h2; cases h2
    have nx := ih (k + 1) (ki + 1) (hp.set q (32, (dst.set (d0 + k) (src.getD (s0 + k) 0)).map Value.int)) (dst.set (d0 + k) (src.getD (s0 + k) 0)) f d kc ks (by omega) i3 (by rw [List.getElem?_set_ne (fun z => hpq z.symm)]; exact h1) (List.getElem?_set_self hlt) (by rw [List.length_set]; exact h3) (by rw [List.length_set]; exact h4)
    rw [List.set_set] at nx
    rw [s198_3, show f + 15 * (j + 1) + 10 = f + 15 * j + 10 + 15 by omega]
    simp only [cpy]
    rw [show s0 + k + 1 = s0 + (k + 1) by omega, show d0 + k + 1 = d0 + (k + 1) by omega]
    refine Eq.trans ?_ nx
    generalize src.getD (s0 + k) 0 = v at hr hw ⊢
    simp [p198b, amRun, amDo, amStep, amLd, amGet, isI_int, isA_ref, f4_2, f4_3, amNext, amCmp, amCmpP, hc2, amII, amSc, hr, hw, amInc, amSet1, Value.category]
end
/-! ##### 12.f.takes ##### -/
section
/-! ===== takes ===== -/
theorem m_takes {hp : amH} {w : List Int32} (h : mW hp w) {a b c : Int32} {x y z : Nat} (ha : a.toInt = (x : Int)) (hb : b.toInt = (y : Int)) (hc : c.toInt = (z : Int)) (hx : x < 15) (hy : y < 15) (hz : z < 15) (f d kc ks : Nat) :
    amRun amGG none (f + 50) (d + 1) am_m207 am_m207.1 0 [(0, .ref 66), (1, .int a), (2, .int b), (3, .int c)] [] hp kc ks = some (.inl none, hp.set 67 (32, (lay (lay (lay w x y (-1)) y z (-1)) x z (-1)).map Value.int), kc, ks) := by
  have hl : 66 < hp.length := by
    obtain ⟨⟨cm, h1, h2⟩, h3, h4⟩ := h
    rcases Nat.lt_or_ge 66 hp.length with u | u
    · exact u
    · rw [List.getElem?_eq_none u] at h1; cases h1
  have k1 := h.set (w' := lay w x y (-1)) (by rw [lay_len]; exact h.2.2)
  have k2 := h.set (w' := lay (lay w x y (-1)) y z (-1)) (by rw [lay_len, lay_len]; exact h.2.2)
  have q1 := m_laysF h (c := -1) ha hb hx hy
  have q2 := m_laysF k1 (c := -1) hb hc hy hz
  have q3 := m_laysF k2 (c := -1) ha hc hx hz
  rw [List.set_set] at q2 q3
  obtain ⟨⟨cm, h1, h2⟩, h3, h4⟩ := h
  have h1' : hp[66] = (11, cm) := by rw [List.getElem?_eq_getElem hl] at h1; exact Option.some.inj h1
  obtain ⟨⟨c1, e1, -⟩, -⟩ := k1
  obtain ⟨⟨c2, e2, -⟩, -⟩ := k2
  simp [am_m207, amRun, amDo, amStep, amLd, amGet, isA_ref, isI_int, f4_2, f4_3, amNext, amCall, g205, lv_args, amOkL, amOkS, amOk, amRecv, h1, e1, e2, hl, Value.category, q1, q2, q3, amRetV, p205a, p205b, p205c, h1']
end
/-! ##### 12.g.covered ##### -/
section
/-! ===== coveredOf ===== -/
theorem g204 : amGG 204 = some am_m204 := rfl
theorem p204a : am_m204.2.2.1 = 3 := rfl
theorem p204b : am_m204.2.1 = 3 := rfl
theorem p204c : am_m204.2.2.2.2.2.2 = 11 := rfl
theorem m_thirdOfF {hp : amH} {w : List Int32} (h : mW hp w) {a b : Int32} {x y : Nat} (ha : a.toInt = (x : Int)) (hb : b.toInt = (y : Int)) (hx : x < 15) (hy : y < 15) (F D : Nat) (hF : 12 ≤ F) :
    amRun amGG none F D am_m204 am_m204.1 0 [(0, .ref 66), (1, .int a), (2, .int b)] [] hp 0 0 = some (.inl (some (.int (w.getD (4 + 15 * x + y) 0))), hp, 0, 0) :=
  amRun_more 12 none 0 am_m204 am_m204.1 0 _ [] hp 0 0 _ (m_thirdOf h ha hb hx hy 0 0 0 0) F D hF (Nat.zero_le _)
end
