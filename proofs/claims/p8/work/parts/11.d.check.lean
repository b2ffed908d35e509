/-! ===== the tables checked, 3 ===== -/
theorem am_f288 : fM amXX amGG am_V am_W12 am_n288 am_m288 am_h288 am_g288 = true := by decide +kernel
theorem am_f289 : fM amXX amGG am_V am_W12 am_n289 am_m289 am_h289 am_g289 = true := by decide +kernel
theorem am_f290 : fM amXX amGG am_V am_W12 am_n290 am_m290 am_h290 am_g290 = true := by decide +kernel
theorem am_f291 : fM amXX amGG am_V am_W12 am_n291 am_m291 am_h291 am_g291 = true := by decide +kernel
theorem am_f292 : fM amXX amGG am_V am_W12 am_n292 am_m292 am_h292 am_g292 = true := by decide +kernel
theorem am_f293 : fM amXX amGG am_V am_W12 am_n293 am_m293 am_h293 am_g293 = true := by decide +kernel
theorem am_f294 : fM amXX amGG am_V am_W12 am_n294 am_m294 am_h294 am_g294 = true := by decide +kernel
theorem am_f295 : fM amXX amGG am_V am_W12 am_n295 am_m295 am_h295 am_g295 = true := by decide +kernel
theorem am_f296 : fM amXX amGG am_V am_W12 am_n296 am_m296 am_h296 am_g296 = true := by decide +kernel
theorem am_f297 : fM amXX amGG am_V am_W12 am_n297 am_m297 am_h297 am_g297 = true := by decide +kernel
theorem am_f298 : fM amXX amGG am_V am_W12 am_n298 am_m298 am_h298 am_g298 = true := by decide +kernel
theorem am_f299 : fM amXX amGG am_V am_W12 am_n299 am_m299 am_h299 am_g299 = true := by decide +kernel
theorem am_f300 : fM amXX amGG am_V am_W12 am_n300 am_m300 am_h300 am_g300 = true := by decide +kernel
theorem am_f301 : fM amXX amGG am_V am_W12 am_n301 am_m301 am_h301 am_g301 = true := by decide +kernel
theorem am_f302 : fM amXX amGG am_V am_W12 am_n302 am_m302 am_h302 am_g302 = true := by decide +kernel
theorem am_f303 : fM amXX amGG am_V am_W12 am_n303 am_m303 am_h303 am_g303 = true := by decide +kernel
theorem am_f304 : fM amXX amGG am_V am_W12 am_n304 am_m304 am_h304 am_g304 = true := by decide +kernel
theorem am_f305 : fM amXX amGG am_V am_W12 am_n305 am_m305 am_h305 am_g305 = true := by decide +kernel
theorem am_f306 : fM amXX amGG am_V am_W12 am_n306 am_m306 am_h306 am_g306 = true := by decide +kernel
theorem am_f307 : fM amXX amGG am_V am_W12 am_n307 am_m307 am_h307 am_g307 = true := by decide +kernel
theorem am_f308 : fM amXX amGG am_V am_W12 am_n308 am_m308 am_h308 am_g308 = true := by decide +kernel
theorem am_f309 : fM amXX amGG am_V am_W12 am_n309 am_m309 am_h309 am_g309 = true := by decide +kernel
theorem am_f310 : fM amXX amGG am_V am_W12 am_n310 am_m310 am_h310 am_g310 = true := by decide +kernel
theorem am_f311 : fM amXX amGG am_V am_W12 am_n311 am_m311 am_h311 am_g311 = true := by decide +kernel
theorem am_f312 : fM amXX amGG am_V am_W12 am_n312 am_m312 am_h312 am_g312 = true := by decide +kernel
theorem am_f313 : fM amXX amGG am_V am_W12 am_n313 am_m313 am_h313 am_g313 = true := by decide +kernel
theorem am_f314 : fM amXX amGG am_V am_W12 am_n314 am_m314 am_h314 am_g314 = true := by decide +kernel
theorem am_f315 : fM amXX amGG am_V am_W12 am_n315 am_m315 am_h315 am_g315 = true := by decide +kernel
theorem am_f316 : fM amXX amGG am_V am_W12 am_n316 am_m316 am_h316 am_g316 = true := by decide +kernel
theorem am_f317 : fM amXX amGG am_V am_W12 am_n317 am_m317 am_h317 am_g317 = true := by decide +kernel
theorem am_f318 : fM amXX amGG am_V am_W12 am_n318 am_m318 am_h318 am_g318 = true := by decide +kernel
theorem am_f319 : fM amXX amGG am_V am_W12 am_n319 am_m319 am_h319 am_g319 = true := by decide +kernel
theorem am_f320 : fM amXX amGG am_V am_W12 am_n320 am_m320 am_h320 am_g320 = true := by decide +kernel
theorem am_f321 : fM amXX amGG am_V am_W12 am_n321 am_m321 am_h321 am_g321 = true := by decide +kernel
theorem am_f322 : fM amXX amGG am_V am_W12 am_n322 am_m322 am_h322 am_g322 = true := by decide +kernel
theorem am_f323 : fM amXX amGG am_V am_W12 am_n323 am_m323 am_h323 am_g323 = true := by decide +kernel
theorem am_f324 : fM amXX amGG am_V am_W12 am_n324 am_m324 am_h324 am_g324 = true := by decide +kernel
theorem am_f325 : fM amXX amGG am_V am_W12 am_n325 am_m325 am_h325 am_g325 = true := by decide +kernel
theorem am_f326 : fM amXX amGG am_V am_W12 am_n326 am_m326 am_h326 am_g326 = true := by decide +kernel
theorem am_f327 : fM amXX amGG am_V am_W12 am_n327 am_m327 am_h327 am_g327 = true := by decide +kernel
theorem am_f328 : fM amXX amGG am_V am_W12 am_n328 am_m328 am_h328 am_g328 = true := by decide +kernel
theorem am_f329 : fM amXX amGG am_V am_W12 am_n329 am_m329 am_h329 am_g329 = true := by decide +kernel
theorem am_f330 : fM amXX amGG am_V am_W12 am_n330 am_m330 am_h330 am_g330 = true := by decide +kernel
theorem am_f331 : fM amXX amGG am_V am_W12 am_n331 am_m331 am_h331 am_g331 = true := by decide +kernel
theorem am_f332 : fM amXX amGG am_V am_W12 am_n332 am_m332 am_h332 am_g332 = true := by decide +kernel
theorem am_f333 : fM amXX amGG am_V am_W12 am_n333 am_m333 am_h333 am_g333 = true := by decide +kernel
theorem am_f334 : fM amXX amGG am_V am_W12 am_n334 am_m334 am_h334 am_g334 = true := by decide +kernel
theorem am_f335 : fM amXX amGG am_V am_W12 am_n335 am_m335 am_h335 am_g335 = true := by decide +kernel
theorem am_f336 : fM amXX amGG am_V am_W12 am_n336 am_m336 am_h336 am_g336 = true := by decide +kernel
theorem am_f337 : fM amXX amGG am_V am_W12 am_n337 am_m337 am_h337 am_g337 = true := by decide +kernel
theorem am_f338 : fM amXX amGG am_V am_W12 am_n338 am_m338 am_h338 am_g338 = true := by decide +kernel
theorem am_f339 : fM amXX amGG am_V am_W12 am_n339 am_m339 am_h339 am_g339 = true := by decide +kernel
theorem am_f340 : fM amXX amGG am_V am_W12 am_n340 am_m340 am_h340 am_g340 = true := by decide +kernel
theorem am_f341 : fM amXX amGG am_V am_W12 am_n341 am_m341 am_h341 am_g341 = true := by decide +kernel
theorem am_f342 : fM amXX amGG am_V am_W13 am_n342 am_m342 am_h342 am_g342 = true := by decide +kernel
theorem am_f343 : fM amXX amGG am_V am_W13 am_n343 am_m343 am_h343 am_g343 = true := by decide +kernel
theorem am_f344 : fM amXX amGG am_V am_W14 am_n344 am_m344 am_h344 am_g344 = true := by decide +kernel
theorem am_f345 : fM amXX amGG am_V am_W15 am_n345 am_m345 am_h345 am_g345 = true := by decide +kernel
theorem am_f346 : fM amXX amGG am_V am_W15 am_n346 am_m346 am_h346 am_g346 = true := by decide +kernel
theorem am_f347 : fM amXX amGG am_V am_W15 am_n347 am_m347 am_h347 am_g347 = true := by decide +kernel
theorem am_f348 : fM amXX amGG am_V am_W16 am_n348 am_m348 am_h348 am_g348 = true := by decide +kernel
theorem am_f349 : fM amXX amGG am_V am_W16 am_n349 am_m349 am_h349 am_g349 = true := by decide +kernel
theorem am_f350 : fM amXX amGG am_V am_W16 am_n350 am_m350 am_h350 am_g350 = true := by decide +kernel
theorem am_f351 : fM amXX amGG am_V am_W16 am_n351 am_m351 am_h351 am_g351 = true := by decide +kernel
theorem am_f352 : fM amXX amGG am_V am_W16 am_n352 am_m352 am_h352 am_g352 = true := by decide +kernel
theorem am_f353 : fM amXX amGG am_V am_W16 am_n353 am_m353 am_h353 am_g353 = true := by decide +kernel
theorem am_f354 : fM amXX amGG am_V am_W16 am_n354 am_m354 am_h354 am_g354 = true := by decide +kernel
theorem am_f355 : fM amXX amGG am_V am_W16 am_n355 am_m355 am_h355 am_g355 = true := by decide +kernel
theorem am_f356 : fM amXX amGG am_V am_W16 am_n356 am_m356 am_h356 am_g356 = true := by decide +kernel
theorem am_f357 : fM amXX amGG am_V am_W16 am_n357 am_m357 am_h357 am_g357 = true := by decide +kernel
theorem am_f358 : fM amXX amGG am_V am_W16 am_n358 am_m358 am_h358 am_g358 = true := by decide +kernel
theorem am_f359 : fM amXX amGG am_V am_W16 am_n359 am_m359 am_h359 am_g359 = true := by decide +kernel
theorem am_f360 : fM amXX amGG am_V am_W16 am_n360 am_m360 am_h360 am_g360 = true := by decide +kernel
theorem am_f361 : fM amXX amGG am_V am_W16 am_n361 am_m361 am_h361 am_g361 = true := by decide +kernel
theorem am_f362 : fM amXX amGG am_V am_W16 am_n362 am_m362 am_h362 am_g362 = true := by decide +kernel
theorem am_f363 : fM amXX amGG am_V am_W16 am_n363 am_m363 am_h363 am_g363 = true := by decide +kernel
theorem am_f364 : fM amXX amGG am_V am_W16 am_n364 am_m364 am_h364 am_g364 = true := by decide +kernel
theorem am_f365 : fM amXX amGG am_V am_W16 am_n365 am_m365 am_h365 am_g365 = true := by decide +kernel
theorem am_f366 : fM amXX amGG am_V am_W16 am_n366 am_m366 am_h366 am_g366 = true := by decide +kernel
theorem am_f367 : fM amXX amGG am_V am_W16 am_n367 am_m367 am_h367 am_g367 = true := by decide +kernel
theorem am_f368 : fM amXX amGG am_V am_W16 am_n368 am_m368 am_h368 am_g368 = true := by decide +kernel
theorem am_f369 : fM amXX amGG am_V am_W16 am_n369 am_m369 am_h369 am_g369 = true := by decide +kernel
theorem am_f370 : fM amXX amGG am_V am_W16 am_n370 am_m370 am_h370 am_g370 = true := by decide +kernel
theorem am_f371 : fM amXX amGG am_V am_W16 am_n371 am_m371 am_h371 am_g371 = true := by decide +kernel
theorem am_f372 : fM amXX amGG am_V am_W16 am_n372 am_m372 am_h372 am_g372 = true := by decide +kernel
theorem am_f373 : fM amXX amGG am_V am_W16 am_n373 am_m373 am_h373 am_g373 = true := by decide +kernel
theorem am_f374 : fM amXX amGG am_V am_W16 am_n374 am_m374 am_h374 am_g374 = true := by decide +kernel
theorem am_f375 : fM amXX amGG am_V am_W16 am_n375 am_m375 am_h375 am_g375 = true := by decide +kernel
theorem am_f376 : fM amXX amGG am_V am_W16 am_n376 am_m376 am_h376 am_g376 = true := by decide +kernel
theorem am_f377 : fM amXX amGG am_V am_W16 am_n377 am_m377 am_h377 am_g377 = true := by decide +kernel
theorem am_f378 : fM amXX amGG am_V am_W16 am_n378 am_m378 am_h378 am_g378 = true := by decide +kernel
theorem am_f379 : fM amXX amGG am_V am_W16 am_n379 am_m379 am_h379 am_g379 = true := by decide +kernel
theorem am_f380 : fM amXX amGG am_V am_W16 am_n380 am_m380 am_h380 am_g380 = true := by decide +kernel
theorem am_f381 : fM amXX amGG am_V am_W16 am_n381 am_m381 am_h381 am_g381 = true := by decide +kernel
theorem am_f382 : fM amXX amGG am_V am_W16 am_n382 am_m382 am_h382 am_g382 = true := by decide +kernel
theorem am_f383 : fM amXX amGG am_V am_W16 am_n383 am_m383 am_h383 am_g383 = true := by decide +kernel
theorem am_t6 : ∀ t ∈ [(am_n288, am_m288), (am_n289, am_m289), (am_n290, am_m290), (am_n291, am_m291), (am_n292, am_m292), (am_n293, am_m293), (am_n294, am_m294), (am_n295, am_m295), (am_n296, am_m296), (am_n297, am_m297), (am_n298, am_m298), (am_n299, am_m299), (am_n300, am_m300), (am_n301, am_m301), (am_n302, am_m302), (am_n303, am_m303), (am_n304, am_m304), (am_n305, am_m305), (am_n306, am_m306), (am_n307, am_m307), (am_n308, am_m308), (am_n309, am_m309), (am_n310, am_m310), (am_n311, am_m311), (am_n312, am_m312), (am_n313, am_m313), (am_n314, am_m314), (am_n315, am_m315), (am_n316, am_m316), (am_n317, am_m317), (am_n318, am_m318), (am_n319, am_m319), (am_n320, am_m320), (am_n321, am_m321), (am_n322, am_m322), (am_n323, am_m323), (am_n324, am_m324), (am_n325, am_m325), (am_n326, am_m326), (am_n327, am_m327), (am_n328, am_m328), (am_n329, am_m329), (am_n330, am_m330), (am_n331, am_m331), (am_n332, am_m332), (am_n333, am_m333), (am_n334, am_m334), (am_n335, am_m335)], amMk amGG amXX t.1 t.2 := by
  intro t ht
  simp only [List.mem_cons, List.not_mem_nil, or_false] at ht
  rcases ht with rfl | rfl | rfl | rfl | rfl | rfl | rfl | rfl | rfl | rfl | rfl | rfl | rfl | rfl | rfl | rfl | rfl | rfl | rfl | rfl | rfl | rfl | rfl | rfl | rfl | rfl | rfl | rfl | rfl | rfl | rfl | rfl | rfl | rfl | rfl | rfl | rfl | rfl | rfl | rfl | rfl | rfl | rfl | rfl | rfl | rfl | rfl | rfl
  · exact fM_s am_zz am_rq (o := 12) rfl am_v am_w12 am_f288
  · exact fM_s am_zz am_rq (o := 12) rfl am_v am_w12 am_f289
  · exact fM_s am_zz am_rq (o := 12) rfl am_v am_w12 am_f290
  · exact fM_s am_zz am_rq (o := 12) rfl am_v am_w12 am_f291
  · exact fM_s am_zz am_rq (o := 12) rfl am_v am_w12 am_f292
  · exact fM_s am_zz am_rq (o := 12) rfl am_v am_w12 am_f293
  · exact fM_s am_zz am_rq (o := 12) rfl am_v am_w12 am_f294
  · exact fM_s am_zz am_rq (o := 12) rfl am_v am_w12 am_f295
  · exact fM_s am_zz am_rq (o := 12) rfl am_v am_w12 am_f296
  · exact fM_s am_zz am_rq (o := 12) rfl am_v am_w12 am_f297
  · exact fM_s am_zz am_rq (o := 12) rfl am_v am_w12 am_f298
  · exact fM_s am_zz am_rq (o := 12) rfl am_v am_w12 am_f299
  · exact fM_s am_zz am_rq (o := 12) rfl am_v am_w12 am_f300
  · exact fM_s am_zz am_rq (o := 12) rfl am_v am_w12 am_f301
  · exact fM_s am_zz am_rq (o := 12) rfl am_v am_w12 am_f302
  · exact fM_s am_zz am_rq (o := 12) rfl am_v am_w12 am_f303
  · exact fM_s am_zz am_rq (o := 12) rfl am_v am_w12 am_f304
  · exact fM_s am_zz am_rq (o := 12) rfl am_v am_w12 am_f305
  · exact fM_s am_zz am_rq (o := 12) rfl am_v am_w12 am_f306
  · exact fM_s am_zz am_rq (o := 12) rfl am_v am_w12 am_f307
  · exact fM_s am_zz am_rq (o := 12) rfl am_v am_w12 am_f308
  · exact fM_s am_zz am_rq (o := 12) rfl am_v am_w12 am_f309
  · exact fM_s am_zz am_rq (o := 12) rfl am_v am_w12 am_f310
  · exact fM_s am_zz am_rq (o := 12) rfl am_v am_w12 am_f311
  · exact fM_s am_zz am_rq (o := 12) rfl am_v am_w12 am_f312
  · exact fM_s am_zz am_rq (o := 12) rfl am_v am_w12 am_f313
  · exact fM_s am_zz am_rq (o := 12) rfl am_v am_w12 am_f314
  · exact fM_s am_zz am_rq (o := 12) rfl am_v am_w12 am_f315
  · exact fM_s am_zz am_rq (o := 12) rfl am_v am_w12 am_f316
  · exact fM_s am_zz am_rq (o := 12) rfl am_v am_w12 am_f317
  · exact fM_s am_zz am_rq (o := 12) rfl am_v am_w12 am_f318
  · exact fM_s am_zz am_rq (o := 12) rfl am_v am_w12 am_f319
  · exact fM_s am_zz am_rq (o := 12) rfl am_v am_w12 am_f320
  · exact fM_s am_zz am_rq (o := 12) rfl am_v am_w12 am_f321
  · exact fM_s am_zz am_rq (o := 12) rfl am_v am_w12 am_f322
  · exact fM_s am_zz am_rq (o := 12) rfl am_v am_w12 am_f323
  · exact fM_s am_zz am_rq (o := 12) rfl am_v am_w12 am_f324
  · exact fM_s am_zz am_rq (o := 12) rfl am_v am_w12 am_f325
  · exact fM_s am_zz am_rq (o := 12) rfl am_v am_w12 am_f326
  · exact fM_s am_zz am_rq (o := 12) rfl am_v am_w12 am_f327
  · exact fM_s am_zz am_rq (o := 12) rfl am_v am_w12 am_f328
  · exact fM_s am_zz am_rq (o := 12) rfl am_v am_w12 am_f329
  · exact fM_s am_zz am_rq (o := 12) rfl am_v am_w12 am_f330
  · exact fM_s am_zz am_rq (o := 12) rfl am_v am_w12 am_f331
  · exact fM_s am_zz am_rq (o := 12) rfl am_v am_w12 am_f332
  · exact fM_s am_zz am_rq (o := 12) rfl am_v am_w12 am_f333
  · exact fM_s am_zz am_rq (o := 12) rfl am_v am_w12 am_f334
  · exact fM_s am_zz am_rq (o := 12) rfl am_v am_w12 am_f335
theorem am_t7 : ∀ t ∈ [(am_n336, am_m336), (am_n337, am_m337), (am_n338, am_m338), (am_n339, am_m339), (am_n340, am_m340), (am_n341, am_m341), (am_n342, am_m342), (am_n343, am_m343), (am_n344, am_m344), (am_n345, am_m345), (am_n346, am_m346), (am_n347, am_m347), (am_n348, am_m348), (am_n349, am_m349), (am_n350, am_m350), (am_n351, am_m351), (am_n352, am_m352), (am_n353, am_m353), (am_n354, am_m354), (am_n355, am_m355), (am_n356, am_m356), (am_n357, am_m357), (am_n358, am_m358), (am_n359, am_m359), (am_n360, am_m360), (am_n361, am_m361), (am_n362, am_m362), (am_n363, am_m363), (am_n364, am_m364), (am_n365, am_m365), (am_n366, am_m366), (am_n367, am_m367), (am_n368, am_m368), (am_n369, am_m369), (am_n370, am_m370), (am_n371, am_m371), (am_n372, am_m372), (am_n373, am_m373), (am_n374, am_m374), (am_n375, am_m375), (am_n376, am_m376), (am_n377, am_m377), (am_n378, am_m378), (am_n379, am_m379), (am_n380, am_m380), (am_n381, am_m381), (am_n382, am_m382), (am_n383, am_m383)], amMk amGG amXX t.1 t.2 := by
  intro t ht
  simp only [List.mem_cons, List.not_mem_nil, or_false] at ht
  rcases ht with rfl | rfl | rfl | rfl | rfl | rfl | rfl | rfl | rfl | rfl | rfl | rfl | rfl | rfl | rfl | rfl | rfl | rfl | rfl | rfl | rfl | rfl | rfl | rfl | rfl | rfl | rfl | rfl | rfl | rfl | rfl | rfl | rfl | rfl | rfl | rfl | rfl | rfl | rfl | rfl | rfl | rfl | rfl | rfl | rfl | rfl | rfl | rfl
  · exact fM_s am_zz am_rq (o := 12) rfl am_v am_w12 am_f336
  · exact fM_s am_zz am_rq (o := 12) rfl am_v am_w12 am_f337
  · exact fM_s am_zz am_rq (o := 12) rfl am_v am_w12 am_f338
  · exact fM_s am_zz am_rq (o := 12) rfl am_v am_w12 am_f339
  · exact fM_s am_zz am_rq (o := 12) rfl am_v am_w12 am_f340
  · exact fM_s am_zz am_rq (o := 12) rfl am_v am_w12 am_f341
  · exact fM_s am_zz am_rq (o := 13) rfl am_v am_w13 am_f342
  · exact fM_s am_zz am_rq (o := 13) rfl am_v am_w13 am_f343
  · exact fM_s am_zz am_rq (o := 14) rfl am_v am_w14 am_f344
  · exact fM_s am_zz am_rq (o := 15) rfl am_v am_w15 am_f345
  · exact fM_s am_zz am_rq (o := 15) rfl am_v am_w15 am_f346
  · exact fM_s am_zz am_rq (o := 15) rfl am_v am_w15 am_f347
  · exact fM_s am_zz am_rq (o := 16) rfl am_v am_w16 am_f348
  · exact fM_s am_zz am_rq (o := 16) rfl am_v am_w16 am_f349
  · exact fM_s am_zz am_rq (o := 16) rfl am_v am_w16 am_f350
  · exact fM_s am_zz am_rq (o := 16) rfl am_v am_w16 am_f351
  · exact fM_s am_zz am_rq (o := 16) rfl am_v am_w16 am_f352
  · exact fM_s am_zz am_rq (o := 16) rfl am_v am_w16 am_f353
  · exact fM_s am_zz am_rq (o := 16) rfl am_v am_w16 am_f354
  · exact fM_s am_zz am_rq (o := 16) rfl am_v am_w16 am_f355
  · exact fM_s am_zz am_rq (o := 16) rfl am_v am_w16 am_f356
  · exact fM_s am_zz am_rq (o := 16) rfl am_v am_w16 am_f357
  · exact fM_s am_zz am_rq (o := 16) rfl am_v am_w16 am_f358
  · exact fM_s am_zz am_rq (o := 16) rfl am_v am_w16 am_f359
  · exact fM_s am_zz am_rq (o := 16) rfl am_v am_w16 am_f360
  · exact fM_s am_zz am_rq (o := 16) rfl am_v am_w16 am_f361
  · exact fM_s am_zz am_rq (o := 16) rfl am_v am_w16 am_f362
  · exact fM_s am_zz am_rq (o := 16) rfl am_v am_w16 am_f363
  · exact fM_s am_zz am_rq (o := 16) rfl am_v am_w16 am_f364
  · exact fM_s am_zz am_rq (o := 16) rfl am_v am_w16 am_f365
  · exact fM_s am_zz am_rq (o := 16) rfl am_v am_w16 am_f366
  · exact fM_s am_zz am_rq (o := 16) rfl am_v am_w16 am_f367
  · exact fM_s am_zz am_rq (o := 16) rfl am_v am_w16 am_f368
  · exact fM_s am_zz am_rq (o := 16) rfl am_v am_w16 am_f369
  · exact fM_s am_zz am_rq (o := 16) rfl am_v am_w16 am_f370
  · exact fM_s am_zz am_rq (o := 16) rfl am_v am_w16 am_f371
  · exact fM_s am_zz am_rq (o := 16) rfl am_v am_w16 am_f372
  · exact fM_s am_zz am_rq (o := 16) rfl am_v am_w16 am_f373
  · exact fM_s am_zz am_rq (o := 16) rfl am_v am_w16 am_f374
  · exact fM_s am_zz am_rq (o := 16) rfl am_v am_w16 am_f375
  · exact fM_s am_zz am_rq (o := 16) rfl am_v am_w16 am_f376
  · exact fM_s am_zz am_rq (o := 16) rfl am_v am_w16 am_f377
  · exact fM_s am_zz am_rq (o := 16) rfl am_v am_w16 am_f378
  · exact fM_s am_zz am_rq (o := 16) rfl am_v am_w16 am_f379
  · exact fM_s am_zz am_rq (o := 16) rfl am_v am_w16 am_f380
  · exact fM_s am_zz am_rq (o := 16) rfl am_v am_w16 am_f381
  · exact fM_s am_zz am_rq (o := 16) rfl am_v am_w16 am_f382
  · exact fM_s am_zz am_rq (o := 16) rfl am_v am_w16 am_f383
