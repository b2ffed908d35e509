/-! ===== the tables checked, 7 ===== -/
theorem am_c336 : amCode amGG amXX am_n336.1.cls am_n336.2.1 am_m336.2.2.2.1 am_m336.1 am_h336 = true := by decide +kernel
theorem am_k336 : amMkB am_n336 am_m336 am_g336 = true := by decide +kernel
theorem am_c337 : amCode amGG amXX am_n337.1.cls am_n337.2.1 am_m337.2.2.2.1 am_m337.1 am_h337 = true := by decide +kernel
theorem am_k337 : amMkB am_n337 am_m337 am_g337 = true := by decide +kernel
theorem am_c338 : amCode amGG amXX am_n338.1.cls am_n338.2.1 am_m338.2.2.2.1 am_m338.1 am_h338 = true := by decide +kernel
theorem am_k338 : amMkB am_n338 am_m338 am_g338 = true := by decide +kernel
theorem am_c339 : amCode amGG amXX am_n339.1.cls am_n339.2.1 am_m339.2.2.2.1 am_m339.1 am_h339 = true := by decide +kernel
theorem am_k339 : amMkB am_n339 am_m339 am_g339 = true := by decide +kernel
theorem am_c340 : amCode amGG amXX am_n340.1.cls am_n340.2.1 am_m340.2.2.2.1 am_m340.1 am_h340 = true := by decide +kernel
theorem am_k340 : amMkB am_n340 am_m340 am_g340 = true := by decide +kernel
theorem am_c341 : amCode amGG amXX am_n341.1.cls am_n341.2.1 am_m341.2.2.2.1 am_m341.1 am_h341 = true := by decide +kernel
theorem am_k341 : amMkB am_n341 am_m341 am_g341 = true := by decide +kernel
theorem am_c342 : amCode amGG amXX am_n342.1.cls am_n342.2.1 am_m342.2.2.2.1 am_m342.1 am_h342 = true := by decide +kernel
theorem am_k342 : amMkB am_n342 am_m342 am_g342 = true := by decide +kernel
theorem am_c343 : amCode amGG amXX am_n343.1.cls am_n343.2.1 am_m343.2.2.2.1 am_m343.1 am_h343 = true := by decide +kernel
theorem am_k343 : amMkB am_n343 am_m343 am_g343 = true := by decide +kernel
theorem am_c344 : amCode amGG amXX am_n344.1.cls am_n344.2.1 am_m344.2.2.2.1 am_m344.1 am_h344 = true := by decide +kernel
theorem am_k344 : amMkB am_n344 am_m344 am_g344 = true := by decide +kernel
theorem am_c345 : amCode amGG amXX am_n345.1.cls am_n345.2.1 am_m345.2.2.2.1 am_m345.1 am_h345 = true := by decide +kernel
theorem am_k345 : amMkB am_n345 am_m345 am_g345 = true := by decide +kernel
theorem am_c346 : amCode amGG amXX am_n346.1.cls am_n346.2.1 am_m346.2.2.2.1 am_m346.1 am_h346 = true := by decide +kernel
theorem am_k346 : amMkB am_n346 am_m346 am_g346 = true := by decide +kernel
theorem am_c347 : amCode amGG amXX am_n347.1.cls am_n347.2.1 am_m347.2.2.2.1 am_m347.1 am_h347 = true := by decide +kernel
theorem am_k347 : amMkB am_n347 am_m347 am_g347 = true := by decide +kernel
theorem am_c348 : amCode amGG amXX am_n348.1.cls am_n348.2.1 am_m348.2.2.2.1 am_m348.1 am_h348 = true := by decide +kernel
theorem am_k348 : amMkB am_n348 am_m348 am_g348 = true := by decide +kernel
theorem am_c349 : amCode amGG amXX am_n349.1.cls am_n349.2.1 am_m349.2.2.2.1 am_m349.1 am_h349 = true := by decide +kernel
theorem am_k349 : amMkB am_n349 am_m349 am_g349 = true := by decide +kernel
theorem am_c350 : amCode amGG amXX am_n350.1.cls am_n350.2.1 am_m350.2.2.2.1 am_m350.1 am_h350 = true := by decide +kernel
theorem am_k350 : amMkB am_n350 am_m350 am_g350 = true := by decide +kernel
theorem am_c351 : amCode amGG amXX am_n351.1.cls am_n351.2.1 am_m351.2.2.2.1 am_m351.1 am_h351 = true := by decide +kernel
theorem am_k351 : amMkB am_n351 am_m351 am_g351 = true := by decide +kernel
theorem am_c352 : amCode amGG amXX am_n352.1.cls am_n352.2.1 am_m352.2.2.2.1 am_m352.1 am_h352 = true := by decide +kernel
theorem am_k352 : amMkB am_n352 am_m352 am_g352 = true := by decide +kernel
theorem am_c353 : amCode amGG amXX am_n353.1.cls am_n353.2.1 am_m353.2.2.2.1 am_m353.1 am_h353 = true := by decide +kernel
theorem am_k353 : amMkB am_n353 am_m353 am_g353 = true := by decide +kernel
theorem am_c354 : amCode amGG amXX am_n354.1.cls am_n354.2.1 am_m354.2.2.2.1 am_m354.1 am_h354 = true := by decide +kernel
theorem am_k354 : amMkB am_n354 am_m354 am_g354 = true := by decide +kernel
theorem am_c355 : amCode amGG amXX am_n355.1.cls am_n355.2.1 am_m355.2.2.2.1 am_m355.1 am_h355 = true := by decide +kernel
theorem am_k355 : amMkB am_n355 am_m355 am_g355 = true := by decide +kernel
theorem am_c356 : amCode amGG amXX am_n356.1.cls am_n356.2.1 am_m356.2.2.2.1 am_m356.1 am_h356 = true := by decide +kernel
theorem am_k356 : amMkB am_n356 am_m356 am_g356 = true := by decide +kernel
theorem am_c357 : amCode amGG amXX am_n357.1.cls am_n357.2.1 am_m357.2.2.2.1 am_m357.1 am_h357 = true := by decide +kernel
theorem am_k357 : amMkB am_n357 am_m357 am_g357 = true := by decide +kernel
theorem am_c358 : amCode amGG amXX am_n358.1.cls am_n358.2.1 am_m358.2.2.2.1 am_m358.1 am_h358 = true := by decide +kernel
theorem am_k358 : amMkB am_n358 am_m358 am_g358 = true := by decide +kernel
theorem am_c359 : amCode amGG amXX am_n359.1.cls am_n359.2.1 am_m359.2.2.2.1 am_m359.1 am_h359 = true := by decide +kernel
theorem am_k359 : amMkB am_n359 am_m359 am_g359 = true := by decide +kernel
theorem am_c360 : amCode amGG amXX am_n360.1.cls am_n360.2.1 am_m360.2.2.2.1 am_m360.1 am_h360 = true := by decide +kernel
theorem am_k360 : amMkB am_n360 am_m360 am_g360 = true := by decide +kernel
theorem am_c361 : amCode amGG amXX am_n361.1.cls am_n361.2.1 am_m361.2.2.2.1 am_m361.1 am_h361 = true := by decide +kernel
theorem am_k361 : amMkB am_n361 am_m361 am_g361 = true := by decide +kernel
theorem am_c362 : amCode amGG amXX am_n362.1.cls am_n362.2.1 am_m362.2.2.2.1 am_m362.1 am_h362 = true := by decide +kernel
theorem am_k362 : amMkB am_n362 am_m362 am_g362 = true := by decide +kernel
theorem am_c363 : amCode amGG amXX am_n363.1.cls am_n363.2.1 am_m363.2.2.2.1 am_m363.1 am_h363 = true := by decide +kernel
theorem am_k363 : amMkB am_n363 am_m363 am_g363 = true := by decide +kernel
theorem am_c364 : amCode amGG amXX am_n364.1.cls am_n364.2.1 am_m364.2.2.2.1 am_m364.1 am_h364 = true := by decide +kernel
theorem am_k364 : amMkB am_n364 am_m364 am_g364 = true := by decide +kernel
theorem am_c365 : amCode amGG amXX am_n365.1.cls am_n365.2.1 am_m365.2.2.2.1 am_m365.1 am_h365 = true := by decide +kernel
theorem am_k365 : amMkB am_n365 am_m365 am_g365 = true := by decide +kernel
theorem am_c366 : amCode amGG amXX am_n366.1.cls am_n366.2.1 am_m366.2.2.2.1 am_m366.1 am_h366 = true := by decide +kernel
theorem am_k366 : amMkB am_n366 am_m366 am_g366 = true := by decide +kernel
theorem am_c367 : amCode amGG amXX am_n367.1.cls am_n367.2.1 am_m367.2.2.2.1 am_m367.1 am_h367 = true := by decide +kernel
theorem am_k367 : amMkB am_n367 am_m367 am_g367 = true := by decide +kernel
theorem am_c368 : amCode amGG amXX am_n368.1.cls am_n368.2.1 am_m368.2.2.2.1 am_m368.1 am_h368 = true := by decide +kernel
theorem am_k368 : amMkB am_n368 am_m368 am_g368 = true := by decide +kernel
theorem am_c369 : amCode amGG amXX am_n369.1.cls am_n369.2.1 am_m369.2.2.2.1 am_m369.1 am_h369 = true := by decide +kernel
theorem am_k369 : amMkB am_n369 am_m369 am_g369 = true := by decide +kernel
theorem am_c370 : amCode amGG amXX am_n370.1.cls am_n370.2.1 am_m370.2.2.2.1 am_m370.1 am_h370 = true := by decide +kernel
theorem am_k370 : amMkB am_n370 am_m370 am_g370 = true := by decide +kernel
theorem am_c371 : amCode amGG amXX am_n371.1.cls am_n371.2.1 am_m371.2.2.2.1 am_m371.1 am_h371 = true := by decide +kernel
theorem am_k371 : amMkB am_n371 am_m371 am_g371 = true := by decide +kernel
theorem am_c372 : amCode amGG amXX am_n372.1.cls am_n372.2.1 am_m372.2.2.2.1 am_m372.1 am_h372 = true := by decide +kernel
theorem am_k372 : amMkB am_n372 am_m372 am_g372 = true := by decide +kernel
theorem am_c373 : amCode amGG amXX am_n373.1.cls am_n373.2.1 am_m373.2.2.2.1 am_m373.1 am_h373 = true := by decide +kernel
theorem am_k373 : amMkB am_n373 am_m373 am_g373 = true := by decide +kernel
theorem am_c374 : amCode amGG amXX am_n374.1.cls am_n374.2.1 am_m374.2.2.2.1 am_m374.1 am_h374 = true := by decide +kernel
theorem am_k374 : amMkB am_n374 am_m374 am_g374 = true := by decide +kernel
theorem am_c375 : amCode amGG amXX am_n375.1.cls am_n375.2.1 am_m375.2.2.2.1 am_m375.1 am_h375 = true := by decide +kernel
theorem am_k375 : amMkB am_n375 am_m375 am_g375 = true := by decide +kernel
theorem am_c376 : amCode amGG amXX am_n376.1.cls am_n376.2.1 am_m376.2.2.2.1 am_m376.1 am_h376 = true := by decide +kernel
theorem am_k376 : amMkB am_n376 am_m376 am_g376 = true := by decide +kernel
theorem am_c377 : amCode amGG amXX am_n377.1.cls am_n377.2.1 am_m377.2.2.2.1 am_m377.1 am_h377 = true := by decide +kernel
theorem am_k377 : amMkB am_n377 am_m377 am_g377 = true := by decide +kernel
theorem am_c378 : amCode amGG amXX am_n378.1.cls am_n378.2.1 am_m378.2.2.2.1 am_m378.1 am_h378 = true := by decide +kernel
theorem am_k378 : amMkB am_n378 am_m378 am_g378 = true := by decide +kernel
theorem am_c379 : amCode amGG amXX am_n379.1.cls am_n379.2.1 am_m379.2.2.2.1 am_m379.1 am_h379 = true := by decide +kernel
theorem am_k379 : amMkB am_n379 am_m379 am_g379 = true := by decide +kernel
theorem am_c380 : amCode amGG amXX am_n380.1.cls am_n380.2.1 am_m380.2.2.2.1 am_m380.1 am_h380 = true := by decide +kernel
theorem am_k380 : amMkB am_n380 am_m380 am_g380 = true := by decide +kernel
theorem am_c381 : amCode amGG amXX am_n381.1.cls am_n381.2.1 am_m381.2.2.2.1 am_m381.1 am_h381 = true := by decide +kernel
theorem am_k381 : amMkB am_n381 am_m381 am_g381 = true := by decide +kernel
theorem am_c382 : amCode amGG amXX am_n382.1.cls am_n382.2.1 am_m382.2.2.2.1 am_m382.1 am_h382 = true := by decide +kernel
theorem am_k382 : amMkB am_n382 am_m382 am_g382 = true := by decide +kernel
theorem am_c383 : amCode amGG amXX am_n383.1.cls am_n383.2.1 am_m383.2.2.2.1 am_m383.1 am_h383 = true := by decide +kernel
theorem am_k383 : amMkB am_n383 am_m383 am_g383 = true := by decide +kernel
theorem am_t7 : ∀ t ∈ [(am_n336, am_m336), (am_n337, am_m337), (am_n338, am_m338), (am_n339, am_m339), (am_n340, am_m340), (am_n341, am_m341), (am_n342, am_m342), (am_n343, am_m343), (am_n344, am_m344), (am_n345, am_m345), (am_n346, am_m346), (am_n347, am_m347), (am_n348, am_m348), (am_n349, am_m349), (am_n350, am_m350), (am_n351, am_m351), (am_n352, am_m352), (am_n353, am_m353), (am_n354, am_m354), (am_n355, am_m355), (am_n356, am_m356), (am_n357, am_m357), (am_n358, am_m358), (am_n359, am_m359), (am_n360, am_m360), (am_n361, am_m361), (am_n362, am_m362), (am_n363, am_m363), (am_n364, am_m364), (am_n365, am_m365), (am_n366, am_m366), (am_n367, am_m367), (am_n368, am_m368), (am_n369, am_m369), (am_n370, am_m370), (am_n371, am_m371), (am_n372, am_m372), (am_n373, am_m373), (am_n374, am_m374), (am_n375, am_m375), (am_n376, am_m376), (am_n377, am_m377), (am_n378, am_m378), (am_n379, am_m379), (am_n380, am_m380), (am_n381, am_m381), (am_n382, am_m382), (am_n383, am_m383)], amMk amGG amXX t.1 t.2 := by
  intro t ht
  simp only [List.mem_cons, List.not_mem_nil, or_false] at ht
  rcases ht with rfl | rfl | rfl | rfl | rfl | rfl | rfl | rfl | rfl | rfl | rfl | rfl | rfl | rfl | rfl | rfl | rfl | rfl | rfl | rfl | rfl | rfl | rfl | rfl | rfl | rfl | rfl | rfl | rfl | rfl | rfl | rfl | rfl | rfl | rfl | rfl | rfl | rfl | rfl | rfl | rfl | rfl | rfl | rfl | rfl | rfl | rfl | rfl
  · exact amMkB_s am_k336 am_c336
  · exact amMkB_s am_k337 am_c337
  · exact amMkB_s am_k338 am_c338
  · exact amMkB_s am_k339 am_c339
  · exact amMkB_s am_k340 am_c340
  · exact amMkB_s am_k341 am_c341
  · exact amMkB_s am_k342 am_c342
  · exact amMkB_s am_k343 am_c343
  · exact amMkB_s am_k344 am_c344
  · exact amMkB_s am_k345 am_c345
  · exact amMkB_s am_k346 am_c346
  · exact amMkB_s am_k347 am_c347
  · exact amMkB_s am_k348 am_c348
  · exact amMkB_s am_k349 am_c349
  · exact amMkB_s am_k350 am_c350
  · exact amMkB_s am_k351 am_c351
  · exact amMkB_s am_k352 am_c352
  · exact amMkB_s am_k353 am_c353
  · exact amMkB_s am_k354 am_c354
  · exact amMkB_s am_k355 am_c355
  · exact amMkB_s am_k356 am_c356
  · exact amMkB_s am_k357 am_c357
  · exact amMkB_s am_k358 am_c358
  · exact amMkB_s am_k359 am_c359
  · exact amMkB_s am_k360 am_c360
  · exact amMkB_s am_k361 am_c361
  · exact amMkB_s am_k362 am_c362
  · exact amMkB_s am_k363 am_c363
  · exact amMkB_s am_k364 am_c364
  · exact amMkB_s am_k365 am_c365
  · exact amMkB_s am_k366 am_c366
  · exact amMkB_s am_k367 am_c367
  · exact amMkB_s am_k368 am_c368
  · exact amMkB_s am_k369 am_c369
  · exact amMkB_s am_k370 am_c370
  · exact amMkB_s am_k371 am_c371
  · exact amMkB_s am_k372 am_c372
  · exact amMkB_s am_k373 am_c373
  · exact amMkB_s am_k374 am_c374
  · exact amMkB_s am_k375 am_c375
  · exact amMkB_s am_k376 am_c376
  · exact amMkB_s am_k377 am_c377
  · exact amMkB_s am_k378 am_c378
  · exact amMkB_s am_k379 am_c379
  · exact amMkB_s am_k380 am_c380
  · exact amMkB_s am_k381 am_c381
  · exact amMkB_s am_k382 am_c382
  · exact amMkB_s am_k383 am_c383
