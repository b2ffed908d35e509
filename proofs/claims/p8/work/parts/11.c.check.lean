/-! ===== the tables checked, 2 ===== -/
theorem am_f192 : fM amXX amGG am_V am_W11 am_n192 am_m192 am_h192 am_g192 = true := by decide +kernel
theorem am_f193 : fM amXX amGG am_V am_W11 am_n193 am_m193 am_h193 am_g193 = true := by decide +kernel
theorem am_f194 : fM amXX amGG am_V am_W12 am_n194 am_m194 am_h194 am_g194 = true := by decide +kernel
theorem am_f196 : fM amXX amGG am_V am_W12 am_n196 am_m196 am_h196 am_g196 = true := by decide +kernel
theorem am_f197 : fM amXX amGG am_V am_W12 am_n197 am_m197 am_h197 am_g197 = true := by decide +kernel
theorem am_f198 : fM amXX amGG am_V am_W12 am_n198 am_m198 am_h198 am_g198 = true := by decide +kernel
theorem am_f199 : fM amXX amGG am_V am_W12 am_n199 am_m199 am_h199 am_g199 = true := by decide +kernel
theorem am_f200 : fM amXX amGG am_V am_W12 am_n200 am_m200 am_h200 am_g200 = true := by decide +kernel
theorem am_f201 : fM amXX amGG am_V am_W12 am_n201 am_m201 am_h201 am_g201 = true := by decide +kernel
theorem am_f202 : fM amXX amGG am_V am_W12 am_n202 am_m202 am_h202 am_g202 = true := by decide +kernel
theorem am_f203 : fM amXX amGG am_V am_W12 am_n203 am_m203 am_h203 am_g203 = true := by decide +kernel
theorem am_f204 : fM amXX amGG am_V am_W12 am_n204 am_m204 am_h204 am_g204 = true := by decide +kernel
theorem am_f205 : fM amXX amGG am_V am_W12 am_n205 am_m205 am_h205 am_g205 = true := by decide +kernel
theorem am_f206 : fM amXX amGG am_V am_W12 am_n206 am_m206 am_h206 am_g206 = true := by decide +kernel
theorem am_f207 : fM amXX amGG am_V am_W12 am_n207 am_m207 am_h207 am_g207 = true := by decide +kernel
theorem am_f208 : fM amXX amGG am_V am_W12 am_n208 am_m208 am_h208 am_g208 = true := by decide +kernel
theorem am_f209 : fM amXX amGG am_V am_W12 am_n209 am_m209 am_h209 am_g209 = true := by decide +kernel
theorem am_f210 : fM amXX amGG am_V am_W12 am_n210 am_m210 am_h210 am_g210 = true := by decide +kernel
theorem am_f211 : fM amXX amGG am_V am_W12 am_n211 am_m211 am_h211 am_g211 = true := by decide +kernel
theorem am_f212 : fM amXX amGG am_V am_W12 am_n212 am_m212 am_h212 am_g212 = true := by decide +kernel
theorem am_f213 : fM amXX amGG am_V am_W12 am_n213 am_m213 am_h213 am_g213 = true := by decide +kernel
theorem am_f214 : fM amXX amGG am_V am_W12 am_n214 am_m214 am_h214 am_g214 = true := by decide +kernel
theorem am_f215 : fM amXX amGG am_V am_W12 am_n215 am_m215 am_h215 am_g215 = true := by decide +kernel
theorem am_f216 : fM amXX amGG am_V am_W12 am_n216 am_m216 am_h216 am_g216 = true := by decide +kernel
theorem am_f217 : fM amXX amGG am_V am_W12 am_n217 am_m217 am_h217 am_g217 = true := by decide +kernel
theorem am_f218 : fM amXX amGG am_V am_W12 am_n218 am_m218 am_h218 am_g218 = true := by decide +kernel
theorem am_f219 : fM amXX amGG am_V am_W12 am_n219 am_m219 am_h219 am_g219 = true := by decide +kernel
theorem am_f220 : fM amXX amGG am_V am_W12 am_n220 am_m220 am_h220 am_g220 = true := by decide +kernel
theorem am_f221 : fM amXX amGG am_V am_W12 am_n221 am_m221 am_h221 am_g221 = true := by decide +kernel
theorem am_f222 : fM amXX amGG am_V am_W12 am_n222 am_m222 am_h222 am_g222 = true := by decide +kernel
theorem am_f223 : fM amXX amGG am_V am_W12 am_n223 am_m223 am_h223 am_g223 = true := by decide +kernel
theorem am_f224 : fM amXX amGG am_V am_W12 am_n224 am_m224 am_h224 am_g224 = true := by decide +kernel
theorem am_f225 : fM amXX amGG am_V am_W12 am_n225 am_m225 am_h225 am_g225 = true := by decide +kernel
theorem am_f226 : fM amXX amGG am_V am_W12 am_n226 am_m226 am_h226 am_g226 = true := by decide +kernel
theorem am_f227 : fM amXX amGG am_V am_W12 am_n227 am_m227 am_h227 am_g227 = true := by decide +kernel
theorem am_f228 : fM amXX amGG am_V am_W12 am_n228 am_m228 am_h228 am_g228 = true := by decide +kernel
theorem am_f229 : fM amXX amGG am_V am_W12 am_n229 am_m229 am_h229 am_g229 = true := by decide +kernel
theorem am_f230 : fM amXX amGG am_V am_W12 am_n230 am_m230 am_h230 am_g230 = true := by decide +kernel
theorem am_f231 : fM amXX amGG am_V am_W12 am_n231 am_m231 am_h231 am_g231 = true := by decide +kernel
theorem am_f232 : fM amXX amGG am_V am_W12 am_n232 am_m232 am_h232 am_g232 = true := by decide +kernel
theorem am_f233 : fM amXX amGG am_V am_W12 am_n233 am_m233 am_h233 am_g233 = true := by decide +kernel
theorem am_f234 : fM amXX amGG am_V am_W12 am_n234 am_m234 am_h234 am_g234 = true := by decide +kernel
theorem am_f235 : fM amXX amGG am_V am_W12 am_n235 am_m235 am_h235 am_g235 = true := by decide +kernel
theorem am_f236 : fM amXX amGG am_V am_W12 am_n236 am_m236 am_h236 am_g236 = true := by decide +kernel
theorem am_f237 : fM amXX amGG am_V am_W12 am_n237 am_m237 am_h237 am_g237 = true := by decide +kernel
theorem am_f238 : fM amXX amGG am_V am_W12 am_n238 am_m238 am_h238 am_g238 = true := by decide +kernel
theorem am_f239 : fM amXX amGG am_V am_W12 am_n239 am_m239 am_h239 am_g239 = true := by decide +kernel
theorem am_f240 : fM amXX amGG am_V am_W12 am_n240 am_m240 am_h240 am_g240 = true := by decide +kernel
theorem am_f241 : fM amXX amGG am_V am_W12 am_n241 am_m241 am_h241 am_g241 = true := by decide +kernel
theorem am_f242 : fM amXX amGG am_V am_W12 am_n242 am_m242 am_h242 am_g242 = true := by decide +kernel
theorem am_f243 : fM amXX amGG am_V am_W12 am_n243 am_m243 am_h243 am_g243 = true := by decide +kernel
theorem am_f244 : fM amXX amGG am_V am_W12 am_n244 am_m244 am_h244 am_g244 = true := by decide +kernel
theorem am_f245 : fM amXX amGG am_V am_W12 am_n245 am_m245 am_h245 am_g245 = true := by decide +kernel
theorem am_f246 : fM amXX amGG am_V am_W12 am_n246 am_m246 am_h246 am_g246 = true := by decide +kernel
theorem am_f247 : fM amXX amGG am_V am_W12 am_n247 am_m247 am_h247 am_g247 = true := by decide +kernel
theorem am_f248 : fM amXX amGG am_V am_W12 am_n248 am_m248 am_h248 am_g248 = true := by decide +kernel
theorem am_f249 : fM amXX amGG am_V am_W12 am_n249 am_m249 am_h249 am_g249 = true := by decide +kernel
theorem am_f250 : fM amXX amGG am_V am_W12 am_n250 am_m250 am_h250 am_g250 = true := by decide +kernel
theorem am_f251 : fM amXX amGG am_V am_W12 am_n251 am_m251 am_h251 am_g251 = true := by decide +kernel
theorem am_f252 : fM amXX amGG am_V am_W12 am_n252 am_m252 am_h252 am_g252 = true := by decide +kernel
theorem am_f253 : fM amXX amGG am_V am_W12 am_n253 am_m253 am_h253 am_g253 = true := by decide +kernel
theorem am_f254 : fM amXX amGG am_V am_W12 am_n254 am_m254 am_h254 am_g254 = true := by decide +kernel
theorem am_f255 : fM amXX amGG am_V am_W12 am_n255 am_m255 am_h255 am_g255 = true := by decide +kernel
theorem am_f256 : fM amXX amGG am_V am_W12 am_n256 am_m256 am_h256 am_g256 = true := by decide +kernel
theorem am_f257 : fM amXX amGG am_V am_W12 am_n257 am_m257 am_h257 am_g257 = true := by decide +kernel
theorem am_f258 : fM amXX amGG am_V am_W12 am_n258 am_m258 am_h258 am_g258 = true := by decide +kernel
theorem am_f259 : fM amXX amGG am_V am_W12 am_n259 am_m259 am_h259 am_g259 = true := by decide +kernel
theorem am_f260 : fM amXX amGG am_V am_W12 am_n260 am_m260 am_h260 am_g260 = true := by decide +kernel
theorem am_f261 : fM amXX amGG am_V am_W12 am_n261 am_m261 am_h261 am_g261 = true := by decide +kernel
theorem am_f262 : fM amXX amGG am_V am_W12 am_n262 am_m262 am_h262 am_g262 = true := by decide +kernel
theorem am_f263 : fM amXX amGG am_V am_W12 am_n263 am_m263 am_h263 am_g263 = true := by decide +kernel
theorem am_f264 : fM amXX amGG am_V am_W12 am_n264 am_m264 am_h264 am_g264 = true := by decide +kernel
theorem am_f265 : fM amXX amGG am_V am_W12 am_n265 am_m265 am_h265 am_g265 = true := by decide +kernel
theorem am_f266 : fM amXX amGG am_V am_W12 am_n266 am_m266 am_h266 am_g266 = true := by decide +kernel
theorem am_f267 : fM amXX amGG am_V am_W12 am_n267 am_m267 am_h267 am_g267 = true := by decide +kernel
theorem am_f268 : fM amXX amGG am_V am_W12 am_n268 am_m268 am_h268 am_g268 = true := by decide +kernel
theorem am_f269 : fM amXX amGG am_V am_W12 am_n269 am_m269 am_h269 am_g269 = true := by decide +kernel
theorem am_f270 : fM amXX amGG am_V am_W12 am_n270 am_m270 am_h270 am_g270 = true := by decide +kernel
theorem am_f271 : fM amXX amGG am_V am_W12 am_n271 am_m271 am_h271 am_g271 = true := by decide +kernel
theorem am_f272 : fM amXX amGG am_V am_W12 am_n272 am_m272 am_h272 am_g272 = true := by decide +kernel
theorem am_f273 : fM amXX amGG am_V am_W12 am_n273 am_m273 am_h273 am_g273 = true := by decide +kernel
theorem am_f274 : fM amXX amGG am_V am_W12 am_n274 am_m274 am_h274 am_g274 = true := by decide +kernel
theorem am_f275 : fM amXX amGG am_V am_W12 am_n275 am_m275 am_h275 am_g275 = true := by decide +kernel
theorem am_f276 : fM amXX amGG am_V am_W12 am_n276 am_m276 am_h276 am_g276 = true := by decide +kernel
theorem am_f277 : fM amXX amGG am_V am_W12 am_n277 am_m277 am_h277 am_g277 = true := by decide +kernel
theorem am_f278 : fM amXX amGG am_V am_W12 am_n278 am_m278 am_h278 am_g278 = true := by decide +kernel
theorem am_f279 : fM amXX amGG am_V am_W12 am_n279 am_m279 am_h279 am_g279 = true := by decide +kernel
theorem am_f280 : fM amXX amGG am_V am_W12 am_n280 am_m280 am_h280 am_g280 = true := by decide +kernel
theorem am_f281 : fM amXX amGG am_V am_W12 am_n281 am_m281 am_h281 am_g281 = true := by decide +kernel
theorem am_f282 : fM amXX amGG am_V am_W12 am_n282 am_m282 am_h282 am_g282 = true := by decide +kernel
theorem am_f283 : fM amXX amGG am_V am_W12 am_n283 am_m283 am_h283 am_g283 = true := by decide +kernel
theorem am_f284 : fM amXX amGG am_V am_W12 am_n284 am_m284 am_h284 am_g284 = true := by decide +kernel
theorem am_f285 : fM amXX amGG am_V am_W12 am_n285 am_m285 am_h285 am_g285 = true := by decide +kernel
theorem am_f286 : fM amXX amGG am_V am_W12 am_n286 am_m286 am_h286 am_g286 = true := by decide +kernel
theorem am_f287 : fM amXX amGG am_V am_W12 am_n287 am_m287 am_h287 am_g287 = true := by decide +kernel
theorem am_t4 : ∀ t ∈ [(am_n192, am_m192), (am_n193, am_m193), (am_n194, am_m194), (am_n0, am_m0), (am_n196, am_m196), (am_n197, am_m197), (am_n198, am_m198), (am_n199, am_m199), (am_n200, am_m200), (am_n201, am_m201), (am_n202, am_m202), (am_n203, am_m203), (am_n204, am_m204), (am_n205, am_m205), (am_n206, am_m206), (am_n207, am_m207), (am_n208, am_m208), (am_n209, am_m209), (am_n210, am_m210), (am_n211, am_m211), (am_n212, am_m212), (am_n213, am_m213), (am_n214, am_m214), (am_n215, am_m215), (am_n216, am_m216), (am_n217, am_m217), (am_n218, am_m218), (am_n219, am_m219), (am_n220, am_m220), (am_n221, am_m221), (am_n222, am_m222), (am_n223, am_m223), (am_n224, am_m224), (am_n225, am_m225), (am_n226, am_m226), (am_n227, am_m227), (am_n228, am_m228), (am_n229, am_m229), (am_n230, am_m230), (am_n231, am_m231), (am_n232, am_m232), (am_n233, am_m233), (am_n234, am_m234), (am_n235, am_m235), (am_n236, am_m236), (am_n237, am_m237), (am_n238, am_m238), (am_n239, am_m239)], amMk amGG amXX t.1 t.2 := by
  intro t ht
  simp only [List.mem_cons, List.not_mem_nil, or_false] at ht
  rcases ht with rfl | rfl | rfl | rfl | rfl | rfl | rfl | rfl | rfl | rfl | rfl | rfl | rfl | rfl | rfl | rfl | rfl | rfl | rfl | rfl | rfl | rfl | rfl | rfl | rfl | rfl | rfl | rfl | rfl | rfl | rfl | rfl | rfl | rfl | rfl | rfl | rfl | rfl | rfl | rfl | rfl | rfl | rfl | rfl | rfl | rfl | rfl | rfl
  · exact fM_s am_zz am_rq (o := 11) rfl am_v am_w11 am_f192
  · exact fM_s am_zz am_rq (o := 11) rfl am_v am_w11 am_f193
  · exact fM_s am_zz am_rq (o := 12) rfl am_v am_w12 am_f194
  · exact fM_s am_zz am_rq (o := 0) rfl am_v am_w0 am_f0
  · exact fM_s am_zz am_rq (o := 12) rfl am_v am_w12 am_f196
  · exact fM_s am_zz am_rq (o := 12) rfl am_v am_w12 am_f197
  · exact fM_s am_zz am_rq (o := 12) rfl am_v am_w12 am_f198
  · exact fM_s am_zz am_rq (o := 12) rfl am_v am_w12 am_f199
  · exact fM_s am_zz am_rq (o := 12) rfl am_v am_w12 am_f200
  · exact fM_s am_zz am_rq (o := 12) rfl am_v am_w12 am_f201
  · exact fM_s am_zz am_rq (o := 12) rfl am_v am_w12 am_f202
  · exact fM_s am_zz am_rq (o := 12) rfl am_v am_w12 am_f203
  · exact fM_s am_zz am_rq (o := 12) rfl am_v am_w12 am_f204
  · exact fM_s am_zz am_rq (o := 12) rfl am_v am_w12 am_f205
  · exact fM_s am_zz am_rq (o := 12) rfl am_v am_w12 am_f206
  · exact fM_s am_zz am_rq (o := 12) rfl am_v am_w12 am_f207
  · exact fM_s am_zz am_rq (o := 12) rfl am_v am_w12 am_f208
  · exact fM_s am_zz am_rq (o := 12) rfl am_v am_w12 am_f209
  · exact fM_s am_zz am_rq (o := 12) rfl am_v am_w12 am_f210
  · exact fM_s am_zz am_rq (o := 12) rfl am_v am_w12 am_f211
  · exact fM_s am_zz am_rq (o := 12) rfl am_v am_w12 am_f212
  · exact fM_s am_zz am_rq (o := 12) rfl am_v am_w12 am_f213
  · exact fM_s am_zz am_rq (o := 12) rfl am_v am_w12 am_f214
  · exact fM_s am_zz am_rq (o := 12) rfl am_v am_w12 am_f215
  · exact fM_s am_zz am_rq (o := 12) rfl am_v am_w12 am_f216
  · exact fM_s am_zz am_rq (o := 12) rfl am_v am_w12 am_f217
  · exact fM_s am_zz am_rq (o := 12) rfl am_v am_w12 am_f218
  · exact fM_s am_zz am_rq (o := 12) rfl am_v am_w12 am_f219
  · exact fM_s am_zz am_rq (o := 12) rfl am_v am_w12 am_f220
  · exact fM_s am_zz am_rq (o := 12) rfl am_v am_w12 am_f221
  · exact fM_s am_zz am_rq (o := 12) rfl am_v am_w12 am_f222
  · exact fM_s am_zz am_rq (o := 12) rfl am_v am_w12 am_f223
  · exact fM_s am_zz am_rq (o := 12) rfl am_v am_w12 am_f224
  · exact fM_s am_zz am_rq (o := 12) rfl am_v am_w12 am_f225
  · exact fM_s am_zz am_rq (o := 12) rfl am_v am_w12 am_f226
  · exact fM_s am_zz am_rq (o := 12) rfl am_v am_w12 am_f227
  · exact fM_s am_zz am_rq (o := 12) rfl am_v am_w12 am_f228
  · exact fM_s am_zz am_rq (o := 12) rfl am_v am_w12 am_f229
  · exact fM_s am_zz am_rq (o := 12) rfl am_v am_w12 am_f230
  · exact fM_s am_zz am_rq (o := 12) rfl am_v am_w12 am_f231
  · exact fM_s am_zz am_rq (o := 12) rfl am_v am_w12 am_f232
  · exact fM_s am_zz am_rq (o := 12) rfl am_v am_w12 am_f233
  · exact fM_s am_zz am_rq (o := 12) rfl am_v am_w12 am_f234
  · exact fM_s am_zz am_rq (o := 12) rfl am_v am_w12 am_f235
  · exact fM_s am_zz am_rq (o := 12) rfl am_v am_w12 am_f236
  · exact fM_s am_zz am_rq (o := 12) rfl am_v am_w12 am_f237
  · exact fM_s am_zz am_rq (o := 12) rfl am_v am_w12 am_f238
  · exact fM_s am_zz am_rq (o := 12) rfl am_v am_w12 am_f239
theorem am_t5 : ∀ t ∈ [(am_n240, am_m240), (am_n241, am_m241), (am_n242, am_m242), (am_n243, am_m243), (am_n244, am_m244), (am_n245, am_m245), (am_n246, am_m246), (am_n247, am_m247), (am_n248, am_m248), (am_n249, am_m249), (am_n250, am_m250), (am_n251, am_m251), (am_n252, am_m252), (am_n253, am_m253), (am_n254, am_m254), (am_n255, am_m255), (am_n256, am_m256), (am_n257, am_m257), (am_n258, am_m258), (am_n259, am_m259), (am_n260, am_m260), (am_n261, am_m261), (am_n262, am_m262), (am_n263, am_m263), (am_n264, am_m264), (am_n265, am_m265), (am_n266, am_m266), (am_n267, am_m267), (am_n268, am_m268), (am_n269, am_m269), (am_n270, am_m270), (am_n271, am_m271), (am_n272, am_m272), (am_n273, am_m273), (am_n274, am_m274), (am_n275, am_m275), (am_n276, am_m276), (am_n277, am_m277), (am_n278, am_m278), (am_n279, am_m279), (am_n280, am_m280), (am_n281, am_m281), (am_n282, am_m282), (am_n283, am_m283), (am_n284, am_m284), (am_n285, am_m285), (am_n286, am_m286), (am_n287, am_m287)], amMk amGG amXX t.1 t.2 := by
  intro t ht
  simp only [List.mem_cons, List.not_mem_nil, or_false] at ht
  rcases ht with rfl | rfl | rfl | rfl | rfl | rfl | rfl | rfl | rfl | rfl | rfl | rfl | rfl | rfl | rfl | rfl | rfl | rfl | rfl | rfl | rfl | rfl | rfl | rfl | rfl | rfl | rfl | rfl | rfl | rfl | rfl | rfl | rfl | rfl | rfl | rfl | rfl | rfl | rfl | rfl | rfl | rfl | rfl | rfl | rfl | rfl | rfl | rfl
  · exact fM_s am_zz am_rq (o := 12) rfl am_v am_w12 am_f240
  · exact fM_s am_zz am_rq (o := 12) rfl am_v am_w12 am_f241
  · exact fM_s am_zz am_rq (o := 12) rfl am_v am_w12 am_f242
  · exact fM_s am_zz am_rq (o := 12) rfl am_v am_w12 am_f243
  · exact fM_s am_zz am_rq (o := 12) rfl am_v am_w12 am_f244
  · exact fM_s am_zz am_rq (o := 12) rfl am_v am_w12 am_f245
  · exact fM_s am_zz am_rq (o := 12) rfl am_v am_w12 am_f246
  · exact fM_s am_zz am_rq (o := 12) rfl am_v am_w12 am_f247
  · exact fM_s am_zz am_rq (o := 12) rfl am_v am_w12 am_f248
  · exact fM_s am_zz am_rq (o := 12) rfl am_v am_w12 am_f249
  · exact fM_s am_zz am_rq (o := 12) rfl am_v am_w12 am_f250
  · exact fM_s am_zz am_rq (o := 12) rfl am_v am_w12 am_f251
  · exact fM_s am_zz am_rq (o := 12) rfl am_v am_w12 am_f252
  · exact fM_s am_zz am_rq (o := 12) rfl am_v am_w12 am_f253
  · exact fM_s am_zz am_rq (o := 12) rfl am_v am_w12 am_f254
  · exact fM_s am_zz am_rq (o := 12) rfl am_v am_w12 am_f255
  · exact fM_s am_zz am_rq (o := 12) rfl am_v am_w12 am_f256
  · exact fM_s am_zz am_rq (o := 12) rfl am_v am_w12 am_f257
  · exact fM_s am_zz am_rq (o := 12) rfl am_v am_w12 am_f258
  · exact fM_s am_zz am_rq (o := 12) rfl am_v am_w12 am_f259
  · exact fM_s am_zz am_rq (o := 12) rfl am_v am_w12 am_f260
  · exact fM_s am_zz am_rq (o := 12) rfl am_v am_w12 am_f261
  · exact fM_s am_zz am_rq (o := 12) rfl am_v am_w12 am_f262
  · exact fM_s am_zz am_rq (o := 12) rfl am_v am_w12 am_f263
  · exact fM_s am_zz am_rq (o := 12) rfl am_v am_w12 am_f264
  · exact fM_s am_zz am_rq (o := 12) rfl am_v am_w12 am_f265
  · exact fM_s am_zz am_rq (o := 12) rfl am_v am_w12 am_f266
  · exact fM_s am_zz am_rq (o := 12) rfl am_v am_w12 am_f267
  · exact fM_s am_zz am_rq (o := 12) rfl am_v am_w12 am_f268
  · exact fM_s am_zz am_rq (o := 12) rfl am_v am_w12 am_f269
  · exact fM_s am_zz am_rq (o := 12) rfl am_v am_w12 am_f270
  · exact fM_s am_zz am_rq (o := 12) rfl am_v am_w12 am_f271
  · exact fM_s am_zz am_rq (o := 12) rfl am_v am_w12 am_f272
  · exact fM_s am_zz am_rq (o := 12) rfl am_v am_w12 am_f273
  · exact fM_s am_zz am_rq (o := 12) rfl am_v am_w12 am_f274
  · exact fM_s am_zz am_rq (o := 12) rfl am_v am_w12 am_f275
  · exact fM_s am_zz am_rq (o := 12) rfl am_v am_w12 am_f276
  · exact fM_s am_zz am_rq (o := 12) rfl am_v am_w12 am_f277
  · exact fM_s am_zz am_rq (o := 12) rfl am_v am_w12 am_f278
  · exact fM_s am_zz am_rq (o := 12) rfl am_v am_w12 am_f279
  · exact fM_s am_zz am_rq (o := 12) rfl am_v am_w12 am_f280
  · exact fM_s am_zz am_rq (o := 12) rfl am_v am_w12 am_f281
  · exact fM_s am_zz am_rq (o := 12) rfl am_v am_w12 am_f282
  · exact fM_s am_zz am_rq (o := 12) rfl am_v am_w12 am_f283
  · exact fM_s am_zz am_rq (o := 12) rfl am_v am_w12 am_f284
  · exact fM_s am_zz am_rq (o := 12) rfl am_v am_w12 am_f285
  · exact fM_s am_zz am_rq (o := 12) rfl am_v am_w12 am_f286
  · exact fM_s am_zz am_rq (o := 12) rfl am_v am_w12 am_f287
