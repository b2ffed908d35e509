/-! ===== the tables checked, 4 ===== -/
theorem am_c192 : amCode amGG amXX am_n192.1.cls am_n192.2.1 am_m192.2.2.2.1 am_m192.1 am_h192 = true := by decide +kernel
theorem am_k192 : amMkB am_n192 am_m192 am_g192 = true := by decide +kernel
theorem am_c193 : amCode amGG amXX am_n193.1.cls am_n193.2.1 am_m193.2.2.2.1 am_m193.1 am_h193 = true := by decide +kernel
theorem am_k193 : amMkB am_n193 am_m193 am_g193 = true := by decide +kernel
theorem am_c194 : amCode amGG amXX am_n194.1.cls am_n194.2.1 am_m194.2.2.2.1 am_m194.1 am_h194 = true := by decide +kernel
theorem am_k194 : amMkB am_n194 am_m194 am_g194 = true := by decide +kernel
theorem am_c196 : amCode amGG amXX am_n196.1.cls am_n196.2.1 am_m196.2.2.2.1 am_m196.1 am_h196 = true := by decide +kernel
theorem am_k196 : amMkB am_n196 am_m196 am_g196 = true := by decide +kernel
theorem am_c197 : amCode amGG amXX am_n197.1.cls am_n197.2.1 am_m197.2.2.2.1 am_m197.1 am_h197 = true := by decide +kernel
theorem am_k197 : amMkB am_n197 am_m197 am_g197 = true := by decide +kernel
theorem am_c198 : amCode amGG amXX am_n198.1.cls am_n198.2.1 am_m198.2.2.2.1 am_m198.1 am_h198 = true := by decide +kernel
theorem am_k198 : amMkB am_n198 am_m198 am_g198 = true := by decide +kernel
theorem am_c199 : amCode amGG amXX am_n199.1.cls am_n199.2.1 am_m199.2.2.2.1 am_m199.1 am_h199 = true := by decide +kernel
theorem am_k199 : amMkB am_n199 am_m199 am_g199 = true := by decide +kernel
theorem am_c200 : amCode amGG amXX am_n200.1.cls am_n200.2.1 am_m200.2.2.2.1 am_m200.1 am_h200 = true := by decide +kernel
theorem am_k200 : amMkB am_n200 am_m200 am_g200 = true := by decide +kernel
theorem am_c201 : amCode amGG amXX am_n201.1.cls am_n201.2.1 am_m201.2.2.2.1 am_m201.1 am_h201 = true := by decide +kernel
theorem am_k201 : amMkB am_n201 am_m201 am_g201 = true := by decide +kernel
theorem am_c202 : amCode amGG amXX am_n202.1.cls am_n202.2.1 am_m202.2.2.2.1 am_m202.1 am_h202 = true := by decide +kernel
theorem am_k202 : amMkB am_n202 am_m202 am_g202 = true := by decide +kernel
theorem am_c203 : amCode amGG amXX am_n203.1.cls am_n203.2.1 am_m203.2.2.2.1 am_m203.1 am_h203 = true := by decide +kernel
theorem am_k203 : amMkB am_n203 am_m203 am_g203 = true := by decide +kernel
theorem am_c204 : amCode amGG amXX am_n204.1.cls am_n204.2.1 am_m204.2.2.2.1 am_m204.1 am_h204 = true := by decide +kernel
theorem am_k204 : amMkB am_n204 am_m204 am_g204 = true := by decide +kernel
theorem am_c205 : amCode amGG amXX am_n205.1.cls am_n205.2.1 am_m205.2.2.2.1 am_m205.1 am_h205 = true := by decide +kernel
theorem am_k205 : amMkB am_n205 am_m205 am_g205 = true := by decide +kernel
theorem am_c206 : amCode amGG amXX am_n206.1.cls am_n206.2.1 am_m206.2.2.2.1 am_m206.1 am_h206 = true := by decide +kernel
theorem am_k206 : amMkB am_n206 am_m206 am_g206 = true := by decide +kernel
theorem am_c207 : amCode amGG amXX am_n207.1.cls am_n207.2.1 am_m207.2.2.2.1 am_m207.1 am_h207 = true := by decide +kernel
theorem am_k207 : amMkB am_n207 am_m207 am_g207 = true := by decide +kernel
theorem am_c208 : amCode amGG amXX am_n208.1.cls am_n208.2.1 am_m208.2.2.2.1 am_m208.1 am_h208 = true := by decide +kernel
theorem am_k208 : amMkB am_n208 am_m208 am_g208 = true := by decide +kernel
theorem am_c209 : amCode amGG amXX am_n209.1.cls am_n209.2.1 am_m209.2.2.2.1 am_m209.1 am_h209 = true := by decide +kernel
theorem am_k209 : amMkB am_n209 am_m209 am_g209 = true := by decide +kernel
theorem am_c210 : amCode amGG amXX am_n210.1.cls am_n210.2.1 am_m210.2.2.2.1 am_m210.1 am_h210 = true := by decide +kernel
theorem am_k210 : amMkB am_n210 am_m210 am_g210 = true := by decide +kernel
theorem am_c211 : amCode amGG amXX am_n211.1.cls am_n211.2.1 am_m211.2.2.2.1 am_m211.1 am_h211 = true := by decide +kernel
theorem am_k211 : amMkB am_n211 am_m211 am_g211 = true := by decide +kernel
theorem am_c212 : amCode amGG amXX am_n212.1.cls am_n212.2.1 am_m212.2.2.2.1 am_m212.1 am_h212 = true := by decide +kernel
theorem am_k212 : amMkB am_n212 am_m212 am_g212 = true := by decide +kernel
theorem am_c213 : amCode amGG amXX am_n213.1.cls am_n213.2.1 am_m213.2.2.2.1 am_m213.1 am_h213 = true := by decide +kernel
theorem am_k213 : amMkB am_n213 am_m213 am_g213 = true := by decide +kernel
theorem am_c214 : amCode amGG amXX am_n214.1.cls am_n214.2.1 am_m214.2.2.2.1 am_m214.1 am_h214 = true := by decide +kernel
theorem am_k214 : amMkB am_n214 am_m214 am_g214 = true := by decide +kernel
theorem am_c215 : amCode amGG amXX am_n215.1.cls am_n215.2.1 am_m215.2.2.2.1 am_m215.1 am_h215 = true := by decide +kernel
theorem am_k215 : amMkB am_n215 am_m215 am_g215 = true := by decide +kernel
theorem am_c216 : amCode amGG amXX am_n216.1.cls am_n216.2.1 am_m216.2.2.2.1 am_m216.1 am_h216 = true := by decide +kernel
theorem am_k216 : amMkB am_n216 am_m216 am_g216 = true := by decide +kernel
theorem am_c217 : amCode amGG amXX am_n217.1.cls am_n217.2.1 am_m217.2.2.2.1 am_m217.1 am_h217 = true := by decide +kernel
theorem am_k217 : amMkB am_n217 am_m217 am_g217 = true := by decide +kernel
theorem am_c218 : amCode amGG amXX am_n218.1.cls am_n218.2.1 am_m218.2.2.2.1 am_m218.1 am_h218 = true := by decide +kernel
theorem am_k218 : amMkB am_n218 am_m218 am_g218 = true := by decide +kernel
theorem am_c219 : amCode amGG amXX am_n219.1.cls am_n219.2.1 am_m219.2.2.2.1 am_m219.1 am_h219 = true := by decide +kernel
theorem am_k219 : amMkB am_n219 am_m219 am_g219 = true := by decide +kernel
theorem am_c220 : amCode amGG amXX am_n220.1.cls am_n220.2.1 am_m220.2.2.2.1 am_m220.1 am_h220 = true := by decide +kernel
theorem am_k220 : amMkB am_n220 am_m220 am_g220 = true := by decide +kernel
theorem am_c221 : amCode amGG amXX am_n221.1.cls am_n221.2.1 am_m221.2.2.2.1 am_m221.1 am_h221 = true := by decide +kernel
theorem am_k221 : amMkB am_n221 am_m221 am_g221 = true := by decide +kernel
theorem am_c222 : amCode amGG amXX am_n222.1.cls am_n222.2.1 am_m222.2.2.2.1 am_m222.1 am_h222 = true := by decide +kernel
theorem am_k222 : amMkB am_n222 am_m222 am_g222 = true := by decide +kernel
theorem am_c223 : amCode amGG amXX am_n223.1.cls am_n223.2.1 am_m223.2.2.2.1 am_m223.1 am_h223 = true := by decide +kernel
theorem am_k223 : amMkB am_n223 am_m223 am_g223 = true := by decide +kernel
theorem am_c224 : amCode amGG amXX am_n224.1.cls am_n224.2.1 am_m224.2.2.2.1 am_m224.1 am_h224 = true := by decide +kernel
theorem am_k224 : amMkB am_n224 am_m224 am_g224 = true := by decide +kernel
theorem am_c225 : amCode amGG amXX am_n225.1.cls am_n225.2.1 am_m225.2.2.2.1 am_m225.1 am_h225 = true := by decide +kernel
theorem am_k225 : amMkB am_n225 am_m225 am_g225 = true := by decide +kernel
theorem am_c226 : amCode amGG amXX am_n226.1.cls am_n226.2.1 am_m226.2.2.2.1 am_m226.1 am_h226 = true := by decide +kernel
theorem am_k226 : amMkB am_n226 am_m226 am_g226 = true := by decide +kernel
theorem am_c227 : amCode amGG amXX am_n227.1.cls am_n227.2.1 am_m227.2.2.2.1 am_m227.1 am_h227 = true := by decide +kernel
theorem am_k227 : amMkB am_n227 am_m227 am_g227 = true := by decide +kernel
theorem am_c228 : amCode amGG amXX am_n228.1.cls am_n228.2.1 am_m228.2.2.2.1 am_m228.1 am_h228 = true := by decide +kernel
theorem am_k228 : amMkB am_n228 am_m228 am_g228 = true := by decide +kernel
theorem am_c229 : amCode amGG amXX am_n229.1.cls am_n229.2.1 am_m229.2.2.2.1 am_m229.1 am_h229 = true := by decide +kernel
theorem am_k229 : amMkB am_n229 am_m229 am_g229 = true := by decide +kernel
theorem am_c230 : amCode amGG amXX am_n230.1.cls am_n230.2.1 am_m230.2.2.2.1 am_m230.1 am_h230 = true := by decide +kernel
theorem am_k230 : amMkB am_n230 am_m230 am_g230 = true := by decide +kernel
theorem am_c231 : amCode amGG amXX am_n231.1.cls am_n231.2.1 am_m231.2.2.2.1 am_m231.1 am_h231 = true := by decide +kernel
theorem am_k231 : amMkB am_n231 am_m231 am_g231 = true := by decide +kernel
theorem am_c232 : amCode amGG amXX am_n232.1.cls am_n232.2.1 am_m232.2.2.2.1 am_m232.1 am_h232 = true := by decide +kernel
theorem am_k232 : amMkB am_n232 am_m232 am_g232 = true := by decide +kernel
theorem am_c233 : amCode amGG amXX am_n233.1.cls am_n233.2.1 am_m233.2.2.2.1 am_m233.1 am_h233 = true := by decide +kernel
theorem am_k233 : amMkB am_n233 am_m233 am_g233 = true := by decide +kernel
theorem am_c234 : amCode amGG amXX am_n234.1.cls am_n234.2.1 am_m234.2.2.2.1 am_m234.1 am_h234 = true := by decide +kernel
theorem am_k234 : amMkB am_n234 am_m234 am_g234 = true := by decide +kernel
theorem am_c235 : amCode amGG amXX am_n235.1.cls am_n235.2.1 am_m235.2.2.2.1 am_m235.1 am_h235 = true := by decide +kernel
theorem am_k235 : amMkB am_n235 am_m235 am_g235 = true := by decide +kernel
theorem am_c236 : amCode amGG amXX am_n236.1.cls am_n236.2.1 am_m236.2.2.2.1 am_m236.1 am_h236 = true := by decide +kernel
theorem am_k236 : amMkB am_n236 am_m236 am_g236 = true := by decide +kernel
theorem am_c237 : amCode amGG amXX am_n237.1.cls am_n237.2.1 am_m237.2.2.2.1 am_m237.1 am_h237 = true := by decide +kernel
theorem am_k237 : amMkB am_n237 am_m237 am_g237 = true := by decide +kernel
theorem am_c238 : amCode amGG amXX am_n238.1.cls am_n238.2.1 am_m238.2.2.2.1 am_m238.1 am_h238 = true := by decide +kernel
theorem am_k238 : amMkB am_n238 am_m238 am_g238 = true := by decide +kernel
theorem am_c239 : amCode amGG amXX am_n239.1.cls am_n239.2.1 am_m239.2.2.2.1 am_m239.1 am_h239 = true := by decide +kernel
theorem am_k239 : amMkB am_n239 am_m239 am_g239 = true := by decide +kernel
theorem am_t4 : ∀ t ∈ [(am_n192, am_m192), (am_n193, am_m193), (am_n194, am_m194), (am_n0, am_m0), (am_n196, am_m196), (am_n197, am_m197), (am_n198, am_m198), (am_n199, am_m199), (am_n200, am_m200), (am_n201, am_m201), (am_n202, am_m202), (am_n203, am_m203), (am_n204, am_m204), (am_n205, am_m205), (am_n206, am_m206), (am_n207, am_m207), (am_n208, am_m208), (am_n209, am_m209), (am_n210, am_m210), (am_n211, am_m211), (am_n212, am_m212), (am_n213, am_m213), (am_n214, am_m214), (am_n215, am_m215), (am_n216, am_m216), (am_n217, am_m217), (am_n218, am_m218), (am_n219, am_m219), (am_n220, am_m220), (am_n221, am_m221), (am_n222, am_m222), (am_n223, am_m223), (am_n224, am_m224), (am_n225, am_m225), (am_n226, am_m226), (am_n227, am_m227), (am_n228, am_m228), (am_n229, am_m229), (am_n230, am_m230), (am_n231, am_m231), (am_n232, am_m232), (am_n233, am_m233), (am_n234, am_m234), (am_n235, am_m235), (am_n236, am_m236), (am_n237, am_m237), (am_n238, am_m238), (am_n239, am_m239)], amMk amGG amXX t.1 t.2 := by
  intro t ht
  simp only [List.mem_cons, List.not_mem_nil, or_false] at ht
  rcases ht with rfl | rfl | rfl | rfl | rfl | rfl | rfl | rfl | rfl | rfl | rfl | rfl | rfl | rfl | rfl | rfl | rfl | rfl | rfl | rfl | rfl | rfl | rfl | rfl | rfl | rfl | rfl | rfl | rfl | rfl | rfl | rfl | rfl | rfl | rfl | rfl | rfl | rfl | rfl | rfl | rfl | rfl | rfl | rfl | rfl | rfl | rfl | rfl
  · exact amMkB_s am_k192 am_c192
  · exact amMkB_s am_k193 am_c193
  · exact amMkB_s am_k194 am_c194
  · exact amMkB_s am_k0 am_c0
  · exact amMkB_s am_k196 am_c196
  · exact amMkB_s am_k197 am_c197
  · exact amMkB_s am_k198 am_c198
  · exact amMkB_s am_k199 am_c199
  · exact amMkB_s am_k200 am_c200
  · exact amMkB_s am_k201 am_c201
  · exact amMkB_s am_k202 am_c202
  · exact amMkB_s am_k203 am_c203
  · exact amMkB_s am_k204 am_c204
  · exact amMkB_s am_k205 am_c205
  · exact amMkB_s am_k206 am_c206
  · exact amMkB_s am_k207 am_c207
  · exact amMkB_s am_k208 am_c208
  · exact amMkB_s am_k209 am_c209
  · exact amMkB_s am_k210 am_c210
  · exact amMkB_s am_k211 am_c211
  · exact amMkB_s am_k212 am_c212
  · exact amMkB_s am_k213 am_c213
  · exact amMkB_s am_k214 am_c214
  · exact amMkB_s am_k215 am_c215
  · exact amMkB_s am_k216 am_c216
  · exact amMkB_s am_k217 am_c217
  · exact amMkB_s am_k218 am_c218
  · exact amMkB_s am_k219 am_c219
  · exact amMkB_s am_k220 am_c220
  · exact amMkB_s am_k221 am_c221
  · exact amMkB_s am_k222 am_c222
  · exact amMkB_s am_k223 am_c223
  · exact amMkB_s am_k224 am_c224
  · exact amMkB_s am_k225 am_c225
  · exact amMkB_s am_k226 am_c226
  · exact amMkB_s am_k227 am_c227
  · exact amMkB_s am_k228 am_c228
  · exact amMkB_s am_k229 am_c229
  · exact amMkB_s am_k230 am_c230
  · exact amMkB_s am_k231 am_c231
  · exact amMkB_s am_k232 am_c232
  · exact amMkB_s am_k233 am_c233
  · exact amMkB_s am_k234 am_c234
  · exact amMkB_s am_k235 am_c235
  · exact amMkB_s am_k236 am_c236
  · exact amMkB_s am_k237 am_c237
  · exact amMkB_s am_k238 am_c238
  · exact amMkB_s am_k239 am_c239
