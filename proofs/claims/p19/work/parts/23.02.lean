/-! THE CONTRACTS CHECKED, 2 -/
set_option maxRecDepth 100000 in
theorem cn_323_ok : c_chk cs_at 2 none kt_60 4000 cn_323 = true := c_chkQ_ok (pcs := []) (by decide +kernel)
set_option maxRecDepth 100000 in
theorem cn_209_ok : c_chk cs_at 2 none kt_61 4000 cn_209 = true := c_chkQ_ok (pcs := []) (by decide +kernel)
set_option maxRecDepth 100000 in
theorem cn_210_ok : c_chk cs_at 2 none kt_61 4000 cn_210 = true := c_chkQ_ok (pcs := []) (by decide +kernel)
set_option maxRecDepth 100000 in
theorem cn_211_ok : c_chk cs_at 2 none kt_61 4000 cn_211 = true := c_chkQ_ok (pcs := []) (by decide +kernel)
set_option maxRecDepth 100000 in
theorem cn_212_ok : c_chk cs_at 2 none kt_61 4000 cn_212 = true := c_chkQ_ok (pcs := []) (by decide +kernel)
set_option maxRecDepth 100000 in
theorem cn_213_ok : c_chk cs_at 2 none kt_61 4000 cn_213 = true := c_chkQ_ok (pcs := []) (by decide +kernel)
set_option maxRecDepth 100000 in
theorem cn_214_ok : c_chk cs_at 2 none kt_61 4000 cn_214 = true := c_chkQ_ok (pcs := []) (by decide +kernel)
set_option maxRecDepth 100000 in
theorem cn_215_ok : c_chk cs_at 2 none kt_61 4000 cn_215 = true := c_chkQ_ok (pcs := []) (by decide +kernel)
set_option maxRecDepth 100000 in
theorem cn_216_ok : c_chk cs_at 2 none kt_61 4000 cn_216 = true := c_chkQ_ok (pcs := []) (by decide +kernel)
set_option maxRecDepth 100000 in
theorem cn_217_ok : c_chk cs_at 2 none kt_61 4000 cn_217 = true := c_chkQ_ok (pcs := []) (by decide +kernel)
set_option maxRecDepth 100000 in
theorem cn_218_ok : c_chk cs_at 2 none kt_61 4000 cn_218 = true := c_chkQ_ok (pcs := []) (by decide +kernel)
set_option maxRecDepth 100000 in
theorem cn_219_ok : c_chk cs_at 2 none kt_61 4000 cn_219 = true := c_chkQ_ok (pcs := []) (by decide +kernel)
set_option maxRecDepth 100000 in
theorem cn_220_ok : c_chk cs_at 2 none kt_61 4000 cn_220 = true := c_chkQ_ok (pcs := []) (by decide +kernel)
set_option maxRecDepth 100000 in
theorem cn_221_ok : c_chk cs_at 2 none kt_61 4000 cn_221 = true := c_chkQ_ok (pcs := []) (by decide +kernel)
set_option maxRecDepth 100000 in
theorem cn_222_ok : c_chk cs_at 2 none kt_61 4000 cn_222 = true := c_chkQ_ok (pcs := []) (by decide +kernel)
set_option maxRecDepth 100000 in
theorem cn_223_ok : c_chk cs_at 2 none kt_61 4000 cn_223 = true := c_chkQ_ok (pcs := []) (by decide +kernel)
set_option maxRecDepth 100000 in
theorem cn_224_ok : c_chk cs_at 2 none kt_61 4000 cn_224 = true := c_chkQ_ok (pcs := []) (by decide +kernel)
set_option maxRecDepth 100000 in
theorem cn_225_ok : c_chk cs_at 2 none kt_61 4000 cn_225 = true := c_chkQ_ok (pcs := []) (by decide +kernel)
set_option maxRecDepth 100000 in
theorem cn_226_ok : c_chk cs_at 2 none kt_61 4000 cn_226 = true := c_chkQ_ok (pcs := []) (by decide +kernel)
set_option maxRecDepth 100000 in
theorem cn_227_ok : c_chk cs_at 2 none kt_61 4000 cn_227 = true := c_chkQ_ok (pcs := []) (by decide +kernel)
set_option maxRecDepth 100000 in
theorem cn_228_ok : c_chk cs_at 2 none kt_61 4000 cn_228 = true := c_chkQ_ok (pcs := []) (by decide +kernel)
set_option maxRecDepth 100000 in
theorem cn_229_ok : c_chk cs_at 2 none kt_61 4000 cn_229 = true := c_chkQ_ok (pcs := []) (by decide +kernel)
set_option maxRecDepth 100000 in
theorem cn_230_ok : c_chk cs_at 2 none kt_61 4000 cn_230 = true := c_chkQ_ok (pcs := []) (by decide +kernel)
set_option maxRecDepth 100000 in
theorem cn_231_ok : c_chk cs_at 2 none kt_61 4000 cn_231 = true := c_chkQ_ok (pcs := []) (by decide +kernel)
set_option maxRecDepth 100000 in
theorem cn_232_ok : c_chk cs_at 2 none kt_61 4000 cn_232 = true := c_chkQ_ok (pcs := []) (by decide +kernel)
set_option maxRecDepth 100000 in
theorem cn_233_ok : c_chk cs_at 2 none kt_61 4000 cn_233 = true := c_chkQ_ok (pcs := []) (by decide +kernel)
set_option maxRecDepth 100000 in
theorem cn_234_ok : c_chk cs_at 2 none kt_61 4000 cn_234 = true := c_chkQ_ok (pcs := []) (by decide +kernel)
set_option maxRecDepth 100000 in
theorem cn_235_ok : c_chk cs_at 2 none kt_61 4000 cn_235 = true := c_chkQ_ok (pcs := []) (by decide +kernel)
set_option maxRecDepth 100000 in
theorem cn_236_ok : c_chk cs_at 2 none kt_61 4000 cn_236 = true := c_chkQ_ok (pcs := []) (by decide +kernel)
set_option maxRecDepth 100000 in
theorem cn_237_ok : c_chk cs_at 2 none kt_61 4000 cn_237 = true := c_chkQ_ok (pcs := []) (by decide +kernel)
set_option maxRecDepth 100000 in
theorem cn_238_ok : c_chk cs_at 2 none kt_61 4000 cn_238 = true := c_chkQ_ok (pcs := []) (by decide +kernel)
set_option maxRecDepth 100000 in
theorem cn_239_ok : c_chk cs_at 2 none kt_61 4000 cn_239 = true := c_chkQ_ok (pcs := []) (by decide +kernel)
set_option maxRecDepth 100000 in
theorem cn_240_ok : c_chk cs_at 2 none kt_61 4000 cn_240 = true := c_chkQ_ok (pcs := []) (by decide +kernel)
set_option maxRecDepth 100000 in
theorem cn_241_ok : c_chk cs_at 2 none kt_61 4000 cn_241 = true := c_chkQ_ok (pcs := []) (by decide +kernel)
set_option maxRecDepth 100000 in
theorem cn_242_ok : c_chk cs_at 2 none kt_61 4000 cn_242 = true := c_chkQ_ok (pcs := []) (by decide +kernel)
set_option maxRecDepth 100000 in
theorem cn_243_ok : c_chk cs_at 2 none kt_61 4000 cn_243 = true := c_chkQ_ok (pcs := []) (by decide +kernel)
set_option maxRecDepth 100000 in
theorem cn_244_ok : c_chk cs_at 2 none kt_61 4000 cn_244 = true := c_chkQ_ok (pcs := []) (by decide +kernel)
set_option maxRecDepth 100000 in
theorem cn_245_ok : c_chk cs_at 2 none kt_61 4000 cn_245 = true := c_chkQ_ok (pcs := []) (by decide +kernel)
set_option maxRecDepth 100000 in
theorem cn_246_ok : c_chk cs_at 2 none kt_61 4000 cn_246 = true := c_chkQ_ok (pcs := []) (by decide +kernel)
set_option maxRecDepth 100000 in
theorem cn_247_ok : c_chk cs_at 2 none kt_61 4000 cn_247 = true := c_chkQ_ok (pcs := []) (by decide +kernel)
set_option maxRecDepth 100000 in
theorem cn_248_ok : c_chk cs_at 2 none kt_61 4000 cn_248 = true := c_chkQ_ok (pcs := []) (by decide +kernel)
set_option maxRecDepth 100000 in
theorem cn_249_ok : c_chk cs_at 2 none kt_61 4000 cn_249 = true := c_chkQ_ok (pcs := []) (by decide +kernel)
set_option maxRecDepth 100000 in
theorem cn_250_ok : c_chk cs_at 2 none kt_61 4000 cn_250 = true := c_chkQ_ok (pcs := []) (by decide +kernel)
set_option maxRecDepth 100000 in
theorem cn_251_ok : c_chk cs_at 2 none kt_61 4000 cn_251 = true := c_chkQ_ok (pcs := []) (by decide +kernel)
set_option maxRecDepth 100000 in
theorem cn_252_ok : c_chk cs_at 2 none kt_61 4000 cn_252 = true := c_chkQ_ok (pcs := []) (by decide +kernel)
set_option maxRecDepth 100000 in
theorem cn_253_ok : c_chk cs_at 2 none kt_61 4000 cn_253 = true := c_chkQ_ok (pcs := []) (by decide +kernel)
set_option maxRecDepth 100000 in
theorem cn_254_ok : c_chk cs_at 2 none kt_61 4000 cn_254 = true := c_chkQ_ok (pcs := []) (by decide +kernel)
set_option maxRecDepth 100000 in
theorem cn_255_ok : c_chk cs_at 2 none kt_61 4000 cn_255 = true := c_chkQ_ok (pcs := []) (by decide +kernel)
set_option maxRecDepth 100000 in
theorem cn_256_ok : c_chk cs_at 2 none kt_61 4000 cn_256 = true := c_chkQ_ok (pcs := []) (by decide +kernel)
set_option maxRecDepth 100000 in
theorem cn_257_ok : c_chk cs_at 2 none kt_61 4000 cn_257 = true := c_chkQ_ok (pcs := []) (by decide +kernel)
set_option maxRecDepth 100000 in
theorem cn_258_ok : c_chk cs_at 2 none kt_61 4000 cn_258 = true := c_chkQ_ok (pcs := []) (by decide +kernel)
set_option maxRecDepth 100000 in
theorem cn_259_ok : c_chk cs_at 2 none kt_61 4000 cn_259 = true := c_chkQ_ok (pcs := []) (by decide +kernel)
set_option maxRecDepth 100000 in
theorem cn_260_ok : c_chk cs_at 2 none kt_61 4000 cn_260 = true := c_chkQ_ok (pcs := []) (by decide +kernel)
set_option maxRecDepth 100000 in
theorem cn_261_ok : c_chk cs_at 2 none kt_61 4000 cn_261 = true := c_chkQ_ok (pcs := []) (by decide +kernel)
set_option maxRecDepth 100000 in
theorem cn_262_ok : c_chk cs_at 2 none kt_61 4000 cn_262 = true := c_chkQ_ok (pcs := []) (by decide +kernel)
set_option maxRecDepth 100000 in
theorem cn_263_ok : c_chk cs_at 2 none kt_61 4000 cn_263 = true := c_chkQ_ok (pcs := []) (by decide +kernel)
set_option maxRecDepth 100000 in
theorem cn_264_ok : c_chk cs_at 2 none kt_61 4000 cn_264 = true := c_chkQ_ok (pcs := []) (by decide +kernel)
set_option maxRecDepth 100000 in
theorem cn_265_ok : c_chk cs_at 2 none kt_61 4000 cn_265 = true := c_chkQ_ok (pcs := []) (by decide +kernel)
set_option maxRecDepth 100000 in
theorem cn_266_ok : c_chk cs_at 2 none kt_61 4000 cn_266 = true := c_chkQ_ok (pcs := []) (by decide +kernel)
set_option maxRecDepth 100000 in
theorem cn_267_ok : c_chk cs_at 2 none kt_61 4000 cn_267 = true := c_chkQ_ok (pcs := []) (by decide +kernel)
set_option maxRecDepth 100000 in
theorem cn_268_ok : c_chk cs_at 2 none kt_61 4000 cn_268 = true := c_chkQ_ok (pcs := []) (by decide +kernel)
set_option maxRecDepth 100000 in
theorem cn_344_ok : c_chk cs_at 3 (some FieldType.int) kt_62 4000 cn_344 = true := c_chkQ_ok (pcs := []) (by decide +kernel)
set_option maxRecDepth 100000 in
theorem cn_123_ok : c_chk cs_at 2 (some FieldType.int) kt_63 4000 cn_123 = true := c_chkQ_ok (pcs := []) (by decide +kernel)
set_option maxRecDepth 100000 in
theorem cn_405_ok : c_chk cs_at 1 (some FieldType.int) kt_64 4000 cn_405 = true := c_chkQ_ok (pcs := []) (by decide +kernel)
set_option maxRecDepth 100000 in
theorem cn_378_ok : c_chk cs_at 2 (some FieldType.int) kt_65 4000 cn_378 = true := c_chkQ_ok (pcs := []) (by decide +kernel)
set_option maxRecDepth 100000 in
theorem cn_8_ok : c_chk cs_at 1 none kt_66 4000 cn_8 = true := c_chkQ_ok (pcs := []) (by decide +kernel)
set_option maxRecDepth 100000 in
theorem cn_347_ok : c_chk cs_at 4 none kt_67 4000 cn_347 = true := c_chkQ_ok (pcs := [2]) (by decide +kernel)
set_option maxRecDepth 100000 in
theorem cn_348_ok : c_chk cs_at 4 none kt_67 4000 cn_348 = true := c_chkQ_ok (pcs := [2]) (by decide +kernel)
set_option maxRecDepth 100000 in
theorem cn_349_ok : c_chk cs_at 4 none kt_67 4000 cn_349 = true := c_chkQ_ok (pcs := [2]) (by decide +kernel)
set_option maxRecDepth 100000 in
theorem cn_350_ok : c_chk cs_at 4 none kt_67 4000 cn_350 = true := c_chkQ_ok (pcs := [2]) (by decide +kernel)
set_option maxRecDepth 100000 in
theorem cn_351_ok : c_chk cs_at 4 none kt_67 4000 cn_351 = true := c_chkQ_ok (pcs := [2]) (by decide +kernel)
set_option maxRecDepth 100000 in
theorem cn_352_ok : c_chk cs_at 4 none kt_67 4000 cn_352 = true := c_chkQ_ok (pcs := [2]) (by decide +kernel)
set_option maxRecDepth 100000 in
theorem cn_353_ok : c_chk cs_at 4 none kt_67 4000 cn_353 = true := c_chkQ_ok (pcs := [2]) (by decide +kernel)
set_option maxRecDepth 100000 in
theorem cn_354_ok : c_chk cs_at 4 none kt_67 4000 cn_354 = true := c_chkQ_ok (pcs := [2]) (by decide +kernel)
set_option maxRecDepth 100000 in
theorem cn_355_ok : c_chk cs_at 4 none kt_67 4000 cn_355 = true := c_chkQ_ok (pcs := [2]) (by decide +kernel)
set_option maxRecDepth 100000 in
theorem cn_356_ok : c_chk cs_at 4 none kt_67 4000 cn_356 = true := c_chkQ_ok (pcs := [2]) (by decide +kernel)
set_option maxRecDepth 100000 in
theorem cn_357_ok : c_chk cs_at 4 none kt_67 4000 cn_357 = true := c_chkQ_ok (pcs := [2]) (by decide +kernel)
