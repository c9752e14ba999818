/-! THE CONTRACTS CHECKED, 2 -/
set_option maxRecDepth 100000 in
theorem cn_240_ok : c_chk cs_at 2 none kt_61 4000 cn_240 = true := c_chkQ_ok (pcs := []) (by decide +kernel)
set_option maxRecDepth 100000 in
theorem cn_241_ok : c_chk cs_at 2 none kt_61 4000 cn_241 = true := c_chkQ_ok (pcs := []) (by decide +kernel)
set_option maxRecDepth 100000 in
theorem cn_242_ok : c_chk cs_at 2 none kt_61 4000 cn_242 = true := c_chkQ_ok (pcs := []) (by decide +kernel)
set_option maxRecDepth 100000 in
theorem cn_243_ok : c_chk cs_at 2 none kt_61 4000 cn_243 = true := c_chkQ_ok (pcs := []) (by decide +kernel)
set_option maxRecDepth 100000 in
theorem cn_244_ok : c_chk cs_at 2 none kt_61 4000 cn_244 = true := c_chkQ_ok (pcs := []) (by decide +kernel)
set_option maxRecDepth 100000 in
theorem cn_245_ok : c_chk cs_at 2 none kt_61 4000 cn_245 = true := c_chkQ_ok (pcs := []) (by decide +kernel)
set_option maxRecDepth 100000 in
theorem cn_246_ok : c_chk cs_at 2 none kt_61 4000 cn_246 = true := c_chkQ_ok (pcs := []) (by decide +kernel)
set_option maxRecDepth 100000 in
theorem cn_247_ok : c_chk cs_at 2 none kt_61 4000 cn_247 = true := c_chkQ_ok (pcs := []) (by decide +kernel)
set_option maxRecDepth 100000 in
theorem cn_248_ok : c_chk cs_at 2 none kt_61 4000 cn_248 = true := c_chkQ_ok (pcs := []) (by decide +kernel)
set_option maxRecDepth 100000 in
theorem cn_249_ok : c_chk cs_at 2 none kt_61 4000 cn_249 = true := c_chkQ_ok (pcs := []) (by decide +kernel)
set_option maxRecDepth 100000 in
theorem cn_250_ok : c_chk cs_at 2 none kt_61 4000 cn_250 = true := c_chkQ_ok (pcs := []) (by decide +kernel)
set_option maxRecDepth 100000 in
theorem cn_251_ok : c_chk cs_at 2 none kt_61 4000 cn_251 = true := c_chkQ_ok (pcs := []) (by decide +kernel)
set_option maxRecDepth 100000 in
theorem cn_252_ok : c_chk cs_at 2 none kt_61 4000 cn_252 = true := c_chkQ_ok (pcs := []) (by decide +kernel)
set_option maxRecDepth 100000 in
theorem cn_253_ok : c_chk cs_at 2 none kt_61 4000 cn_253 = true := c_chkQ_ok (pcs := []) (by decide +kernel)
set_option maxRecDepth 100000 in
theorem cn_254_ok : c_chk cs_at 2 none kt_61 4000 cn_254 = true := c_chkQ_ok (pcs := []) (by decide +kernel)
set_option maxRecDepth 100000 in
theorem cn_255_ok : c_chk cs_at 2 none kt_61 4000 cn_255 = true := c_chkQ_ok (pcs := []) (by decide +kernel)
set_option maxRecDepth 100000 in
theorem cn_256_ok : c_chk cs_at 2 none kt_61 4000 cn_256 = true := c_chkQ_ok (pcs := []) (by decide +kernel)
set_option maxRecDepth 100000 in
theorem cn_257_ok : c_chk cs_at 2 none kt_61 4000 cn_257 = true := c_chkQ_ok (pcs := []) (by decide +kernel)
set_option maxRecDepth 100000 in
theorem cn_258_ok : c_chk cs_at 2 none kt_61 4000 cn_258 = true := c_chkQ_ok (pcs := []) (by decide +kernel)
set_option maxRecDepth 100000 in
theorem cn_259_ok : c_chk cs_at 2 none kt_61 4000 cn_259 = true := c_chkQ_ok (pcs := []) (by decide +kernel)
set_option maxRecDepth 100000 in
theorem cn_260_ok : c_chk cs_at 2 none kt_61 4000 cn_260 = true := c_chkQ_ok (pcs := []) (by decide +kernel)
set_option maxRecDepth 100000 in
theorem cn_261_ok : c_chk cs_at 2 none kt_61 4000 cn_261 = true := c_chkQ_ok (pcs := []) (by decide +kernel)
set_option maxRecDepth 100000 in
theorem cn_262_ok : c_chk cs_at 2 none kt_61 4000 cn_262 = true := c_chkQ_ok (pcs := []) (by decide +kernel)
set_option maxRecDepth 100000 in
theorem cn_263_ok : c_chk cs_at 2 none kt_61 4000 cn_263 = true := c_chkQ_ok (pcs := []) (by decide +kernel)
set_option maxRecDepth 100000 in
theorem cn_264_ok : c_chk cs_at 2 none kt_61 4000 cn_264 = true := c_chkQ_ok (pcs := []) (by decide +kernel)
set_option maxRecDepth 100000 in
theorem cn_265_ok : c_chk cs_at 2 none kt_61 4000 cn_265 = true := c_chkQ_ok (pcs := []) (by decide +kernel)
set_option maxRecDepth 100000 in
theorem cn_266_ok : c_chk cs_at 2 none kt_61 4000 cn_266 = true := c_chkQ_ok (pcs := []) (by decide +kernel)
set_option maxRecDepth 100000 in
theorem cn_267_ok : c_chk cs_at 2 none kt_61 4000 cn_267 = true := c_chkQ_ok (pcs := []) (by decide +kernel)
set_option maxRecDepth 100000 in
theorem cn_268_ok : c_chk cs_at 2 none kt_61 4000 cn_268 = true := c_chkQ_ok (pcs := []) (by decide +kernel)
set_option maxRecDepth 100000 in
theorem cn_344_ok : c_chk cs_at 3 (some FieldType.int) kt_62 4000 cn_344 = true := c_chkQ_ok (pcs := []) (by decide +kernel)
set_option maxRecDepth 100000 in
theorem cn_123_ok : c_chk cs_at 2 (some FieldType.int) kt_63 4000 cn_123 = true := c_chkQ_ok (pcs := []) (by decide +kernel)
set_option maxRecDepth 100000 in
theorem cn_405_ok : c_chk cs_at 1 (some FieldType.int) kt_64 4000 cn_405 = true := c_chkQ_ok (pcs := []) (by decide +kernel)
set_option maxRecDepth 100000 in
theorem cn_378_ok : c_chk cs_at 2 (some FieldType.int) kt_65 4000 cn_378 = true := c_chkQ_ok (pcs := []) (by decide +kernel)
set_option maxRecDepth 100000 in
theorem cn_8_ok : c_chk cs_at 1 none kt_66 4000 cn_8 = true := c_chkQ_ok (pcs := []) (by decide +kernel)
set_option maxRecDepth 100000 in
theorem cn_347_ok : c_chk cs_at 4 none kt_67 4000 cn_347 = true := c_chkQ_ok (pcs := [2]) (by decide +kernel)
set_option maxRecDepth 100000 in
theorem cn_348_ok : c_chk cs_at 4 none kt_67 4000 cn_348 = true := c_chkQ_ok (pcs := [2]) (by decide +kernel)
set_option maxRecDepth 100000 in
theorem cn_349_ok : c_chk cs_at 4 none kt_67 4000 cn_349 = true := c_chkQ_ok (pcs := [2]) (by decide +kernel)
set_option maxRecDepth 100000 in
theorem cn_350_ok : c_chk cs_at 4 none kt_67 4000 cn_350 = true := c_chkQ_ok (pcs := [2]) (by decide +kernel)
set_option maxRecDepth 100000 in
theorem cn_351_ok : c_chk cs_at 4 none kt_67 4000 cn_351 = true := c_chkQ_ok (pcs := [2]) (by decide +kernel)
set_option maxRecDepth 100000 in
theorem cn_352_ok : c_chk cs_at 4 none kt_67 4000 cn_352 = true := c_chkQ_ok (pcs := [2]) (by decide +kernel)
set_option maxRecDepth 100000 in
theorem cn_353_ok : c_chk cs_at 4 none kt_67 4000 cn_353 = true := c_chkQ_ok (pcs := [2]) (by decide +kernel)
set_option maxRecDepth 100000 in
theorem cn_354_ok : c_chk cs_at 4 none kt_67 4000 cn_354 = true := c_chkQ_ok (pcs := [2]) (by decide +kernel)
set_option maxRecDepth 100000 in
theorem cn_355_ok : c_chk cs_at 4 none kt_67 4000 cn_355 = true := c_chkQ_ok (pcs := [2]) (by decide +kernel)
set_option maxRecDepth 100000 in
theorem cn_356_ok : c_chk cs_at 4 none kt_67 4000 cn_356 = true := c_chkQ_ok (pcs := [2]) (by decide +kernel)
set_option maxRecDepth 100000 in
theorem cn_357_ok : c_chk cs_at 4 none kt_67 4000 cn_357 = true := c_chkQ_ok (pcs := [2]) (by decide +kernel)
set_option maxRecDepth 100000 in
theorem cn_358_ok : c_chk cs_at 4 none kt_67 4000 cn_358 = true := c_chkQ_ok (pcs := [2]) (by decide +kernel)
set_option maxRecDepth 100000 in
theorem cn_359_ok : c_chk cs_at 4 none kt_67 4000 cn_359 = true := c_chkQ_ok (pcs := [2]) (by decide +kernel)
set_option maxRecDepth 100000 in
theorem cn_360_ok : c_chk cs_at 4 none kt_67 4000 cn_360 = true := c_chkQ_ok (pcs := [2]) (by decide +kernel)
set_option maxRecDepth 100000 in
theorem cn_361_ok : c_chk cs_at 4 none kt_67 4000 cn_361 = true := c_chkQ_ok (pcs := [2]) (by decide +kernel)
set_option maxRecDepth 100000 in
theorem cn_297_ok : c_chk cs_at 6 none kt_68 4000 cn_297 = true := c_chkQ_ok (pcs := [8, 106]) (by decide +kernel)
set_option maxRecDepth 100000 in
theorem cn_298_ok : c_chk cs_at 6 none kt_68 4000 cn_298 = true := c_chkQ_ok (pcs := [8, 106]) (by decide +kernel)
set_option maxRecDepth 100000 in
theorem cn_299_ok : c_chk cs_at 6 none kt_68 4000 cn_299 = true := c_chkQ_ok (pcs := [8, 106]) (by decide +kernel)
set_option maxRecDepth 100000 in
theorem cn_300_ok : c_chk cs_at 6 none kt_68 4000 cn_300 = true := c_chkQ_ok (pcs := [8, 106]) (by decide +kernel)
set_option maxRecDepth 100000 in
theorem cn_301_ok : c_chk cs_at 6 none kt_68 4000 cn_301 = true := c_chkQ_ok (pcs := [8, 106]) (by decide +kernel)
set_option maxRecDepth 100000 in
theorem cn_302_ok : c_chk cs_at 6 none kt_68 4000 cn_302 = true := c_chkQ_ok (pcs := [8, 106]) (by decide +kernel)
set_option maxRecDepth 100000 in
theorem cn_303_ok : c_chk cs_at 6 none kt_68 4000 cn_303 = true := c_chkQ_ok (pcs := [8, 106]) (by decide +kernel)
set_option maxRecDepth 100000 in
theorem cn_304_ok : c_chk cs_at 6 none kt_68 4000 cn_304 = true := c_chkQ_ok (pcs := [8, 106]) (by decide +kernel)
set_option maxRecDepth 100000 in
theorem cn_305_ok : c_chk cs_at 6 none kt_68 4000 cn_305 = true := c_chkQ_ok (pcs := [8, 106]) (by decide +kernel)
set_option maxRecDepth 100000 in
theorem cn_306_ok : c_chk cs_at 6 none kt_68 4000 cn_306 = true := c_chkQ_ok (pcs := [8, 106]) (by decide +kernel)
set_option maxRecDepth 100000 in
theorem cn_307_ok : c_chk cs_at 6 none kt_68 4000 cn_307 = true := c_chkQ_ok (pcs := [8, 106]) (by decide +kernel)
set_option maxRecDepth 100000 in
theorem cn_308_ok : c_chk cs_at 6 none kt_68 4000 cn_308 = true := c_chkQ_ok (pcs := [8, 106]) (by decide +kernel)
set_option maxRecDepth 100000 in
theorem cn_309_ok : c_chk cs_at 6 none kt_68 4000 cn_309 = true := c_chkQ_ok (pcs := [8, 106]) (by decide +kernel)
set_option maxRecDepth 100000 in
theorem cn_310_ok : c_chk cs_at 6 none kt_68 4000 cn_310 = true := c_chkQ_ok (pcs := [8, 106]) (by decide +kernel)
set_option maxRecDepth 100000 in
theorem cn_311_ok : c_chk cs_at 6 none kt_68 4000 cn_311 = true := c_chkQ_ok (pcs := [8, 106]) (by decide +kernel)
set_option maxRecDepth 100000 in
theorem cn_312_ok : c_chk cs_at 6 none kt_68 4000 cn_312 = true := c_chkQ_ok (pcs := [8, 106]) (by decide +kernel)
set_option maxRecDepth 100000 in
theorem cn_313_ok : c_chk cs_at 6 none kt_68 4000 cn_313 = true := c_chkQ_ok (pcs := [8, 106]) (by decide +kernel)
set_option maxRecDepth 100000 in
theorem cn_177_ok : c_chk cs_at 5 none kt_69 4000 cn_177 = true := c_chkQ_ok (pcs := [2, 30]) (by decide +kernel)
set_option maxRecDepth 100000 in
theorem cn_178_ok : c_chk cs_at 5 none kt_69 4000 cn_178 = true := c_chkQ_ok (pcs := [2, 30]) (by decide +kernel)
