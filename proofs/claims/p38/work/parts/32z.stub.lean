/-! STUB of 23 -/
set_option maxRecDepth 100000 in
theorem ra_ok_0 : ((ra_list.drop (8 * 0)).take 8).all (c_chk cs_at 3 none kt_213 4000) = true := sorry
set_option maxRecDepth 100000 in
theorem ra_ok_1 : ((ra_list.drop (8 * 1)).take 8).all (c_chk cs_at 3 none kt_213 4000) = true := sorry
set_option maxRecDepth 100000 in
theorem ra_ok_2 : ((ra_list.drop (8 * 2)).take 8).all (c_chk cs_at 3 none kt_213 4000) = true := sorry
set_option maxRecDepth 100000 in
theorem ra_ok_3 : ((ra_list.drop (8 * 3)).take 8).all (c_chk cs_at 3 none kt_213 4000) = true := sorry
set_option maxRecDepth 100000 in
theorem ra_ok_4 : ((ra_list.drop (8 * 4)).take 8).all (c_chk cs_at 3 none kt_213 4000) = true := sorry
set_option maxRecDepth 100000 in
theorem ra_ok_5 : ((ra_list.drop (8 * 5)).take 8).all (c_chk cs_at 3 none kt_213 4000) = true := sorry
set_option maxRecDepth 100000 in
theorem ra_ok_6 : ((ra_list.drop (8 * 6)).take 8).all (c_chk cs_at 3 none kt_213 4000) = true := sorry
set_option maxRecDepth 100000 in
theorem ra_ok_7 : ((ra_list.drop (8 * 7)).take 8).all (c_chk cs_at 3 none kt_213 4000) = true := sorry
set_option maxRecDepth 100000 in
theorem cn_20_ok : c_chk cs_at 1 none kt_4 4000 cn_20 = true := sorry
set_option maxRecDepth 100000 in
theorem cn_122_ok : c_chk cs_at 2 (some FieldType.int) kt_14 4000 cn_122 = true := sorry
set_option maxRecDepth 100000 in
theorem cn_24_ok : c_chk cs_at 3 (some FieldType.boolean) kt_15 4000 cn_24 = true := sorry
set_option maxRecDepth 100000 in
theorem cn_119_ok : c_chk cs_at 2 (some FieldType.boolean) kt_16 4000 cn_119 = true := sorry
set_option maxRecDepth 100000 in
theorem cn_26_ok : c_chk cs_at 2 (some FieldType.boolean) kt_17 4000 cn_26 = true := sorry
set_option maxRecDepth 100000 in
theorem cn_407_ok : c_chk cs_at 3 (some FieldType.int) kt_18 4000 cn_407 = true := sorry
set_option maxRecDepth 100000 in
theorem cn_389_ok : c_chk cs_at 3 (some FieldType.boolean) kt_19 4000 cn_389 = true := sorry
set_option maxRecDepth 100000 in
theorem cn_25_ok : c_chk cs_at 2 none kt_20 4000 cn_25 = true := sorry
set_option maxRecDepth 100000 in
theorem cn_367_ok : c_chk cs_at 5 (some FieldType.boolean) kt_21 4000 cn_367 = true := sorry
set_option maxRecDepth 100000 in
theorem cn_368_ok : c_chk cs_at 5 (some FieldType.boolean) kt_21 4000 cn_368 = true := sorry
set_option maxRecDepth 100000 in
theorem cn_369_ok : c_chk cs_at 5 (some FieldType.boolean) kt_21 4000 cn_369 = true := sorry
set_option maxRecDepth 100000 in
theorem cn_315_ok : c_chk cs_at 3 (some FieldType.int) kt_22 4000 cn_315 = true := sorry
set_option maxRecDepth 100000 in
theorem cn_206_ok : c_chk cs_at 1 (some FieldType.int) kt_23 4000 cn_206 = true := sorry
set_option maxRecDepth 100000 in
theorem cn_29_ok : c_chk cs_at 1 (some FieldType.int) kt_24 4000 cn_29 = true := sorry
set_option maxRecDepth 100000 in
theorem cn_2_ok : c_chk cs_at 1 (some FieldType.int) kt_25 4000 cn_2 = true := sorry
set_option maxRecDepth 100000 in
theorem cn_30_ok : c_chk cs_at 2 (some FieldType.boolean) kt_26 4000 cn_30 = true := sorry
set_option maxRecDepth 100000 in
theorem cn_207_ok : c_chk cs_at 2 (some FieldType.boolean) kt_27 4000 cn_207 = true := sorry
set_option maxRecDepth 100000 in
theorem cn_28_ok : c_chk cs_at 1 (some FieldType.boolean) kt_28 4000 cn_28 = true := sorry
set_option maxRecDepth 100000 in
theorem cn_27_ok : c_chk cs_at 1 none kt_29 4000 cn_27 = true := sorry
set_option maxRecDepth 100000 in
theorem cn_196_ok : c_chk cs_at 3 (some FieldType.int) kt_30 4000 cn_196 = true := sorry
set_option maxRecDepth 100000 in
theorem cn_31_ok : c_chk cs_at 2 none kt_31 4000 cn_31 = true := sorry
set_option maxRecDepth 100000 in
theorem cn_14_ok : c_chk cs_at 2 (some FieldType.boolean) kt_32 4000 cn_14 = true := sorry
set_option maxRecDepth 100000 in
theorem cn_18_ok : c_chk cs_at 1 none kt_33 4000 cn_18 = true := sorry
set_option maxRecDepth 100000 in
theorem cn_19_ok : c_chk cs_at 2 none kt_34 4000 cn_19 = true := sorry
set_option maxRecDepth 100000 in
theorem cn_381_ok : c_chk cs_at 2 (some FieldType.int) kt_35 4000 cn_381 = true := sorry
set_option maxRecDepth 100000 in
theorem cn_366_ok : c_chk cs_at 3 (some FieldType.boolean) kt_36 4000 cn_366 = true := sorry
set_option maxRecDepth 100000 in
theorem cn_316_ok : c_chk cs_at 7 (some FieldType.boolean) kt_37 4000 cn_316 = true := sorry
set_option maxRecDepth 100000 in
theorem cn_195_ok : c_chk cs_at 3 none kt_38 4000 cn_195 = true := sorry
set_option maxRecDepth 100000 in
theorem cn_502_ok : c_chk cs_at 2 (some FieldType.int) kt_39 4000 cn_502 = true := sorry
set_option maxRecDepth 100000 in
theorem cn_501_ok : c_chk cs_at 1 (some FieldType.boolean) kt_40 4000 cn_501 = true := sorry
set_option maxRecDepth 100000 in
theorem cn_457_ok : c_chk cs_at 4 (some FieldType.boolean) kt_41 4000 cn_457 = true := sorry
set_option maxRecDepth 100000 in
theorem cn_476_ok : c_chk cs_at 4 (some FieldType.boolean) kt_41 4000 cn_476 = true := sorry
set_option maxRecDepth 100000 in
theorem cn_484_ok : c_chk cs_at 4 (some FieldType.boolean) kt_41 4000 cn_484 = true := sorry
set_option maxRecDepth 100000 in
theorem cn_492_ok : c_chk cs_at 4 (some FieldType.boolean) kt_41 4000 cn_492 = true := sorry
set_option maxRecDepth 100000 in
theorem cn_500_ok : c_chk cs_at 4 (some FieldType.boolean) kt_41 4000 cn_500 = true := sorry
set_option maxRecDepth 100000 in
theorem cn_448_ok : c_chk cs_at 6 (some FieldType.boolean) kt_42 4000 cn_448 = true := sorry
set_option maxRecDepth 100000 in
theorem cn_454_ok : c_chk cs_at 6 (some FieldType.boolean) kt_42 4000 cn_454 = true := sorry
set_option maxRecDepth 100000 in
theorem cn_469_ok : c_chk cs_at 6 (some FieldType.boolean) kt_42 4000 cn_469 = true := sorry
set_option maxRecDepth 100000 in
theorem cn_475_ok : c_chk cs_at 6 (some FieldType.boolean) kt_42 4000 cn_475 = true := sorry
set_option maxRecDepth 100000 in
theorem cn_481_ok : c_chk cs_at 6 (some FieldType.boolean) kt_42 4000 cn_481 = true := sorry
set_option maxRecDepth 100000 in
theorem cn_483_ok : c_chk cs_at 6 (some FieldType.boolean) kt_42 4000 cn_483 = true := sorry
set_option maxRecDepth 100000 in
theorem cn_489_ok : c_chk cs_at 6 (some FieldType.boolean) kt_42 4000 cn_489 = true := sorry
set_option maxRecDepth 100000 in
theorem cn_491_ok : c_chk cs_at 6 (some FieldType.boolean) kt_42 4000 cn_491 = true := sorry
set_option maxRecDepth 100000 in
theorem cn_497_ok : c_chk cs_at 6 (some FieldType.boolean) kt_42 4000 cn_497 = true := sorry
set_option maxRecDepth 100000 in
theorem cn_499_ok : c_chk cs_at 6 (some FieldType.boolean) kt_42 4000 cn_499 = true := sorry
set_option maxRecDepth 100000 in
theorem cn_445_ok : c_chk cs_at 3 (some FieldType.boolean) kt_43 4000 cn_445 = true := sorry
set_option maxRecDepth 100000 in
theorem cn_451_ok : c_chk cs_at 3 (some FieldType.boolean) kt_43 4000 cn_451 = true := sorry
set_option maxRecDepth 100000 in
theorem cn_467_ok : c_chk cs_at 3 (some FieldType.boolean) kt_43 4000 cn_467 = true := sorry
set_option maxRecDepth 100000 in
theorem cn_471_ok : c_chk cs_at 3 (some FieldType.boolean) kt_43 4000 cn_471 = true := sorry
set_option maxRecDepth 100000 in
theorem cn_480_ok : c_chk cs_at 3 (some FieldType.boolean) kt_43 4000 cn_480 = true := sorry
set_option maxRecDepth 100000 in
theorem cn_482_ok : c_chk cs_at 3 (some FieldType.boolean) kt_43 4000 cn_482 = true := sorry
set_option maxRecDepth 100000 in
theorem cn_488_ok : c_chk cs_at 3 (some FieldType.boolean) kt_43 4000 cn_488 = true := sorry
set_option maxRecDepth 100000 in
theorem cn_490_ok : c_chk cs_at 3 (some FieldType.boolean) kt_43 4000 cn_490 = true := sorry
set_option maxRecDepth 100000 in
theorem cn_496_ok : c_chk cs_at 3 (some FieldType.boolean) kt_43 4000 cn_496 = true := sorry
set_option maxRecDepth 100000 in
theorem cn_498_ok : c_chk cs_at 3 (some FieldType.boolean) kt_43 4000 cn_498 = true := sorry
set_option maxRecDepth 100000 in
theorem cn_442_ok : c_chk cs_at 4 (some FieldType.boolean) kt_44 4000 cn_442 = true := sorry
set_option maxRecDepth 100000 in
theorem cn_465_ok : c_chk cs_at 4 (some FieldType.boolean) kt_44 4000 cn_465 = true := sorry
set_option maxRecDepth 100000 in
theorem cn_479_ok : c_chk cs_at 4 (some FieldType.boolean) kt_44 4000 cn_479 = true := sorry
set_option maxRecDepth 100000 in
theorem cn_487_ok : c_chk cs_at 4 (some FieldType.boolean) kt_44 4000 cn_487 = true := sorry
set_option maxRecDepth 100000 in
theorem cn_495_ok : c_chk cs_at 4 (some FieldType.boolean) kt_44 4000 cn_495 = true := sorry
set_option maxRecDepth 100000 in
theorem cn_437_ok : c_chk cs_at 4 (some FieldType.boolean) kt_45 4000 cn_437 = true := sorry
set_option maxRecDepth 100000 in
theorem cn_463_ok : c_chk cs_at 4 (some FieldType.boolean) kt_45 4000 cn_463 = true := sorry
set_option maxRecDepth 100000 in
theorem cn_478_ok : c_chk cs_at 4 (some FieldType.boolean) kt_45 4000 cn_478 = true := sorry
set_option maxRecDepth 100000 in
theorem cn_486_ok : c_chk cs_at 4 (some FieldType.boolean) kt_45 4000 cn_486 = true := sorry
set_option maxRecDepth 100000 in
theorem cn_494_ok : c_chk cs_at 4 (some FieldType.boolean) kt_45 4000 cn_494 = true := sorry
set_option maxRecDepth 100000 in
theorem cn_205_ok : c_chk cs_at 2 (some FieldType.boolean) kt_46 4000 cn_205 = true := sorry
set_option maxRecDepth 100000 in
theorem cn_461_ok : c_chk cs_at 2 (some FieldType.boolean) kt_46 4000 cn_461 = true := sorry
set_option maxRecDepth 100000 in
theorem cn_477_ok : c_chk cs_at 2 (some FieldType.boolean) kt_46 4000 cn_477 = true := sorry
set_option maxRecDepth 100000 in
theorem cn_485_ok : c_chk cs_at 2 (some FieldType.boolean) kt_46 4000 cn_485 = true := sorry
set_option maxRecDepth 100000 in
theorem cn_493_ok : c_chk cs_at 2 (some FieldType.boolean) kt_46 4000 cn_493 = true := sorry
set_option maxRecDepth 100000 in
theorem cn_324_ok : c_chk cs_at 4 none kt_47 4000 cn_324 = true := sorry
set_option maxRecDepth 100000 in
theorem cn_22_ok : c_chk cs_at 2 none kt_48 4000 cn_22 = true := sorry
set_option maxRecDepth 100000 in
theorem cn_23_ok : c_chk cs_at 2 (some FieldType.boolean) kt_51 4000 cn_23 = true := sorry
set_option maxRecDepth 100000 in
theorem cn_203_ok : c_chk cs_at 3 none kt_52 4000 cn_203 = true := sorry
set_option maxRecDepth 100000 in
theorem cn_6_ok : c_chk cs_at 4 (some FieldType.int) kt_53 4000 cn_6 = true := sorry
set_option maxRecDepth 100000 in
theorem cn_118_ok : c_chk cs_at 5 (some FieldType.int) kt_54 4000 cn_118 = true := sorry
set_option maxRecDepth 100000 in
theorem cn_15_ok : c_chk cs_at 2 (some FieldType.boolean) kt_55 4000 cn_15 = true := sorry
set_option maxRecDepth 100000 in
theorem cn_293_ok : c_chk cs_at 10 (some FieldType.int) kt_56 4000 cn_293 = true := sorry
set_option maxRecDepth 100000 in
theorem cn_120_ok : c_chk cs_at 3 (some FieldType.int) kt_57 4000 cn_120 = true := sorry
set_option maxRecDepth 100000 in
theorem cn_342_ok : c_chk cs_at 4 (some FieldType.int) kt_58 4000 cn_342 = true := sorry
set_option maxRecDepth 100000 in
theorem cn_121_ok : c_chk cs_at 4 (some FieldType.int) kt_59 4000 cn_121 = true := sorry
set_option maxRecDepth 100000 in
theorem cn_322_ok : c_chk cs_at 2 none kt_60 4000 cn_322 = true := sorry
set_option maxRecDepth 100000 in
theorem cn_323_ok : c_chk cs_at 2 none kt_60 4000 cn_323 = true := sorry
set_option maxRecDepth 100000 in
theorem cn_209_ok : c_chk cs_at 2 none kt_61 4000 cn_209 = true := sorry
set_option maxRecDepth 100000 in
theorem cn_210_ok : c_chk cs_at 2 none kt_61 4000 cn_210 = true := sorry
set_option maxRecDepth 100000 in
theorem cn_211_ok : c_chk cs_at 2 none kt_61 4000 cn_211 = true := sorry
set_option maxRecDepth 100000 in
theorem cn_212_ok : c_chk cs_at 2 none kt_61 4000 cn_212 = true := sorry
set_option maxRecDepth 100000 in
theorem cn_213_ok : c_chk cs_at 2 none kt_61 4000 cn_213 = true := sorry
set_option maxRecDepth 100000 in
theorem cn_214_ok : c_chk cs_at 2 none kt_61 4000 cn_214 = true := sorry
set_option maxRecDepth 100000 in
theorem cn_215_ok : c_chk cs_at 2 none kt_61 4000 cn_215 = true := sorry
set_option maxRecDepth 100000 in
theorem cn_216_ok : c_chk cs_at 2 none kt_61 4000 cn_216 = true := sorry
set_option maxRecDepth 100000 in
theorem cn_217_ok : c_chk cs_at 2 none kt_61 4000 cn_217 = true := sorry
set_option maxRecDepth 100000 in
theorem cn_218_ok : c_chk cs_at 2 none kt_61 4000 cn_218 = true := sorry
set_option maxRecDepth 100000 in
theorem cn_219_ok : c_chk cs_at 2 none kt_61 4000 cn_219 = true := sorry
set_option maxRecDepth 100000 in
theorem cn_220_ok : c_chk cs_at 2 none kt_61 4000 cn_220 = true := sorry
set_option maxRecDepth 100000 in
theorem cn_221_ok : c_chk cs_at 2 none kt_61 4000 cn_221 = true := sorry
set_option maxRecDepth 100000 in
theorem cn_222_ok : c_chk cs_at 2 none kt_61 4000 cn_222 = true := sorry
set_option maxRecDepth 100000 in
theorem cn_223_ok : c_chk cs_at 2 none kt_61 4000 cn_223 = true := sorry
set_option maxRecDepth 100000 in
theorem cn_224_ok : c_chk cs_at 2 none kt_61 4000 cn_224 = true := sorry
set_option maxRecDepth 100000 in
theorem cn_225_ok : c_chk cs_at 2 none kt_61 4000 cn_225 = true := sorry
set_option maxRecDepth 100000 in
theorem cn_226_ok : c_chk cs_at 2 none kt_61 4000 cn_226 = true := sorry
set_option maxRecDepth 100000 in
theorem cn_227_ok : c_chk cs_at 2 none kt_61 4000 cn_227 = true := sorry
set_option maxRecDepth 100000 in
theorem cn_228_ok : c_chk cs_at 2 none kt_61 4000 cn_228 = true := sorry
set_option maxRecDepth 100000 in
theorem cn_229_ok : c_chk cs_at 2 none kt_61 4000 cn_229 = true := sorry
set_option maxRecDepth 100000 in
theorem cn_230_ok : c_chk cs_at 2 none kt_61 4000 cn_230 = true := sorry
set_option maxRecDepth 100000 in
theorem cn_231_ok : c_chk cs_at 2 none kt_61 4000 cn_231 = true := sorry
set_option maxRecDepth 100000 in
theorem cn_232_ok : c_chk cs_at 2 none kt_61 4000 cn_232 = true := sorry
set_option maxRecDepth 100000 in
theorem cn_233_ok : c_chk cs_at 2 none kt_61 4000 cn_233 = true := sorry
set_option maxRecDepth 100000 in
theorem cn_234_ok : c_chk cs_at 2 none kt_61 4000 cn_234 = true := sorry
set_option maxRecDepth 100000 in
theorem cn_235_ok : c_chk cs_at 2 none kt_61 4000 cn_235 = true := sorry
set_option maxRecDepth 100000 in
theorem cn_236_ok : c_chk cs_at 2 none kt_61 4000 cn_236 = true := sorry
set_option maxRecDepth 100000 in
theorem cn_237_ok : c_chk cs_at 2 none kt_61 4000 cn_237 = true := sorry
set_option maxRecDepth 100000 in
theorem cn_238_ok : c_chk cs_at 2 none kt_61 4000 cn_238 = true := sorry
set_option maxRecDepth 100000 in
theorem cn_239_ok : c_chk cs_at 2 none kt_61 4000 cn_239 = true := sorry
set_option maxRecDepth 100000 in
theorem cn_240_ok : c_chk cs_at 2 none kt_61 4000 cn_240 = true := sorry
set_option maxRecDepth 100000 in
theorem cn_241_ok : c_chk cs_at 2 none kt_61 4000 cn_241 = true := sorry
set_option maxRecDepth 100000 in
theorem cn_242_ok : c_chk cs_at 2 none kt_61 4000 cn_242 = true := sorry
set_option maxRecDepth 100000 in
theorem cn_243_ok : c_chk cs_at 2 none kt_61 4000 cn_243 = true := sorry
set_option maxRecDepth 100000 in
theorem cn_244_ok : c_chk cs_at 2 none kt_61 4000 cn_244 = true := sorry
set_option maxRecDepth 100000 in
theorem cn_245_ok : c_chk cs_at 2 none kt_61 4000 cn_245 = true := sorry
set_option maxRecDepth 100000 in
theorem cn_246_ok : c_chk cs_at 2 none kt_61 4000 cn_246 = true := sorry
set_option maxRecDepth 100000 in
theorem cn_247_ok : c_chk cs_at 2 none kt_61 4000 cn_247 = true := sorry
set_option maxRecDepth 100000 in
theorem cn_248_ok : c_chk cs_at 2 none kt_61 4000 cn_248 = true := sorry
set_option maxRecDepth 100000 in
theorem cn_249_ok : c_chk cs_at 2 none kt_61 4000 cn_249 = true := sorry
set_option maxRecDepth 100000 in
theorem cn_250_ok : c_chk cs_at 2 none kt_61 4000 cn_250 = true := sorry
set_option maxRecDepth 100000 in
theorem cn_251_ok : c_chk cs_at 2 none kt_61 4000 cn_251 = true := sorry
set_option maxRecDepth 100000 in
theorem cn_252_ok : c_chk cs_at 2 none kt_61 4000 cn_252 = true := sorry
set_option maxRecDepth 100000 in
theorem cn_253_ok : c_chk cs_at 2 none kt_61 4000 cn_253 = true := sorry
set_option maxRecDepth 100000 in
theorem cn_254_ok : c_chk cs_at 2 none kt_61 4000 cn_254 = true := sorry
set_option maxRecDepth 100000 in
theorem cn_255_ok : c_chk cs_at 2 none kt_61 4000 cn_255 = true := sorry
set_option maxRecDepth 100000 in
theorem cn_256_ok : c_chk cs_at 2 none kt_61 4000 cn_256 = true := sorry
set_option maxRecDepth 100000 in
theorem cn_257_ok : c_chk cs_at 2 none kt_61 4000 cn_257 = true := sorry
set_option maxRecDepth 100000 in
theorem cn_258_ok : c_chk cs_at 2 none kt_61 4000 cn_258 = true := sorry
set_option maxRecDepth 100000 in
theorem cn_259_ok : c_chk cs_at 2 none kt_61 4000 cn_259 = true := sorry
set_option maxRecDepth 100000 in
theorem cn_260_ok : c_chk cs_at 2 none kt_61 4000 cn_260 = true := sorry
set_option maxRecDepth 100000 in
theorem cn_261_ok : c_chk cs_at 2 none kt_61 4000 cn_261 = true := sorry
set_option maxRecDepth 100000 in
theorem cn_262_ok : c_chk cs_at 2 none kt_61 4000 cn_262 = true := sorry
set_option maxRecDepth 100000 in
theorem cn_263_ok : c_chk cs_at 2 none kt_61 4000 cn_263 = true := sorry
set_option maxRecDepth 100000 in
theorem cn_264_ok : c_chk cs_at 2 none kt_61 4000 cn_264 = true := sorry
set_option maxRecDepth 100000 in
theorem cn_265_ok : c_chk cs_at 2 none kt_61 4000 cn_265 = true := sorry
set_option maxRecDepth 100000 in
theorem cn_266_ok : c_chk cs_at 2 none kt_61 4000 cn_266 = true := sorry
set_option maxRecDepth 100000 in
theorem cn_267_ok : c_chk cs_at 2 none kt_61 4000 cn_267 = true := sorry
set_option maxRecDepth 100000 in
theorem cn_268_ok : c_chk cs_at 2 none kt_61 4000 cn_268 = true := sorry
set_option maxRecDepth 100000 in
theorem cn_344_ok : c_chk cs_at 3 (some FieldType.int) kt_62 4000 cn_344 = true := sorry
set_option maxRecDepth 100000 in
theorem cn_123_ok : c_chk cs_at 2 (some FieldType.int) kt_63 4000 cn_123 = true := sorry
set_option maxRecDepth 100000 in
theorem cn_405_ok : c_chk cs_at 1 (some FieldType.int) kt_64 4000 cn_405 = true := sorry
set_option maxRecDepth 100000 in
theorem cn_378_ok : c_chk cs_at 2 (some FieldType.int) kt_65 4000 cn_378 = true := sorry
set_option maxRecDepth 100000 in
theorem cn_8_ok : c_chk cs_at 1 none kt_66 4000 cn_8 = true := sorry
set_option maxRecDepth 100000 in
theorem cn_347_ok : c_chk cs_at 4 none kt_67 4000 cn_347 = true := sorry
set_option maxRecDepth 100000 in
theorem cn_348_ok : c_chk cs_at 4 none kt_67 4000 cn_348 = true := sorry
set_option maxRecDepth 100000 in
theorem cn_349_ok : c_chk cs_at 4 none kt_67 4000 cn_349 = true := sorry
set_option maxRecDepth 100000 in
theorem cn_350_ok : c_chk cs_at 4 none kt_67 4000 cn_350 = true := sorry
set_option maxRecDepth 100000 in
theorem cn_351_ok : c_chk cs_at 4 none kt_67 4000 cn_351 = true := sorry
set_option maxRecDepth 100000 in
theorem cn_352_ok : c_chk cs_at 4 none kt_67 4000 cn_352 = true := sorry
set_option maxRecDepth 100000 in
theorem cn_353_ok : c_chk cs_at 4 none kt_67 4000 cn_353 = true := sorry
set_option maxRecDepth 100000 in
theorem cn_354_ok : c_chk cs_at 4 none kt_67 4000 cn_354 = true := sorry
set_option maxRecDepth 100000 in
theorem cn_355_ok : c_chk cs_at 4 none kt_67 4000 cn_355 = true := sorry
set_option maxRecDepth 100000 in
theorem cn_356_ok : c_chk cs_at 4 none kt_67 4000 cn_356 = true := sorry
set_option maxRecDepth 100000 in
theorem cn_357_ok : c_chk cs_at 4 none kt_67 4000 cn_357 = true := sorry
set_option maxRecDepth 100000 in
theorem cn_358_ok : c_chk cs_at 4 none kt_67 4000 cn_358 = true := sorry
set_option maxRecDepth 100000 in
theorem cn_359_ok : c_chk cs_at 4 none kt_67 4000 cn_359 = true := sorry
set_option maxRecDepth 100000 in
theorem cn_360_ok : c_chk cs_at 4 none kt_67 4000 cn_360 = true := sorry
set_option maxRecDepth 100000 in
theorem cn_361_ok : c_chk cs_at 4 none kt_67 4000 cn_361 = true := sorry
set_option maxRecDepth 100000 in
theorem cn_297_ok : c_chk cs_at 6 none kt_68 4000 cn_297 = true := sorry
set_option maxRecDepth 100000 in
theorem cn_298_ok : c_chk cs_at 6 none kt_68 4000 cn_298 = true := sorry
set_option maxRecDepth 100000 in
theorem cn_299_ok : c_chk cs_at 6 none kt_68 4000 cn_299 = true := sorry
set_option maxRecDepth 100000 in
theorem cn_300_ok : c_chk cs_at 6 none kt_68 4000 cn_300 = true := sorry
set_option maxRecDepth 100000 in
theorem cn_301_ok : c_chk cs_at 6 none kt_68 4000 cn_301 = true := sorry
set_option maxRecDepth 100000 in
theorem cn_302_ok : c_chk cs_at 6 none kt_68 4000 cn_302 = true := sorry
set_option maxRecDepth 100000 in
theorem cn_303_ok : c_chk cs_at 6 none kt_68 4000 cn_303 = true := sorry
set_option maxRecDepth 100000 in
theorem cn_304_ok : c_chk cs_at 6 none kt_68 4000 cn_304 = true := sorry
set_option maxRecDepth 100000 in
theorem cn_305_ok : c_chk cs_at 6 none kt_68 4000 cn_305 = true := sorry
set_option maxRecDepth 100000 in
theorem cn_306_ok : c_chk cs_at 6 none kt_68 4000 cn_306 = true := sorry
set_option maxRecDepth 100000 in
theorem cn_307_ok : c_chk cs_at 6 none kt_68 4000 cn_307 = true := sorry
set_option maxRecDepth 100000 in
theorem cn_308_ok : c_chk cs_at 6 none kt_68 4000 cn_308 = true := sorry
set_option maxRecDepth 100000 in
theorem cn_309_ok : c_chk cs_at 6 none kt_68 4000 cn_309 = true := sorry
set_option maxRecDepth 100000 in
theorem cn_310_ok : c_chk cs_at 6 none kt_68 4000 cn_310 = true := sorry
set_option maxRecDepth 100000 in
theorem cn_311_ok : c_chk cs_at 6 none kt_68 4000 cn_311 = true := sorry
set_option maxRecDepth 100000 in
theorem cn_312_ok : c_chk cs_at 6 none kt_68 4000 cn_312 = true := sorry
set_option maxRecDepth 100000 in
theorem cn_313_ok : c_chk cs_at 6 none kt_68 4000 cn_313 = true := sorry
set_option maxRecDepth 100000 in
theorem cn_177_ok : c_chk cs_at 5 none kt_69 4000 cn_177 = true := sorry
set_option maxRecDepth 100000 in
theorem cn_178_ok : c_chk cs_at 5 none kt_69 4000 cn_178 = true := sorry
set_option maxRecDepth 100000 in
theorem cn_179_ok : c_chk cs_at 5 none kt_69 4000 cn_179 = true := sorry
set_option maxRecDepth 100000 in
theorem cn_180_ok : c_chk cs_at 5 none kt_69 4000 cn_180 = true := sorry
set_option maxRecDepth 100000 in
theorem cn_181_ok : c_chk cs_at 5 none kt_69 4000 cn_181 = true := sorry
set_option maxRecDepth 100000 in
theorem cn_182_ok : c_chk cs_at 5 none kt_69 4000 cn_182 = true := sorry
set_option maxRecDepth 100000 in
theorem cn_183_ok : c_chk cs_at 5 none kt_69 4000 cn_183 = true := sorry
set_option maxRecDepth 100000 in
theorem cn_184_ok : c_chk cs_at 5 none kt_69 4000 cn_184 = true := sorry
set_option maxRecDepth 100000 in
theorem cn_185_ok : c_chk cs_at 5 none kt_69 4000 cn_185 = true := sorry
set_option maxRecDepth 100000 in
theorem cn_186_ok : c_chk cs_at 5 none kt_69 4000 cn_186 = true := sorry
set_option maxRecDepth 100000 in
theorem cn_187_ok : c_chk cs_at 5 none kt_69 4000 cn_187 = true := sorry
set_option maxRecDepth 100000 in
theorem cn_188_ok : c_chk cs_at 5 none kt_69 4000 cn_188 = true := sorry
set_option maxRecDepth 100000 in
theorem cn_189_ok : c_chk cs_at 5 none kt_69 4000 cn_189 = true := sorry
set_option maxRecDepth 100000 in
theorem cn_190_ok : c_chk cs_at 5 none kt_69 4000 cn_190 = true := sorry
set_option maxRecDepth 100000 in
theorem cn_191_ok : c_chk cs_at 5 none kt_69 4000 cn_191 = true := sorry
set_option maxRecDepth 100000 in
theorem cn_192_ok : c_chk cs_at 5 none kt_69 4000 cn_192 = true := sorry
set_option maxRecDepth 100000 in
theorem cn_193_ok : c_chk cs_at 5 none kt_69 4000 cn_193 = true := sorry
set_option maxRecDepth 100000 in
theorem cn_12_ok : c_chk cs_at 4 (some FieldType.int) kt_70 4000 cn_12 = true := sorry
set_option maxRecDepth 100000 in
theorem cn_204_ok : c_chk cs_at 11 (some FieldType.int) kt_71 4000 cn_204 = true := sorry
set_option maxRecDepth 100000 in
theorem cn_21_ok : c_chk cs_at 3 (some FieldType.int) kt_72 4000 cn_21 = true := sorry
set_option maxRecDepth 100000 in
theorem cn_126_ok : c_chk cs_at 5 none kt_73 4000 cn_126 = true := sorry
set_option maxRecDepth 100000 in
theorem cn_127_ok : c_chk cs_at 5 none kt_73 4000 cn_127 = true := sorry
set_option maxRecDepth 100000 in
theorem cn_128_ok : c_chk cs_at 5 none kt_73 4000 cn_128 = true := sorry
set_option maxRecDepth 100000 in
theorem cn_129_ok : c_chk cs_at 5 none kt_73 4000 cn_129 = true := sorry
set_option maxRecDepth 100000 in
theorem cn_130_ok : c_chk cs_at 5 none kt_73 4000 cn_130 = true := sorry
set_option maxRecDepth 100000 in
theorem cn_131_ok : c_chk cs_at 5 none kt_73 4000 cn_131 = true := sorry
set_option maxRecDepth 100000 in
theorem cn_132_ok : c_chk cs_at 5 none kt_73 4000 cn_132 = true := sorry
set_option maxRecDepth 100000 in
theorem cn_133_ok : c_chk cs_at 5 none kt_73 4000 cn_133 = true := sorry
set_option maxRecDepth 100000 in
theorem cn_134_ok : c_chk cs_at 5 none kt_73 4000 cn_134 = true := sorry
set_option maxRecDepth 100000 in
theorem cn_135_ok : c_chk cs_at 5 none kt_73 4000 cn_135 = true := sorry
set_option maxRecDepth 100000 in
theorem cn_136_ok : c_chk cs_at 5 none kt_73 4000 cn_136 = true := sorry
set_option maxRecDepth 100000 in
theorem cn_137_ok : c_chk cs_at 5 none kt_73 4000 cn_137 = true := sorry
set_option maxRecDepth 100000 in
theorem cn_138_ok : c_chk cs_at 5 none kt_73 4000 cn_138 = true := sorry
set_option maxRecDepth 100000 in
theorem cn_139_ok : c_chk cs_at 5 none kt_73 4000 cn_139 = true := sorry
set_option maxRecDepth 100000 in
theorem cn_140_ok : c_chk cs_at 5 none kt_73 4000 cn_140 = true := sorry
set_option maxRecDepth 100000 in
theorem cn_141_ok : c_chk cs_at 5 none kt_73 4000 cn_141 = true := sorry
set_option maxRecDepth 100000 in
theorem cn_142_ok : c_chk cs_at 5 none kt_73 4000 cn_142 = true := sorry
set_option maxRecDepth 100000 in
theorem cn_160_ok : c_chk cs_at 4 none kt_74 4000 cn_160 = true := sorry
set_option maxRecDepth 100000 in
theorem cn_161_ok : c_chk cs_at 4 none kt_74 4000 cn_161 = true := sorry
set_option maxRecDepth 100000 in
theorem cn_162_ok : c_chk cs_at 4 none kt_74 4000 cn_162 = true := sorry
set_option maxRecDepth 100000 in
theorem cn_163_ok : c_chk cs_at 4 none kt_74 4000 cn_163 = true := sorry
set_option maxRecDepth 100000 in
theorem cn_164_ok : c_chk cs_at 4 none kt_74 4000 cn_164 = true := sorry
set_option maxRecDepth 100000 in
theorem cn_165_ok : c_chk cs_at 4 none kt_74 4000 cn_165 = true := sorry
set_option maxRecDepth 100000 in
theorem cn_166_ok : c_chk cs_at 4 none kt_74 4000 cn_166 = true := sorry
set_option maxRecDepth 100000 in
theorem cn_167_ok : c_chk cs_at 4 none kt_74 4000 cn_167 = true := sorry
set_option maxRecDepth 100000 in
theorem cn_168_ok : c_chk cs_at 4 none kt_74 4000 cn_168 = true := sorry
set_option maxRecDepth 100000 in
theorem cn_169_ok : c_chk cs_at 4 none kt_74 4000 cn_169 = true := sorry
set_option maxRecDepth 100000 in
theorem cn_170_ok : c_chk cs_at 4 none kt_74 4000 cn_170 = true := sorry
set_option maxRecDepth 100000 in
theorem cn_171_ok : c_chk cs_at 4 none kt_74 4000 cn_171 = true := sorry
set_option maxRecDepth 100000 in
theorem cn_172_ok : c_chk cs_at 4 none kt_74 4000 cn_172 = true := sorry
set_option maxRecDepth 100000 in
theorem cn_173_ok : c_chk cs_at 4 none kt_74 4000 cn_173 = true := sorry
set_option maxRecDepth 100000 in
theorem cn_174_ok : c_chk cs_at 4 none kt_74 4000 cn_174 = true := sorry
set_option maxRecDepth 100000 in
theorem cn_175_ok : c_chk cs_at 4 none kt_74 4000 cn_175 = true := sorry
set_option maxRecDepth 100000 in
theorem cn_176_ok : c_chk cs_at 4 none kt_74 4000 cn_176 = true := sorry
set_option maxRecDepth 100000 in
theorem cn_143_ok : c_chk cs_at 5 none kt_75 4000 cn_143 = true := sorry
set_option maxRecDepth 100000 in
theorem cn_144_ok : c_chk cs_at 5 none kt_75 4000 cn_144 = true := sorry
set_option maxRecDepth 100000 in
theorem cn_145_ok : c_chk cs_at 5 none kt_75 4000 cn_145 = true := sorry
set_option maxRecDepth 100000 in
theorem cn_146_ok : c_chk cs_at 5 none kt_75 4000 cn_146 = true := sorry
set_option maxRecDepth 100000 in
theorem cn_147_ok : c_chk cs_at 5 none kt_75 4000 cn_147 = true := sorry
set_option maxRecDepth 100000 in
theorem cn_148_ok : c_chk cs_at 5 none kt_75 4000 cn_148 = true := sorry
set_option maxRecDepth 100000 in
theorem cn_149_ok : c_chk cs_at 5 none kt_75 4000 cn_149 = true := sorry
set_option maxRecDepth 100000 in
theorem cn_150_ok : c_chk cs_at 5 none kt_75 4000 cn_150 = true := sorry
set_option maxRecDepth 100000 in
theorem cn_151_ok : c_chk cs_at 5 none kt_75 4000 cn_151 = true := sorry
set_option maxRecDepth 100000 in
theorem cn_152_ok : c_chk cs_at 5 none kt_75 4000 cn_152 = true := sorry
set_option maxRecDepth 100000 in
theorem cn_153_ok : c_chk cs_at 5 none kt_75 4000 cn_153 = true := sorry
set_option maxRecDepth 100000 in
theorem cn_154_ok : c_chk cs_at 5 none kt_75 4000 cn_154 = true := sorry
set_option maxRecDepth 100000 in
theorem cn_155_ok : c_chk cs_at 5 none kt_75 4000 cn_155 = true := sorry
set_option maxRecDepth 100000 in
theorem cn_156_ok : c_chk cs_at 5 none kt_75 4000 cn_156 = true := sorry
set_option maxRecDepth 100000 in
theorem cn_157_ok : c_chk cs_at 5 none kt_75 4000 cn_157 = true := sorry
set_option maxRecDepth 100000 in
theorem cn_158_ok : c_chk cs_at 5 none kt_75 4000 cn_158 = true := sorry
set_option maxRecDepth 100000 in
theorem cn_159_ok : c_chk cs_at 5 none kt_75 4000 cn_159 = true := sorry
set_option maxRecDepth 100000 in
theorem cn_294_ok : c_chk cs_at 7 none kt_76 4000 cn_294 = true := sorry
set_option maxRecDepth 100000 in
theorem cn_124_ok : c_chk cs_at 5 none kt_77 4000 cn_124 = true := sorry
set_option maxRecDepth 100000 in
theorem cn_7_ok : c_chk cs_at 1 none kt_78 4000 cn_7 = true := sorry
set_option maxRecDepth 100000 in
theorem cn_1_ok : c_chk cs_at 3 none kt_79 4000 cn_1 = true := sorry
set_option maxRecDepth 100000 in
theorem cn_406_ok : c_chk cs_at 2 (some FieldType.int) kt_80 4000 cn_406 = true := sorry
set_option maxRecDepth 100000 in
theorem cn_343_ok : c_chk cs_at 3 (some FieldType.int) kt_81 4000 cn_343 = true := sorry
set_option maxRecDepth 100000 in
theorem cn_411_ok : c_chk cs_at 3 (some FieldType.int) kt_82 4000 cn_411 = true := sorry
set_option maxRecDepth 100000 in
theorem cn_395_ok : c_chk cs_at 2 (some FieldType.boolean) kt_83 4000 cn_395 = true := sorry
set_option maxRecDepth 100000 in
theorem cn_371_ok : c_chk cs_at 3 (some FieldType.boolean) kt_84 4000 cn_371 = true := sorry
set_option maxRecDepth 100000 in
theorem cn_325_ok : c_chk cs_at 4 (some FieldType.boolean) kt_85 4000 cn_325 = true := sorry
set_option maxRecDepth 100000 in
theorem cn_382_ok : c_chk cs_at 4 (some FieldType.boolean) kt_86 4000 cn_382 = true := sorry
set_option maxRecDepth 100000 in
theorem cn_345_ok : c_chk cs_at 1 (some FieldType.int) kt_87 4000 cn_345 = true := sorry
set_option maxRecDepth 100000 in
theorem cn_320_ok : c_chk cs_at 2 (some FieldType.boolean) kt_88 4000 cn_320 = true := sorry
set_option maxRecDepth 100000 in
theorem cn_410_ok : c_chk cs_at 3 (some FieldType.int) kt_89 4000 cn_410 = true := sorry
set_option maxRecDepth 100000 in
theorem cn_379_ok : c_chk cs_at 2 none kt_90 4000 cn_379 = true := sorry
set_option maxRecDepth 100000 in
theorem cn_377_ok : c_chk cs_at 4 (some FieldType.int) kt_91 4000 cn_377 = true := sorry
set_option maxRecDepth 100000 in
theorem cn_197_ok : c_chk cs_at 4 (some FieldType.int) kt_92 4000 cn_197 = true := sorry
set_option maxRecDepth 100000 in
theorem cn_198_ok : c_chk cs_at 4 (some FieldType.int) kt_92 4000 cn_198 = true := sorry
set_option maxRecDepth 100000 in
theorem cn_199_ok : c_chk cs_at 4 (some FieldType.int) kt_92 4000 cn_199 = true := sorry
set_option maxRecDepth 100000 in
theorem cn_200_ok : c_chk cs_at 4 (some FieldType.int) kt_92 4000 cn_200 = true := sorry
set_option maxRecDepth 100000 in
theorem cn_4_ok : c_chk cs_at 2 (some FieldType.int) kt_93 4000 cn_4 = true := sorry
set_option maxRecDepth 100000 in
theorem cn_403_ok : c_chk cs_at 4 (some FieldType.int) kt_94 4000 cn_403 = true := sorry
set_option maxRecDepth 100000 in
theorem cn_402_ok : c_chk cs_at 3 (some FieldType.int) kt_95 4000 cn_402 = true := sorry
set_option maxRecDepth 100000 in
theorem cn_388_ok : c_chk cs_at 3 (some FieldType.int) kt_96 4000 cn_388 = true := sorry
set_option maxRecDepth 100000 in
theorem cn_363_ok : c_chk cs_at 6 (some FieldType.int) kt_97 4000 cn_363 = true := sorry
set_option maxRecDepth 100000 in
theorem cn_364_ok : c_chk cs_at 6 (some FieldType.int) kt_97 4000 cn_364 = true := sorry
set_option maxRecDepth 100000 in
theorem cn_365_ok : c_chk cs_at 6 (some FieldType.int) kt_97 4000 cn_365 = true := sorry
set_option maxRecDepth 100000 in
theorem cn_435_ok : c_chk cs_at 2 (some FieldType.int) kt_98 4000 cn_435 = true := sorry
set_option maxRecDepth 100000 in
theorem cn_201_ok : c_chk cs_at 2 (some FieldType.int) kt_99 4000 cn_201 = true := sorry
set_option maxRecDepth 100000 in
theorem cn_13_ok : c_chk cs_at 5 (some FieldType.int) kt_100 4000 cn_13 = true := sorry
set_option maxRecDepth 100000 in
theorem cn_99_ok : c_chk cs_at 1 (some FieldType.int) kt_101 4000 cn_99 = true := sorry
set_option maxRecDepth 100000 in
theorem cn_431_ok : c_chk cs_at 5 none kt_102 4000 cn_431 = true := sorry
set_option maxRecDepth 100000 in
theorem cn_391_ok : c_chk cs_at 3 none kt_103 4000 cn_391 = true := sorry
set_option maxRecDepth 100000 in
theorem cn_317_ok : c_chk cs_at 6 (some FieldType.boolean) kt_104 4000 cn_317 = true := sorry
set_option maxRecDepth 100000 in
theorem cn_16_ok : c_chk cs_at 2 (some FieldType.int) kt_105 4000 cn_16 = true := sorry
set_option maxRecDepth 100000 in
theorem cn_318_ok : c_chk cs_at 5 none kt_106 4000 cn_318 = true := sorry
set_option maxRecDepth 100000 in
theorem cn_370_ok : c_chk cs_at 5 none kt_106 4000 cn_370 = true := sorry
set_option maxRecDepth 100000 in
theorem cn_390_ok : c_chk cs_at 5 none kt_106 4000 cn_390 = true := sorry
set_option maxRecDepth 100000 in
theorem cn_412_ok : c_chk cs_at 5 none kt_106 4000 cn_412 = true := sorry
set_option maxRecDepth 100000 in
theorem cn_425_ok : c_chk cs_at 5 none kt_106 4000 cn_425 = true := sorry
set_option maxRecDepth 100000 in
theorem cn_202_ok : c_chk cs_at 4 none kt_107 4000 cn_202 = true := sorry
set_option maxRecDepth 100000 in
theorem cn_125_ok : c_chk cs_at 2 none kt_108 4000 cn_125 = true := sorry
set_option maxRecDepth 100000 in
theorem cn_436_ok : c_chk cs_at 2 (some FieldType.int) kt_109 4000 cn_436 = true := sorry
set_option maxRecDepth 100000 in
theorem cn_441_ok : c_chk cs_at 3 (some FieldType.int) kt_110 4000 cn_441 = true := sorry
set_option maxRecDepth 100000 in
theorem cn_438_ok : c_chk cs_at 7 (some FieldType.boolean) kt_111 4000 cn_438 = true := sorry
set_option maxRecDepth 100000 in
theorem cn_392_ok : c_chk cs_at 5 (some FieldType.boolean) kt_112 4000 cn_392 = true := sorry
set_option maxRecDepth 100000 in
theorem cn_413_ok : c_chk cs_at 5 (some FieldType.boolean) kt_112 4000 cn_413 = true := sorry
set_option maxRecDepth 100000 in
theorem cn_426_ok : c_chk cs_at 5 (some FieldType.boolean) kt_112 4000 cn_426 = true := sorry
set_option maxRecDepth 100000 in
theorem cn_432_ok : c_chk cs_at 5 (some FieldType.boolean) kt_112 4000 cn_432 = true := sorry
set_option maxRecDepth 100000 in
theorem cn_208_ok : c_chk cs_at 5 (some FieldType.boolean) kt_113 4000 cn_208 = true := sorry
set_option maxRecDepth 100000 in
theorem cn_117_ok : c_chk cs_at 3 (some FieldType.int) kt_114 4000 cn_117 = true := sorry
set_option maxRecDepth 100000 in
theorem cn_401_ok : c_chk cs_at 5 (some FieldType.int) kt_115 4000 cn_401 = true := sorry
set_option maxRecDepth 100000 in
theorem cn_409_ok : c_chk cs_at 4 (some FieldType.int) kt_116 4000 cn_409 = true := sorry
set_option maxRecDepth 100000 in
theorem cn_387_ok : c_chk cs_at 3 (some FieldType.int) kt_117 4000 cn_387 = true := sorry
set_option maxRecDepth 100000 in
theorem cn_362_ok : c_chk cs_at 4 (some FieldType.int) kt_118 4000 cn_362 = true := sorry
set_option maxRecDepth 100000 in
theorem cn_194_ok : c_chk cs_at 6 (some FieldType.int) kt_119 4000 cn_194 = true := sorry
set_option maxRecDepth 100000 in
theorem cn_296_ok : c_chk cs_at 5 (some FieldType.int) kt_120 4000 cn_296 = true := sorry
set_option maxRecDepth 100000 in
theorem cn_314_ok : c_chk cs_at 3 (some FieldType.int) kt_121 4000 cn_314 = true := sorry
set_option maxRecDepth 100000 in
theorem cn_295_ok : c_chk cs_at 12 none kt_122 4000 cn_295 = true := sorry
set_option maxRecDepth 100000 in
theorem cn_376_ok : c_chk cs_at 5 (some FieldType.int) kt_123 4000 cn_376 = true := sorry
set_option maxRecDepth 100000 in
theorem cn_385_ok : c_chk cs_at 7 (some FieldType.int) kt_125 4000 cn_385 = true := sorry
set_option maxRecDepth 100000 in
theorem cn_408_ok : c_chk cs_at 5 (some FieldType.int) kt_126 4000 cn_408 = true := sorry
set_option maxRecDepth 100000 in
theorem cn_386_ok : c_chk cs_at 9 none kt_127 4000 cn_386 = true := sorry
set_option maxRecDepth 100000 in
theorem cn_116_ok : c_chk cs_at 2 (some FieldType.int) kt_128 4000 cn_116 = true := sorry
set_option maxRecDepth 100000 in
theorem cn_460_ok : c_chk cs_at 3 (some FieldType.int) kt_129 4000 cn_460 = true := sorry
set_option maxRecDepth 100000 in
theorem cn_458_ok : c_chk cs_at 3 none kt_130 4000 cn_458 = true := sorry
set_option maxRecDepth 100000 in
theorem cn_269_ok : c_chk cs_at 8 none kt_131 4000 cn_269 = true := sorry
set_option maxRecDepth 100000 in
theorem cn_414_ok : c_chk cs_at 8 none kt_131 4000 cn_414 = true := sorry
set_option maxRecDepth 100000 in
theorem cn_433_ok : c_chk cs_at 8 none kt_131 4000 cn_433 = true := sorry
set_option maxRecDepth 100000 in
theorem cn_443_ok : c_chk cs_at 8 none kt_131 4000 cn_443 = true := sorry
set_option maxRecDepth 100000 in
theorem cn_449_ok : c_chk cs_at 8 none kt_131 4000 cn_449 = true := sorry
set_option maxRecDepth 100000 in
theorem cn_455_ok : c_chk cs_at 8 none kt_131 4000 cn_455 = true := sorry
set_option maxRecDepth 100000 in
theorem cn_393_ok : c_chk cs_at 5 none kt_132 4000 cn_393 = true := sorry
set_option maxRecDepth 100000 in
theorem cn_427_ok : c_chk cs_at 5 none kt_132 4000 cn_427 = true := sorry
set_option maxRecDepth 100000 in
theorem cn_439_ok : c_chk cs_at 5 none kt_132 4000 cn_439 = true := sorry
set_option maxRecDepth 100000 in
theorem cn_446_ok : c_chk cs_at 5 none kt_132 4000 cn_446 = true := sorry
set_option maxRecDepth 100000 in
theorem cn_452_ok : c_chk cs_at 5 none kt_132 4000 cn_452 = true := sorry
set_option maxRecDepth 100000 in
theorem cn_404_ok : c_chk cs_at 6 (some FieldType.int) kt_133 4000 cn_404 = true := sorry
set_option maxRecDepth 100000 in
theorem cn_380_ok : c_chk cs_at 3 (some FieldType.int) kt_134 4000 cn_380 = true := sorry
set_option maxRecDepth 100000 in
theorem cn_383_ok : c_chk cs_at 10 (some FieldType.int) kt_135 4000 cn_383 = true := sorry
set_option maxRecDepth 100000 in
theorem cn_340_ok : c_chk cs_at 10 (some FieldType.int) kt_136 4000 cn_340 = true := sorry
set_option maxRecDepth 100000 in
theorem cn_346_ok : c_chk cs_at 4 (some FieldType.int) kt_137 4000 cn_346 = true := sorry
set_option maxRecDepth 100000 in
theorem cn_474_ok : c_chk cs_at 3 (some FieldType.int) kt_138 4000 cn_474 = true := sorry
set_option maxRecDepth 100000 in
theorem cn_472_ok : c_chk cs_at 5 none kt_139 4000 cn_472 = true := sorry
set_option maxRecDepth 100000 in
theorem cn_32_ok : c_chk cs_at 4 none kt_140 4000 cn_32 = true := sorry
set_option maxRecDepth 100000 in
theorem cn_415_ok : c_chk cs_at 4 none kt_140 4000 cn_415 = true := sorry
set_option maxRecDepth 100000 in
theorem cn_434_ok : c_chk cs_at 4 none kt_140 4000 cn_434 = true := sorry
set_option maxRecDepth 100000 in
theorem cn_444_ok : c_chk cs_at 4 none kt_140 4000 cn_444 = true := sorry
set_option maxRecDepth 100000 in
theorem cn_450_ok : c_chk cs_at 4 none kt_140 4000 cn_450 = true := sorry
set_option maxRecDepth 100000 in
theorem cn_456_ok : c_chk cs_at 4 none kt_140 4000 cn_456 = true := sorry
set_option maxRecDepth 100000 in
theorem cn_462_ok : c_chk cs_at 4 none kt_140 4000 cn_462 = true := sorry
set_option maxRecDepth 100000 in
theorem cn_466_ok : c_chk cs_at 4 none kt_140 4000 cn_466 = true := sorry
set_option maxRecDepth 100000 in
theorem cn_470_ok : c_chk cs_at 4 none kt_140 4000 cn_470 = true := sorry
set_option maxRecDepth 100000 in
theorem cn_394_ok : c_chk cs_at 6 none kt_141 4000 cn_394 = true := sorry
set_option maxRecDepth 100000 in
theorem cn_428_ok : c_chk cs_at 6 none kt_141 4000 cn_428 = true := sorry
set_option maxRecDepth 100000 in
theorem cn_440_ok : c_chk cs_at 6 none kt_141 4000 cn_440 = true := sorry
set_option maxRecDepth 100000 in
theorem cn_447_ok : c_chk cs_at 6 none kt_141 4000 cn_447 = true := sorry
set_option maxRecDepth 100000 in
theorem cn_453_ok : c_chk cs_at 6 none kt_141 4000 cn_453 = true := sorry
set_option maxRecDepth 100000 in
theorem cn_459_ok : c_chk cs_at 6 none kt_141 4000 cn_459 = true := sorry
set_option maxRecDepth 100000 in
theorem cn_464_ok : c_chk cs_at 6 none kt_141 4000 cn_464 = true := sorry
set_option maxRecDepth 100000 in
theorem cn_468_ok : c_chk cs_at 6 none kt_141 4000 cn_468 = true := sorry
set_option maxRecDepth 100000 in
theorem cn_33_ok : c_chk cs_at 4 (some FieldType.long) kt_142 4000 cn_33 = true := sorry
set_option maxRecDepth 100000 in
theorem cn_473_ok : c_chk cs_at 4 (some FieldType.int) kt_143 4000 cn_473 = true := sorry
set_option maxRecDepth 100000 in
theorem cn_384_ok : c_chk cs_at 5 (some FieldType.int) kt_144 4000 cn_384 = true := sorry
set_option maxRecDepth 100000 in
theorem cn_10_ok : c_chk cs_at 2 none kt_145 4000 cn_10 = true := sorry
set_option maxRecDepth 100000 in
theorem cn_5_ok : c_chk cs_at 1 (some FieldType.int) kt_146 4000 cn_5 = true := sorry
set_option maxRecDepth 100000 in
theorem cn_3_ok : c_chk cs_at 2 (some FieldType.int) kt_147 4000 cn_3 = true := sorry
set_option maxRecDepth 100000 in
theorem cn_9_ok : c_chk cs_at 2 none kt_148 4000 cn_9 = true := sorry
set_option maxRecDepth 100000 in
theorem cn_11_ok : c_chk cs_at 3 (some FieldType.int) kt_149 4000 cn_11 = true := sorry
set_option maxRecDepth 100000 in
theorem cn_341_ok : c_chk cs_at 2 (some FieldType.boolean) kt_150 4000 cn_341 = true := sorry
set_option maxRecDepth 100000 in
theorem cn_321_ok : c_chk cs_at 4 (some FieldType.boolean) kt_151 4000 cn_321 = true := sorry
set_option maxRecDepth 100000 in
theorem cn_339_ok : c_chk cs_at 2 (some FieldType.boolean) kt_152 4000 cn_339 = true := sorry
set_option maxRecDepth 100000 in
theorem cn_319_ok : c_chk cs_at 4 (some FieldType.boolean) kt_153 4000 cn_319 = true := sorry
set_option maxRecDepth 100000 in
theorem cn_292_ok : c_chk cs_at 2 (some FieldType.int) kt_154 4000 cn_292 = true := sorry
set_option maxRecDepth 100000 in
theorem cn_17_ok : c_chk cs_at 4 (some FieldType.int) kt_157 4000 cn_17 = true := sorry
set_option maxRecDepth 100000 in
theorem cn_92_ok : c_chk cs_at 3 (some FieldType.int) kt_160 4000 cn_92 = true := sorry
set_option maxRecDepth 100000 in
theorem cn_271_ok : c_chk cs_at 2 (some FieldType.boolean) kt_161 4000 cn_271 = true := sorry
set_option maxRecDepth 100000 in
theorem cn_43_ok : c_chk cs_at 3 (some FieldType.boolean) kt_162 4000 cn_43 = true := sorry
set_option maxRecDepth 100000 in
theorem cn_429_ok : c_chk cs_at 6 (some FieldType.int) kt_163 4000 cn_429 = true := sorry
set_option maxRecDepth 100000 in
theorem cn_34_ok : c_chk cs_at 4 none kt_164 4000 cn_34 = true := sorry
set_option maxRecDepth 100000 in
theorem cn_35_ok : c_chk cs_at 4 none kt_164 4000 cn_35 = true := sorry
set_option maxRecDepth 100000 in
theorem cn_38_ok : c_chk cs_at 1 (some FieldType.boolean) kt_165 4000 cn_38 = true := sorry
set_option maxRecDepth 100000 in
theorem cn_416_ok : c_chk cs_at 4 (some FieldType.int) kt_166 4000 cn_416 = true := sorry
set_option maxRecDepth 100000 in
theorem cn_417_ok : c_chk cs_at 4 (some FieldType.int) kt_166 4000 cn_417 = true := sorry
set_option maxRecDepth 100000 in
theorem cn_418_ok : c_chk cs_at 4 (some FieldType.int) kt_166 4000 cn_418 = true := sorry
set_option maxRecDepth 100000 in
theorem cn_41_ok : c_chk cs_at 1 (some FieldType.int) kt_168 4000 cn_41 = true := sorry
set_option maxRecDepth 100000 in
theorem cn_42_ok : c_chk cs_at 1 (some FieldType.int) kt_168 4000 cn_42 = true := sorry
set_option maxRecDepth 100000 in
theorem cn_272_ok : c_chk cs_at 2 none kt_169 4000 cn_272 = true := sorry
set_option maxRecDepth 100000 in
theorem cn_281_ok : c_chk cs_at 2 (some FieldType.boolean) kt_170 4000 cn_281 = true := sorry
set_option maxRecDepth 100000 in
theorem cn_282_ok : c_chk cs_at 2 (some FieldType.boolean) kt_170 4000 cn_282 = true := sorry
set_option maxRecDepth 100000 in
theorem cn_278_ok : c_chk cs_at 2 (some FieldType.boolean) kt_171 4000 cn_278 = true := sorry
set_option maxRecDepth 100000 in
theorem cn_430_ok : c_chk cs_at 6 (some FieldType.int) kt_172 4000 cn_430 = true := sorry
set_option maxRecDepth 100000 in
theorem cn_419_ok : c_chk cs_at 4 none kt_173 4000 cn_419 = true := sorry
set_option maxRecDepth 100000 in
theorem cn_420_ok : c_chk cs_at 4 none kt_173 4000 cn_420 = true := sorry
set_option maxRecDepth 100000 in
theorem cn_421_ok : c_chk cs_at 4 none kt_173 4000 cn_421 = true := sorry
set_option maxRecDepth 100000 in
theorem cn_422_ok : c_chk cs_at 4 none kt_173 4000 cn_422 = true := sorry
set_option maxRecDepth 100000 in
theorem cn_423_ok : c_chk cs_at 4 none kt_173 4000 cn_423 = true := sorry
set_option maxRecDepth 100000 in
theorem cn_330_ok : c_chk cs_at 2 none kt_174 4000 cn_330 = true := sorry
set_option maxRecDepth 100000 in
theorem cn_331_ok : c_chk cs_at 2 none kt_174 4000 cn_331 = true := sorry
set_option maxRecDepth 100000 in
theorem cn_531_ok : c_chk cs_at 3 (some FieldType.int) kt_175 4000 cn_531 = true := sorry
set_option maxRecDepth 100000 in
theorem cn_510_ok : c_chk cs_at 3 (some FieldType.int) kt_176 4000 cn_510 = true := sorry
set_option maxRecDepth 100000 in
theorem cn_511_ok : c_chk cs_at 3 (some FieldType.int) kt_176 4000 cn_511 = true := sorry
set_option maxRecDepth 100000 in
theorem cn_508_ok : c_chk cs_at 5 (some FieldType.int) kt_177 4000 cn_508 = true := sorry
set_option maxRecDepth 100000 in
theorem cn_509_ok : c_chk cs_at 5 (some FieldType.int) kt_177 4000 cn_509 = true := sorry
set_option maxRecDepth 100000 in
theorem cn_506_ok : c_chk cs_at 5 (some FieldType.int) kt_178 4000 cn_506 = true := sorry
set_option maxRecDepth 100000 in
theorem cn_507_ok : c_chk cs_at 5 (some FieldType.int) kt_178 4000 cn_507 = true := sorry
set_option maxRecDepth 100000 in
theorem cn_504_ok : c_chk cs_at 4 (some FieldType.int) kt_179 4000 cn_504 = true := sorry
set_option maxRecDepth 100000 in
theorem cn_505_ok : c_chk cs_at 4 (some FieldType.int) kt_179 4000 cn_505 = true := sorry
set_option maxRecDepth 100000 in
theorem cn_78_ok : c_chk cs_at 1 (some FieldType.int) kt_180 4000 cn_78 = true := sorry
set_option maxRecDepth 100000 in
theorem cn_575_ok : c_chk cs_at 3 (some FieldType.int) kt_181 4000 cn_575 = true := sorry
set_option maxRecDepth 100000 in
theorem cn_79_ok : c_chk cs_at 1 (some FieldType.int) kt_182 4000 cn_79 = true := sorry
set_option maxRecDepth 100000 in
theorem cn_80_ok : c_chk cs_at 5 (some FieldType.int) kt_183 4000 cn_80 = true := sorry
set_option maxRecDepth 100000 in
theorem cn_81_ok : c_chk cs_at 5 (some FieldType.int) kt_183 4000 cn_81 = true := sorry
set_option maxRecDepth 100000 in
theorem cn_289_ok : c_chk cs_at 6 (some FieldType.int) kt_184 4000 cn_289 = true := sorry
set_option maxRecDepth 100000 in
theorem cn_290_ok : c_chk cs_at 6 (some FieldType.int) kt_184 4000 cn_290 = true := sorry
set_option maxRecDepth 100000 in
theorem cn_40_ok : c_chk cs_at 2 (some FieldType.boolean) kt_185 4000 cn_40 = true := sorry
set_option maxRecDepth 100000 in
theorem cn_97_ok : c_chk cs_at 3 (some FieldType.int) kt_186 4000 cn_97 = true := sorry
set_option maxRecDepth 100000 in
theorem cn_98_ok : c_chk cs_at 3 (some FieldType.int) kt_186 4000 cn_98 = true := sorry
set_option maxRecDepth 100000 in
theorem cn_553_ok : c_chk cs_at 3 (some FieldType.int) kt_187 4000 cn_553 = true := sorry
set_option maxRecDepth 100000 in
theorem cn_554_ok : c_chk cs_at 3 (some FieldType.int) kt_187 4000 cn_554 = true := sorry
set_option maxRecDepth 100000 in
theorem cn_555_ok : c_chk cs_at 3 (some FieldType.int) kt_187 4000 cn_555 = true := sorry
set_option maxRecDepth 100000 in
theorem cn_556_ok : c_chk cs_at 3 (some FieldType.int) kt_187 4000 cn_556 = true := sorry
set_option maxRecDepth 100000 in
theorem cn_557_ok : c_chk cs_at 3 (some FieldType.int) kt_187 4000 cn_557 = true := sorry
set_option maxRecDepth 100000 in
theorem cn_558_ok : c_chk cs_at 3 (some FieldType.int) kt_187 4000 cn_558 = true := sorry
set_option maxRecDepth 100000 in
theorem cn_559_ok : c_chk cs_at 3 (some FieldType.int) kt_187 4000 cn_559 = true := sorry
set_option maxRecDepth 100000 in
theorem cn_560_ok : c_chk cs_at 3 (some FieldType.int) kt_187 4000 cn_560 = true := sorry
set_option maxRecDepth 100000 in
theorem cn_561_ok : c_chk cs_at 3 (some FieldType.int) kt_187 4000 cn_561 = true := sorry
set_option maxRecDepth 100000 in
theorem cn_562_ok : c_chk cs_at 3 (some FieldType.int) kt_187 4000 cn_562 = true := sorry
set_option maxRecDepth 100000 in
theorem cn_563_ok : c_chk cs_at 3 (some FieldType.int) kt_187 4000 cn_563 = true := sorry
set_option maxRecDepth 100000 in
theorem cn_564_ok : c_chk cs_at 3 (some FieldType.int) kt_187 4000 cn_564 = true := sorry
set_option maxRecDepth 100000 in
theorem cn_565_ok : c_chk cs_at 3 (some FieldType.int) kt_187 4000 cn_565 = true := sorry
set_option maxRecDepth 100000 in
theorem cn_566_ok : c_chk cs_at 3 (some FieldType.int) kt_187 4000 cn_566 = true := sorry
set_option maxRecDepth 100000 in
theorem cn_567_ok : c_chk cs_at 3 (some FieldType.int) kt_187 4000 cn_567 = true := sorry
set_option maxRecDepth 100000 in
theorem cn_568_ok : c_chk cs_at 3 (some FieldType.int) kt_187 4000 cn_568 = true := sorry
set_option maxRecDepth 100000 in
theorem cn_569_ok : c_chk cs_at 3 (some FieldType.int) kt_187 4000 cn_569 = true := sorry
set_option maxRecDepth 100000 in
theorem cn_570_ok : c_chk cs_at 3 (some FieldType.int) kt_187 4000 cn_570 = true := sorry
set_option maxRecDepth 100000 in
theorem cn_571_ok : c_chk cs_at 3 (some FieldType.int) kt_187 4000 cn_571 = true := sorry
set_option maxRecDepth 100000 in
theorem cn_532_ok : c_chk cs_at 4 (some FieldType.int) kt_188 4000 cn_532 = true := sorry
set_option maxRecDepth 100000 in
theorem cn_533_ok : c_chk cs_at 4 (some FieldType.int) kt_188 4000 cn_533 = true := sorry
set_option maxRecDepth 100000 in
theorem cn_534_ok : c_chk cs_at 4 (some FieldType.int) kt_188 4000 cn_534 = true := sorry
set_option maxRecDepth 100000 in
theorem cn_535_ok : c_chk cs_at 4 (some FieldType.int) kt_188 4000 cn_535 = true := sorry
set_option maxRecDepth 100000 in
theorem cn_536_ok : c_chk cs_at 4 (some FieldType.int) kt_188 4000 cn_536 = true := sorry
set_option maxRecDepth 100000 in
theorem cn_537_ok : c_chk cs_at 4 (some FieldType.int) kt_188 4000 cn_537 = true := sorry
set_option maxRecDepth 100000 in
theorem cn_538_ok : c_chk cs_at 4 (some FieldType.int) kt_188 4000 cn_538 = true := sorry
set_option maxRecDepth 100000 in
theorem cn_539_ok : c_chk cs_at 4 (some FieldType.int) kt_188 4000 cn_539 = true := sorry
set_option maxRecDepth 100000 in
theorem cn_540_ok : c_chk cs_at 4 (some FieldType.int) kt_188 4000 cn_540 = true := sorry
set_option maxRecDepth 100000 in
theorem cn_541_ok : c_chk cs_at 4 (some FieldType.int) kt_188 4000 cn_541 = true := sorry
set_option maxRecDepth 100000 in
theorem cn_542_ok : c_chk cs_at 4 (some FieldType.int) kt_188 4000 cn_542 = true := sorry
set_option maxRecDepth 100000 in
theorem cn_543_ok : c_chk cs_at 4 (some FieldType.int) kt_188 4000 cn_543 = true := sorry
set_option maxRecDepth 100000 in
theorem cn_544_ok : c_chk cs_at 4 (some FieldType.int) kt_188 4000 cn_544 = true := sorry
set_option maxRecDepth 100000 in
theorem cn_545_ok : c_chk cs_at 4 (some FieldType.int) kt_188 4000 cn_545 = true := sorry
set_option maxRecDepth 100000 in
theorem cn_546_ok : c_chk cs_at 4 (some FieldType.int) kt_188 4000 cn_546 = true := sorry
set_option maxRecDepth 100000 in
theorem cn_547_ok : c_chk cs_at 4 (some FieldType.int) kt_188 4000 cn_547 = true := sorry
set_option maxRecDepth 100000 in
theorem cn_548_ok : c_chk cs_at 4 (some FieldType.int) kt_188 4000 cn_548 = true := sorry
set_option maxRecDepth 100000 in
theorem cn_549_ok : c_chk cs_at 4 (some FieldType.int) kt_188 4000 cn_549 = true := sorry
set_option maxRecDepth 100000 in
theorem cn_550_ok : c_chk cs_at 4 (some FieldType.int) kt_188 4000 cn_550 = true := sorry
set_option maxRecDepth 100000 in
theorem cn_512_ok : c_chk cs_at 6 (some FieldType.int) kt_189 4000 cn_512 = true := sorry
set_option maxRecDepth 100000 in
theorem cn_513_ok : c_chk cs_at 6 (some FieldType.int) kt_189 4000 cn_513 = true := sorry
set_option maxRecDepth 100000 in
theorem cn_514_ok : c_chk cs_at 6 (some FieldType.int) kt_189 4000 cn_514 = true := sorry
set_option maxRecDepth 100000 in
theorem cn_515_ok : c_chk cs_at 6 (some FieldType.int) kt_189 4000 cn_515 = true := sorry
set_option maxRecDepth 100000 in
theorem cn_516_ok : c_chk cs_at 6 (some FieldType.int) kt_189 4000 cn_516 = true := sorry
set_option maxRecDepth 100000 in
theorem cn_517_ok : c_chk cs_at 6 (some FieldType.int) kt_189 4000 cn_517 = true := sorry
set_option maxRecDepth 100000 in
theorem cn_518_ok : c_chk cs_at 6 (some FieldType.int) kt_189 4000 cn_518 = true := sorry
set_option maxRecDepth 100000 in
theorem cn_519_ok : c_chk cs_at 6 (some FieldType.int) kt_189 4000 cn_519 = true := sorry
set_option maxRecDepth 100000 in
theorem cn_520_ok : c_chk cs_at 6 (some FieldType.int) kt_189 4000 cn_520 = true := sorry
set_option maxRecDepth 100000 in
theorem cn_521_ok : c_chk cs_at 6 (some FieldType.int) kt_189 4000 cn_521 = true := sorry
set_option maxRecDepth 100000 in
theorem cn_522_ok : c_chk cs_at 6 (some FieldType.int) kt_189 4000 cn_522 = true := sorry
set_option maxRecDepth 100000 in
theorem cn_523_ok : c_chk cs_at 6 (some FieldType.int) kt_189 4000 cn_523 = true := sorry
set_option maxRecDepth 100000 in
theorem cn_524_ok : c_chk cs_at 6 (some FieldType.int) kt_189 4000 cn_524 = true := sorry
set_option maxRecDepth 100000 in
theorem cn_525_ok : c_chk cs_at 6 (some FieldType.int) kt_189 4000 cn_525 = true := sorry
set_option maxRecDepth 100000 in
theorem cn_526_ok : c_chk cs_at 6 (some FieldType.int) kt_189 4000 cn_526 = true := sorry
set_option maxRecDepth 100000 in
theorem cn_527_ok : c_chk cs_at 6 (some FieldType.int) kt_189 4000 cn_527 = true := sorry
set_option maxRecDepth 100000 in
theorem cn_528_ok : c_chk cs_at 6 (some FieldType.int) kt_189 4000 cn_528 = true := sorry
set_option maxRecDepth 100000 in
theorem cn_529_ok : c_chk cs_at 6 (some FieldType.int) kt_189 4000 cn_529 = true := sorry
set_option maxRecDepth 100000 in
theorem cn_530_ok : c_chk cs_at 6 (some FieldType.int) kt_189 4000 cn_530 = true := sorry
set_option maxRecDepth 100000 in
theorem cn_333_ok : c_chk cs_at 5 (some FieldType.int) kt_190 4000 cn_333 = true := sorry
set_option maxRecDepth 100000 in
theorem cn_277_ok : c_chk cs_at 2 (some FieldType.boolean) kt_191 4000 cn_277 = true := sorry
set_option maxRecDepth 100000 in
theorem cn_286_ok : c_chk cs_at 4 (some FieldType.int) kt_192 4000 cn_286 = true := sorry
set_option maxRecDepth 100000 in
theorem cn_326_ok : c_chk cs_at 5 (some FieldType.int) kt_193 4000 cn_326 = true := sorry
set_option maxRecDepth 100000 in
theorem cn_336_ok : c_chk cs_at 10 (some FieldType.int) kt_194 4000 cn_336 = true := sorry
set_option maxRecDepth 100000 in
theorem cn_374_ok : c_chk cs_at 4 (some FieldType.int) kt_195 4000 cn_374 = true := sorry
set_option maxRecDepth 100000 in
theorem cn_334_ok : c_chk cs_at 3 (some FieldType.int) kt_196 4000 cn_334 = true := sorry
set_option maxRecDepth 100000 in
theorem cn_283_ok : c_chk cs_at 3 none kt_197 4000 cn_283 = true := sorry
set_option maxRecDepth 100000 in
theorem cn_284_ok : c_chk cs_at 3 none kt_197 4000 cn_284 = true := sorry
set_option maxRecDepth 100000 in
theorem cn_44_ok : c_chk cs_at 4 none kt_198 4000 cn_44 = true := sorry
set_option maxRecDepth 100000 in
theorem cn_45_ok : c_chk cs_at 4 none kt_198 4000 cn_45 = true := sorry
set_option maxRecDepth 100000 in
theorem cn_46_ok : c_chk cs_at 4 none kt_198 4000 cn_46 = true := sorry
set_option maxRecDepth 100000 in
theorem cn_47_ok : c_chk cs_at 4 none kt_198 4000 cn_47 = true := sorry
set_option maxRecDepth 100000 in
theorem cn_48_ok : c_chk cs_at 4 none kt_198 4000 cn_48 = true := sorry
set_option maxRecDepth 100000 in
theorem cn_49_ok : c_chk cs_at 4 none kt_198 4000 cn_49 = true := sorry
set_option maxRecDepth 100000 in
theorem cn_50_ok : c_chk cs_at 4 none kt_198 4000 cn_50 = true := sorry
set_option maxRecDepth 100000 in
theorem cn_51_ok : c_chk cs_at 4 none kt_198 4000 cn_51 = true := sorry
set_option maxRecDepth 100000 in
theorem cn_52_ok : c_chk cs_at 4 none kt_198 4000 cn_52 = true := sorry
set_option maxRecDepth 100000 in
theorem cn_53_ok : c_chk cs_at 4 none kt_198 4000 cn_53 = true := sorry
set_option maxRecDepth 100000 in
theorem cn_54_ok : c_chk cs_at 4 none kt_198 4000 cn_54 = true := sorry
set_option maxRecDepth 100000 in
theorem cn_55_ok : c_chk cs_at 4 none kt_198 4000 cn_55 = true := sorry
set_option maxRecDepth 100000 in
theorem cn_56_ok : c_chk cs_at 4 none kt_198 4000 cn_56 = true := sorry
set_option maxRecDepth 100000 in
theorem cn_57_ok : c_chk cs_at 4 none kt_198 4000 cn_57 = true := sorry
set_option maxRecDepth 100000 in
theorem cn_58_ok : c_chk cs_at 4 none kt_198 4000 cn_58 = true := sorry
set_option maxRecDepth 100000 in
theorem cn_59_ok : c_chk cs_at 4 none kt_198 4000 cn_59 = true := sorry
set_option maxRecDepth 100000 in
theorem cn_60_ok : c_chk cs_at 4 none kt_198 4000 cn_60 = true := sorry
set_option maxRecDepth 100000 in
theorem cn_61_ok : c_chk cs_at 4 none kt_198 4000 cn_61 = true := sorry
set_option maxRecDepth 100000 in
theorem cn_62_ok : c_chk cs_at 4 none kt_198 4000 cn_62 = true := sorry
set_option maxRecDepth 100000 in
theorem cn_63_ok : c_chk cs_at 4 none kt_198 4000 cn_63 = true := sorry
set_option maxRecDepth 100000 in
theorem cn_64_ok : c_chk cs_at 4 none kt_198 4000 cn_64 = true := sorry
set_option maxRecDepth 100000 in
theorem cn_65_ok : c_chk cs_at 4 none kt_198 4000 cn_65 = true := sorry
set_option maxRecDepth 100000 in
theorem cn_66_ok : c_chk cs_at 4 none kt_198 4000 cn_66 = true := sorry
set_option maxRecDepth 100000 in
theorem cn_67_ok : c_chk cs_at 4 none kt_198 4000 cn_67 = true := sorry
set_option maxRecDepth 100000 in
theorem cn_68_ok : c_chk cs_at 4 none kt_198 4000 cn_68 = true := sorry
set_option maxRecDepth 100000 in
theorem cn_69_ok : c_chk cs_at 4 none kt_198 4000 cn_69 = true := sorry
set_option maxRecDepth 100000 in
theorem cn_70_ok : c_chk cs_at 4 none kt_198 4000 cn_70 = true := sorry
set_option maxRecDepth 100000 in
theorem cn_71_ok : c_chk cs_at 4 none kt_198 4000 cn_71 = true := sorry
set_option maxRecDepth 100000 in
theorem cn_72_ok : c_chk cs_at 4 none kt_198 4000 cn_72 = true := sorry
set_option maxRecDepth 100000 in
theorem cn_73_ok : c_chk cs_at 4 none kt_198 4000 cn_73 = true := sorry
set_option maxRecDepth 100000 in
theorem cn_74_ok : c_chk cs_at 4 none kt_198 4000 cn_74 = true := sorry
set_option maxRecDepth 100000 in
theorem cn_75_ok : c_chk cs_at 4 none kt_198 4000 cn_75 = true := sorry
set_option maxRecDepth 100000 in
theorem cn_76_ok : c_chk cs_at 4 none kt_198 4000 cn_76 = true := sorry
set_option maxRecDepth 100000 in
theorem cn_273_ok : c_chk cs_at 4 (some FieldType.int) kt_199 4000 cn_273 = true := sorry
set_option maxRecDepth 100000 in
theorem cn_95_ok : c_chk cs_at 1 (some FieldType.int) kt_200 4000 cn_95 = true := sorry
set_option maxRecDepth 100000 in
theorem cn_375_ok : c_chk cs_at 3 (some FieldType.int) kt_201 4000 cn_375 = true := sorry
set_option maxRecDepth 100000 in
theorem cn_335_ok : c_chk cs_at 2 (some FieldType.int) kt_202 4000 cn_335 = true := sorry
set_option maxRecDepth 100000 in
theorem cn_274_ok : c_chk cs_at 3 (some FieldType.int) kt_203 4000 cn_274 = true := sorry
set_option maxRecDepth 100000 in
theorem cn_603_ok : c_chk cs_at 1 (some FieldType.int) kt_204 4000 cn_603 = true := sorry
set_option maxRecDepth 100000 in
theorem cn_592_ok : c_chk cs_at 2 (some FieldType.int) kt_205 4000 cn_592 = true := sorry
set_option maxRecDepth 100000 in
theorem cn_36_ok : c_chk cs_at 1 none kt_206 4000 cn_36 = true := sorry
set_option maxRecDepth 100000 in
theorem cn_579_ok : c_chk cs_at 4 none kt_207 4000 cn_579 = true := sorry
set_option maxRecDepth 100000 in
theorem cn_580_ok : c_chk cs_at 4 none kt_207 4000 cn_580 = true := sorry
set_option maxRecDepth 100000 in
theorem cn_573_ok : c_chk cs_at 5 none kt_208 4000 cn_573 = true := sorry
set_option maxRecDepth 100000 in
theorem cn_574_ok : c_chk cs_at 5 none kt_208 4000 cn_574 = true := sorry
set_option maxRecDepth 100000 in
theorem cn_327_ok : c_chk cs_at 5 none kt_209 4000 cn_327 = true := sorry
set_option maxRecDepth 100000 in
theorem cn_328_ok : c_chk cs_at 5 none kt_209 4000 cn_328 = true := sorry
set_option maxRecDepth 100000 in
theorem cn_94_ok : c_chk cs_at 3 none kt_210 4000 cn_94 = true := sorry
set_option maxRecDepth 100000 in
theorem cn_332_ok : c_chk cs_at 3 (some FieldType.int) kt_211 4000 cn_332 = true := sorry
set_option maxRecDepth 100000 in
theorem cn_424_ok : c_chk cs_at 2 (some FieldType.int) kt_214 4000 cn_424 = true := sorry
set_option maxRecDepth 100000 in
theorem cn_372_ok : c_chk cs_at 4 (some FieldType.boolean) kt_215 4000 cn_372 = true := sorry
set_option maxRecDepth 100000 in
theorem cn_584_ok : c_chk cs_at 4 (some FieldType.boolean) kt_215 4000 cn_584 = true := sorry
set_option maxRecDepth 100000 in
theorem cn_96_ok : c_chk cs_at 2 (some FieldType.int) kt_216 4000 cn_96 = true := sorry
set_option maxRecDepth 100000 in
theorem cn_598_ok : c_chk cs_at 3 (some FieldType.int) kt_217 4000 cn_598 = true := sorry
set_option maxRecDepth 100000 in
theorem cn_276_ok : c_chk cs_at 1 (some FieldType.boolean) kt_218 4000 cn_276 = true := sorry
set_option maxRecDepth 100000 in
theorem cn_280_ok : c_chk cs_at 1 none kt_219 4000 cn_280 = true := sorry
set_option maxRecDepth 100000 in
theorem cn_588_ok : c_chk cs_at 2 (some FieldType.int) kt_220 4000 cn_588 = true := sorry
set_option maxRecDepth 100000 in
theorem cn_581_ok : c_chk cs_at 4 (some FieldType.int) kt_221 4000 cn_581 = true := sorry
set_option maxRecDepth 100000 in
theorem cn_582_ok : c_chk cs_at 4 (some FieldType.int) kt_221 4000 cn_582 = true := sorry
set_option maxRecDepth 100000 in
theorem cn_329_ok : c_chk cs_at 3 (some FieldType.int) kt_222 4000 cn_329 = true := sorry
set_option maxRecDepth 100000 in
theorem cn_337_ok : c_chk cs_at 4 (some FieldType.int) kt_223 4000 cn_337 = true := sorry
set_option maxRecDepth 100000 in
theorem cn_338_ok : c_chk cs_at 4 (some FieldType.int) kt_223 4000 cn_338 = true := sorry
set_option maxRecDepth 100000 in
theorem cn_100_ok : c_chk cs_at 2 (some FieldType.int) kt_224 4000 cn_100 = true := sorry
set_option maxRecDepth 100000 in
theorem cn_101_ok : c_chk cs_at 2 (some FieldType.int) kt_224 4000 cn_101 = true := sorry
set_option maxRecDepth 100000 in
theorem cn_102_ok : c_chk cs_at 2 (some FieldType.int) kt_224 4000 cn_102 = true := sorry
set_option maxRecDepth 100000 in
theorem cn_103_ok : c_chk cs_at 2 (some FieldType.int) kt_224 4000 cn_103 = true := sorry
set_option maxRecDepth 100000 in
theorem cn_104_ok : c_chk cs_at 2 (some FieldType.int) kt_224 4000 cn_104 = true := sorry
set_option maxRecDepth 100000 in
theorem cn_105_ok : c_chk cs_at 2 (some FieldType.int) kt_224 4000 cn_105 = true := sorry
set_option maxRecDepth 100000 in
theorem cn_106_ok : c_chk cs_at 2 (some FieldType.int) kt_224 4000 cn_106 = true := sorry
set_option maxRecDepth 100000 in
theorem cn_107_ok : c_chk cs_at 2 (some FieldType.int) kt_224 4000 cn_107 = true := sorry
set_option maxRecDepth 100000 in
theorem cn_108_ok : c_chk cs_at 2 (some FieldType.int) kt_224 4000 cn_108 = true := sorry
set_option maxRecDepth 100000 in
theorem cn_109_ok : c_chk cs_at 2 (some FieldType.int) kt_224 4000 cn_109 = true := sorry
set_option maxRecDepth 100000 in
theorem cn_110_ok : c_chk cs_at 2 (some FieldType.int) kt_224 4000 cn_110 = true := sorry
set_option maxRecDepth 100000 in
theorem cn_111_ok : c_chk cs_at 2 (some FieldType.int) kt_224 4000 cn_111 = true := sorry
set_option maxRecDepth 100000 in
theorem cn_112_ok : c_chk cs_at 2 (some FieldType.int) kt_224 4000 cn_112 = true := sorry
set_option maxRecDepth 100000 in
theorem cn_113_ok : c_chk cs_at 2 (some FieldType.int) kt_224 4000 cn_113 = true := sorry
set_option maxRecDepth 100000 in
theorem cn_114_ok : c_chk cs_at 2 (some FieldType.int) kt_224 4000 cn_114 = true := sorry
set_option maxRecDepth 100000 in
theorem cn_115_ok : c_chk cs_at 2 (some FieldType.int) kt_224 4000 cn_115 = true := sorry
set_option maxRecDepth 100000 in
theorem cn_587_ok : c_chk cs_at 4 (some FieldType.int) kt_225 4000 cn_587 = true := sorry
set_option maxRecDepth 100000 in
theorem cn_586_ok : c_chk cs_at 3 (some FieldType.int) kt_226 4000 cn_586 = true := sorry
set_option maxRecDepth 100000 in
theorem cn_616_ok : c_chk cs_at 2 (some FieldType.int) kt_227 4000 cn_616 = true := sorry
set_option maxRecDepth 100000 in
theorem cn_37_ok : c_chk cs_at 2 none kt_228 4000 cn_37 = true := sorry
set_option maxRecDepth 100000 in
theorem cn_614_ok : c_chk cs_at 2 none kt_229 4000 cn_614 = true := sorry
set_option maxRecDepth 100000 in
theorem cn_615_ok : c_chk cs_at 2 none kt_229 4000 cn_615 = true := sorry
set_option maxRecDepth 100000 in
theorem cn_590_ok : c_chk cs_at 6 none kt_230 4000 cn_590 = true := sorry
set_option maxRecDepth 100000 in
theorem cn_591_ok : c_chk cs_at 6 none kt_230 4000 cn_591 = true := sorry
set_option maxRecDepth 100000 in
theorem cn_600_ok : c_chk cs_at 6 none kt_230 4000 cn_600 = true := sorry
set_option maxRecDepth 100000 in
theorem cn_601_ok : c_chk cs_at 6 none kt_230 4000 cn_601 = true := sorry
set_option maxRecDepth 100000 in
theorem cn_606_ok : c_chk cs_at 6 none kt_230 4000 cn_606 = true := sorry
set_option maxRecDepth 100000 in
theorem cn_607_ok : c_chk cs_at 6 none kt_230 4000 cn_607 = true := sorry
set_option maxRecDepth 100000 in
theorem cn_609_ok : c_chk cs_at 6 none kt_230 4000 cn_609 = true := sorry
set_option maxRecDepth 100000 in
theorem cn_610_ok : c_chk cs_at 6 none kt_230 4000 cn_610 = true := sorry
set_option maxRecDepth 100000 in
theorem cn_612_ok : c_chk cs_at 6 none kt_230 4000 cn_612 = true := sorry
set_option maxRecDepth 100000 in
theorem cn_613_ok : c_chk cs_at 6 none kt_230 4000 cn_613 = true := sorry
set_option maxRecDepth 100000 in
theorem cn_288_ok : c_chk cs_at 2 none kt_231 4000 cn_288 = true := sorry
set_option maxRecDepth 100000 in
theorem cn_617_ok : c_chk cs_at 1 (some FieldType.int) kt_232 4000 cn_617 = true := sorry
set_option maxRecDepth 100000 in
theorem cn_604_ok : c_chk cs_at 6 (some FieldType.int) kt_233 4000 cn_604 = true := sorry
set_option maxRecDepth 100000 in
theorem cn_593_ok : c_chk cs_at 9 (some FieldType.boolean) kt_234 4000 cn_593 = true := sorry
set_option maxRecDepth 100000 in
theorem cn_77_ok : c_chk cs_at 3 (some FieldType.int) kt_235 4000 cn_77 = true := sorry
set_option maxRecDepth 100000 in
theorem cn_93_ok : c_chk cs_at 3 none kt_236 4000 cn_93 = true := sorry
set_option maxRecDepth 100000 in
theorem cn_287_ok : c_chk cs_at 5 (some FieldType.int) kt_237 4000 cn_287 = true := sorry
set_option maxRecDepth 100000 in
theorem cn_585_ok : c_chk cs_at 6 (some FieldType.int) kt_238 4000 cn_585 = true := sorry
set_option maxRecDepth 100000 in
theorem cn_576_ok : c_chk cs_at 4 (some FieldType.int) kt_239 4000 cn_576 = true := sorry
set_option maxRecDepth 100000 in
theorem cn_503_ok : c_chk cs_at 7 none kt_240 4000 cn_503 = true := sorry
set_option maxRecDepth 100000 in
theorem cn_577_ok : c_chk cs_at 4 (some FieldType.int) kt_242 4000 cn_577 = true := sorry
set_option maxRecDepth 100000 in
theorem cn_572_ok : c_chk cs_at 7 (some FieldType.int) kt_243 4000 cn_572 = true := sorry
set_option maxRecDepth 100000 in
theorem cn_552_ok : c_chk cs_at 9 (some FieldType.int) kt_244 4000 cn_552 = true := sorry
set_option maxRecDepth 100000 in
theorem cn_611_ok : c_chk cs_at 3 (some FieldType.int) kt_245 4000 cn_611 = true := sorry
set_option maxRecDepth 100000 in
theorem cn_39_ok : c_chk cs_at 8 none kt_246 4000 cn_39 = true := sorry
set_option maxRecDepth 100000 in
theorem cn_578_ok : c_chk cs_at 8 none kt_246 4000 cn_578 = true := sorry
set_option maxRecDepth 100000 in
theorem cn_589_ok : c_chk cs_at 8 none kt_246 4000 cn_589 = true := sorry
set_option maxRecDepth 100000 in
theorem cn_599_ok : c_chk cs_at 8 none kt_246 4000 cn_599 = true := sorry
set_option maxRecDepth 100000 in
theorem cn_605_ok : c_chk cs_at 8 none kt_246 4000 cn_605 = true := sorry
set_option maxRecDepth 100000 in
theorem cn_608_ok : c_chk cs_at 8 none kt_246 4000 cn_608 = true := sorry
set_option maxRecDepth 100000 in
theorem cn_275_ok : c_chk cs_at 3 (some FieldType.boolean) kt_247 4000 cn_275 = true := sorry
set_option maxRecDepth 100000 in
theorem cn_602_ok : c_chk cs_at 6 (some FieldType.int) kt_249 4000 cn_602 = true := sorry
set_option maxRecDepth 100000 in
theorem cn_595_ok : c_chk cs_at 3 (some FieldType.int) kt_250 4000 cn_595 = true := sorry
set_option maxRecDepth 100000 in
theorem cn_551_ok : c_chk cs_at 10 (some FieldType.int) kt_251 4000 cn_551 = true := sorry
set_option maxRecDepth 100000 in
theorem cn_291_ok : c_chk cs_at 4 (some FieldType.int) kt_252 4000 cn_291 = true := sorry
set_option maxRecDepth 100000 in
theorem cn_597_ok : c_chk cs_at 3 (some FieldType.int) kt_253 4000 cn_597 = true := sorry
set_option maxRecDepth 100000 in
theorem cn_583_ok : c_chk cs_at 9 (some FieldType.long) kt_254 4000 cn_583 = true := sorry
set_option maxRecDepth 100000 in
theorem cn_82_ok : c_chk cs_at 6 (some FieldType.long) kt_255 4000 cn_82 = true := sorry
set_option maxRecDepth 100000 in
theorem cn_83_ok : c_chk cs_at 6 (some FieldType.long) kt_255 4000 cn_83 = true := sorry
set_option maxRecDepth 100000 in
theorem cn_84_ok : c_chk cs_at 6 (some FieldType.long) kt_255 4000 cn_84 = true := sorry
set_option maxRecDepth 100000 in
theorem cn_85_ok : c_chk cs_at 6 (some FieldType.long) kt_255 4000 cn_85 = true := sorry
set_option maxRecDepth 100000 in
theorem cn_86_ok : c_chk cs_at 6 (some FieldType.long) kt_255 4000 cn_86 = true := sorry
set_option maxRecDepth 100000 in
theorem cn_87_ok : c_chk cs_at 6 (some FieldType.long) kt_255 4000 cn_87 = true := sorry
set_option maxRecDepth 100000 in
theorem cn_88_ok : c_chk cs_at 6 (some FieldType.long) kt_255 4000 cn_88 = true := sorry
set_option maxRecDepth 100000 in
theorem cn_89_ok : c_chk cs_at 6 (some FieldType.long) kt_255 4000 cn_89 = true := sorry
set_option maxRecDepth 100000 in
theorem cn_90_ok : c_chk cs_at 6 (some FieldType.long) kt_255 4000 cn_90 = true := sorry
set_option maxRecDepth 100000 in
theorem cn_91_ok : c_chk cs_at 6 (some FieldType.long) kt_255 4000 cn_91 = true := sorry
set_option maxRecDepth 100000 in
theorem cn_594_ok : c_chk cs_at 4 (some FieldType.int) kt_256 4000 cn_594 = true := sorry
set_option maxRecDepth 100000 in
theorem cn_596_ok : c_chk cs_at 7 (some FieldType.int) kt_257 4000 cn_596 = true := sorry
set_option maxRecDepth 100000 in
theorem cn_279_ok : c_chk cs_at 2 (some FieldType.boolean) kt_258 4000 cn_279 = true := sorry
set_option maxRecDepth 100000 in
theorem cn_270_ok : c_chk cs_at 3 (some FieldType.boolean) kt_259 4000 cn_270 = true := sorry
set_option maxRecDepth 100000 in
theorem cn_373_ok : c_chk cs_at 2 (some FieldType.int) kt_260 4000 cn_373 = true := sorry
set_option maxRecDepth 100000 in
theorem cn_285_ok : c_chk cs_at 2 (some FieldType.long) kt_261 4000 cn_285 = true := sorry
