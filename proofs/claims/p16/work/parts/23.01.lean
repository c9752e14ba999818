/-! THE CONTRACTS CHECKED, 1 -/
set_option maxRecDepth 100000 in
theorem cn_489_ok : c_chk cs_at 6 (some FieldType.boolean) kt_42 4000 cn_489 = true := c_chkQ_ok (pcs := [19]) (by decide +kernel)
set_option maxRecDepth 100000 in
theorem cn_491_ok : c_chk cs_at 6 (some FieldType.boolean) kt_42 4000 cn_491 = true := c_chkQ_ok (pcs := [19]) (by decide +kernel)
set_option maxRecDepth 100000 in
theorem cn_497_ok : c_chk cs_at 6 (some FieldType.boolean) kt_42 4000 cn_497 = true := c_chkQ_ok (pcs := [19]) (by decide +kernel)
set_option maxRecDepth 100000 in
theorem cn_499_ok : c_chk cs_at 6 (some FieldType.boolean) kt_42 4000 cn_499 = true := c_chkQ_ok (pcs := [19]) (by decide +kernel)
set_option maxRecDepth 100000 in
theorem cn_445_ok : c_chk cs_at 3 (some FieldType.boolean) kt_43 4000 cn_445 = true := c_chkQ_ok (pcs := []) (by decide +kernel)
set_option maxRecDepth 100000 in
theorem cn_451_ok : c_chk cs_at 3 (some FieldType.boolean) kt_43 4000 cn_451 = true := c_chkQ_ok (pcs := []) (by decide +kernel)
set_option maxRecDepth 100000 in
theorem cn_467_ok : c_chk cs_at 3 (some FieldType.boolean) kt_43 4000 cn_467 = true := c_chkQ_ok (pcs := []) (by decide +kernel)
set_option maxRecDepth 100000 in
theorem cn_471_ok : c_chk cs_at 3 (some FieldType.boolean) kt_43 4000 cn_471 = true := c_chkQ_ok (pcs := []) (by decide +kernel)
set_option maxRecDepth 100000 in
theorem cn_480_ok : c_chk cs_at 3 (some FieldType.boolean) kt_43 4000 cn_480 = true := c_chkQ_ok (pcs := []) (by decide +kernel)
set_option maxRecDepth 100000 in
theorem cn_482_ok : c_chk cs_at 3 (some FieldType.boolean) kt_43 4000 cn_482 = true := c_chkQ_ok (pcs := []) (by decide +kernel)
set_option maxRecDepth 100000 in
theorem cn_488_ok : c_chk cs_at 3 (some FieldType.boolean) kt_43 4000 cn_488 = true := c_chkQ_ok (pcs := []) (by decide +kernel)
set_option maxRecDepth 100000 in
theorem cn_490_ok : c_chk cs_at 3 (some FieldType.boolean) kt_43 4000 cn_490 = true := c_chkQ_ok (pcs := []) (by decide +kernel)
set_option maxRecDepth 100000 in
theorem cn_496_ok : c_chk cs_at 3 (some FieldType.boolean) kt_43 4000 cn_496 = true := c_chkQ_ok (pcs := []) (by decide +kernel)
set_option maxRecDepth 100000 in
theorem cn_498_ok : c_chk cs_at 3 (some FieldType.boolean) kt_43 4000 cn_498 = true := c_chkQ_ok (pcs := []) (by decide +kernel)
set_option maxRecDepth 100000 in
theorem cn_442_ok : c_chk cs_at 4 (some FieldType.boolean) kt_44 4000 cn_442 = true := c_chkQ_ok (pcs := [4]) (by decide +kernel)
set_option maxRecDepth 100000 in
theorem cn_465_ok : c_chk cs_at 4 (some FieldType.boolean) kt_44 4000 cn_465 = true := c_chkQ_ok (pcs := [4]) (by decide +kernel)
set_option maxRecDepth 100000 in
theorem cn_479_ok : c_chk cs_at 4 (some FieldType.boolean) kt_44 4000 cn_479 = true := c_chkQ_ok (pcs := [4]) (by decide +kernel)
set_option maxRecDepth 100000 in
theorem cn_487_ok : c_chk cs_at 4 (some FieldType.boolean) kt_44 4000 cn_487 = true := c_chkQ_ok (pcs := [4]) (by decide +kernel)
set_option maxRecDepth 100000 in
theorem cn_495_ok : c_chk cs_at 4 (some FieldType.boolean) kt_44 4000 cn_495 = true := c_chkQ_ok (pcs := [4]) (by decide +kernel)
set_option maxRecDepth 100000 in
theorem cn_437_ok : c_chk cs_at 4 (some FieldType.boolean) kt_45 4000 cn_437 = true := c_chkQ_ok (pcs := []) (by decide +kernel)
set_option maxRecDepth 100000 in
theorem cn_463_ok : c_chk cs_at 4 (some FieldType.boolean) kt_45 4000 cn_463 = true := c_chkQ_ok (pcs := []) (by decide +kernel)
set_option maxRecDepth 100000 in
theorem cn_478_ok : c_chk cs_at 4 (some FieldType.boolean) kt_45 4000 cn_478 = true := c_chkQ_ok (pcs := []) (by decide +kernel)
set_option maxRecDepth 100000 in
theorem cn_486_ok : c_chk cs_at 4 (some FieldType.boolean) kt_45 4000 cn_486 = true := c_chkQ_ok (pcs := []) (by decide +kernel)
set_option maxRecDepth 100000 in
theorem cn_494_ok : c_chk cs_at 4 (some FieldType.boolean) kt_45 4000 cn_494 = true := c_chkQ_ok (pcs := []) (by decide +kernel)
set_option maxRecDepth 100000 in
theorem cn_205_ok : c_chk cs_at 2 (some FieldType.boolean) kt_46 4000 cn_205 = true := c_chkQ_ok (pcs := []) (by decide +kernel)
set_option maxRecDepth 100000 in
theorem cn_461_ok : c_chk cs_at 2 (some FieldType.boolean) kt_46 4000 cn_461 = true := c_chkQ_ok (pcs := []) (by decide +kernel)
set_option maxRecDepth 100000 in
theorem cn_477_ok : c_chk cs_at 2 (some FieldType.boolean) kt_46 4000 cn_477 = true := c_chkQ_ok (pcs := []) (by decide +kernel)
set_option maxRecDepth 100000 in
theorem cn_485_ok : c_chk cs_at 2 (some FieldType.boolean) kt_46 4000 cn_485 = true := c_chkQ_ok (pcs := []) (by decide +kernel)
set_option maxRecDepth 100000 in
theorem cn_493_ok : c_chk cs_at 2 (some FieldType.boolean) kt_46 4000 cn_493 = true := c_chkQ_ok (pcs := []) (by decide +kernel)
set_option maxRecDepth 100000 in
theorem cn_324_ok : c_chk cs_at 4 none kt_47 4000 cn_324 = true := c_chkQ_ok (pcs := [12]) (by decide +kernel)
set_option maxRecDepth 100000 in
theorem cn_22_ok : c_chk cs_at 2 none kt_48 4000 cn_22 = true := c_chkQ_ok (pcs := []) (by decide +kernel)
set_option maxRecDepth 100000 in
theorem cn_23_ok : c_chk cs_at 2 (some FieldType.boolean) kt_51 4000 cn_23 = true := c_chkQ_ok (pcs := []) (by decide +kernel)
set_option maxRecDepth 100000 in
theorem cn_203_ok : c_chk cs_at 3 none kt_52 4000 cn_203 = true := c_chkQ_ok (pcs := []) (by decide +kernel)
set_option maxRecDepth 100000 in
theorem cn_6_ok : c_chk cs_at 4 (some FieldType.int) kt_53 4000 cn_6 = true := c_chkQ_ok (pcs := []) (by decide +kernel)
set_option maxRecDepth 100000 in
theorem cn_118_ok : c_chk cs_at 5 (some FieldType.int) kt_54 4000 cn_118 = true := c_chkQ_ok (pcs := []) (by decide +kernel)
set_option maxRecDepth 100000 in
theorem cn_15_ok : c_chk cs_at 2 (some FieldType.boolean) kt_55 4000 cn_15 = true := c_chkQ_ok (pcs := []) (by decide +kernel)
set_option maxRecDepth 100000 in
theorem cn_293_ok : c_chk cs_at 10 (some FieldType.int) kt_56 4000 cn_293 = true := c_chkQ_ok (pcs := [50]) (by decide +kernel)
set_option maxRecDepth 100000 in
theorem cn_120_ok : c_chk cs_at 3 (some FieldType.int) kt_57 4000 cn_120 = true := c_chkQ_ok (pcs := []) (by decide +kernel)
set_option maxRecDepth 100000 in
theorem cn_342_ok : c_chk cs_at 4 (some FieldType.int) kt_58 4000 cn_342 = true := c_chkQ_ok (pcs := []) (by decide +kernel)
set_option maxRecDepth 100000 in
theorem cn_121_ok : c_chk cs_at 4 (some FieldType.int) kt_59 4000 cn_121 = true := c_chkQ_ok (pcs := []) (by decide +kernel)
set_option maxRecDepth 100000 in
theorem cn_322_ok : c_chk cs_at 2 none kt_60 4000 cn_322 = true := c_chkQ_ok (pcs := []) (by decide +kernel)
set_option maxRecDepth 100000 in
theorem cn_323_ok : c_chk cs_at 2 none kt_60 4000 cn_323 = true := c_chkQ_ok (pcs := []) (by decide +kernel)
set_option maxRecDepth 100000 in
theorem cn_209_ok : c_chk cs_at 2 none kt_61 4000 cn_209 = true := c_chkQ_ok (pcs := []) (by decide +kernel)
set_option maxRecDepth 100000 in
theorem cn_210_ok : c_chk cs_at 2 none kt_61 4000 cn_210 = true := c_chkQ_ok (pcs := []) (by decide +kernel)
set_option maxRecDepth 100000 in
theorem cn_211_ok : c_chk cs_at 2 none kt_61 4000 cn_211 = true := c_chkQ_ok (pcs := []) (by decide +kernel)
set_option maxRecDepth 100000 in
theorem cn_212_ok : c_chk cs_at 2 none kt_61 4000 cn_212 = true := c_chkQ_ok (pcs := []) (by decide +kernel)
set_option maxRecDepth 100000 in
theorem cn_213_ok : c_chk cs_at 2 none kt_61 4000 cn_213 = true := c_chkQ_ok (pcs := []) (by decide +kernel)
set_option maxRecDepth 100000 in
theorem cn_214_ok : c_chk cs_at 2 none kt_61 4000 cn_214 = true := c_chkQ_ok (pcs := []) (by decide +kernel)
set_option maxRecDepth 100000 in
theorem cn_215_ok : c_chk cs_at 2 none kt_61 4000 cn_215 = true := c_chkQ_ok (pcs := []) (by decide +kernel)
set_option maxRecDepth 100000 in
theorem cn_216_ok : c_chk cs_at 2 none kt_61 4000 cn_216 = true := c_chkQ_ok (pcs := []) (by decide +kernel)
set_option maxRecDepth 100000 in
theorem cn_217_ok : c_chk cs_at 2 none kt_61 4000 cn_217 = true := c_chkQ_ok (pcs := []) (by decide +kernel)
set_option maxRecDepth 100000 in
theorem cn_218_ok : c_chk cs_at 2 none kt_61 4000 cn_218 = true := c_chkQ_ok (pcs := []) (by decide +kernel)
set_option maxRecDepth 100000 in
theorem cn_219_ok : c_chk cs_at 2 none kt_61 4000 cn_219 = true := c_chkQ_ok (pcs := []) (by decide +kernel)
set_option maxRecDepth 100000 in
theorem cn_220_ok : c_chk cs_at 2 none kt_61 4000 cn_220 = true := c_chkQ_ok (pcs := []) (by decide +kernel)
set_option maxRecDepth 100000 in
theorem cn_221_ok : c_chk cs_at 2 none kt_61 4000 cn_221 = true := c_chkQ_ok (pcs := []) (by decide +kernel)
set_option maxRecDepth 100000 in
theorem cn_222_ok : c_chk cs_at 2 none kt_61 4000 cn_222 = true := c_chkQ_ok (pcs := []) (by decide +kernel)
set_option maxRecDepth 100000 in
theorem cn_223_ok : c_chk cs_at 2 none kt_61 4000 cn_223 = true := c_chkQ_ok (pcs := []) (by decide +kernel)
set_option maxRecDepth 100000 in
theorem cn_224_ok : c_chk cs_at 2 none kt_61 4000 cn_224 = true := c_chkQ_ok (pcs := []) (by decide +kernel)
set_option maxRecDepth 100000 in
theorem cn_225_ok : c_chk cs_at 2 none kt_61 4000 cn_225 = true := c_chkQ_ok (pcs := []) (by decide +kernel)
set_option maxRecDepth 100000 in
theorem cn_226_ok : c_chk cs_at 2 none kt_61 4000 cn_226 = true := c_chkQ_ok (pcs := []) (by decide +kernel)
set_option maxRecDepth 100000 in
theorem cn_227_ok : c_chk cs_at 2 none kt_61 4000 cn_227 = true := c_chkQ_ok (pcs := []) (by decide +kernel)
set_option maxRecDepth 100000 in
theorem cn_228_ok : c_chk cs_at 2 none kt_61 4000 cn_228 = true := c_chkQ_ok (pcs := []) (by decide +kernel)
set_option maxRecDepth 100000 in
theorem cn_229_ok : c_chk cs_at 2 none kt_61 4000 cn_229 = true := c_chkQ_ok (pcs := []) (by decide +kernel)
set_option maxRecDepth 100000 in
theorem cn_230_ok : c_chk cs_at 2 none kt_61 4000 cn_230 = true := c_chkQ_ok (pcs := []) (by decide +kernel)
set_option maxRecDepth 100000 in
theorem cn_231_ok : c_chk cs_at 2 none kt_61 4000 cn_231 = true := c_chkQ_ok (pcs := []) (by decide +kernel)
set_option maxRecDepth 100000 in
theorem cn_232_ok : c_chk cs_at 2 none kt_61 4000 cn_232 = true := c_chkQ_ok (pcs := []) (by decide +kernel)
set_option maxRecDepth 100000 in
theorem cn_233_ok : c_chk cs_at 2 none kt_61 4000 cn_233 = true := c_chkQ_ok (pcs := []) (by decide +kernel)
set_option maxRecDepth 100000 in
theorem cn_234_ok : c_chk cs_at 2 none kt_61 4000 cn_234 = true := c_chkQ_ok (pcs := []) (by decide +kernel)
set_option maxRecDepth 100000 in
theorem cn_235_ok : c_chk cs_at 2 none kt_61 4000 cn_235 = true := c_chkQ_ok (pcs := []) (by decide +kernel)
set_option maxRecDepth 100000 in
theorem cn_236_ok : c_chk cs_at 2 none kt_61 4000 cn_236 = true := c_chkQ_ok (pcs := []) (by decide +kernel)
set_option maxRecDepth 100000 in
theorem cn_237_ok : c_chk cs_at 2 none kt_61 4000 cn_237 = true := c_chkQ_ok (pcs := []) (by decide +kernel)
set_option maxRecDepth 100000 in
theorem cn_238_ok : c_chk cs_at 2 none kt_61 4000 cn_238 = true := c_chkQ_ok (pcs := []) (by decide +kernel)
set_option maxRecDepth 100000 in
theorem cn_239_ok : c_chk cs_at 2 none kt_61 4000 cn_239 = true := c_chkQ_ok (pcs := []) (by decide +kernel)
