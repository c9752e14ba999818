/-! THE CONTRACTS CHECKED, 4 -/
set_option maxRecDepth 100000 in
theorem cn_344_ok : c_chk cs_at 3 (some FieldType.int) kt_81 4000 cn_344 = true := c_chkQ_ok (pcs := []) (by decide +kernel)
set_option maxRecDepth 100000 in
theorem cn_412_ok : c_chk cs_at 3 (some FieldType.int) kt_82 4000 cn_412 = true := c_chkQ_ok (pcs := [49]) (by decide +kernel)
set_option maxRecDepth 100000 in
theorem cn_396_ok : c_chk cs_at 2 (some FieldType.boolean) kt_83 4000 cn_396 = true := c_chkQ_ok (pcs := [28]) (by decide +kernel)
set_option maxRecDepth 100000 in
theorem cn_372_ok : c_chk cs_at 3 (some FieldType.boolean) kt_84 4000 cn_372 = true := c_chkQ_ok (pcs := []) (by decide +kernel)
set_option maxRecDepth 100000 in
theorem cn_326_ok : c_chk cs_at 4 (some FieldType.boolean) kt_85 4000 cn_326 = true := c_chkQ_ok (pcs := []) (by decide +kernel)
set_option maxRecDepth 100000 in
theorem cn_383_ok : c_chk cs_at 4 (some FieldType.boolean) kt_86 4000 cn_383 = true := c_chkQ_ok (pcs := []) (by decide +kernel)
set_option maxRecDepth 100000 in
theorem cn_346_ok : c_chk cs_at 1 (some FieldType.int) kt_87 4000 cn_346 = true := c_chkQ_ok (pcs := []) (by decide +kernel)
set_option maxRecDepth 100000 in
theorem cn_321_ok : c_chk cs_at 2 (some FieldType.boolean) kt_88 4000 cn_321 = true := c_chkQ_ok (pcs := []) (by decide +kernel)
set_option maxRecDepth 100000 in
theorem cn_411_ok : c_chk cs_at 3 (some FieldType.int) kt_89 4000 cn_411 = true := c_chkQ_ok (pcs := []) (by decide +kernel)
set_option maxRecDepth 100000 in
theorem cn_380_ok : c_chk cs_at 2 none kt_90 4000 cn_380 = true := c_chkQ_ok (pcs := []) (by decide +kernel)
set_option maxRecDepth 100000 in
theorem cn_378_ok : c_chk cs_at 4 (some FieldType.int) kt_91 4000 cn_378 = true := c_chkQ_ok (pcs := [25]) (by decide +kernel)
set_option maxRecDepth 100000 in
theorem cn_198_ok : c_chk cs_at 4 (some FieldType.int) kt_92 4000 cn_198 = true := c_chkQ_ok (pcs := [4]) (by decide +kernel)
set_option maxRecDepth 100000 in
theorem cn_199_ok : c_chk cs_at 4 (some FieldType.int) kt_92 4000 cn_199 = true := c_chkQ_ok (pcs := [4]) (by decide +kernel)
set_option maxRecDepth 100000 in
theorem cn_200_ok : c_chk cs_at 4 (some FieldType.int) kt_92 4000 cn_200 = true := c_chkQ_ok (pcs := [4]) (by decide +kernel)
set_option maxRecDepth 100000 in
theorem cn_201_ok : c_chk cs_at 4 (some FieldType.int) kt_92 4000 cn_201 = true := c_chkQ_ok (pcs := [4]) (by decide +kernel)
set_option maxRecDepth 100000 in
theorem cn_4_ok : c_chk cs_at 2 (some FieldType.int) kt_93 4000 cn_4 = true := c_chkQ_ok (pcs := [2]) (by decide +kernel)
set_option maxRecDepth 100000 in
theorem cn_404_ok : c_chk cs_at 4 (some FieldType.int) kt_94 4000 cn_404 = true := c_chkQ_ok (pcs := [21]) (by decide +kernel)
set_option maxRecDepth 100000 in
theorem cn_403_ok : c_chk cs_at 3 (some FieldType.int) kt_95 4000 cn_403 = true := c_chkQ_ok (pcs := [15]) (by decide +kernel)
set_option maxRecDepth 100000 in
theorem cn_389_ok : c_chk cs_at 3 (some FieldType.int) kt_96 4000 cn_389 = true := c_chkQ_ok (pcs := []) (by decide +kernel)
set_option maxRecDepth 100000 in
theorem cn_364_ok : c_chk cs_at 6 (some FieldType.int) kt_97 4000 cn_364 = true := c_chkQ_ok (pcs := [15]) (by decide +kernel)
set_option maxRecDepth 100000 in
theorem cn_365_ok : c_chk cs_at 6 (some FieldType.int) kt_97 4000 cn_365 = true := c_chkQ_ok (pcs := [15]) (by decide +kernel)
set_option maxRecDepth 100000 in
theorem cn_366_ok : c_chk cs_at 6 (some FieldType.int) kt_97 4000 cn_366 = true := c_chkQ_ok (pcs := [15]) (by decide +kernel)
set_option maxRecDepth 100000 in
theorem cn_436_ok : c_chk cs_at 2 (some FieldType.int) kt_98 4000 cn_436 = true := c_chkQ_ok (pcs := []) (by decide +kernel)
set_option maxRecDepth 100000 in
theorem cn_202_ok : c_chk cs_at 2 (some FieldType.int) kt_99 4000 cn_202 = true := c_chkQ_ok (pcs := []) (by decide +kernel)
set_option maxRecDepth 100000 in
theorem cn_13_ok : c_chk cs_at 5 (some FieldType.int) kt_100 4000 cn_13 = true := c_chkQ_ok (pcs := [5]) (by decide +kernel)
set_option maxRecDepth 100000 in
theorem cn_100_ok : c_chk cs_at 1 (some FieldType.int) kt_101 4000 cn_100 = true := c_chkQ_ok (pcs := []) (by decide +kernel)
set_option maxRecDepth 100000 in
theorem cn_432_ok : c_chk cs_at 5 none kt_102 4000 cn_432 = true := c_chkQ_ok (pcs := [16, 111]) (by decide +kernel)
set_option maxRecDepth 100000 in
theorem cn_392_ok : c_chk cs_at 3 none kt_103 4000 cn_392 = true := c_chkQ_ok (pcs := [2]) (by decide +kernel)
set_option maxRecDepth 100000 in
theorem cn_318_ok : c_chk cs_at 6 (some FieldType.boolean) kt_104 4000 cn_318 = true := c_chkQ_ok (pcs := [16]) (by decide +kernel)
set_option maxRecDepth 100000 in
theorem cn_16_ok : c_chk cs_at 2 (some FieldType.int) kt_105 4000 cn_16 = true := c_chkQ_ok (pcs := []) (by decide +kernel)
set_option maxRecDepth 100000 in
theorem cn_319_ok : c_chk cs_at 5 none kt_106 4000 cn_319 = true := c_chkQ_ok (pcs := []) (by decide +kernel)
set_option maxRecDepth 100000 in
theorem cn_371_ok : c_chk cs_at 5 none kt_106 4000 cn_371 = true := c_chkQ_ok (pcs := [20]) (by decide +kernel)
set_option maxRecDepth 100000 in
theorem cn_391_ok : c_chk cs_at 5 none kt_106 4000 cn_391 = true := c_chkQ_ok (pcs := [20]) (by decide +kernel)
set_option maxRecDepth 100000 in
theorem cn_413_ok : c_chk cs_at 5 none kt_106 4000 cn_413 = true := c_chkQ_ok (pcs := [20]) (by decide +kernel)
set_option maxRecDepth 100000 in
theorem cn_426_ok : c_chk cs_at 5 none kt_106 4000 cn_426 = true := c_chkQ_ok (pcs := [20]) (by decide +kernel)
set_option maxRecDepth 100000 in
theorem cn_203_ok : c_chk cs_at 4 none kt_107 4000 cn_203 = true := c_chkQ_ok (pcs := [7]) (by decide +kernel)
set_option maxRecDepth 100000 in
theorem cn_126_ok : c_chk cs_at 2 none kt_108 4000 cn_126 = true := c_chkQ_ok (pcs := [2]) (by decide +kernel)
set_option maxRecDepth 100000 in
theorem cn_437_ok : c_chk cs_at 2 (some FieldType.int) kt_109 4000 cn_437 = true := c_chkQ_ok (pcs := []) (by decide +kernel)
set_option maxRecDepth 100000 in
theorem cn_442_ok : c_chk cs_at 3 (some FieldType.int) kt_110 4000 cn_442 = true := c_chkQ_ok (pcs := [37]) (by decide +kernel)
set_option maxRecDepth 100000 in
theorem cn_439_ok : c_chk cs_at 7 (some FieldType.boolean) kt_111 4000 cn_439 = true := c_chkQ_ok (pcs := [23, 55]) (by decide +kernel)
set_option maxRecDepth 100000 in
theorem cn_393_ok : c_chk cs_at 5 (some FieldType.boolean) kt_112 4000 cn_393 = true := c_chkQ_ok (pcs := []) (by decide +kernel)
set_option maxRecDepth 100000 in
theorem cn_414_ok : c_chk cs_at 5 (some FieldType.boolean) kt_112 4000 cn_414 = true := c_chkQ_ok (pcs := [65]) (by decide +kernel)
set_option maxRecDepth 100000 in
theorem cn_427_ok : c_chk cs_at 5 (some FieldType.boolean) kt_112 4000 cn_427 = true := c_chkQ_ok (pcs := [65]) (by decide +kernel)
set_option maxRecDepth 100000 in
theorem cn_433_ok : c_chk cs_at 5 (some FieldType.boolean) kt_112 4000 cn_433 = true := c_chkQ_ok (pcs := [65]) (by decide +kernel)
set_option maxRecDepth 100000 in
theorem cn_209_ok : c_chk cs_at 5 (some FieldType.boolean) kt_113 4000 cn_209 = true := c_chkQ_ok (pcs := []) (by decide +kernel)
set_option maxRecDepth 100000 in
theorem cn_118_ok : c_chk cs_at 3 (some FieldType.int) kt_114 4000 cn_118 = true := c_chkQ_ok (pcs := []) (by decide +kernel)
set_option maxRecDepth 100000 in
theorem cn_402_ok : c_chk cs_at 5 (some FieldType.int) kt_115 4000 cn_402 = true := c_chkQ_ok (pcs := [6]) (by decide +kernel)
set_option maxRecDepth 100000 in
theorem cn_410_ok : c_chk cs_at 4 (some FieldType.int) kt_116 4000 cn_410 = true := c_chkQ_ok (pcs := []) (by decide +kernel)
set_option maxRecDepth 100000 in
theorem cn_388_ok : c_chk cs_at 3 (some FieldType.int) kt_117 4000 cn_388 = true := c_chkQ_ok (pcs := []) (by decide +kernel)
set_option maxRecDepth 100000 in
theorem cn_363_ok : c_chk cs_at 4 (some FieldType.int) kt_118 4000 cn_363 = true := c_chkQ_ok (pcs := []) (by decide +kernel)
set_option maxRecDepth 100000 in
theorem cn_195_ok : c_chk cs_at 6 (some FieldType.int) kt_119 4000 cn_195 = true := c_chkQ_ok (pcs := [24]) (by decide +kernel)
set_option maxRecDepth 100000 in
theorem cn_297_ok : c_chk cs_at 5 (some FieldType.int) kt_120 4000 cn_297 = true := c_chkQ_ok (pcs := []) (by decide +kernel)
set_option maxRecDepth 100000 in
theorem cn_315_ok : c_chk cs_at 3 (some FieldType.int) kt_121 4000 cn_315 = true := c_chkQ_ok (pcs := []) (by decide +kernel)
set_option maxRecDepth 100000 in
theorem cn_296_ok : c_chk cs_at 12 none kt_122 4000 cn_296 = true := c_chkQ_ok (pcs := [28]) (by decide +kernel)
set_option maxRecDepth 100000 in
theorem cn_377_ok : c_chk cs_at 5 (some FieldType.int) kt_123 4000 cn_377 = true := c_chkQ_ok (pcs := [29, 53, 60, 138]) (by decide +kernel)
set_option maxRecDepth 100000 in
theorem cn_386_ok : c_chk cs_at 7 (some FieldType.int) kt_125 4000 cn_386 = true := c_chkQ_ok (pcs := [34]) (by decide +kernel)
set_option maxRecDepth 100000 in
theorem cn_409_ok : c_chk cs_at 5 (some FieldType.int) kt_126 4000 cn_409 = true := c_chkQ_ok (pcs := [9]) (by decide +kernel)
set_option maxRecDepth 100000 in
theorem cn_387_ok : c_chk cs_at 9 none kt_127 4000 cn_387 = true := c_chkQ_ok (pcs := [13]) (by decide +kernel)
set_option maxRecDepth 100000 in
theorem cn_117_ok : c_chk cs_at 2 (some FieldType.int) kt_128 4000 cn_117 = true := c_chkQ_ok (pcs := []) (by decide +kernel)
set_option maxRecDepth 100000 in
theorem cn_461_ok : c_chk cs_at 3 (some FieldType.int) kt_129 4000 cn_461 = true := c_chkQ_ok (pcs := [44]) (by decide +kernel)
set_option maxRecDepth 100000 in
theorem cn_459_ok : c_chk cs_at 3 none kt_130 4000 cn_459 = true := c_chkQ_ok (pcs := []) (by decide +kernel)
