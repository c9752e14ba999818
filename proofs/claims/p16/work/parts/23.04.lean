/-! THE CONTRACTS CHECKED, 4 -/
set_option maxRecDepth 100000 in
theorem cn_343_ok : c_chk cs_at 3 (some FieldType.int) kt_81 4000 cn_343 = true := c_chkQ_ok (pcs := []) (by decide +kernel)
set_option maxRecDepth 100000 in
theorem cn_411_ok : c_chk cs_at 3 (some FieldType.int) kt_82 4000 cn_411 = true := c_chkQ_ok (pcs := [49]) (by decide +kernel)
set_option maxRecDepth 100000 in
theorem cn_395_ok : c_chk cs_at 2 (some FieldType.boolean) kt_83 4000 cn_395 = true := c_chkQ_ok (pcs := [28]) (by decide +kernel)
set_option maxRecDepth 100000 in
theorem cn_371_ok : c_chk cs_at 3 (some FieldType.boolean) kt_84 4000 cn_371 = true := c_chkQ_ok (pcs := []) (by decide +kernel)
set_option maxRecDepth 100000 in
theorem cn_325_ok : c_chk cs_at 4 (some FieldType.boolean) kt_85 4000 cn_325 = true := c_chkQ_ok (pcs := []) (by decide +kernel)
set_option maxRecDepth 100000 in
theorem cn_382_ok : c_chk cs_at 4 (some FieldType.boolean) kt_86 4000 cn_382 = true := c_chkQ_ok (pcs := []) (by decide +kernel)
set_option maxRecDepth 100000 in
theorem cn_345_ok : c_chk cs_at 1 (some FieldType.int) kt_87 4000 cn_345 = true := c_chkQ_ok (pcs := []) (by decide +kernel)
set_option maxRecDepth 100000 in
theorem cn_320_ok : c_chk cs_at 2 (some FieldType.boolean) kt_88 4000 cn_320 = true := c_chkQ_ok (pcs := []) (by decide +kernel)
set_option maxRecDepth 100000 in
theorem cn_410_ok : c_chk cs_at 3 (some FieldType.int) kt_89 4000 cn_410 = true := c_chkQ_ok (pcs := []) (by decide +kernel)
set_option maxRecDepth 100000 in
theorem cn_379_ok : c_chk cs_at 2 none kt_90 4000 cn_379 = true := c_chkQ_ok (pcs := []) (by decide +kernel)
set_option maxRecDepth 100000 in
theorem cn_377_ok : c_chk cs_at 4 (some FieldType.int) kt_91 4000 cn_377 = true := c_chkQ_ok (pcs := [25]) (by decide +kernel)
set_option maxRecDepth 100000 in
theorem cn_197_ok : c_chk cs_at 4 (some FieldType.int) kt_92 4000 cn_197 = true := c_chkQ_ok (pcs := [4]) (by decide +kernel)
set_option maxRecDepth 100000 in
theorem cn_198_ok : c_chk cs_at 4 (some FieldType.int) kt_92 4000 cn_198 = true := c_chkQ_ok (pcs := [4]) (by decide +kernel)
set_option maxRecDepth 100000 in
theorem cn_199_ok : c_chk cs_at 4 (some FieldType.int) kt_92 4000 cn_199 = true := c_chkQ_ok (pcs := [4]) (by decide +kernel)
set_option maxRecDepth 100000 in
theorem cn_200_ok : c_chk cs_at 4 (some FieldType.int) kt_92 4000 cn_200 = true := c_chkQ_ok (pcs := [4]) (by decide +kernel)
set_option maxRecDepth 100000 in
theorem cn_4_ok : c_chk cs_at 2 (some FieldType.int) kt_93 4000 cn_4 = true := c_chkQ_ok (pcs := [2]) (by decide +kernel)
set_option maxRecDepth 100000 in
theorem cn_403_ok : c_chk cs_at 4 (some FieldType.int) kt_94 4000 cn_403 = true := c_chkQ_ok (pcs := [21]) (by decide +kernel)
set_option maxRecDepth 100000 in
theorem cn_402_ok : c_chk cs_at 3 (some FieldType.int) kt_95 4000 cn_402 = true := c_chkQ_ok (pcs := [15]) (by decide +kernel)
set_option maxRecDepth 100000 in
theorem cn_388_ok : c_chk cs_at 3 (some FieldType.int) kt_96 4000 cn_388 = true := c_chkQ_ok (pcs := []) (by decide +kernel)
set_option maxRecDepth 100000 in
theorem cn_363_ok : c_chk cs_at 6 (some FieldType.int) kt_97 4000 cn_363 = true := c_chkQ_ok (pcs := [15]) (by decide +kernel)
set_option maxRecDepth 100000 in
theorem cn_364_ok : c_chk cs_at 6 (some FieldType.int) kt_97 4000 cn_364 = true := c_chkQ_ok (pcs := [15]) (by decide +kernel)
set_option maxRecDepth 100000 in
theorem cn_365_ok : c_chk cs_at 6 (some FieldType.int) kt_97 4000 cn_365 = true := c_chkQ_ok (pcs := [15]) (by decide +kernel)
set_option maxRecDepth 100000 in
theorem cn_435_ok : c_chk cs_at 2 (some FieldType.int) kt_98 4000 cn_435 = true := c_chkQ_ok (pcs := []) (by decide +kernel)
set_option maxRecDepth 100000 in
theorem cn_201_ok : c_chk cs_at 2 (some FieldType.int) kt_99 4000 cn_201 = true := c_chkQ_ok (pcs := []) (by decide +kernel)
set_option maxRecDepth 100000 in
theorem cn_13_ok : c_chk cs_at 5 (some FieldType.int) kt_100 4000 cn_13 = true := c_chkQ_ok (pcs := [5]) (by decide +kernel)
set_option maxRecDepth 100000 in
theorem cn_99_ok : c_chk cs_at 1 (some FieldType.int) kt_101 4000 cn_99 = true := c_chkQ_ok (pcs := []) (by decide +kernel)
set_option maxRecDepth 100000 in
theorem cn_431_ok : c_chk cs_at 5 none kt_102 4000 cn_431 = true := c_chkQ_ok (pcs := [16, 111]) (by decide +kernel)
set_option maxRecDepth 100000 in
theorem cn_391_ok : c_chk cs_at 3 none kt_103 4000 cn_391 = true := c_chkQ_ok (pcs := [2]) (by decide +kernel)
set_option maxRecDepth 100000 in
theorem cn_317_ok : c_chk cs_at 6 (some FieldType.boolean) kt_104 4000 cn_317 = true := c_chkQ_ok (pcs := [16]) (by decide +kernel)
set_option maxRecDepth 100000 in
theorem cn_16_ok : c_chk cs_at 2 (some FieldType.int) kt_105 4000 cn_16 = true := c_chkQ_ok (pcs := []) (by decide +kernel)
set_option maxRecDepth 100000 in
theorem cn_318_ok : c_chk cs_at 5 none kt_106 4000 cn_318 = true := c_chkQ_ok (pcs := []) (by decide +kernel)
set_option maxRecDepth 100000 in
theorem cn_370_ok : c_chk cs_at 5 none kt_106 4000 cn_370 = true := c_chkQ_ok (pcs := [20]) (by decide +kernel)
set_option maxRecDepth 100000 in
theorem cn_390_ok : c_chk cs_at 5 none kt_106 4000 cn_390 = true := c_chkQ_ok (pcs := [20]) (by decide +kernel)
set_option maxRecDepth 100000 in
theorem cn_412_ok : c_chk cs_at 5 none kt_106 4000 cn_412 = true := c_chkQ_ok (pcs := [20]) (by decide +kernel)
set_option maxRecDepth 100000 in
theorem cn_425_ok : c_chk cs_at 5 none kt_106 4000 cn_425 = true := c_chkQ_ok (pcs := [20]) (by decide +kernel)
set_option maxRecDepth 100000 in
theorem cn_202_ok : c_chk cs_at 4 none kt_107 4000 cn_202 = true := c_chkQ_ok (pcs := [7]) (by decide +kernel)
set_option maxRecDepth 100000 in
theorem cn_125_ok : c_chk cs_at 2 none kt_108 4000 cn_125 = true := c_chkQ_ok (pcs := [2]) (by decide +kernel)
set_option maxRecDepth 100000 in
theorem cn_436_ok : c_chk cs_at 2 (some FieldType.int) kt_109 4000 cn_436 = true := c_chkQ_ok (pcs := []) (by decide +kernel)
set_option maxRecDepth 100000 in
theorem cn_441_ok : c_chk cs_at 3 (some FieldType.int) kt_110 4000 cn_441 = true := c_chkQ_ok (pcs := [37]) (by decide +kernel)
set_option maxRecDepth 100000 in
theorem cn_438_ok : c_chk cs_at 7 (some FieldType.boolean) kt_111 4000 cn_438 = true := c_chkQ_ok (pcs := [23, 55]) (by decide +kernel)
set_option maxRecDepth 100000 in
theorem cn_392_ok : c_chk cs_at 5 (some FieldType.boolean) kt_112 4000 cn_392 = true := c_chkQ_ok (pcs := []) (by decide +kernel)
set_option maxRecDepth 100000 in
theorem cn_413_ok : c_chk cs_at 5 (some FieldType.boolean) kt_112 4000 cn_413 = true := c_chkQ_ok (pcs := [65]) (by decide +kernel)
set_option maxRecDepth 100000 in
theorem cn_426_ok : c_chk cs_at 5 (some FieldType.boolean) kt_112 4000 cn_426 = true := c_chkQ_ok (pcs := [65]) (by decide +kernel)
set_option maxRecDepth 100000 in
theorem cn_432_ok : c_chk cs_at 5 (some FieldType.boolean) kt_112 4000 cn_432 = true := c_chkQ_ok (pcs := [65]) (by decide +kernel)
set_option maxRecDepth 100000 in
theorem cn_208_ok : c_chk cs_at 5 (some FieldType.boolean) kt_113 4000 cn_208 = true := c_chkQ_ok (pcs := []) (by decide +kernel)
set_option maxRecDepth 100000 in
theorem cn_117_ok : c_chk cs_at 3 (some FieldType.int) kt_114 4000 cn_117 = true := c_chkQ_ok (pcs := []) (by decide +kernel)
set_option maxRecDepth 100000 in
theorem cn_401_ok : c_chk cs_at 5 (some FieldType.int) kt_115 4000 cn_401 = true := c_chkQ_ok (pcs := [6]) (by decide +kernel)
set_option maxRecDepth 100000 in
theorem cn_409_ok : c_chk cs_at 4 (some FieldType.int) kt_116 4000 cn_409 = true := c_chkQ_ok (pcs := []) (by decide +kernel)
set_option maxRecDepth 100000 in
theorem cn_387_ok : c_chk cs_at 3 (some FieldType.int) kt_117 4000 cn_387 = true := c_chkQ_ok (pcs := []) (by decide +kernel)
set_option maxRecDepth 100000 in
theorem cn_362_ok : c_chk cs_at 4 (some FieldType.int) kt_118 4000 cn_362 = true := c_chkQ_ok (pcs := []) (by decide +kernel)
set_option maxRecDepth 100000 in
theorem cn_194_ok : c_chk cs_at 6 (some FieldType.int) kt_119 4000 cn_194 = true := c_chkQ_ok (pcs := [24]) (by decide +kernel)
set_option maxRecDepth 100000 in
theorem cn_296_ok : c_chk cs_at 5 (some FieldType.int) kt_120 4000 cn_296 = true := c_chkQ_ok (pcs := []) (by decide +kernel)
set_option maxRecDepth 100000 in
theorem cn_314_ok : c_chk cs_at 3 (some FieldType.int) kt_121 4000 cn_314 = true := c_chkQ_ok (pcs := []) (by decide +kernel)
set_option maxRecDepth 100000 in
theorem cn_295_ok : c_chk cs_at 12 none kt_122 4000 cn_295 = true := c_chkQ_ok (pcs := [28]) (by decide +kernel)
set_option maxRecDepth 100000 in
theorem cn_376_ok : c_chk cs_at 5 (some FieldType.int) kt_123 4000 cn_376 = true := c_chkQ_ok (pcs := [29, 53, 60, 138]) (by decide +kernel)
set_option maxRecDepth 100000 in
theorem cn_385_ok : c_chk cs_at 7 (some FieldType.int) kt_125 4000 cn_385 = true := c_chkQ_ok (pcs := [34]) (by decide +kernel)
set_option maxRecDepth 100000 in
theorem cn_408_ok : c_chk cs_at 5 (some FieldType.int) kt_126 4000 cn_408 = true := c_chkQ_ok (pcs := [9]) (by decide +kernel)
set_option maxRecDepth 100000 in
theorem cn_386_ok : c_chk cs_at 9 none kt_127 4000 cn_386 = true := c_chkQ_ok (pcs := [13]) (by decide +kernel)
set_option maxRecDepth 100000 in
theorem cn_116_ok : c_chk cs_at 2 (some FieldType.int) kt_128 4000 cn_116 = true := c_chkQ_ok (pcs := []) (by decide +kernel)
set_option maxRecDepth 100000 in
theorem cn_460_ok : c_chk cs_at 3 (some FieldType.int) kt_129 4000 cn_460 = true := c_chkQ_ok (pcs := [44]) (by decide +kernel)
set_option maxRecDepth 100000 in
theorem cn_458_ok : c_chk cs_at 3 none kt_130 4000 cn_458 = true := c_chkQ_ok (pcs := []) (by decide +kernel)
