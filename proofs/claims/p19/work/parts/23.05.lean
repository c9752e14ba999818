/-! THE CONTRACTS CHECKED, 5 -/
set_option maxRecDepth 100000 in
theorem cn_441_ok : c_chk cs_at 3 (some FieldType.int) kt_110 4000 cn_441 = true := c_chkQ_ok (pcs := [37]) (by decide +kernel)
set_option maxRecDepth 100000 in
theorem cn_438_ok : c_chk cs_at 7 (some FieldType.boolean) kt_111 4000 cn_438 = true := c_chkQ_ok (pcs := [23, 55]) (by decide +kernel)
set_option maxRecDepth 100000 in
theorem cn_392_ok : c_chk cs_at 5 (some FieldType.boolean) kt_112 4000 cn_392 = true := c_chkQ_ok (pcs := []) (by decide +kernel)
set_option maxRecDepth 100000 in
theorem cn_413_ok : c_chk cs_at 5 (some FieldType.boolean) kt_112 4000 cn_413 = true := c_chkQ_ok (pcs := [65]) (by decide +kernel)
set_option maxRecDepth 100000 in
theorem cn_426_ok : c_chk cs_at 5 (some FieldType.boolean) kt_112 4000 cn_426 = true := c_chkQ_ok (pcs := [65]) (by decide +kernel)
set_option maxRecDepth 100000 in
theorem cn_432_ok : c_chk cs_at 5 (some FieldType.boolean) kt_112 4000 cn_432 = true := c_chkQ_ok (pcs := [65]) (by decide +kernel)
set_option maxRecDepth 100000 in
theorem cn_208_ok : c_chk cs_at 5 (some FieldType.boolean) kt_113 4000 cn_208 = true := c_chkQ_ok (pcs := []) (by decide +kernel)
set_option maxRecDepth 100000 in
theorem cn_117_ok : c_chk cs_at 3 (some FieldType.int) kt_114 4000 cn_117 = true := c_chkQ_ok (pcs := []) (by decide +kernel)
set_option maxRecDepth 100000 in
theorem cn_401_ok : c_chk cs_at 5 (some FieldType.int) kt_115 4000 cn_401 = true := c_chkQ_ok (pcs := [6]) (by decide +kernel)
set_option maxRecDepth 100000 in
theorem cn_409_ok : c_chk cs_at 4 (some FieldType.int) kt_116 4000 cn_409 = true := c_chkQ_ok (pcs := []) (by decide +kernel)
set_option maxRecDepth 100000 in
theorem cn_387_ok : c_chk cs_at 3 (some FieldType.int) kt_117 4000 cn_387 = true := c_chkQ_ok (pcs := []) (by decide +kernel)
set_option maxRecDepth 100000 in
theorem cn_362_ok : c_chk cs_at 4 (some FieldType.int) kt_118 4000 cn_362 = true := c_chkQ_ok (pcs := []) (by decide +kernel)
set_option maxRecDepth 100000 in
theorem cn_194_ok : c_chk cs_at 6 (some FieldType.int) kt_119 4000 cn_194 = true := c_chkQ_ok (pcs := [24]) (by decide +kernel)
set_option maxRecDepth 100000 in
theorem cn_296_ok : c_chk cs_at 5 (some FieldType.int) kt_120 4000 cn_296 = true := c_chkQ_ok (pcs := []) (by decide +kernel)
set_option maxRecDepth 100000 in
theorem cn_314_ok : c_chk cs_at 3 (some FieldType.int) kt_121 4000 cn_314 = true := c_chkQ_ok (pcs := []) (by decide +kernel)
set_option maxRecDepth 100000 in
theorem cn_295_ok : c_chk cs_at 12 none kt_122 4000 cn_295 = true := c_chkQ_ok (pcs := [28]) (by decide +kernel)
set_option maxRecDepth 100000 in
theorem cn_376_ok : c_chk cs_at 5 (some FieldType.int) kt_123 4000 cn_376 = true := c_chkQ_ok (pcs := [29, 53, 60, 138]) (by decide +kernel)
set_option maxRecDepth 100000 in
theorem cn_385_ok : c_chk cs_at 7 (some FieldType.int) kt_125 4000 cn_385 = true := c_chkQ_ok (pcs := [34]) (by decide +kernel)
set_option maxRecDepth 100000 in
theorem cn_408_ok : c_chk cs_at 5 (some FieldType.int) kt_126 4000 cn_408 = true := c_chkQ_ok (pcs := [9]) (by decide +kernel)
set_option maxRecDepth 100000 in
theorem cn_386_ok : c_chk cs_at 9 none kt_127 4000 cn_386 = true := c_chkQ_ok (pcs := [13]) (by decide +kernel)
set_option maxRecDepth 100000 in
theorem cn_116_ok : c_chk cs_at 2 (some FieldType.int) kt_128 4000 cn_116 = true := c_chkQ_ok (pcs := []) (by decide +kernel)
set_option maxRecDepth 100000 in
theorem cn_460_ok : c_chk cs_at 3 (some FieldType.int) kt_129 4000 cn_460 = true := c_chkQ_ok (pcs := [44]) (by decide +kernel)
set_option maxRecDepth 100000 in
theorem cn_458_ok : c_chk cs_at 3 none kt_130 4000 cn_458 = true := c_chkQ_ok (pcs := []) (by decide +kernel)
set_option maxRecDepth 100000 in
theorem cn_269_ok : c_chk cs_at 8 none kt_131 4000 cn_269 = true := c_chkQ_ok (pcs := []) (by decide +kernel)
set_option maxRecDepth 100000 in
theorem cn_414_ok : c_chk cs_at 8 none kt_131 4000 cn_414 = true := c_chkQ_ok (pcs := [76]) (by decide +kernel)
set_option maxRecDepth 100000 in
theorem cn_433_ok : c_chk cs_at 8 none kt_131 4000 cn_433 = true := c_chkQ_ok (pcs := [76]) (by decide +kernel)
set_option maxRecDepth 100000 in
theorem cn_443_ok : c_chk cs_at 8 none kt_131 4000 cn_443 = true := c_chkQ_ok (pcs := [76]) (by decide +kernel)
set_option maxRecDepth 100000 in
theorem cn_449_ok : c_chk cs_at 8 none kt_131 4000 cn_449 = true := c_chkQ_ok (pcs := [76]) (by decide +kernel)
set_option maxRecDepth 100000 in
theorem cn_455_ok : c_chk cs_at 8 none kt_131 4000 cn_455 = true := c_chkQ_ok (pcs := [76]) (by decide +kernel)
set_option maxRecDepth 100000 in
theorem cn_393_ok : c_chk cs_at 5 none kt_132 4000 cn_393 = true := c_chkQ_ok (pcs := []) (by decide +kernel)
set_option maxRecDepth 100000 in
theorem cn_427_ok : c_chk cs_at 5 none kt_132 4000 cn_427 = true := c_chkQ_ok (pcs := []) (by decide +kernel)
set_option maxRecDepth 100000 in
theorem cn_439_ok : c_chk cs_at 5 none kt_132 4000 cn_439 = true := c_chkQ_ok (pcs := []) (by decide +kernel)
set_option maxRecDepth 100000 in
theorem cn_446_ok : c_chk cs_at 5 none kt_132 4000 cn_446 = true := c_chkQ_ok (pcs := []) (by decide +kernel)
set_option maxRecDepth 100000 in
theorem cn_452_ok : c_chk cs_at 5 none kt_132 4000 cn_452 = true := c_chkQ_ok (pcs := []) (by decide +kernel)
set_option maxRecDepth 100000 in
theorem cn_404_ok : c_chk cs_at 6 (some FieldType.int) kt_133 4000 cn_404 = true := c_chkQ_ok (pcs := [20]) (by decide +kernel)
set_option maxRecDepth 100000 in
theorem cn_380_ok : c_chk cs_at 3 (some FieldType.int) kt_134 4000 cn_380 = true := c_chkQ_ok (pcs := []) (by decide +kernel)
set_option maxRecDepth 100000 in
theorem cn_383_ok : c_chk cs_at 10 (some FieldType.int) kt_135 4000 cn_383 = true := c_chkQ_ok (pcs := [88]) (by decide +kernel)
set_option maxRecDepth 100000 in
theorem cn_340_ok : c_chk cs_at 10 (some FieldType.int) kt_136 4000 cn_340 = true := c_chkQ_ok (pcs := []) (by decide +kernel)
set_option maxRecDepth 100000 in
theorem cn_346_ok : c_chk cs_at 4 (some FieldType.int) kt_137 4000 cn_346 = true := c_chkQ_ok (pcs := [6]) (by decide +kernel)
set_option maxRecDepth 100000 in
theorem cn_474_ok : c_chk cs_at 3 (some FieldType.int) kt_138 4000 cn_474 = true := c_chkQ_ok (pcs := []) (by decide +kernel)
set_option maxRecDepth 100000 in
theorem cn_472_ok : c_chk cs_at 5 none kt_139 4000 cn_472 = true := c_chkQ_ok (pcs := [38]) (by decide +kernel)
set_option maxRecDepth 100000 in
theorem cn_32_ok : c_chk cs_at 4 none kt_140 4000 cn_32 = true := c_chkQ_ok (pcs := []) (by decide +kernel)
set_option maxRecDepth 100000 in
theorem cn_415_ok : c_chk cs_at 4 none kt_140 4000 cn_415 = true := c_chkQ_ok (pcs := []) (by decide +kernel)
set_option maxRecDepth 100000 in
theorem cn_434_ok : c_chk cs_at 4 none kt_140 4000 cn_434 = true := c_chkQ_ok (pcs := []) (by decide +kernel)
set_option maxRecDepth 100000 in
theorem cn_444_ok : c_chk cs_at 4 none kt_140 4000 cn_444 = true := c_chkQ_ok (pcs := []) (by decide +kernel)
set_option maxRecDepth 100000 in
theorem cn_450_ok : c_chk cs_at 4 none kt_140 4000 cn_450 = true := c_chkQ_ok (pcs := []) (by decide +kernel)
set_option maxRecDepth 100000 in
theorem cn_456_ok : c_chk cs_at 4 none kt_140 4000 cn_456 = true := c_chkQ_ok (pcs := []) (by decide +kernel)
set_option maxRecDepth 100000 in
theorem cn_462_ok : c_chk cs_at 4 none kt_140 4000 cn_462 = true := c_chkQ_ok (pcs := []) (by decide +kernel)
set_option maxRecDepth 100000 in
theorem cn_466_ok : c_chk cs_at 4 none kt_140 4000 cn_466 = true := c_chkQ_ok (pcs := []) (by decide +kernel)
set_option maxRecDepth 100000 in
theorem cn_470_ok : c_chk cs_at 4 none kt_140 4000 cn_470 = true := c_chkQ_ok (pcs := []) (by decide +kernel)
set_option maxRecDepth 100000 in
theorem cn_394_ok : c_chk cs_at 6 none kt_141 4000 cn_394 = true := c_chkQ_ok (pcs := []) (by decide +kernel)
set_option maxRecDepth 100000 in
theorem cn_428_ok : c_chk cs_at 6 none kt_141 4000 cn_428 = true := c_chkQ_ok (pcs := []) (by decide +kernel)
set_option maxRecDepth 100000 in
theorem cn_440_ok : c_chk cs_at 6 none kt_141 4000 cn_440 = true := c_chkQ_ok (pcs := []) (by decide +kernel)
set_option maxRecDepth 100000 in
theorem cn_447_ok : c_chk cs_at 6 none kt_141 4000 cn_447 = true := c_chkQ_ok (pcs := []) (by decide +kernel)
set_option maxRecDepth 100000 in
theorem cn_453_ok : c_chk cs_at 6 none kt_141 4000 cn_453 = true := c_chkQ_ok (pcs := []) (by decide +kernel)
set_option maxRecDepth 100000 in
theorem cn_459_ok : c_chk cs_at 6 none kt_141 4000 cn_459 = true := c_chkQ_ok (pcs := []) (by decide +kernel)
set_option maxRecDepth 100000 in
theorem cn_464_ok : c_chk cs_at 6 none kt_141 4000 cn_464 = true := c_chkQ_ok (pcs := []) (by decide +kernel)
