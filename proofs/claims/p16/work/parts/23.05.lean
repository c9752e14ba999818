/-! THE CONTRACTS CHECKED, 5 -/
set_option maxRecDepth 100000 in
theorem cn_269_ok : c_chk cs_at 8 none kt_131 4000 cn_269 = true := c_chkQ_ok (pcs := []) (by decide +kernel)
set_option maxRecDepth 100000 in
theorem cn_414_ok : c_chk cs_at 8 none kt_131 4000 cn_414 = true := c_chkQ_ok (pcs := [76]) (by decide +kernel)
set_option maxRecDepth 100000 in
theorem cn_433_ok : c_chk cs_at 8 none kt_131 4000 cn_433 = true := c_chkQ_ok (pcs := [76]) (by decide +kernel)
set_option maxRecDepth 100000 in
theorem cn_443_ok : c_chk cs_at 8 none kt_131 4000 cn_443 = true := c_chkQ_ok (pcs := [76]) (by decide +kernel)
set_option maxRecDepth 100000 in
theorem cn_449_ok : c_chk cs_at 8 none kt_131 4000 cn_449 = true := c_chkQ_ok (pcs := [76]) (by decide +kernel)
set_option maxRecDepth 100000 in
theorem cn_455_ok : c_chk cs_at 8 none kt_131 4000 cn_455 = true := c_chkQ_ok (pcs := [76]) (by decide +kernel)
set_option maxRecDepth 100000 in
theorem cn_393_ok : c_chk cs_at 5 none kt_132 4000 cn_393 = true := c_chkQ_ok (pcs := []) (by decide +kernel)
set_option maxRecDepth 100000 in
theorem cn_427_ok : c_chk cs_at 5 none kt_132 4000 cn_427 = true := c_chkQ_ok (pcs := []) (by decide +kernel)
set_option maxRecDepth 100000 in
theorem cn_439_ok : c_chk cs_at 5 none kt_132 4000 cn_439 = true := c_chkQ_ok (pcs := []) (by decide +kernel)
set_option maxRecDepth 100000 in
theorem cn_446_ok : c_chk cs_at 5 none kt_132 4000 cn_446 = true := c_chkQ_ok (pcs := []) (by decide +kernel)
set_option maxRecDepth 100000 in
theorem cn_452_ok : c_chk cs_at 5 none kt_132 4000 cn_452 = true := c_chkQ_ok (pcs := []) (by decide +kernel)
set_option maxRecDepth 100000 in
theorem cn_404_ok : c_chk cs_at 6 (some FieldType.int) kt_133 4000 cn_404 = true := c_chkQ_ok (pcs := [20]) (by decide +kernel)
set_option maxRecDepth 100000 in
theorem cn_380_ok : c_chk cs_at 3 (some FieldType.int) kt_134 4000 cn_380 = true := c_chkQ_ok (pcs := []) (by decide +kernel)
set_option maxRecDepth 100000 in
theorem cn_383_ok : c_chk cs_at 10 (some FieldType.int) kt_135 4000 cn_383 = true := c_chkQ_ok (pcs := [88]) (by decide +kernel)
set_option maxRecDepth 100000 in
theorem cn_340_ok : c_chk cs_at 10 (some FieldType.int) kt_136 4000 cn_340 = true := c_chkQ_ok (pcs := []) (by decide +kernel)
set_option maxRecDepth 100000 in
theorem cn_346_ok : c_chk cs_at 4 (some FieldType.int) kt_137 4000 cn_346 = true := c_chkQ_ok (pcs := [6]) (by decide +kernel)
set_option maxRecDepth 100000 in
theorem cn_474_ok : c_chk cs_at 3 (some FieldType.int) kt_138 4000 cn_474 = true := c_chkQ_ok (pcs := []) (by decide +kernel)
set_option maxRecDepth 100000 in
theorem cn_472_ok : c_chk cs_at 5 none kt_139 4000 cn_472 = true := c_chkQ_ok (pcs := [38]) (by decide +kernel)
set_option maxRecDepth 100000 in
theorem cn_32_ok : c_chk cs_at 4 none kt_140 4000 cn_32 = true := c_chkQ_ok (pcs := []) (by decide +kernel)
set_option maxRecDepth 100000 in
theorem cn_415_ok : c_chk cs_at 4 none kt_140 4000 cn_415 = true := c_chkQ_ok (pcs := []) (by decide +kernel)
set_option maxRecDepth 100000 in
theorem cn_434_ok : c_chk cs_at 4 none kt_140 4000 cn_434 = true := c_chkQ_ok (pcs := []) (by decide +kernel)
set_option maxRecDepth 100000 in
theorem cn_444_ok : c_chk cs_at 4 none kt_140 4000 cn_444 = true := c_chkQ_ok (pcs := []) (by decide +kernel)
set_option maxRecDepth 100000 in
theorem cn_450_ok : c_chk cs_at 4 none kt_140 4000 cn_450 = true := c_chkQ_ok (pcs := []) (by decide +kernel)
set_option maxRecDepth 100000 in
theorem cn_456_ok : c_chk cs_at 4 none kt_140 4000 cn_456 = true := c_chkQ_ok (pcs := []) (by decide +kernel)
set_option maxRecDepth 100000 in
theorem cn_462_ok : c_chk cs_at 4 none kt_140 4000 cn_462 = true := c_chkQ_ok (pcs := []) (by decide +kernel)
set_option maxRecDepth 100000 in
theorem cn_466_ok : c_chk cs_at 4 none kt_140 4000 cn_466 = true := c_chkQ_ok (pcs := []) (by decide +kernel)
set_option maxRecDepth 100000 in
theorem cn_470_ok : c_chk cs_at 4 none kt_140 4000 cn_470 = true := c_chkQ_ok (pcs := []) (by decide +kernel)
set_option maxRecDepth 100000 in
theorem cn_394_ok : c_chk cs_at 6 none kt_141 4000 cn_394 = true := c_chkQ_ok (pcs := []) (by decide +kernel)
set_option maxRecDepth 100000 in
theorem cn_428_ok : c_chk cs_at 6 none kt_141 4000 cn_428 = true := c_chkQ_ok (pcs := []) (by decide +kernel)
set_option maxRecDepth 100000 in
theorem cn_440_ok : c_chk cs_at 6 none kt_141 4000 cn_440 = true := c_chkQ_ok (pcs := []) (by decide +kernel)
set_option maxRecDepth 100000 in
theorem cn_447_ok : c_chk cs_at 6 none kt_141 4000 cn_447 = true := c_chkQ_ok (pcs := []) (by decide +kernel)
set_option maxRecDepth 100000 in
theorem cn_453_ok : c_chk cs_at 6 none kt_141 4000 cn_453 = true := c_chkQ_ok (pcs := []) (by decide +kernel)
set_option maxRecDepth 100000 in
theorem cn_459_ok : c_chk cs_at 6 none kt_141 4000 cn_459 = true := c_chkQ_ok (pcs := []) (by decide +kernel)
set_option maxRecDepth 100000 in
theorem cn_464_ok : c_chk cs_at 6 none kt_141 4000 cn_464 = true := c_chkQ_ok (pcs := []) (by decide +kernel)
set_option maxRecDepth 100000 in
theorem cn_468_ok : c_chk cs_at 6 none kt_141 4000 cn_468 = true := c_chkQ_ok (pcs := []) (by decide +kernel)
set_option maxRecDepth 100000 in
theorem cn_33_ok : c_chk cs_at 4 (some FieldType.long) kt_142 4000 cn_33 = true := c_chkQ_ok (pcs := [4]) (by decide +kernel)
set_option maxRecDepth 100000 in
theorem cn_473_ok : c_chk cs_at 4 (some FieldType.int) kt_143 4000 cn_473 = true := c_chkQ_ok (pcs := [38]) (by decide +kernel)
set_option maxRecDepth 100000 in
theorem cn_384_ok : c_chk cs_at 5 (some FieldType.int) kt_144 4000 cn_384 = true := c_chkQ_ok (pcs := [43]) (by decide +kernel)
set_option maxRecDepth 100000 in
theorem cn_10_ok : c_chk cs_at 2 none kt_145 4000 cn_10 = true := c_chkQ_ok (pcs := [2]) (by decide +kernel)
set_option maxRecDepth 100000 in
theorem cn_5_ok : c_chk cs_at 1 (some FieldType.int) kt_146 4000 cn_5 = true := c_chkQ_ok (pcs := []) (by decide +kernel)
set_option maxRecDepth 100000 in
theorem cn_3_ok : c_chk cs_at 2 (some FieldType.int) kt_147 4000 cn_3 = true := c_chkQ_ok (pcs := []) (by decide +kernel)
set_option maxRecDepth 100000 in
theorem cn_9_ok : c_chk cs_at 2 none kt_148 4000 cn_9 = true := c_chkQ_ok (pcs := [2]) (by decide +kernel)
set_option maxRecDepth 100000 in
theorem cn_11_ok : c_chk cs_at 3 (some FieldType.int) kt_149 4000 cn_11 = true := c_chkQ_ok (pcs := [4]) (by decide +kernel)
set_option maxRecDepth 100000 in
theorem cn_341_ok : c_chk cs_at 2 (some FieldType.boolean) kt_150 4000 cn_341 = true := c_chkQ_ok (pcs := []) (by decide +kernel)
set_option maxRecDepth 100000 in
theorem cn_321_ok : c_chk cs_at 4 (some FieldType.boolean) kt_151 4000 cn_321 = true := c_chkQ_ok (pcs := []) (by decide +kernel)
set_option maxRecDepth 100000 in
theorem cn_339_ok : c_chk cs_at 2 (some FieldType.boolean) kt_152 4000 cn_339 = true := c_chkQ_ok (pcs := []) (by decide +kernel)
set_option maxRecDepth 100000 in
theorem cn_319_ok : c_chk cs_at 4 (some FieldType.boolean) kt_153 4000 cn_319 = true := c_chkQ_ok (pcs := []) (by decide +kernel)
set_option maxRecDepth 100000 in
theorem cn_292_ok : c_chk cs_at 2 (some FieldType.int) kt_154 4000 cn_292 = true := c_chkQ_ok (pcs := []) (by decide +kernel)
set_option maxRecDepth 100000 in
theorem cn_17_ok : c_chk cs_at 4 (some FieldType.int) kt_157 4000 cn_17 = true := c_chkQ_ok (pcs := [4]) (by decide +kernel)
set_option maxRecDepth 100000 in
theorem cn_92_ok : c_chk cs_at 3 (some FieldType.int) kt_160 4000 cn_92 = true := c_chkQ_ok (pcs := [20]) (by decide +kernel)
set_option maxRecDepth 100000 in
theorem cn_271_ok : c_chk cs_at 2 (some FieldType.boolean) kt_161 4000 cn_271 = true := c_chkQ_ok (pcs := []) (by decide +kernel)
set_option maxRecDepth 100000 in
theorem cn_43_ok : c_chk cs_at 3 (some FieldType.boolean) kt_162 4000 cn_43 = true := c_chkQ_ok (pcs := []) (by decide +kernel)
set_option maxRecDepth 100000 in
theorem cn_429_p : c_pcs cn_429 [30, 47, 217, 241, 307] = true := by decide +kernel
set_option maxRecDepth 100000 in
theorem cn_429_s : c_go1 cs_at 6 (some FieldType.int) kt_163 4000 cn_429 (c_start cn_429) = true := c_exQ_ok cn_429_p (by decide +kernel)
set_option maxRecDepth 100000 in
theorem cn_429_c0 : (((c_cuts cn_429).drop (4 * 0)).take 4).all (c_go1 cs_at 6 (some FieldType.int) kt_163 4000 cn_429) = true := goQ_piece cn_429_p (by decide +kernel)
set_option maxRecDepth 100000 in
theorem cn_429_c1 : (((c_cuts cn_429).drop (4 * 1)).take 4).all (c_go1 cs_at 6 (some FieldType.int) kt_163 4000 cn_429) = true := goQ_piece cn_429_p (by decide +kernel)
