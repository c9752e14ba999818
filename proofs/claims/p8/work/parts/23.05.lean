/-! THE CONTRACTS CHECKED, 5 -/
set_option maxRecDepth 100000 in
theorem cn_270_ok : c_chk cs_at 8 none kt_131 4000 cn_270 = true := c_chkQ_ok (pcs := []) (by decide +kernel)
set_option maxRecDepth 100000 in
theorem cn_415_ok : c_chk cs_at 8 none kt_131 4000 cn_415 = true := c_chkQ_ok (pcs := [76]) (by decide +kernel)
set_option maxRecDepth 100000 in
theorem cn_434_ok : c_chk cs_at 8 none kt_131 4000 cn_434 = true := c_chkQ_ok (pcs := [76]) (by decide +kernel)
set_option maxRecDepth 100000 in
theorem cn_444_ok : c_chk cs_at 8 none kt_131 4000 cn_444 = true := c_chkQ_ok (pcs := [76]) (by decide +kernel)
set_option maxRecDepth 100000 in
theorem cn_450_ok : c_chk cs_at 8 none kt_131 4000 cn_450 = true := c_chkQ_ok (pcs := [76]) (by decide +kernel)
set_option maxRecDepth 100000 in
theorem cn_456_ok : c_chk cs_at 8 none kt_131 4000 cn_456 = true := c_chkQ_ok (pcs := [76]) (by decide +kernel)
set_option maxRecDepth 100000 in
theorem cn_394_ok : c_chk cs_at 5 none kt_132 4000 cn_394 = true := c_chkQ_ok (pcs := []) (by decide +kernel)
set_option maxRecDepth 100000 in
theorem cn_428_ok : c_chk cs_at 5 none kt_132 4000 cn_428 = true := c_chkQ_ok (pcs := []) (by decide +kernel)
set_option maxRecDepth 100000 in
theorem cn_440_ok : c_chk cs_at 5 none kt_132 4000 cn_440 = true := c_chkQ_ok (pcs := []) (by decide +kernel)
set_option maxRecDepth 100000 in
theorem cn_447_ok : c_chk cs_at 5 none kt_132 4000 cn_447 = true := c_chkQ_ok (pcs := []) (by decide +kernel)
set_option maxRecDepth 100000 in
theorem cn_453_ok : c_chk cs_at 5 none kt_132 4000 cn_453 = true := c_chkQ_ok (pcs := []) (by decide +kernel)
set_option maxRecDepth 100000 in
theorem cn_405_ok : c_chk cs_at 6 (some FieldType.int) kt_133 4000 cn_405 = true := c_chkQ_ok (pcs := [20]) (by decide +kernel)
set_option maxRecDepth 100000 in
theorem cn_381_ok : c_chk cs_at 3 (some FieldType.int) kt_134 4000 cn_381 = true := c_chkQ_ok (pcs := []) (by decide +kernel)
set_option maxRecDepth 100000 in
theorem cn_384_ok : c_chk cs_at 10 (some FieldType.int) kt_135 4000 cn_384 = true := c_chkQ_ok (pcs := [88]) (by decide +kernel)
set_option maxRecDepth 100000 in
theorem cn_341_ok : c_chk cs_at 10 (some FieldType.int) kt_136 4000 cn_341 = true := c_chkQ_ok (pcs := []) (by decide +kernel)
set_option maxRecDepth 100000 in
theorem cn_347_ok : c_chk cs_at 4 (some FieldType.int) kt_137 4000 cn_347 = true := c_chkQ_ok (pcs := [6]) (by decide +kernel)
set_option maxRecDepth 100000 in
theorem cn_475_ok : c_chk cs_at 3 (some FieldType.int) kt_138 4000 cn_475 = true := c_chkQ_ok (pcs := []) (by decide +kernel)
set_option maxRecDepth 100000 in
theorem cn_473_ok : c_chk cs_at 5 none kt_139 4000 cn_473 = true := c_chkQ_ok (pcs := [38]) (by decide +kernel)
set_option maxRecDepth 100000 in
theorem cn_32_ok : c_chk cs_at 4 none kt_140 4000 cn_32 = true := c_chkQ_ok (pcs := []) (by decide +kernel)
set_option maxRecDepth 100000 in
theorem cn_416_ok : c_chk cs_at 4 none kt_140 4000 cn_416 = true := c_chkQ_ok (pcs := []) (by decide +kernel)
set_option maxRecDepth 100000 in
theorem cn_435_ok : c_chk cs_at 4 none kt_140 4000 cn_435 = true := c_chkQ_ok (pcs := []) (by decide +kernel)
set_option maxRecDepth 100000 in
theorem cn_445_ok : c_chk cs_at 4 none kt_140 4000 cn_445 = true := c_chkQ_ok (pcs := []) (by decide +kernel)
set_option maxRecDepth 100000 in
theorem cn_451_ok : c_chk cs_at 4 none kt_140 4000 cn_451 = true := c_chkQ_ok (pcs := []) (by decide +kernel)
set_option maxRecDepth 100000 in
theorem cn_457_ok : c_chk cs_at 4 none kt_140 4000 cn_457 = true := c_chkQ_ok (pcs := []) (by decide +kernel)
set_option maxRecDepth 100000 in
theorem cn_463_ok : c_chk cs_at 4 none kt_140 4000 cn_463 = true := c_chkQ_ok (pcs := []) (by decide +kernel)
set_option maxRecDepth 100000 in
theorem cn_467_ok : c_chk cs_at 4 none kt_140 4000 cn_467 = true := c_chkQ_ok (pcs := []) (by decide +kernel)
set_option maxRecDepth 100000 in
theorem cn_471_ok : c_chk cs_at 4 none kt_140 4000 cn_471 = true := c_chkQ_ok (pcs := []) (by decide +kernel)
set_option maxRecDepth 100000 in
theorem cn_395_ok : c_chk cs_at 6 none kt_141 4000 cn_395 = true := c_chkQ_ok (pcs := []) (by decide +kernel)
set_option maxRecDepth 100000 in
theorem cn_429_ok : c_chk cs_at 6 none kt_141 4000 cn_429 = true := c_chkQ_ok (pcs := []) (by decide +kernel)
set_option maxRecDepth 100000 in
theorem cn_441_ok : c_chk cs_at 6 none kt_141 4000 cn_441 = true := c_chkQ_ok (pcs := []) (by decide +kernel)
set_option maxRecDepth 100000 in
theorem cn_448_ok : c_chk cs_at 6 none kt_141 4000 cn_448 = true := c_chkQ_ok (pcs := []) (by decide +kernel)
set_option maxRecDepth 100000 in
theorem cn_454_ok : c_chk cs_at 6 none kt_141 4000 cn_454 = true := c_chkQ_ok (pcs := []) (by decide +kernel)
set_option maxRecDepth 100000 in
theorem cn_460_ok : c_chk cs_at 6 none kt_141 4000 cn_460 = true := c_chkQ_ok (pcs := []) (by decide +kernel)
set_option maxRecDepth 100000 in
theorem cn_465_ok : c_chk cs_at 6 none kt_141 4000 cn_465 = true := c_chkQ_ok (pcs := []) (by decide +kernel)
set_option maxRecDepth 100000 in
theorem cn_469_ok : c_chk cs_at 6 none kt_141 4000 cn_469 = true := c_chkQ_ok (pcs := []) (by decide +kernel)
set_option maxRecDepth 100000 in
theorem cn_33_ok : c_chk cs_at 4 (some FieldType.long) kt_142 4000 cn_33 = true := c_chkQ_ok (pcs := [4]) (by decide +kernel)
set_option maxRecDepth 100000 in
theorem cn_474_ok : c_chk cs_at 4 (some FieldType.int) kt_143 4000 cn_474 = true := c_chkQ_ok (pcs := [38]) (by decide +kernel)
set_option maxRecDepth 100000 in
theorem cn_385_ok : c_chk cs_at 5 (some FieldType.int) kt_144 4000 cn_385 = true := c_chkQ_ok (pcs := [43]) (by decide +kernel)
set_option maxRecDepth 100000 in
theorem cn_10_ok : c_chk cs_at 2 none kt_145 4000 cn_10 = true := c_chkQ_ok (pcs := [2]) (by decide +kernel)
set_option maxRecDepth 100000 in
theorem cn_5_ok : c_chk cs_at 1 (some FieldType.int) kt_146 4000 cn_5 = true := c_chkQ_ok (pcs := []) (by decide +kernel)
set_option maxRecDepth 100000 in
theorem cn_3_ok : c_chk cs_at 2 (some FieldType.int) kt_147 4000 cn_3 = true := c_chkQ_ok (pcs := []) (by decide +kernel)
set_option maxRecDepth 100000 in
theorem cn_9_ok : c_chk cs_at 2 none kt_148 4000 cn_9 = true := c_chkQ_ok (pcs := [2]) (by decide +kernel)
set_option maxRecDepth 100000 in
theorem cn_11_ok : c_chk cs_at 3 (some FieldType.int) kt_149 4000 cn_11 = true := c_chkQ_ok (pcs := [4]) (by decide +kernel)
set_option maxRecDepth 100000 in
theorem cn_342_ok : c_chk cs_at 2 (some FieldType.boolean) kt_150 4000 cn_342 = true := c_chkQ_ok (pcs := []) (by decide +kernel)
set_option maxRecDepth 100000 in
theorem cn_322_ok : c_chk cs_at 4 (some FieldType.boolean) kt_151 4000 cn_322 = true := c_chkQ_ok (pcs := []) (by decide +kernel)
set_option maxRecDepth 100000 in
theorem cn_340_ok : c_chk cs_at 2 (some FieldType.boolean) kt_152 4000 cn_340 = true := c_chkQ_ok (pcs := []) (by decide +kernel)
set_option maxRecDepth 100000 in
theorem cn_320_ok : c_chk cs_at 4 (some FieldType.boolean) kt_153 4000 cn_320 = true := c_chkQ_ok (pcs := []) (by decide +kernel)
set_option maxRecDepth 100000 in
theorem cn_293_ok : c_chk cs_at 2 (some FieldType.int) kt_154 4000 cn_293 = true := c_chkQ_ok (pcs := []) (by decide +kernel)
set_option maxRecDepth 100000 in
theorem cn_17_ok : c_chk cs_at 4 (some FieldType.int) kt_157 4000 cn_17 = true := c_chkQ_ok (pcs := [4]) (by decide +kernel)
set_option maxRecDepth 100000 in
theorem cn_92_ok : c_chk cs_at 3 (some FieldType.int) kt_160 4000 cn_92 = true := c_chkQ_ok (pcs := [20]) (by decide +kernel)
set_option maxRecDepth 100000 in
theorem cn_272_ok : c_chk cs_at 2 (some FieldType.boolean) kt_161 4000 cn_272 = true := c_chkQ_ok (pcs := []) (by decide +kernel)
set_option maxRecDepth 100000 in
theorem cn_43_ok : c_chk cs_at 3 (some FieldType.boolean) kt_162 4000 cn_43 = true := c_chkQ_ok (pcs := []) (by decide +kernel)
set_option maxRecDepth 100000 in
theorem cn_430_p : c_pcs cn_430 [30, 47, 217, 241, 307] = true := by decide +kernel
set_option maxRecDepth 100000 in
theorem cn_430_s : c_go1 cs_at 6 (some FieldType.int) kt_163 4000 cn_430 (c_start cn_430) = true := c_exQ_ok cn_430_p (by decide +kernel)
set_option maxRecDepth 100000 in
theorem cn_430_c0 : (((c_cuts cn_430).drop (4 * 0)).take 4).all (c_go1 cs_at 6 (some FieldType.int) kt_163 4000 cn_430) = true := goQ_piece cn_430_p (by decide +kernel)
set_option maxRecDepth 100000 in
theorem cn_430_c1 : (((c_cuts cn_430).drop (4 * 1)).take 4).all (c_go1 cs_at 6 (some FieldType.int) kt_163 4000 cn_430) = true := goQ_piece cn_430_p (by decide +kernel)
