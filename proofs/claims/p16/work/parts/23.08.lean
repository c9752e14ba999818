/-! THE CONTRACTS CHECKED, 8 -/
set_option maxRecDepth 100000 in
theorem cn_554_ok : c_chk cs_at 3 (some FieldType.int) kt_187 4000 cn_554 = true := c_chkQ_ok (pcs := []) (by decide +kernel)
set_option maxRecDepth 100000 in
theorem cn_555_ok : c_chk cs_at 3 (some FieldType.int) kt_187 4000 cn_555 = true := c_chkQ_ok (pcs := []) (by decide +kernel)
set_option maxRecDepth 100000 in
theorem cn_556_ok : c_chk cs_at 3 (some FieldType.int) kt_187 4000 cn_556 = true := c_chkQ_ok (pcs := []) (by decide +kernel)
set_option maxRecDepth 100000 in
theorem cn_557_ok : c_chk cs_at 3 (some FieldType.int) kt_187 4000 cn_557 = true := c_chkQ_ok (pcs := []) (by decide +kernel)
set_option maxRecDepth 100000 in
theorem cn_558_ok : c_chk cs_at 3 (some FieldType.int) kt_187 4000 cn_558 = true := c_chkQ_ok (pcs := []) (by decide +kernel)
set_option maxRecDepth 100000 in
theorem cn_559_ok : c_chk cs_at 3 (some FieldType.int) kt_187 4000 cn_559 = true := c_chkQ_ok (pcs := []) (by decide +kernel)
set_option maxRecDepth 100000 in
theorem cn_560_ok : c_chk cs_at 3 (some FieldType.int) kt_187 4000 cn_560 = true := c_chkQ_ok (pcs := []) (by decide +kernel)
set_option maxRecDepth 100000 in
theorem cn_561_ok : c_chk cs_at 3 (some FieldType.int) kt_187 4000 cn_561 = true := c_chkQ_ok (pcs := []) (by decide +kernel)
set_option maxRecDepth 100000 in
theorem cn_562_ok : c_chk cs_at 3 (some FieldType.int) kt_187 4000 cn_562 = true := c_chkQ_ok (pcs := []) (by decide +kernel)
set_option maxRecDepth 100000 in
theorem cn_563_ok : c_chk cs_at 3 (some FieldType.int) kt_187 4000 cn_563 = true := c_chkQ_ok (pcs := []) (by decide +kernel)
set_option maxRecDepth 100000 in
theorem cn_564_ok : c_chk cs_at 3 (some FieldType.int) kt_187 4000 cn_564 = true := c_chkQ_ok (pcs := []) (by decide +kernel)
set_option maxRecDepth 100000 in
theorem cn_565_ok : c_chk cs_at 3 (some FieldType.int) kt_187 4000 cn_565 = true := c_chkQ_ok (pcs := []) (by decide +kernel)
set_option maxRecDepth 100000 in
theorem cn_566_ok : c_chk cs_at 3 (some FieldType.int) kt_187 4000 cn_566 = true := c_chkQ_ok (pcs := []) (by decide +kernel)
set_option maxRecDepth 100000 in
theorem cn_567_ok : c_chk cs_at 3 (some FieldType.int) kt_187 4000 cn_567 = true := c_chkQ_ok (pcs := []) (by decide +kernel)
set_option maxRecDepth 100000 in
theorem cn_568_ok : c_chk cs_at 3 (some FieldType.int) kt_187 4000 cn_568 = true := c_chkQ_ok (pcs := []) (by decide +kernel)
set_option maxRecDepth 100000 in
theorem cn_569_ok : c_chk cs_at 3 (some FieldType.int) kt_187 4000 cn_569 = true := c_chkQ_ok (pcs := []) (by decide +kernel)
set_option maxRecDepth 100000 in
theorem cn_570_ok : c_chk cs_at 3 (some FieldType.int) kt_187 4000 cn_570 = true := c_chkQ_ok (pcs := []) (by decide +kernel)
set_option maxRecDepth 100000 in
theorem cn_571_ok : c_chk cs_at 3 (some FieldType.int) kt_187 4000 cn_571 = true := c_chkQ_ok (pcs := []) (by decide +kernel)
set_option maxRecDepth 100000 in
theorem cn_532_ok : c_chk cs_at 4 (some FieldType.int) kt_188 4000 cn_532 = true := c_chkQ_ok (pcs := []) (by decide +kernel)
set_option maxRecDepth 100000 in
theorem cn_533_ok : c_chk cs_at 4 (some FieldType.int) kt_188 4000 cn_533 = true := c_chkQ_ok (pcs := []) (by decide +kernel)
set_option maxRecDepth 100000 in
theorem cn_534_ok : c_chk cs_at 4 (some FieldType.int) kt_188 4000 cn_534 = true := c_chkQ_ok (pcs := []) (by decide +kernel)
set_option maxRecDepth 100000 in
theorem cn_535_ok : c_chk cs_at 4 (some FieldType.int) kt_188 4000 cn_535 = true := c_chkQ_ok (pcs := []) (by decide +kernel)
set_option maxRecDepth 100000 in
theorem cn_536_ok : c_chk cs_at 4 (some FieldType.int) kt_188 4000 cn_536 = true := c_chkQ_ok (pcs := []) (by decide +kernel)
set_option maxRecDepth 100000 in
theorem cn_537_ok : c_chk cs_at 4 (some FieldType.int) kt_188 4000 cn_537 = true := c_chkQ_ok (pcs := []) (by decide +kernel)
set_option maxRecDepth 100000 in
theorem cn_538_ok : c_chk cs_at 4 (some FieldType.int) kt_188 4000 cn_538 = true := c_chkQ_ok (pcs := []) (by decide +kernel)
set_option maxRecDepth 100000 in
theorem cn_539_ok : c_chk cs_at 4 (some FieldType.int) kt_188 4000 cn_539 = true := c_chkQ_ok (pcs := []) (by decide +kernel)
set_option maxRecDepth 100000 in
theorem cn_540_ok : c_chk cs_at 4 (some FieldType.int) kt_188 4000 cn_540 = true := c_chkQ_ok (pcs := []) (by decide +kernel)
set_option maxRecDepth 100000 in
theorem cn_541_ok : c_chk cs_at 4 (some FieldType.int) kt_188 4000 cn_541 = true := c_chkQ_ok (pcs := []) (by decide +kernel)
set_option maxRecDepth 100000 in
theorem cn_542_ok : c_chk cs_at 4 (some FieldType.int) kt_188 4000 cn_542 = true := c_chkQ_ok (pcs := []) (by decide +kernel)
set_option maxRecDepth 100000 in
theorem cn_543_ok : c_chk cs_at 4 (some FieldType.int) kt_188 4000 cn_543 = true := c_chkQ_ok (pcs := []) (by decide +kernel)
set_option maxRecDepth 100000 in
theorem cn_544_ok : c_chk cs_at 4 (some FieldType.int) kt_188 4000 cn_544 = true := c_chkQ_ok (pcs := []) (by decide +kernel)
set_option maxRecDepth 100000 in
theorem cn_545_ok : c_chk cs_at 4 (some FieldType.int) kt_188 4000 cn_545 = true := c_chkQ_ok (pcs := []) (by decide +kernel)
set_option maxRecDepth 100000 in
theorem cn_546_ok : c_chk cs_at 4 (some FieldType.int) kt_188 4000 cn_546 = true := c_chkQ_ok (pcs := []) (by decide +kernel)
set_option maxRecDepth 100000 in
theorem cn_547_ok : c_chk cs_at 4 (some FieldType.int) kt_188 4000 cn_547 = true := c_chkQ_ok (pcs := []) (by decide +kernel)
set_option maxRecDepth 100000 in
theorem cn_548_ok : c_chk cs_at 4 (some FieldType.int) kt_188 4000 cn_548 = true := c_chkQ_ok (pcs := []) (by decide +kernel)
set_option maxRecDepth 100000 in
theorem cn_549_ok : c_chk cs_at 4 (some FieldType.int) kt_188 4000 cn_549 = true := c_chkQ_ok (pcs := []) (by decide +kernel)
set_option maxRecDepth 100000 in
theorem cn_550_ok : c_chk cs_at 4 (some FieldType.int) kt_188 4000 cn_550 = true := c_chkQ_ok (pcs := []) (by decide +kernel)
set_option maxRecDepth 100000 in
theorem cn_512_ok : c_chk cs_at 6 (some FieldType.int) kt_189 4000 cn_512 = true := c_chkQ_ok (pcs := []) (by decide +kernel)
set_option maxRecDepth 100000 in
theorem cn_513_ok : c_chk cs_at 6 (some FieldType.int) kt_189 4000 cn_513 = true := c_chkQ_ok (pcs := []) (by decide +kernel)
set_option maxRecDepth 100000 in
theorem cn_514_ok : c_chk cs_at 6 (some FieldType.int) kt_189 4000 cn_514 = true := c_chkQ_ok (pcs := []) (by decide +kernel)
set_option maxRecDepth 100000 in
theorem cn_515_ok : c_chk cs_at 6 (some FieldType.int) kt_189 4000 cn_515 = true := c_chkQ_ok (pcs := []) (by decide +kernel)
set_option maxRecDepth 100000 in
theorem cn_516_ok : c_chk cs_at 6 (some FieldType.int) kt_189 4000 cn_516 = true := c_chkQ_ok (pcs := []) (by decide +kernel)
set_option maxRecDepth 100000 in
theorem cn_517_ok : c_chk cs_at 6 (some FieldType.int) kt_189 4000 cn_517 = true := c_chkQ_ok (pcs := []) (by decide +kernel)
set_option maxRecDepth 100000 in
theorem cn_518_ok : c_chk cs_at 6 (some FieldType.int) kt_189 4000 cn_518 = true := c_chkQ_ok (pcs := []) (by decide +kernel)
set_option maxRecDepth 100000 in
theorem cn_519_ok : c_chk cs_at 6 (some FieldType.int) kt_189 4000 cn_519 = true := c_chkQ_ok (pcs := []) (by decide +kernel)
set_option maxRecDepth 100000 in
theorem cn_520_ok : c_chk cs_at 6 (some FieldType.int) kt_189 4000 cn_520 = true := c_chkQ_ok (pcs := []) (by decide +kernel)
set_option maxRecDepth 100000 in
theorem cn_521_ok : c_chk cs_at 6 (some FieldType.int) kt_189 4000 cn_521 = true := c_chkQ_ok (pcs := []) (by decide +kernel)
set_option maxRecDepth 100000 in
theorem cn_522_ok : c_chk cs_at 6 (some FieldType.int) kt_189 4000 cn_522 = true := c_chkQ_ok (pcs := []) (by decide +kernel)
set_option maxRecDepth 100000 in
theorem cn_523_ok : c_chk cs_at 6 (some FieldType.int) kt_189 4000 cn_523 = true := c_chkQ_ok (pcs := []) (by decide +kernel)
set_option maxRecDepth 100000 in
theorem cn_524_ok : c_chk cs_at 6 (some FieldType.int) kt_189 4000 cn_524 = true := c_chkQ_ok (pcs := []) (by decide +kernel)
set_option maxRecDepth 100000 in
theorem cn_525_ok : c_chk cs_at 6 (some FieldType.int) kt_189 4000 cn_525 = true := c_chkQ_ok (pcs := []) (by decide +kernel)
set_option maxRecDepth 100000 in
theorem cn_526_ok : c_chk cs_at 6 (some FieldType.int) kt_189 4000 cn_526 = true := c_chkQ_ok (pcs := []) (by decide +kernel)
set_option maxRecDepth 100000 in
theorem cn_527_ok : c_chk cs_at 6 (some FieldType.int) kt_189 4000 cn_527 = true := c_chkQ_ok (pcs := []) (by decide +kernel)
set_option maxRecDepth 100000 in
theorem cn_528_ok : c_chk cs_at 6 (some FieldType.int) kt_189 4000 cn_528 = true := c_chkQ_ok (pcs := []) (by decide +kernel)
set_option maxRecDepth 100000 in
theorem cn_529_ok : c_chk cs_at 6 (some FieldType.int) kt_189 4000 cn_529 = true := c_chkQ_ok (pcs := []) (by decide +kernel)
set_option maxRecDepth 100000 in
theorem cn_530_ok : c_chk cs_at 6 (some FieldType.int) kt_189 4000 cn_530 = true := c_chkQ_ok (pcs := []) (by decide +kernel)
set_option maxRecDepth 100000 in
theorem cn_333_ok : c_chk cs_at 5 (some FieldType.int) kt_190 4000 cn_333 = true := c_chkQ_ok (pcs := [105]) (by decide +kernel)
set_option maxRecDepth 100000 in
theorem cn_277_ok : c_chk cs_at 2 (some FieldType.boolean) kt_191 4000 cn_277 = true := c_chkQ_ok (pcs := []) (by decide +kernel)
set_option maxRecDepth 100000 in
theorem cn_286_ok : c_chk cs_at 4 (some FieldType.int) kt_192 4000 cn_286 = true := c_chkQ_ok (pcs := []) (by decide +kernel)
set_option maxRecDepth 100000 in
theorem cn_326_ok : c_chk cs_at 5 (some FieldType.int) kt_193 4000 cn_326 = true := c_chkQ_ok (pcs := []) (by decide +kernel)
set_option maxRecDepth 100000 in
theorem cn_336_ok : c_chk cs_at 10 (some FieldType.int) kt_194 4000 cn_336 = true := c_chkQ_ok (pcs := [46]) (by decide +kernel)
set_option maxRecDepth 100000 in
theorem cn_374_ok : c_chk cs_at 4 (some FieldType.int) kt_195 4000 cn_374 = true := c_chkQ_ok (pcs := []) (by decide +kernel)
set_option maxRecDepth 100000 in
theorem cn_334_ok : c_chk cs_at 3 (some FieldType.int) kt_196 4000 cn_334 = true := c_chkQ_ok (pcs := []) (by decide +kernel)
set_option maxRecDepth 100000 in
theorem cn_283_p : c_pcs cn_283 [11] = true := by decide +kernel
set_option maxRecDepth 100000 in
theorem cn_283_s : c_go1 cs_at 3 none kt_197 4000 cn_283 (c_start cn_283) = true := c_exQ_ok cn_283_p (by decide +kernel)
