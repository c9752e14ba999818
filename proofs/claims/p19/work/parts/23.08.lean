/-! THE CONTRACTS CHECKED, 8 -/
set_option maxRecDepth 100000 in
theorem cn_330_ok : c_chk cs_at 2 none kt_174 4000 cn_330 = true := c_chkQ_ok (pcs := []) (by decide +kernel)
set_option maxRecDepth 100000 in
theorem cn_331_ok : c_chk cs_at 2 none kt_174 4000 cn_331 = true := c_chkQ_ok (pcs := []) (by decide +kernel)
set_option maxRecDepth 100000 in
theorem cn_531_ok : c_chk cs_at 3 (some FieldType.int) kt_175 4000 cn_531 = true := c_chkQ_ok (pcs := [73]) (by decide +kernel)
set_option maxRecDepth 100000 in
theorem cn_510_ok : c_chk cs_at 3 (some FieldType.int) kt_176 4000 cn_510 = true := c_chkQ_ok (pcs := []) (by decide +kernel)
set_option maxRecDepth 100000 in
theorem cn_511_ok : c_chk cs_at 3 (some FieldType.int) kt_176 4000 cn_511 = true := c_chkQ_ok (pcs := []) (by decide +kernel)
set_option maxRecDepth 100000 in
theorem cn_508_ok : c_chk cs_at 5 (some FieldType.int) kt_177 4000 cn_508 = true := c_chkQ_ok (pcs := [6]) (by decide +kernel)
set_option maxRecDepth 100000 in
theorem cn_509_ok : c_chk cs_at 5 (some FieldType.int) kt_177 4000 cn_509 = true := c_chkQ_ok (pcs := [6]) (by decide +kernel)
set_option maxRecDepth 100000 in
theorem cn_506_ok : c_chk cs_at 5 (some FieldType.int) kt_178 4000 cn_506 = true := c_chkQ_ok (pcs := [6]) (by decide +kernel)
set_option maxRecDepth 100000 in
theorem cn_507_ok : c_chk cs_at 5 (some FieldType.int) kt_178 4000 cn_507 = true := c_chkQ_ok (pcs := [6]) (by decide +kernel)
set_option maxRecDepth 100000 in
theorem cn_504_ok : c_chk cs_at 4 (some FieldType.int) kt_179 4000 cn_504 = true := c_chkQ_ok (pcs := []) (by decide +kernel)
set_option maxRecDepth 100000 in
theorem cn_505_ok : c_chk cs_at 4 (some FieldType.int) kt_179 4000 cn_505 = true := c_chkQ_ok (pcs := []) (by decide +kernel)
set_option maxRecDepth 100000 in
theorem cn_78_ok : c_chk cs_at 1 (some FieldType.int) kt_180 4000 cn_78 = true := c_chkQ_ok (pcs := []) (by decide +kernel)
set_option maxRecDepth 100000 in
theorem cn_575_ok : c_chk cs_at 3 (some FieldType.int) kt_181 4000 cn_575 = true := c_chkQ_ok (pcs := []) (by decide +kernel)
set_option maxRecDepth 100000 in
theorem cn_79_ok : c_chk cs_at 1 (some FieldType.int) kt_182 4000 cn_79 = true := c_chkQ_ok (pcs := []) (by decide +kernel)
set_option maxRecDepth 100000 in
theorem cn_80_ok : c_chk cs_at 5 (some FieldType.int) kt_183 4000 cn_80 = true := c_chkQ_ok (pcs := [5]) (by decide +kernel)
set_option maxRecDepth 100000 in
theorem cn_81_ok : c_chk cs_at 5 (some FieldType.int) kt_183 4000 cn_81 = true := c_chkQ_ok (pcs := [5]) (by decide +kernel)
set_option maxRecDepth 100000 in
theorem cn_289_ok : c_chk cs_at 6 (some FieldType.int) kt_184 4000 cn_289 = true := c_chkQ_ok (pcs := [21]) (by decide +kernel)
set_option maxRecDepth 100000 in
theorem cn_290_ok : c_chk cs_at 6 (some FieldType.int) kt_184 4000 cn_290 = true := c_chkQ_ok (pcs := [21]) (by decide +kernel)
set_option maxRecDepth 100000 in
theorem cn_40_ok : c_chk cs_at 2 (some FieldType.boolean) kt_185 4000 cn_40 = true := c_chkQ_ok (pcs := []) (by decide +kernel)
set_option maxRecDepth 100000 in
theorem cn_97_ok : c_chk cs_at 3 (some FieldType.int) kt_186 4000 cn_97 = true := c_chkQ_ok (pcs := []) (by decide +kernel)
set_option maxRecDepth 100000 in
theorem cn_98_ok : c_chk cs_at 3 (some FieldType.int) kt_186 4000 cn_98 = true := c_chkQ_ok (pcs := []) (by decide +kernel)
set_option maxRecDepth 100000 in
theorem cn_553_ok : c_chk cs_at 3 (some FieldType.int) kt_187 4000 cn_553 = true := c_chkQ_ok (pcs := []) (by decide +kernel)
set_option maxRecDepth 100000 in
theorem cn_554_ok : c_chk cs_at 3 (some FieldType.int) kt_187 4000 cn_554 = true := c_chkQ_ok (pcs := []) (by decide +kernel)
set_option maxRecDepth 100000 in
theorem cn_555_ok : c_chk cs_at 3 (some FieldType.int) kt_187 4000 cn_555 = true := c_chkQ_ok (pcs := []) (by decide +kernel)
set_option maxRecDepth 100000 in
theorem cn_556_ok : c_chk cs_at 3 (some FieldType.int) kt_187 4000 cn_556 = true := c_chkQ_ok (pcs := []) (by decide +kernel)
set_option maxRecDepth 100000 in
theorem cn_557_ok : c_chk cs_at 3 (some FieldType.int) kt_187 4000 cn_557 = true := c_chkQ_ok (pcs := []) (by decide +kernel)
set_option maxRecDepth 100000 in
theorem cn_558_ok : c_chk cs_at 3 (some FieldType.int) kt_187 4000 cn_558 = true := c_chkQ_ok (pcs := []) (by decide +kernel)
set_option maxRecDepth 100000 in
theorem cn_559_ok : c_chk cs_at 3 (some FieldType.int) kt_187 4000 cn_559 = true := c_chkQ_ok (pcs := []) (by decide +kernel)
set_option maxRecDepth 100000 in
theorem cn_560_ok : c_chk cs_at 3 (some FieldType.int) kt_187 4000 cn_560 = true := c_chkQ_ok (pcs := []) (by decide +kernel)
set_option maxRecDepth 100000 in
theorem cn_561_ok : c_chk cs_at 3 (some FieldType.int) kt_187 4000 cn_561 = true := c_chkQ_ok (pcs := []) (by decide +kernel)
set_option maxRecDepth 100000 in
theorem cn_562_ok : c_chk cs_at 3 (some FieldType.int) kt_187 4000 cn_562 = true := c_chkQ_ok (pcs := []) (by decide +kernel)
set_option maxRecDepth 100000 in
theorem cn_563_ok : c_chk cs_at 3 (some FieldType.int) kt_187 4000 cn_563 = true := c_chkQ_ok (pcs := []) (by decide +kernel)
set_option maxRecDepth 100000 in
theorem cn_564_ok : c_chk cs_at 3 (some FieldType.int) kt_187 4000 cn_564 = true := c_chkQ_ok (pcs := []) (by decide +kernel)
set_option maxRecDepth 100000 in
theorem cn_565_ok : c_chk cs_at 3 (some FieldType.int) kt_187 4000 cn_565 = true := c_chkQ_ok (pcs := []) (by decide +kernel)
set_option maxRecDepth 100000 in
theorem cn_566_ok : c_chk cs_at 3 (some FieldType.int) kt_187 4000 cn_566 = true := c_chkQ_ok (pcs := []) (by decide +kernel)
set_option maxRecDepth 100000 in
theorem cn_567_ok : c_chk cs_at 3 (some FieldType.int) kt_187 4000 cn_567 = true := c_chkQ_ok (pcs := []) (by decide +kernel)
set_option maxRecDepth 100000 in
theorem cn_568_ok : c_chk cs_at 3 (some FieldType.int) kt_187 4000 cn_568 = true := c_chkQ_ok (pcs := []) (by decide +kernel)
set_option maxRecDepth 100000 in
theorem cn_569_ok : c_chk cs_at 3 (some FieldType.int) kt_187 4000 cn_569 = true := c_chkQ_ok (pcs := []) (by decide +kernel)
set_option maxRecDepth 100000 in
theorem cn_570_ok : c_chk cs_at 3 (some FieldType.int) kt_187 4000 cn_570 = true := c_chkQ_ok (pcs := []) (by decide +kernel)
set_option maxRecDepth 100000 in
theorem cn_571_ok : c_chk cs_at 3 (some FieldType.int) kt_187 4000 cn_571 = true := c_chkQ_ok (pcs := []) (by decide +kernel)
set_option maxRecDepth 100000 in
theorem cn_532_ok : c_chk cs_at 4 (some FieldType.int) kt_188 4000 cn_532 = true := c_chkQ_ok (pcs := []) (by decide +kernel)
set_option maxRecDepth 100000 in
theorem cn_533_ok : c_chk cs_at 4 (some FieldType.int) kt_188 4000 cn_533 = true := c_chkQ_ok (pcs := []) (by decide +kernel)
set_option maxRecDepth 100000 in
theorem cn_534_ok : c_chk cs_at 4 (some FieldType.int) kt_188 4000 cn_534 = true := c_chkQ_ok (pcs := []) (by decide +kernel)
set_option maxRecDepth 100000 in
theorem cn_535_ok : c_chk cs_at 4 (some FieldType.int) kt_188 4000 cn_535 = true := c_chkQ_ok (pcs := []) (by decide +kernel)
set_option maxRecDepth 100000 in
theorem cn_536_ok : c_chk cs_at 4 (some FieldType.int) kt_188 4000 cn_536 = true := c_chkQ_ok (pcs := []) (by decide +kernel)
set_option maxRecDepth 100000 in
theorem cn_537_ok : c_chk cs_at 4 (some FieldType.int) kt_188 4000 cn_537 = true := c_chkQ_ok (pcs := []) (by decide +kernel)
set_option maxRecDepth 100000 in
theorem cn_538_ok : c_chk cs_at 4 (some FieldType.int) kt_188 4000 cn_538 = true := c_chkQ_ok (pcs := []) (by decide +kernel)
set_option maxRecDepth 100000 in
theorem cn_539_ok : c_chk cs_at 4 (some FieldType.int) kt_188 4000 cn_539 = true := c_chkQ_ok (pcs := []) (by decide +kernel)
set_option maxRecDepth 100000 in
theorem cn_540_ok : c_chk cs_at 4 (some FieldType.int) kt_188 4000 cn_540 = true := c_chkQ_ok (pcs := []) (by decide +kernel)
set_option maxRecDepth 100000 in
theorem cn_541_ok : c_chk cs_at 4 (some FieldType.int) kt_188 4000 cn_541 = true := c_chkQ_ok (pcs := []) (by decide +kernel)
set_option maxRecDepth 100000 in
theorem cn_542_ok : c_chk cs_at 4 (some FieldType.int) kt_188 4000 cn_542 = true := c_chkQ_ok (pcs := []) (by decide +kernel)
set_option maxRecDepth 100000 in
theorem cn_543_ok : c_chk cs_at 4 (some FieldType.int) kt_188 4000 cn_543 = true := c_chkQ_ok (pcs := []) (by decide +kernel)
set_option maxRecDepth 100000 in
theorem cn_544_ok : c_chk cs_at 4 (some FieldType.int) kt_188 4000 cn_544 = true := c_chkQ_ok (pcs := []) (by decide +kernel)
set_option maxRecDepth 100000 in
theorem cn_545_ok : c_chk cs_at 4 (some FieldType.int) kt_188 4000 cn_545 = true := c_chkQ_ok (pcs := []) (by decide +kernel)
set_option maxRecDepth 100000 in
theorem cn_546_ok : c_chk cs_at 4 (some FieldType.int) kt_188 4000 cn_546 = true := c_chkQ_ok (pcs := []) (by decide +kernel)
set_option maxRecDepth 100000 in
theorem cn_547_ok : c_chk cs_at 4 (some FieldType.int) kt_188 4000 cn_547 = true := c_chkQ_ok (pcs := []) (by decide +kernel)
set_option maxRecDepth 100000 in
theorem cn_548_ok : c_chk cs_at 4 (some FieldType.int) kt_188 4000 cn_548 = true := c_chkQ_ok (pcs := []) (by decide +kernel)
set_option maxRecDepth 100000 in
theorem cn_549_ok : c_chk cs_at 4 (some FieldType.int) kt_188 4000 cn_549 = true := c_chkQ_ok (pcs := []) (by decide +kernel)
set_option maxRecDepth 100000 in
theorem cn_550_ok : c_chk cs_at 4 (some FieldType.int) kt_188 4000 cn_550 = true := c_chkQ_ok (pcs := []) (by decide +kernel)
set_option maxRecDepth 100000 in
theorem cn_512_ok : c_chk cs_at 6 (some FieldType.int) kt_189 4000 cn_512 = true := c_chkQ_ok (pcs := []) (by decide +kernel)
set_option maxRecDepth 100000 in
theorem cn_513_ok : c_chk cs_at 6 (some FieldType.int) kt_189 4000 cn_513 = true := c_chkQ_ok (pcs := []) (by decide +kernel)
set_option maxRecDepth 100000 in
theorem cn_514_ok : c_chk cs_at 6 (some FieldType.int) kt_189 4000 cn_514 = true := c_chkQ_ok (pcs := []) (by decide +kernel)
set_option maxRecDepth 100000 in
theorem cn_515_ok : c_chk cs_at 6 (some FieldType.int) kt_189 4000 cn_515 = true := c_chkQ_ok (pcs := []) (by decide +kernel)
set_option maxRecDepth 100000 in
theorem cn_516_ok : c_chk cs_at 6 (some FieldType.int) kt_189 4000 cn_516 = true := c_chkQ_ok (pcs := []) (by decide +kernel)
