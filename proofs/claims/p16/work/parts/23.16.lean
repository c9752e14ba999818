/-! THE CONTRACTS CHECKED, 16 -/
set_option maxRecDepth 100000 in
theorem cn_275_ok : c_chk cs_at 3 (some FieldType.boolean) kt_247 4000 cn_275 = true := c_chkQ_ok (pcs := []) (by decide +kernel)
set_option maxRecDepth 100000 in
theorem cn_602_ok : c_chk cs_at 6 (some FieldType.int) kt_249 4000 cn_602 = true := c_chkQ_ok (pcs := [36]) (by decide +kernel)
set_option maxRecDepth 100000 in
theorem cn_595_ok : c_chk cs_at 3 (some FieldType.int) kt_250 4000 cn_595 = true := c_chkQ_ok (pcs := []) (by decide +kernel)
set_option maxRecDepth 100000 in
theorem cn_551_ok : c_chk cs_at 10 (some FieldType.int) kt_251 4000 cn_551 = true := c_chkQ_ok (pcs := [121, 262]) (by decide +kernel)
set_option maxRecDepth 100000 in
theorem cn_291_ok : c_chk cs_at 4 (some FieldType.int) kt_252 4000 cn_291 = true := c_chkQ_ok (pcs := [11]) (by decide +kernel)
set_option maxRecDepth 100000 in
theorem cn_597_ok : c_chk cs_at 3 (some FieldType.int) kt_253 4000 cn_597 = true := c_chkQ_ok (pcs := []) (by decide +kernel)
set_option maxRecDepth 100000 in
theorem cn_583_ok : c_chk cs_at 9 (some FieldType.long) kt_254 4000 cn_583 = true := c_chkQ_ok (pcs := [5, 29]) (by decide +kernel)
set_option maxRecDepth 100000 in
theorem cn_82_ok : c_chk cs_at 6 (some FieldType.long) kt_255 4000 cn_82 = true := c_chkQ_ok (pcs := [5]) (by decide +kernel)
set_option maxRecDepth 100000 in
theorem cn_83_ok : c_chk cs_at 6 (some FieldType.long) kt_255 4000 cn_83 = true := c_chkQ_ok (pcs := [5]) (by decide +kernel)
set_option maxRecDepth 100000 in
theorem cn_84_ok : c_chk cs_at 6 (some FieldType.long) kt_255 4000 cn_84 = true := c_chkQ_ok (pcs := [5]) (by decide +kernel)
set_option maxRecDepth 100000 in
theorem cn_85_ok : c_chk cs_at 6 (some FieldType.long) kt_255 4000 cn_85 = true := c_chkQ_ok (pcs := [5]) (by decide +kernel)
set_option maxRecDepth 100000 in
theorem cn_86_ok : c_chk cs_at 6 (some FieldType.long) kt_255 4000 cn_86 = true := c_chkQ_ok (pcs := [5]) (by decide +kernel)
set_option maxRecDepth 100000 in
theorem cn_87_ok : c_chk cs_at 6 (some FieldType.long) kt_255 4000 cn_87 = true := c_chkQ_ok (pcs := [5]) (by decide +kernel)
set_option maxRecDepth 100000 in
theorem cn_88_ok : c_chk cs_at 6 (some FieldType.long) kt_255 4000 cn_88 = true := c_chkQ_ok (pcs := [5]) (by decide +kernel)
set_option maxRecDepth 100000 in
theorem cn_89_ok : c_chk cs_at 6 (some FieldType.long) kt_255 4000 cn_89 = true := c_chkQ_ok (pcs := [5]) (by decide +kernel)
set_option maxRecDepth 100000 in
theorem cn_90_ok : c_chk cs_at 6 (some FieldType.long) kt_255 4000 cn_90 = true := c_chkQ_ok (pcs := [5]) (by decide +kernel)
set_option maxRecDepth 100000 in
theorem cn_91_ok : c_chk cs_at 6 (some FieldType.long) kt_255 4000 cn_91 = true := c_chkQ_ok (pcs := [5]) (by decide +kernel)
set_option maxRecDepth 100000 in
theorem cn_594_ok : c_chk cs_at 4 (some FieldType.int) kt_256 4000 cn_594 = true := c_chkQ_ok (pcs := [29]) (by decide +kernel)
set_option maxRecDepth 100000 in
theorem cn_596_ok : c_chk cs_at 7 (some FieldType.int) kt_257 4000 cn_596 = true := c_chkQ_ok (pcs := [30, 54, 138, 195]) (by decide +kernel)
set_option maxRecDepth 100000 in
theorem cn_279_ok : c_chk cs_at 2 (some FieldType.boolean) kt_258 4000 cn_279 = true := c_chkQ_ok (pcs := []) (by decide +kernel)
set_option maxRecDepth 100000 in
theorem cn_270_ok : c_chk cs_at 3 (some FieldType.boolean) kt_259 4000 cn_270 = true := c_chkQ_ok (pcs := [40]) (by decide +kernel)
set_option maxRecDepth 100000 in
theorem cn_373_ok : c_chk cs_at 2 (some FieldType.int) kt_260 4000 cn_373 = true := c_chkQ_ok (pcs := []) (by decide +kernel)
set_option maxRecDepth 100000 in
theorem cn_285_ok : c_chk cs_at 2 (some FieldType.long) kt_261 4000 cn_285 = true := c_chkQ_ok (pcs := []) (by decide +kernel)
