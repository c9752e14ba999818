/-! THE CONTRACTS CHECKED, 17 -/
set_option maxRecDepth 100000 in
theorem cn_572_ok : c_chk cs_at 7 (some FieldType.int) kt_243 4000 cn_572 = true := by decide +kernel
set_option maxRecDepth 100000 in
theorem cn_552_ok : c_chk cs_at 9 (some FieldType.int) kt_244 4000 cn_552 = true := by decide +kernel
set_option maxRecDepth 100000 in
theorem cn_611_ok : c_chk cs_at 3 (some FieldType.int) kt_245 4000 cn_611 = true := by decide +kernel
set_option maxRecDepth 100000 in
theorem cn_39_ok : c_chk cs_at 8 none kt_246 4000 cn_39 = true := by decide +kernel
set_option maxRecDepth 100000 in
theorem cn_578_ok : c_chk cs_at 8 none kt_246 4000 cn_578 = true := by decide +kernel
set_option maxRecDepth 100000 in
theorem cn_589_ok : c_chk cs_at 8 none kt_246 4000 cn_589 = true := by decide +kernel
set_option maxRecDepth 100000 in
theorem cn_599_ok : c_chk cs_at 8 none kt_246 4000 cn_599 = true := by decide +kernel
set_option maxRecDepth 100000 in
theorem cn_605_ok : c_chk cs_at 8 none kt_246 4000 cn_605 = true := by decide +kernel
set_option maxRecDepth 100000 in
theorem cn_608_ok : c_chk cs_at 8 none kt_246 4000 cn_608 = true := by decide +kernel
set_option maxRecDepth 100000 in
theorem cn_275_ok : c_chk cs_at 3 (some FieldType.boolean) kt_247 4000 cn_275 = true := by decide +kernel
set_option maxRecDepth 100000 in
theorem cn_602_ok : c_chk cs_at 6 (some FieldType.int) kt_249 4000 cn_602 = true := by decide +kernel
set_option maxRecDepth 100000 in
theorem cn_595_ok : c_chk cs_at 3 (some FieldType.int) kt_250 4000 cn_595 = true := by decide +kernel
set_option maxRecDepth 100000 in
theorem cn_551_ok : c_chk cs_at 10 (some FieldType.int) kt_251 4000 cn_551 = true := by decide +kernel
set_option maxRecDepth 100000 in
theorem cn_291_ok : c_chk cs_at 4 (some FieldType.int) kt_252 4000 cn_291 = true := by decide +kernel
set_option maxRecDepth 100000 in
theorem cn_597_ok : c_chk cs_at 3 (some FieldType.int) kt_253 4000 cn_597 = true := by decide +kernel
set_option maxRecDepth 100000 in
theorem cn_583_ok : c_chk cs_at 9 (some FieldType.long) kt_254 4000 cn_583 = true := by decide +kernel
set_option maxRecDepth 100000 in
theorem cn_82_ok : c_chk cs_at 6 (some FieldType.long) kt_255 4000 cn_82 = true := by decide +kernel
set_option maxRecDepth 100000 in
theorem cn_83_ok : c_chk cs_at 6 (some FieldType.long) kt_255 4000 cn_83 = true := by decide +kernel
set_option maxRecDepth 100000 in
theorem cn_84_ok : c_chk cs_at 6 (some FieldType.long) kt_255 4000 cn_84 = true := by decide +kernel
