/-! THE CONTRACTS CHECKED, 15 -/
set_option maxRecDepth 100000 in
theorem cn_111_ok : c_chk cs_at 2 (some FieldType.int) kt_224 4000 cn_111 = true := c_chkQ_ok (pcs := []) (by decide +kernel)
set_option maxRecDepth 100000 in
theorem cn_112_ok : c_chk cs_at 2 (some FieldType.int) kt_224 4000 cn_112 = true := c_chkQ_ok (pcs := []) (by decide +kernel)
set_option maxRecDepth 100000 in
theorem cn_113_ok : c_chk cs_at 2 (some FieldType.int) kt_224 4000 cn_113 = true := c_chkQ_ok (pcs := []) (by decide +kernel)
set_option maxRecDepth 100000 in
theorem cn_114_ok : c_chk cs_at 2 (some FieldType.int) kt_224 4000 cn_114 = true := c_chkQ_ok (pcs := []) (by decide +kernel)
set_option maxRecDepth 100000 in
theorem cn_115_ok : c_chk cs_at 2 (some FieldType.int) kt_224 4000 cn_115 = true := c_chkQ_ok (pcs := []) (by decide +kernel)
set_option maxRecDepth 100000 in
theorem cn_587_ok : c_chk cs_at 4 (some FieldType.int) kt_225 4000 cn_587 = true := c_chkQ_ok (pcs := [31]) (by decide +kernel)
set_option maxRecDepth 100000 in
theorem cn_586_ok : c_chk cs_at 3 (some FieldType.int) kt_226 4000 cn_586 = true := c_chkQ_ok (pcs := [19]) (by decide +kernel)
set_option maxRecDepth 100000 in
theorem cn_616_ok : c_chk cs_at 2 (some FieldType.int) kt_227 4000 cn_616 = true := c_chkQ_ok (pcs := []) (by decide +kernel)
set_option maxRecDepth 100000 in
theorem cn_37_ok : c_chk cs_at 2 none kt_228 4000 cn_37 = true := c_chkQ_ok (pcs := [7]) (by decide +kernel)
set_option maxRecDepth 100000 in
theorem cn_614_ok : c_chk cs_at 2 none kt_229 4000 cn_614 = true := c_chkQ_ok (pcs := []) (by decide +kernel)
set_option maxRecDepth 100000 in
theorem cn_615_ok : c_chk cs_at 2 none kt_229 4000 cn_615 = true := c_chkQ_ok (pcs := []) (by decide +kernel)
set_option maxRecDepth 100000 in
theorem cn_590_ok : c_chk cs_at 6 none kt_230 4000 cn_590 = true := c_chkQ_ok (pcs := [15, 98]) (by decide +kernel)
set_option maxRecDepth 100000 in
theorem cn_591_ok : c_chk cs_at 6 none kt_230 4000 cn_591 = true := c_chkQ_ok (pcs := [15, 98]) (by decide +kernel)
set_option maxRecDepth 100000 in
theorem cn_600_ok : c_chk cs_at 6 none kt_230 4000 cn_600 = true := c_chkQ_ok (pcs := [15, 98, 131]) (by decide +kernel)
set_option maxRecDepth 100000 in
theorem cn_601_ok : c_chk cs_at 6 none kt_230 4000 cn_601 = true := c_chkQ_ok (pcs := [15, 98, 131]) (by decide +kernel)
set_option maxRecDepth 100000 in
theorem cn_606_ok : c_chk cs_at 6 none kt_230 4000 cn_606 = true := c_chkQ_ok (pcs := [15, 98, 131]) (by decide +kernel)
set_option maxRecDepth 100000 in
theorem cn_607_ok : c_chk cs_at 6 none kt_230 4000 cn_607 = true := c_chkQ_ok (pcs := [15, 98, 131]) (by decide +kernel)
set_option maxRecDepth 100000 in
theorem cn_609_ok : c_chk cs_at 6 none kt_230 4000 cn_609 = true := c_chkQ_ok (pcs := [15, 98, 131]) (by decide +kernel)
set_option maxRecDepth 100000 in
theorem cn_610_ok : c_chk cs_at 6 none kt_230 4000 cn_610 = true := c_chkQ_ok (pcs := [15, 98, 131]) (by decide +kernel)
set_option maxRecDepth 100000 in
theorem cn_612_ok : c_chk cs_at 6 none kt_230 4000 cn_612 = true := c_chkQ_ok (pcs := [15, 98, 131]) (by decide +kernel)
set_option maxRecDepth 100000 in
theorem cn_613_ok : c_chk cs_at 6 none kt_230 4000 cn_613 = true := c_chkQ_ok (pcs := [15, 98, 131]) (by decide +kernel)
set_option maxRecDepth 100000 in
theorem cn_288_ok : c_chk cs_at 2 none kt_231 4000 cn_288 = true := c_chkQ_ok (pcs := [2]) (by decide +kernel)
set_option maxRecDepth 100000 in
theorem cn_617_ok : c_chk cs_at 1 (some FieldType.int) kt_232 4000 cn_617 = true := c_chkQ_ok (pcs := []) (by decide +kernel)
set_option maxRecDepth 100000 in
theorem cn_604_ok : c_chk cs_at 6 (some FieldType.int) kt_233 4000 cn_604 = true := c_chkQ_ok (pcs := [47, 80, 90, 132, 142, 154]) (by decide +kernel)
set_option maxRecDepth 100000 in
theorem cn_593_ok : c_chk cs_at 9 (some FieldType.boolean) kt_234 4000 cn_593 = true := c_chkQ_ok (pcs := []) (by decide +kernel)
set_option maxRecDepth 100000 in
theorem cn_77_ok : c_chk cs_at 3 (some FieldType.int) kt_235 4000 cn_77 = true := c_chkQ_ok (pcs := []) (by decide +kernel)
set_option maxRecDepth 100000 in
theorem cn_93_ok : c_chk cs_at 3 none kt_236 4000 cn_93 = true := c_chkQ_ok (pcs := []) (by decide +kernel)
set_option maxRecDepth 100000 in
theorem cn_287_ok : c_chk cs_at 5 (some FieldType.int) kt_237 4000 cn_287 = true := c_chkQ_ok (pcs := []) (by decide +kernel)
set_option maxRecDepth 100000 in
theorem cn_585_ok : c_chk cs_at 6 (some FieldType.int) kt_238 4000 cn_585 = true := c_chkQ_ok (pcs := [37]) (by decide +kernel)
set_option maxRecDepth 100000 in
theorem cn_576_ok : c_chk cs_at 4 (some FieldType.int) kt_239 4000 cn_576 = true := c_chkQ_ok (pcs := []) (by decide +kernel)
set_option maxRecDepth 100000 in
theorem cn_503_ok : c_chk cs_at 7 none kt_240 4000 cn_503 = true := c_chkQ_ok (pcs := []) (by decide +kernel)
set_option maxRecDepth 100000 in
theorem cn_577_ok : c_chk cs_at 4 (some FieldType.int) kt_242 4000 cn_577 = true := c_chkQ_ok (pcs := [20, 40, 47, 119]) (by decide +kernel)
set_option maxRecDepth 100000 in
theorem cn_572_ok : c_chk cs_at 7 (some FieldType.int) kt_243 4000 cn_572 = true := c_chkQ_ok (pcs := [43]) (by decide +kernel)
set_option maxRecDepth 100000 in
theorem cn_552_ok : c_chk cs_at 9 (some FieldType.int) kt_244 4000 cn_552 = true := c_chkQ_ok (pcs := [24, 46, 76]) (by decide +kernel)
set_option maxRecDepth 100000 in
theorem cn_611_ok : c_chk cs_at 3 (some FieldType.int) kt_245 4000 cn_611 = true := c_chkQ_ok (pcs := [55]) (by decide +kernel)
set_option maxRecDepth 100000 in
theorem cn_39_ok : c_chk cs_at 8 none kt_246 4000 cn_39 = true := c_chkQ_ok (pcs := [22]) (by decide +kernel)
set_option maxRecDepth 100000 in
theorem cn_578_ok : c_chk cs_at 8 none kt_246 4000 cn_578 = true := c_chkQ_ok (pcs := [22, 76, 142]) (by decide +kernel)
set_option maxRecDepth 100000 in
theorem cn_589_ok : c_chk cs_at 8 none kt_246 4000 cn_589 = true := c_chkQ_ok (pcs := [22, 76, 142]) (by decide +kernel)
