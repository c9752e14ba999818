/-! THE CONTRACTS CHECKED, 15 -/
set_option maxRecDepth 100000 in
theorem cn_288_ok : c_chk cs_at 2 none kt_231 4000 cn_288 = true := c_chkQ_ok (pcs := [2]) (by decide +kernel)
set_option maxRecDepth 100000 in
theorem cn_617_ok : c_chk cs_at 1 (some FieldType.int) kt_232 4000 cn_617 = true := c_chkQ_ok (pcs := []) (by decide +kernel)
set_option maxRecDepth 100000 in
theorem cn_604_ok : c_chk cs_at 6 (some FieldType.int) kt_233 4000 cn_604 = true := c_chkQ_ok (pcs := [47, 80, 90, 132, 142, 154]) (by decide +kernel)
set_option maxRecDepth 100000 in
theorem cn_593_ok : c_chk cs_at 9 (some FieldType.boolean) kt_234 4000 cn_593 = true := c_chkQ_ok (pcs := []) (by decide +kernel)
set_option maxRecDepth 100000 in
theorem cn_77_ok : c_chk cs_at 3 (some FieldType.int) kt_235 4000 cn_77 = true := c_chkQ_ok (pcs := []) (by decide +kernel)
set_option maxRecDepth 100000 in
theorem cn_93_ok : c_chk cs_at 3 none kt_236 4000 cn_93 = true := c_chkQ_ok (pcs := []) (by decide +kernel)
set_option maxRecDepth 100000 in
theorem cn_287_ok : c_chk cs_at 5 (some FieldType.int) kt_237 4000 cn_287 = true := c_chkQ_ok (pcs := []) (by decide +kernel)
set_option maxRecDepth 100000 in
theorem cn_585_ok : c_chk cs_at 6 (some FieldType.int) kt_238 4000 cn_585 = true := c_chkQ_ok (pcs := [37]) (by decide +kernel)
set_option maxRecDepth 100000 in
theorem cn_576_ok : c_chk cs_at 4 (some FieldType.int) kt_239 4000 cn_576 = true := c_chkQ_ok (pcs := []) (by decide +kernel)
set_option maxRecDepth 100000 in
theorem cn_503_ok : c_chk cs_at 7 none kt_240 4000 cn_503 = true := c_chkQ_ok (pcs := []) (by decide +kernel)
set_option maxRecDepth 100000 in
theorem cn_577_ok : c_chk cs_at 4 (some FieldType.int) kt_242 4000 cn_577 = true := c_chkQ_ok (pcs := [20, 40, 47, 119]) (by decide +kernel)
set_option maxRecDepth 100000 in
theorem cn_572_ok : c_chk cs_at 7 (some FieldType.int) kt_243 4000 cn_572 = true := c_chkQ_ok (pcs := [43]) (by decide +kernel)
set_option maxRecDepth 100000 in
theorem cn_552_ok : c_chk cs_at 9 (some FieldType.int) kt_244 4000 cn_552 = true := c_chkQ_ok (pcs := [24, 46, 76]) (by decide +kernel)
set_option maxRecDepth 100000 in
theorem cn_611_ok : c_chk cs_at 3 (some FieldType.int) kt_245 4000 cn_611 = true := c_chkQ_ok (pcs := [55]) (by decide +kernel)
set_option maxRecDepth 100000 in
theorem cn_39_ok : c_chk cs_at 8 none kt_246 4000 cn_39 = true := c_chkQ_ok (pcs := [22]) (by decide +kernel)
set_option maxRecDepth 100000 in
theorem cn_578_ok : c_chk cs_at 8 none kt_246 4000 cn_578 = true := c_chkQ_ok (pcs := [22, 76, 142]) (by decide +kernel)
set_option maxRecDepth 100000 in
theorem cn_589_ok : c_chk cs_at 8 none kt_246 4000 cn_589 = true := c_chkQ_ok (pcs := [22, 76, 142]) (by decide +kernel)
set_option maxRecDepth 100000 in
theorem cn_599_ok : c_chk cs_at 8 none kt_246 4000 cn_599 = true := c_chkQ_ok (pcs := [22, 76, 142]) (by decide +kernel)
set_option maxRecDepth 100000 in
theorem cn_605_ok : c_chk cs_at 8 none kt_246 4000 cn_605 = true := c_chkQ_ok (pcs := [22, 76, 142]) (by decide +kernel)
set_option maxRecDepth 100000 in
theorem cn_608_ok : c_chk cs_at 8 none kt_246 4000 cn_608 = true := c_chkQ_ok (pcs := [22, 76, 142]) (by decide +kernel)
