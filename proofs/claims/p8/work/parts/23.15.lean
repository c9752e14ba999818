/-! THE CONTRACTS CHECKED, 15 -/
set_option maxRecDepth 100000 in
theorem cn_289_ok : c_chk cs_at 2 none kt_231 4000 cn_289 = true := c_chkQ_ok (pcs := [2]) (by decide +kernel)
set_option maxRecDepth 100000 in
theorem cn_618_ok : c_chk cs_at 1 (some FieldType.int) kt_232 4000 cn_618 = true := c_chkQ_ok (pcs := []) (by decide +kernel)
set_option maxRecDepth 100000 in
theorem cn_605_ok : c_chk cs_at 6 (some FieldType.int) kt_233 4000 cn_605 = true := c_chkQ_ok (pcs := [47, 80, 90, 132, 142, 154]) (by decide +kernel)
set_option maxRecDepth 100000 in
theorem cn_594_ok : c_chk cs_at 9 (some FieldType.boolean) kt_234 4000 cn_594 = true := c_chkQ_ok (pcs := []) (by decide +kernel)
set_option maxRecDepth 100000 in
theorem cn_77_ok : c_chk cs_at 3 (some FieldType.int) kt_235 4000 cn_77 = true := c_chkQ_ok (pcs := []) (by decide +kernel)
set_option maxRecDepth 100000 in
theorem cn_93_ok : c_chk cs_at 3 none kt_236 4000 cn_93 = true := c_chkQ_ok (pcs := []) (by decide +kernel)
set_option maxRecDepth 100000 in
theorem cn_288_ok : c_chk cs_at 5 (some FieldType.int) kt_237 4000 cn_288 = true := c_chkQ_ok (pcs := []) (by decide +kernel)
set_option maxRecDepth 100000 in
theorem cn_586_ok : c_chk cs_at 6 (some FieldType.int) kt_238 4000 cn_586 = true := c_chkQ_ok (pcs := [37]) (by decide +kernel)
set_option maxRecDepth 100000 in
theorem cn_577_ok : c_chk cs_at 4 (some FieldType.int) kt_239 4000 cn_577 = true := c_chkQ_ok (pcs := []) (by decide +kernel)
set_option maxRecDepth 100000 in
theorem cn_504_ok : c_chk cs_at 7 none kt_240 4000 cn_504 = true := c_chkQ_ok (pcs := []) (by decide +kernel)
set_option maxRecDepth 100000 in
theorem cn_578_ok : c_chk cs_at 4 (some FieldType.int) kt_242 4000 cn_578 = true := c_chkQ_ok (pcs := [20, 40, 47, 119]) (by decide +kernel)
set_option maxRecDepth 100000 in
theorem cn_573_ok : c_chk cs_at 7 (some FieldType.int) kt_243 4000 cn_573 = true := c_chkQ_ok (pcs := [43]) (by decide +kernel)
set_option maxRecDepth 100000 in
theorem cn_553_ok : c_chk cs_at 9 (some FieldType.int) kt_244 4000 cn_553 = true := c_chkQ_ok (pcs := [24, 46, 76]) (by decide +kernel)
set_option maxRecDepth 100000 in
theorem cn_612_ok : c_chk cs_at 3 (some FieldType.int) kt_245 4000 cn_612 = true := c_chkQ_ok (pcs := [55]) (by decide +kernel)
set_option maxRecDepth 100000 in
theorem cn_39_ok : c_chk cs_at 8 none kt_246 4000 cn_39 = true := c_chkQ_ok (pcs := [22]) (by decide +kernel)
set_option maxRecDepth 100000 in
theorem cn_579_ok : c_chk cs_at 8 none kt_246 4000 cn_579 = true := c_chkQ_ok (pcs := [22, 76, 142]) (by decide +kernel)
set_option maxRecDepth 100000 in
theorem cn_590_ok : c_chk cs_at 8 none kt_246 4000 cn_590 = true := c_chkQ_ok (pcs := [22, 76, 142]) (by decide +kernel)
set_option maxRecDepth 100000 in
theorem cn_600_ok : c_chk cs_at 8 none kt_246 4000 cn_600 = true := c_chkQ_ok (pcs := [22, 76, 142]) (by decide +kernel)
set_option maxRecDepth 100000 in
theorem cn_606_ok : c_chk cs_at 8 none kt_246 4000 cn_606 = true := c_chkQ_ok (pcs := [22, 76, 142]) (by decide +kernel)
set_option maxRecDepth 100000 in
theorem cn_609_ok : c_chk cs_at 8 none kt_246 4000 cn_609 = true := c_chkQ_ok (pcs := [22, 76, 142]) (by decide +kernel)
