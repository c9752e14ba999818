/-! THE CONTRACTS CHECKED, 0 -/
set_option maxRecDepth 100000 in
theorem ra_ok_0 : ((ra_list.drop (8 * 0)).take 8).all (c_chk cs_at 3 none kt_213 4000) = true := all_Q (pcs := []) (by decide +kernel)
set_option maxRecDepth 100000 in
theorem ra_ok_1 : ((ra_list.drop (8 * 1)).take 8).all (c_chk cs_at 3 none kt_213 4000) = true := all_Q (pcs := []) (by decide +kernel)
set_option maxRecDepth 100000 in
theorem ra_ok_2 : ((ra_list.drop (8 * 2)).take 8).all (c_chk cs_at 3 none kt_213 4000) = true := all_Q (pcs := []) (by decide +kernel)
set_option maxRecDepth 100000 in
theorem ra_ok_3 : ((ra_list.drop (8 * 3)).take 8).all (c_chk cs_at 3 none kt_213 4000) = true := all_Q (pcs := []) (by decide +kernel)
set_option maxRecDepth 100000 in
theorem ra_ok_4 : ((ra_list.drop (8 * 4)).take 8).all (c_chk cs_at 3 none kt_213 4000) = true := all_Q (pcs := []) (by decide +kernel)
set_option maxRecDepth 100000 in
theorem ra_ok_5 : ((ra_list.drop (8 * 5)).take 8).all (c_chk cs_at 3 none kt_213 4000) = true := all_Q (pcs := []) (by decide +kernel)
set_option maxRecDepth 100000 in
theorem ra_ok_6 : ((ra_list.drop (8 * 6)).take 8).all (c_chk cs_at 3 none kt_213 4000) = true := all_Q (pcs := []) (by decide +kernel)
set_option maxRecDepth 100000 in
theorem ra_ok_7 : ((ra_list.drop (8 * 7)).take 8).all (c_chk cs_at 3 none kt_213 4000) = true := all_Q (pcs := []) (by decide +kernel)
set_option maxRecDepth 100000 in
theorem cn_20_ok : c_chk cs_at 1 none kt_4 4000 cn_20 = true := c_chkQ_ok (pcs := []) (by decide +kernel)
set_option maxRecDepth 100000 in
theorem cn_122_ok : c_chk cs_at 2 (some FieldType.int) kt_14 4000 cn_122 = true := c_chkQ_ok (pcs := []) (by decide +kernel)
set_option maxRecDepth 100000 in
theorem cn_24_ok : c_chk cs_at 3 (some FieldType.boolean) kt_15 4000 cn_24 = true := c_chkQ_ok (pcs := [14]) (by decide +kernel)
set_option maxRecDepth 100000 in
theorem cn_119_ok : c_chk cs_at 2 (some FieldType.boolean) kt_16 4000 cn_119 = true := c_chkQ_ok (pcs := []) (by decide +kernel)
set_option maxRecDepth 100000 in
theorem cn_26_ok : c_chk cs_at 2 (some FieldType.boolean) kt_17 4000 cn_26 = true := c_chkQ_ok (pcs := []) (by decide +kernel)
set_option maxRecDepth 100000 in
theorem cn_407_ok : c_chk cs_at 3 (some FieldType.int) kt_18 4000 cn_407 = true := c_chkQ_ok (pcs := []) (by decide +kernel)
set_option maxRecDepth 100000 in
theorem cn_389_ok : c_chk cs_at 3 (some FieldType.boolean) kt_19 4000 cn_389 = true := c_chkQ_ok (pcs := [13]) (by decide +kernel)
set_option maxRecDepth 100000 in
theorem cn_25_ok : c_chk cs_at 2 none kt_20 4000 cn_25 = true := c_chkQ_ok (pcs := []) (by decide +kernel)
set_option maxRecDepth 100000 in
theorem cn_367_ok : c_chk cs_at 5 (some FieldType.boolean) kt_21 4000 cn_367 = true := c_chkQ_ok (pcs := [2]) (by decide +kernel)
set_option maxRecDepth 100000 in
theorem cn_368_ok : c_chk cs_at 5 (some FieldType.boolean) kt_21 4000 cn_368 = true := c_chkQ_ok (pcs := [2]) (by decide +kernel)
set_option maxRecDepth 100000 in
theorem cn_369_ok : c_chk cs_at 5 (some FieldType.boolean) kt_21 4000 cn_369 = true := c_chkQ_ok (pcs := [2]) (by decide +kernel)
set_option maxRecDepth 100000 in
theorem cn_315_ok : c_chk cs_at 3 (some FieldType.int) kt_22 4000 cn_315 = true := c_chkQ_ok (pcs := []) (by decide +kernel)
set_option maxRecDepth 100000 in
theorem cn_206_ok : c_chk cs_at 1 (some FieldType.int) kt_23 4000 cn_206 = true := c_chkQ_ok (pcs := []) (by decide +kernel)
set_option maxRecDepth 100000 in
theorem cn_29_ok : c_chk cs_at 1 (some FieldType.int) kt_24 4000 cn_29 = true := c_chkQ_ok (pcs := []) (by decide +kernel)
