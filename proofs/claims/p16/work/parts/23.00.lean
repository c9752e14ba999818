/-! THE CONTRACTS CHECKED, 0 -/
set_option maxRecDepth 100000 in
theorem ra_ok_0 : ((ra_list.drop (8 * 0)).take 8).all (c_chk cs_at 3 none kt_213 4000) = true := all_Q (pcs := []) (by decide +kernel)
set_option maxRecDepth 100000 in
theorem ra_ok_1 : ((ra_list.drop (8 * 1)).take 8).all (c_chk cs_at 3 none kt_213 4000) = true := all_Q (pcs := []) (by decide +kernel)
set_option maxRecDepth 100000 in
theorem ra_ok_2 : ((ra_list.drop (8 * 2)).take 8).all (c_chk cs_at 3 none kt_213 4000) = true := all_Q (pcs := []) (by decide +kernel)
set_option maxRecDepth 100000 in
theorem ra_ok_3 : ((ra_list.drop (8 * 3)).take 8).all (c_chk cs_at 3 none kt_213 4000) = true := all_Q (pcs := []) (by decide +kernel)
set_option maxRecDepth 100000 in
theorem cn_20_ok : c_chk cs_at 1 none kt_4 4000 cn_20 = true := c_chkQ_ok (pcs := []) (by decide +kernel)
set_option maxRecDepth 100000 in
theorem cn_122_ok : c_chk cs_at 2 (some FieldType.int) kt_14 4000 cn_122 = true := c_chkQ_ok (pcs := []) (by decide +kernel)
set_option maxRecDepth 100000 in
theorem cn_24_ok : c_chk cs_at 3 (some FieldType.boolean) kt_15 4000 cn_24 = true := c_chkQ_ok (pcs := [14]) (by decide +kernel)
set_option maxRecDepth 100000 in
theorem cn_119_ok : c_chk cs_at 2 (some FieldType.boolean) kt_16 4000 cn_119 = true := c_chkQ_ok (pcs := []) (by decide +kernel)
set_option maxRecDepth 100000 in
theorem cn_26_ok : c_chk cs_at 2 (some FieldType.boolean) kt_17 4000 cn_26 = true := c_chkQ_ok (pcs := []) (by decide +kernel)
set_option maxRecDepth 100000 in
theorem cn_407_ok : c_chk cs_at 3 (some FieldType.int) kt_18 4000 cn_407 = true := c_chkQ_ok (pcs := []) (by decide +kernel)
set_option maxRecDepth 100000 in
theorem cn_389_ok : c_chk cs_at 3 (some FieldType.boolean) kt_19 4000 cn_389 = true := c_chkQ_ok (pcs := [13]) (by decide +kernel)
set_option maxRecDepth 100000 in
theorem cn_25_ok : c_chk cs_at 2 none kt_20 4000 cn_25 = true := c_chkQ_ok (pcs := []) (by decide +kernel)
set_option maxRecDepth 100000 in
theorem cn_367_ok : c_chk cs_at 5 (some FieldType.boolean) kt_21 4000 cn_367 = true := c_chkQ_ok (pcs := [2]) (by decide +kernel)
set_option maxRecDepth 100000 in
theorem cn_368_ok : c_chk cs_at 5 (some FieldType.boolean) kt_21 4000 cn_368 = true := c_chkQ_ok (pcs := [2]) (by decide +kernel)
set_option maxRecDepth 100000 in
theorem cn_369_ok : c_chk cs_at 5 (some FieldType.boolean) kt_21 4000 cn_369 = true := c_chkQ_ok (pcs := [2]) (by decide +kernel)
set_option maxRecDepth 100000 in
theorem cn_315_ok : c_chk cs_at 3 (some FieldType.int) kt_22 4000 cn_315 = true := c_chkQ_ok (pcs := []) (by decide +kernel)
set_option maxRecDepth 100000 in
theorem cn_206_ok : c_chk cs_at 1 (some FieldType.int) kt_23 4000 cn_206 = true := c_chkQ_ok (pcs := []) (by decide +kernel)
set_option maxRecDepth 100000 in
theorem cn_29_ok : c_chk cs_at 1 (some FieldType.int) kt_24 4000 cn_29 = true := c_chkQ_ok (pcs := []) (by decide +kernel)
set_option maxRecDepth 100000 in
theorem cn_2_ok : c_chk cs_at 1 (some FieldType.int) kt_25 4000 cn_2 = true := c_chkQ_ok (pcs := []) (by decide +kernel)
set_option maxRecDepth 100000 in
theorem cn_30_ok : c_chk cs_at 2 (some FieldType.boolean) kt_26 4000 cn_30 = true := c_chkQ_ok (pcs := []) (by decide +kernel)
set_option maxRecDepth 100000 in
theorem cn_207_ok : c_chk cs_at 2 (some FieldType.boolean) kt_27 4000 cn_207 = true := c_chkQ_ok (pcs := []) (by decide +kernel)
set_option maxRecDepth 100000 in
theorem cn_28_ok : c_chk cs_at 1 (some FieldType.boolean) kt_28 4000 cn_28 = true := c_chkQ_ok (pcs := []) (by decide +kernel)
set_option maxRecDepth 100000 in
theorem cn_27_ok : c_chk cs_at 1 none kt_29 4000 cn_27 = true := c_chkQ_ok (pcs := []) (by decide +kernel)
set_option maxRecDepth 100000 in
theorem cn_196_ok : c_chk cs_at 3 (some FieldType.int) kt_30 4000 cn_196 = true := c_chkQ_ok (pcs := [32]) (by decide +kernel)
set_option maxRecDepth 100000 in
theorem cn_31_ok : c_chk cs_at 2 none kt_31 4000 cn_31 = true := c_chkQ_ok (pcs := [2]) (by decide +kernel)
set_option maxRecDepth 100000 in
theorem cn_14_ok : c_chk cs_at 2 (some FieldType.boolean) kt_32 4000 cn_14 = true := c_chkQ_ok (pcs := []) (by decide +kernel)
set_option maxRecDepth 100000 in
theorem cn_18_ok : c_chk cs_at 1 none kt_33 4000 cn_18 = true := c_chkQ_ok (pcs := []) (by decide +kernel)
set_option maxRecDepth 100000 in
theorem cn_19_ok : c_chk cs_at 2 none kt_34 4000 cn_19 = true := c_chkQ_ok (pcs := [2]) (by decide +kernel)
set_option maxRecDepth 100000 in
theorem cn_381_ok : c_chk cs_at 2 (some FieldType.int) kt_35 4000 cn_381 = true := c_chkQ_ok (pcs := []) (by decide +kernel)
set_option maxRecDepth 100000 in
theorem cn_366_ok : c_chk cs_at 3 (some FieldType.boolean) kt_36 4000 cn_366 = true := c_chkQ_ok (pcs := [25]) (by decide +kernel)
set_option maxRecDepth 100000 in
theorem cn_316_ok : c_chk cs_at 7 (some FieldType.boolean) kt_37 4000 cn_316 = true := c_chkQ_ok (pcs := [94]) (by decide +kernel)
set_option maxRecDepth 100000 in
theorem cn_195_ok : c_chk cs_at 3 none kt_38 4000 cn_195 = true := c_chkQ_ok (pcs := [2]) (by decide +kernel)
set_option maxRecDepth 100000 in
theorem cn_502_ok : c_chk cs_at 2 (some FieldType.int) kt_39 4000 cn_502 = true := c_chkQ_ok (pcs := []) (by decide +kernel)
set_option maxRecDepth 100000 in
theorem cn_501_ok : c_chk cs_at 1 (some FieldType.boolean) kt_40 4000 cn_501 = true := c_chkQ_ok (pcs := []) (by decide +kernel)
set_option maxRecDepth 100000 in
theorem cn_457_ok : c_chk cs_at 4 (some FieldType.boolean) kt_41 4000 cn_457 = true := c_chkQ_ok (pcs := []) (by decide +kernel)
set_option maxRecDepth 100000 in
theorem cn_476_ok : c_chk cs_at 4 (some FieldType.boolean) kt_41 4000 cn_476 = true := c_chkQ_ok (pcs := []) (by decide +kernel)
set_option maxRecDepth 100000 in
theorem cn_484_ok : c_chk cs_at 4 (some FieldType.boolean) kt_41 4000 cn_484 = true := c_chkQ_ok (pcs := []) (by decide +kernel)
set_option maxRecDepth 100000 in
theorem cn_492_ok : c_chk cs_at 4 (some FieldType.boolean) kt_41 4000 cn_492 = true := c_chkQ_ok (pcs := []) (by decide +kernel)
set_option maxRecDepth 100000 in
theorem cn_500_ok : c_chk cs_at 4 (some FieldType.boolean) kt_41 4000 cn_500 = true := c_chkQ_ok (pcs := []) (by decide +kernel)
set_option maxRecDepth 100000 in
theorem cn_448_ok : c_chk cs_at 6 (some FieldType.boolean) kt_42 4000 cn_448 = true := c_chkQ_ok (pcs := [19]) (by decide +kernel)
set_option maxRecDepth 100000 in
theorem cn_454_ok : c_chk cs_at 6 (some FieldType.boolean) kt_42 4000 cn_454 = true := c_chkQ_ok (pcs := [19]) (by decide +kernel)
set_option maxRecDepth 100000 in
theorem cn_469_ok : c_chk cs_at 6 (some FieldType.boolean) kt_42 4000 cn_469 = true := c_chkQ_ok (pcs := [19]) (by decide +kernel)
set_option maxRecDepth 100000 in
theorem cn_475_ok : c_chk cs_at 6 (some FieldType.boolean) kt_42 4000 cn_475 = true := c_chkQ_ok (pcs := [19]) (by decide +kernel)
set_option maxRecDepth 100000 in
theorem cn_481_ok : c_chk cs_at 6 (some FieldType.boolean) kt_42 4000 cn_481 = true := c_chkQ_ok (pcs := [19]) (by decide +kernel)
set_option maxRecDepth 100000 in
theorem cn_483_ok : c_chk cs_at 6 (some FieldType.boolean) kt_42 4000 cn_483 = true := c_chkQ_ok (pcs := [19]) (by decide +kernel)
