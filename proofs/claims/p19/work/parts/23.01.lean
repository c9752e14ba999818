/-! THE CONTRACTS CHECKED, 1 -/
set_option maxRecDepth 100000 in
theorem cn_2_ok : c_chk cs_at 1 (some FieldType.int) kt_25 4000 cn_2 = true := c_chkQ_ok (pcs := []) (by decide +kernel)
set_option maxRecDepth 100000 in
theorem cn_30_ok : c_chk cs_at 2 (some FieldType.boolean) kt_26 4000 cn_30 = true := c_chkQ_ok (pcs := []) (by decide +kernel)
set_option maxRecDepth 100000 in
theorem cn_207_ok : c_chk cs_at 2 (some FieldType.boolean) kt_27 4000 cn_207 = true := c_chkQ_ok (pcs := []) (by decide +kernel)
set_option maxRecDepth 100000 in
theorem cn_28_ok : c_chk cs_at 1 (some FieldType.boolean) kt_28 4000 cn_28 = true := c_chkQ_ok (pcs := []) (by decide +kernel)
set_option maxRecDepth 100000 in
theorem cn_27_ok : c_chk cs_at 1 none kt_29 4000 cn_27 = true := c_chkQ_ok (pcs := []) (by decide +kernel)
set_option maxRecDepth 100000 in
theorem cn_196_ok : c_chk cs_at 3 (some FieldType.int) kt_30 4000 cn_196 = true := c_chkQ_ok (pcs := [32]) (by decide +kernel)
set_option maxRecDepth 100000 in
theorem cn_31_ok : c_chk cs_at 2 none kt_31 4000 cn_31 = true := c_chkQ_ok (pcs := [2]) (by decide +kernel)
set_option maxRecDepth 100000 in
theorem cn_14_ok : c_chk cs_at 2 (some FieldType.boolean) kt_32 4000 cn_14 = true := c_chkQ_ok (pcs := []) (by decide +kernel)
set_option maxRecDepth 100000 in
theorem cn_18_ok : c_chk cs_at 1 none kt_33 4000 cn_18 = true := c_chkQ_ok (pcs := []) (by decide +kernel)
set_option maxRecDepth 100000 in
theorem cn_19_ok : c_chk cs_at 2 none kt_34 4000 cn_19 = true := c_chkQ_ok (pcs := [2]) (by decide +kernel)
set_option maxRecDepth 100000 in
theorem cn_381_ok : c_chk cs_at 2 (some FieldType.int) kt_35 4000 cn_381 = true := c_chkQ_ok (pcs := []) (by decide +kernel)
set_option maxRecDepth 100000 in
theorem cn_366_ok : c_chk cs_at 3 (some FieldType.boolean) kt_36 4000 cn_366 = true := c_chkQ_ok (pcs := [25]) (by decide +kernel)
set_option maxRecDepth 100000 in
theorem cn_316_ok : c_chk cs_at 7 (some FieldType.boolean) kt_37 4000 cn_316 = true := c_chkQ_ok (pcs := [94]) (by decide +kernel)
set_option maxRecDepth 100000 in
theorem cn_195_ok : c_chk cs_at 3 none kt_38 4000 cn_195 = true := c_chkQ_ok (pcs := [2]) (by decide +kernel)
set_option maxRecDepth 100000 in
theorem cn_502_ok : c_chk cs_at 2 (some FieldType.int) kt_39 4000 cn_502 = true := c_chkQ_ok (pcs := []) (by decide +kernel)
set_option maxRecDepth 100000 in
theorem cn_501_ok : c_chk cs_at 1 (some FieldType.boolean) kt_40 4000 cn_501 = true := c_chkQ_ok (pcs := []) (by decide +kernel)
set_option maxRecDepth 100000 in
theorem cn_457_ok : c_chk cs_at 4 (some FieldType.boolean) kt_41 4000 cn_457 = true := c_chkQ_ok (pcs := []) (by decide +kernel)
set_option maxRecDepth 100000 in
theorem cn_476_ok : c_chk cs_at 4 (some FieldType.boolean) kt_41 4000 cn_476 = true := c_chkQ_ok (pcs := []) (by decide +kernel)
set_option maxRecDepth 100000 in
theorem cn_484_ok : c_chk cs_at 4 (some FieldType.boolean) kt_41 4000 cn_484 = true := c_chkQ_ok (pcs := []) (by decide +kernel)
set_option maxRecDepth 100000 in
theorem cn_492_ok : c_chk cs_at 4 (some FieldType.boolean) kt_41 4000 cn_492 = true := c_chkQ_ok (pcs := []) (by decide +kernel)
set_option maxRecDepth 100000 in
theorem cn_500_ok : c_chk cs_at 4 (some FieldType.boolean) kt_41 4000 cn_500 = true := c_chkQ_ok (pcs := []) (by decide +kernel)
set_option maxRecDepth 100000 in
theorem cn_448_ok : c_chk cs_at 6 (some FieldType.boolean) kt_42 4000 cn_448 = true := c_chkQ_ok (pcs := [19]) (by decide +kernel)
set_option maxRecDepth 100000 in
theorem cn_454_ok : c_chk cs_at 6 (some FieldType.boolean) kt_42 4000 cn_454 = true := c_chkQ_ok (pcs := [19]) (by decide +kernel)
set_option maxRecDepth 100000 in
theorem cn_469_ok : c_chk cs_at 6 (some FieldType.boolean) kt_42 4000 cn_469 = true := c_chkQ_ok (pcs := [19]) (by decide +kernel)
set_option maxRecDepth 100000 in
theorem cn_475_ok : c_chk cs_at 6 (some FieldType.boolean) kt_42 4000 cn_475 = true := c_chkQ_ok (pcs := [19]) (by decide +kernel)
set_option maxRecDepth 100000 in
theorem cn_481_ok : c_chk cs_at 6 (some FieldType.boolean) kt_42 4000 cn_481 = true := c_chkQ_ok (pcs := [19]) (by decide +kernel)
set_option maxRecDepth 100000 in
theorem cn_483_ok : c_chk cs_at 6 (some FieldType.boolean) kt_42 4000 cn_483 = true := c_chkQ_ok (pcs := [19]) (by decide +kernel)
set_option maxRecDepth 100000 in
theorem cn_489_ok : c_chk cs_at 6 (some FieldType.boolean) kt_42 4000 cn_489 = true := c_chkQ_ok (pcs := [19]) (by decide +kernel)
set_option maxRecDepth 100000 in
theorem cn_491_ok : c_chk cs_at 6 (some FieldType.boolean) kt_42 4000 cn_491 = true := c_chkQ_ok (pcs := [19]) (by decide +kernel)
set_option maxRecDepth 100000 in
theorem cn_497_ok : c_chk cs_at 6 (some FieldType.boolean) kt_42 4000 cn_497 = true := c_chkQ_ok (pcs := [19]) (by decide +kernel)
set_option maxRecDepth 100000 in
theorem cn_499_ok : c_chk cs_at 6 (some FieldType.boolean) kt_42 4000 cn_499 = true := c_chkQ_ok (pcs := [19]) (by decide +kernel)
set_option maxRecDepth 100000 in
theorem cn_445_ok : c_chk cs_at 3 (some FieldType.boolean) kt_43 4000 cn_445 = true := c_chkQ_ok (pcs := []) (by decide +kernel)
set_option maxRecDepth 100000 in
theorem cn_451_ok : c_chk cs_at 3 (some FieldType.boolean) kt_43 4000 cn_451 = true := c_chkQ_ok (pcs := []) (by decide +kernel)
set_option maxRecDepth 100000 in
theorem cn_467_ok : c_chk cs_at 3 (some FieldType.boolean) kt_43 4000 cn_467 = true := c_chkQ_ok (pcs := []) (by decide +kernel)
set_option maxRecDepth 100000 in
theorem cn_471_ok : c_chk cs_at 3 (some FieldType.boolean) kt_43 4000 cn_471 = true := c_chkQ_ok (pcs := []) (by decide +kernel)
set_option maxRecDepth 100000 in
theorem cn_480_ok : c_chk cs_at 3 (some FieldType.boolean) kt_43 4000 cn_480 = true := c_chkQ_ok (pcs := []) (by decide +kernel)
set_option maxRecDepth 100000 in
theorem cn_482_ok : c_chk cs_at 3 (some FieldType.boolean) kt_43 4000 cn_482 = true := c_chkQ_ok (pcs := []) (by decide +kernel)
set_option maxRecDepth 100000 in
theorem cn_488_ok : c_chk cs_at 3 (some FieldType.boolean) kt_43 4000 cn_488 = true := c_chkQ_ok (pcs := []) (by decide +kernel)
set_option maxRecDepth 100000 in
theorem cn_490_ok : c_chk cs_at 3 (some FieldType.boolean) kt_43 4000 cn_490 = true := c_chkQ_ok (pcs := []) (by decide +kernel)
set_option maxRecDepth 100000 in
theorem cn_496_ok : c_chk cs_at 3 (some FieldType.boolean) kt_43 4000 cn_496 = true := c_chkQ_ok (pcs := []) (by decide +kernel)
set_option maxRecDepth 100000 in
theorem cn_498_ok : c_chk cs_at 3 (some FieldType.boolean) kt_43 4000 cn_498 = true := c_chkQ_ok (pcs := []) (by decide +kernel)
set_option maxRecDepth 100000 in
theorem cn_442_ok : c_chk cs_at 4 (some FieldType.boolean) kt_44 4000 cn_442 = true := c_chkQ_ok (pcs := [4]) (by decide +kernel)
set_option maxRecDepth 100000 in
theorem cn_465_ok : c_chk cs_at 4 (some FieldType.boolean) kt_44 4000 cn_465 = true := c_chkQ_ok (pcs := [4]) (by decide +kernel)
set_option maxRecDepth 100000 in
theorem cn_479_ok : c_chk cs_at 4 (some FieldType.boolean) kt_44 4000 cn_479 = true := c_chkQ_ok (pcs := [4]) (by decide +kernel)
set_option maxRecDepth 100000 in
theorem cn_487_ok : c_chk cs_at 4 (some FieldType.boolean) kt_44 4000 cn_487 = true := c_chkQ_ok (pcs := [4]) (by decide +kernel)
set_option maxRecDepth 100000 in
theorem cn_495_ok : c_chk cs_at 4 (some FieldType.boolean) kt_44 4000 cn_495 = true := c_chkQ_ok (pcs := [4]) (by decide +kernel)
set_option maxRecDepth 100000 in
theorem cn_437_ok : c_chk cs_at 4 (some FieldType.boolean) kt_45 4000 cn_437 = true := c_chkQ_ok (pcs := []) (by decide +kernel)
set_option maxRecDepth 100000 in
theorem cn_463_ok : c_chk cs_at 4 (some FieldType.boolean) kt_45 4000 cn_463 = true := c_chkQ_ok (pcs := []) (by decide +kernel)
set_option maxRecDepth 100000 in
theorem cn_478_ok : c_chk cs_at 4 (some FieldType.boolean) kt_45 4000 cn_478 = true := c_chkQ_ok (pcs := []) (by decide +kernel)
set_option maxRecDepth 100000 in
theorem cn_486_ok : c_chk cs_at 4 (some FieldType.boolean) kt_45 4000 cn_486 = true := c_chkQ_ok (pcs := []) (by decide +kernel)
set_option maxRecDepth 100000 in
theorem cn_494_ok : c_chk cs_at 4 (some FieldType.boolean) kt_45 4000 cn_494 = true := c_chkQ_ok (pcs := []) (by decide +kernel)
set_option maxRecDepth 100000 in
theorem cn_205_ok : c_chk cs_at 2 (some FieldType.boolean) kt_46 4000 cn_205 = true := c_chkQ_ok (pcs := []) (by decide +kernel)
set_option maxRecDepth 100000 in
theorem cn_461_ok : c_chk cs_at 2 (some FieldType.boolean) kt_46 4000 cn_461 = true := c_chkQ_ok (pcs := []) (by decide +kernel)
set_option maxRecDepth 100000 in
theorem cn_477_ok : c_chk cs_at 2 (some FieldType.boolean) kt_46 4000 cn_477 = true := c_chkQ_ok (pcs := []) (by decide +kernel)
set_option maxRecDepth 100000 in
theorem cn_485_ok : c_chk cs_at 2 (some FieldType.boolean) kt_46 4000 cn_485 = true := c_chkQ_ok (pcs := []) (by decide +kernel)
set_option maxRecDepth 100000 in
theorem cn_493_ok : c_chk cs_at 2 (some FieldType.boolean) kt_46 4000 cn_493 = true := c_chkQ_ok (pcs := []) (by decide +kernel)
set_option maxRecDepth 100000 in
theorem cn_324_ok : c_chk cs_at 4 none kt_47 4000 cn_324 = true := c_chkQ_ok (pcs := [12]) (by decide +kernel)
set_option maxRecDepth 100000 in
theorem cn_22_ok : c_chk cs_at 2 none kt_48 4000 cn_22 = true := c_chkQ_ok (pcs := []) (by decide +kernel)
set_option maxRecDepth 100000 in
theorem cn_23_ok : c_chk cs_at 2 (some FieldType.boolean) kt_51 4000 cn_23 = true := c_chkQ_ok (pcs := []) (by decide +kernel)
set_option maxRecDepth 100000 in
theorem cn_203_ok : c_chk cs_at 3 none kt_52 4000 cn_203 = true := c_chkQ_ok (pcs := []) (by decide +kernel)
set_option maxRecDepth 100000 in
theorem cn_6_ok : c_chk cs_at 4 (some FieldType.int) kt_53 4000 cn_6 = true := c_chkQ_ok (pcs := []) (by decide +kernel)
set_option maxRecDepth 100000 in
theorem cn_118_ok : c_chk cs_at 5 (some FieldType.int) kt_54 4000 cn_118 = true := c_chkQ_ok (pcs := []) (by decide +kernel)
set_option maxRecDepth 100000 in
theorem cn_15_ok : c_chk cs_at 2 (some FieldType.boolean) kt_55 4000 cn_15 = true := c_chkQ_ok (pcs := []) (by decide +kernel)
set_option maxRecDepth 100000 in
theorem cn_293_ok : c_chk cs_at 10 (some FieldType.int) kt_56 4000 cn_293 = true := c_chkQ_ok (pcs := [50]) (by decide +kernel)
set_option maxRecDepth 100000 in
theorem cn_120_ok : c_chk cs_at 3 (some FieldType.int) kt_57 4000 cn_120 = true := c_chkQ_ok (pcs := []) (by decide +kernel)
set_option maxRecDepth 100000 in
theorem cn_342_ok : c_chk cs_at 4 (some FieldType.int) kt_58 4000 cn_342 = true := c_chkQ_ok (pcs := []) (by decide +kernel)
set_option maxRecDepth 100000 in
theorem cn_121_ok : c_chk cs_at 4 (some FieldType.int) kt_59 4000 cn_121 = true := c_chkQ_ok (pcs := []) (by decide +kernel)
set_option maxRecDepth 100000 in
theorem cn_322_ok : c_chk cs_at 2 none kt_60 4000 cn_322 = true := c_chkQ_ok (pcs := []) (by decide +kernel)
