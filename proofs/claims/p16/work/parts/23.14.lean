/-! THE CONTRACTS CHECKED, 14 -/
set_option maxRecDepth 100000 in
theorem cn_574_c24 : (((c_cuts cn_574).drop (4 * 24)).take 4).all (c_go1 cs_at 5 none kt_208 4000 cn_574) = true := goQ_piece cn_574_p (by decide +kernel)
set_option maxRecDepth 100000 in
theorem cn_574_c25 : (((c_cuts cn_574).drop (4 * 25)).take 4).all (c_go1 cs_at 5 none kt_208 4000 cn_574) = true := goQ_piece cn_574_p (by decide +kernel)
set_option maxRecDepth 100000 in
theorem cn_574_c26 : (((c_cuts cn_574).drop (4 * 26)).take 4).all (c_go1 cs_at 5 none kt_208 4000 cn_574) = true := goQ_piece cn_574_p (by decide +kernel)
set_option maxRecDepth 100000 in
theorem cn_574_c27 : (((c_cuts cn_574).drop (4 * 27)).take 4).all (c_go1 cs_at 5 none kt_208 4000 cn_574) = true := goQ_piece cn_574_p (by decide +kernel)
set_option maxRecDepth 100000 in
theorem cn_574_ok : c_chk cs_at 5 none kt_208 4000 cn_574 = true := c_chk_of (by decide +kernel) cn_574_s (all_chunks 4 28 (by decide) (fun j hj => match j, hj with
  | 0, _ => cn_574_c0
  | 1, _ => cn_574_c1
  | 2, _ => cn_574_c2
  | 3, _ => cn_574_c3
  | 4, _ => cn_574_c4
  | 5, _ => cn_574_c5
  | 6, _ => cn_574_c6
  | 7, _ => cn_574_c7
  | 8, _ => cn_574_c8
  | 9, _ => cn_574_c9
  | 10, _ => cn_574_c10
  | 11, _ => cn_574_c11
  | 12, _ => cn_574_c12
  | 13, _ => cn_574_c13
  | 14, _ => cn_574_c14
  | 15, _ => cn_574_c15
  | 16, _ => cn_574_c16
  | 17, _ => cn_574_c17
  | 18, _ => cn_574_c18
  | 19, _ => cn_574_c19
  | 20, _ => cn_574_c20
  | 21, _ => cn_574_c21
  | 22, _ => cn_574_c22
  | 23, _ => cn_574_c23
  | 24, _ => cn_574_c24
  | 25, _ => cn_574_c25
  | 26, _ => cn_574_c26
  | 27, _ => cn_574_c27
  | j + 28, h => absurd h (by omega)) (by decide +kernel))
set_option maxRecDepth 100000 in
theorem cn_327_ok : c_chk cs_at 5 none kt_209 4000 cn_327 = true := c_chkQ_ok (pcs := [46]) (by decide +kernel)
set_option maxRecDepth 100000 in
theorem cn_328_ok : c_chk cs_at 5 none kt_209 4000 cn_328 = true := c_chkQ_ok (pcs := [46]) (by decide +kernel)
set_option maxRecDepth 100000 in
theorem cn_94_ok : c_chk cs_at 3 none kt_210 4000 cn_94 = true := c_chkQ_ok (pcs := []) (by decide +kernel)
set_option maxRecDepth 100000 in
theorem cn_332_ok : c_chk cs_at 3 (some FieldType.int) kt_211 4000 cn_332 = true := c_chkQ_ok (pcs := []) (by decide +kernel)
set_option maxRecDepth 100000 in
theorem cn_424_ok : c_chk cs_at 2 (some FieldType.int) kt_214 4000 cn_424 = true := c_chkQ_ok (pcs := []) (by decide +kernel)
set_option maxRecDepth 100000 in
theorem cn_372_ok : c_chk cs_at 4 (some FieldType.boolean) kt_215 4000 cn_372 = true := c_chkQ_ok (pcs := []) (by decide +kernel)
set_option maxRecDepth 100000 in
theorem cn_584_ok : c_chk cs_at 4 (some FieldType.boolean) kt_215 4000 cn_584 = true := c_chkQ_ok (pcs := []) (by decide +kernel)
set_option maxRecDepth 100000 in
theorem cn_96_ok : c_chk cs_at 2 (some FieldType.int) kt_216 4000 cn_96 = true := c_chkQ_ok (pcs := [26]) (by decide +kernel)
set_option maxRecDepth 100000 in
theorem cn_598_ok : c_chk cs_at 3 (some FieldType.int) kt_217 4000 cn_598 = true := c_chkQ_ok (pcs := []) (by decide +kernel)
set_option maxRecDepth 100000 in
theorem cn_276_ok : c_chk cs_at 1 (some FieldType.boolean) kt_218 4000 cn_276 = true := c_chkQ_ok (pcs := []) (by decide +kernel)
set_option maxRecDepth 100000 in
theorem cn_280_ok : c_chk cs_at 1 none kt_219 4000 cn_280 = true := c_chkQ_ok (pcs := []) (by decide +kernel)
set_option maxRecDepth 100000 in
theorem cn_588_ok : c_chk cs_at 2 (some FieldType.int) kt_220 4000 cn_588 = true := c_chkQ_ok (pcs := []) (by decide +kernel)
set_option maxRecDepth 100000 in
theorem cn_581_ok : c_chk cs_at 4 (some FieldType.int) kt_221 4000 cn_581 = true := c_chkQ_ok (pcs := [7]) (by decide +kernel)
set_option maxRecDepth 100000 in
theorem cn_582_ok : c_chk cs_at 4 (some FieldType.int) kt_221 4000 cn_582 = true := c_chkQ_ok (pcs := [7]) (by decide +kernel)
set_option maxRecDepth 100000 in
theorem cn_329_ok : c_chk cs_at 3 (some FieldType.int) kt_222 4000 cn_329 = true := c_chkQ_ok (pcs := [4]) (by decide +kernel)
set_option maxRecDepth 100000 in
theorem cn_337_ok : c_chk cs_at 4 (some FieldType.int) kt_223 4000 cn_337 = true := c_chkQ_ok (pcs := [4]) (by decide +kernel)
set_option maxRecDepth 100000 in
theorem cn_338_ok : c_chk cs_at 4 (some FieldType.int) kt_223 4000 cn_338 = true := c_chkQ_ok (pcs := [4]) (by decide +kernel)
set_option maxRecDepth 100000 in
theorem cn_100_ok : c_chk cs_at 2 (some FieldType.int) kt_224 4000 cn_100 = true := c_chkQ_ok (pcs := []) (by decide +kernel)
set_option maxRecDepth 100000 in
theorem cn_101_ok : c_chk cs_at 2 (some FieldType.int) kt_224 4000 cn_101 = true := c_chkQ_ok (pcs := []) (by decide +kernel)
set_option maxRecDepth 100000 in
theorem cn_102_ok : c_chk cs_at 2 (some FieldType.int) kt_224 4000 cn_102 = true := c_chkQ_ok (pcs := []) (by decide +kernel)
set_option maxRecDepth 100000 in
theorem cn_103_ok : c_chk cs_at 2 (some FieldType.int) kt_224 4000 cn_103 = true := c_chkQ_ok (pcs := []) (by decide +kernel)
set_option maxRecDepth 100000 in
theorem cn_104_ok : c_chk cs_at 2 (some FieldType.int) kt_224 4000 cn_104 = true := c_chkQ_ok (pcs := []) (by decide +kernel)
set_option maxRecDepth 100000 in
theorem cn_105_ok : c_chk cs_at 2 (some FieldType.int) kt_224 4000 cn_105 = true := c_chkQ_ok (pcs := []) (by decide +kernel)
set_option maxRecDepth 100000 in
theorem cn_106_ok : c_chk cs_at 2 (some FieldType.int) kt_224 4000 cn_106 = true := c_chkQ_ok (pcs := []) (by decide +kernel)
set_option maxRecDepth 100000 in
theorem cn_107_ok : c_chk cs_at 2 (some FieldType.int) kt_224 4000 cn_107 = true := c_chkQ_ok (pcs := []) (by decide +kernel)
set_option maxRecDepth 100000 in
theorem cn_108_ok : c_chk cs_at 2 (some FieldType.int) kt_224 4000 cn_108 = true := c_chkQ_ok (pcs := []) (by decide +kernel)
set_option maxRecDepth 100000 in
theorem cn_109_ok : c_chk cs_at 2 (some FieldType.int) kt_224 4000 cn_109 = true := c_chkQ_ok (pcs := []) (by decide +kernel)
set_option maxRecDepth 100000 in
theorem cn_110_ok : c_chk cs_at 2 (some FieldType.int) kt_224 4000 cn_110 = true := c_chkQ_ok (pcs := []) (by decide +kernel)
set_option maxRecDepth 100000 in
theorem cn_111_ok : c_chk cs_at 2 (some FieldType.int) kt_224 4000 cn_111 = true := c_chkQ_ok (pcs := []) (by decide +kernel)
set_option maxRecDepth 100000 in
theorem cn_112_ok : c_chk cs_at 2 (some FieldType.int) kt_224 4000 cn_112 = true := c_chkQ_ok (pcs := []) (by decide +kernel)
set_option maxRecDepth 100000 in
theorem cn_113_ok : c_chk cs_at 2 (some FieldType.int) kt_224 4000 cn_113 = true := c_chkQ_ok (pcs := []) (by decide +kernel)
set_option maxRecDepth 100000 in
theorem cn_114_ok : c_chk cs_at 2 (some FieldType.int) kt_224 4000 cn_114 = true := c_chkQ_ok (pcs := []) (by decide +kernel)
set_option maxRecDepth 100000 in
theorem cn_115_ok : c_chk cs_at 2 (some FieldType.int) kt_224 4000 cn_115 = true := c_chkQ_ok (pcs := []) (by decide +kernel)
set_option maxRecDepth 100000 in
theorem cn_587_ok : c_chk cs_at 4 (some FieldType.int) kt_225 4000 cn_587 = true := c_chkQ_ok (pcs := [31]) (by decide +kernel)
set_option maxRecDepth 100000 in
theorem cn_586_ok : c_chk cs_at 3 (some FieldType.int) kt_226 4000 cn_586 = true := c_chkQ_ok (pcs := [19]) (by decide +kernel)
set_option maxRecDepth 100000 in
theorem cn_616_ok : c_chk cs_at 2 (some FieldType.int) kt_227 4000 cn_616 = true := c_chkQ_ok (pcs := []) (by decide +kernel)
set_option maxRecDepth 100000 in
theorem cn_37_ok : c_chk cs_at 2 none kt_228 4000 cn_37 = true := c_chkQ_ok (pcs := [7]) (by decide +kernel)
set_option maxRecDepth 100000 in
theorem cn_614_ok : c_chk cs_at 2 none kt_229 4000 cn_614 = true := c_chkQ_ok (pcs := []) (by decide +kernel)
set_option maxRecDepth 100000 in
theorem cn_615_ok : c_chk cs_at 2 none kt_229 4000 cn_615 = true := c_chkQ_ok (pcs := []) (by decide +kernel)
set_option maxRecDepth 100000 in
theorem cn_590_ok : c_chk cs_at 6 none kt_230 4000 cn_590 = true := c_chkQ_ok (pcs := [15, 98]) (by decide +kernel)
set_option maxRecDepth 100000 in
theorem cn_591_ok : c_chk cs_at 6 none kt_230 4000 cn_591 = true := c_chkQ_ok (pcs := [15, 98]) (by decide +kernel)
set_option maxRecDepth 100000 in
theorem cn_600_ok : c_chk cs_at 6 none kt_230 4000 cn_600 = true := c_chkQ_ok (pcs := [15, 98, 131]) (by decide +kernel)
set_option maxRecDepth 100000 in
theorem cn_601_ok : c_chk cs_at 6 none kt_230 4000 cn_601 = true := c_chkQ_ok (pcs := [15, 98, 131]) (by decide +kernel)
set_option maxRecDepth 100000 in
theorem cn_606_ok : c_chk cs_at 6 none kt_230 4000 cn_606 = true := c_chkQ_ok (pcs := [15, 98, 131]) (by decide +kernel)
set_option maxRecDepth 100000 in
theorem cn_607_ok : c_chk cs_at 6 none kt_230 4000 cn_607 = true := c_chkQ_ok (pcs := [15, 98, 131]) (by decide +kernel)
set_option maxRecDepth 100000 in
theorem cn_609_ok : c_chk cs_at 6 none kt_230 4000 cn_609 = true := c_chkQ_ok (pcs := [15, 98, 131]) (by decide +kernel)
set_option maxRecDepth 100000 in
theorem cn_610_ok : c_chk cs_at 6 none kt_230 4000 cn_610 = true := c_chkQ_ok (pcs := [15, 98, 131]) (by decide +kernel)
set_option maxRecDepth 100000 in
theorem cn_612_ok : c_chk cs_at 6 none kt_230 4000 cn_612 = true := c_chkQ_ok (pcs := [15, 98, 131]) (by decide +kernel)
set_option maxRecDepth 100000 in
theorem cn_613_ok : c_chk cs_at 6 none kt_230 4000 cn_613 = true := c_chkQ_ok (pcs := [15, 98, 131]) (by decide +kernel)
