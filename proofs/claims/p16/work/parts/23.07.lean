/-! THE CONTRACTS CHECKED, 7 -/
set_option maxRecDepth 100000 in
theorem cn_430_c7 : (((c_cuts cn_430).drop (4 * 7)).take 4).all (c_go1 cs_at 6 (some FieldType.int) kt_172 4000 cn_430) = true := goQ_piece cn_430_p (by decide +kernel)
set_option maxRecDepth 100000 in
theorem cn_430_c8 : (((c_cuts cn_430).drop (4 * 8)).take 4).all (c_go1 cs_at 6 (some FieldType.int) kt_172 4000 cn_430) = true := goQ_piece cn_430_p (by decide +kernel)
set_option maxRecDepth 100000 in
theorem cn_430_c9 : (((c_cuts cn_430).drop (4 * 9)).take 4).all (c_go1 cs_at 6 (some FieldType.int) kt_172 4000 cn_430) = true := goQ_piece cn_430_p (by decide +kernel)
set_option maxRecDepth 100000 in
theorem cn_430_c10 : (((c_cuts cn_430).drop (4 * 10)).take 4).all (c_go1 cs_at 6 (some FieldType.int) kt_172 4000 cn_430) = true := goQ_piece cn_430_p (by decide +kernel)
set_option maxRecDepth 100000 in
theorem cn_430_c11 : (((c_cuts cn_430).drop (4 * 11)).take 4).all (c_go1 cs_at 6 (some FieldType.int) kt_172 4000 cn_430) = true := goQ_piece cn_430_p (by decide +kernel)
set_option maxRecDepth 100000 in
theorem cn_430_c12 : (((c_cuts cn_430).drop (4 * 12)).take 4).all (c_go1 cs_at 6 (some FieldType.int) kt_172 4000 cn_430) = true := goQ_piece cn_430_p (by decide +kernel)
set_option maxRecDepth 100000 in
theorem cn_430_c13 : (((c_cuts cn_430).drop (4 * 13)).take 4).all (c_go1 cs_at 6 (some FieldType.int) kt_172 4000 cn_430) = true := goQ_piece cn_430_p (by decide +kernel)
set_option maxRecDepth 100000 in
theorem cn_430_c14 : (((c_cuts cn_430).drop (4 * 14)).take 4).all (c_go1 cs_at 6 (some FieldType.int) kt_172 4000 cn_430) = true := goQ_piece cn_430_p (by decide +kernel)
set_option maxRecDepth 100000 in
theorem cn_430_c15 : (((c_cuts cn_430).drop (4 * 15)).take 4).all (c_go1 cs_at 6 (some FieldType.int) kt_172 4000 cn_430) = true := goQ_piece cn_430_p (by decide +kernel)
set_option maxRecDepth 100000 in
theorem cn_430_c16 : (((c_cuts cn_430).drop (4 * 16)).take 4).all (c_go1 cs_at 6 (some FieldType.int) kt_172 4000 cn_430) = true := goQ_piece cn_430_p (by decide +kernel)
set_option maxRecDepth 100000 in
theorem cn_430_c17 : (((c_cuts cn_430).drop (4 * 17)).take 4).all (c_go1 cs_at 6 (some FieldType.int) kt_172 4000 cn_430) = true := goQ_piece cn_430_p (by decide +kernel)
set_option maxRecDepth 100000 in
theorem cn_430_c18 : (((c_cuts cn_430).drop (4 * 18)).take 4).all (c_go1 cs_at 6 (some FieldType.int) kt_172 4000 cn_430) = true := goQ_piece cn_430_p (by decide +kernel)
set_option maxRecDepth 100000 in
theorem cn_430_c19 : (((c_cuts cn_430).drop (4 * 19)).take 4).all (c_go1 cs_at 6 (some FieldType.int) kt_172 4000 cn_430) = true := goQ_piece cn_430_p (by decide +kernel)
set_option maxRecDepth 100000 in
theorem cn_430_c20 : (((c_cuts cn_430).drop (4 * 20)).take 4).all (c_go1 cs_at 6 (some FieldType.int) kt_172 4000 cn_430) = true := goQ_piece cn_430_p (by decide +kernel)
set_option maxRecDepth 100000 in
theorem cn_430_c21 : (((c_cuts cn_430).drop (4 * 21)).take 4).all (c_go1 cs_at 6 (some FieldType.int) kt_172 4000 cn_430) = true := goQ_piece cn_430_p (by decide +kernel)
set_option maxRecDepth 100000 in
theorem cn_430_c22 : (((c_cuts cn_430).drop (4 * 22)).take 4).all (c_go1 cs_at 6 (some FieldType.int) kt_172 4000 cn_430) = true := goQ_piece cn_430_p (by decide +kernel)
set_option maxRecDepth 100000 in
theorem cn_430_c23 : (((c_cuts cn_430).drop (4 * 23)).take 4).all (c_go1 cs_at 6 (some FieldType.int) kt_172 4000 cn_430) = true := goQ_piece cn_430_p (by decide +kernel)
set_option maxRecDepth 100000 in
theorem cn_430_c24 : (((c_cuts cn_430).drop (4 * 24)).take 4).all (c_go1 cs_at 6 (some FieldType.int) kt_172 4000 cn_430) = true := goQ_piece cn_430_p (by decide +kernel)
set_option maxRecDepth 100000 in
theorem cn_430_c25 : (((c_cuts cn_430).drop (4 * 25)).take 4).all (c_go1 cs_at 6 (some FieldType.int) kt_172 4000 cn_430) = true := goQ_piece cn_430_p (by decide +kernel)
set_option maxRecDepth 100000 in
theorem cn_430_c26 : (((c_cuts cn_430).drop (4 * 26)).take 4).all (c_go1 cs_at 6 (some FieldType.int) kt_172 4000 cn_430) = true := goQ_piece cn_430_p (by decide +kernel)
set_option maxRecDepth 100000 in
theorem cn_430_ok : c_chk cs_at 6 (some FieldType.int) kt_172 4000 cn_430 = true := c_chk_of (by decide +kernel) cn_430_s (all_chunks 4 27 (by decide) (fun j hj => match j, hj with
  | 0, _ => cn_430_c0
  | 1, _ => cn_430_c1
  | 2, _ => cn_430_c2
  | 3, _ => cn_430_c3
  | 4, _ => cn_430_c4
  | 5, _ => cn_430_c5
  | 6, _ => cn_430_c6
  | 7, _ => cn_430_c7
  | 8, _ => cn_430_c8
  | 9, _ => cn_430_c9
  | 10, _ => cn_430_c10
  | 11, _ => cn_430_c11
  | 12, _ => cn_430_c12
  | 13, _ => cn_430_c13
  | 14, _ => cn_430_c14
  | 15, _ => cn_430_c15
  | 16, _ => cn_430_c16
  | 17, _ => cn_430_c17
  | 18, _ => cn_430_c18
  | 19, _ => cn_430_c19
  | 20, _ => cn_430_c20
  | 21, _ => cn_430_c21
  | 22, _ => cn_430_c22
  | 23, _ => cn_430_c23
  | 24, _ => cn_430_c24
  | 25, _ => cn_430_c25
  | 26, _ => cn_430_c26
  | j + 27, h => absurd h (by omega)) (by decide +kernel))
set_option maxRecDepth 100000 in
theorem cn_419_ok : c_chk cs_at 4 none kt_173 4000 cn_419 = true := c_chkQ_ok (pcs := [39]) (by decide +kernel)
set_option maxRecDepth 100000 in
theorem cn_420_ok : c_chk cs_at 4 none kt_173 4000 cn_420 = true := c_chkQ_ok (pcs := [39]) (by decide +kernel)
set_option maxRecDepth 100000 in
theorem cn_421_ok : c_chk cs_at 4 none kt_173 4000 cn_421 = true := c_chkQ_ok (pcs := [39]) (by decide +kernel)
set_option maxRecDepth 100000 in
theorem cn_422_ok : c_chk cs_at 4 none kt_173 4000 cn_422 = true := c_chkQ_ok (pcs := [39]) (by decide +kernel)
set_option maxRecDepth 100000 in
theorem cn_423_ok : c_chk cs_at 4 none kt_173 4000 cn_423 = true := c_chkQ_ok (pcs := [39]) (by decide +kernel)
set_option maxRecDepth 100000 in
theorem cn_330_ok : c_chk cs_at 2 none kt_174 4000 cn_330 = true := c_chkQ_ok (pcs := []) (by decide +kernel)
set_option maxRecDepth 100000 in
theorem cn_331_ok : c_chk cs_at 2 none kt_174 4000 cn_331 = true := c_chkQ_ok (pcs := []) (by decide +kernel)
set_option maxRecDepth 100000 in
theorem cn_531_ok : c_chk cs_at 3 (some FieldType.int) kt_175 4000 cn_531 = true := c_chkQ_ok (pcs := [73]) (by decide +kernel)
set_option maxRecDepth 100000 in
theorem cn_510_ok : c_chk cs_at 3 (some FieldType.int) kt_176 4000 cn_510 = true := c_chkQ_ok (pcs := []) (by decide +kernel)
set_option maxRecDepth 100000 in
theorem cn_511_ok : c_chk cs_at 3 (some FieldType.int) kt_176 4000 cn_511 = true := c_chkQ_ok (pcs := []) (by decide +kernel)
set_option maxRecDepth 100000 in
theorem cn_508_ok : c_chk cs_at 5 (some FieldType.int) kt_177 4000 cn_508 = true := c_chkQ_ok (pcs := [6]) (by decide +kernel)
set_option maxRecDepth 100000 in
theorem cn_509_ok : c_chk cs_at 5 (some FieldType.int) kt_177 4000 cn_509 = true := c_chkQ_ok (pcs := [6]) (by decide +kernel)
set_option maxRecDepth 100000 in
theorem cn_506_ok : c_chk cs_at 5 (some FieldType.int) kt_178 4000 cn_506 = true := c_chkQ_ok (pcs := [6]) (by decide +kernel)
set_option maxRecDepth 100000 in
theorem cn_507_ok : c_chk cs_at 5 (some FieldType.int) kt_178 4000 cn_507 = true := c_chkQ_ok (pcs := [6]) (by decide +kernel)
set_option maxRecDepth 100000 in
theorem cn_504_ok : c_chk cs_at 4 (some FieldType.int) kt_179 4000 cn_504 = true := c_chkQ_ok (pcs := []) (by decide +kernel)
set_option maxRecDepth 100000 in
theorem cn_505_ok : c_chk cs_at 4 (some FieldType.int) kt_179 4000 cn_505 = true := c_chkQ_ok (pcs := []) (by decide +kernel)
set_option maxRecDepth 100000 in
theorem cn_78_ok : c_chk cs_at 1 (some FieldType.int) kt_180 4000 cn_78 = true := c_chkQ_ok (pcs := []) (by decide +kernel)
set_option maxRecDepth 100000 in
theorem cn_575_ok : c_chk cs_at 3 (some FieldType.int) kt_181 4000 cn_575 = true := c_chkQ_ok (pcs := []) (by decide +kernel)
set_option maxRecDepth 100000 in
theorem cn_79_ok : c_chk cs_at 1 (some FieldType.int) kt_182 4000 cn_79 = true := c_chkQ_ok (pcs := []) (by decide +kernel)
set_option maxRecDepth 100000 in
theorem cn_80_ok : c_chk cs_at 5 (some FieldType.int) kt_183 4000 cn_80 = true := c_chkQ_ok (pcs := [5]) (by decide +kernel)
set_option maxRecDepth 100000 in
theorem cn_81_ok : c_chk cs_at 5 (some FieldType.int) kt_183 4000 cn_81 = true := c_chkQ_ok (pcs := [5]) (by decide +kernel)
set_option maxRecDepth 100000 in
theorem cn_289_ok : c_chk cs_at 6 (some FieldType.int) kt_184 4000 cn_289 = true := c_chkQ_ok (pcs := [21]) (by decide +kernel)
set_option maxRecDepth 100000 in
theorem cn_290_ok : c_chk cs_at 6 (some FieldType.int) kt_184 4000 cn_290 = true := c_chkQ_ok (pcs := [21]) (by decide +kernel)
set_option maxRecDepth 100000 in
theorem cn_40_ok : c_chk cs_at 2 (some FieldType.boolean) kt_185 4000 cn_40 = true := c_chkQ_ok (pcs := []) (by decide +kernel)
set_option maxRecDepth 100000 in
theorem cn_97_ok : c_chk cs_at 3 (some FieldType.int) kt_186 4000 cn_97 = true := c_chkQ_ok (pcs := []) (by decide +kernel)
set_option maxRecDepth 100000 in
theorem cn_98_ok : c_chk cs_at 3 (some FieldType.int) kt_186 4000 cn_98 = true := c_chkQ_ok (pcs := []) (by decide +kernel)
set_option maxRecDepth 100000 in
theorem cn_553_ok : c_chk cs_at 3 (some FieldType.int) kt_187 4000 cn_553 = true := c_chkQ_ok (pcs := []) (by decide +kernel)
