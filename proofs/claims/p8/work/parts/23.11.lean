/-! THE CONTRACTS CHECKED, 11 -/
set_option maxRecDepth 100000 in
theorem cn_74_ok : c_chk cs_at 4 none kt_198 4000 cn_74 = true := c_chkQ_ok (pcs := [2]) (by decide +kernel)
set_option maxRecDepth 100000 in
theorem cn_75_ok : c_chk cs_at 4 none kt_198 4000 cn_75 = true := c_chkQ_ok (pcs := [2]) (by decide +kernel)
set_option maxRecDepth 100000 in
theorem cn_76_ok : c_chk cs_at 4 none kt_198 4000 cn_76 = true := c_chkQ_ok (pcs := [2]) (by decide +kernel)
set_option maxRecDepth 100000 in
theorem cn_274_ok : c_chk cs_at 4 (some FieldType.int) kt_199 4000 cn_274 = true := c_chkQ_ok (pcs := []) (by decide +kernel)
set_option maxRecDepth 100000 in
theorem cn_96_ok : c_chk cs_at 1 (some FieldType.int) kt_200 4000 cn_96 = true := c_chkQ_ok (pcs := []) (by decide +kernel)
set_option maxRecDepth 100000 in
theorem cn_376_ok : c_chk cs_at 3 (some FieldType.int) kt_201 4000 cn_376 = true := c_chkQ_ok (pcs := []) (by decide +kernel)
set_option maxRecDepth 100000 in
theorem cn_336_ok : c_chk cs_at 2 (some FieldType.int) kt_202 4000 cn_336 = true := c_chkQ_ok (pcs := []) (by decide +kernel)
set_option maxRecDepth 100000 in
theorem cn_275_ok : c_chk cs_at 3 (some FieldType.int) kt_203 4000 cn_275 = true := c_chkQ_ok (pcs := []) (by decide +kernel)
set_option maxRecDepth 100000 in
theorem cn_604_ok : c_chk cs_at 1 (some FieldType.int) kt_204 4000 cn_604 = true := c_chkQ_ok (pcs := []) (by decide +kernel)
set_option maxRecDepth 100000 in
theorem cn_593_ok : c_chk cs_at 2 (some FieldType.int) kt_205 4000 cn_593 = true := c_chkQ_ok (pcs := []) (by decide +kernel)
set_option maxRecDepth 100000 in
theorem cn_36_ok : c_chk cs_at 1 none kt_206 4000 cn_36 = true := c_chkQ_ok (pcs := []) (by decide +kernel)
set_option maxRecDepth 100000 in
theorem cn_580_ok : c_chk cs_at 4 none kt_207 4000 cn_580 = true := c_chkQ_ok (pcs := [2]) (by decide +kernel)
set_option maxRecDepth 100000 in
theorem cn_581_ok : c_chk cs_at 4 none kt_207 4000 cn_581 = true := c_chkQ_ok (pcs := [2]) (by decide +kernel)
set_option maxRecDepth 100000 in
theorem cn_574_p : c_pcs cn_574 [22, 75, 126, 132, 235, 300] = true := by decide +kernel
set_option maxRecDepth 100000 in
theorem cn_574_s : c_go1 cs_at 5 none kt_208 4000 cn_574 (c_start cn_574) = true := c_exQ_ok cn_574_p (by decide +kernel)
set_option maxRecDepth 100000 in
theorem cn_574_c0 : (((c_cuts cn_574).drop (4 * 0)).take 4).all (c_go1 cs_at 5 none kt_208 4000 cn_574) = true := goQ_piece cn_574_p (by decide +kernel)
set_option maxRecDepth 100000 in
theorem cn_574_c1 : (((c_cuts cn_574).drop (4 * 1)).take 4).all (c_go1 cs_at 5 none kt_208 4000 cn_574) = true := goQ_piece cn_574_p (by decide +kernel)
set_option maxRecDepth 100000 in
theorem cn_574_c2 : (((c_cuts cn_574).drop (4 * 2)).take 4).all (c_go1 cs_at 5 none kt_208 4000 cn_574) = true := goQ_piece cn_574_p (by decide +kernel)
set_option maxRecDepth 100000 in
theorem cn_574_c3 : (((c_cuts cn_574).drop (4 * 3)).take 4).all (c_go1 cs_at 5 none kt_208 4000 cn_574) = true := goQ_piece cn_574_p (by decide +kernel)
set_option maxRecDepth 100000 in
theorem cn_574_c4 : (((c_cuts cn_574).drop (4 * 4)).take 4).all (c_go1 cs_at 5 none kt_208 4000 cn_574) = true := goQ_piece cn_574_p (by decide +kernel)
set_option maxRecDepth 100000 in
theorem cn_574_c5 : (((c_cuts cn_574).drop (4 * 5)).take 4).all (c_go1 cs_at 5 none kt_208 4000 cn_574) = true := goQ_piece cn_574_p (by decide +kernel)
set_option maxRecDepth 100000 in
theorem cn_574_c6 : (((c_cuts cn_574).drop (4 * 6)).take 4).all (c_go1 cs_at 5 none kt_208 4000 cn_574) = true := goQ_piece cn_574_p (by decide +kernel)
set_option maxRecDepth 100000 in
theorem cn_574_c7 : (((c_cuts cn_574).drop (4 * 7)).take 4).all (c_go1 cs_at 5 none kt_208 4000 cn_574) = true := goQ_piece cn_574_p (by decide +kernel)
set_option maxRecDepth 100000 in
theorem cn_574_c8 : (((c_cuts cn_574).drop (4 * 8)).take 4).all (c_go1 cs_at 5 none kt_208 4000 cn_574) = true := goQ_piece cn_574_p (by decide +kernel)
set_option maxRecDepth 100000 in
theorem cn_574_c9 : (((c_cuts cn_574).drop (4 * 9)).take 4).all (c_go1 cs_at 5 none kt_208 4000 cn_574) = true := goQ_piece cn_574_p (by decide +kernel)
set_option maxRecDepth 100000 in
theorem cn_574_c10 : (((c_cuts cn_574).drop (4 * 10)).take 4).all (c_go1 cs_at 5 none kt_208 4000 cn_574) = true := goQ_piece cn_574_p (by decide +kernel)
set_option maxRecDepth 100000 in
theorem cn_574_c11 : (((c_cuts cn_574).drop (4 * 11)).take 4).all (c_go1 cs_at 5 none kt_208 4000 cn_574) = true := goQ_piece cn_574_p (by decide +kernel)
set_option maxRecDepth 100000 in
theorem cn_574_c12 : (((c_cuts cn_574).drop (4 * 12)).take 4).all (c_go1 cs_at 5 none kt_208 4000 cn_574) = true := goQ_piece cn_574_p (by decide +kernel)
