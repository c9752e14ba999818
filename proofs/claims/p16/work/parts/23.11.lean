/-! THE CONTRACTS CHECKED, 11 -/
set_option maxRecDepth 100000 in
theorem cn_74_ok : c_chk cs_at 4 none kt_198 4000 cn_74 = true := c_chkQ_ok (pcs := [2]) (by decide +kernel)
set_option maxRecDepth 100000 in
theorem cn_75_ok : c_chk cs_at 4 none kt_198 4000 cn_75 = true := c_chkQ_ok (pcs := [2]) (by decide +kernel)
set_option maxRecDepth 100000 in
theorem cn_76_ok : c_chk cs_at 4 none kt_198 4000 cn_76 = true := c_chkQ_ok (pcs := [2]) (by decide +kernel)
set_option maxRecDepth 100000 in
theorem cn_273_ok : c_chk cs_at 4 (some FieldType.int) kt_199 4000 cn_273 = true := c_chkQ_ok (pcs := []) (by decide +kernel)
set_option maxRecDepth 100000 in
theorem cn_95_ok : c_chk cs_at 1 (some FieldType.int) kt_200 4000 cn_95 = true := c_chkQ_ok (pcs := []) (by decide +kernel)
set_option maxRecDepth 100000 in
theorem cn_375_ok : c_chk cs_at 3 (some FieldType.int) kt_201 4000 cn_375 = true := c_chkQ_ok (pcs := []) (by decide +kernel)
set_option maxRecDepth 100000 in
theorem cn_335_ok : c_chk cs_at 2 (some FieldType.int) kt_202 4000 cn_335 = true := c_chkQ_ok (pcs := []) (by decide +kernel)
set_option maxRecDepth 100000 in
theorem cn_274_ok : c_chk cs_at 3 (some FieldType.int) kt_203 4000 cn_274 = true := c_chkQ_ok (pcs := []) (by decide +kernel)
set_option maxRecDepth 100000 in
theorem cn_603_ok : c_chk cs_at 1 (some FieldType.int) kt_204 4000 cn_603 = true := c_chkQ_ok (pcs := []) (by decide +kernel)
set_option maxRecDepth 100000 in
theorem cn_592_ok : c_chk cs_at 2 (some FieldType.int) kt_205 4000 cn_592 = true := c_chkQ_ok (pcs := []) (by decide +kernel)
set_option maxRecDepth 100000 in
theorem cn_36_ok : c_chk cs_at 1 none kt_206 4000 cn_36 = true := c_chkQ_ok (pcs := []) (by decide +kernel)
set_option maxRecDepth 100000 in
theorem cn_579_ok : c_chk cs_at 4 none kt_207 4000 cn_579 = true := c_chkQ_ok (pcs := [2]) (by decide +kernel)
set_option maxRecDepth 100000 in
theorem cn_580_ok : c_chk cs_at 4 none kt_207 4000 cn_580 = true := c_chkQ_ok (pcs := [2]) (by decide +kernel)
set_option maxRecDepth 100000 in
theorem cn_573_p : c_pcs cn_573 [22, 75, 126, 132, 235, 300] = true := by decide +kernel
set_option maxRecDepth 100000 in
theorem cn_573_s : c_go1 cs_at 5 none kt_208 4000 cn_573 (c_start cn_573) = true := c_exQ_ok cn_573_p (by decide +kernel)
set_option maxRecDepth 100000 in
theorem cn_573_c0 : (((c_cuts cn_573).drop (4 * 0)).take 4).all (c_go1 cs_at 5 none kt_208 4000 cn_573) = true := goQ_piece cn_573_p (by decide +kernel)
set_option maxRecDepth 100000 in
theorem cn_573_c1 : (((c_cuts cn_573).drop (4 * 1)).take 4).all (c_go1 cs_at 5 none kt_208 4000 cn_573) = true := goQ_piece cn_573_p (by decide +kernel)
set_option maxRecDepth 100000 in
theorem cn_573_c2 : (((c_cuts cn_573).drop (4 * 2)).take 4).all (c_go1 cs_at 5 none kt_208 4000 cn_573) = true := goQ_piece cn_573_p (by decide +kernel)
set_option maxRecDepth 100000 in
theorem cn_573_c3 : (((c_cuts cn_573).drop (4 * 3)).take 4).all (c_go1 cs_at 5 none kt_208 4000 cn_573) = true := goQ_piece cn_573_p (by decide +kernel)
set_option maxRecDepth 100000 in
theorem cn_573_c4 : (((c_cuts cn_573).drop (4 * 4)).take 4).all (c_go1 cs_at 5 none kt_208 4000 cn_573) = true := goQ_piece cn_573_p (by decide +kernel)
set_option maxRecDepth 100000 in
theorem cn_573_c5 : (((c_cuts cn_573).drop (4 * 5)).take 4).all (c_go1 cs_at 5 none kt_208 4000 cn_573) = true := goQ_piece cn_573_p (by decide +kernel)
set_option maxRecDepth 100000 in
theorem cn_573_c6 : (((c_cuts cn_573).drop (4 * 6)).take 4).all (c_go1 cs_at 5 none kt_208 4000 cn_573) = true := goQ_piece cn_573_p (by decide +kernel)
set_option maxRecDepth 100000 in
theorem cn_573_c7 : (((c_cuts cn_573).drop (4 * 7)).take 4).all (c_go1 cs_at 5 none kt_208 4000 cn_573) = true := goQ_piece cn_573_p (by decide +kernel)
set_option maxRecDepth 100000 in
theorem cn_573_c8 : (((c_cuts cn_573).drop (4 * 8)).take 4).all (c_go1 cs_at 5 none kt_208 4000 cn_573) = true := goQ_piece cn_573_p (by decide +kernel)
set_option maxRecDepth 100000 in
theorem cn_573_c9 : (((c_cuts cn_573).drop (4 * 9)).take 4).all (c_go1 cs_at 5 none kt_208 4000 cn_573) = true := goQ_piece cn_573_p (by decide +kernel)
set_option maxRecDepth 100000 in
theorem cn_573_c10 : (((c_cuts cn_573).drop (4 * 10)).take 4).all (c_go1 cs_at 5 none kt_208 4000 cn_573) = true := goQ_piece cn_573_p (by decide +kernel)
set_option maxRecDepth 100000 in
theorem cn_573_c11 : (((c_cuts cn_573).drop (4 * 11)).take 4).all (c_go1 cs_at 5 none kt_208 4000 cn_573) = true := goQ_piece cn_573_p (by decide +kernel)
set_option maxRecDepth 100000 in
theorem cn_573_c12 : (((c_cuts cn_573).drop (4 * 12)).take 4).all (c_go1 cs_at 5 none kt_208 4000 cn_573) = true := goQ_piece cn_573_p (by decide +kernel)
