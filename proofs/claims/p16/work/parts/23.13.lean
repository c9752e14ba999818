/-! THE CONTRACTS CHECKED, 13 -/
set_option maxRecDepth 100000 in
theorem cn_574_c4 : (((c_cuts cn_574).drop (4 * 4)).take 4).all (c_go1 cs_at 5 none kt_208 4000 cn_574) = true := goQ_piece cn_574_p (by decide +kernel)
set_option maxRecDepth 100000 in
theorem cn_574_c5 : (((c_cuts cn_574).drop (4 * 5)).take 4).all (c_go1 cs_at 5 none kt_208 4000 cn_574) = true := goQ_piece cn_574_p (by decide +kernel)
set_option maxRecDepth 100000 in
theorem cn_574_c6 : (((c_cuts cn_574).drop (4 * 6)).take 4).all (c_go1 cs_at 5 none kt_208 4000 cn_574) = true := goQ_piece cn_574_p (by decide +kernel)
set_option maxRecDepth 100000 in
theorem cn_574_c7 : (((c_cuts cn_574).drop (4 * 7)).take 4).all (c_go1 cs_at 5 none kt_208 4000 cn_574) = true := goQ_piece cn_574_p (by decide +kernel)
set_option maxRecDepth 100000 in
theorem cn_574_c8 : (((c_cuts cn_574).drop (4 * 8)).take 4).all (c_go1 cs_at 5 none kt_208 4000 cn_574) = true := goQ_piece cn_574_p (by decide +kernel)
set_option maxRecDepth 100000 in
theorem cn_574_c9 : (((c_cuts cn_574).drop (4 * 9)).take 4).all (c_go1 cs_at 5 none kt_208 4000 cn_574) = true := goQ_piece cn_574_p (by decide +kernel)
set_option maxRecDepth 100000 in
theorem cn_574_c10 : (((c_cuts cn_574).drop (4 * 10)).take 4).all (c_go1 cs_at 5 none kt_208 4000 cn_574) = true := goQ_piece cn_574_p (by decide +kernel)
set_option maxRecDepth 100000 in
theorem cn_574_c11 : (((c_cuts cn_574).drop (4 * 11)).take 4).all (c_go1 cs_at 5 none kt_208 4000 cn_574) = true := goQ_piece cn_574_p (by decide +kernel)
set_option maxRecDepth 100000 in
theorem cn_574_c12 : (((c_cuts cn_574).drop (4 * 12)).take 4).all (c_go1 cs_at 5 none kt_208 4000 cn_574) = true := goQ_piece cn_574_p (by decide +kernel)
set_option maxRecDepth 100000 in
theorem cn_574_c13 : (((c_cuts cn_574).drop (4 * 13)).take 4).all (c_go1 cs_at 5 none kt_208 4000 cn_574) = true := goQ_piece cn_574_p (by decide +kernel)
set_option maxRecDepth 100000 in
theorem cn_574_c14 : (((c_cuts cn_574).drop (4 * 14)).take 4).all (c_go1 cs_at 5 none kt_208 4000 cn_574) = true := goQ_piece cn_574_p (by decide +kernel)
set_option maxRecDepth 100000 in
theorem cn_574_c15 : (((c_cuts cn_574).drop (4 * 15)).take 4).all (c_go1 cs_at 5 none kt_208 4000 cn_574) = true := goQ_piece cn_574_p (by decide +kernel)
set_option maxRecDepth 100000 in
theorem cn_574_c16 : (((c_cuts cn_574).drop (4 * 16)).take 4).all (c_go1 cs_at 5 none kt_208 4000 cn_574) = true := goQ_piece cn_574_p (by decide +kernel)
set_option maxRecDepth 100000 in
theorem cn_574_c17 : (((c_cuts cn_574).drop (4 * 17)).take 4).all (c_go1 cs_at 5 none kt_208 4000 cn_574) = true := goQ_piece cn_574_p (by decide +kernel)
set_option maxRecDepth 100000 in
theorem cn_574_c18 : (((c_cuts cn_574).drop (4 * 18)).take 4).all (c_go1 cs_at 5 none kt_208 4000 cn_574) = true := goQ_piece cn_574_p (by decide +kernel)
set_option maxRecDepth 100000 in
theorem cn_574_c19 : (((c_cuts cn_574).drop (4 * 19)).take 4).all (c_go1 cs_at 5 none kt_208 4000 cn_574) = true := goQ_piece cn_574_p (by decide +kernel)
set_option maxRecDepth 100000 in
theorem cn_574_c20 : (((c_cuts cn_574).drop (4 * 20)).take 4).all (c_go1 cs_at 5 none kt_208 4000 cn_574) = true := goQ_piece cn_574_p (by decide +kernel)
set_option maxRecDepth 100000 in
theorem cn_574_c21 : (((c_cuts cn_574).drop (4 * 21)).take 4).all (c_go1 cs_at 5 none kt_208 4000 cn_574) = true := goQ_piece cn_574_p (by decide +kernel)
set_option maxRecDepth 100000 in
theorem cn_574_c22 : (((c_cuts cn_574).drop (4 * 22)).take 4).all (c_go1 cs_at 5 none kt_208 4000 cn_574) = true := goQ_piece cn_574_p (by decide +kernel)
set_option maxRecDepth 100000 in
theorem cn_574_c23 : (((c_cuts cn_574).drop (4 * 23)).take 4).all (c_go1 cs_at 5 none kt_208 4000 cn_574) = true := goQ_piece cn_574_p (by decide +kernel)
