/-! THE CONTRACTS CHECKED, 12 -/
set_option maxRecDepth 100000 in
theorem cn_573_c13 : (((c_cuts cn_573).drop (4 * 13)).take 4).all (c_go1 cs_at 5 none kt_208 4000 cn_573) = true := goQ_piece cn_573_p (by decide +kernel)
set_option maxRecDepth 100000 in
theorem cn_573_c14 : (((c_cuts cn_573).drop (4 * 14)).take 4).all (c_go1 cs_at 5 none kt_208 4000 cn_573) = true := goQ_piece cn_573_p (by decide +kernel)
set_option maxRecDepth 100000 in
theorem cn_573_c15 : (((c_cuts cn_573).drop (4 * 15)).take 4).all (c_go1 cs_at 5 none kt_208 4000 cn_573) = true := goQ_piece cn_573_p (by decide +kernel)
set_option maxRecDepth 100000 in
theorem cn_573_c16 : (((c_cuts cn_573).drop (4 * 16)).take 4).all (c_go1 cs_at 5 none kt_208 4000 cn_573) = true := goQ_piece cn_573_p (by decide +kernel)
set_option maxRecDepth 100000 in
theorem cn_573_c17 : (((c_cuts cn_573).drop (4 * 17)).take 4).all (c_go1 cs_at 5 none kt_208 4000 cn_573) = true := goQ_piece cn_573_p (by decide +kernel)
set_option maxRecDepth 100000 in
theorem cn_573_c18 : (((c_cuts cn_573).drop (4 * 18)).take 4).all (c_go1 cs_at 5 none kt_208 4000 cn_573) = true := goQ_piece cn_573_p (by decide +kernel)
set_option maxRecDepth 100000 in
theorem cn_573_c19 : (((c_cuts cn_573).drop (4 * 19)).take 4).all (c_go1 cs_at 5 none kt_208 4000 cn_573) = true := goQ_piece cn_573_p (by decide +kernel)
set_option maxRecDepth 100000 in
theorem cn_573_c20 : (((c_cuts cn_573).drop (4 * 20)).take 4).all (c_go1 cs_at 5 none kt_208 4000 cn_573) = true := goQ_piece cn_573_p (by decide +kernel)
set_option maxRecDepth 100000 in
theorem cn_573_c21 : (((c_cuts cn_573).drop (4 * 21)).take 4).all (c_go1 cs_at 5 none kt_208 4000 cn_573) = true := goQ_piece cn_573_p (by decide +kernel)
set_option maxRecDepth 100000 in
theorem cn_573_c22 : (((c_cuts cn_573).drop (4 * 22)).take 4).all (c_go1 cs_at 5 none kt_208 4000 cn_573) = true := goQ_piece cn_573_p (by decide +kernel)
set_option maxRecDepth 100000 in
theorem cn_573_c23 : (((c_cuts cn_573).drop (4 * 23)).take 4).all (c_go1 cs_at 5 none kt_208 4000 cn_573) = true := goQ_piece cn_573_p (by decide +kernel)
set_option maxRecDepth 100000 in
theorem cn_573_c24 : (((c_cuts cn_573).drop (4 * 24)).take 4).all (c_go1 cs_at 5 none kt_208 4000 cn_573) = true := goQ_piece cn_573_p (by decide +kernel)
set_option maxRecDepth 100000 in
theorem cn_573_c25 : (((c_cuts cn_573).drop (4 * 25)).take 4).all (c_go1 cs_at 5 none kt_208 4000 cn_573) = true := goQ_piece cn_573_p (by decide +kernel)
set_option maxRecDepth 100000 in
theorem cn_573_c26 : (((c_cuts cn_573).drop (4 * 26)).take 4).all (c_go1 cs_at 5 none kt_208 4000 cn_573) = true := goQ_piece cn_573_p (by decide +kernel)
set_option maxRecDepth 100000 in
theorem cn_573_c27 : (((c_cuts cn_573).drop (4 * 27)).take 4).all (c_go1 cs_at 5 none kt_208 4000 cn_573) = true := goQ_piece cn_573_p (by decide +kernel)
set_option maxRecDepth 100000 in
theorem cn_573_ok : c_chk cs_at 5 none kt_208 4000 cn_573 = true := c_chk_of (by decide +kernel) cn_573_s (all_chunks 4 28 (by decide) (fun j hj => match j, hj with
  | 0, _ => cn_573_c0
  | 1, _ => cn_573_c1
  | 2, _ => cn_573_c2
  | 3, _ => cn_573_c3
  | 4, _ => cn_573_c4
  | 5, _ => cn_573_c5
  | 6, _ => cn_573_c6
  | 7, _ => cn_573_c7
  | 8, _ => cn_573_c8
  | 9, _ => cn_573_c9
  | 10, _ => cn_573_c10
  | 11, _ => cn_573_c11
  | 12, _ => cn_573_c12
  | 13, _ => cn_573_c13
  | 14, _ => cn_573_c14
  | 15, _ => cn_573_c15
  | 16, _ => cn_573_c16
  | 17, _ => cn_573_c17
  | 18, _ => cn_573_c18
  | 19, _ => cn_573_c19
  | 20, _ => cn_573_c20
  | 21, _ => cn_573_c21
  | 22, _ => cn_573_c22
  | 23, _ => cn_573_c23
  | 24, _ => cn_573_c24
  | 25, _ => cn_573_c25
  | 26, _ => cn_573_c26
  | 27, _ => cn_573_c27
  | j + 28, h => absurd h (by omega)) (by decide +kernel))
set_option maxRecDepth 100000 in
theorem cn_574_p : c_pcs cn_574 [22, 75, 126, 132, 235, 300] = true := by decide +kernel
set_option maxRecDepth 100000 in
theorem cn_574_s : c_go1 cs_at 5 none kt_208 4000 cn_574 (c_start cn_574) = true := c_exQ_ok cn_574_p (by decide +kernel)
set_option maxRecDepth 100000 in
theorem cn_574_c0 : (((c_cuts cn_574).drop (4 * 0)).take 4).all (c_go1 cs_at 5 none kt_208 4000 cn_574) = true := goQ_piece cn_574_p (by decide +kernel)
set_option maxRecDepth 100000 in
theorem cn_574_c1 : (((c_cuts cn_574).drop (4 * 1)).take 4).all (c_go1 cs_at 5 none kt_208 4000 cn_574) = true := goQ_piece cn_574_p (by decide +kernel)
set_option maxRecDepth 100000 in
theorem cn_574_c2 : (((c_cuts cn_574).drop (4 * 2)).take 4).all (c_go1 cs_at 5 none kt_208 4000 cn_574) = true := goQ_piece cn_574_p (by decide +kernel)
set_option maxRecDepth 100000 in
theorem cn_574_c3 : (((c_cuts cn_574).drop (4 * 3)).take 4).all (c_go1 cs_at 5 none kt_208 4000 cn_574) = true := goQ_piece cn_574_p (by decide +kernel)
