/-! THE CONTRACTS CHECKED, 6 -/
set_option maxRecDepth 100000 in
theorem cn_468_ok : c_chk cs_at 6 none kt_141 4000 cn_468 = true := c_chkQ_ok (pcs := []) (by decide +kernel)
set_option maxRecDepth 100000 in
theorem cn_33_ok : c_chk cs_at 4 (some FieldType.long) kt_142 4000 cn_33 = true := c_chkQ_ok (pcs := [4]) (by decide +kernel)
set_option maxRecDepth 100000 in
theorem cn_473_ok : c_chk cs_at 4 (some FieldType.int) kt_143 4000 cn_473 = true := c_chkQ_ok (pcs := [38]) (by decide +kernel)
set_option maxRecDepth 100000 in
theorem cn_384_ok : c_chk cs_at 5 (some FieldType.int) kt_144 4000 cn_384 = true := c_chkQ_ok (pcs := [43]) (by decide +kernel)
set_option maxRecDepth 100000 in
theorem cn_10_ok : c_chk cs_at 2 none kt_145 4000 cn_10 = true := c_chkQ_ok (pcs := [2]) (by decide +kernel)
set_option maxRecDepth 100000 in
theorem cn_5_ok : c_chk cs_at 1 (some FieldType.int) kt_146 4000 cn_5 = true := c_chkQ_ok (pcs := []) (by decide +kernel)
set_option maxRecDepth 100000 in
theorem cn_3_ok : c_chk cs_at 2 (some FieldType.int) kt_147 4000 cn_3 = true := c_chkQ_ok (pcs := []) (by decide +kernel)
set_option maxRecDepth 100000 in
theorem cn_9_ok : c_chk cs_at 2 none kt_148 4000 cn_9 = true := c_chkQ_ok (pcs := [2]) (by decide +kernel)
set_option maxRecDepth 100000 in
theorem cn_11_ok : c_chk cs_at 3 (some FieldType.int) kt_149 4000 cn_11 = true := c_chkQ_ok (pcs := [4]) (by decide +kernel)
set_option maxRecDepth 100000 in
theorem cn_341_ok : c_chk cs_at 2 (some FieldType.boolean) kt_150 4000 cn_341 = true := c_chkQ_ok (pcs := []) (by decide +kernel)
set_option maxRecDepth 100000 in
theorem cn_321_ok : c_chk cs_at 4 (some FieldType.boolean) kt_151 4000 cn_321 = true := c_chkQ_ok (pcs := []) (by decide +kernel)
set_option maxRecDepth 100000 in
theorem cn_339_ok : c_chk cs_at 2 (some FieldType.boolean) kt_152 4000 cn_339 = true := c_chkQ_ok (pcs := []) (by decide +kernel)
set_option maxRecDepth 100000 in
theorem cn_319_ok : c_chk cs_at 4 (some FieldType.boolean) kt_153 4000 cn_319 = true := c_chkQ_ok (pcs := []) (by decide +kernel)
set_option maxRecDepth 100000 in
theorem cn_292_ok : c_chk cs_at 2 (some FieldType.int) kt_154 4000 cn_292 = true := c_chkQ_ok (pcs := []) (by decide +kernel)
set_option maxRecDepth 100000 in
theorem cn_17_ok : c_chk cs_at 4 (some FieldType.int) kt_157 4000 cn_17 = true := c_chkQ_ok (pcs := [4]) (by decide +kernel)
set_option maxRecDepth 100000 in
theorem cn_92_ok : c_chk cs_at 3 (some FieldType.int) kt_160 4000 cn_92 = true := c_chkQ_ok (pcs := [20]) (by decide +kernel)
set_option maxRecDepth 100000 in
theorem cn_271_ok : c_chk cs_at 2 (some FieldType.boolean) kt_161 4000 cn_271 = true := c_chkQ_ok (pcs := []) (by decide +kernel)
set_option maxRecDepth 100000 in
theorem cn_43_ok : c_chk cs_at 3 (some FieldType.boolean) kt_162 4000 cn_43 = true := c_chkQ_ok (pcs := []) (by decide +kernel)
set_option maxRecDepth 100000 in
theorem cn_429_p : c_pcs cn_429 [30, 47, 217, 241, 307] = true := by decide +kernel
set_option maxRecDepth 100000 in
theorem cn_429_s : c_go1 cs_at 6 (some FieldType.int) kt_163 4000 cn_429 (c_start cn_429) = true := c_exQ_ok cn_429_p (by decide +kernel)
set_option maxRecDepth 100000 in
theorem cn_429_c0 : (((c_cuts cn_429).drop (4 * 0)).take 4).all (c_go1 cs_at 6 (some FieldType.int) kt_163 4000 cn_429) = true := goQ_piece cn_429_p (by decide +kernel)
set_option maxRecDepth 100000 in
theorem cn_429_c1 : (((c_cuts cn_429).drop (4 * 1)).take 4).all (c_go1 cs_at 6 (some FieldType.int) kt_163 4000 cn_429) = true := goQ_piece cn_429_p (by decide +kernel)
set_option maxRecDepth 100000 in
theorem cn_429_c2 : (((c_cuts cn_429).drop (4 * 2)).take 4).all (c_go1 cs_at 6 (some FieldType.int) kt_163 4000 cn_429) = true := goQ_piece cn_429_p (by decide +kernel)
set_option maxRecDepth 100000 in
theorem cn_429_c3 : (((c_cuts cn_429).drop (4 * 3)).take 4).all (c_go1 cs_at 6 (some FieldType.int) kt_163 4000 cn_429) = true := goQ_piece cn_429_p (by decide +kernel)
set_option maxRecDepth 100000 in
theorem cn_429_c4 : (((c_cuts cn_429).drop (4 * 4)).take 4).all (c_go1 cs_at 6 (some FieldType.int) kt_163 4000 cn_429) = true := goQ_piece cn_429_p (by decide +kernel)
set_option maxRecDepth 100000 in
theorem cn_429_c5 : (((c_cuts cn_429).drop (4 * 5)).take 4).all (c_go1 cs_at 6 (some FieldType.int) kt_163 4000 cn_429) = true := goQ_piece cn_429_p (by decide +kernel)
set_option maxRecDepth 100000 in
theorem cn_429_c6 : (((c_cuts cn_429).drop (4 * 6)).take 4).all (c_go1 cs_at 6 (some FieldType.int) kt_163 4000 cn_429) = true := goQ_piece cn_429_p (by decide +kernel)
set_option maxRecDepth 100000 in
theorem cn_429_c7 : (((c_cuts cn_429).drop (4 * 7)).take 4).all (c_go1 cs_at 6 (some FieldType.int) kt_163 4000 cn_429) = true := goQ_piece cn_429_p (by decide +kernel)
set_option maxRecDepth 100000 in
theorem cn_429_c8 : (((c_cuts cn_429).drop (4 * 8)).take 4).all (c_go1 cs_at 6 (some FieldType.int) kt_163 4000 cn_429) = true := goQ_piece cn_429_p (by decide +kernel)
set_option maxRecDepth 100000 in
theorem cn_429_c9 : (((c_cuts cn_429).drop (4 * 9)).take 4).all (c_go1 cs_at 6 (some FieldType.int) kt_163 4000 cn_429) = true := goQ_piece cn_429_p (by decide +kernel)
set_option maxRecDepth 100000 in
theorem cn_429_c10 : (((c_cuts cn_429).drop (4 * 10)).take 4).all (c_go1 cs_at 6 (some FieldType.int) kt_163 4000 cn_429) = true := goQ_piece cn_429_p (by decide +kernel)
set_option maxRecDepth 100000 in
theorem cn_429_c11 : (((c_cuts cn_429).drop (4 * 11)).take 4).all (c_go1 cs_at 6 (some FieldType.int) kt_163 4000 cn_429) = true := goQ_piece cn_429_p (by decide +kernel)
set_option maxRecDepth 100000 in
theorem cn_429_c12 : (((c_cuts cn_429).drop (4 * 12)).take 4).all (c_go1 cs_at 6 (some FieldType.int) kt_163 4000 cn_429) = true := goQ_piece cn_429_p (by decide +kernel)
set_option maxRecDepth 100000 in
theorem cn_429_c13 : (((c_cuts cn_429).drop (4 * 13)).take 4).all (c_go1 cs_at 6 (some FieldType.int) kt_163 4000 cn_429) = true := goQ_piece cn_429_p (by decide +kernel)
set_option maxRecDepth 100000 in
theorem cn_429_c14 : (((c_cuts cn_429).drop (4 * 14)).take 4).all (c_go1 cs_at 6 (some FieldType.int) kt_163 4000 cn_429) = true := goQ_piece cn_429_p (by decide +kernel)
set_option maxRecDepth 100000 in
theorem cn_429_c15 : (((c_cuts cn_429).drop (4 * 15)).take 4).all (c_go1 cs_at 6 (some FieldType.int) kt_163 4000 cn_429) = true := goQ_piece cn_429_p (by decide +kernel)
set_option maxRecDepth 100000 in
theorem cn_429_c16 : (((c_cuts cn_429).drop (4 * 16)).take 4).all (c_go1 cs_at 6 (some FieldType.int) kt_163 4000 cn_429) = true := goQ_piece cn_429_p (by decide +kernel)
set_option maxRecDepth 100000 in
theorem cn_429_ok : c_chk cs_at 6 (some FieldType.int) kt_163 4000 cn_429 = true := c_chk_of (by decide +kernel) cn_429_s (all_chunks 4 17 (by decide) (fun j hj => match j, hj with
  | 0, _ => cn_429_c0
  | 1, _ => cn_429_c1
  | 2, _ => cn_429_c2
  | 3, _ => cn_429_c3
  | 4, _ => cn_429_c4
  | 5, _ => cn_429_c5
  | 6, _ => cn_429_c6
  | 7, _ => cn_429_c7
  | 8, _ => cn_429_c8
  | 9, _ => cn_429_c9
  | 10, _ => cn_429_c10
  | 11, _ => cn_429_c11
  | 12, _ => cn_429_c12
  | 13, _ => cn_429_c13
  | 14, _ => cn_429_c14
  | 15, _ => cn_429_c15
  | 16, _ => cn_429_c16
  | j + 17, h => absurd h (by omega)) (by decide +kernel))
set_option maxRecDepth 100000 in
theorem cn_34_ok : c_chk cs_at 4 none kt_164 4000 cn_34 = true := c_chkQ_ok (pcs := []) (by decide +kernel)
set_option maxRecDepth 100000 in
theorem cn_35_ok : c_chk cs_at 4 none kt_164 4000 cn_35 = true := c_chkQ_ok (pcs := []) (by decide +kernel)
set_option maxRecDepth 100000 in
theorem cn_38_ok : c_chk cs_at 1 (some FieldType.boolean) kt_165 4000 cn_38 = true := c_chkQ_ok (pcs := []) (by decide +kernel)
set_option maxRecDepth 100000 in
theorem cn_416_ok : c_chk cs_at 4 (some FieldType.int) kt_166 4000 cn_416 = true := c_chkQ_ok (pcs := [11]) (by decide +kernel)
