/-! THE CONTRACTS CHECKED, 6 -/
set_option maxRecDepth 100000 in
theorem cn_429_c2 : (((c_cuts cn_429).drop (4 * 2)).take 4).all (c_go1 cs_at 6 (some FieldType.int) kt_163 4000 cn_429) = true := goQ_piece cn_429_p (by decide +kernel)
set_option maxRecDepth 100000 in
theorem cn_429_c3 : (((c_cuts cn_429).drop (4 * 3)).take 4).all (c_go1 cs_at 6 (some FieldType.int) kt_163 4000 cn_429) = true := goQ_piece cn_429_p (by decide +kernel)
set_option maxRecDepth 100000 in
theorem cn_429_c4 : (((c_cuts cn_429).drop (4 * 4)).take 4).all (c_go1 cs_at 6 (some FieldType.int) kt_163 4000 cn_429) = true := goQ_piece cn_429_p (by decide +kernel)
set_option maxRecDepth 100000 in
theorem cn_429_c5 : (((c_cuts cn_429).drop (4 * 5)).take 4).all (c_go1 cs_at 6 (some FieldType.int) kt_163 4000 cn_429) = true := goQ_piece cn_429_p (by decide +kernel)
set_option maxRecDepth 100000 in
theorem cn_429_c6 : (((c_cuts cn_429).drop (4 * 6)).take 4).all (c_go1 cs_at 6 (some FieldType.int) kt_163 4000 cn_429) = true := goQ_piece cn_429_p (by decide +kernel)
set_option maxRecDepth 100000 in
theorem cn_429_c7 : (((c_cuts cn_429).drop (4 * 7)).take 4).all (c_go1 cs_at 6 (some FieldType.int) kt_163 4000 cn_429) = true := goQ_piece cn_429_p (by decide +kernel)
set_option maxRecDepth 100000 in
theorem cn_429_c8 : (((c_cuts cn_429).drop (4 * 8)).take 4).all (c_go1 cs_at 6 (some FieldType.int) kt_163 4000 cn_429) = true := goQ_piece cn_429_p (by decide +kernel)
set_option maxRecDepth 100000 in
theorem cn_429_c9 : (((c_cuts cn_429).drop (4 * 9)).take 4).all (c_go1 cs_at 6 (some FieldType.int) kt_163 4000 cn_429) = true := goQ_piece cn_429_p (by decide +kernel)
set_option maxRecDepth 100000 in
theorem cn_429_c10 : (((c_cuts cn_429).drop (4 * 10)).take 4).all (c_go1 cs_at 6 (some FieldType.int) kt_163 4000 cn_429) = true := goQ_piece cn_429_p (by decide +kernel)
set_option maxRecDepth 100000 in
theorem cn_429_c11 : (((c_cuts cn_429).drop (4 * 11)).take 4).all (c_go1 cs_at 6 (some FieldType.int) kt_163 4000 cn_429) = true := goQ_piece cn_429_p (by decide +kernel)
set_option maxRecDepth 100000 in
theorem cn_429_c12 : (((c_cuts cn_429).drop (4 * 12)).take 4).all (c_go1 cs_at 6 (some FieldType.int) kt_163 4000 cn_429) = true := goQ_piece cn_429_p (by decide +kernel)
set_option maxRecDepth 100000 in
theorem cn_429_c13 : (((c_cuts cn_429).drop (4 * 13)).take 4).all (c_go1 cs_at 6 (some FieldType.int) kt_163 4000 cn_429) = true := goQ_piece cn_429_p (by decide +kernel)
set_option maxRecDepth 100000 in
theorem cn_429_c14 : (((c_cuts cn_429).drop (4 * 14)).take 4).all (c_go1 cs_at 6 (some FieldType.int) kt_163 4000 cn_429) = true := goQ_piece cn_429_p (by decide +kernel)
set_option maxRecDepth 100000 in
theorem cn_429_c15 : (((c_cuts cn_429).drop (4 * 15)).take 4).all (c_go1 cs_at 6 (some FieldType.int) kt_163 4000 cn_429) = true := goQ_piece cn_429_p (by decide +kernel)
set_option maxRecDepth 100000 in
theorem cn_429_c16 : (((c_cuts cn_429).drop (4 * 16)).take 4).all (c_go1 cs_at 6 (some FieldType.int) kt_163 4000 cn_429) = true := goQ_piece cn_429_p (by decide +kernel)
set_option maxRecDepth 100000 in
theorem cn_429_ok : c_chk cs_at 6 (some FieldType.int) kt_163 4000 cn_429 = true := c_chk_of (by decide +kernel) cn_429_s (all_chunks 4 17 (by decide) (fun j hj => match j, hj with
  | 0, _ => cn_429_c0
  | 1, _ => cn_429_c1
  | 2, _ => cn_429_c2
  | 3, _ => cn_429_c3
  | 4, _ => cn_429_c4
  | 5, _ => cn_429_c5
  | 6, _ => cn_429_c6
  | 7, _ => cn_429_c7
  | 8, _ => cn_429_c8
  | 9, _ => cn_429_c9
  | 10, _ => cn_429_c10
  | 11, _ => cn_429_c11
  | 12, _ => cn_429_c12
  | 13, _ => cn_429_c13
  | 14, _ => cn_429_c14
  | 15, _ => cn_429_c15
  | 16, _ => cn_429_c16
  | j + 17, h => absurd h (by omega)) (by decide +kernel))
set_option maxRecDepth 100000 in
theorem cn_34_ok : c_chk cs_at 4 none kt_164 4000 cn_34 = true := c_chkQ_ok (pcs := []) (by decide +kernel)
set_option maxRecDepth 100000 in
theorem cn_35_ok : c_chk cs_at 4 none kt_164 4000 cn_35 = true := c_chkQ_ok (pcs := []) (by decide +kernel)
set_option maxRecDepth 100000 in
theorem cn_38_ok : c_chk cs_at 1 (some FieldType.boolean) kt_165 4000 cn_38 = true := c_chkQ_ok (pcs := []) (by decide +kernel)
set_option maxRecDepth 100000 in
theorem cn_416_ok : c_chk cs_at 4 (some FieldType.int) kt_166 4000 cn_416 = true := c_chkQ_ok (pcs := [11]) (by decide +kernel)
set_option maxRecDepth 100000 in
theorem cn_417_ok : c_chk cs_at 4 (some FieldType.int) kt_166 4000 cn_417 = true := c_chkQ_ok (pcs := [11]) (by decide +kernel)
set_option maxRecDepth 100000 in
theorem cn_418_ok : c_chk cs_at 4 (some FieldType.int) kt_166 4000 cn_418 = true := c_chkQ_ok (pcs := [11]) (by decide +kernel)
set_option maxRecDepth 100000 in
theorem cn_41_ok : c_chk cs_at 1 (some FieldType.int) kt_168 4000 cn_41 = true := c_chkQ_ok (pcs := []) (by decide +kernel)
set_option maxRecDepth 100000 in
theorem cn_42_ok : c_chk cs_at 1 (some FieldType.int) kt_168 4000 cn_42 = true := c_chkQ_ok (pcs := []) (by decide +kernel)
set_option maxRecDepth 100000 in
theorem cn_272_ok : c_chk cs_at 2 none kt_169 4000 cn_272 = true := c_chkQ_ok (pcs := []) (by decide +kernel)
set_option maxRecDepth 100000 in
theorem cn_281_ok : c_chk cs_at 2 (some FieldType.boolean) kt_170 4000 cn_281 = true := c_chkQ_ok (pcs := []) (by decide +kernel)
set_option maxRecDepth 100000 in
theorem cn_282_ok : c_chk cs_at 2 (some FieldType.boolean) kt_170 4000 cn_282 = true := c_chkQ_ok (pcs := []) (by decide +kernel)
set_option maxRecDepth 100000 in
theorem cn_278_ok : c_chk cs_at 2 (some FieldType.boolean) kt_171 4000 cn_278 = true := c_chkQ_ok (pcs := []) (by decide +kernel)
set_option maxRecDepth 100000 in
theorem cn_430_p : c_pcs cn_430 [37, 125, 184] = true := by decide +kernel
set_option maxRecDepth 100000 in
theorem cn_430_s : c_go1 cs_at 6 (some FieldType.int) kt_172 4000 cn_430 (c_start cn_430) = true := c_exQ_ok cn_430_p (by decide +kernel)
set_option maxRecDepth 100000 in
theorem cn_430_c0 : (((c_cuts cn_430).drop (4 * 0)).take 4).all (c_go1 cs_at 6 (some FieldType.int) kt_172 4000 cn_430) = true := goQ_piece cn_430_p (by decide +kernel)
set_option maxRecDepth 100000 in
theorem cn_430_c1 : (((c_cuts cn_430).drop (4 * 1)).take 4).all (c_go1 cs_at 6 (some FieldType.int) kt_172 4000 cn_430) = true := goQ_piece cn_430_p (by decide +kernel)
set_option maxRecDepth 100000 in
theorem cn_430_c2 : (((c_cuts cn_430).drop (4 * 2)).take 4).all (c_go1 cs_at 6 (some FieldType.int) kt_172 4000 cn_430) = true := goQ_piece cn_430_p (by decide +kernel)
set_option maxRecDepth 100000 in
theorem cn_430_c3 : (((c_cuts cn_430).drop (4 * 3)).take 4).all (c_go1 cs_at 6 (some FieldType.int) kt_172 4000 cn_430) = true := goQ_piece cn_430_p (by decide +kernel)
set_option maxRecDepth 100000 in
theorem cn_430_c4 : (((c_cuts cn_430).drop (4 * 4)).take 4).all (c_go1 cs_at 6 (some FieldType.int) kt_172 4000 cn_430) = true := goQ_piece cn_430_p (by decide +kernel)
set_option maxRecDepth 100000 in
theorem cn_430_c5 : (((c_cuts cn_430).drop (4 * 5)).take 4).all (c_go1 cs_at 6 (some FieldType.int) kt_172 4000 cn_430) = true := goQ_piece cn_430_p (by decide +kernel)
set_option maxRecDepth 100000 in
theorem cn_430_c6 : (((c_cuts cn_430).drop (4 * 6)).take 4).all (c_go1 cs_at 6 (some FieldType.int) kt_172 4000 cn_430) = true := goQ_piece cn_430_p (by decide +kernel)
