/-! THE CONTRACTS CHECKED, 9 -/
set_option maxRecDepth 100000 in
theorem cn_517_ok : c_chk cs_at 6 (some FieldType.int) kt_189 4000 cn_517 = true := c_chkQ_ok (pcs := []) (by decide +kernel)
set_option maxRecDepth 100000 in
theorem cn_518_ok : c_chk cs_at 6 (some FieldType.int) kt_189 4000 cn_518 = true := c_chkQ_ok (pcs := []) (by decide +kernel)
set_option maxRecDepth 100000 in
theorem cn_519_ok : c_chk cs_at 6 (some FieldType.int) kt_189 4000 cn_519 = true := c_chkQ_ok (pcs := []) (by decide +kernel)
set_option maxRecDepth 100000 in
theorem cn_520_ok : c_chk cs_at 6 (some FieldType.int) kt_189 4000 cn_520 = true := c_chkQ_ok (pcs := []) (by decide +kernel)
set_option maxRecDepth 100000 in
theorem cn_521_ok : c_chk cs_at 6 (some FieldType.int) kt_189 4000 cn_521 = true := c_chkQ_ok (pcs := []) (by decide +kernel)
set_option maxRecDepth 100000 in
theorem cn_522_ok : c_chk cs_at 6 (some FieldType.int) kt_189 4000 cn_522 = true := c_chkQ_ok (pcs := []) (by decide +kernel)
set_option maxRecDepth 100000 in
theorem cn_523_ok : c_chk cs_at 6 (some FieldType.int) kt_189 4000 cn_523 = true := c_chkQ_ok (pcs := []) (by decide +kernel)
set_option maxRecDepth 100000 in
theorem cn_524_ok : c_chk cs_at 6 (some FieldType.int) kt_189 4000 cn_524 = true := c_chkQ_ok (pcs := []) (by decide +kernel)
set_option maxRecDepth 100000 in
theorem cn_525_ok : c_chk cs_at 6 (some FieldType.int) kt_189 4000 cn_525 = true := c_chkQ_ok (pcs := []) (by decide +kernel)
set_option maxRecDepth 100000 in
theorem cn_526_ok : c_chk cs_at 6 (some FieldType.int) kt_189 4000 cn_526 = true := c_chkQ_ok (pcs := []) (by decide +kernel)
set_option maxRecDepth 100000 in
theorem cn_527_ok : c_chk cs_at 6 (some FieldType.int) kt_189 4000 cn_527 = true := c_chkQ_ok (pcs := []) (by decide +kernel)
set_option maxRecDepth 100000 in
theorem cn_528_ok : c_chk cs_at 6 (some FieldType.int) kt_189 4000 cn_528 = true := c_chkQ_ok (pcs := []) (by decide +kernel)
set_option maxRecDepth 100000 in
theorem cn_529_ok : c_chk cs_at 6 (some FieldType.int) kt_189 4000 cn_529 = true := c_chkQ_ok (pcs := []) (by decide +kernel)
set_option maxRecDepth 100000 in
theorem cn_530_ok : c_chk cs_at 6 (some FieldType.int) kt_189 4000 cn_530 = true := c_chkQ_ok (pcs := []) (by decide +kernel)
set_option maxRecDepth 100000 in
theorem cn_333_ok : c_chk cs_at 5 (some FieldType.int) kt_190 4000 cn_333 = true := c_chkQ_ok (pcs := [105]) (by decide +kernel)
set_option maxRecDepth 100000 in
theorem cn_277_ok : c_chk cs_at 2 (some FieldType.boolean) kt_191 4000 cn_277 = true := c_chkQ_ok (pcs := []) (by decide +kernel)
set_option maxRecDepth 100000 in
theorem cn_286_ok : c_chk cs_at 4 (some FieldType.int) kt_192 4000 cn_286 = true := c_chkQ_ok (pcs := []) (by decide +kernel)
set_option maxRecDepth 100000 in
theorem cn_326_ok : c_chk cs_at 5 (some FieldType.int) kt_193 4000 cn_326 = true := c_chkQ_ok (pcs := []) (by decide +kernel)
set_option maxRecDepth 100000 in
theorem cn_336_ok : c_chk cs_at 10 (some FieldType.int) kt_194 4000 cn_336 = true := c_chkQ_ok (pcs := [46]) (by decide +kernel)
set_option maxRecDepth 100000 in
theorem cn_374_ok : c_chk cs_at 4 (some FieldType.int) kt_195 4000 cn_374 = true := c_chkQ_ok (pcs := []) (by decide +kernel)
set_option maxRecDepth 100000 in
theorem cn_334_ok : c_chk cs_at 3 (some FieldType.int) kt_196 4000 cn_334 = true := c_chkQ_ok (pcs := []) (by decide +kernel)
set_option maxRecDepth 100000 in
theorem cn_283_p : c_pcs cn_283 [11] = true := by decide +kernel
set_option maxRecDepth 100000 in
theorem cn_283_s : c_go1 cs_at 3 none kt_197 4000 cn_283 (c_start cn_283) = true := c_exQ_ok cn_283_p (by decide +kernel)
set_option maxRecDepth 100000 in
theorem cn_283_c0 : (((c_cuts cn_283).drop (20 * 0)).take 20).all (c_go1 cs_at 3 none kt_197 4000 cn_283) = true := go_pieceN (p0 := 11) (by decide +kernel) (by decide +kernel) (by decide +kernel)
set_option maxRecDepth 100000 in
theorem cn_283_c1 : (((c_cuts cn_283).drop (20 * 1)).take 20).all (c_go1 cs_at 3 none kt_197 4000 cn_283) = true := go_pieceN (p0 := 11) (by decide +kernel) (by decide +kernel) (by decide +kernel)
set_option maxRecDepth 100000 in
theorem cn_283_c2 : (((c_cuts cn_283).drop (20 * 2)).take 20).all (c_go1 cs_at 3 none kt_197 4000 cn_283) = true := go_pieceN (p0 := 11) (by decide +kernel) (by decide +kernel) (by decide +kernel)
set_option maxRecDepth 100000 in
theorem cn_283_c3 : (((c_cuts cn_283).drop (20 * 3)).take 20).all (c_go1 cs_at 3 none kt_197 4000 cn_283) = true := go_pieceN (p0 := 11) (by decide +kernel) (by decide +kernel) (by decide +kernel)
set_option maxRecDepth 100000 in
theorem cn_283_c4 : (((c_cuts cn_283).drop (20 * 4)).take 20).all (c_go1 cs_at 3 none kt_197 4000 cn_283) = true := go_pieceN (p0 := 11) (by decide +kernel) (by decide +kernel) (by decide +kernel)
set_option maxRecDepth 100000 in
theorem cn_283_c5 : (((c_cuts cn_283).drop (20 * 5)).take 20).all (c_go1 cs_at 3 none kt_197 4000 cn_283) = true := go_pieceN (p0 := 11) (by decide +kernel) (by decide +kernel) (by decide +kernel)
set_option maxRecDepth 100000 in
theorem cn_283_c6 : (((c_cuts cn_283).drop (20 * 6)).take 20).all (c_go1 cs_at 3 none kt_197 4000 cn_283) = true := go_pieceN (p0 := 11) (by decide +kernel) (by decide +kernel) (by decide +kernel)
set_option maxRecDepth 100000 in
theorem cn_283_c7 : (((c_cuts cn_283).drop (20 * 7)).take 20).all (c_go1 cs_at 3 none kt_197 4000 cn_283) = true := go_pieceN (p0 := 11) (by decide +kernel) (by decide +kernel) (by decide +kernel)
set_option maxRecDepth 100000 in
theorem cn_283_c8 : (((c_cuts cn_283).drop (20 * 8)).take 20).all (c_go1 cs_at 3 none kt_197 4000 cn_283) = true := go_pieceN (p0 := 11) (by decide +kernel) (by decide +kernel) (by decide +kernel)
set_option maxRecDepth 100000 in
theorem cn_283_c9 : (((c_cuts cn_283).drop (20 * 9)).take 20).all (c_go1 cs_at 3 none kt_197 4000 cn_283) = true := go_pieceN (p0 := 11) (by decide +kernel) (by decide +kernel) (by decide +kernel)
set_option maxRecDepth 100000 in
theorem cn_283_c10 : (((c_cuts cn_283).drop (20 * 10)).take 20).all (c_go1 cs_at 3 none kt_197 4000 cn_283) = true := go_pieceN (p0 := 11) (by decide +kernel) (by decide +kernel) (by decide +kernel)
set_option maxRecDepth 100000 in
theorem cn_283_c11 : (((c_cuts cn_283).drop (20 * 11)).take 20).all (c_go1 cs_at 3 none kt_197 4000 cn_283) = true := go_pieceN (p0 := 11) (by decide +kernel) (by decide +kernel) (by decide +kernel)
set_option maxRecDepth 100000 in
theorem cn_283_c12 : (((c_cuts cn_283).drop (20 * 12)).take 20).all (c_go1 cs_at 3 none kt_197 4000 cn_283) = true := go_pieceN (p0 := 11) (by decide +kernel) (by decide +kernel) (by decide +kernel)
set_option maxRecDepth 100000 in
theorem cn_283_c13 : (((c_cuts cn_283).drop (20 * 13)).take 20).all (c_go1 cs_at 3 none kt_197 4000 cn_283) = true := go_pieceN (p0 := 11) (by decide +kernel) (by decide +kernel) (by decide +kernel)
set_option maxRecDepth 100000 in
theorem cn_283_c14 : (((c_cuts cn_283).drop (20 * 14)).take 20).all (c_go1 cs_at 3 none kt_197 4000 cn_283) = true := go_pieceN (p0 := 11) (by decide +kernel) (by decide +kernel) (by decide +kernel)
set_option maxRecDepth 100000 in
theorem cn_283_c15 : (((c_cuts cn_283).drop (20 * 15)).take 20).all (c_go1 cs_at 3 none kt_197 4000 cn_283) = true := go_pieceN (p0 := 11) (by decide +kernel) (by decide +kernel) (by decide +kernel)
set_option maxRecDepth 100000 in
theorem cn_283_c16 : (((c_cuts cn_283).drop (20 * 16)).take 20).all (c_go1 cs_at 3 none kt_197 4000 cn_283) = true := go_pieceN (p0 := 11) (by decide +kernel) (by decide +kernel) (by decide +kernel)
set_option maxRecDepth 100000 in
theorem cn_283_c17 : (((c_cuts cn_283).drop (20 * 17)).take 20).all (c_go1 cs_at 3 none kt_197 4000 cn_283) = true := go_pieceN (p0 := 11) (by decide +kernel) (by decide +kernel) (by decide +kernel)
set_option maxRecDepth 100000 in
theorem cn_283_c18 : (((c_cuts cn_283).drop (20 * 18)).take 20).all (c_go1 cs_at 3 none kt_197 4000 cn_283) = true := go_pieceN (p0 := 11) (by decide +kernel) (by decide +kernel) (by decide +kernel)
set_option maxRecDepth 100000 in
theorem cn_283_c19 : (((c_cuts cn_283).drop (20 * 19)).take 20).all (c_go1 cs_at 3 none kt_197 4000 cn_283) = true := go_pieceN (p0 := 11) (by decide +kernel) (by decide +kernel) (by decide +kernel)
set_option maxRecDepth 100000 in
theorem cn_283_c20 : (((c_cuts cn_283).drop (20 * 20)).take 20).all (c_go1 cs_at 3 none kt_197 4000 cn_283) = true := go_pieceN (p0 := 11) (by decide +kernel) (by decide +kernel) (by decide +kernel)
set_option maxRecDepth 100000 in
theorem cn_283_ok : c_chk cs_at 3 none kt_197 4000 cn_283 = true := c_chk_of (by decide +kernel) cn_283_s (all_chunks 20 21 (by decide) (fun j hj => match j, hj with
  | 0, _ => cn_283_c0
  | 1, _ => cn_283_c1
  | 2, _ => cn_283_c2
  | 3, _ => cn_283_c3
  | 4, _ => cn_283_c4
  | 5, _ => cn_283_c5
  | 6, _ => cn_283_c6
  | 7, _ => cn_283_c7
  | 8, _ => cn_283_c8
  | 9, _ => cn_283_c9
  | 10, _ => cn_283_c10
  | 11, _ => cn_283_c11
  | 12, _ => cn_283_c12
  | 13, _ => cn_283_c13
  | 14, _ => cn_283_c14
  | 15, _ => cn_283_c15
  | 16, _ => cn_283_c16
  | 17, _ => cn_283_c17
  | 18, _ => cn_283_c18
  | 19, _ => cn_283_c19
  | 20, _ => cn_283_c20
  | j + 21, h => absurd h (by omega)) (by decide +kernel))
set_option maxRecDepth 100000 in
theorem cn_284_p : c_pcs cn_284 [11] = true := by decide +kernel
set_option maxRecDepth 100000 in
theorem cn_284_s : c_go1 cs_at 3 none kt_197 4000 cn_284 (c_start cn_284) = true := c_exQ_ok cn_284_p (by decide +kernel)
set_option maxRecDepth 100000 in
theorem cn_284_c0 : (((c_cuts cn_284).drop (20 * 0)).take 20).all (c_go1 cs_at 3 none kt_197 4000 cn_284) = true := go_pieceN (p0 := 11) (by decide +kernel) (by decide +kernel) (by decide +kernel)
set_option maxRecDepth 100000 in
theorem cn_284_c1 : (((c_cuts cn_284).drop (20 * 1)).take 20).all (c_go1 cs_at 3 none kt_197 4000 cn_284) = true := go_pieceN (p0 := 11) (by decide +kernel) (by decide +kernel) (by decide +kernel)
set_option maxRecDepth 100000 in
theorem cn_284_c2 : (((c_cuts cn_284).drop (20 * 2)).take 20).all (c_go1 cs_at 3 none kt_197 4000 cn_284) = true := go_pieceN (p0 := 11) (by decide +kernel) (by decide +kernel) (by decide +kernel)
set_option maxRecDepth 100000 in
theorem cn_284_c3 : (((c_cuts cn_284).drop (20 * 3)).take 20).all (c_go1 cs_at 3 none kt_197 4000 cn_284) = true := go_pieceN (p0 := 11) (by decide +kernel) (by decide +kernel) (by decide +kernel)
set_option maxRecDepth 100000 in
theorem cn_284_c4 : (((c_cuts cn_284).drop (20 * 4)).take 20).all (c_go1 cs_at 3 none kt_197 4000 cn_284) = true := go_pieceN (p0 := 11) (by decide +kernel) (by decide +kernel) (by decide +kernel)
set_option maxRecDepth 100000 in
theorem cn_284_c5 : (((c_cuts cn_284).drop (20 * 5)).take 20).all (c_go1 cs_at 3 none kt_197 4000 cn_284) = true := go_pieceN (p0 := 11) (by decide +kernel) (by decide +kernel) (by decide +kernel)
set_option maxRecDepth 100000 in
theorem cn_284_c6 : (((c_cuts cn_284).drop (20 * 6)).take 20).all (c_go1 cs_at 3 none kt_197 4000 cn_284) = true := go_pieceN (p0 := 11) (by decide +kernel) (by decide +kernel) (by decide +kernel)
set_option maxRecDepth 100000 in
theorem cn_284_c7 : (((c_cuts cn_284).drop (20 * 7)).take 20).all (c_go1 cs_at 3 none kt_197 4000 cn_284) = true := go_pieceN (p0 := 11) (by decide +kernel) (by decide +kernel) (by decide +kernel)
set_option maxRecDepth 100000 in
theorem cn_284_c8 : (((c_cuts cn_284).drop (20 * 8)).take 20).all (c_go1 cs_at 3 none kt_197 4000 cn_284) = true := go_pieceN (p0 := 11) (by decide +kernel) (by decide +kernel) (by decide +kernel)
set_option maxRecDepth 100000 in
theorem cn_284_c9 : (((c_cuts cn_284).drop (20 * 9)).take 20).all (c_go1 cs_at 3 none kt_197 4000 cn_284) = true := go_pieceN (p0 := 11) (by decide +kernel) (by decide +kernel) (by decide +kernel)
set_option maxRecDepth 100000 in
theorem cn_284_c10 : (((c_cuts cn_284).drop (20 * 10)).take 20).all (c_go1 cs_at 3 none kt_197 4000 cn_284) = true := go_pieceN (p0 := 11) (by decide +kernel) (by decide +kernel) (by decide +kernel)
set_option maxRecDepth 100000 in
theorem cn_284_c11 : (((c_cuts cn_284).drop (20 * 11)).take 20).all (c_go1 cs_at 3 none kt_197 4000 cn_284) = true := go_pieceN (p0 := 11) (by decide +kernel) (by decide +kernel) (by decide +kernel)
set_option maxRecDepth 100000 in
theorem cn_284_c12 : (((c_cuts cn_284).drop (20 * 12)).take 20).all (c_go1 cs_at 3 none kt_197 4000 cn_284) = true := go_pieceN (p0 := 11) (by decide +kernel) (by decide +kernel) (by decide +kernel)
set_option maxRecDepth 100000 in
theorem cn_284_c13 : (((c_cuts cn_284).drop (20 * 13)).take 20).all (c_go1 cs_at 3 none kt_197 4000 cn_284) = true := go_pieceN (p0 := 11) (by decide +kernel) (by decide +kernel) (by decide +kernel)
set_option maxRecDepth 100000 in
theorem cn_284_c14 : (((c_cuts cn_284).drop (20 * 14)).take 20).all (c_go1 cs_at 3 none kt_197 4000 cn_284) = true := go_pieceN (p0 := 11) (by decide +kernel) (by decide +kernel) (by decide +kernel)
set_option maxRecDepth 100000 in
theorem cn_284_c15 : (((c_cuts cn_284).drop (20 * 15)).take 20).all (c_go1 cs_at 3 none kt_197 4000 cn_284) = true := go_pieceN (p0 := 11) (by decide +kernel) (by decide +kernel) (by decide +kernel)
set_option maxRecDepth 100000 in
theorem cn_284_c16 : (((c_cuts cn_284).drop (20 * 16)).take 20).all (c_go1 cs_at 3 none kt_197 4000 cn_284) = true := go_pieceN (p0 := 11) (by decide +kernel) (by decide +kernel) (by decide +kernel)
set_option maxRecDepth 100000 in
theorem cn_284_c17 : (((c_cuts cn_284).drop (20 * 17)).take 20).all (c_go1 cs_at 3 none kt_197 4000 cn_284) = true := go_pieceN (p0 := 11) (by decide +kernel) (by decide +kernel) (by decide +kernel)
set_option maxRecDepth 100000 in
theorem cn_284_c18 : (((c_cuts cn_284).drop (20 * 18)).take 20).all (c_go1 cs_at 3 none kt_197 4000 cn_284) = true := go_pieceN (p0 := 11) (by decide +kernel) (by decide +kernel) (by decide +kernel)
set_option maxRecDepth 100000 in
theorem cn_284_c19 : (((c_cuts cn_284).drop (20 * 19)).take 20).all (c_go1 cs_at 3 none kt_197 4000 cn_284) = true := go_pieceN (p0 := 11) (by decide +kernel) (by decide +kernel) (by decide +kernel)
set_option maxRecDepth 100000 in
theorem cn_284_c20 : (((c_cuts cn_284).drop (20 * 20)).take 20).all (c_go1 cs_at 3 none kt_197 4000 cn_284) = true := go_pieceN (p0 := 11) (by decide +kernel) (by decide +kernel) (by decide +kernel)
set_option maxRecDepth 100000 in
theorem cn_284_ok : c_chk cs_at 3 none kt_197 4000 cn_284 = true := c_chk_of (by decide +kernel) cn_284_s (all_chunks 20 21 (by decide) (fun j hj => match j, hj with
  | 0, _ => cn_284_c0
  | 1, _ => cn_284_c1
  | 2, _ => cn_284_c2
  | 3, _ => cn_284_c3
  | 4, _ => cn_284_c4
  | 5, _ => cn_284_c5
  | 6, _ => cn_284_c6
  | 7, _ => cn_284_c7
  | 8, _ => cn_284_c8
  | 9, _ => cn_284_c9
  | 10, _ => cn_284_c10
  | 11, _ => cn_284_c11
  | 12, _ => cn_284_c12
  | 13, _ => cn_284_c13
  | 14, _ => cn_284_c14
  | 15, _ => cn_284_c15
  | 16, _ => cn_284_c16
  | 17, _ => cn_284_c17
  | 18, _ => cn_284_c18
  | 19, _ => cn_284_c19
  | 20, _ => cn_284_c20
  | j + 21, h => absurd h (by omega)) (by decide +kernel))
set_option maxRecDepth 100000 in
theorem cn_44_ok : c_chk cs_at 4 none kt_198 4000 cn_44 = true := c_chkQ_ok (pcs := [2]) (by decide +kernel)
set_option maxRecDepth 100000 in
theorem cn_45_ok : c_chk cs_at 4 none kt_198 4000 cn_45 = true := c_chkQ_ok (pcs := [2]) (by decide +kernel)
set_option maxRecDepth 100000 in
theorem cn_46_ok : c_chk cs_at 4 none kt_198 4000 cn_46 = true := c_chkQ_ok (pcs := [2]) (by decide +kernel)
set_option maxRecDepth 100000 in
theorem cn_47_ok : c_chk cs_at 4 none kt_198 4000 cn_47 = true := c_chkQ_ok (pcs := [2]) (by decide +kernel)
set_option maxRecDepth 100000 in
theorem cn_48_ok : c_chk cs_at 4 none kt_198 4000 cn_48 = true := c_chkQ_ok (pcs := [2]) (by decide +kernel)
set_option maxRecDepth 100000 in
theorem cn_49_ok : c_chk cs_at 4 none kt_198 4000 cn_49 = true := c_chkQ_ok (pcs := [2]) (by decide +kernel)
set_option maxRecDepth 100000 in
theorem cn_50_ok : c_chk cs_at 4 none kt_198 4000 cn_50 = true := c_chkQ_ok (pcs := [2]) (by decide +kernel)
