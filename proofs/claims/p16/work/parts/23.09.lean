/-! THE CONTRACTS CHECKED, 9 -/
set_option maxRecDepth 100000 in
theorem cn_283_c0 : (((c_cuts cn_283).drop (20 * 0)).take 20).all (c_go1 cs_at 3 none kt_197 4000 cn_283) = true := go_pieceN (p0 := 11) (by decide +kernel) (by decide +kernel) (by decide +kernel)
set_option maxRecDepth 100000 in
theorem cn_283_c1 : (((c_cuts cn_283).drop (20 * 1)).take 20).all (c_go1 cs_at 3 none kt_197 4000 cn_283) = true := go_pieceN (p0 := 11) (by decide +kernel) (by decide +kernel) (by decide +kernel)
set_option maxRecDepth 100000 in
theorem cn_283_c2 : (((c_cuts cn_283).drop (20 * 2)).take 20).all (c_go1 cs_at 3 none kt_197 4000 cn_283) = true := go_pieceN (p0 := 11) (by decide +kernel) (by decide +kernel) (by decide +kernel)
set_option maxRecDepth 100000 in
theorem cn_283_c3 : (((c_cuts cn_283).drop (20 * 3)).take 20).all (c_go1 cs_at 3 none kt_197 4000 cn_283) = true := go_pieceN (p0 := 11) (by decide +kernel) (by decide +kernel) (by decide +kernel)
set_option maxRecDepth 100000 in
theorem cn_283_c4 : (((c_cuts cn_283).drop (20 * 4)).take 20).all (c_go1 cs_at 3 none kt_197 4000 cn_283) = true := go_pieceN (p0 := 11) (by decide +kernel) (by decide +kernel) (by decide +kernel)
set_option maxRecDepth 100000 in
theorem cn_283_c5 : (((c_cuts cn_283).drop (20 * 5)).take 20).all (c_go1 cs_at 3 none kt_197 4000 cn_283) = true := go_pieceN (p0 := 11) (by decide +kernel) (by decide +kernel) (by decide +kernel)
set_option maxRecDepth 100000 in
theorem cn_283_c6 : (((c_cuts cn_283).drop (20 * 6)).take 20).all (c_go1 cs_at 3 none kt_197 4000 cn_283) = true := go_pieceN (p0 := 11) (by decide +kernel) (by decide +kernel) (by decide +kernel)
set_option maxRecDepth 100000 in
theorem cn_283_c7 : (((c_cuts cn_283).drop (20 * 7)).take 20).all (c_go1 cs_at 3 none kt_197 4000 cn_283) = true := go_pieceN (p0 := 11) (by decide +kernel) (by decide +kernel) (by decide +kernel)
set_option maxRecDepth 100000 in
theorem cn_283_c8 : (((c_cuts cn_283).drop (20 * 8)).take 20).all (c_go1 cs_at 3 none kt_197 4000 cn_283) = true := go_pieceN (p0 := 11) (by decide +kernel) (by decide +kernel) (by decide +kernel)
set_option maxRecDepth 100000 in
theorem cn_283_c9 : (((c_cuts cn_283).drop (20 * 9)).take 20).all (c_go1 cs_at 3 none kt_197 4000 cn_283) = true := go_pieceN (p0 := 11) (by decide +kernel) (by decide +kernel) (by decide +kernel)
set_option maxRecDepth 100000 in
theorem cn_283_c10 : (((c_cuts cn_283).drop (20 * 10)).take 20).all (c_go1 cs_at 3 none kt_197 4000 cn_283) = true := go_pieceN (p0 := 11) (by decide +kernel) (by decide +kernel) (by decide +kernel)
set_option maxRecDepth 100000 in
theorem cn_283_c11 : (((c_cuts cn_283).drop (20 * 11)).take 20).all (c_go1 cs_at 3 none kt_197 4000 cn_283) = true := go_pieceN (p0 := 11) (by decide +kernel) (by decide +kernel) (by decide +kernel)
set_option maxRecDepth 100000 in
theorem cn_283_c12 : (((c_cuts cn_283).drop (20 * 12)).take 20).all (c_go1 cs_at 3 none kt_197 4000 cn_283) = true := go_pieceN (p0 := 11) (by decide +kernel) (by decide +kernel) (by decide +kernel)
set_option maxRecDepth 100000 in
theorem cn_283_c13 : (((c_cuts cn_283).drop (20 * 13)).take 20).all (c_go1 cs_at 3 none kt_197 4000 cn_283) = true := go_pieceN (p0 := 11) (by decide +kernel) (by decide +kernel) (by decide +kernel)
set_option maxRecDepth 100000 in
theorem cn_283_c14 : (((c_cuts cn_283).drop (20 * 14)).take 20).all (c_go1 cs_at 3 none kt_197 4000 cn_283) = true := go_pieceN (p0 := 11) (by decide +kernel) (by decide +kernel) (by decide +kernel)
set_option maxRecDepth 100000 in
theorem cn_283_c15 : (((c_cuts cn_283).drop (20 * 15)).take 20).all (c_go1 cs_at 3 none kt_197 4000 cn_283) = true := go_pieceN (p0 := 11) (by decide +kernel) (by decide +kernel) (by decide +kernel)
set_option maxRecDepth 100000 in
theorem cn_283_c16 : (((c_cuts cn_283).drop (20 * 16)).take 20).all (c_go1 cs_at 3 none kt_197 4000 cn_283) = true := go_pieceN (p0 := 11) (by decide +kernel) (by decide +kernel) (by decide +kernel)
set_option maxRecDepth 100000 in
theorem cn_283_c17 : (((c_cuts cn_283).drop (20 * 17)).take 20).all (c_go1 cs_at 3 none kt_197 4000 cn_283) = true := go_pieceN (p0 := 11) (by decide +kernel) (by decide +kernel) (by decide +kernel)
set_option maxRecDepth 100000 in
theorem cn_283_c18 : (((c_cuts cn_283).drop (20 * 18)).take 20).all (c_go1 cs_at 3 none kt_197 4000 cn_283) = true := go_pieceN (p0 := 11) (by decide +kernel) (by decide +kernel) (by decide +kernel)
set_option maxRecDepth 100000 in
theorem cn_283_c19 : (((c_cuts cn_283).drop (20 * 19)).take 20).all (c_go1 cs_at 3 none kt_197 4000 cn_283) = true := go_pieceN (p0 := 11) (by decide +kernel) (by decide +kernel) (by decide +kernel)
set_option maxRecDepth 100000 in
theorem cn_283_c20 : (((c_cuts cn_283).drop (20 * 20)).take 20).all (c_go1 cs_at 3 none kt_197 4000 cn_283) = true := go_pieceN (p0 := 11) (by decide +kernel) (by decide +kernel) (by decide +kernel)
set_option maxRecDepth 100000 in
theorem cn_283_ok : c_chk cs_at 3 none kt_197 4000 cn_283 = true := c_chk_of (by decide +kernel) cn_283_s (all_chunks 20 21 (by decide) (fun j hj => match j, hj with
  | 0, _ => cn_283_c0
  | 1, _ => cn_283_c1
  | 2, _ => cn_283_c2
  | 3, _ => cn_283_c3
  | 4, _ => cn_283_c4
  | 5, _ => cn_283_c5
  | 6, _ => cn_283_c6
  | 7, _ => cn_283_c7
  | 8, _ => cn_283_c8
  | 9, _ => cn_283_c9
  | 10, _ => cn_283_c10
  | 11, _ => cn_283_c11
  | 12, _ => cn_283_c12
  | 13, _ => cn_283_c13
  | 14, _ => cn_283_c14
  | 15, _ => cn_283_c15
  | 16, _ => cn_283_c16
  | 17, _ => cn_283_c17
  | 18, _ => cn_283_c18
  | 19, _ => cn_283_c19
  | 20, _ => cn_283_c20
  | j + 21, h => absurd h (by omega)) (by decide +kernel))
set_option maxRecDepth 100000 in
theorem cn_284_p : c_pcs cn_284 [11] = true := by decide +kernel
set_option maxRecDepth 100000 in
theorem cn_284_s : c_go1 cs_at 3 none kt_197 4000 cn_284 (c_start cn_284) = true := c_exQ_ok cn_284_p (by decide +kernel)
set_option maxRecDepth 100000 in
theorem cn_284_c0 : (((c_cuts cn_284).drop (20 * 0)).take 20).all (c_go1 cs_at 3 none kt_197 4000 cn_284) = true := go_pieceN (p0 := 11) (by decide +kernel) (by decide +kernel) (by decide +kernel)
set_option maxRecDepth 100000 in
theorem cn_284_c1 : (((c_cuts cn_284).drop (20 * 1)).take 20).all (c_go1 cs_at 3 none kt_197 4000 cn_284) = true := go_pieceN (p0 := 11) (by decide +kernel) (by decide +kernel) (by decide +kernel)
set_option maxRecDepth 100000 in
theorem cn_284_c2 : (((c_cuts cn_284).drop (20 * 2)).take 20).all (c_go1 cs_at 3 none kt_197 4000 cn_284) = true := go_pieceN (p0 := 11) (by decide +kernel) (by decide +kernel) (by decide +kernel)
set_option maxRecDepth 100000 in
theorem cn_284_c3 : (((c_cuts cn_284).drop (20 * 3)).take 20).all (c_go1 cs_at 3 none kt_197 4000 cn_284) = true := go_pieceN (p0 := 11) (by decide +kernel) (by decide +kernel) (by decide +kernel)
set_option maxRecDepth 100000 in
theorem cn_284_c4 : (((c_cuts cn_284).drop (20 * 4)).take 20).all (c_go1 cs_at 3 none kt_197 4000 cn_284) = true := go_pieceN (p0 := 11) (by decide +kernel) (by decide +kernel) (by decide +kernel)
set_option maxRecDepth 100000 in
theorem cn_284_c5 : (((c_cuts cn_284).drop (20 * 5)).take 20).all (c_go1 cs_at 3 none kt_197 4000 cn_284) = true := go_pieceN (p0 := 11) (by decide +kernel) (by decide +kernel) (by decide +kernel)
set_option maxRecDepth 100000 in
theorem cn_284_c6 : (((c_cuts cn_284).drop (20 * 6)).take 20).all (c_go1 cs_at 3 none kt_197 4000 cn_284) = true := go_pieceN (p0 := 11) (by decide +kernel) (by decide +kernel) (by decide +kernel)
set_option maxRecDepth 100000 in
theorem cn_284_c7 : (((c_cuts cn_284).drop (20 * 7)).take 20).all (c_go1 cs_at 3 none kt_197 4000 cn_284) = true := go_pieceN (p0 := 11) (by decide +kernel) (by decide +kernel) (by decide +kernel)
set_option maxRecDepth 100000 in
theorem cn_284_c8 : (((c_cuts cn_284).drop (20 * 8)).take 20).all (c_go1 cs_at 3 none kt_197 4000 cn_284) = true := go_pieceN (p0 := 11) (by decide +kernel) (by decide +kernel) (by decide +kernel)
set_option maxRecDepth 100000 in
theorem cn_284_c9 : (((c_cuts cn_284).drop (20 * 9)).take 20).all (c_go1 cs_at 3 none kt_197 4000 cn_284) = true := go_pieceN (p0 := 11) (by decide +kernel) (by decide +kernel) (by decide +kernel)
set_option maxRecDepth 100000 in
theorem cn_284_c10 : (((c_cuts cn_284).drop (20 * 10)).take 20).all (c_go1 cs_at 3 none kt_197 4000 cn_284) = true := go_pieceN (p0 := 11) (by decide +kernel) (by decide +kernel) (by decide +kernel)
set_option maxRecDepth 100000 in
theorem cn_284_c11 : (((c_cuts cn_284).drop (20 * 11)).take 20).all (c_go1 cs_at 3 none kt_197 4000 cn_284) = true := go_pieceN (p0 := 11) (by decide +kernel) (by decide +kernel) (by decide +kernel)
set_option maxRecDepth 100000 in
theorem cn_284_c12 : (((c_cuts cn_284).drop (20 * 12)).take 20).all (c_go1 cs_at 3 none kt_197 4000 cn_284) = true := go_pieceN (p0 := 11) (by decide +kernel) (by decide +kernel) (by decide +kernel)
set_option maxRecDepth 100000 in
theorem cn_284_c13 : (((c_cuts cn_284).drop (20 * 13)).take 20).all (c_go1 cs_at 3 none kt_197 4000 cn_284) = true := go_pieceN (p0 := 11) (by decide +kernel) (by decide +kernel) (by decide +kernel)
set_option maxRecDepth 100000 in
theorem cn_284_c14 : (((c_cuts cn_284).drop (20 * 14)).take 20).all (c_go1 cs_at 3 none kt_197 4000 cn_284) = true := go_pieceN (p0 := 11) (by decide +kernel) (by decide +kernel) (by decide +kernel)
set_option maxRecDepth 100000 in
theorem cn_284_c15 : (((c_cuts cn_284).drop (20 * 15)).take 20).all (c_go1 cs_at 3 none kt_197 4000 cn_284) = true := go_pieceN (p0 := 11) (by decide +kernel) (by decide +kernel) (by decide +kernel)
set_option maxRecDepth 100000 in
theorem cn_284_c16 : (((c_cuts cn_284).drop (20 * 16)).take 20).all (c_go1 cs_at 3 none kt_197 4000 cn_284) = true := go_pieceN (p0 := 11) (by decide +kernel) (by decide +kernel) (by decide +kernel)
set_option maxRecDepth 100000 in
theorem cn_284_c17 : (((c_cuts cn_284).drop (20 * 17)).take 20).all (c_go1 cs_at 3 none kt_197 4000 cn_284) = true := go_pieceN (p0 := 11) (by decide +kernel) (by decide +kernel) (by decide +kernel)
set_option maxRecDepth 100000 in
theorem cn_284_c18 : (((c_cuts cn_284).drop (20 * 18)).take 20).all (c_go1 cs_at 3 none kt_197 4000 cn_284) = true := go_pieceN (p0 := 11) (by decide +kernel) (by decide +kernel) (by decide +kernel)
set_option maxRecDepth 100000 in
theorem cn_284_c19 : (((c_cuts cn_284).drop (20 * 19)).take 20).all (c_go1 cs_at 3 none kt_197 4000 cn_284) = true := go_pieceN (p0 := 11) (by decide +kernel) (by decide +kernel) (by decide +kernel)
set_option maxRecDepth 100000 in
theorem cn_284_c20 : (((c_cuts cn_284).drop (20 * 20)).take 20).all (c_go1 cs_at 3 none kt_197 4000 cn_284) = true := go_pieceN (p0 := 11) (by decide +kernel) (by decide +kernel) (by decide +kernel)
set_option maxRecDepth 100000 in
theorem cn_284_ok : c_chk cs_at 3 none kt_197 4000 cn_284 = true := c_chk_of (by decide +kernel) cn_284_s (all_chunks 20 21 (by decide) (fun j hj => match j, hj with
  | 0, _ => cn_284_c0
  | 1, _ => cn_284_c1
  | 2, _ => cn_284_c2
  | 3, _ => cn_284_c3
  | 4, _ => cn_284_c4
  | 5, _ => cn_284_c5
  | 6, _ => cn_284_c6
  | 7, _ => cn_284_c7
  | 8, _ => cn_284_c8
  | 9, _ => cn_284_c9
  | 10, _ => cn_284_c10
  | 11, _ => cn_284_c11
  | 12, _ => cn_284_c12
  | 13, _ => cn_284_c13
  | 14, _ => cn_284_c14
  | 15, _ => cn_284_c15
  | 16, _ => cn_284_c16
  | 17, _ => cn_284_c17
  | 18, _ => cn_284_c18
  | 19, _ => cn_284_c19
  | 20, _ => cn_284_c20
  | j + 21, h => absurd h (by omega)) (by decide +kernel))
set_option maxRecDepth 100000 in
theorem cn_44_ok : c_chk cs_at 4 none kt_198 4000 cn_44 = true := c_chkQ_ok (pcs := [2]) (by decide +kernel)
set_option maxRecDepth 100000 in
theorem cn_45_ok : c_chk cs_at 4 none kt_198 4000 cn_45 = true := c_chkQ_ok (pcs := [2]) (by decide +kernel)
set_option maxRecDepth 100000 in
theorem cn_46_ok : c_chk cs_at 4 none kt_198 4000 cn_46 = true := c_chkQ_ok (pcs := [2]) (by decide +kernel)
set_option maxRecDepth 100000 in
theorem cn_47_ok : c_chk cs_at 4 none kt_198 4000 cn_47 = true := c_chkQ_ok (pcs := [2]) (by decide +kernel)
set_option maxRecDepth 100000 in
theorem cn_48_ok : c_chk cs_at 4 none kt_198 4000 cn_48 = true := c_chkQ_ok (pcs := [2]) (by decide +kernel)
set_option maxRecDepth 100000 in
theorem cn_49_ok : c_chk cs_at 4 none kt_198 4000 cn_49 = true := c_chkQ_ok (pcs := [2]) (by decide +kernel)
set_option maxRecDepth 100000 in
theorem cn_50_ok : c_chk cs_at 4 none kt_198 4000 cn_50 = true := c_chkQ_ok (pcs := [2]) (by decide +kernel)
set_option maxRecDepth 100000 in
theorem cn_51_ok : c_chk cs_at 4 none kt_198 4000 cn_51 = true := c_chkQ_ok (pcs := [2]) (by decide +kernel)
set_option maxRecDepth 100000 in
theorem cn_52_ok : c_chk cs_at 4 none kt_198 4000 cn_52 = true := c_chkQ_ok (pcs := [2]) (by decide +kernel)
set_option maxRecDepth 100000 in
theorem cn_53_ok : c_chk cs_at 4 none kt_198 4000 cn_53 = true := c_chkQ_ok (pcs := [2]) (by decide +kernel)
set_option maxRecDepth 100000 in
theorem cn_54_ok : c_chk cs_at 4 none kt_198 4000 cn_54 = true := c_chkQ_ok (pcs := [2]) (by decide +kernel)
set_option maxRecDepth 100000 in
theorem cn_55_ok : c_chk cs_at 4 none kt_198 4000 cn_55 = true := c_chkQ_ok (pcs := [2]) (by decide +kernel)
set_option maxRecDepth 100000 in
theorem cn_56_ok : c_chk cs_at 4 none kt_198 4000 cn_56 = true := c_chkQ_ok (pcs := [2]) (by decide +kernel)
