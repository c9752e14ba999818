/-! THE CONTRACTS CHECKED, 11 -/
set_option maxRecDepth 100000 in
theorem cn_284_c19 : (((c_cuts cn_284).drop (20 * 19)).take 20).all (c_go1 cs_at 3 none kt_197 4000 cn_284) = true := by decide +kernel
set_option maxRecDepth 100000 in
theorem cn_284_c20 : (((c_cuts cn_284).drop (20 * 20)).take 20).all (c_go1 cs_at 3 none kt_197 4000 cn_284) = true := by decide +kernel
set_option maxRecDepth 100000 in
theorem cn_284_ok : c_chk cs_at 3 none kt_197 4000 cn_284 = true := c_chk_of (by decide +kernel) cn_284_s (all_chunks 20 21 (by decide) (fun j hj => match j, hj with
  | 0, _ => cn_284_c0
  | 1, _ => cn_284_c1
  | 2, _ => cn_284_c2
  | 3, _ => cn_284_c3
  | 4, _ => cn_284_c4
  | 5, _ => cn_284_c5
  | 6, _ => cn_284_c6
  | 7, _ => cn_284_c7
  | 8, _ => cn_284_c8
  | 9, _ => cn_284_c9
  | 10, _ => cn_284_c10
  | 11, _ => cn_284_c11
  | 12, _ => cn_284_c12
  | 13, _ => cn_284_c13
  | 14, _ => cn_284_c14
  | 15, _ => cn_284_c15
  | 16, _ => cn_284_c16
  | 17, _ => cn_284_c17
  | 18, _ => cn_284_c18
  | 19, _ => cn_284_c19
  | 20, _ => cn_284_c20
  | j + 21, h => absurd h (by omega)) (by decide +kernel))
set_option maxRecDepth 100000 in
theorem cn_44_ok : c_chk cs_at 4 none kt_198 4000 cn_44 = true := by decide +kernel
set_option maxRecDepth 100000 in
theorem cn_45_ok : c_chk cs_at 4 none kt_198 4000 cn_45 = true := by decide +kernel
set_option maxRecDepth 100000 in
theorem cn_46_ok : c_chk cs_at 4 none kt_198 4000 cn_46 = true := by decide +kernel
set_option maxRecDepth 100000 in
theorem cn_47_ok : c_chk cs_at 4 none kt_198 4000 cn_47 = true := by decide +kernel
set_option maxRecDepth 100000 in
theorem cn_48_ok : c_chk cs_at 4 none kt_198 4000 cn_48 = true := by decide +kernel
set_option maxRecDepth 100000 in
theorem cn_49_ok : c_chk cs_at 4 none kt_198 4000 cn_49 = true := by decide +kernel
set_option maxRecDepth 100000 in
theorem cn_50_ok : c_chk cs_at 4 none kt_198 4000 cn_50 = true := by decide +kernel
set_option maxRecDepth 100000 in
theorem cn_51_ok : c_chk cs_at 4 none kt_198 4000 cn_51 = true := by decide +kernel
set_option maxRecDepth 100000 in
theorem cn_52_ok : c_chk cs_at 4 none kt_198 4000 cn_52 = true := by decide +kernel
set_option maxRecDepth 100000 in
theorem cn_53_ok : c_chk cs_at 4 none kt_198 4000 cn_53 = true := by decide +kernel
set_option maxRecDepth 100000 in
theorem cn_54_ok : c_chk cs_at 4 none kt_198 4000 cn_54 = true := by decide +kernel
set_option maxRecDepth 100000 in
theorem cn_55_ok : c_chk cs_at 4 none kt_198 4000 cn_55 = true := by decide +kernel
set_option maxRecDepth 100000 in
theorem cn_56_ok : c_chk cs_at 4 none kt_198 4000 cn_56 = true := by decide +kernel
set_option maxRecDepth 100000 in
theorem cn_57_ok : c_chk cs_at 4 none kt_198 4000 cn_57 = true := by decide +kernel
set_option maxRecDepth 100000 in
theorem cn_58_ok : c_chk cs_at 4 none kt_198 4000 cn_58 = true := by decide +kernel
set_option maxRecDepth 100000 in
theorem cn_59_ok : c_chk cs_at 4 none kt_198 4000 cn_59 = true := by decide +kernel
