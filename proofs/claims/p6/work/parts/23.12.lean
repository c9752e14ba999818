/-! THE CONTRACTS CHECKED, 12 -/
set_option maxRecDepth 100000 in
theorem cn_60_ok : c_chk cs_at 4 none kt_198 4000 cn_60 = true := by decide +kernel
set_option maxRecDepth 100000 in
theorem cn_61_ok : c_chk cs_at 4 none kt_198 4000 cn_61 = true := by decide +kernel
set_option maxRecDepth 100000 in
theorem cn_62_ok : c_chk cs_at 4 none kt_198 4000 cn_62 = true := by decide +kernel
set_option maxRecDepth 100000 in
theorem cn_63_ok : c_chk cs_at 4 none kt_198 4000 cn_63 = true := by decide +kernel
set_option maxRecDepth 100000 in
theorem cn_64_ok : c_chk cs_at 4 none kt_198 4000 cn_64 = true := by decide +kernel
set_option maxRecDepth 100000 in
theorem cn_65_ok : c_chk cs_at 4 none kt_198 4000 cn_65 = true := by decide +kernel
set_option maxRecDepth 100000 in
theorem cn_66_ok : c_chk cs_at 4 none kt_198 4000 cn_66 = true := by decide +kernel
set_option maxRecDepth 100000 in
theorem cn_67_ok : c_chk cs_at 4 none kt_198 4000 cn_67 = true := by decide +kernel
set_option maxRecDepth 100000 in
theorem cn_68_ok : c_chk cs_at 4 none kt_198 4000 cn_68 = true := by decide +kernel
set_option maxRecDepth 100000 in
theorem cn_69_ok : c_chk cs_at 4 none kt_198 4000 cn_69 = true := by decide +kernel
set_option maxRecDepth 100000 in
theorem cn_70_ok : c_chk cs_at 4 none kt_198 4000 cn_70 = true := by decide +kernel
set_option maxRecDepth 100000 in
theorem cn_71_ok : c_chk cs_at 4 none kt_198 4000 cn_71 = true := by decide +kernel
set_option maxRecDepth 100000 in
theorem cn_72_ok : c_chk cs_at 4 none kt_198 4000 cn_72 = true := by decide +kernel
set_option maxRecDepth 100000 in
theorem cn_73_ok : c_chk cs_at 4 none kt_198 4000 cn_73 = true := by decide +kernel
set_option maxRecDepth 100000 in
theorem cn_74_ok : c_chk cs_at 4 none kt_198 4000 cn_74 = true := by decide +kernel
set_option maxRecDepth 100000 in
theorem cn_75_ok : c_chk cs_at 4 none kt_198 4000 cn_75 = true := by decide +kernel
set_option maxRecDepth 100000 in
theorem cn_76_ok : c_chk cs_at 4 none kt_198 4000 cn_76 = true := by decide +kernel
