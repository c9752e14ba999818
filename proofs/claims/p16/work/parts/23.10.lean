/-! THE CONTRACTS CHECKED, 10 -/
set_option maxRecDepth 100000 in
theorem cn_57_ok : c_chk cs_at 4 none kt_198 4000 cn_57 = true := c_chkQ_ok (pcs := [2]) (by decide +kernel)
set_option maxRecDepth 100000 in
theorem cn_58_ok : c_chk cs_at 4 none kt_198 4000 cn_58 = true := c_chkQ_ok (pcs := [2]) (by decide +kernel)
set_option maxRecDepth 100000 in
theorem cn_59_ok : c_chk cs_at 4 none kt_198 4000 cn_59 = true := c_chkQ_ok (pcs := [2]) (by decide +kernel)
set_option maxRecDepth 100000 in
theorem cn_60_ok : c_chk cs_at 4 none kt_198 4000 cn_60 = true := c_chkQ_ok (pcs := [2]) (by decide +kernel)
set_option maxRecDepth 100000 in
theorem cn_61_ok : c_chk cs_at 4 none kt_198 4000 cn_61 = true := c_chkQ_ok (pcs := [2]) (by decide +kernel)
set_option maxRecDepth 100000 in
theorem cn_62_ok : c_chk cs_at 4 none kt_198 4000 cn_62 = true := c_chkQ_ok (pcs := [2]) (by decide +kernel)
set_option maxRecDepth 100000 in
theorem cn_63_ok : c_chk cs_at 4 none kt_198 4000 cn_63 = true := c_chkQ_ok (pcs := [2]) (by decide +kernel)
set_option maxRecDepth 100000 in
theorem cn_64_ok : c_chk cs_at 4 none kt_198 4000 cn_64 = true := c_chkQ_ok (pcs := [2]) (by decide +kernel)
set_option maxRecDepth 100000 in
theorem cn_65_ok : c_chk cs_at 4 none kt_198 4000 cn_65 = true := c_chkQ_ok (pcs := [2]) (by decide +kernel)
set_option maxRecDepth 100000 in
theorem cn_66_ok : c_chk cs_at 4 none kt_198 4000 cn_66 = true := c_chkQ_ok (pcs := [2]) (by decide +kernel)
set_option maxRecDepth 100000 in
theorem cn_67_ok : c_chk cs_at 4 none kt_198 4000 cn_67 = true := c_chkQ_ok (pcs := [2]) (by decide +kernel)
set_option maxRecDepth 100000 in
theorem cn_68_ok : c_chk cs_at 4 none kt_198 4000 cn_68 = true := c_chkQ_ok (pcs := [2]) (by decide +kernel)
set_option maxRecDepth 100000 in
theorem cn_69_ok : c_chk cs_at 4 none kt_198 4000 cn_69 = true := c_chkQ_ok (pcs := [2]) (by decide +kernel)
set_option maxRecDepth 100000 in
theorem cn_70_ok : c_chk cs_at 4 none kt_198 4000 cn_70 = true := c_chkQ_ok (pcs := [2]) (by decide +kernel)
set_option maxRecDepth 100000 in
theorem cn_71_ok : c_chk cs_at 4 none kt_198 4000 cn_71 = true := c_chkQ_ok (pcs := [2]) (by decide +kernel)
set_option maxRecDepth 100000 in
theorem cn_72_ok : c_chk cs_at 4 none kt_198 4000 cn_72 = true := c_chkQ_ok (pcs := [2]) (by decide +kernel)
set_option maxRecDepth 100000 in
theorem cn_73_ok : c_chk cs_at 4 none kt_198 4000 cn_73 = true := c_chkQ_ok (pcs := [2]) (by decide +kernel)
