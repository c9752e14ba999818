/-! THE CONTRACTS CHECKED, 10 -/
set_option maxRecDepth 100000 in
theorem cn_51_ok : c_chk cs_at 4 none kt_198 4000 cn_51 = true := c_chkQ_ok (pcs := [2]) (by decide +kernel)
set_option maxRecDepth 100000 in
theorem cn_52_ok : c_chk cs_at 4 none kt_198 4000 cn_52 = true := c_chkQ_ok (pcs := [2]) (by decide +kernel)
set_option maxRecDepth 100000 in
theorem cn_53_ok : c_chk cs_at 4 none kt_198 4000 cn_53 = true := c_chkQ_ok (pcs := [2]) (by decide +kernel)
set_option maxRecDepth 100000 in
theorem cn_54_ok : c_chk cs_at 4 none kt_198 4000 cn_54 = true := c_chkQ_ok (pcs := [2]) (by decide +kernel)
set_option maxRecDepth 100000 in
theorem cn_55_ok : c_chk cs_at 4 none kt_198 4000 cn_55 = true := c_chkQ_ok (pcs := [2]) (by decide +kernel)
set_option maxRecDepth 100000 in
theorem cn_56_ok : c_chk cs_at 4 none kt_198 4000 cn_56 = true := c_chkQ_ok (pcs := [2]) (by decide +kernel)
set_option maxRecDepth 100000 in
theorem cn_57_ok : c_chk cs_at 4 none kt_198 4000 cn_57 = true := c_chkQ_ok (pcs := [2]) (by decide +kernel)
set_option maxRecDepth 100000 in
theorem cn_58_ok : c_chk cs_at 4 none kt_198 4000 cn_58 = true := c_chkQ_ok (pcs := [2]) (by decide +kernel)
set_option maxRecDepth 100000 in
theorem cn_59_ok : c_chk cs_at 4 none kt_198 4000 cn_59 = true := c_chkQ_ok (pcs := [2]) (by decide +kernel)
set_option maxRecDepth 100000 in
theorem cn_60_ok : c_chk cs_at 4 none kt_198 4000 cn_60 = true := c_chkQ_ok (pcs := [2]) (by decide +kernel)
set_option maxRecDepth 100000 in
theorem cn_61_ok : c_chk cs_at 4 none kt_198 4000 cn_61 = true := c_chkQ_ok (pcs := [2]) (by decide +kernel)
set_option maxRecDepth 100000 in
theorem cn_62_ok : c_chk cs_at 4 none kt_198 4000 cn_62 = true := c_chkQ_ok (pcs := [2]) (by decide +kernel)
set_option maxRecDepth 100000 in
theorem cn_63_ok : c_chk cs_at 4 none kt_198 4000 cn_63 = true := c_chkQ_ok (pcs := [2]) (by decide +kernel)
set_option maxRecDepth 100000 in
theorem cn_64_ok : c_chk cs_at 4 none kt_198 4000 cn_64 = true := c_chkQ_ok (pcs := [2]) (by decide +kernel)
set_option maxRecDepth 100000 in
theorem cn_65_ok : c_chk cs_at 4 none kt_198 4000 cn_65 = true := c_chkQ_ok (pcs := [2]) (by decide +kernel)
set_option maxRecDepth 100000 in
theorem cn_66_ok : c_chk cs_at 4 none kt_198 4000 cn_66 = true := c_chkQ_ok (pcs := [2]) (by decide +kernel)
set_option maxRecDepth 100000 in
theorem cn_67_ok : c_chk cs_at 4 none kt_198 4000 cn_67 = true := c_chkQ_ok (pcs := [2]) (by decide +kernel)
