/-! THE CONTRACTS CHECKED, 3 -/
set_option maxRecDepth 100000 in
theorem cn_358_ok : c_chk cs_at 4 none kt_67 4000 cn_358 = true := c_chkQ_ok (pcs := [2]) (by decide +kernel)
set_option maxRecDepth 100000 in
theorem cn_359_ok : c_chk cs_at 4 none kt_67 4000 cn_359 = true := c_chkQ_ok (pcs := [2]) (by decide +kernel)
set_option maxRecDepth 100000 in
theorem cn_360_ok : c_chk cs_at 4 none kt_67 4000 cn_360 = true := c_chkQ_ok (pcs := [2]) (by decide +kernel)
set_option maxRecDepth 100000 in
theorem cn_361_ok : c_chk cs_at 4 none kt_67 4000 cn_361 = true := c_chkQ_ok (pcs := [2]) (by decide +kernel)
set_option maxRecDepth 100000 in
theorem cn_297_ok : c_chk cs_at 6 none kt_68 4000 cn_297 = true := c_chkQ_ok (pcs := [8, 106]) (by decide +kernel)
set_option maxRecDepth 100000 in
theorem cn_298_ok : c_chk cs_at 6 none kt_68 4000 cn_298 = true := c_chkQ_ok (pcs := [8, 106]) (by decide +kernel)
set_option maxRecDepth 100000 in
theorem cn_299_ok : c_chk cs_at 6 none kt_68 4000 cn_299 = true := c_chkQ_ok (pcs := [8, 106]) (by decide +kernel)
set_option maxRecDepth 100000 in
theorem cn_300_ok : c_chk cs_at 6 none kt_68 4000 cn_300 = true := c_chkQ_ok (pcs := [8, 106]) (by decide +kernel)
set_option maxRecDepth 100000 in
theorem cn_301_ok : c_chk cs_at 6 none kt_68 4000 cn_301 = true := c_chkQ_ok (pcs := [8, 106]) (by decide +kernel)
set_option maxRecDepth 100000 in
theorem cn_302_ok : c_chk cs_at 6 none kt_68 4000 cn_302 = true := c_chkQ_ok (pcs := [8, 106]) (by decide +kernel)
set_option maxRecDepth 100000 in
theorem cn_303_ok : c_chk cs_at 6 none kt_68 4000 cn_303 = true := c_chkQ_ok (pcs := [8, 106]) (by decide +kernel)
set_option maxRecDepth 100000 in
theorem cn_304_ok : c_chk cs_at 6 none kt_68 4000 cn_304 = true := c_chkQ_ok (pcs := [8, 106]) (by decide +kernel)
set_option maxRecDepth 100000 in
theorem cn_305_ok : c_chk cs_at 6 none kt_68 4000 cn_305 = true := c_chkQ_ok (pcs := [8, 106]) (by decide +kernel)
set_option maxRecDepth 100000 in
theorem cn_306_ok : c_chk cs_at 6 none kt_68 4000 cn_306 = true := c_chkQ_ok (pcs := [8, 106]) (by decide +kernel)
set_option maxRecDepth 100000 in
theorem cn_307_ok : c_chk cs_at 6 none kt_68 4000 cn_307 = true := c_chkQ_ok (pcs := [8, 106]) (by decide +kernel)
set_option maxRecDepth 100000 in
theorem cn_308_ok : c_chk cs_at 6 none kt_68 4000 cn_308 = true := c_chkQ_ok (pcs := [8, 106]) (by decide +kernel)
set_option maxRecDepth 100000 in
theorem cn_309_ok : c_chk cs_at 6 none kt_68 4000 cn_309 = true := c_chkQ_ok (pcs := [8, 106]) (by decide +kernel)
set_option maxRecDepth 100000 in
theorem cn_310_ok : c_chk cs_at 6 none kt_68 4000 cn_310 = true := c_chkQ_ok (pcs := [8, 106]) (by decide +kernel)
set_option maxRecDepth 100000 in
theorem cn_311_ok : c_chk cs_at 6 none kt_68 4000 cn_311 = true := c_chkQ_ok (pcs := [8, 106]) (by decide +kernel)
set_option maxRecDepth 100000 in
theorem cn_312_ok : c_chk cs_at 6 none kt_68 4000 cn_312 = true := c_chkQ_ok (pcs := [8, 106]) (by decide +kernel)
set_option maxRecDepth 100000 in
theorem cn_313_ok : c_chk cs_at 6 none kt_68 4000 cn_313 = true := c_chkQ_ok (pcs := [8, 106]) (by decide +kernel)
set_option maxRecDepth 100000 in
theorem cn_177_ok : c_chk cs_at 5 none kt_69 4000 cn_177 = true := c_chkQ_ok (pcs := [2, 30]) (by decide +kernel)
set_option maxRecDepth 100000 in
theorem cn_178_ok : c_chk cs_at 5 none kt_69 4000 cn_178 = true := c_chkQ_ok (pcs := [2, 30]) (by decide +kernel)
set_option maxRecDepth 100000 in
theorem cn_179_ok : c_chk cs_at 5 none kt_69 4000 cn_179 = true := c_chkQ_ok (pcs := [2, 30]) (by decide +kernel)
set_option maxRecDepth 100000 in
theorem cn_180_ok : c_chk cs_at 5 none kt_69 4000 cn_180 = true := c_chkQ_ok (pcs := [2, 30]) (by decide +kernel)
set_option maxRecDepth 100000 in
theorem cn_181_ok : c_chk cs_at 5 none kt_69 4000 cn_181 = true := c_chkQ_ok (pcs := [2, 30]) (by decide +kernel)
set_option maxRecDepth 100000 in
theorem cn_182_ok : c_chk cs_at 5 none kt_69 4000 cn_182 = true := c_chkQ_ok (pcs := [2, 30]) (by decide +kernel)
set_option maxRecDepth 100000 in
theorem cn_183_ok : c_chk cs_at 5 none kt_69 4000 cn_183 = true := c_chkQ_ok (pcs := [2, 30]) (by decide +kernel)
set_option maxRecDepth 100000 in
theorem cn_184_ok : c_chk cs_at 5 none kt_69 4000 cn_184 = true := c_chkQ_ok (pcs := [2, 30]) (by decide +kernel)
set_option maxRecDepth 100000 in
theorem cn_185_ok : c_chk cs_at 5 none kt_69 4000 cn_185 = true := c_chkQ_ok (pcs := [2, 30]) (by decide +kernel)
set_option maxRecDepth 100000 in
theorem cn_186_ok : c_chk cs_at 5 none kt_69 4000 cn_186 = true := c_chkQ_ok (pcs := [2, 30]) (by decide +kernel)
set_option maxRecDepth 100000 in
theorem cn_187_ok : c_chk cs_at 5 none kt_69 4000 cn_187 = true := c_chkQ_ok (pcs := [2, 30]) (by decide +kernel)
set_option maxRecDepth 100000 in
theorem cn_188_ok : c_chk cs_at 5 none kt_69 4000 cn_188 = true := c_chkQ_ok (pcs := [2, 30]) (by decide +kernel)
set_option maxRecDepth 100000 in
theorem cn_189_ok : c_chk cs_at 5 none kt_69 4000 cn_189 = true := c_chkQ_ok (pcs := [2, 30]) (by decide +kernel)
set_option maxRecDepth 100000 in
theorem cn_190_ok : c_chk cs_at 5 none kt_69 4000 cn_190 = true := c_chkQ_ok (pcs := [2, 30]) (by decide +kernel)
set_option maxRecDepth 100000 in
theorem cn_191_ok : c_chk cs_at 5 none kt_69 4000 cn_191 = true := c_chkQ_ok (pcs := [2, 30]) (by decide +kernel)
set_option maxRecDepth 100000 in
theorem cn_192_ok : c_chk cs_at 5 none kt_69 4000 cn_192 = true := c_chkQ_ok (pcs := [2, 30]) (by decide +kernel)
set_option maxRecDepth 100000 in
theorem cn_193_ok : c_chk cs_at 5 none kt_69 4000 cn_193 = true := c_chkQ_ok (pcs := [2, 30]) (by decide +kernel)
set_option maxRecDepth 100000 in
theorem cn_12_ok : c_chk cs_at 4 (some FieldType.int) kt_70 4000 cn_12 = true := c_chkQ_ok (pcs := []) (by decide +kernel)
set_option maxRecDepth 100000 in
theorem cn_204_ok : c_chk cs_at 11 (some FieldType.int) kt_71 4000 cn_204 = true := c_chkQ_ok (pcs := [60]) (by decide +kernel)
set_option maxRecDepth 100000 in
theorem cn_21_ok : c_chk cs_at 3 (some FieldType.int) kt_72 4000 cn_21 = true := c_chkQ_ok (pcs := []) (by decide +kernel)
set_option maxRecDepth 100000 in
theorem cn_126_ok : c_chk cs_at 5 none kt_73 4000 cn_126 = true := c_chkQ_ok (pcs := []) (by decide +kernel)
set_option maxRecDepth 100000 in
theorem cn_127_ok : c_chk cs_at 5 none kt_73 4000 cn_127 = true := c_chkQ_ok (pcs := []) (by decide +kernel)
set_option maxRecDepth 100000 in
theorem cn_128_ok : c_chk cs_at 5 none kt_73 4000 cn_128 = true := c_chkQ_ok (pcs := []) (by decide +kernel)
set_option maxRecDepth 100000 in
theorem cn_129_ok : c_chk cs_at 5 none kt_73 4000 cn_129 = true := c_chkQ_ok (pcs := []) (by decide +kernel)
set_option maxRecDepth 100000 in
theorem cn_130_ok : c_chk cs_at 5 none kt_73 4000 cn_130 = true := c_chkQ_ok (pcs := []) (by decide +kernel)
set_option maxRecDepth 100000 in
theorem cn_131_ok : c_chk cs_at 5 none kt_73 4000 cn_131 = true := c_chkQ_ok (pcs := []) (by decide +kernel)
set_option maxRecDepth 100000 in
theorem cn_132_ok : c_chk cs_at 5 none kt_73 4000 cn_132 = true := c_chkQ_ok (pcs := []) (by decide +kernel)
set_option maxRecDepth 100000 in
theorem cn_133_ok : c_chk cs_at 5 none kt_73 4000 cn_133 = true := c_chkQ_ok (pcs := []) (by decide +kernel)
set_option maxRecDepth 100000 in
theorem cn_134_ok : c_chk cs_at 5 none kt_73 4000 cn_134 = true := c_chkQ_ok (pcs := []) (by decide +kernel)
set_option maxRecDepth 100000 in
theorem cn_135_ok : c_chk cs_at 5 none kt_73 4000 cn_135 = true := c_chkQ_ok (pcs := []) (by decide +kernel)
set_option maxRecDepth 100000 in
theorem cn_136_ok : c_chk cs_at 5 none kt_73 4000 cn_136 = true := c_chkQ_ok (pcs := []) (by decide +kernel)
set_option maxRecDepth 100000 in
theorem cn_137_ok : c_chk cs_at 5 none kt_73 4000 cn_137 = true := c_chkQ_ok (pcs := []) (by decide +kernel)
set_option maxRecDepth 100000 in
theorem cn_138_ok : c_chk cs_at 5 none kt_73 4000 cn_138 = true := c_chkQ_ok (pcs := []) (by decide +kernel)
set_option maxRecDepth 100000 in
theorem cn_139_ok : c_chk cs_at 5 none kt_73 4000 cn_139 = true := c_chkQ_ok (pcs := []) (by decide +kernel)
set_option maxRecDepth 100000 in
theorem cn_140_ok : c_chk cs_at 5 none kt_73 4000 cn_140 = true := c_chkQ_ok (pcs := []) (by decide +kernel)
set_option maxRecDepth 100000 in
theorem cn_141_ok : c_chk cs_at 5 none kt_73 4000 cn_141 = true := c_chkQ_ok (pcs := []) (by decide +kernel)
set_option maxRecDepth 100000 in
theorem cn_142_ok : c_chk cs_at 5 none kt_73 4000 cn_142 = true := c_chkQ_ok (pcs := []) (by decide +kernel)
set_option maxRecDepth 100000 in
theorem cn_160_ok : c_chk cs_at 4 none kt_74 4000 cn_160 = true := c_chkQ_ok (pcs := []) (by decide +kernel)
set_option maxRecDepth 100000 in
theorem cn_161_ok : c_chk cs_at 4 none kt_74 4000 cn_161 = true := c_chkQ_ok (pcs := []) (by decide +kernel)
set_option maxRecDepth 100000 in
theorem cn_162_ok : c_chk cs_at 4 none kt_74 4000 cn_162 = true := c_chkQ_ok (pcs := []) (by decide +kernel)
set_option maxRecDepth 100000 in
theorem cn_163_ok : c_chk cs_at 4 none kt_74 4000 cn_163 = true := c_chkQ_ok (pcs := []) (by decide +kernel)
set_option maxRecDepth 100000 in
theorem cn_164_ok : c_chk cs_at 4 none kt_74 4000 cn_164 = true := c_chkQ_ok (pcs := []) (by decide +kernel)
set_option maxRecDepth 100000 in
theorem cn_165_ok : c_chk cs_at 4 none kt_74 4000 cn_165 = true := c_chkQ_ok (pcs := []) (by decide +kernel)
set_option maxRecDepth 100000 in
theorem cn_166_ok : c_chk cs_at 4 none kt_74 4000 cn_166 = true := c_chkQ_ok (pcs := []) (by decide +kernel)
set_option maxRecDepth 100000 in
theorem cn_167_ok : c_chk cs_at 4 none kt_74 4000 cn_167 = true := c_chkQ_ok (pcs := []) (by decide +kernel)
set_option maxRecDepth 100000 in
theorem cn_168_ok : c_chk cs_at 4 none kt_74 4000 cn_168 = true := c_chkQ_ok (pcs := []) (by decide +kernel)
set_option maxRecDepth 100000 in
theorem cn_169_ok : c_chk cs_at 4 none kt_74 4000 cn_169 = true := c_chkQ_ok (pcs := []) (by decide +kernel)
