/-! THE CONTRACTS CHECKED, 3 -/
set_option maxRecDepth 100000 in
theorem cn_179_ok : c_chk cs_at 5 none kt_69 4000 cn_179 = true := c_chkQ_ok (pcs := [2, 30]) (by decide +kernel)
set_option maxRecDepth 100000 in
theorem cn_180_ok : c_chk cs_at 5 none kt_69 4000 cn_180 = true := c_chkQ_ok (pcs := [2, 30]) (by decide +kernel)
set_option maxRecDepth 100000 in
theorem cn_181_ok : c_chk cs_at 5 none kt_69 4000 cn_181 = true := c_chkQ_ok (pcs := [2, 30]) (by decide +kernel)
set_option maxRecDepth 100000 in
theorem cn_182_ok : c_chk cs_at 5 none kt_69 4000 cn_182 = true := c_chkQ_ok (pcs := [2, 30]) (by decide +kernel)
set_option maxRecDepth 100000 in
theorem cn_183_ok : c_chk cs_at 5 none kt_69 4000 cn_183 = true := c_chkQ_ok (pcs := [2, 30]) (by decide +kernel)
set_option maxRecDepth 100000 in
theorem cn_184_ok : c_chk cs_at 5 none kt_69 4000 cn_184 = true := c_chkQ_ok (pcs := [2, 30]) (by decide +kernel)
set_option maxRecDepth 100000 in
theorem cn_185_ok : c_chk cs_at 5 none kt_69 4000 cn_185 = true := c_chkQ_ok (pcs := [2, 30]) (by decide +kernel)
set_option maxRecDepth 100000 in
theorem cn_186_ok : c_chk cs_at 5 none kt_69 4000 cn_186 = true := c_chkQ_ok (pcs := [2, 30]) (by decide +kernel)
set_option maxRecDepth 100000 in
theorem cn_187_ok : c_chk cs_at 5 none kt_69 4000 cn_187 = true := c_chkQ_ok (pcs := [2, 30]) (by decide +kernel)
set_option maxRecDepth 100000 in
theorem cn_188_ok : c_chk cs_at 5 none kt_69 4000 cn_188 = true := c_chkQ_ok (pcs := [2, 30]) (by decide +kernel)
set_option maxRecDepth 100000 in
theorem cn_189_ok : c_chk cs_at 5 none kt_69 4000 cn_189 = true := c_chkQ_ok (pcs := [2, 30]) (by decide +kernel)
set_option maxRecDepth 100000 in
theorem cn_190_ok : c_chk cs_at 5 none kt_69 4000 cn_190 = true := c_chkQ_ok (pcs := [2, 30]) (by decide +kernel)
set_option maxRecDepth 100000 in
theorem cn_191_ok : c_chk cs_at 5 none kt_69 4000 cn_191 = true := c_chkQ_ok (pcs := [2, 30]) (by decide +kernel)
set_option maxRecDepth 100000 in
theorem cn_192_ok : c_chk cs_at 5 none kt_69 4000 cn_192 = true := c_chkQ_ok (pcs := [2, 30]) (by decide +kernel)
set_option maxRecDepth 100000 in
theorem cn_193_ok : c_chk cs_at 5 none kt_69 4000 cn_193 = true := c_chkQ_ok (pcs := [2, 30]) (by decide +kernel)
set_option maxRecDepth 100000 in
theorem cn_12_ok : c_chk cs_at 4 (some FieldType.int) kt_70 4000 cn_12 = true := c_chkQ_ok (pcs := []) (by decide +kernel)
set_option maxRecDepth 100000 in
theorem cn_204_ok : c_chk cs_at 11 (some FieldType.int) kt_71 4000 cn_204 = true := c_chkQ_ok (pcs := [60]) (by decide +kernel)
set_option maxRecDepth 100000 in
theorem cn_21_ok : c_chk cs_at 3 (some FieldType.int) kt_72 4000 cn_21 = true := c_chkQ_ok (pcs := []) (by decide +kernel)
set_option maxRecDepth 100000 in
theorem cn_126_ok : c_chk cs_at 5 none kt_73 4000 cn_126 = true := c_chkQ_ok (pcs := []) (by decide +kernel)
set_option maxRecDepth 100000 in
theorem cn_127_ok : c_chk cs_at 5 none kt_73 4000 cn_127 = true := c_chkQ_ok (pcs := []) (by decide +kernel)
set_option maxRecDepth 100000 in
theorem cn_128_ok : c_chk cs_at 5 none kt_73 4000 cn_128 = true := c_chkQ_ok (pcs := []) (by decide +kernel)
set_option maxRecDepth 100000 in
theorem cn_129_ok : c_chk cs_at 5 none kt_73 4000 cn_129 = true := c_chkQ_ok (pcs := []) (by decide +kernel)
set_option maxRecDepth 100000 in
theorem cn_130_ok : c_chk cs_at 5 none kt_73 4000 cn_130 = true := c_chkQ_ok (pcs := []) (by decide +kernel)
set_option maxRecDepth 100000 in
theorem cn_131_ok : c_chk cs_at 5 none kt_73 4000 cn_131 = true := c_chkQ_ok (pcs := []) (by decide +kernel)
set_option maxRecDepth 100000 in
theorem cn_132_ok : c_chk cs_at 5 none kt_73 4000 cn_132 = true := c_chkQ_ok (pcs := []) (by decide +kernel)
set_option maxRecDepth 100000 in
theorem cn_133_ok : c_chk cs_at 5 none kt_73 4000 cn_133 = true := c_chkQ_ok (pcs := []) (by decide +kernel)
set_option maxRecDepth 100000 in
theorem cn_134_ok : c_chk cs_at 5 none kt_73 4000 cn_134 = true := c_chkQ_ok (pcs := []) (by decide +kernel)
set_option maxRecDepth 100000 in
theorem cn_135_ok : c_chk cs_at 5 none kt_73 4000 cn_135 = true := c_chkQ_ok (pcs := []) (by decide +kernel)
set_option maxRecDepth 100000 in
theorem cn_136_ok : c_chk cs_at 5 none kt_73 4000 cn_136 = true := c_chkQ_ok (pcs := []) (by decide +kernel)
set_option maxRecDepth 100000 in
theorem cn_137_ok : c_chk cs_at 5 none kt_73 4000 cn_137 = true := c_chkQ_ok (pcs := []) (by decide +kernel)
set_option maxRecDepth 100000 in
theorem cn_138_ok : c_chk cs_at 5 none kt_73 4000 cn_138 = true := c_chkQ_ok (pcs := []) (by decide +kernel)
set_option maxRecDepth 100000 in
theorem cn_139_ok : c_chk cs_at 5 none kt_73 4000 cn_139 = true := c_chkQ_ok (pcs := []) (by decide +kernel)
set_option maxRecDepth 100000 in
theorem cn_140_ok : c_chk cs_at 5 none kt_73 4000 cn_140 = true := c_chkQ_ok (pcs := []) (by decide +kernel)
set_option maxRecDepth 100000 in
theorem cn_141_ok : c_chk cs_at 5 none kt_73 4000 cn_141 = true := c_chkQ_ok (pcs := []) (by decide +kernel)
set_option maxRecDepth 100000 in
theorem cn_142_ok : c_chk cs_at 5 none kt_73 4000 cn_142 = true := c_chkQ_ok (pcs := []) (by decide +kernel)
set_option maxRecDepth 100000 in
theorem cn_160_ok : c_chk cs_at 4 none kt_74 4000 cn_160 = true := c_chkQ_ok (pcs := []) (by decide +kernel)
set_option maxRecDepth 100000 in
theorem cn_161_ok : c_chk cs_at 4 none kt_74 4000 cn_161 = true := c_chkQ_ok (pcs := []) (by decide +kernel)
set_option maxRecDepth 100000 in
theorem cn_162_ok : c_chk cs_at 4 none kt_74 4000 cn_162 = true := c_chkQ_ok (pcs := []) (by decide +kernel)
set_option maxRecDepth 100000 in
theorem cn_163_ok : c_chk cs_at 4 none kt_74 4000 cn_163 = true := c_chkQ_ok (pcs := []) (by decide +kernel)
set_option maxRecDepth 100000 in
theorem cn_164_ok : c_chk cs_at 4 none kt_74 4000 cn_164 = true := c_chkQ_ok (pcs := []) (by decide +kernel)
set_option maxRecDepth 100000 in
theorem cn_165_ok : c_chk cs_at 4 none kt_74 4000 cn_165 = true := c_chkQ_ok (pcs := []) (by decide +kernel)
set_option maxRecDepth 100000 in
theorem cn_166_ok : c_chk cs_at 4 none kt_74 4000 cn_166 = true := c_chkQ_ok (pcs := []) (by decide +kernel)
set_option maxRecDepth 100000 in
theorem cn_167_ok : c_chk cs_at 4 none kt_74 4000 cn_167 = true := c_chkQ_ok (pcs := []) (by decide +kernel)
set_option maxRecDepth 100000 in
theorem cn_168_ok : c_chk cs_at 4 none kt_74 4000 cn_168 = true := c_chkQ_ok (pcs := []) (by decide +kernel)
set_option maxRecDepth 100000 in
theorem cn_169_ok : c_chk cs_at 4 none kt_74 4000 cn_169 = true := c_chkQ_ok (pcs := []) (by decide +kernel)
set_option maxRecDepth 100000 in
theorem cn_170_ok : c_chk cs_at 4 none kt_74 4000 cn_170 = true := c_chkQ_ok (pcs := []) (by decide +kernel)
set_option maxRecDepth 100000 in
theorem cn_171_ok : c_chk cs_at 4 none kt_74 4000 cn_171 = true := c_chkQ_ok (pcs := []) (by decide +kernel)
set_option maxRecDepth 100000 in
theorem cn_172_ok : c_chk cs_at 4 none kt_74 4000 cn_172 = true := c_chkQ_ok (pcs := []) (by decide +kernel)
set_option maxRecDepth 100000 in
theorem cn_173_ok : c_chk cs_at 4 none kt_74 4000 cn_173 = true := c_chkQ_ok (pcs := []) (by decide +kernel)
set_option maxRecDepth 100000 in
theorem cn_174_ok : c_chk cs_at 4 none kt_74 4000 cn_174 = true := c_chkQ_ok (pcs := []) (by decide +kernel)
set_option maxRecDepth 100000 in
theorem cn_175_ok : c_chk cs_at 4 none kt_74 4000 cn_175 = true := c_chkQ_ok (pcs := []) (by decide +kernel)
set_option maxRecDepth 100000 in
theorem cn_176_ok : c_chk cs_at 4 none kt_74 4000 cn_176 = true := c_chkQ_ok (pcs := []) (by decide +kernel)
set_option maxRecDepth 100000 in
theorem cn_143_ok : c_chk cs_at 5 none kt_75 4000 cn_143 = true := c_chkQ_ok (pcs := [24]) (by decide +kernel)
set_option maxRecDepth 100000 in
theorem cn_144_ok : c_chk cs_at 5 none kt_75 4000 cn_144 = true := c_chkQ_ok (pcs := [24]) (by decide +kernel)
set_option maxRecDepth 100000 in
theorem cn_145_ok : c_chk cs_at 5 none kt_75 4000 cn_145 = true := c_chkQ_ok (pcs := [24]) (by decide +kernel)
set_option maxRecDepth 100000 in
theorem cn_146_ok : c_chk cs_at 5 none kt_75 4000 cn_146 = true := c_chkQ_ok (pcs := [24]) (by decide +kernel)
set_option maxRecDepth 100000 in
theorem cn_147_ok : c_chk cs_at 5 none kt_75 4000 cn_147 = true := c_chkQ_ok (pcs := [24]) (by decide +kernel)
set_option maxRecDepth 100000 in
theorem cn_148_ok : c_chk cs_at 5 none kt_75 4000 cn_148 = true := c_chkQ_ok (pcs := [24]) (by decide +kernel)
set_option maxRecDepth 100000 in
theorem cn_149_ok : c_chk cs_at 5 none kt_75 4000 cn_149 = true := c_chkQ_ok (pcs := [24]) (by decide +kernel)
set_option maxRecDepth 100000 in
theorem cn_150_ok : c_chk cs_at 5 none kt_75 4000 cn_150 = true := c_chkQ_ok (pcs := [24]) (by decide +kernel)
set_option maxRecDepth 100000 in
theorem cn_151_ok : c_chk cs_at 5 none kt_75 4000 cn_151 = true := c_chkQ_ok (pcs := [24]) (by decide +kernel)
set_option maxRecDepth 100000 in
theorem cn_152_ok : c_chk cs_at 5 none kt_75 4000 cn_152 = true := c_chkQ_ok (pcs := [24]) (by decide +kernel)
set_option maxRecDepth 100000 in
theorem cn_153_ok : c_chk cs_at 5 none kt_75 4000 cn_153 = true := c_chkQ_ok (pcs := [24]) (by decide +kernel)
set_option maxRecDepth 100000 in
theorem cn_154_ok : c_chk cs_at 5 none kt_75 4000 cn_154 = true := c_chkQ_ok (pcs := [24]) (by decide +kernel)
set_option maxRecDepth 100000 in
theorem cn_155_ok : c_chk cs_at 5 none kt_75 4000 cn_155 = true := c_chkQ_ok (pcs := [24]) (by decide +kernel)
set_option maxRecDepth 100000 in
theorem cn_156_ok : c_chk cs_at 5 none kt_75 4000 cn_156 = true := c_chkQ_ok (pcs := [24]) (by decide +kernel)
set_option maxRecDepth 100000 in
theorem cn_157_ok : c_chk cs_at 5 none kt_75 4000 cn_157 = true := c_chkQ_ok (pcs := [24]) (by decide +kernel)
set_option maxRecDepth 100000 in
theorem cn_158_ok : c_chk cs_at 5 none kt_75 4000 cn_158 = true := c_chkQ_ok (pcs := [24]) (by decide +kernel)
set_option maxRecDepth 100000 in
theorem cn_159_ok : c_chk cs_at 5 none kt_75 4000 cn_159 = true := c_chkQ_ok (pcs := [24]) (by decide +kernel)
set_option maxRecDepth 100000 in
theorem cn_294_ok : c_chk cs_at 7 none kt_76 4000 cn_294 = true := c_chkQ_ok (pcs := []) (by decide +kernel)
set_option maxRecDepth 100000 in
theorem cn_124_ok : c_chk cs_at 5 none kt_77 4000 cn_124 = true := c_chkQ_ok (pcs := []) (by decide +kernel)
set_option maxRecDepth 100000 in
theorem cn_7_ok : c_chk cs_at 1 none kt_78 4000 cn_7 = true := c_chkQ_ok (pcs := []) (by decide +kernel)
set_option maxRecDepth 100000 in
theorem cn_1_ok : c_chk cs_at 3 none kt_79 4000 cn_1 = true := c_chkQ_ok (pcs := []) (by decide +kernel)
set_option maxRecDepth 100000 in
theorem cn_406_ok : c_chk cs_at 2 (some FieldType.int) kt_80 4000 cn_406 = true := c_chkQ_ok (pcs := []) (by decide +kernel)
