/-! THE CONTRACTS CHECKED, 4 -/
set_option maxRecDepth 100000 in
theorem cn_170_ok : c_chk cs_at 4 none kt_74 4000 cn_170 = true := c_chkQ_ok (pcs := []) (by decide +kernel)
set_option maxRecDepth 100000 in
theorem cn_171_ok : c_chk cs_at 4 none kt_74 4000 cn_171 = true := c_chkQ_ok (pcs := []) (by decide +kernel)
set_option maxRecDepth 100000 in
theorem cn_172_ok : c_chk cs_at 4 none kt_74 4000 cn_172 = true := c_chkQ_ok (pcs := []) (by decide +kernel)
set_option maxRecDepth 100000 in
theorem cn_173_ok : c_chk cs_at 4 none kt_74 4000 cn_173 = true := c_chkQ_ok (pcs := []) (by decide +kernel)
set_option maxRecDepth 100000 in
theorem cn_174_ok : c_chk cs_at 4 none kt_74 4000 cn_174 = true := c_chkQ_ok (pcs := []) (by decide +kernel)
set_option maxRecDepth 100000 in
theorem cn_175_ok : c_chk cs_at 4 none kt_74 4000 cn_175 = true := c_chkQ_ok (pcs := []) (by decide +kernel)
set_option maxRecDepth 100000 in
theorem cn_176_ok : c_chk cs_at 4 none kt_74 4000 cn_176 = true := c_chkQ_ok (pcs := []) (by decide +kernel)
set_option maxRecDepth 100000 in
theorem cn_143_ok : c_chk cs_at 5 none kt_75 4000 cn_143 = true := c_chkQ_ok (pcs := [24]) (by decide +kernel)
set_option maxRecDepth 100000 in
theorem cn_144_ok : c_chk cs_at 5 none kt_75 4000 cn_144 = true := c_chkQ_ok (pcs := [24]) (by decide +kernel)
set_option maxRecDepth 100000 in
theorem cn_145_ok : c_chk cs_at 5 none kt_75 4000 cn_145 = true := c_chkQ_ok (pcs := [24]) (by decide +kernel)
set_option maxRecDepth 100000 in
theorem cn_146_ok : c_chk cs_at 5 none kt_75 4000 cn_146 = true := c_chkQ_ok (pcs := [24]) (by decide +kernel)
set_option maxRecDepth 100000 in
theorem cn_147_ok : c_chk cs_at 5 none kt_75 4000 cn_147 = true := c_chkQ_ok (pcs := [24]) (by decide +kernel)
set_option maxRecDepth 100000 in
theorem cn_148_ok : c_chk cs_at 5 none kt_75 4000 cn_148 = true := c_chkQ_ok (pcs := [24]) (by decide +kernel)
set_option maxRecDepth 100000 in
theorem cn_149_ok : c_chk cs_at 5 none kt_75 4000 cn_149 = true := c_chkQ_ok (pcs := [24]) (by decide +kernel)
set_option maxRecDepth 100000 in
theorem cn_150_ok : c_chk cs_at 5 none kt_75 4000 cn_150 = true := c_chkQ_ok (pcs := [24]) (by decide +kernel)
set_option maxRecDepth 100000 in
theorem cn_151_ok : c_chk cs_at 5 none kt_75 4000 cn_151 = true := c_chkQ_ok (pcs := [24]) (by decide +kernel)
set_option maxRecDepth 100000 in
theorem cn_152_ok : c_chk cs_at 5 none kt_75 4000 cn_152 = true := c_chkQ_ok (pcs := [24]) (by decide +kernel)
set_option maxRecDepth 100000 in
theorem cn_153_ok : c_chk cs_at 5 none kt_75 4000 cn_153 = true := c_chkQ_ok (pcs := [24]) (by decide +kernel)
set_option maxRecDepth 100000 in
theorem cn_154_ok : c_chk cs_at 5 none kt_75 4000 cn_154 = true := c_chkQ_ok (pcs := [24]) (by decide +kernel)
set_option maxRecDepth 100000 in
theorem cn_155_ok : c_chk cs_at 5 none kt_75 4000 cn_155 = true := c_chkQ_ok (pcs := [24]) (by decide +kernel)
set_option maxRecDepth 100000 in
theorem cn_156_ok : c_chk cs_at 5 none kt_75 4000 cn_156 = true := c_chkQ_ok (pcs := [24]) (by decide +kernel)
set_option maxRecDepth 100000 in
theorem cn_157_ok : c_chk cs_at 5 none kt_75 4000 cn_157 = true := c_chkQ_ok (pcs := [24]) (by decide +kernel)
set_option maxRecDepth 100000 in
theorem cn_158_ok : c_chk cs_at 5 none kt_75 4000 cn_158 = true := c_chkQ_ok (pcs := [24]) (by decide +kernel)
set_option maxRecDepth 100000 in
theorem cn_159_ok : c_chk cs_at 5 none kt_75 4000 cn_159 = true := c_chkQ_ok (pcs := [24]) (by decide +kernel)
set_option maxRecDepth 100000 in
theorem cn_294_ok : c_chk cs_at 7 none kt_76 4000 cn_294 = true := c_chkQ_ok (pcs := []) (by decide +kernel)
set_option maxRecDepth 100000 in
theorem cn_124_ok : c_chk cs_at 5 none kt_77 4000 cn_124 = true := c_chkQ_ok (pcs := []) (by decide +kernel)
set_option maxRecDepth 100000 in
theorem cn_7_ok : c_chk cs_at 1 none kt_78 4000 cn_7 = true := c_chkQ_ok (pcs := []) (by decide +kernel)
set_option maxRecDepth 100000 in
theorem cn_1_ok : c_chk cs_at 3 none kt_79 4000 cn_1 = true := c_chkQ_ok (pcs := []) (by decide +kernel)
set_option maxRecDepth 100000 in
theorem cn_406_ok : c_chk cs_at 2 (some FieldType.int) kt_80 4000 cn_406 = true := c_chkQ_ok (pcs := []) (by decide +kernel)
set_option maxRecDepth 100000 in
theorem cn_343_ok : c_chk cs_at 3 (some FieldType.int) kt_81 4000 cn_343 = true := c_chkQ_ok (pcs := []) (by decide +kernel)
set_option maxRecDepth 100000 in
theorem cn_411_ok : c_chk cs_at 3 (some FieldType.int) kt_82 4000 cn_411 = true := c_chkQ_ok (pcs := [49]) (by decide +kernel)
set_option maxRecDepth 100000 in
theorem cn_395_ok : c_chk cs_at 2 (some FieldType.boolean) kt_83 4000 cn_395 = true := c_chkQ_ok (pcs := [28]) (by decide +kernel)
set_option maxRecDepth 100000 in
theorem cn_371_ok : c_chk cs_at 3 (some FieldType.boolean) kt_84 4000 cn_371 = true := c_chkQ_ok (pcs := []) (by decide +kernel)
set_option maxRecDepth 100000 in
theorem cn_325_ok : c_chk cs_at 4 (some FieldType.boolean) kt_85 4000 cn_325 = true := c_chkQ_ok (pcs := []) (by decide +kernel)
set_option maxRecDepth 100000 in
theorem cn_382_ok : c_chk cs_at 4 (some FieldType.boolean) kt_86 4000 cn_382 = true := c_chkQ_ok (pcs := []) (by decide +kernel)
set_option maxRecDepth 100000 in
theorem cn_345_ok : c_chk cs_at 1 (some FieldType.int) kt_87 4000 cn_345 = true := c_chkQ_ok (pcs := []) (by decide +kernel)
set_option maxRecDepth 100000 in
theorem cn_320_ok : c_chk cs_at 2 (some FieldType.boolean) kt_88 4000 cn_320 = true := c_chkQ_ok (pcs := []) (by decide +kernel)
set_option maxRecDepth 100000 in
theorem cn_410_ok : c_chk cs_at 3 (some FieldType.int) kt_89 4000 cn_410 = true := c_chkQ_ok (pcs := []) (by decide +kernel)
set_option maxRecDepth 100000 in
theorem cn_379_ok : c_chk cs_at 2 none kt_90 4000 cn_379 = true := c_chkQ_ok (pcs := []) (by decide +kernel)
set_option maxRecDepth 100000 in
theorem cn_377_ok : c_chk cs_at 4 (some FieldType.int) kt_91 4000 cn_377 = true := c_chkQ_ok (pcs := [25]) (by decide +kernel)
set_option maxRecDepth 100000 in
theorem cn_197_ok : c_chk cs_at 4 (some FieldType.int) kt_92 4000 cn_197 = true := c_chkQ_ok (pcs := [4]) (by decide +kernel)
set_option maxRecDepth 100000 in
theorem cn_198_ok : c_chk cs_at 4 (some FieldType.int) kt_92 4000 cn_198 = true := c_chkQ_ok (pcs := [4]) (by decide +kernel)
set_option maxRecDepth 100000 in
theorem cn_199_ok : c_chk cs_at 4 (some FieldType.int) kt_92 4000 cn_199 = true := c_chkQ_ok (pcs := [4]) (by decide +kernel)
set_option maxRecDepth 100000 in
theorem cn_200_ok : c_chk cs_at 4 (some FieldType.int) kt_92 4000 cn_200 = true := c_chkQ_ok (pcs := [4]) (by decide +kernel)
set_option maxRecDepth 100000 in
theorem cn_4_ok : c_chk cs_at 2 (some FieldType.int) kt_93 4000 cn_4 = true := c_chkQ_ok (pcs := [2]) (by decide +kernel)
set_option maxRecDepth 100000 in
theorem cn_403_ok : c_chk cs_at 4 (some FieldType.int) kt_94 4000 cn_403 = true := c_chkQ_ok (pcs := [21]) (by decide +kernel)
set_option maxRecDepth 100000 in
theorem cn_402_ok : c_chk cs_at 3 (some FieldType.int) kt_95 4000 cn_402 = true := c_chkQ_ok (pcs := [15]) (by decide +kernel)
set_option maxRecDepth 100000 in
theorem cn_388_ok : c_chk cs_at 3 (some FieldType.int) kt_96 4000 cn_388 = true := c_chkQ_ok (pcs := []) (by decide +kernel)
set_option maxRecDepth 100000 in
theorem cn_363_ok : c_chk cs_at 6 (some FieldType.int) kt_97 4000 cn_363 = true := c_chkQ_ok (pcs := [15]) (by decide +kernel)
set_option maxRecDepth 100000 in
theorem cn_364_ok : c_chk cs_at 6 (some FieldType.int) kt_97 4000 cn_364 = true := c_chkQ_ok (pcs := [15]) (by decide +kernel)
set_option maxRecDepth 100000 in
theorem cn_365_ok : c_chk cs_at 6 (some FieldType.int) kt_97 4000 cn_365 = true := c_chkQ_ok (pcs := [15]) (by decide +kernel)
set_option maxRecDepth 100000 in
theorem cn_435_ok : c_chk cs_at 2 (some FieldType.int) kt_98 4000 cn_435 = true := c_chkQ_ok (pcs := []) (by decide +kernel)
set_option maxRecDepth 100000 in
theorem cn_201_ok : c_chk cs_at 2 (some FieldType.int) kt_99 4000 cn_201 = true := c_chkQ_ok (pcs := []) (by decide +kernel)
set_option maxRecDepth 100000 in
theorem cn_13_ok : c_chk cs_at 5 (some FieldType.int) kt_100 4000 cn_13 = true := c_chkQ_ok (pcs := [5]) (by decide +kernel)
set_option maxRecDepth 100000 in
theorem cn_99_ok : c_chk cs_at 1 (some FieldType.int) kt_101 4000 cn_99 = true := c_chkQ_ok (pcs := []) (by decide +kernel)
set_option maxRecDepth 100000 in
theorem cn_431_ok : c_chk cs_at 5 none kt_102 4000 cn_431 = true := c_chkQ_ok (pcs := [16, 111]) (by decide +kernel)
set_option maxRecDepth 100000 in
theorem cn_391_ok : c_chk cs_at 3 none kt_103 4000 cn_391 = true := c_chkQ_ok (pcs := [2]) (by decide +kernel)
set_option maxRecDepth 100000 in
theorem cn_317_ok : c_chk cs_at 6 (some FieldType.boolean) kt_104 4000 cn_317 = true := c_chkQ_ok (pcs := [16]) (by decide +kernel)
set_option maxRecDepth 100000 in
theorem cn_16_ok : c_chk cs_at 2 (some FieldType.int) kt_105 4000 cn_16 = true := c_chkQ_ok (pcs := []) (by decide +kernel)
set_option maxRecDepth 100000 in
theorem cn_318_ok : c_chk cs_at 5 none kt_106 4000 cn_318 = true := c_chkQ_ok (pcs := []) (by decide +kernel)
set_option maxRecDepth 100000 in
theorem cn_370_ok : c_chk cs_at 5 none kt_106 4000 cn_370 = true := c_chkQ_ok (pcs := [20]) (by decide +kernel)
set_option maxRecDepth 100000 in
theorem cn_390_ok : c_chk cs_at 5 none kt_106 4000 cn_390 = true := c_chkQ_ok (pcs := [20]) (by decide +kernel)
set_option maxRecDepth 100000 in
theorem cn_412_ok : c_chk cs_at 5 none kt_106 4000 cn_412 = true := c_chkQ_ok (pcs := [20]) (by decide +kernel)
set_option maxRecDepth 100000 in
theorem cn_425_ok : c_chk cs_at 5 none kt_106 4000 cn_425 = true := c_chkQ_ok (pcs := [20]) (by decide +kernel)
set_option maxRecDepth 100000 in
theorem cn_202_ok : c_chk cs_at 4 none kt_107 4000 cn_202 = true := c_chkQ_ok (pcs := [7]) (by decide +kernel)
set_option maxRecDepth 100000 in
theorem cn_125_ok : c_chk cs_at 2 none kt_108 4000 cn_125 = true := c_chkQ_ok (pcs := [2]) (by decide +kernel)
set_option maxRecDepth 100000 in
theorem cn_436_ok : c_chk cs_at 2 (some FieldType.int) kt_109 4000 cn_436 = true := c_chkQ_ok (pcs := []) (by decide +kernel)
