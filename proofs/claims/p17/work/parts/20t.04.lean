/-! THE METHODS, instruction by instruction, 4 -/
theorem kt_122_ok : kt_122.all (fun r => r.all (k_one 12 prog_1_method_36_code)) = true := by decide +kernel
theorem kt_123_ok : kt_123.all (fun r => r.all (k_one 12 prog_1_method_37_code)) = true := by decide +kernel
theorem kt_125_ok : kt_125.all (fun r => r.all (k_one 12 prog_1_method_38_code)) = true := by decide +kernel
theorem kt_126_ok : kt_126.all (fun r => r.all (k_one 12 prog_1_method_39_code)) = true := by decide +kernel
theorem kt_127_ok : kt_127.all (fun r => r.all (k_one 0 prog_2_method_9_code)) = true := by decide +kernel
theorem kt_128_ok : kt_128.all (fun r => r.all (k_one 17 prog_22_method_50_code)) = true := by decide +kernel
theorem kt_129_ok : kt_129.all (fun r => r.all (k_one 12 prog_1_method_40_code)) = true := by decide +kernel
theorem kt_130_ok : kt_130.all (fun r => r.all (k_one 9 prog_11_method_2_code)) = true := by decide +kernel
theorem kt_131_ok : kt_131.all (fun r => r.all (k_one 9 prog_11_method_3_code)) = true := by decide +kernel
theorem kt_132_ok : kt_132.all (fun r => r.all (k_one 9 prog_11_method_4_code)) = true := by decide +kernel
theorem kt_133_ok : kt_133.all (fun r => r.all (k_one 12 prog_1_method_41_code)) = true := by decide +kernel
theorem kt_134_ok : kt_134.all (fun r => r.all (k_one 12 prog_1_method_42_code)) = true := by decide +kernel
theorem kt_135_ok : kt_135.all (fun r => r.all (k_one 12 prog_1_method_43_code)) = true := by decide +kernel
theorem kt_136_ok : kt_136.all (fun r => r.all (k_one 12 prog_1_method_44_code)) = true := by decide +kernel
theorem kt_137_ok : kt_137.all (fun r => r.all (k_one 12 prog_1_method_45_code)) = true := by decide +kernel
