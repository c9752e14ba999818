/-! THE METHODS, instruction by instruction, 10 -/
theorem kt_260_ok : kt_260.all (fun r => r.all (k_one 13 prog_15_method_101_code)) = true := by decide +kernel
theorem kt_261_ok : kt_261.all (fun r => r.all (k_one 13 prog_15_method_102_code)) = true := by decide +kernel
theorem kt_213_ok : kt_213.all (fun r => r.all (k_one 13 prog_15_method_57_code)) = true := by decide +kernel
theorem kt_212_ok : kt_212.all (fun r => r.all (k_one 13 prog_15_method_55_code)) = true := by decide +kernel
theorem kt_167_ok : kt_167.all (fun r => r.all (k_one 13 prog_15_method_17_code)) = true := by decide +kernel
theorem kt_241_ok : kt_241.all (fun r => r.all (k_one 13 prog_15_method_81_code)) = true := by decide +kernel
theorem kt_155_ok : kt_155.all (fun r => r.all (k_one 12 prog_1_method_7_code)) = true := by decide +kernel
theorem kt_156_ok : kt_156.all (fun r => r.all (k_one 12 prog_1_method_8_code)) = true := by decide +kernel
theorem kt_158_ok : kt_158.all (fun r => r.all (k_one 12 prog_1_method_54_code)) = true := by decide +kernel
