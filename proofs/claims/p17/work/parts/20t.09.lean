/-! THE METHODS, instruction by instruction, 9 -/
theorem kt_245_ok : kt_245.all (fun r => r.all (k_one 13 prog_15_method_89_code)) = true := by decide +kernel
theorem kt_246_ok : kt_246.all (fun r => r.all (k_one 13 prog_15_method_88_code)) = true := by decide +kernel
theorem kt_247_ok : kt_247.all (fun r => r.all (k_one 13 prog_15_method_87_code)) = true := by decide +kernel
theorem kt_249_ok : kt_249.all (fun r => r.all (k_one 13 prog_15_method_91_code)) = true := by decide +kernel
theorem kt_250_ok : kt_250.all (fun r => r.all (k_one 13 prog_15_method_90_code)) = true := by decide +kernel
theorem kt_251_ok : kt_251.all (fun r => r.all (k_one 13 prog_15_method_92_code)) = true := by decide +kernel
theorem kt_252_ok : kt_252.all (fun r => r.all (k_one 13 prog_15_method_93_code)) = true := by decide +kernel
theorem kt_253_ok : kt_253.all (fun r => r.all (k_one 13 prog_15_method_96_code)) = true := by decide +kernel
theorem kt_254_ok : kt_254.all (fun r => r.all (k_one 13 prog_15_method_95_code)) = true := by decide +kernel
theorem kt_255_ok : kt_255.all (fun r => r.all (k_one 13 prog_15_method_94_code)) = true := by decide +kernel
theorem kt_256_ok : kt_256.all (fun r => r.all (k_one 13 prog_15_method_97_code)) = true := by decide +kernel
theorem kt_257_ok : kt_257.all (fun r => r.all (k_one 13 prog_15_method_98_code)) = true := by decide +kernel
theorem kt_258_ok : kt_258.all (fun r => r.all (k_one 13 prog_15_method_99_code)) = true := by decide +kernel
theorem kt_259_ok : kt_259.all (fun r => r.all (k_one 13 prog_15_method_100_code)) = true := by decide +kernel
