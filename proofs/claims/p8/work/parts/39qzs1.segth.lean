/-! STRETCH of thrown -/
theorem rt_thr_0  (m : z_M) : z_R 262 (m, 0, [(2, 251)], []) = some (m, some (0, m 251 11)) :=
  have hK : kt_at 262 = kt_262 := rfl
  (z_R_run hK (n := 2) (g' := (m, 4, [(2, 251)], [(0, m 251 11)])) rfl).trans (z_R_ret hK rfl rfl rfl)
