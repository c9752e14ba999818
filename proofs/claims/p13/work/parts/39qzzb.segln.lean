/-! STRETCHES of longest, of the reference -/
theorem ll_tlo_0  (m : z_M) : z_R 232 (m, 0, [(2, 251)], []) = (z_R 228 (z_up m 251 11 0, 0, [(2, 251), (9, 0)], [])).bind fun qq => z_R 232 (qq.1, 9, [(2, 251)], qq.2.toList ++ []) :=
  have hK : kt_at 232 = kt_232 := rfl
  (z_R_run hK (n := 4) (g' := (z_up m 251 11 0, 6, [(2, 251)], [(2, 251)])) rfl).trans (z_R_call hK rfl rfl rfl rfl rfl)
theorem ll_tlo_9  (m : z_M) : z_R 232 (m, 9, [(2, 251)], []) = if m 251 39 ≤ 4 then if m 251 39 ≤ z_mul (m 251 1) (m 251 2) then (z_R 229 (m, 0, [(2, 251), (0, 100)], [])).bind fun qq => z_R 232 (qq.1, 45, [(2, 251)], qq.2.toList ++ []) else some (m, some (0, (-2))) else some (m, some (0, (-3))) :=
  have hK : kt_at 232 = kt_232 := rfl
  (z_R_run hK (n := 3) (g' := (m, 14, [(2, 251)], [(0, 4), (0, m 251 39)])) rfl).trans (z_R_ifd hK (c := m 251 39 ≤ 4) (p1 := 20) (p2 := 17) rfl rfl rfl (fun h1 => (z_R_run hK (n := 7) (g' := (m, 33, [(2, 251)], [(0, z_mul (m 251 1) (m 251 2)), (0, m 251 39)])) rfl).trans (z_R_ifd hK (c := m 251 39 ≤ z_mul (m 251 1) (m 251 2)) (p1 := 39) (p2 := 36) rfl rfl rfl (fun h2 => (z_R_run hK (n := 2) (g' := (m, 42, [(2, 251)], [(0, 100), (2, 251)])) rfl).trans (z_R_call hK rfl rfl rfl rfl rfl)) (fun h2 => (z_R_run hK (n := 1) (g' := (m, 38, [(2, 251)], [(0, (-2))])) rfl).trans (z_R_ret hK rfl rfl rfl)))) (fun h1 => (z_R_run hK (n := 1) (g' := (m, 19, [(2, 251)], [(0, (-3))])) rfl).trans (z_R_ret hK rfl rfl rfl)))
theorem ll_tlo_45  (m : z_M) : z_R 232 (m, 45, [(2, 251)], []) = (z_R 231 (z_up m 251 10 0, 0, [(2, 251), (9, 0)], [])).bind fun qq => z_R 232 (qq.1, 54, [(2, 251)], qq.2.toList ++ []) :=
  have hK : kt_at 232 = kt_232 := rfl
  (z_R_run hK (n := 4) (g' := (z_up m 251 10 0, 51, [(2, 251)], [(2, 251)])) rfl).trans (z_R_call hK rfl rfl rfl rfl rfl)
theorem ll_tlo_54  (m : z_M) : z_R 232 (m, 54, [(2, 251)], []) = some (m, some (0, m 251 43)) :=
  have hK : kt_at 232 = kt_232 := rfl
  (z_R_run hK (n := 2) (g' := (m, 58, [(2, 251)], [(0, m 251 43)])) rfl).trans (z_R_ret hK rfl rfl rfl)
