/-! STRETCHES of small calls -/
theorem s_kn_0  (m : z_M) (a : Int) : z_R 55 (m, 0, [(2, 3), (0, a)], []) = if a < 0 then some (m, some (0, 0)) else if m 3 11 ≤ a then some (m, some (0, 0)) else some (m, some (0, 1)) :=
  have hK : kt_at 55 = kt_55 := rfl
  (z_R_run hK (n := 1) (g' := (m, 1, [(2, 3), (0, a)], [(0, a)])) rfl).trans (z_R_ifd hK (c := a < 0) (p1 := 16) (p2 := 4) rfl rfl rfl (fun h1 => (z_R_run hK (n := 1) (g' := (m, 17, [(2, 3), (0, a)], [(0, 0)])) rfl).trans (z_R_ret hK rfl rfl rfl)) (fun h1 => (z_R_run hK (n := 3) (g' := (m, 9, [(2, 3), (0, a)], [(0, m 3 11), (0, a)])) rfl).trans (z_R_ifd hK (c := m 3 11 ≤ a) (p1 := 16) (p2 := 12) rfl rfl rfl (fun h2 => (z_R_run hK (n := 1) (g' := (m, 17, [(2, 3), (0, a)], [(0, 0)])) rfl).trans (z_R_ret hK rfl rfl rfl)) (fun h2 => (z_R_run hK (n := 2) (g' := (m, 17, [(2, 3), (0, a)], [(0, 1)])) rfl).trans (z_R_ret hK rfl rfl rfl)))))
theorem t_told_0  (m : z_M) (a : Int) : z_R 200 (m, 0, [(0, a)], []) = if a = (-1) then some (m, some (0, 9)) else some (m, some (0, a)) :=
  have hK : kt_at 200 = kt_200 := rfl
  (z_R_run hK (n := 2) (g' := (m, 2, [(0, a)], [(0, (-1)), (0, a)])) rfl).trans (z_R_ifnd hK (c := a = (-1)) (p1 := 10) (p2 := 5) rfl rfl rfl (fun h1 => (z_R_run hK (n := 1) (g' := (m, 11, [(0, a)], [(0, a)])) rfl).trans (z_R_ret hK rfl rfl rfl)) (fun h1 => (z_R_run hK (n := 2) (g' := (m, 11, [(0, a)], [(0, 9)])) rfl).trans (z_R_ret hK rfl rfl rfl)))
theorem t_isp_0  (m : z_M) (a : Int) (h_n : 0 ≤ m 251 3 ∧ m 251 3 ≤ 5) : z_R 191 (m, 0, [(2, 251), (0, a)], []) = (z_R 162 (m, 0, [(0, a), (0, 0), (0, m 251 3 - 1)], [])).bind fun qq => z_R 191 (qq.1, 11, [(2, 251), (0, a)], qq.2.toList ++ []) :=
  have hK : kt_at 191 = kt_191 := rfl
  (z_R_run hK (n := 6) (g' := (m, 8, [(2, 251), (0, a)], [(0, z_sub (m 251 3) 1), (0, 0), (0, a)])) rfl).trans ((congrArg (fun vv => z_R 191 (m, 8, [(2, 251), (0, a)], [(0, vv), (0, 0), (0, a)])) (z_sub_eq (by omega) (by omega))).trans (z_R_call hK rfl rfl rfl rfl rfl))
theorem t_isp_11  (m : z_M) (x1 : Int) (u : Int) : z_R 191 (m, 11, [(2, 251), (0, x1)], [(0, u)]) = some (m, some (0, u)) :=
  have hK : kt_at 191 = kt_191 := rfl
  z_R_ret hK rfl rfl rfl
