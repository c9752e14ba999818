section
/-! STRETCHES of standing, gives, coldest, with bounds done -/
theorem p_flo_0  (m : z_M) : z_R 92 (m, 0, [(2, 3), (2, 18), (9, 0), (9, 0)], []) = z_R 92 (m, 4, [(2, 3), (2, 18), (0, 0), (0, 0)], []) :=
  have hK : kt_at 92 = kt_92 := rfl
  (z_R_run hK (n := 4) (g' := (m, 4, [(2, 3), (2, 18), (0, 0), (0, 0)], [])) rfl).trans (rfl)
theorem p_flo_4  (m : z_M) (x2 : Int) (x3 : Int) : z_R 92 (m, 4, [(2, 3), (2, 18), (0, x2), (0, x3)], []) = if 9 ≤ x3 then some (m, some (0, x2)) else if ¬ u_hs (m 3 8) (m 3 9) x3 = 0 then if m 19 (x3).toNat ≤ 0 then z_R 92 (m, 4, [(2, 3), (2, 18), (0, x2), (0, x3 + 1)], []) else z_R 92 (m, 4, [(2, 3), (2, 18), (0, z_or x2 (z_shl 1 x3)), (0, x3 + 1)], []) else z_R 92 (m, 4, [(2, 3), (2, 18), (0, x2), (0, z_add x3 1)], []) :=
  have hK : kt_at 92 = kt_92 := rfl
  (z_R_run hK (n := 2) (g' := (m, 7, [(2, 3), (2, 18), (0, x2), (0, x3)], [(0, 9), (0, x3)])) rfl).trans (z_R_ifd hK (c := 9 ≤ x3) (p1 := 39) (p2 := 10) rfl rfl rfl (fun h1 => (z_R_run hK (n := 1) (g' := (m, 40, [(2, 3), (2, 18), (0, x2), (0, x3)], [(0, x2)])) rfl).trans (z_R_ret hK rfl rfl rfl)) (fun h1 => (z_R_run hK (n := 2) (g' := (m, 12, [(2, 3), (2, 18), (0, x2), (0, x3)], [(0, x3), (2, 3)])) rfl).trans (z_R_cif hK rfl rfl rfl rfl rfl (c_ifhas _ _ rfl rfl) (fun h2 => have h4 := u_hs_rng h2; (z_R_run hK (n := 3) (g' := (m, 22, [(2, 3), (2, 18), (0, x2), (0, x3)], [(2, 19)])) rfl).trans ((z_R_run hK (n := 1) (g' := (m, 23, [(2, 3), (2, 18), (0, x2), (0, x3)], [(0, x3), (2, 19)])) rfl).trans (z_R_ixT hK (n := 9) (g' := (m, 24, [(2, 3), (2, 18), (0, x2), (0, x3)], [(0, m 19 (x3).toNat)])) rfl rfl rfl  (show 0 ≤ x3 ∧ x3 < 9 by omega) (z_R_ifd hK (c := m 19 (x3).toNat ≤ 0) (p1 := 33) (p2 := 27) rfl rfl rfl (fun h3 => (z_R_run hK (n := 1) (g' := (m, 36, [(2, 3), (2, 18), (0, x2), (0, z_add x3 1)], [])) rfl).trans ((congrArg (fun vv => z_R 92 (m, 36, [(2, 3), (2, 18), (0, x2), (0, vv)], [])) (z_add_eq (by omega) (by omega))).trans ((z_R_run hK (n := 1) (g' := (m, 4, [(2, 3), (2, 18), (0, x2), (0, x3 + 1)], [])) rfl).trans (rfl)))) (fun h3 => (z_R_run hK (n := 7) (g' := (m, 36, [(2, 3), (2, 18), (0, z_or x2 (z_shl 1 x3)), (0, z_add x3 1)], [])) rfl).trans ((congrArg (fun vv => z_R 92 (m, 36, [(2, 3), (2, 18), (0, z_or x2 (z_shl 1 x3)), (0, vv)], [])) (z_add_eq (by omega) (by omega))).trans ((z_R_run hK (n := 1) (g' := (m, 4, [(2, 3), (2, 18), (0, z_or x2 (z_shl 1 x3)), (0, x3 + 1)], [])) rfl).trans (rfl)))))))) (fun h2 => (z_R_run hK (n := 3) (g' := (m, 4, [(2, 3), (2, 18), (0, x2), (0, z_add x3 1)], [])) rfl).trans (rfl)))))
theorem p_st2_0  (m : z_M) (n : Int) : z_R 96 (m, 0, [(2, 24), (2, 18), (0, n)], []) = (z_R 97 (m, 0, [(2, 24), (2, 18), (0, n), (0, m 3 10), (9, 0), (9, 0)], [])).bind fun qq => z_R 96 (qq.1, 13, [(2, 24), (2, 18), (0, n)], qq.2.toList ++ []) :=
  have hK : kt_at 96 = kt_96 := rfl
  (z_R_run hK (n := 5) (g' := (m, 7, [(2, 24), (2, 18), (0, n)], [(2, 3), (0, n), (2, 18), (2, 24)])) rfl).trans ((z_R_run hK (n := 1) (g' := (m, 10, [(2, 24), (2, 18), (0, n)], [(0, m 3 10), (0, n), (2, 18), (2, 24)])) rfl).trans (z_R_call hK rfl rfl rfl rfl rfl))
theorem p_st2_13  (m : z_M) (x2 : Int) (u : Int) : z_R 96 (m, 13, [(2, 24), (2, 18), (0, x2)], [(0, u)]) = some (m, some (0, u)) :=
  have hK : kt_at 96 = kt_96 := rfl
  z_R_ret hK rfl rfl rfl
theorem p_st3_0  (m : z_M) (n : Int) (b : Int) : z_R 97 (m, 0, [(2, 24), (2, 18), (0, n), (0, b), (9, 0), (9, 0)], []) = (z_R 92 (m, 0, [(2, 3), (2, 18), (9, 0), (9, 0)], [])).bind fun qq => z_R 97 (qq.1, 8, [(2, 24), (2, 18), (0, n), (0, b), (9, 0), (9, 0)], qq.2.toList ++ []) :=
  have hK : kt_at 97 = kt_97 := rfl
  (z_R_run hK (n := 2) (g' := (m, 4, [(2, 24), (2, 18), (0, n), (0, b), (9, 0), (9, 0)], [(2, 3)])) rfl).trans ((z_R_run hK (n := 1) (g' := (m, 5, [(2, 24), (2, 18), (0, n), (0, b), (9, 0), (9, 0)], [(2, 18), (2, 3)])) rfl).trans (z_R_call hK rfl rfl rfl rfl rfl))
theorem p_st3_8  (m : z_M) (x2 : Int) (x3 : Int) (u : Int) : z_R 97 (m, 8, [(2, 24), (2, 18), (0, x2), (0, x3), (9, 0), (9, 0)], [(0, u)]) = z_R 97 (m, 15, [(2, 24), (2, 18), (0, x2), (0, x3), (0, z_and u x3), (0, 0)], []) :=
  have hK : kt_at 97 = kt_97 := rfl
  (z_R_run hK (n := 5) (g' := (m, 15, [(2, 24), (2, 18), (0, x2), (0, x3), (0, z_and u x3), (0, 0)], [])) rfl).trans (rfl)
theorem p_st3_15  (m : z_M) (x2 : Int) (x3 : Int) (x4 : Int) (x5 : Int) : z_R 97 (m, 15, [(2, 24), (2, 18), (0, x2), (0, x3), (0, x4), (0, x5)], []) = if x2 ≤ x5 then some (m, some (0, x2)) else (z_R 68 (m, 0, [(2, 24), (2, 18), (0, x3), (9, 0), (9, 0), (9, 0)], [])).bind fun qq => z_R 97 (qq.1, 27, [(2, 24), (2, 18), (0, x2), (0, x3), (0, x4), (0, x5)], qq.2.toList ++ []) :=
  have hK : kt_at 97 = kt_97 := rfl
  (z_R_run hK (n := 2) (g' := (m, 18, [(2, 24), (2, 18), (0, x2), (0, x3), (0, x4), (0, x5)], [(0, x2), (0, x5)])) rfl).trans (z_R_ifd hK (c := x2 ≤ x5) (p1 := 46) (p2 := 21) rfl rfl rfl (fun h1 => (z_R_run hK (n := 1) (g' := (m, 47, [(2, 24), (2, 18), (0, x2), (0, x3), (0, x4), (0, x5)], [(0, x2)])) rfl).trans (z_R_ret hK rfl rfl rfl)) (fun h1 => (z_R_run hK (n := 3) (g' := (m, 24, [(2, 24), (2, 18), (0, x2), (0, x3), (0, x4), (0, x5)], [(0, x3), (2, 18), (2, 24)])) rfl).trans (z_R_call hK rfl rfl rfl rfl rfl)))
theorem p_st3_27  (m : z_M) (x2 : Int) (x3 : Int) (x4 : Int) (x5 : Int) : z_R 97 (m, 27, [(2, 24), (2, 18), (0, x2), (0, x3), (0, x4), (0, x5)], []) = if z_and (m 24 10) x4 = 0 then z_R 97 (m, 15, [(2, 24), (2, 18), (0, x2), (0, x3), (0, x4), (0, z_add x5 1)], []) else some (m, some (0, x5)) :=
  have hK : kt_at 97 = kt_97 := rfl
  (z_R_run hK (n := 4) (g' := (m, 34, [(2, 24), (2, 18), (0, x2), (0, x3), (0, x4), (0, x5)], [(0, z_and (m 24 10) x4)])) rfl).trans (z_R_ifd hK (c := z_and (m 24 10) x4 = 0) (p1 := 40) (p2 := 37) rfl rfl rfl (fun h1 => (z_R_run hK (n := 2) (g' := (m, 15, [(2, 24), (2, 18), (0, x2), (0, x3), (0, x4), (0, z_add x5 1)], [])) rfl).trans (rfl)) (fun h1 => (z_R_run hK (n := 1) (g' := (m, 39, [(2, 24), (2, 18), (0, x2), (0, x3), (0, x4), (0, x5)], [(0, x5)])) rfl).trans (z_R_ret hK rfl rfl rfl)))
theorem p_col_0  (m : z_M) (n : Int) : z_R 95 (m, 0, [(2, 0), (0, n), (9, 0)], []) = if n < 1 then some (m, some (0, (-1))) else if n ≤ 100 then z_R 95 (m, 15, [(2, 0), (0, n), (0, 0)], []) else some (m, some (0, (-1))) :=
  have hK : kt_at 95 = kt_95 := rfl
  (z_R_run hK (n := 2) (g' := (m, 2, [(2, 0), (0, n), (9, 0)], [(0, 1), (0, n)])) rfl).trans (z_R_ifd hK (c := n < 1) (p1 := 11) (p2 := 5) rfl rfl rfl (fun h1 => (z_R_run hK (n := 1) (g' := (m, 12, [(2, 0), (0, n), (9, 0)], [(0, (-1))])) rfl).trans (z_R_ret hK rfl rfl rfl)) (fun h1 => (z_R_run hK (n := 2) (g' := (m, 8, [(2, 0), (0, n), (9, 0)], [(0, 100), (0, n)])) rfl).trans (z_R_ifd hK (c := n ≤ 100) (p1 := 13) (p2 := 11) rfl rfl rfl (fun h2 => (z_R_run hK (n := 2) (g' := (m, 15, [(2, 0), (0, n), (0, 0)], [])) rfl).trans (rfl)) (fun h2 => (z_R_run hK (n := 1) (g' := (m, 12, [(2, 0), (0, n), (9, 0)], [(0, (-1))])) rfl).trans (z_R_ret hK rfl rfl rfl)))))
theorem p_col_15  (m : z_M) (x1 : Int) (x2 : Int) : z_R 95 (m, 15, [(2, 0), (0, x1), (0, x2)], []) = if 9 < x2 then some (m, some (0, (-2))) else (z_R 61 (m, 0, [(2, 18), (2, 12)], [])).bind fun qq => z_R 95 (qq.1, 32, [(2, 0), (0, x1), (0, x2)], qq.2.toList ++ []) :=
  have hK : kt_at 95 = kt_95 := rfl
  (z_R_run hK (n := 2) (g' := (m, 18, [(2, 0), (0, x1), (0, x2)], [(0, 9), (0, x2)])) rfl).trans (z_R_ifd hK (c := 9 < x2) (p1 := 64) (p2 := 21) rfl rfl rfl (fun h1 => (z_R_run hK (n := 1) (g' := (m, 66, [(2, 0), (0, x1), (0, x2)], [(0, (-2))])) rfl).trans (z_R_ret hK rfl rfl rfl)) (fun h1 => (z_R_run hK (n := 2) (g' := (m, 25, [(2, 0), (0, x1), (0, x2)], [(2, 18)])) rfl).trans ((z_R_run hK (n := 2) (g' := (m, 29, [(2, 0), (0, x1), (0, x2)], [(2, 12), (2, 18)])) rfl).trans (z_R_call hK rfl rfl rfl rfl rfl))))
theorem p_col_32  (m : z_M) (x1 : Int) (x2 : Int) : z_R 95 (m, 32, [(2, 0), (0, x1), (0, x2)], []) = (z_R 96 (z_up m 18 8 x2, 0, [(2, 24), (2, 18), (0, x1)], [])).bind fun qq => z_R 95 (qq.1, 52, [(2, 0), (0, x1), (0, x2)], qq.2.toList ++ []) :=
  have hK : kt_at 95 = kt_95 := rfl
  (z_R_run hK (n := 2) (g' := (m, 36, [(2, 0), (0, x1), (0, x2)], [(2, 18)])) rfl).trans ((z_R_run hK (n := 4) (g' := (z_up m 18 8 x2, 44, [(2, 0), (0, x1), (0, x2)], [(2, 24)])) rfl).trans ((z_R_run hK (n := 2) (g' := (z_up m 18 8 x2, 48, [(2, 0), (0, x1), (0, x2)], [(2, 18), (2, 24)])) rfl).trans ((z_R_run hK (n := 1) (g' := (z_up m 18 8 x2, 49, [(2, 0), (0, x1), (0, x2)], [(0, x1), (2, 18), (2, 24)])) rfl).trans (z_R_call hK rfl rfl rfl rfl rfl))))
theorem p_col_52  (m : z_M) (x1 : Int) (x2 : Int) (u : Int) : z_R 95 (m, 52, [(2, 0), (0, x1), (0, x2)], [(0, u)]) = if u = x1 then some (m, some (0, x2)) else z_R 95 (m, 15, [(2, 0), (0, x1), (0, z_add x2 1)], []) :=
  have hK : kt_at 95 = kt_95 := rfl
  (z_R_run hK (n := 1) (g' := (m, 53, [(2, 0), (0, x1), (0, x2)], [(0, x1), (0, u)])) rfl).trans (z_R_ifnd hK (c := u = x1) (p1 := 58) (p2 := 56) rfl rfl rfl (fun h1 => (z_R_run hK (n := 2) (g' := (m, 15, [(2, 0), (0, x1), (0, z_add x2 1)], [])) rfl).trans (rfl)) (fun h1 => (z_R_run hK (n := 1) (g' := (m, 57, [(2, 0), (0, x1), (0, x2)], [(0, x2)])) rfl).trans (z_R_ret hK rfl rfl rfl)))
theorem p_giv_0  (m : z_M) : z_R 91 (m, 0, [(2, 0), (9, 0), (9, 0), (9, 0)], []) = (z_R 61 (m, 0, [(2, 18), (2, 12)], [])).bind fun qq => z_R 91 (qq.1, 11, [(2, 0), (9, 0), (9, 0), (9, 0)], qq.2.toList ++ []) :=
  have hK : kt_at 91 = kt_91 := rfl
  (z_R_run hK (n := 2) (g' := (m, 4, [(2, 0), (9, 0), (9, 0), (9, 0)], [(2, 18)])) rfl).trans ((z_R_run hK (n := 2) (g' := (m, 8, [(2, 0), (9, 0), (9, 0), (9, 0)], [(2, 12), (2, 18)])) rfl).trans (z_R_call hK rfl rfl rfl rfl rfl))
theorem p_giv_11  (m : z_M) : z_R 91 (m, 11, [(2, 0), (9, 0), (9, 0), (9, 0)], []) = (z_R 92 (m, 0, [(2, 3), (2, 18), (9, 0), (9, 0)], [])).bind fun qq => z_R 91 (qq.1, 22, [(2, 0), (9, 0), (9, 0), (9, 0)], qq.2.toList ++ []) :=
  have hK : kt_at 91 = kt_91 := rfl
  (z_R_run hK (n := 2) (g' := (m, 15, [(2, 0), (9, 0), (9, 0), (9, 0)], [(2, 3)])) rfl).trans ((z_R_run hK (n := 2) (g' := (m, 19, [(2, 0), (9, 0), (9, 0), (9, 0)], [(2, 18), (2, 3)])) rfl).trans (z_R_call hK rfl rfl rfl rfl rfl))
theorem p_giv_22  (m : z_M) (u : Int) : z_R 91 (m, 22, [(2, 0), (9, 0), (9, 0), (9, 0)], [(0, u)]) = z_R 91 (m, 25, [(2, 0), (0, u), (0, 1), (9, 0)], []) :=
  have hK : kt_at 91 = kt_91 := rfl
  (z_R_run hK (n := 3) (g' := (m, 25, [(2, 0), (0, u), (0, 1), (9, 0)], [])) rfl).trans (rfl)
theorem p_giv_25  (m : z_M) (x1 : Int) (x2 : Int) (v3 : z_V) : z_R 91 (m, 25, [(2, 0), (0, x1), (0, x2), v3], []) = if 100 < x2 then some (m, some (0, (-2))) else (z_R 67 (m, 0, [(2, 24), (2, 18), (0, 1), (9, 0)], [])).bind fun qq => z_R 91 (qq.1, 43, [(2, 0), (0, x1), (0, x2), v3], qq.2.toList ++ []) :=
  have hK : kt_at 91 = kt_91 := rfl
  (z_R_run hK (n := 2) (g' := (m, 28, [(2, 0), (0, x1), (0, x2), v3], [(0, 100), (0, x2)])) rfl).trans (z_R_ifd hK (c := 100 < x2) (p1 := 82) (p2 := 31) rfl rfl rfl (fun h1 => (z_R_run hK (n := 1) (g' := (m, 84, [(2, 0), (0, x1), (0, x2), v3], [(0, (-2))])) rfl).trans (z_R_ret hK rfl rfl rfl)) (fun h1 => (z_R_run hK (n := 2) (g' := (m, 35, [(2, 0), (0, x1), (0, x2), v3], [(2, 24)])) rfl).trans ((z_R_run hK (n := 2) (g' := (m, 39, [(2, 0), (0, x1), (0, x2), v3], [(2, 18), (2, 24)])) rfl).trans ((z_R_run hK (n := 1) (g' := (m, 40, [(2, 0), (0, x1), (0, x2), v3], [(0, 1), (2, 18), (2, 24)])) rfl).trans (z_R_call hK rfl rfl rfl rfl rfl)))))
theorem p_giv_43  (m : z_M) (x1 : Int) (x2 : Int) (v3 : z_V) : z_R 91 (m, 43, [(2, 0), (0, x1), (0, x2), v3], []) = if z_and (m 24 10) x1 = 0 then z_R 91 (m, 25, [(2, 0), (0, x1), (0, z_add x2 1), (0, z_and (m 24 10) x1)], []) else (z_R 93 (m, 0, [(0, z_and (m 24 10) x1), (9, 0)], [])).bind fun qq => z_R 91 (qq.1, 62, [(2, 0), (0, x1), (0, x2), (0, z_and (m 24 10) x1)], qq.2.toList ++ [(2, 0)]) :=
  have hK : kt_at 91 = kt_91 := rfl
  (z_R_run hK (n := 2) (g' := (m, 47, [(2, 0), (0, x1), (0, x2), v3], [(2, 24)])) rfl).trans ((z_R_run hK (n := 5) (g' := (m, 54, [(2, 0), (0, x1), (0, x2), (0, z_and (m 24 10) x1)], [(0, z_and (m 24 10) x1)])) rfl).trans (z_R_ifd hK (c := z_and (m 24 10) x1 = 0) (p1 := 76) (p2 := 57) rfl rfl rfl (fun h1 => (z_R_run hK (n := 2) (g' := (m, 25, [(2, 0), (0, x1), (0, z_add x2 1), (0, z_and (m 24 10) x1)], [])) rfl).trans (rfl)) (fun h1 => (z_R_run hK (n := 2) (g' := (m, 59, [(2, 0), (0, x1), (0, x2), (0, z_and (m 24 10) x1)], [(0, z_and (m 24 10) x1), (2, 0)])) rfl).trans (z_R_call hK rfl rfl rfl rfl rfl))))
theorem p_giv_62  (m : z_M) (x1 : Int) (x2 : Int) (x3 : Int) (u : Int) : z_R 91 (m, 62, [(2, 0), (0, x1), (0, x2), (0, x3)], [(0, u), (2, 0)]) = (z_R 77 (m, 0, [(2, 0), (1, z_i2l u), (9, 0), (1, z_i2l (m 24 11)), (9, 0)], [])).bind fun qq => z_R 91 (qq.1, 74, [(2, 0), (0, x1), (0, x2), (0, x3)], qq.2.toList ++ []) :=
  have hK : kt_at 91 = kt_91 := rfl
  (z_R_run hK (n := 3) (g' := (m, 67, [(2, 0), (0, x1), (0, x2), (0, x3)], [(2, 24), (1, z_i2l u), (2, 0)])) rfl).trans ((z_R_run hK (n := 2) (g' := (m, 71, [(2, 0), (0, x1), (0, x2), (0, x3)], [(1, z_i2l (m 24 11)), (1, z_i2l u), (2, 0)])) rfl).trans (z_R_call hK rfl rfl rfl rfl rfl))
theorem p_giv_74  (m : z_M) (x1 : Int) (x2 : Int) (x3 : Int) : z_R 91 (m, 74, [(2, 0), (0, x1), (0, x2), (0, x3)], []) = some (m, some (0, x2)) :=
  have hK : kt_at 91 = kt_91 := rfl
  (z_R_run hK (n := 1) (g' := (m, 75, [(2, 0), (0, x1), (0, x2), (0, x3)], [(0, x2)])) rfl).trans (z_R_ret hK rfl rfl rfl)
theorem p_fst_0  (m : z_M) (b : Int) : z_R 93 (m, 0, [(0, b), (9, 0)], []) = z_R 93 (m, 2, [(0, b), (0, 0)], []) :=
  have hK : kt_at 93 = kt_93 := rfl
  (z_R_run hK (n := 2) (g' := (m, 2, [(0, b), (0, 0)], [])) rfl).trans (rfl)
theorem p_fst_2  (m : z_M) (x0 : Int) (x1 : Int) : z_R 93 (m, 2, [(0, x0), (0, x1)], []) = if 9 ≤ x1 then some (m, some (0, (-1))) else if z_and (z_shr x0 x1) 1 = 0 then z_R 93 (m, 2, [(0, x0), (0, z_add x1 1)], []) else some (m, some (0, x1)) :=
  have hK : kt_at 93 = kt_93 := rfl
  (z_R_run hK (n := 2) (g' := (m, 5, [(0, x0), (0, x1)], [(0, 9), (0, x1)])) rfl).trans (z_R_ifd hK (c := 9 ≤ x1) (p1 := 24) (p2 := 8) rfl rfl rfl (fun h1 => (z_R_run hK (n := 1) (g' := (m, 25, [(0, x0), (0, x1)], [(0, (-1))])) rfl).trans (z_R_ret hK rfl rfl rfl)) (fun h1 => (z_R_run hK (n := 5) (g' := (m, 13, [(0, x0), (0, x1)], [(0, z_and (z_shr x0 x1) 1)])) rfl).trans (z_R_ifd hK (c := z_and (z_shr x0 x1) 1 = 0) (p1 := 18) (p2 := 16) rfl rfl rfl (fun h2 => (z_R_run hK (n := 2) (g' := (m, 2, [(0, x0), (0, z_add x1 1)], [])) rfl).trans (rfl)) (fun h2 => (z_R_run hK (n := 1) (g' := (m, 17, [(0, x0), (0, x1)], [(0, x1)])) rfl).trans (z_R_ret hK rfl rfl rfl)))))
theorem p_ntz_0  (m : z_M) (a : Int) : z_R 224 (m, 0, [(0, a), (9, 0)], []) = if 0 < z_and (z_xor a (-1)) (z_sub a 1) then if z_and (z_xor a (-1)) (z_sub a 1) ≤ 65536 then if z_and (z_xor a (-1)) (z_sub a 1) ≤ 256 then if z_and (z_xor a (-1)) (z_sub a 1) ≤ 16 then if z_and (z_xor a (-1)) (z_sub a 1) ≤ 4 then some (m, some (0, z_add 1 (z_ush (z_and (z_xor a (-1)) (z_sub a 1)) 1))) else some (m, some (0, z_add 3 (z_ush (z_ush (z_and (z_xor a (-1)) (z_sub a 1)) 2) 1))) else if z_ush (z_and (z_xor a (-1)) (z_sub a 1)) 4 ≤ 4 then some (m, some (0, z_add 5 (z_ush (z_ush (z_and (z_xor a (-1)) (z_sub a 1)) 4) 1))) else some (m, some (0, z_add 7 (z_ush (z_ush (z_ush (z_and (z_xor a (-1)) (z_sub a 1)) 4) 2) 1))) else if z_ush (z_and (z_xor a (-1)) (z_sub a 1)) 8 ≤ 16 then if z_ush (z_and (z_xor a (-1)) (z_sub a 1)) 8 ≤ 4 then some (m, some (0, z_add 9 (z_ush (z_ush (z_and (z_xor a (-1)) (z_sub a 1)) 8) 1))) else some (m, some (0, z_add 11 (z_ush (z_ush (z_ush (z_and (z_xor a (-1)) (z_sub a 1)) 8) 2) 1))) else if z_ush (z_ush (z_and (z_xor a (-1)) (z_sub a 1)) 8) 4 ≤ 4 then some (m, some (0, z_add 13 (z_ush (z_ush (z_ush (z_and (z_xor a (-1)) (z_sub a 1)) 8) 4) 1))) else some (m, some (0, z_add 15 (z_ush (z_ush (z_ush (z_ush (z_and (z_xor a (-1)) (z_sub a 1)) 8) 4) 2) 1))) else if z_ush (z_and (z_xor a (-1)) (z_sub a 1)) 16 ≤ 256 then if z_ush (z_and (z_xor a (-1)) (z_sub a 1)) 16 ≤ 16 then if z_ush (z_and (z_xor a (-1)) (z_sub a 1)) 16 ≤ 4 then some (m, some (0, z_add 17 (z_ush (z_ush (z_and (z_xor a (-1)) (z_sub a 1)) 16) 1))) else some (m, some (0, z_add 19 (z_ush (z_ush (z_ush (z_and (z_xor a (-1)) (z_sub a 1)) 16) 2) 1))) else if z_ush (z_ush (z_and (z_xor a (-1)) (z_sub a 1)) 16) 4 ≤ 4 then some (m, some (0, z_add 21 (z_ush (z_ush (z_ush (z_and (z_xor a (-1)) (z_sub a 1)) 16) 4) 1))) else some (m, some (0, z_add 23 (z_ush (z_ush (z_ush (z_ush (z_and (z_xor a (-1)) (z_sub a 1)) 16) 4) 2) 1))) else if z_ush (z_ush (z_and (z_xor a (-1)) (z_sub a 1)) 16) 8 ≤ 16 then if z_ush (z_ush (z_and (z_xor a (-1)) (z_sub a 1)) 16) 8 ≤ 4 then some (m, some (0, z_add 25 (z_ush (z_ush (z_ush (z_and (z_xor a (-1)) (z_sub a 1)) 16) 8) 1))) else some (m, some (0, z_add 27 (z_ush (z_ush (z_ush (z_ush (z_and (z_xor a (-1)) (z_sub a 1)) 16) 8) 2) 1))) else if z_ush (z_ush (z_ush (z_and (z_xor a (-1)) (z_sub a 1)) 16) 8) 4 ≤ 4 then some (m, some (0, z_add 29 (z_ush (z_ush (z_ush (z_ush (z_and (z_xor a (-1)) (z_sub a 1)) 16) 8) 4) 1))) else some (m, some (0, z_add 31 (z_ush (z_ush (z_ush (z_ush (z_ush (z_and (z_xor a (-1)) (z_sub a 1)) 16) 8) 4) 2) 1))) else some (m, some (0, z_and (z_and (z_xor a (-1)) (z_sub a 1)) 32)) :=
  have hK : kt_at 224 = kt_224 := rfl
  (z_R_run hK (n := 9) (g' := (m, 9, [(0, z_and (z_xor a (-1)) (z_sub a 1)), (9, 0)], [(0, z_and (z_xor a (-1)) (z_sub a 1))])) rfl).trans (z_R_ifd hK (c := 0 < z_and (z_xor a (-1)) (z_sub a 1)) (p1 := 17) (p2 := 12) rfl rfl rfl (fun h1 => (z_R_run hK (n := 4) (g' := (m, 23, [(0, z_and (z_xor a (-1)) (z_sub a 1)), (0, 1)], [(0, 65536), (0, z_and (z_xor a (-1)) (z_sub a 1))])) rfl).trans (z_R_ifd hK (c := z_and (z_xor a (-1)) (z_sub a 1) ≤ 65536) (p1 := 34) (p2 := 26) rfl rfl rfl (fun h2 => (z_R_run hK (n := 2) (g' := (m, 38, [(0, z_and (z_xor a (-1)) (z_sub a 1)), (0, 1)], [(0, 256), (0, z_and (z_xor a (-1)) (z_sub a 1))])) rfl).trans (z_R_ifd hK (c := z_and (z_xor a (-1)) (z_sub a 1) ≤ 256) (p1 := 49) (p2 := 41) rfl rfl rfl (fun h3 => (z_R_run hK (n := 2) (g' := (m, 52, [(0, z_and (z_xor a (-1)) (z_sub a 1)), (0, 1)], [(0, 16), (0, z_and (z_xor a (-1)) (z_sub a 1))])) rfl).trans (z_R_ifd hK (c := z_and (z_xor a (-1)) (z_sub a 1) ≤ 16) (p1 := 62) (p2 := 55) rfl rfl rfl (fun h4 => (z_R_run hK (n := 2) (g' := (m, 64, [(0, z_and (z_xor a (-1)) (z_sub a 1)), (0, 1)], [(0, 4), (0, z_and (z_xor a (-1)) (z_sub a 1))])) rfl).trans (z_R_ifd hK (c := z_and (z_xor a (-1)) (z_sub a 1) ≤ 4) (p1 := 74) (p2 := 67) rfl rfl rfl (fun h5 => (z_R_run hK (n := 5) (g' := (m, 79, [(0, z_and (z_xor a (-1)) (z_sub a 1)), (0, 1)], [(0, z_add 1 (z_ush (z_and (z_xor a (-1)) (z_sub a 1)) 1))])) rfl).trans (z_R_ret hK rfl rfl rfl)) (fun h5 => (z_R_run hK (n := 10) (g' := (m, 79, [(0, z_ush (z_and (z_xor a (-1)) (z_sub a 1)) 2), (0, 3)], [(0, z_add 3 (z_ush (z_ush (z_and (z_xor a (-1)) (z_sub a 1)) 2) 1))])) rfl).trans (z_R_ret hK rfl rfl rfl)))) (fun h4 => (z_R_run hK (n := 7) (g' := (m, 64, [(0, z_ush (z_and (z_xor a (-1)) (z_sub a 1)) 4), (0, 5)], [(0, 4), (0, z_ush (z_and (z_xor a (-1)) (z_sub a 1)) 4)])) rfl).trans (z_R_ifd hK (c := z_ush (z_and (z_xor a (-1)) (z_sub a 1)) 4 ≤ 4) (p1 := 74) (p2 := 67) rfl rfl rfl (fun h6 => (z_R_run hK (n := 5) (g' := (m, 79, [(0, z_ush (z_and (z_xor a (-1)) (z_sub a 1)) 4), (0, 5)], [(0, z_add 5 (z_ush (z_ush (z_and (z_xor a (-1)) (z_sub a 1)) 4) 1))])) rfl).trans (z_R_ret hK rfl rfl rfl)) (fun h6 => (z_R_run hK (n := 10) (g' := (m, 79, [(0, z_ush (z_ush (z_and (z_xor a (-1)) (z_sub a 1)) 4) 2), (0, 7)], [(0, z_add 7 (z_ush (z_ush (z_ush (z_and (z_xor a (-1)) (z_sub a 1)) 4) 2) 1))])) rfl).trans (z_R_ret hK rfl rfl rfl)))))) (fun h3 => (z_R_run hK (n := 7) (g' := (m, 52, [(0, z_ush (z_and (z_xor a (-1)) (z_sub a 1)) 8), (0, 9)], [(0, 16), (0, z_ush (z_and (z_xor a (-1)) (z_sub a 1)) 8)])) rfl).trans (z_R_ifd hK (c := z_ush (z_and (z_xor a (-1)) (z_sub a 1)) 8 ≤ 16) (p1 := 62) (p2 := 55) rfl rfl rfl (fun h7 => (z_R_run hK (n := 2) (g' := (m, 64, [(0, z_ush (z_and (z_xor a (-1)) (z_sub a 1)) 8), (0, 9)], [(0, 4), (0, z_ush (z_and (z_xor a (-1)) (z_sub a 1)) 8)])) rfl).trans (z_R_ifd hK (c := z_ush (z_and (z_xor a (-1)) (z_sub a 1)) 8 ≤ 4) (p1 := 74) (p2 := 67) rfl rfl rfl (fun h8 => (z_R_run hK (n := 5) (g' := (m, 79, [(0, z_ush (z_and (z_xor a (-1)) (z_sub a 1)) 8), (0, 9)], [(0, z_add 9 (z_ush (z_ush (z_and (z_xor a (-1)) (z_sub a 1)) 8) 1))])) rfl).trans (z_R_ret hK rfl rfl rfl)) (fun h8 => (z_R_run hK (n := 10) (g' := (m, 79, [(0, z_ush (z_ush (z_and (z_xor a (-1)) (z_sub a 1)) 8) 2), (0, 11)], [(0, z_add 11 (z_ush (z_ush (z_ush (z_and (z_xor a (-1)) (z_sub a 1)) 8) 2) 1))])) rfl).trans (z_R_ret hK rfl rfl rfl)))) (fun h7 => (z_R_run hK (n := 7) (g' := (m, 64, [(0, z_ush (z_ush (z_and (z_xor a (-1)) (z_sub a 1)) 8) 4), (0, 13)], [(0, 4), (0, z_ush (z_ush (z_and (z_xor a (-1)) (z_sub a 1)) 8) 4)])) rfl).trans (z_R_ifd hK (c := z_ush (z_ush (z_and (z_xor a (-1)) (z_sub a 1)) 8) 4 ≤ 4) (p1 := 74) (p2 := 67) rfl rfl rfl (fun h9 => (z_R_run hK (n := 5) (g' := (m, 79, [(0, z_ush (z_ush (z_and (z_xor a (-1)) (z_sub a 1)) 8) 4), (0, 13)], [(0, z_add 13 (z_ush (z_ush (z_ush (z_and (z_xor a (-1)) (z_sub a 1)) 8) 4) 1))])) rfl).trans (z_R_ret hK rfl rfl rfl)) (fun h9 => (z_R_run hK (n := 10) (g' := (m, 79, [(0, z_ush (z_ush (z_ush (z_and (z_xor a (-1)) (z_sub a 1)) 8) 4) 2), (0, 15)], [(0, z_add 15 (z_ush (z_ush (z_ush (z_ush (z_and (z_xor a (-1)) (z_sub a 1)) 8) 4) 2) 1))])) rfl).trans (z_R_ret hK rfl rfl rfl)))))))) (fun h2 => (z_R_run hK (n := 7) (g' := (m, 38, [(0, z_ush (z_and (z_xor a (-1)) (z_sub a 1)) 16), (0, 17)], [(0, 256), (0, z_ush (z_and (z_xor a (-1)) (z_sub a 1)) 16)])) rfl).trans (z_R_ifd hK (c := z_ush (z_and (z_xor a (-1)) (z_sub a 1)) 16 ≤ 256) (p1 := 49) (p2 := 41) rfl rfl rfl (fun h10 => (z_R_run hK (n := 2) (g' := (m, 52, [(0, z_ush (z_and (z_xor a (-1)) (z_sub a 1)) 16), (0, 17)], [(0, 16), (0, z_ush (z_and (z_xor a (-1)) (z_sub a 1)) 16)])) rfl).trans (z_R_ifd hK (c := z_ush (z_and (z_xor a (-1)) (z_sub a 1)) 16 ≤ 16) (p1 := 62) (p2 := 55) rfl rfl rfl (fun h11 => (z_R_run hK (n := 2) (g' := (m, 64, [(0, z_ush (z_and (z_xor a (-1)) (z_sub a 1)) 16), (0, 17)], [(0, 4), (0, z_ush (z_and (z_xor a (-1)) (z_sub a 1)) 16)])) rfl).trans (z_R_ifd hK (c := z_ush (z_and (z_xor a (-1)) (z_sub a 1)) 16 ≤ 4) (p1 := 74) (p2 := 67) rfl rfl rfl (fun h12 => (z_R_run hK (n := 5) (g' := (m, 79, [(0, z_ush (z_and (z_xor a (-1)) (z_sub a 1)) 16), (0, 17)], [(0, z_add 17 (z_ush (z_ush (z_and (z_xor a (-1)) (z_sub a 1)) 16) 1))])) rfl).trans (z_R_ret hK rfl rfl rfl)) (fun h12 => (z_R_run hK (n := 10) (g' := (m, 79, [(0, z_ush (z_ush (z_and (z_xor a (-1)) (z_sub a 1)) 16) 2), (0, 19)], [(0, z_add 19 (z_ush (z_ush (z_ush (z_and (z_xor a (-1)) (z_sub a 1)) 16) 2) 1))])) rfl).trans (z_R_ret hK rfl rfl rfl)))) (fun h11 => (z_R_run hK (n := 7) (g' := (m, 64, [(0, z_ush (z_ush (z_and (z_xor a (-1)) (z_sub a 1)) 16) 4), (0, 21)], [(0, 4), (0, z_ush (z_ush (z_and (z_xor a (-1)) (z_sub a 1)) 16) 4)])) rfl).trans (z_R_ifd hK (c := z_ush (z_ush (z_and (z_xor a (-1)) (z_sub a 1)) 16) 4 ≤ 4) (p1 := 74) (p2 := 67) rfl rfl rfl (fun h13 => (z_R_run hK (n := 5) (g' := (m, 79, [(0, z_ush (z_ush (z_and (z_xor a (-1)) (z_sub a 1)) 16) 4), (0, 21)], [(0, z_add 21 (z_ush (z_ush (z_ush (z_and (z_xor a (-1)) (z_sub a 1)) 16) 4) 1))])) rfl).trans (z_R_ret hK rfl rfl rfl)) (fun h13 => (z_R_run hK (n := 10) (g' := (m, 79, [(0, z_ush (z_ush (z_ush (z_and (z_xor a (-1)) (z_sub a 1)) 16) 4) 2), (0, 23)], [(0, z_add 23 (z_ush (z_ush (z_ush (z_ush (z_and (z_xor a (-1)) (z_sub a 1)) 16) 4) 2) 1))])) rfl).trans (z_R_ret hK rfl rfl rfl)))))) (fun h10 => (z_R_run hK (n := 7) (g' := (m, 52, [(0, z_ush (z_ush (z_and (z_xor a (-1)) (z_sub a 1)) 16) 8), (0, 25)], [(0, 16), (0, z_ush (z_ush (z_and (z_xor a (-1)) (z_sub a 1)) 16) 8)])) rfl).trans (z_R_ifd hK (c := z_ush (z_ush (z_and (z_xor a (-1)) (z_sub a 1)) 16) 8 ≤ 16) (p1 := 62) (p2 := 55) rfl rfl rfl (fun h14 => (z_R_run hK (n := 2) (g' := (m, 64, [(0, z_ush (z_ush (z_and (z_xor a (-1)) (z_sub a 1)) 16) 8), (0, 25)], [(0, 4), (0, z_ush (z_ush (z_and (z_xor a (-1)) (z_sub a 1)) 16) 8)])) rfl).trans (z_R_ifd hK (c := z_ush (z_ush (z_and (z_xor a (-1)) (z_sub a 1)) 16) 8 ≤ 4) (p1 := 74) (p2 := 67) rfl rfl rfl (fun h15 => (z_R_run hK (n := 5) (g' := (m, 79, [(0, z_ush (z_ush (z_and (z_xor a (-1)) (z_sub a 1)) 16) 8), (0, 25)], [(0, z_add 25 (z_ush (z_ush (z_ush (z_and (z_xor a (-1)) (z_sub a 1)) 16) 8) 1))])) rfl).trans (z_R_ret hK rfl rfl rfl)) (fun h15 => (z_R_run hK (n := 10) (g' := (m, 79, [(0, z_ush (z_ush (z_ush (z_and (z_xor a (-1)) (z_sub a 1)) 16) 8) 2), (0, 27)], [(0, z_add 27 (z_ush (z_ush (z_ush (z_ush (z_and (z_xor a (-1)) (z_sub a 1)) 16) 8) 2) 1))])) rfl).trans (z_R_ret hK rfl rfl rfl)))) (fun h14 => (z_R_run hK (n := 7) (g' := (m, 64, [(0, z_ush (z_ush (z_ush (z_and (z_xor a (-1)) (z_sub a 1)) 16) 8) 4), (0, 29)], [(0, 4), (0, z_ush (z_ush (z_ush (z_and (z_xor a (-1)) (z_sub a 1)) 16) 8) 4)])) rfl).trans (z_R_ifd hK (c := z_ush (z_ush (z_ush (z_and (z_xor a (-1)) (z_sub a 1)) 16) 8) 4 ≤ 4) (p1 := 74) (p2 := 67) rfl rfl rfl (fun h16 => (z_R_run hK (n := 5) (g' := (m, 79, [(0, z_ush (z_ush (z_ush (z_and (z_xor a (-1)) (z_sub a 1)) 16) 8) 4), (0, 29)], [(0, z_add 29 (z_ush (z_ush (z_ush (z_ush (z_and (z_xor a (-1)) (z_sub a 1)) 16) 8) 4) 1))])) rfl).trans (z_R_ret hK rfl rfl rfl)) (fun h16 => (z_R_run hK (n := 10) (g' := (m, 79, [(0, z_ush (z_ush (z_ush (z_ush (z_and (z_xor a (-1)) (z_sub a 1)) 16) 8) 4) 2), (0, 31)], [(0, z_add 31 (z_ush (z_ush (z_ush (z_ush (z_ush (z_and (z_xor a (-1)) (z_sub a 1)) 16) 8) 4) 2) 1))])) rfl).trans (z_R_ret hK rfl rfl rfl)))))))))) (fun h1 => (z_R_run hK (n := 3) (g' := (m, 16, [(0, z_and (z_xor a (-1)) (z_sub a 1)), (9, 0)], [(0, z_and (z_and (z_xor a (-1)) (z_sub a 1)) 32)])) rfl).trans (z_R_ret hK rfl rfl rfl)))
theorem p_tco_0  (m : z_M) (n : Int) : z_R 226 (m, 0, [(2, 251), (0, n), (9, 0)], []) = if 1 ≤ n ∧ n ≤ 100 then z_R 226 (z_up m 251 11 0, 19, [(2, 251), (0, n), (0, 0)], []) else some (z_up m 251 11 0, some (0, (-1))) :=
  have hK : kt_at 226 = kt_226 := rfl
  (z_R_run hK (n := 6) (g' := (z_up m 251 11 0, 9, [(2, 251), (0, n), (9, 0)], [(0, 100), (0, 1), (0, n)])) rfl).trans (z_R_cif hK rfl rfl rfl rfl rfl (t_ifin _ _ _ _) (fun h1 => (z_R_run hK (n := 3) (g' := (z_up m 251 11 0, 19, [(2, 251), (0, n), (0, 0)], [])) rfl).trans (rfl)) (fun h1 => (z_R_run hK (n := 2) (g' := (z_up m 251 11 0, 16, [(2, 251), (0, n), (9, 0)], [(0, (-1))])) rfl).trans (z_R_ret hK rfl rfl rfl)))
theorem p_tco_19  (m : z_M) (x1 : Int) (x2 : Int) : z_R 226 (m, 19, [(2, 251), (0, x1), (0, x2)], []) = if 9 < x2 then some (m, some (0, (-2))) else (z_R 219 (m, 0, [(2, 251)], [])).bind fun qq => z_R 226 (qq.1, 29, [(2, 251), (0, x1), (0, x2)], qq.2.toList ++ []) :=
  have hK : kt_at 226 = kt_226 := rfl
  (z_R_run hK (n := 2) (g' := (m, 22, [(2, 251), (0, x1), (0, x2)], [(0, 9), (0, x2)])) rfl).trans (z_R_ifd hK (c := 9 < x2) (p1 := 54) (p2 := 25) rfl rfl rfl (fun h1 => (z_R_run hK (n := 1) (g' := (m, 56, [(2, 251), (0, x1), (0, x2)], [(0, (-2))])) rfl).trans (z_R_ret hK rfl rfl rfl)) (fun h1 => (z_R_run hK (n := 1) (g' := (m, 26, [(2, 251), (0, x1), (0, x2)], [(2, 251)])) rfl).trans (z_R_call hK rfl rfl rfl rfl rfl)))
theorem p_tco_29  (m : z_M) (x1 : Int) (x2 : Int) : z_R 226 (m, 29, [(2, 251), (0, x1), (0, x2)], []) = (z_R 221 (z_up m 264 36 x2, 0, [(2, 251), (0, x1), (9, 0), (9, 0)], [])).bind fun qq => z_R 226 (qq.1, 42, [(2, 251), (0, x1), (0, x2)], qq.2.toList ++ []) :=
  have hK : kt_at 226 = kt_226 := rfl
  (z_R_run hK (n := 2) (g' := (m, 33, [(2, 251), (0, x1), (0, x2)], [(2, 264)])) rfl).trans ((z_R_run hK (n := 5) (g' := (z_up m 264 36 x2, 39, [(2, 251), (0, x1), (0, x2)], [(0, x1), (2, 251)])) rfl).trans (z_R_call hK rfl rfl rfl rfl rfl))
theorem p_tco_42  (m : z_M) (x1 : Int) (x2 : Int) (u : Int) : z_R 226 (m, 42, [(2, 251), (0, x1), (0, x2)], [(0, u)]) = if u = x1 then some (m, some (0, x2)) else z_R 226 (m, 19, [(2, 251), (0, x1), (0, z_add x2 1)], []) :=
  have hK : kt_at 226 = kt_226 := rfl
  (z_R_run hK (n := 1) (g' := (m, 43, [(2, 251), (0, x1), (0, x2)], [(0, x1), (0, u)])) rfl).trans (z_R_ifnd hK (c := u = x1) (p1 := 48) (p2 := 46) rfl rfl rfl (fun h1 => (z_R_run hK (n := 2) (g' := (m, 19, [(2, 251), (0, x1), (0, z_add x2 1)], [])) rfl).trans (rfl)) (fun h1 => (z_R_run hK (n := 1) (g' := (m, 47, [(2, 251), (0, x1), (0, x2)], [(0, x2)])) rfl).trans (z_R_ret hK rfl rfl rfl)))
theorem p_tgi_0  (m : z_M) : z_R 220 (m, 0, [(2, 251), (9, 0)], []) = (z_R 219 (z_up m 251 11 0, 0, [(2, 251)], [])).bind fun qq => z_R 220 (qq.1, 9, [(2, 251), (9, 0)], qq.2.toList ++ []) :=
  have hK : kt_at 220 = kt_220 := rfl
  (z_R_run hK (n := 4) (g' := (z_up m 251 11 0, 6, [(2, 251), (9, 0)], [(2, 251)])) rfl).trans (z_R_call hK rfl rfl rfl rfl rfl)
theorem p_tgi_9  (m : z_M) : z_R 220 (m, 9, [(2, 251), (9, 0)], []) = (z_R 221 (m, 0, [(2, 251), (0, 100), (9, 0), (9, 0)], [])).bind fun qq => z_R 220 (qq.1, 15, [(2, 251), (9, 0)], qq.2.toList ++ []) :=
  have hK : kt_at 220 = kt_220 := rfl
  (z_R_run hK (n := 2) (g' := (m, 12, [(2, 251), (9, 0)], [(0, 100), (2, 251)])) rfl).trans (z_R_call hK rfl rfl rfl rfl rfl)
theorem p_tgi_15  (m : z_M) (u : Int) : z_R 220 (m, 15, [(2, 251), (9, 0)], [(0, u)]) = if u = 100 then some (m, some (0, (-2))) else (z_R 223 (z_up m 251 10 0, 0, [(2, 251), (2, 264), (9, 0), (9, 0)], [])).bind fun qq => z_R 220 (qq.1, 39, [(2, 251), (0, u)], qq.2.toList ++ [(2, 251)]) :=
  have hK : kt_at 220 = kt_220 := rfl
  (z_R_run hK (n := 3) (g' := (m, 19, [(2, 251), (0, u)], [(0, 100), (0, u)])) rfl).trans (z_R_ifnd hK (c := u = 100) (p1 := 25) (p2 := 22) rfl rfl rfl (fun h1 => (z_R_run hK (n := 7) (g' := (z_up m 251 10 0, 36, [(2, 251), (0, u)], [(2, 264), (2, 251), (2, 251)])) rfl).trans (z_R_call hK rfl rfl rfl rfl rfl)) (fun h1 => (z_R_run hK (n := 1) (g' := (m, 24, [(2, 251), (0, u)], [(0, (-2))])) rfl).trans (z_R_ret hK rfl rfl rfl)))
theorem p_tgi_39  (m : z_M) (x1 : Int) (u : Int) : z_R 220 (m, 39, [(2, 251), (0, x1)], [(0, u), (2, 251)]) = (z_R 222 (m, 0, [(2, 251), (9, 0), (9, 0)], [])).bind fun qq => z_R 220 (qq.1, 43, [(2, 251), (0, x1)], qq.2.toList ++ [(0, u), (2, 251)]) :=
  have hK : kt_at 220 = kt_220 := rfl
  (z_R_run hK (n := 1) (g' := (m, 40, [(2, 251), (0, x1)], [(2, 251), (0, u), (2, 251)])) rfl).trans (z_R_call hK rfl rfl rfl rfl rfl)
theorem p_tgi_43  (m : z_M) (x1 : Int) (s0 : Int) (u : Int) : z_R 220 (m, 43, [(2, 251), (0, x1)], [(0, u), (0, s0), (2, 251)]) = (z_R 224 (m, 0, [(0, z_and s0 u), (9, 0)], [])).bind fun qq => z_R 220 (qq.1, 47, [(2, 251), (0, x1)], qq.2.toList ++ [(2, 251)]) :=
  have hK : kt_at 220 = kt_220 := rfl
  (z_R_run hK (n := 1) (g' := (m, 44, [(2, 251), (0, x1)], [(0, z_and s0 u), (2, 251)])) rfl).trans (z_R_call hK rfl rfl rfl rfl rfl)
theorem p_tgi_47  (m : z_M) (x1 : Int) (u : Int) : z_R 220 (m, 47, [(2, 251), (0, x1)], [(0, u), (2, 251)]) = (z_R 210 (m, 0, [(2, 251), (1, z_i2l u), (9, 0)], [])).bind fun qq => z_R 220 (qq.1, 51, [(2, 251), (0, x1)], qq.2.toList ++ []) :=
  have hK : kt_at 220 = kt_220 := rfl
  (z_R_run hK (n := 1) (g' := (m, 48, [(2, 251), (0, x1)], [(1, z_i2l u), (2, 251)])) rfl).trans (z_R_call hK rfl rfl rfl rfl rfl)
theorem p_tgi_51  (m : z_M) (x1 : Int) : z_R 220 (m, 51, [(2, 251), (0, x1)], []) = (z_R 210 (m, 0, [(2, 251), (1, z_i2l (m 251 30)), (9, 0)], [])).bind fun qq => z_R 220 (qq.1, 60, [(2, 251), (0, x1)], qq.2.toList ++ []) :=
  have hK : kt_at 220 = kt_220 := rfl
  (z_R_run hK (n := 4) (g' := (m, 57, [(2, 251), (0, x1)], [(1, z_i2l (m 251 30)), (2, 251)])) rfl).trans (z_R_call hK rfl rfl rfl rfl rfl)
theorem p_tgi_60  (m : z_M) (x1 : Int) : z_R 220 (m, 60, [(2, 251), (0, x1)], []) = some (m, some (0, z_add x1 1)) :=
  have hK : kt_at 220 = kt_220 := rfl
  (z_R_run hK (n := 3) (g' := (m, 63, [(2, 251), (0, x1)], [(0, z_add x1 1)])) rfl).trans (z_R_ret hK rfl rfl rfl)
end
section
/-! STANDING: sets of rooms as bits; coldest and gives, of what both are in -/
theorem b_one {v : BitVec 32} {x : Nat} (hx : x < 32) (h : ¬ (v.sshiftRight x &&& 1#32) = 0#32) : (1#32 <<< x) &&& v = 1#32 <<< x := by
  have hb : v.getLsbD x = true := by
    cases hc : v.getLsbD x with
    | true => rfl
    | false =>
      refine absurd (BitVec.eq_of_getLsbD_eq fun i hi => ?_) h
      rw [BitVec.getLsbD_and, BitVec.getLsbD_one, BitVec.getLsbD_zero]
      by_cases e : i = 0
      · subst e
        rw [BitVec.getLsbD_sshiftRight, Nat.add_zero, if_pos hx, hc]
        simp
      · simp [e]
  refine BitVec.eq_of_getLsbD_eq fun i hi => ?_
  rw [BitVec.getLsbD_and, BitVec.getLsbD_shiftLeft, BitVec.getLsbD_one]
  by_cases e : i = x
  · rw [e, hb, Bool.and_true]
  · by_cases e2 : i < x
    · simp [e2]
    · have : ¬ i - x = 0 := by omega
      simp [this]
theorem b_amt {x : Nat} (hx : x < 9) : (((Int32.ofInt (x : Int)) &&& 31).toBitVec.smod 32).toNat = x := by
  have : ∀ x, x < 9 → (((Int32.ofInt ((x : Nat) : Int)) &&& 31).toBitVec.smod 32).toNat = x := by decide +kernel
  exact this x hx
theorem z_one {R : Int} {x : Nat} (hx : x < 9) (h : ¬ z_and (z_shr R (x : Int)) 1 = 0) : z_and (z_shl 1 (x : Int)) R = z_shl 1 (x : Int) := by
  have h' : ¬ ((Int32.ofInt R).toBitVec.sshiftRight x &&& 1#32) = 0#32 := fun z => h (by
    unfold z_and z_shr
    rw [Int32.ofInt_toInt]
    have e : (Int32.ofInt R >>> (Int32.ofInt (x : Int) &&& 31)) &&& Int32.ofInt 1 = 0 := by
      apply Int32.toBitVec_inj.mp
      rw [Int32.toBitVec_and, Int32.toBitVec_shiftRight, BitVec.sshiftRight_eq', b_amt hx]
      exact z
    rw [e]
    rfl)
  have k := b_one (by omega) h'
  unfold z_and z_shl
  rw [Int32.ofInt_toInt]
  have e : (Int32.ofInt 1 <<< (Int32.ofInt (x : Int) &&& 31)) &&& Int32.ofInt R = Int32.ofInt 1 <<< (Int32.ofInt (x : Int) &&& 31) := by
    apply Int32.toBitVec_inj.mp
    rw [Int32.toBitVec_and, Int32.toBitVec_shiftLeft, BitVec.shiftLeft_eq', b_amt hx]
    exact k
  rw [e]
theorem z_and_or {a b c : Int} : z_and (z_or a b) c = z_or (z_and a c) (z_and b c) := by
  unfold z_and z_or
  rw [Int32.ofInt_toInt, Int32.ofInt_toInt, Int32.ofInt_toInt]
  have e : (Int32.ofInt a ||| Int32.ofInt b) &&& Int32.ofInt c = (Int32.ofInt a &&& Int32.ofInt c) ||| (Int32.ofInt b &&& Int32.ofInt c) := by
    apply Int32.toBitVec_inj.mp
    rw [Int32.toBitVec_and, Int32.toBitVec_or, Int32.toBitVec_or, Int32.toBitVec_and, Int32.toBitVec_and]
    exact BitVec.and_or_distrib_right
  rw [e]
theorem z_or0 {b : Int} (h : z_w b = b) : z_or b 0 = b := by
  unfold z_or
  have e : Int32.ofInt b ||| Int32.ofInt 0 = Int32.ofInt b := by
    apply Int32.toBitVec_inj.mp
    rw [Int32.toBitVec_or]
    exact BitVec.or_zero
  rw [e]
  exact h
theorem z_or_w {a b : Int} : z_w (z_or a b) = z_or a b := by
  unfold z_w z_or
  rw [Int32.ofInt_toInt]
/-- a set of rooms as bits -/
def s_bt (P : Nat → Bool) : Nat → Nat → Int → Int
  | 0, _, b => b
  | f + 1, x, b => s_bt P f (x + 1) (if P x = true then z_or b (z_shl 1 (x : Int)) else b)
theorem s_bt_cg {P Q : Nat → Bool} : ∀ (f x : Nat) (b : Int), (∀ y, x ≤ y → y < x + f → P y = Q y) → s_bt P f x b = s_bt Q f x b := by
  intro f
  induction f with
  | zero => intro x b h; rfl
  | succ f ih =>
    intro x b h
    unfold s_bt
    rw [h x (Nat.le_refl _) (by omega)]
    exact ih (x + 1) _ (fun y h1 h2 => h y (by omega) (by omega))
theorem s_bt_and {P : Nat → Bool} {R : Int} (hP : ∀ x, x < 9 → P x = true → ¬ z_and (z_shr R (x : Int)) 1 = 0) : ∀ (f x : Nat) (b : Int), x + f = 9 → z_and b R = b → z_and (s_bt P f x b) R = s_bt P f x b := by
  intro f
  induction f with
  | zero => intro x b hx h; exact h
  | succ f ih =>
    intro x b hx h
    unfold s_bt
    refine ih (x + 1) _ (by omega) ?_
    by_cases c : P x = true
    · rw [if_pos c, z_and_or, h, z_one (by omega) (hP x (by omega) c)]
    · rw [if_neg c]; exact h
/-- rooms without ICE; rooms with ICE -/
def s_G (w h : Nat) (A : Nat → Int) : Int := s_bt (fun k => decide (¬ u_hs (w : Int) (h : Int) (k : Int) = 0 ∧ A k = 0)) 9 0 0
def s_F (w h : Nat) (A : Nat → Int) : Int := s_bt (fun k => decide (¬ u_hs (w : Int) (h : Int) (k : Int) = 0 ∧ 0 < A k)) 9 0 0
theorem hr_k_gb {w h : Int} {n : Nat} (hn : n ≤ 5) : ∀ (f x : Nat) (A : Nat → Int) (g fb fm : Int), x + f = 9 → (hr_k w h n f x A g fb fm).2.1 = s_bt (fun k => decide (¬ u_hs w h (k : Int) = 0 ∧ A k = 0)) f x g := by
  intro f
  induction f with
  | zero => intro x A g fb fm hx; rfl
  | succ f ih =>
    intro x A g fb fm hx
    unfold hr_k s_bt
    by_cases c : u_hs w h (x : Int) = 0
    · rw [if_pos c, if_neg (fun z => (of_decide_eq_true z).1 c)]
      exact ih _ _ _ _ _ (by omega)
    rw [if_neg c]
    by_cases c2 : A x = 0
    · rw [if_pos c2, if_pos (decide_eq_true ⟨c, c2⟩), ih _ _ _ _ _ (by omega)]
      refine s_bt_cg f (x + 1) _ (fun y h1 h2 => ?_)
      rw [hr_p_hi (by omega) n 0 _ _ _ (by omega), hr_st_18 (by omega)]
    · rw [if_neg c2, if_neg (fun z => c2 (of_decide_eq_true z).2)]
      exact ih _ _ _ _ _ (by omega)
theorem hr_K_gb {w h : Nat} {heat price : Int} {ml : hr_M} {wm : Nat → Int} {n : Nat} (hn : n ≤ 5) {A : Nat → Int} : (hr_K w h heat price ml wm n A).2.1 = s_G w h (hr_A w h heat price ml wm n A) := by
  have e : ∀ k, k < 9 → hr_A w h heat price ml wm n A k = hr_F (w : Int) (h : Int) 9 0 (hr_y w h (hr_me (w : Int) (h : Int) heat ml wm n A) h (hr_o wm price n 0 A)) k := fun k hk => by
    unfold hr_A hr_K
    rw [u_up_ne (by omega), hr_k_hi hn (Or.inl (by omega))]
  unfold hr_K s_G
  rw [hr_k_gb hn 9 0 _ 0 0 0 (by decide)]
  exact s_bt_cg 9 0 0 (fun y _ h2 => by rw [e y (by omega)])
/-- for how many hours they stand, at most N -/
def s_sta (w h n : Nat) (heat price : Int) (cs : List Int) (D : Nat → Int) (F : Int) (N : Nat) : Nat → Nat → (Nat → Int) → Int
  | 0, _, _ => (N : Int)
  | f + 1, x, B => if z_and (s_G w h (hr_A w h heat price (c_ml cs) (wmD D (B 35)) n B)) F = 0 then s_sta w h n heat price cs D F N f (x + 1) (hr_A w h heat price (c_ml cs) (wmD D (B 35)) n B) else (x : Int)
section
variable {w h n : Nat} {heat price : Int} {D A : Nat → Int} {c : Nat} {U : Nat → Nat → Int} {kn : Nat → Int} {KS : Nat → Nat → Int} {cs : List Int} {m : z_M}
theorem C_flo {B : Nat → Int} (h8 : m 3 8 = (w : Int)) (h9 : m 3 9 = (h : Int)) (hB : cS m 18 n = B) : ∀ (f x : Nat) (b : Int), x + f = 9 → z_R 92 (m, 4, [(2, 3), (2, 18), (0, b), (0, (x : Int))], []) = some (m, some (0, s_bt (fun k => decide (¬ u_hs (w : Int) (h : Int) (k : Int) = 0 ∧ 0 < B k)) f x b)) := by
  intro f
  induction f with
  | zero =>
    intro x b hx
    rw [p_flo_4, if_pos (by omega)]
    rfl
  | succ f ih =>
    intro x b hx
    have eB : m 19 x = B x := by
      rw [← hB]
      exact (cS_at1 (s := 18) (by omega)).symm
    rw [p_flo_4, if_neg (show ¬ (9 : Int) ≤ (x : Int) by omega), h8, h9, z_add_eq (x := (x : Int)) (y := 1) (by omega) (by omega), tc1, Int.toNat_natCast, eB]
    unfold s_bt
    by_cases c1 : u_hs (w : Int) (h : Int) (x : Int) = 0
    · rw [if_neg (not_not_intro c1), if_neg (fun z => (of_decide_eq_true z).1 c1)]
      exact ih (x + 1) b (by omega)
    · rw [if_pos c1]
      by_cases c2 : B x ≤ 0
      · rw [if_pos c2, if_neg (fun z => by have := (of_decide_eq_true z).2; omega)]
        exact ih (x + 1) b (by omega)
      · rw [if_neg c2, if_pos (decide_eq_true ⟨c1, by omega⟩)]
        exact ih (x + 1) _ (by omega)
theorem C_sta3 {F0 : Int} {N : Nat} (hN6 : N ≤ 1000) (hN : w_N w h n heat D) {x4 : Int} (hx4 : ∀ g, z_and g x4 = z_and g F0) {R : Int} : ∀ (f x : Nat) (m : z_M) (B : Nat → Int), x + f = N → C_is w h n heat price D A c U kn KS cs m → m 3 10 = R → cS m 18 n = B → hr_ok n B → 0 ≤ B 35 → B 35 + (f : Int) ≤ 2147483647 → z_w (m 24 6) = m 24 6 → z_w (m 24 9) = m 24 9 → ∃ m1, z_R 97 (m, 15, [(2, 24), (2, 18), (0, (N : Int)), (0, R), (0, x4), (0, (x : Int))], []) = some (m1, some (0, s_sta w h n heat price cs D F0 N f x B)) ∧ C_is w h n heat price D A c U kn KS cs m1 ∧ z_w (m1 24 6) = m1 24 6 ∧ z_w (m1 24 9) = m1 24 9 := by
  intro f
  induction f with
  | zero =>
    intro x m B hx hi hR hB hok ht ht2 k6 k9
    rw [p_st3_15, if_pos (by omega)]
    exact ⟨m, rfl, hi, k6, k9⟩
  | succ f ih =>
    intro x m B hx hi hR hB hok ht ht2 k6 k9
    obtain ⟨m1, a1, a2, a3, a4, a5, a6, a7, a8, a9⟩ := c_hour z_st_18 hN.1.1 hN.1.2.1 (price := price) ⟨hN.1.2.2, hN.2.1, c_ml_ok cs, hN.2.2⟩ m (C_cfg hi) hB hok ht (by omega) k6 k9
    rw [hR] at a1
    have a1 : z_R 68 (m, 0, [(2, 24), (2, 18), (0, R), (9, 0), (9, 0), (9, 0)], []) = some (m1, none) := a1
    have hC1 : C_is w h n heat price D A c U kn KS cs m1 := C_fr hi fun p k hk => by
      have hk' := hk
      unfold C_hit at hk'
      have hk' := of_decide_eq_true hk'
      exact a9.of (by (try unfold r_LHs); (repeat' (first | exact trivial | refine z_of_c ?_ ?_)) <;> omega)
    have l6 : z_w (m1 24 6) = m1 24 6 := by rw [a3, z_add_w]; exact z_w_w
    have l9 : z_w (m1 24 9) = m1 24 9 := by rw [a6, z_add_w]; exact z_w_w
    rw [p_st3_15, if_neg (by omega), a1, zb_n, p_st3_27, a7, hx4, hr_K_gb hN.1.2.2, z_add_eq (by omega) (by omega), tc1]
    unfold s_sta
    by_cases c1 : z_and (s_G w h (hr_A w h heat price (c_ml cs) (wmD D (B 35)) n B)) F0 = 0
    · rw [if_pos c1, if_pos c1]
      have hok' := hr_A_ok (price := price) hN.1.1 hN.1.2.1 hN.1.2.2 hN.2.1 (c_ml_ok cs) (hN.2.2 (B 35) ht) hok
      have e35 : hr_A w h heat price (c_ml cs) (wmD D (B 35)) n B 35 = B 35 + 1 := by rw [hr_A_35 hN.1.1 hN.1.2.1 hN.1.2.2, z_add_eq (by omega) (by omega)]
      exact ih (x + 1) m1 _ (by omega) hC1 ((a9.of (by (try unfold r_LHs); (repeat' (first | exact trivial | refine z_of_c ?_ ?_)) <;> omega)).trans hR) a2 hok' (by rw [e35]; omega) (by rw [e35]; omega) l6 l9
    · rw [if_neg c1, if_neg c1]
      exact ⟨m1, rfl, hC1, l6, l9⟩
/-- standing, of the scratch State -/
theorem C_stand {B : Nat → Int} (hN : w_N w h n heat D) (hok : hr_ok n B) (ht : 0 ≤ B 35 ∧ B 35 ≤ 1073741824) (hi : C_is w h n heat price D A c U kn KS cs m) (hB : cS m 18 n = B) (k6 : z_w (m 24 6) = m 24 6) (k9 : z_w (m 24 9) = m 24 9) {N : Nat} (hN6 : N ≤ 1000) : ∃ m1, z_R 96 (m, 0, [(2, 24), (2, 18), (0, (N : Int))], []) = some (m1, some (0, s_sta w h n heat price cs D (s_F w h B) N N 0 B)) ∧ C_is w h n heat price D A c U kn KS cs m1 ∧ z_w (m1 24 6) = m1 24 6 ∧ z_w (m1 24 9) = m1 24 9 := by
  have e := C_flo (w := w) (h := h) (n := n) hi.1.1 hi.1.2.1 hB 9 0 0 (by decide)
  have e : z_R 92 (m, 4, [(2, 3), (2, 18), (0, 0), (0, 0)], []) = some (m, some (0, s_F w h B)) := e
  have ea : z_and (s_F w h B) (m 3 10) = s_F w h B := s_bt_and (fun x hx hP z => (of_decide_eq_true hP).1 ((hi.1.2.2.2.2.2.1 x hx).mp z)) 9 0 0 (by decide) (by
    unfold z_and
    have : Int32.ofInt 0 &&& Int32.ofInt (m 3 10) = Int32.ofInt 0 := by
      apply Int32.toBitVec_inj.mp
      rw [Int32.toBitVec_and]
      exact BitVec.zero_and
    rw [this]
    rfl)
  obtain ⟨m1, a1, a2, a3⟩ := C_sta3 (F0 := s_F w h B) (x4 := z_and (s_F w h B) (m 3 10)) hN6 hN (fun g => by rw [ea]) (R := m 3 10) N 0 m B (by omega) hi rfl hB hok ht.1 (by omega) k6 k9
  have a1 : z_R 97 (m, 15, [(2, 24), (2, 18), (0, (N : Int)), (0, m 3 10), (0, z_and (s_F w h B) (m 3 10)), (0, 0)], []) = some (m1, some (0, s_sta w h n heat price cs D (s_F w h B) N N 0 B)) := a1
  rw [p_st2_0, p_st3_0, p_flo_0, e, zb_v, p_st3_8, a1, zb_v, p_st2_13]
  exact ⟨m1, rfl, a2, a3⟩
/-! the reference -/
theorem R_ice {B : Nat → Int} (h1 : m 251 1 = (w : Int)) (h2 : m 251 2 = (h : Int)) (hB : rS m 252 n = B) : ∀ (f x : Nat) (b : Int), x + f = 9 → z_w b = b → z_R 222 (m, 4, [(2, 251), (0, b), (0, (x : Int))], []) = some (m, some (0, s_bt (fun k => decide (¬ u_hs (w : Int) (h : Int) (k : Int) = 0 ∧ 0 < B k)) f x b)) := by
  intro f
  induction f with
  | zero =>
    intro x b hx hb
    rw [q_ice_4, if_pos (by omega)]
    rfl
  | succ f ih =>
    intro x b hx hb
    have eB : m 252 x = B x := by
      rw [← hB]
      exact (rS_at (by omega) (a_vis_lo (by omega))).symm
    rw [q_ice_4, if_neg (show ¬ (9 : Int) ≤ (x : Int) by omega), h1, h2, z_add_eq (x := (x : Int)) (y := 1) (by omega) (by omega), tc1, Int.toNat_natCast, eB, z_or0 hb]
    unfold s_bt
    by_cases c1 : u_hs (w : Int) (h : Int) (x : Int) = 0
    · rw [if_neg (not_not_intro c1), if_neg (fun z => (of_decide_eq_true z).1 c1)]
      exact ih (x + 1) b (by omega) hb
    · rw [if_pos c1]
      by_cases c2 : B x ≤ 0
      · rw [if_pos c2, if_neg (fun z => by have := (of_decide_eq_true z).2; omega)]
        exact ih (x + 1) b (by omega) hb
      · rw [if_neg c2, if_pos (decide_eq_true ⟨c1, by omega⟩)]
        exact ih (x + 1) _ (by omega) z_or_w
theorem R_tha {B : Nat → Int} (h1 : m 251 1 = (w : Int)) (h2 : m 251 2 = (h : Int)) (hB : rS m 264 n = B) : ∀ (f x : Nat) (b : Int), x + f = 9 → z_w b = b → z_R 223 (m, 4, [(2, 251), (2, 264), (0, b), (0, (x : Int))], []) = some (m, some (0, s_bt (fun k => decide (¬ u_hs (w : Int) (h : Int) (k : Int) = 0 ∧ B k = 0)) f x b)) := by
  intro f
  induction f with
  | zero =>
    intro x b hx hb
    rw [q_tha_4, if_pos (by omega)]
    rfl
  | succ f ih =>
    intro x b hx hb
    have eB : m 264 x = B x := by
      rw [← hB]
      exact (rS_at (by omega) (a_vis_lo (by omega))).symm
    rw [q_tha_4, if_neg (show ¬ (9 : Int) ≤ (x : Int) by omega), h1, h2, z_add_eq (x := (x : Int)) (y := 1) (by omega) (by omega), tc1, Int.toNat_natCast, eB, z_or0 hb]
    unfold s_bt
    by_cases c1 : u_hs (w : Int) (h : Int) (x : Int) = 0
    · rw [if_neg (not_not_intro c1), if_neg (fun z => (of_decide_eq_true z).1 c1)]
      exact ih (x + 1) b (by omega) hb
    · rw [if_pos c1]
      by_cases c2 : B x = 0
      · rw [if_pos c2, if_pos (decide_eq_true ⟨c1, c2⟩)]
        exact ih (x + 1) _ (by omega) z_or_w
      · rw [if_neg c2, if_neg (fun z => c2 (of_decide_eq_true z).2)]
        exact ih (x + 1) b (by omega) hb
theorem R_sta1 {F : Int} {N : Nat} (hN6 : N ≤ 1000) (hN : w_N w h n heat D) : ∀ (f x : Nat) (m : z_M) (B : Nat → Int), x + f = N → R_is w h n heat price D A c U kn KS cs m → rS m 264 n = B → hr_ok n B → 0 ≤ B 35 → B 35 + (f : Int) ≤ 2147483647 → ∃ m1, z_R 221 (m, 7, [(2, 251), (0, (N : Int)), (0, F), (0, (x : Int))], []) = some (m1, some (0, s_sta w h n heat price cs D F N f x B)) ∧ z_same (r_LHs 264) m m1 := by
  intro f
  induction f with
  | zero =>
    intro x m B hx hi hB hok ht ht2
    rw [q_sta_7, if_pos (by omega)]
    exact ⟨m, rfl, z_same.rf⟩
  | succ f ih =>
    intro x m B hx hi hB hok ht ht2
    obtain ⟨m1, a1, a2, a3, a4, a5, a6, a7⟩ := r_hour (a := 264) z_A_264 (Or.inr rfl) hN.1.1 hN.1.2.1 (price := price) ⟨hN.1.2.2, hN.2.1, c_ml_ok cs, hN.2.2⟩ m (R_cfg hi) hB hok ht (by omega)
    have a1 : z_R 208 (m, 0, [(2, 251), (2, 264), (9, 0), (9, 0), (9, 0)], []) = some (m1, none) := a1
    have s1 : z_same (r_LHs 264) m m1 := a7.subo (by (try unfold r_LHs); (repeat' (first | exact trivial | refine z_sbo_c ?_ ?_)) <;> (intro k h1 h2; first | exact z_on_h rfl (by omega) (by omega) | exact z_on_t (z_on_h rfl (by omega) (by omega)) | exact z_on_t (z_on_t (z_on_h rfl (by omega) (by omega))) | exact z_on_t (z_on_t (z_on_t (z_on_h rfl (by omega) (by omega)))) | exact z_on_t (z_on_t (z_on_t (z_on_t (z_on_h rfl (by omega) (by omega))))) | exact z_on_t (z_on_t (z_on_t (z_on_t (z_on_t (z_on_h rfl (by omega) (by omega)))))) | exact z_on_t (z_on_t (z_on_t (z_on_t (z_on_t (z_on_t (z_on_h rfl (by omega) (by omega))))))) | exact z_on_t (z_on_t (z_on_t (z_on_t (z_on_t (z_on_t (z_on_t (z_on_h rfl (by omega) (by omega)))))))) | exact z_on_t (z_on_t (z_on_t (z_on_t (z_on_t (z_on_t (z_on_t (z_on_t (z_on_h rfl (by omega) (by omega))))))))) | exact z_on_t (z_on_t (z_on_t (z_on_t (z_on_t (z_on_t (z_on_t (z_on_t (z_on_t (z_on_h rfl (by omega) (by omega)))))))))) | exact z_on_t (z_on_t (z_on_t (z_on_t (z_on_t (z_on_t (z_on_t (z_on_t (z_on_t (z_on_t (z_on_h rfl (by omega) (by omega))))))))))) | exact z_on_t (z_on_t (z_on_t (z_on_t (z_on_t (z_on_t (z_on_t (z_on_t (z_on_t (z_on_t (z_on_t (z_on_h rfl (by omega) (by omega)))))))))))) | exact z_on_t (z_on_t (z_on_t (z_on_t (z_on_t (z_on_t (z_on_t (z_on_t (z_on_t (z_on_t (z_on_t (z_on_t (z_on_h rfl (by omega) (by omega)))))))))))))))
    have hR1 := R_off264 hi s1
    have hv := R_tha (w := w) (h := h) (n := n) hR1.1.1 hR1.1.2.1 a2 9 0 0 (by decide) (by decide +kernel)
    have hv : z_R 223 (m1, 4, [(2, 251), (2, 264), (0, 0), (0, 0)], []) = some (m1, some (0, s_G w h (hr_A w h heat price (c_ml cs) (wmD D (B 35)) n B))) := hv
    rw [q_sta_7, if_neg (by omega), a1, zb_n, q_sta_20, q_tha_0, hv, zb_v, q_sta_28, z_add_eq (by omega) (by omega), tc1]
    unfold s_sta
    by_cases c1 : z_and (s_G w h (hr_A w h heat price (c_ml cs) (wmD D (B 35)) n B)) F = 0
    · rw [if_pos c1, if_pos c1]
      have hok' := hr_A_ok (price := price) hN.1.1 hN.1.2.1 hN.1.2.2 hN.2.1 (c_ml_ok cs) (hN.2.2 (B 35) ht) hok
      have e35 : hr_A w h heat price (c_ml cs) (wmD D (B 35)) n B 35 = B 35 + 1 := by rw [hr_A_35 hN.1.1 hN.1.2.1 hN.1.2.2, z_add_eq (by omega) (by omega)]
      obtain ⟨m2, b1, b2⟩ := ih (x + 1) m1 _ (by omega) hR1 a2 hok' (by rw [e35]; omega) (by rw [e35]; omega)
      exact ⟨m2, b1, s1.tr b2⟩
    · rw [if_neg c1, if_neg c1]
      exact ⟨m1, rfl, s1⟩
/-- standing, of the State that was laid down -/
theorem R_stand {B : Nat → Int} (hN : w_N w h n heat D) (hok : hr_ok n B) (ht : 0 ≤ B 35 ∧ B 35 ≤ 1073741824) (hi : R_is w h n heat price D A c U kn KS cs m) (hB : rS m 264 n = B) {N : Nat} (hN6 : N ≤ 1000) : ∃ m1, z_R 221 (m, 0, [(2, 251), (0, (N : Int)), (9, 0), (9, 0)], []) = some (m1, some (0, s_sta w h n heat price cs D (s_F w h A) N N 0 B)) ∧ R_is w h n heat price D A c U kn KS cs m1 := by
  have hv := R_ice (w := w) (h := h) (n := n) hi.1.1 hi.1.2.1 hi.2.2.1 9 0 0 (by decide) (by decide +kernel)
  have hv : z_R 222 (m, 4, [(2, 251), (0, 0), (0, 0)], []) = some (m, some (0, s_F w h A)) := hv
  obtain ⟨m1, a1, a2⟩ := R_sta1 (F := s_F w h A) hN6 hN N 0 m B (by omega) hi hB hok ht.1 (by omega)
  have a1 : z_R 221 (m, 7, [(2, 251), (0, (N : Int)), (0, s_F w h A), (0, 0)], []) = some (m1, some (0, s_sta w h n heat price cs D (s_F w h A) N N 0 B)) := a1
  rw [q_sta_0, q_ice_0, hv, zb_v, q_sta_4, a1]
  exact ⟨m1, rfl, R_off264 hi a2⟩
/-! coldest -/
def o_col (w h n : Nat) (heat price : Int) (cs : List Int) (D A : Nat → Int) (N : Nat) : Nat → Nat → Int
  | 0, _ => -2
  | f + 1, x => if s_sta w h n heat price cs D (s_F w h A) N N 0 (u_up A 36 (x : Int)) = (N : Int) then (x : Int) else o_col w h n heat price cs D A N f (x + 1)
def o_coldest (w h n : Nat) (heat price : Int) (cs : List Int) (D A : Nat → Int) (a : Int) : Int := if ¬ (1 ≤ a ∧ a ≤ 100) then -1 else o_col w h n heat price cs D A a.toNat 10 0
theorem s_F_36 {v : Int} : s_F w h (u_up A 36 v) = s_F w h A := s_bt_cg 9 0 0 (fun y _ h2 => by rw [u_up_ne (by omega)])
theorem C_col1 (hN : w_N w h n heat D) (hok : hr_ok n A) (ht : 0 ≤ A 35 ∧ A 35 ≤ 1073741824) {N : Nat} (hN6 : N ≤ 100) : ∀ (f x : Nat) (m : z_M), x + f = 10 → C_is w h n heat price D A c U kn KS cs m → z_w (m 24 6) = m 24 6 → z_w (m 24 9) = m 24 9 → ∃ m1, z_R 95 (m, 15, [(2, 0), (0, (N : Int)), (0, (x : Int))], []) = some (m1, some (0, o_col w h n heat price cs D A N f x)) ∧ C_is w h n heat price D A c U kn KS cs m1 := by
  intro f
  induction f with
  | zero =>
    intro x m hx hi k6 k9
    rw [p_col_15, if_pos (by omega)]
    exact ⟨m, rfl, hi⟩
  | succ f ih =>
    intro x m hx hi k6 k9
    obtain ⟨m2, b1, b2, b3⟩ := c_become z_st_12 z_st_18 (by decide) m
    have b1 : z_R 61 (m, 0, [(2, 18), (2, 12)], []) = some (m2, none) := b1
    have hC2 : C_is w h n heat price D A c U kn KS cs m2 := C_fr hi fun p k hk => by
      have hk' := hk
      unfold C_hit at hk'
      have hk' := of_decide_eq_true hk'
      exact b3.of (by (try unfold r_LHs); (repeat' (first | exact trivial | refine z_of_c ?_ ?_)) <;> omega)
    have hA2 : cS m2 18 n = A := (cS_cR b2).trans hi.2.2.1
    have hC3 : C_is w h n heat price D A c U kn KS cs (z_up m2 18 8 (x : Int)) := C_upn hC2 (by decide)
    have hA3 : cS (z_up m2 18 8 (x : Int)) 18 n = u_up A 36 (x : Int) := by rw [cS_frost, hA2]
    have j6 : (z_up m2 18 8 (x : Int)) 24 6 = m 24 6 := (zu_p (by decide)).trans (b3.of (by (try unfold r_LHs); (repeat' (first | exact trivial | refine z_of_c ?_ ?_)) <;> omega))
    have j9 : (z_up m2 18 8 (x : Int)) 24 9 = m 24 9 := (zu_p (by decide)).trans (b3.of (by (try unfold r_LHs); (repeat' (first | exact trivial | refine z_of_c ?_ ?_)) <;> omega))
    rw [p_col_15, if_neg (by omega), b1, zb_n, p_col_32]
    generalize z_up m2 18 8 (x : Int) = m3 at hC3 hA3 j6 j9 ⊢
    have hok3 : hr_ok n (u_up A 36 (x : Int)) := hr_ok_up hok (by decide) (fun _ => by omega) (fun p h1 h2 => by have := hN.1.2.2; omega)
    have h35 : u_up A 36 (x : Int) 35 = A 35 := u_up_ne (by decide)
    obtain ⟨m4, c1, c2, c3, c4⟩ := C_stand hN hok3 (by rw [h35]; exact ht) hC3 hA3 (by rw [j6]; exact k6) (by rw [j9]; exact k9) (N := N) (by omega)
    rw [s_F_36] at c1
    rw [c1, zb_v, p_col_52, z_add_eq (by omega) (by omega), tc1]
    unfold o_col
    by_cases z : s_sta w h n heat price cs D (s_F w h A) N N 0 (u_up A 36 (x : Int)) = (N : Int)
    · rw [if_pos z, if_pos z]
      exact ⟨m4, rfl, c2⟩
    · rw [if_neg z, if_neg z]
      exact ih (x + 1) m4 (by omega) c2 c3 c4
theorem C_coldest (hi : C_is w h n heat price D A c U kn KS cs m) (hN : w_N w h n heat D) (hok : hr_ok n A) (ht : 0 ≤ A 35 ∧ A 35 ≤ 1073741824) (k6 : z_w (m 24 6) = m 24 6) (k9 : z_w (m 24 9) = m 24 9) (a : Int) : ∃ m1, z_R 95 (m, 0, [(2, 0), (0, a), (9, 0)], []) = some (m1, some (0, o_coldest w h n heat price cs D A a)) ∧ C_is w h n heat price D A c U kn KS cs m1 := by
  rw [p_col_0]
  by_cases c1 : a < 1
  · have e : o_coldest w h n heat price cs D A a = -1 := if_pos (by omega)
    rw [if_pos c1, e]
    exact ⟨m, rfl, hi⟩
  rw [if_neg c1]
  by_cases c2 : a ≤ 100
  · have e : o_coldest w h n heat price cs D A a = o_col w h n heat price cs D A a.toNat 10 0 := if_neg (by omega)
    obtain ⟨N, rfl⟩ : ∃ N : Nat, a = (N : Int) := ⟨a.toNat, by omega⟩
    rw [Int.toNat_natCast] at e
    rw [if_pos c2, e]
    exact C_col1 hN hok ht (by omega) 10 0 m (by decide) hi k6 k9
  · have e : o_coldest w h n heat price cs D A a = -1 := if_pos (by omega)
    rw [if_neg c2, e]
    exact ⟨m, rfl, hi⟩
theorem R_col1 (hN : w_N w h n heat D) (hok : hr_ok n A) (ht : 0 ≤ A 35 ∧ A 35 ≤ 1073741824) {N : Nat} (hN6 : N ≤ 100) : ∀ (f x : Nat) (m : z_M), x + f = 10 → R_is w h n heat price D A c U kn KS cs m → ∃ m1, z_R 226 (m, 19, [(2, 251), (0, (N : Int)), (0, (x : Int))], []) = some (m1, some (0, o_col w h n heat price cs D A N f x)) ∧ R_is w h n heat price D A c U kn KS cs m1 := by
  intro f
  induction f with
  | zero =>
    intro x m hx hi
    rw [p_tco_19, if_pos (by omega)]
    exact ⟨m, rfl, hi⟩
  | succ f ih =>
    intro x m hx hi
    obtain ⟨m2, b1, b2, b3⟩ := R_lt hi
    have hR3 : R_is w h n heat price D A c U kn KS cs (z_up m2 264 36 (x : Int)) := R_upn b2 (by decide)
    have hA3 : rS (z_up m2 264 36 (x : Int)) 264 n = u_up A 36 (x : Int) := by rw [rS_up (by decide) (a_vis_hi (by decide)), b3]
    rw [p_tco_19, if_neg (by omega), b1, zb_n, p_tco_29]
    generalize z_up m2 264 36 (x : Int) = m3 at hR3 hA3 ⊢
    have hok3 : hr_ok n (u_up A 36 (x : Int)) := hr_ok_up hok (by decide) (fun _ => by omega) (fun p h1 h2 => by have := hN.1.2.2; omega)
    have h35 : u_up A 36 (x : Int) 35 = A 35 := u_up_ne (by decide)
    obtain ⟨m4, c1, c2⟩ := R_stand hN hok3 (by rw [h35]; exact ht) hR3 hA3 (N := N) (by omega)
    rw [c1, zb_v, p_tco_42, z_add_eq (by omega) (by omega), tc1]
    unfold o_col
    by_cases z : s_sta w h n heat price cs D (s_F w h A) N N 0 (u_up A 36 (x : Int)) = (N : Int)
    · rw [if_pos z, if_pos z]
      exact ⟨m4, rfl, c2⟩
    · rw [if_neg z, if_neg z]
      exact ih (x + 1) m4 (by omega) c2
theorem R_coldest (hi : R_is w h n heat price D A c U kn KS cs m) (hN : w_N w h n heat D) (hok : hr_ok n A) (ht : 0 ≤ A 35 ∧ A 35 ≤ 1073741824) (a : Int) : ∃ m1, z_R 226 (m, 0, [(2, 251), (0, a), (9, 0)], []) = some (m1, some (0, o_coldest w h n heat price cs D A a)) ∧ R_is w h n heat price D A c U kn KS cs m1 := by
  have hu := R_upn (p0 := 251) (k0 := 11) (v := 0) hi (by decide)
  rw [p_tco_0]
  by_cases c1 : 1 ≤ a ∧ a ≤ 100
  · have e : o_coldest w h n heat price cs D A a = o_col w h n heat price cs D A a.toNat 10 0 := if_neg (not_not_intro c1)
    obtain ⟨N, rfl⟩ : ∃ N : Nat, a = (N : Int) := ⟨a.toNat, by omega⟩
    rw [Int.toNat_natCast] at e
    rw [if_pos c1, e]
    exact R_col1 hN hok ht (by omega) 10 0 _ (by decide) hu
  · have e : o_coldest w h n heat price cs D A a = -1 := if_pos c1
    rw [if_neg c1, e]
    exact ⟨_, rfl, hu⟩
/-! gives -/
theorem s_sta_x {F : Int} {N : Nat} : ∀ (f x : Nat) (B : Nat → Int), x + f = N → s_sta w h n heat price cs D F N f x B = (N : Int) ∨ ((x : Int) ≤ s_sta w h n heat price cs D F N f x B ∧ s_sta w h n heat price cs D F N f x B < (N : Int)) := by
  intro f
  induction f with
  | zero => intro x B hx; exact Or.inl rfl
  | succ f ih =>
    intro x B hx
    unfold s_sta
    by_cases c1 : z_and (s_G w h (hr_A w h heat price (c_ml cs) (wmD D (B 35)) n B)) F = 0
    · rw [if_pos c1]
      rcases ih (x + 1) _ (by omega) with z | z
      · exact Or.inl z
      · exact Or.inr ⟨by omega, z.2⟩
    · rw [if_neg c1]
      exact Or.inr ⟨by omega, by omega⟩
def o_gv (s : Int) : Int := if s = 100 then -2 else s + 1
theorem p_fstn : ∀ (f x : Nat) (b : Int) (m : z_M), x + f = 9 → ∃ v, z_R 93 (m, 2, [(0, b), (0, (x : Int))], []) = some (m, some (0, v)) := by
  intro f
  induction f with
  | zero =>
    intro x b m hx
    rw [p_fst_2, if_pos (by omega)]
    exact ⟨_, rfl⟩
  | succ f ih =>
    intro x b m hx
    rw [p_fst_2, if_neg (by omega), z_add_eq (by omega) (by omega), tc1]
    by_cases c1 : z_and (z_shr b (x : Int)) 1 = 0
    · rw [if_pos c1]; exact ih (x + 1) b m (by omega)
    · rw [if_neg c1]; exact ⟨_, rfl⟩
theorem C_giv1 {F : Int} (hN : w_N w h n heat D) : ∀ (f x : Nat) (v3 : z_V) (m : z_M) (B : Nat → Int), x + f = 100 → C_is w h n heat price D A c U kn KS cs m → cS m 18 n = B → hr_ok n B → 0 ≤ B 35 → B 35 + (f : Int) ≤ 2147483647 → z_w (m 24 6) = m 24 6 → z_w (m 24 9) = m 24 9 → ∃ m1, z_R 91 (m, 25, [(2, 0), (0, F), (0, ((x + 1 : Nat) : Int)), v3], []) = some (m1, some (0, o_gv (s_sta w h n heat price cs D F 100 f x B))) ∧ C_is w h n heat price D A c U kn KS cs m1 := by
  intro f
  induction f with
  | zero =>
    intro x v3 m B hx hi hB hok ht ht2 k6 k9
    rw [p_giv_25, if_pos (by omega)]
    exact ⟨m, rfl, hi⟩
  | succ f ih =>
    intro x v3 m B hx hi hB hok ht ht2 k6 k9
    obtain ⟨m1, a1, a2, a3, a4, a5, a6, a7, a8, a9⟩ := c_hour z_st_18 hN.1.1 hN.1.2.1 (price := price) ⟨hN.1.2.2, hN.2.1, c_ml_ok cs, hN.2.2⟩ m (C_cfg hi) hB hok ht (by omega) k6 k9
    have a1 : z_R 68 (m, 0, [(2, 24), (2, ((18 : Nat) : Int)), (0, m 3 10), (9, 0), (9, 0), (9, 0)], []) = some (m1, none) := a1
    have g1 : z_R 67 (m, 0, [(2, 24), (2, ((18 : Nat) : Int)), (0, 1), (9, 0)], []) = some (m1, none) := by
      rw [s_goOn_0 z_st_18 m 1 ⟨by decide, by decide⟩, s_goOn_2 z_st_18 m 1 0 ⟨by decide, by decide⟩ ⟨by decide, by decide⟩, if_neg (show ¬ (1 : Int) ≤ 0 by decide), a1, zb_n, s_goOn_19 z_st_18 m1 1 0 ⟨by decide, by decide⟩, s_goOn_2 z_st_18 m1 1 (0 + 1) ⟨by decide, by decide⟩ ⟨by decide, by decide⟩, if_pos (show (1 : Int) ≤ 0 + 1 by decide)]
    have g1 : z_R 67 (m, 0, [(2, 24), (2, 18), (0, 1), (9, 0)], []) = some (m1, none) := g1
    have hC1 : C_is w h n heat price D A c U kn KS cs m1 := C_fr hi fun p k hk => by
      have hk' := hk
      unfold C_hit at hk'
      have hk' := of_decide_eq_true hk'
      exact a9.of (by (try unfold r_LHs); (repeat' (first | exact trivial | refine z_of_c ?_ ?_)) <;> omega)
    rw [p_giv_25, if_neg (by omega), g1, zb_n, p_giv_43, a7, hr_K_gb hN.1.2.2, z_add_eq (by omega) (by omega), tc1]
    unfold s_sta
    by_cases c1 : z_and (s_G w h (hr_A w h heat price (c_ml cs) (wmD D (B 35)) n B)) F = 0
    · rw [if_pos c1, if_pos c1]
      have hok' := hr_A_ok (price := price) hN.1.1 hN.1.2.1 hN.1.2.2 hN.2.1 (c_ml_ok cs) (hN.2.2 (B 35) ht) hok
      have e35 : hr_A w h heat price (c_ml cs) (wmD D (B 35)) n B 35 = B 35 + 1 := by rw [hr_A_35 hN.1.1 hN.1.2.1 hN.1.2.2, z_add_eq (by omega) (by omega)]
      exact ih (x + 1) _ m1 _ (by omega) hC1 a2 hok' (by rw [e35]; omega) (by rw [e35]; omega) (by rw [a3, z_add_w]; exact z_w_w) (by rw [a6, z_add_w]; exact z_w_w)
    · obtain ⟨v, hv⟩ := p_fstn 9 0 (z_and (s_G w h (hr_A w h heat price (c_ml cs) (wmD D (B 35)) n B)) F) m1 (by decide)
      have hv : z_R 93 (m1, 2, [(0, z_and (s_G w h (hr_A w h heat price (c_ml cs) (wmD D (B 35)) n B)) F), (0, 0)], []) = some (m1, some (0, v)) := hv
      have eo : o_gv (x : Int) = ((x + 1 : Nat) : Int) := (if_neg (by omega)).trans (by omega)
      rw [if_neg c1, if_neg c1, p_fst_0, hv, zb_v, p_giv_62, c_tell2, zb_n, p_giv_74, eo]
      exact ⟨_, rfl, C_tell2 hC1 _ _⟩
theorem C_gives (hi : C_is w h n heat price D A c U kn KS cs m) (hN : w_N w h n heat D) (hok : hr_ok n A) (ht : 0 ≤ A 35 ∧ A 35 ≤ 1073741824) (k6 : z_w (m 24 6) = m 24 6) (k9 : z_w (m 24 9) = m 24 9) : ∃ m1, z_R 91 (m, 0, [(2, 0), (9, 0), (9, 0), (9, 0)], []) = some (m1, some (0, o_gv (s_sta w h n heat price cs D (s_F w h A) 100 100 0 A))) ∧ C_is w h n heat price D A c U kn KS cs m1 := by
  obtain ⟨m2, b1, b2, b3⟩ := c_become z_st_12 z_st_18 (by decide) m
  have b1 : z_R 61 (m, 0, [(2, 18), (2, 12)], []) = some (m2, none) := b1
  have hC2 : C_is w h n heat price D A c U kn KS cs m2 := C_fr hi fun p k hk => by
    have hk' := hk
    unfold C_hit at hk'
    have hk' := of_decide_eq_true hk'
    exact b3.of (by (try unfold r_LHs); (repeat' (first | exact trivial | refine z_of_c ?_ ?_)) <;> omega)
  have hA2 : cS m2 18 n = A := (cS_cR b2).trans hi.2.2.1
  have j6 : m2 24 6 = m 24 6 := b3.of (by (try unfold r_LHs); (repeat' (first | exact trivial | refine z_of_c ?_ ?_)) <;> omega)
  have j9 : m2 24 9 = m 24 9 := b3.of (by (try unfold r_LHs); (repeat' (first | exact trivial | refine z_of_c ?_ ?_)) <;> omega)
  have e := C_flo (w := w) (h := h) (n := n) hC2.1.1 hC2.1.2.1 hA2 9 0 0 (by decide)
  have e : z_R 92 (m2, 4, [(2, 3), (2, 18), (0, 0), (0, 0)], []) = some (m2, some (0, s_F w h A)) := e
  obtain ⟨m3, c1, c2⟩ := C_giv1 (F := s_F w h A) hN 100 0 (9, 0) m2 A (by decide) hC2 hA2 hok ht.1 (by omega) (by rw [j6]; exact k6) (by rw [j9]; exact k9)
  have c1 : z_R 91 (m2, 25, [(2, 0), (0, s_F w h A), (0, 1), (9, 0)], []) = some (m3, some (0, o_gv (s_sta w h n heat price cs D (s_F w h A) 100 100 0 A))) := c1
  rw [p_giv_0, b1, zb_n, p_giv_11, p_flo_0, e, zb_v, p_giv_22, c1]
  exact ⟨m3, rfl, c2⟩
theorem p_ntzn (m : z_M) (a : Int) : ∃ v, z_R 224 (m, 0, [(0, a), (9, 0)], []) = some (m, some (0, v)) := by
  rw [p_ntz_0]
  (repeat' split) <;> exact ⟨_, rfl⟩
theorem R_gives (hi : R_is w h n heat price D A c U kn KS cs m) (hN : w_N w h n heat D) (hok : hr_ok n A) (ht : 0 ≤ A 35 ∧ A 35 ≤ 1073741824) : ∃ m1, z_R 220 (m, 0, [(2, 251), (9, 0)], []) = some (m1, some (0, o_gv (s_sta w h n heat price cs D (s_F w h A) 100 100 0 A))) ∧ R_is w h n heat price D A c U kn KS cs m1 := by
  have hu := R_upn (p0 := 251) (k0 := 11) (v := 0) hi (by decide)
  rw [p_tgi_0]
  generalize z_up m 251 11 0 = m0 at hu ⊢
  obtain ⟨m2, b1, b2, b3⟩ := R_lt hu
  obtain ⟨m3, c1, c2⟩ := R_stand hN hok ht b2 b3 (N := 100) (by decide)
  have c1 : z_R 221 (m2, 0, [(2, 251), (0, 100), (9, 0), (9, 0)], []) = some (m3, some (0, s_sta w h n heat price cs D (s_F w h A) 100 100 0 A)) := c1
  have hx := s_sta_x (w := w) (h := h) (n := n) (heat := heat) (price := price) (cs := cs) (D := D) (F := s_F w h A) 100 0 A rfl
  rw [b1, zb_n, p_tgi_9, c1, zb_v, p_tgi_15]
  generalize s_sta w h n heat price cs D (s_F w h A) 100 100 0 A = s at hx ⊢
  by_cases z : s = 100
  · have e : o_gv s = -2 := if_pos z
    rw [if_pos z, e]
    exact ⟨m3, rfl, c2⟩
  · have e : o_gv s = s + 1 := if_neg z
    have hx : (0 : Int) ≤ s ∧ s < 100 := by
      rcases hx with y | y
      · exact absurd y z
      · exact y
    have hR4 := R_upn (p0 := 251) (k0 := 10) (v := 0) c2 (by decide)
    have k10 : (z_up m3 251 10 0) 251 10 = ((0 : Nat) : Int) := zu_self
    rw [if_neg z, e]
    generalize z_up m3 251 10 0 = m4 at hR4 k10 ⊢
    obtain ⟨v1, h1⟩ := q_thaq 9 0 0 m4 (by decide)
    have h1 : z_R 223 (m4, 4, [(2, 251), (2, 264), (0, 0), (0, 0)], []) = some (m4, some (0, v1)) := h1
    obtain ⟨v2, h2⟩ := q_iceq 9 0 0 m4 (by decide)
    have h2 : z_R 222 (m4, 4, [(2, 251), (0, 0), (0, 0)], []) = some (m4, some (0, v2)) := h2
    obtain ⟨v3, h3⟩ := p_ntzn m4 (z_and v1 v2)
    rw [q_tha_0, h1, zb_v, p_tgi_39, q_ice_0, h2, zb_v, p_tgi_43, h3, zb_v, p_tgi_47, t_tell (j := 0) _ _ (by decide) k10, zb_n, p_tgi_51, t_tell (j := 1) _ _ (by decide) zu_self, zb_n, p_tgi_60, z_add_eq (by omega) (by omega)]
    exact ⟨_, rfl, R_upn (R_upn (R_upn (R_upn hR4 (by decide)) (by decide)) (by decide)) (by decide)⟩
end
theorem core_coldest : l_rel2 Rel_C (773, 112, 95, 1, false, 784, 115, 226) := by
  intro M1 M2 M3 σ σ1 σ2 as v1 v2 C1 C2 ρ1 ρ2 ha hR hh hM1 hC1 hp1 hE1 hC2 hp2 hE2
  obtain ⟨a, rfl⟩ := as_one ha
  have hE1 : z_R 95 (z_m σ, 0, [(2, 0), (0, a.toInt), (9, 0)], []) = some (z_m σ1, some (0, v1.toInt)) := z_R_iff.mpr hE1
  have hE2 : z_R 226 (z_m σ1, 0, [(2, 251), (0, a.toInt), (9, 0)], []) = some (z_m σ2, some (0, v2.toInt)) := z_R_iff.mpr hE2
  have hT := T_two (y1 := 95) (y2 := 226) (by decide +kernel) (by decide +kernel) hC1 hC2 hp1 hp2 hR.1
  obtain ⟨w, h, n, heat, price, D, A, c, U, kn, KS, cs, cC, cR, cW⟩ := hR.2
  obtain ⟨b1, b2, -, -, hok, b35, -, b7⟩ := core_b hh hM1 cR
  have hN : w_N w h n heat D := ⟨b1, b2, b7⟩
  have kk := core_24 hh
  have f1 := R_off2_ok (y := 95) (by decide +kernel) hC1 hp1
  have f2 := C_off_ok (y := 226) (by decide +kernel) hC2 hp2
  have cR1 := R_fr cR f1
  have z := core_do cR1 (fun q => C_fr q f2) (C_coldest cC hN hok b35 kk.1 kk.2 a.toInt) (fun q => R_coldest q hN hok b35 a.toInt) hE1 hE2
  exact ⟨⟨hT, Core_mk z.1.1 z.1.2 cW⟩, fun _ => z.2⟩
theorem core_gives : l_rel2 Rel_C (729, 104, 91, 0, false, 734, 107, 220) := by
  intro M1 M2 M3 σ σ1 σ2 as v1 v2 C1 C2 ρ1 ρ2 ha hR hh hM1 hC1 hp1 hE1 hC2 hp2 hE2
  obtain rfl := as_nil ha
  have hE1 : z_R 91 (z_m σ, 0, [(2, 0), (9, 0), (9, 0), (9, 0)], []) = some (z_m σ1, some (0, v1.toInt)) := z_R_iff.mpr hE1
  have hE2 : z_R 220 (z_m σ1, 0, [(2, 251), (9, 0)], []) = some (z_m σ2, some (0, v2.toInt)) := z_R_iff.mpr hE2
  have hT := T_two (y1 := 91) (y2 := 220) (by decide +kernel) (by decide +kernel) hC1 hC2 hp1 hp2 hR.1
  obtain ⟨w, h, n, heat, price, D, A, c, U, kn, KS, cs, cC, cR, cW⟩ := hR.2
  obtain ⟨b1, b2, -, -, hok, b35, -, b7⟩ := core_b hh hM1 cR
  have hN : w_N w h n heat D := ⟨b1, b2, b7⟩
  have kk := core_24 hh
  have f1 := R_off2_ok (y := 91) (by decide +kernel) hC1 hp1
  have f2 := C_off_ok (y := 220) (by decide +kernel) hC2 hp2
  have cR1 := R_fr cR f1
  have z := core_do cR1 (fun q => C_fr q f2) (C_gives cC hN hok b35 kk.1 kk.2) (fun q => R_gives q hN hok b35) hE1 hE2
  exact ⟨⟨hT, Core_mk z.1.1 z.1.2 cW⟩, fun _ => z.2⟩
end
section
/-! STRETCHES of burden, with bounds done -/
theorem b_bur_0  (m : z_M) : z_R 115 (m, 0, [(2, 0), (9, 0), (9, 0), (9, 0), (9, 0)], []) = z_R 115 (m, 6, [(2, 0), (0, (-1)), (0, (-1)), (0, 0), (9, 0)], []) :=
  have hK : kt_at 115 = kt_115 := rfl
  (z_R_run hK (n := 6) (g' := (m, 6, [(2, 0), (0, (-1)), (0, (-1)), (0, 0), (9, 0)], [])) rfl).trans (rfl)
theorem b_bur_6  (m : z_M) (x1 : Int) (x2 : Int) (x3 : Int) (v4 : z_V) (h_n : 0 ≤ m 3 11 ∧ m 3 11 ≤ 5) : z_R 115 (m, 6, [(2, 0), (0, x1), (0, x2), (0, x3), v4], []) = if m 3 11 ≤ x3 then if x2 = (-1) then some (m, some (0, (-2))) else (z_R 61 (m, 0, [(2, 18), (2, 12)], [])).bind fun qq => z_R 115 (qq.1, 102, [(2, 0), (0, x1), (0, x2), (0, x3), v4], qq.2.toList ++ []) else if 0 ≤ x3 ∧ x3 < 5 then if m 15 (x3).toNat = (-1) then z_R 115 (m, 6, [(2, 0), (0, x1), (0, x2), (0, x3 + 1), v4], []) else (z_R 61 (m, 0, [(2, 18), (2, 12)], [])).bind fun qq => z_R 115 (qq.1, 41, [(2, 0), (0, x1), (0, x2), (0, x3), v4], qq.2.toList ++ []) else none :=
  have hK : kt_at 115 = kt_115 := rfl
  (z_R_run hK (n := 3) (g' := (m, 11, [(2, 0), (0, x1), (0, x2), (0, x3), v4], [(2, 3), (0, x3)])) rfl).trans ((z_R_run hK (n := 1) (g' := (m, 14, [(2, 0), (0, x1), (0, x2), (0, x3), v4], [(0, m 3 11), (0, x3)])) rfl).trans (z_R_ifd hK (c := m 3 11 ≤ x3) (p1 := 83) (p2 := 17) rfl rfl rfl (fun h1 => (z_R_run hK (n := 2) (g' := (m, 85, [(2, 0), (0, x1), (0, x2), (0, x3), v4], [(0, (-1)), (0, x2)])) rfl).trans (z_R_ifnd hK (c := x2 = (-1)) (p1 := 91) (p2 := 88) rfl rfl rfl (fun h2 => (z_R_run hK (n := 2) (g' := (m, 95, [(2, 0), (0, x1), (0, x2), (0, x3), v4], [(2, 18)])) rfl).trans ((z_R_run hK (n := 2) (g' := (m, 99, [(2, 0), (0, x1), (0, x2), (0, x3), v4], [(2, 12), (2, 18)])) rfl).trans (z_R_call hK rfl rfl rfl rfl rfl))) (fun h2 => (z_R_run hK (n := 1) (g' := (m, 90, [(2, 0), (0, x1), (0, x2), (0, x3), v4], [(0, (-2))])) rfl).trans (z_R_ret hK rfl rfl rfl)))) (fun h1 => (z_R_run hK (n := 2) (g' := (m, 21, [(2, 0), (0, x1), (0, x2), (0, x3), v4], [(2, 12)])) rfl).trans ((z_R_run hK (n := 1) (g' := (m, 24, [(2, 0), (0, x1), (0, x2), (0, x3), v4], [(2, 15)])) rfl).trans ((z_R_run hK (n := 1) (g' := (m, 25, [(2, 0), (0, x1), (0, x2), (0, x3), v4], [(0, x3), (2, 15)])) rfl).trans (z_R_ixD hK (n := 5) (g' := (m, 26, [(2, 0), (0, x1), (0, x2), (0, x3), v4], [(0, m 15 (x3).toNat)])) rfl rfl rfl  (fun h3 => (z_R_run hK (n := 1) (g' := (m, 27, [(2, 0), (0, x1), (0, x2), (0, x3), v4], [(0, (-1)), (0, m 15 (x3).toNat)])) rfl).trans (z_R_ifd hK (c := m 15 (x3).toNat = (-1)) (p1 := 77) (p2 := 30) rfl rfl rfl (fun h4 => (z_R_run hK (n := 1) (g' := (m, 80, [(2, 0), (0, x1), (0, x2), (0, z_add x3 1), v4], [])) rfl).trans ((congrArg (fun vv => z_R 115 (m, 80, [(2, 0), (0, x1), (0, x2), (0, vv), v4], [])) (z_add_eq (by omega) (by omega))).trans ((z_R_run hK (n := 1) (g' := (m, 6, [(2, 0), (0, x1), (0, x2), (0, x3 + 1), v4], [])) rfl).trans (rfl)))) (fun h4 => (z_R_run hK (n := 2) (g' := (m, 34, [(2, 0), (0, x1), (0, x2), (0, x3), v4], [(2, 18)])) rfl).trans ((z_R_run hK (n := 2) (g' := (m, 38, [(2, 0), (0, x1), (0, x2), (0, x3), v4], [(2, 12), (2, 18)])) rfl).trans (z_R_call hK rfl rfl rfl rfl rfl)))))))))))
theorem b_bur_41  (m : z_M) (x1 : Int) (x2 : Int) (x3 : Int) (v4 : z_V) : z_R 115 (m, 41, [(2, 0), (0, x1), (0, x2), (0, x3), v4], []) = if 0 ≤ x3 ∧ x3 < 5 then (z_R 96 (z_up m 21 (x3).toNat (-1), 0, [(2, 24), (2, 18), (0, 100)], [])).bind fun qq => z_R 115 (qq.1, 64, [(2, 0), (0, x1), (0, x2), (0, x3), v4], qq.2.toList ++ []) else none :=
  have hK : kt_at 115 = kt_115 := rfl
  (z_R_run hK (n := 2) (g' := (m, 45, [(2, 0), (0, x1), (0, x2), (0, x3), v4], [(2, 18)])) rfl).trans ((z_R_run hK (n := 1) (g' := (m, 48, [(2, 0), (0, x1), (0, x2), (0, x3), v4], [(2, 21)])) rfl).trans ((z_R_run hK (n := 2) (g' := (m, 50, [(2, 0), (0, x1), (0, x2), (0, x3), v4], [(0, (-1)), (0, x3), (2, 21)])) rfl).trans (z_R_ixD hK (n := 5) (g' := (z_up m 21 (x3).toNat (-1), 51, [(2, 0), (0, x1), (0, x2), (0, x3), v4], [])) rfl rfl rfl (fun h1 => (z_R_run hK (n := 2) (g' := (z_up m 21 (x3).toNat (-1), 55, [(2, 0), (0, x1), (0, x2), (0, x3), v4], [(2, 24)])) rfl).trans ((z_R_run hK (n := 2) (g' := (z_up m 21 (x3).toNat (-1), 59, [(2, 0), (0, x1), (0, x2), (0, x3), v4], [(2, 18), (2, 24)])) rfl).trans ((z_R_run hK (n := 1) (g' := (z_up m 21 (x3).toNat (-1), 61, [(2, 0), (0, x1), (0, x2), (0, x3), v4], [(0, 100), (2, 18), (2, 24)])) rfl).trans (z_R_call hK rfl rfl rfl rfl rfl)))))))
theorem b_bur_64  (m : z_M) (x1 : Int) (x2 : Int) (x3 : Int) (v4 : z_V) (u : Int) : z_R 115 (m, 64, [(2, 0), (0, x1), (0, x2), (0, x3), v4], [(0, u)]) = if u ≤ x1 then z_R 115 (m, 6, [(2, 0), (0, x1), (0, x2), (0, z_add x3 1), (0, u)], []) else z_R 115 (m, 6, [(2, 0), (0, u), (0, x3), (0, z_add x3 1), (0, u)], []) :=
  have hK : kt_at 115 = kt_115 := rfl
  (z_R_run hK (n := 3) (g' := (m, 69, [(2, 0), (0, x1), (0, x2), (0, x3), (0, u)], [(0, x1), (0, u)])) rfl).trans (z_R_ifd hK (c := u ≤ x1) (p1 := 77) (p2 := 72) rfl rfl rfl (fun h1 => (z_R_run hK (n := 2) (g' := (m, 6, [(2, 0), (0, x1), (0, x2), (0, z_add x3 1), (0, u)], [])) rfl).trans (rfl)) (fun h1 => (z_R_run hK (n := 6) (g' := (m, 6, [(2, 0), (0, u), (0, x3), (0, z_add x3 1), (0, u)], [])) rfl).trans (rfl)))
theorem b_bur_102  (m : z_M) (x1 : Int) (x2 : Int) (x3 : Int) (v4 : z_V) : z_R 115 (m, 102, [(2, 0), (0, x1), (0, x2), (0, x3), v4], []) = (z_R 96 (m, 0, [(2, 24), (2, 18), (0, 100)], [])).bind fun qq => z_R 115 (qq.1, 118, [(2, 0), (0, x1), (0, x2), (0, x3), v4], qq.2.toList ++ [(1, z_i2l x1), (2, 0)]) :=
  have hK : kt_at 115 = kt_115 := rfl
  (z_R_run hK (n := 5) (g' := (m, 109, [(2, 0), (0, x1), (0, x2), (0, x3), v4], [(2, 24), (1, z_i2l x1), (2, 0)])) rfl).trans ((z_R_run hK (n := 2) (g' := (m, 113, [(2, 0), (0, x1), (0, x2), (0, x3), v4], [(2, 18), (2, 24), (1, z_i2l x1), (2, 0)])) rfl).trans ((z_R_run hK (n := 1) (g' := (m, 115, [(2, 0), (0, x1), (0, x2), (0, x3), v4], [(0, 100), (2, 18), (2, 24), (1, z_i2l x1), (2, 0)])) rfl).trans (z_R_call hK rfl rfl rfl rfl rfl)))
theorem b_bur_118  (m : z_M) (x1 : Int) (x2 : Int) (x3 : Int) (v4 : z_V) (s0 : Int) (u : Int) : z_R 115 (m, 118, [(2, 0), (0, x1), (0, x2), (0, x3), v4], [(0, u), (1, s0), (2, 0)]) = (z_R 77 (m, 0, [(2, 0), (1, s0), (9, 0), (1, z_i2l u), (9, 0)], [])).bind fun qq => z_R 115 (qq.1, 122, [(2, 0), (0, x1), (0, x2), (0, x3), v4], qq.2.toList ++ []) :=
  have hK : kt_at 115 = kt_115 := rfl
  (z_R_run hK (n := 1) (g' := (m, 119, [(2, 0), (0, x1), (0, x2), (0, x3), v4], [(1, z_i2l u), (1, s0), (2, 0)])) rfl).trans (z_R_call hK rfl rfl rfl rfl rfl)
theorem b_bur_122  (m : z_M) (x1 : Int) (x2 : Int) (x3 : Int) (v4 : z_V) : z_R 115 (m, 122, [(2, 0), (0, x1), (0, x2), (0, x3), v4], []) = some (m, some (0, x2)) :=
  have hK : kt_at 115 = kt_115 := rfl
  (z_R_run hK (n := 1) (g' := (m, 123, [(2, 0), (0, x1), (0, x2), (0, x3), v4], [(0, x2)])) rfl).trans (z_R_ret hK rfl rfl rfl)
theorem b_fl_0  (m : z_M) : z_R 228 (m, 0, [(2, 251), (9, 0)], []) = z_R 228 (z_up m 251 39 0, 7, [(2, 251), (0, 0)], []) :=
  have hK : kt_at 228 = kt_228 := rfl
  (z_R_run hK (n := 5) (g' := (z_up m 251 39 0, 7, [(2, 251), (0, 0)], [])) rfl).trans (rfl)
theorem b_fl_7  (m : z_M) (x1 : Int) (h_n : 0 ≤ m 251 3 ∧ m 251 3 ≤ 5) : z_R 228 (m, 7, [(2, 251), (0, x1)], []) = if m 251 3 ≤ x1 then some (m, none) else if 0 ≤ z_add 18 x1 ∧ z_add 18 x1 < 37 then if m 252 (z_add 18 x1).toNat = (-1) then z_R 228 (m, 7, [(2, 251), (0, z_add x1 1)], []) else if 0 ≤ m 251 39 ∧ m 251 39 < 5 then z_R 228 (z_up (z_up m 265 (m 251 39).toNat x1) 251 39 (m 251 39 + 1), 7, [(2, 251), (0, z_add x1 1)], []) else none else none :=
  have hK : kt_at 228 = kt_228 := rfl
  (z_R_run hK (n := 3) (g' := (m, 12, [(2, 251), (0, x1)], [(0, m 251 3), (0, x1)])) rfl).trans (z_R_ifd hK (c := m 251 3 ≤ x1) (p1 := 57) (p2 := 15) rfl rfl rfl (fun h1 => z_R_ret hK rfl rfl rfl) (fun h1 => (z_R_run hK (n := 2) (g' := (m, 19, [(2, 251), (0, x1)], [(2, 252)])) rfl).trans ((z_R_run hK (n := 3) (g' := (m, 23, [(2, 251), (0, x1)], [(0, z_add 18 x1), (2, 252)])) rfl).trans (z_R_ixD hK (n := 37) (g' := (m, 24, [(2, 251), (0, x1)], [(0, m 252 (z_add 18 x1).toNat)])) rfl rfl rfl  (fun h2 => (z_R_run hK (n := 1) (g' := (m, 25, [(2, 251), (0, x1)], [(0, (-1)), (0, m 252 (z_add 18 x1).toNat)])) rfl).trans (z_R_ifnd hK (c := m 252 (z_add 18 x1).toNat = (-1)) (p1 := 31) (p2 := 28) rfl rfl rfl (fun h3 => (z_R_run hK (n := 2) (g' := (m, 35, [(2, 251), (0, x1)], [(2, 265)])) rfl).trans ((z_R_run hK (n := 3) (g' := (m, 40, [(2, 251), (0, x1)], [(0, x1), (0, m 251 39), (2, 265)])) rfl).trans (z_R_ixD hK (n := 5) (g' := (z_up m 265 (m 251 39).toNat x1, 41, [(2, 251), (0, x1)], [])) rfl rfl rfl (fun h4 => (z_R_run hK (n := 3) (g' := (z_up m 265 (m 251 39).toNat x1, 46, [(2, 251), (0, x1)], [(0, (z_up m 265 (m 251 39).toNat x1) 251 39), (2, 251)])) rfl).trans ((congrArg (fun vv => z_R 228 (z_up m 265 (m 251 39).toNat x1, 46, [(2, 251), (0, x1)], [(0, vv), (2, 251)])) (zu_p (by decide))).trans ((z_R_run hK (n := 2) (g' := (z_up m 265 (m 251 39).toNat x1, 48, [(2, 251), (0, x1)], [(0, z_add (m 251 39) 1), (2, 251)])) rfl).trans ((congrArg (fun vv => z_R 228 (z_up m 265 (m 251 39).toNat x1, 48, [(2, 251), (0, x1)], [(0, vv), (2, 251)])) (z_add_eq (by omega) (by omega))).trans ((z_R_run hK (n := 3) (g' := (z_up (z_up m 265 (m 251 39).toNat x1) 251 39 (m 251 39 + 1), 7, [(2, 251), (0, z_add x1 1)], [])) rfl).trans (rfl))))))))) (fun h3 => (z_R_run hK (n := 3) (g' := (m, 7, [(2, 251), (0, z_add x1 1)], [])) rfl).trans (rfl))))))))
theorem b_tbu_0  (m : z_M) : z_R 238 (m, 0, [(2, 251), (9, 0), (9, 0), (9, 0), (9, 0), (9, 0)], []) = (z_R 228 (z_up m 251 11 0, 0, [(2, 251), (9, 0)], [])).bind fun qq => z_R 238 (qq.1, 9, [(2, 251), (9, 0), (9, 0), (9, 0), (9, 0), (9, 0)], qq.2.toList ++ []) :=
  have hK : kt_at 238 = kt_238 := rfl
  (z_R_run hK (n := 4) (g' := (z_up m 251 11 0, 6, [(2, 251), (9, 0), (9, 0), (9, 0), (9, 0), (9, 0)], [(2, 251)])) rfl).trans (z_R_call hK rfl rfl rfl rfl rfl)
theorem b_tbu_9  (m : z_M) : z_R 238 (m, 9, [(2, 251), (9, 0), (9, 0), (9, 0), (9, 0), (9, 0)], []) = if m 251 39 = 0 then some (m, some (0, (-2))) else (z_R 219 (m, 0, [(2, 251)], [])).bind fun qq => z_R 238 (qq.1, 23, [(2, 251), (9, 0), (9, 0), (9, 0), (9, 0), (9, 0)], qq.2.toList ++ []) :=
  have hK : kt_at 238 = kt_238 := rfl
  (z_R_run hK (n := 2) (g' := (m, 13, [(2, 251), (9, 0), (9, 0), (9, 0), (9, 0), (9, 0)], [(0, m 251 39)])) rfl).trans (z_R_ifnd hK (c := m 251 39 = 0) (p1 := 19) (p2 := 16) rfl rfl rfl (fun h1 => (z_R_run hK (n := 1) (g' := (m, 20, [(2, 251), (9, 0), (9, 0), (9, 0), (9, 0), (9, 0)], [(2, 251)])) rfl).trans (z_R_call hK rfl rfl rfl rfl rfl)) (fun h1 => (z_R_run hK (n := 1) (g' := (m, 18, [(2, 251), (9, 0), (9, 0), (9, 0), (9, 0), (9, 0)], [(0, (-2))])) rfl).trans (z_R_ret hK rfl rfl rfl)))
theorem b_tbu_23  (m : z_M) : z_R 238 (m, 23, [(2, 251), (9, 0), (9, 0), (9, 0), (9, 0), (9, 0)], []) = (z_R 221 (m, 0, [(2, 251), (0, 100), (9, 0), (9, 0)], [])).bind fun qq => z_R 238 (qq.1, 29, [(2, 251), (9, 0), (9, 0), (9, 0), (9, 0), (9, 0)], qq.2.toList ++ []) :=
  have hK : kt_at 238 = kt_238 := rfl
  (z_R_run hK (n := 2) (g' := (m, 26, [(2, 251), (9, 0), (9, 0), (9, 0), (9, 0), (9, 0)], [(0, 100), (2, 251)])) rfl).trans (z_R_call hK rfl rfl rfl rfl rfl)
theorem b_tbu_29  (m : z_M) (u : Int) : z_R 238 (m, 29, [(2, 251), (9, 0), (9, 0), (9, 0), (9, 0), (9, 0)], [(0, u)]) = z_R 238 (m, 37, [(2, 251), (0, u), (0, (-1)), (0, (-1)), (0, 0), (9, 0)], []) :=
  have hK : kt_at 238 = kt_238 := rfl
  (z_R_run hK (n := 7) (g' := (m, 37, [(2, 251), (0, u), (0, (-1)), (0, (-1)), (0, 0), (9, 0)], [])) rfl).trans (rfl)
theorem b_tbu_37  (m : z_M) (x1 : Int) (x2 : Int) (x3 : Int) (x4 : Int) (v5 : z_V) : z_R 238 (m, 37, [(2, 251), (0, x1), (0, x2), (0, x3), (0, x4), v5], []) = if m 251 39 ≤ x4 then (z_R 210 (z_up m 251 10 0, 0, [(2, 251), (1, z_i2l x3), (9, 0)], [])).bind fun qq => z_R 238 (qq.1, 111, [(2, 251), (0, x1), (0, x2), (0, x3), (0, x4), v5], qq.2.toList ++ []) else (z_R 219 (m, 0, [(2, 251)], [])).bind fun qq => z_R 238 (qq.1, 50, [(2, 251), (0, x1), (0, x2), (0, x3), (0, x4), v5], qq.2.toList ++ []) :=
  have hK : kt_at 238 = kt_238 := rfl
  (z_R_run hK (n := 3) (g' := (m, 43, [(2, 251), (0, x1), (0, x2), (0, x3), (0, x4), v5], [(0, m 251 39), (0, x4)])) rfl).trans (z_R_ifd hK (c := m 251 39 ≤ x4) (p1 := 100) (p2 := 46) rfl rfl rfl (fun h1 => (z_R_run hK (n := 6) (g' := (z_up m 251 10 0, 108, [(2, 251), (0, x1), (0, x2), (0, x3), (0, x4), v5], [(1, z_i2l x3), (2, 251)])) rfl).trans (z_R_call hK rfl rfl rfl rfl rfl)) (fun h1 => (z_R_run hK (n := 1) (g' := (m, 47, [(2, 251), (0, x1), (0, x2), (0, x3), (0, x4), v5], [(2, 251)])) rfl).trans (z_R_call hK rfl rfl rfl rfl rfl)))
theorem b_tbu_50  (m : z_M) (x1 : Int) (x2 : Int) (x3 : Int) (x4 : Int) (v5 : z_V) : z_R 238 (m, 50, [(2, 251), (0, x1), (0, x2), (0, x3), (0, x4), v5], []) = if 0 ≤ x4 ∧ x4 < 5 then if 0 ≤ z_add 18 (m 265 (x4).toNat) ∧ z_add 18 (m 265 (x4).toNat) < 37 then (z_R 221 (z_up m 264 (z_add 18 (m 265 (x4).toNat)).toNat (-1), 0, [(2, 251), (0, 100), (9, 0), (9, 0)], [])).bind fun qq => z_R 238 (qq.1, 72, [(2, 251), (0, x1), (0, x2), (0, x3), (0, x4), v5], qq.2.toList ++ []) else none else none :=
  have hK : kt_at 238 = kt_238 := rfl
  (z_R_run hK (n := 2) (g' := (m, 54, [(2, 251), (0, x1), (0, x2), (0, x3), (0, x4), v5], [(2, 264)])) rfl).trans ((z_R_run hK (n := 3) (g' := (m, 60, [(2, 251), (0, x1), (0, x2), (0, x3), (0, x4), v5], [(2, 265), (0, 18), (2, 264)])) rfl).trans ((z_R_run hK (n := 1) (g' := (m, 62, [(2, 251), (0, x1), (0, x2), (0, x3), (0, x4), v5], [(0, x4), (2, 265), (0, 18), (2, 264)])) rfl).trans (z_R_ixD hK (n := 5) (g' := (m, 63, [(2, 251), (0, x1), (0, x2), (0, x3), (0, x4), v5], [(0, m 265 (x4).toNat), (0, 18), (2, 264)])) rfl rfl rfl  (fun h1 => (z_R_run hK (n := 2) (g' := (m, 65, [(2, 251), (0, x1), (0, x2), (0, x3), (0, x4), v5], [(0, (-1)), (0, z_add 18 (m 265 (x4).toNat)), (2, 264)])) rfl).trans (z_R_ixD hK (n := 37) (g' := (z_up m 264 (z_add 18 (m 265 (x4).toNat)).toNat (-1), 66, [(2, 251), (0, x1), (0, x2), (0, x3), (0, x4), v5], [])) rfl rfl rfl (fun h2 => (z_R_run hK (n := 2) (g' := (z_up m 264 (z_add 18 (m 265 (x4).toNat)).toNat (-1), 69, [(2, 251), (0, x1), (0, x2), (0, x3), (0, x4), v5], [(0, 100), (2, 251)])) rfl).trans (z_R_call hK rfl rfl rfl rfl rfl)))))))
theorem b_tbu_72  (m : z_M) (x1 : Int) (x2 : Int) (x3 : Int) (x4 : Int) (v5 : z_V) (u : Int) : z_R 238 (m, 72, [(2, 251), (0, x1), (0, x2), (0, x3), (0, x4), v5], [(0, u)]) = if x3 < u then if 0 ≤ x4 ∧ x4 < 5 then z_R 238 (m, 37, [(2, 251), (0, x1), (0, m 265 (x4).toNat), (0, u), (0, x4 + 1), (0, u)], []) else none else z_R 238 (m, 37, [(2, 251), (0, x1), (0, x2), (0, x3), (0, z_add x4 1), (0, u)], []) :=
  have hK : kt_at 238 = kt_238 := rfl
  (z_R_run hK (n := 3) (g' := (m, 77, [(2, 251), (0, x1), (0, x2), (0, x3), (0, x4), (0, u)], [(0, x3), (0, u)])) rfl).trans (z_R_ifd hK (c := x3 < u) (p1 := 83) (p2 := 80) rfl rfl rfl (fun h1 => (z_R_run hK (n := 2) (g' := (m, 87, [(2, 251), (0, x1), (0, x2), (0, x3), (0, x4), (0, u)], [(2, 265)])) rfl).trans ((z_R_run hK (n := 1) (g' := (m, 89, [(2, 251), (0, x1), (0, x2), (0, x3), (0, x4), (0, u)], [(0, x4), (2, 265)])) rfl).trans (z_R_ixD hK (n := 5) (g' := (m, 90, [(2, 251), (0, x1), (0, x2), (0, x3), (0, x4), (0, u)], [(0, m 265 (x4).toNat)])) rfl rfl rfl  (fun h2 => (z_R_run hK (n := 4) (g' := (m, 97, [(2, 251), (0, x1), (0, m 265 (x4).toNat), (0, u), (0, z_add x4 1), (0, u)], [])) rfl).trans ((congrArg (fun vv => z_R 238 (m, 97, [(2, 251), (0, x1), (0, m 265 (x4).toNat), (0, u), (0, vv), (0, u)], [])) (z_add_eq (by omega) (by omega))).trans ((z_R_run hK (n := 1) (g' := (m, 37, [(2, 251), (0, x1), (0, m 265 (x4).toNat), (0, u), (0, x4 + 1), (0, u)], [])) rfl).trans (rfl))))))) (fun h1 => (z_R_run hK (n := 3) (g' := (m, 37, [(2, 251), (0, x1), (0, x2), (0, x3), (0, z_add x4 1), (0, u)], [])) rfl).trans (rfl)))
theorem b_tbu_111  (m : z_M) (x1 : Int) (x2 : Int) (x3 : Int) (x4 : Int) (v5 : z_V) : z_R 238 (m, 111, [(2, 251), (0, x1), (0, x2), (0, x3), (0, x4), v5], []) = (z_R 210 (m, 0, [(2, 251), (1, z_i2l x1), (9, 0)], [])).bind fun qq => z_R 238 (qq.1, 117, [(2, 251), (0, x1), (0, x2), (0, x3), (0, x4), v5], qq.2.toList ++ []) :=
  have hK : kt_at 238 = kt_238 := rfl
  (z_R_run hK (n := 3) (g' := (m, 114, [(2, 251), (0, x1), (0, x2), (0, x3), (0, x4), v5], [(1, z_i2l x1), (2, 251)])) rfl).trans (z_R_call hK rfl rfl rfl rfl rfl)
theorem b_tbu_117  (m : z_M) (x1 : Int) (x2 : Int) (x3 : Int) (x4 : Int) (v5 : z_V) : z_R 238 (m, 117, [(2, 251), (0, x1), (0, x2), (0, x3), (0, x4), v5], []) = some (m, some (0, x2)) :=
  have hK : kt_at 238 = kt_238 := rfl
  (z_R_run hK (n := 1) (g' := (m, 118, [(2, 251), (0, x1), (0, x2), (0, x3), (0, x4), v5], [(0, x2)])) rfl).trans (z_R_ret hK rfl rfl rfl)
end
section
/-! burden, of what both are in -/
/-- those who are somewhere, from x on -/
def o_ls (A : Nat → Int) : Nat → Nat → List Nat
  | 0, _ => []
  | f + 1, x => if A (x + 18) = -1 then o_ls A f (x + 1) else x :: o_ls A f (x + 1)
/-- the first of those with the most -/
def o_bu (S : Nat → Int) : List Nat → Int → Int → Int
  | [], b, _ => b
  | p :: l, b, v => if v < S p then o_bu S l (p : Int) (S p) else o_bu S l b v
theorem o_bu_nn {S : Nat → Int} : ∀ (l : List Nat) (b v : Int), 0 ≤ b → 0 ≤ o_bu S l b v := by
  intro l
  induction l with
  | nil => intro b v h; exact h
  | cons p l ih =>
    intro b v h
    unfold o_bu
    by_cases c : v < S p
    · rw [if_pos c]; exact ih _ _ (by omega)
    · rw [if_neg c]; exact ih _ _ h
theorem o_ls_len {A : Nat → Int} : ∀ (f x : Nat), (o_ls A f x).length ≤ f ∧ ∀ p ∈ o_ls A f x, p < x + f := by
  intro f
  induction f with
  | zero => intro x; exact ⟨Nat.le_refl _, fun p hp => absurd hp List.not_mem_nil⟩
  | succ f ih =>
    intro x
    obtain ⟨i1, i2⟩ := ih (x + 1)
    unfold o_ls
    by_cases c : A (x + 18) = -1
    · rw [if_pos c]
      exact ⟨by omega, fun p hp => by have := i2 p hp; omega⟩
    · rw [if_neg c]
      refine ⟨Nat.succ_le_succ i1, fun p hp => ?_⟩
      rcases List.mem_cons.mp hp with e | e
      · omega
      · have := i2 p e
        omega
/-- for how many hours they stand without p -/
def o_S (w h n : Nat) (heat price : Int) (cs : List Int) (D A : Nat → Int) (p : Nat) : Int := s_sta w h n heat price cs D (s_F w h A) 100 100 0 (u_up A (p + 18) (-1))
def o_bud (w h n : Nat) (heat price : Int) (cs : List Int) (D A : Nat → Int) (l : List Nat) (b v : Int) : Int := if o_bu (o_S w h n heat price cs D A) l b v = -1 then -2 else o_bu (o_S w h n heat price cs D A) l b v
section
variable {w h n : Nat} {heat price : Int} {D A : Nat → Int} {c : Nat} {U : Nat → Nat → Int} {kn : Nat → Int} {KS : Nat → Nat → Int} {cs : List Int} {m : z_M}
theorem s_F_18 {p : Nat} {v : Int} : s_F w h (u_up A (p + 18) v) = s_F w h A := s_bt_cg 9 0 0 (fun y _ h2 => by rw [u_up_ne (by omega)])
theorem o_S_nn {p : Nat} : 0 ≤ o_S w h n heat price cs D A p := by
  rcases s_sta_x (w := w) (h := h) (n := n) (heat := heat) (price := price) (cs := cs) (D := D) (F := s_F w h A) (N := 100) 100 0 (u_up A (p + 18) (-1)) rfl with z | z
  · unfold o_S
    rw [z]
    decide
  · exact z.1
theorem C_bur1 (hN : w_N w h n heat D) (hok : hr_ok n A) (ht : 0 ≤ A 35 ∧ A 35 ≤ 1073741824) : ∀ (f x : Nat) (b v : Int) (v4 : z_V) (m : z_M), x + f = n → C_is w h n heat price D A c U kn KS cs m → z_w (m 24 6) = m 24 6 → z_w (m 24 9) = m 24 9 → ∃ m1, z_R 115 (m, 6, [(2, 0), (0, v), (0, b), (0, (x : Int)), v4], []) = some (m1, some (0, o_bud w h n heat price cs D A (o_ls A f x) b v)) ∧ C_is w h n heat price D A c U kn KS cs m1 := by
  have h5 := hN.1.2.2
  -- the State without one, laid beside
  have lay : ∀ (m : z_M), C_is w h n heat price D A c U kn KS cs m → ∃ m2, z_R 61 (m, 0, [(2, 18), (2, 12)], []) = some (m2, none) ∧ C_is w h n heat price D A c U kn KS cs m2 ∧ cS m2 18 n = A ∧ m2 24 6 = m 24 6 ∧ m2 24 9 = m 24 9 := by
    intro m hi
    obtain ⟨m2, b1, b2, b3⟩ := c_become z_st_12 z_st_18 (by decide) m
    exact ⟨m2, b1, C_fr hi fun p k hk => by
      have hk' := hk
      unfold C_hit at hk'
      have hk' := of_decide_eq_true hk'
      exact b3.of (by (repeat' (first | exact trivial | refine z_of_c ?_ ?_)) <;> omega), (cS_cR b2).trans hi.2.2.1, b3.of (by (repeat' (first | exact trivial | refine z_of_c ?_ ?_)) <;> omega), b3.of (by (repeat' (first | exact trivial | refine z_of_c ?_ ?_)) <;> omega)⟩
  intro f
  induction f with
  | zero =>
    intro x b v v4 m hx hi k6 k9
    have e11 := hi.1.2.2.1
    rw [b_bur_6 m v b x v4 (by omega), e11, if_pos (by omega)]
    show ∃ m1, _ = some (m1, some (0, if b = -1 then -2 else b)) ∧ _
    by_cases z : b = -1
    · rw [if_pos z, if_pos z]
      exact ⟨m, rfl, hi⟩
    · obtain ⟨m2, b1, b2, b3, b4, b5⟩ := lay m hi
      obtain ⟨m3, c1, c2, -, -⟩ := C_stand hN hok ht b2 b3 (by rw [b4]; exact k6) (by rw [b5]; exact k9) (N := 100) (by decide)
      have c1 : z_R 96 (m2, 0, [(2, 24), (2, 18), (0, 100)], []) = some (m3, some (0, s_sta w h n heat price cs D (s_F w h A) 100 100 0 A)) := c1
      rw [if_neg z, if_neg z, b1, zb_n, b_bur_102, c1, zb_v, b_bur_118, c_tell2, zb_n, b_bur_122]
      exact ⟨_, rfl, C_tell2 c2 _ _⟩
  | succ f ih =>
    intro x b v v4 m hx hi k6 k9
    have e11 := hi.1.2.2.1
    have e15 : m 15 x = A (x + 18) := C_A3 hi (by omega) h5
    rw [b_bur_6 m v b x v4 (by omega), e11, if_neg (by omega), if_pos (show 0 ≤ (x : Int) ∧ (x : Int) < 5 by omega), Int.toNat_natCast, e15, tc1]
    unfold o_ls
    by_cases z : A (x + 18) = -1
    · rw [if_pos z, if_pos z]
      exact ih (x + 1) b v v4 m (by omega) hi k6 k9
    · obtain ⟨m2, b1, b2, b3, b4, b5⟩ := lay m hi
      have hC3 : C_is w h n heat price D A c U kn KS cs (z_up m2 21 x (-1)) := C_upn b2 (by
        have : ∀ x, x < 5 → C_hit 21 x x = false := by decide +kernel
        exact this x (by omega))
      have hA3 : cS (z_up m2 21 x (-1)) 18 n = u_up A (x + 18) (-1) := by
        have e := cS_up3 (m := m2) (s := 18) (j := x) (v := -1) (n := (n : Int)) (by omega) (by omega)
        rw [b3] at e
        exact e
      have j6 : (z_up m2 21 x (-1)) 24 6 = m 24 6 := (zu_p (by decide)).trans b4
      have j9 : (z_up m2 21 x (-1)) 24 9 = m 24 9 := (zu_p (by decide)).trans b5
      rw [if_neg z, if_neg z, b1, zb_n, b_bur_41, if_pos (show 0 ≤ (x : Int) ∧ (x : Int) < 5 by omega), Int.toNat_natCast]
      generalize z_up m2 21 x (-1) = m3 at hC3 hA3 j6 j9 ⊢
      have hok3 : hr_ok n (u_up A (x + 18) (-1)) := hr_ok_up hok (by omega) (fun z => by omega) (fun p h1 h2 => by decide)
      have h35 : u_up A (x + 18) (-1) 35 = A 35 := u_up_ne (by omega)
      obtain ⟨m4, c1, c2, c3, c4⟩ := C_stand hN hok3 (by rw [h35]; exact ht) hC3 hA3 (by rw [j6]; exact k6) (by rw [j9]; exact k9) (N := 100) (by decide)
      rw [s_F_18] at c1
      have c1 : z_R 96 (m3, 0, [(2, 24), (2, 18), (0, 100)], []) = some (m4, some (0, o_S w h n heat price cs D A x)) := c1
      rw [c1, zb_v, b_bur_64, z_add_eq (x := (x : Int)) (y := 1) (by omega) (by omega), tc1]
      have eo : ∀ b v, o_bu (o_S w h n heat price cs D A) (x :: o_ls A f (x + 1)) b v = if v < o_S w h n heat price cs D A x then o_bu (o_S w h n heat price cs D A) (o_ls A f (x + 1)) (x : Int) (o_S w h n heat price cs D A x) else o_bu (o_S w h n heat price cs D A) (o_ls A f (x + 1)) b v := fun _ _ => rfl
      have eb : o_bud w h n heat price cs D A (x :: o_ls A f (x + 1)) b v = if v < o_S w h n heat price cs D A x then o_bud w h n heat price cs D A (o_ls A f (x + 1)) (x : Int) (o_S w h n heat price cs D A x) else o_bud w h n heat price cs D A (o_ls A f (x + 1)) b v := by
        unfold o_bud
        rw [eo]
        by_cases y : v < o_S w h n heat price cs D A x
        · rw [if_pos y, if_pos y]
        · rw [if_neg y, if_neg y]
      rw [eb]
      by_cases y : o_S w h n heat price cs D A x ≤ v
      · rw [if_pos y, if_neg (show ¬ v < o_S w h n heat price cs D A x by omega)]
        exact ih (x + 1) b v _ m4 (by omega) c2 c3 c4
      · rw [if_neg y, if_pos (show v < o_S w h n heat price cs D A x by omega)]
        exact ih (x + 1) x _ _ m4 (by omega) c2 c3 c4
theorem C_burden (hi : C_is w h n heat price D A c U kn KS cs m) (hN : w_N w h n heat D) (hok : hr_ok n A) (ht : 0 ≤ A 35 ∧ A 35 ≤ 1073741824) (k6 : z_w (m 24 6) = m 24 6) (k9 : z_w (m 24 9) = m 24 9) : ∃ m1, z_R 115 (m, 0, [(2, 0), (9, 0), (9, 0), (9, 0), (9, 0)], []) = some (m1, some (0, o_bud w h n heat price cs D A (o_ls A n 0) (-1) (-1))) ∧ C_is w h n heat price D A c U kn KS cs m1 := by
  rw [b_bur_0]
  exact C_bur1 hN hok ht n 0 (-1) (-1) (9, 0) m (by omega) hi k6 k9
/-! the reference -/
def o_hl (m : z_M) : Nat → List Nat → Prop
  | _, [] => True
  | k, p :: l => m 265 k = (p : Int) ∧ o_hl m (k + 1) l
theorem o_hl_fr {m' : z_M} : ∀ (l : List Nat) (k : Nat), o_hl m k l → (∀ j, m' 265 j = m 265 j) → o_hl m' k l := by
  intro l
  induction l with
  | nil => intro k _ _; trivial
  | cons p l ih => intro k hc hf; exact ⟨(hf k).trans hc.1, ih (k + 1) hc.2 hf⟩
theorem R_fl1 (h5 : n ≤ 5) : ∀ (f x k : Nat) (m : z_M), x + f = n → k ≤ x → R_is w h n heat price D A c U kn KS cs m → m 251 39 = (k : Int) → ∃ m1, z_R 228 (m, 7, [(2, 251), (0, (x : Int))], []) = some (m1, none) ∧ m1 251 39 = ((k + (o_ls A f x).length : Nat) : Int) ∧ o_hl m1 k (o_ls A f x) ∧ (∀ p j, ¬ (p = 251 ∧ j = 39) → ¬ (p = 265 ∧ k ≤ j) → m1 p j = m p j) := by
  intro f
  induction f with
  | zero =>
    intro x k m hx hk hi h39
    have e3 := hi.1.2.2.1
    rw [b_fl_7 m x (by omega), e3, if_pos (by omega)]
    exact ⟨m, rfl, h39, trivial, fun _ _ _ _ => rfl⟩
  | succ f ih =>
    intro x k m hx hk hi h39
    have e3 := hi.1.2.2.1
    have e18 : m 252 (x + 18) = A (x + 18) := R_A hi (by omega) (a_vis_p (b := 18) (p := x) (by omega) (by omega) (by omega) (by omega))
    rw [b_fl_7 m x (by omega), e3, if_neg (by omega), z_add_eq (x := 18) (y := (x : Int)) (by omega) (by omega), if_pos (show 0 ≤ 18 + (x : Int) ∧ 18 + (x : Int) < 37 by omega), show (18 + (x : Int)).toNat = x + 18 by omega, e18, z_add_eq (x := (x : Int)) (y := 1) (by omega) (by omega), tc1]
    unfold o_ls
    by_cases z : A (x + 18) = -1
    · rw [if_pos z, if_pos z]
      exact ih (x + 1) k m (by omega) (by omega) hi h39
    · rw [if_neg z, if_neg z, h39, if_pos (show 0 ≤ (k : Int) ∧ (k : Int) < 5 by omega), Int.toNat_natCast, tc1]
      have hR1 : R_is w h n heat price D A c U kn KS cs (z_up (z_up m 265 k (x : Int)) 251 39 ((k + 1 : Nat) : Int)) := R_upn (R_upn hi (by
        have : ∀ k, k < 5 → R_hit 265 k k = false := by decide +kernel
        exact this k (by omega))) (by decide)
      have g39 : (z_up (z_up m 265 k (x : Int)) 251 39 ((k + 1 : Nat) : Int)) 251 39 = ((k + 1 : Nat) : Int) := zu_self
      have g265 : (z_up (z_up m 265 k (x : Int)) 251 39 ((k + 1 : Nat) : Int)) 265 k = (x : Int) := (zu_p (by decide)).trans zu_self
      have gf : ∀ p j, ¬ (p = 251 ∧ j = 39) → ¬ (p = 265 ∧ k ≤ j) → (z_up (z_up m 265 k (x : Int)) 251 39 ((k + 1 : Nat) : Int)) p j = m p j := fun p j n1 n2 => by rw [X_up n1, X_up (fun z => n2 ⟨z.1, by omega⟩)]
      generalize z_up (z_up m 265 k (x : Int)) 251 39 ((k + 1 : Nat) : Int) = m0 at hR1 g39 g265 gf ⊢
      obtain ⟨m1, a1, a2, a3, a4⟩ := ih (x + 1) (k + 1) m0 (by omega) (by omega) hR1 g39
      refine ⟨m1, a1, ?_, ⟨(a4 265 k (by omega) (by omega)).trans g265, a3⟩, fun p j n1 n2 => (a4 p j n1 (fun z => n2 ⟨z.1, by omega⟩)).trans (gf p j n1 n2)⟩
      rw [a2]
      show ((k + 1 + (o_ls A f (x + 1)).length : Nat) : Int) = ((k + ((o_ls A f (x + 1)).length + 1) : Nat) : Int)
      omega
theorem R_bur1 {x1 : Int} (hN : w_N w h n heat D) (hok : hr_ok n A) (ht : 0 ≤ A 35 ∧ A 35 ≤ 1073741824) : ∀ (l : List Nat) (k : Nat) (b v : Int) (v5 : z_V) (m : z_M), k + l.length ≤ 5 → (∀ p ∈ l, p < n) → R_is w h n heat price D A c U kn KS cs m → m 251 39 = ((k + l.length : Nat) : Int) → o_hl m k l → ∃ m1, z_R 238 (m, 37, [(2, 251), (0, x1), (0, b), (0, v), (0, (k : Int)), v5], []) = some (m1, some (0, o_bu (o_S w h n heat price cs D A) l b v)) ∧ R_is w h n heat price D A c U kn KS cs m1 := by
  have h5 := hN.1.2.2
  intro l
  induction l with
  | nil =>
    intro k b v v5 m hk hp hi h39 hl
    have h39 : m 251 39 = (k : Int) := h39
    rw [b_tbu_37, h39, if_pos (Int.le_refl _), t_tell0, zb_n, b_tbu_111, t_tell1, zb_n, b_tbu_117]
    exact ⟨_, rfl, R_upn (R_upn (R_upn (R_upn (R_upn hi (by decide)) (by decide)) (by decide)) (by decide)) (by decide)⟩
  | cons p l ih =>
    intro k b v v5 m hk hp hi h39 hl
    have hk : k + (l.length + 1) ≤ 5 := hk
    have h39 : m 251 39 = ((k + (l.length + 1) : Nat) : Int) := h39
    have hpn := hp p List.mem_cons_self
    obtain ⟨m2, b1, b2, b3⟩ := R_lt hi
    have f2 : ∀ q j, ¬ (q = 264) → m2 q j = m q j := fun q j hq => by
      obtain ⟨m2', d1, -, d3⟩ := t_layd (a := 252) (q := 264) (B := 0) t_lay264_0 t_lay264_2 (by decide) (b := 0) (by decide) m
      have d1 : z_R 198 (m, 0, [(2, 252), (2, 264), (0, 0), (9, 0)], []) = some (m2', none) := d1
      have e : z_R 219 (m, 0, [(2, 251)], []) = some (m2', none) := by rw [q_lt_0, d1, zb_n, q_lt_12]
      rw [b1] at e
      have e := congrArg Prod.fst (Option.some.inj e)
      have e : m2 = m2' := e
      rw [e]
      exact d3 q j (fun z => hq z.1)
    have g265 : m2 265 k = (p : Int) := (f2 265 k (by decide)).trans hl.1
    have hR3 : R_is w h n heat price D A c U kn KS cs (z_up m2 264 (p + 18) (-1)) := R_upn b2 (by
      have : ∀ p, p < 5 → R_hit 264 (p + 18) (p + 18) = false := by decide +kernel
      exact this p (by omega))
    have hA3 : rS (z_up m2 264 (p + 18) (-1)) 264 n = u_up A (p + 18) (-1) := by rw [rS_up (by omega) (a_vis_p (b := 18) (p := p) (by omega) (by omega) (by omega) (by omega)), b3]
    have f3 : ∀ q j, ¬ (q = 264) → (z_up m2 264 (p + 18) (-1)) q j = m q j := fun q j hq => (zu_p hq).trans (f2 q j hq)
    rw [b_tbu_37, h39, if_neg (by omega), b1, zb_n, b_tbu_50, if_pos (show 0 ≤ (k : Int) ∧ (k : Int) < 5 by omega), Int.toNat_natCast, g265, z_add_eq (x := 18) (y := (p : Int)) (by omega) (by omega), if_pos (show 0 ≤ 18 + (p : Int) ∧ 18 + (p : Int) < 37 by omega), show (18 + (p : Int)).toNat = p + 18 by omega]
    generalize z_up m2 264 (p + 18) (-1) = m3 at hR3 hA3 f3 ⊢
    have hok3 : hr_ok n (u_up A (p + 18) (-1)) := hr_ok_up hok (by omega) (fun z => by omega) (fun p h1 h2 => by decide)
    have h35 : u_up A (p + 18) (-1) 35 = A 35 := u_up_ne (by omega)
    obtain ⟨v0, hv0⟩ := q_iceq 9 0 0 m3 (by decide)
    have hv := R_ice (w := w) (h := h) (n := n) hR3.1.1 hR3.1.2.1 hR3.2.2.1 9 0 0 (by decide) (by decide +kernel)
    have hv : z_R 222 (m3, 4, [(2, 251), (0, 0), (0, 0)], []) = some (m3, some (0, s_F w h A)) := hv
    obtain ⟨m4, c1, c2⟩ := R_sta1 (F := s_F w h A) (N := 100) (by decide) hN 100 0 m3 (u_up A (p + 18) (-1)) (by decide) hR3 hA3 hok3 (by rw [h35]; exact ht.1) (by rw [h35]; omega)
    have c1 : z_R 221 (m3, 7, [(2, 251), (0, 100), (0, s_F w h A), (0, 0)], []) = some (m4, some (0, o_S w h n heat price cs D A p)) := c1
    have c3 : z_R 221 (m3, 0, [(2, 251), (0, 100), (9, 0), (9, 0)], []) = some (m4, some (0, o_S w h n heat price cs D A p)) := by rw [q_sta_0, q_ice_0, hv, zb_v, q_sta_4, c1]
    have hR4 := R_off264 hR3 c2
    have f4 : ∀ j, m4 265 j = m 265 j := fun j => (c2.of (by (repeat' (first | exact trivial | refine z_of_c ?_ ?_)) <;> omega)).trans (f3 265 j (by decide))
    have g39 : m4 251 39 = ((k + 1 + l.length : Nat) : Int) := by
      rw [c2.of (p := 251) (k := 39) (by (repeat' (first | exact trivial | refine z_of_c ?_ ?_)) <;> omega), f3 251 39 (by decide), h39]
      omega
    rw [c3, zb_v, b_tbu_72, if_pos (show 0 ≤ (k : Int) ∧ (k : Int) < 5 by omega), Int.toNat_natCast, f4 k, hl.1, z_add_eq (x := (k : Int)) (y := 1) (by omega) (by omega), tc1]
    unfold o_bu
    by_cases y : v < o_S w h n heat price cs D A p
    · rw [if_pos y, if_pos y]
      exact ih (k + 1) p _ _ m4 (by omega) (fun q hq => hp q (List.mem_cons_of_mem _ hq)) hR4 g39 (o_hl_fr l (k + 1) hl.2 f4)
    · rw [if_neg y, if_neg y]
      exact ih (k + 1) b v _ m4 (by omega) (fun q hq => hp q (List.mem_cons_of_mem _ hq)) hR4 g39 (o_hl_fr l (k + 1) hl.2 f4)
theorem R_burden (hi : R_is w h n heat price D A c U kn KS cs m) (hN : w_N w h n heat D) (hok : hr_ok n A) (ht : 0 ≤ A 35 ∧ A 35 ≤ 1073741824) : ∃ m1, z_R 238 (m, 0, [(2, 251), (9, 0), (9, 0), (9, 0), (9, 0), (9, 0)], []) = some (m1, some (0, o_bud w h n heat price cs D A (o_ls A n 0) (-1) (-1))) ∧ R_is w h n heat price D A c U kn KS cs m1 := by
  have hu := R_upn (p0 := 251) (k0 := 39) (v := 0) (R_upn (p0 := 251) (k0 := 11) (v := 0) hi (by decide)) (by decide)
  have g0 : (z_up (z_up m 251 11 0) 251 39 0) 251 39 = ((0 : Nat) : Int) := zu_self
  rw [b_tbu_0, b_fl_0]
  generalize z_up (z_up m 251 11 0) 251 39 0 = m0 at hu g0 ⊢
  obtain ⟨m1, a1, a2, a3, a4⟩ := R_fl1 hN.1.2.2 n 0 0 m0 (by omega) (Nat.le_refl _) hu g0
  have a1 : z_R 228 (m0, 7, [(2, 251), (0, 0)], []) = some (m1, none) := a1
  rw [Nat.zero_add] at a2
  have hR1 : R_is w h n heat price D A c U kn KS cs m1 := R_fr hu fun p k hk => by
    have hk' := hk
    unfold R_hit at hk'
    have hk' := of_decide_eq_true hk'
    exact a4 p k (by omega) (by omega)
  have hlen := o_ls_len (A := A) n 0
  have h5 := hN.1.2.2
  rw [a1, zb_n, b_tbu_9, a2]
  generalize hL : o_ls A n 0 = L at a2 a3 hlen ⊢
  cases L with
  | nil =>
    have e : o_bud w h n heat price cs D A [] (-1) (-1) = -2 := if_pos rfl
    rw [if_pos (show ((([] : List Nat).length : Nat) : Int) = 0 from rfl), e]
    exact ⟨m1, rfl, hR1⟩
  | cons p l =>
    have hS := o_S_nn (w := w) (h := h) (n := n) (heat := heat) (price := price) (cs := cs) (D := D) (A := A) (p := p)
    have e0 : o_bu (o_S w h n heat price cs D A) (p :: l) (-1) (-1) = o_bu (o_S w h n heat price cs D A) l (p : Int) (o_S w h n heat price cs D A p) := if_pos (by omega)
    have e1 := o_bu_nn (S := o_S w h n heat price cs D A) l (p : Int) (o_S w h n heat price cs D A p) (by omega)
    have e : o_bud w h n heat price cs D A (p :: l) (-1) (-1) = o_bu (o_S w h n heat price cs D A) (p :: l) (-1) (-1) := if_neg (by rw [e0]; omega)
    obtain ⟨m2, b1, b2, b3⟩ := R_lt hR1
    have f2 : ∀ q j, ¬ (q = 264) → m2 q j = m1 q j := fun q j hq => by
      obtain ⟨m2', d1, -, d3⟩ := t_layd (a := 252) (q := 264) (B := 0) t_lay264_0 t_lay264_2 (by decide) (b := 0) (by decide) m1
      have d1 : z_R 198 (m1, 0, [(2, 252), (2, 264), (0, 0), (9, 0)], []) = some (m2', none) := d1
      have e : z_R 219 (m1, 0, [(2, 251)], []) = some (m2', none) := by rw [q_lt_0, d1, zb_n, q_lt_12]
      rw [b1] at e
      have e := congrArg Prod.fst (Option.some.inj e)
      have e : m2 = m2' := e
      rw [e]
      exact d3 q j (fun z => hq z.1)
    have hv := R_ice (w := w) (h := h) (n := n) b2.1.1 b2.1.2.1 b2.2.2.1 9 0 0 (by decide) (by decide +kernel)
    have hv : z_R 222 (m2, 4, [(2, 251), (0, 0), (0, 0)], []) = some (m2, some (0, s_F w h A)) := hv
    obtain ⟨m3, c1, c2⟩ := R_sta1 (F := s_F w h A) (N := 100) (by decide) hN 100 0 m2 A (by decide) b2 b3 hok ht.1 (by omega)
    have c1 : z_R 221 (m2, 7, [(2, 251), (0, 100), (0, s_F w h A), (0, 0)], []) = some (m3, some (0, s_sta w h n heat price cs D (s_F w h A) 100 100 0 A)) := c1
    have c3 : z_R 221 (m2, 0, [(2, 251), (0, 100), (9, 0), (9, 0)], []) = some (m3, some (0, s_sta w h n heat price cs D (s_F w h A) 100 100 0 A)) := by rw [q_sta_0, q_ice_0, hv, zb_v, q_sta_4, c1]
    have hR3 := R_off264 b2 c2
    have f3 : ∀ j, m3 265 j = m1 265 j := fun j => (c2.of (by (repeat' (first | exact trivial | refine z_of_c ?_ ?_)) <;> omega)).trans (f2 265 j (by decide))
    have g39 : m3 251 39 = (((p :: l).length : Nat) : Int) := by rw [c2.of (p := 251) (k := 39) (by (repeat' (first | exact trivial | refine z_of_c ?_ ?_)) <;> omega), f2 251 39 (by decide), a2]
    obtain ⟨m4, d1, d2⟩ := R_bur1 (x1 := s_sta w h n heat price cs D (s_F w h A) 100 100 0 A) hN hok ht (p :: l) 0 (-1) (-1) (9, 0) m3 (by omega) (fun q hq => by have := hlen.2 q hq; omega) hR3 (by rw [Nat.zero_add]; exact g39) (o_hl_fr (p :: l) 0 a3 f3)
    have d1 : z_R 238 (m3, 37, [(2, 251), (0, s_sta w h n heat price cs D (s_F w h A) 100 100 0 A), (0, -1), (0, -1), (0, 0), (9, 0)], []) = some (m4, some (0, o_bu (o_S w h n heat price cs D A) (p :: l) (-1) (-1))) := d1
    have hn0 : ¬ (((p :: l).length : Nat) : Int) = 0 := by
      show ¬ ((l.length + 1 : Nat) : Int) = 0
      omega
    rw [if_neg hn0, b1, zb_n, b_tbu_23, c3, zb_v, b_tbu_29, d1, e]
    exact ⟨m4, rfl, d2⟩
end
theorem core_burden : l_rel2 Rel_C (855, 128, 115, 0, false, 860, 131, 238) := by
  intro M1 M2 M3 σ σ1 σ2 as v1 v2 C1 C2 ρ1 ρ2 ha hR hh hM1 hC1 hp1 hE1 hC2 hp2 hE2
  obtain rfl := as_nil ha
  have hE1 : z_R 115 (z_m σ, 0, [(2, 0), (9, 0), (9, 0), (9, 0), (9, 0)], []) = some (z_m σ1, some (0, v1.toInt)) := z_R_iff.mpr hE1
  have hE2 : z_R 238 (z_m σ1, 0, [(2, 251), (9, 0), (9, 0), (9, 0), (9, 0), (9, 0)], []) = some (z_m σ2, some (0, v2.toInt)) := z_R_iff.mpr hE2
  have hT := T_two (y1 := 115) (y2 := 238) (by decide +kernel) (by decide +kernel) hC1 hC2 hp1 hp2 hR.1
  obtain ⟨w, h, n, heat, price, D, A, c, U, kn, KS, cs, cC, cR, cW⟩ := hR.2
  obtain ⟨b1, b2, -, -, hok, b35, -, b7⟩ := core_b hh hM1 cR
  have hN : w_N w h n heat D := ⟨b1, b2, b7⟩
  have kk := core_24 hh
  have f1 := R_off2_ok (y := 115) (by decide +kernel) hC1 hp1
  have f2 := C_off_ok (y := 238) (by decide +kernel) hC2 hp2
  have cR1 := R_fr cR f1
  have z := core_do cR1 (fun q => C_fr q f2) (C_burden cC hN hok b35 kk.1 kk.2) (fun q => R_burden q hN hok b35) hE1 hE2
  exact ⟨⟨hT, Core_mk z.1.1 z.1.2 cW⟩, fun _ => z.2⟩
end
section
/-! STRETCHES of warm, with bounds done -/
theorem u_wof_0  (m : z_M) (r : Int) (b : Int) : z_R 119 (m, 0, [(2, 24), (2, 12), (0, r), (0, b), (9, 0), (9, 0)], []) = if m 12 6 = r then z_R 119 (m, 24, [(2, 24), (2, 12), (0, r), (0, b), (0, m 3 12), (0, 0)], []) else z_R 119 (m, 24, [(2, 24), (2, 12), (0, r), (0, b), (0, 0), (0, 0)], []) :=
  have hK : kt_at 119 = kt_119 := rfl
  (z_R_run hK (n := 3) (g' := (m, 5, [(2, 24), (2, 12), (0, r), (0, b), (9, 0), (9, 0)], [(0, r), (0, m 12 6)])) rfl).trans (z_R_ifnd hK (c := m 12 6 = r) (p1 := 18) (p2 := 8) rfl rfl rfl (fun h1 => (z_R_run hK (n := 4) (g' := (m, 24, [(2, 24), (2, 12), (0, r), (0, b), (0, 0), (0, 0)], [])) rfl).trans (rfl)) (fun h1 => (z_R_run hK (n := 2) (g' := (m, 12, [(2, 24), (2, 12), (0, r), (0, b), (9, 0), (9, 0)], [(2, 3)])) rfl).trans ((z_R_run hK (n := 5) (g' := (m, 24, [(2, 24), (2, 12), (0, r), (0, b), (0, m 3 12), (0, 0)], [])) rfl).trans (rfl))))
theorem u_wof_24  (m : z_M) (x2 : Int) (x3 : Int) (x4 : Int) (x5 : Int) (h_n : 0 ≤ m 3 11 ∧ m 3 11 ≤ 5) : z_R 119 (m, 24, [(2, 24), (2, 12), (0, x2), (0, x3), (0, x4), (0, x5)], []) = if m 3 11 ≤ x5 then some (m, some (0, x4)) else if z_and (z_shr x3 x5) 1 = 0 then z_R 119 (m, 24, [(2, 24), (2, 12), (0, x2), (0, x3), (0, x4), (0, z_add x5 1)], []) else (z_R 70 (m, 0, [(2, 24), (0, x5), (0, m 12 7), (9, 0)], [])).bind fun qq => z_R 119 (qq.1, 57, [(2, 24), (2, 12), (0, x2), (0, x3), (0, x4), (0, x5)], qq.2.toList ++ [(0, x4)]) :=
  have hK : kt_at 119 = kt_119 := rfl
  (z_R_run hK (n := 3) (g' := (m, 30, [(2, 24), (2, 12), (0, x2), (0, x3), (0, x4), (0, x5)], [(2, 3), (0, x5)])) rfl).trans ((z_R_run hK (n := 1) (g' := (m, 33, [(2, 24), (2, 12), (0, x2), (0, x3), (0, x4), (0, x5)], [(0, m 3 11), (0, x5)])) rfl).trans (z_R_ifd hK (c := m 3 11 ≤ x5) (p1 := 66) (p2 := 36) rfl rfl rfl (fun h1 => (z_R_run hK (n := 1) (g' := (m, 68, [(2, 24), (2, 12), (0, x2), (0, x3), (0, x4), (0, x5)], [(0, x4)])) rfl).trans (z_R_ret hK rfl rfl rfl)) (fun h1 => (z_R_run hK (n := 5) (g' := (m, 42, [(2, 24), (2, 12), (0, x2), (0, x3), (0, x4), (0, x5)], [(0, z_and (z_shr x3 x5) 1)])) rfl).trans (z_R_ifd hK (c := z_and (z_shr x3 x5) 1 = 0) (p1 := 60) (p2 := 45) rfl rfl rfl (fun h2 => (z_R_run hK (n := 2) (g' := (m, 24, [(2, 24), (2, 12), (0, x2), (0, x3), (0, x4), (0, z_add x5 1)], [])) rfl).trans (rfl)) (fun h2 => (z_R_run hK (n := 5) (g' := (m, 54, [(2, 24), (2, 12), (0, x2), (0, x3), (0, x4), (0, x5)], [(0, m 12 7), (0, x5), (2, 24), (0, x4)])) rfl).trans (z_R_call hK rfl rfl rfl rfl rfl))))))
theorem u_wof_57  (m : z_M) (x2 : Int) (x3 : Int) (x4 : Int) (x5 : Int) (s0 : Int) (u : Int) : z_R 119 (m, 57, [(2, 24), (2, 12), (0, x2), (0, x3), (0, x4), (0, x5)], [(0, u), (0, s0)]) = z_R 119 (m, 24, [(2, 24), (2, 12), (0, x2), (0, x3), (0, z_add s0 u), (0, z_add x5 1)], []) :=
  have hK : kt_at 119 = kt_119 := rfl
  (z_R_run hK (n := 4) (g' := (m, 24, [(2, 24), (2, 12), (0, x2), (0, x3), (0, z_add s0 u), (0, z_add x5 1)], [])) rfl).trans (rfl)
theorem u_mbs_0  (m : z_M) (r : Int) (b : Int) : z_R 118 (m, 0, [(2, 24), (2, 12), (0, r), (0, b)], []) = (z_R 119 (m, 0, [(2, 24), (2, 12), (0, r), (0, b), (9, 0), (9, 0)], [])).bind fun qq => z_R 118 (qq.1, 10, [(2, 24), (2, 12), (0, r), (0, b)], qq.2.toList ++ [(0, r), (2, 12), (2, 24)]) :=
  have hK : kt_at 118 = kt_118 := rfl
  (z_R_run hK (n := 7) (g' := (m, 7, [(2, 24), (2, 12), (0, r), (0, b)], [(0, b), (0, r), (2, 12), (2, 24), (0, r), (2, 12), (2, 24)])) rfl).trans (z_R_call hK rfl rfl rfl rfl rfl)
theorem u_mbs_10  (m : z_M) (x2 : Int) (x3 : Int) (s0 : Int) (u : Int) : z_R 118 (m, 10, [(2, 24), (2, 12), (0, x2), (0, x3)], [(0, u), (0, s0), (2, 12), (2, 24)]) = (z_R 101 (m, 0, [(0, x3)], [])).bind fun qq => z_R 118 (qq.1, 14, [(2, 24), (2, 12), (0, x2), (0, x3)], qq.2.toList ++ [(0, u), (0, s0), (2, 12), (2, 24)]) :=
  have hK : kt_at 118 = kt_118 := rfl
  (z_R_run hK (n := 1) (g' := (m, 11, [(2, 24), (2, 12), (0, x2), (0, x3)], [(0, x3), (0, u), (0, s0), (2, 12), (2, 24)])) rfl).trans (z_R_call hK rfl rfl rfl rfl rfl)
theorem u_mbs_14  (m : z_M) (x2 : Int) (x3 : Int) (s0 : Int) (s1 : Int) (u : Int) : z_R 118 (m, 14, [(2, 24), (2, 12), (0, x2), (0, x3)], [(0, u), (0, s0), (0, s1), (2, 12), (2, 24)]) = (z_R 120 (m, 0, [(2, 24), (2, 12), (0, s1), (0, s0), (0, u)], [])).bind fun qq => z_R 118 (qq.1, 17, [(2, 24), (2, 12), (0, x2), (0, x3)], qq.2.toList ++ []) :=
  have hK : kt_at 118 = kt_118 := rfl
  z_R_call hK rfl rfl rfl rfl rfl
theorem u_mbs_17  (m : z_M) (x2 : Int) (x3 : Int) (u : Int) : z_R 118 (m, 17, [(2, 24), (2, 12), (0, x2), (0, x3)], [(0, u)]) = some (m, some (0, u)) :=
  have hK : kt_at 118 = kt_118 := rfl
  z_R_ret hK rfl rfl rfl
theorem u_mby_0  (m : z_M) (r : Int) (a : Int) (b : Int) (h_r : 0 ≤ r ∧ r ≤ 8) : z_R 120 (m, 0, [(2, 24), (2, 12), (0, r), (0, a), (0, b)], []) = (z_R 71 (m, 0, [(2, 4), (0, a), (0, m 13 (r).toNat), (0, m 14 (r).toNat), (0, m 12 8), (0, r / 3), (0, b), (0, m 12 7), (9, 0), (9, 0), (9, 0)], [])).bind fun qq => z_R 120 (qq.1, 48, [(2, 24), (2, 12), (0, r), (0, a), (0, b)], qq.2.toList ++ []) :=
  have hK : kt_at 120 = kt_120 := rfl
  (z_R_run hK (n := 1) (g' := (m, 1, [(2, 24), (2, 12), (0, r), (0, a), (0, b)], [(0, r)])) rfl).trans (z_R_if0 hK (c := r < 0) (p1 := 10) (p2 := 4) rfl rfl rfl (show ¬ (r < 0) by omega) ((z_R_run hK (n := 2) (g' := (m, 7, [(2, 24), (2, 12), (0, r), (0, a), (0, b)], [(0, 9), (0, r)])) rfl).trans (z_R_if1 hK (c := r < 9) (p1 := 12) (p2 := 10) rfl rfl rfl (show r < 9 by omega) ((z_R_run hK (n := 2) (g' := (m, 16, [(2, 24), (2, 12), (0, r), (0, a), (0, b)], [(2, 3)])) rfl).trans ((z_R_run hK (n := 1) (g' := (m, 19, [(2, 24), (2, 12), (0, r), (0, a), (0, b)], [(2, 4)])) rfl).trans ((z_R_run hK (n := 3) (g' := (m, 24, [(2, 24), (2, 12), (0, r), (0, a), (0, b)], [(2, 13), (0, a), (2, 4)])) rfl).trans ((z_R_run hK (n := 1) (g' := (m, 25, [(2, 24), (2, 12), (0, r), (0, a), (0, b)], [(0, r), (2, 13), (0, a), (2, 4)])) rfl).trans (z_R_ixT hK (n := 9) (g' := (m, 26, [(2, 24), (2, 12), (0, r), (0, a), (0, b)], [(0, m 13 (r).toNat), (0, a), (2, 4)])) rfl rfl rfl  (show 0 ≤ r ∧ r < 9 by omega) ((z_R_run hK (n := 2) (g' := (m, 30, [(2, 24), (2, 12), (0, r), (0, a), (0, b)], [(2, 14), (0, m 13 (r).toNat), (0, a), (2, 4)])) rfl).trans ((z_R_run hK (n := 1) (g' := (m, 31, [(2, 24), (2, 12), (0, r), (0, a), (0, b)], [(0, r), (2, 14), (0, m 13 (r).toNat), (0, a), (2, 4)])) rfl).trans (z_R_ixT hK (n := 9) (g' := (m, 32, [(2, 24), (2, 12), (0, r), (0, a), (0, b)], [(0, m 14 (r).toNat), (0, m 13 (r).toNat), (0, a), (2, 4)])) rfl rfl rfl  (show 0 ≤ r ∧ r < 9 by omega) ((z_R_run hK (n := 5) (g' := (m, 39, [(2, 24), (2, 12), (0, r), (0, a), (0, b)], [(0, z_div r 3), (0, m 12 8), (0, m 14 (r).toNat), (0, m 13 (r).toNat), (0, a), (2, 4)])) rfl).trans ((congrArg (fun vv => z_R 120 (m, 39, [(2, 24), (2, 12), (0, r), (0, a), (0, b)], [(0, vv), (0, m 12 8), (0, m 14 (r).toNat), (0, m 13 (r).toNat), (0, a), (2, 4)])) (z_div_nn (by omega) (by omega) (by decide) (by decide))).trans ((z_R_run hK (n := 3) (g' := (m, 45, [(2, 24), (2, 12), (0, r), (0, a), (0, b)], [(0, m 12 7), (0, b), (0, r / 3), (0, m 12 8), (0, m 14 (r).toNat), (0, m 13 (r).toNat), (0, a), (2, 4)])) rfl).trans (z_R_call hK rfl rfl rfl rfl rfl)))))))))))))))
theorem u_mby_48  (m : z_M) (x2 : Int) (x3 : Int) (x4 : Int) (u : Int) : z_R 120 (m, 48, [(2, 24), (2, 12), (0, x2), (0, x3), (0, x4)], [(0, u)]) = some (m, some (0, u)) :=
  have hK : kt_at 120 = kt_120 := rfl
  z_R_ret hK rfl rfl rfl
theorem u_wrm_0  (m : z_M) (r : Int) (v : Int) : z_R 125 (m, 0, [(2, 0), (0, r), (0, v), (9, 0), (9, 0), (9, 0), (9, 0)], []) = if ¬ u_hs (m 3 8) (m 3 9) r = 0 then if v < 0 then some (m, some (0, (-1))) else if v ≤ 99 then z_R 125 (m, 34, [(2, 0), (0, r), (0, v), (0, (-1)), (0, 0), (0, 0), (0, 0)], []) else some (m, some (0, (-1))) else some (m, some (0, (-1))) :=
  have hK : kt_at 125 = kt_125 := rfl
  (z_R_run hK (n := 2) (g' := (m, 4, [(2, 0), (0, r), (0, v), (9, 0), (9, 0), (9, 0), (9, 0)], [(2, 3)])) rfl).trans ((z_R_run hK (n := 1) (g' := (m, 5, [(2, 0), (0, r), (0, v), (9, 0), (9, 0), (9, 0), (9, 0)], [(0, r), (2, 3)])) rfl).trans (z_R_cif hK rfl rfl rfl rfl rfl (c_ifhas _ _ rfl rfl) (fun h1 => have h4 := u_hs_rng h1; (z_R_run hK (n := 2) (g' := (m, 12, [(2, 0), (0, r), (0, v), (9, 0), (9, 0), (9, 0), (9, 0)], [(0, v)])) rfl).trans (z_R_ifd hK (c := v < 0) (p1 := 21) (p2 := 15) rfl rfl rfl (fun h2 => (z_R_run hK (n := 1) (g' := (m, 22, [(2, 0), (0, r), (0, v), (9, 0), (9, 0), (9, 0), (9, 0)], [(0, (-1))])) rfl).trans (z_R_ret hK rfl rfl rfl)) (fun h2 => (z_R_run hK (n := 2) (g' := (m, 18, [(2, 0), (0, r), (0, v), (9, 0), (9, 0), (9, 0), (9, 0)], [(0, 99), (0, v)])) rfl).trans (z_R_ifd hK (c := v ≤ 99) (p1 := 23) (p2 := 21) rfl rfl rfl (fun h3 => (z_R_run hK (n := 8) (g' := (m, 34, [(2, 0), (0, r), (0, v), (0, (-1)), (0, 0), (0, 0), (0, 0)], [])) rfl).trans (rfl)) (fun h3 => (z_R_run hK (n := 1) (g' := (m, 22, [(2, 0), (0, r), (0, v), (9, 0), (9, 0), (9, 0), (9, 0)], [(0, (-1))])) rfl).trans (z_R_ret hK rfl rfl rfl)))))) (fun h1 => (z_R_run hK (n := 2) (g' := (m, 22, [(2, 0), (0, r), (0, v), (9, 0), (9, 0), (9, 0), (9, 0)], [(0, (-1))])) rfl).trans (z_R_ret hK rfl rfl rfl))))
theorem u_wrm_34  (m : z_M) (x1 : Int) (x2 : Int) (x3 : Int) (x4 : Int) (x5 : Int) (x6 : Int) : z_R 125 (m, 34, [(2, 0), (0, x1), (0, x2), (0, x3), (0, x4), (0, x5), (0, x6)], []) = if z_shl 1 (m 3 11) ≤ x6 then (z_R 77 (m, 0, [(2, 0), (1, z_i2l x3), (9, 0), (1, z_i2l x4), (9, 0)], [])).bind fun qq => z_R 125 (qq.1, 113, [(2, 0), (0, x1), (0, x2), (0, x3), (0, x4), (0, x5), (0, x6)], qq.2.toList ++ []) else (z_R 118 (m, 0, [(2, 24), (2, 12), (0, x1), (0, x6)], [])).bind fun qq => z_R 125 (qq.1, 62, [(2, 0), (0, x1), (0, x2), (0, x3), (0, x4), (0, x5), (0, x6)], qq.2.toList ++ []) :=
  have hK : kt_at 125 = kt_125 := rfl
  (z_R_run hK (n := 4) (g' := (m, 41, [(2, 0), (0, x1), (0, x2), (0, x3), (0, x4), (0, x5), (0, x6)], [(2, 3), (0, 1), (0, x6)])) rfl).trans ((z_R_run hK (n := 2) (g' := (m, 45, [(2, 0), (0, x1), (0, x2), (0, x3), (0, x4), (0, x5), (0, x6)], [(0, z_shl 1 (m 3 11)), (0, x6)])) rfl).trans (z_R_ifd hK (c := z_shl 1 (m 3 11) ≤ x6) (p1 := 104) (p2 := 48) rfl rfl rfl (fun h1 => (z_R_run hK (n := 5) (g' := (m, 110, [(2, 0), (0, x1), (0, x2), (0, x3), (0, x4), (0, x5), (0, x6)], [(1, z_i2l x4), (1, z_i2l x3), (2, 0)])) rfl).trans (z_R_call hK rfl rfl rfl rfl rfl)) (fun h1 => (z_R_run hK (n := 2) (g' := (m, 52, [(2, 0), (0, x1), (0, x2), (0, x3), (0, x4), (0, x5), (0, x6)], [(2, 24)])) rfl).trans ((z_R_run hK (n := 2) (g' := (m, 56, [(2, 0), (0, x1), (0, x2), (0, x3), (0, x4), (0, x5), (0, x6)], [(2, 12), (2, 24)])) rfl).trans ((z_R_run hK (n := 2) (g' := (m, 59, [(2, 0), (0, x1), (0, x2), (0, x3), (0, x4), (0, x5), (0, x6)], [(0, x6), (0, x1), (2, 12), (2, 24)])) rfl).trans (z_R_call hK rfl rfl rfl rfl rfl))))))
theorem u_wrm_62  (m : z_M) (x1 : Int) (x2 : Int) (x3 : Int) (x4 : Int) (x5 : Int) (x6 : Int) (u : Int) : z_R 125 (m, 62, [(2, 0), (0, x1), (0, x2), (0, x3), (0, x4), (0, x5), (0, x6)], [(0, u)]) = if u = x2 then if x5 = 0 then z_R 125 (m, 34, [(2, 0), (0, x1), (0, x2), (0, x6), (0, x6), (0, x5 + 1), (0, z_add x6 1)], []) else if x5 = 0 then z_R 125 (m, 34, [(2, 0), (0, x1), (0, x2), (0, x3), (0, x6), (0, x5 + 1), (0, z_add x6 1)], []) else z_R 125 (m, 34, [(2, 0), (0, x1), (0, x2), (0, x3), (0, z_and x4 x6), (0, z_add x5 1), (0, z_add x6 1)], []) else z_R 125 (m, 34, [(2, 0), (0, x1), (0, x2), (0, x3), (0, x4), (0, x5), (0, z_add x6 1)], []) :=
  have hK : kt_at 125 = kt_125 := rfl
  (z_R_run hK (n := 1) (g' := (m, 63, [(2, 0), (0, x1), (0, x2), (0, x3), (0, x4), (0, x5), (0, x6)], [(0, x2), (0, u)])) rfl).trans (z_R_ifnd hK (c := u = x2) (p1 := 98) (p2 := 66) rfl rfl rfl (fun h1 => (z_R_run hK (n := 2) (g' := (m, 34, [(2, 0), (0, x1), (0, x2), (0, x3), (0, x4), (0, x5), (0, z_add x6 1)], [])) rfl).trans (rfl)) (fun h1 => (z_R_run hK (n := 1) (g' := (m, 68, [(2, 0), (0, x1), (0, x2), (0, x3), (0, x4), (0, x5), (0, x6)], [(0, x5)])) rfl).trans (z_R_ifnd hK (c := x5 = 0) (p1 := 76) (p2 := 71) rfl rfl rfl (fun h2 => (z_R_run hK (n := 3) (g' := (m, 80, [(2, 0), (0, x1), (0, x2), (0, x3), (0, x4), (0, x5), (0, x6)], [(0, x5)])) rfl).trans (z_R_ifnd hK (c := x5 = 0) (p1 := 88) (p2 := 83) rfl rfl rfl (fun h3 => (z_R_run hK (n := 7) (g' := (m, 34, [(2, 0), (0, x1), (0, x2), (0, x3), (0, z_and x4 x6), (0, z_add x5 1), (0, z_add x6 1)], [])) rfl).trans (rfl)) (fun h3 => (z_R_run hK (n := 4) (g' := (m, 98, [(2, 0), (0, x1), (0, x2), (0, x3), (0, x6), (0, z_add x5 1), (0, x6)], [])) rfl).trans ((congrArg (fun vv => z_R 125 (m, 98, [(2, 0), (0, x1), (0, x2), (0, x3), (0, x6), (0, vv), (0, x6)], [])) (z_add_eq (by omega) (by omega))).trans ((z_R_run hK (n := 2) (g' := (m, 34, [(2, 0), (0, x1), (0, x2), (0, x3), (0, x6), (0, x5 + 1), (0, z_add x6 1)], [])) rfl).trans (rfl)))))) (fun h2 => (z_R_run hK (n := 4) (g' := (m, 80, [(2, 0), (0, x1), (0, x2), (0, x6), (0, x4), (0, x5), (0, x6)], [(0, x5)])) rfl).trans (z_R_ifn1 hK (c := x5 = 0) (p1 := 88) (p2 := 83) rfl rfl rfl (show x5 = 0 by omega) ((z_R_run hK (n := 4) (g' := (m, 98, [(2, 0), (0, x1), (0, x2), (0, x6), (0, x6), (0, z_add x5 1), (0, x6)], [])) rfl).trans ((congrArg (fun vv => z_R 125 (m, 98, [(2, 0), (0, x1), (0, x2), (0, x6), (0, x6), (0, vv), (0, x6)], [])) (z_add_eq (by omega) (by omega))).trans ((z_R_run hK (n := 2) (g' := (m, 34, [(2, 0), (0, x1), (0, x2), (0, x6), (0, x6), (0, x5 + 1), (0, z_add x6 1)], [])) rfl).trans (rfl)))))))))
theorem u_wrm_113  (m : z_M) (x1 : Int) (x2 : Int) (x3 : Int) (x4 : Int) (x5 : Int) (x6 : Int) : z_R 125 (m, 113, [(2, 0), (0, x1), (0, x2), (0, x3), (0, x4), (0, x5), (0, x6)], []) = some (m, some (0, x5)) :=
  have hK : kt_at 125 = kt_125 := rfl
  (z_R_run hK (n := 1) (g' := (m, 115, [(2, 0), (0, x1), (0, x2), (0, x3), (0, x4), (0, x5), (0, x6)], [(0, x5)])) rfl).trans (z_R_ret hK rfl rfl rfl)
theorem u_twr_0  (m : z_M) (r : Int) (v : Int) : z_R 243 (m, 0, [(2, 251), (0, r), (0, v), (9, 0), (9, 0), (9, 0), (9, 0)], []) = if ¬ u_hs (m 251 1) (m 251 2) r = 0 then if 0 ≤ v ∧ v ≤ 99 then z_R 243 (z_up m 251 11 0, 43, [(2, 251), (0, r), (0, v), (0, 0), (0, (-1)), (0, z_sub (z_shl 1 (m 251 3)) 1), (0, 0)], []) else some (z_up m 251 11 0, some (0, (-1))) else some (z_up m 251 11 0, some (0, (-1))) :=
  have hK : kt_at 243 = kt_243 := rfl
  (z_R_run hK (n := 5) (g' := (z_up m 251 11 0, 7, [(2, 251), (0, r), (0, v), (9, 0), (9, 0), (9, 0), (9, 0)], [(0, r), (2, 251)])) rfl).trans (z_R_cif hK rfl rfl rfl rfl rfl (t_ifroom _ _ (zu_k (by decide)) (zu_k (by decide))) (fun h1 => have h3 := u_hs_rng h1; (z_R_run hK (n := 4) (g' := (z_up m 251 11 0, 17, [(2, 251), (0, r), (0, v), (9, 0), (9, 0), (9, 0), (9, 0)], [(0, 99), (0, 0), (0, v)])) rfl).trans (z_R_cif hK rfl rfl rfl rfl rfl (t_ifin _ _ _ _) (fun h2 => (z_R_run hK (n := 8) (g' := (z_up m 251 11 0, 35, [(2, 251), (0, r), (0, v), (0, 0), (0, (-1)), (9, 0), (9, 0)], [(0, (z_up m 251 11 0) 251 3), (0, 1)])) rfl).trans ((congrArg (fun vv => z_R 243 (z_up m 251 11 0, 35, [(2, 251), (0, r), (0, v), (0, 0), (0, (-1)), (9, 0), (9, 0)], [(0, vv), (0, 1)])) (zu_k (by decide))).trans ((z_R_run hK (n := 6) (g' := (z_up m 251 11 0, 43, [(2, 251), (0, r), (0, v), (0, 0), (0, (-1)), (0, z_sub (z_shl 1 (m 251 3)) 1), (0, 0)], [])) rfl).trans (rfl)))) (fun h2 => (z_R_run hK (n := 2) (g' := (z_up m 251 11 0, 24, [(2, 251), (0, r), (0, v), (9, 0), (9, 0), (9, 0), (9, 0)], [(0, (-1))])) rfl).trans (z_R_ret hK rfl rfl rfl)))) (fun h1 => (z_R_run hK (n := 2) (g' := (z_up m 251 11 0, 24, [(2, 251), (0, r), (0, v), (9, 0), (9, 0), (9, 0), (9, 0)], [(0, (-1))])) rfl).trans (z_R_ret hK rfl rfl rfl)))
theorem u_twr_43  (m : z_M) (x1 : Int) (x2 : Int) (x3 : Int) (x4 : Int) (x5 : Int) (x6 : Int) : z_R 243 (m, 43, [(2, 251), (0, x1), (0, x2), (0, x3), (0, x4), (0, x5), (0, x6)], []) = if z_shl 1 (m 251 3) ≤ x6 then (z_R 210 (z_up m 251 10 0, 0, [(2, 251), (1, z_i2l x4), (9, 0)], [])).bind fun qq => z_R 243 (qq.1, 113, [(2, 251), (0, x1), (0, x2), (0, x3), (0, x4), (0, x5), (0, x6)], qq.2.toList ++ []) else (z_R 188 (m, 0, [(2, 251), (2, 252), (0, x1), (0, x6)], [])).bind fun qq => z_R 243 (qq.1, 65, [(2, 251), (0, x1), (0, x2), (0, x3), (0, x4), (0, x5), (0, x6)], qq.2.toList ++ []) :=
  have hK : kt_at 243 = kt_243 := rfl
  (z_R_run hK (n := 5) (g' := (m, 51, [(2, 251), (0, x1), (0, x2), (0, x3), (0, x4), (0, x5), (0, x6)], [(0, z_shl 1 (m 251 3)), (0, x6)])) rfl).trans (z_R_ifd hK (c := z_shl 1 (m 251 3) ≤ x6) (p1 := 101) (p2 := 54) rfl rfl rfl (fun h1 => (z_R_run hK (n := 6) (g' := (z_up m 251 10 0, 110, [(2, 251), (0, x1), (0, x2), (0, x3), (0, x4), (0, x5), (0, x6)], [(1, z_i2l x4), (2, 251)])) rfl).trans (z_R_call hK rfl rfl rfl rfl rfl)) (fun h1 => (z_R_run hK (n := 3) (g' := (m, 59, [(2, 251), (0, x1), (0, x2), (0, x3), (0, x4), (0, x5), (0, x6)], [(2, 252), (2, 251)])) rfl).trans ((z_R_run hK (n := 2) (g' := (m, 62, [(2, 251), (0, x1), (0, x2), (0, x3), (0, x4), (0, x5), (0, x6)], [(0, x6), (0, x1), (2, 252), (2, 251)])) rfl).trans (z_R_call hK rfl rfl rfl rfl rfl))))
theorem u_twr_65  (m : z_M) (x1 : Int) (x2 : Int) (x3 : Int) (x4 : Int) (x5 : Int) (x6 : Int) (u : Int) : z_R 243 (m, 65, [(2, 251), (0, x1), (0, x2), (0, x3), (0, x4), (0, x5), (0, x6)], [(0, u)]) = if u = x2 then if x3 = 0 then z_R 243 (m, 43, [(2, 251), (0, x1), (0, x2), (0, x3 + 1), (0, x6), (0, z_and x5 x6), (0, z_add x6 1)], []) else z_R 243 (m, 43, [(2, 251), (0, x1), (0, x2), (0, z_add x3 1), (0, x4), (0, z_and x5 x6), (0, z_add x6 1)], []) else z_R 243 (m, 43, [(2, 251), (0, x1), (0, x2), (0, x3), (0, x4), (0, x5), (0, z_add x6 1)], []) :=
  have hK : kt_at 243 = kt_243 := rfl
  (z_R_run hK (n := 1) (g' := (m, 66, [(2, 251), (0, x1), (0, x2), (0, x3), (0, x4), (0, x5), (0, x6)], [(0, x2), (0, u)])) rfl).trans (z_R_ifd hK (c := u = x2) (p1 := 72) (p2 := 69) rfl rfl rfl (fun h1 => (z_R_run hK (n := 1) (g' := (m, 73, [(2, 251), (0, x1), (0, x2), (0, x3), (0, x4), (0, x5), (0, x6)], [(0, x3)])) rfl).trans (z_R_ifnd hK (c := x3 = 0) (p1 := 81) (p2 := 76) rfl rfl rfl (fun h2 => (z_R_run hK (n := 9) (g' := (m, 43, [(2, 251), (0, x1), (0, x2), (0, z_add x3 1), (0, x4), (0, z_and x5 x6), (0, z_add x6 1)], [])) rfl).trans (rfl)) (fun h2 => (z_R_run hK (n := 8) (g' := (m, 95, [(2, 251), (0, x1), (0, x2), (0, z_add x3 1), (0, x6), (0, z_and x5 x6), (0, x6)], [])) rfl).trans ((congrArg (fun vv => z_R 243 (m, 95, [(2, 251), (0, x1), (0, x2), (0, vv), (0, x6), (0, z_and x5 x6), (0, x6)], [])) (z_add_eq (by omega) (by omega))).trans ((z_R_run hK (n := 2) (g' := (m, 43, [(2, 251), (0, x1), (0, x2), (0, x3 + 1), (0, x6), (0, z_and x5 x6), (0, z_add x6 1)], [])) rfl).trans (rfl)))))) (fun h1 => (z_R_run hK (n := 3) (g' := (m, 43, [(2, 251), (0, x1), (0, x2), (0, x3), (0, x4), (0, x5), (0, z_add x6 1)], [])) rfl).trans (rfl)))
theorem u_twr_113  (m : z_M) (x1 : Int) (x2 : Int) (x3 : Int) (x4 : Int) (x5 : Int) (x6 : Int) : z_R 243 (m, 113, [(2, 251), (0, x1), (0, x2), (0, x3), (0, x4), (0, x5), (0, x6)], []) = if x3 = 0 then (z_R 210 (m, 0, [(2, 251), (1, 0), (9, 0)], [])).bind fun qq => z_R 243 (qq.1, 128, [(2, 251), (0, x1), (0, x2), (0, x3), (0, x4), (0, x5), (0, x6)], qq.2.toList ++ []) else (z_R 210 (m, 0, [(2, 251), (1, z_i2l x5), (9, 0)], [])).bind fun qq => z_R 243 (qq.1, 128, [(2, 251), (0, x1), (0, x2), (0, x3), (0, x4), (0, x5), (0, x6)], qq.2.toList ++ []) :=
  have hK : kt_at 243 = kt_243 := rfl
  (z_R_run hK (n := 2) (g' := (m, 115, [(2, 251), (0, x1), (0, x2), (0, x3), (0, x4), (0, x5), (0, x6)], [(0, x3), (2, 251)])) rfl).trans (z_R_ifnd hK (c := x3 = 0) (p1 := 122) (p2 := 118) rfl rfl rfl (fun h1 => (z_R_run hK (n := 2) (g' := (m, 125, [(2, 251), (0, x1), (0, x2), (0, x3), (0, x4), (0, x5), (0, x6)], [(1, z_i2l x5), (2, 251)])) rfl).trans (z_R_call hK rfl rfl rfl rfl rfl)) (fun h1 => (z_R_run hK (n := 2) (g' := (m, 125, [(2, 251), (0, x1), (0, x2), (0, x3), (0, x4), (0, x5), (0, x6)], [(1, 0), (2, 251)])) rfl).trans (z_R_call hK rfl rfl rfl rfl rfl)))
theorem u_twr_128  (m : z_M) (x1 : Int) (x2 : Int) (x3 : Int) (x4 : Int) (x5 : Int) (x6 : Int) : z_R 243 (m, 128, [(2, 251), (0, x1), (0, x2), (0, x3), (0, x4), (0, x5), (0, x6)], []) = some (m, some (0, x3)) :=
  have hK : kt_at 243 = kt_243 := rfl
  (z_R_run hK (n := 1) (g' := (m, 129, [(2, 251), (0, x1), (0, x2), (0, x3), (0, x4), (0, x5), (0, x6)], [(0, x3)])) rfl).trans (z_R_ret hK rfl rfl rfl)
end
section
/-! warm, of what both are in -/
theorem z_a63 (a : Int) : 0 ≤ z_and a 63 ∧ z_and a 63 ≤ 63 := by
  have : z_and a 63 = (Int32.ofInt a).toInt % 64 := i32_and63 _
  omega
theorem hr_pc_b (b : Int) : 0 ≤ hr_pc b ∧ hr_pc b ≤ 63 := z_a63 _
theorem i32_and1 (y : Int32) : (y &&& Int32.ofInt 1).toInt = y.toInt % 2 := by
  have h1 : (y &&& Int32.ofInt 1).toBitVec.toNat = y.toBitVec.toNat % 2 := by
    show (y.toBitVec &&& 1#32).toNat = _
    rw [BitVec.toNat_and]
    exact Nat.and_two_pow_sub_one_eq_mod _ 1
  have h2 := i32_ofNat (x := y &&& Int32.ofInt 1) (by rw [h1]; omega)
  have h3 : y.toInt = y.toBitVec.toInt := rfl
  rw [h2, h1, h3, BitVec.toInt_eq_toNat_cond]
  have := y.toBitVec.isLt
  split <;> omega
theorem z_a1 (a : Int) : z_and a 1 = 0 ∨ z_and a 1 = 1 := by
  have : z_and a 1 = (Int32.ofInt a).toInt % 2 := i32_and1 _
  omega
theorem z_add0 {s : Int} (h : z_w s = s) : z_add s 0 = s := by
  rw [z_add_w, Int.add_zero]
  exact h
theorem hr_s_rg {wm : Nat → Int} {b : Int} (hwm : ∀ p, p < 5 → 0 ≤ wm p ∧ wm p ≤ 9) : ∀ (f x : Nat) (s : Int), x + f ≤ 5 → 0 ≤ s → s ≤ 9 + 9 * (x : Int) → 0 ≤ hr_s wm b f x s ∧ hr_s wm b f x s ≤ 54 := by
  intro f
  induction f with
  | zero => intro x s hx h0 h1; exact ⟨h0, show s ≤ 54 by omega⟩
  | succ f ih =>
    intro x s hx h0 h1
    have hw := hwm x (by omega)
    unfold hr_s
    by_cases c : z_and (z_shr b (x : Int)) 1 = 1
    · rw [if_pos c, z_add_eq (by omega) (by omega)]
      exact ih (x + 1) _ (by omega) (by omega) (by omega)
    · rw [if_neg c, z_add_eq (by omega) (by omega)]
      exact ih (x + 1) _ (by omega) (by omega) (by omega)
/-- in how many sets it melts v -/
def o_cnt (M : Int → Int) (v : Int) : Nat → Nat → Int → Int
  | 0, _, k => k
  | f + 1, x, k => o_cnt M v f (x + 1) (if M (x : Int) = v then k + 1 else k)
def o_mel (n : Nat) (heat : Int) (cs : List Int) (D A : Nat → Int) (r : Nat) (b : Int) : Int := hr_mB heat (c_ml cs) (wmD D (A 35)) n A r b
def o_warm (w h n : Nat) (heat : Int) (cs : List Int) (D A : Nat → Int) (r v : Int) : Int := if (¬ u_hs (w : Int) (h : Int) r = 0) ∧ 0 ≤ v ∧ v ≤ 99 then o_cnt (o_mel n heat cs D A r.toNat) v (2 ^ n) 0 0 else -1
section
variable {w h n : Nat} {heat price : Int} {D A : Nat → Int} {c : Nat} {U : Nat → Nat → Int} {kn : Nat → Int} {KS : Nat → Nat → Int} {cs : List Int} {m : z_M}
theorem z_p2 (h5 : n ≤ 5) : z_shl 1 (n : Int) = ((2 ^ n : Nat) : Int) := by
  have : ∀ n, n < 6 → z_shl 1 ((n : Nat) : Int) = ((2 ^ n : Nat) : Int) := by decide +kernel
  exact this n (by omega)
theorem z_p32 (h5 : n ≤ 5) : 2 ^ n ≤ 32 := by
  have : ∀ n, n < 6 → 2 ^ n ≤ 32 := by decide +kernel
  exact this n (by omega)
theorem C_wof (hi : C_is w h n heat price D A c U kn KS cs m) (h5 : n ≤ 5) (ht : 0 ≤ A 35 ∧ A 35 ≤ 1073741824) {r b : Int} : ∀ (f x : Nat) (s : Int), x + f = n → z_w s = s → z_R 119 (m, 24, [(2, 24), (2, 12), (0, r), (0, b), (0, s), (0, (x : Int))], []) = some (m, some (0, hr_s (wmD D (A 35)) b f x s)) := by
  have e11 := hi.1.2.2.1
  have e7 : m 12 7 = A 35 := by
    rw [← hi.2.2.1]
    exact (cS_at0 (s := 12) (j := 7) (by decide)).symm
  intro f
  induction f with
  | zero =>
    intro x s hx hs
    rw [u_wof_24 m r b s x (by omega), e11, if_pos (by omega)]
    rfl
  | succ f ih =>
    intro x s hx hs
    rw [u_wof_24 m r b s x (by omega), e11, if_neg (by omega), z_add_eq (x := (x : Int)) (y := 1) (by omega) (by omega), tc1]
    unfold hr_s
    rcases z_a1 (z_shr b (x : Int)) with z | z
    · rw [if_pos z, if_neg (by omega), z_add0 hs]
      exact ih (x + 1) s (by omega) hs
    · have ec : cw m x (A 35) = wmD D (A 35) x := cw_D hi.1.2.2.2.2.2.2.1 hi.1.2.2.2.2.2.2.2 hi.2.1 ht.1 (by omega)
      rw [if_neg (by omega), if_pos z, e7, c_wo m (by omega) ht.1 (by omega), zb_v, u_wof_57, z_add_eq (x := (x : Int)) (y := 1) (by omega) (by omega), tc1, ec]
      exact ih (x + 1) _ (by omega) (by rw [z_add_w]; exact z_w_w)
theorem C_mbs (hi : C_is w h n heat price D A c U kn KS cs m) (hN : w_N w h n heat D) (ht : 0 ≤ A 35 ∧ A 35 ≤ 1073741824) {r : Nat} (hr : r < 9) (b : Int) : ∃ m1, z_R 118 (m, 0, [(2, 24), (2, 12), (0, (r : Int)), (0, b)], []) = some (m1, some (0, o_mel n heat cs D A r b)) ∧ C_is w h n heat price D A c U kn KS cs m1 := by
  have h5 := hN.1.2.2
  have e6 : m 12 6 = A 34 := by
    rw [← hi.2.2.1]
    exact (cS_at0 (s := 12) (j := 6) (by decide)).symm
  have e7 : m 12 7 = A 35 := by
    rw [← hi.2.2.1]
    exact (cS_at0 (s := 12) (j := 7) (by decide)).symm
  have e8 : m 12 8 = A 36 := by
    rw [← hi.2.2.1]
    exact (cS_at0 (s := 12) (j := 8) (by decide)).symm
  have e13 : m 13 r = A r := by
    rw [← hi.2.2.1]
    exact (cS_at1 (s := 12) hr).symm
  have e14 : m 14 r = A (r + 9) := by
    rw [← hi.2.2.1]
    exact (cS_at2 (s := 12) hr).symm
  have ew : z_R 119 (m, 0, [(2, 24), (2, 12), (0, (r : Int)), (0, b), (9, 0), (9, 0)], []) = some (m, some (0, hr_wb heat (wmD D (A 35)) n A r b)) := by
    rw [u_wof_0, e6, hi.1.2.2.2.1]
    unfold hr_wb
    have hb := hN.2.1
    by_cases z : A 34 = (r : Int)
    · rw [if_pos z, if_pos z]
      exact C_wof hi h5 ht n 0 heat (by omega) (z_w_of (by omega) (by omega))
    · rw [if_neg z, if_neg z]
      exact C_wof hi h5 ht n 0 0 (by omega) (by decide +kernel)
  obtain ⟨m1, a1, a2⟩ := (C_cfg hi).2.2.2.2.2.2.1 m rfl rfl (hr_wb heat (wmD D (A 35)) n A r b) (A r) (A (r + 9)) (A 36) ((r : Int) / 3) (hr_pc b) (A 35)
  have hC1 : C_is w h n heat price D A c U kn KS cs m1 := C_fr hi fun p k hk => by
    have hk' := hk
    unfold C_hit at hk'
    have hk' := of_decide_eq_true hk'
    exact a2.of (by (repeat' (first | exact trivial | refine z_of_c ?_ ?_)) <;> omega)
  rw [u_mbs_0, ew, zb_v, u_mbs_10, t_bc_0, zb_v, u_mbs_14, u_mby_0 m r _ _ (by omega), Int.toNat_natCast, e13, e14, e8, e7, a1, zb_v, u_mby_48, zb_v, u_mbs_17]
  exact ⟨m1, rfl, hC1⟩
theorem C_wrm1 (hN : w_N w h n heat D) (ht : 0 ≤ A 35 ∧ A 35 ≤ 1073741824) {r : Nat} (hr : r < 9) {v : Int} : ∀ (f x : Nat) (y3 y4 k : Int) (m : z_M), x + f = 2 ^ n → 0 ≤ k → k ≤ (x : Int) → C_is w h n heat price D A c U kn KS cs m → ∃ m1, z_R 125 (m, 34, [(2, 0), (0, (r : Int)), (0, v), (0, y3), (0, y4), (0, k), (0, (x : Int))], []) = some (m1, some (0, o_cnt (o_mel n heat cs D A r) v f x k)) ∧ C_is w h n heat price D A c U kn KS cs m1 := by
  have h5 := hN.1.2.2
  have h32 := z_p32 h5
  intro f
  induction f with
  | zero =>
    intro x y3 y4 k m hx h0 h1 hi
    rw [u_wrm_34, hi.1.2.2.1, z_p2 h5, if_pos (by omega), c_tell2, zb_n, u_wrm_113]
    exact ⟨_, rfl, C_tell2 hi _ _⟩
  | succ f ih =>
    intro x y3 y4 k m hx h0 h1 hi
    obtain ⟨m1, a1, a2⟩ := C_mbs hi hN ht hr (x : Int)
    rw [u_wrm_34, hi.1.2.2.1, z_p2 h5, if_neg (by omega), a1, zb_v, u_wrm_62, z_add_eq (x := (x : Int)) (y := 1) (by omega) (by omega), tc1, z_add_eq (x := k) (y := 1) (by omega) (by omega)]
    unfold o_cnt
    by_cases z : o_mel n heat cs D A r (x : Int) = v
    · rw [if_pos z, if_pos z]
      by_cases z0 : k = 0
      · rw [if_pos z0]
        exact ih (x + 1) _ _ _ m1 (by omega) (by omega) (by omega) a2
      · rw [if_neg z0, if_neg z0]
        exact ih (x + 1) _ _ _ m1 (by omega) (by omega) (by omega) a2
    · rw [if_neg z, if_neg z]
      exact ih (x + 1) _ _ _ m1 (by omega) h0 (by omega) a2
theorem C_warm (hi : C_is w h n heat price D A c U kn KS cs m) (hN : w_N w h n heat D) (ht : 0 ≤ A 35 ∧ A 35 ≤ 1073741824) (r v : Int) : ∃ m1, z_R 125 (m, 0, [(2, 0), (0, r), (0, v), (9, 0), (9, 0), (9, 0), (9, 0)], []) = some (m1, some (0, o_warm w h n heat cs D A r v)) ∧ C_is w h n heat price D A c U kn KS cs m1 := by
  rw [u_wrm_0, hi.1.1, hi.1.2.1]
  by_cases c1 : u_hs (w : Int) (h : Int) r = 0
  · have e : o_warm w h n heat cs D A r v = -1 := if_neg (fun z => z.1 c1)
    rw [if_neg (not_not_intro c1), e]
    exact ⟨m, rfl, hi⟩
  rw [if_pos c1]
  by_cases c2 : v < 0
  · have e : o_warm w h n heat cs D A r v = -1 := if_neg (fun z => by have := z.2; omega)
    rw [if_pos c2, e]
    exact ⟨m, rfl, hi⟩
  rw [if_neg c2]
  by_cases c3 : v ≤ 99
  · have hr := u_hs_rng c1
    have e : o_warm w h n heat cs D A r v = o_cnt (o_mel n heat cs D A r.toNat) v (2 ^ n) 0 0 := if_pos ⟨c1, by omega, c3⟩
    obtain ⟨q, rfl⟩ : ∃ q : Nat, r = (q : Int) := ⟨r.toNat, by omega⟩
    rw [Int.toNat_natCast] at e
    rw [if_pos c3, e]
    exact C_wrm1 hN ht (by omega) (2 ^ n) 0 (-1) 0 0 m (by omega) (by decide) (by decide) hi
  · have e : o_warm w h n heat cs D A r v = -1 := if_neg (fun z => by have := z.2; omega)
    rw [if_neg c3, e]
    exact ⟨m, rfl, hi⟩
/-! the reference -/
theorem R_mbs (hi : R_is w h n heat price D A c U kn KS cs m) (hN : w_N w h n heat D) (hok : hr_ok n A) (ht : 0 ≤ A 35 ∧ A 35 ≤ 1073741824) {r : Nat} (hr : r < 9) (b : Int) : ∃ m1, z_R 188 (m, 0, [(2, 251), (2, 252), (0, (r : Int)), (0, b)], []) = some (m1, some (0, o_mel n heat cs D A r b)) ∧ R_is w h n heat price D A c U kn KS cs m1 := by
  have h5 := hN.1.2.2
  obtain ⟨c1, c2, c3, c4, c5, c6, c7⟩ := R_cfg hi
  have ea : ∀ k, k < 18 ∨ 33 ≤ k → k < 37 → m 252 k = A k := fun k hk h37 => R_A hi h37 (by
    rcases hk with hk | hk
    · exact a_vis_lo hk
    · exact a_vis_hi hk)
  have hrg : r_rg 252 m := by
    refine ⟨fun k hk => ?_, ?_, ?_⟩
    · have p1 := hok.1 k hk
      have p2 := hok.2.1 k hk
      rw [ea k (by omega) (by omega), ea (k + 9) (by omega) (by omega)]
      omega
    · rw [ea 36 (by omega) (by omega)]
      have := hok.2.2.2
      omega
    · rw [ea 35 (by omega) (by omega)]
      omega
  have hb := hN.2.1
  have hW : r_i (hr_wb heat (wmD D (A 35)) n (rS m 252 n) r b) := by
    unfold hr_wb r_i
    by_cases z : rS m 252 n 34 = (r : Int)
    · rw [if_pos z]
      have := hr_s_rg (b := b) (hN.2.2 (A 35) ht.1) n 0 heat (by omega) (by omega) (by omega)
      omega
    · rw [if_neg z]
      have := hr_s_rg (b := b) (hN.2.2 (A 35) ht.1) n 0 0 (by omega) (by omega) (by omega)
      omega
  have hP : r_i (hr_pc b) := by
    have := hr_pc_b b
    unfold r_i
    omega
  obtain ⟨m1, a1, a2⟩ := r_mb z_A_252 (Or.inl rfl) h5 (ml := c_ml cs) (b := b) (t := A 35) (heat := heat) (wm := wmD D (A 35)) ht.1 (by omega) m c3 c4 (ea 35 (by omega) (by omega)) (fun p hp => c6 (A 35) ht.1 p hp) c7 hr hrg hW hP
  rw [hi.2.2.1] at a1
  have a1 : z_R 188 (m, 0, [(2, 251), (2, 252), (0, (r : Int)), (0, b)], []) = some (m1, some (0, o_mel n heat cs D A r b)) := a1
  refine ⟨m1, a1, R_fr hi fun p k hk => ?_⟩
  have hk' := hk
  unfold R_hit at hk'
  have hk' := of_decide_eq_true hk'
  exact a2.of (by (repeat' (first | exact trivial | refine z_of_c ?_ ?_)) <;> omega)
theorem R_wrm1 (hN : w_N w h n heat D) (hok : hr_ok n A) (ht : 0 ≤ A 35 ∧ A 35 ≤ 1073741824) {r : Nat} (hr : r < 9) {v : Int} : ∀ (f x : Nat) (k y4 y5 : Int) (m : z_M), x + f = 2 ^ n → 0 ≤ k → k ≤ (x : Int) → R_is w h n heat price D A c U kn KS cs m → ∃ m1, z_R 243 (m, 43, [(2, 251), (0, (r : Int)), (0, v), (0, k), (0, y4), (0, y5), (0, (x : Int))], []) = some (m1, some (0, o_cnt (o_mel n heat cs D A r) v f x k)) ∧ R_is w h n heat price D A c U kn KS cs m1 := by
  have h5 := hN.1.2.2
  have h32 := z_p32 h5
  intro f
  induction f with
  | zero =>
    intro x k y4 y5 m hx h0 h1 hi
    rw [u_twr_43, hi.1.2.2.1, z_p2 h5, if_pos (by omega), t_tell0, zb_n, u_twr_113]
    by_cases z : k = 0
    · rw [if_pos z, t_tell1, zb_n, u_twr_128]
      exact ⟨_, rfl, R_upn (R_upn (R_upn (R_upn (R_upn hi (by decide)) (by decide)) (by decide)) (by decide)) (by decide)⟩
    · rw [if_neg z, t_tell1, zb_n, u_twr_128]
      exact ⟨_, rfl, R_upn (R_upn (R_upn (R_upn (R_upn hi (by decide)) (by decide)) (by decide)) (by decide)) (by decide)⟩
  | succ f ih =>
    intro x k y4 y5 m hx h0 h1 hi
    obtain ⟨m1, a1, a2⟩ := R_mbs hi hN hok ht hr (x : Int)
    rw [u_twr_43, hi.1.2.2.1, z_p2 h5, if_neg (by omega), a1, zb_v, u_twr_65, z_add_eq (x := (x : Int)) (y := 1) (by omega) (by omega), tc1, z_add_eq (x := k) (y := 1) (by omega) (by omega)]
    unfold o_cnt
    by_cases z : o_mel n heat cs D A r (x : Int) = v
    · rw [if_pos z, if_pos z]
      by_cases z0 : k = 0
      · rw [if_pos z0]
        exact ih (x + 1) _ _ _ m1 (by omega) (by omega) (by omega) a2
      · rw [if_neg z0]
        exact ih (x + 1) _ _ _ m1 (by omega) (by omega) (by omega) a2
    · rw [if_neg z, if_neg z]
      exact ih (x + 1) _ _ _ m1 (by omega) h0 (by omega) a2
theorem R_warm (hi : R_is w h n heat price D A c U kn KS cs m) (hN : w_N w h n heat D) (hok : hr_ok n A) (ht : 0 ≤ A 35 ∧ A 35 ≤ 1073741824) (r v : Int) : ∃ m1, z_R 243 (m, 0, [(2, 251), (0, r), (0, v), (9, 0), (9, 0), (9, 0), (9, 0)], []) = some (m1, some (0, o_warm w h n heat cs D A r v)) ∧ R_is w h n heat price D A c U kn KS cs m1 := by
  have hu := R_upn (p0 := 251) (k0 := 11) (v := 0) hi (by decide)
  rw [u_twr_0, hi.1.1, hi.1.2.1]
  by_cases c1 : u_hs (w : Int) (h : Int) r = 0
  · have e : o_warm w h n heat cs D A r v = -1 := if_neg (fun z => z.1 c1)
    rw [if_neg (not_not_intro c1), e]
    exact ⟨_, rfl, hu⟩
  rw [if_pos c1]
  by_cases c2 : 0 ≤ v ∧ v ≤ 99
  · have hr := u_hs_rng c1
    have e : o_warm w h n heat cs D A r v = o_cnt (o_mel n heat cs D A r.toNat) v (2 ^ n) 0 0 := if_pos ⟨c1, c2⟩
    obtain ⟨q, rfl⟩ : ∃ q : Nat, r = (q : Int) := ⟨r.toNat, by omega⟩
    rw [Int.toNat_natCast] at e
    rw [if_pos c2, e]
    exact R_wrm1 hN hok ht (by omega) (2 ^ n) 0 0 _ _ _ (by omega) (by decide) (by decide) hu
  · have e : o_warm w h n heat cs D A r v = -1 := if_neg (fun z => c2 z.2)
    rw [if_neg c2, e]
    exact ⟨_, rfl, hu⟩
end
theorem core_warm : l_rel2 Rel_C (930, 140, 125, 2, false, 947, 143, 243) := by
  intro M1 M2 M3 σ σ1 σ2 as v1 v2 C1 C2 ρ1 ρ2 ha hR hh hM1 hC1 hp1 hE1 hC2 hp2 hE2
  obtain ⟨r, v, rfl⟩ := as_two ha
  have hE1 : z_R 125 (z_m σ, 0, [(2, 0), (0, r.toInt), (0, v.toInt), (9, 0), (9, 0), (9, 0), (9, 0)], []) = some (z_m σ1, some (0, v1.toInt)) := z_R_iff.mpr hE1
  have hE2 : z_R 243 (z_m σ1, 0, [(2, 251), (0, r.toInt), (0, v.toInt), (9, 0), (9, 0), (9, 0), (9, 0)], []) = some (z_m σ2, some (0, v2.toInt)) := z_R_iff.mpr hE2
  have hT := T_two (y1 := 125) (y2 := 243) (by decide +kernel) (by decide +kernel) hC1 hC2 hp1 hp2 hR.1
  obtain ⟨w, h, n, heat, price, D, A, c, U, kn, KS, cs, cC, cR, cW⟩ := hR.2
  obtain ⟨b1, b2, -, -, hok, b35, -, b7⟩ := core_b hh hM1 cR
  have hN : w_N w h n heat D := ⟨b1, b2, b7⟩
  have f1 := R_off2_ok (y := 125) (by decide +kernel) hC1 hp1
  have f2 := C_off_ok (y := 243) (by decide +kernel) hC2 hp2
  have cR1 := R_fr cR f1
  have z := core_do cR1 (fun q => C_fr q f2) (C_warm cC hN b35 r.toInt v.toInt) (fun q => R_warm q hN hok b35 r.toInt v.toInt) hE1 hE2
  exact ⟨⟨hT, Core_mk z.1.1 z.1.2 cW⟩, fun _ => z.2⟩
end
section
/-! HOW MANY BITS OF A LONG -/
def lv (x : Int) : Nat := (Int64.ofInt x).toBitVec.toNat
theorem l6_t (a : Int64) : lv a.toInt = a.toBitVec.toNat := by
  unfold lv
  rw [Int64.ofInt_toInt]
theorem l6_lt (x : Int) : lv x < 2 ^ 64 := (Int64.ofInt x).toBitVec.isLt
theorem l6_and (x y : Int) : lv (z_land x y) = lv x &&& lv y := by
  unfold z_land
  rw [l6_t]
  exact BitVec.toNat_and _ _
theorem l6_or (x y : Int) : lv (z_lor x y) = lv x ||| lv y := by
  unfold z_lor
  rw [l6_t]
  exact BitVec.toNat_or _ _
theorem l6_add (x y : Int) : lv (z_ladd x y) = (lv x + lv y) % 2 ^ 64 := by
  unfold z_ladd
  rw [l6_t]
  exact BitVec.toNat_add _ _
theorem l6_sub (x y : Int) : lv (z_lsub x y) = (2 ^ 64 - lv y + lv x) % 2 ^ 64 := by
  unfold z_lsub
  rw [l6_t]
  exact BitVec.toNat_sub _ _
theorem l6_ush1 {x y : Int} {s : UInt64} {k : Nat} (e : ((Int32.ofInt y).toInt64.toUInt64 &&& Int64.toUInt64 63) = s) (hk : s.toNat % 64 = k) : lv (z_lush x y) = lv x / 2 ^ k := by
  unfold z_lush
  rw [l6_t, e]
  show ((Int64.ofInt x).toUInt64 >>> s).toNat = _
  rw [UInt64.toNat_shiftRight, hk, Nat.shiftRight_eq_div_pow]
  rfl
theorem l6_ush (x : Int) : lv (z_lush x 1) = lv x / 2 ∧ lv (z_lush x 2) = lv x / 4 ∧ lv (z_lush x 4) = lv x / 16 ∧ lv (z_lush x 8) = lv x / 256 ∧ lv (z_lush x 16) = lv x / 65536 ∧ lv (z_lush x 32) = lv x / 4294967296 :=
  ⟨l6_ush1 (s := 1) (k := 1) (by decide +kernel) (by decide +kernel), l6_ush1 (s := 2) (k := 2) (by decide +kernel) (by decide +kernel), l6_ush1 (s := 4) (k := 4) (by decide +kernel) (by decide +kernel), l6_ush1 (s := 8) (k := 8) (by decide +kernel) (by decide +kernel), l6_ush1 (s := 16) (k := 16) (by decide +kernel) (by decide +kernel), l6_ush1 (s := 32) (k := 32) (by decide +kernel) (by decide +kernel)⟩
theorem l6_shl {k : Nat} (hk : k < 64) : lv (z_lshl 1 (k : Int)) = 2 ^ k := by
  have : ∀ k, k < 64 → lv (z_lshl 1 ((k : Nat) : Int)) = 2 ^ k := by decide +kernel
  exact this k hk
theorem l6_127 (x : Int) : z_and (z_l2i x) 127 = ((lv x % 128 : Nat) : Int) := by
  have e : Int32.ofInt (z_l2i x) = (Int64.ofInt x).toInt32 := by
    unfold z_l2i
    exact Int32.ofInt_toInt _
  have h0 : (Int64.ofInt x).toInt32.toBitVec.toNat = lv x % 2 ^ 32 := by
    rw [Int64.toBitVec_toInt32, BitVec.signExtend_eq_setWidth_of_le _ (by decide), BitVec.toNat_setWidth]
    rfl
  have h1 : ((Int64.ofInt x).toInt32 &&& Int32.ofInt 127).toBitVec.toNat = lv x % 128 := by
    show ((Int64.ofInt x).toInt32.toBitVec &&& 127#32).toNat = _
    rw [BitVec.toNat_and, h0]
    have : (lv x % 2 ^ 32) &&& (2 ^ 7 - 1) = lv x % 2 ^ 32 % 2 ^ 7 := Nat.and_two_pow_sub_one_eq_mod _ 7
    refine Eq.trans this ?_
    omega
  unfold z_and
  rw [e, i32_ofNat (x := (Int64.ofInt x).toInt32 &&& Int32.ofInt 127) (by rw [h1]; omega), h1]
/-! byte by byte -/
def bk (c : Nat) : Nat → Nat
  | 0 => 0
  | n + 1 => c + 256 * bk c n
def bm (g : Nat → Nat) : Nat → Nat → Nat
  | 0, _ => 0
  | n + 1, X => g (X % 256) + 256 * bm g n (X / 256)
theorem bb_and {a A c C : Nat} (ha : a < 256) (hc : c < 256) : (a + 256 * A) &&& (c + 256 * C) = (a &&& c) + 256 * (A &&& C) := by
  apply Nat.eq_of_testBit_eq
  intro i
  have ha : a < 2 ^ 8 := ha
  have hc : c < 2 ^ 8 := hc
  have hac : a &&& c < 2 ^ 8 := Nat.lt_of_le_of_lt Nat.and_le_left ha
  rw [Nat.testBit_and, Nat.add_comm a, Nat.add_comm c, Nat.add_comm (a &&& c)]
  show ((2 ^ 8 * A + a).testBit i && (2 ^ 8 * C + c).testBit i) = (2 ^ 8 * (A &&& C) + (a &&& c)).testBit i
  rw [Nat.testBit_two_pow_mul_add A ha, Nat.testBit_two_pow_mul_add C hc, Nat.testBit_two_pow_mul_add _ hac]
  split
  · exact (Nat.testBit_and _ _ _).symm
  · exact (Nat.testBit_and _ _ _).symm
theorem bm_lt {g : Nat → Nat} (hg : ∀ b, b < 256 → g b < 256) : ∀ n X, bm g n X < 256 ^ n
  | 0, _ => Nat.one_pos
  | n + 1, X => by
    have h1 := bm_lt hg n (X / 256)
    have h2 := hg (X % 256) (Nat.mod_lt _ (by decide))
    unfold bm
    rw [Nat.pow_succ]
    omega
theorem bm_cg {g g' : Nat → Nat} (h : ∀ b, b < 256 → g b = g' b) : ∀ n X, bm g n X = bm g' n X
  | 0, _ => rfl
  | n + 1, X => by
    unfold bm
    rw [h _ (Nat.mod_lt _ (by decide)), bm_cg h n]
theorem bm_bm {g g' : Nat → Nat} (hg : ∀ b, b < 256 → g' b < 256) : ∀ n X, bm g n (bm g' n X) = bm (fun b => g (g' b)) n X
  | 0, _ => rfl
  | n + 1, X => by
    have h1 := hg (X % 256) (Nat.mod_lt _ (by decide))
    show g ((g' (X % 256) + 256 * bm g' n (X / 256)) % 256) + 256 * bm g n ((g' (X % 256) + 256 * bm g' n (X / 256)) / 256) = g (g' (X % 256)) + 256 * bm (fun b => g (g' b)) n (X / 256)
    rw [show (g' (X % 256) + 256 * bm g' n (X / 256)) % 256 = g' (X % 256) by omega, show (g' (X % 256) + 256 * bm g' n (X / 256)) / 256 = bm g' n (X / 256) by omega, bm_bm hg n]
theorem bm_add (g g' : Nat → Nat) : ∀ n X, bm g n X + bm g' n X = bm (fun b => g b + g' b) n X
  | 0, _ => rfl
  | n + 1, X => by
    have := bm_add g g' n (X / 256)
    unfold bm
    omega
theorem bm_sub {g : Nat → Nat} (h : ∀ b, b < 256 → g b ≤ b) : ∀ n X, X < 256 ^ n → bm g n X ≤ X ∧ X - bm g n X = bm (fun b => b - g b) n X
  | 0, X, hX => by
    have : X = 0 := by
      have : X < 1 := hX
      omega
    subst this
    exact ⟨Nat.le_refl _, rfl⟩
  | n + 1, X, hX => by
    rw [Nat.pow_succ] at hX
    obtain ⟨h1, h2⟩ := bm_sub h n (X / 256) (by omega)
    have h3 := h (X % 256) (Nat.mod_lt _ (by decide))
    unfold bm
    omega
/-- a shift and a mask that lets nothing over from byte to byte -/
theorem bk_sh {k q c : Nat} (hkq : k * q = 256) (hk : 0 < k) (hc : c < 256) (h : ∀ b, b < 256 → ∀ t, t < k → (b / k + q * t) &&& c = b / k &&& c) : ∀ n X, X < 256 ^ n → X / k &&& bk c n = bm (fun b => b / k &&& c) n X
  | 0, X, hX => by
    show X / k &&& 0 = 0
    exact Nat.and_zero _
  | n + 1, X, hX => by
    rw [Nat.pow_succ] at hX
    have ih := bk_sh hkq hk hc h n (X / 256) (by omega)
    have hb : X % 256 < 256 := Nat.mod_lt _ (by decide)
    have ht : X / 256 % k < k := Nat.mod_lt _ hk
    have e1 : X / k = X % 256 / k + q * (X / 256) := by
      have e0 : X = X % 256 + k * (q * (X / 256)) := by
        rw [← Nat.mul_assoc, hkq]
        omega
      conv => lhs; rw [e0]
      rw [Nat.add_mul_div_left _ _ hk]
    have e2 : q * (X / 256) = q * (X / 256 % k) + 256 * (X / 256 / k) := by
      conv => lhs; rw [← Nat.mod_add_div (X / 256) k]
      rw [Nat.mul_add, ← Nat.mul_assoc, Nat.mul_comm q k, hkq]
    have hlt : X % 256 / k + q * (X / 256 % k) < 256 := by
      have a1 : X % 256 / k < q := (Nat.div_lt_iff_lt_mul hk).mpr (by rw [Nat.mul_comm, hkq]; exact hb)
      have a2 : q * (X / 256 % k) + q ≤ q * k := by
        rw [← Nat.mul_succ]
        exact Nat.mul_le_mul_left q ht
      rw [Nat.mul_comm q k, hkq] at a2
      omega
    show X / k &&& (c + 256 * bk c n) = (X % 256 / k &&& c) + 256 * bm (fun b => b / k &&& c) n (X / 256)
    rw [e1, e2, ← Nat.add_assoc, bb_and hlt hc, h _ hb _ ht, ih]
theorem bk_and {c : Nat} (hc : c < 256) : ∀ n X, X < 256 ^ n → X &&& bk c n = bm (fun b => b &&& c) n X
  | 0, X, hX => Nat.and_zero _
  | n + 1, X, hX => by
    rw [Nat.pow_succ] at hX
    have ih := bk_and hc n (X / 256) (by omega)
    have e : X = X % 256 + 256 * (X / 256) := by omega
    show X &&& (c + 256 * bk c n) = (X % 256 &&& c) + 256 * bm (fun b => b &&& c) n (X / 256)
    conv => lhs; rw [e]
    rw [bb_and (Nat.mod_lt _ (by decide)) hc, ih]
theorem bm_nib {f : Nat → Nat} (hf : ∀ b, b < 256 → f b % 16 ≤ 4 ∧ f b / 16 ≤ 4) : ∀ n X, (bm f n X + bm f n X / 16) &&& bk 15 n = bm (fun b => f b % 16 + f b / 16) n X ∧ bm f n X % 16 ≤ 4
  | 0, X => ⟨by show ((0 + 0 / 16 : Nat) &&& 0) = 0; rfl, Nat.zero_le _⟩
  | n + 1, X => by
    obtain ⟨ih, h4⟩ := bm_nib hf n (X / 256)
    have hb := hf (X % 256) (Nat.mod_lt _ (by decide))
    show ((f (X % 256) + 256 * bm f n (X / 256)) + (f (X % 256) + 256 * bm f n (X / 256)) / 16) &&& (15 + 256 * bk 15 n) = (f (X % 256) % 16 + f (X % 256) / 16) + 256 * bm (fun b => f b % 16 + f b / 16) n (X / 256) ∧ (f (X % 256) + 256 * bm f n (X / 256)) % 16 ≤ 4
    generalize bm f n (X / 256) = B at ih h4 ⊢
    generalize f (X % 256) = b at hb ⊢
    refine ⟨?_, by omega⟩
    rw [show (b + 256 * B) + (b + 256 * B) / 16 = (b + b / 16 + 16 * (B % 16)) + 256 * (B + B / 16) by omega, bb_and (by omega) (by decide), ih]
    have e : (b + b / 16 + 16 * (B % 16)) &&& (2 ^ 4 - 1) = (b + b / 16 + 16 * (B % 16)) % 2 ^ 4 := Nat.and_two_pow_sub_one_eq_mod _ 4
    have e : (b + b / 16 + 16 * (B % 16)) &&& 15 = (b + b / 16 + 16 * (B % 16)) % 16 := e
    rw [e]
    omega
/-! so many bits -/
def pcN : Nat → Nat → Nat
  | 0, _ => 0
  | f + 1, X => X % 2 + pcN f (X / 2)
def bf1 (b : Nat) : Nat := b - (b / 2 &&& 85)
def bf2 (b : Nat) : Nat := (b &&& 51) + (b / 4 &&& 51)
def bf3 (b : Nat) : Nat := b % 16 + b / 16
theorem bf_lt : ∀ b, b < 256 → bf1 b < 256 ∧ (bf2 (bf1 b) % 16 ≤ 4 ∧ bf2 (bf1 b) / 16 ≤ 4) ∧ bf3 (bf2 (bf1 b)) = pcN 8 b ∧ b / 2 &&& 85 ≤ b := by decide +kernel
theorem pcN_8 (f X : Nat) : pcN (f + 8) X = pcN 8 (X % 256) + pcN f (X / 256) := by
  have e : X / 2 / 2 / 2 / 2 / 2 / 2 / 2 / 2 = X / 256 := by omega
  simp only [pcN]
  rw [e]
  omega
theorem pc_le {b : Nat} (h : b < 256) : pcN 8 b ≤ 8 := by
  have : ∀ b, b < 256 → pcN 8 b ≤ 8 := by decide +kernel
  exact this b h
theorem pc_q {a b c d R : Nat} (h0 : a < 256) (h1 : b < 256) (h2 : c < 256) (h3 : d < 256) : (a + 256 * (b + 256 * (c + 256 * (d + 256 * R)))) / 4294967296 = R := by omega
theorem pc_r {a b c d : Nat} : (a + 256 * b + (c + 256 * d)) % 128 = (a + c) % 128 := by omega
theorem pc_sum {Z : Nat} (X : Nat) (hZ : Z = bm (pcN 8) 8 X) : ((Z + Z / 256 + (Z + Z / 256) / 65536) + ((Z + Z / 256) + (Z + Z / 256) / 65536) / 4294967296) % 128 = pcN 64 X ∧ Z < 2 ^ 60 := by
  have e : pcN 64 X = pcN 8 (X % 256) + (pcN 8 (X / 256 % 256) + (pcN 8 (X / 256 / 256 % 256) + (pcN 8 (X / 256 / 256 / 256 % 256) + (pcN 8 (X / 256 / 256 / 256 / 256 % 256) + (pcN 8 (X / 256 / 256 / 256 / 256 / 256 % 256) + (pcN 8 (X / 256 / 256 / 256 / 256 / 256 / 256 % 256) + (pcN 8 (X / 256 / 256 / 256 / 256 / 256 / 256 / 256 % 256) + 0))))))) := by
    rw [pcN_8 56, pcN_8 48, pcN_8 40, pcN_8 32, pcN_8 24, pcN_8 16, pcN_8 8, pcN_8 0 (X / 256 / 256 / 256 / 256 / 256 / 256 / 256)]
    rfl
  have z : Z = pcN 8 (X % 256) + 256 * (pcN 8 (X / 256 % 256) + 256 * (pcN 8 (X / 256 / 256 % 256) + 256 * (pcN 8 (X / 256 / 256 / 256 % 256) + 256 * (pcN 8 (X / 256 / 256 / 256 / 256 % 256) + 256 * (pcN 8 (X / 256 / 256 / 256 / 256 / 256 % 256) + 256 * (pcN 8 (X / 256 / 256 / 256 / 256 / 256 / 256 % 256) + 256 * (pcN 8 (X / 256 / 256 / 256 / 256 / 256 / 256 / 256 % 256) + 256 * 0))))))) := hZ
  rw [e]
  have c0 := pc_le (b := X % 256) (Nat.mod_lt _ (by decide))
  have c1 := pc_le (b := X / 256 % 256) (Nat.mod_lt _ (by decide))
  have c2 := pc_le (b := X / 256 / 256 % 256) (Nat.mod_lt _ (by decide))
  have c3 := pc_le (b := X / 256 / 256 / 256 % 256) (Nat.mod_lt _ (by decide))
  have c4 := pc_le (b := X / 256 / 256 / 256 / 256 % 256) (Nat.mod_lt _ (by decide))
  have c5 := pc_le (b := X / 256 / 256 / 256 / 256 / 256 % 256) (Nat.mod_lt _ (by decide))
  have c6 := pc_le (b := X / 256 / 256 / 256 / 256 / 256 / 256 % 256) (Nat.mod_lt _ (by decide))
  have c7 := pc_le (b := X / 256 / 256 / 256 / 256 / 256 / 256 / 256 % 256) (Nat.mod_lt _ (by decide))
  clear e hZ
  generalize pcN 8 (X % 256) = d0 at *
  generalize pcN 8 (X / 256 % 256) = d1 at *
  generalize pcN 8 (X / 256 / 256 % 256) = d2 at *
  generalize pcN 8 (X / 256 / 256 / 256 % 256) = d3 at *
  generalize pcN 8 (X / 256 / 256 / 256 / 256 % 256) = d4 at *
  generalize pcN 8 (X / 256 / 256 / 256 / 256 / 256 % 256) = d5 at *
  generalize pcN 8 (X / 256 / 256 / 256 / 256 / 256 / 256 % 256) = d6 at *
  generalize pcN 8 (X / 256 / 256 / 256 / 256 / 256 / 256 / 256 % 256) = d7 at *
  have q1 : Z / 256 = d1 + 256 * (d2 + 256 * (d3 + 256 * (d4 + 256 * (d5 + 256 * (d6 + 256 * d7))))) := by omega
  have s1 : Z + Z / 256 = (d0 + d1) + 256 * ((d1 + d2) + 256 * ((d2 + d3) + 256 * ((d3 + d4) + 256 * ((d4 + d5) + 256 * ((d5 + d6) + 256 * ((d6 + d7) + 256 * d7)))))) := by omega
  have hz : Z < 2 ^ 60 := by omega
  refine ⟨?_, hz⟩
  rw [s1]
  clear s1 q1 hz z
  have q2 : ((d0 + d1) + 256 * ((d1 + d2) + 256 * ((d2 + d3) + 256 * ((d3 + d4) + 256 * ((d4 + d5) + 256 * ((d5 + d6) + 256 * ((d6 + d7) + 256 * d7))))))) / 65536 = (d2 + d3) + 256 * ((d3 + d4) + 256 * ((d4 + d5) + 256 * ((d5 + d6) + 256 * ((d6 + d7) + 256 * d7)))) := by omega
  rw [q2]
  clear q2
  have s2 : ((d0 + d1) + 256 * ((d1 + d2) + 256 * ((d2 + d3) + 256 * ((d3 + d4) + 256 * ((d4 + d5) + 256 * ((d5 + d6) + 256 * ((d6 + d7) + 256 * d7))))))) + ((d2 + d3) + 256 * ((d3 + d4) + 256 * ((d4 + d5) + 256 * ((d5 + d6) + 256 * ((d6 + d7) + 256 * d7))))) = (d0 + d1 + d2 + d3) + 256 * ((d1 + d2 + d3 + d4) + 256 * ((d2 + d3 + d4 + d5) + 256 * ((d3 + d4 + d5 + d6) + 256 * ((d4 + d5 + d6 + d7) + 256 * ((d5 + d6 + d7) + 256 * ((d6 + d7) + 256 * d7)))))) := by omega
  rw [s2]
  clear s2
  rw [pc_q (by omega) (by omega) (by omega) (by omega), pc_r]
  omega
/-- the machine's way to count them -/
def l_f1 (x : Int) : Int := z_lsub x (z_land (z_lush x 1) 6148914691236517205)
def l_f2 (x : Int) : Int := z_ladd (z_land x 3689348814741910323) (z_land (z_lush x 2) 3689348814741910323)
def l_f3 (x : Int) : Int := z_land (z_ladd x (z_lush x 4)) 1085102592571150095
def l_f4 (x : Int) : Int := z_ladd x (z_lush x 8)
def l_f5 (x : Int) : Int := z_ladd x (z_lush x 16)
def l_f6 (x : Int) : Int := z_ladd x (z_lush x 32)
theorem l_masks : lv 6148914691236517205 = bk 85 8 ∧ lv 3689348814741910323 = bk 51 8 ∧ lv 1085102592571150095 = bk 15 8 := by decide +kernel
theorem l_f1_ok (x : Int) : lv (l_f1 x) = bm bf1 8 (lv x) := by
  have hx : lv x < 256 ^ 8 := l6_lt x
  have e := bk_sh (k := 2) (q := 128) (c := 85) rfl (by decide) (by decide) (by decide +kernel) 8 (lv x) hx
  obtain ⟨h1, h2⟩ := bm_sub (g := fun b => b / 2 &&& 85) (fun b hb => (bf_lt b hb).2.2.2) 8 (lv x) hx
  unfold l_f1
  rw [l6_sub, l6_and, (l6_ush x).1, l_masks.1, e, show 2 ^ 64 - bm (fun b => b / 2 &&& 85) 8 (lv x) + lv x = 2 ^ 64 + (lv x - bm (fun b => b / 2 &&& 85) 8 (lv x)) by omega, h2, Nat.add_mod_left]
  exact Nat.mod_eq_of_lt (bm_lt (g := bf1) (fun b hb => (bf_lt b hb).1) 8 (lv x))
theorem l_f2_ok {x : Int} {g : Nat → Nat} {X : Nat} (hx : lv x = bm g 8 X) (hg : ∀ b, b < 256 → g b < 256) (hs : ∀ b, b < 256 → bf2 (g b) < 256) : lv (l_f2 x) = bm (fun b => bf2 (g b)) 8 X := by
  have hX : bm g 8 X < 256 ^ 8 := bm_lt hg 8 X
  have e1 := bk_and (c := 51) (by decide) 8 _ hX
  have e2 := bk_sh (k := 4) (q := 64) (c := 51) rfl (by decide) (by decide) (by decide +kernel) 8 _ hX
  have h2 : bm (fun b => bf2 (g b)) 8 X < 2 ^ 64 := bm_lt hs 8 X
  unfold l_f2
  rw [l6_add, l6_and, l6_and, (l6_ush x).2.1, l_masks.2.1, hx, e1, e2, bm_bm hg, bm_bm hg, bm_add]
  exact Nat.mod_eq_of_lt h2
theorem l_f3_ok {x : Int} {g : Nat → Nat} {X : Nat} (hx : lv x = bm g 8 X) (hg : ∀ b, b < 256 → g b % 16 ≤ 4 ∧ g b / 16 ≤ 4) : lv (l_f3 x) = bm (fun b => bf3 (g b)) 8 X := by
  have hb : bm (fun b => g b % 69) 8 X = bm g 8 X := bm_cg (fun b hb => by have := hg b hb; omega) 8 X
  have hX : bm g 8 X < 2 ^ 63 := by
    have h := bm_lt (g := g) (fun b hb => by have := hg b hb; omega) 7 (X / 256)
    have h7 : ∀ n Y, bm g n Y ≤ 68 * bk 1 n := fun n => by
      induction n with
      | zero => intro Y; exact Nat.le_refl _
      | succ n ih =>
        intro Y
        have h1 := hg (Y % 256) (Nat.mod_lt _ (by decide))
        have h2 := ih (Y / 256)
        show g (Y % 256) + 256 * bm g n (Y / 256) ≤ 68 * (1 + 256 * bk 1 n)
        omega
    have h8 := h7 8 X
    have h9 : 68 * bk 1 8 < 2 ^ 63 := by decide +kernel
    omega
  have e := (bm_nib hg 8 X).1
  unfold l_f3
  rw [l6_and, l6_add, (l6_ush x).2.2.1, l_masks.2.2, hx, Nat.mod_eq_of_lt (show bm g 8 X + bm g 8 X / 16 < 2 ^ 64 by omega), e]
  rfl
theorem l_pc (x : Int) : z_and (z_l2i (l_f6 (l_f5 (l_f4 (l_f3 (l_f2 (l_f1 x))))))) 127 = ((pcN 64 (lv x) : Nat) : Int) := by
  have e1 := l_f1_ok x
  have e2 := l_f2_ok e1 (fun b hb => (bf_lt b hb).1) (fun b hb => by have := (bf_lt b hb).2.1; omega)
  have e3 := l_f3_ok e2 (fun b hb => (bf_lt b hb).2.1)
  have e3 : lv (l_f3 (l_f2 (l_f1 x))) = bm (pcN 8) 8 (lv x) := e3.trans (bm_cg (fun b hb => (bf_lt b hb).2.2.1) 8 (lv x))
  obtain ⟨p1, p2⟩ := pc_sum (lv x) e3
  generalize l_f3 (l_f2 (l_f1 x)) = y at e3 p1 p2 ⊢
  have a4 : lv (l_f4 y) = lv y + lv y / 256 := by
    unfold l_f4
    rw [l6_add, (l6_ush y).2.2.2.1]
    exact Nat.mod_eq_of_lt (by omega)
  have a5 : lv (l_f5 (l_f4 y)) = lv y + lv y / 256 + (lv y + lv y / 256) / 65536 := by
    unfold l_f5
    rw [l6_add, (l6_ush (l_f4 y)).2.2.2.2.1, a4]
    exact Nat.mod_eq_of_lt (by omega)
  have a6 : lv (l_f6 (l_f5 (l_f4 y))) = (lv y + lv y / 256 + (lv y + lv y / 256) / 65536) + (lv y + lv y / 256 + (lv y + lv y / 256) / 65536) / 4294967296 := by
    unfold l_f6
    rw [l6_add, (l6_ush (l_f5 (l_f4 y))).2.2.2.2.2, a5]
    exact Nat.mod_eq_of_lt (by omega)
  rw [l6_127, a6, p1]
/-- one bit more -/
theorem pcN_or : ∀ (f X k : Nat), k < f → pcN f (X ||| 2 ^ k) = pcN f X + (if X.testBit k = true then 0 else 1)
  | 0, _, _, h => absurd h (Nat.not_lt_zero _)
  | f + 1, X, 0, _ => by
    have h1 : (X ||| 2 ^ 0) % 2 = 1 := Nat.or_mod_two_eq_one.mpr (Or.inr rfl)
    have h2 : (X ||| 2 ^ 0) / 2 = X / 2 := by
      rw [Nat.or_div_two, show (2 ^ 0 / 2 : Nat) = 0 from rfl, Nat.or_zero]
    unfold pcN
    rw [h1, h2, Nat.testBit_zero]
    by_cases c : X % 2 = 1
    · rw [if_pos (decide_eq_true c)]
      omega
    · rw [if_neg (by rw [decide_eq_false c]; decide)]
      omega
  | f + 1, X, k + 1, h => by
    have h1 : (X ||| 2 ^ (k + 1)) % 2 = X % 2 := by
      have a : (X ||| 2 ^ (k + 1)) % 2 = 1 ↔ X % 2 = 1 ∨ 2 ^ (k + 1) % 2 = 1 := Nat.or_mod_two_eq_one
      have b : 2 ^ (k + 1) % 2 = 0 := by
        rw [Nat.pow_succ]
        omega
      omega
    have h2 : (X ||| 2 ^ (k + 1)) / 2 = X / 2 ||| 2 ^ k := by
      rw [Nat.or_div_two, show 2 ^ (k + 1) / 2 = 2 ^ k by rw [Nat.pow_succ]; omega]
    unfold pcN
    rw [h1, h2, pcN_or f (X / 2) k (by omega), Nat.testBit_add_one, Nat.add_assoc]
theorem bit_or (X : Nat) {k v : Nat} : (X ||| 2 ^ k).testBit v = (X.testBit v || decide (k = v)) := by
  rw [Nat.testBit_or, Nat.testBit_two_pow]
end
section
/-! COLUMNS: what happens in one depends on no other -/
def zb (a : Int) (k : Nat) : Bool := (Int32.ofInt a).toBitVec.getLsbD k
theorem zb_or (a b : Int) (k : Nat) : zb (z_or a b) k = (zb a k || zb b k) := by
  unfold zb z_or
  rw [Int32.ofInt_toInt, Int32.toBitVec_or, BitVec.getLsbD_or]
theorem zb_and (a b : Int) (k : Nat) : zb (z_and a b) k = (zb a k && zb b k) := by
  unfold zb z_and
  rw [Int32.ofInt_toInt, Int32.toBitVec_and, BitVec.getLsbD_and]
theorem zb_0 (k : Nat) : zb 0 k = false := by
  unfold zb
  show (0#32).getLsbD k = false
  exact BitVec.getLsbD_zero
theorem zb_32 {a : Int} {k : Nat} (hk : 32 ≤ k) : zb a k = false := BitVec.getLsbD_of_ge _ _ hk
theorem zb_ext {a b : Int} (ha : z_w a = a) (hb : z_w b = b) (h : ∀ k, k < 32 → zb a k = zb b k) : a = b := by
  have e : Int32.ofInt a = Int32.ofInt b := by
    apply Int32.toBitVec_inj.mp
    exact BitVec.eq_of_getLsbD_eq fun i hi => h i hi
  rw [← ha, ← hb]
  unfold z_w
  rw [e]
theorem z_and_w {a b : Int} : z_w (z_and a b) = z_and a b := by
  unfold z_w z_and
  rw [Int32.ofInt_toInt]
theorem z_and_0 {a b : Int} : z_and a b = 0 ↔ ∀ k, k < 32 → ¬ (zb a k = true ∧ zb b k = true) := by
  constructor
  · intro z k hk ⟨h1, h2⟩
    have e := zb_and a b k
    rw [z, zb_0, h1, h2] at e
    cases e
  · intro z
    refine zb_ext z_and_w (by decide +kernel) fun k hk => ?_
    rw [zb_and, zb_0]
    cases h1 : zb a k <;> cases h2 : zb b k <;> first | rfl | exact absurd ⟨h1, h2⟩ (z k hk)
theorem zb_shl {x k : Nat} (hx : x < 32) (hk : k < 32) : zb (z_shl 1 (x : Int)) k = decide (k = x) := by
  have : ∀ x, x < 32 → ∀ k, k < 32 → zb (z_shl 1 ((x : Nat) : Int)) k = decide (k = x) := by decide +kernel
  exact this x hx k hk
theorem b_amt32 {x : Nat} (hx : x < 32) : (((Int32.ofInt (x : Int)) &&& 31).toBitVec.smod 32).toNat = x := by
  have : ∀ x, x < 32 → (((Int32.ofInt ((x : Nat) : Int)) &&& 31).toBitVec.smod 32).toNat = x := by decide +kernel
  exact this x hx
theorem zb_test32 {a : Int} {k : Nat} (hk : k < 32) : z_and (z_shr a (k : Int)) 1 = 0 ↔ zb a k = false := by
  have e0 : ∀ i, zb (z_and (z_shr a (k : Int)) 1) i = (zb a (k + i) && decide (i = 0)) ∨ 32 ≤ i := fun i => by
    by_cases hi : 32 ≤ i
    · exact Or.inr hi
    refine Or.inl ?_
    rw [zb_and]
    have e1 : zb 1 i = decide (i = 0) := by
      have : ∀ i, i < 32 → zb 1 i = decide (i = 0) := by decide +kernel
      exact this i (by omega)
    rw [e1]
    by_cases hz : i = 0
    · subst hz
      congr 1
      unfold zb z_shr
      rw [Int32.ofInt_toInt, Int32.toBitVec_shiftRight, BitVec.sshiftRight_eq', b_amt32 hk, BitVec.getLsbD_sshiftRight, Nat.add_zero, if_pos (by omega)]
      simp
    · rw [decide_eq_false hz, Bool.and_false, Bool.and_false]
  constructor
  · intro z
    rcases e0 0 with e | e
    · rw [z, zb_0, Nat.add_zero, decide_eq_true rfl, Bool.and_true] at e
      exact e.symm
    · omega
  · intro z
    refine zb_ext z_and_w (by decide +kernel) fun i hi => ?_
    rcases e0 i with e | e
    · rw [e, zb_0]
      by_cases hz : i = 0
      · rw [hz, Nat.add_zero, z]
        rfl
      · rw [decide_eq_false hz, Bool.and_false]
    · omega
theorem zb_test {a : Int} {k : Nat} (hk : k < 9) : z_and (z_shr a (k : Int)) 1 = 0 ↔ zb a k = false := zb_test32 (by omega)
theorem zb_bt {P : Nat → Bool} {k : Nat} (hk : k < 32) : ∀ (f x : Nat) (b : Int), x + f ≤ 9 → zb (s_bt P f x b) k = (zb b k || (decide (x ≤ k ∧ k < x + f) && P k)) := by
  intro f
  induction f with
  | zero =>
    intro x b hx
    rw [decide_eq_false (by omega), Bool.false_and, Bool.or_false]
    rfl
  | succ f ih =>
    intro x b hx
    unfold s_bt
    rw [ih (x + 1) _ (by omega)]
    by_cases e : k = x
    · rw [decide_eq_false (show ¬ (x + 1 ≤ k ∧ k < x + 1 + f) by omega), decide_eq_true (show x ≤ k ∧ k < x + (f + 1) by omega), Bool.false_and, Bool.or_false, Bool.true_and]
      by_cases c : P x = true
      · rw [if_pos c, zb_or, zb_shl (by omega) hk, decide_eq_true e, e, c]
      · rw [if_neg c]
        have c' : P x = false := by
          cases h : P x
          · rfl
          · exact absurd h c
        rw [e, c', Bool.or_false]
    · have ed : decide (x + 1 ≤ k ∧ k < x + 1 + f) = decide (x ≤ k ∧ k < x + (f + 1)) := decide_eq_decide.mpr ⟨fun z => by omega, fun z => by omega⟩
      rw [ed]
      by_cases c : P x = true
      · rw [if_pos c, zb_or, zb_shl (by omega) hk, decide_eq_false e, Bool.or_false]
      · rw [if_neg c]
theorem bt_and {P Q : Nat → Bool} : z_and (s_bt P 9 0 0) (s_bt Q 9 0 0) = 0 ↔ ∀ k, k < 9 → ¬ (P k = true ∧ Q k = true) := by
  rw [z_and_0]
  have e : ∀ (P : Nat → Bool) k, k < 32 → zb (s_bt P 9 0 0) k = (decide (k < 9) && P k) := fun P k hk => by
    rw [zb_bt hk 9 0 0 (by decide), zb_0, Bool.false_or]
    congr 1
    exact decide_eq_decide.mpr ⟨fun z => by omega, fun z => by omega⟩
  constructor
  · intro z k hk ⟨h1, h2⟩
    refine z k (by omega) ⟨?_, ?_⟩
    · rw [e P k (by omega), decide_eq_true hk, h1]
      rfl
    · rw [e Q k (by omega), decide_eq_true hk, h2]
      rfl
  · intro z k hk ⟨h1, h2⟩
    rw [e P k hk] at h1
    rw [e Q k hk] at h2
    obtain ⟨a1, a2⟩ := Bool.and_eq_true _ _ |>.mp h1
    obtain ⟨b1, b2⟩ := Bool.and_eq_true _ _ |>.mp h2
    exact z k (of_decide_eq_true a1) ⟨a2, b2⟩
/-! alike in a column -/
def agN (c : Nat) (A B : Nat → Int) : Prop := ∀ r : Nat, r < 9 → r % 3 = c → A r = B r ∧ A (r + 9) = B (r + 9)
def ag (c n : Nat) (A B : Nat → Int) : Prop := agN c A B ∧ (∀ p, p < n → ∀ r : Nat, r < 9 → r % 3 = c → (A (p + 18) = (r : Int) ↔ B (p + 18) = (r : Int))) ∧ (∀ r : Nat, r < 9 → r % 3 = c → (A 34 = (r : Int) ↔ B 34 = (r : Int))) ∧ A 35 = B 35 ∧ A 36 = B 36
theorem ag_rf {c n : Nat} {A : Nat → Int} : ag c n A A := ⟨fun _ _ _ => ⟨rfl, rfl⟩, fun _ _ _ _ _ => Iff.rfl, fun _ _ _ => Iff.rfl, rfl, rfl⟩
theorem ag_sy {c n : Nat} {A B : Nat → Int} (h : ag c n A B) : ag c n B A := ⟨fun r h1 h2 => ⟨(h.1 r h1 h2).1.symm, (h.1 r h1 h2).2.symm⟩, fun p hp r h1 h2 => (h.2.1 p hp r h1 h2).symm, fun r h1 h2 => (h.2.2.1 r h1 h2).symm, h.2.2.2.1.symm, h.2.2.2.2.symm⟩
theorem ag_tr {c n : Nat} {A B C : Nat → Int} (h : ag c n A B) (k : ag c n B C) : ag c n A C := ⟨fun r h1 h2 => ⟨(h.1 r h1 h2).1.trans (k.1 r h1 h2).1, (h.1 r h1 h2).2.trans (k.1 r h1 h2).2⟩, fun p hp r h1 h2 => (h.2.1 p hp r h1 h2).trans (k.2.1 p hp r h1 h2), fun r h1 h2 => (h.2.2.1 r h1 h2).trans (k.2.2.1 r h1 h2), h.2.2.2.1.trans k.2.2.2.1, h.2.2.2.2.trans k.2.2.2.2⟩
/-! who is where: warmth, heads -/
def gw (v A : Nat → Int) (r : Nat) : Nat → Nat → Int → Int
  | 0, _, a => a
  | f + 1, x, a => gw v A r f (x + 1) (if A (x + 18) = (r : Int) then z_add a (v x) else a)
theorem gw_cg {v v' A A' : Nat → Int} {r : Nat} : ∀ (f x : Nat) (a : Int), (∀ p, x ≤ p → p < x + f → (A (p + 18) = (r : Int) ↔ A' (p + 18) = (r : Int)) ∧ (A (p + 18) = (r : Int) → v p = v' p)) → gw v A r f x a = gw v' A' r f x a
  | 0, _, _, _ => rfl
  | f + 1, x, a, h => by
    obtain ⟨h1, h2⟩ := h x (Nat.le_refl _) (by omega)
    unfold gw
    by_cases c : A (x + 18) = (r : Int)
    · rw [if_pos c, if_pos (h1.mp c), h2 c]
      exact gw_cg f (x + 1) _ (fun p a b => h p (by omega) (by omega))
    · rw [if_neg c, if_neg (fun z => c (h1.mpr z))]
      exact gw_cg f (x + 1) _ (fun p a b => h p (by omega) (by omega))
theorem hr_g_w {wm : Nat → Int} {price : Int} : ∀ (f x : Nat) (W C A : Nat → Int), x + f ≤ 5 → (∀ r : Nat, r < 9 → (hr_g wm price f x W C A).1 r = gw wm A r f x (W r) ∧ (hr_g wm price f x W C A).2.1 r = gw (fun _ => 1) A r f x (C r)) ∧ ∀ j, (j < 23 ∨ 28 ≤ j) → (hr_g wm price f x W C A).2.2 j = A j := by
  intro f
  induction f with
  | zero => intro x W C A hx; exact ⟨fun r hr => ⟨rfl, rfl⟩, fun j _ => rfl⟩
  | succ f ih =>
    intro x W C A hx
    unfold hr_g gw
    by_cases c1 : A (x + 18) < 0
    · rw [if_pos c1]
      obtain ⟨i1, i2⟩ := ih (x + 1) W C A (by omega)
      refine ⟨fun r hr => ?_, i2⟩
      rw [if_neg (show ¬ A (x + 18) = (r : Int) by omega), if_neg (show ¬ A (x + 18) = (r : Int) by omega)]
      exact i1 r hr
    rw [if_neg c1]
    by_cases c2 : 9 ≤ A (x + 18)
    · rw [if_pos c2]
      obtain ⟨i1, i2⟩ := ih (x + 1) W C A (by omega)
      refine ⟨fun r hr => ?_, i2⟩
      rw [if_neg (show ¬ A (x + 18) = (r : Int) by omega), if_neg (show ¬ A (x + 18) = (r : Int) by omega)]
      exact i1 r hr
    rw [if_neg c2]
    obtain ⟨i1, i2⟩ := ih (x + 1) (u_up W (A (x + 18)).toNat (z_add (W (A (x + 18)).toNat) (wm x))) (u_up C (A (x + 18)).toNat (z_add (C (A (x + 18)).toNat) 1)) (u_up A (x + 23) (z_add (A (x + 23)) (z_mul price (wm x)))) (by omega)
    have eg : ∀ (v : Nat → Int) (r : Nat) (a : Int), gw v (u_up A (x + 23) (z_add (A (x + 23)) (z_mul price (wm x)))) r f (x + 1) a = gw v A r f (x + 1) a := fun v r a => gw_cg f (x + 1) a (fun p h1 h2 => by
      rw [u_up_ne (by omega)]
      exact ⟨Iff.rfl, fun _ => rfl⟩)
    refine ⟨fun r hr => ?_, fun j hj => (i2 j hj).trans (u_up_ne (by omega))⟩
    obtain ⟨k1, k2⟩ := i1 r hr
    rw [k1, k2, eg, eg]
    by_cases e : A (x + 18) = (r : Int)
    · have e2 : (A (x + 18)).toNat = r := by omega
      rw [if_pos e, if_pos e, e2, u_up_self, u_up_self]
      exact ⟨rfl, rfl⟩
    · have e2 : ¬ r = (A (x + 18)).toNat := by omega
      rw [if_neg e, if_neg e, u_up_ne e2, u_up_ne e2]
      exact ⟨rfl, rfl⟩
theorem hr_sv_at {heat v : Int} {W : Nat → Int} {r : Nat} (hr : r < 9) : hr_sv heat v W r = if v = (r : Int) then z_add (W r) heat else W r := by
  unfold hr_sv
  by_cases c1 : v < 0
  · rw [if_pos c1, if_neg (by omega)]
  rw [if_neg c1]
  by_cases c2 : 9 ≤ v
  · rw [if_pos c2, if_neg (by omega)]
  rw [if_neg c2]
  by_cases e : v = (r : Int)
  · rw [if_pos e, show v.toNat = r by omega, u_up_self]
  · rw [if_neg e, u_up_ne (by omega)]
/-! melting, dripping -/
theorem hr_d1_hi {u e : Int} {r j : Nat} {A : Nat → Int} (hu : u = 0 ∨ r + 3 < 9) (hr : r < 9) (hj : 18 ≤ j) (h33 : ¬ j = 33) : hr_d1 u e r A j = A j := by
  unfold hr_d1
  rw [u_up_ne (by omega), u_up_ne (by omega)]
  by_cases c : u = 0
  · rw [if_pos c, u_up_ne h33]
  · rw [if_neg c, u_up_ne (by omega)]
theorem hr_d1_off {u e : Int} {r q c : Nat} {A : Nat → Int} (hu : u = 0 ∨ r + 3 < 9) (hr : r < 9) (hc : ¬ r % 3 = c) (hq : q < 9) (hqc : q % 3 = c) : hr_d1 u e r A q = A q ∧ hr_d1 u e r A (q + 9) = A (q + 9) := by
  unfold hr_d1
  rw [u_up_ne (by omega), u_up_ne (by omega), u_up_ne (by omega), u_up_ne (by omega)]
  by_cases c0 : u = 0
  · rw [if_pos c0, u_up_ne (by omega), u_up_ne (by omega)]
    exact ⟨rfl, rfl⟩
  · rw [if_neg c0, u_up_ne (by omega), u_up_ne (by omega)]
    exact ⟨rfl, rfl⟩
theorem hr_d1_on {u e : Int} {r c : Nat} {A B : Nat → Int} (hu : u = 0 ∨ r + 3 < 9) (hr : r < 9) (hc : r % 3 = c) (h : agN c A B) : agN c (hr_d1 u e r A) (hr_d1 u e r B) := by
  intro q hq hqc
  obtain ⟨r1, r2⟩ := h r hr hc
  obtain ⟨q1, q2⟩ := h q hq hqc
  have base : (if u = 0 then u_up A 33 (z_add (A 33) (A (r + 9))) else u_up A (r + 12) (z_add (A (r + 12)) (A (r + 9)))) q = (if u = 0 then u_up B 33 (z_add (B 33) (B (r + 9))) else u_up B (r + 12) (z_add (B (r + 12)) (B (r + 9)))) q ∧ (if u = 0 then u_up A 33 (z_add (A 33) (A (r + 9))) else u_up A (r + 12) (z_add (A (r + 12)) (A (r + 9)))) (q + 9) = (if u = 0 then u_up B 33 (z_add (B 33) (B (r + 9))) else u_up B (r + 12) (z_add (B (r + 12)) (B (r + 9)))) (q + 9) := by
    by_cases c0 : u = 0
    · rw [if_pos c0, if_pos c0, u_up_ne (by omega), u_up_ne (by omega), u_up_ne (by omega), u_up_ne (by omega)]
      exact ⟨q1, q2⟩
    · have h3 : r + 3 < 9 := hu.resolve_left c0
      obtain ⟨s1, s2⟩ := h (r + 3) h3 (by omega)
      rw [if_neg c0, if_neg c0, u_up_ne (by omega), u_up_ne (by omega)]
      refine ⟨q1, ?_⟩
      by_cases e : q = r + 3
      · rw [e, show r + 3 + 9 = r + 12 by omega, u_up_self, u_up_self, r2]
        rw [show r + 3 + 9 = r + 12 by omega] at s2
        rw [s2]
      · rw [u_up_ne (by omega), u_up_ne (by omega)]
        exact q2
  unfold hr_d1
  by_cases e : q = r
  · subst e
    refine ⟨?_, ?_⟩
    · rw [u_up_self, u_up_self, r1]
    · rw [u_up_ne (show ¬ q + 9 = q by omega), u_up_ne (show ¬ q + 9 = q by omega), u_up_self, u_up_self]
  · rw [u_up_ne (by omega), u_up_ne (by omega), u_up_ne (by omega), u_up_ne (by omega), u_up_ne (by omega), u_up_ne (by omega), u_up_ne (by omega), u_up_ne (by omega)]
    exact base
theorem hs_lo {w h : Nat} {r : Nat} : u_hs (w : Int) (h : Int) ((r : Int) + 3) = 0 ∨ r + 3 < 9 := by
  by_cases c : u_hs (w : Int) (h : Int) ((r : Int) + 3) = 0
  · exact Or.inl c
  · have := u_hs_rng c
    exact Or.inr (by omega)
theorem hr_d_hi {w h : Nat} {b : Int} {ml : hr_M} {W C : Nat → Int} {j : Nat} (hj : 18 ≤ j) (h33 : ¬ j = 33) : ∀ (f : Nat) (A : Nat → Int) (t : Int), f ≤ 9 → (hr_d (w : Int) (h : Int) b ml W C f A t).1 j = A j := by
  intro f
  induction f with
  | zero => intro A t hf; rfl
  | succ f ih =>
    intro A t hf
    unfold hr_d
    by_cases c : z_and (z_shr b (f : Int)) 1 = 0
    · rw [if_pos c]
      exact ih A t (by omega)
    · rw [if_neg c, ih _ _ (by omega)]
      exact hr_d1_hi hs_lo (by omega) hj h33
theorem ag_d {w h c : Nat} {b b' : Int} {ml : hr_M} {W C W' C' : Nat → Int} (hb : ∀ r : Nat, r < 9 → r % 3 = c → (z_and (z_shr b (r : Int)) 1 = 0 ↔ z_and (z_shr b' (r : Int)) 1 = 0)) (hW : ∀ r : Nat, r < 9 → r % 3 = c → W r = W' r ∧ C r = C' r) : ∀ (f : Nat) (A B : Nat → Int) (t t' : Int), f ≤ 9 → agN c A B → A 35 = B 35 → A 36 = B 36 → agN c (hr_d (w : Int) (h : Int) b ml W C f A t).1 (hr_d (w : Int) (h : Int) b' ml W' C' f B t').1 := by
  intro f
  induction f with
  | zero => intro A B t t' hf h1 h5 h6; exact h1
  | succ f ih =>
    intro A B t t' hf h1 h5 h6
    unfold hr_d
    by_cases hc : f % 3 = c
    · have hbf := hb f (by omega) hc
      by_cases z : z_and (z_shr b (f : Int)) 1 = 0
      · rw [if_pos z, if_pos (hbf.mp z)]
        exact ih A B t t' (by omega) h1 h5 h6
      · have ee : hr_e ml W C f A = hr_e ml W' C' f B := by
          obtain ⟨r1, r2⟩ := h1 f (by omega) hc
          obtain ⟨w1, w2⟩ := hW f (by omega) hc
          unfold hr_e
          rw [r1, r2, w1, w2, h5, h6]
        rw [if_neg z, if_neg (fun y => z (hbf.mpr y)), ee]
        exact ih _ _ _ _ (by omega) (hr_d1_on hs_lo (by omega) hc h1) (by rw [hr_d1_hi hs_lo (by omega) (by decide) (by decide), hr_d1_hi hs_lo (by omega) (by decide) (by decide)]; exact h5) (by rw [hr_d1_hi hs_lo (by omega) (by decide) (by decide), hr_d1_hi hs_lo (by omega) (by decide) (by decide)]; exact h6)
    · have one : ∀ (W C : Nat → Int) (A : Nat → Int), agN c (hr_d1 (u_hs (w : Int) (h : Int) ((f : Int) + 3)) (hr_e ml W C f A) f A) A ∧ hr_d1 (u_hs (w : Int) (h : Int) ((f : Int) + 3)) (hr_e ml W C f A) f A 35 = A 35 ∧ hr_d1 (u_hs (w : Int) (h : Int) ((f : Int) + 3)) (hr_e ml W C f A) f A 36 = A 36 := fun W C A => ⟨fun q hq hqc => hr_d1_off hs_lo (by omega) hc hq hqc, hr_d1_hi hs_lo (by omega) (by decide) (by decide), hr_d1_hi hs_lo (by omega) (by decide) (by decide)⟩
      have tr : ∀ {A B C : Nat → Int}, agN c A B → agN c B C → agN c A C := fun h k r h1 h2 => ⟨(h r h1 h2).1.trans (k r h1 h2).1, (h r h1 h2).2.trans (k r h1 h2).2⟩
      have sy : ∀ {A B : Nat → Int}, agN c A B → agN c B A := fun h r h1 h2 => ⟨(h r h1 h2).1.symm, (h r h1 h2).2.symm⟩
      obtain ⟨a1, a2, a3⟩ := one W C A
      obtain ⟨b1, b2, b3⟩ := one W' C' B
      by_cases z : z_and (z_shr b (f : Int)) 1 = 0
      · rw [if_pos z]
        by_cases z' : z_and (z_shr b' (f : Int)) 1 = 0
        · rw [if_pos z']
          exact ih A B _ _ (by omega) h1 h5 h6
        · rw [if_neg z']
          exact ih A _ _ _ (by omega) (tr h1 (sy b1)) (h5.trans b2.symm) (h6.trans b3.symm)
      · rw [if_neg z]
        by_cases z' : z_and (z_shr b' (f : Int)) 1 = 0
        · rw [if_pos z']
          exact ih _ B _ _ (by omega) (tr a1 h1) (a2.trans h5) (a3.trans h6)
        · rw [if_neg z']
          exact ih _ _ _ _ (by omega) (tr (tr a1 h1) (sy b1)) ((a2.trans h5).trans b2.symm) ((a3.trans h6).trans b3.symm)
/-! freezing, giving, falling -/
theorem hr_f_hi {r j : Nat} {A : Nat → Int} (hr : r < 9) (hj : 18 ≤ j) : hr_f r A j = A j := by
  unfold hr_f
  rw [u_up_ne (by omega), u_up_ne (by omega)]
theorem hr_f_nn {r q : Nat} {A : Nat → Int} (hr : r < 9) (hq : q < 9) (hn : ¬ q = r) : hr_f r A q = A q ∧ hr_f r A (q + 9) = A (q + 9) := by
  unfold hr_f
  rw [u_up_ne hn, u_up_ne (by omega), u_up_ne (by omega), u_up_ne (by omega)]
  exact ⟨rfl, rfl⟩
theorem hr_f_eq {r : Nat} {A B : Nat → Int} (hr : r < 9) (h1 : A r = B r) (h2 : A (r + 9) = B (r + 9)) (h3 : A 36 = B 36) : hr_f r A r = hr_f r B r ∧ hr_f r A (r + 9) = hr_f r B (r + 9) := by
  unfold hr_f
  refine ⟨?_, ?_⟩
  · rw [u_up_self, u_up_self, h1, h2, h3]
  · rw [u_up_ne (show ¬ r + 9 = r by omega), u_up_ne (show ¬ r + 9 = r by omega), u_up_self, u_up_self, h1, h2, h3]
theorem hr_p_at {r to : Int} {q : Nat} (hq : q < 5) : ∀ (f x : Nat) (A : Nat → Int) (fb fm : Int), x + f ≤ 5 → (hr_p r to f x A fb fm).1 (q + 18) = if (x ≤ q ∧ q < x + f) ∧ A (q + 18) = r then to else A (q + 18) := by
  intro f
  induction f with
  | zero =>
    intro x A fb fm hx
    rw [if_neg (by omega)]
    rfl
  | succ f ih =>
    intro x A fb fm hx
    unfold hr_p
    by_cases c : A (x + 18) = r
    · rw [if_pos c, ih (x + 1) _ _ _ (by omega)]
      by_cases e : q = x
      · rw [if_neg (by omega), if_pos ⟨by omega, by rw [e]; exact c⟩, u_up_ne (by omega), e, u_up_self]
      · rw [u_up_ne (by omega), u_up_ne (by omega)]
        by_cases y : A (q + 18) = r
        · by_cases z : x ≤ q ∧ q < x + (f + 1)
          · rw [if_pos ⟨by omega, y⟩, if_pos ⟨z, y⟩]
          · rw [if_neg (fun k => z (by omega)), if_neg (fun k => z k.1)]
        · rw [if_neg (fun k => y k.2), if_neg (fun k => y k.2)]
    · rw [if_neg c, ih (x + 1) _ _ _ (by omega)]
      by_cases y : A (q + 18) = r
      · have e : ¬ q = x := fun k => c (by rw [← k]; exact y)
        by_cases z : x ≤ q ∧ q < x + (f + 1)
        · rw [if_pos ⟨by omega, y⟩, if_pos ⟨z, y⟩]
        · rw [if_neg (fun k => z (by omega)), if_neg (fun k => z k.1)]
      · rw [if_neg (fun k => y k.2), if_neg (fun k => y k.2)]
theorem hr_p_n {r to : Int} {q n : Nat} (n5 : n ≤ 5) (hq : q < n) (A : Nat → Int) (fb fm : Int) : (hr_p r to n 0 A fb fm).1 (q + 18) = if A (q + 18) = r then to else A (q + 18) := by
  rw [hr_p_at (by omega) n 0 A fb fm (by omega)]
  by_cases y : A (q + 18) = r
  · rw [if_pos ⟨by omega, y⟩, if_pos y]
  · rw [if_neg (fun k => y k.2), if_neg y]
theorem hr_st_at {r to : Int} {A : Nat → Int} : hr_st r to A 34 = if A 34 = r then to else A 34 := by
  unfold hr_st
  by_cases c : A 34 = r
  · rw [if_pos c, if_pos c, u_up_self]
  · rw [if_neg c, if_neg c]
theorem hr_to_is {w h : Nat} {x : Nat} : hr_to (w : Int) (h : Int) x = -1 ∨ hr_to (w : Int) (h : Int) x = (x : Int) + 3 := by
  unfold hr_to
  split
  · exact Or.inl rfl
  · exact Or.inr rfl
/-- one room's turn -/
def hr_z (w h : Nat) (b : Int) (n x : Nat) (A : Nat → Int) (fb fm : Int) : Nat → Int := if z_and (z_shr b (x : Int)) 1 = 0 then A else if hr_f x A x = 0 then hr_st x (hr_to (w : Int) (h : Int) x) (hr_p x (hr_to (w : Int) (h : Int) x) n 0 (hr_f x A) fb fm).1 else hr_f x A
theorem hr_q_z {w h n : Nat} {b : Int} (f x : Nat) (A : Nat → Int) (g fb fm : Int) : ∃ g' fb' fm', hr_q (w : Int) (h : Int) b n (f + 1) x A g fb fm = hr_q (w : Int) (h : Int) b n f (x + 1) (hr_z w h b n x A fb fm) g' fb' fm' := by
  have e : hr_q (w : Int) (h : Int) b n (f + 1) x A g fb fm = if z_and (z_shr b (x : Int)) 1 = 0 then hr_q (w : Int) (h : Int) b n f (x + 1) A g fb fm else if hr_f x A x = 0 then hr_q (w : Int) (h : Int) b n f (x + 1) (hr_st x (hr_to (w : Int) (h : Int) x) (hr_p x (hr_to (w : Int) (h : Int) x) n 0 (hr_f x A) fb fm).1) (z_or g (z_shl 1 (x : Int))) (hr_p x (hr_to (w : Int) (h : Int) x) n 0 (hr_f x A) fb fm).2.1 (hr_p x (hr_to (w : Int) (h : Int) x) n 0 (hr_f x A) fb fm).2.2 else hr_q (w : Int) (h : Int) b n f (x + 1) (hr_f x A) g fb fm := rfl
  rw [e]
  unfold hr_z
  by_cases c : z_and (z_shr b (x : Int)) 1 = 0
  · rw [if_pos c, if_pos c]
    exact ⟨_, _, _, rfl⟩
  rw [if_neg c, if_neg c]
  by_cases d : hr_f x A x = 0
  · rw [if_pos d, if_pos d]
    exact ⟨_, _, _, rfl⟩
  · rw [if_neg d, if_neg d]
    exact ⟨_, _, _, rfl⟩
theorem hr_g_f {x j : Nat} {A : Nat → Int} {n : Nat} {fb fm t : Int} (n5 : n ≤ 5) (hx : x < 9) (hj : j < 18 ∨ 35 ≤ j) : hr_st (x : Int) t (hr_p (x : Int) t n 0 (hr_f x A) fb fm).1 j = hr_f x A j := by
  rw [hr_st_18 (by omega), hr_p_hi (by omega) n 0 _ _ _ (by omega)]
theorem ag_off {w h n c x : Nat} {b fb fm : Int} {A : Nat → Int} (n5 : n ≤ 5) (hx : x < 9) (hc : ¬ x % 3 = c) : ag c n (hr_z w h b n x A fb fm) A := by
  unfold hr_z
  by_cases c0 : z_and (z_shr b (x : Int)) 1 = 0
  · rw [if_pos c0]
    exact ag_rf
  rw [if_neg c0]
  have lo : ∀ r : Nat, r < 9 → r % 3 = c → hr_f x A r = A r ∧ hr_f x A (r + 9) = A (r + 9) := fun r h1 h2 => hr_f_nn hx h1 (fun z => hc (by rw [← z]; exact h2))
  by_cases d : hr_f x A x = 0
  · rw [if_pos d]
    have ht := hr_to_is (w := w) (h := h) (x := x)
    generalize hr_to (w : Int) (h : Int) x = t at ht ⊢
    refine ⟨fun r h1 h2 => ?_, fun p hp r h1 h2 => ?_, fun r h1 h2 => ?_, ?_, ?_⟩
    · rw [hr_g_f n5 hx (by omega), hr_g_f n5 hx (by omega)]
      exact lo r h1 h2
    · rw [hr_st_18 (by omega), hr_p_n n5 hp, hr_f_hi hx (by omega)]
      by_cases e : A (p + 18) = (x : Int)
      · rw [if_pos e]
        exact ⟨fun z => by omega, fun z => by omega⟩
      · rw [if_neg e]
    · rw [hr_st_at, hr_p_hi (by omega) n 0 _ _ _ (by omega), hr_f_hi hx (by decide)]
      by_cases e : A 34 = (x : Int)
      · rw [if_pos e]
        exact ⟨fun z => by omega, fun z => by omega⟩
      · rw [if_neg e]
    · rw [hr_g_f n5 hx (by omega), hr_f_hi hx (by decide)]
    · rw [hr_g_f n5 hx (by omega), hr_f_hi hx (by decide)]
  · rw [if_neg d]
    refine ⟨lo, fun p hp r h1 h2 => ?_, fun r h1 h2 => ?_, hr_f_hi hx (by decide), hr_f_hi hx (by decide)⟩
    · rw [hr_f_hi hx (by omega)]
    · rw [hr_f_hi hx (by decide)]
theorem ag_on {w h n c x : Nat} {b b' fb fm fb' fm' : Int} {A B : Nat → Int} (n5 : n ≤ 5) (hx : x < 9) (hc : x % 3 = c) (hb : z_and (z_shr b (x : Int)) 1 = 0 ↔ z_and (z_shr b' (x : Int)) 1 = 0) (hA : ag c n A B) : ag c n (hr_z w h b n x A fb fm) (hr_z w h b' n x B fb' fm') := by
  obtain ⟨a1, a2, a3, a4, a5⟩ := hA
  have lo : agN c (hr_f x A) (hr_f x B) := fun r h1 h2 => by
    by_cases e : r = x
    · subst e
      exact hr_f_eq hx (a1 r h1 h2).1 (a1 r h1 h2).2 a5
    · obtain ⟨e1, e2⟩ := hr_f_nn (A := A) hx h1 e
      obtain ⟨e3, e4⟩ := hr_f_nn (A := B) hx h1 e
      rw [e1, e2, e3, e4]
      exact a1 r h1 h2
  unfold hr_z
  by_cases c0 : z_and (z_shr b (x : Int)) 1 = 0
  · rw [if_pos c0, if_pos (hb.mp c0)]
    exact ⟨a1, a2, a3, a4, a5⟩
  rw [if_neg c0, if_neg (fun z => c0 (hb.mpr z))]
  have ex := (lo x hx hc).1
  by_cases d : hr_f x A x = 0
  · rw [if_pos d, if_pos (by rw [← ex]; exact d)]
    generalize hr_to (w : Int) (h : Int) x = t
    refine ⟨fun r h1 h2 => ?_, fun p hp r h1 h2 => ?_, fun r h1 h2 => ?_, ?_, ?_⟩
    · rw [hr_g_f n5 hx (by omega), hr_g_f n5 hx (by omega), hr_g_f n5 hx (by omega), hr_g_f n5 hx (by omega)]
      exact lo r h1 h2
    · rw [hr_st_18 (by omega), hr_st_18 (by omega), hr_p_n n5 hp, hr_p_n n5 hp, hr_f_hi hx (by omega), hr_f_hi hx (by omega)]
      have q := a2 p hp x hx hc
      by_cases e : A (p + 18) = (x : Int)
      · rw [if_pos e, if_pos (q.mp e)]
      · rw [if_neg e, if_neg (fun z => e (q.mpr z))]
        exact a2 p hp r h1 h2
    · rw [hr_st_at, hr_st_at, hr_p_hi (by omega) n 0 _ _ _ (by omega), hr_p_hi (by omega) n 0 _ _ _ (by omega), hr_f_hi hx (by decide), hr_f_hi hx (by decide)]
      have q := a3 x hx hc
      by_cases e : A 34 = (x : Int)
      · rw [if_pos e, if_pos (q.mp e)]
      · rw [if_neg e, if_neg (fun z => e (q.mpr z))]
        exact a3 r h1 h2
    · rw [hr_g_f n5 hx (by omega), hr_g_f n5 hx (by omega), hr_f_hi hx (by decide), hr_f_hi hx (by decide)]
      exact a4
    · rw [hr_g_f n5 hx (by omega), hr_g_f n5 hx (by omega), hr_f_hi hx (by decide), hr_f_hi hx (by decide)]
      exact a5
  · rw [if_neg d, if_neg (by rw [← ex]; exact d)]
    refine ⟨lo, fun p hp r h1 h2 => ?_, fun r h1 h2 => ?_, ?_, ?_⟩
    · rw [hr_f_hi hx (by omega), hr_f_hi hx (by omega)]
      exact a2 p hp r h1 h2
    · rw [hr_f_hi hx (by decide), hr_f_hi hx (by decide)]
      exact a3 r h1 h2
    · rw [hr_f_hi hx (by decide), hr_f_hi hx (by decide)]
      exact a4
    · rw [hr_f_hi hx (by decide), hr_f_hi hx (by decide)]
      exact a5
theorem ag_q {w h n c : Nat} {b b' : Int} (n5 : n ≤ 5) (hb : ∀ r : Nat, r < 9 → r % 3 = c → (z_and (z_shr b (r : Int)) 1 = 0 ↔ z_and (z_shr b' (r : Int)) 1 = 0)) : ∀ (f x : Nat) (A B : Nat → Int) (g fb fm g' fb' fm' : Int), x + f = 9 → ag c n A B → ag c n (hr_q (w : Int) (h : Int) b n f x A g fb fm).1 (hr_q (w : Int) (h : Int) b' n f x B g' fb' fm').1 := by
  intro f
  induction f with
  | zero => intro x A B g fb fm g' fb' fm' hx hA; exact hA
  | succ f ih =>
    intro x A B g fb fm g' fb' fm' hx hA
    obtain ⟨g1, g2, g3, e1⟩ := hr_q_z (w := w) (h := h) (n := n) (b := b) f x A g fb fm
    obtain ⟨k1, k2, k3, e2⟩ := hr_q_z (w := w) (h := h) (n := n) (b := b') f x B g' fb' fm'
    rw [e1, e2]
    refine ih (x + 1) _ _ _ _ _ _ _ _ (by omega) ?_
    by_cases hc : x % 3 = c
    · exact ag_on n5 (by omega) hc (hb x (by omega) hc) hA
    · exact ag_tr (ag_off n5 (by omega) hc) (ag_tr hA (ag_sy (ag_off n5 (by omega) hc)))
/-- who is in a column behind an HOUR, was in it ahead -/
def inC (c : Nat) (v : Int) : Prop := ∃ r : Nat, r < 9 ∧ r % 3 = c ∧ v = (r : Int)
theorem hr_z_in {w h n c x p : Nat} {b fb fm : Int} {A : Nat → Int} (n5 : n ≤ 5) (hx : x < 9) (hp : p < n) (hi : inC c (hr_z w h b n x A fb fm (p + 18))) : inC c (A (p + 18)) := by
  unfold hr_z at hi
  by_cases c0 : z_and (z_shr b (x : Int)) 1 = 0
  · rw [if_pos c0] at hi
    exact hi
  rw [if_neg c0] at hi
  by_cases d : hr_f x A x = 0
  · rw [if_pos d, hr_st_18 (by omega), hr_p_n n5 hp, hr_f_hi hx (by omega)] at hi
    by_cases e : A (p + 18) = (x : Int)
    · rw [if_pos e] at hi
      obtain ⟨r, r1, r2, r3⟩ := hi
      have ht := hr_to_is (w := w) (h := h) (x := x)
      exact ⟨x, hx, by omega, e⟩
    · rw [if_neg e] at hi
      exact hi
  · rw [if_neg d, hr_f_hi hx (by omega)] at hi
    exact hi
theorem hr_q_in {w h n c p : Nat} {b : Int} (n5 : n ≤ 5) (hp : p < n) : ∀ (f x : Nat) (A : Nat → Int) (g fb fm : Int), x + f = 9 → inC c ((hr_q (w : Int) (h : Int) b n f x A g fb fm).1 (p + 18)) → inC c (A (p + 18)) := by
  intro f
  induction f with
  | zero => intro x A g fb fm hx hi; exact hi
  | succ f ih =>
    intro x A g fb fm hx hi
    obtain ⟨g1, g2, g3, e1⟩ := hr_q_z (w := w) (h := h) (n := n) (b := b) f x A g fb fm
    rw [e1] at hi
    exact hr_z_in n5 (by omega) hp (ih (x + 1) _ _ _ _ (by omega) hi)
/-- the rooms that gave, as bits; what ICE they have behind it -/
theorem hr_q_gb {w h n : Nat} {b : Int} (n5 : n ≤ 5) : ∀ (f x : Nat) (A : Nat → Int) (g fb fm : Int), x + f = 9 → (hr_q (w : Int) (h : Int) b n f x A g fb fm).2.1 = s_bt (fun k => decide (¬ z_and (z_shr b (k : Int)) 1 = 0 ∧ hr_f k A k = 0)) f x g ∧ (∀ k, x ≤ k → k < 9 → (hr_q (w : Int) (h : Int) b n f x A g fb fm).1 k = if z_and (z_shr b (k : Int)) 1 = 0 then A k else hr_f k A k) ∧ ∀ k, k < x → (hr_q (w : Int) (h : Int) b n f x A g fb fm).1 k = A k := by
  intro f
  induction f with
  | zero => intro x A g fb fm hx; exact ⟨rfl, fun k h1 h2 => by omega, fun k _ => rfl⟩
  | succ f ih =>
    intro x A g fb fm hx
    have key : ∀ (A' : Nat → Int) (g' fb' fm' : Int), (∀ j, (j < 18 ∨ 35 ≤ j) → A' j = if z_and (z_shr b (x : Int)) 1 = 0 then A j else hr_f x A j) → g' = (if (decide (¬ z_and (z_shr b (x : Int)) 1 = 0 ∧ hr_f x A x = 0)) = true then z_or g (z_shl 1 (x : Int)) else g) → (hr_q (w : Int) (h : Int) b n f (x + 1) A' g' fb' fm').2.1 = s_bt (fun k => decide (¬ z_and (z_shr b (k : Int)) 1 = 0 ∧ hr_f k A k = 0)) (f + 1) x g ∧ (∀ k, x ≤ k → k < 9 → (hr_q (w : Int) (h : Int) b n f (x + 1) A' g' fb' fm').1 k = if z_and (z_shr b (k : Int)) 1 = 0 then A k else hr_f k A k) ∧ ∀ k, k < x → (hr_q (w : Int) (h : Int) b n f (x + 1) A' g' fb' fm').1 k = A k := by
      intro A' g' fb' fm' hA' hg'
      obtain ⟨i1, i2, i3⟩ := ih (x + 1) A' g' fb' fm' (by omega)
      have eo : ∀ k, k < 9 → ¬ k = x → A' k = A k ∧ A' (k + 9) = A (k + 9) := fun k hk hn => by
        rw [hA' k (by omega), hA' (k + 9) (by omega)]
        by_cases z : z_and (z_shr b (x : Int)) 1 = 0
        · rw [if_pos z, if_pos z]
          exact ⟨rfl, rfl⟩
        · rw [if_neg z, if_neg z]
          exact hr_f_nn (by omega) hk hn
      have e36 : A' 36 = A 36 := by
        rw [hA' 36 (by omega)]
        by_cases z : z_and (z_shr b (x : Int)) 1 = 0
        · rw [if_pos z]
        · rw [if_neg z, hr_f_hi (by omega) (by decide)]
      refine ⟨?_, fun k h1 h2 => ?_, fun k h1 => ?_⟩
      · rw [i1, hg']
        show _ = s_bt _ f (x + 1) _
        exact s_bt_cg f (x + 1) _ (fun y h1 h2 => by rw [(hr_f_eq (A := A') (B := A) (by omega) (eo y (by omega) (by omega)).1 (eo y (by omega) (by omega)).2 e36).1])
      · by_cases e : k = x
        · rw [e, i3 x (by omega), hA' x (by omega)]
        · rw [i2 k (by omega) h2, (eo k h2 e).1, (hr_f_eq (A := A') (B := A) h2 (eo k h2 e).1 (eo k h2 e).2 e36).1]
      · rw [i3 k (by omega)]
        exact (eo k (by omega) (by omega)).1
    unfold hr_q
    by_cases c : z_and (z_shr b (x : Int)) 1 = 0
    · rw [if_pos c]
      exact key A g fb fm (fun j _ => (if_pos c).symm) (if_neg (fun z => (of_decide_eq_true z).1 c)).symm
    rw [if_neg c]
    by_cases d : hr_f x A x = 0
    · rw [if_pos d]
      exact key _ _ _ _ (fun j hj => (hr_g_f n5 (by omega) hj).trans (if_neg c).symm) (if_pos (decide_eq_true ⟨c, d⟩)).symm
    · rw [if_neg d]
      exact key _ _ _ _ (fun j hj => (if_neg c).symm) (if_neg (fun z => d (of_decide_eq_true z).2)).symm
end
section
/-! STRETCHES of standing in a column, with bounds done -/
theorem sc_flo_0 {s : Nat} (hs : z_st s) (m : z_M) : z_R 92 (m, 0, [(2, 3), (2, ((s : Nat) : Int)), (9, 0), (9, 0)], []) = z_R 92 (m, 4, [(2, 3), (2, ((s : Nat) : Int)), (0, 0), (0, 0)], []) :=
  have hK : kt_at 92 = kt_92 := rfl
  (z_R_run hK (n := 4) (g' := (m, 4, [(2, 3), (2, ((s : Nat) : Int)), (0, 0), (0, 0)], [])) rfl).trans (rfl)
theorem sc_flo_4 {s : Nat} (hs : z_st s) (m : z_M) (x2 : Int) (x3 : Int) : z_R 92 (m, 4, [(2, 3), (2, ((s : Nat) : Int)), (0, x2), (0, x3)], []) = if 9 ≤ x3 then some (m, some (0, x2)) else if ¬ u_hs (m 3 8) (m 3 9) x3 = 0 then if m (s + 1) (x3).toNat ≤ 0 then z_R 92 (m, 4, [(2, 3), (2, ((s : Nat) : Int)), (0, x2), (0, x3 + 1)], []) else z_R 92 (m, 4, [(2, 3), (2, ((s : Nat) : Int)), (0, z_or x2 (z_shl 1 x3)), (0, x3 + 1)], []) else z_R 92 (m, 4, [(2, 3), (2, ((s : Nat) : Int)), (0, x2), (0, z_add x3 1)], []) :=
  have hK : kt_at 92 = kt_92 := rfl
  (z_R_run hK (n := 2) (g' := (m, 7, [(2, 3), (2, ((s : Nat) : Int)), (0, x2), (0, x3)], [(0, 9), (0, x3)])) rfl).trans (z_R_ifd hK (c := 9 ≤ x3) (p1 := 39) (p2 := 10) rfl rfl rfl (fun h1 => (z_R_run hK (n := 1) (g' := (m, 40, [(2, 3), (2, ((s : Nat) : Int)), (0, x2), (0, x3)], [(0, x2)])) rfl).trans (z_R_ret hK rfl rfl rfl)) (fun h1 => (z_R_run hK (n := 2) (g' := (m, 12, [(2, 3), (2, ((s : Nat) : Int)), (0, x2), (0, x3)], [(0, x3), (2, 3)])) rfl).trans (z_R_cif hK rfl rfl rfl rfl rfl (c_ifhas _ _ rfl rfl) (fun h2 => have h4 := u_hs_rng h2; (z_R_run hK (n := 2) (g' := (m, 19, [(2, 3), (2, ((s : Nat) : Int)), (0, x2), (0, x3)], [(2, ((s : Nat) : Int))])) rfl).trans (z_R_gf hK rfl rfl rfl (st_ga hs 0 (by decide)) ((z_R_run hK (n := 1) (g' := (m, 23, [(2, 3), (2, ((s : Nat) : Int)), (0, x2), (0, x3)], [(0, x3), (2, ((s + 1 : Nat) : Int))])) rfl).trans (z_R_ixTS hK  rfl rfl rfl (st_ln hs 1 (by decide) (by decide)) (st_rd hs 1 (by decide) (by decide)) (show 0 ≤ x3 ∧ x3 < 9 by omega) (z_R_ifd hK (c := m (s + 1) (x3).toNat ≤ 0) (p1 := 33) (p2 := 27) rfl rfl rfl (fun h3 => (z_R_run hK (n := 1) (g' := (m, 36, [(2, 3), (2, ((s : Nat) : Int)), (0, x2), (0, z_add x3 1)], [])) rfl).trans ((congrArg (fun vv => z_R 92 (m, 36, [(2, 3), (2, ((s : Nat) : Int)), (0, x2), (0, vv)], [])) (z_add_eq (by omega) (by omega))).trans ((z_R_run hK (n := 1) (g' := (m, 4, [(2, 3), (2, ((s : Nat) : Int)), (0, x2), (0, x3 + 1)], [])) rfl).trans (rfl)))) (fun h3 => (z_R_run hK (n := 7) (g' := (m, 36, [(2, 3), (2, ((s : Nat) : Int)), (0, z_or x2 (z_shl 1 x3)), (0, z_add x3 1)], [])) rfl).trans ((congrArg (fun vv => z_R 92 (m, 36, [(2, 3), (2, ((s : Nat) : Int)), (0, z_or x2 (z_shl 1 x3)), (0, vv)], [])) (z_add_eq (by omega) (by omega))).trans ((z_R_run hK (n := 1) (g' := (m, 4, [(2, 3), (2, ((s : Nat) : Int)), (0, z_or x2 (z_shl 1 x3)), (0, x3 + 1)], [])) rfl).trans (rfl))))))))) (fun h2 => (z_R_run hK (n := 3) (g' := (m, 4, [(2, 3), (2, ((s : Nat) : Int)), (0, x2), (0, z_add x3 1)], [])) rfl).trans (rfl)))))
theorem sc_st3_0 {s : Nat} (hs : z_st s) (m : z_M) (n : Int) (b : Int) : z_R 97 (m, 0, [(2, 24), (2, ((s : Nat) : Int)), (0, n), (0, b), (9, 0), (9, 0)], []) = (z_R 92 (m, 0, [(2, 3), (2, ((s : Nat) : Int)), (9, 0), (9, 0)], [])).bind fun qq => z_R 97 (qq.1, 8, [(2, 24), (2, ((s : Nat) : Int)), (0, n), (0, b), (9, 0), (9, 0)], qq.2.toList ++ []) :=
  have hK : kt_at 97 = kt_97 := rfl
  (z_R_run hK (n := 2) (g' := (m, 4, [(2, 24), (2, ((s : Nat) : Int)), (0, n), (0, b), (9, 0), (9, 0)], [(2, 3)])) rfl).trans ((z_R_run hK (n := 1) (g' := (m, 5, [(2, 24), (2, ((s : Nat) : Int)), (0, n), (0, b), (9, 0), (9, 0)], [(2, ((s : Nat) : Int)), (2, 3)])) rfl).trans (z_R_call hK rfl rfl rfl rfl rfl))
theorem sc_st3_8 {s : Nat} (hs : z_st s) (m : z_M) (x2 : Int) (x3 : Int) (u : Int) : z_R 97 (m, 8, [(2, 24), (2, ((s : Nat) : Int)), (0, x2), (0, x3), (9, 0), (9, 0)], [(0, u)]) = z_R 97 (m, 15, [(2, 24), (2, ((s : Nat) : Int)), (0, x2), (0, x3), (0, z_and u x3), (0, 0)], []) :=
  have hK : kt_at 97 = kt_97 := rfl
  (z_R_run hK (n := 5) (g' := (m, 15, [(2, 24), (2, ((s : Nat) : Int)), (0, x2), (0, x3), (0, z_and u x3), (0, 0)], [])) rfl).trans (rfl)
theorem sc_st3_15 {s : Nat} (hs : z_st s) (m : z_M) (x2 : Int) (x3 : Int) (x4 : Int) (x5 : Int) : z_R 97 (m, 15, [(2, 24), (2, ((s : Nat) : Int)), (0, x2), (0, x3), (0, x4), (0, x5)], []) = if x2 ≤ x5 then some (m, some (0, x2)) else (z_R 68 (m, 0, [(2, 24), (2, ((s : Nat) : Int)), (0, x3), (9, 0), (9, 0), (9, 0)], [])).bind fun qq => z_R 97 (qq.1, 27, [(2, 24), (2, ((s : Nat) : Int)), (0, x2), (0, x3), (0, x4), (0, x5)], qq.2.toList ++ []) :=
  have hK : kt_at 97 = kt_97 := rfl
  (z_R_run hK (n := 2) (g' := (m, 18, [(2, 24), (2, ((s : Nat) : Int)), (0, x2), (0, x3), (0, x4), (0, x5)], [(0, x2), (0, x5)])) rfl).trans (z_R_ifd hK (c := x2 ≤ x5) (p1 := 46) (p2 := 21) rfl rfl rfl (fun h1 => (z_R_run hK (n := 1) (g' := (m, 47, [(2, 24), (2, ((s : Nat) : Int)), (0, x2), (0, x3), (0, x4), (0, x5)], [(0, x2)])) rfl).trans (z_R_ret hK rfl rfl rfl)) (fun h1 => (z_R_run hK (n := 3) (g' := (m, 24, [(2, 24), (2, ((s : Nat) : Int)), (0, x2), (0, x3), (0, x4), (0, x5)], [(0, x3), (2, ((s : Nat) : Int)), (2, 24)])) rfl).trans (z_R_call hK rfl rfl rfl rfl rfl)))
theorem sc_st3_27 {s : Nat} (hs : z_st s) (m : z_M) (x2 : Int) (x3 : Int) (x4 : Int) (x5 : Int) : z_R 97 (m, 27, [(2, 24), (2, ((s : Nat) : Int)), (0, x2), (0, x3), (0, x4), (0, x5)], []) = if z_and (m 24 10) x4 = 0 then z_R 97 (m, 15, [(2, 24), (2, ((s : Nat) : Int)), (0, x2), (0, x3), (0, x4), (0, z_add x5 1)], []) else some (m, some (0, x5)) :=
  have hK : kt_at 97 = kt_97 := rfl
  (z_R_run hK (n := 4) (g' := (m, 34, [(2, 24), (2, ((s : Nat) : Int)), (0, x2), (0, x3), (0, x4), (0, x5)], [(0, z_and (m 24 10) x4)])) rfl).trans (z_R_ifd hK (c := z_and (m 24 10) x4 = 0) (p1 := 40) (p2 := 37) rfl rfl rfl (fun h1 => (z_R_run hK (n := 2) (g' := (m, 15, [(2, 24), (2, ((s : Nat) : Int)), (0, x2), (0, x3), (0, x4), (0, z_add x5 1)], [])) rfl).trans (rfl)) (fun h1 => (z_R_run hK (n := 1) (g' := (m, 39, [(2, 24), (2, ((s : Nat) : Int)), (0, x2), (0, x3), (0, x4), (0, x5)], [(0, x5)])) rfl).trans (z_R_ret hK rfl rfl rfl)))
theorem sc_roc_0  (m : z_M) (c : Int) : z_R 105 (m, 0, [(2, 3), (0, c)], []) = some (m, some (0, z_and (m 3 10) (z_shl 73 c))) :=
  have hK : kt_at 105 = kt_105 := rfl
  (z_R_run hK (n := 6) (g' := (m, 9, [(2, 3), (0, c)], [(0, z_and (m 3 10) (z_shl 73 c))])) rfl).trans (z_R_ret hK rfl rfl rfl)
end
section
/-! HOURS IN A COLUMN: for how many its floors stand -/
theorem hr_A_Q {w h n : Nat} {heat price : Int} {ml : hr_M} {wm : Nat → Int} {R : Int} {W0 C0 : Nat → Int} (hw : w ≤ 3) (hh : h ≤ 3) (n5 : n ≤ 5) (bwm : ∀ p, p < 5 → 0 ≤ wm p ∧ wm p ≤ 9) (hheat : 0 ≤ heat ∧ heat ≤ 9) (hml : hr_mlok ml) {A : Nat → Int} (hok : hr_ok n A) (b2 : ∀ k, k < 9 → W0 k = 0 ∧ C0 k = 0) (a8 : ∀ r : Nat, r < 9 → (z_and (z_shr R (r : Int)) 1 = 0 ↔ u_hs (w : Int) (h : Int) (r : Int) = 0)) : hr_Q (w : Int) (h : Int) R n heat price ml wm W0 C0 A 0 = hr_K w h heat price ml wm n A := by
  have he : ∀ r : Nat, r < 9 → ¬ u_hs (w : Int) (h : Int) (r : Int) = 0 → hr_e ml (hr_sv heat (A 34) (hr_g wm price n 0 W0 C0 A).1) (hr_g wm price n 0 W0 C0 A).2.1 r (hr_g wm price n 0 W0 C0 A).2.2 = hr_mN heat ml wm n A r := fun r hr _ => hr_e_eq n5 bwm hheat hml hok.2.2.1 b2 hr
  have hv' : ∀ p, p < 5 → -1 ≤ (if p < n then A (p + 18) else 0) ∧ (if p < n then A (p + 18) else 0) ≤ 8 := fun p _ => by
    by_cases c : p < n
    · rw [if_pos c]; exact hok.2.2.1 p c
    · rw [if_neg c]; omega
  have eo := (hr_g_eq (v := fun p => if p < n then A (p + 18) else 0) (price := price) hv' bwm n 0 W0 C0 A (by omega) (fun p hp => by rw [if_pos (by omega)]) (fun k hk => by rw [(b2 k hk).1]; omega) (fun k hk => by rw [(b2 k hk).2]; omega)).2
  have eD : hr_D (w : Int) (h : Int) R n heat price ml wm W0 C0 A 0 = (hr_y w h (hr_me (w : Int) (h : Int) heat ml wm n A) h (hr_o wm price n 0 A), hr_dm (w : Int) (h : Int) (hr_mN heat ml wm n A) 9 0) := by
    unfold hr_D
    rw [hr_d_eq a8 he 9 _ 0 (by decide) (fun k hk => ⟨rfl, rfl⟩) rfl rfl, hr_dc_q hw hh 9 _ (by decide), hr_dq_y hw hh, eo]
    congr 1
    exact hr_y_cg hw hh (fun r hr hq => by unfold hr_me; rw [if_neg hq]) _
  unfold hr_Q
  rw [eD]
  exact hr_q_k n5 a8 9 0 _ 0 0 0 (by decide)
theorem ag_Q {w h n c : Nat} {heat price : Int} {ml : hr_M} {wm wm' : Nat → Int} {b b' : Int} {W0 C0 W0' C0' : Nat → Int} (n5 : n ≤ 5) (b2 : ∀ k, k < 9 → W0 k = 0 ∧ C0 k = 0) (b2' : ∀ k, k < 9 → W0' k = 0 ∧ C0' k = 0) (hb : ∀ r : Nat, r < 9 → r % 3 = c → (z_and (z_shr b (r : Int)) 1 = 0 ↔ z_and (z_shr b' (r : Int)) 1 = 0)) {A B : Nat → Int} (fm fm' : Int) (hA : ag c n A B) (hwm : ∀ p, p < n → inC c (A (p + 18)) → wm p = wm' p) : ag c n (hr_Q (w : Int) (h : Int) b n heat price ml wm W0 C0 A fm).1 (hr_Q (w : Int) (h : Int) b' n heat price ml wm' W0' C0' B fm').1 := by
  unfold hr_Q hr_D
  obtain ⟨g1, g2⟩ := hr_g_w (wm := wm) (price := price) n 0 W0 C0 A (by omega)
  obtain ⟨k1, k2⟩ := hr_g_w (wm := wm') (price := price) n 0 W0' C0' B (by omega)
  have eg : ∀ (v v' : Nat → Int), (∀ p, p < n → inC c (A (p + 18)) → v p = v' p) → ∀ r : Nat, r < 9 → r % 3 = c → ∀ a : Int, gw v A r n 0 a = gw v' B r n 0 a := fun v v' hv r h1 h2 a => gw_cg n 0 a (fun p _ hp => ⟨hA.2.1 p (by omega) r h1 h2, fun z => hv p (by omega) ⟨r, h1, h2, z⟩⟩)
  have hW : ∀ r : Nat, r < 9 → r % 3 = c → hr_sv heat (A 34) (hr_g wm price n 0 W0 C0 A).1 r = hr_sv heat (B 34) (hr_g wm' price n 0 W0' C0' B).1 r ∧ (hr_g wm price n 0 W0 C0 A).2.1 r = (hr_g wm' price n 0 W0' C0' B).2.1 r := fun r h1 h2 => by
    rw [hr_sv_at h1, hr_sv_at h1, (g1 r h1).1, (k1 r h1).1, (g1 r h1).2, (k1 r h1).2, (b2 r h1).1, (b2' r h1).1, (b2 r h1).2, (b2' r h1).2, eg wm wm' hwm r h1 h2, eg (fun _ => 1) (fun _ => 1) (fun _ _ _ => rfl) r h1 h2]
    refine ⟨?_, rfl⟩
    by_cases e : A 34 = (r : Int)
    · rw [if_pos e, if_pos ((hA.2.2.1 r h1 h2).mp e)]
    · rw [if_neg e, if_neg (fun z => e ((hA.2.2.1 r h1 h2).mpr z))]
  have e35 : (hr_g wm price n 0 W0 C0 A).2.2 35 = (hr_g wm' price n 0 W0' C0' B).2.2 35 := by rw [g2 35 (by omega), k2 35 (by omega)]; exact hA.2.2.2.1
  have e36 : (hr_g wm price n 0 W0 C0 A).2.2 36 = (hr_g wm' price n 0 W0' C0' B).2.2 36 := by rw [g2 36 (by omega), k2 36 (by omega)]; exact hA.2.2.2.2
  have d := ag_d (w := w) (h := h) (ml := ml) hb hW 9 (hr_g wm price n 0 W0 C0 A).2.2 (hr_g wm' price n 0 W0' C0' B).2.2 0 0 (by decide) (fun r h1 h2 => by
    rw [g2 r (by omega), g2 (r + 9) (by omega), k2 r (by omega), k2 (r + 9) (by omega)]
    exact hA.1 r h1 h2) e35 e36
  refine ag_q n5 hb 9 0 _ _ _ _ _ _ _ _ (by decide) ⟨d, fun p hp r h1 h2 => ?_, fun r h1 h2 => ?_, ?_, ?_⟩
  · rw [hr_d_hi (by omega) (by omega) 9 _ _ (by decide), hr_d_hi (by omega) (by omega) 9 _ _ (by decide), g2 (p + 18) (by omega), k2 (p + 18) (by omega)]
    exact hA.2.1 p hp r h1 h2
  · rw [hr_d_hi (by decide) (by decide) 9 _ _ (by decide), hr_d_hi (by decide) (by decide) 9 _ _ (by decide), g2 34 (by omega), k2 34 (by omega)]
    exact hA.2.2.1 r h1 h2
  · rw [hr_d_hi (by decide) (by decide) 9 _ _ (by decide), hr_d_hi (by decide) (by decide) 9 _ _ (by decide)]
    exact e35
  · rw [hr_d_hi (by decide) (by decide) 9 _ _ (by decide), hr_d_hi (by decide) (by decide) 9 _ _ (by decide)]
    exact e36
theorem hr_Q_in {w h n c p : Nat} {heat price : Int} {ml : hr_M} {wm : Nat → Int} {b : Int} {W0 C0 : Nat → Int} (n5 : n ≤ 5) (hp : p < n) {A : Nat → Int} (fm : Int) (hi : inC c ((hr_Q (w : Int) (h : Int) b n heat price ml wm W0 C0 A fm).1 (p + 18))) : inC c (A (p + 18)) := by
  unfold hr_Q hr_D at hi
  have h1 := hr_q_in n5 hp 9 0 _ _ _ _ (by decide) hi
  rw [hr_d_hi (by omega) (by omega) 9 _ _ (by decide), (hr_g_w (wm := wm) (price := price) n 0 W0 C0 A (by omega)).2 (p + 18) (by omega)] at h1
  exact h1
/-- all rooms, as bits -/
def rB (w h : Nat) : Int := s_bt (fun k => decide (¬ u_hs (w : Int) (h : Int) (k : Int) = 0)) 9 0 0
theorem rB_ok {w h : Nat} : ∀ r : Nat, r < 9 → (z_and (z_shr (rB w h) (r : Int)) 1 = 0 ↔ u_hs (w : Int) (h : Int) (r : Int) = 0) := fun r hr => by
  rw [zb_test hr]
  unfold rB
  rw [zb_bt (by omega) 9 0 0 (by decide), zb_0, Bool.false_or, decide_eq_true (show 0 ≤ r ∧ r < 0 + 9 by omega), Bool.true_and]
  constructor
  · intro z
    exact Decidable.byContradiction fun y => of_decide_eq_false z y
  · intro z
    exact decide_eq_false (not_not_intro z)
theorem ag_up {c n : Nat} {A B : Nat → Int} (hA : ag c n A B) {x y : Int} (hxy : x = y) (n5 : n ≤ 5) : ag c n (u_up A 35 x) (u_up B 35 y) := by
  refine ⟨fun r h1 h2 => ?_, fun p hp r h1 h2 => ?_, fun r h1 h2 => ?_, ?_, ?_⟩
  · rw [u_up_ne (by omega), u_up_ne (by omega), u_up_ne (by omega), u_up_ne (by omega)]
    exact hA.1 r h1 h2
  · rw [u_up_ne (by omega), u_up_ne (by omega)]
    exact hA.2.1 p hp r h1 h2
  · rw [u_up_ne (by decide), u_up_ne (by decide)]
    exact hA.2.2.1 r h1 h2
  · rw [u_up_self, u_up_self, hxy]
  · rw [u_up_ne (by decide), u_up_ne (by decide)]
    exact hA.2.2.2.2
/-- an HOUR in all rooms, and one in those of a column at least -/
theorem ag_B {w h n c : Nat} {heat price : Int} {ml : hr_M} {wm wm' : Nat → Int} {b : Int} {W0 C0 : Nat → Int} (hw : w ≤ 3) (hh : h ≤ 3) (n5 : n ≤ 5) (bwm : ∀ p, p < 5 → 0 ≤ wm p ∧ wm p ≤ 9) (hheat : 0 ≤ heat ∧ heat ≤ 9) (hml : hr_mlok ml) {A B : Nat → Int} (hok : hr_ok n A) (b2 : ∀ k, k < 9 → W0 k = 0 ∧ C0 k = 0) (hb : ∀ r : Nat, r < 9 → r % 3 = c → (z_and (z_shr b (r : Int)) 1 = 0 ↔ u_hs (w : Int) (h : Int) (r : Int) = 0)) (fm : Int) (hA : ag c n A B) (hwm : ∀ p, p < n → inC c (A (p + 18)) → wm p = wm' p) : ag c n (hr_A w h heat price ml wm n A) (u_up (hr_Q (w : Int) (h : Int) b n heat price ml wm' W0 C0 B fm).1 35 (z_add ((hr_Q (w : Int) (h : Int) b n heat price ml wm' W0 C0 B fm).1 35) 1)) := by
  have e := hr_A_Q (price := price) hw hh n5 bwm hheat hml hok (W0 := fun _ => 0) (C0 := fun _ => 0) (fun _ _ => ⟨rfl, rfl⟩) (rB_ok (w := w) (h := h))
  have q := ag_Q (w := w) (h := h) (heat := heat) (price := price) (ml := ml) (b := rB w h) (b' := b) n5 (W0 := fun _ => 0) (C0 := fun _ => 0) (fun _ _ => ⟨rfl, rfl⟩) b2 (fun r h1 h2 => (rB_ok r h1).trans (hb r h1 h2).symm) 0 fm hA hwm
  unfold hr_A
  rw [e] at q
  exact ag_up q (by rw [q.2.2.2.1]) n5
theorem ag_A {w h n c : Nat} {heat price : Int} {ml : hr_M} {wm wm' : Nat → Int} (hw : w ≤ 3) (hh : h ≤ 3) (n5 : n ≤ 5) (bwm : ∀ p, p < 5 → 0 ≤ wm p ∧ wm p ≤ 9) (bwm' : ∀ p, p < 5 → 0 ≤ wm' p ∧ wm' p ≤ 9) (hheat : 0 ≤ heat ∧ heat ≤ 9) (hml : hr_mlok ml) {A B : Nat → Int} (hok : hr_ok n A) (hok' : hr_ok n B) (hA : ag c n A B) (hwm : ∀ p, p < n → inC c (A (p + 18)) → wm p = wm' p) : ag c n (hr_A w h heat price ml wm n A) (hr_A w h heat price ml wm' n B) := by
  have q := ag_B (price := price) (b := rB w h) (W0 := fun _ => 0) (C0 := fun _ => 0) hw hh n5 bwm hheat hml hok (fun _ _ => ⟨rfl, rfl⟩) (fun r h1 _ => rB_ok r h1) 0 hA hwm
  rw [hr_A_Q (price := price) hw hh n5 bwm' hheat hml hok' (fun _ _ => ⟨rfl, rfl⟩) (rB_ok (w := w) (h := h))] at q
  exact q
theorem hr_A_in {w h n c p : Nat} {heat price : Int} {ml : hr_M} {wm : Nat → Int} (hw : w ≤ 3) (hh : h ≤ 3) (n5 : n ≤ 5) (bwm : ∀ p, p < 5 → 0 ≤ wm p ∧ wm p ≤ 9) (hheat : 0 ≤ heat ∧ heat ≤ 9) (hml : hr_mlok ml) {A : Nat → Int} (hok : hr_ok n A) (hp : p < n) (hi : inC c (hr_A w h heat price ml wm n A (p + 18))) : inC c (A (p + 18)) := by
  have e := hr_A_Q (price := price) hw hh n5 bwm hheat hml hok (W0 := fun _ => 0) (C0 := fun _ => 0) (fun _ _ => ⟨rfl, rfl⟩) (rB_ok (w := w) (h := h))
  unfold hr_A at hi
  rw [u_up_ne (by omega), ← e] at hi
  exact hr_Q_in n5 hp 0 hi
/-! which floors give -/
def s_vio (w h : Nat) (F : Nat → Bool) (c : Nat) (A : Nat → Int) : Bool := (List.range 9).any (fun r => decide (r % 3 = c) && (decide (¬ u_hs (w : Int) (h : Int) (r : Int) = 0) && (decide (A r = 0) && F r)))
theorem s_vio_iff {w h : Nat} {F : Nat → Bool} {c : Nat} {A : Nat → Int} : s_vio w h F c A = true ↔ ∃ r : Nat, r < 9 ∧ r % 3 = c ∧ (¬ u_hs (w : Int) (h : Int) (r : Int) = 0) ∧ A r = 0 ∧ F r = true := by
  unfold s_vio
  rw [List.any_eq_true]
  constructor
  · rintro ⟨r, h1, h2⟩
    obtain ⟨a1, h2⟩ := Bool.and_eq_true _ _ |>.mp h2
    obtain ⟨a2, h2⟩ := Bool.and_eq_true _ _ |>.mp h2
    obtain ⟨a3, a4⟩ := Bool.and_eq_true _ _ |>.mp h2
    exact ⟨r, List.mem_range.mp h1, of_decide_eq_true a1, of_decide_eq_true a2, of_decide_eq_true a3, a4⟩
  · rintro ⟨r, h1, h2, h3, h4, h5⟩
    refine ⟨r, List.mem_range.mpr h1, ?_⟩
    rw [decide_eq_true h2, decide_eq_true h3, decide_eq_true h4, h5]
    rfl
theorem s_vio_cg {w h : Nat} {F F' : Nat → Bool} {c n : Nat} {A B : Nat → Int} (hF : ∀ r : Nat, r < 9 → r % 3 = c → (¬ u_hs (w : Int) (h : Int) (r : Int) = 0) → F r = F' r) (hA : ag c n A B) : s_vio w h F c A = s_vio w h F' c B := by
  have key : ∀ {F F' : Nat → Bool} {A B : Nat → Int}, (∀ r : Nat, r < 9 → r % 3 = c → (¬ u_hs (w : Int) (h : Int) (r : Int) = 0) → F r = F' r) → ag c n A B → s_vio w h F c A = true → s_vio w h F' c B = true := fun hF hA z => by
    obtain ⟨r, h1, h2, h3, h4, h5⟩ := s_vio_iff.mp z
    exact s_vio_iff.mpr ⟨r, h1, h2, h3, by rw [← (hA.1 r h1 h2).1]; exact h4, by rw [← hF r h1 h2 h3]; exact h5⟩
  cases h1 : s_vio w h F c A <;> cases h2 : s_vio w h F' c B
  · rfl
  · have := key (fun r a b d => (hF r a b d).symm) (ag_sy hA) h2
    rw [h1] at this
    cases this
  · have := key hF hA h1
    rw [h2] at this
    cases this
  · rfl
def s_fl (A : Nat → Int) (r : Nat) : Bool := decide (0 < A r)
theorem s_vio_all {w h : Nat} {A B : Nat → Int} : z_and (s_G w h B) (s_F w h A) = 0 ↔ s_vio w h (s_fl A) 0 B = false ∧ s_vio w h (s_fl A) 1 B = false ∧ s_vio w h (s_fl A) 2 B = false := by
  unfold s_G s_F
  rw [bt_and]
  constructor
  · intro z
    have no : ∀ c, s_vio w h (s_fl A) c B = false := fun c => by
      cases e : s_vio w h (s_fl A) c B
      · rfl
      · obtain ⟨r, h1, h2, h3, h4, h5⟩ := s_vio_iff.mp e
        exact absurd ⟨decide_eq_true ⟨h3, h4⟩, decide_eq_true ⟨h3, of_decide_eq_true h5⟩⟩ (z r h1)
    exact ⟨no 0, no 1, no 2⟩
  · intro ⟨z0, z1, z2⟩ k hk ⟨p1, p2⟩
    obtain ⟨a1, a2⟩ := of_decide_eq_true p1
    obtain ⟨b1, b2⟩ := of_decide_eq_true p2
    have y : s_vio w h (s_fl A) (k % 3) B = true := s_vio_iff.mpr ⟨k, hk, rfl, a1, a2, decide_eq_true b2⟩
    rcases (show k % 3 = 0 ∨ k % 3 = 1 ∨ k % 3 = 2 by omega) with e | e | e
    · rw [e, z0] at y
      cases y
    · rw [e, z1] at y
      cases y
    · rw [e, z2] at y
      cases y
/-- for how many hours a column stands -/
def s_stc (w h n : Nat) (heat price : Int) (cs : List Int) (D : Nat → Int) (F : Nat → Bool) (c N : Nat) : Nat → Nat → (Nat → Int) → Int
  | 0, _, _ => (N : Int)
  | f + 1, x, B => if s_vio w h F c (hr_A w h heat price (c_ml cs) (wmD D (B 35)) n B) = true then (x : Int) else s_stc w h n heat price cs D F c N f (x + 1) (hr_A w h heat price (c_ml cs) (wmD D (B 35)) n B)
theorem s_stc_x {w h n : Nat} {heat price : Int} {cs : List Int} {D : Nat → Int} {F : Nat → Bool} {c N : Nat} : ∀ (f x : Nat) (B : Nat → Int), x + f = N → (x : Int) ≤ s_stc w h n heat price cs D F c N f x B ∧ s_stc w h n heat price cs D F c N f x B ≤ (N : Int) := by
  intro f
  induction f with
  | zero => intro x B hx; exact ⟨by show (x : Int) ≤ (N : Int); omega, Int.le_refl _⟩
  | succ f ih =>
    intro x B hx
    unfold s_stc
    by_cases c1 : s_vio w h F c (hr_A w h heat price (c_ml cs) (wmD D (B 35)) n B) = true
    · rw [if_pos c1]
      omega
    · rw [if_neg c1]
      have := ih (x + 1) (hr_A w h heat price (c_ml cs) (wmD D (B 35)) n B) (by omega)
      omega
def i_mn (a b : Int) : Int := if b < a then b else a
/-- it stands as long as the least of its columns -/
theorem s_sta_min {w h n : Nat} {heat price : Int} {cs : List Int} {D A : Nat → Int} {N : Nat} : ∀ (f x : Nat) (B : Nat → Int), x + f = N → s_sta w h n heat price cs D (s_F w h A) N f x B = i_mn (i_mn (s_stc w h n heat price cs D (s_fl A) 0 N f x B) (s_stc w h n heat price cs D (s_fl A) 1 N f x B)) (s_stc w h n heat price cs D (s_fl A) 2 N f x B) := by
  intro f
  induction f with
  | zero =>
    intro x B hx
    show (N : Int) = i_mn (i_mn (N : Int) (N : Int)) (N : Int)
    unfold i_mn
    rw [if_neg (by omega), if_neg (by omega)]
  | succ f ih =>
    intro x B hx
    unfold s_sta s_stc
    have e := s_vio_all (w := w) (h := h) (A := A) (B := hr_A w h heat price (c_ml cs) (wmD D (B 35)) n B)
    have lo : ∀ c, (x : Int) + 1 ≤ s_stc w h n heat price cs D (s_fl A) c N f (x + 1) (hr_A w h heat price (c_ml cs) (wmD D (B 35)) n B) := fun c => by
      have := (s_stc_x (w := w) (h := h) (n := n) (heat := heat) (price := price) (cs := cs) (D := D) (F := s_fl A) (c := c) (N := N) f (x + 1) (hr_A w h heat price (c_ml cs) (wmD D (B 35)) n B) (by omega)).1
      omega
    by_cases z : z_and (s_G w h (hr_A w h heat price (c_ml cs) (wmD D (B 35)) n B)) (s_F w h A) = 0
    · obtain ⟨z0, z1, z2⟩ := e.mp z
      rw [if_pos z, z0, z1, z2, if_neg Bool.false_ne_true, if_neg Bool.false_ne_true, if_neg Bool.false_ne_true]
      exact ih (x + 1) _ (by omega)
    · rw [if_neg z]
      have l0 := lo 0
      have l1 := lo 1
      have l2 := lo 2
      cases z0 : s_vio w h (s_fl A) 0 (hr_A w h heat price (c_ml cs) (wmD D (B 35)) n B) <;> cases z1 : s_vio w h (s_fl A) 1 (hr_A w h heat price (c_ml cs) (wmD D (B 35)) n B) <;> cases z2 : s_vio w h (s_fl A) 2 (hr_A w h heat price (c_ml cs) (wmD D (B 35)) n B)
      · exact absurd (e.mpr ⟨z0, z1, z2⟩) z
      all_goals
        simp only [if_pos, if_neg, Bool.false_eq_true, if_false, if_true]
        unfold i_mn
        (repeat' split) <;> omega
theorem s_stc_ag {w h n c : Nat} {heat price : Int} {cs : List Int} {D D' : Nat → Int} {F F' : Nat → Bool} {N : Nat} (hN : w_N w h n heat D) (hN' : w_N w h n heat D') (hF : ∀ r : Nat, r < 9 → r % 3 = c → (¬ u_hs (w : Int) (h : Int) (r : Int) = 0) → F r = F' r) : ∀ (f x : Nat) (A B : Nat → Int), ag c n A B → hr_ok n A → hr_ok n B → 0 ≤ A 35 → A 35 + (f : Int) ≤ 2147483647 → (∀ p, p < n → inC c (A (p + 18)) → ∀ k : Nat, k < f → wmD D (A 35 + (k : Int)) p = wmD D' (A 35 + (k : Int)) p) → s_stc w h n heat price cs D F c N f x A = s_stc w h n heat price cs D' F' c N f x B := by
  intro f
  induction f with
  | zero => intro x A B hA h1 h2 ht ht2 hw; rfl
  | succ f ih =>
    intro x A B hA h1 h2 ht ht2 hw
    have e35 : A 35 = B 35 := hA.2.2.2.1
    have hwm : ∀ p, p < n → inC c (A (p + 18)) → wmD D (A 35) p = wmD D' (A 35) p := fun p hp hi => by
      have := hw p hp hi 0 (by omega)
      rw [show A 35 + ((0 : Nat) : Int) = A 35 by omega] at this
      exact this
    have a := ag_A (price := price) hN.1.1 hN.1.2.1 hN.1.2.2 (hN.2.2 (A 35) ht) (hN'.2.2 (A 35) ht) hN.2.1 (c_ml_ok cs) h1 h2 hA hwm
    unfold s_stc
    rw [← e35, s_vio_cg hF a]
    by_cases z : s_vio w h F' c (hr_A w h heat price (c_ml cs) (wmD D' (A 35)) n B) = true
    · rw [if_pos z, if_pos z]
    · rw [if_neg z, if_neg z]
      have t35 : hr_A w h heat price (c_ml cs) (wmD D (A 35)) n A 35 = A 35 + 1 := by rw [hr_A_35 hN.1.1 hN.1.2.1 hN.1.2.2, z_add_eq (by omega) (by omega)]
      refine ih (x + 1) _ _ a (hr_A_ok (price := price) hN.1.1 hN.1.2.1 hN.1.2.2 hN.2.1 (c_ml_ok cs) (hN.2.2 (A 35) ht) h1) (hr_A_ok (price := price) hN.1.1 hN.1.2.1 hN.1.2.2 hN.2.1 (c_ml_ok cs) (hN'.2.2 (A 35) ht) h2) (by omega) (by omega) (fun p hp hi k hk => ?_)
      have := hw p hp (hr_A_in (price := price) hN.1.1 hN.1.2.1 hN.1.2.2 (hN.2.2 (A 35) ht) hN.2.1 (c_ml_ok cs) h1 hp hi) (k + 1) (by omega)
      rw [t35, show A 35 + 1 + (k : Int) = A 35 + ((k + 1 : Nat) : Int) by omega]
      exact this
/-! as the class goes through one column -/
theorem sc_floC {w h n s : Nat} {m : z_M} {B : Nat → Int} (hs : z_st s) (h8 : m 3 8 = (w : Int)) (h9 : m 3 9 = (h : Int)) (hB : cS m s n = B) : ∀ (f x : Nat) (b : Int), x + f = 9 → z_R 92 (m, 4, [(2, 3), (2, ((s : Nat) : Int)), (0, b), (0, (x : Int))], []) = some (m, some (0, s_bt (fun k => decide (¬ u_hs (w : Int) (h : Int) (k : Int) = 0 ∧ 0 < B k)) f x b)) := by
  intro f
  induction f with
  | zero =>
    intro x b hx
    rw [sc_flo_4 hs, if_pos (by omega)]
    rfl
  | succ f ih =>
    intro x b hx
    have eB : m (s + 1) x = B x := by
      rw [← hB]
      exact (cS_at1 (s := s) (by omega)).symm
    rw [sc_flo_4 hs, if_neg (show ¬ (9 : Int) ≤ (x : Int) by omega), h8, h9, z_add_eq (x := (x : Int)) (y := 1) (by omega) (by omega), tc1, Int.toNat_natCast, eB]
    unfold s_bt
    by_cases c1 : u_hs (w : Int) (h : Int) (x : Int) = 0
    · rw [if_neg (not_not_intro c1), if_neg (fun z => (of_decide_eq_true z).1 c1)]
      exact ih (x + 1) b (by omega)
    · rw [if_pos c1]
      by_cases c2 : B x ≤ 0
      · rw [if_pos c2, if_neg (fun z => by have := (of_decide_eq_true z).2; omega)]
        exact ih (x + 1) b (by omega)
      · rw [if_neg c2, if_pos (decide_eq_true ⟨c1, by omega⟩)]
        exact ih (x + 1) _ (by omega)
/-- the rooms of a column, as bits -/
theorem rc_bits {R : Int} {c r : Nat} (hc : c < 3) (hr : r < 9) : z_and (z_shr (z_and R (z_shl 73 (c : Int))) (r : Int)) 1 = 0 ↔ (z_and (z_shr R (r : Int)) 1 = 0 ∨ ¬ r % 3 = c) := by
  have e : zb (z_shl 73 (c : Int)) r = decide (r % 3 = c) := by
    have : ∀ c, c < 3 → ∀ r, r < 9 → zb (z_shl 73 ((c : Nat) : Int)) r = decide (r % 3 = c) := by decide +kernel
    exact this c hc r hr
  rw [zb_test hr, zb_test hr, zb_and, e]
  cases zb R r
  · exact ⟨fun _ => Or.inl rfl, fun _ => rfl⟩
  · rw [Bool.true_and]
    exact ⟨fun z => Or.inr (of_decide_eq_false z), fun z => decide_eq_false (z.resolve_left (by decide))⟩
theorem sc_st1 {w h n s c : Nat} {heat price : Int} {cs : List Int} {D D' : Nat → Int} {F : Nat → Bool} {N : Nat} (hs : z_st s) (hc3 : c < 3) (hN6 : N ≤ 1000) (hN : w_N w h n heat D) {R Rc x4 : Int} (hR : ∀ r : Nat, r < 9 → (z_and (z_shr R (r : Int)) 1 = 0 ↔ u_hs (w : Int) (h : Int) (r : Int) = 0)) (hRc : Rc = z_and R (z_shl 73 (c : Int))) (hx4 : ∀ r : Nat, r < 9 → zb x4 r = ((decide (¬ u_hs (w : Int) (h : Int) (r : Int) = 0) && F r) && zb Rc r)) : ∀ (f x : Nat) (m : z_M) (A B : Nat → Int), x + f = N → c_cfg w h n heat price (c_ml cs) (wmD D') m → cS m s n = B → ag c n A B → hr_ok n A → 0 ≤ A 35 → A 35 + (f : Int) ≤ 2147483647 → (∀ p, p < n → inC c (A (p + 18)) → ∀ k : Nat, k < f → wmD D (A 35 + (k : Int)) p = wmD D' (A 35 + (k : Int)) p) → ∃ m1, z_R 97 (m, 15, [(2, 24), (2, ((s : Nat) : Int)), (0, (N : Int)), (0, Rc), (0, x4), (0, (x : Int))], []) = some (m1, some (0, s_stc w h n heat price cs D F c N f x A)) ∧ z_same (c_LH s) m m1 := by
  have n5 := hN.1.2.2
  have hbc : ∀ r : Nat, r < 9 → r % 3 = c → (z_and (z_shr Rc (r : Int)) 1 = 0 ↔ u_hs (w : Int) (h : Int) (r : Int) = 0) := fun r h1 h2 => by
    rw [hRc, rc_bits hc3 h1, hR r h1]
    exact ⟨fun z => z.resolve_right (not_not_intro h2), Or.inl⟩
  intro f
  induction f with
  | zero =>
    intro x m A B hx hcf hB hA hok ht ht2 hw
    rw [sc_st3_15 hs, if_pos (by omega)]
    exact ⟨m, rfl, z_same.rf⟩
  | succ f ih =>
    intro x m A B hx hcf hB hA hok ht ht2 hw
    have hcf' := hcf
    obtain ⟨a1, a2, a3, a4, a5, a6, a7, a8⟩ := hcf
    have e35 : A 35 = B 35 := hA.2.2.2.1
    have hwm : ∀ p, p < n → inC c (A (p + 18)) → wmD D (A 35) p = wmD D' (A 35) p := fun p hp hi => by
      have := hw p hp hi 0 (by omega)
      rw [show A 35 + ((0 : Nat) : Int) = A 35 by omega] at this
      exact this
    have em : m s 7 = A 35 := by rw [e35, ← hB]; exact cS_nowv.symm
    obtain ⟨m1, W0, C0, b1, b2, b3, b4, b5, b6, b7, b8, b9, b10⟩ := c_pass hs n5 (ml := c_ml cs) (wm := wmD D' (A 35)) (b := Rc) (w := (w : Int)) (h := (h : Int)) ht (by omega) m a3 a5 a4 em (a6 (A 35) ht) a1 a2 a7
    rw [hB] at b3 b8
    have hA1 := ag_B (price := price) hN.1.1 hN.1.2.1 n5 (hN.2.2 (A 35) ht) hN.2.1 (c_ml_ok cs) hok b2 hbc (m 24 9) hA hwm
    have hgb := hr_q_gb (w := w) (h := h) (n := n) (b := Rc) n5 9 0 (hr_D (w : Int) (h : Int) Rc n heat price (c_ml cs) (wmD D' (A 35)) W0 C0 B 0).1 0 0 (m 24 9) (by decide)
    have hfin : ∀ r : Nat, r < 9 → ¬ z_and (z_shr Rc (r : Int)) 1 = 0 → hr_f r (hr_D (w : Int) (h : Int) Rc n heat price (c_ml cs) (wmD D' (A 35)) W0 C0 B 0).1 r = hr_A w h heat price (c_ml cs) (wmD D (A 35)) n A r := fun r hr hz => by
      have e := hgb.2.1 r (Nat.zero_le r) hr
      rw [if_neg hz] at e
      have hrc : r % 3 = c := Decidable.byContradiction fun y => hz (by rw [hRc]; exact (rc_bits hc3 hr).mpr (Or.inr y))
      have g := (hA1.1 r hr hrc).1
      rw [u_up_ne (show ¬ r = 35 by omega)] at g
      rw [g, ← e]
      rfl
    have ev : z_and (m1 24 10) x4 = 0 ↔ s_vio w h F c (hr_A w h heat price (c_ml cs) (wmD D (A 35)) n A) = false := by
      have e10 : m1 24 10 = s_bt (fun k => decide (¬ z_and (z_shr Rc (k : Int)) 1 = 0 ∧ hr_f k (hr_D (w : Int) (h : Int) Rc n heat price (c_ml cs) (wmD D' (A 35)) W0 C0 B 0).1 k = 0)) 9 0 0 := b8.trans hgb.1
      rw [e10, z_and_0]
      have zbk : ∀ k, k < 32 → zb (s_bt (fun k => decide (¬ z_and (z_shr Rc (k : Int)) 1 = 0 ∧ hr_f k (hr_D (w : Int) (h : Int) Rc n heat price (c_ml cs) (wmD D' (A 35)) W0 C0 B 0).1 k = 0)) 9 0 0) k = (decide (0 ≤ k ∧ k < 0 + 9) && decide (¬ z_and (z_shr Rc (k : Int)) 1 = 0 ∧ hr_f k (hr_D (w : Int) (h : Int) Rc n heat price (c_ml cs) (wmD D' (A 35)) W0 C0 B 0).1 k = 0)) := fun k hk => by
        rw [zb_bt hk 9 0 0 (by decide), zb_0, Bool.false_or]
      constructor
      · intro z
        cases e : s_vio w h F c (hr_A w h heat price (c_ml cs) (wmD D (A 35)) n A)
        · rfl
        · obtain ⟨r, h1, h2, h3, h4, h5⟩ := s_vio_iff.mp e
          have hz : ¬ z_and (z_shr Rc (r : Int)) 1 = 0 := fun y => h3 ((hbc r h1 h2).mp y)
          refine absurd ⟨?_, ?_⟩ (z r (by omega))
          · rw [zbk r (by omega), decide_eq_true (show 0 ≤ r ∧ r < 0 + 9 by omega), Bool.true_and]
            exact decide_eq_true ⟨hz, by rw [hfin r h1 hz]; exact h4⟩
          · rw [hx4 r h1, decide_eq_true h3, h5, Bool.and_self, Bool.true_and]
            cases y : zb Rc r
            · exact absurd ((zb_test h1).mpr y) hz
            · rfl
      · intro z k hk ⟨p1, p2⟩
        rw [zbk k hk] at p1
        obtain ⟨q1, q2⟩ := Bool.and_eq_true _ _ |>.mp p1
        have q1 := of_decide_eq_true q1
        obtain ⟨q2, q3⟩ := of_decide_eq_true q2
        have hk9 : k < 9 := by omega
        rw [hx4 k hk9] at p2
        obtain ⟨r1, -⟩ := Bool.and_eq_true _ _ |>.mp p2
        obtain ⟨r1, r2⟩ := Bool.and_eq_true _ _ |>.mp r1
        have hkc : k % 3 = c := Decidable.byContradiction fun y => q2 (by rw [hRc]; exact (rc_bits hc3 hk9).mpr (Or.inr y))
        have : s_vio w h F c (hr_A w h heat price (c_ml cs) (wmD D (A 35)) n A) = true := s_vio_iff.mpr ⟨k, hk9, hkc, of_decide_eq_true r1, by rw [← hfin k hk9 q2]; exact q3, r2⟩
        rw [z] at this
        cases this
    rw [sc_st3_15 hs, if_neg (by omega), b1, zb_n, sc_st3_27 hs, z_add_eq (x := (x : Int)) (y := 1) (by omega) (by omega), tc1]
    unfold s_stc
    by_cases z : z_and (m1 24 10) x4 = 0
    · rw [if_pos z, ev.mp z, if_neg Bool.false_ne_true]
      have t35 : hr_A w h heat price (c_ml cs) (wmD D (A 35)) n A 35 = A 35 + 1 := by rw [hr_A_35 hN.1.1 hN.1.2.1 n5, z_add_eq (by omega) (by omega)]
      obtain ⟨m2, d1, d2⟩ := ih (x + 1) m1 (hr_A w h heat price (c_ml cs) (wmD D (A 35)) n A) _ (by omega) (c_cfg_LH hs hcf' b10) b3 hA1 (hr_A_ok (price := price) hN.1.1 hN.1.2.1 n5 hN.2.1 (c_ml_ok cs) (hN.2.2 (A 35) ht) hok) (by omega) (by omega) (fun p hp hi k hk => by
        have := hw p hp (hr_A_in (price := price) hN.1.1 hN.1.2.1 n5 (hN.2.2 (A 35) ht) hN.2.1 (c_ml_ok cs) hok hp hi) (k + 1) (by omega)
        rw [t35, show A 35 + 1 + (k : Int) = A 35 + ((k + 1 : Nat) : Int) by omega]
        exact this)
      exact ⟨m2, d1, b10.tr d2⟩
    · have zt : s_vio w h F c (hr_A w h heat price (c_ml cs) (wmD D (A 35)) n A) = true := by
        cases e : s_vio w h F c (hr_A w h heat price (c_ml cs) (wmD D (A 35)) n A)
        · exact absurd (ev.mpr e) z
        · rfl
      rw [if_neg z, if_pos zt]
      exact ⟨m1, rfl, b10⟩
/-- standing of a column's floors, from the State at s on -/
theorem sc_st {w h n s c : Nat} {heat price : Int} {cs : List Int} {D D' : Nat → Int} {N : Nat} (hs : z_st s) (hc3 : c < 3) (hN6 : N ≤ 1000) (hN : w_N w h n heat D) {m : z_M} {A B : Nat → Int} (hcf : c_cfg w h n heat price (c_ml cs) (wmD D') m) (hB : cS m s n = B) (hA : ag c n A B) (hok : hr_ok n A) (ht : 0 ≤ A 35) (ht2 : A 35 + (N : Int) ≤ 2147483647) (hw : ∀ p, p < n → inC c (A (p + 18)) → ∀ k : Nat, k < N → wmD D (A 35 + (k : Int)) p = wmD D' (A 35 + (k : Int)) p) : ∃ m1, z_R 97 (m, 0, [(2, 24), (2, ((s : Nat) : Int)), (0, (N : Int)), (0, z_and (m 3 10) (z_shl 73 (c : Int))), (9, 0), (9, 0)], []) = some (m1, some (0, s_stc w h n heat price cs D (s_fl A) c N N 0 A)) ∧ z_same (c_LH s) m m1 := by
  have e := sc_floC (n := n) hs hcf.1 hcf.2.1 hB 9 0 0 (by decide)
  have e : z_R 92 (m, 4, [(2, 3), (2, ((s : Nat) : Int)), (0, 0), (0, 0)], []) = some (m, some (0, s_F w h B)) := e
  obtain ⟨m1, a1, a2⟩ := sc_st1 (F := s_fl A) (x4 := z_and (s_F w h B) (z_and (m 3 10) (z_shl 73 (c : Int)))) hs hc3 hN6 hN hcf.2.2.2.2.2.2.2 rfl (fun r hr => by
    rw [zb_and]
    by_cases hrc : r % 3 = c
    · congr 1
      have eA : A r = B r := (hA.1 r hr hrc).1
      unfold s_F s_fl
      rw [zb_bt (by omega) 9 0 0 (by decide), zb_0, Bool.false_or, decide_eq_true (show 0 ≤ r ∧ r < 0 + 9 by omega), Bool.true_and, eA]
      by_cases z1 : u_hs (w : Int) (h : Int) (r : Int) = 0
      · rw [decide_eq_false (fun y => y.1 z1), decide_eq_false (not_not_intro z1), Bool.false_and]
      · rw [decide_eq_true z1, Bool.true_and]
        exact decide_eq_decide.mpr ⟨fun y => y.2, fun y => ⟨z1, y⟩⟩
    · have z : zb (z_and (m 3 10) (z_shl 73 (c : Int))) r = false := (zb_test hr).mp ((rc_bits hc3 hr).mpr (Or.inr hrc))
      rw [z, Bool.and_false, Bool.and_false]) N 0 m A B (by omega) hcf hB hA hok ht ht2 hw
  have a1 : z_R 97 (m, 15, [(2, 24), (2, ((s : Nat) : Int)), (0, (N : Int)), (0, z_and (m 3 10) (z_shl 73 (c : Int))), (0, z_and (s_F w h B) (z_and (m 3 10) (z_shl 73 (c : Int)))), (0, 0)], []) = some (m1, some (0, s_stc w h n heat price cs D (s_fl A) c N N 0 A)) := a1
  rw [sc_st3_0 hs, sc_flo_0 hs, e, zb_v, sc_st3_8 hs, a1]
  exact ⟨m1, rfl, a2⟩
end
section
/-! STRETCHES of quiet, with bounds done -/
theorem qt_qui_0  (m : z_M) (n : Int) : z_R 110 (m, 0, [(2, 0), (0, n), (9, 0)], []) = if n < 1 then some (m, some (0, (-1))) else if n ≤ 40 then (z_R 111 (m, 0, [(2, 140), (2, 12), (0, n), (9, 0), (9, 0), (9, 0), (9, 0)], [])).bind fun qq => z_R 110 (qq.1, 25, [(2, 0), (0, n), (9, 0)], qq.2.toList ++ []) else some (m, some (0, (-1))) :=
  have hK : kt_at 110 = kt_110 := rfl
  (z_R_run hK (n := 2) (g' := (m, 2, [(2, 0), (0, n), (9, 0)], [(0, 1), (0, n)])) rfl).trans (z_R_ifd hK (c := n < 1) (p1 := 11) (p2 := 5) rfl rfl rfl (fun h1 => (z_R_run hK (n := 1) (g' := (m, 12, [(2, 0), (0, n), (9, 0)], [(0, (-1))])) rfl).trans (z_R_ret hK rfl rfl rfl)) (fun h1 => (z_R_run hK (n := 2) (g' := (m, 8, [(2, 0), (0, n), (9, 0)], [(0, 40), (0, n)])) rfl).trans (z_R_ifd hK (c := n ≤ 40) (p1 := 13) (p2 := 11) rfl rfl rfl (fun h2 => (z_R_run hK (n := 2) (g' := (m, 17, [(2, 0), (0, n), (9, 0)], [(2, 140)])) rfl).trans ((z_R_run hK (n := 2) (g' := (m, 21, [(2, 0), (0, n), (9, 0)], [(2, 12), (2, 140)])) rfl).trans ((z_R_run hK (n := 1) (g' := (m, 22, [(2, 0), (0, n), (9, 0)], [(0, n), (2, 12), (2, 140)])) rfl).trans (z_R_call hK rfl rfl rfl rfl rfl)))) (fun h2 => (z_R_run hK (n := 1) (g' := (m, 12, [(2, 0), (0, n), (9, 0)], [(0, (-1))])) rfl).trans (z_R_ret hK rfl rfl rfl)))))
theorem qt_qui_25  (m : z_M) (x1 : Int) (u : Int) : z_R 110 (m, 25, [(2, 0), (0, x1), (9, 0)], [(0, u)]) = if u = 0 then some (m, some (0, (-2))) else (z_R 78 (m, 0, [(2, 0)], [])).bind fun qq => z_R 110 (qq.1, 35, [(2, 0), (0, x1), (9, 0)], qq.2.toList ++ []) :=
  have hK : kt_at 110 = kt_110 := rfl
  z_R_ifnd hK (c := u = 0) (p1 := 31) (p2 := 28) rfl rfl rfl (fun h1 => (z_R_run hK (n := 1) (g' := (m, 32, [(2, 0), (0, x1), (9, 0)], [(2, 0)])) rfl).trans (z_R_call hK rfl rfl rfl rfl rfl)) (fun h1 => (z_R_run hK (n := 1) (g' := (m, 30, [(2, 0), (0, x1), (9, 0)], [(0, (-2))])) rfl).trans (z_R_ret hK rfl rfl rfl))
theorem qt_qui_35  (m : z_M) (x1 : Int) : z_R 110 (m, 35, [(2, 0), (0, x1), (9, 0)], []) = z_R 110 (m, 37, [(2, 0), (0, x1), (0, 0)], []) :=
  have hK : kt_at 110 = kt_110 := rfl
  (z_R_run hK (n := 2) (g' := (m, 37, [(2, 0), (0, x1), (0, 0)], [])) rfl).trans (rfl)
theorem qt_qui_37  (m : z_M) (x1 : Int) (x2 : Int) : z_R 110 (m, 37, [(2, 0), (0, x1), (0, x2)], []) = if 30 ≤ x2 then (z_R 101 (m, 0, [(0, m 140 5)], [])).bind fun qq => z_R 110 (qq.1, 79, [(2, 0), (0, x1), (0, x2)], qq.2.toList ++ []) else if z_and (z_shr (m 140 5) x2) 1 = 0 then z_R 110 (m, 37, [(2, 0), (0, x1), (0, z_add x2 1)], []) else (z_R 79 (m, 0, [(2, 0), (1, z_i2l x2), (9, 0)], [])).bind fun qq => z_R 110 (qq.1, 63, [(2, 0), (0, x1), (0, x2)], qq.2.toList ++ []) :=
  have hK : kt_at 110 = kt_110 := rfl
  (z_R_run hK (n := 2) (g' := (m, 40, [(2, 0), (0, x1), (0, x2)], [(0, 30), (0, x2)])) rfl).trans (z_R_ifd hK (c := 30 ≤ x2) (p1 := 69) (p2 := 43) rfl rfl rfl (fun h1 => (z_R_run hK (n := 2) (g' := (m, 73, [(2, 0), (0, x1), (0, x2)], [(2, 140)])) rfl).trans ((z_R_run hK (n := 1) (g' := (m, 76, [(2, 0), (0, x1), (0, x2)], [(0, m 140 5)])) rfl).trans (z_R_call hK rfl rfl rfl rfl rfl))) (fun h1 => (z_R_run hK (n := 2) (g' := (m, 47, [(2, 0), (0, x1), (0, x2)], [(2, 140)])) rfl).trans ((z_R_run hK (n := 5) (g' := (m, 54, [(2, 0), (0, x1), (0, x2)], [(0, z_and (z_shr (m 140 5) x2) 1)])) rfl).trans (z_R_ifd hK (c := z_and (z_shr (m 140 5) x2) 1 = 0) (p1 := 63) (p2 := 57) rfl rfl rfl (fun h2 => (z_R_run hK (n := 2) (g' := (m, 37, [(2, 0), (0, x1), (0, z_add x2 1)], [])) rfl).trans (rfl)) (fun h2 => (z_R_run hK (n := 3) (g' := (m, 60, [(2, 0), (0, x1), (0, x2)], [(1, z_i2l x2), (2, 0)])) rfl).trans (z_R_call hK rfl rfl rfl rfl rfl))))))
theorem qt_qui_63  (m : z_M) (x1 : Int) (x2 : Int) : z_R 110 (m, 63, [(2, 0), (0, x1), (0, x2)], []) = z_R 110 (m, 37, [(2, 0), (0, x1), (0, z_add x2 1)], []) :=
  have hK : kt_at 110 = kt_110 := rfl
  (z_R_run hK (n := 2) (g' := (m, 37, [(2, 0), (0, x1), (0, z_add x2 1)], [])) rfl).trans (rfl)
theorem qt_qui_79  (m : z_M) (x1 : Int) (x2 : Int) (u : Int) : z_R 110 (m, 79, [(2, 0), (0, x1), (0, x2)], [(0, u)]) = some (m, some (0, u)) :=
  have hK : kt_at 110 = kt_110 := rfl
  z_R_ret hK rfl rfl rfl
theorem qt_sea_0  (m : z_M) (n : Int) : z_R 111 (m, 0, [(2, 140), (2, 12), (0, n), (9, 0), (9, 0), (9, 0), (9, 0)], []) = (z_R 61 (m, 0, [(2, 141), (2, 12)], [])).bind fun qq => z_R 111 (qq.1, 8, [(2, 140), (2, 12), (0, n), (9, 0), (9, 0), (9, 0), (9, 0)], qq.2.toList ++ []) :=
  have hK : kt_at 111 = kt_111 := rfl
  (z_R_run hK (n := 2) (g' := (m, 4, [(2, 140), (2, 12), (0, n), (9, 0), (9, 0), (9, 0), (9, 0)], [(2, 141)])) rfl).trans ((z_R_run hK (n := 1) (g' := (m, 5, [(2, 140), (2, 12), (0, n), (9, 0), (9, 0), (9, 0), (9, 0)], [(2, 12), (2, 141)])) rfl).trans (z_R_call hK rfl rfl rfl rfl rfl))
theorem qt_sea_8  (m : z_M) (x2 : Int) : z_R 111 (m, 8, [(2, 140), (2, 12), (0, x2), (9, 0), (9, 0), (9, 0), (9, 0)], []) = z_R 111 (z_up (z_up m 140 4 x2) 140 5 0, 23, [(2, 140), (2, 12), (0, x2), (0, 1), (0, 0), (9, 0), (9, 0)], []) :=
  have hK : kt_at 111 = kt_111 := rfl
  (z_R_run hK (n := 10) (g' := (z_up (z_up m 140 4 x2) 140 5 0, 23, [(2, 140), (2, 12), (0, x2), (0, 1), (0, 0), (9, 0), (9, 0)], [])) rfl).trans (rfl)
theorem qt_sea_23  (m : z_M) (x2 : Int) (x3 : Int) (x4 : Int) (v5 : z_V) (v6 : z_V) : z_R 111 (m, 23, [(2, 140), (2, 12), (0, x2), (0, x3), (0, x4), v5, v6], []) = if m 3 8 ≤ x4 then some (z_up m 24 5 0, some (0, x3)) else if x3 = 0 then some (z_up m 24 5 0, some (0, x3)) else (z_R 101 (m, 0, [(0, m 140 5)], [])).bind fun qq => z_R 111 (qq.1, 49, [(2, 140), (2, 12), (0, x2), (0, 0), (0, x4), v5, v6], qq.2.toList ++ [(0, 3)]) :=
  have hK : kt_at 111 = kt_111 := rfl
  (z_R_run hK (n := 3) (g' := (m, 29, [(2, 140), (2, 12), (0, x2), (0, x3), (0, x4), v5, v6], [(2, 3), (0, x4)])) rfl).trans ((z_R_run hK (n := 1) (g' := (m, 32, [(2, 140), (2, 12), (0, x2), (0, x3), (0, x4), v5, v6], [(0, m 3 8), (0, x4)])) rfl).trans (z_R_ifd hK (c := m 3 8 ≤ x4) (p1 := 88) (p2 := 35) rfl rfl rfl (fun h1 => (z_R_run hK (n := 2) (g' := (m, 92, [(2, 140), (2, 12), (0, x2), (0, x3), (0, x4), v5, v6], [(2, 24)])) rfl).trans ((z_R_run hK (n := 3) (g' := (z_up m 24 5 0, 97, [(2, 140), (2, 12), (0, x2), (0, x3), (0, x4), v5, v6], [(0, x3)])) rfl).trans (z_R_ret hK rfl rfl rfl))) (fun h1 => (z_R_run hK (n := 1) (g' := (m, 36, [(2, 140), (2, 12), (0, x2), (0, x3), (0, x4), v5, v6], [(0, x3)])) rfl).trans (z_R_ifd hK (c := x3 = 0) (p1 := 88) (p2 := 39) rfl rfl rfl (fun h2 => (z_R_run hK (n := 2) (g' := (m, 92, [(2, 140), (2, 12), (0, x2), (0, x3), (0, x4), v5, v6], [(2, 24)])) rfl).trans ((z_R_run hK (n := 3) (g' := (z_up m 24 5 0, 97, [(2, 140), (2, 12), (0, x2), (0, x3), (0, x4), v5, v6], [(0, x3)])) rfl).trans (z_R_ret hK rfl rfl rfl))) (fun h2 => (z_R_run hK (n := 5) (g' := (m, 46, [(2, 140), (2, 12), (0, x2), (0, 0), (0, x4), v5, v6], [(0, m 140 5), (0, 3)])) rfl).trans (z_R_call hK rfl rfl rfl rfl rfl))))))
theorem qt_sea_49  (m : z_M) (x2 : Int) (x3 : Int) (x4 : Int) (v5 : z_V) (v6 : z_V) (s0 : Int) (u : Int) : z_R 111 (m, 49, [(2, 140), (2, 12), (0, x2), (0, x3), (0, x4), v5, v6], [(0, u), (0, s0)]) = z_R 111 (m, 55, [(2, 140), (2, 12), (0, x2), (0, x3), (0, x4), (0, z_sub s0 u), (0, 0)], []) :=
  have hK : kt_at 111 = kt_111 := rfl
  (z_R_run hK (n := 4) (g' := (m, 55, [(2, 140), (2, 12), (0, x2), (0, x3), (0, x4), (0, z_sub s0 u), (0, 0)], [])) rfl).trans (rfl)
theorem qt_sea_55  (m : z_M) (x2 : Int) (x3 : Int) (x4 : Int) (x5 : Int) (x6 : Int) : z_R 111 (m, 55, [(2, 140), (2, 12), (0, x2), (0, x3), (0, x4), (0, x5), (0, x6)], []) = if x5 < x6 then z_R 111 (m, 23, [(2, 140), (2, 12), (0, x2), (0, x3), (0, z_add x4 1), (0, x5), (0, x6)], []) else if x3 = 0 then (z_R 112 (m, 0, [(2, 140), (0, x4), (0, 0), (0, x6), (9, 0)], [])).bind fun qq => z_R 111 (qq.1, 75, [(2, 140), (2, 12), (0, x2), (0, x3), (0, x4), (0, x5), (0, x6)], qq.2.toList ++ []) else z_R 111 (m, 23, [(2, 140), (2, 12), (0, x2), (0, x3), (0, z_add x4 1), (0, x5), (0, x6)], []) :=
  have hK : kt_at 111 = kt_111 := rfl
  (z_R_run hK (n := 2) (g' := (m, 59, [(2, 140), (2, 12), (0, x2), (0, x3), (0, x4), (0, x5), (0, x6)], [(0, x5), (0, x6)])) rfl).trans (z_R_ifd hK (c := x5 < x6) (p1 := 82) (p2 := 62) rfl rfl rfl (fun h1 => (z_R_run hK (n := 2) (g' := (m, 23, [(2, 140), (2, 12), (0, x2), (0, x3), (0, z_add x4 1), (0, x5), (0, x6)], [])) rfl).trans (rfl)) (fun h1 => (z_R_run hK (n := 1) (g' := (m, 63, [(2, 140), (2, 12), (0, x2), (0, x3), (0, x4), (0, x5), (0, x6)], [(0, x3)])) rfl).trans (z_R_ifnd hK (c := x3 = 0) (p1 := 82) (p2 := 66) rfl rfl rfl (fun h2 => (z_R_run hK (n := 2) (g' := (m, 23, [(2, 140), (2, 12), (0, x2), (0, x3), (0, z_add x4 1), (0, x5), (0, x6)], [])) rfl).trans (rfl)) (fun h2 => (z_R_run hK (n := 4) (g' := (m, 72, [(2, 140), (2, 12), (0, x2), (0, x3), (0, x4), (0, x5), (0, x6)], [(0, x6), (0, 0), (0, x4), (2, 140)])) rfl).trans (z_R_call hK rfl rfl rfl rfl rfl)))))
theorem qt_sea_75  (m : z_M) (x2 : Int) (x3 : Int) (x4 : Int) (x5 : Int) (x6 : Int) (u : Int) : z_R 111 (m, 75, [(2, 140), (2, 12), (0, x2), (0, x3), (0, x4), (0, x5), (0, x6)], [(0, u)]) = z_R 111 (m, 55, [(2, 140), (2, 12), (0, x2), (0, u), (0, x4), (0, x5), (0, z_add x6 1)], []) :=
  have hK : kt_at 111 = kt_111 := rfl
  (z_R_run hK (n := 3) (g' := (m, 55, [(2, 140), (2, 12), (0, x2), (0, u), (0, x4), (0, x5), (0, z_add x6 1)], [])) rfl).trans (rfl)
theorem qt_cho_0  (m : z_M) (c : Int) (a : Int) (k : Int) : z_R 112 (m, 0, [(2, 140), (0, c), (0, a), (0, k), (9, 0)], []) = if 0 < k then z_R 112 (m, 65, [(2, 140), (0, c), (0, a), (0, k), (0, a)], []) else (z_R 61 (m, 0, [(2, 147), (2, 141)], [])).bind fun qq => z_R 112 (qq.1, 15, [(2, 140), (0, c), (0, a), (0, k), (9, 0)], qq.2.toList ++ []) :=
  have hK : kt_at 112 = kt_112 := rfl
  (z_R_run hK (n := 1) (g' := (m, 1, [(2, 140), (0, c), (0, a), (0, k), (9, 0)], [(0, k)])) rfl).trans (z_R_ifd hK (c := 0 < k) (p1 := 62) (p2 := 4) rfl rfl rfl (fun h1 => (z_R_run hK (n := 2) (g' := (m, 65, [(2, 140), (0, c), (0, a), (0, k), (0, a)], [])) rfl).trans (rfl)) (fun h1 => (z_R_run hK (n := 2) (g' := (m, 8, [(2, 140), (0, c), (0, a), (0, k), (9, 0)], [(2, 147)])) rfl).trans ((z_R_run hK (n := 2) (g' := (m, 12, [(2, 140), (0, c), (0, a), (0, k), (9, 0)], [(2, 141), (2, 147)])) rfl).trans (z_R_call hK rfl rfl rfl rfl rfl))))
theorem qt_cho_15  (m : z_M) (x1 : Int) (x2 : Int) (x3 : Int) : z_R 112 (m, 15, [(2, 140), (0, x1), (0, x2), (0, x3), (9, 0)], []) = (z_R 105 (z_up m 24 5 (m 140 5), 0, [(2, 3), (0, x1)], [])).bind fun qq => z_R 112 (qq.1, 46, [(2, 140), (0, x1), (0, x2), (0, x3), (9, 0)], qq.2.toList ++ [(0, m 140 4), (2, 147), (2, 24)]) :=
  have hK : kt_at 112 = kt_112 := rfl
  (z_R_run hK (n := 2) (g' := (m, 19, [(2, 140), (0, x1), (0, x2), (0, x3), (9, 0)], [(2, 24)])) rfl).trans ((z_R_run hK (n := 5) (g' := (z_up m 24 5 (m 140 5), 30, [(2, 140), (0, x1), (0, x2), (0, x3), (9, 0)], [(2, 24)])) rfl).trans ((z_R_run hK (n := 2) (g' := (z_up m 24 5 (m 140 5), 34, [(2, 140), (0, x1), (0, x2), (0, x3), (9, 0)], [(2, 147), (2, 24)])) rfl).trans ((z_R_run hK (n := 2) (g' := (z_up m 24 5 (m 140 5), 38, [(2, 140), (0, x1), (0, x2), (0, x3), (9, 0)], [(0, (z_up m 24 5 (m 140 5)) 140 4), (2, 147), (2, 24)])) rfl).trans ((congrArg (fun vv => z_R 112 (z_up m 24 5 (m 140 5), 38, [(2, 140), (0, x1), (0, x2), (0, x3), (9, 0)], [(0, vv), (2, 147), (2, 24)])) (zu_p (by decide))).trans ((z_R_run hK (n := 2) (g' := (z_up m 24 5 (m 140 5), 42, [(2, 140), (0, x1), (0, x2), (0, x3), (9, 0)], [(2, 3), (0, m 140 4), (2, 147), (2, 24)])) rfl).trans ((z_R_run hK (n := 1) (g' := (z_up m 24 5 (m 140 5), 43, [(2, 140), (0, x1), (0, x2), (0, x3), (9, 0)], [(0, x1), (2, 3), (0, m 140 4), (2, 147), (2, 24)])) rfl).trans (z_R_call hK rfl rfl rfl rfl rfl)))))))
theorem qt_cho_46  (m : z_M) (x1 : Int) (x2 : Int) (x3 : Int) (s0 : Int) (u : Int) : z_R 112 (m, 46, [(2, 140), (0, x1), (0, x2), (0, x3), (9, 0)], [(0, u), (0, s0), (2, 147), (2, 24)]) = (z_R 97 (m, 0, [(2, 24), (2, 147), (0, s0), (0, u), (9, 0), (9, 0)], [])).bind fun qq => z_R 112 (qq.1, 49, [(2, 140), (0, x1), (0, x2), (0, x3), (9, 0)], qq.2.toList ++ []) :=
  have hK : kt_at 112 = kt_112 := rfl
  z_R_call hK rfl rfl rfl rfl rfl
theorem qt_cho_49  (m : z_M) (x1 : Int) (x2 : Int) (x3 : Int) (u : Int) : z_R 112 (m, 49, [(2, 140), (0, x1), (0, x2), (0, x3), (9, 0)], [(0, u)]) = if u = m 140 4 then some (m, some (0, 1)) else some (m, some (0, 0)) :=
  have hK : kt_at 112 = kt_112 := rfl
  (z_R_run hK (n := 2) (g' := (m, 53, [(2, 140), (0, x1), (0, x2), (0, x3), (9, 0)], [(0, m 140 4), (0, u)])) rfl).trans (z_R_ifnd hK (c := u = m 140 4) (p1 := 60) (p2 := 56) rfl rfl rfl (fun h1 => (z_R_run hK (n := 1) (g' := (m, 61, [(2, 140), (0, x1), (0, x2), (0, x3), (9, 0)], [(0, 0)])) rfl).trans (z_R_ret hK rfl rfl rfl)) (fun h1 => (z_R_run hK (n := 2) (g' := (m, 61, [(2, 140), (0, x1), (0, x2), (0, x3), (9, 0)], [(0, 1)])) rfl).trans (z_R_ret hK rfl rfl rfl)))
theorem qt_cho_65  (m : z_M) (x1 : Int) (x2 : Int) (x3 : Int) (x4 : Int) : z_R 112 (m, 65, [(2, 140), (0, x1), (0, x2), (0, x3), (0, x4)], []) = if 30 ≤ x4 then some (m, some (0, 0)) else (z_R 113 (m, 0, [(2, 140), (0, x1), (0, x4), (9, 0), (9, 0)], [])).bind fun qq => z_R 112 (qq.1, 79, [(2, 140), (0, x1), (0, x2), (0, x3), (0, x4)], qq.2.toList ++ []) :=
  have hK : kt_at 112 = kt_112 := rfl
  (z_R_run hK (n := 2) (g' := (m, 69, [(2, 140), (0, x1), (0, x2), (0, x3), (0, x4)], [(0, 30), (0, x4)])) rfl).trans (z_R_ifd hK (c := 30 ≤ x4) (p1 := 133) (p2 := 72) rfl rfl rfl (fun h1 => (z_R_run hK (n := 1) (g' := (m, 134, [(2, 140), (0, x1), (0, x2), (0, x3), (0, x4)], [(0, 0)])) rfl).trans (z_R_ret hK rfl rfl rfl)) (fun h1 => (z_R_run hK (n := 3) (g' := (m, 76, [(2, 140), (0, x1), (0, x2), (0, x3), (0, x4)], [(0, x4), (0, x1), (2, 140)])) rfl).trans (z_R_call hK rfl rfl rfl rfl rfl)))
theorem qt_cho_79  (m : z_M) (x1 : Int) (x2 : Int) (x3 : Int) (x4 : Int) (u : Int) : z_R 112 (m, 79, [(2, 140), (0, x1), (0, x2), (0, x3), (0, x4)], [(0, u)]) = if u = 0 then z_R 112 (m, 65, [(2, 140), (0, x1), (0, x2), (0, x3), (0, z_add x4 1)], []) else (z_R 112 (z_up m 140 5 (z_or (m 140 5) (z_shl 1 x4)), 0, [(2, 140), (0, x1), (0, z_add x4 1), (0, z_sub x3 1), (9, 0)], [])).bind fun qq => z_R 112 (qq.1, 107, [(2, 140), (0, x1), (0, x2), (0, x3), (0, x4)], qq.2.toList ++ []) :=
  have hK : kt_at 112 = kt_112 := rfl
  z_R_ifd hK (c := u = 0) (p1 := 127) (p2 := 82) rfl rfl rfl (fun h1 => (z_R_run hK (n := 2) (g' := (m, 65, [(2, 140), (0, x1), (0, x2), (0, x3), (0, z_add x4 1)], [])) rfl).trans (rfl)) (fun h1 => (z_R_run hK (n := 12) (g' := (z_up m 140 5 (z_or (m 140 5) (z_shl 1 x4)), 100, [(2, 140), (0, x1), (0, x2), (0, x3), (0, x4)], [(0, 1), (0, x4), (0, x1), (2, 140)])) rfl).trans ((z_R_run hK (n := 4) (g' := (z_up m 140 5 (z_or (m 140 5) (z_shl 1 x4)), 104, [(2, 140), (0, x1), (0, x2), (0, x3), (0, x4)], [(0, z_sub x3 1), (0, z_add x4 1), (0, x1), (2, 140)])) rfl).trans (z_R_call hK rfl rfl rfl rfl rfl)))
theorem qt_cho_107  (m : z_M) (x1 : Int) (x2 : Int) (x3 : Int) (x4 : Int) (u : Int) : z_R 112 (m, 107, [(2, 140), (0, x1), (0, x2), (0, x3), (0, x4)], [(0, u)]) = if u = 0 then z_R 112 (z_up m 140 5 (z_and (m 140 5) (z_xor (z_shl 1 x4) (-1))), 65, [(2, 140), (0, x1), (0, x2), (0, x3), (0, z_add x4 1)], []) else some (m, some (0, 1)) :=
  have hK : kt_at 112 = kt_112 := rfl
  z_R_ifd hK (c := u = 0) (p1 := 112) (p2 := 110) rfl rfl rfl (fun h1 => (z_R_run hK (n := 12) (g' := (z_up m 140 5 (z_and (m 140 5) (z_xor (z_shl 1 x4) (-1))), 65, [(2, 140), (0, x1), (0, x2), (0, x3), (0, z_add x4 1)], [])) rfl).trans (rfl)) (fun h1 => (z_R_run hK (n := 1) (g' := (m, 111, [(2, 140), (0, x1), (0, x2), (0, x3), (0, x4)], [(0, 1)])) rfl).trans (z_R_ret hK rfl rfl rfl))
theorem qt_mat_0  (m : z_M) (c : Int) (d : Int) (h_d : 0 ≤ d ∧ d ≤ 29) (h_t : 0 ≤ m 141 7 ∧ m 141 7 ≤ 1073741824) (h_n : 0 ≤ m 3 11 ∧ m 3 11 ≤ 5) : z_R 113 (m, 0, [(2, 140), (0, c), (0, d), (9, 0), (9, 0)], []) = if m 3 11 ≤ d / 6 then some (m, some (0, 0)) else if m 8 (d).toNat = 0 then some (m, some (0, 0)) else (z_R 114 (m, 0, [(0, (d % 6) - m 141 7), (0, 6), (9, 0)], [])).bind fun qq => z_R 113 (qq.1, 51, [(2, 140), (0, c), (0, d), (0, d / 6), (9, 0)], qq.2.toList ++ []) :=
  have hK : kt_at 113 = kt_113 := rfl
  (z_R_run hK (n := 3) (g' := (m, 4, [(2, 140), (0, c), (0, d), (9, 0), (9, 0)], [(0, z_div d 6)])) rfl).trans ((congrArg (fun vv => z_R 113 (m, 4, [(2, 140), (0, c), (0, d), (9, 0), (9, 0)], [(0, vv)])) (z_div_nn (by omega) (by omega) (by decide) (by decide))).trans ((z_R_run hK (n := 4) (g' := (m, 10, [(2, 140), (0, c), (0, d), (0, d / 6), (9, 0)], [(2, 3), (0, d / 6)])) rfl).trans ((z_R_run hK (n := 1) (g' := (m, 13, [(2, 140), (0, c), (0, d), (0, d / 6), (9, 0)], [(0, m 3 11), (0, d / 6)])) rfl).trans (z_R_ifd hK (c := m 3 11 ≤ d / 6) (p1 := 32) (p2 := 16) rfl rfl rfl (fun h1 => (z_R_run hK (n := 1) (g' := (m, 33, [(2, 140), (0, c), (0, d), (0, d / 6), (9, 0)], [(0, 0)])) rfl).trans (z_R_ret hK rfl rfl rfl)) (fun h1 => (z_R_run hK (n := 1) (g' := (m, 17, [(2, 140), (0, c), (0, d), (0, d / 6), (9, 0)], [(0, d)])) rfl).trans (z_R_if0 hK (c := d < 0) (p1 := 32) (p2 := 20) rfl rfl rfl (show ¬ (d < 0) by omega) ((z_R_run hK (n := 2) (g' := (m, 24, [(2, 140), (0, c), (0, d), (0, d / 6), (9, 0)], [(2, 3)])) rfl).trans ((z_R_run hK (n := 1) (g' := (m, 27, [(2, 140), (0, c), (0, d), (0, d / 6), (9, 0)], [(2, 8)])) rfl).trans ((z_R_run hK (n := 1) (g' := (m, 28, [(2, 140), (0, c), (0, d), (0, d / 6), (9, 0)], [(0, d), (2, 8)])) rfl).trans (z_R_ixT hK (n := 30) (g' := (m, 29, [(2, 140), (0, c), (0, d), (0, d / 6), (9, 0)], [(0, m 8 (d).toNat)])) rfl rfl rfl  (show 0 ≤ d ∧ d < 30 by omega) (z_R_ifnd hK (c := m 8 (d).toNat = 0) (p1 := 34) (p2 := 32) rfl rfl rfl (fun h2 => (z_R_run hK (n := 3) (g' := (m, 38, [(2, 140), (0, c), (0, d), (0, d / 6), (9, 0)], [(0, z_rem d 6)])) rfl).trans ((congrArg (fun vv => z_R 113 (m, 38, [(2, 140), (0, c), (0, d), (0, d / 6), (9, 0)], [(0, vv)])) (z_rem_nn (by omega) (by omega) (by decide) (by decide))).trans ((z_R_run hK (n := 2) (g' := (m, 42, [(2, 140), (0, c), (0, d), (0, d / 6), (9, 0)], [(2, 141), (0, d % 6)])) rfl).trans ((z_R_run hK (n := 2) (g' := (m, 46, [(2, 140), (0, c), (0, d), (0, d / 6), (9, 0)], [(0, z_sub (d % 6) (m 141 7))])) rfl).trans ((congrArg (fun vv => z_R 113 (m, 46, [(2, 140), (0, c), (0, d), (0, d / 6), (9, 0)], [(0, vv)])) ((z_sub_eq (by omega) (by omega)).trans (by omega))).trans ((z_R_run hK (n := 1) (g' := (m, 48, [(2, 140), (0, c), (0, d), (0, d / 6), (9, 0)], [(0, 6), (0, (d % 6) - m 141 7)])) rfl).trans (z_R_call hK rfl rfl rfl rfl rfl))))))) (fun h2 => (z_R_run hK (n := 1) (g' := (m, 33, [(2, 140), (0, c), (0, d), (0, d / 6), (9, 0)], [(0, 0)])) rfl).trans (z_R_ret hK rfl rfl rfl)))))))))))))
theorem qt_mat_51  (m : z_M) (x1 : Int) (x2 : Int) (x3 : Int) (u : Int) : z_R 113 (m, 51, [(2, 140), (0, x1), (0, x2), (0, x3), (9, 0)], [(0, u)]) = if 0 ≤ x3 ∧ x3 < 5 then if m 144 (x3).toNat = (-1) then some (m, some (0, 0)) else if z_rem (m 144 (x3).toNat) 3 = x1 then if m 140 4 ≤ u then some (m, some (0, 0)) else some (m, some (0, 1)) else some (m, some (0, 0)) else none :=
  have hK : kt_at 113 = kt_113 := rfl
  (z_R_run hK (n := 3) (g' := (m, 57, [(2, 140), (0, x1), (0, x2), (0, x3), (0, u)], [(2, 141)])) rfl).trans ((z_R_run hK (n := 1) (g' := (m, 60, [(2, 140), (0, x1), (0, x2), (0, x3), (0, u)], [(2, 144)])) rfl).trans ((z_R_run hK (n := 1) (g' := (m, 61, [(2, 140), (0, x1), (0, x2), (0, x3), (0, u)], [(0, x3), (2, 144)])) rfl).trans (z_R_ixD hK (n := 5) (g' := (m, 62, [(2, 140), (0, x1), (0, x2), (0, x3), (0, u)], [(0, m 144 (x3).toNat)])) rfl rfl rfl  (fun h1 => (z_R_run hK (n := 1) (g' := (m, 63, [(2, 140), (0, x1), (0, x2), (0, x3), (0, u)], [(0, (-1)), (0, m 144 (x3).toNat)])) rfl).trans (z_R_ifd hK (c := m 144 (x3).toNat = (-1)) (p1 := 94) (p2 := 66) rfl rfl rfl (fun h2 => (z_R_run hK (n := 1) (g' := (m, 95, [(2, 140), (0, x1), (0, x2), (0, x3), (0, u)], [(0, 0)])) rfl).trans (z_R_ret hK rfl rfl rfl)) (fun h2 => (z_R_run hK (n := 2) (g' := (m, 70, [(2, 140), (0, x1), (0, x2), (0, x3), (0, u)], [(2, 141)])) rfl).trans ((z_R_run hK (n := 1) (g' := (m, 73, [(2, 140), (0, x1), (0, x2), (0, x3), (0, u)], [(2, 144)])) rfl).trans ((z_R_run hK (n := 1) (g' := (m, 74, [(2, 140), (0, x1), (0, x2), (0, x3), (0, u)], [(0, x3), (2, 144)])) rfl).trans (z_R_ixT hK (n := 5) (g' := (m, 75, [(2, 140), (0, x1), (0, x2), (0, x3), (0, u)], [(0, m 144 (x3).toNat)])) rfl rfl rfl  (show 0 ≤ x3 ∧ x3 < 5 by omega) ((z_R_run hK (n := 3) (g' := (m, 78, [(2, 140), (0, x1), (0, x2), (0, x3), (0, u)], [(0, x1), (0, z_rem (m 144 (x3).toNat) 3)])) rfl).trans (z_R_ifnd hK (c := z_rem (m 144 (x3).toNat) 3 = x1) (p1 := 94) (p2 := 81) rfl rfl rfl (fun h3 => (z_R_run hK (n := 1) (g' := (m, 95, [(2, 140), (0, x1), (0, x2), (0, x3), (0, u)], [(0, 0)])) rfl).trans (z_R_ret hK rfl rfl rfl)) (fun h3 => (z_R_run hK (n := 3) (g' := (m, 87, [(2, 140), (0, x1), (0, x2), (0, x3), (0, u)], [(0, m 140 4), (0, u)])) rfl).trans (z_R_ifd hK (c := m 140 4 ≤ u) (p1 := 94) (p2 := 90) rfl rfl rfl (fun h4 => (z_R_run hK (n := 1) (g' := (m, 95, [(2, 140), (0, x1), (0, x2), (0, x3), (0, u)], [(0, 0)])) rfl).trans (z_R_ret hK rfl rfl rfl)) (fun h4 => (z_R_run hK (n := 2) (g' := (m, 95, [(2, 140), (0, x1), (0, x2), (0, x3), (0, u)], [(0, 1)])) rfl).trans (z_R_ret hK rfl rfl rfl)))))))))))))))
theorem qt_flm_0  (m : z_M) (a : Int) (b : Int) : z_R 114 (m, 0, [(0, a), (0, b), (9, 0)], []) = if b = 0 then none else if 0 ≤ z_xor a b then some (m, some (0, z_rem a b)) else if z_rem a b = 0 then some (m, some (0, z_rem a b)) else some (m, some (0, z_add (z_rem a b) b)) :=
  have hK : kt_at 114 = kt_114 := rfl
  (z_R_run hK (n := 2) (g' := (m, 2, [(0, a), (0, b), (9, 0)], [(0, b), (0, a)])) rfl).trans (z_R_dvD hK (d := b) rfl rfl rfl (fun h1 => (z_R_run hK (n := 4) (g' := (m, 7, [(0, a), (0, b), (0, z_rem a b)], [(0, z_xor a b)])) rfl).trans (z_R_ifd hK (c := 0 ≤ z_xor a b) (p1 := 18) (p2 := 10) rfl rfl rfl (fun h2 => (z_R_run hK (n := 1) (g' := (m, 19, [(0, a), (0, b), (0, z_rem a b)], [(0, z_rem a b)])) rfl).trans (z_R_ret hK rfl rfl rfl)) (fun h2 => (z_R_run hK (n := 1) (g' := (m, 11, [(0, a), (0, b), (0, z_rem a b)], [(0, z_rem a b)])) rfl).trans (z_R_ifd hK (c := z_rem a b = 0) (p1 := 18) (p2 := 14) rfl rfl rfl (fun h3 => (z_R_run hK (n := 1) (g' := (m, 19, [(0, a), (0, b), (0, z_rem a b)], [(0, z_rem a b)])) rfl).trans (z_R_ret hK rfl rfl rfl)) (fun h3 => (z_R_run hK (n := 3) (g' := (m, 17, [(0, a), (0, b), (0, z_rem a b)], [(0, z_add (z_rem a b) b)])) rfl).trans (z_R_ret hK rfl rfl rfl)))))))
end
