section
/-! STRETCHES of standing, gives, coldest, with bounds done -/
theorem p_flo_0  (m : z_M) : z_R 92 (m, 0, [(2, 3), (2, 18), (9, 0), (9, 0)], []) = z_R 92 (m, 4, [(2, 3), (2, 18), (0, 0), (0, 0)], []) :=
  have hK : kt_at 92 = kt_92 := rfl
  (z_R_run hK (n := 4) (g' := (m, 4, [(2, 3), (2, 18), (0, 0), (0, 0)], [])) rfl).trans (rfl)
theorem p_flo_4  (m : z_M) (x2 : Int) (x3 : Int) : z_R 92 (m, 4, [(2, 3), (2, 18), (0, x2), (0, x3)], []) = if 9 ≤ x3 then some (m, some (0, x2)) else if ¬ u_hs (m 3 8) (m 3 9) x3 = 0 then if m 19 (x3).toNat ≤ 0 then z_R 92 (m, 4, [(2, 3), (2, 18), (0, x2), (0, x3 + 1)], []) else z_R 92 (m, 4, [(2, 3), (2, 18), (0, z_or x2 (z_shl 1 x3)), (0, x3 + 1)], []) else z_R 92 (m, 4, [(2, 3), (2, 18), (0, x2), (0, z_add x3 1)], []) :=
  have hK : kt_at 92 = kt_92 := rfl
  (z_R_run hK (n := 2) (g' := (m, 7, [(2, 3), (2, 18), (0, x2), (0, x3)], [(0, 9), (0, x3)])) rfl).trans (z_R_ifd hK (c := 9 ≤ x3) (p1 := 39) (p2 := 10) rfl rfl rfl (fun h1 => (z_R_run hK (n := 1) (g' := (m, 40, [(2, 3), (2, 18), (0, x2), (0, x3)], [(0, x2)])) rfl).trans (z_R_ret hK rfl rfl rfl)) (fun h1 => (z_R_run hK (n := 2) (g' := (m, 12, [(2, 3), (2, 18), (0, x2), (0, x3)], [(0, x3), (2, 3)])) rfl).trans (z_R_cif hK rfl rfl rfl rfl rfl (c_ifhas _ _ rfl rfl) (fun h2 => have h4 := u_hs_rng h2; (z_R_run hK (n := 3) (g' := (m, 22, [(2, 3), (2, 18), (0, x2), (0, x3)], [(2, 19)])) rfl).trans ((z_R_run hK (n := 1) (g' := (m, 23, [(2, 3), (2, 18), (0, x2), (0, x3)], [(0, x3), (2, 19)])) rfl).trans (z_R_ixT hK (n := 9) (g' := (m, 24, [(2, 3), (2, 18), (0, x2), (0, x3)], [(0, m 19 (x3).toNat)])) rfl rfl rfl  (show 0 ≤ x3 ∧ x3 < 9 by omega) (z_R_ifd hK (c := m 19 (x3).toNat ≤ 0) (p1 := 33) (p2 := 27) rfl rfl rfl (fun h3 => (z_R_run hK (n := 1) (g' := (m, 36, [(2, 3), (2, 18), (0, x2), (0, z_add x3 1)], [])) rfl).trans ((congrArg (fun vv => z_R 92 (m, 36, [(2, 3), (2, 18), (0, x2), (0, vv)], [])) (z_add_eq (by omega) (by omega))).trans ((z_R_run hK (n := 1) (g' := (m, 4, [(2, 3), (2, 18), (0, x2), (0, x3 + 1)], [])) rfl).trans (rfl)))) (fun h3 => (z_R_run hK (n := 7) (g' := (m, 36, [(2, 3), (2, 18), (0, z_or x2 (z_shl 1 x3)), (0, z_add x3 1)], [])) rfl).trans ((congrArg (fun vv => z_R 92 (m, 36, [(2, 3), (2, 18), (0, z_or x2 (z_shl 1 x3)), (0, vv)], [])) (z_add_eq (by omega) (by omega))).trans ((z_R_run hK (n := 1) (g' := (m, 4, [(2, 3), (2, 18), (0, z_or x2 (z_shl 1 x3)), (0, x3 + 1)], [])) rfl).trans (rfl)))))))) (fun h2 => (z_R_run hK (n := 3) (g' := (m, 4, [(2, 3), (2, 18), (0, x2), (0, z_add x3 1)], [])) rfl).trans (rfl)))))
theorem p_st2_0  (m : z_M) (n : Int) : z_R 96 (m, 0, [(2, 24), (2, 18), (0, n)], []) = (z_R 97 (m, 0, [(2, 24), (2, 18), (0, n), (0, m 3 10), (9, 0), (9, 0)], [])).bind fun qq => z_R 96 (qq.1, 13, [(2, 24), (2, 18), (0, n)], qq.2.toList ++ []) :=
  have hK : kt_at 96 = kt_96 := rfl
  (z_R_run hK (n := 5) (g' := (m, 7, [(2, 24), (2, 18), (0, n)], [(2, 3), (0, n), (2, 18), (2, 24)])) rfl).trans ((z_R_run hK (n := 1) (g' := (m, 10, [(2, 24), (2, 18), (0, n)], [(0, m 3 10), (0, n), (2, 18), (2, 24)])) rfl).trans (z_R_call hK rfl rfl rfl rfl rfl))
theorem p_st2_13  (m : z_M) (x2 : Int) (u : Int) : z_R 96 (m, 13, [(2, 24), (2, 18), (0, x2)], [(0, u)]) = some (m, some (0, u)) :=
  have hK : kt_at 96 = kt_96 := rfl
  z_R_ret hK rfl rfl rfl
theorem p_st3_0  (m : z_M) (n : Int) (b : Int) : z_R 97 (m, 0, [(2, 24), (2, 18), (0, n), (0, b), (9, 0), (9, 0)], []) = (z_R 92 (m, 0, [(2, 3), (2, 18), (9, 0), (9, 0)], [])).bind fun qq => z_R 97 (qq.1, 8, [(2, 24), (2, 18), (0, n), (0, b), (9, 0), (9, 0)], qq.2.toList ++ []) :=
  have hK : kt_at 97 = kt_97 := rfl
  (z_R_run hK (n := 2) (g' := (m, 4, [(2, 24), (2, 18), (0, n), (0, b), (9, 0), (9, 0)], [(2, 3)])) rfl).trans ((z_R_run hK (n := 1) (g' := (m, 5, [(2, 24), (2, 18), (0, n), (0, b), (9, 0), (9, 0)], [(2, 18), (2, 3)])) rfl).trans (z_R_call hK rfl rfl rfl rfl rfl))
theorem p_st3_8  (m : z_M) (x2 : Int) (x3 : Int) (u : Int) : z_R 97 (m, 8, [(2, 24), (2, 18), (0, x2), (0, x3), (9, 0), (9, 0)], [(0, u)]) = z_R 97 (m, 15, [(2, 24), (2, 18), (0, x2), (0, x3), (0, z_and u x3), (0, 0)], []) :=
  have hK : kt_at 97 = kt_97 := rfl
  (z_R_run hK (n := 5) (g' := (m, 15, [(2, 24), (2, 18), (0, x2), (0, x3), (0, z_and u x3), (0, 0)], [])) rfl).trans (rfl)
theorem p_st3_15  (m : z_M) (x2 : Int) (x3 : Int) (x4 : Int) (x5 : Int) : z_R 97 (m, 15, [(2, 24), (2, 18), (0, x2), (0, x3), (0, x4), (0, x5)], []) = if x2 ≤ x5 then some (m, some (0, x2)) else (z_R 68 (m, 0, [(2, 24), (2, 18), (0, x3), (9, 0), (9, 0), (9, 0)], [])).bind fun qq => z_R 97 (qq.1, 27, [(2, 24), (2, 18), (0, x2), (0, x3), (0, x4), (0, x5)], qq.2.toList ++ []) :=
  have hK : kt_at 97 = kt_97 := rfl
  (z_R_run hK (n := 2) (g' := (m, 18, [(2, 24), (2, 18), (0, x2), (0, x3), (0, x4), (0, x5)], [(0, x2), (0, x5)])) rfl).trans (z_R_ifd hK (c := x2 ≤ x5) (p1 := 46) (p2 := 21) rfl rfl rfl (fun h1 => (z_R_run hK (n := 1) (g' := (m, 47, [(2, 24), (2, 18), (0, x2), (0, x3), (0, x4), (0, x5)], [(0, x2)])) rfl).trans (z_R_ret hK rfl rfl rfl)) (fun h1 => (z_R_run hK (n := 3) (g' := (m, 24, [(2, 24), (2, 18), (0, x2), (0, x3), (0, x4), (0, x5)], [(0, x3), (2, 18), (2, 24)])) rfl).trans (z_R_call hK rfl rfl rfl rfl rfl)))
theorem p_st3_27  (m : z_M) (x2 : Int) (x3 : Int) (x4 : Int) (x5 : Int) : z_R 97 (m, 27, [(2, 24), (2, 18), (0, x2), (0, x3), (0, x4), (0, x5)], []) = if z_and (m 24 10) x4 = 0 then z_R 97 (m, 15, [(2, 24), (2, 18), (0, x2), (0, x3), (0, x4), (0, z_add x5 1)], []) else some (m, some (0, x5)) :=
  have hK : kt_at 97 = kt_97 := rfl
  (z_R_run hK (n := 4) (g' := (m, 34, [(2, 24), (2, 18), (0, x2), (0, x3), (0, x4), (0, x5)], [(0, z_and (m 24 10) x4)])) rfl).trans (z_R_ifd hK (c := z_and (m 24 10) x4 = 0) (p1 := 40) (p2 := 37) rfl rfl rfl (fun h1 => (z_R_run hK (n := 2) (g' := (m, 15, [(2, 24), (2, 18), (0, x2), (0, x3), (0, x4), (0, z_add x5 1)], [])) rfl).trans (rfl)) (fun h1 => (z_R_run hK (n := 1) (g' := (m, 39, [(2, 24), (2, 18), (0, x2), (0, x3), (0, x4), (0, x5)], [(0, x5)])) rfl).trans (z_R_ret hK rfl rfl rfl)))
theorem p_col_0  (m : z_M) (n : Int) : z_R 95 (m, 0, [(2, 0), (0, n), (9, 0)], []) = if n < 1 then some (m, some (0, (-1))) else if n ≤ 100 then z_R 95 (m, 15, [(2, 0), (0, n), (0, 0)], []) else some (m, some (0, (-1))) :=
  have hK : kt_at 95 = kt_95 := rfl
  (z_R_run hK (n := 2) (g' := (m, 2, [(2, 0), (0, n), (9, 0)], [(0, 1), (0, n)])) rfl).trans (z_R_ifd hK (c := n < 1) (p1 := 11) (p2 := 5) rfl rfl rfl (fun h1 => (z_R_run hK (n := 1) (g' := (m, 12, [(2, 0), (0, n), (9, 0)], [(0, (-1))])) rfl).trans (z_R_ret hK rfl rfl rfl)) (fun h1 => (z_R_run hK (n := 2) (g' := (m, 8, [(2, 0), (0, n), (9, 0)], [(0, 100), (0, n)])) rfl).trans (z_R_ifd hK (c := n ≤ 100) (p1 := 13) (p2 := 11) rfl rfl rfl (fun h2 => (z_R_run hK (n := 2) (g' := (m, 15, [(2, 0), (0, n), (0, 0)], [])) rfl).trans (rfl)) (fun h2 => (z_R_run hK (n := 1) (g' := (m, 12, [(2, 0), (0, n), (9, 0)], [(0, (-1))])) rfl).trans (z_R_ret hK rfl rfl rfl)))))
theorem p_col_15  (m : z_M) (x1 : Int) (x2 : Int) : z_R 95 (m, 15, [(2, 0), (0, x1), (0, x2)], []) = if 9 < x2 then some (m, some (0, (-2))) else (z_R 61 (m, 0, [(2, 18), (2, 12)], [])).bind fun qq => z_R 95 (qq.1, 32, [(2, 0), (0, x1), (0, x2)], qq.2.toList ++ []) :=
  have hK : kt_at 95 = kt_95 := rfl
  (z_R_run hK (n := 2) (g' := (m, 18, [(2, 0), (0, x1), (0, x2)], [(0, 9), (0, x2)])) rfl).trans (z_R_ifd hK (c := 9 < x2) (p1 := 64) (p2 := 21) rfl rfl rfl (fun h1 => (z_R_run hK (n := 1) (g' := (m, 66, [(2, 0), (0, x1), (0, x2)], [(0, (-2))])) rfl).trans (z_R_ret hK rfl rfl rfl)) (fun h1 => (z_R_run hK (n := 2) (g' := (m, 25, [(2, 0), (0, x1), (0, x2)], [(2, 18)])) rfl).trans ((z_R_run hK (n := 2) (g' := (m, 29, [(2, 0), (0, x1), (0, x2)], [(2, 12), (2, 18)])) rfl).trans (z_R_call hK rfl rfl rfl rfl rfl))))
theorem p_col_32  (m : z_M) (x1 : Int) (x2 : Int) : z_R 95 (m, 32, [(2, 0), (0, x1), (0, x2)], []) = (z_R 96 (z_up m 18 8 x2, 0, [(2, 24), (2, 18), (0, x1)], [])).bind fun qq => z_R 95 (qq.1, 52, [(2, 0), (0, x1), (0, x2)], qq.2.toList ++ []) :=
  have hK : kt_at 95 = kt_95 := rfl
  (z_R_run hK (n := 2) (g' := (m, 36, [(2, 0), (0, x1), (0, x2)], [(2, 18)])) rfl).trans ((z_R_run hK (n := 4) (g' := (z_up m 18 8 x2, 44, [(2, 0), (0, x1), (0, x2)], [(2, 24)])) rfl).trans ((z_R_run hK (n := 2) (g' := (z_up m 18 8 x2, 48, [(2, 0), (0, x1), (0, x2)], [(2, 18), (2, 24)])) rfl).trans ((z_R_run hK (n := 1) (g' := (z_up m 18 8 x2, 49, [(2, 0), (0, x1), (0, x2)], [(0, x1), (2, 18), (2, 24)])) rfl).trans (z_R_call hK rfl rfl rfl rfl rfl))))
theorem p_col_52  (m : z_M) (x1 : Int) (x2 : Int) (u : Int) : z_R 95 (m, 52, [(2, 0), (0, x1), (0, x2)], [(0, u)]) = if u = x1 then some (m, some (0, x2)) else z_R 95 (m, 15, [(2, 0), (0, x1), (0, z_add x2 1)], []) :=
  have hK : kt_at 95 = kt_95 := rfl
  (z_R_run hK (n := 1) (g' := (m, 53, [(2, 0), (0, x1), (0, x2)], [(0, x1), (0, u)])) rfl).trans (z_R_ifnd hK (c := u = x1) (p1 := 58) (p2 := 56) rfl rfl rfl (fun h1 => (z_R_run hK (n := 2) (g' := (m, 15, [(2, 0), (0, x1), (0, z_add x2 1)], [])) rfl).trans (rfl)) (fun h1 => (z_R_run hK (n := 1) (g' := (m, 57, [(2, 0), (0, x1), (0, x2)], [(0, x2)])) rfl).trans (z_R_ret hK rfl rfl rfl)))
theorem p_giv_0  (m : z_M) : z_R 91 (m, 0, [(2, 0), (9, 0), (9, 0), (9, 0)], []) = (z_R 61 (m, 0, [(2, 18), (2, 12)], [])).bind fun qq => z_R 91 (qq.1, 11, [(2, 0), (9, 0), (9, 0), (9, 0)], qq.2.toList ++ []) :=
  have hK : kt_at 91 = kt_91 := rfl
  (z_R_run hK (n := 2) (g' := (m, 4, [(2, 0), (9, 0), (9, 0), (9, 0)], [(2, 18)])) rfl).trans ((z_R_run hK (n := 2) (g' := (m, 8, [(2, 0), (9, 0), (9, 0), (9, 0)], [(2, 12), (2, 18)])) rfl).trans (z_R_call hK rfl rfl rfl rfl rfl))
theorem p_giv_11  (m : z_M) : z_R 91 (m, 11, [(2, 0), (9, 0), (9, 0), (9, 0)], []) = (z_R 92 (m, 0, [(2, 3), (2, 18), (9, 0), (9, 0)], [])).bind fun qq => z_R 91 (qq.1, 22, [(2, 0), (9, 0), (9, 0), (9, 0)], qq.2.toList ++ []) :=
  have hK : kt_at 91 = kt_91 := rfl
  (z_R_run hK (n := 2) (g' := (m, 15, [(2, 0), (9, 0), (9, 0), (9, 0)], [(2, 3)])) rfl).trans ((z_R_run hK (n := 2) (g' := (m, 19, [(2, 0), (9, 0), (9, 0), (9, 0)], [(2, 18), (2, 3)])) rfl).trans (z_R_call hK rfl rfl rfl rfl rfl))
theorem p_giv_22  (m : z_M) (u : Int) : z_R 91 (m, 22, [(2, 0), (9, 0), (9, 0), (9, 0)], [(0, u)]) = z_R 91 (m, 25, [(2, 0), (0, u), (0, 1), (9, 0)], []) :=
  have hK : kt_at 91 = kt_91 := rfl
  (z_R_run hK (n := 3) (g' := (m, 25, [(2, 0), (0, u), (0, 1), (9, 0)], [])) rfl).trans (rfl)
theorem p_giv_25  (m : z_M) (x1 : Int) (x2 : Int) (v3 : z_V) : z_R 91 (m, 25, [(2, 0), (0, x1), (0, x2), v3], []) = if 100 < x2 then some (m, some (0, (-2))) else (z_R 67 (m, 0, [(2, 24), (2, 18), (0, 1), (9, 0)], [])).bind fun qq => z_R 91 (qq.1, 43, [(2, 0), (0, x1), (0, x2), v3], qq.2.toList ++ []) :=
  have hK : kt_at 91 = kt_91 := rfl
  (z_R_run hK (n := 2) (g' := (m, 28, [(2, 0), (0, x1), (0, x2), v3], [(0, 100), (0, x2)])) rfl).trans (z_R_ifd hK (c := 100 < x2) (p1 := 82) (p2 := 31) rfl rfl rfl (fun h1 => (z_R_run hK (n := 1) (g' := (m, 84, [(2, 0), (0, x1), (0, x2), v3], [(0, (-2))])) rfl).trans (z_R_ret hK rfl rfl rfl)) (fun h1 => (z_R_run hK (n := 2) (g' := (m, 35, [(2, 0), (0, x1), (0, x2), v3], [(2, 24)])) rfl).trans ((z_R_run hK (n := 2) (g' := (m, 39, [(2, 0), (0, x1), (0, x2), v3], [(2, 18), (2, 24)])) rfl).trans ((z_R_run hK (n := 1) (g' := (m, 40, [(2, 0), (0, x1), (0, x2), v3], [(0, 1), (2, 18), (2, 24)])) rfl).trans (z_R_call hK rfl rfl rfl rfl rfl)))))
theorem p_giv_43  (m : z_M) (x1 : Int) (x2 : Int) (v3 : z_V) : z_R 91 (m, 43, [(2, 0), (0, x1), (0, x2), v3], []) = if z_and (m 24 10) x1 = 0 then z_R 91 (m, 25, [(2, 0), (0, x1), (0, z_add x2 1), (0, z_and (m 24 10) x1)], []) else (z_R 93 (m, 0, [(0, z_and (m 24 10) x1), (9, 0)], [])).bind fun qq => z_R 91 (qq.1, 62, [(2, 0), (0, x1), (0, x2), (0, z_and (m 24 10) x1)], qq.2.toList ++ [(2, 0)]) :=
  have hK : kt_at 91 = kt_91 := rfl
  (z_R_run hK (n := 2) (g' := (m, 47, [(2, 0), (0, x1), (0, x2), v3], [(2, 24)])) rfl).trans ((z_R_run hK (n := 5) (g' := (m, 54, [(2, 0), (0, x1), (0, x2), (0, z_and (m 24 10) x1)], [(0, z_and (m 24 10) x1)])) rfl).trans (z_R_ifd hK (c := z_and (m 24 10) x1 = 0) (p1 := 76) (p2 := 57) rfl rfl rfl (fun h1 => (z_R_run hK (n := 2) (g' := (m, 25, [(2, 0), (0, x1), (0, z_add x2 1), (0, z_and (m 24 10) x1)], [])) rfl).trans (rfl)) (fun h1 => (z_R_run hK (n := 2) (g' := (m, 59, [(2, 0), (0, x1), (0, x2), (0, z_and (m 24 10) x1)], [(0, z_and (m 24 10) x1), (2, 0)])) rfl).trans (z_R_call hK rfl rfl rfl rfl rfl))))
theorem p_giv_62  (m : z_M) (x1 : Int) (x2 : Int) (x3 : Int) (u : Int) : z_R 91 (m, 62, [(2, 0), (0, x1), (0, x2), (0, x3)], [(0, u), (2, 0)]) = (z_R 77 (m, 0, [(2, 0), (1, z_i2l u), (9, 0), (1, z_i2l (m 24 11)), (9, 0)], [])).bind fun qq => z_R 91 (qq.1, 74, [(2, 0), (0, x1), (0, x2), (0, x3)], qq.2.toList ++ []) :=
  have hK : kt_at 91 = kt_91 := rfl
  (z_R_run hK (n := 3) (g' := (m, 67, [(2, 0), (0, x1), (0, x2), (0, x3)], [(2, 24), (1, z_i2l u), (2, 0)])) rfl).trans ((z_R_run hK (n := 2) (g' := (m, 71, [(2, 0), (0, x1), (0, x2), (0, x3)], [(1, z_i2l (m 24 11)), (1, z_i2l u), (2, 0)])) rfl).trans (z_R_call hK rfl rfl rfl rfl rfl))
theorem p_giv_74  (m : z_M) (x1 : Int) (x2 : Int) (x3 : Int) : z_R 91 (m, 74, [(2, 0), (0, x1), (0, x2), (0, x3)], []) = some (m, some (0, x2)) :=
  have hK : kt_at 91 = kt_91 := rfl
  (z_R_run hK (n := 1) (g' := (m, 75, [(2, 0), (0, x1), (0, x2), (0, x3)], [(0, x2)])) rfl).trans (z_R_ret hK rfl rfl rfl)
theorem p_fst_0  (m : z_M) (b : Int) : z_R 93 (m, 0, [(0, b), (9, 0)], []) = z_R 93 (m, 2, [(0, b), (0, 0)], []) :=
  have hK : kt_at 93 = kt_93 := rfl
  (z_R_run hK (n := 2) (g' := (m, 2, [(0, b), (0, 0)], [])) rfl).trans (rfl)
theorem p_fst_2  (m : z_M) (x0 : Int) (x1 : Int) : z_R 93 (m, 2, [(0, x0), (0, x1)], []) = if 9 ≤ x1 then some (m, some (0, (-1))) else if z_and (z_shr x0 x1) 1 = 0 then z_R 93 (m, 2, [(0, x0), (0, z_add x1 1)], []) else some (m, some (0, x1)) :=
  have hK : kt_at 93 = kt_93 := rfl
  (z_R_run hK (n := 2) (g' := (m, 5, [(0, x0), (0, x1)], [(0, 9), (0, x1)])) rfl).trans (z_R_ifd hK (c := 9 ≤ x1) (p1 := 24) (p2 := 8) rfl rfl rfl (fun h1 => (z_R_run hK (n := 1) (g' := (m, 25, [(0, x0), (0, x1)], [(0, (-1))])) rfl).trans (z_R_ret hK rfl rfl rfl)) (fun h1 => (z_R_run hK (n := 5) (g' := (m, 13, [(0, x0), (0, x1)], [(0, z_and (z_shr x0 x1) 1)])) rfl).trans (z_R_ifd hK (c := z_and (z_shr x0 x1) 1 = 0) (p1 := 18) (p2 := 16) rfl rfl rfl (fun h2 => (z_R_run hK (n := 2) (g' := (m, 2, [(0, x0), (0, z_add x1 1)], [])) rfl).trans (rfl)) (fun h2 => (z_R_run hK (n := 1) (g' := (m, 17, [(0, x0), (0, x1)], [(0, x1)])) rfl).trans (z_R_ret hK rfl rfl rfl)))))
theorem p_ntz_0  (m : z_M) (a : Int) : z_R 224 (m, 0, [(0, a), (9, 0)], []) = if 0 < z_and (z_xor a (-1)) (z_sub a 1) then if z_and (z_xor a (-1)) (z_sub a 1) ≤ 65536 then if z_and (z_xor a (-1)) (z_sub a 1) ≤ 256 then if z_and (z_xor a (-1)) (z_sub a 1) ≤ 16 then if z_and (z_xor a (-1)) (z_sub a 1) ≤ 4 then some (m, some (0, z_add 1 (z_ush (z_and (z_xor a (-1)) (z_sub a 1)) 1))) else some (m, some (0, z_add 3 (z_ush (z_ush (z_and (z_xor a (-1)) (z_sub a 1)) 2) 1))) else if z_ush (z_and (z_xor a (-1)) (z_sub a 1)) 4 ≤ 4 then some (m, some (0, z_add 5 (z_ush (z_ush (z_and (z_xor a (-1)) (z_sub a 1)) 4) 1))) else some (m, some (0, z_add 7 (z_ush (z_ush (z_ush (z_and (z_xor a (-1)) (z_sub a 1)) 4) 2) 1))) else if z_ush (z_and (z_xor a (-1)) (z_sub a 1)) 8 ≤ 16 then if z_ush (z_and (z_xor a (-1)) (z_sub a 1)) 8 ≤ 4 then some (m, some (0, z_add 9 (z_ush (z_ush (z_and (z_xor a (-1)) (z_sub a 1)) 8) 1))) else some (m, some (0, z_add 11 (z_ush (z_ush (z_ush (z_and (z_xor a (-1)) (z_sub a 1)) 8) 2) 1))) else if z_ush (z_ush (z_and (z_xor a (-1)) (z_sub a 1)) 8) 4 ≤ 4 then some (m, some (0, z_add 13 (z_ush (z_ush (z_ush (z_and (z_xor a (-1)) (z_sub a 1)) 8) 4) 1))) else some (m, some (0, z_add 15 (z_ush (z_ush (z_ush (z_ush (z_and (z_xor a (-1)) (z_sub a 1)) 8) 4) 2) 1))) else if z_ush (z_and (z_xor a (-1)) (z_sub a 1)) 16 ≤ 256 then if z_ush (z_and (z_xor a (-1)) (z_sub a 1)) 16 ≤ 16 then if z_ush (z_and (z_xor a (-1)) (z_sub a 1)) 16 ≤ 4 then some (m, some (0, z_add 17 (z_ush (z_ush (z_and (z_xor a (-1)) (z_sub a 1)) 16) 1))) else some (m, some (0, z_add 19 (z_ush (z_ush (z_ush (z_and (z_xor a (-1)) (z_sub a 1)) 16) 2) 1))) else if z_ush (z_ush (z_and (z_xor a (-1)) (z_sub a 1)) 16) 4 ≤ 4 then some (m, some (0, z_add 21 (z_ush (z_ush (z_ush (z_and (z_xor a (-1)) (z_sub a 1)) 16) 4) 1))) else some (m, some (0, z_add 23 (z_ush (z_ush (z_ush (z_ush (z_and (z_xor a (-1)) (z_sub a 1)) 16) 4) 2) 1))) else if z_ush (z_ush (z_and (z_xor a (-1)) (z_sub a 1)) 16) 8 ≤ 16 then if z_ush (z_ush (z_and (z_xor a (-1)) (z_sub a 1)) 16) 8 ≤ 4 then some (m, some (0, z_add 25 (z_ush (z_ush (z_ush (z_and (z_xor a (-1)) (z_sub a 1)) 16) 8) 1))) else some (m, some (0, z_add 27 (z_ush (z_ush (z_ush (z_ush (z_and (z_xor a (-1)) (z_sub a 1)) 16) 8) 2) 1))) else if z_ush (z_ush (z_ush (z_and (z_xor a (-1)) (z_sub a 1)) 16) 8) 4 ≤ 4 then some (m, some (0, z_add 29 (z_ush (z_ush (z_ush (z_ush (z_and (z_xor a (-1)) (z_sub a 1)) 16) 8) 4) 1))) else some (m, some (0, z_add 31 (z_ush (z_ush (z_ush (z_ush (z_ush (z_and (z_xor a (-1)) (z_sub a 1)) 16) 8) 4) 2) 1))) else some (m, some (0, z_and (z_and (z_xor a (-1)) (z_sub a 1)) 32)) :=
  have hK : kt_at 224 = kt_224 := rfl
  (z_R_run hK (n := 9) (g' := (m, 9, [(0, z_and (z_xor a (-1)) (z_sub a 1)), (9, 0)], [(0, z_and (z_xor a (-1)) (z_sub a 1))])) rfl).trans (z_R_ifd hK (c := 0 < z_and (z_xor a (-1)) (z_sub a 1)) (p1 := 17) (p2 := 12) rfl rfl rfl (fun h1 => (z_R_run hK (n := 4) (g' := (m, 23, [(0, z_and (z_xor a (-1)) (z_sub a 1)), (0, 1)], [(0, 65536), (0, z_and (z_xor a (-1)) (z_sub a 1))])) rfl).trans (z_R_ifd hK (c := z_and (z_xor a (-1)) (z_sub a 1) ≤ 65536) (p1 := 34) (p2 := 26) rfl rfl rfl (fun h2 => (z_R_run hK (n := 2) (g' := (m, 38, [(0, z_and (z_xor a (-1)) (z_sub a 1)), (0, 1)], [(0, 256), (0, z_and (z_xor a (-1)) (z_sub a 1))])) rfl).trans (z_R_ifd hK (c := z_and (z_xor a (-1)) (z_sub a 1) ≤ 256) (p1 := 49) (p2 := 41) rfl rfl rfl (fun h3 => (z_R_run hK (n := 2) (g' := (m, 52, [(0, z_and (z_xor a (-1)) (z_sub a 1)), (0, 1)], [(0, 16), (0, z_and (z_xor a (-1)) (z_sub a 1))])) rfl).trans (z_R_ifd hK (c := z_and (z_xor a (-1)) (z_sub a 1) ≤ 16) (p1 := 62) (p2 := 55) rfl rfl rfl (fun h4 => (z_R_run hK (n := 2) (g' := (m, 64, [(0, z_and (z_xor a (-1)) (z_sub a 1)), (0, 1)], [(0, 4), (0, z_and (z_xor a (-1)) (z_sub a 1))])) rfl).trans (z_R_ifd hK (c := z_and (z_xor a (-1)) (z_sub a 1) ≤ 4) (p1 := 74) (p2 := 67) rfl rfl rfl (fun h5 => (z_R_run hK (n := 5) (g' := (m, 79, [(0, z_and (z_xor a (-1)) (z_sub a 1)), (0, 1)], [(0, z_add 1 (z_ush (z_and (z_xor a (-1)) (z_sub a 1)) 1))])) rfl).trans (z_R_ret hK rfl rfl rfl)) (fun h5 => (z_R_run hK (n := 10) (g' := (m, 79, [(0, z_ush (z_and (z_xor a (-1)) (z_sub a 1)) 2), (0, 3)], [(0, z_add 3 (z_ush (z_ush (z_and (z_xor a (-1)) (z_sub a 1)) 2) 1))])) rfl).trans (z_R_ret hK rfl rfl rfl)))) (fun h4 => (z_R_run hK (n := 7) (g' := (m, 64, [(0, z_ush (z_and (z_xor a (-1)) (z_sub a 1)) 4), (0, 5)], [(0, 4), (0, z_ush (z_and (z_xor a (-1)) (z_sub a 1)) 4)])) rfl).trans (z_R_ifd hK (c := z_ush (z_and (z_xor a (-1)) (z_sub a 1)) 4 ≤ 4) (p1 := 74) (p2 := 67) rfl rfl rfl (fun h6 => (z_R_run hK (n := 5) (g' := (m, 79, [(0, z_ush (z_and (z_xor a (-1)) (z_sub a 1)) 4), (0, 5)], [(0, z_add 5 (z_ush (z_ush (z_and (z_xor a (-1)) (z_sub a 1)) 4) 1))])) rfl).trans (z_R_ret hK rfl rfl rfl)) (fun h6 => (z_R_run hK (n := 10) (g' := (m, 79, [(0, z_ush (z_ush (z_and (z_xor a (-1)) (z_sub a 1)) 4) 2), (0, 7)], [(0, z_add 7 (z_ush (z_ush (z_ush (z_and (z_xor a (-1)) (z_sub a 1)) 4) 2) 1))])) rfl).trans (z_R_ret hK rfl rfl rfl)))))) (fun h3 => (z_R_run hK (n := 7) (g' := (m, 52, [(0, z_ush (z_and (z_xor a (-1)) (z_sub a 1)) 8), (0, 9)], [(0, 16), (0, z_ush (z_and (z_xor a (-1)) (z_sub a 1)) 8)])) rfl).trans (z_R_ifd hK (c := z_ush (z_and (z_xor a (-1)) (z_sub a 1)) 8 ≤ 16) (p1 := 62) (p2 := 55) rfl rfl rfl (fun h7 => (z_R_run hK (n := 2) (g' := (m, 64, [(0, z_ush (z_and (z_xor a (-1)) (z_sub a 1)) 8), (0, 9)], [(0, 4), (0, z_ush (z_and (z_xor a (-1)) (z_sub a 1)) 8)])) rfl).trans (z_R_ifd hK (c := z_ush (z_and (z_xor a (-1)) (z_sub a 1)) 8 ≤ 4) (p1 := 74) (p2 := 67) rfl rfl rfl (fun h8 => (z_R_run hK (n := 5) (g' := (m, 79, [(0, z_ush (z_and (z_xor a (-1)) (z_sub a 1)) 8), (0, 9)], [(0, z_add 9 (z_ush (z_ush (z_and (z_xor a (-1)) (z_sub a 1)) 8) 1))])) rfl).trans (z_R_ret hK rfl rfl rfl)) (fun h8 => (z_R_run hK (n := 10) (g' := (m, 79, [(0, z_ush (z_ush (z_and (z_xor a (-1)) (z_sub a 1)) 8) 2), (0, 11)], [(0, z_add 11 (z_ush (z_ush (z_ush (z_and (z_xor a (-1)) (z_sub a 1)) 8) 2) 1))])) rfl).trans (z_R_ret hK rfl rfl rfl)))) (fun h7 => (z_R_run hK (n := 7) (g' := (m, 64, [(0, z_ush (z_ush (z_and (z_xor a (-1)) (z_sub a 1)) 8) 4), (0, 13)], [(0, 4), (0, z_ush (z_ush (z_and (z_xor a (-1)) (z_sub a 1)) 8) 4)])) rfl).trans (z_R_ifd hK (c := z_ush (z_ush (z_and (z_xor a (-1)) (z_sub a 1)) 8) 4 ≤ 4) (p1 := 74) (p2 := 67) rfl rfl rfl (fun h9 => (z_R_run hK (n := 5) (g' := (m, 79, [(0, z_ush (z_ush (z_and (z_xor a (-1)) (z_sub a 1)) 8) 4), (0, 13)], [(0, z_add 13 (z_ush (z_ush (z_ush (z_and (z_xor a (-1)) (z_sub a 1)) 8) 4) 1))])) rfl).trans (z_R_ret hK rfl rfl rfl)) (fun h9 => (z_R_run hK (n := 10) (g' := (m, 79, [(0, z_ush (z_ush (z_ush (z_and (z_xor a (-1)) (z_sub a 1)) 8) 4) 2), (0, 15)], [(0, z_add 15 (z_ush (z_ush (z_ush (z_ush (z_and (z_xor a (-1)) (z_sub a 1)) 8) 4) 2) 1))])) rfl).trans (z_R_ret hK rfl rfl rfl)))))))) (fun h2 => (z_R_run hK (n := 7) (g' := (m, 38, [(0, z_ush (z_and (z_xor a (-1)) (z_sub a 1)) 16), (0, 17)], [(0, 256), (0, z_ush (z_and (z_xor a (-1)) (z_sub a 1)) 16)])) rfl).trans (z_R_ifd hK (c := z_ush (z_and (z_xor a (-1)) (z_sub a 1)) 16 ≤ 256) (p1 := 49) (p2 := 41) rfl rfl rfl (fun h10 => (z_R_run hK (n := 2) (g' := (m, 52, [(0, z_ush (z_and (z_xor a (-1)) (z_sub a 1)) 16), (0, 17)], [(0, 16), (0, z_ush (z_and (z_xor a (-1)) (z_sub a 1)) 16)])) rfl).trans (z_R_ifd hK (c := z_ush (z_and (z_xor a (-1)) (z_sub a 1)) 16 ≤ 16) (p1 := 62) (p2 := 55) rfl rfl rfl (fun h11 => (z_R_run hK (n := 2) (g' := (m, 64, [(0, z_ush (z_and (z_xor a (-1)) (z_sub a 1)) 16), (0, 17)], [(0, 4), (0, z_ush (z_and (z_xor a (-1)) (z_sub a 1)) 16)])) rfl).trans (z_R_ifd hK (c := z_ush (z_and (z_xor a (-1)) (z_sub a 1)) 16 ≤ 4) (p1 := 74) (p2 := 67) rfl rfl rfl (fun h12 => (z_R_run hK (n := 5) (g' := (m, 79, [(0, z_ush (z_and (z_xor a (-1)) (z_sub a 1)) 16), (0, 17)], [(0, z_add 17 (z_ush (z_ush (z_and (z_xor a (-1)) (z_sub a 1)) 16) 1))])) rfl).trans (z_R_ret hK rfl rfl rfl)) (fun h12 => (z_R_run hK (n := 10) (g' := (m, 79, [(0, z_ush (z_ush (z_and (z_xor a (-1)) (z_sub a 1)) 16) 2), (0, 19)], [(0, z_add 19 (z_ush (z_ush (z_ush (z_and (z_xor a (-1)) (z_sub a 1)) 16) 2) 1))])) rfl).trans (z_R_ret hK rfl rfl rfl)))) (fun h11 => (z_R_run hK (n := 7) (g' := (m, 64, [(0, z_ush (z_ush (z_and (z_xor a (-1)) (z_sub a 1)) 16) 4), (0, 21)], [(0, 4), (0, z_ush (z_ush (z_and (z_xor a (-1)) (z_sub a 1)) 16) 4)])) rfl).trans (z_R_ifd hK (c := z_ush (z_ush (z_and (z_xor a (-1)) (z_sub a 1)) 16) 4 ≤ 4) (p1 := 74) (p2 := 67) rfl rfl rfl (fun h13 => (z_R_run hK (n := 5) (g' := (m, 79, [(0, z_ush (z_ush (z_and (z_xor a (-1)) (z_sub a 1)) 16) 4), (0, 21)], [(0, z_add 21 (z_ush (z_ush (z_ush (z_and (z_xor a (-1)) (z_sub a 1)) 16) 4) 1))])) rfl).trans (z_R_ret hK rfl rfl rfl)) (fun h13 => (z_R_run hK (n := 10) (g' := (m, 79, [(0, z_ush (z_ush (z_ush (z_and (z_xor a (-1)) (z_sub a 1)) 16) 4) 2), (0, 23)], [(0, z_add 23 (z_ush (z_ush (z_ush (z_ush (z_and (z_xor a (-1)) (z_sub a 1)) 16) 4) 2) 1))])) rfl).trans (z_R_ret hK rfl rfl rfl)))))) (fun h10 => (z_R_run hK (n := 7) (g' := (m, 52, [(0, z_ush (z_ush (z_and (z_xor a (-1)) (z_sub a 1)) 16) 8), (0, 25)], [(0, 16), (0, z_ush (z_ush (z_and (z_xor a (-1)) (z_sub a 1)) 16) 8)])) rfl).trans (z_R_ifd hK (c := z_ush (z_ush (z_and (z_xor a (-1)) (z_sub a 1)) 16) 8 ≤ 16) (p1 := 62) (p2 := 55) rfl rfl rfl (fun h14 => (z_R_run hK (n := 2) (g' := (m, 64, [(0, z_ush (z_ush (z_and (z_xor a (-1)) (z_sub a 1)) 16) 8), (0, 25)], [(0, 4), (0, z_ush (z_ush (z_and (z_xor a (-1)) (z_sub a 1)) 16) 8)])) rfl).trans (z_R_ifd hK (c := z_ush (z_ush (z_and (z_xor a (-1)) (z_sub a 1)) 16) 8 ≤ 4) (p1 := 74) (p2 := 67) rfl rfl rfl (fun h15 => (z_R_run hK (n := 5) (g' := (m, 79, [(0, z_ush (z_ush (z_and (z_xor a (-1)) (z_sub a 1)) 16) 8), (0, 25)], [(0, z_add 25 (z_ush (z_ush (z_ush (z_and (z_xor a (-1)) (z_sub a 1)) 16) 8) 1))])) rfl).trans (z_R_ret hK rfl rfl rfl)) (fun h15 => (z_R_run hK (n := 10) (g' := (m, 79, [(0, z_ush (z_ush (z_ush (z_and (z_xor a (-1)) (z_sub a 1)) 16) 8) 2), (0, 27)], [(0, z_add 27 (z_ush (z_ush (z_ush (z_ush (z_and (z_xor a (-1)) (z_sub a 1)) 16) 8) 2) 1))])) rfl).trans (z_R_ret hK rfl rfl rfl)))) (fun h14 => (z_R_run hK (n := 7) (g' := (m, 64, [(0, z_ush (z_ush (z_ush (z_and (z_xor a (-1)) (z_sub a 1)) 16) 8) 4), (0, 29)], [(0, 4), (0, z_ush (z_ush (z_ush (z_and (z_xor a (-1)) (z_sub a 1)) 16) 8) 4)])) rfl).trans (z_R_ifd hK (c := z_ush (z_ush (z_ush (z_and (z_xor a (-1)) (z_sub a 1)) 16) 8) 4 ≤ 4) (p1 := 74) (p2 := 67) rfl rfl rfl (fun h16 => (z_R_run hK (n := 5) (g' := (m, 79, [(0, z_ush (z_ush (z_ush (z_and (z_xor a (-1)) (z_sub a 1)) 16) 8) 4), (0, 29)], [(0, z_add 29 (z_ush (z_ush (z_ush (z_ush (z_and (z_xor a (-1)) (z_sub a 1)) 16) 8) 4) 1))])) rfl).trans (z_R_ret hK rfl rfl rfl)) (fun h16 => (z_R_run hK (n := 10) (g' := (m, 79, [(0, z_ush (z_ush (z_ush (z_ush (z_and (z_xor a (-1)) (z_sub a 1)) 16) 8) 4) 2), (0, 31)], [(0, z_add 31 (z_ush (z_ush (z_ush (z_ush (z_ush (z_and (z_xor a (-1)) (z_sub a 1)) 16) 8) 4) 2) 1))])) rfl).trans (z_R_ret hK rfl rfl rfl)))))))))) (fun h1 => (z_R_run hK (n := 3) (g' := (m, 16, [(0, z_and (z_xor a (-1)) (z_sub a 1)), (9, 0)], [(0, z_and (z_and (z_xor a (-1)) (z_sub a 1)) 32)])) rfl).trans (z_R_ret hK rfl rfl rfl)))
theorem p_tco_0  (m : z_M) (n : Int) : z_R 226 (m, 0, [(2, 251), (0, n), (9, 0)], []) = if 1 ≤ n ∧ n ≤ 100 then z_R 226 (z_up m 251 11 0, 19, [(2, 251), (0, n), (0, 0)], []) else some (z_up m 251 11 0, some (0, (-1))) :=
  have hK : kt_at 226 = kt_226 := rfl
  (z_R_run hK (n := 6) (g' := (z_up m 251 11 0, 9, [(2, 251), (0, n), (9, 0)], [(0, 100), (0, 1), (0, n)])) rfl).trans (z_R_cif hK rfl rfl rfl rfl rfl (t_ifin _ _ _ _) (fun h1 => (z_R_run hK (n := 3) (g' := (z_up m 251 11 0, 19, [(2, 251), (0, n), (0, 0)], [])) rfl).trans (rfl)) (fun h1 => (z_R_run hK (n := 2) (g' := (z_up m 251 11 0, 16, [(2, 251), (0, n), (9, 0)], [(0, (-1))])) rfl).trans (z_R_ret hK rfl rfl rfl)))
theorem p_tco_19  (m : z_M) (x1 : Int) (x2 : Int) : z_R 226 (m, 19, [(2, 251), (0, x1), (0, x2)], []) = if 9 < x2 then some (m, some (0, (-2))) else (z_R 219 (m, 0, [(2, 251)], [])).bind fun qq => z_R 226 (qq.1, 29, [(2, 251), (0, x1), (0, x2)], qq.2.toList ++ []) :=
  have hK : kt_at 226 = kt_226 := rfl
  (z_R_run hK (n := 2) (g' := (m, 22, [(2, 251), (0, x1), (0, x2)], [(0, 9), (0, x2)])) rfl).trans (z_R_ifd hK (c := 9 < x2) (p1 := 54) (p2 := 25) rfl rfl rfl (fun h1 => (z_R_run hK (n := 1) (g' := (m, 56, [(2, 251), (0, x1), (0, x2)], [(0, (-2))])) rfl).trans (z_R_ret hK rfl rfl rfl)) (fun h1 => (z_R_run hK (n := 1) (g' := (m, 26, [(2, 251), (0, x1), (0, x2)], [(2, 251)])) rfl).trans (z_R_call hK rfl rfl rfl rfl rfl)))
theorem p_tco_29  (m : z_M) (x1 : Int) (x2 : Int) : z_R 226 (m, 29, [(2, 251), (0, x1), (0, x2)], []) = (z_R 221 (z_up m 264 36 x2, 0, [(2, 251), (0, x1), (9, 0), (9, 0)], [])).bind fun qq => z_R 226 (qq.1, 42, [(2, 251), (0, x1), (0, x2)], qq.2.toList ++ []) :=
  have hK : kt_at 226 = kt_226 := rfl
  (z_R_run hK (n := 2) (g' := (m, 33, [(2, 251), (0, x1), (0, x2)], [(2, 264)])) rfl).trans ((z_R_run hK (n := 5) (g' := (z_up m 264 36 x2, 39, [(2, 251), (0, x1), (0, x2)], [(0, x1), (2, 251)])) rfl).trans (z_R_call hK rfl rfl rfl rfl rfl))
theorem p_tco_42  (m : z_M) (x1 : Int) (x2 : Int) (u : Int) : z_R 226 (m, 42, [(2, 251), (0, x1), (0, x2)], [(0, u)]) = if u = x1 then some (m, some (0, x2)) else z_R 226 (m, 19, [(2, 251), (0, x1), (0, z_add x2 1)], []) :=
  have hK : kt_at 226 = kt_226 := rfl
  (z_R_run hK (n := 1) (g' := (m, 43, [(2, 251), (0, x1), (0, x2)], [(0, x1), (0, u)])) rfl).trans (z_R_ifnd hK (c := u = x1) (p1 := 48) (p2 := 46) rfl rfl rfl (fun h1 => (z_R_run hK (n := 2) (g' := (m, 19, [(2, 251), (0, x1), (0, z_add x2 1)], [])) rfl).trans (rfl)) (fun h1 => (z_R_run hK (n := 1) (g' := (m, 47, [(2, 251), (0, x1), (0, x2)], [(0, x2)])) rfl).trans (z_R_ret hK rfl rfl rfl)))
theorem p_tgi_0  (m : z_M) : z_R 220 (m, 0, [(2, 251), (9, 0)], []) = (z_R 219 (z_up m 251 11 0, 0, [(2, 251)], [])).bind fun qq => z_R 220 (qq.1, 9, [(2, 251), (9, 0)], qq.2.toList ++ []) :=
  have hK : kt_at 220 = kt_220 := rfl
  (z_R_run hK (n := 4) (g' := (z_up m 251 11 0, 6, [(2, 251), (9, 0)], [(2, 251)])) rfl).trans (z_R_call hK rfl rfl rfl rfl rfl)
theorem p_tgi_9  (m : z_M) : z_R 220 (m, 9, [(2, 251), (9, 0)], []) = (z_R 221 (m, 0, [(2, 251), (0, 100), (9, 0), (9, 0)], [])).bind fun qq => z_R 220 (qq.1, 15, [(2, 251), (9, 0)], qq.2.toList ++ []) :=
  have hK : kt_at 220 = kt_220 := rfl
  (z_R_run hK (n := 2) (g' := (m, 12, [(2, 251), (9, 0)], [(0, 100), (2, 251)])) rfl).trans (z_R_call hK rfl rfl rfl rfl rfl)
theorem p_tgi_15  (m : z_M) (u : Int) : z_R 220 (m, 15, [(2, 251), (9, 0)], [(0, u)]) = if u = 100 then some (m, some (0, (-2))) else (z_R 223 (z_up m 251 10 0, 0, [(2, 251), (2, 264), (9, 0), (9, 0)], [])).bind fun qq => z_R 220 (qq.1, 39, [(2, 251), (0, u)], qq.2.toList ++ [(2, 251)]) :=
  have hK : kt_at 220 = kt_220 := rfl
  (z_R_run hK (n := 3) (g' := (m, 19, [(2, 251), (0, u)], [(0, 100), (0, u)])) rfl).trans (z_R_ifnd hK (c := u = 100) (p1 := 25) (p2 := 22) rfl rfl rfl (fun h1 => (z_R_run hK (n := 7) (g' := (z_up m 251 10 0, 36, [(2, 251), (0, u)], [(2, 264), (2, 251), (2, 251)])) rfl).trans (z_R_call hK rfl rfl rfl rfl rfl)) (fun h1 => (z_R_run hK (n := 1) (g' := (m, 24, [(2, 251), (0, u)], [(0, (-2))])) rfl).trans (z_R_ret hK rfl rfl rfl)))
theorem p_tgi_39  (m : z_M) (x1 : Int) (u : Int) : z_R 220 (m, 39, [(2, 251), (0, x1)], [(0, u), (2, 251)]) = (z_R 222 (m, 0, [(2, 251), (9, 0), (9, 0)], [])).bind fun qq => z_R 220 (qq.1, 43, [(2, 251), (0, x1)], qq.2.toList ++ [(0, u), (2, 251)]) :=
  have hK : kt_at 220 = kt_220 := rfl
  (z_R_run hK (n := 1) (g' := (m, 40, [(2, 251), (0, x1)], [(2, 251), (0, u), (2, 251)])) rfl).trans (z_R_call hK rfl rfl rfl rfl rfl)
theorem p_tgi_43  (m : z_M) (x1 : Int) (s0 : Int) (u : Int) : z_R 220 (m, 43, [(2, 251), (0, x1)], [(0, u), (0, s0), (2, 251)]) = (z_R 224 (m, 0, [(0, z_and s0 u), (9, 0)], [])).bind fun qq => z_R 220 (qq.1, 47, [(2, 251), (0, x1)], qq.2.toList ++ [(2, 251)]) :=
  have hK : kt_at 220 = kt_220 := rfl
  (z_R_run hK (n := 1) (g' := (m, 44, [(2, 251), (0, x1)], [(0, z_and s0 u), (2, 251)])) rfl).trans (z_R_call hK rfl rfl rfl rfl rfl)
theorem p_tgi_47  (m : z_M) (x1 : Int) (u : Int) : z_R 220 (m, 47, [(2, 251), (0, x1)], [(0, u), (2, 251)]) = (z_R 210 (m, 0, [(2, 251), (1, z_i2l u), (9, 0)], [])).bind fun qq => z_R 220 (qq.1, 51, [(2, 251), (0, x1)], qq.2.toList ++ []) :=
  have hK : kt_at 220 = kt_220 := rfl
  (z_R_run hK (n := 1) (g' := (m, 48, [(2, 251), (0, x1)], [(1, z_i2l u), (2, 251)])) rfl).trans (z_R_call hK rfl rfl rfl rfl rfl)
theorem p_tgi_51  (m : z_M) (x1 : Int) : z_R 220 (m, 51, [(2, 251), (0, x1)], []) = (z_R 210 (m, 0, [(2, 251), (1, z_i2l (m 251 30)), (9, 0)], [])).bind fun qq => z_R 220 (qq.1, 60, [(2, 251), (0, x1)], qq.2.toList ++ []) :=
  have hK : kt_at 220 = kt_220 := rfl
  (z_R_run hK (n := 4) (g' := (m, 57, [(2, 251), (0, x1)], [(1, z_i2l (m 251 30)), (2, 251)])) rfl).trans (z_R_call hK rfl rfl rfl rfl rfl)
theorem p_tgi_60  (m : z_M) (x1 : Int) : z_R 220 (m, 60, [(2, 251), (0, x1)], []) = some (m, some (0, z_add x1 1)) :=
  have hK : kt_at 220 = kt_220 := rfl
  (z_R_run hK (n := 3) (g' := (m, 63, [(2, 251), (0, x1)], [(0, z_add x1 1)])) rfl).trans (z_R_ret hK rfl rfl rfl)
end
section
/-! STANDING: sets of rooms as bits; coldest and gives, of what both are in -/
theorem b_one {v : BitVec 32} {x : Nat} (hx : x < 32) (h : ¬ (v.sshiftRight x &&& 1#32) = 0#32) : (1#32 <<< x) &&& v = 1#32 <<< x := by
  have hb : v.getLsbD x = true := by
    cases hc : v.getLsbD x with
    | true => rfl
    | false =>
      refine absurd (BitVec.eq_of_getLsbD_eq fun i hi => ?_) h
      rw [BitVec.getLsbD_and, BitVec.getLsbD_one, BitVec.getLsbD_zero]
      by_cases e : i = 0
      · subst e
        rw [BitVec.getLsbD_sshiftRight, Nat.add_zero, if_pos hx, hc]
        simp
      · simp [e]
  refine BitVec.eq_of_getLsbD_eq fun i hi => ?_
  rw [BitVec.getLsbD_and, BitVec.getLsbD_shiftLeft, BitVec.getLsbD_one]
  by_cases e : i = x
  · rw [e, hb, Bool.and_true]
  · by_cases e2 : i < x
    · simp [e2]
    · have : ¬ i - x = 0 := by omega
      simp [this]
theorem b_amt {x : Nat} (hx : x < 9) : (((Int32.ofInt (x : Int)) &&& 31).toBitVec.smod 32).toNat = x := by
  have : ∀ x, x < 9 → (((Int32.ofInt ((x : Nat) : Int)) &&& 31).toBitVec.smod 32).toNat = x := by decide +kernel
  exact this x hx
theorem z_one {R : Int} {x : Nat} (hx : x < 9) (h : ¬ z_and (z_shr R (x : Int)) 1 = 0) : z_and (z_shl 1 (x : Int)) R = z_shl 1 (x : Int) := by
  have h' : ¬ ((Int32.ofInt R).toBitVec.sshiftRight x &&& 1#32) = 0#32 := fun z => h (by
    unfold z_and z_shr
    rw [Int32.ofInt_toInt]
    have e : (Int32.ofInt R >>> (Int32.ofInt (x : Int) &&& 31)) &&& Int32.ofInt 1 = 0 := by
      apply Int32.toBitVec_inj.mp
      rw [Int32.toBitVec_and, Int32.toBitVec_shiftRight, BitVec.sshiftRight_eq', b_amt hx]
      exact z
    rw [e]
    rfl)
  have k := b_one (by omega) h'
  unfold z_and z_shl
  rw [Int32.ofInt_toInt]
  have e : (Int32.ofInt 1 <<< (Int32.ofInt (x : Int) &&& 31)) &&& Int32.ofInt R = Int32.ofInt 1 <<< (Int32.ofInt (x : Int) &&& 31) := by
    apply Int32.toBitVec_inj.mp
    rw [Int32.toBitVec_and, Int32.toBitVec_shiftLeft, BitVec.shiftLeft_eq', b_amt hx]
    exact k
  rw [e]
theorem z_and_or {a b c : Int} : z_and (z_or a b) c = z_or (z_and a c) (z_and b c) := by
  unfold z_and z_or
  rw [Int32.ofInt_toInt, Int32.ofInt_toInt, Int32.ofInt_toInt]
  have e : (Int32.ofInt a ||| Int32.ofInt b) &&& Int32.ofInt c = (Int32.ofInt a &&& Int32.ofInt c) ||| (Int32.ofInt b &&& Int32.ofInt c) := by
    apply Int32.toBitVec_inj.mp
    rw [Int32.toBitVec_and, Int32.toBitVec_or, Int32.toBitVec_or, Int32.toBitVec_and, Int32.toBitVec_and]
    exact BitVec.and_or_distrib_right
  rw [e]
theorem z_or0 {b : Int} (h : z_w b = b) : z_or b 0 = b := by
  unfold z_or
  have e : Int32.ofInt b ||| Int32.ofInt 0 = Int32.ofInt b := by
    apply Int32.toBitVec_inj.mp
    rw [Int32.toBitVec_or]
    exact BitVec.or_zero
  rw [e]
  exact h
theorem z_or_w {a b : Int} : z_w (z_or a b) = z_or a b := by
  unfold z_w z_or
  rw [Int32.ofInt_toInt]
/-- a set of rooms as bits -/
def s_bt (P : Nat → Bool) : Nat → Nat → Int → Int
  | 0, _, b => b
  | f + 1, x, b => s_bt P f (x + 1) (if P x = true then z_or b (z_shl 1 (x : Int)) else b)
theorem s_bt_cg {P Q : Nat → Bool} : ∀ (f x : Nat) (b : Int), (∀ y, x ≤ y → y < x + f → P y = Q y) → s_bt P f x b = s_bt Q f x b := by
  intro f
  induction f with
  | zero => intro x b h; rfl
  | succ f ih =>
    intro x b h
    unfold s_bt
    rw [h x (Nat.le_refl _) (by omega)]
    exact ih (x + 1) _ (fun y h1 h2 => h y (by omega) (by omega))
theorem s_bt_and {P : Nat → Bool} {R : Int} (hP : ∀ x, x < 9 → P x = true → ¬ z_and (z_shr R (x : Int)) 1 = 0) : ∀ (f x : Nat) (b : Int), x + f = 9 → z_and b R = b → z_and (s_bt P f x b) R = s_bt P f x b := by
  intro f
  induction f with
  | zero => intro x b hx h; exact h
  | succ f ih =>
    intro x b hx h
    unfold s_bt
    refine ih (x + 1) _ (by omega) ?_
    by_cases c : P x = true
    · rw [if_pos c, z_and_or, h, z_one (by omega) (hP x (by omega) c)]
    · rw [if_neg c]; exact h
/-- rooms without ICE; rooms with ICE -/
def s_G (w h : Nat) (A : Nat → Int) : Int := s_bt (fun k => decide (¬ u_hs (w : Int) (h : Int) (k : Int) = 0 ∧ A k = 0)) 9 0 0
def s_F (w h : Nat) (A : Nat → Int) : Int := s_bt (fun k => decide (¬ u_hs (w : Int) (h : Int) (k : Int) = 0 ∧ 0 < A k)) 9 0 0
theorem hr_k_gb {w h : Int} {n : Nat} (hn : n ≤ 5) : ∀ (f x : Nat) (A : Nat → Int) (g fb fm : Int), x + f = 9 → (hr_k w h n f x A g fb fm).2.1 = s_bt (fun k => decide (¬ u_hs w h (k : Int) = 0 ∧ A k = 0)) f x g := by
  intro f
  induction f with
  | zero => intro x A g fb fm hx; rfl
  | succ f ih =>
    intro x A g fb fm hx
    unfold hr_k s_bt
    by_cases c : u_hs w h (x : Int) = 0
    · rw [if_pos c, if_neg (fun z => (of_decide_eq_true z).1 c)]
      exact ih _ _ _ _ _ (by omega)
    rw [if_neg c]
    by_cases c2 : A x = 0
    · rw [if_pos c2, if_pos (decide_eq_true ⟨c, c2⟩), ih _ _ _ _ _ (by omega)]
      refine s_bt_cg f (x + 1) _ (fun y h1 h2 => ?_)
      rw [hr_p_hi (by omega) n 0 _ _ _ (by omega), hr_st_18 (by omega)]
    · rw [if_neg c2, if_neg (fun z => c2 (of_decide_eq_true z).2)]
      exact ih _ _ _ _ _ (by omega)
theorem hr_K_gb {w h : Nat} {heat price : Int} {ml : hr_M} {wm : Nat → Int} {n : Nat} (hn : n ≤ 5) {A : Nat → Int} : (hr_K w h heat price ml wm n A).2.1 = s_G w h (hr_A w h heat price ml wm n A) := by
  have e : ∀ k, k < 9 → hr_A w h heat price ml wm n A k = hr_F (w : Int) (h : Int) 9 0 (hr_y w h (hr_me (w : Int) (h : Int) heat ml wm n A) h (hr_o wm price n 0 A)) k := fun k hk => by
    unfold hr_A hr_K
    rw [u_up_ne (by omega), hr_k_hi hn (Or.inl (by omega))]
  unfold hr_K s_G
  rw [hr_k_gb hn 9 0 _ 0 0 0 (by decide)]
  exact s_bt_cg 9 0 0 (fun y _ h2 => by rw [e y (by omega)])
/-- for how many hours they stand, at most N -/
def s_sta (w h n : Nat) (heat price : Int) (cs : List Int) (D : Nat → Int) (F : Int) (N : Nat) : Nat → Nat → (Nat → Int) → Int
  | 0, _, _ => (N : Int)
  | f + 1, x, B => if z_and (s_G w h (hr_A w h heat price (c_ml cs) (wmD D (B 35)) n B)) F = 0 then s_sta w h n heat price cs D F N f (x + 1) (hr_A w h heat price (c_ml cs) (wmD D (B 35)) n B) else (x : Int)
section
variable {w h n : Nat} {heat price : Int} {D A : Nat → Int} {c : Nat} {U : Nat → Nat → Int} {kn : Nat → Int} {KS : Nat → Nat → Int} {cs : List Int} {m : z_M}
theorem C_flo {B : Nat → Int} (h8 : m 3 8 = (w : Int)) (h9 : m 3 9 = (h : Int)) (hB : cS m 18 n = B) : ∀ (f x : Nat) (b : Int), x + f = 9 → z_R 92 (m, 4, [(2, 3), (2, 18), (0, b), (0, (x : Int))], []) = some (m, some (0, s_bt (fun k => decide (¬ u_hs (w : Int) (h : Int) (k : Int) = 0 ∧ 0 < B k)) f x b)) := by
  intro f
  induction f with
  | zero =>
    intro x b hx
    rw [p_flo_4, if_pos (by omega)]
    rfl
  | succ f ih =>
    intro x b hx
    have eB : m 19 x = B x := by
      rw [← hB]
      exact (cS_at1 (s := 18) (by omega)).symm
    rw [p_flo_4, if_neg (show ¬ (9 : Int) ≤ (x : Int) by omega), h8, h9, z_add_eq (x := (x : Int)) (y := 1) (by omega) (by omega), tc1, Int.toNat_natCast, eB]
    unfold s_bt
    by_cases c1 : u_hs (w : Int) (h : Int) (x : Int) = 0
    · rw [if_neg (not_not_intro c1), if_neg (fun z => (of_decide_eq_true z).1 c1)]
      exact ih (x + 1) b (by omega)
    · rw [if_pos c1]
      by_cases c2 : B x ≤ 0
      · rw [if_pos c2, if_neg (fun z => by have := (of_decide_eq_true z).2; omega)]
        exact ih (x + 1) b (by omega)
      · rw [if_neg c2, if_pos (decide_eq_true ⟨c1, by omega⟩)]
        exact ih (x + 1) _ (by omega)
theorem C_sta3 {F0 : Int} {N : Nat} (hN6 : N ≤ 1000) (hN : w_N w h n heat D) {x4 : Int} (hx4 : ∀ g, z_and g x4 = z_and g F0) {R : Int} : ∀ (f x : Nat) (m : z_M) (B : Nat → Int), x + f = N → C_is w h n heat price D A c U kn KS cs m → m 3 10 = R → cS m 18 n = B → hr_ok n B → 0 ≤ B 35 → B 35 + (f : Int) ≤ 2147483647 → z_w (m 24 6) = m 24 6 → z_w (m 24 9) = m 24 9 → ∃ m1, z_R 97 (m, 15, [(2, 24), (2, 18), (0, (N : Int)), (0, R), (0, x4), (0, (x : Int))], []) = some (m1, some (0, s_sta w h n heat price cs D F0 N f x B)) ∧ C_is w h n heat price D A c U kn KS cs m1 ∧ z_w (m1 24 6) = m1 24 6 ∧ z_w (m1 24 9) = m1 24 9 := by
  intro f
  induction f with
  | zero =>
    intro x m B hx hi hR hB hok ht ht2 k6 k9
    rw [p_st3_15, if_pos (by omega)]
    exact ⟨m, rfl, hi, k6, k9⟩
  | succ f ih =>
    intro x m B hx hi hR hB hok ht ht2 k6 k9
    obtain ⟨m1, a1, a2, a3, a4, a5, a6, a7, a8, a9⟩ := c_hour z_st_18 hN.1.1 hN.1.2.1 (price := price) ⟨hN.1.2.2, hN.2.1, c_ml_ok cs, hN.2.2⟩ m (C_cfg hi) hB hok ht (by omega) k6 k9
    rw [hR] at a1
    have a1 : z_R 68 (m, 0, [(2, 24), (2, 18), (0, R), (9, 0), (9, 0), (9, 0)], []) = some (m1, none) := a1
    have hC1 : C_is w h n heat price D A c U kn KS cs m1 := C_fr hi fun p k hk => by
      have hk' := hk
      unfold C_hit at hk'
      have hk' := of_decide_eq_true hk'
      exact a9.of (by (try unfold r_LHs); (repeat' (first | exact trivial | refine z_of_c ?_ ?_)) <;> omega)
    have l6 : z_w (m1 24 6) = m1 24 6 := by rw [a3, z_add_w]; exact z_w_w
    have l9 : z_w (m1 24 9) = m1 24 9 := by rw [a6, z_add_w]; exact z_w_w
    rw [p_st3_15, if_neg (by omega), a1, zb_n, p_st3_27, a7, hx4, hr_K_gb hN.1.2.2, z_add_eq (by omega) (by omega), tc1]
    unfold s_sta
    by_cases c1 : z_and (s_G w h (hr_A w h heat price (c_ml cs) (wmD D (B 35)) n B)) F0 = 0
    · rw [if_pos c1, if_pos c1]
      have hok' := hr_A_ok (price := price) hN.1.1 hN.1.2.1 hN.1.2.2 hN.2.1 (c_ml_ok cs) (hN.2.2 (B 35) ht) hok
      have e35 : hr_A w h heat price (c_ml cs) (wmD D (B 35)) n B 35 = B 35 + 1 := by rw [hr_A_35 hN.1.1 hN.1.2.1 hN.1.2.2, z_add_eq (by omega) (by omega)]
      exact ih (x + 1) m1 _ (by omega) hC1 ((a9.of (by (try unfold r_LHs); (repeat' (first | exact trivial | refine z_of_c ?_ ?_)) <;> omega)).trans hR) a2 hok' (by rw [e35]; omega) (by rw [e35]; omega) l6 l9
    · rw [if_neg c1, if_neg c1]
      exact ⟨m1, rfl, hC1, l6, l9⟩
/-- standing, of the scratch State -/
theorem C_stand {B : Nat → Int} (hN : w_N w h n heat D) (hok : hr_ok n B) (ht : 0 ≤ B 35 ∧ B 35 ≤ 1073741824) (hi : C_is w h n heat price D A c U kn KS cs m) (hB : cS m 18 n = B) (k6 : z_w (m 24 6) = m 24 6) (k9 : z_w (m 24 9) = m 24 9) {N : Nat} (hN6 : N ≤ 1000) : ∃ m1, z_R 96 (m, 0, [(2, 24), (2, 18), (0, (N : Int))], []) = some (m1, some (0, s_sta w h n heat price cs D (s_F w h B) N N 0 B)) ∧ C_is w h n heat price D A c U kn KS cs m1 ∧ z_w (m1 24 6) = m1 24 6 ∧ z_w (m1 24 9) = m1 24 9 := by
  have e := C_flo (w := w) (h := h) (n := n) hi.1.1 hi.1.2.1 hB 9 0 0 (by decide)
  have e : z_R 92 (m, 4, [(2, 3), (2, 18), (0, 0), (0, 0)], []) = some (m, some (0, s_F w h B)) := e
  have ea : z_and (s_F w h B) (m 3 10) = s_F w h B := s_bt_and (fun x hx hP z => (of_decide_eq_true hP).1 ((hi.1.2.2.2.2.2.1 x hx).mp z)) 9 0 0 (by decide) (by
    unfold z_and
    have : Int32.ofInt 0 &&& Int32.ofInt (m 3 10) = Int32.ofInt 0 := by
      apply Int32.toBitVec_inj.mp
      rw [Int32.toBitVec_and]
      exact BitVec.zero_and
    rw [this]
    rfl)
  obtain ⟨m1, a1, a2, a3⟩ := C_sta3 (F0 := s_F w h B) (x4 := z_and (s_F w h B) (m 3 10)) hN6 hN (fun g => by rw [ea]) (R := m 3 10) N 0 m B (by omega) hi rfl hB hok ht.1 (by omega) k6 k9
  have a1 : z_R 97 (m, 15, [(2, 24), (2, 18), (0, (N : Int)), (0, m 3 10), (0, z_and (s_F w h B) (m 3 10)), (0, 0)], []) = some (m1, some (0, s_sta w h n heat price cs D (s_F w h B) N N 0 B)) := a1
  rw [p_st2_0, p_st3_0, p_flo_0, e, zb_v, p_st3_8, a1, zb_v, p_st2_13]
  exact ⟨m1, rfl, a2, a3⟩
/-! the reference -/
theorem R_ice {B : Nat → Int} (h1 : m 251 1 = (w : Int)) (h2 : m 251 2 = (h : Int)) (hB : rS m 252 n = B) : ∀ (f x : Nat) (b : Int), x + f = 9 → z_w b = b → z_R 222 (m, 4, [(2, 251), (0, b), (0, (x : Int))], []) = some (m, some (0, s_bt (fun k => decide (¬ u_hs (w : Int) (h : Int) (k : Int) = 0 ∧ 0 < B k)) f x b)) := by
  intro f
  induction f with
  | zero =>
    intro x b hx hb
    rw [q_ice_4, if_pos (by omega)]
    rfl
  | succ f ih =>
    intro x b hx hb
    have eB : m 252 x = B x := by
      rw [← hB]
      exact (rS_at (by omega) (a_vis_lo (by omega))).symm
    rw [q_ice_4, if_neg (show ¬ (9 : Int) ≤ (x : Int) by omega), h1, h2, z_add_eq (x := (x : Int)) (y := 1) (by omega) (by omega), tc1, Int.toNat_natCast, eB, z_or0 hb]
    unfold s_bt
    by_cases c1 : u_hs (w : Int) (h : Int) (x : Int) = 0
    · rw [if_neg (not_not_intro c1), if_neg (fun z => (of_decide_eq_true z).1 c1)]
      exact ih (x + 1) b (by omega) hb
    · rw [if_pos c1]
      by_cases c2 : B x ≤ 0
      · rw [if_pos c2, if_neg (fun z => by have := (of_decide_eq_true z).2; omega)]
        exact ih (x + 1) b (by omega) hb
      · rw [if_neg c2, if_pos (decide_eq_true ⟨c1, by omega⟩)]
        exact ih (x + 1) _ (by omega) z_or_w
theorem R_tha {B : Nat → Int} (h1 : m 251 1 = (w : Int)) (h2 : m 251 2 = (h : Int)) (hB : rS m 264 n = B) : ∀ (f x : Nat) (b : Int), x + f = 9 → z_w b = b → z_R 223 (m, 4, [(2, 251), (2, 264), (0, b), (0, (x : Int))], []) = some (m, some (0, s_bt (fun k => decide (¬ u_hs (w : Int) (h : Int) (k : Int) = 0 ∧ B k = 0)) f x b)) := by
  intro f
  induction f with
  | zero =>
    intro x b hx hb
    rw [q_tha_4, if_pos (by omega)]
    rfl
  | succ f ih =>
    intro x b hx hb
    have eB : m 264 x = B x := by
      rw [← hB]
      exact (rS_at (by omega) (a_vis_lo (by omega))).symm
    rw [q_tha_4, if_neg (show ¬ (9 : Int) ≤ (x : Int) by omega), h1, h2, z_add_eq (x := (x : Int)) (y := 1) (by omega) (by omega), tc1, Int.toNat_natCast, eB, z_or0 hb]
    unfold s_bt
    by_cases c1 : u_hs (w : Int) (h : Int) (x : Int) = 0
    · rw [if_neg (not_not_intro c1), if_neg (fun z => (of_decide_eq_true z).1 c1)]
      exact ih (x + 1) b (by omega) hb
    · rw [if_pos c1]
      by_cases c2 : B x = 0
      · rw [if_pos c2, if_pos (decide_eq_true ⟨c1, c2⟩)]
        exact ih (x + 1) _ (by omega) z_or_w
      · rw [if_neg c2, if_neg (fun z => c2 (of_decide_eq_true z).2)]
        exact ih (x + 1) b (by omega) hb
theorem R_sta1 {F : Int} {N : Nat} (hN6 : N ≤ 1000) (hN : w_N w h n heat D) : ∀ (f x : Nat) (m : z_M) (B : Nat → Int), x + f = N → R_is w h n heat price D A c U kn KS cs m → rS m 264 n = B → hr_ok n B → 0 ≤ B 35 → B 35 + (f : Int) ≤ 2147483647 → ∃ m1, z_R 221 (m, 7, [(2, 251), (0, (N : Int)), (0, F), (0, (x : Int))], []) = some (m1, some (0, s_sta w h n heat price cs D F N f x B)) ∧ z_same (r_LHs 264) m m1 := by
  intro f
  induction f with
  | zero =>
    intro x m B hx hi hB hok ht ht2
    rw [q_sta_7, if_pos (by omega)]
    exact ⟨m, rfl, z_same.rf⟩
  | succ f ih =>
    intro x m B hx hi hB hok ht ht2
    obtain ⟨m1, a1, a2, a3, a4, a5, a6, a7⟩ := r_hour (a := 264) z_A_264 (Or.inr rfl) hN.1.1 hN.1.2.1 (price := price) ⟨hN.1.2.2, hN.2.1, c_ml_ok cs, hN.2.2⟩ m (R_cfg hi) hB hok ht (by omega)
    have a1 : z_R 208 (m, 0, [(2, 251), (2, 264), (9, 0), (9, 0), (9, 0)], []) = some (m1, none) := a1
    have s1 : z_same (r_LHs 264) m m1 := a7.subo (by (try unfold r_LHs); (repeat' (first | exact trivial | refine z_sbo_c ?_ ?_)) <;> (intro k h1 h2; first | exact z_on_h rfl (by omega) (by omega) | exact z_on_t (z_on_h rfl (by omega) (by omega)) | exact z_on_t (z_on_t (z_on_h rfl (by omega) (by omega))) | exact z_on_t (z_on_t (z_on_t (z_on_h rfl (by omega) (by omega)))) | exact z_on_t (z_on_t (z_on_t (z_on_t (z_on_h rfl (by omega) (by omega))))) | exact z_on_t (z_on_t (z_on_t (z_on_t (z_on_t (z_on_h rfl (by omega) (by omega)))))) | exact z_on_t (z_on_t (z_on_t (z_on_t (z_on_t (z_on_t (z_on_h rfl (by omega) (by omega))))))) | exact z_on_t (z_on_t (z_on_t (z_on_t (z_on_t (z_on_t (z_on_t (z_on_h rfl (by omega) (by omega)))))))) | exact z_on_t (z_on_t (z_on_t (z_on_t (z_on_t (z_on_t (z_on_t (z_on_t (z_on_h rfl (by omega) (by omega))))))))) | exact z_on_t (z_on_t (z_on_t (z_on_t (z_on_t (z_on_t (z_on_t (z_on_t (z_on_t (z_on_h rfl (by omega) (by omega)))))))))) | exact z_on_t (z_on_t (z_on_t (z_on_t (z_on_t (z_on_t (z_on_t (z_on_t (z_on_t (z_on_t (z_on_h rfl (by omega) (by omega))))))))))) | exact z_on_t (z_on_t (z_on_t (z_on_t (z_on_t (z_on_t (z_on_t (z_on_t (z_on_t (z_on_t (z_on_t (z_on_h rfl (by omega) (by omega)))))))))))) | exact z_on_t (z_on_t (z_on_t (z_on_t (z_on_t (z_on_t (z_on_t (z_on_t (z_on_t (z_on_t (z_on_t (z_on_t (z_on_h rfl (by omega) (by omega)))))))))))))))
    have hR1 := R_off264 hi s1
    have hv := R_tha (w := w) (h := h) (n := n) hR1.1.1 hR1.1.2.1 a2 9 0 0 (by decide) (by decide +kernel)
    have hv : z_R 223 (m1, 4, [(2, 251), (2, 264), (0, 0), (0, 0)], []) = some (m1, some (0, s_G w h (hr_A w h heat price (c_ml cs) (wmD D (B 35)) n B))) := hv
    rw [q_sta_7, if_neg (by omega), a1, zb_n, q_sta_20, q_tha_0, hv, zb_v, q_sta_28, z_add_eq (by omega) (by omega), tc1]
    unfold s_sta
    by_cases c1 : z_and (s_G w h (hr_A w h heat price (c_ml cs) (wmD D (B 35)) n B)) F = 0
    · rw [if_pos c1, if_pos c1]
      have hok' := hr_A_ok (price := price) hN.1.1 hN.1.2.1 hN.1.2.2 hN.2.1 (c_ml_ok cs) (hN.2.2 (B 35) ht) hok
      have e35 : hr_A w h heat price (c_ml cs) (wmD D (B 35)) n B 35 = B 35 + 1 := by rw [hr_A_35 hN.1.1 hN.1.2.1 hN.1.2.2, z_add_eq (by omega) (by omega)]
      obtain ⟨m2, b1, b2⟩ := ih (x + 1) m1 _ (by omega) hR1 a2 hok' (by rw [e35]; omega) (by rw [e35]; omega)
      exact ⟨m2, b1, s1.tr b2⟩
    · rw [if_neg c1, if_neg c1]
      exact ⟨m1, rfl, s1⟩
/-- standing, of the State that was laid down -/
theorem R_stand {B : Nat → Int} (hN : w_N w h n heat D) (hok : hr_ok n B) (ht : 0 ≤ B 35 ∧ B 35 ≤ 1073741824) (hi : R_is w h n heat price D A c U kn KS cs m) (hB : rS m 264 n = B) {N : Nat} (hN6 : N ≤ 1000) : ∃ m1, z_R 221 (m, 0, [(2, 251), (0, (N : Int)), (9, 0), (9, 0)], []) = some (m1, some (0, s_sta w h n heat price cs D (s_F w h A) N N 0 B)) ∧ R_is w h n heat price D A c U kn KS cs m1 := by
  have hv := R_ice (w := w) (h := h) (n := n) hi.1.1 hi.1.2.1 hi.2.2.1 9 0 0 (by decide) (by decide +kernel)
  have hv : z_R 222 (m, 4, [(2, 251), (0, 0), (0, 0)], []) = some (m, some (0, s_F w h A)) := hv
  obtain ⟨m1, a1, a2⟩ := R_sta1 (F := s_F w h A) hN6 hN N 0 m B (by omega) hi hB hok ht.1 (by omega)
  have a1 : z_R 221 (m, 7, [(2, 251), (0, (N : Int)), (0, s_F w h A), (0, 0)], []) = some (m1, some (0, s_sta w h n heat price cs D (s_F w h A) N N 0 B)) := a1
  rw [q_sta_0, q_ice_0, hv, zb_v, q_sta_4, a1]
  exact ⟨m1, rfl, R_off264 hi a2⟩
/-! coldest -/
def o_col (w h n : Nat) (heat price : Int) (cs : List Int) (D A : Nat → Int) (N : Nat) : Nat → Nat → Int
  | 0, _ => -2
  | f + 1, x => if s_sta w h n heat price cs D (s_F w h A) N N 0 (u_up A 36 (x : Int)) = (N : Int) then (x : Int) else o_col w h n heat price cs D A N f (x + 1)
def o_coldest (w h n : Nat) (heat price : Int) (cs : List Int) (D A : Nat → Int) (a : Int) : Int := if ¬ (1 ≤ a ∧ a ≤ 100) then -1 else o_col w h n heat price cs D A a.toNat 10 0
theorem s_F_36 {v : Int} : s_F w h (u_up A 36 v) = s_F w h A := s_bt_cg 9 0 0 (fun y _ h2 => by rw [u_up_ne (by omega)])
theorem C_col1 (hN : w_N w h n heat D) (hok : hr_ok n A) (ht : 0 ≤ A 35 ∧ A 35 ≤ 1073741824) {N : Nat} (hN6 : N ≤ 100) : ∀ (f x : Nat) (m : z_M), x + f = 10 → C_is w h n heat price D A c U kn KS cs m → z_w (m 24 6) = m 24 6 → z_w (m 24 9) = m 24 9 → ∃ m1, z_R 95 (m, 15, [(2, 0), (0, (N : Int)), (0, (x : Int))], []) = some (m1, some (0, o_col w h n heat price cs D A N f x)) ∧ C_is w h n heat price D A c U kn KS cs m1 := by
  intro f
  induction f with
  | zero =>
    intro x m hx hi k6 k9
    rw [p_col_15, if_pos (by omega)]
    exact ⟨m, rfl, hi⟩
  | succ f ih =>
    intro x m hx hi k6 k9
    obtain ⟨m2, b1, b2, b3⟩ := c_become z_st_12 z_st_18 (by decide) m
    have b1 : z_R 61 (m, 0, [(2, 18), (2, 12)], []) = some (m2, none) := b1
    have hC2 : C_is w h n heat price D A c U kn KS cs m2 := C_fr hi fun p k hk => by
      have hk' := hk
      unfold C_hit at hk'
      have hk' := of_decide_eq_true hk'
      exact b3.of (by (try unfold r_LHs); (repeat' (first | exact trivial | refine z_of_c ?_ ?_)) <;> omega)
    have hA2 : cS m2 18 n = A := (cS_cR b2).trans hi.2.2.1
    have hC3 : C_is w h n heat price D A c U kn KS cs (z_up m2 18 8 (x : Int)) := C_upn hC2 (by decide)
    have hA3 : cS (z_up m2 18 8 (x : Int)) 18 n = u_up A 36 (x : Int) := by rw [cS_frost, hA2]
    have j6 : (z_up m2 18 8 (x : Int)) 24 6 = m 24 6 := (zu_p (by decide)).trans (b3.of (by (try unfold r_LHs); (repeat' (first | exact trivial | refine z_of_c ?_ ?_)) <;> omega))
    have j9 : (z_up m2 18 8 (x : Int)) 24 9 = m 24 9 := (zu_p (by decide)).trans (b3.of (by (try unfold r_LHs); (repeat' (first | exact trivial | refine z_of_c ?_ ?_)) <;> omega))
    rw [p_col_15, if_neg (by omega), b1, zb_n, p_col_32]
    generalize z_up m2 18 8 (x : Int) = m3 at hC3 hA3 j6 j9 ⊢
    have hok3 : hr_ok n (u_up A 36 (x : Int)) := hr_ok_up hok (by decide) (fun _ => by omega) (fun p h1 h2 => by have := hN.1.2.2; omega)
    have h35 : u_up A 36 (x : Int) 35 = A 35 := u_up_ne (by decide)
    obtain ⟨m4, c1, c2, c3, c4⟩ := C_stand hN hok3 (by rw [h35]; exact ht) hC3 hA3 (by rw [j6]; exact k6) (by rw [j9]; exact k9) (N := N) (by omega)
    rw [s_F_36] at c1
    rw [c1, zb_v, p_col_52, z_add_eq (by omega) (by omega), tc1]
    unfold o_col
    by_cases z : s_sta w h n heat price cs D (s_F w h A) N N 0 (u_up A 36 (x : Int)) = (N : Int)
    · rw [if_pos z, if_pos z]
      exact ⟨m4, rfl, c2⟩
    · rw [if_neg z, if_neg z]
      exact ih (x + 1) m4 (by omega) c2 c3 c4
theorem C_coldest (hi : C_is w h n heat price D A c U kn KS cs m) (hN : w_N w h n heat D) (hok : hr_ok n A) (ht : 0 ≤ A 35 ∧ A 35 ≤ 1073741824) (k6 : z_w (m 24 6) = m 24 6) (k9 : z_w (m 24 9) = m 24 9) (a : Int) : ∃ m1, z_R 95 (m, 0, [(2, 0), (0, a), (9, 0)], []) = some (m1, some (0, o_coldest w h n heat price cs D A a)) ∧ C_is w h n heat price D A c U kn KS cs m1 := by
  rw [p_col_0]
  by_cases c1 : a < 1
  · have e : o_coldest w h n heat price cs D A a = -1 := if_pos (by omega)
    rw [if_pos c1, e]
    exact ⟨m, rfl, hi⟩
  rw [if_neg c1]
  by_cases c2 : a ≤ 100
  · have e : o_coldest w h n heat price cs D A a = o_col w h n heat price cs D A a.toNat 10 0 := if_neg (by omega)
    obtain ⟨N, rfl⟩ : ∃ N : Nat, a = (N : Int) := ⟨a.toNat, by omega⟩
    rw [Int.toNat_natCast] at e
    rw [if_pos c2, e]
    exact C_col1 hN hok ht (by omega) 10 0 m (by decide) hi k6 k9
  · have e : o_coldest w h n heat price cs D A a = -1 := if_pos (by omega)
    rw [if_neg c2, e]
    exact ⟨m, rfl, hi⟩
theorem R_col1 (hN : w_N w h n heat D) (hok : hr_ok n A) (ht : 0 ≤ A 35 ∧ A 35 ≤ 1073741824) {N : Nat} (hN6 : N ≤ 100) : ∀ (f x : Nat) (m : z_M), x + f = 10 → R_is w h n heat price D A c U kn KS cs m → ∃ m1, z_R 226 (m, 19, [(2, 251), (0, (N : Int)), (0, (x : Int))], []) = some (m1, some (0, o_col w h n heat price cs D A N f x)) ∧ R_is w h n heat price D A c U kn KS cs m1 := by
  intro f
  induction f with
  | zero =>
    intro x m hx hi
    rw [p_tco_19, if_pos (by omega)]
    exact ⟨m, rfl, hi⟩
  | succ f ih =>
    intro x m hx hi
    obtain ⟨m2, b1, b2, b3⟩ := R_lt hi
    have hR3 : R_is w h n heat price D A c U kn KS cs (z_up m2 264 36 (x : Int)) := R_upn b2 (by decide)
    have hA3 : rS (z_up m2 264 36 (x : Int)) 264 n = u_up A 36 (x : Int) := by rw [rS_up (by decide) (a_vis_hi (by decide)), b3]
    rw [p_tco_19, if_neg (by omega), b1, zb_n, p_tco_29]
    generalize z_up m2 264 36 (x : Int) = m3 at hR3 hA3 ⊢
    have hok3 : hr_ok n (u_up A 36 (x : Int)) := hr_ok_up hok (by decide) (fun _ => by omega) (fun p h1 h2 => by have := hN.1.2.2; omega)
    have h35 : u_up A 36 (x : Int) 35 = A 35 := u_up_ne (by decide)
    obtain ⟨m4, c1, c2⟩ := R_stand hN hok3 (by rw [h35]; exact ht) hR3 hA3 (N := N) (by omega)
    rw [c1, zb_v, p_tco_42, z_add_eq (by omega) (by omega), tc1]
    unfold o_col
    by_cases z : s_sta w h n heat price cs D (s_F w h A) N N 0 (u_up A 36 (x : Int)) = (N : Int)
    · rw [if_pos z, if_pos z]
      exact ⟨m4, rfl, c2⟩
    · rw [if_neg z, if_neg z]
      exact ih (x + 1) m4 (by omega) c2
theorem R_coldest (hi : R_is w h n heat price D A c U kn KS cs m) (hN : w_N w h n heat D) (hok : hr_ok n A) (ht : 0 ≤ A 35 ∧ A 35 ≤ 1073741824) (a : Int) : ∃ m1, z_R 226 (m, 0, [(2, 251), (0, a), (9, 0)], []) = some (m1, some (0, o_coldest w h n heat price cs D A a)) ∧ R_is w h n heat price D A c U kn KS cs m1 := by
  have hu := R_upn (p0 := 251) (k0 := 11) (v := 0) hi (by decide)
  rw [p_tco_0]
  by_cases c1 : 1 ≤ a ∧ a ≤ 100
  · have e : o_coldest w h n heat price cs D A a = o_col w h n heat price cs D A a.toNat 10 0 := if_neg (not_not_intro c1)
    obtain ⟨N, rfl⟩ : ∃ N : Nat, a = (N : Int) := ⟨a.toNat, by omega⟩
    rw [Int.toNat_natCast] at e
    rw [if_pos c1, e]
    exact R_col1 hN hok ht (by omega) 10 0 _ (by decide) hu
  · have e : o_coldest w h n heat price cs D A a = -1 := if_pos c1
    rw [if_neg c1, e]
    exact ⟨_, rfl, hu⟩
/-! gives -/
theorem s_sta_x {F : Int} {N : Nat} : ∀ (f x : Nat) (B : Nat → Int), x + f = N → s_sta w h n heat price cs D F N f x B = (N : Int) ∨ ((x : Int) ≤ s_sta w h n heat price cs D F N f x B ∧ s_sta w h n heat price cs D F N f x B < (N : Int)) := by
  intro f
  induction f with
  | zero => intro x B hx; exact Or.inl rfl
  | succ f ih =>
    intro x B hx
    unfold s_sta
    by_cases c1 : z_and (s_G w h (hr_A w h heat price (c_ml cs) (wmD D (B 35)) n B)) F = 0
    · rw [if_pos c1]
      rcases ih (x + 1) _ (by omega) with z | z
      · exact Or.inl z
      · exact Or.inr ⟨by omega, z.2⟩
    · rw [if_neg c1]
      exact Or.inr ⟨by omega, by omega⟩
def o_gv (s : Int) : Int := if s = 100 then -2 else s + 1
theorem p_fstn : ∀ (f x : Nat) (b : Int) (m : z_M), x + f = 9 → ∃ v, z_R 93 (m, 2, [(0, b), (0, (x : Int))], []) = some (m, some (0, v)) := by
  intro f
  induction f with
  | zero =>
    intro x b m hx
    rw [p_fst_2, if_pos (by omega)]
    exact ⟨_, rfl⟩
  | succ f ih =>
    intro x b m hx
    rw [p_fst_2, if_neg (by omega), z_add_eq (by omega) (by omega), tc1]
    by_cases c1 : z_and (z_shr b (x : Int)) 1 = 0
    · rw [if_pos c1]; exact ih (x + 1) b m (by omega)
    · rw [if_neg c1]; exact ⟨_, rfl⟩
theorem C_giv1 {F : Int} (hN : w_N w h n heat D) : ∀ (f x : Nat) (v3 : z_V) (m : z_M) (B : Nat → Int), x + f = 100 → C_is w h n heat price D A c U kn KS cs m → cS m 18 n = B → hr_ok n B → 0 ≤ B 35 → B 35 + (f : Int) ≤ 2147483647 → z_w (m 24 6) = m 24 6 → z_w (m 24 9) = m 24 9 → ∃ m1, z_R 91 (m, 25, [(2, 0), (0, F), (0, ((x + 1 : Nat) : Int)), v3], []) = some (m1, some (0, o_gv (s_sta w h n heat price cs D F 100 f x B))) ∧ C_is w h n heat price D A c U kn KS cs m1 := by
  intro f
  induction f with
  | zero =>
    intro x v3 m B hx hi hB hok ht ht2 k6 k9
    rw [p_giv_25, if_pos (by omega)]
    exact ⟨m, rfl, hi⟩
  | succ f ih =>
    intro x v3 m B hx hi hB hok ht ht2 k6 k9
    obtain ⟨m1, a1, a2, a3, a4, a5, a6, a7, a8, a9⟩ := c_hour z_st_18 hN.1.1 hN.1.2.1 (price := price) ⟨hN.1.2.2, hN.2.1, c_ml_ok cs, hN.2.2⟩ m (C_cfg hi) hB hok ht (by omega) k6 k9
    have a1 : z_R 68 (m, 0, [(2, 24), (2, ((18 : Nat) : Int)), (0, m 3 10), (9, 0), (9, 0), (9, 0)], []) = some (m1, none) := a1
    have g1 : z_R 67 (m, 0, [(2, 24), (2, ((18 : Nat) : Int)), (0, 1), (9, 0)], []) = some (m1, none) := by
      rw [s_goOn_0 z_st_18 m 1 ⟨by decide, by decide⟩, s_goOn_2 z_st_18 m 1 0 ⟨by decide, by decide⟩ ⟨by decide, by decide⟩, if_neg (show ¬ (1 : Int) ≤ 0 by decide), a1, zb_n, s_goOn_19 z_st_18 m1 1 0 ⟨by decide, by decide⟩, s_goOn_2 z_st_18 m1 1 (0 + 1) ⟨by decide, by decide⟩ ⟨by decide, by decide⟩, if_pos (show (1 : Int) ≤ 0 + 1 by decide)]
    have g1 : z_R 67 (m, 0, [(2, 24), (2, 18), (0, 1), (9, 0)], []) = some (m1, none) := g1
    have hC1 : C_is w h n heat price D A c U kn KS cs m1 := C_fr hi fun p k hk => by
      have hk' := hk
      unfold C_hit at hk'
      have hk' := of_decide_eq_true hk'
      exact a9.of (by (try unfold r_LHs); (repeat' (first | exact trivial | refine z_of_c ?_ ?_)) <;> omega)
    rw [p_giv_25, if_neg (by omega), g1, zb_n, p_giv_43, a7, hr_K_gb hN.1.2.2, z_add_eq (by omega) (by omega), tc1]
    unfold s_sta
    by_cases c1 : z_and (s_G w h (hr_A w h heat price (c_ml cs) (wmD D (B 35)) n B)) F = 0
    · rw [if_pos c1, if_pos c1]
      have hok' := hr_A_ok (price := price) hN.1.1 hN.1.2.1 hN.1.2.2 hN.2.1 (c_ml_ok cs) (hN.2.2 (B 35) ht) hok
      have e35 : hr_A w h heat price (c_ml cs) (wmD D (B 35)) n B 35 = B 35 + 1 := by rw [hr_A_35 hN.1.1 hN.1.2.1 hN.1.2.2, z_add_eq (by omega) (by omega)]
      exact ih (x + 1) _ m1 _ (by omega) hC1 a2 hok' (by rw [e35]; omega) (by rw [e35]; omega) (by rw [a3, z_add_w]; exact z_w_w) (by rw [a6, z_add_w]; exact z_w_w)
    · obtain ⟨v, hv⟩ := p_fstn 9 0 (z_and (s_G w h (hr_A w h heat price (c_ml cs) (wmD D (B 35)) n B)) F) m1 (by decide)
      have hv : z_R 93 (m1, 2, [(0, z_and (s_G w h (hr_A w h heat price (c_ml cs) (wmD D (B 35)) n B)) F), (0, 0)], []) = some (m1, some (0, v)) := hv
      have eo : o_gv (x : Int) = ((x + 1 : Nat) : Int) := (if_neg (by omega)).trans (by omega)
      rw [if_neg c1, if_neg c1, p_fst_0, hv, zb_v, p_giv_62, c_tell2, zb_n, p_giv_74, eo]
      exact ⟨_, rfl, C_tell2 hC1 _ _⟩
theorem C_gives (hi : C_is w h n heat price D A c U kn KS cs m) (hN : w_N w h n heat D) (hok : hr_ok n A) (ht : 0 ≤ A 35 ∧ A 35 ≤ 1073741824) (k6 : z_w (m 24 6) = m 24 6) (k9 : z_w (m 24 9) = m 24 9) : ∃ m1, z_R 91 (m, 0, [(2, 0), (9, 0), (9, 0), (9, 0)], []) = some (m1, some (0, o_gv (s_sta w h n heat price cs D (s_F w h A) 100 100 0 A))) ∧ C_is w h n heat price D A c U kn KS cs m1 := by
  obtain ⟨m2, b1, b2, b3⟩ := c_become z_st_12 z_st_18 (by decide) m
  have b1 : z_R 61 (m, 0, [(2, 18), (2, 12)], []) = some (m2, none) := b1
  have hC2 : C_is w h n heat price D A c U kn KS cs m2 := C_fr hi fun p k hk => by
    have hk' := hk
    unfold C_hit at hk'
    have hk' := of_decide_eq_true hk'
    exact b3.of (by (try unfold r_LHs); (repeat' (first | exact trivial | refine z_of_c ?_ ?_)) <;> omega)
  have hA2 : cS m2 18 n = A := (cS_cR b2).trans hi.2.2.1
  have j6 : m2 24 6 = m 24 6 := b3.of (by (try unfold r_LHs); (repeat' (first | exact trivial | refine z_of_c ?_ ?_)) <;> omega)
  have j9 : m2 24 9 = m 24 9 := b3.of (by (try unfold r_LHs); (repeat' (first | exact trivial | refine z_of_c ?_ ?_)) <;> omega)
  have e := C_flo (w := w) (h := h) (n := n) hC2.1.1 hC2.1.2.1 hA2 9 0 0 (by decide)
  have e : z_R 92 (m2, 4, [(2, 3), (2, 18), (0, 0), (0, 0)], []) = some (m2, some (0, s_F w h A)) := e
  obtain ⟨m3, c1, c2⟩ := C_giv1 (F := s_F w h A) hN 100 0 (9, 0) m2 A (by decide) hC2 hA2 hok ht.1 (by omega) (by rw [j6]; exact k6) (by rw [j9]; exact k9)
  have c1 : z_R 91 (m2, 25, [(2, 0), (0, s_F w h A), (0, 1), (9, 0)], []) = some (m3, some (0, o_gv (s_sta w h n heat price cs D (s_F w h A) 100 100 0 A))) := c1
  rw [p_giv_0, b1, zb_n, p_giv_11, p_flo_0, e, zb_v, p_giv_22, c1]
  exact ⟨m3, rfl, c2⟩
theorem p_ntzn (m : z_M) (a : Int) : ∃ v, z_R 224 (m, 0, [(0, a), (9, 0)], []) = some (m, some (0, v)) := by
  rw [p_ntz_0]
  (repeat' split) <;> exact ⟨_, rfl⟩
theorem R_gives (hi : R_is w h n heat price D A c U kn KS cs m) (hN : w_N w h n heat D) (hok : hr_ok n A) (ht : 0 ≤ A 35 ∧ A 35 ≤ 1073741824) : ∃ m1, z_R 220 (m, 0, [(2, 251), (9, 0)], []) = some (m1, some (0, o_gv (s_sta w h n heat price cs D (s_F w h A) 100 100 0 A))) ∧ R_is w h n heat price D A c U kn KS cs m1 := by
  have hu := R_upn (p0 := 251) (k0 := 11) (v := 0) hi (by decide)
  rw [p_tgi_0]
  generalize z_up m 251 11 0 = m0 at hu ⊢
  obtain ⟨m2, b1, b2, b3⟩ := R_lt hu
  obtain ⟨m3, c1, c2⟩ := R_stand hN hok ht b2 b3 (N := 100) (by decide)
  have c1 : z_R 221 (m2, 0, [(2, 251), (0, 100), (9, 0), (9, 0)], []) = some (m3, some (0, s_sta w h n heat price cs D (s_F w h A) 100 100 0 A)) := c1
  have hx := s_sta_x (w := w) (h := h) (n := n) (heat := heat) (price := price) (cs := cs) (D := D) (F := s_F w h A) 100 0 A rfl
  rw [b1, zb_n, p_tgi_9, c1, zb_v, p_tgi_15]
  generalize s_sta w h n heat price cs D (s_F w h A) 100 100 0 A = s at hx ⊢
  by_cases z : s = 100
  · have e : o_gv s = -2 := if_pos z
    rw [if_pos z, e]
    exact ⟨m3, rfl, c2⟩
  · have e : o_gv s = s + 1 := if_neg z
    have hx : (0 : Int) ≤ s ∧ s < 100 := by
      rcases hx with y | y
      · exact absurd y z
      · exact y
    have hR4 := R_upn (p0 := 251) (k0 := 10) (v := 0) c2 (by decide)
    have k10 : (z_up m3 251 10 0) 251 10 = ((0 : Nat) : Int) := zu_self
    rw [if_neg z, e]
    generalize z_up m3 251 10 0 = m4 at hR4 k10 ⊢
    obtain ⟨v1, h1⟩ := q_thaq 9 0 0 m4 (by decide)
    have h1 : z_R 223 (m4, 4, [(2, 251), (2, 264), (0, 0), (0, 0)], []) = some (m4, some (0, v1)) := h1
    obtain ⟨v2, h2⟩ := q_iceq 9 0 0 m4 (by decide)
    have h2 : z_R 222 (m4, 4, [(2, 251), (0, 0), (0, 0)], []) = some (m4, some (0, v2)) := h2
    obtain ⟨v3, h3⟩ := p_ntzn m4 (z_and v1 v2)
    rw [q_tha_0, h1, zb_v, p_tgi_39, q_ice_0, h2, zb_v, p_tgi_43, h3, zb_v, p_tgi_47, t_tell (j := 0) _ _ (by decide) k10, zb_n, p_tgi_51, t_tell (j := 1) _ _ (by decide) zu_self, zb_n, p_tgi_60, z_add_eq (by omega) (by omega)]
    exact ⟨_, rfl, R_upn (R_upn (R_upn (R_upn hR4 (by decide)) (by decide)) (by decide)) (by decide)⟩
end
theorem core_coldest : l_rel2 Rel_C (773, 112, 95, 1, false, 784, 115, 226) := by
  intro M1 M2 M3 σ σ1 σ2 as v1 v2 C1 C2 ρ1 ρ2 ha hR hh hM1 hC1 hp1 hE1 hC2 hp2 hE2
  obtain ⟨a, rfl⟩ := as_one ha
  have hE1 : z_R 95 (z_m σ, 0, [(2, 0), (0, a.toInt), (9, 0)], []) = some (z_m σ1, some (0, v1.toInt)) := z_R_iff.mpr hE1
  have hE2 : z_R 226 (z_m σ1, 0, [(2, 251), (0, a.toInt), (9, 0)], []) = some (z_m σ2, some (0, v2.toInt)) := z_R_iff.mpr hE2
  have hT := T_two (y1 := 95) (y2 := 226) (by decide +kernel) (by decide +kernel) hC1 hC2 hp1 hp2 hR.1
  obtain ⟨w, h, n, heat, price, D, A, c, U, kn, KS, cs, cC, cR, cW⟩ := hR.2
  obtain ⟨b1, b2, -, -, hok, b35, -, b7⟩ := core_b hh hM1 cR
  have hN : w_N w h n heat D := ⟨b1, b2, b7⟩
  have kk := core_24 hh
  have f1 := R_off2_ok (y := 95) (by decide +kernel) hC1 hp1
  have f2 := C_off_ok (y := 226) (by decide +kernel) hC2 hp2
  have cR1 := R_fr cR f1
  have z := core_do cR1 (fun q => C_fr q f2) (C_coldest cC hN hok b35 kk.1 kk.2 a.toInt) (fun q => R_coldest q hN hok b35 a.toInt) hE1 hE2
  exact ⟨⟨hT, Core_mk z.1.1 z.1.2 cW⟩, fun _ => z.2⟩
theorem core_gives : l_rel2 Rel_C (729, 104, 91, 0, false, 734, 107, 220) := by
  intro M1 M2 M3 σ σ1 σ2 as v1 v2 C1 C2 ρ1 ρ2 ha hR hh hM1 hC1 hp1 hE1 hC2 hp2 hE2
  obtain rfl := as_nil ha
  have hE1 : z_R 91 (z_m σ, 0, [(2, 0), (9, 0), (9, 0), (9, 0)], []) = some (z_m σ1, some (0, v1.toInt)) := z_R_iff.mpr hE1
  have hE2 : z_R 220 (z_m σ1, 0, [(2, 251), (9, 0)], []) = some (z_m σ2, some (0, v2.toInt)) := z_R_iff.mpr hE2
  have hT := T_two (y1 := 91) (y2 := 220) (by decide +kernel) (by decide +kernel) hC1 hC2 hp1 hp2 hR.1
  obtain ⟨w, h, n, heat, price, D, A, c, U, kn, KS, cs, cC, cR, cW⟩ := hR.2
  obtain ⟨b1, b2, -, -, hok, b35, -, b7⟩ := core_b hh hM1 cR
  have hN : w_N w h n heat D := ⟨b1, b2, b7⟩
  have kk := core_24 hh
  have f1 := R_off2_ok (y := 91) (by decide +kernel) hC1 hp1
  have f2 := C_off_ok (y := 220) (by decide +kernel) hC2 hp2
  have cR1 := R_fr cR f1
  have z := core_do cR1 (fun q => C_fr q f2) (C_gives cC hN hok b35 kk.1 kk.2) (fun q => R_gives q hN hok b35) hE1 hE2
  exact ⟨⟨hT, Core_mk z.1.1 z.1.2 cW⟩, fun _ => z.2⟩
end
section
/-! STRETCHES of burden, with bounds done -/
theorem b_bur_0  (m : z_M) : z_R 115 (m, 0, [(2, 0), (9, 0), (9, 0), (9, 0), (9, 0)], []) = z_R 115 (m, 6, [(2, 0), (0, (-1)), (0, (-1)), (0, 0), (9, 0)], []) :=
  have hK : kt_at 115 = kt_115 := rfl
  (z_R_run hK (n := 6) (g' := (m, 6, [(2, 0), (0, (-1)), (0, (-1)), (0, 0), (9, 0)], [])) rfl).trans (rfl)
theorem b_bur_6  (m : z_M) (x1 : Int) (x2 : Int) (x3 : Int) (v4 : z_V) (h_n : 0 ≤ m 3 11 ∧ m 3 11 ≤ 5) : z_R 115 (m, 6, [(2, 0), (0, x1), (0, x2), (0, x3), v4], []) = if m 3 11 ≤ x3 then if x2 = (-1) then some (m, some (0, (-2))) else (z_R 61 (m, 0, [(2, 18), (2, 12)], [])).bind fun qq => z_R 115 (qq.1, 102, [(2, 0), (0, x1), (0, x2), (0, x3), v4], qq.2.toList ++ []) else if 0 ≤ x3 ∧ x3 < 5 then if m 15 (x3).toNat = (-1) then z_R 115 (m, 6, [(2, 0), (0, x1), (0, x2), (0, x3 + 1), v4], []) else (z_R 61 (m, 0, [(2, 18), (2, 12)], [])).bind fun qq => z_R 115 (qq.1, 41, [(2, 0), (0, x1), (0, x2), (0, x3), v4], qq.2.toList ++ []) else none :=
  have hK : kt_at 115 = kt_115 := rfl
  (z_R_run hK (n := 3) (g' := (m, 11, [(2, 0), (0, x1), (0, x2), (0, x3), v4], [(2, 3), (0, x3)])) rfl).trans ((z_R_run hK (n := 1) (g' := (m, 14, [(2, 0), (0, x1), (0, x2), (0, x3), v4], [(0, m 3 11), (0, x3)])) rfl).trans (z_R_ifd hK (c := m 3 11 ≤ x3) (p1 := 83) (p2 := 17) rfl rfl rfl (fun h1 => (z_R_run hK (n := 2) (g' := (m, 85, [(2, 0), (0, x1), (0, x2), (0, x3), v4], [(0, (-1)), (0, x2)])) rfl).trans (z_R_ifnd hK (c := x2 = (-1)) (p1 := 91) (p2 := 88) rfl rfl rfl (fun h2 => (z_R_run hK (n := 2) (g' := (m, 95, [(2, 0), (0, x1), (0, x2), (0, x3), v4], [(2, 18)])) rfl).trans ((z_R_run hK (n := 2) (g' := (m, 99, [(2, 0), (0, x1), (0, x2), (0, x3), v4], [(2, 12), (2, 18)])) rfl).trans (z_R_call hK rfl rfl rfl rfl rfl))) (fun h2 => (z_R_run hK (n := 1) (g' := (m, 90, [(2, 0), (0, x1), (0, x2), (0, x3), v4], [(0, (-2))])) rfl).trans (z_R_ret hK rfl rfl rfl)))) (fun h1 => (z_R_run hK (n := 2) (g' := (m, 21, [(2, 0), (0, x1), (0, x2), (0, x3), v4], [(2, 12)])) rfl).trans ((z_R_run hK (n := 1) (g' := (m, 24, [(2, 0), (0, x1), (0, x2), (0, x3), v4], [(2, 15)])) rfl).trans ((z_R_run hK (n := 1) (g' := (m, 25, [(2, 0), (0, x1), (0, x2), (0, x3), v4], [(0, x3), (2, 15)])) rfl).trans (z_R_ixD hK (n := 5) (g' := (m, 26, [(2, 0), (0, x1), (0, x2), (0, x3), v4], [(0, m 15 (x3).toNat)])) rfl rfl rfl  (fun h3 => (z_R_run hK (n := 1) (g' := (m, 27, [(2, 0), (0, x1), (0, x2), (0, x3), v4], [(0, (-1)), (0, m 15 (x3).toNat)])) rfl).trans (z_R_ifd hK (c := m 15 (x3).toNat = (-1)) (p1 := 77) (p2 := 30) rfl rfl rfl (fun h4 => (z_R_run hK (n := 1) (g' := (m, 80, [(2, 0), (0, x1), (0, x2), (0, z_add x3 1), v4], [])) rfl).trans ((congrArg (fun vv => z_R 115 (m, 80, [(2, 0), (0, x1), (0, x2), (0, vv), v4], [])) (z_add_eq (by omega) (by omega))).trans ((z_R_run hK (n := 1) (g' := (m, 6, [(2, 0), (0, x1), (0, x2), (0, x3 + 1), v4], [])) rfl).trans (rfl)))) (fun h4 => (z_R_run hK (n := 2) (g' := (m, 34, [(2, 0), (0, x1), (0, x2), (0, x3), v4], [(2, 18)])) rfl).trans ((z_R_run hK (n := 2) (g' := (m, 38, [(2, 0), (0, x1), (0, x2), (0, x3), v4], [(2, 12), (2, 18)])) rfl).trans (z_R_call hK rfl rfl rfl rfl rfl)))))))))))
theorem b_bur_41  (m : z_M) (x1 : Int) (x2 : Int) (x3 : Int) (v4 : z_V) : z_R 115 (m, 41, [(2, 0), (0, x1), (0, x2), (0, x3), v4], []) = if 0 ≤ x3 ∧ x3 < 5 then (z_R 96 (z_up m 21 (x3).toNat (-1), 0, [(2, 24), (2, 18), (0, 100)], [])).bind fun qq => z_R 115 (qq.1, 64, [(2, 0), (0, x1), (0, x2), (0, x3), v4], qq.2.toList ++ []) else none :=
  have hK : kt_at 115 = kt_115 := rfl
  (z_R_run hK (n := 2) (g' := (m, 45, [(2, 0), (0, x1), (0, x2), (0, x3), v4], [(2, 18)])) rfl).trans ((z_R_run hK (n := 1) (g' := (m, 48, [(2, 0), (0, x1), (0, x2), (0, x3), v4], [(2, 21)])) rfl).trans ((z_R_run hK (n := 2) (g' := (m, 50, [(2, 0), (0, x1), (0, x2), (0, x3), v4], [(0, (-1)), (0, x3), (2, 21)])) rfl).trans (z_R_ixD hK (n := 5) (g' := (z_up m 21 (x3).toNat (-1), 51, [(2, 0), (0, x1), (0, x2), (0, x3), v4], [])) rfl rfl rfl (fun h1 => (z_R_run hK (n := 2) (g' := (z_up m 21 (x3).toNat (-1), 55, [(2, 0), (0, x1), (0, x2), (0, x3), v4], [(2, 24)])) rfl).trans ((z_R_run hK (n := 2) (g' := (z_up m 21 (x3).toNat (-1), 59, [(2, 0), (0, x1), (0, x2), (0, x3), v4], [(2, 18), (2, 24)])) rfl).trans ((z_R_run hK (n := 1) (g' := (z_up m 21 (x3).toNat (-1), 61, [(2, 0), (0, x1), (0, x2), (0, x3), v4], [(0, 100), (2, 18), (2, 24)])) rfl).trans (z_R_call hK rfl rfl rfl rfl rfl)))))))
theorem b_bur_64  (m : z_M) (x1 : Int) (x2 : Int) (x3 : Int) (v4 : z_V) (u : Int) : z_R 115 (m, 64, [(2, 0), (0, x1), (0, x2), (0, x3), v4], [(0, u)]) = if u ≤ x1 then z_R 115 (m, 6, [(2, 0), (0, x1), (0, x2), (0, z_add x3 1), (0, u)], []) else z_R 115 (m, 6, [(2, 0), (0, u), (0, x3), (0, z_add x3 1), (0, u)], []) :=
  have hK : kt_at 115 = kt_115 := rfl
  (z_R_run hK (n := 3) (g' := (m, 69, [(2, 0), (0, x1), (0, x2), (0, x3), (0, u)], [(0, x1), (0, u)])) rfl).trans (z_R_ifd hK (c := u ≤ x1) (p1 := 77) (p2 := 72) rfl rfl rfl (fun h1 => (z_R_run hK (n := 2) (g' := (m, 6, [(2, 0), (0, x1), (0, x2), (0, z_add x3 1), (0, u)], [])) rfl).trans (rfl)) (fun h1 => (z_R_run hK (n := 6) (g' := (m, 6, [(2, 0), (0, u), (0, x3), (0, z_add x3 1), (0, u)], [])) rfl).trans (rfl)))
theorem b_bur_102  (m : z_M) (x1 : Int) (x2 : Int) (x3 : Int) (v4 : z_V) : z_R 115 (m, 102, [(2, 0), (0, x1), (0, x2), (0, x3), v4], []) = (z_R 96 (m, 0, [(2, 24), (2, 18), (0, 100)], [])).bind fun qq => z_R 115 (qq.1, 118, [(2, 0), (0, x1), (0, x2), (0, x3), v4], qq.2.toList ++ [(1, z_i2l x1), (2, 0)]) :=
  have hK : kt_at 115 = kt_115 := rfl
  (z_R_run hK (n := 5) (g' := (m, 109, [(2, 0), (0, x1), (0, x2), (0, x3), v4], [(2, 24), (1, z_i2l x1), (2, 0)])) rfl).trans ((z_R_run hK (n := 2) (g' := (m, 113, [(2, 0), (0, x1), (0, x2), (0, x3), v4], [(2, 18), (2, 24), (1, z_i2l x1), (2, 0)])) rfl).trans ((z_R_run hK (n := 1) (g' := (m, 115, [(2, 0), (0, x1), (0, x2), (0, x3), v4], [(0, 100), (2, 18), (2, 24), (1, z_i2l x1), (2, 0)])) rfl).trans (z_R_call hK rfl rfl rfl rfl rfl)))
theorem b_bur_118  (m : z_M) (x1 : Int) (x2 : Int) (x3 : Int) (v4 : z_V) (s0 : Int) (u : Int) : z_R 115 (m, 118, [(2, 0), (0, x1), (0, x2), (0, x3), v4], [(0, u), (1, s0), (2, 0)]) = (z_R 77 (m, 0, [(2, 0), (1, s0), (9, 0), (1, z_i2l u), (9, 0)], [])).bind fun qq => z_R 115 (qq.1, 122, [(2, 0), (0, x1), (0, x2), (0, x3), v4], qq.2.toList ++ []) :=
  have hK : kt_at 115 = kt_115 := rfl
  (z_R_run hK (n := 1) (g' := (m, 119, [(2, 0), (0, x1), (0, x2), (0, x3), v4], [(1, z_i2l u), (1, s0), (2, 0)])) rfl).trans (z_R_call hK rfl rfl rfl rfl rfl)
theorem b_bur_122  (m : z_M) (x1 : Int) (x2 : Int) (x3 : Int) (v4 : z_V) : z_R 115 (m, 122, [(2, 0), (0, x1), (0, x2), (0, x3), v4], []) = some (m, some (0, x2)) :=
  have hK : kt_at 115 = kt_115 := rfl
  (z_R_run hK (n := 1) (g' := (m, 123, [(2, 0), (0, x1), (0, x2), (0, x3), v4], [(0, x2)])) rfl).trans (z_R_ret hK rfl rfl rfl)
theorem b_fl_0  (m : z_M) : z_R 228 (m, 0, [(2, 251), (9, 0)], []) = z_R 228 (z_up m 251 39 0, 7, [(2, 251), (0, 0)], []) :=
  have hK : kt_at 228 = kt_228 := rfl
  (z_R_run hK (n := 5) (g' := (z_up m 251 39 0, 7, [(2, 251), (0, 0)], [])) rfl).trans (rfl)
theorem b_fl_7  (m : z_M) (x1 : Int) (h_n : 0 ≤ m 251 3 ∧ m 251 3 ≤ 5) : z_R 228 (m, 7, [(2, 251), (0, x1)], []) = if m 251 3 ≤ x1 then some (m, none) else if 0 ≤ z_add 18 x1 ∧ z_add 18 x1 < 37 then if m 252 (z_add 18 x1).toNat = (-1) then z_R 228 (m, 7, [(2, 251), (0, z_add x1 1)], []) else if 0 ≤ m 251 39 ∧ m 251 39 < 5 then z_R 228 (z_up (z_up m 265 (m 251 39).toNat x1) 251 39 (m 251 39 + 1), 7, [(2, 251), (0, z_add x1 1)], []) else none else none :=
  have hK : kt_at 228 = kt_228 := rfl
  (z_R_run hK (n := 3) (g' := (m, 12, [(2, 251), (0, x1)], [(0, m 251 3), (0, x1)])) rfl).trans (z_R_ifd hK (c := m 251 3 ≤ x1) (p1 := 57) (p2 := 15) rfl rfl rfl (fun h1 => z_R_ret hK rfl rfl rfl) (fun h1 => (z_R_run hK (n := 2) (g' := (m, 19, [(2, 251), (0, x1)], [(2, 252)])) rfl).trans ((z_R_run hK (n := 3) (g' := (m, 23, [(2, 251), (0, x1)], [(0, z_add 18 x1), (2, 252)])) rfl).trans (z_R_ixD hK (n := 37) (g' := (m, 24, [(2, 251), (0, x1)], [(0, m 252 (z_add 18 x1).toNat)])) rfl rfl rfl  (fun h2 => (z_R_run hK (n := 1) (g' := (m, 25, [(2, 251), (0, x1)], [(0, (-1)), (0, m 252 (z_add 18 x1).toNat)])) rfl).trans (z_R_ifnd hK (c := m 252 (z_add 18 x1).toNat = (-1)) (p1 := 31) (p2 := 28) rfl rfl rfl (fun h3 => (z_R_run hK (n := 2) (g' := (m, 35, [(2, 251), (0, x1)], [(2, 265)])) rfl).trans ((z_R_run hK (n := 3) (g' := (m, 40, [(2, 251), (0, x1)], [(0, x1), (0, m 251 39), (2, 265)])) rfl).trans (z_R_ixD hK (n := 5) (g' := (z_up m 265 (m 251 39).toNat x1, 41, [(2, 251), (0, x1)], [])) rfl rfl rfl (fun h4 => (z_R_run hK (n := 3) (g' := (z_up m 265 (m 251 39).toNat x1, 46, [(2, 251), (0, x1)], [(0, (z_up m 265 (m 251 39).toNat x1) 251 39), (2, 251)])) rfl).trans ((congrArg (fun vv => z_R 228 (z_up m 265 (m 251 39).toNat x1, 46, [(2, 251), (0, x1)], [(0, vv), (2, 251)])) (zu_p (by decide))).trans ((z_R_run hK (n := 2) (g' := (z_up m 265 (m 251 39).toNat x1, 48, [(2, 251), (0, x1)], [(0, z_add (m 251 39) 1), (2, 251)])) rfl).trans ((congrArg (fun vv => z_R 228 (z_up m 265 (m 251 39).toNat x1, 48, [(2, 251), (0, x1)], [(0, vv), (2, 251)])) (z_add_eq (by omega) (by omega))).trans ((z_R_run hK (n := 3) (g' := (z_up (z_up m 265 (m 251 39).toNat x1) 251 39 (m 251 39 + 1), 7, [(2, 251), (0, z_add x1 1)], [])) rfl).trans (rfl))))))))) (fun h3 => (z_R_run hK (n := 3) (g' := (m, 7, [(2, 251), (0, z_add x1 1)], [])) rfl).trans (rfl))))))))
theorem b_tbu_0  (m : z_M) : z_R 238 (m, 0, [(2, 251), (9, 0), (9, 0), (9, 0), (9, 0), (9, 0)], []) = (z_R 228 (z_up m 251 11 0, 0, [(2, 251), (9, 0)], [])).bind fun qq => z_R 238 (qq.1, 9, [(2, 251), (9, 0), (9, 0), (9, 0), (9, 0), (9, 0)], qq.2.toList ++ []) :=
  have hK : kt_at 238 = kt_238 := rfl
  (z_R_run hK (n := 4) (g' := (z_up m 251 11 0, 6, [(2, 251), (9, 0), (9, 0), (9, 0), (9, 0), (9, 0)], [(2, 251)])) rfl).trans (z_R_call hK rfl rfl rfl rfl rfl)
theorem b_tbu_9  (m : z_M) : z_R 238 (m, 9, [(2, 251), (9, 0), (9, 0), (9, 0), (9, 0), (9, 0)], []) = if m 251 39 = 0 then some (m, some (0, (-2))) else (z_R 219 (m, 0, [(2, 251)], [])).bind fun qq => z_R 238 (qq.1, 23, [(2, 251), (9, 0), (9, 0), (9, 0), (9, 0), (9, 0)], qq.2.toList ++ []) :=
  have hK : kt_at 238 = kt_238 := rfl
  (z_R_run hK (n := 2) (g' := (m, 13, [(2, 251), (9, 0), (9, 0), (9, 0), (9, 0), (9, 0)], [(0, m 251 39)])) rfl).trans (z_R_ifnd hK (c := m 251 39 = 0) (p1 := 19) (p2 := 16) rfl rfl rfl (fun h1 => (z_R_run hK (n := 1) (g' := (m, 20, [(2, 251), (9, 0), (9, 0), (9, 0), (9, 0), (9, 0)], [(2, 251)])) rfl).trans (z_R_call hK rfl rfl rfl rfl rfl)) (fun h1 => (z_R_run hK (n := 1) (g' := (m, 18, [(2, 251), (9, 0), (9, 0), (9, 0), (9, 0), (9, 0)], [(0, (-2))])) rfl).trans (z_R_ret hK rfl rfl rfl)))
theorem b_tbu_23  (m : z_M) : z_R 238 (m, 23, [(2, 251), (9, 0), (9, 0), (9, 0), (9, 0), (9, 0)], []) = (z_R 221 (m, 0, [(2, 251), (0, 100), (9, 0), (9, 0)], [])).bind fun qq => z_R 238 (qq.1, 29, [(2, 251), (9, 0), (9, 0), (9, 0), (9, 0), (9, 0)], qq.2.toList ++ []) :=
  have hK : kt_at 238 = kt_238 := rfl
  (z_R_run hK (n := 2) (g' := (m, 26, [(2, 251), (9, 0), (9, 0), (9, 0), (9, 0), (9, 0)], [(0, 100), (2, 251)])) rfl).trans (z_R_call hK rfl rfl rfl rfl rfl)
theorem b_tbu_29  (m : z_M) (u : Int) : z_R 238 (m, 29, [(2, 251), (9, 0), (9, 0), (9, 0), (9, 0), (9, 0)], [(0, u)]) = z_R 238 (m, 37, [(2, 251), (0, u), (0, (-1)), (0, (-1)), (0, 0), (9, 0)], []) :=
  have hK : kt_at 238 = kt_238 := rfl
  (z_R_run hK (n := 7) (g' := (m, 37, [(2, 251), (0, u), (0, (-1)), (0, (-1)), (0, 0), (9, 0)], [])) rfl).trans (rfl)
theorem b_tbu_37  (m : z_M) (x1 : Int) (x2 : Int) (x3 : Int) (x4 : Int) (v5 : z_V) : z_R 238 (m, 37, [(2, 251), (0, x1), (0, x2), (0, x3), (0, x4), v5], []) = if m 251 39 ≤ x4 then (z_R 210 (z_up m 251 10 0, 0, [(2, 251), (1, z_i2l x3), (9, 0)], [])).bind fun qq => z_R 238 (qq.1, 111, [(2, 251), (0, x1), (0, x2), (0, x3), (0, x4), v5], qq.2.toList ++ []) else (z_R 219 (m, 0, [(2, 251)], [])).bind fun qq => z_R 238 (qq.1, 50, [(2, 251), (0, x1), (0, x2), (0, x3), (0, x4), v5], qq.2.toList ++ []) :=
  have hK : kt_at 238 = kt_238 := rfl
  (z_R_run hK (n := 3) (g' := (m, 43, [(2, 251), (0, x1), (0, x2), (0, x3), (0, x4), v5], [(0, m 251 39), (0, x4)])) rfl).trans (z_R_ifd hK (c := m 251 39 ≤ x4) (p1 := 100) (p2 := 46) rfl rfl rfl (fun h1 => (z_R_run hK (n := 6) (g' := (z_up m 251 10 0, 108, [(2, 251), (0, x1), (0, x2), (0, x3), (0, x4), v5], [(1, z_i2l x3), (2, 251)])) rfl).trans (z_R_call hK rfl rfl rfl rfl rfl)) (fun h1 => (z_R_run hK (n := 1) (g' := (m, 47, [(2, 251), (0, x1), (0, x2), (0, x3), (0, x4), v5], [(2, 251)])) rfl).trans (z_R_call hK rfl rfl rfl rfl rfl)))
theorem b_tbu_50  (m : z_M) (x1 : Int) (x2 : Int) (x3 : Int) (x4 : Int) (v5 : z_V) : z_R 238 (m, 50, [(2, 251), (0, x1), (0, x2), (0, x3), (0, x4), v5], []) = if 0 ≤ x4 ∧ x4 < 5 then if 0 ≤ z_add 18 (m 265 (x4).toNat) ∧ z_add 18 (m 265 (x4).toNat) < 37 then (z_R 221 (z_up m 264 (z_add 18 (m 265 (x4).toNat)).toNat (-1), 0, [(2, 251), (0, 100), (9, 0), (9, 0)], [])).bind fun qq => z_R 238 (qq.1, 72, [(2, 251), (0, x1), (0, x2), (0, x3), (0, x4), v5], qq.2.toList ++ []) else none else none :=
  have hK : kt_at 238 = kt_238 := rfl
  (z_R_run hK (n := 2) (g' := (m, 54, [(2, 251), (0, x1), (0, x2), (0, x3), (0, x4), v5], [(2, 264)])) rfl).trans ((z_R_run hK (n := 3) (g' := (m, 60, [(2, 251), (0, x1), (0, x2), (0, x3), (0, x4), v5], [(2, 265), (0, 18), (2, 264)])) rfl).trans ((z_R_run hK (n := 1) (g' := (m, 62, [(2, 251), (0, x1), (0, x2), (0, x3), (0, x4), v5], [(0, x4), (2, 265), (0, 18), (2, 264)])) rfl).trans (z_R_ixD hK (n := 5) (g' := (m, 63, [(2, 251), (0, x1), (0, x2), (0, x3), (0, x4), v5], [(0, m 265 (x4).toNat), (0, 18), (2, 264)])) rfl rfl rfl  (fun h1 => (z_R_run hK (n := 2) (g' := (m, 65, [(2, 251), (0, x1), (0, x2), (0, x3), (0, x4), v5], [(0, (-1)), (0, z_add 18 (m 265 (x4).toNat)), (2, 264)])) rfl).trans (z_R_ixD hK (n := 37) (g' := (z_up m 264 (z_add 18 (m 265 (x4).toNat)).toNat (-1), 66, [(2, 251), (0, x1), (0, x2), (0, x3), (0, x4), v5], [])) rfl rfl rfl (fun h2 => (z_R_run hK (n := 2) (g' := (z_up m 264 (z_add 18 (m 265 (x4).toNat)).toNat (-1), 69, [(2, 251), (0, x1), (0, x2), (0, x3), (0, x4), v5], [(0, 100), (2, 251)])) rfl).trans (z_R_call hK rfl rfl rfl rfl rfl)))))))
theorem b_tbu_72  (m : z_M) (x1 : Int) (x2 : Int) (x3 : Int) (x4 : Int) (v5 : z_V) (u : Int) : z_R 238 (m, 72, [(2, 251), (0, x1), (0, x2), (0, x3), (0, x4), v5], [(0, u)]) = if x3 < u then if 0 ≤ x4 ∧ x4 < 5 then z_R 238 (m, 37, [(2, 251), (0, x1), (0, m 265 (x4).toNat), (0, u), (0, x4 + 1), (0, u)], []) else none else z_R 238 (m, 37, [(2, 251), (0, x1), (0, x2), (0, x3), (0, z_add x4 1), (0, u)], []) :=
  have hK : kt_at 238 = kt_238 := rfl
  (z_R_run hK (n := 3) (g' := (m, 77, [(2, 251), (0, x1), (0, x2), (0, x3), (0, x4), (0, u)], [(0, x3), (0, u)])) rfl).trans (z_R_ifd hK (c := x3 < u) (p1 := 83) (p2 := 80) rfl rfl rfl (fun h1 => (z_R_run hK (n := 2) (g' := (m, 87, [(2, 251), (0, x1), (0, x2), (0, x3), (0, x4), (0, u)], [(2, 265)])) rfl).trans ((z_R_run hK (n := 1) (g' := (m, 89, [(2, 251), (0, x1), (0, x2), (0, x3), (0, x4), (0, u)], [(0, x4), (2, 265)])) rfl).trans (z_R_ixD hK (n := 5) (g' := (m, 90, [(2, 251), (0, x1), (0, x2), (0, x3), (0, x4), (0, u)], [(0, m 265 (x4).toNat)])) rfl rfl rfl  (fun h2 => (z_R_run hK (n := 4) (g' := (m, 97, [(2, 251), (0, x1), (0, m 265 (x4).toNat), (0, u), (0, z_add x4 1), (0, u)], [])) rfl).trans ((congrArg (fun vv => z_R 238 (m, 97, [(2, 251), (0, x1), (0, m 265 (x4).toNat), (0, u), (0, vv), (0, u)], [])) (z_add_eq (by omega) (by omega))).trans ((z_R_run hK (n := 1) (g' := (m, 37, [(2, 251), (0, x1), (0, m 265 (x4).toNat), (0, u), (0, x4 + 1), (0, u)], [])) rfl).trans (rfl))))))) (fun h1 => (z_R_run hK (n := 3) (g' := (m, 37, [(2, 251), (0, x1), (0, x2), (0, x3), (0, z_add x4 1), (0, u)], [])) rfl).trans (rfl)))
theorem b_tbu_111  (m : z_M) (x1 : Int) (x2 : Int) (x3 : Int) (x4 : Int) (v5 : z_V) : z_R 238 (m, 111, [(2, 251), (0, x1), (0, x2), (0, x3), (0, x4), v5], []) = (z_R 210 (m, 0, [(2, 251), (1, z_i2l x1), (9, 0)], [])).bind fun qq => z_R 238 (qq.1, 117, [(2, 251), (0, x1), (0, x2), (0, x3), (0, x4), v5], qq.2.toList ++ []) :=
  have hK : kt_at 238 = kt_238 := rfl
  (z_R_run hK (n := 3) (g' := (m, 114, [(2, 251), (0, x1), (0, x2), (0, x3), (0, x4), v5], [(1, z_i2l x1), (2, 251)])) rfl).trans (z_R_call hK rfl rfl rfl rfl rfl)
theorem b_tbu_117  (m : z_M) (x1 : Int) (x2 : Int) (x3 : Int) (x4 : Int) (v5 : z_V) : z_R 238 (m, 117, [(2, 251), (0, x1), (0, x2), (0, x3), (0, x4), v5], []) = some (m, some (0, x2)) :=
  have hK : kt_at 238 = kt_238 := rfl
  (z_R_run hK (n := 1) (g' := (m, 118, [(2, 251), (0, x1), (0, x2), (0, x3), (0, x4), v5], [(0, x2)])) rfl).trans (z_R_ret hK rfl rfl rfl)
end
section
/-! burden, of what both are in -/
/-- those who are somewhere, from x on -/
def o_ls (A : Nat → Int) : Nat → Nat → List Nat
  | 0, _ => []
  | f + 1, x => if A (x + 18) = -1 then o_ls A f (x + 1) else x :: o_ls A f (x + 1)
/-- the first of those with the most -/
def o_bu (S : Nat → Int) : List Nat → Int → Int → Int
  | [], b, _ => b
  | p :: l, b, v => if v < S p then o_bu S l (p : Int) (S p) else o_bu S l b v
theorem o_bu_nn {S : Nat → Int} : ∀ (l : List Nat) (b v : Int), 0 ≤ b → 0 ≤ o_bu S l b v := by
  intro l
  induction l with
  | nil => intro b v h; exact h
  | cons p l ih =>
    intro b v h
    unfold o_bu
    by_cases c : v < S p
    · rw [if_pos c]; exact ih _ _ (by omega)
    · rw [if_neg c]; exact ih _ _ h
theorem o_ls_len {A : Nat → Int} : ∀ (f x : Nat), (o_ls A f x).length ≤ f ∧ ∀ p ∈ o_ls A f x, p < x + f := by
  intro f
  induction f with
  | zero => intro x; exact ⟨Nat.le_refl _, fun p hp => absurd hp List.not_mem_nil⟩
  | succ f ih =>
    intro x
    obtain ⟨i1, i2⟩ := ih (x + 1)
    unfold o_ls
    by_cases c : A (x + 18) = -1
    · rw [if_pos c]
      exact ⟨by omega, fun p hp => by have := i2 p hp; omega⟩
    · rw [if_neg c]
      refine ⟨Nat.succ_le_succ i1, fun p hp => ?_⟩
      rcases List.mem_cons.mp hp with e | e
      · omega
      · have := i2 p e
        omega
/-- for how many hours they stand without p -/
def o_S (w h n : Nat) (heat price : Int) (cs : List Int) (D A : Nat → Int) (p : Nat) : Int := s_sta w h n heat price cs D (s_F w h A) 100 100 0 (u_up A (p + 18) (-1))
def o_bud (w h n : Nat) (heat price : Int) (cs : List Int) (D A : Nat → Int) (l : List Nat) (b v : Int) : Int := if o_bu (o_S w h n heat price cs D A) l b v = -1 then -2 else o_bu (o_S w h n heat price cs D A) l b v
section
variable {w h n : Nat} {heat price : Int} {D A : Nat → Int} {c : Nat} {U : Nat → Nat → Int} {kn : Nat → Int} {KS : Nat → Nat → Int} {cs : List Int} {m : z_M}
theorem s_F_18 {p : Nat} {v : Int} : s_F w h (u_up A (p + 18) v) = s_F w h A := s_bt_cg 9 0 0 (fun y _ h2 => by rw [u_up_ne (by omega)])
theorem o_S_nn {p : Nat} : 0 ≤ o_S w h n heat price cs D A p := by
  rcases s_sta_x (w := w) (h := h) (n := n) (heat := heat) (price := price) (cs := cs) (D := D) (F := s_F w h A) (N := 100) 100 0 (u_up A (p + 18) (-1)) rfl with z | z
  · unfold o_S
    rw [z]
    decide
  · exact z.1
theorem C_bur1 (hN : w_N w h n heat D) (hok : hr_ok n A) (ht : 0 ≤ A 35 ∧ A 35 ≤ 1073741824) : ∀ (f x : Nat) (b v : Int) (v4 : z_V) (m : z_M), x + f = n → C_is w h n heat price D A c U kn KS cs m → z_w (m 24 6) = m 24 6 → z_w (m 24 9) = m 24 9 → ∃ m1, z_R 115 (m, 6, [(2, 0), (0, v), (0, b), (0, (x : Int)), v4], []) = some (m1, some (0, o_bud w h n heat price cs D A (o_ls A f x) b v)) ∧ C_is w h n heat price D A c U kn KS cs m1 := by
  have h5 := hN.1.2.2
  -- the State without one, laid beside
  have lay : ∀ (m : z_M), C_is w h n heat price D A c U kn KS cs m → ∃ m2, z_R 61 (m, 0, [(2, 18), (2, 12)], []) = some (m2, none) ∧ C_is w h n heat price D A c U kn KS cs m2 ∧ cS m2 18 n = A ∧ m2 24 6 = m 24 6 ∧ m2 24 9 = m 24 9 := by
    intro m hi
    obtain ⟨m2, b1, b2, b3⟩ := c_become z_st_12 z_st_18 (by decide) m
    exact ⟨m2, b1, C_fr hi fun p k hk => by
      have hk' := hk
      unfold C_hit at hk'
      have hk' := of_decide_eq_true hk'
      exact b3.of (by (repeat' (first | exact trivial | refine z_of_c ?_ ?_)) <;> omega), (cS_cR b2).trans hi.2.2.1, b3.of (by (repeat' (first | exact trivial | refine z_of_c ?_ ?_)) <;> omega), b3.of (by (repeat' (first | exact trivial | refine z_of_c ?_ ?_)) <;> omega)⟩
  intro f
  induction f with
  | zero =>
    intro x b v v4 m hx hi k6 k9
    have e11 := hi.1.2.2.1
    rw [b_bur_6 m v b x v4 (by omega), e11, if_pos (by omega)]
    show ∃ m1, _ = some (m1, some (0, if b = -1 then -2 else b)) ∧ _
    by_cases z : b = -1
    · rw [if_pos z, if_pos z]
      exact ⟨m, rfl, hi⟩
    · obtain ⟨m2, b1, b2, b3, b4, b5⟩ := lay m hi
      obtain ⟨m3, c1, c2, -, -⟩ := C_stand hN hok ht b2 b3 (by rw [b4]; exact k6) (by rw [b5]; exact k9) (N := 100) (by decide)
      have c1 : z_R 96 (m2, 0, [(2, 24), (2, 18), (0, 100)], []) = some (m3, some (0, s_sta w h n heat price cs D (s_F w h A) 100 100 0 A)) := c1
      rw [if_neg z, if_neg z, b1, zb_n, b_bur_102, c1, zb_v, b_bur_118, c_tell2, zb_n, b_bur_122]
      exact ⟨_, rfl, C_tell2 c2 _ _⟩
  | succ f ih =>
    intro x b v v4 m hx hi k6 k9
    have e11 := hi.1.2.2.1
    have e15 : m 15 x = A (x + 18) := C_A3 hi (by omega) h5
    rw [b_bur_6 m v b x v4 (by omega), e11, if_neg (by omega), if_pos (show 0 ≤ (x : Int) ∧ (x : Int) < 5 by omega), Int.toNat_natCast, e15, tc1]
    unfold o_ls
    by_cases z : A (x + 18) = -1
    · rw [if_pos z, if_pos z]
      exact ih (x + 1) b v v4 m (by omega) hi k6 k9
    · obtain ⟨m2, b1, b2, b3, b4, b5⟩ := lay m hi
      have hC3 : C_is w h n heat price D A c U kn KS cs (z_up m2 21 x (-1)) := C_upn b2 (by
        have : ∀ x, x < 5 → C_hit 21 x x = false := by decide +kernel
        exact this x (by omega))
      have hA3 : cS (z_up m2 21 x (-1)) 18 n = u_up A (x + 18) (-1) := by
        have e := cS_up3 (m := m2) (s := 18) (j := x) (v := -1) (n := (n : Int)) (by omega) (by omega)
        rw [b3] at e
        exact e
      have j6 : (z_up m2 21 x (-1)) 24 6 = m 24 6 := (zu_p (by decide)).trans b4
      have j9 : (z_up m2 21 x (-1)) 24 9 = m 24 9 := (zu_p (by decide)).trans b5
      rw [if_neg z, if_neg z, b1, zb_n, b_bur_41, if_pos (show 0 ≤ (x : Int) ∧ (x : Int) < 5 by omega), Int.toNat_natCast]
      generalize z_up m2 21 x (-1) = m3 at hC3 hA3 j6 j9 ⊢
      have hok3 : hr_ok n (u_up A (x + 18) (-1)) := hr_ok_up hok (by omega) (fun z => by omega) (fun p h1 h2 => by decide)
      have h35 : u_up A (x + 18) (-1) 35 = A 35 := u_up_ne (by omega)
      obtain ⟨m4, c1, c2, c3, c4⟩ := C_stand hN hok3 (by rw [h35]; exact ht) hC3 hA3 (by rw [j6]; exact k6) (by rw [j9]; exact k9) (N := 100) (by decide)
      rw [s_F_18] at c1
      have c1 : z_R 96 (m3, 0, [(2, 24), (2, 18), (0, 100)], []) = some (m4, some (0, o_S w h n heat price cs D A x)) := c1
      rw [c1, zb_v, b_bur_64, z_add_eq (x := (x : Int)) (y := 1) (by omega) (by omega), tc1]
      have eo : ∀ b v, o_bu (o_S w h n heat price cs D A) (x :: o_ls A f (x + 1)) b v = if v < o_S w h n heat price cs D A x then o_bu (o_S w h n heat price cs D A) (o_ls A f (x + 1)) (x : Int) (o_S w h n heat price cs D A x) else o_bu (o_S w h n heat price cs D A) (o_ls A f (x + 1)) b v := fun _ _ => rfl
      have eb : o_bud w h n heat price cs D A (x :: o_ls A f (x + 1)) b v = if v < o_S w h n heat price cs D A x then o_bud w h n heat price cs D A (o_ls A f (x + 1)) (x : Int) (o_S w h n heat price cs D A x) else o_bud w h n heat price cs D A (o_ls A f (x + 1)) b v := by
        unfold o_bud
        rw [eo]
        by_cases y : v < o_S w h n heat price cs D A x
        · rw [if_pos y, if_pos y]
        · rw [if_neg y, if_neg y]
      rw [eb]
      by_cases y : o_S w h n heat price cs D A x ≤ v
      · rw [if_pos y, if_neg (show ¬ v < o_S w h n heat price cs D A x by omega)]
        exact ih (x + 1) b v _ m4 (by omega) c2 c3 c4
      · rw [if_neg y, if_pos (show v < o_S w h n heat price cs D A x by omega)]
        exact ih (x + 1) x _ _ m4 (by omega) c2 c3 c4
theorem C_burden (hi : C_is w h n heat price D A c U kn KS cs m) (hN : w_N w h n heat D) (hok : hr_ok n A) (ht : 0 ≤ A 35 ∧ A 35 ≤ 1073741824) (k6 : z_w (m 24 6) = m 24 6) (k9 : z_w (m 24 9) = m 24 9) : ∃ m1, z_R 115 (m, 0, [(2, 0), (9, 0), (9, 0), (9, 0), (9, 0)], []) = some (m1, some (0, o_bud w h n heat price cs D A (o_ls A n 0) (-1) (-1))) ∧ C_is w h n heat price D A c U kn KS cs m1 := by
  rw [b_bur_0]
  exact C_bur1 hN hok ht n 0 (-1) (-1) (9, 0) m (by omega) hi k6 k9
/-! the reference -/
def o_hl (m : z_M) : Nat → List Nat → Prop
  | _, [] => True
  | k, p :: l => m 265 k = (p : Int) ∧ o_hl m (k + 1) l
theorem o_hl_fr {m' : z_M} : ∀ (l : List Nat) (k : Nat), o_hl m k l → (∀ j, m' 265 j = m 265 j) → o_hl m' k l := by
  intro l
  induction l with
  | nil => intro k _ _; trivial
  | cons p l ih => intro k hc hf; exact ⟨(hf k).trans hc.1, ih (k + 1) hc.2 hf⟩
theorem R_fl1 (h5 : n ≤ 5) : ∀ (f x k : Nat) (m : z_M), x + f = n → k ≤ x → R_is w h n heat price D A c U kn KS cs m → m 251 39 = (k : Int) → ∃ m1, z_R 228 (m, 7, [(2, 251), (0, (x : Int))], []) = some (m1, none) ∧ m1 251 39 = ((k + (o_ls A f x).length : Nat) : Int) ∧ o_hl m1 k (o_ls A f x) ∧ (∀ p j, ¬ (p = 251 ∧ j = 39) → ¬ (p = 265 ∧ k ≤ j) → m1 p j = m p j) := by
  intro f
  induction f with
  | zero =>
    intro x k m hx hk hi h39
    have e3 := hi.1.2.2.1
    rw [b_fl_7 m x (by omega), e3, if_pos (by omega)]
    exact ⟨m, rfl, h39, trivial, fun _ _ _ _ => rfl⟩
  | succ f ih =>
    intro x k m hx hk hi h39
    have e3 := hi.1.2.2.1
    have e18 : m 252 (x + 18) = A (x + 18) := R_A hi (by omega) (a_vis_p (b := 18) (p := x) (by omega) (by omega) (by omega) (by omega))
    rw [b_fl_7 m x (by omega), e3, if_neg (by omega), z_add_eq (x := 18) (y := (x : Int)) (by omega) (by omega), if_pos (show 0 ≤ 18 + (x : Int) ∧ 18 + (x : Int) < 37 by omega), show (18 + (x : Int)).toNat = x + 18 by omega, e18, z_add_eq (x := (x : Int)) (y := 1) (by omega) (by omega), tc1]
    unfold o_ls
    by_cases z : A (x + 18) = -1
    · rw [if_pos z, if_pos z]
      exact ih (x + 1) k m (by omega) (by omega) hi h39
    · rw [if_neg z, if_neg z, h39, if_pos (show 0 ≤ (k : Int) ∧ (k : Int) < 5 by omega), Int.toNat_natCast, tc1]
      have hR1 : R_is w h n heat price D A c U kn KS cs (z_up (z_up m 265 k (x : Int)) 251 39 ((k + 1 : Nat) : Int)) := R_upn (R_upn hi (by
        have : ∀ k, k < 5 → R_hit 265 k k = false := by decide +kernel
        exact this k (by omega))) (by decide)
      have g39 : (z_up (z_up m 265 k (x : Int)) 251 39 ((k + 1 : Nat) : Int)) 251 39 = ((k + 1 : Nat) : Int) := zu_self
      have g265 : (z_up (z_up m 265 k (x : Int)) 251 39 ((k + 1 : Nat) : Int)) 265 k = (x : Int) := (zu_p (by decide)).trans zu_self
      have gf : ∀ p j, ¬ (p = 251 ∧ j = 39) → ¬ (p = 265 ∧ k ≤ j) → (z_up (z_up m 265 k (x : Int)) 251 39 ((k + 1 : Nat) : Int)) p j = m p j := fun p j n1 n2 => by rw [X_up n1, X_up (fun z => n2 ⟨z.1, by omega⟩)]
      generalize z_up (z_up m 265 k (x : Int)) 251 39 ((k + 1 : Nat) : Int) = m0 at hR1 g39 g265 gf ⊢
      obtain ⟨m1, a1, a2, a3, a4⟩ := ih (x + 1) (k + 1) m0 (by omega) (by omega) hR1 g39
      refine ⟨m1, a1, ?_, ⟨(a4 265 k (by omega) (by omega)).trans g265, a3⟩, fun p j n1 n2 => (a4 p j n1 (fun z => n2 ⟨z.1, by omega⟩)).trans (gf p j n1 n2)⟩
      rw [a2]
      show ((k + 1 + (o_ls A f (x + 1)).length : Nat) : Int) = ((k + ((o_ls A f (x + 1)).length + 1) : Nat) : Int)
      omega
theorem R_bur1 {x1 : Int} (hN : w_N w h n heat D) (hok : hr_ok n A) (ht : 0 ≤ A 35 ∧ A 35 ≤ 1073741824) : ∀ (l : List Nat) (k : Nat) (b v : Int) (v5 : z_V) (m : z_M), k + l.length ≤ 5 → (∀ p ∈ l, p < n) → R_is w h n heat price D A c U kn KS cs m → m 251 39 = ((k + l.length : Nat) : Int) → o_hl m k l → ∃ m1, z_R 238 (m, 37, [(2, 251), (0, x1), (0, b), (0, v), (0, (k : Int)), v5], []) = some (m1, some (0, o_bu (o_S w h n heat price cs D A) l b v)) ∧ R_is w h n heat price D A c U kn KS cs m1 := by
  have h5 := hN.1.2.2
  intro l
  induction l with
  | nil =>
    intro k b v v5 m hk hp hi h39 hl
    have h39 : m 251 39 = (k : Int) := h39
    rw [b_tbu_37, h39, if_pos (Int.le_refl _), t_tell0, zb_n, b_tbu_111, t_tell1, zb_n, b_tbu_117]
    exact ⟨_, rfl, R_upn (R_upn (R_upn (R_upn (R_upn hi (by decide)) (by decide)) (by decide)) (by decide)) (by decide)⟩
  | cons p l ih =>
    intro k b v v5 m hk hp hi h39 hl
    have hk : k + (l.length + 1) ≤ 5 := hk
    have h39 : m 251 39 = ((k + (l.length + 1) : Nat) : Int) := h39
    have hpn := hp p List.mem_cons_self
    obtain ⟨m2, b1, b2, b3⟩ := R_lt hi
    have f2 : ∀ q j, ¬ (q = 264) → m2 q j = m q j := fun q j hq => by
      obtain ⟨m2', d1, -, d3⟩ := t_layd (a := 252) (q := 264) (B := 0) t_lay264_0 t_lay264_2 (by decide) (b := 0) (by decide) m
      have d1 : z_R 198 (m, 0, [(2, 252), (2, 264), (0, 0), (9, 0)], []) = some (m2', none) := d1
      have e : z_R 219 (m, 0, [(2, 251)], []) = some (m2', none) := by rw [q_lt_0, d1, zb_n, q_lt_12]
      rw [b1] at e
      have e := congrArg Prod.fst (Option.some.inj e)
      have e : m2 = m2' := e
      rw [e]
      exact d3 q j (fun z => hq z.1)
    have g265 : m2 265 k = (p : Int) := (f2 265 k (by decide)).trans hl.1
    have hR3 : R_is w h n heat price D A c U kn KS cs (z_up m2 264 (p + 18) (-1)) := R_upn b2 (by
      have : ∀ p, p < 5 → R_hit 264 (p + 18) (p + 18) = false := by decide +kernel
      exact this p (by omega))
    have hA3 : rS (z_up m2 264 (p + 18) (-1)) 264 n = u_up A (p + 18) (-1) := by rw [rS_up (by omega) (a_vis_p (b := 18) (p := p) (by omega) (by omega) (by omega) (by omega)), b3]
    have f3 : ∀ q j, ¬ (q = 264) → (z_up m2 264 (p + 18) (-1)) q j = m q j := fun q j hq => (zu_p hq).trans (f2 q j hq)
    rw [b_tbu_37, h39, if_neg (by omega), b1, zb_n, b_tbu_50, if_pos (show 0 ≤ (k : Int) ∧ (k : Int) < 5 by omega), Int.toNat_natCast, g265, z_add_eq (x := 18) (y := (p : Int)) (by omega) (by omega), if_pos (show 0 ≤ 18 + (p : Int) ∧ 18 + (p : Int) < 37 by omega), show (18 + (p : Int)).toNat = p + 18 by omega]
    generalize z_up m2 264 (p + 18) (-1) = m3 at hR3 hA3 f3 ⊢
    have hok3 : hr_ok n (u_up A (p + 18) (-1)) := hr_ok_up hok (by omega) (fun z => by omega) (fun p h1 h2 => by decide)
    have h35 : u_up A (p + 18) (-1) 35 = A 35 := u_up_ne (by omega)
    obtain ⟨v0, hv0⟩ := q_iceq 9 0 0 m3 (by decide)
    have hv := R_ice (w := w) (h := h) (n := n) hR3.1.1 hR3.1.2.1 hR3.2.2.1 9 0 0 (by decide) (by decide +kernel)
    have hv : z_R 222 (m3, 4, [(2, 251), (0, 0), (0, 0)], []) = some (m3, some (0, s_F w h A)) := hv
    obtain ⟨m4, c1, c2⟩ := R_sta1 (F := s_F w h A) (N := 100) (by decide) hN 100 0 m3 (u_up A (p + 18) (-1)) (by decide) hR3 hA3 hok3 (by rw [h35]; exact ht.1) (by rw [h35]; omega)
    have c1 : z_R 221 (m3, 7, [(2, 251), (0, 100), (0, s_F w h A), (0, 0)], []) = some (m4, some (0, o_S w h n heat price cs D A p)) := c1
    have c3 : z_R 221 (m3, 0, [(2, 251), (0, 100), (9, 0), (9, 0)], []) = some (m4, some (0, o_S w h n heat price cs D A p)) := by rw [q_sta_0, q_ice_0, hv, zb_v, q_sta_4, c1]
    have hR4 := R_off264 hR3 c2
    have f4 : ∀ j, m4 265 j = m 265 j := fun j => (c2.of (by (repeat' (first | exact trivial | refine z_of_c ?_ ?_)) <;> omega)).trans (f3 265 j (by decide))
    have g39 : m4 251 39 = ((k + 1 + l.length : Nat) : Int) := by
      rw [c2.of (p := 251) (k := 39) (by (repeat' (first | exact trivial | refine z_of_c ?_ ?_)) <;> omega), f3 251 39 (by decide), h39]
      omega
    rw [c3, zb_v, b_tbu_72, if_pos (show 0 ≤ (k : Int) ∧ (k : Int) < 5 by omega), Int.toNat_natCast, f4 k, hl.1, z_add_eq (x := (k : Int)) (y := 1) (by omega) (by omega), tc1]
    unfold o_bu
    by_cases y : v < o_S w h n heat price cs D A p
    · rw [if_pos y, if_pos y]
      exact ih (k + 1) p _ _ m4 (by omega) (fun q hq => hp q (List.mem_cons_of_mem _ hq)) hR4 g39 (o_hl_fr l (k + 1) hl.2 f4)
    · rw [if_neg y, if_neg y]
      exact ih (k + 1) b v _ m4 (by omega) (fun q hq => hp q (List.mem_cons_of_mem _ hq)) hR4 g39 (o_hl_fr l (k + 1) hl.2 f4)
theorem R_burden (hi : R_is w h n heat price D A c U kn KS cs m) (hN : w_N w h n heat D) (hok : hr_ok n A) (ht : 0 ≤ A 35 ∧ A 35 ≤ 1073741824) : ∃ m1, z_R 238 (m, 0, [(2, 251), (9, 0), (9, 0), (9, 0), (9, 0), (9, 0)], []) = some (m1, some (0, o_bud w h n heat price cs D A (o_ls A n 0) (-1) (-1))) ∧ R_is w h n heat price D A c U kn KS cs m1 := by
  have hu := R_upn (p0 := 251) (k0 := 39) (v := 0) (R_upn (p0 := 251) (k0 := 11) (v := 0) hi (by decide)) (by decide)
  have g0 : (z_up (z_up m 251 11 0) 251 39 0) 251 39 = ((0 : Nat) : Int) := zu_self
  rw [b_tbu_0, b_fl_0]
  generalize z_up (z_up m 251 11 0) 251 39 0 = m0 at hu g0 ⊢
  obtain ⟨m1, a1, a2, a3, a4⟩ := R_fl1 hN.1.2.2 n 0 0 m0 (by omega) (Nat.le_refl _) hu g0
  have a1 : z_R 228 (m0, 7, [(2, 251), (0, 0)], []) = some (m1, none) := a1
  rw [Nat.zero_add] at a2
  have hR1 : R_is w h n heat price D A c U kn KS cs m1 := R_fr hu fun p k hk => by
    have hk' := hk
    unfold R_hit at hk'
    have hk' := of_decide_eq_true hk'
    exact a4 p k (by omega) (by omega)
  have hlen := o_ls_len (A := A) n 0
  have h5 := hN.1.2.2
  rw [a1, zb_n, b_tbu_9, a2]
  generalize hL : o_ls A n 0 = L at a2 a3 hlen ⊢
  cases L with
  | nil =>
    have e : o_bud w h n heat price cs D A [] (-1) (-1) = -2 := if_pos rfl
    rw [if_pos (show ((([] : List Nat).length : Nat) : Int) = 0 from rfl), e]
    exact ⟨m1, rfl, hR1⟩
  | cons p l =>
    have hS := o_S_nn (w := w) (h := h) (n := n) (heat := heat) (price := price) (cs := cs) (D := D) (A := A) (p := p)
    have e0 : o_bu (o_S w h n heat price cs D A) (p :: l) (-1) (-1) = o_bu (o_S w h n heat price cs D A) l (p : Int) (o_S w h n heat price cs D A p) := if_pos (by omega)
    have e1 := o_bu_nn (S := o_S w h n heat price cs D A) l (p : Int) (o_S w h n heat price cs D A p) (by omega)
    have e : o_bud w h n heat price cs D A (p :: l) (-1) (-1) = o_bu (o_S w h n heat price cs D A) (p :: l) (-1) (-1) := if_neg (by rw [e0]; omega)
    obtain ⟨m2, b1, b2, b3⟩ := R_lt hR1
    have f2 : ∀ q j, ¬ (q = 264) → m2 q j = m1 q j := fun q j hq => by
      obtain ⟨m2', d1, -, d3⟩ := t_layd (a := 252) (q := 264) (B := 0) t_lay264_0 t_lay264_2 (by decide) (b := 0) (by decide) m1
      have d1 : z_R 198 (m1, 0, [(2, 252), (2, 264), (0, 0), (9, 0)], []) = some (m2', none) := d1
      have e : z_R 219 (m1, 0, [(2, 251)], []) = some (m2', none) := by rw [q_lt_0, d1, zb_n, q_lt_12]
      rw [b1] at e
      have e := congrArg Prod.fst (Option.some.inj e)
      have e : m2 = m2' := e
      rw [e]
      exact d3 q j (fun z => hq z.1)
    have hv := R_ice (w := w) (h := h) (n := n) b2.1.1 b2.1.2.1 b2.2.2.1 9 0 0 (by decide) (by decide +kernel)
    have hv : z_R 222 (m2, 4, [(2, 251), (0, 0), (0, 0)], []) = some (m2, some (0, s_F w h A)) := hv
    obtain ⟨m3, c1, c2⟩ := R_sta1 (F := s_F w h A) (N := 100) (by decide) hN 100 0 m2 A (by decide) b2 b3 hok ht.1 (by omega)
    have c1 : z_R 221 (m2, 7, [(2, 251), (0, 100), (0, s_F w h A), (0, 0)], []) = some (m3, some (0, s_sta w h n heat price cs D (s_F w h A) 100 100 0 A)) := c1
    have c3 : z_R 221 (m2, 0, [(2, 251), (0, 100), (9, 0), (9, 0)], []) = some (m3, some (0, s_sta w h n heat price cs D (s_F w h A) 100 100 0 A)) := by rw [q_sta_0, q_ice_0, hv, zb_v, q_sta_4, c1]
    have hR3 := R_off264 b2 c2
    have f3 : ∀ j, m3 265 j = m1 265 j := fun j => (c2.of (by (repeat' (first | exact trivial | refine z_of_c ?_ ?_)) <;> omega)).trans (f2 265 j (by decide))
    have g39 : m3 251 39 = (((p :: l).length : Nat) : Int) := by rw [c2.of (p := 251) (k := 39) (by (repeat' (first | exact trivial | refine z_of_c ?_ ?_)) <;> omega), f2 251 39 (by decide), a2]
    obtain ⟨m4, d1, d2⟩ := R_bur1 (x1 := s_sta w h n heat price cs D (s_F w h A) 100 100 0 A) hN hok ht (p :: l) 0 (-1) (-1) (9, 0) m3 (by omega) (fun q hq => by have := hlen.2 q hq; omega) hR3 (by rw [Nat.zero_add]; exact g39) (o_hl_fr (p :: l) 0 a3 f3)
    have d1 : z_R 238 (m3, 37, [(2, 251), (0, s_sta w h n heat price cs D (s_F w h A) 100 100 0 A), (0, -1), (0, -1), (0, 0), (9, 0)], []) = some (m4, some (0, o_bu (o_S w h n heat price cs D A) (p :: l) (-1) (-1))) := d1
    have hn0 : ¬ (((p :: l).length : Nat) : Int) = 0 := by
      show ¬ ((l.length + 1 : Nat) : Int) = 0
      omega
    rw [if_neg hn0, b1, zb_n, b_tbu_23, c3, zb_v, b_tbu_29, d1, e]
    exact ⟨m4, rfl, d2⟩
end
theorem core_burden : l_rel2 Rel_C (855, 128, 115, 0, true, 859, 131, 238) := by
  intro M1 M2 M3 σ σ1 σ2 as v1 v2 C1 C2 ρ1 ρ2 ha hR hh hM1 hC1 hp1 hE1 hC2 hp2 hE2
  obtain rfl := as_nil ha
  have hE1 : z_R 115 (z_m σ, 0, [(2, 0), (9, 0), (9, 0), (9, 0), (9, 0)], []) = some (z_m σ1, some (0, v1.toInt)) := z_R_iff.mpr hE1
  have hE2 : z_R 238 (z_m σ1, 0, [(2, 251), (9, 0), (9, 0), (9, 0), (9, 0), (9, 0)], []) = some (z_m σ2, some (0, v2.toInt)) := z_R_iff.mpr hE2
  have hT := T_two (y1 := 115) (y2 := 238) (by decide +kernel) (by decide +kernel) hC1 hC2 hp1 hp2 hR.1
  obtain ⟨w, h, n, heat, price, D, A, c, U, kn, KS, cs, cC, cR, cW⟩ := hR.2
  obtain ⟨b1, b2, -, -, hok, b35, -, b7⟩ := core_b hh hM1 cR
  have hN : w_N w h n heat D := ⟨b1, b2, b7⟩
  have kk := core_24 hh
  have f1 := R_off2_ok (y := 115) (by decide +kernel) hC1 hp1
  have f2 := C_off_ok (y := 238) (by decide +kernel) hC2 hp2
  have cR1 := R_fr cR f1
  have z := core_do cR1 (fun q => C_fr q f2) (C_burden cC hN hok b35 kk.1 kk.2) (fun q => R_burden q hN hok b35) hE1 hE2
  exact ⟨⟨hT, Core_mk z.1.1 z.1.2 cW⟩, fun _ => z.2⟩
end
section
/-! WHAT IS KEPT: both texts alike, and both are in one and the same -/
def Rel_0 (σ : m_H) : Prop := Rel_C σ
theorem rel_start : ∀ σ, xs_is σ → Rel_0 σ := core_start
theorem rel_off {c : l_C} (h : ((core_offb c.2.2.1 && core_offb c.2.2.2.2.2.2.2) && (rel_offb c.2.2.1 && (rel_offb c.2.2.2.2.2.2.2 && !c.2.2.2.2.1))) = true) : l_rel2 Rel_0 c := by
  obtain ⟨h1, h2⟩ := Bool.and_eq_true _ _ |>.mp h
  exact core_q (R_off h2) h1
theorem rel_sign : l_rel2 Rel_0 (219, 26, 14, 1, false, 230, 30, 160) := core_q R_sign (by decide +kernel)
theorem rel_end : l_rel2 Rel_0 (244, 31, 16, 1, false, 255, 35, 161) := core_q R_end (by decide +kernel)
theorem rel_quiet : l_rel2 Rel_0 (836, 124, 110, 1, false, 847, 127, 233) := core_quiet rfl
theorem rel_cases : ∀ c ∈ law_cs, l_rel2 Rel_0 c := by
  unfold law_cs
  refine List.forall_mem_cons.mpr ⟨rel_sign, ?_⟩
  refine List.forall_mem_cons.mpr ⟨rel_end, ?_⟩
  refine List.forall_mem_cons.mpr ⟨core_house, ?_⟩
  refine List.forall_mem_cons.mpr ⟨core_people, ?_⟩
  refine List.forall_mem_cons.mpr ⟨core_rule, ?_⟩
  refine List.forall_mem_cons.mpr ⟨core_set, ?_⟩
  refine List.forall_mem_cons.mpr ⟨core_doing, ?_⟩
  refine List.forall_mem_cons.mpr ⟨core_sheet, ?_⟩
  refine List.forall_mem_cons.mpr ⟨core_move, ?_⟩
  refine List.forall_mem_cons.mpr ⟨core_stove, ?_⟩
  refine List.forall_mem_cons.mpr ⟨core_hour, ?_⟩
  refine List.forall_mem_cons.mpr ⟨core_hours, ?_⟩
  refine List.forall_mem_cons.mpr ⟨core_pay, ?_⟩
  refine List.forall_mem_cons.mpr ⟨core_winter, ?_⟩
  refine List.forall_mem_cons.mpr ⟨core_undo, ?_⟩
  refine List.forall_mem_cons.mpr ⟨rel_off (by decide +kernel), ?_⟩
  refine List.forall_mem_cons.mpr ⟨rel_off (by decide +kernel), ?_⟩
  refine List.forall_mem_cons.mpr ⟨rel_off (by decide +kernel), ?_⟩
  refine List.forall_mem_cons.mpr ⟨rel_off (by decide +kernel), ?_⟩
  refine List.forall_mem_cons.mpr ⟨rel_off (by decide +kernel), ?_⟩
  refine List.forall_mem_cons.mpr ⟨rel_off (by decide +kernel), ?_⟩
  refine List.forall_mem_cons.mpr ⟨rel_quiet, ?_⟩
  refine List.forall_mem_cons.mpr ⟨core_burden, ?_⟩
  refine List.forall_mem_cons.mpr ⟨rel_off (by decide +kernel), ?_⟩
  refine List.forall_mem_cons.mpr ⟨rel_off (by decide +kernel), ?_⟩
  refine List.forall_mem_cons.mpr ⟨rel_off (by decide +kernel), ?_⟩
  refine List.forall_mem_cons.mpr ⟨rel_off (by decide +kernel), ?_⟩
  refine List.forall_mem_cons.mpr ⟨rel_off (by decide +kernel), ?_⟩
  refine List.forall_mem_cons.mpr ⟨rel_off (by decide +kernel), ?_⟩
  refine List.forall_mem_cons.mpr ⟨rel_off (by decide +kernel), ?_⟩
  refine List.forall_mem_cons.mpr ⟨rel_off (by decide +kernel), ?_⟩
  refine List.forall_mem_cons.mpr ⟨rel_off (by decide +kernel), ?_⟩
  refine List.forall_mem_cons.mpr ⟨rel_off (by decide +kernel), ?_⟩
  refine List.forall_mem_cons.mpr ⟨core_season, ?_⟩
  refine List.forall_mem_cons.mpr ⟨core_keep, ?_⟩
  refine List.forall_mem_cons.mpr ⟨core_again, ?_⟩
  refine List.forall_mem_cons.mpr ⟨rel_off (by decide +kernel), ?_⟩
  exact fun _ h => absurd h List.not_mem_nil
theorem rel_5 : l_rel3 Rel_0 181 2 := core_q3 (R3_off (by decide +kernel)) (by decide +kernel)
theorem rel_6 : l_rel3 Rel_0 190 2 := core_q3 (R3_off (by decide +kernel)) (by decide +kernel)
theorem rel_39 : l_rel3 Rel_0 261 1 := core_q3 (R3_off (by decide +kernel)) (by decide +kernel)
end
